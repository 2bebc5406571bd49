/-! the reference's small readers -/
def gp_ss (k : Nat) : Nat := if k = 9 ∨ k = 13 ∨ k = 14 then 1 else 0
section
variable {f_dLim f_rLim f_fLim f_n f_stat f_err f_out f_vInt f_recs f_drf f_fsp : Int32} {a_kind a_arg a_ch a_par a_pos a_seen a_st a_ty a_tyK a_tyG a_tyA a_tyB a_u a_bg a_ux a_uy a_stk a_eqA a_eqB a_rT a_rE a_rG a_rN a_rC a_rX a_fK a_fA a_fE : Nat → Int32}
theorem gy_ar {post : Int32 → Prop} {k : Nat} (h1 : 1 ≤ k) (h2 : k ≤ 17) (h : post (nI (gp_ar k))) : wpY_arity post (f_dLim, f_rLim, f_fLim, f_n, f_stat, f_err, f_out, f_vInt, f_recs, f_drf, f_fsp, a_kind, a_arg, a_ch, a_par, a_pos, a_seen, a_st, a_ty, a_tyK, a_tyG, a_tyA, a_tyB, a_u, a_bg, a_ux, a_uy, a_stk, a_eqA, a_eqB, a_rT, a_rE, a_rG, a_rN, a_rC, a_rX, a_fK, a_fA, a_fE) (nI k) := by
  revert h
  refine gx_k17 (P := fun k => post (nI (gp_ar k)) → wpY_arity post (f_dLim, f_rLim, f_fLim, f_n, f_stat, f_err, f_out, f_vInt, f_recs, f_drf, f_fsp, a_kind, a_arg, a_ch, a_par, a_pos, a_seen, a_st, a_ty, a_tyK, a_tyG, a_tyA, a_tyB, a_u, a_bg, a_ux, a_uy, a_stk, a_eqA, a_eqB, a_rT, a_rE, a_rG, a_rN, a_rC, a_rX, a_fK, a_fA, a_fE) (nI k)) ?_ h1 h2
  refine ⟨?_, ?_, ?_, ?_, ?_, ?_, ?_, ?_, ?_, ?_, ?_, ?_, ?_, ?_, ?_, ?_, ?_⟩ <;> (intro h; unfold wpY_arity; dsimp only; repeat (first | exact h | exact br_t (by decide) h | refine br_f (by decide) ?_))
theorem gy_ss {post : Int32 → Prop} {k : Nat} (h1 : 1 ≤ k) (h2 : k ≤ 17) (h : post (nI (gp_ss k))) : wpY_startSlot post (f_dLim, f_rLim, f_fLim, f_n, f_stat, f_err, f_out, f_vInt, f_recs, f_drf, f_fsp, a_kind, a_arg, a_ch, a_par, a_pos, a_seen, a_st, a_ty, a_tyK, a_tyG, a_tyA, a_tyB, a_u, a_bg, a_ux, a_uy, a_stk, a_eqA, a_eqB, a_rT, a_rE, a_rG, a_rN, a_rC, a_rX, a_fK, a_fA, a_fE) (nI k) := by
  revert h
  refine gx_k17 (P := fun k => post (nI (gp_ss k)) → wpY_startSlot post (f_dLim, f_rLim, f_fLim, f_n, f_stat, f_err, f_out, f_vInt, f_recs, f_drf, f_fsp, a_kind, a_arg, a_ch, a_par, a_pos, a_seen, a_st, a_ty, a_tyK, a_tyG, a_tyA, a_tyB, a_u, a_bg, a_ux, a_uy, a_stk, a_eqA, a_eqB, a_rT, a_rE, a_rG, a_rN, a_rC, a_rX, a_fK, a_fA, a_fE) (nI k)) ?_ h1 h2
  refine ⟨?_, ?_, ?_, ?_, ?_, ?_, ?_, ?_, ?_, ?_, ?_, ?_, ?_, ?_, ?_, ?_, ?_⟩ <;> (intro h; unfold wpY_startSlot; dsimp only; repeat (first | exact h | exact br_t (by decide) h | refine br_f (by decide) ?_))
theorem gy_cs {post : Int32 → Prop} {k j : Nat} (h1 : 1 ≤ k) (h2 : k ≤ 17) (hj : j ≤ 2) (h : post (nI (gp_cs k j))) : wpY_childSort post (f_dLim, f_rLim, f_fLim, f_n, f_stat, f_err, f_out, f_vInt, f_recs, f_drf, f_fsp, a_kind, a_arg, a_ch, a_par, a_pos, a_seen, a_st, a_ty, a_tyK, a_tyG, a_tyA, a_tyB, a_u, a_bg, a_ux, a_uy, a_stk, a_eqA, a_eqB, a_rT, a_rE, a_rG, a_rN, a_rC, a_rX, a_fK, a_fA, a_fE) (nI k) (nI j) := by
  have hz : j = 0 ∨ j = 1 ∨ j = 2 := by omega
  revert h
  refine gx_k17 (P := fun k => post (nI (gp_cs k j)) → wpY_childSort post (f_dLim, f_rLim, f_fLim, f_n, f_stat, f_err, f_out, f_vInt, f_recs, f_drf, f_fsp, a_kind, a_arg, a_ch, a_par, a_pos, a_seen, a_st, a_ty, a_tyK, a_tyG, a_tyA, a_tyB, a_u, a_bg, a_ux, a_uy, a_stk, a_eqA, a_eqB, a_rT, a_rE, a_rG, a_rN, a_rC, a_rX, a_fK, a_fA, a_fE) (nI k) (nI j)) ?_ h1 h2
  rcases hz with e | e | e <;> subst e <;> refine ⟨?_, ?_, ?_, ?_, ?_, ?_, ?_, ?_, ?_, ?_, ?_, ?_, ?_, ?_, ?_, ?_, ?_⟩ <;> (intro h; unfold wpY_childSort; dsimp only; repeat (first | exact h | (unfold wY_childSort_25) | exact br_t (by decide) h | refine br_f (by decide) ?_ | refine br_t (by decide) ?_))
theorem gy_bd {post : Int32 → Prop} {k j : Nat} (h1 : 1 ≤ k) (h2 : k ≤ 17) (hj : j < gp_ar k) (h : post (nI (gp_bd k j))) : wpY_binds post (f_dLim, f_rLim, f_fLim, f_n, f_stat, f_err, f_out, f_vInt, f_recs, f_drf, f_fsp, a_kind, a_arg, a_ch, a_par, a_pos, a_seen, a_st, a_ty, a_tyK, a_tyG, a_tyA, a_tyB, a_u, a_bg, a_ux, a_uy, a_stk, a_eqA, a_eqB, a_rT, a_rE, a_rG, a_rN, a_rC, a_rX, a_fK, a_fA, a_fE) (nI k) (nI j) := by
  have a3 := gp_ar_le k
  have hz : j = 0 ∨ j = 1 ∨ j = 2 := by omega
  revert h hj
  refine gx_k17 (P := fun k => j < gp_ar k → post (nI (gp_bd k j)) → wpY_binds post (f_dLim, f_rLim, f_fLim, f_n, f_stat, f_err, f_out, f_vInt, f_recs, f_drf, f_fsp, a_kind, a_arg, a_ch, a_par, a_pos, a_seen, a_st, a_ty, a_tyK, a_tyG, a_tyA, a_tyB, a_u, a_bg, a_ux, a_uy, a_stk, a_eqA, a_eqB, a_rT, a_rE, a_rG, a_rN, a_rC, a_rX, a_fK, a_fA, a_fE) (nI k) (nI j)) ?_ h1 h2
  rcases hz with e | e | e <;> subst e <;> refine ⟨?_, ?_, ?_, ?_, ?_, ?_, ?_, ?_, ?_, ?_, ?_, ?_, ?_, ?_, ?_, ?_, ?_⟩ <;> (intro hj h; first | exact absurd hj (by decide) | (unfold wpY_binds; dsimp only; repeat (first | exact h | (unfold wY_binds_12) | exact br_t (by decide) h | refine br_f (by decide) ?_ | refine br_t (by decide) ?_)))
theorem gy_se_l {post : Int32 → Prop} {kd : Nat → Nat} {n : Nat} (hn : n ≤ 32) (hK : ∀ i, i < n → a_kind i = nI (kd i) ∧ 1 ≤ kd i ∧ kd i ≤ 17) :
    ∀ f need m fuel, m + f = n → 1 ≤ need → need ≤ 100 + 2 * m → f < fuel → post (nI (gp_se kd f need m)) → wY_subEnd_4 post f_dLim f_rLim f_fLim (nI n) f_stat f_err f_out f_vInt f_recs f_drf f_fsp a_kind a_arg a_ch a_par a_pos a_seen a_st a_ty a_tyK a_tyG a_tyA a_tyB a_u a_bg a_ux a_uy a_stk a_eqA a_eqB a_rT a_rE a_rG a_rN a_rC a_rX a_fK a_fA a_fE fuel (nI need) (nI m)
  | _, _, _, 0, _, _, _, hf, _ => by omega
  | 0, need, m, fuel + 1, hm, h1, h2, hf, h => by
    have e : m = n := by omega
    subst e
    exact br_t (nI_le (Nat.le_refl _) (by omega)) h
  | f + 1, need, m, fuel + 1, hm, h1, h2, hf, h => by
    obtain ⟨k0, k1, k2⟩ := hK m (by omega)
    have a3 := gp_ar_le (kd m)
    refine br_f (nI_ge (by omega) (by omega)) ⟨vp_in_nI (by omega) (by decide), ?_⟩
    rw [nI_clamp (show m < 2 ^ 31 by omega), k0]
    refine gy_ar k1 k2 ?_
    have e : nI need + (nI (gp_ar (kd m)) - 1) = nI (need + gp_ar (kd m) - 1) := by
      rw [Int32.sub_eq_add_neg, ← Int32.add_assoc, nI_add, ← Int32.sub_eq_add_neg]
      exact pk_sub (b := 1) (by omega)
    unfold gp_se at h
    refine nm_r e (pk_eq (need + gp_ar (kd m) - 1) 0 (fun z => ?_) (fun z => nm_r (nI_1 m) ?_))
    · rw [if_pos (by omega)] at h
      rw [nI_1]
      exact h
    · rw [if_neg (by omega)] at h
      exact gy_se_l hn hK f _ (m + 1) fuel (by omega) (by omega) (by omega) (by omega) h
theorem gy_se {post : Int32 → Prop} {kd : Nat → Nat} {n c : Nat} (hn : n ≤ 32) (hK : ∀ i, i < n → a_kind i = nI (kd i) ∧ 1 ≤ kd i ∧ kd i ≤ 17) (hc : c ≤ n) (h : post (nI (gp_en kd n c))) : wpY_subEnd post (f_dLim, f_rLim, f_fLim, nI n, f_stat, f_err, f_out, f_vInt, f_recs, f_drf, f_fsp, a_kind, a_arg, a_ch, a_par, a_pos, a_seen, a_st, a_ty, a_tyK, a_tyG, a_tyA, a_tyB, a_u, a_bg, a_ux, a_uy, a_stk, a_eqA, a_eqB, a_rT, a_rE, a_rG, a_rN, a_rC, a_rX, a_fK, a_fA, a_fE) (nI c) :=
  ⟨n - c + 1, gy_se_l hn hK (n - c) 1 c (n - c + 1) (by omega) (by omega) (by omega) (by omega) h⟩
/-! shape -/
end
def gy_sr (kd : Nat → Nat) (p : Nat) : Nat := if p = 96 then 1 else gp_cs (kd (p / 3)) (p % 3)
def gy_sl (kd : Nat → Nat) (l : List Nat) : List Nat := l.map (gy_sr kd)
theorem gy_sl_c (kd : Nat → Nat) (p : Nat) (l : List Nat) : gy_sl kd (p :: l) = gy_sr kd p :: gy_sl kd l := rfl
theorem gy_sl_len (kd : Nat → Nat) (l : List Nat) : (gy_sl kd l).length = l.length := by unfold gy_sl; exact List.length_map _
theorem gy_so {kd : Nat → Nat} {i p : Nat} : gx_so kd i p ↔ gp_srt (kd i) = gy_sr kd p := by
  unfold gx_so gy_sr
  by_cases h : p = 96
  · rw [if_pos h, if_pos h]
  · rw [if_neg h, if_neg h]
theorem gy_sr_01 (kd : Nat → Nat) (p : Nat) : gy_sr kd p ≤ 1 := by
  unfold gy_sr
  split
  · omega
  · exact gp_cs_01 _ _
section
variable {f_dLim f_rLim f_fLim f_n f_stat f_err f_out f_vInt f_recs f_drf f_fsp : Int32} {a_kind a_arg a_ch a_par a_pos a_seen a_st a_ty a_tyK a_tyG a_tyA a_tyB a_u a_bg a_ux a_uy a_stk a_eqA a_eqB a_rT a_rE a_rG a_rN a_rC a_rX a_fK a_fA a_fE : Nat → Int32}
theorem gy_push {post : Int32 → SY → Prop} {J : Int32 → Int32 → (Nat → Int32) → (Nat → Int32) → (Nat → Int32) → (Nat → Int32) → (Nat → Int32) → (Nat → Int32) → (Nat → Int32) → (Nat → Int32) → (Nat → Int32) → (Nat → Int32) → (Nat → Int32) → (Nat → Int32) → (Nat → Int32) → (Nat → Int32) → (Nat → Int32) → (Nat → Int32) → (Nat → Int32) → (Nat → Int32) → (Nat → Int32) → (Nat → Int32) → (Nat → Int32) → (Nat → Int32) → (Nat → Int32) → (Nat → Int32) → (Nat → Int32) → (Nat → Int32) → (Nat → Int32) → (Nat → Int32) → Prop} {kd : Nat → Nat} {i : Nat} {R : List Nat} (hi : i < 32) (hk : a_kind i = nI (kd i) ∧ 1 ≤ kd i ∧ kd i ≤ 17) : ∀ s m fuel (st : Nat → Int32), s ≤ 3 → s < fuel → R.length + m + s ≤ 65 → gx_stk st (gy_sl kd (gp_kf i s m ++ R)) →
    (∀ st', gx_stk st' (gy_sl kd (gp_kf i 0 (m + s) ++ R)) → J (nI (R.length + m + s)) (nI (i + 1)) a_kind a_arg a_ch a_par a_pos a_seen a_st a_ty a_tyK a_tyG a_tyA a_tyB a_u a_bg a_ux a_uy st' a_eqA a_eqB a_rT a_rE a_rG a_rN a_rC a_rX a_fK a_fA a_fE) →
    wY_doCheck_80 post J (nI i) f_dLim f_rLim f_fLim f_n f_stat f_err f_out f_vInt f_recs f_drf f_fsp fuel (nI (R.length + m)) (nI s - 1) a_kind a_arg a_ch a_par a_pos a_seen a_st a_ty a_tyK a_tyG a_tyA a_tyB a_u a_bg a_ux a_uy st a_eqA a_eqB a_rT a_rE a_rG a_rN a_rC a_rX a_fK a_fA a_fE
  | 0, m, 0, _, _, hf, _, _, _ => by omega
  | 0, m, fuel + 1, st, _, hf, hl, hs, h => br_t (by decide) (nm_r (nI_1 i) (h st hs))
  | s + 1, m, 0, _, _, hf, _, _, _ => by omega
  | s + 1, m, fuel + 1, st, h3, hf, hl, hs, h => by
    have hlen : (gy_sl kd (gp_kf i (s + 1) m ++ R)).length = R.length + m := by rw [gy_sl_len, List.length_append, gp_kf_len]; omega
    have e1 : gy_sr kd (3 * i + s) = gp_cs (kd i) s := by
      unfold gy_sr
      rw [if_neg (by omega), show (3 * i + s) / 3 = i by omega, show (3 * i + s) % 3 = s by omega]
    rw [nI_pred]
    refine br_f (nI_pos (by omega)) (pk_le 80 (R.length + m) (fun z => by omega) (fun z => ⟨vp_in_nI hi (by decide), ?_⟩))
    rw [nI_clamp (show i < 2 ^ 31 by omega), hk.1]
    refine gy_cs hk.2.1 hk.2.2 (by omega) ?_
    rw [nI_clamp (show R.length + m < 2 ^ 31 by omega), ← e1]
    refine ⟨vp_in_nI (by omega) (by decide), nm_e (nm_r (nI_1 _) (nm_e ?_))⟩
    have IH := gy_push (post := post) (J := J) (R := R) hi hk s (m + 1) fuel (upd st (R.length + m) (nI (gy_sr kd (3 * i + s)))) (by omega) (by omega) (by omega)
      (gx_stk_push (q := gy_sr kd (3 * i + s)) hlen.symm hs) (by
        rw [show m + 1 + s = m + (s + 1) by omega, show R.length + (m + 1) + s = R.length + m + (s + 1) by omega]; exact h)
    rw [Int32.sub_eq_add_neg] at IH
    exact IH
theorem gy_syn {post : Int32 → SY → Prop} {kd : Nat → Nat} {n : Nat} (hn : n ≤ 32) (hK : ∀ i, i < n → a_kind i = nI (kd i) ∧ 1 ≤ kd i ∧ kd i ≤ 17)
    (hOK : gc_sok kd n → ∀ st, ∃ f, wY_doCheck_140 post f_dLim f_rLim f_fLim (nI n) f_stat f_err f_out f_vInt f_recs f_drf f_fsp f 0 a_kind a_arg a_ch a_par a_pos a_seen a_st a_ty a_tyK a_tyG a_tyA a_tyB a_u a_bg a_ux a_uy st a_eqA a_eqB a_rT a_rE a_rG a_rN a_rC a_rX a_fK a_fA a_fE)
    (hF : ∀ m, gc_syn kd n m → ∀ st, post 2 (f_dLim, f_rLim, f_fLim, nI n, f_stat, nI m, f_out, f_vInt, f_recs, f_drf, f_fsp, a_kind, a_arg, a_ch, a_par, a_pos, a_seen, a_st, a_ty, a_tyK, a_tyG, a_tyA, a_tyB, a_u, a_bg, a_ux, a_uy, st, a_eqA, a_eqB, a_rT, a_rE, a_rG, a_rN, a_rC, a_rX, a_fK, a_fA, a_fE)) :
    ∀ d i fuel (st : Nat → Int32), i + d = n → d < fuel → gx_stk st (gy_sl kd (gp_S kd i)) → (∀ i', i' < i → ¬ gx_bad kd i') →
      wY_doCheck_11 post f_dLim f_rLim f_fLim (nI n) f_stat f_err f_out f_vInt f_recs f_drf f_fsp fuel (nI (gp_S kd i).length) (nI i) a_kind a_arg a_ch a_par a_pos a_seen a_st a_ty a_tyK a_tyG a_tyA a_tyB a_u a_bg a_ux a_uy st a_eqA a_eqB a_rT a_rE a_rG a_rN a_rC a_rX a_fK a_fA a_fE
  | _, _, 0, _, _, hf, _, _ => by omega
  | 0, i, fuel + 1, st, hi, hf, hs, hb => by
    have e : i = n := by omega
    subst e
    have hl := gp_S_len kd i
    refine br_t (nI_le (Nat.le_refl _) (by omega)) (pk_le (gp_S kd i).length 0 (fun z => ?_) (fun z => ?_))
    · exact hOK ⟨hb, List.length_eq_zero_iff.mp (by omega)⟩ st
    · exact hF i ⟨Or.inr ⟨rfl, fun y => by rw [y] at z; exact absurd z (by decide)⟩, hb⟩ st
  | d + 1, i, fuel + 1, st, hi, hf, hs, hb => by
    have hin : i < n := by omega
    have hl := gp_S_len kd i
    obtain ⟨k0, k1, k2⟩ := hK i hin
    refine br_f (nI_ge hin (by omega)) ?_
    cases hS : gp_S kd i with
    | nil => exact br_t rfl (hF i ⟨Or.inl ⟨hin, Or.inl hS⟩, hb⟩ st)
    | cons p R =>
      rw [hS, gy_sl_c] at hs
      rw [hS] at hl
      simp only [List.length_cons] at hl ⊢
      have hpl : gp_pl kd i = p := by unfold gp_pl; rw [hS]; rfl
      have hs1 := hs.1
      rw [gy_sl_len] at hs1
      have a3 := gp_ar_le (kd i)
      refine br_f (nI_ne0 (by omega) (by omega)) (nm_r (pk_m1 _) ⟨vp_in_nI (by omega) (by decide), ?_⟩)
      rw [nI_clamp (show i < 2 ^ 31 by omega), k0]
      have go : ∀ z0 : Int32, z0 = nI (gp_srt (kd i)) → wY_doCheck_48 post (wY_doCheck_11 post f_dLim f_rLim f_fLim (nI n) f_stat f_err f_out f_vInt f_recs f_drf f_fsp fuel) (nI R.length) (nI i) z0 f_dLim f_rLim f_fLim (nI n) f_stat f_err f_out f_vInt f_recs f_drf f_fsp a_kind a_arg a_ch a_par a_pos a_seen a_st a_ty a_tyK a_tyG a_tyA a_tyB a_u a_bg a_ux a_uy st a_eqA a_eqB a_rT a_rE a_rG a_rN a_rC a_rX a_fK a_fA a_fE := by
        intro z0 ez
        unfold wY_doCheck_48
        rw [ez, nI_clamp (show R.length < 2 ^ 31 by omega), hs1, nI_clamp (show i < 2 ^ 31 by omega), k0]
        have s1 := gp_srt_01 (kd i)
        have s2 := gy_sr_01 kd p
        refine ⟨vp_in_nI (by omega) (by decide), pk_eq (gp_srt (kd i)) (gy_sr kd p) (fun so => ⟨vp_in_nI (by omega) (by decide), gy_ar k1 k2 (nm_e ⟨gp_ar (kd i) + 1, ?_⟩)⟩) (fun nso => ?_)⟩
        · refine gy_push (R := R) (kd := kd) (by omega) ⟨k0, k1, k2⟩ (gp_ar (kd i)) 0 (gp_ar (kd i) + 1) st a3 (by omega) ?_ hs.2 (fun st' hs' => ?_)
          · have := gp_S_len kd (i + 1)
            rw [gp_S_s, hS, List.length_append, gp_kf_len] at this
            simp only [List.tail_cons] at this
            omega
          · have hS' : gp_S kd (i + 1) = gp_kf i 0 (gp_ar (kd i)) ++ R := by rw [gp_S_s, hS]; rfl
            have IH := gy_syn hn hK hOK hF d (i + 1) fuel st' (by omega) (by omega)
              (by rw [hS']; rw [Nat.zero_add] at hs'; exact hs')
              (fun i' hi' => by
                rcases Nat.lt_or_ge i' i with z | z
                · exact hb i' z
                · have e : i' = i := by omega
                  subst e
                  intro y
                  rcases y with y | y
                  · rw [hS] at y; exact absurd y (List.cons_ne_nil _ _)
                  · rw [hpl] at y; exact y (gy_so.mpr so))
            rw [hS', List.length_append, gp_kf_len] at IH
            rw [show R.length + 0 + gp_ar (kd i) = gp_ar (kd i) + R.length by omega]
            exact IH
        · exact hF i ⟨Or.inl ⟨hin, Or.inr (by rw [hpl]; exact fun y => nso (gy_so.mp y))⟩, hb⟩ st
      refine pk_lt 5 (kd i) (fun z => go 1 ?_) (fun z => go 0 ?_)
      · unfold gp_srt; rw [if_neg (by omega)]; rfl
      · unfold gp_srt; rw [if_pos z]; rfl
end

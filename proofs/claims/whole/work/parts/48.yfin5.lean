section
variable {f_dLim f_rLim f_fLim f_n f_stat f_err f_out f_vInt f_recs f_drf f_fsp : Int32} {a_kind a_arg a_ch a_par a_pos a_seen a_st a_ty a_tyK a_tyG a_tyA a_tyB a_u a_bg a_ux a_uy a_stk a_eqA a_eqB a_rT a_rE a_rG a_rN a_rC a_rX a_fK a_fA a_fE : Nat → Int32}
theorem gy_zero {post : Int32 → SY → Prop} {t : Nat} {us : Nat → Int32} {x2 x3 x4 x5 x6 x7 : Int32} (ht : t < 32) (h : ∀ fuel, wY_finish_97 post (nI t) x2 x3 x4 x5 x6 x7 f_dLim f_rLim f_fLim f_n f_stat f_err f_out f_vInt f_recs f_drf f_fsp (fuel + 1) (nI 32) a_kind a_arg a_ch a_par a_pos a_seen a_st a_ty a_tyK a_tyG a_tyA a_tyB (gx_row us t 32 (fun _ => 0)) a_bg a_ux a_uy a_stk a_eqA a_eqB a_rT a_rE a_rG a_rN a_rC a_rX a_fK a_fA a_fE) :
    ∀ d v fuel, v + d = 32 → d < fuel → wY_finish_97 post (nI t) x2 x3 x4 x5 x6 x7 f_dLim f_rLim f_fLim f_n f_stat f_err f_out f_vInt f_recs f_drf f_fsp fuel (nI v) a_kind a_arg a_ch a_par a_pos a_seen a_st a_ty a_tyK a_tyG a_tyA a_tyB (gx_row us t v (fun _ => 0)) a_bg a_ux a_uy a_stk a_eqA a_eqB a_rT a_rE a_rG a_rN a_rC a_rX a_fK a_fA a_fE
  | _, _, 0, _, hf => by omega
  | 0, v, fuel + 1, hv, hf => by
    have e : v = 32 := by omega
    subst e
    exact h fuel
  | d + 1, v, fuel + 1, hv, hf => by
    have IH := gy_zero (us := us) ht h d (v + 1) fuel (by omega) (by omega)
    refine br_f (nI_ge (b := 32) (by omega) (by decide)) ?_
    rw [gx_ix, nI_clamp (show t * 32 + v < 2 ^ 31 by omega)]
    exact ⟨vp_in_nI (by omega) (by decide), nm_r (gx_row_s us t v (fun _ => 0)) (nm_r (nI_1 v) IH)⟩
theorem gy_zero0 {post : Int32 → SY → Prop} {t : Nat} {us : Nat → Int32} {x2 x3 x4 x5 x6 x7 : Int32} (ht : t < 32) (h : ∀ fuel, wY_finish_97 post (nI t) x2 x3 x4 x5 x6 x7 f_dLim f_rLim f_fLim f_n f_stat f_err f_out f_vInt f_recs f_drf f_fsp (fuel + 1) (nI 32) a_kind a_arg a_ch a_par a_pos a_seen a_st a_ty a_tyK a_tyG a_tyA a_tyB (gx_row us t 32 (fun _ => 0)) a_bg a_ux a_uy a_stk a_eqA a_eqB a_rT a_rE a_rG a_rN a_rC a_rX a_fK a_fA a_fE) :
    wY_finish_97 post (nI t) x2 x3 x4 x5 x6 x7 f_dLim f_rLim f_fLim f_n f_stat f_err f_out f_vInt f_recs f_drf f_fsp 33 (nI 0) a_kind a_arg a_ch a_par a_pos a_seen a_st a_ty a_tyK a_tyG a_tyA a_tyB us a_bg a_ux a_uy a_stk a_eqA a_eqB a_rT a_rE a_rG a_rN a_rC a_rX a_fK a_fA a_fE := by
  have := gy_zero (us := us) ht h 32 0 33 (by omega) (by omega)
  rw [gx_row_0] at this
  exact this
theorem gy_fin {post : Int32 → SY → Prop} {kd : Nat → Nat} {n t : Nat} {P : Nat → Prop} (A : gt_P kd a_arg n) (S : gy_S kd n a_kind a_ch a_par a_pos a_seen) (I : gy_TI kd a_arg n P a_ty a_bg a_ux a_uy a_u (a_tyK, a_tyG, a_tyA, a_tyB)) (ht : t < n) (htk : ¬ kd t ≤ 5) (hc : ∀ j, j < gp_ar (kd t) → ¬ kd (gp_ch kd n t j) ≤ 5 → P (gp_ch kd n t j)) (hnP : ¬ P t)
    (hB : gy_HB kd a_arg n P t) (hfit : 1 < gp_ar (kd t) → gs_fit 32 (gs_F 32) (gt_t kd a_arg n (gp_ch kd n t 1))) (hOK : gt_e2 kd a_arg n t = 0 → ∀ ty bg ux uy u tK tG tA tB ea eb, gy_TI kd a_arg n (fun d => P d ∨ d = t) ty bg ux uy u (tK, tG, tA, tB) → post 1 (f_dLim, f_rLim, f_fLim, f_n, f_stat, f_err, f_out, f_vInt, f_recs, f_drf, f_fsp, a_kind, a_arg, a_ch, a_par, a_pos, a_seen, a_st, ty, tK, tG, tA, tB, u, bg, ux, uy, a_stk, ea, eb, a_rT, a_rE, a_rG, a_rN, a_rC, a_rX, a_fK, a_fA, a_fE)) (hF : ¬ gt_e2 kd a_arg n t = 0 → ∀ ty bg ux uy u tK tG tA tB ea eb, post (nI (gt_e2 kd a_arg n t)) (f_dLim, f_rLim, f_fLim, f_n, f_stat, f_err, f_out, f_vInt, f_recs, f_drf, f_fsp, a_kind, a_arg, a_ch, a_par, a_pos, a_seen, a_st, ty, tK, tG, tA, tB, u, bg, ux, uy, a_stk, ea, eb, a_rT, a_rE, a_rG, a_rN, a_rC, a_rX, a_fK, a_fA, a_fE)) : wpY_finish post (f_dLim, f_rLim, f_fLim, f_n, f_stat, f_err, f_out, f_vInt, f_recs, f_drf, f_fsp, a_kind, a_arg, a_ch, a_par, a_pos, a_seen, a_st, a_ty, a_tyK, a_tyG, a_tyA, a_tyB, a_u, a_bg, a_ux, a_uy, a_stk, a_eqA, a_eqB, a_rT, a_rE, a_rG, a_rN, a_rC, a_rX, a_fK, a_fA, a_fE) (nI t) := by
  have hA := A
  obtain ⟨ok, so, kr, -⟩ := A
  have hn := ok.2.1
  have t32 : t < 32 := by omega
  have v := vp_in_nI t32 (by decide)
  have v64 := vp_in_nI (show 32 + t < 64 by omega) (by decide)
  have et : (nI t).toNatClampNeg = t := nI_clamp (by omega)
  have k17 := (kr t ht).2
  have e3 : nI t * 3 = nI (3 * t) := by rw [show (nI t * 3 : Int32) = nI (t * 3) from pk_mul t 3, Nat.mul_comm]
  have e31 : nI (3 * t) + 1 = nI (3 * t + 1) := nI_1 _
  have e32 : nI (3 * t) + 2 = nI (3 * t + 2) := nI_add (3 * t) 2
  have ep : (32 : Int32) + nI t = nI (32 + t) := nI_add 32 t
  unfold wpY_finish
  try dsimp only
  rw [et, e3, e31, e32, nI_clamp (show 3 * t < 2 ^ 31 by omega), nI_clamp (show 3 * t + 1 < 2 ^ 31 by omega), nI_clamp (show 3 * t + 2 < 2 ^ 31 by omega), S.1 t ht]
  refine ⟨v, nm_e ⟨v, nm_e ⟨vp_in_nI (by omega) (by decide), nm_e ⟨vp_in_nI (by omega) (by decide), nm_e ⟨vp_in_nI (by omega) (by decide), nm_e (nm_r ep ⟨v64, ?_⟩)⟩⟩⟩⟩⟩
  rw [nI_clamp (show 32 + t < 2 ^ 31 by omega)]
  refine nm_e ⟨v64, nm_e ⟨v64, nm_e ⟨v64, nm_e ⟨v, nm_e ⟨33, ?_⟩⟩⟩⟩⟩
  have hT : ∀ x, x ≠ 32 + t → upd a_tyK (32 + t) 1 x = a_tyK x ∧ upd a_tyG (32 + t) 0 x = a_tyG x ∧ upd a_tyA (32 + t) 0 x = a_tyA x ∧ upd a_tyB (32 + t) 0 x = a_tyB x := fun x hx => ⟨pk_un hx, pk_un hx, pk_un hx, pk_un hx⟩
  have st := fun {x : Nat} (hx : gy_o kd n P x) => gy_st (T' := (upd a_tyK (32 + t) 1, upd a_tyG (32 + t) 0, upd a_tyA (32 + t) 0, upd a_tyB (32 + t) 0)) hn I hnP hT hx
  have ne : ∀ x, gy_o kd n P x → x ≠ 32 + t := by
    intro x hx
    rcases hx with hx | ⟨d, a, b, c, e⟩
    · omega
    · intro z
      have : d = t := by omega
      subst this
      exact hnP b
  have I' : gy_TI kd a_arg n P (upd a_ty t (nI (32 + t))) a_bg a_ux a_uy (gx_row a_u t 32 (fun _ => 0)) (upd a_tyK (32 + t) 1, upd a_tyG (32 + t) 0, upd a_tyA (32 + t) 0, upd a_tyB (32 + t) 0) := by
    refine ⟨fun y hy => ?_, fun i hi hk => ?_, fun d hd => ?_⟩
    · obtain ⟨t1, t2, t3, t4⟩ := hT y (ne y hy)
      have := I.1 y hy
      unfold gy_c at this ⊢
      dsimp only at this ⊢
      rw [t1, t3, t4]
      exact this
    · rw [st (Or.inl ⟨hi, hk⟩)]
      exact I.2.1 i hi hk
    · have nd : d ≠ t := fun z => by rw [z] at hd; exact hnP hd
      obtain ⟨a1, a2, ⟨y, y1, y2, y3⟩, a4, a5⟩ := I.2.2 d hd
      have sl := gp_sn_lt ok a1
      refine ⟨a1, a2, ⟨y, y1, by rw [pk_un nd]; exact y2, by rw [st y1]; exact y3⟩, fun w hw => ?_, a5⟩
      rw [gx_row_o (by omega) (by omega) nd]
      exact a4 w hw
  have hK1 : upd a_tyK (32 + t) 1 (32 + t) = 1 := pk_us
  have hG0 : upd a_tyG (32 + t) 0 (32 + t) = 0 := pk_us
  have ety : upd a_ty t (nI (32 + t)) t = nI (32 + t) := pk_us
  have eu : ∀ w, w < 32 → gx_row a_u t 32 (fun _ => 0) (t * 32 + w) = 0 := fun w hw => gx_row_in hw
  have ch0 : 0 < gp_ar (kd t) → a_ch (3 * t) = nI (gp_ch kd n t 0) := fun z => by have := S.2.2.2.1 t ht 0 z; rw [Nat.add_zero] at this; exact this
  have ch1 : 1 < gp_ar (kd t) → a_ch (3 * t + 1) = nI (gp_ch kd n t 1) := fun z => S.2.2.2.1 t ht 1 z
  have ch2 : 2 < gp_ar (kd t) → a_ch (3 * t + 2) = nI (gp_ch kd n t 2) := fun z => S.2.2.2.1 t ht 2 z
  refine gy_zero0 t32 (fun fuel => ?_)
  have hcase : kd t = 6 ∨ kd t = 7 ∨ kd t = 8 ∨ kd t = 9 ∨ kd t = 10 ∨ kd t = 11 ∨ kd t = 12 ∨ (kd t = 13 ∨ kd t = 14) ∨ kd t = 15 ∨ kd t = 16 ∨ kd t = 17 := by omega
  rcases hcase with e | e | e | e | e | e | e | e | e | e | e
  · rw [e]
    exact gy_fVar hA S I' ht hc hnP hK1 hG0 ety eu e hB hOK
  · rw [e]
    exact gy_fLit hA S I' ht hc hnP hK1 hG0 ety eu e hOK
  · rw [ch0 (by rw [e]; decide), ch1 (by rw [e]; decide), e]
    exact gy_fAdd hA S I' ht hc hnP hK1 hG0 ety eu e hOK hF
  · rw [ch0 (by rw [e]; decide), ch1 (by rw [e]; decide), e]
    exact gy_fLam hA S I' ht hc hnP hK1 hG0 ety eu e hOK hF
  · have f := hfit (by rw [e]; decide)
    rw [ch0 (by rw [e]; decide), ch1 (by rw [e]; decide), e]
    exact gy_fApp hA S I' ht hc hnP hK1 hG0 ety eu e f hOK hF
  · rw [ch0 (by rw [e]; decide), ch1 (by rw [e]; decide), e]
    exact gy_fPair hA S I' ht hc hnP hK1 hG0 ety eu e hOK
  · rw [ch0 (by rw [e]; decide), ch1 (by rw [e]; decide), e]
    exact gy_fLP hA S I' ht hc hnP hK1 hG0 ety eu e hOK hF
  · have ar : gp_ar (kd t) = 2 := by rcases e with e | e <;> rw [e] <;> decide
    rw [ch0 (by omega), ch1 (by omega)]
    exact gy_fIn hA S I' ht hc hnP hK1 hG0 ety eu e hOK
  · have f := hfit (by rw [e]; decide)
    rw [ch0 (by rw [e]; decide), ch1 (by rw [e]; decide), ch2 (by rw [e]; decide), e]
    exact gy_fCase hA S I' ht hc hnP hK1 hG0 ety eu e f hOK hF
  · rw [ch0 (by rw [e]; decide), e]
    exact gy_fBox hA S I' ht hc hnP hK1 hG0 ety eu e hOK
  · rw [ch0 (by rw [e]; decide), ch1 (by rw [e]; decide), e]
    exact gy_fLB hA S I' ht hc hnP hK1 hG0 ety eu e hOK hF
end

/-- what the reference holds of the terms in P -/
def gy_TI (kd : Nat → Nat) (ag : Nat → Int32) (n : Nat) (P : Nat → Prop) (ty bg ux uy u : Nat → Int32) (T : gd_Tb) : Prop := (∀ y, gy_o kd n P y → gy_c kd n P T y) ∧ (∀ i, i < n → kd i ≤ 5 → gd_D T i = gt_t kd ag n i) ∧
  ∀ d, P d → d < n ∧ ¬ kd d ≤ 5 ∧ (∃ y, gy_o kd n P y ∧ ty d = nI y ∧ gd_D T y = gt_t kd ag n d) ∧ (∀ v, v < gp_sn kd d → u (d * 32 + v) = nI (gt_u kd ag n d (gp_sn kd d - 1 - v))) ∧
    ((kd d = 9 ∨ kd d = 12 ∨ kd d = 15 ∨ kd d = 17) → bg d = nI (gt_b kd ag n d) ∧ ux d = nI (gt_u kd ag n (gp_ch kd n d 1) (gp_sn kd d))) ∧
    (kd d = 12 → uy d = nI (gt_u kd ag n (gp_ch kd n d 1) (gp_sn kd d + 1))) ∧ (kd d = 15 → uy d = nI (gt_u kd ag n (gp_ch kd n d 2) (gp_sn kd d)))
theorem gy_o_m {kd : Nat → Nat} {n y : Nat} {P Q : Nat → Prop} (h : ∀ d, P d → Q d) (o : gy_o kd n P y) : gy_o kd n Q y := by
  rcases o with o | ⟨d, a, b, c, e⟩
  · exact Or.inl o
  · exact Or.inr ⟨d, a, h d b, c, e⟩
theorem gy_st {kd : Nat → Nat} {ag : Nat → Int32} {n t : Nat} {P : Nat → Prop} {ty bg ux uy u : Nat → Int32} {T T' : gd_Tb} (hn : n ≤ 32) (I : gy_TI kd ag n P ty bg ux uy u T) (hnP : ¬ P t)
    (hT : ∀ y, y ≠ 32 + t → T'.1 y = T.1 y ∧ T'.2.1 y = T.2.1 y ∧ T'.2.2.1 y = T.2.2.1 y ∧ T'.2.2.2 y = T.2.2.2 y) {y : Nat} (hy : gy_o kd n P y) : gd_D T' y = gd_D T y := by
  refine gd_same (gy_cl hn I.1) (fun x hx => hT x ?_) y hy
  rcases hx with hx | ⟨d, a, b, c, e⟩
  · omega
  · intro z
    have : d = t := by omega
    subst this
    exact hnP b
theorem gy_TI_add {kd : Nat → Nat} {ag : Nat → Int32} {n t : Nat} {P : Nat → Prop} {ty bg ux uy u ty' bg' ux' uy' u' : Nat → Int32} {T T' : gd_Tb} (ok : gp_ok kd n) (I : gy_TI kd ag n P ty bg ux uy u T) (ht : t < n) (htk : ¬ kd t ≤ 5) (hnP : ¬ P t)
    (hT : ∀ y, y ≠ 32 + t → T'.1 y = T.1 y ∧ T'.2.1 y = T.2.1 y ∧ T'.2.2.1 y = T.2.2.1 y ∧ T'.2.2.2 y = T.2.2.2 y) (hc : gy_c kd n (fun d => P d ∨ d = t) T' (32 + t))
    (hty : ∀ d, d ≠ t → ty' d = ty d) (hyt : ∃ y, gy_o kd n (fun d => P d ∨ d = t) y ∧ ty' t = nI y ∧ gd_D T' y = gt_t kd ag n t)
    (hu : ∀ i, (i < t * 32 ∨ t * 32 + 32 ≤ i) → u' i = u i) (hut : ∀ v, v < gp_sn kd t → u' (t * 32 + v) = nI (gt_u kd ag n t (gp_sn kd t - 1 - v)))
    (hb : ∀ d, d ≠ t → bg' d = bg d ∧ ux' d = ux d ∧ uy' d = uy d)
    (hbt : (kd t = 9 ∨ kd t = 12 ∨ kd t = 15 ∨ kd t = 17) → bg' t = nI (gt_b kd ag n t) ∧ ux' t = nI (gt_u kd ag n (gp_ch kd n t 1) (gp_sn kd t)))
    (hb12 : kd t = 12 → uy' t = nI (gt_u kd ag n (gp_ch kd n t 1) (gp_sn kd t + 1))) (hb15 : kd t = 15 → uy' t = nI (gt_u kd ag n (gp_ch kd n t 2) (gp_sn kd t))) :
    gy_TI kd ag n (fun d => P d ∨ d = t) ty' bg' ux' uy' u' T' := by
  have hn := ok.2.1
  have st := fun {y : Nat} (hy : gy_o kd n P y) => gy_st hn I hnP hT hy
  have up : ∀ {y : Nat}, gy_o kd n P y → gy_o kd n (fun d => P d ∨ d = t) y := fun o => gy_o_m (fun d hd => Or.inl hd) o
  refine ⟨fun y hy => ?_, fun i hi hk => ?_, fun d hd => ?_⟩
  · by_cases z : y = 32 + t
    · subst z; exact hc
    · have oy : gy_o kd n P y := by
        rcases hy with hy | ⟨d, a, b, c, e⟩
        · exact Or.inl hy
        · rcases b with b | b
          · exact Or.inr ⟨d, a, b, c, e⟩
          · omega
      obtain ⟨t1, t2, t3, t4⟩ := hT y z
      obtain ⟨c1, c2⟩ := I.1 y oy
      unfold gy_c
      rw [t1, t3, t4]
      refine ⟨fun n1 => ?_, fun n1 n5 => ?_⟩
      · obtain ⟨a, a1, a2⟩ := c1 n1
        exact ⟨a, up a1, a2⟩
      · obtain ⟨a, a1, a2⟩ := c2 n1 n5
        exact ⟨a, up a1, a2⟩
  · rw [st (Or.inl ⟨hi, hk⟩)]
    exact I.2.1 i hi hk
  · by_cases z : d = t
    · subst z
      exact ⟨ht, htk, hyt, hut, hbt, hb12, hb15⟩
    · have pd : P d := by rcases hd with hd | hd; exact hd; exact absurd hd z
      obtain ⟨a1, a2, ⟨y, y1, y2, y3⟩, a4, a5, a6, a7⟩ := I.2.2 d pd
      obtain ⟨b1, b2, b3⟩ := hb d z
      have sl := gp_sn_lt ok a1
      rw [hty d z, b1, b2, b3]
      exact ⟨a1, a2, ⟨y, up y1, y2, by rw [st y1]; exact y3⟩, fun v hv => by rw [hu _ (by omega)]; exact a4 v hv, a5, a6, a7⟩
section
variable {f_dLim f_rLim f_fLim f_n f_stat f_err f_out f_vInt f_recs f_drf f_fsp : Int32} {a_kind a_arg a_ch a_par a_pos a_seen a_st a_ty a_tyK a_tyG a_tyA a_tyB a_u a_bg a_ux a_uy a_stk a_eqA a_eqB a_rT a_rE a_rG a_rN a_rC a_rX a_fK a_fA a_fE : Nat → Int32}
theorem gy_ug {post : Int32 → Prop} {c v : Nat} (hc : c < 32) (hv : v < 32) (h : post (a_u (c * 32 + v))) : wpY_ug post (f_dLim, f_rLim, f_fLim, f_n, f_stat, f_err, f_out, f_vInt, f_recs, f_drf, f_fsp, a_kind, a_arg, a_ch, a_par, a_pos, a_seen, a_st, a_ty, a_tyK, a_tyG, a_tyA, a_tyB, a_u, a_bg, a_ux, a_uy, a_stk, a_eqA, a_eqB, a_rT, a_rE, a_rG, a_rN, a_rC, a_rX, a_fK, a_fA, a_fE) (nI c) (nI v) := by
  unfold wpY_ug
  try dsimp only
  rw [gx_ix, nI_clamp (show c * 32 + v < 2 ^ 31 by omega)]
  exact br_f (nI_pos (by omega)) (br_f (nI_nlt (a := 31) (by omega) (by decide)) (br_f (nI_pos (by omega)) (br_t (nI_le (b := 31) (by omega) (by decide)) ⟨vp_in_nI (by omega) (by decide), h⟩)))
theorem gy_ugm {post : Int32 → Prop} {x : Int32} (h : post 0) : wpY_ug post (f_dLim, f_rLim, f_fLim, f_n, f_stat, f_err, f_out, f_vInt, f_recs, f_drf, f_fsp, a_kind, a_arg, a_ch, a_par, a_pos, a_seen, a_st, a_ty, a_tyK, a_tyG, a_tyA, a_tyB, a_u, a_bg, a_ux, a_uy, a_stk, a_eqA, a_eqB, a_rT, a_rE, a_rG, a_rN, a_rC, a_rX, a_fK, a_fA, a_fE) (-1) x := br_t (by decide) h
theorem gy_g2 {P : Nat → Nat → Prop} (h : P 0 0 ∧ P 0 1 ∧ P 0 2 ∧ P 1 0 ∧ P 1 1 ∧ P 1 2 ∧ P 2 0 ∧ P 2 1 ∧ P 2 2) {a b : Nat} (ha : a ≤ 2) (hb : b ≤ 2) : P a b := by
  obtain ⟨h0, h1, h2, h3, h4, h5, h6, h7, h8⟩ := h
  have e1 : a = 0 ∨ a = 1 ∨ a = 2 := by omega
  have e2 : b = 0 ∨ b = 1 ∨ b = 2 := by omega
  rcases e1 with e | e | e <;> rcases e2 with f | f | f <;> subst e <;> subst f <;> assumption
theorem gy_mul {post : Int32 → Prop} {a b : Nat} (ha : a ≤ 2) (hb : b ≤ 2) (h : post (nI (gt_mul a b))) : wpY_mul post (f_dLim, f_rLim, f_fLim, f_n, f_stat, f_err, f_out, f_vInt, f_recs, f_drf, f_fsp, a_kind, a_arg, a_ch, a_par, a_pos, a_seen, a_st, a_ty, a_tyK, a_tyG, a_tyA, a_tyB, a_u, a_bg, a_ux, a_uy, a_stk, a_eqA, a_eqB, a_rT, a_rE, a_rG, a_rN, a_rC, a_rX, a_fK, a_fA, a_fE) (nI a) (nI b) := by
  revert h
  refine gy_g2 (P := fun a b => post (nI (gt_mul a b)) → wpY_mul post (f_dLim, f_rLim, f_fLim, f_n, f_stat, f_err, f_out, f_vInt, f_recs, f_drf, f_fsp, a_kind, a_arg, a_ch, a_par, a_pos, a_seen, a_st, a_ty, a_tyK, a_tyG, a_tyA, a_tyB, a_u, a_bg, a_ux, a_uy, a_stk, a_eqA, a_eqB, a_rT, a_rE, a_rG, a_rN, a_rC, a_rX, a_fK, a_fA, a_fE) (nI a) (nI b)) ?_ ha hb
  refine ⟨?_, ?_, ?_, ?_, ?_, ?_, ?_, ?_, ?_⟩ <;> (intro h; unfold wpY_mul; try dsimp only; repeat (first | exact h | exact br_t (by decide) h | refine br_f (by decide) ?_))
theorem gy_add {post : Int32 → Prop} {a b : Nat} (ha : a ≤ 2) (hb : b ≤ 2) (h : post (nI (gt_add a b))) : wpY_add post (f_dLim, f_rLim, f_fLim, f_n, f_stat, f_err, f_out, f_vInt, f_recs, f_drf, f_fsp, a_kind, a_arg, a_ch, a_par, a_pos, a_seen, a_st, a_ty, a_tyK, a_tyG, a_tyA, a_tyB, a_u, a_bg, a_ux, a_uy, a_stk, a_eqA, a_eqB, a_rT, a_rE, a_rG, a_rN, a_rC, a_rX, a_fK, a_fA, a_fE) (nI a) (nI b) := by
  revert h
  refine gy_g2 (P := fun a b => post (nI (gt_add a b)) → wpY_add post (f_dLim, f_rLim, f_fLim, f_n, f_stat, f_err, f_out, f_vInt, f_recs, f_drf, f_fsp, a_kind, a_arg, a_ch, a_par, a_pos, a_seen, a_st, a_ty, a_tyK, a_tyG, a_tyA, a_tyB, a_u, a_bg, a_ux, a_uy, a_stk, a_eqA, a_eqB, a_rT, a_rE, a_rG, a_rN, a_rC, a_rX, a_fK, a_fA, a_fE) (nI a) (nI b)) ?_ ha hb
  refine ⟨?_, ?_, ?_, ?_, ?_, ?_, ?_, ?_, ?_⟩ <;> (intro h; unfold wpY_add; try dsimp only; repeat (first | exact h | exact br_t (by decide) h | refine br_f (by decide) ?_))
theorem gy_join {post : Int32 → Prop} {a b : Nat} (ha : a ≤ 2) (hb : b ≤ 2) (h : post (nI (gt_max a b))) : wpY_join post (f_dLim, f_rLim, f_fLim, f_n, f_stat, f_err, f_out, f_vInt, f_recs, f_drf, f_fsp, a_kind, a_arg, a_ch, a_par, a_pos, a_seen, a_st, a_ty, a_tyK, a_tyG, a_tyA, a_tyB, a_u, a_bg, a_ux, a_uy, a_stk, a_eqA, a_eqB, a_rT, a_rE, a_rG, a_rN, a_rC, a_rX, a_fK, a_fA, a_fE) (nI a) (nI b) := by
  revert h
  refine gy_g2 (P := fun a b => post (nI (gt_max a b)) → wpY_join post (f_dLim, f_rLim, f_fLim, f_n, f_stat, f_err, f_out, f_vInt, f_recs, f_drf, f_fsp, a_kind, a_arg, a_ch, a_par, a_pos, a_seen, a_st, a_ty, a_tyK, a_tyG, a_tyA, a_tyB, a_u, a_bg, a_ux, a_uy, a_stk, a_eqA, a_eqB, a_rT, a_rE, a_rG, a_rN, a_rC, a_rX, a_fK, a_fA, a_fE) (nI a) (nI b)) ?_ ha hb
  refine ⟨?_, ?_, ?_, ?_, ?_, ?_, ?_, ?_, ?_⟩ <;> (intro h; unfold wpY_join; try dsimp only; repeat (first | exact h | exact br_t (by decide) h | refine br_f (by decide) ?_))
def gy_cf (m g : Nat) (pa pb : Nat → Nat) (v : Nat) : Nat := if m = 0 then gt_add (gt_mul g (pa v)) (pb v) else gt_max (gt_mul g (pa v)) (pb v)
theorem gy_cb_l {post : SY → Prop} {t s g m : Nat} {A sa B sb : Int32} {us : Nat → Int32} {pa pb : Nat → Nat} (ht : t < 32) (hs : s < 32) (hV : a_seen t = nI s) (hg : g ≤ 2) (hm : m ≤ 1) (hpa : ∀ v, v < s → pa v ≤ 2) (hpb : ∀ v, v < s → pb v ≤ 2)
    (rA : ∀ v, v < s → ∀ post' : Int32 → Prop, post' (nI (pa v)) → wpY_ug post' (f_dLim, f_rLim, f_fLim, f_n, f_stat, f_err, f_out, f_vInt, f_recs, f_drf, f_fsp, a_kind, a_arg, a_ch, a_par, a_pos, a_seen, a_st, a_ty, a_tyK, a_tyG, a_tyA, a_tyB, gx_row us t v (gy_cf m g pa pb), a_bg, a_ux, a_uy, a_stk, a_eqA, a_eqB, a_rT, a_rE, a_rG, a_rN, a_rC, a_rX, a_fK, a_fA, a_fE) A (nI v + sa))
    (rB : ∀ v, v < s → ∀ post' : Int32 → Prop, post' (nI (pb v)) → wpY_ug post' (f_dLim, f_rLim, f_fLim, f_n, f_stat, f_err, f_out, f_vInt, f_recs, f_drf, f_fsp, a_kind, a_arg, a_ch, a_par, a_pos, a_seen, a_st, a_ty, a_tyK, a_tyG, a_tyA, a_tyB, gx_row us t v (gy_cf m g pa pb), a_bg, a_ux, a_uy, a_stk, a_eqA, a_eqB, a_rT, a_rE, a_rG, a_rN, a_rC, a_rX, a_fK, a_fA, a_fE) B (nI v + sb))
    (h : post (f_dLim, f_rLim, f_fLim, f_n, f_stat, f_err, f_out, f_vInt, f_recs, f_drf, f_fsp, a_kind, a_arg, a_ch, a_par, a_pos, a_seen, a_st, a_ty, a_tyK, a_tyG, a_tyA, a_tyB, gx_row us t s (gy_cf m g pa pb), a_bg, a_ux, a_uy, a_stk, a_eqA, a_eqB, a_rT, a_rE, a_rG, a_rN, a_rC, a_rX, a_fK, a_fA, a_fE)) :
    ∀ d v fuel, v + d = s → d < fuel → wY_comb_3 post (nI t) A sa (nI g) B sb (nI m) f_dLim f_rLim f_fLim f_n f_stat f_err f_out f_vInt f_recs f_drf f_fsp fuel (nI v) a_kind a_arg a_ch a_par a_pos a_seen a_st a_ty a_tyK a_tyG a_tyA a_tyB (gx_row us t v (gy_cf m g pa pb)) a_bg a_ux a_uy a_stk a_eqA a_eqB a_rT a_rE a_rG a_rN a_rC a_rX a_fK a_fA a_fE
  | _, _, 0, _, hf => by omega
  | 0, v, fuel + 1, hv, hf => by
    have e : v = s := by omega
    subst e
    refine ⟨vp_in_nI ht (by decide), ?_⟩
    rw [nI_clamp (show t < 2 ^ 31 by omega), hV]
    exact br_t (nI_le (Nat.le_refl _) (by omega)) h
  | d + 1, v, fuel + 1, hv, hf => by
    refine ⟨vp_in_nI ht (by decide), ?_⟩
    rw [nI_clamp (show t < 2 ^ 31 by omega), hV]
    have IH := gy_cb_l ht hs hV hg hm hpa hpb rA rB h d (v + 1) fuel (by omega) (by omega)
    refine br_f (nI_ge (by omega) (by omega)) (br_f (nI_ge (b := 32) (by omega) (by decide)) (rA v (by omega) _ (gy_mul hg (hpa v (by omega)) (rB v (by omega) _ ?_))))
    have fin : ∀ r, r = nI (gy_cf m g pa pb v) → vp_in ((nI t * 32) + nI v) 1024 ∧ ∀ y, y = upd (gx_row us t v (gy_cf m g pa pb)) ((nI t * 32) + nI v).toNatClampNeg r → ∀ z, z = nI v + 1 → wY_comb_3 post (nI t) A sa (nI g) B sb (nI m) f_dLim f_rLim f_fLim f_n f_stat f_err f_out f_vInt f_recs f_drf f_fsp fuel z a_kind a_arg a_ch a_par a_pos a_seen a_st a_ty a_tyK a_tyG a_tyA a_tyB y a_bg a_ux a_uy a_stk a_eqA a_eqB a_rT a_rE a_rG a_rN a_rC a_rX a_fK a_fA a_fE := by
      intro r er
      rw [gx_ix, nI_clamp (show t * 32 + v < 2 ^ 31 by omega), er]
      exact ⟨vp_in_nI (by omega) (by decide), nm_r (gx_row_s us t v (gy_cf m g pa pb)) (nm_r (nI_1 v) IH)⟩
    refine pk_eq m 0 (fun z => ?_) (fun z => ?_)
    · exact gy_add (gt_mul_le _ _) (hpb v (by omega)) (fin _ (by unfold gy_cf; rw [if_pos z]))
    · exact gy_join (gt_mul_le _ _) (hpb v (by omega)) (fin _ (by unfold gy_cf; rw [if_neg z]))
theorem gy_cb {post : SY → Prop} {t s g m : Nat} {A sa B sb : Int32} {pa pb : Nat → Nat} (ht : t < 32) (hs : s < 32) (hV : a_seen t = nI s) (hg : g ≤ 2) (hm : m ≤ 1) (hpa : ∀ v, v < s → pa v ≤ 2) (hpb : ∀ v, v < s → pb v ≤ 2)
    (rA : ∀ v, v < s → ∀ post' : Int32 → Prop, post' (nI (pa v)) → wpY_ug post' (f_dLim, f_rLim, f_fLim, f_n, f_stat, f_err, f_out, f_vInt, f_recs, f_drf, f_fsp, a_kind, a_arg, a_ch, a_par, a_pos, a_seen, a_st, a_ty, a_tyK, a_tyG, a_tyA, a_tyB, gx_row a_u t v (gy_cf m g pa pb), a_bg, a_ux, a_uy, a_stk, a_eqA, a_eqB, a_rT, a_rE, a_rG, a_rN, a_rC, a_rX, a_fK, a_fA, a_fE) A (nI v + sa))
    (rB : ∀ v, v < s → ∀ post' : Int32 → Prop, post' (nI (pb v)) → wpY_ug post' (f_dLim, f_rLim, f_fLim, f_n, f_stat, f_err, f_out, f_vInt, f_recs, f_drf, f_fsp, a_kind, a_arg, a_ch, a_par, a_pos, a_seen, a_st, a_ty, a_tyK, a_tyG, a_tyA, a_tyB, gx_row a_u t v (gy_cf m g pa pb), a_bg, a_ux, a_uy, a_stk, a_eqA, a_eqB, a_rT, a_rE, a_rG, a_rN, a_rC, a_rX, a_fK, a_fA, a_fE) B (nI v + sb))
    (h : post (f_dLim, f_rLim, f_fLim, f_n, f_stat, f_err, f_out, f_vInt, f_recs, f_drf, f_fsp, a_kind, a_arg, a_ch, a_par, a_pos, a_seen, a_st, a_ty, a_tyK, a_tyG, a_tyA, a_tyB, gx_row a_u t s (gy_cf m g pa pb), a_bg, a_ux, a_uy, a_stk, a_eqA, a_eqB, a_rT, a_rE, a_rG, a_rN, a_rC, a_rX, a_fK, a_fA, a_fE)) : wpY_comb post (f_dLim, f_rLim, f_fLim, f_n, f_stat, f_err, f_out, f_vInt, f_recs, f_drf, f_fsp, a_kind, a_arg, a_ch, a_par, a_pos, a_seen, a_st, a_ty, a_tyK, a_tyG, a_tyA, a_tyB, a_u, a_bg, a_ux, a_uy, a_stk, a_eqA, a_eqB, a_rT, a_rE, a_rG, a_rN, a_rC, a_rX, a_fK, a_fA, a_fE) (nI t) A sa (nI g) B sb (nI m) := by
  have := gy_cb_l ht hs hV hg hm hpa hpb rA rB h s 0 (s + 1) (by omega) (by omega)
  rw [gx_row_0] at this
  exact ⟨s + 1, this⟩
/-- a reader over another row -/
theorem gy_rd {t c s b : Nat} {F p : Nat → Nat} {us : Nat → Int32} (hc : c < 32) (hne : c ≠ t) (hs : s + b ≤ 32) (hp : ∀ v, v < s → us (c * 32 + (v + b)) = nI (p v)) :
    ∀ v, v < s → ∀ post' : Int32 → Prop, post' (nI (p v)) → wpY_ug post' (f_dLim, f_rLim, f_fLim, f_n, f_stat, f_err, f_out, f_vInt, f_recs, f_drf, f_fsp, a_kind, a_arg, a_ch, a_par, a_pos, a_seen, a_st, a_ty, a_tyK, a_tyG, a_tyA, a_tyB, gx_row us t v F, a_bg, a_ux, a_uy, a_stk, a_eqA, a_eqB, a_rT, a_rE, a_rG, a_rN, a_rC, a_rX, a_fK, a_fA, a_fE) (nI c) (nI v + nI b) := by
  intro v hv post' h
  rw [nI_add]
  refine gy_ug hc (by omega) ?_
  rw [gx_row_o (by omega) (by omega) hne, hp v hv]
  exact h
theorem gy_rd0 {t s : Nat} {F : Nat → Nat} {us : Nat → Int32} {x : Int32} : ∀ v, v < s → ∀ post' : Int32 → Prop, post' (nI 0) → wpY_ug post' (f_dLim, f_rLim, f_fLim, f_n, f_stat, f_err, f_out, f_vInt, f_recs, f_drf, f_fsp, a_kind, a_arg, a_ch, a_par, a_pos, a_seen, a_st, a_ty, a_tyK, a_tyG, a_tyA, a_tyB, gx_row us t v F, a_bg, a_ux, a_uy, a_stk, a_eqA, a_eqB, a_rT, a_rE, a_rG, a_rN, a_rC, a_rX, a_fK, a_fA, a_fE) (-1) (nI v + x) := fun v hv post' h => gy_ugm h
end

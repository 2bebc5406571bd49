section
variable {f_dLim f_rLim f_fLim f_n f_stat f_err f_out f_vInt f_recs f_drf f_fsp : Int32} {a_kind a_arg a_ch a_par a_pos a_seen a_st a_ty a_tyK a_tyG a_tyA a_tyB a_u a_bg a_ux a_uy a_stk a_eqA a_eqB a_rT a_rE a_rG a_rN a_rC a_rX a_fK a_fA a_fE : Nat → Int32}
theorem gy_fLam {post : Int32 → SY → Prop} {kd : Nat → Nat} {n t fuel : Nat} {P : Nat → Prop} {x6 : Int32} (A : gt_P kd a_arg n) (S : gy_S kd n a_kind a_ch a_par a_pos a_seen) (I : gy_TI kd a_arg n P a_ty a_bg a_ux a_uy a_u (a_tyK, a_tyG, a_tyA, a_tyB)) (ht : t < n) (hc : ∀ j, j < gp_ar (kd t) → ¬ kd (gp_ch kd n t j) ≤ 5 → P (gp_ch kd n t j)) (hnP : ¬ P t) (hK1 : a_tyK (32 + t) = 1) (hG0 : a_tyG (32 + t) = 0) (ety : a_ty t = nI (32 + t)) (eu : ∀ v, v < 32 → a_u (t * 32 + v) = 0) (hk : kd t = 9) (hOK : gt_e2 kd a_arg n t = 0 → ∀ ty bg ux uy u tK tG tA tB ea eb, gy_TI kd a_arg n (fun d => P d ∨ d = t) ty bg ux uy u (tK, tG, tA, tB) → post 1 (f_dLim, f_rLim, f_fLim, f_n, f_stat, f_err, f_out, f_vInt, f_recs, f_drf, f_fsp, a_kind, a_arg, a_ch, a_par, a_pos, a_seen, a_st, ty, tK, tG, tA, tB, u, bg, ux, uy, a_stk, ea, eb, a_rT, a_rE, a_rG, a_rN, a_rC, a_rX, a_fK, a_fA, a_fE)) (hF : ¬ gt_e2 kd a_arg n t = 0 → ∀ ty bg ux uy u tK tG tA tB ea eb, post (nI (gt_e2 kd a_arg n t)) (f_dLim, f_rLim, f_fLim, f_n, f_stat, f_err, f_out, f_vInt, f_recs, f_drf, f_fsp, a_kind, a_arg, a_ch, a_par, a_pos, a_seen, a_st, ty, tK, tG, tA, tB, u, bg, ux, uy, a_stk, ea, eb, a_rT, a_rE, a_rG, a_rN, a_rC, a_rX, a_fK, a_fA, a_fE)) : wY_finish_97 post (nI t) (nI 9) (a_arg t) (nI (gp_ch kd n t 0)) (nI (gp_ch kd n t 1)) x6 (nI (32 + t)) f_dLim f_rLim f_fLim f_n f_stat f_err f_out f_vInt f_recs f_drf f_fsp (fuel + 1) (nI 32) a_kind a_arg a_ch a_par a_pos a_seen a_st a_ty a_tyK a_tyG a_tyA a_tyB a_u a_bg a_ux a_uy a_stk a_eqA a_eqB a_rT a_rE a_rG a_rN a_rC a_rX a_fK a_fA a_fE := by
  have hA := A
  obtain ⟨ok, so, kr, sc, ag2, ag3, -⟩ := A
  have hn := ok.2.1
  have t32 : t < 32 := by omega
  have v := vp_in_nI t32 (by decide)
  have et : (nI t).toNatClampNeg = t := nI_clamp (by omega)
  have sl := gp_sn_lt ok ht
  have ar0 : 0 < gp_ar (kd t) := by rw [hk]; decide
  have ar1 : 1 < gp_ar (kd t) := by rw [hk]; decide
  have m0 := gp_ty_c0 ok so ht (by omega)
  have m1 := gp_tm_ch ok so ht (by omega) ar1 (by omega)
  have c0 := (gp_ch_lt ok ht ar0).1
  have c1 := (gp_ch_lt ok ht ar1).1
  have g1 := gp_ch_ge ok ht (Nat.le_of_lt ar1)
  have y1 : gy_o kd n P (gp_ch kd n t 0) := Or.inl ⟨c0, m0⟩
  have y3 := I.2.1 _ c0 m0
  obtain ⟨_, _, ⟨z, z1, z2, z3⟩, _⟩ := I.2.2 _ (hc 1 ar1 m1)
  have z64 := gy_o_lt hn z1
  obtain ⟨u1, w1⟩ := gy_cu hA I ht ar1 (hc 1 ar1 m1) m1
  rw [show gp_bd (kd t) 1 = 1 by rw [hk]; decide] at u1 w1
  have w0 := w1 0 (by omega)
  rw [show gp_sn kd t + 1 - 1 - 0 = gp_sn kd t by omega] at w0
  have ul := gt_ule hA c1 m1 (gp_sn kd t)
  have v64 := vp_in_nI (show 32 + t < 64 by omega) (by decide)
  obtain ⟨a, a3, ea⟩ := ag3 t ht (by omega)
  have nd : gt_nd kd a_arg n t = gt_u kd a_arg n (gp_ch kd n t 1) (gp_sn kd t) := by unfold gt_nd; rw [if_neg (by omega), if_neg (by omega)]
  have fin : ∀ g, g = nI (gt_se (a_arg t) (gt_u kd a_arg n (gp_ch kd n t 1) (gp_sn kd t))) → gt_e2 kd a_arg n t = 0 → wY_finish_550 post (nI t) (nI (gp_ch kd n t 0)) (nI (gp_ch kd n t 1)) (nI (32 + t)) (nI (gt_u kd a_arg n (gp_ch kd n t 1) (gp_sn kd t))) g f_dLim f_rLim f_fLim f_n f_stat f_err f_out f_vInt f_recs f_drf f_fsp a_kind a_arg a_ch a_par a_pos a_seen a_st a_ty a_tyK a_tyG a_tyA a_tyB a_u a_bg a_ux a_uy a_stk a_eqA a_eqB a_rT a_rE a_rG a_rN a_rC a_rX a_fK a_fA a_fE := by
    intro g eg e0
    unfold wY_finish_550
    rw [et, nI_clamp (show gp_ch kd n t 1 < 2 ^ 31 by omega), z2, nI_clamp (show 32 + t < 2 ^ 31 by omega)]
    refine ⟨v, nm_e ⟨v, nm_e ⟨v64, nm_e ⟨v64, nm_e ⟨v64, nm_e ⟨vp_in_nI (by omega) (by decide), v64, nm_e ?_⟩⟩⟩⟩⟩⟩
    refine gy_cb (s := gp_sn kd t) (g := 1) (m := 0) (sa := nI 1) (sb := nI 0) (pb := fun _ => 0) t32 (by omega) (S.2.2.2.2 t ht) (by omega) (by omega) (fun w hw => (u1 w hw).2) (fun w hw => by omega)
      (gy_rd (b := 1) (by omega) (by omega) (by omega) (fun w hw => (u1 w hw).1)) gy_rd0 ?_
    have hT : ∀ x, x ≠ 32 + t → upd a_tyK (32 + t) 4 x = a_tyK x ∧ upd a_tyG (32 + t) g x = a_tyG x ∧ upd a_tyA (32 + t) (nI (gp_ch kd n t 0)) x = a_tyA x ∧ upd a_tyB (32 + t) (nI z) x = a_tyB x := fun x hx => ⟨pk_un hx, pk_un hx, pk_un hx, pk_un hx⟩
    have st := fun {x : Nat} (hx : gy_o kd n P x) => gy_st (T' := (upd a_tyK (32 + t) 4, upd a_tyG (32 + t) g, upd a_tyA (32 + t) (nI (gp_ch kd n t 0)), upd a_tyB (32 + t) (nI z))) hn I hnP hT hx
    refine hOK e0 _ _ _ _ _ _ _ _ _ _ _ (gy_TI_add ok I ht (by omega) hnP hT ⟨fun _ => ⟨_, gy_o_p y1, pk_us⟩, fun _ _ => ⟨z, gy_o_p z1, pk_us⟩⟩ (fun d hd => rfl) ⟨32 + t, gy_o_t ht (by omega), ety, ?_⟩ (fun j hj => gx_row_off (by omega) hj) (fun w hw => ?_) (fun d hd => ⟨pk_un hd, pk_un hd, rfl⟩) (fun _ => ⟨?_, ?_⟩) (fun z => by omega) (fun z => by omega))
    · rw [gd_mkD]
      unfold gd_L gd_R
      dsimp only
      rw [pk_us, pk_us, pk_us, pk_us, nI_clamp (show gp_ch kd n t 0 < 2 ^ 31 by omega), nI_clamp (show z < 2 ^ 31 by omega), st y1, st z1, y3, z3, gt_t9 ok ht hk, eg]
    · rw [gx_row_in hw, gt_u9 ok ht hk]
      unfold gy_cf
      rw [if_pos rfl, gt_mul_1 (u1 w hw).2, gt_add_0 (u1 w hw).2]
    · rw [pk_us, gt_b9 ok ht hk, eg]
    · rw [pk_us]
  refine br_t (by decide) ?_
  repeat (refine br_f (by decide) ?_)
  refine br_t (by decide) (gy_ug (v := 0) (by omega) (by omega) ?_)
  rw [w0]
  have e0 : ¬ (¬ a_arg t = 3 ∧ (a_arg t).toNatClampNeg < gt_u kd a_arg n (gp_ch kd n t 1) (gp_sn kd t)) → gt_e2 kd a_arg n t = 0 := fun q => by
    unfold gt_e2
    rw [gt_if_f (by omega), gt_if_f (by
      rintro (⟨_, r⟩ | ⟨r, _⟩)
      · rw [nd] at r; exact q r
      · omega)]
  refine br_c (fun z3 => fin _ ?_ (e0 (fun q => q.1 z3))) (fun z3 => ?_)
  · unfold gt_se; rw [if_pos z3]
  · have en : (a_arg t).toNatClampNeg = a := by rw [ea]; exact nI_clamp (by omega)
    rw [en] at e0
    have go := fin (a_arg t) (by unfold gt_se; rw [if_neg z3, en, ea])
    rw [ea] at go z3 ⊢
    refine pk_le (gt_u kd a_arg n (gp_ch kd n t 1) (gp_sn kd t)) a (fun q => go (e0 (fun r => by omega))) (fun q => ?_)
    have e5 : gt_e2 kd a_arg n t = 5 := by
      unfold gt_e2
      rw [gt_if_f (by omega), gt_if_t (Or.inl ⟨Or.inl hk, by rw [ea]; exact z3, by rw [nd, en]; exact q⟩)]
    have := hF (by rw [e5]; decide) a_ty a_bg a_ux a_uy a_u a_tyK a_tyG a_tyA a_tyB a_eqA a_eqB
    rw [e5] at this
    exact this
theorem gy_fApp {post : Int32 → SY → Prop} {kd : Nat → Nat} {n t fuel : Nat} {P : Nat → Prop} {x3 x6 : Int32} (A : gt_P kd a_arg n) (S : gy_S kd n a_kind a_ch a_par a_pos a_seen) (I : gy_TI kd a_arg n P a_ty a_bg a_ux a_uy a_u (a_tyK, a_tyG, a_tyA, a_tyB)) (ht : t < n) (hc : ∀ j, j < gp_ar (kd t) → ¬ kd (gp_ch kd n t j) ≤ 5 → P (gp_ch kd n t j)) (hnP : ¬ P t) (hK1 : a_tyK (32 + t) = 1) (hG0 : a_tyG (32 + t) = 0) (ety : a_ty t = nI (32 + t)) (eu : ∀ v, v < 32 → a_u (t * 32 + v) = 0) (hk : kd t = 10) (hfit : gs_fit 32 (gs_F 32) (gt_t kd a_arg n (gp_ch kd n t 1))) (hOK : gt_e2 kd a_arg n t = 0 → ∀ ty bg ux uy u tK tG tA tB ea eb, gy_TI kd a_arg n (fun d => P d ∨ d = t) ty bg ux uy u (tK, tG, tA, tB) → post 1 (f_dLim, f_rLim, f_fLim, f_n, f_stat, f_err, f_out, f_vInt, f_recs, f_drf, f_fsp, a_kind, a_arg, a_ch, a_par, a_pos, a_seen, a_st, ty, tK, tG, tA, tB, u, bg, ux, uy, a_stk, ea, eb, a_rT, a_rE, a_rG, a_rN, a_rC, a_rX, a_fK, a_fA, a_fE)) (hF : ¬ gt_e2 kd a_arg n t = 0 → ∀ ty bg ux uy u tK tG tA tB ea eb, post (nI (gt_e2 kd a_arg n t)) (f_dLim, f_rLim, f_fLim, f_n, f_stat, f_err, f_out, f_vInt, f_recs, f_drf, f_fsp, a_kind, a_arg, a_ch, a_par, a_pos, a_seen, a_st, ty, tK, tG, tA, tB, u, bg, ux, uy, a_stk, ea, eb, a_rT, a_rE, a_rG, a_rN, a_rC, a_rX, a_fK, a_fA, a_fE)) : wY_finish_97 post (nI t) (nI 10) x3 (nI (gp_ch kd n t 0)) (nI (gp_ch kd n t 1)) x6 (nI (32 + t)) f_dLim f_rLim f_fLim f_n f_stat f_err f_out f_vInt f_recs f_drf f_fsp (fuel + 1) (nI 32) a_kind a_arg a_ch a_par a_pos a_seen a_st a_ty a_tyK a_tyG a_tyA a_tyB a_u a_bg a_ux a_uy a_stk a_eqA a_eqB a_rT a_rE a_rG a_rN a_rC a_rX a_fK a_fA a_fE := by
  have hA := A
  obtain ⟨ok, so, kr, sc, -⟩ := A
  have hn := ok.2.1
  have t32 : t < 32 := by omega
  have v := vp_in_nI t32 (by decide)
  have et : (nI t).toNatClampNeg = t := nI_clamp (by omega)
  have sl := gp_sn_lt ok ht
  have ar0 : 0 < gp_ar (kd t) := by rw [hk]; decide
  have ar1 : 1 < gp_ar (kd t) := by rw [hk]; decide
  have m0 := gp_tm_ch ok so ht (by omega) ar0 (by omega)
  have m1 := gp_tm_ch ok so ht (by omega) ar1 (by omega)
  have c0 := (gp_ch_lt ok ht ar0).1
  have c1 := (gp_ch_lt ok ht ar1).1
  have g0 := gp_ch_ge ok ht (Nat.le_of_lt ar0)
  have g1 := gp_ch_ge ok ht (Nat.le_of_lt ar1)
  obtain ⟨_, _, ⟨y, y1, y2, y3⟩, _⟩ := I.2.2 _ (hc 0 ar0 m0)
  obtain ⟨_, _, ⟨z, z1, z2, z3⟩, _⟩ := I.2.2 _ (hc 1 ar1 m1)
  have y64 := gy_o_lt hn y1
  have z64 := gy_o_lt hn z1
  have u0 := (gy_cu hA I ht ar0 (hc 0 ar0 m0) m0).1
  have u1 := (gy_cu hA I ht ar1 (hc 1 ar1 m1) m1).1
  rw [show gp_bd (kd t) 0 = 0 from gp_bd_0 _] at u0
  rw [show gp_bd (kd t) 1 = 0 by rw [hk]; decide] at u1
  have ky := gd_k y3
  dsimp only at ky
  have vy := vp_in_nI y64 (by decide)
  have fl : ¬ (gt_k (gt_t kd a_arg n (gp_ch kd n t 0)) = 4 ∧ gt_l (gt_t kd a_arg n (gp_ch kd n t 0)) = gt_t kd a_arg n (gp_ch kd n t 1)) → ∀ ea eb, post 4 (f_dLim, f_rLim, f_fLim, f_n, f_stat, f_err, f_out, f_vInt, f_recs, f_drf, f_fsp, a_kind, a_arg, a_ch, a_par, a_pos, a_seen, a_st, a_ty, a_tyK, a_tyG, a_tyA, a_tyB, a_u, a_bg, a_ux, a_uy, a_stk, ea, eb, a_rT, a_rE, a_rG, a_rN, a_rC, a_rX, a_fK, a_fA, a_fE) := fun w ea eb => by
    have e4 : gt_e2 kd a_arg n t = 4 := gt_if_t (Or.inr (Or.inl ⟨hk, w⟩))
    have := hF (by rw [e4]; decide) a_ty a_bg a_ux a_uy a_u a_tyK a_tyG a_tyA a_tyB ea eb
    rw [e4] at this
    exact this
  refine br_t (by decide) ?_
  repeat (refine br_f (by decide) ?_)
  refine br_t (by decide) ?_
  rw [nI_clamp (show gp_ch kd n t 0 < 2 ^ 31 by omega), nI_clamp (show gp_ch kd n t 1 < 2 ^ 31 by omega), y2, z2]
  refine ⟨vp_in_nI (by omega) (by decide), nm_e ⟨vy, ?_⟩⟩
  rw [nI_clamp (show y < 2 ^ 31 by omega)]
  refine br_c (fun k4 => ⟨vp_in_nI (by omega) (by decide), vy, ?_⟩) (fun k4 => fl (fun w => k4 (ky.1.trans w.1)) a_eqA a_eqB)
  have n1 : ¬ a_tyK y = 1 := by rw [k4]; decide
  have n5 : ¬ a_tyK y = 5 := by rw [k4]; decide
  obtain ⟨a, a1, a2⟩ := (I.1 y y1).1 n1
  obtain ⟨b, b1, b2⟩ := (I.1 y y1).2 n1 n5
  have a64 := gy_o_lt hn a1
  have b64 := gy_o_lt hn b1
  have eL : gd_L (a_tyK, a_tyG, a_tyA, a_tyB) y = a := by unfold gd_L; rw [a2]; exact nI_clamp (by omega)
  have eR : gd_R (a_tyK, a_tyG, a_tyA, a_tyB) y = b := by unfold gd_R; rw [b2]; exact nI_clamp (by omega)
  have dL : gd_D (a_tyK, a_tyG, a_tyA, a_tyB) a = gt_l (gt_t kd a_arg n (gp_ch kd n t 0)) := by rw [← eL]; exact gd_l y3 n1
  have dR : gd_D (a_tyK, a_tyG, a_tyA, a_tyB) b = gt_r (gt_t kd a_arg n (gp_ch kd n t 0)) := by rw [← eR]; exact gd_r y3 n1 n5
  dsimp only at a2 b2
  obtain ⟨g, g2, eg⟩ := gt_wf_g (gt_twf hA c0)
  rw [a2]
  refine gy_same hn I.1 z1 a1 (by rw [z3]; exact hfit) (fun same ea eb => br_f (by decide) ⟨vy, v, ?_⟩) (fun dif ea eb => br_t rfl (fl (fun w => dif (by rw [z3, dL]; exact w.2.symm)) ea eb))
  try dsimp only
  rw [et, b2, ky.2, eg]
  refine nm_e ⟨vy, ?_⟩
  refine gy_cb (s := gp_sn kd t) (m := 0) (sa := nI 0) (sb := nI 0) t32 (by omega) (S.2.2.2.2 t ht) g2 (by omega) (fun w hw => (u1 w hw).2) (fun w hw => (u0 w hw).2)
    (gy_rd (b := 0) (by omega) (by omega) (by omega) (fun w hw => (u1 w hw).1)) (gy_rd (b := 0) (by omega) (by omega) (by omega) (fun w hw => (u0 w hw).1)) ?_
  have e0 : gt_e2 kd a_arg n t = 0 := by
    unfold gt_e2
    rw [gt_if_f (by
      rintro (⟨q, _⟩ | ⟨_, q⟩ | ⟨q, _⟩)
      · omega
      · exact q ⟨ky.1.symm.trans k4, by rw [← dL, ← same, z3]⟩
      · omega), gt_if_f (by omega)]
  try dsimp only
  refine hOK e0 _ _ _ _ _ _ _ _ _ _ _ (gy_TI_add ok I ht (by omega) hnP (fun _ _ => ⟨rfl, rfl, rfl, rfl⟩) (gy_K1 hK1) (fun d hd => pk_un hd) ⟨b, gy_o_p b1, pk_us, ?_⟩ (fun j hj => gx_row_off (by omega) hj) (fun w hw => ?_) (fun _ _ => ⟨rfl, rfl, rfl⟩) (fun z => by omega) (fun z => by omega) (fun z => by omega))
  · rw [dR, gt_t10 ok ht hk]
  · rw [gx_row_in hw, gt_u10 ok ht hk]
    unfold gy_cf
    rw [if_pos rfl, gt_add_c, eg, nI_clamp (show g < 2 ^ 31 by omega)]
theorem gy_fLB {post : Int32 → SY → Prop} {kd : Nat → Nat} {n t fuel : Nat} {P : Nat → Prop} {x3 x6 : Int32} (A : gt_P kd a_arg n) (S : gy_S kd n a_kind a_ch a_par a_pos a_seen) (I : gy_TI kd a_arg n P a_ty a_bg a_ux a_uy a_u (a_tyK, a_tyG, a_tyA, a_tyB)) (ht : t < n) (hc : ∀ j, j < gp_ar (kd t) → ¬ kd (gp_ch kd n t j) ≤ 5 → P (gp_ch kd n t j)) (hnP : ¬ P t) (hK1 : a_tyK (32 + t) = 1) (hG0 : a_tyG (32 + t) = 0) (ety : a_ty t = nI (32 + t)) (eu : ∀ v, v < 32 → a_u (t * 32 + v) = 0) (hk : kd t = 17) (hOK : gt_e2 kd a_arg n t = 0 → ∀ ty bg ux uy u tK tG tA tB ea eb, gy_TI kd a_arg n (fun d => P d ∨ d = t) ty bg ux uy u (tK, tG, tA, tB) → post 1 (f_dLim, f_rLim, f_fLim, f_n, f_stat, f_err, f_out, f_vInt, f_recs, f_drf, f_fsp, a_kind, a_arg, a_ch, a_par, a_pos, a_seen, a_st, ty, tK, tG, tA, tB, u, bg, ux, uy, a_stk, ea, eb, a_rT, a_rE, a_rG, a_rN, a_rC, a_rX, a_fK, a_fA, a_fE)) (hF : ¬ gt_e2 kd a_arg n t = 0 → ∀ ty bg ux uy u tK tG tA tB ea eb, post (nI (gt_e2 kd a_arg n t)) (f_dLim, f_rLim, f_fLim, f_n, f_stat, f_err, f_out, f_vInt, f_recs, f_drf, f_fsp, a_kind, a_arg, a_ch, a_par, a_pos, a_seen, a_st, ty, tK, tG, tA, tB, u, bg, ux, uy, a_stk, ea, eb, a_rT, a_rE, a_rG, a_rN, a_rC, a_rX, a_fK, a_fA, a_fE)) : wY_finish_97 post (nI t) (nI 17) x3 (nI (gp_ch kd n t 0)) (nI (gp_ch kd n t 1)) x6 (nI (32 + t)) f_dLim f_rLim f_fLim f_n f_stat f_err f_out f_vInt f_recs f_drf f_fsp (fuel + 1) (nI 32) a_kind a_arg a_ch a_par a_pos a_seen a_st a_ty a_tyK a_tyG a_tyA a_tyB a_u a_bg a_ux a_uy a_stk a_eqA a_eqB a_rT a_rE a_rG a_rN a_rC a_rX a_fK a_fA a_fE := by
  have hA := A
  obtain ⟨ok, so, kr, sc, -⟩ := A
  have hn := ok.2.1
  have t32 : t < 32 := by omega
  have v := vp_in_nI t32 (by decide)
  have et : (nI t).toNatClampNeg = t := nI_clamp (by omega)
  have sl := gp_sn_lt ok ht
  have ar0 : 0 < gp_ar (kd t) := by rw [hk]; decide
  have ar1 : 1 < gp_ar (kd t) := by rw [hk]; decide
  have m0 := gp_tm_ch ok so ht (by omega) ar0 (by omega)
  have m1 := gp_tm_ch ok so ht (by omega) ar1 (by omega)
  have c0 := (gp_ch_lt ok ht ar0).1
  have c1 := (gp_ch_lt ok ht ar1).1
  have g0 := gp_ch_ge ok ht (Nat.le_of_lt ar0)
  have g1 := gp_ch_ge ok ht (Nat.le_of_lt ar1)
  obtain ⟨_, _, ⟨y, y1, y2, y3⟩, _⟩ := I.2.2 _ (hc 0 ar0 m0)
  obtain ⟨_, _, ⟨z, z1, z2, z3⟩, _⟩ := I.2.2 _ (hc 1 ar1 m1)
  have y64 := gy_o_lt hn y1
  have z64 := gy_o_lt hn z1
  have u0 := (gy_cu hA I ht ar0 (hc 0 ar0 m0) m0).1
  obtain ⟨u1, w1⟩ := gy_cu hA I ht ar1 (hc 1 ar1 m1) m1
  rw [show gp_bd (kd t) 0 = 0 from gp_bd_0 _] at u0
  rw [show gp_bd (kd t) 1 = 1 by rw [hk]; decide] at u1 w1
  have w0 := w1 0 (by omega)
  rw [show gp_sn kd t + 1 - 1 - 0 = gp_sn kd t by omega] at w0
  have ul := gt_ule hA c1 m1 (gp_sn kd t)
  have ky := (gd_k y3).2
  dsimp only at ky
  obtain ⟨g, g2, eg⟩ := gt_wf_g (gt_twf hA c0)
  have egn : (gt_g (gt_t kd a_arg n (gp_ch kd n t 0))).toNatClampNeg = g := by rw [eg]; exact nI_clamp (by omega)
  have nd : gt_nd kd a_arg n t = gt_u kd a_arg n (gp_ch kd n t 1) (gp_sn kd t) := by unfold gt_nd; rw [if_neg (by omega), if_neg (by omega)]
  refine br_t (by decide) ?_
  repeat (refine br_f (by decide) ?_)
  refine br_t (by decide) (gy_ug (v := 0) (by omega) (by omega) ?_)
  rw [w0, nI_clamp (show gp_ch kd n t 0 < 2 ^ 31 by omega), y2, nI_clamp (show y < 2 ^ 31 by omega), ky, eg, nI_clamp (show gp_ch kd n t 1 < 2 ^ 31 by omega), z2, et]
  refine ⟨vp_in_nI (by omega) (by decide), vp_in_nI y64 (by decide), nm_e (pk_le _ g (fun q => ?_) (fun q => ?_))⟩
  · refine ⟨v, nm_e ⟨v, nm_e ⟨vp_in_nI (by omega) (by decide), v, nm_e ?_⟩⟩⟩
    refine gy_cb (s := gp_sn kd t) (g := 1) (m := 0) (sa := nI 0) (sb := nI 1) t32 (by omega) (S.2.2.2.2 t ht) (by omega) (by omega) (fun w hw => (u0 w hw).2) (fun w hw => (u1 w hw).2)
      (gy_rd (b := 0) (by omega) (by omega) (by omega) (fun w hw => (u0 w hw).1)) (gy_rd (b := 1) (by omega) (by omega) (by omega) (fun w hw => (u1 w hw).1)) ?_
    have e0 : gt_e2 kd a_arg n t = 0 := by
      unfold gt_e2
      rw [gt_if_f (by omega), gt_if_f (by
        rintro (⟨r, _⟩ | ⟨_, r⟩)
        · omega
        · rw [nd, egn] at r; omega)]
    refine hOK e0 _ _ _ _ _ _ _ _ _ _ _ (gy_TI_add ok I ht (by omega) hnP (fun _ _ => ⟨rfl, rfl, rfl, rfl⟩) (gy_K1 hK1) (fun d hd => pk_un hd) ⟨z, gy_o_p z1, pk_us, ?_⟩ (fun j hj => gx_row_off (by omega) hj) (fun w hw => ?_) (fun d hd => ⟨pk_un hd, pk_un hd, rfl⟩) (fun _ => ⟨?_, ?_⟩) (fun z => by omega) (fun z => by omega))
    · rw [z3, gt_t17 ok ht hk]
    · rw [gx_row_in hw, gt_u17 ok ht hk]
      unfold gy_cf
      rw [if_pos rfl, gt_mul_1 (u0 w hw).2]
    · rw [pk_us, gt_b17 ok ht hk, egn]
    · rw [pk_us]
  · have e5 : gt_e2 kd a_arg n t = 5 := by
      unfold gt_e2
      rw [gt_if_f (by omega), gt_if_t (Or.inr ⟨hk, by rw [nd, egn]; exact q⟩)]
    have := hF (by rw [e5]; decide) a_ty a_bg a_ux a_uy a_u a_tyK a_tyG a_tyA a_tyB a_eqA a_eqB
    rw [e5] at this
    exact this
end

theorem gy_cu {kd : Nat → Nat} {ag : Nat → Int32} {n t j : Nat} {P : Nat → Prop} {ty bg ux uy u : Nat → Int32} {T : gd_Tb} (A : gt_P kd ag n) (I : gy_TI kd ag n P ty bg ux uy u T) (ht : t < n) (hj : j < gp_ar (kd t)) (hc : P (gp_ch kd n t j)) (hk : ¬ kd (gp_ch kd n t j) ≤ 5) :
    (∀ v, v < gp_sn kd t → u (gp_ch kd n t j * 32 + (v + gp_bd (kd t) j)) = nI (gt_u kd ag n (gp_ch kd n t j) (gp_sn kd t - 1 - v)) ∧ gt_u kd ag n (gp_ch kd n t j) (gp_sn kd t - 1 - v) ≤ 2) ∧
    (∀ w, w < gp_bd (kd t) j → u (gp_ch kd n t j * 32 + w) = nI (gt_u kd ag n (gp_ch kd n t j) (gp_sn kd t + gp_bd (kd t) j - 1 - w))) := by
  have ok := A.1
  have s := gp_sn_ch ok ht hj
  have r := (I.2.2 _ hc).2.2.2.1
  refine ⟨fun v hv => ⟨?_, gt_ule A (gp_ch_lt ok ht hj).1 hk _⟩, fun w hw => ?_⟩
  · rw [r _ (by omega), s]
    exact congrArg (fun x => nI (gt_u kd ag n (gp_ch kd n t j) x)) (by omega)
  · rw [r _ (by omega), s]
theorem gy_K1 {kd : Nat → Nat} {n t : Nat} {P : Nat → Prop} {T : gd_Tb} (h : T.1 (32 + t) = 1) : gy_c kd n P T (32 + t) := ⟨fun z => absurd h z, fun z => absurd h z⟩
theorem gy_o_t {kd : Nat → Nat} {n t : Nat} {P : Nat → Prop} (ht : t < n) (hk : ¬ kd t ≤ 5) : gy_o kd n (fun d => P d ∨ d = t) (32 + t) := Or.inr ⟨t, ht, Or.inr rfl, hk, rfl⟩
theorem gy_o_p {kd : Nat → Nat} {n t y : Nat} {P : Nat → Prop} (h : gy_o kd n P y) : gy_o kd n (fun d => P d ∨ d = t) y := gy_o_m (fun _ hd => Or.inl hd) h
section
variable {f_dLim f_rLim f_fLim f_n f_stat f_err f_out f_vInt f_recs f_drf f_fsp : Int32} {a_kind a_arg a_ch a_par a_pos a_seen a_st a_ty a_tyK a_tyG a_tyA a_tyB a_u a_bg a_ux a_uy a_stk a_eqA a_eqB a_rT a_rE a_rG a_rN a_rC a_rX a_fK a_fA a_fE : Nat → Int32}
theorem gy_fVar {post : Int32 → SY → Prop} {kd : Nat → Nat} {n t fuel : Nat} {P : Nat → Prop} {x4 x5 x6 : Int32} (A : gt_P kd a_arg n) (S : gy_S kd n a_kind a_ch a_par a_pos a_seen) (I : gy_TI kd a_arg n P a_ty a_bg a_ux a_uy a_u (a_tyK, a_tyG, a_tyA, a_tyB)) (ht : t < n) (hc : ∀ j, j < gp_ar (kd t) → ¬ kd (gp_ch kd n t j) ≤ 5 → P (gp_ch kd n t j)) (hnP : ¬ P t) (hK1 : a_tyK (32 + t) = 1) (hG0 : a_tyG (32 + t) = 0) (ety : a_ty t = nI (32 + t)) (eu : ∀ v, v < 32 → a_u (t * 32 + v) = 0) (hk : kd t = 6) (hB : gy_HB kd a_arg n P t) (hOK : gt_e2 kd a_arg n t = 0 → ∀ ty bg ux uy u tK tG tA tB ea eb, gy_TI kd a_arg n (fun d => P d ∨ d = t) ty bg ux uy u (tK, tG, tA, tB) → post 1 (f_dLim, f_rLim, f_fLim, f_n, f_stat, f_err, f_out, f_vInt, f_recs, f_drf, f_fsp, a_kind, a_arg, a_ch, a_par, a_pos, a_seen, a_st, ty, tK, tG, tA, tB, u, bg, ux, uy, a_stk, ea, eb, a_rT, a_rE, a_rG, a_rN, a_rC, a_rX, a_fK, a_fA, a_fE)) : wY_finish_97 post (nI t) (nI 6) (a_arg t) x4 x5 x6 (nI (32 + t)) f_dLim f_rLim f_fLim f_n f_stat f_err f_out f_vInt f_recs f_drf f_fsp (fuel + 1) (nI 32) a_kind a_arg a_ch a_par a_pos a_seen a_st a_ty a_tyK a_tyG a_tyA a_tyB a_u a_bg a_ux a_uy a_stk a_eqA a_eqB a_rT a_rE a_rG a_rN a_rC a_rX a_fK a_fA a_fE := by
  have hA := A
  obtain ⟨ok, so, kr, sc, -⟩ := A
  have hn := ok.2.1
  have t32 : t < 32 := by omega
  have v := vp_in_nI t32 (by decide)
  have et : (nI t).toNatClampNeg = t := nI_clamp (by omega)
  have sl := gp_sn_lt ok ht
  obtain ⟨i, hi, ei⟩ := sc t ht hk
  have lv : gt_lv kd a_arg t = gp_sn kd t - 1 - i := by unfold gt_lv; rw [ei, nI_clamp (by omega)]
  refine br_t (by decide) (br_t (by decide) ?_)
  rw [ei]
  refine gy_vt hA S I ht hi hB (fun y hy hD => ⟨v, ?_⟩)
  rw [et, gx_ix, nI_clamp (show t * 32 + i < 2 ^ 31 by omega)]
  refine nm_e ⟨vp_in_nI (by omega) (by decide), nm_e (hOK (gt_e2_z (by omega)) _ _ _ _ _ _ _ _ _ _ _ (gy_TI_add ok I ht (by omega) hnP (fun _ _ => ⟨rfl, rfl, rfl, rfl⟩) (gy_K1 hK1) (fun d hd => pk_un hd) ⟨y, gy_o_p hy, pk_us, ?_⟩ (fun j hj => pk_un (by omega)) (fun w hw => ?_) (fun _ _ => ⟨rfl, rfl, rfl⟩) (fun z => by omega) (fun z => by omega) (fun z => by omega)))⟩
  · rw [hD, gt_t6 ok ht hk (gt_P_lv hA ht hk), lv]
  · rw [gt_u6 ok ht hk (gt_P_lv hA ht hk), lv]
    by_cases z : w = i
    · rw [z, pk_us, if_pos rfl]; rfl
    · rw [pk_un (by omega), if_neg (by omega)]
      exact eu w (by omega)
theorem gy_fLit {post : Int32 → SY → Prop} {kd : Nat → Nat} {n t fuel : Nat} {P : Nat → Prop} {x3 x4 x5 x6 : Int32} (A : gt_P kd a_arg n) (S : gy_S kd n a_kind a_ch a_par a_pos a_seen) (I : gy_TI kd a_arg n P a_ty a_bg a_ux a_uy a_u (a_tyK, a_tyG, a_tyA, a_tyB)) (ht : t < n) (hc : ∀ j, j < gp_ar (kd t) → ¬ kd (gp_ch kd n t j) ≤ 5 → P (gp_ch kd n t j)) (hnP : ¬ P t) (hK1 : a_tyK (32 + t) = 1) (hG0 : a_tyG (32 + t) = 0) (ety : a_ty t = nI (32 + t)) (eu : ∀ v, v < 32 → a_u (t * 32 + v) = 0) (hk : kd t = 7) (hOK : gt_e2 kd a_arg n t = 0 → ∀ ty bg ux uy u tK tG tA tB ea eb, gy_TI kd a_arg n (fun d => P d ∨ d = t) ty bg ux uy u (tK, tG, tA, tB) → post 1 (f_dLim, f_rLim, f_fLim, f_n, f_stat, f_err, f_out, f_vInt, f_recs, f_drf, f_fsp, a_kind, a_arg, a_ch, a_par, a_pos, a_seen, a_st, ty, tK, tG, tA, tB, u, bg, ux, uy, a_stk, ea, eb, a_rT, a_rE, a_rG, a_rN, a_rC, a_rX, a_fK, a_fA, a_fE)) : wY_finish_97 post (nI t) (nI 7) x3 x4 x5 x6 (nI (32 + t)) f_dLim f_rLim f_fLim f_n f_stat f_err f_out f_vInt f_recs f_drf f_fsp (fuel + 1) (nI 32) a_kind a_arg a_ch a_par a_pos a_seen a_st a_ty a_tyK a_tyG a_tyA a_tyB a_u a_bg a_ux a_uy a_stk a_eqA a_eqB a_rT a_rE a_rG a_rN a_rC a_rX a_fK a_fA a_fE := by
  have hA := A
  obtain ⟨ok, so, kr, sc, -⟩ := A
  have hn := ok.2.1
  have sl := gp_sn_lt ok ht
  refine br_t (by decide) (br_f (by decide) (br_t (by decide) ?_))
  refine hOK (gt_e2_z (by omega)) _ _ _ _ _ _ _ _ _ _ _ (gy_TI_add ok I ht (by omega) hnP (fun _ _ => ⟨rfl, rfl, rfl, rfl⟩) (gy_K1 hK1) (fun d hd => rfl) ⟨32 + t, gy_o_t ht (by omega), ety, ?_⟩ (fun j hj => rfl) (fun w hw => ?_) (fun _ _ => ⟨rfl, rfl, rfl⟩) (fun z => by omega) (fun z => by omega) (fun z => by omega))
  · rw [gd_mkD, gt_t7 ok ht hk]
    dsimp only
    rw [hK1, hG0]
    exact gt_mk_1
  · rw [gt_u7 ok ht hk]
    exact eu w (by omega)
theorem gy_fAdd {post : Int32 → SY → Prop} {kd : Nat → Nat} {n t fuel : Nat} {P : Nat → Prop} {x3 x6 : Int32} (A : gt_P kd a_arg n) (S : gy_S kd n a_kind a_ch a_par a_pos a_seen) (I : gy_TI kd a_arg n P a_ty a_bg a_ux a_uy a_u (a_tyK, a_tyG, a_tyA, a_tyB)) (ht : t < n) (hc : ∀ j, j < gp_ar (kd t) → ¬ kd (gp_ch kd n t j) ≤ 5 → P (gp_ch kd n t j)) (hnP : ¬ P t) (hK1 : a_tyK (32 + t) = 1) (hG0 : a_tyG (32 + t) = 0) (ety : a_ty t = nI (32 + t)) (eu : ∀ v, v < 32 → a_u (t * 32 + v) = 0) (hk : kd t = 8) (hOK : gt_e2 kd a_arg n t = 0 → ∀ ty bg ux uy u tK tG tA tB ea eb, gy_TI kd a_arg n (fun d => P d ∨ d = t) ty bg ux uy u (tK, tG, tA, tB) → post 1 (f_dLim, f_rLim, f_fLim, f_n, f_stat, f_err, f_out, f_vInt, f_recs, f_drf, f_fsp, a_kind, a_arg, a_ch, a_par, a_pos, a_seen, a_st, ty, tK, tG, tA, tB, u, bg, ux, uy, a_stk, ea, eb, a_rT, a_rE, a_rG, a_rN, a_rC, a_rX, a_fK, a_fA, a_fE)) (hF : ¬ gt_e2 kd a_arg n t = 0 → ∀ ty bg ux uy u tK tG tA tB ea eb, post (nI (gt_e2 kd a_arg n t)) (f_dLim, f_rLim, f_fLim, f_n, f_stat, f_err, f_out, f_vInt, f_recs, f_drf, f_fsp, a_kind, a_arg, a_ch, a_par, a_pos, a_seen, a_st, ty, tK, tG, tA, tB, u, bg, ux, uy, a_stk, ea, eb, a_rT, a_rE, a_rG, a_rN, a_rC, a_rX, a_fK, a_fA, a_fE)) : wY_finish_97 post (nI t) (nI 8) x3 (nI (gp_ch kd n t 0)) (nI (gp_ch kd n t 1)) x6 (nI (32 + t)) f_dLim f_rLim f_fLim f_n f_stat f_err f_out f_vInt f_recs f_drf f_fsp (fuel + 1) (nI 32) a_kind a_arg a_ch a_par a_pos a_seen a_st a_ty a_tyK a_tyG a_tyA a_tyB a_u a_bg a_ux a_uy a_stk a_eqA a_eqB a_rT a_rE a_rG a_rN a_rC a_rX a_fK a_fA a_fE := by
  have hA := A
  obtain ⟨ok, so, kr, sc, -⟩ := A
  have hn := ok.2.1
  have t32 : t < 32 := by omega
  have sl := gp_sn_lt ok ht
  have ar0 : 0 < gp_ar (kd t) := by rw [hk]; decide
  have ar1 : 1 < gp_ar (kd t) := by rw [hk]; decide
  have m0 := gp_tm_ch ok so ht (by omega) ar0 (by omega)
  have m1 := gp_tm_ch ok so ht (by omega) ar1 (by omega)
  have c0 := (gp_ch_lt ok ht ar0).1
  have c1 := (gp_ch_lt ok ht ar1).1
  have g0 := gp_ch_ge ok ht (Nat.le_of_lt ar0)
  have g1 := gp_ch_ge ok ht (Nat.le_of_lt ar1)
  obtain ⟨_, _, ⟨y, y1, y2, y3⟩, _⟩ := I.2.2 _ (hc 0 ar0 m0)
  obtain ⟨_, _, ⟨z, z1, z2, z3⟩, _⟩ := I.2.2 _ (hc 1 ar1 m1)
  have y64 := gy_o_lt hn y1
  have z64 := gy_o_lt hn z1
  have u0 := (gy_cu hA I ht ar0 (hc 0 ar0 m0) m0).1
  have u1 := (gy_cu hA I ht ar1 (hc 1 ar1 m1) m1).1
  rw [show gp_bd (kd t) 0 = 0 from gp_bd_0 _] at u0
  rw [show gp_bd (kd t) 1 = 0 by rw [hk]; decide] at u1
  have ky := (gd_k y3).1
  have kz := (gd_k z3).1
  dsimp only at ky kz
  have fl : ¬ (gt_k (gt_t kd a_arg n (gp_ch kd n t 0)) = 1 ∧ gt_k (gt_t kd a_arg n (gp_ch kd n t 1)) = 1) → post 4 (f_dLim, f_rLim, f_fLim, f_n, f_stat, f_err, f_out, f_vInt, f_recs, f_drf, f_fsp, a_kind, a_arg, a_ch, a_par, a_pos, a_seen, a_st, a_ty, a_tyK, a_tyG, a_tyA, a_tyB, a_u, a_bg, a_ux, a_uy, a_stk, a_eqA, a_eqB, a_rT, a_rE, a_rG, a_rN, a_rC, a_rX, a_fK, a_fA, a_fE) := fun w => by
    have e4 : gt_e2 kd a_arg n t = 4 := gt_if_t (Or.inl ⟨hk, w⟩)
    have := hF (by rw [e4]; decide) a_ty a_bg a_ux a_uy a_u a_tyK a_tyG a_tyA a_tyB a_eqA a_eqB
    rw [e4] at this
    exact this
  refine br_t (by decide) (br_f (by decide) (br_f (by decide) (br_t (by decide) ?_)))
  rw [nI_clamp (show gp_ch kd n t 0 < 2 ^ 31 by omega), nI_clamp (show gp_ch kd n t 1 < 2 ^ 31 by omega), y2, z2, nI_clamp (show y < 2 ^ 31 by omega), nI_clamp (show z < 2 ^ 31 by omega)]
  refine ⟨vp_in_nI (by omega) (by decide), vp_in_nI y64 (by decide), br_c (fun k1 => ⟨vp_in_nI (by omega) (by decide), vp_in_nI z64 (by decide), br_c (fun k2 => ?_) (fun k2 => fl (fun w => k2 (kz.trans w.2)))⟩) (fun k1 => fl (fun w => k1 (ky.trans w.1)))⟩
  refine gy_cb (s := gp_sn kd t) (g := 1) (m := 0) (sa := nI 0) (sb := nI 0) t32 (by omega) (S.2.2.2.2 t ht) (by omega) (by omega) (fun w hw => (u0 w hw).2) (fun w hw => (u1 w hw).2)
    (gy_rd (b := 0) (by omega) (by omega) (by omega) (fun w hw => (u0 w hw).1)) (gy_rd (b := 0) (by omega) (by omega) (by omega) (fun w hw => (u1 w hw).1)) ?_
  have e0 : gt_e2 kd a_arg n t = 0 := by
    unfold gt_e2
    rw [gt_if_f (by
      rintro (⟨_, q⟩ | ⟨q, _⟩ | ⟨q, _⟩)
      · exact q ⟨ky.symm.trans k1, kz.symm.trans k2⟩
      · omega
      · omega), gt_if_f (by omega)]
  refine hOK e0 _ _ _ _ _ _ _ _ _ _ _ (gy_TI_add ok I ht (by omega) hnP (fun _ _ => ⟨rfl, rfl, rfl, rfl⟩) (gy_K1 hK1) (fun d hd => rfl) ⟨32 + t, gy_o_t ht (by omega), ety, ?_⟩ (fun j hj => gx_row_off (by omega) hj) (fun w hw => ?_) (fun _ _ => ⟨rfl, rfl, rfl⟩) (fun z => by omega) (fun z => by omega) (fun z => by omega))
  · rw [gd_mkD, gt_t8 ok ht hk, gt_int hA c0 (ky.symm.trans k1) (fun _ => none) (fun _ => none)]
    dsimp only
    rw [hK1, hG0]
    exact gt_mk_1
  · rw [gx_row_in hw, gt_u8 ok ht hk]
    unfold gy_cf
    rw [if_pos rfl, gt_mul_1 (u0 w hw).2]
theorem gy_fPair {post : Int32 → SY → Prop} {kd : Nat → Nat} {n t fuel : Nat} {P : Nat → Prop} {x3 x6 : Int32} (A : gt_P kd a_arg n) (S : gy_S kd n a_kind a_ch a_par a_pos a_seen) (I : gy_TI kd a_arg n P a_ty a_bg a_ux a_uy a_u (a_tyK, a_tyG, a_tyA, a_tyB)) (ht : t < n) (hc : ∀ j, j < gp_ar (kd t) → ¬ kd (gp_ch kd n t j) ≤ 5 → P (gp_ch kd n t j)) (hnP : ¬ P t) (hK1 : a_tyK (32 + t) = 1) (hG0 : a_tyG (32 + t) = 0) (ety : a_ty t = nI (32 + t)) (eu : ∀ v, v < 32 → a_u (t * 32 + v) = 0) (hk : kd t = 11) (hOK : gt_e2 kd a_arg n t = 0 → ∀ ty bg ux uy u tK tG tA tB ea eb, gy_TI kd a_arg n (fun d => P d ∨ d = t) ty bg ux uy u (tK, tG, tA, tB) → post 1 (f_dLim, f_rLim, f_fLim, f_n, f_stat, f_err, f_out, f_vInt, f_recs, f_drf, f_fsp, a_kind, a_arg, a_ch, a_par, a_pos, a_seen, a_st, ty, tK, tG, tA, tB, u, bg, ux, uy, a_stk, ea, eb, a_rT, a_rE, a_rG, a_rN, a_rC, a_rX, a_fK, a_fA, a_fE)) : wY_finish_97 post (nI t) (nI 11) x3 (nI (gp_ch kd n t 0)) (nI (gp_ch kd n t 1)) x6 (nI (32 + t)) f_dLim f_rLim f_fLim f_n f_stat f_err f_out f_vInt f_recs f_drf f_fsp (fuel + 1) (nI 32) a_kind a_arg a_ch a_par a_pos a_seen a_st a_ty a_tyK a_tyG a_tyA a_tyB a_u a_bg a_ux a_uy a_stk a_eqA a_eqB a_rT a_rE a_rG a_rN a_rC a_rX a_fK a_fA a_fE := by
  have hA := A
  obtain ⟨ok, so, kr, sc, -⟩ := A
  have hn := ok.2.1
  have t32 : t < 32 := by omega
  have sl := gp_sn_lt ok ht
  have ar0 : 0 < gp_ar (kd t) := by rw [hk]; decide
  have ar1 : 1 < gp_ar (kd t) := by rw [hk]; decide
  have m0 := gp_tm_ch ok so ht (by omega) ar0 (by omega)
  have m1 := gp_tm_ch ok so ht (by omega) ar1 (by omega)
  have c0 := (gp_ch_lt ok ht ar0).1
  have c1 := (gp_ch_lt ok ht ar1).1
  have g0 := gp_ch_ge ok ht (Nat.le_of_lt ar0)
  have g1 := gp_ch_ge ok ht (Nat.le_of_lt ar1)
  obtain ⟨_, _, ⟨y, y1, y2, y3⟩, _⟩ := I.2.2 _ (hc 0 ar0 m0)
  obtain ⟨_, _, ⟨z, z1, z2, z3⟩, _⟩ := I.2.2 _ (hc 1 ar1 m1)
  have y64 := gy_o_lt hn y1
  have z64 := gy_o_lt hn z1
  have u0 := (gy_cu hA I ht ar0 (hc 0 ar0 m0) m0).1
  have u1 := (gy_cu hA I ht ar1 (hc 1 ar1 m1) m1).1
  rw [show gp_bd (kd t) 0 = 0 from gp_bd_0 _] at u0
  rw [show gp_bd (kd t) 1 = 0 by rw [hk]; decide] at u1
  have v64 := vp_in_nI (show 32 + t < 64 by omega) (by decide)
  refine br_t (by decide) ?_
  repeat (refine br_f (by decide) ?_)
  refine br_t (by decide) ?_
  rw [nI_clamp (show gp_ch kd n t 0 < 2 ^ 31 by omega), nI_clamp (show gp_ch kd n t 1 < 2 ^ 31 by omega), y2, z2, nI_clamp (show 32 + t < 2 ^ 31 by omega)]
  refine ⟨v64, nm_e ⟨vp_in_nI (by omega) (by decide), v64, nm_e ⟨vp_in_nI (by omega) (by decide), v64, nm_e ?_⟩⟩⟩
  refine gy_cb (s := gp_sn kd t) (g := 1) (m := 0) (sa := nI 0) (sb := nI 0) t32 (by omega) (S.2.2.2.2 t ht) (by omega) (by omega) (fun w hw => (u0 w hw).2) (fun w hw => (u1 w hw).2)
    (gy_rd (b := 0) (by omega) (by omega) (by omega) (fun w hw => (u0 w hw).1)) (gy_rd (b := 0) (by omega) (by omega) (by omega) (fun w hw => (u1 w hw).1)) ?_
  have hT : ∀ x, x ≠ 32 + t → upd a_tyK (32 + t) 2 x = a_tyK x ∧ a_tyG x = a_tyG x ∧ upd a_tyA (32 + t) (nI y) x = a_tyA x ∧ upd a_tyB (32 + t) (nI z) x = a_tyB x := fun x hx => ⟨pk_un hx, rfl, pk_un hx, pk_un hx⟩
  have st := fun {x : Nat} (hx : gy_o kd n P x) => gy_st (T' := (upd a_tyK (32 + t) 2, a_tyG, upd a_tyA (32 + t) (nI y), upd a_tyB (32 + t) (nI z))) hn I hnP hT hx
  refine hOK (gt_e2_z (by omega)) _ _ _ _ _ _ _ _ _ _ _ (gy_TI_add ok I ht (by omega) hnP hT ⟨fun _ => ⟨y, gy_o_p y1, pk_us⟩, fun _ _ => ⟨z, gy_o_p z1, pk_us⟩⟩ (fun d hd => rfl) ⟨32 + t, gy_o_t ht (by omega), ety, ?_⟩ (fun j hj => gx_row_off (by omega) hj) (fun w hw => ?_) (fun _ _ => ⟨rfl, rfl, rfl⟩) (fun z => by omega) (fun z => by omega) (fun z => by omega))
  · rw [gd_mkD]
    unfold gd_L gd_R
    dsimp only
    rw [pk_us, pk_us, pk_us, nI_clamp (show y < 2 ^ 31 by omega), nI_clamp (show z < 2 ^ 31 by omega), st y1, st z1, y3, z3, hG0, gt_t11 ok ht hk]
  · rw [gx_row_in hw, gt_u11 ok ht hk]
    unfold gy_cf
    rw [if_pos rfl, gt_mul_1 (u0 w hw).2]
theorem gy_fIn {post : Int32 → SY → Prop} {kd : Nat → Nat} {n t fuel : Nat} {P : Nat → Prop} {x3 x6 : Int32} (A : gt_P kd a_arg n) (S : gy_S kd n a_kind a_ch a_par a_pos a_seen) (I : gy_TI kd a_arg n P a_ty a_bg a_ux a_uy a_u (a_tyK, a_tyG, a_tyA, a_tyB)) (ht : t < n) (hc : ∀ j, j < gp_ar (kd t) → ¬ kd (gp_ch kd n t j) ≤ 5 → P (gp_ch kd n t j)) (hnP : ¬ P t) (hK1 : a_tyK (32 + t) = 1) (hG0 : a_tyG (32 + t) = 0) (ety : a_ty t = nI (32 + t)) (eu : ∀ v, v < 32 → a_u (t * 32 + v) = 0) (hk : kd t = 13 ∨ kd t = 14) (hOK : gt_e2 kd a_arg n t = 0 → ∀ ty bg ux uy u tK tG tA tB ea eb, gy_TI kd a_arg n (fun d => P d ∨ d = t) ty bg ux uy u (tK, tG, tA, tB) → post 1 (f_dLim, f_rLim, f_fLim, f_n, f_stat, f_err, f_out, f_vInt, f_recs, f_drf, f_fsp, a_kind, a_arg, a_ch, a_par, a_pos, a_seen, a_st, ty, tK, tG, tA, tB, u, bg, ux, uy, a_stk, ea, eb, a_rT, a_rE, a_rG, a_rN, a_rC, a_rX, a_fK, a_fA, a_fE)) : wY_finish_97 post (nI t) (nI (kd t)) x3 (nI (gp_ch kd n t 0)) (nI (gp_ch kd n t 1)) x6 (nI (32 + t)) f_dLim f_rLim f_fLim f_n f_stat f_err f_out f_vInt f_recs f_drf f_fsp (fuel + 1) (nI 32) a_kind a_arg a_ch a_par a_pos a_seen a_st a_ty a_tyK a_tyG a_tyA a_tyB a_u a_bg a_ux a_uy a_stk a_eqA a_eqB a_rT a_rE a_rG a_rN a_rC a_rX a_fK a_fA a_fE := by
  have hA := A
  obtain ⟨ok, so, kr, sc, -⟩ := A
  have hn := ok.2.1
  have t32 : t < 32 := by omega
  have sl := gp_sn_lt ok ht
  have ar : gp_ar (kd t) = 2 := by rcases hk with e | e <;> rw [e] <;> decide
  have ar0 : 0 < gp_ar (kd t) := by omega
  have ar1 : 1 < gp_ar (kd t) := by omega
  have m0 := gp_ty_c0 ok so ht (by omega)
  have m1 := gp_tm_ch ok so ht (by omega) ar1 (by omega)
  have c0 := (gp_ch_lt ok ht ar0).1
  have c1 := (gp_ch_lt ok ht ar1).1
  have g1 := gp_ch_ge ok ht (Nat.le_of_lt ar1)
  have y1 : gy_o kd n P (gp_ch kd n t 0) := Or.inl ⟨c0, m0⟩
  have y3 := I.2.1 _ c0 m0
  obtain ⟨_, _, ⟨z, z1, z2, z3⟩, _⟩ := I.2.2 _ (hc 1 ar1 m1)
  have z64 := gy_o_lt hn z1
  have u1 := (gy_cu hA I ht ar1 (hc 1 ar1 m1) m1).1
  rw [show gp_bd (kd t) 1 = 0 by rcases hk with e | e <;> rw [e] <;> decide] at u1
  have v64 := vp_in_nI (show 32 + t < 64 by omega) (by decide)
  rcases hk with e | e
  · rw [e]
    refine br_t (by decide) ?_
    repeat (refine br_f (by decide) ?_)
    refine br_t (by decide) ?_
    rw [nI_clamp (show gp_ch kd n t 1 < 2 ^ 31 by omega), z2, nI_clamp (show 32 + t < 2 ^ 31 by omega)]
    refine ⟨v64, nm_e ⟨vp_in_nI (by omega) (by decide), v64, nm_e ⟨v64, nm_e ?_⟩⟩⟩
    refine gy_cb (s := gp_sn kd t) (g := 1) (m := 0) (sa := nI 0) (sb := nI 0) (pb := fun _ => 0) t32 (by omega) (S.2.2.2.2 t ht) (by omega) (by omega) (fun w hw => (u1 w hw).2) (fun w hw => by omega)
      (gy_rd (b := 0) (by omega) (by omega) (by omega) (fun w hw => (u1 w hw).1)) gy_rd0 ?_
    have hT : ∀ x, x ≠ 32 + t → upd a_tyK (32 + t) 3 x = a_tyK x ∧ a_tyG x = a_tyG x ∧ upd a_tyA (32 + t) (nI z) x = a_tyA x ∧ upd a_tyB (32 + t) (nI (gp_ch kd n t 0)) x = a_tyB x := fun x hx => ⟨pk_un hx, rfl, pk_un hx, pk_un hx⟩
    have st := fun {x : Nat} (hx : gy_o kd n P x) => gy_st (T' := (upd a_tyK (32 + t) 3, a_tyG, upd a_tyA (32 + t) (nI z), upd a_tyB (32 + t) (nI (gp_ch kd n t 0)))) hn I hnP hT hx
    refine hOK (gt_e2_z (by omega)) _ _ _ _ _ _ _ _ _ _ _ (gy_TI_add ok I ht (by omega) hnP hT ⟨fun _ => ⟨z, gy_o_p z1, pk_us⟩, fun _ _ => ⟨_, gy_o_p y1, pk_us⟩⟩ (fun d hd => rfl) ⟨32 + t, gy_o_t ht (by omega), ety, ?_⟩ (fun j hj => gx_row_off (by omega) hj) (fun w hw => ?_) (fun _ _ => ⟨rfl, rfl, rfl⟩) (fun z => by omega) (fun z => by omega) (fun z => by omega))
    · rw [gd_mkD]
      unfold gd_L gd_R
      dsimp only
      rw [pk_us, pk_us, pk_us, nI_clamp (show gp_ch kd n t 0 < 2 ^ 31 by omega), nI_clamp (show z < 2 ^ 31 by omega), st y1, st z1, y3, z3, hG0, gt_t13 ok ht e]
    · rw [gx_row_in hw, gt_u13 ok ht e]
      unfold gy_cf
      rw [if_pos rfl, gt_mul_1 (u1 w hw).2, gt_add_0 (u1 w hw).2]
  · rw [e]
    refine br_t (by decide) ?_
    repeat (refine br_f (by decide) ?_)
    refine br_t (by decide) ?_
    rw [nI_clamp (show gp_ch kd n t 1 < 2 ^ 31 by omega), z2, nI_clamp (show 32 + t < 2 ^ 31 by omega)]
    refine ⟨v64, nm_e ⟨v64, nm_e ⟨vp_in_nI (by omega) (by decide), v64, nm_e ?_⟩⟩⟩
    refine gy_cb (s := gp_sn kd t) (g := 1) (m := 0) (sa := nI 0) (sb := nI 0) (pb := fun _ => 0) t32 (by omega) (S.2.2.2.2 t ht) (by omega) (by omega) (fun w hw => (u1 w hw).2) (fun w hw => by omega)
      (gy_rd (b := 0) (by omega) (by omega) (by omega) (fun w hw => (u1 w hw).1)) gy_rd0 ?_
    have hT : ∀ x, x ≠ 32 + t → upd a_tyK (32 + t) 3 x = a_tyK x ∧ a_tyG x = a_tyG x ∧ upd a_tyA (32 + t) (nI (gp_ch kd n t 0)) x = a_tyA x ∧ upd a_tyB (32 + t) (nI z) x = a_tyB x := fun x hx => ⟨pk_un hx, rfl, pk_un hx, pk_un hx⟩
    have st := fun {x : Nat} (hx : gy_o kd n P x) => gy_st (T' := (upd a_tyK (32 + t) 3, a_tyG, upd a_tyA (32 + t) (nI (gp_ch kd n t 0)), upd a_tyB (32 + t) (nI z))) hn I hnP hT hx
    refine hOK (gt_e2_z (by omega)) _ _ _ _ _ _ _ _ _ _ _ (gy_TI_add ok I ht (by omega) hnP hT ⟨fun _ => ⟨_, gy_o_p y1, pk_us⟩, fun _ _ => ⟨z, gy_o_p z1, pk_us⟩⟩ (fun d hd => rfl) ⟨32 + t, gy_o_t ht (by omega), ety, ?_⟩ (fun j hj => gx_row_off (by omega) hj) (fun w hw => ?_) (fun _ _ => ⟨rfl, rfl, rfl⟩) (fun z => by omega) (fun z => by omega) (fun z => by omega))
    · rw [gd_mkD]
      unfold gd_L gd_R
      dsimp only
      rw [pk_us, pk_us, pk_us, nI_clamp (show gp_ch kd n t 0 < 2 ^ 31 by omega), nI_clamp (show z < 2 ^ 31 by omega), st y1, st z1, y3, z3, hG0, gt_t14 ok ht e]
    · rw [gx_row_in hw, gt_u14 ok ht e]
      unfold gy_cf
      rw [if_pos rfl, gt_mul_1 (u1 w hw).2, gt_add_0 (u1 w hw).2]
theorem gy_fBox {post : Int32 → SY → Prop} {kd : Nat → Nat} {n t fuel : Nat} {P : Nat → Prop} {x5 x6 : Int32} (A : gt_P kd a_arg n) (S : gy_S kd n a_kind a_ch a_par a_pos a_seen) (I : gy_TI kd a_arg n P a_ty a_bg a_ux a_uy a_u (a_tyK, a_tyG, a_tyA, a_tyB)) (ht : t < n) (hc : ∀ j, j < gp_ar (kd t) → ¬ kd (gp_ch kd n t j) ≤ 5 → P (gp_ch kd n t j)) (hnP : ¬ P t) (hK1 : a_tyK (32 + t) = 1) (hG0 : a_tyG (32 + t) = 0) (ety : a_ty t = nI (32 + t)) (eu : ∀ v, v < 32 → a_u (t * 32 + v) = 0) (hk : kd t = 16) (hOK : gt_e2 kd a_arg n t = 0 → ∀ ty bg ux uy u tK tG tA tB ea eb, gy_TI kd a_arg n (fun d => P d ∨ d = t) ty bg ux uy u (tK, tG, tA, tB) → post 1 (f_dLim, f_rLim, f_fLim, f_n, f_stat, f_err, f_out, f_vInt, f_recs, f_drf, f_fsp, a_kind, a_arg, a_ch, a_par, a_pos, a_seen, a_st, ty, tK, tG, tA, tB, u, bg, ux, uy, a_stk, ea, eb, a_rT, a_rE, a_rG, a_rN, a_rC, a_rX, a_fK, a_fA, a_fE)) : wY_finish_97 post (nI t) (nI 16) (a_arg t) (nI (gp_ch kd n t 0)) x5 x6 (nI (32 + t)) f_dLim f_rLim f_fLim f_n f_stat f_err f_out f_vInt f_recs f_drf f_fsp (fuel + 1) (nI 32) a_kind a_arg a_ch a_par a_pos a_seen a_st a_ty a_tyK a_tyG a_tyA a_tyB a_u a_bg a_ux a_uy a_stk a_eqA a_eqB a_rT a_rE a_rG a_rN a_rC a_rX a_fK a_fA a_fE := by
  have hA := A
  obtain ⟨ok, so, kr, sc, ag2, -⟩ := A
  have hn := ok.2.1
  have t32 : t < 32 := by omega
  have sl := gp_sn_lt ok ht
  have ar0 : 0 < gp_ar (kd t) := by rw [hk]; decide
  have m0 := gp_tm_ch ok so ht (by omega) ar0 (by omega)
  have c0 := (gp_ch_lt ok ht ar0).1
  have g0 := gp_ch_ge ok ht (Nat.le_of_lt ar0)
  obtain ⟨_, _, ⟨y, y1, y2, y3⟩, _⟩ := I.2.2 _ (hc 0 ar0 m0)
  have y64 := gy_o_lt hn y1
  have u0 := (gy_cu hA I ht ar0 (hc 0 ar0 m0) m0).1
  rw [show gp_bd (kd t) 0 = 0 from gp_bd_0 _] at u0
  have v64 := vp_in_nI (show 32 + t < 64 by omega) (by decide)
  obtain ⟨g, g2, eg⟩ := ag2 t ht (by omega)
  refine br_t (by decide) ?_
  repeat (refine br_f (by decide) ?_)
  refine br_t (by decide) ?_
  rw [nI_clamp (show gp_ch kd n t 0 < 2 ^ 31 by omega), y2, nI_clamp (show 32 + t < 2 ^ 31 by omega), eg]
  refine ⟨v64, nm_e ⟨v64, nm_e ⟨vp_in_nI (by omega) (by decide), v64, nm_e ?_⟩⟩⟩
  refine gy_cb (s := gp_sn kd t) (g := g) (m := 0) (sa := nI 0) (sb := nI 0) (pb := fun _ => 0) t32 (by omega) (S.2.2.2.2 t ht) g2 (by omega) (fun w hw => (u0 w hw).2) (fun w hw => by omega)
    (gy_rd (b := 0) (by omega) (by omega) (by omega) (fun w hw => (u0 w hw).1)) gy_rd0 ?_
  have hT : ∀ x, x ≠ 32 + t → upd a_tyK (32 + t) 5 x = a_tyK x ∧ upd a_tyG (32 + t) (nI g) x = a_tyG x ∧ upd a_tyA (32 + t) (nI y) x = a_tyA x ∧ a_tyB x = a_tyB x := fun x hx => ⟨pk_un hx, pk_un hx, pk_un hx, rfl⟩
  have st := fun {x : Nat} (hx : gy_o kd n P x) => gy_st (T' := (upd a_tyK (32 + t) 5, upd a_tyG (32 + t) (nI g), upd a_tyA (32 + t) (nI y), a_tyB)) hn I hnP hT hx
  refine hOK (gt_e2_z (by omega)) _ _ _ _ _ _ _ _ _ _ _ (gy_TI_add ok I ht (by omega) hnP hT ⟨fun _ => ⟨y, gy_o_p y1, pk_us⟩, fun _ z => absurd pk_us z⟩ (fun d hd => rfl) ⟨32 + t, gy_o_t ht (by omega), ety, ?_⟩ (fun j hj => gx_row_off (by omega) hj) (fun w hw => ?_) (fun _ _ => ⟨rfl, rfl, rfl⟩) (fun z => by omega) (fun z => by omega) (fun z => by omega))
  · rw [gd_mkD]
    unfold gd_L
    dsimp only
    rw [pk_us, pk_us, pk_us, nI_clamp (show y < 2 ^ 31 by omega), st y1, y3, gt_t16 ok ht hk, eg]
    exact gt_mk_5
  · rw [gx_row_in hw, gt_u16 ok ht hk]
    unfold gy_cf
    rw [if_pos rfl, gt_add_0 (gt_mul_le _ _), eg, nI_clamp (show g < 2 ^ 31 by omega)]
end

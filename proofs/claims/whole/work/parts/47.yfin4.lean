section
variable {f_dLim f_rLim f_fLim f_n f_stat f_err f_out f_vInt f_recs f_drf f_fsp : Int32} {a_kind a_arg a_ch a_par a_pos a_seen a_st a_ty a_tyK a_tyG a_tyA a_tyB a_u a_bg a_ux a_uy a_stk a_eqA a_eqB a_rT a_rE a_rG a_rN a_rC a_rX a_fK a_fA a_fE : Nat → Int32}
theorem gy_rdS {t s : Nat} {F p : Nat → Nat} {us : Nat → Int32} (ht : t < 32) (hs : s ≤ 32) (hp : ∀ v, v < s → us (t * 32 + v) = nI (p v)) :
    ∀ v, v < s → ∀ post' : Int32 → Prop, post' (nI (p v)) → wpY_ug post' (f_dLim, f_rLim, f_fLim, f_n, f_stat, f_err, f_out, f_vInt, f_recs, f_drf, f_fsp, a_kind, a_arg, a_ch, a_par, a_pos, a_seen, a_st, a_ty, a_tyK, a_tyG, a_tyA, a_tyB, gx_row us t v F, a_bg, a_ux, a_uy, a_stk, a_eqA, a_eqB, a_rT, a_rE, a_rG, a_rN, a_rC, a_rX, a_fK, a_fA, a_fE) (nI t) (nI v + nI 0) := by
  intro v hv post' h
  rw [nI_add, Nat.add_zero]
  refine gy_ug ht (by omega) ?_
  have e : gx_row us t v F (t * 32 + v) = us (t * 32 + v) := by unfold gx_row; rw [if_neg (by omega)]
  rw [e, hp v hv]
  exact h
theorem gy_779 {post : Int32 → SY → Prop} {t a p q : Nat} {x2 x4 x5 x6 : Int32} (ha : a_arg t = nI a) (ha3 : a ≤ 3) (hp : p ≤ 2) (hq : q ≤ 2)
    (hgo : ¬ (¬ a_arg t = 3 ∧ (a_arg t).toNatClampNeg < gt_max p q) → ∀ g, g = nI (gt_se (a_arg t) (gt_max p q)) → wY_finish_816 post (nI t) x2 x4 x5 x6 (nI p) (nI q) g f_dLim f_rLim f_fLim f_n f_stat f_err f_out f_vInt f_recs f_drf f_fsp a_kind a_arg a_ch a_par a_pos a_seen a_st a_ty a_tyK a_tyG a_tyA a_tyB a_u a_bg a_ux a_uy a_stk a_eqA a_eqB a_rT a_rE a_rG a_rN a_rC a_rX a_fK a_fA a_fE)
    (hbad : (¬ a_arg t = 3 ∧ (a_arg t).toNatClampNeg < gt_max p q) → post 5 (f_dLim, f_rLim, f_fLim, f_n, f_stat, f_err, f_out, f_vInt, f_recs, f_drf, f_fsp, a_kind, a_arg, a_ch, a_par, a_pos, a_seen, a_st, a_ty, a_tyK, a_tyG, a_tyA, a_tyB, a_u, a_bg, a_ux, a_uy, a_stk, a_eqA, a_eqB, a_rT, a_rE, a_rG, a_rN, a_rC, a_rX, a_fK, a_fA, a_fE)) : wY_finish_779 post (nI t) x2 (a_arg t) x4 x5 x6 (nI p) (nI q) f_dLim f_rLim f_fLim f_n f_stat f_err f_out f_vInt f_recs f_drf f_fsp a_kind a_arg a_ch a_par a_pos a_seen a_st a_ty a_tyK a_tyG a_tyA a_tyB a_u a_bg a_ux a_uy a_stk a_eqA a_eqB a_rT a_rE a_rG a_rN a_rC a_rX a_fK a_fA a_fE := by
  unfold wY_finish_779
  refine br_c (fun z => gy_join hp hq (hgo (fun y => y.1 z) _ ?_)) (fun z => ?_)
  · unfold gt_se; rw [if_pos z]
  · have en : (a_arg t).toNatClampNeg = a := by rw [ha]; exact nI_clamp (by omega)
    have es : nI (gt_se (a_arg t) (gt_max p q)) = a_arg t := by unfold gt_se; rw [if_neg z, en, ha]
    rw [es, en] at hgo
    rw [en] at hbad
    have mx : gt_max p q = p ∨ gt_max p q = q := by unfold gt_max; split; exact Or.inl rfl; exact Or.inr rfl
    have ml : p ≤ gt_max p q ∧ q ≤ gt_max p q := by unfold gt_max; split <;> omega
    rw [ha] at hgo hbad z ⊢
    refine pk_lt a p (fun y => hbad ⟨z, by omega⟩) (fun y => pk_le q a (fun x => hgo (fun w => by omega) _ rfl) (fun x => hbad ⟨z, by omega⟩))
theorem gy_fLP {post : Int32 → SY → Prop} {kd : Nat → Nat} {n t fuel : Nat} {P : Nat → Prop} {x6 : Int32} (A : gt_P kd a_arg n) (S : gy_S kd n a_kind a_ch a_par a_pos a_seen) (I : gy_TI kd a_arg n P a_ty a_bg a_ux a_uy a_u (a_tyK, a_tyG, a_tyA, a_tyB)) (ht : t < n) (hc : ∀ j, j < gp_ar (kd t) → ¬ kd (gp_ch kd n t j) ≤ 5 → P (gp_ch kd n t j)) (hnP : ¬ P t) (hK1 : a_tyK (32 + t) = 1) (hG0 : a_tyG (32 + t) = 0) (ety : a_ty t = nI (32 + t)) (eu : ∀ v, v < 32 → a_u (t * 32 + v) = 0) (hk : kd t = 12) (hOK : gt_e2 kd a_arg n t = 0 → ∀ ty bg ux uy u tK tG tA tB ea eb, gy_TI kd a_arg n (fun d => P d ∨ d = t) ty bg ux uy u (tK, tG, tA, tB) → post 1 (f_dLim, f_rLim, f_fLim, f_n, f_stat, f_err, f_out, f_vInt, f_recs, f_drf, f_fsp, a_kind, a_arg, a_ch, a_par, a_pos, a_seen, a_st, ty, tK, tG, tA, tB, u, bg, ux, uy, a_stk, ea, eb, a_rT, a_rE, a_rG, a_rN, a_rC, a_rX, a_fK, a_fA, a_fE)) (hF : ¬ gt_e2 kd a_arg n t = 0 → ∀ ty bg ux uy u tK tG tA tB ea eb, post (nI (gt_e2 kd a_arg n t)) (f_dLim, f_rLim, f_fLim, f_n, f_stat, f_err, f_out, f_vInt, f_recs, f_drf, f_fsp, a_kind, a_arg, a_ch, a_par, a_pos, a_seen, a_st, ty, tK, tG, tA, tB, u, bg, ux, uy, a_stk, ea, eb, a_rT, a_rE, a_rG, a_rN, a_rC, a_rX, a_fK, a_fA, a_fE)) : wY_finish_97 post (nI t) (nI 12) (a_arg t) (nI (gp_ch kd n t 0)) (nI (gp_ch kd n t 1)) x6 (nI (32 + t)) f_dLim f_rLim f_fLim f_n f_stat f_err f_out f_vInt f_recs f_drf f_fsp (fuel + 1) (nI 32) a_kind a_arg a_ch a_par a_pos a_seen a_st a_ty a_tyK a_tyG a_tyA a_tyB a_u a_bg a_ux a_uy a_stk a_eqA a_eqB a_rT a_rE a_rG a_rN a_rC a_rX a_fK a_fA a_fE := by
  have hA := A
  obtain ⟨ok, so, kr, sc, ag2, ag3, -⟩ := A
  have hn := ok.2.1
  have t32 : t < 32 := by omega
  have v := vp_in_nI t32 (by decide)
  have et : (nI t).toNatClampNeg = t := nI_clamp (by omega)
  have sl := gp_sn_lt ok ht
  have ar0 : 0 < gp_ar (kd t) := by rw [hk]; decide
  have ar1 : 1 < gp_ar (kd t) := by rw [hk]; decide
  have m0 := gp_tm_ch ok so ht (by omega) ar0 (by omega)
  have m1 := gp_tm_ch ok so ht (by omega) ar1 (by omega)
  have c0 := (gp_ch_lt ok ht ar0).1
  have c1 := (gp_ch_lt ok ht ar1).1
  have g0 := gp_ch_ge ok ht (Nat.le_of_lt ar0)
  have g1 := gp_ch_ge ok ht (Nat.le_of_lt ar1)
  have cl := gp_sn_lt ok c1
  rw [gp_sn_ch ok ht ar1] at cl
  obtain ⟨_, _, ⟨z, z1, z2, z3⟩, _⟩ := I.2.2 _ (hc 1 ar1 m1)
  have z64 := gy_o_lt hn z1
  have u0 := (gy_cu hA I ht ar0 (hc 0 ar0 m0) m0).1
  obtain ⟨u1, w1⟩ := gy_cu hA I ht ar1 (hc 1 ar1 m1) m1
  rw [show gp_bd (kd t) 0 = 0 from gp_bd_0 _] at u0
  rw [show gp_bd (kd t) 1 = 2 by rw [hk]; decide] at u1 w1 cl
  have wy := w1 0 (by omega)
  have wx := w1 1 (by omega)
  rw [show gp_sn kd t + 2 - 1 - 0 = gp_sn kd t + 1 by omega] at wy
  rw [show gp_sn kd t + 2 - 1 - 1 = gp_sn kd t by omega] at wx
  have ulx := gt_ule hA c1 m1 (gp_sn kd t)
  have uly := gt_ule hA c1 m1 (gp_sn kd t + 1)
  obtain ⟨a, a3, ea⟩ := ag3 t ht (by omega)
  have nd : gt_nd kd a_arg n t = gt_max (gt_u kd a_arg n (gp_ch kd n t 1) (gp_sn kd t)) (gt_u kd a_arg n (gp_ch kd n t 1) (gp_sn kd t + 1)) := by unfold gt_nd; rw [if_pos hk]
  have ml := gt_max_le ulx uly
  have sel := gt_se_le (ag3 t ht (by omega)) ml
  refine br_t (by decide) ?_
  repeat (refine br_f (by decide) ?_)
  refine gy_ug (v := 1) (by omega) (by omega) ?_
  rw [wx]
  unfold wY_finish_754
  refine br_f (by decide) (gy_ug (v := 0) (by omega) (by omega) ?_)
  rw [wy]
  refine gy_779 ea a3 ulx uly (fun q g eg => ?_) (fun q => ?_)
  · unfold wY_finish_816
    rw [et, nI_clamp (show gp_ch kd n t 1 < 2 ^ 31 by omega), z2, eg]
    refine ⟨v, nm_e ⟨v, nm_e ⟨v, nm_e ⟨vp_in_nI (by omega) (by decide), v, nm_e (gy_join (b := 1) sel (by omega) (br_f (by decide) ?_))⟩⟩⟩⟩
    refine gy_cb (s := gp_sn kd t) (m := 0) (sa := nI 0) (sb := nI 2) t32 (by omega) (S.2.2.2.2 t ht) (gt_max_le sel (by omega)) (by omega) (fun w hw => (u0 w hw).2) (fun w hw => (u1 w hw).2)
      (gy_rd (b := 0) (by omega) (by omega) (by omega) (fun w hw => (u0 w hw).1)) (gy_rd (b := 2) (by omega) (by omega) (by omega) (fun w hw => (u1 w hw).1)) ?_
    have e0 : gt_e2 kd a_arg n t = 0 := by
      unfold gt_e2
      rw [gt_if_f (by omega), gt_if_f (by
        rintro (⟨_, r⟩ | ⟨r, _⟩)
        · rw [nd] at r; exact q r
        · omega)]
    refine hOK e0 _ _ _ _ _ _ _ _ _ _ _ (gy_TI_add ok I ht (by omega) hnP (fun _ _ => ⟨rfl, rfl, rfl, rfl⟩) (gy_K1 hK1) (fun d hd => pk_un hd) ⟨z, gy_o_p z1, pk_us, ?_⟩ (fun j hj => gx_row_off (by omega) hj) (fun w hw => ?_) (fun d hd => ⟨pk_un hd, pk_un hd, pk_un hd⟩) (fun _ => ⟨?_, ?_⟩) (fun _ => ?_) (fun z => by omega))
    · rw [z3, gt_t12 ok ht hk]
    · rw [gx_row_in hw, gt_u12 ok ht hk]
      unfold gy_cf
      rw [if_pos rfl]
    · rw [pk_us, gt_b12 ok ht hk]
    · rw [pk_us]
    · rw [pk_us]
  · have e5 : gt_e2 kd a_arg n t = 5 := by
      unfold gt_e2
      rw [gt_if_f (by omega), gt_if_t (Or.inl ⟨Or.inr (Or.inl hk), by rw [nd]; exact q⟩)]
    have := hF (by rw [e5]; decide) a_ty a_bg a_ux a_uy a_u a_tyK a_tyG a_tyA a_tyB a_eqA a_eqB
    rw [e5] at this
    exact this
theorem gy_fCase {post : Int32 → SY → Prop} {kd : Nat → Nat} {n t fuel : Nat} {P : Nat → Prop} (A : gt_P kd a_arg n) (S : gy_S kd n a_kind a_ch a_par a_pos a_seen) (I : gy_TI kd a_arg n P a_ty a_bg a_ux a_uy a_u (a_tyK, a_tyG, a_tyA, a_tyB)) (ht : t < n) (hc : ∀ j, j < gp_ar (kd t) → ¬ kd (gp_ch kd n t j) ≤ 5 → P (gp_ch kd n t j)) (hnP : ¬ P t) (hK1 : a_tyK (32 + t) = 1) (hG0 : a_tyG (32 + t) = 0) (ety : a_ty t = nI (32 + t)) (eu : ∀ v, v < 32 → a_u (t * 32 + v) = 0) (hk : kd t = 15) (hfit : gs_fit 32 (gs_F 32) (gt_t kd a_arg n (gp_ch kd n t 1))) (hOK : gt_e2 kd a_arg n t = 0 → ∀ ty bg ux uy u tK tG tA tB ea eb, gy_TI kd a_arg n (fun d => P d ∨ d = t) ty bg ux uy u (tK, tG, tA, tB) → post 1 (f_dLim, f_rLim, f_fLim, f_n, f_stat, f_err, f_out, f_vInt, f_recs, f_drf, f_fsp, a_kind, a_arg, a_ch, a_par, a_pos, a_seen, a_st, ty, tK, tG, tA, tB, u, bg, ux, uy, a_stk, ea, eb, a_rT, a_rE, a_rG, a_rN, a_rC, a_rX, a_fK, a_fA, a_fE)) (hF : ¬ gt_e2 kd a_arg n t = 0 → ∀ ty bg ux uy u tK tG tA tB ea eb, post (nI (gt_e2 kd a_arg n t)) (f_dLim, f_rLim, f_fLim, f_n, f_stat, f_err, f_out, f_vInt, f_recs, f_drf, f_fsp, a_kind, a_arg, a_ch, a_par, a_pos, a_seen, a_st, ty, tK, tG, tA, tB, u, bg, ux, uy, a_stk, ea, eb, a_rT, a_rE, a_rG, a_rN, a_rC, a_rX, a_fK, a_fA, a_fE)) : wY_finish_97 post (nI t) (nI 15) (a_arg t) (nI (gp_ch kd n t 0)) (nI (gp_ch kd n t 1)) (nI (gp_ch kd n t 2)) (nI (32 + t)) f_dLim f_rLim f_fLim f_n f_stat f_err f_out f_vInt f_recs f_drf f_fsp (fuel + 1) (nI 32) a_kind a_arg a_ch a_par a_pos a_seen a_st a_ty a_tyK a_tyG a_tyA a_tyB a_u a_bg a_ux a_uy a_stk a_eqA a_eqB a_rT a_rE a_rG a_rN a_rC a_rX a_fK a_fA a_fE := by
  have hA := A
  obtain ⟨ok, so, kr, sc, ag2, ag3, -⟩ := A
  have hn := ok.2.1
  have t32 : t < 32 := by omega
  have v := vp_in_nI t32 (by decide)
  have et : (nI t).toNatClampNeg = t := nI_clamp (by omega)
  have sl := gp_sn_lt ok ht
  have ar0 : 0 < gp_ar (kd t) := by rw [hk]; decide
  have ar1 : 1 < gp_ar (kd t) := by rw [hk]; decide
  have ar2 : 2 < gp_ar (kd t) := by rw [hk]; decide
  have m0 := gp_tm_ch ok so ht (by omega) ar0 (by omega)
  have m1 := gp_tm_ch ok so ht (by omega) ar1 (by omega)
  have m2 := gp_tm_ch ok so ht (by omega) ar2 (by omega)
  have c0 := (gp_ch_lt ok ht ar0).1
  have c1 := (gp_ch_lt ok ht ar1).1
  have c2 := (gp_ch_lt ok ht ar2).1
  have g0 := gp_ch_ge ok ht (Nat.le_of_lt ar0)
  have g1 := gp_ch_ge ok ht (Nat.le_of_lt ar1)
  have g2 := gp_ch_ge ok ht (Nat.le_of_lt ar2)
  obtain ⟨_, _, ⟨y, y1, y2, y3⟩, _⟩ := I.2.2 _ (hc 1 ar1 m1)
  obtain ⟨_, _, ⟨z, z1, z2, z3⟩, _⟩ := I.2.2 _ (hc 2 ar2 m2)
  have y64 := gy_o_lt hn y1
  have z64 := gy_o_lt hn z1
  have u0 := (gy_cu hA I ht ar0 (hc 0 ar0 m0) m0).1
  obtain ⟨u1, w1⟩ := gy_cu hA I ht ar1 (hc 1 ar1 m1) m1
  obtain ⟨u2, w2⟩ := gy_cu hA I ht ar2 (hc 2 ar2 m2) m2
  rw [show gp_bd (kd t) 0 = 0 from gp_bd_0 _] at u0
  rw [show gp_bd (kd t) 1 = 1 by rw [hk]; decide] at u1 w1
  rw [show gp_bd (kd t) 2 = 1 by rw [hk]; decide] at u2 w2
  have wx := w1 0 (by omega)
  have wy := w2 0 (by omega)
  rw [show gp_sn kd t + 1 - 1 - 0 = gp_sn kd t by omega] at wx wy
  have ulx := gt_ule hA c1 m1 (gp_sn kd t)
  have uly := gt_ule hA c2 m2 (gp_sn kd t)
  obtain ⟨a, a3, ea⟩ := ag3 t ht (by omega)
  have nd : gt_nd kd a_arg n t = gt_max (gt_u kd a_arg n (gp_ch kd n t 1) (gp_sn kd t)) (gt_u kd a_arg n (gp_ch kd n t 2) (gp_sn kd t)) := by unfold gt_nd; rw [if_neg (by omega), if_pos hk]
  have ml := gt_max_le ulx uly
  have sel := gt_se_le (ag3 t ht (by omega)) ml
  refine br_t (by decide) ?_
  repeat (refine br_f (by decide) ?_)
  refine br_t (by decide) ?_
  rw [nI_clamp (show gp_ch kd n t 1 < 2 ^ 31 by omega), nI_clamp (show gp_ch kd n t 2 < 2 ^ 31 by omega), y2, z2]
  refine ⟨vp_in_nI (by omega) (by decide), vp_in_nI (by omega) (by decide), gy_same hn I.1 y1 z1 (by rw [y3]; exact hfit) (fun same eA eB => br_f (by decide) ?_) (fun dif eA eB => br_t rfl ?_)⟩
  · rw [y3, z3] at same
    try dsimp only
    unfold wY_finish_731
    refine br_t (by decide) (gy_ug (v := 0) (by omega) (by omega) ?_)
    rw [wx]
    unfold wY_finish_754
    refine br_t (by decide) (gy_ug (v := 0) (by omega) (by omega) ?_)
    rw [wy]
    refine gy_779 ea a3 ulx uly (fun q g eg => ?_) (fun q => ?_)
    · unfold wY_finish_816
      rw [et, nI_clamp (show gp_ch kd n t 1 < 2 ^ 31 by omega), y2, eg]
      refine ⟨v, nm_e ⟨v, nm_e ⟨v, nm_e ⟨vp_in_nI (by omega) (by decide), v, nm_e (gy_join (b := 1) sel (by omega) (br_t (by decide) ?_))⟩⟩⟩⟩
      refine gy_cb (s := gp_sn kd t) (g := 1) (m := 1) (sa := nI 1) (sb := nI 1) t32 (by omega) (S.2.2.2.2 t ht) (by omega) (by omega) (fun w hw => (u1 w hw).2) (fun w hw => (u2 w hw).2)
        (gy_rd (b := 1) (by omega) (by omega) (by omega) (fun w hw => (u1 w hw).1)) (gy_rd (b := 1) (by omega) (by omega) (by omega) (fun w hw => (u2 w hw).1)) ?_
      try dsimp only
      have F1 : ∀ w, w < gp_sn kd t → gy_cf 1 1 (fun w => gt_u kd a_arg n (gp_ch kd n t 1) (gp_sn kd t - 1 - w)) (fun w => gt_u kd a_arg n (gp_ch kd n t 2) (gp_sn kd t - 1 - w)) w = gt_max (gt_u kd a_arg n (gp_ch kd n t 1) (gp_sn kd t - 1 - w)) (gt_u kd a_arg n (gp_ch kd n t 2) (gp_sn kd t - 1 - w)) := by
        intro w hw
        unfold gy_cf
        rw [if_neg (by decide), gt_mul_1 (u1 w hw).2]
      refine gy_cb (s := gp_sn kd t) (m := 0) (sa := nI 0) (sb := nI 0) (pa := fun w => gt_u kd a_arg n (gp_ch kd n t 0) (gp_sn kd t - 1 - w)) (pb := fun w => gt_max (gt_u kd a_arg n (gp_ch kd n t 1) (gp_sn kd t - 1 - w)) (gt_u kd a_arg n (gp_ch kd n t 2) (gp_sn kd t - 1 - w))) t32 (by omega) (S.2.2.2.2 t ht) (gt_max_le sel (by omega)) (by omega) (fun w hw => (u0 w hw).2) (fun w hw => gt_max_le (u1 w hw).2 (u2 w hw).2)
        (gy_rd (b := 0) (by omega) (by omega) (by omega) (fun w hw => ?_)) (gy_rdS t32 (by omega) (fun w hw => ?_)) ?_
      · rw [Nat.add_zero, gx_row_o (by omega) (by omega) (by omega)]
        exact (u0 w hw).1
      · rw [gx_row_in hw, F1 w hw]
      have e0 : gt_e2 kd a_arg n t = 0 := by
        unfold gt_e2
        rw [gt_if_f (by
          rintro (⟨r, _⟩ | ⟨r, _⟩ | ⟨_, r⟩)
          · omega
          · omega
          · exact r same), gt_if_f (by
          rintro (⟨_, r⟩ | ⟨r, _⟩)
          · rw [nd] at r; exact q r
          · omega)]
      try dsimp only
      refine hOK e0 _ _ _ _ _ _ _ _ _ _ _ (gy_TI_add ok I ht (by omega) hnP (fun _ _ => ⟨rfl, rfl, rfl, rfl⟩) (gy_K1 hK1) (fun d hd => pk_un hd) ⟨y, gy_o_p y1, pk_us, ?_⟩ (fun j hj => by rw [gx_row_off (by omega) hj, gx_row_off (by omega) hj]) (fun w hw => ?_) (fun d hd => ⟨pk_un hd, pk_un hd, pk_un hd⟩) (fun _ => ⟨?_, ?_⟩) (fun z => by omega) (fun _ => ?_))
      · rw [y3, gt_t15 ok ht hk]
      · rw [gx_row_in hw, gt_u15 ok ht hk]
        unfold gy_cf
        rw [if_pos rfl]
      · rw [pk_us, gt_b15 ok ht hk]
      · rw [pk_us]
      · rw [pk_us]
    · have e5 : gt_e2 kd a_arg n t = 5 := by
        unfold gt_e2
        rw [gt_if_f (by
          rintro (⟨r, _⟩ | ⟨r, _⟩ | ⟨_, r⟩)
          · omega
          · omega
          · exact r same), gt_if_t (Or.inl ⟨Or.inr (Or.inr hk), by rw [nd]; exact q⟩)]
      have := hF (by rw [e5]; decide) a_ty a_bg a_ux a_uy a_u a_tyK a_tyG a_tyA a_tyB eA eB
      rw [e5] at this
      exact this
  · rw [y3, z3] at dif
    have e4 : gt_e2 kd a_arg n t = 4 := gt_if_t (Or.inr (Or.inr ⟨hk, dif⟩))
    have := hF (by rw [e4]; decide) a_ty a_bg a_ux a_uy a_u a_tyK a_tyG a_tyA a_tyB eA eB
    rw [e4] at this
    exact this
end

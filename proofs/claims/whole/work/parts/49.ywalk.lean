theorem gt_pe_ok {kd : Nat → Nat} {ag : Nat → Int32} {n d : Nat} (hk : ¬ kd d ≤ 5) (h : (gt_pe kd ag n d).1 = 0) : (∀ j, j < gp_ar (kd d) → (gt_er kd ag n (gp_ch kd n d j)).1 = 0) ∧ gt_e1 kd ag n d = 0 := by
  have h3 := gp_ar_le (kd d)
  unfold gt_pe at h
  rw [if_neg hk] at h
  by_cases c0 : 0 < gp_ar (kd d) ∧ ¬ (gt_er kd ag n (gp_ch kd n d 0)).1 = 0
  · rw [if_pos c0] at h; exact absurd h c0.2
  rw [if_neg c0] at h
  by_cases c1 : ¬ gt_e1 kd ag n d = 0
  · rw [if_pos c1] at h; exact absurd h c1
  rw [if_neg c1] at h
  by_cases c2 : 1 < gp_ar (kd d) ∧ ¬ (gt_er kd ag n (gp_ch kd n d 1)).1 = 0
  · rw [if_pos c2] at h; exact absurd h c2.2
  rw [if_neg c2] at h
  by_cases c3 : 2 < gp_ar (kd d) ∧ ¬ (gt_er kd ag n (gp_ch kd n d 2)).1 = 0
  · rw [if_pos c3] at h; exact absurd h c3.2
  refine ⟨fun j hj => ?_, Classical.not_not.mp c1⟩
  have : j = 0 ∨ j = 1 ∨ j = 2 := by omega
  rcases this with rfl | rfl | rfl
  · exact Classical.byContradiction fun z => c0 ⟨hj, z⟩
  · exact Classical.byContradiction fun z => c2 ⟨hj, z⟩
  · exact Classical.byContradiction fun z => c3 ⟨hj, z⟩
theorem gy_TI_iff {kd : Nat → Nat} {ag : Nat → Int32} {n : Nat} {P Q : Nat → Prop} {ty bg ux uy u : Nat → Int32} {T : gd_Tb} (h : ∀ d, d < n → ¬ kd d ≤ 5 → (P d ↔ Q d)) (hQ : ∀ d, Q d → d < n ∧ ¬ kd d ≤ 5) (I : gy_TI kd ag n P ty bg ux uy u T) : gy_TI kd ag n Q ty bg ux uy u T := by
  have up : ∀ {y : Nat}, gy_o kd n P y → gy_o kd n Q y := by
    intro y hy
    rcases hy with hy | ⟨d, a, b, c, e⟩
    · exact Or.inl hy
    · exact Or.inr ⟨d, a, (h d a c).mp b, c, e⟩
  refine ⟨fun y hy => ?_, I.2.1, fun d hd => ?_⟩
  · have oy : gy_o kd n P y := by
      rcases hy with hy | ⟨d, a, b, c, e⟩
      · exact Or.inl hy
      · exact Or.inr ⟨d, a, (h d a c).mpr b, c, e⟩
    obtain ⟨c1, c2⟩ := I.1 y oy
    refine ⟨fun z => ?_, fun z w => ?_⟩
    · obtain ⟨a, a1, a2⟩ := c1 z
      exact ⟨a, up a1, a2⟩
    · obtain ⟨a, a1, a2⟩ := c2 z w
      exact ⟨a, up a1, a2⟩
  · obtain ⟨d1, d2⟩ := hQ d hd
    obtain ⟨a1, a2, ⟨y, y1, y2⟩, a4⟩ := I.2.2 d ((h d d1 d2).mpr hd)
    exact ⟨a1, a2, ⟨y, up y1, y2⟩, a4⟩
section
variable {f_dLim f_rLim f_fLim f_n f_stat f_err f_out f_vInt f_recs f_drf f_fsp : Int32} {a_kind a_arg a_ch a_par a_pos a_seen a_st a_ty a_tyK a_tyG a_tyA a_tyB a_u a_bg a_ux a_uy a_stk a_eqA a_eqB a_rT a_rE a_rG a_rN a_rC a_rX a_fK a_fA a_fE : Nat → Int32}
/-- at the head of the loop, t on top, its next child not yet begun -/
theorem gy_step {post : Int32 → SY → Prop} {kd : Nat → Nat} {n t j dp it f : Nat} {P : Nat → Prop} (A : gt_P kd a_arg n) (S : gy_S kd n a_kind a_ch a_par a_pos a_seen) (I : gy_TI kd a_arg n P a_ty a_bg a_ux a_uy a_u (a_tyK, a_tyG, a_tyA, a_tyB)) (ht : t < n) (htk : ¬ kd t ≤ 5)
    (hj : j < gp_ar (kd t)) (h1 : j = 1 → (kd t = 12 ∨ kd t = 15 ∨ kd t = 17) → P (gp_ch kd n t 0)) (hd : dp ≤ 32) (hit : it < 100) (hstk : a_stk dp = nI t) (hst : a_st t = nI j)
    (hF : j = 1 → ¬ gt_e1 kd a_arg n t = 0 → post 4 (f_dLim, f_rLim, f_fLim, f_n, f_stat, nI t, f_out, f_vInt, f_recs, f_drf, f_fsp, a_kind, a_arg, a_ch, a_par, a_pos, a_seen, a_st, a_ty, a_tyK, a_tyG, a_tyA, a_tyB, a_u, a_bg, a_ux, a_uy, a_stk, a_eqA, a_eqB, a_rT, a_rE, a_rG, a_rN, a_rC, a_rX, a_fK, a_fA, a_fE))
    (hgo : (j = 1 → gt_e1 kd a_arg n t = 0) → wY_doCheck_476 post f (nI (dp + 1 + 1)) (nI (it + 1)) f_dLim f_rLim f_fLim f_n f_stat f_err f_out f_vInt f_recs f_drf f_fsp a_kind a_arg a_ch a_par a_pos a_seen (upd (upd a_st t (nI (j + 1))) (gp_ch kd n t j) (nI (gp_ss (kd (gp_ch kd n t j))))) a_ty a_tyK a_tyG a_tyA a_tyB a_u a_bg a_ux a_uy (upd a_stk (dp + 1) (nI (gp_ch kd n t j))) a_eqA a_eqB a_rT a_rE a_rG a_rN a_rC a_rX a_fK a_fA a_fE) :
    wY_doCheck_476 post (f + 1) (nI (dp + 1)) (nI it) f_dLim f_rLim f_fLim f_n f_stat f_err f_out f_vInt f_recs f_drf f_fsp a_kind a_arg a_ch a_par a_pos a_seen a_st a_ty a_tyK a_tyG a_tyA a_tyB a_u a_bg a_ux a_uy a_stk a_eqA a_eqB a_rT a_rE a_rG a_rN a_rC a_rX a_fK a_fA a_fE := by
  have hA := A
  obtain ⟨ok, so, kr, -⟩ := A
  have hn := ok.2.1
  have t32 : t < 32 := by omega
  have v := vp_in_nI t32 (by decide)
  have et : (nI t).toNatClampNeg = t := nI_clamp (by omega)
  have k1 := (kr t ht).1
  have k17 := (kr t ht).2
  have a3 := gp_ar_le (kd t)
  have cn := (gp_ch_lt ok ht hj).1
  have go : (j = 1 → gt_e1 kd a_arg n t = 0) → wY_doCheck_594 post (wY_doCheck_476 post f) (nI (dp + 1)) (nI it) (nI t) (nI (kd t)) (nI j) f_dLim f_rLim f_fLim f_n f_stat f_err f_out f_vInt f_recs f_drf f_fsp a_kind a_arg a_ch a_par a_pos a_seen a_st a_ty a_tyK a_tyG a_tyA a_tyB a_u a_bg a_ux a_uy a_stk a_eqA a_eqB a_rT a_rE a_rG a_rN a_rC a_rX a_fK a_fA a_fE := by
    intro he
    unfold wY_doCheck_594
    refine gy_ar k1 k17 (br_f (nI_ge hj (by omega)) ?_)
    have vc := vp_in_nI (show gp_ch kd n t j < 32 by omega) (by decide)
    rw [gx_ix3, nI_clamp (show 3 * t + j < 2 ^ 31 by omega), S.2.2.2.1 t ht j hj, et, nI_1]
    refine ⟨vp_in_nI (by omega) (by decide), nm_e ⟨v, nm_e ⟨vc, ?_⟩⟩⟩
    rw [nI_clamp (show gp_ch kd n t j < 2 ^ 31 by omega), S.1 _ cn]
    refine gy_ss (kr _ cn).1 (kr _ cn).2 ⟨vc, nm_e (br_f (nI_ge (b := 80) (by omega) (by decide)) ⟨vp_in_nI (by omega) (by decide), ?_⟩)⟩
    rw [nI_clamp (show dp + 1 < 2 ^ 31 by omega)]
    exact nm_e (nm_r (nI_1 _) (nm_r (nI_1 it) (hgo he)))
  refine br_f (nI_ge (b := 200) (by omega) (by decide)) (br_f (nI_nle (by omega) (by omega)) ?_)
  rw [nI_pred, nI_clamp (show dp < 2 ^ 31 by omega), hstk]
  refine ⟨vp_in_nI (by omega) (by decide), nm_e ⟨v, ?_⟩⟩
  rw [et, S.1 t ht, hst]
  refine nm_e ⟨v, nm_e (pk_eq j 1 (fun j1 => ?_) (fun j1 => go (fun z => absurd z j1)))⟩
  have kinds : (kd t = 12 ∨ kd t = 15 ∨ kd t = 17) → ∀ z0 : Int32, (gt_k (gt_t kd a_arg n (gp_ch kd n t 0)) = z0 ↔ gt_e1 kd a_arg n t = 0) → wY_doCheck_562 post (wY_doCheck_476 post f) (nI (dp + 1)) (nI it) (nI t) (nI (kd t)) (nI j) z0 f_dLim f_rLim f_fLim f_n f_stat f_err f_out f_vInt f_recs f_drf f_fsp a_kind a_arg a_ch a_par a_pos a_seen a_st a_ty a_tyK a_tyG a_tyA a_tyB a_u a_bg a_ux a_uy a_stk a_eqA a_eqB a_rT a_rE a_rG a_rN a_rC a_rX a_fK a_fA a_fE := by
    intro hk z0 hz
    obtain ⟨_, _, ⟨y, y1, y2, y3⟩, _⟩ := I.2.2 _ (h1 j1 hk)
    have y64 := gy_o_lt hn y1
    have ky := (gd_k y3).1
    dsimp only at ky
    have ch0 := S.2.2.2.1 t ht 0 (by omega)
    rw [Nat.add_zero] at ch0
    have c0 := (gp_ch_lt ok ht (j := 0) (by omega)).1
    have e3 : nI t * 3 = nI (3 * t) := by rw [show (nI t * 3 : Int32) = nI (t * 3) from pk_mul t 3, Nat.mul_comm]
    unfold wY_doCheck_562
    rw [e3, nI_clamp (show 3 * t < 2 ^ 31 by omega), ch0, nI_clamp (show gp_ch kd n t 0 < 2 ^ 31 by omega), y2, nI_clamp (show y < 2 ^ 31 by omega), ky]
    exact ⟨vp_in_nI (by omega) (by decide), vp_in_nI (by omega) (by decide), vp_in_nI y64 (by decide), br_c (fun q => go (fun _ => hz.mp q)) (fun q => hF j1 (fun w => q (hz.mpr w)))⟩
  have e12 : kd t = 12 → (gt_k (gt_t kd a_arg n (gp_ch kd n t 0)) = 2 ↔ gt_e1 kd a_arg n t = 0) := fun e => ⟨fun q => gt_if_f (by
      rintro (⟨_, r⟩ | ⟨r, _⟩ | ⟨r, _⟩)
      · exact r q
      · omega
      · omega), fun q => (gt_e1_0 q).1 e⟩
  have e15 : kd t = 15 → (gt_k (gt_t kd a_arg n (gp_ch kd n t 0)) = 3 ↔ gt_e1 kd a_arg n t = 0) := fun e => ⟨fun q => gt_if_f (by
      rintro (⟨r, _⟩ | ⟨_, r⟩ | ⟨r, _⟩)
      · omega
      · exact r q
      · omega), fun q => (gt_e1_0 q).2.1 e⟩
  have e17 : kd t = 17 → (gt_k (gt_t kd a_arg n (gp_ch kd n t 0)) = 5 ↔ gt_e1 kd a_arg n t = 0) := fun e => ⟨fun q => gt_if_f (by
      rintro (⟨r, _⟩ | ⟨r, _⟩ | ⟨_, r⟩)
      · omega
      · omega
      · exact r q), fun q => (gt_e1_0 q).2.2 e⟩
  refine pk_eq (kd t) 12 (fun e => ?_) (fun n12 => pk_eq (kd t) 15 (fun e => ?_) (fun n15 => pk_eq (kd t) 17 (fun e => ?_) (fun n17 => go (fun _ => gt_if_f (by omega)))))
  · exact pk_eq (kd t) 12 (fun _ => kinds (Or.inl e) 2 (e12 e)) (fun z => absurd e z)
  · exact pk_eq (kd t) 12 (fun z => by omega) (fun _ => pk_eq (kd t) 15 (fun _ => kinds (Or.inr (Or.inl e)) 3 (e15 e)) (fun z => absurd e z))
  · exact pk_eq (kd t) 12 (fun z => by omega) (fun _ => pk_eq (kd t) 15 (fun z => by omega) (fun _ => kinds (Or.inr (Or.inr e)) 5 (e17 e)))
/-- at the head of the loop, all children of c done -/
theorem gy_done {post : Int32 → SY → Prop} {kd : Nat → Nat} {n t dp it f : Nat} {P : Nat → Prop} (A : gt_P kd a_arg n) (S : gy_S kd n a_kind a_ch a_par a_pos a_seen) (I : gy_TI kd a_arg n P a_ty a_bg a_ux a_uy a_u (a_tyK, a_tyG, a_tyA, a_tyB)) (ht : t < n) (htk : ¬ kd t ≤ 5) (hc : ∀ j, j < gp_ar (kd t) → ¬ kd (gp_ch kd n t j) ≤ 5 → P (gp_ch kd n t j)) (hnP : ¬ P t)
    (hB : gy_HB kd a_arg n P t) (hfit : 1 < gp_ar (kd t) → gs_fit 32 (gs_F 32) (gt_t kd a_arg n (gp_ch kd n t 1))) (hd : dp ≤ 32) (hit : it < 100) (hstk : a_stk dp = nI t) (hst : a_st t = nI (gp_ar (kd t)))
    (hOK : gt_e2 kd a_arg n t = 0 → ∀ ty bg ux uy u tK tG tA tB ea eb, gy_TI kd a_arg n (fun d => P d ∨ d = t) ty bg ux uy u (tK, tG, tA, tB) → wY_doCheck_476 post f (nI dp) (nI (it + 1)) f_dLim f_rLim f_fLim f_n f_stat f_err f_out f_vInt f_recs f_drf f_fsp a_kind a_arg a_ch a_par a_pos a_seen a_st ty tK tG tA tB u bg ux uy a_stk ea eb a_rT a_rE a_rG a_rN a_rC a_rX a_fK a_fA a_fE)
    (hF : ¬ gt_e2 kd a_arg n t = 0 → ∀ ty bg ux uy u tK tG tA tB ea eb, post (nI (gt_e2 kd a_arg n t)) (f_dLim, f_rLim, f_fLim, f_n, f_stat, nI t, f_out, f_vInt, f_recs, f_drf, f_fsp, a_kind, a_arg, a_ch, a_par, a_pos, a_seen, a_st, ty, tK, tG, tA, tB, u, bg, ux, uy, a_stk, ea, eb, a_rT, a_rE, a_rG, a_rN, a_rC, a_rX, a_fK, a_fA, a_fE)) :
    wY_doCheck_476 post (f + 1) (nI (dp + 1)) (nI it) f_dLim f_rLim f_fLim f_n f_stat f_err f_out f_vInt f_recs f_drf f_fsp a_kind a_arg a_ch a_par a_pos a_seen a_st a_ty a_tyK a_tyG a_tyA a_tyB a_u a_bg a_ux a_uy a_stk a_eqA a_eqB a_rT a_rE a_rG a_rN a_rC a_rX a_fK a_fA a_fE := by
  have hA := A
  obtain ⟨ok, so, kr, -⟩ := A
  have hn := ok.2.1
  have t32 : t < 32 := by omega
  have v := vp_in_nI t32 (by decide)
  have et : (nI t).toNatClampNeg = t := nI_clamp (by omega)
  have k1 := (kr t ht).1
  have k17 := (kr t ht).2
  have a3 := gp_ar_le (kd t)
  have go : wY_doCheck_594 post (wY_doCheck_476 post f) (nI (dp + 1)) (nI it) (nI t) (nI (kd t)) (nI (gp_ar (kd t))) f_dLim f_rLim f_fLim f_n f_stat f_err f_out f_vInt f_recs f_drf f_fsp a_kind a_arg a_ch a_par a_pos a_seen a_st a_ty a_tyK a_tyG a_tyA a_tyB a_u a_bg a_ux a_uy a_stk a_eqA a_eqB a_rT a_rE a_rG a_rN a_rC a_rX a_fK a_fA a_fE := by
    unfold wY_doCheck_594
    refine gy_ar k1 k17 (br_t (nI_le (Nat.le_refl _) (by omega)) (nm_r (pk_m1 dp) (gy_fin hA S I ht htk hc hnP hB hfit (fun e0 ty bg ux uy u tK tG tA tB ea eb I' => ?_) (fun e0 ty bg ux uy u tK tG tA tB ea eb => ?_))))
    · exact br_t rfl (nm_r (nI_1 it) (hOK e0 ty bg ux uy u tK tG tA tB ea eb I'))
    · have ne1 : ¬ nI (gt_e2 kd a_arg n t) = 1 := by
        rcases gt_e2_45 (kd := kd) (ag := a_arg) (n := n) (d := t) with y | y | y
        · exact absurd y e0
        · rw [y]; decide
        · rw [y]; decide
      exact br_f ne1 (hF e0 ty bg ux uy u tK tG tA tB ea eb)
  refine br_f (nI_ge (b := 200) (by omega) (by decide)) (br_f (nI_nle (by omega) (by omega)) ?_)
  rw [nI_pred, nI_clamp (show dp < 2 ^ 31 by omega), hstk]
  refine ⟨vp_in_nI (by omega) (by decide), nm_e ⟨v, ?_⟩⟩
  rw [et, S.1 t ht, hst]
  refine nm_e ⟨v, nm_e (pk_eq (gp_ar (kd t)) 1 (fun a1 => ?_) (fun _ => go))⟩
  have nb : kd t ≠ 12 ∧ kd t ≠ 15 ∧ kd t ≠ 17 := by
    refine ⟨fun e => ?_, fun e => ?_, fun e => ?_⟩ <;> (rw [e] at a1; exact absurd a1 (by decide))
  exact pk_eq (kd t) 12 (fun z => absurd z nb.1) (fun _ => pk_eq (kd t) 15 (fun z => absurd z nb.2.1) (fun _ => pk_eq (kd t) 17 (fun z => absurd z nb.2.2) (fun _ => go)))
end

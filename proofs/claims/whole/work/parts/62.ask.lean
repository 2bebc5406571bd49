theorem gc_R_le {kd : Nat → Nat} {ag : Nat → Int32} {n σ d : Nat} (h : gc_R kd ag n σ d) : 1 ≤ σ ∧ σ ≤ 5 := by
  rcases h with ⟨h1, _⟩ | ⟨h1, _⟩ | ⟨_, _, A, ⟨h1, h2⟩ | ⟨h1, _⟩⟩
  · omega
  · omega
  · have e : σ = (gt_er kd ag n 0).1 := congrArg Prod.fst h2
    rcases gt_er_45 (ag := ag) A.1 (n + 1) 0 (by omega) A.1.1 with y | y | y <;> omega
  · omega
theorem i_vc_check {k : Nat} {u : SX} {v : SY} (I : i_Rel k u v) (hk : k + 3 ≤ 1539) : wpX_check (fun r u' => wpY_check (fun r' v' => r' = r ∧ i_Rel (k + 3) u' v') v) u := by
  obtain ⟨f_derefLimit, f_recordLimit, f_frameLimit, f_nodeCount, f_currentStatus, f_faultNode, f_typeCount, f_currentNode, f_currentEnv, f_returning, f_returnedNumber, f_frameCount, f_lastOutcome, f_lastValue, f_derefsMade, f_recordsMade, a_nodeKind, a_nodeArg, a_expectedPlaces, a_nodeAtPlace, a_placeOfNode, a_variablesSeen, a_nodeType, a_gradeOfBinder, a_variableType, a_usage, a_typeKind, a_typeGrade, a_typeLeft, a_typeRight, a_frameMark, a_frameWord, a_frameEnv, a_thunkNode, a_thunkEnv, a_restOfEnv, a_binderOfRecord, a_gradeOfRecord, a_countOfRecord⟩ := u
  obtain ⟨f_dLim, f_rLim, f_fLim, f_n, f_stat, f_err, f_out, f_vInt, f_recs, f_drf, f_fsp, a_kind, a_arg, a_ch, a_par, a_pos, a_seen, a_st, a_ty, a_tyK, a_tyG, a_tyA, a_tyB, a_u, a_bg, a_ux, a_uy, a_stk, a_eqA, a_eqB, a_rT, a_rE, a_rG, a_rN, a_rC, a_rX, a_fK, a_fA, a_fE⟩ := v
  obtain ⟨L1, L2, L3, s, o, r, kd, n, ⟨p1, p2, p3, p4, p5, p6⟩, c⟩ := I
  subst p1 p2 p3 p4
  refine gx_check p5 p6 (fun σ d hR fn tc ep np po vs nt gb vt us tk tg tl tr h1 hf => ?_)
  have hl := gc_R_le hR
  unfold wpY_check
  try dsimp only
  unfold wpY_clearRun
  try dsimp only
  refine gy_doCheck p5 p6 (fun σ' d' hR' er ch par pos sn st ty tK tG tA tB u bg ux uy stk eA eB g1 gf => ?_)
  obtain ⟨rfl, rfl⟩ := gc_R_u hR hR'
  by_cases e : σ = 1
  · subst e
    obtain ⟨f1, tc', f2, f3⟩ := h1 rfl
    refine br_t rfl ⟨rfl, L1, L2, L3, ⟨rfl, fun _ => f1, fun z => absurd (Or.inr rfl) z⟩, ⟨rfl, rfl, rfl⟩, ⟨0, by omega, rfl, rfl, fun k hk => by omega⟩, kd, n, ⟨rfl, rfl, rfl, rfl, p5, p6⟩, fun _ => ⟨tc', f2, f3, g1 rfl⟩⟩
  · have ne1 : ¬ nI σ = 1 := fun z => e ((nI_eq (b := 1) (by omega) (by decide)).mp z)
    have ne0 : ¬ nI σ = 0 := nI_ne0 (by omega) (by omega)
    refine br_f ne1 ⟨rfl, L1, L2, L3, ⟨rfl, fun z => (z.elim ne0 ne1).elim, fun _ => (gf e).trans (hf e).symm⟩, ⟨rfl, rfl, rfl⟩, ⟨0, by omega, rfl, rfl, fun k hk => by omega⟩, kd, n, ⟨rfl, rfl, rfl, rfl, p5, p6⟩, fun z => absurd z ne1⟩
/-! binders -/
def gr_bin (s : Int32) (n : Nat) (kd : Nat → Nat) (p : Int32) : Prop := s = 1 ∧ ∃ j, j < n ∧ p = nI j ∧ (kd j = 9 ∨ kd j = 12 ∨ kd j = 15 ∨ kd j = 17)
theorem gr_k4 {A B : Prop} {k : Nat} (hk : k ≤ 17) (h1 : (k = 9 ∨ k = 12 ∨ k = 15 ∨ k = 17) → A) (h0 : ¬ (k = 9 ∨ k = 12 ∨ k = 15 ∨ k = 17) → B) :
    (nI k = 9 → A) ∧ (¬ nI k = 9 → ((nI k = 12 → A) ∧ (¬ nI k = 12 → ((nI k = 15 → A) ∧ (¬ nI k = 15 → ((nI k = 17 → A) ∧ (¬ nI k = 17 → B))))))) := by
  refine pk_eq k 9 (fun z => h1 (Or.inl z)) (fun z => pk_eq k 12 (fun y => h1 (Or.inr (Or.inl y))) (fun y => pk_eq k 15 (fun x => h1 (Or.inr (Or.inr (Or.inl x)))) (fun x => pk_eq k 17 (fun w => h1 (Or.inr (Or.inr (Or.inr w)))) (fun w => h0 (by omega)))))
section
variable {f_derefLimit f_recordLimit f_frameLimit f_nodeCount f_currentStatus f_faultNode f_typeCount f_currentNode f_currentEnv f_returning f_returnedNumber f_frameCount f_lastOutcome f_lastValue f_derefsMade f_recordsMade : Int32} {a_nodeKind a_nodeArg a_expectedPlaces a_nodeAtPlace a_placeOfNode a_variablesSeen a_nodeType a_gradeOfBinder a_variableType a_usage a_typeKind a_typeGrade a_typeLeft a_typeRight a_frameMark a_frameWord a_frameEnv a_thunkNode a_thunkEnv a_restOfEnv a_binderOfRecord a_gradeOfRecord a_countOfRecord : Nat → Int32}
theorem gx_icb {post : Int32 → Prop} {kd : Nat → Nat} {n : Nat} {p : Int32} (hn : n ≤ 32) (hK : ∀ i, i < n → a_nodeKind i = nI (kd i)) (hr : ∀ i, i < n → 1 ≤ kd i ∧ kd i ≤ 17) (h1 : gr_bin f_currentStatus n kd p → post 1) (h0 : ¬ gr_bin f_currentStatus n kd p → post 0) : wpX_isCheckedBinder post (f_derefLimit, f_recordLimit, f_frameLimit, nI n, f_currentStatus, f_faultNode, f_typeCount, f_currentNode, f_currentEnv, f_returning, f_returnedNumber, f_frameCount, f_lastOutcome, f_lastValue, f_derefsMade, f_recordsMade, a_nodeKind, a_nodeArg, a_expectedPlaces, a_nodeAtPlace, a_placeOfNode, a_variablesSeen, a_nodeType, a_gradeOfBinder, a_variableType, a_usage, a_typeKind, a_typeGrade, a_typeLeft, a_typeRight, a_frameMark, a_frameWord, a_frameEnv, a_thunkNode, a_thunkEnv, a_restOfEnv, a_binderOfRecord, a_gradeOfRecord, a_countOfRecord) p := by
  unfold wpX_isCheckedBinder
  try dsimp only
  refine br_c (fun s1 => br_c (fun z => h0 ?_) (fun z => ?_)) (fun s1 => h0 (fun y => s1 y.1))
  · rintro ⟨_, j, hj, rfl, _⟩
    exact nI_pos (by omega) z
  · obtain ⟨j, hj, rfl⟩ := nI_of z
    refine pk_lt j n (fun y => ⟨vp_in_nI (by omega) (by decide), ?_⟩) (fun y => h0 ?_)
    · rw [nI_clamp (show j < 2 ^ 31 by omega), hK j y]
      refine nm_e (gr_k4 (hr j y).2 (fun w => h1 ⟨s1, j, y, rfl, w⟩) (fun w => h0 ?_))
      rintro ⟨_, i, hi, e, q⟩
      rw [nI_eq hj (by omega)] at e
      subst e
      exact w q
    · rintro ⟨_, i, hi, e, q⟩
      rw [nI_eq hj (by omega)] at e
      omega
end
section
variable {f_dLim f_rLim f_fLim f_n f_stat f_err f_out f_vInt f_recs f_drf f_fsp : Int32} {a_kind a_arg a_ch a_par a_pos a_seen a_st a_ty a_tyK a_tyG a_tyA a_tyB a_u a_bg a_ux a_uy a_stk a_eqA a_eqB a_rT a_rE a_rG a_rN a_rC a_rX a_fK a_fA a_fE : Nat → Int32}
theorem gy_icb {post : Int32 → Prop} {kd : Nat → Nat} {n : Nat} {p : Int32} (hn : n ≤ 32) (hK : ∀ i, i < n → a_kind i = nI (kd i)) (hr : ∀ i, i < n → 1 ≤ kd i ∧ kd i ≤ 17) (h1 : gr_bin f_stat n kd p → post 1) (h0 : ¬ gr_bin f_stat n kd p → post 0) : wpY_isBinder post (f_dLim, f_rLim, f_fLim, nI n, f_stat, f_err, f_out, f_vInt, f_recs, f_drf, f_fsp, a_kind, a_arg, a_ch, a_par, a_pos, a_seen, a_st, a_ty, a_tyK, a_tyG, a_tyA, a_tyB, a_u, a_bg, a_ux, a_uy, a_stk, a_eqA, a_eqB, a_rT, a_rE, a_rG, a_rN, a_rC, a_rX, a_fK, a_fA, a_fE) p := by
  unfold wpY_isBinder
  try dsimp only
  refine br_c (fun s1 => br_c (fun z => h0 ?_) (fun z => ?_)) (fun s1 => h0 (fun y => s1 y.1))
  · rintro ⟨_, j, hj, rfl, _⟩
    exact nI_pos (by omega) z
  · obtain ⟨j, hj, rfl⟩ := nI_of z
    refine pk_lt j n (fun y => ⟨vp_in_nI (by omega) (by decide), ?_⟩) (fun y => h0 ?_)
    · rw [nI_clamp (show j < 2 ^ 31 by omega), hK j y]
      refine nm_e (gr_k4 (hr j y).2 (fun w => h1 ⟨s1, j, y, rfl, w⟩) (fun w => h0 ?_))
      rintro ⟨_, i, hi, e, q⟩
      rw [nI_eq hj (by omega)] at e
      subst e
      exact w q
    · rintro ⟨_, i, hi, e, q⟩
      rw [nI_eq hj (by omega)] at e
      omega
end
theorem i_vc_binderGrade {k : Nat} {u : SX} {v : SY} (I : i_Rel k u v) (hk : k + 3 ≤ 1539) (v1 : Int32) : wpX_binderGrade (fun r => wpY_binderGrade (fun r' => r' = r ∧ i_Rel (k + 3) u v) v v1) u v1 := by
  have J := I
  obtain ⟨f_derefLimit, f_recordLimit, f_frameLimit, f_nodeCount, f_currentStatus, f_faultNode, f_typeCount, f_currentNode, f_currentEnv, f_returning, f_returnedNumber, f_frameCount, f_lastOutcome, f_lastValue, f_derefsMade, f_recordsMade, a_nodeKind, a_nodeArg, a_expectedPlaces, a_nodeAtPlace, a_placeOfNode, a_variablesSeen, a_nodeType, a_gradeOfBinder, a_variableType, a_usage, a_typeKind, a_typeGrade, a_typeLeft, a_typeRight, a_frameMark, a_frameWord, a_frameEnv, a_thunkNode, a_thunkEnv, a_restOfEnv, a_binderOfRecord, a_gradeOfRecord, a_countOfRecord⟩ := u
  obtain ⟨f_dLim, f_rLim, f_fLim, f_n, f_stat, f_err, f_out, f_vInt, f_recs, f_drf, f_fsp, a_kind, a_arg, a_ch, a_par, a_pos, a_seen, a_st, a_ty, a_tyK, a_tyG, a_tyA, a_tyB, a_u, a_bg, a_ux, a_uy, a_stk, a_eqA, a_eqB, a_rT, a_rE, a_rG, a_rN, a_rC, a_rX, a_fK, a_fA, a_fE⟩ := v
  obtain ⟨L1, L2, L3, s, o, r, kd, n, ⟨p1, p2, p3, p4, p5, p6⟩, c⟩ := I
  obtain ⟨s1, s2, s3⟩ := s
  subst p1 p2 p3 p4 s1
  have hn := p5.1
  unfold wpX_binderGrade wpY_binderGrade
  dsimp only
  refine gx_icb hn p6 p5.2.1 (fun hb => ?_) (fun hb => ?_)
  · obtain ⟨b1, j, b2, rfl, b4⟩ := hb
    obtain ⟨tc, _, cx, cy⟩ := c b1
    have hv := vp_in_nI (show j < 32 by omega) (by decide)
    refine br_f (by decide) ⟨hv, ?_⟩
    rw [nI_clamp (show j < 2 ^ 31 by omega)]
    refine gy_icb hn p6 p5.2.1 (fun _ => ?_) (fun hb' => absurd ⟨b1, j, b2, rfl, b4⟩ hb')
    refine br_f (by decide) ⟨hv, ?_, J⟩
    rw [(cx.2.2.2.2 j b2).2.2.2 b4]
    exact ((cy.2.2.2.2 j ⟨b2, by omega⟩).2.2.2.2.1 b4).1
  · refine br_t rfl ?_
    refine gy_icb hn p6 p5.2.1 (fun hb' => absurd hb' hb) (fun _ => ?_)
    exact br_t rfl ⟨rfl, J⟩
theorem i_vc_binderUsage {k : Nat} {u : SX} {v : SY} (I : i_Rel k u v) (hk : k + 3 ≤ 1539) (v1 : Int32) (v2 : Int32) : wpX_binderUsage (fun r => wpY_binderUsage (fun r' => r' = r ∧ i_Rel (k + 3) u v) v v1 v2) u v1 v2 := by
  have J := I
  obtain ⟨f_derefLimit, f_recordLimit, f_frameLimit, f_nodeCount, f_currentStatus, f_faultNode, f_typeCount, f_currentNode, f_currentEnv, f_returning, f_returnedNumber, f_frameCount, f_lastOutcome, f_lastValue, f_derefsMade, f_recordsMade, a_nodeKind, a_nodeArg, a_expectedPlaces, a_nodeAtPlace, a_placeOfNode, a_variablesSeen, a_nodeType, a_gradeOfBinder, a_variableType, a_usage, a_typeKind, a_typeGrade, a_typeLeft, a_typeRight, a_frameMark, a_frameWord, a_frameEnv, a_thunkNode, a_thunkEnv, a_restOfEnv, a_binderOfRecord, a_gradeOfRecord, a_countOfRecord⟩ := u
  obtain ⟨f_dLim, f_rLim, f_fLim, f_n, f_stat, f_err, f_out, f_vInt, f_recs, f_drf, f_fsp, a_kind, a_arg, a_ch, a_par, a_pos, a_seen, a_st, a_ty, a_tyK, a_tyG, a_tyA, a_tyB, a_u, a_bg, a_ux, a_uy, a_stk, a_eqA, a_eqB, a_rT, a_rE, a_rG, a_rN, a_rC, a_rX, a_fK, a_fA, a_fE⟩ := v
  obtain ⟨L1, L2, L3, s, o, r, kd, n, ⟨p1, p2, p3, p4, p5, p6⟩, c⟩ := I
  obtain ⟨s1, s2, s3⟩ := s
  subst p1 p2 p3 p4 s1
  have hn := p5.1
  unfold wpX_binderUsage wpY_binderUsage
  dsimp only
  refine gx_icb hn p6 p5.2.1 (fun hb => ?_) (fun hb => ?_)
  · have hb' := hb
    obtain ⟨b1, j, b2, rfl, b4⟩ := hb
    obtain ⟨tc, _, ⟨_, A, S, TI⟩, ⟨_, SY, TY⟩⟩ := c b1
    obtain ⟨ok, so, kr, -⟩ := A.1
    have j32 : j < 32 := by omega
    have hv := vp_in_nI j32 (by decide)
    have ej : (nI j).toNatClampNeg = j := nI_clamp (by omega)
    have ar1 : 1 < gp_ar (kd j) := by rcases b4 with e | e | e | e <;> rw [e] <;> decide
    obtain ⟨c1, c2, c3, c4⟩ := gx_chf ok S b2 ar1
    have cn := (gp_ch_lt ok b2 ar1).1
    have ct := gp_tm_ch ok so b2 (by omega) ar1 (by omega)
    have sl := gp_sn_lt ok cn
    have sc := gp_sn_ch ok b2 ar1
    have sj := gp_sn_lt ok b2
    have bd1 : 1 ≤ gp_bd (kd j) 1 := by rcases b4 with e | e | e | e <;> rw [e] <;> decide
    have ux := (TI.2 _ cn).2.2.1 ct (gp_sn kd j) (by omega)
    have ty := TY.2.2 j ⟨b2, by omega⟩
    rw [ej, p6 j b2]
    refine br_f (by decide) ?_
    by_cases z0 : v2 = 0
    · refine br_t z0 ?_
      refine gx_ux j32 (S.2.1 j b2) (by omega) c3 c1 ?_
      rw [ux]
      refine gy_icb hn p6 p5.2.1 (fun _ => ?_) (fun z => absurd hb' z)
      exact br_f (by decide) (br_t z0 ⟨hv, (ty.2.2.2.2.1 b4).2, J⟩)
    · refine br_f z0 ?_
      by_cases z1 : v2 = 1
      · refine ⟨hv, pk_eq (kd j) 12 (fun k12 => ?_) (fun k12 => ⟨hv, pk_eq (kd j) 15 (fun k15 => ?_) (fun k15 => ?_)⟩)⟩
        · have bd : gp_bd (kd j) 1 = 2 := by rw [k12]; decide
          have uy := (TI.2 _ cn).2.2.1 ct (gp_sn kd j + 1) (by omega)
          refine br_t z1 (br_f (by decide) ?_)
          refine gx_uyP j32 (p6 j b2) (by omega) (by omega) (S.2.1 j b2) (by omega) c3 c1 ?_
          rw [uy]
          refine gy_icb hn p6 p5.2.1 (fun _ => ?_) (fun z => absurd hb' z)
          exact br_f (by decide) (br_f z0 (br_t z1 ⟨hv, pk_eq (kd j) 12 (fun _ => ⟨hv, ty.2.2.2.2.2.1 k12, J⟩) (fun w => absurd k12 w)⟩))
        · have ar2 : 2 < gp_ar (kd j) := by rw [k15]; decide
          obtain ⟨d1, d2, d3, d4⟩ := gx_chf ok S b2 ar2
          have dn := (gp_ch_lt ok b2 ar2).1
          have dt := gp_tm_ch ok so b2 (by omega) ar2 (by omega)
          have sd := gp_sn_ch ok b2 ar2
          have bd : gp_bd (kd j) 2 = 1 := by rw [k15]; decide
          have uy := (TI.2 _ dn).2.2.1 dt (gp_sn kd j) (by omega)
          have kk := p6 j b2
          rw [k15] at kk
          refine br_t z1 (br_f (by decide) ?_)
          refine gx_uyC j32 kk (S.2.1 j b2) (by omega) d3 d1 ?_
          rw [uy]
          refine gy_icb hn p6 p5.2.1 (fun _ => ?_) (fun z => absurd hb' z)
          exact br_f (by decide) (br_f z0 (br_t z1 ⟨hv, pk_eq (kd j) 12 (fun w => absurd w k12) (fun _ => ⟨hv, pk_eq (kd j) 15 (fun _ => ⟨hv, ty.2.2.2.2.2.2 k15, J⟩) (fun w => absurd k15 w)⟩)⟩))
        · refine br_t z1 (br_t rfl ?_)
          refine gy_icb hn p6 p5.2.1 (fun _ => ?_) (fun z => absurd hb' z)
          exact br_f (by decide) (br_f z0 (br_t z1 ⟨hv, pk_eq (kd j) 12 (fun w => absurd w k12) (fun _ => ⟨hv, pk_eq (kd j) 15 (fun w => absurd w k15) (fun _ => ⟨rfl, J⟩)⟩)⟩))
      · refine ⟨hv, pk_eq (kd j) 12 (fun k12 => ?_) (fun k12 => ⟨hv, pk_eq (kd j) 15 (fun k15 => ?_) (fun k15 => ?_)⟩)⟩
        all_goals (
          refine br_f z1 ?_
          refine gy_icb hn p6 p5.2.1 (fun _ => ?_) (fun z => absurd hb' z)
          exact br_f (by decide) (br_f z0 (br_f z1 ⟨rfl, J⟩)))
  · refine br_t rfl ?_
    refine gy_icb hn p6 p5.2.1 (fun hb' => absurd hb' hb) (fun _ => ?_)
    exact br_t rfl ⟨rfl, J⟩

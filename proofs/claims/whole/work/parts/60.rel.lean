/-! the relation -/
def gr_lim (a b : Int32) (m : Nat) : Prop := ∃ l, 1 ≤ l ∧ l ≤ m ∧ a = nI l ∧ b = nI l
/-- records that a call can ask for -/
def gr_rec (rm rs : Int32) (bo go co rN rG rC : Nat → Int32) : Prop := ∃ rc, rc ≤ 32 ∧ rm = nI rc ∧ rs = nI rc ∧ ∀ k, k < rc → rN k = bo (k + 1) ∧ rG k = go (k + 1) ∧ rC k = co (k + 1)
def gr_st (s f s' e' : Int32) : Prop := s' = s ∧ ((s = 0 ∨ s = 1) → f = -1) ∧ (¬ (s = 0 ∨ s = 1) → e' = f)
/-- the two tables of nodes -/
def gr_prog (kd : Nat → Nat) (n : Nat) (nc nc' : Int32) (nk na k' a' : Nat → Int32) : Prop := nc = nI n ∧ nc' = nI n ∧ k' = nk ∧ a' = na ∧ gc_prog kd na n ∧ ∀ i, i < n → nk i = nI (kd i)
def i_Rel (k : Nat) (u : SX) (v : SY) : Prop := match u with
  | (f_derefLimit, f_recordLimit, f_frameLimit, f_nodeCount, f_currentStatus, f_faultNode, f_typeCount, f_currentNode, f_currentEnv, f_returning, f_returnedNumber, f_frameCount, f_lastOutcome, f_lastValue, f_derefsMade, f_recordsMade, a_nodeKind, a_nodeArg, a_expectedPlaces, a_nodeAtPlace, a_placeOfNode, a_variablesSeen, a_nodeType, a_gradeOfBinder, a_variableType, a_usage, a_typeKind, a_typeGrade, a_typeLeft, a_typeRight, a_frameMark, a_frameWord, a_frameEnv, a_thunkNode, a_thunkEnv, a_restOfEnv, a_binderOfRecord, a_gradeOfRecord, a_countOfRecord) => match v with
    | (f_dLim, f_rLim, f_fLim, f_n, f_stat, f_err, f_out, f_vInt, f_recs, f_drf, f_fsp, a_kind, a_arg, a_ch, a_par, a_pos, a_seen, a_st, a_ty, a_tyK, a_tyG, a_tyA, a_tyB, a_u, a_bg, a_ux, a_uy, a_stk, a_eqA, a_eqB, a_rT, a_rE, a_rG, a_rN, a_rC, a_rX, a_fK, a_fA, a_fE) => gr_lim f_derefLimit f_dLim 64 ∧ gr_lim f_recordLimit f_rLim 32 ∧ gr_lim f_frameLimit f_fLim 64 ∧ gr_st f_currentStatus f_faultNode f_stat f_err ∧
      (f_out = f_lastOutcome ∧ f_vInt = f_lastValue ∧ f_drf = f_derefsMade) ∧ gr_rec f_recordsMade f_recs a_binderOfRecord a_gradeOfRecord a_countOfRecord a_rN a_rG a_rC ∧
      ∃ (kd : Nat → Nat) (n : Nat), gr_prog kd n f_nodeCount f_n a_nodeKind a_nodeArg a_kind a_arg ∧
        (f_currentStatus = 1 → ∃ tc, f_typeCount = nI tc ∧ gx_CK kd a_nodeArg n tc a_nodeKind a_variablesSeen a_nodeAtPlace a_nodeType a_gradeOfBinder a_usage (a_typeKind, a_typeGrade, a_typeLeft, a_typeRight) ∧
          gy_CK kd a_nodeArg n a_nodeKind a_ch a_par a_pos a_seen a_ty a_bg a_ux a_uy a_u (a_tyK, a_tyG, a_tyA, a_tyB))
theorem i_up {k : Nat} {u : SX} {v : SY} (h : i_Rel k u v) : i_Rel (k + 3) u v := h
theorem gr_clamp (p : Int32) (m : Nat) (h1 : 1 ≤ m) (hm : m < 2 ^ 31) : ∃ l, 1 ≤ l ∧ l ≤ m ∧ (∀ post : Int32 → Prop, post (nI l) → wpX_clamp post p (nI m)) ∧ (∀ (post : Int32 → Prop) (u : SY), post (nI l) → wpY_clamp post u p (nI m)) := by
  have e : (1 : Int32) = nI 1 := rfl
  by_cases z : (1 : Int32) ≤ p
  · have np : ¬ p < 0 := by
      intro y
      have : (1 : Int32) < 0 := Int32.lt_of_le_of_lt z y
      exact absurd this (by decide)
    obtain ⟨j, hj, rfl⟩ := nI_of np
    rw [e, nI_leI (by omega) hj] at z
    by_cases y : j ≤ m
    · refine ⟨j, z, y, fun post hp => ?_, fun post u hp => ?_⟩
      · exact br_t (nI_le z hj) (br_t (nI_le y hm) hp)
      · obtain ⟨f_dLim, f_rLim, f_fLim, f_n, f_stat, f_err, f_out, f_vInt, f_recs, f_drf, f_fsp, a_kind, a_arg, a_ch, a_par, a_pos, a_seen, a_st, a_ty, a_tyK, a_tyG, a_tyA, a_tyB, a_u, a_bg, a_ux, a_uy, a_stk, a_eqA, a_eqB, a_rT, a_rE, a_rG, a_rN, a_rC, a_rX, a_fK, a_fA, a_fE⟩ := u
        exact br_t (nI_le z hj) (br_t (nI_le y hm) hp)
    · refine ⟨m, h1, Nat.le_refl _, fun post hp => ?_, fun post u hp => ?_⟩
      · exact br_t (nI_le z hj) (br_f (nI_ge (by omega) hj) hp)
      · obtain ⟨f_dLim, f_rLim, f_fLim, f_n, f_stat, f_err, f_out, f_vInt, f_recs, f_drf, f_fsp, a_kind, a_arg, a_ch, a_par, a_pos, a_seen, a_st, a_ty, a_tyK, a_tyG, a_tyA, a_tyB, a_u, a_bg, a_ux, a_uy, a_stk, a_eqA, a_eqB, a_rT, a_rE, a_rG, a_rN, a_rC, a_rX, a_fK, a_fA, a_fE⟩ := u
        exact br_t (nI_le z hj) (br_f (nI_ge (by omega) hj) hp)
  · refine ⟨1, Nat.le_refl _, h1, fun post hp => br_f z hp, fun post u hp => ?_⟩
    obtain ⟨f_dLim, f_rLim, f_fLim, f_n, f_stat, f_err, f_out, f_vInt, f_recs, f_drf, f_fsp, a_kind, a_arg, a_ch, a_par, a_pos, a_seen, a_st, a_ty, a_tyK, a_tyG, a_tyA, a_tyB, a_u, a_bg, a_ux, a_uy, a_stk, a_eqA, a_eqB, a_rT, a_rE, a_rG, a_rN, a_rC, a_rX, a_fK, a_fA, a_fE⟩ := u
    exact br_f z hp
theorem gc_prog_0 (kd : Nat → Nat) (ag : Nat → Int32) : gc_prog kd ag 0 := ⟨by omega, fun _ h => by omega, fun _ h => by omega, fun _ h => by omega, fun _ h => by omega, fun _ h => by omega⟩
theorem i_vc0 (k0 : Int32) (k1 : Int32) (k2 : Int32) : wpX_init (fun u => wpY_init (fun v => i_Rel 3 u v) k0 k1 k2) k0 k1 k2 := by
  obtain ⟨l0, a0, b0, X0, Y0⟩ := gr_clamp k0 64 (by decide) (by decide)
  obtain ⟨l1, a1, b1, X1, Y1⟩ := gr_clamp k1 32 (by decide) (by decide)
  obtain ⟨l2, a2, b2, X2, Y2⟩ := gr_clamp k2 64 (by decide) (by decide)
  refine X0 _ (X1 _ (X2 _ ?_))
  refine Y0 _ _ (Y1 _ _ (Y2 _ _ ?_))
  exact ⟨⟨l0, a0, b0, rfl, rfl⟩, ⟨l1, a1, b1, rfl, rfl⟩, ⟨l2, a2, b2, rfl, rfl⟩, ⟨rfl, fun _ => rfl, fun z => absurd (Or.inl rfl) z⟩, ⟨rfl, rfl, rfl⟩, ⟨0, by omega, rfl, rfl, fun k hk => by omega⟩,
    fun _ => 0, 0, ⟨rfl, rfl, rfl, rfl, gc_prog_0 _ _, fun i hi => by omega⟩, fun z => absurd z (by decide)⟩
theorem i_vc_reset {k : Nat} {u : SX} {v : SY} (I : i_Rel k u v) (hk : k + 3 ≤ 1539) : wpX_reset (fun u' => wpY_reset (fun v' => i_Rel (k + 3) u' v') v) u := by
  obtain ⟨f_derefLimit, f_recordLimit, f_frameLimit, f_nodeCount, f_currentStatus, f_faultNode, f_typeCount, f_currentNode, f_currentEnv, f_returning, f_returnedNumber, f_frameCount, f_lastOutcome, f_lastValue, f_derefsMade, f_recordsMade, a_nodeKind, a_nodeArg, a_expectedPlaces, a_nodeAtPlace, a_placeOfNode, a_variablesSeen, a_nodeType, a_gradeOfBinder, a_variableType, a_usage, a_typeKind, a_typeGrade, a_typeLeft, a_typeRight, a_frameMark, a_frameWord, a_frameEnv, a_thunkNode, a_thunkEnv, a_restOfEnv, a_binderOfRecord, a_gradeOfRecord, a_countOfRecord⟩ := u
  obtain ⟨f_dLim, f_rLim, f_fLim, f_n, f_stat, f_err, f_out, f_vInt, f_recs, f_drf, f_fsp, a_kind, a_arg, a_ch, a_par, a_pos, a_seen, a_st, a_ty, a_tyK, a_tyG, a_tyA, a_tyB, a_u, a_bg, a_ux, a_uy, a_stk, a_eqA, a_eqB, a_rT, a_rE, a_rG, a_rN, a_rC, a_rX, a_fK, a_fA, a_fE⟩ := v
  obtain ⟨L1, L2, L3, s, o, r, kd, n, p, c⟩ := I
  exact ⟨L1, L2, L3, ⟨rfl, fun _ => rfl, fun z => absurd (Or.inl rfl) z⟩, ⟨rfl, rfl, rfl⟩, ⟨0, by omega, rfl, rfl, fun k hk => by omega⟩,
    kd, 0, ⟨rfl, rfl, p.2.2.1, p.2.2.2.1, gc_prog_0 _ _, fun i hi => by omega⟩, fun z => absurd z (by decide)⟩
theorem i_vc_status {k : Nat} {u : SX} {v : SY} (I : i_Rel k u v) (hk : k + 3 ≤ 1539) : wpX_status (fun r => wpY_status (fun r' => r' = r ∧ i_Rel (k + 3) u v) v) u := by
  have J := I
  obtain ⟨f_derefLimit, f_recordLimit, f_frameLimit, f_nodeCount, f_currentStatus, f_faultNode, f_typeCount, f_currentNode, f_currentEnv, f_returning, f_returnedNumber, f_frameCount, f_lastOutcome, f_lastValue, f_derefsMade, f_recordsMade, a_nodeKind, a_nodeArg, a_expectedPlaces, a_nodeAtPlace, a_placeOfNode, a_variablesSeen, a_nodeType, a_gradeOfBinder, a_variableType, a_usage, a_typeKind, a_typeGrade, a_typeLeft, a_typeRight, a_frameMark, a_frameWord, a_frameEnv, a_thunkNode, a_thunkEnv, a_restOfEnv, a_binderOfRecord, a_gradeOfRecord, a_countOfRecord⟩ := u
  obtain ⟨f_dLim, f_rLim, f_fLim, f_n, f_stat, f_err, f_out, f_vInt, f_recs, f_drf, f_fsp, a_kind, a_arg, a_ch, a_par, a_pos, a_seen, a_st, a_ty, a_tyK, a_tyG, a_tyA, a_tyB, a_u, a_bg, a_ux, a_uy, a_stk, a_eqA, a_eqB, a_rT, a_rE, a_rG, a_rN, a_rC, a_rX, a_fK, a_fA, a_fE⟩ := v
  obtain ⟨L1, L2, L3, s, o, r, kd, n, p, c⟩ := I
  exact ⟨s.1, J⟩
theorem i_vc_errorNode {k : Nat} {u : SX} {v : SY} (I : i_Rel k u v) (hk : k + 3 ≤ 1539) : wpX_errorNode (fun r => wpY_errorNode (fun r' => r' = r ∧ i_Rel (k + 3) u v) v) u := by
  have J := I
  obtain ⟨f_derefLimit, f_recordLimit, f_frameLimit, f_nodeCount, f_currentStatus, f_faultNode, f_typeCount, f_currentNode, f_currentEnv, f_returning, f_returnedNumber, f_frameCount, f_lastOutcome, f_lastValue, f_derefsMade, f_recordsMade, a_nodeKind, a_nodeArg, a_expectedPlaces, a_nodeAtPlace, a_placeOfNode, a_variablesSeen, a_nodeType, a_gradeOfBinder, a_variableType, a_usage, a_typeKind, a_typeGrade, a_typeLeft, a_typeRight, a_frameMark, a_frameWord, a_frameEnv, a_thunkNode, a_thunkEnv, a_restOfEnv, a_binderOfRecord, a_gradeOfRecord, a_countOfRecord⟩ := u
  obtain ⟨f_dLim, f_rLim, f_fLim, f_n, f_stat, f_err, f_out, f_vInt, f_recs, f_drf, f_fsp, a_kind, a_arg, a_ch, a_par, a_pos, a_seen, a_st, a_ty, a_tyK, a_tyG, a_tyA, a_tyB, a_u, a_bg, a_ux, a_uy, a_stk, a_eqA, a_eqB, a_rT, a_rE, a_rG, a_rN, a_rC, a_rX, a_fK, a_fA, a_fE⟩ := v
  obtain ⟨L1, L2, L3, ⟨s1, s2, s3⟩, o, r, kd, n, p, c⟩ := I
  subst s1
  refine br_c (fun z => ⟨(s2 (Or.inl z)).symm, J⟩) (fun z => br_c (fun y => ⟨(s2 (Or.inr y)).symm, J⟩) (fun y => ⟨s3 (fun w => w.elim z y), J⟩))
theorem i_vc_outcome {k : Nat} {u : SX} {v : SY} (I : i_Rel k u v) (hk : k + 3 ≤ 1539) : wpX_outcome (fun r => wpY_outcome (fun r' => r' = r ∧ i_Rel (k + 3) u v) v) u := by
  have J := I
  obtain ⟨f_derefLimit, f_recordLimit, f_frameLimit, f_nodeCount, f_currentStatus, f_faultNode, f_typeCount, f_currentNode, f_currentEnv, f_returning, f_returnedNumber, f_frameCount, f_lastOutcome, f_lastValue, f_derefsMade, f_recordsMade, a_nodeKind, a_nodeArg, a_expectedPlaces, a_nodeAtPlace, a_placeOfNode, a_variablesSeen, a_nodeType, a_gradeOfBinder, a_variableType, a_usage, a_typeKind, a_typeGrade, a_typeLeft, a_typeRight, a_frameMark, a_frameWord, a_frameEnv, a_thunkNode, a_thunkEnv, a_restOfEnv, a_binderOfRecord, a_gradeOfRecord, a_countOfRecord⟩ := u
  obtain ⟨f_dLim, f_rLim, f_fLim, f_n, f_stat, f_err, f_out, f_vInt, f_recs, f_drf, f_fsp, a_kind, a_arg, a_ch, a_par, a_pos, a_seen, a_st, a_ty, a_tyK, a_tyG, a_tyA, a_tyB, a_u, a_bg, a_ux, a_uy, a_stk, a_eqA, a_eqB, a_rT, a_rE, a_rG, a_rN, a_rC, a_rX, a_fK, a_fA, a_fE⟩ := v
  obtain ⟨L1, L2, L3, s, o, r, kd, n, p, c⟩ := I
  exact ⟨o.1, J⟩
theorem i_vc_valueInt {k : Nat} {u : SX} {v : SY} (I : i_Rel k u v) (hk : k + 3 ≤ 1539) : wpX_valueInt (fun r => wpY_valueInt (fun r' => r' = r ∧ i_Rel (k + 3) u v) v) u := by
  have J := I
  obtain ⟨f_derefLimit, f_recordLimit, f_frameLimit, f_nodeCount, f_currentStatus, f_faultNode, f_typeCount, f_currentNode, f_currentEnv, f_returning, f_returnedNumber, f_frameCount, f_lastOutcome, f_lastValue, f_derefsMade, f_recordsMade, a_nodeKind, a_nodeArg, a_expectedPlaces, a_nodeAtPlace, a_placeOfNode, a_variablesSeen, a_nodeType, a_gradeOfBinder, a_variableType, a_usage, a_typeKind, a_typeGrade, a_typeLeft, a_typeRight, a_frameMark, a_frameWord, a_frameEnv, a_thunkNode, a_thunkEnv, a_restOfEnv, a_binderOfRecord, a_gradeOfRecord, a_countOfRecord⟩ := u
  obtain ⟨f_dLim, f_rLim, f_fLim, f_n, f_stat, f_err, f_out, f_vInt, f_recs, f_drf, f_fsp, a_kind, a_arg, a_ch, a_par, a_pos, a_seen, a_st, a_ty, a_tyK, a_tyG, a_tyA, a_tyB, a_u, a_bg, a_ux, a_uy, a_stk, a_eqA, a_eqB, a_rT, a_rE, a_rG, a_rN, a_rC, a_rX, a_fK, a_fA, a_fE⟩ := v
  obtain ⟨L1, L2, L3, s, o, r, kd, n, p, c⟩ := I
  exact ⟨o.2.1, J⟩
theorem i_vc_derefs {k : Nat} {u : SX} {v : SY} (I : i_Rel k u v) (hk : k + 3 ≤ 1539) : wpX_derefs (fun r => wpY_derefs (fun r' => r' = r ∧ i_Rel (k + 3) u v) v) u := by
  have J := I
  obtain ⟨f_derefLimit, f_recordLimit, f_frameLimit, f_nodeCount, f_currentStatus, f_faultNode, f_typeCount, f_currentNode, f_currentEnv, f_returning, f_returnedNumber, f_frameCount, f_lastOutcome, f_lastValue, f_derefsMade, f_recordsMade, a_nodeKind, a_nodeArg, a_expectedPlaces, a_nodeAtPlace, a_placeOfNode, a_variablesSeen, a_nodeType, a_gradeOfBinder, a_variableType, a_usage, a_typeKind, a_typeGrade, a_typeLeft, a_typeRight, a_frameMark, a_frameWord, a_frameEnv, a_thunkNode, a_thunkEnv, a_restOfEnv, a_binderOfRecord, a_gradeOfRecord, a_countOfRecord⟩ := u
  obtain ⟨f_dLim, f_rLim, f_fLim, f_n, f_stat, f_err, f_out, f_vInt, f_recs, f_drf, f_fsp, a_kind, a_arg, a_ch, a_par, a_pos, a_seen, a_st, a_ty, a_tyK, a_tyG, a_tyA, a_tyB, a_u, a_bg, a_ux, a_uy, a_stk, a_eqA, a_eqB, a_rT, a_rE, a_rG, a_rN, a_rC, a_rX, a_fK, a_fA, a_fE⟩ := v
  obtain ⟨L1, L2, L3, s, o, r, kd, n, p, c⟩ := I
  exact ⟨o.2.2, J⟩
theorem i_vc_records {k : Nat} {u : SX} {v : SY} (I : i_Rel k u v) (hk : k + 3 ≤ 1539) : wpX_records (fun r => wpY_records (fun r' => r' = r ∧ i_Rel (k + 3) u v) v) u := by
  have J := I
  obtain ⟨f_derefLimit, f_recordLimit, f_frameLimit, f_nodeCount, f_currentStatus, f_faultNode, f_typeCount, f_currentNode, f_currentEnv, f_returning, f_returnedNumber, f_frameCount, f_lastOutcome, f_lastValue, f_derefsMade, f_recordsMade, a_nodeKind, a_nodeArg, a_expectedPlaces, a_nodeAtPlace, a_placeOfNode, a_variablesSeen, a_nodeType, a_gradeOfBinder, a_variableType, a_usage, a_typeKind, a_typeGrade, a_typeLeft, a_typeRight, a_frameMark, a_frameWord, a_frameEnv, a_thunkNode, a_thunkEnv, a_restOfEnv, a_binderOfRecord, a_gradeOfRecord, a_countOfRecord⟩ := u
  obtain ⟨f_dLim, f_rLim, f_fLim, f_n, f_stat, f_err, f_out, f_vInt, f_recs, f_drf, f_fsp, a_kind, a_arg, a_ch, a_par, a_pos, a_seen, a_st, a_ty, a_tyK, a_tyG, a_tyA, a_tyB, a_u, a_bg, a_ux, a_uy, a_stk, a_eqA, a_eqB, a_rT, a_rE, a_rG, a_rN, a_rC, a_rX, a_fK, a_fA, a_fE⟩ := v
  obtain ⟨L1, L2, L3, s, o, ⟨rc, r1, r2, r3, r4⟩, kd, n, p, c⟩ := I
  exact ⟨r3.trans r2.symm, J⟩
theorem i_vc_recordNode {k : Nat} {u : SX} {v : SY} (I : i_Rel k u v) (hk : k + 3 ≤ 1539) (v1 : Int32) : wpX_recordNode (fun r => wpY_recordNode (fun r' => r' = r ∧ i_Rel (k + 3) u v) v v1) u v1 := by
  have J := I
  obtain ⟨f_derefLimit, f_recordLimit, f_frameLimit, f_nodeCount, f_currentStatus, f_faultNode, f_typeCount, f_currentNode, f_currentEnv, f_returning, f_returnedNumber, f_frameCount, f_lastOutcome, f_lastValue, f_derefsMade, f_recordsMade, a_nodeKind, a_nodeArg, a_expectedPlaces, a_nodeAtPlace, a_placeOfNode, a_variablesSeen, a_nodeType, a_gradeOfBinder, a_variableType, a_usage, a_typeKind, a_typeGrade, a_typeLeft, a_typeRight, a_frameMark, a_frameWord, a_frameEnv, a_thunkNode, a_thunkEnv, a_restOfEnv, a_binderOfRecord, a_gradeOfRecord, a_countOfRecord⟩ := u
  obtain ⟨f_dLim, f_rLim, f_fLim, f_n, f_stat, f_err, f_out, f_vInt, f_recs, f_drf, f_fsp, a_kind, a_arg, a_ch, a_par, a_pos, a_seen, a_st, a_ty, a_tyK, a_tyG, a_tyA, a_tyB, a_u, a_bg, a_ux, a_uy, a_stk, a_eqA, a_eqB, a_rT, a_rE, a_rG, a_rN, a_rC, a_rX, a_fK, a_fA, a_fE⟩ := v
  obtain ⟨L1, L2, L3, s, o, ⟨rc, r1, r2, r3, r4⟩, kd, n, p, c⟩ := I
  subst r2 r3
  by_cases z : v1 < 0
  · exact br_t z (br_t rfl (br_t z ⟨rfl, J⟩))
  · obtain ⟨j, hj, rfl⟩ := nI_of z
    rcases Nat.lt_or_ge j rc with y | y
    · refine br_f z (br_f (nI_ge y (by omega)) (br_f (by decide) ?_))
      rw [nI_1, nI_clamp (show j + 1 < 2 ^ 31 by omega)]
      refine ⟨vp_in_nI (by omega) (by decide), br_f z (br_t (nI_lt y (by omega)) ⟨vp_in_nI (by omega) (by decide), ?_, J⟩)⟩
      rw [nI_clamp (show j < 2 ^ 31 by omega)]
      exact (r4 j y).1
    · exact br_f z (br_t (nI_le y hj) (br_t rfl (br_f z (br_f (nI_nlt y hj) ⟨rfl, J⟩))))
theorem i_vc_recordGrade {k : Nat} {u : SX} {v : SY} (I : i_Rel k u v) (hk : k + 3 ≤ 1539) (v1 : Int32) : wpX_recordGrade (fun r => wpY_recordGrade (fun r' => r' = r ∧ i_Rel (k + 3) u v) v v1) u v1 := by
  have J := I
  obtain ⟨f_derefLimit, f_recordLimit, f_frameLimit, f_nodeCount, f_currentStatus, f_faultNode, f_typeCount, f_currentNode, f_currentEnv, f_returning, f_returnedNumber, f_frameCount, f_lastOutcome, f_lastValue, f_derefsMade, f_recordsMade, a_nodeKind, a_nodeArg, a_expectedPlaces, a_nodeAtPlace, a_placeOfNode, a_variablesSeen, a_nodeType, a_gradeOfBinder, a_variableType, a_usage, a_typeKind, a_typeGrade, a_typeLeft, a_typeRight, a_frameMark, a_frameWord, a_frameEnv, a_thunkNode, a_thunkEnv, a_restOfEnv, a_binderOfRecord, a_gradeOfRecord, a_countOfRecord⟩ := u
  obtain ⟨f_dLim, f_rLim, f_fLim, f_n, f_stat, f_err, f_out, f_vInt, f_recs, f_drf, f_fsp, a_kind, a_arg, a_ch, a_par, a_pos, a_seen, a_st, a_ty, a_tyK, a_tyG, a_tyA, a_tyB, a_u, a_bg, a_ux, a_uy, a_stk, a_eqA, a_eqB, a_rT, a_rE, a_rG, a_rN, a_rC, a_rX, a_fK, a_fA, a_fE⟩ := v
  obtain ⟨L1, L2, L3, s, o, ⟨rc, r1, r2, r3, r4⟩, kd, n, p, c⟩ := I
  subst r2 r3
  by_cases z : v1 < 0
  · exact br_t z (br_t rfl (br_t z ⟨rfl, J⟩))
  · obtain ⟨j, hj, rfl⟩ := nI_of z
    rcases Nat.lt_or_ge j rc with y | y
    · refine br_f z (br_f (nI_ge y (by omega)) (br_f (by decide) ?_))
      rw [nI_1, nI_clamp (show j + 1 < 2 ^ 31 by omega)]
      refine ⟨vp_in_nI (by omega) (by decide), br_f z (br_t (nI_lt y (by omega)) ⟨vp_in_nI (by omega) (by decide), ?_, J⟩)⟩
      rw [nI_clamp (show j < 2 ^ 31 by omega)]
      exact (r4 j y).2.1
    · exact br_f z (br_t (nI_le y hj) (br_t rfl (br_f z (br_f (nI_nlt y hj) ⟨rfl, J⟩))))
theorem i_vc_recordCount {k : Nat} {u : SX} {v : SY} (I : i_Rel k u v) (hk : k + 3 ≤ 1539) (v1 : Int32) : wpX_recordCount (fun r => wpY_recordCount (fun r' => r' = r ∧ i_Rel (k + 3) u v) v v1) u v1 := by
  have J := I
  obtain ⟨f_derefLimit, f_recordLimit, f_frameLimit, f_nodeCount, f_currentStatus, f_faultNode, f_typeCount, f_currentNode, f_currentEnv, f_returning, f_returnedNumber, f_frameCount, f_lastOutcome, f_lastValue, f_derefsMade, f_recordsMade, a_nodeKind, a_nodeArg, a_expectedPlaces, a_nodeAtPlace, a_placeOfNode, a_variablesSeen, a_nodeType, a_gradeOfBinder, a_variableType, a_usage, a_typeKind, a_typeGrade, a_typeLeft, a_typeRight, a_frameMark, a_frameWord, a_frameEnv, a_thunkNode, a_thunkEnv, a_restOfEnv, a_binderOfRecord, a_gradeOfRecord, a_countOfRecord⟩ := u
  obtain ⟨f_dLim, f_rLim, f_fLim, f_n, f_stat, f_err, f_out, f_vInt, f_recs, f_drf, f_fsp, a_kind, a_arg, a_ch, a_par, a_pos, a_seen, a_st, a_ty, a_tyK, a_tyG, a_tyA, a_tyB, a_u, a_bg, a_ux, a_uy, a_stk, a_eqA, a_eqB, a_rT, a_rE, a_rG, a_rN, a_rC, a_rX, a_fK, a_fA, a_fE⟩ := v
  obtain ⟨L1, L2, L3, s, o, ⟨rc, r1, r2, r3, r4⟩, kd, n, p, c⟩ := I
  subst r2 r3
  by_cases z : v1 < 0
  · exact br_t z (br_t rfl (br_t z ⟨rfl, J⟩))
  · obtain ⟨j, hj, rfl⟩ := nI_of z
    rcases Nat.lt_or_ge j rc with y | y
    · refine br_f z (br_f (nI_ge y (by omega)) (br_f (by decide) ?_))
      rw [nI_1, nI_clamp (show j + 1 < 2 ^ 31 by omega)]
      refine ⟨vp_in_nI (by omega) (by decide), br_f z (br_t (nI_lt y (by omega)) ⟨vp_in_nI (by omega) (by decide), ?_, J⟩)⟩
      rw [nI_clamp (show j < 2 ^ 31 by omega)]
      exact (r4 j y).2.2
    · exact br_f z (br_t (nI_le y hj) (br_t rfl (br_f z (br_f (nI_nlt y hj) ⟨rfl, J⟩))))

section
variable {f_derefLimit f_recordLimit f_frameLimit f_nodeCount f_currentStatus f_faultNode f_typeCount f_currentNode f_currentEnv f_returning f_returnedNumber f_frameCount f_lastOutcome f_lastValue f_derefsMade f_recordsMade : Int32} {a_nodeKind a_nodeArg a_expectedPlaces a_nodeAtPlace a_placeOfNode a_variablesSeen a_nodeType a_gradeOfBinder a_variableType a_usage a_typeKind a_typeGrade a_typeLeft a_typeRight a_frameMark a_frameWord a_frameEnv a_thunkNode a_thunkEnv a_restOfEnv a_binderOfRecord a_gradeOfRecord a_countOfRecord : Nat → Int32}
theorem gx_cVal2 {post : St2 → Prop} {kd : Nat → Nat} {n t tc : Nat} {P : Nat → Prop} (A : gt_P kd a_nodeArg n) (S : gx_S kd n a_nodeKind a_variablesSeen a_nodeAtPlace) (I : gx_TI kd a_nodeArg n P tc a_nodeType a_gradeOfBinder a_usage (a_typeKind, a_typeGrade, a_typeLeft, a_typeRight)) (ht : t < n) (hc : ∀ j, j < gp_ar (kd t) → P (gp_ch kd n t j)) (hnP : ¬ P t) (htc : tc < 32) (hk : kd t = 11 ∨ kd t = 13 ∨ kd t = 14) (hOK : gt_e2 kd a_nodeArg n t = 0 → ∀ tc' nt gb us tk tg tl tr, gx_TI kd a_nodeArg n (fun d => P d ∨ d = t) tc' nt gb us (tk, tg, tl, tr) → tc ≤ tc' → tc' ≤ tc + 1 → gd_ext (a_typeKind, a_typeGrade, a_typeLeft, a_typeRight) (tk, tg, tl, tr) tc → post (f_derefLimit, f_recordLimit, f_frameLimit, f_nodeCount, f_currentStatus, f_faultNode, nI tc', f_currentNode, f_currentEnv, f_returning, f_returnedNumber, f_frameCount, f_lastOutcome, f_lastValue, f_derefsMade, f_recordsMade, a_nodeKind, a_nodeArg, a_expectedPlaces, a_nodeAtPlace, a_placeOfNode, a_variablesSeen, nt, gb, a_variableType, us, tk, tg, tl, tr, a_frameMark, a_frameWord, a_frameEnv, a_thunkNode, a_thunkEnv, a_restOfEnv, a_binderOfRecord, a_gradeOfRecord, a_countOfRecord)) : wpX_completeValue post (f_derefLimit, f_recordLimit, f_frameLimit, f_nodeCount, f_currentStatus, f_faultNode, nI tc, f_currentNode, f_currentEnv, f_returning, f_returnedNumber, f_frameCount, f_lastOutcome, f_lastValue, f_derefsMade, f_recordsMade, a_nodeKind, a_nodeArg, a_expectedPlaces, a_nodeAtPlace, a_placeOfNode, a_variablesSeen, a_nodeType, a_gradeOfBinder, a_variableType, a_usage, a_typeKind, a_typeGrade, a_typeLeft, a_typeRight, a_frameMark, a_frameWord, a_frameEnv, a_thunkNode, a_thunkEnv, a_restOfEnv, a_binderOfRecord, a_gradeOfRecord, a_countOfRecord) (nI t) := by
  have hA := A
  obtain ⟨ok, so, kr, sc, ag2, ag3, -⟩ := A
  have hn := ok.2.1
  have t32 : t < 32 := by omega
  have v := vp_in_nI t32 (by decide)
  have et : (nI t).toNatClampNeg = t := nI_clamp (by omega)
  have sl := gp_sn_lt ok ht
  have ar : gp_ar (kd t) = 2 := by rcases hk with e | e | e <;> rw [e] <;> decide
  have ar0 : 0 < gp_ar (kd t) := by omega
  have ar1 : 1 < gp_ar (kd t) := by omega
  have m1 := gp_tm_ch ok so ht (by omega) ar1 (by omega)
  obtain ⟨c1, c2, c3, c4⟩ := gx_chf ok S ht ar0
  obtain ⟨d1, d2, d3, d4⟩ := gx_chf ok S ht ar1
  obtain ⟨_, ⟨x, x1, x2, x3⟩, _⟩ := I.2 _ (hc 0 ar0)
  obtain ⟨_, ⟨y, y1, y2, y3⟩, _⟩ := I.2 _ (hc 1 ar1)
  have u1 := gx_cu hA I ht ar1 (hc 1 ar1) m1
  have e0 : gt_e2 kd a_nodeArg n t = 0 := gt_e2_z (by omega)
  unfold wpX_completeValue
  try dsimp only
  refine gx_tc (j := 0) t32 c4 c3 c1 ?_
  rw [x2, et, S.1 t ht]
  refine ⟨v, pk_eq (kd t) 16 (fun z => by omega) (fun _ => gx_tc (j := 1) t32 d4 d3 d1 ?_)⟩
  rw [y2]
  unfold wX_completeValue_28
  rw [et, S.1 t ht]
  refine ⟨v, nm_e ?_⟩
  rcases hk with e | e | e
  · have m0 := gp_tm_ch ok so ht (by omega) ar0 (by omega)
    have u0 := gx_cu hA I ht ar0 (hc 0 ar0) m0
    have q := gt_q11 (ag := a_nodeArg) ok ht e
    rw [e]
    refine br_f (by decide) (br_f (by decide) (br_t (by decide) ?_))
    refine gx_tn htc I.1 (fun _ => ⟨x, x1, rfl, x3⟩) (fun _ _ => ⟨y, y1, rfl, y3⟩) (fun z => absurd z (by decide)) (fun z => absurd z (by decide)) (fun x' tc' tk tg tl tr hx b1 b2 b3 b4 b5 => ?_)
    try dsimp only
    try rw [et]
    refine ⟨v, nm_e (gx_au (s := gp_sn kd t) (ja := 0) (jb := 1) (ga := 1) (gb := 1) t32 (by omega) (S.2.1 t ht) (by omega) (by omega) c3 d3 c1 d1 c2 d2 (by omega) (by omega) (fun w hw => u0 w (by omega)) (fun w hw => u1 w (by omega)) ?_)⟩
    try dsimp only
    refine hOK e0 tc' _ _ _ _ _ _ _ (gx_TI_add ok I ht hnP b1 b3 b4 hx ?_ ?_ ?_ (fun _ _ => rfl) (fun z => by omega)) b1 b2 b4
    · rw [b5, show gt_t kd a_nodeArg n t = (gt_f kd a_nodeArg n t).1 from rfl, q]
    · intro j hj
      rw [gx_row_off (by omega) hj]
    · intro _ w hw
      rw [show gt_u kd a_nodeArg n t w = (gt_f kd a_nodeArg n t).2.1 w from rfl, q, gx_row_in hw, gt_mul_1 (u0 w (by omega)).2, gt_mul_1 (u1 w (by omega)).2]
  · have q := gt_q13 (ag := a_nodeArg) ok ht e
    rw [e]
    refine br_f (by decide) (br_f (by decide) (br_f (by decide) (br_f (by decide) (br_t (by decide) ?_))))
    refine gx_tn htc I.1 (fun _ => ⟨y, y1, rfl, y3⟩) (fun _ _ => ⟨x, x1, rfl, x3⟩) (fun z => absurd z (by decide)) (fun z => absurd z (by decide)) (fun x' tc' tk tg tl tr hx b1 b2 b3 b4 b5 => ?_)
    try dsimp only
    try rw [et]
    refine ⟨v, nm_e (gx_au (s := gp_sn kd t) (ja := 1) (jb := 1) (ga := 1) (gb := 0) t32 (by omega) (S.2.1 t ht) (by omega) (by omega) d3 d3 d1 d1 d2 d2 (by omega) (by omega) (fun w hw => u1 w (by omega)) (fun w hw => u1 w (by omega)) ?_)⟩
    try dsimp only
    refine hOK e0 tc' _ _ _ _ _ _ _ (gx_TI_add ok I ht hnP b1 b3 b4 hx ?_ ?_ ?_ (fun _ _ => rfl) (fun z => by omega)) b1 b2 b4
    · rw [b5, show gt_t kd a_nodeArg n t = (gt_f kd a_nodeArg n t).1 from rfl, q]
    · intro j hj
      rw [gx_row_off (by omega) hj]
    · intro _ w hw
      rw [show gt_u kd a_nodeArg n t w = (gt_f kd a_nodeArg n t).2.1 w from rfl, q, gx_row_in hw, gt_mul_1 (u1 w (by omega)).2, gt_mul_0, gt_add_0 (u1 w (by omega)).2]
  · have q := gt_q14 (ag := a_nodeArg) ok ht e
    rw [e]
    refine br_f (by decide) (br_f (by decide) (br_f (by decide) (br_f (by decide) (br_f (by decide) (br_t (by decide) ?_)))))
    refine gx_tn htc I.1 (fun _ => ⟨x, x1, rfl, x3⟩) (fun _ _ => ⟨y, y1, rfl, y3⟩) (fun z => absurd z (by decide)) (fun z => absurd z (by decide)) (fun x' tc' tk tg tl tr hx b1 b2 b3 b4 b5 => ?_)
    try dsimp only
    try rw [et]
    refine ⟨v, nm_e (gx_au (s := gp_sn kd t) (ja := 1) (jb := 1) (ga := 1) (gb := 0) t32 (by omega) (S.2.1 t ht) (by omega) (by omega) d3 d3 d1 d1 d2 d2 (by omega) (by omega) (fun w hw => u1 w (by omega)) (fun w hw => u1 w (by omega)) ?_)⟩
    try dsimp only
    refine hOK e0 tc' _ _ _ _ _ _ _ (gx_TI_add ok I ht hnP b1 b3 b4 hx ?_ ?_ ?_ (fun _ _ => rfl) (fun z => by omega)) b1 b2 b4
    · rw [b5, show gt_t kd a_nodeArg n t = (gt_f kd a_nodeArg n t).1 from rfl, q]
    · intro j hj
      rw [gx_row_off (by omega) hj]
    · intro _ w hw
      rw [show gt_u kd a_nodeArg n t w = (gt_f kd a_nodeArg n t).2.1 w from rfl, q, gx_row_in hw, gt_mul_1 (u1 w (by omega)).2, gt_mul_0, gt_add_0 (u1 w (by omega)).2]
theorem gx_cVal1 {post : St2 → Prop} {kd : Nat → Nat} {n t tc : Nat} {P : Nat → Prop} (A : gt_P kd a_nodeArg n) (S : gx_S kd n a_nodeKind a_variablesSeen a_nodeAtPlace) (I : gx_TI kd a_nodeArg n P tc a_nodeType a_gradeOfBinder a_usage (a_typeKind, a_typeGrade, a_typeLeft, a_typeRight)) (ht : t < n) (hc : ∀ j, j < gp_ar (kd t) → P (gp_ch kd n t j)) (hnP : ¬ P t) (htc : tc < 32) (hk : kd t = 16) (hOK : gt_e2 kd a_nodeArg n t = 0 → ∀ tc' nt gb us tk tg tl tr, gx_TI kd a_nodeArg n (fun d => P d ∨ d = t) tc' nt gb us (tk, tg, tl, tr) → tc ≤ tc' → tc' ≤ tc + 1 → gd_ext (a_typeKind, a_typeGrade, a_typeLeft, a_typeRight) (tk, tg, tl, tr) tc → post (f_derefLimit, f_recordLimit, f_frameLimit, f_nodeCount, f_currentStatus, f_faultNode, nI tc', f_currentNode, f_currentEnv, f_returning, f_returnedNumber, f_frameCount, f_lastOutcome, f_lastValue, f_derefsMade, f_recordsMade, a_nodeKind, a_nodeArg, a_expectedPlaces, a_nodeAtPlace, a_placeOfNode, a_variablesSeen, nt, gb, a_variableType, us, tk, tg, tl, tr, a_frameMark, a_frameWord, a_frameEnv, a_thunkNode, a_thunkEnv, a_restOfEnv, a_binderOfRecord, a_gradeOfRecord, a_countOfRecord)) : wpX_completeValue post (f_derefLimit, f_recordLimit, f_frameLimit, f_nodeCount, f_currentStatus, f_faultNode, nI tc, f_currentNode, f_currentEnv, f_returning, f_returnedNumber, f_frameCount, f_lastOutcome, f_lastValue, f_derefsMade, f_recordsMade, a_nodeKind, a_nodeArg, a_expectedPlaces, a_nodeAtPlace, a_placeOfNode, a_variablesSeen, a_nodeType, a_gradeOfBinder, a_variableType, a_usage, a_typeKind, a_typeGrade, a_typeLeft, a_typeRight, a_frameMark, a_frameWord, a_frameEnv, a_thunkNode, a_thunkEnv, a_restOfEnv, a_binderOfRecord, a_gradeOfRecord, a_countOfRecord) (nI t) := by
  have hA := A
  obtain ⟨ok, so, kr, sc, ag2, ag3, -⟩ := A
  have hn := ok.2.1
  have t32 : t < 32 := by omega
  have v := vp_in_nI t32 (by decide)
  have et : (nI t).toNatClampNeg = t := nI_clamp (by omega)
  have sl := gp_sn_lt ok ht
  have ar0 : 0 < gp_ar (kd t) := by rw [hk]; decide
  have m0 := gp_tm_ch ok so ht (by omega) ar0 (by omega)
  obtain ⟨c1, c2, c3, c4⟩ := gx_chf ok S ht ar0
  obtain ⟨_, ⟨x, x1, x2, x3⟩, _⟩ := I.2 _ (hc 0 ar0)
  have u0 := gx_cu hA I ht ar0 (hc 0 ar0) m0
  have e0 : gt_e2 kd a_nodeArg n t = 0 := gt_e2_z (by omega)
  have q := gt_q16 (ag := a_nodeArg) ok ht hk
  obtain ⟨g, g2, eg⟩ := ag2 t ht (by omega)
  unfold wpX_completeValue
  try dsimp only
  refine gx_tc (j := 0) t32 c4 c3 c1 ?_
  rw [x2, et, S.1 t ht, hk]
  refine ⟨v, br_t (by decide) ?_⟩
  unfold wX_completeValue_28
  rw [et, S.1 t ht, hk]
  refine ⟨v, nm_e (br_f (by decide) (br_t (by decide) ?_))⟩
  unfold wX_completeValue_142
  rw [et, eg]
  refine ⟨v, gx_tn (τr := fun _ => none) htc I.1 (fun _ => ⟨x, x1, rfl, x3⟩) (fun _ z => absurd rfl z) (fun z => absurd z (by decide)) (fun _ => rfl) (fun x' tc' tk tg tl tr hx b1 b2 b3 b4 b5 => ?_)⟩
  try dsimp only
  try rw [et]
  try rw [eg]
  refine ⟨v, nm_e ⟨v, gx_au (s := gp_sn kd t) (ja := 0) (jb := 0) (gb := 0) t32 (by omega) (S.2.1 t ht) (by omega) (by omega) c3 c3 c1 c1 c2 c2 g2 (by omega) (fun w hw => u0 w (by omega)) (fun w hw => u0 w (by omega)) ?_⟩⟩
  try dsimp only
  refine hOK e0 tc' _ _ _ _ _ _ _ (gx_TI_add ok I ht hnP b1 b3 b4 hx ?_ ?_ ?_ (fun _ _ => rfl) (fun z => by omega)) b1 b2 b4
  · rw [b5, show gt_t kd a_nodeArg n t = (gt_f kd a_nodeArg n t).1 from rfl, q, eg]
  · intro j hj
    rw [gx_row_off (by omega) hj]
  · intro _ w hw
    rw [show gt_u kd a_nodeArg n t w = (gt_f kd a_nodeArg n t).2.1 w from rfl, q, gx_row_in hw, gt_mul_0, gt_add_0 (gt_mul_le _ _), eg, nI_clamp (by omega)]
theorem gx_complete {post : St2 → Prop} {kd : Nat → Nat} {n t tc : Nat} {P : Nat → Prop} (A : gt_P kd a_nodeArg n) (S : gx_S kd n a_nodeKind a_variablesSeen a_nodeAtPlace) (I : gx_TI kd a_nodeArg n P tc a_nodeType a_gradeOfBinder a_usage (a_typeKind, a_typeGrade, a_typeLeft, a_typeRight)) (ht : t < n) (hc : ∀ j, j < gp_ar (kd t) → P (gp_ch kd n t j)) (hnP : ¬ P t) (htc : tc < 32) (hVI : ∀ v, v < gp_sn kd t → ∃ x, x < tc ∧ a_variableType v = nI x ∧ gd_D (a_typeKind, a_typeGrade, a_typeLeft, a_typeRight) x = gt_G kd a_nodeArg n t v) (hOK : gt_e2 kd a_nodeArg n t = 0 → ∀ tc' nt gb us tk tg tl tr, gx_TI kd a_nodeArg n (fun d => P d ∨ d = t) tc' nt gb us (tk, tg, tl, tr) → tc ≤ tc' → tc' ≤ tc + 1 → gd_ext (a_typeKind, a_typeGrade, a_typeLeft, a_typeRight) (tk, tg, tl, tr) tc → post (f_derefLimit, f_recordLimit, f_frameLimit, f_nodeCount, f_currentStatus, f_faultNode, nI tc', f_currentNode, f_currentEnv, f_returning, f_returnedNumber, f_frameCount, f_lastOutcome, f_lastValue, f_derefsMade, f_recordsMade, a_nodeKind, a_nodeArg, a_expectedPlaces, a_nodeAtPlace, a_placeOfNode, a_variablesSeen, nt, gb, a_variableType, us, tk, tg, tl, tr, a_frameMark, a_frameWord, a_frameEnv, a_thunkNode, a_thunkEnv, a_restOfEnv, a_binderOfRecord, a_gradeOfRecord, a_countOfRecord)) (hF : gt_e2 kd a_nodeArg n t ≠ 0 → ∀ tc' nt gb us tk tg tl tr, post (f_derefLimit, f_recordLimit, f_frameLimit, f_nodeCount, nI (gt_e2 kd a_nodeArg n t), nI t, tc', f_currentNode, f_currentEnv, f_returning, f_returnedNumber, f_frameCount, f_lastOutcome, f_lastValue, f_derefsMade, f_recordsMade, a_nodeKind, a_nodeArg, a_expectedPlaces, a_nodeAtPlace, a_placeOfNode, a_variablesSeen, nt, gb, a_variableType, us, tk, tg, tl, tr, a_frameMark, a_frameWord, a_frameEnv, a_thunkNode, a_thunkEnv, a_restOfEnv, a_binderOfRecord, a_gradeOfRecord, a_countOfRecord)) : wpX_complete post (f_derefLimit, f_recordLimit, f_frameLimit, f_nodeCount, f_currentStatus, f_faultNode, nI tc, f_currentNode, f_currentEnv, f_returning, f_returnedNumber, f_frameCount, f_lastOutcome, f_lastValue, f_derefsMade, f_recordsMade, a_nodeKind, a_nodeArg, a_expectedPlaces, a_nodeAtPlace, a_placeOfNode, a_variablesSeen, a_nodeType, a_gradeOfBinder, a_variableType, a_usage, a_typeKind, a_typeGrade, a_typeLeft, a_typeRight, a_frameMark, a_frameWord, a_frameEnv, a_thunkNode, a_thunkEnv, a_restOfEnv, a_binderOfRecord, a_gradeOfRecord, a_countOfRecord) (nI t) := by
  have hA := A
  obtain ⟨ok, so, kr, -⟩ := A
  have hn := ok.2.1
  have t32 : t < 32 := by omega
  have v := vp_in_nI t32 (by decide)
  have et : (nI t).toNatClampNeg = t := nI_clamp (by omega)
  have k1 := (kr t ht).1
  have k17 := (kr t ht).2
  unfold wpX_complete
  try dsimp only
  rw [et, S.1 t ht]
  refine ⟨v, nm_e ?_⟩
  by_cases h5 : kd t ≤ 5
  · refine pk_lt (kd t) 6 (fun _ => ?_) (fun z => by omega)
    exact gx_cType hA S I ht hc hnP htc h5 (hOK (gt_e2_z (by omega)))
  have hcase : kd t = 6 ∨ kd t = 7 ∨ kd t = 8 ∨ kd t = 9 ∨ kd t = 10 ∨ kd t = 11 ∨ kd t = 12 ∨ kd t = 13 ∨ kd t = 14 ∨ kd t = 15 ∨ kd t = 16 ∨ kd t = 17 := by omega
  rcases hcase with e | e | e | e | e | e | e | e | e | e | e | e
  · rw [e]
    repeat (refine br_f (by decide) ?_)
    exact br_t (by decide) (gx_cVar hA S I ht hc hnP htc e hVI hOK)
  · have sl := gp_sn_lt ok ht
    rw [e]
    repeat (refine br_f (by decide) ?_)
    refine br_t (by decide) ?_
    refine gx_tn (τl := fun _ => none) (τr := fun _ => none) htc I.1 (fun z => absurd rfl z) (fun z => absurd rfl z) (fun _ => ⟨rfl, rfl⟩) (fun _ => rfl) (fun x tc' tk tg tl tr hx a1 a2 a3 a4 a5 => ?_)
    try dsimp only
    try rw [et]
    refine ⟨v, nm_e (gx_clr (s := gp_sn kd t) t32 (by omega) (S.2.1 t ht) ?_)⟩
    try dsimp only
    refine hOK (gt_e2_z (by omega)) tc' _ _ _ _ _ _ _ (gx_TI_add ok I ht hnP a1 a3 a4 hx ?_ ?_ ?_ (fun _ _ => rfl) (fun z => by omega)) a1 a2 a4
    · rw [a5, show gt_t kd a_nodeArg n t = (gt_f kd a_nodeArg n t).1 from rfl, gt_q7 ok ht e]
    · intro j hj
      rw [gx_row_off (by omega) hj]
    · intro _ w hw
      rw [show gt_u kd a_nodeArg n t w = (gt_f kd a_nodeArg n t).2.1 w from rfl, gt_q7 ok ht e, gx_row_in hw]
      rfl
  · rw [e]
    repeat (refine br_f (by decide) ?_)
    exact br_t (by decide) (gx_cAdd hA S I ht hc hnP htc e hOK hF)
  · rw [e]
    repeat (refine br_f (by decide) ?_)
    exact br_t (by decide) (gx_cLam hA S I ht hc hnP htc e hOK hF)
  · rw [e]
    repeat (refine br_f (by decide) ?_)
    exact br_t (by decide) (gx_cApp hA S I ht hc hnP htc e hOK hF)
  · rw [e]
    repeat (refine br_f (by decide) ?_)
    exact br_t (by decide) (gx_cVal2 hA S I ht hc hnP htc (Or.inl e) hOK)
  · rw [e]
    repeat (refine br_f (by decide) ?_)
    exact br_t (by decide) (gx_cPair hA S I ht hc hnP htc e hOK hF)
  · rw [e]
    repeat (refine br_f (by decide) ?_)
    exact br_t (by decide) (gx_cVal2 hA S I ht hc hnP htc (Or.inr (Or.inl e)) hOK)
  · rw [e]
    repeat (refine br_f (by decide) ?_)
    exact br_t (by decide) (gx_cVal2 hA S I ht hc hnP htc (Or.inr (Or.inr e)) hOK)
  · rw [e]
    repeat (refine br_f (by decide) ?_)
    exact br_t (by decide) (gx_cCase hA S I ht hc hnP htc e hOK hF)
  · rw [e]
    repeat (refine br_f (by decide) ?_)
    exact br_t (by decide) (gx_cVal1 hA S I ht hc hnP htc e hOK)
  · rw [e]
    repeat (refine br_f (by decide) ?_)
    exact br_t (by decide) (gx_cBox hA S I ht hc hnP htc e hOK hF)
end

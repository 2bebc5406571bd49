/-! the component's machine, a step at a time -/
section
variable {f_derefLimit f_recordLimit f_frameLimit f_nodeCount f_currentStatus f_faultNode f_typeCount f_currentNode f_currentEnv f_returning f_returnedNumber f_frameCount f_lastOutcome f_lastValue f_derefsMade f_recordsMade : Int32} {a_nodeKind a_nodeArg a_expectedPlaces a_nodeAtPlace a_placeOfNode a_variablesSeen a_nodeType a_gradeOfBinder a_variableType a_usage a_typeKind a_typeGrade a_typeLeft a_typeRight a_frameMark a_frameWord a_frameEnv a_thunkNode a_thunkEnv a_restOfEnv a_binderOfRecord a_gradeOfRecord a_countOfRecord : Nat → Int32}
theorem gx_mr {post : Int32 → St2 → Prop} {rc rl b : Nat} {x1 x2 x3 : Int32} (hb : b < 32) (hrc : rc ≤ rl) (hrl : rl ≤ 32) (h0 : rc = rl → post 0 (f_derefLimit, nI rl, f_frameLimit, f_nodeCount, f_currentStatus, f_faultNode, f_typeCount, f_currentNode, f_currentEnv, f_returning, f_returnedNumber, f_frameCount, 8, f_lastValue, f_derefsMade, nI rc, a_nodeKind, a_nodeArg, a_expectedPlaces, a_nodeAtPlace, a_placeOfNode, a_variablesSeen, a_nodeType, a_gradeOfBinder, a_variableType, a_usage, a_typeKind, a_typeGrade, a_typeLeft, a_typeRight, a_frameMark, a_frameWord, a_frameEnv, a_thunkNode, a_thunkEnv, a_restOfEnv, a_binderOfRecord, a_gradeOfRecord, a_countOfRecord))
    (h1 : rc < rl → post 1 (f_derefLimit, nI rl, f_frameLimit, f_nodeCount, f_currentStatus, f_faultNode, f_typeCount, f_currentNode, f_currentEnv, f_returning, f_returnedNumber, f_frameCount, f_lastOutcome, f_lastValue, f_derefsMade, nI (rc + 1), a_nodeKind, a_nodeArg, a_expectedPlaces, a_nodeAtPlace, a_placeOfNode, a_variablesSeen, a_nodeType, a_gradeOfBinder, a_variableType, a_usage, a_typeKind, a_typeGrade, a_typeLeft, a_typeRight, a_frameMark, a_frameWord, a_frameEnv, upd a_thunkNode (rc + 1) x1, upd a_thunkEnv (rc + 1) x2, upd a_restOfEnv (rc + 1) x3, upd a_binderOfRecord (rc + 1) (nI b), upd a_gradeOfRecord (rc + 1) (a_gradeOfBinder b), upd a_countOfRecord (rc + 1) 0)) :
    wpX_makeRecord post (f_derefLimit, nI rl, f_frameLimit, f_nodeCount, f_currentStatus, f_faultNode, f_typeCount, f_currentNode, f_currentEnv, f_returning, f_returnedNumber, f_frameCount, f_lastOutcome, f_lastValue, f_derefsMade, nI rc, a_nodeKind, a_nodeArg, a_expectedPlaces, a_nodeAtPlace, a_placeOfNode, a_variablesSeen, a_nodeType, a_gradeOfBinder, a_variableType, a_usage, a_typeKind, a_typeGrade, a_typeLeft, a_typeRight, a_frameMark, a_frameWord, a_frameEnv, a_thunkNode, a_thunkEnv, a_restOfEnv, a_binderOfRecord, a_gradeOfRecord, a_countOfRecord) (nI b) x1 x2 x3 := by
  unfold wpX_makeRecord
  dsimp only
  refine pk_eq rc rl h0 (fun z => nm_r (nI_1 rc) ?_)
  rw [nI_clamp (show rc + 1 < 2 ^ 31 by omega), nI_clamp (show b < 2 ^ 31 by omega)]
  have v := vp_in_nI (show rc + 1 < 33 by omega) (by decide)
  exact ⟨v, nm_e ⟨v, nm_e ⟨v, nm_e ⟨v, nm_e ⟨vp_in_nI hb (by decide), v, nm_e ⟨v, nm_e (h1 (by omega))⟩⟩⟩⟩⟩⟩
theorem gx_evV {post : St2 → Prop} {kd : Nat → Nat} {t : Nat} (ht : t < 32) (hK : a_nodeKind t = nI (kd t)) (hv : gm_vl (kd t))
    (h : ∀ rn, (kd t = 7 → rn = a_nodeArg t) → (kd t ≠ 7 → rn = f_returnedNumber) → post (f_derefLimit, f_recordLimit, f_frameLimit, f_nodeCount, f_currentStatus, f_faultNode, f_typeCount, nI t, f_currentEnv, 1, rn, f_frameCount, f_lastOutcome, f_lastValue, f_derefsMade, f_recordsMade, a_nodeKind, a_nodeArg, a_expectedPlaces, a_nodeAtPlace, a_placeOfNode, a_variablesSeen, a_nodeType, a_gradeOfBinder, a_variableType, a_usage, a_typeKind, a_typeGrade, a_typeLeft, a_typeRight, a_frameMark, a_frameWord, a_frameEnv, a_thunkNode, a_thunkEnv, a_restOfEnv, a_binderOfRecord, a_gradeOfRecord, a_countOfRecord)) : wpX_evaluate post (f_derefLimit, f_recordLimit, f_frameLimit, f_nodeCount, f_currentStatus, f_faultNode, f_typeCount, nI t, f_currentEnv, f_returning, f_returnedNumber, f_frameCount, f_lastOutcome, f_lastValue, f_derefsMade, f_recordsMade, a_nodeKind, a_nodeArg, a_expectedPlaces, a_nodeAtPlace, a_placeOfNode, a_variablesSeen, a_nodeType, a_gradeOfBinder, a_variableType, a_usage, a_typeKind, a_typeGrade, a_typeLeft, a_typeRight, a_frameMark, a_frameWord, a_frameEnv, a_thunkNode, a_thunkEnv, a_restOfEnv, a_binderOfRecord, a_gradeOfRecord, a_countOfRecord) := by
  unfold wpX_evaluate
  dsimp only
  rw [nI_clamp (show t < 2 ^ 31 by omega), hK]
  refine ⟨vp_in_nI ht (by decide), nm_e ?_⟩
  rcases hv with e | e | e | e | e | e
  · have := h _ (fun _ => rfl) (fun z => absurd e z)
    rw [e]
    repeat (refine br_f (by decide) ?_)
    exact br_t (by decide) ⟨vp_in_nI ht (by decide), nm_e this⟩
  all_goals (
    have := h _ (fun z => by omega) (fun _ => rfl)
    rw [e]
    repeat (refine br_f (by decide) ?_)
    exact br_t (by decide) this)
theorem gx_der {post : St2 → Prop} {rs tn te : Nat → Nat} {rc i t e dr : Nat} (ht : t < 32) (hi : a_nodeArg t = nI i) (hi2 : i < 32) (hrc : rc ≤ 32) (hE : ∀ j, j ≤ i → 1 ≤ gm_nth rs e j ∧ gm_nth rs e j ≤ rc) (hR : ∀ r, 1 ≤ r → r ≤ rc → a_restOfEnv r = nI (rs r) ∧ a_thunkNode r = nI (tn r) ∧ a_thunkEnv r = nI (te r))
    (h : post (f_derefLimit, f_recordLimit, f_frameLimit, f_nodeCount, f_currentStatus, f_faultNode, f_typeCount, nI (tn (gm_nth rs e i)), nI (te (gm_nth rs e i)), 0, f_returnedNumber, f_frameCount, f_lastOutcome, f_lastValue, nI (dr + 1), f_recordsMade, a_nodeKind, a_nodeArg, a_expectedPlaces, a_nodeAtPlace, a_placeOfNode, a_variablesSeen, a_nodeType, a_gradeOfBinder, a_variableType, a_usage, a_typeKind, a_typeGrade, a_typeLeft, a_typeRight, a_frameMark, a_frameWord, a_frameEnv, a_thunkNode, a_thunkEnv, a_restOfEnv, a_binderOfRecord, a_gradeOfRecord, upd a_countOfRecord (gm_nth rs e i) (a_countOfRecord (gm_nth rs e i) + 1))) :
    ∀ d j fuel, j + d = i → d < fuel → wX_dereference_25 post f_derefLimit f_recordLimit f_frameLimit f_nodeCount f_currentStatus f_faultNode f_typeCount (nI t) f_currentEnv f_returning f_returnedNumber f_frameCount f_lastOutcome f_lastValue (nI dr) f_recordsMade a_nodeKind a_nodeArg a_expectedPlaces a_nodeAtPlace a_placeOfNode a_variablesSeen a_nodeType a_gradeOfBinder a_variableType a_usage a_typeKind a_typeGrade a_typeLeft a_typeRight a_frameMark a_frameWord a_frameEnv a_thunkNode a_thunkEnv a_restOfEnv a_binderOfRecord a_gradeOfRecord a_countOfRecord fuel (nI (gm_nth rs e j)) (nI j)
  | _, _, 0, _, hf => by omega
  | 0, j, fuel + 1, hj, hf => by
    have ej : j = i := by omega
    subst ej
    obtain ⟨a, b⟩ := hE j (Nat.le_refl _)
    obtain ⟨r1, r2, r3⟩ := hR _ a b
    have v := vp_in_nI (show gm_nth rs e j < 33 by omega) (by decide)
    refine ⟨vp_in_nI ht (by decide), ?_⟩
    rw [nI_clamp (show t < 2 ^ 31 by omega), hi, nI_clamp (show gm_nth rs e j < 2 ^ 31 by omega), r2, r3]
    exact br_t (nI_le (Nat.le_refl _) (by omega)) ⟨v, v, nm_e (nm_r (nI_1 dr) ⟨v, v, h⟩)⟩
  | d + 1, j, fuel + 1, hj, hf => by
    obtain ⟨a, b⟩ := hE j (by omega)
    obtain ⟨r1, r2, r3⟩ := hR _ a b
    have v := vp_in_nI (show gm_nth rs e j < 33 by omega) (by decide)
    refine ⟨vp_in_nI ht (by decide), ?_⟩
    rw [nI_clamp (show t < 2 ^ 31 by omega), hi, nI_clamp (show gm_nth rs e j < 2 ^ 31 by omega), r1]
    exact br_f (nI_ge (by omega) (by omega)) ⟨v, nm_e (nm_r (nI_1 j) (gx_der ht hi hi2 hrc hE hR h d (j + 1) fuel (by omega) (by omega)))⟩
theorem gx_evD {post : St2 → Prop} {rs tn te : Nat → Nat} {rc i t e dr dl : Nat} (ht : t < 32) (hK : a_nodeKind t = nI 6) (hi : a_nodeArg t = nI i) (hi2 : i < 32) (hrc : rc ≤ 32) (hdr : dr ≤ dl) (hdl : dl ≤ 64) (hE : ∀ j, j ≤ i → 1 ≤ gm_nth rs e j ∧ gm_nth rs e j ≤ rc)
    (hR : ∀ r, 1 ≤ r → r ≤ rc → a_restOfEnv r = nI (rs r) ∧ a_thunkNode r = nI (tn r) ∧ a_thunkEnv r = nI (te r))
    (h0 : dr = dl → post (nI dl, f_recordLimit, f_frameLimit, f_nodeCount, f_currentStatus, f_faultNode, f_typeCount, nI t, nI e, f_returning, f_returnedNumber, f_frameCount, 7, f_lastValue, nI dr, f_recordsMade, a_nodeKind, a_nodeArg, a_expectedPlaces, a_nodeAtPlace, a_placeOfNode, a_variablesSeen, a_nodeType, a_gradeOfBinder, a_variableType, a_usage, a_typeKind, a_typeGrade, a_typeLeft, a_typeRight, a_frameMark, a_frameWord, a_frameEnv, a_thunkNode, a_thunkEnv, a_restOfEnv, a_binderOfRecord, a_gradeOfRecord, a_countOfRecord))
    (h : dr < dl → post (nI dl, f_recordLimit, f_frameLimit, f_nodeCount, f_currentStatus, f_faultNode, f_typeCount, nI (tn (gm_nth rs e i)), nI (te (gm_nth rs e i)), 0, f_returnedNumber, f_frameCount, f_lastOutcome, f_lastValue, nI (dr + 1), f_recordsMade, a_nodeKind, a_nodeArg, a_expectedPlaces, a_nodeAtPlace, a_placeOfNode, a_variablesSeen, a_nodeType, a_gradeOfBinder, a_variableType, a_usage, a_typeKind, a_typeGrade, a_typeLeft, a_typeRight, a_frameMark, a_frameWord, a_frameEnv, a_thunkNode, a_thunkEnv, a_restOfEnv, a_binderOfRecord, a_gradeOfRecord, upd a_countOfRecord (gm_nth rs e i) (a_countOfRecord (gm_nth rs e i) + 1))) :
    wpX_evaluate post (nI dl, f_recordLimit, f_frameLimit, f_nodeCount, f_currentStatus, f_faultNode, f_typeCount, nI t, nI e, f_returning, f_returnedNumber, f_frameCount, f_lastOutcome, f_lastValue, nI dr, f_recordsMade, a_nodeKind, a_nodeArg, a_expectedPlaces, a_nodeAtPlace, a_placeOfNode, a_variablesSeen, a_nodeType, a_gradeOfBinder, a_variableType, a_usage, a_typeKind, a_typeGrade, a_typeLeft, a_typeRight, a_frameMark, a_frameWord, a_frameEnv, a_thunkNode, a_thunkEnv, a_restOfEnv, a_binderOfRecord, a_gradeOfRecord, a_countOfRecord) := by
  unfold wpX_evaluate
  dsimp only
  rw [nI_clamp (show t < 2 ^ 31 by omega), hK]
  refine ⟨vp_in_nI ht (by decide), nm_e (br_f (by decide) (br_f (by decide) (br_t (by decide) ?_)))⟩
  unfold wpX_dereference
  dsimp only
  refine pk_eq dr dl h0 (fun z => ⟨i + 1, ?_⟩)
  exact gx_der ht hi hi2 hrc hE hR (h (by omega)) i 0 (i + 1) (by omega) (by omega)
theorem gx_fpush {post : St2 → Prop} {q : Nat} {m w e : Int32} (hq : q < 64) (h : post (f_derefLimit, f_recordLimit, f_frameLimit, f_nodeCount, f_currentStatus, f_faultNode, f_typeCount, f_currentNode, f_currentEnv, f_returning, f_returnedNumber, nI (q + 1), f_lastOutcome, f_lastValue, f_derefsMade, f_recordsMade, a_nodeKind, a_nodeArg, a_expectedPlaces, a_nodeAtPlace, a_placeOfNode, a_variablesSeen, a_nodeType, a_gradeOfBinder, a_variableType, a_usage, a_typeKind, a_typeGrade, a_typeLeft, a_typeRight, upd a_frameMark q m, upd a_frameWord q w, upd a_frameEnv q e, a_thunkNode, a_thunkEnv, a_restOfEnv, a_binderOfRecord, a_gradeOfRecord, a_countOfRecord)) : wpX_push post (f_derefLimit, f_recordLimit, f_frameLimit, f_nodeCount, f_currentStatus, f_faultNode, f_typeCount, f_currentNode, f_currentEnv, f_returning, f_returnedNumber, nI q, f_lastOutcome, f_lastValue, f_derefsMade, f_recordsMade, a_nodeKind, a_nodeArg, a_expectedPlaces, a_nodeAtPlace, a_placeOfNode, a_variablesSeen, a_nodeType, a_gradeOfBinder, a_variableType, a_usage, a_typeKind, a_typeGrade, a_typeLeft, a_typeRight, a_frameMark, a_frameWord, a_frameEnv, a_thunkNode, a_thunkEnv, a_restOfEnv, a_binderOfRecord, a_gradeOfRecord, a_countOfRecord) m w e := by
  unfold wpX_push
  dsimp only
  rw [nI_clamp (show q < 2 ^ 31 by omega)]
  have v := vp_in_nI hq (by decide)
  exact ⟨v, nm_e ⟨v, nm_e ⟨v, nm_e (nm_r (nI_1 q) h)⟩⟩⟩
theorem gx_evG {post : St2 → Prop} {kd : Nat → Nat} {t c q fl : Nat} (ht : t < 32) (hK : a_nodeKind t = nI (kd t)) (hg : gm_go (kd t)) (hc : a_nodeAtPlace (3 * t + 0) = nI c) (hq : q ≤ fl) (hfl : fl ≤ 64)
    (h0 : q = fl → post (f_derefLimit, f_recordLimit, nI fl, f_nodeCount, f_currentStatus, f_faultNode, f_typeCount, nI t, f_currentEnv, f_returning, f_returnedNumber, nI q, 9, f_lastValue, f_derefsMade, f_recordsMade, a_nodeKind, a_nodeArg, a_expectedPlaces, a_nodeAtPlace, a_placeOfNode, a_variablesSeen, a_nodeType, a_gradeOfBinder, a_variableType, a_usage, a_typeKind, a_typeGrade, a_typeLeft, a_typeRight, a_frameMark, a_frameWord, a_frameEnv, a_thunkNode, a_thunkEnv, a_restOfEnv, a_binderOfRecord, a_gradeOfRecord, a_countOfRecord))
    (h : q < fl → post (f_derefLimit, f_recordLimit, nI fl, f_nodeCount, f_currentStatus, f_faultNode, f_typeCount, nI c, f_currentEnv, f_returning, f_returnedNumber, nI (q + 1), f_lastOutcome, f_lastValue, f_derefsMade, f_recordsMade, a_nodeKind, a_nodeArg, a_expectedPlaces, a_nodeAtPlace, a_placeOfNode, a_variablesSeen, a_nodeType, a_gradeOfBinder, a_variableType, a_usage, a_typeKind, a_typeGrade, a_typeLeft, a_typeRight, upd a_frameMark q (nI (kd t)), upd a_frameWord q (nI t), upd a_frameEnv q f_currentEnv, a_thunkNode, a_thunkEnv, a_restOfEnv, a_binderOfRecord, a_gradeOfRecord, a_countOfRecord)) :
    wpX_evaluate post (f_derefLimit, f_recordLimit, nI fl, f_nodeCount, f_currentStatus, f_faultNode, f_typeCount, nI t, f_currentEnv, f_returning, f_returnedNumber, nI q, f_lastOutcome, f_lastValue, f_derefsMade, f_recordsMade, a_nodeKind, a_nodeArg, a_expectedPlaces, a_nodeAtPlace, a_placeOfNode, a_variablesSeen, a_nodeType, a_gradeOfBinder, a_variableType, a_usage, a_typeKind, a_typeGrade, a_typeLeft, a_typeRight, a_frameMark, a_frameWord, a_frameEnv, a_thunkNode, a_thunkEnv, a_restOfEnv, a_binderOfRecord, a_gradeOfRecord, a_countOfRecord) := by
  have go : wX_evaluate_79 post f_derefLimit f_recordLimit (nI fl) f_nodeCount f_currentStatus f_faultNode f_typeCount (nI t) f_currentEnv f_returning f_returnedNumber (nI q) f_lastOutcome f_lastValue f_derefsMade f_recordsMade a_nodeKind a_nodeArg a_expectedPlaces a_nodeAtPlace a_placeOfNode a_variablesSeen a_nodeType a_gradeOfBinder a_variableType a_usage a_typeKind a_typeGrade a_typeLeft a_typeRight a_frameMark a_frameWord a_frameEnv a_thunkNode a_thunkEnv a_restOfEnv a_binderOfRecord a_gradeOfRecord a_countOfRecord := by
    unfold wX_evaluate_79 wpX_suspend
    dsimp only
    refine pk_eq q fl h0 (fun z => ⟨vp_in_nI ht (by decide), ?_⟩)
    rw [nI_clamp (show t < 2 ^ 31 by omega), hK]
    refine gx_fpush (by omega) ?_
    try dsimp only
    exact gx_co (j := 0) ht (by omega) hc (h (by omega))
  unfold wpX_evaluate
  dsimp only
  rw [nI_clamp (show t < 2 ^ 31 by omega), hK]
  refine ⟨vp_in_nI ht (by decide), nm_e ?_⟩
  rcases hg with e | e | e | e | e
  all_goals (
    rw [e]
    repeat (refine br_f (by decide) ?_)
    exact br_t (by decide) go)
def gr_out (k : Nat) : Nat := if k = 9 then 2 else if k = 11 then 3 else if k = 13 then 4 else if k = 14 then 5 else if k = 16 then 6 else 1
theorem gx_halt {post : St2 → Prop} {kd : Nat → Nat} {t : Nat} (ht : t < 32) (hK : a_nodeKind t = nI (kd t)) (hv : gm_vl (kd t))
    (h : ∀ lv, (kd t = 7 → lv = f_returnedNumber) → (kd t ≠ 7 → lv = f_lastValue) → post (f_derefLimit, f_recordLimit, f_frameLimit, f_nodeCount, f_currentStatus, f_faultNode, f_typeCount, nI t, f_currentEnv, f_returning, f_returnedNumber, 0, nI (gr_out (kd t)), lv, f_derefsMade, f_recordsMade, a_nodeKind, a_nodeArg, a_expectedPlaces, a_nodeAtPlace, a_placeOfNode, a_variablesSeen, a_nodeType, a_gradeOfBinder, a_variableType, a_usage, a_typeKind, a_typeGrade, a_typeLeft, a_typeRight, a_frameMark, a_frameWord, a_frameEnv, a_thunkNode, a_thunkEnv, a_restOfEnv, a_binderOfRecord, a_gradeOfRecord, a_countOfRecord)) : wpX_returnValue post (f_derefLimit, f_recordLimit, f_frameLimit, f_nodeCount, f_currentStatus, f_faultNode, f_typeCount, nI t, f_currentEnv, f_returning, f_returnedNumber, 0, f_lastOutcome, f_lastValue, f_derefsMade, f_recordsMade, a_nodeKind, a_nodeArg, a_expectedPlaces, a_nodeAtPlace, a_placeOfNode, a_variablesSeen, a_nodeType, a_gradeOfBinder, a_variableType, a_usage, a_typeKind, a_typeGrade, a_typeLeft, a_typeRight, a_frameMark, a_frameWord, a_frameEnv, a_thunkNode, a_thunkEnv, a_restOfEnv, a_binderOfRecord, a_gradeOfRecord, a_countOfRecord) := by
  unfold wpX_returnValue
  dsimp only
  refine br_t rfl ?_
  unfold wpX_halt
  dsimp only
  rw [nI_clamp (show t < 2 ^ 31 by omega), hK]
  refine ⟨vp_in_nI ht (by decide), nm_e ?_⟩
  rcases hv with e | e | e | e | e | e
  · have := h _ (fun _ => rfl) (fun z => absurd e z)
    rw [e] at this ⊢
    exact br_t (by decide) this
  all_goals (
    have := h _ (fun z => by omega) (fun _ => rfl)
    rw [e] at this ⊢
    repeat (refine br_f (by decide) ?_)
    exact br_t (by decide) this)
theorem gx_retA {post : St2 → Prop} {q : Nat} {w : Int32} (hq : q < 64) (hm : a_frameMark q = nI 0) (hw : a_frameWord q = w) (h : post (f_derefLimit, f_recordLimit, f_frameLimit, f_nodeCount, f_currentStatus, f_faultNode, f_typeCount, f_currentNode, f_currentEnv, f_returning, w + f_returnedNumber, nI q, f_lastOutcome, f_lastValue, f_derefsMade, f_recordsMade, a_nodeKind, a_nodeArg, a_expectedPlaces, a_nodeAtPlace, a_placeOfNode, a_variablesSeen, a_nodeType, a_gradeOfBinder, a_variableType, a_usage, a_typeKind, a_typeGrade, a_typeLeft, a_typeRight, a_frameMark, a_frameWord, a_frameEnv, a_thunkNode, a_thunkEnv, a_restOfEnv, a_binderOfRecord, a_gradeOfRecord, a_countOfRecord)) : wpX_returnValue post (f_derefLimit, f_recordLimit, f_frameLimit, f_nodeCount, f_currentStatus, f_faultNode, f_typeCount, f_currentNode, f_currentEnv, f_returning, f_returnedNumber, nI (q + 1), f_lastOutcome, f_lastValue, f_derefsMade, f_recordsMade, a_nodeKind, a_nodeArg, a_expectedPlaces, a_nodeAtPlace, a_placeOfNode, a_variablesSeen, a_nodeType, a_gradeOfBinder, a_variableType, a_usage, a_typeKind, a_typeGrade, a_typeLeft, a_typeRight, a_frameMark, a_frameWord, a_frameEnv, a_thunkNode, a_thunkEnv, a_restOfEnv, a_binderOfRecord, a_gradeOfRecord, a_countOfRecord) := by
  unfold wpX_returnValue
  dsimp only
  have v := vp_in_nI hq (by decide)
  refine br_f (nI_ne0 (by omega) (by omega)) (nm_r (nI_pred q) ⟨v, ?_⟩)
  rw [nI_clamp (show q < 2 ^ 31 by omega), hm, hw]
  exact nm_e ⟨v, nm_e ⟨v, nm_e (br_t (by decide) (nm_e h))⟩⟩
/-- a frame that waits with a node -/
theorem gx_retN {post : St2 → Prop} {q m d : Nat} {e : Int32} (hq : q < 64) (hm : a_frameMark q = nI m) (hw : a_frameWord q = nI d) (he : a_frameEnv q = e) (hg : gm_go m)
    (h8 : m = 8 → wpX_enterRightTerm post (f_derefLimit, f_recordLimit, f_frameLimit, f_nodeCount, f_currentStatus, f_faultNode, f_typeCount, f_currentNode, f_currentEnv, f_returning, f_returnedNumber, nI q, f_lastOutcome, f_lastValue, f_derefsMade, f_recordsMade, a_nodeKind, a_nodeArg, a_expectedPlaces, a_nodeAtPlace, a_placeOfNode, a_variablesSeen, a_nodeType, a_gradeOfBinder, a_variableType, a_usage, a_typeKind, a_typeGrade, a_typeLeft, a_typeRight, a_frameMark, a_frameWord, a_frameEnv, a_thunkNode, a_thunkEnv, a_restOfEnv, a_binderOfRecord, a_gradeOfRecord, a_countOfRecord) (nI d) e) (h10 : m = 10 → wpX_enterFunction post (f_derefLimit, f_recordLimit, f_frameLimit, f_nodeCount, f_currentStatus, f_faultNode, f_typeCount, f_currentNode, f_currentEnv, f_returning, f_returnedNumber, nI q, f_lastOutcome, f_lastValue, f_derefsMade, f_recordsMade, a_nodeKind, a_nodeArg, a_expectedPlaces, a_nodeAtPlace, a_placeOfNode, a_variablesSeen, a_nodeType, a_gradeOfBinder, a_variableType, a_usage, a_typeKind, a_typeGrade, a_typeLeft, a_typeRight, a_frameMark, a_frameWord, a_frameEnv, a_thunkNode, a_thunkEnv, a_restOfEnv, a_binderOfRecord, a_gradeOfRecord, a_countOfRecord) (nI d) e) (h12 : m = 12 → wpX_enterLetPair post (f_derefLimit, f_recordLimit, f_frameLimit, f_nodeCount, f_currentStatus, f_faultNode, f_typeCount, f_currentNode, f_currentEnv, f_returning, f_returnedNumber, nI q, f_lastOutcome, f_lastValue, f_derefsMade, f_recordsMade, a_nodeKind, a_nodeArg, a_expectedPlaces, a_nodeAtPlace, a_placeOfNode, a_variablesSeen, a_nodeType, a_gradeOfBinder, a_variableType, a_usage, a_typeKind, a_typeGrade, a_typeLeft, a_typeRight, a_frameMark, a_frameWord, a_frameEnv, a_thunkNode, a_thunkEnv, a_restOfEnv, a_binderOfRecord, a_gradeOfRecord, a_countOfRecord) (nI d) e)
    (h15 : m = 15 → wpX_enterBranch post (f_derefLimit, f_recordLimit, f_frameLimit, f_nodeCount, f_currentStatus, f_faultNode, f_typeCount, f_currentNode, f_currentEnv, f_returning, f_returnedNumber, nI q, f_lastOutcome, f_lastValue, f_derefsMade, f_recordsMade, a_nodeKind, a_nodeArg, a_expectedPlaces, a_nodeAtPlace, a_placeOfNode, a_variablesSeen, a_nodeType, a_gradeOfBinder, a_variableType, a_usage, a_typeKind, a_typeGrade, a_typeLeft, a_typeRight, a_frameMark, a_frameWord, a_frameEnv, a_thunkNode, a_thunkEnv, a_restOfEnv, a_binderOfRecord, a_gradeOfRecord, a_countOfRecord) (nI d) e) (h17 : m = 17 → wpX_enterLetBox post (f_derefLimit, f_recordLimit, f_frameLimit, f_nodeCount, f_currentStatus, f_faultNode, f_typeCount, f_currentNode, f_currentEnv, f_returning, f_returnedNumber, nI q, f_lastOutcome, f_lastValue, f_derefsMade, f_recordsMade, a_nodeKind, a_nodeArg, a_expectedPlaces, a_nodeAtPlace, a_placeOfNode, a_variablesSeen, a_nodeType, a_gradeOfBinder, a_variableType, a_usage, a_typeKind, a_typeGrade, a_typeLeft, a_typeRight, a_frameMark, a_frameWord, a_frameEnv, a_thunkNode, a_thunkEnv, a_restOfEnv, a_binderOfRecord, a_gradeOfRecord, a_countOfRecord) (nI d) e) : wpX_returnValue post (f_derefLimit, f_recordLimit, f_frameLimit, f_nodeCount, f_currentStatus, f_faultNode, f_typeCount, f_currentNode, f_currentEnv, f_returning, f_returnedNumber, nI (q + 1), f_lastOutcome, f_lastValue, f_derefsMade, f_recordsMade, a_nodeKind, a_nodeArg, a_expectedPlaces, a_nodeAtPlace, a_placeOfNode, a_variablesSeen, a_nodeType, a_gradeOfBinder, a_variableType, a_usage, a_typeKind, a_typeGrade, a_typeLeft, a_typeRight, a_frameMark, a_frameWord, a_frameEnv, a_thunkNode, a_thunkEnv, a_restOfEnv, a_binderOfRecord, a_gradeOfRecord, a_countOfRecord) := by
  unfold wpX_returnValue
  dsimp only
  have v := vp_in_nI hq (by decide)
  refine br_f (nI_ne0 (by omega) (by omega)) (nm_r (nI_pred q) ⟨v, ?_⟩)
  rw [nI_clamp (show q < 2 ^ 31 by omega), hm, hw, he]
  refine nm_e ⟨v, nm_e ⟨v, nm_e ?_⟩⟩
  rcases hg with e | e | e | e | e
  · have := h8 e
    rw [e]; exact br_f (by decide) (br_t (by decide) this)
  · have := h10 e
    rw [e]; exact br_f (by decide) (br_f (by decide) (br_t (by decide) this))
  · have := h12 e
    rw [e]; exact br_f (by decide) (br_f (by decide) (br_f (by decide) (br_t (by decide) this)))
  · have := h15 e
    rw [e]; exact br_f (by decide) (br_f (by decide) (br_f (by decide) (br_f (by decide) (br_t (by decide) this))))
  · have := h17 e
    rw [e]; exact br_f (by decide) (br_f (by decide) (br_f (by decide) (br_f (by decide) (br_f (by decide) this))))
theorem gx_en8 {post : St2 → Prop} {q d c : Nat} {e : Int32} (hd : d < 32) (hc : a_nodeAtPlace (3 * d + 1) = nI c) (hq : q < 64)
    (h : post (f_derefLimit, f_recordLimit, f_frameLimit, f_nodeCount, f_currentStatus, f_faultNode, f_typeCount, nI c, e, 0, f_returnedNumber, nI (q + 1), f_lastOutcome, f_lastValue, f_derefsMade, f_recordsMade, a_nodeKind, a_nodeArg, a_expectedPlaces, a_nodeAtPlace, a_placeOfNode, a_variablesSeen, a_nodeType, a_gradeOfBinder, a_variableType, a_usage, a_typeKind, a_typeGrade, a_typeLeft, a_typeRight, upd a_frameMark q 0, upd a_frameWord q f_returnedNumber, upd a_frameEnv q 0, a_thunkNode, a_thunkEnv, a_restOfEnv, a_binderOfRecord, a_gradeOfRecord, a_countOfRecord)) : wpX_enterRightTerm post (f_derefLimit, f_recordLimit, f_frameLimit, f_nodeCount, f_currentStatus, f_faultNode, f_typeCount, f_currentNode, f_currentEnv, f_returning, f_returnedNumber, nI q, f_lastOutcome, f_lastValue, f_derefsMade, f_recordsMade, a_nodeKind, a_nodeArg, a_expectedPlaces, a_nodeAtPlace, a_placeOfNode, a_variablesSeen, a_nodeType, a_gradeOfBinder, a_variableType, a_usage, a_typeKind, a_typeGrade, a_typeLeft, a_typeRight, a_frameMark, a_frameWord, a_frameEnv, a_thunkNode, a_thunkEnv, a_restOfEnv, a_binderOfRecord, a_gradeOfRecord, a_countOfRecord) (nI d) e := by
  unfold wpX_enterRightTerm
  dsimp only
  exact gx_co (j := 1) hd (by omega) hc (gx_fpush hq h)
theorem gx_en10 {post : St2 → Prop} {rc rl d t c b : Nat} {e : Int32} (hd : d < 32) (ht : t < 32) (hc : a_nodeAtPlace (3 * d + 1) = nI c) (hb : a_nodeAtPlace (3 * t + 1) = nI b) (hrc : rc ≤ rl) (hrl : rl ≤ 32)
    (h0 : rc = rl → post (f_derefLimit, nI rl, f_frameLimit, f_nodeCount, f_currentStatus, f_faultNode, f_typeCount, nI t, f_currentEnv, f_returning, f_returnedNumber, f_frameCount, 8, f_lastValue, f_derefsMade, nI rc, a_nodeKind, a_nodeArg, a_expectedPlaces, a_nodeAtPlace, a_placeOfNode, a_variablesSeen, a_nodeType, a_gradeOfBinder, a_variableType, a_usage, a_typeKind, a_typeGrade, a_typeLeft, a_typeRight, a_frameMark, a_frameWord, a_frameEnv, a_thunkNode, a_thunkEnv, a_restOfEnv, a_binderOfRecord, a_gradeOfRecord, a_countOfRecord))
    (h1 : rc < rl → post (f_derefLimit, nI rl, f_frameLimit, f_nodeCount, f_currentStatus, f_faultNode, f_typeCount, nI b, nI (rc + 1), 0, f_returnedNumber, f_frameCount, f_lastOutcome, f_lastValue, f_derefsMade, nI (rc + 1), a_nodeKind, a_nodeArg, a_expectedPlaces, a_nodeAtPlace, a_placeOfNode, a_variablesSeen, a_nodeType, a_gradeOfBinder, a_variableType, a_usage, a_typeKind, a_typeGrade, a_typeLeft, a_typeRight, a_frameMark, a_frameWord, a_frameEnv, upd a_thunkNode (rc + 1) (nI c), upd a_thunkEnv (rc + 1) e, upd a_restOfEnv (rc + 1) f_currentEnv, upd a_binderOfRecord (rc + 1) (nI t), upd a_gradeOfRecord (rc + 1) (a_gradeOfBinder t), upd a_countOfRecord (rc + 1) 0)) :
    wpX_enterFunction post (f_derefLimit, nI rl, f_frameLimit, f_nodeCount, f_currentStatus, f_faultNode, f_typeCount, nI t, f_currentEnv, f_returning, f_returnedNumber, f_frameCount, f_lastOutcome, f_lastValue, f_derefsMade, nI rc, a_nodeKind, a_nodeArg, a_expectedPlaces, a_nodeAtPlace, a_placeOfNode, a_variablesSeen, a_nodeType, a_gradeOfBinder, a_variableType, a_usage, a_typeKind, a_typeGrade, a_typeLeft, a_typeRight, a_frameMark, a_frameWord, a_frameEnv, a_thunkNode, a_thunkEnv, a_restOfEnv, a_binderOfRecord, a_gradeOfRecord, a_countOfRecord) (nI d) e := by
  unfold wpX_enterFunction
  dsimp only
  refine gx_co (j := 1) hd (by omega) hc (gx_co (j := 1) ht (by omega) hb ?_)
  exact gx_mr ht hrc hrl (fun z => br_t rfl (h0 z)) (fun z => br_f (by decide) (h1 z))
theorem gx_en17 {post : St2 → Prop} {rc rl d t c b : Nat} {e : Int32} (hd : d < 32) (ht : t < 32) (hc : a_nodeAtPlace (3 * t + 0) = nI c) (hb : a_nodeAtPlace (3 * d + 1) = nI b) (hrc : rc ≤ rl) (hrl : rl ≤ 32)
    (h0 : rc = rl → post (f_derefLimit, nI rl, f_frameLimit, f_nodeCount, f_currentStatus, f_faultNode, f_typeCount, nI t, f_currentEnv, f_returning, f_returnedNumber, f_frameCount, 8, f_lastValue, f_derefsMade, nI rc, a_nodeKind, a_nodeArg, a_expectedPlaces, a_nodeAtPlace, a_placeOfNode, a_variablesSeen, a_nodeType, a_gradeOfBinder, a_variableType, a_usage, a_typeKind, a_typeGrade, a_typeLeft, a_typeRight, a_frameMark, a_frameWord, a_frameEnv, a_thunkNode, a_thunkEnv, a_restOfEnv, a_binderOfRecord, a_gradeOfRecord, a_countOfRecord))
    (h1 : rc < rl → post (f_derefLimit, nI rl, f_frameLimit, f_nodeCount, f_currentStatus, f_faultNode, f_typeCount, nI b, nI (rc + 1), 0, f_returnedNumber, f_frameCount, f_lastOutcome, f_lastValue, f_derefsMade, nI (rc + 1), a_nodeKind, a_nodeArg, a_expectedPlaces, a_nodeAtPlace, a_placeOfNode, a_variablesSeen, a_nodeType, a_gradeOfBinder, a_variableType, a_usage, a_typeKind, a_typeGrade, a_typeLeft, a_typeRight, a_frameMark, a_frameWord, a_frameEnv, upd a_thunkNode (rc + 1) (nI c), upd a_thunkEnv (rc + 1) f_currentEnv, upd a_restOfEnv (rc + 1) e, upd a_binderOfRecord (rc + 1) (nI d), upd a_gradeOfRecord (rc + 1) (a_gradeOfBinder d), upd a_countOfRecord (rc + 1) 0)) :
    wpX_enterLetBox post (f_derefLimit, nI rl, f_frameLimit, f_nodeCount, f_currentStatus, f_faultNode, f_typeCount, nI t, f_currentEnv, f_returning, f_returnedNumber, f_frameCount, f_lastOutcome, f_lastValue, f_derefsMade, nI rc, a_nodeKind, a_nodeArg, a_expectedPlaces, a_nodeAtPlace, a_placeOfNode, a_variablesSeen, a_nodeType, a_gradeOfBinder, a_variableType, a_usage, a_typeKind, a_typeGrade, a_typeLeft, a_typeRight, a_frameMark, a_frameWord, a_frameEnv, a_thunkNode, a_thunkEnv, a_restOfEnv, a_binderOfRecord, a_gradeOfRecord, a_countOfRecord) (nI d) e := by
  unfold wpX_enterLetBox
  dsimp only
  refine gx_co (j := 0) ht (by omega) hc (gx_co (j := 1) hd (by omega) hb ?_)
  exact gx_mr hd hrc hrl (fun z => br_t rfl (h0 z)) (fun z => br_f (by decide) (h1 z))
theorem gx_en15 {post : St2 → Prop} {kt rc rl d t c b : Nat} {e : Int32} (hd : d < 32) (ht : t < 32) (hk : a_nodeKind t = nI kt) (hkt : kt ≤ 17) (hc : a_nodeAtPlace (3 * t + 1) = nI c) (hb : a_nodeAtPlace (3 * d + (if kt = 13 then 1 else 2)) = nI b) (hrc : rc ≤ rl) (hrl : rl ≤ 32)
    (h0 : rc = rl → post (f_derefLimit, nI rl, f_frameLimit, f_nodeCount, f_currentStatus, f_faultNode, f_typeCount, nI t, f_currentEnv, f_returning, f_returnedNumber, f_frameCount, 8, f_lastValue, f_derefsMade, nI rc, a_nodeKind, a_nodeArg, a_expectedPlaces, a_nodeAtPlace, a_placeOfNode, a_variablesSeen, a_nodeType, a_gradeOfBinder, a_variableType, a_usage, a_typeKind, a_typeGrade, a_typeLeft, a_typeRight, a_frameMark, a_frameWord, a_frameEnv, a_thunkNode, a_thunkEnv, a_restOfEnv, a_binderOfRecord, a_gradeOfRecord, a_countOfRecord))
    (h1 : rc < rl → post (f_derefLimit, nI rl, f_frameLimit, f_nodeCount, f_currentStatus, f_faultNode, f_typeCount, nI b, nI (rc + 1), 0, f_returnedNumber, f_frameCount, f_lastOutcome, f_lastValue, f_derefsMade, nI (rc + 1), a_nodeKind, a_nodeArg, a_expectedPlaces, a_nodeAtPlace, a_placeOfNode, a_variablesSeen, a_nodeType, a_gradeOfBinder, a_variableType, a_usage, a_typeKind, a_typeGrade, a_typeLeft, a_typeRight, a_frameMark, a_frameWord, a_frameEnv, upd a_thunkNode (rc + 1) (nI c), upd a_thunkEnv (rc + 1) f_currentEnv, upd a_restOfEnv (rc + 1) e, upd a_binderOfRecord (rc + 1) (nI d), upd a_gradeOfRecord (rc + 1) (a_gradeOfBinder d), upd a_countOfRecord (rc + 1) 0)) :
    wpX_enterBranch post (f_derefLimit, nI rl, f_frameLimit, f_nodeCount, f_currentStatus, f_faultNode, f_typeCount, nI t, f_currentEnv, f_returning, f_returnedNumber, f_frameCount, f_lastOutcome, f_lastValue, f_derefsMade, nI rc, a_nodeKind, a_nodeArg, a_expectedPlaces, a_nodeAtPlace, a_placeOfNode, a_variablesSeen, a_nodeType, a_gradeOfBinder, a_variableType, a_usage, a_typeKind, a_typeGrade, a_typeLeft, a_typeRight, a_frameMark, a_frameWord, a_frameEnv, a_thunkNode, a_thunkEnv, a_restOfEnv, a_binderOfRecord, a_gradeOfRecord, a_countOfRecord) (nI d) e := by
  unfold wpX_enterBranch
  dsimp only
  refine gx_co (j := 1) ht (by omega) hc ⟨vp_in_nI ht (by decide), ?_⟩
  rw [nI_clamp (show t < 2 ^ 31 by omega), hk]
  refine pk_eq kt 13 (fun z => ?_) (fun z => ?_)
  · rw [if_pos z] at hb
    unfold wX_enterBranch_31
    refine gx_co (j := 1) hd (by omega) hb ?_
    exact gx_mr hd hrc hrl (fun z => br_t rfl (h0 z)) (fun z => br_f (by decide) (h1 z))
  · rw [if_neg z] at hb
    unfold wX_enterBranch_31
    refine gx_co (j := 2) hd (by omega) hb ?_
    exact gx_mr hd hrc hrl (fun z => br_t rfl (h0 z)) (fun z => br_f (by decide) (h1 z))
theorem gx_en12 {post : St2 → Prop} {rc rl d t c0 c1 b : Nat} {e : Int32} (hd : d < 32) (ht : t < 32) (hc0 : a_nodeAtPlace (3 * t + 0) = nI c0) (hc1 : a_nodeAtPlace (3 * t + 1) = nI c1) (hb : a_nodeAtPlace (3 * d + 1) = nI b) (hrc : rc ≤ rl) (hrl : rl ≤ 32)
    (h0 : rc = rl → post (f_derefLimit, nI rl, f_frameLimit, f_nodeCount, f_currentStatus, f_faultNode, f_typeCount, nI t, f_currentEnv, f_returning, f_returnedNumber, f_frameCount, 8, f_lastValue, f_derefsMade, nI rc, a_nodeKind, a_nodeArg, a_expectedPlaces, a_nodeAtPlace, a_placeOfNode, a_variablesSeen, a_nodeType, a_gradeOfBinder, a_variableType, a_usage, a_typeKind, a_typeGrade, a_typeLeft, a_typeRight, a_frameMark, a_frameWord, a_frameEnv, a_thunkNode, a_thunkEnv, a_restOfEnv, a_binderOfRecord, a_gradeOfRecord, a_countOfRecord))
    (h1 : rc + 1 = rl → post (f_derefLimit, nI rl, f_frameLimit, f_nodeCount, f_currentStatus, f_faultNode, f_typeCount, nI t, f_currentEnv, f_returning, f_returnedNumber, f_frameCount, 8, f_lastValue, f_derefsMade, nI (rc + 1), a_nodeKind, a_nodeArg, a_expectedPlaces, a_nodeAtPlace, a_placeOfNode, a_variablesSeen, a_nodeType, a_gradeOfBinder, a_variableType, a_usage, a_typeKind, a_typeGrade, a_typeLeft, a_typeRight, a_frameMark, a_frameWord, a_frameEnv, upd a_thunkNode (rc + 1) (nI c0), upd a_thunkEnv (rc + 1) f_currentEnv, upd a_restOfEnv (rc + 1) e, upd a_binderOfRecord (rc + 1) (nI d), upd a_gradeOfRecord (rc + 1) (a_gradeOfBinder d), upd a_countOfRecord (rc + 1) 0))
    (h2 : rc + 1 < rl → post (f_derefLimit, nI rl, f_frameLimit, f_nodeCount, f_currentStatus, f_faultNode, f_typeCount, nI b, nI (rc + 1 + 1), 0, f_returnedNumber, f_frameCount, f_lastOutcome, f_lastValue, f_derefsMade, nI (rc + 1 + 1), a_nodeKind, a_nodeArg, a_expectedPlaces, a_nodeAtPlace, a_placeOfNode, a_variablesSeen, a_nodeType, a_gradeOfBinder, a_variableType, a_usage, a_typeKind, a_typeGrade, a_typeLeft, a_typeRight, a_frameMark, a_frameWord, a_frameEnv, upd (upd a_thunkNode (rc + 1) (nI c0)) (rc + 1 + 1) (nI c1), upd (upd a_thunkEnv (rc + 1) f_currentEnv) (rc + 1 + 1) f_currentEnv, upd (upd a_restOfEnv (rc + 1) e) (rc + 1 + 1) (nI (rc + 1)), upd (upd a_binderOfRecord (rc + 1) (nI d)) (rc + 1 + 1) (nI d), upd (upd a_gradeOfRecord (rc + 1) (a_gradeOfBinder d)) (rc + 1 + 1) (a_gradeOfBinder d), upd (upd a_countOfRecord (rc + 1) 0) (rc + 1 + 1) 0)) :
    wpX_enterLetPair post (f_derefLimit, nI rl, f_frameLimit, f_nodeCount, f_currentStatus, f_faultNode, f_typeCount, nI t, f_currentEnv, f_returning, f_returnedNumber, f_frameCount, f_lastOutcome, f_lastValue, f_derefsMade, nI rc, a_nodeKind, a_nodeArg, a_expectedPlaces, a_nodeAtPlace, a_placeOfNode, a_variablesSeen, a_nodeType, a_gradeOfBinder, a_variableType, a_usage, a_typeKind, a_typeGrade, a_typeLeft, a_typeRight, a_frameMark, a_frameWord, a_frameEnv, a_thunkNode, a_thunkEnv, a_restOfEnv, a_binderOfRecord, a_gradeOfRecord, a_countOfRecord) (nI d) e := by
  unfold wpX_enterLetPair
  dsimp only
  refine gx_co (j := 0) ht (by omega) hc0 (gx_co (j := 1) ht (by omega) hc1 (gx_co (j := 1) hd (by omega) hb ?_))
  refine gx_mr hd hrc hrl (fun z => br_t rfl (h0 z)) (fun z => br_f (by decide) ?_)
  try dsimp only
  exact gx_mr hd z hrl (fun z => br_t rfl (h1 z)) (fun z => br_f (by decide) (h2 z))
end

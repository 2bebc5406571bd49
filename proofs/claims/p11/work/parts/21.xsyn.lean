/-- the top of a stack is kept at the array's end -/
def gx_stk (a : Nat → Int32) : List Nat → Prop
  | [] => True
  | q :: R => a R.length = nI q ∧ gx_stk a R
theorem gx_stk_keep {a : Nat → Int32} {k : Nat} {x : Int32} : ∀ {R : List Nat}, R.length ≤ k → gx_stk a R → gx_stk (upd a k x) R
  | [], _, _ => trivial
  | q :: R, hk, h => by
    simp only [List.length_cons] at hk
    exact ⟨by rw [pk_un (by omega)]; exact h.1, gx_stk_keep (by omega) h.2⟩
theorem gx_stk_push {a : Nat → Int32} {k q : Nat} {R : List Nat} (hk : k = R.length) (h : gx_stk a R) : gx_stk (upd a k (nI q)) (q :: R) := by
  subst hk
  exact ⟨pk_us, gx_stk_keep (Nat.le_refl _) h⟩
def gx_so (kd : Nat → Nat) (i p : Nat) : Prop := if p = 96 then gp_srt (kd i) = 1 else gp_srt (kd i) = gp_cs (kd (p / 3)) (p % 3)
def gx_bad (kd : Nat → Nat) (i : Nat) : Prop := gp_S kd i = [] ∨ ¬ gx_so kd i (gp_pl kd i)
theorem gp_srt_01 (k : Nat) : gp_srt k ≤ 1 := by unfold gp_srt; split <;> omega
theorem gp_cs_01 (k j : Nat) : gp_cs k j ≤ 1 := by
  unfold gp_cs
  split
  · omega
  · split <;> omega
section
variable {f_derefLimit f_recordLimit f_frameLimit f_nodeCount f_currentStatus f_faultNode f_typeCount f_currentNode f_currentEnv f_returning f_returnedNumber f_frameCount f_lastOutcome f_lastValue f_derefsMade f_recordsMade : Int32} {a_nodeKind a_nodeArg a_expectedPlaces a_nodeAtPlace a_placeOfNode a_variablesSeen a_nodeType a_gradeOfBinder a_variableType a_usage a_typeKind a_typeGrade a_typeLeft a_typeRight a_frameMark a_frameWord a_frameEnv a_thunkNode a_thunkEnv a_restOfEnv a_binderOfRecord a_gradeOfRecord a_countOfRecord : Nat → Int32}
theorem gx_sf {post : Int32 → Prop} {kd : Nat → Nat} {i p : Nat} (hi : i < 32) (hk : a_nodeKind i = nI (kd i)) (hk2 : kd i ≤ 17) (hp : p ≤ 96)
    (hq : p ≠ 96 → a_nodeKind (p / 3) = nI (kd (p / 3)) ∧ 1 ≤ kd (p / 3) ∧ kd (p / 3) ≤ 17) (h1 : gx_so kd i p → post 1) (h0 : ¬ gx_so kd i p → post 0) : wpX_sortFits post (f_derefLimit, f_recordLimit, f_frameLimit, f_nodeCount, f_currentStatus, f_faultNode, f_typeCount, f_currentNode, f_currentEnv, f_returning, f_returnedNumber, f_frameCount, f_lastOutcome, f_lastValue, f_derefsMade, f_recordsMade, a_nodeKind, a_nodeArg, a_expectedPlaces, a_nodeAtPlace, a_placeOfNode, a_variablesSeen, a_nodeType, a_gradeOfBinder, a_variableType, a_usage, a_typeKind, a_typeGrade, a_typeLeft, a_typeRight, a_frameMark, a_frameWord, a_frameEnv, a_thunkNode, a_thunkEnv, a_restOfEnv, a_binderOfRecord, a_gradeOfRecord, a_countOfRecord) (nI i) (nI p) := by
  unfold wpX_sortFits
  try dsimp only
  have ei : (nI i).toNatClampNeg = i := nI_clamp (by omega)
  rw [ei, hk]
  refine ⟨vp_in_nI hi (by decide), gx_it hk2 ?_⟩
  try dsimp only
  have s1 := gp_srt_01 (kd i)
  refine pk_eq p 96 (fun e => ?_) (fun e => ?_)
  · unfold gx_so at h1 h0
    rw [if_pos e] at h1 h0
    refine pk_eq (1 - gp_srt (kd i)) 0 (fun z => h1 (by omega)) (fun z => h0 (by omega))
  · obtain ⟨q1, q2, q3⟩ := hq e
    have hp3 : p / 3 < 32 := by omega
    have e1 : nI p / 3 = nI (p / 3) := pk_div (by omega) (by decide) (by decide)
    have e2 : nI p - nI p / 3 * 3 = nI (p % 3) := pk_rem (by omega) (by decide) (by decide)
    unfold gx_so at h1 h0
    rw [if_neg e] at h1 h0
    refine ⟨by decide, nm_r e1 ⟨vp_in_nI hp3 (by decide), by decide, ?_⟩⟩
    rw [e2, nI_clamp (by omega), q1]
    refine gx_wt q2 q3 (by omega) ?_
    try dsimp only
    have s2 := gp_cs_01 (kd (p / 3)) (p % 3)
    refine pk_eq (1 - gp_srt (kd i)) (1 - gp_cs (kd (p / 3)) (p % 3)) (fun z => h1 (by omega)) (fun z => h0 (by omega))
theorem gx_hang {post : St2 → Prop} {kd : Nat → Nat} {i p : Nat} (hi : i < 32) (hp : p ≤ 96)
    (hq : p ≠ 96 → a_nodeKind (p / 3) = nI (kd (p / 3)) ∧ 1 ≤ kd (p / 3) ∧ kd (p / 3) ≤ 17)
    (h : ∀ v, (p = 96 → v = 0) → (p ≠ 96 → v = a_variablesSeen (p / 3) + nI (gp_bd (kd (p / 3)) (p % 3))) → post (f_derefLimit, f_recordLimit, f_frameLimit, f_nodeCount, f_currentStatus, f_faultNode, f_typeCount, f_currentNode, f_currentEnv, f_returning, f_returnedNumber, f_frameCount, f_lastOutcome, f_lastValue, f_derefsMade, f_recordsMade, a_nodeKind, a_nodeArg, a_expectedPlaces, upd a_nodeAtPlace p (nI i), upd a_placeOfNode i (nI p), upd a_variablesSeen i v, a_nodeType, a_gradeOfBinder, a_variableType, a_usage, a_typeKind, a_typeGrade, a_typeLeft, a_typeRight, a_frameMark, a_frameWord, a_frameEnv, a_thunkNode, a_thunkEnv, a_restOfEnv, a_binderOfRecord, a_gradeOfRecord, a_countOfRecord)) : wpX_hang post (f_derefLimit, f_recordLimit, f_frameLimit, f_nodeCount, f_currentStatus, f_faultNode, f_typeCount, f_currentNode, f_currentEnv, f_returning, f_returnedNumber, f_frameCount, f_lastOutcome, f_lastValue, f_derefsMade, f_recordsMade, a_nodeKind, a_nodeArg, a_expectedPlaces, a_nodeAtPlace, a_placeOfNode, a_variablesSeen, a_nodeType, a_gradeOfBinder, a_variableType, a_usage, a_typeKind, a_typeGrade, a_typeLeft, a_typeRight, a_frameMark, a_frameWord, a_frameEnv, a_thunkNode, a_thunkEnv, a_restOfEnv, a_binderOfRecord, a_gradeOfRecord, a_countOfRecord) (nI i) (nI p) := by
  unfold wpX_hang
  try dsimp only
  have ei : (nI i).toNatClampNeg = i := nI_clamp (by omega)
  have ep : (nI p).toNatClampNeg = p := nI_clamp (by omega)
  rw [ei, ep]
  refine ⟨vp_in_nI (by omega) (by decide), nm_e ⟨vp_in_nI hi (by decide), nm_e ?_⟩⟩
  refine pk_eq p 96 (fun e => ?_) (fun e => ?_)
  · exact ⟨vp_in_nI hi (by decide), nm_e (h 0 (fun _ => rfl) (fun z => absurd e z))⟩
  · obtain ⟨q1, q2, q3⟩ := hq e
    have hp3 : p / 3 < 32 := by omega
    have e1 : nI p / 3 = nI (p / 3) := pk_div (by omega) (by decide) (by decide)
    have e2 : nI p - nI p / 3 * 3 = nI (p % 3) := pk_rem (by omega) (by decide) (by decide)
    refine ⟨by decide, nm_r e1 ⟨vp_in_nI hp3 (by decide), by decide, ?_⟩⟩
    rw [e2, nI_clamp (by omega), q1]
    refine gx_vb q2 q3 (by omega) ?_
    try dsimp only
    exact ⟨vp_in_nI hp3 (by decide), vp_in_nI hi (by decide), nm_e (h _ (fun z => absurd z e) (fun _ => rfl))⟩
theorem gx_push {post : St2 → Prop} {J : Int32 → Int32 → Int32 → Int32 → Int32 → Int32 → Int32 → Int32 → Int32 → Int32 → Int32 → Int32 → Int32 → Int32 → Int32 → Int32 → Int32 → Int32 → (Nat → Int32) → (Nat → Int32) → (Nat → Int32) → (Nat → Int32) → (Nat → Int32) → (Nat → Int32) → (Nat → Int32) → (Nat → Int32) → (Nat → Int32) → (Nat → Int32) → (Nat → Int32) → (Nat → Int32) → (Nat → Int32) → (Nat → Int32) → (Nat → Int32) → (Nat → Int32) → (Nat → Int32) → (Nat → Int32) → (Nat → Int32) → (Nat → Int32) → (Nat → Int32) → (Nat → Int32) → (Nat → Int32) → Prop} {i : Nat} {R : List Nat} (hi : i < 32) : ∀ s m fuel (ep : Nat → Int32), s < fuel → R.length + m + s ≤ 65 → gx_stk ep (gp_kf i s m ++ R) →
    (∀ ep', gx_stk ep' (gp_kf i 0 (m + s) ++ R) → J (nI (R.length + m + s)) (nI (i + 1)) f_derefLimit f_recordLimit f_frameLimit f_nodeCount f_currentStatus f_faultNode f_typeCount f_currentNode f_currentEnv f_returning f_returnedNumber f_frameCount f_lastOutcome f_lastValue f_derefsMade f_recordsMade a_nodeKind a_nodeArg ep' a_nodeAtPlace a_placeOfNode a_variablesSeen a_nodeType a_gradeOfBinder a_variableType a_usage a_typeKind a_typeGrade a_typeLeft a_typeRight a_frameMark a_frameWord a_frameEnv a_thunkNode a_thunkEnv a_restOfEnv a_binderOfRecord a_gradeOfRecord a_countOfRecord) →
    wX_checkSyntax_73 post J (nI i) f_derefLimit f_recordLimit f_frameLimit f_nodeCount f_currentStatus f_faultNode f_typeCount f_currentNode f_currentEnv f_returning f_returnedNumber f_frameCount f_lastOutcome f_lastValue f_derefsMade f_recordsMade fuel (nI (R.length + m)) (nI s - 1) a_nodeKind a_nodeArg ep a_nodeAtPlace a_placeOfNode a_variablesSeen a_nodeType a_gradeOfBinder a_variableType a_usage a_typeKind a_typeGrade a_typeLeft a_typeRight a_frameMark a_frameWord a_frameEnv a_thunkNode a_thunkEnv a_restOfEnv a_binderOfRecord a_gradeOfRecord a_countOfRecord
  | 0, m, 0, _, hf, _, _, _ => by omega
  | 0, m, fuel + 1, ep, hf, hl, hs, h => br_t (by decide) (nm_r (nI_1 i) (h ep hs))
  | s + 1, m, 0, _, hf, _, _, _ => by omega
  | s + 1, m, fuel + 1, ep, hf, hl, hs, h => by
    have hlen : (gp_kf i (s + 1) m ++ R).length = R.length + m := by rw [List.length_append, gp_kf_len]; omega
    have e1 : (nI i * 3) + nI s = nI (3 * i + s) := by
      rw [show (nI i * 3 : Int32) = nI (i * 3) from pk_mul i 3, nI_add, Nat.mul_comm]
    rw [nI_pred]
    refine br_f (nI_pos (by omega)) ⟨vp_in_nI (by omega) (by decide), ?_⟩
    rw [nI_clamp (by omega), e1]
    refine nm_e (nm_r (nI_1 _) (nm_e ?_))
    have IH := gx_push (post := post) (J := J) (R := R) hi s (m + 1) fuel (upd ep (R.length + m) (nI (3 * i + s))) (by omega) (by omega)
      (gx_stk_push (q := 3 * i + s) hlen.symm hs) (by
        rw [show m + 1 + s = m + (s + 1) by omega, show R.length + (m + 1) + s = R.length + m + (s + 1) by omega]; exact h)
    rw [Int32.sub_eq_add_neg] at IH
    exact IH
end

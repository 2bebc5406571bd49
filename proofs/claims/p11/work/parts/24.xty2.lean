/-! a type's number -/
theorem gx_xt_new {T : gd_Tb} {tc : Nat} {k g l r : Int32} (h : gd_xt T tc) (htc : tc < 32)
    (hl : ¬ k = 1 → ∃ a, a < tc ∧ l = nI a) (hr : ¬ k = 1 → ¬ k = 5 → ∃ b, b < tc ∧ r = nI b) (h1 : k = 1 → l = 0 ∧ r = 0) (h5 : k = 5 → r = 0)
    (hn : ∀ i, i < tc → ¬ (T.1 i = k ∧ T.2.1 i = g ∧ T.2.2.1 i = l ∧ T.2.2.2 i = r)) : gd_xt (upd T.1 tc k, upd T.2.1 tc g, upd T.2.2.1 tc l, upd T.2.2.2 tc r) (tc + 1) := by
  refine ⟨by omega, fun i hi => ?_, fun i j hi hj e1 e2 e3 e4 => ?_⟩
  · unfold gd_xe
    try dsimp only
    rcases Nat.lt_or_ge i tc with z | z
    · have ne : i ≠ tc := by omega
      rw [pk_un ne, pk_un ne, pk_un ne]
      exact h.2.1 i z
    · have e : i = tc := by omega
      subst e
      rw [pk_us, pk_us, pk_us]
      exact ⟨hl, hr, h1, h5⟩
  · dsimp only at e1 e2 e3 e4
    rcases Nat.lt_or_ge i tc with z | z
    · have ni : i ≠ tc := by omega
      rw [pk_un ni] at e1 e2 e3 e4
      rcases Nat.lt_or_ge j tc with y | y
      · have nj : j ≠ tc := by omega
        rw [pk_un nj] at e1 e2 e3 e4
        exact h.2.2 i j z y e1 e2 e3 e4
      · have e : j = tc := by omega
        subst e
        rw [pk_us] at e1 e2 e3 e4
        exact absurd ⟨e1, e2, e3, e4⟩ (hn i z)
    · have e : i = tc := by omega
      subst e
      rw [pk_us] at e1 e2 e3 e4
      rcases Nat.lt_or_ge j i with y | y
      · have nj : j ≠ i := by omega
        rw [pk_un nj] at e1 e2 e3 e4
        exact absurd ⟨e1.symm, e2.symm, e3.symm, e4.symm⟩ (hn j y)
      · omega
theorem gx_ext_new (T : gd_Tb) (tc : Nat) (k g l r : Int32) : gd_ext T (upd T.1 tc k, upd T.2.1 tc g, upd T.2.2.1 tc l, upd T.2.2.2 tc r) tc := by
  intro x hx
  have ne : x ≠ tc := by omega
  try dsimp only
  rw [pk_un ne, pk_un ne, pk_un ne, pk_un ne]
  exact ⟨rfl, rfl, rfl, rfl⟩
section
variable {f_derefLimit f_recordLimit f_frameLimit f_nodeCount f_currentStatus f_faultNode f_typeCount f_currentNode f_currentEnv f_returning f_returnedNumber f_frameCount f_lastOutcome f_lastValue f_derefsMade f_recordsMade : Int32} {a_nodeKind a_nodeArg a_expectedPlaces a_nodeAtPlace a_placeOfNode a_variablesSeen a_nodeType a_gradeOfBinder a_variableType a_usage a_typeKind a_typeGrade a_typeLeft a_typeRight a_frameMark a_frameWord a_frameEnv a_thunkNode a_thunkEnv a_restOfEnv a_binderOfRecord a_gradeOfRecord a_countOfRecord : Nat → Int32}
theorem gx_tn_l {post : Int32 → St2 → Prop} {tc : Nat} {k g l r : Int32} (htc : tc < 32)
    (hNew : (∀ i, i < tc → ¬ (a_typeKind i = k ∧ a_typeGrade i = g ∧ a_typeLeft i = l ∧ a_typeRight i = r)) → post (nI tc) (f_derefLimit, f_recordLimit, f_frameLimit, f_nodeCount, f_currentStatus, f_faultNode, nI (tc + 1), f_currentNode, f_currentEnv, f_returning, f_returnedNumber, f_frameCount, f_lastOutcome, f_lastValue, f_derefsMade, f_recordsMade, a_nodeKind, a_nodeArg, a_expectedPlaces, a_nodeAtPlace, a_placeOfNode, a_variablesSeen, a_nodeType, a_gradeOfBinder, a_variableType, a_usage, upd a_typeKind tc k, upd a_typeGrade tc g, upd a_typeLeft tc l, upd a_typeRight tc r, a_frameMark, a_frameWord, a_frameEnv, a_thunkNode, a_thunkEnv, a_restOfEnv, a_binderOfRecord, a_gradeOfRecord, a_countOfRecord))
    (hOld : ∀ i, i < tc → a_typeKind i = k → a_typeGrade i = g → a_typeLeft i = l → a_typeRight i = r → post (nI i) (f_derefLimit, f_recordLimit, f_frameLimit, f_nodeCount, f_currentStatus, f_faultNode, nI tc, f_currentNode, f_currentEnv, f_returning, f_returnedNumber, f_frameCount, f_lastOutcome, f_lastValue, f_derefsMade, f_recordsMade, a_nodeKind, a_nodeArg, a_expectedPlaces, a_nodeAtPlace, a_placeOfNode, a_variablesSeen, a_nodeType, a_gradeOfBinder, a_variableType, a_usage, a_typeKind, a_typeGrade, a_typeLeft, a_typeRight, a_frameMark, a_frameWord, a_frameEnv, a_thunkNode, a_thunkEnv, a_restOfEnv, a_binderOfRecord, a_gradeOfRecord, a_countOfRecord)) :
    ∀ d i fuel, i + d = tc → d < fuel → (∀ j, j < i → ¬ (a_typeKind j = k ∧ a_typeGrade j = g ∧ a_typeLeft j = l ∧ a_typeRight j = r)) → wX_typeNumber_3 post k g l r f_derefLimit f_recordLimit f_frameLimit f_nodeCount f_currentStatus f_faultNode (nI tc) f_currentNode f_currentEnv f_returning f_returnedNumber f_frameCount f_lastOutcome f_lastValue f_derefsMade f_recordsMade a_nodeKind a_nodeArg a_expectedPlaces a_nodeAtPlace a_placeOfNode a_variablesSeen a_nodeType a_gradeOfBinder a_variableType a_usage a_typeKind a_typeGrade a_typeLeft a_typeRight a_frameMark a_frameWord a_frameEnv a_thunkNode a_thunkEnv a_restOfEnv a_binderOfRecord a_gradeOfRecord a_countOfRecord fuel (nI i)
  | _, _, 0, _, hf, _ => by omega
  | 0, i, fuel + 1, hi, hf, hb => by
    have e : i = tc := by omega
    subst e
    refine br_t (nI_le (Nat.le_refl _) (by omega)) ?_
    rw [nI_clamp (show i < 2 ^ 31 by omega)]
    have v := vp_in_nI (show i < 32 from htc) (by decide)
    exact ⟨v, nm_e ⟨v, nm_e ⟨v, nm_e ⟨v, nm_e (nm_r (nI_1 i) (hNew hb))⟩⟩⟩⟩
  | d + 1, i, fuel + 1, hi, hf, hb => by
    have IH : ¬ (a_typeKind i = k ∧ a_typeGrade i = g ∧ a_typeLeft i = l ∧ a_typeRight i = r) → wX_typeNumber_3 post k g l r f_derefLimit f_recordLimit f_frameLimit f_nodeCount f_currentStatus f_faultNode (nI tc) f_currentNode f_currentEnv f_returning f_returnedNumber f_frameCount f_lastOutcome f_lastValue f_derefsMade f_recordsMade a_nodeKind a_nodeArg a_expectedPlaces a_nodeAtPlace a_placeOfNode a_variablesSeen a_nodeType a_gradeOfBinder a_variableType a_usage a_typeKind a_typeGrade a_typeLeft a_typeRight a_frameMark a_frameWord a_frameEnv a_thunkNode a_thunkEnv a_restOfEnv a_binderOfRecord a_gradeOfRecord a_countOfRecord fuel (nI (i + 1)) := fun y =>
      gx_tn_l htc hNew hOld d (i + 1) fuel (by omega) (by omega) (fun j hj => by
        rcases Nat.lt_or_ge j i with z | z
        · exact hb j z
        · have e : j = i := by omega
          subst e
          exact y)
    have v := vp_in_nI (show i < 32 by omega) (by decide)
    refine br_f (nI_ge (by omega) (by omega)) ⟨v, ?_⟩
    rw [nI_clamp (show i < 2 ^ 31 by omega)]
    refine br_c (fun e1 => ⟨v, br_c (fun e2 => ⟨v, br_c (fun e3 => ⟨v, br_c (fun e4 => hOld i (by omega) e1 e2 e3 e4) (fun e4 => nm_r (nI_1 i) (IH (fun z => e4 z.2.2.2)))⟩) (fun e3 => nm_r (nI_1 i) (IH (fun z => e3 z.2.2.1)))⟩) (fun e2 => nm_r (nI_1 i) (IH (fun z => e2 z.2.1)))⟩) (fun e1 => nm_r (nI_1 i) (IH (fun z => e1 z.1)))
/-- typeNumber gives the entry of the type that is made of the two parts -/
theorem gx_tn {post : Int32 → St2 → Prop} {tc : Nat} {k g l r : Int32} {τl τr : gt_Ty} (htc : tc < 32) (hT : gd_xt (a_typeKind, a_typeGrade, a_typeLeft, a_typeRight) tc)
    (hl : ¬ k = 1 → ∃ a, a < tc ∧ l = nI a ∧ gd_D (a_typeKind, a_typeGrade, a_typeLeft, a_typeRight) a = τl)
    (hr : ¬ k = 1 → ¬ k = 5 → ∃ b, b < tc ∧ r = nI b ∧ gd_D (a_typeKind, a_typeGrade, a_typeLeft, a_typeRight) b = τr) (h1 : k = 1 → l = 0 ∧ r = 0) (h5 : k = 5 → r = 0)
    (h : ∀ x tc' tk tg tl tr, x < tc' → tc ≤ tc' → tc' ≤ tc + 1 → gd_xt (tk, tg, tl, tr) tc' → gd_ext (a_typeKind, a_typeGrade, a_typeLeft, a_typeRight) (tk, tg, tl, tr) tc → gd_D (tk, tg, tl, tr) x = gt_mk k g τl τr →
      post (nI x) (f_derefLimit, f_recordLimit, f_frameLimit, f_nodeCount, f_currentStatus, f_faultNode, nI tc', f_currentNode, f_currentEnv, f_returning, f_returnedNumber, f_frameCount, f_lastOutcome, f_lastValue, f_derefsMade, f_recordsMade, a_nodeKind, a_nodeArg, a_expectedPlaces, a_nodeAtPlace, a_placeOfNode, a_variablesSeen, a_nodeType, a_gradeOfBinder, a_variableType, a_usage, tk, tg, tl, tr, a_frameMark, a_frameWord, a_frameEnv, a_thunkNode, a_thunkEnv, a_restOfEnv, a_binderOfRecord, a_gradeOfRecord, a_countOfRecord)) : wpX_typeNumber post (f_derefLimit, f_recordLimit, f_frameLimit, f_nodeCount, f_currentStatus, f_faultNode, nI tc, f_currentNode, f_currentEnv, f_returning, f_returnedNumber, f_frameCount, f_lastOutcome, f_lastValue, f_derefsMade, f_recordsMade, a_nodeKind, a_nodeArg, a_expectedPlaces, a_nodeAtPlace, a_placeOfNode, a_variablesSeen, a_nodeType, a_gradeOfBinder, a_variableType, a_usage, a_typeKind, a_typeGrade, a_typeLeft, a_typeRight, a_frameMark, a_frameWord, a_frameEnv, a_thunkNode, a_thunkEnv, a_restOfEnv, a_binderOfRecord, a_gradeOfRecord, a_countOfRecord) k g l r := by
  have hl' : ¬ k = 1 → ∃ a, a < tc ∧ l = nI a := fun z => by obtain ⟨a, a1, a2, _⟩ := hl z; exact ⟨a, a1, a2⟩
  have hr' : ¬ k = 1 → ¬ k = 5 → ∃ b, b < tc ∧ r = nI b := fun z y => by obtain ⟨a, a1, a2, _⟩ := hr z y; exact ⟨a, a1, a2⟩
  have key : ∀ (T' : gd_Tb) (x : Nat), gd_ext (a_typeKind, a_typeGrade, a_typeLeft, a_typeRight) T' tc → T'.1 x = k → T'.2.1 x = g → T'.2.2.1 x = l → T'.2.2.2 x = r → gd_D T' x = gt_mk k g τl τr := by
    intro T' x he e1 e2 e3 e4
    rw [gd_mkD, e1, e2]
    by_cases z : k = 1
    · rw [z]; exact gt_mk_1
    · obtain ⟨a, a1, a2, a3⟩ := hl z
      have eL : gd_D T' (gd_L T' x) = τl := by
        unfold gd_L; rw [e3, a2, nI_clamp (by omega), gd_ext_D hT he a1]; exact a3
      rw [eL]
      by_cases y : k = 5
      · rw [y]; exact gt_mk_5
      · obtain ⟨b, b1, b2, b3⟩ := hr z y
        have eR : gd_D T' (gd_R T' x) = τr := by
          unfold gd_R; rw [e4, b2, nI_clamp (by omega), gd_ext_D hT he b1]; exact b3
        rw [eR]
  refine ⟨tc + 1, gx_tn_l htc (fun hn => ?_) (fun i hi e1 e2 e3 e4 => ?_) tc 0 (tc + 1) (by omega) (by omega) (fun j hj => by omega)⟩
  · refine h tc (tc + 1) _ _ _ _ (by omega) (by omega) (by omega) (gx_xt_new hT htc hl' hr' h1 h5 hn) (gx_ext_new _ tc k g l r) ?_
    exact key _ tc (gx_ext_new _ tc k g l r) pk_us pk_us pk_us pk_us
  · exact h i tc _ _ _ _ hi (Nat.le_refl _) (by omega) hT (gd_ext_r _ _) (key _ i (gd_ext_r _ _) e1 e2 e3 e4)
end

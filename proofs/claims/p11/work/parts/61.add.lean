/-! addNode -/
def gr_hi (k : Nat) : Nat := if k = 4 ∨ k = 5 ∨ k = 16 then 3 else if k = 6 then 32 else if k = 9 ∨ k = 12 ∨ k = 15 then 4 else 0
def gr_fit (k : Nat) (a : Int32) : Prop := gr_hi k = 0 ∨ ∃ j, j < gr_hi k ∧ a = nI j
theorem gr_hi_t {P : Int32 → Int32 → Prop} {post : Int32 → Prop} {a : Int32} (m : Nat) (hm : m < 100) (h1 : (∃ j, j < m + 1 ∧ a = nI j) → post 1) (h0 : ¬ (∃ j, j < m + 1 ∧ a = nI j) → post 0) : (a < 0 → post 0) ∧ (¬ a < 0 → ((nI m < a → post 0) ∧ (¬ nI m < a → post 1))) := by
  refine br_c (fun z => h0 ?_) (fun z => ?_)
  · rintro ⟨j, hj, rfl⟩
    exact nI_pos (by omega) z
  · obtain ⟨j, hj, rfl⟩ := nI_of z
    refine br_c (fun y => h0 ?_) (fun y => h1 ⟨j, ?_, rfl⟩)
    · rw [nI_ltI (by omega) hj] at y
      rintro ⟨i, hi, e⟩
      rw [nI_eq hj (by omega)] at e
      omega
    · rw [nI_ltI (by omega) hj] at y
      omega
theorem gx_af {post : Int32 → Prop} {k : Nat} {a : Int32} (h1 : 1 ≤ k) (h2 : k ≤ 17) (hy : gr_fit k a → post 1) (hn : ¬ gr_fit k a → post 0) : wpX_argumentFits post () (nI k) a := by
  revert hy hn
  refine gx_k17 (P := fun k => (gr_fit k a → post 1) → (¬ gr_fit k a → post 0) → wpX_argumentFits post () (nI k) a) ?_ h1 h2
  have free : ∀ k, gr_hi k = 0 → (gr_fit k a → post 1) → post 1 := fun k e h => h (Or.inl e)
  have lim : ∀ k m, gr_hi k = m + 1 → m < 100 → (gr_fit k a → post 1) → (¬ gr_fit k a → post 0) → (a < 0 → post 0) ∧ (¬ a < 0 → ((nI m < a → post 0) ∧ (¬ nI m < a → post 1))) := fun k m e hm h g =>
    gr_hi_t (P := fun _ _ => True) m hm (fun z => h (Or.inr (by rw [e]; exact z))) (fun z => g (fun y => by
      rcases y with y | y
      · omega
      · rw [e] at y; exact z y))
  refine ⟨fun h _ => ?_, fun h _ => ?_, fun h _ => ?_, fun h g => ?_, fun h g => ?_, fun h g => ?_, fun h _ => ?_, fun h _ => ?_, fun h g => ?_, fun h _ => ?_, fun h _ => ?_, fun h g => ?_, fun h _ => ?_, fun h _ => ?_, fun h g => ?_, fun h g => ?_, fun h _ => ?_⟩
  · exact br_t (by decide) (free 1 (by decide) h)
  · exact br_t (by decide) (free 2 (by decide) h)
  · exact br_t (by decide) (free 3 (by decide) h)
  · have := lim 4 2 (by decide) (by decide) h g
    exact br_f (by decide) (br_f (by decide) (br_t (by decide) this))
  · have := lim 5 2 (by decide) (by decide) h g
    exact br_f (by decide) (br_f (by decide) (br_f (by decide) (br_t (by decide) this)))
  · have := lim 6 31 (by decide) (by decide) h g
    exact br_f (by decide) (br_f (by decide) (br_f (by decide) (br_f (by decide) (br_t (by decide) this))))
  · have := free 7 (by decide) h
    unfold wpX_argumentFits; repeat (first | exact br_t (by decide) this | refine br_f (by decide) ?_)
  · have := free 8 (by decide) h
    unfold wpX_argumentFits; repeat (first | exact br_t (by decide) this | refine br_f (by decide) ?_)
  · have := lim 9 3 (by decide) (by decide) h g
    unfold wpX_argumentFits; repeat (first | exact br_t (by decide) this | refine br_f (by decide) ?_)
  · have := free 10 (by decide) h
    unfold wpX_argumentFits; repeat (first | exact br_t (by decide) this | refine br_f (by decide) ?_)
  · have := free 11 (by decide) h
    unfold wpX_argumentFits; repeat (first | exact br_t (by decide) this | refine br_f (by decide) ?_)
  · have := lim 12 3 (by decide) (by decide) h g
    unfold wpX_argumentFits; repeat (first | exact br_t (by decide) this | refine br_f (by decide) ?_)
  · have := free 13 (by decide) h
    unfold wpX_argumentFits; repeat (first | exact br_t (by decide) this | refine br_f (by decide) ?_)
  · have := free 14 (by decide) h
    unfold wpX_argumentFits; repeat (first | exact br_t (by decide) this | refine br_f (by decide) ?_)
  · have := lim 15 3 (by decide) (by decide) h g
    unfold wpX_argumentFits; repeat (first | exact br_t (by decide) this | refine br_f (by decide) ?_)
  · have := lim 16 2 (by decide) (by decide) h g
    unfold wpX_argumentFits; repeat (first | exact br_t (by decide) this | refine br_f (by decide) ?_)
  · have := free 17 (by decide) h
    unfold wpX_argumentFits; repeat (first | exact br_t (by decide) this | refine br_f (by decide) ?_)
/-- the argument is kept -/
def gr_kp (k : Nat) : Bool := decide (gr_hi k ≠ 0 ∨ k = 7)
theorem gx_ig {post : Int32 → Prop} {k : Nat} (h1 : 1 ≤ k) (h2 : k ≤ 17) (h : post (if gr_kp k then 0 else 1)) : wpX_ignoresArgument post () (nI k) := by
  revert h
  refine gx_k17 (P := fun k => post (if gr_kp k then 0 else 1) → wpX_ignoresArgument post () (nI k)) ?_ h1 h2
  refine ⟨?_, ?_, ?_, ?_, ?_, ?_, ?_, ?_, ?_, ?_, ?_, ?_, ?_, ?_, ?_, ?_, ?_⟩ <;> (intro h; unfold wpX_ignoresArgument; repeat (first | exact h | exact br_t (by decide) h | refine br_f (by decide) ?_))
section
variable {f_derefLimit f_recordLimit f_frameLimit f_nodeCount f_currentStatus f_faultNode f_typeCount f_currentNode f_currentEnv f_returning f_returnedNumber f_frameCount f_lastOutcome f_lastValue f_derefsMade f_recordsMade : Int32} {a_nodeKind a_nodeArg a_expectedPlaces a_nodeAtPlace a_placeOfNode a_variablesSeen a_nodeType a_gradeOfBinder a_variableType a_usage a_typeKind a_typeGrade a_typeLeft a_typeRight a_frameMark a_frameWord a_frameEnv a_thunkNode a_thunkEnv a_restOfEnv a_binderOfRecord a_gradeOfRecord a_countOfRecord : Nat → Int32}
theorem gx_add2 {post : Int32 → St2 → Prop} {k n : Nat} {a : Int32} (h1 : 1 ≤ k) (h2 : k ≤ 17) (hn : n ≤ 32) (hno : ¬ (gr_fit k a ∧ n < 32) → post (-1) (f_derefLimit, f_recordLimit, f_frameLimit, nI n, f_currentStatus, f_faultNode, f_typeCount, f_currentNode, f_currentEnv, f_returning, f_returnedNumber, f_frameCount, f_lastOutcome, f_lastValue, f_derefsMade, f_recordsMade, a_nodeKind, a_nodeArg, a_expectedPlaces, a_nodeAtPlace, a_placeOfNode, a_variablesSeen, a_nodeType, a_gradeOfBinder, a_variableType, a_usage, a_typeKind, a_typeGrade, a_typeLeft, a_typeRight, a_frameMark, a_frameWord, a_frameEnv, a_thunkNode, a_thunkEnv, a_restOfEnv, a_binderOfRecord, a_gradeOfRecord, a_countOfRecord))
    (h : gr_fit k a → n < 32 → post (nI n) (f_derefLimit, f_recordLimit, f_frameLimit, nI (n + 1), 0, -1, f_typeCount, f_currentNode, f_currentEnv, f_returning, f_returnedNumber, f_frameCount, 0, 0, 0, 0, upd a_nodeKind n (nI k), upd a_nodeArg n (if gr_kp k then a else 0), a_expectedPlaces, a_nodeAtPlace, a_placeOfNode, a_variablesSeen, a_nodeType, a_gradeOfBinder, a_variableType, a_usage, a_typeKind, a_typeGrade, a_typeLeft, a_typeRight, a_frameMark, a_frameWord, a_frameEnv, a_thunkNode, a_thunkEnv, a_restOfEnv, a_binderOfRecord, a_gradeOfRecord, a_countOfRecord)) : wpX_addNode post (f_derefLimit, f_recordLimit, f_frameLimit, nI n, f_currentStatus, f_faultNode, f_typeCount, f_currentNode, f_currentEnv, f_returning, f_returnedNumber, f_frameCount, f_lastOutcome, f_lastValue, f_derefsMade, f_recordsMade, a_nodeKind, a_nodeArg, a_expectedPlaces, a_nodeAtPlace, a_placeOfNode, a_variablesSeen, a_nodeType, a_gradeOfBinder, a_variableType, a_usage, a_typeKind, a_typeGrade, a_typeLeft, a_typeRight, a_frameMark, a_frameWord, a_frameEnv, a_thunkNode, a_thunkEnv, a_restOfEnv, a_binderOfRecord, a_gradeOfRecord, a_countOfRecord) (nI k) a := by
  unfold wpX_addNode
  try dsimp only
  refine br_f (nI_nlt (b := 1) h1 (by omega)) (br_f (nI_nlt (a := 17) h2 (by decide)) (gx_af h1 h2 (fun f => br_f (by decide) ?_) (fun f => br_t rfl (hno (fun y => f y.1)))))
  refine pk_eq n 32 (fun z => hno (fun y => by omega)) (fun z => ⟨vp_in_nI (by omega) (by decide), ?_⟩)
  rw [nI_clamp (show n < 2 ^ 31 by omega)]
  refine nm_e (gx_ig h1 h2 ?_)
  have := h f (by omega)
  by_cases y : gr_kp k = true
  · rw [if_pos y] at this ⊢
    refine br_t rfl ?_
    unfold wX_addNode_59
    rw [nI_clamp (show n < 2 ^ 31 by omega)]
    exact ⟨vp_in_nI (by omega) (by decide), nm_e (nm_r (nI_1 n) this)⟩
  · rw [if_neg y] at this ⊢
    refine br_f (by decide) ?_
    unfold wX_addNode_59
    rw [nI_clamp (show n < 2 ^ 31 by omega)]
    exact ⟨vp_in_nI (by omega) (by decide), nm_e (nm_r (nI_1 n) this)⟩
end
theorem gr_kp_b (k : Nat) : gr_kp k = true ↔ (gr_hi k ≠ 0 ∨ k = 7) := by unfold gr_kp; exact decide_eq_true_iff
theorem gc_prog_s {kd : Nat → Nat} {ag : Nat → Int32} {n k : Nat} {a : Int32} (p : gc_prog kd ag n) (hn : n < 32) (h1 : 1 ≤ k) (h2 : k ≤ 17) (f : gr_fit k a) : gc_prog (gm_up kd n k) (upd ag n (if gr_kp k then a else 0)) (n + 1) := by
  obtain ⟨p1, p2, p3, p4, p5, p6⟩ := p
  have old : ∀ i, i < n → gm_up kd n k i = kd i ∧ upd ag n (if gr_kp k then a else 0) i = ag i := fun i hi => ⟨gm_up_n (by omega), pk_un (by omega)⟩
  have fin : ∀ m, gr_hi k = m → m ≠ 0 → ∃ j, j < m ∧ (if gr_kp k then a else 0) = nI j := by
    intro m em m0
    rw [if_pos ((gr_kp_b k).mpr (Or.inl (by omega)))]
    rcases f with f | f
    · omega
    · rw [em] at f; exact f
  refine ⟨by omega, fun i hi => ?_, fun i hi => ?_, fun i hi => ?_, fun i hi => ?_, fun i hi => ?_⟩
  all_goals (rcases Nat.lt_or_ge i n with z | z)
  · rw [(old i z).1]; exact p2 i z
  · have e : i = n := by omega
    subst e
    rw [gm_up_s]; exact ⟨h1, h2⟩
  · rw [(old i z).1, (old i z).2]; exact p3 i z
  · have e : i = n := by omega
    subst e
    rw [gm_up_s, pk_us]
    intro e
    obtain ⟨j, a, b⟩ := fin 32 (by rw [e]; decide) (by decide)
    exact ⟨j, by omega, b⟩
  · rw [(old i z).1, (old i z).2]; exact p4 i z
  · have e : i = n := by omega
    subst e
    rw [gm_up_s, pk_us]
    intro e
    obtain ⟨j, a, b⟩ := fin 3 (by rcases e with e | e | e <;> rw [e] <;> decide) (by decide)
    exact ⟨j, by omega, b⟩
  · rw [(old i z).1, (old i z).2]; exact p5 i z
  · have e : i = n := by omega
    subst e
    rw [gm_up_s, pk_us]
    intro e
    obtain ⟨j, a, b⟩ := fin 4 (by rcases e with e | e | e <;> rw [e] <;> decide) (by decide)
    exact ⟨j, by omega, b⟩
  · rw [(old i z).1, (old i z).2]; exact p6 i z
  · have e : i = n := by omega
    subst e
    rw [gm_up_s, pk_us]
    intro e
    refine if_neg ?_
    rw [gr_kp_b]
    have : k = 1 ∨ k = 2 ∨ k = 3 := by omega
    rcases this with e | e | e <;> rw [e] <;> decide

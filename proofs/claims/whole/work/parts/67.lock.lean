/-! both machines, in step -/
def gr_rr (rc : Nat) (tn te rs : Nat → Nat) (tN tE rE bo go co rT yE rG rN rC rX : Nat → Int32) : Prop := ∀ r, 1 ≤ r → r ≤ rc →
  (rE r = nI (rs r) ∧ tN r = nI (tn r) ∧ tE r = nI (te r)) ∧ (rX (r - 1) = nI (rs r) - 1 ∧ rT (r - 1) = nI (tn r) ∧ yE (r - 1) = nI (te r) - 1) ∧ (rN (r - 1) = bo r ∧ rG (r - 1) = go r ∧ rC (r - 1) = co r)
theorem gr_rr_p {rc d e1 e2 : Nat} {b g : Int32} {tn te rs : Nat → Nat} {tN tE rE bo go co rT yE rG rN rC rX : Nat → Int32} (h : gr_rr rc tn te rs tN tE rE bo go co rT yE rG rN rC rX) :
    gr_rr (rc + 1) (gm_up tn (rc + 1) d) (gm_up te (rc + 1) e1) (gm_up rs (rc + 1) e2) (upd tN (rc + 1) (nI d)) (upd tE (rc + 1) (nI e1)) (upd rE (rc + 1) (nI e2)) (upd bo (rc + 1) b) (upd go (rc + 1) g) (upd co (rc + 1) 0)
      (upd rT rc (nI d)) (upd yE rc (nI e1 - 1)) (upd rG rc g) (upd rN rc b) (upd rC rc 0) (upd rX rc (nI e2 - 1)) := by
  intro r h1 h2
  rcases Nat.lt_or_ge rc r with z | z
  · have e : r = rc + 1 := by omega
    subst e
    rw [Nat.add_sub_cancel]
    simp only [pk_us, gm_up_s]
    exact ⟨⟨trivial, trivial, trivial⟩, ⟨trivial, trivial, trivial⟩, ⟨trivial, trivial, trivial⟩⟩
  · have n1 : r ≠ rc + 1 := by omega
    have n2 : r - 1 ≠ rc := by omega
    simp only [pk_un n1, pk_un n2, gm_up_n n1]
    exact h r h1 z
theorem gr_rr_c {rc r0 : Nat} {x : Int32} {tn te rs : Nat → Nat} {tN tE rE bo go co rT yE rG rN rC rX : Nat → Int32} (h : gr_rr rc tn te rs tN tE rE bo go co rT yE rG rN rC rX) (h1 : 1 ≤ r0) :
    gr_rr rc tn te rs tN tE rE bo go (upd co r0 x) rT yE rG rN (upd rC (r0 - 1) x) rX := by
  intro r a b
  obtain ⟨p, q, s1, s2, s3⟩ := h r a b
  refine ⟨p, q, s1, s2, ?_⟩
  by_cases z : r = r0
  · subst z; rw [pk_us, pk_us]
  · rw [pk_un z, pk_un (by omega)]; exact s3
theorem gr_rr_r {rc : Nat} {tn te rs : Nat → Nat} {tN tE rE bo go co rT yE rG rN rC rX : Nat → Int32} (h : gr_rr rc tn te rs tN tE rE bo go co rT yE rG rN rC rX) (hrc : rc ≤ 32) : gr_rec (nI rc) (nI rc) bo go co rN rG rC := by
  refine ⟨rc, hrc, rfl, rfl, fun k hk => ?_⟩
  have := (h (k + 1) (by omega) (by omega)).2.2
  rw [Nat.add_sub_cancel] at this
  exact this
def gr_ff (kd : Nat → Nat) (n : Nat) (fm fw fe fK fA fE : Nat → Int32) : gm_Fr → Prop
  | [] => True
  | x :: R => fm R.length = nI x.1 ∧ fw R.length = x.2.1 ∧ fe R.length = nI x.2.2 ∧ fK R.length = nI (if x.1 = 0 then 7 else x.1) ∧ fA R.length = (if x.1 = 8 ∨ x.1 = 10 then nI (gp_ch kd n x.2.1.toNatClampNeg 1) else x.2.1) ∧ fE R.length = nI x.2.2 - 1 ∧ gr_ff kd n fm fw fe fK fA fE R
theorem gr_ff_k {kd : Nat → Nat} {n q : Nat} {fm fw fe fK fA fE : Nat → Int32} {a b c d e f : Int32} : ∀ {R : gm_Fr}, R.length ≤ q → gr_ff kd n fm fw fe fK fA fE R → gr_ff kd n (upd fm q a) (upd fw q b) (upd fe q c) (upd fK q d) (upd fA q e) (upd fE q f) R
  | [], _, _ => trivial
  | x :: R, hq, h => by
    simp only [List.length_cons] at hq
    have ne : R.length ≠ q := by omega
    obtain ⟨h1, h2, h3, h4, h5, h6, h7⟩ := h
    refine ⟨?_, ?_, ?_, ?_, ?_, ?_, gr_ff_k (by omega) h7⟩
    · rw [pk_un ne]; exact h1
    · rw [pk_un ne]; exact h2
    · rw [pk_un ne]; exact h3
    · rw [pk_un ne]; exact h4
    · rw [pk_un ne]; exact h5
    · rw [pk_un ne]; exact h6
theorem gr_ff_p {kd : Nat → Nat} {n : Nat} {fm fw fe fK fA fE : Nat → Int32} {R : gm_Fr} {m e : Nat} {w kk aa : Int32} (h : gr_ff kd n fm fw fe fK fA fE R) (hk : kk = nI (if m = 0 then 7 else m)) (ha : aa = (if m = 8 ∨ m = 10 then nI (gp_ch kd n w.toNatClampNeg 1) else w)) :
    gr_ff kd n (upd fm R.length (nI m)) (upd fw R.length w) (upd fe R.length (nI e)) (upd fK R.length kk) (upd fA R.length aa) (upd fE R.length (nI e - 1)) ((m, w, e) :: R) :=
  ⟨pk_us, pk_us, pk_us, by rw [pk_us]; exact hk, by rw [pk_us]; exact ha, pk_us, gr_ff_k (Nat.le_refl _) h⟩
theorem gr_out_0 (k : Nat) : gr_out k ≠ 0 ∧ gr_out k ≤ 6 := by
  unfold gr_out
  split
  · omega
  · split
    · omega
    · split
      · omega
      · split
        · omega
        · split <;> omega
section
variable {f_derefLimit f_recordLimit f_frameLimit f_nodeCount f_currentStatus f_faultNode f_typeCount f_currentNode f_currentEnv f_returning f_returnedNumber f_frameCount f_lastOutcome f_lastValue f_derefsMade f_recordsMade : Int32} {a_nodeKind a_nodeArg a_expectedPlaces a_nodeAtPlace a_placeOfNode a_variablesSeen a_nodeType a_gradeOfBinder a_variableType a_usage a_typeKind a_typeGrade a_typeLeft a_typeRight a_frameMark a_frameWord a_frameEnv a_thunkNode a_thunkEnv a_restOfEnv a_binderOfRecord a_gradeOfRecord a_countOfRecord : Nat → Int32}
theorem gx_fin {post : Int32 → SX → Prop} {f : Nat} {x o : Int32} (ho : ¬ o = 0) (h : post o (f_derefLimit, f_recordLimit, f_frameLimit, f_nodeCount, f_currentStatus, f_faultNode, f_typeCount, f_currentNode, f_currentEnv, f_returning, f_returnedNumber, f_frameCount, o, f_lastValue, f_derefsMade, f_recordsMade, a_nodeKind, a_nodeArg, a_expectedPlaces, a_nodeAtPlace, a_placeOfNode, a_variablesSeen, a_nodeType, a_gradeOfBinder, a_variableType, a_usage, a_typeKind, a_typeGrade, a_typeLeft, a_typeRight, a_frameMark, a_frameWord, a_frameEnv, a_thunkNode, a_thunkEnv, a_restOfEnv, a_binderOfRecord, a_gradeOfRecord, a_countOfRecord)) : wX_run_27 post (f + 1) x f_derefLimit f_recordLimit f_frameLimit f_nodeCount f_currentStatus f_faultNode f_typeCount f_currentNode f_currentEnv f_returning f_returnedNumber f_frameCount o f_lastValue f_derefsMade f_recordsMade a_nodeKind a_nodeArg a_expectedPlaces a_nodeAtPlace a_placeOfNode a_variablesSeen a_nodeType a_gradeOfBinder a_variableType a_usage a_typeKind a_typeGrade a_typeLeft a_typeRight a_frameMark a_frameWord a_frameEnv a_thunkNode a_thunkEnv a_restOfEnv a_binderOfRecord a_gradeOfRecord a_countOfRecord := br_c (fun _ => h) (fun _ => br_f ho h)
end

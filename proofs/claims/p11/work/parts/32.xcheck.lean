/-! what check answers, purely -/
def gc_syn (kd : Nat → Nat) (n m : Nat) : Prop := ((m < n ∧ gx_bad kd m) ∨ (m = n ∧ gp_S kd n ≠ [])) ∧ ∀ i, i < m → ¬ gx_bad kd i
def gc_sok (kd : Nat → Nat) (n : Nat) : Prop := (∀ i, i < n → ¬ gx_bad kd i) ∧ gp_S kd n = []
def gc_sc (kd : Nat → Nat) (ag : Nat → Int32) (n m : Nat) : Prop := gc_sok kd n ∧ m < n ∧ gx_sc kd ag m ∧ ∀ i, i < m → ¬ gx_sc kd ag i
def gc_R (kd : Nat → Nat) (ag : Nat → Int32) (n σ d : Nat) : Prop := (σ = 2 ∧ gc_syn kd n d) ∨ (σ = 3 ∧ gc_sc kd ag n d) ∨
  (gc_sok kd n ∧ (∀ i, i < n → ¬ gx_sc kd ag i) ∧ gt_P kd ag n ∧ ((¬ (gt_er kd ag n 0).1 = 0 ∧ (σ, d) = gt_er kd ag n 0) ∨ (σ = 1 ∧ d = 0 ∧ (gt_er kd ag n 0).1 = 0)))
theorem gc_syn_ok {kd : Nat → Nat} {n m : Nat} (h : gc_syn kd n m) (g : gc_sok kd n) : False := by
  rcases h.1 with ⟨a, b⟩ | ⟨a, b⟩
  · exact g.1 m a b
  · exact b g.2
theorem gc_syn_u {kd : Nat → Nat} {n m m' : Nat} (h : gc_syn kd n m) (g : gc_syn kd n m') : m = m' := by
  have key : ∀ {m m' : Nat}, gc_syn kd n m → gc_syn kd n m' → ¬ m < m' := by
    intro m m' h g hl
    rcases h.1 with ⟨a, b⟩ | ⟨a, b⟩
    · exact g.2 m hl b
    · rcases g.1 with ⟨c, d⟩ | ⟨c, d⟩ <;> omega
  have a := key h g
  have b := key g h
  omega
theorem gc_R_u {kd : Nat → Nat} {ag : Nat → Int32} {n σ d σ' d' : Nat} (h : gc_R kd ag n σ d) (g : gc_R kd ag n σ' d') : σ = σ' ∧ d = d' := by
  rcases h with ⟨h1, h2⟩ | ⟨h1, h2⟩ | ⟨h1, h2, h3, h4⟩
  · rcases g with ⟨g1, g2⟩ | ⟨g1, g2⟩ | ⟨g1, g2, g3, g4⟩
    · exact ⟨by omega, gc_syn_u h2 g2⟩
    · exact (gc_syn_ok h2 g2.1).elim
    · exact (gc_syn_ok h2 g1).elim
  · rcases g with ⟨g1, g2⟩ | ⟨g1, g2⟩ | ⟨g1, g2, g3, g4⟩
    · exact (gc_syn_ok g2 h2.1).elim
    · refine ⟨by omega, ?_⟩
      rcases Nat.lt_trichotomy d d' with z | z | z
      · exact absurd h2.2.2.1 (g2.2.2.2 d z)
      · exact z
      · exact absurd g2.2.2.1 (h2.2.2.2 d' z)
    · exact absurd h2.2.2.1 (g2 d h2.2.1)
  · rcases g with ⟨g1, g2⟩ | ⟨g1, g2⟩ | ⟨g1, g2, g3, g4⟩
    · exact (gc_syn_ok g2 h1).elim
    · exact absurd g2.2.2.1 (h2 d' g2.2.1)
    · rcases h4 with ⟨a, b⟩ | ⟨a, b, c⟩
      · rcases g4 with ⟨a', b'⟩ | ⟨a', b', c'⟩
        · have := b.trans b'.symm
          exact ⟨congrArg Prod.fst this, congrArg Prod.snd this⟩
        · exact absurd c' a
      · rcases g4 with ⟨a', b'⟩ | ⟨a', b', c'⟩
        · exact absurd c a'
        · exact ⟨by omega, by omega⟩
/-- what addNode keeps of kinds and arguments -/
def gc_prog (kd : Nat → Nat) (ag : Nat → Int32) (n : Nat) : Prop := n ≤ 32 ∧ (∀ i, i < n → 1 ≤ kd i ∧ kd i ≤ 17) ∧ (∀ i, i < n → kd i = 6 → ∃ j, j ≤ 31 ∧ ag i = nI j) ∧
  (∀ d, d < n → (kd d = 4 ∨ kd d = 5 ∨ kd d = 16) → ∃ g, g ≤ 2 ∧ ag d = nI g) ∧ (∀ d, d < n → (kd d = 9 ∨ kd d = 12 ∨ kd d = 15) → ∃ g, g ≤ 3 ∧ ag d = nI g) ∧ (∀ d, d < n → kd d ≤ 3 → ag d = 0)
theorem gc_ok {kd : Nat → Nat} {n : Nat} (hn : n ≤ 32) (h : gc_sok kd n) : gp_ok kd n := by
  refine ⟨?_, hn, fun i hi z => h.1 i hi (Or.inl z), h.2⟩
  rcases Nat.eq_zero_or_pos n with z | z
  · have := h.2
    rw [z] at this
    exact absurd this (by simp [gp_S])
  · exact z
theorem gc_P {kd : Nat → Nat} {ag : Nat → Int32} {n : Nat} (p : gc_prog kd ag n) (h : gc_sok kd n) (hs : ∀ i, i < n → ¬ gx_sc kd ag i) : gt_P kd ag n := by
  obtain ⟨p1, p2, p3, p4, p5, p6⟩ := p
  have ok := gc_ok p1 h
  have so : ∀ i, i < n → gx_so kd i (gp_pl kd i) := fun i hi => Classical.byContradiction fun z => h.1 i hi (Or.inr z)
  refine ⟨ok, ⟨?_, fun c c0 cn => ?_⟩, p2, fun d hd hk => ?_, p4, p5, p6⟩
  · have := so 0 ok.1
    unfold gx_so at this
    rw [gp_pl_0, if_pos rfl] at this
    exact this
  · have := so c cn
    have q := gp_pl_in ok cn c0
    unfold gx_so at this
    rw [if_neg (by omega)] at this
    exact this
  · obtain ⟨j, j1, j2⟩ := p3 d hd hk
    have sl := gp_sn_lt ok hd
    refine ⟨j, ?_, j2⟩
    rcases Nat.lt_or_ge j (gp_sn kd d) with z | z
    · exact z
    · refine absurd ⟨hk, ?_⟩ (hs d hd)
      rw [j2]
      exact nI_nlt z (by omega)
section
variable {f_derefLimit f_recordLimit f_frameLimit f_nodeCount f_currentStatus f_faultNode f_typeCount f_currentNode f_currentEnv f_returning f_returnedNumber f_frameCount f_lastOutcome f_lastValue f_derefsMade f_recordsMade : Int32} {a_nodeKind a_nodeArg a_expectedPlaces a_nodeAtPlace a_placeOfNode a_variablesSeen a_nodeType a_gradeOfBinder a_variableType a_usage a_typeKind a_typeGrade a_typeLeft a_typeRight a_frameMark a_frameWord a_frameEnv a_thunkNode a_thunkEnv a_restOfEnv a_binderOfRecord a_gradeOfRecord a_countOfRecord : Nat → Int32}
theorem gx_types {post : St2 → Prop} {kd : Nat → Nat} {n : Nat} (A : gt_P kd a_nodeArg n) (S : gx_S kd n a_nodeKind a_variablesSeen a_nodeAtPlace) (hPl : ∀ c, c < n → a_placeOfNode c = nI (gp_pl kd c))
    (hF : ¬ (gt_er kd a_nodeArg n 0).1 = 0 → ∀ tc nt gb vt us tk tg tl tr, post (f_derefLimit, f_recordLimit, f_frameLimit, nI n, nI (gt_er kd a_nodeArg n 0).1, nI (gt_er kd a_nodeArg n 0).2, tc, f_currentNode, f_currentEnv, f_returning, f_returnedNumber, f_frameCount, f_lastOutcome, f_lastValue, f_derefsMade, f_recordsMade, a_nodeKind, a_nodeArg, a_expectedPlaces, a_nodeAtPlace, a_placeOfNode, a_variablesSeen, nt, gb, vt, us, tk, tg, tl, tr, a_frameMark, a_frameWord, a_frameEnv, a_thunkNode, a_thunkEnv, a_restOfEnv, a_binderOfRecord, a_gradeOfRecord, a_countOfRecord))
    (hOK : (gt_er kd a_nodeArg n 0).1 = 0 → ∀ tc nt gb vt us tk tg tl tr, tc ≤ 32 → gx_TI kd a_nodeArg n (fun d => d < n) tc nt gb us (tk, tg, tl, tr) → post (f_derefLimit, f_recordLimit, f_frameLimit, nI n, 1, f_faultNode, nI tc, f_currentNode, f_currentEnv, f_returning, f_returnedNumber, f_frameCount, f_lastOutcome, f_lastValue, f_derefsMade, f_recordsMade, a_nodeKind, a_nodeArg, a_expectedPlaces, a_nodeAtPlace, a_placeOfNode, a_variablesSeen, nt, gb, vt, us, tk, tg, tl, tr, a_frameMark, a_frameWord, a_frameEnv, a_thunkNode, a_thunkEnv, a_restOfEnv, a_binderOfRecord, a_gradeOfRecord, a_countOfRecord)) :
    wpX_checkTypesAndGrades post (f_derefLimit, f_recordLimit, f_frameLimit, nI n, 1, f_faultNode, f_typeCount, f_currentNode, f_currentEnv, f_returning, f_returnedNumber, f_frameCount, f_lastOutcome, f_lastValue, f_derefsMade, f_recordsMade, a_nodeKind, a_nodeArg, a_expectedPlaces, a_nodeAtPlace, a_placeOfNode, a_variablesSeen, a_nodeType, a_gradeOfBinder, a_variableType, a_usage, a_typeKind, a_typeGrade, a_typeLeft, a_typeRight, a_frameMark, a_frameWord, a_frameEnv, a_thunkNode, a_thunkEnv, a_restOfEnv, a_binderOfRecord, a_gradeOfRecord, a_countOfRecord) := by
  have hA := A
  obtain ⟨ok, so, kr, -⟩ := A
  have hn := ok.2.1
  have h0 := ok.1
  have en0 := gp_en_0 ok
  refine ⟨n + 1, gx_down hA S hPl (n + 1) 0 (by omega) h0 (fun _ => False) 0 a_nodeType a_gradeOfBinder a_variableType a_usage a_typeKind a_typeGrade a_typeLeft a_typeRight 0 ⟨⟨by decide, fun i hi => by omega, fun i j hi => by omega⟩, fun d hd => hd.elim⟩
    (fun v hv => by rw [gp_sn_0] at hv; omega) (fun d hd => hd.elim) (by omega) (fun hpe => ?_) (fun hpe => ?_) (n + 1) (by omega)⟩
  · rw [gt_er_pe ok h0 hpe] at hF
    exact hF hpe
  · intro tc2 nt2 gb2 vt2 us2 tk2 tg2 tl2 tr2 I2 hv2 htc2 hx2 hd2 f2 g2 lv2 hf2 hlv2 hg2
    obtain ⟨er1, er2⟩ := gt_er_e2 ok h0 hpe
    cases g2 with
    | zero => omega
    | succ g2 =>
    refine br_f (nI_ge (b := 32) (by omega) (by decide)) (br_f (by decide) ?_)
    refine gx_complete hA S I2 h0 (fun i hi => Or.inr ?_) (fun z => by rcases z with z | z; exact z; omega) (by omega) (fun w hw => by rw [gp_sn_0] at hw; omega) (fun e0 => ?_) (fun e0 => ?_)
    · have b1 := gp_ch_ge ok h0 (Nat.le_of_lt hi)
      have b2 := (gp_ch_lt ok h0 hi).1
      omega
    · intro tc3 nt3 gb3 us3 tk3 tg3 tl3 tr3 I3 h31 h32 hx3
      try dsimp only
      refine ⟨vp_in_nI (by decide) (by decide), nm_e (br_t rfl ?_)⟩
      rw [nI_clamp (by decide), hPl 0 h0]
      refine br_t rfl (hOK (er1.trans e0) tc3 nt3 gb3 vt2 us3 tk3 tg3 tl3 tr3 (by omega) (gx_TI_iff (fun d hd => ?_) I3))
      rcases Nat.eq_zero_or_pos d with z | z
      · exact Or.inr z
      · exact Or.inl (Or.inr ⟨z, by omega⟩)
    · intro tc3 nt3 gb3 us3 tk3 tg3 tl3 tr3
      try dsimp only
      have ne1 : ¬ nI (gt_e2 kd a_nodeArg n 0) = 1 := by
        rcases gt_e2_45 (kd := kd) (ag := a_nodeArg) (n := n) (d := 0) with y | y | y
        · exact absurd y e0
        · rw [y]; decide
        · rw [y]; decide
      rw [er2 e0] at hF
      exact ⟨vp_in_nI (by decide) (by decide), nm_e (br_f ne1 (hF e0 _ _ _ _ _ _ _ _ _))⟩
/-- what the component holds once the check is well -/
def gx_CK (kd : Nat → Nat) (ag : Nat → Int32) (n tc : Nat) (nk vs np nt gb us : Nat → Int32) (T : gd_Tb) : Prop := tc ≤ 32 ∧ gm_A kd ag n ∧ gx_S kd n nk vs np ∧ gx_TI kd ag n (fun d => d < n) tc nt gb us T
theorem gx_check {post : Int32 → St2 → Prop} {kd : Nat → Nat} {n : Nat} (p : gc_prog kd a_nodeArg n) (hK : ∀ i, i < n → a_nodeKind i = nI (kd i))
    (h : ∀ σ d, gc_R kd a_nodeArg n σ d → ∀ fn tc ep np po vs nt gb vt us tk tg tl tr, (σ = 1 → fn = -1 ∧ ∃ c, tc = nI c ∧ gx_CK kd a_nodeArg n c a_nodeKind vs np nt gb us (tk, tg, tl, tr)) → (¬ σ = 1 → fn = nI d) →
      post (nI σ) (f_derefLimit, f_recordLimit, f_frameLimit, nI n, nI σ, fn, tc, f_currentNode, f_currentEnv, f_returning, f_returnedNumber, f_frameCount, 0, 0, 0, 0, a_nodeKind, a_nodeArg, ep, np, po, vs, nt, gb, vt, us, tk, tg, tl, tr, a_frameMark, a_frameWord, a_frameEnv, a_thunkNode, a_thunkEnv, a_restOfEnv, a_binderOfRecord, a_gradeOfRecord, a_countOfRecord)) :
    wpX_check post (f_derefLimit, f_recordLimit, f_frameLimit, nI n, f_currentStatus, f_faultNode, f_typeCount, f_currentNode, f_currentEnv, f_returning, f_returnedNumber, f_frameCount, f_lastOutcome, f_lastValue, f_derefsMade, f_recordsMade, a_nodeKind, a_nodeArg, a_expectedPlaces, a_nodeAtPlace, a_placeOfNode, a_variablesSeen, a_nodeType, a_gradeOfBinder, a_variableType, a_usage, a_typeKind, a_typeGrade, a_typeLeft, a_typeRight, a_frameMark, a_frameWord, a_frameEnv, a_thunkNode, a_thunkEnv, a_restOfEnv, a_binderOfRecord, a_gradeOfRecord, a_countOfRecord) := by
  have hn := p.1
  have hK' : ∀ i, i < n → a_nodeKind i = nI (kd i) ∧ 1 ≤ kd i ∧ kd i ≤ 17 := fun i hi => ⟨hK i hi, p.2.1 i hi⟩
  unfold wpX_check
  try dsimp only
  unfold wpX_clearRunResults
  try dsimp only
  refine gx_shape hn hK' (fun hb hS ep np po vs hQ => ?_) (fun m hm hb ep np po vs => ?_)
  · have sok : gc_sok kd n := ⟨hb, hS⟩
    have ok := gc_ok hn sok
    have Q := hQ ok
    refine br_t rfl (gx_scope hn hK' (fun i hi => (Q i hi).2.2) (fun hs => ?_) (fun m hm hs hb2 => ?_))
    · have A := gc_P p sok hs
      have S : gx_S kd n a_nodeKind vs np := ⟨hK, fun i hi => (Q i hi).2.2, fun i hi j hj => by
        obtain ⟨c1, c2⟩ := gp_ch_lt ok hi hj
        rw [← c2]
        exact (Q _ c1).1⟩
      refine br_t rfl (gx_types A S (fun c hc => (Q c hc).2.1) (fun he tc nt gb vt us tk tg tl tr => ?_) (fun he tc nt gb vt us tk tg tl tr htc I => ?_))
      · have ne1 : ¬ (gt_er kd a_nodeArg n 0).1 = 1 := by
          rcases gt_er_45 (ag := a_nodeArg) ok (n + 1) 0 (by omega) ok.1 with y | y | y <;> omega
        exact h _ _ (Or.inr (Or.inr ⟨sok, hs, A, Or.inl ⟨he, rfl⟩⟩)) _ tc ep np po vs nt gb vt us tk tg tl tr (fun z => absurd z ne1) (fun _ => rfl)
      · exact h 1 0 (Or.inr (Or.inr ⟨sok, hs, A, Or.inr ⟨rfl, rfl, he⟩⟩)) _ _ ep np po vs nt gb vt us tk tg tl tr (fun _ => ⟨rfl, tc, rfl, htc, gm_A_of A he, S, I⟩) (fun z => absurd rfl z)
    · exact br_f (show ¬ (3 : Int32) = 1 by decide) (h 3 m (Or.inr (Or.inl ⟨rfl, sok, hm, hs, hb2⟩)) _ _ ep np po vs _ _ _ _ _ _ _ _ (fun z => absurd z (by decide)) (fun _ => rfl))
  · exact br_f (show ¬ (2 : Int32) = 1 by decide) (br_f (show ¬ (2 : Int32) = 1 by decide) (h 2 m (Or.inl ⟨rfl, hm, hb⟩) _ _ ep np po vs _ _ _ _ _ _ _ _ (fun z => absurd z (by decide)) (fun _ => rfl)))
end

/-- what the component holds of the nodes in P -/
def gx_TI (kd : Nat → Nat) (ag : Nat → Int32) (n : Nat) (P : Nat → Prop) (tc : Nat) (nt gb us : Nat → Int32) (T : gd_Tb) : Prop := gd_xt T tc ∧ ∀ d, P d → d < n ∧ (∃ x, x < tc ∧ nt d = nI x ∧ gd_D T x = gt_t kd ag n d) ∧
  (¬ kd d ≤ 5 → ∀ v, v < gp_sn kd d → us (d * 32 + v) = nI (gt_u kd ag n d v)) ∧ ((kd d = 9 ∨ kd d = 12 ∨ kd d = 15 ∨ kd d = 17) → gb d = nI (gt_b kd ag n d))
theorem gx_TI_add {kd : Nat → Nat} {ag : Nat → Int32} {n t tc tc' x : Nat} {P : Nat → Prop} {nt gb us gb' us' : Nat → Int32} {T T' : gd_Tb} (ok : gp_ok kd n) (I : gx_TI kd ag n P tc nt gb us T) (ht : t < n) (hnP : ¬ P t)
    (htc : tc ≤ tc') (hT : gd_xt T' tc') (he : gd_ext T T' tc) (hx : x < tc') (hD : gd_D T' x = gt_t kd ag n t) (hu : ∀ i, (i < t * 32 ∨ t * 32 + 32 ≤ i) → us' i = us i)
    (hut : ¬ kd t ≤ 5 → ∀ v, v < gp_sn kd t → us' (t * 32 + v) = nI (gt_u kd ag n t v)) (hg : ∀ i, i ≠ t → gb' i = gb i) (hgt : (kd t = 9 ∨ kd t = 12 ∨ kd t = 15 ∨ kd t = 17) → gb' t = nI (gt_b kd ag n t)) :
    gx_TI kd ag n (fun d => P d ∨ d = t) tc' (upd nt t (nI x)) gb' us' T' := by
  refine ⟨hT, fun d hd => ?_⟩
  rcases hd with hd | hd
  · have ne : d ≠ t := fun z => by rw [z] at hd; exact hnP hd
    obtain ⟨a, ⟨y, b1, b2, b3⟩, c, e⟩ := I.2 d hd
    refine ⟨a, ⟨y, by omega, by rw [pk_un ne]; exact b2, by rw [gd_ext_D I.1 he b1]; exact b3⟩, fun k v hv => ?_, fun k => by rw [hg d ne]; exact e k⟩
    have := gp_sn_lt ok a
    have := ok.2.1
    rw [hu _ (by omega)]
    exact c k v hv
  · subst hd
    exact ⟨ht, ⟨x, hx, pk_us, hD⟩, hut, hgt⟩
def gx_S (kd : Nat → Nat) (n : Nat) (nk vs np : Nat → Int32) : Prop := (∀ i, i < n → nk i = nI (kd i)) ∧ (∀ i, i < n → vs i = nI (gp_sn kd i)) ∧ (∀ i, i < n → ∀ j, j < gp_ar (kd i) → np (3 * i + j) = nI (gp_ch kd n i j))
theorem gx_chf {kd : Nat → Nat} {n t j : Nat} {nk vs np : Nat → Int32} (ok : gp_ok kd n) (S : gx_S kd n nk vs np) (ht : t < n) (hj : j < gp_ar (kd t)) : gp_ch kd n t j < 32 ∧ gp_ch kd n t j ≠ t ∧ np (3 * t + j) = nI (gp_ch kd n t j) ∧ j ≤ 2 := by
  have a := (gp_ch_lt ok ht hj).1
  have b := gp_ch_ge ok ht (Nat.le_of_lt hj)
  have c := ok.2.1
  have d := gp_ar_le (kd t)
  exact ⟨by omega, by omega, S.2.2 t ht j hj, by omega⟩
section
variable {f_derefLimit f_recordLimit f_frameLimit f_nodeCount f_currentStatus f_faultNode f_typeCount f_currentNode f_currentEnv f_returning f_returnedNumber f_frameCount f_lastOutcome f_lastValue f_derefsMade f_recordsMade : Int32} {a_nodeKind a_nodeArg a_expectedPlaces a_nodeAtPlace a_placeOfNode a_variablesSeen a_nodeType a_gradeOfBinder a_variableType a_usage a_typeKind a_typeGrade a_typeLeft a_typeRight a_frameMark a_frameWord a_frameEnv a_thunkNode a_thunkEnv a_restOfEnv a_binderOfRecord a_gradeOfRecord a_countOfRecord : Nat → Int32}
theorem gx_cType {post : St2 → Prop} {kd : Nat → Nat} {n t tc : Nat} {P : Nat → Prop} (A : gt_P kd a_nodeArg n) (S : gx_S kd n a_nodeKind a_variablesSeen a_nodeAtPlace) (I : gx_TI kd a_nodeArg n P tc a_nodeType a_gradeOfBinder a_usage (a_typeKind, a_typeGrade, a_typeLeft, a_typeRight)) (ht : t < n) (hc : ∀ j, j < gp_ar (kd t) → P (gp_ch kd n t j)) (hnP : ¬ P t) (htc : tc < 32) (hk : kd t ≤ 5) (hOK : ∀ tc' nt gb us tk tg tl tr, gx_TI kd a_nodeArg n (fun d => P d ∨ d = t) tc' nt gb us (tk, tg, tl, tr) → tc ≤ tc' → tc' ≤ tc + 1 → gd_ext (a_typeKind, a_typeGrade, a_typeLeft, a_typeRight) (tk, tg, tl, tr) tc → post (f_derefLimit, f_recordLimit, f_frameLimit, f_nodeCount, f_currentStatus, f_faultNode, nI tc', f_currentNode, f_currentEnv, f_returning, f_returnedNumber, f_frameCount, f_lastOutcome, f_lastValue, f_derefsMade, f_recordsMade, a_nodeKind, a_nodeArg, a_expectedPlaces, a_nodeAtPlace, a_placeOfNode, a_variablesSeen, nt, gb, a_variableType, us, tk, tg, tl, tr, a_frameMark, a_frameWord, a_frameEnv, a_thunkNode, a_thunkEnv, a_restOfEnv, a_binderOfRecord, a_gradeOfRecord, a_countOfRecord)) :
    wpX_completeType post (f_derefLimit, f_recordLimit, f_frameLimit, f_nodeCount, f_currentStatus, f_faultNode, nI tc, f_currentNode, f_currentEnv, f_returning, f_returnedNumber, f_frameCount, f_lastOutcome, f_lastValue, f_derefsMade, f_recordsMade, a_nodeKind, a_nodeArg, a_expectedPlaces, a_nodeAtPlace, a_placeOfNode, a_variablesSeen, a_nodeType, a_gradeOfBinder, a_variableType, a_usage, a_typeKind, a_typeGrade, a_typeLeft, a_typeRight, a_frameMark, a_frameWord, a_frameEnv, a_thunkNode, a_thunkEnv, a_restOfEnv, a_binderOfRecord, a_gradeOfRecord, a_countOfRecord) (nI t) := by
  obtain ⟨ok, so, kr, -⟩ := A
  have hn := ok.2.1
  have t32 : t < 32 := by omega
  have v := vp_in_nI t32 (by decide)
  have et : (nI t).toNatClampNeg = t := nI_clamp (by omega)
  have k1 := (kr t ht).1
  unfold wpX_completeType
  try dsimp only
  rw [et, S.1 t ht]
  refine ⟨v, nm_e (gx_cc k1 (kr t ht).2 ?_)⟩
  have fin : ∀ {l r : Int32} {τl τr : gt_Ty}, (¬ nI (kd t) = 1 → ∃ a, a < tc ∧ l = nI a ∧ gd_D (a_typeKind, a_typeGrade, a_typeLeft, a_typeRight) a = τl) → (¬ nI (kd t) = 1 → ¬ nI (kd t) = 5 → ∃ b, b < tc ∧ r = nI b ∧ gd_D (a_typeKind, a_typeGrade, a_typeLeft, a_typeRight) b = τr) →
      (nI (kd t) = 1 → l = 0 ∧ r = 0) → (nI (kd t) = 5 → r = 0) → gt_t kd a_nodeArg n t = gt_mk (nI (kd t)) (a_nodeArg t) τl τr → wX_completeType_43 post (nI t) (nI (kd t)) l r f_derefLimit f_recordLimit f_frameLimit f_nodeCount f_currentStatus f_faultNode (nI tc) f_currentNode f_currentEnv f_returning f_returnedNumber f_frameCount f_lastOutcome f_lastValue f_derefsMade f_recordsMade a_nodeKind a_nodeArg a_expectedPlaces a_nodeAtPlace a_placeOfNode a_variablesSeen a_nodeType a_gradeOfBinder a_variableType a_usage a_typeKind a_typeGrade a_typeLeft a_typeRight a_frameMark a_frameWord a_frameEnv a_thunkNode a_thunkEnv a_restOfEnv a_binderOfRecord a_gradeOfRecord a_countOfRecord := by
    intro l r τl τr h1 h2 h3 h4 e
    unfold wX_completeType_43
    try rw [et]
    refine ⟨v, gx_tn htc I.1 h1 h2 h3 h4 (fun x tc' tk tg tl tr hx a1 a2 a3 a4 a5 => ?_)⟩
    exact ⟨v, nm_e (hOK tc' _ _ _ tk tg tl tr (gx_TI_add ok I ht hnP a1 a3 a4 hx (a5.trans e.symm) (fun _ _ => rfl) (fun z => absurd hk z) (fun _ _ => rfl) (fun z => by omega)) a1 a2 a4)⟩
  have hk' : kd t = 1 ∨ kd t = 5 ∨ kd t = 2 ∨ kd t = 3 ∨ kd t = 4 := by omega
  rcases hk' with e | e | e
  · rw [e] at fin ⊢
    refine br_t (by decide) (br_t (by decide) (fin (τl := fun _ => none) (τr := fun _ => none) (fun z => absurd rfl z) (fun z => absurd rfl z) (fun _ => ⟨rfl, rfl⟩) (fun _ => rfl) ?_))
    exact gt_q1 e _ _
  · obtain ⟨c1, c2, c3, c4⟩ := gx_chf ok S ht (j := 0) (by rw [e]; decide)
    obtain ⟨_, ⟨x, x1, x2, x3⟩, _⟩ := I.2 _ (hc 0 (by rw [e]; decide))
    rw [e] at fin ⊢
    refine br_f (by decide) (gx_tc (j := 0) t32 c4 c3 c1 ?_)
    rw [x2]
    refine br_t (by decide) (fin (τr := fun _ => none) (fun _ => ⟨x, x1, rfl, x3⟩) (fun _ z => absurd rfl z) (fun z => absurd z (by decide)) (fun _ => rfl) ?_)
    exact gt_q5 ok ht e _
  · have ar : gp_ar (kd t) = 2 := by rcases e with e | e | e <;> rw [e] <;> decide
    obtain ⟨c1, c2, c3, c4⟩ := gx_chf ok S ht (j := 0) (by omega)
    obtain ⟨d1, d2, d3, d4⟩ := gx_chf ok S ht (j := 1) (by omega)
    obtain ⟨_, ⟨x, x1, x2, x3⟩, _⟩ := I.2 _ (hc 0 (by omega))
    obtain ⟨_, ⟨y, y1, y2, y3⟩, _⟩ := I.2 _ (hc 1 (by omega))
    rw [ar]
    refine br_f (by decide) (gx_tc (j := 0) t32 c4 c3 c1 ?_)
    rw [x2]
    refine br_f (by decide) (gx_tc (j := 1) t32 d4 d3 d1 ?_)
    rw [y2]
    have n1 : ¬ nI (kd t) = 1 := by rcases e with e | e | e <;> rw [e] <;> decide
    have n5 : ¬ nI (kd t) = 5 := by rcases e with e | e | e <;> rw [e] <;> decide
    refine fin (fun _ => ⟨x, x1, rfl, x3⟩) (fun _ _ => ⟨y, y1, rfl, y3⟩) (fun z => absurd z n1) (fun z => absurd z n5) ?_
    rcases e with e | e | e
    · rw [e]; exact gt_q2 ok ht e
    · rw [e]; exact gt_q3 ok ht e
    · rw [e]; exact gt_q4 ok ht e
end

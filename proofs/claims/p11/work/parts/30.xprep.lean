section
variable {f_derefLimit f_recordLimit f_frameLimit f_nodeCount f_currentStatus f_faultNode f_typeCount f_currentNode f_currentEnv f_returning f_returnedNumber f_frameCount f_lastOutcome f_lastValue f_derefsMade f_recordsMade : Int32} {a_nodeKind a_nodeArg a_expectedPlaces a_nodeAtPlace a_placeOfNode a_variablesSeen a_nodeType a_gradeOfBinder a_variableType a_usage a_typeKind a_typeGrade a_typeLeft a_typeRight a_frameMark a_frameWord a_frameEnv a_thunkNode a_thunkEnv a_restOfEnv a_binderOfRecord a_gradeOfRecord a_countOfRecord : Nat → Int32}
theorem gx_prep {post : St2 → Prop} {kd : Nat → Nat} {n t j tc : Nat} {P : Nat → Prop} (A : gt_P kd a_nodeArg n) (S : gx_S kd n a_nodeKind a_variablesSeen a_nodeAtPlace) (I : gx_TI kd a_nodeArg n P tc a_nodeType a_gradeOfBinder a_usage (a_typeKind, a_typeGrade, a_typeLeft, a_typeRight)) (ht : t < n) (hj : j < gp_ar (kd t)) (hc : P (gp_ch kd n t 0)) (htc : tc ≤ 32)
    (hVI : ∀ v, v < gp_sn kd t → ∃ x, x < tc ∧ a_variableType v = nI x ∧ gd_D (a_typeKind, a_typeGrade, a_typeLeft, a_typeRight) x = gt_G kd a_nodeArg n t v) (he : 0 < j → gt_e1 kd a_nodeArg n t = 0)
    (hOK : gt_e1 kd a_nodeArg n t = 0 → ∀ vt, (∀ v, v < gp_sn kd t → vt v = a_variableType v) → (j + 1 < gp_ar (kd t) → ∀ v, v < gp_sn kd (gp_ch kd n t (j + 1)) → ∃ x, x < tc ∧ vt v = nI x ∧ gd_D (a_typeKind, a_typeGrade, a_typeLeft, a_typeRight) x = gt_G kd a_nodeArg n (gp_ch kd n t (j + 1)) v) → post (f_derefLimit, f_recordLimit, f_frameLimit, f_nodeCount, f_currentStatus, f_faultNode, f_typeCount, f_currentNode, f_currentEnv, f_returning, f_returnedNumber, f_frameCount, f_lastOutcome, f_lastValue, f_derefsMade, f_recordsMade, a_nodeKind, a_nodeArg, a_expectedPlaces, a_nodeAtPlace, a_placeOfNode, a_variablesSeen, a_nodeType, a_gradeOfBinder, vt, a_usage, a_typeKind, a_typeGrade, a_typeLeft, a_typeRight, a_frameMark, a_frameWord, a_frameEnv, a_thunkNode, a_thunkEnv, a_restOfEnv, a_binderOfRecord, a_gradeOfRecord, a_countOfRecord))
    (hF : j = 0 → ¬ gt_e1 kd a_nodeArg n t = 0 → post (f_derefLimit, f_recordLimit, f_frameLimit, f_nodeCount, 4, nI t, f_typeCount, f_currentNode, f_currentEnv, f_returning, f_returnedNumber, f_frameCount, f_lastOutcome, f_lastValue, f_derefsMade, f_recordsMade, a_nodeKind, a_nodeArg, a_expectedPlaces, a_nodeAtPlace, a_placeOfNode, a_variablesSeen, a_nodeType, a_gradeOfBinder, a_variableType, a_usage, a_typeKind, a_typeGrade, a_typeLeft, a_typeRight, a_frameMark, a_frameWord, a_frameEnv, a_thunkNode, a_thunkEnv, a_restOfEnv, a_binderOfRecord, a_gradeOfRecord, a_countOfRecord)) : wpX_prepareNextChild post (f_derefLimit, f_recordLimit, f_frameLimit, f_nodeCount, f_currentStatus, f_faultNode, f_typeCount, f_currentNode, f_currentEnv, f_returning, f_returnedNumber, f_frameCount, f_lastOutcome, f_lastValue, f_derefsMade, f_recordsMade, a_nodeKind, a_nodeArg, a_expectedPlaces, a_nodeAtPlace, a_placeOfNode, a_variablesSeen, a_nodeType, a_gradeOfBinder, a_variableType, a_usage, a_typeKind, a_typeGrade, a_typeLeft, a_typeRight, a_frameMark, a_frameWord, a_frameEnv, a_thunkNode, a_thunkEnv, a_restOfEnv, a_binderOfRecord, a_gradeOfRecord, a_countOfRecord) (nI t) (nI j) := by
  have hA := A
  obtain ⟨ok, so, kr, -⟩ := A
  have hn := ok.2.1
  have t32 : t < 32 := by omega
  have v := vp_in_nI t32 (by decide)
  have et : (nI t).toNatClampNeg = t := nI_clamp (by omega)
  have sl := gp_sn_lt ok ht
  have k1 := (kr t ht).1
  have k17 := (kr t ht).2
  have a3 := gp_ar_le (kd t)
  have ar0 : 0 < gp_ar (kd t) := by omega
  obtain ⟨c1, c2, c3, c4⟩ := gx_chf ok S ht ar0
  obtain ⟨_, ⟨x, x1, x2, x3⟩, _⟩ := I.2 _ hc
  have ex : (nI x).toNatClampNeg = x := nI_clamp (by omega)
  have vx := vp_in_nI (show x < 32 by omega) (by decide)
  have es : (nI (gp_sn kd t)).toNatClampNeg = gp_sn kd t := nI_clamp (by omega)
  have vs := vp_in_nI (show gp_sn kd t < 32 by omega) (by decide)
  have kx := (gd_k x3).1
  dsimp only at kx
  have none : gp_bd (kd t) (j + 1) = 0 → gt_e1 kd a_nodeArg n t = 0 → post (f_derefLimit, f_recordLimit, f_frameLimit, f_nodeCount, f_currentStatus, f_faultNode, f_typeCount, f_currentNode, f_currentEnv, f_returning, f_returnedNumber, f_frameCount, f_lastOutcome, f_lastValue, f_derefsMade, f_recordsMade, a_nodeKind, a_nodeArg, a_expectedPlaces, a_nodeAtPlace, a_placeOfNode, a_variablesSeen, a_nodeType, a_gradeOfBinder, a_variableType, a_usage, a_typeKind, a_typeGrade, a_typeLeft, a_typeRight, a_frameMark, a_frameWord, a_frameEnv, a_thunkNode, a_thunkEnv, a_restOfEnv, a_binderOfRecord, a_gradeOfRecord, a_countOfRecord) := fun hb h0 =>
    hOK h0 a_variableType (fun _ _ => rfl) (fun hj1 w hw => by
      rw [gp_sn_ch ok ht hj1, hb] at hw
      rw [gt_G_up ok ht hj1 (by omega)]
      exact hVI w (by omega))
  have last : ¬ j + 1 < gp_ar (kd t) → gt_e1 kd a_nodeArg n t = 0 → ∀ vt, (∀ w, w < gp_sn kd t → vt w = a_variableType w) → post (f_derefLimit, f_recordLimit, f_frameLimit, f_nodeCount, f_currentStatus, f_faultNode, f_typeCount, f_currentNode, f_currentEnv, f_returning, f_returnedNumber, f_frameCount, f_lastOutcome, f_lastValue, f_derefsMade, f_recordsMade, a_nodeKind, a_nodeArg, a_expectedPlaces, a_nodeAtPlace, a_placeOfNode, a_variablesSeen, a_nodeType, a_gradeOfBinder, vt, a_usage, a_typeKind, a_typeGrade, a_typeLeft, a_typeRight, a_frameMark, a_frameWord, a_frameEnv, a_thunkNode, a_thunkEnv, a_restOfEnv, a_binderOfRecord, a_gradeOfRecord, a_countOfRecord) := fun hl h0 vt h =>
    hOK h0 vt h (fun z => absurd z hl)
  unfold wpX_prepareNextChild
  try dsimp only
  rw [et, S.2.1 t ht, S.1 t ht]
  refine ⟨v, nm_e (gx_tc (j := 0) t32 c4 c3 c1 ?_)⟩
  rw [x2]
  refine ⟨v, nm_e ?_⟩
  have e1z : kd t ≠ 12 ∧ kd t ≠ 15 ∧ kd t ≠ 17 → gt_e1 kd a_nodeArg n t = 0 := fun z => gt_if_f (by omega)
  have bdz : kd t ≠ 9 ∧ kd t ≠ 12 ∧ kd t ≠ 15 ∧ kd t ≠ 17 → gp_bd (kd t) (j + 1) = 0 := fun z => by
    unfold gp_bd; rw [if_neg (by omega), if_neg (by omega), if_neg (by omega)]
  by_cases h9 : kd t < 9
  · exact pk_lt (kd t) 9 (fun _ => none (bdz (by omega)) (e1z (by omega))) (fun z => by omega)
  have hcase : kd t = 9 ∨ kd t = 10 ∨ kd t = 11 ∨ kd t = 12 ∨ kd t = 13 ∨ kd t = 14 ∨ kd t = 15 ∨ kd t = 16 ∨ kd t = 17 := by omega
  rcases hcase with e | e | e | e | e | e | e | e | e
  · rw [e]
    refine br_f (by decide) (br_f (by decide) (br_t (by decide) ?_))
    rw [es]
    refine ⟨vs, nm_e (hOK (e1z (by omega)) _ (fun w hw => pk_un (by omega)) (fun hj1 w hw => ?_))⟩
    have ej : j = 0 := by rw [e] at hj1; have : gp_ar 9 = 2 := by decide
                          omega
    subst ej
    rw [gp_sn_ch ok ht hj1, e, show gp_bd 9 (0 + 1) = 1 by decide] at hw
    rcases Nat.lt_or_ge w (gp_sn kd t) with z | z
    · rw [gt_G_up ok ht hj1 z, pk_un (by omega)]
      exact hVI w z
    · have ew : w = gp_sn kd t := by omega
      subst ew
      rw [gt_G_new ok ht hj1 (Nat.le_refl _), pk_us]
      refine ⟨x, x1, rfl, ?_⟩
      rw [x3, e]; rfl
  · rw [e]
    refine br_f (by decide) (br_f (by decide) (br_f (by decide) (br_t (by decide) ?_)))
    exact none (bdz (by omega)) (e1z (by omega))
  · rw [e]
    refine br_f (by decide) (br_f (by decide) (br_f (by decide) (br_f (by decide) (br_t (by decide) ?_))))
    exact none (bdz (by omega)) (e1z (by omega))
  · have e1 := e
    rw [e]
    refine br_f (by decide) (br_f (by decide) (br_f (by decide) (br_f (by decide) (br_f (by decide) (br_t (by decide) ?_)))))
    have ar2 : gp_ar (kd t) = 2 := by rw [e1]; decide
    refine pk_eq j 0 (fun z => ?_) (fun z => ?_)
    · subst z
      refine gx_nk (by omega) (fun k2 => br_f (by decide) ?_) (fun k2 => br_t rfl (hF rfl (by rw [show gt_e1 kd a_nodeArg n t = 4 from gt_if_t (Or.inl ⟨e1, fun y => k2 (kx.trans y)⟩)]; decide)))
      have n1 : ¬ (a_typeKind x = 1) := by rw [k2]; decide
      have n5 : ¬ (a_typeKind x = 5) := by rw [k2]; decide
      have L := gd_xL (by omega) (I.1.2.1 x x1) n1
      have R := gd_xR (by omega) (I.1.2.1 x x1) n1 n5
      have tl := gd_l x3 n1
      have tr := gd_r x3 n1 n5
      have L2 := L.2
      have R2 := R.2
      dsimp only at L2 R2
      have cl := gp_sn_lt ok (gp_ch_lt ok ht (j := 1) (by omega)).1
      rw [gp_sn_ch ok ht (j := 1) (by omega), e1, show gp_bd 12 1 = 2 by decide] at cl
      have cn := (gp_ch_lt ok ht (j := 1) (by omega)).1
      try dsimp only
      rw [ex, es, nI_1, nI_clamp (show gp_sn kd t + 1 < 2 ^ 31 by omega), L2, R2]
      have e0 : gt_e1 kd a_nodeArg n t = 0 := gt_if_f (by
        rintro (⟨_, y⟩ | ⟨y, _⟩ | ⟨y, _⟩)
        · exact y (kx.symm.trans k2)
        · omega
        · omega)
      refine ⟨vx, vs, nm_e ⟨vx, vp_in_nI (by omega) (by decide), nm_e (hOK e0 _ (fun w hw => by rw [pk_un (by omega), pk_un (by omega)]) (fun hj1 w hw => ?_))⟩⟩
      rw [gp_sn_ch ok ht hj1, e1, show gp_bd 12 (0 + 1) = 2 by decide] at hw
      rcases Nat.lt_or_ge w (gp_sn kd t) with z | z
      · rw [gt_G_up ok ht hj1 z, pk_un (by omega), pk_un (by omega)]
        exact hVI w z
      · rw [gt_G_new ok ht hj1 z, e1]
        rcases Nat.lt_or_ge (gp_sn kd t) w with y | y
        · have ew : w = gp_sn kd t + 1 := by omega
          subst ew
          rw [pk_us, show gp_sn kd t + 1 - gp_sn kd t = 1 by omega]
          exact ⟨_, by omega, rfl, tr⟩
        · have ew : w = gp_sn kd t := by omega
          subst ew
          rw [pk_un (by omega), pk_us, Nat.sub_self]
          exact ⟨_, by omega, rfl, tl⟩
    · exact last (by omega) (he (by omega)) a_variableType (fun _ _ => rfl)
  · rw [e]
    refine br_f (by decide) (br_f (by decide) (br_f (by decide) (br_f (by decide) (br_f (by decide) (br_f (by decide) (br_t (by decide) ?_))))))
    exact none (bdz (by omega)) (e1z (by omega))
  · rw [e]
    refine br_f (by decide) (br_f (by decide) (br_f (by decide) (br_f (by decide) (br_f (by decide) (br_f (by decide) (br_f (by decide) (br_t (by decide) ?_)))))))
    exact none (bdz (by omega)) (e1z (by omega))
  · have e1 := e
    rw [e]
    refine br_f (by decide) (br_f (by decide) (br_f (by decide) (br_f (by decide) (br_f (by decide) (br_f (by decide) (br_f (by decide) (br_f (by decide) (br_t (by decide) ?_))))))))
    have ar3 : gp_ar (kd t) = 3 := by rw [e1]; decide
    refine pk_lt 0 j (fun z => ?_) (fun z => ?_)
    · have h0 := he z
      have k3 : a_typeKind x = 3 := kx.trans ((gt_e1_0 h0).2.1 e1)
      have n1 : ¬ (a_typeKind x = 1) := by rw [k3]; decide
      have n5 : ¬ (a_typeKind x = 5) := by rw [k3]; decide
      have R := gd_xR (by omega) (I.1.2.1 x x1) n1 n5
      have tr := gd_r x3 n1 n5
      have R2 := R.2
      dsimp only at R2
      refine br_f (nI_ne0 z (by omega)) ?_
      try dsimp only
      rw [ex, es, R2]
      refine ⟨vx, vs, nm_e (hOK h0 _ (fun w hw => pk_un (by omega)) (fun hj1 w hw => ?_))⟩
      have ej : j = 1 := by omega
      subst ej
      rw [gp_sn_ch ok ht hj1, e1, show gp_bd 15 (1 + 1) = 1 by decide] at hw
      rcases Nat.lt_or_ge w (gp_sn kd t) with z | z
      · rw [gt_G_up ok ht hj1 z, pk_un (by omega)]
        exact hVI w z
      · have ew : w = gp_sn kd t := by omega
        subst ew
        rw [gt_G_new ok ht hj1 (Nat.le_refl _), pk_us, e1]
        exact ⟨_, by omega, rfl, tr⟩
    · have ej : j = 0 := by omega
      subst ej
      refine gx_nk (by omega) (fun k3 => br_f (by decide) (br_t rfl ?_)) (fun k3 => br_t rfl (hF rfl (by rw [show gt_e1 kd a_nodeArg n t = 4 from gt_if_t (Or.inr (Or.inl ⟨e1, fun y => k3 (kx.trans y)⟩))]; decide)))
      have n1 : ¬ (a_typeKind x = 1) := by rw [k3]; decide
      have L := gd_xL (by omega) (I.1.2.1 x x1) n1
      have tl := gd_l x3 n1
      have L2 := L.2
      dsimp only at L2
      have e0 : gt_e1 kd a_nodeArg n t = 0 := gt_if_f (by
        rintro (⟨y, _⟩ | ⟨_, y⟩ | ⟨y, _⟩)
        · omega
        · exact y (kx.symm.trans k3)
        · omega)
      try dsimp only
      rw [ex, es, L2]
      refine ⟨vx, vs, nm_e (hOK e0 _ (fun w hw => pk_un (by omega)) (fun hj1 w hw => ?_))⟩
      rw [gp_sn_ch ok ht hj1, e1, show gp_bd 15 (0 + 1) = 1 by decide] at hw
      rcases Nat.lt_or_ge w (gp_sn kd t) with z | z
      · rw [gt_G_up ok ht hj1 z, pk_un (by omega)]
        exact hVI w z
      · have ew : w = gp_sn kd t := by omega
        subst ew
        rw [gt_G_new ok ht hj1 (Nat.le_refl _), pk_us, e1]
        exact ⟨_, by omega, rfl, tl⟩
  · rw [e]
    refine br_f (by decide) (br_f (by decide) (br_f (by decide) (br_f (by decide) (br_f (by decide) (br_f (by decide) (br_f (by decide) (br_f (by decide) (br_f (by decide) (br_t (by decide) ?_)))))))))
    exact none (bdz (by omega)) (e1z (by omega))
  · have e1 := e
    rw [e]
    refine br_f (by decide) (br_f (by decide) (br_f (by decide) (br_f (by decide) (br_f (by decide) (br_f (by decide) (br_f (by decide) (br_f (by decide) (br_f (by decide) (br_f (by decide) (br_t (by decide) ?_))))))))))
    have ar2 : gp_ar (kd t) = 2 := by rw [e1]; decide
    refine pk_eq j 0 (fun z => ?_) (fun z => ?_)
    · subst z
      refine gx_nk (by omega) (fun k5 => br_f (by decide) ?_) (fun k5 => br_t rfl (hF rfl (by rw [show gt_e1 kd a_nodeArg n t = 4 from gt_if_t (Or.inr (Or.inr ⟨e1, fun y => k5 (kx.trans y)⟩))]; decide)))
      have n1 : ¬ (a_typeKind x = 1) := by rw [k5]; decide
      have L := gd_xL (by omega) (I.1.2.1 x x1) n1
      have tl := gd_l x3 n1
      have L2 := L.2
      dsimp only at L2
      have e0 : gt_e1 kd a_nodeArg n t = 0 := gt_if_f (by
        rintro (⟨y, _⟩ | ⟨y, _⟩ | ⟨_, y⟩)
        · omega
        · omega
        · exact y (kx.symm.trans k5))
      try dsimp only
      rw [ex, es, L2]
      refine ⟨vx, vs, nm_e (hOK e0 _ (fun w hw => pk_un (by omega)) (fun hj1 w hw => ?_))⟩
      rw [gp_sn_ch ok ht hj1, e1, show gp_bd 17 (0 + 1) = 1 by decide] at hw
      rcases Nat.lt_or_ge w (gp_sn kd t) with z | z
      · rw [gt_G_up ok ht hj1 z, pk_un (by omega)]
        exact hVI w z
      · have ew : w = gp_sn kd t := by omega
        subst ew
        rw [gt_G_new ok ht hj1 (Nat.le_refl _), pk_us, e1]
        exact ⟨_, by omega, rfl, tl⟩
    · exact last (by omega) (he (by omega)) a_variableType (fun _ _ => rfl)
end

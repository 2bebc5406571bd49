section
variable {f_derefLimit f_recordLimit f_frameLimit f_nodeCount f_currentStatus f_faultNode f_typeCount f_currentNode f_currentEnv f_returning f_returnedNumber f_frameCount f_lastOutcome f_lastValue f_derefsMade f_recordsMade : Int32} {a_nodeKind a_nodeArg a_expectedPlaces a_nodeAtPlace a_placeOfNode a_variablesSeen a_nodeType a_gradeOfBinder a_variableType a_usage a_typeKind a_typeGrade a_typeLeft a_typeRight a_frameMark a_frameWord a_frameEnv a_thunkNode a_thunkEnv a_restOfEnv a_binderOfRecord a_gradeOfRecord a_countOfRecord : Nat → Int32}
theorem gx_cPair {post : St2 → Prop} {kd : Nat → Nat} {n t tc : Nat} {P : Nat → Prop} (A : gt_P kd a_nodeArg n) (S : gx_S kd n a_nodeKind a_variablesSeen a_nodeAtPlace) (I : gx_TI kd a_nodeArg n P tc a_nodeType a_gradeOfBinder a_usage (a_typeKind, a_typeGrade, a_typeLeft, a_typeRight)) (ht : t < n) (hc : ∀ j, j < gp_ar (kd t) → P (gp_ch kd n t j)) (hnP : ¬ P t) (htc : tc < 32) (hk : kd t = 12) (hOK : gt_e2 kd a_nodeArg n t = 0 → ∀ tc' nt gb us tk tg tl tr, gx_TI kd a_nodeArg n (fun d => P d ∨ d = t) tc' nt gb us (tk, tg, tl, tr) → tc ≤ tc' → tc' ≤ tc + 1 → gd_ext (a_typeKind, a_typeGrade, a_typeLeft, a_typeRight) (tk, tg, tl, tr) tc → post (f_derefLimit, f_recordLimit, f_frameLimit, f_nodeCount, f_currentStatus, f_faultNode, nI tc', f_currentNode, f_currentEnv, f_returning, f_returnedNumber, f_frameCount, f_lastOutcome, f_lastValue, f_derefsMade, f_recordsMade, a_nodeKind, a_nodeArg, a_expectedPlaces, a_nodeAtPlace, a_placeOfNode, a_variablesSeen, nt, gb, a_variableType, us, tk, tg, tl, tr, a_frameMark, a_frameWord, a_frameEnv, a_thunkNode, a_thunkEnv, a_restOfEnv, a_binderOfRecord, a_gradeOfRecord, a_countOfRecord)) (hF : gt_e2 kd a_nodeArg n t ≠ 0 → ∀ tc' nt gb us tk tg tl tr, post (f_derefLimit, f_recordLimit, f_frameLimit, f_nodeCount, nI (gt_e2 kd a_nodeArg n t), nI t, tc', f_currentNode, f_currentEnv, f_returning, f_returnedNumber, f_frameCount, f_lastOutcome, f_lastValue, f_derefsMade, f_recordsMade, a_nodeKind, a_nodeArg, a_expectedPlaces, a_nodeAtPlace, a_placeOfNode, a_variablesSeen, nt, gb, a_variableType, us, tk, tg, tl, tr, a_frameMark, a_frameWord, a_frameEnv, a_thunkNode, a_thunkEnv, a_restOfEnv, a_binderOfRecord, a_gradeOfRecord, a_countOfRecord)) : wpX_completeLetPair post (f_derefLimit, f_recordLimit, f_frameLimit, f_nodeCount, f_currentStatus, f_faultNode, nI tc, f_currentNode, f_currentEnv, f_returning, f_returnedNumber, f_frameCount, f_lastOutcome, f_lastValue, f_derefsMade, f_recordsMade, a_nodeKind, a_nodeArg, a_expectedPlaces, a_nodeAtPlace, a_placeOfNode, a_variablesSeen, a_nodeType, a_gradeOfBinder, a_variableType, a_usage, a_typeKind, a_typeGrade, a_typeLeft, a_typeRight, a_frameMark, a_frameWord, a_frameEnv, a_thunkNode, a_thunkEnv, a_restOfEnv, a_binderOfRecord, a_gradeOfRecord, a_countOfRecord) (nI t) := by
  have hA := A
  obtain ⟨ok, so, kr, sc, ag2, ag3, -⟩ := A
  have hn := ok.2.1
  have t32 : t < 32 := by omega
  have v := vp_in_nI t32 (by decide)
  have et : (nI t).toNatClampNeg = t := nI_clamp (by omega)
  have sl := gp_sn_lt ok ht
  have ar0 : 0 < gp_ar (kd t) := by rw [hk]; decide
  have ar1 : 1 < gp_ar (kd t) := by rw [hk]; decide
  have m0 := gp_tm_ch ok so ht (by omega) ar0 (by omega)
  have m1 := gp_tm_ch ok so ht (by omega) ar1 (by omega)
  obtain ⟨c1, c2, c3, c4⟩ := gx_chf ok S ht ar0
  obtain ⟨d1, d2, d3, d4⟩ := gx_chf ok S ht ar1
  have ge := gp_ch_ge ok ht (Nat.le_of_lt ar1)
  have cl := gp_sn_lt ok (gp_ch_lt ok ht ar1).1
  rw [gp_sn_ch ok ht ar1] at cl
  obtain ⟨_, ⟨y, y1, y2, y3⟩, _⟩ := I.2 _ (hc 1 ar1)
  have u0 := gx_cu hA I ht ar0 (hc 0 ar0) m0
  have u1 := gx_cu hA I ht ar1 (hc 1 ar1) m1
  have bd : gp_bd (kd t) 1 = 2 := by rw [hk]; decide
  rw [bd] at u1 cl
  obtain ⟨w1, w2⟩ := u1 (gp_sn kd t) (by omega)
  obtain ⟨z1, z2⟩ := u1 (gp_sn kd t + 1) (by omega)
  obtain ⟨a, a3, ea⟩ := ag3 t ht (by omega)
  have q := gt_q12 (ag := a_nodeArg) ok ht hk
  have nd : gt_nd kd a_nodeArg n t = gt_max (gt_u kd a_nodeArg n (gp_ch kd n t 1) (gp_sn kd t)) (gt_u kd a_nodeArg n (gp_ch kd n t 1) (gp_sn kd t + 1)) := by unfold gt_nd; rw [if_pos hk]
  have ml := gt_max_le w2 z2
  have sel := gt_se_le (ag3 t ht (by omega)) ml
  unfold wpX_completeLetPair
  try dsimp only
  refine gx_ux t32 (S.2.1 t ht) (by omega) d3 d1 ?_
  rw [w1]
  refine gx_uyP t32 (S.1 t ht) (by omega) (by omega) (S.2.1 t ht) (by omega) d3 d1 ?_
  rw [z1]
  refine gx_join w2 z2 (gx_sg t32 ea a3 ml (fun z => ?_) (fun z => ?_))
  all_goals (
    try dsimp only
    refine gx_tc (j := 1) t32 d4 d3 d1 ?_
    rw [et, y2, pk_us]
    refine ⟨v, nm_e ⟨v, gx_join (b := 1) sel (by omega) (gx_au (s := gp_sn kd t) (ja := 0) (jb := 1) (gb := 1) t32 (by omega) (S.2.1 t ht) (by omega) (by omega) c3 d3 c1 d1 c2 d2 (gt_max_le sel (by omega)) (by omega) (fun w hw => u0 w (by omega)) (fun w hw => u1 w (by omega)) ?_)⟩⟩)
  · have e0 : gt_e2 kd a_nodeArg n t = 0 := by
      unfold gt_e2
      rw [gt_if_f (by omega), gt_if_f (by
        rintro (⟨_, r⟩ | ⟨r, _⟩)
        · rw [nd] at r; exact z r
        · omega)]
    try dsimp only
    refine hOK e0 tc _ _ _ _ _ _ _ (gx_TI_add ok I ht hnP (Nat.le_refl _) I.1 (gd_ext_r _ _) y1 ?_ ?_ ?_ (fun i hi => pk_un hi) (fun _ => ?_)) (Nat.le_refl _) (by omega) (gd_ext_r _ _)
    · rw [y3, show gt_t kd a_nodeArg n t = (gt_f kd a_nodeArg n t).1 from rfl, q]
    · intro j hj
      rw [gx_row_off (by omega) hj]
    · intro _ w hw
      rw [show gt_u kd a_nodeArg n t w = (gt_f kd a_nodeArg n t).2.1 w from rfl, q, gx_row_in hw, gt_mul_1 (u1 w (by omega)).2]
    · rw [pk_us, show gt_b kd a_nodeArg n t = (gt_f kd a_nodeArg n t).2.2 from rfl, q]
  · have e5 : gt_e2 kd a_nodeArg n t = 5 := by
      unfold gt_e2
      rw [gt_if_f (by omega), gt_if_t (Or.inl ⟨Or.inr (Or.inl hk), by rw [nd]; exact z⟩)]
    have := hF (by rw [e5]; decide) (nI tc)
    rw [e5] at this
    exact this _ _ _ _ _ _ _
theorem gx_cCase {post : St2 → Prop} {kd : Nat → Nat} {n t tc : Nat} {P : Nat → Prop} (A : gt_P kd a_nodeArg n) (S : gx_S kd n a_nodeKind a_variablesSeen a_nodeAtPlace) (I : gx_TI kd a_nodeArg n P tc a_nodeType a_gradeOfBinder a_usage (a_typeKind, a_typeGrade, a_typeLeft, a_typeRight)) (ht : t < n) (hc : ∀ j, j < gp_ar (kd t) → P (gp_ch kd n t j)) (hnP : ¬ P t) (htc : tc < 32) (hk : kd t = 15) (hOK : gt_e2 kd a_nodeArg n t = 0 → ∀ tc' nt gb us tk tg tl tr, gx_TI kd a_nodeArg n (fun d => P d ∨ d = t) tc' nt gb us (tk, tg, tl, tr) → tc ≤ tc' → tc' ≤ tc + 1 → gd_ext (a_typeKind, a_typeGrade, a_typeLeft, a_typeRight) (tk, tg, tl, tr) tc → post (f_derefLimit, f_recordLimit, f_frameLimit, f_nodeCount, f_currentStatus, f_faultNode, nI tc', f_currentNode, f_currentEnv, f_returning, f_returnedNumber, f_frameCount, f_lastOutcome, f_lastValue, f_derefsMade, f_recordsMade, a_nodeKind, a_nodeArg, a_expectedPlaces, a_nodeAtPlace, a_placeOfNode, a_variablesSeen, nt, gb, a_variableType, us, tk, tg, tl, tr, a_frameMark, a_frameWord, a_frameEnv, a_thunkNode, a_thunkEnv, a_restOfEnv, a_binderOfRecord, a_gradeOfRecord, a_countOfRecord)) (hF : gt_e2 kd a_nodeArg n t ≠ 0 → ∀ tc' nt gb us tk tg tl tr, post (f_derefLimit, f_recordLimit, f_frameLimit, f_nodeCount, nI (gt_e2 kd a_nodeArg n t), nI t, tc', f_currentNode, f_currentEnv, f_returning, f_returnedNumber, f_frameCount, f_lastOutcome, f_lastValue, f_derefsMade, f_recordsMade, a_nodeKind, a_nodeArg, a_expectedPlaces, a_nodeAtPlace, a_placeOfNode, a_variablesSeen, nt, gb, a_variableType, us, tk, tg, tl, tr, a_frameMark, a_frameWord, a_frameEnv, a_thunkNode, a_thunkEnv, a_restOfEnv, a_binderOfRecord, a_gradeOfRecord, a_countOfRecord)) : wpX_completeCase post (f_derefLimit, f_recordLimit, f_frameLimit, f_nodeCount, f_currentStatus, f_faultNode, nI tc, f_currentNode, f_currentEnv, f_returning, f_returnedNumber, f_frameCount, f_lastOutcome, f_lastValue, f_derefsMade, f_recordsMade, a_nodeKind, a_nodeArg, a_expectedPlaces, a_nodeAtPlace, a_placeOfNode, a_variablesSeen, a_nodeType, a_gradeOfBinder, a_variableType, a_usage, a_typeKind, a_typeGrade, a_typeLeft, a_typeRight, a_frameMark, a_frameWord, a_frameEnv, a_thunkNode, a_thunkEnv, a_restOfEnv, a_binderOfRecord, a_gradeOfRecord, a_countOfRecord) (nI t) := by
  have hA := A
  obtain ⟨ok, so, kr, sc, ag2, ag3, -⟩ := A
  have hn := ok.2.1
  have t32 : t < 32 := by omega
  have v := vp_in_nI t32 (by decide)
  have et : (nI t).toNatClampNeg = t := nI_clamp (by omega)
  have sl := gp_sn_lt ok ht
  have ar0 : 0 < gp_ar (kd t) := by rw [hk]; decide
  have ar1 : 1 < gp_ar (kd t) := by rw [hk]; decide
  have ar2 : 2 < gp_ar (kd t) := by rw [hk]; decide
  have m0 := gp_tm_ch ok so ht (by omega) ar0 (by omega)
  have m1 := gp_tm_ch ok so ht (by omega) ar1 (by omega)
  have m2 := gp_tm_ch ok so ht (by omega) ar2 (by omega)
  obtain ⟨c1, c2, c3, c4⟩ := gx_chf ok S ht ar0
  obtain ⟨d1, d2, d3, d4⟩ := gx_chf ok S ht ar1
  obtain ⟨f1, f2, f3, f4⟩ := gx_chf ok S ht ar2
  have ge := gp_ch_ge ok ht (Nat.le_of_lt ar1)
  obtain ⟨_, ⟨x, x1, x2, x3⟩, _⟩ := I.2 _ (hc 1 ar1)
  obtain ⟨_, ⟨y, y1, y2, y3⟩, _⟩ := I.2 _ (hc 2 ar2)
  have u0 := gx_cu hA I ht ar0 (hc 0 ar0) m0
  have u1 := gx_cu hA I ht ar1 (hc 1 ar1) m1
  have u2 := gx_cu hA I ht ar2 (hc 2 ar2) m2
  have bd : gp_bd (kd t) 1 = 1 := by rw [hk]; decide
  have bd2 : gp_bd (kd t) 2 = 1 := by rw [hk]; decide
  rw [bd] at u1
  rw [bd2] at u2
  obtain ⟨w1, w2⟩ := u1 (gp_sn kd t) (by omega)
  obtain ⟨z1, z2⟩ := u2 (gp_sn kd t) (by omega)
  obtain ⟨a, a3, ea⟩ := ag3 t ht (by omega)
  have q := gt_q15 (ag := a_nodeArg) ok ht hk
  have nd : gt_nd kd a_nodeArg n t = gt_max (gt_u kd a_nodeArg n (gp_ch kd n t 1) (gp_sn kd t)) (gt_u kd a_nodeArg n (gp_ch kd n t 2) (gp_sn kd t)) := by unfold gt_nd; rw [if_neg (by omega), if_pos hk]
  have ml := gt_max_le w2 z2
  have sel := gt_se_le (ag3 t ht (by omega)) ml
  unfold wpX_completeCase
  try dsimp only
  refine gx_tc (j := 1) t32 d4 d3 d1 (gx_tc (j := 2) t32 f4 f3 f1 ?_)
  rw [x2, y2]
  refine br_c (fun exy => ?_) (fun nxy => ?_)
  · have exy : x = y := (nI_eq (by omega) (by omega)).mp exy
    subst exy
    have same : gt_t kd a_nodeArg n (gp_ch kd n t 1) = gt_t kd a_nodeArg n (gp_ch kd n t 2) := x3.symm.trans y3
    refine gx_ux t32 (S.2.1 t ht) (by omega) d3 d1 ?_
    rw [w1]
    have kk := S.1 t ht
    rw [hk] at kk
    refine gx_uyC t32 kk (S.2.1 t ht) (by omega) f3 f1 ?_
    rw [z1]
    refine gx_join w2 z2 (gx_sg t32 ea a3 ml (fun z => ?_) (fun z => ?_))
    all_goals (
      try dsimp only
      rw [et, pk_us]
      refine ⟨v, nm_e ⟨v, gx_join (b := 1) sel (by omega) (gx_ac (s := gp_sn kd t) t32 (by omega) (S.2.1 t ht) c3 d3 f3 c1 d1 f1 c2 d2 f2 (gt_max_le sel (by omega)) (fun w hw => u0 w (by omega)) (fun w hw => u1 w (by omega)) (fun w hw => u2 w (by omega)) ?_)⟩⟩)
    · have e0 : gt_e2 kd a_nodeArg n t = 0 := by
        unfold gt_e2
        rw [gt_if_f (by
          rintro (⟨r, _⟩ | ⟨r, _⟩ | ⟨_, r⟩)
          · omega
          · omega
          · exact r same), gt_if_f (by
          rintro (⟨_, r⟩ | ⟨r, _⟩)
          · rw [nd] at r; exact z r
          · omega)]
      try dsimp only
      refine hOK e0 tc _ _ _ _ _ _ _ (gx_TI_add ok I ht hnP (Nat.le_refl _) I.1 (gd_ext_r _ _) x1 ?_ ?_ ?_ (fun i hi => pk_un hi) (fun _ => ?_)) (Nat.le_refl _) (by omega) (gd_ext_r _ _)
      · rw [x3, show gt_t kd a_nodeArg n t = (gt_f kd a_nodeArg n t).1 from rfl, q]
      · intro j hj
        rw [gx_row_off (by omega) hj]
      · intro _ w hw
        rw [show gt_u kd a_nodeArg n t w = (gt_f kd a_nodeArg n t).2.1 w from rfl, q, gx_row_in hw]
      · rw [pk_us, show gt_b kd a_nodeArg n t = (gt_f kd a_nodeArg n t).2.2 from rfl, q]
    · have e5 : gt_e2 kd a_nodeArg n t = 5 := by
        unfold gt_e2
        rw [gt_if_f (by
          rintro (⟨r, _⟩ | ⟨r, _⟩ | ⟨_, r⟩)
          · omega
          · omega
          · exact r same), gt_if_t (Or.inl ⟨Or.inr (Or.inr hk), by rw [nd]; exact z⟩)]
      have := hF (by rw [e5]; decide) (nI tc)
      rw [e5] at this
      exact this _ _ _ _ _ _ _
  · have e4 : gt_e2 kd a_nodeArg n t = 4 := gt_if_t (Or.inr (Or.inr ⟨hk, fun z => nxy (by
      rw [gd_inj I.1 (x + 1) x y (by omega) x1 y1 (by rw [x3, y3]; exact z)])⟩))
    have := hF (by rw [e4]; decide) (nI tc) a_nodeType a_gradeOfBinder a_usage a_typeKind a_typeGrade a_typeLeft a_typeRight
    rw [e4] at this
    exact this
theorem gx_cBox {post : St2 → Prop} {kd : Nat → Nat} {n t tc : Nat} {P : Nat → Prop} (A : gt_P kd a_nodeArg n) (S : gx_S kd n a_nodeKind a_variablesSeen a_nodeAtPlace) (I : gx_TI kd a_nodeArg n P tc a_nodeType a_gradeOfBinder a_usage (a_typeKind, a_typeGrade, a_typeLeft, a_typeRight)) (ht : t < n) (hc : ∀ j, j < gp_ar (kd t) → P (gp_ch kd n t j)) (hnP : ¬ P t) (htc : tc < 32) (hk : kd t = 17) (hOK : gt_e2 kd a_nodeArg n t = 0 → ∀ tc' nt gb us tk tg tl tr, gx_TI kd a_nodeArg n (fun d => P d ∨ d = t) tc' nt gb us (tk, tg, tl, tr) → tc ≤ tc' → tc' ≤ tc + 1 → gd_ext (a_typeKind, a_typeGrade, a_typeLeft, a_typeRight) (tk, tg, tl, tr) tc → post (f_derefLimit, f_recordLimit, f_frameLimit, f_nodeCount, f_currentStatus, f_faultNode, nI tc', f_currentNode, f_currentEnv, f_returning, f_returnedNumber, f_frameCount, f_lastOutcome, f_lastValue, f_derefsMade, f_recordsMade, a_nodeKind, a_nodeArg, a_expectedPlaces, a_nodeAtPlace, a_placeOfNode, a_variablesSeen, nt, gb, a_variableType, us, tk, tg, tl, tr, a_frameMark, a_frameWord, a_frameEnv, a_thunkNode, a_thunkEnv, a_restOfEnv, a_binderOfRecord, a_gradeOfRecord, a_countOfRecord)) (hF : gt_e2 kd a_nodeArg n t ≠ 0 → ∀ tc' nt gb us tk tg tl tr, post (f_derefLimit, f_recordLimit, f_frameLimit, f_nodeCount, nI (gt_e2 kd a_nodeArg n t), nI t, tc', f_currentNode, f_currentEnv, f_returning, f_returnedNumber, f_frameCount, f_lastOutcome, f_lastValue, f_derefsMade, f_recordsMade, a_nodeKind, a_nodeArg, a_expectedPlaces, a_nodeAtPlace, a_placeOfNode, a_variablesSeen, nt, gb, a_variableType, us, tk, tg, tl, tr, a_frameMark, a_frameWord, a_frameEnv, a_thunkNode, a_thunkEnv, a_restOfEnv, a_binderOfRecord, a_gradeOfRecord, a_countOfRecord)) : wpX_completeLetBox post (f_derefLimit, f_recordLimit, f_frameLimit, f_nodeCount, f_currentStatus, f_faultNode, nI tc, f_currentNode, f_currentEnv, f_returning, f_returnedNumber, f_frameCount, f_lastOutcome, f_lastValue, f_derefsMade, f_recordsMade, a_nodeKind, a_nodeArg, a_expectedPlaces, a_nodeAtPlace, a_placeOfNode, a_variablesSeen, a_nodeType, a_gradeOfBinder, a_variableType, a_usage, a_typeKind, a_typeGrade, a_typeLeft, a_typeRight, a_frameMark, a_frameWord, a_frameEnv, a_thunkNode, a_thunkEnv, a_restOfEnv, a_binderOfRecord, a_gradeOfRecord, a_countOfRecord) (nI t) := by
  have hA := A
  obtain ⟨ok, so, kr, sc, ag2, ag3, -⟩ := A
  have hn := ok.2.1
  have t32 : t < 32 := by omega
  have v := vp_in_nI t32 (by decide)
  have et : (nI t).toNatClampNeg = t := nI_clamp (by omega)
  have sl := gp_sn_lt ok ht
  have ar0 : 0 < gp_ar (kd t) := by rw [hk]; decide
  have ar1 : 1 < gp_ar (kd t) := by rw [hk]; decide
  have m0 := gp_tm_ch ok so ht (by omega) ar0 (by omega)
  have m1 := gp_tm_ch ok so ht (by omega) ar1 (by omega)
  obtain ⟨c1, c2, c3, c4⟩ := gx_chf ok S ht ar0
  obtain ⟨d1, d2, d3, d4⟩ := gx_chf ok S ht ar1
  have ge := gp_ch_ge ok ht (Nat.le_of_lt ar1)
  obtain ⟨_, ⟨x, x1, x2, x3⟩, _⟩ := I.2 _ (hc 0 ar0)
  obtain ⟨_, ⟨y, y1, y2, y3⟩, _⟩ := I.2 _ (hc 1 ar1)
  have u0 := gx_cu hA I ht ar0 (hc 0 ar0) m0
  have u1 := gx_cu hA I ht ar1 (hc 1 ar1) m1
  have bd : gp_bd (kd t) 1 = 1 := by rw [hk]; decide
  rw [bd] at u1
  obtain ⟨w1, w2⟩ := u1 (gp_sn kd t) (by omega)
  have q := gt_q17 (ag := a_nodeArg) ok ht hk
  have nd : gt_nd kd a_nodeArg n t = gt_u kd a_nodeArg n (gp_ch kd n t 1) (gp_sn kd t) := by unfold gt_nd; rw [if_neg (by omega), if_neg (by omega)]
  have kx := (gd_k x3).2
  dsimp only at kx
  obtain ⟨g, g2, eg⟩ := gt_wf_g (gt_twf hA (gp_ch_lt ok ht ar0).1)
  have egn : (gt_g (gt_t kd a_nodeArg n (gp_ch kd n t 0))).toNatClampNeg = g := by rw [eg]; exact nI_clamp (by omega)
  unfold wpX_completeLetBox
  try dsimp only
  refine gx_tc (j := 0) t32 c4 c3 c1 ?_
  rw [x2, et, nI_clamp (show x < 2 ^ 31 by omega), kx, eg]
  refine ⟨vp_in_nI (by omega) (by decide), v, nm_e (gx_ux t32 (S.2.1 t ht) (by omega) d3 d1 ?_)⟩
  rw [w1, pk_us]
  refine ⟨v, pk_le _ g (fun z => ?_) (fun z => ?_)⟩
  all_goals (
    try unfold wpX_fail
    try dsimp only
    unfold wX_completeLetBox_39
    refine gx_tc (j := 1) t32 d4 d3 d1 ?_
    rw [et, y2]
    refine ⟨v, nm_e (gx_au (s := gp_sn kd t) (ja := 0) (jb := 1) (ga := 1) (gb := 1) t32 (by omega) (S.2.1 t ht) (by omega) (by omega) c3 d3 c1 d1 c2 d2 (by omega) (by omega) (fun w hw => u0 w (by omega)) (fun w hw => u1 w (by omega)) ?_)⟩)
  · have e0 : gt_e2 kd a_nodeArg n t = 0 := by
      unfold gt_e2
      rw [gt_if_f (by omega), gt_if_f (by
        rintro (⟨r, _⟩ | ⟨_, r⟩)
        · omega
        · rw [nd, egn] at r; omega)]
    try dsimp only
    refine hOK e0 tc _ _ _ _ _ _ _ (gx_TI_add ok I ht hnP (Nat.le_refl _) I.1 (gd_ext_r _ _) y1 ?_ ?_ ?_ (fun i hi => pk_un hi) (fun _ => ?_)) (Nat.le_refl _) (by omega) (gd_ext_r _ _)
    · rw [y3, show gt_t kd a_nodeArg n t = (gt_f kd a_nodeArg n t).1 from rfl, q]
    · intro j hj
      rw [gx_row_off (by omega) hj]
    · intro _ w hw
      rw [show gt_u kd a_nodeArg n t w = (gt_f kd a_nodeArg n t).2.1 w from rfl, q, gx_row_in hw, gt_mul_1 (u0 w (by omega)).2, gt_mul_1 (u1 w (by omega)).2]
    · rw [pk_us, show gt_b kd a_nodeArg n t = (gt_f kd a_nodeArg n t).2.2 from rfl, q, egn]
  · have e5 : gt_e2 kd a_nodeArg n t = 5 := by
      unfold gt_e2
      rw [gt_if_f (by omega), gt_if_t (Or.inr ⟨hk, by rw [nd, egn]; exact z⟩)]
    have := hF (by rw [e5]; decide) (nI tc)
    rw [e5] at this
    exact this _ _ _ _ _ _ _
end

section
variable {f_derefLimit f_recordLimit f_frameLimit f_nodeCount f_currentStatus f_faultNode f_typeCount f_currentNode f_currentEnv f_returning f_returnedNumber f_frameCount f_lastOutcome f_lastValue f_derefsMade f_recordsMade : Int32} {a_nodeKind a_nodeArg a_expectedPlaces a_nodeAtPlace a_placeOfNode a_variablesSeen a_nodeType a_gradeOfBinder a_variableType a_usage a_typeKind a_typeGrade a_typeLeft a_typeRight a_frameMark a_frameWord a_frameEnv a_thunkNode a_thunkEnv a_restOfEnv a_binderOfRecord a_gradeOfRecord a_countOfRecord : Nat → Int32}
theorem gx_cLam {post : St2 → Prop} {kd : Nat → Nat} {n t tc : Nat} {P : Nat → Prop} (A : gt_P kd a_nodeArg n) (S : gx_S kd n a_nodeKind a_variablesSeen a_nodeAtPlace) (I : gx_TI kd a_nodeArg n P tc a_nodeType a_gradeOfBinder a_usage (a_typeKind, a_typeGrade, a_typeLeft, a_typeRight)) (ht : t < n) (hc : ∀ j, j < gp_ar (kd t) → P (gp_ch kd n t j)) (hnP : ¬ P t) (htc : tc < 32) (hk : kd t = 9) (hOK : gt_e2 kd a_nodeArg n t = 0 → ∀ tc' nt gb us tk tg tl tr, gx_TI kd a_nodeArg n (fun d => P d ∨ d = t) tc' nt gb us (tk, tg, tl, tr) → tc ≤ tc' → tc' ≤ tc + 1 → gd_ext (a_typeKind, a_typeGrade, a_typeLeft, a_typeRight) (tk, tg, tl, tr) tc → post (f_derefLimit, f_recordLimit, f_frameLimit, f_nodeCount, f_currentStatus, f_faultNode, nI tc', f_currentNode, f_currentEnv, f_returning, f_returnedNumber, f_frameCount, f_lastOutcome, f_lastValue, f_derefsMade, f_recordsMade, a_nodeKind, a_nodeArg, a_expectedPlaces, a_nodeAtPlace, a_placeOfNode, a_variablesSeen, nt, gb, a_variableType, us, tk, tg, tl, tr, a_frameMark, a_frameWord, a_frameEnv, a_thunkNode, a_thunkEnv, a_restOfEnv, a_binderOfRecord, a_gradeOfRecord, a_countOfRecord)) (hF : gt_e2 kd a_nodeArg n t ≠ 0 → ∀ tc' nt gb us tk tg tl tr, post (f_derefLimit, f_recordLimit, f_frameLimit, f_nodeCount, nI (gt_e2 kd a_nodeArg n t), nI t, tc', f_currentNode, f_currentEnv, f_returning, f_returnedNumber, f_frameCount, f_lastOutcome, f_lastValue, f_derefsMade, f_recordsMade, a_nodeKind, a_nodeArg, a_expectedPlaces, a_nodeAtPlace, a_placeOfNode, a_variablesSeen, nt, gb, a_variableType, us, tk, tg, tl, tr, a_frameMark, a_frameWord, a_frameEnv, a_thunkNode, a_thunkEnv, a_restOfEnv, a_binderOfRecord, a_gradeOfRecord, a_countOfRecord)) : wpX_completeLam post (f_derefLimit, f_recordLimit, f_frameLimit, f_nodeCount, f_currentStatus, f_faultNode, nI tc, f_currentNode, f_currentEnv, f_returning, f_returnedNumber, f_frameCount, f_lastOutcome, f_lastValue, f_derefsMade, f_recordsMade, a_nodeKind, a_nodeArg, a_expectedPlaces, a_nodeAtPlace, a_placeOfNode, a_variablesSeen, a_nodeType, a_gradeOfBinder, a_variableType, a_usage, a_typeKind, a_typeGrade, a_typeLeft, a_typeRight, a_frameMark, a_frameWord, a_frameEnv, a_thunkNode, a_thunkEnv, a_restOfEnv, a_binderOfRecord, a_gradeOfRecord, a_countOfRecord) (nI t) := by
  have hA := A
  obtain ⟨ok, so, kr, sc, ag2, ag3, -⟩ := A
  have hn := ok.2.1
  have t32 : t < 32 := by omega
  have v := vp_in_nI t32 (by decide)
  have et : (nI t).toNatClampNeg = t := nI_clamp (by omega)
  have sl := gp_sn_lt ok ht
  have ar0 : 0 < gp_ar (kd t) := by rw [hk]; decide
  have ar1 : 1 < gp_ar (kd t) := by rw [hk]; decide
  have m1 := gp_tm_ch ok so ht (by omega) ar1 (by omega)
  obtain ⟨c1, c2, c3, c4⟩ := gx_chf ok S ht ar0
  obtain ⟨d1, d2, d3, d4⟩ := gx_chf ok S ht ar1
  have ge := gp_ch_ge ok ht (Nat.le_of_lt ar1)
  obtain ⟨_, ⟨x, x1, x2, x3⟩, _⟩ := I.2 _ (hc 0 ar0)
  obtain ⟨_, ⟨y, y1, y2, y3⟩, _⟩ := I.2 _ (hc 1 ar1)
  have u1 := gx_cu hA I ht ar1 (hc 1 ar1) m1
  have bd : gp_bd (kd t) 1 = 1 := by rw [hk]; decide
  rw [bd] at u1
  obtain ⟨w1, w2⟩ := u1 (gp_sn kd t) (by omega)
  obtain ⟨a, a3, ea⟩ := ag3 t ht (by omega)
  have q := gt_q9 (ag := a_nodeArg) ok ht hk
  have nd : gt_nd kd a_nodeArg n t = gt_u kd a_nodeArg n (gp_ch kd n t 1) (gp_sn kd t) := by unfold gt_nd; rw [if_neg (by omega), if_neg (by omega)]
  have sel := gt_se_le (ag3 t ht (by omega)) w2
  unfold wpX_completeLam
  try dsimp only
  refine gx_ux t32 (S.2.1 t ht) (by omega) d3 d1 ?_
  rw [w1]
  refine gx_sg t32 ea a3 w2 (fun z => ?_) (fun z => ?_)
  all_goals (
    try dsimp only
    refine gx_tc (j := 0) t32 c4 c3 c1 (gx_tc (j := 1) t32 d4 d3 d1 ?_)
    rw [et, x2, y2, pk_us]
    refine ⟨v, gx_tn (k := 4) (g := nI (gt_se (a_nodeArg t) (gt_u kd a_nodeArg n (gp_ch kd n t 1) (gp_sn kd t)))) (l := nI x) (r := nI y) htc I.1 (fun _ => ⟨x, x1, rfl, x3⟩) (fun _ _ => ⟨y, y1, rfl, y3⟩) (fun z => absurd z (by decide)) (fun z => absurd z (by decide)) (fun x' tc' tk tg tl tr hx b1 b2 b3 b4 b5 => ?_)⟩
    try dsimp only
    try rw [et]
    refine ⟨v, nm_e (gx_au (s := gp_sn kd t) (ja := 1) (jb := 1) (ga := 1) (gb := 0) t32 (by omega) (S.2.1 t ht) (by omega) (by omega) d3 d3 d1 d1 d2 d2 (by omega) (by omega) (fun w hw => u1 w (by omega)) (fun w hw => u1 w (by omega)) ?_)⟩)
  · have e0 : gt_e2 kd a_nodeArg n t = 0 := by
      unfold gt_e2
      rw [gt_if_f (by omega), gt_if_f (by
        rintro (⟨_, r⟩ | ⟨r, _⟩)
        · rw [nd] at r; exact z r
        · omega)]
    try dsimp only
    refine hOK e0 tc' _ _ _ _ _ _ _ (gx_TI_add ok I ht hnP b1 b3 b4 hx ?_ ?_ ?_ (fun i hi => pk_un hi) (fun _ => ?_)) b1 b2 b4
    · rw [b5, show gt_t kd a_nodeArg n t = (gt_f kd a_nodeArg n t).1 from rfl, q]
    · intro j hj
      rw [gx_row_off (by omega) hj]
    · intro _ w hw
      rw [show gt_u kd a_nodeArg n t w = (gt_f kd a_nodeArg n t).2.1 w from rfl, q, gx_row_in hw, gt_mul_1 (u1 w (by omega)).2, gt_mul_0, gt_add_0 (u1 w (by omega)).2]
    · rw [pk_us, show gt_b kd a_nodeArg n t = (gt_f kd a_nodeArg n t).2.2 from rfl, q]
  · have e5 : gt_e2 kd a_nodeArg n t = 5 := by
      unfold gt_e2
      rw [gt_if_f (by omega), gt_if_t (Or.inl ⟨Or.inl hk, by rw [nd]; exact z⟩)]
    have := hF (by rw [e5]; decide) (nI tc')
    rw [e5] at this
    exact this _ _ _ _ _ _ _
theorem gx_cApp {post : St2 → Prop} {kd : Nat → Nat} {n t tc : Nat} {P : Nat → Prop} (A : gt_P kd a_nodeArg n) (S : gx_S kd n a_nodeKind a_variablesSeen a_nodeAtPlace) (I : gx_TI kd a_nodeArg n P tc a_nodeType a_gradeOfBinder a_usage (a_typeKind, a_typeGrade, a_typeLeft, a_typeRight)) (ht : t < n) (hc : ∀ j, j < gp_ar (kd t) → P (gp_ch kd n t j)) (hnP : ¬ P t) (htc : tc < 32) (hk : kd t = 10) (hOK : gt_e2 kd a_nodeArg n t = 0 → ∀ tc' nt gb us tk tg tl tr, gx_TI kd a_nodeArg n (fun d => P d ∨ d = t) tc' nt gb us (tk, tg, tl, tr) → tc ≤ tc' → tc' ≤ tc + 1 → gd_ext (a_typeKind, a_typeGrade, a_typeLeft, a_typeRight) (tk, tg, tl, tr) tc → post (f_derefLimit, f_recordLimit, f_frameLimit, f_nodeCount, f_currentStatus, f_faultNode, nI tc', f_currentNode, f_currentEnv, f_returning, f_returnedNumber, f_frameCount, f_lastOutcome, f_lastValue, f_derefsMade, f_recordsMade, a_nodeKind, a_nodeArg, a_expectedPlaces, a_nodeAtPlace, a_placeOfNode, a_variablesSeen, nt, gb, a_variableType, us, tk, tg, tl, tr, a_frameMark, a_frameWord, a_frameEnv, a_thunkNode, a_thunkEnv, a_restOfEnv, a_binderOfRecord, a_gradeOfRecord, a_countOfRecord)) (hF : gt_e2 kd a_nodeArg n t ≠ 0 → ∀ tc' nt gb us tk tg tl tr, post (f_derefLimit, f_recordLimit, f_frameLimit, f_nodeCount, nI (gt_e2 kd a_nodeArg n t), nI t, tc', f_currentNode, f_currentEnv, f_returning, f_returnedNumber, f_frameCount, f_lastOutcome, f_lastValue, f_derefsMade, f_recordsMade, a_nodeKind, a_nodeArg, a_expectedPlaces, a_nodeAtPlace, a_placeOfNode, a_variablesSeen, nt, gb, a_variableType, us, tk, tg, tl, tr, a_frameMark, a_frameWord, a_frameEnv, a_thunkNode, a_thunkEnv, a_restOfEnv, a_binderOfRecord, a_gradeOfRecord, a_countOfRecord)) : wpX_completeApp post (f_derefLimit, f_recordLimit, f_frameLimit, f_nodeCount, f_currentStatus, f_faultNode, nI tc, f_currentNode, f_currentEnv, f_returning, f_returnedNumber, f_frameCount, f_lastOutcome, f_lastValue, f_derefsMade, f_recordsMade, a_nodeKind, a_nodeArg, a_expectedPlaces, a_nodeAtPlace, a_placeOfNode, a_variablesSeen, a_nodeType, a_gradeOfBinder, a_variableType, a_usage, a_typeKind, a_typeGrade, a_typeLeft, a_typeRight, a_frameMark, a_frameWord, a_frameEnv, a_thunkNode, a_thunkEnv, a_restOfEnv, a_binderOfRecord, a_gradeOfRecord, a_countOfRecord) (nI t) := by
  have hA := A
  obtain ⟨ok, so, kr, sc, -⟩ := A
  have hn := ok.2.1
  have t32 : t < 32 := by omega
  have v := vp_in_nI t32 (by decide)
  have et : (nI t).toNatClampNeg = t := nI_clamp (by omega)
  have sl := gp_sn_lt ok ht
  have ar0 : 0 < gp_ar (kd t) := by rw [hk]; decide
  have ar1 : 1 < gp_ar (kd t) := by rw [hk]; decide
  have m0 := gp_tm_ch ok so ht (by omega) ar0 (by omega)
  have m1 := gp_tm_ch ok so ht (by omega) ar1 (by omega)
  obtain ⟨c1, c2, c3, c4⟩ := gx_chf ok S ht ar0
  obtain ⟨d1, d2, d3, d4⟩ := gx_chf ok S ht ar1
  obtain ⟨_, ⟨x, x1, x2, x3⟩, _⟩ := I.2 _ (hc 0 ar0)
  obtain ⟨_, ⟨y, y1, y2, y3⟩, _⟩ := I.2 _ (hc 1 ar1)
  have u0 := gx_cu hA I ht ar0 (hc 0 ar0) m0
  have u1 := gx_cu hA I ht ar1 (hc 1 ar1) m1
  have kx := gd_k x3
  dsimp only at kx
  have ex : (nI x).toNatClampNeg = x := nI_clamp (by omega)
  have q := gt_q10 (ag := a_nodeArg) ok ht hk
  have fl : ¬ (gt_k (gt_t kd a_nodeArg n (gp_ch kd n t 0)) = 4 ∧ gt_l (gt_t kd a_nodeArg n (gp_ch kd n t 0)) = gt_t kd a_nodeArg n (gp_ch kd n t 1)) → post (f_derefLimit, f_recordLimit, f_frameLimit, f_nodeCount, 4, nI t, nI tc, f_currentNode, f_currentEnv, f_returning, f_returnedNumber, f_frameCount, f_lastOutcome, f_lastValue, f_derefsMade, f_recordsMade, a_nodeKind, a_nodeArg, a_expectedPlaces, a_nodeAtPlace, a_placeOfNode, a_variablesSeen, a_nodeType, a_gradeOfBinder, a_variableType, a_usage, a_typeKind, a_typeGrade, a_typeLeft, a_typeRight, a_frameMark, a_frameWord, a_frameEnv, a_thunkNode, a_thunkEnv, a_restOfEnv, a_binderOfRecord, a_gradeOfRecord, a_countOfRecord) := fun z => by
    have e4 : gt_e2 kd a_nodeArg n t = 4 := gt_if_t (Or.inr (Or.inl ⟨hk, z⟩))
    have := hF (by rw [e4]; decide) (nI tc) a_nodeType a_gradeOfBinder a_usage a_typeKind a_typeGrade a_typeLeft a_typeRight
    rw [e4] at this
    exact this
  unfold wpX_completeApp
  try dsimp only
  refine gx_tc (j := 0) t32 c4 c3 c1 (gx_tc (j := 1) t32 d4 d3 d1 ?_)
  have vx := vp_in_nI (show x < 32 by omega) (by decide)
  rw [x2, y2, ex, et]
  refine ⟨vx, br_c (fun k4 => ⟨vx, br_c (fun el => ?_) (fun nl => ?_)⟩) (fun n4 => fl (fun z => n4 (kx.1.trans z.1)))⟩
  · have n1 : ¬ (a_typeKind x = 1) := by rw [k4]; decide
    have n5 : ¬ (a_typeKind x = 5) := by rw [k4]; decide
    have L := gd_xL (by omega) (I.1.2.1 x x1) n1
    have R := gd_xR (by omega) (I.1.2.1 x x1) n1 n5
    have eL : gd_L (a_typeKind, a_typeGrade, a_typeLeft, a_typeRight) x = y := by
      have := L.2
      dsimp only at this
      rw [el] at this
      exact ((nI_eq (by omega) (by omega)).mp this).symm
    have tl := gd_l x3 n1
    rw [eL, y3] at tl
    have tr := gd_r x3 n1 n5
    have R2 := R.2
    dsimp only at R2
    obtain ⟨g, g2, eg⟩ := gt_wf_g (gt_twf hA (gp_ch_lt ok ht ar0).1)
    rw [R2, kx.2, eg]
    refine ⟨vx, v, nm_e ⟨vx, gx_au (s := gp_sn kd t) (ja := 0) (jb := 1) (ga := 1) (gb := g) t32 (by omega) (S.2.1 t ht) (by omega) (by omega) c3 d3 c1 d1 c2 d2 (by omega) g2 (fun w hw => u0 w (by omega)) (fun w hw => u1 w (by omega)) ?_⟩⟩
    have e0 : gt_e2 kd a_nodeArg n t = 0 := by
      unfold gt_e2
      rw [gt_if_f (by
        rintro (⟨q, _⟩ | ⟨_, q⟩ | ⟨q, _⟩)
        · omega
        · exact q ⟨kx.1.symm.trans k4, tl.symm⟩
        · omega), gt_if_f (by omega)]
    try dsimp only
    refine hOK e0 tc _ _ _ _ _ _ _ (gx_TI_add ok I ht hnP (Nat.le_refl _) I.1 (gd_ext_r _ _) (show gd_R (a_typeKind, a_typeGrade, a_typeLeft, a_typeRight) x < tc by omega) ?_ ?_ ?_ (fun _ _ => rfl) (fun z => by omega)) (Nat.le_refl _) (by omega) (gd_ext_r _ _)
    · rw [tr, show gt_t kd a_nodeArg n t = (gt_f kd a_nodeArg n t).1 from rfl, q]
    · intro j hj
      rw [gx_row_off (by omega) hj]
    · intro _ w hw
      rw [show gt_u kd a_nodeArg n t w = (gt_f kd a_nodeArg n t).2.1 w from rfl, q, gx_row_in hw, gt_mul_1 (u0 w (by omega)).2, eg, nI_clamp (by omega)]
  · refine fl (fun z => nl ?_)
    have n1 : ¬ (a_typeKind x = 1) := by rw [k4]; decide
    have L := gd_xL (by omega) (I.1.2.1 x x1) n1
    have tl := gd_l x3 n1
    have e : gd_L (a_typeKind, a_typeGrade, a_typeLeft, a_typeRight) x = y := gd_inj I.1 (gd_L (a_typeKind, a_typeGrade, a_typeLeft, a_typeRight) x + 1) (gd_L (a_typeKind, a_typeGrade, a_typeLeft, a_typeRight) x) y (by omega) (by omega) y1 (by rw [tl, y3]; exact z.2)
    have L2 := L.2
    dsimp only at L2
    rw [L2, e]
end

theorem gt_e2_z {kd : Nat → Nat} {ag : Nat → Int32} {n t : Nat} (h : kd t ≠ 8 ∧ kd t ≠ 9 ∧ kd t ≠ 10 ∧ kd t ≠ 12 ∧ kd t ≠ 15 ∧ kd t ≠ 17) : gt_e2 kd ag n t = 0 := by
  unfold gt_e2
  rw [gt_if_f (by omega), gt_if_f (by omega)]
theorem gx_cu {kd : Nat → Nat} {ag : Nat → Int32} {n t tc j : Nat} {P : Nat → Prop} {nt gb us : Nat → Int32} {T : gd_Tb} (A : gt_P kd ag n) (I : gx_TI kd ag n P tc nt gb us T) (ht : t < n) (hj : j < gp_ar (kd t)) (hc : P (gp_ch kd n t j)) (hk : ¬ kd (gp_ch kd n t j) ≤ 5) :
    (∀ v, v < gp_sn kd t + gp_bd (kd t) j → us (gp_ch kd n t j * 32 + v) = nI (gt_u kd ag n (gp_ch kd n t j) v) ∧ gt_u kd ag n (gp_ch kd n t j) v ≤ 2) := by
  intro v hv
  have ok := A.1
  rw [← gp_sn_ch ok ht hj] at hv
  exact ⟨(I.2 _ hc).2.2.1 hk v hv, gt_ule A (gp_ch_lt ok ht hj).1 hk v⟩
section
variable {f_derefLimit f_recordLimit f_frameLimit f_nodeCount f_currentStatus f_faultNode f_typeCount f_currentNode f_currentEnv f_returning f_returnedNumber f_frameCount f_lastOutcome f_lastValue f_derefsMade f_recordsMade : Int32} {a_nodeKind a_nodeArg a_expectedPlaces a_nodeAtPlace a_placeOfNode a_variablesSeen a_nodeType a_gradeOfBinder a_variableType a_usage a_typeKind a_typeGrade a_typeLeft a_typeRight a_frameMark a_frameWord a_frameEnv a_thunkNode a_thunkEnv a_restOfEnv a_binderOfRecord a_gradeOfRecord a_countOfRecord : Nat → Int32}
theorem gx_nk {post : Int32 → St2 → Prop} {t x : Nat} {k : Int32} (hx : x < 32) (h1 : a_typeKind x = k → post 1 (f_derefLimit, f_recordLimit, f_frameLimit, f_nodeCount, f_currentStatus, f_faultNode, f_typeCount, f_currentNode, f_currentEnv, f_returning, f_returnedNumber, f_frameCount, f_lastOutcome, f_lastValue, f_derefsMade, f_recordsMade, a_nodeKind, a_nodeArg, a_expectedPlaces, a_nodeAtPlace, a_placeOfNode, a_variablesSeen, a_nodeType, a_gradeOfBinder, a_variableType, a_usage, a_typeKind, a_typeGrade, a_typeLeft, a_typeRight, a_frameMark, a_frameWord, a_frameEnv, a_thunkNode, a_thunkEnv, a_restOfEnv, a_binderOfRecord, a_gradeOfRecord, a_countOfRecord)) (h0 : ¬ a_typeKind x = k → post 0 (f_derefLimit, f_recordLimit, f_frameLimit, f_nodeCount, 4, nI t, f_typeCount, f_currentNode, f_currentEnv, f_returning, f_returnedNumber, f_frameCount, f_lastOutcome, f_lastValue, f_derefsMade, f_recordsMade, a_nodeKind, a_nodeArg, a_expectedPlaces, a_nodeAtPlace, a_placeOfNode, a_variablesSeen, a_nodeType, a_gradeOfBinder, a_variableType, a_usage, a_typeKind, a_typeGrade, a_typeLeft, a_typeRight, a_frameMark, a_frameWord, a_frameEnv, a_thunkNode, a_thunkEnv, a_restOfEnv, a_binderOfRecord, a_gradeOfRecord, a_countOfRecord)) : wpX_needKind post (f_derefLimit, f_recordLimit, f_frameLimit, f_nodeCount, f_currentStatus, f_faultNode, f_typeCount, f_currentNode, f_currentEnv, f_returning, f_returnedNumber, f_frameCount, f_lastOutcome, f_lastValue, f_derefsMade, f_recordsMade, a_nodeKind, a_nodeArg, a_expectedPlaces, a_nodeAtPlace, a_placeOfNode, a_variablesSeen, a_nodeType, a_gradeOfBinder, a_variableType, a_usage, a_typeKind, a_typeGrade, a_typeLeft, a_typeRight, a_frameMark, a_frameWord, a_frameEnv, a_thunkNode, a_thunkEnv, a_restOfEnv, a_binderOfRecord, a_gradeOfRecord, a_countOfRecord) (nI t) (nI x) k := by
  unfold wpX_needKind
  try dsimp only
  rw [nI_clamp (show x < 2 ^ 31 by omega)]
  exact ⟨vp_in_nI hx (by decide), br_c h1 h0⟩
theorem gx_ux {post : Int32 → Prop} {t c s : Nat} (ht : t < 32) (hV : a_variablesSeen t = nI s) (hs : s < 32) (hc : a_nodeAtPlace (3 * t + 1) = nI c) (hc2 : c < 32) (h : post (a_usage (c * 32 + s))) : wpX_usageOfX post (f_derefLimit, f_recordLimit, f_frameLimit, f_nodeCount, f_currentStatus, f_faultNode, f_typeCount, f_currentNode, f_currentEnv, f_returning, f_returnedNumber, f_frameCount, f_lastOutcome, f_lastValue, f_derefsMade, f_recordsMade, a_nodeKind, a_nodeArg, a_expectedPlaces, a_nodeAtPlace, a_placeOfNode, a_variablesSeen, a_nodeType, a_gradeOfBinder, a_variableType, a_usage, a_typeKind, a_typeGrade, a_typeLeft, a_typeRight, a_frameMark, a_frameWord, a_frameEnv, a_thunkNode, a_thunkEnv, a_restOfEnv, a_binderOfRecord, a_gradeOfRecord, a_countOfRecord) (nI t) := by
  unfold wpX_usageOfX
  try dsimp only
  rw [nI_clamp (show t < 2 ^ 31 by omega), hV]
  exact ⟨vp_in_nI ht (by decide), gx_ui (j := 1) ht (by omega) hc hc2 hs h⟩
theorem gx_uyP {post : Int32 → Prop} {t c s k : Nat} (ht : t < 32) (hk : a_nodeKind t = nI k) (hk2 : k ≤ 17) (k15 : k ≠ 15) (hV : a_variablesSeen t = nI s) (hs : s + 1 < 32) (hc : a_nodeAtPlace (3 * t + 1) = nI c) (hc2 : c < 32) (h : post (a_usage (c * 32 + (s + 1)))) : wpX_usageOfY post (f_derefLimit, f_recordLimit, f_frameLimit, f_nodeCount, f_currentStatus, f_faultNode, f_typeCount, f_currentNode, f_currentEnv, f_returning, f_returnedNumber, f_frameCount, f_lastOutcome, f_lastValue, f_derefsMade, f_recordsMade, a_nodeKind, a_nodeArg, a_expectedPlaces, a_nodeAtPlace, a_placeOfNode, a_variablesSeen, a_nodeType, a_gradeOfBinder, a_variableType, a_usage, a_typeKind, a_typeGrade, a_typeLeft, a_typeRight, a_frameMark, a_frameWord, a_frameEnv, a_thunkNode, a_thunkEnv, a_restOfEnv, a_binderOfRecord, a_gradeOfRecord, a_countOfRecord) (nI t) := by
  unfold wpX_usageOfY
  try dsimp only
  rw [nI_clamp (show t < 2 ^ 31 by omega), hV, hk, nI_1]
  exact ⟨vp_in_nI ht (by decide), pk_eq k 15 (fun z => absurd z k15) (fun _ => ⟨vp_in_nI ht (by decide), gx_ui (j := 1) ht (by omega) hc hc2 hs h⟩)⟩
theorem gx_uyC {post : Int32 → Prop} {t c s : Nat} (ht : t < 32) (hk : a_nodeKind t = nI 15) (hV : a_variablesSeen t = nI s) (hs : s < 32) (hc : a_nodeAtPlace (3 * t + 2) = nI c) (hc2 : c < 32) (h : post (a_usage (c * 32 + s))) : wpX_usageOfY post (f_derefLimit, f_recordLimit, f_frameLimit, f_nodeCount, f_currentStatus, f_faultNode, f_typeCount, f_currentNode, f_currentEnv, f_returning, f_returnedNumber, f_frameCount, f_lastOutcome, f_lastValue, f_derefsMade, f_recordsMade, a_nodeKind, a_nodeArg, a_expectedPlaces, a_nodeAtPlace, a_placeOfNode, a_variablesSeen, a_nodeType, a_gradeOfBinder, a_variableType, a_usage, a_typeKind, a_typeGrade, a_typeLeft, a_typeRight, a_frameMark, a_frameWord, a_frameEnv, a_thunkNode, a_thunkEnv, a_restOfEnv, a_binderOfRecord, a_gradeOfRecord, a_countOfRecord) (nI t) := by
  unfold wpX_usageOfY
  try dsimp only
  rw [nI_clamp (show t < 2 ^ 31 by omega), hV, hk]
  exact ⟨vp_in_nI ht (by decide), br_t (by decide) ⟨vp_in_nI ht (by decide), gx_ui (j := 2) ht (by omega) hc hc2 hs h⟩⟩
theorem gx_sg {post : St2 → Prop} {t a m : Nat} (ht : t < 32) (ha : a_nodeArg t = nI a) (ha3 : a ≤ 3) (hm : m ≤ 2)
    (h : ¬ (¬ a_nodeArg t = 3 ∧ (a_nodeArg t).toNatClampNeg < m) → post (f_derefLimit, f_recordLimit, f_frameLimit, f_nodeCount, f_currentStatus, f_faultNode, f_typeCount, f_currentNode, f_currentEnv, f_returning, f_returnedNumber, f_frameCount, f_lastOutcome, f_lastValue, f_derefsMade, f_recordsMade, a_nodeKind, a_nodeArg, a_expectedPlaces, a_nodeAtPlace, a_placeOfNode, a_variablesSeen, a_nodeType, upd a_gradeOfBinder t (nI (gt_se (a_nodeArg t) m)), a_variableType, a_usage, a_typeKind, a_typeGrade, a_typeLeft, a_typeRight, a_frameMark, a_frameWord, a_frameEnv, a_thunkNode, a_thunkEnv, a_restOfEnv, a_binderOfRecord, a_gradeOfRecord, a_countOfRecord))
    (hF : (¬ a_nodeArg t = 3 ∧ (a_nodeArg t).toNatClampNeg < m) → post (f_derefLimit, f_recordLimit, f_frameLimit, f_nodeCount, 5, nI t, f_typeCount, f_currentNode, f_currentEnv, f_returning, f_returnedNumber, f_frameCount, f_lastOutcome, f_lastValue, f_derefsMade, f_recordsMade, a_nodeKind, a_nodeArg, a_expectedPlaces, a_nodeAtPlace, a_placeOfNode, a_variablesSeen, a_nodeType, upd a_gradeOfBinder t (nI (gt_se (a_nodeArg t) m)), a_variableType, a_usage, a_typeKind, a_typeGrade, a_typeLeft, a_typeRight, a_frameMark, a_frameWord, a_frameEnv, a_thunkNode, a_thunkEnv, a_restOfEnv, a_binderOfRecord, a_gradeOfRecord, a_countOfRecord)) : wpX_settleGrade post (f_derefLimit, f_recordLimit, f_frameLimit, f_nodeCount, f_currentStatus, f_faultNode, f_typeCount, f_currentNode, f_currentEnv, f_returning, f_returnedNumber, f_frameCount, f_lastOutcome, f_lastValue, f_derefsMade, f_recordsMade, a_nodeKind, a_nodeArg, a_expectedPlaces, a_nodeAtPlace, a_placeOfNode, a_variablesSeen, a_nodeType, a_gradeOfBinder, a_variableType, a_usage, a_typeKind, a_typeGrade, a_typeLeft, a_typeRight, a_frameMark, a_frameWord, a_frameEnv, a_thunkNode, a_thunkEnv, a_restOfEnv, a_binderOfRecord, a_gradeOfRecord, a_countOfRecord) (nI t) (nI m) := by
  unfold wpX_settleGrade
  try dsimp only
  have v := vp_in_nI ht (by decide)
  rw [nI_clamp (show t < 2 ^ 31 by omega)]
  refine ⟨v, br_c (fun z => ⟨v, nm_e ?_⟩) (fun z => ⟨v, v, nm_e ⟨v, ?_⟩⟩)⟩
  · have e : gt_se (a_nodeArg t) m = m := if_pos z
    rw [e] at h
    exact h (fun y => y.1 z)
  · have ea : (a_nodeArg t).toNatClampNeg = a := by rw [ha]; exact nI_clamp (by omega)
    have e : nI (gt_se (a_nodeArg t) m) = a_nodeArg t := by unfold gt_se; rw [if_neg z, ea, ha]
    rw [e] at h hF
    rw [ea] at h hF
    rw [ha] at h hF z ⊢
    refine pk_le m a (fun y => h (fun x => by omega)) (fun y => hF ⟨z, y⟩)
theorem gx_cVar {post : St2 → Prop} {kd : Nat → Nat} {n t tc : Nat} {P : Nat → Prop} (A : gt_P kd a_nodeArg n) (S : gx_S kd n a_nodeKind a_variablesSeen a_nodeAtPlace) (I : gx_TI kd a_nodeArg n P tc a_nodeType a_gradeOfBinder a_usage (a_typeKind, a_typeGrade, a_typeLeft, a_typeRight)) (ht : t < n) (hc : ∀ j, j < gp_ar (kd t) → P (gp_ch kd n t j)) (hnP : ¬ P t) (htc : tc < 32) (hk : kd t = 6) (hVI : ∀ v, v < gp_sn kd t → ∃ x, x < tc ∧ a_variableType v = nI x ∧ gd_D (a_typeKind, a_typeGrade, a_typeLeft, a_typeRight) x = gt_G kd a_nodeArg n t v) (hOK : gt_e2 kd a_nodeArg n t = 0 → ∀ tc' nt gb us tk tg tl tr, gx_TI kd a_nodeArg n (fun d => P d ∨ d = t) tc' nt gb us (tk, tg, tl, tr) → tc ≤ tc' → tc' ≤ tc + 1 → gd_ext (a_typeKind, a_typeGrade, a_typeLeft, a_typeRight) (tk, tg, tl, tr) tc → post (f_derefLimit, f_recordLimit, f_frameLimit, f_nodeCount, f_currentStatus, f_faultNode, nI tc', f_currentNode, f_currentEnv, f_returning, f_returnedNumber, f_frameCount, f_lastOutcome, f_lastValue, f_derefsMade, f_recordsMade, a_nodeKind, a_nodeArg, a_expectedPlaces, a_nodeAtPlace, a_placeOfNode, a_variablesSeen, nt, gb, a_variableType, us, tk, tg, tl, tr, a_frameMark, a_frameWord, a_frameEnv, a_thunkNode, a_thunkEnv, a_restOfEnv, a_binderOfRecord, a_gradeOfRecord, a_countOfRecord)) : wpX_completeVariable post (f_derefLimit, f_recordLimit, f_frameLimit, f_nodeCount, f_currentStatus, f_faultNode, nI tc, f_currentNode, f_currentEnv, f_returning, f_returnedNumber, f_frameCount, f_lastOutcome, f_lastValue, f_derefsMade, f_recordsMade, a_nodeKind, a_nodeArg, a_expectedPlaces, a_nodeAtPlace, a_placeOfNode, a_variablesSeen, a_nodeType, a_gradeOfBinder, a_variableType, a_usage, a_typeKind, a_typeGrade, a_typeLeft, a_typeRight, a_frameMark, a_frameWord, a_frameEnv, a_thunkNode, a_thunkEnv, a_restOfEnv, a_binderOfRecord, a_gradeOfRecord, a_countOfRecord) (nI t) := by
  have hA := A
  obtain ⟨ok, so, kr, sc, -⟩ := A
  have hn := ok.2.1
  have t32 : t < 32 := by omega
  have v := vp_in_nI t32 (by decide)
  have et : (nI t).toNatClampNeg = t := nI_clamp (by omega)
  have sl := gp_sn_lt ok ht
  obtain ⟨i, hi, ei⟩ := sc t ht hk
  have lv : gt_lv kd a_nodeArg t = gp_sn kd t - 1 - i := by unfold gt_lv; rw [ei, nI_clamp (by omega)]
  obtain ⟨x, x1, x2, x3⟩ := hVI (gp_sn kd t - 1 - i) (by omega)
  unfold wpX_completeVariable
  try dsimp only
  rw [et, S.2.1 t ht, ei, show nI (gp_sn kd t) - 1 = nI (gp_sn kd t - 1) from pk_sub (b := 1) (by omega), pk_sub (by omega)]
  refine ⟨v, v, nm_e ⟨vp_in_nI (by omega) (by decide), v, ?_⟩⟩
  rw [nI_clamp (show gp_sn kd t - 1 - i < 2 ^ 31 by omega), x2]
  refine nm_e (gx_clr (s := gp_sn kd t) t32 (by omega) (S.2.1 t ht) ?_)
  try dsimp only
  rw [gx_ix, nI_clamp (show t * 32 + (gp_sn kd t - 1 - i) < 2 ^ 31 by omega)]
  refine ⟨vp_in_nI (by omega) (by decide), nm_e (hOK (gt_e2_z (by omega)) tc _ _ _ _ _ _ _ (gx_TI_add ok I ht hnP (Nat.le_refl _) I.1 (gd_ext_r _ _) x1 ?_ ?_ ?_ (fun _ _ => rfl) (fun z => by omega)) (Nat.le_refl _) (by omega) (gd_ext_r _ _))⟩
  · rw [x3, ← lv, show gt_t kd a_nodeArg n t = (gt_f kd a_nodeArg n t).1 from rfl, gt_q6 ok ht hk (gt_P_lv hA ht hk)]
  · intro j hj
    rw [pk_un (by omega), gx_row_off (by omega) hj]
  · intro _ w hw
    rw [show gt_u kd a_nodeArg n t w = (gt_f kd a_nodeArg n t).2.1 w from rfl, gt_q6 ok ht hk (gt_P_lv hA ht hk), lv]
    by_cases z : w = gp_sn kd t - 1 - i
    · rw [z, pk_us]
      show (1 : Int32) = nI (if _ then 1 else 0)
      rw [if_pos rfl]; rfl
    · rw [pk_un (by omega), gx_row_in hw]
      show _ = nI (if _ then 1 else 0)
      rw [if_neg z]
theorem gx_cAdd {post : St2 → Prop} {kd : Nat → Nat} {n t tc : Nat} {P : Nat → Prop} (A : gt_P kd a_nodeArg n) (S : gx_S kd n a_nodeKind a_variablesSeen a_nodeAtPlace) (I : gx_TI kd a_nodeArg n P tc a_nodeType a_gradeOfBinder a_usage (a_typeKind, a_typeGrade, a_typeLeft, a_typeRight)) (ht : t < n) (hc : ∀ j, j < gp_ar (kd t) → P (gp_ch kd n t j)) (hnP : ¬ P t) (htc : tc < 32) (hk : kd t = 8) (hOK : gt_e2 kd a_nodeArg n t = 0 → ∀ tc' nt gb us tk tg tl tr, gx_TI kd a_nodeArg n (fun d => P d ∨ d = t) tc' nt gb us (tk, tg, tl, tr) → tc ≤ tc' → tc' ≤ tc + 1 → gd_ext (a_typeKind, a_typeGrade, a_typeLeft, a_typeRight) (tk, tg, tl, tr) tc → post (f_derefLimit, f_recordLimit, f_frameLimit, f_nodeCount, f_currentStatus, f_faultNode, nI tc', f_currentNode, f_currentEnv, f_returning, f_returnedNumber, f_frameCount, f_lastOutcome, f_lastValue, f_derefsMade, f_recordsMade, a_nodeKind, a_nodeArg, a_expectedPlaces, a_nodeAtPlace, a_placeOfNode, a_variablesSeen, nt, gb, a_variableType, us, tk, tg, tl, tr, a_frameMark, a_frameWord, a_frameEnv, a_thunkNode, a_thunkEnv, a_restOfEnv, a_binderOfRecord, a_gradeOfRecord, a_countOfRecord)) (hF : gt_e2 kd a_nodeArg n t ≠ 0 → ∀ tc' nt gb us tk tg tl tr, post (f_derefLimit, f_recordLimit, f_frameLimit, f_nodeCount, nI (gt_e2 kd a_nodeArg n t), nI t, tc', f_currentNode, f_currentEnv, f_returning, f_returnedNumber, f_frameCount, f_lastOutcome, f_lastValue, f_derefsMade, f_recordsMade, a_nodeKind, a_nodeArg, a_expectedPlaces, a_nodeAtPlace, a_placeOfNode, a_variablesSeen, nt, gb, a_variableType, us, tk, tg, tl, tr, a_frameMark, a_frameWord, a_frameEnv, a_thunkNode, a_thunkEnv, a_restOfEnv, a_binderOfRecord, a_gradeOfRecord, a_countOfRecord)) : wpX_completeAdd post (f_derefLimit, f_recordLimit, f_frameLimit, f_nodeCount, f_currentStatus, f_faultNode, nI tc, f_currentNode, f_currentEnv, f_returning, f_returnedNumber, f_frameCount, f_lastOutcome, f_lastValue, f_derefsMade, f_recordsMade, a_nodeKind, a_nodeArg, a_expectedPlaces, a_nodeAtPlace, a_placeOfNode, a_variablesSeen, a_nodeType, a_gradeOfBinder, a_variableType, a_usage, a_typeKind, a_typeGrade, a_typeLeft, a_typeRight, a_frameMark, a_frameWord, a_frameEnv, a_thunkNode, a_thunkEnv, a_restOfEnv, a_binderOfRecord, a_gradeOfRecord, a_countOfRecord) (nI t) := by
  have hA := A
  obtain ⟨ok, so, kr, sc, -⟩ := A
  have hn := ok.2.1
  have t32 : t < 32 := by omega
  have v := vp_in_nI t32 (by decide)
  have et : (nI t).toNatClampNeg = t := nI_clamp (by omega)
  have sl := gp_sn_lt ok ht
  have ar0 : 0 < gp_ar (kd t) := by rw [hk]; decide
  have ar1 : 1 < gp_ar (kd t) := by rw [hk]; decide
  have m0 := gp_tm_ch ok so ht (by omega) ar0 (by omega)
  have m1 := gp_tm_ch ok so ht (by omega) ar1 (by omega)
  obtain ⟨c1, c2, c3, c4⟩ := gx_chf ok S ht ar0
  obtain ⟨d1, d2, d3, d4⟩ := gx_chf ok S ht ar1
  obtain ⟨_, ⟨x, x1, x2, x3⟩, _⟩ := I.2 _ (hc 0 ar0)
  obtain ⟨_, ⟨y, y1, y2, y3⟩, _⟩ := I.2 _ (hc 1 ar1)
  have u0 := gx_cu hA I ht ar0 (hc 0 ar0) m0
  have u1 := gx_cu hA I ht ar1 (hc 1 ar1) m1
  have kx := (gd_k x3).1
  have ky := (gd_k y3).1
  dsimp only at kx ky
  have e4 : ¬ (gt_k (gt_t kd a_nodeArg n (gp_ch kd n t 0)) = 1 ∧ gt_k (gt_t kd a_nodeArg n (gp_ch kd n t 1)) = 1) → gt_e2 kd a_nodeArg n t = 4 := fun z => gt_if_t (Or.inl ⟨hk, z⟩)
  have fl : ¬ (gt_k (gt_t kd a_nodeArg n (gp_ch kd n t 0)) = 1 ∧ gt_k (gt_t kd a_nodeArg n (gp_ch kd n t 1)) = 1) → post (f_derefLimit, f_recordLimit, f_frameLimit, f_nodeCount, 4, nI t, nI tc, f_currentNode, f_currentEnv, f_returning, f_returnedNumber, f_frameCount, f_lastOutcome, f_lastValue, f_derefsMade, f_recordsMade, a_nodeKind, a_nodeArg, a_expectedPlaces, a_nodeAtPlace, a_placeOfNode, a_variablesSeen, a_nodeType, a_gradeOfBinder, a_variableType, a_usage, a_typeKind, a_typeGrade, a_typeLeft, a_typeRight, a_frameMark, a_frameWord, a_frameEnv, a_thunkNode, a_thunkEnv, a_restOfEnv, a_binderOfRecord, a_gradeOfRecord, a_countOfRecord) := fun z => by
    have := hF (by rw [e4 z]; decide) (nI tc) a_nodeType a_gradeOfBinder a_usage a_typeKind a_typeGrade a_typeLeft a_typeRight
    rw [e4 z] at this
    exact this
  unfold wpX_completeAdd
  try dsimp only
  refine gx_tc (j := 0) t32 c4 c3 c1 (gx_tc (j := 1) t32 d4 d3 d1 ?_)
  rw [x2, y2]
  refine gx_nk (by omega) (fun z => br_f (by decide) ?_) (fun z => br_t rfl (fl (fun y => z (kx.trans y.1))))
  try dsimp only
  refine gx_nk (by omega) (fun w => br_f (by decide) ?_) (fun w => br_t rfl (fl (fun y => w (ky.trans y.2))))
  try dsimp only
  try rw [et]
  refine ⟨v, nm_e (gx_au (s := gp_sn kd t) (ja := 0) (jb := 1) (ga := 1) (gb := 1) t32 (by omega) (S.2.1 t ht) (by omega) (by omega) c3 d3 c1 d1 c2 d2 (by omega) (by omega) (fun w hw => u0 w (by omega)) (fun w hw => u1 w (by omega)) ?_)⟩
  have e0 : gt_e2 kd a_nodeArg n t = 0 := by
    unfold gt_e2
    rw [gt_if_f (by
      rintro (⟨_, q⟩ | ⟨q, _⟩ | ⟨q, _⟩)
      · exact q ⟨kx.symm.trans z, ky.symm.trans w⟩
      · omega
      · omega), gt_if_f (by omega)]
  try dsimp only
  refine hOK e0 tc _ _ _ _ _ _ _ (gx_TI_add ok I ht hnP (Nat.le_refl _) I.1 (gd_ext_r _ _) x1 ?_ ?_ ?_ (fun _ _ => rfl) (fun z => by omega)) (Nat.le_refl _) (by omega) (gd_ext_r _ _)
  · rw [x3, show gt_t kd a_nodeArg n t = (gt_f kd a_nodeArg n t).1 from rfl, gt_q8 ok ht hk]
  · intro j hj
    rw [gx_row_off (by omega) hj]
  · intro _ w hw
    rw [show gt_u kd a_nodeArg n t w = (gt_f kd a_nodeArg n t).2.1 w from rfl, gt_q8 ok ht hk, gx_row_in hw, gt_mul_1 (u0 w (by omega)).2, gt_mul_1 (u1 w (by omega)).2]
end

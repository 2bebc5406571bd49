/-! the component's type table and usage rows -/
/-- row t, levels below s, holds f -/
def gx_row (us : Nat → Int32) (t s : Nat) (f : Nat → Nat) : Nat → Int32 := fun i => if t * 32 ≤ i ∧ i < t * 32 + s then nI (f (i - t * 32)) else us i
theorem gx_row_0 (us : Nat → Int32) (t : Nat) (f : Nat → Nat) : gx_row us t 0 f = us := by
  funext i
  unfold gx_row
  rw [if_neg (by omega)]
theorem gx_row_s (us : Nat → Int32) (t s : Nat) (f : Nat → Nat) : upd (gx_row us t s f) (t * 32 + s) (nI (f s)) = gx_row us t (s + 1) f := by
  funext i
  unfold upd gx_row
  by_cases h : i = t * 32 + s
  · rw [if_pos h, if_pos (by omega), h, Nat.add_sub_cancel_left]
  · rw [if_neg h]
    by_cases g : t * 32 ≤ i ∧ i < t * 32 + s
    · rw [if_pos g, if_pos (by omega)]
    · rw [if_neg g, if_neg (by omega)]
theorem gx_row_in {us : Nat → Int32} {t s : Nat} {f : Nat → Nat} {v : Nat} (h : v < s) : gx_row us t s f (t * 32 + v) = nI (f v) := by
  unfold gx_row
  rw [if_pos (by omega), Nat.add_sub_cancel_left]
theorem gx_row_off {us : Nat → Int32} {t s : Nat} {f : Nat → Nat} {i : Nat} (hs : s ≤ 32) (h : i < t * 32 ∨ t * 32 + 32 ≤ i) : gx_row us t s f i = us i := by
  unfold gx_row
  rw [if_neg (by omega)]
theorem gx_row_o {us : Nat → Int32} {t s c : Nat} {f : Nat → Nat} {v : Nat} (hs : s ≤ 32) (hv : v < 32) (h : c ≠ t) : gx_row us t s f (c * 32 + v) = us (c * 32 + v) := gx_row_off hs (by omega)
theorem gx_ix {t v : Nat} : (nI t * 32) + nI v = nI (t * 32 + v) := by rw [show (nI t * 32 : Int32) = nI (t * 32) from pk_mul t 32, nI_add]
theorem gx_ix3 {t j : Nat} : (nI t * 3) + nI j = nI (3 * t + j) := by rw [show (nI t * 3 : Int32) = nI (t * 3) from pk_mul t 3, nI_add, Nat.mul_comm]
theorem gx_prod {post : Int32 → Prop} {a b : Nat} (ha : a ≤ 2) (hb : b ≤ 2) (h : post (nI (gt_mul a b))) : wpX_product post () (nI a) (nI b) := by
  have hl : a * b ≤ 4 := Nat.le_trans (Nat.mul_le_mul ha hb) (by decide)
  unfold wpX_product
  rw [pk_mul]
  unfold gt_mul at h
  refine pk_le (a * b) 2 (fun z => ?_) (fun z => ?_)
  · rw [if_neg (by omega)] at h; exact h
  · rw [if_pos z] at h; exact h
theorem gx_sum {post : Int32 → Prop} {a b : Nat} (ha : a ≤ 2) (hb : b ≤ 2) (h : post (nI (gt_add a b))) : wpX_sum post () (nI a) (nI b) := by
  unfold wpX_sum
  rw [nI_add]
  unfold gt_add at h
  refine pk_le (a + b) 2 (fun z => ?_) (fun z => ?_)
  · rw [if_neg (by omega)] at h; exact h
  · rw [if_pos z] at h; exact h
theorem gx_join {post : Int32 → Prop} {a b : Nat} (ha : a ≤ 2) (hb : b ≤ 2) (h : post (nI (gt_max a b))) : wpX_join post () (nI a) (nI b) := by
  unfold wpX_join
  unfold gt_max at h
  refine pk_le a b (fun z => ?_) (fun z => ?_)
  · rw [if_neg (by omega)] at h; exact h
  · rw [if_pos z] at h; exact h
theorem gt_mul_1 {a : Nat} (h : a ≤ 2) : gt_mul 1 a = a := by unfold gt_mul; rw [Nat.one_mul, if_neg (by omega)]
theorem gt_mul_0 (a : Nat) : gt_mul 0 a = 0 := by unfold gt_mul; rw [Nat.zero_mul]; rfl
theorem gt_add_0 {a : Nat} (h : a ≤ 2) : gt_add a 0 = a := by unfold gt_add; rw [Nat.add_zero, if_neg (by omega)]
section
variable {f_derefLimit f_recordLimit f_frameLimit f_nodeCount f_currentStatus f_faultNode f_typeCount f_currentNode f_currentEnv f_returning f_returnedNumber f_frameCount f_lastOutcome f_lastValue f_derefsMade f_recordsMade : Int32} {a_nodeKind a_nodeArg a_expectedPlaces a_nodeAtPlace a_placeOfNode a_variablesSeen a_nodeType a_gradeOfBinder a_variableType a_usage a_typeKind a_typeGrade a_typeLeft a_typeRight a_frameMark a_frameWord a_frameEnv a_thunkNode a_thunkEnv a_restOfEnv a_binderOfRecord a_gradeOfRecord a_countOfRecord : Nat → Int32}
theorem gx_co {post : Int32 → Prop} {t j c : Nat} (ht : t < 32) (hj : j ≤ 2) (hc : a_nodeAtPlace (3 * t + j) = nI c) (h : post (nI c)) : wpX_childOf post (f_derefLimit, f_recordLimit, f_frameLimit, f_nodeCount, f_currentStatus, f_faultNode, f_typeCount, f_currentNode, f_currentEnv, f_returning, f_returnedNumber, f_frameCount, f_lastOutcome, f_lastValue, f_derefsMade, f_recordsMade, a_nodeKind, a_nodeArg, a_expectedPlaces, a_nodeAtPlace, a_placeOfNode, a_variablesSeen, a_nodeType, a_gradeOfBinder, a_variableType, a_usage, a_typeKind, a_typeGrade, a_typeLeft, a_typeRight, a_frameMark, a_frameWord, a_frameEnv, a_thunkNode, a_thunkEnv, a_restOfEnv, a_binderOfRecord, a_gradeOfRecord, a_countOfRecord) (nI t) (nI j) := by
  unfold wpX_childOf
  try dsimp only
  rw [gx_ix3, nI_clamp (by omega), hc]
  exact ⟨vp_in_nI (by omega) (by decide), h⟩
theorem gx_tc {post : Int32 → Prop} {t j c : Nat} (ht : t < 32) (hj : j ≤ 2) (hc : a_nodeAtPlace (3 * t + j) = nI c) (hc2 : c < 32) (h : post (a_nodeType c)) : wpX_typeOfChild post (f_derefLimit, f_recordLimit, f_frameLimit, f_nodeCount, f_currentStatus, f_faultNode, f_typeCount, f_currentNode, f_currentEnv, f_returning, f_returnedNumber, f_frameCount, f_lastOutcome, f_lastValue, f_derefsMade, f_recordsMade, a_nodeKind, a_nodeArg, a_expectedPlaces, a_nodeAtPlace, a_placeOfNode, a_variablesSeen, a_nodeType, a_gradeOfBinder, a_variableType, a_usage, a_typeKind, a_typeGrade, a_typeLeft, a_typeRight, a_frameMark, a_frameWord, a_frameEnv, a_thunkNode, a_thunkEnv, a_restOfEnv, a_binderOfRecord, a_gradeOfRecord, a_countOfRecord) (nI t) (nI j) := by
  unfold wpX_typeOfChild
  try dsimp only
  refine gx_co ht hj hc ?_
  try dsimp only
  rw [nI_clamp (by omega)]
  exact ⟨vp_in_nI hc2 (by decide), h⟩
theorem gx_ui {post : Int32 → Prop} {t j c v : Nat} (ht : t < 32) (hj : j ≤ 2) (hc : a_nodeAtPlace (3 * t + j) = nI c) (hc2 : c < 32) (hv : v < 32) (h : post (a_usage (c * 32 + v))) : wpX_usageIn post (f_derefLimit, f_recordLimit, f_frameLimit, f_nodeCount, f_currentStatus, f_faultNode, f_typeCount, f_currentNode, f_currentEnv, f_returning, f_returnedNumber, f_frameCount, f_lastOutcome, f_lastValue, f_derefsMade, f_recordsMade, a_nodeKind, a_nodeArg, a_expectedPlaces, a_nodeAtPlace, a_placeOfNode, a_variablesSeen, a_nodeType, a_gradeOfBinder, a_variableType, a_usage, a_typeKind, a_typeGrade, a_typeLeft, a_typeRight, a_frameMark, a_frameWord, a_frameEnv, a_thunkNode, a_thunkEnv, a_restOfEnv, a_binderOfRecord, a_gradeOfRecord, a_countOfRecord) (nI t) (nI j) (nI v) := by
  unfold wpX_usageIn
  try dsimp only
  rw [gx_ix3, nI_clamp (show 3 * t + j < 2 ^ 31 by omega), hc, gx_ix, nI_clamp (show c * 32 + v < 2 ^ 31 by omega)]
  exact ⟨vp_in_nI (by omega) (by decide), vp_in_nI (by omega) (by decide), h⟩
theorem gx_clr_l {post : St2 → Prop} {t s : Nat} {us : Nat → Int32} (ht : t < 32) (hs : s ≤ 32) (hV : a_variablesSeen t = nI s) (h : post (f_derefLimit, f_recordLimit, f_frameLimit, f_nodeCount, f_currentStatus, f_faultNode, f_typeCount, f_currentNode, f_currentEnv, f_returning, f_returnedNumber, f_frameCount, f_lastOutcome, f_lastValue, f_derefsMade, f_recordsMade, a_nodeKind, a_nodeArg, a_expectedPlaces, a_nodeAtPlace, a_placeOfNode, a_variablesSeen, a_nodeType, a_gradeOfBinder, a_variableType, gx_row us t s (fun _ => 0), a_typeKind, a_typeGrade, a_typeLeft, a_typeRight, a_frameMark, a_frameWord, a_frameEnv, a_thunkNode, a_thunkEnv, a_restOfEnv, a_binderOfRecord, a_gradeOfRecord, a_countOfRecord)) :
    ∀ d v fuel, v + d = s → d < fuel → wX_clearUsage_2 post (nI t) f_derefLimit f_recordLimit f_frameLimit f_nodeCount f_currentStatus f_faultNode f_typeCount f_currentNode f_currentEnv f_returning f_returnedNumber f_frameCount f_lastOutcome f_lastValue f_derefsMade f_recordsMade fuel (nI v) a_nodeKind a_nodeArg a_expectedPlaces a_nodeAtPlace a_placeOfNode a_variablesSeen a_nodeType a_gradeOfBinder a_variableType (gx_row us t v (fun _ => 0)) a_typeKind a_typeGrade a_typeLeft a_typeRight a_frameMark a_frameWord a_frameEnv a_thunkNode a_thunkEnv a_restOfEnv a_binderOfRecord a_gradeOfRecord a_countOfRecord
  | _, _, 0, _, hf => by omega
  | 0, v, fuel + 1, hv, hf => by
    have e : v = s := by omega
    subst e
    refine ⟨vp_in_nI ht (by decide), ?_⟩
    rw [nI_clamp (show t < 2 ^ 31 by omega), hV]
    exact br_t (nI_le (Nat.le_refl _) (by omega)) h
  | d + 1, v, fuel + 1, hv, hf => by
    refine ⟨vp_in_nI ht (by decide), ?_⟩
    rw [nI_clamp (show t < 2 ^ 31 by omega), hV, gx_ix, nI_clamp (show t * 32 + v < 2 ^ 31 by omega)]
    have IH := gx_clr_l (us := us) ht hs hV h d (v + 1) fuel (by omega) (by omega)
    refine br_f (nI_ge (by omega) (by omega)) ⟨vp_in_nI (by omega) (by decide), nm_r (gx_row_s us t v (fun _ => 0)) (nm_r (nI_1 v) IH)⟩
theorem gx_clr {post : St2 → Prop} {t s : Nat} (ht : t < 32) (hs : s ≤ 32) (hV : a_variablesSeen t = nI s) (h : post (f_derefLimit, f_recordLimit, f_frameLimit, f_nodeCount, f_currentStatus, f_faultNode, f_typeCount, f_currentNode, f_currentEnv, f_returning, f_returnedNumber, f_frameCount, f_lastOutcome, f_lastValue, f_derefsMade, f_recordsMade, a_nodeKind, a_nodeArg, a_expectedPlaces, a_nodeAtPlace, a_placeOfNode, a_variablesSeen, a_nodeType, a_gradeOfBinder, a_variableType, gx_row a_usage t s (fun _ => 0), a_typeKind, a_typeGrade, a_typeLeft, a_typeRight, a_frameMark, a_frameWord, a_frameEnv, a_thunkNode, a_thunkEnv, a_restOfEnv, a_binderOfRecord, a_gradeOfRecord, a_countOfRecord)) : wpX_clearUsage post (f_derefLimit, f_recordLimit, f_frameLimit, f_nodeCount, f_currentStatus, f_faultNode, f_typeCount, f_currentNode, f_currentEnv, f_returning, f_returnedNumber, f_frameCount, f_lastOutcome, f_lastValue, f_derefsMade, f_recordsMade, a_nodeKind, a_nodeArg, a_expectedPlaces, a_nodeAtPlace, a_placeOfNode, a_variablesSeen, a_nodeType, a_gradeOfBinder, a_variableType, a_usage, a_typeKind, a_typeGrade, a_typeLeft, a_typeRight, a_frameMark, a_frameWord, a_frameEnv, a_thunkNode, a_thunkEnv, a_restOfEnv, a_binderOfRecord, a_gradeOfRecord, a_countOfRecord) (nI t) := by
  have := gx_clr_l (us := a_usage) ht hs hV h s 0 (s + 1) (by omega) (by omega)
  rw [gx_row_0] at this
  exact ⟨s + 1, this⟩
theorem gx_au_l {post : St2 → Prop} {t s ja jb ca cb ga gb : Nat} {us : Nat → Int32} {pa pb : Nat → Nat} (ht : t < 32) (hs : s ≤ 32) (hV : a_variablesSeen t = nI s) (hja : ja ≤ 2) (hjb : jb ≤ 2)
    (ha : a_nodeAtPlace (3 * t + ja) = nI ca) (hb : a_nodeAtPlace (3 * t + jb) = nI cb) (hca : ca < 32) (hcb : cb < 32) (na : ca ≠ t) (nb : cb ≠ t) (hga : ga ≤ 2) (hgb : gb ≤ 2)
    (hpa : ∀ v, v < s → us (ca * 32 + v) = nI (pa v) ∧ pa v ≤ 2) (hpb : ∀ v, v < s → us (cb * 32 + v) = nI (pb v) ∧ pb v ≤ 2)
    (h : post (f_derefLimit, f_recordLimit, f_frameLimit, f_nodeCount, f_currentStatus, f_faultNode, f_typeCount, f_currentNode, f_currentEnv, f_returning, f_returnedNumber, f_frameCount, f_lastOutcome, f_lastValue, f_derefsMade, f_recordsMade, a_nodeKind, a_nodeArg, a_expectedPlaces, a_nodeAtPlace, a_placeOfNode, a_variablesSeen, a_nodeType, a_gradeOfBinder, a_variableType, gx_row us t s (fun v => gt_add (gt_mul ga (pa v)) (gt_mul gb (pb v))), a_typeKind, a_typeGrade, a_typeLeft, a_typeRight, a_frameMark, a_frameWord, a_frameEnv, a_thunkNode, a_thunkEnv, a_restOfEnv, a_binderOfRecord, a_gradeOfRecord, a_countOfRecord)) :
    ∀ d v fuel, v + d = s → d < fuel → wX_addUsage_3 post (nI t) (nI ja) (nI ga) (nI jb) (nI gb) f_derefLimit f_recordLimit f_frameLimit f_nodeCount f_currentStatus f_faultNode f_typeCount f_currentNode f_currentEnv f_returning f_returnedNumber f_frameCount f_lastOutcome f_lastValue f_derefsMade f_recordsMade fuel (nI v) a_nodeKind a_nodeArg a_expectedPlaces a_nodeAtPlace a_placeOfNode a_variablesSeen a_nodeType a_gradeOfBinder a_variableType (gx_row us t v (fun v => gt_add (gt_mul ga (pa v)) (gt_mul gb (pb v)))) a_typeKind a_typeGrade a_typeLeft a_typeRight a_frameMark a_frameWord a_frameEnv a_thunkNode a_thunkEnv a_restOfEnv a_binderOfRecord a_gradeOfRecord a_countOfRecord
  | _, _, 0, _, hf => by omega
  | 0, v, fuel + 1, hv, hf => by
    have e : v = s := by omega
    subst e
    refine ⟨vp_in_nI ht (by decide), ?_⟩
    rw [nI_clamp (show t < 2 ^ 31 by omega), hV]
    exact br_t (nI_le (Nat.le_refl _) (by omega)) h
  | d + 1, v, fuel + 1, hv, hf => by
    refine ⟨vp_in_nI ht (by decide), ?_⟩
    rw [nI_clamp (show t < 2 ^ 31 by omega), hV]
    have IH := gx_au_l ht hs hV hja hjb ha hb hca hcb na nb hga hgb hpa hpb h d (v + 1) fuel (by omega) (by omega)
    obtain ⟨a1, a2⟩ := hpa v (by omega)
    obtain ⟨b1, b2⟩ := hpb v (by omega)
    refine br_f (nI_ge (by omega) (by omega)) (gx_ui ht hja ha hca (by omega) ?_)
    rw [gx_row_o (by omega) (by omega) na, a1]
    refine gx_ui ht hjb hb hcb (by omega) ?_
    rw [gx_row_o (by omega) (by omega) nb, b1]
    refine gx_prod hga a2 (gx_prod hgb b2 (gx_sum (gt_mul_le _ _) (gt_mul_le _ _) ?_))
    rw [gx_ix, nI_clamp (show t * 32 + v < 2 ^ 31 by omega)]
    exact ⟨vp_in_nI (by omega) (by decide), nm_r (gx_row_s us t v (fun v => gt_add (gt_mul ga (pa v)) (gt_mul gb (pb v)))) (nm_r (nI_1 v) IH)⟩
theorem gx_au {post : St2 → Prop} {t s ja jb ca cb ga gb : Nat} {pa pb : Nat → Nat} (ht : t < 32) (hs : s ≤ 32) (hV : a_variablesSeen t = nI s) (hja : ja ≤ 2) (hjb : jb ≤ 2)
    (ha : a_nodeAtPlace (3 * t + ja) = nI ca) (hb : a_nodeAtPlace (3 * t + jb) = nI cb) (hca : ca < 32) (hcb : cb < 32) (na : ca ≠ t) (nb : cb ≠ t) (hga : ga ≤ 2) (hgb : gb ≤ 2)
    (hpa : ∀ v, v < s → a_usage (ca * 32 + v) = nI (pa v) ∧ pa v ≤ 2) (hpb : ∀ v, v < s → a_usage (cb * 32 + v) = nI (pb v) ∧ pb v ≤ 2)
    (h : post (f_derefLimit, f_recordLimit, f_frameLimit, f_nodeCount, f_currentStatus, f_faultNode, f_typeCount, f_currentNode, f_currentEnv, f_returning, f_returnedNumber, f_frameCount, f_lastOutcome, f_lastValue, f_derefsMade, f_recordsMade, a_nodeKind, a_nodeArg, a_expectedPlaces, a_nodeAtPlace, a_placeOfNode, a_variablesSeen, a_nodeType, a_gradeOfBinder, a_variableType, gx_row a_usage t s (fun v => gt_add (gt_mul ga (pa v)) (gt_mul gb (pb v))), a_typeKind, a_typeGrade, a_typeLeft, a_typeRight, a_frameMark, a_frameWord, a_frameEnv, a_thunkNode, a_thunkEnv, a_restOfEnv, a_binderOfRecord, a_gradeOfRecord, a_countOfRecord)) : wpX_addUsage post (f_derefLimit, f_recordLimit, f_frameLimit, f_nodeCount, f_currentStatus, f_faultNode, f_typeCount, f_currentNode, f_currentEnv, f_returning, f_returnedNumber, f_frameCount, f_lastOutcome, f_lastValue, f_derefsMade, f_recordsMade, a_nodeKind, a_nodeArg, a_expectedPlaces, a_nodeAtPlace, a_placeOfNode, a_variablesSeen, a_nodeType, a_gradeOfBinder, a_variableType, a_usage, a_typeKind, a_typeGrade, a_typeLeft, a_typeRight, a_frameMark, a_frameWord, a_frameEnv, a_thunkNode, a_thunkEnv, a_restOfEnv, a_binderOfRecord, a_gradeOfRecord, a_countOfRecord) (nI t) (nI ja) (nI ga) (nI jb) (nI gb) := by
  have := gx_au_l ht hs hV hja hjb ha hb hca hcb na nb hga hgb hpa hpb h s 0 (s + 1) (by omega) (by omega)
  rw [gx_row_0] at this
  exact ⟨s + 1, this⟩
theorem gx_ac_l {post : St2 → Prop} {t s c0 c1 c2 g : Nat} {us : Nat → Int32} {p0 p1 p2 : Nat → Nat} (ht : t < 32) (hs : s ≤ 32) (hV : a_variablesSeen t = nI s)
    (h0 : a_nodeAtPlace (3 * t + 0) = nI c0) (h1 : a_nodeAtPlace (3 * t + 1) = nI c1) (h2 : a_nodeAtPlace (3 * t + 2) = nI c2) (hc0 : c0 < 32) (hc1 : c1 < 32) (hc2 : c2 < 32) (n0 : c0 ≠ t) (n1 : c1 ≠ t) (n2 : c2 ≠ t) (hg : g ≤ 2)
    (hp0 : ∀ v, v < s → us (c0 * 32 + v) = nI (p0 v) ∧ p0 v ≤ 2) (hp1 : ∀ v, v < s → us (c1 * 32 + v) = nI (p1 v) ∧ p1 v ≤ 2) (hp2 : ∀ v, v < s → us (c2 * 32 + v) = nI (p2 v) ∧ p2 v ≤ 2)
    (h : post (f_derefLimit, f_recordLimit, f_frameLimit, f_nodeCount, f_currentStatus, f_faultNode, f_typeCount, f_currentNode, f_currentEnv, f_returning, f_returnedNumber, f_frameCount, f_lastOutcome, f_lastValue, f_derefsMade, f_recordsMade, a_nodeKind, a_nodeArg, a_expectedPlaces, a_nodeAtPlace, a_placeOfNode, a_variablesSeen, a_nodeType, a_gradeOfBinder, a_variableType, gx_row us t s (fun v => gt_add (gt_mul g (p0 v)) (gt_max (p1 v) (p2 v))), a_typeKind, a_typeGrade, a_typeLeft, a_typeRight, a_frameMark, a_frameWord, a_frameEnv, a_thunkNode, a_thunkEnv, a_restOfEnv, a_binderOfRecord, a_gradeOfRecord, a_countOfRecord)) :
    ∀ d v fuel, v + d = s → d < fuel → wX_addCaseUsage_2 post (nI t) (nI g) f_derefLimit f_recordLimit f_frameLimit f_nodeCount f_currentStatus f_faultNode f_typeCount f_currentNode f_currentEnv f_returning f_returnedNumber f_frameCount f_lastOutcome f_lastValue f_derefsMade f_recordsMade fuel (nI v) a_nodeKind a_nodeArg a_expectedPlaces a_nodeAtPlace a_placeOfNode a_variablesSeen a_nodeType a_gradeOfBinder a_variableType (gx_row us t v (fun v => gt_add (gt_mul g (p0 v)) (gt_max (p1 v) (p2 v)))) a_typeKind a_typeGrade a_typeLeft a_typeRight a_frameMark a_frameWord a_frameEnv a_thunkNode a_thunkEnv a_restOfEnv a_binderOfRecord a_gradeOfRecord a_countOfRecord
  | _, _, 0, _, hf => by omega
  | 0, v, fuel + 1, hv, hf => by
    have e : v = s := by omega
    subst e
    refine ⟨vp_in_nI ht (by decide), ?_⟩
    rw [nI_clamp (show t < 2 ^ 31 by omega), hV]
    exact br_t (nI_le (Nat.le_refl _) (by omega)) h
  | d + 1, v, fuel + 1, hv, hf => by
    refine ⟨vp_in_nI ht (by decide), ?_⟩
    rw [nI_clamp (show t < 2 ^ 31 by omega), hV]
    have IH := gx_ac_l ht hs hV h0 h1 h2 hc0 hc1 hc2 n0 n1 n2 hg hp0 hp1 hp2 h d (v + 1) fuel (by omega) (by omega)
    obtain ⟨a1, a2⟩ := hp0 v (by omega)
    obtain ⟨b1, b2⟩ := hp1 v (by omega)
    obtain ⟨d1, d2⟩ := hp2 v (by omega)
    refine br_f (nI_ge (by omega) (by omega)) (gx_ui (j := 0) ht (by omega) h0 hc0 (by omega) ?_)
    rw [gx_row_o (by omega) (by omega) n0, a1]
    refine gx_ui (j := 1) ht (by omega) h1 hc1 (by omega) ?_
    rw [gx_row_o (by omega) (by omega) n1, b1]
    refine gx_ui (j := 2) ht (by omega) h2 hc2 (by omega) ?_
    rw [gx_row_o (by omega) (by omega) n2, d1]
    refine gx_prod hg a2 (gx_join b2 d2 (gx_sum (gt_mul_le _ _) (gt_max_le b2 d2) ?_))
    rw [gx_ix, nI_clamp (show t * 32 + v < 2 ^ 31 by omega)]
    exact ⟨vp_in_nI (by omega) (by decide), nm_r (gx_row_s us t v (fun v => gt_add (gt_mul g (p0 v)) (gt_max (p1 v) (p2 v)))) (nm_r (nI_1 v) IH)⟩
theorem gx_ac {post : St2 → Prop} {t s c0 c1 c2 g : Nat} {p0 p1 p2 : Nat → Nat} (ht : t < 32) (hs : s ≤ 32) (hV : a_variablesSeen t = nI s)
    (h0 : a_nodeAtPlace (3 * t + 0) = nI c0) (h1 : a_nodeAtPlace (3 * t + 1) = nI c1) (h2 : a_nodeAtPlace (3 * t + 2) = nI c2) (hc0 : c0 < 32) (hc1 : c1 < 32) (hc2 : c2 < 32) (n0 : c0 ≠ t) (n1 : c1 ≠ t) (n2 : c2 ≠ t) (hg : g ≤ 2)
    (hp0 : ∀ v, v < s → a_usage (c0 * 32 + v) = nI (p0 v) ∧ p0 v ≤ 2) (hp1 : ∀ v, v < s → a_usage (c1 * 32 + v) = nI (p1 v) ∧ p1 v ≤ 2) (hp2 : ∀ v, v < s → a_usage (c2 * 32 + v) = nI (p2 v) ∧ p2 v ≤ 2)
    (h : post (f_derefLimit, f_recordLimit, f_frameLimit, f_nodeCount, f_currentStatus, f_faultNode, f_typeCount, f_currentNode, f_currentEnv, f_returning, f_returnedNumber, f_frameCount, f_lastOutcome, f_lastValue, f_derefsMade, f_recordsMade, a_nodeKind, a_nodeArg, a_expectedPlaces, a_nodeAtPlace, a_placeOfNode, a_variablesSeen, a_nodeType, a_gradeOfBinder, a_variableType, gx_row a_usage t s (fun v => gt_add (gt_mul g (p0 v)) (gt_max (p1 v) (p2 v))), a_typeKind, a_typeGrade, a_typeLeft, a_typeRight, a_frameMark, a_frameWord, a_frameEnv, a_thunkNode, a_thunkEnv, a_restOfEnv, a_binderOfRecord, a_gradeOfRecord, a_countOfRecord)) : wpX_addCaseUsage post (f_derefLimit, f_recordLimit, f_frameLimit, f_nodeCount, f_currentStatus, f_faultNode, f_typeCount, f_currentNode, f_currentEnv, f_returning, f_returnedNumber, f_frameCount, f_lastOutcome, f_lastValue, f_derefsMade, f_recordsMade, a_nodeKind, a_nodeArg, a_expectedPlaces, a_nodeAtPlace, a_placeOfNode, a_variablesSeen, a_nodeType, a_gradeOfBinder, a_variableType, a_usage, a_typeKind, a_typeGrade, a_typeLeft, a_typeRight, a_frameMark, a_frameWord, a_frameEnv, a_thunkNode, a_thunkEnv, a_restOfEnv, a_binderOfRecord, a_gradeOfRecord, a_countOfRecord) (nI t) (nI g) := by
  have := gx_ac_l ht hs hV h0 h1 h2 hc0 hc1 hc2 n0 n1 n2 hg hp0 hp1 hp2 h s 0 (s + 1) (by omega) (by omega)
  rw [gx_row_0] at this
  exact ⟨s + 1, this⟩
end

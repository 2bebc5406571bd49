def gx_Q (kd : Nat → Nat) (n i : Nat) (np po vs : Nat → Int32) : Prop := gp_ok kd n → ∀ c, c < i → np (gp_pl kd c) = nI c ∧ po c = nI (gp_pl kd c) ∧ vs c = nI (gp_sn kd c)
theorem gx_Q_s {kd : Nat → Nat} {n i p : Nat} {R : List Nat} {np po vs : Nat → Int32} {v : Int32} (hi : i < n) (hS : gp_S kd i = p :: R) (h : gx_Q kd n i np po vs)
    (h1 : p = 96 → v = 0) (h2 : p ≠ 96 → v = vs (p / 3) + nI (gp_bd (kd (p / 3)) (p % 3))) : gx_Q kd n (i + 1) (upd np p (nI i)) (upd po i (nI p)) (upd vs i v) := by
  intro ok c hc
  have hn := ok.2.1
  have e : gp_pl kd i = p := by unfold gp_pl; rw [hS]; rfl
  have IH := h ok
  rcases Nat.lt_or_ge c i with z | z
  · have ne : gp_pl kd c ≠ p := by
      intro y
      have := gp_pl_inj ok (by omega) hi (y.trans e.symm)
      omega
    rw [pk_un ne, pk_un (by omega), pk_un (by omega)]
    exact IH c z
  · have ec : c = i := by omega
    subst ec
    rw [e, pk_us, pk_us, pk_us]
    refine ⟨rfl, rfl, ?_⟩
    rcases Nat.eq_zero_or_pos c with y | y
    · subst y
      rw [h1 (by rw [← e]; rfl), gp_sn_0]; rfl
    · have p1 := gp_pl_in ok hi y
      rw [e] at p1
      rw [h2 (by omega), (IH (p / 3) (by omega)).2.2, nI_add, gp_sn_p ok hi y, e]
section
variable {f_derefLimit f_recordLimit f_frameLimit f_nodeCount f_currentStatus f_faultNode f_typeCount f_currentNode f_currentEnv f_returning f_returnedNumber f_frameCount f_lastOutcome f_lastValue f_derefsMade f_recordsMade : Int32} {a_nodeKind a_nodeArg a_expectedPlaces a_nodeAtPlace a_placeOfNode a_variablesSeen a_nodeType a_gradeOfBinder a_variableType a_usage a_typeKind a_typeGrade a_typeLeft a_typeRight a_frameMark a_frameWord a_frameEnv a_thunkNode a_thunkEnv a_restOfEnv a_binderOfRecord a_gradeOfRecord a_countOfRecord : Nat → Int32}
theorem gx_syn {post : St2 → Prop} {kd : Nat → Nat} {n : Nat} (hn : n ≤ 32) (hK : ∀ i, i < n → a_nodeKind i = nI (kd i) ∧ 1 ≤ kd i ∧ kd i ≤ 17)
    (hOK : (∀ i, i < n → ¬ gx_bad kd i) → gp_S kd n = [] → ∀ ep np po vs, gx_Q kd n n np po vs → post (f_derefLimit, f_recordLimit, f_frameLimit, nI n, f_currentStatus, f_faultNode, f_typeCount, f_currentNode, f_currentEnv, f_returning, f_returnedNumber, f_frameCount, f_lastOutcome, f_lastValue, f_derefsMade, f_recordsMade, a_nodeKind, a_nodeArg, ep, np, po, vs, a_nodeType, a_gradeOfBinder, a_variableType, a_usage, a_typeKind, a_typeGrade, a_typeLeft, a_typeRight, a_frameMark, a_frameWord, a_frameEnv, a_thunkNode, a_thunkEnv, a_restOfEnv, a_binderOfRecord, a_gradeOfRecord, a_countOfRecord))
    (hF : ∀ m, ((m < n ∧ gx_bad kd m) ∨ (m = n ∧ gp_S kd n ≠ [])) → (∀ i, i < m → ¬ gx_bad kd i) → ∀ ep np po vs, post (f_derefLimit, f_recordLimit, f_frameLimit, nI n, 2, nI m, f_typeCount, f_currentNode, f_currentEnv, f_returning, f_returnedNumber, f_frameCount, f_lastOutcome, f_lastValue, f_derefsMade, f_recordsMade, a_nodeKind, a_nodeArg, ep, np, po, vs, a_nodeType, a_gradeOfBinder, a_variableType, a_usage, a_typeKind, a_typeGrade, a_typeLeft, a_typeRight, a_frameMark, a_frameWord, a_frameEnv, a_thunkNode, a_thunkEnv, a_restOfEnv, a_binderOfRecord, a_gradeOfRecord, a_countOfRecord)) :
    ∀ d i fuel (ep np po vs : Nat → Int32), i + d = n → d < fuel → gx_stk ep (gp_S kd i) → (∀ i', i' < i → ¬ gx_bad kd i') → gx_Q kd n i np po vs →
      wX_checkSyntax_12 post fuel (nI (gp_S kd i).length) (nI i) f_derefLimit f_recordLimit f_frameLimit (nI n) f_currentStatus f_faultNode f_typeCount f_currentNode f_currentEnv f_returning f_returnedNumber f_frameCount f_lastOutcome f_lastValue f_derefsMade f_recordsMade a_nodeKind a_nodeArg ep np po vs a_nodeType a_gradeOfBinder a_variableType a_usage a_typeKind a_typeGrade a_typeLeft a_typeRight a_frameMark a_frameWord a_frameEnv a_thunkNode a_thunkEnv a_restOfEnv a_binderOfRecord a_gradeOfRecord a_countOfRecord
  | _, _, 0, _, _, _, _, _, hf, _, _, _ => by omega
  | 0, i, fuel + 1, ep, np, po, vs, hi, hf, hs, hb, hq => by
    have e : i = n := by omega
    subst e
    have hl := gp_S_len kd i
    refine br_t (nI_le (Nat.le_refl _) (by omega)) (pk_le (gp_S kd i).length 0 (fun z => ?_) (fun z => ?_))
    · exact hOK hb (List.length_eq_zero_iff.mp (by omega)) ep np po vs hq
    · exact hF i (Or.inr ⟨rfl, fun y => by rw [y] at z; exact absurd z (by decide)⟩) hb ep np po vs
  | d + 1, i, fuel + 1, ep, np, po, vs, hi, hf, hs, hb, hq => by
    have hin : i < n := by omega
    have hl := gp_S_len kd i
    obtain ⟨k0, k1, k2⟩ := hK i hin
    refine br_f (nI_ge hin (by omega)) ?_
    cases hS : gp_S kd i with
    | nil => exact br_t rfl (hF i (Or.inl ⟨hin, Or.inl hS⟩) hb ep np po vs)
    | cons p R =>
      rw [hS] at hs hl
      simp only [List.length_cons] at hl ⊢
      have hR : R.length ≤ 64 := by omega
      have pin := (gp_S_in kd i (by omega)).1 p (by rw [hS]; exact List.mem_cons_self)
      have hp : p ≤ 96 := by omega
      have hpl : gp_pl kd i = p := by unfold gp_pl; rw [hS]; rfl
      have hqk : p ≠ 96 → a_nodeKind (p / 3) = nI (kd (p / 3)) ∧ 1 ≤ kd (p / 3) ∧ kd (p / 3) ≤ 17 := fun z => hK (p / 3) (by omega)
      refine br_f (nI_ne0 (by omega) (by omega)) ?_
      rw [nI_pred, nI_clamp (show R.length < 2 ^ 31 by omega), hs.1]
      refine ⟨vp_in_nI (by omega) (by decide), gx_sf (kd := kd) (by omega) k0 k2 hp hqk (fun so => ?_) (fun nso => ?_)⟩
      · refine br_f (by decide) (nm_r (pk_m1 _) ⟨vp_in_nI (by omega) (by decide), ?_⟩)
        rw [nI_clamp (show R.length < 2 ^ 31 by omega), hs.1]
        refine gx_hang (kd := kd) (by omega) hp hqk (fun v hv1 hv2 => ?_)
        try dsimp only
        refine ⟨vp_in_nI (by omega) (by decide), ?_⟩
        rw [nI_clamp (show i < 2 ^ 31 by omega), k0]
        refine gx_cc k1 k2 (nm_e ⟨gp_ar (kd i) + 1, ?_⟩)
        have a3 := gp_ar_le (kd i)
        refine gx_push (R := R) (by omega) (gp_ar (kd i)) 0 (gp_ar (kd i) + 1) ep (by omega) ?_ hs.2 (fun ep' hs' => ?_)
        · have := gp_S_len kd (i + 1)
          rw [gp_S_s, hS, List.length_append, gp_kf_len] at this
          simp only [List.tail_cons] at this
          omega
        · have hS' : gp_S kd (i + 1) = gp_kf i 0 (gp_ar (kd i)) ++ R := by rw [gp_S_s, hS]; rfl
          have IH := gx_syn hn hK hOK hF d (i + 1) fuel ep' (upd np p (nI i)) (upd po i (nI p)) (upd vs i v) (by omega) (by omega)
            (by rw [hS']; rw [Nat.zero_add] at hs'; exact hs')
            (fun i' hi' => by
              rcases Nat.lt_or_ge i' i with z | z
              · exact hb i' z
              · have e : i' = i := by omega
                subst e
                intro y
                rcases y with y | y
                · rw [hS] at y; exact absurd y (List.cons_ne_nil _ _)
                · rw [hpl] at y; exact y so)
            (gx_Q_s hin hS hq hv1 hv2)
          rw [hS', List.length_append, gp_kf_len] at IH
          rw [show R.length + 0 + gp_ar (kd i) = gp_ar (kd i) + R.length by omega]
          exact IH
      · exact br_t rfl (hF i (Or.inl ⟨hin, Or.inr (by rw [hpl]; exact nso)⟩) hb ep np po vs)
theorem gx_shape {post : St2 → Prop} {kd : Nat → Nat} {n : Nat} (hn : n ≤ 32) (hK : ∀ i, i < n → a_nodeKind i = nI (kd i) ∧ 1 ≤ kd i ∧ kd i ≤ 17)
    (hOK : (∀ i, i < n → ¬ gx_bad kd i) → gp_S kd n = [] → ∀ ep np po vs, gx_Q kd n n np po vs → post (f_derefLimit, f_recordLimit, f_frameLimit, nI n, f_currentStatus, f_faultNode, f_typeCount, f_currentNode, f_currentEnv, f_returning, f_returnedNumber, f_frameCount, f_lastOutcome, f_lastValue, f_derefsMade, f_recordsMade, a_nodeKind, a_nodeArg, ep, np, po, vs, a_nodeType, a_gradeOfBinder, a_variableType, a_usage, a_typeKind, a_typeGrade, a_typeLeft, a_typeRight, a_frameMark, a_frameWord, a_frameEnv, a_thunkNode, a_thunkEnv, a_restOfEnv, a_binderOfRecord, a_gradeOfRecord, a_countOfRecord))
    (hF : ∀ m, ((m < n ∧ gx_bad kd m) ∨ (m = n ∧ gp_S kd n ≠ [])) → (∀ i, i < m → ¬ gx_bad kd i) → ∀ ep np po vs, post (f_derefLimit, f_recordLimit, f_frameLimit, nI n, 2, nI m, f_typeCount, f_currentNode, f_currentEnv, f_returning, f_returnedNumber, f_frameCount, f_lastOutcome, f_lastValue, f_derefsMade, f_recordsMade, a_nodeKind, a_nodeArg, ep, np, po, vs, a_nodeType, a_gradeOfBinder, a_variableType, a_usage, a_typeKind, a_typeGrade, a_typeLeft, a_typeRight, a_frameMark, a_frameWord, a_frameEnv, a_thunkNode, a_thunkEnv, a_restOfEnv, a_binderOfRecord, a_gradeOfRecord, a_countOfRecord)) :
    wpX_checkSyntax post (f_derefLimit, f_recordLimit, f_frameLimit, nI n, f_currentStatus, f_faultNode, f_typeCount, f_currentNode, f_currentEnv, f_returning, f_returnedNumber, f_frameCount, f_lastOutcome, f_lastValue, f_derefsMade, f_recordsMade, a_nodeKind, a_nodeArg, a_expectedPlaces, a_nodeAtPlace, a_placeOfNode, a_variablesSeen, a_nodeType, a_gradeOfBinder, a_variableType, a_usage, a_typeKind, a_typeGrade, a_typeLeft, a_typeRight, a_frameMark, a_frameWord, a_frameEnv, a_thunkNode, a_thunkEnv, a_restOfEnv, a_binderOfRecord, a_gradeOfRecord, a_countOfRecord) :=
  nm_e ⟨n + 1, gx_syn hn hK hOK hF n 0 (n + 1) (upd a_expectedPlaces 0 96) a_nodeAtPlace a_placeOfNode a_variablesSeen (by omega) (by omega) ⟨pk_us, trivial⟩ (fun i' h => by omega) (fun _ c h => by omega)⟩
/-! scope -/
def gx_sc (kd : Nat → Nat) (ag : Nat → Int32) (i : Nat) : Prop := kd i = 6 ∧ ¬ ag i < nI (gp_sn kd i)
theorem gx_scp {post : St2 → Prop} {kd : Nat → Nat} {n : Nat} (hn : n ≤ 32) (hK : ∀ i, i < n → a_nodeKind i = nI (kd i) ∧ 1 ≤ kd i ∧ kd i ≤ 17) (hV : ∀ i, i < n → a_variablesSeen i = nI (gp_sn kd i))
    (hOK : (∀ i, i < n → ¬ gx_sc kd a_nodeArg i) → post (f_derefLimit, f_recordLimit, f_frameLimit, nI n, f_currentStatus, f_faultNode, f_typeCount, f_currentNode, f_currentEnv, f_returning, f_returnedNumber, f_frameCount, f_lastOutcome, f_lastValue, f_derefsMade, f_recordsMade, a_nodeKind, a_nodeArg, a_expectedPlaces, a_nodeAtPlace, a_placeOfNode, a_variablesSeen, a_nodeType, a_gradeOfBinder, a_variableType, a_usage, a_typeKind, a_typeGrade, a_typeLeft, a_typeRight, a_frameMark, a_frameWord, a_frameEnv, a_thunkNode, a_thunkEnv, a_restOfEnv, a_binderOfRecord, a_gradeOfRecord, a_countOfRecord))
    (hF : ∀ m, m < n → gx_sc kd a_nodeArg m → (∀ i, i < m → ¬ gx_sc kd a_nodeArg i) → post (f_derefLimit, f_recordLimit, f_frameLimit, nI n, 3, nI m, f_typeCount, f_currentNode, f_currentEnv, f_returning, f_returnedNumber, f_frameCount, f_lastOutcome, f_lastValue, f_derefsMade, f_recordsMade, a_nodeKind, a_nodeArg, a_expectedPlaces, a_nodeAtPlace, a_placeOfNode, a_variablesSeen, a_nodeType, a_gradeOfBinder, a_variableType, a_usage, a_typeKind, a_typeGrade, a_typeLeft, a_typeRight, a_frameMark, a_frameWord, a_frameEnv, a_thunkNode, a_thunkEnv, a_restOfEnv, a_binderOfRecord, a_gradeOfRecord, a_countOfRecord)) :
    ∀ d i fuel, i + d = n → d < fuel → (∀ i', i' < i → ¬ gx_sc kd a_nodeArg i') → wX_checkScope_2 post f_derefLimit f_recordLimit f_frameLimit (nI n) f_currentStatus f_faultNode f_typeCount f_currentNode f_currentEnv f_returning f_returnedNumber f_frameCount f_lastOutcome f_lastValue f_derefsMade f_recordsMade a_nodeKind a_nodeArg a_expectedPlaces a_nodeAtPlace a_placeOfNode a_variablesSeen a_nodeType a_gradeOfBinder a_variableType a_usage a_typeKind a_typeGrade a_typeLeft a_typeRight a_frameMark a_frameWord a_frameEnv a_thunkNode a_thunkEnv a_restOfEnv a_binderOfRecord a_gradeOfRecord a_countOfRecord fuel (nI i)
  | _, _, 0, _, hf, _ => by omega
  | 0, i, fuel + 1, hi, hf, hb => by
    have e : i = n := by omega
    subst e
    exact br_t (nI_le (Nat.le_refl _) (by omega)) (hOK hb)
  | d + 1, i, fuel + 1, hi, hf, hb => by
    have hin : i < n := by omega
    obtain ⟨k0, k1, k2⟩ := hK i hin
    have IH : ¬ gx_sc kd a_nodeArg i → wX_checkScope_2 post f_derefLimit f_recordLimit f_frameLimit (nI n) f_currentStatus f_faultNode f_typeCount f_currentNode f_currentEnv f_returning f_returnedNumber f_frameCount f_lastOutcome f_lastValue f_derefsMade f_recordsMade a_nodeKind a_nodeArg a_expectedPlaces a_nodeAtPlace a_placeOfNode a_variablesSeen a_nodeType a_gradeOfBinder a_variableType a_usage a_typeKind a_typeGrade a_typeLeft a_typeRight a_frameMark a_frameWord a_frameEnv a_thunkNode a_thunkEnv a_restOfEnv a_binderOfRecord a_gradeOfRecord a_countOfRecord fuel (nI (i + 1)) := fun y =>
      gx_scp hn hK hV hOK hF d (i + 1) fuel (by omega) (by omega) (fun i' hi' => by
        rcases Nat.lt_or_ge i' i with z | z
        · exact hb i' z
        · have e : i' = i := by omega
          subst e
          exact y)
    refine br_f (nI_ge hin (by omega)) ⟨vp_in_nI (by omega) (by decide), ?_⟩
    rw [nI_clamp (show i < 2 ^ 31 by omega), k0, hV i hin]
    refine pk_eq (kd i) 6 (fun z => ⟨vp_in_nI (by omega) (by decide), vp_in_nI (by omega) (by decide), br_c (fun y => nm_r (nI_1 i) (IH (fun x => x.2 y))) (fun y => hF i hin ⟨z, y⟩ hb)⟩) (fun z => nm_r (nI_1 i) (IH (fun x => z x.1)))
theorem gx_scope {post : St2 → Prop} {kd : Nat → Nat} {n : Nat} (hn : n ≤ 32) (hK : ∀ i, i < n → a_nodeKind i = nI (kd i) ∧ 1 ≤ kd i ∧ kd i ≤ 17) (hV : ∀ i, i < n → a_variablesSeen i = nI (gp_sn kd i))
    (hOK : (∀ i, i < n → ¬ gx_sc kd a_nodeArg i) → post (f_derefLimit, f_recordLimit, f_frameLimit, nI n, f_currentStatus, f_faultNode, f_typeCount, f_currentNode, f_currentEnv, f_returning, f_returnedNumber, f_frameCount, f_lastOutcome, f_lastValue, f_derefsMade, f_recordsMade, a_nodeKind, a_nodeArg, a_expectedPlaces, a_nodeAtPlace, a_placeOfNode, a_variablesSeen, a_nodeType, a_gradeOfBinder, a_variableType, a_usage, a_typeKind, a_typeGrade, a_typeLeft, a_typeRight, a_frameMark, a_frameWord, a_frameEnv, a_thunkNode, a_thunkEnv, a_restOfEnv, a_binderOfRecord, a_gradeOfRecord, a_countOfRecord))
    (hF : ∀ m, m < n → gx_sc kd a_nodeArg m → (∀ i, i < m → ¬ gx_sc kd a_nodeArg i) → post (f_derefLimit, f_recordLimit, f_frameLimit, nI n, 3, nI m, f_typeCount, f_currentNode, f_currentEnv, f_returning, f_returnedNumber, f_frameCount, f_lastOutcome, f_lastValue, f_derefsMade, f_recordsMade, a_nodeKind, a_nodeArg, a_expectedPlaces, a_nodeAtPlace, a_placeOfNode, a_variablesSeen, a_nodeType, a_gradeOfBinder, a_variableType, a_usage, a_typeKind, a_typeGrade, a_typeLeft, a_typeRight, a_frameMark, a_frameWord, a_frameEnv, a_thunkNode, a_thunkEnv, a_restOfEnv, a_binderOfRecord, a_gradeOfRecord, a_countOfRecord)) :
    wpX_checkScope post (f_derefLimit, f_recordLimit, f_frameLimit, nI n, f_currentStatus, f_faultNode, f_typeCount, f_currentNode, f_currentEnv, f_returning, f_returnedNumber, f_frameCount, f_lastOutcome, f_lastValue, f_derefsMade, f_recordsMade, a_nodeKind, a_nodeArg, a_expectedPlaces, a_nodeAtPlace, a_placeOfNode, a_variablesSeen, a_nodeType, a_gradeOfBinder, a_variableType, a_usage, a_typeKind, a_typeGrade, a_typeLeft, a_typeRight, a_frameMark, a_frameWord, a_frameEnv, a_thunkNode, a_thunkEnv, a_restOfEnv, a_binderOfRecord, a_gradeOfRecord, a_countOfRecord) :=
  ⟨n + 1, gx_scp hn hK hV hOK hF n 0 (n + 1) (by omega) (by omega) (fun i' h => by omega)⟩
end

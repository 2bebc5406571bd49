/-! the component's run -/
def gw_rr (rc : Nat) (tn te rs gr co : Nat → Nat) (tN tE rE go cO : Nat → Int32) : Prop := ∀ r, 1 ≤ r → r ≤ rc → (rE r = nI (rs r) ∧ tN r = nI (tn r) ∧ tE r = nI (te r)) ∧ (go r = nI (gr r) ∧ cO r = nI (co r))
theorem gw_rr_p {rc d e1 e2 g : Nat} {G : Int32} {tn te rs gr co : Nat → Nat} {tN tE rE go cO : Nat → Int32} (h : gw_rr rc tn te rs gr co tN tE rE go cO) (hG : G = nI g) :
    gw_rr (rc + 1) (gm_up tn (rc + 1) d) (gm_up te (rc + 1) e1) (gm_up rs (rc + 1) e2) (gm_up gr (rc + 1) g) (gm_up co (rc + 1) 0) (upd tN (rc + 1) (nI d)) (upd tE (rc + 1) (nI e1)) (upd rE (rc + 1) (nI e2)) (upd go (rc + 1) G) (upd cO (rc + 1) 0) := by
  intro r h1 h2
  rcases Nat.lt_or_ge rc r with z | z
  · have e : r = rc + 1 := by omega
    subst e
    simp only [pk_us, gm_up_s]
    exact ⟨⟨trivial, trivial, trivial⟩, hG, rfl⟩
  · have n1 : r ≠ rc + 1 := by omega
    simp only [pk_un n1, gm_up_n n1]
    exact h r h1 z
theorem gw_rr_c {rc r0 : Nat} {tn te rs gr co : Nat → Nat} {tN tE rE go cO : Nat → Int32} (h : gw_rr rc tn te rs gr co tN tE rE go cO) (h1 : 1 ≤ r0) (h2 : r0 ≤ rc) :
    gw_rr rc tn te rs gr (gm_up co r0 (co r0 + 1)) tN tE rE go (upd cO r0 (cO r0 + 1)) := by
  intro r a b
  obtain ⟨p, q, s⟩ := h r a b
  refine ⟨p, q, ?_⟩
  by_cases z : r = r0
  · subst z; rw [pk_us, gm_up_s, s, nI_1]
  · rw [pk_un z, gm_up_n z]; exact s
def gw_ff (fm fw fe : Nat → Int32) : gm_Fr → Prop
  | [] => True
  | x :: R => fm R.length = nI x.1 ∧ fw R.length = x.2.1 ∧ fe R.length = nI x.2.2 ∧ gw_ff fm fw fe R
theorem gw_ff_k {q : Nat} {fm fw fe : Nat → Int32} {a b c : Int32} : ∀ {R : gm_Fr}, R.length ≤ q → gw_ff fm fw fe R → gw_ff (upd fm q a) (upd fw q b) (upd fe q c) R
  | [], _, _ => trivial
  | x :: R, hq, h => by
    simp only [List.length_cons] at hq
    have ne : R.length ≠ q := by omega
    obtain ⟨h1, h2, h3, h4⟩ := h
    refine ⟨?_, ?_, ?_, gw_ff_k (by omega) h4⟩
    · rw [pk_un ne]; exact h1
    · rw [pk_un ne]; exact h2
    · rw [pk_un ne]; exact h3
theorem gw_ff_p {fm fw fe : Nat → Int32} {R : gm_Fr} {m e : Nat} {w : Int32} (h : gw_ff fm fw fe R) : gw_ff (upd fm R.length (nI m)) (upd fw R.length w) (upd fe R.length (nI e)) ((m, w, e) :: R) := ⟨pk_us, pk_us, pk_us, gw_ff_k (Nat.le_refl _) h⟩
theorem gw_rr_q {rc : Nat} {tn te rs gr co : Nat → Nat} {tN tE rE go cO : Nat → Int32} (h : gw_rr rc tn te rs gr co tN tE rE go cO) : ∀ r, 1 ≤ r → r ≤ rc → go r = nI (gr r) ∧ cO r = nI (co r) := fun r a b => (h r a b).2
theorem gw_out_0 (k : Nat) : gr_out k ≠ 0 ∧ gr_out k ≤ 6 := by
  unfold gr_out
  split
  · omega
  · split
    · omega
    · split
      · omega
      · split
        · omega
        · split <;> omega
section
variable {f_derefLimit f_recordLimit f_frameLimit f_nodeCount f_currentStatus f_faultNode f_typeCount f_currentNode f_currentEnv f_returning f_returnedNumber f_frameCount f_lastOutcome f_lastValue f_derefsMade f_recordsMade : Int32} {a_nodeKind a_nodeArg a_expectedPlaces a_nodeAtPlace a_placeOfNode a_variablesSeen a_nodeType a_gradeOfBinder a_variableType a_usage a_typeKind a_typeGrade a_typeLeft a_typeRight a_frameMark a_frameWord a_frameEnv a_thunkNode a_thunkEnv a_restOfEnv a_binderOfRecord a_gradeOfRecord a_countOfRecord : Nat → Int32}
theorem gw_fin {post : Int32 → St2 → Prop} {f : Nat} {x o : Int32} (ho : ¬ o = 0) (h : post o (f_derefLimit, f_recordLimit, f_frameLimit, f_nodeCount, f_currentStatus, f_faultNode, f_typeCount, f_currentNode, f_currentEnv, f_returning, f_returnedNumber, f_frameCount, o, f_lastValue, f_derefsMade, f_recordsMade, a_nodeKind, a_nodeArg, a_expectedPlaces, a_nodeAtPlace, a_placeOfNode, a_variablesSeen, a_nodeType, a_gradeOfBinder, a_variableType, a_usage, a_typeKind, a_typeGrade, a_typeLeft, a_typeRight, a_frameMark, a_frameWord, a_frameEnv, a_thunkNode, a_thunkEnv, a_restOfEnv, a_binderOfRecord, a_gradeOfRecord, a_countOfRecord)) : wX_run_27 post (f + 1) x f_derefLimit f_recordLimit f_frameLimit f_nodeCount f_currentStatus f_faultNode f_typeCount f_currentNode f_currentEnv f_returning f_returnedNumber f_frameCount o f_lastValue f_derefsMade f_recordsMade a_nodeKind a_nodeArg a_expectedPlaces a_nodeAtPlace a_placeOfNode a_variablesSeen a_nodeType a_gradeOfBinder a_variableType a_usage a_typeKind a_typeGrade a_typeLeft a_typeRight a_frameMark a_frameWord a_frameEnv a_thunkNode a_thunkEnv a_restOfEnv a_binderOfRecord a_gradeOfRecord a_countOfRecord := br_c (fun _ => h) (fun _ => br_f ho h)
theorem gw_ev {post : Int32 → St2 → Prop} {n dl rl fl : Nat} {kd : Nat → Nat} (A : gm_A kd a_nodeArg n) (L : gz_L kd n) (hK : ∀ i, i < n → a_nodeKind i = nI (kd i)) (hX : ∀ i, i < n → ∀ j, j < gp_ar (kd i) → a_nodeAtPlace (3 * i + j) = nI (gp_ch kd n i j)) (hg : ∀ i, i < n → (kd i = 9 ∨ kd i = 12 ∨ kd i = 15 ∨ kd i = 17) → a_gradeOfBinder i = nI (gt_b kd a_nodeArg n i)) (hdl : dl ≤ 64) (hrl : rl ≤ 32) (hfl : fl ≤ 64) (hFin : ∀ (cn ce rt rn fc o lv dr' : Int32) (rc : Nat) (gr co : Nat → Nat) (fm fw fe tN tE rE bo go cO : Nat → Int32), rc ≤ rl → gz_Q rc gr co → (∀ r, 1 ≤ r → r ≤ rc → go r = nI (gr r) ∧ cO r = nI (co r)) → post o (nI dl, nI rl, nI fl, f_nodeCount, f_currentStatus, f_faultNode, f_typeCount, cn, ce, rt, rn, fc, o, lv, dr', nI rc, a_nodeKind, a_nodeArg, a_expectedPlaces, a_nodeAtPlace, a_placeOfNode, a_variablesSeen, a_nodeType, a_gradeOfBinder, a_variableType, a_usage, a_typeKind, a_typeGrade, a_typeLeft, a_typeRight, fm, fw, fe, tN, tE, rE, bo, go, cO)) {M : Nat} (ih1 : ∀ (t e dr rc : Nat) (F : gm_Fr) (tn te rs gr co : Nat → Nat) (rn : Int32) (fm fw fe tN tE rE bo go cO : Nat → Int32), gm_I kd a_nodeArg n tn te rs rc t e F → gz_J kd a_nodeArg n tn te rs gr co rc t e F → rc ≤ rl → dr ≤ dl → F.length ≤ fl → gw_rr rc tn te rs gr co tN tE rE go cO → gw_ff fm fw fe F → 3 * gp_sz kd n t + gm_ps kd n F + 96 * (dl - dr) + 96 * (rl - rc) ≤ M → ∀ (f step : Nat), M + 2 ≤ f → step + M < 20000 → wX_run_27 post f (nI step) (nI dl) (nI rl) (nI fl) f_nodeCount f_currentStatus f_faultNode f_typeCount (nI t) (nI e) 0 rn (nI F.length) 0 0 (nI dr) (nI rc) a_nodeKind a_nodeArg a_expectedPlaces a_nodeAtPlace a_placeOfNode a_variablesSeen a_nodeType a_gradeOfBinder a_variableType a_usage a_typeKind a_typeGrade a_typeLeft a_typeRight fm fw fe tN tE rE bo go cO) (ih2 : ∀ (t e dr rc : Nat) (F : gm_Fr) (tn te rs gr co : Nat → Nat) (rn : Int32) (fm fw fe tN tE rE bo go cO : Nat → Int32), gm_I kd a_nodeArg n tn te rs rc t e F → gz_J kd a_nodeArg n tn te rs gr co rc t e F → rc ≤ rl → dr ≤ dl → F.length ≤ fl → gw_rr rc tn te rs gr co tN tE rE go cO → gw_ff fm fw fe F → gm_vl (kd t) → gm_ps kd n F + 96 * (dl - dr) + 96 * (rl - rc) ≤ M → ∀ (f step : Nat), M + 2 ≤ f → step + M < 20000 → wX_run_27 post f (nI step) (nI dl) (nI rl) (nI fl) f_nodeCount f_currentStatus f_faultNode f_typeCount (nI t) (nI e) 1 rn (nI F.length) 0 0 (nI dr) (nI rc) a_nodeKind a_nodeArg a_expectedPlaces a_nodeAtPlace a_placeOfNode a_variablesSeen a_nodeType a_gradeOfBinder a_variableType a_usage a_typeKind a_typeGrade a_typeLeft a_typeRight fm fw fe tN tE rE bo go cO) : ∀ (t e dr rc : Nat) (F : gm_Fr) (tn te rs gr co : Nat → Nat) (rn : Int32) (fm fw fe tN tE rE bo go cO : Nat → Int32), gm_I kd a_nodeArg n tn te rs rc t e F → gz_J kd a_nodeArg n tn te rs gr co rc t e F → rc ≤ rl → dr ≤ dl → F.length ≤ fl → gw_rr rc tn te rs gr co tN tE rE go cO → gw_ff fm fw fe F → 3 * gp_sz kd n t + gm_ps kd n F + 96 * (dl - dr) + 96 * (rl - rc) ≤ M + 1 → ∀ (f step : Nat), M + 1 + 2 ≤ f → step + (M + 1) < 20000 → wX_run_27 post f (nI step) (nI dl) (nI rl) (nI fl) f_nodeCount f_currentStatus f_faultNode f_typeCount (nI t) (nI e) 0 rn (nI F.length) 0 0 (nI dr) (nI rc) a_nodeKind a_nodeArg a_expectedPlaces a_nodeAtPlace a_placeOfNode a_variablesSeen a_nodeType a_gradeOfBinder a_variableType a_usage a_typeKind a_typeGrade a_typeLeft a_typeRight fm fw fe tN tE rE bo go cO := by
  intro t e dr rc F tn te rs gr co rn fm fw fe tN tE rE bo go cO I J hrc hdr hF R hff hM f step hf hs
  have ok := A.1.1
  have hn := ok.2.1
  have ht := I.1
  have t32 : t < 32 := by omega
  have h5 := I.2.1
  have k17 := (A.1.2.2.1 t ht).2
  have hsz := gp_sz_le ok ht
  have hcase : kd t = 6 ∨ gm_go (kd t) ∨ gm_vl (kd t) := by
    unfold gm_go gm_vl
    omega
  cases f with
  | zero => omega
  | succ f =>
  cases f with
  | zero => omega
  | succ f =>
  refine br_f (nI_ge (b := 20000) (by omega) (by decide)) (br_t rfl (br_t rfl ?_))
  rcases hcase with h6 | hgo | hvl
  · obtain ⟨i, hi, ei⟩ := A.1.2.2.2.1 t ht h6
    obtain ⟨r1, r2, I'⟩ := gm_s_var A I h6 ei hi
    have J' : gz_J kd a_nodeArg n tn te rs gr (gm_up co (gm_nth rs e i) (co (gm_nth rs e i) + 1)) rc (tn (gm_nth rs e i)) (te (gm_nth rs e i)) F := Or.inl (gz_s_var A I (gz_J_I L ht J (by omega)) h6 ei hi)
    have sl := gp_sn_lt ok ht
    have hE : ∀ j, j ≤ i → 1 ≤ gm_nth rs e j ∧ gm_nth rs e j ≤ rc := fun j hj => ⟨(I.2.2.2.1 j (by omega)).1, (I.2.2.2.1 j (by omega)).2.1⟩
    have kt := hK t ht
    rw [h6] at kt
    have sz' := gp_sz_le ok I'.1
    refine gx_evD (rs := rs) (tn := tn) (te := te) (rc := rc) t32 kt ei (by omega) (by omega) hdr hdl hE (fun r a b => (R r a b).1) (fun w => nm_r (nI_1 step) (gw_fin (by decide) ?_)) (fun w => nm_r (nI_1 step) ?_)
    · exact hFin (nI t) (nI e) 0 rn (nI F.length) 7 0 (nI dr) rc gr co fm fw fe tN tE rE bo go cO hrc (gz_J_Q J) (gw_rr_q R)
    · exact ih1 _ _ (dr + 1) rc F tn te rs gr _ rn fm fw fe tN tE rE bo go _ I' J' hrc w hF (gw_rr_c R r1 r2) hff (by omega) (f + 1) (step + 1) (by omega) (by omega)
  · have I' := gm_s_go A I hgo
    have J' := gz_j_go ok L ht J hgo
    obtain ⟨g1, g2, g3⟩ := gm_go_ar hgo
    have hm := gm_m_go (e := e) ok ht hgo
    have xc := hX t ht 0 (by omega)
    refine gx_evG t32 (hK t ht) hgo xc hF hfl (fun w => nm_r (nI_1 step) (gw_fin (by decide) ?_)) (fun w => nm_r (nI_1 step) ?_)
    · exact hFin (nI t) (nI e) 0 rn (nI F.length) 9 0 (nI dr) rc gr co fm fw fe tN tE rE bo go cO hrc (gz_J_Q J) (gw_rr_q R)
    · exact ih1 _ _ dr rc _ tn te rs gr co rn _ _ _ tN tE rE bo go cO I' J' hrc hdr (by simp only [List.length_cons]; omega) R (gw_ff_p hff) (by simp only [gm_ps]; omega) (f + 1) (step + 1) (by omega) (by omega)
  · refine gx_evV t32 (hK t ht) hvl (fun rn' a b => nm_r (nI_1 step) ?_)
    exact ih2 t e dr rc F tn te rs gr co rn' fm fw fe tN tE rE bo go cO I J hrc hdr hF R hff hvl (by omega) (f + 1) (step + 1) (by omega) (by omega)
end

section
variable {f_derefLimit f_recordLimit f_frameLimit f_nodeCount f_currentStatus f_faultNode f_typeCount f_currentNode f_currentEnv f_returning f_returnedNumber f_frameCount f_lastOutcome f_lastValue f_derefsMade f_recordsMade : Int32} {a_nodeKind a_nodeArg a_expectedPlaces a_nodeAtPlace a_placeOfNode a_variablesSeen a_nodeType a_gradeOfBinder a_variableType a_usage a_typeKind a_typeGrade a_typeLeft a_typeRight a_frameMark a_frameWord a_frameEnv a_thunkNode a_thunkEnv a_restOfEnv a_binderOfRecord a_gradeOfRecord a_countOfRecord : Nat → Int32}
theorem gw_halt {post : Int32 → St2 → Prop} {n dl rl fl : Nat} {kd : Nat → Nat} (A : gm_A kd a_nodeArg n) (L : gz_L kd n) (hK : ∀ i, i < n → a_nodeKind i = nI (kd i)) (hX : ∀ i, i < n → ∀ j, j < gp_ar (kd i) → a_nodeAtPlace (3 * i + j) = nI (gp_ch kd n i j)) (hg : ∀ i, i < n → (kd i = 9 ∨ kd i = 12 ∨ kd i = 15 ∨ kd i = 17) → a_gradeOfBinder i = nI (gt_b kd a_nodeArg n i)) (hdl : dl ≤ 64) (hrl : rl ≤ 32) (hfl : fl ≤ 64) (hFin : ∀ (cn ce rt rn fc o lv dr' : Int32) (rc : Nat) (gr co : Nat → Nat) (fm fw fe tN tE rE bo go cO : Nat → Int32), rc ≤ rl → gz_Q rc gr co → (∀ r, 1 ≤ r → r ≤ rc → go r = nI (gr r) ∧ cO r = nI (co r)) → post o (nI dl, nI rl, nI fl, f_nodeCount, f_currentStatus, f_faultNode, f_typeCount, cn, ce, rt, rn, fc, o, lv, dr', nI rc, a_nodeKind, a_nodeArg, a_expectedPlaces, a_nodeAtPlace, a_placeOfNode, a_variablesSeen, a_nodeType, a_gradeOfBinder, a_variableType, a_usage, a_typeKind, a_typeGrade, a_typeLeft, a_typeRight, fm, fw, fe, tN, tE, rE, bo, go, cO)) {M t e dr rc : Nat} {F : gm_Fr} {tn te rs gr co : Nat → Nat} {rn : Int32} {fm fw fe tN tE rE bo go cO : Nat → Int32} (hF0 : F = []) (I : gm_I kd a_nodeArg n tn te rs rc t e F) (J : gz_J kd a_nodeArg n tn te rs gr co rc t e F) (hrc : rc ≤ rl) (R : gw_rr rc tn te rs gr co tN tE rE go cO) (hv : gm_vl (kd t)) (f step : Nat) (hf : M + 2 ≤ f) (hs : step + M < 20000) : wX_run_27 post f (nI step) (nI dl) (nI rl) (nI fl) f_nodeCount f_currentStatus f_faultNode f_typeCount (nI t) (nI e) 1 rn (nI F.length) 0 0 (nI dr) (nI rc) a_nodeKind a_nodeArg a_expectedPlaces a_nodeAtPlace a_placeOfNode a_variablesSeen a_nodeType a_gradeOfBinder a_variableType a_usage a_typeKind a_typeGrade a_typeLeft a_typeRight fm fw fe tN tE rE bo go cO := by
  subst hF0
  have ok := A.1.1
  have hn := ok.2.1
  have ht := I.1
  have t32 : t < 32 := by omega
  have ho := gw_out_0 (kd t)
  cases f with
  | zero => omega
  | succ f =>
  cases f with
  | zero => omega
  | succ f =>
  refine br_f (nI_ge (b := 20000) (by omega) (by decide)) (br_t rfl (br_f (by decide) ?_))
  refine gx_halt t32 (hK t ht) hv (fun lv a b => nm_r (nI_1 step) (gw_fin (nI_ne0 (by omega) (by omega)) ?_))
  exact hFin (nI t) (nI e) 1 rn 0 (nI (gr_out (kd t))) lv (nI dr) rc gr co fm fw fe tN tE rE bo go cO hrc (gz_J_Q J) (gw_rr_q R)
theorem gw_ad0 {post : Int32 → St2 → Prop} {n dl rl fl : Nat} {kd : Nat → Nat} (A : gm_A kd a_nodeArg n) (L : gz_L kd n) (hK : ∀ i, i < n → a_nodeKind i = nI (kd i)) (hX : ∀ i, i < n → ∀ j, j < gp_ar (kd i) → a_nodeAtPlace (3 * i + j) = nI (gp_ch kd n i j)) (hg : ∀ i, i < n → (kd i = 9 ∨ kd i = 12 ∨ kd i = 15 ∨ kd i = 17) → a_gradeOfBinder i = nI (gt_b kd a_nodeArg n i)) (hdl : dl ≤ 64) (hrl : rl ≤ 32) (hfl : fl ≤ 64) (hFin : ∀ (cn ce rt rn fc o lv dr' : Int32) (rc : Nat) (gr co : Nat → Nat) (fm fw fe tN tE rE bo go cO : Nat → Int32), rc ≤ rl → gz_Q rc gr co → (∀ r, 1 ≤ r → r ≤ rc → go r = nI (gr r) ∧ cO r = nI (co r)) → post o (nI dl, nI rl, nI fl, f_nodeCount, f_currentStatus, f_faultNode, f_typeCount, cn, ce, rt, rn, fc, o, lv, dr', nI rc, a_nodeKind, a_nodeArg, a_expectedPlaces, a_nodeAtPlace, a_placeOfNode, a_variablesSeen, a_nodeType, a_gradeOfBinder, a_variableType, a_usage, a_typeKind, a_typeGrade, a_typeLeft, a_typeRight, fm, fw, fe, tN, tE, rE, bo, go, cO)) {M : Nat} (ih1 : ∀ (t e dr rc : Nat) (F : gm_Fr) (tn te rs gr co : Nat → Nat) (rn : Int32) (fm fw fe tN tE rE bo go cO : Nat → Int32), gm_I kd a_nodeArg n tn te rs rc t e F → gz_J kd a_nodeArg n tn te rs gr co rc t e F → rc ≤ rl → dr ≤ dl → F.length ≤ fl → gw_rr rc tn te rs gr co tN tE rE go cO → gw_ff fm fw fe F → 3 * gp_sz kd n t + gm_ps kd n F + 96 * (dl - dr) + 96 * (rl - rc) ≤ M → ∀ (f step : Nat), M + 2 ≤ f → step + M < 20000 → wX_run_27 post f (nI step) (nI dl) (nI rl) (nI fl) f_nodeCount f_currentStatus f_faultNode f_typeCount (nI t) (nI e) 0 rn (nI F.length) 0 0 (nI dr) (nI rc) a_nodeKind a_nodeArg a_expectedPlaces a_nodeAtPlace a_placeOfNode a_variablesSeen a_nodeType a_gradeOfBinder a_variableType a_usage a_typeKind a_typeGrade a_typeLeft a_typeRight fm fw fe tN tE rE bo go cO) {t e dr rc e' : Nat} {w : Int32} {G F : gm_Fr} {tn te rs gr co : Nat → Nat} {rn : Int32} {fm fw fe tN tE rE bo go cO : Nat → Int32} (ih2 : ∀ (t e dr rc : Nat) (F : gm_Fr) (tn te rs gr co : Nat → Nat) (rn : Int32) (fm fw fe tN tE rE bo go cO : Nat → Int32), gm_I kd a_nodeArg n tn te rs rc t e F → gz_J kd a_nodeArg n tn te rs gr co rc t e F → rc ≤ rl → dr ≤ dl → F.length ≤ fl → gw_rr rc tn te rs gr co tN tE rE go cO → gw_ff fm fw fe F → gm_vl (kd t) → gm_ps kd n F + 96 * (dl - dr) + 96 * (rl - rc) ≤ M → ∀ (f step : Nat), M + 2 ≤ f → step + M < 20000 → wX_run_27 post f (nI step) (nI dl) (nI rl) (nI fl) f_nodeCount f_currentStatus f_faultNode f_typeCount (nI t) (nI e) 1 rn (nI F.length) 0 0 (nI dr) (nI rc) a_nodeKind a_nodeArg a_expectedPlaces a_nodeAtPlace a_placeOfNode a_variablesSeen a_nodeType a_gradeOfBinder a_variableType a_usage a_typeKind a_typeGrade a_typeLeft a_typeRight fm fw fe tN tE rE bo go cO) (eF : F = (0, w, e') :: G) (I : gm_I kd a_nodeArg n tn te rs rc t e F) (J : gz_J kd a_nodeArg n tn te rs gr co rc t e F) (hrc : rc ≤ rl) (hdr : dr ≤ dl) (hF : F.length ≤ fl) (R : gw_rr rc tn te rs gr co tN tE rE go cO) (hff : gw_ff fm fw fe F) (hv : gm_vl (kd t)) (hM : gm_ps kd n F + 96 * (dl - dr) + 96 * (rl - rc) ≤ M + 1) (f step : Nat) (hf : M + 1 + 2 ≤ f) (hs : step + (M + 1) < 20000) : wX_run_27 post f (nI step) (nI dl) (nI rl) (nI fl) f_nodeCount f_currentStatus f_faultNode f_typeCount (nI t) (nI e) 1 rn (nI F.length) 0 0 (nI dr) (nI rc) a_nodeKind a_nodeArg a_expectedPlaces a_nodeAtPlace a_placeOfNode a_variablesSeen a_nodeType a_gradeOfBinder a_variableType a_usage a_typeKind a_typeGrade a_typeLeft a_typeRight fm fw fe tN tE rE bo go cO := by
  subst eF
  have ok := A.1.1
  have hn := ok.2.1
  have ht := I.1
  simp only [List.length_cons] at hF
  simp only [gm_ps] at hM
  obtain ⟨f1, f2, f3, f7⟩ := hff
  dsimp only at f1 f2 f3
  have q64 : G.length < 64 := by omega
  cases f with
  | zero => omega
  | succ f =>
  refine br_f (nI_ge (b := 20000) (by omega) (by decide)) (br_t rfl (br_f (by decide) ?_))
  rw [gm_pf_0] at hM
  obtain ⟨k7, e'0, I'⟩ := gm_s_add0 A I hv
  exact gx_retA q64 f1 f2 (nm_r (nI_1 step) (ih2 t e dr rc G tn te rs gr co (w + rn) fm fw fe tN tE rE bo go cO I' (gz_j_0 J) hrc hdr (by omega) R f7 hv (by omega) f (step + 1) (by omega) (by omega)))
theorem gw_ad8 {post : Int32 → St2 → Prop} {n dl rl fl : Nat} {kd : Nat → Nat} (A : gm_A kd a_nodeArg n) (L : gz_L kd n) (hK : ∀ i, i < n → a_nodeKind i = nI (kd i)) (hX : ∀ i, i < n → ∀ j, j < gp_ar (kd i) → a_nodeAtPlace (3 * i + j) = nI (gp_ch kd n i j)) (hg : ∀ i, i < n → (kd i = 9 ∨ kd i = 12 ∨ kd i = 15 ∨ kd i = 17) → a_gradeOfBinder i = nI (gt_b kd a_nodeArg n i)) (hdl : dl ≤ 64) (hrl : rl ≤ 32) (hfl : fl ≤ 64) (hFin : ∀ (cn ce rt rn fc o lv dr' : Int32) (rc : Nat) (gr co : Nat → Nat) (fm fw fe tN tE rE bo go cO : Nat → Int32), rc ≤ rl → gz_Q rc gr co → (∀ r, 1 ≤ r → r ≤ rc → go r = nI (gr r) ∧ cO r = nI (co r)) → post o (nI dl, nI rl, nI fl, f_nodeCount, f_currentStatus, f_faultNode, f_typeCount, cn, ce, rt, rn, fc, o, lv, dr', nI rc, a_nodeKind, a_nodeArg, a_expectedPlaces, a_nodeAtPlace, a_placeOfNode, a_variablesSeen, a_nodeType, a_gradeOfBinder, a_variableType, a_usage, a_typeKind, a_typeGrade, a_typeLeft, a_typeRight, fm, fw, fe, tN, tE, rE, bo, go, cO)) {M : Nat} (ih1 : ∀ (t e dr rc : Nat) (F : gm_Fr) (tn te rs gr co : Nat → Nat) (rn : Int32) (fm fw fe tN tE rE bo go cO : Nat → Int32), gm_I kd a_nodeArg n tn te rs rc t e F → gz_J kd a_nodeArg n tn te rs gr co rc t e F → rc ≤ rl → dr ≤ dl → F.length ≤ fl → gw_rr rc tn te rs gr co tN tE rE go cO → gw_ff fm fw fe F → 3 * gp_sz kd n t + gm_ps kd n F + 96 * (dl - dr) + 96 * (rl - rc) ≤ M → ∀ (f step : Nat), M + 2 ≤ f → step + M < 20000 → wX_run_27 post f (nI step) (nI dl) (nI rl) (nI fl) f_nodeCount f_currentStatus f_faultNode f_typeCount (nI t) (nI e) 0 rn (nI F.length) 0 0 (nI dr) (nI rc) a_nodeKind a_nodeArg a_expectedPlaces a_nodeAtPlace a_placeOfNode a_variablesSeen a_nodeType a_gradeOfBinder a_variableType a_usage a_typeKind a_typeGrade a_typeLeft a_typeRight fm fw fe tN tE rE bo go cO) {t e dr rc e' : Nat} {w : Int32} {G F : gm_Fr} {tn te rs gr co : Nat → Nat} {rn : Int32} {fm fw fe tN tE rE bo go cO : Nat → Int32} (eF : F = (8, w, e') :: G) (I : gm_I kd a_nodeArg n tn te rs rc t e F) (J : gz_J kd a_nodeArg n tn te rs gr co rc t e F) (hrc : rc ≤ rl) (hdr : dr ≤ dl) (hF : F.length ≤ fl) (R : gw_rr rc tn te rs gr co tN tE rE go cO) (hff : gw_ff fm fw fe F) (hv : gm_vl (kd t)) (hM : gm_ps kd n F + 96 * (dl - dr) + 96 * (rl - rc) ≤ M + 1) (f step : Nat) (hf : M + 1 + 2 ≤ f) (hs : step + (M + 1) < 20000) : wX_run_27 post f (nI step) (nI dl) (nI rl) (nI fl) f_nodeCount f_currentStatus f_faultNode f_typeCount (nI t) (nI e) 1 rn (nI F.length) 0 0 (nI dr) (nI rc) a_nodeKind a_nodeArg a_expectedPlaces a_nodeAtPlace a_placeOfNode a_variablesSeen a_nodeType a_gradeOfBinder a_variableType a_usage a_typeKind a_typeGrade a_typeLeft a_typeRight fm fw fe tN tE rE bo go cO := by
  subst eF
  have ok := A.1.1
  have hn := ok.2.1
  have ht := I.1
  have t32 : t < 32 := by omega
  simp only [List.length_cons] at hF
  simp only [gm_ps] at hM
  obtain ⟨f1, f2, f3, f7⟩ := hff
  dsimp only at f1 f2 f3
  have q64 : G.length < 64 := by omega
  obtain ⟨_, d, hd, ew, kdd, _⟩ := gm_fr_d A I hv (by decide)
  subst ew
  have d32 : d < 32 := by omega
  cases f with
  | zero => omega
  | succ f =>
  cases f with
  | zero => omega
  | succ f =>
  refine br_f (nI_ge (b := 20000) (by omega) (by decide)) (br_t rfl (br_f (by decide) ?_))
  obtain ⟨k7, _, _, I'⟩ := gm_s_add (w := rn) A I hd hv
  have ar1 : 1 < gp_ar (kd d) := by rw [kdd]; decide
  have mm := gm_m_c (m := 8) (e := e') ok hd (by decide) ar1 (by omega)
  refine gx_retN q64 f1 f2 f3 (Or.inl rfl) (fun _ => ?_) (fun z => absurd z (by decide)) (fun z => absurd z (by decide)) (fun z => absurd z (by decide)) (fun z => absurd z (by decide))
  exact gx_en8 d32 (hX d hd 1 ar1) q64 (nm_r (nI_1 step) (ih1 _ _ dr rc _ tn te rs gr co rn _ _ _ tN tE rE bo go cO I' (gz_j_8 ok ht hd k7 J) hrc hdr (by simp only [List.length_cons]; omega) R (gw_ff_p (m := 0) (e := 0) f7) (by simp only [gm_ps]; rw [gm_pf_0]; omega) (f + 1) (step + 1) (by omega) (by omega)))
theorem gw_app {post : Int32 → St2 → Prop} {n dl rl fl : Nat} {kd : Nat → Nat} (A : gm_A kd a_nodeArg n) (L : gz_L kd n) (hK : ∀ i, i < n → a_nodeKind i = nI (kd i)) (hX : ∀ i, i < n → ∀ j, j < gp_ar (kd i) → a_nodeAtPlace (3 * i + j) = nI (gp_ch kd n i j)) (hg : ∀ i, i < n → (kd i = 9 ∨ kd i = 12 ∨ kd i = 15 ∨ kd i = 17) → a_gradeOfBinder i = nI (gt_b kd a_nodeArg n i)) (hdl : dl ≤ 64) (hrl : rl ≤ 32) (hfl : fl ≤ 64) (hFin : ∀ (cn ce rt rn fc o lv dr' : Int32) (rc : Nat) (gr co : Nat → Nat) (fm fw fe tN tE rE bo go cO : Nat → Int32), rc ≤ rl → gz_Q rc gr co → (∀ r, 1 ≤ r → r ≤ rc → go r = nI (gr r) ∧ cO r = nI (co r)) → post o (nI dl, nI rl, nI fl, f_nodeCount, f_currentStatus, f_faultNode, f_typeCount, cn, ce, rt, rn, fc, o, lv, dr', nI rc, a_nodeKind, a_nodeArg, a_expectedPlaces, a_nodeAtPlace, a_placeOfNode, a_variablesSeen, a_nodeType, a_gradeOfBinder, a_variableType, a_usage, a_typeKind, a_typeGrade, a_typeLeft, a_typeRight, fm, fw, fe, tN, tE, rE, bo, go, cO)) {M : Nat} (ih1 : ∀ (t e dr rc : Nat) (F : gm_Fr) (tn te rs gr co : Nat → Nat) (rn : Int32) (fm fw fe tN tE rE bo go cO : Nat → Int32), gm_I kd a_nodeArg n tn te rs rc t e F → gz_J kd a_nodeArg n tn te rs gr co rc t e F → rc ≤ rl → dr ≤ dl → F.length ≤ fl → gw_rr rc tn te rs gr co tN tE rE go cO → gw_ff fm fw fe F → 3 * gp_sz kd n t + gm_ps kd n F + 96 * (dl - dr) + 96 * (rl - rc) ≤ M → ∀ (f step : Nat), M + 2 ≤ f → step + M < 20000 → wX_run_27 post f (nI step) (nI dl) (nI rl) (nI fl) f_nodeCount f_currentStatus f_faultNode f_typeCount (nI t) (nI e) 0 rn (nI F.length) 0 0 (nI dr) (nI rc) a_nodeKind a_nodeArg a_expectedPlaces a_nodeAtPlace a_placeOfNode a_variablesSeen a_nodeType a_gradeOfBinder a_variableType a_usage a_typeKind a_typeGrade a_typeLeft a_typeRight fm fw fe tN tE rE bo go cO) {t e dr rc e' : Nat} {w : Int32} {G F : gm_Fr} {tn te rs gr co : Nat → Nat} {rn : Int32} {fm fw fe tN tE rE bo go cO : Nat → Int32} (eF : F = (10, w, e') :: G) (I : gm_I kd a_nodeArg n tn te rs rc t e F) (J : gz_J kd a_nodeArg n tn te rs gr co rc t e F) (hrc : rc ≤ rl) (hdr : dr ≤ dl) (hF : F.length ≤ fl) (R : gw_rr rc tn te rs gr co tN tE rE go cO) (hff : gw_ff fm fw fe F) (hv : gm_vl (kd t)) (hM : gm_ps kd n F + 96 * (dl - dr) + 96 * (rl - rc) ≤ M + 1) (f step : Nat) (hf : M + 1 + 2 ≤ f) (hs : step + (M + 1) < 20000) : wX_run_27 post f (nI step) (nI dl) (nI rl) (nI fl) f_nodeCount f_currentStatus f_faultNode f_typeCount (nI t) (nI e) 1 rn (nI F.length) 0 0 (nI dr) (nI rc) a_nodeKind a_nodeArg a_expectedPlaces a_nodeAtPlace a_placeOfNode a_variablesSeen a_nodeType a_gradeOfBinder a_variableType a_usage a_typeKind a_typeGrade a_typeLeft a_typeRight fm fw fe tN tE rE bo go cO := by
  subst eF
  have ok := A.1.1
  have hn := ok.2.1
  have ht := I.1
  have t32 : t < 32 := by omega
  simp only [List.length_cons] at hF
  simp only [gm_ps] at hM
  obtain ⟨f1, f2, f3, f7⟩ := hff
  dsimp only at f1 f2 f3
  have q64 : G.length < 64 := by omega
  obtain ⟨_, d, hd, ew, kdd, _⟩ := gm_fr_d A I hv (by decide)
  subst ew
  have d32 : d < 32 := by omega
  cases f with
  | zero => omega
  | succ f =>
  cases f with
  | zero => omega
  | succ f =>
  refine br_f (nI_ge (b := 20000) (by omega) (by decide)) (br_t rfl (br_f (by decide) ?_))
  obtain ⟨k9, _, he', I'⟩ := gm_s_app A I hd hv
  obtain ⟨g2, J'⟩ := gz_a10 A I J hd hv
  have ar1 : 1 < gp_ar (kd d) := by rw [kdd]; decide
  have ar1' : 1 < gp_ar (kd t) := by rw [k9]; decide
  have sz' := gp_sz_le ok I'.1
  have p1 := gm_pf_1 kd n (10, nI d, e')
  have eg := hg t ht (Or.inl k9)
  have c1 := hX d hd 1 ar1
  have b1 := hX t ht 1 ar1'
  refine gx_retN q64 f1 f2 f3 (Or.inr (Or.inl rfl)) (fun z => absurd z (by decide)) (fun _ => ?_) (fun z => absurd z (by decide)) (fun z => absurd z (by decide)) (fun z => absurd z (by decide))
  refine gx_en10 d32 t32 c1 b1 hrc hrl (fun w => nm_r (nI_1 step) (gw_fin (by decide) ?_)) (fun z => nm_r (nI_1 step) ?_)
  · exact hFin (nI t) (nI e) 1 rn (nI G.length) 8 0 (nI dr) rc gr co fm fw fe tN tE rE bo go cO hrc (gz_J_Q J) (gw_rr_q R)
  · exact ih1 _ _ dr (rc + 1) G _ _ _ _ _ rn fm fw fe _ _ _ _ _ _ I' J' z hdr (by omega) (gw_rr_p R eg) f7 (by omega) (f + 1) (step + 1) (by omega) (by omega)
theorem gw_lbx {post : Int32 → St2 → Prop} {n dl rl fl : Nat} {kd : Nat → Nat} (A : gm_A kd a_nodeArg n) (L : gz_L kd n) (hK : ∀ i, i < n → a_nodeKind i = nI (kd i)) (hX : ∀ i, i < n → ∀ j, j < gp_ar (kd i) → a_nodeAtPlace (3 * i + j) = nI (gp_ch kd n i j)) (hg : ∀ i, i < n → (kd i = 9 ∨ kd i = 12 ∨ kd i = 15 ∨ kd i = 17) → a_gradeOfBinder i = nI (gt_b kd a_nodeArg n i)) (hdl : dl ≤ 64) (hrl : rl ≤ 32) (hfl : fl ≤ 64) (hFin : ∀ (cn ce rt rn fc o lv dr' : Int32) (rc : Nat) (gr co : Nat → Nat) (fm fw fe tN tE rE bo go cO : Nat → Int32), rc ≤ rl → gz_Q rc gr co → (∀ r, 1 ≤ r → r ≤ rc → go r = nI (gr r) ∧ cO r = nI (co r)) → post o (nI dl, nI rl, nI fl, f_nodeCount, f_currentStatus, f_faultNode, f_typeCount, cn, ce, rt, rn, fc, o, lv, dr', nI rc, a_nodeKind, a_nodeArg, a_expectedPlaces, a_nodeAtPlace, a_placeOfNode, a_variablesSeen, a_nodeType, a_gradeOfBinder, a_variableType, a_usage, a_typeKind, a_typeGrade, a_typeLeft, a_typeRight, fm, fw, fe, tN, tE, rE, bo, go, cO)) {M : Nat} (ih1 : ∀ (t e dr rc : Nat) (F : gm_Fr) (tn te rs gr co : Nat → Nat) (rn : Int32) (fm fw fe tN tE rE bo go cO : Nat → Int32), gm_I kd a_nodeArg n tn te rs rc t e F → gz_J kd a_nodeArg n tn te rs gr co rc t e F → rc ≤ rl → dr ≤ dl → F.length ≤ fl → gw_rr rc tn te rs gr co tN tE rE go cO → gw_ff fm fw fe F → 3 * gp_sz kd n t + gm_ps kd n F + 96 * (dl - dr) + 96 * (rl - rc) ≤ M → ∀ (f step : Nat), M + 2 ≤ f → step + M < 20000 → wX_run_27 post f (nI step) (nI dl) (nI rl) (nI fl) f_nodeCount f_currentStatus f_faultNode f_typeCount (nI t) (nI e) 0 rn (nI F.length) 0 0 (nI dr) (nI rc) a_nodeKind a_nodeArg a_expectedPlaces a_nodeAtPlace a_placeOfNode a_variablesSeen a_nodeType a_gradeOfBinder a_variableType a_usage a_typeKind a_typeGrade a_typeLeft a_typeRight fm fw fe tN tE rE bo go cO) {t e dr rc e' : Nat} {w : Int32} {G F : gm_Fr} {tn te rs gr co : Nat → Nat} {rn : Int32} {fm fw fe tN tE rE bo go cO : Nat → Int32} (eF : F = (17, w, e') :: G) (I : gm_I kd a_nodeArg n tn te rs rc t e F) (J : gz_J kd a_nodeArg n tn te rs gr co rc t e F) (hrc : rc ≤ rl) (hdr : dr ≤ dl) (hF : F.length ≤ fl) (R : gw_rr rc tn te rs gr co tN tE rE go cO) (hff : gw_ff fm fw fe F) (hv : gm_vl (kd t)) (hM : gm_ps kd n F + 96 * (dl - dr) + 96 * (rl - rc) ≤ M + 1) (f step : Nat) (hf : M + 1 + 2 ≤ f) (hs : step + (M + 1) < 20000) : wX_run_27 post f (nI step) (nI dl) (nI rl) (nI fl) f_nodeCount f_currentStatus f_faultNode f_typeCount (nI t) (nI e) 1 rn (nI F.length) 0 0 (nI dr) (nI rc) a_nodeKind a_nodeArg a_expectedPlaces a_nodeAtPlace a_placeOfNode a_variablesSeen a_nodeType a_gradeOfBinder a_variableType a_usage a_typeKind a_typeGrade a_typeLeft a_typeRight fm fw fe tN tE rE bo go cO := by
  subst eF
  have ok := A.1.1
  have hn := ok.2.1
  have ht := I.1
  have t32 : t < 32 := by omega
  simp only [List.length_cons] at hF
  simp only [gm_ps] at hM
  obtain ⟨f1, f2, f3, f7⟩ := hff
  dsimp only at f1 f2 f3
  have q64 : G.length < 64 := by omega
  obtain ⟨_, d, hd, ew, kdd, _⟩ := gm_fr_d A I hv (by decide)
  subst ew
  have d32 : d < 32 := by omega
  cases f with
  | zero => omega
  | succ f =>
  cases f with
  | zero => omega
  | succ f =>
  refine br_f (nI_ge (b := 20000) (by omega) (by decide)) (br_t rfl (br_f (by decide) ?_))
  obtain ⟨k16, _, he', I'⟩ := gm_s_box A I hd hv
  obtain ⟨g2, J'⟩ := gz_a17 A I J hd hv
  have ar1 : 1 < gp_ar (kd d) := by rw [kdd]; decide
  have ar0 : 0 < gp_ar (kd t) := by rw [k16]; decide
  have sz' := gp_sz_le ok I'.1
  have mm := gm_m_c (m := 17) (e := e') ok hd (by decide) ar1 (by omega)
  have eg := hg d hd (Or.inr (Or.inr (Or.inr kdd)))
  have c1 := hX t ht 0 ar0
  have b1 := hX d hd 1 ar1
  refine gx_retN q64 f1 f2 f3 (Or.inr (Or.inr (Or.inr (Or.inr rfl)))) (fun z => absurd z (by decide)) (fun z => absurd z (by decide)) (fun z => absurd z (by decide)) (fun z => absurd z (by decide)) (fun _ => ?_)
  refine gx_en17 d32 t32 c1 b1 hrc hrl (fun w => nm_r (nI_1 step) (gw_fin (by decide) ?_)) (fun z => nm_r (nI_1 step) ?_)
  · exact hFin (nI t) (nI e) 1 rn (nI G.length) 8 0 (nI dr) rc gr co fm fw fe tN tE rE bo go cO hrc (gz_J_Q J) (gw_rr_q R)
  · exact ih1 _ _ dr (rc + 1) G _ _ _ _ _ rn fm fw fe _ _ _ _ _ _ I' J' z hdr (by omega) (gw_rr_p R eg) f7 (by omega) (f + 1) (step + 1) (by omega) (by omega)
theorem gw_cas {post : Int32 → St2 → Prop} {n dl rl fl : Nat} {kd : Nat → Nat} (A : gm_A kd a_nodeArg n) (L : gz_L kd n) (hK : ∀ i, i < n → a_nodeKind i = nI (kd i)) (hX : ∀ i, i < n → ∀ j, j < gp_ar (kd i) → a_nodeAtPlace (3 * i + j) = nI (gp_ch kd n i j)) (hg : ∀ i, i < n → (kd i = 9 ∨ kd i = 12 ∨ kd i = 15 ∨ kd i = 17) → a_gradeOfBinder i = nI (gt_b kd a_nodeArg n i)) (hdl : dl ≤ 64) (hrl : rl ≤ 32) (hfl : fl ≤ 64) (hFin : ∀ (cn ce rt rn fc o lv dr' : Int32) (rc : Nat) (gr co : Nat → Nat) (fm fw fe tN tE rE bo go cO : Nat → Int32), rc ≤ rl → gz_Q rc gr co → (∀ r, 1 ≤ r → r ≤ rc → go r = nI (gr r) ∧ cO r = nI (co r)) → post o (nI dl, nI rl, nI fl, f_nodeCount, f_currentStatus, f_faultNode, f_typeCount, cn, ce, rt, rn, fc, o, lv, dr', nI rc, a_nodeKind, a_nodeArg, a_expectedPlaces, a_nodeAtPlace, a_placeOfNode, a_variablesSeen, a_nodeType, a_gradeOfBinder, a_variableType, a_usage, a_typeKind, a_typeGrade, a_typeLeft, a_typeRight, fm, fw, fe, tN, tE, rE, bo, go, cO)) {M : Nat} (ih1 : ∀ (t e dr rc : Nat) (F : gm_Fr) (tn te rs gr co : Nat → Nat) (rn : Int32) (fm fw fe tN tE rE bo go cO : Nat → Int32), gm_I kd a_nodeArg n tn te rs rc t e F → gz_J kd a_nodeArg n tn te rs gr co rc t e F → rc ≤ rl → dr ≤ dl → F.length ≤ fl → gw_rr rc tn te rs gr co tN tE rE go cO → gw_ff fm fw fe F → 3 * gp_sz kd n t + gm_ps kd n F + 96 * (dl - dr) + 96 * (rl - rc) ≤ M → ∀ (f step : Nat), M + 2 ≤ f → step + M < 20000 → wX_run_27 post f (nI step) (nI dl) (nI rl) (nI fl) f_nodeCount f_currentStatus f_faultNode f_typeCount (nI t) (nI e) 0 rn (nI F.length) 0 0 (nI dr) (nI rc) a_nodeKind a_nodeArg a_expectedPlaces a_nodeAtPlace a_placeOfNode a_variablesSeen a_nodeType a_gradeOfBinder a_variableType a_usage a_typeKind a_typeGrade a_typeLeft a_typeRight fm fw fe tN tE rE bo go cO) {t e dr rc e' : Nat} {w : Int32} {G F : gm_Fr} {tn te rs gr co : Nat → Nat} {rn : Int32} {fm fw fe tN tE rE bo go cO : Nat → Int32} (eF : F = (15, w, e') :: G) (I : gm_I kd a_nodeArg n tn te rs rc t e F) (J : gz_J kd a_nodeArg n tn te rs gr co rc t e F) (hrc : rc ≤ rl) (hdr : dr ≤ dl) (hF : F.length ≤ fl) (R : gw_rr rc tn te rs gr co tN tE rE go cO) (hff : gw_ff fm fw fe F) (hv : gm_vl (kd t)) (hM : gm_ps kd n F + 96 * (dl - dr) + 96 * (rl - rc) ≤ M + 1) (f step : Nat) (hf : M + 1 + 2 ≤ f) (hs : step + (M + 1) < 20000) : wX_run_27 post f (nI step) (nI dl) (nI rl) (nI fl) f_nodeCount f_currentStatus f_faultNode f_typeCount (nI t) (nI e) 1 rn (nI F.length) 0 0 (nI dr) (nI rc) a_nodeKind a_nodeArg a_expectedPlaces a_nodeAtPlace a_placeOfNode a_variablesSeen a_nodeType a_gradeOfBinder a_variableType a_usage a_typeKind a_typeGrade a_typeLeft a_typeRight fm fw fe tN tE rE bo go cO := by
  subst eF
  have ok := A.1.1
  have hn := ok.2.1
  have ht := I.1
  have t32 : t < 32 := by omega
  simp only [List.length_cons] at hF
  simp only [gm_ps] at hM
  obtain ⟨f1, f2, f3, f7⟩ := hff
  dsimp only at f1 f2 f3
  have q64 : G.length < 64 := by omega
  obtain ⟨_, d, hd, ew, kdd, _⟩ := gm_fr_d A I hv (by decide)
  subst ew
  have d32 : d < 32 := by omega
  cases f with
  | zero => omega
  | succ f =>
  cases f with
  | zero => omega
  | succ f =>
  refine br_f (nI_ge (b := 20000) (by omega) (by decide)) (br_t rfl (br_f (by decide) ?_))
  obtain ⟨k13, _, he', I'⟩ := gm_s_case A I hd hv
  obtain ⟨g2, J'⟩ := gz_a15 A I J hd hv
  have jj : 1 ≤ (if kd t = 13 then 1 else 2) ∧ (if kd t = 13 then 1 else 2) < gp_ar (kd d) := by
    rw [kdd]
    by_cases z : kd t = 13
    · rw [if_pos z]; decide
    · rw [if_neg z]; decide
  have ar1 : 1 < gp_ar (kd t) := by rcases k13 with z | z <;> rw [z] <;> decide
  have k17 : kd t ≤ 17 := by omega
  have mm := gm_m_c (m := 15) (e := e') ok hd (by decide) jj.2 jj.1
  have eg := hg d hd (Or.inr (Or.inr (Or.inl kdd)))
  have c1 := hX t ht 1 ar1
  have b1 := hX d hd _ jj.2
  refine gx_retN q64 f1 f2 f3 (Or.inr (Or.inr (Or.inr (Or.inl rfl)))) (fun z => absurd z (by decide)) (fun z => absurd z (by decide)) (fun z => absurd z (by decide)) (fun _ => ?_) (fun z => absurd z (by decide))
  refine gx_en15 d32 t32 (hK t ht) k17 c1 b1 hrc hrl (fun w => nm_r (nI_1 step) (gw_fin (by decide) ?_)) (fun z => nm_r (nI_1 step) ?_)
  · exact hFin (nI t) (nI e) 1 rn (nI G.length) 8 0 (nI dr) rc gr co fm fw fe tN tE rE bo go cO hrc (gz_J_Q J) (gw_rr_q R)
  · exact ih1 _ _ dr (rc + 1) G _ _ _ _ _ rn fm fw fe _ _ _ _ _ _ I' J' z hdr (by omega) (gw_rr_p R eg) f7 (by omega) (f + 1) (step + 1) (by omega) (by omega)
theorem gw_lpr {post : Int32 → St2 → Prop} {n dl rl fl : Nat} {kd : Nat → Nat} (A : gm_A kd a_nodeArg n) (L : gz_L kd n) (hK : ∀ i, i < n → a_nodeKind i = nI (kd i)) (hX : ∀ i, i < n → ∀ j, j < gp_ar (kd i) → a_nodeAtPlace (3 * i + j) = nI (gp_ch kd n i j)) (hg : ∀ i, i < n → (kd i = 9 ∨ kd i = 12 ∨ kd i = 15 ∨ kd i = 17) → a_gradeOfBinder i = nI (gt_b kd a_nodeArg n i)) (hdl : dl ≤ 64) (hrl : rl ≤ 32) (hfl : fl ≤ 64) (hFin : ∀ (cn ce rt rn fc o lv dr' : Int32) (rc : Nat) (gr co : Nat → Nat) (fm fw fe tN tE rE bo go cO : Nat → Int32), rc ≤ rl → gz_Q rc gr co → (∀ r, 1 ≤ r → r ≤ rc → go r = nI (gr r) ∧ cO r = nI (co r)) → post o (nI dl, nI rl, nI fl, f_nodeCount, f_currentStatus, f_faultNode, f_typeCount, cn, ce, rt, rn, fc, o, lv, dr', nI rc, a_nodeKind, a_nodeArg, a_expectedPlaces, a_nodeAtPlace, a_placeOfNode, a_variablesSeen, a_nodeType, a_gradeOfBinder, a_variableType, a_usage, a_typeKind, a_typeGrade, a_typeLeft, a_typeRight, fm, fw, fe, tN, tE, rE, bo, go, cO)) {M : Nat} (ih1 : ∀ (t e dr rc : Nat) (F : gm_Fr) (tn te rs gr co : Nat → Nat) (rn : Int32) (fm fw fe tN tE rE bo go cO : Nat → Int32), gm_I kd a_nodeArg n tn te rs rc t e F → gz_J kd a_nodeArg n tn te rs gr co rc t e F → rc ≤ rl → dr ≤ dl → F.length ≤ fl → gw_rr rc tn te rs gr co tN tE rE go cO → gw_ff fm fw fe F → 3 * gp_sz kd n t + gm_ps kd n F + 96 * (dl - dr) + 96 * (rl - rc) ≤ M → ∀ (f step : Nat), M + 2 ≤ f → step + M < 20000 → wX_run_27 post f (nI step) (nI dl) (nI rl) (nI fl) f_nodeCount f_currentStatus f_faultNode f_typeCount (nI t) (nI e) 0 rn (nI F.length) 0 0 (nI dr) (nI rc) a_nodeKind a_nodeArg a_expectedPlaces a_nodeAtPlace a_placeOfNode a_variablesSeen a_nodeType a_gradeOfBinder a_variableType a_usage a_typeKind a_typeGrade a_typeLeft a_typeRight fm fw fe tN tE rE bo go cO) {t e dr rc e' : Nat} {w : Int32} {G F : gm_Fr} {tn te rs gr co : Nat → Nat} {rn : Int32} {fm fw fe tN tE rE bo go cO : Nat → Int32} (eF : F = (12, w, e') :: G) (I : gm_I kd a_nodeArg n tn te rs rc t e F) (J : gz_J kd a_nodeArg n tn te rs gr co rc t e F) (hrc : rc ≤ rl) (hdr : dr ≤ dl) (hF : F.length ≤ fl) (R : gw_rr rc tn te rs gr co tN tE rE go cO) (hff : gw_ff fm fw fe F) (hv : gm_vl (kd t)) (hM : gm_ps kd n F + 96 * (dl - dr) + 96 * (rl - rc) ≤ M + 1) (f step : Nat) (hf : M + 1 + 2 ≤ f) (hs : step + (M + 1) < 20000) : wX_run_27 post f (nI step) (nI dl) (nI rl) (nI fl) f_nodeCount f_currentStatus f_faultNode f_typeCount (nI t) (nI e) 1 rn (nI F.length) 0 0 (nI dr) (nI rc) a_nodeKind a_nodeArg a_expectedPlaces a_nodeAtPlace a_placeOfNode a_variablesSeen a_nodeType a_gradeOfBinder a_variableType a_usage a_typeKind a_typeGrade a_typeLeft a_typeRight fm fw fe tN tE rE bo go cO := by
  subst eF
  have ok := A.1.1
  have hn := ok.2.1
  have ht := I.1
  have t32 : t < 32 := by omega
  simp only [List.length_cons] at hF
  simp only [gm_ps] at hM
  obtain ⟨f1, f2, f3, f7⟩ := hff
  dsimp only at f1 f2 f3
  have q64 : G.length < 64 := by omega
  obtain ⟨_, d, hd, ew, kdd, _⟩ := gm_fr_d A I hv (by decide)
  subst ew
  have d32 : d < 32 := by omega
  cases f with
  | zero => omega
  | succ f =>
  cases f with
  | zero => omega
  | succ f =>
  refine br_f (nI_ge (b := 20000) (by omega) (by decide)) (br_t rfl (br_f (by decide) ?_))
  obtain ⟨k11, _, he', I'⟩ := gm_s_pair A I hd hv
  obtain ⟨g2, J'⟩ := gz_a12 A I J hd hv
  have ar1 : 1 < gp_ar (kd d) := by rw [kdd]; decide
  have ar0 : 0 < gp_ar (kd t) := by rw [k11]; decide
  have ar1' : 1 < gp_ar (kd t) := by rw [k11]; decide
  have mm := gm_m_c (m := 12) (e := e') ok hd (by decide) ar1 (by omega)
  have eg := hg d hd (Or.inr (Or.inl kdd))
  have c0 := hX t ht 0 ar0
  have c1 := hX t ht 1 ar1'
  have b1 := hX d hd 1 ar1
  have R1 := gw_rr_p (d := gp_ch kd n t 0) (e1 := e) (e2 := e') R eg
  refine gx_retN q64 f1 f2 f3 (Or.inr (Or.inr (Or.inl rfl))) (fun z => absurd z (by decide)) (fun z => absurd z (by decide)) (fun _ => ?_) (fun z => absurd z (by decide)) (fun z => absurd z (by decide))
  refine gx_en12 d32 t32 c0 c1 b1 hrc hrl (fun w => nm_r (nI_1 step) (gw_fin (by decide) ?_)) (fun w => nm_r (nI_1 step) (gw_fin (by decide) ?_)) (fun z => nm_r (nI_1 step) ?_)
  · exact hFin (nI t) (nI e) 1 rn (nI G.length) 8 0 (nI dr) rc gr co fm fw fe tN tE rE bo go cO hrc (gz_J_Q J) (gw_rr_q R)
  · exact hFin (nI t) (nI e) 1 rn (nI G.length) 8 0 (nI dr) (rc + 1) _ _ fm fw fe _ _ _ _ _ _ (by omega) (gz_Q_p (gz_J_Q J) g2) (gw_rr_q R1)
  · exact ih1 _ _ dr (rc + 1 + 1) G _ _ _ _ _ rn fm fw fe _ _ _ _ _ _ I' J' z hdr (by omega) (gw_rr_p (d := gp_ch kd n t 1) (e1 := e) (e2 := rc + 1) R1 eg) f7 (by omega) (f + 1) (step + 1) (by omega) (by omega)
theorem gw_go {post : Int32 → St2 → Prop} {n dl rl fl : Nat} {kd : Nat → Nat} (A : gm_A kd a_nodeArg n) (L : gz_L kd n) (hK : ∀ i, i < n → a_nodeKind i = nI (kd i)) (hX : ∀ i, i < n → ∀ j, j < gp_ar (kd i) → a_nodeAtPlace (3 * i + j) = nI (gp_ch kd n i j)) (hg : ∀ i, i < n → (kd i = 9 ∨ kd i = 12 ∨ kd i = 15 ∨ kd i = 17) → a_gradeOfBinder i = nI (gt_b kd a_nodeArg n i)) (hdl : dl ≤ 64) (hrl : rl ≤ 32) (hfl : fl ≤ 64) (hFin : ∀ (cn ce rt rn fc o lv dr' : Int32) (rc : Nat) (gr co : Nat → Nat) (fm fw fe tN tE rE bo go cO : Nat → Int32), rc ≤ rl → gz_Q rc gr co → (∀ r, 1 ≤ r → r ≤ rc → go r = nI (gr r) ∧ cO r = nI (co r)) → post o (nI dl, nI rl, nI fl, f_nodeCount, f_currentStatus, f_faultNode, f_typeCount, cn, ce, rt, rn, fc, o, lv, dr', nI rc, a_nodeKind, a_nodeArg, a_expectedPlaces, a_nodeAtPlace, a_placeOfNode, a_variablesSeen, a_nodeType, a_gradeOfBinder, a_variableType, a_usage, a_typeKind, a_typeGrade, a_typeLeft, a_typeRight, fm, fw, fe, tN, tE, rE, bo, go, cO)) : ∀ M : Nat, (∀ (t e dr rc : Nat) (F : gm_Fr) (tn te rs gr co : Nat → Nat) (rn : Int32) (fm fw fe tN tE rE bo go cO : Nat → Int32), gm_I kd a_nodeArg n tn te rs rc t e F → gz_J kd a_nodeArg n tn te rs gr co rc t e F → rc ≤ rl → dr ≤ dl → F.length ≤ fl → gw_rr rc tn te rs gr co tN tE rE go cO → gw_ff fm fw fe F → 3 * gp_sz kd n t + gm_ps kd n F + 96 * (dl - dr) + 96 * (rl - rc) ≤ M → ∀ (f step : Nat), M + 2 ≤ f → step + M < 20000 → wX_run_27 post f (nI step) (nI dl) (nI rl) (nI fl) f_nodeCount f_currentStatus f_faultNode f_typeCount (nI t) (nI e) 0 rn (nI F.length) 0 0 (nI dr) (nI rc) a_nodeKind a_nodeArg a_expectedPlaces a_nodeAtPlace a_placeOfNode a_variablesSeen a_nodeType a_gradeOfBinder a_variableType a_usage a_typeKind a_typeGrade a_typeLeft a_typeRight fm fw fe tN tE rE bo go cO) ∧ (∀ (t e dr rc : Nat) (F : gm_Fr) (tn te rs gr co : Nat → Nat) (rn : Int32) (fm fw fe tN tE rE bo go cO : Nat → Int32), gm_I kd a_nodeArg n tn te rs rc t e F → gz_J kd a_nodeArg n tn te rs gr co rc t e F → rc ≤ rl → dr ≤ dl → F.length ≤ fl → gw_rr rc tn te rs gr co tN tE rE go cO → gw_ff fm fw fe F → gm_vl (kd t) → gm_ps kd n F + 96 * (dl - dr) + 96 * (rl - rc) ≤ M → ∀ (f step : Nat), M + 2 ≤ f → step + M < 20000 → wX_run_27 post f (nI step) (nI dl) (nI rl) (nI fl) f_nodeCount f_currentStatus f_faultNode f_typeCount (nI t) (nI e) 1 rn (nI F.length) 0 0 (nI dr) (nI rc) a_nodeKind a_nodeArg a_expectedPlaces a_nodeAtPlace a_placeOfNode a_variablesSeen a_nodeType a_gradeOfBinder a_variableType a_usage a_typeKind a_typeGrade a_typeLeft a_typeRight fm fw fe tN tE rE bo go cO) := by
  intro M
  induction M with
  | zero =>
    refine ⟨?_, ?_⟩
    · intro t e dr rc F tn te rs gr co rn fm fw fe tN tE rE bo go cO I J hrc hdr hF R hff hM
      have := gp_sz_le A.1.1 I.1
      omega
    · intro t e dr rc F tn te rs gr co rn fm fw fe tN tE rE bo go cO I J hrc hdr hF R hff hv hM f step hf hs
      cases F with
      | nil => exact gw_halt A L hK hX hg hdl hrl hfl hFin rfl I J hrc R hv f step hf hs
      | cons x G =>
        have := gm_pf_1 kd n x
        simp only [gm_ps] at hM
        omega
  | succ M ih =>
    obtain ⟨ih1, ih2⟩ := ih
    refine ⟨gw_ev A L hK hX hg hdl hrl hfl hFin ih1 ih2, ?_⟩
    intro t e dr rc F tn te rs gr co rn fm fw fe tN tE rE bo go cO I J hrc hdr hF R hff hv hM f step hf hs
    cases hFe : F with
    | nil =>
      subst hFe
      exact gw_halt A L hK hX hg hdl hrl hfl hFin rfl I J hrc R hv f step hf hs
    | cons x G =>
      subst hFe
      obtain ⟨m, w, e'⟩ := x
      by_cases m0 : m = 0
      · subst m0; exact gw_ad0 A L hK hX hg hdl hrl hfl hFin ih1 ih2 rfl I J hrc hdr hF R hff hv hM f step hf hs
      · obtain ⟨mg, _⟩ := gm_fr_d A I hv m0
        rcases mg with z | z | z | z | z
        · subst z; exact gw_ad8 A L hK hX hg hdl hrl hfl hFin ih1 rfl I J hrc hdr hF R hff hv hM f step hf hs
        · subst z; exact gw_app A L hK hX hg hdl hrl hfl hFin ih1 rfl I J hrc hdr hF R hff hv hM f step hf hs
        · subst z; exact gw_lpr A L hK hX hg hdl hrl hfl hFin ih1 rfl I J hrc hdr hF R hff hv hM f step hf hs
        · subst z; exact gw_cas A L hK hX hg hdl hrl hfl hFin ih1 rfl I J hrc hdr hF R hff hv hM f step hf hs
        · subst z; exact gw_lbx A L hK hX hg hdl hrl hfl hFin ih1 rfl I J hrc hdr hF R hff hv hM f step hf hs
end

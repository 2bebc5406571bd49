section
variable {f_derefLimit f_recordLimit f_frameLimit f_nodeCount f_currentStatus f_faultNode f_typeCount f_currentNode f_currentEnv f_returning f_returnedNumber f_frameCount f_lastOutcome f_lastValue f_derefsMade f_recordsMade : Int32} {a_nodeKind a_nodeArg a_expectedPlaces a_nodeAtPlace a_placeOfNode a_variablesSeen a_nodeType a_gradeOfBinder a_variableType a_usage a_typeKind a_typeGrade a_typeLeft a_typeRight a_frameMark a_frameWord a_frameEnv a_thunkNode a_thunkEnv a_restOfEnv a_binderOfRecord a_gradeOfRecord a_countOfRecord : Nat → Int32} {f_dLim f_rLim f_fLim f_n f_stat f_err f_out f_vInt f_recs f_drf f_fsp : Int32} {a_kind a_arg a_ch a_par a_pos a_seen a_st a_ty a_tyK a_tyG a_tyA a_tyB a_u a_bg a_ux a_uy a_stk a_eqA a_eqB a_rT a_rE a_rG a_rN a_rC a_rX a_fK a_fA a_fE : Nat → Int32}
theorem gr_app {k n dl rl fl : Nat} {kd : Nat → Nat} (A : gm_A kd a_nodeArg n) (hK : ∀ i, i < n → a_nodeKind i = nI (kd i)) (hX : ∀ i, i < n → ∀ j, j < gp_ar (kd i) → a_nodeAtPlace (3 * i + j) = nI (gp_ch kd n i j)) (hY : ∀ i, i < n → ∀ j, j < gp_ar (kd i) → a_ch (3 * i + j) = nI (gp_ch kd n i j)) (hg : ∀ i, i < n → (kd i = 9 ∨ kd i = 12 ∨ kd i = 15 ∨ kd i = 17) → a_bg i = a_gradeOfBinder i) (hdl : dl ≤ 64) (hrl : rl ≤ 32) (hfl : fl ≤ 64) (hFin : ∀ (cn ce rt rn fc o lv dr' rm rs' fsp : Int32) (fm fw fe tN tE rE bo go co rT yE rG rN rC rX fK fA fE : Nat → Int32), gr_rec rm rs' bo go co rN rG rC → i_Rel k (nI dl, nI rl, nI fl, f_nodeCount, f_currentStatus, f_faultNode, f_typeCount, cn, ce, rt, rn, fc, o, lv, dr', rm, a_nodeKind, a_nodeArg, a_expectedPlaces, a_nodeAtPlace, a_placeOfNode, a_variablesSeen, a_nodeType, a_gradeOfBinder, a_variableType, a_usage, a_typeKind, a_typeGrade, a_typeLeft, a_typeRight, fm, fw, fe, tN, tE, rE, bo, go, co) (nI dl, nI rl, nI fl, f_n, f_stat, f_err, o, lv, rs', dr', fsp, a_nodeKind, a_nodeArg, a_ch, a_par, a_pos, a_seen, a_st, a_ty, a_tyK, a_tyG, a_tyA, a_tyB, a_u, a_bg, a_ux, a_uy, a_stk, a_eqA, a_eqB, rT, yE, rG, rN, rC, rX, fK, fA, fE)) {M : Nat} (ih1 : ∀ (t e dr rc : Nat) (F : gm_Fr) (tn te rs : Nat → Nat) (rn x4 x5 x6 x7 : Int32) (fm fw fe tN tE rE bo go co rT yE rG rN rC rX fK fA fE : Nat → Int32), gm_I kd a_nodeArg n tn te rs rc t e F → rc ≤ rl → dr ≤ dl → F.length ≤ fl → gr_rr rc tn te rs tN tE rE bo go co rT yE rG rN rC rX → gr_ff kd n fm fw fe fK fA fE F → 3 * gp_sz kd n t + gm_ps kd n F + 96 * (dl - dr) + 96 * (rl - rc) ≤ M → ∃ (o : Int32) (u' : SX) (v' : SY), i_Rel k u' v' ∧ (∀ (post : Int32 → SX → Prop) (f step : Nat), M + 2 ≤ f → step + M < 20000 → post o u' → wX_run_27 post f (nI step) (nI dl) (nI rl) (nI fl) f_nodeCount f_currentStatus f_faultNode f_typeCount (nI t) (nI e) 0 rn (nI F.length) 0 0 (nI dr) (nI rc) a_nodeKind a_nodeArg a_expectedPlaces a_nodeAtPlace a_placeOfNode a_variablesSeen a_nodeType a_gradeOfBinder a_variableType a_usage a_typeKind a_typeGrade a_typeLeft a_typeRight fm fw fe tN tE rE bo go co) ∧ (∀ (post : Int32 → SY → Prop) (f step : Nat), M + 2 ≤ f → step + M < 100000 → post o v' → wY_run_41 post f (nI t) (nI e - 1) 0 x4 x5 x6 x7 (nI step) (nI dl) (nI rl) (nI fl) f_n f_stat f_err 0 0 (nI rc) (nI dr) (nI F.length) a_nodeKind a_nodeArg a_ch a_par a_pos a_seen a_st a_ty a_tyK a_tyG a_tyA a_tyB a_u a_bg a_ux a_uy a_stk a_eqA a_eqB rT yE rG rN rC rX fK fA fE)) {t e dr rc e' : Nat} {w : Int32} {G F : gm_Fr} {tn te rs : Nat → Nat} {rn x1 x2 x7 : Int32} {fm fw fe tN tE rE bo go co rT yE rG rN rC rX fK fA fE : Nat → Int32} (eF : F = (10, w, e') :: G) (I : gm_I kd a_nodeArg n tn te rs rc t e F) (hrc : rc ≤ rl) (hdr : dr ≤ dl) (hF : F.length ≤ fl) (R : gr_rr rc tn te rs tN tE rE bo go co rT yE rG rN rC rX) (hff : gr_ff kd n fm fw fe fK fA fE F) (hv : gm_vl (kd t)) (hM : gm_ps kd n F + 96 * (dl - dr) + 96 * (rl - rc) ≤ M + 1) : ∃ (o : Int32) (u' : SX) (v' : SY), i_Rel k u' v' ∧ (∀ (post : Int32 → SX → Prop) (f step : Nat), M + 1 + 2 ≤ f → step + (M + 1) < 20000 → post o u' → wX_run_27 post f (nI step) (nI dl) (nI rl) (nI fl) f_nodeCount f_currentStatus f_faultNode f_typeCount (nI t) (nI e) 1 rn (nI F.length) 0 0 (nI dr) (nI rc) a_nodeKind a_nodeArg a_expectedPlaces a_nodeAtPlace a_placeOfNode a_variablesSeen a_nodeType a_gradeOfBinder a_variableType a_usage a_typeKind a_typeGrade a_typeLeft a_typeRight fm fw fe tN tE rE bo go co) ∧ (∀ (post : Int32 → SY → Prop) (f step : Nat), M + 1 + 2 ≤ f → step + (M + 1) < 100000 → post o v' → wY_run_41 post f x1 x2 1 (nI t) (nI e - 1) (nI (kd t)) x7 (nI step) (nI dl) (nI rl) (nI fl) f_n f_stat f_err 0 0 (nI rc) (nI dr) (nI F.length) a_nodeKind a_nodeArg a_ch a_par a_pos a_seen a_st a_ty a_tyK a_tyG a_tyA a_tyB a_u a_bg a_ux a_uy a_stk a_eqA a_eqB rT yE rG rN rC rX fK fA fE) := by
  subst eF
  have ok := A.1.1
  have hn := ok.2.1
  have ht := I.1
  have t32 : t < 32 := by omega
  simp only [List.length_cons] at hF
  simp only [gm_ps] at hM
  obtain ⟨f1, f2, f3, f4, f5, f6, f7⟩ := hff
  dsimp only at f1 f2 f3 f4 f5 f6
  have q64 : G.length < 64 := by omega
  obtain ⟨_, d, hd, ew, kdd, _⟩ := gm_fr_d A I hv (by decide)
  subst ew
  obtain ⟨k9, _, he', I'⟩ := gm_s_app A I hd hv
  have ar1 : 1 < gp_ar (kd d) := by rw [kdd]; decide
  have ar1' : 1 < gp_ar (kd t) := by rw [k9]; decide
  have d32 : d < 32 := by omega
  have sz' := gp_sz_le ok I'.1
  have p1 := gm_pf_1 kd n (10, nI d, e')
  have f5' : fA G.length = nI (gp_ch kd n d 1) := by rw [f5, if_pos (Or.inr rfl), nI_clamp (by omega)]
  have eg := hg t ht (Or.inl k9)
  have c1 := hX d hd 1 ar1
  have b1 := hX t ht 1 ar1'
  have y1 := hY t ht 1 ar1'
  rcases Nat.lt_or_ge rc rl with z | z
  · obtain ⟨o, u', v', hR, cX, cY⟩ := ih1 _ _ dr (rc + 1) G _ _ _ rn (nI t) (nI e - 1) (nI (kd t)) x7 fm fw fe _ _ _ _ _ _ _ _ _ _ _ _ fK fA fE I' z hdr (by omega) (gr_rr_p (b := nI t) (g := a_gradeOfBinder t) R) f7 (by omega)
    refine ⟨o, u', v', hR, fun post f step hf hs hp => ?_, fun post f step hf hs hp => ?_⟩
    · cases f with
      | zero => omega
      | succ f =>
      refine br_f (nI_ge (b := 20000) (by omega) (by decide)) (br_t rfl (br_f (by decide) ?_))
      refine gx_retN q64 f1 f2 f3 (Or.inr (Or.inl rfl)) (fun z => absurd z (by decide)) (fun _ => ?_) (fun z => absurd z (by decide)) (fun z => absurd z (by decide)) (fun z => absurd z (by decide))
      exact gx_en10 d32 t32 c1 b1 hrc hrl (fun w => by omega) (fun _ => nm_r (nI_1 step) (cX post f (step + 1) (by omega) (by omega) hp))
    · cases f with
      | zero => omega
      | succ f =>
      refine gy_r10 (by omega) q64 f5' f6 f4 t32 y1 hrc hrl (fun w => by omega) (fun _ => ?_)
      rw [eg, ← nI_pred rc]
      exact cY post f (step + 1) (by omega) (by omega) hp
  · refine ⟨8, _, _, hFin (nI t) (nI e) 1 rn (nI G.length) 8 0 (nI dr) (nI rc) (nI rc) (nI G.length) fm fw fe tN tE rE bo go co rT yE rG rN rC rX fK fA fE (gr_rr_r R (by omega)), fun post f step hf hs hp => ?_, fun post f step hf hs hp => ?_⟩
    · cases f with
      | zero => omega
      | succ f =>
      cases f with
      | zero => omega
      | succ f =>
      refine br_f (nI_ge (b := 20000) (by omega) (by decide)) (br_t rfl (br_f (by decide) ?_))
      refine gx_retN q64 f1 f2 f3 (Or.inr (Or.inl rfl)) (fun z => absurd z (by decide)) (fun _ => ?_) (fun z => absurd z (by decide)) (fun z => absurd z (by decide)) (fun z => absurd z (by decide))
      exact gx_en10 d32 t32 c1 b1 hrc hrl (fun w => nm_r (nI_1 step) (gx_fin (by decide) hp)) (fun w => by omega)
    · cases f with
      | zero => omega
      | succ f =>
      exact gy_r10 (by omega) q64 f5' f6 f4 t32 y1 hrc hrl (fun w => hp) (fun w => by omega)
theorem gr_lbx {k n dl rl fl : Nat} {kd : Nat → Nat} (A : gm_A kd a_nodeArg n) (hK : ∀ i, i < n → a_nodeKind i = nI (kd i)) (hX : ∀ i, i < n → ∀ j, j < gp_ar (kd i) → a_nodeAtPlace (3 * i + j) = nI (gp_ch kd n i j)) (hY : ∀ i, i < n → ∀ j, j < gp_ar (kd i) → a_ch (3 * i + j) = nI (gp_ch kd n i j)) (hg : ∀ i, i < n → (kd i = 9 ∨ kd i = 12 ∨ kd i = 15 ∨ kd i = 17) → a_bg i = a_gradeOfBinder i) (hdl : dl ≤ 64) (hrl : rl ≤ 32) (hfl : fl ≤ 64) (hFin : ∀ (cn ce rt rn fc o lv dr' rm rs' fsp : Int32) (fm fw fe tN tE rE bo go co rT yE rG rN rC rX fK fA fE : Nat → Int32), gr_rec rm rs' bo go co rN rG rC → i_Rel k (nI dl, nI rl, nI fl, f_nodeCount, f_currentStatus, f_faultNode, f_typeCount, cn, ce, rt, rn, fc, o, lv, dr', rm, a_nodeKind, a_nodeArg, a_expectedPlaces, a_nodeAtPlace, a_placeOfNode, a_variablesSeen, a_nodeType, a_gradeOfBinder, a_variableType, a_usage, a_typeKind, a_typeGrade, a_typeLeft, a_typeRight, fm, fw, fe, tN, tE, rE, bo, go, co) (nI dl, nI rl, nI fl, f_n, f_stat, f_err, o, lv, rs', dr', fsp, a_nodeKind, a_nodeArg, a_ch, a_par, a_pos, a_seen, a_st, a_ty, a_tyK, a_tyG, a_tyA, a_tyB, a_u, a_bg, a_ux, a_uy, a_stk, a_eqA, a_eqB, rT, yE, rG, rN, rC, rX, fK, fA, fE)) {M : Nat} (ih1 : ∀ (t e dr rc : Nat) (F : gm_Fr) (tn te rs : Nat → Nat) (rn x4 x5 x6 x7 : Int32) (fm fw fe tN tE rE bo go co rT yE rG rN rC rX fK fA fE : Nat → Int32), gm_I kd a_nodeArg n tn te rs rc t e F → rc ≤ rl → dr ≤ dl → F.length ≤ fl → gr_rr rc tn te rs tN tE rE bo go co rT yE rG rN rC rX → gr_ff kd n fm fw fe fK fA fE F → 3 * gp_sz kd n t + gm_ps kd n F + 96 * (dl - dr) + 96 * (rl - rc) ≤ M → ∃ (o : Int32) (u' : SX) (v' : SY), i_Rel k u' v' ∧ (∀ (post : Int32 → SX → Prop) (f step : Nat), M + 2 ≤ f → step + M < 20000 → post o u' → wX_run_27 post f (nI step) (nI dl) (nI rl) (nI fl) f_nodeCount f_currentStatus f_faultNode f_typeCount (nI t) (nI e) 0 rn (nI F.length) 0 0 (nI dr) (nI rc) a_nodeKind a_nodeArg a_expectedPlaces a_nodeAtPlace a_placeOfNode a_variablesSeen a_nodeType a_gradeOfBinder a_variableType a_usage a_typeKind a_typeGrade a_typeLeft a_typeRight fm fw fe tN tE rE bo go co) ∧ (∀ (post : Int32 → SY → Prop) (f step : Nat), M + 2 ≤ f → step + M < 100000 → post o v' → wY_run_41 post f (nI t) (nI e - 1) 0 x4 x5 x6 x7 (nI step) (nI dl) (nI rl) (nI fl) f_n f_stat f_err 0 0 (nI rc) (nI dr) (nI F.length) a_nodeKind a_nodeArg a_ch a_par a_pos a_seen a_st a_ty a_tyK a_tyG a_tyA a_tyB a_u a_bg a_ux a_uy a_stk a_eqA a_eqB rT yE rG rN rC rX fK fA fE)) {t e dr rc e' : Nat} {w : Int32} {G F : gm_Fr} {tn te rs : Nat → Nat} {rn x1 x2 x7 : Int32} {fm fw fe tN tE rE bo go co rT yE rG rN rC rX fK fA fE : Nat → Int32} (eF : F = (17, w, e') :: G) (I : gm_I kd a_nodeArg n tn te rs rc t e F) (hrc : rc ≤ rl) (hdr : dr ≤ dl) (hF : F.length ≤ fl) (R : gr_rr rc tn te rs tN tE rE bo go co rT yE rG rN rC rX) (hff : gr_ff kd n fm fw fe fK fA fE F) (hv : gm_vl (kd t)) (hM : gm_ps kd n F + 96 * (dl - dr) + 96 * (rl - rc) ≤ M + 1) : ∃ (o : Int32) (u' : SX) (v' : SY), i_Rel k u' v' ∧ (∀ (post : Int32 → SX → Prop) (f step : Nat), M + 1 + 2 ≤ f → step + (M + 1) < 20000 → post o u' → wX_run_27 post f (nI step) (nI dl) (nI rl) (nI fl) f_nodeCount f_currentStatus f_faultNode f_typeCount (nI t) (nI e) 1 rn (nI F.length) 0 0 (nI dr) (nI rc) a_nodeKind a_nodeArg a_expectedPlaces a_nodeAtPlace a_placeOfNode a_variablesSeen a_nodeType a_gradeOfBinder a_variableType a_usage a_typeKind a_typeGrade a_typeLeft a_typeRight fm fw fe tN tE rE bo go co) ∧ (∀ (post : Int32 → SY → Prop) (f step : Nat), M + 1 + 2 ≤ f → step + (M + 1) < 100000 → post o v' → wY_run_41 post f x1 x2 1 (nI t) (nI e - 1) (nI (kd t)) x7 (nI step) (nI dl) (nI rl) (nI fl) f_n f_stat f_err 0 0 (nI rc) (nI dr) (nI F.length) a_nodeKind a_nodeArg a_ch a_par a_pos a_seen a_st a_ty a_tyK a_tyG a_tyA a_tyB a_u a_bg a_ux a_uy a_stk a_eqA a_eqB rT yE rG rN rC rX fK fA fE) := by
  subst eF
  have ok := A.1.1
  have hn := ok.2.1
  have ht := I.1
  have t32 : t < 32 := by omega
  simp only [List.length_cons] at hF
  simp only [gm_ps] at hM
  obtain ⟨f1, f2, f3, f4, f5, f6, f7⟩ := hff
  dsimp only at f1 f2 f3 f4 f5 f6
  have q64 : G.length < 64 := by omega
  obtain ⟨_, d, hd, ew, kdd, _⟩ := gm_fr_d A I hv (by decide)
  subst ew
  obtain ⟨k16, _, he', I'⟩ := gm_s_box A I hd hv
  have ar1 : 1 < gp_ar (kd d) := by rw [kdd]; decide
  have ar0 : 0 < gp_ar (kd t) := by rw [k16]; decide
  have d32 : d < 32 := by omega
  have sz' := gp_sz_le ok I'.1
  have mm := gm_m_c (m := 17) (e := e') ok hd (by decide) ar1 (by omega)
  have f5' : fA G.length = nI d := by rw [f5, if_neg (by decide)]
  have eg := hg d hd (Or.inr (Or.inr (Or.inr kdd)))
  have c1 := hX t ht 0 ar0
  have b1 := hX d hd 1 ar1
  have yc := hY t ht 0 ar0
  rw [Nat.add_zero] at yc
  have y1 := hY d hd 1 ar1
  rcases Nat.lt_or_ge rc rl with z | z
  · obtain ⟨o, u', v', hR, cX, cY⟩ := ih1 _ _ dr (rc + 1) G _ _ _ rn (nI t) (nI e - 1) (nI (kd t)) x7 fm fw fe _ _ _ _ _ _ _ _ _ _ _ _ fK fA fE I' z hdr (by omega) (gr_rr_p (b := nI d) (g := a_gradeOfBinder d) R) f7 (by omega)
    refine ⟨o, u', v', hR, fun post f step hf hs hp => ?_, fun post f step hf hs hp => ?_⟩
    · cases f with
      | zero => omega
      | succ f =>
      refine br_f (nI_ge (b := 20000) (by omega) (by decide)) (br_t rfl (br_f (by decide) ?_))
      refine gx_retN q64 f1 f2 f3 (Or.inr (Or.inr (Or.inr (Or.inr rfl)))) (fun z => absurd z (by decide)) (fun z => absurd z (by decide)) (fun z => absurd z (by decide)) (fun z => absurd z (by decide)) (fun _ => ?_)
      exact gx_en17 d32 t32 c1 b1 hrc hrl (fun w => by omega) (fun _ => nm_r (nI_1 step) (cX post f (step + 1) (by omega) (by omega) hp))
    · cases f with
      | zero => omega
      | succ f =>
      refine gy_r17 (by omega) q64 f5' f6 f4 t32 d32 yc y1 hrc hrl (fun w => by omega) (fun _ => ?_)
      rw [eg, ← nI_pred rc]
      exact cY post f (step + 1) (by omega) (by omega) hp
  · refine ⟨8, _, _, hFin (nI t) (nI e) 1 rn (nI G.length) 8 0 (nI dr) (nI rc) (nI rc) (nI G.length) fm fw fe tN tE rE bo go co rT yE rG rN rC rX fK fA fE (gr_rr_r R (by omega)), fun post f step hf hs hp => ?_, fun post f step hf hs hp => ?_⟩
    · cases f with
      | zero => omega
      | succ f =>
      cases f with
      | zero => omega
      | succ f =>
      refine br_f (nI_ge (b := 20000) (by omega) (by decide)) (br_t rfl (br_f (by decide) ?_))
      refine gx_retN q64 f1 f2 f3 (Or.inr (Or.inr (Or.inr (Or.inr rfl)))) (fun z => absurd z (by decide)) (fun z => absurd z (by decide)) (fun z => absurd z (by decide)) (fun z => absurd z (by decide)) (fun _ => ?_)
      exact gx_en17 d32 t32 c1 b1 hrc hrl (fun w => nm_r (nI_1 step) (gx_fin (by decide) hp)) (fun w => by omega)
    · cases f with
      | zero => omega
      | succ f =>
      exact gy_r17 (by omega) q64 f5' f6 f4 t32 d32 yc y1 hrc hrl (fun w => hp) (fun w => by omega)
theorem gr_cas {k n dl rl fl : Nat} {kd : Nat → Nat} (A : gm_A kd a_nodeArg n) (hK : ∀ i, i < n → a_nodeKind i = nI (kd i)) (hX : ∀ i, i < n → ∀ j, j < gp_ar (kd i) → a_nodeAtPlace (3 * i + j) = nI (gp_ch kd n i j)) (hY : ∀ i, i < n → ∀ j, j < gp_ar (kd i) → a_ch (3 * i + j) = nI (gp_ch kd n i j)) (hg : ∀ i, i < n → (kd i = 9 ∨ kd i = 12 ∨ kd i = 15 ∨ kd i = 17) → a_bg i = a_gradeOfBinder i) (hdl : dl ≤ 64) (hrl : rl ≤ 32) (hfl : fl ≤ 64) (hFin : ∀ (cn ce rt rn fc o lv dr' rm rs' fsp : Int32) (fm fw fe tN tE rE bo go co rT yE rG rN rC rX fK fA fE : Nat → Int32), gr_rec rm rs' bo go co rN rG rC → i_Rel k (nI dl, nI rl, nI fl, f_nodeCount, f_currentStatus, f_faultNode, f_typeCount, cn, ce, rt, rn, fc, o, lv, dr', rm, a_nodeKind, a_nodeArg, a_expectedPlaces, a_nodeAtPlace, a_placeOfNode, a_variablesSeen, a_nodeType, a_gradeOfBinder, a_variableType, a_usage, a_typeKind, a_typeGrade, a_typeLeft, a_typeRight, fm, fw, fe, tN, tE, rE, bo, go, co) (nI dl, nI rl, nI fl, f_n, f_stat, f_err, o, lv, rs', dr', fsp, a_nodeKind, a_nodeArg, a_ch, a_par, a_pos, a_seen, a_st, a_ty, a_tyK, a_tyG, a_tyA, a_tyB, a_u, a_bg, a_ux, a_uy, a_stk, a_eqA, a_eqB, rT, yE, rG, rN, rC, rX, fK, fA, fE)) {M : Nat} (ih1 : ∀ (t e dr rc : Nat) (F : gm_Fr) (tn te rs : Nat → Nat) (rn x4 x5 x6 x7 : Int32) (fm fw fe tN tE rE bo go co rT yE rG rN rC rX fK fA fE : Nat → Int32), gm_I kd a_nodeArg n tn te rs rc t e F → rc ≤ rl → dr ≤ dl → F.length ≤ fl → gr_rr rc tn te rs tN tE rE bo go co rT yE rG rN rC rX → gr_ff kd n fm fw fe fK fA fE F → 3 * gp_sz kd n t + gm_ps kd n F + 96 * (dl - dr) + 96 * (rl - rc) ≤ M → ∃ (o : Int32) (u' : SX) (v' : SY), i_Rel k u' v' ∧ (∀ (post : Int32 → SX → Prop) (f step : Nat), M + 2 ≤ f → step + M < 20000 → post o u' → wX_run_27 post f (nI step) (nI dl) (nI rl) (nI fl) f_nodeCount f_currentStatus f_faultNode f_typeCount (nI t) (nI e) 0 rn (nI F.length) 0 0 (nI dr) (nI rc) a_nodeKind a_nodeArg a_expectedPlaces a_nodeAtPlace a_placeOfNode a_variablesSeen a_nodeType a_gradeOfBinder a_variableType a_usage a_typeKind a_typeGrade a_typeLeft a_typeRight fm fw fe tN tE rE bo go co) ∧ (∀ (post : Int32 → SY → Prop) (f step : Nat), M + 2 ≤ f → step + M < 100000 → post o v' → wY_run_41 post f (nI t) (nI e - 1) 0 x4 x5 x6 x7 (nI step) (nI dl) (nI rl) (nI fl) f_n f_stat f_err 0 0 (nI rc) (nI dr) (nI F.length) a_nodeKind a_nodeArg a_ch a_par a_pos a_seen a_st a_ty a_tyK a_tyG a_tyA a_tyB a_u a_bg a_ux a_uy a_stk a_eqA a_eqB rT yE rG rN rC rX fK fA fE)) {t e dr rc e' : Nat} {w : Int32} {G F : gm_Fr} {tn te rs : Nat → Nat} {rn x1 x2 x7 : Int32} {fm fw fe tN tE rE bo go co rT yE rG rN rC rX fK fA fE : Nat → Int32} (eF : F = (15, w, e') :: G) (I : gm_I kd a_nodeArg n tn te rs rc t e F) (hrc : rc ≤ rl) (hdr : dr ≤ dl) (hF : F.length ≤ fl) (R : gr_rr rc tn te rs tN tE rE bo go co rT yE rG rN rC rX) (hff : gr_ff kd n fm fw fe fK fA fE F) (hv : gm_vl (kd t)) (hM : gm_ps kd n F + 96 * (dl - dr) + 96 * (rl - rc) ≤ M + 1) : ∃ (o : Int32) (u' : SX) (v' : SY), i_Rel k u' v' ∧ (∀ (post : Int32 → SX → Prop) (f step : Nat), M + 1 + 2 ≤ f → step + (M + 1) < 20000 → post o u' → wX_run_27 post f (nI step) (nI dl) (nI rl) (nI fl) f_nodeCount f_currentStatus f_faultNode f_typeCount (nI t) (nI e) 1 rn (nI F.length) 0 0 (nI dr) (nI rc) a_nodeKind a_nodeArg a_expectedPlaces a_nodeAtPlace a_placeOfNode a_variablesSeen a_nodeType a_gradeOfBinder a_variableType a_usage a_typeKind a_typeGrade a_typeLeft a_typeRight fm fw fe tN tE rE bo go co) ∧ (∀ (post : Int32 → SY → Prop) (f step : Nat), M + 1 + 2 ≤ f → step + (M + 1) < 100000 → post o v' → wY_run_41 post f x1 x2 1 (nI t) (nI e - 1) (nI (kd t)) x7 (nI step) (nI dl) (nI rl) (nI fl) f_n f_stat f_err 0 0 (nI rc) (nI dr) (nI F.length) a_nodeKind a_nodeArg a_ch a_par a_pos a_seen a_st a_ty a_tyK a_tyG a_tyA a_tyB a_u a_bg a_ux a_uy a_stk a_eqA a_eqB rT yE rG rN rC rX fK fA fE) := by
  subst eF
  have ok := A.1.1
  have hn := ok.2.1
  have ht := I.1
  have t32 : t < 32 := by omega
  simp only [List.length_cons] at hF
  simp only [gm_ps] at hM
  obtain ⟨f1, f2, f3, f4, f5, f6, f7⟩ := hff
  dsimp only at f1 f2 f3 f4 f5 f6
  have q64 : G.length < 64 := by omega
  obtain ⟨_, d, hd, ew, kdd, _⟩ := gm_fr_d A I hv (by decide)
  subst ew
  obtain ⟨k13, _, he', I'⟩ := gm_s_case A I hd hv
  have jj : 1 ≤ (if kd t = 13 then 1 else 2) ∧ (if kd t = 13 then 1 else 2) < gp_ar (kd d) := by
    rw [kdd]
    by_cases z : kd t = 13
    · rw [if_pos z]; decide
    · rw [if_neg z]; decide
  have ar1 : 1 < gp_ar (kd t) := by rcases k13 with z | z <;> rw [z] <;> decide
  have d32 : d < 32 := by omega
  have k17 : kd t ≤ 17 := by omega
  have mm := gm_m_c (m := 15) (e := e') ok hd (by decide) jj.2 jj.1
  have f5' : fA G.length = nI d := by rw [f5, if_neg (by decide)]
  have eg := hg d hd (Or.inr (Or.inr (Or.inl kdd)))
  have c1 := hX t ht 1 ar1
  have b1 := hX d hd _ jj.2
  have yc := hY t ht 1 ar1
  have y1 := hY d hd _ jj.2
  rcases Nat.lt_or_ge rc rl with z | z
  · obtain ⟨o, u', v', hR, cX, cY⟩ := ih1 _ _ dr (rc + 1) G _ _ _ rn (nI t) (nI e - 1) (nI (kd t)) x7 fm fw fe _ _ _ _ _ _ _ _ _ _ _ _ fK fA fE I' z hdr (by omega) (gr_rr_p (b := nI d) (g := a_gradeOfBinder d) R) f7 (by omega)
    refine ⟨o, u', v', hR, fun post f step hf hs hp => ?_, fun post f step hf hs hp => ?_⟩
    · cases f with
      | zero => omega
      | succ f =>
      refine br_f (nI_ge (b := 20000) (by omega) (by decide)) (br_t rfl (br_f (by decide) ?_))
      refine gx_retN q64 f1 f2 f3 (Or.inr (Or.inr (Or.inr (Or.inl rfl)))) (fun z => absurd z (by decide)) (fun z => absurd z (by decide)) (fun z => absurd z (by decide)) (fun _ => ?_) (fun z => absurd z (by decide))
      exact gx_en15 d32 t32 (hK t ht) k17 c1 b1 hrc hrl (fun w => by omega) (fun _ => nm_r (nI_1 step) (cX post f (step + 1) (by omega) (by omega) hp))
    · cases f with
      | zero => omega
      | succ f =>
      refine gy_r15 (by omega) q64 f5' f6 f4 t32 d32 (hK t ht) k17 yc y1 hrc hrl (fun w => by omega) (fun _ => ?_)
      rw [eg, ← nI_pred rc]
      exact cY post f (step + 1) (by omega) (by omega) hp
  · refine ⟨8, _, _, hFin (nI t) (nI e) 1 rn (nI G.length) 8 0 (nI dr) (nI rc) (nI rc) (nI G.length) fm fw fe tN tE rE bo go co rT yE rG rN rC rX fK fA fE (gr_rr_r R (by omega)), fun post f step hf hs hp => ?_, fun post f step hf hs hp => ?_⟩
    · cases f with
      | zero => omega
      | succ f =>
      cases f with
      | zero => omega
      | succ f =>
      refine br_f (nI_ge (b := 20000) (by omega) (by decide)) (br_t rfl (br_f (by decide) ?_))
      refine gx_retN q64 f1 f2 f3 (Or.inr (Or.inr (Or.inr (Or.inl rfl)))) (fun z => absurd z (by decide)) (fun z => absurd z (by decide)) (fun z => absurd z (by decide)) (fun _ => ?_) (fun z => absurd z (by decide))
      exact gx_en15 d32 t32 (hK t ht) k17 c1 b1 hrc hrl (fun w => nm_r (nI_1 step) (gx_fin (by decide) hp)) (fun w => by omega)
    · cases f with
      | zero => omega
      | succ f =>
      exact gy_r15 (by omega) q64 f5' f6 f4 t32 d32 (hK t ht) k17 yc y1 hrc hrl (fun w => hp) (fun w => by omega)
theorem gr_lpr {k n dl rl fl : Nat} {kd : Nat → Nat} (A : gm_A kd a_nodeArg n) (hK : ∀ i, i < n → a_nodeKind i = nI (kd i)) (hX : ∀ i, i < n → ∀ j, j < gp_ar (kd i) → a_nodeAtPlace (3 * i + j) = nI (gp_ch kd n i j)) (hY : ∀ i, i < n → ∀ j, j < gp_ar (kd i) → a_ch (3 * i + j) = nI (gp_ch kd n i j)) (hg : ∀ i, i < n → (kd i = 9 ∨ kd i = 12 ∨ kd i = 15 ∨ kd i = 17) → a_bg i = a_gradeOfBinder i) (hdl : dl ≤ 64) (hrl : rl ≤ 32) (hfl : fl ≤ 64) (hFin : ∀ (cn ce rt rn fc o lv dr' rm rs' fsp : Int32) (fm fw fe tN tE rE bo go co rT yE rG rN rC rX fK fA fE : Nat → Int32), gr_rec rm rs' bo go co rN rG rC → i_Rel k (nI dl, nI rl, nI fl, f_nodeCount, f_currentStatus, f_faultNode, f_typeCount, cn, ce, rt, rn, fc, o, lv, dr', rm, a_nodeKind, a_nodeArg, a_expectedPlaces, a_nodeAtPlace, a_placeOfNode, a_variablesSeen, a_nodeType, a_gradeOfBinder, a_variableType, a_usage, a_typeKind, a_typeGrade, a_typeLeft, a_typeRight, fm, fw, fe, tN, tE, rE, bo, go, co) (nI dl, nI rl, nI fl, f_n, f_stat, f_err, o, lv, rs', dr', fsp, a_nodeKind, a_nodeArg, a_ch, a_par, a_pos, a_seen, a_st, a_ty, a_tyK, a_tyG, a_tyA, a_tyB, a_u, a_bg, a_ux, a_uy, a_stk, a_eqA, a_eqB, rT, yE, rG, rN, rC, rX, fK, fA, fE)) {M : Nat} (ih1 : ∀ (t e dr rc : Nat) (F : gm_Fr) (tn te rs : Nat → Nat) (rn x4 x5 x6 x7 : Int32) (fm fw fe tN tE rE bo go co rT yE rG rN rC rX fK fA fE : Nat → Int32), gm_I kd a_nodeArg n tn te rs rc t e F → rc ≤ rl → dr ≤ dl → F.length ≤ fl → gr_rr rc tn te rs tN tE rE bo go co rT yE rG rN rC rX → gr_ff kd n fm fw fe fK fA fE F → 3 * gp_sz kd n t + gm_ps kd n F + 96 * (dl - dr) + 96 * (rl - rc) ≤ M → ∃ (o : Int32) (u' : SX) (v' : SY), i_Rel k u' v' ∧ (∀ (post : Int32 → SX → Prop) (f step : Nat), M + 2 ≤ f → step + M < 20000 → post o u' → wX_run_27 post f (nI step) (nI dl) (nI rl) (nI fl) f_nodeCount f_currentStatus f_faultNode f_typeCount (nI t) (nI e) 0 rn (nI F.length) 0 0 (nI dr) (nI rc) a_nodeKind a_nodeArg a_expectedPlaces a_nodeAtPlace a_placeOfNode a_variablesSeen a_nodeType a_gradeOfBinder a_variableType a_usage a_typeKind a_typeGrade a_typeLeft a_typeRight fm fw fe tN tE rE bo go co) ∧ (∀ (post : Int32 → SY → Prop) (f step : Nat), M + 2 ≤ f → step + M < 100000 → post o v' → wY_run_41 post f (nI t) (nI e - 1) 0 x4 x5 x6 x7 (nI step) (nI dl) (nI rl) (nI fl) f_n f_stat f_err 0 0 (nI rc) (nI dr) (nI F.length) a_nodeKind a_nodeArg a_ch a_par a_pos a_seen a_st a_ty a_tyK a_tyG a_tyA a_tyB a_u a_bg a_ux a_uy a_stk a_eqA a_eqB rT yE rG rN rC rX fK fA fE)) {t e dr rc e' : Nat} {w : Int32} {G F : gm_Fr} {tn te rs : Nat → Nat} {rn x1 x2 x7 : Int32} {fm fw fe tN tE rE bo go co rT yE rG rN rC rX fK fA fE : Nat → Int32} (eF : F = (12, w, e') :: G) (I : gm_I kd a_nodeArg n tn te rs rc t e F) (hrc : rc ≤ rl) (hdr : dr ≤ dl) (hF : F.length ≤ fl) (R : gr_rr rc tn te rs tN tE rE bo go co rT yE rG rN rC rX) (hff : gr_ff kd n fm fw fe fK fA fE F) (hv : gm_vl (kd t)) (hM : gm_ps kd n F + 96 * (dl - dr) + 96 * (rl - rc) ≤ M + 1) : ∃ (o : Int32) (u' : SX) (v' : SY), i_Rel k u' v' ∧ (∀ (post : Int32 → SX → Prop) (f step : Nat), M + 1 + 2 ≤ f → step + (M + 1) < 20000 → post o u' → wX_run_27 post f (nI step) (nI dl) (nI rl) (nI fl) f_nodeCount f_currentStatus f_faultNode f_typeCount (nI t) (nI e) 1 rn (nI F.length) 0 0 (nI dr) (nI rc) a_nodeKind a_nodeArg a_expectedPlaces a_nodeAtPlace a_placeOfNode a_variablesSeen a_nodeType a_gradeOfBinder a_variableType a_usage a_typeKind a_typeGrade a_typeLeft a_typeRight fm fw fe tN tE rE bo go co) ∧ (∀ (post : Int32 → SY → Prop) (f step : Nat), M + 1 + 2 ≤ f → step + (M + 1) < 100000 → post o v' → wY_run_41 post f x1 x2 1 (nI t) (nI e - 1) (nI (kd t)) x7 (nI step) (nI dl) (nI rl) (nI fl) f_n f_stat f_err 0 0 (nI rc) (nI dr) (nI F.length) a_nodeKind a_nodeArg a_ch a_par a_pos a_seen a_st a_ty a_tyK a_tyG a_tyA a_tyB a_u a_bg a_ux a_uy a_stk a_eqA a_eqB rT yE rG rN rC rX fK fA fE) := by
  subst eF
  have ok := A.1.1
  have hn := ok.2.1
  have ht := I.1
  have t32 : t < 32 := by omega
  simp only [List.length_cons] at hF
  simp only [gm_ps] at hM
  obtain ⟨f1, f2, f3, f4, f5, f6, f7⟩ := hff
  dsimp only at f1 f2 f3 f4 f5 f6
  have q64 : G.length < 64 := by omega
  obtain ⟨_, d, hd, ew, kdd, _⟩ := gm_fr_d A I hv (by decide)
  subst ew
  obtain ⟨k11, _, he', I'⟩ := gm_s_pair A I hd hv
  have ar1 : 1 < gp_ar (kd d) := by rw [kdd]; decide
  have ar0 : 0 < gp_ar (kd t) := by rw [k11]; decide
  have ar1' : 1 < gp_ar (kd t) := by rw [k11]; decide
  have d32 : d < 32 := by omega
  have mm := gm_m_c (m := 12) (e := e') ok hd (by decide) ar1 (by omega)
  have f5' : fA G.length = nI d := by rw [f5, if_neg (by decide)]
  have eg := hg d hd (Or.inr (Or.inl kdd))
  have c0 := hX t ht 0 ar0
  have c1 := hX t ht 1 ar1'
  have b1 := hX d hd 1 ar1
  have yc0 := hY t ht 0 ar0
  rw [Nat.add_zero] at yc0
  have yc1 := hY t ht 1 ar1'
  have y1 := hY d hd 1 ar1
  have R1 := gr_rr_p (d := gp_ch kd n t 0) (e1 := e) (e2 := e') (b := nI d) (g := a_gradeOfBinder d) R
  rcases Nat.lt_or_ge (rc + 1) rl with z | z
  · obtain ⟨o, u', v', hR, cX, cY⟩ := ih1 _ _ dr (rc + 1 + 1) G _ _ _ rn (nI t) (nI e - 1) (nI (kd t)) x7 fm fw fe _ _ _ _ _ _ _ _ _ _ _ _ fK fA fE I' z hdr (by omega) (gr_rr_p (d := gp_ch kd n t 1) (e1 := e) (e2 := rc + 1) (b := nI d) (g := a_gradeOfBinder d) R1) f7 (by omega)
    refine ⟨o, u', v', hR, fun post f step hf hs hp => ?_, fun post f step hf hs hp => ?_⟩
    · cases f with
      | zero => omega
      | succ f =>
      refine br_f (nI_ge (b := 20000) (by omega) (by decide)) (br_t rfl (br_f (by decide) ?_))
      refine gx_retN q64 f1 f2 f3 (Or.inr (Or.inr (Or.inl rfl))) (fun z => absurd z (by decide)) (fun z => absurd z (by decide)) (fun _ => ?_) (fun z => absurd z (by decide)) (fun z => absurd z (by decide))
      exact gx_en12 d32 t32 c0 c1 b1 hrc hrl (fun w => by omega) (fun w => by omega) (fun _ => nm_r (nI_1 step) (cX post f (step + 1) (by omega) (by omega) hp))
    · cases f with
      | zero => omega
      | succ f =>
      refine gy_r12 (by omega) q64 f5' f6 f4 t32 d32 yc0 yc1 y1 hrc hrl (fun w => by omega) (fun w => by omega) (fun _ => ?_)
      have go := cY post f (step + 1) (by omega) (by omega) hp
      rw [nI_pred, nI_pred] at go
      rw [eg]
      exact go
  · rcases Nat.lt_or_ge rc rl with y | y
    · refine ⟨8, _, _, hFin (nI t) (nI e) 1 rn (nI G.length) 8 0 (nI dr) (nI (rc + 1)) (nI (rc + 1)) (nI G.length) fm fw fe (upd tN (rc + 1) (nI (gp_ch kd n t 0))) (upd tE (rc + 1) (nI e)) (upd rE (rc + 1) (nI e')) (upd bo (rc + 1) (nI d)) (upd go (rc + 1) (a_gradeOfBinder d)) (upd co (rc + 1) 0) (upd rT rc (nI (gp_ch kd n t 0))) (upd yE rc (nI e - 1)) (upd rG rc (a_gradeOfBinder d)) (upd rN rc (nI d)) (upd rC rc 0) (upd rX rc (nI e' - 1)) fK fA fE (gr_rr_r R1 (by omega)), fun post f step hf hs hp => ?_, fun post f step hf hs hp => ?_⟩
      · cases f with
        | zero => omega
        | succ f =>
        cases f with
        | zero => omega
        | succ f =>
        refine br_f (nI_ge (b := 20000) (by omega) (by decide)) (br_t rfl (br_f (by decide) ?_))
        refine gx_retN q64 f1 f2 f3 (Or.inr (Or.inr (Or.inl rfl))) (fun z => absurd z (by decide)) (fun z => absurd z (by decide)) (fun _ => ?_) (fun z => absurd z (by decide)) (fun z => absurd z (by decide))
        exact gx_en12 d32 t32 c0 c1 b1 hrc hrl (fun w => by omega) (fun w => nm_r (nI_1 step) (gx_fin (by decide) hp)) (fun w => by omega)
      · cases f with
        | zero => omega
        | succ f =>
        refine gy_r12 (by omega) q64 f5' f6 f4 t32 d32 yc0 yc1 y1 hrc hrl (fun w => by omega) (fun w => ?_) (fun w => by omega)
        rw [eg]
        exact hp
    · refine ⟨8, _, _, hFin (nI t) (nI e) 1 rn (nI G.length) 8 0 (nI dr) (nI rc) (nI rc) (nI G.length) fm fw fe tN tE rE bo go co rT yE rG rN rC rX fK fA fE (gr_rr_r R (by omega)), fun post f step hf hs hp => ?_, fun post f step hf hs hp => ?_⟩
      · cases f with
        | zero => omega
        | succ f =>
        cases f with
        | zero => omega
        | succ f =>
        refine br_f (nI_ge (b := 20000) (by omega) (by decide)) (br_t rfl (br_f (by decide) ?_))
        refine gx_retN q64 f1 f2 f3 (Or.inr (Or.inr (Or.inl rfl))) (fun z => absurd z (by decide)) (fun z => absurd z (by decide)) (fun _ => ?_) (fun z => absurd z (by decide)) (fun z => absurd z (by decide))
        exact gx_en12 d32 t32 c0 c1 b1 hrc hrl (fun w => nm_r (nI_1 step) (gx_fin (by decide) hp)) (fun w => by omega) (fun w => by omega)
      · cases f with
        | zero => omega
        | succ f =>
        exact gy_r12 (by omega) q64 f5' f6 f4 t32 d32 yc0 yc1 y1 hrc hrl (fun w => hp) (fun w => by omega) (fun w => by omega)
end

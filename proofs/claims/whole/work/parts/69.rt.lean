section
variable {f_derefLimit f_recordLimit f_frameLimit f_nodeCount f_currentStatus f_faultNode f_typeCount f_currentNode f_currentEnv f_returning f_returnedNumber f_frameCount f_lastOutcome f_lastValue f_derefsMade f_recordsMade : Int32} {a_nodeKind a_nodeArg a_expectedPlaces a_nodeAtPlace a_placeOfNode a_variablesSeen a_nodeType a_gradeOfBinder a_variableType a_usage a_typeKind a_typeGrade a_typeLeft a_typeRight a_frameMark a_frameWord a_frameEnv a_thunkNode a_thunkEnv a_restOfEnv a_binderOfRecord a_gradeOfRecord a_countOfRecord : Nat → Int32} {f_dLim f_rLim f_fLim f_n f_stat f_err f_out f_vInt f_recs f_drf f_fsp : Int32} {a_kind a_arg a_ch a_par a_pos a_seen a_st a_ty a_tyK a_tyG a_tyA a_tyB a_u a_bg a_ux a_uy a_stk a_eqA a_eqB a_rT a_rE a_rG a_rN a_rC a_rX a_fK a_fA a_fE : Nat → Int32}
theorem gr_halt {k n dl rl fl : Nat} {kd : Nat → Nat} (A : gm_A kd a_nodeArg n) (hK : ∀ i, i < n → a_nodeKind i = nI (kd i)) (hX : ∀ i, i < n → ∀ j, j < gp_ar (kd i) → a_nodeAtPlace (3 * i + j) = nI (gp_ch kd n i j)) (hY : ∀ i, i < n → ∀ j, j < gp_ar (kd i) → a_ch (3 * i + j) = nI (gp_ch kd n i j)) (hg : ∀ i, i < n → (kd i = 9 ∨ kd i = 12 ∨ kd i = 15 ∨ kd i = 17) → a_bg i = a_gradeOfBinder i) (hdl : dl ≤ 64) (hrl : rl ≤ 32) (hfl : fl ≤ 64) (hFin : ∀ (cn ce rt rn fc o lv dr' rm rs' fsp : Int32) (fm fw fe tN tE rE bo go co rT yE rG rN rC rX fK fA fE : Nat → Int32), gr_rec rm rs' bo go co rN rG rC → i_Rel k (nI dl, nI rl, nI fl, f_nodeCount, f_currentStatus, f_faultNode, f_typeCount, cn, ce, rt, rn, fc, o, lv, dr', rm, a_nodeKind, a_nodeArg, a_expectedPlaces, a_nodeAtPlace, a_placeOfNode, a_variablesSeen, a_nodeType, a_gradeOfBinder, a_variableType, a_usage, a_typeKind, a_typeGrade, a_typeLeft, a_typeRight, fm, fw, fe, tN, tE, rE, bo, go, co) (nI dl, nI rl, nI fl, f_n, f_stat, f_err, o, lv, rs', dr', fsp, a_nodeKind, a_nodeArg, a_ch, a_par, a_pos, a_seen, a_st, a_ty, a_tyK, a_tyG, a_tyA, a_tyB, a_u, a_bg, a_ux, a_uy, a_stk, a_eqA, a_eqB, rT, yE, rG, rN, rC, rX, fK, fA, fE)) {M t e dr rc : Nat} {F : gm_Fr} {tn te rs : Nat → Nat} {rn x1 x2 x7 : Int32} {fm fw fe tN tE rE bo go co rT yE rG rN rC rX fK fA fE : Nat → Int32} (hF0 : F = []) (I : gm_I kd a_nodeArg n tn te rs rc t e F) (hrc : rc ≤ rl) (R : gr_rr rc tn te rs tN tE rE bo go co rT yE rG rN rC rX) (hv : gm_vl (kd t)) (h7 : kd t = 7 → x7 = rn) :
    ∃ (o : Int32) (u' : SX) (v' : SY), i_Rel k u' v' ∧ (∀ (post : Int32 → SX → Prop) (f step : Nat), M + 2 ≤ f → step + M < 20000 → post o u' → wX_run_27 post f (nI step) (nI dl) (nI rl) (nI fl) f_nodeCount f_currentStatus f_faultNode f_typeCount (nI t) (nI e) 1 rn (nI F.length) 0 0 (nI dr) (nI rc) a_nodeKind a_nodeArg a_expectedPlaces a_nodeAtPlace a_placeOfNode a_variablesSeen a_nodeType a_gradeOfBinder a_variableType a_usage a_typeKind a_typeGrade a_typeLeft a_typeRight fm fw fe tN tE rE bo go co) ∧ (∀ (post : Int32 → SY → Prop) (f step : Nat), M + 2 ≤ f → step + M < 100000 → post o v' → wY_run_41 post f x1 x2 1 (nI t) (nI e - 1) (nI (kd t)) x7 (nI step) (nI dl) (nI rl) (nI fl) f_n f_stat f_err 0 0 (nI rc) (nI dr) (nI F.length) a_nodeKind a_nodeArg a_ch a_par a_pos a_seen a_st a_ty a_tyK a_tyG a_tyA a_tyB a_u a_bg a_ux a_uy a_stk a_eqA a_eqB rT yE rG rN rC rX fK fA fE) := by
  subst hF0
  have ok := A.1.1
  have hn := ok.2.1
  have ht := I.1
  have t32 : t < 32 := by omega
  have ho := gr_out_0 (kd t)
  refine ⟨nI (gr_out (kd t)), _, _, hFin (nI t) (nI e) 1 rn 0 (nI (gr_out (kd t))) (if kd t = 7 then rn else 0) (nI dr) (nI rc) (nI rc) 0 fm fw fe tN tE rE bo go co rT yE rG rN rC rX fK fA fE (gr_rr_r R (by omega)), fun post f step hf hs hp => ?_, fun post f step hf hs hp => ?_⟩
  · cases f with
    | zero => omega
    | succ f =>
    cases f with
    | zero => omega
    | succ f =>
    refine br_f (nI_ge (b := 20000) (by omega) (by decide)) (br_t rfl (br_f (by decide) ?_))
    refine gx_halt t32 (hK t ht) hv (fun lv a b => nm_r (nI_1 step) (gx_fin (nI_ne0 (by omega) (by omega)) ?_))
    have el : lv = if kd t = 7 then rn else 0 := by
      by_cases z : kd t = 7
      · rw [if_pos z]; exact a z
      · rw [if_neg z]; exact b z
    rw [el]
    exact hp
  · cases f with
    | zero => omega
    | succ f =>
    refine gy_rH (by omega) hv (fun lv a b => ?_)
    have el : lv = if kd t = 7 then rn else 0 := by
      by_cases z : kd t = 7
      · rw [if_pos z, a z]; exact h7 z
      · rw [if_neg z]; exact b z
    rw [el]
    exact hp
theorem gr_add {k n dl rl fl : Nat} {kd : Nat → Nat} (A : gm_A kd a_nodeArg n) (hK : ∀ i, i < n → a_nodeKind i = nI (kd i)) (hX : ∀ i, i < n → ∀ j, j < gp_ar (kd i) → a_nodeAtPlace (3 * i + j) = nI (gp_ch kd n i j)) (hY : ∀ i, i < n → ∀ j, j < gp_ar (kd i) → a_ch (3 * i + j) = nI (gp_ch kd n i j)) (hg : ∀ i, i < n → (kd i = 9 ∨ kd i = 12 ∨ kd i = 15 ∨ kd i = 17) → a_bg i = a_gradeOfBinder i) (hdl : dl ≤ 64) (hrl : rl ≤ 32) (hfl : fl ≤ 64) (hFin : ∀ (cn ce rt rn fc o lv dr' rm rs' fsp : Int32) (fm fw fe tN tE rE bo go co rT yE rG rN rC rX fK fA fE : Nat → Int32), gr_rec rm rs' bo go co rN rG rC → i_Rel k (nI dl, nI rl, nI fl, f_nodeCount, f_currentStatus, f_faultNode, f_typeCount, cn, ce, rt, rn, fc, o, lv, dr', rm, a_nodeKind, a_nodeArg, a_expectedPlaces, a_nodeAtPlace, a_placeOfNode, a_variablesSeen, a_nodeType, a_gradeOfBinder, a_variableType, a_usage, a_typeKind, a_typeGrade, a_typeLeft, a_typeRight, fm, fw, fe, tN, tE, rE, bo, go, co) (nI dl, nI rl, nI fl, f_n, f_stat, f_err, o, lv, rs', dr', fsp, a_nodeKind, a_nodeArg, a_ch, a_par, a_pos, a_seen, a_st, a_ty, a_tyK, a_tyG, a_tyA, a_tyB, a_u, a_bg, a_ux, a_uy, a_stk, a_eqA, a_eqB, rT, yE, rG, rN, rC, rX, fK, fA, fE)) {M : Nat} (ih1 : ∀ (t e dr rc : Nat) (F : gm_Fr) (tn te rs : Nat → Nat) (rn x4 x5 x6 x7 : Int32) (fm fw fe tN tE rE bo go co rT yE rG rN rC rX fK fA fE : Nat → Int32), gm_I kd a_nodeArg n tn te rs rc t e F → rc ≤ rl → dr ≤ dl → F.length ≤ fl → gr_rr rc tn te rs tN tE rE bo go co rT yE rG rN rC rX → gr_ff kd n fm fw fe fK fA fE F → 3 * gp_sz kd n t + gm_ps kd n F + 96 * (dl - dr) + 96 * (rl - rc) ≤ M → ∃ (o : Int32) (u' : SX) (v' : SY), i_Rel k u' v' ∧ (∀ (post : Int32 → SX → Prop) (f step : Nat), M + 2 ≤ f → step + M < 20000 → post o u' → wX_run_27 post f (nI step) (nI dl) (nI rl) (nI fl) f_nodeCount f_currentStatus f_faultNode f_typeCount (nI t) (nI e) 0 rn (nI F.length) 0 0 (nI dr) (nI rc) a_nodeKind a_nodeArg a_expectedPlaces a_nodeAtPlace a_placeOfNode a_variablesSeen a_nodeType a_gradeOfBinder a_variableType a_usage a_typeKind a_typeGrade a_typeLeft a_typeRight fm fw fe tN tE rE bo go co) ∧ (∀ (post : Int32 → SY → Prop) (f step : Nat), M + 2 ≤ f → step + M < 100000 → post o v' → wY_run_41 post f (nI t) (nI e - 1) 0 x4 x5 x6 x7 (nI step) (nI dl) (nI rl) (nI fl) f_n f_stat f_err 0 0 (nI rc) (nI dr) (nI F.length) a_nodeKind a_nodeArg a_ch a_par a_pos a_seen a_st a_ty a_tyK a_tyG a_tyA a_tyB a_u a_bg a_ux a_uy a_stk a_eqA a_eqB rT yE rG rN rC rX fK fA fE)) (ih2 : ∀ (t e dr rc : Nat) (F : gm_Fr) (tn te rs : Nat → Nat) (rn x1 x2 x7 : Int32) (fm fw fe tN tE rE bo go co rT yE rG rN rC rX fK fA fE : Nat → Int32), gm_I kd a_nodeArg n tn te rs rc t e F → rc ≤ rl → dr ≤ dl → F.length ≤ fl → gr_rr rc tn te rs tN tE rE bo go co rT yE rG rN rC rX → gr_ff kd n fm fw fe fK fA fE F → gm_vl (kd t) → (kd t = 7 → x7 = rn) → gm_ps kd n F + 96 * (dl - dr) + 96 * (rl - rc) ≤ M → ∃ (o : Int32) (u' : SX) (v' : SY), i_Rel k u' v' ∧ (∀ (post : Int32 → SX → Prop) (f step : Nat), M + 2 ≤ f → step + M < 20000 → post o u' → wX_run_27 post f (nI step) (nI dl) (nI rl) (nI fl) f_nodeCount f_currentStatus f_faultNode f_typeCount (nI t) (nI e) 1 rn (nI F.length) 0 0 (nI dr) (nI rc) a_nodeKind a_nodeArg a_expectedPlaces a_nodeAtPlace a_placeOfNode a_variablesSeen a_nodeType a_gradeOfBinder a_variableType a_usage a_typeKind a_typeGrade a_typeLeft a_typeRight fm fw fe tN tE rE bo go co) ∧ (∀ (post : Int32 → SY → Prop) (f step : Nat), M + 2 ≤ f → step + M < 100000 → post o v' → wY_run_41 post f x1 x2 1 (nI t) (nI e - 1) (nI (kd t)) x7 (nI step) (nI dl) (nI rl) (nI fl) f_n f_stat f_err 0 0 (nI rc) (nI dr) (nI F.length) a_nodeKind a_nodeArg a_ch a_par a_pos a_seen a_st a_ty a_tyK a_tyG a_tyA a_tyB a_u a_bg a_ux a_uy a_stk a_eqA a_eqB rT yE rG rN rC rX fK fA fE)) {t e dr rc m e' : Nat} {w : Int32} {G F : gm_Fr} {tn te rs : Nat → Nat} {rn x1 x2 x7 : Int32} {fm fw fe tN tE rE bo go co rT yE rG rN rC rX fK fA fE : Nat → Int32} (eF : F = (m, w, e') :: G) (hm : m = 0 ∨ m = 8)
    (I : gm_I kd a_nodeArg n tn te rs rc t e F) (hrc : rc ≤ rl) (hdr : dr ≤ dl) (hF : F.length ≤ fl) (R : gr_rr rc tn te rs tN tE rE bo go co rT yE rG rN rC rX) (hff : gr_ff kd n fm fw fe fK fA fE F) (hv : gm_vl (kd t)) (h7 : kd t = 7 → x7 = rn) (hM : gm_ps kd n F + 96 * (dl - dr) + 96 * (rl - rc) ≤ M + 1) : ∃ (o : Int32) (u' : SX) (v' : SY), i_Rel k u' v' ∧ (∀ (post : Int32 → SX → Prop) (f step : Nat), M + 1 + 2 ≤ f → step + (M + 1) < 20000 → post o u' → wX_run_27 post f (nI step) (nI dl) (nI rl) (nI fl) f_nodeCount f_currentStatus f_faultNode f_typeCount (nI t) (nI e) 1 rn (nI F.length) 0 0 (nI dr) (nI rc) a_nodeKind a_nodeArg a_expectedPlaces a_nodeAtPlace a_placeOfNode a_variablesSeen a_nodeType a_gradeOfBinder a_variableType a_usage a_typeKind a_typeGrade a_typeLeft a_typeRight fm fw fe tN tE rE bo go co) ∧ (∀ (post : Int32 → SY → Prop) (f step : Nat), M + 1 + 2 ≤ f → step + (M + 1) < 100000 → post o v' → wY_run_41 post f x1 x2 1 (nI t) (nI e - 1) (nI (kd t)) x7 (nI step) (nI dl) (nI rl) (nI fl) f_n f_stat f_err 0 0 (nI rc) (nI dr) (nI F.length) a_nodeKind a_nodeArg a_ch a_par a_pos a_seen a_st a_ty a_tyK a_tyG a_tyA a_tyB a_u a_bg a_ux a_uy a_stk a_eqA a_eqB rT yE rG rN rC rX fK fA fE) := by
  subst eF
  have ok := A.1.1
  have hn := ok.2.1
  have ht := I.1
  have t32 : t < 32 := by omega
  simp only [List.length_cons] at hF
  simp only [gm_ps] at hM
  obtain ⟨f1, f2, f3, f4, f5, f6, f7⟩ := hff
  dsimp only at f1 f2 f3 f4 f5 f6
  have q64 : G.length < 64 := by omega
  rcases hm with e0 | e8
  · subst e0
    rw [gm_pf_0] at hM
    obtain ⟨k7, e'0, I'⟩ := gm_s_add0 A I hv
    obtain ⟨o, u', v', hR, cX, cY⟩ := ih2 t e dr rc G tn te rs (w + rn) x1 x2 (w + x7) fm fw fe tN tE rE bo go co rT yE rG rN rC rX fK fA fE I' hrc hdr (by omega) R f7 hv (fun z => by rw [h7 z]) (by omega)
    refine ⟨o, u', v', hR, fun post f step hf hs hp => ?_, fun post f step hf hs hp => ?_⟩
    · cases f with
      | zero => omega
      | succ f =>
      refine br_f (nI_ge (b := 20000) (by omega) (by decide)) (br_t rfl (br_f (by decide) ?_))
      exact gx_retA q64 f1 f2 (nm_r (nI_1 step) (cX post f (step + 1) (by omega) (by omega) hp))
    · cases f with
      | zero => omega
      | succ f =>
      exact gy_rA (by omega) q64 f4 f5 (cY post f (step + 1) (by omega) (by omega) hp)
  · subst e8
    obtain ⟨_, d, hd, ew, kd8, he', hE', _⟩ := gm_fr_d A I hv (by decide)
    subst ew
    obtain ⟨k7, _, _, I'⟩ := gm_s_add (w := rn) A I hd hv
    have ar1 : 1 < gp_ar (kd d) := by rw [kd8]; decide
    have mm := gm_m_c (m := 8) (e := e') ok hd (by decide) ar1 (by omega)
    have d32 : d < 32 := by omega
    have ff' := gr_ff_p (m := 0) (e := 0) (w := rn) (kk := 7) (aa := x7) f7 rfl (by rw [if_neg (by decide)]; exact h7 k7)
    have f5' : fA G.length = nI (gp_ch kd n d 1) := by rw [f5, if_pos (Or.inl rfl), nI_clamp (by omega)]
    obtain ⟨o, u', v', hR, cX, cY⟩ := ih1 _ _ dr rc _ tn te rs rn (nI t) (nI e - 1) (nI (kd t)) x7 _ _ _ tN tE rE bo go co rT yE rG rN rC rX _ _ _ I' hrc hdr (by simp only [List.length_cons]; omega) R ff' (by simp only [gm_ps]; rw [gm_pf_0]; omega)
    refine ⟨o, u', v', hR, fun post f step hf hs hp => ?_, fun post f step hf hs hp => ?_⟩
    · cases f with
      | zero => omega
      | succ f =>
      refine br_f (nI_ge (b := 20000) (by omega) (by decide)) (br_t rfl (br_f (by decide) ?_))
      refine gx_retN q64 f1 f2 f3 (Or.inl rfl) (fun _ => ?_) (fun z => absurd z (by decide)) (fun z => absurd z (by decide)) (fun z => absurd z (by decide)) (fun z => absurd z (by decide))
      exact gx_en8 d32 (hX d hd 1 ar1) q64 (nm_r (nI_1 step) (cX post f (step + 1) (by omega) (by omega) hp))
    · cases f with
      | zero => omega
      | succ f =>
      exact gy_r8 (by omega) (by omega) hfl f4 f5' f6 (cY post f (step + 1) (by omega) (by omega) hp)
end

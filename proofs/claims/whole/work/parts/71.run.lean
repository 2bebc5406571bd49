section
variable {f_derefLimit f_recordLimit f_frameLimit f_nodeCount f_currentStatus f_faultNode f_typeCount f_currentNode f_currentEnv f_returning f_returnedNumber f_frameCount f_lastOutcome f_lastValue f_derefsMade f_recordsMade : Int32} {a_nodeKind a_nodeArg a_expectedPlaces a_nodeAtPlace a_placeOfNode a_variablesSeen a_nodeType a_gradeOfBinder a_variableType a_usage a_typeKind a_typeGrade a_typeLeft a_typeRight a_frameMark a_frameWord a_frameEnv a_thunkNode a_thunkEnv a_restOfEnv a_binderOfRecord a_gradeOfRecord a_countOfRecord : Nat → Int32} {f_dLim f_rLim f_fLim f_n f_stat f_err f_out f_vInt f_recs f_drf f_fsp : Int32} {a_kind a_arg a_ch a_par a_pos a_seen a_st a_ty a_tyK a_tyG a_tyA a_tyB a_u a_bg a_ux a_uy a_stk a_eqA a_eqB a_rT a_rE a_rG a_rN a_rC a_rX a_fK a_fA a_fE : Nat → Int32}
theorem gr_go {k n dl rl fl : Nat} {kd : Nat → Nat} (A : gm_A kd a_nodeArg n) (hK : ∀ i, i < n → a_nodeKind i = nI (kd i)) (hX : ∀ i, i < n → ∀ j, j < gp_ar (kd i) → a_nodeAtPlace (3 * i + j) = nI (gp_ch kd n i j)) (hY : ∀ i, i < n → ∀ j, j < gp_ar (kd i) → a_ch (3 * i + j) = nI (gp_ch kd n i j)) (hg : ∀ i, i < n → (kd i = 9 ∨ kd i = 12 ∨ kd i = 15 ∨ kd i = 17) → a_bg i = a_gradeOfBinder i) (hdl : dl ≤ 64) (hrl : rl ≤ 32) (hfl : fl ≤ 64) (hFin : ∀ (cn ce rt rn fc o lv dr' rm rs' fsp : Int32) (fm fw fe tN tE rE bo go co rT yE rG rN rC rX fK fA fE : Nat → Int32), gr_rec rm rs' bo go co rN rG rC → i_Rel k (nI dl, nI rl, nI fl, f_nodeCount, f_currentStatus, f_faultNode, f_typeCount, cn, ce, rt, rn, fc, o, lv, dr', rm, a_nodeKind, a_nodeArg, a_expectedPlaces, a_nodeAtPlace, a_placeOfNode, a_variablesSeen, a_nodeType, a_gradeOfBinder, a_variableType, a_usage, a_typeKind, a_typeGrade, a_typeLeft, a_typeRight, fm, fw, fe, tN, tE, rE, bo, go, co) (nI dl, nI rl, nI fl, f_n, f_stat, f_err, o, lv, rs', dr', fsp, a_nodeKind, a_nodeArg, a_ch, a_par, a_pos, a_seen, a_st, a_ty, a_tyK, a_tyG, a_tyA, a_tyB, a_u, a_bg, a_ux, a_uy, a_stk, a_eqA, a_eqB, rT, yE, rG, rN, rC, rX, fK, fA, fE)) : ∀ M, (∀ (t e dr rc : Nat) (F : gm_Fr) (tn te rs : Nat → Nat) (rn x4 x5 x6 x7 : Int32) (fm fw fe tN tE rE bo go co rT yE rG rN rC rX fK fA fE : Nat → Int32), gm_I kd a_nodeArg n tn te rs rc t e F → rc ≤ rl → dr ≤ dl → F.length ≤ fl → gr_rr rc tn te rs tN tE rE bo go co rT yE rG rN rC rX → gr_ff kd n fm fw fe fK fA fE F → 3 * gp_sz kd n t + gm_ps kd n F + 96 * (dl - dr) + 96 * (rl - rc) ≤ M → ∃ (o : Int32) (u' : SX) (v' : SY), i_Rel k u' v' ∧ (∀ (post : Int32 → SX → Prop) (f step : Nat), M + 2 ≤ f → step + M < 20000 → post o u' → wX_run_27 post f (nI step) (nI dl) (nI rl) (nI fl) f_nodeCount f_currentStatus f_faultNode f_typeCount (nI t) (nI e) 0 rn (nI F.length) 0 0 (nI dr) (nI rc) a_nodeKind a_nodeArg a_expectedPlaces a_nodeAtPlace a_placeOfNode a_variablesSeen a_nodeType a_gradeOfBinder a_variableType a_usage a_typeKind a_typeGrade a_typeLeft a_typeRight fm fw fe tN tE rE bo go co) ∧ (∀ (post : Int32 → SY → Prop) (f step : Nat), M + 2 ≤ f → step + M < 100000 → post o v' → wY_run_41 post f (nI t) (nI e - 1) 0 x4 x5 x6 x7 (nI step) (nI dl) (nI rl) (nI fl) f_n f_stat f_err 0 0 (nI rc) (nI dr) (nI F.length) a_nodeKind a_nodeArg a_ch a_par a_pos a_seen a_st a_ty a_tyK a_tyG a_tyA a_tyB a_u a_bg a_ux a_uy a_stk a_eqA a_eqB rT yE rG rN rC rX fK fA fE)) ∧ (∀ (t e dr rc : Nat) (F : gm_Fr) (tn te rs : Nat → Nat) (rn x1 x2 x7 : Int32) (fm fw fe tN tE rE bo go co rT yE rG rN rC rX fK fA fE : Nat → Int32), gm_I kd a_nodeArg n tn te rs rc t e F → rc ≤ rl → dr ≤ dl → F.length ≤ fl → gr_rr rc tn te rs tN tE rE bo go co rT yE rG rN rC rX → gr_ff kd n fm fw fe fK fA fE F → gm_vl (kd t) → (kd t = 7 → x7 = rn) → gm_ps kd n F + 96 * (dl - dr) + 96 * (rl - rc) ≤ M → ∃ (o : Int32) (u' : SX) (v' : SY), i_Rel k u' v' ∧ (∀ (post : Int32 → SX → Prop) (f step : Nat), M + 2 ≤ f → step + M < 20000 → post o u' → wX_run_27 post f (nI step) (nI dl) (nI rl) (nI fl) f_nodeCount f_currentStatus f_faultNode f_typeCount (nI t) (nI e) 1 rn (nI F.length) 0 0 (nI dr) (nI rc) a_nodeKind a_nodeArg a_expectedPlaces a_nodeAtPlace a_placeOfNode a_variablesSeen a_nodeType a_gradeOfBinder a_variableType a_usage a_typeKind a_typeGrade a_typeLeft a_typeRight fm fw fe tN tE rE bo go co) ∧ (∀ (post : Int32 → SY → Prop) (f step : Nat), M + 2 ≤ f → step + M < 100000 → post o v' → wY_run_41 post f x1 x2 1 (nI t) (nI e - 1) (nI (kd t)) x7 (nI step) (nI dl) (nI rl) (nI fl) f_n f_stat f_err 0 0 (nI rc) (nI dr) (nI F.length) a_nodeKind a_nodeArg a_ch a_par a_pos a_seen a_st a_ty a_tyK a_tyG a_tyA a_tyB a_u a_bg a_ux a_uy a_stk a_eqA a_eqB rT yE rG rN rC rX fK fA fE)) := by
  intro M
  induction M with
  | zero =>
    refine ⟨?_, ?_⟩
    · intro t e dr rc F tn te rs rn x4 x5 x6 x7 fm fw fe tN tE rE bo go co rT yE rG rN rC rX fK fA fE I hrc hdr hF R hff hM
      have := gp_sz_le A.1.1 I.1
      omega
    · intro t e dr rc F tn te rs rn x1 x2 x7 fm fw fe tN tE rE bo go co rT yE rG rN rC rX fK fA fE I hrc hdr hF R hff hv h7 hM
      cases F with
      | nil => exact gr_halt A hK hX hY hg hdl hrl hfl hFin rfl I hrc R hv h7
      | cons x G =>
        have := gm_pf_1 kd n x
        simp only [gm_ps] at hM
        omega
  | succ M ih =>
    obtain ⟨ih1, ih2⟩ := ih
    refine ⟨gr_ev A hK hX hY hg hdl hrl hfl hFin ih1 ih2, ?_⟩
    intro t e dr rc F tn te rs rn x1 x2 x7 fm fw fe tN tE rE bo go co rT yE rG rN rC rX fK fA fE I hrc hdr hF R hff hv h7 hM
    cases hFe : F with
    | nil =>
      subst hFe
      exact gr_halt A hK hX hY hg hdl hrl hfl hFin rfl I hrc R hv h7
    | cons x G =>
      subst hFe
      obtain ⟨m, w, e'⟩ := x
      by_cases m0 : m = 0
      · exact gr_add A hK hX hY hg hdl hrl hfl hFin ih1 ih2 rfl (Or.inl m0) I hrc hdr hF R hff hv h7 hM
      · obtain ⟨mg, _⟩ := gm_fr_d A I hv m0
        rcases mg with z | z | z | z | z
        · exact gr_add A hK hX hY hg hdl hrl hfl hFin ih1 ih2 rfl (Or.inr z) I hrc hdr hF R hff hv h7 hM
        · subst z; exact gr_app A hK hX hY hg hdl hrl hfl hFin ih1 rfl I hrc hdr hF R hff hv hM
        · subst z; exact gr_lpr A hK hX hY hg hdl hrl hfl hFin ih1 rfl I hrc hdr hF R hff hv hM
        · subst z; exact gr_cas A hK hX hY hg hdl hrl hfl hFin ih1 rfl I hrc hdr hF R hff hv hM
        · subst z; exact gr_lbx A hK hX hY hg hdl hrl hfl hFin ih1 rfl I hrc hdr hF R hff hv hM
end
theorem i_vc_run {k : Nat} {u : SX} {v : SY} (I : i_Rel k u v) (hk : k + 3 ≤ 1539) : wpX_run (fun r u' => wpY_run (fun r' v' => r' = r ∧ i_Rel (k + 3) u' v') v) u := by
  have J := I
  obtain ⟨f_derefLimit, f_recordLimit, f_frameLimit, f_nodeCount, f_currentStatus, f_faultNode, f_typeCount, f_currentNode, f_currentEnv, f_returning, f_returnedNumber, f_frameCount, f_lastOutcome, f_lastValue, f_derefsMade, f_recordsMade, a_nodeKind, a_nodeArg, a_expectedPlaces, a_nodeAtPlace, a_placeOfNode, a_variablesSeen, a_nodeType, a_gradeOfBinder, a_variableType, a_usage, a_typeKind, a_typeGrade, a_typeLeft, a_typeRight, a_frameMark, a_frameWord, a_frameEnv, a_thunkNode, a_thunkEnv, a_restOfEnv, a_binderOfRecord, a_gradeOfRecord, a_countOfRecord⟩ := u
  obtain ⟨f_dLim, f_rLim, f_fLim, f_n, f_stat, f_err, f_out, f_vInt, f_recs, f_drf, f_fsp, a_kind, a_arg, a_ch, a_par, a_pos, a_seen, a_st, a_ty, a_tyK, a_tyG, a_tyA, a_tyB, a_u, a_bg, a_ux, a_uy, a_stk, a_eqA, a_eqB, a_rT, a_rE, a_rG, a_rN, a_rC, a_rX, a_fK, a_fA, a_fE⟩ := v
  obtain ⟨⟨dl, d1, d2, d3, d4⟩, ⟨rl, l1, l2, l3, l4⟩, ⟨fl, f1, f2, f3, f4⟩, s, o, r, kd, n, ⟨p1, p2, p3, p4, p5, p6⟩, c⟩ := I
  have s0 := s
  obtain ⟨s1, s2, s3⟩ := s
  refine br_c (fun z => ?_) (fun z => br_f (by rw [s1]; exact z) ⟨rfl, J⟩)
  obtain ⟨tc, ctc, ⟨htc, A, S, TI⟩, ⟨hA', SY, TY⟩⟩ := c z
  subst p3 p4
  have c' := c
  have ok := A.1.1
  have hg : ∀ i, i < n → (kd i = 9 ∨ kd i = 12 ∨ kd i = 15 ∨ kd i = 17) → a_bg i = a_gradeOfBinder i := fun i hi hb => by
    rw [(TI.2 i hi).2.2.2 hb]
    exact ((TY.2.2 i ⟨hi, by omega⟩).2.2.2.2.1 hb).1
  subst d3 d4 l3 l4 f3 f4
  have hFin : ∀ (cn ce rt rn fc o lv dr' rm rs' fsp : Int32) (fm fw fe tN tE rE bo go co rT yE rG rN rC rX fK fA fE : Nat → Int32), gr_rec rm rs' bo go co rN rG rC → i_Rel (k + 3) (nI dl, nI rl, nI fl, f_nodeCount, f_currentStatus, f_faultNode, f_typeCount, cn, ce, rt, rn, fc, o, lv, dr', rm, a_kind, a_arg, a_expectedPlaces, a_nodeAtPlace, a_placeOfNode, a_variablesSeen, a_nodeType, a_gradeOfBinder, a_variableType, a_usage, a_typeKind, a_typeGrade, a_typeLeft, a_typeRight, fm, fw, fe, tN, tE, rE, bo, go, co) (nI dl, nI rl, nI fl, f_n, f_stat, f_err, o, lv, rs', dr', fsp, a_kind, a_arg, a_ch, a_par, a_pos, a_seen, a_st, a_ty, a_tyK, a_tyG, a_tyA, a_tyB, a_u, a_bg, a_ux, a_uy, a_stk, a_eqA, a_eqB, rT, yE, rG, rN, rC, rX, fK, fA, fE) := by
    intro cn ce rt rn fc o lv dr' rm rs' fsp fm fw fe tN tE rE bo go co rT yE rG rN rC rX fK fA fE hr
    exact ⟨⟨dl, d1, d2, rfl, rfl⟩, ⟨rl, l1, l2, rfl, rfl⟩, ⟨fl, f1, f2, rfl, rfl⟩, s0, ⟨rfl, rfl, rfl⟩, hr, kd, n, ⟨p1, p2, rfl, rfl, p5, p6⟩, c'⟩
  have sz := gp_sz_le ok ok.1
  obtain ⟨ox, u', v', hR, cX, cY⟩ := (gr_go A p6 S.2.2 SY.2.2.2.1 hg d2 l2 f2 hFin (96 + 96 * dl + 96 * rl)).1 0 0 0 0 [] (fun _ => 0) (fun _ => 0) (fun _ => 0) f_returnedNumber 0 (-1) 7 0 a_frameMark a_frameWord a_frameEnv a_thunkNode a_thunkEnv a_restOfEnv a_binderOfRecord a_gradeOfRecord a_countOfRecord a_rT a_rE a_rG a_rN a_rC a_rX a_fK a_fA a_fE (gm_I_0 A) (by omega) (by omega) (by simp) (fun r a b => by omega) trivial (by simp only [gm_ps]; omega)
  refine ⟨96 + 96 * dl + 96 * rl + 2, cX _ _ 0 (Nat.le_refl _) (by omega) ?_⟩
  refine br_t (by rw [s1]; exact z) ⟨96 + 96 * dl + 96 * rl + 2, cY _ _ 0 (Nat.le_refl _) (by omega) ⟨rfl, hR⟩⟩

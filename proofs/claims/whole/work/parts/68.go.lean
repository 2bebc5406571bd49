section
variable {f_derefLimit f_recordLimit f_frameLimit f_nodeCount f_currentStatus f_faultNode f_typeCount f_currentNode f_currentEnv f_returning f_returnedNumber f_frameCount f_lastOutcome f_lastValue f_derefsMade f_recordsMade : Int32} {a_nodeKind a_nodeArg a_expectedPlaces a_nodeAtPlace a_placeOfNode a_variablesSeen a_nodeType a_gradeOfBinder a_variableType a_usage a_typeKind a_typeGrade a_typeLeft a_typeRight a_frameMark a_frameWord a_frameEnv a_thunkNode a_thunkEnv a_restOfEnv a_binderOfRecord a_gradeOfRecord a_countOfRecord : Nat → Int32} {f_dLim f_rLim f_fLim f_n f_stat f_err f_out f_vInt f_recs f_drf f_fsp : Int32} {a_kind a_arg a_ch a_par a_pos a_seen a_st a_ty a_tyK a_tyG a_tyA a_tyB a_u a_bg a_ux a_uy a_stk a_eqA a_eqB a_rT a_rE a_rG a_rN a_rC a_rX a_fK a_fA a_fE : Nat → Int32}
theorem gr_ev {k n dl rl fl : Nat} {kd : Nat → Nat} (A : gm_A kd a_nodeArg n) (hK : ∀ i, i < n → a_nodeKind i = nI (kd i)) (hX : ∀ i, i < n → ∀ j, j < gp_ar (kd i) → a_nodeAtPlace (3 * i + j) = nI (gp_ch kd n i j)) (hY : ∀ i, i < n → ∀ j, j < gp_ar (kd i) → a_ch (3 * i + j) = nI (gp_ch kd n i j)) (hg : ∀ i, i < n → (kd i = 9 ∨ kd i = 12 ∨ kd i = 15 ∨ kd i = 17) → a_bg i = a_gradeOfBinder i) (hdl : dl ≤ 64) (hrl : rl ≤ 32) (hfl : fl ≤ 64) (hFin : ∀ (cn ce rt rn fc o lv dr' rm rs' fsp : Int32) (fm fw fe tN tE rE bo go co rT yE rG rN rC rX fK fA fE : Nat → Int32), gr_rec rm rs' bo go co rN rG rC → i_Rel k (nI dl, nI rl, nI fl, f_nodeCount, f_currentStatus, f_faultNode, f_typeCount, cn, ce, rt, rn, fc, o, lv, dr', rm, a_nodeKind, a_nodeArg, a_expectedPlaces, a_nodeAtPlace, a_placeOfNode, a_variablesSeen, a_nodeType, a_gradeOfBinder, a_variableType, a_usage, a_typeKind, a_typeGrade, a_typeLeft, a_typeRight, fm, fw, fe, tN, tE, rE, bo, go, co) (nI dl, nI rl, nI fl, f_n, f_stat, f_err, o, lv, rs', dr', fsp, a_nodeKind, a_nodeArg, a_ch, a_par, a_pos, a_seen, a_st, a_ty, a_tyK, a_tyG, a_tyA, a_tyB, a_u, a_bg, a_ux, a_uy, a_stk, a_eqA, a_eqB, rT, yE, rG, rN, rC, rX, fK, fA, fE)) {M : Nat} (ih1 : ∀ (t e dr rc : Nat) (F : gm_Fr) (tn te rs : Nat → Nat) (rn x4 x5 x6 x7 : Int32) (fm fw fe tN tE rE bo go co rT yE rG rN rC rX fK fA fE : Nat → Int32), gm_I kd a_nodeArg n tn te rs rc t e F → rc ≤ rl → dr ≤ dl → F.length ≤ fl → gr_rr rc tn te rs tN tE rE bo go co rT yE rG rN rC rX → gr_ff kd n fm fw fe fK fA fE F → 3 * gp_sz kd n t + gm_ps kd n F + 96 * (dl - dr) + 96 * (rl - rc) ≤ M → ∃ (o : Int32) (u' : SX) (v' : SY), i_Rel k u' v' ∧ (∀ (post : Int32 → SX → Prop) (f step : Nat), M + 2 ≤ f → step + M < 20000 → post o u' → wX_run_27 post f (nI step) (nI dl) (nI rl) (nI fl) f_nodeCount f_currentStatus f_faultNode f_typeCount (nI t) (nI e) 0 rn (nI F.length) 0 0 (nI dr) (nI rc) a_nodeKind a_nodeArg a_expectedPlaces a_nodeAtPlace a_placeOfNode a_variablesSeen a_nodeType a_gradeOfBinder a_variableType a_usage a_typeKind a_typeGrade a_typeLeft a_typeRight fm fw fe tN tE rE bo go co) ∧ (∀ (post : Int32 → SY → Prop) (f step : Nat), M + 2 ≤ f → step + M < 100000 → post o v' → wY_run_41 post f (nI t) (nI e - 1) 0 x4 x5 x6 x7 (nI step) (nI dl) (nI rl) (nI fl) f_n f_stat f_err 0 0 (nI rc) (nI dr) (nI F.length) a_nodeKind a_nodeArg a_ch a_par a_pos a_seen a_st a_ty a_tyK a_tyG a_tyA a_tyB a_u a_bg a_ux a_uy a_stk a_eqA a_eqB rT yE rG rN rC rX fK fA fE)) (ih2 : ∀ (t e dr rc : Nat) (F : gm_Fr) (tn te rs : Nat → Nat) (rn x1 x2 x7 : Int32) (fm fw fe tN tE rE bo go co rT yE rG rN rC rX fK fA fE : Nat → Int32), gm_I kd a_nodeArg n tn te rs rc t e F → rc ≤ rl → dr ≤ dl → F.length ≤ fl → gr_rr rc tn te rs tN tE rE bo go co rT yE rG rN rC rX → gr_ff kd n fm fw fe fK fA fE F → gm_vl (kd t) → (kd t = 7 → x7 = rn) → gm_ps kd n F + 96 * (dl - dr) + 96 * (rl - rc) ≤ M → ∃ (o : Int32) (u' : SX) (v' : SY), i_Rel k u' v' ∧ (∀ (post : Int32 → SX → Prop) (f step : Nat), M + 2 ≤ f → step + M < 20000 → post o u' → wX_run_27 post f (nI step) (nI dl) (nI rl) (nI fl) f_nodeCount f_currentStatus f_faultNode f_typeCount (nI t) (nI e) 1 rn (nI F.length) 0 0 (nI dr) (nI rc) a_nodeKind a_nodeArg a_expectedPlaces a_nodeAtPlace a_placeOfNode a_variablesSeen a_nodeType a_gradeOfBinder a_variableType a_usage a_typeKind a_typeGrade a_typeLeft a_typeRight fm fw fe tN tE rE bo go co) ∧ (∀ (post : Int32 → SY → Prop) (f step : Nat), M + 2 ≤ f → step + M < 100000 → post o v' → wY_run_41 post f x1 x2 1 (nI t) (nI e - 1) (nI (kd t)) x7 (nI step) (nI dl) (nI rl) (nI fl) f_n f_stat f_err 0 0 (nI rc) (nI dr) (nI F.length) a_nodeKind a_nodeArg a_ch a_par a_pos a_seen a_st a_ty a_tyK a_tyG a_tyA a_tyB a_u a_bg a_ux a_uy a_stk a_eqA a_eqB rT yE rG rN rC rX fK fA fE)) : ∀ (t e dr rc : Nat) (F : gm_Fr) (tn te rs : Nat → Nat) (rn x4 x5 x6 x7 : Int32) (fm fw fe tN tE rE bo go co rT yE rG rN rC rX fK fA fE : Nat → Int32), gm_I kd a_nodeArg n tn te rs rc t e F → rc ≤ rl → dr ≤ dl → F.length ≤ fl → gr_rr rc tn te rs tN tE rE bo go co rT yE rG rN rC rX → gr_ff kd n fm fw fe fK fA fE F → 3 * gp_sz kd n t + gm_ps kd n F + 96 * (dl - dr) + 96 * (rl - rc) ≤ M + 1 → ∃ (o : Int32) (u' : SX) (v' : SY), i_Rel k u' v' ∧ (∀ (post : Int32 → SX → Prop) (f step : Nat), M + 1 + 2 ≤ f → step + (M + 1) < 20000 → post o u' → wX_run_27 post f (nI step) (nI dl) (nI rl) (nI fl) f_nodeCount f_currentStatus f_faultNode f_typeCount (nI t) (nI e) 0 rn (nI F.length) 0 0 (nI dr) (nI rc) a_nodeKind a_nodeArg a_expectedPlaces a_nodeAtPlace a_placeOfNode a_variablesSeen a_nodeType a_gradeOfBinder a_variableType a_usage a_typeKind a_typeGrade a_typeLeft a_typeRight fm fw fe tN tE rE bo go co) ∧ (∀ (post : Int32 → SY → Prop) (f step : Nat), M + 1 + 2 ≤ f → step + (M + 1) < 100000 → post o v' → wY_run_41 post f (nI t) (nI e - 1) 0 x4 x5 x6 x7 (nI step) (nI dl) (nI rl) (nI fl) f_n f_stat f_err 0 0 (nI rc) (nI dr) (nI F.length) a_nodeKind a_nodeArg a_ch a_par a_pos a_seen a_st a_ty a_tyK a_tyG a_tyA a_tyB a_u a_bg a_ux a_uy a_stk a_eqA a_eqB rT yE rG rN rC rX fK fA fE) := by
  intro t e dr rc F tn te rs rn x4 x5 x6 x7 fm fw fe tN tE rE bo go co rT yE rG rN rC rX fK fA fE I hrc hdr hF R hff hM
  have ok := A.1.1
  have hn := ok.2.1
  have ht := I.1
  have t32 : t < 32 := by omega
  have h5 := I.2.1
  have k17 := (A.1.2.2.1 t ht).2
  have hsz := gp_sz_le ok ht
  have hcase : kd t = 6 ∨ gm_go (kd t) ∨ gm_vl (kd t) := by
    unfold gm_go gm_vl
    omega
  rcases hcase with h6 | hgo | hvl
  · obtain ⟨i, hi, ei⟩ := A.1.2.2.2.1 t ht h6
    obtain ⟨r1, r2, I'⟩ := gm_s_var A I h6 ei hi
    have sl := gp_sn_lt ok ht
    have hE : ∀ j, j ≤ i → 1 ≤ gm_nth rs e j ∧ gm_nth rs e j ≤ rc := fun j hj => ⟨(I.2.2.2.1 j (by omega)).1, (I.2.2.2.1 j (by omega)).2.1⟩
    have kt := hK t ht
    rw [h6] at kt
    have sz' := gp_sz_le ok I'.1
    rcases Nat.lt_or_ge dr dl with z | z
    · obtain ⟨o, u', v', hR, cX, cY⟩ := ih1 _ _ (dr + 1) rc F tn te rs rn x4 x5 x6 x7 fm fw fe tN tE rE bo go (upd co (gm_nth rs e i) (co (gm_nth rs e i) + 1)) rT yE rG rN (upd rC (gm_nth rs e i - 1) (co (gm_nth rs e i) + 1)) rX fK fA fE I' hrc z hF (gr_rr_c R r1) hff (by omega)
      refine ⟨o, u', v', hR, fun post f step hf hs hp => ?_, fun post f step hf hs hp => ?_⟩
      · cases f with
        | zero => omega
        | succ f =>
        refine br_f (nI_ge (b := 20000) (by omega) (by decide)) (br_t rfl (br_t rfl ?_))
        refine gx_evD (rs := rs) (tn := tn) (te := te) (rc := rc) t32 kt ei (by omega) (by omega) hdr hdl hE (fun r a b => (R r a b).1) (fun w => by omega) (fun _ => nm_r (nI_1 step) (cX post f (step + 1) (by omega) (by omega) hp))
      · cases f with
        | zero => omega
        | succ f =>
        refine gy_rD (rs := rs) (tn := tn) (te := te) (rc := rc) (by omega) t32 kt ei (by omega) (by omega) hdr hdl hE (fun r a b => (R r a b).2.1) (fun w => by omega) (fun _ => ?_)
        rw [(R _ r1 r2).2.2.2.2]
        exact cY post f (step + 1) (by omega) (by omega) hp
    · have edr : dr = dl := by omega
      refine ⟨7, _, _, hFin (nI t) (nI e) 0 rn (nI F.length) 7 0 (nI dr) (nI rc) (nI rc) (nI F.length) fm fw fe tN tE rE bo go co rT yE rG rN rC rX fK fA fE (gr_rr_r R (by omega)), fun post f step hf hs hp => ?_, fun post f step hf hs hp => ?_⟩
      · cases f with
        | zero => omega
        | succ f =>
        cases f with
        | zero => omega
        | succ f =>
        refine br_f (nI_ge (b := 20000) (by omega) (by decide)) (br_t rfl (br_t rfl ?_))
        refine gx_evD (rs := rs) (tn := tn) (te := te) (rc := rc) t32 kt ei (by omega) (by omega) hdr hdl hE (fun r a b => (R r a b).1) (fun w => nm_r (nI_1 step) (gx_fin (by decide) hp)) (fun w => by omega)
      · cases f with
        | zero => omega
        | succ f =>
        exact gy_rD (rs := rs) (tn := tn) (te := te) (rc := rc) (by omega) t32 kt ei (by omega) (by omega) hdr hdl hE (fun r a b => (R r a b).2.1) (fun w => hp) (fun w => by omega)
  · have I' := gm_s_go A I hgo
    obtain ⟨g1, g2, g3⟩ := gm_go_ar hgo
    have hm := gm_m_go (e := e) ok ht hgo
    have xc := hX t ht 0 (by omega)
    have yc := hY t ht 0 (by omega)
    rw [Nat.add_zero] at yc
    have yc1 := hY t ht 1 (by omega)
    have et : (nI t).toNatClampNeg = t := nI_clamp (by omega)
    rcases Nat.lt_or_ge F.length fl with z | z
    · have ff' := gr_ff_p (m := kd t) (e := e) (w := nI t) (kk := nI (kd t)) (aa := if kd t = 8 ∨ kd t = 10 then nI (gp_ch kd n t 1) else nI t) hff (by rw [if_neg (by omega)]) (by rw [et])
      obtain ⟨o, u', v', hR, cX, cY⟩ := ih1 _ _ dr rc _ tn te rs rn x4 x5 x6 x7 _ _ _ tN tE rE bo go co rT yE rG rN rC rX _ _ _ I' hrc hdr (by simp only [List.length_cons]; omega) R ff' (by simp only [gm_ps]; omega)
      refine ⟨o, u', v', hR, fun post f step hf hs hp => ?_, fun post f step hf hs hp => ?_⟩
      · cases f with
        | zero => omega
        | succ f =>
        refine br_f (nI_ge (b := 20000) (by omega) (by decide)) (br_t rfl (br_t rfl ?_))
        exact gx_evG t32 (hK t ht) hgo xc hF hfl (fun w => by omega) (fun _ => nm_r (nI_1 step) (cX post f (step + 1) (by omega) (by omega) hp))
      · cases f with
        | zero => omega
        | succ f =>
        exact gy_rG (by omega) t32 (hK t ht) hgo yc yc1 hF hfl (fun w => by omega) (fun _ => cY post f (step + 1) (by omega) (by omega) hp)
    · refine ⟨9, _, _, hFin (nI t) (nI e) 0 rn (nI F.length) 9 0 (nI dr) (nI rc) (nI rc) (nI F.length) fm fw fe tN tE rE bo go co rT yE rG rN rC rX fK fA fE (gr_rr_r R (by omega)), fun post f step hf hs hp => ?_, fun post f step hf hs hp => ?_⟩
      · cases f with
        | zero => omega
        | succ f =>
        cases f with
        | zero => omega
        | succ f =>
        refine br_f (nI_ge (b := 20000) (by omega) (by decide)) (br_t rfl (br_t rfl ?_))
        exact gx_evG t32 (hK t ht) hgo xc hF hfl (fun w => nm_r (nI_1 step) (gx_fin (by decide) hp)) (fun w => by omega)
      · cases f with
        | zero => omega
        | succ f =>
        exact gy_rG (by omega) t32 (hK t ht) hgo yc yc1 hF hfl (fun w => hp) (fun w => by omega)
  · have hm0 : gm_ps kd n F + 96 * (dl - dr) + 96 * (rl - rc) ≤ M := by omega
    obtain ⟨o, u', v', hR, cX, cY⟩ := ih2 t e dr rc F tn te rs (if kd t = 7 then a_nodeArg t else rn) (nI t) (nI e - 1) (a_nodeArg t) fm fw fe tN tE rE bo go co rT yE rG rN rC rX fK fA fE I hrc hdr hF R hff hvl (fun z => by rw [if_pos z]) hm0
    refine ⟨o, u', v', hR, fun post f step hf hs hp => ?_, fun post f step hf hs hp => ?_⟩
    · cases f with
      | zero => omega
      | succ f =>
      refine br_f (nI_ge (b := 20000) (by omega) (by decide)) (br_t rfl (br_t rfl ?_))
      refine gx_evV t32 (hK t ht) hvl (fun rn' a b => nm_r (nI_1 step) ?_)
      have e : rn' = if kd t = 7 then a_nodeArg t else rn := by
        by_cases z : kd t = 7
        · rw [if_pos z]; exact a z
        · rw [if_neg z]; exact b z
      rw [e]
      exact cX post f (step + 1) (by omega) (by omega) hp
    · cases f with
      | zero => omega
      | succ f =>
      exact gy_rV (by omega) t32 (hK t ht) hvl (cY post f (step + 1) (by omega) (by omega) hp)
end

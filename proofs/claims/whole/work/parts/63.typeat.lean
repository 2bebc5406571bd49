section
variable {f_derefLimit f_recordLimit f_frameLimit f_nodeCount f_currentStatus f_faultNode f_typeCount f_currentNode f_currentEnv f_returning f_returnedNumber f_frameCount f_lastOutcome f_lastValue f_derefsMade f_recordsMade : Int32} {a_nodeKind a_nodeArg a_expectedPlaces a_nodeAtPlace a_placeOfNode a_variablesSeen a_nodeType a_gradeOfBinder a_variableType a_usage a_typeKind a_typeGrade a_typeLeft a_typeRight a_frameMark a_frameWord a_frameEnv a_thunkNode a_thunkEnv a_restOfEnv a_binderOfRecord a_gradeOfRecord a_countOfRecord : Nat → Int32} {f_dLim f_rLim f_fLim f_n f_stat f_err f_out f_vInt f_recs f_drf f_fsp : Int32} {a_kind a_arg a_ch a_par a_pos a_seen a_st a_ty a_tyK a_tyG a_tyA a_tyB a_u a_bg a_ux a_uy a_stk a_eqA a_eqB a_rT a_rE a_rG a_rN a_rC a_rX a_fK a_fA a_fE : Nat → Int32}
theorem gr_ta {n tc : Nat} {kd : Nat → Nat} {P : Nat → Prop} {dep bits : Int32} {D : Nat} (hn : n ≤ 32) (htc : tc ≤ 32) (hX : gd_xt (a_typeKind, a_typeGrade, a_typeLeft, a_typeRight) tc) (hY : ∀ y, gy_o kd n P y → gy_c kd n P (a_tyK, a_tyG, a_tyA, a_tyB) y) (eD : dep = nI D) (hD : D ≤ 30) :
    ∀ d i x y, i + d = D → x < tc → gy_o kd n P y → gd_D (a_typeKind, a_typeGrade, a_typeLeft, a_typeRight) x = gd_D (a_tyK, a_tyG, a_tyA, a_tyB) y →
      ∃ r, (∀ (post : Int32 → Prop) (fuel : Nat), d < fuel → post r → wX_typeAt_30 post dep bits f_derefLimit f_recordLimit f_frameLimit f_nodeCount f_currentStatus f_faultNode f_typeCount f_currentNode f_currentEnv f_returning f_returnedNumber f_frameCount f_lastOutcome f_lastValue f_derefsMade f_recordsMade a_nodeKind a_nodeArg a_expectedPlaces a_nodeAtPlace a_placeOfNode a_variablesSeen a_nodeType a_gradeOfBinder a_variableType a_usage a_typeKind a_typeGrade a_typeLeft a_typeRight a_frameMark a_frameWord a_frameEnv a_thunkNode a_thunkEnv a_restOfEnv a_binderOfRecord a_gradeOfRecord a_countOfRecord fuel (nI x) (nI i)) ∧ (∀ (post : Int32 → Prop) (fuel : Nat), d < fuel → post r → wY_typeAt_30 post dep bits f_dLim f_rLim f_fLim f_n f_stat f_err f_out f_vInt f_recs f_drf f_fsp a_kind a_arg a_ch a_par a_pos a_seen a_st a_ty a_tyK a_tyG a_tyA a_tyB a_u a_bg a_ux a_uy a_stk a_eqA a_eqB a_rT a_rE a_rG a_rN a_rC a_rX a_fK a_fA a_fE fuel (nI y) (nI i)) := by
  subst eD
  intro d
  induction d with
  | zero =>
    intro i x y hi hx hy e
    have y64 := gy_o_lt hn hy
    obtain ⟨l1, l2⟩ := gd_lab e
    dsimp only at l1 l2
    have vx := vp_in_nI (show x < 32 by omega) (by decide)
    have vy := vp_in_nI y64 (by decide)
    refine ⟨a_typeKind x * 4 + a_typeGrade x, fun post fuel hf hp => ?_, fun post fuel hf hp => ?_⟩
    · cases fuel with
      | zero => omega
      | succ fuel =>
        refine br_t (nI_le (by omega) (by omega)) ⟨vx, vx, ?_⟩
        rw [nI_clamp (show x < 2 ^ 31 by omega)]
        exact hp
    · cases fuel with
      | zero => omega
      | succ fuel =>
        refine br_t (nI_le (by omega) (by omega)) ⟨vy, vy, ?_⟩
        rw [nI_clamp (show y < 2 ^ 31 by omega), ← l1, ← l2]
        exact hp
  | succ d ih =>
    intro i x y hi hx hy e
    have y64 := gy_o_lt hn hy
    obtain ⟨l1, l2⟩ := gd_lab e
    dsimp only at l1 l2
    have vx := vp_in_nI (show x < 32 by omega) (by decide)
    have vy := vp_in_nI y64 (by decide)
    have ex : (nI x).toNatClampNeg = x := nI_clamp (by omega)
    have ey : (nI y).toNatClampNeg = y := nI_clamp (by omega)
    have gX : ¬ nI D ≤ nI i := nI_ge (by omega) (by omega)
    obtain ⟨b, b2, eb⟩ := pk_andE (bits >>> (nI i &&& 31)) (m := 1) 1 (by decide)
    by_cases k1 : a_typeKind x = 1
    · refine ⟨-1, fun post fuel hf hp => ?_, fun post fuel hf hp => ?_⟩
      · cases fuel with
        | zero => omega
        | succ fuel =>
          refine br_f gX (br_c (fun _ => ⟨vx, ?_⟩) (fun _ => ⟨vx, ?_⟩))
          · rw [ex]; exact br_t k1 hp
          · rw [ex]; exact br_t k1 hp
      · cases fuel with
        | zero => omega
        | succ fuel =>
          refine br_f gX (nm_e ⟨vy, ?_⟩)
          rw [ey, ← l1]
          exact nm_e (br_t k1 hp)
    have k1' : ¬ a_tyK y = 1 := by rw [← l1]; exact k1
    have LX := gd_xL (by omega) (hX.2.1 x hx) k1
    obtain ⟨a, a1, a2⟩ := (hY y hy).1 k1'
    have a64 := gy_o_lt hn a1
    have eL : gd_L (a_tyK, a_tyG, a_tyA, a_tyB) y = a := by unfold gd_L; rw [a2]; exact nI_clamp (by omega)
    have dL := gd_left e k1
    rw [eL] at dL
    have LX2 := LX.2
    dsimp only at LX2 a2
    by_cases bz : b = 0
    · subst bz
      obtain ⟨r, hx', hy'⟩ := ih (i + 1) _ a (by omega) (by omega) a1 dL
      have e0 : ¬ (nI 0 : Int32) = 1 := by decide
      refine ⟨r, fun post fuel hf hp => ?_, fun post fuel hf hp => ?_⟩
      · cases fuel with
        | zero => omega
        | succ fuel =>
          refine br_f gX ?_
          rw [eb]
          refine br_f e0 ⟨vx, ?_⟩
          have go : wX_typeAt_80 post (wX_typeAt_30 post (nI D) bits f_derefLimit f_recordLimit f_frameLimit f_nodeCount f_currentStatus f_faultNode f_typeCount f_currentNode f_currentEnv f_returning f_returnedNumber f_frameCount f_lastOutcome f_lastValue f_derefsMade f_recordsMade a_nodeKind a_nodeArg a_expectedPlaces a_nodeAtPlace a_placeOfNode a_variablesSeen a_nodeType a_gradeOfBinder a_variableType a_usage a_typeKind a_typeGrade a_typeLeft a_typeRight a_frameMark a_frameWord a_frameEnv a_thunkNode a_thunkEnv a_restOfEnv a_binderOfRecord a_gradeOfRecord a_countOfRecord fuel) (nI D) bits (nI x) (nI i) 0 f_derefLimit f_recordLimit f_frameLimit f_nodeCount f_currentStatus f_faultNode f_typeCount f_currentNode f_currentEnv f_returning f_returnedNumber f_frameCount f_lastOutcome f_lastValue f_derefsMade f_recordsMade a_nodeKind a_nodeArg a_expectedPlaces a_nodeAtPlace a_placeOfNode a_variablesSeen a_nodeType a_gradeOfBinder a_variableType a_usage a_typeKind a_typeGrade a_typeLeft a_typeRight a_frameMark a_frameWord a_frameEnv a_thunkNode a_thunkEnv a_restOfEnv a_binderOfRecord a_gradeOfRecord a_countOfRecord := by
            unfold wX_typeAt_80
            rw [ex]
            exact br_t rfl ⟨vx, nm_r LX2 (nm_r (nI_1 i) (hx' post fuel (by omega) hp))⟩
          rw [ex]
          exact br_f k1 ⟨vx, br_c (fun _ => br_t rfl go) (fun _ => go)⟩
      · cases fuel with
        | zero => omega
        | succ fuel =>
          refine br_f gX ?_
          rw [eb]
          refine nm_e ⟨vy, ?_⟩
          have go : wY_typeAt_74 post (wY_typeAt_30 post (nI D) bits f_dLim f_rLim f_fLim f_n f_stat f_err f_out f_vInt f_recs f_drf f_fsp a_kind a_arg a_ch a_par a_pos a_seen a_st a_ty a_tyK a_tyG a_tyA a_tyB a_u a_bg a_ux a_uy a_stk a_eqA a_eqB a_rT a_rE a_rG a_rN a_rC a_rX a_fK a_fA a_fE fuel) (nI D) bits (nI y) (nI i) (nI 0) f_dLim f_rLim f_fLim f_n f_stat f_err f_out f_vInt f_recs f_drf f_fsp a_kind a_arg a_ch a_par a_pos a_seen a_st a_ty a_tyK a_tyG a_tyA a_tyB a_u a_bg a_ux a_uy a_stk a_eqA a_eqB a_rT a_rE a_rG a_rN a_rC a_rX a_fK a_fA a_fE := by
            unfold wY_typeAt_74
            rw [ey, a2]
            refine br_t rfl ⟨vy, ?_⟩
            exact br_f (nI_pos (by omega)) (br_t (nI_le (b := 63) (by omega) (by decide)) (nm_r (nI_1 i) (hy' post fuel (by omega) hp)))
          rw [ey]
          exact nm_e (br_f k1' (br_c (fun _ => br_f e0 go) (fun _ => go)))
    · have b1 : b = 1 := by omega
      subst b1
      by_cases k5 : a_typeKind x = 5
      · have k5' : a_tyK y = 5 := by rw [← l1]; exact k5
        refine ⟨-1, fun post fuel hf hp => ?_, fun post fuel hf hp => ?_⟩
        · cases fuel with
          | zero => omega
          | succ fuel =>
            refine br_f gX ?_
            rw [eb]
            refine br_t (by decide) ⟨vx, ?_⟩
            rw [ex]
            exact br_f k1 ⟨vx, br_t k5 (br_f (by decide) hp)⟩
        · cases fuel with
          | zero => omega
          | succ fuel =>
            refine br_f gX ?_
            rw [eb]
            refine nm_e ⟨vy, ?_⟩
            rw [ey]
            exact nm_e (br_f k1' (br_t k5' (br_t (by decide) hp)))
      · have k5' : ¬ a_tyK y = 5 := by rw [← l1]; exact k5
        have RX := gd_xR (by omega) (hX.2.1 x hx) k1 k5
        obtain ⟨c, c1, c2⟩ := (hY y hy).2 k1' k5'
        have c64 := gy_o_lt hn c1
        have eR : gd_R (a_tyK, a_tyG, a_tyA, a_tyB) y = c := by unfold gd_R; rw [c2]; exact nI_clamp (by omega)
        have dR := gd_right e k1 k5
        rw [eR] at dR
        have RX2 := RX.2
        dsimp only at RX2 c2
        obtain ⟨r, hx', hy'⟩ := ih (i + 1) _ c (by omega) (by omega) c1 dR
        refine ⟨r, fun post fuel hf hp => ?_, fun post fuel hf hp => ?_⟩
        · cases fuel with
          | zero => omega
          | succ fuel =>
            refine br_f gX ?_
            rw [eb]
            refine br_t (by decide) ⟨vx, ?_⟩
            have go : wX_typeAt_80 post (wX_typeAt_30 post (nI D) bits f_derefLimit f_recordLimit f_frameLimit f_nodeCount f_currentStatus f_faultNode f_typeCount f_currentNode f_currentEnv f_returning f_returnedNumber f_frameCount f_lastOutcome f_lastValue f_derefsMade f_recordsMade a_nodeKind a_nodeArg a_expectedPlaces a_nodeAtPlace a_placeOfNode a_variablesSeen a_nodeType a_gradeOfBinder a_variableType a_usage a_typeKind a_typeGrade a_typeLeft a_typeRight a_frameMark a_frameWord a_frameEnv a_thunkNode a_thunkEnv a_restOfEnv a_binderOfRecord a_gradeOfRecord a_countOfRecord fuel) (nI D) bits (nI x) (nI i) 1 f_derefLimit f_recordLimit f_frameLimit f_nodeCount f_currentStatus f_faultNode f_typeCount f_currentNode f_currentEnv f_returning f_returnedNumber f_frameCount f_lastOutcome f_lastValue f_derefsMade f_recordsMade a_nodeKind a_nodeArg a_expectedPlaces a_nodeAtPlace a_placeOfNode a_variablesSeen a_nodeType a_gradeOfBinder a_variableType a_usage a_typeKind a_typeGrade a_typeLeft a_typeRight a_frameMark a_frameWord a_frameEnv a_thunkNode a_thunkEnv a_restOfEnv a_binderOfRecord a_gradeOfRecord a_countOfRecord := by
              unfold wX_typeAt_80
              rw [ex]
              exact br_f (by decide) ⟨vx, nm_r RX2 (nm_r (nI_1 i) (hx' post fuel (by omega) hp))⟩
            rw [ex]
            exact br_f k1 ⟨vx, br_f k5 go⟩
        · cases fuel with
          | zero => omega
          | succ fuel =>
            refine br_f gX ?_
            rw [eb]
            refine nm_e ⟨vy, ?_⟩
            have go : wY_typeAt_74 post (wY_typeAt_30 post (nI D) bits f_dLim f_rLim f_fLim f_n f_stat f_err f_out f_vInt f_recs f_drf f_fsp a_kind a_arg a_ch a_par a_pos a_seen a_st a_ty a_tyK a_tyG a_tyA a_tyB a_u a_bg a_ux a_uy a_stk a_eqA a_eqB a_rT a_rE a_rG a_rN a_rC a_rX a_fK a_fA a_fE fuel) (nI D) bits (nI y) (nI i) (nI 1) f_dLim f_rLim f_fLim f_n f_stat f_err f_out f_vInt f_recs f_drf f_fsp a_kind a_arg a_ch a_par a_pos a_seen a_st a_ty a_tyK a_tyG a_tyA a_tyB a_u a_bg a_ux a_uy a_stk a_eqA a_eqB a_rT a_rE a_rG a_rN a_rC a_rX a_fK a_fA a_fE := by
              unfold wY_typeAt_74
              rw [ey, c2]
              refine br_f (by decide) ⟨vy, ?_⟩
              exact br_f (nI_pos (by omega)) (br_t (nI_le (b := 63) (by omega) (by decide)) (nm_r (nI_1 i) (hy' post fuel (by omega) hp)))
            rw [ey]
            exact nm_e (br_f k1' (br_f k5' go))
end
theorem i_vc_typeAt {k : Nat} {u : SX} {v : SY} (I : i_Rel k u v) (hk : k + 3 ≤ 1539) (v1 : Int32) (v2 : Int32) : wpX_typeAt (fun r => wpY_typeAt (fun r' => r' = r ∧ i_Rel (k + 3) u v) v v1 v2) u v1 v2 := by
  have J := I
  obtain ⟨f_derefLimit, f_recordLimit, f_frameLimit, f_nodeCount, f_currentStatus, f_faultNode, f_typeCount, f_currentNode, f_currentEnv, f_returning, f_returnedNumber, f_frameCount, f_lastOutcome, f_lastValue, f_derefsMade, f_recordsMade, a_nodeKind, a_nodeArg, a_expectedPlaces, a_nodeAtPlace, a_placeOfNode, a_variablesSeen, a_nodeType, a_gradeOfBinder, a_variableType, a_usage, a_typeKind, a_typeGrade, a_typeLeft, a_typeRight, a_frameMark, a_frameWord, a_frameEnv, a_thunkNode, a_thunkEnv, a_restOfEnv, a_binderOfRecord, a_gradeOfRecord, a_countOfRecord⟩ := u
  obtain ⟨f_dLim, f_rLim, f_fLim, f_n, f_stat, f_err, f_out, f_vInt, f_recs, f_drf, f_fsp, a_kind, a_arg, a_ch, a_par, a_pos, a_seen, a_st, a_ty, a_tyK, a_tyG, a_tyA, a_tyB, a_u, a_bg, a_ux, a_uy, a_stk, a_eqA, a_eqB, a_rT, a_rE, a_rG, a_rN, a_rC, a_rX, a_fK, a_fA, a_fE⟩ := v
  obtain ⟨L1, L2, L3, s, o, r, kd, n, ⟨p1, p2, p3, p4, p5, p6⟩, c⟩ := I
  obtain ⟨s1, s2, s3⟩ := s
  subst p1 p2 p3 p4 s1
  have hn := p5.1
  refine br_c (fun z => ?_) (fun z => br_f z ⟨rfl, J⟩)
  refine br_c (fun y => br_t z (br_t y ⟨rfl, J⟩)) (fun y => ?_)
  obtain ⟨D, hD, rfl⟩ := nI_of y
  refine pk_le D 30 (fun w => ?_) (fun w => br_t z (br_f y (br_f (nI_ge (a := 30) w hD) ⟨rfl, J⟩)))
  obtain ⟨tc, _, ⟨htc, A, S, TI⟩, ⟨_, SY, TY⟩⟩ := c z
  have ok := A.1.1
  have k0 : ¬ kd 0 ≤ 5 := fun z => by have := A.1.2.1.1; unfold gp_srt at this; rw [if_pos z] at this; omega
  obtain ⟨_, ⟨x0, x1, x2, x3⟩, _⟩ := TI.2 0 ok.1
  obtain ⟨_, _, ⟨y0, y1, y2, y3⟩, _⟩ := TY.2.2 0 ⟨ok.1, k0⟩
  obtain ⟨r, hx, hy⟩ := gr_ta (bits := v2) hn htc TI.1 TY.1 rfl w D 0 x0 y0 (by omega) x1 y1 (x3.trans y3.symm)
  refine nm_r x2 ⟨D + 1, hx _ (D + 1) (by omega) ?_⟩
  exact br_t z (br_f y (br_t (nI_le (b := 30) w (by decide)) (nm_r y2 ⟨D + 1, hy _ (D + 1) (by omega) ⟨rfl, J⟩⟩)))

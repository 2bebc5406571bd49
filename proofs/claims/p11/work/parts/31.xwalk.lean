/-- the first error below a node, its own last tests left out -/
noncomputable def gt_pe (kd : Nat → Nat) (ag : Nat → Int32) (n d : Nat) : Nat × Nat :=
  if kd d ≤ 5 then (0, 0)
  else if 0 < gp_ar (kd d) ∧ ¬ (gt_er kd ag n (gp_ch kd n d 0)).1 = 0 then gt_er kd ag n (gp_ch kd n d 0)
  else if ¬ gt_e1 kd ag n d = 0 then (gt_e1 kd ag n d, d)
  else if 1 < gp_ar (kd d) ∧ ¬ (gt_er kd ag n (gp_ch kd n d 1)).1 = 0 then gt_er kd ag n (gp_ch kd n d 1)
  else if 2 < gp_ar (kd d) ∧ ¬ (gt_er kd ag n (gp_ch kd n d 2)).1 = 0 then gt_er kd ag n (gp_ch kd n d 2)
  else (0, 0)
section
variable {kd : Nat → Nat} {ag : Nat → Int32} {n d : Nat}
theorem gt_er_pe (ok : gp_ok kd n) (hd : d < n) (h : ¬ (gt_pe kd ag n d).1 = 0) : gt_er kd ag n d = gt_pe kd ag n d := by
  rw [gt_er_e ok hd]
  unfold gt_H
  unfold gt_pe at h ⊢
  by_cases h5 : kd d ≤ 5
  · rw [if_pos h5] at h; exact absurd rfl h
  rw [if_neg h5] at h ⊢
  rw [if_neg h5]
  by_cases c0 : 0 < gp_ar (kd d) ∧ ¬ (gt_er kd ag n (gp_ch kd n d 0)).1 = 0
  · rw [if_pos c0, if_pos c0]
  rw [if_neg c0] at h ⊢
  rw [if_neg c0]
  by_cases c1 : ¬ gt_e1 kd ag n d = 0
  · rw [if_pos c1, if_pos c1]
  rw [if_neg c1] at h ⊢
  rw [if_neg c1]
  by_cases c2 : 1 < gp_ar (kd d) ∧ ¬ (gt_er kd ag n (gp_ch kd n d 1)).1 = 0
  · rw [if_pos c2, if_pos c2]
  rw [if_neg c2] at h ⊢
  rw [if_neg c2]
  by_cases c3 : 2 < gp_ar (kd d) ∧ ¬ (gt_er kd ag n (gp_ch kd n d 2)).1 = 0
  · rw [if_pos c3, if_pos c3]
  rw [if_neg c3] at h
  exact absurd rfl h
theorem gt_er_e2 (ok : gp_ok kd n) (hd : d < n) (h : (gt_pe kd ag n d).1 = 0) : (gt_er kd ag n d).1 = gt_e2 kd ag n d ∧ (¬ gt_e2 kd ag n d = 0 → gt_er kd ag n d = (gt_e2 kd ag n d, d)) := by
  by_cases h5 : kd d ≤ 5
  · rw [gt_er_ty ok hd h5]
    have e := gt_e2_z (kd := kd) (ag := ag) (n := n) (t := d) (by omega)
    rw [e]
    exact ⟨rfl, fun z => absurd rfl z⟩
  rw [gt_er_e ok hd]
  unfold gt_H
  unfold gt_pe at h
  rw [if_neg h5] at h ⊢
  by_cases c0 : 0 < gp_ar (kd d) ∧ ¬ (gt_er kd ag n (gp_ch kd n d 0)).1 = 0
  · rw [if_pos c0] at h; exact absurd h c0.2
  rw [if_neg c0] at h ⊢
  by_cases c1 : ¬ gt_e1 kd ag n d = 0
  · rw [if_pos c1] at h; exact absurd h c1
  rw [if_neg c1] at h ⊢
  by_cases c2 : 1 < gp_ar (kd d) ∧ ¬ (gt_er kd ag n (gp_ch kd n d 1)).1 = 0
  · rw [if_pos c2] at h; exact absurd h c2.2
  rw [if_neg c2] at h ⊢
  by_cases c3 : 2 < gp_ar (kd d) ∧ ¬ (gt_er kd ag n (gp_ch kd n d 2)).1 = 0
  · rw [if_pos c3] at h; exact absurd h c3.2
  rw [if_neg c3]
  exact ⟨rfl, fun _ => rfl⟩
theorem gt_pe_c {j : Nat} (ok : gp_ok kd n) (so : gp_so kd n) (hd : d < n) (hj : j < gp_ar (kd d)) (hp : ∀ i, i < j → (gt_er kd ag n (gp_ch kd n d i)).1 = 0) (he : 0 < j → gt_e1 kd ag n d = 0) (h : ¬ (gt_er kd ag n (gp_ch kd n d j)).1 = 0) : gt_pe kd ag n d = gt_er kd ag n (gp_ch kd n d j) := by
  have h3 := gp_ar_le (kd d)
  have h5 : ¬ kd d ≤ 5 := by
    intro z
    rw [gt_er_ty ok (gp_ch_lt ok hd hj).1 (gp_ty_ch ok so hd z hj)] at h
    exact h rfl
  unfold gt_pe
  rw [if_neg h5]
  have : j = 0 ∨ j = 1 ∨ j = 2 := by omega
  rcases this with e | e | e
  · subst e
    rw [if_pos ⟨hj, h⟩]
  · subst e
    rw [if_neg (fun z => z.2 (hp 0 (by omega))), if_neg (fun z => z (he (by omega))), if_pos ⟨hj, h⟩]
  · subst e
    rw [if_neg (fun z => z.2 (hp 0 (by omega))), if_neg (fun z => z (he (by omega))), if_neg (fun z => z.2 (hp 1 (by omega))), if_pos ⟨hj, h⟩]
theorem gt_pe_1 (ok : gp_ok kd n) (hd : d < n) (h0 : 0 < gp_ar (kd d)) (hp : (gt_er kd ag n (gp_ch kd n d 0)).1 = 0) (he : ¬ gt_e1 kd ag n d = 0) : gt_pe kd ag n d = (gt_e1 kd ag n d, d) := by
  have h5 : ¬ kd d ≤ 5 := fun z => he (gt_if_f (by omega))
  unfold gt_pe
  rw [if_neg h5, if_neg (fun z => z.2 hp), if_pos he]
theorem gt_pe_0 (hp : ∀ i, i < gp_ar (kd d) → (gt_er kd ag n (gp_ch kd n d i)).1 = 0) (he : gt_e1 kd ag n d = 0) : (gt_pe kd ag n d).1 = 0 := by
  unfold gt_pe
  by_cases h5 : kd d ≤ 5
  · rw [if_pos h5]
  rw [if_neg h5, if_neg (fun z => z.2 (hp 0 z.1)), if_neg (fun z => z he), if_neg (fun z => z.2 (hp 1 z.1)), if_neg (fun z => z.2 (hp 2 z.1))]
theorem gt_e1_4 : gt_e1 kd ag n d = 0 ∨ gt_e1 kd ag n d = 4 := by
  unfold gt_e1
  rcases Classical.em ((kd d = 12 ∧ ¬ gt_k (gt_t kd ag n (gp_ch kd n d 0)) = 2) ∨ (kd d = 15 ∧ ¬ gt_k (gt_t kd ag n (gp_ch kd n d 0)) = 3) ∨ (kd d = 17 ∧ ¬ gt_k (gt_t kd ag n (gp_ch kd n d 0)) = 5)) with z | z
  · rw [gt_if_t z]; exact Or.inr rfl
  · rw [gt_if_f z]; exact Or.inl rfl
theorem gt_if_or (P : Prop) (a b : Nat) : gt_if P a b = a ∨ gt_if P a b = b := by
  rcases Classical.em P with z | z
  · exact Or.inl (gt_if_t z)
  · exact Or.inr (gt_if_f z)
theorem gt_e2_45 : gt_e2 kd ag n d = 0 ∨ gt_e2 kd ag n d = 4 ∨ gt_e2 kd ag n d = 5 := by
  unfold gt_e2
  refine (gt_if_or _ _ _).elim (fun z => Or.inr (Or.inl z)) (fun z => ?_)
  rw [z]
  exact (gt_if_or _ _ _).elim (fun y => Or.inr (Or.inr y)) (fun y => Or.inl y)
theorem gt_er_45 (ok : gp_ok kd n) : ∀ m d, n - d < m → d < n → (gt_er kd ag n d).1 = 0 ∨ (gt_er kd ag n d).1 = 4 ∨ (gt_er kd ag n d).1 = 5
  | 0, _, z, _ => by omega
  | m + 1, d, hm, hd => by
    have IH : ∀ j, j < gp_ar (kd d) → (gt_er kd ag n (gp_ch kd n d j)).1 = 0 ∨ (gt_er kd ag n (gp_ch kd n d j)).1 = 4 ∨ (gt_er kd ag n (gp_ch kd n d j)).1 = 5 := by
      intro j hj
      have a := (gp_ch_lt ok hd hj).1
      have b := gp_ch_ge ok hd (Nat.le_of_lt hj)
      exact gt_er_45 ok m _ (by omega) a
    rw [gt_er_e ok hd]
    unfold gt_H
    by_cases h5 : kd d ≤ 5
    · rw [if_pos h5]; exact Or.inl rfl
    rw [if_neg h5]
    by_cases c0 : 0 < gp_ar (kd d) ∧ ¬ (gt_er kd ag n (gp_ch kd n d 0)).1 = 0
    · rw [if_pos c0]; exact IH 0 c0.1
    rw [if_neg c0]
    by_cases c1 : ¬ gt_e1 kd ag n d = 0
    · rw [if_pos c1]
      rcases gt_e1_4 (kd := kd) (ag := ag) (n := n) (d := d) with y | y
      · exact Or.inl y
      · exact Or.inr (Or.inl y)
    rw [if_neg c1]
    by_cases c2 : 1 < gp_ar (kd d) ∧ ¬ (gt_er kd ag n (gp_ch kd n d 1)).1 = 0
    · rw [if_pos c2]; exact IH 1 c2.1
    rw [if_neg c2]
    by_cases c3 : 2 < gp_ar (kd d) ∧ ¬ (gt_er kd ag n (gp_ch kd n d 2)).1 = 0
    · rw [if_pos c3]; exact IH 2 c3.1
    rw [if_neg c3]
    exact gt_e2_45
end
theorem gx_TI_iff {kd : Nat → Nat} {ag : Nat → Int32} {n tc : Nat} {P Q : Nat → Prop} {nt gb us : Nat → Int32} {T : gd_Tb} (h : ∀ d, Q d → P d) (I : gx_TI kd ag n P tc nt gb us T) : gx_TI kd ag n Q tc nt gb us T := ⟨I.1, fun d hd => I.2 d (h d hd)⟩
section
variable {f_derefLimit f_recordLimit f_frameLimit f_nodeCount f_currentStatus f_faultNode f_typeCount f_currentNode f_currentEnv f_returning f_returnedNumber f_frameCount f_lastOutcome f_lastValue f_derefsMade f_recordsMade : Int32} {a_nodeKind a_nodeArg a_expectedPlaces a_nodeAtPlace a_placeOfNode a_variablesSeen a_nodeType a_gradeOfBinder a_variableType a_usage a_typeKind a_typeGrade a_typeLeft a_typeRight a_frameMark a_frameWord a_frameEnv a_thunkNode a_thunkEnv a_restOfEnv a_binderOfRecord a_gradeOfRecord a_countOfRecord : Nat → Int32}
theorem gx_down {post : St2 → Prop} {kd : Nat → Nat} {n : Nat} (A : gt_P kd a_nodeArg n) (S : gx_S kd n a_nodeKind a_variablesSeen a_nodeAtPlace) (hPl : ∀ c, c < n → a_placeOfNode c = nI (gp_pl kd c)) :
    ∀ m t, n - t < m → t < n → ∀ (P : Nat → Prop) (tc : Nat) (nt gb vt us tk tg tl tr : Nat → Int32) (δ : Nat), gx_TI kd a_nodeArg n P tc nt gb us (tk, tg, tl, tr) →
      (∀ v, v < gp_sn kd t → ∃ x, x < tc ∧ vt v = nI x ∧ gd_D (tk, tg, tl, tr) x = gt_G kd a_nodeArg n t v) → (∀ d, P d → d < t) → tc + δ ≤ t →
      (¬ (gt_pe kd a_nodeArg n t).1 = 0 → ∀ tc nt gb vt us tk tg tl tr, post (f_derefLimit, f_recordLimit, f_frameLimit, nI n, nI (gt_pe kd a_nodeArg n t).1, nI (gt_pe kd a_nodeArg n t).2, tc, f_currentNode, f_currentEnv, f_returning, f_returnedNumber, f_frameCount, f_lastOutcome, f_lastValue, f_derefsMade, f_recordsMade, a_nodeKind, a_nodeArg, a_expectedPlaces, a_nodeAtPlace, a_placeOfNode, a_variablesSeen, nt, gb, vt, us, tk, tg, tl, tr, a_frameMark, a_frameWord, a_frameEnv, a_thunkNode, a_thunkEnv, a_restOfEnv, a_binderOfRecord, a_gradeOfRecord, a_countOfRecord)) →
      ((gt_pe kd a_nodeArg n t).1 = 0 → ∀ (tc' : Nat) (nt' gb' vt' us' tk' tg' tl' tr' : Nat → Int32), gx_TI kd a_nodeArg n (fun d => P d ∨ (t < d ∧ d < gp_en kd n t)) tc' nt' gb' us' (tk', tg', tl', tr') →
        (∀ v, v < gp_sn kd t → vt' v = vt v) → tc ≤ tc' → gd_ext (tk, tg, tl, tr) (tk', tg', tl', tr') tc → tc' + δ + 1 ≤ gp_en kd n t →
        ∀ f g lv, n < f + gp_en kd n t → lv + t + 1 ≤ gp_en kd n t → 34 ≤ g + lv → wX_checkTypesAndGrades_38 post (wX_checkTypesAndGrades_7 post f) (nI (gp_en kd n t - 1)) g (nI t) 1 (nI lv) f_derefLimit f_recordLimit f_frameLimit (nI n) 1 f_faultNode (nI tc') f_currentNode f_currentEnv f_returning f_returnedNumber f_frameCount f_lastOutcome f_lastValue f_derefsMade f_recordsMade a_nodeKind a_nodeArg a_expectedPlaces a_nodeAtPlace a_placeOfNode a_variablesSeen nt' gb' vt' us' tk' tg' tl' tr' a_frameMark a_frameWord a_frameEnv a_thunkNode a_thunkEnv a_restOfEnv a_binderOfRecord a_gradeOfRecord a_countOfRecord) →
      ∀ f, n < f + t → wX_checkTypesAndGrades_7 post f (nI t) f_derefLimit f_recordLimit f_frameLimit (nI n) 1 f_faultNode (nI tc) f_currentNode f_currentEnv f_returning f_returnedNumber f_frameCount f_lastOutcome f_lastValue f_derefsMade f_recordsMade a_nodeKind a_nodeArg a_expectedPlaces a_nodeAtPlace a_placeOfNode a_variablesSeen nt gb vt us tk tg tl tr a_frameMark a_frameWord a_frameEnv a_thunkNode a_thunkEnv a_restOfEnv a_binderOfRecord a_gradeOfRecord a_countOfRecord
  | 0, _, z, _ => by omega
  | m + 1, t, hm, ht => by
    intro P tc nt gb vt us tk tg tl tr δ I VI hP hδ hF hB f hf
    have hA := A
    obtain ⟨ok, so, kr, -⟩ := A
    have hn := ok.2.1
    have t32 : t < 32 := by omega
    have v := vp_in_nI t32 (by decide)
    have et : (nI t).toNatClampNeg = t := nI_clamp (by omega)
    have a3 := gp_ar_le (kd t)
    cases f with
    | zero => omega
    | succ f =>
    -- the children from slot j on
    have kids : ∀ r j, j + r = gp_ar (kd t) → 0 < r → (∀ i, i < j → (gt_er kd a_nodeArg n (gp_ch kd n t i)).1 = 0) → (0 < j → gt_e1 kd a_nodeArg n t = 0) →
        ∀ (tc1 : Nat) (nt1 gb1 vt1 us1 tk1 tg1 tl1 tr1 : Nat → Int32), gx_TI kd a_nodeArg n (fun d => P d ∨ (t < d ∧ d < gp_ch kd n t j)) tc1 nt1 gb1 us1 (tk1, tg1, tl1, tr1) →
        (∀ v, v < gp_sn kd t → vt1 v = vt v) → tc ≤ tc1 → gd_ext (tk, tg, tl, tr) (tk1, tg1, tl1, tr1) tc → tc1 + (δ + 1) ≤ gp_ch kd n t j →
        (∀ v, v < gp_sn kd (gp_ch kd n t j) → ∃ x, x < tc1 ∧ vt1 v = nI x ∧ gd_D (tk1, tg1, tl1, tr1) x = gt_G kd a_nodeArg n (gp_ch kd n t j) v) →
        ∀ f, n < f + gp_ch kd n t j → wX_checkTypesAndGrades_7 post f (nI (gp_ch kd n t j)) f_derefLimit f_recordLimit f_frameLimit (nI n) 1 f_faultNode (nI tc1) f_currentNode f_currentEnv f_returning f_returnedNumber f_frameCount f_lastOutcome f_lastValue f_derefsMade f_recordsMade a_nodeKind a_nodeArg a_expectedPlaces a_nodeAtPlace a_placeOfNode a_variablesSeen nt1 gb1 vt1 us1 tk1 tg1 tl1 tr1 a_frameMark a_frameWord a_frameEnv a_thunkNode a_thunkEnv a_restOfEnv a_binderOfRecord a_gradeOfRecord a_countOfRecord := by
      intro r
      induction r with
      | zero => intro j _ z; omega
      | succ r ih =>
        intro j hjr _ hp he tc1 nt1 gb1 vt1 us1 tk1 tg1 tl1 tr1 I1 hv1 htc1 hx1 hd1 VI1 f1 hf1
        have hj : j < gp_ar (kd t) := by omega
        obtain ⟨cn, cpl⟩ := gp_ch_lt ok ht hj
        have cge := gp_ch_ge ok ht (Nat.le_of_lt hj)
        obtain ⟨ce1, ce2⟩ := gp_en_lt ok cn
        have c32 : gp_ch kd n t j < 32 := by omega
        have es : gp_ch kd n t (j + 1) = gp_en kd n (gp_ch kd n t j) := rfl
        refine gx_down hA S hPl m (gp_ch kd n t j) (by omega) cn (fun d => P d ∨ (t < d ∧ d < gp_ch kd n t j)) tc1 nt1 gb1 vt1 us1 tk1 tg1 tl1 tr1 (δ + 1) I1 VI1
          (fun d hd => by rcases hd with hd | hd; have := hP d hd; omega; exact hd.2) hd1 (fun hpe => ?_) (fun hpe => ?_) f1 hf1
        · have e := gt_er_pe ok cn hpe
          have e2 := gt_pe_c ok so ht hj hp he (by rw [e]; exact hpe)
          rw [e] at e2
          rw [e2] at hF
          exact hF hpe
        · intro tc2 nt2 gb2 vt2 us2 tk2 tg2 tl2 tr2 I2 hv2 htc2 hx2 hd2 f2 g2 lv2 hf2 hlv2 hg2
          obtain ⟨er1, er2⟩ := gt_er_e2 ok cn hpe
          cases g2 with
          | zero => omega
          | succ g2 =>
          have x12 : gd_ext (tk, tg, tl, tr) (tk2, tg2, tl2, tr2) tc := gd_ext_t htc1 hx1 hx2
          refine br_f (nI_ge (b := 32) (by omega) (by decide)) (br_f (by decide) ?_)
          refine gx_complete hA S I2 cn (fun i hi => Or.inr ?_) (fun z => by rcases z with (z | z) | z; have := hP _ z; omega; omega; omega) (by omega) (fun w hw => ?_) (fun e0 => ?_) (fun e0 => ?_)
          · have b1 := gp_ch_ge ok cn (Nat.le_of_lt hi)
            have b2 := gt_mu_ch ok cn hi
            have b3 := (gp_ch_lt ok cn hi).1
            unfold gt_mu at b2
            have b4 := (gp_en_lt ok b3).1
            omega
          · obtain ⟨x, a1, a2, a4⟩ := VI1 w hw
            exact ⟨x, by omega, by rw [hv2 w hw]; exact a2, by rw [gd_ext_D I1.1 hx2 a1]; exact a4⟩
          · intro tc3 nt3 gb3 us3 tk3 tg3 tl3 tr3 I3 h31 h32 hx3
            try dsimp only
            rw [nI_clamp (show gp_ch kd n t j < 2 ^ 31 by omega), hPl _ cn, cpl]
            have e1 : nI (3 * t + j) / 3 = nI t := by
              rw [show nI (3 * t + j) / 3 = nI ((3 * t + j) / 3) from pk_div (by omega) (by decide) (by decide), show (3 * t + j) / 3 = t by omega]
            have e2 : nI (3 * t + j) - nI (3 * t + j) / 3 * 3 = nI j := by
              rw [show nI (3 * t + j) - nI (3 * t + j) / 3 * 3 = nI ((3 * t + j) % 3) from pk_rem (by omega) (by decide) (by decide), show (3 * t + j) % 3 = j by omega]
            refine ⟨vp_in_nI c32 (by decide), nm_e (br_t rfl (pk_eq (3 * t + j) 96 (fun z => by omega) (fun _ => ⟨by decide, nm_r e1 ⟨by decide, nm_r e2 ?_⟩⟩)))⟩
            have erj : (gt_er kd a_nodeArg n (gp_ch kd n t j)).1 = 0 := er1.trans e0
            have I3' : gx_TI kd a_nodeArg n (fun d => P d ∨ (t < d ∧ d < gp_ch kd n t (j + 1))) tc3 nt3 gb3 us3 (tk3, tg3, tl3, tr3) := gx_TI_iff (fun d hd => by
              rcases hd with hd | hd
              · exact Or.inl (Or.inl (Or.inl hd))
              · rw [es] at hd
                rcases Nat.lt_trichotomy d (gp_ch kd n t j) with y | y | y
                · exact Or.inl (Or.inl (Or.inr ⟨hd.1, y⟩))
                · exact Or.inr y
                · exact Or.inl (Or.inr ⟨y, hd.2⟩)) I3
            have VI3 : ∀ w, w < gp_sn kd t → ∃ x, x < tc3 ∧ vt2 w = nI x ∧ gd_D (tk3, tg3, tl3, tr3) x = gt_G kd a_nodeArg n t w := by
              intro w hw
              obtain ⟨x, a1, a2, a4⟩ := VI w hw
              have cs := gp_sn_ch ok ht hj
              refine ⟨x, by omega, by rw [hv2 w (by omega), hv1 w hw]; exact a2, ?_⟩
              rw [gd_ext_D I2.1 hx3 (by omega), gd_ext_D I1.1 hx2 (by omega), gd_ext_D I.1 hx1 a1]
              exact a4
            have c0 : (fun d => P d ∨ (t < d ∧ d < gp_ch kd n t (j + 1))) (gp_ch kd n t 0) := Or.inr ⟨by show t < t + 1; omega, by show t + 1 < _; omega⟩
            refine gx_prep hA S I3' ht hj c0 (by omega) VI3 he (fun h0 vt4 hv4 VI4 => ?_) (fun hj0 hne => ?_)
            · dsimp only
              rw [et, S.1 t ht]
              refine br_t rfl ⟨v, gx_cc (kr t ht).1 (kr t ht).2 ?_⟩
              rw [show nI (gp_ar (kd t)) - 1 = nI (gp_ar (kd t) - 1) from pk_sub (b := 1) (by omega)]
              have hp' : ∀ i, i < j + 1 → (gt_er kd a_nodeArg n (gp_ch kd n t i)).1 = 0 := fun i hi => by
                rcases Nat.lt_or_ge i j with y | y
                · exact hp i y
                · have : i = j := by omega
                  subst this
                  exact erj
              have hv5 : ∀ w, w < gp_sn kd t → vt4 w = vt w := fun w hw => by
                have cs := gp_sn_ch ok ht hj
                rw [hv4 w hw, hv2 w (by omega), hv1 w hw]
              have x13 : gd_ext (tk, tg, tl, tr) (tk3, tg3, tl3, tr3) tc := gd_ext_t (by omega) x12 hx3
              refine pk_eq j (gp_ar (kd t) - 1) (fun z => nm_r (nI_1 lv2) ?_) (fun z => nm_r (nI_1 lv2) ?_)
              · have hj1 : j + 1 = gp_ar (kd t) := by omega
                have een : gp_en kd n t = gp_en kd n (gp_ch kd n t j) := by rw [gp_en_ch ok ht, ← hj1]; rfl
                rw [← een]
                refine hB (gt_pe_0 (fun i hi => hp' i (by omega)) h0) tc3 nt3 gb3 vt4 us3 tk3 tg3 tl3 tr3 ?_ hv5 (by omega) x13 (by omega) f2 g2 (lv2 + 1) (by omega) (by omega) (by omega)
                rw [hj1, ← gp_en_ch ok ht] at I3'
                exact I3'
              · cases g2 with
                | zero => omega
                | succ g2 =>
                have go := ih (j + 1) (by omega) (by omega) hp' (fun _ => h0) tc3 nt3 gb3 vt4 us3 tk3 tg3 tl3 tr3 I3' hv5 (by omega) x13 (by rw [es]; omega) (VI4 (by omega)) f2 (by rw [es]; omega)
                have el : nI (gp_en kd n (gp_ch kd n t j) - 1) + 1 = nI (gp_ch kd n t (j + 1)) := by rw [nI_1, es, show gp_en kd n (gp_ch kd n t j) - 1 + 1 = gp_en kd n (gp_ch kd n t j) by omega]
                exact br_c (fun _ => nm_r el go) (fun _ => br_t rfl (nm_r el go))
            · have e := gt_pe_1 ok ht (by omega) (by subst hj0; exact erj) hne
              rw [e] at hF
              have h4 : gt_e1 kd a_nodeArg n t = 4 := by rcases gt_e1_4 (kd := kd) (ag := a_nodeArg) (n := n) (d := t) with y | y; exact absurd y hne; exact y
              rw [h4] at hF
              exact br_f (show ¬ (4 : Int32) = 1 by decide) (hF (show ¬ (4 : Nat) = 0 by decide) _ _ _ _ _ _ _ _ _)
          · intro tc3 nt3 gb3 us3 tk3 tg3 tl3 tr3
            try dsimp only
            have e := er2 e0
            have e2 := gt_pe_c ok so ht hj hp he (by rw [e]; exact e0)
            rw [e2, e] at hF
            have ne1 : ¬ nI (gt_e2 kd a_nodeArg n (gp_ch kd n t j)) = 1 := by
              rcases gt_e2_45 (kd := kd) (ag := a_nodeArg) (n := n) (d := gp_ch kd n t j) with y | y | y
              · exact absurd y e0
              · rw [y]; decide
              · rw [y]; decide
            rw [nI_clamp (show gp_ch kd n t j < 2 ^ 31 by omega)]
            exact ⟨vp_in_nI c32 (by decide), nm_e (br_f ne1 (hF e0 _ _ _ _ _ _ _ _ _))⟩
    refine br_f (nI_ge ht (by omega)) ⟨v, ?_⟩
    rw [et, S.1 t ht]
    refine gx_cc (kr t ht).1 (kr t ht).2 (pk_eq (gp_ar (kd t)) 0 (fun z => ⟨34, ?_⟩) (fun z => ⟨1, ?_⟩))
    · have een : gp_en kd n t = t + 1 := by rw [gp_en_ch ok ht, z]; rfl
      have e1z : gt_e1 kd a_nodeArg n t = 0 := gt_if_f (by
        rintro (⟨y, _⟩ | ⟨y, _⟩ | ⟨y, _⟩)
        · rw [y] at z; exact absurd z (by decide)
        · rw [y] at z; exact absurd z (by decide)
        · rw [y] at z; exact absurd z (by decide))
      have := hB (gt_pe_0 (fun i hi => by omega) e1z) tc nt gb vt us tk tg tl tr (gx_TI_iff (fun d hd => by
        rcases hd with hd | hd
        · exact hd
        · omega) I) (fun _ _ => rfl) (Nat.le_refl _) (gd_ext_r _ _) (by omega) f 34 0 (by omega) (by omega) (by omega)
      rw [een, Nat.add_sub_cancel] at this
      exact this
    · refine br_f (by decide) (br_t rfl (nm_r (nI_1 t) ?_))
      refine kids (gp_ar (kd t)) 0 (by omega) (by omega) (fun i hi => by omega) (fun y => by omega) tc nt gb vt us tk tg tl tr (gx_TI_iff (fun d hd => by
        rcases hd with hd | hd
        · exact hd
        · have : gp_ch kd n t 0 = t + 1 := rfl
          omega) I) (fun _ _ => rfl) (Nat.le_refl _) (gd_ext_r _ _) (by show tc + (δ + 1) ≤ t + 1; omega) (fun w hw => ?_) f (by show n < f + (t + 1); omega)
      have cs := gp_sn_ch ok ht (j := 0) (by omega)
      rw [gp_bd_0] at cs
      rw [gt_G_up ok ht (by omega) (by omega)]
      exact VI w (by omega)
end

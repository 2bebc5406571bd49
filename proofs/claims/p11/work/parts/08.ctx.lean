/-- the variables of t have types small enough for all that stands below t -/
def gs_K (kd : Nat → Nat) (ag : Nat → Int32) (n t : Nat) : Prop := ∃ H M, gs_C kd ag n t H M ∧ M * gs_F (gp_sz kd n t) ≤ gs_F 32 ∧ H + gp_sz kd n t ≤ 32
theorem gs_K_0 {kd : Nat → Nat} {ag : Nat → Int32} {n : Nat} (h : gp_ok kd n) : gs_K kd ag n 0 := by
  have s := gp_sz_le h h.1
  refine ⟨0, 1, ⟨Nat.le_refl _, fun v hv => ?_⟩, ?_, by omega⟩
  · rw [gp_sn_0] at hv; omega
  · rw [Nat.one_mul]; exact gs_Fm s.1 (Nat.le_refl _)
theorem gs_K_fit {kd : Nat → Nat} {ag : Nat → Int32} {n t : Nat} (h : gt_P kd ag n) (ht : t < n) (hk : ¬ kd t ≤ 5) (k : gs_K kd ag n t) (he : (gt_er kd ag n t).1 = 0) : gs_fit 32 (gs_F 32) (gt_t kd ag n t) := by
  obtain ⟨H, M, c, a, b⟩ := k
  exact gs_mono b a (gs_bd h _ t H M (Nat.lt_succ_self _) ht hk he c)
theorem gs_K_ty {kd : Nat → Nat} {ag : Nat → Int32} {n t : Nat} (h : gt_P kd ag n) (ht : t < n) (hk : kd t ≤ 5) : gs_fit 32 (gs_F 32) (gt_t kd ag n t) := by
  have s := gp_sz_le h.1 ht
  have f := gs_Fn s.1
  have g := gs_Fm s.1 (Nat.le_refl 32)
  exact gs_mono s.1 (by omega) (gs_ty h _ t (Nat.lt_succ_self _) ht hk)
theorem gs_K_ch {kd : Nat → Nat} {ag : Nat → Int32} {n t j : Nat} (h : gt_P kd ag n) (ht : t < n) (hk : ¬ kd t ≤ 5) (k : gs_K kd ag n t) (hj : j < gp_ar (kd t))
    (he : 0 < j → (gt_er kd ag n (gp_ch kd n t 0)).1 = 0 ∧ gt_e1 kd ag n t = 0) : gs_K kd ag n (gp_ch kd n t j) := by
  have hP := h
  obtain ⟨ok, so, kr, -⟩ := h
  obtain ⟨H, M, c, hF, hH⟩ := k
  have k17 := (kr t ht).2
  have hM := c.1
  have sl := gp_sz_le ok ht
  have h3 := gp_ar_le (kd t)
  have hM1 : ∀ x y : Nat, x ≤ y → M * x ≤ M * y := fun x y z => Nat.mul_le_mul_left M z
  have hMp : ∀ x : Nat, x ≤ M * x := fun x => Nat.le_mul_of_pos_left x hM
  have szj : gp_sz kd n (gp_ch kd n t j) ≤ gp_sz kd n t ∧ (0 < j → gp_sz kd n (gp_ch kd n t 0) + gp_sz kd n (gp_ch kd n t j) + 1 ≤ gp_sz kd n t ∧ 1 ≤ gp_sz kd n (gp_ch kd n t 0) ∧ 1 ≤ gp_sz kd n (gp_ch kd n t j)) := by
    have : gp_ar (kd t) = 1 ∨ gp_ar (kd t) = 2 ∨ gp_ar (kd t) = 3 := by omega
    rcases this with a | a | a
    · have s := gp_sz_1 ok ht a
      have : j = 0 := by omega
      subst this
      exact ⟨by omega, fun z => by omega⟩
    · have s := gp_sz_2 ok ht a
      have : j = 0 ∨ j = 1 := by omega
      rcases this with rfl | rfl
      · exact ⟨by omega, fun z => by omega⟩
      · exact ⟨by omega, fun z => by omega⟩
    · have s := gp_sz_3 ok ht a
      have : j = 0 ∨ j = 1 ∨ j = 2 := by omega
      rcases this with rfl | rfl | rfl
      · exact ⟨by omega, fun z => by omega⟩
      · exact ⟨by omega, fun z => by omega⟩
      · exact ⟨by omega, fun z => by omega⟩
  by_cases hb : gp_bd (kd t) j = 0
  · refine ⟨H, M, gs_C_up ok ht hj c (Nat.le_refl _) (Nat.le_refl _) (fun w hw => by omega), Nat.le_trans (hM1 _ _ (gs_Fm szj.1 sl.1)) hF, by omega⟩
  · have j0 : 0 < j := by
      rcases Nat.eq_zero_or_pos j with z | z
      · rw [z, gp_bd_0] at hb; exact absurd rfl hb
      · exact z
    have kb : kd t = 9 ∨ kd t = 12 ∨ kd t = 15 ∨ kd t = 17 := by
      unfold gp_bd at hb
      rw [if_neg (by omega)] at hb
      by_cases z : kd t = 12
      · exact Or.inr (Or.inl z)
      · rw [if_neg z] at hb
        by_cases y : kd t = 9 ∨ kd t = 15 ∨ kd t = 17
        · omega
        · rw [if_neg y] at hb; exact absurd rfl hb
    obtain ⟨er0, e1⟩ := he j0
    have x1 := gt_e1_0 e1
    obtain ⟨s1, s2, s3⟩ := szj.2 j0
    have ar2 : 1 < gp_ar (kd t) := by omega
    have c0n := (gp_ch_lt ok ht (j := 0) (by omega)).1
    by_cases k9 : kd t = 9
    · have f0 := gs_ty hP _ _ (Nat.lt_succ_self _) c0n (gp_ty_c0 ok so ht (Or.inl k9))
      have p := hMp (gp_sz kd n (gp_ch kd n t 0))
      refine ⟨H + gp_sz kd n (gp_ch kd n t 0), M * gp_sz kd n (gp_ch kd n t 0), gs_C_up ok ht hj c (by omega) (Nat.le_mul_of_pos_right M (by omega)) (fun w _ => by
          rw [k9]; exact gs_mono (by omega) p f0), ?_, by omega⟩
      have fl := hM1 _ _ (gs_FL s2 s3 (by omega))
      have fm := hM1 _ _ (gs_Fm s1 sl.1)
      generalize gp_sz kd n (gp_ch kd n t 0) = a at *
      generalize gp_sz kd n (gp_ch kd n t j) = b at *
      have q : M * (1 + a + gs_F b * a) = M + M * a + M * a * gs_F b := by grind
      omega
    · have c6 := gp_tm_ch ok so ht hk (j := 0) (by omega) (by omega)
      have C0 : gs_C kd ag n (gp_ch kd n t 0) H M := gs_C_up ok ht (by omega) c (Nat.le_refl _) (Nat.le_refl _) (fun w hw => by rw [gp_bd_0] at hw; omega)
      have f0 := gs_bd hP _ _ H M (Nat.lt_succ_self _) c0n c6 er0 C0
      have fp := gs_Fn (a := gp_sz kd n (gp_ch kd n t 0)) (by omega)
      have fl := hM1 _ _ (gs_FM s2 s3 (by omega))
      have fm := hM1 _ _ (gs_Fm s1 sl.1)
      have nk1 : ¬ gt_k (gt_t kd ag n (gp_ch kd n t 0)) = 1 := by
        rcases kb with e | e | e | e
        · exact absurd e k9
        · rw [x1.1 e]; decide
        · rw [x1.2.1 e]; decide
        · rw [x1.2.2 e]; decide
      have fL := gs_l nk1 f0
      refine ⟨H + gp_sz kd n (gp_ch kd n t 0), M * gs_F (gp_sz kd n (gp_ch kd n t 0)), gs_C_up ok ht hj c (by omega) (Nat.le_mul_of_pos_right M (by omega)) (fun w _ => ?_), ?_, by omega⟩
      · rcases kb with e | e | e | e
        · exact absurd e k9
        · have fR := gs_r nk1 (by rw [x1.1 e]; decide) f0
          rw [e]
          show gs_fit _ _ (if w = 0 then gt_l _ else gt_r _)
          by_cases z : w = 0
          · rw [if_pos z]; exact fL
          · rw [if_neg z]; exact fR
        · have fR := gs_r nk1 (by rw [x1.2.1 e]; decide) f0
          rw [e]
          show gs_fit _ _ (if j = 1 then gt_l _ else gt_r _)
          by_cases z : j = 1
          · rw [if_pos z]; exact fL
          · rw [if_neg z]; exact fR
        · rw [e]; exact fL
      · rw [Nat.mul_assoc]
        exact Nat.le_trans fl (Nat.le_trans fm hF)
/-! usages and grades are ZERO, ONE or MANY -/
theorem gt_u_le {kd : Nat → Nat} {ag : Nat → Int32} {n : Nat} (h : gt_P kd ag n) (v : Nat) : ∀ m d, n - d < m → d < n → ¬ kd d ≤ 5 → gt_u kd ag n d v ≤ 2
  | 0, _, z, _, _ => by omega
  | m + 1, d, hm, hd, hk => by
    have hP := h
    obtain ⟨ok, so, kr, -⟩ := h
    have k17 := (kr d hd).2
    have IH : 1 < gp_ar (kd d) → gt_u kd ag n (gp_ch kd n d 1) v ≤ 2 := by
      intro hj
      have a := (gp_ch_lt ok hd hj).1
      have b := gp_ch_ge ok hd (Nat.le_of_lt hj)
      exact gt_u_le hP v m _ (by omega) a (gp_tm_ch ok so hd hk hj (by omega))
    have hcase : kd d = 6 ∨ kd d = 7 ∨ kd d = 8 ∨ kd d = 9 ∨ kd d = 10 ∨ kd d = 11 ∨ kd d = 12 ∨ kd d = 13 ∨ kd d = 14 ∨ kd d = 15 ∨ kd d = 16 ∨ kd d = 17 := by omega
    unfold gt_u
    rcases hcase with e | e | e | e | e | e | e | e | e | e | e | e
    · rw [gt_q6 ok hd e (gt_P_lv hP hd e)]
      show (if v = _ then 1 else 0) ≤ 2
      split <;> omega
    · rw [gt_q7 ok hd e]; exact Nat.zero_le _
    · rw [gt_q8 ok hd e]; exact gt_add_le _ _
    · rw [gt_q9 ok hd e]; exact IH (by rw [e]; decide)
    · rw [gt_q10 ok hd e]; exact gt_add_le _ _
    · rw [gt_q11 ok hd e]; exact gt_add_le _ _
    · rw [gt_q12 ok hd e]; exact gt_add_le _ _
    · rw [gt_q13 ok hd e]; exact IH (by rw [e]; decide)
    · rw [gt_q14 ok hd e]; exact IH (by rw [e]; decide)
    · rw [gt_q15 ok hd e]; exact gt_add_le _ _
    · rw [gt_q16 ok hd e]; exact gt_mul_le _ _
    · rw [gt_q17 ok hd e]; exact gt_add_le _ _
/-- every label of a type is a kind and a grade -/
def gt_wf (τ : gt_Ty) : Prop := ∀ p k g, τ p = some (k, g) → (∃ i, 1 ≤ i ∧ i ≤ 5 ∧ k = nI i) ∧ ∃ m, m ≤ 2 ∧ g = nI m
theorem gt_wf_l {τ : gt_Ty} (h : gt_wf τ) : gt_wf (gt_l τ) := fun p => h (false :: p)
theorem gt_wf_r {τ : gt_Ty} (h : gt_wf τ) : gt_wf (gt_r τ) := fun p => h (true :: p)
theorem gt_wf_n : gt_wf (fun _ => none) := fun _ _ _ e => nomatch e
theorem gt_wf_mk {i m : Nat} {l r : gt_Ty} (h1 : 1 ≤ i) (h5 : i ≤ 5) (hm : m ≤ 2) (hl : gt_wf l) (hr : gt_wf r) : gt_wf (gt_mk (nI i) (nI m) l r) := by
  intro p k g e
  match p with
  | [] =>
    have := Option.some.inj e
    exact ⟨⟨i, h1, h5, (congrArg Prod.fst this).symm⟩, ⟨m, hm, (congrArg Prod.snd this).symm⟩⟩
  | false :: p =>
    have e' : (if nI i = 1 then none else l p) = some (k, g) := e
    by_cases z : nI i = 1
    · rw [if_pos z] at e'; exact nomatch e'
    · rw [if_neg z] at e'; exact hl p k g e'
  | true :: p =>
    have e' : (if nI i = 1 then none else if nI i = 5 then none else r p) = some (k, g) := e
    by_cases z : nI i = 1
    · rw [if_pos z] at e'; exact nomatch e'
    · rw [if_neg z] at e'
      by_cases y : nI i = 5
      · rw [if_pos y] at e'; exact nomatch e'
      · rw [if_neg y] at e'; exact hr p k g e'
theorem gt_wf_nv {k j w : Nat} {τ : gt_Ty} (h : gt_wf τ) : gt_wf (gt_nv k j w τ) := by
  unfold gt_nv
  split
  · exact h
  · split
    · split
      · exact gt_wf_l h
      · exact gt_wf_r h
    · split
      · split
        · exact gt_wf_l h
        · exact gt_wf_r h
      · exact gt_wf_l h
theorem gt_wf_g {τ : gt_Ty} (h : gt_wf τ) : ∃ m, m ≤ 2 ∧ gt_g τ = nI m := by
  unfold gt_g
  cases e : τ [] with
  | none => exact ⟨0, by omega, rfl⟩
  | some x =>
    obtain ⟨k, g⟩ := x
    exact (h [] k g e).2
theorem gt_t_wf {kd : Nat → Nat} {ag : Nat → Int32} {n : Nat} (h : gt_P kd ag n) : ∀ m d, gt_mu kd n d < m → d < n → gt_wf (gt_t kd ag n d)
  | 0, _, z, _ => by omega
  | m + 1, d, hm, hd => by
    have hP := h
    obtain ⟨ok, so, kr, sc, a2, a3, a0⟩ := h
    have k1 := (kr d hd).1
    have k17 := (kr d hd).2
    have IH : ∀ j, j < gp_ar (kd d) → gt_wf (gt_t kd ag n (gp_ch kd n d j)) := by
      intro j hj
      have a := (gp_ch_lt ok hd hj).1
      have b := gt_mu_ch ok hd hj
      exact gt_t_wf hP m _ (by omega) a
    have hcase : (kd d = 1 ∨ kd d = 2 ∨ kd d = 3 ∨ kd d = 4 ∨ kd d = 5) ∨ kd d = 6 ∨ kd d = 7 ∨ kd d = 8 ∨ kd d = 9 ∨ kd d = 10 ∨ kd d = 11 ∨ kd d = 12 ∨ kd d = 13 ∨ kd d = 14 ∨ kd d = 15 ∨ kd d = 16 ∨ kd d = 17 := by omega
    rcases hcase with (e | e | e | e | e) | e | e | e | e | e | e | e | e | e | e | e | e
    · rw [gt_q1 e (fun _ => none) (fun _ => none), a0 d hd (by omega)]
      exact gt_wf_mk (i := 1) (m := 0) (by omega) (by omega) (by omega) gt_wf_n gt_wf_n
    · rw [gt_q2 ok hd e, a0 d hd (by omega)]
      exact gt_wf_mk (i := 2) (m := 0) (by omega) (by omega) (by omega) (IH 0 (by rw [e]; decide)) (IH 1 (by rw [e]; decide))
    · rw [gt_q3 ok hd e, a0 d hd (by omega)]
      exact gt_wf_mk (i := 3) (m := 0) (by omega) (by omega) (by omega) (IH 0 (by rw [e]; decide)) (IH 1 (by rw [e]; decide))
    · obtain ⟨g, hg, eg⟩ := a2 d hd (by omega)
      rw [gt_q4 ok hd e, eg]
      exact gt_wf_mk (i := 4) (by omega) (by omega) hg (IH 0 (by rw [e]; decide)) (IH 1 (by rw [e]; decide))
    · obtain ⟨g, hg, eg⟩ := a2 d hd (by omega)
      rw [gt_q5 ok hd e (fun _ => none), eg]
      exact gt_wf_mk (i := 5) (by omega) (by omega) hg (IH 0 (by rw [e]; decide)) gt_wf_n
    · have hv := gt_P_lv hP hd e
      have b := gt_mu_lc ok hd hv
      have l := gp_lc_sp ok hd hv
      rw [gt_t6 ok hd e hv]
      exact gt_wf_nv (gt_t_wf hP m _ (by omega) (gp_ch_lt ok (by omega) (by omega)).1)
    · rw [gt_t7 ok hd e]
      exact gt_wf_mk (i := 1) (m := 0) (by omega) (by omega) (by omega) gt_wf_n gt_wf_n
    · rw [gt_t8 ok hd e]
      exact IH 0 (by rw [e]; decide)
    · have ar : 1 < gp_ar (kd d) := by rw [e]; decide
      have ul := gt_u_le hP (gp_sn kd d) _ _ (Nat.lt_succ_self _) (gp_ch_lt ok hd ar).1 (gp_tm_ch ok so hd (by omega) ar (by omega))
      rw [gt_t9 ok hd e]
      exact gt_wf_mk (i := 4) (by omega) (by omega) (gt_se_le (a3 d hd (by omega)) ul) (IH 0 (by rw [e]; decide)) (IH 1 (by rw [e]; decide))
    · rw [gt_t10 ok hd e]
      exact gt_wf_r (IH 0 (by rw [e]; decide))
    · rw [gt_t11 ok hd e]
      exact gt_wf_mk (i := 2) (m := 0) (by omega) (by omega) (by omega) (IH 0 (by rw [e]; decide)) (IH 1 (by rw [e]; decide))
    · rw [gt_t12 ok hd e]
      exact IH 1 (by rw [e]; decide)
    · rw [gt_t13 ok hd e]
      exact gt_wf_mk (i := 3) (m := 0) (by omega) (by omega) (by omega) (IH 1 (by rw [e]; decide)) (IH 0 (by rw [e]; decide))
    · rw [gt_t14 ok hd e]
      exact gt_wf_mk (i := 3) (m := 0) (by omega) (by omega) (by omega) (IH 0 (by rw [e]; decide)) (IH 1 (by rw [e]; decide))
    · rw [gt_t15 ok hd e]
      exact IH 1 (by rw [e]; decide)
    · obtain ⟨g, hg, eg⟩ := a2 d hd (by omega)
      rw [gt_t16 ok hd e, eg]
      exact gt_wf_mk (i := 5) (by omega) (by omega) hg (IH 0 (by rw [e]; decide)) gt_wf_n
    · rw [gt_t17 ok hd e]
      exact IH 1 (by rw [e]; decide)
theorem gt_twf {kd : Nat → Nat} {ag : Nat → Int32} {n d : Nat} (h : gt_P kd ag n) (hd : d < n) : gt_wf (gt_t kd ag n d) := gt_t_wf h _ d (Nat.lt_succ_self _) hd
theorem gt_ule {kd : Nat → Nat} {ag : Nat → Int32} {n d : Nat} (h : gt_P kd ag n) (hd : d < n) (hk : ¬ kd d ≤ 5) (v : Nat) : gt_u kd ag n d v ≤ 2 := gt_u_le h v _ d (Nat.lt_succ_self _) hd hk

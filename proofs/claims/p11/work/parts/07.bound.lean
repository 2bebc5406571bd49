theorem gt_if_0 {P : Prop} {a b : Nat} (ha : ¬ a = 0) (h : gt_if P a b = 0) : ¬ P ∧ b = 0 := by
  by_cases z : P
  · rw [gt_if_t z] at h; exact absurd h ha
  · rw [gt_if_f z] at h; exact ⟨z, h⟩
theorem gt_e1_0 {kd : Nat → Nat} {ag : Nat → Int32} {n d : Nat} (h : gt_e1 kd ag n d = 0) : (kd d = 12 → gt_k (gt_t kd ag n (gp_ch kd n d 0)) = 2) ∧ (kd d = 15 → gt_k (gt_t kd ag n (gp_ch kd n d 0)) = 3) ∧ (kd d = 17 → gt_k (gt_t kd ag n (gp_ch kd n d 0)) = 5) := by
  have z := (gt_if_0 (by decide) h).1
  refine ⟨fun e => Classical.byContradiction fun y => z (Or.inl ⟨e, y⟩), fun e => Classical.byContradiction fun y => z (Or.inr (Or.inl ⟨e, y⟩)), fun e => Classical.byContradiction fun y => z (Or.inr (Or.inr ⟨e, y⟩))⟩
theorem gt_e2_0 {kd : Nat → Nat} {ag : Nat → Int32} {n d : Nat} (h : gt_e2 kd ag n d = 0) :
    (kd d = 8 → gt_k (gt_t kd ag n (gp_ch kd n d 0)) = 1 ∧ gt_k (gt_t kd ag n (gp_ch kd n d 1)) = 1) ∧
    (kd d = 10 → gt_k (gt_t kd ag n (gp_ch kd n d 0)) = 4 ∧ gt_l (gt_t kd ag n (gp_ch kd n d 0)) = gt_t kd ag n (gp_ch kd n d 1)) ∧
    (kd d = 15 → gt_t kd ag n (gp_ch kd n d 1) = gt_t kd ag n (gp_ch kd n d 2)) ∧
    ((kd d = 9 ∨ kd d = 12 ∨ kd d = 15) → ag d = 3 ∨ gt_nd kd ag n d ≤ (ag d).toNatClampNeg) ∧
    (kd d = 17 → gt_nd kd ag n d ≤ (gt_g (gt_t kd ag n (gp_ch kd n d 0))).toNatClampNeg) := by
  obtain ⟨z, h2⟩ := gt_if_0 (by decide) h
  have y := (gt_if_0 (by decide) h2).1
  refine ⟨fun e => Classical.byContradiction fun x => z (Or.inl ⟨e, x⟩), fun e => Classical.byContradiction fun x => z (Or.inr (Or.inl ⟨e, x⟩)), fun e => Classical.byContradiction fun x => z (Or.inr (Or.inr ⟨e, x⟩)), fun e => ?_, fun e => ?_⟩
  · by_cases a : ag d = 3
    · exact Or.inl a
    · refine Or.inr (Nat.le_of_not_lt fun x => y (Or.inl ⟨e, a, x⟩))
  · exact Nat.le_of_not_lt fun x => y (Or.inr ⟨e, x⟩)
theorem gp_ty_ch {kd : Nat → Nat} {n t j : Nat} (h : gp_ok kd n) (hs : gp_so kd n) (ht : t < n) (hk : kd t ≤ 5) (hj : j < gp_ar (kd t)) : kd (gp_ch kd n t j) ≤ 5 := by
  have a := gp_so_ch h hs ht hj
  unfold gp_srt gp_cs at a
  rw [if_pos hk] at a
  by_cases z : kd (gp_ch kd n t j) ≤ 5
  · exact z
  · rw [if_neg z] at a; omega
theorem gp_ty_c0 {kd : Nat → Nat} {n t : Nat} (h : gp_ok kd n) (hs : gp_so kd n) (ht : t < n) (hk : kd t = 9 ∨ kd t = 13 ∨ kd t = 14) : kd (gp_ch kd n t 0) ≤ 5 := by
  have a := gp_so_ch h hs ht (j := 0) (by rcases hk with e | e | e <;> rw [e] <;> decide)
  unfold gp_srt gp_cs at a
  rw [if_neg (show ¬ kd t ≤ 5 by omega), if_pos (show (kd t = 9 ∨ kd t = 13 ∨ kd t = 14) ∧ 0 = 0 from ⟨hk, rfl⟩)] at a
  by_cases z : kd (gp_ch kd n t 0) ≤ 5
  · exact z
  · rw [if_neg z] at a; omega
theorem gp_tm_ch {kd : Nat → Nat} {n t j : Nat} (h : gp_ok kd n) (hs : gp_so kd n) (ht : t < n) (hk : ¬ kd t ≤ 5) (hj : j < gp_ar (kd t)) (hz : ¬ ((kd t = 9 ∨ kd t = 13 ∨ kd t = 14) ∧ j = 0)) : ¬ kd (gp_ch kd n t j) ≤ 5 := by
  have a := gp_so_ch h hs ht hj
  unfold gp_srt gp_cs at a
  rw [if_neg hk, if_neg hz] at a
  intro z
  rw [if_pos z] at a; omega
theorem gs_ty {kd : Nat → Nat} {ag : Nat → Int32} {n : Nat} (h : gt_P kd ag n) : ∀ m t, n - t < m → t < n → kd t ≤ 5 → gs_fit (gp_sz kd n t) (gp_sz kd n t) (gt_t kd ag n t)
  | 0, _, z, _, _ => by omega
  | m + 1, t, hm, ht, hk => by
    have hP := h
    obtain ⟨ok, so, kr, _⟩ := h
    have IH : ∀ j, j < gp_ar (kd t) → gs_fit (gp_sz kd n (gp_ch kd n t j)) (gp_sz kd n (gp_ch kd n t j)) (gt_t kd ag n (gp_ch kd n t j)) := by
      intro j hj
      have a := (gp_ch_lt ok ht hj).1
      have b := gp_ch_ge ok ht (Nat.le_of_lt hj)
      exact gs_ty hP m _ (by omega) a (gp_ty_ch ok so ht hk hj)
    have k1 := (kr t ht).1
    have hk' : kd t = 1 ∨ kd t = 5 ∨ kd t = 2 ∨ kd t = 3 ∨ kd t = 4 := by omega
    rcases hk' with e | e | e
    · have s := gp_sz_le ok ht
      exact gs_1 (by rw [gt_q1 e (fun _ => none) (fun _ => none)]; rfl) s.2 s.2
    · have s := gp_sz_1 ok ht (by rw [e]; decide)
      rw [s.1]
      refine gs_5 (by rw [gt_q5 ok ht e (fun _ => none)]; rfl) ?_
      rw [gt_q5 ok ht e (fun _ => none), gt_mk_l (by decide)]
      exact IH 0 (by rw [e]; decide)
    · have ha : gp_ar (kd t) = 2 := by rcases e with e | e | e <;> rw [e] <;> decide
      have s := gp_sz_2 ok ht ha
      have q : gt_l (gt_t kd ag n t) = gt_t kd ag n (gp_ch kd n t 0) ∧ gt_r (gt_t kd ag n t) = gt_t kd ag n (gp_ch kd n t 1) := by
        rcases e with e | e | e
        · rw [gt_q2 ok ht e]; exact ⟨gt_mk_l (by decide), gt_mk_r (by decide) (by decide)⟩
        · rw [gt_q3 ok ht e]; exact ⟨gt_mk_l (by decide), gt_mk_r (by decide) (by decide)⟩
        · rw [gt_q4 ok ht e]; exact ⟨gt_mk_l (by decide), gt_mk_r (by decide) (by decide)⟩
      have i0 := IH 0 (by omega)
      have i1 := IH 1 (by omega)
      rw [← q.1] at i0
      rw [← q.2] at i1
      rw [s.1]
      exact gs_mono (h := (gp_sz kd n (gp_ch kd n t 0) + gp_sz kd n (gp_ch kd n t 1)) + 1) (Nat.le_refl _) (Nat.le_refl _)
        (gs_2 (gs_mono (by omega) (Nat.le_refl _) i0) (gs_mono (by omega) (Nat.le_refl _) i1))
theorem gs_bd {kd : Nat → Nat} {ag : Nat → Int32} {n : Nat} (h : gt_P kd ag n) : ∀ m t H M, n - t < m → t < n → ¬ kd t ≤ 5 → (gt_er kd ag n t).1 = 0 → gs_C kd ag n t H M → gs_fit (H + gp_sz kd n t) (M * gs_F (gp_sz kd n t)) (gt_t kd ag n t)
  | 0, _, _, _, z, _, _, _, _ => by omega
  | m + 1, t, H, M, hm, ht, hk, he, hc => by
    have hP := h
    obtain ⟨ok, so, kr, -⟩ := h
    obtain ⟨er, e1, e2⟩ := gt_er_ok ok ht hk he
    have x1 := gt_e1_0 e1
    have x2 := gt_e2_0 e2
    have hM := hc.1
    have sl := gp_sz_le ok ht
    have IH : ∀ j H' M', j < gp_ar (kd t) → ¬ kd (gp_ch kd n t j) ≤ 5 → gs_C kd ag n (gp_ch kd n t j) H' M' →
        gs_fit (H' + gp_sz kd n (gp_ch kd n t j)) (M' * gs_F (gp_sz kd n (gp_ch kd n t j))) (gt_t kd ag n (gp_ch kd n t j)) := by
      intro j H' M' hj h5 c
      have a := (gp_ch_lt ok ht hj).1
      have b := gp_ch_ge ok ht (Nat.le_of_lt hj)
      exact gs_bd hP m _ H' M' (by omega) a h5 (er j hj) c
    have IT : ∀ j, j < gp_ar (kd t) → kd (gp_ch kd n t j) ≤ 5 → gs_fit (gp_sz kd n (gp_ch kd n t j)) (gp_sz kd n (gp_ch kd n t j)) (gt_t kd ag n (gp_ch kd n t j)) := by
      intro j hj h5
      have a := (gp_ch_lt ok ht hj).1
      exact gs_ty hP _ _ (Nat.lt_succ_self _) a h5
    have C0 : ∀ j, j < gp_ar (kd t) → gp_bd (kd t) j = 0 → gs_C kd ag n (gp_ch kd n t j) H M :=
      fun j hj hb => gs_C_up ok ht hj hc (Nat.le_refl _) (Nat.le_refl _) (fun w hw => by omega)
    have k17 := (kr t ht).2
    have hM1 : ∀ x y : Nat, x ≤ y → M * x ≤ M * y := fun x y z => Nat.mul_le_mul_left M z
    have hMp : ∀ x : Nat, x ≤ M * x := fun x => Nat.le_mul_of_pos_left x hM
    have hcase : kd t = 6 ∨ kd t = 7 ∨ kd t = 8 ∨ kd t = 9 ∨ kd t = 10 ∨ kd t = 11 ∨ kd t = 12 ∨ kd t = 13 ∨ kd t = 14 ∨ kd t = 15 ∨ kd t = 16 ∨ kd t = 17 := by omega
    rcases hcase with e | e | e | e | e | e | e | e | e | e | e | e
    · have s := gp_sz_0 ok ht (by rw [e]; decide)
      have hv := gt_P_lv hP ht e
      rw [gt_t6 ok ht e hv, s]
      exact gs_mono (by omega) (by show M ≤ M * 1; omega) (hc.2 _ hv)
    · have s := hMp (gs_F (gp_sz kd n t))
      have s2 := gs_Fn sl.1
      rw [gt_t7 ok ht e]
      exact gs_1 rfl (by omega) (by omega)
    · have s := hMp (gs_F (gp_sz kd n t))
      have s2 := gs_Fn sl.1
      have y := (x2.1 e).1
      rw [gt_t8 ok ht e]
      exact gs_1 y (by omega) (by omega)
    · have s := gp_sz_2 ok ht (by rw [e]; decide)
      have c5 := gp_ty_c0 ok so ht (Or.inl e)
      have c6 := gp_tm_ch ok so ht hk (j := 1) (by rw [e]; decide) (by omega)
      have f0 := IT 0 (by rw [e]; decide) c5
      have p := hMp (gp_sz kd n (gp_ch kd n t 0))
      have f1 := IH 1 (H + gp_sz kd n (gp_ch kd n t 0)) (M * gp_sz kd n (gp_ch kd n t 0)) (by rw [e]; decide) c6
        (gs_C_up ok ht (by rw [e]; decide) hc (by omega) (Nat.le_mul_of_pos_right M (by omega)) (fun w _ => by
          rw [e]; exact gs_mono (by omega) p f0))
      have fl := hM1 _ _ (gs_FL s.2.1 s.2.2 (by omega))
      rw [gt_t9 ok ht e, s.1]
      refine gs_mono ?_ ?_ (gs_2 (h := H + gp_sz kd n (gp_ch kd n t 0) + gp_sz kd n (gp_ch kd n t 1)) (by rw [gt_mk_l (by decide)]; exact gs_mono (by omega) (Nat.le_refl _) f0) (by rw [gt_mk_r (by decide) (by decide)]; exact f1))
      · omega
      · generalize gp_sz kd n (gp_ch kd n t 0) = a at *
        generalize gp_sz kd n (gp_ch kd n t 1) = b at *
        have q : M * (1 + a + gs_F b * a) = M + M * a + M * a * gs_F b := by grind
        omega
    · have s := gp_sz_2 ok ht (by rw [e]; decide)
      have c6 := gp_tm_ch ok so ht hk (j := 0) (by rw [e]; decide) (by omega)
      have f0 := IH 0 H M (by rw [e]; decide) c6 (C0 0 (by rw [e]; decide) (gp_bd_0 _))
      have y := (x2.2.1 e).1
      rw [gt_t10 ok ht e]
      exact gs_mono (by omega) (hM1 _ _ (gs_Fm (by omega) sl.1)) (gs_r (show ¬ gt_k (gt_t kd ag n (gp_ch kd n t 0)) = 1 by rw [y]; decide) (show ¬ gt_k (gt_t kd ag n (gp_ch kd n t 0)) = 5 by rw [y]; decide) f0)
    · have s := gp_sz_2 ok ht (by rw [e]; decide)
      have f0 := IH 0 H M (by rw [e]; decide) (gp_tm_ch ok so ht hk (j := 0) (by rw [e]; decide) (by omega)) (C0 0 (by rw [e]; decide) (gp_bd_0 _))
      have f1 := IH 1 H M (by rw [e]; decide) (gp_tm_ch ok so ht hk (j := 1) (by rw [e]; decide) (by omega)) (C0 1 (by rw [e]; decide) (by rw [e]; decide))
      have fl := hM1 _ _ (gs_FA s.2.1 s.2.2 (by omega))
      rw [gt_t11 ok ht e, s.1]
      refine gs_mono ?_ ?_ (gs_2 (h := H + gp_sz kd n (gp_ch kd n t 0) + gp_sz kd n (gp_ch kd n t 1)) (by rw [gt_mk_l (by decide)]; exact gs_mono (by omega) (Nat.le_refl _) f0) (by rw [gt_mk_r (by decide) (by decide)]; exact gs_mono (by omega) (Nat.le_refl _) f1))
      · omega
      · rw [Nat.mul_add, Nat.mul_add] at fl
        omega
    · have s := gp_sz_2 ok ht (by rw [e]; decide)
      have f0 := IH 0 H M (by rw [e]; decide) (gp_tm_ch ok so ht hk (j := 0) (by rw [e]; decide) (by omega)) (C0 0 (by rw [e]; decide) (gp_bd_0 _))
      have y := x1.1 e
      have fp := gs_Fn (a := gp_sz kd n (gp_ch kd n t 0)) (by omega)
      have f1 := IH 1 (H + gp_sz kd n (gp_ch kd n t 0)) (M * gs_F (gp_sz kd n (gp_ch kd n t 0))) (by rw [e]; decide) (gp_tm_ch ok so ht hk (j := 1) (by rw [e]; decide) (by omega))
        (gs_C_up ok ht (by rw [e]; decide) hc (by omega) (Nat.le_mul_of_pos_right M (by omega)) (fun w _ => by
          rw [e]
          by_cases z : w = 0
          · rw [z]; exact gs_l (show ¬ gt_k (gt_t kd ag n (gp_ch kd n t 0)) = 1 by rw [y]; decide) f0
          · show gs_fit _ _ (if w = 0 then gt_l _ else gt_r _)
            rw [if_neg z]; exact gs_r (show ¬ gt_k (gt_t kd ag n (gp_ch kd n t 0)) = 1 by rw [y]; decide) (show ¬ gt_k (gt_t kd ag n (gp_ch kd n t 0)) = 5 by rw [y]; decide) f0))
      have fl := hM1 _ _ (gs_FM s.2.1 s.2.2 (by omega))
      rw [gt_t12 ok ht e, s.1]
      refine gs_mono ?_ ?_ f1
      · omega
      · rw [Nat.mul_assoc]; exact fl
    · have s := gp_sz_2 ok ht (by rw [e]; decide)
      have f0 := IT 0 (by rw [e]; decide) (gp_ty_c0 ok so ht (by omega))
      have f1 := IH 1 H M (by rw [e]; decide) (gp_tm_ch ok so ht hk (j := 1) (by rw [e]; decide) (by omega)) (C0 1 (by rw [e]; decide) (by rw [e]; decide))
      have fl := hM1 _ _ (gs_FA s.2.1 s.2.2 (by omega))
      have fp := gs_Fn (a := gp_sz kd n (gp_ch kd n t 0)) (by omega)
      have fq := hMp (gs_F (gp_sz kd n (gp_ch kd n t 0)))
      rw [gt_t13 ok ht e, s.1]
      refine gs_mono ?_ ?_ (gs_2 (h := H + gp_sz kd n (gp_ch kd n t 0) + gp_sz kd n (gp_ch kd n t 1)) (by rw [gt_mk_l (by decide)]; exact gs_mono (by omega) (Nat.le_refl _) f1) (by rw [gt_mk_r (by decide) (by decide)]; exact gs_mono (by omega) (Nat.le_refl _) f0))
      · omega
      · rw [Nat.mul_add, Nat.mul_add] at fl
        omega
    · have s := gp_sz_2 ok ht (by rw [e]; decide)
      have f0 := IT 0 (by rw [e]; decide) (gp_ty_c0 ok so ht (by omega))
      have f1 := IH 1 H M (by rw [e]; decide) (gp_tm_ch ok so ht hk (j := 1) (by rw [e]; decide) (by omega)) (C0 1 (by rw [e]; decide) (by rw [e]; decide))
      have fl := hM1 _ _ (gs_FA s.2.1 s.2.2 (by omega))
      have fp := gs_Fn (a := gp_sz kd n (gp_ch kd n t 0)) (by omega)
      have fq := hMp (gs_F (gp_sz kd n (gp_ch kd n t 0)))
      rw [gt_t14 ok ht e, s.1]
      refine gs_mono ?_ ?_ (gs_2 (h := H + gp_sz kd n (gp_ch kd n t 0) + gp_sz kd n (gp_ch kd n t 1)) (by rw [gt_mk_l (by decide)]; exact gs_mono (by omega) (Nat.le_refl _) f0) (by rw [gt_mk_r (by decide) (by decide)]; exact gs_mono (by omega) (Nat.le_refl _) f1))
      · omega
      · rw [Nat.mul_add, Nat.mul_add] at fl
        omega
    · have s := gp_sz_3 ok ht (by rw [e]; decide)
      have f0 := IH 0 H M (by rw [e]; decide) (gp_tm_ch ok so ht hk (j := 0) (by rw [e]; decide) (by omega)) (C0 0 (by rw [e]; decide) (gp_bd_0 _))
      have y := x1.2.1 e
      have fp := gs_Fn (a := gp_sz kd n (gp_ch kd n t 0)) (by omega)
      have f1 := IH 1 (H + gp_sz kd n (gp_ch kd n t 0)) (M * gs_F (gp_sz kd n (gp_ch kd n t 0))) (by rw [e]; decide) (gp_tm_ch ok so ht hk (j := 1) (by rw [e]; decide) (by omega))
        (gs_C_up ok ht (by rw [e]; decide) hc (by omega) (Nat.le_mul_of_pos_right M (by omega)) (fun w _ => by
          rw [e]; exact gs_l (show ¬ gt_k (gt_t kd ag n (gp_ch kd n t 0)) = 1 by rw [y]; decide) f0))
      have fl := hM1 _ _ (gs_FM s.2.1 s.2.2.1 (by omega))
      have fm := hM1 _ _ (gs_Fm (a := gp_sz kd n (gp_ch kd n t 0) + gp_sz kd n (gp_ch kd n t 1) + 1) (b := gp_sz kd n t) (by omega) sl.1)
      rw [gt_t15 ok ht e]
      refine gs_mono ?_ ?_ f1
      · omega
      · rw [Nat.mul_assoc]; exact Nat.le_trans fl fm
    · have s := gp_sz_1 ok ht (by rw [e]; decide)
      have f0 := IH 0 H M (by rw [e]; decide) (gp_tm_ch ok so ht hk (j := 0) (by rw [e]; decide) (by omega)) (C0 0 (by rw [e]; decide) (gp_bd_0 _))
      have fl := hM1 _ _ (gs_F1 (a := gp_sz kd n (gp_ch kd n t 0)) (by omega))
      rw [gt_t16 ok ht e, s.1]
      refine gs_mono ?_ ?_ (gs_5 rfl (by rw [gt_mk_l (by decide)]; exact f0))
      · omega
      · rw [Nat.mul_add] at fl
        omega
    · have s := gp_sz_2 ok ht (by rw [e]; decide)
      have f0 := IH 0 H M (by rw [e]; decide) (gp_tm_ch ok so ht hk (j := 0) (by rw [e]; decide) (by omega)) (C0 0 (by rw [e]; decide) (gp_bd_0 _))
      have y := x1.2.2 e
      have fp := gs_Fn (a := gp_sz kd n (gp_ch kd n t 0)) (by omega)
      have f1 := IH 1 (H + gp_sz kd n (gp_ch kd n t 0)) (M * gs_F (gp_sz kd n (gp_ch kd n t 0))) (by rw [e]; decide) (gp_tm_ch ok so ht hk (j := 1) (by rw [e]; decide) (by omega))
        (gs_C_up ok ht (by rw [e]; decide) hc (by omega) (Nat.le_mul_of_pos_right M (by omega)) (fun w _ => by
          rw [e]; exact gs_l (show ¬ gt_k (gt_t kd ag n (gp_ch kd n t 0)) = 1 by rw [y]; decide) f0))
      have fl := hM1 _ _ (gs_FM s.2.1 s.2.2 (by omega))
      rw [gt_t17 ok ht e, s.1]
      refine gs_mono ?_ ?_ f1
      · omega
      · rw [Nat.mul_assoc]; exact fl

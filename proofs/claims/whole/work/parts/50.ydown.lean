theorem gy_HB_c2 {kd : Nat → Nat} {ag : Nat → Int32} {n t j : Nat} {P Q : Nat → Prop} (ok : gp_ok kd n) (ht : t < n) (hj : j < gp_ar (kd t)) (hPQ : ∀ d, P d → Q d) (h : gy_HB kd ag n P t) (h0 : 0 < gp_bd (kd t) j → (kd t ≠ 9 → Q (gp_ch kd n t 0)) ∧ gt_e1 kd ag n t = 0) : gy_HB kd ag n Q (gp_ch kd n t j) := by
  intro v hv
  rw [gp_sn_ch ok ht hj] at hv
  rcases Nat.lt_or_ge v (gp_sn kd t) with z | z
  · rw [gp_lc_up ok ht hj z]
    exact ⟨fun y => hPQ _ ((h v z).1 y), (h v z).2⟩
  · rw [gp_lc_new ok ht hj z]
    exact h0 (by omega)
theorem gy_HB_m {kd : Nat → Nat} {ag : Nat → Int32} {n t : Nat} {P Q : Nat → Prop} (hPQ : ∀ d, P d → Q d) (h : gy_HB kd ag n P t) : gy_HB kd ag n Q t := fun v hv => ⟨fun y => hPQ _ ((h v hv).1 y), (h v hv).2⟩
theorem gp_ch_en {kd : Nat → Nat} {n t j : Nat} (ok : gp_ok kd n) (ht : t < n) (hj : j < gp_ar (kd t)) : t < gp_ch kd n t j ∧ gp_ch kd n t j < gp_en kd n t ∧ gp_en kd n (gp_ch kd n t j) ≤ gp_en kd n t := by
  have hn := ok.2.1
  have b1 := gp_ch_ge ok ht (Nat.le_of_lt hj)
  have b2 := gt_mu_ch ok ht hj
  have b3 := (gp_ch_lt ok ht hj).1
  have b4 := (gp_en_lt ok b3).1
  unfold gt_mu at b2
  omega
theorem gp_ty_sub {kd : Nat → Nat} {n : Nat} (ok : gp_ok kd n) (so : gp_so kd n) : ∀ m c d, n - c < m → c < n → kd c ≤ 5 → c ≤ d → d < gp_en kd n c → kd d ≤ 5
  | 0, _, _, z, _, _, _, _ => by omega
  | m + 1, c, d, hm, hc, hk, h1, h2 => by
    rcases Nat.lt_or_ge c d with z | z
    · have a3 := gp_ar_le (kd c)
      have IH : ∀ j, j < gp_ar (kd c) → gp_ch kd n c j ≤ d → d < gp_en kd n (gp_ch kd n c j) → kd d ≤ 5 := fun j hj a b =>
        gp_ty_sub ok so m _ d (by have := gp_ch_ge ok hc (Nat.le_of_lt hj); omega) (gp_ch_lt ok hc hj).1 (gp_ty_ch ok so hc hk hj) a b
      have e0 : gp_ch kd n c 0 = c + 1 := rfl
      have e1 : gp_ch kd n c 1 = gp_en kd n (gp_ch kd n c 0) := rfl
      have e2 : gp_ch kd n c 2 = gp_en kd n (gp_ch kd n c 1) := rfl
      have e3 : gp_ch kd n c 3 = gp_en kd n (gp_ch kd n c 2) := rfl
      rw [gp_en_ch ok hc] at h2
      have : gp_ar (kd c) = 0 ∨ gp_ar (kd c) = 1 ∨ gp_ar (kd c) = 2 ∨ gp_ar (kd c) = 3 := by omega
      rcases this with a | a | a | a
      · rw [a, e0] at h2; omega
      · rw [a, e1] at h2; exact IH 0 (by omega) (by omega) h2
      · rw [a, e2] at h2
        rcases Nat.lt_or_ge d (gp_ch kd n c 1) with y | y
        · exact IH 0 (by omega) (by omega) y
        · exact IH 1 (by omega) y h2
      · rw [a, e3] at h2
        rcases Nat.lt_or_ge d (gp_ch kd n c 1) with y | y
        · exact IH 0 (by omega) (by omega) y
        · rcases Nat.lt_or_ge d (gp_ch kd n c 2) with w | w
          · exact IH 1 (by omega) y w
          · exact IH 2 (by omega) w h2
    · have : c = d := by omega
      subst this
      exact hk
section
variable {f_dLim f_rLim f_fLim f_n f_stat f_err f_out f_vInt f_recs f_drf f_fsp : Int32} {a_kind a_arg a_ch a_par a_pos a_seen a_st a_ty a_tyK a_tyG a_tyA a_tyB a_u a_bg a_ux a_uy a_stk a_eqA a_eqB a_rT a_rE a_rG a_rN a_rC a_rX a_fK a_fA a_fE : Nat → Int32}
theorem gy_down {post : Int32 → SY → Prop} {kd : Nat → Nat} {n : Nat} (A : gt_P kd a_arg n) (S : gy_S kd n a_kind a_ch a_par a_pos a_seen) :
    ∀ m t, n - t < m → t < n → ¬ kd t ≤ 5 → ∀ (P : Nat → Prop) (dp it : Nat) (st ty tK tG tA tB u bg ux uy stk eA eB : Nat → Int32), gy_TI kd a_arg n P ty bg ux uy u (tK, tG, tA, tB) → gy_HB kd a_arg n P t → gs_K kd a_arg n t → (∀ d, P d → d < t) → stk dp = nI t → st t = nI (gp_ss (kd t)) → dp ≤ t → it + dp ≤ 2 * t →
      (¬ (gt_pe kd a_arg n t).1 = 0 → ∀ (st ty tK tG tA tB u bg ux uy stk eA eB : Nat → Int32), post (nI (gt_pe kd a_arg n t).1) (f_dLim, f_rLim, f_fLim, nI n, f_stat, nI (gt_pe kd a_arg n t).2, f_out, f_vInt, f_recs, f_drf, f_fsp, a_kind, a_arg, a_ch, a_par, a_pos, a_seen, st, ty, tK, tG, tA, tB, u, bg, ux, uy, stk, eA, eB, a_rT, a_rE, a_rG, a_rN, a_rC, a_rX, a_fK, a_fA, a_fE)) →
      ((gt_pe kd a_arg n t).1 = 0 → ∀ (it1 : Nat) (st1 ty1 tK1 tG1 tA1 tB1 u1 bg1 ux1 uy1 stk1 eA1 eB1 : Nat → Int32), gy_TI kd a_arg n (fun d => P d ∨ (t < d ∧ d < gp_en kd n t ∧ ¬ kd d ≤ 5)) ty1 bg1 ux1 uy1 u1 (tK1, tG1, tA1, tB1) → (∀ c, c < t → st1 c = st c) → (∀ i, i < dp → stk1 i = stk i) → stk1 dp = nI t → st1 t = nI (gp_ar (kd t)) →
        it1 + dp + 2 ≤ 2 * gp_en kd n t → ∀ f, f + it1 = 200 → wY_doCheck_476 post f (nI (dp + 1)) (nI it1) f_dLim f_rLim f_fLim (nI n) f_stat f_err f_out f_vInt f_recs f_drf f_fsp a_kind a_arg a_ch a_par a_pos a_seen st1 ty1 tK1 tG1 tA1 tB1 u1 bg1 ux1 uy1 stk1 eA1 eB1 a_rT a_rE a_rG a_rN a_rC a_rX a_fK a_fA a_fE) →
      ∀ f, f + it = 200 → wY_doCheck_476 post f (nI (dp + 1)) (nI it) f_dLim f_rLim f_fLim (nI n) f_stat f_err f_out f_vInt f_recs f_drf f_fsp a_kind a_arg a_ch a_par a_pos a_seen st ty tK tG tA tB u bg ux uy stk eA eB a_rT a_rE a_rG a_rN a_rC a_rX a_fK a_fA a_fE
  | 0, _, z, _, _ => by omega
  | m + 1, t, hm, ht, htk => by
    intro P dp it st ty tK tG tA tB u bg ux uy stk eA eB I HB K hP hstk hst hdp hit hF hB f hf
    have hA := A
    obtain ⟨ok, so, kr, -⟩ := A
    have hn := ok.2.1
    have a3 := gp_ar_le (kd t)
    have k17 := (kr t ht).2
    have ss : (gp_ss (kd t) = 1 ∧ (kd t = 9 ∨ kd t = 13 ∨ kd t = 14)) ∨ (gp_ss (kd t) = 0 ∧ ¬ (kd t = 9 ∨ kd t = 13 ∨ kd t = 14)) := by
      unfold gp_ss
      by_cases z : kd t = 9 ∨ kd t = 13 ∨ kd t = 14
      · rw [if_pos z]; exact Or.inl ⟨rfl, z⟩
      · rw [if_neg z]; exact Or.inr ⟨rfl, z⟩
    have enlt := gp_en_lt ok ht
    have kids : ∀ r j, j + r = gp_ar (kd t) → gp_ss (kd t) ≤ j → (∀ i, i < j → (gt_er kd a_arg n (gp_ch kd n t i)).1 = 0) → (1 < j → gt_e1 kd a_arg n t = 0) →
        ∀ (it2 : Nat) (st2 ty2 tK2 tG2 tA2 tB2 u2 bg2 ux2 uy2 stk2 eA2 eB2 : Nat → Int32), gy_TI kd a_arg n (fun d => P d ∨ (t < d ∧ d < gp_ch kd n t j ∧ ¬ kd d ≤ 5)) ty2 bg2 ux2 uy2 u2 (tK2, tG2, tA2, tB2) → (∀ c, c < t → st2 c = st c) → (∀ i, i < dp → stk2 i = stk i) → stk2 dp = nI t → st2 t = nI j →
        it2 + dp + 2 ≤ 2 * gp_ch kd n t j → ∀ f, f + it2 = 200 → wY_doCheck_476 post f (nI (dp + 1)) (nI it2) f_dLim f_rLim f_fLim (nI n) f_stat f_err f_out f_vInt f_recs f_drf f_fsp a_kind a_arg a_ch a_par a_pos a_seen st2 ty2 tK2 tG2 tA2 tB2 u2 bg2 ux2 uy2 stk2 eA2 eB2 a_rT a_rE a_rG a_rN a_rC a_rX a_fK a_fA a_fE := by
      intro r
      induction r with
      | zero =>
        intro j hjr hss hp he it2 st2 ty2 tK2 tG2 tA2 tB2 u2 bg2 ux2 uy2 stk2 eA2 eB2 I2 hs2 hk2 hkt hst2 hit2 f2 hf2
        have ej : j = gp_ar (kd t) := by omega
        subst ej
        have e1 : gt_e1 kd a_arg n t = 0 := by
          by_cases z : 1 < gp_ar (kd t)
          · exact he z
          · refine gt_if_f ?_
            rintro (⟨y, _⟩ | ⟨y, _⟩ | ⟨y, _⟩) <;> (rw [y] at z; exact absurd (by decide) z)
        rw [← gp_en_ch ok ht] at I2 hit2
        exact hB (gt_pe_0 hp e1) it2 st2 ty2 tK2 tG2 tA2 tB2 u2 bg2 ux2 uy2 stk2 eA2 eB2 I2 hs2 hk2 hkt hst2 hit2 f2 hf2
      | succ r ih =>
        intro j hjr hss hp he it2 st2 ty2 tK2 tG2 tA2 tB2 u2 bg2 ux2 uy2 stk2 eA2 eB2 I2 hs2 hk2 hkt hst2 hit2 f2 hf2
        have hj : j < gp_ar (kd t) := by omega
        obtain ⟨cn, cpl⟩ := gp_ch_lt ok ht hj
        have cge := gp_ch_ge ok ht (Nat.le_of_lt hj)
        obtain ⟨cl1, cl2, cl3⟩ := gp_ch_en ok ht hj
        obtain ⟨ce1, ce2⟩ := gp_en_lt ok cn
        have es : gp_ch kd n t (j + 1) = gp_en kd n (gp_ch kd n t j) := rfl
        have ctm := gp_tm_ch ok so ht htk hj (by omega)
        have c0 : 0 < j → ¬ (kd t = 9 ∨ kd t = 13 ∨ kd t = 14) → P (gp_ch kd n t 0) ∨ (t < gp_ch kd n t 0 ∧ gp_ch kd n t 0 < gp_ch kd n t j ∧ ¬ kd (gp_ch kd n t 0) ≤ 5) := fun z y =>
          Or.inr ⟨by show t < t + 1; omega, by show t + 1 < _; omega, gp_tm_ch ok so ht htk (by omega) (fun w => y w.1)⟩
        cases f2 with
        | zero => omega
        | succ f2 =>
        refine gy_step hA S I2 ht htk hj (fun j1 hk => c0 (by omega) (by omega)) (by omega) (by omega) hkt hst2 (fun j1 hne => ?_) (fun he1 => ?_)
        · subst j1
          have e := gt_pe_1 ok ht (by omega) (hp 0 (by omega)) hne
          have h4 : gt_e1 kd a_arg n t = 4 := by rcases gt_e1_4 (kd := kd) (ag := a_arg) (n := n) (d := t) with y | y; exact absurd y hne; exact y
          rw [e, h4] at hF
          exact hF (show ¬ (4 : Nat) = 0 by decide) _ _ _ _ _ _ _ _ _ _ _ _ _
        · have hE : 0 < j → gt_e1 kd a_arg n t = 0 := fun z => by
            by_cases y : j = 1
            · exact he1 y
            · exact he (by omega)
          refine gy_down hA S m (gp_ch kd n t j) (by omega) cn ctm (fun d => P d ∨ (t < d ∧ d < gp_ch kd n t j ∧ ¬ kd d ≤ 5)) (dp + 1) (it2 + 1) _ _ _ _ _ _ _ _ _ _ _ _ _ I2
            (gy_HB_c2 ok ht hj (fun d hd => Or.inl hd) HB (fun hb => ?_)) (gs_K_ch hA ht htk K hj (fun z => ⟨hp 0 z, hE z⟩)) (fun d hd => ?_) pk_us pk_us (by omega) (by omega) (fun hpe => ?_) (fun hpe => ?_) f2 (by omega)
          · have j0 : 0 < j := by
              rcases Nat.eq_zero_or_pos j with y | y
              · rw [y, gp_bd_0] at hb; omega
              · exact y
            refine ⟨fun n9 => c0 j0 ?_, hE j0⟩
            rintro (y | y | y)
            · exact n9 y
            · rw [y] at hb; unfold gp_bd at hb; rw [if_neg (by omega), if_neg (by decide), if_neg (by decide)] at hb; omega
            · rw [y] at hb; unfold gp_bd at hb; rw [if_neg (by omega), if_neg (by decide), if_neg (by decide)] at hb; omega
          · rcases hd with hd | hd
            · have := hP d hd; omega
            · exact hd.2.1
          · have e := gt_er_pe ok cn hpe
            have e2 := gt_pe_c ok so ht hj hp hE (by rw [e]; exact hpe)
            rw [e] at e2
            rw [e2] at hF
            exact hF hpe
          · intro it3 st3 ty3 tK3 tG3 tA3 tB3 u3 bg3 ux3 uy3 stk3 eA3 eB3 I3 hs3 hk3 hkc hst3 hit3 f3 hf3
            obtain ⟨er1, er2⟩ := gt_er_e2 ok cn hpe
            obtain ⟨pk1, pk2⟩ := gt_pe_ok ctm hpe
            have Kc := gs_K_ch hA ht htk K hj (fun z => ⟨hp 0 z, hE z⟩)
            have HBc := gy_HB_c2 (Q := fun d => P d ∨ (t < d ∧ d < gp_ch kd n t j ∧ ¬ kd d ≤ 5)) ok ht hj (fun d hd => Or.inl hd) HB (fun hb => by
              have j0 : 0 < j := by
                rcases Nat.eq_zero_or_pos j with y | y
                · rw [y, gp_bd_0] at hb; omega
                · exact y
              refine ⟨fun n9 => c0 j0 ?_, hE j0⟩
              rintro (y | y | y)
              · exact n9 y
              · rw [y] at hb; unfold gp_bd at hb; rw [if_neg (by omega), if_neg (by decide), if_neg (by decide)] at hb; omega
              · rw [y] at hb; unfold gp_bd at hb; rw [if_neg (by omega), if_neg (by decide), if_neg (by decide)] at hb; omega)
            cases f3 with
            | zero => omega
            | succ f3 =>
            refine gy_done hA S I3 cn ctm (fun i hi hti => Or.inr ?_) (fun z => ?_) (gy_HB_m (fun d hd => Or.inl hd) HBc) (fun a1 => ?_) (by omega) (by omega) hkc hst3 (fun e0 => ?_) (fun e0 => ?_)
            · obtain ⟨b1, b2, _⟩ := gp_ch_en ok cn hi
              exact ⟨b1, b2, hti⟩
            · rcases z with (z | z) | z
              · have := hP _ z; omega
              · omega
              · omega
            · have tm1 := gp_tm_ch ok so cn ctm a1 (by omega)
              exact gs_K_fit hA (gp_ch_lt ok cn a1).1 tm1 (gs_K_ch hA cn ctm Kc a1 (fun _ => ⟨pk1 0 (by omega), pk2⟩)) (pk1 1 a1)
            · intro ty4 bg4 ux4 uy4 u4 tK4 tG4 tA4 tB4 eA4 eB4 I4
              have I4' : gy_TI kd a_arg n (fun d => P d ∨ (t < d ∧ d < gp_ch kd n t (j + 1) ∧ ¬ kd d ≤ 5)) ty4 bg4 ux4 uy4 u4 (tK4, tG4, tA4, tB4) := by
                refine gy_TI_iff (fun d dn dk => ⟨fun hd => ?_, fun hd => ?_⟩) (fun d hd => ?_) I4
                · rcases hd with ((hd | hd) | hd) | hd
                  · exact Or.inl hd
                  · exact Or.inr ⟨hd.1, by rw [es]; omega, hd.2.2⟩
                  · exact Or.inr ⟨by omega, by rw [es]; omega, hd.2.2⟩
                  · subst hd; exact Or.inr ⟨by omega, by rw [es]; omega, dk⟩
                · rcases hd with hd | hd
                  · exact Or.inl (Or.inl (Or.inl hd))
                  · rw [es] at hd
                    rcases Nat.lt_trichotomy d (gp_ch kd n t j) with y | y | y
                    · exact Or.inl (Or.inl (Or.inr ⟨hd.1, y, hd.2.2⟩))
                    · exact Or.inr y
                    · exact Or.inl (Or.inr ⟨y, hd.2.1, hd.2.2⟩)
                · rcases hd with hd | hd
                  · exact ⟨(I.2.2 d hd).1, (I.2.2 d hd).2.1⟩
                  · rw [es] at hd; exact ⟨by omega, hd.2.2⟩
              have ct : gp_ch kd n t j ≠ t := by omega
              have hE' : 1 < j + 1 → gt_e1 kd a_arg n t = 0 := fun z => hE (by omega)
              refine ih (j + 1) (by omega) (by omega) (fun i hi => ?_) (fun z => hE' z) (it3 + 1) st3 ty4 tK4 tG4 tA4 tB4 u4 bg4 ux4 uy4 stk3 eA4 eB4 I4' (fun c hc => ?_) (fun i hi => ?_) ?_ ?_ (by rw [es]; omega) f3 (by omega)
              · rcases Nat.lt_or_ge i j with y | y
                · exact hp i y
                · have : i = j := by omega
                  subst this
                  exact er1.trans e0
              · rw [hs3 c (by omega), pk_un (by omega), pk_un (by omega)]
                exact hs2 c hc
              · rw [hk3 i (by omega), pk_un (by omega)]
                exact hk2 i hi
              · rw [hk3 dp (by omega), pk_un (by omega)]
                exact hkt
              · rw [hs3 t (by omega), pk_un (Ne.symm ct), pk_us]
            · intro ty4 bg4 ux4 uy4 u4 tK4 tG4 tA4 tB4 eA4 eB4
              have e := er2 e0
              have e2 := gt_pe_c ok so ht hj hp hE (by rw [e]; exact e0)
              rw [e2, e] at hF
              exact hF e0 _ _ _ _ _ _ _ _ _ _ _ _ _
    have start : ∀ j, j = gp_ss (kd t) → (∀ i, i < j → (gt_er kd a_arg n (gp_ch kd n t i)).1 = 0) → j ≤ gp_ar (kd t) → wY_doCheck_476 post f (nI (dp + 1)) (nI it) f_dLim f_rLim f_fLim (nI n) f_stat f_err f_out f_vInt f_recs f_drf f_fsp a_kind a_arg a_ch a_par a_pos a_seen st ty tK tG tA tB u bg ux uy stk eA eB a_rT a_rE a_rG a_rN a_rC a_rX a_fK a_fA a_fE := by
      intro j ej hp hjle
      have cge := gp_ch_ge ok ht hjle
      refine kids (gp_ar (kd t) - j) j (by omega) (by omega) hp (fun z => by omega) it st ty tK tG tA tB u bg ux uy stk eA eB ?_ (fun _ _ => rfl) (fun _ _ => rfl) hstk (by rw [ej]; exact hst) (by omega) f hf
      refine gy_TI_iff (fun d dn dk => ⟨fun hd => Or.inl hd, fun hd => ?_⟩) (fun d hd => ?_) I
      · rcases hd with hd | hd
        · exact hd
        · exfalso
          rcases ss with ⟨s1, s2⟩ | ⟨s1, s2⟩
          · rw [ej, s1] at hd
            have ar2 : gp_ar (kd t) = 2 := by rcases s2 with e | e | e <;> rw [e] <;> decide
            exact hd.2.2 (gp_ty_sub ok so (n + 1) (gp_ch kd n t 0) d (by omega) (gp_ch_lt ok ht (by omega)).1 (gp_ty_c0 ok so ht s2) hd.1 hd.2.1)
          · rw [ej, s1] at hd
            have : gp_ch kd n t 0 = t + 1 := rfl
            omega
      · rcases hd with hd | hd
        · exact ⟨(I.2.2 d hd).1, (I.2.2 d hd).2.1⟩
        · have := (gp_ch_sp ok ht j hjle).2.1
          exact ⟨by omega, hd.2.2⟩
    rcases ss with ⟨s1, s2⟩ | ⟨s1, s2⟩
    · have ar2 : gp_ar (kd t) = 2 := by rcases s2 with e | e | e <;> rw [e] <;> decide
      refine start 1 s1.symm (fun i hi => ?_) (by omega)
      have : i = 0 := by omega
      subst this
      rw [gt_er_ty ok (gp_ch_lt ok ht (by omega)).1 (gp_ty_c0 ok so ht s2)]
    · exact start 0 s1.symm (fun i hi => by omega) (by omega)
end

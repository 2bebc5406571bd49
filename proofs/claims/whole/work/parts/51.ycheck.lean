section
variable {f_dLim f_rLim f_fLim f_n f_stat f_err f_out f_vInt f_recs f_drf f_fsp : Int32} {a_kind a_arg a_ch a_par a_pos a_seen a_st a_ty a_tyK a_tyG a_tyA a_tyB a_u a_bg a_ux a_uy a_stk a_eqA a_eqB a_rT a_rE a_rG a_rN a_rC a_rX a_fK a_fA a_fE : Nat → Int32}
/-- what the reference holds once the check is well -/
def gy_CK (kd : Nat → Nat) (ag : Nat → Int32) (n : Nat) (nk ch par pos sn ty bg ux uy u : Nat → Int32) (T : gd_Tb) : Prop := gm_A kd ag n ∧ gy_S kd n nk ch par pos sn ∧ gy_TI kd ag n (fun d => d < n ∧ ¬ kd d ≤ 5) ty bg ux uy u T
theorem gy_tyD {kd : Nat → Nat} {ag : Nat → Int32} {n : Nat} {ch : Nat → Int32} {tK tG tA tB : Nat → Int32} (ok : gp_ok kd n) (so : gp_so kd n) (kr : ∀ d, d < n → 1 ≤ kd d ∧ kd d ≤ 17) (hch : ∀ i, i < n → ∀ j, j < gp_ar (kd i) → ch (3 * i + j) = nI (gp_ch kd n i j))
    (h : ∀ c, c < n → tK c = nI (kd c) ∧ (kd c ≤ 5 → tG c = ag c) ∧ tA c = ch (3 * c) ∧ tB c = ch (3 * c + 1)) :
    (∀ i, i < n → kd i ≤ 5 → gy_c kd n (fun _ => False) (tK, tG, tA, tB) i) ∧ ∀ m i, n - i < m → i < n → kd i ≤ 5 → gd_D (tK, tG, tA, tB) i = gt_t kd ag n i := by
  have hn := ok.2.1
  have A1 : ∀ i, i < n → kd i ≤ 5 → 0 < gp_ar (kd i) → tA i = nI (gp_ch kd n i 0) ∧ gp_ch kd n i 0 < n ∧ kd (gp_ch kd n i 0) ≤ 5 := fun i hi hk ha => by
    have := hch i hi 0 ha
    rw [Nat.add_zero] at this
    exact ⟨(h i hi).2.2.1.trans this, (gp_ch_lt ok hi ha).1, gp_ty_ch ok so hi hk ha⟩
  have B1 : ∀ i, i < n → kd i ≤ 5 → 1 < gp_ar (kd i) → tB i = nI (gp_ch kd n i 1) ∧ gp_ch kd n i 1 < n ∧ kd (gp_ch kd n i 1) ≤ 5 := fun i hi hk ha => by
    exact ⟨(h i hi).2.2.2.trans (hch i hi 1 ha), (gp_ch_lt ok hi ha).1, gp_ty_ch ok so hi hk ha⟩
  have ar : ∀ i, i < n → kd i ≤ 5 → (¬ nI (kd i) = 1 → 0 < gp_ar (kd i)) ∧ (¬ nI (kd i) = 1 → ¬ nI (kd i) = 5 → 1 < gp_ar (kd i)) := fun i hi hk => by
    have k1 := (kr i hi).1
    have : kd i = 1 ∨ kd i = 2 ∨ kd i = 3 ∨ kd i = 4 ∨ kd i = 5 := by omega
    rcases this with e | e | e | e | e <;> rw [e]
    · exact ⟨fun z => absurd rfl z, fun z => absurd rfl z⟩
    · exact ⟨fun _ => by decide, fun _ _ => by decide⟩
    · exact ⟨fun _ => by decide, fun _ _ => by decide⟩
    · exact ⟨fun _ => by decide, fun _ _ => by decide⟩
    · exact ⟨fun _ => by decide, fun _ z => absurd rfl z⟩
  refine ⟨fun i hi hk => ?_, fun m => ?_⟩
  · unfold gy_c
    dsimp only
    rw [(h i hi).1]
    refine ⟨fun z => ?_, fun z y => ?_⟩
    · obtain ⟨a, b, c⟩ := A1 i hi hk ((ar i hi hk).1 z)
      exact ⟨_, Or.inl ⟨b, c⟩, a⟩
    · obtain ⟨a, b, c⟩ := B1 i hi hk ((ar i hi hk).2 z y)
      exact ⟨_, Or.inl ⟨b, c⟩, a⟩
  · induction m with
    | zero => intro i z; omega
    | succ m ih =>
      intro i hm hi hk
      have k1 := (kr i hi).1
      have hc : kd i = 1 ∨ kd i = 2 ∨ kd i = 3 ∨ kd i = 4 ∨ kd i = 5 := by omega
      have dA : 0 < gp_ar (kd i) → gd_D (tK, tG, tA, tB) (gd_L (tK, tG, tA, tB) i) = gt_t kd ag n (gp_ch kd n i 0) := fun ha => by
        obtain ⟨a, b, c⟩ := A1 i hi hk ha
        have g := gp_ch_ge ok hi (Nat.le_of_lt ha)
        unfold gd_L
        dsimp only
        rw [a, nI_clamp (by omega)]
        exact ih _ (by omega) b c
      have dB : 1 < gp_ar (kd i) → gd_D (tK, tG, tA, tB) (gd_R (tK, tG, tA, tB) i) = gt_t kd ag n (gp_ch kd n i 1) := fun ha => by
        obtain ⟨a, b, c⟩ := B1 i hi hk ha
        have g := gp_ch_ge ok hi (Nat.le_of_lt ha)
        unfold gd_R
        dsimp only
        rw [a, nI_clamp (by omega)]
        exact ih _ (by omega) b c
      rw [gd_mkD]
      obtain ⟨h1, h2, _⟩ := h i hi
      dsimp only
      rw [h1, h2 hk]
      rcases hc with e | e | e | e | e
      · rw [e, gt_q1 e (fun _ => none) (fun _ => none)]
        exact gt_mk_1
      · rw [dA (by rw [e]; decide), dB (by rw [e]; decide), gt_q2 ok hi e, e]; rfl
      · rw [dA (by rw [e]; decide), dB (by rw [e]; decide), gt_q3 ok hi e, e]; rfl
      · rw [dA (by rw [e]; decide), dB (by rw [e]; decide), gt_q4 ok hi e, e]; rfl
      · rw [dA (by rw [e]; decide), gt_q5 ok hi e (fun _ => none), e]
        exact gt_mk_5
theorem gy_doCheck {post : Int32 → SY → Prop} {kd : Nat → Nat} {n : Nat} (p : gc_prog kd a_arg n) (hK : ∀ i, i < n → a_kind i = nI (kd i))
    (h : ∀ σ d, gc_R kd a_arg n σ d → ∀ er ch par pos sn st ty tK tG tA tB u bg ux uy stk eA eB, (σ = 1 → gy_CK kd a_arg n a_kind ch par pos sn ty bg ux uy u (tK, tG, tA, tB)) → (¬ σ = 1 → er = nI d) → post (nI σ) (f_dLim, f_rLim, f_fLim, nI n, f_stat, er, f_out, f_vInt, f_recs, f_drf, f_fsp, a_kind, a_arg, ch, par, pos, sn, st, ty, tK, tG, tA, tB, u, bg, ux, uy, stk, eA, eB, a_rT, a_rE, a_rG, a_rN, a_rC, a_rX, a_fK, a_fA, a_fE)) :
    wpY_doCheck post (f_dLim, f_rLim, f_fLim, nI n, f_stat, f_err, f_out, f_vInt, f_recs, f_drf, f_fsp, a_kind, a_arg, a_ch, a_par, a_pos, a_seen, a_st, a_ty, a_tyK, a_tyG, a_tyA, a_tyB, a_u, a_bg, a_ux, a_uy, a_stk, a_eqA, a_eqB, a_rT, a_rE, a_rG, a_rN, a_rC, a_rX, a_fK, a_fA, a_fE) := by
  have hn := p.1
  have hK' : ∀ i, i < n → a_kind i = nI (kd i) ∧ 1 ≤ kd i ∧ kd i ≤ 17 := fun i hi => ⟨hK i hi, p.2.1 i hi⟩
  refine nm_e ⟨n + 1, gy_syn hn hK' (fun sok stk => ?_) (fun m hm stk => ?_) n 0 (n + 1) (upd a_stk 0 1) (by omega) (by omega) ⟨pk_us, trivial⟩ (fun i' z => by omega)⟩
  · have ok := gc_ok hn sok
    refine ⟨n + 1, gy_140 hn ok.1 (fun par pos hp0 => ⟨n + 1, ?_⟩) n 0 (n + 1) a_par a_pos (by omega) (by omega) (fun z => by omega)⟩
    refine gy_170 ok hK' (fun ch par pos hT => ⟨n + 1, ?_⟩) n 0 (n + 1) a_ch par pos (by omega) (by omega) ⟨hp0, fun c c0 cn z => by omega, fun i' j' a b z => by omega⟩
    have par0 := hT.1
    have parc : ∀ c, 0 < c → c < n → par c = nI (gp_pl kd c / 3) ∧ pos c = nI (gp_pl kd c % 3) := fun c c0 cn => hT.2.1 c c0 cn (Or.inl (by have := (gp_pl_in ok cn c0).1; omega))
    have chc : ∀ i, i < n → ∀ j, j < gp_ar (kd i) → ch (3 * i + j) = nI (gp_ch kd n i j) := fun i hi j hj => hT.2.2 i j hi hj (Or.inl hi)
    refine gy_255 ok hK' par0 parc (fun sn hsn => ⟨n + 1, ?_⟩) n 0 (n + 1) a_seen (by omega) (by omega) (fun c z => by omega)
    refine gy_318 hn hK' hsn (fun hs => ⟨n + 1, ?_⟩) (fun m hm hs hb => ?_) n 0 (n + 1) (by omega) (by omega) (fun i' z => by omega)
    · have A := gc_P p sok hs
      have S : gy_S kd n a_kind ch par pos sn := ⟨hK, par0, parc, chc, hsn⟩
      refine gy_367 ok.1 hn hK' (fun tK tG tA tB hT => ⟨200, ?_⟩) n 0 (n + 1) a_tyK a_tyG a_tyA a_tyB (by omega) (by omega) (fun c z => by omega)
      obtain ⟨tc, tD⟩ := gy_tyD (ag := a_arg) ok A.2.1 A.2.2.1 chc hT
      have k0 : ¬ kd 0 ≤ 5 := fun z => by have := A.2.1.1; unfold gp_srt at this; rw [if_pos z] at this; omega
      have en0 := gp_en_0 ok
      have I0 : gy_TI kd a_arg n (fun _ => False) a_ty a_bg a_ux a_uy a_u (tK, tG, tA, tB) := ⟨fun y hy => by
          rcases hy with hy | ⟨d, _, b, _⟩
          · exact tc y hy.1 hy.2
          · exact b.elim, fun i hi hk => tD (n + 1) i (by omega) hi hk, fun d hd => hd.elim⟩
      refine gy_down A S (n + 1) 0 (by omega) ok.1 k0 (fun _ => False) 0 0 _ _ _ _ _ _ _ _ _ _ _ _ _ I0 (fun v hv => by rw [gp_sn_0] at hv; omega) (gs_K_0 ok) (fun d hd => hd.elim) pk_us pk_us (by omega) (by omega) (fun hpe => ?_) (fun hpe => ?_) 200 (by omega)
      · intro st ty tK tG tA tB u bg ux uy stk eA eB
        have e := gt_er_pe ok ok.1 hpe
        rw [← e] at hpe ⊢
        have ne1 : ¬ (gt_er kd a_arg n 0).1 = 1 := by
          rcases gt_er_45 (ag := a_arg) ok (n + 1) 0 (by omega) ok.1 with y | y | y <;> omega
        exact h _ _ (Or.inr (Or.inr ⟨sok, hs, A, Or.inl ⟨hpe, rfl⟩⟩)) _ _ _ _ _ _ _ _ _ _ _ _ _ _ _ _ _ _ (fun z => absurd z ne1) (fun _ => rfl)
      · intro it1 st1 ty1 tK1 tG1 tA1 tB1 u1 bg1 ux1 uy1 stk1 eA1 eB1 I1 hs1 hk1 hkt hst1 hit1 f hf
        obtain ⟨er1, er2⟩ := gt_er_e2 ok ok.1 hpe
        obtain ⟨pk1, pk2⟩ := gt_pe_ok k0 hpe
        cases f with
        | zero => omega
        | succ f =>
        refine gy_done A S I1 ok.1 k0 (fun i hi hti => Or.inr ?_) (fun z => ?_) (fun v hv => by rw [gp_sn_0] at hv; omega) (fun a1 => ?_) (by omega) (by omega) hkt hst1 (fun e0 => ?_) (fun e0 => ?_)
        · obtain ⟨b1, b2, _⟩ := gp_ch_en ok ok.1 hi
          exact ⟨b1, b2, hti⟩
        · rcases z with z | z
          · exact z
          · omega
        · have tm1 := gp_tm_ch ok A.2.1 ok.1 k0 a1 (by omega)
          exact gs_K_fit A (gp_ch_lt ok ok.1 a1).1 tm1 (gs_K_ch A ok.1 k0 (gs_K_0 ok) a1 (fun _ => ⟨pk1 0 (by omega), pk2⟩)) (pk1 1 a1)
        · intro ty4 bg4 ux4 uy4 u4 tK4 tG4 tA4 tB4 eA4 eB4 I4
          have I4' : gy_TI kd a_arg n (fun d => d < n ∧ ¬ kd d ≤ 5) ty4 bg4 ux4 uy4 u4 (tK4, tG4, tA4, tB4) := by
            refine gy_TI_iff (fun d dn dk => ⟨fun _ => ⟨dn, dk⟩, fun _ => ?_⟩) (fun d hd => hd) I4
            rcases Nat.eq_zero_or_pos d with z | z
            · exact Or.inr z
            · exact Or.inl (Or.inr ⟨z, by omega, dk⟩)
          have ez : (gt_er kd a_arg n 0).1 = 0 := er1.trans e0
          cases f with
          | zero => omega
          | succ f =>
          refine br_f (nI_ge (b := 200) (by omega) (by decide)) (br_t (by decide) ?_)
          exact h 1 0 (Or.inr (Or.inr ⟨sok, hs, A, Or.inr ⟨rfl, rfl, ez⟩⟩)) _ _ _ _ _ _ _ _ _ _ _ _ _ _ _ _ _ _ (fun _ => ⟨gm_A_of A ez, S, I4'⟩) (fun z => absurd rfl z)
        · intro ty4 bg4 ux4 uy4 u4 tK4 tG4 tA4 tB4 eA4 eB4
          have e := er2 e0
          have ne1 : ¬ gt_e2 kd a_arg n 0 = 1 := by
            rcases gt_e2_45 (kd := kd) (ag := a_arg) (n := n) (d := 0) with y | y | y <;> omega
          exact h _ 0 (Or.inr (Or.inr ⟨sok, hs, A, Or.inl ⟨by rw [e]; exact e0, e.symm⟩⟩)) _ _ _ _ _ _ _ _ _ _ _ _ _ _ _ _ _ _ (fun z => absurd z ne1) (fun _ => rfl)
    · exact h 3 m (Or.inr (Or.inl ⟨rfl, sok, hm, hs, hb⟩)) _ _ _ _ _ _ _ _ _ _ _ _ _ _ _ _ _ _ (fun z => absurd z (by decide)) (fun _ => rfl)
  · exact h 2 m (Or.inl ⟨rfl, hm⟩) _ _ _ _ _ _ _ _ _ _ _ _ _ _ _ _ _ _ (fun z => absurd z (by decide)) (fun _ => rfl)
end

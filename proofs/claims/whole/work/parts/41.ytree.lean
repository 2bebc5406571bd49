/-! the reference's tree: children, parents, slots -/
def gy_T (kd : Nat → Nat) (n i j : Nat) (ch par pos : Nat → Int32) : Prop := par 0 = -1 ∧
  (∀ c, 0 < c → c < n → (gp_pl kd c / 3 < i ∨ (gp_pl kd c / 3 = i ∧ gp_pl kd c % 3 < j)) → par c = nI (gp_pl kd c / 3) ∧ pos c = nI (gp_pl kd c % 3)) ∧
  (∀ i' j', i' < n → j' < gp_ar (kd i') → (i' < i ∨ (i' = i ∧ j' < j)) → ch (3 * i' + j') = nI (gp_ch kd n i' j'))
theorem gy_T_s {kd : Nat → Nat} {n i j : Nat} {ch par pos : Nat → Int32} (ok : gp_ok kd n) (hi : i < n) (hj : j < gp_ar (kd i)) (h : gy_T kd n i j ch par pos) :
    gy_T kd n i (j + 1) (upd ch (3 * i + j) (nI (gp_ch kd n i j))) (upd par (gp_ch kd n i j) (nI i)) (upd pos (gp_ch kd n i j) (nI j)) := by
  obtain ⟨h1, h2, h3⟩ := h
  obtain ⟨c1, c2⟩ := gp_ch_lt ok hi hj
  have cg := gp_ch_ge ok hi (Nat.le_of_lt hj)
  have a3 := gp_ar_le (kd i)
  refine ⟨by rw [pk_un (by omega)]; exact h1, fun c c0 cn hc => ?_, fun i' j' hi' hj' hij => ?_⟩
  · by_cases z : c = gp_ch kd n i j
    · subst z
      rw [pk_us, pk_us, c2, show (3 * i + j) / 3 = i by omega, show (3 * i + j) % 3 = j by omega]
      exact ⟨rfl, rfl⟩
    · rw [pk_un z, pk_un z]
      refine h2 c c0 cn ?_
      rcases hc with hc | hc
      · exact Or.inl hc
      · refine Or.inr ⟨hc.1, ?_⟩
        rcases Nat.lt_or_ge (gp_pl kd c % 3) j with y | y
        · exact y
        · have : gp_pl kd c = 3 * i + j := by omega
          exact absurd (gp_pl_inj ok cn c1 (this.trans c2.symm)) z
  · have a4 := gp_ar_le (kd i')
    by_cases z : i' = i ∧ j' = j
    · obtain ⟨rfl, rfl⟩ := z
      rw [pk_us]
    · rw [pk_un (by omega)]
      exact h3 i' j' hi' hj' (by omega)
theorem gy_T_n {kd : Nat → Nat} {n i : Nat} {ch par pos : Nat → Int32} (ok : gp_ok kd n) (h : gy_T kd n i (gp_ar (kd i)) ch par pos) : gy_T kd n (i + 1) 0 ch par pos := by
  obtain ⟨h1, h2, h3⟩ := h
  refine ⟨h1, fun c c0 cn hc => h2 c c0 cn ?_, fun i' j' hi' hj' hij => h3 i' j' hi' hj' ?_⟩
  · have := gp_pl_in ok cn c0
    rcases Nat.lt_or_ge (gp_pl kd c / 3) i with z | z
    · exact Or.inl z
    · have e : gp_pl kd c / 3 = i := by omega
      rw [e] at this
      exact Or.inr ⟨e, this.2⟩
  · rcases Nat.lt_or_ge i' i with z | z
    · exact Or.inl z
    · have e : i' = i := by omega
      subst e
      exact Or.inr ⟨rfl, hj'⟩
/-- what the reference holds of the tree -/
def gy_S (kd : Nat → Nat) (n : Nat) (nk ch par pos sn : Nat → Int32) : Prop := (∀ i, i < n → nk i = nI (kd i)) ∧ par 0 = -1 ∧ (∀ c, 0 < c → c < n → par c = nI (gp_pl kd c / 3) ∧ pos c = nI (gp_pl kd c % 3)) ∧
  (∀ i, i < n → ∀ j, j < gp_ar (kd i) → ch (3 * i + j) = nI (gp_ch kd n i j)) ∧ (∀ c, c < n → sn c = nI (gp_sn kd c))
section
variable {f_dLim f_rLim f_fLim f_n f_stat f_err f_out f_vInt f_recs f_drf f_fsp : Int32} {a_kind a_arg a_ch a_par a_pos a_seen a_st a_ty a_tyK a_tyG a_tyA a_tyB a_u a_bg a_ux a_uy a_stk a_eqA a_eqB a_rT a_rE a_rG a_rN a_rC a_rX a_fK a_fA a_fE : Nat → Int32}
theorem gy_140 {post : Int32 → SY → Prop} {n : Nat} (hn : n ≤ 32) (h0 : 0 < n) (h : ∀ par pos, par 0 = -1 → ∃ f, wY_doCheck_170 post f_dLim f_rLim f_fLim (nI n) f_stat f_err f_out f_vInt f_recs f_drf f_fsp f 0 a_kind a_arg a_ch par pos a_seen a_st a_ty a_tyK a_tyG a_tyA a_tyB a_u a_bg a_ux a_uy a_stk a_eqA a_eqB a_rT a_rE a_rG a_rN a_rC a_rX a_fK a_fA a_fE) :
    ∀ d i fuel (par pos : Nat → Int32), i + d = n → d < fuel → (0 < i → par 0 = -1) → wY_doCheck_140 post f_dLim f_rLim f_fLim (nI n) f_stat f_err f_out f_vInt f_recs f_drf f_fsp fuel (nI i) a_kind a_arg a_ch par pos a_seen a_st a_ty a_tyK a_tyG a_tyA a_tyB a_u a_bg a_ux a_uy a_stk a_eqA a_eqB a_rT a_rE a_rG a_rN a_rC a_rX a_fK a_fA a_fE
  | _, _, 0, _, _, _, hf, _ => by omega
  | 0, i, fuel + 1, par, pos, hi, hf, hp => by
    have e : i = n := by omega
    subst e
    exact br_t (nI_le (Nat.le_refl _) (by omega)) (h par pos (hp h0))
  | d + 1, i, fuel + 1, par, pos, hi, hf, hp => by
    have v := vp_in_nI (show i < 32 by omega) (by decide)
    refine br_f (nI_ge (by omega) (by omega)) ⟨v, ?_⟩
    rw [nI_clamp (show i < 2 ^ 31 by omega)]
    refine nm_e ⟨v, nm_e (nm_r (nI_1 i) (gy_140 hn h0 h d (i + 1) fuel _ _ (by omega) (by omega) (fun _ => ?_)))⟩
    rcases Nat.eq_zero_or_pos i with z | z
    · subst z; exact pk_us
    · rw [pk_un (by omega)]; exact hp z
theorem gy_185 {post : Int32 → SY → Prop} {J : Int32 → (Nat → Int32) → (Nat → Int32) → (Nat → Int32) → (Nat → Int32) → (Nat → Int32) → (Nat → Int32) → (Nat → Int32) → (Nat → Int32) → (Nat → Int32) → (Nat → Int32) → (Nat → Int32) → (Nat → Int32) → (Nat → Int32) → (Nat → Int32) → (Nat → Int32) → (Nat → Int32) → (Nat → Int32) → (Nat → Int32) → (Nat → Int32) → (Nat → Int32) → (Nat → Int32) → (Nat → Int32) → (Nat → Int32) → (Nat → Int32) → (Nat → Int32) → (Nat → Int32) → (Nat → Int32) → (Nat → Int32) → Prop} {kd : Nat → Nat} {n i : Nat} (ok : gp_ok kd n) (hK : ∀ i, i < n → a_kind i = nI (kd i) ∧ 1 ≤ kd i ∧ kd i ≤ 17) (hi : i < n)
    (h : ∀ ch par pos, gy_T kd n (i + 1) 0 ch par pos → J (nI (i + 1)) a_kind a_arg ch par pos a_seen a_st a_ty a_tyK a_tyG a_tyA a_tyB a_u a_bg a_ux a_uy a_stk a_eqA a_eqB a_rT a_rE a_rG a_rN a_rC a_rX a_fK a_fA a_fE) :
    ∀ r j fuel (ch par pos : Nat → Int32), j + r = gp_ar (kd i) → r < fuel → gy_T kd n i j ch par pos → wY_doCheck_185 post J (nI i) f_dLim f_rLim f_fLim (nI n) f_stat f_err f_out f_vInt f_recs f_drf f_fsp fuel (nI (gp_ch kd n i j)) (nI j) a_kind a_arg ch par pos a_seen a_st a_ty a_tyK a_tyG a_tyA a_tyB a_u a_bg a_ux a_uy a_stk a_eqA a_eqB a_rT a_rE a_rG a_rN a_rC a_rX a_fK a_fA a_fE
  | _, _, 0, _, _, _, _, hf, _ => by omega
  | 0, j, fuel + 1, ch, par, pos, hj, hf, hT => by
    obtain ⟨k0, k1, k2⟩ := hK i hi
    have hn := ok.2.1
    have a3 := gp_ar_le (kd i)
    have e : j = gp_ar (kd i) := by omega
    refine ⟨vp_in_nI (by omega) (by decide), ?_⟩
    rw [nI_clamp (show i < 2 ^ 31 by omega), k0]
    refine gy_ar k1 k2 (br_t (nI_le (by omega) (by omega)) (nm_r (nI_1 i) (h ch par pos (gy_T_n ok ?_))))
    rw [← e]; exact hT
  | r + 1, j, fuel + 1, ch, par, pos, hj, hf, hT => by
    obtain ⟨k0, k1, k2⟩ := hK i hi
    have hn := ok.2.1
    have a3 := gp_ar_le (kd i)
    have hj' : j < gp_ar (kd i) := by omega
    obtain ⟨c1, c2⟩ := gp_ch_lt ok hi hj'
    have v := vp_in_nI (show i < 32 by omega) (by decide)
    have vc := vp_in_nI (show gp_ch kd n i j < 32 by omega) (by decide)
    refine ⟨v, ?_⟩
    rw [nI_clamp (show i < 2 ^ 31 by omega), k0]
    refine gy_ar k1 k2 (br_f (nI_ge hj' (by omega)) (br_f (nI_ge c1 (by omega)) ?_))
    rw [gx_ix3, nI_clamp (show 3 * i + j < 2 ^ 31 by omega), nI_clamp (show gp_ch kd n i j < 2 ^ 31 by omega)]
    refine ⟨vp_in_nI (by omega) (by decide), nm_e ⟨vc, nm_e ⟨vc, nm_e (gy_se hn hK (by omega) (nm_r (nI_1 j) ?_))⟩⟩⟩
    exact gy_185 ok hK hi h r (j + 1) fuel _ _ _ (by omega) (by omega) (gy_T_s ok hi hj' hT)
theorem gy_170 {post : Int32 → SY → Prop} {kd : Nat → Nat} {n : Nat} (ok : gp_ok kd n) (hK : ∀ i, i < n → a_kind i = nI (kd i) ∧ 1 ≤ kd i ∧ kd i ≤ 17)
    (h : ∀ ch par pos, gy_T kd n n 0 ch par pos → ∃ f, wY_doCheck_255 post f_dLim f_rLim f_fLim (nI n) f_stat f_err f_out f_vInt f_recs f_drf f_fsp f 0 a_kind a_arg ch par pos a_seen a_st a_ty a_tyK a_tyG a_tyA a_tyB a_u a_bg a_ux a_uy a_stk a_eqA a_eqB a_rT a_rE a_rG a_rN a_rC a_rX a_fK a_fA a_fE) :
    ∀ d i fuel (ch par pos : Nat → Int32), i + d = n → d < fuel → gy_T kd n i 0 ch par pos → wY_doCheck_170 post f_dLim f_rLim f_fLim (nI n) f_stat f_err f_out f_vInt f_recs f_drf f_fsp fuel (nI i) a_kind a_arg ch par pos a_seen a_st a_ty a_tyK a_tyG a_tyA a_tyB a_u a_bg a_ux a_uy a_stk a_eqA a_eqB a_rT a_rE a_rG a_rN a_rC a_rX a_fK a_fA a_fE
  | _, _, 0, _, _, _, _, hf, _ => by omega
  | 0, i, fuel + 1, ch, par, pos, hi, hf, hT => by
    have hn := ok.2.1
    have e : i = n := by omega
    subst e
    exact br_t (nI_le (Nat.le_refl _) (by omega)) (h ch par pos hT)
  | d + 1, i, fuel + 1, ch, par, pos, hi, hf, hT => by
    have hn := ok.2.1
    refine br_f (nI_ge (by omega) (by omega)) (nm_r (nI_1 i) ⟨gp_ar (kd i) + 1, ?_⟩)
    exact gy_185 ok hK (by omega) (fun ch par pos hT' => gy_170 ok hK h d (i + 1) fuel ch par pos (by omega) (by omega) hT') (gp_ar (kd i)) 0 (gp_ar (kd i) + 1) ch par pos (by omega) (by omega) hT
theorem gy_255 {post : Int32 → SY → Prop} {kd : Nat → Nat} {n : Nat} (ok : gp_ok kd n) (hK : ∀ i, i < n → a_kind i = nI (kd i) ∧ 1 ≤ kd i ∧ kd i ≤ 17) (hp0 : a_par 0 = -1)
    (hp : ∀ c, 0 < c → c < n → a_par c = nI (gp_pl kd c / 3) ∧ a_pos c = nI (gp_pl kd c % 3))
    (h : ∀ sn, (∀ c, c < n → sn c = nI (gp_sn kd c)) → ∃ f, wY_doCheck_318 post f_dLim f_rLim f_fLim (nI n) f_stat f_err f_out f_vInt f_recs f_drf f_fsp a_kind a_arg a_ch a_par a_pos sn a_st a_ty a_tyK a_tyG a_tyA a_tyB a_u a_bg a_ux a_uy a_stk a_eqA a_eqB a_rT a_rE a_rG a_rN a_rC a_rX a_fK a_fA a_fE f 0) :
    ∀ d i fuel (sn : Nat → Int32), i + d = n → d < fuel → (∀ c, c < i → sn c = nI (gp_sn kd c)) → wY_doCheck_255 post f_dLim f_rLim f_fLim (nI n) f_stat f_err f_out f_vInt f_recs f_drf f_fsp fuel (nI i) a_kind a_arg a_ch a_par a_pos sn a_st a_ty a_tyK a_tyG a_tyA a_tyB a_u a_bg a_ux a_uy a_stk a_eqA a_eqB a_rT a_rE a_rG a_rN a_rC a_rX a_fK a_fA a_fE
  | _, _, 0, _, _, hf, _ => by omega
  | 0, i, fuel + 1, sn, hi, hf, hs => by
    have hn := ok.2.1
    have e : i = n := by omega
    subst e
    exact br_t (nI_le (Nat.le_refl _) (by omega)) (h sn hs)
  | d + 1, i, fuel + 1, sn, hi, hf, hs => by
    have hn := ok.2.1
    have v := vp_in_nI (show i < 32 by omega) (by decide)
    refine br_f (nI_ge (by omega) (by omega)) ⟨v, ?_⟩
    rw [nI_clamp (show i < 2 ^ 31 by omega)]
    rcases Nat.eq_zero_or_pos i with z | z
    · subst z
      refine nm_r hp0 ⟨v, nm_e (br_t (by decide) (nm_r (nI_1 0) (gy_255 ok hK hp0 hp h d (0 + 1) fuel _ (by omega) (by omega) (fun c hc => ?_))))⟩
      have : c = 0 := by omega
      subst this
      rw [pk_us, gp_sn_0]; rfl
    · obtain ⟨p1, p2⟩ := hp i z (by omega)
      obtain ⟨q1, q2⟩ := gp_pl_in ok (by omega) z
      obtain ⟨k0, k1, k2⟩ := hK (gp_pl kd i / 3) (by omega)
      have vp := vp_in_nI (show gp_pl kd i / 3 < 32 by omega) (by decide)
      refine nm_r p1 ⟨v, nm_e (br_f (nI_pos (by omega)) ⟨vp, vp, v, ?_⟩)⟩
      rw [nI_clamp (show gp_pl kd i / 3 < 2 ^ 31 by omega), k0, p2]
      refine gy_bd k1 k2 q2 ⟨v, nm_e (nm_r (nI_1 i) (gy_255 ok hK hp0 hp h d (i + 1) fuel _ (by omega) (by omega) (fun c hc => ?_)))⟩
      by_cases y : c = i
      · subst y
        rw [pk_us, pk_un (by omega), hs _ q1, nI_add, gp_sn_p ok (by omega) z]
      · rw [pk_un y, pk_un y]
        exact hs c (by omega)
theorem gy_318 {post : Int32 → SY → Prop} {kd : Nat → Nat} {n : Nat} (hn : n ≤ 32) (hK : ∀ i, i < n → a_kind i = nI (kd i) ∧ 1 ≤ kd i ∧ kd i ≤ 17) (hV : ∀ i, i < n → a_seen i = nI (gp_sn kd i))
    (hOK : (∀ i, i < n → ¬ gx_sc kd a_arg i) → ∃ f, wY_doCheck_367 post f_dLim f_rLim f_fLim (nI n) f_stat f_err f_out f_vInt f_recs f_drf f_fsp f 0 a_kind a_arg a_ch a_par a_pos a_seen a_st a_ty a_tyK a_tyG a_tyA a_tyB a_u a_bg a_ux a_uy a_stk a_eqA a_eqB a_rT a_rE a_rG a_rN a_rC a_rX a_fK a_fA a_fE)
    (hF : ∀ m, m < n → gx_sc kd a_arg m → (∀ i, i < m → ¬ gx_sc kd a_arg i) → post 3 (f_dLim, f_rLim, f_fLim, nI n, f_stat, nI m, f_out, f_vInt, f_recs, f_drf, f_fsp, a_kind, a_arg, a_ch, a_par, a_pos, a_seen, a_st, a_ty, a_tyK, a_tyG, a_tyA, a_tyB, a_u, a_bg, a_ux, a_uy, a_stk, a_eqA, a_eqB, a_rT, a_rE, a_rG, a_rN, a_rC, a_rX, a_fK, a_fA, a_fE)) :
    ∀ d i fuel, i + d = n → d < fuel → (∀ i', i' < i → ¬ gx_sc kd a_arg i') → wY_doCheck_318 post f_dLim f_rLim f_fLim (nI n) f_stat f_err f_out f_vInt f_recs f_drf f_fsp a_kind a_arg a_ch a_par a_pos a_seen a_st a_ty a_tyK a_tyG a_tyA a_tyB a_u a_bg a_ux a_uy a_stk a_eqA a_eqB a_rT a_rE a_rG a_rN a_rC a_rX a_fK a_fA a_fE fuel (nI i)
  | _, _, 0, _, hf, _ => by omega
  | 0, i, fuel + 1, hi, hf, hb => by
    have e : i = n := by omega
    subst e
    exact br_t (nI_le (Nat.le_refl _) (by omega)) (hOK hb)
  | d + 1, i, fuel + 1, hi, hf, hb => by
    have hin : i < n := by omega
    obtain ⟨k0, k1, k2⟩ := hK i hin
    have IH : ¬ gx_sc kd a_arg i → wY_doCheck_318 post f_dLim f_rLim f_fLim (nI n) f_stat f_err f_out f_vInt f_recs f_drf f_fsp a_kind a_arg a_ch a_par a_pos a_seen a_st a_ty a_tyK a_tyG a_tyA a_tyB a_u a_bg a_ux a_uy a_stk a_eqA a_eqB a_rT a_rE a_rG a_rN a_rC a_rX a_fK a_fA a_fE fuel (nI (i + 1)) := fun y =>
      gy_318 hn hK hV hOK hF d (i + 1) fuel (by omega) (by omega) (fun i' hi' => by
        rcases Nat.lt_or_ge i' i with z | z
        · exact hb i' z
        · have e : i' = i := by omega
          subst e
          exact y)
    refine br_f (nI_ge hin (by omega)) ⟨vp_in_nI (by omega) (by decide), ?_⟩
    rw [nI_clamp (show i < 2 ^ 31 by omega), k0, hV i hin]
    refine pk_eq (kd i) 6 (fun z => ⟨vp_in_nI (by omega) (by decide), vp_in_nI (by omega) (by decide), br_c (fun y => nm_r (nI_1 i) (IH (fun x => x.2 y))) (fun y => hF i hin ⟨z, y⟩ hb)⟩) (fun z => nm_r (nI_1 i) (IH (fun x => z x.1)))
theorem gy_367 {post : Int32 → SY → Prop} {kd : Nat → Nat} {n : Nat} (h0 : 0 < n) (hn : n ≤ 32) (hK : ∀ i, i < n → a_kind i = nI (kd i) ∧ 1 ≤ kd i ∧ kd i ≤ 17)
    (h : ∀ tK tG tA tB, (∀ c, c < n → tK c = nI (kd c) ∧ (kd c ≤ 5 → tG c = a_arg c) ∧ tA c = a_ch (3 * c) ∧ tB c = a_ch (3 * c + 1)) →
      ∃ f, wY_doCheck_476 post f 1 0 f_dLim f_rLim f_fLim (nI n) f_stat f_err f_out f_vInt f_recs f_drf f_fsp a_kind a_arg a_ch a_par a_pos a_seen (upd a_st 0 (nI (gp_ss (kd 0)))) a_ty tK tG tA tB a_u a_bg a_ux a_uy (upd a_stk 0 0) a_eqA a_eqB a_rT a_rE a_rG a_rN a_rC a_rX a_fK a_fA a_fE) :
    ∀ d i fuel (tK tG tA tB : Nat → Int32), i + d = n → d < fuel → (∀ c, c < i → tK c = nI (kd c) ∧ (kd c ≤ 5 → tG c = a_arg c) ∧ tA c = a_ch (3 * c) ∧ tB c = a_ch (3 * c + 1)) →
      wY_doCheck_367 post f_dLim f_rLim f_fLim (nI n) f_stat f_err f_out f_vInt f_recs f_drf f_fsp fuel (nI i) a_kind a_arg a_ch a_par a_pos a_seen a_st a_ty tK tG tA tB a_u a_bg a_ux a_uy a_stk a_eqA a_eqB a_rT a_rE a_rG a_rN a_rC a_rX a_fK a_fA a_fE
  | _, _, 0, _, _, _, _, _, hf, _ => by omega
  | 0, i, fuel + 1, tK, tG, tA, tB, hi, hf, hs => by
    have e : i = n := by omega
    subst e
    obtain ⟨k0, k1, k2⟩ := hK 0 h0
    refine br_t (nI_le (Nat.le_refl _) (by omega)) (nm_e ?_)
    rw [k0]
    exact gy_ss k1 k2 (nm_e (h tK tG tA tB hs))
  | d + 1, i, fuel + 1, tK, tG, tA, tB, hi, hf, hs => by
    have hin : i < n := by omega
    obtain ⟨k0, k1, k2⟩ := hK i hin
    have v := vp_in_nI (show i < 32 by omega) (by decide)
    have v64 := vp_in_nI (show i < 64 by omega) (by decide)
    have e3 : nI i * 3 = nI (3 * i) := by rw [show (nI i * 3 : Int32) = nI (i * 3) from pk_mul i 3, Nat.mul_comm]
    have go : ∀ g : Int32, (kd i ≤ 5 → g = a_arg i) → wY_doCheck_412 post (wY_doCheck_367 post f_dLim f_rLim f_fLim (nI n) f_stat f_err f_out f_vInt f_recs f_drf f_fsp fuel) (nI i) g (nI i) f_dLim f_rLim f_fLim (nI n) f_stat f_err f_out f_vInt f_recs f_drf f_fsp a_kind a_arg a_ch a_par a_pos a_seen a_st a_ty (upd tK i (nI (kd i))) tG tA tB a_u a_bg a_ux a_uy a_stk a_eqA a_eqB a_rT a_rE a_rG a_rN a_rC a_rX a_fK a_fA a_fE := by
      intro g hg
      unfold wY_doCheck_412
      rw [e3, nI_1, nI_clamp (show i < 2 ^ 31 by omega), nI_clamp (show 3 * i < 2 ^ 31 by omega), nI_clamp (show 3 * i + 1 < 2 ^ 31 by omega)]
      refine ⟨v64, nm_e ⟨vp_in_nI (by omega) (by decide), v64, nm_e ⟨vp_in_nI (by omega) (by decide), v64, nm_e (nm_r (nI_1 i) ?_)⟩⟩⟩
      refine gy_367 h0 hn hK h d (i + 1) fuel _ _ _ _ (by omega) (by omega) (fun c hc => ?_)
      by_cases z : c = i
      · subst z
        rw [pk_us, pk_us, pk_us, pk_us]
        exact ⟨rfl, hg, rfl, rfl⟩
      · rw [pk_un z, pk_un z, pk_un z, pk_un z]
        exact hs c (by omega)
    refine br_f (nI_ge hin (by omega)) ⟨v, v64, ?_⟩
    rw [nI_clamp (show i < 2 ^ 31 by omega), k0]
    refine nm_e ⟨v, pk_lt 5 (kd i) (fun z => go 0 (fun y => by omega)) (fun z => ⟨v, go (a_arg i) (fun _ => rfl)⟩)⟩
end

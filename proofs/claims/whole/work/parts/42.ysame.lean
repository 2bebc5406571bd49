/-! the reference's table: entries in use -/
def gy_o (kd : Nat → Nat) (n : Nat) (P : Nat → Prop) (y : Nat) : Prop := (y < n ∧ kd y ≤ 5) ∨ ∃ d, d < n ∧ P d ∧ ¬ kd d ≤ 5 ∧ y = 32 + d
theorem gy_o_lt {kd : Nat → Nat} {n y : Nat} {P : Nat → Prop} (hn : n ≤ 32) (h : gy_o kd n P y) : y < 64 := by
  rcases h with h | ⟨d, h1, _, _, h2⟩ <;> omega
def gy_c (kd : Nat → Nat) (n : Nat) (P : Nat → Prop) (T : gd_Tb) (y : Nat) : Prop := (¬ T.1 y = 1 → ∃ a, gy_o kd n P a ∧ T.2.2.1 y = nI a) ∧ (¬ T.1 y = 1 → ¬ T.1 y = 5 → ∃ b, gy_o kd n P b ∧ T.2.2.2 y = nI b)
theorem gy_cl {kd : Nat → Nat} {n : Nat} {P : Nat → Prop} {T : gd_Tb} (hn : n ≤ 32) (h : ∀ y, gy_o kd n P y → gy_c kd n P T y) : gd_cl T (gy_o kd n P) := by
  intro y hy
  refine ⟨fun h1 => ?_, fun h1 h5 => ?_⟩
  · obtain ⟨a, a1, a2⟩ := (h y hy).1 h1
    have := gy_o_lt hn a1
    unfold gd_L
    rw [a2, nI_clamp (by omega)]
    exact a1
  · obtain ⟨a, a1, a2⟩ := (h y hy).2 h1 h5
    have := gy_o_lt hn a1
    unfold gd_R
    rw [a2, nI_clamp (by omega)]
    exact a1
def gy_pr (O : Nat → Prop) (ea eb : Nat → Int32) : List (Nat × Nat) → Prop
  | [] => True
  | q :: R => ea R.length = nI q.1 ∧ eb R.length = nI q.2 ∧ O q.1 ∧ O q.2 ∧ gy_pr O ea eb R
theorem gy_pr_keep {O : Nat → Prop} {ea eb : Nat → Int32} {k : Nat} {x y : Int32} : ∀ {R : List (Nat × Nat)}, R.length ≤ k → gy_pr O ea eb R → gy_pr O (upd ea k x) (upd eb k y) R
  | [], _, _ => trivial
  | q :: R, hk, h => by
    simp only [List.length_cons] at hk
    exact ⟨by rw [pk_un (by omega)]; exact h.1, by rw [pk_un (by omega)]; exact h.2.1, h.2.2.1, h.2.2.2.1, gy_pr_keep (by omega) h.2.2.2.2⟩
theorem gy_pr_push {O : Nat → Prop} {ea eb : Nat → Int32} {k a b : Nat} {R : List (Nat × Nat)} (hk : k = R.length) (ha : O a) (hb : O b) (h : gy_pr O ea eb R) : gy_pr O (upd ea k (nI a)) (upd eb k (nI b)) ((a, b) :: R) := by
  subst hk
  exact ⟨pk_us, pk_us, ha, hb, gy_pr_keep (Nat.le_refl _) h⟩
section
variable {f_dLim f_rLim f_fLim f_n f_stat f_err f_out f_vInt f_recs f_drf f_fsp : Int32} {a_kind a_arg a_ch a_par a_pos a_seen a_st a_ty a_tyK a_tyG a_tyA a_tyB a_u a_bg a_ux a_uy a_stk a_eqA a_eqB a_rT a_rE a_rG a_rN a_rC a_rX a_fK a_fA a_fE : Nat → Int32}
theorem gy_same_l {post : Int32 → SY → Prop} {kd : Nat → Nat} {n : Nat} {P : Nat → Prop} {Q : Prop} (hn : n ≤ 32) (hc : ∀ y, gy_o kd n P y → gy_c kd n P (a_tyK, a_tyG, a_tyA, a_tyB) y)
    (h1 : Q → ∀ ea eb, post 1 (f_dLim, f_rLim, f_fLim, f_n, f_stat, f_err, f_out, f_vInt, f_recs, f_drf, f_fsp, a_kind, a_arg, a_ch, a_par, a_pos, a_seen, a_st, a_ty, a_tyK, a_tyG, a_tyA, a_tyB, a_u, a_bg, a_ux, a_uy, a_stk, ea, eb, a_rT, a_rE, a_rG, a_rN, a_rC, a_rX, a_fK, a_fA, a_fE)) (h0 : ¬ Q → ∀ ea eb, post 0 (f_dLim, f_rLim, f_fLim, f_n, f_stat, f_err, f_out, f_vInt, f_recs, f_drf, f_fsp, a_kind, a_arg, a_ch, a_par, a_pos, a_seen, a_st, a_ty, a_tyK, a_tyG, a_tyA, a_tyB, a_u, a_bg, a_ux, a_uy, a_stk, ea, eb, a_rT, a_rE, a_rG, a_rN, a_rC, a_rX, a_fK, a_fA, a_fE)) :
    ∀ fuel S it (l : List (Nat × Nat)) (ea eb : Nat → Int32), S < fuel → it + S < 1000000 → gy_pr (gy_o kd n P) ea eb l → gs_st (gd_D (a_tyK, a_tyG, a_tyA, a_tyB)) l S → (Q ↔ gs_al (gd_D (a_tyK, a_tyG, a_tyA, a_tyB)) l) →
      wY_same_19 post f_dLim f_rLim f_fLim f_n f_stat f_err f_out f_vInt f_recs f_drf f_fsp fuel (nI l.length) (nI it) a_kind a_arg a_ch a_par a_pos a_seen a_st a_ty a_tyK a_tyG a_tyA a_tyB a_u a_bg a_ux a_uy a_stk ea eb a_rT a_rE a_rG a_rN a_rC a_rX a_fK a_fA a_fE
  | 0, _, _, _, _, _, hf, _, _, _, _ => by omega
  | fuel + 1, S, it, [], ea, eb, hf, hi, hp, hs, hq => by
    exact br_f (nI_ge (b := 1000000) (by omega) (by decide)) (br_t (by decide) (br_t rfl (h1 (hq.mpr (fun q z => by cases z)) ea eb)))
  | fuel + 1, S, it, q :: R, ea, eb, hf, hi, hp, hs, hq => by
    obtain ⟨p1, p2, p3, p4, p5⟩ := hp
    obtain ⟨s1, s2, s3⟩ := gs_st_p hs
    have x64 := gy_o_lt hn p3
    have y64 := gy_o_lt hn p4
    have ex : (nI q.1).toNatClampNeg = q.1 := nI_clamp (by omega)
    have ey : (nI q.2).toNatClampNeg = q.2 := nI_clamp (by omega)
    have vx := vp_in_nI x64 (by decide)
    have vy := vp_in_nI y64 (by decide)
    have vR := vp_in_nI (show R.length < 128 by omega) (by decide)
    have eR : (nI R.length).toNatClampNeg = R.length := nI_clamp (by omega)
    have IH : ∀ l ea' eb', gy_pr (gy_o kd n P) ea' eb' l → gs_st (gd_D (a_tyK, a_tyG, a_tyA, a_tyB)) l (S - 1) → (Q ↔ gs_al (gd_D (a_tyK, a_tyG, a_tyA, a_tyB)) l) → wY_same_19 post f_dLim f_rLim f_fLim f_n f_stat f_err f_out f_vInt f_recs f_drf f_fsp fuel (nI l.length) (nI (it + 1)) a_kind a_arg a_ch a_par a_pos a_seen a_st a_ty a_tyK a_tyG a_tyA a_tyB a_u a_bg a_ux a_uy a_stk ea' eb' a_rT a_rE a_rG a_rN a_rC a_rX a_fK a_fA a_fE :=
      fun l ea' eb' a b c => gy_same_l hn hc h1 h0 fuel (S - 1) (it + 1) l ea' eb' (by omega) (by omega) a b c
    simp only [List.length_cons]
    refine br_f (nI_ge (b := 1000000) (by omega) (by decide)) (br_f (nI_nle (by omega) (by omega)) (nm_r (pk_m1 _) ?_))
    rw [eR, p1, p2]
    refine ⟨vR, nm_e ⟨vR, nm_e (br_f (nI_pos (by omega)) (br_f (nI_nlt (b := q.1) (a := 63) (by omega) (by decide)) (br_f (nI_pos (by omega)) (br_t (nI_le (a := q.2) (b := 63) (by omega) (by decide)) ⟨vx, vy, ?_⟩))))⟩⟩
    rw [ex, ey]
    refine br_c (fun ek => ⟨vx, vy, br_c (fun eg => ⟨vx, br_c (fun k1 => ?_) (fun n1 => ?_)⟩) (fun ng => ?_)⟩) (fun nk => ?_)
    · refine nm_r (nI_1 it) (IH R ea eb p5 s3 ?_)
      rw [hq, gs_al_c]
      exact ⟨fun z => z.2, fun z => ⟨gd_iff1 (T := (a_tyK, a_tyG, a_tyA, a_tyB)) ek eg k1, z⟩⟩
    · refine br_f (nI_ge (b := 126) (by omega) (by decide)) ⟨vx, vR, ?_⟩
      obtain ⟨a, a1, a2⟩ := (hc _ p3).1 n1
      obtain ⟨b, b1, b2⟩ := (hc _ p4).1 (by show ¬ a_tyK q.2 = 1; rw [← ek]; exact n1)
      have a64 := gy_o_lt hn a1
      have b64 := gy_o_lt hn b1
      have eL : gd_L (a_tyK, a_tyG, a_tyA, a_tyB) q.1 = a := by unfold gd_L; rw [a2]; exact nI_clamp (by omega)
      have eL' : gd_L (a_tyK, a_tyG, a_tyA, a_tyB) q.2 = b := by unfold gd_L; rw [b2]; exact nI_clamp (by omega)
      have dL : gd_D (a_tyK, a_tyG, a_tyA, a_tyB) a = gt_l (gd_D (a_tyK, a_tyG, a_tyA, a_tyB) q.1) := by rw [← eL]; exact gd_l rfl n1
      dsimp only at a2 b2
      rw [a2, b2]
      refine nm_e ⟨vy, vR, nm_e (nm_r (nI_1 _) ⟨vx, br_c (fun k5 => nm_r (nI_1 it) ?_) (fun n5 => ⟨vx, vp_in_nI (by omega) (by decide), ?_⟩)⟩)⟩
      · refine IH ((a, b) :: R) _ _ (gy_pr_push rfl a1 b1 p5) (gs_st_5 hs (by exact k5) dL) ?_
        rw [hq, gs_al_c, gs_al_c]
        dsimp only
        rw [gd_iff5 (T := (a_tyK, a_tyG, a_tyA, a_tyB)) ek eg k5, eL, eL']
      · obtain ⟨a', a1', a2'⟩ := (hc _ p3).2 n1 n5
        obtain ⟨b', b1', b2'⟩ := (hc _ p4).2 (by show ¬ a_tyK q.2 = 1; rw [← ek]; exact n1) (by show ¬ a_tyK q.2 = 5; rw [← ek]; exact n5)
        have a64' := gy_o_lt hn a1'
        have b64' := gy_o_lt hn b1'
        have eR' : gd_R (a_tyK, a_tyG, a_tyA, a_tyB) q.1 = a' := by unfold gd_R; rw [a2']; exact nI_clamp (by omega)
        have eR2 : gd_R (a_tyK, a_tyG, a_tyA, a_tyB) q.2 = b' := by unfold gd_R; rw [b2']; exact nI_clamp (by omega)
        have dR : gd_D (a_tyK, a_tyG, a_tyA, a_tyB) a' = gt_r (gd_D (a_tyK, a_tyG, a_tyA, a_tyB) q.1) := by rw [← eR']; exact gd_r rfl n1 n5
        dsimp only at a2' b2'
        rw [a2', b2', nI_clamp (show R.length + 1 < 2 ^ 31 by omega)]
        refine nm_e ⟨vy, vp_in_nI (by omega) (by decide), nm_e (nm_r (nI_1 _) (nm_r (nI_1 it) ?_))⟩
        refine IH ((a', b') :: (a, b) :: R) _ _ (gy_pr_push rfl a1' b1' (gy_pr_push rfl a1 b1 p5)) (gs_st_2 hs n1 n5 dL dR) ?_
        rw [hq, gs_al_c, gs_al_c, gs_al_c]
        dsimp only
        rw [gd_iff2 (T := (a_tyK, a_tyG, a_tyA, a_tyB)) ek eg n1 n5, eL, eL', eR', eR2]
        exact ⟨fun z => ⟨z.1.2, z.1.1, z.2⟩, fun z => ⟨⟨z.2.1, z.1⟩, z.2.2⟩⟩
    · exact h0 (fun z => ng (gd_lab (T := (a_tyK, a_tyG, a_tyA, a_tyB)) (T' := (a_tyK, a_tyG, a_tyA, a_tyB)) (gs_al_c.mp (hq.mp z)).1).2) ea eb
    · exact h0 (fun z => nk (gd_lab (T := (a_tyK, a_tyG, a_tyA, a_tyB)) (T' := (a_tyK, a_tyG, a_tyA, a_tyB)) (gs_al_c.mp (hq.mp z)).1).1) ea eb
theorem gy_same {post : Int32 → SY → Prop} {kd : Nat → Nat} {n a b : Nat} {P : Nat → Prop} (hn : n ≤ 32) (hc : ∀ y, gy_o kd n P y → gy_c kd n P (a_tyK, a_tyG, a_tyA, a_tyB) y) (ha : gy_o kd n P a) (hb : gy_o kd n P b) (hfit : gs_fit 32 (gs_F 32) (gd_D (a_tyK, a_tyG, a_tyA, a_tyB) a))
    (h1 : gd_D (a_tyK, a_tyG, a_tyA, a_tyB) a = gd_D (a_tyK, a_tyG, a_tyA, a_tyB) b → ∀ ea eb, post 1 (f_dLim, f_rLim, f_fLim, f_n, f_stat, f_err, f_out, f_vInt, f_recs, f_drf, f_fsp, a_kind, a_arg, a_ch, a_par, a_pos, a_seen, a_st, a_ty, a_tyK, a_tyG, a_tyA, a_tyB, a_u, a_bg, a_ux, a_uy, a_stk, ea, eb, a_rT, a_rE, a_rG, a_rN, a_rC, a_rX, a_fK, a_fA, a_fE)) (h0 : ¬ gd_D (a_tyK, a_tyG, a_tyA, a_tyB) a = gd_D (a_tyK, a_tyG, a_tyA, a_tyB) b → ∀ ea eb, post 0 (f_dLim, f_rLim, f_fLim, f_n, f_stat, f_err, f_out, f_vInt, f_recs, f_drf, f_fsp, a_kind, a_arg, a_ch, a_par, a_pos, a_seen, a_st, a_ty, a_tyK, a_tyG, a_tyA, a_tyB, a_u, a_bg, a_ux, a_uy, a_stk, ea, eb, a_rT, a_rE, a_rG, a_rN, a_rC, a_rX, a_fK, a_fA, a_fE)) : wpY_same post (f_dLim, f_rLim, f_fLim, f_n, f_stat, f_err, f_out, f_vInt, f_recs, f_drf, f_fsp, a_kind, a_arg, a_ch, a_par, a_pos, a_seen, a_st, a_ty, a_tyK, a_tyG, a_tyA, a_tyB, a_u, a_bg, a_ux, a_uy, a_stk, a_eqA, a_eqB, a_rT, a_rE, a_rG, a_rN, a_rC, a_rX, a_fK, a_fA, a_fE) (nI a) (nI b) := by
  refine nm_e (nm_e ⟨gs_F 32 + 1, ?_⟩)
  refine gy_same_l hn hc h1 h0 (gs_F 32 + 1) (gs_F 32) 0 [(a, b)] _ _ (by omega) (by decide) ⟨pk_us, pk_us, ha, hb, trivial⟩ ⟨32, gs_F 32, by decide, Nat.le_refl _, hfit, trivial⟩ ?_
  rw [gs_al_c]
  exact ⟨fun z => ⟨z, fun q hq => by cases hq⟩, fun z => z.1⟩
end

/-! the machine's steps and what they ask of the records -/
theorem gz_m0 (g : Nat) : gt_mul g 0 = 0 := by unfold gt_mul; rw [Nat.mul_zero]; rfl
theorem gz_se {a : Int32} {m : Nat} (h : a = 3 ∨ m ≤ a.toNatClampNeg) : m ≤ gt_se a m := by
  unfold gt_se
  split
  · exact Nat.le_refl _
  · rename_i z
    exact h.elim (fun y => absurd y z) (fun y => y)
theorem gz_ml (a b : Nat) : a ≤ gt_max a b ∧ b ≤ gt_max a b := by
  unfold gt_max
  split <;> omega
section
variable (kd : Nat → Nat) (ag : Nat → Int32) (n : Nat)
noncomputable def gz_K (tn te rs gr co : Nat → Nat) (rc : Nat) (D : Nat → Nat) (F : gm_Fr) : Prop := ∀ r, 1 ≤ r → r ≤ rc → gt_add (D r) (gt_add (gz_fd kd ag n rs F r) (gz_rs kd ag n tn te rs gr co rc r)) ≤ gz_mu (gr r) (co r) ∧ gr r ≤ 2 ∧ (gr r = 0 → co r = 0) ∧ (gr r = 1 → co r ≤ 1)
end
section
variable {kd : Nat → Nat} {ag : Nat → Int32} {n : Nat} {tn te rs gr co : Nat → Nat} {rc t e : Nat} {F : gm_Fr}
theorem gz_fd_x {rs' : Nat → Nat} (ok : gp_ok kd n) (ha : ∀ r, 1 ≤ r → r ≤ rc → rs' r = rs r) (r : Nat) : ∀ {F : gm_Fr} {τ : gt_Ty}, gm_fr kd ag n tn rs rc τ F → (∀ x, x ∈ F → x.1 = 0 ∨ x.1 = 8) → gz_fd kd ag n rs' F r = gz_fd kd ag n rs F r ∧ (rc < r → gz_fd kd ag n rs F r = 0)
  | [], _, _, _ => ⟨rfl, fun _ => rfl⟩
  | (m, w, e) :: R, τ, h, h8 => by
    rcases h with ⟨h1, h2, h3, σ, h4, h5⟩ | ⟨h1, d, h2, h3, h4, h5, h6, h7, σ, h9, h10⟩
    · have ih := gz_fd_x ok ha r h5 (fun x hx => h8 x (List.mem_cons_of_mem _ hx))
      subst h1
      refine ⟨?_, fun z => ?_⟩
      · show gt_add 0 (gz_fd kd ag n rs' R r) = gt_add 0 (gz_fd kd ag n rs R r)
        rw [ih.1]
      · show gt_add 0 (gz_fd kd ag n rs R r) = 0
        rw [ih.2 z]; rfl
    · have ih := gz_fd_x ok ha r h10 (fun x hx => h8 x (List.mem_cons_of_mem _ hx))
      have m8 : m = 8 := by
        rcases h8 _ List.mem_cons_self with z | z
        · dsimp only at z
          rcases h1 with y | y | y | y | y <;> omega
        · exact z
      subst m8
      subst h3
      have hn := ok.2.1
      have V : ∀ i, i < gp_sn kd (gp_ch kd n d 1) → 1 ≤ gm_nth rs e i ∧ gm_nth rs e i ≤ rc := by
        intro i hi
        rw [gp_sn_ch ok h2 (by rw [h4]; decide), h4] at hi
        have := h7 i hi
        exact ⟨this.1, this.2.1⟩
      have ec : (nI d).toNatClampNeg = d := nI_clamp (by omega)
      refine ⟨?_, fun z => ?_⟩
      · show gt_add (gz_us kd ag n rs' (gp_ch kd n (nI d).toNatClampNeg 1) e r) (gz_fd kd ag n rs' R r) = gt_add (gz_us kd ag n rs (gp_ch kd n (nI d).toNatClampNeg 1) e r) (gz_fd kd ag n rs R r)
        rw [ec, ih.1]
        unfold gz_us
        rw [gz_uf_x V ha]
      · show gt_add (gz_us kd ag n rs (gp_ch kd n (nI d).toNatClampNeg 1) e r) (gz_fd kd ag n rs R r) = 0
        rw [ec, ih.2 z]
        unfold gz_us
        rw [gz_uf_z V z]
        rfl
theorem gz_V {a ea : Nat} (h : gm_E kd ag n tn rs rc ea a) : ∀ i, i < gp_sn kd a → 1 ≤ gm_nth rs ea i ∧ gm_nth rs ea i ≤ rc := fun i hi => ⟨(h i hi).1, (h i hi).2.1⟩
theorem gz_rs_p {a ea e0 g : Nat} (hR : gm_R kd ag n tn te rs rc) (Va : ∀ i, i < gp_sn kd a → 1 ≤ gm_nth rs ea i ∧ gm_nth rs ea i ≤ rc) (hg : g ≤ 2) (r : Nat) :
    gz_rs kd ag n (gm_up tn (rc + 1) a) (gm_up te (rc + 1) ea) (gm_up rs (rc + 1) e0) (gm_up gr (rc + 1) g) (gm_up co (rc + 1) 0) (rc + 1) r = gt_add (gz_rs kd ag n tn te rs gr co rc r) (gt_mul g (gz_us kd ag n rs a ea r)) := by
  have ha : ∀ r, 1 ≤ r → r ≤ rc → gm_up rs (rc + 1) e0 r = rs r := fun r _ hr => gm_up_n (by omega)
  unfold gz_rs
  show gt_add (gz_sm (fun i => gt_mul (gz_mu (gm_up gr (rc + 1) g (i + 1)) (gm_up co (rc + 1) 0 (i + 1))) (gz_us kd ag n (gm_up rs (rc + 1) e0) (gm_up tn (rc + 1) a (i + 1)) (gm_up te (rc + 1) ea (i + 1)) r)) rc)
    (gt_mul (gz_mu (gm_up gr (rc + 1) g (rc + 1)) (gm_up co (rc + 1) 0 (rc + 1))) (gz_us kd ag n (gm_up rs (rc + 1) e0) (gm_up tn (rc + 1) a (rc + 1)) (gm_up te (rc + 1) ea (rc + 1)) r)) = _
  have l : gz_sm (fun i => gt_mul (gz_mu (gm_up gr (rc + 1) g (i + 1)) (gm_up co (rc + 1) 0 (i + 1))) (gz_us kd ag n (gm_up rs (rc + 1) e0) (gm_up tn (rc + 1) a (i + 1)) (gm_up te (rc + 1) ea (i + 1)) r)) rc =
      gz_sm (fun i => gt_mul (gz_mu (gr (i + 1)) (co (i + 1))) (gz_us kd ag n rs (tn (i + 1)) (te (i + 1)) r)) rc := by
    refine gz_sm_eq (fun i hi => ?_)
    have ne : i + 1 ≠ rc + 1 := by omega
    rw [gm_up_n ne, gm_up_n ne, gm_up_n ne, gm_up_n ne]
    unfold gz_us
    rw [gz_uf_x (gz_V (hR (i + 1) (by omega) (by omega)).2.2.2.2) ha]
  rw [l, gm_up_s, gm_up_s, gm_up_s, gm_up_s, gz_mu_new hg]
  unfold gz_us
  rw [gz_uf_x Va ha]
theorem gz_rs_z (hR : gm_R kd ag n tn te rs rc) {r : Nat} (hr : rc < r) : gz_rs kd ag n tn te rs gr co rc r = 0 := by
  unfold gz_rs
  refine gz_sm_0 (fun i hi => ?_)
  unfold gz_us
  rw [gz_uf_z (gz_V (hR (i + 1) (by omega) (by omega)).2.2.2.2) hr, gz_m0]
/-- a new record -/
theorem gz_new {a ea e0 g : Nat} {D D' : Nat → Nat} {τ : gt_Ty} (ok : gp_ok kd n) (hR : gm_R kd ag n tn te rs rc) (hF : gm_fr kd ag n tn rs rc τ F) (h8 : ∀ x, x ∈ F → x.1 = 0 ∨ x.1 = 8) (Va : ∀ i, i < gp_sn kd a → 1 ≤ gm_nth rs ea i ∧ gm_nth rs ea i ≤ rc) (hg : g ≤ 2)
    (K : gz_K kd ag n tn te rs gr co rc D F) (hD : ∀ r, 1 ≤ r → r ≤ rc → gt_add (D' r) (gt_mul g (gz_us kd ag n rs a ea r)) ≤ D r) (hn : D' (rc + 1) ≤ g) :
    gz_K kd ag n (gm_up tn (rc + 1) a) (gm_up te (rc + 1) ea) (gm_up rs (rc + 1) e0) (gm_up gr (rc + 1) g) (gm_up co (rc + 1) 0) (rc + 1) D' F := by
  intro r h1 h2
  have fx := gz_fd_x (rs' := gm_up rs (rc + 1) e0) ok (fun r _ hr => gm_up_n (by omega)) r hF h8
  rw [fx.1, gz_rs_p hR Va hg r]
  rcases Nat.lt_or_ge rc r with z | z
  · have er : r = rc + 1 := by omega
    subst er
    rw [gm_up_s, gm_up_s, gz_mu_new hg, fx.2 z, gz_rs_z hR z]
    unfold gz_us
    rw [gz_uf_z Va z, gz_m0]
    refine ⟨?_, hg, fun _ => rfl, fun _ => by omega⟩
    show gt_add (D' (rc + 1)) 0 ≤ g
    rw [gt_add_0 (by omega)]
    exact hn
  · have ne : r ≠ rc + 1 := by omega
    rw [gm_up_n ne, gm_up_n ne]
    obtain ⟨T, T2⟩ := K r h1 z
    refine ⟨Nat.le_trans ?_ T, T2⟩
    rw [gt_add_c (gz_rs kd ag n tn te rs gr co rc r) _, gz_lc (gz_fd kd ag n rs F r), ← gz_as]
    exact gz_mono (hD r h1 z) (Nat.le_refl _)
theorem gz_n1 {d a c g : Nat} {τ : gt_Ty} (ok : gp_ok kd n) (hR : gm_R kd ag n tn te rs rc) (hF : gm_fr kd ag n tn rs rc τ F) (hV : ∀ i, i < gp_sn kd d → 1 ≤ gm_nth rs e i ∧ gm_nth rs e i ≤ rc) (sa : gp_sn kd a = gp_sn kd d) (sc : gp_sn kd c = gp_sn kd d + 1)
    (ua : ∀ v, gt_u kd ag n a v ≤ 2) (hg : g ≤ 2) (hU : ∀ v, gt_add (gt_u kd ag n c v) (gt_mul g (gt_u kd ag n a v)) ≤ gt_u kd ag n d v) (hc : gt_u kd ag n c (gp_sn kd d) ≤ g) (G : gz_I kd ag n tn te rs gr co rc d e F) :
    gz_I kd ag n (gm_up tn (rc + 1) a) (gm_up te (rc + 1) e) (gm_up rs (rc + 1) e) (gm_up gr (rc + 1) g) (gm_up co (rc + 1) 0) (rc + 1) c (rc + 1) F := by
  have ha : ∀ r, 1 ≤ r → r ≤ rc → gm_up rs (rc + 1) e r = rs r := fun r _ hr => gm_up_n (by omega)
  have us : ∀ r, gz_us kd ag n (gm_up rs (rc + 1) e) c (rc + 1) r = gt_add (if rc + 1 = r then gt_u kd ag n c (gp_sn kd d) else 0) (gz_uf rs (gt_u kd ag n c) (gp_sn kd d) e r) := by
    intro r
    unfold gz_us
    rw [sc, gz_uf_c, gm_up_s, gz_uf_x hV ha]
  refine ⟨G.1, gz_new (D := fun r => gz_us kd ag n rs d e r) (D' := fun r => gz_us kd ag n (gm_up rs (rc + 1) e) c (rc + 1) r) ok hR hF G.1 (by rw [sa]; exact hV) hg G.2 (fun r h1 h2 => ?_) ?_⟩
  · dsimp only
    rw [us r, if_neg (by omega), gz_0 _ (gz_uf_le _ _ _ _ _)]
    unfold gz_us
    rw [sa, ← gz_uf_mul hg _ _ _ _ _ ua, ← gz_uf_add]
    exact gz_uf_mono hU
  · dsimp only
    rw [us, if_pos rfl, gz_uf_z hV (by omega), gt_add_0 (by omega)]
    exact hc
theorem gz_n2 {d a b c g : Nat} {τ : gt_Ty} (ok : gp_ok kd n) (hR : gm_R kd ag n tn te rs rc) (hR1 : gm_R kd ag n (gm_up tn (rc + 1) a) (gm_up te (rc + 1) e) (gm_up rs (rc + 1) e) (rc + 1)) (hF : gm_fr kd ag n tn rs rc τ F) (hV : ∀ i, i < gp_sn kd d → 1 ≤ gm_nth rs e i ∧ gm_nth rs e i ≤ rc) (sa : gp_sn kd a = gp_sn kd d) (sb : gp_sn kd b = gp_sn kd d) (sc : gp_sn kd c = gp_sn kd d + 1 + 1)
    (ua : ∀ v, gt_u kd ag n a v ≤ 2) (ub : ∀ v, gt_u kd ag n b v ≤ 2) (hg : g ≤ 2) (hU : ∀ v, gt_add (gt_add (gt_u kd ag n c v) (gt_mul g (gt_u kd ag n b v))) (gt_mul g (gt_u kd ag n a v)) ≤ gt_u kd ag n d v) (hx : gt_u kd ag n c (gp_sn kd d) ≤ g) (hy : gt_u kd ag n c (gp_sn kd d + 1) ≤ g) (G : gz_I kd ag n tn te rs gr co rc d e F) :
    gz_I kd ag n (gm_up (gm_up tn (rc + 1) a) (rc + 1 + 1) b) (gm_up (gm_up te (rc + 1) e) (rc + 1 + 1) e) (gm_up (gm_up rs (rc + 1) e) (rc + 1 + 1) (rc + 1)) (gm_up (gm_up gr (rc + 1) g) (rc + 1 + 1) g) (gm_up (gm_up co (rc + 1) 0) (rc + 1 + 1) 0) (rc + 1 + 1) c (rc + 1 + 1) F := by
  have ha : ∀ r, 1 ≤ r → r ≤ rc → gm_up rs (rc + 1) e r = rs r := fun r _ hr => gm_up_n (by omega)
  have ha2 : ∀ r, 1 ≤ r → r ≤ rc → gm_up (gm_up rs (rc + 1) e) (rc + 1 + 1) (rc + 1) r = rs r := fun r _ hr => by rw [gm_up_n (by omega), gm_up_n (by omega)]
  have us : ∀ r, gz_us kd ag n (gm_up (gm_up rs (rc + 1) e) (rc + 1 + 1) (rc + 1)) c (rc + 1 + 1) r = gt_add (if rc + 1 + 1 = r then gt_u kd ag n c (gp_sn kd d + 1) else 0) (gt_add (if rc + 1 = r then gt_u kd ag n c (gp_sn kd d) else 0) (gz_uf rs (gt_u kd ag n c) (gp_sn kd d) e r)) := by
    intro r
    unfold gz_us
    rw [sc, gz_uf_c, gm_up_s, gz_uf_c, gm_up_n (show rc + 1 ≠ rc + 1 + 1 by omega), gm_up_s, gz_uf_x hV ha2]
  have ub1 : ∀ r, gz_us kd ag n (gm_up rs (rc + 1) e) b e r = gz_us kd ag n rs b e r := by
    intro r
    unfold gz_us
    rw [sb, gz_uf_x hV ha]
  have Vb : ∀ i, i < gp_sn kd b → 1 ≤ gm_nth (gm_up rs (rc + 1) e) e i ∧ gm_nth (gm_up rs (rc + 1) e) e i ≤ rc + 1 := by
    intro i hi
    rw [sb] at hi
    rw [gz_nth_x hV ha i hi]
    have := hV i hi
    exact ⟨this.1, by omega⟩
  have hF1 := gm_fr_x (tn' := gm_up tn (rc + 1) a) (rs' := gm_up rs (rc + 1) e) (rc' := rc + 1) (by omega) gm_up_ag hF
  have K1 := gz_new (a := a) (ea := e) (e0 := e) (g := g) (D := fun r => gz_us kd ag n rs d e r) (D' := fun r => if r = rc + 1 then gt_u kd ag n c (gp_sn kd d) else gt_add (gz_uf rs (gt_u kd ag n c) (gp_sn kd d) e r) (gt_mul g (gz_us kd ag n rs b e r))) ok hR hF G.1 (by rw [sa]; exact hV) hg G.2 (fun r h1 h2 => by
    dsimp only
    rw [if_neg (by omega)]
    unfold gz_us
    rw [sa, sb, ← gz_uf_mul hg _ _ _ _ _ ua, ← gz_uf_mul hg _ _ _ _ _ ub, ← gz_uf_add, ← gz_uf_add]
    exact gz_uf_mono hU) (by dsimp only; rw [if_pos rfl]; exact hx)
  refine ⟨G.1, gz_new (D := fun r => if r = rc + 1 then gt_u kd ag n c (gp_sn kd d) else gt_add (gz_uf rs (gt_u kd ag n c) (gp_sn kd d) e r) (gt_mul g (gz_us kd ag n rs b e r))) (D' := fun r => gz_us kd ag n (gm_up (gm_up rs (rc + 1) e) (rc + 1 + 1) (rc + 1)) c (rc + 1 + 1) r) ok hR1 hF1 G.1 Vb hg K1 (fun r h1 h2 => ?_) ?_⟩
  · dsimp only
    rw [us r, if_neg (by omega), gz_0 _ (gt_add_le _ _), ub1]
    by_cases z : r = rc + 1
    · subst z
      rw [if_pos rfl, if_pos rfl, gz_uf_z hV (by omega), gt_add_0 (by omega)]
      unfold gz_us
      rw [sb, gz_uf_z hV (by omega), gz_m0, gt_add_0 (by omega)]
      exact Nat.le_refl _
    · rw [if_neg z, if_neg (fun y => z y.symm), gz_0 _ (gz_uf_le _ _ _ _ _)]
      exact Nat.le_refl _
  · dsimp only
    rw [us, if_pos rfl, if_neg (by omega), gz_uf_z hV (by omega)]
    show gt_add (gt_u kd ag n c (gp_sn kd d + 1)) 0 ≤ g
    rw [gt_add_0 (by omega)]
    exact hy
end

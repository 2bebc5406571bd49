/-! in the law's programs the first child of APP, LETPAIR, CASE, LETBOX is a value: the next node -/
def gz_L (kd : Nat → Nat) (n : Nat) : Prop := ∀ d, d + 1 < n → (kd d = 10 → kd (d + 1) = 9) ∧ (kd d = 12 → kd (d + 1) = 11) ∧ (kd d = 15 → kd (d + 1) = 13 ∨ kd (d + 1) = 14) ∧ (kd d = 17 → kd (d + 1) = 16)
def gz_ln (k : Nat) : Prop := k = 10 ∨ k = 12 ∨ k = 15 ∨ k = 17
section
variable (kd : Nat → Nat) (ag : Nat → Int32) (n : Nat)
/-- what is asked, also while such a value is in focus -/
noncomputable def gz_J (tn te rs gr co : Nat → Nat) (rc t e : Nat) (F : gm_Fr) : Prop := gz_I kd ag n tn te rs gr co rc t e F ∨ ∃ d R, F = (kd d, nI d, e) :: R ∧ d < n ∧ gz_ln (kd d) ∧ t = gp_ch kd n d 0 ∧ gz_I kd ag n tn te rs gr co rc d e R
end
def gz_Q (rc : Nat) (gr co : Nat → Nat) : Prop := ∀ r, 1 ≤ r → r ≤ rc → gr r ≤ 2 ∧ (gr r = 0 → co r = 0) ∧ (gr r = 1 → co r ≤ 1)
theorem gz_Q_p {rc g : Nat} {gr co : Nat → Nat} (h : gz_Q rc gr co) (hg : g ≤ 2) : gz_Q (rc + 1) (gm_up gr (rc + 1) g) (gm_up co (rc + 1) 0) := by
  intro r a b
  by_cases z : r = rc + 1
  · subst z
    rw [gm_up_s, gm_up_s]
    exact ⟨hg, fun _ => rfl, fun _ => by omega⟩
  · rw [gm_up_n z, gm_up_n z]
    exact h r a (by omega)
section
variable {kd : Nat → Nat} {ag : Nat → Int32} {n : Nat} {tn te rs gr co : Nat → Nat} {rc t e : Nat} {F : gm_Fr}
theorem gz_J_Q (J : gz_J kd ag n tn te rs gr co rc t e F) : gz_Q rc gr co := by
  rcases J with G | ⟨d, R, _, _, _, _, G⟩
  · exact fun r a b => (G.2 r a b).2
  · exact fun r a b => (G.2 r a b).2
theorem gz_J_I (L : gz_L kd n) (ht : t < n) (J : gz_J kd ag n tn te rs gr co rc t e F) (hk : ¬ (kd t = 9 ∨ kd t = 11 ∨ kd t = 13 ∨ kd t = 14 ∨ kd t = 16)) : gz_I kd ag n tn te rs gr co rc t e F := by
  rcases J with G | ⟨d, R, _, _, ln, et, _⟩
  · exact G
  · have e1 : t = d + 1 := et
    obtain ⟨a, b, c, f⟩ := L d (by omega)
    rw [← e1] at a b c f
    refine absurd ?_ hk
    rcases ln with z | z | z | z
    · exact Or.inl (a z)
    · exact Or.inr (Or.inl (b z))
    · exact Or.inr (Or.inr ((c z).elim Or.inl (fun y => Or.inr (Or.inl y))))
    · exact Or.inr (Or.inr (Or.inr (Or.inr (f z))))
theorem gz_j_go (ok : gp_ok kd n) (L : gz_L kd n) (ht : t < n) (J : gz_J kd ag n tn te rs gr co rc t e F) (hk : gm_go (kd t)) : gz_J kd ag n tn te rs gr co rc (gp_ch kd n t 0) e ((kd t, nI t, e) :: F) := by
  have hn := ok.2.1
  have G := gz_J_I L ht J (by rcases hk with z | z | z | z | z <;> omega)
  rcases hk with z | z
  · have s0 : gp_sn kd (gp_ch kd n t 0) = gp_sn kd t := by rw [gp_sn_ch ok ht (by rw [z]; decide), gp_bd_0, Nat.add_zero]
    have s1 : gp_sn kd (gp_ch kd n t 1) = gp_sn kd t := by rw [gp_sn_ch ok ht (by rw [z]; decide), z]; rfl
    refine Or.inl ⟨fun x hx => ?_, fun r h1 h2 => ?_⟩
    · rcases List.mem_cons.mp hx with y | y
      · subst y; exact Or.inr z
      · exact G.1 x y
    · obtain ⟨T, T2⟩ := G.2 r h1 h2
      refine ⟨Nat.le_trans (Nat.le_of_eq ?_) T, T2⟩
      have us : gz_us kd ag n rs t e r = gt_add (gz_us kd ag n rs (gp_ch kd n t 0) e r) (gz_us kd ag n rs (gp_ch kd n t 1) e r) := by
        have ef : gt_u kd ag n t = fun v => gt_add (gt_u kd ag n (gp_ch kd n t 0) v) (gt_u kd ag n (gp_ch kd n t 1) v) := funext (fun v => gt_u8 ok ht z v)
        unfold gz_us
        rw [s0, s1, ef, gz_uf_add]
      show gt_add (gz_us kd ag n rs (gp_ch kd n t 0) e r) (gt_add (gt_add (if kd t = 0 then 0 else gz_us kd ag n rs (gp_ch kd n (nI t).toNatClampNeg 1) e r) (gz_fd kd ag n rs F r)) (gz_rs kd ag n tn te rs gr co rc r)) =
        gt_add (gz_us kd ag n rs t e r) (gt_add (gz_fd kd ag n rs F r) (gz_rs kd ag n tn te rs gr co rc r))
      rw [if_neg (by omega), nI_clamp (by omega), us, gz_as, gz_as]
  · exact Or.inr ⟨t, F, rfl, ht, z, rfl, G⟩
theorem gz_j_0 {e' : Nat} {w : Int32} {R : gm_Fr} (J : gz_J kd ag n tn te rs gr co rc t e ((0, w, e') :: R)) : gz_J kd ag n tn te rs gr co rc t e R := by
  rcases J with G | ⟨d, R', eF, _, ln, _, _⟩
  · refine Or.inl ⟨fun x hx => G.1 x (List.mem_cons_of_mem _ hx), fun r h1 h2 => ?_⟩
    obtain ⟨T, T2⟩ := G.2 r h1 h2
    refine ⟨Nat.le_trans (Nat.le_of_eq ?_) T, T2⟩
    show gt_add (gz_us kd ag n rs t e r) (gt_add (gz_fd kd ag n rs R r) (gz_rs kd ag n tn te rs gr co rc r)) = gt_add (gz_us kd ag n rs t e r) (gt_add (gt_add 0 (gz_fd kd ag n rs R r)) (gz_rs kd ag n tn te rs gr co rc r))
    rw [gz_0 _ (gz_fd_le r)]
  · have k0 : 0 = kd d := congrArg Prod.fst (List.cons.inj eF).1
    rcases ln with z | z | z | z <;> omega
theorem gz_j_8 {d e' : Nat} {w : Int32} {R : gm_Fr} (ok : gp_ok kd n) (ht : t < n) (hd : d < n) (k7 : kd t = 7) (J : gz_J kd ag n tn te rs gr co rc t e ((8, nI d, e') :: R)) : gz_J kd ag n tn te rs gr co rc (gp_ch kd n d 1) e' ((0, w, 0) :: R) := by
  have hn := ok.2.1
  rcases J with G | ⟨d', R', eF, _, ln, _, _⟩
  · refine Or.inl ⟨fun x hx => ?_, fun r h1 h2 => ?_⟩
    · rcases List.mem_cons.mp hx with y | y
      · subst y; exact Or.inl rfl
      · exact G.1 x (List.mem_cons_of_mem _ y)
    · obtain ⟨T, T2⟩ := G.2 r h1 h2
      refine ⟨Nat.le_trans (Nat.le_of_eq ?_) T, T2⟩
      have us : gz_us kd ag n rs t e r = 0 := by
        unfold gz_us gz_uf
        refine gz_sm_0 (fun i hi => ?_)
        by_cases z : gm_nth rs e i = r
        · rw [if_pos z]; exact gt_u7 ok ht k7 _
        · rw [if_neg z]
      show gt_add (gz_us kd ag n rs (gp_ch kd n d 1) e' r) (gt_add (gt_add 0 (gz_fd kd ag n rs R r)) (gz_rs kd ag n tn te rs gr co rc r)) =
        gt_add (gz_us kd ag n rs t e r) (gt_add (gt_add (gz_us kd ag n rs (gp_ch kd n (nI d).toNatClampNeg 1) e' r) (gz_fd kd ag n rs R r)) (gz_rs kd ag n tn te rs gr co rc r))
      rw [nI_clamp (by omega), us, gz_0 _ (gz_fd_le r), gz_0 _ (gt_add_le _ _), gz_as]
  · have k0 : 8 = kd d' := congrArg Prod.fst (List.cons.inj eF).1
    rcases ln with z | z | z | z <;> omega
/-- a frame that waits for a value -/
theorem gz_j_lk {m d e' : Nat} {R : gm_Fr} (ok : gp_ok kd n) (J : gz_J kd ag n tn te rs gr co rc t e ((m, nI d, e') :: R)) (hd : d < n) (hm : gz_ln m) : e' = e ∧ t = gp_ch kd n d 0 ∧ gz_I kd ag n tn te rs gr co rc d e R := by
  have hn := ok.2.1
  rcases J with G | ⟨d', R', eF, hd', ln, et, G⟩
  · rcases G.1 _ List.mem_cons_self with z | z
    · dsimp only at z
      rcases hm with y | y | y | y <;> omega
    · dsimp only at z
      rcases hm with y | y | y | y <;> omega
  · obtain ⟨a, b⟩ := List.cons.inj eF
    have a2 : nI d = nI d' := congrArg (fun x => x.2.1) a
    have a3 : e' = e := congrArg (fun x => x.2.2) a
    have : d = d' := (nI_eq (by omega) (by omega)).mp a2
    subst this
    subst b
    exact ⟨a3, et, G⟩
theorem gz_a10 {d e' : Nat} {R : gm_Fr} (A : gm_A kd ag n) (I : gm_I kd ag n tn te rs rc t e ((10, nI d, e') :: R)) (J : gz_J kd ag n tn te rs gr co rc t e ((10, nI d, e') :: R)) (hd : d < n) (hv : gm_vl (kd t)) :
    gt_b kd ag n t ≤ 2 ∧ gz_J kd ag n (gm_up tn (rc + 1) (gp_ch kd n d 1)) (gm_up te (rc + 1) e') (gm_up rs (rc + 1) e) (gm_up gr (rc + 1) (gt_b kd ag n t)) (gm_up co (rc + 1) 0) (rc + 1) (gp_ch kd n t 1) (rc + 1) R := by
  have ok := A.1.1
  have hn := ok.2.1
  obtain ⟨k9, kdd, he', -⟩ := gm_s_app A I hd hv
  obtain ⟨ee, et, G⟩ := gz_j_lk ok J hd (Or.inl rfl)
  obtain ⟨_, d', h2, h3, h4, h6, h7, q, σ, s1, s2⟩ := gm_fr_d A I hv (by decide)
  have : d = d' := (nI_eq (by omega) (by omega)).mp h3
  subst this
  have ht := I.1
  have h5 := I.2.1
  have hR := I.2.2.2.2.2
  subst ee
  have ard : 1 < gp_ar (kd d) := by rw [kdd]; decide
  have art : 1 < gp_ar (kd t) := by rw [k9]; decide
  have st : gp_sn kd t = gp_sn kd d := by rw [et, gp_sn_ch ok hd (by omega), gp_bd_0, Nat.add_zero]
  have sa : gp_sn kd (gp_ch kd n d 1) = gp_sn kd d := by rw [gp_sn_ch ok hd ard, kdd]; rfl
  have sc : gp_sn kd (gp_ch kd n t 1) = gp_sn kd d + 1 := by rw [gp_sn_ch ok ht art, k9, st]; rfl
  have ub := gt_ule A.1 (gp_ch_lt ok ht art).1 (gp_tm_ch ok A.1.2.1 ht h5 art (by omega))
  have ua := gt_ule A.1 (gp_ch_lt ok hd ard).1 (gp_tm_ch ok A.1.2.1 hd (by omega) ard (by omega))
  have g2 : gt_b kd ag n t ≤ 2 := by rw [gt_b9 ok ht k9]; exact gt_se_le (A.1.2.2.2.2.2.1 t ht (Or.inl k9)) (ub _)
  have e2 := (gt_e2_0 (A.2 t ht h5).2).2.2.2.1 (Or.inl k9)
  have nd : gt_nd kd ag n t = gt_u kd ag n (gp_ch kd n t 1) (gp_sn kd t) := by unfold gt_nd; rw [if_neg (by omega), if_neg (by omega)]
  rw [nd] at e2
  have hc : gt_u kd ag n (gp_ch kd n t 1) (gp_sn kd d) ≤ gt_b kd ag n t := by rw [gt_b9 ok ht k9, ← st]; exact gz_se e2
  have eg : (gt_g (gt_t kd ag n t)).toNatClampNeg = gt_b kd ag n t := by
    rw [gt_t9 ok ht k9, ← gt_b9 ok ht k9]
    exact nI_clamp (by omega)
  have hU : ∀ v, gt_add (gt_u kd ag n (gp_ch kd n t 1) v) (gt_mul (gt_b kd ag n t) (gt_u kd ag n (gp_ch kd n d 1) v)) ≤ gt_u kd ag n d v := fun v => by
    refine Nat.le_of_eq ?_
    rw [gt_u10 ok hd kdd, ← et, gt_u9 ok ht k9, eg]
  exact ⟨g2, Or.inl (gz_n1 ok hR s2 (gz_V h7) sa sc ua g2 hU hc G)⟩
theorem gz_a17 {d e' : Nat} {R : gm_Fr} (A : gm_A kd ag n) (I : gm_I kd ag n tn te rs rc t e ((17, nI d, e') :: R)) (J : gz_J kd ag n tn te rs gr co rc t e ((17, nI d, e') :: R)) (hd : d < n) (hv : gm_vl (kd t)) :
    gt_b kd ag n d ≤ 2 ∧ gz_J kd ag n (gm_up tn (rc + 1) (gp_ch kd n t 0)) (gm_up te (rc + 1) e) (gm_up rs (rc + 1) e') (gm_up gr (rc + 1) (gt_b kd ag n d)) (gm_up co (rc + 1) 0) (rc + 1) (gp_ch kd n d 1) (rc + 1) R := by
  have ok := A.1.1
  have hn := ok.2.1
  obtain ⟨k16, kdd, he', -⟩ := gm_s_box A I hd hv
  obtain ⟨ee, et, G⟩ := gz_j_lk ok J hd (Or.inr (Or.inr (Or.inr rfl)))
  obtain ⟨_, d', h2, h3, h4, h6, h7, q, σ, s1, s2⟩ := gm_fr_d A I hv (by decide)
  have : d = d' := (nI_eq (by omega) (by omega)).mp h3
  subst this
  have ht := I.1
  have h5 := I.2.1
  have hR := I.2.2.2.2.2
  subst ee
  have ard : 1 < gp_ar (kd d) := by rw [kdd]; decide
  have art : 0 < gp_ar (kd t) := by rw [k16]; decide
  have st : gp_sn kd t = gp_sn kd d := by rw [et, gp_sn_ch ok hd (by omega), gp_bd_0, Nat.add_zero]
  have sa : gp_sn kd (gp_ch kd n t 0) = gp_sn kd d := by rw [gp_sn_ch ok ht art, gp_bd_0, Nat.add_zero, st]
  have sc : gp_sn kd (gp_ch kd n d 1) = gp_sn kd d + 1 := by rw [gp_sn_ch ok hd ard, kdd]; rfl
  have ua := gt_ule A.1 (gp_ch_lt ok ht art).1 (gp_tm_ch ok A.1.2.1 ht h5 art (by omega))
  have eb : gt_b kd ag n d = (ag t).toNatClampNeg := by rw [gt_b17 ok hd kdd, ← et, gt_t16 ok ht k16]; rfl
  have g2 : gt_b kd ag n d ≤ 2 := by
    obtain ⟨g, hg, eg⟩ := A.1.2.2.2.2.1 t ht (Or.inr (Or.inr k16))
    rw [eb, eg, nI_clamp (by omega)]
    exact hg
  have e2 := (gt_e2_0 (A.2 d hd (by omega)).2).2.2.2.2 kdd
  have nd : gt_nd kd ag n d = gt_u kd ag n (gp_ch kd n d 1) (gp_sn kd d) := by unfold gt_nd; rw [if_neg (by omega), if_neg (by omega)]
  rw [nd, ← gt_b17 ok hd kdd] at e2
  have hU : ∀ v, gt_add (gt_u kd ag n (gp_ch kd n d 1) v) (gt_mul (gt_b kd ag n d) (gt_u kd ag n (gp_ch kd n t 0) v)) ≤ gt_u kd ag n d v := fun v => by
    refine Nat.le_of_eq ?_
    rw [gt_u17 ok hd kdd, ← et, gt_u16 ok ht k16, eb]
    exact gt_add_c _ _
  exact ⟨g2, Or.inl (gz_n1 ok hR s2 (gz_V h7) sa sc ua g2 hU e2 G)⟩
theorem gz_a15 {d e' : Nat} {R : gm_Fr} (A : gm_A kd ag n) (I : gm_I kd ag n tn te rs rc t e ((15, nI d, e') :: R)) (J : gz_J kd ag n tn te rs gr co rc t e ((15, nI d, e') :: R)) (hd : d < n) (hv : gm_vl (kd t)) :
    gt_b kd ag n d ≤ 2 ∧ gz_J kd ag n (gm_up tn (rc + 1) (gp_ch kd n t 1)) (gm_up te (rc + 1) e) (gm_up rs (rc + 1) e') (gm_up gr (rc + 1) (gt_b kd ag n d)) (gm_up co (rc + 1) 0) (rc + 1) (gp_ch kd n d (if kd t = 13 then 1 else 2)) (rc + 1) R := by
  have ok := A.1.1
  have hn := ok.2.1
  obtain ⟨k13, kdd, he', -⟩ := gm_s_case A I hd hv
  obtain ⟨ee, et, G⟩ := gz_j_lk ok J hd (Or.inr (Or.inr (Or.inl rfl)))
  obtain ⟨_, d', h2, h3, h4, h6, h7, q, σ, s1, s2⟩ := gm_fr_d A I hv (by decide)
  have : d = d' := (nI_eq (by omega) (by omega)).mp h3
  subst this
  have ht := I.1
  have h5 := I.2.1
  have hR := I.2.2.2.2.2
  subst ee
  have ard : 2 < gp_ar (kd d) := by rw [kdd]; decide
  have art : 1 < gp_ar (kd t) := by rcases k13 with z | z <;> rw [z] <;> decide
  have st : gp_sn kd t = gp_sn kd d := by rw [et, gp_sn_ch ok hd (by omega), gp_bd_0, Nat.add_zero]
  have sa : gp_sn kd (gp_ch kd n t 1) = gp_sn kd d := by
    rw [gp_sn_ch ok ht art, st]
    rcases k13 with z | z <;> rw [z] <;> rfl
  have ut : ∀ v, gt_u kd ag n t v = gt_u kd ag n (gp_ch kd n t 1) v := fun v => by
    rcases k13 with z | z
    · exact gt_u13 ok ht z v
    · exact gt_u14 ok ht z v
  have ua := gt_ule A.1 (gp_ch_lt ok ht art).1 (gp_tm_ch ok A.1.2.1 ht h5 art (by omega))
  have u1 := gt_ule A.1 (gp_ch_lt ok hd (j := 1) (by omega)).1 (gp_tm_ch ok A.1.2.1 hd (by omega) (by omega) (by omega))
  have u2 := gt_ule A.1 (gp_ch_lt ok hd (j := 2) (by omega)).1 (gp_tm_ch ok A.1.2.1 hd (by omega) (by omega) (by omega))
  have g2 : gt_b kd ag n d ≤ 2 := by rw [gt_b15 ok hd kdd]; exact gt_se_le (A.1.2.2.2.2.2.1 d hd (Or.inr (Or.inr kdd))) (gt_max_le (u1 _) (u2 _))
  have e2 := (gt_e2_0 (A.2 d hd (by omega)).2).2.2.2.1 (Or.inr (Or.inr kdd))
  have nd : gt_nd kd ag n d = gt_max (gt_u kd ag n (gp_ch kd n d 1) (gp_sn kd d)) (gt_u kd ag n (gp_ch kd n d 2) (gp_sn kd d)) := by unfold gt_nd; rw [if_neg (by omega), if_pos kdd]
  rw [nd] at e2
  have hb := gz_se e2
  rw [← gt_b15 ok hd kdd] at hb
  have mb := gz_ml (gt_u kd ag n (gp_ch kd n d 1) (gp_sn kd d)) (gt_u kd ag n (gp_ch kd n d 2) (gp_sn kd d))
  have hU : ∀ j, (∀ v, gt_u kd ag n (gp_ch kd n d j) v ≤ gt_max (gt_u kd ag n (gp_ch kd n d 1) v) (gt_u kd ag n (gp_ch kd n d 2) v)) → ∀ v, gt_add (gt_u kd ag n (gp_ch kd n d j) v) (gt_mul (gt_b kd ag n d) (gt_u kd ag n (gp_ch kd n t 1) v)) ≤ gt_u kd ag n d v := fun j hj v => by
    rw [gt_u15 ok hd kdd, ← gt_b15 ok hd kdd, ← et, ut v, gt_add_c (gt_u kd ag n (gp_ch kd n d j) v) _]
    exact gz_mono (gz_mm (gz_ml _ _).1 (Nat.le_refl _)) (hj v)
  refine ⟨g2, Or.inl ?_⟩
  by_cases z : kd t = 13
  · rw [if_pos z]
    exact gz_n1 ok hR s2 (gz_V h7) sa (by rw [gp_sn_ch ok hd (by omega), kdd]; rfl) ua g2 (hU 1 (fun v => (gz_ml _ _).1)) (Nat.le_trans mb.1 hb) G
  · rw [if_neg z]
    exact gz_n1 ok hR s2 (gz_V h7) sa (by rw [gp_sn_ch ok hd (by omega), kdd]; rfl) ua g2 (hU 2 (fun v => (gz_ml _ _).2)) (Nat.le_trans mb.2 hb) G
theorem gz_a12 {d e' : Nat} {R : gm_Fr} (A : gm_A kd ag n) (I : gm_I kd ag n tn te rs rc t e ((12, nI d, e') :: R)) (J : gz_J kd ag n tn te rs gr co rc t e ((12, nI d, e') :: R)) (hd : d < n) (hv : gm_vl (kd t)) :
    gt_b kd ag n d ≤ 2 ∧ gz_J kd ag n (gm_up (gm_up tn (rc + 1) (gp_ch kd n t 0)) (rc + 1 + 1) (gp_ch kd n t 1)) (gm_up (gm_up te (rc + 1) e) (rc + 1 + 1) e) (gm_up (gm_up rs (rc + 1) e') (rc + 1 + 1) (rc + 1)) (gm_up (gm_up gr (rc + 1) (gt_b kd ag n d)) (rc + 1 + 1) (gt_b kd ag n d)) (gm_up (gm_up co (rc + 1) 0) (rc + 1 + 1) 0) (rc + 1 + 1) (gp_ch kd n d 1) (rc + 1 + 1) R := by
  have ok := A.1.1
  have hn := ok.2.1
  obtain ⟨k11, kdd, he', -⟩ := gm_s_pair A I hd hv
  obtain ⟨ee, et, G⟩ := gz_j_lk ok J hd (Or.inr (Or.inl rfl))
  obtain ⟨_, d', h2, h3, h4, h6, h7, q, σ, s1, s2⟩ := gm_fr_d A I hv (by decide)
  have : d = d' := (nI_eq (by omega) (by omega)).mp h3
  subst this
  have ht := I.1
  have h5 := I.2.1
  have he := I.2.2.1
  have hE := I.2.2.2.1
  have hR := I.2.2.2.2.2
  subst ee
  have ard : 1 < gp_ar (kd d) := by rw [kdd]; decide
  have art : 1 < gp_ar (kd t) := by rw [k11]; decide
  have st : gp_sn kd t = gp_sn kd d := by rw [et, gp_sn_ch ok hd (by omega), gp_bd_0, Nat.add_zero]
  have sa : gp_sn kd (gp_ch kd n t 0) = gp_sn kd d := by rw [gp_sn_ch ok ht (by omega), gp_bd_0, Nat.add_zero, st]
  have sb : gp_sn kd (gp_ch kd n t 1) = gp_sn kd d := by rw [gp_sn_ch ok ht art, k11, st]; rfl
  have sc : gp_sn kd (gp_ch kd n d 1) = gp_sn kd d + 1 + 1 := by rw [gp_sn_ch ok hd ard, kdd]; rfl
  have ta := gp_tm_ch ok A.1.2.1 ht h5 (j := 0) (by omega) (by omega)
  have ca := (gp_ch_lt ok ht (j := 0) (by omega)).1
  have ua := gt_ule A.1 ca ta
  have ub := gt_ule A.1 (gp_ch_lt ok ht art).1 (gp_tm_ch ok A.1.2.1 ht h5 art (by omega))
  have uc := gt_ule A.1 (gp_ch_lt ok hd ard).1 (gp_tm_ch ok A.1.2.1 hd (by omega) ard (by omega))
  have g2 : gt_b kd ag n d ≤ 2 := by rw [gt_b12 ok hd kdd]; exact gt_se_le (A.1.2.2.2.2.2.1 d hd (Or.inr (Or.inl kdd))) (gt_max_le (uc _) (uc _))
  have e2 := (gt_e2_0 (A.2 d hd (by omega)).2).2.2.2.1 (Or.inr (Or.inl kdd))
  have nd : gt_nd kd ag n d = gt_max (gt_u kd ag n (gp_ch kd n d 1) (gp_sn kd d)) (gt_u kd ag n (gp_ch kd n d 1) (gp_sn kd d + 1)) := by unfold gt_nd; rw [if_pos kdd]
  rw [nd] at e2
  have hb := gz_se e2
  rw [← gt_b12 ok hd kdd] at hb
  have mb := gz_ml (gt_u kd ag n (gp_ch kd n d 1) (gp_sn kd d)) (gt_u kd ag n (gp_ch kd n d 1) (gp_sn kd d + 1))
  have hU : ∀ v, gt_add (gt_add (gt_u kd ag n (gp_ch kd n d 1) v) (gt_mul (gt_b kd ag n d) (gt_u kd ag n (gp_ch kd n t 1) v))) (gt_mul (gt_b kd ag n d) (gt_u kd ag n (gp_ch kd n t 0) v)) ≤ gt_u kd ag n d v := fun v => by
    rw [gt_u12 ok hd kdd, ← gt_b12 ok hd kdd, ← et, gt_u11 ok ht k11, gz_di (gt_max_le g2 (by omega)) (ua v) (ub v)]
    generalize gt_u kd ag n (gp_ch kd n d 1) v = c
    generalize gt_u kd ag n (gp_ch kd n t 1) v = b
    generalize gt_u kd ag n (gp_ch kd n t 0) v = a
    rw [gz_as c _ _, gt_add_c c _, gt_add_c (gt_mul (gt_b kd ag n d) b) _]
    exact gz_mono (gz_mono (gz_mm (gz_ml _ _).1 (Nat.le_refl _)) (gz_mm (gz_ml _ _).1 (Nat.le_refl _))) (Nat.le_refl _)
  have R1 := gm_R_p (r' := e') hR ca ta he h6 (gm_E_c0 ok ht (by omega) (gp_bd_0 _) hE)
  exact ⟨g2, Or.inl (gz_n2 ok hR R1 s2 (gz_V h7) sa sb sc ua ub g2 hU (Nat.le_trans mb.1 hb) (Nat.le_trans mb.2 hb) G)⟩
theorem gz_J_0 (A : gm_A kd ag n) : gz_J kd ag n tn te rs gr co 0 0 0 [] := Or.inl ⟨fun x hx => (List.not_mem_nil hx).elim, fun r h1 h2 => by omega⟩
end

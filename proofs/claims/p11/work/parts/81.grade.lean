/-! what is still asked of each record -/
theorem gz_sm_sh (f : Nat → Nat) : ∀ m, gz_sm f (m + 1) = gt_add (f 0) (gz_sm (fun i => f (i + 1)) m)
  | 0 => by show gt_add 0 (f 0) = gt_add (f 0) 0; exact gt_add_c _ _
  | m + 1 => by
    show gt_add (gz_sm f (m + 1)) (f (m + 1)) = gt_add (f 0) (gt_add (gz_sm (fun i => f (i + 1)) m) (f (m + 1)))
    rw [gz_sm_sh f m, gz_as]
theorem gz_nth_x {rs rs' : Nat → Nat} {rc e m : Nat} (h : ∀ i, i < m → 1 ≤ gm_nth rs e i ∧ gm_nth rs e i ≤ rc) (ha : ∀ r, 1 ≤ r → r ≤ rc → rs' r = rs r) : ∀ i, i < m → gm_nth rs' e i = gm_nth rs e i
  | 0, _ => rfl
  | i + 1, hi => by
    show rs' (gm_nth rs' e i) = rs (gm_nth rs e i)
    rw [gz_nth_x h ha i (by omega)]
    obtain ⟨a, b⟩ := h i (by omega)
    exact ha _ a b
theorem gz_uf_x {rs rs' f : Nat → Nat} {rc e m r : Nat} (h : ∀ i, i < m → 1 ≤ gm_nth rs e i ∧ gm_nth rs e i ≤ rc) (ha : ∀ r, 1 ≤ r → r ≤ rc → rs' r = rs r) : gz_uf rs' f m e r = gz_uf rs f m e r :=
  gz_sm_eq (fun i hi => by rw [gz_nth_x h ha i hi])
/-- a record that the environment doesn't hold is not asked for -/
theorem gz_uf_z {rs f : Nat → Nat} {rc e m r : Nat} (h : ∀ i, i < m → 1 ≤ gm_nth rs e i ∧ gm_nth rs e i ≤ rc) (hr : rc < r) : gz_uf rs f m e r = 0 :=
  gz_sm_0 (fun i hi => if_neg (by have := (h i hi).2; omega))
/-- an environment with one more record on top -/
theorem gz_uf_c {rs f : Nat → Nat} {m e r : Nat} : gz_uf rs f (m + 1) e r = gt_add (if e = r then f m else 0) (gz_uf rs f m (rs e) r) := by
  unfold gz_uf
  rw [gz_sm_sh]
  have e0 : m + 1 - 1 - 0 = m := by omega
  show gt_add (if e = r then f (m + 1 - 1 - 0) else 0) _ = _
  rw [e0]
  refine congrArg (gt_add _) (gz_sm_eq (fun i hi => ?_))
  rw [gm_nth_s, show m + 1 - 1 - (i + 1) = m - 1 - i by omega]
/-- the variable alone is asked for -/
theorem gz_uf_v {rs : Nat → Nat} {m e r i : Nat} (hi : i < m) : gz_uf rs (fun v => if v = m - 1 - i then 1 else 0) m e r = if gm_nth rs e i = r then 1 else 0 := by
  unfold gz_uf
  by_cases z : gm_nth rs e i = r
  · rw [if_pos z]
    rw [gz_sm_1 (g := fun j => if j = i then 0 else (if gm_nth rs e j = r then (if m - 1 - j = m - 1 - i then 1 else 0) else 0)) (k := i) (x := 1) hi (fun j hj hne => if_neg hne) (if_pos rfl) (by show (if gm_nth rs e i = r then _ else 0) = 1; rw [if_pos z, if_pos rfl])]
    rw [gz_sm_0 (fun j hj => ?_)]
    · rfl
    · by_cases y : j = i
      · exact if_pos y
      · show (if j = i then 0 else _) = 0
        rw [if_neg y]
        by_cases w : gm_nth rs e j = r
        · rw [if_pos w, if_neg (by omega)]
        · rw [if_neg w]
  · rw [if_neg z]
    refine gz_sm_0 (fun j hj => ?_)
    by_cases w : gm_nth rs e j = r
    · show (if gm_nth rs e j = r then (if m - 1 - j = m - 1 - i then 1 else 0) else 0) = 0
      rw [if_pos w, if_neg]
      intro y
      have : j = i := by omega
      subst this
      exact z w
    · exact if_neg w
/-- what a record of grade g, read c times, may still be asked -/
def gz_mu (g c : Nat) : Nat := if g = 0 then 0 else if g = 1 then (if c = 0 then 1 else 0) else 2
theorem gz_mu_le (g c : Nat) : gz_mu g c ≤ 2 := by
  unfold gz_mu
  split
  · omega
  · split
    · split <;> omega
    · omega
theorem gz_mu_new {g : Nat} (h : g ≤ 2) : gz_mu g 0 = g := by
  have : g = 0 ∨ g = 1 ∨ g = 2 := by omega
  rcases this with rfl | rfl | rfl <;> rfl
section
variable (kd : Nat → Nat) (ag : Nat → Int32) (n : Nat)
noncomputable def gz_us (rs : Nat → Nat) (t e r : Nat) : Nat := gz_uf rs (gt_u kd ag n t) (gp_sn kd t) e r
/-- by the thunks of all records -/
noncomputable def gz_rs (tn te rs gr co : Nat → Nat) (rc r : Nat) : Nat := gz_sm (fun i => gt_mul (gz_mu (gr (i + 1)) (co (i + 1))) (gz_us kd ag n rs (tn (i + 1)) (te (i + 1)) r)) rc
/-- by the frames (the marks are ADD's and the left number's) -/
noncomputable def gz_fd (rs : Nat → Nat) : gm_Fr → Nat → Nat
  | [], _ => 0
  | x :: R, r => gt_add (if x.1 = 0 then 0 else gz_us kd ag n rs (gp_ch kd n x.2.1.toNatClampNeg 1) x.2.2 r) (gz_fd rs R r)
noncomputable def gz_T (tn te rs gr co : Nat → Nat) (rc t e : Nat) (F : gm_Fr) (r : Nat) : Nat := gt_add (gz_us kd ag n rs t e r) (gt_add (gz_fd kd ag n rs F r) (gz_rs kd ag n tn te rs gr co rc r))
/-- every record is asked for no more than it may be -/
noncomputable def gz_I (tn te rs gr co : Nat → Nat) (rc t e : Nat) (F : gm_Fr) : Prop := (∀ x, x ∈ F → x.1 = 0 ∨ x.1 = 8) ∧ ∀ r, 1 ≤ r → r ≤ rc → gz_T kd ag n tn te rs gr co rc t e F r ≤ gz_mu (gr r) (co r) ∧ gr r ≤ 2 ∧ (gr r = 0 → co r = 0) ∧ (gr r = 1 → co r ≤ 1)
end
section
variable {kd : Nat → Nat} {ag : Nat → Int32} {n : Nat} {tn te rs gr co : Nat → Nat} {rc t e : Nat} {F : gm_Fr}
theorem gz_us_le (r : Nat) : gz_us kd ag n rs t e r ≤ 2 := gz_uf_le _ _ _ _ _
theorem gz_fd_le (r : Nat) : gz_fd kd ag n rs F r ≤ 2 := by
  cases F with
  | nil => exact Nat.zero_le _
  | cons x R => exact gt_add_le _ _
theorem gz_rs_le (r : Nat) : gz_rs kd ag n tn te rs gr co rc r ≤ 2 := gz_sm_le _ _
/-- the variable is read -/
theorem gz_s_var {i : Nat} (A : gm_A kd ag n) (I : gm_I kd ag n tn te rs rc t e F) (G : gz_I kd ag n tn te rs gr co rc t e F) (hk : kd t = 6) (hi : ag t = nI i) (hl : i < gp_sn kd t) :
    gz_I kd ag n tn te rs gr (gm_up co (gm_nth rs e i) (co (gm_nth rs e i) + 1)) rc (tn (gm_nth rs e i)) (te (gm_nth rs e i)) F := by
  have ok := A.1.1
  have hn := ok.2.1
  have ht := I.1
  have sl := gp_sn_lt ok ht
  obtain ⟨a, b, _⟩ := gm_s_var A I hk hi hl
  have lv : gt_lv kd ag t = gp_sn kd t - 1 - i := by unfold gt_lv; rw [hi, nI_clamp (by omega)]
  have us : ∀ r, gz_us kd ag n rs t e r = if gm_nth rs e i = r then 1 else 0 := by
    intro r
    unfold gz_us
    have ef : gt_u kd ag n t = fun v => if v = gp_sn kd t - 1 - i then 1 else 0 := by
      funext v
      rw [gt_u6 ok ht hk (gt_P_lv A.1 ht hk), lv]
    rw [ef]
    exact gz_uf_v hl
  generalize hr0 : gm_nth rs e i = r0 at *
  obtain ⟨T0, g2, z0, z1⟩ := G.2 r0 a b
  have T1 : 1 ≤ gz_mu (gr r0) (co r0) := by
    refine Nat.le_trans ?_ T0
    unfold gz_T
    rw [us r0, if_pos rfl]
    unfold gt_add
    split <;> omega
  have gne : gr r0 ≠ 0 := fun z => by rw [z] at T1; exact absurd T1 (by decide)
  refine ⟨G.1, fun r h1 h2 => ?_⟩
  obtain ⟨Tr, q2, q3, q4⟩ := G.2 r h1 h2
  rcases (show gr r0 = 1 ∨ gr r0 = 2 by omega) with g1 | g2'
  · have c0 : co r0 = 0 := by
      rw [g1] at T1
      unfold gz_mu at T1
      rw [if_neg (by decide), if_pos rfl] at T1
      by_cases z : co r0 = 0
      · exact z
      · rw [if_neg z] at T1; omega
    have rsum : gz_rs kd ag n tn te rs gr co rc r = gt_add (gz_us kd ag n rs (tn r0) (te r0) r) (gz_rs kd ag n tn te rs gr (gm_up co r0 (co r0 + 1)) rc r) := by
      unfold gz_rs
      refine gz_sm_1 (k := r0 - 1) (by omega) (fun j hj hne => ?_) ?_ ?_
      · rw [gm_up_n (by omega)]
      · dsimp only
        rw [show r0 - 1 + 1 = r0 by omega, gm_up_s, g1, c0]
        exact gt_mul_0 _
      · dsimp only
        rw [show r0 - 1 + 1 = r0 by omega, g1, c0]
        exact gt_mul_1 (gz_us_le r)
    have eq : gz_T kd ag n tn te rs gr co rc t e F r = gt_add (gz_us kd ag n rs t e r) (gz_T kd ag n tn te rs gr (gm_up co r0 (co r0 + 1)) rc (tn r0) (te r0) F r) := by
      unfold gz_T
      rw [rsum, gz_lc (gz_fd kd ag n rs F r)]
    rw [eq, us r] at Tr
    by_cases z : r = r0
    · subst z
      rw [if_pos rfl, g1, c0] at Tr
      rw [gm_up_s, g1, c0]
      refine ⟨?_, by omega, fun y => by omega, fun _ => by omega⟩
      have hle : gz_T kd ag n tn te rs gr (gm_up co r (co r + 1)) rc (tn r) (te r) F r ≤ 2 := gt_add_le _ _
      rw [c0] at hle
      generalize gz_T kd ag n tn te rs gr (gm_up co r (0 + 1)) rc (tn r) (te r) F r = x at *
      have : x = 0 ∨ x = 1 ∨ x = 2 := by omega
      rcases this with y | y | y
      · rw [y]; exact Nat.zero_le _
      · rw [y] at Tr; exact absurd Tr (by decide)
      · rw [y] at Tr; exact absurd Tr (by decide)
    · rw [if_neg (fun y => z y.symm), gz_0 _ (gt_add_le _ _)] at Tr
      rw [gm_up_n z]
      exact ⟨Tr, q2, q3, q4⟩
  · have mu' : ∀ j, gz_mu (gr j) (gm_up co r0 (co r0 + 1) j) = gz_mu (gr j) (co j) := by
      intro j
      by_cases z : j = r0
      · subst z; rw [g2']; rfl
      · rw [gm_up_n z]
    have rsum : gz_rs kd ag n tn te rs gr (gm_up co r0 (co r0 + 1)) rc r = gz_rs kd ag n tn te rs gr co rc r := by
      unfold gz_rs
      exact gz_sm_eq (fun j hj => by rw [mu'])
    rw [mu' r]
    refine ⟨?_, q2, ?_, ?_⟩
    · by_cases big : gz_mu (gr r) (co r) = 2
      · rw [big]; exact gt_add_le _ _
      · have ml := gz_mu_le (gr r) (co r)
        have term : gt_mul 2 (gz_us kd ag n rs (tn r0) (te r0) r) ≤ gz_rs kd ag n tn te rs gr co rc r := by
          have e := gz_sm_1 (f := fun i => gt_mul (gz_mu (gr (i + 1)) (co (i + 1))) (gz_us kd ag n rs (tn (i + 1)) (te (i + 1)) r)) (g := fun i => if i = r0 - 1 then 0 else gt_mul (gz_mu (gr (i + 1)) (co (i + 1))) (gz_us kd ag n rs (tn (i + 1)) (te (i + 1)) r)) (k := r0 - 1) (x := gt_mul 2 (gz_us kd ag n rs (tn r0) (te r0) r)) (m := rc) (by omega) (fun j hj hne => if_neg hne) (if_pos rfl) (by
            dsimp only
            rw [show r0 - 1 + 1 = r0 by omega, g2']; rfl)
          unfold gz_rs
          rw [e]
          have := gz_mono (Nat.le_refl (gt_mul 2 (gz_us kd ag n rs (tn r0) (te r0) r))) (Nat.zero_le (gz_sm (fun i => if i = r0 - 1 then 0 else gt_mul (gz_mu (gr (i + 1)) (co (i + 1))) (gz_us kd ag n rs (tn (i + 1)) (te (i + 1)) r)) rc))
          rw [gt_add_0 (gt_mul_le _ _)] at this
          exact this
        have rl : gz_rs kd ag n tn te rs gr co rc r ≤ 1 := by
          have : gz_rs kd ag n tn te rs gr co rc r ≤ gz_T kd ag n tn te rs gr co rc t e F r := by
            unfold gz_T
            have h1 := gz_mono (Nat.zero_le (gz_fd kd ag n rs F r)) (Nat.le_refl (gz_rs kd ag n tn te rs gr co rc r))
            rw [gz_0 _ (gz_rs_le r)] at h1
            have h2 := gz_mono (Nat.zero_le (gz_us kd ag n rs t e r)) (Nat.le_refl (gt_add (gz_fd kd ag n rs F r) (gz_rs kd ag n tn te rs gr co rc r)))
            rw [gz_0 _ (gt_add_le _ _)] at h2
            omega
          omega
        have u0 : gz_us kd ag n rs (tn r0) (te r0) r = 0 := by
          have ul := gz_us_le (kd := kd) (ag := ag) (n := n) (rs := rs) (t := tn r0) (e := te r0) r
          generalize gz_us kd ag n rs (tn r0) (te r0) r = x at *
          have : x = 0 ∨ x = 1 ∨ x = 2 := by omega
          rcases this with y | y | y
          · exact y
          · rw [y] at term; have : gt_mul 2 1 = 2 := by decide
            omega
          · rw [y] at term; have : gt_mul 2 2 = 2 := by decide
            omega
        unfold gz_T at Tr ⊢
        rw [u0, gz_0 _ (gt_add_le _ _), rsum]
        refine Nat.le_trans ?_ Tr
        have h2 := gz_mono (Nat.zero_le (gz_us kd ag n rs t e r)) (Nat.le_refl (gt_add (gz_fd kd ag n rs F r) (gz_rs kd ag n tn te rs gr co rc r)))
        rw [gz_0 _ (gt_add_le _ _)] at h2
        exact h2
    · intro y
      by_cases z : r = r0
      · subst z; omega
      · rw [gm_up_n z]; exact q3 y
    · intro y
      by_cases z : r = r0
      · subst z; omega
      · rw [gm_up_n z]; exact q4 y
end

/-! the machine, purely: environments are records' numbers (0: empty), frames a list -/
def gm_nth (rs : Nat → Nat) (e : Nat) : Nat → Nat
  | 0 => e
  | i + 1 => rs (gm_nth rs e i)
theorem gm_nth_s (rs : Nat → Nat) (e : Nat) : ∀ i, gm_nth rs e (i + 1) = gm_nth rs (rs e) i
  | 0 => rfl
  | i + 1 => by
    show rs (gm_nth rs e (i + 1)) = rs (gm_nth rs (rs e) i)
    rw [gm_nth_s rs e i]
def gm_up (f : Nat → Nat) (k x : Nat) : Nat → Nat := fun j => if j = k then x else f j
theorem gm_up_s {f : Nat → Nat} {k x : Nat} : gm_up f k x k = x := if_pos rfl
theorem gm_up_n {f : Nat → Nat} {k x j : Nat} (h : j ≠ k) : gm_up f k x j = f j := if_neg h
/-- environment e has m elements whose thunks have the types L (by level) -/
def gm_EL (ty : Nat → gt_Ty) (tn rs : Nat → Nat) (rc e : Nat) (L : Nat → gt_Ty) (m : Nat) : Prop :=
  ∀ i, i < m → 1 ≤ gm_nth rs e i ∧ gm_nth rs e i ≤ rc ∧ ty (tn (gm_nth rs e i)) = L (m - 1 - i)
theorem gm_EL_x {ty : Nat → gt_Ty} {tn rs tn' rs' : Nat → Nat} {rc rc' e : Nat} {L : Nat → gt_Ty} {m : Nat} (h : gm_EL ty tn rs rc e L m) (hl : rc ≤ rc') (ha : ∀ r, 1 ≤ r → r ≤ rc → tn' r = tn r ∧ rs' r = rs r) : gm_EL ty tn' rs' rc' e L m := by
  have key : ∀ i, i < m → gm_nth rs' e i = gm_nth rs e i := by
    intro i
    induction i with
    | zero => intro _; rfl
    | succ i ih =>
      intro hi
      obtain ⟨a, b, _⟩ := h i (by omega)
      show rs' (gm_nth rs' e i) = rs (gm_nth rs e i)
      rw [ih (by omega)]
      exact (ha _ a b).2
  intro i hi
  obtain ⟨a, b, c⟩ := h i hi
  rw [key i hi, (ha _ a b).1]
  exact ⟨a, by omega, c⟩
theorem gm_EL_p {ty : Nat → gt_Ty} {tn rs : Nat → Nat} {rc e d : Nat} {L L' : Nat → gt_Ty} {m : Nat} (h : gm_EL ty tn rs rc e L m) (hL : ∀ v, v < m → L' v = L v) (hd : ty d = L' m) :
    gm_EL ty (gm_up tn (rc + 1) d) (gm_up rs (rc + 1) e) (rc + 1) (rc + 1) L' (m + 1) := by
  have h' := gm_EL_x (tn' := gm_up tn (rc + 1) d) (rs' := gm_up rs (rc + 1) e) (rc' := rc + 1) h (by omega) (fun r _ hr => ⟨gm_up_n (by omega), gm_up_n (by omega)⟩)
  intro i hi
  cases i with
  | zero =>
    refine ⟨by show 1 ≤ rc + 1; omega, by show rc + 1 ≤ rc + 1; omega, ?_⟩
    show ty (gm_up tn (rc + 1) d (rc + 1)) = _
    rw [gm_up_s, hd]
    rfl
  | succ i =>
    obtain ⟨a, b, c⟩ := h' i (by omega)
    rw [gm_nth_s, gm_up_s]
    refine ⟨a, b, ?_⟩
    rw [c, show m + 1 - 1 - (i + 1) = m - 1 - i by omega]
    exact (hL _ (by omega)).symm
/-- alike, or both Int -/
def gm_q (σ τ : gt_Ty) : Prop := gt_k σ = gt_k τ ∧ (¬ gt_k σ = 1 → σ = τ)
abbrev gm_Fr : Type := List (Nat × Int32 × Nat)
section
variable (kd : Nat → Nat) (ag : Nat → Int32) (n : Nat)
noncomputable def gm_E (tn rs : Nat → Nat) (rc e t : Nat) : Prop := gm_EL (gt_t kd ag n) tn rs rc e (gt_G kd ag n t) (gp_sn kd t)
def gm_go (k : Nat) : Prop := k = 8 ∨ k = 10 ∨ k = 12 ∨ k = 15 ∨ k = 17
def gm_vl (k : Nat) : Prop := k = 7 ∨ k = 9 ∨ k = 11 ∨ k = 13 ∨ k = 14 ∨ k = 16
/-- the frames take a value of type τ -/
noncomputable def gm_fr (tn rs : Nat → Nat) (rc : Nat) : gt_Ty → gm_Fr → Prop
  | _, [] => True
  | τ, (m, w, e) :: R => (m = 0 ∧ e = 0 ∧ gt_k τ = 1 ∧ ∃ σ, gt_k σ = 1 ∧ gm_fr tn rs rc σ R) ∨
    (gm_go m ∧ ∃ d, d < n ∧ w = nI d ∧ kd d = m ∧ τ = gt_t kd ag n (gp_ch kd n d 0) ∧ e ≤ rc ∧ gm_E kd ag n tn rs rc e d ∧ ∃ σ, gm_q σ (gt_t kd ag n d) ∧ gm_fr tn rs rc σ R)
noncomputable def gm_R (tn te rs : Nat → Nat) (rc : Nat) : Prop := ∀ r, 1 ≤ r → r ≤ rc → tn r < n ∧ ¬ kd (tn r) ≤ 5 ∧ te r ≤ rc ∧ rs r ≤ rc ∧ gm_E kd ag n tn rs rc (te r) (tn r)
noncomputable def gm_I (tn te rs : Nat → Nat) (rc t e : Nat) (F : gm_Fr) : Prop := t < n ∧ ¬ kd t ≤ 5 ∧ e ≤ rc ∧ gm_E kd ag n tn rs rc e t ∧
  (∃ σ, gm_q σ (gt_t kd ag n t) ∧ gm_fr kd ag n tn rs rc σ F) ∧ gm_R kd ag n tn te rs rc
/-- no error anywhere -/
def gm_A : Prop := gt_P kd ag n ∧ ∀ d, d < n → ¬ kd d ≤ 5 → gt_e1 kd ag n d = 0 ∧ gt_e2 kd ag n d = 0
end
theorem gm_A_of {kd : Nat → Nat} {ag : Nat → Int32} {n : Nat} (h : gt_P kd ag n) (e : (gt_er kd ag n 0).1 = 0) : gm_A kd ag n := by
  have hP := h
  obtain ⟨ok, so, kr, -⟩ := h
  have key : ∀ m d, d < m → d < n → ¬ kd d ≤ 5 → (gt_er kd ag n d).1 = 0 := by
    intro m
    induction m with
    | zero => intro d z; omega
    | succ m ih =>
      intro d hm hd hk
      rcases Nat.eq_zero_or_pos d with z | z
      · subst z; exact e
      · obtain ⟨p1, p2⟩ := gp_pl_in ok hd z
        have c := gp_ch_of ok hd z
        have hp : ¬ kd (gp_pl kd d / 3) ≤ 5 := by
          intro y
          have := gp_ty_ch ok so (by omega) y p2
          rw [← c] at this
          exact hk this
        have := (gt_er_ok ok (by omega) hp (ih _ (by omega) (by omega) hp)).1 _ p2
        rw [← c] at this
        exact this
  exact ⟨hP, fun d hd hk => (gt_er_ok ok hd hk (key _ d (Nat.lt_succ_self _) hd hk)).2⟩
section
variable {kd : Nat → Nat} {ag : Nat → Int32} {n : Nat} {tn te rs : Nat → Nat} {rc t e : Nat} {F : gm_Fr}
theorem gm_fr_x {tn' rs' : Nat → Nat} {rc' : Nat} (hl : rc ≤ rc') (ha : ∀ r, 1 ≤ r → r ≤ rc → tn' r = tn r ∧ rs' r = rs r) : ∀ {F : gm_Fr} {τ : gt_Ty}, gm_fr kd ag n tn rs rc τ F → gm_fr kd ag n tn' rs' rc' τ F
  | [], _, _ => trivial
  | (m, w, e) :: R, τ, h => by
    rcases h with ⟨h1, h2, h3, σ, h4, h5⟩ | ⟨h1, d, h2, h3, h4, h5, h6, h7, σ, h8, h9⟩
    · exact Or.inl ⟨h1, h2, h3, σ, h4, gm_fr_x hl ha h5⟩
    · exact Or.inr ⟨h1, d, h2, h3, h4, h5, by omega, gm_EL_x h7 hl ha, σ, h8, gm_fr_x hl ha h9⟩
theorem gm_R_p {d e' r' : Nat} (h : gm_R kd ag n tn te rs rc) (hd : d < n) (hk : ¬ kd d ≤ 5) (he : e' ≤ rc) (hr : r' ≤ rc) (hE : gm_E kd ag n tn rs rc e' d) :
    gm_R kd ag n (gm_up tn (rc + 1) d) (gm_up te (rc + 1) e') (gm_up rs (rc + 1) r') (rc + 1) := by
  have ha : ∀ r, 1 ≤ r → r ≤ rc → gm_up tn (rc + 1) d r = tn r ∧ gm_up rs (rc + 1) r' r = rs r := fun r _ hr => ⟨gm_up_n (by omega), gm_up_n (by omega)⟩
  intro r h1 h2
  rcases Nat.lt_or_ge rc r with z | z
  · have : r = rc + 1 := by omega
    subst this
    rw [gm_up_s, gm_up_s, gm_up_s]
    exact ⟨hd, hk, by omega, by omega, gm_EL_x hE (by omega) ha⟩
  · obtain ⟨a, b, c, g, i⟩ := h r h1 z
    rw [gm_up_n (show r ≠ rc + 1 by omega), gm_up_n (show r ≠ rc + 1 by omega), gm_up_n (show r ≠ rc + 1 by omega)]
    exact ⟨a, b, by omega, by omega, gm_EL_x i (by omega) ha⟩
theorem gm_can (A : gm_A kd ag n) (ht : t < n) (hv : gm_vl (kd t)) : (kd t = 7 ∧ gt_k (gt_t kd ag n t) = 1) ∨ (kd t = 9 ∧ gt_k (gt_t kd ag n t) = 4) ∨ (kd t = 11 ∧ gt_k (gt_t kd ag n t) = 2) ∨ ((kd t = 13 ∨ kd t = 14) ∧ gt_k (gt_t kd ag n t) = 3) ∨ (kd t = 16 ∧ gt_k (gt_t kd ag n t) = 5) := by
  have ok := A.1.1
  rcases hv with e | e | e | e | e | e
  · exact Or.inl ⟨e, by rw [gt_t7 ok ht e]; rfl⟩
  · exact Or.inr (Or.inl ⟨e, by rw [gt_t9 ok ht e]; rfl⟩)
  · exact Or.inr (Or.inr (Or.inl ⟨e, by rw [gt_t11 ok ht e]; rfl⟩))
  · exact Or.inr (Or.inr (Or.inr (Or.inl ⟨Or.inl e, by rw [gt_t13 ok ht e]; rfl⟩)))
  · exact Or.inr (Or.inr (Or.inr (Or.inl ⟨Or.inr e, by rw [gt_t14 ok ht e]; rfl⟩)))
  · exact Or.inr (Or.inr (Or.inr (Or.inr ⟨e, by rw [gt_t16 ok ht e]; rfl⟩)))
/-- a node's environment serves a child that binds nothing -/
theorem gm_E_c0 {j : Nat} (ok : gp_ok kd n) (ht : t < n) (hj : j < gp_ar (kd t)) (hb : gp_bd (kd t) j = 0) (h : gm_E kd ag n tn rs rc e t) : gm_E kd ag n tn rs rc e (gp_ch kd n t j) := by
  intro i hi
  rw [gp_sn_ch ok ht hj, hb] at hi ⊢
  obtain ⟨a, b, c⟩ := h i hi
  refine ⟨a, b, ?_⟩
  rw [gt_G_up ok ht hj (by omega)]
  exact c
theorem gm_E_c1 {j d : Nat} (ok : gp_ok kd n) (ht : t < n) (hj : j < gp_ar (kd t)) (hb : gp_bd (kd t) j = 1) (h : gm_E kd ag n tn rs rc e t)
    (hd : gt_t kd ag n d = gt_nv (kd t) j 0 (gt_t kd ag n (gp_ch kd n t 0))) : gm_E kd ag n (gm_up tn (rc + 1) d) (gm_up rs (rc + 1) e) (rc + 1) (rc + 1) (gp_ch kd n t j) := by
  unfold gm_E
  rw [gp_sn_ch ok ht hj, hb]
  refine gm_EL_p h (fun v hv => gt_G_up ok ht hj hv) ?_
  rw [gt_G_new ok ht hj (Nat.le_refl _), Nat.sub_self]
  exact hd
theorem gm_E_c2 {j d d' : Nat} (ok : gp_ok kd n) (ht : t < n) (hj : j < gp_ar (kd t)) (hb : gp_bd (kd t) j = 2) (h : gm_E kd ag n tn rs rc e t)
    (hd : gt_t kd ag n d = gt_nv (kd t) j 0 (gt_t kd ag n (gp_ch kd n t 0))) (hd' : gt_t kd ag n d' = gt_nv (kd t) j 1 (gt_t kd ag n (gp_ch kd n t 0))) :
    gm_E kd ag n (gm_up (gm_up tn (rc + 1) d) (rc + 1 + 1) d') (gm_up (gm_up rs (rc + 1) e) (rc + 1 + 1) (rc + 1)) (rc + 1 + 1) (rc + 1 + 1) (gp_ch kd n t j) := by
  unfold gm_E
  rw [gp_sn_ch ok ht hj, hb]
  refine gm_EL_p (L := gt_G kd ag n (gp_ch kd n t j)) (m := gp_sn kd t + 1) (gm_EL_p h (fun v hv => gt_G_up ok ht hj hv) ?_) (fun _ _ => rfl) ?_
  · rw [gt_G_new ok ht hj (Nat.le_refl _), Nat.sub_self]
    exact hd
  · rw [gt_G_new ok ht hj (by omega), show gp_sn kd t + 1 - gp_sn kd t = 1 by omega]
    exact hd'
/-! the steps -/
theorem gm_s_var {i : Nat} (A : gm_A kd ag n) (I : gm_I kd ag n tn te rs rc t e F) (hk : kd t = 6) (hi : ag t = nI i) (hl : i < gp_sn kd t) :
    1 ≤ gm_nth rs e i ∧ gm_nth rs e i ≤ rc ∧ gm_I kd ag n tn te rs rc (tn (gm_nth rs e i)) (te (gm_nth rs e i)) F := by
  obtain ⟨ht, h5, he, hE, ⟨σ, f1, f2⟩, hR⟩ := I
  have ok := A.1.1
  obtain ⟨a, b, c⟩ := hE i hl
  have hs := gp_sn_lt ok ht
  have hn := ok.2.1
  have lv : gt_lv kd ag t = gp_sn kd t - 1 - i := by unfold gt_lv; rw [hi, nI_clamp (by omega)]
  have ty : gt_t kd ag n t = gt_G kd ag n t (gp_sn kd t - 1 - i) := by
    rw [gt_t6 ok ht hk (gt_P_lv A.1 ht hk), lv]
  obtain ⟨r1, r2, r3, r4, r5⟩ := hR _ a b
  refine ⟨a, b, r1, r2, r3, r5, ⟨σ, ?_, f2⟩, hR⟩
  rw [c, ← ty]
  exact f1
theorem gm_q_r (τ : gt_Ty) : gm_q τ τ := ⟨rfl, fun _ => rfl⟩
theorem gm_go_ar {k : Nat} (h : gm_go k) : 2 ≤ gp_ar k ∧ ¬ k ≤ 5 ∧ ¬ (k = 9 ∨ k = 13 ∨ k = 14) := by
  rcases h with e | e | e | e | e <;> subst e <;> decide
theorem gm_s_go (A : gm_A kd ag n) (I : gm_I kd ag n tn te rs rc t e F) (hk : gm_go (kd t)) : gm_I kd ag n tn te rs rc (gp_ch kd n t 0) e ((kd t, nI t, e) :: F) := by
  obtain ⟨ht, h5, he, hE, ⟨σ, f1, f2⟩, hR⟩ := I
  have ok := A.1.1
  obtain ⟨g1, g2, g3⟩ := gm_go_ar hk
  have c := (gp_ch_lt ok ht (j := 0) (by omega)).1
  exact ⟨c, gp_tm_ch ok A.1.2.1 ht h5 (by omega) (fun z => g3 z.1), he, gm_E_c0 ok ht (by omega) (gp_bd_0 _) hE, ⟨_, gm_q_r _, Or.inr ⟨hk, t, ht, rfl, rfl, rfl, he, hE, σ, f1, f2⟩⟩, hR⟩
/-- what a frame that waits with a node says: (d is that node) -/
theorem gm_fr_d {m e' : Nat} {w : Int32} {R : gm_Fr} (A : gm_A kd ag n) (I : gm_I kd ag n tn te rs rc t e ((m, w, e') :: R)) (hv : gm_vl (kd t)) (hm : ¬ m = 0) :
    gm_go m ∧ ∃ d, d < n ∧ w = nI d ∧ kd d = m ∧ e' ≤ rc ∧ gm_E kd ag n tn rs rc e' d ∧ gm_q (gt_t kd ag n (gp_ch kd n d 0)) (gt_t kd ag n t) ∧ ∃ σ, gm_q σ (gt_t kd ag n d) ∧ gm_fr kd ag n tn rs rc σ R := by
  obtain ⟨ht, h5, he, hE, ⟨σ, f1, f2⟩, hR⟩ := I
  rcases f2 with ⟨z, _⟩ | ⟨h1, d, h2, h3, h4, h5, h6, h7, σ', h8, h9⟩
  · exact absurd z hm
  · subst h5
    exact ⟨h1, d, h2, h3, h4, h6, h7, f1, σ', h8, h9⟩
theorem gm_s_add0 {e' : Nat} {w : Int32} {R : gm_Fr} (A : gm_A kd ag n) (I : gm_I kd ag n tn te rs rc t e ((0, w, e') :: R)) (hv : gm_vl (kd t)) : kd t = 7 ∧ e' = 0 ∧ gm_I kd ag n tn te rs rc t e R := by
  obtain ⟨ht, h5, he, hE, ⟨σ, f1, f2⟩, hR⟩ := I
  rcases f2 with ⟨h1, h2, h3, σ', h4, h6⟩ | ⟨z, _⟩
  · have k1 : gt_k (gt_t kd ag n t) = 1 := by rw [← f1.1]; exact h3
    refine ⟨?_, h2, ht, h5, he, hE, ⟨σ', ⟨by rw [h4, k1], fun z => absurd h4 z⟩, h6⟩, hR⟩
    rcases gm_can A ht hv with z | z | z | z | z
    · exact z.1
    · rw [z.2] at k1; exact absurd k1 (by decide)
    · rw [z.2] at k1; exact absurd k1 (by decide)
    · rw [z.2] at k1; exact absurd k1 (by decide)
    · rw [z.2] at k1; exact absurd k1 (by decide)
  · rcases z with z | z | z | z | z <;> exact absurd z (by decide)
theorem gm_s_add {d e' : Nat} {w : Int32} {R : gm_Fr} (A : gm_A kd ag n) (I : gm_I kd ag n tn te rs rc t e ((8, nI d, e') :: R)) (hd : d < n) (hv : gm_vl (kd t)) : kd t = 7 ∧ kd d = 8 ∧ e' ≤ rc ∧ gm_I kd ag n tn te rs rc (gp_ch kd n d 1) e' ((0, w, 0) :: R) := by
  have ok := A.1.1
  obtain ⟨_, d', h2, h3, h4, h6, h7, q, σ, s1, s2⟩ := gm_fr_d A I hv (by decide)
  have hn := ok.2.1
  have : d = d' := (nI_eq (by omega) (by omega)).mp h3
  subst this
  have x := (gt_e2_0 (A.2 d hd (by omega)).2).1 h4
  have y := (A.2 d hd (by omega)).2
  have ar : 1 < gp_ar (kd d) := by rw [h4]; decide
  refine ⟨?_, h4, h6, (gp_ch_lt ok hd ar).1, gp_tm_ch ok A.1.2.1 hd (by omega) ar (by omega), h6, gm_E_c0 ok hd ar (by rw [h4]; decide) h7, ⟨_, gm_q_r _, Or.inl ⟨rfl, rfl, x.2, σ, ?_, s2⟩⟩, I.2.2.2.2.2⟩
  · have k1 : gt_k (gt_t kd ag n t) = 1 := by rw [← q.1]; exact x.1
    rcases gm_can A I.1 hv with z | z | z | z | z
    · exact z.1
    · rw [z.2] at k1; exact absurd k1 (by decide)
    · rw [z.2] at k1; exact absurd k1 (by decide)
    · rw [z.2] at k1; exact absurd k1 (by decide)
    · rw [z.2] at k1; exact absurd k1 (by decide)
  · rw [s1.1]
    rw [gt_t8 ok hd h4]
    exact x.1
theorem gm_up_ag {f g : Nat → Nat} {rc d r' : Nat} : ∀ r, 1 ≤ r → r ≤ rc → gm_up f (rc + 1) d r = f r ∧ gm_up g (rc + 1) r' r = g r := fun r _ hr => ⟨gm_up_n (by omega), gm_up_n (by omega)⟩
theorem gm_s_app {d e' : Nat} {R : gm_Fr} (A : gm_A kd ag n) (I : gm_I kd ag n tn te rs rc t e ((10, nI d, e') :: R)) (hd : d < n) (hv : gm_vl (kd t)) :
    kd t = 9 ∧ kd d = 10 ∧ e' ≤ rc ∧ gm_I kd ag n (gm_up tn (rc + 1) (gp_ch kd n d 1)) (gm_up te (rc + 1) e') (gm_up rs (rc + 1) e) (rc + 1) (gp_ch kd n t 1) (rc + 1) R := by
  have ok := A.1.1
  obtain ⟨_, d', h2, h3, h4, h6, h7, q, σ, s1, s2⟩ := gm_fr_d A I hv (by decide)
  have hn := ok.2.1
  have : d = d' := (nI_eq (by omega) (by omega)).mp h3
  subst this
  obtain ⟨ht, h5, he, hE, -, hR⟩ := I
  have x := (gt_e2_0 (A.2 d hd (by omega)).2).2.1 h4
  have ar : 1 < gp_ar (kd d) := by rw [h4]; decide
  have k4 : gt_k (gt_t kd ag n t) = 4 := by rw [← q.1]; exact x.1
  have qe := q.2 (by rw [x.1]; decide)
  have k9 : kd t = 9 := by
    rcases gm_can A ht hv with z | z | z | z | z
    · rw [z.2] at k4; exact absurd k4 (by decide)
    · exact z.1
    · rw [z.2] at k4; exact absurd k4 (by decide)
    · rw [z.2] at k4; exact absurd k4 (by decide)
    · rw [z.2] at k4; exact absurd k4 (by decide)
  have ar' : 1 < gp_ar (kd t) := by rw [k9]; decide
  have ty : gt_l (gt_t kd ag n t) = gt_t kd ag n (gp_ch kd n t 0) ∧ gt_r (gt_t kd ag n t) = gt_t kd ag n (gp_ch kd n t 1) := by
    have : gt_t kd ag n t = gt_mk 4 (nI (gt_se (ag t) (gt_u kd ag n (gp_ch kd n t 1) (gp_sn kd t)))) (gt_t kd ag n (gp_ch kd n t 0)) (gt_t kd ag n (gp_ch kd n t 1)) := by
      rw [gt_t9 ok ht k9]
    rw [this]
    exact ⟨gt_mk_l (by decide), gt_mk_r (by decide) (by decide)⟩
  have cd := (gp_ch_lt ok hd ar).1
  have tm := gp_tm_ch ok A.1.2.1 hd (by omega) ar (by omega)
  refine ⟨k9, h4, h6, (gp_ch_lt ok ht ar').1, gp_tm_ch ok A.1.2.1 ht h5 ar' (by omega), Nat.le_refl _, gm_E_c1 ok ht ar' (by rw [k9]; decide) hE ?_, ⟨σ, ?_, gm_fr_x (by omega) gm_up_ag s2⟩,
    gm_R_p hR cd tm h6 he (gm_E_c0 ok hd ar (by rw [h4]; decide) h7)⟩
  · rw [k9, ← x.2, qe, ty.1]
    rfl
  · rw [← ty.2, ← qe]
    have : gt_t kd ag n d = gt_r (gt_t kd ag n (gp_ch kd n d 0)) := by
      rw [gt_t10 ok hd h4]
    rw [← this]
    exact s1
theorem gm_s_pair {d e' : Nat} {R : gm_Fr} (A : gm_A kd ag n) (I : gm_I kd ag n tn te rs rc t e ((12, nI d, e') :: R)) (hd : d < n) (hv : gm_vl (kd t)) :
    kd t = 11 ∧ kd d = 12 ∧ e' ≤ rc ∧ gm_I kd ag n (gm_up (gm_up tn (rc + 1) (gp_ch kd n t 0)) (rc + 1 + 1) (gp_ch kd n t 1)) (gm_up (gm_up te (rc + 1) e) (rc + 1 + 1) e) (gm_up (gm_up rs (rc + 1) e') (rc + 1 + 1) (rc + 1)) (rc + 1 + 1) (gp_ch kd n d 1) (rc + 1 + 1) R := by
  have ok := A.1.1
  obtain ⟨_, d', h2, h3, h4, h6, h7, q, σ, s1, s2⟩ := gm_fr_d A I hv (by decide)
  have hn := ok.2.1
  have : d = d' := (nI_eq (by omega) (by omega)).mp h3
  subst this
  obtain ⟨ht, h5, he, hE, -, hR⟩ := I
  have x := (gt_e1_0 (A.2 d hd (by omega)).1).1 h4
  have ar : 1 < gp_ar (kd d) := by rw [h4]; decide
  have k2 : gt_k (gt_t kd ag n t) = 2 := by rw [← q.1]; exact x
  have qe := q.2 (by rw [x]; decide)
  have k11 : kd t = 11 := by
    rcases gm_can A ht hv with z | z | z | z | z
    · rw [z.2] at k2; exact absurd k2 (by decide)
    · rw [z.2] at k2; exact absurd k2 (by decide)
    · exact z.1
    · rw [z.2] at k2; exact absurd k2 (by decide)
    · rw [z.2] at k2; exact absurd k2 (by decide)
  have ar' : 1 < gp_ar (kd t) := by rw [k11]; decide
  have ty : gt_l (gt_t kd ag n t) = gt_t kd ag n (gp_ch kd n t 0) ∧ gt_r (gt_t kd ag n t) = gt_t kd ag n (gp_ch kd n t 1) := by
    have : gt_t kd ag n t = gt_mk 2 0 (gt_t kd ag n (gp_ch kd n t 0)) (gt_t kd ag n (gp_ch kd n t 1)) := by
      rw [gt_t11 ok ht k11]
    rw [this]
    exact ⟨gt_mk_l (by decide), gt_mk_r (by decide) (by decide)⟩
  have ct0 := (gp_ch_lt ok ht (j := 0) (by omega)).1
  have ct1 := (gp_ch_lt ok ht ar').1
  have tm0 := gp_tm_ch ok A.1.2.1 ht h5 (j := 0) (by omega) (by omega)
  have tm1 := gp_tm_ch ok A.1.2.1 ht h5 ar' (by omega)
  have tyd : gt_t kd ag n d = gt_t kd ag n (gp_ch kd n d 1) := by
    rw [gt_t12 ok hd h4]
  have E1 := gm_EL_x (tn' := gm_up tn (rc + 1) (gp_ch kd n t 0)) (rs' := gm_up rs (rc + 1) e') (rc' := rc + 1) (gm_E_c0 ok ht ar' (by rw [k11]; decide) hE) (by omega) gm_up_ag
  refine ⟨k11, h4, h6, (gp_ch_lt ok hd ar).1, gp_tm_ch ok A.1.2.1 hd (by omega) ar (by omega), Nat.le_refl _, gm_E_c2 ok hd ar (by rw [h4]; decide) h7 ?_ ?_, ⟨σ, ?_, gm_fr_x (by omega) gm_up_ag (gm_fr_x (by omega) gm_up_ag s2)⟩,
    gm_R_p (gm_R_p hR ct0 tm0 he h6 (gm_E_c0 ok ht (by omega) (gp_bd_0 _) hE)) ct1 tm1 (by omega) (by omega) E1⟩
  · rw [h4, qe, ← ty.1]; rfl
  · rw [h4, qe, ← ty.2]; rfl
  · rw [← tyd]; exact s1
theorem gm_s_case {d e' : Nat} {R : gm_Fr} (A : gm_A kd ag n) (I : gm_I kd ag n tn te rs rc t e ((15, nI d, e') :: R)) (hd : d < n) (hv : gm_vl (kd t)) :
    (kd t = 13 ∨ kd t = 14) ∧ kd d = 15 ∧ e' ≤ rc ∧ gm_I kd ag n (gm_up tn (rc + 1) (gp_ch kd n t 1)) (gm_up te (rc + 1) e) (gm_up rs (rc + 1) e') (rc + 1) (gp_ch kd n d (if kd t = 13 then 1 else 2)) (rc + 1) R := by
  have ok := A.1.1
  obtain ⟨_, d', h2, h3, h4, h6, h7, q, σ, s1, s2⟩ := gm_fr_d A I hv (by decide)
  have hn := ok.2.1
  have : d = d' := (nI_eq (by omega) (by omega)).mp h3
  subst this
  obtain ⟨ht, h5, he, hE, -, hR⟩ := I
  have x := (gt_e1_0 (A.2 d hd (by omega)).1).2.1 h4
  have x2 := (gt_e2_0 (A.2 d hd (by omega)).2).2.2.1 h4
  have ar : 2 < gp_ar (kd d) := by rw [h4]; decide
  have k3 : gt_k (gt_t kd ag n t) = 3 := by rw [← q.1]; exact x
  have qe := q.2 (by rw [x]; decide)
  have k13 : kd t = 13 ∨ kd t = 14 := by
    rcases gm_can A ht hv with z | z | z | z | z
    · rw [z.2] at k3; exact absurd k3 (by decide)
    · rw [z.2] at k3; exact absurd k3 (by decide)
    · rw [z.2] at k3; exact absurd k3 (by decide)
    · exact z.1
    · rw [z.2] at k3; exact absurd k3 (by decide)
  have ar' : 1 < gp_ar (kd t) := by rcases k13 with z | z <;> rw [z] <;> decide
  have tyd : gt_t kd ag n d = gt_t kd ag n (gp_ch kd n d 1) := by
    rw [gt_t15 ok hd h4]
  have RR := gm_R_p (r' := e') hR (gp_ch_lt ok ht ar').1 (gp_tm_ch ok A.1.2.1 ht h5 ar' (by omega)) he h6 (gm_E_c0 ok ht ar' (by rcases k13 with z | z <;> rw [z] <;> decide) hE)
  refine ⟨k13, h4, h6, ?_⟩
  rcases k13 with z | z
  · rw [if_pos z]
    refine ⟨(gp_ch_lt ok hd (by omega)).1, gp_tm_ch ok A.1.2.1 hd (by omega) (by omega) (by omega), Nat.le_refl _, gm_E_c1 ok hd (by omega) (by rw [h4]; decide) h7 ?_, ⟨σ, ?_, gm_fr_x (by omega) gm_up_ag s2⟩, RR⟩
    · have : gt_t kd ag n t = gt_mk 3 0 (gt_t kd ag n (gp_ch kd n t 1)) (gt_t kd ag n (gp_ch kd n t 0)) := by
        rw [gt_t13 ok ht z]
      rw [h4, qe]
      show _ = gt_l (gt_t kd ag n t)
      rw [this, gt_mk_l (by decide)]
    · rw [← tyd]; exact s1
  · rw [if_neg (by omega)]
    refine ⟨(gp_ch_lt ok hd (by omega)).1, gp_tm_ch ok A.1.2.1 hd (by omega) (by omega) (by omega), Nat.le_refl _, gm_E_c1 ok hd (by omega) (by rw [h4]; decide) h7 ?_, ⟨σ, ?_, gm_fr_x (by omega) gm_up_ag s2⟩, RR⟩
    · have : gt_t kd ag n t = gt_mk 3 0 (gt_t kd ag n (gp_ch kd n t 0)) (gt_t kd ag n (gp_ch kd n t 1)) := by
        rw [gt_t14 ok ht z]
      rw [h4, qe]
      show _ = gt_r (gt_t kd ag n t)
      rw [this, gt_mk_r (by decide) (by decide)]
    · rw [← x2, ← tyd]; exact s1
theorem gm_s_box {d e' : Nat} {R : gm_Fr} (A : gm_A kd ag n) (I : gm_I kd ag n tn te rs rc t e ((17, nI d, e') :: R)) (hd : d < n) (hv : gm_vl (kd t)) :
    kd t = 16 ∧ kd d = 17 ∧ e' ≤ rc ∧ gm_I kd ag n (gm_up tn (rc + 1) (gp_ch kd n t 0)) (gm_up te (rc + 1) e) (gm_up rs (rc + 1) e') (rc + 1) (gp_ch kd n d 1) (rc + 1) R := by
  have ok := A.1.1
  obtain ⟨_, d', h2, h3, h4, h6, h7, q, σ, s1, s2⟩ := gm_fr_d A I hv (by decide)
  have hn := ok.2.1
  have : d = d' := (nI_eq (by omega) (by omega)).mp h3
  subst this
  obtain ⟨ht, h5, he, hE, -, hR⟩ := I
  have x := (gt_e1_0 (A.2 d hd (by omega)).1).2.2 h4
  have ar : 1 < gp_ar (kd d) := by rw [h4]; decide
  have k5 : gt_k (gt_t kd ag n t) = 5 := by rw [← q.1]; exact x
  have qe := q.2 (by rw [x]; decide)
  have k16 : kd t = 16 := by
    rcases gm_can A ht hv with z | z | z | z | z
    · rw [z.2] at k5; exact absurd k5 (by decide)
    · rw [z.2] at k5; exact absurd k5 (by decide)
    · rw [z.2] at k5; exact absurd k5 (by decide)
    · rw [z.2] at k5; exact absurd k5 (by decide)
    · exact z.1
  have ar' : 0 < gp_ar (kd t) := by rw [k16]; decide
  have tyd : gt_t kd ag n d = gt_t kd ag n (gp_ch kd n d 1) := by
    rw [gt_t17 ok hd h4]
  refine ⟨k16, h4, h6, (gp_ch_lt ok hd ar).1, gp_tm_ch ok A.1.2.1 hd (by omega) ar (by omega), Nat.le_refl _, gm_E_c1 ok hd ar (by rw [h4]; decide) h7 ?_, ⟨σ, ?_, gm_fr_x (by omega) gm_up_ag s2⟩,
    gm_R_p hR (gp_ch_lt ok ht ar').1 (gp_tm_ch ok A.1.2.1 ht h5 ar' (by omega)) he h6 (gm_E_c0 ok ht ar' (gp_bd_0 _) hE)⟩
  · have : gt_t kd ag n t = gt_mk 5 (ag t) (gt_t kd ag n (gp_ch kd n t 0)) (fun _ => none) := by
      rw [gt_t16 ok ht k16]
    rw [h4, qe]
    show _ = gt_l (gt_t kd ag n t)
    rw [this, gt_mk_l (by decide)]
  · rw [← tyd]; exact s1
theorem gm_I_0 (A : gm_A kd ag n) : gm_I kd ag n tn te rs 0 0 0 [] :=
  ⟨A.1.1.1, fun z => by have := A.1.2.1.1; unfold gp_srt at this; rw [if_pos z] at this; omega, Nat.le_refl _, fun i hi => by rw [gp_sn_0] at hi; omega, ⟨_, gm_q_r _, trivial⟩, fun r h1 h2 => by omega⟩
end

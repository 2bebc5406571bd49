/-! the machine's measure -/
def gm_pf (kd : Nat → Nat) (n : Nat) (x : Nat × Int32 × Nat) : Nat := if x.1 = 0 then 1 else 3 * (gp_en kd n x.2.1.toNatClampNeg - gp_ch kd n x.2.1.toNatClampNeg 1) + 2
def gm_ps (kd : Nat → Nat) (n : Nat) : gm_Fr → Nat
  | [] => 0
  | x :: R => gm_pf kd n x + gm_ps kd n R
theorem gm_pf_0 (kd : Nat → Nat) (n e : Nat) (w : Int32) : gm_pf kd n (0, w, e) = 1 := rfl
theorem gm_pf_d {kd : Nat → Nat} {n m d e : Nat} (hm : ¬ m = 0) (hd : d < 2 ^ 31) : gm_pf kd n (m, nI d, e) = 3 * (gp_en kd n d - gp_ch kd n d 1) + 2 := by
  unfold gm_pf
  dsimp only
  rw [if_neg hm, nI_clamp hd]
theorem gm_m_go {kd : Nat → Nat} {n t e : Nat} (ok : gp_ok kd n) (ht : t < n) (hk : gm_go (kd t)) : 3 * gp_sz kd n (gp_ch kd n t 0) + gm_pf kd n (kd t, nI t, e) + 1 ≤ 3 * gp_sz kd n t := by
  have hn := ok.2.1
  obtain ⟨g1, g2, -⟩ := gm_go_ar hk
  rw [gm_pf_d (by omega) (by omega)]
  have a := gp_en_lt ok (gp_ch_lt ok ht (j := 0) (by omega)).1
  have b := gp_en_lt ok (gp_ch_lt ok ht (j := 1) (by omega)).1
  have e1 : gp_ch kd n t 1 = gp_en kd n (gp_ch kd n t 0) := rfl
  have e2 : gp_ch kd n t 2 = gp_en kd n (gp_ch kd n t 1) := rfl
  have e0 : gp_ch kd n t 0 = t + 1 := rfl
  have c : gp_ch kd n t 1 ≤ gp_en kd n t := by
    rw [gp_en_ch ok ht]
    have h3 := gp_ar_le (kd t)
    have : gp_ar (kd t) = 2 ∨ gp_ar (kd t) = 3 := by omega
    rcases this with z | z
    · rw [z]; omega
    · have d := gp_en_lt ok (gp_ch_lt ok ht (j := 2) (by omega)).1
      have e3 : gp_ch kd n t 3 = gp_en kd n (gp_ch kd n t 2) := rfl
      rw [z]; omega
  unfold gp_sz
  omega
theorem gm_m_c {kd : Nat → Nat} {n m d e j : Nat} (ok : gp_ok kd n) (hd : d < n) (hm : ¬ m = 0) (hj : j < gp_ar (kd d)) (hj1 : 1 ≤ j) : 3 * gp_sz kd n (gp_ch kd n d j) + 2 ≤ gm_pf kd n (m, nI d, e) := by
  have hn := ok.2.1
  have h3 := gp_ar_le (kd d)
  rw [gm_pf_d hm (by omega)]
  have a := gp_en_lt ok (gp_ch_lt ok hd (j := 1) (by omega)).1
  have e2 : gp_ch kd n d 2 = gp_en kd n (gp_ch kd n d 1) := rfl
  have e3 : gp_ch kd n d 3 = gp_en kd n (gp_ch kd n d 2) := rfl
  unfold gp_sz
  rw [gp_en_ch ok hd]
  have : (j = 1 ∧ gp_ar (kd d) = 2) ∨ (j = 1 ∧ gp_ar (kd d) = 3) ∨ (j = 2 ∧ gp_ar (kd d) = 3) := by omega
  rcases this with ⟨y, z⟩ | ⟨y, z⟩ | ⟨y, z⟩
  · subst y; rw [z, e2]; omega
  · have b := gp_en_lt ok (gp_ch_lt ok hd (j := 2) (by omega)).1
    subst y; rw [z, e3]; omega
  · have b := gp_en_lt ok (gp_ch_lt ok hd (j := 2) (by omega)).1
    subst y; rw [z, e3]; omega
theorem gm_pf_1 (kd : Nat → Nat) (n : Nat) (x : Nat × Int32 × Nat) : 1 ≤ gm_pf kd n x := by
  unfold gm_pf
  split <;> omega
/-! the reference's comparison of two types, purely: pairs still to be compared, the next one at the head -/
def gs_st (D : Nat → gt_Ty) : List (Nat × Nat) → Nat → Prop
  | [], _ => True
  | q :: R, S => ∃ h s, h + R.length ≤ 33 ∧ s ≤ S ∧ gs_fit h s (D q.1) ∧ gs_st D R (S - s)
theorem gs_st_m {D : Nat → gt_Ty} : ∀ {l : List (Nat × Nat)} {S S' : Nat}, S ≤ S' → gs_st D l S → gs_st D l S'
  | [], _, _, _, _ => trivial
  | q :: R, S, S', hS, ⟨h, s, a, b, c, d⟩ => ⟨h, s, a, by omega, c, gs_st_m (by omega) d⟩
theorem gs_st_p {D : Nat → gt_Ty} {q : Nat × Nat} {R : List (Nat × Nat)} {S : Nat} (h : gs_st D (q :: R) S) : 1 ≤ S ∧ R.length ≤ 32 ∧ gs_st D R (S - 1) := by
  obtain ⟨h, s, a, b, c, d⟩ := h
  have := gs_pos c
  exact ⟨by omega, by omega, gs_st_m (by omega) d⟩
theorem gs_st_5 {D : Nat → gt_Ty} {q q' : Nat × Nat} {R : List (Nat × Nat)} {S : Nat} (h : gs_st D (q :: R) S) (hk : gt_k (D q.1) = 5) (e : D q'.1 = gt_l (D q.1)) : gs_st D (q' :: R) (S - 1) := by
  obtain ⟨h, s, a, b, c, d⟩ := h
  cases h with
  | zero => exact c.elim
  | succ h =>
    have c1 : 1 ≤ s := c.1
    rcases c.2 with z | ⟨z, f⟩ | ⟨x, y, z, f, g⟩
    · rw [hk] at z; exact absurd z (by decide)
    · exact ⟨h, s - 1, by omega, by omega, by rw [e]; exact f, gs_st_m (S := S - s) (by omega) d⟩
    · exact ⟨h, x, by omega, by omega, by rw [e]; exact f, gs_st_m (S := S - s) (by omega) d⟩
theorem gs_st_2 {D : Nat → gt_Ty} {q qa qb : Nat × Nat} {R : List (Nat × Nat)} {S : Nat} (h : gs_st D (q :: R) S) (h1 : ¬ gt_k (D q.1) = 1) (h5 : ¬ gt_k (D q.1) = 5) (ea : D qa.1 = gt_l (D q.1)) (eb : D qb.1 = gt_r (D q.1)) : gs_st D (qb :: qa :: R) (S - 1) := by
  obtain ⟨h, s, a, b, c, d⟩ := h
  cases h with
  | zero => exact c.elim
  | succ h =>
    have c1 : 1 ≤ s := c.1
    rcases c.2 with z | ⟨z, f⟩ | ⟨x, y, z, f, g⟩
    · exact absurd z h1
    · exact absurd z h5
    · refine ⟨h, y, by simp only [List.length_cons]; omega, by omega, by rw [eb]; exact g, h, x, by omega, by omega, by rw [ea]; exact f, gs_st_m (S := S - s) (by omega) d⟩
def gs_al (D : Nat → gt_Ty) (l : List (Nat × Nat)) : Prop := ∀ q, q ∈ l → D q.1 = D q.2
theorem gs_al_c {D : Nat → gt_Ty} {q : Nat × Nat} {R : List (Nat × Nat)} : gs_al D (q :: R) ↔ D q.1 = D q.2 ∧ gs_al D R :=
  ⟨fun h => ⟨h q List.mem_cons_self, fun x hx => h x (List.mem_cons_of_mem _ hx)⟩, fun h x hx => by
    rcases List.mem_cons.mp hx with z | z
    · subst z; exact h.1
    · exact h.2 x z⟩
theorem gd_iff1 {T : gd_Tb} {x y : Nat} (hk : T.1 x = T.1 y) (hg : T.2.1 x = T.2.1 y) (h1 : T.1 x = 1) : gd_D T x = gd_D T y := gd_mk hk hg (fun z => absurd h1 z) (fun z => absurd h1 z)
theorem gd_iff5 {T : gd_Tb} {x y : Nat} (hk : T.1 x = T.1 y) (hg : T.2.1 x = T.2.1 y) (h5 : T.1 x = 5) : gd_D T x = gd_D T y ↔ gd_D T (gd_L T x) = gd_D T (gd_L T y) :=
  ⟨fun h => gd_left h (by rw [h5]; decide), fun h => gd_mk hk hg (fun _ => h) (fun _ z => absurd h5 z)⟩
theorem gd_iff2 {T : gd_Tb} {x y : Nat} (hk : T.1 x = T.1 y) (hg : T.2.1 x = T.2.1 y) (h1 : ¬ T.1 x = 1) (h5 : ¬ T.1 x = 5) : gd_D T x = gd_D T y ↔ gd_D T (gd_L T x) = gd_D T (gd_L T y) ∧ gd_D T (gd_R T x) = gd_D T (gd_R T y) :=
  ⟨fun h => ⟨gd_left h h1, gd_right h h1 h5⟩, fun h => gd_mk hk hg (fun _ => h.1) (fun _ _ => h.2)⟩

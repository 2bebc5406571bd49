/-! the binder of the variable of level v that node c sees: the binding node and the slot below it -/
def gp_lf (kd : Nat → Nat) : Nat → Nat → Nat → Nat × Nat
  | 0, _, _ => (0, 0)
  | f + 1, c, v => if v < gp_sn kd (gp_pl kd c / 3) then gp_lf kd f (gp_pl kd c / 3) v else (gp_pl kd c / 3, gp_pl kd c % 3)
def gp_lc (kd : Nat → Nat) (c v : Nat) : Nat × Nat := gp_lf kd (c + 1) c v
theorem gp_lf_f {kd : Nat → Nat} {n : Nat} (h : gp_ok kd n) (v : Nat) : ∀ f g c, c < n → v < gp_sn kd c → c < f → c < g → gp_lf kd f c v = gp_lf kd g c v
  | 0, _, _, _, _, h1, _ => by omega
  | _, 0, _, _, _, _, h2 => by omega
  | f + 1, g + 1, c, hc, hv, h1, h2 => by
    have h0 : 0 < c := by
      rcases Nat.eq_zero_or_pos c with z | z
      · rw [z, gp_sn_0] at hv; omega
      · exact z
    have hp := (gp_pl_in h hc h0).1
    simp only [gp_lf]
    by_cases z : v < gp_sn kd (gp_pl kd c / 3)
    · rw [if_pos z, if_pos z]
      exact gp_lf_f h v f g _ (by omega) z (by omega) (by omega)
    · rw [if_neg z, if_neg z]
theorem gp_lc_up {kd : Nat → Nat} {n t j v : Nat} (h : gp_ok kd n) (ht : t < n) (hj : j < gp_ar (kd t)) (hv : v < gp_sn kd t) : gp_lc kd (gp_ch kd n t j) v = gp_lc kd t v := by
  obtain ⟨a, b⟩ := gp_ch_lt h ht hj
  have c := gp_ch_ge h ht (Nat.le_of_lt hj)
  have d := gp_ar_le (kd t)
  have e1 : (3 * t + j) / 3 = t := by omega
  unfold gp_lc
  rw [gp_lf_f h v (t + 1) (gp_ch kd n t j) t ht hv (by omega) (by omega)]
  show (if v < gp_sn kd (gp_pl kd (gp_ch kd n t j) / 3) then _ else _) = _
  rw [b, e1, if_pos hv]
theorem gp_lc_new {kd : Nat → Nat} {n t j v : Nat} (h : gp_ok kd n) (ht : t < n) (hj : j < gp_ar (kd t)) (hv : gp_sn kd t ≤ v) : gp_lc kd (gp_ch kd n t j) v = (t, j) := by
  obtain ⟨a, b⟩ := gp_ch_lt h ht hj
  have d := gp_ar_le (kd t)
  have e1 : (3 * t + j) / 3 = t := by omega
  have e2 : (3 * t + j) % 3 = j := by omega
  unfold gp_lc
  show (if v < gp_sn kd (gp_pl kd (gp_ch kd n t j) / 3) then _ else _) = _
  rw [b, e1, e2, if_neg (by omega)]
theorem gp_lc_in {kd : Nat → Nat} {n : Nat} (h : gp_ok kd n) (v : Nat) : ∀ m c, c < m → c < n → v < gp_sn kd c →
    (gp_lc kd c v).1 < c ∧ (gp_lc kd c v).2 < gp_ar (kd (gp_lc kd c v).1) ∧ gp_sn kd (gp_lc kd c v).1 ≤ v ∧
    v < gp_sn kd (gp_lc kd c v).1 + gp_bd (kd (gp_lc kd c v).1) (gp_lc kd c v).2 ∧ gp_ch kd n (gp_lc kd c v).1 (gp_lc kd c v).2 ≤ c
  | 0, _, z, _, _ => by omega
  | m + 1, c, hm, hc, hv => by
    have h0 : 0 < c := by
      rcases Nat.eq_zero_or_pos c with z | z
      · rw [z, gp_sn_0] at hv; omega
      · exact z
    obtain ⟨p1, p2⟩ := gp_pl_in h hc h0
    have e := gp_ch_of h hc h0
    rcases Nat.lt_or_ge v (gp_sn kd (gp_pl kd c / 3)) with z | z
    · have u := gp_lc_up h (t := gp_pl kd c / 3) (by omega) p2 z
      rw [← e] at u
      obtain ⟨a, b, d, g, i⟩ := gp_lc_in h v m (gp_pl kd c / 3) (by omega) (by omega) z
      rw [u]
      exact ⟨by omega, b, d, g, by omega⟩
    · have u := gp_lc_new h (t := gp_pl kd c / 3) (by omega) p2 z
      rw [← e] at u
      rw [u]
      have s := gp_sn_p h hc h0
      exact ⟨p1, p2, z, by dsimp only; omega, by dsimp only; omega⟩
theorem gp_lc_sp {kd : Nat → Nat} {n c v : Nat} (h : gp_ok kd n) (hc : c < n) (hv : v < gp_sn kd c) :
    (gp_lc kd c v).1 < c ∧ (gp_lc kd c v).2 < gp_ar (kd (gp_lc kd c v).1) ∧ gp_sn kd (gp_lc kd c v).1 ≤ v ∧
    v < gp_sn kd (gp_lc kd c v).1 + gp_bd (kd (gp_lc kd c v).1) (gp_lc kd c v).2 ∧ gp_ch kd n (gp_lc kd c v).1 (gp_lc kd c v).2 ≤ c ∧
    0 < (gp_lc kd c v).2 ∧ gp_ch kd n (gp_lc kd c v).1 1 ≤ c := by
  obtain ⟨a, b, d, g, i⟩ := gp_lc_in h v (c + 1) c (by omega) hc hv
  have j0 : 0 < (gp_lc kd c v).2 := by
    rcases Nat.eq_zero_or_pos (gp_lc kd c v).2 with z | z
    · rw [z, gp_bd_0] at g; omega
    · exact z
  refine ⟨a, b, d, g, i, j0, ?_⟩
  have key : ∀ j, 1 ≤ j → j ≤ gp_ar (kd (gp_lc kd c v).1) → gp_ch kd n (gp_lc kd c v).1 1 ≤ gp_ch kd n (gp_lc kd c v).1 j := by
    intro j
    induction j with
    | zero => intro h1; omega
    | succ j ih =>
      intro h1 h2
      rcases Nat.eq_zero_or_pos j with z | z
      · subst z; exact Nat.le_refl _
      · have a1 := ih z (by omega)
        have a2 := (gp_en_lt h (gp_ch_lt h (t := (gp_lc kd c v).1) (j := j) (by omega) (by omega)).1).1
        show _ ≤ gp_en kd n (gp_ch kd n (gp_lc kd c v).1 j)
        omega
  exact Nat.le_trans (key _ j0 (by omega)) i
/-! pure types -/
abbrev gt_Ty : Type := List Bool → Option (Int32 × Int32)
def gt_mk (k g : Int32) (l r : gt_Ty) : gt_Ty
  | [] => some (k, g)
  | false :: p => if k = 1 then none else l p
  | true :: p => if k = 1 then none else if k = 5 then none else r p
def gt_k (τ : gt_Ty) : Int32 := ((τ []).getD (0, 0)).1
def gt_g (τ : gt_Ty) : Int32 := ((τ []).getD (0, 0)).2
def gt_l (τ : gt_Ty) : gt_Ty := fun p => τ (false :: p)
def gt_r (τ : gt_Ty) : gt_Ty := fun p => τ (true :: p)
theorem gt_mk_k (k g : Int32) (l r : gt_Ty) : gt_k (gt_mk k g l r) = k := rfl
theorem gt_mk_g (k g : Int32) (l r : gt_Ty) : gt_g (gt_mk k g l r) = g := rfl
theorem gt_mk_l {k g : Int32} {l r : gt_Ty} (h : ¬ k = 1) : gt_l (gt_mk k g l r) = l := by
  funext p
  show (if k = 1 then none else l p) = _
  rw [if_neg h]
theorem gt_mk_r {k g : Int32} {l r : gt_Ty} (h : ¬ k = 1) (h5 : ¬ k = 5) : gt_r (gt_mk k g l r) = r := by
  funext p
  show (if k = 1 then none else if k = 5 then none else r p) = _
  rw [if_neg h, if_neg h5]
theorem gt_mk_1 {g : Int32} {l r l' r' : gt_Ty} : gt_mk 1 g l r = gt_mk 1 g l' r' := by
  funext p
  match p with
  | [] => rfl
  | false :: p => rfl
  | true :: p => rfl
theorem gt_mk_5 {g : Int32} {l r r' : gt_Ty} : gt_mk 5 g l r = gt_mk 5 g l r' := by
  funext p
  match p with
  | [] => rfl
  | false :: p => rfl
  | true :: p => rfl
theorem gd_mkD (T : gd_Tb) (x : Nat) : gd_D T x = gt_mk (T.1 x) (T.2.1 x) (gd_D T (gd_L T x)) (gd_D T (gd_R T x)) := by
  funext p
  match p with
  | [] => rfl
  | false :: p =>
    by_cases h : T.1 x = 1
    · rw [gd_1 h]; exact (if_pos h).symm
    · rw [gd_f h]; exact (if_neg h).symm
  | true :: p =>
    by_cases h : T.1 x = 1
    · rw [gd_1 h]; exact (if_pos h).symm
    · by_cases h5 : T.1 x = 5
      · rw [gd_5 h5]; show _ = (if T.1 x = 1 then none else if T.1 x = 5 then none else _); rw [if_neg h, if_pos h5]
      · rw [gd_t h h5]; show _ = (if T.1 x = 1 then none else if T.1 x = 5 then none else _); rw [if_neg h, if_neg h5]
theorem gd_k {T : gd_Tb} {x : Nat} {τ : gt_Ty} (h : gd_D T x = τ) : T.1 x = gt_k τ ∧ T.2.1 x = gt_g τ := by
  subst h; exact ⟨rfl, rfl⟩
theorem gd_l {T : gd_Tb} {x : Nat} {τ : gt_Ty} (h : gd_D T x = τ) (h1 : ¬ T.1 x = 1) : gd_D T (gd_L T x) = gt_l τ := by
  subst h; funext p; exact (gd_f h1).symm
theorem gd_r {T : gd_Tb} {x : Nat} {τ : gt_Ty} (h : gd_D T x = τ) (h1 : ¬ T.1 x = 1) (h5 : ¬ T.1 x = 5) : gd_D T (gd_R T x) = gt_r τ := by
  subst h; funext p; exact (gd_t h1 h5).symm
/-! grades -/
def gt_add (a b : Nat) : Nat := if 2 < a + b then 2 else a + b
def gt_mul (a b : Nat) : Nat := if 2 < a * b then 2 else a * b
def gt_max (a b : Nat) : Nat := if b < a then a else b
theorem gt_add_le (a b : Nat) : gt_add a b ≤ 2 := by unfold gt_add; split <;> omega
theorem gt_mul_le (a b : Nat) : gt_mul a b ≤ 2 := by unfold gt_mul; split <;> omega
theorem gt_max_le {a b : Nat} (ha : a ≤ 2) (hb : b ≤ 2) : gt_max a b ≤ 2 := by unfold gt_max; split <;> omega
/-! the type, the usage by level, and the binder's grade of each node -/
abbrev gt_V : Type := gt_Ty × (Nat → Nat) × Nat
def gt_nv (k j w : Nat) (τ : gt_Ty) : gt_Ty :=
  if k = 9 then τ else if k = 12 then (if w = 0 then gt_l τ else gt_r τ) else if k = 15 then (if j = 1 then gt_l τ else gt_r τ) else gt_l τ
def gt_lv (kd : Nat → Nat) (ag : Nat → Int32) (d : Nat) : Nat := gp_sn kd d - 1 - (ag d).toNatClampNeg
def gt_z : Nat → Nat := fun _ => 0
def gt_se (a : Int32) (need : Nat) : Nat := if a = 3 then need else a.toNatClampNeg
def gt_F (kd : Nat → Nat) (ag : Nat → Int32) (n : Nat) (f : Nat → gt_V) (d : Nat) : gt_V :=
  if kd d ≤ 5 then (gt_mk (nI (kd d)) (ag d) (f (gp_ch kd n d 0)).1 (f (gp_ch kd n d 1)).1, gt_z, 0)
  else if kd d = 6 then
    (gt_nv (kd (gp_lc kd d (gt_lv kd ag d)).1) (gp_lc kd d (gt_lv kd ag d)).2 (gt_lv kd ag d - gp_sn kd (gp_lc kd d (gt_lv kd ag d)).1) (f (gp_ch kd n (gp_lc kd d (gt_lv kd ag d)).1 0)).1,
      fun v => if v = gt_lv kd ag d then 1 else 0, 0)
  else if kd d = 7 then (gt_mk 1 0 (fun _ => none) (fun _ => none), gt_z, 0)
  else if kd d = 8 then ((f (gp_ch kd n d 0)).1, fun v => gt_add ((f (gp_ch kd n d 0)).2.1 v) ((f (gp_ch kd n d 1)).2.1 v), 0)
  else if kd d = 9 then
    (gt_mk 4 (nI (gt_se (ag d) ((f (gp_ch kd n d 1)).2.1 (gp_sn kd d)))) (f (gp_ch kd n d 0)).1 (f (gp_ch kd n d 1)).1, (f (gp_ch kd n d 1)).2.1, gt_se (ag d) ((f (gp_ch kd n d 1)).2.1 (gp_sn kd d)))
  else if kd d = 10 then
    (gt_r (f (gp_ch kd n d 0)).1, fun v => gt_add ((f (gp_ch kd n d 0)).2.1 v) (gt_mul (gt_g (f (gp_ch kd n d 0)).1).toNatClampNeg ((f (gp_ch kd n d 1)).2.1 v)), 0)
  else if kd d = 11 then (gt_mk 2 0 (f (gp_ch kd n d 0)).1 (f (gp_ch kd n d 1)).1, fun v => gt_add ((f (gp_ch kd n d 0)).2.1 v) ((f (gp_ch kd n d 1)).2.1 v), 0)
  else if kd d = 12 then
    ((f (gp_ch kd n d 1)).1,
      fun v => gt_add (gt_mul (gt_max (gt_se (ag d) (gt_max ((f (gp_ch kd n d 1)).2.1 (gp_sn kd d)) ((f (gp_ch kd n d 1)).2.1 (gp_sn kd d + 1)))) 1) ((f (gp_ch kd n d 0)).2.1 v)) ((f (gp_ch kd n d 1)).2.1 v),
      gt_se (ag d) (gt_max ((f (gp_ch kd n d 1)).2.1 (gp_sn kd d)) ((f (gp_ch kd n d 1)).2.1 (gp_sn kd d + 1))))
  else if kd d = 13 then (gt_mk 3 0 (f (gp_ch kd n d 1)).1 (f (gp_ch kd n d 0)).1, (f (gp_ch kd n d 1)).2.1, 0)
  else if kd d = 14 then (gt_mk 3 0 (f (gp_ch kd n d 0)).1 (f (gp_ch kd n d 1)).1, (f (gp_ch kd n d 1)).2.1, 0)
  else if kd d = 15 then
    ((f (gp_ch kd n d 1)).1,
      fun v => gt_add (gt_mul (gt_max (gt_se (ag d) (gt_max ((f (gp_ch kd n d 1)).2.1 (gp_sn kd d)) ((f (gp_ch kd n d 2)).2.1 (gp_sn kd d)))) 1) ((f (gp_ch kd n d 0)).2.1 v)) (gt_max ((f (gp_ch kd n d 1)).2.1 v) ((f (gp_ch kd n d 2)).2.1 v)),
      gt_se (ag d) (gt_max ((f (gp_ch kd n d 1)).2.1 (gp_sn kd d)) ((f (gp_ch kd n d 2)).2.1 (gp_sn kd d))))
  else if kd d = 16 then (gt_mk 5 (ag d) (f (gp_ch kd n d 0)).1 (fun _ => none), fun v => gt_mul (ag d).toNatClampNeg ((f (gp_ch kd n d 0)).2.1 v), 0)
  else ((f (gp_ch kd n d 1)).1, fun v => gt_add ((f (gp_ch kd n d 0)).2.1 v) ((f (gp_ch kd n d 1)).2.1 v), (gt_g (f (gp_ch kd n d 0)).1).toNatClampNeg)
theorem gt_fx {α V : Type} (v0 : V) (μ : α → Nat) (F : (α → V) → α → V) : ∃ f : α → V, ∀ a, f a = F (fun b => if μ b < μ a then f b else v0) a := by
  refine ⟨(measure μ).wf.fix (fun a r => F (fun b => if h : μ b < μ a then r b h else v0) a), fun a => ?_⟩
  rw [WellFounded.fix_eq]
  apply congrArg (fun z => F z a)
  funext b
  by_cases h : μ b < μ a <;> simp [h]
def gt_v0 : gt_V := (fun _ => none, gt_z, 0)
def gt_mu (kd : Nat → Nat) (n d : Nat) : Nat := 64 * gp_en kd n d + (32 - d)
theorem gt_mu_ch {kd : Nat → Nat} {n d j : Nat} (h : gp_ok kd n) (hd : d < n) (hj : j < gp_ar (kd d)) : gt_mu kd n (gp_ch kd n d j) < gt_mu kd n d := by
  have hn := h.2.1
  have a := (gp_ch_lt h hd hj).1
  have b := gp_ch_ge h hd (Nat.le_of_lt hj)
  have key : ∀ i, j + 1 + i ≤ gp_ar (kd d) → gp_en kd n (gp_ch kd n d j) ≤ gp_ch kd n d (j + 1 + i) := by
    intro i
    induction i with
    | zero => intro _; exact Nat.le_refl _
    | succ i ih =>
      intro hi
      have := ih (by omega)
      have x := (gp_en_lt h (gp_ch_lt h hd (j := j + 1 + i) (by omega)).1).1
      show _ ≤ gp_en kd n (gp_ch kd n d (j + 1 + i))
      omega
  have c := key (gp_ar (kd d) - (j + 1)) (by omega)
  have e : j + 1 + (gp_ar (kd d) - (j + 1)) = gp_ar (kd d) := by omega
  rw [e, ← gp_en_ch h hd] at c
  unfold gt_mu
  omega
theorem gt_mu_lc {kd : Nat → Nat} {n d v : Nat} (h : gp_ok kd n) (hd : d < n) (hv : v < gp_sn kd d) : gt_mu kd n (gp_ch kd n (gp_lc kd d v).1 0) < gt_mu kd n d := by
  have hn := h.2.1
  obtain ⟨a, b, _, _, _, _, g⟩ := gp_lc_sp h hd hv
  have c : gp_en kd n (gp_ch kd n (gp_lc kd d v).1 0) = gp_ch kd n (gp_lc kd d v).1 1 := rfl
  have e := (gp_en_lt h hd).1
  unfold gt_mu
  rw [c]
  omega
noncomputable def gt_f (kd : Nat → Nat) (ag : Nat → Int32) (n : Nat) : Nat → gt_V := Classical.choose (gt_fx gt_v0 (gt_mu kd n) (gt_F kd ag n))
theorem gt_f_e (kd : Nat → Nat) (ag : Nat → Int32) (n d : Nat) : gt_f kd ag n d = gt_F kd ag n (fun b => if gt_mu kd n b < gt_mu kd n d then gt_f kd ag n b else gt_v0) d :=
  Classical.choose_spec (gt_fx gt_v0 (gt_mu kd n) (gt_F kd ag n)) d
noncomputable def gt_t (kd : Nat → Nat) (ag : Nat → Int32) (n d : Nat) : gt_Ty := (gt_f kd ag n d).1
noncomputable def gt_u (kd : Nat → Nat) (ag : Nat → Int32) (n d v : Nat) : Nat := (gt_f kd ag n d).2.1 v
noncomputable def gt_b (kd : Nat → Nat) (ag : Nat → Int32) (n d : Nat) : Nat := (gt_f kd ag n d).2.2

/-! depth and size of types: the reference's comparison ends -/
def gs_fit : Nat → Nat → gt_Ty → Prop
  | 0, _, _ => False
  | h + 1, s, τ => 1 ≤ s ∧ (gt_k τ = 1 ∨ (gt_k τ = 5 ∧ gs_fit h (s - 1) (gt_l τ)) ∨ ∃ a b, a + b + 1 ≤ s ∧ gs_fit h a (gt_l τ) ∧ gs_fit h b (gt_r τ))
theorem gs_pos : ∀ {h s τ}, gs_fit h s τ → 1 ≤ h ∧ 1 ≤ s
  | 0, _, _, z => z.elim
  | _ + 1, _, _, z => ⟨by omega, z.1⟩
theorem gs_mono : ∀ {h h' s s' : Nat} {τ : gt_Ty}, h ≤ h' → s ≤ s' → gs_fit h s τ → gs_fit h' s' τ
  | 0, _, _, _, _, _, _, z => z.elim
  | h + 1, 0, _, _, _, hh, _, _ => by omega
  | h + 1, h' + 1, s, s', τ, hh, hs, z => by
    refine ⟨by have := z.1; omega, ?_⟩
    rcases z.2 with e | ⟨e, f⟩ | ⟨a, b, e, f, g⟩
    · exact Or.inl e
    · exact Or.inr (Or.inl ⟨e, gs_mono (by omega) (by omega) f⟩)
    · exact Or.inr (Or.inr ⟨a, b, by omega, gs_mono (by omega) (Nat.le_refl _) f, gs_mono (by omega) (Nat.le_refl _) g⟩)
theorem gs_1 {h s : Nat} {τ : gt_Ty} (hk : gt_k τ = 1) (hh : 1 ≤ h) (hs : 1 ≤ s) : gs_fit h s τ := by
  cases h with
  | zero => omega
  | succ h => exact ⟨hs, Or.inl hk⟩
theorem gs_5 {h s : Nat} {τ : gt_Ty} (hk : gt_k τ = 5) (f : gs_fit h s (gt_l τ)) : gs_fit (h + 1) (s + 1) τ :=
  ⟨by omega, Or.inr (Or.inl ⟨hk, f⟩)⟩
theorem gs_2 {h a b : Nat} {τ : gt_Ty} (f : gs_fit h a (gt_l τ)) (g : gs_fit h b (gt_r τ)) : gs_fit (h + 1) (a + b + 1) τ :=
  ⟨by omega, Or.inr (Or.inr ⟨a, b, Nat.le_refl _, f, g⟩)⟩
theorem gs_l {h s : Nat} {τ : gt_Ty} (hk : ¬ gt_k τ = 1) (f : gs_fit h s τ) : gs_fit h s (gt_l τ) := by
  cases h with
  | zero => exact f
  | succ h =>
    rcases f.2 with e | ⟨e, f⟩ | ⟨a, b, e, f, g⟩
    · exact absurd e hk
    · exact gs_mono (by omega) (by omega) f
    · exact gs_mono (by omega) (by omega) f
theorem gs_r {h s : Nat} {τ : gt_Ty} (hk : ¬ gt_k τ = 1) (h5 : ¬ gt_k τ = 5) (f : gs_fit h s τ) : gs_fit h s (gt_r τ) := by
  cases h with
  | zero => exact f
  | succ h =>
    rcases f.2 with e | ⟨e, f⟩ | ⟨a, b, e, f, g⟩
    · exact absurd e hk
    · exact absurd e h5
    · exact gs_mono (by omega) (by omega) g
def gs_tab : List Nat := [0, 1, 2, 3, 5, 7, 10, 13, 19, 25, 35, 50, 70, 100, 133, 190, 250, 361, 500, 700, 1000, 1330, 1900, 2527, 3610, 5000, 7000, 10000, 13300, 19000, 25270, 36100, 50000]
def gs_F (n : Nat) : Nat := gs_tab.getD n 0
theorem gs_dec2 : ∀ a : Fin 32, ∀ b : Fin 32, 1 ≤ a.val → 1 ≤ b.val → a.val + b.val + 1 ≤ 32 →
    gs_F a.val + gs_F b.val + 1 ≤ gs_F (a.val + b.val + 1) ∧ gs_F a.val * gs_F b.val ≤ gs_F (a.val + b.val + 1) ∧ 1 + a.val + gs_F b.val * a.val ≤ gs_F (a.val + b.val + 1) := by decide +kernel
theorem gs_FA {a b : Nat} (ha : 1 ≤ a) (hb : 1 ≤ b) (h : a + b + 1 ≤ 32) : gs_F a + gs_F b + 1 ≤ gs_F (a + b + 1) := (gs_dec2 ⟨a, by omega⟩ ⟨b, by omega⟩ ha hb h).1
theorem gs_FM {a b : Nat} (ha : 1 ≤ a) (hb : 1 ≤ b) (h : a + b + 1 ≤ 32) : gs_F a * gs_F b ≤ gs_F (a + b + 1) := (gs_dec2 ⟨a, by omega⟩ ⟨b, by omega⟩ ha hb h).2.1
theorem gs_FL {a b : Nat} (ha : 1 ≤ a) (hb : 1 ≤ b) (h : a + b + 1 ≤ 32) : 1 + a + gs_F b * a ≤ gs_F (a + b + 1) := (gs_dec2 ⟨a, by omega⟩ ⟨b, by omega⟩ ha hb h).2.2
theorem gs_dec1 : ∀ a : Fin 32, gs_F a.val + 1 ≤ gs_F (a.val + 1) ∧ a.val + 1 ≤ gs_F (a.val + 1) := by decide +kernel
theorem gs_F1 {a : Nat} (h : a + 1 ≤ 32) : gs_F a + 1 ≤ gs_F (a + 1) := (gs_dec1 ⟨a, by omega⟩).1
theorem gs_Fn : ∀ {a : Nat}, a ≤ 32 → a ≤ gs_F a
  | 0, _ => Nat.zero_le _
  | a + 1, h => (gs_dec1 ⟨a, by omega⟩).2
theorem gs_Fm {a b : Nat} (h : a ≤ b) (hb : b ≤ 32) : gs_F a ≤ gs_F b := by
  induction b with
  | zero => have : a = 0 := by omega
            subst this; exact Nat.le_refl _
  | succ b ih =>
    rcases Nat.lt_or_ge a (b + 1) with z | z
    · have := ih (by omega) (by omega)
      have := gs_F1 (a := b) hb
      omega
    · have : a = b + 1 := by omega
      subst this; exact Nat.le_refl _
/-! all that a program promises once shape and scope are right -/
def gt_P (kd : Nat → Nat) (ag : Nat → Int32) (n : Nat) : Prop := gp_ok kd n ∧ gp_so kd n ∧ (∀ d, d < n → 1 ≤ kd d ∧ kd d ≤ 17) ∧
  (∀ d, d < n → kd d = 6 → ∃ i, i < gp_sn kd d ∧ ag d = nI i) ∧
  (∀ d, d < n → (kd d = 4 ∨ kd d = 5 ∨ kd d = 16) → ∃ g, g ≤ 2 ∧ ag d = nI g) ∧
  (∀ d, d < n → (kd d = 9 ∨ kd d = 12 ∨ kd d = 15) → ∃ g, g ≤ 3 ∧ ag d = nI g) ∧
  (∀ d, d < n → kd d ≤ 3 → ag d = 0)
theorem gt_P_lv {kd : Nat → Nat} {ag : Nat → Int32} {n d : Nat} (h : gt_P kd ag n) (hd : d < n) (hk : kd d = 6) : gt_lv kd ag d < gp_sn kd d := by
  obtain ⟨i, hi, e⟩ := h.2.2.2.1 d hd hk
  unfold gt_lv
  omega
/-- the size of a subtree -/
def gp_sz (kd : Nat → Nat) (n t : Nat) : Nat := gp_en kd n t - t
theorem gp_sz_0 {kd : Nat → Nat} {n t : Nat} (h : gp_ok kd n) (ht : t < n) (ha : gp_ar (kd t) = 0) : gp_sz kd n t = 1 := by
  unfold gp_sz
  rw [gp_en_ch h ht, ha]
  show t + 1 - t = 1
  omega
theorem gp_sz_1 {kd : Nat → Nat} {n t : Nat} (h : gp_ok kd n) (ht : t < n) (ha : gp_ar (kd t) = 1) : gp_sz kd n t = gp_sz kd n (gp_ch kd n t 0) + 1 ∧ 1 ≤ gp_sz kd n (gp_ch kd n t 0) := by
  have a := gp_en_lt h (gp_ch_lt h ht (j := 0) (by omega)).1
  unfold gp_sz
  rw [gp_en_ch h ht, ha]
  show gp_en kd n (gp_ch kd n t 0) - t = _ ∧ _
  have e : gp_ch kd n t 0 = t + 1 := rfl
  rw [e] at a ⊢
  omega
theorem gp_sz_2 {kd : Nat → Nat} {n t : Nat} (h : gp_ok kd n) (ht : t < n) (ha : gp_ar (kd t) = 2) : gp_sz kd n t = gp_sz kd n (gp_ch kd n t 0) + gp_sz kd n (gp_ch kd n t 1) + 1 ∧ 1 ≤ gp_sz kd n (gp_ch kd n t 0) ∧ 1 ≤ gp_sz kd n (gp_ch kd n t 1) := by
  have a := gp_en_lt h (gp_ch_lt h ht (j := 0) (by omega)).1
  have b := gp_en_lt h (gp_ch_lt h ht (j := 1) (by omega)).1
  unfold gp_sz
  rw [gp_en_ch h ht, ha]
  have e : gp_ch kd n t 0 = t + 1 := rfl
  have e1 : gp_ch kd n t 1 = gp_en kd n (gp_ch kd n t 0) := rfl
  have e2 : gp_ch kd n t 2 = gp_en kd n (gp_ch kd n t 1) := rfl
  rw [e2]
  omega
theorem gp_sz_3 {kd : Nat → Nat} {n t : Nat} (h : gp_ok kd n) (ht : t < n) (ha : gp_ar (kd t) = 3) : gp_sz kd n t = gp_sz kd n (gp_ch kd n t 0) + gp_sz kd n (gp_ch kd n t 1) + gp_sz kd n (gp_ch kd n t 2) + 1 ∧ 1 ≤ gp_sz kd n (gp_ch kd n t 0) ∧ 1 ≤ gp_sz kd n (gp_ch kd n t 1) ∧ 1 ≤ gp_sz kd n (gp_ch kd n t 2) := by
  have a := gp_en_lt h (gp_ch_lt h ht (j := 0) (by omega)).1
  have b := gp_en_lt h (gp_ch_lt h ht (j := 1) (by omega)).1
  have c := gp_en_lt h (gp_ch_lt h ht (j := 2) (by omega)).1
  unfold gp_sz
  rw [gp_en_ch h ht, ha]
  have e : gp_ch kd n t 0 = t + 1 := rfl
  have e1 : gp_ch kd n t 1 = gp_en kd n (gp_ch kd n t 0) := rfl
  have e2 : gp_ch kd n t 2 = gp_en kd n (gp_ch kd n t 1) := rfl
  have e3 : gp_ch kd n t 3 = gp_en kd n (gp_ch kd n t 2) := rfl
  rw [e3]
  omega
theorem gp_sz_le {kd : Nat → Nat} {n t : Nat} (h : gp_ok kd n) (ht : t < n) : gp_sz kd n t ≤ 32 ∧ 1 ≤ gp_sz kd n t := by
  have a := gp_en_lt h ht
  have b := h.2.1
  unfold gp_sz
  omega
/-- the types of the variables that node t sees fit -/
def gs_C (kd : Nat → Nat) (ag : Nat → Int32) (n t H M : Nat) : Prop := 1 ≤ M ∧ ∀ v, v < gp_sn kd t → gs_fit H M (gt_G kd ag n t v)
theorem gt_G_up {kd : Nat → Nat} {ag : Nat → Int32} {n t j v : Nat} (h : gp_ok kd n) (ht : t < n) (hj : j < gp_ar (kd t)) (hv : v < gp_sn kd t) : gt_G kd ag n (gp_ch kd n t j) v = gt_G kd ag n t v := by
  unfold gt_G
  rw [gp_lc_up h ht hj hv]
theorem gt_G_new {kd : Nat → Nat} {ag : Nat → Int32} {n t j v : Nat} (h : gp_ok kd n) (ht : t < n) (hj : j < gp_ar (kd t)) (hv : gp_sn kd t ≤ v) : gt_G kd ag n (gp_ch kd n t j) v = gt_nv (kd t) j (v - gp_sn kd t) (gt_t kd ag n (gp_ch kd n t 0)) := by
  unfold gt_G
  rw [gp_lc_new h ht hj hv]
theorem gs_C_up {kd : Nat → Nat} {ag : Nat → Int32} {n t j H M H' M' : Nat} (h : gp_ok kd n) (ht : t < n) (hj : j < gp_ar (kd t)) (c : gs_C kd ag n t H M) (hH : H ≤ H') (hM : M ≤ M')
    (hn : ∀ w, w < gp_bd (kd t) j → gs_fit H' M' (gt_nv (kd t) j w (gt_t kd ag n (gp_ch kd n t 0)))) : gs_C kd ag n (gp_ch kd n t j) H' M' := by
  refine ⟨by have := c.1; omega, fun v hv => ?_⟩
  rw [gp_sn_ch h ht hj] at hv
  rcases Nat.lt_or_ge v (gp_sn kd t) with z | z
  · rw [gt_G_up h ht hj z]
    exact gs_mono hH hM (c.2 v z)
  · rw [gt_G_new h ht hj z]
    exact hn _ (by omega)

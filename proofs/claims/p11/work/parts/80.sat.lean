/-! saturating sums of usages -/
def gz_sm (f : Nat → Nat) : Nat → Nat
  | 0 => 0
  | m + 1 => gt_add (gz_sm f m) (f m)
theorem gz_as (a b c : Nat) : gt_add (gt_add a b) c = gt_add a (gt_add b c) := by
  unfold gt_add
  by_cases h1 : 2 < a + b
  · rw [if_pos h1]
    by_cases h2 : 2 < b + c
    · rw [if_pos h2]
      by_cases h3 : 2 < 2 + c
      · rw [if_pos h3]
        by_cases h4 : 2 < a + 2
        · rw [if_pos h4]
        · rw [if_neg h4]; omega
      · rw [if_neg h3]
        by_cases h4 : 2 < a + 2
        · rw [if_pos h4]; omega
        · rw [if_neg h4]; omega
    · rw [if_neg h2]
      by_cases h3 : 2 < 2 + c
      · rw [if_pos h3, if_pos (by omega)]
      · rw [if_neg h3, if_pos (by omega)]; omega
  · rw [if_neg h1]
    by_cases h2 : 2 < b + c
    · rw [if_pos h2, if_pos (by omega)]
      by_cases h4 : 2 < a + 2
      · rw [if_pos h4]
      · rw [if_neg h4]; omega
    · rw [if_neg h2]
      by_cases h3 : 2 < a + b + c
      · rw [if_pos h3, if_pos (by omega)]
      · rw [if_neg h3, if_neg (by omega)]; omega
theorem gz_lc (a b c : Nat) : gt_add a (gt_add b c) = gt_add b (gt_add a c) := by rw [← gz_as, gt_add_c a b, gz_as]
theorem gz_4 (a b c d : Nat) : gt_add (gt_add a b) (gt_add c d) = gt_add (gt_add a c) (gt_add b d) := by rw [gz_as, gz_as, gz_lc b c d]
theorem gz_mono {a a' b b' : Nat} (ha : a ≤ a') (hb : b ≤ b') : gt_add a b ≤ gt_add a' b' := by
  unfold gt_add
  split <;> split <;> omega
theorem gz_0 (a : Nat) (h : a ≤ 2) : gt_add 0 a = a := by rw [gt_add_c]; exact gt_add_0 h
theorem gz_mm {g g' a a' : Nat} (hg : g ≤ g') (ha : a ≤ a') : gt_mul g a ≤ gt_mul g' a' := by
  have := Nat.mul_le_mul hg ha
  unfold gt_mul
  split <;> split <;> omega
theorem gz_di {g a b : Nat} (hg : g ≤ 2) (ha : a ≤ 2) (hb : b ≤ 2) : gt_mul g (gt_add a b) = gt_add (gt_mul g a) (gt_mul g b) := by
  have e1 : g = 0 ∨ g = 1 ∨ g = 2 := by omega
  have e2 : a = 0 ∨ a = 1 ∨ a = 2 := by omega
  have e3 : b = 0 ∨ b = 1 ∨ b = 2 := by omega
  rcases e1 with rfl | rfl | rfl <;> rcases e2 with rfl | rfl | rfl <;> rcases e3 with rfl | rfl | rfl <;> decide
theorem gz_sm_le (f : Nat → Nat) : ∀ m, gz_sm f m ≤ 2
  | 0 => Nat.zero_le _
  | m + 1 => gt_add_le _ _
theorem gz_sm_add (f g : Nat → Nat) : ∀ m, gz_sm (fun i => gt_add (f i) (g i)) m = gt_add (gz_sm f m) (gz_sm g m)
  | 0 => rfl
  | m + 1 => by
    simp only [gz_sm]
    rw [gz_sm_add f g m, gz_4]
theorem gz_sm_mul {g : Nat} (hg : g ≤ 2) (f : Nat → Nat) : ∀ m, (∀ i, i < m → f i ≤ 2) → gz_sm (fun i => gt_mul g (f i)) m = gt_mul g (gz_sm f m)
  | 0, _ => by show 0 = gt_mul g 0; unfold gt_mul; rw [Nat.mul_zero]; rfl
  | m + 1, h => by
    simp only [gz_sm]
    rw [gz_sm_mul hg f m (fun i hi => h i (by omega)), gz_di hg (gz_sm_le f m) (h m (by omega))]
theorem gz_sm_mono {f g : Nat → Nat} : ∀ {m : Nat}, (∀ i, i < m → f i ≤ g i) → gz_sm f m ≤ gz_sm g m
  | 0, _ => Nat.le_refl _
  | m + 1, h => gz_mono (gz_sm_mono (fun i hi => h i (by omega))) (h m (by omega))
theorem gz_sm_eq {f g : Nat → Nat} : ∀ {m : Nat}, (∀ i, i < m → f i = g i) → gz_sm f m = gz_sm g m
  | 0, _ => rfl
  | m + 1, h => by
    simp only [gz_sm]
    rw [gz_sm_eq (fun i hi => h i (by omega)), h m (by omega)]
theorem gz_sm_0 {f : Nat → Nat} : ∀ {m : Nat}, (∀ i, i < m → f i = 0) → gz_sm f m = 0
  | 0, _ => rfl
  | m + 1, h => by
    simp only [gz_sm]
    rw [gz_sm_0 (fun i hi => h i (by omega)), h m (by omega)]
    rfl
/-- one place of the sum, and the rest -/
theorem gz_sm_1 {f g : Nat → Nat} {k x : Nat} : ∀ {m : Nat}, k < m → (∀ i, i < m → i ≠ k → g i = f i) → g k = 0 → f k = x → gz_sm f m = gt_add x (gz_sm g m)
  | 0, h, _, _, _ => by omega
  | m + 1, h, hg, h0, hx => by
    simp only [gz_sm]
    rcases Nat.lt_or_ge k m with z | z
    · rw [gz_sm_1 z (fun i hi => hg i (by omega)) h0 hx, gz_as, hg m (by omega) (by omega)]
    · have e : k = m := by omega
      subst e
      rw [gz_sm_eq (fun i hi => hg i (by omega) (by omega)), h0, hx, gt_add_0 (gz_sm_le _ _), gt_add_c]
/-- how often record r is asked for by a list f of m usages (by level) in environment e -/
def gz_uf (rs : Nat → Nat) (f : Nat → Nat) (m e r : Nat) : Nat := gz_sm (fun i => if gm_nth rs e i = r then f (m - 1 - i) else 0) m
theorem gz_uf_le (rs : Nat → Nat) (f : Nat → Nat) (m e r : Nat) : gz_uf rs f m e r ≤ 2 := gz_sm_le _ _
theorem gz_uf_add (rs : Nat → Nat) (f g : Nat → Nat) (m e r : Nat) : gz_uf rs (fun v => gt_add (f v) (g v)) m e r = gt_add (gz_uf rs f m e r) (gz_uf rs g m e r) := by
  unfold gz_uf
  rw [← gz_sm_add]
  refine gz_sm_eq (fun i hi => ?_)
  by_cases z : gm_nth rs e i = r
  · rw [if_pos z, if_pos z, if_pos z]
  · rw [if_neg z, if_neg z, if_neg z]; rfl
theorem gz_uf_mul {g : Nat} (hg : g ≤ 2) (rs : Nat → Nat) (f : Nat → Nat) (m e r : Nat) (hf : ∀ v, f v ≤ 2) : gz_uf rs (fun v => gt_mul g (f v)) m e r = gt_mul g (gz_uf rs f m e r) := by
  unfold gz_uf
  rw [← gz_sm_mul hg _ _ (fun i _ => by split; exact hf _; omega)]
  refine gz_sm_eq (fun i hi => ?_)
  by_cases z : gm_nth rs e i = r
  · rw [if_pos z, if_pos z]
  · rw [if_neg z, if_neg z]; unfold gt_mul; rw [Nat.mul_zero]; rfl
theorem gz_uf_mono {rs : Nat → Nat} {f g : Nat → Nat} {m e r : Nat} (h : ∀ v, f v ≤ g v) : gz_uf rs f m e r ≤ gz_uf rs g m e r :=
  gz_sm_mono (fun i _ => by
    by_cases z : gm_nth rs e i = r
    · rw [if_pos z, if_pos z]; exact h _
    · rw [if_neg z, if_neg z]; exact Nat.le_refl _)

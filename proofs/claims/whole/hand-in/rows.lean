section
theorem pk_us {f : Nat → Int32} {k : Nat} {x : Int32} : upd f k x k = x := if_pos rfl
theorem pk_un {f : Nat → Int32} {k j : Nat} {x : Int32} (h : j ≠ k) : upd f k x j = f j := if_neg h
theorem pk_sub {a b : Nat} (h : b ≤ a) : nI a - nI b = nI (a - b) := by
  obtain ⟨c, rfl⟩ : ∃ c, a = c + b := ⟨a - b, by omega⟩
  rw [← nI_add, Int32.add_sub_cancel, Nat.add_sub_cancel]
theorem pk_m1 (n : Nat) : nI (n + 1) + (-1) = nI n := by
  rw [← nI_1, Int32.add_assoc, show (1 : Int32) + (-1) = 0 from rfl, Int32.add_zero]
theorem pk_mul (a b : Nat) : nI a * nI b = nI (a * b) := (Int32.ofNat_mul a b).symm
theorem pk_div {a d : Nat} (ha : a < 2 ^ 31) (h0 : 0 < d) (hd : d < 2 ^ 31) : nI a / nI d = nI (a / d) := by
  apply Int32.toInt_inj.mp
  rw [lg_idiv_nonneg (by rw [nI_toInt ha]; omega) (by rw [nI_toInt hd]; omega), nI_toInt ha, nI_toInt hd, nI_toInt (Nat.lt_of_le_of_lt (Nat.div_le_self a d) ha)]
  first | rfl | exact (Int.natCast_ediv _ _).symm
theorem pk_rem {a d : Nat} (ha : a < 2 ^ 31) (h0 : 0 < d) (hd : d < 2 ^ 31) : nI a - nI a / nI d * nI d = nI (a % d) := by
  rw [pk_div ha h0 hd, pk_mul, pk_sub (Nat.div_mul_le_self a d)]
  exact congrArg nI (by have := Nat.div_add_mod' a d; omega)
theorem pk_ix (x : Int32) {n : Nat} (hn : n < 2 ^ 31) : x < 0 ∨ nI n ≤ x ∨ ∃ j : Nat, j < n ∧ x = nI j := by
  by_cases h : x < 0
  · exact Or.inl h
  · obtain ⟨j, hj, rfl⟩ := nI_of h
    by_cases h2 : j < n
    · exact Or.inr (Or.inr ⟨j, h2, rfl⟩)
    · exact Or.inr (Or.inl (nI_le (by omega) hj))
theorem pk_le {x y : Int32} {A B : Prop} (a b : Nat) (f : a ≤ b → A) (g : b < a → B) (hx : x = nI a := by rfl) (hy : y = nI b := by rfl) (ha : a < 2 ^ 31 := by omega) (hb : b < 2 ^ 31 := by omega) : (x ≤ y → A) ∧ (¬ x ≤ y → B) := by
  subst hx hy
  rw [nI_leI ha hb]
  exact ⟨f, fun z => g (by omega)⟩
theorem pk_lt {x y : Int32} {A B : Prop} (a b : Nat) (f : a < b → A) (g : b ≤ a → B) (hx : x = nI a := by rfl) (hy : y = nI b := by rfl) (ha : a < 2 ^ 31 := by omega) (hb : b < 2 ^ 31 := by omega) : (x < y → A) ∧ (¬ x < y → B) := by
  subst hx hy
  rw [nI_ltI ha hb]
  exact ⟨f, fun z => g (by omega)⟩
theorem pk_eq {x y : Int32} {A B : Prop} (a b : Nat) (f : a = b → A) (g : a ≠ b → B) (hx : x = nI a := by rfl) (hy : y = nI b := by rfl) (ha : a < 2 ^ 31 := by omega) (hb : b < 2 ^ 31 := by omega) : (x = y → A) ∧ (¬ x = y → B) := by
  subst hx hy
  rw [nI_eq ha hb]
  exact ⟨f, g⟩
theorem pk_in {x : Int32} (n N : Nat) (h : n < N) (hx : x = nI n := by rfl) (hN : N < 2 ^ 31 := by omega) : vp_in x N := by
  subst hx
  exact vp_in_nI h hN
theorem pk_cl {x : Int32} (n : Nat) (hx : x = nI n := by rfl) (h : n < 2 ^ 31 := by omega) : x.toNatClampNeg = n := by
  subst hx
  exact nI_clamp h
theorem pk_loop {σ : Type} (W : Nat → Nat → σ → Prop) (I : Nat → σ → Prop) (e i0 : Nat) (s : σ) (hi : i0 ≤ e) (h0 : I i0 s) (hx : ∀ n s, I e s → W (n + 1) e s)
    (hs : ∀ n i s, i < e → I i s → (∀ s', I (i + 1) s' → W n (i + 1) s') → W (n + 1) i s) : ∃ n, W n i0 s :=
  ⟨e + 1, loop_i W I e hx hs (e + 1) i0 s hi (by omega) h0⟩
theorem pk_loopD {σ : Type} (W : Nat → Nat → σ → Prop) (I : Nat → σ → Prop) (hx : ∀ n s, I 0 s → W (n + 1) 0 s)
    (hs : ∀ n i s, I (i + 1) s → (∀ s', I i s' → W n i s') → W (n + 1) (i + 1) s) : ∀ (e : Nat) (s : σ), I e s → W (e + 1) e s := by
  intro e
  induction e with
  | zero => exact fun s h => hx 0 s h
  | succ e ih => exact fun s h => hs (e + 1) e s h (fun s' h' => ih s' h')
theorem pk_tn {n : Nat} (h : n < 2 ^ 32) : (nI n).toBitVec.toNat = n := Nat.mod_eq_of_lt h
theorem pk_and (x : Int32) {m : Int32} (k : Nat) (hm : m.toBitVec.toNat = 2 ^ k - 1) : x &&& m = nI (x.toBitVec.toNat % 2 ^ k) := by
  apply Int32.toBitVec_inj.mp
  apply BitVec.eq_of_toNat_eq
  rw [Int32.toBitVec_and, BitVec.toNat_and, hm, Nat.and_two_pow_sub_one_eq_mod]
  show _ = (BitVec.ofNat 32 _).toNat
  rw [BitVec.toNat_ofNat]
  exact (Nat.mod_eq_of_lt (Nat.lt_of_le_of_lt (Nat.mod_le _ _) x.toBitVec.isLt)).symm
theorem pk_andN {n : Nat} (h : n < 2 ^ 32) {m : Int32} (k : Nat) (hm : m.toBitVec.toNat = 2 ^ k - 1) : nI n &&& m = nI (n % 2 ^ k) := by
  rw [pk_and _ k hm, pk_tn h]
theorem pk_andE (x : Int32) {m : Int32} (k : Nat) (hm : m.toBitVec.toNat = 2 ^ k - 1) : ∃ j : Nat, j < 2 ^ k ∧ x &&& m = nI j := ⟨_, Nat.mod_lt _ (Nat.two_pow_pos k), pk_and x k hm⟩
theorem pk_shr (a s : Int32) (k : Nat) (hs : (s.toBitVec.smod 32).toNat = k) : (a >>> s).toInt = a.toInt >>> k := by
  show (a.toBitVec.sshiftRight (s.toBitVec.smod 32).toNat).toInt = _
  rw [hs, BitVec.toInt_sshiftRight]
  rfl
theorem pk_shrN {n : Nat} (h : n < 2 ^ 31) (s : Int32) (k : Nat) (hs : (s.toBitVec.smod 32).toNat = k) : nI n >>> s = nI (n / 2 ^ k) := by
  apply Int32.toInt_inj.mp
  have h2 : n / 2 ^ k ≤ n := Nat.div_le_self _ _
  rw [pk_shr _ _ k hs, nI_toInt h, nI_toInt (by omega), Int.shiftRight_eq_div_pow]
  rfl
end
section
def gp_ar (k : Nat) : Nat := if k = 1 ∨ k = 6 ∨ k = 7 then 0 else if k = 5 ∨ k = 16 then 1 else if k = 15 then 3 else 2
def gp_bd (k j : Nat) : Nat := if j = 0 then 0 else if k = 12 then 2 else if k = 9 ∨ k = 15 ∨ k = 17 then 1 else 0
def gp_srt (k : Nat) : Nat := if k ≤ 5 then 0 else 1
def gp_cs (k j : Nat) : Nat := if k ≤ 5 then 0 else if (k = 9 ∨ k = 13 ∨ k = 14) ∧ j = 0 then 0 else 1
theorem gp_ar_le (k : Nat) : gp_ar k ≤ 3 := by
  unfold gp_ar
  split
  · omega
  · split
    · omega
    · split <;> omega
theorem gp_bd_0 (k : Nat) : gp_bd k 0 = 0 := by simp [gp_bd]
theorem gp_bd_le (k j : Nat) : gp_bd k j ≤ 2 := by
  unfold gp_bd
  split
  · omega
  · split
    · omega
    · split <;> omega
/-- m places of node i, from slot j on -/
def gp_kf (i : Nat) : Nat → Nat → List Nat
  | _, 0 => []
  | j, m + 1 => (3 * i + j) :: gp_kf i (j + 1) m
theorem gp_kf_len (i : Nat) : ∀ m j, (gp_kf i j m).length = m
  | 0, _ => rfl
  | m + 1, j => by simp [gp_kf, gp_kf_len i m]
theorem gp_kf_mem (i : Nat) : ∀ m j q, q ∈ gp_kf i j m → ∃ l, j ≤ l ∧ l < j + m ∧ q = 3 * i + l
  | 0, _, q, h => by simp [gp_kf] at h
  | m + 1, j, q, h => by
    simp only [gp_kf, List.mem_cons] at h
    rcases h with h | h
    · exact ⟨j, by omega, by omega, h⟩
    · obtain ⟨l, h1, h2, h3⟩ := gp_kf_mem i m (j + 1) q h
      exact ⟨l, by omega, by omega, h3⟩
/-- the expected places, the first one at the head -/
def gp_S (kd : Nat → Nat) : Nat → List Nat
  | 0 => [96]
  | i + 1 => gp_kf i 0 (gp_ar (kd i)) ++ (gp_S kd i).tail
theorem gp_S_s (kd : Nat → Nat) (i : Nat) : gp_S kd (i + 1) = gp_kf i 0 (gp_ar (kd i)) ++ (gp_S kd i).tail := rfl
def gp_pl (kd : Nat → Nat) (i : Nat) : Nat := (gp_S kd i).headD 0
def gp_nd : List Nat → Prop
  | [] => True
  | q :: R => q ∉ R ∧ gp_nd R
theorem gp_nd_kf (i : Nat) {R : List Nat} (h : gp_nd R) (hq : ∀ q, q ∈ R → q < 3 * i ∨ 3 * i + 3 ≤ q) : ∀ m j, j + m ≤ 3 → gp_nd (gp_kf i j m ++ R)
  | 0, _, _ => h
  | m + 1, j, hj => by
    refine ⟨?_, gp_nd_kf i h hq m (j + 1) (by omega)⟩
    intro z
    rcases List.mem_append.mp z with z | z
    · obtain ⟨l, h1, h2, h3⟩ := gp_kf_mem i m (j + 1) _ z
      omega
    · have := hq _ z
      omega
theorem gp_nd_tail {l : List Nat} (h : gp_nd l) : gp_nd l.tail := by
  cases l with
  | nil => exact h
  | cons a l => exact h.2
theorem gp_S_in (kd : Nat → Nat) : ∀ i, i ≤ 32 → (∀ q, q ∈ gp_S kd i → (i = 0 ∧ q = 96) ∨ (q / 3 < i ∧ q % 3 < gp_ar (kd (q / 3)))) ∧ gp_nd (gp_S kd i)
  | 0, _ => ⟨fun q h => by simp [gp_S] at h; exact Or.inl ⟨rfl, h⟩, by simp [gp_S, gp_nd]⟩
  | i + 1, hi => by
    obtain ⟨h1, h2⟩ := gp_S_in kd i (by omega)
    have h3 := gp_ar_le (kd i)
    have hR : ∀ q, q ∈ (gp_S kd i).tail → q / 3 < i ∧ q % 3 < gp_ar (kd (q / 3)) := by
      intro q hq
      rcases h1 q (List.mem_of_mem_tail hq) with ⟨rfl, _⟩ | z
      · simp [gp_S] at hq
      · exact z
    refine ⟨fun q hq => Or.inr ?_, gp_nd_kf i (gp_nd_tail h2) (fun q hq => by have := (hR q hq).1; omega) _ 0 (by omega)⟩
    rw [gp_S_s] at hq
    rcases List.mem_append.mp hq with z | z
    · obtain ⟨l, _, l2, rfl⟩ := gp_kf_mem i _ 0 _ z
      have e1 : (3 * i + l) / 3 = i := by omega
      have e2 : (3 * i + l) % 3 = l := by omega
      rw [e1, e2]
      exact ⟨by omega, by omega⟩
    · have := hR q z
      exact ⟨by omega, this.2⟩
theorem gp_S_len (kd : Nat → Nat) : ∀ i, (gp_S kd i).length ≤ 2 * i + 1
  | 0 => by simp [gp_S]
  | i + 1 => by
    have := gp_S_len kd i
    have h3 := gp_ar_le (kd i)
    rw [gp_S_s, List.length_append, gp_kf_len, List.length_tail]
    omega
/-- the program of n nodes is one tree -/
def gp_ok (kd : Nat → Nat) (n : Nat) : Prop := 0 < n ∧ n ≤ 32 ∧ (∀ i, i < n → gp_S kd i ≠ []) ∧ gp_S kd n = []
theorem gp_cons {kd : Nat → Nat} {n i : Nat} (h : gp_ok kd n) (hi : i < n) : gp_S kd i = gp_pl kd i :: (gp_S kd i).tail := by
  unfold gp_pl
  have := h.2.2.1 i hi
  cases e : gp_S kd i with
  | nil => exact absurd e this
  | cons a l => rfl
theorem gp_pl_0 (kd : Nat → Nat) : gp_pl kd 0 = 96 := rfl
theorem gp_pl_in {kd : Nat → Nat} {n i : Nat} (h : gp_ok kd n) (hi : i < n) (h0 : 0 < i) : gp_pl kd i / 3 < i ∧ gp_pl kd i % 3 < gp_ar (kd (gp_pl kd i / 3)) := by
  have hm : gp_pl kd i ∈ gp_S kd i := by rw [gp_cons h hi]; exact List.mem_cons_self
  have hn := h.2.1
  rcases (gp_S_in kd i (by omega)).1 _ hm with z | z
  · omega
  · exact z
/-- the end of a subtree: need places are awaited, from node m on -/
def gp_se (kd : Nat → Nat) : Nat → Nat → Nat → Nat
  | 0, _, m => m
  | f + 1, need, m => if need + gp_ar (kd m) = 1 then m + 1 else gp_se kd f (need + gp_ar (kd m) - 1) (m + 1)
def gp_en (kd : Nat → Nat) (n t : Nat) : Nat := gp_se kd (n - t) 1 t
theorem gp_se_sp {kd : Nat → Nat} {n : Nat} (h : gp_ok kd n) (R : List Nat) : ∀ f need m A, m + f = n → gp_S kd m = A ++ R → A.length = need → 0 < need →
    m < gp_se kd f need m ∧ gp_se kd f need m ≤ n ∧ gp_S kd (gp_se kd f need m) = R ∧ ∀ i, m < i → i < gp_se kd f need m → ∃ b B, gp_S kd i = b :: (B ++ R)
  | 0, need, m, A, hm, hS, hA, hn => by
    have e : m = n := by omega
    rw [e, h.2.2.2] at hS
    have := (List.append_eq_nil_iff.mp hS.symm).1
    rw [this] at hA
    simp at hA
    omega
  | f + 1, need, m, A, hm, hS, hA, hn => by
    cases A with
    | nil => simp at hA; omega
    | cons a A =>
      have hS1 : gp_S kd (m + 1) = (gp_kf m 0 (gp_ar (kd m)) ++ A) ++ R := by
        rw [gp_S_s, hS, List.append_assoc]; rfl
      simp only [List.length_cons] at hA
      unfold gp_se
      by_cases z : need + gp_ar (kd m) = 1
      · rw [if_pos z]
        have hl : (gp_kf m 0 (gp_ar (kd m)) ++ A).length = 0 := by rw [List.length_append, gp_kf_len]; omega
        rw [List.length_eq_zero_iff.mp hl] at hS1
        exact ⟨by omega, by omega, hS1, fun i h1 h2 => by omega⟩
      · rw [if_neg z]
        obtain ⟨a1, a2, a3, a4⟩ := gp_se_sp h R f (need + gp_ar (kd m) - 1) (m + 1) _ (by omega) hS1 (by rw [List.length_append, gp_kf_len]; omega) (by omega)
        refine ⟨by omega, a2, a3, fun i h1 h2 => ?_⟩
        by_cases e : i = m + 1
        · subst e
          cases e2 : gp_kf m 0 (gp_ar (kd m)) ++ A with
          | nil =>
            have : (gp_kf m 0 (gp_ar (kd m)) ++ A).length = 0 := by rw [e2]; rfl
            rw [List.length_append, gp_kf_len] at this
            omega
          | cons b B => exact ⟨b, B, by rw [hS1, e2]; rfl⟩
        · exact a4 i (by omega) h2
def gp_En (kd : Nat → Nat) (n t e : Nat) : Prop := t < e ∧ e ≤ n ∧ gp_S kd e = (gp_S kd t).tail ∧ ∀ i, t < i → i < e → ∃ b B, gp_S kd i = b :: (B ++ (gp_S kd t).tail)
theorem gp_en_sp {kd : Nat → Nat} {n t : Nat} (h : gp_ok kd n) (ht : t < n) : gp_En kd n t (gp_en kd n t) :=
  gp_se_sp h (gp_S kd t).tail (n - t) 1 t [gp_pl kd t] (by omega) (gp_cons h ht) rfl (by omega)
theorem gp_En_u {kd : Nat → Nat} {n t e e' : Nat} (h1 : gp_En kd n t e) (h2 : gp_En kd n t e') : e = e' := by
  have key : ∀ {e e' : Nat}, gp_En kd n t e → gp_En kd n t e' → ¬ e < e' := by
    intro e e' h1 h2 hl
    obtain ⟨b, B, z⟩ := h2.2.2.2 e h1.1 hl
    rw [h1.2.2.1] at z
    have := congrArg List.length z
    simp at this
    omega
  have a := key h1 h2
  have b := key h2 h1
  omega
/-- the j-th child -/
def gp_ch (kd : Nat → Nat) (n t : Nat) : Nat → Nat
  | 0 => t + 1
  | j + 1 => gp_en kd n (gp_ch kd n t j)
theorem gp_ch_sp {kd : Nat → Nat} {n t : Nat} (h : gp_ok kd n) (ht : t < n) : ∀ j, j ≤ gp_ar (kd t) → t + 1 + j ≤ gp_ch kd n t j ∧ gp_ch kd n t j ≤ n ∧
    gp_S kd (gp_ch kd n t j) = gp_kf t j (gp_ar (kd t) - j) ++ (gp_S kd t).tail ∧ ∀ i, t < i → i < gp_ch kd n t j → ∃ b B, gp_S kd i = b :: (B ++ (gp_S kd t).tail)
  | 0, _ => ⟨by simp only [gp_ch]; omega, by simp only [gp_ch]; omega, gp_S_s kd t, fun i h1 h2 => by simp only [gp_ch] at h2; omega⟩
  | j + 1, hj => by
    obtain ⟨a1, a2, a3, a4⟩ := gp_ch_sp h ht j (by omega)
    have e : gp_ar (kd t) - j = (gp_ar (kd t) - (j + 1)) + 1 := by omega
    rw [e] at a3
    simp only [gp_kf, List.cons_append] at a3
    have hc : gp_ch kd n t j < n := by
      rcases Nat.lt_or_ge (gp_ch kd n t j) n with z | z
      · exact z
      · have : gp_ch kd n t j = n := by omega
        rw [this, h.2.2.2] at a3
        exact absurd a3.symm (List.cons_ne_nil _ _)
    obtain ⟨b1, b2, b3, b4⟩ := gp_en_sp h hc
    rw [a3] at b3 b4
    simp only [List.tail_cons] at b3 b4
    refine ⟨by simp only [gp_ch]; omega, b2, b3, fun i h1 h2 => ?_⟩
    simp only [gp_ch] at h2
    rcases Nat.lt_trichotomy i (gp_ch kd n t j) with z | z | z
    · exact a4 i h1 z
    · rw [z, a3]
      exact ⟨_, _, rfl⟩
    · obtain ⟨b, B, e⟩ := b4 i z h2
      exact ⟨b, B ++ gp_kf t (j + 1) (gp_ar (kd t) - (j + 1)), by rw [e, List.append_assoc]⟩
theorem gp_ch_lt {kd : Nat → Nat} {n t j : Nat} (h : gp_ok kd n) (ht : t < n) (hj : j < gp_ar (kd t)) : gp_ch kd n t j < n ∧ gp_pl kd (gp_ch kd n t j) = 3 * t + j := by
  obtain ⟨a1, a2, a3, a4⟩ := gp_ch_sp h ht j (by omega)
  have e : gp_ar (kd t) - j = (gp_ar (kd t) - (j + 1)) + 1 := by omega
  rw [e] at a3
  simp only [gp_kf, List.cons_append] at a3
  refine ⟨?_, by unfold gp_pl; rw [a3]; rfl⟩
  rcases Nat.lt_or_ge (gp_ch kd n t j) n with z | z
  · exact z
  · have : gp_ch kd n t j = n := by omega
    rw [this, h.2.2.2] at a3
    exact absurd a3.symm (List.cons_ne_nil _ _)
theorem gp_ch_ge {kd : Nat → Nat} {n t j : Nat} (h : gp_ok kd n) (ht : t < n) (hj : j ≤ gp_ar (kd t)) : t + 1 + j ≤ gp_ch kd n t j := (gp_ch_sp h ht j hj).1
theorem gp_en_ch {kd : Nat → Nat} {n t : Nat} (h : gp_ok kd n) (ht : t < n) : gp_en kd n t = gp_ch kd n t (gp_ar (kd t)) := by
  obtain ⟨a1, a2, a3, a4⟩ := gp_ch_sp h ht (gp_ar (kd t)) (Nat.le_refl _)
  refine gp_En_u (gp_en_sp h ht) ⟨by omega, a2, ?_, a4⟩
  rw [a3, Nat.sub_self]; rfl
theorem gp_ch_s (kd : Nat → Nat) (n t j : Nat) : gp_ch kd n t (j + 1) = gp_en kd n (gp_ch kd n t j) := rfl
theorem gp_en_0 {kd : Nat → Nat} {n : Nat} (h : gp_ok kd n) : gp_en kd n 0 = n := by
  have a := gp_en_sp h h.1
  refine gp_En_u a ⟨h.1, Nat.le_refl _, by rw [h.2.2.2]; rfl, fun i h1 h2 => ⟨gp_pl kd i, (gp_S kd i).tail, ?_⟩⟩
  show _ = _ :: (_ ++ [])
  rw [List.append_nil]
  exact gp_cons h h2
theorem gp_out {kd : Nat → Nat} {n c : Nat} (h : gp_ok kd n) (hc : c < n) : ∀ d, c + 1 + d ≤ n → gp_pl kd c ∉ gp_S kd (c + 1 + d) := by
  have hn := h.2.1
  have hp : (c = 0 ∧ gp_pl kd c = 96) ∨ gp_pl kd c / 3 < c := by
    rcases Nat.eq_zero_or_pos c with z | z
    · subst z; exact Or.inl ⟨rfl, rfl⟩
    · exact Or.inr (gp_pl_in h hc z).1
  have key : ∀ m, c ≤ m → m < n → gp_pl kd c ∉ (gp_S kd m).tail → gp_pl kd c ∉ gp_S kd (m + 1) := by
    intro m h1 h2 h3 h4
    rw [gp_S_s] at h4
    rcases List.mem_append.mp h4 with z | z
    · obtain ⟨l, _, l2, e⟩ := gp_kf_mem m _ 0 _ z
      have := gp_ar_le (kd m)
      omega
    · exact h3 z
  intro d
  induction d with
  | zero =>
    intro _
    refine key c (Nat.le_refl _) hc ?_
    have := (gp_S_in kd c (by omega)).2
    rw [gp_cons h hc] at this
    exact this.1
  | succ d ih =>
    intro hd
    exact key (c + 1 + d) (by omega) (by omega) (fun z => ih (by omega) (List.mem_of_mem_tail z))
theorem gp_pl_inj {kd : Nat → Nat} {n c c' : Nat} (h : gp_ok kd n) (hc : c < n) (hc' : c' < n) (e : gp_pl kd c = gp_pl kd c') : c = c' := by
  have key : ∀ {c c' : Nat}, c < n → c' < n → gp_pl kd c = gp_pl kd c' → ¬ c < c' := by
    intro c c' h1 h2 e hl
    refine gp_out h h1 (c' - c - 1) (by omega) ?_
    have e2 : c + 1 + (c' - c - 1) = c' := by omega
    rw [e2, e, gp_cons h h2]
    exact List.mem_cons_self
  have a := key hc hc' e
  have b := key hc' hc e.symm
  omega
theorem gp_ch_of {kd : Nat → Nat} {n c : Nat} (h : gp_ok kd n) (hc : c < n) (h0 : 0 < c) : c = gp_ch kd n (gp_pl kd c / 3) (gp_pl kd c % 3) := by
  obtain ⟨a, b⟩ := gp_pl_in h hc h0
  obtain ⟨d, e⟩ := gp_ch_lt h (by omega) b
  refine gp_pl_inj h hc d ?_
  rw [e]
  omega
theorem gp_ch_inj {kd : Nat → Nat} {n t j t' j' : Nat} (h : gp_ok kd n) (ht : t < n) (hj : j < gp_ar (kd t)) (ht' : t' < n) (hj' : j' < gp_ar (kd t')) (e : gp_ch kd n t j = gp_ch kd n t' j') : t = t' ∧ j = j' := by
  have a := (gp_ch_lt h ht hj).2
  have b := (gp_ch_lt h ht' hj').2
  have c := gp_ar_le (kd t)
  have d := gp_ar_le (kd t')
  rw [e] at a
  omega
/-- how many variables a node sees -/
def gp_sf (kd : Nat → Nat) : Nat → Nat → Nat
  | 0, _ => 0
  | f + 1, c => if c = 0 then 0 else gp_sf kd f (gp_pl kd c / 3) + gp_bd (kd (gp_pl kd c / 3)) (gp_pl kd c % 3)
def gp_sn (kd : Nat → Nat) (c : Nat) : Nat := gp_sf kd (c + 1) c
theorem gp_sf_f {kd : Nat → Nat} {n : Nat} (h : gp_ok kd n) : ∀ f g c, c < n → c < f → c < g → gp_sf kd f c = gp_sf kd g c
  | 0, _, _, _, h1, _ => by omega
  | _, 0, _, _, _, h2 => by omega
  | f + 1, g + 1, c, hc, h1, h2 => by
    simp only [gp_sf]
    by_cases z : c = 0
    · rw [if_pos z, if_pos z]
    · rw [if_neg z, if_neg z]
      have := (gp_pl_in h hc (by omega)).1
      rw [gp_sf_f h f g _ (by omega) (by omega) (by omega)]
theorem gp_sn_0 (kd : Nat → Nat) : gp_sn kd 0 = 0 := rfl
theorem gp_sn_p {kd : Nat → Nat} {n c : Nat} (h : gp_ok kd n) (hc : c < n) (h0 : 0 < c) : gp_sn kd c = gp_sn kd (gp_pl kd c / 3) + gp_bd (kd (gp_pl kd c / 3)) (gp_pl kd c % 3) := by
  have := (gp_pl_in h hc h0).1
  unfold gp_sn
  rw [gp_sf_f h (gp_pl kd c / 3 + 1) c (gp_pl kd c / 3) (by omega) (by omega) (by omega)]
  show (if c = 0 then 0 else _) = _
  rw [if_neg (by omega)]
theorem gp_sn_ch {kd : Nat → Nat} {n t j : Nat} (h : gp_ok kd n) (ht : t < n) (hj : j < gp_ar (kd t)) : gp_sn kd (gp_ch kd n t j) = gp_sn kd t + gp_bd (kd t) j := by
  obtain ⟨a, b⟩ := gp_ch_lt h ht hj
  have c := gp_ch_ge h ht (Nat.le_of_lt hj)
  have d := gp_ar_le (kd t)
  have e1 : (3 * t + j) / 3 = t := by omega
  have e2 : (3 * t + j) % 3 = j := by omega
  rw [gp_sn_p h a (by omega), b, e1, e2]
theorem gp_sn_le {kd : Nat → Nat} {n : Nat} (h : gp_ok kd n) : ∀ m c, c < m → c < n → gp_sn kd c ≤ c
  | 0, _, z, _ => by omega
  | m + 1, c, hm, hc => by
    rcases Nat.eq_zero_or_pos c with z | z
    · subst z; rw [gp_sn_0]; omega
    · obtain ⟨a, b⟩ := gp_pl_in h hc z
      have e := gp_ch_of h hc z
      have g := gp_ch_ge h (t := gp_pl kd c / 3) (j := gp_pl kd c % 3) (by omega) (by omega)
      have i := gp_sn_le h m (gp_pl kd c / 3) (by omega) (by omega)
      rw [gp_sn_p h hc z]
      rcases Nat.eq_zero_or_pos (gp_pl kd c % 3) with y | y
      · rw [y, gp_bd_0]; omega
      · have := gp_bd_le (kd (gp_pl kd c / 3)) (gp_pl kd c % 3)
        omega
theorem gp_sn_lt {kd : Nat → Nat} {n c : Nat} (h : gp_ok kd n) (hc : c < n) : gp_sn kd c ≤ c := gp_sn_le h (c + 1) c (by omega) hc
theorem gp_en_lt {kd : Nat → Nat} {n t : Nat} (h : gp_ok kd n) (ht : t < n) : t < gp_en kd n t ∧ gp_en kd n t ≤ n := ⟨(gp_en_sp h ht).1, (gp_en_sp h ht).2.1⟩
/-- sorts fit -/
def gp_so (kd : Nat → Nat) (n : Nat) : Prop := gp_srt (kd 0) = 1 ∧ ∀ c, 0 < c → c < n → gp_srt (kd c) = gp_cs (kd (gp_pl kd c / 3)) (gp_pl kd c % 3)
theorem gp_so_ch {kd : Nat → Nat} {n t j : Nat} (h : gp_ok kd n) (hs : gp_so kd n) (ht : t < n) (hj : j < gp_ar (kd t)) : gp_srt (kd (gp_ch kd n t j)) = gp_cs (kd t) j := by
  obtain ⟨a, b⟩ := gp_ch_lt h ht hj
  have c := gp_ch_ge h ht (Nat.le_of_lt hj)
  have d := gp_ar_le (kd t)
  have e1 : (3 * t + j) / 3 = t := by omega
  have e2 : (3 * t + j) % 3 = j := by omega
  rw [hs.2 _ (by omega) a, b, e1, e2]
end
section
/-! types as functions from paths to labels, over a table -/
abbrev gd_Tb : Type := (Nat → Int32) × (Nat → Int32) × (Nat → Int32) × (Nat → Int32)
def gd_den (T : gd_Tb) : List Bool → Nat → Option (Int32 × Int32)
  | [], x => some (T.1 x, T.2.1 x)
  | b :: p, x => if T.1 x = 1 then none else if b = true then (if T.1 x = 5 then none else gd_den T p (T.2.2.2 x).toNatClampNeg) else gd_den T p (T.2.2.1 x).toNatClampNeg
def gd_D (T : gd_Tb) (x : Nat) : List Bool → Option (Int32 × Int32) := fun p => gd_den T p x
def gd_L (T : gd_Tb) (x : Nat) : Nat := (T.2.2.1 x).toNatClampNeg
def gd_R (T : gd_Tb) (x : Nat) : Nat := (T.2.2.2 x).toNatClampNeg
theorem gd_0 {T : gd_Tb} {x : Nat} : gd_D T x [] = some (T.1 x, T.2.1 x) := rfl
theorem gd_1 {T : gd_Tb} {x : Nat} {b : Bool} {p : List Bool} (h : T.1 x = 1) : gd_D T x (b :: p) = none := by
  show gd_den T (b :: p) x = none
  simp only [gd_den, if_pos h]
theorem gd_f {T : gd_Tb} {x : Nat} {p : List Bool} (h : ¬ T.1 x = 1) : gd_D T x (false :: p) = gd_D T (gd_L T x) p := by
  show gd_den T (false :: p) x = _
  simp only [gd_den, if_neg h]
  rfl
theorem gd_t {T : gd_Tb} {x : Nat} {p : List Bool} (h : ¬ T.1 x = 1) (h5 : ¬ T.1 x = 5) : gd_D T x (true :: p) = gd_D T (gd_R T x) p := by
  show gd_den T (true :: p) x = _
  simp only [gd_den, if_neg h, if_neg h5]
  rfl
theorem gd_5 {T : gd_Tb} {x : Nat} {p : List Bool} (h5 : T.1 x = 5) : gd_D T x (true :: p) = none := by
  show gd_den T (true :: p) x = _
  have h : ¬ T.1 x = 1 := by rw [h5]; decide
  simp only [gd_den, if_neg h, if_pos h5]
  rfl
theorem gd_lab {T T' : gd_Tb} {x y : Nat} (h : gd_D T x = gd_D T' y) : T.1 x = T'.1 y ∧ T.2.1 x = T'.2.1 y := by
  have e := congrFun h []
  rw [gd_0, gd_0] at e
  have := Option.some.inj e
  exact ⟨congrArg Prod.fst this, congrArg Prod.snd this⟩
theorem gd_left {T T' : gd_Tb} {x y : Nat} (h : gd_D T x = gd_D T' y) (h1 : ¬ T.1 x = 1) : gd_D T (gd_L T x) = gd_D T' (gd_L T' y) := by
  funext p
  have e := congrFun h (false :: p)
  rw [gd_f h1, gd_f (by rw [← (gd_lab h).1]; exact h1)] at e
  exact e
theorem gd_right {T T' : gd_Tb} {x y : Nat} (h : gd_D T x = gd_D T' y) (h1 : ¬ T.1 x = 1) (h5 : ¬ T.1 x = 5) : gd_D T (gd_R T x) = gd_D T' (gd_R T' y) := by
  funext p
  have e := congrFun h (true :: p)
  rw [gd_t h1 h5, gd_t (by rw [← (gd_lab h).1]; exact h1) (by rw [← (gd_lab h).1]; exact h5)] at e
  exact e
theorem gd_mk {T T' : gd_Tb} {x y : Nat} (hk : T.1 x = T'.1 y) (hg : T.2.1 x = T'.2.1 y) (hl : ¬ T.1 x = 1 → gd_D T (gd_L T x) = gd_D T' (gd_L T' y))
    (hr : ¬ T.1 x = 1 → ¬ T.1 x = 5 → gd_D T (gd_R T x) = gd_D T' (gd_R T' y)) : gd_D T x = gd_D T' y := by
  funext p
  cases p with
  | nil => rw [gd_0, gd_0, hk, hg]
  | cons b p =>
    by_cases h1 : T.1 x = 1
    · rw [gd_1 h1, gd_1 (by rw [← hk]; exact h1)]
    · cases b with
      | false => rw [gd_f h1, gd_f (by rw [← hk]; exact h1), hl h1]
      | true =>
        by_cases h5 : T.1 x = 5
        · rw [gd_5 h5, gd_5 (by rw [← hk]; exact h5)]
        · rw [gd_t h1 h5, gd_t (by rw [← hk]; exact h1) (by rw [← hk]; exact h5), hr h1 h5]
/-- a set of entries that is closed under parts -/
def gd_cl (T : gd_Tb) (C : Nat → Prop) : Prop := ∀ x, C x → (¬ T.1 x = 1 → C (gd_L T x)) ∧ (¬ T.1 x = 1 → ¬ T.1 x = 5 → C (gd_R T x))
theorem gd_same {T T' : gd_Tb} {C : Nat → Prop} (hC : gd_cl T C) (hs : ∀ x, C x → T'.1 x = T.1 x ∧ T'.2.1 x = T.2.1 x ∧ T'.2.2.1 x = T.2.2.1 x ∧ T'.2.2.2 x = T.2.2.2 x) : ∀ x, C x → gd_D T' x = gd_D T x := by
  have key : ∀ p x, C x → gd_D T' x p = gd_D T x p := by
    intro p
    induction p with
    | nil =>
      intro x hx
      rw [gd_0, gd_0, (hs x hx).1, (hs x hx).2.1]
    | cons b p ih =>
      intro x hx
      obtain ⟨s1, s2, s3, s4⟩ := hs x hx
      have eL : gd_L T' x = gd_L T x := by unfold gd_L; rw [s3]
      have eR : gd_R T' x = gd_R T x := by unfold gd_R; rw [s4]
      by_cases h1 : T.1 x = 1
      · rw [gd_1 h1, gd_1 (by rw [s1]; exact h1)]
      · cases b with
        | false => rw [gd_f h1, gd_f (by rw [s1]; exact h1), eL]; exact ih _ ((hC x hx).1 h1)
        | true =>
          by_cases h5 : T.1 x = 5
          · rw [gd_5 h5, gd_5 (by rw [s1]; exact h5)]
          · rw [gd_t h1 h5, gd_t (by rw [s1]; exact h1) (by rw [s1]; exact h5), eR]; exact ih _ ((hC x hx).2 h1 h5)
  exact fun x hx => funext fun p => key p x hx
/-- an entry of the component's table: parts below it, cells it has no use for hold 0 -/
def gd_xe (T : gd_Tb) (i : Nat) : Prop :=
  (¬ T.1 i = 1 → ∃ a, a < i ∧ T.2.2.1 i = nI a) ∧ (¬ T.1 i = 1 → ¬ T.1 i = 5 → ∃ b, b < i ∧ T.2.2.2 i = nI b) ∧
  (T.1 i = 1 → T.2.2.1 i = 0 ∧ T.2.2.2 i = 0) ∧ (T.1 i = 5 → T.2.2.2 i = 0)
/-- the component's table: tc entries, no two alike -/
def gd_xt (T : gd_Tb) (tc : Nat) : Prop := tc < 2 ^ 31 ∧ (∀ i, i < tc → gd_xe T i) ∧
  ∀ i j, i < tc → j < tc → T.1 i = T.1 j → T.2.1 i = T.2.1 j → T.2.2.1 i = T.2.2.1 j → T.2.2.2 i = T.2.2.2 j → i = j
theorem gd_xL {T : gd_Tb} {i : Nat} (hi : i < 2 ^ 31) (h : gd_xe T i) (h1 : ¬ T.1 i = 1) : gd_L T i < i ∧ T.2.2.1 i = nI (gd_L T i) := by
  obtain ⟨a, ha, e⟩ := h.1 h1
  have : gd_L T i = a := by unfold gd_L; rw [e]; exact nI_clamp (by omega)
  rw [this]; exact ⟨ha, e⟩
theorem gd_xR {T : gd_Tb} {i : Nat} (hi : i < 2 ^ 31) (h : gd_xe T i) (h1 : ¬ T.1 i = 1) (h5 : ¬ T.1 i = 5) : gd_R T i < i ∧ T.2.2.2 i = nI (gd_R T i) := by
  obtain ⟨a, ha, e⟩ := h.2.1 h1 h5
  have : gd_R T i = a := by unfold gd_R; rw [e]; exact nI_clamp (by omega)
  rw [this]; exact ⟨ha, e⟩
theorem gd_xcl {T : gd_Tb} {tc : Nat} (h : gd_xt T tc) : gd_cl T (fun x => x < tc) := by
  intro x hx
  have h0 := h.1
  refine ⟨fun h1 => ?_, fun h1 h5 => ?_⟩
  · have := (gd_xL (by omega) (h.2.1 x hx) h1).1
    show _ < tc
    omega
  · have := (gd_xR (by omega) (h.2.1 x hx) h1 h5).1
    show _ < tc
    omega
theorem gd_inj {T : gd_Tb} {tc : Nat} (h : gd_xt T tc) : ∀ m i j, i < m → i < tc → j < tc → gd_D T i = gd_D T j → i = j
  | 0, _, _, z, _, _, _ => by omega
  | m + 1, i, j, hm, hi, hj, e => by
    have h0 := h.1
    obtain ⟨ek, eg⟩ := gd_lab e
    have xi := h.2.1 i hi
    have xj := h.2.1 j hj
    have eA : T.2.2.1 i = T.2.2.1 j := by
      by_cases h1 : T.1 i = 1
      · rw [(xi.2.2.1 h1).1, (xj.2.2.1 (by rw [← ek]; exact h1)).1]
      · have a := gd_xL (by omega) xi h1
        have b := gd_xL (by omega) xj (by rw [← ek]; exact h1)
        rw [a.2, b.2, gd_inj h m (gd_L T i) (gd_L T j) (by omega) (by omega) (by omega) (gd_left e h1)]
    have eB : T.2.2.2 i = T.2.2.2 j := by
      by_cases h1 : T.1 i = 1
      · rw [(xi.2.2.1 h1).2, (xj.2.2.1 (by rw [← ek]; exact h1)).2]
      · by_cases h5 : T.1 i = 5
        · rw [xi.2.2.2 h5, xj.2.2.2 (by rw [← ek]; exact h5)]
        · have a := gd_xR (by omega) xi h1 h5
          have b := gd_xR (by omega) xj (by rw [← ek]; exact h1) (by rw [← ek]; exact h5)
          rw [a.2, b.2, gd_inj h m (gd_R T i) (gd_R T j) (by omega) (by omega) (by omega) (gd_right e h1 h5)]
    exact h.2.2 i j hi hj ek eg eA eB
/-- T' is T with more entries -/
def gd_ext (T T' : gd_Tb) (tc : Nat) : Prop := ∀ x, x < tc → T'.1 x = T.1 x ∧ T'.2.1 x = T.2.1 x ∧ T'.2.2.1 x = T.2.2.1 x ∧ T'.2.2.2 x = T.2.2.2 x
theorem gd_ext_D {T T' : gd_Tb} {tc : Nat} (h : gd_xt T tc) (he : gd_ext T T' tc) {x : Nat} (hx : x < tc) : gd_D T' x = gd_D T x := gd_same (gd_xcl h) he x hx
theorem gd_ext_r (T : gd_Tb) (tc : Nat) : gd_ext T T tc := fun _ _ => ⟨rfl, rfl, rfl, rfl⟩
theorem gd_ext_t {T T' T'' : gd_Tb} {tc tc' : Nat} (hl : tc ≤ tc') (h : gd_ext T T' tc) (h' : gd_ext T' T'' tc') : gd_ext T T'' tc := by
  intro x hx
  obtain ⟨a, b, c, d⟩ := h x hx
  obtain ⟨a', b', c', d'⟩ := h' x (by omega)
  exact ⟨a'.trans a, b'.trans b, c'.trans c, d'.trans d⟩
end
section
/-! the binder of the variable of level v that node c sees: the binding node and the slot below it -/
def gp_lf (kd : Nat → Nat) : Nat → Nat → Nat → Nat × Nat
  | 0, _, _ => (0, 0)
  | f + 1, c, v => if v < gp_sn kd (gp_pl kd c / 3) then gp_lf kd f (gp_pl kd c / 3) v else (gp_pl kd c / 3, gp_pl kd c % 3)
def gp_lc (kd : Nat → Nat) (c v : Nat) : Nat × Nat := gp_lf kd (c + 1) c v
theorem gp_lf_f {kd : Nat → Nat} {n : Nat} (h : gp_ok kd n) (v : Nat) : ∀ f g c, c < n → v < gp_sn kd c → c < f → c < g → gp_lf kd f c v = gp_lf kd g c v
  | 0, _, _, _, _, h1, _ => by omega
  | _, 0, _, _, _, _, h2 => by omega
  | f + 1, g + 1, c, hc, hv, h1, h2 => by
    have h0 : 0 < c := by
      rcases Nat.eq_zero_or_pos c with z | z
      · rw [z, gp_sn_0] at hv; omega
      · exact z
    have hp := (gp_pl_in h hc h0).1
    simp only [gp_lf]
    by_cases z : v < gp_sn kd (gp_pl kd c / 3)
    · rw [if_pos z, if_pos z]
      exact gp_lf_f h v f g _ (by omega) z (by omega) (by omega)
    · rw [if_neg z, if_neg z]
theorem gp_lc_up {kd : Nat → Nat} {n t j v : Nat} (h : gp_ok kd n) (ht : t < n) (hj : j < gp_ar (kd t)) (hv : v < gp_sn kd t) : gp_lc kd (gp_ch kd n t j) v = gp_lc kd t v := by
  obtain ⟨a, b⟩ := gp_ch_lt h ht hj
  have c := gp_ch_ge h ht (Nat.le_of_lt hj)
  have d := gp_ar_le (kd t)
  have e1 : (3 * t + j) / 3 = t := by omega
  unfold gp_lc
  rw [gp_lf_f h v (t + 1) (gp_ch kd n t j) t ht hv (by omega) (by omega)]
  show (if v < gp_sn kd (gp_pl kd (gp_ch kd n t j) / 3) then _ else _) = _
  rw [b, e1, if_pos hv]
theorem gp_lc_new {kd : Nat → Nat} {n t j v : Nat} (h : gp_ok kd n) (ht : t < n) (hj : j < gp_ar (kd t)) (hv : gp_sn kd t ≤ v) : gp_lc kd (gp_ch kd n t j) v = (t, j) := by
  obtain ⟨a, b⟩ := gp_ch_lt h ht hj
  have d := gp_ar_le (kd t)
  have e1 : (3 * t + j) / 3 = t := by omega
  have e2 : (3 * t + j) % 3 = j := by omega
  unfold gp_lc
  show (if v < gp_sn kd (gp_pl kd (gp_ch kd n t j) / 3) then _ else _) = _
  rw [b, e1, e2, if_neg (by omega)]
theorem gp_lc_in {kd : Nat → Nat} {n : Nat} (h : gp_ok kd n) (v : Nat) : ∀ m c, c < m → c < n → v < gp_sn kd c →
    (gp_lc kd c v).1 < c ∧ (gp_lc kd c v).2 < gp_ar (kd (gp_lc kd c v).1) ∧ gp_sn kd (gp_lc kd c v).1 ≤ v ∧
    v < gp_sn kd (gp_lc kd c v).1 + gp_bd (kd (gp_lc kd c v).1) (gp_lc kd c v).2 ∧ gp_ch kd n (gp_lc kd c v).1 (gp_lc kd c v).2 ≤ c
  | 0, _, z, _, _ => by omega
  | m + 1, c, hm, hc, hv => by
    have h0 : 0 < c := by
      rcases Nat.eq_zero_or_pos c with z | z
      · rw [z, gp_sn_0] at hv; omega
      · exact z
    obtain ⟨p1, p2⟩ := gp_pl_in h hc h0
    have e := gp_ch_of h hc h0
    rcases Nat.lt_or_ge v (gp_sn kd (gp_pl kd c / 3)) with z | z
    · have u := gp_lc_up h (t := gp_pl kd c / 3) (by omega) p2 z
      rw [← e] at u
      obtain ⟨a, b, d, g, i⟩ := gp_lc_in h v m (gp_pl kd c / 3) (by omega) (by omega) z
      rw [u]
      exact ⟨by omega, b, d, g, by omega⟩
    · have u := gp_lc_new h (t := gp_pl kd c / 3) (by omega) p2 z
      rw [← e] at u
      rw [u]
      have s := gp_sn_p h hc h0
      exact ⟨p1, p2, z, by dsimp only; omega, by dsimp only; omega⟩
theorem gp_lc_sp {kd : Nat → Nat} {n c v : Nat} (h : gp_ok kd n) (hc : c < n) (hv : v < gp_sn kd c) :
    (gp_lc kd c v).1 < c ∧ (gp_lc kd c v).2 < gp_ar (kd (gp_lc kd c v).1) ∧ gp_sn kd (gp_lc kd c v).1 ≤ v ∧
    v < gp_sn kd (gp_lc kd c v).1 + gp_bd (kd (gp_lc kd c v).1) (gp_lc kd c v).2 ∧ gp_ch kd n (gp_lc kd c v).1 (gp_lc kd c v).2 ≤ c ∧
    0 < (gp_lc kd c v).2 ∧ gp_ch kd n (gp_lc kd c v).1 1 ≤ c := by
  obtain ⟨a, b, d, g, i⟩ := gp_lc_in h v (c + 1) c (by omega) hc hv
  have j0 : 0 < (gp_lc kd c v).2 := by
    rcases Nat.eq_zero_or_pos (gp_lc kd c v).2 with z | z
    · rw [z, gp_bd_0] at g; omega
    · exact z
  refine ⟨a, b, d, g, i, j0, ?_⟩
  have key : ∀ j, 1 ≤ j → j ≤ gp_ar (kd (gp_lc kd c v).1) → gp_ch kd n (gp_lc kd c v).1 1 ≤ gp_ch kd n (gp_lc kd c v).1 j := by
    intro j
    induction j with
    | zero => intro h1; omega
    | succ j ih =>
      intro h1 h2
      rcases Nat.eq_zero_or_pos j with z | z
      · subst z; exact Nat.le_refl _
      · have a1 := ih z (by omega)
        have a2 := (gp_en_lt h (gp_ch_lt h (t := (gp_lc kd c v).1) (j := j) (by omega) (by omega)).1).1
        show _ ≤ gp_en kd n (gp_ch kd n (gp_lc kd c v).1 j)
        omega
  exact Nat.le_trans (key _ j0 (by omega)) i
/-! pure types -/
abbrev gt_Ty : Type := List Bool → Option (Int32 × Int32)
def gt_mk (k g : Int32) (l r : gt_Ty) : gt_Ty
  | [] => some (k, g)
  | false :: p => if k = 1 then none else l p
  | true :: p => if k = 1 then none else if k = 5 then none else r p
def gt_k (τ : gt_Ty) : Int32 := ((τ []).getD (0, 0)).1
def gt_g (τ : gt_Ty) : Int32 := ((τ []).getD (0, 0)).2
def gt_l (τ : gt_Ty) : gt_Ty := fun p => τ (false :: p)
def gt_r (τ : gt_Ty) : gt_Ty := fun p => τ (true :: p)
theorem gt_mk_k (k g : Int32) (l r : gt_Ty) : gt_k (gt_mk k g l r) = k := rfl
theorem gt_mk_g (k g : Int32) (l r : gt_Ty) : gt_g (gt_mk k g l r) = g := rfl
theorem gt_mk_l {k g : Int32} {l r : gt_Ty} (h : ¬ k = 1) : gt_l (gt_mk k g l r) = l := by
  funext p
  show (if k = 1 then none else l p) = _
  rw [if_neg h]
theorem gt_mk_r {k g : Int32} {l r : gt_Ty} (h : ¬ k = 1) (h5 : ¬ k = 5) : gt_r (gt_mk k g l r) = r := by
  funext p
  show (if k = 1 then none else if k = 5 then none else r p) = _
  rw [if_neg h, if_neg h5]
theorem gt_mk_1 {g : Int32} {l r l' r' : gt_Ty} : gt_mk 1 g l r = gt_mk 1 g l' r' := by
  funext p
  match p with
  | [] => rfl
  | false :: p => rfl
  | true :: p => rfl
theorem gt_mk_5 {g : Int32} {l r r' : gt_Ty} : gt_mk 5 g l r = gt_mk 5 g l r' := by
  funext p
  match p with
  | [] => rfl
  | false :: p => rfl
  | true :: p => rfl
theorem gd_mkD (T : gd_Tb) (x : Nat) : gd_D T x = gt_mk (T.1 x) (T.2.1 x) (gd_D T (gd_L T x)) (gd_D T (gd_R T x)) := by
  funext p
  match p with
  | [] => rfl
  | false :: p =>
    by_cases h : T.1 x = 1
    · rw [gd_1 h]; exact (if_pos h).symm
    · rw [gd_f h]; exact (if_neg h).symm
  | true :: p =>
    by_cases h : T.1 x = 1
    · rw [gd_1 h]; exact (if_pos h).symm
    · by_cases h5 : T.1 x = 5
      · rw [gd_5 h5]; show _ = (if T.1 x = 1 then none else if T.1 x = 5 then none else _); rw [if_neg h, if_pos h5]
      · rw [gd_t h h5]; show _ = (if T.1 x = 1 then none else if T.1 x = 5 then none else _); rw [if_neg h, if_neg h5]
theorem gd_k {T : gd_Tb} {x : Nat} {τ : gt_Ty} (h : gd_D T x = τ) : T.1 x = gt_k τ ∧ T.2.1 x = gt_g τ := by
  subst h; exact ⟨rfl, rfl⟩
theorem gd_l {T : gd_Tb} {x : Nat} {τ : gt_Ty} (h : gd_D T x = τ) (h1 : ¬ T.1 x = 1) : gd_D T (gd_L T x) = gt_l τ := by
  subst h; funext p; exact (gd_f h1).symm
theorem gd_r {T : gd_Tb} {x : Nat} {τ : gt_Ty} (h : gd_D T x = τ) (h1 : ¬ T.1 x = 1) (h5 : ¬ T.1 x = 5) : gd_D T (gd_R T x) = gt_r τ := by
  subst h; funext p; exact (gd_t h1 h5).symm
/-! grades -/
def gt_add (a b : Nat) : Nat := if 2 < a + b then 2 else a + b
def gt_mul (a b : Nat) : Nat := if 2 < a * b then 2 else a * b
def gt_max (a b : Nat) : Nat := if b < a then a else b
theorem gt_add_le (a b : Nat) : gt_add a b ≤ 2 := by unfold gt_add; split <;> omega
theorem gt_mul_le (a b : Nat) : gt_mul a b ≤ 2 := by unfold gt_mul; split <;> omega
theorem gt_max_le {a b : Nat} (ha : a ≤ 2) (hb : b ≤ 2) : gt_max a b ≤ 2 := by unfold gt_max; split <;> omega
/-! the type, the usage by level, and the binder's grade of each node -/
abbrev gt_V : Type := gt_Ty × (Nat → Nat) × Nat
def gt_nv (k j w : Nat) (τ : gt_Ty) : gt_Ty :=
  if k = 9 then τ else if k = 12 then (if w = 0 then gt_l τ else gt_r τ) else if k = 15 then (if j = 1 then gt_l τ else gt_r τ) else gt_l τ
def gt_lv (kd : Nat → Nat) (ag : Nat → Int32) (d : Nat) : Nat := gp_sn kd d - 1 - (ag d).toNatClampNeg
def gt_z : Nat → Nat := fun _ => 0
def gt_se (a : Int32) (need : Nat) : Nat := if a = 3 then need else a.toNatClampNeg
def gt_F (kd : Nat → Nat) (ag : Nat → Int32) (n : Nat) (f : Nat → gt_V) (d : Nat) : gt_V :=
  if kd d ≤ 5 then (gt_mk (nI (kd d)) (ag d) (f (gp_ch kd n d 0)).1 (f (gp_ch kd n d 1)).1, gt_z, 0)
  else if kd d = 6 then
    (gt_nv (kd (gp_lc kd d (gt_lv kd ag d)).1) (gp_lc kd d (gt_lv kd ag d)).2 (gt_lv kd ag d - gp_sn kd (gp_lc kd d (gt_lv kd ag d)).1) (f (gp_ch kd n (gp_lc kd d (gt_lv kd ag d)).1 0)).1,
      fun v => if v = gt_lv kd ag d then 1 else 0, 0)
  else if kd d = 7 then (gt_mk 1 0 (fun _ => none) (fun _ => none), gt_z, 0)
  else if kd d = 8 then ((f (gp_ch kd n d 0)).1, fun v => gt_add ((f (gp_ch kd n d 0)).2.1 v) ((f (gp_ch kd n d 1)).2.1 v), 0)
  else if kd d = 9 then
    (gt_mk 4 (nI (gt_se (ag d) ((f (gp_ch kd n d 1)).2.1 (gp_sn kd d)))) (f (gp_ch kd n d 0)).1 (f (gp_ch kd n d 1)).1, (f (gp_ch kd n d 1)).2.1, gt_se (ag d) ((f (gp_ch kd n d 1)).2.1 (gp_sn kd d)))
  else if kd d = 10 then
    (gt_r (f (gp_ch kd n d 0)).1, fun v => gt_add ((f (gp_ch kd n d 0)).2.1 v) (gt_mul (gt_g (f (gp_ch kd n d 0)).1).toNatClampNeg ((f (gp_ch kd n d 1)).2.1 v)), 0)
  else if kd d = 11 then (gt_mk 2 0 (f (gp_ch kd n d 0)).1 (f (gp_ch kd n d 1)).1, fun v => gt_add ((f (gp_ch kd n d 0)).2.1 v) ((f (gp_ch kd n d 1)).2.1 v), 0)
  else if kd d = 12 then
    ((f (gp_ch kd n d 1)).1,
      fun v => gt_add (gt_mul (gt_max (gt_se (ag d) (gt_max ((f (gp_ch kd n d 1)).2.1 (gp_sn kd d)) ((f (gp_ch kd n d 1)).2.1 (gp_sn kd d + 1)))) 1) ((f (gp_ch kd n d 0)).2.1 v)) ((f (gp_ch kd n d 1)).2.1 v),
      gt_se (ag d) (gt_max ((f (gp_ch kd n d 1)).2.1 (gp_sn kd d)) ((f (gp_ch kd n d 1)).2.1 (gp_sn kd d + 1))))
  else if kd d = 13 then (gt_mk 3 0 (f (gp_ch kd n d 1)).1 (f (gp_ch kd n d 0)).1, (f (gp_ch kd n d 1)).2.1, 0)
  else if kd d = 14 then (gt_mk 3 0 (f (gp_ch kd n d 0)).1 (f (gp_ch kd n d 1)).1, (f (gp_ch kd n d 1)).2.1, 0)
  else if kd d = 15 then
    ((f (gp_ch kd n d 1)).1,
      fun v => gt_add (gt_mul (gt_max (gt_se (ag d) (gt_max ((f (gp_ch kd n d 1)).2.1 (gp_sn kd d)) ((f (gp_ch kd n d 2)).2.1 (gp_sn kd d)))) 1) ((f (gp_ch kd n d 0)).2.1 v)) (gt_max ((f (gp_ch kd n d 1)).2.1 v) ((f (gp_ch kd n d 2)).2.1 v)),
      gt_se (ag d) (gt_max ((f (gp_ch kd n d 1)).2.1 (gp_sn kd d)) ((f (gp_ch kd n d 2)).2.1 (gp_sn kd d))))
  else if kd d = 16 then (gt_mk 5 (ag d) (f (gp_ch kd n d 0)).1 (fun _ => none), fun v => gt_mul (ag d).toNatClampNeg ((f (gp_ch kd n d 0)).2.1 v), 0)
  else ((f (gp_ch kd n d 1)).1, fun v => gt_add ((f (gp_ch kd n d 0)).2.1 v) ((f (gp_ch kd n d 1)).2.1 v), (gt_g (f (gp_ch kd n d 0)).1).toNatClampNeg)
theorem gt_fx {α V : Type} (v0 : V) (μ : α → Nat) (F : (α → V) → α → V) : ∃ f : α → V, ∀ a, f a = F (fun b => if μ b < μ a then f b else v0) a := by
  refine ⟨(measure μ).wf.fix (fun a r => F (fun b => if h : μ b < μ a then r b h else v0) a), fun a => ?_⟩
  rw [WellFounded.fix_eq]
  apply congrArg (fun z => F z a)
  funext b
  by_cases h : μ b < μ a <;> simp [h]
def gt_v0 : gt_V := (fun _ => none, gt_z, 0)
def gt_mu (kd : Nat → Nat) (n d : Nat) : Nat := 64 * gp_en kd n d + (32 - d)
theorem gt_mu_ch {kd : Nat → Nat} {n d j : Nat} (h : gp_ok kd n) (hd : d < n) (hj : j < gp_ar (kd d)) : gt_mu kd n (gp_ch kd n d j) < gt_mu kd n d := by
  have hn := h.2.1
  have a := (gp_ch_lt h hd hj).1
  have b := gp_ch_ge h hd (Nat.le_of_lt hj)
  have key : ∀ i, j + 1 + i ≤ gp_ar (kd d) → gp_en kd n (gp_ch kd n d j) ≤ gp_ch kd n d (j + 1 + i) := by
    intro i
    induction i with
    | zero => intro _; exact Nat.le_refl _
    | succ i ih =>
      intro hi
      have := ih (by omega)
      have x := (gp_en_lt h (gp_ch_lt h hd (j := j + 1 + i) (by omega)).1).1
      show _ ≤ gp_en kd n (gp_ch kd n d (j + 1 + i))
      omega
  have c := key (gp_ar (kd d) - (j + 1)) (by omega)
  have e : j + 1 + (gp_ar (kd d) - (j + 1)) = gp_ar (kd d) := by omega
  rw [e, ← gp_en_ch h hd] at c
  unfold gt_mu
  omega
theorem gt_mu_lc {kd : Nat → Nat} {n d v : Nat} (h : gp_ok kd n) (hd : d < n) (hv : v < gp_sn kd d) : gt_mu kd n (gp_ch kd n (gp_lc kd d v).1 0) < gt_mu kd n d := by
  have hn := h.2.1
  obtain ⟨a, b, _, _, _, _, g⟩ := gp_lc_sp h hd hv
  have c : gp_en kd n (gp_ch kd n (gp_lc kd d v).1 0) = gp_ch kd n (gp_lc kd d v).1 1 := rfl
  have e := (gp_en_lt h hd).1
  unfold gt_mu
  rw [c]
  omega
noncomputable def gt_f (kd : Nat → Nat) (ag : Nat → Int32) (n : Nat) : Nat → gt_V := Classical.choose (gt_fx gt_v0 (gt_mu kd n) (gt_F kd ag n))
theorem gt_f_e (kd : Nat → Nat) (ag : Nat → Int32) (n d : Nat) : gt_f kd ag n d = gt_F kd ag n (fun b => if gt_mu kd n b < gt_mu kd n d then gt_f kd ag n b else gt_v0) d :=
  Classical.choose_spec (gt_fx gt_v0 (gt_mu kd n) (gt_F kd ag n)) d
noncomputable def gt_t (kd : Nat → Nat) (ag : Nat → Int32) (n d : Nat) : gt_Ty := (gt_f kd ag n d).1
noncomputable def gt_u (kd : Nat → Nat) (ag : Nat → Int32) (n d v : Nat) : Nat := (gt_f kd ag n d).2.1 v
noncomputable def gt_b (kd : Nat → Nat) (ag : Nat → Int32) (n d : Nat) : Nat := (gt_f kd ag n d).2.2
end
section
theorem gt_q2 {kd : Nat → Nat} {ag : Nat → Int32} {n d : Nat} (h : gp_ok kd n) (hd : d < n) (hk : kd d = 2) : gt_t kd ag n d = gt_mk 2 (ag d) (gt_t kd ag n (gp_ch kd n d 0)) (gt_t kd ag n (gp_ch kd n d 1)) := by
  have a0 := gt_mu_ch h hd (j := 0) (by rw [hk]; decide)
  have a1 := gt_mu_ch h hd (j := 1) (by rw [hk]; decide)
  have e : (gt_f kd ag n d).1 = gt_mk (nI 2) (ag d) ((if gt_mu kd n (gp_ch kd n d 0) < gt_mu kd n d then gt_f kd ag n (gp_ch kd n d 0) else gt_v0)).1 ((if gt_mu kd n (gp_ch kd n d 1) < gt_mu kd n d then gt_f kd ag n (gp_ch kd n d 1) else gt_v0)).1 := by
    rw [gt_f_e]; simp [gt_F, hk]
  rw [if_pos a0, if_pos a1] at e
  exact e
theorem gt_q3 {kd : Nat → Nat} {ag : Nat → Int32} {n d : Nat} (h : gp_ok kd n) (hd : d < n) (hk : kd d = 3) : gt_t kd ag n d = gt_mk 3 (ag d) (gt_t kd ag n (gp_ch kd n d 0)) (gt_t kd ag n (gp_ch kd n d 1)) := by
  have a0 := gt_mu_ch h hd (j := 0) (by rw [hk]; decide)
  have a1 := gt_mu_ch h hd (j := 1) (by rw [hk]; decide)
  have e : (gt_f kd ag n d).1 = gt_mk (nI 3) (ag d) ((if gt_mu kd n (gp_ch kd n d 0) < gt_mu kd n d then gt_f kd ag n (gp_ch kd n d 0) else gt_v0)).1 ((if gt_mu kd n (gp_ch kd n d 1) < gt_mu kd n d then gt_f kd ag n (gp_ch kd n d 1) else gt_v0)).1 := by
    rw [gt_f_e]; simp [gt_F, hk]
  rw [if_pos a0, if_pos a1] at e
  exact e
theorem gt_q4 {kd : Nat → Nat} {ag : Nat → Int32} {n d : Nat} (h : gp_ok kd n) (hd : d < n) (hk : kd d = 4) : gt_t kd ag n d = gt_mk 4 (ag d) (gt_t kd ag n (gp_ch kd n d 0)) (gt_t kd ag n (gp_ch kd n d 1)) := by
  have a0 := gt_mu_ch h hd (j := 0) (by rw [hk]; decide)
  have a1 := gt_mu_ch h hd (j := 1) (by rw [hk]; decide)
  have e : (gt_f kd ag n d).1 = gt_mk (nI 4) (ag d) ((if gt_mu kd n (gp_ch kd n d 0) < gt_mu kd n d then gt_f kd ag n (gp_ch kd n d 0) else gt_v0)).1 ((if gt_mu kd n (gp_ch kd n d 1) < gt_mu kd n d then gt_f kd ag n (gp_ch kd n d 1) else gt_v0)).1 := by
    rw [gt_f_e]; simp [gt_F, hk]
  rw [if_pos a0, if_pos a1] at e
  exact e
theorem gt_q5 {kd : Nat → Nat} {ag : Nat → Int32} {n d : Nat} (h : gp_ok kd n) (hd : d < n) (hk : kd d = 5) (r : gt_Ty) : gt_t kd ag n d = gt_mk 5 (ag d) (gt_t kd ag n (gp_ch kd n d 0)) r := by
  have a0 := gt_mu_ch h hd (j := 0) (by rw [hk]; decide)
  have e : (gt_f kd ag n d).1 = gt_mk (nI 5) (ag d) ((if gt_mu kd n (gp_ch kd n d 0) < gt_mu kd n d then gt_f kd ag n (gp_ch kd n d 0) else gt_v0)).1 ((if gt_mu kd n (gp_ch kd n d 1) < gt_mu kd n d then gt_f kd ag n (gp_ch kd n d 1) else gt_v0)).1 := by
    rw [gt_f_e]; simp [gt_F, hk]
  rw [if_pos a0] at e
  exact e.trans gt_mk_5
theorem gt_q1 {kd : Nat → Nat} {ag : Nat → Int32} {n d : Nat} (hk : kd d = 1) (l r : gt_Ty) : gt_t kd ag n d = gt_mk 1 (ag d) l r := by
  have e : (gt_f kd ag n d).1 = gt_mk (nI 1) (ag d) ((if gt_mu kd n (gp_ch kd n d 0) < gt_mu kd n d then gt_f kd ag n (gp_ch kd n d 0) else gt_v0)).1 ((if gt_mu kd n (gp_ch kd n d 1) < gt_mu kd n d then gt_f kd ag n (gp_ch kd n d 1) else gt_v0)).1 := by
    rw [gt_f_e]; simp [gt_F, hk]
  exact e.trans gt_mk_1
theorem gt_q7 {kd : Nat → Nat} {ag : Nat → Int32} {n d : Nat} (h : gp_ok kd n) (hd : d < n) (hk : kd d = 7) : gt_f kd ag n d = (gt_mk 1 0 (fun _ => none) (fun _ => none), gt_z, 0) := by
  rw [gt_f_e]
  simp [gt_F, hk, gt_t, gt_u]
theorem gt_q8 {kd : Nat → Nat} {ag : Nat → Int32} {n d : Nat} (h : gp_ok kd n) (hd : d < n) (hk : kd d = 8) : gt_f kd ag n d = ((gt_t kd ag n (gp_ch kd n d 0)), fun v => gt_add (gt_u kd ag n (gp_ch kd n d 0) v) (gt_u kd ag n (gp_ch kd n d 1) v), 0) := by
  have a0 := gt_mu_ch h hd (j := 0) (by rw [hk]; decide)
  have a1 := gt_mu_ch h hd (j := 1) (by rw [hk]; decide)
  rw [gt_f_e]
  simp [gt_F, hk, gt_t, gt_u, a0, a1]
theorem gt_q9 {kd : Nat → Nat} {ag : Nat → Int32} {n d : Nat} (h : gp_ok kd n) (hd : d < n) (hk : kd d = 9) : gt_f kd ag n d = (gt_mk 4 (nI (gt_se (ag d) (gt_u kd ag n (gp_ch kd n d 1) (gp_sn kd d)))) (gt_t kd ag n (gp_ch kd n d 0)) (gt_t kd ag n (gp_ch kd n d 1)), fun v => (gt_u kd ag n (gp_ch kd n d 1) v), gt_se (ag d) (gt_u kd ag n (gp_ch kd n d 1) (gp_sn kd d))) := by
  have a0 := gt_mu_ch h hd (j := 0) (by rw [hk]; decide)
  have a1 := gt_mu_ch h hd (j := 1) (by rw [hk]; decide)
  rw [gt_f_e]
  simp [gt_F, hk, gt_t, gt_u, a0, a1]
theorem gt_q10 {kd : Nat → Nat} {ag : Nat → Int32} {n d : Nat} (h : gp_ok kd n) (hd : d < n) (hk : kd d = 10) : gt_f kd ag n d = (gt_r (gt_t kd ag n (gp_ch kd n d 0)), fun v => gt_add (gt_u kd ag n (gp_ch kd n d 0) v) (gt_mul (gt_g (gt_t kd ag n (gp_ch kd n d 0))).toNatClampNeg (gt_u kd ag n (gp_ch kd n d 1) v)), 0) := by
  have a0 := gt_mu_ch h hd (j := 0) (by rw [hk]; decide)
  have a1 := gt_mu_ch h hd (j := 1) (by rw [hk]; decide)
  rw [gt_f_e]
  simp [gt_F, hk, gt_t, gt_u, a0, a1]
theorem gt_q11 {kd : Nat → Nat} {ag : Nat → Int32} {n d : Nat} (h : gp_ok kd n) (hd : d < n) (hk : kd d = 11) : gt_f kd ag n d = (gt_mk 2 0 (gt_t kd ag n (gp_ch kd n d 0)) (gt_t kd ag n (gp_ch kd n d 1)), fun v => gt_add (gt_u kd ag n (gp_ch kd n d 0) v) (gt_u kd ag n (gp_ch kd n d 1) v), 0) := by
  have a0 := gt_mu_ch h hd (j := 0) (by rw [hk]; decide)
  have a1 := gt_mu_ch h hd (j := 1) (by rw [hk]; decide)
  rw [gt_f_e]
  simp [gt_F, hk, gt_t, gt_u, a0, a1]
theorem gt_q12 {kd : Nat → Nat} {ag : Nat → Int32} {n d : Nat} (h : gp_ok kd n) (hd : d < n) (hk : kd d = 12) : gt_f kd ag n d = ((gt_t kd ag n (gp_ch kd n d 1)), fun v => gt_add (gt_mul (gt_max (gt_se (ag d) (gt_max (gt_u kd ag n (gp_ch kd n d 1) (gp_sn kd d)) (gt_u kd ag n (gp_ch kd n d 1) (gp_sn kd d + 1)))) 1) (gt_u kd ag n (gp_ch kd n d 0) v)) (gt_u kd ag n (gp_ch kd n d 1) v), gt_se (ag d) (gt_max (gt_u kd ag n (gp_ch kd n d 1) (gp_sn kd d)) (gt_u kd ag n (gp_ch kd n d 1) (gp_sn kd d + 1)))) := by
  have a0 := gt_mu_ch h hd (j := 0) (by rw [hk]; decide)
  have a1 := gt_mu_ch h hd (j := 1) (by rw [hk]; decide)
  rw [gt_f_e]
  simp [gt_F, hk, gt_t, gt_u, a0, a1]
theorem gt_q13 {kd : Nat → Nat} {ag : Nat → Int32} {n d : Nat} (h : gp_ok kd n) (hd : d < n) (hk : kd d = 13) : gt_f kd ag n d = (gt_mk 3 0 (gt_t kd ag n (gp_ch kd n d 1)) (gt_t kd ag n (gp_ch kd n d 0)), fun v => (gt_u kd ag n (gp_ch kd n d 1) v), 0) := by
  have a0 := gt_mu_ch h hd (j := 0) (by rw [hk]; decide)
  have a1 := gt_mu_ch h hd (j := 1) (by rw [hk]; decide)
  rw [gt_f_e]
  simp [gt_F, hk, gt_t, gt_u, a0, a1]
theorem gt_q14 {kd : Nat → Nat} {ag : Nat → Int32} {n d : Nat} (h : gp_ok kd n) (hd : d < n) (hk : kd d = 14) : gt_f kd ag n d = (gt_mk 3 0 (gt_t kd ag n (gp_ch kd n d 0)) (gt_t kd ag n (gp_ch kd n d 1)), fun v => (gt_u kd ag n (gp_ch kd n d 1) v), 0) := by
  have a0 := gt_mu_ch h hd (j := 0) (by rw [hk]; decide)
  have a1 := gt_mu_ch h hd (j := 1) (by rw [hk]; decide)
  rw [gt_f_e]
  simp [gt_F, hk, gt_t, gt_u, a0, a1]
theorem gt_q15 {kd : Nat → Nat} {ag : Nat → Int32} {n d : Nat} (h : gp_ok kd n) (hd : d < n) (hk : kd d = 15) : gt_f kd ag n d = ((gt_t kd ag n (gp_ch kd n d 1)), fun v => gt_add (gt_mul (gt_max (gt_se (ag d) (gt_max (gt_u kd ag n (gp_ch kd n d 1) (gp_sn kd d)) (gt_u kd ag n (gp_ch kd n d 2) (gp_sn kd d)))) 1) (gt_u kd ag n (gp_ch kd n d 0) v)) (gt_max (gt_u kd ag n (gp_ch kd n d 1) v) (gt_u kd ag n (gp_ch kd n d 2) v)), gt_se (ag d) (gt_max (gt_u kd ag n (gp_ch kd n d 1) (gp_sn kd d)) (gt_u kd ag n (gp_ch kd n d 2) (gp_sn kd d)))) := by
  have a0 := gt_mu_ch h hd (j := 0) (by rw [hk]; decide)
  have a1 := gt_mu_ch h hd (j := 1) (by rw [hk]; decide)
  have a2 := gt_mu_ch h hd (j := 2) (by rw [hk]; decide)
  rw [gt_f_e]
  simp [gt_F, hk, gt_t, gt_u, a0, a1, a2]
theorem gt_q16 {kd : Nat → Nat} {ag : Nat → Int32} {n d : Nat} (h : gp_ok kd n) (hd : d < n) (hk : kd d = 16) : gt_f kd ag n d = (gt_mk 5 (ag d) (gt_t kd ag n (gp_ch kd n d 0)) (fun _ => none), fun v => gt_mul (ag d).toNatClampNeg (gt_u kd ag n (gp_ch kd n d 0) v), 0) := by
  have a0 := gt_mu_ch h hd (j := 0) (by rw [hk]; decide)
  rw [gt_f_e]
  simp [gt_F, hk, gt_t, gt_u, a0]
theorem gt_q17 {kd : Nat → Nat} {ag : Nat → Int32} {n d : Nat} (h : gp_ok kd n) (hd : d < n) (hk : kd d = 17) : gt_f kd ag n d = ((gt_t kd ag n (gp_ch kd n d 1)), fun v => gt_add (gt_u kd ag n (gp_ch kd n d 0) v) (gt_u kd ag n (gp_ch kd n d 1) v), (gt_g (gt_t kd ag n (gp_ch kd n d 0))).toNatClampNeg) := by
  have a0 := gt_mu_ch h hd (j := 0) (by rw [hk]; decide)
  have a1 := gt_mu_ch h hd (j := 1) (by rw [hk]; decide)
  rw [gt_f_e]
  simp [gt_F, hk, gt_t, gt_u, a0, a1]
noncomputable def gt_G (kd : Nat → Nat) (ag : Nat → Int32) (n d v : Nat) : gt_Ty := gt_nv (kd (gp_lc kd d v).1) (gp_lc kd d v).2 (v - gp_sn kd (gp_lc kd d v).1) (gt_t kd ag n (gp_ch kd n (gp_lc kd d v).1 0))
theorem gt_q6 {kd : Nat → Nat} {ag : Nat → Int32} {n d : Nat} (h : gp_ok kd n) (hd : d < n) (hk : kd d = 6) (hv : (gt_lv kd ag d) < gp_sn kd d) : gt_f kd ag n d = (gt_G kd ag n d (gt_lv kd ag d), fun v => if v = (gt_lv kd ag d) then 1 else 0, 0) := by
  have a0 := gt_mu_lc h hd hv
  rw [gt_f_e]
  simp [gt_F, hk, gt_G, gt_t, a0]
theorem gt_t7 {kd : Nat → Nat} {ag : Nat → Int32} {n d : Nat} (h : gp_ok kd n) (hd : d < n) (hk : kd d = 7) : gt_t kd ag n d = gt_mk 1 0 (fun _ => none) (fun _ => none) := by
  rw [show gt_t kd ag n d = (gt_f kd ag n d).1 from rfl, gt_q7 h hd hk]
theorem gt_u7 {kd : Nat → Nat} {ag : Nat → Int32} {n d : Nat} (h : gp_ok kd n) (hd : d < n) (hk : kd d = 7) (v : Nat) : gt_u kd ag n d v = 0 := by
  rw [show gt_u kd ag n d v = (gt_f kd ag n d).2.1 v from rfl, gt_q7 h hd hk]
  rfl
theorem gt_t8 {kd : Nat → Nat} {ag : Nat → Int32} {n d : Nat} (h : gp_ok kd n) (hd : d < n) (hk : kd d = 8) : gt_t kd ag n d = (gt_t kd ag n (gp_ch kd n d 0)) := by
  rw [show gt_t kd ag n d = (gt_f kd ag n d).1 from rfl, gt_q8 h hd hk]
theorem gt_u8 {kd : Nat → Nat} {ag : Nat → Int32} {n d : Nat} (h : gp_ok kd n) (hd : d < n) (hk : kd d = 8) (v : Nat) : gt_u kd ag n d v = gt_add (gt_u kd ag n (gp_ch kd n d 0) v) (gt_u kd ag n (gp_ch kd n d 1) v) := by
  rw [show gt_u kd ag n d v = (gt_f kd ag n d).2.1 v from rfl, gt_q8 h hd hk]
theorem gt_t9 {kd : Nat → Nat} {ag : Nat → Int32} {n d : Nat} (h : gp_ok kd n) (hd : d < n) (hk : kd d = 9) : gt_t kd ag n d = gt_mk 4 (nI (gt_se (ag d) (gt_u kd ag n (gp_ch kd n d 1) (gp_sn kd d)))) (gt_t kd ag n (gp_ch kd n d 0)) (gt_t kd ag n (gp_ch kd n d 1)) := by
  rw [show gt_t kd ag n d = (gt_f kd ag n d).1 from rfl, gt_q9 h hd hk]
theorem gt_u9 {kd : Nat → Nat} {ag : Nat → Int32} {n d : Nat} (h : gp_ok kd n) (hd : d < n) (hk : kd d = 9) (v : Nat) : gt_u kd ag n d v = (gt_u kd ag n (gp_ch kd n d 1) v) := by
  rw [show gt_u kd ag n d v = (gt_f kd ag n d).2.1 v from rfl, gt_q9 h hd hk]
theorem gt_b9 {kd : Nat → Nat} {ag : Nat → Int32} {n d : Nat} (h : gp_ok kd n) (hd : d < n) (hk : kd d = 9) : gt_b kd ag n d = gt_se (ag d) (gt_u kd ag n (gp_ch kd n d 1) (gp_sn kd d)) := by
  rw [show gt_b kd ag n d = (gt_f kd ag n d).2.2 from rfl, gt_q9 h hd hk]
theorem gt_t10 {kd : Nat → Nat} {ag : Nat → Int32} {n d : Nat} (h : gp_ok kd n) (hd : d < n) (hk : kd d = 10) : gt_t kd ag n d = gt_r (gt_t kd ag n (gp_ch kd n d 0)) := by
  rw [show gt_t kd ag n d = (gt_f kd ag n d).1 from rfl, gt_q10 h hd hk]
theorem gt_u10 {kd : Nat → Nat} {ag : Nat → Int32} {n d : Nat} (h : gp_ok kd n) (hd : d < n) (hk : kd d = 10) (v : Nat) : gt_u kd ag n d v = gt_add (gt_u kd ag n (gp_ch kd n d 0) v) (gt_mul (gt_g (gt_t kd ag n (gp_ch kd n d 0))).toNatClampNeg (gt_u kd ag n (gp_ch kd n d 1) v)) := by
  rw [show gt_u kd ag n d v = (gt_f kd ag n d).2.1 v from rfl, gt_q10 h hd hk]
theorem gt_t11 {kd : Nat → Nat} {ag : Nat → Int32} {n d : Nat} (h : gp_ok kd n) (hd : d < n) (hk : kd d = 11) : gt_t kd ag n d = gt_mk 2 0 (gt_t kd ag n (gp_ch kd n d 0)) (gt_t kd ag n (gp_ch kd n d 1)) := by
  rw [show gt_t kd ag n d = (gt_f kd ag n d).1 from rfl, gt_q11 h hd hk]
theorem gt_u11 {kd : Nat → Nat} {ag : Nat → Int32} {n d : Nat} (h : gp_ok kd n) (hd : d < n) (hk : kd d = 11) (v : Nat) : gt_u kd ag n d v = gt_add (gt_u kd ag n (gp_ch kd n d 0) v) (gt_u kd ag n (gp_ch kd n d 1) v) := by
  rw [show gt_u kd ag n d v = (gt_f kd ag n d).2.1 v from rfl, gt_q11 h hd hk]
theorem gt_t12 {kd : Nat → Nat} {ag : Nat → Int32} {n d : Nat} (h : gp_ok kd n) (hd : d < n) (hk : kd d = 12) : gt_t kd ag n d = (gt_t kd ag n (gp_ch kd n d 1)) := by
  rw [show gt_t kd ag n d = (gt_f kd ag n d).1 from rfl, gt_q12 h hd hk]
theorem gt_u12 {kd : Nat → Nat} {ag : Nat → Int32} {n d : Nat} (h : gp_ok kd n) (hd : d < n) (hk : kd d = 12) (v : Nat) : gt_u kd ag n d v = gt_add (gt_mul (gt_max (gt_se (ag d) (gt_max (gt_u kd ag n (gp_ch kd n d 1) (gp_sn kd d)) (gt_u kd ag n (gp_ch kd n d 1) (gp_sn kd d + 1)))) 1) (gt_u kd ag n (gp_ch kd n d 0) v)) (gt_u kd ag n (gp_ch kd n d 1) v) := by
  rw [show gt_u kd ag n d v = (gt_f kd ag n d).2.1 v from rfl, gt_q12 h hd hk]
theorem gt_b12 {kd : Nat → Nat} {ag : Nat → Int32} {n d : Nat} (h : gp_ok kd n) (hd : d < n) (hk : kd d = 12) : gt_b kd ag n d = gt_se (ag d) (gt_max (gt_u kd ag n (gp_ch kd n d 1) (gp_sn kd d)) (gt_u kd ag n (gp_ch kd n d 1) (gp_sn kd d + 1))) := by
  rw [show gt_b kd ag n d = (gt_f kd ag n d).2.2 from rfl, gt_q12 h hd hk]
theorem gt_t13 {kd : Nat → Nat} {ag : Nat → Int32} {n d : Nat} (h : gp_ok kd n) (hd : d < n) (hk : kd d = 13) : gt_t kd ag n d = gt_mk 3 0 (gt_t kd ag n (gp_ch kd n d 1)) (gt_t kd ag n (gp_ch kd n d 0)) := by
  rw [show gt_t kd ag n d = (gt_f kd ag n d).1 from rfl, gt_q13 h hd hk]
theorem gt_u13 {kd : Nat → Nat} {ag : Nat → Int32} {n d : Nat} (h : gp_ok kd n) (hd : d < n) (hk : kd d = 13) (v : Nat) : gt_u kd ag n d v = (gt_u kd ag n (gp_ch kd n d 1) v) := by
  rw [show gt_u kd ag n d v = (gt_f kd ag n d).2.1 v from rfl, gt_q13 h hd hk]
theorem gt_t14 {kd : Nat → Nat} {ag : Nat → Int32} {n d : Nat} (h : gp_ok kd n) (hd : d < n) (hk : kd d = 14) : gt_t kd ag n d = gt_mk 3 0 (gt_t kd ag n (gp_ch kd n d 0)) (gt_t kd ag n (gp_ch kd n d 1)) := by
  rw [show gt_t kd ag n d = (gt_f kd ag n d).1 from rfl, gt_q14 h hd hk]
theorem gt_u14 {kd : Nat → Nat} {ag : Nat → Int32} {n d : Nat} (h : gp_ok kd n) (hd : d < n) (hk : kd d = 14) (v : Nat) : gt_u kd ag n d v = (gt_u kd ag n (gp_ch kd n d 1) v) := by
  rw [show gt_u kd ag n d v = (gt_f kd ag n d).2.1 v from rfl, gt_q14 h hd hk]
theorem gt_t15 {kd : Nat → Nat} {ag : Nat → Int32} {n d : Nat} (h : gp_ok kd n) (hd : d < n) (hk : kd d = 15) : gt_t kd ag n d = (gt_t kd ag n (gp_ch kd n d 1)) := by
  rw [show gt_t kd ag n d = (gt_f kd ag n d).1 from rfl, gt_q15 h hd hk]
theorem gt_u15 {kd : Nat → Nat} {ag : Nat → Int32} {n d : Nat} (h : gp_ok kd n) (hd : d < n) (hk : kd d = 15) (v : Nat) : gt_u kd ag n d v = gt_add (gt_mul (gt_max (gt_se (ag d) (gt_max (gt_u kd ag n (gp_ch kd n d 1) (gp_sn kd d)) (gt_u kd ag n (gp_ch kd n d 2) (gp_sn kd d)))) 1) (gt_u kd ag n (gp_ch kd n d 0) v)) (gt_max (gt_u kd ag n (gp_ch kd n d 1) v) (gt_u kd ag n (gp_ch kd n d 2) v)) := by
  rw [show gt_u kd ag n d v = (gt_f kd ag n d).2.1 v from rfl, gt_q15 h hd hk]
theorem gt_b15 {kd : Nat → Nat} {ag : Nat → Int32} {n d : Nat} (h : gp_ok kd n) (hd : d < n) (hk : kd d = 15) : gt_b kd ag n d = gt_se (ag d) (gt_max (gt_u kd ag n (gp_ch kd n d 1) (gp_sn kd d)) (gt_u kd ag n (gp_ch kd n d 2) (gp_sn kd d))) := by
  rw [show gt_b kd ag n d = (gt_f kd ag n d).2.2 from rfl, gt_q15 h hd hk]
theorem gt_t16 {kd : Nat → Nat} {ag : Nat → Int32} {n d : Nat} (h : gp_ok kd n) (hd : d < n) (hk : kd d = 16) : gt_t kd ag n d = gt_mk 5 (ag d) (gt_t kd ag n (gp_ch kd n d 0)) (fun _ => none) := by
  rw [show gt_t kd ag n d = (gt_f kd ag n d).1 from rfl, gt_q16 h hd hk]
theorem gt_u16 {kd : Nat → Nat} {ag : Nat → Int32} {n d : Nat} (h : gp_ok kd n) (hd : d < n) (hk : kd d = 16) (v : Nat) : gt_u kd ag n d v = gt_mul (ag d).toNatClampNeg (gt_u kd ag n (gp_ch kd n d 0) v) := by
  rw [show gt_u kd ag n d v = (gt_f kd ag n d).2.1 v from rfl, gt_q16 h hd hk]
theorem gt_t17 {kd : Nat → Nat} {ag : Nat → Int32} {n d : Nat} (h : gp_ok kd n) (hd : d < n) (hk : kd d = 17) : gt_t kd ag n d = (gt_t kd ag n (gp_ch kd n d 1)) := by
  rw [show gt_t kd ag n d = (gt_f kd ag n d).1 from rfl, gt_q17 h hd hk]
theorem gt_u17 {kd : Nat → Nat} {ag : Nat → Int32} {n d : Nat} (h : gp_ok kd n) (hd : d < n) (hk : kd d = 17) (v : Nat) : gt_u kd ag n d v = gt_add (gt_u kd ag n (gp_ch kd n d 0) v) (gt_u kd ag n (gp_ch kd n d 1) v) := by
  rw [show gt_u kd ag n d v = (gt_f kd ag n d).2.1 v from rfl, gt_q17 h hd hk]
theorem gt_b17 {kd : Nat → Nat} {ag : Nat → Int32} {n d : Nat} (h : gp_ok kd n) (hd : d < n) (hk : kd d = 17) : gt_b kd ag n d = (gt_g (gt_t kd ag n (gp_ch kd n d 0))).toNatClampNeg := by
  rw [show gt_b kd ag n d = (gt_f kd ag n d).2.2 from rfl, gt_q17 h hd hk]
theorem gt_t6 {kd : Nat → Nat} {ag : Nat → Int32} {n d : Nat} (h : gp_ok kd n) (hd : d < n) (hk : kd d = 6) (hv : (gt_lv kd ag d) < gp_sn kd d) : gt_t kd ag n d = gt_G kd ag n d (gt_lv kd ag d) := by
  rw [show gt_t kd ag n d = (gt_f kd ag n d).1 from rfl, gt_q6 h hd hk hv]
theorem gt_u6 {kd : Nat → Nat} {ag : Nat → Int32} {n d : Nat} (h : gp_ok kd n) (hd : d < n) (hk : kd d = 6) (hv : (gt_lv kd ag d) < gp_sn kd d) (v : Nat) : gt_u kd ag n d v = if v = (gt_lv kd ag d) then 1 else 0 := by
  rw [show gt_u kd ag n d v = (gt_f kd ag n d).2.1 v from rfl, gt_q6 h hd hk hv]
theorem gt_se_le {a : Int32} {m : Nat} (ha : ∃ g, g ≤ 3 ∧ a = nI g) (hm : m ≤ 2) : gt_se a m ≤ 2 := by
  obtain ⟨g, hg, rfl⟩ := ha
  unfold gt_se
  split
  · exact hm
  · rename_i z
    rw [nI_clamp (by omega)]
    rcases Nat.lt_or_ge g 3 with y | y
    · omega
    · have : g = 3 := by omega
      subst this
      exact absurd rfl z
/-! the tests of a node -/
noncomputable def gt_nd (kd : Nat → Nat) (ag : Nat → Int32) (n d : Nat) : Nat :=
  if kd d = 12 then gt_max (gt_u kd ag n (gp_ch kd n d 1) (gp_sn kd d)) (gt_u kd ag n (gp_ch kd n d 1) (gp_sn kd d + 1))
  else if kd d = 15 then gt_max (gt_u kd ag n (gp_ch kd n d 1) (gp_sn kd d)) (gt_u kd ag n (gp_ch kd n d 2) (gp_sn kd d))
  else gt_u kd ag n (gp_ch kd n d 1) (gp_sn kd d)
noncomputable def gt_if (P : Prop) (a b : Nat) : Nat := @ite Nat P (Classical.propDecidable P) a b
theorem gt_if_t {P : Prop} {a b : Nat} (h : P) : gt_if P a b = a := by unfold gt_if; rw [if_pos h]
theorem gt_if_f {P : Prop} {a b : Nat} (h : ¬ P) : gt_if P a b = b := by unfold gt_if; rw [if_neg h]
/-- the test behind the first child -/
noncomputable def gt_e1 (kd : Nat → Nat) (ag : Nat → Int32) (n d : Nat) : Nat :=
  gt_if ((kd d = 12 ∧ ¬ gt_k (gt_t kd ag n (gp_ch kd n d 0)) = 2) ∨ (kd d = 15 ∧ ¬ gt_k (gt_t kd ag n (gp_ch kd n d 0)) = 3) ∨ (kd d = 17 ∧ ¬ gt_k (gt_t kd ag n (gp_ch kd n d 0)) = 5)) 4 0
/-- the tests behind the last child -/
noncomputable def gt_e2 (kd : Nat → Nat) (ag : Nat → Int32) (n d : Nat) : Nat :=
  gt_if ((kd d = 8 ∧ ¬ (gt_k (gt_t kd ag n (gp_ch kd n d 0)) = 1 ∧ gt_k (gt_t kd ag n (gp_ch kd n d 1)) = 1)) ∨
    (kd d = 10 ∧ ¬ (gt_k (gt_t kd ag n (gp_ch kd n d 0)) = 4 ∧ gt_l (gt_t kd ag n (gp_ch kd n d 0)) = gt_t kd ag n (gp_ch kd n d 1))) ∨
    (kd d = 15 ∧ ¬ gt_t kd ag n (gp_ch kd n d 1) = gt_t kd ag n (gp_ch kd n d 2))) 4
  (gt_if (((kd d = 9 ∨ kd d = 12 ∨ kd d = 15) ∧ ¬ ag d = 3 ∧ (ag d).toNatClampNeg < gt_nd kd ag n d) ∨
    (kd d = 17 ∧ (gt_g (gt_t kd ag n (gp_ch kd n d 0))).toNatClampNeg < gt_nd kd ag n d)) 5 0)
noncomputable def gt_H (kd : Nat → Nat) (ag : Nat → Int32) (n : Nat) (f : Nat → Nat × Nat) (d : Nat) : Nat × Nat :=
  if kd d ≤ 5 then (0, 0)
  else if 0 < gp_ar (kd d) ∧ ¬ (f (gp_ch kd n d 0)).1 = 0 then f (gp_ch kd n d 0)
  else if ¬ gt_e1 kd ag n d = 0 then (gt_e1 kd ag n d, d)
  else if 1 < gp_ar (kd d) ∧ ¬ (f (gp_ch kd n d 1)).1 = 0 then f (gp_ch kd n d 1)
  else if 2 < gp_ar (kd d) ∧ ¬ (f (gp_ch kd n d 2)).1 = 0 then f (gp_ch kd n d 2)
  else (gt_e2 kd ag n d, d)
/-- the first error in the subtree of a node: its status (0: none) and its node -/
noncomputable def gt_er (kd : Nat → Nat) (ag : Nat → Int32) (n : Nat) : Nat → Nat × Nat := Classical.choose (gt_fx (0, 0) (fun d => 32 - d) (gt_H kd ag n))
theorem gt_er_f (kd : Nat → Nat) (ag : Nat → Int32) (n d : Nat) : gt_er kd ag n d = gt_H kd ag n (fun b => if 32 - b < 32 - d then gt_er kd ag n b else (0, 0)) d :=
  Classical.choose_spec (gt_fx (0, 0) (fun d => 32 - d) (gt_H kd ag n)) d
theorem gt_er_e {kd : Nat → Nat} {ag : Nat → Int32} {n d : Nat} (h : gp_ok kd n) (hd : d < n) : gt_er kd ag n d = gt_H kd ag n (gt_er kd ag n) d := by
  have hn := h.2.1
  have key : ∀ j, j < gp_ar (kd d) → (if 32 - gp_ch kd n d j < 32 - d then gt_er kd ag n (gp_ch kd n d j) else (0, 0)) = gt_er kd ag n (gp_ch kd n d j) := by
    intro j hj
    have a := (gp_ch_lt h hd hj).1
    have b := gp_ch_ge h hd (Nat.le_of_lt hj)
    exact if_pos (by omega)
  rw [gt_er_f]
  unfold gt_H
  dsimp only
  by_cases h5 : kd d ≤ 5
  · rw [if_pos h5, if_pos h5]
  rw [if_neg h5, if_neg h5]
  by_cases h0 : 0 < gp_ar (kd d)
  · by_cases h1 : 1 < gp_ar (kd d)
    · by_cases h2 : 2 < gp_ar (kd d)
      · simp only [key 0 h0, key 1 h1, key 2 h2]
      · simp only [key 0 h0, key 1 h1, h2, false_and, if_false]
    · have h2 : ¬ 2 < gp_ar (kd d) := by omega
      simp only [key 0 h0, h1, h2, false_and, if_false]
  · have h1 : ¬ 1 < gp_ar (kd d) := by omega
    have h2 : ¬ 2 < gp_ar (kd d) := by omega
    simp only [h0, h1, h2, false_and, if_false]
theorem gt_er_ty {kd : Nat → Nat} {ag : Nat → Int32} {n d : Nat} (h : gp_ok kd n) (hd : d < n) (hk : kd d ≤ 5) : gt_er kd ag n d = (0, 0) := by
  rw [gt_er_e h hd]; unfold gt_H; rw [if_pos hk]
/-- what no error below a term says -/
theorem gt_er_ok {kd : Nat → Nat} {ag : Nat → Int32} {n d : Nat} (h : gp_ok kd n) (hd : d < n) (hk : ¬ kd d ≤ 5) (e : (gt_er kd ag n d).1 = 0) :
    (∀ j, j < gp_ar (kd d) → (gt_er kd ag n (gp_ch kd n d j)).1 = 0) ∧ gt_e1 kd ag n d = 0 ∧ gt_e2 kd ag n d = 0 := by
  have h3 := gp_ar_le (kd d)
  rw [gt_er_e h hd] at e
  unfold gt_H at e
  rw [if_neg hk] at e
  by_cases c0 : 0 < gp_ar (kd d) ∧ ¬ (gt_er kd ag n (gp_ch kd n d 0)).1 = 0
  · rw [if_pos c0] at e; exact absurd e c0.2
  rw [if_neg c0] at e
  by_cases c1 : ¬ gt_e1 kd ag n d = 0
  · rw [if_pos c1] at e; exact absurd e c1
  rw [if_neg c1] at e
  by_cases c2 : 1 < gp_ar (kd d) ∧ ¬ (gt_er kd ag n (gp_ch kd n d 1)).1 = 0
  · rw [if_pos c2] at e; exact absurd e c2.2
  rw [if_neg c2] at e
  by_cases c3 : 2 < gp_ar (kd d) ∧ ¬ (gt_er kd ag n (gp_ch kd n d 2)).1 = 0
  · rw [if_pos c3] at e; exact absurd e c3.2
  rw [if_neg c3] at e
  refine ⟨fun j hj => ?_, Classical.not_not.mp c1, e⟩
  have : j = 0 ∨ j = 1 ∨ j = 2 := by omega
  rcases this with rfl | rfl | rfl
  · exact Classical.byContradiction fun z => c0 ⟨hj, z⟩
  · exact Classical.byContradiction fun z => c2 ⟨hj, z⟩
  · exact Classical.byContradiction fun z => c3 ⟨hj, z⟩
end
section
/-! depth and size of types: the reference's comparison ends -/
def gs_fit : Nat → Nat → gt_Ty → Prop
  | 0, _, _ => False
  | h + 1, s, τ => 1 ≤ s ∧ (gt_k τ = 1 ∨ (gt_k τ = 5 ∧ gs_fit h (s - 1) (gt_l τ)) ∨ ∃ a b, a + b + 1 ≤ s ∧ gs_fit h a (gt_l τ) ∧ gs_fit h b (gt_r τ))
theorem gs_pos : ∀ {h s τ}, gs_fit h s τ → 1 ≤ h ∧ 1 ≤ s
  | 0, _, _, z => z.elim
  | _ + 1, _, _, z => ⟨by omega, z.1⟩
theorem gs_mono : ∀ {h h' s s' : Nat} {τ : gt_Ty}, h ≤ h' → s ≤ s' → gs_fit h s τ → gs_fit h' s' τ
  | 0, _, _, _, _, _, _, z => z.elim
  | h + 1, 0, _, _, _, hh, _, _ => by omega
  | h + 1, h' + 1, s, s', τ, hh, hs, z => by
    refine ⟨by have := z.1; omega, ?_⟩
    rcases z.2 with e | ⟨e, f⟩ | ⟨a, b, e, f, g⟩
    · exact Or.inl e
    · exact Or.inr (Or.inl ⟨e, gs_mono (by omega) (by omega) f⟩)
    · exact Or.inr (Or.inr ⟨a, b, by omega, gs_mono (by omega) (Nat.le_refl _) f, gs_mono (by omega) (Nat.le_refl _) g⟩)
theorem gs_1 {h s : Nat} {τ : gt_Ty} (hk : gt_k τ = 1) (hh : 1 ≤ h) (hs : 1 ≤ s) : gs_fit h s τ := by
  cases h with
  | zero => omega
  | succ h => exact ⟨hs, Or.inl hk⟩
theorem gs_5 {h s : Nat} {τ : gt_Ty} (hk : gt_k τ = 5) (f : gs_fit h s (gt_l τ)) : gs_fit (h + 1) (s + 1) τ :=
  ⟨by omega, Or.inr (Or.inl ⟨hk, f⟩)⟩
theorem gs_2 {h a b : Nat} {τ : gt_Ty} (f : gs_fit h a (gt_l τ)) (g : gs_fit h b (gt_r τ)) : gs_fit (h + 1) (a + b + 1) τ :=
  ⟨by omega, Or.inr (Or.inr ⟨a, b, Nat.le_refl _, f, g⟩)⟩
theorem gs_l {h s : Nat} {τ : gt_Ty} (hk : ¬ gt_k τ = 1) (f : gs_fit h s τ) : gs_fit h s (gt_l τ) := by
  cases h with
  | zero => exact f
  | succ h =>
    rcases f.2 with e | ⟨e, f⟩ | ⟨a, b, e, f, g⟩
    · exact absurd e hk
    · exact gs_mono (by omega) (by omega) f
    · exact gs_mono (by omega) (by omega) f
theorem gs_r {h s : Nat} {τ : gt_Ty} (hk : ¬ gt_k τ = 1) (h5 : ¬ gt_k τ = 5) (f : gs_fit h s τ) : gs_fit h s (gt_r τ) := by
  cases h with
  | zero => exact f
  | succ h =>
    rcases f.2 with e | ⟨e, f⟩ | ⟨a, b, e, f, g⟩
    · exact absurd e hk
    · exact absurd e h5
    · exact gs_mono (by omega) (by omega) g
def gs_tab : List Nat := [0, 1, 2, 3, 5, 7, 10, 13, 19, 25, 35, 50, 70, 100, 133, 190, 250, 361, 500, 700, 1000, 1330, 1900, 2527, 3610, 5000, 7000, 10000, 13300, 19000, 25270, 36100, 50000]
def gs_F (n : Nat) : Nat := gs_tab.getD n 0
theorem gs_dec2 : ∀ a : Fin 32, ∀ b : Fin 32, 1 ≤ a.val → 1 ≤ b.val → a.val + b.val + 1 ≤ 32 →
    gs_F a.val + gs_F b.val + 1 ≤ gs_F (a.val + b.val + 1) ∧ gs_F a.val * gs_F b.val ≤ gs_F (a.val + b.val + 1) ∧ 1 + a.val + gs_F b.val * a.val ≤ gs_F (a.val + b.val + 1) := by decide +kernel
theorem gs_FA {a b : Nat} (ha : 1 ≤ a) (hb : 1 ≤ b) (h : a + b + 1 ≤ 32) : gs_F a + gs_F b + 1 ≤ gs_F (a + b + 1) := (gs_dec2 ⟨a, by omega⟩ ⟨b, by omega⟩ ha hb h).1
theorem gs_FM {a b : Nat} (ha : 1 ≤ a) (hb : 1 ≤ b) (h : a + b + 1 ≤ 32) : gs_F a * gs_F b ≤ gs_F (a + b + 1) := (gs_dec2 ⟨a, by omega⟩ ⟨b, by omega⟩ ha hb h).2.1
theorem gs_FL {a b : Nat} (ha : 1 ≤ a) (hb : 1 ≤ b) (h : a + b + 1 ≤ 32) : 1 + a + gs_F b * a ≤ gs_F (a + b + 1) := (gs_dec2 ⟨a, by omega⟩ ⟨b, by omega⟩ ha hb h).2.2
theorem gs_dec1 : ∀ a : Fin 32, gs_F a.val + 1 ≤ gs_F (a.val + 1) ∧ a.val + 1 ≤ gs_F (a.val + 1) := by decide +kernel
theorem gs_F1 {a : Nat} (h : a + 1 ≤ 32) : gs_F a + 1 ≤ gs_F (a + 1) := (gs_dec1 ⟨a, by omega⟩).1
theorem gs_Fn : ∀ {a : Nat}, a ≤ 32 → a ≤ gs_F a
  | 0, _ => Nat.zero_le _
  | a + 1, h => (gs_dec1 ⟨a, by omega⟩).2
theorem gs_Fm {a b : Nat} (h : a ≤ b) (hb : b ≤ 32) : gs_F a ≤ gs_F b := by
  induction b with
  | zero => have : a = 0 := by omega
            subst this; exact Nat.le_refl _
  | succ b ih =>
    rcases Nat.lt_or_ge a (b + 1) with z | z
    · have := ih (by omega) (by omega)
      have := gs_F1 (a := b) hb
      omega
    · have : a = b + 1 := by omega
      subst this; exact Nat.le_refl _
/-! all that a program promises once shape and scope are right -/
def gt_P (kd : Nat → Nat) (ag : Nat → Int32) (n : Nat) : Prop := gp_ok kd n ∧ gp_so kd n ∧ (∀ d, d < n → 1 ≤ kd d ∧ kd d ≤ 17) ∧
  (∀ d, d < n → kd d = 6 → ∃ i, i < gp_sn kd d ∧ ag d = nI i) ∧
  (∀ d, d < n → (kd d = 4 ∨ kd d = 5 ∨ kd d = 16) → ∃ g, g ≤ 2 ∧ ag d = nI g) ∧
  (∀ d, d < n → (kd d = 9 ∨ kd d = 12 ∨ kd d = 15) → ∃ g, g ≤ 3 ∧ ag d = nI g) ∧
  (∀ d, d < n → kd d ≤ 3 → ag d = 0)
theorem gt_P_lv {kd : Nat → Nat} {ag : Nat → Int32} {n d : Nat} (h : gt_P kd ag n) (hd : d < n) (hk : kd d = 6) : gt_lv kd ag d < gp_sn kd d := by
  obtain ⟨i, hi, e⟩ := h.2.2.2.1 d hd hk
  unfold gt_lv
  omega
/-- the size of a subtree -/
def gp_sz (kd : Nat → Nat) (n t : Nat) : Nat := gp_en kd n t - t
theorem gp_sz_0 {kd : Nat → Nat} {n t : Nat} (h : gp_ok kd n) (ht : t < n) (ha : gp_ar (kd t) = 0) : gp_sz kd n t = 1 := by
  unfold gp_sz
  rw [gp_en_ch h ht, ha]
  show t + 1 - t = 1
  omega
theorem gp_sz_1 {kd : Nat → Nat} {n t : Nat} (h : gp_ok kd n) (ht : t < n) (ha : gp_ar (kd t) = 1) : gp_sz kd n t = gp_sz kd n (gp_ch kd n t 0) + 1 ∧ 1 ≤ gp_sz kd n (gp_ch kd n t 0) := by
  have a := gp_en_lt h (gp_ch_lt h ht (j := 0) (by omega)).1
  unfold gp_sz
  rw [gp_en_ch h ht, ha]
  show gp_en kd n (gp_ch kd n t 0) - t = _ ∧ _
  have e : gp_ch kd n t 0 = t + 1 := rfl
  rw [e] at a ⊢
  omega
theorem gp_sz_2 {kd : Nat → Nat} {n t : Nat} (h : gp_ok kd n) (ht : t < n) (ha : gp_ar (kd t) = 2) : gp_sz kd n t = gp_sz kd n (gp_ch kd n t 0) + gp_sz kd n (gp_ch kd n t 1) + 1 ∧ 1 ≤ gp_sz kd n (gp_ch kd n t 0) ∧ 1 ≤ gp_sz kd n (gp_ch kd n t 1) := by
  have a := gp_en_lt h (gp_ch_lt h ht (j := 0) (by omega)).1
  have b := gp_en_lt h (gp_ch_lt h ht (j := 1) (by omega)).1
  unfold gp_sz
  rw [gp_en_ch h ht, ha]
  have e : gp_ch kd n t 0 = t + 1 := rfl
  have e1 : gp_ch kd n t 1 = gp_en kd n (gp_ch kd n t 0) := rfl
  have e2 : gp_ch kd n t 2 = gp_en kd n (gp_ch kd n t 1) := rfl
  rw [e2]
  omega
theorem gp_sz_3 {kd : Nat → Nat} {n t : Nat} (h : gp_ok kd n) (ht : t < n) (ha : gp_ar (kd t) = 3) : gp_sz kd n t = gp_sz kd n (gp_ch kd n t 0) + gp_sz kd n (gp_ch kd n t 1) + gp_sz kd n (gp_ch kd n t 2) + 1 ∧ 1 ≤ gp_sz kd n (gp_ch kd n t 0) ∧ 1 ≤ gp_sz kd n (gp_ch kd n t 1) ∧ 1 ≤ gp_sz kd n (gp_ch kd n t 2) := by
  have a := gp_en_lt h (gp_ch_lt h ht (j := 0) (by omega)).1
  have b := gp_en_lt h (gp_ch_lt h ht (j := 1) (by omega)).1
  have c := gp_en_lt h (gp_ch_lt h ht (j := 2) (by omega)).1
  unfold gp_sz
  rw [gp_en_ch h ht, ha]
  have e : gp_ch kd n t 0 = t + 1 := rfl
  have e1 : gp_ch kd n t 1 = gp_en kd n (gp_ch kd n t 0) := rfl
  have e2 : gp_ch kd n t 2 = gp_en kd n (gp_ch kd n t 1) := rfl
  have e3 : gp_ch kd n t 3 = gp_en kd n (gp_ch kd n t 2) := rfl
  rw [e3]
  omega
theorem gp_sz_le {kd : Nat → Nat} {n t : Nat} (h : gp_ok kd n) (ht : t < n) : gp_sz kd n t ≤ 32 ∧ 1 ≤ gp_sz kd n t := by
  have a := gp_en_lt h ht
  have b := h.2.1
  unfold gp_sz
  omega
/-- the types of the variables that node t sees fit -/
def gs_C (kd : Nat → Nat) (ag : Nat → Int32) (n t H M : Nat) : Prop := 1 ≤ M ∧ ∀ v, v < gp_sn kd t → gs_fit H M (gt_G kd ag n t v)
theorem gt_G_up {kd : Nat → Nat} {ag : Nat → Int32} {n t j v : Nat} (h : gp_ok kd n) (ht : t < n) (hj : j < gp_ar (kd t)) (hv : v < gp_sn kd t) : gt_G kd ag n (gp_ch kd n t j) v = gt_G kd ag n t v := by
  unfold gt_G
  rw [gp_lc_up h ht hj hv]
theorem gt_G_new {kd : Nat → Nat} {ag : Nat → Int32} {n t j v : Nat} (h : gp_ok kd n) (ht : t < n) (hj : j < gp_ar (kd t)) (hv : gp_sn kd t ≤ v) : gt_G kd ag n (gp_ch kd n t j) v = gt_nv (kd t) j (v - gp_sn kd t) (gt_t kd ag n (gp_ch kd n t 0)) := by
  unfold gt_G
  rw [gp_lc_new h ht hj hv]
theorem gs_C_up {kd : Nat → Nat} {ag : Nat → Int32} {n t j H M H' M' : Nat} (h : gp_ok kd n) (ht : t < n) (hj : j < gp_ar (kd t)) (c : gs_C kd ag n t H M) (hH : H ≤ H') (hM : M ≤ M')
    (hn : ∀ w, w < gp_bd (kd t) j → gs_fit H' M' (gt_nv (kd t) j w (gt_t kd ag n (gp_ch kd n t 0)))) : gs_C kd ag n (gp_ch kd n t j) H' M' := by
  refine ⟨by have := c.1; omega, fun v hv => ?_⟩
  rw [gp_sn_ch h ht hj] at hv
  rcases Nat.lt_or_ge v (gp_sn kd t) with z | z
  · rw [gt_G_up h ht hj z]
    exact gs_mono hH hM (c.2 v z)
  · rw [gt_G_new h ht hj z]
    exact hn _ (by omega)
end
section
theorem gt_if_0 {P : Prop} {a b : Nat} (ha : ¬ a = 0) (h : gt_if P a b = 0) : ¬ P ∧ b = 0 := by
  by_cases z : P
  · rw [gt_if_t z] at h; exact absurd h ha
  · rw [gt_if_f z] at h; exact ⟨z, h⟩
theorem gt_e1_0 {kd : Nat → Nat} {ag : Nat → Int32} {n d : Nat} (h : gt_e1 kd ag n d = 0) : (kd d = 12 → gt_k (gt_t kd ag n (gp_ch kd n d 0)) = 2) ∧ (kd d = 15 → gt_k (gt_t kd ag n (gp_ch kd n d 0)) = 3) ∧ (kd d = 17 → gt_k (gt_t kd ag n (gp_ch kd n d 0)) = 5) := by
  have z := (gt_if_0 (by decide) h).1
  refine ⟨fun e => Classical.byContradiction fun y => z (Or.inl ⟨e, y⟩), fun e => Classical.byContradiction fun y => z (Or.inr (Or.inl ⟨e, y⟩)), fun e => Classical.byContradiction fun y => z (Or.inr (Or.inr ⟨e, y⟩))⟩
theorem gt_e2_0 {kd : Nat → Nat} {ag : Nat → Int32} {n d : Nat} (h : gt_e2 kd ag n d = 0) :
    (kd d = 8 → gt_k (gt_t kd ag n (gp_ch kd n d 0)) = 1 ∧ gt_k (gt_t kd ag n (gp_ch kd n d 1)) = 1) ∧
    (kd d = 10 → gt_k (gt_t kd ag n (gp_ch kd n d 0)) = 4 ∧ gt_l (gt_t kd ag n (gp_ch kd n d 0)) = gt_t kd ag n (gp_ch kd n d 1)) ∧
    (kd d = 15 → gt_t kd ag n (gp_ch kd n d 1) = gt_t kd ag n (gp_ch kd n d 2)) ∧
    ((kd d = 9 ∨ kd d = 12 ∨ kd d = 15) → ag d = 3 ∨ gt_nd kd ag n d ≤ (ag d).toNatClampNeg) ∧
    (kd d = 17 → gt_nd kd ag n d ≤ (gt_g (gt_t kd ag n (gp_ch kd n d 0))).toNatClampNeg) := by
  obtain ⟨z, h2⟩ := gt_if_0 (by decide) h
  have y := (gt_if_0 (by decide) h2).1
  refine ⟨fun e => Classical.byContradiction fun x => z (Or.inl ⟨e, x⟩), fun e => Classical.byContradiction fun x => z (Or.inr (Or.inl ⟨e, x⟩)), fun e => Classical.byContradiction fun x => z (Or.inr (Or.inr ⟨e, x⟩)), fun e => ?_, fun e => ?_⟩
  · by_cases a : ag d = 3
    · exact Or.inl a
    · refine Or.inr (Nat.le_of_not_lt fun x => y (Or.inl ⟨e, a, x⟩))
  · exact Nat.le_of_not_lt fun x => y (Or.inr ⟨e, x⟩)
theorem gp_ty_ch {kd : Nat → Nat} {n t j : Nat} (h : gp_ok kd n) (hs : gp_so kd n) (ht : t < n) (hk : kd t ≤ 5) (hj : j < gp_ar (kd t)) : kd (gp_ch kd n t j) ≤ 5 := by
  have a := gp_so_ch h hs ht hj
  unfold gp_srt gp_cs at a
  rw [if_pos hk] at a
  by_cases z : kd (gp_ch kd n t j) ≤ 5
  · exact z
  · rw [if_neg z] at a; omega
theorem gp_ty_c0 {kd : Nat → Nat} {n t : Nat} (h : gp_ok kd n) (hs : gp_so kd n) (ht : t < n) (hk : kd t = 9 ∨ kd t = 13 ∨ kd t = 14) : kd (gp_ch kd n t 0) ≤ 5 := by
  have a := gp_so_ch h hs ht (j := 0) (by rcases hk with e | e | e <;> rw [e] <;> decide)
  unfold gp_srt gp_cs at a
  rw [if_neg (show ¬ kd t ≤ 5 by omega), if_pos (show (kd t = 9 ∨ kd t = 13 ∨ kd t = 14) ∧ 0 = 0 from ⟨hk, rfl⟩)] at a
  by_cases z : kd (gp_ch kd n t 0) ≤ 5
  · exact z
  · rw [if_neg z] at a; omega
theorem gp_tm_ch {kd : Nat → Nat} {n t j : Nat} (h : gp_ok kd n) (hs : gp_so kd n) (ht : t < n) (hk : ¬ kd t ≤ 5) (hj : j < gp_ar (kd t)) (hz : ¬ ((kd t = 9 ∨ kd t = 13 ∨ kd t = 14) ∧ j = 0)) : ¬ kd (gp_ch kd n t j) ≤ 5 := by
  have a := gp_so_ch h hs ht hj
  unfold gp_srt gp_cs at a
  rw [if_neg hk, if_neg hz] at a
  intro z
  rw [if_pos z] at a; omega
theorem gs_ty {kd : Nat → Nat} {ag : Nat → Int32} {n : Nat} (h : gt_P kd ag n) : ∀ m t, n - t < m → t < n → kd t ≤ 5 → gs_fit (gp_sz kd n t) (gp_sz kd n t) (gt_t kd ag n t)
  | 0, _, z, _, _ => by omega
  | m + 1, t, hm, ht, hk => by
    have hP := h
    obtain ⟨ok, so, kr, _⟩ := h
    have IH : ∀ j, j < gp_ar (kd t) → gs_fit (gp_sz kd n (gp_ch kd n t j)) (gp_sz kd n (gp_ch kd n t j)) (gt_t kd ag n (gp_ch kd n t j)) := by
      intro j hj
      have a := (gp_ch_lt ok ht hj).1
      have b := gp_ch_ge ok ht (Nat.le_of_lt hj)
      exact gs_ty hP m _ (by omega) a (gp_ty_ch ok so ht hk hj)
    have k1 := (kr t ht).1
    have hk' : kd t = 1 ∨ kd t = 5 ∨ kd t = 2 ∨ kd t = 3 ∨ kd t = 4 := by omega
    rcases hk' with e | e | e
    · have s := gp_sz_le ok ht
      exact gs_1 (by rw [gt_q1 e (fun _ => none) (fun _ => none)]; rfl) s.2 s.2
    · have s := gp_sz_1 ok ht (by rw [e]; decide)
      rw [s.1]
      refine gs_5 (by rw [gt_q5 ok ht e (fun _ => none)]; rfl) ?_
      rw [gt_q5 ok ht e (fun _ => none), gt_mk_l (by decide)]
      exact IH 0 (by rw [e]; decide)
    · have ha : gp_ar (kd t) = 2 := by rcases e with e | e | e <;> rw [e] <;> decide
      have s := gp_sz_2 ok ht ha
      have q : gt_l (gt_t kd ag n t) = gt_t kd ag n (gp_ch kd n t 0) ∧ gt_r (gt_t kd ag n t) = gt_t kd ag n (gp_ch kd n t 1) := by
        rcases e with e | e | e
        · rw [gt_q2 ok ht e]; exact ⟨gt_mk_l (by decide), gt_mk_r (by decide) (by decide)⟩
        · rw [gt_q3 ok ht e]; exact ⟨gt_mk_l (by decide), gt_mk_r (by decide) (by decide)⟩
        · rw [gt_q4 ok ht e]; exact ⟨gt_mk_l (by decide), gt_mk_r (by decide) (by decide)⟩
      have i0 := IH 0 (by omega)
      have i1 := IH 1 (by omega)
      rw [← q.1] at i0
      rw [← q.2] at i1
      rw [s.1]
      exact gs_mono (h := (gp_sz kd n (gp_ch kd n t 0) + gp_sz kd n (gp_ch kd n t 1)) + 1) (Nat.le_refl _) (Nat.le_refl _)
        (gs_2 (gs_mono (by omega) (Nat.le_refl _) i0) (gs_mono (by omega) (Nat.le_refl _) i1))
theorem gs_bd {kd : Nat → Nat} {ag : Nat → Int32} {n : Nat} (h : gt_P kd ag n) : ∀ m t H M, n - t < m → t < n → ¬ kd t ≤ 5 → (gt_er kd ag n t).1 = 0 → gs_C kd ag n t H M → gs_fit (H + gp_sz kd n t) (M * gs_F (gp_sz kd n t)) (gt_t kd ag n t)
  | 0, _, _, _, z, _, _, _, _ => by omega
  | m + 1, t, H, M, hm, ht, hk, he, hc => by
    have hP := h
    obtain ⟨ok, so, kr, -⟩ := h
    obtain ⟨er, e1, e2⟩ := gt_er_ok ok ht hk he
    have x1 := gt_e1_0 e1
    have x2 := gt_e2_0 e2
    have hM := hc.1
    have sl := gp_sz_le ok ht
    have IH : ∀ j H' M', j < gp_ar (kd t) → ¬ kd (gp_ch kd n t j) ≤ 5 → gs_C kd ag n (gp_ch kd n t j) H' M' →
        gs_fit (H' + gp_sz kd n (gp_ch kd n t j)) (M' * gs_F (gp_sz kd n (gp_ch kd n t j))) (gt_t kd ag n (gp_ch kd n t j)) := by
      intro j H' M' hj h5 c
      have a := (gp_ch_lt ok ht hj).1
      have b := gp_ch_ge ok ht (Nat.le_of_lt hj)
      exact gs_bd hP m _ H' M' (by omega) a h5 (er j hj) c
    have IT : ∀ j, j < gp_ar (kd t) → kd (gp_ch kd n t j) ≤ 5 → gs_fit (gp_sz kd n (gp_ch kd n t j)) (gp_sz kd n (gp_ch kd n t j)) (gt_t kd ag n (gp_ch kd n t j)) := by
      intro j hj h5
      have a := (gp_ch_lt ok ht hj).1
      exact gs_ty hP _ _ (Nat.lt_succ_self _) a h5
    have C0 : ∀ j, j < gp_ar (kd t) → gp_bd (kd t) j = 0 → gs_C kd ag n (gp_ch kd n t j) H M :=
      fun j hj hb => gs_C_up ok ht hj hc (Nat.le_refl _) (Nat.le_refl _) (fun w hw => by omega)
    have k17 := (kr t ht).2
    have hM1 : ∀ x y : Nat, x ≤ y → M * x ≤ M * y := fun x y z => Nat.mul_le_mul_left M z
    have hMp : ∀ x : Nat, x ≤ M * x := fun x => Nat.le_mul_of_pos_left x hM
    have hcase : kd t = 6 ∨ kd t = 7 ∨ kd t = 8 ∨ kd t = 9 ∨ kd t = 10 ∨ kd t = 11 ∨ kd t = 12 ∨ kd t = 13 ∨ kd t = 14 ∨ kd t = 15 ∨ kd t = 16 ∨ kd t = 17 := by omega
    rcases hcase with e | e | e | e | e | e | e | e | e | e | e | e
    · have s := gp_sz_0 ok ht (by rw [e]; decide)
      have hv := gt_P_lv hP ht e
      rw [gt_t6 ok ht e hv, s]
      exact gs_mono (by omega) (by show M ≤ M * 1; omega) (hc.2 _ hv)
    · have s := hMp (gs_F (gp_sz kd n t))
      have s2 := gs_Fn sl.1
      rw [gt_t7 ok ht e]
      exact gs_1 rfl (by omega) (by omega)
    · have s := hMp (gs_F (gp_sz kd n t))
      have s2 := gs_Fn sl.1
      have y := (x2.1 e).1
      rw [gt_t8 ok ht e]
      exact gs_1 y (by omega) (by omega)
    · have s := gp_sz_2 ok ht (by rw [e]; decide)
      have c5 := gp_ty_c0 ok so ht (Or.inl e)
      have c6 := gp_tm_ch ok so ht hk (j := 1) (by rw [e]; decide) (by omega)
      have f0 := IT 0 (by rw [e]; decide) c5
      have p := hMp (gp_sz kd n (gp_ch kd n t 0))
      have f1 := IH 1 (H + gp_sz kd n (gp_ch kd n t 0)) (M * gp_sz kd n (gp_ch kd n t 0)) (by rw [e]; decide) c6
        (gs_C_up ok ht (by rw [e]; decide) hc (by omega) (Nat.le_mul_of_pos_right M (by omega)) (fun w _ => by
          rw [e]; exact gs_mono (by omega) p f0))
      have fl := hM1 _ _ (gs_FL s.2.1 s.2.2 (by omega))
      rw [gt_t9 ok ht e, s.1]
      refine gs_mono ?_ ?_ (gs_2 (h := H + gp_sz kd n (gp_ch kd n t 0) + gp_sz kd n (gp_ch kd n t 1)) (by rw [gt_mk_l (by decide)]; exact gs_mono (by omega) (Nat.le_refl _) f0) (by rw [gt_mk_r (by decide) (by decide)]; exact f1))
      · omega
      · generalize gp_sz kd n (gp_ch kd n t 0) = a at *
        generalize gp_sz kd n (gp_ch kd n t 1) = b at *
        have q : M * (1 + a + gs_F b * a) = M + M * a + M * a * gs_F b := by grind
        omega
    · have s := gp_sz_2 ok ht (by rw [e]; decide)
      have c6 := gp_tm_ch ok so ht hk (j := 0) (by rw [e]; decide) (by omega)
      have f0 := IH 0 H M (by rw [e]; decide) c6 (C0 0 (by rw [e]; decide) (gp_bd_0 _))
      have y := (x2.2.1 e).1
      rw [gt_t10 ok ht e]
      exact gs_mono (by omega) (hM1 _ _ (gs_Fm (by omega) sl.1)) (gs_r (show ¬ gt_k (gt_t kd ag n (gp_ch kd n t 0)) = 1 by rw [y]; decide) (show ¬ gt_k (gt_t kd ag n (gp_ch kd n t 0)) = 5 by rw [y]; decide) f0)
    · have s := gp_sz_2 ok ht (by rw [e]; decide)
      have f0 := IH 0 H M (by rw [e]; decide) (gp_tm_ch ok so ht hk (j := 0) (by rw [e]; decide) (by omega)) (C0 0 (by rw [e]; decide) (gp_bd_0 _))
      have f1 := IH 1 H M (by rw [e]; decide) (gp_tm_ch ok so ht hk (j := 1) (by rw [e]; decide) (by omega)) (C0 1 (by rw [e]; decide) (by rw [e]; decide))
      have fl := hM1 _ _ (gs_FA s.2.1 s.2.2 (by omega))
      rw [gt_t11 ok ht e, s.1]
      refine gs_mono ?_ ?_ (gs_2 (h := H + gp_sz kd n (gp_ch kd n t 0) + gp_sz kd n (gp_ch kd n t 1)) (by rw [gt_mk_l (by decide)]; exact gs_mono (by omega) (Nat.le_refl _) f0) (by rw [gt_mk_r (by decide) (by decide)]; exact gs_mono (by omega) (Nat.le_refl _) f1))
      · omega
      · rw [Nat.mul_add, Nat.mul_add] at fl
        omega
    · have s := gp_sz_2 ok ht (by rw [e]; decide)
      have f0 := IH 0 H M (by rw [e]; decide) (gp_tm_ch ok so ht hk (j := 0) (by rw [e]; decide) (by omega)) (C0 0 (by rw [e]; decide) (gp_bd_0 _))
      have y := x1.1 e
      have fp := gs_Fn (a := gp_sz kd n (gp_ch kd n t 0)) (by omega)
      have f1 := IH 1 (H + gp_sz kd n (gp_ch kd n t 0)) (M * gs_F (gp_sz kd n (gp_ch kd n t 0))) (by rw [e]; decide) (gp_tm_ch ok so ht hk (j := 1) (by rw [e]; decide) (by omega))
        (gs_C_up ok ht (by rw [e]; decide) hc (by omega) (Nat.le_mul_of_pos_right M (by omega)) (fun w _ => by
          rw [e]
          by_cases z : w = 0
          · rw [z]; exact gs_l (show ¬ gt_k (gt_t kd ag n (gp_ch kd n t 0)) = 1 by rw [y]; decide) f0
          · show gs_fit _ _ (if w = 0 then gt_l _ else gt_r _)
            rw [if_neg z]; exact gs_r (show ¬ gt_k (gt_t kd ag n (gp_ch kd n t 0)) = 1 by rw [y]; decide) (show ¬ gt_k (gt_t kd ag n (gp_ch kd n t 0)) = 5 by rw [y]; decide) f0))
      have fl := hM1 _ _ (gs_FM s.2.1 s.2.2 (by omega))
      rw [gt_t12 ok ht e, s.1]
      refine gs_mono ?_ ?_ f1
      · omega
      · rw [Nat.mul_assoc]; exact fl
    · have s := gp_sz_2 ok ht (by rw [e]; decide)
      have f0 := IT 0 (by rw [e]; decide) (gp_ty_c0 ok so ht (by omega))
      have f1 := IH 1 H M (by rw [e]; decide) (gp_tm_ch ok so ht hk (j := 1) (by rw [e]; decide) (by omega)) (C0 1 (by rw [e]; decide) (by rw [e]; decide))
      have fl := hM1 _ _ (gs_FA s.2.1 s.2.2 (by omega))
      have fp := gs_Fn (a := gp_sz kd n (gp_ch kd n t 0)) (by omega)
      have fq := hMp (gs_F (gp_sz kd n (gp_ch kd n t 0)))
      rw [gt_t13 ok ht e, s.1]
      refine gs_mono ?_ ?_ (gs_2 (h := H + gp_sz kd n (gp_ch kd n t 0) + gp_sz kd n (gp_ch kd n t 1)) (by rw [gt_mk_l (by decide)]; exact gs_mono (by omega) (Nat.le_refl _) f1) (by rw [gt_mk_r (by decide) (by decide)]; exact gs_mono (by omega) (Nat.le_refl _) f0))
      · omega
      · rw [Nat.mul_add, Nat.mul_add] at fl
        omega
    · have s := gp_sz_2 ok ht (by rw [e]; decide)
      have f0 := IT 0 (by rw [e]; decide) (gp_ty_c0 ok so ht (by omega))
      have f1 := IH 1 H M (by rw [e]; decide) (gp_tm_ch ok so ht hk (j := 1) (by rw [e]; decide) (by omega)) (C0 1 (by rw [e]; decide) (by rw [e]; decide))
      have fl := hM1 _ _ (gs_FA s.2.1 s.2.2 (by omega))
      have fp := gs_Fn (a := gp_sz kd n (gp_ch kd n t 0)) (by omega)
      have fq := hMp (gs_F (gp_sz kd n (gp_ch kd n t 0)))
      rw [gt_t14 ok ht e, s.1]
      refine gs_mono ?_ ?_ (gs_2 (h := H + gp_sz kd n (gp_ch kd n t 0) + gp_sz kd n (gp_ch kd n t 1)) (by rw [gt_mk_l (by decide)]; exact gs_mono (by omega) (Nat.le_refl _) f0) (by rw [gt_mk_r (by decide) (by decide)]; exact gs_mono (by omega) (Nat.le_refl _) f1))
      · omega
      · rw [Nat.mul_add, Nat.mul_add] at fl
        omega
    · have s := gp_sz_3 ok ht (by rw [e]; decide)
      have f0 := IH 0 H M (by rw [e]; decide) (gp_tm_ch ok so ht hk (j := 0) (by rw [e]; decide) (by omega)) (C0 0 (by rw [e]; decide) (gp_bd_0 _))
      have y := x1.2.1 e
      have fp := gs_Fn (a := gp_sz kd n (gp_ch kd n t 0)) (by omega)
      have f1 := IH 1 (H + gp_sz kd n (gp_ch kd n t 0)) (M * gs_F (gp_sz kd n (gp_ch kd n t 0))) (by rw [e]; decide) (gp_tm_ch ok so ht hk (j := 1) (by rw [e]; decide) (by omega))
        (gs_C_up ok ht (by rw [e]; decide) hc (by omega) (Nat.le_mul_of_pos_right M (by omega)) (fun w _ => by
          rw [e]; exact gs_l (show ¬ gt_k (gt_t kd ag n (gp_ch kd n t 0)) = 1 by rw [y]; decide) f0))
      have fl := hM1 _ _ (gs_FM s.2.1 s.2.2.1 (by omega))
      have fm := hM1 _ _ (gs_Fm (a := gp_sz kd n (gp_ch kd n t 0) + gp_sz kd n (gp_ch kd n t 1) + 1) (b := gp_sz kd n t) (by omega) sl.1)
      rw [gt_t15 ok ht e]
      refine gs_mono ?_ ?_ f1
      · omega
      · rw [Nat.mul_assoc]; exact Nat.le_trans fl fm
    · have s := gp_sz_1 ok ht (by rw [e]; decide)
      have f0 := IH 0 H M (by rw [e]; decide) (gp_tm_ch ok so ht hk (j := 0) (by rw [e]; decide) (by omega)) (C0 0 (by rw [e]; decide) (gp_bd_0 _))
      have fl := hM1 _ _ (gs_F1 (a := gp_sz kd n (gp_ch kd n t 0)) (by omega))
      rw [gt_t16 ok ht e, s.1]
      refine gs_mono ?_ ?_ (gs_5 rfl (by rw [gt_mk_l (by decide)]; exact f0))
      · omega
      · rw [Nat.mul_add] at fl
        omega
    · have s := gp_sz_2 ok ht (by rw [e]; decide)
      have f0 := IH 0 H M (by rw [e]; decide) (gp_tm_ch ok so ht hk (j := 0) (by rw [e]; decide) (by omega)) (C0 0 (by rw [e]; decide) (gp_bd_0 _))
      have y := x1.2.2 e
      have fp := gs_Fn (a := gp_sz kd n (gp_ch kd n t 0)) (by omega)
      have f1 := IH 1 (H + gp_sz kd n (gp_ch kd n t 0)) (M * gs_F (gp_sz kd n (gp_ch kd n t 0))) (by rw [e]; decide) (gp_tm_ch ok so ht hk (j := 1) (by rw [e]; decide) (by omega))
        (gs_C_up ok ht (by rw [e]; decide) hc (by omega) (Nat.le_mul_of_pos_right M (by omega)) (fun w _ => by
          rw [e]; exact gs_l (show ¬ gt_k (gt_t kd ag n (gp_ch kd n t 0)) = 1 by rw [y]; decide) f0))
      have fl := hM1 _ _ (gs_FM s.2.1 s.2.2 (by omega))
      rw [gt_t17 ok ht e, s.1]
      refine gs_mono ?_ ?_ f1
      · omega
      · rw [Nat.mul_assoc]; exact fl
end
section
/-- the variables of t have types small enough for all that stands below t -/
def gs_K (kd : Nat → Nat) (ag : Nat → Int32) (n t : Nat) : Prop := ∃ H M, gs_C kd ag n t H M ∧ M * gs_F (gp_sz kd n t) ≤ gs_F 32 ∧ H + gp_sz kd n t ≤ 32
theorem gs_K_0 {kd : Nat → Nat} {ag : Nat → Int32} {n : Nat} (h : gp_ok kd n) : gs_K kd ag n 0 := by
  have s := gp_sz_le h h.1
  refine ⟨0, 1, ⟨Nat.le_refl _, fun v hv => ?_⟩, ?_, by omega⟩
  · rw [gp_sn_0] at hv; omega
  · rw [Nat.one_mul]; exact gs_Fm s.1 (Nat.le_refl _)
theorem gs_K_fit {kd : Nat → Nat} {ag : Nat → Int32} {n t : Nat} (h : gt_P kd ag n) (ht : t < n) (hk : ¬ kd t ≤ 5) (k : gs_K kd ag n t) (he : (gt_er kd ag n t).1 = 0) : gs_fit 32 (gs_F 32) (gt_t kd ag n t) := by
  obtain ⟨H, M, c, a, b⟩ := k
  exact gs_mono b a (gs_bd h _ t H M (Nat.lt_succ_self _) ht hk he c)
theorem gs_K_ty {kd : Nat → Nat} {ag : Nat → Int32} {n t : Nat} (h : gt_P kd ag n) (ht : t < n) (hk : kd t ≤ 5) : gs_fit 32 (gs_F 32) (gt_t kd ag n t) := by
  have s := gp_sz_le h.1 ht
  have f := gs_Fn s.1
  have g := gs_Fm s.1 (Nat.le_refl 32)
  exact gs_mono s.1 (by omega) (gs_ty h _ t (Nat.lt_succ_self _) ht hk)
theorem gs_K_ch {kd : Nat → Nat} {ag : Nat → Int32} {n t j : Nat} (h : gt_P kd ag n) (ht : t < n) (hk : ¬ kd t ≤ 5) (k : gs_K kd ag n t) (hj : j < gp_ar (kd t))
    (he : 0 < j → (gt_er kd ag n (gp_ch kd n t 0)).1 = 0 ∧ gt_e1 kd ag n t = 0) : gs_K kd ag n (gp_ch kd n t j) := by
  have hP := h
  obtain ⟨ok, so, kr, -⟩ := h
  obtain ⟨H, M, c, hF, hH⟩ := k
  have k17 := (kr t ht).2
  have hM := c.1
  have sl := gp_sz_le ok ht
  have h3 := gp_ar_le (kd t)
  have hM1 : ∀ x y : Nat, x ≤ y → M * x ≤ M * y := fun x y z => Nat.mul_le_mul_left M z
  have hMp : ∀ x : Nat, x ≤ M * x := fun x => Nat.le_mul_of_pos_left x hM
  have szj : gp_sz kd n (gp_ch kd n t j) ≤ gp_sz kd n t ∧ (0 < j → gp_sz kd n (gp_ch kd n t 0) + gp_sz kd n (gp_ch kd n t j) + 1 ≤ gp_sz kd n t ∧ 1 ≤ gp_sz kd n (gp_ch kd n t 0) ∧ 1 ≤ gp_sz kd n (gp_ch kd n t j)) := by
    have : gp_ar (kd t) = 1 ∨ gp_ar (kd t) = 2 ∨ gp_ar (kd t) = 3 := by omega
    rcases this with a | a | a
    · have s := gp_sz_1 ok ht a
      have : j = 0 := by omega
      subst this
      exact ⟨by omega, fun z => by omega⟩
    · have s := gp_sz_2 ok ht a
      have : j = 0 ∨ j = 1 := by omega
      rcases this with rfl | rfl
      · exact ⟨by omega, fun z => by omega⟩
      · exact ⟨by omega, fun z => by omega⟩
    · have s := gp_sz_3 ok ht a
      have : j = 0 ∨ j = 1 ∨ j = 2 := by omega
      rcases this with rfl | rfl | rfl
      · exact ⟨by omega, fun z => by omega⟩
      · exact ⟨by omega, fun z => by omega⟩
      · exact ⟨by omega, fun z => by omega⟩
  by_cases hb : gp_bd (kd t) j = 0
  · refine ⟨H, M, gs_C_up ok ht hj c (Nat.le_refl _) (Nat.le_refl _) (fun w hw => by omega), Nat.le_trans (hM1 _ _ (gs_Fm szj.1 sl.1)) hF, by omega⟩
  · have j0 : 0 < j := by
      rcases Nat.eq_zero_or_pos j with z | z
      · rw [z, gp_bd_0] at hb; exact absurd rfl hb
      · exact z
    have kb : kd t = 9 ∨ kd t = 12 ∨ kd t = 15 ∨ kd t = 17 := by
      unfold gp_bd at hb
      rw [if_neg (by omega)] at hb
      by_cases z : kd t = 12
      · exact Or.inr (Or.inl z)
      · rw [if_neg z] at hb
        by_cases y : kd t = 9 ∨ kd t = 15 ∨ kd t = 17
        · omega
        · rw [if_neg y] at hb; exact absurd rfl hb
    obtain ⟨er0, e1⟩ := he j0
    have x1 := gt_e1_0 e1
    obtain ⟨s1, s2, s3⟩ := szj.2 j0
    have ar2 : 1 < gp_ar (kd t) := by omega
    have c0n := (gp_ch_lt ok ht (j := 0) (by omega)).1
    by_cases k9 : kd t = 9
    · have f0 := gs_ty hP _ _ (Nat.lt_succ_self _) c0n (gp_ty_c0 ok so ht (Or.inl k9))
      have p := hMp (gp_sz kd n (gp_ch kd n t 0))
      refine ⟨H + gp_sz kd n (gp_ch kd n t 0), M * gp_sz kd n (gp_ch kd n t 0), gs_C_up ok ht hj c (by omega) (Nat.le_mul_of_pos_right M (by omega)) (fun w _ => by
          rw [k9]; exact gs_mono (by omega) p f0), ?_, by omega⟩
      have fl := hM1 _ _ (gs_FL s2 s3 (by omega))
      have fm := hM1 _ _ (gs_Fm s1 sl.1)
      generalize gp_sz kd n (gp_ch kd n t 0) = a at *
      generalize gp_sz kd n (gp_ch kd n t j) = b at *
      have q : M * (1 + a + gs_F b * a) = M + M * a + M * a * gs_F b := by grind
      omega
    · have c6 := gp_tm_ch ok so ht hk (j := 0) (by omega) (by omega)
      have C0 : gs_C kd ag n (gp_ch kd n t 0) H M := gs_C_up ok ht (by omega) c (Nat.le_refl _) (Nat.le_refl _) (fun w hw => by rw [gp_bd_0] at hw; omega)
      have f0 := gs_bd hP _ _ H M (Nat.lt_succ_self _) c0n c6 er0 C0
      have fp := gs_Fn (a := gp_sz kd n (gp_ch kd n t 0)) (by omega)
      have fl := hM1 _ _ (gs_FM s2 s3 (by omega))
      have fm := hM1 _ _ (gs_Fm s1 sl.1)
      have nk1 : ¬ gt_k (gt_t kd ag n (gp_ch kd n t 0)) = 1 := by
        rcases kb with e | e | e | e
        · exact absurd e k9
        · rw [x1.1 e]; decide
        · rw [x1.2.1 e]; decide
        · rw [x1.2.2 e]; decide
      have fL := gs_l nk1 f0
      refine ⟨H + gp_sz kd n (gp_ch kd n t 0), M * gs_F (gp_sz kd n (gp_ch kd n t 0)), gs_C_up ok ht hj c (by omega) (Nat.le_mul_of_pos_right M (by omega)) (fun w _ => ?_), ?_, by omega⟩
      · rcases kb with e | e | e | e
        · exact absurd e k9
        · have fR := gs_r nk1 (by rw [x1.1 e]; decide) f0
          rw [e]
          show gs_fit _ _ (if w = 0 then gt_l _ else gt_r _)
          by_cases z : w = 0
          · rw [if_pos z]; exact fL
          · rw [if_neg z]; exact fR
        · have fR := gs_r nk1 (by rw [x1.2.1 e]; decide) f0
          rw [e]
          show gs_fit _ _ (if j = 1 then gt_l _ else gt_r _)
          by_cases z : j = 1
          · rw [if_pos z]; exact fL
          · rw [if_neg z]; exact fR
        · rw [e]; exact fL
      · rw [Nat.mul_assoc]
        exact Nat.le_trans fl (Nat.le_trans fm hF)
/-! usages and grades are ZERO, ONE or MANY -/
theorem gt_u_le {kd : Nat → Nat} {ag : Nat → Int32} {n : Nat} (h : gt_P kd ag n) (v : Nat) : ∀ m d, n - d < m → d < n → ¬ kd d ≤ 5 → gt_u kd ag n d v ≤ 2
  | 0, _, z, _, _ => by omega
  | m + 1, d, hm, hd, hk => by
    have hP := h
    obtain ⟨ok, so, kr, -⟩ := h
    have k17 := (kr d hd).2
    have IH : 1 < gp_ar (kd d) → gt_u kd ag n (gp_ch kd n d 1) v ≤ 2 := by
      intro hj
      have a := (gp_ch_lt ok hd hj).1
      have b := gp_ch_ge ok hd (Nat.le_of_lt hj)
      exact gt_u_le hP v m _ (by omega) a (gp_tm_ch ok so hd hk hj (by omega))
    have hcase : kd d = 6 ∨ kd d = 7 ∨ kd d = 8 ∨ kd d = 9 ∨ kd d = 10 ∨ kd d = 11 ∨ kd d = 12 ∨ kd d = 13 ∨ kd d = 14 ∨ kd d = 15 ∨ kd d = 16 ∨ kd d = 17 := by omega
    unfold gt_u
    rcases hcase with e | e | e | e | e | e | e | e | e | e | e | e
    · rw [gt_q6 ok hd e (gt_P_lv hP hd e)]
      show (if v = _ then 1 else 0) ≤ 2
      split <;> omega
    · rw [gt_q7 ok hd e]; exact Nat.zero_le _
    · rw [gt_q8 ok hd e]; exact gt_add_le _ _
    · rw [gt_q9 ok hd e]; exact IH (by rw [e]; decide)
    · rw [gt_q10 ok hd e]; exact gt_add_le _ _
    · rw [gt_q11 ok hd e]; exact gt_add_le _ _
    · rw [gt_q12 ok hd e]; exact gt_add_le _ _
    · rw [gt_q13 ok hd e]; exact IH (by rw [e]; decide)
    · rw [gt_q14 ok hd e]; exact IH (by rw [e]; decide)
    · rw [gt_q15 ok hd e]; exact gt_add_le _ _
    · rw [gt_q16 ok hd e]; exact gt_mul_le _ _
    · rw [gt_q17 ok hd e]; exact gt_add_le _ _
/-- every label of a type is a kind and a grade -/
def gt_wf (τ : gt_Ty) : Prop := ∀ p k g, τ p = some (k, g) → (∃ i, 1 ≤ i ∧ i ≤ 5 ∧ k = nI i) ∧ ∃ m, m ≤ 2 ∧ g = nI m
theorem gt_wf_l {τ : gt_Ty} (h : gt_wf τ) : gt_wf (gt_l τ) := fun p => h (false :: p)
theorem gt_wf_r {τ : gt_Ty} (h : gt_wf τ) : gt_wf (gt_r τ) := fun p => h (true :: p)
theorem gt_wf_n : gt_wf (fun _ => none) := fun _ _ _ e => nomatch e
theorem gt_wf_mk {i m : Nat} {l r : gt_Ty} (h1 : 1 ≤ i) (h5 : i ≤ 5) (hm : m ≤ 2) (hl : gt_wf l) (hr : gt_wf r) : gt_wf (gt_mk (nI i) (nI m) l r) := by
  intro p k g e
  match p with
  | [] =>
    have := Option.some.inj e
    exact ⟨⟨i, h1, h5, (congrArg Prod.fst this).symm⟩, ⟨m, hm, (congrArg Prod.snd this).symm⟩⟩
  | false :: p =>
    have e' : (if nI i = 1 then none else l p) = some (k, g) := e
    by_cases z : nI i = 1
    · rw [if_pos z] at e'; exact nomatch e'
    · rw [if_neg z] at e'; exact hl p k g e'
  | true :: p =>
    have e' : (if nI i = 1 then none else if nI i = 5 then none else r p) = some (k, g) := e
    by_cases z : nI i = 1
    · rw [if_pos z] at e'; exact nomatch e'
    · rw [if_neg z] at e'
      by_cases y : nI i = 5
      · rw [if_pos y] at e'; exact nomatch e'
      · rw [if_neg y] at e'; exact hr p k g e'
theorem gt_wf_nv {k j w : Nat} {τ : gt_Ty} (h : gt_wf τ) : gt_wf (gt_nv k j w τ) := by
  unfold gt_nv
  split
  · exact h
  · split
    · split
      · exact gt_wf_l h
      · exact gt_wf_r h
    · split
      · split
        · exact gt_wf_l h
        · exact gt_wf_r h
      · exact gt_wf_l h
theorem gt_wf_g {τ : gt_Ty} (h : gt_wf τ) : ∃ m, m ≤ 2 ∧ gt_g τ = nI m := by
  unfold gt_g
  cases e : τ [] with
  | none => exact ⟨0, by omega, rfl⟩
  | some x =>
    obtain ⟨k, g⟩ := x
    exact (h [] k g e).2
theorem gt_t_wf {kd : Nat → Nat} {ag : Nat → Int32} {n : Nat} (h : gt_P kd ag n) : ∀ m d, gt_mu kd n d < m → d < n → gt_wf (gt_t kd ag n d)
  | 0, _, z, _ => by omega
  | m + 1, d, hm, hd => by
    have hP := h
    obtain ⟨ok, so, kr, sc, a2, a3, a0⟩ := h
    have k1 := (kr d hd).1
    have k17 := (kr d hd).2
    have IH : ∀ j, j < gp_ar (kd d) → gt_wf (gt_t kd ag n (gp_ch kd n d j)) := by
      intro j hj
      have a := (gp_ch_lt ok hd hj).1
      have b := gt_mu_ch ok hd hj
      exact gt_t_wf hP m _ (by omega) a
    have hcase : (kd d = 1 ∨ kd d = 2 ∨ kd d = 3 ∨ kd d = 4 ∨ kd d = 5) ∨ kd d = 6 ∨ kd d = 7 ∨ kd d = 8 ∨ kd d = 9 ∨ kd d = 10 ∨ kd d = 11 ∨ kd d = 12 ∨ kd d = 13 ∨ kd d = 14 ∨ kd d = 15 ∨ kd d = 16 ∨ kd d = 17 := by omega
    rcases hcase with (e | e | e | e | e) | e | e | e | e | e | e | e | e | e | e | e | e
    · rw [gt_q1 e (fun _ => none) (fun _ => none), a0 d hd (by omega)]
      exact gt_wf_mk (i := 1) (m := 0) (by omega) (by omega) (by omega) gt_wf_n gt_wf_n
    · rw [gt_q2 ok hd e, a0 d hd (by omega)]
      exact gt_wf_mk (i := 2) (m := 0) (by omega) (by omega) (by omega) (IH 0 (by rw [e]; decide)) (IH 1 (by rw [e]; decide))
    · rw [gt_q3 ok hd e, a0 d hd (by omega)]
      exact gt_wf_mk (i := 3) (m := 0) (by omega) (by omega) (by omega) (IH 0 (by rw [e]; decide)) (IH 1 (by rw [e]; decide))
    · obtain ⟨g, hg, eg⟩ := a2 d hd (by omega)
      rw [gt_q4 ok hd e, eg]
      exact gt_wf_mk (i := 4) (by omega) (by omega) hg (IH 0 (by rw [e]; decide)) (IH 1 (by rw [e]; decide))
    · obtain ⟨g, hg, eg⟩ := a2 d hd (by omega)
      rw [gt_q5 ok hd e (fun _ => none), eg]
      exact gt_wf_mk (i := 5) (by omega) (by omega) hg (IH 0 (by rw [e]; decide)) gt_wf_n
    · have hv := gt_P_lv hP hd e
      have b := gt_mu_lc ok hd hv
      have l := gp_lc_sp ok hd hv
      rw [gt_t6 ok hd e hv]
      exact gt_wf_nv (gt_t_wf hP m _ (by omega) (gp_ch_lt ok (by omega) (by omega)).1)
    · rw [gt_t7 ok hd e]
      exact gt_wf_mk (i := 1) (m := 0) (by omega) (by omega) (by omega) gt_wf_n gt_wf_n
    · rw [gt_t8 ok hd e]
      exact IH 0 (by rw [e]; decide)
    · have ar : 1 < gp_ar (kd d) := by rw [e]; decide
      have ul := gt_u_le hP (gp_sn kd d) _ _ (Nat.lt_succ_self _) (gp_ch_lt ok hd ar).1 (gp_tm_ch ok so hd (by omega) ar (by omega))
      rw [gt_t9 ok hd e]
      exact gt_wf_mk (i := 4) (by omega) (by omega) (gt_se_le (a3 d hd (by omega)) ul) (IH 0 (by rw [e]; decide)) (IH 1 (by rw [e]; decide))
    · rw [gt_t10 ok hd e]
      exact gt_wf_r (IH 0 (by rw [e]; decide))
    · rw [gt_t11 ok hd e]
      exact gt_wf_mk (i := 2) (m := 0) (by omega) (by omega) (by omega) (IH 0 (by rw [e]; decide)) (IH 1 (by rw [e]; decide))
    · rw [gt_t12 ok hd e]
      exact IH 1 (by rw [e]; decide)
    · rw [gt_t13 ok hd e]
      exact gt_wf_mk (i := 3) (m := 0) (by omega) (by omega) (by omega) (IH 1 (by rw [e]; decide)) (IH 0 (by rw [e]; decide))
    · rw [gt_t14 ok hd e]
      exact gt_wf_mk (i := 3) (m := 0) (by omega) (by omega) (by omega) (IH 0 (by rw [e]; decide)) (IH 1 (by rw [e]; decide))
    · rw [gt_t15 ok hd e]
      exact IH 1 (by rw [e]; decide)
    · obtain ⟨g, hg, eg⟩ := a2 d hd (by omega)
      rw [gt_t16 ok hd e, eg]
      exact gt_wf_mk (i := 5) (by omega) (by omega) hg (IH 0 (by rw [e]; decide)) gt_wf_n
    · rw [gt_t17 ok hd e]
      exact IH 1 (by rw [e]; decide)
theorem gt_twf {kd : Nat → Nat} {ag : Nat → Int32} {n d : Nat} (h : gt_P kd ag n) (hd : d < n) : gt_wf (gt_t kd ag n d) := gt_t_wf h _ d (Nat.lt_succ_self _) hd
theorem gt_ule {kd : Nat → Nat} {ag : Nat → Int32} {n d : Nat} (h : gt_P kd ag n) (hd : d < n) (hk : ¬ kd d ≤ 5) (v : Nat) : gt_u kd ag n d v ≤ 2 := gt_u_le h v _ d (Nat.lt_succ_self _) hd hk
end
section
/-! the machine, purely: environments are records' numbers (0: empty), frames a list -/
def gm_nth (rs : Nat → Nat) (e : Nat) : Nat → Nat
  | 0 => e
  | i + 1 => rs (gm_nth rs e i)
theorem gm_nth_s (rs : Nat → Nat) (e : Nat) : ∀ i, gm_nth rs e (i + 1) = gm_nth rs (rs e) i
  | 0 => rfl
  | i + 1 => by
    show rs (gm_nth rs e (i + 1)) = rs (gm_nth rs (rs e) i)
    rw [gm_nth_s rs e i]
def gm_up (f : Nat → Nat) (k x : Nat) : Nat → Nat := fun j => if j = k then x else f j
theorem gm_up_s {f : Nat → Nat} {k x : Nat} : gm_up f k x k = x := if_pos rfl
theorem gm_up_n {f : Nat → Nat} {k x j : Nat} (h : j ≠ k) : gm_up f k x j = f j := if_neg h
/-- environment e has m elements whose thunks have the types L (by level) -/
def gm_EL (ty : Nat → gt_Ty) (tn rs : Nat → Nat) (rc e : Nat) (L : Nat → gt_Ty) (m : Nat) : Prop :=
  ∀ i, i < m → 1 ≤ gm_nth rs e i ∧ gm_nth rs e i ≤ rc ∧ ty (tn (gm_nth rs e i)) = L (m - 1 - i)
theorem gm_EL_x {ty : Nat → gt_Ty} {tn rs tn' rs' : Nat → Nat} {rc rc' e : Nat} {L : Nat → gt_Ty} {m : Nat} (h : gm_EL ty tn rs rc e L m) (hl : rc ≤ rc') (ha : ∀ r, 1 ≤ r → r ≤ rc → tn' r = tn r ∧ rs' r = rs r) : gm_EL ty tn' rs' rc' e L m := by
  have key : ∀ i, i < m → gm_nth rs' e i = gm_nth rs e i := by
    intro i
    induction i with
    | zero => intro _; rfl
    | succ i ih =>
      intro hi
      obtain ⟨a, b, _⟩ := h i (by omega)
      show rs' (gm_nth rs' e i) = rs (gm_nth rs e i)
      rw [ih (by omega)]
      exact (ha _ a b).2
  intro i hi
  obtain ⟨a, b, c⟩ := h i hi
  rw [key i hi, (ha _ a b).1]
  exact ⟨a, by omega, c⟩
theorem gm_EL_p {ty : Nat → gt_Ty} {tn rs : Nat → Nat} {rc e d : Nat} {L L' : Nat → gt_Ty} {m : Nat} (h : gm_EL ty tn rs rc e L m) (hL : ∀ v, v < m → L' v = L v) (hd : ty d = L' m) :
    gm_EL ty (gm_up tn (rc + 1) d) (gm_up rs (rc + 1) e) (rc + 1) (rc + 1) L' (m + 1) := by
  have h' := gm_EL_x (tn' := gm_up tn (rc + 1) d) (rs' := gm_up rs (rc + 1) e) (rc' := rc + 1) h (by omega) (fun r _ hr => ⟨gm_up_n (by omega), gm_up_n (by omega)⟩)
  intro i hi
  cases i with
  | zero =>
    refine ⟨by show 1 ≤ rc + 1; omega, by show rc + 1 ≤ rc + 1; omega, ?_⟩
    show ty (gm_up tn (rc + 1) d (rc + 1)) = _
    rw [gm_up_s, hd]
    rfl
  | succ i =>
    obtain ⟨a, b, c⟩ := h' i (by omega)
    rw [gm_nth_s, gm_up_s]
    refine ⟨a, b, ?_⟩
    rw [c, show m + 1 - 1 - (i + 1) = m - 1 - i by omega]
    exact (hL _ (by omega)).symm
/-- alike, or both Int -/
def gm_q (σ τ : gt_Ty) : Prop := gt_k σ = gt_k τ ∧ (¬ gt_k σ = 1 → σ = τ)
abbrev gm_Fr : Type := List (Nat × Int32 × Nat)
section
variable (kd : Nat → Nat) (ag : Nat → Int32) (n : Nat)
noncomputable def gm_E (tn rs : Nat → Nat) (rc e t : Nat) : Prop := gm_EL (gt_t kd ag n) tn rs rc e (gt_G kd ag n t) (gp_sn kd t)
def gm_go (k : Nat) : Prop := k = 8 ∨ k = 10 ∨ k = 12 ∨ k = 15 ∨ k = 17
def gm_vl (k : Nat) : Prop := k = 7 ∨ k = 9 ∨ k = 11 ∨ k = 13 ∨ k = 14 ∨ k = 16
/-- the frames take a value of type τ -/
noncomputable def gm_fr (tn rs : Nat → Nat) (rc : Nat) : gt_Ty → gm_Fr → Prop
  | _, [] => True
  | τ, (m, w, e) :: R => (m = 0 ∧ e = 0 ∧ gt_k τ = 1 ∧ ∃ σ, gt_k σ = 1 ∧ gm_fr tn rs rc σ R) ∨
    (gm_go m ∧ ∃ d, d < n ∧ w = nI d ∧ kd d = m ∧ τ = gt_t kd ag n (gp_ch kd n d 0) ∧ e ≤ rc ∧ gm_E kd ag n tn rs rc e d ∧ ∃ σ, gm_q σ (gt_t kd ag n d) ∧ gm_fr tn rs rc σ R)
noncomputable def gm_R (tn te rs : Nat → Nat) (rc : Nat) : Prop := ∀ r, 1 ≤ r → r ≤ rc → tn r < n ∧ ¬ kd (tn r) ≤ 5 ∧ te r ≤ rc ∧ rs r ≤ rc ∧ gm_E kd ag n tn rs rc (te r) (tn r)
noncomputable def gm_I (tn te rs : Nat → Nat) (rc t e : Nat) (F : gm_Fr) : Prop := t < n ∧ ¬ kd t ≤ 5 ∧ e ≤ rc ∧ gm_E kd ag n tn rs rc e t ∧
  (∃ σ, gm_q σ (gt_t kd ag n t) ∧ gm_fr kd ag n tn rs rc σ F) ∧ gm_R kd ag n tn te rs rc
/-- no error anywhere -/
def gm_A : Prop := gt_P kd ag n ∧ ∀ d, d < n → ¬ kd d ≤ 5 → gt_e1 kd ag n d = 0 ∧ gt_e2 kd ag n d = 0
end
theorem gm_A_of {kd : Nat → Nat} {ag : Nat → Int32} {n : Nat} (h : gt_P kd ag n) (e : (gt_er kd ag n 0).1 = 0) : gm_A kd ag n := by
  have hP := h
  obtain ⟨ok, so, kr, -⟩ := h
  have key : ∀ m d, d < m → d < n → ¬ kd d ≤ 5 → (gt_er kd ag n d).1 = 0 := by
    intro m
    induction m with
    | zero => intro d z; omega
    | succ m ih =>
      intro d hm hd hk
      rcases Nat.eq_zero_or_pos d with z | z
      · subst z; exact e
      · obtain ⟨p1, p2⟩ := gp_pl_in ok hd z
        have c := gp_ch_of ok hd z
        have hp : ¬ kd (gp_pl kd d / 3) ≤ 5 := by
          intro y
          have := gp_ty_ch ok so (by omega) y p2
          rw [← c] at this
          exact hk this
        have := (gt_er_ok ok (by omega) hp (ih _ (by omega) (by omega) hp)).1 _ p2
        rw [← c] at this
        exact this
  exact ⟨hP, fun d hd hk => (gt_er_ok ok hd hk (key _ d (Nat.lt_succ_self _) hd hk)).2⟩
section
variable {kd : Nat → Nat} {ag : Nat → Int32} {n : Nat} {tn te rs : Nat → Nat} {rc t e : Nat} {F : gm_Fr}
theorem gm_fr_x {tn' rs' : Nat → Nat} {rc' : Nat} (hl : rc ≤ rc') (ha : ∀ r, 1 ≤ r → r ≤ rc → tn' r = tn r ∧ rs' r = rs r) : ∀ {F : gm_Fr} {τ : gt_Ty}, gm_fr kd ag n tn rs rc τ F → gm_fr kd ag n tn' rs' rc' τ F
  | [], _, _ => trivial
  | (m, w, e) :: R, τ, h => by
    rcases h with ⟨h1, h2, h3, σ, h4, h5⟩ | ⟨h1, d, h2, h3, h4, h5, h6, h7, σ, h8, h9⟩
    · exact Or.inl ⟨h1, h2, h3, σ, h4, gm_fr_x hl ha h5⟩
    · exact Or.inr ⟨h1, d, h2, h3, h4, h5, by omega, gm_EL_x h7 hl ha, σ, h8, gm_fr_x hl ha h9⟩
theorem gm_R_p {d e' r' : Nat} (h : gm_R kd ag n tn te rs rc) (hd : d < n) (hk : ¬ kd d ≤ 5) (he : e' ≤ rc) (hr : r' ≤ rc) (hE : gm_E kd ag n tn rs rc e' d) :
    gm_R kd ag n (gm_up tn (rc + 1) d) (gm_up te (rc + 1) e') (gm_up rs (rc + 1) r') (rc + 1) := by
  have ha : ∀ r, 1 ≤ r → r ≤ rc → gm_up tn (rc + 1) d r = tn r ∧ gm_up rs (rc + 1) r' r = rs r := fun r _ hr => ⟨gm_up_n (by omega), gm_up_n (by omega)⟩
  intro r h1 h2
  rcases Nat.lt_or_ge rc r with z | z
  · have : r = rc + 1 := by omega
    subst this
    rw [gm_up_s, gm_up_s, gm_up_s]
    exact ⟨hd, hk, by omega, by omega, gm_EL_x hE (by omega) ha⟩
  · obtain ⟨a, b, c, g, i⟩ := h r h1 z
    rw [gm_up_n (show r ≠ rc + 1 by omega), gm_up_n (show r ≠ rc + 1 by omega), gm_up_n (show r ≠ rc + 1 by omega)]
    exact ⟨a, b, by omega, by omega, gm_EL_x i (by omega) ha⟩
theorem gm_can (A : gm_A kd ag n) (ht : t < n) (hv : gm_vl (kd t)) : (kd t = 7 ∧ gt_k (gt_t kd ag n t) = 1) ∨ (kd t = 9 ∧ gt_k (gt_t kd ag n t) = 4) ∨ (kd t = 11 ∧ gt_k (gt_t kd ag n t) = 2) ∨ ((kd t = 13 ∨ kd t = 14) ∧ gt_k (gt_t kd ag n t) = 3) ∨ (kd t = 16 ∧ gt_k (gt_t kd ag n t) = 5) := by
  have ok := A.1.1
  rcases hv with e | e | e | e | e | e
  · exact Or.inl ⟨e, by rw [gt_t7 ok ht e]; rfl⟩
  · exact Or.inr (Or.inl ⟨e, by rw [gt_t9 ok ht e]; rfl⟩)
  · exact Or.inr (Or.inr (Or.inl ⟨e, by rw [gt_t11 ok ht e]; rfl⟩))
  · exact Or.inr (Or.inr (Or.inr (Or.inl ⟨Or.inl e, by rw [gt_t13 ok ht e]; rfl⟩)))
  · exact Or.inr (Or.inr (Or.inr (Or.inl ⟨Or.inr e, by rw [gt_t14 ok ht e]; rfl⟩)))
  · exact Or.inr (Or.inr (Or.inr (Or.inr ⟨e, by rw [gt_t16 ok ht e]; rfl⟩)))
/-- a node's environment serves a child that binds nothing -/
theorem gm_E_c0 {j : Nat} (ok : gp_ok kd n) (ht : t < n) (hj : j < gp_ar (kd t)) (hb : gp_bd (kd t) j = 0) (h : gm_E kd ag n tn rs rc e t) : gm_E kd ag n tn rs rc e (gp_ch kd n t j) := by
  intro i hi
  rw [gp_sn_ch ok ht hj, hb] at hi ⊢
  obtain ⟨a, b, c⟩ := h i hi
  refine ⟨a, b, ?_⟩
  rw [gt_G_up ok ht hj (by omega)]
  exact c
theorem gm_E_c1 {j d : Nat} (ok : gp_ok kd n) (ht : t < n) (hj : j < gp_ar (kd t)) (hb : gp_bd (kd t) j = 1) (h : gm_E kd ag n tn rs rc e t)
    (hd : gt_t kd ag n d = gt_nv (kd t) j 0 (gt_t kd ag n (gp_ch kd n t 0))) : gm_E kd ag n (gm_up tn (rc + 1) d) (gm_up rs (rc + 1) e) (rc + 1) (rc + 1) (gp_ch kd n t j) := by
  unfold gm_E
  rw [gp_sn_ch ok ht hj, hb]
  refine gm_EL_p h (fun v hv => gt_G_up ok ht hj hv) ?_
  rw [gt_G_new ok ht hj (Nat.le_refl _), Nat.sub_self]
  exact hd
theorem gm_E_c2 {j d d' : Nat} (ok : gp_ok kd n) (ht : t < n) (hj : j < gp_ar (kd t)) (hb : gp_bd (kd t) j = 2) (h : gm_E kd ag n tn rs rc e t)
    (hd : gt_t kd ag n d = gt_nv (kd t) j 0 (gt_t kd ag n (gp_ch kd n t 0))) (hd' : gt_t kd ag n d' = gt_nv (kd t) j 1 (gt_t kd ag n (gp_ch kd n t 0))) :
    gm_E kd ag n (gm_up (gm_up tn (rc + 1) d) (rc + 1 + 1) d') (gm_up (gm_up rs (rc + 1) e) (rc + 1 + 1) (rc + 1)) (rc + 1 + 1) (rc + 1 + 1) (gp_ch kd n t j) := by
  unfold gm_E
  rw [gp_sn_ch ok ht hj, hb]
  refine gm_EL_p (L := gt_G kd ag n (gp_ch kd n t j)) (m := gp_sn kd t + 1) (gm_EL_p h (fun v hv => gt_G_up ok ht hj hv) ?_) (fun _ _ => rfl) ?_
  · rw [gt_G_new ok ht hj (Nat.le_refl _), Nat.sub_self]
    exact hd
  · rw [gt_G_new ok ht hj (by omega), show gp_sn kd t + 1 - gp_sn kd t = 1 by omega]
    exact hd'
/-! the steps -/
theorem gm_s_var {i : Nat} (A : gm_A kd ag n) (I : gm_I kd ag n tn te rs rc t e F) (hk : kd t = 6) (hi : ag t = nI i) (hl : i < gp_sn kd t) :
    1 ≤ gm_nth rs e i ∧ gm_nth rs e i ≤ rc ∧ gm_I kd ag n tn te rs rc (tn (gm_nth rs e i)) (te (gm_nth rs e i)) F := by
  obtain ⟨ht, h5, he, hE, ⟨σ, f1, f2⟩, hR⟩ := I
  have ok := A.1.1
  obtain ⟨a, b, c⟩ := hE i hl
  have hs := gp_sn_lt ok ht
  have hn := ok.2.1
  have lv : gt_lv kd ag t = gp_sn kd t - 1 - i := by unfold gt_lv; rw [hi, nI_clamp (by omega)]
  have ty : gt_t kd ag n t = gt_G kd ag n t (gp_sn kd t - 1 - i) := by
    rw [gt_t6 ok ht hk (gt_P_lv A.1 ht hk), lv]
  obtain ⟨r1, r2, r3, r4, r5⟩ := hR _ a b
  refine ⟨a, b, r1, r2, r3, r5, ⟨σ, ?_, f2⟩, hR⟩
  rw [c, ← ty]
  exact f1
theorem gm_q_r (τ : gt_Ty) : gm_q τ τ := ⟨rfl, fun _ => rfl⟩
theorem gm_go_ar {k : Nat} (h : gm_go k) : 2 ≤ gp_ar k ∧ ¬ k ≤ 5 ∧ ¬ (k = 9 ∨ k = 13 ∨ k = 14) := by
  rcases h with e | e | e | e | e <;> subst e <;> decide
theorem gm_s_go (A : gm_A kd ag n) (I : gm_I kd ag n tn te rs rc t e F) (hk : gm_go (kd t)) : gm_I kd ag n tn te rs rc (gp_ch kd n t 0) e ((kd t, nI t, e) :: F) := by
  obtain ⟨ht, h5, he, hE, ⟨σ, f1, f2⟩, hR⟩ := I
  have ok := A.1.1
  obtain ⟨g1, g2, g3⟩ := gm_go_ar hk
  have c := (gp_ch_lt ok ht (j := 0) (by omega)).1
  exact ⟨c, gp_tm_ch ok A.1.2.1 ht h5 (by omega) (fun z => g3 z.1), he, gm_E_c0 ok ht (by omega) (gp_bd_0 _) hE, ⟨_, gm_q_r _, Or.inr ⟨hk, t, ht, rfl, rfl, rfl, he, hE, σ, f1, f2⟩⟩, hR⟩
/-- what a frame that waits with a node says: (d is that node) -/
theorem gm_fr_d {m e' : Nat} {w : Int32} {R : gm_Fr} (A : gm_A kd ag n) (I : gm_I kd ag n tn te rs rc t e ((m, w, e') :: R)) (hv : gm_vl (kd t)) (hm : ¬ m = 0) :
    gm_go m ∧ ∃ d, d < n ∧ w = nI d ∧ kd d = m ∧ e' ≤ rc ∧ gm_E kd ag n tn rs rc e' d ∧ gm_q (gt_t kd ag n (gp_ch kd n d 0)) (gt_t kd ag n t) ∧ ∃ σ, gm_q σ (gt_t kd ag n d) ∧ gm_fr kd ag n tn rs rc σ R := by
  obtain ⟨ht, h5, he, hE, ⟨σ, f1, f2⟩, hR⟩ := I
  rcases f2 with ⟨z, _⟩ | ⟨h1, d, h2, h3, h4, h5, h6, h7, σ', h8, h9⟩
  · exact absurd z hm
  · subst h5
    exact ⟨h1, d, h2, h3, h4, h6, h7, f1, σ', h8, h9⟩
theorem gm_s_add0 {e' : Nat} {w : Int32} {R : gm_Fr} (A : gm_A kd ag n) (I : gm_I kd ag n tn te rs rc t e ((0, w, e') :: R)) (hv : gm_vl (kd t)) : kd t = 7 ∧ e' = 0 ∧ gm_I kd ag n tn te rs rc t e R := by
  obtain ⟨ht, h5, he, hE, ⟨σ, f1, f2⟩, hR⟩ := I
  rcases f2 with ⟨h1, h2, h3, σ', h4, h6⟩ | ⟨z, _⟩
  · have k1 : gt_k (gt_t kd ag n t) = 1 := by rw [← f1.1]; exact h3
    refine ⟨?_, h2, ht, h5, he, hE, ⟨σ', ⟨by rw [h4, k1], fun z => absurd h4 z⟩, h6⟩, hR⟩
    rcases gm_can A ht hv with z | z | z | z | z
    · exact z.1
    · rw [z.2] at k1; exact absurd k1 (by decide)
    · rw [z.2] at k1; exact absurd k1 (by decide)
    · rw [z.2] at k1; exact absurd k1 (by decide)
    · rw [z.2] at k1; exact absurd k1 (by decide)
  · rcases z with z | z | z | z | z <;> exact absurd z (by decide)
theorem gm_s_add {d e' : Nat} {w : Int32} {R : gm_Fr} (A : gm_A kd ag n) (I : gm_I kd ag n tn te rs rc t e ((8, nI d, e') :: R)) (hd : d < n) (hv : gm_vl (kd t)) : kd t = 7 ∧ kd d = 8 ∧ e' ≤ rc ∧ gm_I kd ag n tn te rs rc (gp_ch kd n d 1) e' ((0, w, 0) :: R) := by
  have ok := A.1.1
  obtain ⟨_, d', h2, h3, h4, h6, h7, q, σ, s1, s2⟩ := gm_fr_d A I hv (by decide)
  have hn := ok.2.1
  have : d = d' := (nI_eq (by omega) (by omega)).mp h3
  subst this
  have x := (gt_e2_0 (A.2 d hd (by omega)).2).1 h4
  have y := (A.2 d hd (by omega)).2
  have ar : 1 < gp_ar (kd d) := by rw [h4]; decide
  refine ⟨?_, h4, h6, (gp_ch_lt ok hd ar).1, gp_tm_ch ok A.1.2.1 hd (by omega) ar (by omega), h6, gm_E_c0 ok hd ar (by rw [h4]; decide) h7, ⟨_, gm_q_r _, Or.inl ⟨rfl, rfl, x.2, σ, ?_, s2⟩⟩, I.2.2.2.2.2⟩
  · have k1 : gt_k (gt_t kd ag n t) = 1 := by rw [← q.1]; exact x.1
    rcases gm_can A I.1 hv with z | z | z | z | z
    · exact z.1
    · rw [z.2] at k1; exact absurd k1 (by decide)
    · rw [z.2] at k1; exact absurd k1 (by decide)
    · rw [z.2] at k1; exact absurd k1 (by decide)
    · rw [z.2] at k1; exact absurd k1 (by decide)
  · rw [s1.1]
    rw [gt_t8 ok hd h4]
    exact x.1
theorem gm_up_ag {f g : Nat → Nat} {rc d r' : Nat} : ∀ r, 1 ≤ r → r ≤ rc → gm_up f (rc + 1) d r = f r ∧ gm_up g (rc + 1) r' r = g r := fun r _ hr => ⟨gm_up_n (by omega), gm_up_n (by omega)⟩
theorem gm_s_app {d e' : Nat} {R : gm_Fr} (A : gm_A kd ag n) (I : gm_I kd ag n tn te rs rc t e ((10, nI d, e') :: R)) (hd : d < n) (hv : gm_vl (kd t)) :
    kd t = 9 ∧ kd d = 10 ∧ e' ≤ rc ∧ gm_I kd ag n (gm_up tn (rc + 1) (gp_ch kd n d 1)) (gm_up te (rc + 1) e') (gm_up rs (rc + 1) e) (rc + 1) (gp_ch kd n t 1) (rc + 1) R := by
  have ok := A.1.1
  obtain ⟨_, d', h2, h3, h4, h6, h7, q, σ, s1, s2⟩ := gm_fr_d A I hv (by decide)
  have hn := ok.2.1
  have : d = d' := (nI_eq (by omega) (by omega)).mp h3
  subst this
  obtain ⟨ht, h5, he, hE, -, hR⟩ := I
  have x := (gt_e2_0 (A.2 d hd (by omega)).2).2.1 h4
  have ar : 1 < gp_ar (kd d) := by rw [h4]; decide
  have k4 : gt_k (gt_t kd ag n t) = 4 := by rw [← q.1]; exact x.1
  have qe := q.2 (by rw [x.1]; decide)
  have k9 : kd t = 9 := by
    rcases gm_can A ht hv with z | z | z | z | z
    · rw [z.2] at k4; exact absurd k4 (by decide)
    · exact z.1
    · rw [z.2] at k4; exact absurd k4 (by decide)
    · rw [z.2] at k4; exact absurd k4 (by decide)
    · rw [z.2] at k4; exact absurd k4 (by decide)
  have ar' : 1 < gp_ar (kd t) := by rw [k9]; decide
  have ty : gt_l (gt_t kd ag n t) = gt_t kd ag n (gp_ch kd n t 0) ∧ gt_r (gt_t kd ag n t) = gt_t kd ag n (gp_ch kd n t 1) := by
    have : gt_t kd ag n t = gt_mk 4 (nI (gt_se (ag t) (gt_u kd ag n (gp_ch kd n t 1) (gp_sn kd t)))) (gt_t kd ag n (gp_ch kd n t 0)) (gt_t kd ag n (gp_ch kd n t 1)) := by
      rw [gt_t9 ok ht k9]
    rw [this]
    exact ⟨gt_mk_l (by decide), gt_mk_r (by decide) (by decide)⟩
  have cd := (gp_ch_lt ok hd ar).1
  have tm := gp_tm_ch ok A.1.2.1 hd (by omega) ar (by omega)
  refine ⟨k9, h4, h6, (gp_ch_lt ok ht ar').1, gp_tm_ch ok A.1.2.1 ht h5 ar' (by omega), Nat.le_refl _, gm_E_c1 ok ht ar' (by rw [k9]; decide) hE ?_, ⟨σ, ?_, gm_fr_x (by omega) gm_up_ag s2⟩,
    gm_R_p hR cd tm h6 he (gm_E_c0 ok hd ar (by rw [h4]; decide) h7)⟩
  · rw [k9, ← x.2, qe, ty.1]
    rfl
  · rw [← ty.2, ← qe]
    have : gt_t kd ag n d = gt_r (gt_t kd ag n (gp_ch kd n d 0)) := by
      rw [gt_t10 ok hd h4]
    rw [← this]
    exact s1
theorem gm_s_pair {d e' : Nat} {R : gm_Fr} (A : gm_A kd ag n) (I : gm_I kd ag n tn te rs rc t e ((12, nI d, e') :: R)) (hd : d < n) (hv : gm_vl (kd t)) :
    kd t = 11 ∧ kd d = 12 ∧ e' ≤ rc ∧ gm_I kd ag n (gm_up (gm_up tn (rc + 1) (gp_ch kd n t 0)) (rc + 1 + 1) (gp_ch kd n t 1)) (gm_up (gm_up te (rc + 1) e) (rc + 1 + 1) e) (gm_up (gm_up rs (rc + 1) e') (rc + 1 + 1) (rc + 1)) (rc + 1 + 1) (gp_ch kd n d 1) (rc + 1 + 1) R := by
  have ok := A.1.1
  obtain ⟨_, d', h2, h3, h4, h6, h7, q, σ, s1, s2⟩ := gm_fr_d A I hv (by decide)
  have hn := ok.2.1
  have : d = d' := (nI_eq (by omega) (by omega)).mp h3
  subst this
  obtain ⟨ht, h5, he, hE, -, hR⟩ := I
  have x := (gt_e1_0 (A.2 d hd (by omega)).1).1 h4
  have ar : 1 < gp_ar (kd d) := by rw [h4]; decide
  have k2 : gt_k (gt_t kd ag n t) = 2 := by rw [← q.1]; exact x
  have qe := q.2 (by rw [x]; decide)
  have k11 : kd t = 11 := by
    rcases gm_can A ht hv with z | z | z | z | z
    · rw [z.2] at k2; exact absurd k2 (by decide)
    · rw [z.2] at k2; exact absurd k2 (by decide)
    · exact z.1
    · rw [z.2] at k2; exact absurd k2 (by decide)
    · rw [z.2] at k2; exact absurd k2 (by decide)
  have ar' : 1 < gp_ar (kd t) := by rw [k11]; decide
  have ty : gt_l (gt_t kd ag n t) = gt_t kd ag n (gp_ch kd n t 0) ∧ gt_r (gt_t kd ag n t) = gt_t kd ag n (gp_ch kd n t 1) := by
    have : gt_t kd ag n t = gt_mk 2 0 (gt_t kd ag n (gp_ch kd n t 0)) (gt_t kd ag n (gp_ch kd n t 1)) := by
      rw [gt_t11 ok ht k11]
    rw [this]
    exact ⟨gt_mk_l (by decide), gt_mk_r (by decide) (by decide)⟩
  have ct0 := (gp_ch_lt ok ht (j := 0) (by omega)).1
  have ct1 := (gp_ch_lt ok ht ar').1
  have tm0 := gp_tm_ch ok A.1.2.1 ht h5 (j := 0) (by omega) (by omega)
  have tm1 := gp_tm_ch ok A.1.2.1 ht h5 ar' (by omega)
  have tyd : gt_t kd ag n d = gt_t kd ag n (gp_ch kd n d 1) := by
    rw [gt_t12 ok hd h4]
  have E1 := gm_EL_x (tn' := gm_up tn (rc + 1) (gp_ch kd n t 0)) (rs' := gm_up rs (rc + 1) e') (rc' := rc + 1) (gm_E_c0 ok ht ar' (by rw [k11]; decide) hE) (by omega) gm_up_ag
  refine ⟨k11, h4, h6, (gp_ch_lt ok hd ar).1, gp_tm_ch ok A.1.2.1 hd (by omega) ar (by omega), Nat.le_refl _, gm_E_c2 ok hd ar (by rw [h4]; decide) h7 ?_ ?_, ⟨σ, ?_, gm_fr_x (by omega) gm_up_ag (gm_fr_x (by omega) gm_up_ag s2)⟩,
    gm_R_p (gm_R_p hR ct0 tm0 he h6 (gm_E_c0 ok ht (by omega) (gp_bd_0 _) hE)) ct1 tm1 (by omega) (by omega) E1⟩
  · rw [h4, qe, ← ty.1]; rfl
  · rw [h4, qe, ← ty.2]; rfl
  · rw [← tyd]; exact s1
theorem gm_s_case {d e' : Nat} {R : gm_Fr} (A : gm_A kd ag n) (I : gm_I kd ag n tn te rs rc t e ((15, nI d, e') :: R)) (hd : d < n) (hv : gm_vl (kd t)) :
    (kd t = 13 ∨ kd t = 14) ∧ kd d = 15 ∧ e' ≤ rc ∧ gm_I kd ag n (gm_up tn (rc + 1) (gp_ch kd n t 1)) (gm_up te (rc + 1) e) (gm_up rs (rc + 1) e') (rc + 1) (gp_ch kd n d (if kd t = 13 then 1 else 2)) (rc + 1) R := by
  have ok := A.1.1
  obtain ⟨_, d', h2, h3, h4, h6, h7, q, σ, s1, s2⟩ := gm_fr_d A I hv (by decide)
  have hn := ok.2.1
  have : d = d' := (nI_eq (by omega) (by omega)).mp h3
  subst this
  obtain ⟨ht, h5, he, hE, -, hR⟩ := I
  have x := (gt_e1_0 (A.2 d hd (by omega)).1).2.1 h4
  have x2 := (gt_e2_0 (A.2 d hd (by omega)).2).2.2.1 h4
  have ar : 2 < gp_ar (kd d) := by rw [h4]; decide
  have k3 : gt_k (gt_t kd ag n t) = 3 := by rw [← q.1]; exact x
  have qe := q.2 (by rw [x]; decide)
  have k13 : kd t = 13 ∨ kd t = 14 := by
    rcases gm_can A ht hv with z | z | z | z | z
    · rw [z.2] at k3; exact absurd k3 (by decide)
    · rw [z.2] at k3; exact absurd k3 (by decide)
    · rw [z.2] at k3; exact absurd k3 (by decide)
    · exact z.1
    · rw [z.2] at k3; exact absurd k3 (by decide)
  have ar' : 1 < gp_ar (kd t) := by rcases k13 with z | z <;> rw [z] <;> decide
  have tyd : gt_t kd ag n d = gt_t kd ag n (gp_ch kd n d 1) := by
    rw [gt_t15 ok hd h4]
  have RR := gm_R_p (r' := e') hR (gp_ch_lt ok ht ar').1 (gp_tm_ch ok A.1.2.1 ht h5 ar' (by omega)) he h6 (gm_E_c0 ok ht ar' (by rcases k13 with z | z <;> rw [z] <;> decide) hE)
  refine ⟨k13, h4, h6, ?_⟩
  rcases k13 with z | z
  · rw [if_pos z]
    refine ⟨(gp_ch_lt ok hd (by omega)).1, gp_tm_ch ok A.1.2.1 hd (by omega) (by omega) (by omega), Nat.le_refl _, gm_E_c1 ok hd (by omega) (by rw [h4]; decide) h7 ?_, ⟨σ, ?_, gm_fr_x (by omega) gm_up_ag s2⟩, RR⟩
    · have : gt_t kd ag n t = gt_mk 3 0 (gt_t kd ag n (gp_ch kd n t 1)) (gt_t kd ag n (gp_ch kd n t 0)) := by
        rw [gt_t13 ok ht z]
      rw [h4, qe]
      show _ = gt_l (gt_t kd ag n t)
      rw [this, gt_mk_l (by decide)]
    · rw [← tyd]; exact s1
  · rw [if_neg (by omega)]
    refine ⟨(gp_ch_lt ok hd (by omega)).1, gp_tm_ch ok A.1.2.1 hd (by omega) (by omega) (by omega), Nat.le_refl _, gm_E_c1 ok hd (by omega) (by rw [h4]; decide) h7 ?_, ⟨σ, ?_, gm_fr_x (by omega) gm_up_ag s2⟩, RR⟩
    · have : gt_t kd ag n t = gt_mk 3 0 (gt_t kd ag n (gp_ch kd n t 0)) (gt_t kd ag n (gp_ch kd n t 1)) := by
        rw [gt_t14 ok ht z]
      rw [h4, qe]
      show _ = gt_r (gt_t kd ag n t)
      rw [this, gt_mk_r (by decide) (by decide)]
    · rw [← x2, ← tyd]; exact s1
theorem gm_s_box {d e' : Nat} {R : gm_Fr} (A : gm_A kd ag n) (I : gm_I kd ag n tn te rs rc t e ((17, nI d, e') :: R)) (hd : d < n) (hv : gm_vl (kd t)) :
    kd t = 16 ∧ kd d = 17 ∧ e' ≤ rc ∧ gm_I kd ag n (gm_up tn (rc + 1) (gp_ch kd n t 0)) (gm_up te (rc + 1) e) (gm_up rs (rc + 1) e') (rc + 1) (gp_ch kd n d 1) (rc + 1) R := by
  have ok := A.1.1
  obtain ⟨_, d', h2, h3, h4, h6, h7, q, σ, s1, s2⟩ := gm_fr_d A I hv (by decide)
  have hn := ok.2.1
  have : d = d' := (nI_eq (by omega) (by omega)).mp h3
  subst this
  obtain ⟨ht, h5, he, hE, -, hR⟩ := I
  have x := (gt_e1_0 (A.2 d hd (by omega)).1).2.2 h4
  have ar : 1 < gp_ar (kd d) := by rw [h4]; decide
  have k5 : gt_k (gt_t kd ag n t) = 5 := by rw [← q.1]; exact x
  have qe := q.2 (by rw [x]; decide)
  have k16 : kd t = 16 := by
    rcases gm_can A ht hv with z | z | z | z | z
    · rw [z.2] at k5; exact absurd k5 (by decide)
    · rw [z.2] at k5; exact absurd k5 (by decide)
    · rw [z.2] at k5; exact absurd k5 (by decide)
    · rw [z.2] at k5; exact absurd k5 (by decide)
    · exact z.1
  have ar' : 0 < gp_ar (kd t) := by rw [k16]; decide
  have tyd : gt_t kd ag n d = gt_t kd ag n (gp_ch kd n d 1) := by
    rw [gt_t17 ok hd h4]
  refine ⟨k16, h4, h6, (gp_ch_lt ok hd ar).1, gp_tm_ch ok A.1.2.1 hd (by omega) ar (by omega), Nat.le_refl _, gm_E_c1 ok hd ar (by rw [h4]; decide) h7 ?_, ⟨σ, ?_, gm_fr_x (by omega) gm_up_ag s2⟩,
    gm_R_p hR (gp_ch_lt ok ht ar').1 (gp_tm_ch ok A.1.2.1 ht h5 ar' (by omega)) he h6 (gm_E_c0 ok ht ar' (gp_bd_0 _) hE)⟩
  · have : gt_t kd ag n t = gt_mk 5 (ag t) (gt_t kd ag n (gp_ch kd n t 0)) (fun _ => none) := by
      rw [gt_t16 ok ht k16]
    rw [h4, qe]
    show _ = gt_l (gt_t kd ag n t)
    rw [this, gt_mk_l (by decide)]
  · rw [← tyd]; exact s1
theorem gm_I_0 (A : gm_A kd ag n) : gm_I kd ag n tn te rs 0 0 0 [] :=
  ⟨A.1.1.1, fun z => by have := A.1.2.1.1; unfold gp_srt at this; rw [if_pos z] at this; omega, Nat.le_refl _, fun i hi => by rw [gp_sn_0] at hi; omega, ⟨_, gm_q_r _, trivial⟩, fun r h1 h2 => by omega⟩
end
end
section
/-! the machine's measure -/
def gm_pf (kd : Nat → Nat) (n : Nat) (x : Nat × Int32 × Nat) : Nat := if x.1 = 0 then 1 else 3 * (gp_en kd n x.2.1.toNatClampNeg - gp_ch kd n x.2.1.toNatClampNeg 1) + 2
def gm_ps (kd : Nat → Nat) (n : Nat) : gm_Fr → Nat
  | [] => 0
  | x :: R => gm_pf kd n x + gm_ps kd n R
theorem gm_pf_0 (kd : Nat → Nat) (n e : Nat) (w : Int32) : gm_pf kd n (0, w, e) = 1 := rfl
theorem gm_pf_d {kd : Nat → Nat} {n m d e : Nat} (hm : ¬ m = 0) (hd : d < 2 ^ 31) : gm_pf kd n (m, nI d, e) = 3 * (gp_en kd n d - gp_ch kd n d 1) + 2 := by
  unfold gm_pf
  dsimp only
  rw [if_neg hm, nI_clamp hd]
theorem gm_m_go {kd : Nat → Nat} {n t e : Nat} (ok : gp_ok kd n) (ht : t < n) (hk : gm_go (kd t)) : 3 * gp_sz kd n (gp_ch kd n t 0) + gm_pf kd n (kd t, nI t, e) + 1 ≤ 3 * gp_sz kd n t := by
  have hn := ok.2.1
  obtain ⟨g1, g2, -⟩ := gm_go_ar hk
  rw [gm_pf_d (by omega) (by omega)]
  have a := gp_en_lt ok (gp_ch_lt ok ht (j := 0) (by omega)).1
  have b := gp_en_lt ok (gp_ch_lt ok ht (j := 1) (by omega)).1
  have e1 : gp_ch kd n t 1 = gp_en kd n (gp_ch kd n t 0) := rfl
  have e2 : gp_ch kd n t 2 = gp_en kd n (gp_ch kd n t 1) := rfl
  have e0 : gp_ch kd n t 0 = t + 1 := rfl
  have c : gp_ch kd n t 1 ≤ gp_en kd n t := by
    rw [gp_en_ch ok ht]
    have h3 := gp_ar_le (kd t)
    have : gp_ar (kd t) = 2 ∨ gp_ar (kd t) = 3 := by omega
    rcases this with z | z
    · rw [z]; omega
    · have d := gp_en_lt ok (gp_ch_lt ok ht (j := 2) (by omega)).1
      have e3 : gp_ch kd n t 3 = gp_en kd n (gp_ch kd n t 2) := rfl
      rw [z]; omega
  unfold gp_sz
  omega
theorem gm_m_c {kd : Nat → Nat} {n m d e j : Nat} (ok : gp_ok kd n) (hd : d < n) (hm : ¬ m = 0) (hj : j < gp_ar (kd d)) (hj1 : 1 ≤ j) : 3 * gp_sz kd n (gp_ch kd n d j) + 2 ≤ gm_pf kd n (m, nI d, e) := by
  have hn := ok.2.1
  have h3 := gp_ar_le (kd d)
  rw [gm_pf_d hm (by omega)]
  have a := gp_en_lt ok (gp_ch_lt ok hd (j := 1) (by omega)).1
  have e2 : gp_ch kd n d 2 = gp_en kd n (gp_ch kd n d 1) := rfl
  have e3 : gp_ch kd n d 3 = gp_en kd n (gp_ch kd n d 2) := rfl
  unfold gp_sz
  rw [gp_en_ch ok hd]
  have : (j = 1 ∧ gp_ar (kd d) = 2) ∨ (j = 1 ∧ gp_ar (kd d) = 3) ∨ (j = 2 ∧ gp_ar (kd d) = 3) := by omega
  rcases this with ⟨y, z⟩ | ⟨y, z⟩ | ⟨y, z⟩
  · subst y; rw [z, e2]; omega
  · have b := gp_en_lt ok (gp_ch_lt ok hd (j := 2) (by omega)).1
    subst y; rw [z, e3]; omega
  · have b := gp_en_lt ok (gp_ch_lt ok hd (j := 2) (by omega)).1
    subst y; rw [z, e3]; omega
theorem gm_pf_1 (kd : Nat → Nat) (n : Nat) (x : Nat × Int32 × Nat) : 1 ≤ gm_pf kd n x := by
  unfold gm_pf
  split <;> omega
/-! the reference's comparison of two types, purely: pairs still to be compared, the next one at the head -/
def gs_st (D : Nat → gt_Ty) : List (Nat × Nat) → Nat → Prop
  | [], _ => True
  | q :: R, S => ∃ h s, h + R.length ≤ 33 ∧ s ≤ S ∧ gs_fit h s (D q.1) ∧ gs_st D R (S - s)
theorem gs_st_m {D : Nat → gt_Ty} : ∀ {l : List (Nat × Nat)} {S S' : Nat}, S ≤ S' → gs_st D l S → gs_st D l S'
  | [], _, _, _, _ => trivial
  | q :: R, S, S', hS, ⟨h, s, a, b, c, d⟩ => ⟨h, s, a, by omega, c, gs_st_m (by omega) d⟩
theorem gs_st_p {D : Nat → gt_Ty} {q : Nat × Nat} {R : List (Nat × Nat)} {S : Nat} (h : gs_st D (q :: R) S) : 1 ≤ S ∧ R.length ≤ 32 ∧ gs_st D R (S - 1) := by
  obtain ⟨h, s, a, b, c, d⟩ := h
  have := gs_pos c
  exact ⟨by omega, by omega, gs_st_m (by omega) d⟩
theorem gs_st_5 {D : Nat → gt_Ty} {q q' : Nat × Nat} {R : List (Nat × Nat)} {S : Nat} (h : gs_st D (q :: R) S) (hk : gt_k (D q.1) = 5) (e : D q'.1 = gt_l (D q.1)) : gs_st D (q' :: R) (S - 1) := by
  obtain ⟨h, s, a, b, c, d⟩ := h
  cases h with
  | zero => exact c.elim
  | succ h =>
    have c1 : 1 ≤ s := c.1
    rcases c.2 with z | ⟨z, f⟩ | ⟨x, y, z, f, g⟩
    · rw [hk] at z; exact absurd z (by decide)
    · exact ⟨h, s - 1, by omega, by omega, by rw [e]; exact f, gs_st_m (S := S - s) (by omega) d⟩
    · exact ⟨h, x, by omega, by omega, by rw [e]; exact f, gs_st_m (S := S - s) (by omega) d⟩
theorem gs_st_2 {D : Nat → gt_Ty} {q qa qb : Nat × Nat} {R : List (Nat × Nat)} {S : Nat} (h : gs_st D (q :: R) S) (h1 : ¬ gt_k (D q.1) = 1) (h5 : ¬ gt_k (D q.1) = 5) (ea : D qa.1 = gt_l (D q.1)) (eb : D qb.1 = gt_r (D q.1)) : gs_st D (qb :: qa :: R) (S - 1) := by
  obtain ⟨h, s, a, b, c, d⟩ := h
  cases h with
  | zero => exact c.elim
  | succ h =>
    have c1 : 1 ≤ s := c.1
    rcases c.2 with z | ⟨z, f⟩ | ⟨x, y, z, f, g⟩
    · exact absurd z h1
    · exact absurd z h5
    · refine ⟨h, y, by simp only [List.length_cons]; omega, by omega, by rw [eb]; exact g, h, x, by omega, by omega, by rw [ea]; exact f, gs_st_m (S := S - s) (by omega) d⟩
def gs_al (D : Nat → gt_Ty) (l : List (Nat × Nat)) : Prop := ∀ q, q ∈ l → D q.1 = D q.2
theorem gs_al_c {D : Nat → gt_Ty} {q : Nat × Nat} {R : List (Nat × Nat)} : gs_al D (q :: R) ↔ D q.1 = D q.2 ∧ gs_al D R :=
  ⟨fun h => ⟨h q List.mem_cons_self, fun x hx => h x (List.mem_cons_of_mem _ hx)⟩, fun h x hx => by
    rcases List.mem_cons.mp hx with z | z
    · subst z; exact h.1
    · exact h.2 x z⟩
theorem gd_iff1 {T : gd_Tb} {x y : Nat} (hk : T.1 x = T.1 y) (hg : T.2.1 x = T.2.1 y) (h1 : T.1 x = 1) : gd_D T x = gd_D T y := gd_mk hk hg (fun z => absurd h1 z) (fun z => absurd h1 z)
theorem gd_iff5 {T : gd_Tb} {x y : Nat} (hk : T.1 x = T.1 y) (hg : T.2.1 x = T.2.1 y) (h5 : T.1 x = 5) : gd_D T x = gd_D T y ↔ gd_D T (gd_L T x) = gd_D T (gd_L T y) :=
  ⟨fun h => gd_left h (by rw [h5]; decide), fun h => gd_mk hk hg (fun _ => h) (fun _ z => absurd h5 z)⟩
theorem gd_iff2 {T : gd_Tb} {x y : Nat} (hk : T.1 x = T.1 y) (hg : T.2.1 x = T.2.1 y) (h1 : ¬ T.1 x = 1) (h5 : ¬ T.1 x = 5) : gd_D T x = gd_D T y ↔ gd_D T (gd_L T x) = gd_D T (gd_L T y) ∧ gd_D T (gd_R T x) = gd_D T (gd_R T y) :=
  ⟨fun h => ⟨gd_left h h1, gd_right h h1 h5⟩, fun h => gd_mk hk hg (fun _ => h.1) (fun _ _ => h.2)⟩
end
section
/-! there is but one type Int -/
def gt_in (τ : gt_Ty) : Prop := ∀ p g, τ p = some (1, g) → g = 0 ∧ ∀ b q, τ (p ++ b :: q) = none
theorem gt_in_l {τ : gt_Ty} (h : gt_in τ) : gt_in (gt_l τ) := fun p g e => h (false :: p) g e
theorem gt_in_r {τ : gt_Ty} (h : gt_in τ) : gt_in (gt_r τ) := fun p g e => h (true :: p) g e
theorem gt_in_n : gt_in (fun _ => none) := fun _ _ e => nomatch e
theorem gt_in_mk {k g : Int32} {l r : gt_Ty} (h1 : k = 1 → g = 0) (hl : gt_in l) (hr : gt_in r) : gt_in (gt_mk k g l r) := by
  intro p x e
  match p with
  | [] =>
    have := Option.some.inj e
    have ek : k = 1 := congrArg Prod.fst this
    have eg : g = x := congrArg Prod.snd this
    refine ⟨by rw [← eg]; exact h1 ek, fun b q => ?_⟩
    show gt_mk k g l r (b :: q) = none
    cases b with
    | false => exact if_pos ek
    | true => exact if_pos ek
  | false :: p =>
    have e' : (if k = 1 then none else l p) = some (1, x) := e
    by_cases z : k = 1
    · rw [if_pos z] at e'; exact nomatch e'
    · rw [if_neg z] at e'
      refine ⟨(hl p x e').1, fun b q => ?_⟩
      show (if k = 1 then none else l (p ++ b :: q)) = none
      rw [if_neg z]
      exact (hl p x e').2 b q
  | true :: p =>
    have e' : (if k = 1 then none else if k = 5 then none else r p) = some (1, x) := e
    by_cases z : k = 1
    · rw [if_pos z] at e'; exact nomatch e'
    · rw [if_neg z] at e'
      by_cases y : k = 5
      · rw [if_pos y] at e'; exact nomatch e'
      · rw [if_neg y] at e'
        refine ⟨(hr p x e').1, fun b q => ?_⟩
        show (if k = 1 then none else if k = 5 then none else r (p ++ b :: q)) = none
        rw [if_neg z, if_neg y]
        exact (hr p x e').2 b q
theorem gt_in_nv {k j w : Nat} {τ : gt_Ty} (h : gt_in τ) : gt_in (gt_nv k j w τ) := by
  unfold gt_nv
  split
  · exact h
  · split
    · split
      · exact gt_in_l h
      · exact gt_in_r h
    · split
      · split
        · exact gt_in_l h
        · exact gt_in_r h
      · exact gt_in_l h
theorem gt_in_1 {τ : gt_Ty} (h : gt_in τ) (hk : gt_k τ = 1) (l r : gt_Ty) : τ = gt_mk 1 0 l r := by
  unfold gt_k at hk
  cases e : τ [] with
  | none => rw [e] at hk; exact absurd hk (by decide)
  | some x =>
    obtain ⟨k, g⟩ := x
    rw [e] at hk
    have hk' : k = 1 := hk
    subst hk'
    obtain ⟨g0, hn⟩ := h [] g e
    subst g0
    funext p
    match p with
    | [] => exact e
    | false :: p => exact hn false p
    | true :: p => exact hn true p
theorem gt_t_in {kd : Nat → Nat} {ag : Nat → Int32} {n : Nat} (h : gt_P kd ag n) : ∀ m d, gt_mu kd n d < m → d < n → gt_in (gt_t kd ag n d)
  | 0, _, z, _ => by omega
  | m + 1, d, hm, hd => by
    have hP := h
    obtain ⟨ok, so, kr, sc, a2, a3, a0⟩ := h
    have k1 := (kr d hd).1
    have k17 := (kr d hd).2
    have IH : ∀ j, j < gp_ar (kd d) → gt_in (gt_t kd ag n (gp_ch kd n d j)) := by
      intro j hj
      have a := (gp_ch_lt ok hd hj).1
      have b := gt_mu_ch ok hd hj
      exact gt_t_in hP m _ (by omega) a
    have hcase : (kd d = 1 ∨ kd d = 2 ∨ kd d = 3 ∨ kd d = 4 ∨ kd d = 5) ∨ kd d = 6 ∨ kd d = 7 ∨ kd d = 8 ∨ kd d = 9 ∨ kd d = 10 ∨ kd d = 11 ∨ kd d = 12 ∨ kd d = 13 ∨ kd d = 14 ∨ kd d = 15 ∨ kd d = 16 ∨ kd d = 17 := by omega
    rcases hcase with (e | e | e | e | e) | e | e | e | e | e | e | e | e | e | e | e | e
    · rw [gt_q1 e (fun _ => none) (fun _ => none)]
      exact gt_in_mk (fun _ => a0 d hd (by omega)) gt_in_n gt_in_n
    · rw [gt_q2 ok hd e]
      exact gt_in_mk (fun z => absurd z (by decide)) (IH 0 (by rw [e]; decide)) (IH 1 (by rw [e]; decide))
    · rw [gt_q3 ok hd e]
      exact gt_in_mk (fun z => absurd z (by decide)) (IH 0 (by rw [e]; decide)) (IH 1 (by rw [e]; decide))
    · rw [gt_q4 ok hd e]
      exact gt_in_mk (fun z => absurd z (by decide)) (IH 0 (by rw [e]; decide)) (IH 1 (by rw [e]; decide))
    · rw [gt_q5 ok hd e (fun _ => none)]
      exact gt_in_mk (fun z => absurd z (by decide)) (IH 0 (by rw [e]; decide)) gt_in_n
    · have hv := gt_P_lv hP hd e
      have b := gt_mu_lc ok hd hv
      have l := gp_lc_sp ok hd hv
      rw [gt_t6 ok hd e hv]
      exact gt_in_nv (gt_t_in hP m _ (by omega) (gp_ch_lt ok (by omega) (by omega)).1)
    · rw [gt_t7 ok hd e]
      exact gt_in_mk (fun _ => rfl) gt_in_n gt_in_n
    · rw [gt_t8 ok hd e]
      exact IH 0 (by rw [e]; decide)
    · rw [gt_t9 ok hd e]
      exact gt_in_mk (fun z => absurd z (by decide)) (IH 0 (by rw [e]; decide)) (IH 1 (by rw [e]; decide))
    · rw [gt_t10 ok hd e]
      exact gt_in_r (IH 0 (by rw [e]; decide))
    · rw [gt_t11 ok hd e]
      exact gt_in_mk (fun z => absurd z (by decide)) (IH 0 (by rw [e]; decide)) (IH 1 (by rw [e]; decide))
    · rw [gt_t12 ok hd e]
      exact IH 1 (by rw [e]; decide)
    · rw [gt_t13 ok hd e]
      exact gt_in_mk (fun z => absurd z (by decide)) (IH 1 (by rw [e]; decide)) (IH 0 (by rw [e]; decide))
    · rw [gt_t14 ok hd e]
      exact gt_in_mk (fun z => absurd z (by decide)) (IH 0 (by rw [e]; decide)) (IH 1 (by rw [e]; decide))
    · rw [gt_t15 ok hd e]
      exact IH 1 (by rw [e]; decide)
    · rw [gt_t16 ok hd e]
      exact gt_in_mk (fun z => absurd z (by decide)) (IH 0 (by rw [e]; decide)) gt_in_n
    · rw [gt_t17 ok hd e]
      exact IH 1 (by rw [e]; decide)
theorem gt_int {kd : Nat → Nat} {ag : Nat → Int32} {n d : Nat} (h : gt_P kd ag n) (hd : d < n) (hk : gt_k (gt_t kd ag n d) = 1) (l r : gt_Ty) : gt_t kd ag n d = gt_mk 1 0 l r := gt_in_1 (gt_t_in h _ d (Nat.lt_succ_self _) hd) hk l r
theorem gt_add_c (a b : Nat) : gt_add a b = gt_add b a := by unfold gt_add; rw [Nat.add_comm]
end
section
/-! the component's small readers -/
theorem gx_k17 {P : Nat → Prop} (h : P 1 ∧ P 2 ∧ P 3 ∧ P 4 ∧ P 5 ∧ P 6 ∧ P 7 ∧ P 8 ∧ P 9 ∧ P 10 ∧ P 11 ∧ P 12 ∧ P 13 ∧ P 14 ∧ P 15 ∧ P 16 ∧ P 17) {k : Nat} (h1 : 1 ≤ k) (h2 : k ≤ 17) : P k := by
  obtain ⟨a1, a2, a3, a4, a5, a6, a7, a8, a9, a10, a11, a12, a13, a14, a15, a16, a17⟩ := h
  have : k = 1 ∨ k = 2 ∨ k = 3 ∨ k = 4 ∨ k = 5 ∨ k = 6 ∨ k = 7 ∨ k = 8 ∨ k = 9 ∨ k = 10 ∨ k = 11 ∨ k = 12 ∨ k = 13 ∨ k = 14 ∨ k = 15 ∨ k = 16 ∨ k = 17 := by omega
  rcases this with e | e | e | e | e | e | e | e | e | e | e | e | e | e | e | e | e <;> subst e <;> assumption
theorem gx_cc {post : Int32 → Prop} {k : Nat} (h1 : 1 ≤ k) (h2 : k ≤ 17) (h : post (nI (gp_ar k))) : wpX_childCount post (nI k) := by
  revert h
  refine gx_k17 (P := fun k => post (nI (gp_ar k)) → wpX_childCount post (nI k)) ?_ h1 h2
  refine ⟨?_, ?_, ?_, ?_, ?_, ?_, ?_, ?_, ?_, ?_, ?_, ?_, ?_, ?_, ?_, ?_, ?_⟩ <;> (intro h; unfold wpX_childCount; repeat (first | exact h | exact br_t (by decide) h | refine br_f (by decide) ?_))
theorem gx_vb {post : Int32 → Prop} {k j : Nat} (h1 : 1 ≤ k) (h2 : k ≤ 17) (hj : j ≤ 2) (h : post (nI (gp_bd k j))) : wpX_variablesBound post (nI k) (nI j) := by
  have hz : j = 0 ∨ j = 1 ∨ j = 2 := by omega
  revert h
  refine gx_k17 (P := fun k => post (nI (gp_bd k j)) → wpX_variablesBound post (nI k) (nI j)) ?_ h1 h2
  rcases hz with e | e | e <;> subst e <;> refine ⟨?_, ?_, ?_, ?_, ?_, ?_, ?_, ?_, ?_, ?_, ?_, ?_, ?_, ?_, ?_, ?_, ?_⟩ <;> (intro h; unfold wpX_variablesBound; repeat (first | exact h | exact br_t (by decide) h | refine br_f (by decide) ?_))
theorem gx_it {post : Int32 → Prop} {k : Nat} (h2 : k ≤ 17) (h : post (nI (1 - gp_srt k))) : wpX_isTypeKind post (nI k) := by
  unfold wpX_isTypeKind
  unfold gp_srt at h
  refine pk_lt 5 k (fun z => ?_) (fun z => ?_)
  · rw [if_neg (by omega)] at h; exact h
  · rw [if_pos z] at h; exact h
theorem gx_wt {post : Int32 → Prop} {k j : Nat} (h1 : 1 ≤ k) (h2 : k ≤ 17) (hj : j ≤ 2) (h : post (nI (1 - gp_cs k j))) : wpX_wantsType post (nI k) (nI j) := by
  have hz : j = 0 ∨ j = 1 ∨ j = 2 := by omega
  revert h
  refine gx_k17 (P := fun k => post (nI (1 - gp_cs k j)) → wpX_wantsType post (nI k) (nI j)) ?_ h1 h2
  rcases hz with e | e | e <;> subst e <;> refine ⟨?_, ?_, ?_, ?_, ?_, ?_, ?_, ?_, ?_, ?_, ?_, ?_, ?_, ?_, ?_, ?_, ?_⟩ <;> (intro h; unfold wpX_wantsType; repeat (first | exact h | (unfold wX_wantsType_18) | (unfold wX_wantsType_23) | (unfold wpX_isTypeKind) | exact br_t (by decide) h | refine br_f (by decide) ?_ | refine br_t (by decide) ?_))
end
section
/-- the top of a stack is kept at the array's end -/
def gx_stk (a : Nat → Int32) : List Nat → Prop
  | [] => True
  | q :: R => a R.length = nI q ∧ gx_stk a R
theorem gx_stk_keep {a : Nat → Int32} {k : Nat} {x : Int32} : ∀ {R : List Nat}, R.length ≤ k → gx_stk a R → gx_stk (upd a k x) R
  | [], _, _ => trivial
  | q :: R, hk, h => by
    simp only [List.length_cons] at hk
    exact ⟨by rw [pk_un (by omega)]; exact h.1, gx_stk_keep (by omega) h.2⟩
theorem gx_stk_push {a : Nat → Int32} {k q : Nat} {R : List Nat} (hk : k = R.length) (h : gx_stk a R) : gx_stk (upd a k (nI q)) (q :: R) := by
  subst hk
  exact ⟨pk_us, gx_stk_keep (Nat.le_refl _) h⟩
def gx_so (kd : Nat → Nat) (i p : Nat) : Prop := if p = 96 then gp_srt (kd i) = 1 else gp_srt (kd i) = gp_cs (kd (p / 3)) (p % 3)
def gx_bad (kd : Nat → Nat) (i : Nat) : Prop := gp_S kd i = [] ∨ ¬ gx_so kd i (gp_pl kd i)
theorem gp_srt_01 (k : Nat) : gp_srt k ≤ 1 := by unfold gp_srt; split <;> omega
theorem gp_cs_01 (k j : Nat) : gp_cs k j ≤ 1 := by
  unfold gp_cs
  split
  · omega
  · split <;> omega
section
variable {f_derefLimit f_recordLimit f_frameLimit f_nodeCount f_currentStatus f_faultNode f_typeCount f_currentNode f_currentEnv f_returning f_returnedNumber f_frameCount f_lastOutcome f_lastValue f_derefsMade f_recordsMade : Int32} {a_nodeKind a_nodeArg a_expectedPlaces a_nodeAtPlace a_placeOfNode a_variablesSeen a_nodeType a_gradeOfBinder a_variableType a_usage a_typeKind a_typeGrade a_typeLeft a_typeRight a_frameMark a_frameWord a_frameEnv a_thunkNode a_thunkEnv a_restOfEnv a_binderOfRecord a_gradeOfRecord a_countOfRecord : Nat → Int32}
theorem gx_sf {post : Int32 → Prop} {kd : Nat → Nat} {i p : Nat} (hi : i < 32) (hk : a_nodeKind i = nI (kd i)) (hk2 : kd i ≤ 17) (hp : p ≤ 96)
    (hq : p ≠ 96 → a_nodeKind (p / 3) = nI (kd (p / 3)) ∧ 1 ≤ kd (p / 3) ∧ kd (p / 3) ≤ 17) (h1 : gx_so kd i p → post 1) (h0 : ¬ gx_so kd i p → post 0) : wpX_sortFits post (f_derefLimit, f_recordLimit, f_frameLimit, f_nodeCount, f_currentStatus, f_faultNode, f_typeCount, f_currentNode, f_currentEnv, f_returning, f_returnedNumber, f_frameCount, f_lastOutcome, f_lastValue, f_derefsMade, f_recordsMade, a_nodeKind, a_nodeArg, a_expectedPlaces, a_nodeAtPlace, a_placeOfNode, a_variablesSeen, a_nodeType, a_gradeOfBinder, a_variableType, a_usage, a_typeKind, a_typeGrade, a_typeLeft, a_typeRight, a_frameMark, a_frameWord, a_frameEnv, a_thunkNode, a_thunkEnv, a_restOfEnv, a_binderOfRecord, a_gradeOfRecord, a_countOfRecord) (nI i) (nI p) := by
  unfold wpX_sortFits
  try dsimp only
  have ei : (nI i).toNatClampNeg = i := nI_clamp (by omega)
  rw [ei, hk]
  refine ⟨vp_in_nI hi (by decide), gx_it hk2 ?_⟩
  try dsimp only
  have s1 := gp_srt_01 (kd i)
  refine pk_eq p 96 (fun e => ?_) (fun e => ?_)
  · unfold gx_so at h1 h0
    rw [if_pos e] at h1 h0
    refine pk_eq (1 - gp_srt (kd i)) 0 (fun z => h1 (by omega)) (fun z => h0 (by omega))
  · obtain ⟨q1, q2, q3⟩ := hq e
    have hp3 : p / 3 < 32 := by omega
    have e1 : nI p / 3 = nI (p / 3) := pk_div (by omega) (by decide) (by decide)
    have e2 : nI p - nI p / 3 * 3 = nI (p % 3) := pk_rem (by omega) (by decide) (by decide)
    unfold gx_so at h1 h0
    rw [if_neg e] at h1 h0
    refine ⟨by decide, nm_r e1 ⟨vp_in_nI hp3 (by decide), by decide, ?_⟩⟩
    rw [e2, nI_clamp (by omega), q1]
    refine gx_wt q2 q3 (by omega) ?_
    try dsimp only
    have s2 := gp_cs_01 (kd (p / 3)) (p % 3)
    refine pk_eq (1 - gp_srt (kd i)) (1 - gp_cs (kd (p / 3)) (p % 3)) (fun z => h1 (by omega)) (fun z => h0 (by omega))
theorem gx_hang {post : SX → Prop} {kd : Nat → Nat} {i p : Nat} (hi : i < 32) (hp : p ≤ 96)
    (hq : p ≠ 96 → a_nodeKind (p / 3) = nI (kd (p / 3)) ∧ 1 ≤ kd (p / 3) ∧ kd (p / 3) ≤ 17)
    (h : ∀ v, (p = 96 → v = 0) → (p ≠ 96 → v = a_variablesSeen (p / 3) + nI (gp_bd (kd (p / 3)) (p % 3))) → post (f_derefLimit, f_recordLimit, f_frameLimit, f_nodeCount, f_currentStatus, f_faultNode, f_typeCount, f_currentNode, f_currentEnv, f_returning, f_returnedNumber, f_frameCount, f_lastOutcome, f_lastValue, f_derefsMade, f_recordsMade, a_nodeKind, a_nodeArg, a_expectedPlaces, upd a_nodeAtPlace p (nI i), upd a_placeOfNode i (nI p), upd a_variablesSeen i v, a_nodeType, a_gradeOfBinder, a_variableType, a_usage, a_typeKind, a_typeGrade, a_typeLeft, a_typeRight, a_frameMark, a_frameWord, a_frameEnv, a_thunkNode, a_thunkEnv, a_restOfEnv, a_binderOfRecord, a_gradeOfRecord, a_countOfRecord)) : wpX_hang post (f_derefLimit, f_recordLimit, f_frameLimit, f_nodeCount, f_currentStatus, f_faultNode, f_typeCount, f_currentNode, f_currentEnv, f_returning, f_returnedNumber, f_frameCount, f_lastOutcome, f_lastValue, f_derefsMade, f_recordsMade, a_nodeKind, a_nodeArg, a_expectedPlaces, a_nodeAtPlace, a_placeOfNode, a_variablesSeen, a_nodeType, a_gradeOfBinder, a_variableType, a_usage, a_typeKind, a_typeGrade, a_typeLeft, a_typeRight, a_frameMark, a_frameWord, a_frameEnv, a_thunkNode, a_thunkEnv, a_restOfEnv, a_binderOfRecord, a_gradeOfRecord, a_countOfRecord) (nI i) (nI p) := by
  unfold wpX_hang
  try dsimp only
  have ei : (nI i).toNatClampNeg = i := nI_clamp (by omega)
  have ep : (nI p).toNatClampNeg = p := nI_clamp (by omega)
  rw [ei, ep]
  refine ⟨vp_in_nI (by omega) (by decide), nm_e ⟨vp_in_nI hi (by decide), nm_e ?_⟩⟩
  refine pk_eq p 96 (fun e => ?_) (fun e => ?_)
  · exact ⟨vp_in_nI hi (by decide), nm_e (h 0 (fun _ => rfl) (fun z => absurd e z))⟩
  · obtain ⟨q1, q2, q3⟩ := hq e
    have hp3 : p / 3 < 32 := by omega
    have e1 : nI p / 3 = nI (p / 3) := pk_div (by omega) (by decide) (by decide)
    have e2 : nI p - nI p / 3 * 3 = nI (p % 3) := pk_rem (by omega) (by decide) (by decide)
    refine ⟨by decide, nm_r e1 ⟨vp_in_nI hp3 (by decide), by decide, ?_⟩⟩
    rw [e2, nI_clamp (by omega), q1]
    refine gx_vb q2 q3 (by omega) ?_
    try dsimp only
    exact ⟨vp_in_nI hp3 (by decide), vp_in_nI hi (by decide), nm_e (h _ (fun z => absurd z e) (fun _ => rfl))⟩
theorem gx_push {post : SX → Prop} {J : Int32 → Int32 → Int32 → Int32 → Int32 → Int32 → Int32 → Int32 → Int32 → Int32 → Int32 → Int32 → Int32 → Int32 → Int32 → Int32 → Int32 → Int32 → (Nat → Int32) → (Nat → Int32) → (Nat → Int32) → (Nat → Int32) → (Nat → Int32) → (Nat → Int32) → (Nat → Int32) → (Nat → Int32) → (Nat → Int32) → (Nat → Int32) → (Nat → Int32) → (Nat → Int32) → (Nat → Int32) → (Nat → Int32) → (Nat → Int32) → (Nat → Int32) → (Nat → Int32) → (Nat → Int32) → (Nat → Int32) → (Nat → Int32) → (Nat → Int32) → (Nat → Int32) → (Nat → Int32) → Prop} {i : Nat} {R : List Nat} (hi : i < 32) : ∀ s m fuel (ep : Nat → Int32), s < fuel → R.length + m + s ≤ 65 → gx_stk ep (gp_kf i s m ++ R) →
    (∀ ep', gx_stk ep' (gp_kf i 0 (m + s) ++ R) → J (nI (R.length + m + s)) (nI (i + 1)) f_derefLimit f_recordLimit f_frameLimit f_nodeCount f_currentStatus f_faultNode f_typeCount f_currentNode f_currentEnv f_returning f_returnedNumber f_frameCount f_lastOutcome f_lastValue f_derefsMade f_recordsMade a_nodeKind a_nodeArg ep' a_nodeAtPlace a_placeOfNode a_variablesSeen a_nodeType a_gradeOfBinder a_variableType a_usage a_typeKind a_typeGrade a_typeLeft a_typeRight a_frameMark a_frameWord a_frameEnv a_thunkNode a_thunkEnv a_restOfEnv a_binderOfRecord a_gradeOfRecord a_countOfRecord) →
    wX_checkSyntax_73 post J (nI i) f_derefLimit f_recordLimit f_frameLimit f_nodeCount f_currentStatus f_faultNode f_typeCount f_currentNode f_currentEnv f_returning f_returnedNumber f_frameCount f_lastOutcome f_lastValue f_derefsMade f_recordsMade fuel (nI (R.length + m)) (nI s - 1) a_nodeKind a_nodeArg ep a_nodeAtPlace a_placeOfNode a_variablesSeen a_nodeType a_gradeOfBinder a_variableType a_usage a_typeKind a_typeGrade a_typeLeft a_typeRight a_frameMark a_frameWord a_frameEnv a_thunkNode a_thunkEnv a_restOfEnv a_binderOfRecord a_gradeOfRecord a_countOfRecord
  | 0, m, 0, _, hf, _, _, _ => by omega
  | 0, m, fuel + 1, ep, hf, hl, hs, h => br_t (by decide) (nm_r (nI_1 i) (h ep hs))
  | s + 1, m, 0, _, hf, _, _, _ => by omega
  | s + 1, m, fuel + 1, ep, hf, hl, hs, h => by
    have hlen : (gp_kf i (s + 1) m ++ R).length = R.length + m := by rw [List.length_append, gp_kf_len]; omega
    have e1 : (nI i * 3) + nI s = nI (3 * i + s) := by
      rw [show (nI i * 3 : Int32) = nI (i * 3) from pk_mul i 3, nI_add, Nat.mul_comm]
    rw [nI_pred]
    refine br_f (nI_pos (by omega)) ⟨vp_in_nI (by omega) (by decide), ?_⟩
    rw [nI_clamp (by omega), e1]
    refine nm_e (nm_r (nI_1 _) (nm_e ?_))
    have IH := gx_push (post := post) (J := J) (R := R) hi s (m + 1) fuel (upd ep (R.length + m) (nI (3 * i + s))) (by omega) (by omega)
      (gx_stk_push (q := 3 * i + s) hlen.symm hs) (by
        rw [show m + 1 + s = m + (s + 1) by omega, show R.length + (m + 1) + s = R.length + m + (s + 1) by omega]; exact h)
    rw [Int32.sub_eq_add_neg] at IH
    exact IH
end
end
section
def gx_Q (kd : Nat → Nat) (n i : Nat) (np po vs : Nat → Int32) : Prop := gp_ok kd n → ∀ c, c < i → np (gp_pl kd c) = nI c ∧ po c = nI (gp_pl kd c) ∧ vs c = nI (gp_sn kd c)
theorem gx_Q_s {kd : Nat → Nat} {n i p : Nat} {R : List Nat} {np po vs : Nat → Int32} {v : Int32} (hi : i < n) (hS : gp_S kd i = p :: R) (h : gx_Q kd n i np po vs)
    (h1 : p = 96 → v = 0) (h2 : p ≠ 96 → v = vs (p / 3) + nI (gp_bd (kd (p / 3)) (p % 3))) : gx_Q kd n (i + 1) (upd np p (nI i)) (upd po i (nI p)) (upd vs i v) := by
  intro ok c hc
  have hn := ok.2.1
  have e : gp_pl kd i = p := by unfold gp_pl; rw [hS]; rfl
  have IH := h ok
  rcases Nat.lt_or_ge c i with z | z
  · have ne : gp_pl kd c ≠ p := by
      intro y
      have := gp_pl_inj ok (by omega) hi (y.trans e.symm)
      omega
    rw [pk_un ne, pk_un (by omega), pk_un (by omega)]
    exact IH c z
  · have ec : c = i := by omega
    subst ec
    rw [e, pk_us, pk_us, pk_us]
    refine ⟨rfl, rfl, ?_⟩
    rcases Nat.eq_zero_or_pos c with y | y
    · subst y
      rw [h1 (by rw [← e]; rfl), gp_sn_0]; rfl
    · have p1 := gp_pl_in ok hi y
      rw [e] at p1
      rw [h2 (by omega), (IH (p / 3) (by omega)).2.2, nI_add, gp_sn_p ok hi y, e]
section
variable {f_derefLimit f_recordLimit f_frameLimit f_nodeCount f_currentStatus f_faultNode f_typeCount f_currentNode f_currentEnv f_returning f_returnedNumber f_frameCount f_lastOutcome f_lastValue f_derefsMade f_recordsMade : Int32} {a_nodeKind a_nodeArg a_expectedPlaces a_nodeAtPlace a_placeOfNode a_variablesSeen a_nodeType a_gradeOfBinder a_variableType a_usage a_typeKind a_typeGrade a_typeLeft a_typeRight a_frameMark a_frameWord a_frameEnv a_thunkNode a_thunkEnv a_restOfEnv a_binderOfRecord a_gradeOfRecord a_countOfRecord : Nat → Int32}
theorem gx_syn {post : SX → Prop} {kd : Nat → Nat} {n : Nat} (hn : n ≤ 32) (hK : ∀ i, i < n → a_nodeKind i = nI (kd i) ∧ 1 ≤ kd i ∧ kd i ≤ 17)
    (hOK : (∀ i, i < n → ¬ gx_bad kd i) → gp_S kd n = [] → ∀ ep np po vs, gx_Q kd n n np po vs → post (f_derefLimit, f_recordLimit, f_frameLimit, nI n, f_currentStatus, f_faultNode, f_typeCount, f_currentNode, f_currentEnv, f_returning, f_returnedNumber, f_frameCount, f_lastOutcome, f_lastValue, f_derefsMade, f_recordsMade, a_nodeKind, a_nodeArg, ep, np, po, vs, a_nodeType, a_gradeOfBinder, a_variableType, a_usage, a_typeKind, a_typeGrade, a_typeLeft, a_typeRight, a_frameMark, a_frameWord, a_frameEnv, a_thunkNode, a_thunkEnv, a_restOfEnv, a_binderOfRecord, a_gradeOfRecord, a_countOfRecord))
    (hF : ∀ m, ((m < n ∧ gx_bad kd m) ∨ (m = n ∧ gp_S kd n ≠ [])) → (∀ i, i < m → ¬ gx_bad kd i) → ∀ ep np po vs, post (f_derefLimit, f_recordLimit, f_frameLimit, nI n, 2, nI m, f_typeCount, f_currentNode, f_currentEnv, f_returning, f_returnedNumber, f_frameCount, f_lastOutcome, f_lastValue, f_derefsMade, f_recordsMade, a_nodeKind, a_nodeArg, ep, np, po, vs, a_nodeType, a_gradeOfBinder, a_variableType, a_usage, a_typeKind, a_typeGrade, a_typeLeft, a_typeRight, a_frameMark, a_frameWord, a_frameEnv, a_thunkNode, a_thunkEnv, a_restOfEnv, a_binderOfRecord, a_gradeOfRecord, a_countOfRecord)) :
    ∀ d i fuel (ep np po vs : Nat → Int32), i + d = n → d < fuel → gx_stk ep (gp_S kd i) → (∀ i', i' < i → ¬ gx_bad kd i') → gx_Q kd n i np po vs →
      wX_checkSyntax_12 post fuel (nI (gp_S kd i).length) (nI i) f_derefLimit f_recordLimit f_frameLimit (nI n) f_currentStatus f_faultNode f_typeCount f_currentNode f_currentEnv f_returning f_returnedNumber f_frameCount f_lastOutcome f_lastValue f_derefsMade f_recordsMade a_nodeKind a_nodeArg ep np po vs a_nodeType a_gradeOfBinder a_variableType a_usage a_typeKind a_typeGrade a_typeLeft a_typeRight a_frameMark a_frameWord a_frameEnv a_thunkNode a_thunkEnv a_restOfEnv a_binderOfRecord a_gradeOfRecord a_countOfRecord
  | _, _, 0, _, _, _, _, _, hf, _, _, _ => by omega
  | 0, i, fuel + 1, ep, np, po, vs, hi, hf, hs, hb, hq => by
    have e : i = n := by omega
    subst e
    have hl := gp_S_len kd i
    refine br_t (nI_le (Nat.le_refl _) (by omega)) (pk_le (gp_S kd i).length 0 (fun z => ?_) (fun z => ?_))
    · exact hOK hb (List.length_eq_zero_iff.mp (by omega)) ep np po vs hq
    · exact hF i (Or.inr ⟨rfl, fun y => by rw [y] at z; exact absurd z (by decide)⟩) hb ep np po vs
  | d + 1, i, fuel + 1, ep, np, po, vs, hi, hf, hs, hb, hq => by
    have hin : i < n := by omega
    have hl := gp_S_len kd i
    obtain ⟨k0, k1, k2⟩ := hK i hin
    refine br_f (nI_ge hin (by omega)) ?_
    cases hS : gp_S kd i with
    | nil => exact br_t rfl (hF i (Or.inl ⟨hin, Or.inl hS⟩) hb ep np po vs)
    | cons p R =>
      rw [hS] at hs hl
      simp only [List.length_cons] at hl ⊢
      have hR : R.length ≤ 64 := by omega
      have pin := (gp_S_in kd i (by omega)).1 p (by rw [hS]; exact List.mem_cons_self)
      have hp : p ≤ 96 := by omega
      have hpl : gp_pl kd i = p := by unfold gp_pl; rw [hS]; rfl
      have hqk : p ≠ 96 → a_nodeKind (p / 3) = nI (kd (p / 3)) ∧ 1 ≤ kd (p / 3) ∧ kd (p / 3) ≤ 17 := fun z => hK (p / 3) (by omega)
      refine br_f (nI_ne0 (by omega) (by omega)) ?_
      rw [nI_pred, nI_clamp (show R.length < 2 ^ 31 by omega), hs.1]
      refine ⟨vp_in_nI (by omega) (by decide), gx_sf (kd := kd) (by omega) k0 k2 hp hqk (fun so => ?_) (fun nso => ?_)⟩
      · refine br_f (by decide) (nm_r (pk_m1 _) ⟨vp_in_nI (by omega) (by decide), ?_⟩)
        rw [nI_clamp (show R.length < 2 ^ 31 by omega), hs.1]
        refine gx_hang (kd := kd) (by omega) hp hqk (fun v hv1 hv2 => ?_)
        try dsimp only
        refine ⟨vp_in_nI (by omega) (by decide), ?_⟩
        rw [nI_clamp (show i < 2 ^ 31 by omega), k0]
        refine gx_cc k1 k2 (nm_e ⟨gp_ar (kd i) + 1, ?_⟩)
        have a3 := gp_ar_le (kd i)
        refine gx_push (R := R) (by omega) (gp_ar (kd i)) 0 (gp_ar (kd i) + 1) ep (by omega) ?_ hs.2 (fun ep' hs' => ?_)
        · have := gp_S_len kd (i + 1)
          rw [gp_S_s, hS, List.length_append, gp_kf_len] at this
          simp only [List.tail_cons] at this
          omega
        · have hS' : gp_S kd (i + 1) = gp_kf i 0 (gp_ar (kd i)) ++ R := by rw [gp_S_s, hS]; rfl
          have IH := gx_syn hn hK hOK hF d (i + 1) fuel ep' (upd np p (nI i)) (upd po i (nI p)) (upd vs i v) (by omega) (by omega)
            (by rw [hS']; rw [Nat.zero_add] at hs'; exact hs')
            (fun i' hi' => by
              rcases Nat.lt_or_ge i' i with z | z
              · exact hb i' z
              · have e : i' = i := by omega
                subst e
                intro y
                rcases y with y | y
                · rw [hS] at y; exact absurd y (List.cons_ne_nil _ _)
                · rw [hpl] at y; exact y so)
            (gx_Q_s hin hS hq hv1 hv2)
          rw [hS', List.length_append, gp_kf_len] at IH
          rw [show R.length + 0 + gp_ar (kd i) = gp_ar (kd i) + R.length by omega]
          exact IH
      · exact br_t rfl (hF i (Or.inl ⟨hin, Or.inr (by rw [hpl]; exact nso)⟩) hb ep np po vs)
theorem gx_shape {post : SX → Prop} {kd : Nat → Nat} {n : Nat} (hn : n ≤ 32) (hK : ∀ i, i < n → a_nodeKind i = nI (kd i) ∧ 1 ≤ kd i ∧ kd i ≤ 17)
    (hOK : (∀ i, i < n → ¬ gx_bad kd i) → gp_S kd n = [] → ∀ ep np po vs, gx_Q kd n n np po vs → post (f_derefLimit, f_recordLimit, f_frameLimit, nI n, f_currentStatus, f_faultNode, f_typeCount, f_currentNode, f_currentEnv, f_returning, f_returnedNumber, f_frameCount, f_lastOutcome, f_lastValue, f_derefsMade, f_recordsMade, a_nodeKind, a_nodeArg, ep, np, po, vs, a_nodeType, a_gradeOfBinder, a_variableType, a_usage, a_typeKind, a_typeGrade, a_typeLeft, a_typeRight, a_frameMark, a_frameWord, a_frameEnv, a_thunkNode, a_thunkEnv, a_restOfEnv, a_binderOfRecord, a_gradeOfRecord, a_countOfRecord))
    (hF : ∀ m, ((m < n ∧ gx_bad kd m) ∨ (m = n ∧ gp_S kd n ≠ [])) → (∀ i, i < m → ¬ gx_bad kd i) → ∀ ep np po vs, post (f_derefLimit, f_recordLimit, f_frameLimit, nI n, 2, nI m, f_typeCount, f_currentNode, f_currentEnv, f_returning, f_returnedNumber, f_frameCount, f_lastOutcome, f_lastValue, f_derefsMade, f_recordsMade, a_nodeKind, a_nodeArg, ep, np, po, vs, a_nodeType, a_gradeOfBinder, a_variableType, a_usage, a_typeKind, a_typeGrade, a_typeLeft, a_typeRight, a_frameMark, a_frameWord, a_frameEnv, a_thunkNode, a_thunkEnv, a_restOfEnv, a_binderOfRecord, a_gradeOfRecord, a_countOfRecord)) :
    wpX_checkSyntax post (f_derefLimit, f_recordLimit, f_frameLimit, nI n, f_currentStatus, f_faultNode, f_typeCount, f_currentNode, f_currentEnv, f_returning, f_returnedNumber, f_frameCount, f_lastOutcome, f_lastValue, f_derefsMade, f_recordsMade, a_nodeKind, a_nodeArg, a_expectedPlaces, a_nodeAtPlace, a_placeOfNode, a_variablesSeen, a_nodeType, a_gradeOfBinder, a_variableType, a_usage, a_typeKind, a_typeGrade, a_typeLeft, a_typeRight, a_frameMark, a_frameWord, a_frameEnv, a_thunkNode, a_thunkEnv, a_restOfEnv, a_binderOfRecord, a_gradeOfRecord, a_countOfRecord) :=
  nm_e ⟨n + 1, gx_syn hn hK hOK hF n 0 (n + 1) (upd a_expectedPlaces 0 96) a_nodeAtPlace a_placeOfNode a_variablesSeen (by omega) (by omega) ⟨pk_us, trivial⟩ (fun i' h => by omega) (fun _ c h => by omega)⟩
/-! scope -/
def gx_sc (kd : Nat → Nat) (ag : Nat → Int32) (i : Nat) : Prop := kd i = 6 ∧ ¬ ag i < nI (gp_sn kd i)
theorem gx_scp {post : SX → Prop} {kd : Nat → Nat} {n : Nat} (hn : n ≤ 32) (hK : ∀ i, i < n → a_nodeKind i = nI (kd i) ∧ 1 ≤ kd i ∧ kd i ≤ 17) (hV : ∀ i, i < n → a_variablesSeen i = nI (gp_sn kd i))
    (hOK : (∀ i, i < n → ¬ gx_sc kd a_nodeArg i) → post (f_derefLimit, f_recordLimit, f_frameLimit, nI n, f_currentStatus, f_faultNode, f_typeCount, f_currentNode, f_currentEnv, f_returning, f_returnedNumber, f_frameCount, f_lastOutcome, f_lastValue, f_derefsMade, f_recordsMade, a_nodeKind, a_nodeArg, a_expectedPlaces, a_nodeAtPlace, a_placeOfNode, a_variablesSeen, a_nodeType, a_gradeOfBinder, a_variableType, a_usage, a_typeKind, a_typeGrade, a_typeLeft, a_typeRight, a_frameMark, a_frameWord, a_frameEnv, a_thunkNode, a_thunkEnv, a_restOfEnv, a_binderOfRecord, a_gradeOfRecord, a_countOfRecord))
    (hF : ∀ m, m < n → gx_sc kd a_nodeArg m → (∀ i, i < m → ¬ gx_sc kd a_nodeArg i) → post (f_derefLimit, f_recordLimit, f_frameLimit, nI n, 3, nI m, f_typeCount, f_currentNode, f_currentEnv, f_returning, f_returnedNumber, f_frameCount, f_lastOutcome, f_lastValue, f_derefsMade, f_recordsMade, a_nodeKind, a_nodeArg, a_expectedPlaces, a_nodeAtPlace, a_placeOfNode, a_variablesSeen, a_nodeType, a_gradeOfBinder, a_variableType, a_usage, a_typeKind, a_typeGrade, a_typeLeft, a_typeRight, a_frameMark, a_frameWord, a_frameEnv, a_thunkNode, a_thunkEnv, a_restOfEnv, a_binderOfRecord, a_gradeOfRecord, a_countOfRecord)) :
    ∀ d i fuel, i + d = n → d < fuel → (∀ i', i' < i → ¬ gx_sc kd a_nodeArg i') → wX_checkScope_2 post f_derefLimit f_recordLimit f_frameLimit (nI n) f_currentStatus f_faultNode f_typeCount f_currentNode f_currentEnv f_returning f_returnedNumber f_frameCount f_lastOutcome f_lastValue f_derefsMade f_recordsMade a_nodeKind a_nodeArg a_expectedPlaces a_nodeAtPlace a_placeOfNode a_variablesSeen a_nodeType a_gradeOfBinder a_variableType a_usage a_typeKind a_typeGrade a_typeLeft a_typeRight a_frameMark a_frameWord a_frameEnv a_thunkNode a_thunkEnv a_restOfEnv a_binderOfRecord a_gradeOfRecord a_countOfRecord fuel (nI i)
  | _, _, 0, _, hf, _ => by omega
  | 0, i, fuel + 1, hi, hf, hb => by
    have e : i = n := by omega
    subst e
    exact br_t (nI_le (Nat.le_refl _) (by omega)) (hOK hb)
  | d + 1, i, fuel + 1, hi, hf, hb => by
    have hin : i < n := by omega
    obtain ⟨k0, k1, k2⟩ := hK i hin
    have IH : ¬ gx_sc kd a_nodeArg i → wX_checkScope_2 post f_derefLimit f_recordLimit f_frameLimit (nI n) f_currentStatus f_faultNode f_typeCount f_currentNode f_currentEnv f_returning f_returnedNumber f_frameCount f_lastOutcome f_lastValue f_derefsMade f_recordsMade a_nodeKind a_nodeArg a_expectedPlaces a_nodeAtPlace a_placeOfNode a_variablesSeen a_nodeType a_gradeOfBinder a_variableType a_usage a_typeKind a_typeGrade a_typeLeft a_typeRight a_frameMark a_frameWord a_frameEnv a_thunkNode a_thunkEnv a_restOfEnv a_binderOfRecord a_gradeOfRecord a_countOfRecord fuel (nI (i + 1)) := fun y =>
      gx_scp hn hK hV hOK hF d (i + 1) fuel (by omega) (by omega) (fun i' hi' => by
        rcases Nat.lt_or_ge i' i with z | z
        · exact hb i' z
        · have e : i' = i := by omega
          subst e
          exact y)
    refine br_f (nI_ge hin (by omega)) ⟨vp_in_nI (by omega) (by decide), ?_⟩
    rw [nI_clamp (show i < 2 ^ 31 by omega), k0, hV i hin]
    refine pk_eq (kd i) 6 (fun z => ⟨vp_in_nI (by omega) (by decide), vp_in_nI (by omega) (by decide), br_c (fun y => nm_r (nI_1 i) (IH (fun x => x.2 y))) (fun y => hF i hin ⟨z, y⟩ hb)⟩) (fun z => nm_r (nI_1 i) (IH (fun x => z x.1)))
theorem gx_scope {post : SX → Prop} {kd : Nat → Nat} {n : Nat} (hn : n ≤ 32) (hK : ∀ i, i < n → a_nodeKind i = nI (kd i) ∧ 1 ≤ kd i ∧ kd i ≤ 17) (hV : ∀ i, i < n → a_variablesSeen i = nI (gp_sn kd i))
    (hOK : (∀ i, i < n → ¬ gx_sc kd a_nodeArg i) → post (f_derefLimit, f_recordLimit, f_frameLimit, nI n, f_currentStatus, f_faultNode, f_typeCount, f_currentNode, f_currentEnv, f_returning, f_returnedNumber, f_frameCount, f_lastOutcome, f_lastValue, f_derefsMade, f_recordsMade, a_nodeKind, a_nodeArg, a_expectedPlaces, a_nodeAtPlace, a_placeOfNode, a_variablesSeen, a_nodeType, a_gradeOfBinder, a_variableType, a_usage, a_typeKind, a_typeGrade, a_typeLeft, a_typeRight, a_frameMark, a_frameWord, a_frameEnv, a_thunkNode, a_thunkEnv, a_restOfEnv, a_binderOfRecord, a_gradeOfRecord, a_countOfRecord))
    (hF : ∀ m, m < n → gx_sc kd a_nodeArg m → (∀ i, i < m → ¬ gx_sc kd a_nodeArg i) → post (f_derefLimit, f_recordLimit, f_frameLimit, nI n, 3, nI m, f_typeCount, f_currentNode, f_currentEnv, f_returning, f_returnedNumber, f_frameCount, f_lastOutcome, f_lastValue, f_derefsMade, f_recordsMade, a_nodeKind, a_nodeArg, a_expectedPlaces, a_nodeAtPlace, a_placeOfNode, a_variablesSeen, a_nodeType, a_gradeOfBinder, a_variableType, a_usage, a_typeKind, a_typeGrade, a_typeLeft, a_typeRight, a_frameMark, a_frameWord, a_frameEnv, a_thunkNode, a_thunkEnv, a_restOfEnv, a_binderOfRecord, a_gradeOfRecord, a_countOfRecord)) :
    wpX_checkScope post (f_derefLimit, f_recordLimit, f_frameLimit, nI n, f_currentStatus, f_faultNode, f_typeCount, f_currentNode, f_currentEnv, f_returning, f_returnedNumber, f_frameCount, f_lastOutcome, f_lastValue, f_derefsMade, f_recordsMade, a_nodeKind, a_nodeArg, a_expectedPlaces, a_nodeAtPlace, a_placeOfNode, a_variablesSeen, a_nodeType, a_gradeOfBinder, a_variableType, a_usage, a_typeKind, a_typeGrade, a_typeLeft, a_typeRight, a_frameMark, a_frameWord, a_frameEnv, a_thunkNode, a_thunkEnv, a_restOfEnv, a_binderOfRecord, a_gradeOfRecord, a_countOfRecord) :=
  ⟨n + 1, gx_scp hn hK hV hOK hF n 0 (n + 1) (by omega) (by omega) (fun i' h => by omega)⟩
end
end
section
/-! the component's type table and usage rows -/
/-- row t, levels below s, holds f -/
def gx_row (us : Nat → Int32) (t s : Nat) (f : Nat → Nat) : Nat → Int32 := fun i => if t * 32 ≤ i ∧ i < t * 32 + s then nI (f (i - t * 32)) else us i
theorem gx_row_0 (us : Nat → Int32) (t : Nat) (f : Nat → Nat) : gx_row us t 0 f = us := by
  funext i
  unfold gx_row
  rw [if_neg (by omega)]
theorem gx_row_s (us : Nat → Int32) (t s : Nat) (f : Nat → Nat) : upd (gx_row us t s f) (t * 32 + s) (nI (f s)) = gx_row us t (s + 1) f := by
  funext i
  unfold upd gx_row
  by_cases h : i = t * 32 + s
  · rw [if_pos h, if_pos (by omega), h, Nat.add_sub_cancel_left]
  · rw [if_neg h]
    by_cases g : t * 32 ≤ i ∧ i < t * 32 + s
    · rw [if_pos g, if_pos (by omega)]
    · rw [if_neg g, if_neg (by omega)]
theorem gx_row_in {us : Nat → Int32} {t s : Nat} {f : Nat → Nat} {v : Nat} (h : v < s) : gx_row us t s f (t * 32 + v) = nI (f v) := by
  unfold gx_row
  rw [if_pos (by omega), Nat.add_sub_cancel_left]
theorem gx_row_off {us : Nat → Int32} {t s : Nat} {f : Nat → Nat} {i : Nat} (hs : s ≤ 32) (h : i < t * 32 ∨ t * 32 + 32 ≤ i) : gx_row us t s f i = us i := by
  unfold gx_row
  rw [if_neg (by omega)]
theorem gx_row_o {us : Nat → Int32} {t s c : Nat} {f : Nat → Nat} {v : Nat} (hs : s ≤ 32) (hv : v < 32) (h : c ≠ t) : gx_row us t s f (c * 32 + v) = us (c * 32 + v) := gx_row_off hs (by omega)
theorem gx_ix {t v : Nat} : (nI t * 32) + nI v = nI (t * 32 + v) := by rw [show (nI t * 32 : Int32) = nI (t * 32) from pk_mul t 32, nI_add]
theorem gx_ix3 {t j : Nat} : (nI t * 3) + nI j = nI (3 * t + j) := by rw [show (nI t * 3 : Int32) = nI (t * 3) from pk_mul t 3, nI_add, Nat.mul_comm]
theorem gx_prod {post : Int32 → Prop} {a b : Nat} (ha : a ≤ 2) (hb : b ≤ 2) (h : post (nI (gt_mul a b))) : wpX_product post (nI a) (nI b) := by
  have hl : a * b ≤ 4 := Nat.le_trans (Nat.mul_le_mul ha hb) (by decide)
  unfold wpX_product
  rw [pk_mul]
  unfold gt_mul at h
  refine pk_le (a * b) 2 (fun z => ?_) (fun z => ?_)
  · rw [if_neg (by omega)] at h; exact h
  · rw [if_pos z] at h; exact h
theorem gx_sum {post : Int32 → Prop} {a b : Nat} (ha : a ≤ 2) (hb : b ≤ 2) (h : post (nI (gt_add a b))) : wpX_sum post (nI a) (nI b) := by
  unfold wpX_sum
  rw [nI_add]
  unfold gt_add at h
  refine pk_le (a + b) 2 (fun z => ?_) (fun z => ?_)
  · rw [if_neg (by omega)] at h; exact h
  · rw [if_pos z] at h; exact h
theorem gx_join {post : Int32 → Prop} {a b : Nat} (ha : a ≤ 2) (hb : b ≤ 2) (h : post (nI (gt_max a b))) : wpX_join post (nI a) (nI b) := by
  unfold wpX_join
  unfold gt_max at h
  refine pk_le a b (fun z => ?_) (fun z => ?_)
  · rw [if_neg (by omega)] at h; exact h
  · rw [if_pos z] at h; exact h
theorem gt_mul_1 {a : Nat} (h : a ≤ 2) : gt_mul 1 a = a := by unfold gt_mul; rw [Nat.one_mul, if_neg (by omega)]
theorem gt_mul_0 (a : Nat) : gt_mul 0 a = 0 := by unfold gt_mul; rw [Nat.zero_mul]; rfl
theorem gt_add_0 {a : Nat} (h : a ≤ 2) : gt_add a 0 = a := by unfold gt_add; rw [Nat.add_zero, if_neg (by omega)]
section
variable {f_derefLimit f_recordLimit f_frameLimit f_nodeCount f_currentStatus f_faultNode f_typeCount f_currentNode f_currentEnv f_returning f_returnedNumber f_frameCount f_lastOutcome f_lastValue f_derefsMade f_recordsMade : Int32} {a_nodeKind a_nodeArg a_expectedPlaces a_nodeAtPlace a_placeOfNode a_variablesSeen a_nodeType a_gradeOfBinder a_variableType a_usage a_typeKind a_typeGrade a_typeLeft a_typeRight a_frameMark a_frameWord a_frameEnv a_thunkNode a_thunkEnv a_restOfEnv a_binderOfRecord a_gradeOfRecord a_countOfRecord : Nat → Int32}
theorem gx_co {post : Int32 → Prop} {t j c : Nat} (ht : t < 32) (hj : j ≤ 2) (hc : a_nodeAtPlace (3 * t + j) = nI c) (h : post (nI c)) : wpX_childOf post (f_derefLimit, f_recordLimit, f_frameLimit, f_nodeCount, f_currentStatus, f_faultNode, f_typeCount, f_currentNode, f_currentEnv, f_returning, f_returnedNumber, f_frameCount, f_lastOutcome, f_lastValue, f_derefsMade, f_recordsMade, a_nodeKind, a_nodeArg, a_expectedPlaces, a_nodeAtPlace, a_placeOfNode, a_variablesSeen, a_nodeType, a_gradeOfBinder, a_variableType, a_usage, a_typeKind, a_typeGrade, a_typeLeft, a_typeRight, a_frameMark, a_frameWord, a_frameEnv, a_thunkNode, a_thunkEnv, a_restOfEnv, a_binderOfRecord, a_gradeOfRecord, a_countOfRecord) (nI t) (nI j) := by
  unfold wpX_childOf
  try dsimp only
  rw [gx_ix3, nI_clamp (by omega), hc]
  exact ⟨vp_in_nI (by omega) (by decide), h⟩
theorem gx_tc {post : Int32 → Prop} {t j c : Nat} (ht : t < 32) (hj : j ≤ 2) (hc : a_nodeAtPlace (3 * t + j) = nI c) (hc2 : c < 32) (h : post (a_nodeType c)) : wpX_typeOfChild post (f_derefLimit, f_recordLimit, f_frameLimit, f_nodeCount, f_currentStatus, f_faultNode, f_typeCount, f_currentNode, f_currentEnv, f_returning, f_returnedNumber, f_frameCount, f_lastOutcome, f_lastValue, f_derefsMade, f_recordsMade, a_nodeKind, a_nodeArg, a_expectedPlaces, a_nodeAtPlace, a_placeOfNode, a_variablesSeen, a_nodeType, a_gradeOfBinder, a_variableType, a_usage, a_typeKind, a_typeGrade, a_typeLeft, a_typeRight, a_frameMark, a_frameWord, a_frameEnv, a_thunkNode, a_thunkEnv, a_restOfEnv, a_binderOfRecord, a_gradeOfRecord, a_countOfRecord) (nI t) (nI j) := by
  unfold wpX_typeOfChild
  try dsimp only
  refine gx_co ht hj hc ?_
  try dsimp only
  rw [nI_clamp (by omega)]
  exact ⟨vp_in_nI hc2 (by decide), h⟩
theorem gx_ui {post : Int32 → Prop} {t j c v : Nat} (ht : t < 32) (hj : j ≤ 2) (hc : a_nodeAtPlace (3 * t + j) = nI c) (hc2 : c < 32) (hv : v < 32) (h : post (a_usage (c * 32 + v))) : wpX_usageIn post (f_derefLimit, f_recordLimit, f_frameLimit, f_nodeCount, f_currentStatus, f_faultNode, f_typeCount, f_currentNode, f_currentEnv, f_returning, f_returnedNumber, f_frameCount, f_lastOutcome, f_lastValue, f_derefsMade, f_recordsMade, a_nodeKind, a_nodeArg, a_expectedPlaces, a_nodeAtPlace, a_placeOfNode, a_variablesSeen, a_nodeType, a_gradeOfBinder, a_variableType, a_usage, a_typeKind, a_typeGrade, a_typeLeft, a_typeRight, a_frameMark, a_frameWord, a_frameEnv, a_thunkNode, a_thunkEnv, a_restOfEnv, a_binderOfRecord, a_gradeOfRecord, a_countOfRecord) (nI t) (nI j) (nI v) := by
  unfold wpX_usageIn
  try dsimp only
  rw [gx_ix3, nI_clamp (show 3 * t + j < 2 ^ 31 by omega), hc, gx_ix, nI_clamp (show c * 32 + v < 2 ^ 31 by omega)]
  exact ⟨vp_in_nI (by omega) (by decide), vp_in_nI (by omega) (by decide), h⟩
theorem gx_clr_l {post : SX → Prop} {t s : Nat} {us : Nat → Int32} (ht : t < 32) (hs : s ≤ 32) (hV : a_variablesSeen t = nI s) (h : post (f_derefLimit, f_recordLimit, f_frameLimit, f_nodeCount, f_currentStatus, f_faultNode, f_typeCount, f_currentNode, f_currentEnv, f_returning, f_returnedNumber, f_frameCount, f_lastOutcome, f_lastValue, f_derefsMade, f_recordsMade, a_nodeKind, a_nodeArg, a_expectedPlaces, a_nodeAtPlace, a_placeOfNode, a_variablesSeen, a_nodeType, a_gradeOfBinder, a_variableType, gx_row us t s (fun _ => 0), a_typeKind, a_typeGrade, a_typeLeft, a_typeRight, a_frameMark, a_frameWord, a_frameEnv, a_thunkNode, a_thunkEnv, a_restOfEnv, a_binderOfRecord, a_gradeOfRecord, a_countOfRecord)) :
    ∀ d v fuel, v + d = s → d < fuel → wX_clearUsage_2 post (nI t) f_derefLimit f_recordLimit f_frameLimit f_nodeCount f_currentStatus f_faultNode f_typeCount f_currentNode f_currentEnv f_returning f_returnedNumber f_frameCount f_lastOutcome f_lastValue f_derefsMade f_recordsMade fuel (nI v) a_nodeKind a_nodeArg a_expectedPlaces a_nodeAtPlace a_placeOfNode a_variablesSeen a_nodeType a_gradeOfBinder a_variableType (gx_row us t v (fun _ => 0)) a_typeKind a_typeGrade a_typeLeft a_typeRight a_frameMark a_frameWord a_frameEnv a_thunkNode a_thunkEnv a_restOfEnv a_binderOfRecord a_gradeOfRecord a_countOfRecord
  | _, _, 0, _, hf => by omega
  | 0, v, fuel + 1, hv, hf => by
    have e : v = s := by omega
    subst e
    refine ⟨vp_in_nI ht (by decide), ?_⟩
    rw [nI_clamp (show t < 2 ^ 31 by omega), hV]
    exact br_t (nI_le (Nat.le_refl _) (by omega)) h
  | d + 1, v, fuel + 1, hv, hf => by
    refine ⟨vp_in_nI ht (by decide), ?_⟩
    rw [nI_clamp (show t < 2 ^ 31 by omega), hV, gx_ix, nI_clamp (show t * 32 + v < 2 ^ 31 by omega)]
    have IH := gx_clr_l (us := us) ht hs hV h d (v + 1) fuel (by omega) (by omega)
    refine br_f (nI_ge (by omega) (by omega)) ⟨vp_in_nI (by omega) (by decide), nm_r (gx_row_s us t v (fun _ => 0)) (nm_r (nI_1 v) IH)⟩
theorem gx_clr {post : SX → Prop} {t s : Nat} (ht : t < 32) (hs : s ≤ 32) (hV : a_variablesSeen t = nI s) (h : post (f_derefLimit, f_recordLimit, f_frameLimit, f_nodeCount, f_currentStatus, f_faultNode, f_typeCount, f_currentNode, f_currentEnv, f_returning, f_returnedNumber, f_frameCount, f_lastOutcome, f_lastValue, f_derefsMade, f_recordsMade, a_nodeKind, a_nodeArg, a_expectedPlaces, a_nodeAtPlace, a_placeOfNode, a_variablesSeen, a_nodeType, a_gradeOfBinder, a_variableType, gx_row a_usage t s (fun _ => 0), a_typeKind, a_typeGrade, a_typeLeft, a_typeRight, a_frameMark, a_frameWord, a_frameEnv, a_thunkNode, a_thunkEnv, a_restOfEnv, a_binderOfRecord, a_gradeOfRecord, a_countOfRecord)) : wpX_clearUsage post (f_derefLimit, f_recordLimit, f_frameLimit, f_nodeCount, f_currentStatus, f_faultNode, f_typeCount, f_currentNode, f_currentEnv, f_returning, f_returnedNumber, f_frameCount, f_lastOutcome, f_lastValue, f_derefsMade, f_recordsMade, a_nodeKind, a_nodeArg, a_expectedPlaces, a_nodeAtPlace, a_placeOfNode, a_variablesSeen, a_nodeType, a_gradeOfBinder, a_variableType, a_usage, a_typeKind, a_typeGrade, a_typeLeft, a_typeRight, a_frameMark, a_frameWord, a_frameEnv, a_thunkNode, a_thunkEnv, a_restOfEnv, a_binderOfRecord, a_gradeOfRecord, a_countOfRecord) (nI t) := by
  have := gx_clr_l (us := a_usage) ht hs hV h s 0 (s + 1) (by omega) (by omega)
  rw [gx_row_0] at this
  exact ⟨s + 1, this⟩
theorem gx_au_l {post : SX → Prop} {t s ja jb ca cb ga gb : Nat} {us : Nat → Int32} {pa pb : Nat → Nat} (ht : t < 32) (hs : s ≤ 32) (hV : a_variablesSeen t = nI s) (hja : ja ≤ 2) (hjb : jb ≤ 2)
    (ha : a_nodeAtPlace (3 * t + ja) = nI ca) (hb : a_nodeAtPlace (3 * t + jb) = nI cb) (hca : ca < 32) (hcb : cb < 32) (na : ca ≠ t) (nb : cb ≠ t) (hga : ga ≤ 2) (hgb : gb ≤ 2)
    (hpa : ∀ v, v < s → us (ca * 32 + v) = nI (pa v) ∧ pa v ≤ 2) (hpb : ∀ v, v < s → us (cb * 32 + v) = nI (pb v) ∧ pb v ≤ 2)
    (h : post (f_derefLimit, f_recordLimit, f_frameLimit, f_nodeCount, f_currentStatus, f_faultNode, f_typeCount, f_currentNode, f_currentEnv, f_returning, f_returnedNumber, f_frameCount, f_lastOutcome, f_lastValue, f_derefsMade, f_recordsMade, a_nodeKind, a_nodeArg, a_expectedPlaces, a_nodeAtPlace, a_placeOfNode, a_variablesSeen, a_nodeType, a_gradeOfBinder, a_variableType, gx_row us t s (fun v => gt_add (gt_mul ga (pa v)) (gt_mul gb (pb v))), a_typeKind, a_typeGrade, a_typeLeft, a_typeRight, a_frameMark, a_frameWord, a_frameEnv, a_thunkNode, a_thunkEnv, a_restOfEnv, a_binderOfRecord, a_gradeOfRecord, a_countOfRecord)) :
    ∀ d v fuel, v + d = s → d < fuel → wX_addUsage_3 post (nI t) (nI ja) (nI ga) (nI jb) (nI gb) f_derefLimit f_recordLimit f_frameLimit f_nodeCount f_currentStatus f_faultNode f_typeCount f_currentNode f_currentEnv f_returning f_returnedNumber f_frameCount f_lastOutcome f_lastValue f_derefsMade f_recordsMade fuel (nI v) a_nodeKind a_nodeArg a_expectedPlaces a_nodeAtPlace a_placeOfNode a_variablesSeen a_nodeType a_gradeOfBinder a_variableType (gx_row us t v (fun v => gt_add (gt_mul ga (pa v)) (gt_mul gb (pb v)))) a_typeKind a_typeGrade a_typeLeft a_typeRight a_frameMark a_frameWord a_frameEnv a_thunkNode a_thunkEnv a_restOfEnv a_binderOfRecord a_gradeOfRecord a_countOfRecord
  | _, _, 0, _, hf => by omega
  | 0, v, fuel + 1, hv, hf => by
    have e : v = s := by omega
    subst e
    refine ⟨vp_in_nI ht (by decide), ?_⟩
    rw [nI_clamp (show t < 2 ^ 31 by omega), hV]
    exact br_t (nI_le (Nat.le_refl _) (by omega)) h
  | d + 1, v, fuel + 1, hv, hf => by
    refine ⟨vp_in_nI ht (by decide), ?_⟩
    rw [nI_clamp (show t < 2 ^ 31 by omega), hV]
    have IH := gx_au_l ht hs hV hja hjb ha hb hca hcb na nb hga hgb hpa hpb h d (v + 1) fuel (by omega) (by omega)
    obtain ⟨a1, a2⟩ := hpa v (by omega)
    obtain ⟨b1, b2⟩ := hpb v (by omega)
    refine br_f (nI_ge (by omega) (by omega)) (gx_ui ht hja ha hca (by omega) ?_)
    rw [gx_row_o (by omega) (by omega) na, a1]
    refine gx_ui ht hjb hb hcb (by omega) ?_
    rw [gx_row_o (by omega) (by omega) nb, b1]
    refine gx_prod hga a2 (gx_prod hgb b2 (gx_sum (gt_mul_le _ _) (gt_mul_le _ _) ?_))
    rw [gx_ix, nI_clamp (show t * 32 + v < 2 ^ 31 by omega)]
    exact ⟨vp_in_nI (by omega) (by decide), nm_r (gx_row_s us t v (fun v => gt_add (gt_mul ga (pa v)) (gt_mul gb (pb v)))) (nm_r (nI_1 v) IH)⟩
theorem gx_au {post : SX → Prop} {t s ja jb ca cb ga gb : Nat} {pa pb : Nat → Nat} (ht : t < 32) (hs : s ≤ 32) (hV : a_variablesSeen t = nI s) (hja : ja ≤ 2) (hjb : jb ≤ 2)
    (ha : a_nodeAtPlace (3 * t + ja) = nI ca) (hb : a_nodeAtPlace (3 * t + jb) = nI cb) (hca : ca < 32) (hcb : cb < 32) (na : ca ≠ t) (nb : cb ≠ t) (hga : ga ≤ 2) (hgb : gb ≤ 2)
    (hpa : ∀ v, v < s → a_usage (ca * 32 + v) = nI (pa v) ∧ pa v ≤ 2) (hpb : ∀ v, v < s → a_usage (cb * 32 + v) = nI (pb v) ∧ pb v ≤ 2)
    (h : post (f_derefLimit, f_recordLimit, f_frameLimit, f_nodeCount, f_currentStatus, f_faultNode, f_typeCount, f_currentNode, f_currentEnv, f_returning, f_returnedNumber, f_frameCount, f_lastOutcome, f_lastValue, f_derefsMade, f_recordsMade, a_nodeKind, a_nodeArg, a_expectedPlaces, a_nodeAtPlace, a_placeOfNode, a_variablesSeen, a_nodeType, a_gradeOfBinder, a_variableType, gx_row a_usage t s (fun v => gt_add (gt_mul ga (pa v)) (gt_mul gb (pb v))), a_typeKind, a_typeGrade, a_typeLeft, a_typeRight, a_frameMark, a_frameWord, a_frameEnv, a_thunkNode, a_thunkEnv, a_restOfEnv, a_binderOfRecord, a_gradeOfRecord, a_countOfRecord)) : wpX_addUsage post (f_derefLimit, f_recordLimit, f_frameLimit, f_nodeCount, f_currentStatus, f_faultNode, f_typeCount, f_currentNode, f_currentEnv, f_returning, f_returnedNumber, f_frameCount, f_lastOutcome, f_lastValue, f_derefsMade, f_recordsMade, a_nodeKind, a_nodeArg, a_expectedPlaces, a_nodeAtPlace, a_placeOfNode, a_variablesSeen, a_nodeType, a_gradeOfBinder, a_variableType, a_usage, a_typeKind, a_typeGrade, a_typeLeft, a_typeRight, a_frameMark, a_frameWord, a_frameEnv, a_thunkNode, a_thunkEnv, a_restOfEnv, a_binderOfRecord, a_gradeOfRecord, a_countOfRecord) (nI t) (nI ja) (nI ga) (nI jb) (nI gb) := by
  have := gx_au_l ht hs hV hja hjb ha hb hca hcb na nb hga hgb hpa hpb h s 0 (s + 1) (by omega) (by omega)
  rw [gx_row_0] at this
  exact ⟨s + 1, this⟩
theorem gx_ac_l {post : SX → Prop} {t s c0 c1 c2 g : Nat} {us : Nat → Int32} {p0 p1 p2 : Nat → Nat} (ht : t < 32) (hs : s ≤ 32) (hV : a_variablesSeen t = nI s)
    (h0 : a_nodeAtPlace (3 * t + 0) = nI c0) (h1 : a_nodeAtPlace (3 * t + 1) = nI c1) (h2 : a_nodeAtPlace (3 * t + 2) = nI c2) (hc0 : c0 < 32) (hc1 : c1 < 32) (hc2 : c2 < 32) (n0 : c0 ≠ t) (n1 : c1 ≠ t) (n2 : c2 ≠ t) (hg : g ≤ 2)
    (hp0 : ∀ v, v < s → us (c0 * 32 + v) = nI (p0 v) ∧ p0 v ≤ 2) (hp1 : ∀ v, v < s → us (c1 * 32 + v) = nI (p1 v) ∧ p1 v ≤ 2) (hp2 : ∀ v, v < s → us (c2 * 32 + v) = nI (p2 v) ∧ p2 v ≤ 2)
    (h : post (f_derefLimit, f_recordLimit, f_frameLimit, f_nodeCount, f_currentStatus, f_faultNode, f_typeCount, f_currentNode, f_currentEnv, f_returning, f_returnedNumber, f_frameCount, f_lastOutcome, f_lastValue, f_derefsMade, f_recordsMade, a_nodeKind, a_nodeArg, a_expectedPlaces, a_nodeAtPlace, a_placeOfNode, a_variablesSeen, a_nodeType, a_gradeOfBinder, a_variableType, gx_row us t s (fun v => gt_add (gt_mul g (p0 v)) (gt_max (p1 v) (p2 v))), a_typeKind, a_typeGrade, a_typeLeft, a_typeRight, a_frameMark, a_frameWord, a_frameEnv, a_thunkNode, a_thunkEnv, a_restOfEnv, a_binderOfRecord, a_gradeOfRecord, a_countOfRecord)) :
    ∀ d v fuel, v + d = s → d < fuel → wX_addCaseUsage_2 post (nI t) (nI g) f_derefLimit f_recordLimit f_frameLimit f_nodeCount f_currentStatus f_faultNode f_typeCount f_currentNode f_currentEnv f_returning f_returnedNumber f_frameCount f_lastOutcome f_lastValue f_derefsMade f_recordsMade fuel (nI v) a_nodeKind a_nodeArg a_expectedPlaces a_nodeAtPlace a_placeOfNode a_variablesSeen a_nodeType a_gradeOfBinder a_variableType (gx_row us t v (fun v => gt_add (gt_mul g (p0 v)) (gt_max (p1 v) (p2 v)))) a_typeKind a_typeGrade a_typeLeft a_typeRight a_frameMark a_frameWord a_frameEnv a_thunkNode a_thunkEnv a_restOfEnv a_binderOfRecord a_gradeOfRecord a_countOfRecord
  | _, _, 0, _, hf => by omega
  | 0, v, fuel + 1, hv, hf => by
    have e : v = s := by omega
    subst e
    refine ⟨vp_in_nI ht (by decide), ?_⟩
    rw [nI_clamp (show t < 2 ^ 31 by omega), hV]
    exact br_t (nI_le (Nat.le_refl _) (by omega)) h
  | d + 1, v, fuel + 1, hv, hf => by
    refine ⟨vp_in_nI ht (by decide), ?_⟩
    rw [nI_clamp (show t < 2 ^ 31 by omega), hV]
    have IH := gx_ac_l ht hs hV h0 h1 h2 hc0 hc1 hc2 n0 n1 n2 hg hp0 hp1 hp2 h d (v + 1) fuel (by omega) (by omega)
    obtain ⟨a1, a2⟩ := hp0 v (by omega)
    obtain ⟨b1, b2⟩ := hp1 v (by omega)
    obtain ⟨d1, d2⟩ := hp2 v (by omega)
    refine br_f (nI_ge (by omega) (by omega)) (gx_ui (j := 0) ht (by omega) h0 hc0 (by omega) ?_)
    rw [gx_row_o (by omega) (by omega) n0, a1]
    refine gx_ui (j := 1) ht (by omega) h1 hc1 (by omega) ?_
    rw [gx_row_o (by omega) (by omega) n1, b1]
    refine gx_ui (j := 2) ht (by omega) h2 hc2 (by omega) ?_
    rw [gx_row_o (by omega) (by omega) n2, d1]
    refine gx_prod hg a2 (gx_join b2 d2 (gx_sum (gt_mul_le _ _) (gt_max_le b2 d2) ?_))
    rw [gx_ix, nI_clamp (show t * 32 + v < 2 ^ 31 by omega)]
    exact ⟨vp_in_nI (by omega) (by decide), nm_r (gx_row_s us t v (fun v => gt_add (gt_mul g (p0 v)) (gt_max (p1 v) (p2 v)))) (nm_r (nI_1 v) IH)⟩
theorem gx_ac {post : SX → Prop} {t s c0 c1 c2 g : Nat} {p0 p1 p2 : Nat → Nat} (ht : t < 32) (hs : s ≤ 32) (hV : a_variablesSeen t = nI s)
    (h0 : a_nodeAtPlace (3 * t + 0) = nI c0) (h1 : a_nodeAtPlace (3 * t + 1) = nI c1) (h2 : a_nodeAtPlace (3 * t + 2) = nI c2) (hc0 : c0 < 32) (hc1 : c1 < 32) (hc2 : c2 < 32) (n0 : c0 ≠ t) (n1 : c1 ≠ t) (n2 : c2 ≠ t) (hg : g ≤ 2)
    (hp0 : ∀ v, v < s → a_usage (c0 * 32 + v) = nI (p0 v) ∧ p0 v ≤ 2) (hp1 : ∀ v, v < s → a_usage (c1 * 32 + v) = nI (p1 v) ∧ p1 v ≤ 2) (hp2 : ∀ v, v < s → a_usage (c2 * 32 + v) = nI (p2 v) ∧ p2 v ≤ 2)
    (h : post (f_derefLimit, f_recordLimit, f_frameLimit, f_nodeCount, f_currentStatus, f_faultNode, f_typeCount, f_currentNode, f_currentEnv, f_returning, f_returnedNumber, f_frameCount, f_lastOutcome, f_lastValue, f_derefsMade, f_recordsMade, a_nodeKind, a_nodeArg, a_expectedPlaces, a_nodeAtPlace, a_placeOfNode, a_variablesSeen, a_nodeType, a_gradeOfBinder, a_variableType, gx_row a_usage t s (fun v => gt_add (gt_mul g (p0 v)) (gt_max (p1 v) (p2 v))), a_typeKind, a_typeGrade, a_typeLeft, a_typeRight, a_frameMark, a_frameWord, a_frameEnv, a_thunkNode, a_thunkEnv, a_restOfEnv, a_binderOfRecord, a_gradeOfRecord, a_countOfRecord)) : wpX_addCaseUsage post (f_derefLimit, f_recordLimit, f_frameLimit, f_nodeCount, f_currentStatus, f_faultNode, f_typeCount, f_currentNode, f_currentEnv, f_returning, f_returnedNumber, f_frameCount, f_lastOutcome, f_lastValue, f_derefsMade, f_recordsMade, a_nodeKind, a_nodeArg, a_expectedPlaces, a_nodeAtPlace, a_placeOfNode, a_variablesSeen, a_nodeType, a_gradeOfBinder, a_variableType, a_usage, a_typeKind, a_typeGrade, a_typeLeft, a_typeRight, a_frameMark, a_frameWord, a_frameEnv, a_thunkNode, a_thunkEnv, a_restOfEnv, a_binderOfRecord, a_gradeOfRecord, a_countOfRecord) (nI t) (nI g) := by
  have := gx_ac_l ht hs hV h0 h1 h2 hc0 hc1 hc2 n0 n1 n2 hg hp0 hp1 hp2 h s 0 (s + 1) (by omega) (by omega)
  rw [gx_row_0] at this
  exact ⟨s + 1, this⟩
end
end
section
/-! a type's number -/
theorem gx_xt_new {T : gd_Tb} {tc : Nat} {k g l r : Int32} (h : gd_xt T tc) (htc : tc < 32)
    (hl : ¬ k = 1 → ∃ a, a < tc ∧ l = nI a) (hr : ¬ k = 1 → ¬ k = 5 → ∃ b, b < tc ∧ r = nI b) (h1 : k = 1 → l = 0 ∧ r = 0) (h5 : k = 5 → r = 0)
    (hn : ∀ i, i < tc → ¬ (T.1 i = k ∧ T.2.1 i = g ∧ T.2.2.1 i = l ∧ T.2.2.2 i = r)) : gd_xt (upd T.1 tc k, upd T.2.1 tc g, upd T.2.2.1 tc l, upd T.2.2.2 tc r) (tc + 1) := by
  refine ⟨by omega, fun i hi => ?_, fun i j hi hj e1 e2 e3 e4 => ?_⟩
  · unfold gd_xe
    try dsimp only
    rcases Nat.lt_or_ge i tc with z | z
    · have ne : i ≠ tc := by omega
      rw [pk_un ne, pk_un ne, pk_un ne]
      exact h.2.1 i z
    · have e : i = tc := by omega
      subst e
      rw [pk_us, pk_us, pk_us]
      exact ⟨hl, hr, h1, h5⟩
  · dsimp only at e1 e2 e3 e4
    rcases Nat.lt_or_ge i tc with z | z
    · have ni : i ≠ tc := by omega
      rw [pk_un ni] at e1 e2 e3 e4
      rcases Nat.lt_or_ge j tc with y | y
      · have nj : j ≠ tc := by omega
        rw [pk_un nj] at e1 e2 e3 e4
        exact h.2.2 i j z y e1 e2 e3 e4
      · have e : j = tc := by omega
        subst e
        rw [pk_us] at e1 e2 e3 e4
        exact absurd ⟨e1, e2, e3, e4⟩ (hn i z)
    · have e : i = tc := by omega
      subst e
      rw [pk_us] at e1 e2 e3 e4
      rcases Nat.lt_or_ge j i with y | y
      · have nj : j ≠ i := by omega
        rw [pk_un nj] at e1 e2 e3 e4
        exact absurd ⟨e1.symm, e2.symm, e3.symm, e4.symm⟩ (hn j y)
      · omega
theorem gx_ext_new (T : gd_Tb) (tc : Nat) (k g l r : Int32) : gd_ext T (upd T.1 tc k, upd T.2.1 tc g, upd T.2.2.1 tc l, upd T.2.2.2 tc r) tc := by
  intro x hx
  have ne : x ≠ tc := by omega
  try dsimp only
  rw [pk_un ne, pk_un ne, pk_un ne, pk_un ne]
  exact ⟨rfl, rfl, rfl, rfl⟩
section
variable {f_derefLimit f_recordLimit f_frameLimit f_nodeCount f_currentStatus f_faultNode f_typeCount f_currentNode f_currentEnv f_returning f_returnedNumber f_frameCount f_lastOutcome f_lastValue f_derefsMade f_recordsMade : Int32} {a_nodeKind a_nodeArg a_expectedPlaces a_nodeAtPlace a_placeOfNode a_variablesSeen a_nodeType a_gradeOfBinder a_variableType a_usage a_typeKind a_typeGrade a_typeLeft a_typeRight a_frameMark a_frameWord a_frameEnv a_thunkNode a_thunkEnv a_restOfEnv a_binderOfRecord a_gradeOfRecord a_countOfRecord : Nat → Int32}
theorem gx_tn_l {post : Int32 → SX → Prop} {tc : Nat} {k g l r : Int32} (htc : tc < 32)
    (hNew : (∀ i, i < tc → ¬ (a_typeKind i = k ∧ a_typeGrade i = g ∧ a_typeLeft i = l ∧ a_typeRight i = r)) → post (nI tc) (f_derefLimit, f_recordLimit, f_frameLimit, f_nodeCount, f_currentStatus, f_faultNode, nI (tc + 1), f_currentNode, f_currentEnv, f_returning, f_returnedNumber, f_frameCount, f_lastOutcome, f_lastValue, f_derefsMade, f_recordsMade, a_nodeKind, a_nodeArg, a_expectedPlaces, a_nodeAtPlace, a_placeOfNode, a_variablesSeen, a_nodeType, a_gradeOfBinder, a_variableType, a_usage, upd a_typeKind tc k, upd a_typeGrade tc g, upd a_typeLeft tc l, upd a_typeRight tc r, a_frameMark, a_frameWord, a_frameEnv, a_thunkNode, a_thunkEnv, a_restOfEnv, a_binderOfRecord, a_gradeOfRecord, a_countOfRecord))
    (hOld : ∀ i, i < tc → a_typeKind i = k → a_typeGrade i = g → a_typeLeft i = l → a_typeRight i = r → post (nI i) (f_derefLimit, f_recordLimit, f_frameLimit, f_nodeCount, f_currentStatus, f_faultNode, nI tc, f_currentNode, f_currentEnv, f_returning, f_returnedNumber, f_frameCount, f_lastOutcome, f_lastValue, f_derefsMade, f_recordsMade, a_nodeKind, a_nodeArg, a_expectedPlaces, a_nodeAtPlace, a_placeOfNode, a_variablesSeen, a_nodeType, a_gradeOfBinder, a_variableType, a_usage, a_typeKind, a_typeGrade, a_typeLeft, a_typeRight, a_frameMark, a_frameWord, a_frameEnv, a_thunkNode, a_thunkEnv, a_restOfEnv, a_binderOfRecord, a_gradeOfRecord, a_countOfRecord)) :
    ∀ d i fuel, i + d = tc → d < fuel → (∀ j, j < i → ¬ (a_typeKind j = k ∧ a_typeGrade j = g ∧ a_typeLeft j = l ∧ a_typeRight j = r)) → wX_typeNumber_3 post k g l r f_derefLimit f_recordLimit f_frameLimit f_nodeCount f_currentStatus f_faultNode (nI tc) f_currentNode f_currentEnv f_returning f_returnedNumber f_frameCount f_lastOutcome f_lastValue f_derefsMade f_recordsMade a_nodeKind a_nodeArg a_expectedPlaces a_nodeAtPlace a_placeOfNode a_variablesSeen a_nodeType a_gradeOfBinder a_variableType a_usage a_typeKind a_typeGrade a_typeLeft a_typeRight a_frameMark a_frameWord a_frameEnv a_thunkNode a_thunkEnv a_restOfEnv a_binderOfRecord a_gradeOfRecord a_countOfRecord fuel (nI i)
  | _, _, 0, _, hf, _ => by omega
  | 0, i, fuel + 1, hi, hf, hb => by
    have e : i = tc := by omega
    subst e
    refine br_t (nI_le (Nat.le_refl _) (by omega)) ?_
    rw [nI_clamp (show i < 2 ^ 31 by omega)]
    have v := vp_in_nI (show i < 32 from htc) (by decide)
    exact ⟨v, nm_e ⟨v, nm_e ⟨v, nm_e ⟨v, nm_e (nm_r (nI_1 i) (hNew hb))⟩⟩⟩⟩
  | d + 1, i, fuel + 1, hi, hf, hb => by
    have IH : ¬ (a_typeKind i = k ∧ a_typeGrade i = g ∧ a_typeLeft i = l ∧ a_typeRight i = r) → wX_typeNumber_3 post k g l r f_derefLimit f_recordLimit f_frameLimit f_nodeCount f_currentStatus f_faultNode (nI tc) f_currentNode f_currentEnv f_returning f_returnedNumber f_frameCount f_lastOutcome f_lastValue f_derefsMade f_recordsMade a_nodeKind a_nodeArg a_expectedPlaces a_nodeAtPlace a_placeOfNode a_variablesSeen a_nodeType a_gradeOfBinder a_variableType a_usage a_typeKind a_typeGrade a_typeLeft a_typeRight a_frameMark a_frameWord a_frameEnv a_thunkNode a_thunkEnv a_restOfEnv a_binderOfRecord a_gradeOfRecord a_countOfRecord fuel (nI (i + 1)) := fun y =>
      gx_tn_l htc hNew hOld d (i + 1) fuel (by omega) (by omega) (fun j hj => by
        rcases Nat.lt_or_ge j i with z | z
        · exact hb j z
        · have e : j = i := by omega
          subst e
          exact y)
    have v := vp_in_nI (show i < 32 by omega) (by decide)
    refine br_f (nI_ge (by omega) (by omega)) ⟨v, ?_⟩
    rw [nI_clamp (show i < 2 ^ 31 by omega)]
    refine br_c (fun e1 => ⟨v, br_c (fun e2 => ⟨v, br_c (fun e3 => ⟨v, br_c (fun e4 => hOld i (by omega) e1 e2 e3 e4) (fun e4 => nm_r (nI_1 i) (IH (fun z => e4 z.2.2.2)))⟩) (fun e3 => nm_r (nI_1 i) (IH (fun z => e3 z.2.2.1)))⟩) (fun e2 => nm_r (nI_1 i) (IH (fun z => e2 z.2.1)))⟩) (fun e1 => nm_r (nI_1 i) (IH (fun z => e1 z.1)))
/-- typeNumber gives the entry of the type that is made of the two parts -/
theorem gx_tn {post : Int32 → SX → Prop} {tc : Nat} {k g l r : Int32} {τl τr : gt_Ty} (htc : tc < 32) (hT : gd_xt (a_typeKind, a_typeGrade, a_typeLeft, a_typeRight) tc)
    (hl : ¬ k = 1 → ∃ a, a < tc ∧ l = nI a ∧ gd_D (a_typeKind, a_typeGrade, a_typeLeft, a_typeRight) a = τl)
    (hr : ¬ k = 1 → ¬ k = 5 → ∃ b, b < tc ∧ r = nI b ∧ gd_D (a_typeKind, a_typeGrade, a_typeLeft, a_typeRight) b = τr) (h1 : k = 1 → l = 0 ∧ r = 0) (h5 : k = 5 → r = 0)
    (h : ∀ x tc' tk tg tl tr, x < tc' → tc ≤ tc' → tc' ≤ tc + 1 → gd_xt (tk, tg, tl, tr) tc' → gd_ext (a_typeKind, a_typeGrade, a_typeLeft, a_typeRight) (tk, tg, tl, tr) tc → gd_D (tk, tg, tl, tr) x = gt_mk k g τl τr →
      post (nI x) (f_derefLimit, f_recordLimit, f_frameLimit, f_nodeCount, f_currentStatus, f_faultNode, nI tc', f_currentNode, f_currentEnv, f_returning, f_returnedNumber, f_frameCount, f_lastOutcome, f_lastValue, f_derefsMade, f_recordsMade, a_nodeKind, a_nodeArg, a_expectedPlaces, a_nodeAtPlace, a_placeOfNode, a_variablesSeen, a_nodeType, a_gradeOfBinder, a_variableType, a_usage, tk, tg, tl, tr, a_frameMark, a_frameWord, a_frameEnv, a_thunkNode, a_thunkEnv, a_restOfEnv, a_binderOfRecord, a_gradeOfRecord, a_countOfRecord)) : wpX_typeNumber post (f_derefLimit, f_recordLimit, f_frameLimit, f_nodeCount, f_currentStatus, f_faultNode, nI tc, f_currentNode, f_currentEnv, f_returning, f_returnedNumber, f_frameCount, f_lastOutcome, f_lastValue, f_derefsMade, f_recordsMade, a_nodeKind, a_nodeArg, a_expectedPlaces, a_nodeAtPlace, a_placeOfNode, a_variablesSeen, a_nodeType, a_gradeOfBinder, a_variableType, a_usage, a_typeKind, a_typeGrade, a_typeLeft, a_typeRight, a_frameMark, a_frameWord, a_frameEnv, a_thunkNode, a_thunkEnv, a_restOfEnv, a_binderOfRecord, a_gradeOfRecord, a_countOfRecord) k g l r := by
  have hl' : ¬ k = 1 → ∃ a, a < tc ∧ l = nI a := fun z => by obtain ⟨a, a1, a2, _⟩ := hl z; exact ⟨a, a1, a2⟩
  have hr' : ¬ k = 1 → ¬ k = 5 → ∃ b, b < tc ∧ r = nI b := fun z y => by obtain ⟨a, a1, a2, _⟩ := hr z y; exact ⟨a, a1, a2⟩
  have key : ∀ (T' : gd_Tb) (x : Nat), gd_ext (a_typeKind, a_typeGrade, a_typeLeft, a_typeRight) T' tc → T'.1 x = k → T'.2.1 x = g → T'.2.2.1 x = l → T'.2.2.2 x = r → gd_D T' x = gt_mk k g τl τr := by
    intro T' x he e1 e2 e3 e4
    rw [gd_mkD, e1, e2]
    by_cases z : k = 1
    · rw [z]; exact gt_mk_1
    · obtain ⟨a, a1, a2, a3⟩ := hl z
      have eL : gd_D T' (gd_L T' x) = τl := by
        unfold gd_L; rw [e3, a2, nI_clamp (by omega), gd_ext_D hT he a1]; exact a3
      rw [eL]
      by_cases y : k = 5
      · rw [y]; exact gt_mk_5
      · obtain ⟨b, b1, b2, b3⟩ := hr z y
        have eR : gd_D T' (gd_R T' x) = τr := by
          unfold gd_R; rw [e4, b2, nI_clamp (by omega), gd_ext_D hT he b1]; exact b3
        rw [eR]
  refine ⟨tc + 1, gx_tn_l htc (fun hn => ?_) (fun i hi e1 e2 e3 e4 => ?_) tc 0 (tc + 1) (by omega) (by omega) (fun j hj => by omega)⟩
  · refine h tc (tc + 1) _ _ _ _ (by omega) (by omega) (by omega) (gx_xt_new hT htc hl' hr' h1 h5 hn) (gx_ext_new _ tc k g l r) ?_
    exact key _ tc (gx_ext_new _ tc k g l r) pk_us pk_us pk_us pk_us
  · exact h i tc _ _ _ _ hi (Nat.le_refl _) (by omega) hT (gd_ext_r _ _) (key _ i (gd_ext_r _ _) e1 e2 e3 e4)
end
end
section
/-- what the component holds of the nodes in P -/
def gx_TI (kd : Nat → Nat) (ag : Nat → Int32) (n : Nat) (P : Nat → Prop) (tc : Nat) (nt gb us : Nat → Int32) (T : gd_Tb) : Prop := gd_xt T tc ∧ ∀ d, P d → d < n ∧ (∃ x, x < tc ∧ nt d = nI x ∧ gd_D T x = gt_t kd ag n d) ∧
  (¬ kd d ≤ 5 → ∀ v, v < gp_sn kd d → us (d * 32 + v) = nI (gt_u kd ag n d v)) ∧ ((kd d = 9 ∨ kd d = 12 ∨ kd d = 15 ∨ kd d = 17) → gb d = nI (gt_b kd ag n d))
theorem gx_TI_add {kd : Nat → Nat} {ag : Nat → Int32} {n t tc tc' x : Nat} {P : Nat → Prop} {nt gb us gb' us' : Nat → Int32} {T T' : gd_Tb} (ok : gp_ok kd n) (I : gx_TI kd ag n P tc nt gb us T) (ht : t < n) (hnP : ¬ P t)
    (htc : tc ≤ tc') (hT : gd_xt T' tc') (he : gd_ext T T' tc) (hx : x < tc') (hD : gd_D T' x = gt_t kd ag n t) (hu : ∀ i, (i < t * 32 ∨ t * 32 + 32 ≤ i) → us' i = us i)
    (hut : ¬ kd t ≤ 5 → ∀ v, v < gp_sn kd t → us' (t * 32 + v) = nI (gt_u kd ag n t v)) (hg : ∀ i, i ≠ t → gb' i = gb i) (hgt : (kd t = 9 ∨ kd t = 12 ∨ kd t = 15 ∨ kd t = 17) → gb' t = nI (gt_b kd ag n t)) :
    gx_TI kd ag n (fun d => P d ∨ d = t) tc' (upd nt t (nI x)) gb' us' T' := by
  refine ⟨hT, fun d hd => ?_⟩
  rcases hd with hd | hd
  · have ne : d ≠ t := fun z => by rw [z] at hd; exact hnP hd
    obtain ⟨a, ⟨y, b1, b2, b3⟩, c, e⟩ := I.2 d hd
    refine ⟨a, ⟨y, by omega, by rw [pk_un ne]; exact b2, by rw [gd_ext_D I.1 he b1]; exact b3⟩, fun k v hv => ?_, fun k => by rw [hg d ne]; exact e k⟩
    have := gp_sn_lt ok a
    have := ok.2.1
    rw [hu _ (by omega)]
    exact c k v hv
  · subst hd
    exact ⟨ht, ⟨x, hx, pk_us, hD⟩, hut, hgt⟩
def gx_S (kd : Nat → Nat) (n : Nat) (nk vs np : Nat → Int32) : Prop := (∀ i, i < n → nk i = nI (kd i)) ∧ (∀ i, i < n → vs i = nI (gp_sn kd i)) ∧ (∀ i, i < n → ∀ j, j < gp_ar (kd i) → np (3 * i + j) = nI (gp_ch kd n i j))
theorem gx_chf {kd : Nat → Nat} {n t j : Nat} {nk vs np : Nat → Int32} (ok : gp_ok kd n) (S : gx_S kd n nk vs np) (ht : t < n) (hj : j < gp_ar (kd t)) : gp_ch kd n t j < 32 ∧ gp_ch kd n t j ≠ t ∧ np (3 * t + j) = nI (gp_ch kd n t j) ∧ j ≤ 2 := by
  have a := (gp_ch_lt ok ht hj).1
  have b := gp_ch_ge ok ht (Nat.le_of_lt hj)
  have c := ok.2.1
  have d := gp_ar_le (kd t)
  exact ⟨by omega, by omega, S.2.2 t ht j hj, by omega⟩
section
variable {f_derefLimit f_recordLimit f_frameLimit f_nodeCount f_currentStatus f_faultNode f_typeCount f_currentNode f_currentEnv f_returning f_returnedNumber f_frameCount f_lastOutcome f_lastValue f_derefsMade f_recordsMade : Int32} {a_nodeKind a_nodeArg a_expectedPlaces a_nodeAtPlace a_placeOfNode a_variablesSeen a_nodeType a_gradeOfBinder a_variableType a_usage a_typeKind a_typeGrade a_typeLeft a_typeRight a_frameMark a_frameWord a_frameEnv a_thunkNode a_thunkEnv a_restOfEnv a_binderOfRecord a_gradeOfRecord a_countOfRecord : Nat → Int32}
theorem gx_cType {post : SX → Prop} {kd : Nat → Nat} {n t tc : Nat} {P : Nat → Prop} (A : gt_P kd a_nodeArg n) (S : gx_S kd n a_nodeKind a_variablesSeen a_nodeAtPlace) (I : gx_TI kd a_nodeArg n P tc a_nodeType a_gradeOfBinder a_usage (a_typeKind, a_typeGrade, a_typeLeft, a_typeRight)) (ht : t < n) (hc : ∀ j, j < gp_ar (kd t) → P (gp_ch kd n t j)) (hnP : ¬ P t) (htc : tc < 32) (hk : kd t ≤ 5) (hOK : ∀ tc' nt gb us tk tg tl tr, gx_TI kd a_nodeArg n (fun d => P d ∨ d = t) tc' nt gb us (tk, tg, tl, tr) → tc ≤ tc' → tc' ≤ tc + 1 → gd_ext (a_typeKind, a_typeGrade, a_typeLeft, a_typeRight) (tk, tg, tl, tr) tc → post (f_derefLimit, f_recordLimit, f_frameLimit, f_nodeCount, f_currentStatus, f_faultNode, nI tc', f_currentNode, f_currentEnv, f_returning, f_returnedNumber, f_frameCount, f_lastOutcome, f_lastValue, f_derefsMade, f_recordsMade, a_nodeKind, a_nodeArg, a_expectedPlaces, a_nodeAtPlace, a_placeOfNode, a_variablesSeen, nt, gb, a_variableType, us, tk, tg, tl, tr, a_frameMark, a_frameWord, a_frameEnv, a_thunkNode, a_thunkEnv, a_restOfEnv, a_binderOfRecord, a_gradeOfRecord, a_countOfRecord)) :
    wpX_completeType post (f_derefLimit, f_recordLimit, f_frameLimit, f_nodeCount, f_currentStatus, f_faultNode, nI tc, f_currentNode, f_currentEnv, f_returning, f_returnedNumber, f_frameCount, f_lastOutcome, f_lastValue, f_derefsMade, f_recordsMade, a_nodeKind, a_nodeArg, a_expectedPlaces, a_nodeAtPlace, a_placeOfNode, a_variablesSeen, a_nodeType, a_gradeOfBinder, a_variableType, a_usage, a_typeKind, a_typeGrade, a_typeLeft, a_typeRight, a_frameMark, a_frameWord, a_frameEnv, a_thunkNode, a_thunkEnv, a_restOfEnv, a_binderOfRecord, a_gradeOfRecord, a_countOfRecord) (nI t) := by
  obtain ⟨ok, so, kr, -⟩ := A
  have hn := ok.2.1
  have t32 : t < 32 := by omega
  have v := vp_in_nI t32 (by decide)
  have et : (nI t).toNatClampNeg = t := nI_clamp (by omega)
  have k1 := (kr t ht).1
  unfold wpX_completeType
  try dsimp only
  rw [et, S.1 t ht]
  refine ⟨v, nm_e (gx_cc k1 (kr t ht).2 ?_)⟩
  have fin : ∀ {l r : Int32} {τl τr : gt_Ty}, (¬ nI (kd t) = 1 → ∃ a, a < tc ∧ l = nI a ∧ gd_D (a_typeKind, a_typeGrade, a_typeLeft, a_typeRight) a = τl) → (¬ nI (kd t) = 1 → ¬ nI (kd t) = 5 → ∃ b, b < tc ∧ r = nI b ∧ gd_D (a_typeKind, a_typeGrade, a_typeLeft, a_typeRight) b = τr) →
      (nI (kd t) = 1 → l = 0 ∧ r = 0) → (nI (kd t) = 5 → r = 0) → gt_t kd a_nodeArg n t = gt_mk (nI (kd t)) (a_nodeArg t) τl τr → wX_completeType_43 post (nI t) (nI (kd t)) l r f_derefLimit f_recordLimit f_frameLimit f_nodeCount f_currentStatus f_faultNode (nI tc) f_currentNode f_currentEnv f_returning f_returnedNumber f_frameCount f_lastOutcome f_lastValue f_derefsMade f_recordsMade a_nodeKind a_nodeArg a_expectedPlaces a_nodeAtPlace a_placeOfNode a_variablesSeen a_nodeType a_gradeOfBinder a_variableType a_usage a_typeKind a_typeGrade a_typeLeft a_typeRight a_frameMark a_frameWord a_frameEnv a_thunkNode a_thunkEnv a_restOfEnv a_binderOfRecord a_gradeOfRecord a_countOfRecord := by
    intro l r τl τr h1 h2 h3 h4 e
    unfold wX_completeType_43
    try rw [et]
    refine ⟨v, gx_tn htc I.1 h1 h2 h3 h4 (fun x tc' tk tg tl tr hx a1 a2 a3 a4 a5 => ?_)⟩
    exact ⟨v, nm_e (hOK tc' _ _ _ tk tg tl tr (gx_TI_add ok I ht hnP a1 a3 a4 hx (a5.trans e.symm) (fun _ _ => rfl) (fun z => absurd hk z) (fun _ _ => rfl) (fun z => by omega)) a1 a2 a4)⟩
  have hk' : kd t = 1 ∨ kd t = 5 ∨ kd t = 2 ∨ kd t = 3 ∨ kd t = 4 := by omega
  rcases hk' with e | e | e
  · rw [e] at fin ⊢
    refine br_t (by decide) (br_t (by decide) (fin (τl := fun _ => none) (τr := fun _ => none) (fun z => absurd rfl z) (fun z => absurd rfl z) (fun _ => ⟨rfl, rfl⟩) (fun _ => rfl) ?_))
    exact gt_q1 e _ _
  · obtain ⟨c1, c2, c3, c4⟩ := gx_chf ok S ht (j := 0) (by rw [e]; decide)
    obtain ⟨_, ⟨x, x1, x2, x3⟩, _⟩ := I.2 _ (hc 0 (by rw [e]; decide))
    rw [e] at fin ⊢
    refine br_f (by decide) (gx_tc (j := 0) t32 c4 c3 c1 ?_)
    rw [x2]
    refine br_t (by decide) (fin (τr := fun _ => none) (fun _ => ⟨x, x1, rfl, x3⟩) (fun _ z => absurd rfl z) (fun z => absurd z (by decide)) (fun _ => rfl) ?_)
    exact gt_q5 ok ht e _
  · have ar : gp_ar (kd t) = 2 := by rcases e with e | e | e <;> rw [e] <;> decide
    obtain ⟨c1, c2, c3, c4⟩ := gx_chf ok S ht (j := 0) (by omega)
    obtain ⟨d1, d2, d3, d4⟩ := gx_chf ok S ht (j := 1) (by omega)
    obtain ⟨_, ⟨x, x1, x2, x3⟩, _⟩ := I.2 _ (hc 0 (by omega))
    obtain ⟨_, ⟨y, y1, y2, y3⟩, _⟩ := I.2 _ (hc 1 (by omega))
    rw [ar]
    refine br_f (by decide) (gx_tc (j := 0) t32 c4 c3 c1 ?_)
    rw [x2]
    refine br_f (by decide) (gx_tc (j := 1) t32 d4 d3 d1 ?_)
    rw [y2]
    have n1 : ¬ nI (kd t) = 1 := by rcases e with e | e | e <;> rw [e] <;> decide
    have n5 : ¬ nI (kd t) = 5 := by rcases e with e | e | e <;> rw [e] <;> decide
    refine fin (fun _ => ⟨x, x1, rfl, x3⟩) (fun _ _ => ⟨y, y1, rfl, y3⟩) (fun z => absurd z n1) (fun z => absurd z n5) ?_
    rcases e with e | e | e
    · rw [e]; exact gt_q2 ok ht e
    · rw [e]; exact gt_q3 ok ht e
    · rw [e]; exact gt_q4 ok ht e
end
end
section
theorem gt_e2_z {kd : Nat → Nat} {ag : Nat → Int32} {n t : Nat} (h : kd t ≠ 8 ∧ kd t ≠ 9 ∧ kd t ≠ 10 ∧ kd t ≠ 12 ∧ kd t ≠ 15 ∧ kd t ≠ 17) : gt_e2 kd ag n t = 0 := by
  unfold gt_e2
  rw [gt_if_f (by omega), gt_if_f (by omega)]
theorem gx_cu {kd : Nat → Nat} {ag : Nat → Int32} {n t tc j : Nat} {P : Nat → Prop} {nt gb us : Nat → Int32} {T : gd_Tb} (A : gt_P kd ag n) (I : gx_TI kd ag n P tc nt gb us T) (ht : t < n) (hj : j < gp_ar (kd t)) (hc : P (gp_ch kd n t j)) (hk : ¬ kd (gp_ch kd n t j) ≤ 5) :
    (∀ v, v < gp_sn kd t + gp_bd (kd t) j → us (gp_ch kd n t j * 32 + v) = nI (gt_u kd ag n (gp_ch kd n t j) v) ∧ gt_u kd ag n (gp_ch kd n t j) v ≤ 2) := by
  intro v hv
  have ok := A.1
  rw [← gp_sn_ch ok ht hj] at hv
  exact ⟨(I.2 _ hc).2.2.1 hk v hv, gt_ule A (gp_ch_lt ok ht hj).1 hk v⟩
section
variable {f_derefLimit f_recordLimit f_frameLimit f_nodeCount f_currentStatus f_faultNode f_typeCount f_currentNode f_currentEnv f_returning f_returnedNumber f_frameCount f_lastOutcome f_lastValue f_derefsMade f_recordsMade : Int32} {a_nodeKind a_nodeArg a_expectedPlaces a_nodeAtPlace a_placeOfNode a_variablesSeen a_nodeType a_gradeOfBinder a_variableType a_usage a_typeKind a_typeGrade a_typeLeft a_typeRight a_frameMark a_frameWord a_frameEnv a_thunkNode a_thunkEnv a_restOfEnv a_binderOfRecord a_gradeOfRecord a_countOfRecord : Nat → Int32}
theorem gx_nk {post : Int32 → SX → Prop} {t x : Nat} {k : Int32} (hx : x < 32) (h1 : a_typeKind x = k → post 1 (f_derefLimit, f_recordLimit, f_frameLimit, f_nodeCount, f_currentStatus, f_faultNode, f_typeCount, f_currentNode, f_currentEnv, f_returning, f_returnedNumber, f_frameCount, f_lastOutcome, f_lastValue, f_derefsMade, f_recordsMade, a_nodeKind, a_nodeArg, a_expectedPlaces, a_nodeAtPlace, a_placeOfNode, a_variablesSeen, a_nodeType, a_gradeOfBinder, a_variableType, a_usage, a_typeKind, a_typeGrade, a_typeLeft, a_typeRight, a_frameMark, a_frameWord, a_frameEnv, a_thunkNode, a_thunkEnv, a_restOfEnv, a_binderOfRecord, a_gradeOfRecord, a_countOfRecord)) (h0 : ¬ a_typeKind x = k → post 0 (f_derefLimit, f_recordLimit, f_frameLimit, f_nodeCount, 4, nI t, f_typeCount, f_currentNode, f_currentEnv, f_returning, f_returnedNumber, f_frameCount, f_lastOutcome, f_lastValue, f_derefsMade, f_recordsMade, a_nodeKind, a_nodeArg, a_expectedPlaces, a_nodeAtPlace, a_placeOfNode, a_variablesSeen, a_nodeType, a_gradeOfBinder, a_variableType, a_usage, a_typeKind, a_typeGrade, a_typeLeft, a_typeRight, a_frameMark, a_frameWord, a_frameEnv, a_thunkNode, a_thunkEnv, a_restOfEnv, a_binderOfRecord, a_gradeOfRecord, a_countOfRecord)) : wpX_needKind post (f_derefLimit, f_recordLimit, f_frameLimit, f_nodeCount, f_currentStatus, f_faultNode, f_typeCount, f_currentNode, f_currentEnv, f_returning, f_returnedNumber, f_frameCount, f_lastOutcome, f_lastValue, f_derefsMade, f_recordsMade, a_nodeKind, a_nodeArg, a_expectedPlaces, a_nodeAtPlace, a_placeOfNode, a_variablesSeen, a_nodeType, a_gradeOfBinder, a_variableType, a_usage, a_typeKind, a_typeGrade, a_typeLeft, a_typeRight, a_frameMark, a_frameWord, a_frameEnv, a_thunkNode, a_thunkEnv, a_restOfEnv, a_binderOfRecord, a_gradeOfRecord, a_countOfRecord) (nI t) (nI x) k := by
  unfold wpX_needKind
  try dsimp only
  rw [nI_clamp (show x < 2 ^ 31 by omega)]
  exact ⟨vp_in_nI hx (by decide), br_c h1 h0⟩
theorem gx_ux {post : Int32 → Prop} {t c s : Nat} (ht : t < 32) (hV : a_variablesSeen t = nI s) (hs : s < 32) (hc : a_nodeAtPlace (3 * t + 1) = nI c) (hc2 : c < 32) (h : post (a_usage (c * 32 + s))) : wpX_usageOfX post (f_derefLimit, f_recordLimit, f_frameLimit, f_nodeCount, f_currentStatus, f_faultNode, f_typeCount, f_currentNode, f_currentEnv, f_returning, f_returnedNumber, f_frameCount, f_lastOutcome, f_lastValue, f_derefsMade, f_recordsMade, a_nodeKind, a_nodeArg, a_expectedPlaces, a_nodeAtPlace, a_placeOfNode, a_variablesSeen, a_nodeType, a_gradeOfBinder, a_variableType, a_usage, a_typeKind, a_typeGrade, a_typeLeft, a_typeRight, a_frameMark, a_frameWord, a_frameEnv, a_thunkNode, a_thunkEnv, a_restOfEnv, a_binderOfRecord, a_gradeOfRecord, a_countOfRecord) (nI t) := by
  unfold wpX_usageOfX
  try dsimp only
  rw [nI_clamp (show t < 2 ^ 31 by omega), hV]
  exact ⟨vp_in_nI ht (by decide), gx_ui (j := 1) ht (by omega) hc hc2 hs h⟩
theorem gx_uyP {post : Int32 → Prop} {t c s k : Nat} (ht : t < 32) (hk : a_nodeKind t = nI k) (hk2 : k ≤ 17) (k15 : k ≠ 15) (hV : a_variablesSeen t = nI s) (hs : s + 1 < 32) (hc : a_nodeAtPlace (3 * t + 1) = nI c) (hc2 : c < 32) (h : post (a_usage (c * 32 + (s + 1)))) : wpX_usageOfY post (f_derefLimit, f_recordLimit, f_frameLimit, f_nodeCount, f_currentStatus, f_faultNode, f_typeCount, f_currentNode, f_currentEnv, f_returning, f_returnedNumber, f_frameCount, f_lastOutcome, f_lastValue, f_derefsMade, f_recordsMade, a_nodeKind, a_nodeArg, a_expectedPlaces, a_nodeAtPlace, a_placeOfNode, a_variablesSeen, a_nodeType, a_gradeOfBinder, a_variableType, a_usage, a_typeKind, a_typeGrade, a_typeLeft, a_typeRight, a_frameMark, a_frameWord, a_frameEnv, a_thunkNode, a_thunkEnv, a_restOfEnv, a_binderOfRecord, a_gradeOfRecord, a_countOfRecord) (nI t) := by
  unfold wpX_usageOfY
  try dsimp only
  rw [nI_clamp (show t < 2 ^ 31 by omega), hV, hk, nI_1]
  exact ⟨vp_in_nI ht (by decide), pk_eq k 15 (fun z => absurd z k15) (fun _ => ⟨vp_in_nI ht (by decide), gx_ui (j := 1) ht (by omega) hc hc2 hs h⟩)⟩
theorem gx_uyC {post : Int32 → Prop} {t c s : Nat} (ht : t < 32) (hk : a_nodeKind t = nI 15) (hV : a_variablesSeen t = nI s) (hs : s < 32) (hc : a_nodeAtPlace (3 * t + 2) = nI c) (hc2 : c < 32) (h : post (a_usage (c * 32 + s))) : wpX_usageOfY post (f_derefLimit, f_recordLimit, f_frameLimit, f_nodeCount, f_currentStatus, f_faultNode, f_typeCount, f_currentNode, f_currentEnv, f_returning, f_returnedNumber, f_frameCount, f_lastOutcome, f_lastValue, f_derefsMade, f_recordsMade, a_nodeKind, a_nodeArg, a_expectedPlaces, a_nodeAtPlace, a_placeOfNode, a_variablesSeen, a_nodeType, a_gradeOfBinder, a_variableType, a_usage, a_typeKind, a_typeGrade, a_typeLeft, a_typeRight, a_frameMark, a_frameWord, a_frameEnv, a_thunkNode, a_thunkEnv, a_restOfEnv, a_binderOfRecord, a_gradeOfRecord, a_countOfRecord) (nI t) := by
  unfold wpX_usageOfY
  try dsimp only
  rw [nI_clamp (show t < 2 ^ 31 by omega), hV, hk]
  exact ⟨vp_in_nI ht (by decide), br_t (by decide) ⟨vp_in_nI ht (by decide), gx_ui (j := 2) ht (by omega) hc hc2 hs h⟩⟩
theorem gx_sg {post : SX → Prop} {t a m : Nat} (ht : t < 32) (ha : a_nodeArg t = nI a) (ha3 : a ≤ 3) (hm : m ≤ 2)
    (h : ¬ (¬ a_nodeArg t = 3 ∧ (a_nodeArg t).toNatClampNeg < m) → post (f_derefLimit, f_recordLimit, f_frameLimit, f_nodeCount, f_currentStatus, f_faultNode, f_typeCount, f_currentNode, f_currentEnv, f_returning, f_returnedNumber, f_frameCount, f_lastOutcome, f_lastValue, f_derefsMade, f_recordsMade, a_nodeKind, a_nodeArg, a_expectedPlaces, a_nodeAtPlace, a_placeOfNode, a_variablesSeen, a_nodeType, upd a_gradeOfBinder t (nI (gt_se (a_nodeArg t) m)), a_variableType, a_usage, a_typeKind, a_typeGrade, a_typeLeft, a_typeRight, a_frameMark, a_frameWord, a_frameEnv, a_thunkNode, a_thunkEnv, a_restOfEnv, a_binderOfRecord, a_gradeOfRecord, a_countOfRecord))
    (hF : (¬ a_nodeArg t = 3 ∧ (a_nodeArg t).toNatClampNeg < m) → post (f_derefLimit, f_recordLimit, f_frameLimit, f_nodeCount, 5, nI t, f_typeCount, f_currentNode, f_currentEnv, f_returning, f_returnedNumber, f_frameCount, f_lastOutcome, f_lastValue, f_derefsMade, f_recordsMade, a_nodeKind, a_nodeArg, a_expectedPlaces, a_nodeAtPlace, a_placeOfNode, a_variablesSeen, a_nodeType, upd a_gradeOfBinder t (nI (gt_se (a_nodeArg t) m)), a_variableType, a_usage, a_typeKind, a_typeGrade, a_typeLeft, a_typeRight, a_frameMark, a_frameWord, a_frameEnv, a_thunkNode, a_thunkEnv, a_restOfEnv, a_binderOfRecord, a_gradeOfRecord, a_countOfRecord)) : wpX_settleGrade post (f_derefLimit, f_recordLimit, f_frameLimit, f_nodeCount, f_currentStatus, f_faultNode, f_typeCount, f_currentNode, f_currentEnv, f_returning, f_returnedNumber, f_frameCount, f_lastOutcome, f_lastValue, f_derefsMade, f_recordsMade, a_nodeKind, a_nodeArg, a_expectedPlaces, a_nodeAtPlace, a_placeOfNode, a_variablesSeen, a_nodeType, a_gradeOfBinder, a_variableType, a_usage, a_typeKind, a_typeGrade, a_typeLeft, a_typeRight, a_frameMark, a_frameWord, a_frameEnv, a_thunkNode, a_thunkEnv, a_restOfEnv, a_binderOfRecord, a_gradeOfRecord, a_countOfRecord) (nI t) (nI m) := by
  unfold wpX_settleGrade
  try dsimp only
  have v := vp_in_nI ht (by decide)
  rw [nI_clamp (show t < 2 ^ 31 by omega)]
  refine ⟨v, br_c (fun z => ⟨v, nm_e ?_⟩) (fun z => ⟨v, v, nm_e ⟨v, ?_⟩⟩)⟩
  · have e : gt_se (a_nodeArg t) m = m := if_pos z
    rw [e] at h
    exact h (fun y => y.1 z)
  · have ea : (a_nodeArg t).toNatClampNeg = a := by rw [ha]; exact nI_clamp (by omega)
    have e : nI (gt_se (a_nodeArg t) m) = a_nodeArg t := by unfold gt_se; rw [if_neg z, ea, ha]
    rw [e] at h hF
    rw [ea] at h hF
    rw [ha] at h hF z ⊢
    refine pk_le m a (fun y => h (fun x => by omega)) (fun y => hF ⟨z, y⟩)
theorem gx_cVar {post : SX → Prop} {kd : Nat → Nat} {n t tc : Nat} {P : Nat → Prop} (A : gt_P kd a_nodeArg n) (S : gx_S kd n a_nodeKind a_variablesSeen a_nodeAtPlace) (I : gx_TI kd a_nodeArg n P tc a_nodeType a_gradeOfBinder a_usage (a_typeKind, a_typeGrade, a_typeLeft, a_typeRight)) (ht : t < n) (hc : ∀ j, j < gp_ar (kd t) → P (gp_ch kd n t j)) (hnP : ¬ P t) (htc : tc < 32) (hk : kd t = 6) (hVI : ∀ v, v < gp_sn kd t → ∃ x, x < tc ∧ a_variableType v = nI x ∧ gd_D (a_typeKind, a_typeGrade, a_typeLeft, a_typeRight) x = gt_G kd a_nodeArg n t v) (hOK : gt_e2 kd a_nodeArg n t = 0 → ∀ tc' nt gb us tk tg tl tr, gx_TI kd a_nodeArg n (fun d => P d ∨ d = t) tc' nt gb us (tk, tg, tl, tr) → tc ≤ tc' → tc' ≤ tc + 1 → gd_ext (a_typeKind, a_typeGrade, a_typeLeft, a_typeRight) (tk, tg, tl, tr) tc → post (f_derefLimit, f_recordLimit, f_frameLimit, f_nodeCount, f_currentStatus, f_faultNode, nI tc', f_currentNode, f_currentEnv, f_returning, f_returnedNumber, f_frameCount, f_lastOutcome, f_lastValue, f_derefsMade, f_recordsMade, a_nodeKind, a_nodeArg, a_expectedPlaces, a_nodeAtPlace, a_placeOfNode, a_variablesSeen, nt, gb, a_variableType, us, tk, tg, tl, tr, a_frameMark, a_frameWord, a_frameEnv, a_thunkNode, a_thunkEnv, a_restOfEnv, a_binderOfRecord, a_gradeOfRecord, a_countOfRecord)) : wpX_completeVariable post (f_derefLimit, f_recordLimit, f_frameLimit, f_nodeCount, f_currentStatus, f_faultNode, nI tc, f_currentNode, f_currentEnv, f_returning, f_returnedNumber, f_frameCount, f_lastOutcome, f_lastValue, f_derefsMade, f_recordsMade, a_nodeKind, a_nodeArg, a_expectedPlaces, a_nodeAtPlace, a_placeOfNode, a_variablesSeen, a_nodeType, a_gradeOfBinder, a_variableType, a_usage, a_typeKind, a_typeGrade, a_typeLeft, a_typeRight, a_frameMark, a_frameWord, a_frameEnv, a_thunkNode, a_thunkEnv, a_restOfEnv, a_binderOfRecord, a_gradeOfRecord, a_countOfRecord) (nI t) := by
  have hA := A
  obtain ⟨ok, so, kr, sc, -⟩ := A
  have hn := ok.2.1
  have t32 : t < 32 := by omega
  have v := vp_in_nI t32 (by decide)
  have et : (nI t).toNatClampNeg = t := nI_clamp (by omega)
  have sl := gp_sn_lt ok ht
  obtain ⟨i, hi, ei⟩ := sc t ht hk
  have lv : gt_lv kd a_nodeArg t = gp_sn kd t - 1 - i := by unfold gt_lv; rw [ei, nI_clamp (by omega)]
  obtain ⟨x, x1, x2, x3⟩ := hVI (gp_sn kd t - 1 - i) (by omega)
  unfold wpX_completeVariable
  try dsimp only
  rw [et, S.2.1 t ht, ei, show nI (gp_sn kd t) - 1 = nI (gp_sn kd t - 1) from pk_sub (b := 1) (by omega), pk_sub (by omega)]
  refine ⟨v, v, nm_e ⟨vp_in_nI (by omega) (by decide), v, ?_⟩⟩
  rw [nI_clamp (show gp_sn kd t - 1 - i < 2 ^ 31 by omega), x2]
  refine nm_e (gx_clr (s := gp_sn kd t) t32 (by omega) (S.2.1 t ht) ?_)
  try dsimp only
  rw [gx_ix, nI_clamp (show t * 32 + (gp_sn kd t - 1 - i) < 2 ^ 31 by omega)]
  refine ⟨vp_in_nI (by omega) (by decide), nm_e (hOK (gt_e2_z (by omega)) tc _ _ _ _ _ _ _ (gx_TI_add ok I ht hnP (Nat.le_refl _) I.1 (gd_ext_r _ _) x1 ?_ ?_ ?_ (fun _ _ => rfl) (fun z => by omega)) (Nat.le_refl _) (by omega) (gd_ext_r _ _))⟩
  · rw [x3, ← lv, show gt_t kd a_nodeArg n t = (gt_f kd a_nodeArg n t).1 from rfl, gt_q6 ok ht hk (gt_P_lv hA ht hk)]
  · intro j hj
    rw [pk_un (by omega), gx_row_off (by omega) hj]
  · intro _ w hw
    rw [show gt_u kd a_nodeArg n t w = (gt_f kd a_nodeArg n t).2.1 w from rfl, gt_q6 ok ht hk (gt_P_lv hA ht hk), lv]
    by_cases z : w = gp_sn kd t - 1 - i
    · rw [z, pk_us]
      show (1 : Int32) = nI (if _ then 1 else 0)
      rw [if_pos rfl]; rfl
    · rw [pk_un (by omega), gx_row_in hw]
      show _ = nI (if _ then 1 else 0)
      rw [if_neg z]
theorem gx_cAdd {post : SX → Prop} {kd : Nat → Nat} {n t tc : Nat} {P : Nat → Prop} (A : gt_P kd a_nodeArg n) (S : gx_S kd n a_nodeKind a_variablesSeen a_nodeAtPlace) (I : gx_TI kd a_nodeArg n P tc a_nodeType a_gradeOfBinder a_usage (a_typeKind, a_typeGrade, a_typeLeft, a_typeRight)) (ht : t < n) (hc : ∀ j, j < gp_ar (kd t) → P (gp_ch kd n t j)) (hnP : ¬ P t) (htc : tc < 32) (hk : kd t = 8) (hOK : gt_e2 kd a_nodeArg n t = 0 → ∀ tc' nt gb us tk tg tl tr, gx_TI kd a_nodeArg n (fun d => P d ∨ d = t) tc' nt gb us (tk, tg, tl, tr) → tc ≤ tc' → tc' ≤ tc + 1 → gd_ext (a_typeKind, a_typeGrade, a_typeLeft, a_typeRight) (tk, tg, tl, tr) tc → post (f_derefLimit, f_recordLimit, f_frameLimit, f_nodeCount, f_currentStatus, f_faultNode, nI tc', f_currentNode, f_currentEnv, f_returning, f_returnedNumber, f_frameCount, f_lastOutcome, f_lastValue, f_derefsMade, f_recordsMade, a_nodeKind, a_nodeArg, a_expectedPlaces, a_nodeAtPlace, a_placeOfNode, a_variablesSeen, nt, gb, a_variableType, us, tk, tg, tl, tr, a_frameMark, a_frameWord, a_frameEnv, a_thunkNode, a_thunkEnv, a_restOfEnv, a_binderOfRecord, a_gradeOfRecord, a_countOfRecord)) (hF : gt_e2 kd a_nodeArg n t ≠ 0 → ∀ tc' nt gb us tk tg tl tr, post (f_derefLimit, f_recordLimit, f_frameLimit, f_nodeCount, nI (gt_e2 kd a_nodeArg n t), nI t, tc', f_currentNode, f_currentEnv, f_returning, f_returnedNumber, f_frameCount, f_lastOutcome, f_lastValue, f_derefsMade, f_recordsMade, a_nodeKind, a_nodeArg, a_expectedPlaces, a_nodeAtPlace, a_placeOfNode, a_variablesSeen, nt, gb, a_variableType, us, tk, tg, tl, tr, a_frameMark, a_frameWord, a_frameEnv, a_thunkNode, a_thunkEnv, a_restOfEnv, a_binderOfRecord, a_gradeOfRecord, a_countOfRecord)) : wpX_completeAdd post (f_derefLimit, f_recordLimit, f_frameLimit, f_nodeCount, f_currentStatus, f_faultNode, nI tc, f_currentNode, f_currentEnv, f_returning, f_returnedNumber, f_frameCount, f_lastOutcome, f_lastValue, f_derefsMade, f_recordsMade, a_nodeKind, a_nodeArg, a_expectedPlaces, a_nodeAtPlace, a_placeOfNode, a_variablesSeen, a_nodeType, a_gradeOfBinder, a_variableType, a_usage, a_typeKind, a_typeGrade, a_typeLeft, a_typeRight, a_frameMark, a_frameWord, a_frameEnv, a_thunkNode, a_thunkEnv, a_restOfEnv, a_binderOfRecord, a_gradeOfRecord, a_countOfRecord) (nI t) := by
  have hA := A
  obtain ⟨ok, so, kr, sc, -⟩ := A
  have hn := ok.2.1
  have t32 : t < 32 := by omega
  have v := vp_in_nI t32 (by decide)
  have et : (nI t).toNatClampNeg = t := nI_clamp (by omega)
  have sl := gp_sn_lt ok ht
  have ar0 : 0 < gp_ar (kd t) := by rw [hk]; decide
  have ar1 : 1 < gp_ar (kd t) := by rw [hk]; decide
  have m0 := gp_tm_ch ok so ht (by omega) ar0 (by omega)
  have m1 := gp_tm_ch ok so ht (by omega) ar1 (by omega)
  obtain ⟨c1, c2, c3, c4⟩ := gx_chf ok S ht ar0
  obtain ⟨d1, d2, d3, d4⟩ := gx_chf ok S ht ar1
  obtain ⟨_, ⟨x, x1, x2, x3⟩, _⟩ := I.2 _ (hc 0 ar0)
  obtain ⟨_, ⟨y, y1, y2, y3⟩, _⟩ := I.2 _ (hc 1 ar1)
  have u0 := gx_cu hA I ht ar0 (hc 0 ar0) m0
  have u1 := gx_cu hA I ht ar1 (hc 1 ar1) m1
  have kx := (gd_k x3).1
  have ky := (gd_k y3).1
  dsimp only at kx ky
  have e4 : ¬ (gt_k (gt_t kd a_nodeArg n (gp_ch kd n t 0)) = 1 ∧ gt_k (gt_t kd a_nodeArg n (gp_ch kd n t 1)) = 1) → gt_e2 kd a_nodeArg n t = 4 := fun z => gt_if_t (Or.inl ⟨hk, z⟩)
  have fl : ¬ (gt_k (gt_t kd a_nodeArg n (gp_ch kd n t 0)) = 1 ∧ gt_k (gt_t kd a_nodeArg n (gp_ch kd n t 1)) = 1) → post (f_derefLimit, f_recordLimit, f_frameLimit, f_nodeCount, 4, nI t, nI tc, f_currentNode, f_currentEnv, f_returning, f_returnedNumber, f_frameCount, f_lastOutcome, f_lastValue, f_derefsMade, f_recordsMade, a_nodeKind, a_nodeArg, a_expectedPlaces, a_nodeAtPlace, a_placeOfNode, a_variablesSeen, a_nodeType, a_gradeOfBinder, a_variableType, a_usage, a_typeKind, a_typeGrade, a_typeLeft, a_typeRight, a_frameMark, a_frameWord, a_frameEnv, a_thunkNode, a_thunkEnv, a_restOfEnv, a_binderOfRecord, a_gradeOfRecord, a_countOfRecord) := fun z => by
    have := hF (by rw [e4 z]; decide) (nI tc) a_nodeType a_gradeOfBinder a_usage a_typeKind a_typeGrade a_typeLeft a_typeRight
    rw [e4 z] at this
    exact this
  unfold wpX_completeAdd
  try dsimp only
  refine gx_tc (j := 0) t32 c4 c3 c1 (gx_tc (j := 1) t32 d4 d3 d1 ?_)
  rw [x2, y2]
  refine gx_nk (by omega) (fun z => br_f (by decide) ?_) (fun z => br_t rfl (fl (fun y => z (kx.trans y.1))))
  try dsimp only
  refine gx_nk (by omega) (fun w => br_f (by decide) ?_) (fun w => br_t rfl (fl (fun y => w (ky.trans y.2))))
  try dsimp only
  try rw [et]
  refine ⟨v, nm_e (gx_au (s := gp_sn kd t) (ja := 0) (jb := 1) (ga := 1) (gb := 1) t32 (by omega) (S.2.1 t ht) (by omega) (by omega) c3 d3 c1 d1 c2 d2 (by omega) (by omega) (fun w hw => u0 w (by omega)) (fun w hw => u1 w (by omega)) ?_)⟩
  have e0 : gt_e2 kd a_nodeArg n t = 0 := by
    unfold gt_e2
    rw [gt_if_f (by
      rintro (⟨_, q⟩ | ⟨q, _⟩ | ⟨q, _⟩)
      · exact q ⟨kx.symm.trans z, ky.symm.trans w⟩
      · omega
      · omega), gt_if_f (by omega)]
  try dsimp only
  refine hOK e0 tc _ _ _ _ _ _ _ (gx_TI_add ok I ht hnP (Nat.le_refl _) I.1 (gd_ext_r _ _) x1 ?_ ?_ ?_ (fun _ _ => rfl) (fun z => by omega)) (Nat.le_refl _) (by omega) (gd_ext_r _ _)
  · rw [x3, show gt_t kd a_nodeArg n t = (gt_f kd a_nodeArg n t).1 from rfl, gt_q8 ok ht hk]
  · intro j hj
    rw [gx_row_off (by omega) hj]
  · intro _ w hw
    rw [show gt_u kd a_nodeArg n t w = (gt_f kd a_nodeArg n t).2.1 w from rfl, gt_q8 ok ht hk, gx_row_in hw, gt_mul_1 (u0 w (by omega)).2, gt_mul_1 (u1 w (by omega)).2]
end
end
section
section
variable {f_derefLimit f_recordLimit f_frameLimit f_nodeCount f_currentStatus f_faultNode f_typeCount f_currentNode f_currentEnv f_returning f_returnedNumber f_frameCount f_lastOutcome f_lastValue f_derefsMade f_recordsMade : Int32} {a_nodeKind a_nodeArg a_expectedPlaces a_nodeAtPlace a_placeOfNode a_variablesSeen a_nodeType a_gradeOfBinder a_variableType a_usage a_typeKind a_typeGrade a_typeLeft a_typeRight a_frameMark a_frameWord a_frameEnv a_thunkNode a_thunkEnv a_restOfEnv a_binderOfRecord a_gradeOfRecord a_countOfRecord : Nat → Int32}
theorem gx_cLam {post : SX → Prop} {kd : Nat → Nat} {n t tc : Nat} {P : Nat → Prop} (A : gt_P kd a_nodeArg n) (S : gx_S kd n a_nodeKind a_variablesSeen a_nodeAtPlace) (I : gx_TI kd a_nodeArg n P tc a_nodeType a_gradeOfBinder a_usage (a_typeKind, a_typeGrade, a_typeLeft, a_typeRight)) (ht : t < n) (hc : ∀ j, j < gp_ar (kd t) → P (gp_ch kd n t j)) (hnP : ¬ P t) (htc : tc < 32) (hk : kd t = 9) (hOK : gt_e2 kd a_nodeArg n t = 0 → ∀ tc' nt gb us tk tg tl tr, gx_TI kd a_nodeArg n (fun d => P d ∨ d = t) tc' nt gb us (tk, tg, tl, tr) → tc ≤ tc' → tc' ≤ tc + 1 → gd_ext (a_typeKind, a_typeGrade, a_typeLeft, a_typeRight) (tk, tg, tl, tr) tc → post (f_derefLimit, f_recordLimit, f_frameLimit, f_nodeCount, f_currentStatus, f_faultNode, nI tc', f_currentNode, f_currentEnv, f_returning, f_returnedNumber, f_frameCount, f_lastOutcome, f_lastValue, f_derefsMade, f_recordsMade, a_nodeKind, a_nodeArg, a_expectedPlaces, a_nodeAtPlace, a_placeOfNode, a_variablesSeen, nt, gb, a_variableType, us, tk, tg, tl, tr, a_frameMark, a_frameWord, a_frameEnv, a_thunkNode, a_thunkEnv, a_restOfEnv, a_binderOfRecord, a_gradeOfRecord, a_countOfRecord)) (hF : gt_e2 kd a_nodeArg n t ≠ 0 → ∀ tc' nt gb us tk tg tl tr, post (f_derefLimit, f_recordLimit, f_frameLimit, f_nodeCount, nI (gt_e2 kd a_nodeArg n t), nI t, tc', f_currentNode, f_currentEnv, f_returning, f_returnedNumber, f_frameCount, f_lastOutcome, f_lastValue, f_derefsMade, f_recordsMade, a_nodeKind, a_nodeArg, a_expectedPlaces, a_nodeAtPlace, a_placeOfNode, a_variablesSeen, nt, gb, a_variableType, us, tk, tg, tl, tr, a_frameMark, a_frameWord, a_frameEnv, a_thunkNode, a_thunkEnv, a_restOfEnv, a_binderOfRecord, a_gradeOfRecord, a_countOfRecord)) : wpX_completeLam post (f_derefLimit, f_recordLimit, f_frameLimit, f_nodeCount, f_currentStatus, f_faultNode, nI tc, f_currentNode, f_currentEnv, f_returning, f_returnedNumber, f_frameCount, f_lastOutcome, f_lastValue, f_derefsMade, f_recordsMade, a_nodeKind, a_nodeArg, a_expectedPlaces, a_nodeAtPlace, a_placeOfNode, a_variablesSeen, a_nodeType, a_gradeOfBinder, a_variableType, a_usage, a_typeKind, a_typeGrade, a_typeLeft, a_typeRight, a_frameMark, a_frameWord, a_frameEnv, a_thunkNode, a_thunkEnv, a_restOfEnv, a_binderOfRecord, a_gradeOfRecord, a_countOfRecord) (nI t) := by
  have hA := A
  obtain ⟨ok, so, kr, sc, ag2, ag3, -⟩ := A
  have hn := ok.2.1
  have t32 : t < 32 := by omega
  have v := vp_in_nI t32 (by decide)
  have et : (nI t).toNatClampNeg = t := nI_clamp (by omega)
  have sl := gp_sn_lt ok ht
  have ar0 : 0 < gp_ar (kd t) := by rw [hk]; decide
  have ar1 : 1 < gp_ar (kd t) := by rw [hk]; decide
  have m1 := gp_tm_ch ok so ht (by omega) ar1 (by omega)
  obtain ⟨c1, c2, c3, c4⟩ := gx_chf ok S ht ar0
  obtain ⟨d1, d2, d3, d4⟩ := gx_chf ok S ht ar1
  have ge := gp_ch_ge ok ht (Nat.le_of_lt ar1)
  obtain ⟨_, ⟨x, x1, x2, x3⟩, _⟩ := I.2 _ (hc 0 ar0)
  obtain ⟨_, ⟨y, y1, y2, y3⟩, _⟩ := I.2 _ (hc 1 ar1)
  have u1 := gx_cu hA I ht ar1 (hc 1 ar1) m1
  have bd : gp_bd (kd t) 1 = 1 := by rw [hk]; decide
  rw [bd] at u1
  obtain ⟨w1, w2⟩ := u1 (gp_sn kd t) (by omega)
  obtain ⟨a, a3, ea⟩ := ag3 t ht (by omega)
  have q := gt_q9 (ag := a_nodeArg) ok ht hk
  have nd : gt_nd kd a_nodeArg n t = gt_u kd a_nodeArg n (gp_ch kd n t 1) (gp_sn kd t) := by unfold gt_nd; rw [if_neg (by omega), if_neg (by omega)]
  have sel := gt_se_le (ag3 t ht (by omega)) w2
  unfold wpX_completeLam
  try dsimp only
  refine gx_ux t32 (S.2.1 t ht) (by omega) d3 d1 ?_
  rw [w1]
  refine gx_sg t32 ea a3 w2 (fun z => ?_) (fun z => ?_)
  all_goals (
    try dsimp only
    refine gx_tc (j := 0) t32 c4 c3 c1 (gx_tc (j := 1) t32 d4 d3 d1 ?_)
    rw [et, x2, y2, pk_us]
    refine ⟨v, gx_tn (k := 4) (g := nI (gt_se (a_nodeArg t) (gt_u kd a_nodeArg n (gp_ch kd n t 1) (gp_sn kd t)))) (l := nI x) (r := nI y) htc I.1 (fun _ => ⟨x, x1, rfl, x3⟩) (fun _ _ => ⟨y, y1, rfl, y3⟩) (fun z => absurd z (by decide)) (fun z => absurd z (by decide)) (fun x' tc' tk tg tl tr hx b1 b2 b3 b4 b5 => ?_)⟩
    try dsimp only
    try rw [et]
    refine ⟨v, nm_e (gx_au (s := gp_sn kd t) (ja := 1) (jb := 1) (ga := 1) (gb := 0) t32 (by omega) (S.2.1 t ht) (by omega) (by omega) d3 d3 d1 d1 d2 d2 (by omega) (by omega) (fun w hw => u1 w (by omega)) (fun w hw => u1 w (by omega)) ?_)⟩)
  · have e0 : gt_e2 kd a_nodeArg n t = 0 := by
      unfold gt_e2
      rw [gt_if_f (by omega), gt_if_f (by
        rintro (⟨_, r⟩ | ⟨r, _⟩)
        · rw [nd] at r; exact z r
        · omega)]
    try dsimp only
    refine hOK e0 tc' _ _ _ _ _ _ _ (gx_TI_add ok I ht hnP b1 b3 b4 hx ?_ ?_ ?_ (fun i hi => pk_un hi) (fun _ => ?_)) b1 b2 b4
    · rw [b5, show gt_t kd a_nodeArg n t = (gt_f kd a_nodeArg n t).1 from rfl, q]
    · intro j hj
      rw [gx_row_off (by omega) hj]
    · intro _ w hw
      rw [show gt_u kd a_nodeArg n t w = (gt_f kd a_nodeArg n t).2.1 w from rfl, q, gx_row_in hw, gt_mul_1 (u1 w (by omega)).2, gt_mul_0, gt_add_0 (u1 w (by omega)).2]
    · rw [pk_us, show gt_b kd a_nodeArg n t = (gt_f kd a_nodeArg n t).2.2 from rfl, q]
  · have e5 : gt_e2 kd a_nodeArg n t = 5 := by
      unfold gt_e2
      rw [gt_if_f (by omega), gt_if_t (Or.inl ⟨Or.inl hk, by rw [nd]; exact z⟩)]
    have := hF (by rw [e5]; decide) (nI tc')
    rw [e5] at this
    exact this _ _ _ _ _ _ _
theorem gx_cApp {post : SX → Prop} {kd : Nat → Nat} {n t tc : Nat} {P : Nat → Prop} (A : gt_P kd a_nodeArg n) (S : gx_S kd n a_nodeKind a_variablesSeen a_nodeAtPlace) (I : gx_TI kd a_nodeArg n P tc a_nodeType a_gradeOfBinder a_usage (a_typeKind, a_typeGrade, a_typeLeft, a_typeRight)) (ht : t < n) (hc : ∀ j, j < gp_ar (kd t) → P (gp_ch kd n t j)) (hnP : ¬ P t) (htc : tc < 32) (hk : kd t = 10) (hOK : gt_e2 kd a_nodeArg n t = 0 → ∀ tc' nt gb us tk tg tl tr, gx_TI kd a_nodeArg n (fun d => P d ∨ d = t) tc' nt gb us (tk, tg, tl, tr) → tc ≤ tc' → tc' ≤ tc + 1 → gd_ext (a_typeKind, a_typeGrade, a_typeLeft, a_typeRight) (tk, tg, tl, tr) tc → post (f_derefLimit, f_recordLimit, f_frameLimit, f_nodeCount, f_currentStatus, f_faultNode, nI tc', f_currentNode, f_currentEnv, f_returning, f_returnedNumber, f_frameCount, f_lastOutcome, f_lastValue, f_derefsMade, f_recordsMade, a_nodeKind, a_nodeArg, a_expectedPlaces, a_nodeAtPlace, a_placeOfNode, a_variablesSeen, nt, gb, a_variableType, us, tk, tg, tl, tr, a_frameMark, a_frameWord, a_frameEnv, a_thunkNode, a_thunkEnv, a_restOfEnv, a_binderOfRecord, a_gradeOfRecord, a_countOfRecord)) (hF : gt_e2 kd a_nodeArg n t ≠ 0 → ∀ tc' nt gb us tk tg tl tr, post (f_derefLimit, f_recordLimit, f_frameLimit, f_nodeCount, nI (gt_e2 kd a_nodeArg n t), nI t, tc', f_currentNode, f_currentEnv, f_returning, f_returnedNumber, f_frameCount, f_lastOutcome, f_lastValue, f_derefsMade, f_recordsMade, a_nodeKind, a_nodeArg, a_expectedPlaces, a_nodeAtPlace, a_placeOfNode, a_variablesSeen, nt, gb, a_variableType, us, tk, tg, tl, tr, a_frameMark, a_frameWord, a_frameEnv, a_thunkNode, a_thunkEnv, a_restOfEnv, a_binderOfRecord, a_gradeOfRecord, a_countOfRecord)) : wpX_completeApp post (f_derefLimit, f_recordLimit, f_frameLimit, f_nodeCount, f_currentStatus, f_faultNode, nI tc, f_currentNode, f_currentEnv, f_returning, f_returnedNumber, f_frameCount, f_lastOutcome, f_lastValue, f_derefsMade, f_recordsMade, a_nodeKind, a_nodeArg, a_expectedPlaces, a_nodeAtPlace, a_placeOfNode, a_variablesSeen, a_nodeType, a_gradeOfBinder, a_variableType, a_usage, a_typeKind, a_typeGrade, a_typeLeft, a_typeRight, a_frameMark, a_frameWord, a_frameEnv, a_thunkNode, a_thunkEnv, a_restOfEnv, a_binderOfRecord, a_gradeOfRecord, a_countOfRecord) (nI t) := by
  have hA := A
  obtain ⟨ok, so, kr, sc, -⟩ := A
  have hn := ok.2.1
  have t32 : t < 32 := by omega
  have v := vp_in_nI t32 (by decide)
  have et : (nI t).toNatClampNeg = t := nI_clamp (by omega)
  have sl := gp_sn_lt ok ht
  have ar0 : 0 < gp_ar (kd t) := by rw [hk]; decide
  have ar1 : 1 < gp_ar (kd t) := by rw [hk]; decide
  have m0 := gp_tm_ch ok so ht (by omega) ar0 (by omega)
  have m1 := gp_tm_ch ok so ht (by omega) ar1 (by omega)
  obtain ⟨c1, c2, c3, c4⟩ := gx_chf ok S ht ar0
  obtain ⟨d1, d2, d3, d4⟩ := gx_chf ok S ht ar1
  obtain ⟨_, ⟨x, x1, x2, x3⟩, _⟩ := I.2 _ (hc 0 ar0)
  obtain ⟨_, ⟨y, y1, y2, y3⟩, _⟩ := I.2 _ (hc 1 ar1)
  have u0 := gx_cu hA I ht ar0 (hc 0 ar0) m0
  have u1 := gx_cu hA I ht ar1 (hc 1 ar1) m1
  have kx := gd_k x3
  dsimp only at kx
  have ex : (nI x).toNatClampNeg = x := nI_clamp (by omega)
  have q := gt_q10 (ag := a_nodeArg) ok ht hk
  have fl : ¬ (gt_k (gt_t kd a_nodeArg n (gp_ch kd n t 0)) = 4 ∧ gt_l (gt_t kd a_nodeArg n (gp_ch kd n t 0)) = gt_t kd a_nodeArg n (gp_ch kd n t 1)) → post (f_derefLimit, f_recordLimit, f_frameLimit, f_nodeCount, 4, nI t, nI tc, f_currentNode, f_currentEnv, f_returning, f_returnedNumber, f_frameCount, f_lastOutcome, f_lastValue, f_derefsMade, f_recordsMade, a_nodeKind, a_nodeArg, a_expectedPlaces, a_nodeAtPlace, a_placeOfNode, a_variablesSeen, a_nodeType, a_gradeOfBinder, a_variableType, a_usage, a_typeKind, a_typeGrade, a_typeLeft, a_typeRight, a_frameMark, a_frameWord, a_frameEnv, a_thunkNode, a_thunkEnv, a_restOfEnv, a_binderOfRecord, a_gradeOfRecord, a_countOfRecord) := fun z => by
    have e4 : gt_e2 kd a_nodeArg n t = 4 := gt_if_t (Or.inr (Or.inl ⟨hk, z⟩))
    have := hF (by rw [e4]; decide) (nI tc) a_nodeType a_gradeOfBinder a_usage a_typeKind a_typeGrade a_typeLeft a_typeRight
    rw [e4] at this
    exact this
  unfold wpX_completeApp
  try dsimp only
  refine gx_tc (j := 0) t32 c4 c3 c1 (gx_tc (j := 1) t32 d4 d3 d1 ?_)
  have vx := vp_in_nI (show x < 32 by omega) (by decide)
  rw [x2, y2, ex, et]
  refine ⟨vx, br_c (fun k4 => ⟨vx, br_c (fun el => ?_) (fun nl => ?_)⟩) (fun n4 => fl (fun z => n4 (kx.1.trans z.1)))⟩
  · have n1 : ¬ (a_typeKind x = 1) := by rw [k4]; decide
    have n5 : ¬ (a_typeKind x = 5) := by rw [k4]; decide
    have L := gd_xL (by omega) (I.1.2.1 x x1) n1
    have R := gd_xR (by omega) (I.1.2.1 x x1) n1 n5
    have eL : gd_L (a_typeKind, a_typeGrade, a_typeLeft, a_typeRight) x = y := by
      have := L.2
      dsimp only at this
      rw [el] at this
      exact ((nI_eq (by omega) (by omega)).mp this).symm
    have tl := gd_l x3 n1
    rw [eL, y3] at tl
    have tr := gd_r x3 n1 n5
    have R2 := R.2
    dsimp only at R2
    obtain ⟨g, g2, eg⟩ := gt_wf_g (gt_twf hA (gp_ch_lt ok ht ar0).1)
    rw [R2, kx.2, eg]
    refine ⟨vx, v, nm_e ⟨vx, gx_au (s := gp_sn kd t) (ja := 0) (jb := 1) (ga := 1) (gb := g) t32 (by omega) (S.2.1 t ht) (by omega) (by omega) c3 d3 c1 d1 c2 d2 (by omega) g2 (fun w hw => u0 w (by omega)) (fun w hw => u1 w (by omega)) ?_⟩⟩
    have e0 : gt_e2 kd a_nodeArg n t = 0 := by
      unfold gt_e2
      rw [gt_if_f (by
        rintro (⟨q, _⟩ | ⟨_, q⟩ | ⟨q, _⟩)
        · omega
        · exact q ⟨kx.1.symm.trans k4, tl.symm⟩
        · omega), gt_if_f (by omega)]
    try dsimp only
    refine hOK e0 tc _ _ _ _ _ _ _ (gx_TI_add ok I ht hnP (Nat.le_refl _) I.1 (gd_ext_r _ _) (show gd_R (a_typeKind, a_typeGrade, a_typeLeft, a_typeRight) x < tc by omega) ?_ ?_ ?_ (fun _ _ => rfl) (fun z => by omega)) (Nat.le_refl _) (by omega) (gd_ext_r _ _)
    · rw [tr, show gt_t kd a_nodeArg n t = (gt_f kd a_nodeArg n t).1 from rfl, q]
    · intro j hj
      rw [gx_row_off (by omega) hj]
    · intro _ w hw
      rw [show gt_u kd a_nodeArg n t w = (gt_f kd a_nodeArg n t).2.1 w from rfl, q, gx_row_in hw, gt_mul_1 (u0 w (by omega)).2, eg, nI_clamp (by omega)]
  · refine fl (fun z => nl ?_)
    have n1 : ¬ (a_typeKind x = 1) := by rw [k4]; decide
    have L := gd_xL (by omega) (I.1.2.1 x x1) n1
    have tl := gd_l x3 n1
    have e : gd_L (a_typeKind, a_typeGrade, a_typeLeft, a_typeRight) x = y := gd_inj I.1 (gd_L (a_typeKind, a_typeGrade, a_typeLeft, a_typeRight) x + 1) (gd_L (a_typeKind, a_typeGrade, a_typeLeft, a_typeRight) x) y (by omega) (by omega) y1 (by rw [tl, y3]; exact z.2)
    have L2 := L.2
    dsimp only at L2
    rw [L2, e]
end
end
section
section
variable {f_derefLimit f_recordLimit f_frameLimit f_nodeCount f_currentStatus f_faultNode f_typeCount f_currentNode f_currentEnv f_returning f_returnedNumber f_frameCount f_lastOutcome f_lastValue f_derefsMade f_recordsMade : Int32} {a_nodeKind a_nodeArg a_expectedPlaces a_nodeAtPlace a_placeOfNode a_variablesSeen a_nodeType a_gradeOfBinder a_variableType a_usage a_typeKind a_typeGrade a_typeLeft a_typeRight a_frameMark a_frameWord a_frameEnv a_thunkNode a_thunkEnv a_restOfEnv a_binderOfRecord a_gradeOfRecord a_countOfRecord : Nat → Int32}
theorem gx_cPair {post : SX → Prop} {kd : Nat → Nat} {n t tc : Nat} {P : Nat → Prop} (A : gt_P kd a_nodeArg n) (S : gx_S kd n a_nodeKind a_variablesSeen a_nodeAtPlace) (I : gx_TI kd a_nodeArg n P tc a_nodeType a_gradeOfBinder a_usage (a_typeKind, a_typeGrade, a_typeLeft, a_typeRight)) (ht : t < n) (hc : ∀ j, j < gp_ar (kd t) → P (gp_ch kd n t j)) (hnP : ¬ P t) (htc : tc < 32) (hk : kd t = 12) (hOK : gt_e2 kd a_nodeArg n t = 0 → ∀ tc' nt gb us tk tg tl tr, gx_TI kd a_nodeArg n (fun d => P d ∨ d = t) tc' nt gb us (tk, tg, tl, tr) → tc ≤ tc' → tc' ≤ tc + 1 → gd_ext (a_typeKind, a_typeGrade, a_typeLeft, a_typeRight) (tk, tg, tl, tr) tc → post (f_derefLimit, f_recordLimit, f_frameLimit, f_nodeCount, f_currentStatus, f_faultNode, nI tc', f_currentNode, f_currentEnv, f_returning, f_returnedNumber, f_frameCount, f_lastOutcome, f_lastValue, f_derefsMade, f_recordsMade, a_nodeKind, a_nodeArg, a_expectedPlaces, a_nodeAtPlace, a_placeOfNode, a_variablesSeen, nt, gb, a_variableType, us, tk, tg, tl, tr, a_frameMark, a_frameWord, a_frameEnv, a_thunkNode, a_thunkEnv, a_restOfEnv, a_binderOfRecord, a_gradeOfRecord, a_countOfRecord)) (hF : gt_e2 kd a_nodeArg n t ≠ 0 → ∀ tc' nt gb us tk tg tl tr, post (f_derefLimit, f_recordLimit, f_frameLimit, f_nodeCount, nI (gt_e2 kd a_nodeArg n t), nI t, tc', f_currentNode, f_currentEnv, f_returning, f_returnedNumber, f_frameCount, f_lastOutcome, f_lastValue, f_derefsMade, f_recordsMade, a_nodeKind, a_nodeArg, a_expectedPlaces, a_nodeAtPlace, a_placeOfNode, a_variablesSeen, nt, gb, a_variableType, us, tk, tg, tl, tr, a_frameMark, a_frameWord, a_frameEnv, a_thunkNode, a_thunkEnv, a_restOfEnv, a_binderOfRecord, a_gradeOfRecord, a_countOfRecord)) : wpX_completeLetPair post (f_derefLimit, f_recordLimit, f_frameLimit, f_nodeCount, f_currentStatus, f_faultNode, nI tc, f_currentNode, f_currentEnv, f_returning, f_returnedNumber, f_frameCount, f_lastOutcome, f_lastValue, f_derefsMade, f_recordsMade, a_nodeKind, a_nodeArg, a_expectedPlaces, a_nodeAtPlace, a_placeOfNode, a_variablesSeen, a_nodeType, a_gradeOfBinder, a_variableType, a_usage, a_typeKind, a_typeGrade, a_typeLeft, a_typeRight, a_frameMark, a_frameWord, a_frameEnv, a_thunkNode, a_thunkEnv, a_restOfEnv, a_binderOfRecord, a_gradeOfRecord, a_countOfRecord) (nI t) := by
  have hA := A
  obtain ⟨ok, so, kr, sc, ag2, ag3, -⟩ := A
  have hn := ok.2.1
  have t32 : t < 32 := by omega
  have v := vp_in_nI t32 (by decide)
  have et : (nI t).toNatClampNeg = t := nI_clamp (by omega)
  have sl := gp_sn_lt ok ht
  have ar0 : 0 < gp_ar (kd t) := by rw [hk]; decide
  have ar1 : 1 < gp_ar (kd t) := by rw [hk]; decide
  have m0 := gp_tm_ch ok so ht (by omega) ar0 (by omega)
  have m1 := gp_tm_ch ok so ht (by omega) ar1 (by omega)
  obtain ⟨c1, c2, c3, c4⟩ := gx_chf ok S ht ar0
  obtain ⟨d1, d2, d3, d4⟩ := gx_chf ok S ht ar1
  have ge := gp_ch_ge ok ht (Nat.le_of_lt ar1)
  have cl := gp_sn_lt ok (gp_ch_lt ok ht ar1).1
  rw [gp_sn_ch ok ht ar1] at cl
  obtain ⟨_, ⟨y, y1, y2, y3⟩, _⟩ := I.2 _ (hc 1 ar1)
  have u0 := gx_cu hA I ht ar0 (hc 0 ar0) m0
  have u1 := gx_cu hA I ht ar1 (hc 1 ar1) m1
  have bd : gp_bd (kd t) 1 = 2 := by rw [hk]; decide
  rw [bd] at u1 cl
  obtain ⟨w1, w2⟩ := u1 (gp_sn kd t) (by omega)
  obtain ⟨z1, z2⟩ := u1 (gp_sn kd t + 1) (by omega)
  obtain ⟨a, a3, ea⟩ := ag3 t ht (by omega)
  have q := gt_q12 (ag := a_nodeArg) ok ht hk
  have nd : gt_nd kd a_nodeArg n t = gt_max (gt_u kd a_nodeArg n (gp_ch kd n t 1) (gp_sn kd t)) (gt_u kd a_nodeArg n (gp_ch kd n t 1) (gp_sn kd t + 1)) := by unfold gt_nd; rw [if_pos hk]
  have ml := gt_max_le w2 z2
  have sel := gt_se_le (ag3 t ht (by omega)) ml
  unfold wpX_completeLetPair
  try dsimp only
  refine gx_ux t32 (S.2.1 t ht) (by omega) d3 d1 ?_
  rw [w1]
  refine gx_uyP t32 (S.1 t ht) (by omega) (by omega) (S.2.1 t ht) (by omega) d3 d1 ?_
  rw [z1]
  refine gx_join w2 z2 (gx_sg t32 ea a3 ml (fun z => ?_) (fun z => ?_))
  all_goals (
    try dsimp only
    refine gx_tc (j := 1) t32 d4 d3 d1 ?_
    rw [et, y2, pk_us]
    refine ⟨v, nm_e ⟨v, gx_join (b := 1) sel (by omega) (gx_au (s := gp_sn kd t) (ja := 0) (jb := 1) (gb := 1) t32 (by omega) (S.2.1 t ht) (by omega) (by omega) c3 d3 c1 d1 c2 d2 (gt_max_le sel (by omega)) (by omega) (fun w hw => u0 w (by omega)) (fun w hw => u1 w (by omega)) ?_)⟩⟩)
  · have e0 : gt_e2 kd a_nodeArg n t = 0 := by
      unfold gt_e2
      rw [gt_if_f (by omega), gt_if_f (by
        rintro (⟨_, r⟩ | ⟨r, _⟩)
        · rw [nd] at r; exact z r
        · omega)]
    try dsimp only
    refine hOK e0 tc _ _ _ _ _ _ _ (gx_TI_add ok I ht hnP (Nat.le_refl _) I.1 (gd_ext_r _ _) y1 ?_ ?_ ?_ (fun i hi => pk_un hi) (fun _ => ?_)) (Nat.le_refl _) (by omega) (gd_ext_r _ _)
    · rw [y3, show gt_t kd a_nodeArg n t = (gt_f kd a_nodeArg n t).1 from rfl, q]
    · intro j hj
      rw [gx_row_off (by omega) hj]
    · intro _ w hw
      rw [show gt_u kd a_nodeArg n t w = (gt_f kd a_nodeArg n t).2.1 w from rfl, q, gx_row_in hw, gt_mul_1 (u1 w (by omega)).2]
    · rw [pk_us, show gt_b kd a_nodeArg n t = (gt_f kd a_nodeArg n t).2.2 from rfl, q]
  · have e5 : gt_e2 kd a_nodeArg n t = 5 := by
      unfold gt_e2
      rw [gt_if_f (by omega), gt_if_t (Or.inl ⟨Or.inr (Or.inl hk), by rw [nd]; exact z⟩)]
    have := hF (by rw [e5]; decide) (nI tc)
    rw [e5] at this
    exact this _ _ _ _ _ _ _
theorem gx_cCase {post : SX → Prop} {kd : Nat → Nat} {n t tc : Nat} {P : Nat → Prop} (A : gt_P kd a_nodeArg n) (S : gx_S kd n a_nodeKind a_variablesSeen a_nodeAtPlace) (I : gx_TI kd a_nodeArg n P tc a_nodeType a_gradeOfBinder a_usage (a_typeKind, a_typeGrade, a_typeLeft, a_typeRight)) (ht : t < n) (hc : ∀ j, j < gp_ar (kd t) → P (gp_ch kd n t j)) (hnP : ¬ P t) (htc : tc < 32) (hk : kd t = 15) (hOK : gt_e2 kd a_nodeArg n t = 0 → ∀ tc' nt gb us tk tg tl tr, gx_TI kd a_nodeArg n (fun d => P d ∨ d = t) tc' nt gb us (tk, tg, tl, tr) → tc ≤ tc' → tc' ≤ tc + 1 → gd_ext (a_typeKind, a_typeGrade, a_typeLeft, a_typeRight) (tk, tg, tl, tr) tc → post (f_derefLimit, f_recordLimit, f_frameLimit, f_nodeCount, f_currentStatus, f_faultNode, nI tc', f_currentNode, f_currentEnv, f_returning, f_returnedNumber, f_frameCount, f_lastOutcome, f_lastValue, f_derefsMade, f_recordsMade, a_nodeKind, a_nodeArg, a_expectedPlaces, a_nodeAtPlace, a_placeOfNode, a_variablesSeen, nt, gb, a_variableType, us, tk, tg, tl, tr, a_frameMark, a_frameWord, a_frameEnv, a_thunkNode, a_thunkEnv, a_restOfEnv, a_binderOfRecord, a_gradeOfRecord, a_countOfRecord)) (hF : gt_e2 kd a_nodeArg n t ≠ 0 → ∀ tc' nt gb us tk tg tl tr, post (f_derefLimit, f_recordLimit, f_frameLimit, f_nodeCount, nI (gt_e2 kd a_nodeArg n t), nI t, tc', f_currentNode, f_currentEnv, f_returning, f_returnedNumber, f_frameCount, f_lastOutcome, f_lastValue, f_derefsMade, f_recordsMade, a_nodeKind, a_nodeArg, a_expectedPlaces, a_nodeAtPlace, a_placeOfNode, a_variablesSeen, nt, gb, a_variableType, us, tk, tg, tl, tr, a_frameMark, a_frameWord, a_frameEnv, a_thunkNode, a_thunkEnv, a_restOfEnv, a_binderOfRecord, a_gradeOfRecord, a_countOfRecord)) : wpX_completeCase post (f_derefLimit, f_recordLimit, f_frameLimit, f_nodeCount, f_currentStatus, f_faultNode, nI tc, f_currentNode, f_currentEnv, f_returning, f_returnedNumber, f_frameCount, f_lastOutcome, f_lastValue, f_derefsMade, f_recordsMade, a_nodeKind, a_nodeArg, a_expectedPlaces, a_nodeAtPlace, a_placeOfNode, a_variablesSeen, a_nodeType, a_gradeOfBinder, a_variableType, a_usage, a_typeKind, a_typeGrade, a_typeLeft, a_typeRight, a_frameMark, a_frameWord, a_frameEnv, a_thunkNode, a_thunkEnv, a_restOfEnv, a_binderOfRecord, a_gradeOfRecord, a_countOfRecord) (nI t) := by
  have hA := A
  obtain ⟨ok, so, kr, sc, ag2, ag3, -⟩ := A
  have hn := ok.2.1
  have t32 : t < 32 := by omega
  have v := vp_in_nI t32 (by decide)
  have et : (nI t).toNatClampNeg = t := nI_clamp (by omega)
  have sl := gp_sn_lt ok ht
  have ar0 : 0 < gp_ar (kd t) := by rw [hk]; decide
  have ar1 : 1 < gp_ar (kd t) := by rw [hk]; decide
  have ar2 : 2 < gp_ar (kd t) := by rw [hk]; decide
  have m0 := gp_tm_ch ok so ht (by omega) ar0 (by omega)
  have m1 := gp_tm_ch ok so ht (by omega) ar1 (by omega)
  have m2 := gp_tm_ch ok so ht (by omega) ar2 (by omega)
  obtain ⟨c1, c2, c3, c4⟩ := gx_chf ok S ht ar0
  obtain ⟨d1, d2, d3, d4⟩ := gx_chf ok S ht ar1
  obtain ⟨f1, f2, f3, f4⟩ := gx_chf ok S ht ar2
  have ge := gp_ch_ge ok ht (Nat.le_of_lt ar1)
  obtain ⟨_, ⟨x, x1, x2, x3⟩, _⟩ := I.2 _ (hc 1 ar1)
  obtain ⟨_, ⟨y, y1, y2, y3⟩, _⟩ := I.2 _ (hc 2 ar2)
  have u0 := gx_cu hA I ht ar0 (hc 0 ar0) m0
  have u1 := gx_cu hA I ht ar1 (hc 1 ar1) m1
  have u2 := gx_cu hA I ht ar2 (hc 2 ar2) m2
  have bd : gp_bd (kd t) 1 = 1 := by rw [hk]; decide
  have bd2 : gp_bd (kd t) 2 = 1 := by rw [hk]; decide
  rw [bd] at u1
  rw [bd2] at u2
  obtain ⟨w1, w2⟩ := u1 (gp_sn kd t) (by omega)
  obtain ⟨z1, z2⟩ := u2 (gp_sn kd t) (by omega)
  obtain ⟨a, a3, ea⟩ := ag3 t ht (by omega)
  have q := gt_q15 (ag := a_nodeArg) ok ht hk
  have nd : gt_nd kd a_nodeArg n t = gt_max (gt_u kd a_nodeArg n (gp_ch kd n t 1) (gp_sn kd t)) (gt_u kd a_nodeArg n (gp_ch kd n t 2) (gp_sn kd t)) := by unfold gt_nd; rw [if_neg (by omega), if_pos hk]
  have ml := gt_max_le w2 z2
  have sel := gt_se_le (ag3 t ht (by omega)) ml
  unfold wpX_completeCase
  try dsimp only
  refine gx_tc (j := 1) t32 d4 d3 d1 (gx_tc (j := 2) t32 f4 f3 f1 ?_)
  rw [x2, y2]
  refine br_c (fun exy => ?_) (fun nxy => ?_)
  · have exy : x = y := (nI_eq (by omega) (by omega)).mp exy
    subst exy
    have same : gt_t kd a_nodeArg n (gp_ch kd n t 1) = gt_t kd a_nodeArg n (gp_ch kd n t 2) := x3.symm.trans y3
    refine gx_ux t32 (S.2.1 t ht) (by omega) d3 d1 ?_
    rw [w1]
    have kk := S.1 t ht
    rw [hk] at kk
    refine gx_uyC t32 kk (S.2.1 t ht) (by omega) f3 f1 ?_
    rw [z1]
    refine gx_join w2 z2 (gx_sg t32 ea a3 ml (fun z => ?_) (fun z => ?_))
    all_goals (
      try dsimp only
      rw [et, pk_us]
      refine ⟨v, nm_e ⟨v, gx_join (b := 1) sel (by omega) (gx_ac (s := gp_sn kd t) t32 (by omega) (S.2.1 t ht) c3 d3 f3 c1 d1 f1 c2 d2 f2 (gt_max_le sel (by omega)) (fun w hw => u0 w (by omega)) (fun w hw => u1 w (by omega)) (fun w hw => u2 w (by omega)) ?_)⟩⟩)
    · have e0 : gt_e2 kd a_nodeArg n t = 0 := by
        unfold gt_e2
        rw [gt_if_f (by
          rintro (⟨r, _⟩ | ⟨r, _⟩ | ⟨_, r⟩)
          · omega
          · omega
          · exact r same), gt_if_f (by
          rintro (⟨_, r⟩ | ⟨r, _⟩)
          · rw [nd] at r; exact z r
          · omega)]
      try dsimp only
      refine hOK e0 tc _ _ _ _ _ _ _ (gx_TI_add ok I ht hnP (Nat.le_refl _) I.1 (gd_ext_r _ _) x1 ?_ ?_ ?_ (fun i hi => pk_un hi) (fun _ => ?_)) (Nat.le_refl _) (by omega) (gd_ext_r _ _)
      · rw [x3, show gt_t kd a_nodeArg n t = (gt_f kd a_nodeArg n t).1 from rfl, q]
      · intro j hj
        rw [gx_row_off (by omega) hj]
      · intro _ w hw
        rw [show gt_u kd a_nodeArg n t w = (gt_f kd a_nodeArg n t).2.1 w from rfl, q, gx_row_in hw]
      · rw [pk_us, show gt_b kd a_nodeArg n t = (gt_f kd a_nodeArg n t).2.2 from rfl, q]
    · have e5 : gt_e2 kd a_nodeArg n t = 5 := by
        unfold gt_e2
        rw [gt_if_f (by
          rintro (⟨r, _⟩ | ⟨r, _⟩ | ⟨_, r⟩)
          · omega
          · omega
          · exact r same), gt_if_t (Or.inl ⟨Or.inr (Or.inr hk), by rw [nd]; exact z⟩)]
      have := hF (by rw [e5]; decide) (nI tc)
      rw [e5] at this
      exact this _ _ _ _ _ _ _
  · have e4 : gt_e2 kd a_nodeArg n t = 4 := gt_if_t (Or.inr (Or.inr ⟨hk, fun z => nxy (by
      rw [gd_inj I.1 (x + 1) x y (by omega) x1 y1 (by rw [x3, y3]; exact z)])⟩))
    have := hF (by rw [e4]; decide) (nI tc) a_nodeType a_gradeOfBinder a_usage a_typeKind a_typeGrade a_typeLeft a_typeRight
    rw [e4] at this
    exact this
theorem gx_cBox {post : SX → Prop} {kd : Nat → Nat} {n t tc : Nat} {P : Nat → Prop} (A : gt_P kd a_nodeArg n) (S : gx_S kd n a_nodeKind a_variablesSeen a_nodeAtPlace) (I : gx_TI kd a_nodeArg n P tc a_nodeType a_gradeOfBinder a_usage (a_typeKind, a_typeGrade, a_typeLeft, a_typeRight)) (ht : t < n) (hc : ∀ j, j < gp_ar (kd t) → P (gp_ch kd n t j)) (hnP : ¬ P t) (htc : tc < 32) (hk : kd t = 17) (hOK : gt_e2 kd a_nodeArg n t = 0 → ∀ tc' nt gb us tk tg tl tr, gx_TI kd a_nodeArg n (fun d => P d ∨ d = t) tc' nt gb us (tk, tg, tl, tr) → tc ≤ tc' → tc' ≤ tc + 1 → gd_ext (a_typeKind, a_typeGrade, a_typeLeft, a_typeRight) (tk, tg, tl, tr) tc → post (f_derefLimit, f_recordLimit, f_frameLimit, f_nodeCount, f_currentStatus, f_faultNode, nI tc', f_currentNode, f_currentEnv, f_returning, f_returnedNumber, f_frameCount, f_lastOutcome, f_lastValue, f_derefsMade, f_recordsMade, a_nodeKind, a_nodeArg, a_expectedPlaces, a_nodeAtPlace, a_placeOfNode, a_variablesSeen, nt, gb, a_variableType, us, tk, tg, tl, tr, a_frameMark, a_frameWord, a_frameEnv, a_thunkNode, a_thunkEnv, a_restOfEnv, a_binderOfRecord, a_gradeOfRecord, a_countOfRecord)) (hF : gt_e2 kd a_nodeArg n t ≠ 0 → ∀ tc' nt gb us tk tg tl tr, post (f_derefLimit, f_recordLimit, f_frameLimit, f_nodeCount, nI (gt_e2 kd a_nodeArg n t), nI t, tc', f_currentNode, f_currentEnv, f_returning, f_returnedNumber, f_frameCount, f_lastOutcome, f_lastValue, f_derefsMade, f_recordsMade, a_nodeKind, a_nodeArg, a_expectedPlaces, a_nodeAtPlace, a_placeOfNode, a_variablesSeen, nt, gb, a_variableType, us, tk, tg, tl, tr, a_frameMark, a_frameWord, a_frameEnv, a_thunkNode, a_thunkEnv, a_restOfEnv, a_binderOfRecord, a_gradeOfRecord, a_countOfRecord)) : wpX_completeLetBox post (f_derefLimit, f_recordLimit, f_frameLimit, f_nodeCount, f_currentStatus, f_faultNode, nI tc, f_currentNode, f_currentEnv, f_returning, f_returnedNumber, f_frameCount, f_lastOutcome, f_lastValue, f_derefsMade, f_recordsMade, a_nodeKind, a_nodeArg, a_expectedPlaces, a_nodeAtPlace, a_placeOfNode, a_variablesSeen, a_nodeType, a_gradeOfBinder, a_variableType, a_usage, a_typeKind, a_typeGrade, a_typeLeft, a_typeRight, a_frameMark, a_frameWord, a_frameEnv, a_thunkNode, a_thunkEnv, a_restOfEnv, a_binderOfRecord, a_gradeOfRecord, a_countOfRecord) (nI t) := by
  have hA := A
  obtain ⟨ok, so, kr, sc, ag2, ag3, -⟩ := A
  have hn := ok.2.1
  have t32 : t < 32 := by omega
  have v := vp_in_nI t32 (by decide)
  have et : (nI t).toNatClampNeg = t := nI_clamp (by omega)
  have sl := gp_sn_lt ok ht
  have ar0 : 0 < gp_ar (kd t) := by rw [hk]; decide
  have ar1 : 1 < gp_ar (kd t) := by rw [hk]; decide
  have m0 := gp_tm_ch ok so ht (by omega) ar0 (by omega)
  have m1 := gp_tm_ch ok so ht (by omega) ar1 (by omega)
  obtain ⟨c1, c2, c3, c4⟩ := gx_chf ok S ht ar0
  obtain ⟨d1, d2, d3, d4⟩ := gx_chf ok S ht ar1
  have ge := gp_ch_ge ok ht (Nat.le_of_lt ar1)
  obtain ⟨_, ⟨x, x1, x2, x3⟩, _⟩ := I.2 _ (hc 0 ar0)
  obtain ⟨_, ⟨y, y1, y2, y3⟩, _⟩ := I.2 _ (hc 1 ar1)
  have u0 := gx_cu hA I ht ar0 (hc 0 ar0) m0
  have u1 := gx_cu hA I ht ar1 (hc 1 ar1) m1
  have bd : gp_bd (kd t) 1 = 1 := by rw [hk]; decide
  rw [bd] at u1
  obtain ⟨w1, w2⟩ := u1 (gp_sn kd t) (by omega)
  have q := gt_q17 (ag := a_nodeArg) ok ht hk
  have nd : gt_nd kd a_nodeArg n t = gt_u kd a_nodeArg n (gp_ch kd n t 1) (gp_sn kd t) := by unfold gt_nd; rw [if_neg (by omega), if_neg (by omega)]
  have kx := (gd_k x3).2
  dsimp only at kx
  obtain ⟨g, g2, eg⟩ := gt_wf_g (gt_twf hA (gp_ch_lt ok ht ar0).1)
  have egn : (gt_g (gt_t kd a_nodeArg n (gp_ch kd n t 0))).toNatClampNeg = g := by rw [eg]; exact nI_clamp (by omega)
  unfold wpX_completeLetBox
  try dsimp only
  refine gx_tc (j := 0) t32 c4 c3 c1 ?_
  rw [x2, et, nI_clamp (show x < 2 ^ 31 by omega), kx, eg]
  refine ⟨vp_in_nI (by omega) (by decide), v, nm_e (gx_ux t32 (S.2.1 t ht) (by omega) d3 d1 ?_)⟩
  rw [w1, pk_us]
  refine ⟨v, pk_le _ g (fun z => ?_) (fun z => ?_)⟩
  all_goals (
    try unfold wpX_fail
    try dsimp only
    unfold wX_completeLetBox_39
    refine gx_tc (j := 1) t32 d4 d3 d1 ?_
    rw [et, y2]
    refine ⟨v, nm_e (gx_au (s := gp_sn kd t) (ja := 0) (jb := 1) (ga := 1) (gb := 1) t32 (by omega) (S.2.1 t ht) (by omega) (by omega) c3 d3 c1 d1 c2 d2 (by omega) (by omega) (fun w hw => u0 w (by omega)) (fun w hw => u1 w (by omega)) ?_)⟩)
  · have e0 : gt_e2 kd a_nodeArg n t = 0 := by
      unfold gt_e2
      rw [gt_if_f (by omega), gt_if_f (by
        rintro (⟨r, _⟩ | ⟨_, r⟩)
        · omega
        · rw [nd, egn] at r; omega)]
    try dsimp only
    refine hOK e0 tc _ _ _ _ _ _ _ (gx_TI_add ok I ht hnP (Nat.le_refl _) I.1 (gd_ext_r _ _) y1 ?_ ?_ ?_ (fun i hi => pk_un hi) (fun _ => ?_)) (Nat.le_refl _) (by omega) (gd_ext_r _ _)
    · rw [y3, show gt_t kd a_nodeArg n t = (gt_f kd a_nodeArg n t).1 from rfl, q]
    · intro j hj
      rw [gx_row_off (by omega) hj]
    · intro _ w hw
      rw [show gt_u kd a_nodeArg n t w = (gt_f kd a_nodeArg n t).2.1 w from rfl, q, gx_row_in hw, gt_mul_1 (u0 w (by omega)).2, gt_mul_1 (u1 w (by omega)).2]
    · rw [pk_us, show gt_b kd a_nodeArg n t = (gt_f kd a_nodeArg n t).2.2 from rfl, q, egn]
  · have e5 : gt_e2 kd a_nodeArg n t = 5 := by
      unfold gt_e2
      rw [gt_if_f (by omega), gt_if_t (Or.inr ⟨hk, by rw [nd, egn]; exact z⟩)]
    have := hF (by rw [e5]; decide) (nI tc)
    rw [e5] at this
    exact this _ _ _ _ _ _ _
end
end
section
section
variable {f_derefLimit f_recordLimit f_frameLimit f_nodeCount f_currentStatus f_faultNode f_typeCount f_currentNode f_currentEnv f_returning f_returnedNumber f_frameCount f_lastOutcome f_lastValue f_derefsMade f_recordsMade : Int32} {a_nodeKind a_nodeArg a_expectedPlaces a_nodeAtPlace a_placeOfNode a_variablesSeen a_nodeType a_gradeOfBinder a_variableType a_usage a_typeKind a_typeGrade a_typeLeft a_typeRight a_frameMark a_frameWord a_frameEnv a_thunkNode a_thunkEnv a_restOfEnv a_binderOfRecord a_gradeOfRecord a_countOfRecord : Nat → Int32}
theorem gx_cVal2 {post : SX → Prop} {kd : Nat → Nat} {n t tc : Nat} {P : Nat → Prop} (A : gt_P kd a_nodeArg n) (S : gx_S kd n a_nodeKind a_variablesSeen a_nodeAtPlace) (I : gx_TI kd a_nodeArg n P tc a_nodeType a_gradeOfBinder a_usage (a_typeKind, a_typeGrade, a_typeLeft, a_typeRight)) (ht : t < n) (hc : ∀ j, j < gp_ar (kd t) → P (gp_ch kd n t j)) (hnP : ¬ P t) (htc : tc < 32) (hk : kd t = 11 ∨ kd t = 13 ∨ kd t = 14) (hOK : gt_e2 kd a_nodeArg n t = 0 → ∀ tc' nt gb us tk tg tl tr, gx_TI kd a_nodeArg n (fun d => P d ∨ d = t) tc' nt gb us (tk, tg, tl, tr) → tc ≤ tc' → tc' ≤ tc + 1 → gd_ext (a_typeKind, a_typeGrade, a_typeLeft, a_typeRight) (tk, tg, tl, tr) tc → post (f_derefLimit, f_recordLimit, f_frameLimit, f_nodeCount, f_currentStatus, f_faultNode, nI tc', f_currentNode, f_currentEnv, f_returning, f_returnedNumber, f_frameCount, f_lastOutcome, f_lastValue, f_derefsMade, f_recordsMade, a_nodeKind, a_nodeArg, a_expectedPlaces, a_nodeAtPlace, a_placeOfNode, a_variablesSeen, nt, gb, a_variableType, us, tk, tg, tl, tr, a_frameMark, a_frameWord, a_frameEnv, a_thunkNode, a_thunkEnv, a_restOfEnv, a_binderOfRecord, a_gradeOfRecord, a_countOfRecord)) : wpX_completeValue post (f_derefLimit, f_recordLimit, f_frameLimit, f_nodeCount, f_currentStatus, f_faultNode, nI tc, f_currentNode, f_currentEnv, f_returning, f_returnedNumber, f_frameCount, f_lastOutcome, f_lastValue, f_derefsMade, f_recordsMade, a_nodeKind, a_nodeArg, a_expectedPlaces, a_nodeAtPlace, a_placeOfNode, a_variablesSeen, a_nodeType, a_gradeOfBinder, a_variableType, a_usage, a_typeKind, a_typeGrade, a_typeLeft, a_typeRight, a_frameMark, a_frameWord, a_frameEnv, a_thunkNode, a_thunkEnv, a_restOfEnv, a_binderOfRecord, a_gradeOfRecord, a_countOfRecord) (nI t) := by
  have hA := A
  obtain ⟨ok, so, kr, sc, ag2, ag3, -⟩ := A
  have hn := ok.2.1
  have t32 : t < 32 := by omega
  have v := vp_in_nI t32 (by decide)
  have et : (nI t).toNatClampNeg = t := nI_clamp (by omega)
  have sl := gp_sn_lt ok ht
  have ar : gp_ar (kd t) = 2 := by rcases hk with e | e | e <;> rw [e] <;> decide
  have ar0 : 0 < gp_ar (kd t) := by omega
  have ar1 : 1 < gp_ar (kd t) := by omega
  have m1 := gp_tm_ch ok so ht (by omega) ar1 (by omega)
  obtain ⟨c1, c2, c3, c4⟩ := gx_chf ok S ht ar0
  obtain ⟨d1, d2, d3, d4⟩ := gx_chf ok S ht ar1
  obtain ⟨_, ⟨x, x1, x2, x3⟩, _⟩ := I.2 _ (hc 0 ar0)
  obtain ⟨_, ⟨y, y1, y2, y3⟩, _⟩ := I.2 _ (hc 1 ar1)
  have u1 := gx_cu hA I ht ar1 (hc 1 ar1) m1
  have e0 : gt_e2 kd a_nodeArg n t = 0 := gt_e2_z (by omega)
  unfold wpX_completeValue
  try dsimp only
  refine gx_tc (j := 0) t32 c4 c3 c1 ?_
  rw [x2, et, S.1 t ht]
  refine ⟨v, pk_eq (kd t) 16 (fun z => by omega) (fun _ => gx_tc (j := 1) t32 d4 d3 d1 ?_)⟩
  rw [y2]
  unfold wX_completeValue_28
  rw [et, S.1 t ht]
  refine ⟨v, nm_e ?_⟩
  rcases hk with e | e | e
  · have m0 := gp_tm_ch ok so ht (by omega) ar0 (by omega)
    have u0 := gx_cu hA I ht ar0 (hc 0 ar0) m0
    have q := gt_q11 (ag := a_nodeArg) ok ht e
    rw [e]
    refine br_f (by decide) (br_f (by decide) (br_t (by decide) ?_))
    refine gx_tn htc I.1 (fun _ => ⟨x, x1, rfl, x3⟩) (fun _ _ => ⟨y, y1, rfl, y3⟩) (fun z => absurd z (by decide)) (fun z => absurd z (by decide)) (fun x' tc' tk tg tl tr hx b1 b2 b3 b4 b5 => ?_)
    try dsimp only
    try rw [et]
    refine ⟨v, nm_e (gx_au (s := gp_sn kd t) (ja := 0) (jb := 1) (ga := 1) (gb := 1) t32 (by omega) (S.2.1 t ht) (by omega) (by omega) c3 d3 c1 d1 c2 d2 (by omega) (by omega) (fun w hw => u0 w (by omega)) (fun w hw => u1 w (by omega)) ?_)⟩
    try dsimp only
    refine hOK e0 tc' _ _ _ _ _ _ _ (gx_TI_add ok I ht hnP b1 b3 b4 hx ?_ ?_ ?_ (fun _ _ => rfl) (fun z => by omega)) b1 b2 b4
    · rw [b5, show gt_t kd a_nodeArg n t = (gt_f kd a_nodeArg n t).1 from rfl, q]
    · intro j hj
      rw [gx_row_off (by omega) hj]
    · intro _ w hw
      rw [show gt_u kd a_nodeArg n t w = (gt_f kd a_nodeArg n t).2.1 w from rfl, q, gx_row_in hw, gt_mul_1 (u0 w (by omega)).2, gt_mul_1 (u1 w (by omega)).2]
  · have q := gt_q13 (ag := a_nodeArg) ok ht e
    rw [e]
    refine br_f (by decide) (br_f (by decide) (br_f (by decide) (br_f (by decide) (br_t (by decide) ?_))))
    refine gx_tn htc I.1 (fun _ => ⟨y, y1, rfl, y3⟩) (fun _ _ => ⟨x, x1, rfl, x3⟩) (fun z => absurd z (by decide)) (fun z => absurd z (by decide)) (fun x' tc' tk tg tl tr hx b1 b2 b3 b4 b5 => ?_)
    try dsimp only
    try rw [et]
    refine ⟨v, nm_e (gx_au (s := gp_sn kd t) (ja := 1) (jb := 1) (ga := 1) (gb := 0) t32 (by omega) (S.2.1 t ht) (by omega) (by omega) d3 d3 d1 d1 d2 d2 (by omega) (by omega) (fun w hw => u1 w (by omega)) (fun w hw => u1 w (by omega)) ?_)⟩
    try dsimp only
    refine hOK e0 tc' _ _ _ _ _ _ _ (gx_TI_add ok I ht hnP b1 b3 b4 hx ?_ ?_ ?_ (fun _ _ => rfl) (fun z => by omega)) b1 b2 b4
    · rw [b5, show gt_t kd a_nodeArg n t = (gt_f kd a_nodeArg n t).1 from rfl, q]
    · intro j hj
      rw [gx_row_off (by omega) hj]
    · intro _ w hw
      rw [show gt_u kd a_nodeArg n t w = (gt_f kd a_nodeArg n t).2.1 w from rfl, q, gx_row_in hw, gt_mul_1 (u1 w (by omega)).2, gt_mul_0, gt_add_0 (u1 w (by omega)).2]
  · have q := gt_q14 (ag := a_nodeArg) ok ht e
    rw [e]
    refine br_f (by decide) (br_f (by decide) (br_f (by decide) (br_f (by decide) (br_f (by decide) (br_t (by decide) ?_)))))
    refine gx_tn htc I.1 (fun _ => ⟨x, x1, rfl, x3⟩) (fun _ _ => ⟨y, y1, rfl, y3⟩) (fun z => absurd z (by decide)) (fun z => absurd z (by decide)) (fun x' tc' tk tg tl tr hx b1 b2 b3 b4 b5 => ?_)
    try dsimp only
    try rw [et]
    refine ⟨v, nm_e (gx_au (s := gp_sn kd t) (ja := 1) (jb := 1) (ga := 1) (gb := 0) t32 (by omega) (S.2.1 t ht) (by omega) (by omega) d3 d3 d1 d1 d2 d2 (by omega) (by omega) (fun w hw => u1 w (by omega)) (fun w hw => u1 w (by omega)) ?_)⟩
    try dsimp only
    refine hOK e0 tc' _ _ _ _ _ _ _ (gx_TI_add ok I ht hnP b1 b3 b4 hx ?_ ?_ ?_ (fun _ _ => rfl) (fun z => by omega)) b1 b2 b4
    · rw [b5, show gt_t kd a_nodeArg n t = (gt_f kd a_nodeArg n t).1 from rfl, q]
    · intro j hj
      rw [gx_row_off (by omega) hj]
    · intro _ w hw
      rw [show gt_u kd a_nodeArg n t w = (gt_f kd a_nodeArg n t).2.1 w from rfl, q, gx_row_in hw, gt_mul_1 (u1 w (by omega)).2, gt_mul_0, gt_add_0 (u1 w (by omega)).2]
theorem gx_cVal1 {post : SX → Prop} {kd : Nat → Nat} {n t tc : Nat} {P : Nat → Prop} (A : gt_P kd a_nodeArg n) (S : gx_S kd n a_nodeKind a_variablesSeen a_nodeAtPlace) (I : gx_TI kd a_nodeArg n P tc a_nodeType a_gradeOfBinder a_usage (a_typeKind, a_typeGrade, a_typeLeft, a_typeRight)) (ht : t < n) (hc : ∀ j, j < gp_ar (kd t) → P (gp_ch kd n t j)) (hnP : ¬ P t) (htc : tc < 32) (hk : kd t = 16) (hOK : gt_e2 kd a_nodeArg n t = 0 → ∀ tc' nt gb us tk tg tl tr, gx_TI kd a_nodeArg n (fun d => P d ∨ d = t) tc' nt gb us (tk, tg, tl, tr) → tc ≤ tc' → tc' ≤ tc + 1 → gd_ext (a_typeKind, a_typeGrade, a_typeLeft, a_typeRight) (tk, tg, tl, tr) tc → post (f_derefLimit, f_recordLimit, f_frameLimit, f_nodeCount, f_currentStatus, f_faultNode, nI tc', f_currentNode, f_currentEnv, f_returning, f_returnedNumber, f_frameCount, f_lastOutcome, f_lastValue, f_derefsMade, f_recordsMade, a_nodeKind, a_nodeArg, a_expectedPlaces, a_nodeAtPlace, a_placeOfNode, a_variablesSeen, nt, gb, a_variableType, us, tk, tg, tl, tr, a_frameMark, a_frameWord, a_frameEnv, a_thunkNode, a_thunkEnv, a_restOfEnv, a_binderOfRecord, a_gradeOfRecord, a_countOfRecord)) : wpX_completeValue post (f_derefLimit, f_recordLimit, f_frameLimit, f_nodeCount, f_currentStatus, f_faultNode, nI tc, f_currentNode, f_currentEnv, f_returning, f_returnedNumber, f_frameCount, f_lastOutcome, f_lastValue, f_derefsMade, f_recordsMade, a_nodeKind, a_nodeArg, a_expectedPlaces, a_nodeAtPlace, a_placeOfNode, a_variablesSeen, a_nodeType, a_gradeOfBinder, a_variableType, a_usage, a_typeKind, a_typeGrade, a_typeLeft, a_typeRight, a_frameMark, a_frameWord, a_frameEnv, a_thunkNode, a_thunkEnv, a_restOfEnv, a_binderOfRecord, a_gradeOfRecord, a_countOfRecord) (nI t) := by
  have hA := A
  obtain ⟨ok, so, kr, sc, ag2, ag3, -⟩ := A
  have hn := ok.2.1
  have t32 : t < 32 := by omega
  have v := vp_in_nI t32 (by decide)
  have et : (nI t).toNatClampNeg = t := nI_clamp (by omega)
  have sl := gp_sn_lt ok ht
  have ar0 : 0 < gp_ar (kd t) := by rw [hk]; decide
  have m0 := gp_tm_ch ok so ht (by omega) ar0 (by omega)
  obtain ⟨c1, c2, c3, c4⟩ := gx_chf ok S ht ar0
  obtain ⟨_, ⟨x, x1, x2, x3⟩, _⟩ := I.2 _ (hc 0 ar0)
  have u0 := gx_cu hA I ht ar0 (hc 0 ar0) m0
  have e0 : gt_e2 kd a_nodeArg n t = 0 := gt_e2_z (by omega)
  have q := gt_q16 (ag := a_nodeArg) ok ht hk
  obtain ⟨g, g2, eg⟩ := ag2 t ht (by omega)
  unfold wpX_completeValue
  try dsimp only
  refine gx_tc (j := 0) t32 c4 c3 c1 ?_
  rw [x2, et, S.1 t ht, hk]
  refine ⟨v, br_t (by decide) ?_⟩
  unfold wX_completeValue_28
  rw [et, S.1 t ht, hk]
  refine ⟨v, nm_e (br_f (by decide) (br_t (by decide) ?_))⟩
  unfold wX_completeValue_142
  rw [et, eg]
  refine ⟨v, gx_tn (τr := fun _ => none) htc I.1 (fun _ => ⟨x, x1, rfl, x3⟩) (fun _ z => absurd rfl z) (fun z => absurd z (by decide)) (fun _ => rfl) (fun x' tc' tk tg tl tr hx b1 b2 b3 b4 b5 => ?_)⟩
  try dsimp only
  try rw [et]
  try rw [eg]
  refine ⟨v, nm_e ⟨v, gx_au (s := gp_sn kd t) (ja := 0) (jb := 0) (gb := 0) t32 (by omega) (S.2.1 t ht) (by omega) (by omega) c3 c3 c1 c1 c2 c2 g2 (by omega) (fun w hw => u0 w (by omega)) (fun w hw => u0 w (by omega)) ?_⟩⟩
  try dsimp only
  refine hOK e0 tc' _ _ _ _ _ _ _ (gx_TI_add ok I ht hnP b1 b3 b4 hx ?_ ?_ ?_ (fun _ _ => rfl) (fun z => by omega)) b1 b2 b4
  · rw [b5, show gt_t kd a_nodeArg n t = (gt_f kd a_nodeArg n t).1 from rfl, q, eg]
  · intro j hj
    rw [gx_row_off (by omega) hj]
  · intro _ w hw
    rw [show gt_u kd a_nodeArg n t w = (gt_f kd a_nodeArg n t).2.1 w from rfl, q, gx_row_in hw, gt_mul_0, gt_add_0 (gt_mul_le _ _), eg, nI_clamp (by omega)]
theorem gx_complete {post : SX → Prop} {kd : Nat → Nat} {n t tc : Nat} {P : Nat → Prop} (A : gt_P kd a_nodeArg n) (S : gx_S kd n a_nodeKind a_variablesSeen a_nodeAtPlace) (I : gx_TI kd a_nodeArg n P tc a_nodeType a_gradeOfBinder a_usage (a_typeKind, a_typeGrade, a_typeLeft, a_typeRight)) (ht : t < n) (hc : ∀ j, j < gp_ar (kd t) → P (gp_ch kd n t j)) (hnP : ¬ P t) (htc : tc < 32) (hVI : ∀ v, v < gp_sn kd t → ∃ x, x < tc ∧ a_variableType v = nI x ∧ gd_D (a_typeKind, a_typeGrade, a_typeLeft, a_typeRight) x = gt_G kd a_nodeArg n t v) (hOK : gt_e2 kd a_nodeArg n t = 0 → ∀ tc' nt gb us tk tg tl tr, gx_TI kd a_nodeArg n (fun d => P d ∨ d = t) tc' nt gb us (tk, tg, tl, tr) → tc ≤ tc' → tc' ≤ tc + 1 → gd_ext (a_typeKind, a_typeGrade, a_typeLeft, a_typeRight) (tk, tg, tl, tr) tc → post (f_derefLimit, f_recordLimit, f_frameLimit, f_nodeCount, f_currentStatus, f_faultNode, nI tc', f_currentNode, f_currentEnv, f_returning, f_returnedNumber, f_frameCount, f_lastOutcome, f_lastValue, f_derefsMade, f_recordsMade, a_nodeKind, a_nodeArg, a_expectedPlaces, a_nodeAtPlace, a_placeOfNode, a_variablesSeen, nt, gb, a_variableType, us, tk, tg, tl, tr, a_frameMark, a_frameWord, a_frameEnv, a_thunkNode, a_thunkEnv, a_restOfEnv, a_binderOfRecord, a_gradeOfRecord, a_countOfRecord)) (hF : gt_e2 kd a_nodeArg n t ≠ 0 → ∀ tc' nt gb us tk tg tl tr, post (f_derefLimit, f_recordLimit, f_frameLimit, f_nodeCount, nI (gt_e2 kd a_nodeArg n t), nI t, tc', f_currentNode, f_currentEnv, f_returning, f_returnedNumber, f_frameCount, f_lastOutcome, f_lastValue, f_derefsMade, f_recordsMade, a_nodeKind, a_nodeArg, a_expectedPlaces, a_nodeAtPlace, a_placeOfNode, a_variablesSeen, nt, gb, a_variableType, us, tk, tg, tl, tr, a_frameMark, a_frameWord, a_frameEnv, a_thunkNode, a_thunkEnv, a_restOfEnv, a_binderOfRecord, a_gradeOfRecord, a_countOfRecord)) : wpX_complete post (f_derefLimit, f_recordLimit, f_frameLimit, f_nodeCount, f_currentStatus, f_faultNode, nI tc, f_currentNode, f_currentEnv, f_returning, f_returnedNumber, f_frameCount, f_lastOutcome, f_lastValue, f_derefsMade, f_recordsMade, a_nodeKind, a_nodeArg, a_expectedPlaces, a_nodeAtPlace, a_placeOfNode, a_variablesSeen, a_nodeType, a_gradeOfBinder, a_variableType, a_usage, a_typeKind, a_typeGrade, a_typeLeft, a_typeRight, a_frameMark, a_frameWord, a_frameEnv, a_thunkNode, a_thunkEnv, a_restOfEnv, a_binderOfRecord, a_gradeOfRecord, a_countOfRecord) (nI t) := by
  have hA := A
  obtain ⟨ok, so, kr, -⟩ := A
  have hn := ok.2.1
  have t32 : t < 32 := by omega
  have v := vp_in_nI t32 (by decide)
  have et : (nI t).toNatClampNeg = t := nI_clamp (by omega)
  have k1 := (kr t ht).1
  have k17 := (kr t ht).2
  unfold wpX_complete
  try dsimp only
  rw [et, S.1 t ht]
  refine ⟨v, nm_e ?_⟩
  by_cases h5 : kd t ≤ 5
  · refine pk_lt (kd t) 6 (fun _ => ?_) (fun z => by omega)
    exact gx_cType hA S I ht hc hnP htc h5 (hOK (gt_e2_z (by omega)))
  have hcase : kd t = 6 ∨ kd t = 7 ∨ kd t = 8 ∨ kd t = 9 ∨ kd t = 10 ∨ kd t = 11 ∨ kd t = 12 ∨ kd t = 13 ∨ kd t = 14 ∨ kd t = 15 ∨ kd t = 16 ∨ kd t = 17 := by omega
  rcases hcase with e | e | e | e | e | e | e | e | e | e | e | e
  · rw [e]
    repeat (refine br_f (by decide) ?_)
    exact br_t (by decide) (gx_cVar hA S I ht hc hnP htc e hVI hOK)
  · have sl := gp_sn_lt ok ht
    rw [e]
    repeat (refine br_f (by decide) ?_)
    refine br_t (by decide) ?_
    refine gx_tn (τl := fun _ => none) (τr := fun _ => none) htc I.1 (fun z => absurd rfl z) (fun z => absurd rfl z) (fun _ => ⟨rfl, rfl⟩) (fun _ => rfl) (fun x tc' tk tg tl tr hx a1 a2 a3 a4 a5 => ?_)
    try dsimp only
    try rw [et]
    refine ⟨v, nm_e (gx_clr (s := gp_sn kd t) t32 (by omega) (S.2.1 t ht) ?_)⟩
    try dsimp only
    refine hOK (gt_e2_z (by omega)) tc' _ _ _ _ _ _ _ (gx_TI_add ok I ht hnP a1 a3 a4 hx ?_ ?_ ?_ (fun _ _ => rfl) (fun z => by omega)) a1 a2 a4
    · rw [a5, show gt_t kd a_nodeArg n t = (gt_f kd a_nodeArg n t).1 from rfl, gt_q7 ok ht e]
    · intro j hj
      rw [gx_row_off (by omega) hj]
    · intro _ w hw
      rw [show gt_u kd a_nodeArg n t w = (gt_f kd a_nodeArg n t).2.1 w from rfl, gt_q7 ok ht e, gx_row_in hw]
      rfl
  · rw [e]
    repeat (refine br_f (by decide) ?_)
    exact br_t (by decide) (gx_cAdd hA S I ht hc hnP htc e hOK hF)
  · rw [e]
    repeat (refine br_f (by decide) ?_)
    exact br_t (by decide) (gx_cLam hA S I ht hc hnP htc e hOK hF)
  · rw [e]
    repeat (refine br_f (by decide) ?_)
    exact br_t (by decide) (gx_cApp hA S I ht hc hnP htc e hOK hF)
  · rw [e]
    repeat (refine br_f (by decide) ?_)
    exact br_t (by decide) (gx_cVal2 hA S I ht hc hnP htc (Or.inl e) hOK)
  · rw [e]
    repeat (refine br_f (by decide) ?_)
    exact br_t (by decide) (gx_cPair hA S I ht hc hnP htc e hOK hF)
  · rw [e]
    repeat (refine br_f (by decide) ?_)
    exact br_t (by decide) (gx_cVal2 hA S I ht hc hnP htc (Or.inr (Or.inl e)) hOK)
  · rw [e]
    repeat (refine br_f (by decide) ?_)
    exact br_t (by decide) (gx_cVal2 hA S I ht hc hnP htc (Or.inr (Or.inr e)) hOK)
  · rw [e]
    repeat (refine br_f (by decide) ?_)
    exact br_t (by decide) (gx_cCase hA S I ht hc hnP htc e hOK hF)
  · rw [e]
    repeat (refine br_f (by decide) ?_)
    exact br_t (by decide) (gx_cVal1 hA S I ht hc hnP htc e hOK)
  · rw [e]
    repeat (refine br_f (by decide) ?_)
    exact br_t (by decide) (gx_cBox hA S I ht hc hnP htc e hOK hF)
end
end
section
section
variable {f_derefLimit f_recordLimit f_frameLimit f_nodeCount f_currentStatus f_faultNode f_typeCount f_currentNode f_currentEnv f_returning f_returnedNumber f_frameCount f_lastOutcome f_lastValue f_derefsMade f_recordsMade : Int32} {a_nodeKind a_nodeArg a_expectedPlaces a_nodeAtPlace a_placeOfNode a_variablesSeen a_nodeType a_gradeOfBinder a_variableType a_usage a_typeKind a_typeGrade a_typeLeft a_typeRight a_frameMark a_frameWord a_frameEnv a_thunkNode a_thunkEnv a_restOfEnv a_binderOfRecord a_gradeOfRecord a_countOfRecord : Nat → Int32}
theorem gx_prep {post : SX → Prop} {kd : Nat → Nat} {n t j tc : Nat} {P : Nat → Prop} (A : gt_P kd a_nodeArg n) (S : gx_S kd n a_nodeKind a_variablesSeen a_nodeAtPlace) (I : gx_TI kd a_nodeArg n P tc a_nodeType a_gradeOfBinder a_usage (a_typeKind, a_typeGrade, a_typeLeft, a_typeRight)) (ht : t < n) (hj : j < gp_ar (kd t)) (hc : P (gp_ch kd n t 0)) (htc : tc ≤ 32)
    (hVI : ∀ v, v < gp_sn kd t → ∃ x, x < tc ∧ a_variableType v = nI x ∧ gd_D (a_typeKind, a_typeGrade, a_typeLeft, a_typeRight) x = gt_G kd a_nodeArg n t v) (he : 0 < j → gt_e1 kd a_nodeArg n t = 0)
    (hOK : gt_e1 kd a_nodeArg n t = 0 → ∀ vt, (∀ v, v < gp_sn kd t → vt v = a_variableType v) → (j + 1 < gp_ar (kd t) → ∀ v, v < gp_sn kd (gp_ch kd n t (j + 1)) → ∃ x, x < tc ∧ vt v = nI x ∧ gd_D (a_typeKind, a_typeGrade, a_typeLeft, a_typeRight) x = gt_G kd a_nodeArg n (gp_ch kd n t (j + 1)) v) → post (f_derefLimit, f_recordLimit, f_frameLimit, f_nodeCount, f_currentStatus, f_faultNode, f_typeCount, f_currentNode, f_currentEnv, f_returning, f_returnedNumber, f_frameCount, f_lastOutcome, f_lastValue, f_derefsMade, f_recordsMade, a_nodeKind, a_nodeArg, a_expectedPlaces, a_nodeAtPlace, a_placeOfNode, a_variablesSeen, a_nodeType, a_gradeOfBinder, vt, a_usage, a_typeKind, a_typeGrade, a_typeLeft, a_typeRight, a_frameMark, a_frameWord, a_frameEnv, a_thunkNode, a_thunkEnv, a_restOfEnv, a_binderOfRecord, a_gradeOfRecord, a_countOfRecord))
    (hF : j = 0 → ¬ gt_e1 kd a_nodeArg n t = 0 → post (f_derefLimit, f_recordLimit, f_frameLimit, f_nodeCount, 4, nI t, f_typeCount, f_currentNode, f_currentEnv, f_returning, f_returnedNumber, f_frameCount, f_lastOutcome, f_lastValue, f_derefsMade, f_recordsMade, a_nodeKind, a_nodeArg, a_expectedPlaces, a_nodeAtPlace, a_placeOfNode, a_variablesSeen, a_nodeType, a_gradeOfBinder, a_variableType, a_usage, a_typeKind, a_typeGrade, a_typeLeft, a_typeRight, a_frameMark, a_frameWord, a_frameEnv, a_thunkNode, a_thunkEnv, a_restOfEnv, a_binderOfRecord, a_gradeOfRecord, a_countOfRecord)) : wpX_prepareNextChild post (f_derefLimit, f_recordLimit, f_frameLimit, f_nodeCount, f_currentStatus, f_faultNode, f_typeCount, f_currentNode, f_currentEnv, f_returning, f_returnedNumber, f_frameCount, f_lastOutcome, f_lastValue, f_derefsMade, f_recordsMade, a_nodeKind, a_nodeArg, a_expectedPlaces, a_nodeAtPlace, a_placeOfNode, a_variablesSeen, a_nodeType, a_gradeOfBinder, a_variableType, a_usage, a_typeKind, a_typeGrade, a_typeLeft, a_typeRight, a_frameMark, a_frameWord, a_frameEnv, a_thunkNode, a_thunkEnv, a_restOfEnv, a_binderOfRecord, a_gradeOfRecord, a_countOfRecord) (nI t) (nI j) := by
  have hA := A
  obtain ⟨ok, so, kr, -⟩ := A
  have hn := ok.2.1
  have t32 : t < 32 := by omega
  have v := vp_in_nI t32 (by decide)
  have et : (nI t).toNatClampNeg = t := nI_clamp (by omega)
  have sl := gp_sn_lt ok ht
  have k1 := (kr t ht).1
  have k17 := (kr t ht).2
  have a3 := gp_ar_le (kd t)
  have ar0 : 0 < gp_ar (kd t) := by omega
  obtain ⟨c1, c2, c3, c4⟩ := gx_chf ok S ht ar0
  obtain ⟨_, ⟨x, x1, x2, x3⟩, _⟩ := I.2 _ hc
  have ex : (nI x).toNatClampNeg = x := nI_clamp (by omega)
  have vx := vp_in_nI (show x < 32 by omega) (by decide)
  have es : (nI (gp_sn kd t)).toNatClampNeg = gp_sn kd t := nI_clamp (by omega)
  have vs := vp_in_nI (show gp_sn kd t < 32 by omega) (by decide)
  have kx := (gd_k x3).1
  dsimp only at kx
  have none : gp_bd (kd t) (j + 1) = 0 → gt_e1 kd a_nodeArg n t = 0 → post (f_derefLimit, f_recordLimit, f_frameLimit, f_nodeCount, f_currentStatus, f_faultNode, f_typeCount, f_currentNode, f_currentEnv, f_returning, f_returnedNumber, f_frameCount, f_lastOutcome, f_lastValue, f_derefsMade, f_recordsMade, a_nodeKind, a_nodeArg, a_expectedPlaces, a_nodeAtPlace, a_placeOfNode, a_variablesSeen, a_nodeType, a_gradeOfBinder, a_variableType, a_usage, a_typeKind, a_typeGrade, a_typeLeft, a_typeRight, a_frameMark, a_frameWord, a_frameEnv, a_thunkNode, a_thunkEnv, a_restOfEnv, a_binderOfRecord, a_gradeOfRecord, a_countOfRecord) := fun hb h0 =>
    hOK h0 a_variableType (fun _ _ => rfl) (fun hj1 w hw => by
      rw [gp_sn_ch ok ht hj1, hb] at hw
      rw [gt_G_up ok ht hj1 (by omega)]
      exact hVI w (by omega))
  have last : ¬ j + 1 < gp_ar (kd t) → gt_e1 kd a_nodeArg n t = 0 → ∀ vt, (∀ w, w < gp_sn kd t → vt w = a_variableType w) → post (f_derefLimit, f_recordLimit, f_frameLimit, f_nodeCount, f_currentStatus, f_faultNode, f_typeCount, f_currentNode, f_currentEnv, f_returning, f_returnedNumber, f_frameCount, f_lastOutcome, f_lastValue, f_derefsMade, f_recordsMade, a_nodeKind, a_nodeArg, a_expectedPlaces, a_nodeAtPlace, a_placeOfNode, a_variablesSeen, a_nodeType, a_gradeOfBinder, vt, a_usage, a_typeKind, a_typeGrade, a_typeLeft, a_typeRight, a_frameMark, a_frameWord, a_frameEnv, a_thunkNode, a_thunkEnv, a_restOfEnv, a_binderOfRecord, a_gradeOfRecord, a_countOfRecord) := fun hl h0 vt h =>
    hOK h0 vt h (fun z => absurd z hl)
  unfold wpX_prepareNextChild
  try dsimp only
  rw [et, S.2.1 t ht, S.1 t ht]
  refine ⟨v, nm_e (gx_tc (j := 0) t32 c4 c3 c1 ?_)⟩
  rw [x2]
  refine ⟨v, nm_e ?_⟩
  have e1z : kd t ≠ 12 ∧ kd t ≠ 15 ∧ kd t ≠ 17 → gt_e1 kd a_nodeArg n t = 0 := fun z => gt_if_f (by omega)
  have bdz : kd t ≠ 9 ∧ kd t ≠ 12 ∧ kd t ≠ 15 ∧ kd t ≠ 17 → gp_bd (kd t) (j + 1) = 0 := fun z => by
    unfold gp_bd; rw [if_neg (by omega), if_neg (by omega), if_neg (by omega)]
  by_cases h9 : kd t < 9
  · exact pk_lt (kd t) 9 (fun _ => none (bdz (by omega)) (e1z (by omega))) (fun z => by omega)
  have hcase : kd t = 9 ∨ kd t = 10 ∨ kd t = 11 ∨ kd t = 12 ∨ kd t = 13 ∨ kd t = 14 ∨ kd t = 15 ∨ kd t = 16 ∨ kd t = 17 := by omega
  rcases hcase with e | e | e | e | e | e | e | e | e
  · rw [e]
    refine br_f (by decide) (br_f (by decide) (br_t (by decide) ?_))
    rw [es]
    refine ⟨vs, nm_e (hOK (e1z (by omega)) _ (fun w hw => pk_un (by omega)) (fun hj1 w hw => ?_))⟩
    have ej : j = 0 := by rw [e] at hj1; have : gp_ar 9 = 2 := by decide
                          omega
    subst ej
    rw [gp_sn_ch ok ht hj1, e, show gp_bd 9 (0 + 1) = 1 by decide] at hw
    rcases Nat.lt_or_ge w (gp_sn kd t) with z | z
    · rw [gt_G_up ok ht hj1 z, pk_un (by omega)]
      exact hVI w z
    · have ew : w = gp_sn kd t := by omega
      subst ew
      rw [gt_G_new ok ht hj1 (Nat.le_refl _), pk_us]
      refine ⟨x, x1, rfl, ?_⟩
      rw [x3, e]; rfl
  · rw [e]
    refine br_f (by decide) (br_f (by decide) (br_f (by decide) (br_t (by decide) ?_)))
    exact none (bdz (by omega)) (e1z (by omega))
  · rw [e]
    refine br_f (by decide) (br_f (by decide) (br_f (by decide) (br_f (by decide) (br_t (by decide) ?_))))
    exact none (bdz (by omega)) (e1z (by omega))
  · have e1 := e
    rw [e]
    refine br_f (by decide) (br_f (by decide) (br_f (by decide) (br_f (by decide) (br_f (by decide) (br_t (by decide) ?_)))))
    have ar2 : gp_ar (kd t) = 2 := by rw [e1]; decide
    refine pk_eq j 0 (fun z => ?_) (fun z => ?_)
    · subst z
      refine gx_nk (by omega) (fun k2 => br_f (by decide) ?_) (fun k2 => br_t rfl (hF rfl (by rw [show gt_e1 kd a_nodeArg n t = 4 from gt_if_t (Or.inl ⟨e1, fun y => k2 (kx.trans y)⟩)]; decide)))
      have n1 : ¬ (a_typeKind x = 1) := by rw [k2]; decide
      have n5 : ¬ (a_typeKind x = 5) := by rw [k2]; decide
      have L := gd_xL (by omega) (I.1.2.1 x x1) n1
      have R := gd_xR (by omega) (I.1.2.1 x x1) n1 n5
      have tl := gd_l x3 n1
      have tr := gd_r x3 n1 n5
      have L2 := L.2
      have R2 := R.2
      dsimp only at L2 R2
      have cl := gp_sn_lt ok (gp_ch_lt ok ht (j := 1) (by omega)).1
      rw [gp_sn_ch ok ht (j := 1) (by omega), e1, show gp_bd 12 1 = 2 by decide] at cl
      have cn := (gp_ch_lt ok ht (j := 1) (by omega)).1
      try dsimp only
      rw [ex, es, nI_1, nI_clamp (show gp_sn kd t + 1 < 2 ^ 31 by omega), L2, R2]
      have e0 : gt_e1 kd a_nodeArg n t = 0 := gt_if_f (by
        rintro (⟨_, y⟩ | ⟨y, _⟩ | ⟨y, _⟩)
        · exact y (kx.symm.trans k2)
        · omega
        · omega)
      refine ⟨vx, vs, nm_e ⟨vx, vp_in_nI (by omega) (by decide), nm_e (hOK e0 _ (fun w hw => by rw [pk_un (by omega), pk_un (by omega)]) (fun hj1 w hw => ?_))⟩⟩
      rw [gp_sn_ch ok ht hj1, e1, show gp_bd 12 (0 + 1) = 2 by decide] at hw
      rcases Nat.lt_or_ge w (gp_sn kd t) with z | z
      · rw [gt_G_up ok ht hj1 z, pk_un (by omega), pk_un (by omega)]
        exact hVI w z
      · rw [gt_G_new ok ht hj1 z, e1]
        rcases Nat.lt_or_ge (gp_sn kd t) w with y | y
        · have ew : w = gp_sn kd t + 1 := by omega
          subst ew
          rw [pk_us, show gp_sn kd t + 1 - gp_sn kd t = 1 by omega]
          exact ⟨_, by omega, rfl, tr⟩
        · have ew : w = gp_sn kd t := by omega
          subst ew
          rw [pk_un (by omega), pk_us, Nat.sub_self]
          exact ⟨_, by omega, rfl, tl⟩
    · exact last (by omega) (he (by omega)) a_variableType (fun _ _ => rfl)
  · rw [e]
    refine br_f (by decide) (br_f (by decide) (br_f (by decide) (br_f (by decide) (br_f (by decide) (br_f (by decide) (br_t (by decide) ?_))))))
    exact none (bdz (by omega)) (e1z (by omega))
  · rw [e]
    refine br_f (by decide) (br_f (by decide) (br_f (by decide) (br_f (by decide) (br_f (by decide) (br_f (by decide) (br_f (by decide) (br_t (by decide) ?_)))))))
    exact none (bdz (by omega)) (e1z (by omega))
  · have e1 := e
    rw [e]
    refine br_f (by decide) (br_f (by decide) (br_f (by decide) (br_f (by decide) (br_f (by decide) (br_f (by decide) (br_f (by decide) (br_f (by decide) (br_t (by decide) ?_))))))))
    have ar3 : gp_ar (kd t) = 3 := by rw [e1]; decide
    refine pk_lt 0 j (fun z => ?_) (fun z => ?_)
    · have h0 := he z
      have k3 : a_typeKind x = 3 := kx.trans ((gt_e1_0 h0).2.1 e1)
      have n1 : ¬ (a_typeKind x = 1) := by rw [k3]; decide
      have n5 : ¬ (a_typeKind x = 5) := by rw [k3]; decide
      have R := gd_xR (by omega) (I.1.2.1 x x1) n1 n5
      have tr := gd_r x3 n1 n5
      have R2 := R.2
      dsimp only at R2
      refine br_f (nI_ne0 z (by omega)) ?_
      try dsimp only
      rw [ex, es, R2]
      refine ⟨vx, vs, nm_e (hOK h0 _ (fun w hw => pk_un (by omega)) (fun hj1 w hw => ?_))⟩
      have ej : j = 1 := by omega
      subst ej
      rw [gp_sn_ch ok ht hj1, e1, show gp_bd 15 (1 + 1) = 1 by decide] at hw
      rcases Nat.lt_or_ge w (gp_sn kd t) with z | z
      · rw [gt_G_up ok ht hj1 z, pk_un (by omega)]
        exact hVI w z
      · have ew : w = gp_sn kd t := by omega
        subst ew
        rw [gt_G_new ok ht hj1 (Nat.le_refl _), pk_us, e1]
        exact ⟨_, by omega, rfl, tr⟩
    · have ej : j = 0 := by omega
      subst ej
      refine gx_nk (by omega) (fun k3 => br_f (by decide) (br_t rfl ?_)) (fun k3 => br_t rfl (hF rfl (by rw [show gt_e1 kd a_nodeArg n t = 4 from gt_if_t (Or.inr (Or.inl ⟨e1, fun y => k3 (kx.trans y)⟩))]; decide)))
      have n1 : ¬ (a_typeKind x = 1) := by rw [k3]; decide
      have L := gd_xL (by omega) (I.1.2.1 x x1) n1
      have tl := gd_l x3 n1
      have L2 := L.2
      dsimp only at L2
      have e0 : gt_e1 kd a_nodeArg n t = 0 := gt_if_f (by
        rintro (⟨y, _⟩ | ⟨_, y⟩ | ⟨y, _⟩)
        · omega
        · exact y (kx.symm.trans k3)
        · omega)
      try dsimp only
      rw [ex, es, L2]
      refine ⟨vx, vs, nm_e (hOK e0 _ (fun w hw => pk_un (by omega)) (fun hj1 w hw => ?_))⟩
      rw [gp_sn_ch ok ht hj1, e1, show gp_bd 15 (0 + 1) = 1 by decide] at hw
      rcases Nat.lt_or_ge w (gp_sn kd t) with z | z
      · rw [gt_G_up ok ht hj1 z, pk_un (by omega)]
        exact hVI w z
      · have ew : w = gp_sn kd t := by omega
        subst ew
        rw [gt_G_new ok ht hj1 (Nat.le_refl _), pk_us, e1]
        exact ⟨_, by omega, rfl, tl⟩
  · rw [e]
    refine br_f (by decide) (br_f (by decide) (br_f (by decide) (br_f (by decide) (br_f (by decide) (br_f (by decide) (br_f (by decide) (br_f (by decide) (br_f (by decide) (br_t (by decide) ?_)))))))))
    exact none (bdz (by omega)) (e1z (by omega))
  · have e1 := e
    rw [e]
    refine br_f (by decide) (br_f (by decide) (br_f (by decide) (br_f (by decide) (br_f (by decide) (br_f (by decide) (br_f (by decide) (br_f (by decide) (br_f (by decide) (br_f (by decide) (br_t (by decide) ?_))))))))))
    have ar2 : gp_ar (kd t) = 2 := by rw [e1]; decide
    refine pk_eq j 0 (fun z => ?_) (fun z => ?_)
    · subst z
      refine gx_nk (by omega) (fun k5 => br_f (by decide) ?_) (fun k5 => br_t rfl (hF rfl (by rw [show gt_e1 kd a_nodeArg n t = 4 from gt_if_t (Or.inr (Or.inr ⟨e1, fun y => k5 (kx.trans y)⟩))]; decide)))
      have n1 : ¬ (a_typeKind x = 1) := by rw [k5]; decide
      have L := gd_xL (by omega) (I.1.2.1 x x1) n1
      have tl := gd_l x3 n1
      have L2 := L.2
      dsimp only at L2
      have e0 : gt_e1 kd a_nodeArg n t = 0 := gt_if_f (by
        rintro (⟨y, _⟩ | ⟨y, _⟩ | ⟨_, y⟩)
        · omega
        · omega
        · exact y (kx.symm.trans k5))
      try dsimp only
      rw [ex, es, L2]
      refine ⟨vx, vs, nm_e (hOK e0 _ (fun w hw => pk_un (by omega)) (fun hj1 w hw => ?_))⟩
      rw [gp_sn_ch ok ht hj1, e1, show gp_bd 17 (0 + 1) = 1 by decide] at hw
      rcases Nat.lt_or_ge w (gp_sn kd t) with z | z
      · rw [gt_G_up ok ht hj1 z, pk_un (by omega)]
        exact hVI w z
      · have ew : w = gp_sn kd t := by omega
        subst ew
        rw [gt_G_new ok ht hj1 (Nat.le_refl _), pk_us, e1]
        exact ⟨_, by omega, rfl, tl⟩
    · exact last (by omega) (he (by omega)) a_variableType (fun _ _ => rfl)
end
end
section
/-- the first error below a node, its own last tests left out -/
noncomputable def gt_pe (kd : Nat → Nat) (ag : Nat → Int32) (n d : Nat) : Nat × Nat :=
  if kd d ≤ 5 then (0, 0)
  else if 0 < gp_ar (kd d) ∧ ¬ (gt_er kd ag n (gp_ch kd n d 0)).1 = 0 then gt_er kd ag n (gp_ch kd n d 0)
  else if ¬ gt_e1 kd ag n d = 0 then (gt_e1 kd ag n d, d)
  else if 1 < gp_ar (kd d) ∧ ¬ (gt_er kd ag n (gp_ch kd n d 1)).1 = 0 then gt_er kd ag n (gp_ch kd n d 1)
  else if 2 < gp_ar (kd d) ∧ ¬ (gt_er kd ag n (gp_ch kd n d 2)).1 = 0 then gt_er kd ag n (gp_ch kd n d 2)
  else (0, 0)
section
variable {kd : Nat → Nat} {ag : Nat → Int32} {n d : Nat}
theorem gt_er_pe (ok : gp_ok kd n) (hd : d < n) (h : ¬ (gt_pe kd ag n d).1 = 0) : gt_er kd ag n d = gt_pe kd ag n d := by
  rw [gt_er_e ok hd]
  unfold gt_H
  unfold gt_pe at h ⊢
  by_cases h5 : kd d ≤ 5
  · rw [if_pos h5] at h; exact absurd rfl h
  rw [if_neg h5] at h ⊢
  rw [if_neg h5]
  by_cases c0 : 0 < gp_ar (kd d) ∧ ¬ (gt_er kd ag n (gp_ch kd n d 0)).1 = 0
  · rw [if_pos c0, if_pos c0]
  rw [if_neg c0] at h ⊢
  rw [if_neg c0]
  by_cases c1 : ¬ gt_e1 kd ag n d = 0
  · rw [if_pos c1, if_pos c1]
  rw [if_neg c1] at h ⊢
  rw [if_neg c1]
  by_cases c2 : 1 < gp_ar (kd d) ∧ ¬ (gt_er kd ag n (gp_ch kd n d 1)).1 = 0
  · rw [if_pos c2, if_pos c2]
  rw [if_neg c2] at h ⊢
  rw [if_neg c2]
  by_cases c3 : 2 < gp_ar (kd d) ∧ ¬ (gt_er kd ag n (gp_ch kd n d 2)).1 = 0
  · rw [if_pos c3, if_pos c3]
  rw [if_neg c3] at h
  exact absurd rfl h
theorem gt_er_e2 (ok : gp_ok kd n) (hd : d < n) (h : (gt_pe kd ag n d).1 = 0) : (gt_er kd ag n d).1 = gt_e2 kd ag n d ∧ (¬ gt_e2 kd ag n d = 0 → gt_er kd ag n d = (gt_e2 kd ag n d, d)) := by
  by_cases h5 : kd d ≤ 5
  · rw [gt_er_ty ok hd h5]
    have e := gt_e2_z (kd := kd) (ag := ag) (n := n) (t := d) (by omega)
    rw [e]
    exact ⟨rfl, fun z => absurd rfl z⟩
  rw [gt_er_e ok hd]
  unfold gt_H
  unfold gt_pe at h
  rw [if_neg h5] at h ⊢
  by_cases c0 : 0 < gp_ar (kd d) ∧ ¬ (gt_er kd ag n (gp_ch kd n d 0)).1 = 0
  · rw [if_pos c0] at h; exact absurd h c0.2
  rw [if_neg c0] at h ⊢
  by_cases c1 : ¬ gt_e1 kd ag n d = 0
  · rw [if_pos c1] at h; exact absurd h c1
  rw [if_neg c1] at h ⊢
  by_cases c2 : 1 < gp_ar (kd d) ∧ ¬ (gt_er kd ag n (gp_ch kd n d 1)).1 = 0
  · rw [if_pos c2] at h; exact absurd h c2.2
  rw [if_neg c2] at h ⊢
  by_cases c3 : 2 < gp_ar (kd d) ∧ ¬ (gt_er kd ag n (gp_ch kd n d 2)).1 = 0
  · rw [if_pos c3] at h; exact absurd h c3.2
  rw [if_neg c3]
  exact ⟨rfl, fun _ => rfl⟩
theorem gt_pe_c {j : Nat} (ok : gp_ok kd n) (so : gp_so kd n) (hd : d < n) (hj : j < gp_ar (kd d)) (hp : ∀ i, i < j → (gt_er kd ag n (gp_ch kd n d i)).1 = 0) (he : 0 < j → gt_e1 kd ag n d = 0) (h : ¬ (gt_er kd ag n (gp_ch kd n d j)).1 = 0) : gt_pe kd ag n d = gt_er kd ag n (gp_ch kd n d j) := by
  have h3 := gp_ar_le (kd d)
  have h5 : ¬ kd d ≤ 5 := by
    intro z
    rw [gt_er_ty ok (gp_ch_lt ok hd hj).1 (gp_ty_ch ok so hd z hj)] at h
    exact h rfl
  unfold gt_pe
  rw [if_neg h5]
  have : j = 0 ∨ j = 1 ∨ j = 2 := by omega
  rcases this with e | e | e
  · subst e
    rw [if_pos ⟨hj, h⟩]
  · subst e
    rw [if_neg (fun z => z.2 (hp 0 (by omega))), if_neg (fun z => z (he (by omega))), if_pos ⟨hj, h⟩]
  · subst e
    rw [if_neg (fun z => z.2 (hp 0 (by omega))), if_neg (fun z => z (he (by omega))), if_neg (fun z => z.2 (hp 1 (by omega))), if_pos ⟨hj, h⟩]
theorem gt_pe_1 (ok : gp_ok kd n) (hd : d < n) (h0 : 0 < gp_ar (kd d)) (hp : (gt_er kd ag n (gp_ch kd n d 0)).1 = 0) (he : ¬ gt_e1 kd ag n d = 0) : gt_pe kd ag n d = (gt_e1 kd ag n d, d) := by
  have h5 : ¬ kd d ≤ 5 := fun z => he (gt_if_f (by omega))
  unfold gt_pe
  rw [if_neg h5, if_neg (fun z => z.2 hp), if_pos he]
theorem gt_pe_0 (hp : ∀ i, i < gp_ar (kd d) → (gt_er kd ag n (gp_ch kd n d i)).1 = 0) (he : gt_e1 kd ag n d = 0) : (gt_pe kd ag n d).1 = 0 := by
  unfold gt_pe
  by_cases h5 : kd d ≤ 5
  · rw [if_pos h5]
  rw [if_neg h5, if_neg (fun z => z.2 (hp 0 z.1)), if_neg (fun z => z he), if_neg (fun z => z.2 (hp 1 z.1)), if_neg (fun z => z.2 (hp 2 z.1))]
theorem gt_e1_4 : gt_e1 kd ag n d = 0 ∨ gt_e1 kd ag n d = 4 := by
  unfold gt_e1
  rcases Classical.em ((kd d = 12 ∧ ¬ gt_k (gt_t kd ag n (gp_ch kd n d 0)) = 2) ∨ (kd d = 15 ∧ ¬ gt_k (gt_t kd ag n (gp_ch kd n d 0)) = 3) ∨ (kd d = 17 ∧ ¬ gt_k (gt_t kd ag n (gp_ch kd n d 0)) = 5)) with z | z
  · rw [gt_if_t z]; exact Or.inr rfl
  · rw [gt_if_f z]; exact Or.inl rfl
theorem gt_if_or (P : Prop) (a b : Nat) : gt_if P a b = a ∨ gt_if P a b = b := by
  rcases Classical.em P with z | z
  · exact Or.inl (gt_if_t z)
  · exact Or.inr (gt_if_f z)
theorem gt_e2_45 : gt_e2 kd ag n d = 0 ∨ gt_e2 kd ag n d = 4 ∨ gt_e2 kd ag n d = 5 := by
  unfold gt_e2
  refine (gt_if_or _ _ _).elim (fun z => Or.inr (Or.inl z)) (fun z => ?_)
  rw [z]
  exact (gt_if_or _ _ _).elim (fun y => Or.inr (Or.inr y)) (fun y => Or.inl y)
theorem gt_er_45 (ok : gp_ok kd n) : ∀ m d, n - d < m → d < n → (gt_er kd ag n d).1 = 0 ∨ (gt_er kd ag n d).1 = 4 ∨ (gt_er kd ag n d).1 = 5
  | 0, _, z, _ => by omega
  | m + 1, d, hm, hd => by
    have IH : ∀ j, j < gp_ar (kd d) → (gt_er kd ag n (gp_ch kd n d j)).1 = 0 ∨ (gt_er kd ag n (gp_ch kd n d j)).1 = 4 ∨ (gt_er kd ag n (gp_ch kd n d j)).1 = 5 := by
      intro j hj
      have a := (gp_ch_lt ok hd hj).1
      have b := gp_ch_ge ok hd (Nat.le_of_lt hj)
      exact gt_er_45 ok m _ (by omega) a
    rw [gt_er_e ok hd]
    unfold gt_H
    by_cases h5 : kd d ≤ 5
    · rw [if_pos h5]; exact Or.inl rfl
    rw [if_neg h5]
    by_cases c0 : 0 < gp_ar (kd d) ∧ ¬ (gt_er kd ag n (gp_ch kd n d 0)).1 = 0
    · rw [if_pos c0]; exact IH 0 c0.1
    rw [if_neg c0]
    by_cases c1 : ¬ gt_e1 kd ag n d = 0
    · rw [if_pos c1]
      rcases gt_e1_4 (kd := kd) (ag := ag) (n := n) (d := d) with y | y
      · exact Or.inl y
      · exact Or.inr (Or.inl y)
    rw [if_neg c1]
    by_cases c2 : 1 < gp_ar (kd d) ∧ ¬ (gt_er kd ag n (gp_ch kd n d 1)).1 = 0
    · rw [if_pos c2]; exact IH 1 c2.1
    rw [if_neg c2]
    by_cases c3 : 2 < gp_ar (kd d) ∧ ¬ (gt_er kd ag n (gp_ch kd n d 2)).1 = 0
    · rw [if_pos c3]; exact IH 2 c3.1
    rw [if_neg c3]
    exact gt_e2_45
end
theorem gx_TI_iff {kd : Nat → Nat} {ag : Nat → Int32} {n tc : Nat} {P Q : Nat → Prop} {nt gb us : Nat → Int32} {T : gd_Tb} (h : ∀ d, Q d → P d) (I : gx_TI kd ag n P tc nt gb us T) : gx_TI kd ag n Q tc nt gb us T := ⟨I.1, fun d hd => I.2 d (h d hd)⟩
section
variable {f_derefLimit f_recordLimit f_frameLimit f_nodeCount f_currentStatus f_faultNode f_typeCount f_currentNode f_currentEnv f_returning f_returnedNumber f_frameCount f_lastOutcome f_lastValue f_derefsMade f_recordsMade : Int32} {a_nodeKind a_nodeArg a_expectedPlaces a_nodeAtPlace a_placeOfNode a_variablesSeen a_nodeType a_gradeOfBinder a_variableType a_usage a_typeKind a_typeGrade a_typeLeft a_typeRight a_frameMark a_frameWord a_frameEnv a_thunkNode a_thunkEnv a_restOfEnv a_binderOfRecord a_gradeOfRecord a_countOfRecord : Nat → Int32}
theorem gx_down {post : SX → Prop} {kd : Nat → Nat} {n : Nat} (A : gt_P kd a_nodeArg n) (S : gx_S kd n a_nodeKind a_variablesSeen a_nodeAtPlace) (hPl : ∀ c, c < n → a_placeOfNode c = nI (gp_pl kd c)) :
    ∀ m t, n - t < m → t < n → ∀ (P : Nat → Prop) (tc : Nat) (nt gb vt us tk tg tl tr : Nat → Int32) (δ : Nat), gx_TI kd a_nodeArg n P tc nt gb us (tk, tg, tl, tr) →
      (∀ v, v < gp_sn kd t → ∃ x, x < tc ∧ vt v = nI x ∧ gd_D (tk, tg, tl, tr) x = gt_G kd a_nodeArg n t v) → (∀ d, P d → d < t) → tc + δ ≤ t →
      (¬ (gt_pe kd a_nodeArg n t).1 = 0 → ∀ tc nt gb vt us tk tg tl tr, post (f_derefLimit, f_recordLimit, f_frameLimit, nI n, nI (gt_pe kd a_nodeArg n t).1, nI (gt_pe kd a_nodeArg n t).2, tc, f_currentNode, f_currentEnv, f_returning, f_returnedNumber, f_frameCount, f_lastOutcome, f_lastValue, f_derefsMade, f_recordsMade, a_nodeKind, a_nodeArg, a_expectedPlaces, a_nodeAtPlace, a_placeOfNode, a_variablesSeen, nt, gb, vt, us, tk, tg, tl, tr, a_frameMark, a_frameWord, a_frameEnv, a_thunkNode, a_thunkEnv, a_restOfEnv, a_binderOfRecord, a_gradeOfRecord, a_countOfRecord)) →
      ((gt_pe kd a_nodeArg n t).1 = 0 → ∀ (tc' : Nat) (nt' gb' vt' us' tk' tg' tl' tr' : Nat → Int32), gx_TI kd a_nodeArg n (fun d => P d ∨ (t < d ∧ d < gp_en kd n t)) tc' nt' gb' us' (tk', tg', tl', tr') →
        (∀ v, v < gp_sn kd t → vt' v = vt v) → tc ≤ tc' → gd_ext (tk, tg, tl, tr) (tk', tg', tl', tr') tc → tc' + δ + 1 ≤ gp_en kd n t →
        ∀ f g lv, n < f + gp_en kd n t → lv + t + 1 ≤ gp_en kd n t → 34 ≤ g + lv → wX_checkTypesAndGrades_38 post (wX_checkTypesAndGrades_7 post f) (nI (gp_en kd n t - 1)) g (nI t) 1 (nI lv) f_derefLimit f_recordLimit f_frameLimit (nI n) 1 f_faultNode (nI tc') f_currentNode f_currentEnv f_returning f_returnedNumber f_frameCount f_lastOutcome f_lastValue f_derefsMade f_recordsMade a_nodeKind a_nodeArg a_expectedPlaces a_nodeAtPlace a_placeOfNode a_variablesSeen nt' gb' vt' us' tk' tg' tl' tr' a_frameMark a_frameWord a_frameEnv a_thunkNode a_thunkEnv a_restOfEnv a_binderOfRecord a_gradeOfRecord a_countOfRecord) →
      ∀ f, n < f + t → wX_checkTypesAndGrades_7 post f (nI t) f_derefLimit f_recordLimit f_frameLimit (nI n) 1 f_faultNode (nI tc) f_currentNode f_currentEnv f_returning f_returnedNumber f_frameCount f_lastOutcome f_lastValue f_derefsMade f_recordsMade a_nodeKind a_nodeArg a_expectedPlaces a_nodeAtPlace a_placeOfNode a_variablesSeen nt gb vt us tk tg tl tr a_frameMark a_frameWord a_frameEnv a_thunkNode a_thunkEnv a_restOfEnv a_binderOfRecord a_gradeOfRecord a_countOfRecord
  | 0, _, z, _ => by omega
  | m + 1, t, hm, ht => by
    intro P tc nt gb vt us tk tg tl tr δ I VI hP hδ hF hB f hf
    have hA := A
    obtain ⟨ok, so, kr, -⟩ := A
    have hn := ok.2.1
    have t32 : t < 32 := by omega
    have v := vp_in_nI t32 (by decide)
    have et : (nI t).toNatClampNeg = t := nI_clamp (by omega)
    have a3 := gp_ar_le (kd t)
    cases f with
    | zero => omega
    | succ f =>
    -- the children from slot j on
    have kids : ∀ r j, j + r = gp_ar (kd t) → 0 < r → (∀ i, i < j → (gt_er kd a_nodeArg n (gp_ch kd n t i)).1 = 0) → (0 < j → gt_e1 kd a_nodeArg n t = 0) →
        ∀ (tc1 : Nat) (nt1 gb1 vt1 us1 tk1 tg1 tl1 tr1 : Nat → Int32), gx_TI kd a_nodeArg n (fun d => P d ∨ (t < d ∧ d < gp_ch kd n t j)) tc1 nt1 gb1 us1 (tk1, tg1, tl1, tr1) →
        (∀ v, v < gp_sn kd t → vt1 v = vt v) → tc ≤ tc1 → gd_ext (tk, tg, tl, tr) (tk1, tg1, tl1, tr1) tc → tc1 + (δ + 1) ≤ gp_ch kd n t j →
        (∀ v, v < gp_sn kd (gp_ch kd n t j) → ∃ x, x < tc1 ∧ vt1 v = nI x ∧ gd_D (tk1, tg1, tl1, tr1) x = gt_G kd a_nodeArg n (gp_ch kd n t j) v) →
        ∀ f, n < f + gp_ch kd n t j → wX_checkTypesAndGrades_7 post f (nI (gp_ch kd n t j)) f_derefLimit f_recordLimit f_frameLimit (nI n) 1 f_faultNode (nI tc1) f_currentNode f_currentEnv f_returning f_returnedNumber f_frameCount f_lastOutcome f_lastValue f_derefsMade f_recordsMade a_nodeKind a_nodeArg a_expectedPlaces a_nodeAtPlace a_placeOfNode a_variablesSeen nt1 gb1 vt1 us1 tk1 tg1 tl1 tr1 a_frameMark a_frameWord a_frameEnv a_thunkNode a_thunkEnv a_restOfEnv a_binderOfRecord a_gradeOfRecord a_countOfRecord := by
      intro r
      induction r with
      | zero => intro j _ z; omega
      | succ r ih =>
        intro j hjr _ hp he tc1 nt1 gb1 vt1 us1 tk1 tg1 tl1 tr1 I1 hv1 htc1 hx1 hd1 VI1 f1 hf1
        have hj : j < gp_ar (kd t) := by omega
        obtain ⟨cn, cpl⟩ := gp_ch_lt ok ht hj
        have cge := gp_ch_ge ok ht (Nat.le_of_lt hj)
        obtain ⟨ce1, ce2⟩ := gp_en_lt ok cn
        have c32 : gp_ch kd n t j < 32 := by omega
        have es : gp_ch kd n t (j + 1) = gp_en kd n (gp_ch kd n t j) := rfl
        refine gx_down hA S hPl m (gp_ch kd n t j) (by omega) cn (fun d => P d ∨ (t < d ∧ d < gp_ch kd n t j)) tc1 nt1 gb1 vt1 us1 tk1 tg1 tl1 tr1 (δ + 1) I1 VI1
          (fun d hd => by rcases hd with hd | hd; have := hP d hd; omega; exact hd.2) hd1 (fun hpe => ?_) (fun hpe => ?_) f1 hf1
        · have e := gt_er_pe ok cn hpe
          have e2 := gt_pe_c ok so ht hj hp he (by rw [e]; exact hpe)
          rw [e] at e2
          rw [e2] at hF
          exact hF hpe
        · intro tc2 nt2 gb2 vt2 us2 tk2 tg2 tl2 tr2 I2 hv2 htc2 hx2 hd2 f2 g2 lv2 hf2 hlv2 hg2
          obtain ⟨er1, er2⟩ := gt_er_e2 ok cn hpe
          cases g2 with
          | zero => omega
          | succ g2 =>
          have x12 : gd_ext (tk, tg, tl, tr) (tk2, tg2, tl2, tr2) tc := gd_ext_t htc1 hx1 hx2
          refine br_f (nI_ge (b := 32) (by omega) (by decide)) (br_f (by decide) ?_)
          refine gx_complete hA S I2 cn (fun i hi => Or.inr ?_) (fun z => by rcases z with (z | z) | z; have := hP _ z; omega; omega; omega) (by omega) (fun w hw => ?_) (fun e0 => ?_) (fun e0 => ?_)
          · have b1 := gp_ch_ge ok cn (Nat.le_of_lt hi)
            have b2 := gt_mu_ch ok cn hi
            have b3 := (gp_ch_lt ok cn hi).1
            unfold gt_mu at b2
            have b4 := (gp_en_lt ok b3).1
            omega
          · obtain ⟨x, a1, a2, a4⟩ := VI1 w hw
            exact ⟨x, by omega, by rw [hv2 w hw]; exact a2, by rw [gd_ext_D I1.1 hx2 a1]; exact a4⟩
          · intro tc3 nt3 gb3 us3 tk3 tg3 tl3 tr3 I3 h31 h32 hx3
            try dsimp only
            rw [nI_clamp (show gp_ch kd n t j < 2 ^ 31 by omega), hPl _ cn, cpl]
            have e1 : nI (3 * t + j) / 3 = nI t := by
              rw [show nI (3 * t + j) / 3 = nI ((3 * t + j) / 3) from pk_div (by omega) (by decide) (by decide), show (3 * t + j) / 3 = t by omega]
            have e2 : nI (3 * t + j) - nI (3 * t + j) / 3 * 3 = nI j := by
              rw [show nI (3 * t + j) - nI (3 * t + j) / 3 * 3 = nI ((3 * t + j) % 3) from pk_rem (by omega) (by decide) (by decide), show (3 * t + j) % 3 = j by omega]
            refine ⟨vp_in_nI c32 (by decide), nm_e (br_t rfl (pk_eq (3 * t + j) 96 (fun z => by omega) (fun _ => ⟨by decide, nm_r e1 ⟨by decide, nm_r e2 ?_⟩⟩)))⟩
            have erj : (gt_er kd a_nodeArg n (gp_ch kd n t j)).1 = 0 := er1.trans e0
            have I3' : gx_TI kd a_nodeArg n (fun d => P d ∨ (t < d ∧ d < gp_ch kd n t (j + 1))) tc3 nt3 gb3 us3 (tk3, tg3, tl3, tr3) := gx_TI_iff (fun d hd => by
              rcases hd with hd | hd
              · exact Or.inl (Or.inl (Or.inl hd))
              · rw [es] at hd
                rcases Nat.lt_trichotomy d (gp_ch kd n t j) with y | y | y
                · exact Or.inl (Or.inl (Or.inr ⟨hd.1, y⟩))
                · exact Or.inr y
                · exact Or.inl (Or.inr ⟨y, hd.2⟩)) I3
            have VI3 : ∀ w, w < gp_sn kd t → ∃ x, x < tc3 ∧ vt2 w = nI x ∧ gd_D (tk3, tg3, tl3, tr3) x = gt_G kd a_nodeArg n t w := by
              intro w hw
              obtain ⟨x, a1, a2, a4⟩ := VI w hw
              have cs := gp_sn_ch ok ht hj
              refine ⟨x, by omega, by rw [hv2 w (by omega), hv1 w hw]; exact a2, ?_⟩
              rw [gd_ext_D I2.1 hx3 (by omega), gd_ext_D I1.1 hx2 (by omega), gd_ext_D I.1 hx1 a1]
              exact a4
            have c0 : (fun d => P d ∨ (t < d ∧ d < gp_ch kd n t (j + 1))) (gp_ch kd n t 0) := Or.inr ⟨by show t < t + 1; omega, by show t + 1 < _; omega⟩
            refine gx_prep hA S I3' ht hj c0 (by omega) VI3 he (fun h0 vt4 hv4 VI4 => ?_) (fun hj0 hne => ?_)
            · dsimp only
              rw [et, S.1 t ht]
              refine br_t rfl ⟨v, gx_cc (kr t ht).1 (kr t ht).2 ?_⟩
              rw [show nI (gp_ar (kd t)) - 1 = nI (gp_ar (kd t) - 1) from pk_sub (b := 1) (by omega)]
              have hp' : ∀ i, i < j + 1 → (gt_er kd a_nodeArg n (gp_ch kd n t i)).1 = 0 := fun i hi => by
                rcases Nat.lt_or_ge i j with y | y
                · exact hp i y
                · have : i = j := by omega
                  subst this
                  exact erj
              have hv5 : ∀ w, w < gp_sn kd t → vt4 w = vt w := fun w hw => by
                have cs := gp_sn_ch ok ht hj
                rw [hv4 w hw, hv2 w (by omega), hv1 w hw]
              have x13 : gd_ext (tk, tg, tl, tr) (tk3, tg3, tl3, tr3) tc := gd_ext_t (by omega) x12 hx3
              refine pk_eq j (gp_ar (kd t) - 1) (fun z => nm_r (nI_1 lv2) ?_) (fun z => nm_r (nI_1 lv2) ?_)
              · have hj1 : j + 1 = gp_ar (kd t) := by omega
                have een : gp_en kd n t = gp_en kd n (gp_ch kd n t j) := by rw [gp_en_ch ok ht, ← hj1]; rfl
                rw [← een]
                refine hB (gt_pe_0 (fun i hi => hp' i (by omega)) h0) tc3 nt3 gb3 vt4 us3 tk3 tg3 tl3 tr3 ?_ hv5 (by omega) x13 (by omega) f2 g2 (lv2 + 1) (by omega) (by omega) (by omega)
                rw [hj1, ← gp_en_ch ok ht] at I3'
                exact I3'
              · cases g2 with
                | zero => omega
                | succ g2 =>
                have go := ih (j + 1) (by omega) (by omega) hp' (fun _ => h0) tc3 nt3 gb3 vt4 us3 tk3 tg3 tl3 tr3 I3' hv5 (by omega) x13 (by rw [es]; omega) (VI4 (by omega)) f2 (by rw [es]; omega)
                have el : nI (gp_en kd n (gp_ch kd n t j) - 1) + 1 = nI (gp_ch kd n t (j + 1)) := by rw [nI_1, es, show gp_en kd n (gp_ch kd n t j) - 1 + 1 = gp_en kd n (gp_ch kd n t j) by omega]
                exact br_c (fun _ => nm_r el go) (fun _ => br_t rfl (nm_r el go))
            · have e := gt_pe_1 ok ht (by omega) (by subst hj0; exact erj) hne
              rw [e] at hF
              have h4 : gt_e1 kd a_nodeArg n t = 4 := by rcases gt_e1_4 (kd := kd) (ag := a_nodeArg) (n := n) (d := t) with y | y; exact absurd y hne; exact y
              rw [h4] at hF
              exact br_f (show ¬ (4 : Int32) = 1 by decide) (hF (show ¬ (4 : Nat) = 0 by decide) _ _ _ _ _ _ _ _ _)
          · intro tc3 nt3 gb3 us3 tk3 tg3 tl3 tr3
            try dsimp only
            have e := er2 e0
            have e2 := gt_pe_c ok so ht hj hp he (by rw [e]; exact e0)
            rw [e2, e] at hF
            have ne1 : ¬ nI (gt_e2 kd a_nodeArg n (gp_ch kd n t j)) = 1 := by
              rcases gt_e2_45 (kd := kd) (ag := a_nodeArg) (n := n) (d := gp_ch kd n t j) with y | y | y
              · exact absurd y e0
              · rw [y]; decide
              · rw [y]; decide
            rw [nI_clamp (show gp_ch kd n t j < 2 ^ 31 by omega)]
            exact ⟨vp_in_nI c32 (by decide), nm_e (br_f ne1 (hF e0 _ _ _ _ _ _ _ _ _))⟩
    refine br_f (nI_ge ht (by omega)) ⟨v, ?_⟩
    rw [et, S.1 t ht]
    refine gx_cc (kr t ht).1 (kr t ht).2 (pk_eq (gp_ar (kd t)) 0 (fun z => ⟨34, ?_⟩) (fun z => ⟨1, ?_⟩))
    · have een : gp_en kd n t = t + 1 := by rw [gp_en_ch ok ht, z]; rfl
      have e1z : gt_e1 kd a_nodeArg n t = 0 := gt_if_f (by
        rintro (⟨y, _⟩ | ⟨y, _⟩ | ⟨y, _⟩)
        · rw [y] at z; exact absurd z (by decide)
        · rw [y] at z; exact absurd z (by decide)
        · rw [y] at z; exact absurd z (by decide))
      have := hB (gt_pe_0 (fun i hi => by omega) e1z) tc nt gb vt us tk tg tl tr (gx_TI_iff (fun d hd => by
        rcases hd with hd | hd
        · exact hd
        · omega) I) (fun _ _ => rfl) (Nat.le_refl _) (gd_ext_r _ _) (by omega) f 34 0 (by omega) (by omega) (by omega)
      rw [een, Nat.add_sub_cancel] at this
      exact this
    · refine br_f (by decide) (br_t rfl (nm_r (nI_1 t) ?_))
      refine kids (gp_ar (kd t)) 0 (by omega) (by omega) (fun i hi => by omega) (fun y => by omega) tc nt gb vt us tk tg tl tr (gx_TI_iff (fun d hd => by
        rcases hd with hd | hd
        · exact hd
        · have : gp_ch kd n t 0 = t + 1 := rfl
          omega) I) (fun _ _ => rfl) (Nat.le_refl _) (gd_ext_r _ _) (by show tc + (δ + 1) ≤ t + 1; omega) (fun w hw => ?_) f (by show n < f + (t + 1); omega)
      have cs := gp_sn_ch ok ht (j := 0) (by omega)
      rw [gp_bd_0] at cs
      rw [gt_G_up ok ht (by omega) (by omega)]
      exact VI w (by omega)
end
end
section
/-! what check answers, purely -/
def gc_syn (kd : Nat → Nat) (n m : Nat) : Prop := ((m < n ∧ gx_bad kd m) ∨ (m = n ∧ gp_S kd n ≠ [])) ∧ ∀ i, i < m → ¬ gx_bad kd i
def gc_sok (kd : Nat → Nat) (n : Nat) : Prop := (∀ i, i < n → ¬ gx_bad kd i) ∧ gp_S kd n = []
def gc_sc (kd : Nat → Nat) (ag : Nat → Int32) (n m : Nat) : Prop := gc_sok kd n ∧ m < n ∧ gx_sc kd ag m ∧ ∀ i, i < m → ¬ gx_sc kd ag i
def gc_R (kd : Nat → Nat) (ag : Nat → Int32) (n σ d : Nat) : Prop := (σ = 2 ∧ gc_syn kd n d) ∨ (σ = 3 ∧ gc_sc kd ag n d) ∨
  (gc_sok kd n ∧ (∀ i, i < n → ¬ gx_sc kd ag i) ∧ gt_P kd ag n ∧ ((¬ (gt_er kd ag n 0).1 = 0 ∧ (σ, d) = gt_er kd ag n 0) ∨ (σ = 1 ∧ d = 0 ∧ (gt_er kd ag n 0).1 = 0)))
theorem gc_syn_ok {kd : Nat → Nat} {n m : Nat} (h : gc_syn kd n m) (g : gc_sok kd n) : False := by
  rcases h.1 with ⟨a, b⟩ | ⟨a, b⟩
  · exact g.1 m a b
  · exact b g.2
theorem gc_syn_u {kd : Nat → Nat} {n m m' : Nat} (h : gc_syn kd n m) (g : gc_syn kd n m') : m = m' := by
  have key : ∀ {m m' : Nat}, gc_syn kd n m → gc_syn kd n m' → ¬ m < m' := by
    intro m m' h g hl
    rcases h.1 with ⟨a, b⟩ | ⟨a, b⟩
    · exact g.2 m hl b
    · rcases g.1 with ⟨c, d⟩ | ⟨c, d⟩ <;> omega
  have a := key h g
  have b := key g h
  omega
theorem gc_R_u {kd : Nat → Nat} {ag : Nat → Int32} {n σ d σ' d' : Nat} (h : gc_R kd ag n σ d) (g : gc_R kd ag n σ' d') : σ = σ' ∧ d = d' := by
  rcases h with ⟨h1, h2⟩ | ⟨h1, h2⟩ | ⟨h1, h2, h3, h4⟩
  · rcases g with ⟨g1, g2⟩ | ⟨g1, g2⟩ | ⟨g1, g2, g3, g4⟩
    · exact ⟨by omega, gc_syn_u h2 g2⟩
    · exact (gc_syn_ok h2 g2.1).elim
    · exact (gc_syn_ok h2 g1).elim
  · rcases g with ⟨g1, g2⟩ | ⟨g1, g2⟩ | ⟨g1, g2, g3, g4⟩
    · exact (gc_syn_ok g2 h2.1).elim
    · refine ⟨by omega, ?_⟩
      rcases Nat.lt_trichotomy d d' with z | z | z
      · exact absurd h2.2.2.1 (g2.2.2.2 d z)
      · exact z
      · exact absurd g2.2.2.1 (h2.2.2.2 d' z)
    · exact absurd h2.2.2.1 (g2 d h2.2.1)
  · rcases g with ⟨g1, g2⟩ | ⟨g1, g2⟩ | ⟨g1, g2, g3, g4⟩
    · exact (gc_syn_ok g2 h1).elim
    · exact absurd g2.2.2.1 (h2 d' g2.2.1)
    · rcases h4 with ⟨a, b⟩ | ⟨a, b, c⟩
      · rcases g4 with ⟨a', b'⟩ | ⟨a', b', c'⟩
        · have := b.trans b'.symm
          exact ⟨congrArg Prod.fst this, congrArg Prod.snd this⟩
        · exact absurd c' a
      · rcases g4 with ⟨a', b'⟩ | ⟨a', b', c'⟩
        · exact absurd c a'
        · exact ⟨by omega, by omega⟩
/-- what addNode keeps of kinds and arguments -/
def gc_prog (kd : Nat → Nat) (ag : Nat → Int32) (n : Nat) : Prop := n ≤ 32 ∧ (∀ i, i < n → 1 ≤ kd i ∧ kd i ≤ 17) ∧ (∀ i, i < n → kd i = 6 → ∃ j, j ≤ 31 ∧ ag i = nI j) ∧
  (∀ d, d < n → (kd d = 4 ∨ kd d = 5 ∨ kd d = 16) → ∃ g, g ≤ 2 ∧ ag d = nI g) ∧ (∀ d, d < n → (kd d = 9 ∨ kd d = 12 ∨ kd d = 15) → ∃ g, g ≤ 3 ∧ ag d = nI g) ∧ (∀ d, d < n → kd d ≤ 3 → ag d = 0)
theorem gc_ok {kd : Nat → Nat} {n : Nat} (hn : n ≤ 32) (h : gc_sok kd n) : gp_ok kd n := by
  refine ⟨?_, hn, fun i hi z => h.1 i hi (Or.inl z), h.2⟩
  rcases Nat.eq_zero_or_pos n with z | z
  · have := h.2
    rw [z] at this
    exact absurd this (by simp [gp_S])
  · exact z
theorem gc_P {kd : Nat → Nat} {ag : Nat → Int32} {n : Nat} (p : gc_prog kd ag n) (h : gc_sok kd n) (hs : ∀ i, i < n → ¬ gx_sc kd ag i) : gt_P kd ag n := by
  obtain ⟨p1, p2, p3, p4, p5, p6⟩ := p
  have ok := gc_ok p1 h
  have so : ∀ i, i < n → gx_so kd i (gp_pl kd i) := fun i hi => Classical.byContradiction fun z => h.1 i hi (Or.inr z)
  refine ⟨ok, ⟨?_, fun c c0 cn => ?_⟩, p2, fun d hd hk => ?_, p4, p5, p6⟩
  · have := so 0 ok.1
    unfold gx_so at this
    rw [gp_pl_0, if_pos rfl] at this
    exact this
  · have := so c cn
    have q := gp_pl_in ok cn c0
    unfold gx_so at this
    rw [if_neg (by omega)] at this
    exact this
  · obtain ⟨j, j1, j2⟩ := p3 d hd hk
    have sl := gp_sn_lt ok hd
    refine ⟨j, ?_, j2⟩
    rcases Nat.lt_or_ge j (gp_sn kd d) with z | z
    · exact z
    · refine absurd ⟨hk, ?_⟩ (hs d hd)
      rw [j2]
      exact nI_nlt z (by omega)
section
variable {f_derefLimit f_recordLimit f_frameLimit f_nodeCount f_currentStatus f_faultNode f_typeCount f_currentNode f_currentEnv f_returning f_returnedNumber f_frameCount f_lastOutcome f_lastValue f_derefsMade f_recordsMade : Int32} {a_nodeKind a_nodeArg a_expectedPlaces a_nodeAtPlace a_placeOfNode a_variablesSeen a_nodeType a_gradeOfBinder a_variableType a_usage a_typeKind a_typeGrade a_typeLeft a_typeRight a_frameMark a_frameWord a_frameEnv a_thunkNode a_thunkEnv a_restOfEnv a_binderOfRecord a_gradeOfRecord a_countOfRecord : Nat → Int32}
theorem gx_types {post : SX → Prop} {kd : Nat → Nat} {n : Nat} (A : gt_P kd a_nodeArg n) (S : gx_S kd n a_nodeKind a_variablesSeen a_nodeAtPlace) (hPl : ∀ c, c < n → a_placeOfNode c = nI (gp_pl kd c))
    (hF : ¬ (gt_er kd a_nodeArg n 0).1 = 0 → ∀ tc nt gb vt us tk tg tl tr, post (f_derefLimit, f_recordLimit, f_frameLimit, nI n, nI (gt_er kd a_nodeArg n 0).1, nI (gt_er kd a_nodeArg n 0).2, tc, f_currentNode, f_currentEnv, f_returning, f_returnedNumber, f_frameCount, f_lastOutcome, f_lastValue, f_derefsMade, f_recordsMade, a_nodeKind, a_nodeArg, a_expectedPlaces, a_nodeAtPlace, a_placeOfNode, a_variablesSeen, nt, gb, vt, us, tk, tg, tl, tr, a_frameMark, a_frameWord, a_frameEnv, a_thunkNode, a_thunkEnv, a_restOfEnv, a_binderOfRecord, a_gradeOfRecord, a_countOfRecord))
    (hOK : (gt_er kd a_nodeArg n 0).1 = 0 → ∀ tc nt gb vt us tk tg tl tr, tc ≤ 32 → gx_TI kd a_nodeArg n (fun d => d < n) tc nt gb us (tk, tg, tl, tr) → post (f_derefLimit, f_recordLimit, f_frameLimit, nI n, 1, f_faultNode, nI tc, f_currentNode, f_currentEnv, f_returning, f_returnedNumber, f_frameCount, f_lastOutcome, f_lastValue, f_derefsMade, f_recordsMade, a_nodeKind, a_nodeArg, a_expectedPlaces, a_nodeAtPlace, a_placeOfNode, a_variablesSeen, nt, gb, vt, us, tk, tg, tl, tr, a_frameMark, a_frameWord, a_frameEnv, a_thunkNode, a_thunkEnv, a_restOfEnv, a_binderOfRecord, a_gradeOfRecord, a_countOfRecord)) :
    wpX_checkTypesAndGrades post (f_derefLimit, f_recordLimit, f_frameLimit, nI n, 1, f_faultNode, f_typeCount, f_currentNode, f_currentEnv, f_returning, f_returnedNumber, f_frameCount, f_lastOutcome, f_lastValue, f_derefsMade, f_recordsMade, a_nodeKind, a_nodeArg, a_expectedPlaces, a_nodeAtPlace, a_placeOfNode, a_variablesSeen, a_nodeType, a_gradeOfBinder, a_variableType, a_usage, a_typeKind, a_typeGrade, a_typeLeft, a_typeRight, a_frameMark, a_frameWord, a_frameEnv, a_thunkNode, a_thunkEnv, a_restOfEnv, a_binderOfRecord, a_gradeOfRecord, a_countOfRecord) := by
  have hA := A
  obtain ⟨ok, so, kr, -⟩ := A
  have hn := ok.2.1
  have h0 := ok.1
  have en0 := gp_en_0 ok
  refine ⟨n + 1, gx_down hA S hPl (n + 1) 0 (by omega) h0 (fun _ => False) 0 a_nodeType a_gradeOfBinder a_variableType a_usage a_typeKind a_typeGrade a_typeLeft a_typeRight 0 ⟨⟨by decide, fun i hi => by omega, fun i j hi => by omega⟩, fun d hd => hd.elim⟩
    (fun v hv => by rw [gp_sn_0] at hv; omega) (fun d hd => hd.elim) (by omega) (fun hpe => ?_) (fun hpe => ?_) (n + 1) (by omega)⟩
  · rw [gt_er_pe ok h0 hpe] at hF
    exact hF hpe
  · intro tc2 nt2 gb2 vt2 us2 tk2 tg2 tl2 tr2 I2 hv2 htc2 hx2 hd2 f2 g2 lv2 hf2 hlv2 hg2
    obtain ⟨er1, er2⟩ := gt_er_e2 ok h0 hpe
    cases g2 with
    | zero => omega
    | succ g2 =>
    refine br_f (nI_ge (b := 32) (by omega) (by decide)) (br_f (by decide) ?_)
    refine gx_complete hA S I2 h0 (fun i hi => Or.inr ?_) (fun z => by rcases z with z | z; exact z; omega) (by omega) (fun w hw => by rw [gp_sn_0] at hw; omega) (fun e0 => ?_) (fun e0 => ?_)
    · have b1 := gp_ch_ge ok h0 (Nat.le_of_lt hi)
      have b2 := (gp_ch_lt ok h0 hi).1
      omega
    · intro tc3 nt3 gb3 us3 tk3 tg3 tl3 tr3 I3 h31 h32 hx3
      try dsimp only
      refine ⟨vp_in_nI (by decide) (by decide), nm_e (br_t rfl ?_)⟩
      rw [nI_clamp (by decide), hPl 0 h0]
      refine br_t rfl (hOK (er1.trans e0) tc3 nt3 gb3 vt2 us3 tk3 tg3 tl3 tr3 (by omega) (gx_TI_iff (fun d hd => ?_) I3))
      rcases Nat.eq_zero_or_pos d with z | z
      · exact Or.inr z
      · exact Or.inl (Or.inr ⟨z, by omega⟩)
    · intro tc3 nt3 gb3 us3 tk3 tg3 tl3 tr3
      try dsimp only
      have ne1 : ¬ nI (gt_e2 kd a_nodeArg n 0) = 1 := by
        rcases gt_e2_45 (kd := kd) (ag := a_nodeArg) (n := n) (d := 0) with y | y | y
        · exact absurd y e0
        · rw [y]; decide
        · rw [y]; decide
      rw [er2 e0] at hF
      exact ⟨vp_in_nI (by decide) (by decide), nm_e (br_f ne1 (hF e0 _ _ _ _ _ _ _ _ _))⟩
/-- what the component holds once the check is well -/
def gx_CK (kd : Nat → Nat) (ag : Nat → Int32) (n tc : Nat) (nk vs np nt gb us : Nat → Int32) (T : gd_Tb) : Prop := tc ≤ 32 ∧ gm_A kd ag n ∧ gx_S kd n nk vs np ∧ gx_TI kd ag n (fun d => d < n) tc nt gb us T
theorem gx_check {post : Int32 → SX → Prop} {kd : Nat → Nat} {n : Nat} (p : gc_prog kd a_nodeArg n) (hK : ∀ i, i < n → a_nodeKind i = nI (kd i))
    (h : ∀ σ d, gc_R kd a_nodeArg n σ d → ∀ fn tc ep np po vs nt gb vt us tk tg tl tr, (σ = 1 → fn = -1 ∧ ∃ c, tc = nI c ∧ gx_CK kd a_nodeArg n c a_nodeKind vs np nt gb us (tk, tg, tl, tr)) → (¬ σ = 1 → fn = nI d) →
      post (nI σ) (f_derefLimit, f_recordLimit, f_frameLimit, nI n, nI σ, fn, tc, f_currentNode, f_currentEnv, f_returning, f_returnedNumber, f_frameCount, 0, 0, 0, 0, a_nodeKind, a_nodeArg, ep, np, po, vs, nt, gb, vt, us, tk, tg, tl, tr, a_frameMark, a_frameWord, a_frameEnv, a_thunkNode, a_thunkEnv, a_restOfEnv, a_binderOfRecord, a_gradeOfRecord, a_countOfRecord)) :
    wpX_check post (f_derefLimit, f_recordLimit, f_frameLimit, nI n, f_currentStatus, f_faultNode, f_typeCount, f_currentNode, f_currentEnv, f_returning, f_returnedNumber, f_frameCount, f_lastOutcome, f_lastValue, f_derefsMade, f_recordsMade, a_nodeKind, a_nodeArg, a_expectedPlaces, a_nodeAtPlace, a_placeOfNode, a_variablesSeen, a_nodeType, a_gradeOfBinder, a_variableType, a_usage, a_typeKind, a_typeGrade, a_typeLeft, a_typeRight, a_frameMark, a_frameWord, a_frameEnv, a_thunkNode, a_thunkEnv, a_restOfEnv, a_binderOfRecord, a_gradeOfRecord, a_countOfRecord) := by
  have hn := p.1
  have hK' : ∀ i, i < n → a_nodeKind i = nI (kd i) ∧ 1 ≤ kd i ∧ kd i ≤ 17 := fun i hi => ⟨hK i hi, p.2.1 i hi⟩
  unfold wpX_check
  try dsimp only
  unfold wpX_clearRunResults
  try dsimp only
  refine gx_shape hn hK' (fun hb hS ep np po vs hQ => ?_) (fun m hm hb ep np po vs => ?_)
  · have sok : gc_sok kd n := ⟨hb, hS⟩
    have ok := gc_ok hn sok
    have Q := hQ ok
    refine br_t rfl (gx_scope hn hK' (fun i hi => (Q i hi).2.2) (fun hs => ?_) (fun m hm hs hb2 => ?_))
    · have A := gc_P p sok hs
      have S : gx_S kd n a_nodeKind vs np := ⟨hK, fun i hi => (Q i hi).2.2, fun i hi j hj => by
        obtain ⟨c1, c2⟩ := gp_ch_lt ok hi hj
        rw [← c2]
        exact (Q _ c1).1⟩
      refine br_t rfl (gx_types A S (fun c hc => (Q c hc).2.1) (fun he tc nt gb vt us tk tg tl tr => ?_) (fun he tc nt gb vt us tk tg tl tr htc I => ?_))
      · have ne1 : ¬ (gt_er kd a_nodeArg n 0).1 = 1 := by
          rcases gt_er_45 (ag := a_nodeArg) ok (n + 1) 0 (by omega) ok.1 with y | y | y <;> omega
        exact h _ _ (Or.inr (Or.inr ⟨sok, hs, A, Or.inl ⟨he, rfl⟩⟩)) _ tc ep np po vs nt gb vt us tk tg tl tr (fun z => absurd z ne1) (fun _ => rfl)
      · exact h 1 0 (Or.inr (Or.inr ⟨sok, hs, A, Or.inr ⟨rfl, rfl, he⟩⟩)) _ _ ep np po vs nt gb vt us tk tg tl tr (fun _ => ⟨rfl, tc, rfl, htc, gm_A_of A he, S, I⟩) (fun z => absurd rfl z)
    · exact br_f (show ¬ (3 : Int32) = 1 by decide) (h 3 m (Or.inr (Or.inl ⟨rfl, sok, hm, hs, hb2⟩)) _ _ ep np po vs _ _ _ _ _ _ _ _ (fun z => absurd z (by decide)) (fun _ => rfl))
  · exact br_f (show ¬ (2 : Int32) = 1 by decide) (br_f (show ¬ (2 : Int32) = 1 by decide) (h 2 m (Or.inl ⟨rfl, hm, hb⟩) _ _ ep np po vs _ _ _ _ _ _ _ _ (fun z => absurd z (by decide)) (fun _ => rfl)))
end
end
section
/-! the reference's small readers -/
def gp_ss (k : Nat) : Nat := if k = 9 ∨ k = 13 ∨ k = 14 then 1 else 0
section
variable {f_dLim f_rLim f_fLim f_n f_stat f_err f_out f_vInt f_recs f_drf f_fsp : Int32} {a_kind a_arg a_ch a_par a_pos a_seen a_st a_ty a_tyK a_tyG a_tyA a_tyB a_u a_bg a_ux a_uy a_stk a_eqA a_eqB a_rT a_rE a_rG a_rN a_rC a_rX a_fK a_fA a_fE : Nat → Int32}
theorem gy_ar {post : Int32 → Prop} {k : Nat} (h1 : 1 ≤ k) (h2 : k ≤ 17) (h : post (nI (gp_ar k))) : wpY_arity post (f_dLim, f_rLim, f_fLim, f_n, f_stat, f_err, f_out, f_vInt, f_recs, f_drf, f_fsp, a_kind, a_arg, a_ch, a_par, a_pos, a_seen, a_st, a_ty, a_tyK, a_tyG, a_tyA, a_tyB, a_u, a_bg, a_ux, a_uy, a_stk, a_eqA, a_eqB, a_rT, a_rE, a_rG, a_rN, a_rC, a_rX, a_fK, a_fA, a_fE) (nI k) := by
  revert h
  refine gx_k17 (P := fun k => post (nI (gp_ar k)) → wpY_arity post (f_dLim, f_rLim, f_fLim, f_n, f_stat, f_err, f_out, f_vInt, f_recs, f_drf, f_fsp, a_kind, a_arg, a_ch, a_par, a_pos, a_seen, a_st, a_ty, a_tyK, a_tyG, a_tyA, a_tyB, a_u, a_bg, a_ux, a_uy, a_stk, a_eqA, a_eqB, a_rT, a_rE, a_rG, a_rN, a_rC, a_rX, a_fK, a_fA, a_fE) (nI k)) ?_ h1 h2
  refine ⟨?_, ?_, ?_, ?_, ?_, ?_, ?_, ?_, ?_, ?_, ?_, ?_, ?_, ?_, ?_, ?_, ?_⟩ <;> (intro h; unfold wpY_arity; dsimp only; repeat (first | exact h | exact br_t (by decide) h | refine br_f (by decide) ?_))
theorem gy_ss {post : Int32 → Prop} {k : Nat} (h1 : 1 ≤ k) (h2 : k ≤ 17) (h : post (nI (gp_ss k))) : wpY_startSlot post (f_dLim, f_rLim, f_fLim, f_n, f_stat, f_err, f_out, f_vInt, f_recs, f_drf, f_fsp, a_kind, a_arg, a_ch, a_par, a_pos, a_seen, a_st, a_ty, a_tyK, a_tyG, a_tyA, a_tyB, a_u, a_bg, a_ux, a_uy, a_stk, a_eqA, a_eqB, a_rT, a_rE, a_rG, a_rN, a_rC, a_rX, a_fK, a_fA, a_fE) (nI k) := by
  revert h
  refine gx_k17 (P := fun k => post (nI (gp_ss k)) → wpY_startSlot post (f_dLim, f_rLim, f_fLim, f_n, f_stat, f_err, f_out, f_vInt, f_recs, f_drf, f_fsp, a_kind, a_arg, a_ch, a_par, a_pos, a_seen, a_st, a_ty, a_tyK, a_tyG, a_tyA, a_tyB, a_u, a_bg, a_ux, a_uy, a_stk, a_eqA, a_eqB, a_rT, a_rE, a_rG, a_rN, a_rC, a_rX, a_fK, a_fA, a_fE) (nI k)) ?_ h1 h2
  refine ⟨?_, ?_, ?_, ?_, ?_, ?_, ?_, ?_, ?_, ?_, ?_, ?_, ?_, ?_, ?_, ?_, ?_⟩ <;> (intro h; unfold wpY_startSlot; dsimp only; repeat (first | exact h | exact br_t (by decide) h | refine br_f (by decide) ?_))
theorem gy_cs {post : Int32 → Prop} {k j : Nat} (h1 : 1 ≤ k) (h2 : k ≤ 17) (hj : j ≤ 2) (h : post (nI (gp_cs k j))) : wpY_childSort post (f_dLim, f_rLim, f_fLim, f_n, f_stat, f_err, f_out, f_vInt, f_recs, f_drf, f_fsp, a_kind, a_arg, a_ch, a_par, a_pos, a_seen, a_st, a_ty, a_tyK, a_tyG, a_tyA, a_tyB, a_u, a_bg, a_ux, a_uy, a_stk, a_eqA, a_eqB, a_rT, a_rE, a_rG, a_rN, a_rC, a_rX, a_fK, a_fA, a_fE) (nI k) (nI j) := by
  have hz : j = 0 ∨ j = 1 ∨ j = 2 := by omega
  revert h
  refine gx_k17 (P := fun k => post (nI (gp_cs k j)) → wpY_childSort post (f_dLim, f_rLim, f_fLim, f_n, f_stat, f_err, f_out, f_vInt, f_recs, f_drf, f_fsp, a_kind, a_arg, a_ch, a_par, a_pos, a_seen, a_st, a_ty, a_tyK, a_tyG, a_tyA, a_tyB, a_u, a_bg, a_ux, a_uy, a_stk, a_eqA, a_eqB, a_rT, a_rE, a_rG, a_rN, a_rC, a_rX, a_fK, a_fA, a_fE) (nI k) (nI j)) ?_ h1 h2
  rcases hz with e | e | e <;> subst e <;> refine ⟨?_, ?_, ?_, ?_, ?_, ?_, ?_, ?_, ?_, ?_, ?_, ?_, ?_, ?_, ?_, ?_, ?_⟩ <;> (intro h; unfold wpY_childSort; dsimp only; repeat (first | exact h | (unfold wY_childSort_25) | exact br_t (by decide) h | refine br_f (by decide) ?_ | refine br_t (by decide) ?_))
theorem gy_bd {post : Int32 → Prop} {k j : Nat} (h1 : 1 ≤ k) (h2 : k ≤ 17) (hj : j < gp_ar k) (h : post (nI (gp_bd k j))) : wpY_binds post (f_dLim, f_rLim, f_fLim, f_n, f_stat, f_err, f_out, f_vInt, f_recs, f_drf, f_fsp, a_kind, a_arg, a_ch, a_par, a_pos, a_seen, a_st, a_ty, a_tyK, a_tyG, a_tyA, a_tyB, a_u, a_bg, a_ux, a_uy, a_stk, a_eqA, a_eqB, a_rT, a_rE, a_rG, a_rN, a_rC, a_rX, a_fK, a_fA, a_fE) (nI k) (nI j) := by
  have a3 := gp_ar_le k
  have hz : j = 0 ∨ j = 1 ∨ j = 2 := by omega
  revert h hj
  refine gx_k17 (P := fun k => j < gp_ar k → post (nI (gp_bd k j)) → wpY_binds post (f_dLim, f_rLim, f_fLim, f_n, f_stat, f_err, f_out, f_vInt, f_recs, f_drf, f_fsp, a_kind, a_arg, a_ch, a_par, a_pos, a_seen, a_st, a_ty, a_tyK, a_tyG, a_tyA, a_tyB, a_u, a_bg, a_ux, a_uy, a_stk, a_eqA, a_eqB, a_rT, a_rE, a_rG, a_rN, a_rC, a_rX, a_fK, a_fA, a_fE) (nI k) (nI j)) ?_ h1 h2
  rcases hz with e | e | e <;> subst e <;> refine ⟨?_, ?_, ?_, ?_, ?_, ?_, ?_, ?_, ?_, ?_, ?_, ?_, ?_, ?_, ?_, ?_, ?_⟩ <;> (intro hj h; first | exact absurd hj (by decide) | (unfold wpY_binds; dsimp only; repeat (first | exact h | (unfold wY_binds_12) | exact br_t (by decide) h | refine br_f (by decide) ?_ | refine br_t (by decide) ?_)))
theorem gy_se_l {post : Int32 → Prop} {kd : Nat → Nat} {n : Nat} (hn : n ≤ 32) (hK : ∀ i, i < n → a_kind i = nI (kd i) ∧ 1 ≤ kd i ∧ kd i ≤ 17) :
    ∀ f need m fuel, m + f = n → 1 ≤ need → need ≤ 100 + 2 * m → f < fuel → post (nI (gp_se kd f need m)) → wY_subEnd_4 post f_dLim f_rLim f_fLim (nI n) f_stat f_err f_out f_vInt f_recs f_drf f_fsp a_kind a_arg a_ch a_par a_pos a_seen a_st a_ty a_tyK a_tyG a_tyA a_tyB a_u a_bg a_ux a_uy a_stk a_eqA a_eqB a_rT a_rE a_rG a_rN a_rC a_rX a_fK a_fA a_fE fuel (nI need) (nI m)
  | _, _, _, 0, _, _, _, hf, _ => by omega
  | 0, need, m, fuel + 1, hm, h1, h2, hf, h => by
    have e : m = n := by omega
    subst e
    exact br_t (nI_le (Nat.le_refl _) (by omega)) h
  | f + 1, need, m, fuel + 1, hm, h1, h2, hf, h => by
    obtain ⟨k0, k1, k2⟩ := hK m (by omega)
    have a3 := gp_ar_le (kd m)
    refine br_f (nI_ge (by omega) (by omega)) ⟨vp_in_nI (by omega) (by decide), ?_⟩
    rw [nI_clamp (show m < 2 ^ 31 by omega), k0]
    refine gy_ar k1 k2 ?_
    have e : nI need + (nI (gp_ar (kd m)) - 1) = nI (need + gp_ar (kd m) - 1) := by
      rw [Int32.sub_eq_add_neg, ← Int32.add_assoc, nI_add, ← Int32.sub_eq_add_neg]
      exact pk_sub (b := 1) (by omega)
    unfold gp_se at h
    refine nm_r e (pk_eq (need + gp_ar (kd m) - 1) 0 (fun z => ?_) (fun z => nm_r (nI_1 m) ?_))
    · rw [if_pos (by omega)] at h
      rw [nI_1]
      exact h
    · rw [if_neg (by omega)] at h
      exact gy_se_l hn hK f _ (m + 1) fuel (by omega) (by omega) (by omega) (by omega) h
theorem gy_se {post : Int32 → Prop} {kd : Nat → Nat} {n c : Nat} (hn : n ≤ 32) (hK : ∀ i, i < n → a_kind i = nI (kd i) ∧ 1 ≤ kd i ∧ kd i ≤ 17) (hc : c ≤ n) (h : post (nI (gp_en kd n c))) : wpY_subEnd post (f_dLim, f_rLim, f_fLim, nI n, f_stat, f_err, f_out, f_vInt, f_recs, f_drf, f_fsp, a_kind, a_arg, a_ch, a_par, a_pos, a_seen, a_st, a_ty, a_tyK, a_tyG, a_tyA, a_tyB, a_u, a_bg, a_ux, a_uy, a_stk, a_eqA, a_eqB, a_rT, a_rE, a_rG, a_rN, a_rC, a_rX, a_fK, a_fA, a_fE) (nI c) :=
  ⟨n - c + 1, gy_se_l hn hK (n - c) 1 c (n - c + 1) (by omega) (by omega) (by omega) (by omega) h⟩
/-! shape -/
end
def gy_sr (kd : Nat → Nat) (p : Nat) : Nat := if p = 96 then 1 else gp_cs (kd (p / 3)) (p % 3)
def gy_sl (kd : Nat → Nat) (l : List Nat) : List Nat := l.map (gy_sr kd)
theorem gy_sl_c (kd : Nat → Nat) (p : Nat) (l : List Nat) : gy_sl kd (p :: l) = gy_sr kd p :: gy_sl kd l := rfl
theorem gy_sl_len (kd : Nat → Nat) (l : List Nat) : (gy_sl kd l).length = l.length := by unfold gy_sl; exact List.length_map _
theorem gy_so {kd : Nat → Nat} {i p : Nat} : gx_so kd i p ↔ gp_srt (kd i) = gy_sr kd p := by
  unfold gx_so gy_sr
  by_cases h : p = 96
  · rw [if_pos h, if_pos h]
  · rw [if_neg h, if_neg h]
theorem gy_sr_01 (kd : Nat → Nat) (p : Nat) : gy_sr kd p ≤ 1 := by
  unfold gy_sr
  split
  · omega
  · exact gp_cs_01 _ _
section
variable {f_dLim f_rLim f_fLim f_n f_stat f_err f_out f_vInt f_recs f_drf f_fsp : Int32} {a_kind a_arg a_ch a_par a_pos a_seen a_st a_ty a_tyK a_tyG a_tyA a_tyB a_u a_bg a_ux a_uy a_stk a_eqA a_eqB a_rT a_rE a_rG a_rN a_rC a_rX a_fK a_fA a_fE : Nat → Int32}
theorem gy_push {post : Int32 → SY → Prop} {J : Int32 → Int32 → (Nat → Int32) → (Nat → Int32) → (Nat → Int32) → (Nat → Int32) → (Nat → Int32) → (Nat → Int32) → (Nat → Int32) → (Nat → Int32) → (Nat → Int32) → (Nat → Int32) → (Nat → Int32) → (Nat → Int32) → (Nat → Int32) → (Nat → Int32) → (Nat → Int32) → (Nat → Int32) → (Nat → Int32) → (Nat → Int32) → (Nat → Int32) → (Nat → Int32) → (Nat → Int32) → (Nat → Int32) → (Nat → Int32) → (Nat → Int32) → (Nat → Int32) → (Nat → Int32) → (Nat → Int32) → (Nat → Int32) → Prop} {kd : Nat → Nat} {i : Nat} {R : List Nat} (hi : i < 32) (hk : a_kind i = nI (kd i) ∧ 1 ≤ kd i ∧ kd i ≤ 17) : ∀ s m fuel (st : Nat → Int32), s ≤ 3 → s < fuel → R.length + m + s ≤ 65 → gx_stk st (gy_sl kd (gp_kf i s m ++ R)) →
    (∀ st', gx_stk st' (gy_sl kd (gp_kf i 0 (m + s) ++ R)) → J (nI (R.length + m + s)) (nI (i + 1)) a_kind a_arg a_ch a_par a_pos a_seen a_st a_ty a_tyK a_tyG a_tyA a_tyB a_u a_bg a_ux a_uy st' a_eqA a_eqB a_rT a_rE a_rG a_rN a_rC a_rX a_fK a_fA a_fE) →
    wY_doCheck_80 post J (nI i) f_dLim f_rLim f_fLim f_n f_stat f_err f_out f_vInt f_recs f_drf f_fsp fuel (nI (R.length + m)) (nI s - 1) a_kind a_arg a_ch a_par a_pos a_seen a_st a_ty a_tyK a_tyG a_tyA a_tyB a_u a_bg a_ux a_uy st a_eqA a_eqB a_rT a_rE a_rG a_rN a_rC a_rX a_fK a_fA a_fE
  | 0, m, 0, _, _, hf, _, _, _ => by omega
  | 0, m, fuel + 1, st, _, hf, hl, hs, h => br_t (by decide) (nm_r (nI_1 i) (h st hs))
  | s + 1, m, 0, _, _, hf, _, _, _ => by omega
  | s + 1, m, fuel + 1, st, h3, hf, hl, hs, h => by
    have hlen : (gy_sl kd (gp_kf i (s + 1) m ++ R)).length = R.length + m := by rw [gy_sl_len, List.length_append, gp_kf_len]; omega
    have e1 : gy_sr kd (3 * i + s) = gp_cs (kd i) s := by
      unfold gy_sr
      rw [if_neg (by omega), show (3 * i + s) / 3 = i by omega, show (3 * i + s) % 3 = s by omega]
    rw [nI_pred]
    refine br_f (nI_pos (by omega)) (pk_le 80 (R.length + m) (fun z => by omega) (fun z => ⟨vp_in_nI hi (by decide), ?_⟩))
    rw [nI_clamp (show i < 2 ^ 31 by omega), hk.1]
    refine gy_cs hk.2.1 hk.2.2 (by omega) ?_
    rw [nI_clamp (show R.length + m < 2 ^ 31 by omega), ← e1]
    refine ⟨vp_in_nI (by omega) (by decide), nm_e (nm_r (nI_1 _) (nm_e ?_))⟩
    have IH := gy_push (post := post) (J := J) (R := R) hi hk s (m + 1) fuel (upd st (R.length + m) (nI (gy_sr kd (3 * i + s)))) (by omega) (by omega) (by omega)
      (gx_stk_push (q := gy_sr kd (3 * i + s)) hlen.symm hs) (by
        rw [show m + 1 + s = m + (s + 1) by omega, show R.length + (m + 1) + s = R.length + m + (s + 1) by omega]; exact h)
    rw [Int32.sub_eq_add_neg] at IH
    exact IH
theorem gy_syn {post : Int32 → SY → Prop} {kd : Nat → Nat} {n : Nat} (hn : n ≤ 32) (hK : ∀ i, i < n → a_kind i = nI (kd i) ∧ 1 ≤ kd i ∧ kd i ≤ 17)
    (hOK : gc_sok kd n → ∀ st, ∃ f, wY_doCheck_140 post f_dLim f_rLim f_fLim (nI n) f_stat f_err f_out f_vInt f_recs f_drf f_fsp f 0 a_kind a_arg a_ch a_par a_pos a_seen a_st a_ty a_tyK a_tyG a_tyA a_tyB a_u a_bg a_ux a_uy st a_eqA a_eqB a_rT a_rE a_rG a_rN a_rC a_rX a_fK a_fA a_fE)
    (hF : ∀ m, gc_syn kd n m → ∀ st, post 2 (f_dLim, f_rLim, f_fLim, nI n, f_stat, nI m, f_out, f_vInt, f_recs, f_drf, f_fsp, a_kind, a_arg, a_ch, a_par, a_pos, a_seen, a_st, a_ty, a_tyK, a_tyG, a_tyA, a_tyB, a_u, a_bg, a_ux, a_uy, st, a_eqA, a_eqB, a_rT, a_rE, a_rG, a_rN, a_rC, a_rX, a_fK, a_fA, a_fE)) :
    ∀ d i fuel (st : Nat → Int32), i + d = n → d < fuel → gx_stk st (gy_sl kd (gp_S kd i)) → (∀ i', i' < i → ¬ gx_bad kd i') →
      wY_doCheck_11 post f_dLim f_rLim f_fLim (nI n) f_stat f_err f_out f_vInt f_recs f_drf f_fsp fuel (nI (gp_S kd i).length) (nI i) a_kind a_arg a_ch a_par a_pos a_seen a_st a_ty a_tyK a_tyG a_tyA a_tyB a_u a_bg a_ux a_uy st a_eqA a_eqB a_rT a_rE a_rG a_rN a_rC a_rX a_fK a_fA a_fE
  | _, _, 0, _, _, hf, _, _ => by omega
  | 0, i, fuel + 1, st, hi, hf, hs, hb => by
    have e : i = n := by omega
    subst e
    have hl := gp_S_len kd i
    refine br_t (nI_le (Nat.le_refl _) (by omega)) (pk_le (gp_S kd i).length 0 (fun z => ?_) (fun z => ?_))
    · exact hOK ⟨hb, List.length_eq_zero_iff.mp (by omega)⟩ st
    · exact hF i ⟨Or.inr ⟨rfl, fun y => by rw [y] at z; exact absurd z (by decide)⟩, hb⟩ st
  | d + 1, i, fuel + 1, st, hi, hf, hs, hb => by
    have hin : i < n := by omega
    have hl := gp_S_len kd i
    obtain ⟨k0, k1, k2⟩ := hK i hin
    refine br_f (nI_ge hin (by omega)) ?_
    cases hS : gp_S kd i with
    | nil => exact br_t rfl (hF i ⟨Or.inl ⟨hin, Or.inl hS⟩, hb⟩ st)
    | cons p R =>
      rw [hS, gy_sl_c] at hs
      rw [hS] at hl
      simp only [List.length_cons] at hl ⊢
      have hpl : gp_pl kd i = p := by unfold gp_pl; rw [hS]; rfl
      have hs1 := hs.1
      rw [gy_sl_len] at hs1
      have a3 := gp_ar_le (kd i)
      refine br_f (nI_ne0 (by omega) (by omega)) (nm_r (pk_m1 _) ⟨vp_in_nI (by omega) (by decide), ?_⟩)
      rw [nI_clamp (show i < 2 ^ 31 by omega), k0]
      have go : ∀ z0 : Int32, z0 = nI (gp_srt (kd i)) → wY_doCheck_48 post (wY_doCheck_11 post f_dLim f_rLim f_fLim (nI n) f_stat f_err f_out f_vInt f_recs f_drf f_fsp fuel) (nI R.length) (nI i) z0 f_dLim f_rLim f_fLim (nI n) f_stat f_err f_out f_vInt f_recs f_drf f_fsp a_kind a_arg a_ch a_par a_pos a_seen a_st a_ty a_tyK a_tyG a_tyA a_tyB a_u a_bg a_ux a_uy st a_eqA a_eqB a_rT a_rE a_rG a_rN a_rC a_rX a_fK a_fA a_fE := by
        intro z0 ez
        unfold wY_doCheck_48
        rw [ez, nI_clamp (show R.length < 2 ^ 31 by omega), hs1, nI_clamp (show i < 2 ^ 31 by omega), k0]
        have s1 := gp_srt_01 (kd i)
        have s2 := gy_sr_01 kd p
        refine ⟨vp_in_nI (by omega) (by decide), pk_eq (gp_srt (kd i)) (gy_sr kd p) (fun so => ⟨vp_in_nI (by omega) (by decide), gy_ar k1 k2 (nm_e ⟨gp_ar (kd i) + 1, ?_⟩)⟩) (fun nso => ?_)⟩
        · refine gy_push (R := R) (kd := kd) (by omega) ⟨k0, k1, k2⟩ (gp_ar (kd i)) 0 (gp_ar (kd i) + 1) st a3 (by omega) ?_ hs.2 (fun st' hs' => ?_)
          · have := gp_S_len kd (i + 1)
            rw [gp_S_s, hS, List.length_append, gp_kf_len] at this
            simp only [List.tail_cons] at this
            omega
          · have hS' : gp_S kd (i + 1) = gp_kf i 0 (gp_ar (kd i)) ++ R := by rw [gp_S_s, hS]; rfl
            have IH := gy_syn hn hK hOK hF d (i + 1) fuel st' (by omega) (by omega)
              (by rw [hS']; rw [Nat.zero_add] at hs'; exact hs')
              (fun i' hi' => by
                rcases Nat.lt_or_ge i' i with z | z
                · exact hb i' z
                · have e : i' = i := by omega
                  subst e
                  intro y
                  rcases y with y | y
                  · rw [hS] at y; exact absurd y (List.cons_ne_nil _ _)
                  · rw [hpl] at y; exact y (gy_so.mpr so))
            rw [hS', List.length_append, gp_kf_len] at IH
            rw [show R.length + 0 + gp_ar (kd i) = gp_ar (kd i) + R.length by omega]
            exact IH
        · exact hF i ⟨Or.inl ⟨hin, Or.inr (by rw [hpl]; exact fun y => nso (gy_so.mp y))⟩, hb⟩ st
      refine pk_lt 5 (kd i) (fun z => go 1 ?_) (fun z => go 0 ?_)
      · unfold gp_srt; rw [if_neg (by omega)]; rfl
      · unfold gp_srt; rw [if_pos z]; rfl
end
end
section
/-! the reference's tree: children, parents, slots -/
def gy_T (kd : Nat → Nat) (n i j : Nat) (ch par pos : Nat → Int32) : Prop := par 0 = -1 ∧
  (∀ c, 0 < c → c < n → (gp_pl kd c / 3 < i ∨ (gp_pl kd c / 3 = i ∧ gp_pl kd c % 3 < j)) → par c = nI (gp_pl kd c / 3) ∧ pos c = nI (gp_pl kd c % 3)) ∧
  (∀ i' j', i' < n → j' < gp_ar (kd i') → (i' < i ∨ (i' = i ∧ j' < j)) → ch (3 * i' + j') = nI (gp_ch kd n i' j'))
theorem gy_T_s {kd : Nat → Nat} {n i j : Nat} {ch par pos : Nat → Int32} (ok : gp_ok kd n) (hi : i < n) (hj : j < gp_ar (kd i)) (h : gy_T kd n i j ch par pos) :
    gy_T kd n i (j + 1) (upd ch (3 * i + j) (nI (gp_ch kd n i j))) (upd par (gp_ch kd n i j) (nI i)) (upd pos (gp_ch kd n i j) (nI j)) := by
  obtain ⟨h1, h2, h3⟩ := h
  obtain ⟨c1, c2⟩ := gp_ch_lt ok hi hj
  have cg := gp_ch_ge ok hi (Nat.le_of_lt hj)
  have a3 := gp_ar_le (kd i)
  refine ⟨by rw [pk_un (by omega)]; exact h1, fun c c0 cn hc => ?_, fun i' j' hi' hj' hij => ?_⟩
  · by_cases z : c = gp_ch kd n i j
    · subst z
      rw [pk_us, pk_us, c2, show (3 * i + j) / 3 = i by omega, show (3 * i + j) % 3 = j by omega]
      exact ⟨rfl, rfl⟩
    · rw [pk_un z, pk_un z]
      refine h2 c c0 cn ?_
      rcases hc with hc | hc
      · exact Or.inl hc
      · refine Or.inr ⟨hc.1, ?_⟩
        rcases Nat.lt_or_ge (gp_pl kd c % 3) j with y | y
        · exact y
        · have : gp_pl kd c = 3 * i + j := by omega
          exact absurd (gp_pl_inj ok cn c1 (this.trans c2.symm)) z
  · have a4 := gp_ar_le (kd i')
    by_cases z : i' = i ∧ j' = j
    · obtain ⟨rfl, rfl⟩ := z
      rw [pk_us]
    · rw [pk_un (by omega)]
      exact h3 i' j' hi' hj' (by omega)
theorem gy_T_n {kd : Nat → Nat} {n i : Nat} {ch par pos : Nat → Int32} (ok : gp_ok kd n) (h : gy_T kd n i (gp_ar (kd i)) ch par pos) : gy_T kd n (i + 1) 0 ch par pos := by
  obtain ⟨h1, h2, h3⟩ := h
  refine ⟨h1, fun c c0 cn hc => h2 c c0 cn ?_, fun i' j' hi' hj' hij => h3 i' j' hi' hj' ?_⟩
  · have := gp_pl_in ok cn c0
    rcases Nat.lt_or_ge (gp_pl kd c / 3) i with z | z
    · exact Or.inl z
    · have e : gp_pl kd c / 3 = i := by omega
      rw [e] at this
      exact Or.inr ⟨e, this.2⟩
  · rcases Nat.lt_or_ge i' i with z | z
    · exact Or.inl z
    · have e : i' = i := by omega
      subst e
      exact Or.inr ⟨rfl, hj'⟩
/-- what the reference holds of the tree -/
def gy_S (kd : Nat → Nat) (n : Nat) (nk ch par pos sn : Nat → Int32) : Prop := (∀ i, i < n → nk i = nI (kd i)) ∧ par 0 = -1 ∧ (∀ c, 0 < c → c < n → par c = nI (gp_pl kd c / 3) ∧ pos c = nI (gp_pl kd c % 3)) ∧
  (∀ i, i < n → ∀ j, j < gp_ar (kd i) → ch (3 * i + j) = nI (gp_ch kd n i j)) ∧ (∀ c, c < n → sn c = nI (gp_sn kd c))
section
variable {f_dLim f_rLim f_fLim f_n f_stat f_err f_out f_vInt f_recs f_drf f_fsp : Int32} {a_kind a_arg a_ch a_par a_pos a_seen a_st a_ty a_tyK a_tyG a_tyA a_tyB a_u a_bg a_ux a_uy a_stk a_eqA a_eqB a_rT a_rE a_rG a_rN a_rC a_rX a_fK a_fA a_fE : Nat → Int32}
theorem gy_140 {post : Int32 → SY → Prop} {n : Nat} (hn : n ≤ 32) (h0 : 0 < n) (h : ∀ par pos, par 0 = -1 → ∃ f, wY_doCheck_170 post f_dLim f_rLim f_fLim (nI n) f_stat f_err f_out f_vInt f_recs f_drf f_fsp f 0 a_kind a_arg a_ch par pos a_seen a_st a_ty a_tyK a_tyG a_tyA a_tyB a_u a_bg a_ux a_uy a_stk a_eqA a_eqB a_rT a_rE a_rG a_rN a_rC a_rX a_fK a_fA a_fE) :
    ∀ d i fuel (par pos : Nat → Int32), i + d = n → d < fuel → (0 < i → par 0 = -1) → wY_doCheck_140 post f_dLim f_rLim f_fLim (nI n) f_stat f_err f_out f_vInt f_recs f_drf f_fsp fuel (nI i) a_kind a_arg a_ch par pos a_seen a_st a_ty a_tyK a_tyG a_tyA a_tyB a_u a_bg a_ux a_uy a_stk a_eqA a_eqB a_rT a_rE a_rG a_rN a_rC a_rX a_fK a_fA a_fE
  | _, _, 0, _, _, _, hf, _ => by omega
  | 0, i, fuel + 1, par, pos, hi, hf, hp => by
    have e : i = n := by omega
    subst e
    exact br_t (nI_le (Nat.le_refl _) (by omega)) (h par pos (hp h0))
  | d + 1, i, fuel + 1, par, pos, hi, hf, hp => by
    have v := vp_in_nI (show i < 32 by omega) (by decide)
    refine br_f (nI_ge (by omega) (by omega)) ⟨v, ?_⟩
    rw [nI_clamp (show i < 2 ^ 31 by omega)]
    refine nm_e ⟨v, nm_e (nm_r (nI_1 i) (gy_140 hn h0 h d (i + 1) fuel _ _ (by omega) (by omega) (fun _ => ?_)))⟩
    rcases Nat.eq_zero_or_pos i with z | z
    · subst z; exact pk_us
    · rw [pk_un (by omega)]; exact hp z
theorem gy_185 {post : Int32 → SY → Prop} {J : Int32 → (Nat → Int32) → (Nat → Int32) → (Nat → Int32) → (Nat → Int32) → (Nat → Int32) → (Nat → Int32) → (Nat → Int32) → (Nat → Int32) → (Nat → Int32) → (Nat → Int32) → (Nat → Int32) → (Nat → Int32) → (Nat → Int32) → (Nat → Int32) → (Nat → Int32) → (Nat → Int32) → (Nat → Int32) → (Nat → Int32) → (Nat → Int32) → (Nat → Int32) → (Nat → Int32) → (Nat → Int32) → (Nat → Int32) → (Nat → Int32) → (Nat → Int32) → (Nat → Int32) → (Nat → Int32) → (Nat → Int32) → Prop} {kd : Nat → Nat} {n i : Nat} (ok : gp_ok kd n) (hK : ∀ i, i < n → a_kind i = nI (kd i) ∧ 1 ≤ kd i ∧ kd i ≤ 17) (hi : i < n)
    (h : ∀ ch par pos, gy_T kd n (i + 1) 0 ch par pos → J (nI (i + 1)) a_kind a_arg ch par pos a_seen a_st a_ty a_tyK a_tyG a_tyA a_tyB a_u a_bg a_ux a_uy a_stk a_eqA a_eqB a_rT a_rE a_rG a_rN a_rC a_rX a_fK a_fA a_fE) :
    ∀ r j fuel (ch par pos : Nat → Int32), j + r = gp_ar (kd i) → r < fuel → gy_T kd n i j ch par pos → wY_doCheck_185 post J (nI i) f_dLim f_rLim f_fLim (nI n) f_stat f_err f_out f_vInt f_recs f_drf f_fsp fuel (nI (gp_ch kd n i j)) (nI j) a_kind a_arg ch par pos a_seen a_st a_ty a_tyK a_tyG a_tyA a_tyB a_u a_bg a_ux a_uy a_stk a_eqA a_eqB a_rT a_rE a_rG a_rN a_rC a_rX a_fK a_fA a_fE
  | _, _, 0, _, _, _, _, hf, _ => by omega
  | 0, j, fuel + 1, ch, par, pos, hj, hf, hT => by
    obtain ⟨k0, k1, k2⟩ := hK i hi
    have hn := ok.2.1
    have a3 := gp_ar_le (kd i)
    have e : j = gp_ar (kd i) := by omega
    refine ⟨vp_in_nI (by omega) (by decide), ?_⟩
    rw [nI_clamp (show i < 2 ^ 31 by omega), k0]
    refine gy_ar k1 k2 (br_t (nI_le (by omega) (by omega)) (nm_r (nI_1 i) (h ch par pos (gy_T_n ok ?_))))
    rw [← e]; exact hT
  | r + 1, j, fuel + 1, ch, par, pos, hj, hf, hT => by
    obtain ⟨k0, k1, k2⟩ := hK i hi
    have hn := ok.2.1
    have a3 := gp_ar_le (kd i)
    have hj' : j < gp_ar (kd i) := by omega
    obtain ⟨c1, c2⟩ := gp_ch_lt ok hi hj'
    have v := vp_in_nI (show i < 32 by omega) (by decide)
    have vc := vp_in_nI (show gp_ch kd n i j < 32 by omega) (by decide)
    refine ⟨v, ?_⟩
    rw [nI_clamp (show i < 2 ^ 31 by omega), k0]
    refine gy_ar k1 k2 (br_f (nI_ge hj' (by omega)) (br_f (nI_ge c1 (by omega)) ?_))
    rw [gx_ix3, nI_clamp (show 3 * i + j < 2 ^ 31 by omega), nI_clamp (show gp_ch kd n i j < 2 ^ 31 by omega)]
    refine ⟨vp_in_nI (by omega) (by decide), nm_e ⟨vc, nm_e ⟨vc, nm_e (gy_se hn hK (by omega) (nm_r (nI_1 j) ?_))⟩⟩⟩
    exact gy_185 ok hK hi h r (j + 1) fuel _ _ _ (by omega) (by omega) (gy_T_s ok hi hj' hT)
theorem gy_170 {post : Int32 → SY → Prop} {kd : Nat → Nat} {n : Nat} (ok : gp_ok kd n) (hK : ∀ i, i < n → a_kind i = nI (kd i) ∧ 1 ≤ kd i ∧ kd i ≤ 17)
    (h : ∀ ch par pos, gy_T kd n n 0 ch par pos → ∃ f, wY_doCheck_255 post f_dLim f_rLim f_fLim (nI n) f_stat f_err f_out f_vInt f_recs f_drf f_fsp f 0 a_kind a_arg ch par pos a_seen a_st a_ty a_tyK a_tyG a_tyA a_tyB a_u a_bg a_ux a_uy a_stk a_eqA a_eqB a_rT a_rE a_rG a_rN a_rC a_rX a_fK a_fA a_fE) :
    ∀ d i fuel (ch par pos : Nat → Int32), i + d = n → d < fuel → gy_T kd n i 0 ch par pos → wY_doCheck_170 post f_dLim f_rLim f_fLim (nI n) f_stat f_err f_out f_vInt f_recs f_drf f_fsp fuel (nI i) a_kind a_arg ch par pos a_seen a_st a_ty a_tyK a_tyG a_tyA a_tyB a_u a_bg a_ux a_uy a_stk a_eqA a_eqB a_rT a_rE a_rG a_rN a_rC a_rX a_fK a_fA a_fE
  | _, _, 0, _, _, _, _, hf, _ => by omega
  | 0, i, fuel + 1, ch, par, pos, hi, hf, hT => by
    have hn := ok.2.1
    have e : i = n := by omega
    subst e
    exact br_t (nI_le (Nat.le_refl _) (by omega)) (h ch par pos hT)
  | d + 1, i, fuel + 1, ch, par, pos, hi, hf, hT => by
    have hn := ok.2.1
    refine br_f (nI_ge (by omega) (by omega)) (nm_r (nI_1 i) ⟨gp_ar (kd i) + 1, ?_⟩)
    exact gy_185 ok hK (by omega) (fun ch par pos hT' => gy_170 ok hK h d (i + 1) fuel ch par pos (by omega) (by omega) hT') (gp_ar (kd i)) 0 (gp_ar (kd i) + 1) ch par pos (by omega) (by omega) hT
theorem gy_255 {post : Int32 → SY → Prop} {kd : Nat → Nat} {n : Nat} (ok : gp_ok kd n) (hK : ∀ i, i < n → a_kind i = nI (kd i) ∧ 1 ≤ kd i ∧ kd i ≤ 17) (hp0 : a_par 0 = -1)
    (hp : ∀ c, 0 < c → c < n → a_par c = nI (gp_pl kd c / 3) ∧ a_pos c = nI (gp_pl kd c % 3))
    (h : ∀ sn, (∀ c, c < n → sn c = nI (gp_sn kd c)) → ∃ f, wY_doCheck_318 post f_dLim f_rLim f_fLim (nI n) f_stat f_err f_out f_vInt f_recs f_drf f_fsp a_kind a_arg a_ch a_par a_pos sn a_st a_ty a_tyK a_tyG a_tyA a_tyB a_u a_bg a_ux a_uy a_stk a_eqA a_eqB a_rT a_rE a_rG a_rN a_rC a_rX a_fK a_fA a_fE f 0) :
    ∀ d i fuel (sn : Nat → Int32), i + d = n → d < fuel → (∀ c, c < i → sn c = nI (gp_sn kd c)) → wY_doCheck_255 post f_dLim f_rLim f_fLim (nI n) f_stat f_err f_out f_vInt f_recs f_drf f_fsp fuel (nI i) a_kind a_arg a_ch a_par a_pos sn a_st a_ty a_tyK a_tyG a_tyA a_tyB a_u a_bg a_ux a_uy a_stk a_eqA a_eqB a_rT a_rE a_rG a_rN a_rC a_rX a_fK a_fA a_fE
  | _, _, 0, _, _, hf, _ => by omega
  | 0, i, fuel + 1, sn, hi, hf, hs => by
    have hn := ok.2.1
    have e : i = n := by omega
    subst e
    exact br_t (nI_le (Nat.le_refl _) (by omega)) (h sn hs)
  | d + 1, i, fuel + 1, sn, hi, hf, hs => by
    have hn := ok.2.1
    have v := vp_in_nI (show i < 32 by omega) (by decide)
    refine br_f (nI_ge (by omega) (by omega)) ⟨v, ?_⟩
    rw [nI_clamp (show i < 2 ^ 31 by omega)]
    rcases Nat.eq_zero_or_pos i with z | z
    · subst z
      refine nm_r hp0 ⟨v, nm_e (br_t (by decide) (nm_r (nI_1 0) (gy_255 ok hK hp0 hp h d (0 + 1) fuel _ (by omega) (by omega) (fun c hc => ?_))))⟩
      have : c = 0 := by omega
      subst this
      rw [pk_us, gp_sn_0]; rfl
    · obtain ⟨p1, p2⟩ := hp i z (by omega)
      obtain ⟨q1, q2⟩ := gp_pl_in ok (by omega) z
      obtain ⟨k0, k1, k2⟩ := hK (gp_pl kd i / 3) (by omega)
      have vp := vp_in_nI (show gp_pl kd i / 3 < 32 by omega) (by decide)
      refine nm_r p1 ⟨v, nm_e (br_f (nI_pos (by omega)) ⟨vp, vp, v, ?_⟩)⟩
      rw [nI_clamp (show gp_pl kd i / 3 < 2 ^ 31 by omega), k0, p2]
      refine gy_bd k1 k2 q2 ⟨v, nm_e (nm_r (nI_1 i) (gy_255 ok hK hp0 hp h d (i + 1) fuel _ (by omega) (by omega) (fun c hc => ?_)))⟩
      by_cases y : c = i
      · subst y
        rw [pk_us, pk_un (by omega), hs _ q1, nI_add, gp_sn_p ok (by omega) z]
      · rw [pk_un y, pk_un y]
        exact hs c (by omega)
theorem gy_318 {post : Int32 → SY → Prop} {kd : Nat → Nat} {n : Nat} (hn : n ≤ 32) (hK : ∀ i, i < n → a_kind i = nI (kd i) ∧ 1 ≤ kd i ∧ kd i ≤ 17) (hV : ∀ i, i < n → a_seen i = nI (gp_sn kd i))
    (hOK : (∀ i, i < n → ¬ gx_sc kd a_arg i) → ∃ f, wY_doCheck_367 post f_dLim f_rLim f_fLim (nI n) f_stat f_err f_out f_vInt f_recs f_drf f_fsp f 0 a_kind a_arg a_ch a_par a_pos a_seen a_st a_ty a_tyK a_tyG a_tyA a_tyB a_u a_bg a_ux a_uy a_stk a_eqA a_eqB a_rT a_rE a_rG a_rN a_rC a_rX a_fK a_fA a_fE)
    (hF : ∀ m, m < n → gx_sc kd a_arg m → (∀ i, i < m → ¬ gx_sc kd a_arg i) → post 3 (f_dLim, f_rLim, f_fLim, nI n, f_stat, nI m, f_out, f_vInt, f_recs, f_drf, f_fsp, a_kind, a_arg, a_ch, a_par, a_pos, a_seen, a_st, a_ty, a_tyK, a_tyG, a_tyA, a_tyB, a_u, a_bg, a_ux, a_uy, a_stk, a_eqA, a_eqB, a_rT, a_rE, a_rG, a_rN, a_rC, a_rX, a_fK, a_fA, a_fE)) :
    ∀ d i fuel, i + d = n → d < fuel → (∀ i', i' < i → ¬ gx_sc kd a_arg i') → wY_doCheck_318 post f_dLim f_rLim f_fLim (nI n) f_stat f_err f_out f_vInt f_recs f_drf f_fsp a_kind a_arg a_ch a_par a_pos a_seen a_st a_ty a_tyK a_tyG a_tyA a_tyB a_u a_bg a_ux a_uy a_stk a_eqA a_eqB a_rT a_rE a_rG a_rN a_rC a_rX a_fK a_fA a_fE fuel (nI i)
  | _, _, 0, _, hf, _ => by omega
  | 0, i, fuel + 1, hi, hf, hb => by
    have e : i = n := by omega
    subst e
    exact br_t (nI_le (Nat.le_refl _) (by omega)) (hOK hb)
  | d + 1, i, fuel + 1, hi, hf, hb => by
    have hin : i < n := by omega
    obtain ⟨k0, k1, k2⟩ := hK i hin
    have IH : ¬ gx_sc kd a_arg i → wY_doCheck_318 post f_dLim f_rLim f_fLim (nI n) f_stat f_err f_out f_vInt f_recs f_drf f_fsp a_kind a_arg a_ch a_par a_pos a_seen a_st a_ty a_tyK a_tyG a_tyA a_tyB a_u a_bg a_ux a_uy a_stk a_eqA a_eqB a_rT a_rE a_rG a_rN a_rC a_rX a_fK a_fA a_fE fuel (nI (i + 1)) := fun y =>
      gy_318 hn hK hV hOK hF d (i + 1) fuel (by omega) (by omega) (fun i' hi' => by
        rcases Nat.lt_or_ge i' i with z | z
        · exact hb i' z
        · have e : i' = i := by omega
          subst e
          exact y)
    refine br_f (nI_ge hin (by omega)) ⟨vp_in_nI (by omega) (by decide), ?_⟩
    rw [nI_clamp (show i < 2 ^ 31 by omega), k0, hV i hin]
    refine pk_eq (kd i) 6 (fun z => ⟨vp_in_nI (by omega) (by decide), vp_in_nI (by omega) (by decide), br_c (fun y => nm_r (nI_1 i) (IH (fun x => x.2 y))) (fun y => hF i hin ⟨z, y⟩ hb)⟩) (fun z => nm_r (nI_1 i) (IH (fun x => z x.1)))
theorem gy_367 {post : Int32 → SY → Prop} {kd : Nat → Nat} {n : Nat} (h0 : 0 < n) (hn : n ≤ 32) (hK : ∀ i, i < n → a_kind i = nI (kd i) ∧ 1 ≤ kd i ∧ kd i ≤ 17)
    (h : ∀ tK tG tA tB, (∀ c, c < n → tK c = nI (kd c) ∧ (kd c ≤ 5 → tG c = a_arg c) ∧ tA c = a_ch (3 * c) ∧ tB c = a_ch (3 * c + 1)) →
      ∃ f, wY_doCheck_476 post f 1 0 f_dLim f_rLim f_fLim (nI n) f_stat f_err f_out f_vInt f_recs f_drf f_fsp a_kind a_arg a_ch a_par a_pos a_seen (upd a_st 0 (nI (gp_ss (kd 0)))) a_ty tK tG tA tB a_u a_bg a_ux a_uy (upd a_stk 0 0) a_eqA a_eqB a_rT a_rE a_rG a_rN a_rC a_rX a_fK a_fA a_fE) :
    ∀ d i fuel (tK tG tA tB : Nat → Int32), i + d = n → d < fuel → (∀ c, c < i → tK c = nI (kd c) ∧ (kd c ≤ 5 → tG c = a_arg c) ∧ tA c = a_ch (3 * c) ∧ tB c = a_ch (3 * c + 1)) →
      wY_doCheck_367 post f_dLim f_rLim f_fLim (nI n) f_stat f_err f_out f_vInt f_recs f_drf f_fsp fuel (nI i) a_kind a_arg a_ch a_par a_pos a_seen a_st a_ty tK tG tA tB a_u a_bg a_ux a_uy a_stk a_eqA a_eqB a_rT a_rE a_rG a_rN a_rC a_rX a_fK a_fA a_fE
  | _, _, 0, _, _, _, _, _, hf, _ => by omega
  | 0, i, fuel + 1, tK, tG, tA, tB, hi, hf, hs => by
    have e : i = n := by omega
    subst e
    obtain ⟨k0, k1, k2⟩ := hK 0 h0
    refine br_t (nI_le (Nat.le_refl _) (by omega)) (nm_e ?_)
    rw [k0]
    exact gy_ss k1 k2 (nm_e (h tK tG tA tB hs))
  | d + 1, i, fuel + 1, tK, tG, tA, tB, hi, hf, hs => by
    have hin : i < n := by omega
    obtain ⟨k0, k1, k2⟩ := hK i hin
    have v := vp_in_nI (show i < 32 by omega) (by decide)
    have v64 := vp_in_nI (show i < 64 by omega) (by decide)
    have e3 : nI i * 3 = nI (3 * i) := by rw [show (nI i * 3 : Int32) = nI (i * 3) from pk_mul i 3, Nat.mul_comm]
    have go : ∀ g : Int32, (kd i ≤ 5 → g = a_arg i) → wY_doCheck_412 post (wY_doCheck_367 post f_dLim f_rLim f_fLim (nI n) f_stat f_err f_out f_vInt f_recs f_drf f_fsp fuel) (nI i) g (nI i) f_dLim f_rLim f_fLim (nI n) f_stat f_err f_out f_vInt f_recs f_drf f_fsp a_kind a_arg a_ch a_par a_pos a_seen a_st a_ty (upd tK i (nI (kd i))) tG tA tB a_u a_bg a_ux a_uy a_stk a_eqA a_eqB a_rT a_rE a_rG a_rN a_rC a_rX a_fK a_fA a_fE := by
      intro g hg
      unfold wY_doCheck_412
      rw [e3, nI_1, nI_clamp (show i < 2 ^ 31 by omega), nI_clamp (show 3 * i < 2 ^ 31 by omega), nI_clamp (show 3 * i + 1 < 2 ^ 31 by omega)]
      refine ⟨v64, nm_e ⟨vp_in_nI (by omega) (by decide), v64, nm_e ⟨vp_in_nI (by omega) (by decide), v64, nm_e (nm_r (nI_1 i) ?_)⟩⟩⟩
      refine gy_367 h0 hn hK h d (i + 1) fuel _ _ _ _ (by omega) (by omega) (fun c hc => ?_)
      by_cases z : c = i
      · subst z
        rw [pk_us, pk_us, pk_us, pk_us]
        exact ⟨rfl, hg, rfl, rfl⟩
      · rw [pk_un z, pk_un z, pk_un z, pk_un z]
        exact hs c (by omega)
    refine br_f (nI_ge hin (by omega)) ⟨v, v64, ?_⟩
    rw [nI_clamp (show i < 2 ^ 31 by omega), k0]
    refine nm_e ⟨v, pk_lt 5 (kd i) (fun z => go 0 (fun y => by omega)) (fun z => ⟨v, go (a_arg i) (fun _ => rfl)⟩)⟩
end
end
section
/-! the reference's table: entries in use -/
def gy_o (kd : Nat → Nat) (n : Nat) (P : Nat → Prop) (y : Nat) : Prop := (y < n ∧ kd y ≤ 5) ∨ ∃ d, d < n ∧ P d ∧ ¬ kd d ≤ 5 ∧ y = 32 + d
theorem gy_o_lt {kd : Nat → Nat} {n y : Nat} {P : Nat → Prop} (hn : n ≤ 32) (h : gy_o kd n P y) : y < 64 := by
  rcases h with h | ⟨d, h1, _, _, h2⟩ <;> omega
def gy_c (kd : Nat → Nat) (n : Nat) (P : Nat → Prop) (T : gd_Tb) (y : Nat) : Prop := (¬ T.1 y = 1 → ∃ a, gy_o kd n P a ∧ T.2.2.1 y = nI a) ∧ (¬ T.1 y = 1 → ¬ T.1 y = 5 → ∃ b, gy_o kd n P b ∧ T.2.2.2 y = nI b)
theorem gy_cl {kd : Nat → Nat} {n : Nat} {P : Nat → Prop} {T : gd_Tb} (hn : n ≤ 32) (h : ∀ y, gy_o kd n P y → gy_c kd n P T y) : gd_cl T (gy_o kd n P) := by
  intro y hy
  refine ⟨fun h1 => ?_, fun h1 h5 => ?_⟩
  · obtain ⟨a, a1, a2⟩ := (h y hy).1 h1
    have := gy_o_lt hn a1
    unfold gd_L
    rw [a2, nI_clamp (by omega)]
    exact a1
  · obtain ⟨a, a1, a2⟩ := (h y hy).2 h1 h5
    have := gy_o_lt hn a1
    unfold gd_R
    rw [a2, nI_clamp (by omega)]
    exact a1
def gy_pr (O : Nat → Prop) (ea eb : Nat → Int32) : List (Nat × Nat) → Prop
  | [] => True
  | q :: R => ea R.length = nI q.1 ∧ eb R.length = nI q.2 ∧ O q.1 ∧ O q.2 ∧ gy_pr O ea eb R
theorem gy_pr_keep {O : Nat → Prop} {ea eb : Nat → Int32} {k : Nat} {x y : Int32} : ∀ {R : List (Nat × Nat)}, R.length ≤ k → gy_pr O ea eb R → gy_pr O (upd ea k x) (upd eb k y) R
  | [], _, _ => trivial
  | q :: R, hk, h => by
    simp only [List.length_cons] at hk
    exact ⟨by rw [pk_un (by omega)]; exact h.1, by rw [pk_un (by omega)]; exact h.2.1, h.2.2.1, h.2.2.2.1, gy_pr_keep (by omega) h.2.2.2.2⟩
theorem gy_pr_push {O : Nat → Prop} {ea eb : Nat → Int32} {k a b : Nat} {R : List (Nat × Nat)} (hk : k = R.length) (ha : O a) (hb : O b) (h : gy_pr O ea eb R) : gy_pr O (upd ea k (nI a)) (upd eb k (nI b)) ((a, b) :: R) := by
  subst hk
  exact ⟨pk_us, pk_us, ha, hb, gy_pr_keep (Nat.le_refl _) h⟩
section
variable {f_dLim f_rLim f_fLim f_n f_stat f_err f_out f_vInt f_recs f_drf f_fsp : Int32} {a_kind a_arg a_ch a_par a_pos a_seen a_st a_ty a_tyK a_tyG a_tyA a_tyB a_u a_bg a_ux a_uy a_stk a_eqA a_eqB a_rT a_rE a_rG a_rN a_rC a_rX a_fK a_fA a_fE : Nat → Int32}
theorem gy_same_l {post : Int32 → SY → Prop} {kd : Nat → Nat} {n : Nat} {P : Nat → Prop} {Q : Prop} (hn : n ≤ 32) (hc : ∀ y, gy_o kd n P y → gy_c kd n P (a_tyK, a_tyG, a_tyA, a_tyB) y)
    (h1 : Q → ∀ ea eb, post 1 (f_dLim, f_rLim, f_fLim, f_n, f_stat, f_err, f_out, f_vInt, f_recs, f_drf, f_fsp, a_kind, a_arg, a_ch, a_par, a_pos, a_seen, a_st, a_ty, a_tyK, a_tyG, a_tyA, a_tyB, a_u, a_bg, a_ux, a_uy, a_stk, ea, eb, a_rT, a_rE, a_rG, a_rN, a_rC, a_rX, a_fK, a_fA, a_fE)) (h0 : ¬ Q → ∀ ea eb, post 0 (f_dLim, f_rLim, f_fLim, f_n, f_stat, f_err, f_out, f_vInt, f_recs, f_drf, f_fsp, a_kind, a_arg, a_ch, a_par, a_pos, a_seen, a_st, a_ty, a_tyK, a_tyG, a_tyA, a_tyB, a_u, a_bg, a_ux, a_uy, a_stk, ea, eb, a_rT, a_rE, a_rG, a_rN, a_rC, a_rX, a_fK, a_fA, a_fE)) :
    ∀ fuel S it (l : List (Nat × Nat)) (ea eb : Nat → Int32), S < fuel → it + S < 1000000 → gy_pr (gy_o kd n P) ea eb l → gs_st (gd_D (a_tyK, a_tyG, a_tyA, a_tyB)) l S → (Q ↔ gs_al (gd_D (a_tyK, a_tyG, a_tyA, a_tyB)) l) →
      wY_same_19 post f_dLim f_rLim f_fLim f_n f_stat f_err f_out f_vInt f_recs f_drf f_fsp fuel (nI l.length) (nI it) a_kind a_arg a_ch a_par a_pos a_seen a_st a_ty a_tyK a_tyG a_tyA a_tyB a_u a_bg a_ux a_uy a_stk ea eb a_rT a_rE a_rG a_rN a_rC a_rX a_fK a_fA a_fE
  | 0, _, _, _, _, _, hf, _, _, _, _ => by omega
  | fuel + 1, S, it, [], ea, eb, hf, hi, hp, hs, hq => by
    exact br_f (nI_ge (b := 1000000) (by omega) (by decide)) (br_t (by decide) (br_t rfl (h1 (hq.mpr (fun q z => by cases z)) ea eb)))
  | fuel + 1, S, it, q :: R, ea, eb, hf, hi, hp, hs, hq => by
    obtain ⟨p1, p2, p3, p4, p5⟩ := hp
    obtain ⟨s1, s2, s3⟩ := gs_st_p hs
    have x64 := gy_o_lt hn p3
    have y64 := gy_o_lt hn p4
    have ex : (nI q.1).toNatClampNeg = q.1 := nI_clamp (by omega)
    have ey : (nI q.2).toNatClampNeg = q.2 := nI_clamp (by omega)
    have vx := vp_in_nI x64 (by decide)
    have vy := vp_in_nI y64 (by decide)
    have vR := vp_in_nI (show R.length < 128 by omega) (by decide)
    have eR : (nI R.length).toNatClampNeg = R.length := nI_clamp (by omega)
    have IH : ∀ l ea' eb', gy_pr (gy_o kd n P) ea' eb' l → gs_st (gd_D (a_tyK, a_tyG, a_tyA, a_tyB)) l (S - 1) → (Q ↔ gs_al (gd_D (a_tyK, a_tyG, a_tyA, a_tyB)) l) → wY_same_19 post f_dLim f_rLim f_fLim f_n f_stat f_err f_out f_vInt f_recs f_drf f_fsp fuel (nI l.length) (nI (it + 1)) a_kind a_arg a_ch a_par a_pos a_seen a_st a_ty a_tyK a_tyG a_tyA a_tyB a_u a_bg a_ux a_uy a_stk ea' eb' a_rT a_rE a_rG a_rN a_rC a_rX a_fK a_fA a_fE :=
      fun l ea' eb' a b c => gy_same_l hn hc h1 h0 fuel (S - 1) (it + 1) l ea' eb' (by omega) (by omega) a b c
    simp only [List.length_cons]
    refine br_f (nI_ge (b := 1000000) (by omega) (by decide)) (br_f (nI_nle (by omega) (by omega)) (nm_r (pk_m1 _) ?_))
    rw [eR, p1, p2]
    refine ⟨vR, nm_e ⟨vR, nm_e (br_f (nI_pos (by omega)) (br_f (nI_nlt (b := q.1) (a := 63) (by omega) (by decide)) (br_f (nI_pos (by omega)) (br_t (nI_le (a := q.2) (b := 63) (by omega) (by decide)) ⟨vx, vy, ?_⟩))))⟩⟩
    rw [ex, ey]
    refine br_c (fun ek => ⟨vx, vy, br_c (fun eg => ⟨vx, br_c (fun k1 => ?_) (fun n1 => ?_)⟩) (fun ng => ?_)⟩) (fun nk => ?_)
    · refine nm_r (nI_1 it) (IH R ea eb p5 s3 ?_)
      rw [hq, gs_al_c]
      exact ⟨fun z => z.2, fun z => ⟨gd_iff1 (T := (a_tyK, a_tyG, a_tyA, a_tyB)) ek eg k1, z⟩⟩
    · refine br_f (nI_ge (b := 126) (by omega) (by decide)) ⟨vx, vR, ?_⟩
      obtain ⟨a, a1, a2⟩ := (hc _ p3).1 n1
      obtain ⟨b, b1, b2⟩ := (hc _ p4).1 (by show ¬ a_tyK q.2 = 1; rw [← ek]; exact n1)
      have a64 := gy_o_lt hn a1
      have b64 := gy_o_lt hn b1
      have eL : gd_L (a_tyK, a_tyG, a_tyA, a_tyB) q.1 = a := by unfold gd_L; rw [a2]; exact nI_clamp (by omega)
      have eL' : gd_L (a_tyK, a_tyG, a_tyA, a_tyB) q.2 = b := by unfold gd_L; rw [b2]; exact nI_clamp (by omega)
      have dL : gd_D (a_tyK, a_tyG, a_tyA, a_tyB) a = gt_l (gd_D (a_tyK, a_tyG, a_tyA, a_tyB) q.1) := by rw [← eL]; exact gd_l rfl n1
      dsimp only at a2 b2
      rw [a2, b2]
      refine nm_e ⟨vy, vR, nm_e (nm_r (nI_1 _) ⟨vx, br_c (fun k5 => nm_r (nI_1 it) ?_) (fun n5 => ⟨vx, vp_in_nI (by omega) (by decide), ?_⟩)⟩)⟩
      · refine IH ((a, b) :: R) _ _ (gy_pr_push rfl a1 b1 p5) (gs_st_5 hs (by exact k5) dL) ?_
        rw [hq, gs_al_c, gs_al_c]
        dsimp only
        rw [gd_iff5 (T := (a_tyK, a_tyG, a_tyA, a_tyB)) ek eg k5, eL, eL']
      · obtain ⟨a', a1', a2'⟩ := (hc _ p3).2 n1 n5
        obtain ⟨b', b1', b2'⟩ := (hc _ p4).2 (by show ¬ a_tyK q.2 = 1; rw [← ek]; exact n1) (by show ¬ a_tyK q.2 = 5; rw [← ek]; exact n5)
        have a64' := gy_o_lt hn a1'
        have b64' := gy_o_lt hn b1'
        have eR' : gd_R (a_tyK, a_tyG, a_tyA, a_tyB) q.1 = a' := by unfold gd_R; rw [a2']; exact nI_clamp (by omega)
        have eR2 : gd_R (a_tyK, a_tyG, a_tyA, a_tyB) q.2 = b' := by unfold gd_R; rw [b2']; exact nI_clamp (by omega)
        have dR : gd_D (a_tyK, a_tyG, a_tyA, a_tyB) a' = gt_r (gd_D (a_tyK, a_tyG, a_tyA, a_tyB) q.1) := by rw [← eR']; exact gd_r rfl n1 n5
        dsimp only at a2' b2'
        rw [a2', b2', nI_clamp (show R.length + 1 < 2 ^ 31 by omega)]
        refine nm_e ⟨vy, vp_in_nI (by omega) (by decide), nm_e (nm_r (nI_1 _) (nm_r (nI_1 it) ?_))⟩
        refine IH ((a', b') :: (a, b) :: R) _ _ (gy_pr_push rfl a1' b1' (gy_pr_push rfl a1 b1 p5)) (gs_st_2 hs n1 n5 dL dR) ?_
        rw [hq, gs_al_c, gs_al_c, gs_al_c]
        dsimp only
        rw [gd_iff2 (T := (a_tyK, a_tyG, a_tyA, a_tyB)) ek eg n1 n5, eL, eL', eR', eR2]
        exact ⟨fun z => ⟨z.1.2, z.1.1, z.2⟩, fun z => ⟨⟨z.2.1, z.1⟩, z.2.2⟩⟩
    · exact h0 (fun z => ng (gd_lab (T := (a_tyK, a_tyG, a_tyA, a_tyB)) (T' := (a_tyK, a_tyG, a_tyA, a_tyB)) (gs_al_c.mp (hq.mp z)).1).2) ea eb
    · exact h0 (fun z => nk (gd_lab (T := (a_tyK, a_tyG, a_tyA, a_tyB)) (T' := (a_tyK, a_tyG, a_tyA, a_tyB)) (gs_al_c.mp (hq.mp z)).1).1) ea eb
theorem gy_same {post : Int32 → SY → Prop} {kd : Nat → Nat} {n a b : Nat} {P : Nat → Prop} (hn : n ≤ 32) (hc : ∀ y, gy_o kd n P y → gy_c kd n P (a_tyK, a_tyG, a_tyA, a_tyB) y) (ha : gy_o kd n P a) (hb : gy_o kd n P b) (hfit : gs_fit 32 (gs_F 32) (gd_D (a_tyK, a_tyG, a_tyA, a_tyB) a))
    (h1 : gd_D (a_tyK, a_tyG, a_tyA, a_tyB) a = gd_D (a_tyK, a_tyG, a_tyA, a_tyB) b → ∀ ea eb, post 1 (f_dLim, f_rLim, f_fLim, f_n, f_stat, f_err, f_out, f_vInt, f_recs, f_drf, f_fsp, a_kind, a_arg, a_ch, a_par, a_pos, a_seen, a_st, a_ty, a_tyK, a_tyG, a_tyA, a_tyB, a_u, a_bg, a_ux, a_uy, a_stk, ea, eb, a_rT, a_rE, a_rG, a_rN, a_rC, a_rX, a_fK, a_fA, a_fE)) (h0 : ¬ gd_D (a_tyK, a_tyG, a_tyA, a_tyB) a = gd_D (a_tyK, a_tyG, a_tyA, a_tyB) b → ∀ ea eb, post 0 (f_dLim, f_rLim, f_fLim, f_n, f_stat, f_err, f_out, f_vInt, f_recs, f_drf, f_fsp, a_kind, a_arg, a_ch, a_par, a_pos, a_seen, a_st, a_ty, a_tyK, a_tyG, a_tyA, a_tyB, a_u, a_bg, a_ux, a_uy, a_stk, ea, eb, a_rT, a_rE, a_rG, a_rN, a_rC, a_rX, a_fK, a_fA, a_fE)) : wpY_same post (f_dLim, f_rLim, f_fLim, f_n, f_stat, f_err, f_out, f_vInt, f_recs, f_drf, f_fsp, a_kind, a_arg, a_ch, a_par, a_pos, a_seen, a_st, a_ty, a_tyK, a_tyG, a_tyA, a_tyB, a_u, a_bg, a_ux, a_uy, a_stk, a_eqA, a_eqB, a_rT, a_rE, a_rG, a_rN, a_rC, a_rX, a_fK, a_fA, a_fE) (nI a) (nI b) := by
  refine nm_e (nm_e ⟨gs_F 32 + 1, ?_⟩)
  refine gy_same_l hn hc h1 h0 (gs_F 32 + 1) (gs_F 32) 0 [(a, b)] _ _ (by omega) (by decide) ⟨pk_us, pk_us, ha, hb, trivial⟩ ⟨32, gs_F 32, by decide, Nat.le_refl _, hfit, trivial⟩ ?_
  rw [gs_al_c]
  exact ⟨fun z => ⟨z, fun q hq => by cases hq⟩, fun z => z.1⟩
end
end
section
/-- what the reference holds of the terms in P -/
def gy_TI (kd : Nat → Nat) (ag : Nat → Int32) (n : Nat) (P : Nat → Prop) (ty bg ux uy u : Nat → Int32) (T : gd_Tb) : Prop := (∀ y, gy_o kd n P y → gy_c kd n P T y) ∧ (∀ i, i < n → kd i ≤ 5 → gd_D T i = gt_t kd ag n i) ∧
  ∀ d, P d → d < n ∧ ¬ kd d ≤ 5 ∧ (∃ y, gy_o kd n P y ∧ ty d = nI y ∧ gd_D T y = gt_t kd ag n d) ∧ (∀ v, v < gp_sn kd d → u (d * 32 + v) = nI (gt_u kd ag n d (gp_sn kd d - 1 - v))) ∧
    ((kd d = 9 ∨ kd d = 12 ∨ kd d = 15 ∨ kd d = 17) → bg d = nI (gt_b kd ag n d) ∧ ux d = nI (gt_u kd ag n (gp_ch kd n d 1) (gp_sn kd d))) ∧
    (kd d = 12 → uy d = nI (gt_u kd ag n (gp_ch kd n d 1) (gp_sn kd d + 1))) ∧ (kd d = 15 → uy d = nI (gt_u kd ag n (gp_ch kd n d 2) (gp_sn kd d)))
theorem gy_o_m {kd : Nat → Nat} {n y : Nat} {P Q : Nat → Prop} (h : ∀ d, P d → Q d) (o : gy_o kd n P y) : gy_o kd n Q y := by
  rcases o with o | ⟨d, a, b, c, e⟩
  · exact Or.inl o
  · exact Or.inr ⟨d, a, h d b, c, e⟩
theorem gy_st {kd : Nat → Nat} {ag : Nat → Int32} {n t : Nat} {P : Nat → Prop} {ty bg ux uy u : Nat → Int32} {T T' : gd_Tb} (hn : n ≤ 32) (I : gy_TI kd ag n P ty bg ux uy u T) (hnP : ¬ P t)
    (hT : ∀ y, y ≠ 32 + t → T'.1 y = T.1 y ∧ T'.2.1 y = T.2.1 y ∧ T'.2.2.1 y = T.2.2.1 y ∧ T'.2.2.2 y = T.2.2.2 y) {y : Nat} (hy : gy_o kd n P y) : gd_D T' y = gd_D T y := by
  refine gd_same (gy_cl hn I.1) (fun x hx => hT x ?_) y hy
  rcases hx with hx | ⟨d, a, b, c, e⟩
  · omega
  · intro z
    have : d = t := by omega
    subst this
    exact hnP b
theorem gy_TI_add {kd : Nat → Nat} {ag : Nat → Int32} {n t : Nat} {P : Nat → Prop} {ty bg ux uy u ty' bg' ux' uy' u' : Nat → Int32} {T T' : gd_Tb} (ok : gp_ok kd n) (I : gy_TI kd ag n P ty bg ux uy u T) (ht : t < n) (htk : ¬ kd t ≤ 5) (hnP : ¬ P t)
    (hT : ∀ y, y ≠ 32 + t → T'.1 y = T.1 y ∧ T'.2.1 y = T.2.1 y ∧ T'.2.2.1 y = T.2.2.1 y ∧ T'.2.2.2 y = T.2.2.2 y) (hc : gy_c kd n (fun d => P d ∨ d = t) T' (32 + t))
    (hty : ∀ d, d ≠ t → ty' d = ty d) (hyt : ∃ y, gy_o kd n (fun d => P d ∨ d = t) y ∧ ty' t = nI y ∧ gd_D T' y = gt_t kd ag n t)
    (hu : ∀ i, (i < t * 32 ∨ t * 32 + 32 ≤ i) → u' i = u i) (hut : ∀ v, v < gp_sn kd t → u' (t * 32 + v) = nI (gt_u kd ag n t (gp_sn kd t - 1 - v)))
    (hb : ∀ d, d ≠ t → bg' d = bg d ∧ ux' d = ux d ∧ uy' d = uy d)
    (hbt : (kd t = 9 ∨ kd t = 12 ∨ kd t = 15 ∨ kd t = 17) → bg' t = nI (gt_b kd ag n t) ∧ ux' t = nI (gt_u kd ag n (gp_ch kd n t 1) (gp_sn kd t)))
    (hb12 : kd t = 12 → uy' t = nI (gt_u kd ag n (gp_ch kd n t 1) (gp_sn kd t + 1))) (hb15 : kd t = 15 → uy' t = nI (gt_u kd ag n (gp_ch kd n t 2) (gp_sn kd t))) :
    gy_TI kd ag n (fun d => P d ∨ d = t) ty' bg' ux' uy' u' T' := by
  have hn := ok.2.1
  have st := fun {y : Nat} (hy : gy_o kd n P y) => gy_st hn I hnP hT hy
  have up : ∀ {y : Nat}, gy_o kd n P y → gy_o kd n (fun d => P d ∨ d = t) y := fun o => gy_o_m (fun d hd => Or.inl hd) o
  refine ⟨fun y hy => ?_, fun i hi hk => ?_, fun d hd => ?_⟩
  · by_cases z : y = 32 + t
    · subst z; exact hc
    · have oy : gy_o kd n P y := by
        rcases hy with hy | ⟨d, a, b, c, e⟩
        · exact Or.inl hy
        · rcases b with b | b
          · exact Or.inr ⟨d, a, b, c, e⟩
          · omega
      obtain ⟨t1, t2, t3, t4⟩ := hT y z
      obtain ⟨c1, c2⟩ := I.1 y oy
      unfold gy_c
      rw [t1, t3, t4]
      refine ⟨fun n1 => ?_, fun n1 n5 => ?_⟩
      · obtain ⟨a, a1, a2⟩ := c1 n1
        exact ⟨a, up a1, a2⟩
      · obtain ⟨a, a1, a2⟩ := c2 n1 n5
        exact ⟨a, up a1, a2⟩
  · rw [st (Or.inl ⟨hi, hk⟩)]
    exact I.2.1 i hi hk
  · by_cases z : d = t
    · subst z
      exact ⟨ht, htk, hyt, hut, hbt, hb12, hb15⟩
    · have pd : P d := by rcases hd with hd | hd; exact hd; exact absurd hd z
      obtain ⟨a1, a2, ⟨y, y1, y2, y3⟩, a4, a5, a6, a7⟩ := I.2.2 d pd
      obtain ⟨b1, b2, b3⟩ := hb d z
      have sl := gp_sn_lt ok a1
      rw [hty d z, b1, b2, b3]
      exact ⟨a1, a2, ⟨y, up y1, y2, by rw [st y1]; exact y3⟩, fun v hv => by rw [hu _ (by omega)]; exact a4 v hv, a5, a6, a7⟩
section
variable {f_dLim f_rLim f_fLim f_n f_stat f_err f_out f_vInt f_recs f_drf f_fsp : Int32} {a_kind a_arg a_ch a_par a_pos a_seen a_st a_ty a_tyK a_tyG a_tyA a_tyB a_u a_bg a_ux a_uy a_stk a_eqA a_eqB a_rT a_rE a_rG a_rN a_rC a_rX a_fK a_fA a_fE : Nat → Int32}
theorem gy_ug {post : Int32 → Prop} {c v : Nat} (hc : c < 32) (hv : v < 32) (h : post (a_u (c * 32 + v))) : wpY_ug post (f_dLim, f_rLim, f_fLim, f_n, f_stat, f_err, f_out, f_vInt, f_recs, f_drf, f_fsp, a_kind, a_arg, a_ch, a_par, a_pos, a_seen, a_st, a_ty, a_tyK, a_tyG, a_tyA, a_tyB, a_u, a_bg, a_ux, a_uy, a_stk, a_eqA, a_eqB, a_rT, a_rE, a_rG, a_rN, a_rC, a_rX, a_fK, a_fA, a_fE) (nI c) (nI v) := by
  unfold wpY_ug
  try dsimp only
  rw [gx_ix, nI_clamp (show c * 32 + v < 2 ^ 31 by omega)]
  exact br_f (nI_pos (by omega)) (br_f (nI_nlt (a := 31) (by omega) (by decide)) (br_f (nI_pos (by omega)) (br_t (nI_le (b := 31) (by omega) (by decide)) ⟨vp_in_nI (by omega) (by decide), h⟩)))
theorem gy_ugm {post : Int32 → Prop} {x : Int32} (h : post 0) : wpY_ug post (f_dLim, f_rLim, f_fLim, f_n, f_stat, f_err, f_out, f_vInt, f_recs, f_drf, f_fsp, a_kind, a_arg, a_ch, a_par, a_pos, a_seen, a_st, a_ty, a_tyK, a_tyG, a_tyA, a_tyB, a_u, a_bg, a_ux, a_uy, a_stk, a_eqA, a_eqB, a_rT, a_rE, a_rG, a_rN, a_rC, a_rX, a_fK, a_fA, a_fE) (-1) x := br_t (by decide) h
theorem gy_g2 {P : Nat → Nat → Prop} (h : P 0 0 ∧ P 0 1 ∧ P 0 2 ∧ P 1 0 ∧ P 1 1 ∧ P 1 2 ∧ P 2 0 ∧ P 2 1 ∧ P 2 2) {a b : Nat} (ha : a ≤ 2) (hb : b ≤ 2) : P a b := by
  obtain ⟨h0, h1, h2, h3, h4, h5, h6, h7, h8⟩ := h
  have e1 : a = 0 ∨ a = 1 ∨ a = 2 := by omega
  have e2 : b = 0 ∨ b = 1 ∨ b = 2 := by omega
  rcases e1 with e | e | e <;> rcases e2 with f | f | f <;> subst e <;> subst f <;> assumption
theorem gy_mul {post : Int32 → Prop} {a b : Nat} (ha : a ≤ 2) (hb : b ≤ 2) (h : post (nI (gt_mul a b))) : wpY_mul post (f_dLim, f_rLim, f_fLim, f_n, f_stat, f_err, f_out, f_vInt, f_recs, f_drf, f_fsp, a_kind, a_arg, a_ch, a_par, a_pos, a_seen, a_st, a_ty, a_tyK, a_tyG, a_tyA, a_tyB, a_u, a_bg, a_ux, a_uy, a_stk, a_eqA, a_eqB, a_rT, a_rE, a_rG, a_rN, a_rC, a_rX, a_fK, a_fA, a_fE) (nI a) (nI b) := by
  revert h
  refine gy_g2 (P := fun a b => post (nI (gt_mul a b)) → wpY_mul post (f_dLim, f_rLim, f_fLim, f_n, f_stat, f_err, f_out, f_vInt, f_recs, f_drf, f_fsp, a_kind, a_arg, a_ch, a_par, a_pos, a_seen, a_st, a_ty, a_tyK, a_tyG, a_tyA, a_tyB, a_u, a_bg, a_ux, a_uy, a_stk, a_eqA, a_eqB, a_rT, a_rE, a_rG, a_rN, a_rC, a_rX, a_fK, a_fA, a_fE) (nI a) (nI b)) ?_ ha hb
  refine ⟨?_, ?_, ?_, ?_, ?_, ?_, ?_, ?_, ?_⟩ <;> (intro h; unfold wpY_mul; try dsimp only; repeat (first | exact h | exact br_t (by decide) h | refine br_f (by decide) ?_))
theorem gy_add {post : Int32 → Prop} {a b : Nat} (ha : a ≤ 2) (hb : b ≤ 2) (h : post (nI (gt_add a b))) : wpY_add post (f_dLim, f_rLim, f_fLim, f_n, f_stat, f_err, f_out, f_vInt, f_recs, f_drf, f_fsp, a_kind, a_arg, a_ch, a_par, a_pos, a_seen, a_st, a_ty, a_tyK, a_tyG, a_tyA, a_tyB, a_u, a_bg, a_ux, a_uy, a_stk, a_eqA, a_eqB, a_rT, a_rE, a_rG, a_rN, a_rC, a_rX, a_fK, a_fA, a_fE) (nI a) (nI b) := by
  revert h
  refine gy_g2 (P := fun a b => post (nI (gt_add a b)) → wpY_add post (f_dLim, f_rLim, f_fLim, f_n, f_stat, f_err, f_out, f_vInt, f_recs, f_drf, f_fsp, a_kind, a_arg, a_ch, a_par, a_pos, a_seen, a_st, a_ty, a_tyK, a_tyG, a_tyA, a_tyB, a_u, a_bg, a_ux, a_uy, a_stk, a_eqA, a_eqB, a_rT, a_rE, a_rG, a_rN, a_rC, a_rX, a_fK, a_fA, a_fE) (nI a) (nI b)) ?_ ha hb
  refine ⟨?_, ?_, ?_, ?_, ?_, ?_, ?_, ?_, ?_⟩ <;> (intro h; unfold wpY_add; try dsimp only; repeat (first | exact h | exact br_t (by decide) h | refine br_f (by decide) ?_))
theorem gy_join {post : Int32 → Prop} {a b : Nat} (ha : a ≤ 2) (hb : b ≤ 2) (h : post (nI (gt_max a b))) : wpY_join post (f_dLim, f_rLim, f_fLim, f_n, f_stat, f_err, f_out, f_vInt, f_recs, f_drf, f_fsp, a_kind, a_arg, a_ch, a_par, a_pos, a_seen, a_st, a_ty, a_tyK, a_tyG, a_tyA, a_tyB, a_u, a_bg, a_ux, a_uy, a_stk, a_eqA, a_eqB, a_rT, a_rE, a_rG, a_rN, a_rC, a_rX, a_fK, a_fA, a_fE) (nI a) (nI b) := by
  revert h
  refine gy_g2 (P := fun a b => post (nI (gt_max a b)) → wpY_join post (f_dLim, f_rLim, f_fLim, f_n, f_stat, f_err, f_out, f_vInt, f_recs, f_drf, f_fsp, a_kind, a_arg, a_ch, a_par, a_pos, a_seen, a_st, a_ty, a_tyK, a_tyG, a_tyA, a_tyB, a_u, a_bg, a_ux, a_uy, a_stk, a_eqA, a_eqB, a_rT, a_rE, a_rG, a_rN, a_rC, a_rX, a_fK, a_fA, a_fE) (nI a) (nI b)) ?_ ha hb
  refine ⟨?_, ?_, ?_, ?_, ?_, ?_, ?_, ?_, ?_⟩ <;> (intro h; unfold wpY_join; try dsimp only; repeat (first | exact h | exact br_t (by decide) h | refine br_f (by decide) ?_))
def gy_cf (m g : Nat) (pa pb : Nat → Nat) (v : Nat) : Nat := if m = 0 then gt_add (gt_mul g (pa v)) (pb v) else gt_max (gt_mul g (pa v)) (pb v)
theorem gy_cb_l {post : SY → Prop} {t s g m : Nat} {A sa B sb : Int32} {us : Nat → Int32} {pa pb : Nat → Nat} (ht : t < 32) (hs : s < 32) (hV : a_seen t = nI s) (hg : g ≤ 2) (hm : m ≤ 1) (hpa : ∀ v, v < s → pa v ≤ 2) (hpb : ∀ v, v < s → pb v ≤ 2)
    (rA : ∀ v, v < s → ∀ post' : Int32 → Prop, post' (nI (pa v)) → wpY_ug post' (f_dLim, f_rLim, f_fLim, f_n, f_stat, f_err, f_out, f_vInt, f_recs, f_drf, f_fsp, a_kind, a_arg, a_ch, a_par, a_pos, a_seen, a_st, a_ty, a_tyK, a_tyG, a_tyA, a_tyB, gx_row us t v (gy_cf m g pa pb), a_bg, a_ux, a_uy, a_stk, a_eqA, a_eqB, a_rT, a_rE, a_rG, a_rN, a_rC, a_rX, a_fK, a_fA, a_fE) A (nI v + sa))
    (rB : ∀ v, v < s → ∀ post' : Int32 → Prop, post' (nI (pb v)) → wpY_ug post' (f_dLim, f_rLim, f_fLim, f_n, f_stat, f_err, f_out, f_vInt, f_recs, f_drf, f_fsp, a_kind, a_arg, a_ch, a_par, a_pos, a_seen, a_st, a_ty, a_tyK, a_tyG, a_tyA, a_tyB, gx_row us t v (gy_cf m g pa pb), a_bg, a_ux, a_uy, a_stk, a_eqA, a_eqB, a_rT, a_rE, a_rG, a_rN, a_rC, a_rX, a_fK, a_fA, a_fE) B (nI v + sb))
    (h : post (f_dLim, f_rLim, f_fLim, f_n, f_stat, f_err, f_out, f_vInt, f_recs, f_drf, f_fsp, a_kind, a_arg, a_ch, a_par, a_pos, a_seen, a_st, a_ty, a_tyK, a_tyG, a_tyA, a_tyB, gx_row us t s (gy_cf m g pa pb), a_bg, a_ux, a_uy, a_stk, a_eqA, a_eqB, a_rT, a_rE, a_rG, a_rN, a_rC, a_rX, a_fK, a_fA, a_fE)) :
    ∀ d v fuel, v + d = s → d < fuel → wY_comb_3 post (nI t) A sa (nI g) B sb (nI m) f_dLim f_rLim f_fLim f_n f_stat f_err f_out f_vInt f_recs f_drf f_fsp fuel (nI v) a_kind a_arg a_ch a_par a_pos a_seen a_st a_ty a_tyK a_tyG a_tyA a_tyB (gx_row us t v (gy_cf m g pa pb)) a_bg a_ux a_uy a_stk a_eqA a_eqB a_rT a_rE a_rG a_rN a_rC a_rX a_fK a_fA a_fE
  | _, _, 0, _, hf => by omega
  | 0, v, fuel + 1, hv, hf => by
    have e : v = s := by omega
    subst e
    refine ⟨vp_in_nI ht (by decide), ?_⟩
    rw [nI_clamp (show t < 2 ^ 31 by omega), hV]
    exact br_t (nI_le (Nat.le_refl _) (by omega)) h
  | d + 1, v, fuel + 1, hv, hf => by
    refine ⟨vp_in_nI ht (by decide), ?_⟩
    rw [nI_clamp (show t < 2 ^ 31 by omega), hV]
    have IH := gy_cb_l ht hs hV hg hm hpa hpb rA rB h d (v + 1) fuel (by omega) (by omega)
    refine br_f (nI_ge (by omega) (by omega)) (br_f (nI_ge (b := 32) (by omega) (by decide)) (rA v (by omega) _ (gy_mul hg (hpa v (by omega)) (rB v (by omega) _ ?_))))
    have fin : ∀ r, r = nI (gy_cf m g pa pb v) → vp_in ((nI t * 32) + nI v) 1024 ∧ ∀ y, y = upd (gx_row us t v (gy_cf m g pa pb)) ((nI t * 32) + nI v).toNatClampNeg r → ∀ z, z = nI v + 1 → wY_comb_3 post (nI t) A sa (nI g) B sb (nI m) f_dLim f_rLim f_fLim f_n f_stat f_err f_out f_vInt f_recs f_drf f_fsp fuel z a_kind a_arg a_ch a_par a_pos a_seen a_st a_ty a_tyK a_tyG a_tyA a_tyB y a_bg a_ux a_uy a_stk a_eqA a_eqB a_rT a_rE a_rG a_rN a_rC a_rX a_fK a_fA a_fE := by
      intro r er
      rw [gx_ix, nI_clamp (show t * 32 + v < 2 ^ 31 by omega), er]
      exact ⟨vp_in_nI (by omega) (by decide), nm_r (gx_row_s us t v (gy_cf m g pa pb)) (nm_r (nI_1 v) IH)⟩
    refine pk_eq m 0 (fun z => ?_) (fun z => ?_)
    · exact gy_add (gt_mul_le _ _) (hpb v (by omega)) (fin _ (by unfold gy_cf; rw [if_pos z]))
    · exact gy_join (gt_mul_le _ _) (hpb v (by omega)) (fin _ (by unfold gy_cf; rw [if_neg z]))
theorem gy_cb {post : SY → Prop} {t s g m : Nat} {A sa B sb : Int32} {pa pb : Nat → Nat} (ht : t < 32) (hs : s < 32) (hV : a_seen t = nI s) (hg : g ≤ 2) (hm : m ≤ 1) (hpa : ∀ v, v < s → pa v ≤ 2) (hpb : ∀ v, v < s → pb v ≤ 2)
    (rA : ∀ v, v < s → ∀ post' : Int32 → Prop, post' (nI (pa v)) → wpY_ug post' (f_dLim, f_rLim, f_fLim, f_n, f_stat, f_err, f_out, f_vInt, f_recs, f_drf, f_fsp, a_kind, a_arg, a_ch, a_par, a_pos, a_seen, a_st, a_ty, a_tyK, a_tyG, a_tyA, a_tyB, gx_row a_u t v (gy_cf m g pa pb), a_bg, a_ux, a_uy, a_stk, a_eqA, a_eqB, a_rT, a_rE, a_rG, a_rN, a_rC, a_rX, a_fK, a_fA, a_fE) A (nI v + sa))
    (rB : ∀ v, v < s → ∀ post' : Int32 → Prop, post' (nI (pb v)) → wpY_ug post' (f_dLim, f_rLim, f_fLim, f_n, f_stat, f_err, f_out, f_vInt, f_recs, f_drf, f_fsp, a_kind, a_arg, a_ch, a_par, a_pos, a_seen, a_st, a_ty, a_tyK, a_tyG, a_tyA, a_tyB, gx_row a_u t v (gy_cf m g pa pb), a_bg, a_ux, a_uy, a_stk, a_eqA, a_eqB, a_rT, a_rE, a_rG, a_rN, a_rC, a_rX, a_fK, a_fA, a_fE) B (nI v + sb))
    (h : post (f_dLim, f_rLim, f_fLim, f_n, f_stat, f_err, f_out, f_vInt, f_recs, f_drf, f_fsp, a_kind, a_arg, a_ch, a_par, a_pos, a_seen, a_st, a_ty, a_tyK, a_tyG, a_tyA, a_tyB, gx_row a_u t s (gy_cf m g pa pb), a_bg, a_ux, a_uy, a_stk, a_eqA, a_eqB, a_rT, a_rE, a_rG, a_rN, a_rC, a_rX, a_fK, a_fA, a_fE)) : wpY_comb post (f_dLim, f_rLim, f_fLim, f_n, f_stat, f_err, f_out, f_vInt, f_recs, f_drf, f_fsp, a_kind, a_arg, a_ch, a_par, a_pos, a_seen, a_st, a_ty, a_tyK, a_tyG, a_tyA, a_tyB, a_u, a_bg, a_ux, a_uy, a_stk, a_eqA, a_eqB, a_rT, a_rE, a_rG, a_rN, a_rC, a_rX, a_fK, a_fA, a_fE) (nI t) A sa (nI g) B sb (nI m) := by
  have := gy_cb_l ht hs hV hg hm hpa hpb rA rB h s 0 (s + 1) (by omega) (by omega)
  rw [gx_row_0] at this
  exact ⟨s + 1, this⟩
/-- a reader over another row -/
theorem gy_rd {t c s b : Nat} {F p : Nat → Nat} {us : Nat → Int32} (hc : c < 32) (hne : c ≠ t) (hs : s + b ≤ 32) (hp : ∀ v, v < s → us (c * 32 + (v + b)) = nI (p v)) :
    ∀ v, v < s → ∀ post' : Int32 → Prop, post' (nI (p v)) → wpY_ug post' (f_dLim, f_rLim, f_fLim, f_n, f_stat, f_err, f_out, f_vInt, f_recs, f_drf, f_fsp, a_kind, a_arg, a_ch, a_par, a_pos, a_seen, a_st, a_ty, a_tyK, a_tyG, a_tyA, a_tyB, gx_row us t v F, a_bg, a_ux, a_uy, a_stk, a_eqA, a_eqB, a_rT, a_rE, a_rG, a_rN, a_rC, a_rX, a_fK, a_fA, a_fE) (nI c) (nI v + nI b) := by
  intro v hv post' h
  rw [nI_add]
  refine gy_ug hc (by omega) ?_
  rw [gx_row_o (by omega) (by omega) hne, hp v hv]
  exact h
theorem gy_rd0 {t s : Nat} {F : Nat → Nat} {us : Nat → Int32} {x : Int32} : ∀ v, v < s → ∀ post' : Int32 → Prop, post' (nI 0) → wpY_ug post' (f_dLim, f_rLim, f_fLim, f_n, f_stat, f_err, f_out, f_vInt, f_recs, f_drf, f_fsp, a_kind, a_arg, a_ch, a_par, a_pos, a_seen, a_st, a_ty, a_tyK, a_tyG, a_tyA, a_tyB, gx_row us t v F, a_bg, a_ux, a_uy, a_stk, a_eqA, a_eqB, a_rT, a_rE, a_rG, a_rN, a_rC, a_rX, a_fK, a_fA, a_fE) (-1) (nI v + x) := fun v hv post' h => gy_ugm h
end
end
section
/-- the binders of the variables that node t sees are known -/
def gy_HB (kd : Nat → Nat) (ag : Nat → Int32) (n : Nat) (P : Nat → Prop) (t : Nat) : Prop := ∀ v, v < gp_sn kd t → (kd (gp_lc kd t v).1 ≠ 9 → P (gp_ch kd n (gp_lc kd t v).1 0)) ∧ gt_e1 kd ag n (gp_lc kd t v).1 = 0
theorem gy_HB_ch {kd : Nat → Nat} {ag : Nat → Int32} {n t j : Nat} {P Q : Nat → Prop} (ok : gp_ok kd n) (ht : t < n) (hj : j < gp_ar (kd t)) (hPQ : ∀ d, P d → Q d) (h : gy_HB kd ag n P t) (h0 : 0 < j → (kd t ≠ 9 → Q (gp_ch kd n t 0)) ∧ gt_e1 kd ag n t = 0) : gy_HB kd ag n Q (gp_ch kd n t j) := by
  intro v hv
  rw [gp_sn_ch ok ht hj] at hv
  rcases Nat.lt_or_ge v (gp_sn kd t) with z | z
  · rw [gp_lc_up ok ht hj z]
    exact ⟨fun y => hPQ _ ((h v z).1 y), (h v z).2⟩
  · rw [gp_lc_new ok ht hj z]
    refine h0 ?_
    rcases Nat.eq_zero_or_pos j with y | y
    · rw [y, gp_bd_0] at hv; omega
    · exact y
theorem gy_HB_up {kd : Nat → Nat} {ag : Nat → Int32} {n t j : Nat} {P : Nat → Prop} (ok : gp_ok kd n) (ht : t < n) (hj : j < gp_ar (kd t)) (h : gy_HB kd ag n P (gp_ch kd n t j)) : gy_HB kd ag n P t := by
  intro v hv
  have := h v (by rw [gp_sn_ch ok ht hj]; omega)
  rw [gp_lc_up ok ht hj hv] at this
  exact this
section
variable {f_dLim f_rLim f_fLim f_n f_stat f_err f_out f_vInt f_recs f_drf f_fsp : Int32} {a_kind a_arg a_ch a_par a_pos a_seen a_st a_ty a_tyK a_tyG a_tyA a_tyB a_u a_bg a_ux a_uy a_stk a_eqA a_eqB a_rT a_rE a_rG a_rN a_rC a_rX a_fK a_fA a_fE : Nat → Int32}
theorem gy_vt_l {post : Int32 → Prop} {kd : Nat → Nat} {ag : Nat → Int32} {n : Nat} {P : Nat → Prop} (A : gt_P kd ag n) (S : gy_S kd n a_kind a_ch a_par a_pos a_seen) (I : gy_TI kd ag n P a_ty a_bg a_ux a_uy a_u (a_tyK, a_tyG, a_tyA, a_tyB)) :
    ∀ fuel x cnt s, x < fuel → x < n → cnt < gp_sn kd x → s + x ≤ 32 → gy_HB kd ag n P x → (∀ y, gy_o kd n P y → gd_D (a_tyK, a_tyG, a_tyA, a_tyB) y = gt_G kd ag n x (gp_sn kd x - 1 - cnt) → post (nI y)) → wY_varType_8 post f_dLim f_rLim f_fLim f_n f_stat f_err f_out f_vInt f_recs f_drf f_fsp a_kind a_arg a_ch a_par a_pos a_seen a_st a_ty a_tyK a_tyG a_tyA a_tyB a_u a_bg a_ux a_uy a_stk a_eqA a_eqB a_rT a_rE a_rG a_rN a_rC a_rX a_fK a_fA a_fE fuel (nI x) (nI cnt) (nI s)
  | 0, _, _, _, hf, _, _, _, _, _ => by omega
  | fuel + 1, x, cnt, s, hf, hx, hc, hs, hB, h => by
    have hA := A
    obtain ⟨ok, so, kr, -⟩ := A
    have hn := ok.2.1
    have x0 : 0 < x := by
      rcases Nat.eq_zero_or_pos x with z | z
      · rw [z, gp_sn_0] at hc; omega
      · exact z
    obtain ⟨p1, p2⟩ := gp_pl_in ok hx x0
    have cx := gp_ch_of ok hx x0
    have sx := gp_sn_p ok hx x0
    obtain ⟨r1, r2⟩ := S.2.2.1 x x0 hx
    generalize hp : gp_pl kd x / 3 = p at *
    generalize hj : gp_pl kd x % 3 = j at *
    have hpn : p < n := by omega
    have a3 := gp_ar_le (kd p)
    have vx := vp_in_nI (show x < 32 by omega) (by decide)
    have vp := vp_in_nI (show p < 32 by omega) (by decide)
    have ep : (nI p).toNatClampNeg = p := nI_clamp (by omega)
    have ex : (nI x).toNatClampNeg = x := nI_clamp (by omega)
    have b2 := gp_bd_le (kd p) j
    have sl := gp_sn_lt ok hx
    refine br_f (nI_ge (b := 33) (by omega) (by decide)) ⟨vx, nm_r (by rw [ex]; exact r1) (br_t (nI_pos' (by omega)) ⟨vp, vx, ?_⟩)⟩
    rw [ep, ex, S.1 p hpn, r2]
    refine gy_bd (kr p hpn).1 (kr p hpn).2 p2 (pk_le (gp_bd (kd p) j) cnt (fun z => ?_) (fun z => ?_))
    · refine nm_r (pk_sub z) (nm_r (nI_1 s) ?_)
      refine gy_vt_l hA S I fuel p (cnt - gp_bd (kd p) j) (s + 1) (by omega) hpn (by omega) (by omega) (gy_HB_up ok hpn p2 (by rw [← cx]; exact hB)) (fun y hy hD => h y hy ?_)
      rw [hD, cx, gt_G_up ok hpn p2 (by rw [gp_sn_ch ok hpn p2]; omega), gp_sn_ch ok hpn p2]
      exact congrArg _ (by omega)
    · have j0 : 0 < j := by
        rcases Nat.eq_zero_or_pos j with y | y
        · rw [y, gp_bd_0] at z; omega
        · exact y
      have hG : gt_G kd ag n x (gp_sn kd x - 1 - cnt) = gt_nv (kd p) j (gp_bd (kd p) j - 1 - cnt) (gt_t kd ag n (gp_ch kd n p 0)) := by
        have := gt_G_new (ag := ag) ok hpn p2 (v := gp_sn kd x - 1 - cnt) (by omega)
        rw [← cx] at this
        rw [this]
        exact congrArg (fun w => gt_nv (kd p) j w _) (by omega)
      have hb := hB (gp_sn kd x - 1 - cnt) (by omega)
      have lc := gp_lc_new ok hpn p2 (v := gp_sn kd x - 1 - cnt) (by omega)
      rw [← cx] at lc
      rw [lc] at hb
      dsimp only at hb
      obtain ⟨hb1, hb2⟩ := hb
      have x1 := gt_e1_0 hb2
      have ar0 : 0 < gp_ar (kd p) := by omega
      have ch0 := S.2.2.2.1 p hpn 0 ar0
      rw [Nat.add_zero] at ch0
      have e3 : nI p * 3 = nI (3 * p) := by rw [show (nI p * 3 : Int32) = nI (p * 3) from pk_mul p 3, Nat.mul_comm]
      have c0 := (gp_ch_lt ok hpn ar0).1
      have v3 := vp_in_nI (show 3 * p < 96 by omega) (by decide)
      have kb : kd p = 9 ∨ kd p = 12 ∨ kd p = 15 ∨ kd p = 17 := by
        unfold gp_bd at z
        rw [if_neg (by omega)] at z
        by_cases y : kd p = 12
        · omega
        · rw [if_neg y] at z
          by_cases w : kd p = 9 ∨ kd p = 15 ∨ kd p = 17
          · omega
          · rw [if_neg w] at z; omega
      rw [e3, nI_clamp (show 3 * p < 2 ^ 31 by omega), ch0]
      refine ⟨vp, nm_e (pk_eq (kd p) 9 (fun k9 => ⟨v3, ?_⟩) (fun k9 => ⟨v3, vp_in_nI (by omega) (by decide), ?_⟩))⟩
      · refine h _ (Or.inl ⟨c0, gp_ty_c0 ok so hpn (Or.inl k9)⟩) ?_
        rw [hG, k9, I.2.1 _ c0 (gp_ty_c0 ok so hpn (Or.inl k9))]
        rfl
      · obtain ⟨_, _, ⟨y, y1, y2, y3⟩, _⟩ := I.2.2 _ (hb1 k9)
        have y64 := gy_o_lt hn y1
        have vy := vp_in_nI y64 (by decide)
        have ky := (gd_k y3).1
        dsimp only at ky
        have n1 : ¬ a_tyK y = 1 := by
          rw [ky]
          rcases kb with e | e | e | e
          · exact absurd e k9
          · rw [x1.1 e]; decide
          · rw [x1.2.1 e]; decide
          · rw [x1.2.2 e]; decide
        obtain ⟨a, a1, a2⟩ := (I.1 y y1).1 n1
        have a64 := gy_o_lt hn a1
        have eL : gd_L (a_tyK, a_tyG, a_tyA, a_tyB) y = a := by unfold gd_L; rw [a2]; exact nI_clamp (by omega)
        have dL : gd_D (a_tyK, a_tyG, a_tyA, a_tyB) a = gt_l (gt_t kd ag n (gp_ch kd n p 0)) := by rw [← eL]; exact gd_l y3 n1
        dsimp only at a2
        rw [nI_clamp (show gp_ch kd n p 0 < 2 ^ 31 by omega), y2]
        refine nm_e ?_
        rw [nI_clamp (show y < 2 ^ 31 by omega), a2]
        have right : ¬ gt_k (gt_t kd ag n (gp_ch kd n p 0)) = 5 → ∃ b, gy_o kd n P b ∧ a_tyB y = nI b ∧ gd_D (a_tyK, a_tyG, a_tyA, a_tyB) b = gt_r (gt_t kd ag n (gp_ch kd n p 0)) := by
          intro n5
          have n5' : ¬ a_tyK y = 5 := by rw [ky]; exact n5
          obtain ⟨b, b1, b2⟩ := (I.1 y y1).2 n1 n5'
          have b64 := gy_o_lt hn b1
          have eR : gd_R (a_tyK, a_tyG, a_tyA, a_tyB) y = b := by unfold gd_R; rw [b2]; exact nI_clamp (by omega)
          exact ⟨b, b1, b2, by rw [← eR]; exact gd_r y3 n1 n5'⟩
        refine pk_eq (kd p) 12 (fun k12 => ?_) (fun k12 => pk_eq (kd p) 15 (fun k15 => ⟨vx, ?_⟩) (fun k15 => ⟨vy, ?_⟩))
        · have bd : gp_bd (kd p) j = 2 := by unfold gp_bd; rw [if_neg (by omega), if_pos k12]
          refine pk_eq cnt 0 (fun c0 => ⟨vy, ?_⟩) (fun c0 => ⟨vy, ?_⟩)
          · obtain ⟨b, b1, b2, b3⟩ := right (by rw [x1.1 k12]; decide)
            rw [b2]
            refine h b b1 ?_
            rw [hG, bd, c0, k12, b3]
            rfl
          · refine h a a1 ?_
            rw [hG, bd, k12, show 2 - 1 - cnt = 0 by omega, dL]
            rfl
        · refine pk_eq j 1 (fun j1 => ⟨vy, ?_⟩) (fun j1 => ⟨vy, ?_⟩)
          · refine h a a1 ?_
            rw [hG, k15, j1, dL]
            rfl
          · obtain ⟨b, b1, b2, b3⟩ := right (by rw [x1.2.1 k15]; decide)
            rw [b2]
            refine h b b1 ?_
            rw [hG, k15, b3]
            show _ = (if j = 1 then _ else _)
            rw [if_neg j1]
        · refine h a a1 ?_
          have k17 : kd p = 17 := by omega
          rw [hG, k17, dL]
          rfl
theorem gy_vt {post : Int32 → Prop} {kd : Nat → Nat} {ag : Nat → Int32} {n t i : Nat} {P : Nat → Prop} (A : gt_P kd ag n) (S : gy_S kd n a_kind a_ch a_par a_pos a_seen) (I : gy_TI kd ag n P a_ty a_bg a_ux a_uy a_u (a_tyK, a_tyG, a_tyA, a_tyB)) (ht : t < n) (hi : i < gp_sn kd t) (hB : gy_HB kd ag n P t)
    (h : ∀ y, gy_o kd n P y → gd_D (a_tyK, a_tyG, a_tyA, a_tyB) y = gt_G kd ag n t (gp_sn kd t - 1 - i) → post (nI y)) : wpY_varType post (f_dLim, f_rLim, f_fLim, f_n, f_stat, f_err, f_out, f_vInt, f_recs, f_drf, f_fsp, a_kind, a_arg, a_ch, a_par, a_pos, a_seen, a_st, a_ty, a_tyK, a_tyG, a_tyA, a_tyB, a_u, a_bg, a_ux, a_uy, a_stk, a_eqA, a_eqB, a_rT, a_rE, a_rG, a_rN, a_rC, a_rX, a_fK, a_fA, a_fE) (nI t) (nI i) :=
  ⟨t + 1, gy_vt_l A S I (t + 1) t i 0 (by omega) ht hi (by have := A.1.2.1; omega) hB h⟩
end
end
section
theorem gy_cu {kd : Nat → Nat} {ag : Nat → Int32} {n t j : Nat} {P : Nat → Prop} {ty bg ux uy u : Nat → Int32} {T : gd_Tb} (A : gt_P kd ag n) (I : gy_TI kd ag n P ty bg ux uy u T) (ht : t < n) (hj : j < gp_ar (kd t)) (hc : P (gp_ch kd n t j)) (hk : ¬ kd (gp_ch kd n t j) ≤ 5) :
    (∀ v, v < gp_sn kd t → u (gp_ch kd n t j * 32 + (v + gp_bd (kd t) j)) = nI (gt_u kd ag n (gp_ch kd n t j) (gp_sn kd t - 1 - v)) ∧ gt_u kd ag n (gp_ch kd n t j) (gp_sn kd t - 1 - v) ≤ 2) ∧
    (∀ w, w < gp_bd (kd t) j → u (gp_ch kd n t j * 32 + w) = nI (gt_u kd ag n (gp_ch kd n t j) (gp_sn kd t + gp_bd (kd t) j - 1 - w))) := by
  have ok := A.1
  have s := gp_sn_ch ok ht hj
  have r := (I.2.2 _ hc).2.2.2.1
  refine ⟨fun v hv => ⟨?_, gt_ule A (gp_ch_lt ok ht hj).1 hk _⟩, fun w hw => ?_⟩
  · rw [r _ (by omega), s]
    exact congrArg (fun x => nI (gt_u kd ag n (gp_ch kd n t j) x)) (by omega)
  · rw [r _ (by omega), s]
theorem gy_K1 {kd : Nat → Nat} {n t : Nat} {P : Nat → Prop} {T : gd_Tb} (h : T.1 (32 + t) = 1) : gy_c kd n P T (32 + t) := ⟨fun z => absurd h z, fun z => absurd h z⟩
theorem gy_o_t {kd : Nat → Nat} {n t : Nat} {P : Nat → Prop} (ht : t < n) (hk : ¬ kd t ≤ 5) : gy_o kd n (fun d => P d ∨ d = t) (32 + t) := Or.inr ⟨t, ht, Or.inr rfl, hk, rfl⟩
theorem gy_o_p {kd : Nat → Nat} {n t y : Nat} {P : Nat → Prop} (h : gy_o kd n P y) : gy_o kd n (fun d => P d ∨ d = t) y := gy_o_m (fun _ hd => Or.inl hd) h
section
variable {f_dLim f_rLim f_fLim f_n f_stat f_err f_out f_vInt f_recs f_drf f_fsp : Int32} {a_kind a_arg a_ch a_par a_pos a_seen a_st a_ty a_tyK a_tyG a_tyA a_tyB a_u a_bg a_ux a_uy a_stk a_eqA a_eqB a_rT a_rE a_rG a_rN a_rC a_rX a_fK a_fA a_fE : Nat → Int32}
theorem gy_fVar {post : Int32 → SY → Prop} {kd : Nat → Nat} {n t fuel : Nat} {P : Nat → Prop} {x4 x5 x6 : Int32} (A : gt_P kd a_arg n) (S : gy_S kd n a_kind a_ch a_par a_pos a_seen) (I : gy_TI kd a_arg n P a_ty a_bg a_ux a_uy a_u (a_tyK, a_tyG, a_tyA, a_tyB)) (ht : t < n) (hc : ∀ j, j < gp_ar (kd t) → ¬ kd (gp_ch kd n t j) ≤ 5 → P (gp_ch kd n t j)) (hnP : ¬ P t) (hK1 : a_tyK (32 + t) = 1) (hG0 : a_tyG (32 + t) = 0) (ety : a_ty t = nI (32 + t)) (eu : ∀ v, v < 32 → a_u (t * 32 + v) = 0) (hk : kd t = 6) (hB : gy_HB kd a_arg n P t) (hOK : gt_e2 kd a_arg n t = 0 → ∀ ty bg ux uy u tK tG tA tB ea eb, gy_TI kd a_arg n (fun d => P d ∨ d = t) ty bg ux uy u (tK, tG, tA, tB) → post 1 (f_dLim, f_rLim, f_fLim, f_n, f_stat, f_err, f_out, f_vInt, f_recs, f_drf, f_fsp, a_kind, a_arg, a_ch, a_par, a_pos, a_seen, a_st, ty, tK, tG, tA, tB, u, bg, ux, uy, a_stk, ea, eb, a_rT, a_rE, a_rG, a_rN, a_rC, a_rX, a_fK, a_fA, a_fE)) : wY_finish_97 post (nI t) (nI 6) (a_arg t) x4 x5 x6 (nI (32 + t)) f_dLim f_rLim f_fLim f_n f_stat f_err f_out f_vInt f_recs f_drf f_fsp (fuel + 1) (nI 32) a_kind a_arg a_ch a_par a_pos a_seen a_st a_ty a_tyK a_tyG a_tyA a_tyB a_u a_bg a_ux a_uy a_stk a_eqA a_eqB a_rT a_rE a_rG a_rN a_rC a_rX a_fK a_fA a_fE := by
  have hA := A
  obtain ⟨ok, so, kr, sc, -⟩ := A
  have hn := ok.2.1
  have t32 : t < 32 := by omega
  have v := vp_in_nI t32 (by decide)
  have et : (nI t).toNatClampNeg = t := nI_clamp (by omega)
  have sl := gp_sn_lt ok ht
  obtain ⟨i, hi, ei⟩ := sc t ht hk
  have lv : gt_lv kd a_arg t = gp_sn kd t - 1 - i := by unfold gt_lv; rw [ei, nI_clamp (by omega)]
  refine br_t (by decide) (br_t (by decide) ?_)
  rw [ei]
  refine gy_vt hA S I ht hi hB (fun y hy hD => ⟨v, ?_⟩)
  rw [et, gx_ix, nI_clamp (show t * 32 + i < 2 ^ 31 by omega)]
  refine nm_e ⟨vp_in_nI (by omega) (by decide), nm_e (hOK (gt_e2_z (by omega)) _ _ _ _ _ _ _ _ _ _ _ (gy_TI_add ok I ht (by omega) hnP (fun _ _ => ⟨rfl, rfl, rfl, rfl⟩) (gy_K1 hK1) (fun d hd => pk_un hd) ⟨y, gy_o_p hy, pk_us, ?_⟩ (fun j hj => pk_un (by omega)) (fun w hw => ?_) (fun _ _ => ⟨rfl, rfl, rfl⟩) (fun z => by omega) (fun z => by omega) (fun z => by omega)))⟩
  · rw [hD, gt_t6 ok ht hk (gt_P_lv hA ht hk), lv]
  · rw [gt_u6 ok ht hk (gt_P_lv hA ht hk), lv]
    by_cases z : w = i
    · rw [z, pk_us, if_pos rfl]; rfl
    · rw [pk_un (by omega), if_neg (by omega)]
      exact eu w (by omega)
theorem gy_fLit {post : Int32 → SY → Prop} {kd : Nat → Nat} {n t fuel : Nat} {P : Nat → Prop} {x3 x4 x5 x6 : Int32} (A : gt_P kd a_arg n) (S : gy_S kd n a_kind a_ch a_par a_pos a_seen) (I : gy_TI kd a_arg n P a_ty a_bg a_ux a_uy a_u (a_tyK, a_tyG, a_tyA, a_tyB)) (ht : t < n) (hc : ∀ j, j < gp_ar (kd t) → ¬ kd (gp_ch kd n t j) ≤ 5 → P (gp_ch kd n t j)) (hnP : ¬ P t) (hK1 : a_tyK (32 + t) = 1) (hG0 : a_tyG (32 + t) = 0) (ety : a_ty t = nI (32 + t)) (eu : ∀ v, v < 32 → a_u (t * 32 + v) = 0) (hk : kd t = 7) (hOK : gt_e2 kd a_arg n t = 0 → ∀ ty bg ux uy u tK tG tA tB ea eb, gy_TI kd a_arg n (fun d => P d ∨ d = t) ty bg ux uy u (tK, tG, tA, tB) → post 1 (f_dLim, f_rLim, f_fLim, f_n, f_stat, f_err, f_out, f_vInt, f_recs, f_drf, f_fsp, a_kind, a_arg, a_ch, a_par, a_pos, a_seen, a_st, ty, tK, tG, tA, tB, u, bg, ux, uy, a_stk, ea, eb, a_rT, a_rE, a_rG, a_rN, a_rC, a_rX, a_fK, a_fA, a_fE)) : wY_finish_97 post (nI t) (nI 7) x3 x4 x5 x6 (nI (32 + t)) f_dLim f_rLim f_fLim f_n f_stat f_err f_out f_vInt f_recs f_drf f_fsp (fuel + 1) (nI 32) a_kind a_arg a_ch a_par a_pos a_seen a_st a_ty a_tyK a_tyG a_tyA a_tyB a_u a_bg a_ux a_uy a_stk a_eqA a_eqB a_rT a_rE a_rG a_rN a_rC a_rX a_fK a_fA a_fE := by
  have hA := A
  obtain ⟨ok, so, kr, sc, -⟩ := A
  have hn := ok.2.1
  have sl := gp_sn_lt ok ht
  refine br_t (by decide) (br_f (by decide) (br_t (by decide) ?_))
  refine hOK (gt_e2_z (by omega)) _ _ _ _ _ _ _ _ _ _ _ (gy_TI_add ok I ht (by omega) hnP (fun _ _ => ⟨rfl, rfl, rfl, rfl⟩) (gy_K1 hK1) (fun d hd => rfl) ⟨32 + t, gy_o_t ht (by omega), ety, ?_⟩ (fun j hj => rfl) (fun w hw => ?_) (fun _ _ => ⟨rfl, rfl, rfl⟩) (fun z => by omega) (fun z => by omega) (fun z => by omega))
  · rw [gd_mkD, gt_t7 ok ht hk]
    dsimp only
    rw [hK1, hG0]
    exact gt_mk_1
  · rw [gt_u7 ok ht hk]
    exact eu w (by omega)
theorem gy_fAdd {post : Int32 → SY → Prop} {kd : Nat → Nat} {n t fuel : Nat} {P : Nat → Prop} {x3 x6 : Int32} (A : gt_P kd a_arg n) (S : gy_S kd n a_kind a_ch a_par a_pos a_seen) (I : gy_TI kd a_arg n P a_ty a_bg a_ux a_uy a_u (a_tyK, a_tyG, a_tyA, a_tyB)) (ht : t < n) (hc : ∀ j, j < gp_ar (kd t) → ¬ kd (gp_ch kd n t j) ≤ 5 → P (gp_ch kd n t j)) (hnP : ¬ P t) (hK1 : a_tyK (32 + t) = 1) (hG0 : a_tyG (32 + t) = 0) (ety : a_ty t = nI (32 + t)) (eu : ∀ v, v < 32 → a_u (t * 32 + v) = 0) (hk : kd t = 8) (hOK : gt_e2 kd a_arg n t = 0 → ∀ ty bg ux uy u tK tG tA tB ea eb, gy_TI kd a_arg n (fun d => P d ∨ d = t) ty bg ux uy u (tK, tG, tA, tB) → post 1 (f_dLim, f_rLim, f_fLim, f_n, f_stat, f_err, f_out, f_vInt, f_recs, f_drf, f_fsp, a_kind, a_arg, a_ch, a_par, a_pos, a_seen, a_st, ty, tK, tG, tA, tB, u, bg, ux, uy, a_stk, ea, eb, a_rT, a_rE, a_rG, a_rN, a_rC, a_rX, a_fK, a_fA, a_fE)) (hF : ¬ gt_e2 kd a_arg n t = 0 → ∀ ty bg ux uy u tK tG tA tB ea eb, post (nI (gt_e2 kd a_arg n t)) (f_dLim, f_rLim, f_fLim, f_n, f_stat, f_err, f_out, f_vInt, f_recs, f_drf, f_fsp, a_kind, a_arg, a_ch, a_par, a_pos, a_seen, a_st, ty, tK, tG, tA, tB, u, bg, ux, uy, a_stk, ea, eb, a_rT, a_rE, a_rG, a_rN, a_rC, a_rX, a_fK, a_fA, a_fE)) : wY_finish_97 post (nI t) (nI 8) x3 (nI (gp_ch kd n t 0)) (nI (gp_ch kd n t 1)) x6 (nI (32 + t)) f_dLim f_rLim f_fLim f_n f_stat f_err f_out f_vInt f_recs f_drf f_fsp (fuel + 1) (nI 32) a_kind a_arg a_ch a_par a_pos a_seen a_st a_ty a_tyK a_tyG a_tyA a_tyB a_u a_bg a_ux a_uy a_stk a_eqA a_eqB a_rT a_rE a_rG a_rN a_rC a_rX a_fK a_fA a_fE := by
  have hA := A
  obtain ⟨ok, so, kr, sc, -⟩ := A
  have hn := ok.2.1
  have t32 : t < 32 := by omega
  have sl := gp_sn_lt ok ht
  have ar0 : 0 < gp_ar (kd t) := by rw [hk]; decide
  have ar1 : 1 < gp_ar (kd t) := by rw [hk]; decide
  have m0 := gp_tm_ch ok so ht (by omega) ar0 (by omega)
  have m1 := gp_tm_ch ok so ht (by omega) ar1 (by omega)
  have c0 := (gp_ch_lt ok ht ar0).1
  have c1 := (gp_ch_lt ok ht ar1).1
  have g0 := gp_ch_ge ok ht (Nat.le_of_lt ar0)
  have g1 := gp_ch_ge ok ht (Nat.le_of_lt ar1)
  obtain ⟨_, _, ⟨y, y1, y2, y3⟩, _⟩ := I.2.2 _ (hc 0 ar0 m0)
  obtain ⟨_, _, ⟨z, z1, z2, z3⟩, _⟩ := I.2.2 _ (hc 1 ar1 m1)
  have y64 := gy_o_lt hn y1
  have z64 := gy_o_lt hn z1
  have u0 := (gy_cu hA I ht ar0 (hc 0 ar0 m0) m0).1
  have u1 := (gy_cu hA I ht ar1 (hc 1 ar1 m1) m1).1
  rw [show gp_bd (kd t) 0 = 0 from gp_bd_0 _] at u0
  rw [show gp_bd (kd t) 1 = 0 by rw [hk]; decide] at u1
  have ky := (gd_k y3).1
  have kz := (gd_k z3).1
  dsimp only at ky kz
  have fl : ¬ (gt_k (gt_t kd a_arg n (gp_ch kd n t 0)) = 1 ∧ gt_k (gt_t kd a_arg n (gp_ch kd n t 1)) = 1) → post 4 (f_dLim, f_rLim, f_fLim, f_n, f_stat, f_err, f_out, f_vInt, f_recs, f_drf, f_fsp, a_kind, a_arg, a_ch, a_par, a_pos, a_seen, a_st, a_ty, a_tyK, a_tyG, a_tyA, a_tyB, a_u, a_bg, a_ux, a_uy, a_stk, a_eqA, a_eqB, a_rT, a_rE, a_rG, a_rN, a_rC, a_rX, a_fK, a_fA, a_fE) := fun w => by
    have e4 : gt_e2 kd a_arg n t = 4 := gt_if_t (Or.inl ⟨hk, w⟩)
    have := hF (by rw [e4]; decide) a_ty a_bg a_ux a_uy a_u a_tyK a_tyG a_tyA a_tyB a_eqA a_eqB
    rw [e4] at this
    exact this
  refine br_t (by decide) (br_f (by decide) (br_f (by decide) (br_t (by decide) ?_)))
  rw [nI_clamp (show gp_ch kd n t 0 < 2 ^ 31 by omega), nI_clamp (show gp_ch kd n t 1 < 2 ^ 31 by omega), y2, z2, nI_clamp (show y < 2 ^ 31 by omega), nI_clamp (show z < 2 ^ 31 by omega)]
  refine ⟨vp_in_nI (by omega) (by decide), vp_in_nI y64 (by decide), br_c (fun k1 => ⟨vp_in_nI (by omega) (by decide), vp_in_nI z64 (by decide), br_c (fun k2 => ?_) (fun k2 => fl (fun w => k2 (kz.trans w.2)))⟩) (fun k1 => fl (fun w => k1 (ky.trans w.1)))⟩
  refine gy_cb (s := gp_sn kd t) (g := 1) (m := 0) (sa := nI 0) (sb := nI 0) t32 (by omega) (S.2.2.2.2 t ht) (by omega) (by omega) (fun w hw => (u0 w hw).2) (fun w hw => (u1 w hw).2)
    (gy_rd (b := 0) (by omega) (by omega) (by omega) (fun w hw => (u0 w hw).1)) (gy_rd (b := 0) (by omega) (by omega) (by omega) (fun w hw => (u1 w hw).1)) ?_
  have e0 : gt_e2 kd a_arg n t = 0 := by
    unfold gt_e2
    rw [gt_if_f (by
      rintro (⟨_, q⟩ | ⟨q, _⟩ | ⟨q, _⟩)
      · exact q ⟨ky.symm.trans k1, kz.symm.trans k2⟩
      · omega
      · omega), gt_if_f (by omega)]
  refine hOK e0 _ _ _ _ _ _ _ _ _ _ _ (gy_TI_add ok I ht (by omega) hnP (fun _ _ => ⟨rfl, rfl, rfl, rfl⟩) (gy_K1 hK1) (fun d hd => rfl) ⟨32 + t, gy_o_t ht (by omega), ety, ?_⟩ (fun j hj => gx_row_off (by omega) hj) (fun w hw => ?_) (fun _ _ => ⟨rfl, rfl, rfl⟩) (fun z => by omega) (fun z => by omega) (fun z => by omega))
  · rw [gd_mkD, gt_t8 ok ht hk, gt_int hA c0 (ky.symm.trans k1) (fun _ => none) (fun _ => none)]
    dsimp only
    rw [hK1, hG0]
    exact gt_mk_1
  · rw [gx_row_in hw, gt_u8 ok ht hk]
    unfold gy_cf
    rw [if_pos rfl, gt_mul_1 (u0 w hw).2]
theorem gy_fPair {post : Int32 → SY → Prop} {kd : Nat → Nat} {n t fuel : Nat} {P : Nat → Prop} {x3 x6 : Int32} (A : gt_P kd a_arg n) (S : gy_S kd n a_kind a_ch a_par a_pos a_seen) (I : gy_TI kd a_arg n P a_ty a_bg a_ux a_uy a_u (a_tyK, a_tyG, a_tyA, a_tyB)) (ht : t < n) (hc : ∀ j, j < gp_ar (kd t) → ¬ kd (gp_ch kd n t j) ≤ 5 → P (gp_ch kd n t j)) (hnP : ¬ P t) (hK1 : a_tyK (32 + t) = 1) (hG0 : a_tyG (32 + t) = 0) (ety : a_ty t = nI (32 + t)) (eu : ∀ v, v < 32 → a_u (t * 32 + v) = 0) (hk : kd t = 11) (hOK : gt_e2 kd a_arg n t = 0 → ∀ ty bg ux uy u tK tG tA tB ea eb, gy_TI kd a_arg n (fun d => P d ∨ d = t) ty bg ux uy u (tK, tG, tA, tB) → post 1 (f_dLim, f_rLim, f_fLim, f_n, f_stat, f_err, f_out, f_vInt, f_recs, f_drf, f_fsp, a_kind, a_arg, a_ch, a_par, a_pos, a_seen, a_st, ty, tK, tG, tA, tB, u, bg, ux, uy, a_stk, ea, eb, a_rT, a_rE, a_rG, a_rN, a_rC, a_rX, a_fK, a_fA, a_fE)) : wY_finish_97 post (nI t) (nI 11) x3 (nI (gp_ch kd n t 0)) (nI (gp_ch kd n t 1)) x6 (nI (32 + t)) f_dLim f_rLim f_fLim f_n f_stat f_err f_out f_vInt f_recs f_drf f_fsp (fuel + 1) (nI 32) a_kind a_arg a_ch a_par a_pos a_seen a_st a_ty a_tyK a_tyG a_tyA a_tyB a_u a_bg a_ux a_uy a_stk a_eqA a_eqB a_rT a_rE a_rG a_rN a_rC a_rX a_fK a_fA a_fE := by
  have hA := A
  obtain ⟨ok, so, kr, sc, -⟩ := A
  have hn := ok.2.1
  have t32 : t < 32 := by omega
  have sl := gp_sn_lt ok ht
  have ar0 : 0 < gp_ar (kd t) := by rw [hk]; decide
  have ar1 : 1 < gp_ar (kd t) := by rw [hk]; decide
  have m0 := gp_tm_ch ok so ht (by omega) ar0 (by omega)
  have m1 := gp_tm_ch ok so ht (by omega) ar1 (by omega)
  have c0 := (gp_ch_lt ok ht ar0).1
  have c1 := (gp_ch_lt ok ht ar1).1
  have g0 := gp_ch_ge ok ht (Nat.le_of_lt ar0)
  have g1 := gp_ch_ge ok ht (Nat.le_of_lt ar1)
  obtain ⟨_, _, ⟨y, y1, y2, y3⟩, _⟩ := I.2.2 _ (hc 0 ar0 m0)
  obtain ⟨_, _, ⟨z, z1, z2, z3⟩, _⟩ := I.2.2 _ (hc 1 ar1 m1)
  have y64 := gy_o_lt hn y1
  have z64 := gy_o_lt hn z1
  have u0 := (gy_cu hA I ht ar0 (hc 0 ar0 m0) m0).1
  have u1 := (gy_cu hA I ht ar1 (hc 1 ar1 m1) m1).1
  rw [show gp_bd (kd t) 0 = 0 from gp_bd_0 _] at u0
  rw [show gp_bd (kd t) 1 = 0 by rw [hk]; decide] at u1
  have v64 := vp_in_nI (show 32 + t < 64 by omega) (by decide)
  refine br_t (by decide) ?_
  repeat (refine br_f (by decide) ?_)
  refine br_t (by decide) ?_
  rw [nI_clamp (show gp_ch kd n t 0 < 2 ^ 31 by omega), nI_clamp (show gp_ch kd n t 1 < 2 ^ 31 by omega), y2, z2, nI_clamp (show 32 + t < 2 ^ 31 by omega)]
  refine ⟨v64, nm_e ⟨vp_in_nI (by omega) (by decide), v64, nm_e ⟨vp_in_nI (by omega) (by decide), v64, nm_e ?_⟩⟩⟩
  refine gy_cb (s := gp_sn kd t) (g := 1) (m := 0) (sa := nI 0) (sb := nI 0) t32 (by omega) (S.2.2.2.2 t ht) (by omega) (by omega) (fun w hw => (u0 w hw).2) (fun w hw => (u1 w hw).2)
    (gy_rd (b := 0) (by omega) (by omega) (by omega) (fun w hw => (u0 w hw).1)) (gy_rd (b := 0) (by omega) (by omega) (by omega) (fun w hw => (u1 w hw).1)) ?_
  have hT : ∀ x, x ≠ 32 + t → upd a_tyK (32 + t) 2 x = a_tyK x ∧ a_tyG x = a_tyG x ∧ upd a_tyA (32 + t) (nI y) x = a_tyA x ∧ upd a_tyB (32 + t) (nI z) x = a_tyB x := fun x hx => ⟨pk_un hx, rfl, pk_un hx, pk_un hx⟩
  have st := fun {x : Nat} (hx : gy_o kd n P x) => gy_st (T' := (upd a_tyK (32 + t) 2, a_tyG, upd a_tyA (32 + t) (nI y), upd a_tyB (32 + t) (nI z))) hn I hnP hT hx
  refine hOK (gt_e2_z (by omega)) _ _ _ _ _ _ _ _ _ _ _ (gy_TI_add ok I ht (by omega) hnP hT ⟨fun _ => ⟨y, gy_o_p y1, pk_us⟩, fun _ _ => ⟨z, gy_o_p z1, pk_us⟩⟩ (fun d hd => rfl) ⟨32 + t, gy_o_t ht (by omega), ety, ?_⟩ (fun j hj => gx_row_off (by omega) hj) (fun w hw => ?_) (fun _ _ => ⟨rfl, rfl, rfl⟩) (fun z => by omega) (fun z => by omega) (fun z => by omega))
  · rw [gd_mkD]
    unfold gd_L gd_R
    dsimp only
    rw [pk_us, pk_us, pk_us, nI_clamp (show y < 2 ^ 31 by omega), nI_clamp (show z < 2 ^ 31 by omega), st y1, st z1, y3, z3, hG0, gt_t11 ok ht hk]
  · rw [gx_row_in hw, gt_u11 ok ht hk]
    unfold gy_cf
    rw [if_pos rfl, gt_mul_1 (u0 w hw).2]
theorem gy_fIn {post : Int32 → SY → Prop} {kd : Nat → Nat} {n t fuel : Nat} {P : Nat → Prop} {x3 x6 : Int32} (A : gt_P kd a_arg n) (S : gy_S kd n a_kind a_ch a_par a_pos a_seen) (I : gy_TI kd a_arg n P a_ty a_bg a_ux a_uy a_u (a_tyK, a_tyG, a_tyA, a_tyB)) (ht : t < n) (hc : ∀ j, j < gp_ar (kd t) → ¬ kd (gp_ch kd n t j) ≤ 5 → P (gp_ch kd n t j)) (hnP : ¬ P t) (hK1 : a_tyK (32 + t) = 1) (hG0 : a_tyG (32 + t) = 0) (ety : a_ty t = nI (32 + t)) (eu : ∀ v, v < 32 → a_u (t * 32 + v) = 0) (hk : kd t = 13 ∨ kd t = 14) (hOK : gt_e2 kd a_arg n t = 0 → ∀ ty bg ux uy u tK tG tA tB ea eb, gy_TI kd a_arg n (fun d => P d ∨ d = t) ty bg ux uy u (tK, tG, tA, tB) → post 1 (f_dLim, f_rLim, f_fLim, f_n, f_stat, f_err, f_out, f_vInt, f_recs, f_drf, f_fsp, a_kind, a_arg, a_ch, a_par, a_pos, a_seen, a_st, ty, tK, tG, tA, tB, u, bg, ux, uy, a_stk, ea, eb, a_rT, a_rE, a_rG, a_rN, a_rC, a_rX, a_fK, a_fA, a_fE)) : wY_finish_97 post (nI t) (nI (kd t)) x3 (nI (gp_ch kd n t 0)) (nI (gp_ch kd n t 1)) x6 (nI (32 + t)) f_dLim f_rLim f_fLim f_n f_stat f_err f_out f_vInt f_recs f_drf f_fsp (fuel + 1) (nI 32) a_kind a_arg a_ch a_par a_pos a_seen a_st a_ty a_tyK a_tyG a_tyA a_tyB a_u a_bg a_ux a_uy a_stk a_eqA a_eqB a_rT a_rE a_rG a_rN a_rC a_rX a_fK a_fA a_fE := by
  have hA := A
  obtain ⟨ok, so, kr, sc, -⟩ := A
  have hn := ok.2.1
  have t32 : t < 32 := by omega
  have sl := gp_sn_lt ok ht
  have ar : gp_ar (kd t) = 2 := by rcases hk with e | e <;> rw [e] <;> decide
  have ar0 : 0 < gp_ar (kd t) := by omega
  have ar1 : 1 < gp_ar (kd t) := by omega
  have m0 := gp_ty_c0 ok so ht (by omega)
  have m1 := gp_tm_ch ok so ht (by omega) ar1 (by omega)
  have c0 := (gp_ch_lt ok ht ar0).1
  have c1 := (gp_ch_lt ok ht ar1).1
  have g1 := gp_ch_ge ok ht (Nat.le_of_lt ar1)
  have y1 : gy_o kd n P (gp_ch kd n t 0) := Or.inl ⟨c0, m0⟩
  have y3 := I.2.1 _ c0 m0
  obtain ⟨_, _, ⟨z, z1, z2, z3⟩, _⟩ := I.2.2 _ (hc 1 ar1 m1)
  have z64 := gy_o_lt hn z1
  have u1 := (gy_cu hA I ht ar1 (hc 1 ar1 m1) m1).1
  rw [show gp_bd (kd t) 1 = 0 by rcases hk with e | e <;> rw [e] <;> decide] at u1
  have v64 := vp_in_nI (show 32 + t < 64 by omega) (by decide)
  rcases hk with e | e
  · rw [e]
    refine br_t (by decide) ?_
    repeat (refine br_f (by decide) ?_)
    refine br_t (by decide) ?_
    rw [nI_clamp (show gp_ch kd n t 1 < 2 ^ 31 by omega), z2, nI_clamp (show 32 + t < 2 ^ 31 by omega)]
    refine ⟨v64, nm_e ⟨vp_in_nI (by omega) (by decide), v64, nm_e ⟨v64, nm_e ?_⟩⟩⟩
    refine gy_cb (s := gp_sn kd t) (g := 1) (m := 0) (sa := nI 0) (sb := nI 0) (pb := fun _ => 0) t32 (by omega) (S.2.2.2.2 t ht) (by omega) (by omega) (fun w hw => (u1 w hw).2) (fun w hw => by omega)
      (gy_rd (b := 0) (by omega) (by omega) (by omega) (fun w hw => (u1 w hw).1)) gy_rd0 ?_
    have hT : ∀ x, x ≠ 32 + t → upd a_tyK (32 + t) 3 x = a_tyK x ∧ a_tyG x = a_tyG x ∧ upd a_tyA (32 + t) (nI z) x = a_tyA x ∧ upd a_tyB (32 + t) (nI (gp_ch kd n t 0)) x = a_tyB x := fun x hx => ⟨pk_un hx, rfl, pk_un hx, pk_un hx⟩
    have st := fun {x : Nat} (hx : gy_o kd n P x) => gy_st (T' := (upd a_tyK (32 + t) 3, a_tyG, upd a_tyA (32 + t) (nI z), upd a_tyB (32 + t) (nI (gp_ch kd n t 0)))) hn I hnP hT hx
    refine hOK (gt_e2_z (by omega)) _ _ _ _ _ _ _ _ _ _ _ (gy_TI_add ok I ht (by omega) hnP hT ⟨fun _ => ⟨z, gy_o_p z1, pk_us⟩, fun _ _ => ⟨_, gy_o_p y1, pk_us⟩⟩ (fun d hd => rfl) ⟨32 + t, gy_o_t ht (by omega), ety, ?_⟩ (fun j hj => gx_row_off (by omega) hj) (fun w hw => ?_) (fun _ _ => ⟨rfl, rfl, rfl⟩) (fun z => by omega) (fun z => by omega) (fun z => by omega))
    · rw [gd_mkD]
      unfold gd_L gd_R
      dsimp only
      rw [pk_us, pk_us, pk_us, nI_clamp (show gp_ch kd n t 0 < 2 ^ 31 by omega), nI_clamp (show z < 2 ^ 31 by omega), st y1, st z1, y3, z3, hG0, gt_t13 ok ht e]
    · rw [gx_row_in hw, gt_u13 ok ht e]
      unfold gy_cf
      rw [if_pos rfl, gt_mul_1 (u1 w hw).2, gt_add_0 (u1 w hw).2]
  · rw [e]
    refine br_t (by decide) ?_
    repeat (refine br_f (by decide) ?_)
    refine br_t (by decide) ?_
    rw [nI_clamp (show gp_ch kd n t 1 < 2 ^ 31 by omega), z2, nI_clamp (show 32 + t < 2 ^ 31 by omega)]
    refine ⟨v64, nm_e ⟨v64, nm_e ⟨vp_in_nI (by omega) (by decide), v64, nm_e ?_⟩⟩⟩
    refine gy_cb (s := gp_sn kd t) (g := 1) (m := 0) (sa := nI 0) (sb := nI 0) (pb := fun _ => 0) t32 (by omega) (S.2.2.2.2 t ht) (by omega) (by omega) (fun w hw => (u1 w hw).2) (fun w hw => by omega)
      (gy_rd (b := 0) (by omega) (by omega) (by omega) (fun w hw => (u1 w hw).1)) gy_rd0 ?_
    have hT : ∀ x, x ≠ 32 + t → upd a_tyK (32 + t) 3 x = a_tyK x ∧ a_tyG x = a_tyG x ∧ upd a_tyA (32 + t) (nI (gp_ch kd n t 0)) x = a_tyA x ∧ upd a_tyB (32 + t) (nI z) x = a_tyB x := fun x hx => ⟨pk_un hx, rfl, pk_un hx, pk_un hx⟩
    have st := fun {x : Nat} (hx : gy_o kd n P x) => gy_st (T' := (upd a_tyK (32 + t) 3, a_tyG, upd a_tyA (32 + t) (nI (gp_ch kd n t 0)), upd a_tyB (32 + t) (nI z))) hn I hnP hT hx
    refine hOK (gt_e2_z (by omega)) _ _ _ _ _ _ _ _ _ _ _ (gy_TI_add ok I ht (by omega) hnP hT ⟨fun _ => ⟨_, gy_o_p y1, pk_us⟩, fun _ _ => ⟨z, gy_o_p z1, pk_us⟩⟩ (fun d hd => rfl) ⟨32 + t, gy_o_t ht (by omega), ety, ?_⟩ (fun j hj => gx_row_off (by omega) hj) (fun w hw => ?_) (fun _ _ => ⟨rfl, rfl, rfl⟩) (fun z => by omega) (fun z => by omega) (fun z => by omega))
    · rw [gd_mkD]
      unfold gd_L gd_R
      dsimp only
      rw [pk_us, pk_us, pk_us, nI_clamp (show gp_ch kd n t 0 < 2 ^ 31 by omega), nI_clamp (show z < 2 ^ 31 by omega), st y1, st z1, y3, z3, hG0, gt_t14 ok ht e]
    · rw [gx_row_in hw, gt_u14 ok ht e]
      unfold gy_cf
      rw [if_pos rfl, gt_mul_1 (u1 w hw).2, gt_add_0 (u1 w hw).2]
theorem gy_fBox {post : Int32 → SY → Prop} {kd : Nat → Nat} {n t fuel : Nat} {P : Nat → Prop} {x5 x6 : Int32} (A : gt_P kd a_arg n) (S : gy_S kd n a_kind a_ch a_par a_pos a_seen) (I : gy_TI kd a_arg n P a_ty a_bg a_ux a_uy a_u (a_tyK, a_tyG, a_tyA, a_tyB)) (ht : t < n) (hc : ∀ j, j < gp_ar (kd t) → ¬ kd (gp_ch kd n t j) ≤ 5 → P (gp_ch kd n t j)) (hnP : ¬ P t) (hK1 : a_tyK (32 + t) = 1) (hG0 : a_tyG (32 + t) = 0) (ety : a_ty t = nI (32 + t)) (eu : ∀ v, v < 32 → a_u (t * 32 + v) = 0) (hk : kd t = 16) (hOK : gt_e2 kd a_arg n t = 0 → ∀ ty bg ux uy u tK tG tA tB ea eb, gy_TI kd a_arg n (fun d => P d ∨ d = t) ty bg ux uy u (tK, tG, tA, tB) → post 1 (f_dLim, f_rLim, f_fLim, f_n, f_stat, f_err, f_out, f_vInt, f_recs, f_drf, f_fsp, a_kind, a_arg, a_ch, a_par, a_pos, a_seen, a_st, ty, tK, tG, tA, tB, u, bg, ux, uy, a_stk, ea, eb, a_rT, a_rE, a_rG, a_rN, a_rC, a_rX, a_fK, a_fA, a_fE)) : wY_finish_97 post (nI t) (nI 16) (a_arg t) (nI (gp_ch kd n t 0)) x5 x6 (nI (32 + t)) f_dLim f_rLim f_fLim f_n f_stat f_err f_out f_vInt f_recs f_drf f_fsp (fuel + 1) (nI 32) a_kind a_arg a_ch a_par a_pos a_seen a_st a_ty a_tyK a_tyG a_tyA a_tyB a_u a_bg a_ux a_uy a_stk a_eqA a_eqB a_rT a_rE a_rG a_rN a_rC a_rX a_fK a_fA a_fE := by
  have hA := A
  obtain ⟨ok, so, kr, sc, ag2, -⟩ := A
  have hn := ok.2.1
  have t32 : t < 32 := by omega
  have sl := gp_sn_lt ok ht
  have ar0 : 0 < gp_ar (kd t) := by rw [hk]; decide
  have m0 := gp_tm_ch ok so ht (by omega) ar0 (by omega)
  have c0 := (gp_ch_lt ok ht ar0).1
  have g0 := gp_ch_ge ok ht (Nat.le_of_lt ar0)
  obtain ⟨_, _, ⟨y, y1, y2, y3⟩, _⟩ := I.2.2 _ (hc 0 ar0 m0)
  have y64 := gy_o_lt hn y1
  have u0 := (gy_cu hA I ht ar0 (hc 0 ar0 m0) m0).1
  rw [show gp_bd (kd t) 0 = 0 from gp_bd_0 _] at u0
  have v64 := vp_in_nI (show 32 + t < 64 by omega) (by decide)
  obtain ⟨g, g2, eg⟩ := ag2 t ht (by omega)
  refine br_t (by decide) ?_
  repeat (refine br_f (by decide) ?_)
  refine br_t (by decide) ?_
  rw [nI_clamp (show gp_ch kd n t 0 < 2 ^ 31 by omega), y2, nI_clamp (show 32 + t < 2 ^ 31 by omega), eg]
  refine ⟨v64, nm_e ⟨v64, nm_e ⟨vp_in_nI (by omega) (by decide), v64, nm_e ?_⟩⟩⟩
  refine gy_cb (s := gp_sn kd t) (g := g) (m := 0) (sa := nI 0) (sb := nI 0) (pb := fun _ => 0) t32 (by omega) (S.2.2.2.2 t ht) g2 (by omega) (fun w hw => (u0 w hw).2) (fun w hw => by omega)
    (gy_rd (b := 0) (by omega) (by omega) (by omega) (fun w hw => (u0 w hw).1)) gy_rd0 ?_
  have hT : ∀ x, x ≠ 32 + t → upd a_tyK (32 + t) 5 x = a_tyK x ∧ upd a_tyG (32 + t) (nI g) x = a_tyG x ∧ upd a_tyA (32 + t) (nI y) x = a_tyA x ∧ a_tyB x = a_tyB x := fun x hx => ⟨pk_un hx, pk_un hx, pk_un hx, rfl⟩
  have st := fun {x : Nat} (hx : gy_o kd n P x) => gy_st (T' := (upd a_tyK (32 + t) 5, upd a_tyG (32 + t) (nI g), upd a_tyA (32 + t) (nI y), a_tyB)) hn I hnP hT hx
  refine hOK (gt_e2_z (by omega)) _ _ _ _ _ _ _ _ _ _ _ (gy_TI_add ok I ht (by omega) hnP hT ⟨fun _ => ⟨y, gy_o_p y1, pk_us⟩, fun _ z => absurd pk_us z⟩ (fun d hd => rfl) ⟨32 + t, gy_o_t ht (by omega), ety, ?_⟩ (fun j hj => gx_row_off (by omega) hj) (fun w hw => ?_) (fun _ _ => ⟨rfl, rfl, rfl⟩) (fun z => by omega) (fun z => by omega) (fun z => by omega))
  · rw [gd_mkD]
    unfold gd_L
    dsimp only
    rw [pk_us, pk_us, pk_us, nI_clamp (show y < 2 ^ 31 by omega), st y1, y3, gt_t16 ok ht hk, eg]
    exact gt_mk_5
  · rw [gx_row_in hw, gt_u16 ok ht hk]
    unfold gy_cf
    rw [if_pos rfl, gt_add_0 (gt_mul_le _ _), eg, nI_clamp (show g < 2 ^ 31 by omega)]
end
end
section
section
variable {f_dLim f_rLim f_fLim f_n f_stat f_err f_out f_vInt f_recs f_drf f_fsp : Int32} {a_kind a_arg a_ch a_par a_pos a_seen a_st a_ty a_tyK a_tyG a_tyA a_tyB a_u a_bg a_ux a_uy a_stk a_eqA a_eqB a_rT a_rE a_rG a_rN a_rC a_rX a_fK a_fA a_fE : Nat → Int32}
theorem gy_fLam {post : Int32 → SY → Prop} {kd : Nat → Nat} {n t fuel : Nat} {P : Nat → Prop} {x6 : Int32} (A : gt_P kd a_arg n) (S : gy_S kd n a_kind a_ch a_par a_pos a_seen) (I : gy_TI kd a_arg n P a_ty a_bg a_ux a_uy a_u (a_tyK, a_tyG, a_tyA, a_tyB)) (ht : t < n) (hc : ∀ j, j < gp_ar (kd t) → ¬ kd (gp_ch kd n t j) ≤ 5 → P (gp_ch kd n t j)) (hnP : ¬ P t) (hK1 : a_tyK (32 + t) = 1) (hG0 : a_tyG (32 + t) = 0) (ety : a_ty t = nI (32 + t)) (eu : ∀ v, v < 32 → a_u (t * 32 + v) = 0) (hk : kd t = 9) (hOK : gt_e2 kd a_arg n t = 0 → ∀ ty bg ux uy u tK tG tA tB ea eb, gy_TI kd a_arg n (fun d => P d ∨ d = t) ty bg ux uy u (tK, tG, tA, tB) → post 1 (f_dLim, f_rLim, f_fLim, f_n, f_stat, f_err, f_out, f_vInt, f_recs, f_drf, f_fsp, a_kind, a_arg, a_ch, a_par, a_pos, a_seen, a_st, ty, tK, tG, tA, tB, u, bg, ux, uy, a_stk, ea, eb, a_rT, a_rE, a_rG, a_rN, a_rC, a_rX, a_fK, a_fA, a_fE)) (hF : ¬ gt_e2 kd a_arg n t = 0 → ∀ ty bg ux uy u tK tG tA tB ea eb, post (nI (gt_e2 kd a_arg n t)) (f_dLim, f_rLim, f_fLim, f_n, f_stat, f_err, f_out, f_vInt, f_recs, f_drf, f_fsp, a_kind, a_arg, a_ch, a_par, a_pos, a_seen, a_st, ty, tK, tG, tA, tB, u, bg, ux, uy, a_stk, ea, eb, a_rT, a_rE, a_rG, a_rN, a_rC, a_rX, a_fK, a_fA, a_fE)) : wY_finish_97 post (nI t) (nI 9) (a_arg t) (nI (gp_ch kd n t 0)) (nI (gp_ch kd n t 1)) x6 (nI (32 + t)) f_dLim f_rLim f_fLim f_n f_stat f_err f_out f_vInt f_recs f_drf f_fsp (fuel + 1) (nI 32) a_kind a_arg a_ch a_par a_pos a_seen a_st a_ty a_tyK a_tyG a_tyA a_tyB a_u a_bg a_ux a_uy a_stk a_eqA a_eqB a_rT a_rE a_rG a_rN a_rC a_rX a_fK a_fA a_fE := by
  have hA := A
  obtain ⟨ok, so, kr, sc, ag2, ag3, -⟩ := A
  have hn := ok.2.1
  have t32 : t < 32 := by omega
  have v := vp_in_nI t32 (by decide)
  have et : (nI t).toNatClampNeg = t := nI_clamp (by omega)
  have sl := gp_sn_lt ok ht
  have ar0 : 0 < gp_ar (kd t) := by rw [hk]; decide
  have ar1 : 1 < gp_ar (kd t) := by rw [hk]; decide
  have m0 := gp_ty_c0 ok so ht (by omega)
  have m1 := gp_tm_ch ok so ht (by omega) ar1 (by omega)
  have c0 := (gp_ch_lt ok ht ar0).1
  have c1 := (gp_ch_lt ok ht ar1).1
  have g1 := gp_ch_ge ok ht (Nat.le_of_lt ar1)
  have y1 : gy_o kd n P (gp_ch kd n t 0) := Or.inl ⟨c0, m0⟩
  have y3 := I.2.1 _ c0 m0
  obtain ⟨_, _, ⟨z, z1, z2, z3⟩, _⟩ := I.2.2 _ (hc 1 ar1 m1)
  have z64 := gy_o_lt hn z1
  obtain ⟨u1, w1⟩ := gy_cu hA I ht ar1 (hc 1 ar1 m1) m1
  rw [show gp_bd (kd t) 1 = 1 by rw [hk]; decide] at u1 w1
  have w0 := w1 0 (by omega)
  rw [show gp_sn kd t + 1 - 1 - 0 = gp_sn kd t by omega] at w0
  have ul := gt_ule hA c1 m1 (gp_sn kd t)
  have v64 := vp_in_nI (show 32 + t < 64 by omega) (by decide)
  obtain ⟨a, a3, ea⟩ := ag3 t ht (by omega)
  have nd : gt_nd kd a_arg n t = gt_u kd a_arg n (gp_ch kd n t 1) (gp_sn kd t) := by unfold gt_nd; rw [if_neg (by omega), if_neg (by omega)]
  have fin : ∀ g, g = nI (gt_se (a_arg t) (gt_u kd a_arg n (gp_ch kd n t 1) (gp_sn kd t))) → gt_e2 kd a_arg n t = 0 → wY_finish_550 post (nI t) (nI (gp_ch kd n t 0)) (nI (gp_ch kd n t 1)) (nI (32 + t)) (nI (gt_u kd a_arg n (gp_ch kd n t 1) (gp_sn kd t))) g f_dLim f_rLim f_fLim f_n f_stat f_err f_out f_vInt f_recs f_drf f_fsp a_kind a_arg a_ch a_par a_pos a_seen a_st a_ty a_tyK a_tyG a_tyA a_tyB a_u a_bg a_ux a_uy a_stk a_eqA a_eqB a_rT a_rE a_rG a_rN a_rC a_rX a_fK a_fA a_fE := by
    intro g eg e0
    unfold wY_finish_550
    rw [et, nI_clamp (show gp_ch kd n t 1 < 2 ^ 31 by omega), z2, nI_clamp (show 32 + t < 2 ^ 31 by omega)]
    refine ⟨v, nm_e ⟨v, nm_e ⟨v64, nm_e ⟨v64, nm_e ⟨v64, nm_e ⟨vp_in_nI (by omega) (by decide), v64, nm_e ?_⟩⟩⟩⟩⟩⟩
    refine gy_cb (s := gp_sn kd t) (g := 1) (m := 0) (sa := nI 1) (sb := nI 0) (pb := fun _ => 0) t32 (by omega) (S.2.2.2.2 t ht) (by omega) (by omega) (fun w hw => (u1 w hw).2) (fun w hw => by omega)
      (gy_rd (b := 1) (by omega) (by omega) (by omega) (fun w hw => (u1 w hw).1)) gy_rd0 ?_
    have hT : ∀ x, x ≠ 32 + t → upd a_tyK (32 + t) 4 x = a_tyK x ∧ upd a_tyG (32 + t) g x = a_tyG x ∧ upd a_tyA (32 + t) (nI (gp_ch kd n t 0)) x = a_tyA x ∧ upd a_tyB (32 + t) (nI z) x = a_tyB x := fun x hx => ⟨pk_un hx, pk_un hx, pk_un hx, pk_un hx⟩
    have st := fun {x : Nat} (hx : gy_o kd n P x) => gy_st (T' := (upd a_tyK (32 + t) 4, upd a_tyG (32 + t) g, upd a_tyA (32 + t) (nI (gp_ch kd n t 0)), upd a_tyB (32 + t) (nI z))) hn I hnP hT hx
    refine hOK e0 _ _ _ _ _ _ _ _ _ _ _ (gy_TI_add ok I ht (by omega) hnP hT ⟨fun _ => ⟨_, gy_o_p y1, pk_us⟩, fun _ _ => ⟨z, gy_o_p z1, pk_us⟩⟩ (fun d hd => rfl) ⟨32 + t, gy_o_t ht (by omega), ety, ?_⟩ (fun j hj => gx_row_off (by omega) hj) (fun w hw => ?_) (fun d hd => ⟨pk_un hd, pk_un hd, rfl⟩) (fun _ => ⟨?_, ?_⟩) (fun z => by omega) (fun z => by omega))
    · rw [gd_mkD]
      unfold gd_L gd_R
      dsimp only
      rw [pk_us, pk_us, pk_us, pk_us, nI_clamp (show gp_ch kd n t 0 < 2 ^ 31 by omega), nI_clamp (show z < 2 ^ 31 by omega), st y1, st z1, y3, z3, gt_t9 ok ht hk, eg]
    · rw [gx_row_in hw, gt_u9 ok ht hk]
      unfold gy_cf
      rw [if_pos rfl, gt_mul_1 (u1 w hw).2, gt_add_0 (u1 w hw).2]
    · rw [pk_us, gt_b9 ok ht hk, eg]
    · rw [pk_us]
  refine br_t (by decide) ?_
  repeat (refine br_f (by decide) ?_)
  refine br_t (by decide) (gy_ug (v := 0) (by omega) (by omega) ?_)
  rw [w0]
  have e0 : ¬ (¬ a_arg t = 3 ∧ (a_arg t).toNatClampNeg < gt_u kd a_arg n (gp_ch kd n t 1) (gp_sn kd t)) → gt_e2 kd a_arg n t = 0 := fun q => by
    unfold gt_e2
    rw [gt_if_f (by omega), gt_if_f (by
      rintro (⟨_, r⟩ | ⟨r, _⟩)
      · rw [nd] at r; exact q r
      · omega)]
  refine br_c (fun z3 => fin _ ?_ (e0 (fun q => q.1 z3))) (fun z3 => ?_)
  · unfold gt_se; rw [if_pos z3]
  · have en : (a_arg t).toNatClampNeg = a := by rw [ea]; exact nI_clamp (by omega)
    rw [en] at e0
    have go := fin (a_arg t) (by unfold gt_se; rw [if_neg z3, en, ea])
    rw [ea] at go z3 ⊢
    refine pk_le (gt_u kd a_arg n (gp_ch kd n t 1) (gp_sn kd t)) a (fun q => go (e0 (fun r => by omega))) (fun q => ?_)
    have e5 : gt_e2 kd a_arg n t = 5 := by
      unfold gt_e2
      rw [gt_if_f (by omega), gt_if_t (Or.inl ⟨Or.inl hk, by rw [ea]; exact z3, by rw [nd, en]; exact q⟩)]
    have := hF (by rw [e5]; decide) a_ty a_bg a_ux a_uy a_u a_tyK a_tyG a_tyA a_tyB a_eqA a_eqB
    rw [e5] at this
    exact this
theorem gy_fApp {post : Int32 → SY → Prop} {kd : Nat → Nat} {n t fuel : Nat} {P : Nat → Prop} {x3 x6 : Int32} (A : gt_P kd a_arg n) (S : gy_S kd n a_kind a_ch a_par a_pos a_seen) (I : gy_TI kd a_arg n P a_ty a_bg a_ux a_uy a_u (a_tyK, a_tyG, a_tyA, a_tyB)) (ht : t < n) (hc : ∀ j, j < gp_ar (kd t) → ¬ kd (gp_ch kd n t j) ≤ 5 → P (gp_ch kd n t j)) (hnP : ¬ P t) (hK1 : a_tyK (32 + t) = 1) (hG0 : a_tyG (32 + t) = 0) (ety : a_ty t = nI (32 + t)) (eu : ∀ v, v < 32 → a_u (t * 32 + v) = 0) (hk : kd t = 10) (hfit : gs_fit 32 (gs_F 32) (gt_t kd a_arg n (gp_ch kd n t 1))) (hOK : gt_e2 kd a_arg n t = 0 → ∀ ty bg ux uy u tK tG tA tB ea eb, gy_TI kd a_arg n (fun d => P d ∨ d = t) ty bg ux uy u (tK, tG, tA, tB) → post 1 (f_dLim, f_rLim, f_fLim, f_n, f_stat, f_err, f_out, f_vInt, f_recs, f_drf, f_fsp, a_kind, a_arg, a_ch, a_par, a_pos, a_seen, a_st, ty, tK, tG, tA, tB, u, bg, ux, uy, a_stk, ea, eb, a_rT, a_rE, a_rG, a_rN, a_rC, a_rX, a_fK, a_fA, a_fE)) (hF : ¬ gt_e2 kd a_arg n t = 0 → ∀ ty bg ux uy u tK tG tA tB ea eb, post (nI (gt_e2 kd a_arg n t)) (f_dLim, f_rLim, f_fLim, f_n, f_stat, f_err, f_out, f_vInt, f_recs, f_drf, f_fsp, a_kind, a_arg, a_ch, a_par, a_pos, a_seen, a_st, ty, tK, tG, tA, tB, u, bg, ux, uy, a_stk, ea, eb, a_rT, a_rE, a_rG, a_rN, a_rC, a_rX, a_fK, a_fA, a_fE)) : wY_finish_97 post (nI t) (nI 10) x3 (nI (gp_ch kd n t 0)) (nI (gp_ch kd n t 1)) x6 (nI (32 + t)) f_dLim f_rLim f_fLim f_n f_stat f_err f_out f_vInt f_recs f_drf f_fsp (fuel + 1) (nI 32) a_kind a_arg a_ch a_par a_pos a_seen a_st a_ty a_tyK a_tyG a_tyA a_tyB a_u a_bg a_ux a_uy a_stk a_eqA a_eqB a_rT a_rE a_rG a_rN a_rC a_rX a_fK a_fA a_fE := by
  have hA := A
  obtain ⟨ok, so, kr, sc, -⟩ := A
  have hn := ok.2.1
  have t32 : t < 32 := by omega
  have v := vp_in_nI t32 (by decide)
  have et : (nI t).toNatClampNeg = t := nI_clamp (by omega)
  have sl := gp_sn_lt ok ht
  have ar0 : 0 < gp_ar (kd t) := by rw [hk]; decide
  have ar1 : 1 < gp_ar (kd t) := by rw [hk]; decide
  have m0 := gp_tm_ch ok so ht (by omega) ar0 (by omega)
  have m1 := gp_tm_ch ok so ht (by omega) ar1 (by omega)
  have c0 := (gp_ch_lt ok ht ar0).1
  have c1 := (gp_ch_lt ok ht ar1).1
  have g0 := gp_ch_ge ok ht (Nat.le_of_lt ar0)
  have g1 := gp_ch_ge ok ht (Nat.le_of_lt ar1)
  obtain ⟨_, _, ⟨y, y1, y2, y3⟩, _⟩ := I.2.2 _ (hc 0 ar0 m0)
  obtain ⟨_, _, ⟨z, z1, z2, z3⟩, _⟩ := I.2.2 _ (hc 1 ar1 m1)
  have y64 := gy_o_lt hn y1
  have z64 := gy_o_lt hn z1
  have u0 := (gy_cu hA I ht ar0 (hc 0 ar0 m0) m0).1
  have u1 := (gy_cu hA I ht ar1 (hc 1 ar1 m1) m1).1
  rw [show gp_bd (kd t) 0 = 0 from gp_bd_0 _] at u0
  rw [show gp_bd (kd t) 1 = 0 by rw [hk]; decide] at u1
  have ky := gd_k y3
  dsimp only at ky
  have vy := vp_in_nI y64 (by decide)
  have fl : ¬ (gt_k (gt_t kd a_arg n (gp_ch kd n t 0)) = 4 ∧ gt_l (gt_t kd a_arg n (gp_ch kd n t 0)) = gt_t kd a_arg n (gp_ch kd n t 1)) → ∀ ea eb, post 4 (f_dLim, f_rLim, f_fLim, f_n, f_stat, f_err, f_out, f_vInt, f_recs, f_drf, f_fsp, a_kind, a_arg, a_ch, a_par, a_pos, a_seen, a_st, a_ty, a_tyK, a_tyG, a_tyA, a_tyB, a_u, a_bg, a_ux, a_uy, a_stk, ea, eb, a_rT, a_rE, a_rG, a_rN, a_rC, a_rX, a_fK, a_fA, a_fE) := fun w ea eb => by
    have e4 : gt_e2 kd a_arg n t = 4 := gt_if_t (Or.inr (Or.inl ⟨hk, w⟩))
    have := hF (by rw [e4]; decide) a_ty a_bg a_ux a_uy a_u a_tyK a_tyG a_tyA a_tyB ea eb
    rw [e4] at this
    exact this
  refine br_t (by decide) ?_
  repeat (refine br_f (by decide) ?_)
  refine br_t (by decide) ?_
  rw [nI_clamp (show gp_ch kd n t 0 < 2 ^ 31 by omega), nI_clamp (show gp_ch kd n t 1 < 2 ^ 31 by omega), y2, z2]
  refine ⟨vp_in_nI (by omega) (by decide), nm_e ⟨vy, ?_⟩⟩
  rw [nI_clamp (show y < 2 ^ 31 by omega)]
  refine br_c (fun k4 => ⟨vp_in_nI (by omega) (by decide), vy, ?_⟩) (fun k4 => fl (fun w => k4 (ky.1.trans w.1)) a_eqA a_eqB)
  have n1 : ¬ a_tyK y = 1 := by rw [k4]; decide
  have n5 : ¬ a_tyK y = 5 := by rw [k4]; decide
  obtain ⟨a, a1, a2⟩ := (I.1 y y1).1 n1
  obtain ⟨b, b1, b2⟩ := (I.1 y y1).2 n1 n5
  have a64 := gy_o_lt hn a1
  have b64 := gy_o_lt hn b1
  have eL : gd_L (a_tyK, a_tyG, a_tyA, a_tyB) y = a := by unfold gd_L; rw [a2]; exact nI_clamp (by omega)
  have eR : gd_R (a_tyK, a_tyG, a_tyA, a_tyB) y = b := by unfold gd_R; rw [b2]; exact nI_clamp (by omega)
  have dL : gd_D (a_tyK, a_tyG, a_tyA, a_tyB) a = gt_l (gt_t kd a_arg n (gp_ch kd n t 0)) := by rw [← eL]; exact gd_l y3 n1
  have dR : gd_D (a_tyK, a_tyG, a_tyA, a_tyB) b = gt_r (gt_t kd a_arg n (gp_ch kd n t 0)) := by rw [← eR]; exact gd_r y3 n1 n5
  dsimp only at a2 b2
  obtain ⟨g, g2, eg⟩ := gt_wf_g (gt_twf hA c0)
  rw [a2]
  refine gy_same hn I.1 z1 a1 (by rw [z3]; exact hfit) (fun same ea eb => br_f (by decide) ⟨vy, v, ?_⟩) (fun dif ea eb => br_t rfl (fl (fun w => dif (by rw [z3, dL]; exact w.2.symm)) ea eb))
  try dsimp only
  rw [et, b2, ky.2, eg]
  refine nm_e ⟨vy, ?_⟩
  refine gy_cb (s := gp_sn kd t) (m := 0) (sa := nI 0) (sb := nI 0) t32 (by omega) (S.2.2.2.2 t ht) g2 (by omega) (fun w hw => (u1 w hw).2) (fun w hw => (u0 w hw).2)
    (gy_rd (b := 0) (by omega) (by omega) (by omega) (fun w hw => (u1 w hw).1)) (gy_rd (b := 0) (by omega) (by omega) (by omega) (fun w hw => (u0 w hw).1)) ?_
  have e0 : gt_e2 kd a_arg n t = 0 := by
    unfold gt_e2
    rw [gt_if_f (by
      rintro (⟨q, _⟩ | ⟨_, q⟩ | ⟨q, _⟩)
      · omega
      · exact q ⟨ky.1.symm.trans k4, by rw [← dL, ← same, z3]⟩
      · omega), gt_if_f (by omega)]
  try dsimp only
  refine hOK e0 _ _ _ _ _ _ _ _ _ _ _ (gy_TI_add ok I ht (by omega) hnP (fun _ _ => ⟨rfl, rfl, rfl, rfl⟩) (gy_K1 hK1) (fun d hd => pk_un hd) ⟨b, gy_o_p b1, pk_us, ?_⟩ (fun j hj => gx_row_off (by omega) hj) (fun w hw => ?_) (fun _ _ => ⟨rfl, rfl, rfl⟩) (fun z => by omega) (fun z => by omega) (fun z => by omega))
  · rw [dR, gt_t10 ok ht hk]
  · rw [gx_row_in hw, gt_u10 ok ht hk]
    unfold gy_cf
    rw [if_pos rfl, gt_add_c, eg, nI_clamp (show g < 2 ^ 31 by omega)]
theorem gy_fLB {post : Int32 → SY → Prop} {kd : Nat → Nat} {n t fuel : Nat} {P : Nat → Prop} {x3 x6 : Int32} (A : gt_P kd a_arg n) (S : gy_S kd n a_kind a_ch a_par a_pos a_seen) (I : gy_TI kd a_arg n P a_ty a_bg a_ux a_uy a_u (a_tyK, a_tyG, a_tyA, a_tyB)) (ht : t < n) (hc : ∀ j, j < gp_ar (kd t) → ¬ kd (gp_ch kd n t j) ≤ 5 → P (gp_ch kd n t j)) (hnP : ¬ P t) (hK1 : a_tyK (32 + t) = 1) (hG0 : a_tyG (32 + t) = 0) (ety : a_ty t = nI (32 + t)) (eu : ∀ v, v < 32 → a_u (t * 32 + v) = 0) (hk : kd t = 17) (hOK : gt_e2 kd a_arg n t = 0 → ∀ ty bg ux uy u tK tG tA tB ea eb, gy_TI kd a_arg n (fun d => P d ∨ d = t) ty bg ux uy u (tK, tG, tA, tB) → post 1 (f_dLim, f_rLim, f_fLim, f_n, f_stat, f_err, f_out, f_vInt, f_recs, f_drf, f_fsp, a_kind, a_arg, a_ch, a_par, a_pos, a_seen, a_st, ty, tK, tG, tA, tB, u, bg, ux, uy, a_stk, ea, eb, a_rT, a_rE, a_rG, a_rN, a_rC, a_rX, a_fK, a_fA, a_fE)) (hF : ¬ gt_e2 kd a_arg n t = 0 → ∀ ty bg ux uy u tK tG tA tB ea eb, post (nI (gt_e2 kd a_arg n t)) (f_dLim, f_rLim, f_fLim, f_n, f_stat, f_err, f_out, f_vInt, f_recs, f_drf, f_fsp, a_kind, a_arg, a_ch, a_par, a_pos, a_seen, a_st, ty, tK, tG, tA, tB, u, bg, ux, uy, a_stk, ea, eb, a_rT, a_rE, a_rG, a_rN, a_rC, a_rX, a_fK, a_fA, a_fE)) : wY_finish_97 post (nI t) (nI 17) x3 (nI (gp_ch kd n t 0)) (nI (gp_ch kd n t 1)) x6 (nI (32 + t)) f_dLim f_rLim f_fLim f_n f_stat f_err f_out f_vInt f_recs f_drf f_fsp (fuel + 1) (nI 32) a_kind a_arg a_ch a_par a_pos a_seen a_st a_ty a_tyK a_tyG a_tyA a_tyB a_u a_bg a_ux a_uy a_stk a_eqA a_eqB a_rT a_rE a_rG a_rN a_rC a_rX a_fK a_fA a_fE := by
  have hA := A
  obtain ⟨ok, so, kr, sc, -⟩ := A
  have hn := ok.2.1
  have t32 : t < 32 := by omega
  have v := vp_in_nI t32 (by decide)
  have et : (nI t).toNatClampNeg = t := nI_clamp (by omega)
  have sl := gp_sn_lt ok ht
  have ar0 : 0 < gp_ar (kd t) := by rw [hk]; decide
  have ar1 : 1 < gp_ar (kd t) := by rw [hk]; decide
  have m0 := gp_tm_ch ok so ht (by omega) ar0 (by omega)
  have m1 := gp_tm_ch ok so ht (by omega) ar1 (by omega)
  have c0 := (gp_ch_lt ok ht ar0).1
  have c1 := (gp_ch_lt ok ht ar1).1
  have g0 := gp_ch_ge ok ht (Nat.le_of_lt ar0)
  have g1 := gp_ch_ge ok ht (Nat.le_of_lt ar1)
  obtain ⟨_, _, ⟨y, y1, y2, y3⟩, _⟩ := I.2.2 _ (hc 0 ar0 m0)
  obtain ⟨_, _, ⟨z, z1, z2, z3⟩, _⟩ := I.2.2 _ (hc 1 ar1 m1)
  have y64 := gy_o_lt hn y1
  have z64 := gy_o_lt hn z1
  have u0 := (gy_cu hA I ht ar0 (hc 0 ar0 m0) m0).1
  obtain ⟨u1, w1⟩ := gy_cu hA I ht ar1 (hc 1 ar1 m1) m1
  rw [show gp_bd (kd t) 0 = 0 from gp_bd_0 _] at u0
  rw [show gp_bd (kd t) 1 = 1 by rw [hk]; decide] at u1 w1
  have w0 := w1 0 (by omega)
  rw [show gp_sn kd t + 1 - 1 - 0 = gp_sn kd t by omega] at w0
  have ul := gt_ule hA c1 m1 (gp_sn kd t)
  have ky := (gd_k y3).2
  dsimp only at ky
  obtain ⟨g, g2, eg⟩ := gt_wf_g (gt_twf hA c0)
  have egn : (gt_g (gt_t kd a_arg n (gp_ch kd n t 0))).toNatClampNeg = g := by rw [eg]; exact nI_clamp (by omega)
  have nd : gt_nd kd a_arg n t = gt_u kd a_arg n (gp_ch kd n t 1) (gp_sn kd t) := by unfold gt_nd; rw [if_neg (by omega), if_neg (by omega)]
  refine br_t (by decide) ?_
  repeat (refine br_f (by decide) ?_)
  refine br_t (by decide) (gy_ug (v := 0) (by omega) (by omega) ?_)
  rw [w0, nI_clamp (show gp_ch kd n t 0 < 2 ^ 31 by omega), y2, nI_clamp (show y < 2 ^ 31 by omega), ky, eg, nI_clamp (show gp_ch kd n t 1 < 2 ^ 31 by omega), z2, et]
  refine ⟨vp_in_nI (by omega) (by decide), vp_in_nI y64 (by decide), nm_e (pk_le _ g (fun q => ?_) (fun q => ?_))⟩
  · refine ⟨v, nm_e ⟨v, nm_e ⟨vp_in_nI (by omega) (by decide), v, nm_e ?_⟩⟩⟩
    refine gy_cb (s := gp_sn kd t) (g := 1) (m := 0) (sa := nI 0) (sb := nI 1) t32 (by omega) (S.2.2.2.2 t ht) (by omega) (by omega) (fun w hw => (u0 w hw).2) (fun w hw => (u1 w hw).2)
      (gy_rd (b := 0) (by omega) (by omega) (by omega) (fun w hw => (u0 w hw).1)) (gy_rd (b := 1) (by omega) (by omega) (by omega) (fun w hw => (u1 w hw).1)) ?_
    have e0 : gt_e2 kd a_arg n t = 0 := by
      unfold gt_e2
      rw [gt_if_f (by omega), gt_if_f (by
        rintro (⟨r, _⟩ | ⟨_, r⟩)
        · omega
        · rw [nd, egn] at r; omega)]
    refine hOK e0 _ _ _ _ _ _ _ _ _ _ _ (gy_TI_add ok I ht (by omega) hnP (fun _ _ => ⟨rfl, rfl, rfl, rfl⟩) (gy_K1 hK1) (fun d hd => pk_un hd) ⟨z, gy_o_p z1, pk_us, ?_⟩ (fun j hj => gx_row_off (by omega) hj) (fun w hw => ?_) (fun d hd => ⟨pk_un hd, pk_un hd, rfl⟩) (fun _ => ⟨?_, ?_⟩) (fun z => by omega) (fun z => by omega))
    · rw [z3, gt_t17 ok ht hk]
    · rw [gx_row_in hw, gt_u17 ok ht hk]
      unfold gy_cf
      rw [if_pos rfl, gt_mul_1 (u0 w hw).2]
    · rw [pk_us, gt_b17 ok ht hk, egn]
    · rw [pk_us]
  · have e5 : gt_e2 kd a_arg n t = 5 := by
      unfold gt_e2
      rw [gt_if_f (by omega), gt_if_t (Or.inr ⟨hk, by rw [nd, egn]; exact q⟩)]
    have := hF (by rw [e5]; decide) a_ty a_bg a_ux a_uy a_u a_tyK a_tyG a_tyA a_tyB a_eqA a_eqB
    rw [e5] at this
    exact this
end
end
section
section
variable {f_dLim f_rLim f_fLim f_n f_stat f_err f_out f_vInt f_recs f_drf f_fsp : Int32} {a_kind a_arg a_ch a_par a_pos a_seen a_st a_ty a_tyK a_tyG a_tyA a_tyB a_u a_bg a_ux a_uy a_stk a_eqA a_eqB a_rT a_rE a_rG a_rN a_rC a_rX a_fK a_fA a_fE : Nat → Int32}
theorem gy_rdS {t s : Nat} {F p : Nat → Nat} {us : Nat → Int32} (ht : t < 32) (hs : s ≤ 32) (hp : ∀ v, v < s → us (t * 32 + v) = nI (p v)) :
    ∀ v, v < s → ∀ post' : Int32 → Prop, post' (nI (p v)) → wpY_ug post' (f_dLim, f_rLim, f_fLim, f_n, f_stat, f_err, f_out, f_vInt, f_recs, f_drf, f_fsp, a_kind, a_arg, a_ch, a_par, a_pos, a_seen, a_st, a_ty, a_tyK, a_tyG, a_tyA, a_tyB, gx_row us t v F, a_bg, a_ux, a_uy, a_stk, a_eqA, a_eqB, a_rT, a_rE, a_rG, a_rN, a_rC, a_rX, a_fK, a_fA, a_fE) (nI t) (nI v + nI 0) := by
  intro v hv post' h
  rw [nI_add, Nat.add_zero]
  refine gy_ug ht (by omega) ?_
  have e : gx_row us t v F (t * 32 + v) = us (t * 32 + v) := by unfold gx_row; rw [if_neg (by omega)]
  rw [e, hp v hv]
  exact h
theorem gy_779 {post : Int32 → SY → Prop} {t a p q : Nat} {x2 x4 x5 x6 : Int32} (ha : a_arg t = nI a) (ha3 : a ≤ 3) (hp : p ≤ 2) (hq : q ≤ 2)
    (hgo : ¬ (¬ a_arg t = 3 ∧ (a_arg t).toNatClampNeg < gt_max p q) → ∀ g, g = nI (gt_se (a_arg t) (gt_max p q)) → wY_finish_816 post (nI t) x2 x4 x5 x6 (nI p) (nI q) g f_dLim f_rLim f_fLim f_n f_stat f_err f_out f_vInt f_recs f_drf f_fsp a_kind a_arg a_ch a_par a_pos a_seen a_st a_ty a_tyK a_tyG a_tyA a_tyB a_u a_bg a_ux a_uy a_stk a_eqA a_eqB a_rT a_rE a_rG a_rN a_rC a_rX a_fK a_fA a_fE)
    (hbad : (¬ a_arg t = 3 ∧ (a_arg t).toNatClampNeg < gt_max p q) → post 5 (f_dLim, f_rLim, f_fLim, f_n, f_stat, f_err, f_out, f_vInt, f_recs, f_drf, f_fsp, a_kind, a_arg, a_ch, a_par, a_pos, a_seen, a_st, a_ty, a_tyK, a_tyG, a_tyA, a_tyB, a_u, a_bg, a_ux, a_uy, a_stk, a_eqA, a_eqB, a_rT, a_rE, a_rG, a_rN, a_rC, a_rX, a_fK, a_fA, a_fE)) : wY_finish_779 post (nI t) x2 (a_arg t) x4 x5 x6 (nI p) (nI q) f_dLim f_rLim f_fLim f_n f_stat f_err f_out f_vInt f_recs f_drf f_fsp a_kind a_arg a_ch a_par a_pos a_seen a_st a_ty a_tyK a_tyG a_tyA a_tyB a_u a_bg a_ux a_uy a_stk a_eqA a_eqB a_rT a_rE a_rG a_rN a_rC a_rX a_fK a_fA a_fE := by
  unfold wY_finish_779
  refine br_c (fun z => gy_join hp hq (hgo (fun y => y.1 z) _ ?_)) (fun z => ?_)
  · unfold gt_se; rw [if_pos z]
  · have en : (a_arg t).toNatClampNeg = a := by rw [ha]; exact nI_clamp (by omega)
    have es : nI (gt_se (a_arg t) (gt_max p q)) = a_arg t := by unfold gt_se; rw [if_neg z, en, ha]
    rw [es, en] at hgo
    rw [en] at hbad
    have mx : gt_max p q = p ∨ gt_max p q = q := by unfold gt_max; split; exact Or.inl rfl; exact Or.inr rfl
    have ml : p ≤ gt_max p q ∧ q ≤ gt_max p q := by unfold gt_max; split <;> omega
    rw [ha] at hgo hbad z ⊢
    refine pk_lt a p (fun y => hbad ⟨z, by omega⟩) (fun y => pk_le q a (fun x => hgo (fun w => by omega) _ rfl) (fun x => hbad ⟨z, by omega⟩))
theorem gy_fLP {post : Int32 → SY → Prop} {kd : Nat → Nat} {n t fuel : Nat} {P : Nat → Prop} {x6 : Int32} (A : gt_P kd a_arg n) (S : gy_S kd n a_kind a_ch a_par a_pos a_seen) (I : gy_TI kd a_arg n P a_ty a_bg a_ux a_uy a_u (a_tyK, a_tyG, a_tyA, a_tyB)) (ht : t < n) (hc : ∀ j, j < gp_ar (kd t) → ¬ kd (gp_ch kd n t j) ≤ 5 → P (gp_ch kd n t j)) (hnP : ¬ P t) (hK1 : a_tyK (32 + t) = 1) (hG0 : a_tyG (32 + t) = 0) (ety : a_ty t = nI (32 + t)) (eu : ∀ v, v < 32 → a_u (t * 32 + v) = 0) (hk : kd t = 12) (hOK : gt_e2 kd a_arg n t = 0 → ∀ ty bg ux uy u tK tG tA tB ea eb, gy_TI kd a_arg n (fun d => P d ∨ d = t) ty bg ux uy u (tK, tG, tA, tB) → post 1 (f_dLim, f_rLim, f_fLim, f_n, f_stat, f_err, f_out, f_vInt, f_recs, f_drf, f_fsp, a_kind, a_arg, a_ch, a_par, a_pos, a_seen, a_st, ty, tK, tG, tA, tB, u, bg, ux, uy, a_stk, ea, eb, a_rT, a_rE, a_rG, a_rN, a_rC, a_rX, a_fK, a_fA, a_fE)) (hF : ¬ gt_e2 kd a_arg n t = 0 → ∀ ty bg ux uy u tK tG tA tB ea eb, post (nI (gt_e2 kd a_arg n t)) (f_dLim, f_rLim, f_fLim, f_n, f_stat, f_err, f_out, f_vInt, f_recs, f_drf, f_fsp, a_kind, a_arg, a_ch, a_par, a_pos, a_seen, a_st, ty, tK, tG, tA, tB, u, bg, ux, uy, a_stk, ea, eb, a_rT, a_rE, a_rG, a_rN, a_rC, a_rX, a_fK, a_fA, a_fE)) : wY_finish_97 post (nI t) (nI 12) (a_arg t) (nI (gp_ch kd n t 0)) (nI (gp_ch kd n t 1)) x6 (nI (32 + t)) f_dLim f_rLim f_fLim f_n f_stat f_err f_out f_vInt f_recs f_drf f_fsp (fuel + 1) (nI 32) a_kind a_arg a_ch a_par a_pos a_seen a_st a_ty a_tyK a_tyG a_tyA a_tyB a_u a_bg a_ux a_uy a_stk a_eqA a_eqB a_rT a_rE a_rG a_rN a_rC a_rX a_fK a_fA a_fE := by
  have hA := A
  obtain ⟨ok, so, kr, sc, ag2, ag3, -⟩ := A
  have hn := ok.2.1
  have t32 : t < 32 := by omega
  have v := vp_in_nI t32 (by decide)
  have et : (nI t).toNatClampNeg = t := nI_clamp (by omega)
  have sl := gp_sn_lt ok ht
  have ar0 : 0 < gp_ar (kd t) := by rw [hk]; decide
  have ar1 : 1 < gp_ar (kd t) := by rw [hk]; decide
  have m0 := gp_tm_ch ok so ht (by omega) ar0 (by omega)
  have m1 := gp_tm_ch ok so ht (by omega) ar1 (by omega)
  have c0 := (gp_ch_lt ok ht ar0).1
  have c1 := (gp_ch_lt ok ht ar1).1
  have g0 := gp_ch_ge ok ht (Nat.le_of_lt ar0)
  have g1 := gp_ch_ge ok ht (Nat.le_of_lt ar1)
  have cl := gp_sn_lt ok c1
  rw [gp_sn_ch ok ht ar1] at cl
  obtain ⟨_, _, ⟨z, z1, z2, z3⟩, _⟩ := I.2.2 _ (hc 1 ar1 m1)
  have z64 := gy_o_lt hn z1
  have u0 := (gy_cu hA I ht ar0 (hc 0 ar0 m0) m0).1
  obtain ⟨u1, w1⟩ := gy_cu hA I ht ar1 (hc 1 ar1 m1) m1
  rw [show gp_bd (kd t) 0 = 0 from gp_bd_0 _] at u0
  rw [show gp_bd (kd t) 1 = 2 by rw [hk]; decide] at u1 w1 cl
  have wy := w1 0 (by omega)
  have wx := w1 1 (by omega)
  rw [show gp_sn kd t + 2 - 1 - 0 = gp_sn kd t + 1 by omega] at wy
  rw [show gp_sn kd t + 2 - 1 - 1 = gp_sn kd t by omega] at wx
  have ulx := gt_ule hA c1 m1 (gp_sn kd t)
  have uly := gt_ule hA c1 m1 (gp_sn kd t + 1)
  obtain ⟨a, a3, ea⟩ := ag3 t ht (by omega)
  have nd : gt_nd kd a_arg n t = gt_max (gt_u kd a_arg n (gp_ch kd n t 1) (gp_sn kd t)) (gt_u kd a_arg n (gp_ch kd n t 1) (gp_sn kd t + 1)) := by unfold gt_nd; rw [if_pos hk]
  have ml := gt_max_le ulx uly
  have sel := gt_se_le (ag3 t ht (by omega)) ml
  refine br_t (by decide) ?_
  repeat (refine br_f (by decide) ?_)
  refine gy_ug (v := 1) (by omega) (by omega) ?_
  rw [wx]
  unfold wY_finish_754
  refine br_f (by decide) (gy_ug (v := 0) (by omega) (by omega) ?_)
  rw [wy]
  refine gy_779 ea a3 ulx uly (fun q g eg => ?_) (fun q => ?_)
  · unfold wY_finish_816
    rw [et, nI_clamp (show gp_ch kd n t 1 < 2 ^ 31 by omega), z2, eg]
    refine ⟨v, nm_e ⟨v, nm_e ⟨v, nm_e ⟨vp_in_nI (by omega) (by decide), v, nm_e (gy_join (b := 1) sel (by omega) (br_f (by decide) ?_))⟩⟩⟩⟩
    refine gy_cb (s := gp_sn kd t) (m := 0) (sa := nI 0) (sb := nI 2) t32 (by omega) (S.2.2.2.2 t ht) (gt_max_le sel (by omega)) (by omega) (fun w hw => (u0 w hw).2) (fun w hw => (u1 w hw).2)
      (gy_rd (b := 0) (by omega) (by omega) (by omega) (fun w hw => (u0 w hw).1)) (gy_rd (b := 2) (by omega) (by omega) (by omega) (fun w hw => (u1 w hw).1)) ?_
    have e0 : gt_e2 kd a_arg n t = 0 := by
      unfold gt_e2
      rw [gt_if_f (by omega), gt_if_f (by
        rintro (⟨_, r⟩ | ⟨r, _⟩)
        · rw [nd] at r; exact q r
        · omega)]
    refine hOK e0 _ _ _ _ _ _ _ _ _ _ _ (gy_TI_add ok I ht (by omega) hnP (fun _ _ => ⟨rfl, rfl, rfl, rfl⟩) (gy_K1 hK1) (fun d hd => pk_un hd) ⟨z, gy_o_p z1, pk_us, ?_⟩ (fun j hj => gx_row_off (by omega) hj) (fun w hw => ?_) (fun d hd => ⟨pk_un hd, pk_un hd, pk_un hd⟩) (fun _ => ⟨?_, ?_⟩) (fun _ => ?_) (fun z => by omega))
    · rw [z3, gt_t12 ok ht hk]
    · rw [gx_row_in hw, gt_u12 ok ht hk]
      unfold gy_cf
      rw [if_pos rfl]
    · rw [pk_us, gt_b12 ok ht hk]
    · rw [pk_us]
    · rw [pk_us]
  · have e5 : gt_e2 kd a_arg n t = 5 := by
      unfold gt_e2
      rw [gt_if_f (by omega), gt_if_t (Or.inl ⟨Or.inr (Or.inl hk), by rw [nd]; exact q⟩)]
    have := hF (by rw [e5]; decide) a_ty a_bg a_ux a_uy a_u a_tyK a_tyG a_tyA a_tyB a_eqA a_eqB
    rw [e5] at this
    exact this
theorem gy_fCase {post : Int32 → SY → Prop} {kd : Nat → Nat} {n t fuel : Nat} {P : Nat → Prop} (A : gt_P kd a_arg n) (S : gy_S kd n a_kind a_ch a_par a_pos a_seen) (I : gy_TI kd a_arg n P a_ty a_bg a_ux a_uy a_u (a_tyK, a_tyG, a_tyA, a_tyB)) (ht : t < n) (hc : ∀ j, j < gp_ar (kd t) → ¬ kd (gp_ch kd n t j) ≤ 5 → P (gp_ch kd n t j)) (hnP : ¬ P t) (hK1 : a_tyK (32 + t) = 1) (hG0 : a_tyG (32 + t) = 0) (ety : a_ty t = nI (32 + t)) (eu : ∀ v, v < 32 → a_u (t * 32 + v) = 0) (hk : kd t = 15) (hfit : gs_fit 32 (gs_F 32) (gt_t kd a_arg n (gp_ch kd n t 1))) (hOK : gt_e2 kd a_arg n t = 0 → ∀ ty bg ux uy u tK tG tA tB ea eb, gy_TI kd a_arg n (fun d => P d ∨ d = t) ty bg ux uy u (tK, tG, tA, tB) → post 1 (f_dLim, f_rLim, f_fLim, f_n, f_stat, f_err, f_out, f_vInt, f_recs, f_drf, f_fsp, a_kind, a_arg, a_ch, a_par, a_pos, a_seen, a_st, ty, tK, tG, tA, tB, u, bg, ux, uy, a_stk, ea, eb, a_rT, a_rE, a_rG, a_rN, a_rC, a_rX, a_fK, a_fA, a_fE)) (hF : ¬ gt_e2 kd a_arg n t = 0 → ∀ ty bg ux uy u tK tG tA tB ea eb, post (nI (gt_e2 kd a_arg n t)) (f_dLim, f_rLim, f_fLim, f_n, f_stat, f_err, f_out, f_vInt, f_recs, f_drf, f_fsp, a_kind, a_arg, a_ch, a_par, a_pos, a_seen, a_st, ty, tK, tG, tA, tB, u, bg, ux, uy, a_stk, ea, eb, a_rT, a_rE, a_rG, a_rN, a_rC, a_rX, a_fK, a_fA, a_fE)) : wY_finish_97 post (nI t) (nI 15) (a_arg t) (nI (gp_ch kd n t 0)) (nI (gp_ch kd n t 1)) (nI (gp_ch kd n t 2)) (nI (32 + t)) f_dLim f_rLim f_fLim f_n f_stat f_err f_out f_vInt f_recs f_drf f_fsp (fuel + 1) (nI 32) a_kind a_arg a_ch a_par a_pos a_seen a_st a_ty a_tyK a_tyG a_tyA a_tyB a_u a_bg a_ux a_uy a_stk a_eqA a_eqB a_rT a_rE a_rG a_rN a_rC a_rX a_fK a_fA a_fE := by
  have hA := A
  obtain ⟨ok, so, kr, sc, ag2, ag3, -⟩ := A
  have hn := ok.2.1
  have t32 : t < 32 := by omega
  have v := vp_in_nI t32 (by decide)
  have et : (nI t).toNatClampNeg = t := nI_clamp (by omega)
  have sl := gp_sn_lt ok ht
  have ar0 : 0 < gp_ar (kd t) := by rw [hk]; decide
  have ar1 : 1 < gp_ar (kd t) := by rw [hk]; decide
  have ar2 : 2 < gp_ar (kd t) := by rw [hk]; decide
  have m0 := gp_tm_ch ok so ht (by omega) ar0 (by omega)
  have m1 := gp_tm_ch ok so ht (by omega) ar1 (by omega)
  have m2 := gp_tm_ch ok so ht (by omega) ar2 (by omega)
  have c0 := (gp_ch_lt ok ht ar0).1
  have c1 := (gp_ch_lt ok ht ar1).1
  have c2 := (gp_ch_lt ok ht ar2).1
  have g0 := gp_ch_ge ok ht (Nat.le_of_lt ar0)
  have g1 := gp_ch_ge ok ht (Nat.le_of_lt ar1)
  have g2 := gp_ch_ge ok ht (Nat.le_of_lt ar2)
  obtain ⟨_, _, ⟨y, y1, y2, y3⟩, _⟩ := I.2.2 _ (hc 1 ar1 m1)
  obtain ⟨_, _, ⟨z, z1, z2, z3⟩, _⟩ := I.2.2 _ (hc 2 ar2 m2)
  have y64 := gy_o_lt hn y1
  have z64 := gy_o_lt hn z1
  have u0 := (gy_cu hA I ht ar0 (hc 0 ar0 m0) m0).1
  obtain ⟨u1, w1⟩ := gy_cu hA I ht ar1 (hc 1 ar1 m1) m1
  obtain ⟨u2, w2⟩ := gy_cu hA I ht ar2 (hc 2 ar2 m2) m2
  rw [show gp_bd (kd t) 0 = 0 from gp_bd_0 _] at u0
  rw [show gp_bd (kd t) 1 = 1 by rw [hk]; decide] at u1 w1
  rw [show gp_bd (kd t) 2 = 1 by rw [hk]; decide] at u2 w2
  have wx := w1 0 (by omega)
  have wy := w2 0 (by omega)
  rw [show gp_sn kd t + 1 - 1 - 0 = gp_sn kd t by omega] at wx wy
  have ulx := gt_ule hA c1 m1 (gp_sn kd t)
  have uly := gt_ule hA c2 m2 (gp_sn kd t)
  obtain ⟨a, a3, ea⟩ := ag3 t ht (by omega)
  have nd : gt_nd kd a_arg n t = gt_max (gt_u kd a_arg n (gp_ch kd n t 1) (gp_sn kd t)) (gt_u kd a_arg n (gp_ch kd n t 2) (gp_sn kd t)) := by unfold gt_nd; rw [if_neg (by omega), if_pos hk]
  have ml := gt_max_le ulx uly
  have sel := gt_se_le (ag3 t ht (by omega)) ml
  refine br_t (by decide) ?_
  repeat (refine br_f (by decide) ?_)
  refine br_t (by decide) ?_
  rw [nI_clamp (show gp_ch kd n t 1 < 2 ^ 31 by omega), nI_clamp (show gp_ch kd n t 2 < 2 ^ 31 by omega), y2, z2]
  refine ⟨vp_in_nI (by omega) (by decide), vp_in_nI (by omega) (by decide), gy_same hn I.1 y1 z1 (by rw [y3]; exact hfit) (fun same eA eB => br_f (by decide) ?_) (fun dif eA eB => br_t rfl ?_)⟩
  · rw [y3, z3] at same
    try dsimp only
    unfold wY_finish_731
    refine br_t (by decide) (gy_ug (v := 0) (by omega) (by omega) ?_)
    rw [wx]
    unfold wY_finish_754
    refine br_t (by decide) (gy_ug (v := 0) (by omega) (by omega) ?_)
    rw [wy]
    refine gy_779 ea a3 ulx uly (fun q g eg => ?_) (fun q => ?_)
    · unfold wY_finish_816
      rw [et, nI_clamp (show gp_ch kd n t 1 < 2 ^ 31 by omega), y2, eg]
      refine ⟨v, nm_e ⟨v, nm_e ⟨v, nm_e ⟨vp_in_nI (by omega) (by decide), v, nm_e (gy_join (b := 1) sel (by omega) (br_t (by decide) ?_))⟩⟩⟩⟩
      refine gy_cb (s := gp_sn kd t) (g := 1) (m := 1) (sa := nI 1) (sb := nI 1) t32 (by omega) (S.2.2.2.2 t ht) (by omega) (by omega) (fun w hw => (u1 w hw).2) (fun w hw => (u2 w hw).2)
        (gy_rd (b := 1) (by omega) (by omega) (by omega) (fun w hw => (u1 w hw).1)) (gy_rd (b := 1) (by omega) (by omega) (by omega) (fun w hw => (u2 w hw).1)) ?_
      try dsimp only
      have F1 : ∀ w, w < gp_sn kd t → gy_cf 1 1 (fun w => gt_u kd a_arg n (gp_ch kd n t 1) (gp_sn kd t - 1 - w)) (fun w => gt_u kd a_arg n (gp_ch kd n t 2) (gp_sn kd t - 1 - w)) w = gt_max (gt_u kd a_arg n (gp_ch kd n t 1) (gp_sn kd t - 1 - w)) (gt_u kd a_arg n (gp_ch kd n t 2) (gp_sn kd t - 1 - w)) := by
        intro w hw
        unfold gy_cf
        rw [if_neg (by decide), gt_mul_1 (u1 w hw).2]
      refine gy_cb (s := gp_sn kd t) (m := 0) (sa := nI 0) (sb := nI 0) (pa := fun w => gt_u kd a_arg n (gp_ch kd n t 0) (gp_sn kd t - 1 - w)) (pb := fun w => gt_max (gt_u kd a_arg n (gp_ch kd n t 1) (gp_sn kd t - 1 - w)) (gt_u kd a_arg n (gp_ch kd n t 2) (gp_sn kd t - 1 - w))) t32 (by omega) (S.2.2.2.2 t ht) (gt_max_le sel (by omega)) (by omega) (fun w hw => (u0 w hw).2) (fun w hw => gt_max_le (u1 w hw).2 (u2 w hw).2)
        (gy_rd (b := 0) (by omega) (by omega) (by omega) (fun w hw => ?_)) (gy_rdS t32 (by omega) (fun w hw => ?_)) ?_
      · rw [Nat.add_zero, gx_row_o (by omega) (by omega) (by omega)]
        exact (u0 w hw).1
      · rw [gx_row_in hw, F1 w hw]
      have e0 : gt_e2 kd a_arg n t = 0 := by
        unfold gt_e2
        rw [gt_if_f (by
          rintro (⟨r, _⟩ | ⟨r, _⟩ | ⟨_, r⟩)
          · omega
          · omega
          · exact r same), gt_if_f (by
          rintro (⟨_, r⟩ | ⟨r, _⟩)
          · rw [nd] at r; exact q r
          · omega)]
      try dsimp only
      refine hOK e0 _ _ _ _ _ _ _ _ _ _ _ (gy_TI_add ok I ht (by omega) hnP (fun _ _ => ⟨rfl, rfl, rfl, rfl⟩) (gy_K1 hK1) (fun d hd => pk_un hd) ⟨y, gy_o_p y1, pk_us, ?_⟩ (fun j hj => by rw [gx_row_off (by omega) hj, gx_row_off (by omega) hj]) (fun w hw => ?_) (fun d hd => ⟨pk_un hd, pk_un hd, pk_un hd⟩) (fun _ => ⟨?_, ?_⟩) (fun z => by omega) (fun _ => ?_))
      · rw [y3, gt_t15 ok ht hk]
      · rw [gx_row_in hw, gt_u15 ok ht hk]
        unfold gy_cf
        rw [if_pos rfl]
      · rw [pk_us, gt_b15 ok ht hk]
      · rw [pk_us]
      · rw [pk_us]
    · have e5 : gt_e2 kd a_arg n t = 5 := by
        unfold gt_e2
        rw [gt_if_f (by
          rintro (⟨r, _⟩ | ⟨r, _⟩ | ⟨_, r⟩)
          · omega
          · omega
          · exact r same), gt_if_t (Or.inl ⟨Or.inr (Or.inr hk), by rw [nd]; exact q⟩)]
      have := hF (by rw [e5]; decide) a_ty a_bg a_ux a_uy a_u a_tyK a_tyG a_tyA a_tyB eA eB
      rw [e5] at this
      exact this
  · rw [y3, z3] at dif
    have e4 : gt_e2 kd a_arg n t = 4 := gt_if_t (Or.inr (Or.inr ⟨hk, dif⟩))
    have := hF (by rw [e4]; decide) a_ty a_bg a_ux a_uy a_u a_tyK a_tyG a_tyA a_tyB eA eB
    rw [e4] at this
    exact this
end
end
section
section
variable {f_dLim f_rLim f_fLim f_n f_stat f_err f_out f_vInt f_recs f_drf f_fsp : Int32} {a_kind a_arg a_ch a_par a_pos a_seen a_st a_ty a_tyK a_tyG a_tyA a_tyB a_u a_bg a_ux a_uy a_stk a_eqA a_eqB a_rT a_rE a_rG a_rN a_rC a_rX a_fK a_fA a_fE : Nat → Int32}
theorem gy_zero {post : Int32 → SY → Prop} {t : Nat} {us : Nat → Int32} {x2 x3 x4 x5 x6 x7 : Int32} (ht : t < 32) (h : ∀ fuel, wY_finish_97 post (nI t) x2 x3 x4 x5 x6 x7 f_dLim f_rLim f_fLim f_n f_stat f_err f_out f_vInt f_recs f_drf f_fsp (fuel + 1) (nI 32) a_kind a_arg a_ch a_par a_pos a_seen a_st a_ty a_tyK a_tyG a_tyA a_tyB (gx_row us t 32 (fun _ => 0)) a_bg a_ux a_uy a_stk a_eqA a_eqB a_rT a_rE a_rG a_rN a_rC a_rX a_fK a_fA a_fE) :
    ∀ d v fuel, v + d = 32 → d < fuel → wY_finish_97 post (nI t) x2 x3 x4 x5 x6 x7 f_dLim f_rLim f_fLim f_n f_stat f_err f_out f_vInt f_recs f_drf f_fsp fuel (nI v) a_kind a_arg a_ch a_par a_pos a_seen a_st a_ty a_tyK a_tyG a_tyA a_tyB (gx_row us t v (fun _ => 0)) a_bg a_ux a_uy a_stk a_eqA a_eqB a_rT a_rE a_rG a_rN a_rC a_rX a_fK a_fA a_fE
  | _, _, 0, _, hf => by omega
  | 0, v, fuel + 1, hv, hf => by
    have e : v = 32 := by omega
    subst e
    exact h fuel
  | d + 1, v, fuel + 1, hv, hf => by
    have IH := gy_zero (us := us) ht h d (v + 1) fuel (by omega) (by omega)
    refine br_f (nI_ge (b := 32) (by omega) (by decide)) ?_
    rw [gx_ix, nI_clamp (show t * 32 + v < 2 ^ 31 by omega)]
    exact ⟨vp_in_nI (by omega) (by decide), nm_r (gx_row_s us t v (fun _ => 0)) (nm_r (nI_1 v) IH)⟩
theorem gy_zero0 {post : Int32 → SY → Prop} {t : Nat} {us : Nat → Int32} {x2 x3 x4 x5 x6 x7 : Int32} (ht : t < 32) (h : ∀ fuel, wY_finish_97 post (nI t) x2 x3 x4 x5 x6 x7 f_dLim f_rLim f_fLim f_n f_stat f_err f_out f_vInt f_recs f_drf f_fsp (fuel + 1) (nI 32) a_kind a_arg a_ch a_par a_pos a_seen a_st a_ty a_tyK a_tyG a_tyA a_tyB (gx_row us t 32 (fun _ => 0)) a_bg a_ux a_uy a_stk a_eqA a_eqB a_rT a_rE a_rG a_rN a_rC a_rX a_fK a_fA a_fE) :
    wY_finish_97 post (nI t) x2 x3 x4 x5 x6 x7 f_dLim f_rLim f_fLim f_n f_stat f_err f_out f_vInt f_recs f_drf f_fsp 33 (nI 0) a_kind a_arg a_ch a_par a_pos a_seen a_st a_ty a_tyK a_tyG a_tyA a_tyB us a_bg a_ux a_uy a_stk a_eqA a_eqB a_rT a_rE a_rG a_rN a_rC a_rX a_fK a_fA a_fE := by
  have := gy_zero (us := us) ht h 32 0 33 (by omega) (by omega)
  rw [gx_row_0] at this
  exact this
theorem gy_fin {post : Int32 → SY → Prop} {kd : Nat → Nat} {n t : Nat} {P : Nat → Prop} (A : gt_P kd a_arg n) (S : gy_S kd n a_kind a_ch a_par a_pos a_seen) (I : gy_TI kd a_arg n P a_ty a_bg a_ux a_uy a_u (a_tyK, a_tyG, a_tyA, a_tyB)) (ht : t < n) (htk : ¬ kd t ≤ 5) (hc : ∀ j, j < gp_ar (kd t) → ¬ kd (gp_ch kd n t j) ≤ 5 → P (gp_ch kd n t j)) (hnP : ¬ P t)
    (hB : gy_HB kd a_arg n P t) (hfit : 1 < gp_ar (kd t) → gs_fit 32 (gs_F 32) (gt_t kd a_arg n (gp_ch kd n t 1))) (hOK : gt_e2 kd a_arg n t = 0 → ∀ ty bg ux uy u tK tG tA tB ea eb, gy_TI kd a_arg n (fun d => P d ∨ d = t) ty bg ux uy u (tK, tG, tA, tB) → post 1 (f_dLim, f_rLim, f_fLim, f_n, f_stat, f_err, f_out, f_vInt, f_recs, f_drf, f_fsp, a_kind, a_arg, a_ch, a_par, a_pos, a_seen, a_st, ty, tK, tG, tA, tB, u, bg, ux, uy, a_stk, ea, eb, a_rT, a_rE, a_rG, a_rN, a_rC, a_rX, a_fK, a_fA, a_fE)) (hF : ¬ gt_e2 kd a_arg n t = 0 → ∀ ty bg ux uy u tK tG tA tB ea eb, post (nI (gt_e2 kd a_arg n t)) (f_dLim, f_rLim, f_fLim, f_n, f_stat, f_err, f_out, f_vInt, f_recs, f_drf, f_fsp, a_kind, a_arg, a_ch, a_par, a_pos, a_seen, a_st, ty, tK, tG, tA, tB, u, bg, ux, uy, a_stk, ea, eb, a_rT, a_rE, a_rG, a_rN, a_rC, a_rX, a_fK, a_fA, a_fE)) : wpY_finish post (f_dLim, f_rLim, f_fLim, f_n, f_stat, f_err, f_out, f_vInt, f_recs, f_drf, f_fsp, a_kind, a_arg, a_ch, a_par, a_pos, a_seen, a_st, a_ty, a_tyK, a_tyG, a_tyA, a_tyB, a_u, a_bg, a_ux, a_uy, a_stk, a_eqA, a_eqB, a_rT, a_rE, a_rG, a_rN, a_rC, a_rX, a_fK, a_fA, a_fE) (nI t) := by
  have hA := A
  obtain ⟨ok, so, kr, -⟩ := A
  have hn := ok.2.1
  have t32 : t < 32 := by omega
  have v := vp_in_nI t32 (by decide)
  have v64 := vp_in_nI (show 32 + t < 64 by omega) (by decide)
  have et : (nI t).toNatClampNeg = t := nI_clamp (by omega)
  have k17 := (kr t ht).2
  have e3 : nI t * 3 = nI (3 * t) := by rw [show (nI t * 3 : Int32) = nI (t * 3) from pk_mul t 3, Nat.mul_comm]
  have e31 : nI (3 * t) + 1 = nI (3 * t + 1) := nI_1 _
  have e32 : nI (3 * t) + 2 = nI (3 * t + 2) := nI_add (3 * t) 2
  have ep : (32 : Int32) + nI t = nI (32 + t) := nI_add 32 t
  unfold wpY_finish
  try dsimp only
  rw [et, e3, e31, e32, nI_clamp (show 3 * t < 2 ^ 31 by omega), nI_clamp (show 3 * t + 1 < 2 ^ 31 by omega), nI_clamp (show 3 * t + 2 < 2 ^ 31 by omega), S.1 t ht]
  refine ⟨v, nm_e ⟨v, nm_e ⟨vp_in_nI (by omega) (by decide), nm_e ⟨vp_in_nI (by omega) (by decide), nm_e ⟨vp_in_nI (by omega) (by decide), nm_e (nm_r ep ⟨v64, ?_⟩)⟩⟩⟩⟩⟩
  rw [nI_clamp (show 32 + t < 2 ^ 31 by omega)]
  refine nm_e ⟨v64, nm_e ⟨v64, nm_e ⟨v64, nm_e ⟨v, nm_e ⟨33, ?_⟩⟩⟩⟩⟩
  have hT : ∀ x, x ≠ 32 + t → upd a_tyK (32 + t) 1 x = a_tyK x ∧ upd a_tyG (32 + t) 0 x = a_tyG x ∧ upd a_tyA (32 + t) 0 x = a_tyA x ∧ upd a_tyB (32 + t) 0 x = a_tyB x := fun x hx => ⟨pk_un hx, pk_un hx, pk_un hx, pk_un hx⟩
  have st := fun {x : Nat} (hx : gy_o kd n P x) => gy_st (T' := (upd a_tyK (32 + t) 1, upd a_tyG (32 + t) 0, upd a_tyA (32 + t) 0, upd a_tyB (32 + t) 0)) hn I hnP hT hx
  have ne : ∀ x, gy_o kd n P x → x ≠ 32 + t := by
    intro x hx
    rcases hx with hx | ⟨d, a, b, c, e⟩
    · omega
    · intro z
      have : d = t := by omega
      subst this
      exact hnP b
  have I' : gy_TI kd a_arg n P (upd a_ty t (nI (32 + t))) a_bg a_ux a_uy (gx_row a_u t 32 (fun _ => 0)) (upd a_tyK (32 + t) 1, upd a_tyG (32 + t) 0, upd a_tyA (32 + t) 0, upd a_tyB (32 + t) 0) := by
    refine ⟨fun y hy => ?_, fun i hi hk => ?_, fun d hd => ?_⟩
    · obtain ⟨t1, t2, t3, t4⟩ := hT y (ne y hy)
      have := I.1 y hy
      unfold gy_c at this ⊢
      dsimp only at this ⊢
      rw [t1, t3, t4]
      exact this
    · rw [st (Or.inl ⟨hi, hk⟩)]
      exact I.2.1 i hi hk
    · have nd : d ≠ t := fun z => by rw [z] at hd; exact hnP hd
      obtain ⟨a1, a2, ⟨y, y1, y2, y3⟩, a4, a5⟩ := I.2.2 d hd
      have sl := gp_sn_lt ok a1
      refine ⟨a1, a2, ⟨y, y1, by rw [pk_un nd]; exact y2, by rw [st y1]; exact y3⟩, fun w hw => ?_, a5⟩
      rw [gx_row_o (by omega) (by omega) nd]
      exact a4 w hw
  have hK1 : upd a_tyK (32 + t) 1 (32 + t) = 1 := pk_us
  have hG0 : upd a_tyG (32 + t) 0 (32 + t) = 0 := pk_us
  have ety : upd a_ty t (nI (32 + t)) t = nI (32 + t) := pk_us
  have eu : ∀ w, w < 32 → gx_row a_u t 32 (fun _ => 0) (t * 32 + w) = 0 := fun w hw => gx_row_in hw
  have ch0 : 0 < gp_ar (kd t) → a_ch (3 * t) = nI (gp_ch kd n t 0) := fun z => by have := S.2.2.2.1 t ht 0 z; rw [Nat.add_zero] at this; exact this
  have ch1 : 1 < gp_ar (kd t) → a_ch (3 * t + 1) = nI (gp_ch kd n t 1) := fun z => S.2.2.2.1 t ht 1 z
  have ch2 : 2 < gp_ar (kd t) → a_ch (3 * t + 2) = nI (gp_ch kd n t 2) := fun z => S.2.2.2.1 t ht 2 z
  refine gy_zero0 t32 (fun fuel => ?_)
  have hcase : kd t = 6 ∨ kd t = 7 ∨ kd t = 8 ∨ kd t = 9 ∨ kd t = 10 ∨ kd t = 11 ∨ kd t = 12 ∨ (kd t = 13 ∨ kd t = 14) ∨ kd t = 15 ∨ kd t = 16 ∨ kd t = 17 := by omega
  rcases hcase with e | e | e | e | e | e | e | e | e | e | e
  · rw [e]
    exact gy_fVar hA S I' ht hc hnP hK1 hG0 ety eu e hB hOK
  · rw [e]
    exact gy_fLit hA S I' ht hc hnP hK1 hG0 ety eu e hOK
  · rw [ch0 (by rw [e]; decide), ch1 (by rw [e]; decide), e]
    exact gy_fAdd hA S I' ht hc hnP hK1 hG0 ety eu e hOK hF
  · rw [ch0 (by rw [e]; decide), ch1 (by rw [e]; decide), e]
    exact gy_fLam hA S I' ht hc hnP hK1 hG0 ety eu e hOK hF
  · have f := hfit (by rw [e]; decide)
    rw [ch0 (by rw [e]; decide), ch1 (by rw [e]; decide), e]
    exact gy_fApp hA S I' ht hc hnP hK1 hG0 ety eu e f hOK hF
  · rw [ch0 (by rw [e]; decide), ch1 (by rw [e]; decide), e]
    exact gy_fPair hA S I' ht hc hnP hK1 hG0 ety eu e hOK
  · rw [ch0 (by rw [e]; decide), ch1 (by rw [e]; decide), e]
    exact gy_fLP hA S I' ht hc hnP hK1 hG0 ety eu e hOK hF
  · have ar : gp_ar (kd t) = 2 := by rcases e with e | e <;> rw [e] <;> decide
    rw [ch0 (by omega), ch1 (by omega)]
    exact gy_fIn hA S I' ht hc hnP hK1 hG0 ety eu e hOK
  · have f := hfit (by rw [e]; decide)
    rw [ch0 (by rw [e]; decide), ch1 (by rw [e]; decide), ch2 (by rw [e]; decide), e]
    exact gy_fCase hA S I' ht hc hnP hK1 hG0 ety eu e f hOK hF
  · rw [ch0 (by rw [e]; decide), e]
    exact gy_fBox hA S I' ht hc hnP hK1 hG0 ety eu e hOK
  · rw [ch0 (by rw [e]; decide), ch1 (by rw [e]; decide), e]
    exact gy_fLB hA S I' ht hc hnP hK1 hG0 ety eu e hOK hF
end
end
section
theorem gt_pe_ok {kd : Nat → Nat} {ag : Nat → Int32} {n d : Nat} (hk : ¬ kd d ≤ 5) (h : (gt_pe kd ag n d).1 = 0) : (∀ j, j < gp_ar (kd d) → (gt_er kd ag n (gp_ch kd n d j)).1 = 0) ∧ gt_e1 kd ag n d = 0 := by
  have h3 := gp_ar_le (kd d)
  unfold gt_pe at h
  rw [if_neg hk] at h
  by_cases c0 : 0 < gp_ar (kd d) ∧ ¬ (gt_er kd ag n (gp_ch kd n d 0)).1 = 0
  · rw [if_pos c0] at h; exact absurd h c0.2
  rw [if_neg c0] at h
  by_cases c1 : ¬ gt_e1 kd ag n d = 0
  · rw [if_pos c1] at h; exact absurd h c1
  rw [if_neg c1] at h
  by_cases c2 : 1 < gp_ar (kd d) ∧ ¬ (gt_er kd ag n (gp_ch kd n d 1)).1 = 0
  · rw [if_pos c2] at h; exact absurd h c2.2
  rw [if_neg c2] at h
  by_cases c3 : 2 < gp_ar (kd d) ∧ ¬ (gt_er kd ag n (gp_ch kd n d 2)).1 = 0
  · rw [if_pos c3] at h; exact absurd h c3.2
  refine ⟨fun j hj => ?_, Classical.not_not.mp c1⟩
  have : j = 0 ∨ j = 1 ∨ j = 2 := by omega
  rcases this with rfl | rfl | rfl
  · exact Classical.byContradiction fun z => c0 ⟨hj, z⟩
  · exact Classical.byContradiction fun z => c2 ⟨hj, z⟩
  · exact Classical.byContradiction fun z => c3 ⟨hj, z⟩
theorem gy_TI_iff {kd : Nat → Nat} {ag : Nat → Int32} {n : Nat} {P Q : Nat → Prop} {ty bg ux uy u : Nat → Int32} {T : gd_Tb} (h : ∀ d, d < n → ¬ kd d ≤ 5 → (P d ↔ Q d)) (hQ : ∀ d, Q d → d < n ∧ ¬ kd d ≤ 5) (I : gy_TI kd ag n P ty bg ux uy u T) : gy_TI kd ag n Q ty bg ux uy u T := by
  have up : ∀ {y : Nat}, gy_o kd n P y → gy_o kd n Q y := by
    intro y hy
    rcases hy with hy | ⟨d, a, b, c, e⟩
    · exact Or.inl hy
    · exact Or.inr ⟨d, a, (h d a c).mp b, c, e⟩
  refine ⟨fun y hy => ?_, I.2.1, fun d hd => ?_⟩
  · have oy : gy_o kd n P y := by
      rcases hy with hy | ⟨d, a, b, c, e⟩
      · exact Or.inl hy
      · exact Or.inr ⟨d, a, (h d a c).mpr b, c, e⟩
    obtain ⟨c1, c2⟩ := I.1 y oy
    refine ⟨fun z => ?_, fun z w => ?_⟩
    · obtain ⟨a, a1, a2⟩ := c1 z
      exact ⟨a, up a1, a2⟩
    · obtain ⟨a, a1, a2⟩ := c2 z w
      exact ⟨a, up a1, a2⟩
  · obtain ⟨d1, d2⟩ := hQ d hd
    obtain ⟨a1, a2, ⟨y, y1, y2⟩, a4⟩ := I.2.2 d ((h d d1 d2).mpr hd)
    exact ⟨a1, a2, ⟨y, up y1, y2⟩, a4⟩
section
variable {f_dLim f_rLim f_fLim f_n f_stat f_err f_out f_vInt f_recs f_drf f_fsp : Int32} {a_kind a_arg a_ch a_par a_pos a_seen a_st a_ty a_tyK a_tyG a_tyA a_tyB a_u a_bg a_ux a_uy a_stk a_eqA a_eqB a_rT a_rE a_rG a_rN a_rC a_rX a_fK a_fA a_fE : Nat → Int32}
/-- at the head of the loop, t on top, its next child not yet begun -/
theorem gy_step {post : Int32 → SY → Prop} {kd : Nat → Nat} {n t j dp it f : Nat} {P : Nat → Prop} (A : gt_P kd a_arg n) (S : gy_S kd n a_kind a_ch a_par a_pos a_seen) (I : gy_TI kd a_arg n P a_ty a_bg a_ux a_uy a_u (a_tyK, a_tyG, a_tyA, a_tyB)) (ht : t < n) (htk : ¬ kd t ≤ 5)
    (hj : j < gp_ar (kd t)) (h1 : j = 1 → (kd t = 12 ∨ kd t = 15 ∨ kd t = 17) → P (gp_ch kd n t 0)) (hd : dp ≤ 32) (hit : it < 100) (hstk : a_stk dp = nI t) (hst : a_st t = nI j)
    (hF : j = 1 → ¬ gt_e1 kd a_arg n t = 0 → post 4 (f_dLim, f_rLim, f_fLim, f_n, f_stat, nI t, f_out, f_vInt, f_recs, f_drf, f_fsp, a_kind, a_arg, a_ch, a_par, a_pos, a_seen, a_st, a_ty, a_tyK, a_tyG, a_tyA, a_tyB, a_u, a_bg, a_ux, a_uy, a_stk, a_eqA, a_eqB, a_rT, a_rE, a_rG, a_rN, a_rC, a_rX, a_fK, a_fA, a_fE))
    (hgo : (j = 1 → gt_e1 kd a_arg n t = 0) → wY_doCheck_476 post f (nI (dp + 1 + 1)) (nI (it + 1)) f_dLim f_rLim f_fLim f_n f_stat f_err f_out f_vInt f_recs f_drf f_fsp a_kind a_arg a_ch a_par a_pos a_seen (upd (upd a_st t (nI (j + 1))) (gp_ch kd n t j) (nI (gp_ss (kd (gp_ch kd n t j))))) a_ty a_tyK a_tyG a_tyA a_tyB a_u a_bg a_ux a_uy (upd a_stk (dp + 1) (nI (gp_ch kd n t j))) a_eqA a_eqB a_rT a_rE a_rG a_rN a_rC a_rX a_fK a_fA a_fE) :
    wY_doCheck_476 post (f + 1) (nI (dp + 1)) (nI it) f_dLim f_rLim f_fLim f_n f_stat f_err f_out f_vInt f_recs f_drf f_fsp a_kind a_arg a_ch a_par a_pos a_seen a_st a_ty a_tyK a_tyG a_tyA a_tyB a_u a_bg a_ux a_uy a_stk a_eqA a_eqB a_rT a_rE a_rG a_rN a_rC a_rX a_fK a_fA a_fE := by
  have hA := A
  obtain ⟨ok, so, kr, -⟩ := A
  have hn := ok.2.1
  have t32 : t < 32 := by omega
  have v := vp_in_nI t32 (by decide)
  have et : (nI t).toNatClampNeg = t := nI_clamp (by omega)
  have k1 := (kr t ht).1
  have k17 := (kr t ht).2
  have a3 := gp_ar_le (kd t)
  have cn := (gp_ch_lt ok ht hj).1
  have go : (j = 1 → gt_e1 kd a_arg n t = 0) → wY_doCheck_594 post (wY_doCheck_476 post f) (nI (dp + 1)) (nI it) (nI t) (nI (kd t)) (nI j) f_dLim f_rLim f_fLim f_n f_stat f_err f_out f_vInt f_recs f_drf f_fsp a_kind a_arg a_ch a_par a_pos a_seen a_st a_ty a_tyK a_tyG a_tyA a_tyB a_u a_bg a_ux a_uy a_stk a_eqA a_eqB a_rT a_rE a_rG a_rN a_rC a_rX a_fK a_fA a_fE := by
    intro he
    unfold wY_doCheck_594
    refine gy_ar k1 k17 (br_f (nI_ge hj (by omega)) ?_)
    have vc := vp_in_nI (show gp_ch kd n t j < 32 by omega) (by decide)
    rw [gx_ix3, nI_clamp (show 3 * t + j < 2 ^ 31 by omega), S.2.2.2.1 t ht j hj, et, nI_1]
    refine ⟨vp_in_nI (by omega) (by decide), nm_e ⟨v, nm_e ⟨vc, ?_⟩⟩⟩
    rw [nI_clamp (show gp_ch kd n t j < 2 ^ 31 by omega), S.1 _ cn]
    refine gy_ss (kr _ cn).1 (kr _ cn).2 ⟨vc, nm_e (br_f (nI_ge (b := 80) (by omega) (by decide)) ⟨vp_in_nI (by omega) (by decide), ?_⟩)⟩
    rw [nI_clamp (show dp + 1 < 2 ^ 31 by omega)]
    exact nm_e (nm_r (nI_1 _) (nm_r (nI_1 it) (hgo he)))
  refine br_f (nI_ge (b := 200) (by omega) (by decide)) (br_f (nI_nle (by omega) (by omega)) ?_)
  rw [nI_pred, nI_clamp (show dp < 2 ^ 31 by omega), hstk]
  refine ⟨vp_in_nI (by omega) (by decide), nm_e ⟨v, ?_⟩⟩
  rw [et, S.1 t ht, hst]
  refine nm_e ⟨v, nm_e (pk_eq j 1 (fun j1 => ?_) (fun j1 => go (fun z => absurd z j1)))⟩
  have kinds : (kd t = 12 ∨ kd t = 15 ∨ kd t = 17) → ∀ z0 : Int32, (gt_k (gt_t kd a_arg n (gp_ch kd n t 0)) = z0 ↔ gt_e1 kd a_arg n t = 0) → wY_doCheck_562 post (wY_doCheck_476 post f) (nI (dp + 1)) (nI it) (nI t) (nI (kd t)) (nI j) z0 f_dLim f_rLim f_fLim f_n f_stat f_err f_out f_vInt f_recs f_drf f_fsp a_kind a_arg a_ch a_par a_pos a_seen a_st a_ty a_tyK a_tyG a_tyA a_tyB a_u a_bg a_ux a_uy a_stk a_eqA a_eqB a_rT a_rE a_rG a_rN a_rC a_rX a_fK a_fA a_fE := by
    intro hk z0 hz
    obtain ⟨_, _, ⟨y, y1, y2, y3⟩, _⟩ := I.2.2 _ (h1 j1 hk)
    have y64 := gy_o_lt hn y1
    have ky := (gd_k y3).1
    dsimp only at ky
    have ch0 := S.2.2.2.1 t ht 0 (by omega)
    rw [Nat.add_zero] at ch0
    have c0 := (gp_ch_lt ok ht (j := 0) (by omega)).1
    have e3 : nI t * 3 = nI (3 * t) := by rw [show (nI t * 3 : Int32) = nI (t * 3) from pk_mul t 3, Nat.mul_comm]
    unfold wY_doCheck_562
    rw [e3, nI_clamp (show 3 * t < 2 ^ 31 by omega), ch0, nI_clamp (show gp_ch kd n t 0 < 2 ^ 31 by omega), y2, nI_clamp (show y < 2 ^ 31 by omega), ky]
    exact ⟨vp_in_nI (by omega) (by decide), vp_in_nI (by omega) (by decide), vp_in_nI y64 (by decide), br_c (fun q => go (fun _ => hz.mp q)) (fun q => hF j1 (fun w => q (hz.mpr w)))⟩
  have e12 : kd t = 12 → (gt_k (gt_t kd a_arg n (gp_ch kd n t 0)) = 2 ↔ gt_e1 kd a_arg n t = 0) := fun e => ⟨fun q => gt_if_f (by
      rintro (⟨_, r⟩ | ⟨r, _⟩ | ⟨r, _⟩)
      · exact r q
      · omega
      · omega), fun q => (gt_e1_0 q).1 e⟩
  have e15 : kd t = 15 → (gt_k (gt_t kd a_arg n (gp_ch kd n t 0)) = 3 ↔ gt_e1 kd a_arg n t = 0) := fun e => ⟨fun q => gt_if_f (by
      rintro (⟨r, _⟩ | ⟨_, r⟩ | ⟨r, _⟩)
      · omega
      · exact r q
      · omega), fun q => (gt_e1_0 q).2.1 e⟩
  have e17 : kd t = 17 → (gt_k (gt_t kd a_arg n (gp_ch kd n t 0)) = 5 ↔ gt_e1 kd a_arg n t = 0) := fun e => ⟨fun q => gt_if_f (by
      rintro (⟨r, _⟩ | ⟨r, _⟩ | ⟨_, r⟩)
      · omega
      · omega
      · exact r q), fun q => (gt_e1_0 q).2.2 e⟩
  refine pk_eq (kd t) 12 (fun e => ?_) (fun n12 => pk_eq (kd t) 15 (fun e => ?_) (fun n15 => pk_eq (kd t) 17 (fun e => ?_) (fun n17 => go (fun _ => gt_if_f (by omega)))))
  · exact pk_eq (kd t) 12 (fun _ => kinds (Or.inl e) 2 (e12 e)) (fun z => absurd e z)
  · exact pk_eq (kd t) 12 (fun z => by omega) (fun _ => pk_eq (kd t) 15 (fun _ => kinds (Or.inr (Or.inl e)) 3 (e15 e)) (fun z => absurd e z))
  · exact pk_eq (kd t) 12 (fun z => by omega) (fun _ => pk_eq (kd t) 15 (fun z => by omega) (fun _ => kinds (Or.inr (Or.inr e)) 5 (e17 e)))
/-- at the head of the loop, all children of c done -/
theorem gy_done {post : Int32 → SY → Prop} {kd : Nat → Nat} {n t dp it f : Nat} {P : Nat → Prop} (A : gt_P kd a_arg n) (S : gy_S kd n a_kind a_ch a_par a_pos a_seen) (I : gy_TI kd a_arg n P a_ty a_bg a_ux a_uy a_u (a_tyK, a_tyG, a_tyA, a_tyB)) (ht : t < n) (htk : ¬ kd t ≤ 5) (hc : ∀ j, j < gp_ar (kd t) → ¬ kd (gp_ch kd n t j) ≤ 5 → P (gp_ch kd n t j)) (hnP : ¬ P t)
    (hB : gy_HB kd a_arg n P t) (hfit : 1 < gp_ar (kd t) → gs_fit 32 (gs_F 32) (gt_t kd a_arg n (gp_ch kd n t 1))) (hd : dp ≤ 32) (hit : it < 100) (hstk : a_stk dp = nI t) (hst : a_st t = nI (gp_ar (kd t)))
    (hOK : gt_e2 kd a_arg n t = 0 → ∀ ty bg ux uy u tK tG tA tB ea eb, gy_TI kd a_arg n (fun d => P d ∨ d = t) ty bg ux uy u (tK, tG, tA, tB) → wY_doCheck_476 post f (nI dp) (nI (it + 1)) f_dLim f_rLim f_fLim f_n f_stat f_err f_out f_vInt f_recs f_drf f_fsp a_kind a_arg a_ch a_par a_pos a_seen a_st ty tK tG tA tB u bg ux uy a_stk ea eb a_rT a_rE a_rG a_rN a_rC a_rX a_fK a_fA a_fE)
    (hF : ¬ gt_e2 kd a_arg n t = 0 → ∀ ty bg ux uy u tK tG tA tB ea eb, post (nI (gt_e2 kd a_arg n t)) (f_dLim, f_rLim, f_fLim, f_n, f_stat, nI t, f_out, f_vInt, f_recs, f_drf, f_fsp, a_kind, a_arg, a_ch, a_par, a_pos, a_seen, a_st, ty, tK, tG, tA, tB, u, bg, ux, uy, a_stk, ea, eb, a_rT, a_rE, a_rG, a_rN, a_rC, a_rX, a_fK, a_fA, a_fE)) :
    wY_doCheck_476 post (f + 1) (nI (dp + 1)) (nI it) f_dLim f_rLim f_fLim f_n f_stat f_err f_out f_vInt f_recs f_drf f_fsp a_kind a_arg a_ch a_par a_pos a_seen a_st a_ty a_tyK a_tyG a_tyA a_tyB a_u a_bg a_ux a_uy a_stk a_eqA a_eqB a_rT a_rE a_rG a_rN a_rC a_rX a_fK a_fA a_fE := by
  have hA := A
  obtain ⟨ok, so, kr, -⟩ := A
  have hn := ok.2.1
  have t32 : t < 32 := by omega
  have v := vp_in_nI t32 (by decide)
  have et : (nI t).toNatClampNeg = t := nI_clamp (by omega)
  have k1 := (kr t ht).1
  have k17 := (kr t ht).2
  have a3 := gp_ar_le (kd t)
  have go : wY_doCheck_594 post (wY_doCheck_476 post f) (nI (dp + 1)) (nI it) (nI t) (nI (kd t)) (nI (gp_ar (kd t))) f_dLim f_rLim f_fLim f_n f_stat f_err f_out f_vInt f_recs f_drf f_fsp a_kind a_arg a_ch a_par a_pos a_seen a_st a_ty a_tyK a_tyG a_tyA a_tyB a_u a_bg a_ux a_uy a_stk a_eqA a_eqB a_rT a_rE a_rG a_rN a_rC a_rX a_fK a_fA a_fE := by
    unfold wY_doCheck_594
    refine gy_ar k1 k17 (br_t (nI_le (Nat.le_refl _) (by omega)) (nm_r (pk_m1 dp) (gy_fin hA S I ht htk hc hnP hB hfit (fun e0 ty bg ux uy u tK tG tA tB ea eb I' => ?_) (fun e0 ty bg ux uy u tK tG tA tB ea eb => ?_))))
    · exact br_t rfl (nm_r (nI_1 it) (hOK e0 ty bg ux uy u tK tG tA tB ea eb I'))
    · have ne1 : ¬ nI (gt_e2 kd a_arg n t) = 1 := by
        rcases gt_e2_45 (kd := kd) (ag := a_arg) (n := n) (d := t) with y | y | y
        · exact absurd y e0
        · rw [y]; decide
        · rw [y]; decide
      exact br_f ne1 (hF e0 ty bg ux uy u tK tG tA tB ea eb)
  refine br_f (nI_ge (b := 200) (by omega) (by decide)) (br_f (nI_nle (by omega) (by omega)) ?_)
  rw [nI_pred, nI_clamp (show dp < 2 ^ 31 by omega), hstk]
  refine ⟨vp_in_nI (by omega) (by decide), nm_e ⟨v, ?_⟩⟩
  rw [et, S.1 t ht, hst]
  refine nm_e ⟨v, nm_e (pk_eq (gp_ar (kd t)) 1 (fun a1 => ?_) (fun _ => go))⟩
  have nb : kd t ≠ 12 ∧ kd t ≠ 15 ∧ kd t ≠ 17 := by
    refine ⟨fun e => ?_, fun e => ?_, fun e => ?_⟩ <;> (rw [e] at a1; exact absurd a1 (by decide))
  exact pk_eq (kd t) 12 (fun z => absurd z nb.1) (fun _ => pk_eq (kd t) 15 (fun z => absurd z nb.2.1) (fun _ => pk_eq (kd t) 17 (fun z => absurd z nb.2.2) (fun _ => go)))
end
end
section
theorem gy_HB_c2 {kd : Nat → Nat} {ag : Nat → Int32} {n t j : Nat} {P Q : Nat → Prop} (ok : gp_ok kd n) (ht : t < n) (hj : j < gp_ar (kd t)) (hPQ : ∀ d, P d → Q d) (h : gy_HB kd ag n P t) (h0 : 0 < gp_bd (kd t) j → (kd t ≠ 9 → Q (gp_ch kd n t 0)) ∧ gt_e1 kd ag n t = 0) : gy_HB kd ag n Q (gp_ch kd n t j) := by
  intro v hv
  rw [gp_sn_ch ok ht hj] at hv
  rcases Nat.lt_or_ge v (gp_sn kd t) with z | z
  · rw [gp_lc_up ok ht hj z]
    exact ⟨fun y => hPQ _ ((h v z).1 y), (h v z).2⟩
  · rw [gp_lc_new ok ht hj z]
    exact h0 (by omega)
theorem gy_HB_m {kd : Nat → Nat} {ag : Nat → Int32} {n t : Nat} {P Q : Nat → Prop} (hPQ : ∀ d, P d → Q d) (h : gy_HB kd ag n P t) : gy_HB kd ag n Q t := fun v hv => ⟨fun y => hPQ _ ((h v hv).1 y), (h v hv).2⟩
theorem gp_ch_en {kd : Nat → Nat} {n t j : Nat} (ok : gp_ok kd n) (ht : t < n) (hj : j < gp_ar (kd t)) : t < gp_ch kd n t j ∧ gp_ch kd n t j < gp_en kd n t ∧ gp_en kd n (gp_ch kd n t j) ≤ gp_en kd n t := by
  have hn := ok.2.1
  have b1 := gp_ch_ge ok ht (Nat.le_of_lt hj)
  have b2 := gt_mu_ch ok ht hj
  have b3 := (gp_ch_lt ok ht hj).1
  have b4 := (gp_en_lt ok b3).1
  unfold gt_mu at b2
  omega
theorem gp_ty_sub {kd : Nat → Nat} {n : Nat} (ok : gp_ok kd n) (so : gp_so kd n) : ∀ m c d, n - c < m → c < n → kd c ≤ 5 → c ≤ d → d < gp_en kd n c → kd d ≤ 5
  | 0, _, _, z, _, _, _, _ => by omega
  | m + 1, c, d, hm, hc, hk, h1, h2 => by
    rcases Nat.lt_or_ge c d with z | z
    · have a3 := gp_ar_le (kd c)
      have IH : ∀ j, j < gp_ar (kd c) → gp_ch kd n c j ≤ d → d < gp_en kd n (gp_ch kd n c j) → kd d ≤ 5 := fun j hj a b =>
        gp_ty_sub ok so m _ d (by have := gp_ch_ge ok hc (Nat.le_of_lt hj); omega) (gp_ch_lt ok hc hj).1 (gp_ty_ch ok so hc hk hj) a b
      have e0 : gp_ch kd n c 0 = c + 1 := rfl
      have e1 : gp_ch kd n c 1 = gp_en kd n (gp_ch kd n c 0) := rfl
      have e2 : gp_ch kd n c 2 = gp_en kd n (gp_ch kd n c 1) := rfl
      have e3 : gp_ch kd n c 3 = gp_en kd n (gp_ch kd n c 2) := rfl
      rw [gp_en_ch ok hc] at h2
      have : gp_ar (kd c) = 0 ∨ gp_ar (kd c) = 1 ∨ gp_ar (kd c) = 2 ∨ gp_ar (kd c) = 3 := by omega
      rcases this with a | a | a | a
      · rw [a, e0] at h2; omega
      · rw [a, e1] at h2; exact IH 0 (by omega) (by omega) h2
      · rw [a, e2] at h2
        rcases Nat.lt_or_ge d (gp_ch kd n c 1) with y | y
        · exact IH 0 (by omega) (by omega) y
        · exact IH 1 (by omega) y h2
      · rw [a, e3] at h2
        rcases Nat.lt_or_ge d (gp_ch kd n c 1) with y | y
        · exact IH 0 (by omega) (by omega) y
        · rcases Nat.lt_or_ge d (gp_ch kd n c 2) with w | w
          · exact IH 1 (by omega) y w
          · exact IH 2 (by omega) w h2
    · have : c = d := by omega
      subst this
      exact hk
section
variable {f_dLim f_rLim f_fLim f_n f_stat f_err f_out f_vInt f_recs f_drf f_fsp : Int32} {a_kind a_arg a_ch a_par a_pos a_seen a_st a_ty a_tyK a_tyG a_tyA a_tyB a_u a_bg a_ux a_uy a_stk a_eqA a_eqB a_rT a_rE a_rG a_rN a_rC a_rX a_fK a_fA a_fE : Nat → Int32}
theorem gy_down {post : Int32 → SY → Prop} {kd : Nat → Nat} {n : Nat} (A : gt_P kd a_arg n) (S : gy_S kd n a_kind a_ch a_par a_pos a_seen) :
    ∀ m t, n - t < m → t < n → ¬ kd t ≤ 5 → ∀ (P : Nat → Prop) (dp it : Nat) (st ty tK tG tA tB u bg ux uy stk eA eB : Nat → Int32), gy_TI kd a_arg n P ty bg ux uy u (tK, tG, tA, tB) → gy_HB kd a_arg n P t → gs_K kd a_arg n t → (∀ d, P d → d < t) → stk dp = nI t → st t = nI (gp_ss (kd t)) → dp ≤ t → it + dp ≤ 2 * t →
      (¬ (gt_pe kd a_arg n t).1 = 0 → ∀ (st ty tK tG tA tB u bg ux uy stk eA eB : Nat → Int32), post (nI (gt_pe kd a_arg n t).1) (f_dLim, f_rLim, f_fLim, nI n, f_stat, nI (gt_pe kd a_arg n t).2, f_out, f_vInt, f_recs, f_drf, f_fsp, a_kind, a_arg, a_ch, a_par, a_pos, a_seen, st, ty, tK, tG, tA, tB, u, bg, ux, uy, stk, eA, eB, a_rT, a_rE, a_rG, a_rN, a_rC, a_rX, a_fK, a_fA, a_fE)) →
      ((gt_pe kd a_arg n t).1 = 0 → ∀ (it1 : Nat) (st1 ty1 tK1 tG1 tA1 tB1 u1 bg1 ux1 uy1 stk1 eA1 eB1 : Nat → Int32), gy_TI kd a_arg n (fun d => P d ∨ (t < d ∧ d < gp_en kd n t ∧ ¬ kd d ≤ 5)) ty1 bg1 ux1 uy1 u1 (tK1, tG1, tA1, tB1) → (∀ c, c < t → st1 c = st c) → (∀ i, i < dp → stk1 i = stk i) → stk1 dp = nI t → st1 t = nI (gp_ar (kd t)) →
        it1 + dp + 2 ≤ 2 * gp_en kd n t → ∀ f, f + it1 = 200 → wY_doCheck_476 post f (nI (dp + 1)) (nI it1) f_dLim f_rLim f_fLim (nI n) f_stat f_err f_out f_vInt f_recs f_drf f_fsp a_kind a_arg a_ch a_par a_pos a_seen st1 ty1 tK1 tG1 tA1 tB1 u1 bg1 ux1 uy1 stk1 eA1 eB1 a_rT a_rE a_rG a_rN a_rC a_rX a_fK a_fA a_fE) →
      ∀ f, f + it = 200 → wY_doCheck_476 post f (nI (dp + 1)) (nI it) f_dLim f_rLim f_fLim (nI n) f_stat f_err f_out f_vInt f_recs f_drf f_fsp a_kind a_arg a_ch a_par a_pos a_seen st ty tK tG tA tB u bg ux uy stk eA eB a_rT a_rE a_rG a_rN a_rC a_rX a_fK a_fA a_fE
  | 0, _, z, _, _ => by omega
  | m + 1, t, hm, ht, htk => by
    intro P dp it st ty tK tG tA tB u bg ux uy stk eA eB I HB K hP hstk hst hdp hit hF hB f hf
    have hA := A
    obtain ⟨ok, so, kr, -⟩ := A
    have hn := ok.2.1
    have a3 := gp_ar_le (kd t)
    have k17 := (kr t ht).2
    have ss : (gp_ss (kd t) = 1 ∧ (kd t = 9 ∨ kd t = 13 ∨ kd t = 14)) ∨ (gp_ss (kd t) = 0 ∧ ¬ (kd t = 9 ∨ kd t = 13 ∨ kd t = 14)) := by
      unfold gp_ss
      by_cases z : kd t = 9 ∨ kd t = 13 ∨ kd t = 14
      · rw [if_pos z]; exact Or.inl ⟨rfl, z⟩
      · rw [if_neg z]; exact Or.inr ⟨rfl, z⟩
    have enlt := gp_en_lt ok ht
    have kids : ∀ r j, j + r = gp_ar (kd t) → gp_ss (kd t) ≤ j → (∀ i, i < j → (gt_er kd a_arg n (gp_ch kd n t i)).1 = 0) → (1 < j → gt_e1 kd a_arg n t = 0) →
        ∀ (it2 : Nat) (st2 ty2 tK2 tG2 tA2 tB2 u2 bg2 ux2 uy2 stk2 eA2 eB2 : Nat → Int32), gy_TI kd a_arg n (fun d => P d ∨ (t < d ∧ d < gp_ch kd n t j ∧ ¬ kd d ≤ 5)) ty2 bg2 ux2 uy2 u2 (tK2, tG2, tA2, tB2) → (∀ c, c < t → st2 c = st c) → (∀ i, i < dp → stk2 i = stk i) → stk2 dp = nI t → st2 t = nI j →
        it2 + dp + 2 ≤ 2 * gp_ch kd n t j → ∀ f, f + it2 = 200 → wY_doCheck_476 post f (nI (dp + 1)) (nI it2) f_dLim f_rLim f_fLim (nI n) f_stat f_err f_out f_vInt f_recs f_drf f_fsp a_kind a_arg a_ch a_par a_pos a_seen st2 ty2 tK2 tG2 tA2 tB2 u2 bg2 ux2 uy2 stk2 eA2 eB2 a_rT a_rE a_rG a_rN a_rC a_rX a_fK a_fA a_fE := by
      intro r
      induction r with
      | zero =>
        intro j hjr hss hp he it2 st2 ty2 tK2 tG2 tA2 tB2 u2 bg2 ux2 uy2 stk2 eA2 eB2 I2 hs2 hk2 hkt hst2 hit2 f2 hf2
        have ej : j = gp_ar (kd t) := by omega
        subst ej
        have e1 : gt_e1 kd a_arg n t = 0 := by
          by_cases z : 1 < gp_ar (kd t)
          · exact he z
          · refine gt_if_f ?_
            rintro (⟨y, _⟩ | ⟨y, _⟩ | ⟨y, _⟩) <;> (rw [y] at z; exact absurd (by decide) z)
        rw [← gp_en_ch ok ht] at I2 hit2
        exact hB (gt_pe_0 hp e1) it2 st2 ty2 tK2 tG2 tA2 tB2 u2 bg2 ux2 uy2 stk2 eA2 eB2 I2 hs2 hk2 hkt hst2 hit2 f2 hf2
      | succ r ih =>
        intro j hjr hss hp he it2 st2 ty2 tK2 tG2 tA2 tB2 u2 bg2 ux2 uy2 stk2 eA2 eB2 I2 hs2 hk2 hkt hst2 hit2 f2 hf2
        have hj : j < gp_ar (kd t) := by omega
        obtain ⟨cn, cpl⟩ := gp_ch_lt ok ht hj
        have cge := gp_ch_ge ok ht (Nat.le_of_lt hj)
        obtain ⟨cl1, cl2, cl3⟩ := gp_ch_en ok ht hj
        obtain ⟨ce1, ce2⟩ := gp_en_lt ok cn
        have es : gp_ch kd n t (j + 1) = gp_en kd n (gp_ch kd n t j) := rfl
        have ctm := gp_tm_ch ok so ht htk hj (by omega)
        have c0 : 0 < j → ¬ (kd t = 9 ∨ kd t = 13 ∨ kd t = 14) → P (gp_ch kd n t 0) ∨ (t < gp_ch kd n t 0 ∧ gp_ch kd n t 0 < gp_ch kd n t j ∧ ¬ kd (gp_ch kd n t 0) ≤ 5) := fun z y =>
          Or.inr ⟨by show t < t + 1; omega, by show t + 1 < _; omega, gp_tm_ch ok so ht htk (by omega) (fun w => y w.1)⟩
        cases f2 with
        | zero => omega
        | succ f2 =>
        refine gy_step hA S I2 ht htk hj (fun j1 hk => c0 (by omega) (by omega)) (by omega) (by omega) hkt hst2 (fun j1 hne => ?_) (fun he1 => ?_)
        · subst j1
          have e := gt_pe_1 ok ht (by omega) (hp 0 (by omega)) hne
          have h4 : gt_e1 kd a_arg n t = 4 := by rcases gt_e1_4 (kd := kd) (ag := a_arg) (n := n) (d := t) with y | y; exact absurd y hne; exact y
          rw [e, h4] at hF
          exact hF (show ¬ (4 : Nat) = 0 by decide) _ _ _ _ _ _ _ _ _ _ _ _ _
        · have hE : 0 < j → gt_e1 kd a_arg n t = 0 := fun z => by
            by_cases y : j = 1
            · exact he1 y
            · exact he (by omega)
          refine gy_down hA S m (gp_ch kd n t j) (by omega) cn ctm (fun d => P d ∨ (t < d ∧ d < gp_ch kd n t j ∧ ¬ kd d ≤ 5)) (dp + 1) (it2 + 1) _ _ _ _ _ _ _ _ _ _ _ _ _ I2
            (gy_HB_c2 ok ht hj (fun d hd => Or.inl hd) HB (fun hb => ?_)) (gs_K_ch hA ht htk K hj (fun z => ⟨hp 0 z, hE z⟩)) (fun d hd => ?_) pk_us pk_us (by omega) (by omega) (fun hpe => ?_) (fun hpe => ?_) f2 (by omega)
          · have j0 : 0 < j := by
              rcases Nat.eq_zero_or_pos j with y | y
              · rw [y, gp_bd_0] at hb; omega
              · exact y
            refine ⟨fun n9 => c0 j0 ?_, hE j0⟩
            rintro (y | y | y)
            · exact n9 y
            · rw [y] at hb; unfold gp_bd at hb; rw [if_neg (by omega), if_neg (by decide), if_neg (by decide)] at hb; omega
            · rw [y] at hb; unfold gp_bd at hb; rw [if_neg (by omega), if_neg (by decide), if_neg (by decide)] at hb; omega
          · rcases hd with hd | hd
            · have := hP d hd; omega
            · exact hd.2.1
          · have e := gt_er_pe ok cn hpe
            have e2 := gt_pe_c ok so ht hj hp hE (by rw [e]; exact hpe)
            rw [e] at e2
            rw [e2] at hF
            exact hF hpe
          · intro it3 st3 ty3 tK3 tG3 tA3 tB3 u3 bg3 ux3 uy3 stk3 eA3 eB3 I3 hs3 hk3 hkc hst3 hit3 f3 hf3
            obtain ⟨er1, er2⟩ := gt_er_e2 ok cn hpe
            obtain ⟨pk1, pk2⟩ := gt_pe_ok ctm hpe
            have Kc := gs_K_ch hA ht htk K hj (fun z => ⟨hp 0 z, hE z⟩)
            have HBc := gy_HB_c2 (Q := fun d => P d ∨ (t < d ∧ d < gp_ch kd n t j ∧ ¬ kd d ≤ 5)) ok ht hj (fun d hd => Or.inl hd) HB (fun hb => by
              have j0 : 0 < j := by
                rcases Nat.eq_zero_or_pos j with y | y
                · rw [y, gp_bd_0] at hb; omega
                · exact y
              refine ⟨fun n9 => c0 j0 ?_, hE j0⟩
              rintro (y | y | y)
              · exact n9 y
              · rw [y] at hb; unfold gp_bd at hb; rw [if_neg (by omega), if_neg (by decide), if_neg (by decide)] at hb; omega
              · rw [y] at hb; unfold gp_bd at hb; rw [if_neg (by omega), if_neg (by decide), if_neg (by decide)] at hb; omega)
            cases f3 with
            | zero => omega
            | succ f3 =>
            refine gy_done hA S I3 cn ctm (fun i hi hti => Or.inr ?_) (fun z => ?_) (gy_HB_m (fun d hd => Or.inl hd) HBc) (fun a1 => ?_) (by omega) (by omega) hkc hst3 (fun e0 => ?_) (fun e0 => ?_)
            · obtain ⟨b1, b2, _⟩ := gp_ch_en ok cn hi
              exact ⟨b1, b2, hti⟩
            · rcases z with (z | z) | z
              · have := hP _ z; omega
              · omega
              · omega
            · have tm1 := gp_tm_ch ok so cn ctm a1 (by omega)
              exact gs_K_fit hA (gp_ch_lt ok cn a1).1 tm1 (gs_K_ch hA cn ctm Kc a1 (fun _ => ⟨pk1 0 (by omega), pk2⟩)) (pk1 1 a1)
            · intro ty4 bg4 ux4 uy4 u4 tK4 tG4 tA4 tB4 eA4 eB4 I4
              have I4' : gy_TI kd a_arg n (fun d => P d ∨ (t < d ∧ d < gp_ch kd n t (j + 1) ∧ ¬ kd d ≤ 5)) ty4 bg4 ux4 uy4 u4 (tK4, tG4, tA4, tB4) := by
                refine gy_TI_iff (fun d dn dk => ⟨fun hd => ?_, fun hd => ?_⟩) (fun d hd => ?_) I4
                · rcases hd with ((hd | hd) | hd) | hd
                  · exact Or.inl hd
                  · exact Or.inr ⟨hd.1, by rw [es]; omega, hd.2.2⟩
                  · exact Or.inr ⟨by omega, by rw [es]; omega, hd.2.2⟩
                  · subst hd; exact Or.inr ⟨by omega, by rw [es]; omega, dk⟩
                · rcases hd with hd | hd
                  · exact Or.inl (Or.inl (Or.inl hd))
                  · rw [es] at hd
                    rcases Nat.lt_trichotomy d (gp_ch kd n t j) with y | y | y
                    · exact Or.inl (Or.inl (Or.inr ⟨hd.1, y, hd.2.2⟩))
                    · exact Or.inr y
                    · exact Or.inl (Or.inr ⟨y, hd.2.1, hd.2.2⟩)
                · rcases hd with hd | hd
                  · exact ⟨(I.2.2 d hd).1, (I.2.2 d hd).2.1⟩
                  · rw [es] at hd; exact ⟨by omega, hd.2.2⟩
              have ct : gp_ch kd n t j ≠ t := by omega
              have hE' : 1 < j + 1 → gt_e1 kd a_arg n t = 0 := fun z => hE (by omega)
              refine ih (j + 1) (by omega) (by omega) (fun i hi => ?_) (fun z => hE' z) (it3 + 1) st3 ty4 tK4 tG4 tA4 tB4 u4 bg4 ux4 uy4 stk3 eA4 eB4 I4' (fun c hc => ?_) (fun i hi => ?_) ?_ ?_ (by rw [es]; omega) f3 (by omega)
              · rcases Nat.lt_or_ge i j with y | y
                · exact hp i y
                · have : i = j := by omega
                  subst this
                  exact er1.trans e0
              · rw [hs3 c (by omega), pk_un (by omega), pk_un (by omega)]
                exact hs2 c hc
              · rw [hk3 i (by omega), pk_un (by omega)]
                exact hk2 i hi
              · rw [hk3 dp (by omega), pk_un (by omega)]
                exact hkt
              · rw [hs3 t (by omega), pk_un (Ne.symm ct), pk_us]
            · intro ty4 bg4 ux4 uy4 u4 tK4 tG4 tA4 tB4 eA4 eB4
              have e := er2 e0
              have e2 := gt_pe_c ok so ht hj hp hE (by rw [e]; exact e0)
              rw [e2, e] at hF
              exact hF e0 _ _ _ _ _ _ _ _ _ _ _ _ _
    have start : ∀ j, j = gp_ss (kd t) → (∀ i, i < j → (gt_er kd a_arg n (gp_ch kd n t i)).1 = 0) → j ≤ gp_ar (kd t) → wY_doCheck_476 post f (nI (dp + 1)) (nI it) f_dLim f_rLim f_fLim (nI n) f_stat f_err f_out f_vInt f_recs f_drf f_fsp a_kind a_arg a_ch a_par a_pos a_seen st ty tK tG tA tB u bg ux uy stk eA eB a_rT a_rE a_rG a_rN a_rC a_rX a_fK a_fA a_fE := by
      intro j ej hp hjle
      have cge := gp_ch_ge ok ht hjle
      refine kids (gp_ar (kd t) - j) j (by omega) (by omega) hp (fun z => by omega) it st ty tK tG tA tB u bg ux uy stk eA eB ?_ (fun _ _ => rfl) (fun _ _ => rfl) hstk (by rw [ej]; exact hst) (by omega) f hf
      refine gy_TI_iff (fun d dn dk => ⟨fun hd => Or.inl hd, fun hd => ?_⟩) (fun d hd => ?_) I
      · rcases hd with hd | hd
        · exact hd
        · exfalso
          rcases ss with ⟨s1, s2⟩ | ⟨s1, s2⟩
          · rw [ej, s1] at hd
            have ar2 : gp_ar (kd t) = 2 := by rcases s2 with e | e | e <;> rw [e] <;> decide
            exact hd.2.2 (gp_ty_sub ok so (n + 1) (gp_ch kd n t 0) d (by omega) (gp_ch_lt ok ht (by omega)).1 (gp_ty_c0 ok so ht s2) hd.1 hd.2.1)
          · rw [ej, s1] at hd
            have : gp_ch kd n t 0 = t + 1 := rfl
            omega
      · rcases hd with hd | hd
        · exact ⟨(I.2.2 d hd).1, (I.2.2 d hd).2.1⟩
        · have := (gp_ch_sp ok ht j hjle).2.1
          exact ⟨by omega, hd.2.2⟩
    rcases ss with ⟨s1, s2⟩ | ⟨s1, s2⟩
    · have ar2 : gp_ar (kd t) = 2 := by rcases s2 with e | e | e <;> rw [e] <;> decide
      refine start 1 s1.symm (fun i hi => ?_) (by omega)
      have : i = 0 := by omega
      subst this
      rw [gt_er_ty ok (gp_ch_lt ok ht (by omega)).1 (gp_ty_c0 ok so ht s2)]
    · exact start 0 s1.symm (fun i hi => by omega) (by omega)
end
end
section
section
variable {f_dLim f_rLim f_fLim f_n f_stat f_err f_out f_vInt f_recs f_drf f_fsp : Int32} {a_kind a_arg a_ch a_par a_pos a_seen a_st a_ty a_tyK a_tyG a_tyA a_tyB a_u a_bg a_ux a_uy a_stk a_eqA a_eqB a_rT a_rE a_rG a_rN a_rC a_rX a_fK a_fA a_fE : Nat → Int32}
/-- what the reference holds once the check is well -/
def gy_CK (kd : Nat → Nat) (ag : Nat → Int32) (n : Nat) (nk ch par pos sn ty bg ux uy u : Nat → Int32) (T : gd_Tb) : Prop := gm_A kd ag n ∧ gy_S kd n nk ch par pos sn ∧ gy_TI kd ag n (fun d => d < n ∧ ¬ kd d ≤ 5) ty bg ux uy u T
theorem gy_tyD {kd : Nat → Nat} {ag : Nat → Int32} {n : Nat} {ch : Nat → Int32} {tK tG tA tB : Nat → Int32} (ok : gp_ok kd n) (so : gp_so kd n) (kr : ∀ d, d < n → 1 ≤ kd d ∧ kd d ≤ 17) (hch : ∀ i, i < n → ∀ j, j < gp_ar (kd i) → ch (3 * i + j) = nI (gp_ch kd n i j))
    (h : ∀ c, c < n → tK c = nI (kd c) ∧ (kd c ≤ 5 → tG c = ag c) ∧ tA c = ch (3 * c) ∧ tB c = ch (3 * c + 1)) :
    (∀ i, i < n → kd i ≤ 5 → gy_c kd n (fun _ => False) (tK, tG, tA, tB) i) ∧ ∀ m i, n - i < m → i < n → kd i ≤ 5 → gd_D (tK, tG, tA, tB) i = gt_t kd ag n i := by
  have hn := ok.2.1
  have A1 : ∀ i, i < n → kd i ≤ 5 → 0 < gp_ar (kd i) → tA i = nI (gp_ch kd n i 0) ∧ gp_ch kd n i 0 < n ∧ kd (gp_ch kd n i 0) ≤ 5 := fun i hi hk ha => by
    have := hch i hi 0 ha
    rw [Nat.add_zero] at this
    exact ⟨(h i hi).2.2.1.trans this, (gp_ch_lt ok hi ha).1, gp_ty_ch ok so hi hk ha⟩
  have B1 : ∀ i, i < n → kd i ≤ 5 → 1 < gp_ar (kd i) → tB i = nI (gp_ch kd n i 1) ∧ gp_ch kd n i 1 < n ∧ kd (gp_ch kd n i 1) ≤ 5 := fun i hi hk ha => by
    exact ⟨(h i hi).2.2.2.trans (hch i hi 1 ha), (gp_ch_lt ok hi ha).1, gp_ty_ch ok so hi hk ha⟩
  have ar : ∀ i, i < n → kd i ≤ 5 → (¬ nI (kd i) = 1 → 0 < gp_ar (kd i)) ∧ (¬ nI (kd i) = 1 → ¬ nI (kd i) = 5 → 1 < gp_ar (kd i)) := fun i hi hk => by
    have k1 := (kr i hi).1
    have : kd i = 1 ∨ kd i = 2 ∨ kd i = 3 ∨ kd i = 4 ∨ kd i = 5 := by omega
    rcases this with e | e | e | e | e <;> rw [e]
    · exact ⟨fun z => absurd rfl z, fun z => absurd rfl z⟩
    · exact ⟨fun _ => by decide, fun _ _ => by decide⟩
    · exact ⟨fun _ => by decide, fun _ _ => by decide⟩
    · exact ⟨fun _ => by decide, fun _ _ => by decide⟩
    · exact ⟨fun _ => by decide, fun _ z => absurd rfl z⟩
  refine ⟨fun i hi hk => ?_, fun m => ?_⟩
  · unfold gy_c
    dsimp only
    rw [(h i hi).1]
    refine ⟨fun z => ?_, fun z y => ?_⟩
    · obtain ⟨a, b, c⟩ := A1 i hi hk ((ar i hi hk).1 z)
      exact ⟨_, Or.inl ⟨b, c⟩, a⟩
    · obtain ⟨a, b, c⟩ := B1 i hi hk ((ar i hi hk).2 z y)
      exact ⟨_, Or.inl ⟨b, c⟩, a⟩
  · induction m with
    | zero => intro i z; omega
    | succ m ih =>
      intro i hm hi hk
      have k1 := (kr i hi).1
      have hc : kd i = 1 ∨ kd i = 2 ∨ kd i = 3 ∨ kd i = 4 ∨ kd i = 5 := by omega
      have dA : 0 < gp_ar (kd i) → gd_D (tK, tG, tA, tB) (gd_L (tK, tG, tA, tB) i) = gt_t kd ag n (gp_ch kd n i 0) := fun ha => by
        obtain ⟨a, b, c⟩ := A1 i hi hk ha
        have g := gp_ch_ge ok hi (Nat.le_of_lt ha)
        unfold gd_L
        dsimp only
        rw [a, nI_clamp (by omega)]
        exact ih _ (by omega) b c
      have dB : 1 < gp_ar (kd i) → gd_D (tK, tG, tA, tB) (gd_R (tK, tG, tA, tB) i) = gt_t kd ag n (gp_ch kd n i 1) := fun ha => by
        obtain ⟨a, b, c⟩ := B1 i hi hk ha
        have g := gp_ch_ge ok hi (Nat.le_of_lt ha)
        unfold gd_R
        dsimp only
        rw [a, nI_clamp (by omega)]
        exact ih _ (by omega) b c
      rw [gd_mkD]
      obtain ⟨h1, h2, _⟩ := h i hi
      dsimp only
      rw [h1, h2 hk]
      rcases hc with e | e | e | e | e
      · rw [e, gt_q1 e (fun _ => none) (fun _ => none)]
        exact gt_mk_1
      · rw [dA (by rw [e]; decide), dB (by rw [e]; decide), gt_q2 ok hi e, e]; rfl
      · rw [dA (by rw [e]; decide), dB (by rw [e]; decide), gt_q3 ok hi e, e]; rfl
      · rw [dA (by rw [e]; decide), dB (by rw [e]; decide), gt_q4 ok hi e, e]; rfl
      · rw [dA (by rw [e]; decide), gt_q5 ok hi e (fun _ => none), e]
        exact gt_mk_5
theorem gy_doCheck {post : Int32 → SY → Prop} {kd : Nat → Nat} {n : Nat} (p : gc_prog kd a_arg n) (hK : ∀ i, i < n → a_kind i = nI (kd i))
    (h : ∀ σ d, gc_R kd a_arg n σ d → ∀ er ch par pos sn st ty tK tG tA tB u bg ux uy stk eA eB, (σ = 1 → gy_CK kd a_arg n a_kind ch par pos sn ty bg ux uy u (tK, tG, tA, tB)) → (¬ σ = 1 → er = nI d) → post (nI σ) (f_dLim, f_rLim, f_fLim, nI n, f_stat, er, f_out, f_vInt, f_recs, f_drf, f_fsp, a_kind, a_arg, ch, par, pos, sn, st, ty, tK, tG, tA, tB, u, bg, ux, uy, stk, eA, eB, a_rT, a_rE, a_rG, a_rN, a_rC, a_rX, a_fK, a_fA, a_fE)) :
    wpY_doCheck post (f_dLim, f_rLim, f_fLim, nI n, f_stat, f_err, f_out, f_vInt, f_recs, f_drf, f_fsp, a_kind, a_arg, a_ch, a_par, a_pos, a_seen, a_st, a_ty, a_tyK, a_tyG, a_tyA, a_tyB, a_u, a_bg, a_ux, a_uy, a_stk, a_eqA, a_eqB, a_rT, a_rE, a_rG, a_rN, a_rC, a_rX, a_fK, a_fA, a_fE) := by
  have hn := p.1
  have hK' : ∀ i, i < n → a_kind i = nI (kd i) ∧ 1 ≤ kd i ∧ kd i ≤ 17 := fun i hi => ⟨hK i hi, p.2.1 i hi⟩
  refine nm_e ⟨n + 1, gy_syn hn hK' (fun sok stk => ?_) (fun m hm stk => ?_) n 0 (n + 1) (upd a_stk 0 1) (by omega) (by omega) ⟨pk_us, trivial⟩ (fun i' z => by omega)⟩
  · have ok := gc_ok hn sok
    refine ⟨n + 1, gy_140 hn ok.1 (fun par pos hp0 => ⟨n + 1, ?_⟩) n 0 (n + 1) a_par a_pos (by omega) (by omega) (fun z => by omega)⟩
    refine gy_170 ok hK' (fun ch par pos hT => ⟨n + 1, ?_⟩) n 0 (n + 1) a_ch par pos (by omega) (by omega) ⟨hp0, fun c c0 cn z => by omega, fun i' j' a b z => by omega⟩
    have par0 := hT.1
    have parc : ∀ c, 0 < c → c < n → par c = nI (gp_pl kd c / 3) ∧ pos c = nI (gp_pl kd c % 3) := fun c c0 cn => hT.2.1 c c0 cn (Or.inl (by have := (gp_pl_in ok cn c0).1; omega))
    have chc : ∀ i, i < n → ∀ j, j < gp_ar (kd i) → ch (3 * i + j) = nI (gp_ch kd n i j) := fun i hi j hj => hT.2.2 i j hi hj (Or.inl hi)
    refine gy_255 ok hK' par0 parc (fun sn hsn => ⟨n + 1, ?_⟩) n 0 (n + 1) a_seen (by omega) (by omega) (fun c z => by omega)
    refine gy_318 hn hK' hsn (fun hs => ⟨n + 1, ?_⟩) (fun m hm hs hb => ?_) n 0 (n + 1) (by omega) (by omega) (fun i' z => by omega)
    · have A := gc_P p sok hs
      have S : gy_S kd n a_kind ch par pos sn := ⟨hK, par0, parc, chc, hsn⟩
      refine gy_367 ok.1 hn hK' (fun tK tG tA tB hT => ⟨200, ?_⟩) n 0 (n + 1) a_tyK a_tyG a_tyA a_tyB (by omega) (by omega) (fun c z => by omega)
      obtain ⟨tc, tD⟩ := gy_tyD (ag := a_arg) ok A.2.1 A.2.2.1 chc hT
      have k0 : ¬ kd 0 ≤ 5 := fun z => by have := A.2.1.1; unfold gp_srt at this; rw [if_pos z] at this; omega
      have en0 := gp_en_0 ok
      have I0 : gy_TI kd a_arg n (fun _ => False) a_ty a_bg a_ux a_uy a_u (tK, tG, tA, tB) := ⟨fun y hy => by
          rcases hy with hy | ⟨d, _, b, _⟩
          · exact tc y hy.1 hy.2
          · exact b.elim, fun i hi hk => tD (n + 1) i (by omega) hi hk, fun d hd => hd.elim⟩
      refine gy_down A S (n + 1) 0 (by omega) ok.1 k0 (fun _ => False) 0 0 _ _ _ _ _ _ _ _ _ _ _ _ _ I0 (fun v hv => by rw [gp_sn_0] at hv; omega) (gs_K_0 ok) (fun d hd => hd.elim) pk_us pk_us (by omega) (by omega) (fun hpe => ?_) (fun hpe => ?_) 200 (by omega)
      · intro st ty tK tG tA tB u bg ux uy stk eA eB
        have e := gt_er_pe ok ok.1 hpe
        rw [← e] at hpe ⊢
        have ne1 : ¬ (gt_er kd a_arg n 0).1 = 1 := by
          rcases gt_er_45 (ag := a_arg) ok (n + 1) 0 (by omega) ok.1 with y | y | y <;> omega
        exact h _ _ (Or.inr (Or.inr ⟨sok, hs, A, Or.inl ⟨hpe, rfl⟩⟩)) _ _ _ _ _ _ _ _ _ _ _ _ _ _ _ _ _ _ (fun z => absurd z ne1) (fun _ => rfl)
      · intro it1 st1 ty1 tK1 tG1 tA1 tB1 u1 bg1 ux1 uy1 stk1 eA1 eB1 I1 hs1 hk1 hkt hst1 hit1 f hf
        obtain ⟨er1, er2⟩ := gt_er_e2 ok ok.1 hpe
        obtain ⟨pk1, pk2⟩ := gt_pe_ok k0 hpe
        cases f with
        | zero => omega
        | succ f =>
        refine gy_done A S I1 ok.1 k0 (fun i hi hti => Or.inr ?_) (fun z => ?_) (fun v hv => by rw [gp_sn_0] at hv; omega) (fun a1 => ?_) (by omega) (by omega) hkt hst1 (fun e0 => ?_) (fun e0 => ?_)
        · obtain ⟨b1, b2, _⟩ := gp_ch_en ok ok.1 hi
          exact ⟨b1, b2, hti⟩
        · rcases z with z | z
          · exact z
          · omega
        · have tm1 := gp_tm_ch ok A.2.1 ok.1 k0 a1 (by omega)
          exact gs_K_fit A (gp_ch_lt ok ok.1 a1).1 tm1 (gs_K_ch A ok.1 k0 (gs_K_0 ok) a1 (fun _ => ⟨pk1 0 (by omega), pk2⟩)) (pk1 1 a1)
        · intro ty4 bg4 ux4 uy4 u4 tK4 tG4 tA4 tB4 eA4 eB4 I4
          have I4' : gy_TI kd a_arg n (fun d => d < n ∧ ¬ kd d ≤ 5) ty4 bg4 ux4 uy4 u4 (tK4, tG4, tA4, tB4) := by
            refine gy_TI_iff (fun d dn dk => ⟨fun _ => ⟨dn, dk⟩, fun _ => ?_⟩) (fun d hd => hd) I4
            rcases Nat.eq_zero_or_pos d with z | z
            · exact Or.inr z
            · exact Or.inl (Or.inr ⟨z, by omega, dk⟩)
          have ez : (gt_er kd a_arg n 0).1 = 0 := er1.trans e0
          cases f with
          | zero => omega
          | succ f =>
          refine br_f (nI_ge (b := 200) (by omega) (by decide)) (br_t (by decide) ?_)
          exact h 1 0 (Or.inr (Or.inr ⟨sok, hs, A, Or.inr ⟨rfl, rfl, ez⟩⟩)) _ _ _ _ _ _ _ _ _ _ _ _ _ _ _ _ _ _ (fun _ => ⟨gm_A_of A ez, S, I4'⟩) (fun z => absurd rfl z)
        · intro ty4 bg4 ux4 uy4 u4 tK4 tG4 tA4 tB4 eA4 eB4
          have e := er2 e0
          have ne1 : ¬ gt_e2 kd a_arg n 0 = 1 := by
            rcases gt_e2_45 (kd := kd) (ag := a_arg) (n := n) (d := 0) with y | y | y <;> omega
          exact h _ 0 (Or.inr (Or.inr ⟨sok, hs, A, Or.inl ⟨by rw [e]; exact e0, e.symm⟩⟩)) _ _ _ _ _ _ _ _ _ _ _ _ _ _ _ _ _ _ (fun z => absurd z ne1) (fun _ => rfl)
    · exact h 3 m (Or.inr (Or.inl ⟨rfl, sok, hm, hs, hb⟩)) _ _ _ _ _ _ _ _ _ _ _ _ _ _ _ _ _ _ (fun z => absurd z (by decide)) (fun _ => rfl)
  · exact h 2 m (Or.inl ⟨rfl, hm⟩) _ _ _ _ _ _ _ _ _ _ _ _ _ _ _ _ _ _ (fun z => absurd z (by decide)) (fun _ => rfl)
end
end
section
/-! the relation -/
def gr_lim (a b : Int32) (m : Nat) : Prop := ∃ l, 1 ≤ l ∧ l ≤ m ∧ a = nI l ∧ b = nI l
/-- records that a call can ask for -/
def gr_rec (rm rs : Int32) (bo go co rN rG rC : Nat → Int32) : Prop := ∃ rc, rc ≤ 32 ∧ rm = nI rc ∧ rs = nI rc ∧ ∀ k, k < rc → rN k = bo (k + 1) ∧ rG k = go (k + 1) ∧ rC k = co (k + 1)
def gr_st (s f s' e' : Int32) : Prop := s' = s ∧ ((s = 0 ∨ s = 1) → f = -1) ∧ (¬ (s = 0 ∨ s = 1) → e' = f)
/-- the two tables of nodes -/
def gr_prog (kd : Nat → Nat) (n : Nat) (nc nc' : Int32) (nk na k' a' : Nat → Int32) : Prop := nc = nI n ∧ nc' = nI n ∧ k' = nk ∧ a' = na ∧ gc_prog kd na n ∧ ∀ i, i < n → nk i = nI (kd i)
def i_Rel (k : Nat) (u : SX) (v : SY) : Prop := match u with
  | (f_derefLimit, f_recordLimit, f_frameLimit, f_nodeCount, f_currentStatus, f_faultNode, f_typeCount, f_currentNode, f_currentEnv, f_returning, f_returnedNumber, f_frameCount, f_lastOutcome, f_lastValue, f_derefsMade, f_recordsMade, a_nodeKind, a_nodeArg, a_expectedPlaces, a_nodeAtPlace, a_placeOfNode, a_variablesSeen, a_nodeType, a_gradeOfBinder, a_variableType, a_usage, a_typeKind, a_typeGrade, a_typeLeft, a_typeRight, a_frameMark, a_frameWord, a_frameEnv, a_thunkNode, a_thunkEnv, a_restOfEnv, a_binderOfRecord, a_gradeOfRecord, a_countOfRecord) => match v with
    | (f_dLim, f_rLim, f_fLim, f_n, f_stat, f_err, f_out, f_vInt, f_recs, f_drf, f_fsp, a_kind, a_arg, a_ch, a_par, a_pos, a_seen, a_st, a_ty, a_tyK, a_tyG, a_tyA, a_tyB, a_u, a_bg, a_ux, a_uy, a_stk, a_eqA, a_eqB, a_rT, a_rE, a_rG, a_rN, a_rC, a_rX, a_fK, a_fA, a_fE) => gr_lim f_derefLimit f_dLim 64 ∧ gr_lim f_recordLimit f_rLim 32 ∧ gr_lim f_frameLimit f_fLim 64 ∧ gr_st f_currentStatus f_faultNode f_stat f_err ∧
      (f_out = f_lastOutcome ∧ f_vInt = f_lastValue ∧ f_drf = f_derefsMade) ∧ gr_rec f_recordsMade f_recs a_binderOfRecord a_gradeOfRecord a_countOfRecord a_rN a_rG a_rC ∧
      ∃ (kd : Nat → Nat) (n : Nat), gr_prog kd n f_nodeCount f_n a_nodeKind a_nodeArg a_kind a_arg ∧
        (f_currentStatus = 1 → ∃ tc, f_typeCount = nI tc ∧ gx_CK kd a_nodeArg n tc a_nodeKind a_variablesSeen a_nodeAtPlace a_nodeType a_gradeOfBinder a_usage (a_typeKind, a_typeGrade, a_typeLeft, a_typeRight) ∧
          gy_CK kd a_nodeArg n a_nodeKind a_ch a_par a_pos a_seen a_ty a_bg a_ux a_uy a_u (a_tyK, a_tyG, a_tyA, a_tyB))
theorem i_up {k : Nat} {u : SX} {v : SY} (h : i_Rel k u v) : i_Rel (k + 3) u v := h
theorem gr_clamp (p : Int32) (m : Nat) (h1 : 1 ≤ m) (hm : m < 2 ^ 31) : ∃ l, 1 ≤ l ∧ l ≤ m ∧ (∀ post : Int32 → Prop, post (nI l) → wpX_clamp post p (nI m)) ∧ (∀ (post : Int32 → Prop) (u : SY), post (nI l) → wpY_clamp post u p (nI m)) := by
  have e : (1 : Int32) = nI 1 := rfl
  by_cases z : (1 : Int32) ≤ p
  · have np : ¬ p < 0 := by
      intro y
      have : (1 : Int32) < 0 := Int32.lt_of_le_of_lt z y
      exact absurd this (by decide)
    obtain ⟨j, hj, rfl⟩ := nI_of np
    rw [e, nI_leI (by omega) hj] at z
    by_cases y : j ≤ m
    · refine ⟨j, z, y, fun post hp => ?_, fun post u hp => ?_⟩
      · exact br_t (nI_le z hj) (br_t (nI_le y hm) hp)
      · obtain ⟨f_dLim, f_rLim, f_fLim, f_n, f_stat, f_err, f_out, f_vInt, f_recs, f_drf, f_fsp, a_kind, a_arg, a_ch, a_par, a_pos, a_seen, a_st, a_ty, a_tyK, a_tyG, a_tyA, a_tyB, a_u, a_bg, a_ux, a_uy, a_stk, a_eqA, a_eqB, a_rT, a_rE, a_rG, a_rN, a_rC, a_rX, a_fK, a_fA, a_fE⟩ := u
        exact br_t (nI_le z hj) (br_t (nI_le y hm) hp)
    · refine ⟨m, h1, Nat.le_refl _, fun post hp => ?_, fun post u hp => ?_⟩
      · exact br_t (nI_le z hj) (br_f (nI_ge (by omega) hj) hp)
      · obtain ⟨f_dLim, f_rLim, f_fLim, f_n, f_stat, f_err, f_out, f_vInt, f_recs, f_drf, f_fsp, a_kind, a_arg, a_ch, a_par, a_pos, a_seen, a_st, a_ty, a_tyK, a_tyG, a_tyA, a_tyB, a_u, a_bg, a_ux, a_uy, a_stk, a_eqA, a_eqB, a_rT, a_rE, a_rG, a_rN, a_rC, a_rX, a_fK, a_fA, a_fE⟩ := u
        exact br_t (nI_le z hj) (br_f (nI_ge (by omega) hj) hp)
  · refine ⟨1, Nat.le_refl _, h1, fun post hp => br_f z hp, fun post u hp => ?_⟩
    obtain ⟨f_dLim, f_rLim, f_fLim, f_n, f_stat, f_err, f_out, f_vInt, f_recs, f_drf, f_fsp, a_kind, a_arg, a_ch, a_par, a_pos, a_seen, a_st, a_ty, a_tyK, a_tyG, a_tyA, a_tyB, a_u, a_bg, a_ux, a_uy, a_stk, a_eqA, a_eqB, a_rT, a_rE, a_rG, a_rN, a_rC, a_rX, a_fK, a_fA, a_fE⟩ := u
    exact br_f z hp
theorem gc_prog_0 (kd : Nat → Nat) (ag : Nat → Int32) : gc_prog kd ag 0 := ⟨by omega, fun _ h => by omega, fun _ h => by omega, fun _ h => by omega, fun _ h => by omega, fun _ h => by omega⟩
theorem i_vc0 (k0 : Int32) (k1 : Int32) (k2 : Int32) : wpX_init (fun u => wpY_init (fun v => i_Rel 3 u v) k0 k1 k2) k0 k1 k2 := by
  obtain ⟨l0, a0, b0, X0, Y0⟩ := gr_clamp k0 64 (by decide) (by decide)
  obtain ⟨l1, a1, b1, X1, Y1⟩ := gr_clamp k1 32 (by decide) (by decide)
  obtain ⟨l2, a2, b2, X2, Y2⟩ := gr_clamp k2 64 (by decide) (by decide)
  refine X0 _ (X1 _ (X2 _ ?_))
  refine Y0 _ _ (Y1 _ _ (Y2 _ _ ?_))
  exact ⟨⟨l0, a0, b0, rfl, rfl⟩, ⟨l1, a1, b1, rfl, rfl⟩, ⟨l2, a2, b2, rfl, rfl⟩, ⟨rfl, fun _ => rfl, fun z => absurd (Or.inl rfl) z⟩, ⟨rfl, rfl, rfl⟩, ⟨0, by omega, rfl, rfl, fun k hk => by omega⟩,
    fun _ => 0, 0, ⟨rfl, rfl, rfl, rfl, gc_prog_0 _ _, fun i hi => by omega⟩, fun z => absurd z (by decide)⟩
theorem i_vc_reset {k : Nat} {u : SX} {v : SY} (I : i_Rel k u v) (hk : k + 3 ≤ 1539) : wpX_reset (fun u' => wpY_reset (fun v' => i_Rel (k + 3) u' v') v) u := by
  obtain ⟨f_derefLimit, f_recordLimit, f_frameLimit, f_nodeCount, f_currentStatus, f_faultNode, f_typeCount, f_currentNode, f_currentEnv, f_returning, f_returnedNumber, f_frameCount, f_lastOutcome, f_lastValue, f_derefsMade, f_recordsMade, a_nodeKind, a_nodeArg, a_expectedPlaces, a_nodeAtPlace, a_placeOfNode, a_variablesSeen, a_nodeType, a_gradeOfBinder, a_variableType, a_usage, a_typeKind, a_typeGrade, a_typeLeft, a_typeRight, a_frameMark, a_frameWord, a_frameEnv, a_thunkNode, a_thunkEnv, a_restOfEnv, a_binderOfRecord, a_gradeOfRecord, a_countOfRecord⟩ := u
  obtain ⟨f_dLim, f_rLim, f_fLim, f_n, f_stat, f_err, f_out, f_vInt, f_recs, f_drf, f_fsp, a_kind, a_arg, a_ch, a_par, a_pos, a_seen, a_st, a_ty, a_tyK, a_tyG, a_tyA, a_tyB, a_u, a_bg, a_ux, a_uy, a_stk, a_eqA, a_eqB, a_rT, a_rE, a_rG, a_rN, a_rC, a_rX, a_fK, a_fA, a_fE⟩ := v
  obtain ⟨L1, L2, L3, s, o, r, kd, n, p, c⟩ := I
  exact ⟨L1, L2, L3, ⟨rfl, fun _ => rfl, fun z => absurd (Or.inl rfl) z⟩, ⟨rfl, rfl, rfl⟩, ⟨0, by omega, rfl, rfl, fun k hk => by omega⟩,
    kd, 0, ⟨rfl, rfl, p.2.2.1, p.2.2.2.1, gc_prog_0 _ _, fun i hi => by omega⟩, fun z => absurd z (by decide)⟩
theorem i_vc_status {k : Nat} {u : SX} {v : SY} (I : i_Rel k u v) (hk : k + 3 ≤ 1539) : wpX_status (fun r => wpY_status (fun r' => r' = r ∧ i_Rel (k + 3) u v) v) u := by
  have J := I
  obtain ⟨f_derefLimit, f_recordLimit, f_frameLimit, f_nodeCount, f_currentStatus, f_faultNode, f_typeCount, f_currentNode, f_currentEnv, f_returning, f_returnedNumber, f_frameCount, f_lastOutcome, f_lastValue, f_derefsMade, f_recordsMade, a_nodeKind, a_nodeArg, a_expectedPlaces, a_nodeAtPlace, a_placeOfNode, a_variablesSeen, a_nodeType, a_gradeOfBinder, a_variableType, a_usage, a_typeKind, a_typeGrade, a_typeLeft, a_typeRight, a_frameMark, a_frameWord, a_frameEnv, a_thunkNode, a_thunkEnv, a_restOfEnv, a_binderOfRecord, a_gradeOfRecord, a_countOfRecord⟩ := u
  obtain ⟨f_dLim, f_rLim, f_fLim, f_n, f_stat, f_err, f_out, f_vInt, f_recs, f_drf, f_fsp, a_kind, a_arg, a_ch, a_par, a_pos, a_seen, a_st, a_ty, a_tyK, a_tyG, a_tyA, a_tyB, a_u, a_bg, a_ux, a_uy, a_stk, a_eqA, a_eqB, a_rT, a_rE, a_rG, a_rN, a_rC, a_rX, a_fK, a_fA, a_fE⟩ := v
  obtain ⟨L1, L2, L3, s, o, r, kd, n, p, c⟩ := I
  exact ⟨s.1, J⟩
theorem i_vc_errorNode {k : Nat} {u : SX} {v : SY} (I : i_Rel k u v) (hk : k + 3 ≤ 1539) : wpX_errorNode (fun r => wpY_errorNode (fun r' => r' = r ∧ i_Rel (k + 3) u v) v) u := by
  have J := I
  obtain ⟨f_derefLimit, f_recordLimit, f_frameLimit, f_nodeCount, f_currentStatus, f_faultNode, f_typeCount, f_currentNode, f_currentEnv, f_returning, f_returnedNumber, f_frameCount, f_lastOutcome, f_lastValue, f_derefsMade, f_recordsMade, a_nodeKind, a_nodeArg, a_expectedPlaces, a_nodeAtPlace, a_placeOfNode, a_variablesSeen, a_nodeType, a_gradeOfBinder, a_variableType, a_usage, a_typeKind, a_typeGrade, a_typeLeft, a_typeRight, a_frameMark, a_frameWord, a_frameEnv, a_thunkNode, a_thunkEnv, a_restOfEnv, a_binderOfRecord, a_gradeOfRecord, a_countOfRecord⟩ := u
  obtain ⟨f_dLim, f_rLim, f_fLim, f_n, f_stat, f_err, f_out, f_vInt, f_recs, f_drf, f_fsp, a_kind, a_arg, a_ch, a_par, a_pos, a_seen, a_st, a_ty, a_tyK, a_tyG, a_tyA, a_tyB, a_u, a_bg, a_ux, a_uy, a_stk, a_eqA, a_eqB, a_rT, a_rE, a_rG, a_rN, a_rC, a_rX, a_fK, a_fA, a_fE⟩ := v
  obtain ⟨L1, L2, L3, ⟨s1, s2, s3⟩, o, r, kd, n, p, c⟩ := I
  subst s1
  refine br_c (fun z => ⟨(s2 (Or.inl z)).symm, J⟩) (fun z => br_c (fun y => ⟨(s2 (Or.inr y)).symm, J⟩) (fun y => ⟨s3 (fun w => w.elim z y), J⟩))
theorem i_vc_outcome {k : Nat} {u : SX} {v : SY} (I : i_Rel k u v) (hk : k + 3 ≤ 1539) : wpX_outcome (fun r => wpY_outcome (fun r' => r' = r ∧ i_Rel (k + 3) u v) v) u := by
  have J := I
  obtain ⟨f_derefLimit, f_recordLimit, f_frameLimit, f_nodeCount, f_currentStatus, f_faultNode, f_typeCount, f_currentNode, f_currentEnv, f_returning, f_returnedNumber, f_frameCount, f_lastOutcome, f_lastValue, f_derefsMade, f_recordsMade, a_nodeKind, a_nodeArg, a_expectedPlaces, a_nodeAtPlace, a_placeOfNode, a_variablesSeen, a_nodeType, a_gradeOfBinder, a_variableType, a_usage, a_typeKind, a_typeGrade, a_typeLeft, a_typeRight, a_frameMark, a_frameWord, a_frameEnv, a_thunkNode, a_thunkEnv, a_restOfEnv, a_binderOfRecord, a_gradeOfRecord, a_countOfRecord⟩ := u
  obtain ⟨f_dLim, f_rLim, f_fLim, f_n, f_stat, f_err, f_out, f_vInt, f_recs, f_drf, f_fsp, a_kind, a_arg, a_ch, a_par, a_pos, a_seen, a_st, a_ty, a_tyK, a_tyG, a_tyA, a_tyB, a_u, a_bg, a_ux, a_uy, a_stk, a_eqA, a_eqB, a_rT, a_rE, a_rG, a_rN, a_rC, a_rX, a_fK, a_fA, a_fE⟩ := v
  obtain ⟨L1, L2, L3, s, o, r, kd, n, p, c⟩ := I
  exact ⟨o.1, J⟩
theorem i_vc_valueInt {k : Nat} {u : SX} {v : SY} (I : i_Rel k u v) (hk : k + 3 ≤ 1539) : wpX_valueInt (fun r => wpY_valueInt (fun r' => r' = r ∧ i_Rel (k + 3) u v) v) u := by
  have J := I
  obtain ⟨f_derefLimit, f_recordLimit, f_frameLimit, f_nodeCount, f_currentStatus, f_faultNode, f_typeCount, f_currentNode, f_currentEnv, f_returning, f_returnedNumber, f_frameCount, f_lastOutcome, f_lastValue, f_derefsMade, f_recordsMade, a_nodeKind, a_nodeArg, a_expectedPlaces, a_nodeAtPlace, a_placeOfNode, a_variablesSeen, a_nodeType, a_gradeOfBinder, a_variableType, a_usage, a_typeKind, a_typeGrade, a_typeLeft, a_typeRight, a_frameMark, a_frameWord, a_frameEnv, a_thunkNode, a_thunkEnv, a_restOfEnv, a_binderOfRecord, a_gradeOfRecord, a_countOfRecord⟩ := u
  obtain ⟨f_dLim, f_rLim, f_fLim, f_n, f_stat, f_err, f_out, f_vInt, f_recs, f_drf, f_fsp, a_kind, a_arg, a_ch, a_par, a_pos, a_seen, a_st, a_ty, a_tyK, a_tyG, a_tyA, a_tyB, a_u, a_bg, a_ux, a_uy, a_stk, a_eqA, a_eqB, a_rT, a_rE, a_rG, a_rN, a_rC, a_rX, a_fK, a_fA, a_fE⟩ := v
  obtain ⟨L1, L2, L3, s, o, r, kd, n, p, c⟩ := I
  exact ⟨o.2.1, J⟩
theorem i_vc_derefs {k : Nat} {u : SX} {v : SY} (I : i_Rel k u v) (hk : k + 3 ≤ 1539) : wpX_derefs (fun r => wpY_derefs (fun r' => r' = r ∧ i_Rel (k + 3) u v) v) u := by
  have J := I
  obtain ⟨f_derefLimit, f_recordLimit, f_frameLimit, f_nodeCount, f_currentStatus, f_faultNode, f_typeCount, f_currentNode, f_currentEnv, f_returning, f_returnedNumber, f_frameCount, f_lastOutcome, f_lastValue, f_derefsMade, f_recordsMade, a_nodeKind, a_nodeArg, a_expectedPlaces, a_nodeAtPlace, a_placeOfNode, a_variablesSeen, a_nodeType, a_gradeOfBinder, a_variableType, a_usage, a_typeKind, a_typeGrade, a_typeLeft, a_typeRight, a_frameMark, a_frameWord, a_frameEnv, a_thunkNode, a_thunkEnv, a_restOfEnv, a_binderOfRecord, a_gradeOfRecord, a_countOfRecord⟩ := u
  obtain ⟨f_dLim, f_rLim, f_fLim, f_n, f_stat, f_err, f_out, f_vInt, f_recs, f_drf, f_fsp, a_kind, a_arg, a_ch, a_par, a_pos, a_seen, a_st, a_ty, a_tyK, a_tyG, a_tyA, a_tyB, a_u, a_bg, a_ux, a_uy, a_stk, a_eqA, a_eqB, a_rT, a_rE, a_rG, a_rN, a_rC, a_rX, a_fK, a_fA, a_fE⟩ := v
  obtain ⟨L1, L2, L3, s, o, r, kd, n, p, c⟩ := I
  exact ⟨o.2.2, J⟩
theorem i_vc_records {k : Nat} {u : SX} {v : SY} (I : i_Rel k u v) (hk : k + 3 ≤ 1539) : wpX_records (fun r => wpY_records (fun r' => r' = r ∧ i_Rel (k + 3) u v) v) u := by
  have J := I
  obtain ⟨f_derefLimit, f_recordLimit, f_frameLimit, f_nodeCount, f_currentStatus, f_faultNode, f_typeCount, f_currentNode, f_currentEnv, f_returning, f_returnedNumber, f_frameCount, f_lastOutcome, f_lastValue, f_derefsMade, f_recordsMade, a_nodeKind, a_nodeArg, a_expectedPlaces, a_nodeAtPlace, a_placeOfNode, a_variablesSeen, a_nodeType, a_gradeOfBinder, a_variableType, a_usage, a_typeKind, a_typeGrade, a_typeLeft, a_typeRight, a_frameMark, a_frameWord, a_frameEnv, a_thunkNode, a_thunkEnv, a_restOfEnv, a_binderOfRecord, a_gradeOfRecord, a_countOfRecord⟩ := u
  obtain ⟨f_dLim, f_rLim, f_fLim, f_n, f_stat, f_err, f_out, f_vInt, f_recs, f_drf, f_fsp, a_kind, a_arg, a_ch, a_par, a_pos, a_seen, a_st, a_ty, a_tyK, a_tyG, a_tyA, a_tyB, a_u, a_bg, a_ux, a_uy, a_stk, a_eqA, a_eqB, a_rT, a_rE, a_rG, a_rN, a_rC, a_rX, a_fK, a_fA, a_fE⟩ := v
  obtain ⟨L1, L2, L3, s, o, ⟨rc, r1, r2, r3, r4⟩, kd, n, p, c⟩ := I
  exact ⟨r3.trans r2.symm, J⟩
theorem i_vc_recordNode {k : Nat} {u : SX} {v : SY} (I : i_Rel k u v) (hk : k + 3 ≤ 1539) (v1 : Int32) : wpX_recordNode (fun r => wpY_recordNode (fun r' => r' = r ∧ i_Rel (k + 3) u v) v v1) u v1 := by
  have J := I
  obtain ⟨f_derefLimit, f_recordLimit, f_frameLimit, f_nodeCount, f_currentStatus, f_faultNode, f_typeCount, f_currentNode, f_currentEnv, f_returning, f_returnedNumber, f_frameCount, f_lastOutcome, f_lastValue, f_derefsMade, f_recordsMade, a_nodeKind, a_nodeArg, a_expectedPlaces, a_nodeAtPlace, a_placeOfNode, a_variablesSeen, a_nodeType, a_gradeOfBinder, a_variableType, a_usage, a_typeKind, a_typeGrade, a_typeLeft, a_typeRight, a_frameMark, a_frameWord, a_frameEnv, a_thunkNode, a_thunkEnv, a_restOfEnv, a_binderOfRecord, a_gradeOfRecord, a_countOfRecord⟩ := u
  obtain ⟨f_dLim, f_rLim, f_fLim, f_n, f_stat, f_err, f_out, f_vInt, f_recs, f_drf, f_fsp, a_kind, a_arg, a_ch, a_par, a_pos, a_seen, a_st, a_ty, a_tyK, a_tyG, a_tyA, a_tyB, a_u, a_bg, a_ux, a_uy, a_stk, a_eqA, a_eqB, a_rT, a_rE, a_rG, a_rN, a_rC, a_rX, a_fK, a_fA, a_fE⟩ := v
  obtain ⟨L1, L2, L3, s, o, ⟨rc, r1, r2, r3, r4⟩, kd, n, p, c⟩ := I
  subst r2 r3
  by_cases z : v1 < 0
  · exact br_t z (br_t rfl (br_t z ⟨rfl, J⟩))
  · obtain ⟨j, hj, rfl⟩ := nI_of z
    rcases Nat.lt_or_ge j rc with y | y
    · refine br_f z (br_f (nI_ge y (by omega)) (br_f (by decide) ?_))
      rw [nI_1, nI_clamp (show j + 1 < 2 ^ 31 by omega)]
      refine ⟨vp_in_nI (by omega) (by decide), br_f z (br_t (nI_lt y (by omega)) ⟨vp_in_nI (by omega) (by decide), ?_, J⟩)⟩
      rw [nI_clamp (show j < 2 ^ 31 by omega)]
      exact (r4 j y).1
    · exact br_f z (br_t (nI_le y hj) (br_t rfl (br_f z (br_f (nI_nlt y hj) ⟨rfl, J⟩))))
theorem i_vc_recordGrade {k : Nat} {u : SX} {v : SY} (I : i_Rel k u v) (hk : k + 3 ≤ 1539) (v1 : Int32) : wpX_recordGrade (fun r => wpY_recordGrade (fun r' => r' = r ∧ i_Rel (k + 3) u v) v v1) u v1 := by
  have J := I
  obtain ⟨f_derefLimit, f_recordLimit, f_frameLimit, f_nodeCount, f_currentStatus, f_faultNode, f_typeCount, f_currentNode, f_currentEnv, f_returning, f_returnedNumber, f_frameCount, f_lastOutcome, f_lastValue, f_derefsMade, f_recordsMade, a_nodeKind, a_nodeArg, a_expectedPlaces, a_nodeAtPlace, a_placeOfNode, a_variablesSeen, a_nodeType, a_gradeOfBinder, a_variableType, a_usage, a_typeKind, a_typeGrade, a_typeLeft, a_typeRight, a_frameMark, a_frameWord, a_frameEnv, a_thunkNode, a_thunkEnv, a_restOfEnv, a_binderOfRecord, a_gradeOfRecord, a_countOfRecord⟩ := u
  obtain ⟨f_dLim, f_rLim, f_fLim, f_n, f_stat, f_err, f_out, f_vInt, f_recs, f_drf, f_fsp, a_kind, a_arg, a_ch, a_par, a_pos, a_seen, a_st, a_ty, a_tyK, a_tyG, a_tyA, a_tyB, a_u, a_bg, a_ux, a_uy, a_stk, a_eqA, a_eqB, a_rT, a_rE, a_rG, a_rN, a_rC, a_rX, a_fK, a_fA, a_fE⟩ := v
  obtain ⟨L1, L2, L3, s, o, ⟨rc, r1, r2, r3, r4⟩, kd, n, p, c⟩ := I
  subst r2 r3
  by_cases z : v1 < 0
  · exact br_t z (br_t rfl (br_t z ⟨rfl, J⟩))
  · obtain ⟨j, hj, rfl⟩ := nI_of z
    rcases Nat.lt_or_ge j rc with y | y
    · refine br_f z (br_f (nI_ge y (by omega)) (br_f (by decide) ?_))
      rw [nI_1, nI_clamp (show j + 1 < 2 ^ 31 by omega)]
      refine ⟨vp_in_nI (by omega) (by decide), br_f z (br_t (nI_lt y (by omega)) ⟨vp_in_nI (by omega) (by decide), ?_, J⟩)⟩
      rw [nI_clamp (show j < 2 ^ 31 by omega)]
      exact (r4 j y).2.1
    · exact br_f z (br_t (nI_le y hj) (br_t rfl (br_f z (br_f (nI_nlt y hj) ⟨rfl, J⟩))))
theorem i_vc_recordCount {k : Nat} {u : SX} {v : SY} (I : i_Rel k u v) (hk : k + 3 ≤ 1539) (v1 : Int32) : wpX_recordCount (fun r => wpY_recordCount (fun r' => r' = r ∧ i_Rel (k + 3) u v) v v1) u v1 := by
  have J := I
  obtain ⟨f_derefLimit, f_recordLimit, f_frameLimit, f_nodeCount, f_currentStatus, f_faultNode, f_typeCount, f_currentNode, f_currentEnv, f_returning, f_returnedNumber, f_frameCount, f_lastOutcome, f_lastValue, f_derefsMade, f_recordsMade, a_nodeKind, a_nodeArg, a_expectedPlaces, a_nodeAtPlace, a_placeOfNode, a_variablesSeen, a_nodeType, a_gradeOfBinder, a_variableType, a_usage, a_typeKind, a_typeGrade, a_typeLeft, a_typeRight, a_frameMark, a_frameWord, a_frameEnv, a_thunkNode, a_thunkEnv, a_restOfEnv, a_binderOfRecord, a_gradeOfRecord, a_countOfRecord⟩ := u
  obtain ⟨f_dLim, f_rLim, f_fLim, f_n, f_stat, f_err, f_out, f_vInt, f_recs, f_drf, f_fsp, a_kind, a_arg, a_ch, a_par, a_pos, a_seen, a_st, a_ty, a_tyK, a_tyG, a_tyA, a_tyB, a_u, a_bg, a_ux, a_uy, a_stk, a_eqA, a_eqB, a_rT, a_rE, a_rG, a_rN, a_rC, a_rX, a_fK, a_fA, a_fE⟩ := v
  obtain ⟨L1, L2, L3, s, o, ⟨rc, r1, r2, r3, r4⟩, kd, n, p, c⟩ := I
  subst r2 r3
  by_cases z : v1 < 0
  · exact br_t z (br_t rfl (br_t z ⟨rfl, J⟩))
  · obtain ⟨j, hj, rfl⟩ := nI_of z
    rcases Nat.lt_or_ge j rc with y | y
    · refine br_f z (br_f (nI_ge y (by omega)) (br_f (by decide) ?_))
      rw [nI_1, nI_clamp (show j + 1 < 2 ^ 31 by omega)]
      refine ⟨vp_in_nI (by omega) (by decide), br_f z (br_t (nI_lt y (by omega)) ⟨vp_in_nI (by omega) (by decide), ?_, J⟩)⟩
      rw [nI_clamp (show j < 2 ^ 31 by omega)]
      exact (r4 j y).2.2
    · exact br_f z (br_t (nI_le y hj) (br_t rfl (br_f z (br_f (nI_nlt y hj) ⟨rfl, J⟩))))
end
section
/-! addNode -/
def gr_hi (k : Nat) : Nat := if k = 4 ∨ k = 5 ∨ k = 16 then 3 else if k = 6 then 32 else if k = 9 ∨ k = 12 ∨ k = 15 then 4 else 0
def gr_fit (k : Nat) (a : Int32) : Prop := gr_hi k = 0 ∨ ∃ j, j < gr_hi k ∧ a = nI j
theorem gr_hi_t {P : Int32 → Int32 → Prop} {post : Int32 → Prop} {a : Int32} (m : Nat) (hm : m < 100) (h1 : (∃ j, j < m + 1 ∧ a = nI j) → post 1) (h0 : ¬ (∃ j, j < m + 1 ∧ a = nI j) → post 0) : (a < 0 → post 0) ∧ (¬ a < 0 → ((nI m < a → post 0) ∧ (¬ nI m < a → post 1))) := by
  refine br_c (fun z => h0 ?_) (fun z => ?_)
  · rintro ⟨j, hj, rfl⟩
    exact nI_pos (by omega) z
  · obtain ⟨j, hj, rfl⟩ := nI_of z
    refine br_c (fun y => h0 ?_) (fun y => h1 ⟨j, ?_, rfl⟩)
    · rw [nI_ltI (by omega) hj] at y
      rintro ⟨i, hi, e⟩
      rw [nI_eq hj (by omega)] at e
      omega
    · rw [nI_ltI (by omega) hj] at y
      omega
theorem gx_af {post : Int32 → Prop} {k : Nat} {a : Int32} (h1 : 1 ≤ k) (h2 : k ≤ 17) (hy : gr_fit k a → post 1) (hn : ¬ gr_fit k a → post 0) : wpX_argumentFits post (nI k) a := by
  revert hy hn
  refine gx_k17 (P := fun k => (gr_fit k a → post 1) → (¬ gr_fit k a → post 0) → wpX_argumentFits post (nI k) a) ?_ h1 h2
  have free : ∀ k, gr_hi k = 0 → (gr_fit k a → post 1) → post 1 := fun k e h => h (Or.inl e)
  have lim : ∀ k m, gr_hi k = m + 1 → m < 100 → (gr_fit k a → post 1) → (¬ gr_fit k a → post 0) → (a < 0 → post 0) ∧ (¬ a < 0 → ((nI m < a → post 0) ∧ (¬ nI m < a → post 1))) := fun k m e hm h g =>
    gr_hi_t (P := fun _ _ => True) m hm (fun z => h (Or.inr (by rw [e]; exact z))) (fun z => g (fun y => by
      rcases y with y | y
      · omega
      · rw [e] at y; exact z y))
  refine ⟨fun h _ => ?_, fun h _ => ?_, fun h _ => ?_, fun h g => ?_, fun h g => ?_, fun h g => ?_, fun h _ => ?_, fun h _ => ?_, fun h g => ?_, fun h _ => ?_, fun h _ => ?_, fun h g => ?_, fun h _ => ?_, fun h _ => ?_, fun h g => ?_, fun h g => ?_, fun h _ => ?_⟩
  · exact br_t (by decide) (free 1 (by decide) h)
  · exact br_t (by decide) (free 2 (by decide) h)
  · exact br_t (by decide) (free 3 (by decide) h)
  · have := lim 4 2 (by decide) (by decide) h g
    exact br_f (by decide) (br_f (by decide) (br_t (by decide) this))
  · have := lim 5 2 (by decide) (by decide) h g
    exact br_f (by decide) (br_f (by decide) (br_f (by decide) (br_t (by decide) this)))
  · have := lim 6 31 (by decide) (by decide) h g
    exact br_f (by decide) (br_f (by decide) (br_f (by decide) (br_f (by decide) (br_t (by decide) this))))
  · have := free 7 (by decide) h
    unfold wpX_argumentFits; repeat (first | exact br_t (by decide) this | refine br_f (by decide) ?_)
  · have := free 8 (by decide) h
    unfold wpX_argumentFits; repeat (first | exact br_t (by decide) this | refine br_f (by decide) ?_)
  · have := lim 9 3 (by decide) (by decide) h g
    unfold wpX_argumentFits; repeat (first | exact br_t (by decide) this | refine br_f (by decide) ?_)
  · have := free 10 (by decide) h
    unfold wpX_argumentFits; repeat (first | exact br_t (by decide) this | refine br_f (by decide) ?_)
  · have := free 11 (by decide) h
    unfold wpX_argumentFits; repeat (first | exact br_t (by decide) this | refine br_f (by decide) ?_)
  · have := lim 12 3 (by decide) (by decide) h g
    unfold wpX_argumentFits; repeat (first | exact br_t (by decide) this | refine br_f (by decide) ?_)
  · have := free 13 (by decide) h
    unfold wpX_argumentFits; repeat (first | exact br_t (by decide) this | refine br_f (by decide) ?_)
  · have := free 14 (by decide) h
    unfold wpX_argumentFits; repeat (first | exact br_t (by decide) this | refine br_f (by decide) ?_)
  · have := lim 15 3 (by decide) (by decide) h g
    unfold wpX_argumentFits; repeat (first | exact br_t (by decide) this | refine br_f (by decide) ?_)
  · have := lim 16 2 (by decide) (by decide) h g
    unfold wpX_argumentFits; repeat (first | exact br_t (by decide) this | refine br_f (by decide) ?_)
  · have := free 17 (by decide) h
    unfold wpX_argumentFits; repeat (first | exact br_t (by decide) this | refine br_f (by decide) ?_)
/-- the argument is kept -/
def gr_kp (k : Nat) : Bool := decide (gr_hi k ≠ 0 ∨ k = 7)
theorem gx_ig {post : Int32 → Prop} {k : Nat} (h1 : 1 ≤ k) (h2 : k ≤ 17) (h : post (if gr_kp k then 0 else 1)) : wpX_ignoresArgument post (nI k) := by
  revert h
  refine gx_k17 (P := fun k => post (if gr_kp k then 0 else 1) → wpX_ignoresArgument post (nI k)) ?_ h1 h2
  refine ⟨?_, ?_, ?_, ?_, ?_, ?_, ?_, ?_, ?_, ?_, ?_, ?_, ?_, ?_, ?_, ?_, ?_⟩ <;> (intro h; unfold wpX_ignoresArgument; repeat (first | exact h | exact br_t (by decide) h | refine br_f (by decide) ?_))
def gr_hv (k : Nat) : Int32 := if gr_hi k = 0 then -1 else nI (gr_hi k - 1)
section
variable {f_dLim f_rLim f_fLim f_n f_stat f_err f_out f_vInt f_recs f_drf f_fsp : Int32} {a_kind a_arg a_ch a_par a_pos a_seen a_st a_ty a_tyK a_tyG a_tyA a_tyB a_u a_bg a_ux a_uy a_stk a_eqA a_eqB a_rT a_rE a_rG a_rN a_rC a_rX a_fK a_fA a_fE : Nat → Int32}
theorem gy_an {post : Int32 → SY → Prop} {k : Nat} {a : Int32} (h1 : 1 ≤ k) (h2 : k ≤ 17) (h : wY_addNode_62 post (nI k) a (gr_hv k) f_dLim f_rLim f_fLim f_n f_stat f_err f_out f_vInt f_recs f_drf f_fsp a_kind a_arg a_ch a_par a_pos a_seen a_st a_ty a_tyK a_tyG a_tyA a_tyB a_u a_bg a_ux a_uy a_stk a_eqA a_eqB a_rT a_rE a_rG a_rN a_rC a_rX a_fK a_fA a_fE) : wpY_addNode post (f_dLim, f_rLim, f_fLim, f_n, f_stat, f_err, f_out, f_vInt, f_recs, f_drf, f_fsp, a_kind, a_arg, a_ch, a_par, a_pos, a_seen, a_st, a_ty, a_tyK, a_tyG, a_tyA, a_tyB, a_u, a_bg, a_ux, a_uy, a_stk, a_eqA, a_eqB, a_rT, a_rE, a_rG, a_rN, a_rC, a_rX, a_fK, a_fA, a_fE) (nI k) a := by
  revert h
  refine gx_k17 (P := fun k => wY_addNode_62 post (nI k) a (gr_hv k) f_dLim f_rLim f_fLim f_n f_stat f_err f_out f_vInt f_recs f_drf f_fsp a_kind a_arg a_ch a_par a_pos a_seen a_st a_ty a_tyK a_tyG a_tyA a_tyB a_u a_bg a_ux a_uy a_stk a_eqA a_eqB a_rT a_rE a_rG a_rN a_rC a_rX a_fK a_fA a_fE → wpY_addNode post (f_dLim, f_rLim, f_fLim, f_n, f_stat, f_err, f_out, f_vInt, f_recs, f_drf, f_fsp, a_kind, a_arg, a_ch, a_par, a_pos, a_seen, a_st, a_ty, a_tyK, a_tyG, a_tyA, a_tyB, a_u, a_bg, a_ux, a_uy, a_stk, a_eqA, a_eqB, a_rT, a_rE, a_rG, a_rN, a_rC, a_rX, a_fK, a_fA, a_fE) (nI k) a) ?_ h1 h2
  refine ⟨?_, ?_, ?_, ?_, ?_, ?_, ?_, ?_, ?_, ?_, ?_, ?_, ?_, ?_, ?_, ?_, ?_⟩ <;> (intro h; unfold wpY_addNode; try dsimp only; repeat (first | exact h | (unfold wY_addNode_31) | (unfold wY_addNode_33) | (unfold wY_addNode_42) | (unfold wY_addNode_60) | exact br_t (by decide) h | refine br_f (by decide) ?_ | refine br_t (by decide) ?_))
theorem gy_a77 {post : Int32 → SY → Prop} {k n : Nat} {a : Int32} (h1 : 1 ≤ k) (h2 : k ≤ 17) (hn : n ≤ 32) (hfull : n = 32 → post (-1) (f_dLim, f_rLim, f_fLim, nI n, f_stat, f_err, f_out, f_vInt, f_recs, f_drf, f_fsp, a_kind, a_arg, a_ch, a_par, a_pos, a_seen, a_st, a_ty, a_tyK, a_tyG, a_tyA, a_tyB, a_u, a_bg, a_ux, a_uy, a_stk, a_eqA, a_eqB, a_rT, a_rE, a_rG, a_rN, a_rC, a_rX, a_fK, a_fA, a_fE))
    (h : n < 32 → post (nI n) (f_dLim, f_rLim, f_fLim, nI (n + 1), 0, -1, 0, 0, 0, 0, f_fsp, upd a_kind n (nI k), upd a_arg n (if gr_kp k then a else 0), a_ch, a_par, a_pos, a_seen, a_st, a_ty, a_tyK, a_tyG, a_tyA, a_tyB, a_u, a_bg, a_ux, a_uy, a_stk, a_eqA, a_eqB, a_rT, a_rE, a_rG, a_rN, a_rC, a_rX, a_fK, a_fA, a_fE)) : wY_addNode_77 post (nI k) a (gr_hv k) f_dLim f_rLim f_fLim (nI n) f_stat f_err f_out f_vInt f_recs f_drf f_fsp a_kind a_arg a_ch a_par a_pos a_seen a_st a_ty a_tyK a_tyG a_tyA a_tyB a_u a_bg a_ux a_uy a_stk a_eqA a_eqB a_rT a_rE a_rG a_rN a_rC a_rX a_fK a_fA a_fE := by
  have fin : n < 32 → ∀ z, z = (if gr_kp k then a else 0) → wY_addNode_121 post z (nI n) f_dLim f_rLim f_fLim (nI n) f_stat f_err f_out f_vInt f_recs f_drf f_fsp (upd a_kind n (nI k)) a_arg a_ch a_par a_pos a_seen a_st a_ty a_tyK a_tyG a_tyA a_tyB a_u a_bg a_ux a_uy a_stk a_eqA a_eqB a_rT a_rE a_rG a_rN a_rC a_rX a_fK a_fA a_fE := by
    intro hl z ez
    unfold wY_addNode_121
    rw [nI_clamp (show n < 2 ^ 31 by omega), ez]
    refine ⟨vp_in_nI hl (by decide), nm_e (nm_r (nI_1 n) ?_)⟩
    have := h hl
    unfold wpY_clearRun
    dsimp only
    rw [nI_pred]
    exact this
  unfold wY_addNode_77
  refine pk_lt n 32 (fun hl => ⟨vp_in_nI hl (by decide), ?_⟩) (fun hl => hfull (by omega))
  rw [nI_clamp (show n < 2 ^ 31 by omega)]
  refine nm_e ?_
  by_cases e : gr_hi k = 0
  · have ev : gr_hv k = -1 := if_pos e
    rw [ev]
    refine br_f (by decide) (pk_eq k 7 (fun z => ?_) (fun z => ?_))
    · exact fin hl a (by unfold gr_kp; rw [if_pos (decide_eq_true (Or.inr z))])
    · exact fin hl 0 (by unfold gr_kp; rw [if_neg (by simp [e, z])])
  · have ev : gr_hv k = nI (gr_hi k - 1) := if_neg e
    have hl2 : gr_hi k ≤ 32 := by
      unfold gr_hi
      split
      · omega
      · split
        · omega
        · split <;> omega
    rw [ev]
    refine br_t (nI_pos' (by omega)) ?_
    exact fin hl a (by unfold gr_kp; rw [if_pos (decide_eq_true (Or.inl e))])
theorem gy_add2 {post : Int32 → SY → Prop} {k n : Nat} {a : Int32} (h1 : 1 ≤ k) (h2 : k ≤ 17) (hn : n ≤ 32) (hno : ¬ (gr_fit k a ∧ n < 32) → post (-1) (f_dLim, f_rLim, f_fLim, nI n, f_stat, f_err, f_out, f_vInt, f_recs, f_drf, f_fsp, a_kind, a_arg, a_ch, a_par, a_pos, a_seen, a_st, a_ty, a_tyK, a_tyG, a_tyA, a_tyB, a_u, a_bg, a_ux, a_uy, a_stk, a_eqA, a_eqB, a_rT, a_rE, a_rG, a_rN, a_rC, a_rX, a_fK, a_fA, a_fE))
    (h : gr_fit k a → n < 32 → post (nI n) (f_dLim, f_rLim, f_fLim, nI (n + 1), 0, -1, 0, 0, 0, 0, f_fsp, upd a_kind n (nI k), upd a_arg n (if gr_kp k then a else 0), a_ch, a_par, a_pos, a_seen, a_st, a_ty, a_tyK, a_tyG, a_tyA, a_tyB, a_u, a_bg, a_ux, a_uy, a_stk, a_eqA, a_eqB, a_rT, a_rE, a_rG, a_rN, a_rC, a_rX, a_fK, a_fA, a_fE)) : wpY_addNode post (f_dLim, f_rLim, f_fLim, nI n, f_stat, f_err, f_out, f_vInt, f_recs, f_drf, f_fsp, a_kind, a_arg, a_ch, a_par, a_pos, a_seen, a_st, a_ty, a_tyK, a_tyG, a_tyA, a_tyB, a_u, a_bg, a_ux, a_uy, a_stk, a_eqA, a_eqB, a_rT, a_rE, a_rG, a_rN, a_rC, a_rX, a_fK, a_fA, a_fE) (nI k) a := by
  refine gy_an h1 h2 ?_
  unfold wY_addNode_62
  by_cases e : gr_hi k = 0
  · have ev : gr_hv k = -1 := if_pos e
    have := gy_a77 (post := post) (a := a) h1 h2 hn (fun z => hno (fun y => by omega)) (h (Or.inl e))
    rw [ev] at this ⊢
    exact br_t (by decide) this
  · have ev : gr_hv k = nI (gr_hi k - 1) := if_neg e
    have hl2 : gr_hi k ≤ 32 := by
      unfold gr_hi
      split
      · omega
      · split
        · omega
        · split <;> omega
    have go := fun (f : gr_fit k a) => gy_a77 (post := post) (a := a) h1 h2 hn (fun z => hno (fun y => by omega)) (h f)
    rw [ev] at go ⊢
    refine br_f (nI_pos (by omega)) (br_c (fun z => hno (fun y => ?_)) (fun z => ?_))
    · rcases y.1 with w | ⟨j, hj, rfl⟩
      · exact e w
      · exact nI_pos (by omega) z
    · obtain ⟨j, hj, rfl⟩ := nI_of z
      refine br_c (fun y => go (Or.inr ⟨j, ?_, rfl⟩)) (fun y => hno (fun w => ?_))
      · rw [nI_leI hj (by omega)] at y
        omega
      · rw [nI_leI hj (by omega)] at y
        rcases w.1 with w | ⟨i, hi, ei⟩
        · exact e w
        · rw [nI_eq hj (by omega)] at ei
          omega
end
section
variable {f_derefLimit f_recordLimit f_frameLimit f_nodeCount f_currentStatus f_faultNode f_typeCount f_currentNode f_currentEnv f_returning f_returnedNumber f_frameCount f_lastOutcome f_lastValue f_derefsMade f_recordsMade : Int32} {a_nodeKind a_nodeArg a_expectedPlaces a_nodeAtPlace a_placeOfNode a_variablesSeen a_nodeType a_gradeOfBinder a_variableType a_usage a_typeKind a_typeGrade a_typeLeft a_typeRight a_frameMark a_frameWord a_frameEnv a_thunkNode a_thunkEnv a_restOfEnv a_binderOfRecord a_gradeOfRecord a_countOfRecord : Nat → Int32}
theorem gx_add2 {post : Int32 → SX → Prop} {k n : Nat} {a : Int32} (h1 : 1 ≤ k) (h2 : k ≤ 17) (hn : n ≤ 32) (hno : ¬ (gr_fit k a ∧ n < 32) → post (-1) (f_derefLimit, f_recordLimit, f_frameLimit, nI n, f_currentStatus, f_faultNode, f_typeCount, f_currentNode, f_currentEnv, f_returning, f_returnedNumber, f_frameCount, f_lastOutcome, f_lastValue, f_derefsMade, f_recordsMade, a_nodeKind, a_nodeArg, a_expectedPlaces, a_nodeAtPlace, a_placeOfNode, a_variablesSeen, a_nodeType, a_gradeOfBinder, a_variableType, a_usage, a_typeKind, a_typeGrade, a_typeLeft, a_typeRight, a_frameMark, a_frameWord, a_frameEnv, a_thunkNode, a_thunkEnv, a_restOfEnv, a_binderOfRecord, a_gradeOfRecord, a_countOfRecord))
    (h : gr_fit k a → n < 32 → post (nI n) (f_derefLimit, f_recordLimit, f_frameLimit, nI (n + 1), 0, -1, f_typeCount, f_currentNode, f_currentEnv, f_returning, f_returnedNumber, f_frameCount, 0, 0, 0, 0, upd a_nodeKind n (nI k), upd a_nodeArg n (if gr_kp k then a else 0), a_expectedPlaces, a_nodeAtPlace, a_placeOfNode, a_variablesSeen, a_nodeType, a_gradeOfBinder, a_variableType, a_usage, a_typeKind, a_typeGrade, a_typeLeft, a_typeRight, a_frameMark, a_frameWord, a_frameEnv, a_thunkNode, a_thunkEnv, a_restOfEnv, a_binderOfRecord, a_gradeOfRecord, a_countOfRecord)) : wpX_addNode post (f_derefLimit, f_recordLimit, f_frameLimit, nI n, f_currentStatus, f_faultNode, f_typeCount, f_currentNode, f_currentEnv, f_returning, f_returnedNumber, f_frameCount, f_lastOutcome, f_lastValue, f_derefsMade, f_recordsMade, a_nodeKind, a_nodeArg, a_expectedPlaces, a_nodeAtPlace, a_placeOfNode, a_variablesSeen, a_nodeType, a_gradeOfBinder, a_variableType, a_usage, a_typeKind, a_typeGrade, a_typeLeft, a_typeRight, a_frameMark, a_frameWord, a_frameEnv, a_thunkNode, a_thunkEnv, a_restOfEnv, a_binderOfRecord, a_gradeOfRecord, a_countOfRecord) (nI k) a := by
  unfold wpX_addNode
  try dsimp only
  refine br_f (nI_nlt (b := 1) h1 (by omega)) (br_f (nI_nlt (a := 17) h2 (by decide)) (gx_af h1 h2 (fun f => br_f (by decide) ?_) (fun f => br_t rfl (hno (fun y => f y.1)))))
  refine pk_eq n 32 (fun z => hno (fun y => by omega)) (fun z => ⟨vp_in_nI (by omega) (by decide), ?_⟩)
  rw [nI_clamp (show n < 2 ^ 31 by omega)]
  refine nm_e (gx_ig h1 h2 ?_)
  have := h f (by omega)
  by_cases y : gr_kp k = true
  · rw [if_pos y] at this ⊢
    refine br_t rfl ?_
    unfold wX_addNode_59
    rw [nI_clamp (show n < 2 ^ 31 by omega)]
    exact ⟨vp_in_nI (by omega) (by decide), nm_e (nm_r (nI_1 n) this)⟩
  · rw [if_neg y] at this ⊢
    refine br_f (by decide) ?_
    unfold wX_addNode_59
    rw [nI_clamp (show n < 2 ^ 31 by omega)]
    exact ⟨vp_in_nI (by omega) (by decide), nm_e (nm_r (nI_1 n) this)⟩
end
theorem gr_kp_b (k : Nat) : gr_kp k = true ↔ (gr_hi k ≠ 0 ∨ k = 7) := by unfold gr_kp; exact decide_eq_true_iff
theorem gc_prog_s {kd : Nat → Nat} {ag : Nat → Int32} {n k : Nat} {a : Int32} (p : gc_prog kd ag n) (hn : n < 32) (h1 : 1 ≤ k) (h2 : k ≤ 17) (f : gr_fit k a) : gc_prog (gm_up kd n k) (upd ag n (if gr_kp k then a else 0)) (n + 1) := by
  obtain ⟨p1, p2, p3, p4, p5, p6⟩ := p
  have old : ∀ i, i < n → gm_up kd n k i = kd i ∧ upd ag n (if gr_kp k then a else 0) i = ag i := fun i hi => ⟨gm_up_n (by omega), pk_un (by omega)⟩
  have fin : ∀ m, gr_hi k = m → m ≠ 0 → ∃ j, j < m ∧ (if gr_kp k then a else 0) = nI j := by
    intro m em m0
    rw [if_pos ((gr_kp_b k).mpr (Or.inl (by omega)))]
    rcases f with f | f
    · omega
    · rw [em] at f; exact f
  refine ⟨by omega, fun i hi => ?_, fun i hi => ?_, fun i hi => ?_, fun i hi => ?_, fun i hi => ?_⟩
  all_goals (rcases Nat.lt_or_ge i n with z | z)
  · rw [(old i z).1]; exact p2 i z
  · have e : i = n := by omega
    subst e
    rw [gm_up_s]; exact ⟨h1, h2⟩
  · rw [(old i z).1, (old i z).2]; exact p3 i z
  · have e : i = n := by omega
    subst e
    rw [gm_up_s, pk_us]
    intro e
    obtain ⟨j, a, b⟩ := fin 32 (by rw [e]; decide) (by decide)
    exact ⟨j, by omega, b⟩
  · rw [(old i z).1, (old i z).2]; exact p4 i z
  · have e : i = n := by omega
    subst e
    rw [gm_up_s, pk_us]
    intro e
    obtain ⟨j, a, b⟩ := fin 3 (by rcases e with e | e | e <;> rw [e] <;> decide) (by decide)
    exact ⟨j, by omega, b⟩
  · rw [(old i z).1, (old i z).2]; exact p5 i z
  · have e : i = n := by omega
    subst e
    rw [gm_up_s, pk_us]
    intro e
    obtain ⟨j, a, b⟩ := fin 4 (by rcases e with e | e | e <;> rw [e] <;> decide) (by decide)
    exact ⟨j, by omega, b⟩
  · rw [(old i z).1, (old i z).2]; exact p6 i z
  · have e : i = n := by omega
    subst e
    rw [gm_up_s, pk_us]
    intro e
    refine if_neg ?_
    rw [gr_kp_b]
    have : k = 1 ∨ k = 2 ∨ k = 3 := by omega
    rcases this with e | e | e <;> rw [e] <;> decide
theorem i_vc_addNode {k : Nat} {u : SX} {v : SY} (I : i_Rel k u v) (hk : k + 3 ≤ 1539) (v1 : Int32) (v2 : Int32) : wpX_addNode (fun r u' => wpY_addNode (fun r' v' => r' = r ∧ i_Rel (k + 3) u' v') v v1 v2) u v1 v2 := by
  have J := I
  obtain ⟨f_derefLimit, f_recordLimit, f_frameLimit, f_nodeCount, f_currentStatus, f_faultNode, f_typeCount, f_currentNode, f_currentEnv, f_returning, f_returnedNumber, f_frameCount, f_lastOutcome, f_lastValue, f_derefsMade, f_recordsMade, a_nodeKind, a_nodeArg, a_expectedPlaces, a_nodeAtPlace, a_placeOfNode, a_variablesSeen, a_nodeType, a_gradeOfBinder, a_variableType, a_usage, a_typeKind, a_typeGrade, a_typeLeft, a_typeRight, a_frameMark, a_frameWord, a_frameEnv, a_thunkNode, a_thunkEnv, a_restOfEnv, a_binderOfRecord, a_gradeOfRecord, a_countOfRecord⟩ := u
  obtain ⟨f_dLim, f_rLim, f_fLim, f_n, f_stat, f_err, f_out, f_vInt, f_recs, f_drf, f_fsp, a_kind, a_arg, a_ch, a_par, a_pos, a_seen, a_st, a_ty, a_tyK, a_tyG, a_tyA, a_tyB, a_u, a_bg, a_ux, a_uy, a_stk, a_eqA, a_eqB, a_rT, a_rE, a_rG, a_rN, a_rC, a_rX, a_fK, a_fA, a_fE⟩ := v
  obtain ⟨L1, L2, L3, s, o, r, kd, n, ⟨p1, p2, p3, p4, p5, p6⟩, c⟩ := I
  subst p1 p2 p3 p4
  have hn := p5.1
  by_cases z : v1 < 1
  · exact br_t z (br_t z ⟨rfl, J⟩)
  have z0 : ¬ v1 < 0 := fun y => z (Int32.lt_of_lt_of_le y (by decide))
  obtain ⟨j, hj, rfl⟩ := nI_of z0
  have z1 : 1 ≤ j := by
    rcases Nat.eq_zero_or_pos j with y | y
    · subst y; exact absurd (by decide) z
    · exact y
  rcases Nat.lt_or_ge 17 j with y | y
  · exact br_f z (br_t (nI_lt (a := 17) y hj) (br_f z (br_f (nI_ge (a := 17) y hj) ⟨rfl, J⟩)))
  refine gx_add2 z1 y hn (fun hno => ?_) (fun hf hl => ?_)
  · exact gy_add2 z1 y hn (fun _ => ⟨rfl, J⟩) (fun hf hl => absurd ⟨hf, hl⟩ hno)
  · refine gy_add2 z1 y hn (fun hno => absurd ⟨hf, hl⟩ hno) (fun _ _ => ⟨rfl, ?_⟩)
    refine ⟨L1, L2, L3, ⟨rfl, fun _ => rfl, fun z => absurd (Or.inl rfl) z⟩, ⟨rfl, rfl, rfl⟩, ⟨0, by omega, rfl, rfl, fun k hk => by omega⟩,
      gm_up kd n j, n + 1, ⟨rfl, rfl, rfl, rfl, gc_prog_s p5 hl z1 y hf, fun i hi => ?_⟩, fun z => absurd z (by decide)⟩
    rcases Nat.lt_or_ge i n with w | w
    · rw [pk_un (by omega), gm_up_n (by omega)]
      exact p6 i w
    · have e : i = n := by omega
      subst e
      rw [pk_us, gm_up_s]
end
section
theorem gc_R_le {kd : Nat → Nat} {ag : Nat → Int32} {n σ d : Nat} (h : gc_R kd ag n σ d) : 1 ≤ σ ∧ σ ≤ 5 := by
  rcases h with ⟨h1, _⟩ | ⟨h1, _⟩ | ⟨_, _, A, ⟨h1, h2⟩ | ⟨h1, _⟩⟩
  · omega
  · omega
  · have e : σ = (gt_er kd ag n 0).1 := congrArg Prod.fst h2
    rcases gt_er_45 (ag := ag) A.1 (n + 1) 0 (by omega) A.1.1 with y | y | y <;> omega
  · omega
theorem i_vc_check {k : Nat} {u : SX} {v : SY} (I : i_Rel k u v) (hk : k + 3 ≤ 1539) : wpX_check (fun r u' => wpY_check (fun r' v' => r' = r ∧ i_Rel (k + 3) u' v') v) u := by
  obtain ⟨f_derefLimit, f_recordLimit, f_frameLimit, f_nodeCount, f_currentStatus, f_faultNode, f_typeCount, f_currentNode, f_currentEnv, f_returning, f_returnedNumber, f_frameCount, f_lastOutcome, f_lastValue, f_derefsMade, f_recordsMade, a_nodeKind, a_nodeArg, a_expectedPlaces, a_nodeAtPlace, a_placeOfNode, a_variablesSeen, a_nodeType, a_gradeOfBinder, a_variableType, a_usage, a_typeKind, a_typeGrade, a_typeLeft, a_typeRight, a_frameMark, a_frameWord, a_frameEnv, a_thunkNode, a_thunkEnv, a_restOfEnv, a_binderOfRecord, a_gradeOfRecord, a_countOfRecord⟩ := u
  obtain ⟨f_dLim, f_rLim, f_fLim, f_n, f_stat, f_err, f_out, f_vInt, f_recs, f_drf, f_fsp, a_kind, a_arg, a_ch, a_par, a_pos, a_seen, a_st, a_ty, a_tyK, a_tyG, a_tyA, a_tyB, a_u, a_bg, a_ux, a_uy, a_stk, a_eqA, a_eqB, a_rT, a_rE, a_rG, a_rN, a_rC, a_rX, a_fK, a_fA, a_fE⟩ := v
  obtain ⟨L1, L2, L3, s, o, r, kd, n, ⟨p1, p2, p3, p4, p5, p6⟩, c⟩ := I
  subst p1 p2 p3 p4
  refine gx_check p5 p6 (fun σ d hR fn tc ep np po vs nt gb vt us tk tg tl tr h1 hf => ?_)
  have hl := gc_R_le hR
  unfold wpY_check
  try dsimp only
  unfold wpY_clearRun
  try dsimp only
  refine gy_doCheck p5 p6 (fun σ' d' hR' er ch par pos sn st ty tK tG tA tB u bg ux uy stk eA eB g1 gf => ?_)
  obtain ⟨rfl, rfl⟩ := gc_R_u hR hR'
  by_cases e : σ = 1
  · subst e
    obtain ⟨f1, tc', f2, f3⟩ := h1 rfl
    refine br_t rfl ⟨rfl, L1, L2, L3, ⟨rfl, fun _ => f1, fun z => absurd (Or.inr rfl) z⟩, ⟨rfl, rfl, rfl⟩, ⟨0, by omega, rfl, rfl, fun k hk => by omega⟩, kd, n, ⟨rfl, rfl, rfl, rfl, p5, p6⟩, fun _ => ⟨tc', f2, f3, g1 rfl⟩⟩
  · have ne1 : ¬ nI σ = 1 := fun z => e ((nI_eq (b := 1) (by omega) (by decide)).mp z)
    have ne0 : ¬ nI σ = 0 := nI_ne0 (by omega) (by omega)
    refine br_f ne1 ⟨rfl, L1, L2, L3, ⟨rfl, fun z => (z.elim ne0 ne1).elim, fun _ => (gf e).trans (hf e).symm⟩, ⟨rfl, rfl, rfl⟩, ⟨0, by omega, rfl, rfl, fun k hk => by omega⟩, kd, n, ⟨rfl, rfl, rfl, rfl, p5, p6⟩, fun z => absurd z ne1⟩
/-! binders -/
def gr_bin (s : Int32) (n : Nat) (kd : Nat → Nat) (p : Int32) : Prop := s = 1 ∧ ∃ j, j < n ∧ p = nI j ∧ (kd j = 9 ∨ kd j = 12 ∨ kd j = 15 ∨ kd j = 17)
theorem gr_k4 {A B : Prop} {k : Nat} (hk : k ≤ 17) (h1 : (k = 9 ∨ k = 12 ∨ k = 15 ∨ k = 17) → A) (h0 : ¬ (k = 9 ∨ k = 12 ∨ k = 15 ∨ k = 17) → B) :
    (nI k = 9 → A) ∧ (¬ nI k = 9 → ((nI k = 12 → A) ∧ (¬ nI k = 12 → ((nI k = 15 → A) ∧ (¬ nI k = 15 → ((nI k = 17 → A) ∧ (¬ nI k = 17 → B))))))) := by
  refine pk_eq k 9 (fun z => h1 (Or.inl z)) (fun z => pk_eq k 12 (fun y => h1 (Or.inr (Or.inl y))) (fun y => pk_eq k 15 (fun x => h1 (Or.inr (Or.inr (Or.inl x)))) (fun x => pk_eq k 17 (fun w => h1 (Or.inr (Or.inr (Or.inr w)))) (fun w => h0 (by omega)))))
section
variable {f_derefLimit f_recordLimit f_frameLimit f_nodeCount f_currentStatus f_faultNode f_typeCount f_currentNode f_currentEnv f_returning f_returnedNumber f_frameCount f_lastOutcome f_lastValue f_derefsMade f_recordsMade : Int32} {a_nodeKind a_nodeArg a_expectedPlaces a_nodeAtPlace a_placeOfNode a_variablesSeen a_nodeType a_gradeOfBinder a_variableType a_usage a_typeKind a_typeGrade a_typeLeft a_typeRight a_frameMark a_frameWord a_frameEnv a_thunkNode a_thunkEnv a_restOfEnv a_binderOfRecord a_gradeOfRecord a_countOfRecord : Nat → Int32}
theorem gx_icb {post : Int32 → Prop} {kd : Nat → Nat} {n : Nat} {p : Int32} (hn : n ≤ 32) (hK : ∀ i, i < n → a_nodeKind i = nI (kd i)) (hr : ∀ i, i < n → 1 ≤ kd i ∧ kd i ≤ 17) (h1 : gr_bin f_currentStatus n kd p → post 1) (h0 : ¬ gr_bin f_currentStatus n kd p → post 0) : wpX_isCheckedBinder post (f_derefLimit, f_recordLimit, f_frameLimit, nI n, f_currentStatus, f_faultNode, f_typeCount, f_currentNode, f_currentEnv, f_returning, f_returnedNumber, f_frameCount, f_lastOutcome, f_lastValue, f_derefsMade, f_recordsMade, a_nodeKind, a_nodeArg, a_expectedPlaces, a_nodeAtPlace, a_placeOfNode, a_variablesSeen, a_nodeType, a_gradeOfBinder, a_variableType, a_usage, a_typeKind, a_typeGrade, a_typeLeft, a_typeRight, a_frameMark, a_frameWord, a_frameEnv, a_thunkNode, a_thunkEnv, a_restOfEnv, a_binderOfRecord, a_gradeOfRecord, a_countOfRecord) p := by
  unfold wpX_isCheckedBinder
  try dsimp only
  refine br_c (fun s1 => br_c (fun z => h0 ?_) (fun z => ?_)) (fun s1 => h0 (fun y => s1 y.1))
  · rintro ⟨_, j, hj, rfl, _⟩
    exact nI_pos (by omega) z
  · obtain ⟨j, hj, rfl⟩ := nI_of z
    refine pk_lt j n (fun y => ⟨vp_in_nI (by omega) (by decide), ?_⟩) (fun y => h0 ?_)
    · rw [nI_clamp (show j < 2 ^ 31 by omega), hK j y]
      refine nm_e (gr_k4 (hr j y).2 (fun w => h1 ⟨s1, j, y, rfl, w⟩) (fun w => h0 ?_))
      rintro ⟨_, i, hi, e, q⟩
      rw [nI_eq hj (by omega)] at e
      subst e
      exact w q
    · rintro ⟨_, i, hi, e, q⟩
      rw [nI_eq hj (by omega)] at e
      omega
end
section
variable {f_dLim f_rLim f_fLim f_n f_stat f_err f_out f_vInt f_recs f_drf f_fsp : Int32} {a_kind a_arg a_ch a_par a_pos a_seen a_st a_ty a_tyK a_tyG a_tyA a_tyB a_u a_bg a_ux a_uy a_stk a_eqA a_eqB a_rT a_rE a_rG a_rN a_rC a_rX a_fK a_fA a_fE : Nat → Int32}
theorem gy_icb {post : Int32 → Prop} {kd : Nat → Nat} {n : Nat} {p : Int32} (hn : n ≤ 32) (hK : ∀ i, i < n → a_kind i = nI (kd i)) (hr : ∀ i, i < n → 1 ≤ kd i ∧ kd i ≤ 17) (h1 : gr_bin f_stat n kd p → post 1) (h0 : ¬ gr_bin f_stat n kd p → post 0) : wpY_isBinder post (f_dLim, f_rLim, f_fLim, nI n, f_stat, f_err, f_out, f_vInt, f_recs, f_drf, f_fsp, a_kind, a_arg, a_ch, a_par, a_pos, a_seen, a_st, a_ty, a_tyK, a_tyG, a_tyA, a_tyB, a_u, a_bg, a_ux, a_uy, a_stk, a_eqA, a_eqB, a_rT, a_rE, a_rG, a_rN, a_rC, a_rX, a_fK, a_fA, a_fE) p := by
  unfold wpY_isBinder
  try dsimp only
  refine br_c (fun s1 => br_c (fun z => h0 ?_) (fun z => ?_)) (fun s1 => h0 (fun y => s1 y.1))
  · rintro ⟨_, j, hj, rfl, _⟩
    exact nI_pos (by omega) z
  · obtain ⟨j, hj, rfl⟩ := nI_of z
    refine pk_lt j n (fun y => ⟨vp_in_nI (by omega) (by decide), ?_⟩) (fun y => h0 ?_)
    · rw [nI_clamp (show j < 2 ^ 31 by omega), hK j y]
      refine nm_e (gr_k4 (hr j y).2 (fun w => h1 ⟨s1, j, y, rfl, w⟩) (fun w => h0 ?_))
      rintro ⟨_, i, hi, e, q⟩
      rw [nI_eq hj (by omega)] at e
      subst e
      exact w q
    · rintro ⟨_, i, hi, e, q⟩
      rw [nI_eq hj (by omega)] at e
      omega
end
theorem i_vc_binderGrade {k : Nat} {u : SX} {v : SY} (I : i_Rel k u v) (hk : k + 3 ≤ 1539) (v1 : Int32) : wpX_binderGrade (fun r => wpY_binderGrade (fun r' => r' = r ∧ i_Rel (k + 3) u v) v v1) u v1 := by
  have J := I
  obtain ⟨f_derefLimit, f_recordLimit, f_frameLimit, f_nodeCount, f_currentStatus, f_faultNode, f_typeCount, f_currentNode, f_currentEnv, f_returning, f_returnedNumber, f_frameCount, f_lastOutcome, f_lastValue, f_derefsMade, f_recordsMade, a_nodeKind, a_nodeArg, a_expectedPlaces, a_nodeAtPlace, a_placeOfNode, a_variablesSeen, a_nodeType, a_gradeOfBinder, a_variableType, a_usage, a_typeKind, a_typeGrade, a_typeLeft, a_typeRight, a_frameMark, a_frameWord, a_frameEnv, a_thunkNode, a_thunkEnv, a_restOfEnv, a_binderOfRecord, a_gradeOfRecord, a_countOfRecord⟩ := u
  obtain ⟨f_dLim, f_rLim, f_fLim, f_n, f_stat, f_err, f_out, f_vInt, f_recs, f_drf, f_fsp, a_kind, a_arg, a_ch, a_par, a_pos, a_seen, a_st, a_ty, a_tyK, a_tyG, a_tyA, a_tyB, a_u, a_bg, a_ux, a_uy, a_stk, a_eqA, a_eqB, a_rT, a_rE, a_rG, a_rN, a_rC, a_rX, a_fK, a_fA, a_fE⟩ := v
  obtain ⟨L1, L2, L3, s, o, r, kd, n, ⟨p1, p2, p3, p4, p5, p6⟩, c⟩ := I
  obtain ⟨s1, s2, s3⟩ := s
  subst p1 p2 p3 p4 s1
  have hn := p5.1
  unfold wpX_binderGrade wpY_binderGrade
  dsimp only
  refine gx_icb hn p6 p5.2.1 (fun hb => ?_) (fun hb => ?_)
  · obtain ⟨b1, j, b2, rfl, b4⟩ := hb
    obtain ⟨tc, _, cx, cy⟩ := c b1
    have hv := vp_in_nI (show j < 32 by omega) (by decide)
    refine br_f (by decide) ⟨hv, ?_⟩
    rw [nI_clamp (show j < 2 ^ 31 by omega)]
    refine gy_icb hn p6 p5.2.1 (fun _ => ?_) (fun hb' => absurd ⟨b1, j, b2, rfl, b4⟩ hb')
    refine br_f (by decide) ⟨hv, ?_, J⟩
    rw [(cx.2.2.2.2 j b2).2.2.2 b4]
    exact ((cy.2.2.2.2 j ⟨b2, by omega⟩).2.2.2.2.1 b4).1
  · refine br_t rfl ?_
    refine gy_icb hn p6 p5.2.1 (fun hb' => absurd hb' hb) (fun _ => ?_)
    exact br_t rfl ⟨rfl, J⟩
theorem i_vc_binderUsage {k : Nat} {u : SX} {v : SY} (I : i_Rel k u v) (hk : k + 3 ≤ 1539) (v1 : Int32) (v2 : Int32) : wpX_binderUsage (fun r => wpY_binderUsage (fun r' => r' = r ∧ i_Rel (k + 3) u v) v v1 v2) u v1 v2 := by
  have J := I
  obtain ⟨f_derefLimit, f_recordLimit, f_frameLimit, f_nodeCount, f_currentStatus, f_faultNode, f_typeCount, f_currentNode, f_currentEnv, f_returning, f_returnedNumber, f_frameCount, f_lastOutcome, f_lastValue, f_derefsMade, f_recordsMade, a_nodeKind, a_nodeArg, a_expectedPlaces, a_nodeAtPlace, a_placeOfNode, a_variablesSeen, a_nodeType, a_gradeOfBinder, a_variableType, a_usage, a_typeKind, a_typeGrade, a_typeLeft, a_typeRight, a_frameMark, a_frameWord, a_frameEnv, a_thunkNode, a_thunkEnv, a_restOfEnv, a_binderOfRecord, a_gradeOfRecord, a_countOfRecord⟩ := u
  obtain ⟨f_dLim, f_rLim, f_fLim, f_n, f_stat, f_err, f_out, f_vInt, f_recs, f_drf, f_fsp, a_kind, a_arg, a_ch, a_par, a_pos, a_seen, a_st, a_ty, a_tyK, a_tyG, a_tyA, a_tyB, a_u, a_bg, a_ux, a_uy, a_stk, a_eqA, a_eqB, a_rT, a_rE, a_rG, a_rN, a_rC, a_rX, a_fK, a_fA, a_fE⟩ := v
  obtain ⟨L1, L2, L3, s, o, r, kd, n, ⟨p1, p2, p3, p4, p5, p6⟩, c⟩ := I
  obtain ⟨s1, s2, s3⟩ := s
  subst p1 p2 p3 p4 s1
  have hn := p5.1
  unfold wpX_binderUsage wpY_binderUsage
  dsimp only
  refine gx_icb hn p6 p5.2.1 (fun hb => ?_) (fun hb => ?_)
  · have hb' := hb
    obtain ⟨b1, j, b2, rfl, b4⟩ := hb
    obtain ⟨tc, _, ⟨_, A, S, TI⟩, ⟨_, SY, TY⟩⟩ := c b1
    obtain ⟨ok, so, kr, -⟩ := A.1
    have j32 : j < 32 := by omega
    have hv := vp_in_nI j32 (by decide)
    have ej : (nI j).toNatClampNeg = j := nI_clamp (by omega)
    have ar1 : 1 < gp_ar (kd j) := by rcases b4 with e | e | e | e <;> rw [e] <;> decide
    obtain ⟨c1, c2, c3, c4⟩ := gx_chf ok S b2 ar1
    have cn := (gp_ch_lt ok b2 ar1).1
    have ct := gp_tm_ch ok so b2 (by omega) ar1 (by omega)
    have sl := gp_sn_lt ok cn
    have sc := gp_sn_ch ok b2 ar1
    have sj := gp_sn_lt ok b2
    have bd1 : 1 ≤ gp_bd (kd j) 1 := by rcases b4 with e | e | e | e <;> rw [e] <;> decide
    have ux := (TI.2 _ cn).2.2.1 ct (gp_sn kd j) (by omega)
    have ty := TY.2.2 j ⟨b2, by omega⟩
    rw [ej, p6 j b2]
    refine br_f (by decide) ?_
    by_cases z0 : v2 = 0
    · refine br_t z0 ?_
      refine gx_ux j32 (S.2.1 j b2) (by omega) c3 c1 ?_
      rw [ux]
      refine gy_icb hn p6 p5.2.1 (fun _ => ?_) (fun z => absurd hb' z)
      exact br_f (by decide) (br_t z0 ⟨hv, (ty.2.2.2.2.1 b4).2, J⟩)
    · refine br_f z0 ?_
      by_cases z1 : v2 = 1
      · refine ⟨hv, pk_eq (kd j) 12 (fun k12 => ?_) (fun k12 => ⟨hv, pk_eq (kd j) 15 (fun k15 => ?_) (fun k15 => ?_)⟩)⟩
        · have bd : gp_bd (kd j) 1 = 2 := by rw [k12]; decide
          have uy := (TI.2 _ cn).2.2.1 ct (gp_sn kd j + 1) (by omega)
          refine br_t z1 (br_f (by decide) ?_)
          refine gx_uyP j32 (p6 j b2) (by omega) (by omega) (S.2.1 j b2) (by omega) c3 c1 ?_
          rw [uy]
          refine gy_icb hn p6 p5.2.1 (fun _ => ?_) (fun z => absurd hb' z)
          exact br_f (by decide) (br_f z0 (br_t z1 ⟨hv, pk_eq (kd j) 12 (fun _ => ⟨hv, ty.2.2.2.2.2.1 k12, J⟩) (fun w => absurd k12 w)⟩))
        · have ar2 : 2 < gp_ar (kd j) := by rw [k15]; decide
          obtain ⟨d1, d2, d3, d4⟩ := gx_chf ok S b2 ar2
          have dn := (gp_ch_lt ok b2 ar2).1
          have dt := gp_tm_ch ok so b2 (by omega) ar2 (by omega)
          have sd := gp_sn_ch ok b2 ar2
          have bd : gp_bd (kd j) 2 = 1 := by rw [k15]; decide
          have uy := (TI.2 _ dn).2.2.1 dt (gp_sn kd j) (by omega)
          have kk := p6 j b2
          rw [k15] at kk
          refine br_t z1 (br_f (by decide) ?_)
          refine gx_uyC j32 kk (S.2.1 j b2) (by omega) d3 d1 ?_
          rw [uy]
          refine gy_icb hn p6 p5.2.1 (fun _ => ?_) (fun z => absurd hb' z)
          exact br_f (by decide) (br_f z0 (br_t z1 ⟨hv, pk_eq (kd j) 12 (fun w => absurd w k12) (fun _ => ⟨hv, pk_eq (kd j) 15 (fun _ => ⟨hv, ty.2.2.2.2.2.2 k15, J⟩) (fun w => absurd k15 w)⟩)⟩))
        · refine br_t z1 (br_t rfl ?_)
          refine gy_icb hn p6 p5.2.1 (fun _ => ?_) (fun z => absurd hb' z)
          exact br_f (by decide) (br_f z0 (br_t z1 ⟨hv, pk_eq (kd j) 12 (fun w => absurd w k12) (fun _ => ⟨hv, pk_eq (kd j) 15 (fun w => absurd w k15) (fun _ => ⟨rfl, J⟩)⟩)⟩))
      · refine ⟨hv, pk_eq (kd j) 12 (fun k12 => ?_) (fun k12 => ⟨hv, pk_eq (kd j) 15 (fun k15 => ?_) (fun k15 => ?_)⟩)⟩
        all_goals (
          refine br_f z1 ?_
          refine gy_icb hn p6 p5.2.1 (fun _ => ?_) (fun z => absurd hb' z)
          exact br_f (by decide) (br_f z0 (br_f z1 ⟨rfl, J⟩)))
  · refine br_t rfl ?_
    refine gy_icb hn p6 p5.2.1 (fun hb' => absurd hb' hb) (fun _ => ?_)
    exact br_t rfl ⟨rfl, J⟩
end
section
section
variable {f_derefLimit f_recordLimit f_frameLimit f_nodeCount f_currentStatus f_faultNode f_typeCount f_currentNode f_currentEnv f_returning f_returnedNumber f_frameCount f_lastOutcome f_lastValue f_derefsMade f_recordsMade : Int32} {a_nodeKind a_nodeArg a_expectedPlaces a_nodeAtPlace a_placeOfNode a_variablesSeen a_nodeType a_gradeOfBinder a_variableType a_usage a_typeKind a_typeGrade a_typeLeft a_typeRight a_frameMark a_frameWord a_frameEnv a_thunkNode a_thunkEnv a_restOfEnv a_binderOfRecord a_gradeOfRecord a_countOfRecord : Nat → Int32} {f_dLim f_rLim f_fLim f_n f_stat f_err f_out f_vInt f_recs f_drf f_fsp : Int32} {a_kind a_arg a_ch a_par a_pos a_seen a_st a_ty a_tyK a_tyG a_tyA a_tyB a_u a_bg a_ux a_uy a_stk a_eqA a_eqB a_rT a_rE a_rG a_rN a_rC a_rX a_fK a_fA a_fE : Nat → Int32}
theorem gr_ta {n tc : Nat} {kd : Nat → Nat} {P : Nat → Prop} {dep bits : Int32} {D : Nat} (hn : n ≤ 32) (htc : tc ≤ 32) (hX : gd_xt (a_typeKind, a_typeGrade, a_typeLeft, a_typeRight) tc) (hY : ∀ y, gy_o kd n P y → gy_c kd n P (a_tyK, a_tyG, a_tyA, a_tyB) y) (eD : dep = nI D) (hD : D ≤ 30) :
    ∀ d i x y, i + d = D → x < tc → gy_o kd n P y → gd_D (a_typeKind, a_typeGrade, a_typeLeft, a_typeRight) x = gd_D (a_tyK, a_tyG, a_tyA, a_tyB) y →
      ∃ r, (∀ (post : Int32 → Prop) (fuel : Nat), d < fuel → post r → wX_typeAt_30 post dep bits f_derefLimit f_recordLimit f_frameLimit f_nodeCount f_currentStatus f_faultNode f_typeCount f_currentNode f_currentEnv f_returning f_returnedNumber f_frameCount f_lastOutcome f_lastValue f_derefsMade f_recordsMade a_nodeKind a_nodeArg a_expectedPlaces a_nodeAtPlace a_placeOfNode a_variablesSeen a_nodeType a_gradeOfBinder a_variableType a_usage a_typeKind a_typeGrade a_typeLeft a_typeRight a_frameMark a_frameWord a_frameEnv a_thunkNode a_thunkEnv a_restOfEnv a_binderOfRecord a_gradeOfRecord a_countOfRecord fuel (nI x) (nI i)) ∧ (∀ (post : Int32 → Prop) (fuel : Nat), d < fuel → post r → wY_typeAt_30 post dep bits f_dLim f_rLim f_fLim f_n f_stat f_err f_out f_vInt f_recs f_drf f_fsp a_kind a_arg a_ch a_par a_pos a_seen a_st a_ty a_tyK a_tyG a_tyA a_tyB a_u a_bg a_ux a_uy a_stk a_eqA a_eqB a_rT a_rE a_rG a_rN a_rC a_rX a_fK a_fA a_fE fuel (nI y) (nI i)) := by
  subst eD
  intro d
  induction d with
  | zero =>
    intro i x y hi hx hy e
    have y64 := gy_o_lt hn hy
    obtain ⟨l1, l2⟩ := gd_lab e
    dsimp only at l1 l2
    have vx := vp_in_nI (show x < 32 by omega) (by decide)
    have vy := vp_in_nI y64 (by decide)
    refine ⟨a_typeKind x * 4 + a_typeGrade x, fun post fuel hf hp => ?_, fun post fuel hf hp => ?_⟩
    · cases fuel with
      | zero => omega
      | succ fuel =>
        refine br_t (nI_le (by omega) (by omega)) ⟨vx, vx, ?_⟩
        rw [nI_clamp (show x < 2 ^ 31 by omega)]
        exact hp
    · cases fuel with
      | zero => omega
      | succ fuel =>
        refine br_t (nI_le (by omega) (by omega)) ⟨vy, vy, ?_⟩
        rw [nI_clamp (show y < 2 ^ 31 by omega), ← l1, ← l2]
        exact hp
  | succ d ih =>
    intro i x y hi hx hy e
    have y64 := gy_o_lt hn hy
    obtain ⟨l1, l2⟩ := gd_lab e
    dsimp only at l1 l2
    have vx := vp_in_nI (show x < 32 by omega) (by decide)
    have vy := vp_in_nI y64 (by decide)
    have ex : (nI x).toNatClampNeg = x := nI_clamp (by omega)
    have ey : (nI y).toNatClampNeg = y := nI_clamp (by omega)
    have gX : ¬ nI D ≤ nI i := nI_ge (by omega) (by omega)
    obtain ⟨b, b2, eb⟩ := pk_andE (bits >>> (nI i &&& 31)) (m := 1) 1 (by decide)
    by_cases k1 : a_typeKind x = 1
    · refine ⟨-1, fun post fuel hf hp => ?_, fun post fuel hf hp => ?_⟩
      · cases fuel with
        | zero => omega
        | succ fuel =>
          refine br_f gX (br_c (fun _ => ⟨vx, ?_⟩) (fun _ => ⟨vx, ?_⟩))
          · rw [ex]; exact br_t k1 hp
          · rw [ex]; exact br_t k1 hp
      · cases fuel with
        | zero => omega
        | succ fuel =>
          refine br_f gX (nm_e ⟨vy, ?_⟩)
          rw [ey, ← l1]
          exact nm_e (br_t k1 hp)
    have k1' : ¬ a_tyK y = 1 := by rw [← l1]; exact k1
    have LX := gd_xL (by omega) (hX.2.1 x hx) k1
    obtain ⟨a, a1, a2⟩ := (hY y hy).1 k1'
    have a64 := gy_o_lt hn a1
    have eL : gd_L (a_tyK, a_tyG, a_tyA, a_tyB) y = a := by unfold gd_L; rw [a2]; exact nI_clamp (by omega)
    have dL := gd_left e k1
    rw [eL] at dL
    have LX2 := LX.2
    dsimp only at LX2 a2
    by_cases bz : b = 0
    · subst bz
      obtain ⟨r, hx', hy'⟩ := ih (i + 1) _ a (by omega) (by omega) a1 dL
      have e0 : ¬ (nI 0 : Int32) = 1 := by decide
      refine ⟨r, fun post fuel hf hp => ?_, fun post fuel hf hp => ?_⟩
      · cases fuel with
        | zero => omega
        | succ fuel =>
          refine br_f gX ?_
          rw [eb]
          refine br_f e0 ⟨vx, ?_⟩
          have go : wX_typeAt_80 post (wX_typeAt_30 post (nI D) bits f_derefLimit f_recordLimit f_frameLimit f_nodeCount f_currentStatus f_faultNode f_typeCount f_currentNode f_currentEnv f_returning f_returnedNumber f_frameCount f_lastOutcome f_lastValue f_derefsMade f_recordsMade a_nodeKind a_nodeArg a_expectedPlaces a_nodeAtPlace a_placeOfNode a_variablesSeen a_nodeType a_gradeOfBinder a_variableType a_usage a_typeKind a_typeGrade a_typeLeft a_typeRight a_frameMark a_frameWord a_frameEnv a_thunkNode a_thunkEnv a_restOfEnv a_binderOfRecord a_gradeOfRecord a_countOfRecord fuel) (nI D) bits (nI x) (nI i) 0 f_derefLimit f_recordLimit f_frameLimit f_nodeCount f_currentStatus f_faultNode f_typeCount f_currentNode f_currentEnv f_returning f_returnedNumber f_frameCount f_lastOutcome f_lastValue f_derefsMade f_recordsMade a_nodeKind a_nodeArg a_expectedPlaces a_nodeAtPlace a_placeOfNode a_variablesSeen a_nodeType a_gradeOfBinder a_variableType a_usage a_typeKind a_typeGrade a_typeLeft a_typeRight a_frameMark a_frameWord a_frameEnv a_thunkNode a_thunkEnv a_restOfEnv a_binderOfRecord a_gradeOfRecord a_countOfRecord := by
            unfold wX_typeAt_80
            rw [ex]
            exact br_t rfl ⟨vx, nm_r LX2 (nm_r (nI_1 i) (hx' post fuel (by omega) hp))⟩
          rw [ex]
          exact br_f k1 ⟨vx, br_c (fun _ => br_t rfl go) (fun _ => go)⟩
      · cases fuel with
        | zero => omega
        | succ fuel =>
          refine br_f gX ?_
          rw [eb]
          refine nm_e ⟨vy, ?_⟩
          have go : wY_typeAt_74 post (wY_typeAt_30 post (nI D) bits f_dLim f_rLim f_fLim f_n f_stat f_err f_out f_vInt f_recs f_drf f_fsp a_kind a_arg a_ch a_par a_pos a_seen a_st a_ty a_tyK a_tyG a_tyA a_tyB a_u a_bg a_ux a_uy a_stk a_eqA a_eqB a_rT a_rE a_rG a_rN a_rC a_rX a_fK a_fA a_fE fuel) (nI D) bits (nI y) (nI i) (nI 0) f_dLim f_rLim f_fLim f_n f_stat f_err f_out f_vInt f_recs f_drf f_fsp a_kind a_arg a_ch a_par a_pos a_seen a_st a_ty a_tyK a_tyG a_tyA a_tyB a_u a_bg a_ux a_uy a_stk a_eqA a_eqB a_rT a_rE a_rG a_rN a_rC a_rX a_fK a_fA a_fE := by
            unfold wY_typeAt_74
            rw [ey, a2]
            refine br_t rfl ⟨vy, ?_⟩
            exact br_f (nI_pos (by omega)) (br_t (nI_le (b := 63) (by omega) (by decide)) (nm_r (nI_1 i) (hy' post fuel (by omega) hp)))
          rw [ey]
          exact nm_e (br_f k1' (br_c (fun _ => br_f e0 go) (fun _ => go)))
    · have b1 : b = 1 := by omega
      subst b1
      by_cases k5 : a_typeKind x = 5
      · have k5' : a_tyK y = 5 := by rw [← l1]; exact k5
        refine ⟨-1, fun post fuel hf hp => ?_, fun post fuel hf hp => ?_⟩
        · cases fuel with
          | zero => omega
          | succ fuel =>
            refine br_f gX ?_
            rw [eb]
            refine br_t (by decide) ⟨vx, ?_⟩
            rw [ex]
            exact br_f k1 ⟨vx, br_t k5 (br_f (by decide) hp)⟩
        · cases fuel with
          | zero => omega
          | succ fuel =>
            refine br_f gX ?_
            rw [eb]
            refine nm_e ⟨vy, ?_⟩
            rw [ey]
            exact nm_e (br_f k1' (br_t k5' (br_t (by decide) hp)))
      · have k5' : ¬ a_tyK y = 5 := by rw [← l1]; exact k5
        have RX := gd_xR (by omega) (hX.2.1 x hx) k1 k5
        obtain ⟨c, c1, c2⟩ := (hY y hy).2 k1' k5'
        have c64 := gy_o_lt hn c1
        have eR : gd_R (a_tyK, a_tyG, a_tyA, a_tyB) y = c := by unfold gd_R; rw [c2]; exact nI_clamp (by omega)
        have dR := gd_right e k1 k5
        rw [eR] at dR
        have RX2 := RX.2
        dsimp only at RX2 c2
        obtain ⟨r, hx', hy'⟩ := ih (i + 1) _ c (by omega) (by omega) c1 dR
        refine ⟨r, fun post fuel hf hp => ?_, fun post fuel hf hp => ?_⟩
        · cases fuel with
          | zero => omega
          | succ fuel =>
            refine br_f gX ?_
            rw [eb]
            refine br_t (by decide) ⟨vx, ?_⟩
            have go : wX_typeAt_80 post (wX_typeAt_30 post (nI D) bits f_derefLimit f_recordLimit f_frameLimit f_nodeCount f_currentStatus f_faultNode f_typeCount f_currentNode f_currentEnv f_returning f_returnedNumber f_frameCount f_lastOutcome f_lastValue f_derefsMade f_recordsMade a_nodeKind a_nodeArg a_expectedPlaces a_nodeAtPlace a_placeOfNode a_variablesSeen a_nodeType a_gradeOfBinder a_variableType a_usage a_typeKind a_typeGrade a_typeLeft a_typeRight a_frameMark a_frameWord a_frameEnv a_thunkNode a_thunkEnv a_restOfEnv a_binderOfRecord a_gradeOfRecord a_countOfRecord fuel) (nI D) bits (nI x) (nI i) 1 f_derefLimit f_recordLimit f_frameLimit f_nodeCount f_currentStatus f_faultNode f_typeCount f_currentNode f_currentEnv f_returning f_returnedNumber f_frameCount f_lastOutcome f_lastValue f_derefsMade f_recordsMade a_nodeKind a_nodeArg a_expectedPlaces a_nodeAtPlace a_placeOfNode a_variablesSeen a_nodeType a_gradeOfBinder a_variableType a_usage a_typeKind a_typeGrade a_typeLeft a_typeRight a_frameMark a_frameWord a_frameEnv a_thunkNode a_thunkEnv a_restOfEnv a_binderOfRecord a_gradeOfRecord a_countOfRecord := by
              unfold wX_typeAt_80
              rw [ex]
              exact br_f (by decide) ⟨vx, nm_r RX2 (nm_r (nI_1 i) (hx' post fuel (by omega) hp))⟩
            rw [ex]
            exact br_f k1 ⟨vx, br_f k5 go⟩
        · cases fuel with
          | zero => omega
          | succ fuel =>
            refine br_f gX ?_
            rw [eb]
            refine nm_e ⟨vy, ?_⟩
            have go : wY_typeAt_74 post (wY_typeAt_30 post (nI D) bits f_dLim f_rLim f_fLim f_n f_stat f_err f_out f_vInt f_recs f_drf f_fsp a_kind a_arg a_ch a_par a_pos a_seen a_st a_ty a_tyK a_tyG a_tyA a_tyB a_u a_bg a_ux a_uy a_stk a_eqA a_eqB a_rT a_rE a_rG a_rN a_rC a_rX a_fK a_fA a_fE fuel) (nI D) bits (nI y) (nI i) (nI 1) f_dLim f_rLim f_fLim f_n f_stat f_err f_out f_vInt f_recs f_drf f_fsp a_kind a_arg a_ch a_par a_pos a_seen a_st a_ty a_tyK a_tyG a_tyA a_tyB a_u a_bg a_ux a_uy a_stk a_eqA a_eqB a_rT a_rE a_rG a_rN a_rC a_rX a_fK a_fA a_fE := by
              unfold wY_typeAt_74
              rw [ey, c2]
              refine br_f (by decide) ⟨vy, ?_⟩
              exact br_f (nI_pos (by omega)) (br_t (nI_le (b := 63) (by omega) (by decide)) (nm_r (nI_1 i) (hy' post fuel (by omega) hp)))
            rw [ey]
            exact nm_e (br_f k1' (br_f k5' go))
end
theorem i_vc_typeAt {k : Nat} {u : SX} {v : SY} (I : i_Rel k u v) (hk : k + 3 ≤ 1539) (v1 : Int32) (v2 : Int32) : wpX_typeAt (fun r => wpY_typeAt (fun r' => r' = r ∧ i_Rel (k + 3) u v) v v1 v2) u v1 v2 := by
  have J := I
  obtain ⟨f_derefLimit, f_recordLimit, f_frameLimit, f_nodeCount, f_currentStatus, f_faultNode, f_typeCount, f_currentNode, f_currentEnv, f_returning, f_returnedNumber, f_frameCount, f_lastOutcome, f_lastValue, f_derefsMade, f_recordsMade, a_nodeKind, a_nodeArg, a_expectedPlaces, a_nodeAtPlace, a_placeOfNode, a_variablesSeen, a_nodeType, a_gradeOfBinder, a_variableType, a_usage, a_typeKind, a_typeGrade, a_typeLeft, a_typeRight, a_frameMark, a_frameWord, a_frameEnv, a_thunkNode, a_thunkEnv, a_restOfEnv, a_binderOfRecord, a_gradeOfRecord, a_countOfRecord⟩ := u
  obtain ⟨f_dLim, f_rLim, f_fLim, f_n, f_stat, f_err, f_out, f_vInt, f_recs, f_drf, f_fsp, a_kind, a_arg, a_ch, a_par, a_pos, a_seen, a_st, a_ty, a_tyK, a_tyG, a_tyA, a_tyB, a_u, a_bg, a_ux, a_uy, a_stk, a_eqA, a_eqB, a_rT, a_rE, a_rG, a_rN, a_rC, a_rX, a_fK, a_fA, a_fE⟩ := v
  obtain ⟨L1, L2, L3, s, o, r, kd, n, ⟨p1, p2, p3, p4, p5, p6⟩, c⟩ := I
  obtain ⟨s1, s2, s3⟩ := s
  subst p1 p2 p3 p4 s1
  have hn := p5.1
  refine br_c (fun z => ?_) (fun z => br_f z ⟨rfl, J⟩)
  refine br_c (fun y => br_t z (br_t y ⟨rfl, J⟩)) (fun y => ?_)
  obtain ⟨D, hD, rfl⟩ := nI_of y
  refine pk_le D 30 (fun w => ?_) (fun w => br_t z (br_f y (br_f (nI_ge (a := 30) w hD) ⟨rfl, J⟩)))
  obtain ⟨tc, _, ⟨htc, A, S, TI⟩, ⟨_, SY, TY⟩⟩ := c z
  have ok := A.1.1
  have k0 : ¬ kd 0 ≤ 5 := fun z => by have := A.1.2.1.1; unfold gp_srt at this; rw [if_pos z] at this; omega
  obtain ⟨_, ⟨x0, x1, x2, x3⟩, _⟩ := TI.2 0 ok.1
  obtain ⟨_, _, ⟨y0, y1, y2, y3⟩, _⟩ := TY.2.2 0 ⟨ok.1, k0⟩
  obtain ⟨r, hx, hy⟩ := gr_ta (bits := v2) hn htc TI.1 TY.1 rfl w D 0 x0 y0 (by omega) x1 y1 (x3.trans y3.symm)
  refine nm_r x2 ⟨D + 1, hx _ (D + 1) (by omega) ?_⟩
  exact br_t z (br_f y (br_t (nI_le (b := 30) w (by decide)) (nm_r y2 ⟨D + 1, hy _ (D + 1) (by omega) ⟨rfl, J⟩⟩)))
end
section
/-! the component's machine, a step at a time -/
section
variable {f_derefLimit f_recordLimit f_frameLimit f_nodeCount f_currentStatus f_faultNode f_typeCount f_currentNode f_currentEnv f_returning f_returnedNumber f_frameCount f_lastOutcome f_lastValue f_derefsMade f_recordsMade : Int32} {a_nodeKind a_nodeArg a_expectedPlaces a_nodeAtPlace a_placeOfNode a_variablesSeen a_nodeType a_gradeOfBinder a_variableType a_usage a_typeKind a_typeGrade a_typeLeft a_typeRight a_frameMark a_frameWord a_frameEnv a_thunkNode a_thunkEnv a_restOfEnv a_binderOfRecord a_gradeOfRecord a_countOfRecord : Nat → Int32}
theorem gx_mr {post : Int32 → SX → Prop} {rc rl b : Nat} {x1 x2 x3 : Int32} (hb : b < 32) (hrc : rc ≤ rl) (hrl : rl ≤ 32) (h0 : rc = rl → post 0 (f_derefLimit, nI rl, f_frameLimit, f_nodeCount, f_currentStatus, f_faultNode, f_typeCount, f_currentNode, f_currentEnv, f_returning, f_returnedNumber, f_frameCount, 8, f_lastValue, f_derefsMade, nI rc, a_nodeKind, a_nodeArg, a_expectedPlaces, a_nodeAtPlace, a_placeOfNode, a_variablesSeen, a_nodeType, a_gradeOfBinder, a_variableType, a_usage, a_typeKind, a_typeGrade, a_typeLeft, a_typeRight, a_frameMark, a_frameWord, a_frameEnv, a_thunkNode, a_thunkEnv, a_restOfEnv, a_binderOfRecord, a_gradeOfRecord, a_countOfRecord))
    (h1 : rc < rl → post 1 (f_derefLimit, nI rl, f_frameLimit, f_nodeCount, f_currentStatus, f_faultNode, f_typeCount, f_currentNode, f_currentEnv, f_returning, f_returnedNumber, f_frameCount, f_lastOutcome, f_lastValue, f_derefsMade, nI (rc + 1), a_nodeKind, a_nodeArg, a_expectedPlaces, a_nodeAtPlace, a_placeOfNode, a_variablesSeen, a_nodeType, a_gradeOfBinder, a_variableType, a_usage, a_typeKind, a_typeGrade, a_typeLeft, a_typeRight, a_frameMark, a_frameWord, a_frameEnv, upd a_thunkNode (rc + 1) x1, upd a_thunkEnv (rc + 1) x2, upd a_restOfEnv (rc + 1) x3, upd a_binderOfRecord (rc + 1) (nI b), upd a_gradeOfRecord (rc + 1) (a_gradeOfBinder b), upd a_countOfRecord (rc + 1) 0)) :
    wpX_makeRecord post (f_derefLimit, nI rl, f_frameLimit, f_nodeCount, f_currentStatus, f_faultNode, f_typeCount, f_currentNode, f_currentEnv, f_returning, f_returnedNumber, f_frameCount, f_lastOutcome, f_lastValue, f_derefsMade, nI rc, a_nodeKind, a_nodeArg, a_expectedPlaces, a_nodeAtPlace, a_placeOfNode, a_variablesSeen, a_nodeType, a_gradeOfBinder, a_variableType, a_usage, a_typeKind, a_typeGrade, a_typeLeft, a_typeRight, a_frameMark, a_frameWord, a_frameEnv, a_thunkNode, a_thunkEnv, a_restOfEnv, a_binderOfRecord, a_gradeOfRecord, a_countOfRecord) (nI b) x1 x2 x3 := by
  unfold wpX_makeRecord
  dsimp only
  refine pk_eq rc rl h0 (fun z => nm_r (nI_1 rc) ?_)
  rw [nI_clamp (show rc + 1 < 2 ^ 31 by omega), nI_clamp (show b < 2 ^ 31 by omega)]
  have v := vp_in_nI (show rc + 1 < 33 by omega) (by decide)
  exact ⟨v, nm_e ⟨v, nm_e ⟨v, nm_e ⟨v, nm_e ⟨vp_in_nI hb (by decide), v, nm_e ⟨v, nm_e (h1 (by omega))⟩⟩⟩⟩⟩⟩
theorem gx_evV {post : SX → Prop} {kd : Nat → Nat} {t : Nat} (ht : t < 32) (hK : a_nodeKind t = nI (kd t)) (hv : gm_vl (kd t))
    (h : ∀ rn, (kd t = 7 → rn = a_nodeArg t) → (kd t ≠ 7 → rn = f_returnedNumber) → post (f_derefLimit, f_recordLimit, f_frameLimit, f_nodeCount, f_currentStatus, f_faultNode, f_typeCount, nI t, f_currentEnv, 1, rn, f_frameCount, f_lastOutcome, f_lastValue, f_derefsMade, f_recordsMade, a_nodeKind, a_nodeArg, a_expectedPlaces, a_nodeAtPlace, a_placeOfNode, a_variablesSeen, a_nodeType, a_gradeOfBinder, a_variableType, a_usage, a_typeKind, a_typeGrade, a_typeLeft, a_typeRight, a_frameMark, a_frameWord, a_frameEnv, a_thunkNode, a_thunkEnv, a_restOfEnv, a_binderOfRecord, a_gradeOfRecord, a_countOfRecord)) : wpX_evaluate post (f_derefLimit, f_recordLimit, f_frameLimit, f_nodeCount, f_currentStatus, f_faultNode, f_typeCount, nI t, f_currentEnv, f_returning, f_returnedNumber, f_frameCount, f_lastOutcome, f_lastValue, f_derefsMade, f_recordsMade, a_nodeKind, a_nodeArg, a_expectedPlaces, a_nodeAtPlace, a_placeOfNode, a_variablesSeen, a_nodeType, a_gradeOfBinder, a_variableType, a_usage, a_typeKind, a_typeGrade, a_typeLeft, a_typeRight, a_frameMark, a_frameWord, a_frameEnv, a_thunkNode, a_thunkEnv, a_restOfEnv, a_binderOfRecord, a_gradeOfRecord, a_countOfRecord) := by
  unfold wpX_evaluate
  dsimp only
  rw [nI_clamp (show t < 2 ^ 31 by omega), hK]
  refine ⟨vp_in_nI ht (by decide), nm_e ?_⟩
  rcases hv with e | e | e | e | e | e
  · have := h _ (fun _ => rfl) (fun z => absurd e z)
    rw [e]
    repeat (refine br_f (by decide) ?_)
    exact br_t (by decide) ⟨vp_in_nI ht (by decide), nm_e this⟩
  all_goals (
    have := h _ (fun z => by omega) (fun _ => rfl)
    rw [e]
    repeat (refine br_f (by decide) ?_)
    exact br_t (by decide) this)
theorem gx_der {post : SX → Prop} {rs tn te : Nat → Nat} {rc i t e dr : Nat} (ht : t < 32) (hi : a_nodeArg t = nI i) (hi2 : i < 32) (hrc : rc ≤ 32) (hE : ∀ j, j ≤ i → 1 ≤ gm_nth rs e j ∧ gm_nth rs e j ≤ rc) (hR : ∀ r, 1 ≤ r → r ≤ rc → a_restOfEnv r = nI (rs r) ∧ a_thunkNode r = nI (tn r) ∧ a_thunkEnv r = nI (te r))
    (h : post (f_derefLimit, f_recordLimit, f_frameLimit, f_nodeCount, f_currentStatus, f_faultNode, f_typeCount, nI (tn (gm_nth rs e i)), nI (te (gm_nth rs e i)), 0, f_returnedNumber, f_frameCount, f_lastOutcome, f_lastValue, nI (dr + 1), f_recordsMade, a_nodeKind, a_nodeArg, a_expectedPlaces, a_nodeAtPlace, a_placeOfNode, a_variablesSeen, a_nodeType, a_gradeOfBinder, a_variableType, a_usage, a_typeKind, a_typeGrade, a_typeLeft, a_typeRight, a_frameMark, a_frameWord, a_frameEnv, a_thunkNode, a_thunkEnv, a_restOfEnv, a_binderOfRecord, a_gradeOfRecord, upd a_countOfRecord (gm_nth rs e i) (a_countOfRecord (gm_nth rs e i) + 1))) :
    ∀ d j fuel, j + d = i → d < fuel → wX_dereference_25 post f_derefLimit f_recordLimit f_frameLimit f_nodeCount f_currentStatus f_faultNode f_typeCount (nI t) f_currentEnv f_returning f_returnedNumber f_frameCount f_lastOutcome f_lastValue (nI dr) f_recordsMade a_nodeKind a_nodeArg a_expectedPlaces a_nodeAtPlace a_placeOfNode a_variablesSeen a_nodeType a_gradeOfBinder a_variableType a_usage a_typeKind a_typeGrade a_typeLeft a_typeRight a_frameMark a_frameWord a_frameEnv a_thunkNode a_thunkEnv a_restOfEnv a_binderOfRecord a_gradeOfRecord a_countOfRecord fuel (nI (gm_nth rs e j)) (nI j)
  | _, _, 0, _, hf => by omega
  | 0, j, fuel + 1, hj, hf => by
    have ej : j = i := by omega
    subst ej
    obtain ⟨a, b⟩ := hE j (Nat.le_refl _)
    obtain ⟨r1, r2, r3⟩ := hR _ a b
    have v := vp_in_nI (show gm_nth rs e j < 33 by omega) (by decide)
    refine ⟨vp_in_nI ht (by decide), ?_⟩
    rw [nI_clamp (show t < 2 ^ 31 by omega), hi, nI_clamp (show gm_nth rs e j < 2 ^ 31 by omega), r2, r3]
    exact br_t (nI_le (Nat.le_refl _) (by omega)) ⟨v, v, nm_e (nm_r (nI_1 dr) ⟨v, v, h⟩)⟩
  | d + 1, j, fuel + 1, hj, hf => by
    obtain ⟨a, b⟩ := hE j (by omega)
    obtain ⟨r1, r2, r3⟩ := hR _ a b
    have v := vp_in_nI (show gm_nth rs e j < 33 by omega) (by decide)
    refine ⟨vp_in_nI ht (by decide), ?_⟩
    rw [nI_clamp (show t < 2 ^ 31 by omega), hi, nI_clamp (show gm_nth rs e j < 2 ^ 31 by omega), r1]
    exact br_f (nI_ge (by omega) (by omega)) ⟨v, nm_e (nm_r (nI_1 j) (gx_der ht hi hi2 hrc hE hR h d (j + 1) fuel (by omega) (by omega)))⟩
theorem gx_evD {post : SX → Prop} {rs tn te : Nat → Nat} {rc i t e dr dl : Nat} (ht : t < 32) (hK : a_nodeKind t = nI 6) (hi : a_nodeArg t = nI i) (hi2 : i < 32) (hrc : rc ≤ 32) (hdr : dr ≤ dl) (hdl : dl ≤ 64) (hE : ∀ j, j ≤ i → 1 ≤ gm_nth rs e j ∧ gm_nth rs e j ≤ rc)
    (hR : ∀ r, 1 ≤ r → r ≤ rc → a_restOfEnv r = nI (rs r) ∧ a_thunkNode r = nI (tn r) ∧ a_thunkEnv r = nI (te r))
    (h0 : dr = dl → post (nI dl, f_recordLimit, f_frameLimit, f_nodeCount, f_currentStatus, f_faultNode, f_typeCount, nI t, nI e, f_returning, f_returnedNumber, f_frameCount, 7, f_lastValue, nI dr, f_recordsMade, a_nodeKind, a_nodeArg, a_expectedPlaces, a_nodeAtPlace, a_placeOfNode, a_variablesSeen, a_nodeType, a_gradeOfBinder, a_variableType, a_usage, a_typeKind, a_typeGrade, a_typeLeft, a_typeRight, a_frameMark, a_frameWord, a_frameEnv, a_thunkNode, a_thunkEnv, a_restOfEnv, a_binderOfRecord, a_gradeOfRecord, a_countOfRecord))
    (h : dr < dl → post (nI dl, f_recordLimit, f_frameLimit, f_nodeCount, f_currentStatus, f_faultNode, f_typeCount, nI (tn (gm_nth rs e i)), nI (te (gm_nth rs e i)), 0, f_returnedNumber, f_frameCount, f_lastOutcome, f_lastValue, nI (dr + 1), f_recordsMade, a_nodeKind, a_nodeArg, a_expectedPlaces, a_nodeAtPlace, a_placeOfNode, a_variablesSeen, a_nodeType, a_gradeOfBinder, a_variableType, a_usage, a_typeKind, a_typeGrade, a_typeLeft, a_typeRight, a_frameMark, a_frameWord, a_frameEnv, a_thunkNode, a_thunkEnv, a_restOfEnv, a_binderOfRecord, a_gradeOfRecord, upd a_countOfRecord (gm_nth rs e i) (a_countOfRecord (gm_nth rs e i) + 1))) :
    wpX_evaluate post (nI dl, f_recordLimit, f_frameLimit, f_nodeCount, f_currentStatus, f_faultNode, f_typeCount, nI t, nI e, f_returning, f_returnedNumber, f_frameCount, f_lastOutcome, f_lastValue, nI dr, f_recordsMade, a_nodeKind, a_nodeArg, a_expectedPlaces, a_nodeAtPlace, a_placeOfNode, a_variablesSeen, a_nodeType, a_gradeOfBinder, a_variableType, a_usage, a_typeKind, a_typeGrade, a_typeLeft, a_typeRight, a_frameMark, a_frameWord, a_frameEnv, a_thunkNode, a_thunkEnv, a_restOfEnv, a_binderOfRecord, a_gradeOfRecord, a_countOfRecord) := by
  unfold wpX_evaluate
  dsimp only
  rw [nI_clamp (show t < 2 ^ 31 by omega), hK]
  refine ⟨vp_in_nI ht (by decide), nm_e (br_f (by decide) (br_f (by decide) (br_t (by decide) ?_)))⟩
  unfold wpX_dereference
  dsimp only
  refine pk_eq dr dl h0 (fun z => ⟨i + 1, ?_⟩)
  exact gx_der ht hi hi2 hrc hE hR (h (by omega)) i 0 (i + 1) (by omega) (by omega)
theorem gx_fpush {post : SX → Prop} {q : Nat} {m w e : Int32} (hq : q < 64) (h : post (f_derefLimit, f_recordLimit, f_frameLimit, f_nodeCount, f_currentStatus, f_faultNode, f_typeCount, f_currentNode, f_currentEnv, f_returning, f_returnedNumber, nI (q + 1), f_lastOutcome, f_lastValue, f_derefsMade, f_recordsMade, a_nodeKind, a_nodeArg, a_expectedPlaces, a_nodeAtPlace, a_placeOfNode, a_variablesSeen, a_nodeType, a_gradeOfBinder, a_variableType, a_usage, a_typeKind, a_typeGrade, a_typeLeft, a_typeRight, upd a_frameMark q m, upd a_frameWord q w, upd a_frameEnv q e, a_thunkNode, a_thunkEnv, a_restOfEnv, a_binderOfRecord, a_gradeOfRecord, a_countOfRecord)) : wpX_push post (f_derefLimit, f_recordLimit, f_frameLimit, f_nodeCount, f_currentStatus, f_faultNode, f_typeCount, f_currentNode, f_currentEnv, f_returning, f_returnedNumber, nI q, f_lastOutcome, f_lastValue, f_derefsMade, f_recordsMade, a_nodeKind, a_nodeArg, a_expectedPlaces, a_nodeAtPlace, a_placeOfNode, a_variablesSeen, a_nodeType, a_gradeOfBinder, a_variableType, a_usage, a_typeKind, a_typeGrade, a_typeLeft, a_typeRight, a_frameMark, a_frameWord, a_frameEnv, a_thunkNode, a_thunkEnv, a_restOfEnv, a_binderOfRecord, a_gradeOfRecord, a_countOfRecord) m w e := by
  unfold wpX_push
  dsimp only
  rw [nI_clamp (show q < 2 ^ 31 by omega)]
  have v := vp_in_nI hq (by decide)
  exact ⟨v, nm_e ⟨v, nm_e ⟨v, nm_e (nm_r (nI_1 q) h)⟩⟩⟩
theorem gx_evG {post : SX → Prop} {kd : Nat → Nat} {t c q fl : Nat} (ht : t < 32) (hK : a_nodeKind t = nI (kd t)) (hg : gm_go (kd t)) (hc : a_nodeAtPlace (3 * t + 0) = nI c) (hq : q ≤ fl) (hfl : fl ≤ 64)
    (h0 : q = fl → post (f_derefLimit, f_recordLimit, nI fl, f_nodeCount, f_currentStatus, f_faultNode, f_typeCount, nI t, f_currentEnv, f_returning, f_returnedNumber, nI q, 9, f_lastValue, f_derefsMade, f_recordsMade, a_nodeKind, a_nodeArg, a_expectedPlaces, a_nodeAtPlace, a_placeOfNode, a_variablesSeen, a_nodeType, a_gradeOfBinder, a_variableType, a_usage, a_typeKind, a_typeGrade, a_typeLeft, a_typeRight, a_frameMark, a_frameWord, a_frameEnv, a_thunkNode, a_thunkEnv, a_restOfEnv, a_binderOfRecord, a_gradeOfRecord, a_countOfRecord))
    (h : q < fl → post (f_derefLimit, f_recordLimit, nI fl, f_nodeCount, f_currentStatus, f_faultNode, f_typeCount, nI c, f_currentEnv, f_returning, f_returnedNumber, nI (q + 1), f_lastOutcome, f_lastValue, f_derefsMade, f_recordsMade, a_nodeKind, a_nodeArg, a_expectedPlaces, a_nodeAtPlace, a_placeOfNode, a_variablesSeen, a_nodeType, a_gradeOfBinder, a_variableType, a_usage, a_typeKind, a_typeGrade, a_typeLeft, a_typeRight, upd a_frameMark q (nI (kd t)), upd a_frameWord q (nI t), upd a_frameEnv q f_currentEnv, a_thunkNode, a_thunkEnv, a_restOfEnv, a_binderOfRecord, a_gradeOfRecord, a_countOfRecord)) :
    wpX_evaluate post (f_derefLimit, f_recordLimit, nI fl, f_nodeCount, f_currentStatus, f_faultNode, f_typeCount, nI t, f_currentEnv, f_returning, f_returnedNumber, nI q, f_lastOutcome, f_lastValue, f_derefsMade, f_recordsMade, a_nodeKind, a_nodeArg, a_expectedPlaces, a_nodeAtPlace, a_placeOfNode, a_variablesSeen, a_nodeType, a_gradeOfBinder, a_variableType, a_usage, a_typeKind, a_typeGrade, a_typeLeft, a_typeRight, a_frameMark, a_frameWord, a_frameEnv, a_thunkNode, a_thunkEnv, a_restOfEnv, a_binderOfRecord, a_gradeOfRecord, a_countOfRecord) := by
  have go : wX_evaluate_79 post f_derefLimit f_recordLimit (nI fl) f_nodeCount f_currentStatus f_faultNode f_typeCount (nI t) f_currentEnv f_returning f_returnedNumber (nI q) f_lastOutcome f_lastValue f_derefsMade f_recordsMade a_nodeKind a_nodeArg a_expectedPlaces a_nodeAtPlace a_placeOfNode a_variablesSeen a_nodeType a_gradeOfBinder a_variableType a_usage a_typeKind a_typeGrade a_typeLeft a_typeRight a_frameMark a_frameWord a_frameEnv a_thunkNode a_thunkEnv a_restOfEnv a_binderOfRecord a_gradeOfRecord a_countOfRecord := by
    unfold wX_evaluate_79 wpX_suspend
    dsimp only
    refine pk_eq q fl h0 (fun z => ⟨vp_in_nI ht (by decide), ?_⟩)
    rw [nI_clamp (show t < 2 ^ 31 by omega), hK]
    refine gx_fpush (by omega) ?_
    try dsimp only
    exact gx_co (j := 0) ht (by omega) hc (h (by omega))
  unfold wpX_evaluate
  dsimp only
  rw [nI_clamp (show t < 2 ^ 31 by omega), hK]
  refine ⟨vp_in_nI ht (by decide), nm_e ?_⟩
  rcases hg with e | e | e | e | e
  all_goals (
    rw [e]
    repeat (refine br_f (by decide) ?_)
    exact br_t (by decide) go)
def gr_out (k : Nat) : Nat := if k = 9 then 2 else if k = 11 then 3 else if k = 13 then 4 else if k = 14 then 5 else if k = 16 then 6 else 1
theorem gx_halt {post : SX → Prop} {kd : Nat → Nat} {t : Nat} (ht : t < 32) (hK : a_nodeKind t = nI (kd t)) (hv : gm_vl (kd t))
    (h : ∀ lv, (kd t = 7 → lv = f_returnedNumber) → (kd t ≠ 7 → lv = f_lastValue) → post (f_derefLimit, f_recordLimit, f_frameLimit, f_nodeCount, f_currentStatus, f_faultNode, f_typeCount, nI t, f_currentEnv, f_returning, f_returnedNumber, 0, nI (gr_out (kd t)), lv, f_derefsMade, f_recordsMade, a_nodeKind, a_nodeArg, a_expectedPlaces, a_nodeAtPlace, a_placeOfNode, a_variablesSeen, a_nodeType, a_gradeOfBinder, a_variableType, a_usage, a_typeKind, a_typeGrade, a_typeLeft, a_typeRight, a_frameMark, a_frameWord, a_frameEnv, a_thunkNode, a_thunkEnv, a_restOfEnv, a_binderOfRecord, a_gradeOfRecord, a_countOfRecord)) : wpX_returnValue post (f_derefLimit, f_recordLimit, f_frameLimit, f_nodeCount, f_currentStatus, f_faultNode, f_typeCount, nI t, f_currentEnv, f_returning, f_returnedNumber, 0, f_lastOutcome, f_lastValue, f_derefsMade, f_recordsMade, a_nodeKind, a_nodeArg, a_expectedPlaces, a_nodeAtPlace, a_placeOfNode, a_variablesSeen, a_nodeType, a_gradeOfBinder, a_variableType, a_usage, a_typeKind, a_typeGrade, a_typeLeft, a_typeRight, a_frameMark, a_frameWord, a_frameEnv, a_thunkNode, a_thunkEnv, a_restOfEnv, a_binderOfRecord, a_gradeOfRecord, a_countOfRecord) := by
  unfold wpX_returnValue
  dsimp only
  refine br_t rfl ?_
  unfold wpX_halt
  dsimp only
  rw [nI_clamp (show t < 2 ^ 31 by omega), hK]
  refine ⟨vp_in_nI ht (by decide), nm_e ?_⟩
  rcases hv with e | e | e | e | e | e
  · have := h _ (fun _ => rfl) (fun z => absurd e z)
    rw [e] at this ⊢
    exact br_t (by decide) this
  all_goals (
    have := h _ (fun z => by omega) (fun _ => rfl)
    rw [e] at this ⊢
    repeat (refine br_f (by decide) ?_)
    exact br_t (by decide) this)
theorem gx_retA {post : SX → Prop} {q : Nat} {w : Int32} (hq : q < 64) (hm : a_frameMark q = nI 0) (hw : a_frameWord q = w) (h : post (f_derefLimit, f_recordLimit, f_frameLimit, f_nodeCount, f_currentStatus, f_faultNode, f_typeCount, f_currentNode, f_currentEnv, f_returning, w + f_returnedNumber, nI q, f_lastOutcome, f_lastValue, f_derefsMade, f_recordsMade, a_nodeKind, a_nodeArg, a_expectedPlaces, a_nodeAtPlace, a_placeOfNode, a_variablesSeen, a_nodeType, a_gradeOfBinder, a_variableType, a_usage, a_typeKind, a_typeGrade, a_typeLeft, a_typeRight, a_frameMark, a_frameWord, a_frameEnv, a_thunkNode, a_thunkEnv, a_restOfEnv, a_binderOfRecord, a_gradeOfRecord, a_countOfRecord)) : wpX_returnValue post (f_derefLimit, f_recordLimit, f_frameLimit, f_nodeCount, f_currentStatus, f_faultNode, f_typeCount, f_currentNode, f_currentEnv, f_returning, f_returnedNumber, nI (q + 1), f_lastOutcome, f_lastValue, f_derefsMade, f_recordsMade, a_nodeKind, a_nodeArg, a_expectedPlaces, a_nodeAtPlace, a_placeOfNode, a_variablesSeen, a_nodeType, a_gradeOfBinder, a_variableType, a_usage, a_typeKind, a_typeGrade, a_typeLeft, a_typeRight, a_frameMark, a_frameWord, a_frameEnv, a_thunkNode, a_thunkEnv, a_restOfEnv, a_binderOfRecord, a_gradeOfRecord, a_countOfRecord) := by
  unfold wpX_returnValue
  dsimp only
  have v := vp_in_nI hq (by decide)
  refine br_f (nI_ne0 (by omega) (by omega)) (nm_r (nI_pred q) ⟨v, ?_⟩)
  rw [nI_clamp (show q < 2 ^ 31 by omega), hm, hw]
  exact nm_e ⟨v, nm_e ⟨v, nm_e (br_t (by decide) (nm_e h))⟩⟩
/-- a frame that waits with a node -/
theorem gx_retN {post : SX → Prop} {q m d : Nat} {e : Int32} (hq : q < 64) (hm : a_frameMark q = nI m) (hw : a_frameWord q = nI d) (he : a_frameEnv q = e) (hg : gm_go m)
    (h8 : m = 8 → wpX_enterRightTerm post (f_derefLimit, f_recordLimit, f_frameLimit, f_nodeCount, f_currentStatus, f_faultNode, f_typeCount, f_currentNode, f_currentEnv, f_returning, f_returnedNumber, nI q, f_lastOutcome, f_lastValue, f_derefsMade, f_recordsMade, a_nodeKind, a_nodeArg, a_expectedPlaces, a_nodeAtPlace, a_placeOfNode, a_variablesSeen, a_nodeType, a_gradeOfBinder, a_variableType, a_usage, a_typeKind, a_typeGrade, a_typeLeft, a_typeRight, a_frameMark, a_frameWord, a_frameEnv, a_thunkNode, a_thunkEnv, a_restOfEnv, a_binderOfRecord, a_gradeOfRecord, a_countOfRecord) (nI d) e) (h10 : m = 10 → wpX_enterFunction post (f_derefLimit, f_recordLimit, f_frameLimit, f_nodeCount, f_currentStatus, f_faultNode, f_typeCount, f_currentNode, f_currentEnv, f_returning, f_returnedNumber, nI q, f_lastOutcome, f_lastValue, f_derefsMade, f_recordsMade, a_nodeKind, a_nodeArg, a_expectedPlaces, a_nodeAtPlace, a_placeOfNode, a_variablesSeen, a_nodeType, a_gradeOfBinder, a_variableType, a_usage, a_typeKind, a_typeGrade, a_typeLeft, a_typeRight, a_frameMark, a_frameWord, a_frameEnv, a_thunkNode, a_thunkEnv, a_restOfEnv, a_binderOfRecord, a_gradeOfRecord, a_countOfRecord) (nI d) e) (h12 : m = 12 → wpX_enterLetPair post (f_derefLimit, f_recordLimit, f_frameLimit, f_nodeCount, f_currentStatus, f_faultNode, f_typeCount, f_currentNode, f_currentEnv, f_returning, f_returnedNumber, nI q, f_lastOutcome, f_lastValue, f_derefsMade, f_recordsMade, a_nodeKind, a_nodeArg, a_expectedPlaces, a_nodeAtPlace, a_placeOfNode, a_variablesSeen, a_nodeType, a_gradeOfBinder, a_variableType, a_usage, a_typeKind, a_typeGrade, a_typeLeft, a_typeRight, a_frameMark, a_frameWord, a_frameEnv, a_thunkNode, a_thunkEnv, a_restOfEnv, a_binderOfRecord, a_gradeOfRecord, a_countOfRecord) (nI d) e)
    (h15 : m = 15 → wpX_enterBranch post (f_derefLimit, f_recordLimit, f_frameLimit, f_nodeCount, f_currentStatus, f_faultNode, f_typeCount, f_currentNode, f_currentEnv, f_returning, f_returnedNumber, nI q, f_lastOutcome, f_lastValue, f_derefsMade, f_recordsMade, a_nodeKind, a_nodeArg, a_expectedPlaces, a_nodeAtPlace, a_placeOfNode, a_variablesSeen, a_nodeType, a_gradeOfBinder, a_variableType, a_usage, a_typeKind, a_typeGrade, a_typeLeft, a_typeRight, a_frameMark, a_frameWord, a_frameEnv, a_thunkNode, a_thunkEnv, a_restOfEnv, a_binderOfRecord, a_gradeOfRecord, a_countOfRecord) (nI d) e) (h17 : m = 17 → wpX_enterLetBox post (f_derefLimit, f_recordLimit, f_frameLimit, f_nodeCount, f_currentStatus, f_faultNode, f_typeCount, f_currentNode, f_currentEnv, f_returning, f_returnedNumber, nI q, f_lastOutcome, f_lastValue, f_derefsMade, f_recordsMade, a_nodeKind, a_nodeArg, a_expectedPlaces, a_nodeAtPlace, a_placeOfNode, a_variablesSeen, a_nodeType, a_gradeOfBinder, a_variableType, a_usage, a_typeKind, a_typeGrade, a_typeLeft, a_typeRight, a_frameMark, a_frameWord, a_frameEnv, a_thunkNode, a_thunkEnv, a_restOfEnv, a_binderOfRecord, a_gradeOfRecord, a_countOfRecord) (nI d) e) : wpX_returnValue post (f_derefLimit, f_recordLimit, f_frameLimit, f_nodeCount, f_currentStatus, f_faultNode, f_typeCount, f_currentNode, f_currentEnv, f_returning, f_returnedNumber, nI (q + 1), f_lastOutcome, f_lastValue, f_derefsMade, f_recordsMade, a_nodeKind, a_nodeArg, a_expectedPlaces, a_nodeAtPlace, a_placeOfNode, a_variablesSeen, a_nodeType, a_gradeOfBinder, a_variableType, a_usage, a_typeKind, a_typeGrade, a_typeLeft, a_typeRight, a_frameMark, a_frameWord, a_frameEnv, a_thunkNode, a_thunkEnv, a_restOfEnv, a_binderOfRecord, a_gradeOfRecord, a_countOfRecord) := by
  unfold wpX_returnValue
  dsimp only
  have v := vp_in_nI hq (by decide)
  refine br_f (nI_ne0 (by omega) (by omega)) (nm_r (nI_pred q) ⟨v, ?_⟩)
  rw [nI_clamp (show q < 2 ^ 31 by omega), hm, hw, he]
  refine nm_e ⟨v, nm_e ⟨v, nm_e ?_⟩⟩
  rcases hg with e | e | e | e | e
  · have := h8 e
    rw [e]; exact br_f (by decide) (br_t (by decide) this)
  · have := h10 e
    rw [e]; exact br_f (by decide) (br_f (by decide) (br_t (by decide) this))
  · have := h12 e
    rw [e]; exact br_f (by decide) (br_f (by decide) (br_f (by decide) (br_t (by decide) this)))
  · have := h15 e
    rw [e]; exact br_f (by decide) (br_f (by decide) (br_f (by decide) (br_f (by decide) (br_t (by decide) this))))
  · have := h17 e
    rw [e]; exact br_f (by decide) (br_f (by decide) (br_f (by decide) (br_f (by decide) (br_f (by decide) this))))
theorem gx_en8 {post : SX → Prop} {q d c : Nat} {e : Int32} (hd : d < 32) (hc : a_nodeAtPlace (3 * d + 1) = nI c) (hq : q < 64)
    (h : post (f_derefLimit, f_recordLimit, f_frameLimit, f_nodeCount, f_currentStatus, f_faultNode, f_typeCount, nI c, e, 0, f_returnedNumber, nI (q + 1), f_lastOutcome, f_lastValue, f_derefsMade, f_recordsMade, a_nodeKind, a_nodeArg, a_expectedPlaces, a_nodeAtPlace, a_placeOfNode, a_variablesSeen, a_nodeType, a_gradeOfBinder, a_variableType, a_usage, a_typeKind, a_typeGrade, a_typeLeft, a_typeRight, upd a_frameMark q 0, upd a_frameWord q f_returnedNumber, upd a_frameEnv q 0, a_thunkNode, a_thunkEnv, a_restOfEnv, a_binderOfRecord, a_gradeOfRecord, a_countOfRecord)) : wpX_enterRightTerm post (f_derefLimit, f_recordLimit, f_frameLimit, f_nodeCount, f_currentStatus, f_faultNode, f_typeCount, f_currentNode, f_currentEnv, f_returning, f_returnedNumber, nI q, f_lastOutcome, f_lastValue, f_derefsMade, f_recordsMade, a_nodeKind, a_nodeArg, a_expectedPlaces, a_nodeAtPlace, a_placeOfNode, a_variablesSeen, a_nodeType, a_gradeOfBinder, a_variableType, a_usage, a_typeKind, a_typeGrade, a_typeLeft, a_typeRight, a_frameMark, a_frameWord, a_frameEnv, a_thunkNode, a_thunkEnv, a_restOfEnv, a_binderOfRecord, a_gradeOfRecord, a_countOfRecord) (nI d) e := by
  unfold wpX_enterRightTerm
  dsimp only
  exact gx_co (j := 1) hd (by omega) hc (gx_fpush hq h)
theorem gx_en10 {post : SX → Prop} {rc rl d t c b : Nat} {e : Int32} (hd : d < 32) (ht : t < 32) (hc : a_nodeAtPlace (3 * d + 1) = nI c) (hb : a_nodeAtPlace (3 * t + 1) = nI b) (hrc : rc ≤ rl) (hrl : rl ≤ 32)
    (h0 : rc = rl → post (f_derefLimit, nI rl, f_frameLimit, f_nodeCount, f_currentStatus, f_faultNode, f_typeCount, nI t, f_currentEnv, f_returning, f_returnedNumber, f_frameCount, 8, f_lastValue, f_derefsMade, nI rc, a_nodeKind, a_nodeArg, a_expectedPlaces, a_nodeAtPlace, a_placeOfNode, a_variablesSeen, a_nodeType, a_gradeOfBinder, a_variableType, a_usage, a_typeKind, a_typeGrade, a_typeLeft, a_typeRight, a_frameMark, a_frameWord, a_frameEnv, a_thunkNode, a_thunkEnv, a_restOfEnv, a_binderOfRecord, a_gradeOfRecord, a_countOfRecord))
    (h1 : rc < rl → post (f_derefLimit, nI rl, f_frameLimit, f_nodeCount, f_currentStatus, f_faultNode, f_typeCount, nI b, nI (rc + 1), 0, f_returnedNumber, f_frameCount, f_lastOutcome, f_lastValue, f_derefsMade, nI (rc + 1), a_nodeKind, a_nodeArg, a_expectedPlaces, a_nodeAtPlace, a_placeOfNode, a_variablesSeen, a_nodeType, a_gradeOfBinder, a_variableType, a_usage, a_typeKind, a_typeGrade, a_typeLeft, a_typeRight, a_frameMark, a_frameWord, a_frameEnv, upd a_thunkNode (rc + 1) (nI c), upd a_thunkEnv (rc + 1) e, upd a_restOfEnv (rc + 1) f_currentEnv, upd a_binderOfRecord (rc + 1) (nI t), upd a_gradeOfRecord (rc + 1) (a_gradeOfBinder t), upd a_countOfRecord (rc + 1) 0)) :
    wpX_enterFunction post (f_derefLimit, nI rl, f_frameLimit, f_nodeCount, f_currentStatus, f_faultNode, f_typeCount, nI t, f_currentEnv, f_returning, f_returnedNumber, f_frameCount, f_lastOutcome, f_lastValue, f_derefsMade, nI rc, a_nodeKind, a_nodeArg, a_expectedPlaces, a_nodeAtPlace, a_placeOfNode, a_variablesSeen, a_nodeType, a_gradeOfBinder, a_variableType, a_usage, a_typeKind, a_typeGrade, a_typeLeft, a_typeRight, a_frameMark, a_frameWord, a_frameEnv, a_thunkNode, a_thunkEnv, a_restOfEnv, a_binderOfRecord, a_gradeOfRecord, a_countOfRecord) (nI d) e := by
  unfold wpX_enterFunction
  dsimp only
  refine gx_co (j := 1) hd (by omega) hc (gx_co (j := 1) ht (by omega) hb ?_)
  exact gx_mr ht hrc hrl (fun z => br_t rfl (h0 z)) (fun z => br_f (by decide) (h1 z))
theorem gx_en17 {post : SX → Prop} {rc rl d t c b : Nat} {e : Int32} (hd : d < 32) (ht : t < 32) (hc : a_nodeAtPlace (3 * t + 0) = nI c) (hb : a_nodeAtPlace (3 * d + 1) = nI b) (hrc : rc ≤ rl) (hrl : rl ≤ 32)
    (h0 : rc = rl → post (f_derefLimit, nI rl, f_frameLimit, f_nodeCount, f_currentStatus, f_faultNode, f_typeCount, nI t, f_currentEnv, f_returning, f_returnedNumber, f_frameCount, 8, f_lastValue, f_derefsMade, nI rc, a_nodeKind, a_nodeArg, a_expectedPlaces, a_nodeAtPlace, a_placeOfNode, a_variablesSeen, a_nodeType, a_gradeOfBinder, a_variableType, a_usage, a_typeKind, a_typeGrade, a_typeLeft, a_typeRight, a_frameMark, a_frameWord, a_frameEnv, a_thunkNode, a_thunkEnv, a_restOfEnv, a_binderOfRecord, a_gradeOfRecord, a_countOfRecord))
    (h1 : rc < rl → post (f_derefLimit, nI rl, f_frameLimit, f_nodeCount, f_currentStatus, f_faultNode, f_typeCount, nI b, nI (rc + 1), 0, f_returnedNumber, f_frameCount, f_lastOutcome, f_lastValue, f_derefsMade, nI (rc + 1), a_nodeKind, a_nodeArg, a_expectedPlaces, a_nodeAtPlace, a_placeOfNode, a_variablesSeen, a_nodeType, a_gradeOfBinder, a_variableType, a_usage, a_typeKind, a_typeGrade, a_typeLeft, a_typeRight, a_frameMark, a_frameWord, a_frameEnv, upd a_thunkNode (rc + 1) (nI c), upd a_thunkEnv (rc + 1) f_currentEnv, upd a_restOfEnv (rc + 1) e, upd a_binderOfRecord (rc + 1) (nI d), upd a_gradeOfRecord (rc + 1) (a_gradeOfBinder d), upd a_countOfRecord (rc + 1) 0)) :
    wpX_enterLetBox post (f_derefLimit, nI rl, f_frameLimit, f_nodeCount, f_currentStatus, f_faultNode, f_typeCount, nI t, f_currentEnv, f_returning, f_returnedNumber, f_frameCount, f_lastOutcome, f_lastValue, f_derefsMade, nI rc, a_nodeKind, a_nodeArg, a_expectedPlaces, a_nodeAtPlace, a_placeOfNode, a_variablesSeen, a_nodeType, a_gradeOfBinder, a_variableType, a_usage, a_typeKind, a_typeGrade, a_typeLeft, a_typeRight, a_frameMark, a_frameWord, a_frameEnv, a_thunkNode, a_thunkEnv, a_restOfEnv, a_binderOfRecord, a_gradeOfRecord, a_countOfRecord) (nI d) e := by
  unfold wpX_enterLetBox
  dsimp only
  refine gx_co (j := 0) ht (by omega) hc (gx_co (j := 1) hd (by omega) hb ?_)
  exact gx_mr hd hrc hrl (fun z => br_t rfl (h0 z)) (fun z => br_f (by decide) (h1 z))
theorem gx_en15 {post : SX → Prop} {kt rc rl d t c b : Nat} {e : Int32} (hd : d < 32) (ht : t < 32) (hk : a_nodeKind t = nI kt) (hkt : kt ≤ 17) (hc : a_nodeAtPlace (3 * t + 1) = nI c) (hb : a_nodeAtPlace (3 * d + (if kt = 13 then 1 else 2)) = nI b) (hrc : rc ≤ rl) (hrl : rl ≤ 32)
    (h0 : rc = rl → post (f_derefLimit, nI rl, f_frameLimit, f_nodeCount, f_currentStatus, f_faultNode, f_typeCount, nI t, f_currentEnv, f_returning, f_returnedNumber, f_frameCount, 8, f_lastValue, f_derefsMade, nI rc, a_nodeKind, a_nodeArg, a_expectedPlaces, a_nodeAtPlace, a_placeOfNode, a_variablesSeen, a_nodeType, a_gradeOfBinder, a_variableType, a_usage, a_typeKind, a_typeGrade, a_typeLeft, a_typeRight, a_frameMark, a_frameWord, a_frameEnv, a_thunkNode, a_thunkEnv, a_restOfEnv, a_binderOfRecord, a_gradeOfRecord, a_countOfRecord))
    (h1 : rc < rl → post (f_derefLimit, nI rl, f_frameLimit, f_nodeCount, f_currentStatus, f_faultNode, f_typeCount, nI b, nI (rc + 1), 0, f_returnedNumber, f_frameCount, f_lastOutcome, f_lastValue, f_derefsMade, nI (rc + 1), a_nodeKind, a_nodeArg, a_expectedPlaces, a_nodeAtPlace, a_placeOfNode, a_variablesSeen, a_nodeType, a_gradeOfBinder, a_variableType, a_usage, a_typeKind, a_typeGrade, a_typeLeft, a_typeRight, a_frameMark, a_frameWord, a_frameEnv, upd a_thunkNode (rc + 1) (nI c), upd a_thunkEnv (rc + 1) f_currentEnv, upd a_restOfEnv (rc + 1) e, upd a_binderOfRecord (rc + 1) (nI d), upd a_gradeOfRecord (rc + 1) (a_gradeOfBinder d), upd a_countOfRecord (rc + 1) 0)) :
    wpX_enterBranch post (f_derefLimit, nI rl, f_frameLimit, f_nodeCount, f_currentStatus, f_faultNode, f_typeCount, nI t, f_currentEnv, f_returning, f_returnedNumber, f_frameCount, f_lastOutcome, f_lastValue, f_derefsMade, nI rc, a_nodeKind, a_nodeArg, a_expectedPlaces, a_nodeAtPlace, a_placeOfNode, a_variablesSeen, a_nodeType, a_gradeOfBinder, a_variableType, a_usage, a_typeKind, a_typeGrade, a_typeLeft, a_typeRight, a_frameMark, a_frameWord, a_frameEnv, a_thunkNode, a_thunkEnv, a_restOfEnv, a_binderOfRecord, a_gradeOfRecord, a_countOfRecord) (nI d) e := by
  unfold wpX_enterBranch
  dsimp only
  refine gx_co (j := 1) ht (by omega) hc ⟨vp_in_nI ht (by decide), ?_⟩
  rw [nI_clamp (show t < 2 ^ 31 by omega), hk]
  refine pk_eq kt 13 (fun z => ?_) (fun z => ?_)
  · rw [if_pos z] at hb
    unfold wX_enterBranch_31
    refine gx_co (j := 1) hd (by omega) hb ?_
    exact gx_mr hd hrc hrl (fun z => br_t rfl (h0 z)) (fun z => br_f (by decide) (h1 z))
  · rw [if_neg z] at hb
    unfold wX_enterBranch_31
    refine gx_co (j := 2) hd (by omega) hb ?_
    exact gx_mr hd hrc hrl (fun z => br_t rfl (h0 z)) (fun z => br_f (by decide) (h1 z))
theorem gx_en12 {post : SX → Prop} {rc rl d t c0 c1 b : Nat} {e : Int32} (hd : d < 32) (ht : t < 32) (hc0 : a_nodeAtPlace (3 * t + 0) = nI c0) (hc1 : a_nodeAtPlace (3 * t + 1) = nI c1) (hb : a_nodeAtPlace (3 * d + 1) = nI b) (hrc : rc ≤ rl) (hrl : rl ≤ 32)
    (h0 : rc = rl → post (f_derefLimit, nI rl, f_frameLimit, f_nodeCount, f_currentStatus, f_faultNode, f_typeCount, nI t, f_currentEnv, f_returning, f_returnedNumber, f_frameCount, 8, f_lastValue, f_derefsMade, nI rc, a_nodeKind, a_nodeArg, a_expectedPlaces, a_nodeAtPlace, a_placeOfNode, a_variablesSeen, a_nodeType, a_gradeOfBinder, a_variableType, a_usage, a_typeKind, a_typeGrade, a_typeLeft, a_typeRight, a_frameMark, a_frameWord, a_frameEnv, a_thunkNode, a_thunkEnv, a_restOfEnv, a_binderOfRecord, a_gradeOfRecord, a_countOfRecord))
    (h1 : rc + 1 = rl → post (f_derefLimit, nI rl, f_frameLimit, f_nodeCount, f_currentStatus, f_faultNode, f_typeCount, nI t, f_currentEnv, f_returning, f_returnedNumber, f_frameCount, 8, f_lastValue, f_derefsMade, nI (rc + 1), a_nodeKind, a_nodeArg, a_expectedPlaces, a_nodeAtPlace, a_placeOfNode, a_variablesSeen, a_nodeType, a_gradeOfBinder, a_variableType, a_usage, a_typeKind, a_typeGrade, a_typeLeft, a_typeRight, a_frameMark, a_frameWord, a_frameEnv, upd a_thunkNode (rc + 1) (nI c0), upd a_thunkEnv (rc + 1) f_currentEnv, upd a_restOfEnv (rc + 1) e, upd a_binderOfRecord (rc + 1) (nI d), upd a_gradeOfRecord (rc + 1) (a_gradeOfBinder d), upd a_countOfRecord (rc + 1) 0))
    (h2 : rc + 1 < rl → post (f_derefLimit, nI rl, f_frameLimit, f_nodeCount, f_currentStatus, f_faultNode, f_typeCount, nI b, nI (rc + 1 + 1), 0, f_returnedNumber, f_frameCount, f_lastOutcome, f_lastValue, f_derefsMade, nI (rc + 1 + 1), a_nodeKind, a_nodeArg, a_expectedPlaces, a_nodeAtPlace, a_placeOfNode, a_variablesSeen, a_nodeType, a_gradeOfBinder, a_variableType, a_usage, a_typeKind, a_typeGrade, a_typeLeft, a_typeRight, a_frameMark, a_frameWord, a_frameEnv, upd (upd a_thunkNode (rc + 1) (nI c0)) (rc + 1 + 1) (nI c1), upd (upd a_thunkEnv (rc + 1) f_currentEnv) (rc + 1 + 1) f_currentEnv, upd (upd a_restOfEnv (rc + 1) e) (rc + 1 + 1) (nI (rc + 1)), upd (upd a_binderOfRecord (rc + 1) (nI d)) (rc + 1 + 1) (nI d), upd (upd a_gradeOfRecord (rc + 1) (a_gradeOfBinder d)) (rc + 1 + 1) (a_gradeOfBinder d), upd (upd a_countOfRecord (rc + 1) 0) (rc + 1 + 1) 0)) :
    wpX_enterLetPair post (f_derefLimit, nI rl, f_frameLimit, f_nodeCount, f_currentStatus, f_faultNode, f_typeCount, nI t, f_currentEnv, f_returning, f_returnedNumber, f_frameCount, f_lastOutcome, f_lastValue, f_derefsMade, nI rc, a_nodeKind, a_nodeArg, a_expectedPlaces, a_nodeAtPlace, a_placeOfNode, a_variablesSeen, a_nodeType, a_gradeOfBinder, a_variableType, a_usage, a_typeKind, a_typeGrade, a_typeLeft, a_typeRight, a_frameMark, a_frameWord, a_frameEnv, a_thunkNode, a_thunkEnv, a_restOfEnv, a_binderOfRecord, a_gradeOfRecord, a_countOfRecord) (nI d) e := by
  unfold wpX_enterLetPair
  dsimp only
  refine gx_co (j := 0) ht (by omega) hc0 (gx_co (j := 1) ht (by omega) hc1 (gx_co (j := 1) hd (by omega) hb ?_))
  refine gx_mr hd hrc hrl (fun z => br_t rfl (h0 z)) (fun z => br_f (by decide) ?_)
  try dsimp only
  exact gx_mr hd z hrl (fun z => br_t rfl (h1 z)) (fun z => br_f (by decide) (h2 z))
end
end
section
/-! the reference's machine, a step at a time -/
section
variable {f_dLim f_rLim f_fLim f_n f_stat f_err f_out f_vInt f_recs f_drf f_fsp : Int32} {a_kind a_arg a_ch a_par a_pos a_seen a_st a_ty a_tyK a_tyG a_tyA a_tyB a_u a_bg a_ux a_uy a_stk a_eqA a_eqB a_rT a_rE a_rG a_rN a_rC a_rX a_fK a_fA a_fE : Nat → Int32}
theorem gy_nr {post : Int32 → SY → Prop} {rc rl : Nat} {p0 p1 p2 p3 p4 : Int32} (hrc : rc ≤ rl) (hrl : rl ≤ 32) (h0 : rc = rl → post (-1) (f_dLim, nI rl, f_fLim, f_n, f_stat, f_err, f_out, f_vInt, nI rc, f_drf, f_fsp, a_kind, a_arg, a_ch, a_par, a_pos, a_seen, a_st, a_ty, a_tyK, a_tyG, a_tyA, a_tyB, a_u, a_bg, a_ux, a_uy, a_stk, a_eqA, a_eqB, a_rT, a_rE, a_rG, a_rN, a_rC, a_rX, a_fK, a_fA, a_fE))
    (h1 : rc < rl → post (nI rc) (f_dLim, nI rl, f_fLim, f_n, f_stat, f_err, f_out, f_vInt, nI (rc + 1), f_drf, f_fsp, a_kind, a_arg, a_ch, a_par, a_pos, a_seen, a_st, a_ty, a_tyK, a_tyG, a_tyA, a_tyB, a_u, a_bg, a_ux, a_uy, a_stk, a_eqA, a_eqB, upd a_rT rc p0, upd a_rE rc p1, upd a_rG rc p2, upd a_rN rc p3, upd a_rC rc 0, upd a_rX rc p4, a_fK, a_fA, a_fE)) : wpY_newRec post (f_dLim, nI rl, f_fLim, f_n, f_stat, f_err, f_out, f_vInt, nI rc, f_drf, f_fsp, a_kind, a_arg, a_ch, a_par, a_pos, a_seen, a_st, a_ty, a_tyK, a_tyG, a_tyA, a_tyB, a_u, a_bg, a_ux, a_uy, a_stk, a_eqA, a_eqB, a_rT, a_rE, a_rG, a_rN, a_rC, a_rX, a_fK, a_fA, a_fE) p0 p1 p2 p3 p4 := by
  unfold wpY_newRec
  dsimp only
  refine pk_lt rc rl (fun z => ?_) (fun z => h0 (by omega))
  rw [nI_clamp (show rc < 2 ^ 31 by omega)]
  have v := vp_in_nI (show rc < 32 by omega) (by decide)
  refine ⟨v, nm_e ⟨v, nm_e ⟨v, nm_e ⟨v, nm_e ⟨v, nm_e ⟨v, nm_e (nm_r (nI_1 rc) ?_)⟩⟩⟩⟩⟩⟩
  rw [nI_pred]
  exact h1 z
theorem gy_rV {post : Int32 → SY → Prop} {kd : Nat → Nat} {t f step : Nat} {x2 x4 x5 x6 x7 : Int32} (hs : step < 100000) (ht : t < 32) (hK : a_kind t = nI (kd t)) (hv : gm_vl (kd t))
    (h : wY_run_41 post f (nI t) x2 1 (nI t) x2 (nI (kd t)) (a_arg t) (nI (step + 1)) f_dLim f_rLim f_fLim f_n f_stat f_err f_out f_vInt f_recs f_drf f_fsp a_kind a_arg a_ch a_par a_pos a_seen a_st a_ty a_tyK a_tyG a_tyA a_tyB a_u a_bg a_ux a_uy a_stk a_eqA a_eqB a_rT a_rE a_rG a_rN a_rC a_rX a_fK a_fA a_fE) : wY_run_41 post (f + 1) (nI t) x2 0 x4 x5 x6 x7 (nI step) f_dLim f_rLim f_fLim f_n f_stat f_err f_out f_vInt f_recs f_drf f_fsp a_kind a_arg a_ch a_par a_pos a_seen a_st a_ty a_tyK a_tyG a_tyA a_tyB a_u a_bg a_ux a_uy a_stk a_eqA a_eqB a_rT a_rE a_rG a_rN a_rC a_rX a_fK a_fA a_fE := by
  have v := vp_in_nI ht (by decide)
  refine br_f (nI_ge (b := 100000) hs (by decide)) (br_t rfl ⟨v, ?_⟩)
  rw [nI_clamp (show t < 2 ^ 31 by omega), hK]
  refine nm_e ?_
  rcases hv with e | e | e | e | e | e
  all_goals (
    rw [e] at h ⊢
    repeat (refine br_f (by decide) ?_)
    exact ⟨v, nm_e (nm_r (nI_1 step) h)⟩)
theorem gy_env {post : Int32 → Prop} {rs : Nat → Nat} {rc i e : Nat} (hi : i < 32) (hrc : rc ≤ 32) (hE : ∀ j, j ≤ i → 1 ≤ gm_nth rs e j ∧ gm_nth rs e j ≤ rc) (hR : ∀ r, 1 ≤ r → r ≤ rc → a_rX (r - 1) = nI (rs r) - 1) (h : post (nI (gm_nth rs e i - 1))) :
    ∀ d j fuel, j + d = i → d < fuel → wY_envAt_2 post (nI i) f_dLim f_rLim f_fLim f_n f_stat f_err f_out f_vInt f_recs f_drf f_fsp a_kind a_arg a_ch a_par a_pos a_seen a_st a_ty a_tyK a_tyG a_tyA a_tyB a_u a_bg a_ux a_uy a_stk a_eqA a_eqB a_rT a_rE a_rG a_rN a_rC a_rX a_fK a_fA a_fE fuel (nI (gm_nth rs e j) - 1) (nI j)
  | _, _, 0, _, hf => by omega
  | 0, j, fuel + 1, hj, hf => by
    have ej : j = i := by omega
    subst ej
    obtain ⟨a, b⟩ := hE j (Nat.le_refl _)
    rw [show nI (gm_nth rs e j) - 1 = nI (gm_nth rs e j - 1) from pk_sub (b := 1) a]
    exact br_t (nI_le (Nat.le_refl _) (by omega)) h
  | d + 1, j, fuel + 1, hj, hf => by
    obtain ⟨a, b⟩ := hE j (by omega)
    have IH := gy_env hi hrc hE hR h d (j + 1) fuel (by omega) (by omega)
    rw [show nI (gm_nth rs e j) - 1 = nI (gm_nth rs e j - 1) from pk_sub (b := 1) a]
    refine br_f (nI_ge (by omega) (by omega)) (br_f (nI_ge (b := 64) (by omega) (by decide)) (br_t (nI_pos' (by omega)) ⟨vp_in_nI (by omega) (by decide), ?_⟩))
    rw [nI_clamp (show gm_nth rs e j - 1 < 2 ^ 31 by omega), hR _ a b]
    exact nm_e (nm_r (nI_1 j) IH)
theorem gy_rD {post : Int32 → SY → Prop} {rs tn te : Nat → Nat} {rc i t e dr dl f step : Nat} {x4 x5 x6 x7 : Int32} (hs : step < 100000) (ht : t < 32) (hK : a_kind t = nI 6) (hi : a_arg t = nI i) (hi2 : i < 32) (hrc : rc ≤ 32) (hdr : dr ≤ dl) (hdl : dl ≤ 64) (hE : ∀ j, j ≤ i → 1 ≤ gm_nth rs e j ∧ gm_nth rs e j ≤ rc)
    (hR : ∀ r, 1 ≤ r → r ≤ rc → a_rX (r - 1) = nI (rs r) - 1 ∧ a_rT (r - 1) = nI (tn r) ∧ a_rE (r - 1) = nI (te r) - 1)
    (h0 : dr = dl → post 7 (nI dl, f_rLim, f_fLim, f_n, f_stat, f_err, 7, f_vInt, f_recs, nI dr, f_fsp, a_kind, a_arg, a_ch, a_par, a_pos, a_seen, a_st, a_ty, a_tyK, a_tyG, a_tyA, a_tyB, a_u, a_bg, a_ux, a_uy, a_stk, a_eqA, a_eqB, a_rT, a_rE, a_rG, a_rN, a_rC, a_rX, a_fK, a_fA, a_fE))
    (h : dr < dl → wY_run_41 post f (nI (tn (gm_nth rs e i))) (nI (te (gm_nth rs e i)) - 1) 0 x4 x5 x6 x7 (nI (step + 1)) (nI dl) f_rLim f_fLim f_n f_stat f_err f_out f_vInt f_recs (nI (dr + 1)) f_fsp a_kind a_arg a_ch a_par a_pos a_seen a_st a_ty a_tyK a_tyG a_tyA a_tyB a_u a_bg a_ux a_uy a_stk a_eqA a_eqB a_rT a_rE a_rG a_rN (upd a_rC (gm_nth rs e i - 1) (a_rC (gm_nth rs e i - 1) + 1)) a_rX a_fK a_fA a_fE) :
    wY_run_41 post (f + 1) (nI t) (nI e - 1) 0 x4 x5 x6 x7 (nI step) (nI dl) f_rLim f_fLim f_n f_stat f_err f_out f_vInt f_recs (nI dr) f_fsp a_kind a_arg a_ch a_par a_pos a_seen a_st a_ty a_tyK a_tyG a_tyA a_tyB a_u a_bg a_ux a_uy a_stk a_eqA a_eqB a_rT a_rE a_rG a_rN a_rC a_rX a_fK a_fA a_fE := by
  have v := vp_in_nI ht (by decide)
  obtain ⟨a, b⟩ := hE i (Nat.le_refl _)
  obtain ⟨r1, r2, r3⟩ := hR _ a b
  have vr := vp_in_nI (show gm_nth rs e i - 1 < 32 by omega) (by decide)
  refine br_f (nI_ge (b := 100000) hs (by decide)) (br_t rfl ⟨v, ?_⟩)
  rw [nI_clamp (show t < 2 ^ 31 by omega), hK]
  refine nm_e (br_t (by decide) (pk_eq dr dl h0 (fun z => ⟨v, ?_⟩)))
  rw [hi]
  refine ⟨i + 1, gy_env hi2 hrc hE (fun r a b => (hR r a b).1) ?_ i 0 (i + 1) (by omega) (by omega)⟩
  try dsimp only
  rw [nI_clamp (show gm_nth rs e i - 1 < 2 ^ 31 by omega), r2, r3]
  exact br_t (nI_pos' (by omega)) ⟨vr, vr, nm_e (nm_r (nI_1 dr) ⟨vr, nm_e ⟨vr, nm_e (nm_r (nI_1 step) (h (by omega)))⟩⟩)⟩
theorem gy_ps {post : Int32 → SY → Prop} {q fl : Nat} {m w e : Int32} (hq : q ≤ fl) (hfl : fl ≤ 64) (h0 : q = fl → post 0 (f_dLim, f_rLim, nI fl, f_n, f_stat, f_err, f_out, f_vInt, f_recs, f_drf, nI q, a_kind, a_arg, a_ch, a_par, a_pos, a_seen, a_st, a_ty, a_tyK, a_tyG, a_tyA, a_tyB, a_u, a_bg, a_ux, a_uy, a_stk, a_eqA, a_eqB, a_rT, a_rE, a_rG, a_rN, a_rC, a_rX, a_fK, a_fA, a_fE))
    (h1 : q < fl → post 1 (f_dLim, f_rLim, nI fl, f_n, f_stat, f_err, f_out, f_vInt, f_recs, f_drf, nI (q + 1), a_kind, a_arg, a_ch, a_par, a_pos, a_seen, a_st, a_ty, a_tyK, a_tyG, a_tyA, a_tyB, a_u, a_bg, a_ux, a_uy, a_stk, a_eqA, a_eqB, a_rT, a_rE, a_rG, a_rN, a_rC, a_rX, upd a_fK q m, upd a_fA q w, upd a_fE q e)) : wpY_push post (f_dLim, f_rLim, nI fl, f_n, f_stat, f_err, f_out, f_vInt, f_recs, f_drf, nI q, a_kind, a_arg, a_ch, a_par, a_pos, a_seen, a_st, a_ty, a_tyK, a_tyG, a_tyA, a_tyB, a_u, a_bg, a_ux, a_uy, a_stk, a_eqA, a_eqB, a_rT, a_rE, a_rG, a_rN, a_rC, a_rX, a_fK, a_fA, a_fE) m w e := by
  unfold wpY_push
  dsimp only
  refine pk_lt q fl (fun z => ?_) (fun z => h0 (by omega))
  rw [nI_clamp (show q < 2 ^ 31 by omega)]
  have v := vp_in_nI (show q < 64 by omega) (by decide)
  exact ⟨v, nm_e ⟨v, nm_e ⟨v, nm_e (nm_r (nI_1 q) (h1 z))⟩⟩⟩
theorem gy_rG {post : Int32 → SY → Prop} {kd : Nat → Nat} {t c c1 q fl f step : Nat} {x2 x4 x5 x6 x7 : Int32} (hs : step < 100000) (ht : t < 32) (hK : a_kind t = nI (kd t)) (hg : gm_go (kd t)) (hc : a_ch (3 * t) = nI c) (hc1 : a_ch (3 * t + 1) = nI c1) (hq : q ≤ fl) (hfl : fl ≤ 64)
    (h0 : q = fl → post 9 (f_dLim, f_rLim, nI fl, f_n, f_stat, f_err, 9, f_vInt, f_recs, f_drf, nI q, a_kind, a_arg, a_ch, a_par, a_pos, a_seen, a_st, a_ty, a_tyK, a_tyG, a_tyA, a_tyB, a_u, a_bg, a_ux, a_uy, a_stk, a_eqA, a_eqB, a_rT, a_rE, a_rG, a_rN, a_rC, a_rX, a_fK, a_fA, a_fE))
    (h : q < fl → wY_run_41 post f (nI c) x2 0 x4 x5 x6 x7 (nI (step + 1)) f_dLim f_rLim (nI fl) f_n f_stat f_err f_out f_vInt f_recs f_drf (nI (q + 1)) a_kind a_arg a_ch a_par a_pos a_seen a_st a_ty a_tyK a_tyG a_tyA a_tyB a_u a_bg a_ux a_uy a_stk a_eqA a_eqB a_rT a_rE a_rG a_rN a_rC a_rX (upd a_fK q (nI (kd t))) (upd a_fA q (if kd t = 8 ∨ kd t = 10 then nI c1 else nI t)) (upd a_fE q x2)) :
    wY_run_41 post (f + 1) (nI t) x2 0 x4 x5 x6 x7 (nI step) f_dLim f_rLim (nI fl) f_n f_stat f_err f_out f_vInt f_recs f_drf (nI q) a_kind a_arg a_ch a_par a_pos a_seen a_st a_ty a_tyK a_tyG a_tyA a_tyB a_u a_bg a_ux a_uy a_stk a_eqA a_eqB a_rT a_rE a_rG a_rN a_rC a_rX a_fK a_fA a_fE := by
  have v := vp_in_nI ht (by decide)
  have e3 : nI t * 3 = nI (3 * t) := by rw [show (nI t * 3 : Int32) = nI (t * 3) from pk_mul t 3, Nat.mul_comm]
  have fin : ∀ z0, z0 = (if kd t = 8 ∨ kd t = 10 then nI c1 else nI t) → wY_run_212 post (wY_run_41 post f) (nI t) x2 0 x4 x5 x6 x7 (nI step) (nI (kd t)) z0 f_dLim f_rLim (nI fl) f_n f_stat f_err f_out f_vInt f_recs f_drf (nI q) a_kind a_arg a_ch a_par a_pos a_seen a_st a_ty a_tyK a_tyG a_tyA a_tyB a_u a_bg a_ux a_uy a_stk a_eqA a_eqB a_rT a_rE a_rG a_rN a_rC a_rX a_fK a_fA a_fE := by
    intro z0 ez
    unfold wY_run_212
    refine gy_ps hq hfl (fun z => br_t rfl (h0 z)) (fun z => br_f (by decide) ?_)
    try dsimp only
    rw [e3, nI_clamp (show 3 * t < 2 ^ 31 by omega), hc, ez]
    exact ⟨vp_in_nI (by omega) (by decide), nm_e (nm_r (nI_1 step) (h z))⟩
  have go : wY_run_184 post (wY_run_41 post f) (nI t) x2 0 x4 x5 x6 x7 (nI step) (nI (kd t)) f_dLim f_rLim (nI fl) f_n f_stat f_err f_out f_vInt f_recs f_drf (nI q) a_kind a_arg a_ch a_par a_pos a_seen a_st a_ty a_tyK a_tyG a_tyA a_tyB a_u a_bg a_ux a_uy a_stk a_eqA a_eqB a_rT a_rE a_rG a_rN a_rC a_rX a_fK a_fA a_fE := by
    unfold wY_run_184
    have l : (kd t = 8 ∨ kd t = 10) → wY_run_198 post (wY_run_41 post f) (nI t) x2 0 x4 x5 x6 x7 (nI step) (nI (kd t)) f_dLim f_rLim (nI fl) f_n f_stat f_err f_out f_vInt f_recs f_drf (nI q) a_kind a_arg a_ch a_par a_pos a_seen a_st a_ty a_tyK a_tyG a_tyA a_tyB a_u a_bg a_ux a_uy a_stk a_eqA a_eqB a_rT a_rE a_rG a_rN a_rC a_rX a_fK a_fA a_fE := by
      intro z
      unfold wY_run_198
      rw [e3, nI_1, nI_clamp (show 3 * t + 1 < 2 ^ 31 by omega), hc1]
      exact ⟨vp_in_nI (by omega) (by decide), fin _ (by rw [if_pos z])⟩
    have k17 : kd t ≤ 17 := by rcases hg with e | e | e | e | e <;> omega
    exact pk_eq (kd t) 8 (fun z => l (Or.inl z)) (fun z => pk_eq (kd t) 10 (fun y => l (Or.inr y)) (fun y => fin _ (by rw [if_neg (fun w => w.elim z y)])))
  refine br_f (nI_ge (b := 100000) hs (by decide)) (br_t rfl ⟨v, ?_⟩)
  rw [nI_clamp (show t < 2 ^ 31 by omega), hK]
  refine nm_e ?_
  rcases hg with e | e | e | e | e
  all_goals (
    rw [e] at go ⊢
    repeat (refine br_f (by decide) ?_)
    exact br_t (by decide) go)
theorem gy_rH {post : Int32 → SY → Prop} {k f step : Nat} {x1 x2 x4 x5 x7 : Int32} (hs : step < 100000) (hv : gm_vl k)
    (h : ∀ lv, (k = 7 → lv = x7) → (k ≠ 7 → lv = f_vInt) → post (nI (gr_out k)) (f_dLim, f_rLim, f_fLim, f_n, f_stat, f_err, nI (gr_out k), lv, f_recs, f_drf, 0, a_kind, a_arg, a_ch, a_par, a_pos, a_seen, a_st, a_ty, a_tyK, a_tyG, a_tyA, a_tyB, a_u, a_bg, a_ux, a_uy, a_stk, a_eqA, a_eqB, a_rT, a_rE, a_rG, a_rN, a_rC, a_rX, a_fK, a_fA, a_fE)) : wY_run_41 post (f + 1) x1 x2 1 x4 x5 (nI k) x7 (nI step) f_dLim f_rLim f_fLim f_n f_stat f_err f_out f_vInt f_recs f_drf 0 a_kind a_arg a_ch a_par a_pos a_seen a_st a_ty a_tyK a_tyG a_tyA a_tyB a_u a_bg a_ux a_uy a_stk a_eqA a_eqB a_rT a_rE a_rG a_rN a_rC a_rX a_fK a_fA a_fE := by
  refine br_f (nI_ge (b := 100000) hs (by decide)) (br_f (by decide) (br_t rfl ?_))
  rcases hv with e | e | e | e | e | e
  · have := h _ (fun _ => rfl) (fun z => absurd e z)
    subst e
    exact br_t (by decide) this
  all_goals (have := h _ (fun z => by omega) (fun _ => rfl); subst e)
  · exact br_f (by decide) (br_t (by decide) this)
  · exact br_f (by decide) (br_f (by decide) (br_t (by decide) this))
  · exact br_f (by decide) (br_f (by decide) (br_f (by decide) (br_t (by decide) this)))
  · exact br_f (by decide) (br_f (by decide) (br_f (by decide) (br_f (by decide) (br_t (by decide) this))))
  · exact br_f (by decide) (br_f (by decide) (br_f (by decide) (br_f (by decide) (br_f (by decide) this))))
theorem gy_rA {post : Int32 → SY → Prop} {q f step : Nat} {x1 x2 x4 x5 x6 x7 w : Int32} (hs : step < 100000) (hq : q < 64) (hk : a_fK q = nI 7) (hw : a_fA q = w) (h : wY_run_41 post f x1 x2 1 x4 x5 x6 (w + x7) (nI (step + 1)) f_dLim f_rLim f_fLim f_n f_stat f_err f_out f_vInt f_recs f_drf (nI q) a_kind a_arg a_ch a_par a_pos a_seen a_st a_ty a_tyK a_tyG a_tyA a_tyB a_u a_bg a_ux a_uy a_stk a_eqA a_eqB a_rT a_rE a_rG a_rN a_rC a_rX a_fK a_fA a_fE) :
    wY_run_41 post (f + 1) x1 x2 1 x4 x5 x6 x7 (nI step) f_dLim f_rLim f_fLim f_n f_stat f_err f_out f_vInt f_recs f_drf (nI (q + 1)) a_kind a_arg a_ch a_par a_pos a_seen a_st a_ty a_tyK a_tyG a_tyA a_tyB a_u a_bg a_ux a_uy a_stk a_eqA a_eqB a_rT a_rE a_rG a_rN a_rC a_rX a_fK a_fA a_fE := by
  have v := vp_in_nI hq (by decide)
  refine br_f (nI_ge (b := 100000) hs (by decide)) (br_f (by decide) (br_f (nI_ne0 (by omega) (by omega)) (nm_r (nI_pred q) ⟨v, ?_⟩)))
  rw [nI_clamp (show q < 2 ^ 31 by omega), hk, hw]
  exact nm_e ⟨v, nm_e ⟨v, nm_e (br_f (by decide) (br_t (by decide) (nm_e (nm_r (nI_1 step) h))))⟩⟩
theorem gy_r8 {post : Int32 → SY → Prop} {q fl f step : Nat} {x1 x2 x4 x5 x6 x7 w e : Int32} (hs : step < 100000) (hq : q < fl) (hfl : fl ≤ 64) (hk : a_fK q = nI 8) (hw : a_fA q = w) (he : a_fE q = e)
    (h : wY_run_41 post f w e 0 x4 x5 x6 x7 (nI (step + 1)) f_dLim f_rLim (nI fl) f_n f_stat f_err f_out f_vInt f_recs f_drf (nI (q + 1)) a_kind a_arg a_ch a_par a_pos a_seen a_st a_ty a_tyK a_tyG a_tyA a_tyB a_u a_bg a_ux a_uy a_stk a_eqA a_eqB a_rT a_rE a_rG a_rN a_rC a_rX (upd a_fK q 7) (upd a_fA q x7) (upd a_fE q (-1))) :
    wY_run_41 post (f + 1) x1 x2 1 x4 x5 x6 x7 (nI step) f_dLim f_rLim (nI fl) f_n f_stat f_err f_out f_vInt f_recs f_drf (nI (q + 1)) a_kind a_arg a_ch a_par a_pos a_seen a_st a_ty a_tyK a_tyG a_tyA a_tyB a_u a_bg a_ux a_uy a_stk a_eqA a_eqB a_rT a_rE a_rG a_rN a_rC a_rX a_fK a_fA a_fE := by
  have v := vp_in_nI (show q < 64 by omega) (by decide)
  refine br_f (nI_ge (b := 100000) hs (by decide)) (br_f (by decide) (br_f (nI_ne0 (by omega) (by omega)) (nm_r (nI_pred q) ⟨v, ?_⟩)))
  rw [nI_clamp (show q < 2 ^ 31 by omega), hk, hw, he]
  refine nm_e ⟨v, nm_e ⟨v, nm_e (br_t (by decide) ?_)⟩⟩
  exact gy_ps (by omega) hfl (fun z => by omega) (fun _ => nm_r (nI_1 step) h)
/-- the common end of the frames that make records -/
theorem gy_680 {post : Int32 → SY → Prop} {f step rc : Nat} {x1 x4 x5 x6 x7 : Int32} (hrc : rc < 100) (h : wY_run_41 post f x1 (nI rc) 0 x4 x5 x6 x7 (nI (step + 1)) f_dLim f_rLim f_fLim f_n f_stat f_err f_out f_vInt f_recs f_drf f_fsp a_kind a_arg a_ch a_par a_pos a_seen a_st a_ty a_tyK a_tyG a_tyA a_tyB a_u a_bg a_ux a_uy a_stk a_eqA a_eqB a_rT a_rE a_rG a_rN a_rC a_rX a_fK a_fA a_fE) : wY_run_680 post (wY_run_41 post f) x1 x4 x5 x6 x7 (nI step) (nI rc) f_dLim f_rLim f_fLim f_n f_stat f_err f_out f_vInt f_recs f_drf f_fsp a_kind a_arg a_ch a_par a_pos a_seen a_st a_ty a_tyK a_tyG a_tyA a_tyB a_u a_bg a_ux a_uy a_stk a_eqA a_eqB a_rT a_rE a_rG a_rN a_rC a_rX a_fK a_fA a_fE := by
  unfold wY_run_680
  exact br_t (nI_pos' (by omega)) (nm_r (nI_1 step) h)
theorem gy_680m {post : Int32 → SY → Prop} {f : Nat} {x1 x4 x5 x6 x7 x8 : Int32} (h : post 8 (f_dLim, f_rLim, f_fLim, f_n, f_stat, f_err, 8, f_vInt, f_recs, f_drf, f_fsp, a_kind, a_arg, a_ch, a_par, a_pos, a_seen, a_st, a_ty, a_tyK, a_tyG, a_tyA, a_tyB, a_u, a_bg, a_ux, a_uy, a_stk, a_eqA, a_eqB, a_rT, a_rE, a_rG, a_rN, a_rC, a_rX, a_fK, a_fA, a_fE)) : wY_run_680 post (wY_run_41 post f) x1 x4 x5 x6 x7 x8 (-1) f_dLim f_rLim f_fLim f_n f_stat f_err f_out f_vInt f_recs f_drf f_fsp a_kind a_arg a_ch a_par a_pos a_seen a_st a_ty a_tyK a_tyG a_tyA a_tyB a_u a_bg a_ux a_uy a_stk a_eqA a_eqB a_rT a_rE a_rG a_rN a_rC a_rX a_fK a_fA a_fE := by
  unfold wY_run_680
  exact br_f (by decide) h
end
end
section
theorem gx_ix31 {t : Nat} : (nI t * 3) + 1 = nI (3 * t + 1) := gx_ix3 (j := 1)
theorem gx_ix32 {t : Nat} : (nI t * 3) + 2 = nI (3 * t + 2) := gx_ix3 (j := 2)
section
variable {f_dLim f_rLim f_fLim f_n f_stat f_err f_out f_vInt f_recs f_drf f_fsp : Int32} {a_kind a_arg a_ch a_par a_pos a_seen a_st a_ty a_tyK a_tyG a_tyA a_tyB a_u a_bg a_ux a_uy a_stk a_eqA a_eqB a_rT a_rE a_rG a_rN a_rC a_rX a_fK a_fA a_fE : Nat → Int32}
theorem gy_r10 {post : Int32 → SY → Prop} {q f step rc rl t b : Nat} {x1 x2 ve x6 x7 w e : Int32} (hs : step < 100000) (hq : q < 64) (hw : a_fA q = w) (he : a_fE q = e) (hk : a_fK q = nI 10) (ht : t < 32) (hb : a_ch (3 * t + 1) = nI b) (hrc : rc ≤ rl) (hrl : rl ≤ 32)
    (h0 : rc = rl → post 8 (f_dLim, nI rl, f_fLim, f_n, f_stat, f_err, 8, f_vInt, nI rc, f_drf, nI q, a_kind, a_arg, a_ch, a_par, a_pos, a_seen, a_st, a_ty, a_tyK, a_tyG, a_tyA, a_tyB, a_u, a_bg, a_ux, a_uy, a_stk, a_eqA, a_eqB, a_rT, a_rE, a_rG, a_rN, a_rC, a_rX, a_fK, a_fA, a_fE))
    (h1 : rc < rl → wY_run_41 post f (nI b) (nI rc) 0 (nI t) ve x6 x7 (nI (step + 1)) f_dLim (nI rl) f_fLim f_n f_stat f_err f_out f_vInt (nI (rc + 1)) f_drf (nI q) a_kind a_arg a_ch a_par a_pos a_seen a_st a_ty a_tyK a_tyG a_tyA a_tyB a_u a_bg a_ux a_uy a_stk a_eqA a_eqB (upd a_rT rc w) (upd a_rE rc e) (upd a_rG rc (a_bg t)) (upd a_rN rc (nI t)) (upd a_rC rc 0) (upd a_rX rc ve) a_fK a_fA a_fE) :
    wY_run_41 post (f + 1) x1 x2 1 (nI t) ve x6 x7 (nI step) f_dLim (nI rl) f_fLim f_n f_stat f_err f_out f_vInt (nI rc) f_drf (nI (q + 1)) a_kind a_arg a_ch a_par a_pos a_seen a_st a_ty a_tyK a_tyG a_tyA a_tyB a_u a_bg a_ux a_uy a_stk a_eqA a_eqB a_rT a_rE a_rG a_rN a_rC a_rX a_fK a_fA a_fE := by
  have v := vp_in_nI hq (by decide)
  refine br_f (nI_ge (b := 100000) hs (by decide)) (br_f (by decide) (br_f (nI_ne0 (by omega) (by omega)) (nm_r (nI_pred q) ⟨v, ?_⟩)))
  rw [nI_clamp (show q < 2 ^ 31 by omega), hk, hw, he]
  refine nm_e ⟨v, nm_e ⟨v, nm_e (br_f (by decide) (br_f (by decide) (br_t (by decide) ⟨vp_in_nI ht (by decide), ?_⟩)))⟩⟩
  rw [gx_ix31, nI_clamp (show t < 2 ^ 31 by omega), nI_clamp (show 3 * t + 1 < 2 ^ 31 by omega)]
  refine gy_nr hrc hrl (fun z => ⟨vp_in_nI (by omega) (by decide), ?_⟩) (fun z => ⟨vp_in_nI (by omega) (by decide), ?_⟩)
  · try dsimp only
    rw [hb]
    exact nm_e (br_f (by decide) (br_f (by decide) (br_f (by decide) (gy_680m (h0 z)))))
  · try dsimp only
    rw [hb]
    exact nm_e (br_f (by decide) (br_f (by decide) (br_f (by decide) (gy_680 (by omega) (h1 z)))))
theorem gy_r17 {post : Int32 → SY → Prop} {q f step rc rl t d c b : Nat} {x1 x2 ve x6 x7 e : Int32} (hs : step < 100000) (hq : q < 64) (hw : a_fA q = nI d) (he : a_fE q = e) (hk : a_fK q = nI 17) (ht : t < 32) (hd : d < 32) (hc : a_ch (3 * t) = nI c) (hb : a_ch (3 * d + 1) = nI b) (hrc : rc ≤ rl) (hrl : rl ≤ 32)
    (h0 : rc = rl → post 8 (f_dLim, nI rl, f_fLim, f_n, f_stat, f_err, 8, f_vInt, nI rc, f_drf, nI q, a_kind, a_arg, a_ch, a_par, a_pos, a_seen, a_st, a_ty, a_tyK, a_tyG, a_tyA, a_tyB, a_u, a_bg, a_ux, a_uy, a_stk, a_eqA, a_eqB, a_rT, a_rE, a_rG, a_rN, a_rC, a_rX, a_fK, a_fA, a_fE))
    (h1 : rc < rl → wY_run_41 post f (nI b) (nI rc) 0 (nI t) ve x6 x7 (nI (step + 1)) f_dLim (nI rl) f_fLim f_n f_stat f_err f_out f_vInt (nI (rc + 1)) f_drf (nI q) a_kind a_arg a_ch a_par a_pos a_seen a_st a_ty a_tyK a_tyG a_tyA a_tyB a_u a_bg a_ux a_uy a_stk a_eqA a_eqB (upd a_rT rc (nI c)) (upd a_rE rc ve) (upd a_rG rc (a_bg d)) (upd a_rN rc (nI d)) (upd a_rC rc 0) (upd a_rX rc e) a_fK a_fA a_fE) :
    wY_run_41 post (f + 1) x1 x2 1 (nI t) ve x6 x7 (nI step) f_dLim (nI rl) f_fLim f_n f_stat f_err f_out f_vInt (nI rc) f_drf (nI (q + 1)) a_kind a_arg a_ch a_par a_pos a_seen a_st a_ty a_tyK a_tyG a_tyA a_tyB a_u a_bg a_ux a_uy a_stk a_eqA a_eqB a_rT a_rE a_rG a_rN a_rC a_rX a_fK a_fA a_fE := by
  have v := vp_in_nI hq (by decide)
  have e3 : nI t * 3 = nI (3 * t) := by rw [show (nI t * 3 : Int32) = nI (t * 3) from pk_mul t 3, Nat.mul_comm]
  refine br_f (nI_ge (b := 100000) hs (by decide)) (br_f (by decide) (br_f (nI_ne0 (by omega) (by omega)) (nm_r (nI_pred q) ⟨v, ?_⟩)))
  rw [nI_clamp (show q < 2 ^ 31 by omega), hk, hw, he]
  refine nm_e ⟨v, nm_e ⟨v, nm_e (br_f (by decide) (br_f (by decide) (br_f (by decide) (br_f (by decide) (br_f (by decide) (br_t (by decide) ⟨?_, vp_in_nI hd (by decide), ?_⟩))))))⟩⟩
  · rw [e3]; exact vp_in_nI (by omega) (by decide)
  rw [e3, nI_clamp (show 3 * t < 2 ^ 31 by omega), hc, nI_clamp (show d < 2 ^ 31 by omega), gx_ix31, nI_clamp (show 3 * d + 1 < 2 ^ 31 by omega)]
  refine gy_nr hrc hrl (fun z => ⟨vp_in_nI (by omega) (by decide), ?_⟩) (fun z => ⟨vp_in_nI (by omega) (by decide), ?_⟩)
  · try dsimp only
    rw [hb]
    exact nm_e (gy_680m (h0 z))
  · try dsimp only
    rw [hb]
    exact nm_e (gy_680 (by omega) (h1 z))
theorem gy_r15 {post : Int32 → SY → Prop} {q f step rc rl t d c b kt : Nat} {x1 x2 ve x6 x7 e : Int32} (hs : step < 100000) (hq : q < 64) (hw : a_fA q = nI d) (he : a_fE q = e) (hk : a_fK q = nI 15) (ht : t < 32) (hd : d < 32) (hkt : a_kind t = nI kt) (hkl : kt ≤ 17) (hc : a_ch (3 * t + 1) = nI c) (hb : a_ch (3 * d + (if kt = 13 then 1 else 2)) = nI b) (hrc : rc ≤ rl) (hrl : rl ≤ 32)
    (h0 : rc = rl → post 8 (f_dLim, nI rl, f_fLim, f_n, f_stat, f_err, 8, f_vInt, nI rc, f_drf, nI q, a_kind, a_arg, a_ch, a_par, a_pos, a_seen, a_st, a_ty, a_tyK, a_tyG, a_tyA, a_tyB, a_u, a_bg, a_ux, a_uy, a_stk, a_eqA, a_eqB, a_rT, a_rE, a_rG, a_rN, a_rC, a_rX, a_fK, a_fA, a_fE))
    (h1 : rc < rl → wY_run_41 post f (nI b) (nI rc) 0 (nI t) ve x6 x7 (nI (step + 1)) f_dLim (nI rl) f_fLim f_n f_stat f_err f_out f_vInt (nI (rc + 1)) f_drf (nI q) a_kind a_arg a_ch a_par a_pos a_seen a_st a_ty a_tyK a_tyG a_tyA a_tyB a_u a_bg a_ux a_uy a_stk a_eqA a_eqB (upd a_rT rc (nI c)) (upd a_rE rc ve) (upd a_rG rc (a_bg d)) (upd a_rN rc (nI d)) (upd a_rC rc 0) (upd a_rX rc e) a_fK a_fA a_fE) :
    wY_run_41 post (f + 1) x1 x2 1 (nI t) ve x6 x7 (nI step) f_dLim (nI rl) f_fLim f_n f_stat f_err f_out f_vInt (nI rc) f_drf (nI (q + 1)) a_kind a_arg a_ch a_par a_pos a_seen a_st a_ty a_tyK a_tyG a_tyA a_tyB a_u a_bg a_ux a_uy a_stk a_eqA a_eqB a_rT a_rE a_rG a_rN a_rC a_rX a_fK a_fA a_fE := by
  have v := vp_in_nI hq (by decide)
  refine br_f (nI_ge (b := 100000) hs (by decide)) (br_f (by decide) (br_f (nI_ne0 (by omega) (by omega)) (nm_r (nI_pred q) ⟨v, ?_⟩)))
  rw [nI_clamp (show q < 2 ^ 31 by omega), hk, hw, he]
  refine nm_e ⟨v, nm_e ⟨v, nm_e (br_f (by decide) (br_f (by decide) (br_f (by decide) (br_f (by decide) (br_t (by decide) ⟨?_, vp_in_nI hd (by decide), ?_⟩)))))⟩⟩
  · rw [gx_ix31]; exact vp_in_nI (by omega) (by decide)
  rw [gx_ix31 (t := t), nI_clamp (show 3 * t + 1 < 2 ^ 31 by omega), hc, nI_clamp (show d < 2 ^ 31 by omega), nI_clamp (show t < 2 ^ 31 by omega), gx_ix31 (t := d), nI_clamp (show 3 * d + 1 < 2 ^ 31 by omega), gx_ix32 (t := d), nI_clamp (show 3 * d + 2 < 2 ^ 31 by omega)]
  refine gy_nr hrc hrl (fun z => ⟨vp_in_nI ht (by decide), ?_⟩) (fun z => ⟨vp_in_nI ht (by decide), ?_⟩)
  · try dsimp only
    rw [hkt]
    refine pk_eq kt 13 (fun y => ⟨vp_in_nI (by omega) (by decide), br_f (by decide) (gy_680m (h0 z))⟩) (fun y => ⟨vp_in_nI (by omega) (by decide), br_f (by decide) (gy_680m (h0 z))⟩)
  · try dsimp only
    rw [hkt]
    refine pk_eq kt 13 (fun y => ⟨vp_in_nI (by omega) (by decide), ?_⟩) (fun y => ⟨vp_in_nI (by omega) (by decide), ?_⟩)
    · rw [if_pos y] at hb
      rw [hb]
      exact br_f (by decide) (gy_680 (by omega) (h1 z))
    · rw [if_neg y] at hb
      rw [hb]
      exact br_f (by decide) (gy_680 (by omega) (h1 z))
theorem gy_r12 {post : Int32 → SY → Prop} {q f step rc rl t d c0 c1 b : Nat} {x1 x2 ve x6 x7 e : Int32} (hs : step < 100000) (hq : q < 64) (hw : a_fA q = nI d) (he : a_fE q = e) (hk : a_fK q = nI 12) (ht : t < 32) (hd : d < 32) (hc0 : a_ch (3 * t) = nI c0) (hc1 : a_ch (3 * t + 1) = nI c1) (hb : a_ch (3 * d + 1) = nI b) (hrc : rc ≤ rl) (hrl : rl ≤ 32)
    (h0 : rc = rl → post 8 (f_dLim, nI rl, f_fLim, f_n, f_stat, f_err, 8, f_vInt, nI rc, f_drf, nI q, a_kind, a_arg, a_ch, a_par, a_pos, a_seen, a_st, a_ty, a_tyK, a_tyG, a_tyA, a_tyB, a_u, a_bg, a_ux, a_uy, a_stk, a_eqA, a_eqB, a_rT, a_rE, a_rG, a_rN, a_rC, a_rX, a_fK, a_fA, a_fE))
    (h1 : rc + 1 = rl → post 8 (f_dLim, nI rl, f_fLim, f_n, f_stat, f_err, 8, f_vInt, nI (rc + 1), f_drf, nI q, a_kind, a_arg, a_ch, a_par, a_pos, a_seen, a_st, a_ty, a_tyK, a_tyG, a_tyA, a_tyB, a_u, a_bg, a_ux, a_uy, a_stk, a_eqA, a_eqB, upd a_rT rc (nI c0), upd a_rE rc ve, upd a_rG rc (a_bg d), upd a_rN rc (nI d), upd a_rC rc 0, upd a_rX rc e, a_fK, a_fA, a_fE))
    (h2 : rc + 1 < rl → wY_run_41 post f (nI b) (nI (rc + 1)) 0 (nI t) ve x6 x7 (nI (step + 1)) f_dLim (nI rl) f_fLim f_n f_stat f_err f_out f_vInt (nI (rc + 1 + 1)) f_drf (nI q) a_kind a_arg a_ch a_par a_pos a_seen a_st a_ty a_tyK a_tyG a_tyA a_tyB a_u a_bg a_ux a_uy a_stk a_eqA a_eqB (upd (upd a_rT rc (nI c0)) (rc + 1) (nI c1)) (upd (upd a_rE rc ve) (rc + 1) ve) (upd (upd a_rG rc (a_bg d)) (rc + 1) (a_bg d)) (upd (upd a_rN rc (nI d)) (rc + 1) (nI d)) (upd (upd a_rC rc 0) (rc + 1) 0) (upd (upd a_rX rc e) (rc + 1) (nI rc)) a_fK a_fA a_fE) :
    wY_run_41 post (f + 1) x1 x2 1 (nI t) ve x6 x7 (nI step) f_dLim (nI rl) f_fLim f_n f_stat f_err f_out f_vInt (nI rc) f_drf (nI (q + 1)) a_kind a_arg a_ch a_par a_pos a_seen a_st a_ty a_tyK a_tyG a_tyA a_tyB a_u a_bg a_ux a_uy a_stk a_eqA a_eqB a_rT a_rE a_rG a_rN a_rC a_rX a_fK a_fA a_fE := by
  have v := vp_in_nI hq (by decide)
  have e3 : nI t * 3 = nI (3 * t) := by rw [show (nI t * 3 : Int32) = nI (t * 3) from pk_mul t 3, Nat.mul_comm]
  have e31 : nI (3 * t) + 1 = nI (3 * t + 1) := nI_1 _
  refine br_f (nI_ge (b := 100000) hs (by decide)) (br_f (by decide) (br_f (nI_ne0 (by omega) (by omega)) (nm_r (nI_pred q) ⟨v, ?_⟩)))
  rw [nI_clamp (show q < 2 ^ 31 by omega), hk, hw, he]
  refine nm_e ⟨v, nm_e ⟨v, nm_e (br_f (by decide) (br_f (by decide) (br_f (by decide) (br_t (by decide) ⟨?_, vp_in_nI hd (by decide), ?_⟩))))⟩⟩
  · rw [e3]; exact vp_in_nI (by omega) (by decide)
  rw [e3, e31, nI_clamp (show 3 * t < 2 ^ 31 by omega), hc0, nI_clamp (show d < 2 ^ 31 by omega), nI_clamp (show 3 * t + 1 < 2 ^ 31 by omega)]
  refine gy_nr hrc hrl (fun z => br_t (by decide) ?_) (fun z => br_f (nI_pos (by omega)) ⟨vp_in_nI (by omega) (by decide), vp_in_nI hd (by decide), ?_⟩)
  · unfold wY_run_546
    rw [gx_ix31, nI_clamp (show 3 * d + 1 < 2 ^ 31 by omega), hb]
    exact ⟨vp_in_nI (by omega) (by decide), nm_e (br_f (by decide) (br_f (by decide) (gy_680m (h0 z))))⟩
  · try dsimp only
    rw [hc1]
    refine gy_nr (by omega) hrl (fun y => ?_) (fun y => ?_)
    · try dsimp only
      unfold wY_run_546
      rw [gx_ix31, nI_clamp (show 3 * d + 1 < 2 ^ 31 by omega), hb]
      exact ⟨vp_in_nI (by omega) (by decide), nm_e (br_f (by decide) (br_f (by decide) (gy_680m (h1 y))))⟩
    · try dsimp only
      unfold wY_run_546
      rw [gx_ix31, nI_clamp (show 3 * d + 1 < 2 ^ 31 by omega), hb]
      exact ⟨vp_in_nI (by omega) (by decide), nm_e (br_f (by decide) (br_f (by decide) (gy_680 (by omega) (h2 y))))⟩
end
end
section
/-! both machines, in step -/
def gr_rr (rc : Nat) (tn te rs : Nat → Nat) (tN tE rE bo go co rT yE rG rN rC rX : Nat → Int32) : Prop := ∀ r, 1 ≤ r → r ≤ rc →
  (rE r = nI (rs r) ∧ tN r = nI (tn r) ∧ tE r = nI (te r)) ∧ (rX (r - 1) = nI (rs r) - 1 ∧ rT (r - 1) = nI (tn r) ∧ yE (r - 1) = nI (te r) - 1) ∧ (rN (r - 1) = bo r ∧ rG (r - 1) = go r ∧ rC (r - 1) = co r)
theorem gr_rr_p {rc d e1 e2 : Nat} {b g : Int32} {tn te rs : Nat → Nat} {tN tE rE bo go co rT yE rG rN rC rX : Nat → Int32} (h : gr_rr rc tn te rs tN tE rE bo go co rT yE rG rN rC rX) :
    gr_rr (rc + 1) (gm_up tn (rc + 1) d) (gm_up te (rc + 1) e1) (gm_up rs (rc + 1) e2) (upd tN (rc + 1) (nI d)) (upd tE (rc + 1) (nI e1)) (upd rE (rc + 1) (nI e2)) (upd bo (rc + 1) b) (upd go (rc + 1) g) (upd co (rc + 1) 0)
      (upd rT rc (nI d)) (upd yE rc (nI e1 - 1)) (upd rG rc g) (upd rN rc b) (upd rC rc 0) (upd rX rc (nI e2 - 1)) := by
  intro r h1 h2
  rcases Nat.lt_or_ge rc r with z | z
  · have e : r = rc + 1 := by omega
    subst e
    rw [Nat.add_sub_cancel]
    simp only [pk_us, gm_up_s]
    exact ⟨⟨trivial, trivial, trivial⟩, ⟨trivial, trivial, trivial⟩, ⟨trivial, trivial, trivial⟩⟩
  · have n1 : r ≠ rc + 1 := by omega
    have n2 : r - 1 ≠ rc := by omega
    simp only [pk_un n1, pk_un n2, gm_up_n n1]
    exact h r h1 z
theorem gr_rr_c {rc r0 : Nat} {x : Int32} {tn te rs : Nat → Nat} {tN tE rE bo go co rT yE rG rN rC rX : Nat → Int32} (h : gr_rr rc tn te rs tN tE rE bo go co rT yE rG rN rC rX) (h1 : 1 ≤ r0) :
    gr_rr rc tn te rs tN tE rE bo go (upd co r0 x) rT yE rG rN (upd rC (r0 - 1) x) rX := by
  intro r a b
  obtain ⟨p, q, s1, s2, s3⟩ := h r a b
  refine ⟨p, q, s1, s2, ?_⟩
  by_cases z : r = r0
  · subst z; rw [pk_us, pk_us]
  · rw [pk_un z, pk_un (by omega)]; exact s3
theorem gr_rr_r {rc : Nat} {tn te rs : Nat → Nat} {tN tE rE bo go co rT yE rG rN rC rX : Nat → Int32} (h : gr_rr rc tn te rs tN tE rE bo go co rT yE rG rN rC rX) (hrc : rc ≤ 32) : gr_rec (nI rc) (nI rc) bo go co rN rG rC := by
  refine ⟨rc, hrc, rfl, rfl, fun k hk => ?_⟩
  have := (h (k + 1) (by omega) (by omega)).2.2
  rw [Nat.add_sub_cancel] at this
  exact this
def gr_ff (kd : Nat → Nat) (n : Nat) (fm fw fe fK fA fE : Nat → Int32) : gm_Fr → Prop
  | [] => True
  | x :: R => fm R.length = nI x.1 ∧ fw R.length = x.2.1 ∧ fe R.length = nI x.2.2 ∧ fK R.length = nI (if x.1 = 0 then 7 else x.1) ∧ fA R.length = (if x.1 = 8 ∨ x.1 = 10 then nI (gp_ch kd n x.2.1.toNatClampNeg 1) else x.2.1) ∧ fE R.length = nI x.2.2 - 1 ∧ gr_ff kd n fm fw fe fK fA fE R
theorem gr_ff_k {kd : Nat → Nat} {n q : Nat} {fm fw fe fK fA fE : Nat → Int32} {a b c d e f : Int32} : ∀ {R : gm_Fr}, R.length ≤ q → gr_ff kd n fm fw fe fK fA fE R → gr_ff kd n (upd fm q a) (upd fw q b) (upd fe q c) (upd fK q d) (upd fA q e) (upd fE q f) R
  | [], _, _ => trivial
  | x :: R, hq, h => by
    simp only [List.length_cons] at hq
    have ne : R.length ≠ q := by omega
    obtain ⟨h1, h2, h3, h4, h5, h6, h7⟩ := h
    refine ⟨?_, ?_, ?_, ?_, ?_, ?_, gr_ff_k (by omega) h7⟩
    · rw [pk_un ne]; exact h1
    · rw [pk_un ne]; exact h2
    · rw [pk_un ne]; exact h3
    · rw [pk_un ne]; exact h4
    · rw [pk_un ne]; exact h5
    · rw [pk_un ne]; exact h6
theorem gr_ff_p {kd : Nat → Nat} {n : Nat} {fm fw fe fK fA fE : Nat → Int32} {R : gm_Fr} {m e : Nat} {w kk aa : Int32} (h : gr_ff kd n fm fw fe fK fA fE R) (hk : kk = nI (if m = 0 then 7 else m)) (ha : aa = (if m = 8 ∨ m = 10 then nI (gp_ch kd n w.toNatClampNeg 1) else w)) :
    gr_ff kd n (upd fm R.length (nI m)) (upd fw R.length w) (upd fe R.length (nI e)) (upd fK R.length kk) (upd fA R.length aa) (upd fE R.length (nI e - 1)) ((m, w, e) :: R) :=
  ⟨pk_us, pk_us, pk_us, by rw [pk_us]; exact hk, by rw [pk_us]; exact ha, pk_us, gr_ff_k (Nat.le_refl _) h⟩
theorem gr_out_0 (k : Nat) : gr_out k ≠ 0 ∧ gr_out k ≤ 6 := by
  unfold gr_out
  split
  · omega
  · split
    · omega
    · split
      · omega
      · split
        · omega
        · split <;> omega
section
variable {f_derefLimit f_recordLimit f_frameLimit f_nodeCount f_currentStatus f_faultNode f_typeCount f_currentNode f_currentEnv f_returning f_returnedNumber f_frameCount f_lastOutcome f_lastValue f_derefsMade f_recordsMade : Int32} {a_nodeKind a_nodeArg a_expectedPlaces a_nodeAtPlace a_placeOfNode a_variablesSeen a_nodeType a_gradeOfBinder a_variableType a_usage a_typeKind a_typeGrade a_typeLeft a_typeRight a_frameMark a_frameWord a_frameEnv a_thunkNode a_thunkEnv a_restOfEnv a_binderOfRecord a_gradeOfRecord a_countOfRecord : Nat → Int32}
theorem gx_fin {post : Int32 → SX → Prop} {f : Nat} {x o : Int32} (ho : ¬ o = 0) (h : post o (f_derefLimit, f_recordLimit, f_frameLimit, f_nodeCount, f_currentStatus, f_faultNode, f_typeCount, f_currentNode, f_currentEnv, f_returning, f_returnedNumber, f_frameCount, o, f_lastValue, f_derefsMade, f_recordsMade, a_nodeKind, a_nodeArg, a_expectedPlaces, a_nodeAtPlace, a_placeOfNode, a_variablesSeen, a_nodeType, a_gradeOfBinder, a_variableType, a_usage, a_typeKind, a_typeGrade, a_typeLeft, a_typeRight, a_frameMark, a_frameWord, a_frameEnv, a_thunkNode, a_thunkEnv, a_restOfEnv, a_binderOfRecord, a_gradeOfRecord, a_countOfRecord)) : wX_run_27 post (f + 1) x f_derefLimit f_recordLimit f_frameLimit f_nodeCount f_currentStatus f_faultNode f_typeCount f_currentNode f_currentEnv f_returning f_returnedNumber f_frameCount o f_lastValue f_derefsMade f_recordsMade a_nodeKind a_nodeArg a_expectedPlaces a_nodeAtPlace a_placeOfNode a_variablesSeen a_nodeType a_gradeOfBinder a_variableType a_usage a_typeKind a_typeGrade a_typeLeft a_typeRight a_frameMark a_frameWord a_frameEnv a_thunkNode a_thunkEnv a_restOfEnv a_binderOfRecord a_gradeOfRecord a_countOfRecord := br_c (fun _ => h) (fun _ => br_f ho h)
end
end
section
section
variable {f_derefLimit f_recordLimit f_frameLimit f_nodeCount f_currentStatus f_faultNode f_typeCount f_currentNode f_currentEnv f_returning f_returnedNumber f_frameCount f_lastOutcome f_lastValue f_derefsMade f_recordsMade : Int32} {a_nodeKind a_nodeArg a_expectedPlaces a_nodeAtPlace a_placeOfNode a_variablesSeen a_nodeType a_gradeOfBinder a_variableType a_usage a_typeKind a_typeGrade a_typeLeft a_typeRight a_frameMark a_frameWord a_frameEnv a_thunkNode a_thunkEnv a_restOfEnv a_binderOfRecord a_gradeOfRecord a_countOfRecord : Nat → Int32} {f_dLim f_rLim f_fLim f_n f_stat f_err f_out f_vInt f_recs f_drf f_fsp : Int32} {a_kind a_arg a_ch a_par a_pos a_seen a_st a_ty a_tyK a_tyG a_tyA a_tyB a_u a_bg a_ux a_uy a_stk a_eqA a_eqB a_rT a_rE a_rG a_rN a_rC a_rX a_fK a_fA a_fE : Nat → Int32}
theorem gr_ev {k n dl rl fl : Nat} {kd : Nat → Nat} (A : gm_A kd a_nodeArg n) (hK : ∀ i, i < n → a_nodeKind i = nI (kd i)) (hX : ∀ i, i < n → ∀ j, j < gp_ar (kd i) → a_nodeAtPlace (3 * i + j) = nI (gp_ch kd n i j)) (hY : ∀ i, i < n → ∀ j, j < gp_ar (kd i) → a_ch (3 * i + j) = nI (gp_ch kd n i j)) (hg : ∀ i, i < n → (kd i = 9 ∨ kd i = 12 ∨ kd i = 15 ∨ kd i = 17) → a_bg i = a_gradeOfBinder i) (hdl : dl ≤ 64) (hrl : rl ≤ 32) (hfl : fl ≤ 64) (hFin : ∀ (cn ce rt rn fc o lv dr' rm rs' fsp : Int32) (fm fw fe tN tE rE bo go co rT yE rG rN rC rX fK fA fE : Nat → Int32), gr_rec rm rs' bo go co rN rG rC → i_Rel k (nI dl, nI rl, nI fl, f_nodeCount, f_currentStatus, f_faultNode, f_typeCount, cn, ce, rt, rn, fc, o, lv, dr', rm, a_nodeKind, a_nodeArg, a_expectedPlaces, a_nodeAtPlace, a_placeOfNode, a_variablesSeen, a_nodeType, a_gradeOfBinder, a_variableType, a_usage, a_typeKind, a_typeGrade, a_typeLeft, a_typeRight, fm, fw, fe, tN, tE, rE, bo, go, co) (nI dl, nI rl, nI fl, f_n, f_stat, f_err, o, lv, rs', dr', fsp, a_nodeKind, a_nodeArg, a_ch, a_par, a_pos, a_seen, a_st, a_ty, a_tyK, a_tyG, a_tyA, a_tyB, a_u, a_bg, a_ux, a_uy, a_stk, a_eqA, a_eqB, rT, yE, rG, rN, rC, rX, fK, fA, fE)) {M : Nat} (ih1 : ∀ (t e dr rc : Nat) (F : gm_Fr) (tn te rs : Nat → Nat) (rn x4 x5 x6 x7 : Int32) (fm fw fe tN tE rE bo go co rT yE rG rN rC rX fK fA fE : Nat → Int32), gm_I kd a_nodeArg n tn te rs rc t e F → rc ≤ rl → dr ≤ dl → F.length ≤ fl → gr_rr rc tn te rs tN tE rE bo go co rT yE rG rN rC rX → gr_ff kd n fm fw fe fK fA fE F → 3 * gp_sz kd n t + gm_ps kd n F + 96 * (dl - dr) + 96 * (rl - rc) ≤ M → ∃ (o : Int32) (u' : SX) (v' : SY), i_Rel k u' v' ∧ (∀ (post : Int32 → SX → Prop) (f step : Nat), M + 2 ≤ f → step + M < 20000 → post o u' → wX_run_27 post f (nI step) (nI dl) (nI rl) (nI fl) f_nodeCount f_currentStatus f_faultNode f_typeCount (nI t) (nI e) 0 rn (nI F.length) 0 0 (nI dr) (nI rc) a_nodeKind a_nodeArg a_expectedPlaces a_nodeAtPlace a_placeOfNode a_variablesSeen a_nodeType a_gradeOfBinder a_variableType a_usage a_typeKind a_typeGrade a_typeLeft a_typeRight fm fw fe tN tE rE bo go co) ∧ (∀ (post : Int32 → SY → Prop) (f step : Nat), M + 2 ≤ f → step + M < 100000 → post o v' → wY_run_41 post f (nI t) (nI e - 1) 0 x4 x5 x6 x7 (nI step) (nI dl) (nI rl) (nI fl) f_n f_stat f_err 0 0 (nI rc) (nI dr) (nI F.length) a_nodeKind a_nodeArg a_ch a_par a_pos a_seen a_st a_ty a_tyK a_tyG a_tyA a_tyB a_u a_bg a_ux a_uy a_stk a_eqA a_eqB rT yE rG rN rC rX fK fA fE)) (ih2 : ∀ (t e dr rc : Nat) (F : gm_Fr) (tn te rs : Nat → Nat) (rn x1 x2 x7 : Int32) (fm fw fe tN tE rE bo go co rT yE rG rN rC rX fK fA fE : Nat → Int32), gm_I kd a_nodeArg n tn te rs rc t e F → rc ≤ rl → dr ≤ dl → F.length ≤ fl → gr_rr rc tn te rs tN tE rE bo go co rT yE rG rN rC rX → gr_ff kd n fm fw fe fK fA fE F → gm_vl (kd t) → (kd t = 7 → x7 = rn) → gm_ps kd n F + 96 * (dl - dr) + 96 * (rl - rc) ≤ M → ∃ (o : Int32) (u' : SX) (v' : SY), i_Rel k u' v' ∧ (∀ (post : Int32 → SX → Prop) (f step : Nat), M + 2 ≤ f → step + M < 20000 → post o u' → wX_run_27 post f (nI step) (nI dl) (nI rl) (nI fl) f_nodeCount f_currentStatus f_faultNode f_typeCount (nI t) (nI e) 1 rn (nI F.length) 0 0 (nI dr) (nI rc) a_nodeKind a_nodeArg a_expectedPlaces a_nodeAtPlace a_placeOfNode a_variablesSeen a_nodeType a_gradeOfBinder a_variableType a_usage a_typeKind a_typeGrade a_typeLeft a_typeRight fm fw fe tN tE rE bo go co) ∧ (∀ (post : Int32 → SY → Prop) (f step : Nat), M + 2 ≤ f → step + M < 100000 → post o v' → wY_run_41 post f x1 x2 1 (nI t) (nI e - 1) (nI (kd t)) x7 (nI step) (nI dl) (nI rl) (nI fl) f_n f_stat f_err 0 0 (nI rc) (nI dr) (nI F.length) a_nodeKind a_nodeArg a_ch a_par a_pos a_seen a_st a_ty a_tyK a_tyG a_tyA a_tyB a_u a_bg a_ux a_uy a_stk a_eqA a_eqB rT yE rG rN rC rX fK fA fE)) : ∀ (t e dr rc : Nat) (F : gm_Fr) (tn te rs : Nat → Nat) (rn x4 x5 x6 x7 : Int32) (fm fw fe tN tE rE bo go co rT yE rG rN rC rX fK fA fE : Nat → Int32), gm_I kd a_nodeArg n tn te rs rc t e F → rc ≤ rl → dr ≤ dl → F.length ≤ fl → gr_rr rc tn te rs tN tE rE bo go co rT yE rG rN rC rX → gr_ff kd n fm fw fe fK fA fE F → 3 * gp_sz kd n t + gm_ps kd n F + 96 * (dl - dr) + 96 * (rl - rc) ≤ M + 1 → ∃ (o : Int32) (u' : SX) (v' : SY), i_Rel k u' v' ∧ (∀ (post : Int32 → SX → Prop) (f step : Nat), M + 1 + 2 ≤ f → step + (M + 1) < 20000 → post o u' → wX_run_27 post f (nI step) (nI dl) (nI rl) (nI fl) f_nodeCount f_currentStatus f_faultNode f_typeCount (nI t) (nI e) 0 rn (nI F.length) 0 0 (nI dr) (nI rc) a_nodeKind a_nodeArg a_expectedPlaces a_nodeAtPlace a_placeOfNode a_variablesSeen a_nodeType a_gradeOfBinder a_variableType a_usage a_typeKind a_typeGrade a_typeLeft a_typeRight fm fw fe tN tE rE bo go co) ∧ (∀ (post : Int32 → SY → Prop) (f step : Nat), M + 1 + 2 ≤ f → step + (M + 1) < 100000 → post o v' → wY_run_41 post f (nI t) (nI e - 1) 0 x4 x5 x6 x7 (nI step) (nI dl) (nI rl) (nI fl) f_n f_stat f_err 0 0 (nI rc) (nI dr) (nI F.length) a_nodeKind a_nodeArg a_ch a_par a_pos a_seen a_st a_ty a_tyK a_tyG a_tyA a_tyB a_u a_bg a_ux a_uy a_stk a_eqA a_eqB rT yE rG rN rC rX fK fA fE) := by
  intro t e dr rc F tn te rs rn x4 x5 x6 x7 fm fw fe tN tE rE bo go co rT yE rG rN rC rX fK fA fE I hrc hdr hF R hff hM
  have ok := A.1.1
  have hn := ok.2.1
  have ht := I.1
  have t32 : t < 32 := by omega
  have h5 := I.2.1
  have k17 := (A.1.2.2.1 t ht).2
  have hsz := gp_sz_le ok ht
  have hcase : kd t = 6 ∨ gm_go (kd t) ∨ gm_vl (kd t) := by
    unfold gm_go gm_vl
    omega
  rcases hcase with h6 | hgo | hvl
  · obtain ⟨i, hi, ei⟩ := A.1.2.2.2.1 t ht h6
    obtain ⟨r1, r2, I'⟩ := gm_s_var A I h6 ei hi
    have sl := gp_sn_lt ok ht
    have hE : ∀ j, j ≤ i → 1 ≤ gm_nth rs e j ∧ gm_nth rs e j ≤ rc := fun j hj => ⟨(I.2.2.2.1 j (by omega)).1, (I.2.2.2.1 j (by omega)).2.1⟩
    have kt := hK t ht
    rw [h6] at kt
    have sz' := gp_sz_le ok I'.1
    rcases Nat.lt_or_ge dr dl with z | z
    · obtain ⟨o, u', v', hR, cX, cY⟩ := ih1 _ _ (dr + 1) rc F tn te rs rn x4 x5 x6 x7 fm fw fe tN tE rE bo go (upd co (gm_nth rs e i) (co (gm_nth rs e i) + 1)) rT yE rG rN (upd rC (gm_nth rs e i - 1) (co (gm_nth rs e i) + 1)) rX fK fA fE I' hrc z hF (gr_rr_c R r1) hff (by omega)
      refine ⟨o, u', v', hR, fun post f step hf hs hp => ?_, fun post f step hf hs hp => ?_⟩
      · cases f with
        | zero => omega
        | succ f =>
        refine br_f (nI_ge (b := 20000) (by omega) (by decide)) (br_t rfl (br_t rfl ?_))
        refine gx_evD (rs := rs) (tn := tn) (te := te) (rc := rc) t32 kt ei (by omega) (by omega) hdr hdl hE (fun r a b => (R r a b).1) (fun w => by omega) (fun _ => nm_r (nI_1 step) (cX post f (step + 1) (by omega) (by omega) hp))
      · cases f with
        | zero => omega
        | succ f =>
        refine gy_rD (rs := rs) (tn := tn) (te := te) (rc := rc) (by omega) t32 kt ei (by omega) (by omega) hdr hdl hE (fun r a b => (R r a b).2.1) (fun w => by omega) (fun _ => ?_)
        rw [(R _ r1 r2).2.2.2.2]
        exact cY post f (step + 1) (by omega) (by omega) hp
    · have edr : dr = dl := by omega
      refine ⟨7, _, _, hFin (nI t) (nI e) 0 rn (nI F.length) 7 0 (nI dr) (nI rc) (nI rc) (nI F.length) fm fw fe tN tE rE bo go co rT yE rG rN rC rX fK fA fE (gr_rr_r R (by omega)), fun post f step hf hs hp => ?_, fun post f step hf hs hp => ?_⟩
      · cases f with
        | zero => omega
        | succ f =>
        cases f with
        | zero => omega
        | succ f =>
        refine br_f (nI_ge (b := 20000) (by omega) (by decide)) (br_t rfl (br_t rfl ?_))
        refine gx_evD (rs := rs) (tn := tn) (te := te) (rc := rc) t32 kt ei (by omega) (by omega) hdr hdl hE (fun r a b => (R r a b).1) (fun w => nm_r (nI_1 step) (gx_fin (by decide) hp)) (fun w => by omega)
      · cases f with
        | zero => omega
        | succ f =>
        exact gy_rD (rs := rs) (tn := tn) (te := te) (rc := rc) (by omega) t32 kt ei (by omega) (by omega) hdr hdl hE (fun r a b => (R r a b).2.1) (fun w => hp) (fun w => by omega)
  · have I' := gm_s_go A I hgo
    obtain ⟨g1, g2, g3⟩ := gm_go_ar hgo
    have hm := gm_m_go (e := e) ok ht hgo
    have xc := hX t ht 0 (by omega)
    have yc := hY t ht 0 (by omega)
    rw [Nat.add_zero] at yc
    have yc1 := hY t ht 1 (by omega)
    have et : (nI t).toNatClampNeg = t := nI_clamp (by omega)
    rcases Nat.lt_or_ge F.length fl with z | z
    · have ff' := gr_ff_p (m := kd t) (e := e) (w := nI t) (kk := nI (kd t)) (aa := if kd t = 8 ∨ kd t = 10 then nI (gp_ch kd n t 1) else nI t) hff (by rw [if_neg (by omega)]) (by rw [et])
      obtain ⟨o, u', v', hR, cX, cY⟩ := ih1 _ _ dr rc _ tn te rs rn x4 x5 x6 x7 _ _ _ tN tE rE bo go co rT yE rG rN rC rX _ _ _ I' hrc hdr (by simp only [List.length_cons]; omega) R ff' (by simp only [gm_ps]; omega)
      refine ⟨o, u', v', hR, fun post f step hf hs hp => ?_, fun post f step hf hs hp => ?_⟩
      · cases f with
        | zero => omega
        | succ f =>
        refine br_f (nI_ge (b := 20000) (by omega) (by decide)) (br_t rfl (br_t rfl ?_))
        exact gx_evG t32 (hK t ht) hgo xc hF hfl (fun w => by omega) (fun _ => nm_r (nI_1 step) (cX post f (step + 1) (by omega) (by omega) hp))
      · cases f with
        | zero => omega
        | succ f =>
        exact gy_rG (by omega) t32 (hK t ht) hgo yc yc1 hF hfl (fun w => by omega) (fun _ => cY post f (step + 1) (by omega) (by omega) hp)
    · refine ⟨9, _, _, hFin (nI t) (nI e) 0 rn (nI F.length) 9 0 (nI dr) (nI rc) (nI rc) (nI F.length) fm fw fe tN tE rE bo go co rT yE rG rN rC rX fK fA fE (gr_rr_r R (by omega)), fun post f step hf hs hp => ?_, fun post f step hf hs hp => ?_⟩
      · cases f with
        | zero => omega
        | succ f =>
        cases f with
        | zero => omega
        | succ f =>
        refine br_f (nI_ge (b := 20000) (by omega) (by decide)) (br_t rfl (br_t rfl ?_))
        exact gx_evG t32 (hK t ht) hgo xc hF hfl (fun w => nm_r (nI_1 step) (gx_fin (by decide) hp)) (fun w => by omega)
      · cases f with
        | zero => omega
        | succ f =>
        exact gy_rG (by omega) t32 (hK t ht) hgo yc yc1 hF hfl (fun w => hp) (fun w => by omega)
  · have hm0 : gm_ps kd n F + 96 * (dl - dr) + 96 * (rl - rc) ≤ M := by omega
    obtain ⟨o, u', v', hR, cX, cY⟩ := ih2 t e dr rc F tn te rs (if kd t = 7 then a_nodeArg t else rn) (nI t) (nI e - 1) (a_nodeArg t) fm fw fe tN tE rE bo go co rT yE rG rN rC rX fK fA fE I hrc hdr hF R hff hvl (fun z => by rw [if_pos z]) hm0
    refine ⟨o, u', v', hR, fun post f step hf hs hp => ?_, fun post f step hf hs hp => ?_⟩
    · cases f with
      | zero => omega
      | succ f =>
      refine br_f (nI_ge (b := 20000) (by omega) (by decide)) (br_t rfl (br_t rfl ?_))
      refine gx_evV t32 (hK t ht) hvl (fun rn' a b => nm_r (nI_1 step) ?_)
      have e : rn' = if kd t = 7 then a_nodeArg t else rn := by
        by_cases z : kd t = 7
        · rw [if_pos z]; exact a z
        · rw [if_neg z]; exact b z
      rw [e]
      exact cX post f (step + 1) (by omega) (by omega) hp
    · cases f with
      | zero => omega
      | succ f =>
      exact gy_rV (by omega) t32 (hK t ht) hvl (cY post f (step + 1) (by omega) (by omega) hp)
end
end
section
section
variable {f_derefLimit f_recordLimit f_frameLimit f_nodeCount f_currentStatus f_faultNode f_typeCount f_currentNode f_currentEnv f_returning f_returnedNumber f_frameCount f_lastOutcome f_lastValue f_derefsMade f_recordsMade : Int32} {a_nodeKind a_nodeArg a_expectedPlaces a_nodeAtPlace a_placeOfNode a_variablesSeen a_nodeType a_gradeOfBinder a_variableType a_usage a_typeKind a_typeGrade a_typeLeft a_typeRight a_frameMark a_frameWord a_frameEnv a_thunkNode a_thunkEnv a_restOfEnv a_binderOfRecord a_gradeOfRecord a_countOfRecord : Nat → Int32} {f_dLim f_rLim f_fLim f_n f_stat f_err f_out f_vInt f_recs f_drf f_fsp : Int32} {a_kind a_arg a_ch a_par a_pos a_seen a_st a_ty a_tyK a_tyG a_tyA a_tyB a_u a_bg a_ux a_uy a_stk a_eqA a_eqB a_rT a_rE a_rG a_rN a_rC a_rX a_fK a_fA a_fE : Nat → Int32}
theorem gr_halt {k n dl rl fl : Nat} {kd : Nat → Nat} (A : gm_A kd a_nodeArg n) (hK : ∀ i, i < n → a_nodeKind i = nI (kd i)) (hX : ∀ i, i < n → ∀ j, j < gp_ar (kd i) → a_nodeAtPlace (3 * i + j) = nI (gp_ch kd n i j)) (hY : ∀ i, i < n → ∀ j, j < gp_ar (kd i) → a_ch (3 * i + j) = nI (gp_ch kd n i j)) (hg : ∀ i, i < n → (kd i = 9 ∨ kd i = 12 ∨ kd i = 15 ∨ kd i = 17) → a_bg i = a_gradeOfBinder i) (hdl : dl ≤ 64) (hrl : rl ≤ 32) (hfl : fl ≤ 64) (hFin : ∀ (cn ce rt rn fc o lv dr' rm rs' fsp : Int32) (fm fw fe tN tE rE bo go co rT yE rG rN rC rX fK fA fE : Nat → Int32), gr_rec rm rs' bo go co rN rG rC → i_Rel k (nI dl, nI rl, nI fl, f_nodeCount, f_currentStatus, f_faultNode, f_typeCount, cn, ce, rt, rn, fc, o, lv, dr', rm, a_nodeKind, a_nodeArg, a_expectedPlaces, a_nodeAtPlace, a_placeOfNode, a_variablesSeen, a_nodeType, a_gradeOfBinder, a_variableType, a_usage, a_typeKind, a_typeGrade, a_typeLeft, a_typeRight, fm, fw, fe, tN, tE, rE, bo, go, co) (nI dl, nI rl, nI fl, f_n, f_stat, f_err, o, lv, rs', dr', fsp, a_nodeKind, a_nodeArg, a_ch, a_par, a_pos, a_seen, a_st, a_ty, a_tyK, a_tyG, a_tyA, a_tyB, a_u, a_bg, a_ux, a_uy, a_stk, a_eqA, a_eqB, rT, yE, rG, rN, rC, rX, fK, fA, fE)) {M t e dr rc : Nat} {F : gm_Fr} {tn te rs : Nat → Nat} {rn x1 x2 x7 : Int32} {fm fw fe tN tE rE bo go co rT yE rG rN rC rX fK fA fE : Nat → Int32} (hF0 : F = []) (I : gm_I kd a_nodeArg n tn te rs rc t e F) (hrc : rc ≤ rl) (R : gr_rr rc tn te rs tN tE rE bo go co rT yE rG rN rC rX) (hv : gm_vl (kd t)) (h7 : kd t = 7 → x7 = rn) :
    ∃ (o : Int32) (u' : SX) (v' : SY), i_Rel k u' v' ∧ (∀ (post : Int32 → SX → Prop) (f step : Nat), M + 2 ≤ f → step + M < 20000 → post o u' → wX_run_27 post f (nI step) (nI dl) (nI rl) (nI fl) f_nodeCount f_currentStatus f_faultNode f_typeCount (nI t) (nI e) 1 rn (nI F.length) 0 0 (nI dr) (nI rc) a_nodeKind a_nodeArg a_expectedPlaces a_nodeAtPlace a_placeOfNode a_variablesSeen a_nodeType a_gradeOfBinder a_variableType a_usage a_typeKind a_typeGrade a_typeLeft a_typeRight fm fw fe tN tE rE bo go co) ∧ (∀ (post : Int32 → SY → Prop) (f step : Nat), M + 2 ≤ f → step + M < 100000 → post o v' → wY_run_41 post f x1 x2 1 (nI t) (nI e - 1) (nI (kd t)) x7 (nI step) (nI dl) (nI rl) (nI fl) f_n f_stat f_err 0 0 (nI rc) (nI dr) (nI F.length) a_nodeKind a_nodeArg a_ch a_par a_pos a_seen a_st a_ty a_tyK a_tyG a_tyA a_tyB a_u a_bg a_ux a_uy a_stk a_eqA a_eqB rT yE rG rN rC rX fK fA fE) := by
  subst hF0
  have ok := A.1.1
  have hn := ok.2.1
  have ht := I.1
  have t32 : t < 32 := by omega
  have ho := gr_out_0 (kd t)
  refine ⟨nI (gr_out (kd t)), _, _, hFin (nI t) (nI e) 1 rn 0 (nI (gr_out (kd t))) (if kd t = 7 then rn else 0) (nI dr) (nI rc) (nI rc) 0 fm fw fe tN tE rE bo go co rT yE rG rN rC rX fK fA fE (gr_rr_r R (by omega)), fun post f step hf hs hp => ?_, fun post f step hf hs hp => ?_⟩
  · cases f with
    | zero => omega
    | succ f =>
    cases f with
    | zero => omega
    | succ f =>
    refine br_f (nI_ge (b := 20000) (by omega) (by decide)) (br_t rfl (br_f (by decide) ?_))
    refine gx_halt t32 (hK t ht) hv (fun lv a b => nm_r (nI_1 step) (gx_fin (nI_ne0 (by omega) (by omega)) ?_))
    have el : lv = if kd t = 7 then rn else 0 := by
      by_cases z : kd t = 7
      · rw [if_pos z]; exact a z
      · rw [if_neg z]; exact b z
    rw [el]
    exact hp
  · cases f with
    | zero => omega
    | succ f =>
    refine gy_rH (by omega) hv (fun lv a b => ?_)
    have el : lv = if kd t = 7 then rn else 0 := by
      by_cases z : kd t = 7
      · rw [if_pos z, a z]; exact h7 z
      · rw [if_neg z]; exact b z
    rw [el]
    exact hp
theorem gr_add {k n dl rl fl : Nat} {kd : Nat → Nat} (A : gm_A kd a_nodeArg n) (hK : ∀ i, i < n → a_nodeKind i = nI (kd i)) (hX : ∀ i, i < n → ∀ j, j < gp_ar (kd i) → a_nodeAtPlace (3 * i + j) = nI (gp_ch kd n i j)) (hY : ∀ i, i < n → ∀ j, j < gp_ar (kd i) → a_ch (3 * i + j) = nI (gp_ch kd n i j)) (hg : ∀ i, i < n → (kd i = 9 ∨ kd i = 12 ∨ kd i = 15 ∨ kd i = 17) → a_bg i = a_gradeOfBinder i) (hdl : dl ≤ 64) (hrl : rl ≤ 32) (hfl : fl ≤ 64) (hFin : ∀ (cn ce rt rn fc o lv dr' rm rs' fsp : Int32) (fm fw fe tN tE rE bo go co rT yE rG rN rC rX fK fA fE : Nat → Int32), gr_rec rm rs' bo go co rN rG rC → i_Rel k (nI dl, nI rl, nI fl, f_nodeCount, f_currentStatus, f_faultNode, f_typeCount, cn, ce, rt, rn, fc, o, lv, dr', rm, a_nodeKind, a_nodeArg, a_expectedPlaces, a_nodeAtPlace, a_placeOfNode, a_variablesSeen, a_nodeType, a_gradeOfBinder, a_variableType, a_usage, a_typeKind, a_typeGrade, a_typeLeft, a_typeRight, fm, fw, fe, tN, tE, rE, bo, go, co) (nI dl, nI rl, nI fl, f_n, f_stat, f_err, o, lv, rs', dr', fsp, a_nodeKind, a_nodeArg, a_ch, a_par, a_pos, a_seen, a_st, a_ty, a_tyK, a_tyG, a_tyA, a_tyB, a_u, a_bg, a_ux, a_uy, a_stk, a_eqA, a_eqB, rT, yE, rG, rN, rC, rX, fK, fA, fE)) {M : Nat} (ih1 : ∀ (t e dr rc : Nat) (F : gm_Fr) (tn te rs : Nat → Nat) (rn x4 x5 x6 x7 : Int32) (fm fw fe tN tE rE bo go co rT yE rG rN rC rX fK fA fE : Nat → Int32), gm_I kd a_nodeArg n tn te rs rc t e F → rc ≤ rl → dr ≤ dl → F.length ≤ fl → gr_rr rc tn te rs tN tE rE bo go co rT yE rG rN rC rX → gr_ff kd n fm fw fe fK fA fE F → 3 * gp_sz kd n t + gm_ps kd n F + 96 * (dl - dr) + 96 * (rl - rc) ≤ M → ∃ (o : Int32) (u' : SX) (v' : SY), i_Rel k u' v' ∧ (∀ (post : Int32 → SX → Prop) (f step : Nat), M + 2 ≤ f → step + M < 20000 → post o u' → wX_run_27 post f (nI step) (nI dl) (nI rl) (nI fl) f_nodeCount f_currentStatus f_faultNode f_typeCount (nI t) (nI e) 0 rn (nI F.length) 0 0 (nI dr) (nI rc) a_nodeKind a_nodeArg a_expectedPlaces a_nodeAtPlace a_placeOfNode a_variablesSeen a_nodeType a_gradeOfBinder a_variableType a_usage a_typeKind a_typeGrade a_typeLeft a_typeRight fm fw fe tN tE rE bo go co) ∧ (∀ (post : Int32 → SY → Prop) (f step : Nat), M + 2 ≤ f → step + M < 100000 → post o v' → wY_run_41 post f (nI t) (nI e - 1) 0 x4 x5 x6 x7 (nI step) (nI dl) (nI rl) (nI fl) f_n f_stat f_err 0 0 (nI rc) (nI dr) (nI F.length) a_nodeKind a_nodeArg a_ch a_par a_pos a_seen a_st a_ty a_tyK a_tyG a_tyA a_tyB a_u a_bg a_ux a_uy a_stk a_eqA a_eqB rT yE rG rN rC rX fK fA fE)) (ih2 : ∀ (t e dr rc : Nat) (F : gm_Fr) (tn te rs : Nat → Nat) (rn x1 x2 x7 : Int32) (fm fw fe tN tE rE bo go co rT yE rG rN rC rX fK fA fE : Nat → Int32), gm_I kd a_nodeArg n tn te rs rc t e F → rc ≤ rl → dr ≤ dl → F.length ≤ fl → gr_rr rc tn te rs tN tE rE bo go co rT yE rG rN rC rX → gr_ff kd n fm fw fe fK fA fE F → gm_vl (kd t) → (kd t = 7 → x7 = rn) → gm_ps kd n F + 96 * (dl - dr) + 96 * (rl - rc) ≤ M → ∃ (o : Int32) (u' : SX) (v' : SY), i_Rel k u' v' ∧ (∀ (post : Int32 → SX → Prop) (f step : Nat), M + 2 ≤ f → step + M < 20000 → post o u' → wX_run_27 post f (nI step) (nI dl) (nI rl) (nI fl) f_nodeCount f_currentStatus f_faultNode f_typeCount (nI t) (nI e) 1 rn (nI F.length) 0 0 (nI dr) (nI rc) a_nodeKind a_nodeArg a_expectedPlaces a_nodeAtPlace a_placeOfNode a_variablesSeen a_nodeType a_gradeOfBinder a_variableType a_usage a_typeKind a_typeGrade a_typeLeft a_typeRight fm fw fe tN tE rE bo go co) ∧ (∀ (post : Int32 → SY → Prop) (f step : Nat), M + 2 ≤ f → step + M < 100000 → post o v' → wY_run_41 post f x1 x2 1 (nI t) (nI e - 1) (nI (kd t)) x7 (nI step) (nI dl) (nI rl) (nI fl) f_n f_stat f_err 0 0 (nI rc) (nI dr) (nI F.length) a_nodeKind a_nodeArg a_ch a_par a_pos a_seen a_st a_ty a_tyK a_tyG a_tyA a_tyB a_u a_bg a_ux a_uy a_stk a_eqA a_eqB rT yE rG rN rC rX fK fA fE)) {t e dr rc m e' : Nat} {w : Int32} {G F : gm_Fr} {tn te rs : Nat → Nat} {rn x1 x2 x7 : Int32} {fm fw fe tN tE rE bo go co rT yE rG rN rC rX fK fA fE : Nat → Int32} (eF : F = (m, w, e') :: G) (hm : m = 0 ∨ m = 8)
    (I : gm_I kd a_nodeArg n tn te rs rc t e F) (hrc : rc ≤ rl) (hdr : dr ≤ dl) (hF : F.length ≤ fl) (R : gr_rr rc tn te rs tN tE rE bo go co rT yE rG rN rC rX) (hff : gr_ff kd n fm fw fe fK fA fE F) (hv : gm_vl (kd t)) (h7 : kd t = 7 → x7 = rn) (hM : gm_ps kd n F + 96 * (dl - dr) + 96 * (rl - rc) ≤ M + 1) : ∃ (o : Int32) (u' : SX) (v' : SY), i_Rel k u' v' ∧ (∀ (post : Int32 → SX → Prop) (f step : Nat), M + 1 + 2 ≤ f → step + (M + 1) < 20000 → post o u' → wX_run_27 post f (nI step) (nI dl) (nI rl) (nI fl) f_nodeCount f_currentStatus f_faultNode f_typeCount (nI t) (nI e) 1 rn (nI F.length) 0 0 (nI dr) (nI rc) a_nodeKind a_nodeArg a_expectedPlaces a_nodeAtPlace a_placeOfNode a_variablesSeen a_nodeType a_gradeOfBinder a_variableType a_usage a_typeKind a_typeGrade a_typeLeft a_typeRight fm fw fe tN tE rE bo go co) ∧ (∀ (post : Int32 → SY → Prop) (f step : Nat), M + 1 + 2 ≤ f → step + (M + 1) < 100000 → post o v' → wY_run_41 post f x1 x2 1 (nI t) (nI e - 1) (nI (kd t)) x7 (nI step) (nI dl) (nI rl) (nI fl) f_n f_stat f_err 0 0 (nI rc) (nI dr) (nI F.length) a_nodeKind a_nodeArg a_ch a_par a_pos a_seen a_st a_ty a_tyK a_tyG a_tyA a_tyB a_u a_bg a_ux a_uy a_stk a_eqA a_eqB rT yE rG rN rC rX fK fA fE) := by
  subst eF
  have ok := A.1.1
  have hn := ok.2.1
  have ht := I.1
  have t32 : t < 32 := by omega
  simp only [List.length_cons] at hF
  simp only [gm_ps] at hM
  obtain ⟨f1, f2, f3, f4, f5, f6, f7⟩ := hff
  dsimp only at f1 f2 f3 f4 f5 f6
  have q64 : G.length < 64 := by omega
  rcases hm with e0 | e8
  · subst e0
    rw [gm_pf_0] at hM
    obtain ⟨k7, e'0, I'⟩ := gm_s_add0 A I hv
    obtain ⟨o, u', v', hR, cX, cY⟩ := ih2 t e dr rc G tn te rs (w + rn) x1 x2 (w + x7) fm fw fe tN tE rE bo go co rT yE rG rN rC rX fK fA fE I' hrc hdr (by omega) R f7 hv (fun z => by rw [h7 z]) (by omega)
    refine ⟨o, u', v', hR, fun post f step hf hs hp => ?_, fun post f step hf hs hp => ?_⟩
    · cases f with
      | zero => omega
      | succ f =>
      refine br_f (nI_ge (b := 20000) (by omega) (by decide)) (br_t rfl (br_f (by decide) ?_))
      exact gx_retA q64 f1 f2 (nm_r (nI_1 step) (cX post f (step + 1) (by omega) (by omega) hp))
    · cases f with
      | zero => omega
      | succ f =>
      exact gy_rA (by omega) q64 f4 f5 (cY post f (step + 1) (by omega) (by omega) hp)
  · subst e8
    obtain ⟨_, d, hd, ew, kd8, he', hE', _⟩ := gm_fr_d A I hv (by decide)
    subst ew
    obtain ⟨k7, _, _, I'⟩ := gm_s_add (w := rn) A I hd hv
    have ar1 : 1 < gp_ar (kd d) := by rw [kd8]; decide
    have mm := gm_m_c (m := 8) (e := e') ok hd (by decide) ar1 (by omega)
    have d32 : d < 32 := by omega
    have ff' := gr_ff_p (m := 0) (e := 0) (w := rn) (kk := 7) (aa := x7) f7 rfl (by rw [if_neg (by decide)]; exact h7 k7)
    have f5' : fA G.length = nI (gp_ch kd n d 1) := by rw [f5, if_pos (Or.inl rfl), nI_clamp (by omega)]
    obtain ⟨o, u', v', hR, cX, cY⟩ := ih1 _ _ dr rc _ tn te rs rn (nI t) (nI e - 1) (nI (kd t)) x7 _ _ _ tN tE rE bo go co rT yE rG rN rC rX _ _ _ I' hrc hdr (by simp only [List.length_cons]; omega) R ff' (by simp only [gm_ps]; rw [gm_pf_0]; omega)
    refine ⟨o, u', v', hR, fun post f step hf hs hp => ?_, fun post f step hf hs hp => ?_⟩
    · cases f with
      | zero => omega
      | succ f =>
      refine br_f (nI_ge (b := 20000) (by omega) (by decide)) (br_t rfl (br_f (by decide) ?_))
      refine gx_retN q64 f1 f2 f3 (Or.inl rfl) (fun _ => ?_) (fun z => absurd z (by decide)) (fun z => absurd z (by decide)) (fun z => absurd z (by decide)) (fun z => absurd z (by decide))
      exact gx_en8 d32 (hX d hd 1 ar1) q64 (nm_r (nI_1 step) (cX post f (step + 1) (by omega) (by omega) hp))
    · cases f with
      | zero => omega
      | succ f =>
      exact gy_r8 (by omega) (by omega) hfl f4 f5' f6 (cY post f (step + 1) (by omega) (by omega) hp)
end
end
section
section
variable {f_derefLimit f_recordLimit f_frameLimit f_nodeCount f_currentStatus f_faultNode f_typeCount f_currentNode f_currentEnv f_returning f_returnedNumber f_frameCount f_lastOutcome f_lastValue f_derefsMade f_recordsMade : Int32} {a_nodeKind a_nodeArg a_expectedPlaces a_nodeAtPlace a_placeOfNode a_variablesSeen a_nodeType a_gradeOfBinder a_variableType a_usage a_typeKind a_typeGrade a_typeLeft a_typeRight a_frameMark a_frameWord a_frameEnv a_thunkNode a_thunkEnv a_restOfEnv a_binderOfRecord a_gradeOfRecord a_countOfRecord : Nat → Int32} {f_dLim f_rLim f_fLim f_n f_stat f_err f_out f_vInt f_recs f_drf f_fsp : Int32} {a_kind a_arg a_ch a_par a_pos a_seen a_st a_ty a_tyK a_tyG a_tyA a_tyB a_u a_bg a_ux a_uy a_stk a_eqA a_eqB a_rT a_rE a_rG a_rN a_rC a_rX a_fK a_fA a_fE : Nat → Int32}
theorem gr_app {k n dl rl fl : Nat} {kd : Nat → Nat} (A : gm_A kd a_nodeArg n) (hK : ∀ i, i < n → a_nodeKind i = nI (kd i)) (hX : ∀ i, i < n → ∀ j, j < gp_ar (kd i) → a_nodeAtPlace (3 * i + j) = nI (gp_ch kd n i j)) (hY : ∀ i, i < n → ∀ j, j < gp_ar (kd i) → a_ch (3 * i + j) = nI (gp_ch kd n i j)) (hg : ∀ i, i < n → (kd i = 9 ∨ kd i = 12 ∨ kd i = 15 ∨ kd i = 17) → a_bg i = a_gradeOfBinder i) (hdl : dl ≤ 64) (hrl : rl ≤ 32) (hfl : fl ≤ 64) (hFin : ∀ (cn ce rt rn fc o lv dr' rm rs' fsp : Int32) (fm fw fe tN tE rE bo go co rT yE rG rN rC rX fK fA fE : Nat → Int32), gr_rec rm rs' bo go co rN rG rC → i_Rel k (nI dl, nI rl, nI fl, f_nodeCount, f_currentStatus, f_faultNode, f_typeCount, cn, ce, rt, rn, fc, o, lv, dr', rm, a_nodeKind, a_nodeArg, a_expectedPlaces, a_nodeAtPlace, a_placeOfNode, a_variablesSeen, a_nodeType, a_gradeOfBinder, a_variableType, a_usage, a_typeKind, a_typeGrade, a_typeLeft, a_typeRight, fm, fw, fe, tN, tE, rE, bo, go, co) (nI dl, nI rl, nI fl, f_n, f_stat, f_err, o, lv, rs', dr', fsp, a_nodeKind, a_nodeArg, a_ch, a_par, a_pos, a_seen, a_st, a_ty, a_tyK, a_tyG, a_tyA, a_tyB, a_u, a_bg, a_ux, a_uy, a_stk, a_eqA, a_eqB, rT, yE, rG, rN, rC, rX, fK, fA, fE)) {M : Nat} (ih1 : ∀ (t e dr rc : Nat) (F : gm_Fr) (tn te rs : Nat → Nat) (rn x4 x5 x6 x7 : Int32) (fm fw fe tN tE rE bo go co rT yE rG rN rC rX fK fA fE : Nat → Int32), gm_I kd a_nodeArg n tn te rs rc t e F → rc ≤ rl → dr ≤ dl → F.length ≤ fl → gr_rr rc tn te rs tN tE rE bo go co rT yE rG rN rC rX → gr_ff kd n fm fw fe fK fA fE F → 3 * gp_sz kd n t + gm_ps kd n F + 96 * (dl - dr) + 96 * (rl - rc) ≤ M → ∃ (o : Int32) (u' : SX) (v' : SY), i_Rel k u' v' ∧ (∀ (post : Int32 → SX → Prop) (f step : Nat), M + 2 ≤ f → step + M < 20000 → post o u' → wX_run_27 post f (nI step) (nI dl) (nI rl) (nI fl) f_nodeCount f_currentStatus f_faultNode f_typeCount (nI t) (nI e) 0 rn (nI F.length) 0 0 (nI dr) (nI rc) a_nodeKind a_nodeArg a_expectedPlaces a_nodeAtPlace a_placeOfNode a_variablesSeen a_nodeType a_gradeOfBinder a_variableType a_usage a_typeKind a_typeGrade a_typeLeft a_typeRight fm fw fe tN tE rE bo go co) ∧ (∀ (post : Int32 → SY → Prop) (f step : Nat), M + 2 ≤ f → step + M < 100000 → post o v' → wY_run_41 post f (nI t) (nI e - 1) 0 x4 x5 x6 x7 (nI step) (nI dl) (nI rl) (nI fl) f_n f_stat f_err 0 0 (nI rc) (nI dr) (nI F.length) a_nodeKind a_nodeArg a_ch a_par a_pos a_seen a_st a_ty a_tyK a_tyG a_tyA a_tyB a_u a_bg a_ux a_uy a_stk a_eqA a_eqB rT yE rG rN rC rX fK fA fE)) {t e dr rc e' : Nat} {w : Int32} {G F : gm_Fr} {tn te rs : Nat → Nat} {rn x1 x2 x7 : Int32} {fm fw fe tN tE rE bo go co rT yE rG rN rC rX fK fA fE : Nat → Int32} (eF : F = (10, w, e') :: G) (I : gm_I kd a_nodeArg n tn te rs rc t e F) (hrc : rc ≤ rl) (hdr : dr ≤ dl) (hF : F.length ≤ fl) (R : gr_rr rc tn te rs tN tE rE bo go co rT yE rG rN rC rX) (hff : gr_ff kd n fm fw fe fK fA fE F) (hv : gm_vl (kd t)) (hM : gm_ps kd n F + 96 * (dl - dr) + 96 * (rl - rc) ≤ M + 1) : ∃ (o : Int32) (u' : SX) (v' : SY), i_Rel k u' v' ∧ (∀ (post : Int32 → SX → Prop) (f step : Nat), M + 1 + 2 ≤ f → step + (M + 1) < 20000 → post o u' → wX_run_27 post f (nI step) (nI dl) (nI rl) (nI fl) f_nodeCount f_currentStatus f_faultNode f_typeCount (nI t) (nI e) 1 rn (nI F.length) 0 0 (nI dr) (nI rc) a_nodeKind a_nodeArg a_expectedPlaces a_nodeAtPlace a_placeOfNode a_variablesSeen a_nodeType a_gradeOfBinder a_variableType a_usage a_typeKind a_typeGrade a_typeLeft a_typeRight fm fw fe tN tE rE bo go co) ∧ (∀ (post : Int32 → SY → Prop) (f step : Nat), M + 1 + 2 ≤ f → step + (M + 1) < 100000 → post o v' → wY_run_41 post f x1 x2 1 (nI t) (nI e - 1) (nI (kd t)) x7 (nI step) (nI dl) (nI rl) (nI fl) f_n f_stat f_err 0 0 (nI rc) (nI dr) (nI F.length) a_nodeKind a_nodeArg a_ch a_par a_pos a_seen a_st a_ty a_tyK a_tyG a_tyA a_tyB a_u a_bg a_ux a_uy a_stk a_eqA a_eqB rT yE rG rN rC rX fK fA fE) := by
  subst eF
  have ok := A.1.1
  have hn := ok.2.1
  have ht := I.1
  have t32 : t < 32 := by omega
  simp only [List.length_cons] at hF
  simp only [gm_ps] at hM
  obtain ⟨f1, f2, f3, f4, f5, f6, f7⟩ := hff
  dsimp only at f1 f2 f3 f4 f5 f6
  have q64 : G.length < 64 := by omega
  obtain ⟨_, d, hd, ew, kdd, _⟩ := gm_fr_d A I hv (by decide)
  subst ew
  obtain ⟨k9, _, he', I'⟩ := gm_s_app A I hd hv
  have ar1 : 1 < gp_ar (kd d) := by rw [kdd]; decide
  have ar1' : 1 < gp_ar (kd t) := by rw [k9]; decide
  have d32 : d < 32 := by omega
  have sz' := gp_sz_le ok I'.1
  have p1 := gm_pf_1 kd n (10, nI d, e')
  have f5' : fA G.length = nI (gp_ch kd n d 1) := by rw [f5, if_pos (Or.inr rfl), nI_clamp (by omega)]
  have eg := hg t ht (Or.inl k9)
  have c1 := hX d hd 1 ar1
  have b1 := hX t ht 1 ar1'
  have y1 := hY t ht 1 ar1'
  rcases Nat.lt_or_ge rc rl with z | z
  · obtain ⟨o, u', v', hR, cX, cY⟩ := ih1 _ _ dr (rc + 1) G _ _ _ rn (nI t) (nI e - 1) (nI (kd t)) x7 fm fw fe _ _ _ _ _ _ _ _ _ _ _ _ fK fA fE I' z hdr (by omega) (gr_rr_p (b := nI t) (g := a_gradeOfBinder t) R) f7 (by omega)
    refine ⟨o, u', v', hR, fun post f step hf hs hp => ?_, fun post f step hf hs hp => ?_⟩
    · cases f with
      | zero => omega
      | succ f =>
      refine br_f (nI_ge (b := 20000) (by omega) (by decide)) (br_t rfl (br_f (by decide) ?_))
      refine gx_retN q64 f1 f2 f3 (Or.inr (Or.inl rfl)) (fun z => absurd z (by decide)) (fun _ => ?_) (fun z => absurd z (by decide)) (fun z => absurd z (by decide)) (fun z => absurd z (by decide))
      exact gx_en10 d32 t32 c1 b1 hrc hrl (fun w => by omega) (fun _ => nm_r (nI_1 step) (cX post f (step + 1) (by omega) (by omega) hp))
    · cases f with
      | zero => omega
      | succ f =>
      refine gy_r10 (by omega) q64 f5' f6 f4 t32 y1 hrc hrl (fun w => by omega) (fun _ => ?_)
      rw [eg, ← nI_pred rc]
      exact cY post f (step + 1) (by omega) (by omega) hp
  · refine ⟨8, _, _, hFin (nI t) (nI e) 1 rn (nI G.length) 8 0 (nI dr) (nI rc) (nI rc) (nI G.length) fm fw fe tN tE rE bo go co rT yE rG rN rC rX fK fA fE (gr_rr_r R (by omega)), fun post f step hf hs hp => ?_, fun post f step hf hs hp => ?_⟩
    · cases f with
      | zero => omega
      | succ f =>
      cases f with
      | zero => omega
      | succ f =>
      refine br_f (nI_ge (b := 20000) (by omega) (by decide)) (br_t rfl (br_f (by decide) ?_))
      refine gx_retN q64 f1 f2 f3 (Or.inr (Or.inl rfl)) (fun z => absurd z (by decide)) (fun _ => ?_) (fun z => absurd z (by decide)) (fun z => absurd z (by decide)) (fun z => absurd z (by decide))
      exact gx_en10 d32 t32 c1 b1 hrc hrl (fun w => nm_r (nI_1 step) (gx_fin (by decide) hp)) (fun w => by omega)
    · cases f with
      | zero => omega
      | succ f =>
      exact gy_r10 (by omega) q64 f5' f6 f4 t32 y1 hrc hrl (fun w => hp) (fun w => by omega)
theorem gr_lbx {k n dl rl fl : Nat} {kd : Nat → Nat} (A : gm_A kd a_nodeArg n) (hK : ∀ i, i < n → a_nodeKind i = nI (kd i)) (hX : ∀ i, i < n → ∀ j, j < gp_ar (kd i) → a_nodeAtPlace (3 * i + j) = nI (gp_ch kd n i j)) (hY : ∀ i, i < n → ∀ j, j < gp_ar (kd i) → a_ch (3 * i + j) = nI (gp_ch kd n i j)) (hg : ∀ i, i < n → (kd i = 9 ∨ kd i = 12 ∨ kd i = 15 ∨ kd i = 17) → a_bg i = a_gradeOfBinder i) (hdl : dl ≤ 64) (hrl : rl ≤ 32) (hfl : fl ≤ 64) (hFin : ∀ (cn ce rt rn fc o lv dr' rm rs' fsp : Int32) (fm fw fe tN tE rE bo go co rT yE rG rN rC rX fK fA fE : Nat → Int32), gr_rec rm rs' bo go co rN rG rC → i_Rel k (nI dl, nI rl, nI fl, f_nodeCount, f_currentStatus, f_faultNode, f_typeCount, cn, ce, rt, rn, fc, o, lv, dr', rm, a_nodeKind, a_nodeArg, a_expectedPlaces, a_nodeAtPlace, a_placeOfNode, a_variablesSeen, a_nodeType, a_gradeOfBinder, a_variableType, a_usage, a_typeKind, a_typeGrade, a_typeLeft, a_typeRight, fm, fw, fe, tN, tE, rE, bo, go, co) (nI dl, nI rl, nI fl, f_n, f_stat, f_err, o, lv, rs', dr', fsp, a_nodeKind, a_nodeArg, a_ch, a_par, a_pos, a_seen, a_st, a_ty, a_tyK, a_tyG, a_tyA, a_tyB, a_u, a_bg, a_ux, a_uy, a_stk, a_eqA, a_eqB, rT, yE, rG, rN, rC, rX, fK, fA, fE)) {M : Nat} (ih1 : ∀ (t e dr rc : Nat) (F : gm_Fr) (tn te rs : Nat → Nat) (rn x4 x5 x6 x7 : Int32) (fm fw fe tN tE rE bo go co rT yE rG rN rC rX fK fA fE : Nat → Int32), gm_I kd a_nodeArg n tn te rs rc t e F → rc ≤ rl → dr ≤ dl → F.length ≤ fl → gr_rr rc tn te rs tN tE rE bo go co rT yE rG rN rC rX → gr_ff kd n fm fw fe fK fA fE F → 3 * gp_sz kd n t + gm_ps kd n F + 96 * (dl - dr) + 96 * (rl - rc) ≤ M → ∃ (o : Int32) (u' : SX) (v' : SY), i_Rel k u' v' ∧ (∀ (post : Int32 → SX → Prop) (f step : Nat), M + 2 ≤ f → step + M < 20000 → post o u' → wX_run_27 post f (nI step) (nI dl) (nI rl) (nI fl) f_nodeCount f_currentStatus f_faultNode f_typeCount (nI t) (nI e) 0 rn (nI F.length) 0 0 (nI dr) (nI rc) a_nodeKind a_nodeArg a_expectedPlaces a_nodeAtPlace a_placeOfNode a_variablesSeen a_nodeType a_gradeOfBinder a_variableType a_usage a_typeKind a_typeGrade a_typeLeft a_typeRight fm fw fe tN tE rE bo go co) ∧ (∀ (post : Int32 → SY → Prop) (f step : Nat), M + 2 ≤ f → step + M < 100000 → post o v' → wY_run_41 post f (nI t) (nI e - 1) 0 x4 x5 x6 x7 (nI step) (nI dl) (nI rl) (nI fl) f_n f_stat f_err 0 0 (nI rc) (nI dr) (nI F.length) a_nodeKind a_nodeArg a_ch a_par a_pos a_seen a_st a_ty a_tyK a_tyG a_tyA a_tyB a_u a_bg a_ux a_uy a_stk a_eqA a_eqB rT yE rG rN rC rX fK fA fE)) {t e dr rc e' : Nat} {w : Int32} {G F : gm_Fr} {tn te rs : Nat → Nat} {rn x1 x2 x7 : Int32} {fm fw fe tN tE rE bo go co rT yE rG rN rC rX fK fA fE : Nat → Int32} (eF : F = (17, w, e') :: G) (I : gm_I kd a_nodeArg n tn te rs rc t e F) (hrc : rc ≤ rl) (hdr : dr ≤ dl) (hF : F.length ≤ fl) (R : gr_rr rc tn te rs tN tE rE bo go co rT yE rG rN rC rX) (hff : gr_ff kd n fm fw fe fK fA fE F) (hv : gm_vl (kd t)) (hM : gm_ps kd n F + 96 * (dl - dr) + 96 * (rl - rc) ≤ M + 1) : ∃ (o : Int32) (u' : SX) (v' : SY), i_Rel k u' v' ∧ (∀ (post : Int32 → SX → Prop) (f step : Nat), M + 1 + 2 ≤ f → step + (M + 1) < 20000 → post o u' → wX_run_27 post f (nI step) (nI dl) (nI rl) (nI fl) f_nodeCount f_currentStatus f_faultNode f_typeCount (nI t) (nI e) 1 rn (nI F.length) 0 0 (nI dr) (nI rc) a_nodeKind a_nodeArg a_expectedPlaces a_nodeAtPlace a_placeOfNode a_variablesSeen a_nodeType a_gradeOfBinder a_variableType a_usage a_typeKind a_typeGrade a_typeLeft a_typeRight fm fw fe tN tE rE bo go co) ∧ (∀ (post : Int32 → SY → Prop) (f step : Nat), M + 1 + 2 ≤ f → step + (M + 1) < 100000 → post o v' → wY_run_41 post f x1 x2 1 (nI t) (nI e - 1) (nI (kd t)) x7 (nI step) (nI dl) (nI rl) (nI fl) f_n f_stat f_err 0 0 (nI rc) (nI dr) (nI F.length) a_nodeKind a_nodeArg a_ch a_par a_pos a_seen a_st a_ty a_tyK a_tyG a_tyA a_tyB a_u a_bg a_ux a_uy a_stk a_eqA a_eqB rT yE rG rN rC rX fK fA fE) := by
  subst eF
  have ok := A.1.1
  have hn := ok.2.1
  have ht := I.1
  have t32 : t < 32 := by omega
  simp only [List.length_cons] at hF
  simp only [gm_ps] at hM
  obtain ⟨f1, f2, f3, f4, f5, f6, f7⟩ := hff
  dsimp only at f1 f2 f3 f4 f5 f6
  have q64 : G.length < 64 := by omega
  obtain ⟨_, d, hd, ew, kdd, _⟩ := gm_fr_d A I hv (by decide)
  subst ew
  obtain ⟨k16, _, he', I'⟩ := gm_s_box A I hd hv
  have ar1 : 1 < gp_ar (kd d) := by rw [kdd]; decide
  have ar0 : 0 < gp_ar (kd t) := by rw [k16]; decide
  have d32 : d < 32 := by omega
  have sz' := gp_sz_le ok I'.1
  have mm := gm_m_c (m := 17) (e := e') ok hd (by decide) ar1 (by omega)
  have f5' : fA G.length = nI d := by rw [f5, if_neg (by decide)]
  have eg := hg d hd (Or.inr (Or.inr (Or.inr kdd)))
  have c1 := hX t ht 0 ar0
  have b1 := hX d hd 1 ar1
  have yc := hY t ht 0 ar0
  rw [Nat.add_zero] at yc
  have y1 := hY d hd 1 ar1
  rcases Nat.lt_or_ge rc rl with z | z
  · obtain ⟨o, u', v', hR, cX, cY⟩ := ih1 _ _ dr (rc + 1) G _ _ _ rn (nI t) (nI e - 1) (nI (kd t)) x7 fm fw fe _ _ _ _ _ _ _ _ _ _ _ _ fK fA fE I' z hdr (by omega) (gr_rr_p (b := nI d) (g := a_gradeOfBinder d) R) f7 (by omega)
    refine ⟨o, u', v', hR, fun post f step hf hs hp => ?_, fun post f step hf hs hp => ?_⟩
    · cases f with
      | zero => omega
      | succ f =>
      refine br_f (nI_ge (b := 20000) (by omega) (by decide)) (br_t rfl (br_f (by decide) ?_))
      refine gx_retN q64 f1 f2 f3 (Or.inr (Or.inr (Or.inr (Or.inr rfl)))) (fun z => absurd z (by decide)) (fun z => absurd z (by decide)) (fun z => absurd z (by decide)) (fun z => absurd z (by decide)) (fun _ => ?_)
      exact gx_en17 d32 t32 c1 b1 hrc hrl (fun w => by omega) (fun _ => nm_r (nI_1 step) (cX post f (step + 1) (by omega) (by omega) hp))
    · cases f with
      | zero => omega
      | succ f =>
      refine gy_r17 (by omega) q64 f5' f6 f4 t32 d32 yc y1 hrc hrl (fun w => by omega) (fun _ => ?_)
      rw [eg, ← nI_pred rc]
      exact cY post f (step + 1) (by omega) (by omega) hp
  · refine ⟨8, _, _, hFin (nI t) (nI e) 1 rn (nI G.length) 8 0 (nI dr) (nI rc) (nI rc) (nI G.length) fm fw fe tN tE rE bo go co rT yE rG rN rC rX fK fA fE (gr_rr_r R (by omega)), fun post f step hf hs hp => ?_, fun post f step hf hs hp => ?_⟩
    · cases f with
      | zero => omega
      | succ f =>
      cases f with
      | zero => omega
      | succ f =>
      refine br_f (nI_ge (b := 20000) (by omega) (by decide)) (br_t rfl (br_f (by decide) ?_))
      refine gx_retN q64 f1 f2 f3 (Or.inr (Or.inr (Or.inr (Or.inr rfl)))) (fun z => absurd z (by decide)) (fun z => absurd z (by decide)) (fun z => absurd z (by decide)) (fun z => absurd z (by decide)) (fun _ => ?_)
      exact gx_en17 d32 t32 c1 b1 hrc hrl (fun w => nm_r (nI_1 step) (gx_fin (by decide) hp)) (fun w => by omega)
    · cases f with
      | zero => omega
      | succ f =>
      exact gy_r17 (by omega) q64 f5' f6 f4 t32 d32 yc y1 hrc hrl (fun w => hp) (fun w => by omega)
theorem gr_cas {k n dl rl fl : Nat} {kd : Nat → Nat} (A : gm_A kd a_nodeArg n) (hK : ∀ i, i < n → a_nodeKind i = nI (kd i)) (hX : ∀ i, i < n → ∀ j, j < gp_ar (kd i) → a_nodeAtPlace (3 * i + j) = nI (gp_ch kd n i j)) (hY : ∀ i, i < n → ∀ j, j < gp_ar (kd i) → a_ch (3 * i + j) = nI (gp_ch kd n i j)) (hg : ∀ i, i < n → (kd i = 9 ∨ kd i = 12 ∨ kd i = 15 ∨ kd i = 17) → a_bg i = a_gradeOfBinder i) (hdl : dl ≤ 64) (hrl : rl ≤ 32) (hfl : fl ≤ 64) (hFin : ∀ (cn ce rt rn fc o lv dr' rm rs' fsp : Int32) (fm fw fe tN tE rE bo go co rT yE rG rN rC rX fK fA fE : Nat → Int32), gr_rec rm rs' bo go co rN rG rC → i_Rel k (nI dl, nI rl, nI fl, f_nodeCount, f_currentStatus, f_faultNode, f_typeCount, cn, ce, rt, rn, fc, o, lv, dr', rm, a_nodeKind, a_nodeArg, a_expectedPlaces, a_nodeAtPlace, a_placeOfNode, a_variablesSeen, a_nodeType, a_gradeOfBinder, a_variableType, a_usage, a_typeKind, a_typeGrade, a_typeLeft, a_typeRight, fm, fw, fe, tN, tE, rE, bo, go, co) (nI dl, nI rl, nI fl, f_n, f_stat, f_err, o, lv, rs', dr', fsp, a_nodeKind, a_nodeArg, a_ch, a_par, a_pos, a_seen, a_st, a_ty, a_tyK, a_tyG, a_tyA, a_tyB, a_u, a_bg, a_ux, a_uy, a_stk, a_eqA, a_eqB, rT, yE, rG, rN, rC, rX, fK, fA, fE)) {M : Nat} (ih1 : ∀ (t e dr rc : Nat) (F : gm_Fr) (tn te rs : Nat → Nat) (rn x4 x5 x6 x7 : Int32) (fm fw fe tN tE rE bo go co rT yE rG rN rC rX fK fA fE : Nat → Int32), gm_I kd a_nodeArg n tn te rs rc t e F → rc ≤ rl → dr ≤ dl → F.length ≤ fl → gr_rr rc tn te rs tN tE rE bo go co rT yE rG rN rC rX → gr_ff kd n fm fw fe fK fA fE F → 3 * gp_sz kd n t + gm_ps kd n F + 96 * (dl - dr) + 96 * (rl - rc) ≤ M → ∃ (o : Int32) (u' : SX) (v' : SY), i_Rel k u' v' ∧ (∀ (post : Int32 → SX → Prop) (f step : Nat), M + 2 ≤ f → step + M < 20000 → post o u' → wX_run_27 post f (nI step) (nI dl) (nI rl) (nI fl) f_nodeCount f_currentStatus f_faultNode f_typeCount (nI t) (nI e) 0 rn (nI F.length) 0 0 (nI dr) (nI rc) a_nodeKind a_nodeArg a_expectedPlaces a_nodeAtPlace a_placeOfNode a_variablesSeen a_nodeType a_gradeOfBinder a_variableType a_usage a_typeKind a_typeGrade a_typeLeft a_typeRight fm fw fe tN tE rE bo go co) ∧ (∀ (post : Int32 → SY → Prop) (f step : Nat), M + 2 ≤ f → step + M < 100000 → post o v' → wY_run_41 post f (nI t) (nI e - 1) 0 x4 x5 x6 x7 (nI step) (nI dl) (nI rl) (nI fl) f_n f_stat f_err 0 0 (nI rc) (nI dr) (nI F.length) a_nodeKind a_nodeArg a_ch a_par a_pos a_seen a_st a_ty a_tyK a_tyG a_tyA a_tyB a_u a_bg a_ux a_uy a_stk a_eqA a_eqB rT yE rG rN rC rX fK fA fE)) {t e dr rc e' : Nat} {w : Int32} {G F : gm_Fr} {tn te rs : Nat → Nat} {rn x1 x2 x7 : Int32} {fm fw fe tN tE rE bo go co rT yE rG rN rC rX fK fA fE : Nat → Int32} (eF : F = (15, w, e') :: G) (I : gm_I kd a_nodeArg n tn te rs rc t e F) (hrc : rc ≤ rl) (hdr : dr ≤ dl) (hF : F.length ≤ fl) (R : gr_rr rc tn te rs tN tE rE bo go co rT yE rG rN rC rX) (hff : gr_ff kd n fm fw fe fK fA fE F) (hv : gm_vl (kd t)) (hM : gm_ps kd n F + 96 * (dl - dr) + 96 * (rl - rc) ≤ M + 1) : ∃ (o : Int32) (u' : SX) (v' : SY), i_Rel k u' v' ∧ (∀ (post : Int32 → SX → Prop) (f step : Nat), M + 1 + 2 ≤ f → step + (M + 1) < 20000 → post o u' → wX_run_27 post f (nI step) (nI dl) (nI rl) (nI fl) f_nodeCount f_currentStatus f_faultNode f_typeCount (nI t) (nI e) 1 rn (nI F.length) 0 0 (nI dr) (nI rc) a_nodeKind a_nodeArg a_expectedPlaces a_nodeAtPlace a_placeOfNode a_variablesSeen a_nodeType a_gradeOfBinder a_variableType a_usage a_typeKind a_typeGrade a_typeLeft a_typeRight fm fw fe tN tE rE bo go co) ∧ (∀ (post : Int32 → SY → Prop) (f step : Nat), M + 1 + 2 ≤ f → step + (M + 1) < 100000 → post o v' → wY_run_41 post f x1 x2 1 (nI t) (nI e - 1) (nI (kd t)) x7 (nI step) (nI dl) (nI rl) (nI fl) f_n f_stat f_err 0 0 (nI rc) (nI dr) (nI F.length) a_nodeKind a_nodeArg a_ch a_par a_pos a_seen a_st a_ty a_tyK a_tyG a_tyA a_tyB a_u a_bg a_ux a_uy a_stk a_eqA a_eqB rT yE rG rN rC rX fK fA fE) := by
  subst eF
  have ok := A.1.1
  have hn := ok.2.1
  have ht := I.1
  have t32 : t < 32 := by omega
  simp only [List.length_cons] at hF
  simp only [gm_ps] at hM
  obtain ⟨f1, f2, f3, f4, f5, f6, f7⟩ := hff
  dsimp only at f1 f2 f3 f4 f5 f6
  have q64 : G.length < 64 := by omega
  obtain ⟨_, d, hd, ew, kdd, _⟩ := gm_fr_d A I hv (by decide)
  subst ew
  obtain ⟨k13, _, he', I'⟩ := gm_s_case A I hd hv
  have jj : 1 ≤ (if kd t = 13 then 1 else 2) ∧ (if kd t = 13 then 1 else 2) < gp_ar (kd d) := by
    rw [kdd]
    by_cases z : kd t = 13
    · rw [if_pos z]; decide
    · rw [if_neg z]; decide
  have ar1 : 1 < gp_ar (kd t) := by rcases k13 with z | z <;> rw [z] <;> decide
  have d32 : d < 32 := by omega
  have k17 : kd t ≤ 17 := by omega
  have mm := gm_m_c (m := 15) (e := e') ok hd (by decide) jj.2 jj.1
  have f5' : fA G.length = nI d := by rw [f5, if_neg (by decide)]
  have eg := hg d hd (Or.inr (Or.inr (Or.inl kdd)))
  have c1 := hX t ht 1 ar1
  have b1 := hX d hd _ jj.2
  have yc := hY t ht 1 ar1
  have y1 := hY d hd _ jj.2
  rcases Nat.lt_or_ge rc rl with z | z
  · obtain ⟨o, u', v', hR, cX, cY⟩ := ih1 _ _ dr (rc + 1) G _ _ _ rn (nI t) (nI e - 1) (nI (kd t)) x7 fm fw fe _ _ _ _ _ _ _ _ _ _ _ _ fK fA fE I' z hdr (by omega) (gr_rr_p (b := nI d) (g := a_gradeOfBinder d) R) f7 (by omega)
    refine ⟨o, u', v', hR, fun post f step hf hs hp => ?_, fun post f step hf hs hp => ?_⟩
    · cases f with
      | zero => omega
      | succ f =>
      refine br_f (nI_ge (b := 20000) (by omega) (by decide)) (br_t rfl (br_f (by decide) ?_))
      refine gx_retN q64 f1 f2 f3 (Or.inr (Or.inr (Or.inr (Or.inl rfl)))) (fun z => absurd z (by decide)) (fun z => absurd z (by decide)) (fun z => absurd z (by decide)) (fun _ => ?_) (fun z => absurd z (by decide))
      exact gx_en15 d32 t32 (hK t ht) k17 c1 b1 hrc hrl (fun w => by omega) (fun _ => nm_r (nI_1 step) (cX post f (step + 1) (by omega) (by omega) hp))
    · cases f with
      | zero => omega
      | succ f =>
      refine gy_r15 (by omega) q64 f5' f6 f4 t32 d32 (hK t ht) k17 yc y1 hrc hrl (fun w => by omega) (fun _ => ?_)
      rw [eg, ← nI_pred rc]
      exact cY post f (step + 1) (by omega) (by omega) hp
  · refine ⟨8, _, _, hFin (nI t) (nI e) 1 rn (nI G.length) 8 0 (nI dr) (nI rc) (nI rc) (nI G.length) fm fw fe tN tE rE bo go co rT yE rG rN rC rX fK fA fE (gr_rr_r R (by omega)), fun post f step hf hs hp => ?_, fun post f step hf hs hp => ?_⟩
    · cases f with
      | zero => omega
      | succ f =>
      cases f with
      | zero => omega
      | succ f =>
      refine br_f (nI_ge (b := 20000) (by omega) (by decide)) (br_t rfl (br_f (by decide) ?_))
      refine gx_retN q64 f1 f2 f3 (Or.inr (Or.inr (Or.inr (Or.inl rfl)))) (fun z => absurd z (by decide)) (fun z => absurd z (by decide)) (fun z => absurd z (by decide)) (fun _ => ?_) (fun z => absurd z (by decide))
      exact gx_en15 d32 t32 (hK t ht) k17 c1 b1 hrc hrl (fun w => nm_r (nI_1 step) (gx_fin (by decide) hp)) (fun w => by omega)
    · cases f with
      | zero => omega
      | succ f =>
      exact gy_r15 (by omega) q64 f5' f6 f4 t32 d32 (hK t ht) k17 yc y1 hrc hrl (fun w => hp) (fun w => by omega)
theorem gr_lpr {k n dl rl fl : Nat} {kd : Nat → Nat} (A : gm_A kd a_nodeArg n) (hK : ∀ i, i < n → a_nodeKind i = nI (kd i)) (hX : ∀ i, i < n → ∀ j, j < gp_ar (kd i) → a_nodeAtPlace (3 * i + j) = nI (gp_ch kd n i j)) (hY : ∀ i, i < n → ∀ j, j < gp_ar (kd i) → a_ch (3 * i + j) = nI (gp_ch kd n i j)) (hg : ∀ i, i < n → (kd i = 9 ∨ kd i = 12 ∨ kd i = 15 ∨ kd i = 17) → a_bg i = a_gradeOfBinder i) (hdl : dl ≤ 64) (hrl : rl ≤ 32) (hfl : fl ≤ 64) (hFin : ∀ (cn ce rt rn fc o lv dr' rm rs' fsp : Int32) (fm fw fe tN tE rE bo go co rT yE rG rN rC rX fK fA fE : Nat → Int32), gr_rec rm rs' bo go co rN rG rC → i_Rel k (nI dl, nI rl, nI fl, f_nodeCount, f_currentStatus, f_faultNode, f_typeCount, cn, ce, rt, rn, fc, o, lv, dr', rm, a_nodeKind, a_nodeArg, a_expectedPlaces, a_nodeAtPlace, a_placeOfNode, a_variablesSeen, a_nodeType, a_gradeOfBinder, a_variableType, a_usage, a_typeKind, a_typeGrade, a_typeLeft, a_typeRight, fm, fw, fe, tN, tE, rE, bo, go, co) (nI dl, nI rl, nI fl, f_n, f_stat, f_err, o, lv, rs', dr', fsp, a_nodeKind, a_nodeArg, a_ch, a_par, a_pos, a_seen, a_st, a_ty, a_tyK, a_tyG, a_tyA, a_tyB, a_u, a_bg, a_ux, a_uy, a_stk, a_eqA, a_eqB, rT, yE, rG, rN, rC, rX, fK, fA, fE)) {M : Nat} (ih1 : ∀ (t e dr rc : Nat) (F : gm_Fr) (tn te rs : Nat → Nat) (rn x4 x5 x6 x7 : Int32) (fm fw fe tN tE rE bo go co rT yE rG rN rC rX fK fA fE : Nat → Int32), gm_I kd a_nodeArg n tn te rs rc t e F → rc ≤ rl → dr ≤ dl → F.length ≤ fl → gr_rr rc tn te rs tN tE rE bo go co rT yE rG rN rC rX → gr_ff kd n fm fw fe fK fA fE F → 3 * gp_sz kd n t + gm_ps kd n F + 96 * (dl - dr) + 96 * (rl - rc) ≤ M → ∃ (o : Int32) (u' : SX) (v' : SY), i_Rel k u' v' ∧ (∀ (post : Int32 → SX → Prop) (f step : Nat), M + 2 ≤ f → step + M < 20000 → post o u' → wX_run_27 post f (nI step) (nI dl) (nI rl) (nI fl) f_nodeCount f_currentStatus f_faultNode f_typeCount (nI t) (nI e) 0 rn (nI F.length) 0 0 (nI dr) (nI rc) a_nodeKind a_nodeArg a_expectedPlaces a_nodeAtPlace a_placeOfNode a_variablesSeen a_nodeType a_gradeOfBinder a_variableType a_usage a_typeKind a_typeGrade a_typeLeft a_typeRight fm fw fe tN tE rE bo go co) ∧ (∀ (post : Int32 → SY → Prop) (f step : Nat), M + 2 ≤ f → step + M < 100000 → post o v' → wY_run_41 post f (nI t) (nI e - 1) 0 x4 x5 x6 x7 (nI step) (nI dl) (nI rl) (nI fl) f_n f_stat f_err 0 0 (nI rc) (nI dr) (nI F.length) a_nodeKind a_nodeArg a_ch a_par a_pos a_seen a_st a_ty a_tyK a_tyG a_tyA a_tyB a_u a_bg a_ux a_uy a_stk a_eqA a_eqB rT yE rG rN rC rX fK fA fE)) {t e dr rc e' : Nat} {w : Int32} {G F : gm_Fr} {tn te rs : Nat → Nat} {rn x1 x2 x7 : Int32} {fm fw fe tN tE rE bo go co rT yE rG rN rC rX fK fA fE : Nat → Int32} (eF : F = (12, w, e') :: G) (I : gm_I kd a_nodeArg n tn te rs rc t e F) (hrc : rc ≤ rl) (hdr : dr ≤ dl) (hF : F.length ≤ fl) (R : gr_rr rc tn te rs tN tE rE bo go co rT yE rG rN rC rX) (hff : gr_ff kd n fm fw fe fK fA fE F) (hv : gm_vl (kd t)) (hM : gm_ps kd n F + 96 * (dl - dr) + 96 * (rl - rc) ≤ M + 1) : ∃ (o : Int32) (u' : SX) (v' : SY), i_Rel k u' v' ∧ (∀ (post : Int32 → SX → Prop) (f step : Nat), M + 1 + 2 ≤ f → step + (M + 1) < 20000 → post o u' → wX_run_27 post f (nI step) (nI dl) (nI rl) (nI fl) f_nodeCount f_currentStatus f_faultNode f_typeCount (nI t) (nI e) 1 rn (nI F.length) 0 0 (nI dr) (nI rc) a_nodeKind a_nodeArg a_expectedPlaces a_nodeAtPlace a_placeOfNode a_variablesSeen a_nodeType a_gradeOfBinder a_variableType a_usage a_typeKind a_typeGrade a_typeLeft a_typeRight fm fw fe tN tE rE bo go co) ∧ (∀ (post : Int32 → SY → Prop) (f step : Nat), M + 1 + 2 ≤ f → step + (M + 1) < 100000 → post o v' → wY_run_41 post f x1 x2 1 (nI t) (nI e - 1) (nI (kd t)) x7 (nI step) (nI dl) (nI rl) (nI fl) f_n f_stat f_err 0 0 (nI rc) (nI dr) (nI F.length) a_nodeKind a_nodeArg a_ch a_par a_pos a_seen a_st a_ty a_tyK a_tyG a_tyA a_tyB a_u a_bg a_ux a_uy a_stk a_eqA a_eqB rT yE rG rN rC rX fK fA fE) := by
  subst eF
  have ok := A.1.1
  have hn := ok.2.1
  have ht := I.1
  have t32 : t < 32 := by omega
  simp only [List.length_cons] at hF
  simp only [gm_ps] at hM
  obtain ⟨f1, f2, f3, f4, f5, f6, f7⟩ := hff
  dsimp only at f1 f2 f3 f4 f5 f6
  have q64 : G.length < 64 := by omega
  obtain ⟨_, d, hd, ew, kdd, _⟩ := gm_fr_d A I hv (by decide)
  subst ew
  obtain ⟨k11, _, he', I'⟩ := gm_s_pair A I hd hv
  have ar1 : 1 < gp_ar (kd d) := by rw [kdd]; decide
  have ar0 : 0 < gp_ar (kd t) := by rw [k11]; decide
  have ar1' : 1 < gp_ar (kd t) := by rw [k11]; decide
  have d32 : d < 32 := by omega
  have mm := gm_m_c (m := 12) (e := e') ok hd (by decide) ar1 (by omega)
  have f5' : fA G.length = nI d := by rw [f5, if_neg (by decide)]
  have eg := hg d hd (Or.inr (Or.inl kdd))
  have c0 := hX t ht 0 ar0
  have c1 := hX t ht 1 ar1'
  have b1 := hX d hd 1 ar1
  have yc0 := hY t ht 0 ar0
  rw [Nat.add_zero] at yc0
  have yc1 := hY t ht 1 ar1'
  have y1 := hY d hd 1 ar1
  have R1 := gr_rr_p (d := gp_ch kd n t 0) (e1 := e) (e2 := e') (b := nI d) (g := a_gradeOfBinder d) R
  rcases Nat.lt_or_ge (rc + 1) rl with z | z
  · obtain ⟨o, u', v', hR, cX, cY⟩ := ih1 _ _ dr (rc + 1 + 1) G _ _ _ rn (nI t) (nI e - 1) (nI (kd t)) x7 fm fw fe _ _ _ _ _ _ _ _ _ _ _ _ fK fA fE I' z hdr (by omega) (gr_rr_p (d := gp_ch kd n t 1) (e1 := e) (e2 := rc + 1) (b := nI d) (g := a_gradeOfBinder d) R1) f7 (by omega)
    refine ⟨o, u', v', hR, fun post f step hf hs hp => ?_, fun post f step hf hs hp => ?_⟩
    · cases f with
      | zero => omega
      | succ f =>
      refine br_f (nI_ge (b := 20000) (by omega) (by decide)) (br_t rfl (br_f (by decide) ?_))
      refine gx_retN q64 f1 f2 f3 (Or.inr (Or.inr (Or.inl rfl))) (fun z => absurd z (by decide)) (fun z => absurd z (by decide)) (fun _ => ?_) (fun z => absurd z (by decide)) (fun z => absurd z (by decide))
      exact gx_en12 d32 t32 c0 c1 b1 hrc hrl (fun w => by omega) (fun w => by omega) (fun _ => nm_r (nI_1 step) (cX post f (step + 1) (by omega) (by omega) hp))
    · cases f with
      | zero => omega
      | succ f =>
      refine gy_r12 (by omega) q64 f5' f6 f4 t32 d32 yc0 yc1 y1 hrc hrl (fun w => by omega) (fun w => by omega) (fun _ => ?_)
      have go := cY post f (step + 1) (by omega) (by omega) hp
      rw [nI_pred, nI_pred] at go
      rw [eg]
      exact go
  · rcases Nat.lt_or_ge rc rl with y | y
    · refine ⟨8, _, _, hFin (nI t) (nI e) 1 rn (nI G.length) 8 0 (nI dr) (nI (rc + 1)) (nI (rc + 1)) (nI G.length) fm fw fe (upd tN (rc + 1) (nI (gp_ch kd n t 0))) (upd tE (rc + 1) (nI e)) (upd rE (rc + 1) (nI e')) (upd bo (rc + 1) (nI d)) (upd go (rc + 1) (a_gradeOfBinder d)) (upd co (rc + 1) 0) (upd rT rc (nI (gp_ch kd n t 0))) (upd yE rc (nI e - 1)) (upd rG rc (a_gradeOfBinder d)) (upd rN rc (nI d)) (upd rC rc 0) (upd rX rc (nI e' - 1)) fK fA fE (gr_rr_r R1 (by omega)), fun post f step hf hs hp => ?_, fun post f step hf hs hp => ?_⟩
      · cases f with
        | zero => omega
        | succ f =>
        cases f with
        | zero => omega
        | succ f =>
        refine br_f (nI_ge (b := 20000) (by omega) (by decide)) (br_t rfl (br_f (by decide) ?_))
        refine gx_retN q64 f1 f2 f3 (Or.inr (Or.inr (Or.inl rfl))) (fun z => absurd z (by decide)) (fun z => absurd z (by decide)) (fun _ => ?_) (fun z => absurd z (by decide)) (fun z => absurd z (by decide))
        exact gx_en12 d32 t32 c0 c1 b1 hrc hrl (fun w => by omega) (fun w => nm_r (nI_1 step) (gx_fin (by decide) hp)) (fun w => by omega)
      · cases f with
        | zero => omega
        | succ f =>
        refine gy_r12 (by omega) q64 f5' f6 f4 t32 d32 yc0 yc1 y1 hrc hrl (fun w => by omega) (fun w => ?_) (fun w => by omega)
        rw [eg]
        exact hp
    · refine ⟨8, _, _, hFin (nI t) (nI e) 1 rn (nI G.length) 8 0 (nI dr) (nI rc) (nI rc) (nI G.length) fm fw fe tN tE rE bo go co rT yE rG rN rC rX fK fA fE (gr_rr_r R (by omega)), fun post f step hf hs hp => ?_, fun post f step hf hs hp => ?_⟩
      · cases f with
        | zero => omega
        | succ f =>
        cases f with
        | zero => omega
        | succ f =>
        refine br_f (nI_ge (b := 20000) (by omega) (by decide)) (br_t rfl (br_f (by decide) ?_))
        refine gx_retN q64 f1 f2 f3 (Or.inr (Or.inr (Or.inl rfl))) (fun z => absurd z (by decide)) (fun z => absurd z (by decide)) (fun _ => ?_) (fun z => absurd z (by decide)) (fun z => absurd z (by decide))
        exact gx_en12 d32 t32 c0 c1 b1 hrc hrl (fun w => nm_r (nI_1 step) (gx_fin (by decide) hp)) (fun w => by omega) (fun w => by omega)
      · cases f with
        | zero => omega
        | succ f =>
        exact gy_r12 (by omega) q64 f5' f6 f4 t32 d32 yc0 yc1 y1 hrc hrl (fun w => hp) (fun w => by omega) (fun w => by omega)
end
end
section
section
variable {f_derefLimit f_recordLimit f_frameLimit f_nodeCount f_currentStatus f_faultNode f_typeCount f_currentNode f_currentEnv f_returning f_returnedNumber f_frameCount f_lastOutcome f_lastValue f_derefsMade f_recordsMade : Int32} {a_nodeKind a_nodeArg a_expectedPlaces a_nodeAtPlace a_placeOfNode a_variablesSeen a_nodeType a_gradeOfBinder a_variableType a_usage a_typeKind a_typeGrade a_typeLeft a_typeRight a_frameMark a_frameWord a_frameEnv a_thunkNode a_thunkEnv a_restOfEnv a_binderOfRecord a_gradeOfRecord a_countOfRecord : Nat → Int32} {f_dLim f_rLim f_fLim f_n f_stat f_err f_out f_vInt f_recs f_drf f_fsp : Int32} {a_kind a_arg a_ch a_par a_pos a_seen a_st a_ty a_tyK a_tyG a_tyA a_tyB a_u a_bg a_ux a_uy a_stk a_eqA a_eqB a_rT a_rE a_rG a_rN a_rC a_rX a_fK a_fA a_fE : Nat → Int32}
theorem gr_go {k n dl rl fl : Nat} {kd : Nat → Nat} (A : gm_A kd a_nodeArg n) (hK : ∀ i, i < n → a_nodeKind i = nI (kd i)) (hX : ∀ i, i < n → ∀ j, j < gp_ar (kd i) → a_nodeAtPlace (3 * i + j) = nI (gp_ch kd n i j)) (hY : ∀ i, i < n → ∀ j, j < gp_ar (kd i) → a_ch (3 * i + j) = nI (gp_ch kd n i j)) (hg : ∀ i, i < n → (kd i = 9 ∨ kd i = 12 ∨ kd i = 15 ∨ kd i = 17) → a_bg i = a_gradeOfBinder i) (hdl : dl ≤ 64) (hrl : rl ≤ 32) (hfl : fl ≤ 64) (hFin : ∀ (cn ce rt rn fc o lv dr' rm rs' fsp : Int32) (fm fw fe tN tE rE bo go co rT yE rG rN rC rX fK fA fE : Nat → Int32), gr_rec rm rs' bo go co rN rG rC → i_Rel k (nI dl, nI rl, nI fl, f_nodeCount, f_currentStatus, f_faultNode, f_typeCount, cn, ce, rt, rn, fc, o, lv, dr', rm, a_nodeKind, a_nodeArg, a_expectedPlaces, a_nodeAtPlace, a_placeOfNode, a_variablesSeen, a_nodeType, a_gradeOfBinder, a_variableType, a_usage, a_typeKind, a_typeGrade, a_typeLeft, a_typeRight, fm, fw, fe, tN, tE, rE, bo, go, co) (nI dl, nI rl, nI fl, f_n, f_stat, f_err, o, lv, rs', dr', fsp, a_nodeKind, a_nodeArg, a_ch, a_par, a_pos, a_seen, a_st, a_ty, a_tyK, a_tyG, a_tyA, a_tyB, a_u, a_bg, a_ux, a_uy, a_stk, a_eqA, a_eqB, rT, yE, rG, rN, rC, rX, fK, fA, fE)) : ∀ M, (∀ (t e dr rc : Nat) (F : gm_Fr) (tn te rs : Nat → Nat) (rn x4 x5 x6 x7 : Int32) (fm fw fe tN tE rE bo go co rT yE rG rN rC rX fK fA fE : Nat → Int32), gm_I kd a_nodeArg n tn te rs rc t e F → rc ≤ rl → dr ≤ dl → F.length ≤ fl → gr_rr rc tn te rs tN tE rE bo go co rT yE rG rN rC rX → gr_ff kd n fm fw fe fK fA fE F → 3 * gp_sz kd n t + gm_ps kd n F + 96 * (dl - dr) + 96 * (rl - rc) ≤ M → ∃ (o : Int32) (u' : SX) (v' : SY), i_Rel k u' v' ∧ (∀ (post : Int32 → SX → Prop) (f step : Nat), M + 2 ≤ f → step + M < 20000 → post o u' → wX_run_27 post f (nI step) (nI dl) (nI rl) (nI fl) f_nodeCount f_currentStatus f_faultNode f_typeCount (nI t) (nI e) 0 rn (nI F.length) 0 0 (nI dr) (nI rc) a_nodeKind a_nodeArg a_expectedPlaces a_nodeAtPlace a_placeOfNode a_variablesSeen a_nodeType a_gradeOfBinder a_variableType a_usage a_typeKind a_typeGrade a_typeLeft a_typeRight fm fw fe tN tE rE bo go co) ∧ (∀ (post : Int32 → SY → Prop) (f step : Nat), M + 2 ≤ f → step + M < 100000 → post o v' → wY_run_41 post f (nI t) (nI e - 1) 0 x4 x5 x6 x7 (nI step) (nI dl) (nI rl) (nI fl) f_n f_stat f_err 0 0 (nI rc) (nI dr) (nI F.length) a_nodeKind a_nodeArg a_ch a_par a_pos a_seen a_st a_ty a_tyK a_tyG a_tyA a_tyB a_u a_bg a_ux a_uy a_stk a_eqA a_eqB rT yE rG rN rC rX fK fA fE)) ∧ (∀ (t e dr rc : Nat) (F : gm_Fr) (tn te rs : Nat → Nat) (rn x1 x2 x7 : Int32) (fm fw fe tN tE rE bo go co rT yE rG rN rC rX fK fA fE : Nat → Int32), gm_I kd a_nodeArg n tn te rs rc t e F → rc ≤ rl → dr ≤ dl → F.length ≤ fl → gr_rr rc tn te rs tN tE rE bo go co rT yE rG rN rC rX → gr_ff kd n fm fw fe fK fA fE F → gm_vl (kd t) → (kd t = 7 → x7 = rn) → gm_ps kd n F + 96 * (dl - dr) + 96 * (rl - rc) ≤ M → ∃ (o : Int32) (u' : SX) (v' : SY), i_Rel k u' v' ∧ (∀ (post : Int32 → SX → Prop) (f step : Nat), M + 2 ≤ f → step + M < 20000 → post o u' → wX_run_27 post f (nI step) (nI dl) (nI rl) (nI fl) f_nodeCount f_currentStatus f_faultNode f_typeCount (nI t) (nI e) 1 rn (nI F.length) 0 0 (nI dr) (nI rc) a_nodeKind a_nodeArg a_expectedPlaces a_nodeAtPlace a_placeOfNode a_variablesSeen a_nodeType a_gradeOfBinder a_variableType a_usage a_typeKind a_typeGrade a_typeLeft a_typeRight fm fw fe tN tE rE bo go co) ∧ (∀ (post : Int32 → SY → Prop) (f step : Nat), M + 2 ≤ f → step + M < 100000 → post o v' → wY_run_41 post f x1 x2 1 (nI t) (nI e - 1) (nI (kd t)) x7 (nI step) (nI dl) (nI rl) (nI fl) f_n f_stat f_err 0 0 (nI rc) (nI dr) (nI F.length) a_nodeKind a_nodeArg a_ch a_par a_pos a_seen a_st a_ty a_tyK a_tyG a_tyA a_tyB a_u a_bg a_ux a_uy a_stk a_eqA a_eqB rT yE rG rN rC rX fK fA fE)) := by
  intro M
  induction M with
  | zero =>
    refine ⟨?_, ?_⟩
    · intro t e dr rc F tn te rs rn x4 x5 x6 x7 fm fw fe tN tE rE bo go co rT yE rG rN rC rX fK fA fE I hrc hdr hF R hff hM
      have := gp_sz_le A.1.1 I.1
      omega
    · intro t e dr rc F tn te rs rn x1 x2 x7 fm fw fe tN tE rE bo go co rT yE rG rN rC rX fK fA fE I hrc hdr hF R hff hv h7 hM
      cases F with
      | nil => exact gr_halt A hK hX hY hg hdl hrl hfl hFin rfl I hrc R hv h7
      | cons x G =>
        have := gm_pf_1 kd n x
        simp only [gm_ps] at hM
        omega
  | succ M ih =>
    obtain ⟨ih1, ih2⟩ := ih
    refine ⟨gr_ev A hK hX hY hg hdl hrl hfl hFin ih1 ih2, ?_⟩
    intro t e dr rc F tn te rs rn x1 x2 x7 fm fw fe tN tE rE bo go co rT yE rG rN rC rX fK fA fE I hrc hdr hF R hff hv h7 hM
    cases hFe : F with
    | nil =>
      subst hFe
      exact gr_halt A hK hX hY hg hdl hrl hfl hFin rfl I hrc R hv h7
    | cons x G =>
      subst hFe
      obtain ⟨m, w, e'⟩ := x
      by_cases m0 : m = 0
      · exact gr_add A hK hX hY hg hdl hrl hfl hFin ih1 ih2 rfl (Or.inl m0) I hrc hdr hF R hff hv h7 hM
      · obtain ⟨mg, _⟩ := gm_fr_d A I hv m0
        rcases mg with z | z | z | z | z
        · exact gr_add A hK hX hY hg hdl hrl hfl hFin ih1 ih2 rfl (Or.inr z) I hrc hdr hF R hff hv h7 hM
        · subst z; exact gr_app A hK hX hY hg hdl hrl hfl hFin ih1 rfl I hrc hdr hF R hff hv hM
        · subst z; exact gr_lpr A hK hX hY hg hdl hrl hfl hFin ih1 rfl I hrc hdr hF R hff hv hM
        · subst z; exact gr_cas A hK hX hY hg hdl hrl hfl hFin ih1 rfl I hrc hdr hF R hff hv hM
        · subst z; exact gr_lbx A hK hX hY hg hdl hrl hfl hFin ih1 rfl I hrc hdr hF R hff hv hM
end
theorem i_vc_run {k : Nat} {u : SX} {v : SY} (I : i_Rel k u v) (hk : k + 3 ≤ 1539) : wpX_run (fun r u' => wpY_run (fun r' v' => r' = r ∧ i_Rel (k + 3) u' v') v) u := by
  have J := I
  obtain ⟨f_derefLimit, f_recordLimit, f_frameLimit, f_nodeCount, f_currentStatus, f_faultNode, f_typeCount, f_currentNode, f_currentEnv, f_returning, f_returnedNumber, f_frameCount, f_lastOutcome, f_lastValue, f_derefsMade, f_recordsMade, a_nodeKind, a_nodeArg, a_expectedPlaces, a_nodeAtPlace, a_placeOfNode, a_variablesSeen, a_nodeType, a_gradeOfBinder, a_variableType, a_usage, a_typeKind, a_typeGrade, a_typeLeft, a_typeRight, a_frameMark, a_frameWord, a_frameEnv, a_thunkNode, a_thunkEnv, a_restOfEnv, a_binderOfRecord, a_gradeOfRecord, a_countOfRecord⟩ := u
  obtain ⟨f_dLim, f_rLim, f_fLim, f_n, f_stat, f_err, f_out, f_vInt, f_recs, f_drf, f_fsp, a_kind, a_arg, a_ch, a_par, a_pos, a_seen, a_st, a_ty, a_tyK, a_tyG, a_tyA, a_tyB, a_u, a_bg, a_ux, a_uy, a_stk, a_eqA, a_eqB, a_rT, a_rE, a_rG, a_rN, a_rC, a_rX, a_fK, a_fA, a_fE⟩ := v
  obtain ⟨⟨dl, d1, d2, d3, d4⟩, ⟨rl, l1, l2, l3, l4⟩, ⟨fl, f1, f2, f3, f4⟩, s, o, r, kd, n, ⟨p1, p2, p3, p4, p5, p6⟩, c⟩ := I
  have s0 := s
  obtain ⟨s1, s2, s3⟩ := s
  refine br_c (fun z => ?_) (fun z => br_f (by rw [s1]; exact z) ⟨rfl, J⟩)
  obtain ⟨tc, ctc, ⟨htc, A, S, TI⟩, ⟨hA', SY, TY⟩⟩ := c z
  subst p3 p4
  have c' := c
  have ok := A.1.1
  have hg : ∀ i, i < n → (kd i = 9 ∨ kd i = 12 ∨ kd i = 15 ∨ kd i = 17) → a_bg i = a_gradeOfBinder i := fun i hi hb => by
    rw [(TI.2 i hi).2.2.2 hb]
    exact ((TY.2.2 i ⟨hi, by omega⟩).2.2.2.2.1 hb).1
  subst d3 d4 l3 l4 f3 f4
  have hFin : ∀ (cn ce rt rn fc o lv dr' rm rs' fsp : Int32) (fm fw fe tN tE rE bo go co rT yE rG rN rC rX fK fA fE : Nat → Int32), gr_rec rm rs' bo go co rN rG rC → i_Rel (k + 3) (nI dl, nI rl, nI fl, f_nodeCount, f_currentStatus, f_faultNode, f_typeCount, cn, ce, rt, rn, fc, o, lv, dr', rm, a_kind, a_arg, a_expectedPlaces, a_nodeAtPlace, a_placeOfNode, a_variablesSeen, a_nodeType, a_gradeOfBinder, a_variableType, a_usage, a_typeKind, a_typeGrade, a_typeLeft, a_typeRight, fm, fw, fe, tN, tE, rE, bo, go, co) (nI dl, nI rl, nI fl, f_n, f_stat, f_err, o, lv, rs', dr', fsp, a_kind, a_arg, a_ch, a_par, a_pos, a_seen, a_st, a_ty, a_tyK, a_tyG, a_tyA, a_tyB, a_u, a_bg, a_ux, a_uy, a_stk, a_eqA, a_eqB, rT, yE, rG, rN, rC, rX, fK, fA, fE) := by
    intro cn ce rt rn fc o lv dr' rm rs' fsp fm fw fe tN tE rE bo go co rT yE rG rN rC rX fK fA fE hr
    exact ⟨⟨dl, d1, d2, rfl, rfl⟩, ⟨rl, l1, l2, rfl, rfl⟩, ⟨fl, f1, f2, rfl, rfl⟩, s0, ⟨rfl, rfl, rfl⟩, hr, kd, n, ⟨p1, p2, rfl, rfl, p5, p6⟩, c'⟩
  have sz := gp_sz_le ok ok.1
  obtain ⟨ox, u', v', hR, cX, cY⟩ := (gr_go A p6 S.2.2 SY.2.2.2.1 hg d2 l2 f2 hFin (96 + 96 * dl + 96 * rl)).1 0 0 0 0 [] (fun _ => 0) (fun _ => 0) (fun _ => 0) f_returnedNumber 0 (-1) 7 0 a_frameMark a_frameWord a_frameEnv a_thunkNode a_thunkEnv a_restOfEnv a_binderOfRecord a_gradeOfRecord a_countOfRecord a_rT a_rE a_rG a_rN a_rC a_rX a_fK a_fA a_fE (gm_I_0 A) (by omega) (by omega) (by simp) (fun r a b => by omega) trivial (by simp only [gm_ps]; omega)
  refine ⟨96 + 96 * dl + 96 * rl + 2, cX _ _ 0 (Nat.le_refl _) (by omega) ?_⟩
  refine br_t (by rw [s1]; exact z) ⟨96 + 96 * dl + 96 * rl + 2, cY _ _ 0 (Nat.le_refl _) (by omega) ⟨rfl, hR⟩⟩
end

def gp_ar (k : Nat) : Nat := if k = 1 ∨ k = 6 ∨ k = 7 then 0 else if k = 5 ∨ k = 16 then 1 else if k = 15 then 3 else 2
def gp_bd (k j : Nat) : Nat := if j = 0 then 0 else if k = 12 then 2 else if k = 9 ∨ k = 15 ∨ k = 17 then 1 else 0
def gp_srt (k : Nat) : Nat := if k ≤ 5 then 0 else 1
def gp_cs (k j : Nat) : Nat := if k ≤ 5 then 0 else if (k = 9 ∨ k = 13 ∨ k = 14) ∧ j = 0 then 0 else 1
theorem gp_ar_le (k : Nat) : gp_ar k ≤ 3 := by
  unfold gp_ar
  split
  · omega
  · split
    · omega
    · split <;> omega
theorem gp_bd_0 (k : Nat) : gp_bd k 0 = 0 := by simp [gp_bd]
theorem gp_bd_le (k j : Nat) : gp_bd k j ≤ 2 := by
  unfold gp_bd
  split
  · omega
  · split
    · omega
    · split <;> omega
/-- m places of node i, from slot j on -/
def gp_kf (i : Nat) : Nat → Nat → List Nat
  | _, 0 => []
  | j, m + 1 => (3 * i + j) :: gp_kf i (j + 1) m
theorem gp_kf_len (i : Nat) : ∀ m j, (gp_kf i j m).length = m
  | 0, _ => rfl
  | m + 1, j => by simp [gp_kf, gp_kf_len i m]
theorem gp_kf_mem (i : Nat) : ∀ m j q, q ∈ gp_kf i j m → ∃ l, j ≤ l ∧ l < j + m ∧ q = 3 * i + l
  | 0, _, q, h => by simp [gp_kf] at h
  | m + 1, j, q, h => by
    simp only [gp_kf, List.mem_cons] at h
    rcases h with h | h
    · exact ⟨j, by omega, by omega, h⟩
    · obtain ⟨l, h1, h2, h3⟩ := gp_kf_mem i m (j + 1) q h
      exact ⟨l, by omega, by omega, h3⟩
/-- the expected places, the first one at the head -/
def gp_S (kd : Nat → Nat) : Nat → List Nat
  | 0 => [96]
  | i + 1 => gp_kf i 0 (gp_ar (kd i)) ++ (gp_S kd i).tail
theorem gp_S_s (kd : Nat → Nat) (i : Nat) : gp_S kd (i + 1) = gp_kf i 0 (gp_ar (kd i)) ++ (gp_S kd i).tail := rfl
def gp_pl (kd : Nat → Nat) (i : Nat) : Nat := (gp_S kd i).headD 0
def gp_nd : List Nat → Prop
  | [] => True
  | q :: R => q ∉ R ∧ gp_nd R
theorem gp_nd_kf (i : Nat) {R : List Nat} (h : gp_nd R) (hq : ∀ q, q ∈ R → q < 3 * i ∨ 3 * i + 3 ≤ q) : ∀ m j, j + m ≤ 3 → gp_nd (gp_kf i j m ++ R)
  | 0, _, _ => h
  | m + 1, j, hj => by
    refine ⟨?_, gp_nd_kf i h hq m (j + 1) (by omega)⟩
    intro z
    rcases List.mem_append.mp z with z | z
    · obtain ⟨l, h1, h2, h3⟩ := gp_kf_mem i m (j + 1) _ z
      omega
    · have := hq _ z
      omega
theorem gp_nd_tail {l : List Nat} (h : gp_nd l) : gp_nd l.tail := by
  cases l with
  | nil => exact h
  | cons a l => exact h.2
theorem gp_S_in (kd : Nat → Nat) : ∀ i, i ≤ 32 → (∀ q, q ∈ gp_S kd i → (i = 0 ∧ q = 96) ∨ (q / 3 < i ∧ q % 3 < gp_ar (kd (q / 3)))) ∧ gp_nd (gp_S kd i)
  | 0, _ => ⟨fun q h => by simp [gp_S] at h; exact Or.inl ⟨rfl, h⟩, by simp [gp_S, gp_nd]⟩
  | i + 1, hi => by
    obtain ⟨h1, h2⟩ := gp_S_in kd i (by omega)
    have h3 := gp_ar_le (kd i)
    have hR : ∀ q, q ∈ (gp_S kd i).tail → q / 3 < i ∧ q % 3 < gp_ar (kd (q / 3)) := by
      intro q hq
      rcases h1 q (List.mem_of_mem_tail hq) with ⟨rfl, _⟩ | z
      · simp [gp_S] at hq
      · exact z
    refine ⟨fun q hq => Or.inr ?_, gp_nd_kf i (gp_nd_tail h2) (fun q hq => by have := (hR q hq).1; omega) _ 0 (by omega)⟩
    rw [gp_S_s] at hq
    rcases List.mem_append.mp hq with z | z
    · obtain ⟨l, _, l2, rfl⟩ := gp_kf_mem i _ 0 _ z
      have e1 : (3 * i + l) / 3 = i := by omega
      have e2 : (3 * i + l) % 3 = l := by omega
      rw [e1, e2]
      exact ⟨by omega, by omega⟩
    · have := hR q z
      exact ⟨by omega, this.2⟩
theorem gp_S_len (kd : Nat → Nat) : ∀ i, (gp_S kd i).length ≤ 2 * i + 1
  | 0 => by simp [gp_S]
  | i + 1 => by
    have := gp_S_len kd i
    have h3 := gp_ar_le (kd i)
    rw [gp_S_s, List.length_append, gp_kf_len, List.length_tail]
    omega
/-- the program of n nodes is one tree -/
def gp_ok (kd : Nat → Nat) (n : Nat) : Prop := 0 < n ∧ n ≤ 32 ∧ (∀ i, i < n → gp_S kd i ≠ []) ∧ gp_S kd n = []
theorem gp_cons {kd : Nat → Nat} {n i : Nat} (h : gp_ok kd n) (hi : i < n) : gp_S kd i = gp_pl kd i :: (gp_S kd i).tail := by
  unfold gp_pl
  have := h.2.2.1 i hi
  cases e : gp_S kd i with
  | nil => exact absurd e this
  | cons a l => rfl
theorem gp_pl_0 (kd : Nat → Nat) : gp_pl kd 0 = 96 := rfl
theorem gp_pl_in {kd : Nat → Nat} {n i : Nat} (h : gp_ok kd n) (hi : i < n) (h0 : 0 < i) : gp_pl kd i / 3 < i ∧ gp_pl kd i % 3 < gp_ar (kd (gp_pl kd i / 3)) := by
  have hm : gp_pl kd i ∈ gp_S kd i := by rw [gp_cons h hi]; exact List.mem_cons_self
  have hn := h.2.1
  rcases (gp_S_in kd i (by omega)).1 _ hm with z | z
  · omega
  · exact z
/-- the end of a subtree: need places are awaited, from node m on -/
def gp_se (kd : Nat → Nat) : Nat → Nat → Nat → Nat
  | 0, _, m => m
  | f + 1, need, m => if need + gp_ar (kd m) = 1 then m + 1 else gp_se kd f (need + gp_ar (kd m) - 1) (m + 1)
def gp_en (kd : Nat → Nat) (n t : Nat) : Nat := gp_se kd (n - t) 1 t
theorem gp_se_sp {kd : Nat → Nat} {n : Nat} (h : gp_ok kd n) (R : List Nat) : ∀ f need m A, m + f = n → gp_S kd m = A ++ R → A.length = need → 0 < need →
    m < gp_se kd f need m ∧ gp_se kd f need m ≤ n ∧ gp_S kd (gp_se kd f need m) = R ∧ ∀ i, m < i → i < gp_se kd f need m → ∃ b B, gp_S kd i = b :: (B ++ R)
  | 0, need, m, A, hm, hS, hA, hn => by
    have e : m = n := by omega
    rw [e, h.2.2.2] at hS
    have := (List.append_eq_nil_iff.mp hS.symm).1
    rw [this] at hA
    simp at hA
    omega
  | f + 1, need, m, A, hm, hS, hA, hn => by
    cases A with
    | nil => simp at hA; omega
    | cons a A =>
      have hS1 : gp_S kd (m + 1) = (gp_kf m 0 (gp_ar (kd m)) ++ A) ++ R := by
        rw [gp_S_s, hS, List.append_assoc]; rfl
      simp only [List.length_cons] at hA
      unfold gp_se
      by_cases z : need + gp_ar (kd m) = 1
      · rw [if_pos z]
        have hl : (gp_kf m 0 (gp_ar (kd m)) ++ A).length = 0 := by rw [List.length_append, gp_kf_len]; omega
        rw [List.length_eq_zero_iff.mp hl] at hS1
        exact ⟨by omega, by omega, hS1, fun i h1 h2 => by omega⟩
      · rw [if_neg z]
        obtain ⟨a1, a2, a3, a4⟩ := gp_se_sp h R f (need + gp_ar (kd m) - 1) (m + 1) _ (by omega) hS1 (by rw [List.length_append, gp_kf_len]; omega) (by omega)
        refine ⟨by omega, a2, a3, fun i h1 h2 => ?_⟩
        by_cases e : i = m + 1
        · subst e
          cases e2 : gp_kf m 0 (gp_ar (kd m)) ++ A with
          | nil =>
            have : (gp_kf m 0 (gp_ar (kd m)) ++ A).length = 0 := by rw [e2]; rfl
            rw [List.length_append, gp_kf_len] at this
            omega
          | cons b B => exact ⟨b, B, by rw [hS1, e2]; rfl⟩
        · exact a4 i (by omega) h2
def gp_En (kd : Nat → Nat) (n t e : Nat) : Prop := t < e ∧ e ≤ n ∧ gp_S kd e = (gp_S kd t).tail ∧ ∀ i, t < i → i < e → ∃ b B, gp_S kd i = b :: (B ++ (gp_S kd t).tail)
theorem gp_en_sp {kd : Nat → Nat} {n t : Nat} (h : gp_ok kd n) (ht : t < n) : gp_En kd n t (gp_en kd n t) :=
  gp_se_sp h (gp_S kd t).tail (n - t) 1 t [gp_pl kd t] (by omega) (gp_cons h ht) rfl (by omega)
theorem gp_En_u {kd : Nat → Nat} {n t e e' : Nat} (h1 : gp_En kd n t e) (h2 : gp_En kd n t e') : e = e' := by
  have key : ∀ {e e' : Nat}, gp_En kd n t e → gp_En kd n t e' → ¬ e < e' := by
    intro e e' h1 h2 hl
    obtain ⟨b, B, z⟩ := h2.2.2.2 e h1.1 hl
    rw [h1.2.2.1] at z
    have := congrArg List.length z
    simp at this
    omega
  have a := key h1 h2
  have b := key h2 h1
  omega
/-- the j-th child -/
def gp_ch (kd : Nat → Nat) (n t : Nat) : Nat → Nat
  | 0 => t + 1
  | j + 1 => gp_en kd n (gp_ch kd n t j)
theorem gp_ch_sp {kd : Nat → Nat} {n t : Nat} (h : gp_ok kd n) (ht : t < n) : ∀ j, j ≤ gp_ar (kd t) → t + 1 + j ≤ gp_ch kd n t j ∧ gp_ch kd n t j ≤ n ∧
    gp_S kd (gp_ch kd n t j) = gp_kf t j (gp_ar (kd t) - j) ++ (gp_S kd t).tail ∧ ∀ i, t < i → i < gp_ch kd n t j → ∃ b B, gp_S kd i = b :: (B ++ (gp_S kd t).tail)
  | 0, _ => ⟨by simp only [gp_ch]; omega, by simp only [gp_ch]; omega, gp_S_s kd t, fun i h1 h2 => by simp only [gp_ch] at h2; omega⟩
  | j + 1, hj => by
    obtain ⟨a1, a2, a3, a4⟩ := gp_ch_sp h ht j (by omega)
    have e : gp_ar (kd t) - j = (gp_ar (kd t) - (j + 1)) + 1 := by omega
    rw [e] at a3
    simp only [gp_kf, List.cons_append] at a3
    have hc : gp_ch kd n t j < n := by
      rcases Nat.lt_or_ge (gp_ch kd n t j) n with z | z
      · exact z
      · have : gp_ch kd n t j = n := by omega
        rw [this, h.2.2.2] at a3
        exact absurd a3.symm (List.cons_ne_nil _ _)
    obtain ⟨b1, b2, b3, b4⟩ := gp_en_sp h hc
    rw [a3] at b3 b4
    simp only [List.tail_cons] at b3 b4
    refine ⟨by simp only [gp_ch]; omega, b2, b3, fun i h1 h2 => ?_⟩
    simp only [gp_ch] at h2
    rcases Nat.lt_trichotomy i (gp_ch kd n t j) with z | z | z
    · exact a4 i h1 z
    · rw [z, a3]
      exact ⟨_, _, rfl⟩
    · obtain ⟨b, B, e⟩ := b4 i z h2
      exact ⟨b, B ++ gp_kf t (j + 1) (gp_ar (kd t) - (j + 1)), by rw [e, List.append_assoc]⟩
theorem gp_ch_lt {kd : Nat → Nat} {n t j : Nat} (h : gp_ok kd n) (ht : t < n) (hj : j < gp_ar (kd t)) : gp_ch kd n t j < n ∧ gp_pl kd (gp_ch kd n t j) = 3 * t + j := by
  obtain ⟨a1, a2, a3, a4⟩ := gp_ch_sp h ht j (by omega)
  have e : gp_ar (kd t) - j = (gp_ar (kd t) - (j + 1)) + 1 := by omega
  rw [e] at a3
  simp only [gp_kf, List.cons_append] at a3
  refine ⟨?_, by unfold gp_pl; rw [a3]; rfl⟩
  rcases Nat.lt_or_ge (gp_ch kd n t j) n with z | z
  · exact z
  · have : gp_ch kd n t j = n := by omega
    rw [this, h.2.2.2] at a3
    exact absurd a3.symm (List.cons_ne_nil _ _)
theorem gp_ch_ge {kd : Nat → Nat} {n t j : Nat} (h : gp_ok kd n) (ht : t < n) (hj : j ≤ gp_ar (kd t)) : t + 1 + j ≤ gp_ch kd n t j := (gp_ch_sp h ht j hj).1
theorem gp_en_ch {kd : Nat → Nat} {n t : Nat} (h : gp_ok kd n) (ht : t < n) : gp_en kd n t = gp_ch kd n t (gp_ar (kd t)) := by
  obtain ⟨a1, a2, a3, a4⟩ := gp_ch_sp h ht (gp_ar (kd t)) (Nat.le_refl _)
  refine gp_En_u (gp_en_sp h ht) ⟨by omega, a2, ?_, a4⟩
  rw [a3, Nat.sub_self]; rfl
theorem gp_ch_s (kd : Nat → Nat) (n t j : Nat) : gp_ch kd n t (j + 1) = gp_en kd n (gp_ch kd n t j) := rfl
theorem gp_en_0 {kd : Nat → Nat} {n : Nat} (h : gp_ok kd n) : gp_en kd n 0 = n := by
  have a := gp_en_sp h h.1
  refine gp_En_u a ⟨h.1, Nat.le_refl _, by rw [h.2.2.2]; rfl, fun i h1 h2 => ⟨gp_pl kd i, (gp_S kd i).tail, ?_⟩⟩
  show _ = _ :: (_ ++ [])
  rw [List.append_nil]
  exact gp_cons h h2
theorem gp_out {kd : Nat → Nat} {n c : Nat} (h : gp_ok kd n) (hc : c < n) : ∀ d, c + 1 + d ≤ n → gp_pl kd c ∉ gp_S kd (c + 1 + d) := by
  have hn := h.2.1
  have hp : (c = 0 ∧ gp_pl kd c = 96) ∨ gp_pl kd c / 3 < c := by
    rcases Nat.eq_zero_or_pos c with z | z
    · subst z; exact Or.inl ⟨rfl, rfl⟩
    · exact Or.inr (gp_pl_in h hc z).1
  have key : ∀ m, c ≤ m → m < n → gp_pl kd c ∉ (gp_S kd m).tail → gp_pl kd c ∉ gp_S kd (m + 1) := by
    intro m h1 h2 h3 h4
    rw [gp_S_s] at h4
    rcases List.mem_append.mp h4 with z | z
    · obtain ⟨l, _, l2, e⟩ := gp_kf_mem m _ 0 _ z
      have := gp_ar_le (kd m)
      omega
    · exact h3 z
  intro d
  induction d with
  | zero =>
    intro _
    refine key c (Nat.le_refl _) hc ?_
    have := (gp_S_in kd c (by omega)).2
    rw [gp_cons h hc] at this
    exact this.1
  | succ d ih =>
    intro hd
    exact key (c + 1 + d) (by omega) (by omega) (fun z => ih (by omega) (List.mem_of_mem_tail z))
theorem gp_pl_inj {kd : Nat → Nat} {n c c' : Nat} (h : gp_ok kd n) (hc : c < n) (hc' : c' < n) (e : gp_pl kd c = gp_pl kd c') : c = c' := by
  have key : ∀ {c c' : Nat}, c < n → c' < n → gp_pl kd c = gp_pl kd c' → ¬ c < c' := by
    intro c c' h1 h2 e hl
    refine gp_out h h1 (c' - c - 1) (by omega) ?_
    have e2 : c + 1 + (c' - c - 1) = c' := by omega
    rw [e2, e, gp_cons h h2]
    exact List.mem_cons_self
  have a := key hc hc' e
  have b := key hc' hc e.symm
  omega
theorem gp_ch_of {kd : Nat → Nat} {n c : Nat} (h : gp_ok kd n) (hc : c < n) (h0 : 0 < c) : c = gp_ch kd n (gp_pl kd c / 3) (gp_pl kd c % 3) := by
  obtain ⟨a, b⟩ := gp_pl_in h hc h0
  obtain ⟨d, e⟩ := gp_ch_lt h (by omega) b
  refine gp_pl_inj h hc d ?_
  rw [e]
  omega
theorem gp_ch_inj {kd : Nat → Nat} {n t j t' j' : Nat} (h : gp_ok kd n) (ht : t < n) (hj : j < gp_ar (kd t)) (ht' : t' < n) (hj' : j' < gp_ar (kd t')) (e : gp_ch kd n t j = gp_ch kd n t' j') : t = t' ∧ j = j' := by
  have a := (gp_ch_lt h ht hj).2
  have b := (gp_ch_lt h ht' hj').2
  have c := gp_ar_le (kd t)
  have d := gp_ar_le (kd t')
  rw [e] at a
  omega
/-- how many variables a node sees -/
def gp_sf (kd : Nat → Nat) : Nat → Nat → Nat
  | 0, _ => 0
  | f + 1, c => if c = 0 then 0 else gp_sf kd f (gp_pl kd c / 3) + gp_bd (kd (gp_pl kd c / 3)) (gp_pl kd c % 3)
def gp_sn (kd : Nat → Nat) (c : Nat) : Nat := gp_sf kd (c + 1) c
theorem gp_sf_f {kd : Nat → Nat} {n : Nat} (h : gp_ok kd n) : ∀ f g c, c < n → c < f → c < g → gp_sf kd f c = gp_sf kd g c
  | 0, _, _, _, h1, _ => by omega
  | _, 0, _, _, _, h2 => by omega
  | f + 1, g + 1, c, hc, h1, h2 => by
    simp only [gp_sf]
    by_cases z : c = 0
    · rw [if_pos z, if_pos z]
    · rw [if_neg z, if_neg z]
      have := (gp_pl_in h hc (by omega)).1
      rw [gp_sf_f h f g _ (by omega) (by omega) (by omega)]
theorem gp_sn_0 (kd : Nat → Nat) : gp_sn kd 0 = 0 := rfl
theorem gp_sn_p {kd : Nat → Nat} {n c : Nat} (h : gp_ok kd n) (hc : c < n) (h0 : 0 < c) : gp_sn kd c = gp_sn kd (gp_pl kd c / 3) + gp_bd (kd (gp_pl kd c / 3)) (gp_pl kd c % 3) := by
  have := (gp_pl_in h hc h0).1
  unfold gp_sn
  rw [gp_sf_f h (gp_pl kd c / 3 + 1) c (gp_pl kd c / 3) (by omega) (by omega) (by omega)]
  show (if c = 0 then 0 else _) = _
  rw [if_neg (by omega)]
theorem gp_sn_ch {kd : Nat → Nat} {n t j : Nat} (h : gp_ok kd n) (ht : t < n) (hj : j < gp_ar (kd t)) : gp_sn kd (gp_ch kd n t j) = gp_sn kd t + gp_bd (kd t) j := by
  obtain ⟨a, b⟩ := gp_ch_lt h ht hj
  have c := gp_ch_ge h ht (Nat.le_of_lt hj)
  have d := gp_ar_le (kd t)
  have e1 : (3 * t + j) / 3 = t := by omega
  have e2 : (3 * t + j) % 3 = j := by omega
  rw [gp_sn_p h a (by omega), b, e1, e2]
theorem gp_sn_le {kd : Nat → Nat} {n : Nat} (h : gp_ok kd n) : ∀ m c, c < m → c < n → gp_sn kd c ≤ c
  | 0, _, z, _ => by omega
  | m + 1, c, hm, hc => by
    rcases Nat.eq_zero_or_pos c with z | z
    · subst z; rw [gp_sn_0]; omega
    · obtain ⟨a, b⟩ := gp_pl_in h hc z
      have e := gp_ch_of h hc z
      have g := gp_ch_ge h (t := gp_pl kd c / 3) (j := gp_pl kd c % 3) (by omega) (by omega)
      have i := gp_sn_le h m (gp_pl kd c / 3) (by omega) (by omega)
      rw [gp_sn_p h hc z]
      rcases Nat.eq_zero_or_pos (gp_pl kd c % 3) with y | y
      · rw [y, gp_bd_0]; omega
      · have := gp_bd_le (kd (gp_pl kd c / 3)) (gp_pl kd c % 3)
        omega
theorem gp_sn_lt {kd : Nat → Nat} {n c : Nat} (h : gp_ok kd n) (hc : c < n) : gp_sn kd c ≤ c := gp_sn_le h (c + 1) c (by omega) hc
theorem gp_en_lt {kd : Nat → Nat} {n t : Nat} (h : gp_ok kd n) (ht : t < n) : t < gp_en kd n t ∧ gp_en kd n t ≤ n := ⟨(gp_en_sp h ht).1, (gp_en_sp h ht).2.1⟩
/-- sorts fit -/
def gp_so (kd : Nat → Nat) (n : Nat) : Prop := gp_srt (kd 0) = 1 ∧ ∀ c, 0 < c → c < n → gp_srt (kd c) = gp_cs (kd (gp_pl kd c / 3)) (gp_pl kd c % 3)
theorem gp_so_ch {kd : Nat → Nat} {n t j : Nat} (h : gp_ok kd n) (hs : gp_so kd n) (ht : t < n) (hj : j < gp_ar (kd t)) : gp_srt (kd (gp_ch kd n t j)) = gp_cs (kd t) j := by
  obtain ⟨a, b⟩ := gp_ch_lt h ht hj
  have c := gp_ch_ge h ht (Nat.le_of_lt hj)
  have d := gp_ar_le (kd t)
  have e1 : (3 * t + j) / 3 = t := by omega
  have e2 : (3 * t + j) % 3 = j := by omega
  rw [hs.2 _ (by omega) a, b, e1, e2]

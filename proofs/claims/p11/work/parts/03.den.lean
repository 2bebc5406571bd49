/-! types as functions from paths to labels, over a table -/
abbrev gd_Tb : Type := (Nat → Int32) × (Nat → Int32) × (Nat → Int32) × (Nat → Int32)
def gd_den (T : gd_Tb) : List Bool → Nat → Option (Int32 × Int32)
  | [], x => some (T.1 x, T.2.1 x)
  | b :: p, x => if T.1 x = 1 then none else if b = true then (if T.1 x = 5 then none else gd_den T p (T.2.2.2 x).toNatClampNeg) else gd_den T p (T.2.2.1 x).toNatClampNeg
def gd_D (T : gd_Tb) (x : Nat) : List Bool → Option (Int32 × Int32) := fun p => gd_den T p x
def gd_L (T : gd_Tb) (x : Nat) : Nat := (T.2.2.1 x).toNatClampNeg
def gd_R (T : gd_Tb) (x : Nat) : Nat := (T.2.2.2 x).toNatClampNeg
theorem gd_0 {T : gd_Tb} {x : Nat} : gd_D T x [] = some (T.1 x, T.2.1 x) := rfl
theorem gd_1 {T : gd_Tb} {x : Nat} {b : Bool} {p : List Bool} (h : T.1 x = 1) : gd_D T x (b :: p) = none := by
  show gd_den T (b :: p) x = none
  simp only [gd_den, if_pos h]
theorem gd_f {T : gd_Tb} {x : Nat} {p : List Bool} (h : ¬ T.1 x = 1) : gd_D T x (false :: p) = gd_D T (gd_L T x) p := by
  show gd_den T (false :: p) x = _
  simp only [gd_den, if_neg h]
  rfl
theorem gd_t {T : gd_Tb} {x : Nat} {p : List Bool} (h : ¬ T.1 x = 1) (h5 : ¬ T.1 x = 5) : gd_D T x (true :: p) = gd_D T (gd_R T x) p := by
  show gd_den T (true :: p) x = _
  simp only [gd_den, if_neg h, if_neg h5]
  rfl
theorem gd_5 {T : gd_Tb} {x : Nat} {p : List Bool} (h5 : T.1 x = 5) : gd_D T x (true :: p) = none := by
  show gd_den T (true :: p) x = _
  have h : ¬ T.1 x = 1 := by rw [h5]; decide
  simp only [gd_den, if_neg h, if_pos h5]
  rfl
theorem gd_lab {T T' : gd_Tb} {x y : Nat} (h : gd_D T x = gd_D T' y) : T.1 x = T'.1 y ∧ T.2.1 x = T'.2.1 y := by
  have e := congrFun h []
  rw [gd_0, gd_0] at e
  have := Option.some.inj e
  exact ⟨congrArg Prod.fst this, congrArg Prod.snd this⟩
theorem gd_left {T T' : gd_Tb} {x y : Nat} (h : gd_D T x = gd_D T' y) (h1 : ¬ T.1 x = 1) : gd_D T (gd_L T x) = gd_D T' (gd_L T' y) := by
  funext p
  have e := congrFun h (false :: p)
  rw [gd_f h1, gd_f (by rw [← (gd_lab h).1]; exact h1)] at e
  exact e
theorem gd_right {T T' : gd_Tb} {x y : Nat} (h : gd_D T x = gd_D T' y) (h1 : ¬ T.1 x = 1) (h5 : ¬ T.1 x = 5) : gd_D T (gd_R T x) = gd_D T' (gd_R T' y) := by
  funext p
  have e := congrFun h (true :: p)
  rw [gd_t h1 h5, gd_t (by rw [← (gd_lab h).1]; exact h1) (by rw [← (gd_lab h).1]; exact h5)] at e
  exact e
theorem gd_mk {T T' : gd_Tb} {x y : Nat} (hk : T.1 x = T'.1 y) (hg : T.2.1 x = T'.2.1 y) (hl : ¬ T.1 x = 1 → gd_D T (gd_L T x) = gd_D T' (gd_L T' y))
    (hr : ¬ T.1 x = 1 → ¬ T.1 x = 5 → gd_D T (gd_R T x) = gd_D T' (gd_R T' y)) : gd_D T x = gd_D T' y := by
  funext p
  cases p with
  | nil => rw [gd_0, gd_0, hk, hg]
  | cons b p =>
    by_cases h1 : T.1 x = 1
    · rw [gd_1 h1, gd_1 (by rw [← hk]; exact h1)]
    · cases b with
      | false => rw [gd_f h1, gd_f (by rw [← hk]; exact h1), hl h1]
      | true =>
        by_cases h5 : T.1 x = 5
        · rw [gd_5 h5, gd_5 (by rw [← hk]; exact h5)]
        · rw [gd_t h1 h5, gd_t (by rw [← hk]; exact h1) (by rw [← hk]; exact h5), hr h1 h5]
/-- a set of entries that is closed under parts -/
def gd_cl (T : gd_Tb) (C : Nat → Prop) : Prop := ∀ x, C x → (¬ T.1 x = 1 → C (gd_L T x)) ∧ (¬ T.1 x = 1 → ¬ T.1 x = 5 → C (gd_R T x))
theorem gd_same {T T' : gd_Tb} {C : Nat → Prop} (hC : gd_cl T C) (hs : ∀ x, C x → T'.1 x = T.1 x ∧ T'.2.1 x = T.2.1 x ∧ T'.2.2.1 x = T.2.2.1 x ∧ T'.2.2.2 x = T.2.2.2 x) : ∀ x, C x → gd_D T' x = gd_D T x := by
  have key : ∀ p x, C x → gd_D T' x p = gd_D T x p := by
    intro p
    induction p with
    | nil =>
      intro x hx
      rw [gd_0, gd_0, (hs x hx).1, (hs x hx).2.1]
    | cons b p ih =>
      intro x hx
      obtain ⟨s1, s2, s3, s4⟩ := hs x hx
      have eL : gd_L T' x = gd_L T x := by unfold gd_L; rw [s3]
      have eR : gd_R T' x = gd_R T x := by unfold gd_R; rw [s4]
      by_cases h1 : T.1 x = 1
      · rw [gd_1 h1, gd_1 (by rw [s1]; exact h1)]
      · cases b with
        | false => rw [gd_f h1, gd_f (by rw [s1]; exact h1), eL]; exact ih _ ((hC x hx).1 h1)
        | true =>
          by_cases h5 : T.1 x = 5
          · rw [gd_5 h5, gd_5 (by rw [s1]; exact h5)]
          · rw [gd_t h1 h5, gd_t (by rw [s1]; exact h1) (by rw [s1]; exact h5), eR]; exact ih _ ((hC x hx).2 h1 h5)
  exact fun x hx => funext fun p => key p x hx
/-- an entry of the component's table: parts below it, cells it has no use for hold 0 -/
def gd_xe (T : gd_Tb) (i : Nat) : Prop :=
  (¬ T.1 i = 1 → ∃ a, a < i ∧ T.2.2.1 i = nI a) ∧ (¬ T.1 i = 1 → ¬ T.1 i = 5 → ∃ b, b < i ∧ T.2.2.2 i = nI b) ∧
  (T.1 i = 1 → T.2.2.1 i = 0 ∧ T.2.2.2 i = 0) ∧ (T.1 i = 5 → T.2.2.2 i = 0)
/-- the component's table: tc entries, no two alike -/
def gd_xt (T : gd_Tb) (tc : Nat) : Prop := tc < 2 ^ 31 ∧ (∀ i, i < tc → gd_xe T i) ∧
  ∀ i j, i < tc → j < tc → T.1 i = T.1 j → T.2.1 i = T.2.1 j → T.2.2.1 i = T.2.2.1 j → T.2.2.2 i = T.2.2.2 j → i = j
theorem gd_xL {T : gd_Tb} {i : Nat} (hi : i < 2 ^ 31) (h : gd_xe T i) (h1 : ¬ T.1 i = 1) : gd_L T i < i ∧ T.2.2.1 i = nI (gd_L T i) := by
  obtain ⟨a, ha, e⟩ := h.1 h1
  have : gd_L T i = a := by unfold gd_L; rw [e]; exact nI_clamp (by omega)
  rw [this]; exact ⟨ha, e⟩
theorem gd_xR {T : gd_Tb} {i : Nat} (hi : i < 2 ^ 31) (h : gd_xe T i) (h1 : ¬ T.1 i = 1) (h5 : ¬ T.1 i = 5) : gd_R T i < i ∧ T.2.2.2 i = nI (gd_R T i) := by
  obtain ⟨a, ha, e⟩ := h.2.1 h1 h5
  have : gd_R T i = a := by unfold gd_R; rw [e]; exact nI_clamp (by omega)
  rw [this]; exact ⟨ha, e⟩
theorem gd_xcl {T : gd_Tb} {tc : Nat} (h : gd_xt T tc) : gd_cl T (fun x => x < tc) := by
  intro x hx
  have h0 := h.1
  refine ⟨fun h1 => ?_, fun h1 h5 => ?_⟩
  · have := (gd_xL (by omega) (h.2.1 x hx) h1).1
    show _ < tc
    omega
  · have := (gd_xR (by omega) (h.2.1 x hx) h1 h5).1
    show _ < tc
    omega
theorem gd_inj {T : gd_Tb} {tc : Nat} (h : gd_xt T tc) : ∀ m i j, i < m → i < tc → j < tc → gd_D T i = gd_D T j → i = j
  | 0, _, _, z, _, _, _ => by omega
  | m + 1, i, j, hm, hi, hj, e => by
    have h0 := h.1
    obtain ⟨ek, eg⟩ := gd_lab e
    have xi := h.2.1 i hi
    have xj := h.2.1 j hj
    have eA : T.2.2.1 i = T.2.2.1 j := by
      by_cases h1 : T.1 i = 1
      · rw [(xi.2.2.1 h1).1, (xj.2.2.1 (by rw [← ek]; exact h1)).1]
      · have a := gd_xL (by omega) xi h1
        have b := gd_xL (by omega) xj (by rw [← ek]; exact h1)
        rw [a.2, b.2, gd_inj h m (gd_L T i) (gd_L T j) (by omega) (by omega) (by omega) (gd_left e h1)]
    have eB : T.2.2.2 i = T.2.2.2 j := by
      by_cases h1 : T.1 i = 1
      · rw [(xi.2.2.1 h1).2, (xj.2.2.1 (by rw [← ek]; exact h1)).2]
      · by_cases h5 : T.1 i = 5
        · rw [xi.2.2.2 h5, xj.2.2.2 (by rw [← ek]; exact h5)]
        · have a := gd_xR (by omega) xi h1 h5
          have b := gd_xR (by omega) xj (by rw [← ek]; exact h1) (by rw [← ek]; exact h5)
          rw [a.2, b.2, gd_inj h m (gd_R T i) (gd_R T j) (by omega) (by omega) (by omega) (gd_right e h1 h5)]
    exact h.2.2 i j hi hj ek eg eA eB
/-- T' is T with more entries -/
def gd_ext (T T' : gd_Tb) (tc : Nat) : Prop := ∀ x, x < tc → T'.1 x = T.1 x ∧ T'.2.1 x = T.2.1 x ∧ T'.2.2.1 x = T.2.2.1 x ∧ T'.2.2.2 x = T.2.2.2 x
theorem gd_ext_D {T T' : gd_Tb} {tc : Nat} (h : gd_xt T tc) (he : gd_ext T T' tc) {x : Nat} (hx : x < tc) : gd_D T' x = gd_D T x := gd_same (gd_xcl h) he x hx
theorem gd_ext_r (T : gd_Tb) (tc : Nat) : gd_ext T T tc := fun _ _ => ⟨rfl, rfl, rfl, rfl⟩
theorem gd_ext_t {T T' T'' : gd_Tb} {tc tc' : Nat} (hl : tc ≤ tc') (h : gd_ext T T' tc) (h' : gd_ext T' T'' tc') : gd_ext T T'' tc := by
  intro x hx
  obtain ⟨a, b, c, d⟩ := h x hx
  obtain ⟨a', b', c', d'⟩ := h' x (by omega)
  exact ⟨a'.trans a, b'.trans b, c'.trans c, d'.trans d⟩

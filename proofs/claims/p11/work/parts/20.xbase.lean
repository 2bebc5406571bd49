/-! the component's small readers -/
theorem gx_k17 {P : Nat → Prop} (h : P 1 ∧ P 2 ∧ P 3 ∧ P 4 ∧ P 5 ∧ P 6 ∧ P 7 ∧ P 8 ∧ P 9 ∧ P 10 ∧ P 11 ∧ P 12 ∧ P 13 ∧ P 14 ∧ P 15 ∧ P 16 ∧ P 17) {k : Nat} (h1 : 1 ≤ k) (h2 : k ≤ 17) : P k := by
  obtain ⟨a1, a2, a3, a4, a5, a6, a7, a8, a9, a10, a11, a12, a13, a14, a15, a16, a17⟩ := h
  have : k = 1 ∨ k = 2 ∨ k = 3 ∨ k = 4 ∨ k = 5 ∨ k = 6 ∨ k = 7 ∨ k = 8 ∨ k = 9 ∨ k = 10 ∨ k = 11 ∨ k = 12 ∨ k = 13 ∨ k = 14 ∨ k = 15 ∨ k = 16 ∨ k = 17 := by omega
  rcases this with e | e | e | e | e | e | e | e | e | e | e | e | e | e | e | e | e <;> subst e <;> assumption
theorem gx_cc {post : Int32 → Prop} {k : Nat} (h1 : 1 ≤ k) (h2 : k ≤ 17) (h : post (nI (gp_ar k))) : wpX_childCount post () (nI k) := by
  revert h
  refine gx_k17 (P := fun k => post (nI (gp_ar k)) → wpX_childCount post () (nI k)) ?_ h1 h2
  refine ⟨?_, ?_, ?_, ?_, ?_, ?_, ?_, ?_, ?_, ?_, ?_, ?_, ?_, ?_, ?_, ?_, ?_⟩ <;> (intro h; unfold wpX_childCount; repeat (first | exact h | exact br_t (by decide) h | refine br_f (by decide) ?_))
theorem gx_vb {post : Int32 → Prop} {k j : Nat} (h1 : 1 ≤ k) (h2 : k ≤ 17) (hj : j ≤ 2) (h : post (nI (gp_bd k j))) : wpX_variablesBound post () (nI k) (nI j) := by
  have hz : j = 0 ∨ j = 1 ∨ j = 2 := by omega
  revert h
  refine gx_k17 (P := fun k => post (nI (gp_bd k j)) → wpX_variablesBound post () (nI k) (nI j)) ?_ h1 h2
  rcases hz with e | e | e <;> subst e <;> refine ⟨?_, ?_, ?_, ?_, ?_, ?_, ?_, ?_, ?_, ?_, ?_, ?_, ?_, ?_, ?_, ?_, ?_⟩ <;> (intro h; unfold wpX_variablesBound; repeat (first | exact h | exact br_t (by decide) h | refine br_f (by decide) ?_))
theorem gx_it {post : Int32 → Prop} {k : Nat} (h2 : k ≤ 17) (h : post (nI (1 - gp_srt k))) : wpX_isTypeKind post () (nI k) := by
  unfold wpX_isTypeKind
  unfold gp_srt at h
  refine pk_lt 5 k (fun z => ?_) (fun z => ?_)
  · rw [if_neg (by omega)] at h; exact h
  · rw [if_pos z] at h; exact h
theorem gx_wt {post : Int32 → Prop} {k j : Nat} (h1 : 1 ≤ k) (h2 : k ≤ 17) (hj : j ≤ 2) (h : post (nI (1 - gp_cs k j))) : wpX_wantsType post () (nI k) (nI j) := by
  have hz : j = 0 ∨ j = 1 ∨ j = 2 := by omega
  revert h
  refine gx_k17 (P := fun k => post (nI (1 - gp_cs k j)) → wpX_wantsType post () (nI k) (nI j)) ?_ h1 h2
  rcases hz with e | e | e <;> subst e <;> refine ⟨?_, ?_, ?_, ?_, ?_, ?_, ?_, ?_, ?_, ?_, ?_, ?_, ?_, ?_, ?_, ?_, ?_⟩ <;> (intro h; unfold wpX_wantsType; repeat (first | exact h | (unfold wX_wantsType_18) | (unfold wX_wantsType_23) | (unfold wpX_isTypeKind) | exact br_t (by decide) h | refine br_f (by decide) ?_ | refine br_t (by decide) ?_))

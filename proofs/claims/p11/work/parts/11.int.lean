/-! there is but one type Int -/
def gt_in (τ : gt_Ty) : Prop := ∀ p g, τ p = some (1, g) → g = 0 ∧ ∀ b q, τ (p ++ b :: q) = none
theorem gt_in_l {τ : gt_Ty} (h : gt_in τ) : gt_in (gt_l τ) := fun p g e => h (false :: p) g e
theorem gt_in_r {τ : gt_Ty} (h : gt_in τ) : gt_in (gt_r τ) := fun p g e => h (true :: p) g e
theorem gt_in_n : gt_in (fun _ => none) := fun _ _ e => nomatch e
theorem gt_in_mk {k g : Int32} {l r : gt_Ty} (h1 : k = 1 → g = 0) (hl : gt_in l) (hr : gt_in r) : gt_in (gt_mk k g l r) := by
  intro p x e
  match p with
  | [] =>
    have := Option.some.inj e
    have ek : k = 1 := congrArg Prod.fst this
    have eg : g = x := congrArg Prod.snd this
    refine ⟨by rw [← eg]; exact h1 ek, fun b q => ?_⟩
    show gt_mk k g l r (b :: q) = none
    cases b with
    | false => exact if_pos ek
    | true => exact if_pos ek
  | false :: p =>
    have e' : (if k = 1 then none else l p) = some (1, x) := e
    by_cases z : k = 1
    · rw [if_pos z] at e'; exact nomatch e'
    · rw [if_neg z] at e'
      refine ⟨(hl p x e').1, fun b q => ?_⟩
      show (if k = 1 then none else l (p ++ b :: q)) = none
      rw [if_neg z]
      exact (hl p x e').2 b q
  | true :: p =>
    have e' : (if k = 1 then none else if k = 5 then none else r p) = some (1, x) := e
    by_cases z : k = 1
    · rw [if_pos z] at e'; exact nomatch e'
    · rw [if_neg z] at e'
      by_cases y : k = 5
      · rw [if_pos y] at e'; exact nomatch e'
      · rw [if_neg y] at e'
        refine ⟨(hr p x e').1, fun b q => ?_⟩
        show (if k = 1 then none else if k = 5 then none else r (p ++ b :: q)) = none
        rw [if_neg z, if_neg y]
        exact (hr p x e').2 b q
theorem gt_in_nv {k j w : Nat} {τ : gt_Ty} (h : gt_in τ) : gt_in (gt_nv k j w τ) := by
  unfold gt_nv
  split
  · exact h
  · split
    · split
      · exact gt_in_l h
      · exact gt_in_r h
    · split
      · split
        · exact gt_in_l h
        · exact gt_in_r h
      · exact gt_in_l h
theorem gt_in_1 {τ : gt_Ty} (h : gt_in τ) (hk : gt_k τ = 1) (l r : gt_Ty) : τ = gt_mk 1 0 l r := by
  unfold gt_k at hk
  cases e : τ [] with
  | none => rw [e] at hk; exact absurd hk (by decide)
  | some x =>
    obtain ⟨k, g⟩ := x
    rw [e] at hk
    have hk' : k = 1 := hk
    subst hk'
    obtain ⟨g0, hn⟩ := h [] g e
    subst g0
    funext p
    match p with
    | [] => exact e
    | false :: p => exact hn false p
    | true :: p => exact hn true p
theorem gt_t_in {kd : Nat → Nat} {ag : Nat → Int32} {n : Nat} (h : gt_P kd ag n) : ∀ m d, gt_mu kd n d < m → d < n → gt_in (gt_t kd ag n d)
  | 0, _, z, _ => by omega
  | m + 1, d, hm, hd => by
    have hP := h
    obtain ⟨ok, so, kr, sc, a2, a3, a0⟩ := h
    have k1 := (kr d hd).1
    have k17 := (kr d hd).2
    have IH : ∀ j, j < gp_ar (kd d) → gt_in (gt_t kd ag n (gp_ch kd n d j)) := by
      intro j hj
      have a := (gp_ch_lt ok hd hj).1
      have b := gt_mu_ch ok hd hj
      exact gt_t_in hP m _ (by omega) a
    have hcase : (kd d = 1 ∨ kd d = 2 ∨ kd d = 3 ∨ kd d = 4 ∨ kd d = 5) ∨ kd d = 6 ∨ kd d = 7 ∨ kd d = 8 ∨ kd d = 9 ∨ kd d = 10 ∨ kd d = 11 ∨ kd d = 12 ∨ kd d = 13 ∨ kd d = 14 ∨ kd d = 15 ∨ kd d = 16 ∨ kd d = 17 := by omega
    rcases hcase with (e | e | e | e | e) | e | e | e | e | e | e | e | e | e | e | e | e
    · rw [gt_q1 e (fun _ => none) (fun _ => none)]
      exact gt_in_mk (fun _ => a0 d hd (by omega)) gt_in_n gt_in_n
    · rw [gt_q2 ok hd e]
      exact gt_in_mk (fun z => absurd z (by decide)) (IH 0 (by rw [e]; decide)) (IH 1 (by rw [e]; decide))
    · rw [gt_q3 ok hd e]
      exact gt_in_mk (fun z => absurd z (by decide)) (IH 0 (by rw [e]; decide)) (IH 1 (by rw [e]; decide))
    · rw [gt_q4 ok hd e]
      exact gt_in_mk (fun z => absurd z (by decide)) (IH 0 (by rw [e]; decide)) (IH 1 (by rw [e]; decide))
    · rw [gt_q5 ok hd e (fun _ => none)]
      exact gt_in_mk (fun z => absurd z (by decide)) (IH 0 (by rw [e]; decide)) gt_in_n
    · have hv := gt_P_lv hP hd e
      have b := gt_mu_lc ok hd hv
      have l := gp_lc_sp ok hd hv
      rw [gt_t6 ok hd e hv]
      exact gt_in_nv (gt_t_in hP m _ (by omega) (gp_ch_lt ok (by omega) (by omega)).1)
    · rw [gt_t7 ok hd e]
      exact gt_in_mk (fun _ => rfl) gt_in_n gt_in_n
    · rw [gt_t8 ok hd e]
      exact IH 0 (by rw [e]; decide)
    · rw [gt_t9 ok hd e]
      exact gt_in_mk (fun z => absurd z (by decide)) (IH 0 (by rw [e]; decide)) (IH 1 (by rw [e]; decide))
    · rw [gt_t10 ok hd e]
      exact gt_in_r (IH 0 (by rw [e]; decide))
    · rw [gt_t11 ok hd e]
      exact gt_in_mk (fun z => absurd z (by decide)) (IH 0 (by rw [e]; decide)) (IH 1 (by rw [e]; decide))
    · rw [gt_t12 ok hd e]
      exact IH 1 (by rw [e]; decide)
    · rw [gt_t13 ok hd e]
      exact gt_in_mk (fun z => absurd z (by decide)) (IH 1 (by rw [e]; decide)) (IH 0 (by rw [e]; decide))
    · rw [gt_t14 ok hd e]
      exact gt_in_mk (fun z => absurd z (by decide)) (IH 0 (by rw [e]; decide)) (IH 1 (by rw [e]; decide))
    · rw [gt_t15 ok hd e]
      exact IH 1 (by rw [e]; decide)
    · rw [gt_t16 ok hd e]
      exact gt_in_mk (fun z => absurd z (by decide)) (IH 0 (by rw [e]; decide)) gt_in_n
    · rw [gt_t17 ok hd e]
      exact IH 1 (by rw [e]; decide)
theorem gt_int {kd : Nat → Nat} {ag : Nat → Int32} {n d : Nat} (h : gt_P kd ag n) (hd : d < n) (hk : gt_k (gt_t kd ag n d) = 1) (l r : gt_Ty) : gt_t kd ag n d = gt_mk 1 0 l r := gt_in_1 (gt_t_in h _ d (Nat.lt_succ_self _) hd) hk l r
theorem gt_add_c (a b : Nat) : gt_add a b = gt_add b a := by unfold gt_add; rw [Nat.add_comm]

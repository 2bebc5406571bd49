/-! the reference's machine, a step at a time -/
section
variable {f_dLim f_rLim f_fLim f_n f_stat f_err f_out f_vInt f_recs f_drf f_fsp : Int32} {a_kind a_arg a_ch a_par a_pos a_seen a_st a_ty a_tyK a_tyG a_tyA a_tyB a_u a_bg a_ux a_uy a_stk a_eqA a_eqB a_rT a_rE a_rG a_rN a_rC a_rX a_fK a_fA a_fE : Nat → Int32}
theorem gy_nr {post : Int32 → SY → Prop} {rc rl : Nat} {p0 p1 p2 p3 p4 : Int32} (hrc : rc ≤ rl) (hrl : rl ≤ 32) (h0 : rc = rl → post (-1) (f_dLim, nI rl, f_fLim, f_n, f_stat, f_err, f_out, f_vInt, nI rc, f_drf, f_fsp, a_kind, a_arg, a_ch, a_par, a_pos, a_seen, a_st, a_ty, a_tyK, a_tyG, a_tyA, a_tyB, a_u, a_bg, a_ux, a_uy, a_stk, a_eqA, a_eqB, a_rT, a_rE, a_rG, a_rN, a_rC, a_rX, a_fK, a_fA, a_fE))
    (h1 : rc < rl → post (nI rc) (f_dLim, nI rl, f_fLim, f_n, f_stat, f_err, f_out, f_vInt, nI (rc + 1), f_drf, f_fsp, a_kind, a_arg, a_ch, a_par, a_pos, a_seen, a_st, a_ty, a_tyK, a_tyG, a_tyA, a_tyB, a_u, a_bg, a_ux, a_uy, a_stk, a_eqA, a_eqB, upd a_rT rc p0, upd a_rE rc p1, upd a_rG rc p2, upd a_rN rc p3, upd a_rC rc 0, upd a_rX rc p4, a_fK, a_fA, a_fE)) : wpY_newRec post (f_dLim, nI rl, f_fLim, f_n, f_stat, f_err, f_out, f_vInt, nI rc, f_drf, f_fsp, a_kind, a_arg, a_ch, a_par, a_pos, a_seen, a_st, a_ty, a_tyK, a_tyG, a_tyA, a_tyB, a_u, a_bg, a_ux, a_uy, a_stk, a_eqA, a_eqB, a_rT, a_rE, a_rG, a_rN, a_rC, a_rX, a_fK, a_fA, a_fE) p0 p1 p2 p3 p4 := by
  unfold wpY_newRec
  dsimp only
  refine pk_lt rc rl (fun z => ?_) (fun z => h0 (by omega))
  rw [nI_clamp (show rc < 2 ^ 31 by omega)]
  have v := vp_in_nI (show rc < 32 by omega) (by decide)
  refine ⟨v, nm_e ⟨v, nm_e ⟨v, nm_e ⟨v, nm_e ⟨v, nm_e ⟨v, nm_e (nm_r (nI_1 rc) ?_)⟩⟩⟩⟩⟩⟩
  rw [nI_pred]
  exact h1 z
theorem gy_rV {post : Int32 → SY → Prop} {kd : Nat → Nat} {t f step : Nat} {x2 x4 x5 x6 x7 : Int32} (hs : step < 100000) (ht : t < 32) (hK : a_kind t = nI (kd t)) (hv : gm_vl (kd t))
    (h : wY_run_41 post f (nI t) x2 1 (nI t) x2 (nI (kd t)) (a_arg t) (nI (step + 1)) f_dLim f_rLim f_fLim f_n f_stat f_err f_out f_vInt f_recs f_drf f_fsp a_kind a_arg a_ch a_par a_pos a_seen a_st a_ty a_tyK a_tyG a_tyA a_tyB a_u a_bg a_ux a_uy a_stk a_eqA a_eqB a_rT a_rE a_rG a_rN a_rC a_rX a_fK a_fA a_fE) : wY_run_41 post (f + 1) (nI t) x2 0 x4 x5 x6 x7 (nI step) f_dLim f_rLim f_fLim f_n f_stat f_err f_out f_vInt f_recs f_drf f_fsp a_kind a_arg a_ch a_par a_pos a_seen a_st a_ty a_tyK a_tyG a_tyA a_tyB a_u a_bg a_ux a_uy a_stk a_eqA a_eqB a_rT a_rE a_rG a_rN a_rC a_rX a_fK a_fA a_fE := by
  have v := vp_in_nI ht (by decide)
  refine br_f (nI_ge (b := 100000) hs (by decide)) (br_t rfl ⟨v, ?_⟩)
  rw [nI_clamp (show t < 2 ^ 31 by omega), hK]
  refine nm_e ?_
  rcases hv with e | e | e | e | e | e
  all_goals (
    rw [e] at h ⊢
    repeat (refine br_f (by decide) ?_)
    exact ⟨v, nm_e (nm_r (nI_1 step) h)⟩)
theorem gy_env {post : Int32 → Prop} {rs : Nat → Nat} {rc i e : Nat} (hi : i < 32) (hrc : rc ≤ 32) (hE : ∀ j, j ≤ i → 1 ≤ gm_nth rs e j ∧ gm_nth rs e j ≤ rc) (hR : ∀ r, 1 ≤ r → r ≤ rc → a_rX (r - 1) = nI (rs r) - 1) (h : post (nI (gm_nth rs e i - 1))) :
    ∀ d j fuel, j + d = i → d < fuel → wY_envAt_2 post (nI i) f_dLim f_rLim f_fLim f_n f_stat f_err f_out f_vInt f_recs f_drf f_fsp a_kind a_arg a_ch a_par a_pos a_seen a_st a_ty a_tyK a_tyG a_tyA a_tyB a_u a_bg a_ux a_uy a_stk a_eqA a_eqB a_rT a_rE a_rG a_rN a_rC a_rX a_fK a_fA a_fE fuel (nI (gm_nth rs e j) - 1) (nI j)
  | _, _, 0, _, hf => by omega
  | 0, j, fuel + 1, hj, hf => by
    have ej : j = i := by omega
    subst ej
    obtain ⟨a, b⟩ := hE j (Nat.le_refl _)
    rw [show nI (gm_nth rs e j) - 1 = nI (gm_nth rs e j - 1) from pk_sub (b := 1) a]
    exact br_t (nI_le (Nat.le_refl _) (by omega)) h
  | d + 1, j, fuel + 1, hj, hf => by
    obtain ⟨a, b⟩ := hE j (by omega)
    have IH := gy_env hi hrc hE hR h d (j + 1) fuel (by omega) (by omega)
    rw [show nI (gm_nth rs e j) - 1 = nI (gm_nth rs e j - 1) from pk_sub (b := 1) a]
    refine br_f (nI_ge (by omega) (by omega)) (br_f (nI_ge (b := 64) (by omega) (by decide)) (br_t (nI_pos' (by omega)) ⟨vp_in_nI (by omega) (by decide), ?_⟩))
    rw [nI_clamp (show gm_nth rs e j - 1 < 2 ^ 31 by omega), hR _ a b]
    exact nm_e (nm_r (nI_1 j) IH)
theorem gy_rD {post : Int32 → SY → Prop} {rs tn te : Nat → Nat} {rc i t e dr dl f step : Nat} {x4 x5 x6 x7 : Int32} (hs : step < 100000) (ht : t < 32) (hK : a_kind t = nI 6) (hi : a_arg t = nI i) (hi2 : i < 32) (hrc : rc ≤ 32) (hdr : dr ≤ dl) (hdl : dl ≤ 64) (hE : ∀ j, j ≤ i → 1 ≤ gm_nth rs e j ∧ gm_nth rs e j ≤ rc)
    (hR : ∀ r, 1 ≤ r → r ≤ rc → a_rX (r - 1) = nI (rs r) - 1 ∧ a_rT (r - 1) = nI (tn r) ∧ a_rE (r - 1) = nI (te r) - 1)
    (h0 : dr = dl → post 7 (nI dl, f_rLim, f_fLim, f_n, f_stat, f_err, 7, f_vInt, f_recs, nI dr, f_fsp, a_kind, a_arg, a_ch, a_par, a_pos, a_seen, a_st, a_ty, a_tyK, a_tyG, a_tyA, a_tyB, a_u, a_bg, a_ux, a_uy, a_stk, a_eqA, a_eqB, a_rT, a_rE, a_rG, a_rN, a_rC, a_rX, a_fK, a_fA, a_fE))
    (h : dr < dl → wY_run_41 post f (nI (tn (gm_nth rs e i))) (nI (te (gm_nth rs e i)) - 1) 0 x4 x5 x6 x7 (nI (step + 1)) (nI dl) f_rLim f_fLim f_n f_stat f_err f_out f_vInt f_recs (nI (dr + 1)) f_fsp a_kind a_arg a_ch a_par a_pos a_seen a_st a_ty a_tyK a_tyG a_tyA a_tyB a_u a_bg a_ux a_uy a_stk a_eqA a_eqB a_rT a_rE a_rG a_rN (upd a_rC (gm_nth rs e i - 1) (a_rC (gm_nth rs e i - 1) + 1)) a_rX a_fK a_fA a_fE) :
    wY_run_41 post (f + 1) (nI t) (nI e - 1) 0 x4 x5 x6 x7 (nI step) (nI dl) f_rLim f_fLim f_n f_stat f_err f_out f_vInt f_recs (nI dr) f_fsp a_kind a_arg a_ch a_par a_pos a_seen a_st a_ty a_tyK a_tyG a_tyA a_tyB a_u a_bg a_ux a_uy a_stk a_eqA a_eqB a_rT a_rE a_rG a_rN a_rC a_rX a_fK a_fA a_fE := by
  have v := vp_in_nI ht (by decide)
  obtain ⟨a, b⟩ := hE i (Nat.le_refl _)
  obtain ⟨r1, r2, r3⟩ := hR _ a b
  have vr := vp_in_nI (show gm_nth rs e i - 1 < 32 by omega) (by decide)
  refine br_f (nI_ge (b := 100000) hs (by decide)) (br_t rfl ⟨v, ?_⟩)
  rw [nI_clamp (show t < 2 ^ 31 by omega), hK]
  refine nm_e (br_t (by decide) (pk_eq dr dl h0 (fun z => ⟨v, ?_⟩)))
  rw [hi]
  refine ⟨i + 1, gy_env hi2 hrc hE (fun r a b => (hR r a b).1) ?_ i 0 (i + 1) (by omega) (by omega)⟩
  try dsimp only
  rw [nI_clamp (show gm_nth rs e i - 1 < 2 ^ 31 by omega), r2, r3]
  exact br_t (nI_pos' (by omega)) ⟨vr, vr, nm_e (nm_r (nI_1 dr) ⟨vr, nm_e ⟨vr, nm_e (nm_r (nI_1 step) (h (by omega)))⟩⟩)⟩
theorem gy_ps {post : Int32 → SY → Prop} {q fl : Nat} {m w e : Int32} (hq : q ≤ fl) (hfl : fl ≤ 64) (h0 : q = fl → post 0 (f_dLim, f_rLim, nI fl, f_n, f_stat, f_err, f_out, f_vInt, f_recs, f_drf, nI q, a_kind, a_arg, a_ch, a_par, a_pos, a_seen, a_st, a_ty, a_tyK, a_tyG, a_tyA, a_tyB, a_u, a_bg, a_ux, a_uy, a_stk, a_eqA, a_eqB, a_rT, a_rE, a_rG, a_rN, a_rC, a_rX, a_fK, a_fA, a_fE))
    (h1 : q < fl → post 1 (f_dLim, f_rLim, nI fl, f_n, f_stat, f_err, f_out, f_vInt, f_recs, f_drf, nI (q + 1), a_kind, a_arg, a_ch, a_par, a_pos, a_seen, a_st, a_ty, a_tyK, a_tyG, a_tyA, a_tyB, a_u, a_bg, a_ux, a_uy, a_stk, a_eqA, a_eqB, a_rT, a_rE, a_rG, a_rN, a_rC, a_rX, upd a_fK q m, upd a_fA q w, upd a_fE q e)) : wpY_push post (f_dLim, f_rLim, nI fl, f_n, f_stat, f_err, f_out, f_vInt, f_recs, f_drf, nI q, a_kind, a_arg, a_ch, a_par, a_pos, a_seen, a_st, a_ty, a_tyK, a_tyG, a_tyA, a_tyB, a_u, a_bg, a_ux, a_uy, a_stk, a_eqA, a_eqB, a_rT, a_rE, a_rG, a_rN, a_rC, a_rX, a_fK, a_fA, a_fE) m w e := by
  unfold wpY_push
  dsimp only
  refine pk_lt q fl (fun z => ?_) (fun z => h0 (by omega))
  rw [nI_clamp (show q < 2 ^ 31 by omega)]
  have v := vp_in_nI (show q < 64 by omega) (by decide)
  exact ⟨v, nm_e ⟨v, nm_e ⟨v, nm_e (nm_r (nI_1 q) (h1 z))⟩⟩⟩
theorem gy_rG {post : Int32 → SY → Prop} {kd : Nat → Nat} {t c c1 q fl f step : Nat} {x2 x4 x5 x6 x7 : Int32} (hs : step < 100000) (ht : t < 32) (hK : a_kind t = nI (kd t)) (hg : gm_go (kd t)) (hc : a_ch (3 * t) = nI c) (hc1 : a_ch (3 * t + 1) = nI c1) (hq : q ≤ fl) (hfl : fl ≤ 64)
    (h0 : q = fl → post 9 (f_dLim, f_rLim, nI fl, f_n, f_stat, f_err, 9, f_vInt, f_recs, f_drf, nI q, a_kind, a_arg, a_ch, a_par, a_pos, a_seen, a_st, a_ty, a_tyK, a_tyG, a_tyA, a_tyB, a_u, a_bg, a_ux, a_uy, a_stk, a_eqA, a_eqB, a_rT, a_rE, a_rG, a_rN, a_rC, a_rX, a_fK, a_fA, a_fE))
    (h : q < fl → wY_run_41 post f (nI c) x2 0 x4 x5 x6 x7 (nI (step + 1)) f_dLim f_rLim (nI fl) f_n f_stat f_err f_out f_vInt f_recs f_drf (nI (q + 1)) a_kind a_arg a_ch a_par a_pos a_seen a_st a_ty a_tyK a_tyG a_tyA a_tyB a_u a_bg a_ux a_uy a_stk a_eqA a_eqB a_rT a_rE a_rG a_rN a_rC a_rX (upd a_fK q (nI (kd t))) (upd a_fA q (if kd t = 8 ∨ kd t = 10 then nI c1 else nI t)) (upd a_fE q x2)) :
    wY_run_41 post (f + 1) (nI t) x2 0 x4 x5 x6 x7 (nI step) f_dLim f_rLim (nI fl) f_n f_stat f_err f_out f_vInt f_recs f_drf (nI q) a_kind a_arg a_ch a_par a_pos a_seen a_st a_ty a_tyK a_tyG a_tyA a_tyB a_u a_bg a_ux a_uy a_stk a_eqA a_eqB a_rT a_rE a_rG a_rN a_rC a_rX a_fK a_fA a_fE := by
  have v := vp_in_nI ht (by decide)
  have e3 : nI t * 3 = nI (3 * t) := by rw [show (nI t * 3 : Int32) = nI (t * 3) from pk_mul t 3, Nat.mul_comm]
  have fin : ∀ z0, z0 = (if kd t = 8 ∨ kd t = 10 then nI c1 else nI t) → wY_run_212 post (wY_run_41 post f) (nI t) x2 0 x4 x5 x6 x7 (nI step) (nI (kd t)) z0 f_dLim f_rLim (nI fl) f_n f_stat f_err f_out f_vInt f_recs f_drf (nI q) a_kind a_arg a_ch a_par a_pos a_seen a_st a_ty a_tyK a_tyG a_tyA a_tyB a_u a_bg a_ux a_uy a_stk a_eqA a_eqB a_rT a_rE a_rG a_rN a_rC a_rX a_fK a_fA a_fE := by
    intro z0 ez
    unfold wY_run_212
    refine gy_ps hq hfl (fun z => br_t rfl (h0 z)) (fun z => br_f (by decide) ?_)
    try dsimp only
    rw [e3, nI_clamp (show 3 * t < 2 ^ 31 by omega), hc, ez]
    exact ⟨vp_in_nI (by omega) (by decide), nm_e (nm_r (nI_1 step) (h z))⟩
  have go : wY_run_184 post (wY_run_41 post f) (nI t) x2 0 x4 x5 x6 x7 (nI step) (nI (kd t)) f_dLim f_rLim (nI fl) f_n f_stat f_err f_out f_vInt f_recs f_drf (nI q) a_kind a_arg a_ch a_par a_pos a_seen a_st a_ty a_tyK a_tyG a_tyA a_tyB a_u a_bg a_ux a_uy a_stk a_eqA a_eqB a_rT a_rE a_rG a_rN a_rC a_rX a_fK a_fA a_fE := by
    unfold wY_run_184
    have l : (kd t = 8 ∨ kd t = 10) → wY_run_198 post (wY_run_41 post f) (nI t) x2 0 x4 x5 x6 x7 (nI step) (nI (kd t)) f_dLim f_rLim (nI fl) f_n f_stat f_err f_out f_vInt f_recs f_drf (nI q) a_kind a_arg a_ch a_par a_pos a_seen a_st a_ty a_tyK a_tyG a_tyA a_tyB a_u a_bg a_ux a_uy a_stk a_eqA a_eqB a_rT a_rE a_rG a_rN a_rC a_rX a_fK a_fA a_fE := by
      intro z
      unfold wY_run_198
      rw [e3, nI_1, nI_clamp (show 3 * t + 1 < 2 ^ 31 by omega), hc1]
      exact ⟨vp_in_nI (by omega) (by decide), fin _ (by rw [if_pos z])⟩
    have k17 : kd t ≤ 17 := by rcases hg with e | e | e | e | e <;> omega
    exact pk_eq (kd t) 8 (fun z => l (Or.inl z)) (fun z => pk_eq (kd t) 10 (fun y => l (Or.inr y)) (fun y => fin _ (by rw [if_neg (fun w => w.elim z y)])))
  refine br_f (nI_ge (b := 100000) hs (by decide)) (br_t rfl ⟨v, ?_⟩)
  rw [nI_clamp (show t < 2 ^ 31 by omega), hK]
  refine nm_e ?_
  rcases hg with e | e | e | e | e
  all_goals (
    rw [e] at go ⊢
    repeat (refine br_f (by decide) ?_)
    exact br_t (by decide) go)
theorem gy_rH {post : Int32 → SY → Prop} {k f step : Nat} {x1 x2 x4 x5 x7 : Int32} (hs : step < 100000) (hv : gm_vl k)
    (h : ∀ lv, (k = 7 → lv = x7) → (k ≠ 7 → lv = f_vInt) → post (nI (gr_out k)) (f_dLim, f_rLim, f_fLim, f_n, f_stat, f_err, nI (gr_out k), lv, f_recs, f_drf, 0, a_kind, a_arg, a_ch, a_par, a_pos, a_seen, a_st, a_ty, a_tyK, a_tyG, a_tyA, a_tyB, a_u, a_bg, a_ux, a_uy, a_stk, a_eqA, a_eqB, a_rT, a_rE, a_rG, a_rN, a_rC, a_rX, a_fK, a_fA, a_fE)) : wY_run_41 post (f + 1) x1 x2 1 x4 x5 (nI k) x7 (nI step) f_dLim f_rLim f_fLim f_n f_stat f_err f_out f_vInt f_recs f_drf 0 a_kind a_arg a_ch a_par a_pos a_seen a_st a_ty a_tyK a_tyG a_tyA a_tyB a_u a_bg a_ux a_uy a_stk a_eqA a_eqB a_rT a_rE a_rG a_rN a_rC a_rX a_fK a_fA a_fE := by
  refine br_f (nI_ge (b := 100000) hs (by decide)) (br_f (by decide) (br_t rfl ?_))
  rcases hv with e | e | e | e | e | e
  · have := h _ (fun _ => rfl) (fun z => absurd e z)
    subst e
    exact br_t (by decide) this
  all_goals (have := h _ (fun z => by omega) (fun _ => rfl); subst e)
  · exact br_f (by decide) (br_t (by decide) this)
  · exact br_f (by decide) (br_f (by decide) (br_t (by decide) this))
  · exact br_f (by decide) (br_f (by decide) (br_f (by decide) (br_t (by decide) this)))
  · exact br_f (by decide) (br_f (by decide) (br_f (by decide) (br_f (by decide) (br_t (by decide) this))))
  · exact br_f (by decide) (br_f (by decide) (br_f (by decide) (br_f (by decide) (br_f (by decide) this))))
theorem gy_rA {post : Int32 → SY → Prop} {q f step : Nat} {x1 x2 x4 x5 x6 x7 w : Int32} (hs : step < 100000) (hq : q < 64) (hk : a_fK q = nI 7) (hw : a_fA q = w) (h : wY_run_41 post f x1 x2 1 x4 x5 x6 (w + x7) (nI (step + 1)) f_dLim f_rLim f_fLim f_n f_stat f_err f_out f_vInt f_recs f_drf (nI q) a_kind a_arg a_ch a_par a_pos a_seen a_st a_ty a_tyK a_tyG a_tyA a_tyB a_u a_bg a_ux a_uy a_stk a_eqA a_eqB a_rT a_rE a_rG a_rN a_rC a_rX a_fK a_fA a_fE) :
    wY_run_41 post (f + 1) x1 x2 1 x4 x5 x6 x7 (nI step) f_dLim f_rLim f_fLim f_n f_stat f_err f_out f_vInt f_recs f_drf (nI (q + 1)) a_kind a_arg a_ch a_par a_pos a_seen a_st a_ty a_tyK a_tyG a_tyA a_tyB a_u a_bg a_ux a_uy a_stk a_eqA a_eqB a_rT a_rE a_rG a_rN a_rC a_rX a_fK a_fA a_fE := by
  have v := vp_in_nI hq (by decide)
  refine br_f (nI_ge (b := 100000) hs (by decide)) (br_f (by decide) (br_f (nI_ne0 (by omega) (by omega)) (nm_r (nI_pred q) ⟨v, ?_⟩)))
  rw [nI_clamp (show q < 2 ^ 31 by omega), hk, hw]
  exact nm_e ⟨v, nm_e ⟨v, nm_e (br_f (by decide) (br_t (by decide) (nm_e (nm_r (nI_1 step) h))))⟩⟩
theorem gy_r8 {post : Int32 → SY → Prop} {q fl f step : Nat} {x1 x2 x4 x5 x6 x7 w e : Int32} (hs : step < 100000) (hq : q < fl) (hfl : fl ≤ 64) (hk : a_fK q = nI 8) (hw : a_fA q = w) (he : a_fE q = e)
    (h : wY_run_41 post f w e 0 x4 x5 x6 x7 (nI (step + 1)) f_dLim f_rLim (nI fl) f_n f_stat f_err f_out f_vInt f_recs f_drf (nI (q + 1)) a_kind a_arg a_ch a_par a_pos a_seen a_st a_ty a_tyK a_tyG a_tyA a_tyB a_u a_bg a_ux a_uy a_stk a_eqA a_eqB a_rT a_rE a_rG a_rN a_rC a_rX (upd a_fK q 7) (upd a_fA q x7) (upd a_fE q (-1))) :
    wY_run_41 post (f + 1) x1 x2 1 x4 x5 x6 x7 (nI step) f_dLim f_rLim (nI fl) f_n f_stat f_err f_out f_vInt f_recs f_drf (nI (q + 1)) a_kind a_arg a_ch a_par a_pos a_seen a_st a_ty a_tyK a_tyG a_tyA a_tyB a_u a_bg a_ux a_uy a_stk a_eqA a_eqB a_rT a_rE a_rG a_rN a_rC a_rX a_fK a_fA a_fE := by
  have v := vp_in_nI (show q < 64 by omega) (by decide)
  refine br_f (nI_ge (b := 100000) hs (by decide)) (br_f (by decide) (br_f (nI_ne0 (by omega) (by omega)) (nm_r (nI_pred q) ⟨v, ?_⟩)))
  rw [nI_clamp (show q < 2 ^ 31 by omega), hk, hw, he]
  refine nm_e ⟨v, nm_e ⟨v, nm_e (br_t (by decide) ?_)⟩⟩
  exact gy_ps (by omega) hfl (fun z => by omega) (fun _ => nm_r (nI_1 step) h)
/-- the common end of the frames that make records -/
theorem gy_680 {post : Int32 → SY → Prop} {f step rc : Nat} {x1 x4 x5 x6 x7 : Int32} (hrc : rc < 100) (h : wY_run_41 post f x1 (nI rc) 0 x4 x5 x6 x7 (nI (step + 1)) f_dLim f_rLim f_fLim f_n f_stat f_err f_out f_vInt f_recs f_drf f_fsp a_kind a_arg a_ch a_par a_pos a_seen a_st a_ty a_tyK a_tyG a_tyA a_tyB a_u a_bg a_ux a_uy a_stk a_eqA a_eqB a_rT a_rE a_rG a_rN a_rC a_rX a_fK a_fA a_fE) : wY_run_680 post (wY_run_41 post f) x1 x4 x5 x6 x7 (nI step) (nI rc) f_dLim f_rLim f_fLim f_n f_stat f_err f_out f_vInt f_recs f_drf f_fsp a_kind a_arg a_ch a_par a_pos a_seen a_st a_ty a_tyK a_tyG a_tyA a_tyB a_u a_bg a_ux a_uy a_stk a_eqA a_eqB a_rT a_rE a_rG a_rN a_rC a_rX a_fK a_fA a_fE := by
  unfold wY_run_680
  exact br_t (nI_pos' (by omega)) (nm_r (nI_1 step) h)
theorem gy_680m {post : Int32 → SY → Prop} {f : Nat} {x1 x4 x5 x6 x7 x8 : Int32} (h : post 8 (f_dLim, f_rLim, f_fLim, f_n, f_stat, f_err, 8, f_vInt, f_recs, f_drf, f_fsp, a_kind, a_arg, a_ch, a_par, a_pos, a_seen, a_st, a_ty, a_tyK, a_tyG, a_tyA, a_tyB, a_u, a_bg, a_ux, a_uy, a_stk, a_eqA, a_eqB, a_rT, a_rE, a_rG, a_rN, a_rC, a_rX, a_fK, a_fA, a_fE)) : wY_run_680 post (wY_run_41 post f) x1 x4 x5 x6 x7 x8 (-1) f_dLim f_rLim f_fLim f_n f_stat f_err f_out f_vInt f_recs f_drf f_fsp a_kind a_arg a_ch a_par a_pos a_seen a_st a_ty a_tyK a_tyG a_tyA a_tyB a_u a_bg a_ux a_uy a_stk a_eqA a_eqB a_rT a_rE a_rG a_rN a_rC a_rX a_fK a_fA a_fE := by
  unfold wY_run_680
  exact br_f (by decide) h
end

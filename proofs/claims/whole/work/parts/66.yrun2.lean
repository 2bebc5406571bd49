theorem gx_ix31 {t : Nat} : (nI t * 3) + 1 = nI (3 * t + 1) := gx_ix3 (j := 1)
theorem gx_ix32 {t : Nat} : (nI t * 3) + 2 = nI (3 * t + 2) := gx_ix3 (j := 2)
section
variable {f_dLim f_rLim f_fLim f_n f_stat f_err f_out f_vInt f_recs f_drf f_fsp : Int32} {a_kind a_arg a_ch a_par a_pos a_seen a_st a_ty a_tyK a_tyG a_tyA a_tyB a_u a_bg a_ux a_uy a_stk a_eqA a_eqB a_rT a_rE a_rG a_rN a_rC a_rX a_fK a_fA a_fE : Nat → Int32}
theorem gy_r10 {post : Int32 → SY → Prop} {q f step rc rl t b : Nat} {x1 x2 ve x6 x7 w e : Int32} (hs : step < 100000) (hq : q < 64) (hw : a_fA q = w) (he : a_fE q = e) (hk : a_fK q = nI 10) (ht : t < 32) (hb : a_ch (3 * t + 1) = nI b) (hrc : rc ≤ rl) (hrl : rl ≤ 32)
    (h0 : rc = rl → post 8 (f_dLim, nI rl, f_fLim, f_n, f_stat, f_err, 8, f_vInt, nI rc, f_drf, nI q, a_kind, a_arg, a_ch, a_par, a_pos, a_seen, a_st, a_ty, a_tyK, a_tyG, a_tyA, a_tyB, a_u, a_bg, a_ux, a_uy, a_stk, a_eqA, a_eqB, a_rT, a_rE, a_rG, a_rN, a_rC, a_rX, a_fK, a_fA, a_fE))
    (h1 : rc < rl → wY_run_41 post f (nI b) (nI rc) 0 (nI t) ve x6 x7 (nI (step + 1)) f_dLim (nI rl) f_fLim f_n f_stat f_err f_out f_vInt (nI (rc + 1)) f_drf (nI q) a_kind a_arg a_ch a_par a_pos a_seen a_st a_ty a_tyK a_tyG a_tyA a_tyB a_u a_bg a_ux a_uy a_stk a_eqA a_eqB (upd a_rT rc w) (upd a_rE rc e) (upd a_rG rc (a_bg t)) (upd a_rN rc (nI t)) (upd a_rC rc 0) (upd a_rX rc ve) a_fK a_fA a_fE) :
    wY_run_41 post (f + 1) x1 x2 1 (nI t) ve x6 x7 (nI step) f_dLim (nI rl) f_fLim f_n f_stat f_err f_out f_vInt (nI rc) f_drf (nI (q + 1)) a_kind a_arg a_ch a_par a_pos a_seen a_st a_ty a_tyK a_tyG a_tyA a_tyB a_u a_bg a_ux a_uy a_stk a_eqA a_eqB a_rT a_rE a_rG a_rN a_rC a_rX a_fK a_fA a_fE := by
  have v := vp_in_nI hq (by decide)
  refine br_f (nI_ge (b := 100000) hs (by decide)) (br_f (by decide) (br_f (nI_ne0 (by omega) (by omega)) (nm_r (nI_pred q) ⟨v, ?_⟩)))
  rw [nI_clamp (show q < 2 ^ 31 by omega), hk, hw, he]
  refine nm_e ⟨v, nm_e ⟨v, nm_e (br_f (by decide) (br_f (by decide) (br_t (by decide) ⟨vp_in_nI ht (by decide), ?_⟩)))⟩⟩
  rw [gx_ix31, nI_clamp (show t < 2 ^ 31 by omega), nI_clamp (show 3 * t + 1 < 2 ^ 31 by omega)]
  refine gy_nr hrc hrl (fun z => ⟨vp_in_nI (by omega) (by decide), ?_⟩) (fun z => ⟨vp_in_nI (by omega) (by decide), ?_⟩)
  · try dsimp only
    rw [hb]
    exact nm_e (br_f (by decide) (br_f (by decide) (br_f (by decide) (gy_680m (h0 z)))))
  · try dsimp only
    rw [hb]
    exact nm_e (br_f (by decide) (br_f (by decide) (br_f (by decide) (gy_680 (by omega) (h1 z)))))
theorem gy_r17 {post : Int32 → SY → Prop} {q f step rc rl t d c b : Nat} {x1 x2 ve x6 x7 e : Int32} (hs : step < 100000) (hq : q < 64) (hw : a_fA q = nI d) (he : a_fE q = e) (hk : a_fK q = nI 17) (ht : t < 32) (hd : d < 32) (hc : a_ch (3 * t) = nI c) (hb : a_ch (3 * d + 1) = nI b) (hrc : rc ≤ rl) (hrl : rl ≤ 32)
    (h0 : rc = rl → post 8 (f_dLim, nI rl, f_fLim, f_n, f_stat, f_err, 8, f_vInt, nI rc, f_drf, nI q, a_kind, a_arg, a_ch, a_par, a_pos, a_seen, a_st, a_ty, a_tyK, a_tyG, a_tyA, a_tyB, a_u, a_bg, a_ux, a_uy, a_stk, a_eqA, a_eqB, a_rT, a_rE, a_rG, a_rN, a_rC, a_rX, a_fK, a_fA, a_fE))
    (h1 : rc < rl → wY_run_41 post f (nI b) (nI rc) 0 (nI t) ve x6 x7 (nI (step + 1)) f_dLim (nI rl) f_fLim f_n f_stat f_err f_out f_vInt (nI (rc + 1)) f_drf (nI q) a_kind a_arg a_ch a_par a_pos a_seen a_st a_ty a_tyK a_tyG a_tyA a_tyB a_u a_bg a_ux a_uy a_stk a_eqA a_eqB (upd a_rT rc (nI c)) (upd a_rE rc ve) (upd a_rG rc (a_bg d)) (upd a_rN rc (nI d)) (upd a_rC rc 0) (upd a_rX rc e) a_fK a_fA a_fE) :
    wY_run_41 post (f + 1) x1 x2 1 (nI t) ve x6 x7 (nI step) f_dLim (nI rl) f_fLim f_n f_stat f_err f_out f_vInt (nI rc) f_drf (nI (q + 1)) a_kind a_arg a_ch a_par a_pos a_seen a_st a_ty a_tyK a_tyG a_tyA a_tyB a_u a_bg a_ux a_uy a_stk a_eqA a_eqB a_rT a_rE a_rG a_rN a_rC a_rX a_fK a_fA a_fE := by
  have v := vp_in_nI hq (by decide)
  have e3 : nI t * 3 = nI (3 * t) := by rw [show (nI t * 3 : Int32) = nI (t * 3) from pk_mul t 3, Nat.mul_comm]
  refine br_f (nI_ge (b := 100000) hs (by decide)) (br_f (by decide) (br_f (nI_ne0 (by omega) (by omega)) (nm_r (nI_pred q) ⟨v, ?_⟩)))
  rw [nI_clamp (show q < 2 ^ 31 by omega), hk, hw, he]
  refine nm_e ⟨v, nm_e ⟨v, nm_e (br_f (by decide) (br_f (by decide) (br_f (by decide) (br_f (by decide) (br_f (by decide) (br_t (by decide) ⟨?_, vp_in_nI hd (by decide), ?_⟩))))))⟩⟩
  · rw [e3]; exact vp_in_nI (by omega) (by decide)
  rw [e3, nI_clamp (show 3 * t < 2 ^ 31 by omega), hc, nI_clamp (show d < 2 ^ 31 by omega), gx_ix31, nI_clamp (show 3 * d + 1 < 2 ^ 31 by omega)]
  refine gy_nr hrc hrl (fun z => ⟨vp_in_nI (by omega) (by decide), ?_⟩) (fun z => ⟨vp_in_nI (by omega) (by decide), ?_⟩)
  · try dsimp only
    rw [hb]
    exact nm_e (gy_680m (h0 z))
  · try dsimp only
    rw [hb]
    exact nm_e (gy_680 (by omega) (h1 z))
theorem gy_r15 {post : Int32 → SY → Prop} {q f step rc rl t d c b kt : Nat} {x1 x2 ve x6 x7 e : Int32} (hs : step < 100000) (hq : q < 64) (hw : a_fA q = nI d) (he : a_fE q = e) (hk : a_fK q = nI 15) (ht : t < 32) (hd : d < 32) (hkt : a_kind t = nI kt) (hkl : kt ≤ 17) (hc : a_ch (3 * t + 1) = nI c) (hb : a_ch (3 * d + (if kt = 13 then 1 else 2)) = nI b) (hrc : rc ≤ rl) (hrl : rl ≤ 32)
    (h0 : rc = rl → post 8 (f_dLim, nI rl, f_fLim, f_n, f_stat, f_err, 8, f_vInt, nI rc, f_drf, nI q, a_kind, a_arg, a_ch, a_par, a_pos, a_seen, a_st, a_ty, a_tyK, a_tyG, a_tyA, a_tyB, a_u, a_bg, a_ux, a_uy, a_stk, a_eqA, a_eqB, a_rT, a_rE, a_rG, a_rN, a_rC, a_rX, a_fK, a_fA, a_fE))
    (h1 : rc < rl → wY_run_41 post f (nI b) (nI rc) 0 (nI t) ve x6 x7 (nI (step + 1)) f_dLim (nI rl) f_fLim f_n f_stat f_err f_out f_vInt (nI (rc + 1)) f_drf (nI q) a_kind a_arg a_ch a_par a_pos a_seen a_st a_ty a_tyK a_tyG a_tyA a_tyB a_u a_bg a_ux a_uy a_stk a_eqA a_eqB (upd a_rT rc (nI c)) (upd a_rE rc ve) (upd a_rG rc (a_bg d)) (upd a_rN rc (nI d)) (upd a_rC rc 0) (upd a_rX rc e) a_fK a_fA a_fE) :
    wY_run_41 post (f + 1) x1 x2 1 (nI t) ve x6 x7 (nI step) f_dLim (nI rl) f_fLim f_n f_stat f_err f_out f_vInt (nI rc) f_drf (nI (q + 1)) a_kind a_arg a_ch a_par a_pos a_seen a_st a_ty a_tyK a_tyG a_tyA a_tyB a_u a_bg a_ux a_uy a_stk a_eqA a_eqB a_rT a_rE a_rG a_rN a_rC a_rX a_fK a_fA a_fE := by
  have v := vp_in_nI hq (by decide)
  refine br_f (nI_ge (b := 100000) hs (by decide)) (br_f (by decide) (br_f (nI_ne0 (by omega) (by omega)) (nm_r (nI_pred q) ⟨v, ?_⟩)))
  rw [nI_clamp (show q < 2 ^ 31 by omega), hk, hw, he]
  refine nm_e ⟨v, nm_e ⟨v, nm_e (br_f (by decide) (br_f (by decide) (br_f (by decide) (br_f (by decide) (br_t (by decide) ⟨?_, vp_in_nI hd (by decide), ?_⟩)))))⟩⟩
  · rw [gx_ix31]; exact vp_in_nI (by omega) (by decide)
  rw [gx_ix31 (t := t), nI_clamp (show 3 * t + 1 < 2 ^ 31 by omega), hc, nI_clamp (show d < 2 ^ 31 by omega), nI_clamp (show t < 2 ^ 31 by omega), gx_ix31 (t := d), nI_clamp (show 3 * d + 1 < 2 ^ 31 by omega), gx_ix32 (t := d), nI_clamp (show 3 * d + 2 < 2 ^ 31 by omega)]
  refine gy_nr hrc hrl (fun z => ⟨vp_in_nI ht (by decide), ?_⟩) (fun z => ⟨vp_in_nI ht (by decide), ?_⟩)
  · try dsimp only
    rw [hkt]
    refine pk_eq kt 13 (fun y => ⟨vp_in_nI (by omega) (by decide), br_f (by decide) (gy_680m (h0 z))⟩) (fun y => ⟨vp_in_nI (by omega) (by decide), br_f (by decide) (gy_680m (h0 z))⟩)
  · try dsimp only
    rw [hkt]
    refine pk_eq kt 13 (fun y => ⟨vp_in_nI (by omega) (by decide), ?_⟩) (fun y => ⟨vp_in_nI (by omega) (by decide), ?_⟩)
    · rw [if_pos y] at hb
      rw [hb]
      exact br_f (by decide) (gy_680 (by omega) (h1 z))
    · rw [if_neg y] at hb
      rw [hb]
      exact br_f (by decide) (gy_680 (by omega) (h1 z))
theorem gy_r12 {post : Int32 → SY → Prop} {q f step rc rl t d c0 c1 b : Nat} {x1 x2 ve x6 x7 e : Int32} (hs : step < 100000) (hq : q < 64) (hw : a_fA q = nI d) (he : a_fE q = e) (hk : a_fK q = nI 12) (ht : t < 32) (hd : d < 32) (hc0 : a_ch (3 * t) = nI c0) (hc1 : a_ch (3 * t + 1) = nI c1) (hb : a_ch (3 * d + 1) = nI b) (hrc : rc ≤ rl) (hrl : rl ≤ 32)
    (h0 : rc = rl → post 8 (f_dLim, nI rl, f_fLim, f_n, f_stat, f_err, 8, f_vInt, nI rc, f_drf, nI q, a_kind, a_arg, a_ch, a_par, a_pos, a_seen, a_st, a_ty, a_tyK, a_tyG, a_tyA, a_tyB, a_u, a_bg, a_ux, a_uy, a_stk, a_eqA, a_eqB, a_rT, a_rE, a_rG, a_rN, a_rC, a_rX, a_fK, a_fA, a_fE))
    (h1 : rc + 1 = rl → post 8 (f_dLim, nI rl, f_fLim, f_n, f_stat, f_err, 8, f_vInt, nI (rc + 1), f_drf, nI q, a_kind, a_arg, a_ch, a_par, a_pos, a_seen, a_st, a_ty, a_tyK, a_tyG, a_tyA, a_tyB, a_u, a_bg, a_ux, a_uy, a_stk, a_eqA, a_eqB, upd a_rT rc (nI c0), upd a_rE rc ve, upd a_rG rc (a_bg d), upd a_rN rc (nI d), upd a_rC rc 0, upd a_rX rc e, a_fK, a_fA, a_fE))
    (h2 : rc + 1 < rl → wY_run_41 post f (nI b) (nI (rc + 1)) 0 (nI t) ve x6 x7 (nI (step + 1)) f_dLim (nI rl) f_fLim f_n f_stat f_err f_out f_vInt (nI (rc + 1 + 1)) f_drf (nI q) a_kind a_arg a_ch a_par a_pos a_seen a_st a_ty a_tyK a_tyG a_tyA a_tyB a_u a_bg a_ux a_uy a_stk a_eqA a_eqB (upd (upd a_rT rc (nI c0)) (rc + 1) (nI c1)) (upd (upd a_rE rc ve) (rc + 1) ve) (upd (upd a_rG rc (a_bg d)) (rc + 1) (a_bg d)) (upd (upd a_rN rc (nI d)) (rc + 1) (nI d)) (upd (upd a_rC rc 0) (rc + 1) 0) (upd (upd a_rX rc e) (rc + 1) (nI rc)) a_fK a_fA a_fE) :
    wY_run_41 post (f + 1) x1 x2 1 (nI t) ve x6 x7 (nI step) f_dLim (nI rl) f_fLim f_n f_stat f_err f_out f_vInt (nI rc) f_drf (nI (q + 1)) a_kind a_arg a_ch a_par a_pos a_seen a_st a_ty a_tyK a_tyG a_tyA a_tyB a_u a_bg a_ux a_uy a_stk a_eqA a_eqB a_rT a_rE a_rG a_rN a_rC a_rX a_fK a_fA a_fE := by
  have v := vp_in_nI hq (by decide)
  have e3 : nI t * 3 = nI (3 * t) := by rw [show (nI t * 3 : Int32) = nI (t * 3) from pk_mul t 3, Nat.mul_comm]
  have e31 : nI (3 * t) + 1 = nI (3 * t + 1) := nI_1 _
  refine br_f (nI_ge (b := 100000) hs (by decide)) (br_f (by decide) (br_f (nI_ne0 (by omega) (by omega)) (nm_r (nI_pred q) ⟨v, ?_⟩)))
  rw [nI_clamp (show q < 2 ^ 31 by omega), hk, hw, he]
  refine nm_e ⟨v, nm_e ⟨v, nm_e (br_f (by decide) (br_f (by decide) (br_f (by decide) (br_t (by decide) ⟨?_, vp_in_nI hd (by decide), ?_⟩))))⟩⟩
  · rw [e3]; exact vp_in_nI (by omega) (by decide)
  rw [e3, e31, nI_clamp (show 3 * t < 2 ^ 31 by omega), hc0, nI_clamp (show d < 2 ^ 31 by omega), nI_clamp (show 3 * t + 1 < 2 ^ 31 by omega)]
  refine gy_nr hrc hrl (fun z => br_t (by decide) ?_) (fun z => br_f (nI_pos (by omega)) ⟨vp_in_nI (by omega) (by decide), vp_in_nI hd (by decide), ?_⟩)
  · unfold wY_run_546
    rw [gx_ix31, nI_clamp (show 3 * d + 1 < 2 ^ 31 by omega), hb]
    exact ⟨vp_in_nI (by omega) (by decide), nm_e (br_f (by decide) (br_f (by decide) (gy_680m (h0 z))))⟩
  · try dsimp only
    rw [hc1]
    refine gy_nr (by omega) hrl (fun y => ?_) (fun y => ?_)
    · try dsimp only
      unfold wY_run_546
      rw [gx_ix31, nI_clamp (show 3 * d + 1 < 2 ^ 31 by omega), hb]
      exact ⟨vp_in_nI (by omega) (by decide), nm_e (br_f (by decide) (br_f (by decide) (gy_680m (h1 y))))⟩
    · try dsimp only
      unfold wY_run_546
      rw [gx_ix31, nI_clamp (show 3 * d + 1 < 2 ^ 31 by omega), hb]
      exact ⟨vp_in_nI (by omega) (by decide), nm_e (br_f (by decide) (br_f (by decide) (gy_680 (by omega) (h2 y))))⟩
end

/-- the binders of the variables that node t sees are known -/
def gy_HB (kd : Nat → Nat) (ag : Nat → Int32) (n : Nat) (P : Nat → Prop) (t : Nat) : Prop := ∀ v, v < gp_sn kd t → (kd (gp_lc kd t v).1 ≠ 9 → P (gp_ch kd n (gp_lc kd t v).1 0)) ∧ gt_e1 kd ag n (gp_lc kd t v).1 = 0
theorem gy_HB_ch {kd : Nat → Nat} {ag : Nat → Int32} {n t j : Nat} {P Q : Nat → Prop} (ok : gp_ok kd n) (ht : t < n) (hj : j < gp_ar (kd t)) (hPQ : ∀ d, P d → Q d) (h : gy_HB kd ag n P t) (h0 : 0 < j → (kd t ≠ 9 → Q (gp_ch kd n t 0)) ∧ gt_e1 kd ag n t = 0) : gy_HB kd ag n Q (gp_ch kd n t j) := by
  intro v hv
  rw [gp_sn_ch ok ht hj] at hv
  rcases Nat.lt_or_ge v (gp_sn kd t) with z | z
  · rw [gp_lc_up ok ht hj z]
    exact ⟨fun y => hPQ _ ((h v z).1 y), (h v z).2⟩
  · rw [gp_lc_new ok ht hj z]
    refine h0 ?_
    rcases Nat.eq_zero_or_pos j with y | y
    · rw [y, gp_bd_0] at hv; omega
    · exact y
theorem gy_HB_up {kd : Nat → Nat} {ag : Nat → Int32} {n t j : Nat} {P : Nat → Prop} (ok : gp_ok kd n) (ht : t < n) (hj : j < gp_ar (kd t)) (h : gy_HB kd ag n P (gp_ch kd n t j)) : gy_HB kd ag n P t := by
  intro v hv
  have := h v (by rw [gp_sn_ch ok ht hj]; omega)
  rw [gp_lc_up ok ht hj hv] at this
  exact this
section
variable {f_dLim f_rLim f_fLim f_n f_stat f_err f_out f_vInt f_recs f_drf f_fsp : Int32} {a_kind a_arg a_ch a_par a_pos a_seen a_st a_ty a_tyK a_tyG a_tyA a_tyB a_u a_bg a_ux a_uy a_stk a_eqA a_eqB a_rT a_rE a_rG a_rN a_rC a_rX a_fK a_fA a_fE : Nat → Int32}
theorem gy_vt_l {post : Int32 → Prop} {kd : Nat → Nat} {ag : Nat → Int32} {n : Nat} {P : Nat → Prop} (A : gt_P kd ag n) (S : gy_S kd n a_kind a_ch a_par a_pos a_seen) (I : gy_TI kd ag n P a_ty a_bg a_ux a_uy a_u (a_tyK, a_tyG, a_tyA, a_tyB)) :
    ∀ fuel x cnt s, x < fuel → x < n → cnt < gp_sn kd x → s + x ≤ 32 → gy_HB kd ag n P x → (∀ y, gy_o kd n P y → gd_D (a_tyK, a_tyG, a_tyA, a_tyB) y = gt_G kd ag n x (gp_sn kd x - 1 - cnt) → post (nI y)) → wY_varType_8 post f_dLim f_rLim f_fLim f_n f_stat f_err f_out f_vInt f_recs f_drf f_fsp a_kind a_arg a_ch a_par a_pos a_seen a_st a_ty a_tyK a_tyG a_tyA a_tyB a_u a_bg a_ux a_uy a_stk a_eqA a_eqB a_rT a_rE a_rG a_rN a_rC a_rX a_fK a_fA a_fE fuel (nI x) (nI cnt) (nI s)
  | 0, _, _, _, hf, _, _, _, _, _ => by omega
  | fuel + 1, x, cnt, s, hf, hx, hc, hs, hB, h => by
    have hA := A
    obtain ⟨ok, so, kr, -⟩ := A
    have hn := ok.2.1
    have x0 : 0 < x := by
      rcases Nat.eq_zero_or_pos x with z | z
      · rw [z, gp_sn_0] at hc; omega
      · exact z
    obtain ⟨p1, p2⟩ := gp_pl_in ok hx x0
    have cx := gp_ch_of ok hx x0
    have sx := gp_sn_p ok hx x0
    obtain ⟨r1, r2⟩ := S.2.2.1 x x0 hx
    generalize hp : gp_pl kd x / 3 = p at *
    generalize hj : gp_pl kd x % 3 = j at *
    have hpn : p < n := by omega
    have a3 := gp_ar_le (kd p)
    have vx := vp_in_nI (show x < 32 by omega) (by decide)
    have vp := vp_in_nI (show p < 32 by omega) (by decide)
    have ep : (nI p).toNatClampNeg = p := nI_clamp (by omega)
    have ex : (nI x).toNatClampNeg = x := nI_clamp (by omega)
    have b2 := gp_bd_le (kd p) j
    have sl := gp_sn_lt ok hx
    refine br_f (nI_ge (b := 33) (by omega) (by decide)) ⟨vx, nm_r (by rw [ex]; exact r1) (br_t (nI_pos' (by omega)) ⟨vp, vx, ?_⟩)⟩
    rw [ep, ex, S.1 p hpn, r2]
    refine gy_bd (kr p hpn).1 (kr p hpn).2 p2 (pk_le (gp_bd (kd p) j) cnt (fun z => ?_) (fun z => ?_))
    · refine nm_r (pk_sub z) (nm_r (nI_1 s) ?_)
      refine gy_vt_l hA S I fuel p (cnt - gp_bd (kd p) j) (s + 1) (by omega) hpn (by omega) (by omega) (gy_HB_up ok hpn p2 (by rw [← cx]; exact hB)) (fun y hy hD => h y hy ?_)
      rw [hD, cx, gt_G_up ok hpn p2 (by rw [gp_sn_ch ok hpn p2]; omega), gp_sn_ch ok hpn p2]
      exact congrArg _ (by omega)
    · have j0 : 0 < j := by
        rcases Nat.eq_zero_or_pos j with y | y
        · rw [y, gp_bd_0] at z; omega
        · exact y
      have hG : gt_G kd ag n x (gp_sn kd x - 1 - cnt) = gt_nv (kd p) j (gp_bd (kd p) j - 1 - cnt) (gt_t kd ag n (gp_ch kd n p 0)) := by
        have := gt_G_new (ag := ag) ok hpn p2 (v := gp_sn kd x - 1 - cnt) (by omega)
        rw [← cx] at this
        rw [this]
        exact congrArg (fun w => gt_nv (kd p) j w _) (by omega)
      have hb := hB (gp_sn kd x - 1 - cnt) (by omega)
      have lc := gp_lc_new ok hpn p2 (v := gp_sn kd x - 1 - cnt) (by omega)
      rw [← cx] at lc
      rw [lc] at hb
      dsimp only at hb
      obtain ⟨hb1, hb2⟩ := hb
      have x1 := gt_e1_0 hb2
      have ar0 : 0 < gp_ar (kd p) := by omega
      have ch0 := S.2.2.2.1 p hpn 0 ar0
      rw [Nat.add_zero] at ch0
      have e3 : nI p * 3 = nI (3 * p) := by rw [show (nI p * 3 : Int32) = nI (p * 3) from pk_mul p 3, Nat.mul_comm]
      have c0 := (gp_ch_lt ok hpn ar0).1
      have v3 := vp_in_nI (show 3 * p < 96 by omega) (by decide)
      have kb : kd p = 9 ∨ kd p = 12 ∨ kd p = 15 ∨ kd p = 17 := by
        unfold gp_bd at z
        rw [if_neg (by omega)] at z
        by_cases y : kd p = 12
        · omega
        · rw [if_neg y] at z
          by_cases w : kd p = 9 ∨ kd p = 15 ∨ kd p = 17
          · omega
          · rw [if_neg w] at z; omega
      rw [e3, nI_clamp (show 3 * p < 2 ^ 31 by omega), ch0]
      refine ⟨vp, nm_e (pk_eq (kd p) 9 (fun k9 => ⟨v3, ?_⟩) (fun k9 => ⟨v3, vp_in_nI (by omega) (by decide), ?_⟩))⟩
      · refine h _ (Or.inl ⟨c0, gp_ty_c0 ok so hpn (Or.inl k9)⟩) ?_
        rw [hG, k9, I.2.1 _ c0 (gp_ty_c0 ok so hpn (Or.inl k9))]
        rfl
      · obtain ⟨_, _, ⟨y, y1, y2, y3⟩, _⟩ := I.2.2 _ (hb1 k9)
        have y64 := gy_o_lt hn y1
        have vy := vp_in_nI y64 (by decide)
        have ky := (gd_k y3).1
        dsimp only at ky
        have n1 : ¬ a_tyK y = 1 := by
          rw [ky]
          rcases kb with e | e | e | e
          · exact absurd e k9
          · rw [x1.1 e]; decide
          · rw [x1.2.1 e]; decide
          · rw [x1.2.2 e]; decide
        obtain ⟨a, a1, a2⟩ := (I.1 y y1).1 n1
        have a64 := gy_o_lt hn a1
        have eL : gd_L (a_tyK, a_tyG, a_tyA, a_tyB) y = a := by unfold gd_L; rw [a2]; exact nI_clamp (by omega)
        have dL : gd_D (a_tyK, a_tyG, a_tyA, a_tyB) a = gt_l (gt_t kd ag n (gp_ch kd n p 0)) := by rw [← eL]; exact gd_l y3 n1
        dsimp only at a2
        rw [nI_clamp (show gp_ch kd n p 0 < 2 ^ 31 by omega), y2]
        refine nm_e ?_
        rw [nI_clamp (show y < 2 ^ 31 by omega), a2]
        have right : ¬ gt_k (gt_t kd ag n (gp_ch kd n p 0)) = 5 → ∃ b, gy_o kd n P b ∧ a_tyB y = nI b ∧ gd_D (a_tyK, a_tyG, a_tyA, a_tyB) b = gt_r (gt_t kd ag n (gp_ch kd n p 0)) := by
          intro n5
          have n5' : ¬ a_tyK y = 5 := by rw [ky]; exact n5
          obtain ⟨b, b1, b2⟩ := (I.1 y y1).2 n1 n5'
          have b64 := gy_o_lt hn b1
          have eR : gd_R (a_tyK, a_tyG, a_tyA, a_tyB) y = b := by unfold gd_R; rw [b2]; exact nI_clamp (by omega)
          exact ⟨b, b1, b2, by rw [← eR]; exact gd_r y3 n1 n5'⟩
        refine pk_eq (kd p) 12 (fun k12 => ?_) (fun k12 => pk_eq (kd p) 15 (fun k15 => ⟨vx, ?_⟩) (fun k15 => ⟨vy, ?_⟩))
        · have bd : gp_bd (kd p) j = 2 := by unfold gp_bd; rw [if_neg (by omega), if_pos k12]
          refine pk_eq cnt 0 (fun c0 => ⟨vy, ?_⟩) (fun c0 => ⟨vy, ?_⟩)
          · obtain ⟨b, b1, b2, b3⟩ := right (by rw [x1.1 k12]; decide)
            rw [b2]
            refine h b b1 ?_
            rw [hG, bd, c0, k12, b3]
            rfl
          · refine h a a1 ?_
            rw [hG, bd, k12, show 2 - 1 - cnt = 0 by omega, dL]
            rfl
        · refine pk_eq j 1 (fun j1 => ⟨vy, ?_⟩) (fun j1 => ⟨vy, ?_⟩)
          · refine h a a1 ?_
            rw [hG, k15, j1, dL]
            rfl
          · obtain ⟨b, b1, b2, b3⟩ := right (by rw [x1.2.1 k15]; decide)
            rw [b2]
            refine h b b1 ?_
            rw [hG, k15, b3]
            show _ = (if j = 1 then _ else _)
            rw [if_neg j1]
        · refine h a a1 ?_
          have k17 : kd p = 17 := by omega
          rw [hG, k17, dL]
          rfl
theorem gy_vt {post : Int32 → Prop} {kd : Nat → Nat} {ag : Nat → Int32} {n t i : Nat} {P : Nat → Prop} (A : gt_P kd ag n) (S : gy_S kd n a_kind a_ch a_par a_pos a_seen) (I : gy_TI kd ag n P a_ty a_bg a_ux a_uy a_u (a_tyK, a_tyG, a_tyA, a_tyB)) (ht : t < n) (hi : i < gp_sn kd t) (hB : gy_HB kd ag n P t)
    (h : ∀ y, gy_o kd n P y → gd_D (a_tyK, a_tyG, a_tyA, a_tyB) y = gt_G kd ag n t (gp_sn kd t - 1 - i) → post (nI y)) : wpY_varType post (f_dLim, f_rLim, f_fLim, f_n, f_stat, f_err, f_out, f_vInt, f_recs, f_drf, f_fsp, a_kind, a_arg, a_ch, a_par, a_pos, a_seen, a_st, a_ty, a_tyK, a_tyG, a_tyA, a_tyB, a_u, a_bg, a_ux, a_uy, a_stk, a_eqA, a_eqB, a_rT, a_rE, a_rG, a_rN, a_rC, a_rX, a_fK, a_fA, a_fE) (nI t) (nI i) :=
  ⟨t + 1, gy_vt_l A S I (t + 1) t i 0 (by omega) ht hi (by have := A.1.2.1; omega) hB h⟩
end

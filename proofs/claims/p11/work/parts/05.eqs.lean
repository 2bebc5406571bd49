theorem gt_q2 {kd : Nat → Nat} {ag : Nat → Int32} {n d : Nat} (h : gp_ok kd n) (hd : d < n) (hk : kd d = 2) : gt_t kd ag n d = gt_mk 2 (ag d) (gt_t kd ag n (gp_ch kd n d 0)) (gt_t kd ag n (gp_ch kd n d 1)) := by
  have a0 := gt_mu_ch h hd (j := 0) (by rw [hk]; decide)
  have a1 := gt_mu_ch h hd (j := 1) (by rw [hk]; decide)
  have e : (gt_f kd ag n d).1 = gt_mk (nI 2) (ag d) ((if gt_mu kd n (gp_ch kd n d 0) < gt_mu kd n d then gt_f kd ag n (gp_ch kd n d 0) else gt_v0)).1 ((if gt_mu kd n (gp_ch kd n d 1) < gt_mu kd n d then gt_f kd ag n (gp_ch kd n d 1) else gt_v0)).1 := by
    rw [gt_f_e]; simp [gt_F, hk]
  rw [if_pos a0, if_pos a1] at e
  exact e
theorem gt_q3 {kd : Nat → Nat} {ag : Nat → Int32} {n d : Nat} (h : gp_ok kd n) (hd : d < n) (hk : kd d = 3) : gt_t kd ag n d = gt_mk 3 (ag d) (gt_t kd ag n (gp_ch kd n d 0)) (gt_t kd ag n (gp_ch kd n d 1)) := by
  have a0 := gt_mu_ch h hd (j := 0) (by rw [hk]; decide)
  have a1 := gt_mu_ch h hd (j := 1) (by rw [hk]; decide)
  have e : (gt_f kd ag n d).1 = gt_mk (nI 3) (ag d) ((if gt_mu kd n (gp_ch kd n d 0) < gt_mu kd n d then gt_f kd ag n (gp_ch kd n d 0) else gt_v0)).1 ((if gt_mu kd n (gp_ch kd n d 1) < gt_mu kd n d then gt_f kd ag n (gp_ch kd n d 1) else gt_v0)).1 := by
    rw [gt_f_e]; simp [gt_F, hk]
  rw [if_pos a0, if_pos a1] at e
  exact e
theorem gt_q4 {kd : Nat → Nat} {ag : Nat → Int32} {n d : Nat} (h : gp_ok kd n) (hd : d < n) (hk : kd d = 4) : gt_t kd ag n d = gt_mk 4 (ag d) (gt_t kd ag n (gp_ch kd n d 0)) (gt_t kd ag n (gp_ch kd n d 1)) := by
  have a0 := gt_mu_ch h hd (j := 0) (by rw [hk]; decide)
  have a1 := gt_mu_ch h hd (j := 1) (by rw [hk]; decide)
  have e : (gt_f kd ag n d).1 = gt_mk (nI 4) (ag d) ((if gt_mu kd n (gp_ch kd n d 0) < gt_mu kd n d then gt_f kd ag n (gp_ch kd n d 0) else gt_v0)).1 ((if gt_mu kd n (gp_ch kd n d 1) < gt_mu kd n d then gt_f kd ag n (gp_ch kd n d 1) else gt_v0)).1 := by
    rw [gt_f_e]; simp [gt_F, hk]
  rw [if_pos a0, if_pos a1] at e
  exact e
theorem gt_q5 {kd : Nat → Nat} {ag : Nat → Int32} {n d : Nat} (h : gp_ok kd n) (hd : d < n) (hk : kd d = 5) (r : gt_Ty) : gt_t kd ag n d = gt_mk 5 (ag d) (gt_t kd ag n (gp_ch kd n d 0)) r := by
  have a0 := gt_mu_ch h hd (j := 0) (by rw [hk]; decide)
  have e : (gt_f kd ag n d).1 = gt_mk (nI 5) (ag d) ((if gt_mu kd n (gp_ch kd n d 0) < gt_mu kd n d then gt_f kd ag n (gp_ch kd n d 0) else gt_v0)).1 ((if gt_mu kd n (gp_ch kd n d 1) < gt_mu kd n d then gt_f kd ag n (gp_ch kd n d 1) else gt_v0)).1 := by
    rw [gt_f_e]; simp [gt_F, hk]
  rw [if_pos a0] at e
  exact e.trans gt_mk_5
theorem gt_q1 {kd : Nat → Nat} {ag : Nat → Int32} {n d : Nat} (hk : kd d = 1) (l r : gt_Ty) : gt_t kd ag n d = gt_mk 1 (ag d) l r := by
  have e : (gt_f kd ag n d).1 = gt_mk (nI 1) (ag d) ((if gt_mu kd n (gp_ch kd n d 0) < gt_mu kd n d then gt_f kd ag n (gp_ch kd n d 0) else gt_v0)).1 ((if gt_mu kd n (gp_ch kd n d 1) < gt_mu kd n d then gt_f kd ag n (gp_ch kd n d 1) else gt_v0)).1 := by
    rw [gt_f_e]; simp [gt_F, hk]
  exact e.trans gt_mk_1
theorem gt_q7 {kd : Nat → Nat} {ag : Nat → Int32} {n d : Nat} (h : gp_ok kd n) (hd : d < n) (hk : kd d = 7) : gt_f kd ag n d = (gt_mk 1 0 (fun _ => none) (fun _ => none), gt_z, 0) := by
  rw [gt_f_e]
  simp [gt_F, hk, gt_t, gt_u]
theorem gt_q8 {kd : Nat → Nat} {ag : Nat → Int32} {n d : Nat} (h : gp_ok kd n) (hd : d < n) (hk : kd d = 8) : gt_f kd ag n d = ((gt_t kd ag n (gp_ch kd n d 0)), fun v => gt_add (gt_u kd ag n (gp_ch kd n d 0) v) (gt_u kd ag n (gp_ch kd n d 1) v), 0) := by
  have a0 := gt_mu_ch h hd (j := 0) (by rw [hk]; decide)
  have a1 := gt_mu_ch h hd (j := 1) (by rw [hk]; decide)
  rw [gt_f_e]
  simp [gt_F, hk, gt_t, gt_u, a0, a1]
theorem gt_q9 {kd : Nat → Nat} {ag : Nat → Int32} {n d : Nat} (h : gp_ok kd n) (hd : d < n) (hk : kd d = 9) : gt_f kd ag n d = (gt_mk 4 (nI (gt_se (ag d) (gt_u kd ag n (gp_ch kd n d 1) (gp_sn kd d)))) (gt_t kd ag n (gp_ch kd n d 0)) (gt_t kd ag n (gp_ch kd n d 1)), fun v => (gt_u kd ag n (gp_ch kd n d 1) v), gt_se (ag d) (gt_u kd ag n (gp_ch kd n d 1) (gp_sn kd d))) := by
  have a0 := gt_mu_ch h hd (j := 0) (by rw [hk]; decide)
  have a1 := gt_mu_ch h hd (j := 1) (by rw [hk]; decide)
  rw [gt_f_e]
  simp [gt_F, hk, gt_t, gt_u, a0, a1]
theorem gt_q10 {kd : Nat → Nat} {ag : Nat → Int32} {n d : Nat} (h : gp_ok kd n) (hd : d < n) (hk : kd d = 10) : gt_f kd ag n d = (gt_r (gt_t kd ag n (gp_ch kd n d 0)), fun v => gt_add (gt_u kd ag n (gp_ch kd n d 0) v) (gt_mul (gt_g (gt_t kd ag n (gp_ch kd n d 0))).toNatClampNeg (gt_u kd ag n (gp_ch kd n d 1) v)), 0) := by
  have a0 := gt_mu_ch h hd (j := 0) (by rw [hk]; decide)
  have a1 := gt_mu_ch h hd (j := 1) (by rw [hk]; decide)
  rw [gt_f_e]
  simp [gt_F, hk, gt_t, gt_u, a0, a1]
theorem gt_q11 {kd : Nat → Nat} {ag : Nat → Int32} {n d : Nat} (h : gp_ok kd n) (hd : d < n) (hk : kd d = 11) : gt_f kd ag n d = (gt_mk 2 0 (gt_t kd ag n (gp_ch kd n d 0)) (gt_t kd ag n (gp_ch kd n d 1)), fun v => gt_add (gt_u kd ag n (gp_ch kd n d 0) v) (gt_u kd ag n (gp_ch kd n d 1) v), 0) := by
  have a0 := gt_mu_ch h hd (j := 0) (by rw [hk]; decide)
  have a1 := gt_mu_ch h hd (j := 1) (by rw [hk]; decide)
  rw [gt_f_e]
  simp [gt_F, hk, gt_t, gt_u, a0, a1]
theorem gt_q12 {kd : Nat → Nat} {ag : Nat → Int32} {n d : Nat} (h : gp_ok kd n) (hd : d < n) (hk : kd d = 12) : gt_f kd ag n d = ((gt_t kd ag n (gp_ch kd n d 1)), fun v => gt_add (gt_mul (gt_max (gt_se (ag d) (gt_max (gt_u kd ag n (gp_ch kd n d 1) (gp_sn kd d)) (gt_u kd ag n (gp_ch kd n d 1) (gp_sn kd d + 1)))) 1) (gt_u kd ag n (gp_ch kd n d 0) v)) (gt_u kd ag n (gp_ch kd n d 1) v), gt_se (ag d) (gt_max (gt_u kd ag n (gp_ch kd n d 1) (gp_sn kd d)) (gt_u kd ag n (gp_ch kd n d 1) (gp_sn kd d + 1)))) := by
  have a0 := gt_mu_ch h hd (j := 0) (by rw [hk]; decide)
  have a1 := gt_mu_ch h hd (j := 1) (by rw [hk]; decide)
  rw [gt_f_e]
  simp [gt_F, hk, gt_t, gt_u, a0, a1]
theorem gt_q13 {kd : Nat → Nat} {ag : Nat → Int32} {n d : Nat} (h : gp_ok kd n) (hd : d < n) (hk : kd d = 13) : gt_f kd ag n d = (gt_mk 3 0 (gt_t kd ag n (gp_ch kd n d 1)) (gt_t kd ag n (gp_ch kd n d 0)), fun v => (gt_u kd ag n (gp_ch kd n d 1) v), 0) := by
  have a0 := gt_mu_ch h hd (j := 0) (by rw [hk]; decide)
  have a1 := gt_mu_ch h hd (j := 1) (by rw [hk]; decide)
  rw [gt_f_e]
  simp [gt_F, hk, gt_t, gt_u, a0, a1]
theorem gt_q14 {kd : Nat → Nat} {ag : Nat → Int32} {n d : Nat} (h : gp_ok kd n) (hd : d < n) (hk : kd d = 14) : gt_f kd ag n d = (gt_mk 3 0 (gt_t kd ag n (gp_ch kd n d 0)) (gt_t kd ag n (gp_ch kd n d 1)), fun v => (gt_u kd ag n (gp_ch kd n d 1) v), 0) := by
  have a0 := gt_mu_ch h hd (j := 0) (by rw [hk]; decide)
  have a1 := gt_mu_ch h hd (j := 1) (by rw [hk]; decide)
  rw [gt_f_e]
  simp [gt_F, hk, gt_t, gt_u, a0, a1]
theorem gt_q15 {kd : Nat → Nat} {ag : Nat → Int32} {n d : Nat} (h : gp_ok kd n) (hd : d < n) (hk : kd d = 15) : gt_f kd ag n d = ((gt_t kd ag n (gp_ch kd n d 1)), fun v => gt_add (gt_mul (gt_max (gt_se (ag d) (gt_max (gt_u kd ag n (gp_ch kd n d 1) (gp_sn kd d)) (gt_u kd ag n (gp_ch kd n d 2) (gp_sn kd d)))) 1) (gt_u kd ag n (gp_ch kd n d 0) v)) (gt_max (gt_u kd ag n (gp_ch kd n d 1) v) (gt_u kd ag n (gp_ch kd n d 2) v)), gt_se (ag d) (gt_max (gt_u kd ag n (gp_ch kd n d 1) (gp_sn kd d)) (gt_u kd ag n (gp_ch kd n d 2) (gp_sn kd d)))) := by
  have a0 := gt_mu_ch h hd (j := 0) (by rw [hk]; decide)
  have a1 := gt_mu_ch h hd (j := 1) (by rw [hk]; decide)
  have a2 := gt_mu_ch h hd (j := 2) (by rw [hk]; decide)
  rw [gt_f_e]
  simp [gt_F, hk, gt_t, gt_u, a0, a1, a2]
theorem gt_q16 {kd : Nat → Nat} {ag : Nat → Int32} {n d : Nat} (h : gp_ok kd n) (hd : d < n) (hk : kd d = 16) : gt_f kd ag n d = (gt_mk 5 (ag d) (gt_t kd ag n (gp_ch kd n d 0)) (fun _ => none), fun v => gt_mul (ag d).toNatClampNeg (gt_u kd ag n (gp_ch kd n d 0) v), 0) := by
  have a0 := gt_mu_ch h hd (j := 0) (by rw [hk]; decide)
  rw [gt_f_e]
  simp [gt_F, hk, gt_t, gt_u, a0]
theorem gt_q17 {kd : Nat → Nat} {ag : Nat → Int32} {n d : Nat} (h : gp_ok kd n) (hd : d < n) (hk : kd d = 17) : gt_f kd ag n d = ((gt_t kd ag n (gp_ch kd n d 1)), fun v => gt_add (gt_u kd ag n (gp_ch kd n d 0) v) (gt_u kd ag n (gp_ch kd n d 1) v), (gt_g (gt_t kd ag n (gp_ch kd n d 0))).toNatClampNeg) := by
  have a0 := gt_mu_ch h hd (j := 0) (by rw [hk]; decide)
  have a1 := gt_mu_ch h hd (j := 1) (by rw [hk]; decide)
  rw [gt_f_e]
  simp [gt_F, hk, gt_t, gt_u, a0, a1]
noncomputable def gt_G (kd : Nat → Nat) (ag : Nat → Int32) (n d v : Nat) : gt_Ty := gt_nv (kd (gp_lc kd d v).1) (gp_lc kd d v).2 (v - gp_sn kd (gp_lc kd d v).1) (gt_t kd ag n (gp_ch kd n (gp_lc kd d v).1 0))
theorem gt_q6 {kd : Nat → Nat} {ag : Nat → Int32} {n d : Nat} (h : gp_ok kd n) (hd : d < n) (hk : kd d = 6) (hv : (gt_lv kd ag d) < gp_sn kd d) : gt_f kd ag n d = (gt_G kd ag n d (gt_lv kd ag d), fun v => if v = (gt_lv kd ag d) then 1 else 0, 0) := by
  have a0 := gt_mu_lc h hd hv
  rw [gt_f_e]
  simp [gt_F, hk, gt_G, gt_t, a0]
theorem gt_t7 {kd : Nat → Nat} {ag : Nat → Int32} {n d : Nat} (h : gp_ok kd n) (hd : d < n) (hk : kd d = 7) : gt_t kd ag n d = gt_mk 1 0 (fun _ => none) (fun _ => none) := by
  rw [show gt_t kd ag n d = (gt_f kd ag n d).1 from rfl, gt_q7 h hd hk]
theorem gt_u7 {kd : Nat → Nat} {ag : Nat → Int32} {n d : Nat} (h : gp_ok kd n) (hd : d < n) (hk : kd d = 7) (v : Nat) : gt_u kd ag n d v = 0 := by
  rw [show gt_u kd ag n d v = (gt_f kd ag n d).2.1 v from rfl, gt_q7 h hd hk]
  rfl
theorem gt_t8 {kd : Nat → Nat} {ag : Nat → Int32} {n d : Nat} (h : gp_ok kd n) (hd : d < n) (hk : kd d = 8) : gt_t kd ag n d = (gt_t kd ag n (gp_ch kd n d 0)) := by
  rw [show gt_t kd ag n d = (gt_f kd ag n d).1 from rfl, gt_q8 h hd hk]
theorem gt_u8 {kd : Nat → Nat} {ag : Nat → Int32} {n d : Nat} (h : gp_ok kd n) (hd : d < n) (hk : kd d = 8) (v : Nat) : gt_u kd ag n d v = gt_add (gt_u kd ag n (gp_ch kd n d 0) v) (gt_u kd ag n (gp_ch kd n d 1) v) := by
  rw [show gt_u kd ag n d v = (gt_f kd ag n d).2.1 v from rfl, gt_q8 h hd hk]
theorem gt_t9 {kd : Nat → Nat} {ag : Nat → Int32} {n d : Nat} (h : gp_ok kd n) (hd : d < n) (hk : kd d = 9) : gt_t kd ag n d = gt_mk 4 (nI (gt_se (ag d) (gt_u kd ag n (gp_ch kd n d 1) (gp_sn kd d)))) (gt_t kd ag n (gp_ch kd n d 0)) (gt_t kd ag n (gp_ch kd n d 1)) := by
  rw [show gt_t kd ag n d = (gt_f kd ag n d).1 from rfl, gt_q9 h hd hk]
theorem gt_u9 {kd : Nat → Nat} {ag : Nat → Int32} {n d : Nat} (h : gp_ok kd n) (hd : d < n) (hk : kd d = 9) (v : Nat) : gt_u kd ag n d v = (gt_u kd ag n (gp_ch kd n d 1) v) := by
  rw [show gt_u kd ag n d v = (gt_f kd ag n d).2.1 v from rfl, gt_q9 h hd hk]
theorem gt_b9 {kd : Nat → Nat} {ag : Nat → Int32} {n d : Nat} (h : gp_ok kd n) (hd : d < n) (hk : kd d = 9) : gt_b kd ag n d = gt_se (ag d) (gt_u kd ag n (gp_ch kd n d 1) (gp_sn kd d)) := by
  rw [show gt_b kd ag n d = (gt_f kd ag n d).2.2 from rfl, gt_q9 h hd hk]
theorem gt_t10 {kd : Nat → Nat} {ag : Nat → Int32} {n d : Nat} (h : gp_ok kd n) (hd : d < n) (hk : kd d = 10) : gt_t kd ag n d = gt_r (gt_t kd ag n (gp_ch kd n d 0)) := by
  rw [show gt_t kd ag n d = (gt_f kd ag n d).1 from rfl, gt_q10 h hd hk]
theorem gt_u10 {kd : Nat → Nat} {ag : Nat → Int32} {n d : Nat} (h : gp_ok kd n) (hd : d < n) (hk : kd d = 10) (v : Nat) : gt_u kd ag n d v = gt_add (gt_u kd ag n (gp_ch kd n d 0) v) (gt_mul (gt_g (gt_t kd ag n (gp_ch kd n d 0))).toNatClampNeg (gt_u kd ag n (gp_ch kd n d 1) v)) := by
  rw [show gt_u kd ag n d v = (gt_f kd ag n d).2.1 v from rfl, gt_q10 h hd hk]
theorem gt_t11 {kd : Nat → Nat} {ag : Nat → Int32} {n d : Nat} (h : gp_ok kd n) (hd : d < n) (hk : kd d = 11) : gt_t kd ag n d = gt_mk 2 0 (gt_t kd ag n (gp_ch kd n d 0)) (gt_t kd ag n (gp_ch kd n d 1)) := by
  rw [show gt_t kd ag n d = (gt_f kd ag n d).1 from rfl, gt_q11 h hd hk]
theorem gt_u11 {kd : Nat → Nat} {ag : Nat → Int32} {n d : Nat} (h : gp_ok kd n) (hd : d < n) (hk : kd d = 11) (v : Nat) : gt_u kd ag n d v = gt_add (gt_u kd ag n (gp_ch kd n d 0) v) (gt_u kd ag n (gp_ch kd n d 1) v) := by
  rw [show gt_u kd ag n d v = (gt_f kd ag n d).2.1 v from rfl, gt_q11 h hd hk]
theorem gt_t12 {kd : Nat → Nat} {ag : Nat → Int32} {n d : Nat} (h : gp_ok kd n) (hd : d < n) (hk : kd d = 12) : gt_t kd ag n d = (gt_t kd ag n (gp_ch kd n d 1)) := by
  rw [show gt_t kd ag n d = (gt_f kd ag n d).1 from rfl, gt_q12 h hd hk]
theorem gt_u12 {kd : Nat → Nat} {ag : Nat → Int32} {n d : Nat} (h : gp_ok kd n) (hd : d < n) (hk : kd d = 12) (v : Nat) : gt_u kd ag n d v = gt_add (gt_mul (gt_max (gt_se (ag d) (gt_max (gt_u kd ag n (gp_ch kd n d 1) (gp_sn kd d)) (gt_u kd ag n (gp_ch kd n d 1) (gp_sn kd d + 1)))) 1) (gt_u kd ag n (gp_ch kd n d 0) v)) (gt_u kd ag n (gp_ch kd n d 1) v) := by
  rw [show gt_u kd ag n d v = (gt_f kd ag n d).2.1 v from rfl, gt_q12 h hd hk]
theorem gt_b12 {kd : Nat → Nat} {ag : Nat → Int32} {n d : Nat} (h : gp_ok kd n) (hd : d < n) (hk : kd d = 12) : gt_b kd ag n d = gt_se (ag d) (gt_max (gt_u kd ag n (gp_ch kd n d 1) (gp_sn kd d)) (gt_u kd ag n (gp_ch kd n d 1) (gp_sn kd d + 1))) := by
  rw [show gt_b kd ag n d = (gt_f kd ag n d).2.2 from rfl, gt_q12 h hd hk]
theorem gt_t13 {kd : Nat → Nat} {ag : Nat → Int32} {n d : Nat} (h : gp_ok kd n) (hd : d < n) (hk : kd d = 13) : gt_t kd ag n d = gt_mk 3 0 (gt_t kd ag n (gp_ch kd n d 1)) (gt_t kd ag n (gp_ch kd n d 0)) := by
  rw [show gt_t kd ag n d = (gt_f kd ag n d).1 from rfl, gt_q13 h hd hk]
theorem gt_u13 {kd : Nat → Nat} {ag : Nat → Int32} {n d : Nat} (h : gp_ok kd n) (hd : d < n) (hk : kd d = 13) (v : Nat) : gt_u kd ag n d v = (gt_u kd ag n (gp_ch kd n d 1) v) := by
  rw [show gt_u kd ag n d v = (gt_f kd ag n d).2.1 v from rfl, gt_q13 h hd hk]
theorem gt_t14 {kd : Nat → Nat} {ag : Nat → Int32} {n d : Nat} (h : gp_ok kd n) (hd : d < n) (hk : kd d = 14) : gt_t kd ag n d = gt_mk 3 0 (gt_t kd ag n (gp_ch kd n d 0)) (gt_t kd ag n (gp_ch kd n d 1)) := by
  rw [show gt_t kd ag n d = (gt_f kd ag n d).1 from rfl, gt_q14 h hd hk]
theorem gt_u14 {kd : Nat → Nat} {ag : Nat → Int32} {n d : Nat} (h : gp_ok kd n) (hd : d < n) (hk : kd d = 14) (v : Nat) : gt_u kd ag n d v = (gt_u kd ag n (gp_ch kd n d 1) v) := by
  rw [show gt_u kd ag n d v = (gt_f kd ag n d).2.1 v from rfl, gt_q14 h hd hk]
theorem gt_t15 {kd : Nat → Nat} {ag : Nat → Int32} {n d : Nat} (h : gp_ok kd n) (hd : d < n) (hk : kd d = 15) : gt_t kd ag n d = (gt_t kd ag n (gp_ch kd n d 1)) := by
  rw [show gt_t kd ag n d = (gt_f kd ag n d).1 from rfl, gt_q15 h hd hk]
theorem gt_u15 {kd : Nat → Nat} {ag : Nat → Int32} {n d : Nat} (h : gp_ok kd n) (hd : d < n) (hk : kd d = 15) (v : Nat) : gt_u kd ag n d v = gt_add (gt_mul (gt_max (gt_se (ag d) (gt_max (gt_u kd ag n (gp_ch kd n d 1) (gp_sn kd d)) (gt_u kd ag n (gp_ch kd n d 2) (gp_sn kd d)))) 1) (gt_u kd ag n (gp_ch kd n d 0) v)) (gt_max (gt_u kd ag n (gp_ch kd n d 1) v) (gt_u kd ag n (gp_ch kd n d 2) v)) := by
  rw [show gt_u kd ag n d v = (gt_f kd ag n d).2.1 v from rfl, gt_q15 h hd hk]
theorem gt_b15 {kd : Nat → Nat} {ag : Nat → Int32} {n d : Nat} (h : gp_ok kd n) (hd : d < n) (hk : kd d = 15) : gt_b kd ag n d = gt_se (ag d) (gt_max (gt_u kd ag n (gp_ch kd n d 1) (gp_sn kd d)) (gt_u kd ag n (gp_ch kd n d 2) (gp_sn kd d))) := by
  rw [show gt_b kd ag n d = (gt_f kd ag n d).2.2 from rfl, gt_q15 h hd hk]
theorem gt_t16 {kd : Nat → Nat} {ag : Nat → Int32} {n d : Nat} (h : gp_ok kd n) (hd : d < n) (hk : kd d = 16) : gt_t kd ag n d = gt_mk 5 (ag d) (gt_t kd ag n (gp_ch kd n d 0)) (fun _ => none) := by
  rw [show gt_t kd ag n d = (gt_f kd ag n d).1 from rfl, gt_q16 h hd hk]
theorem gt_u16 {kd : Nat → Nat} {ag : Nat → Int32} {n d : Nat} (h : gp_ok kd n) (hd : d < n) (hk : kd d = 16) (v : Nat) : gt_u kd ag n d v = gt_mul (ag d).toNatClampNeg (gt_u kd ag n (gp_ch kd n d 0) v) := by
  rw [show gt_u kd ag n d v = (gt_f kd ag n d).2.1 v from rfl, gt_q16 h hd hk]
theorem gt_t17 {kd : Nat → Nat} {ag : Nat → Int32} {n d : Nat} (h : gp_ok kd n) (hd : d < n) (hk : kd d = 17) : gt_t kd ag n d = (gt_t kd ag n (gp_ch kd n d 1)) := by
  rw [show gt_t kd ag n d = (gt_f kd ag n d).1 from rfl, gt_q17 h hd hk]
theorem gt_u17 {kd : Nat → Nat} {ag : Nat → Int32} {n d : Nat} (h : gp_ok kd n) (hd : d < n) (hk : kd d = 17) (v : Nat) : gt_u kd ag n d v = gt_add (gt_u kd ag n (gp_ch kd n d 0) v) (gt_u kd ag n (gp_ch kd n d 1) v) := by
  rw [show gt_u kd ag n d v = (gt_f kd ag n d).2.1 v from rfl, gt_q17 h hd hk]
theorem gt_b17 {kd : Nat → Nat} {ag : Nat → Int32} {n d : Nat} (h : gp_ok kd n) (hd : d < n) (hk : kd d = 17) : gt_b kd ag n d = (gt_g (gt_t kd ag n (gp_ch kd n d 0))).toNatClampNeg := by
  rw [show gt_b kd ag n d = (gt_f kd ag n d).2.2 from rfl, gt_q17 h hd hk]
theorem gt_t6 {kd : Nat → Nat} {ag : Nat → Int32} {n d : Nat} (h : gp_ok kd n) (hd : d < n) (hk : kd d = 6) (hv : (gt_lv kd ag d) < gp_sn kd d) : gt_t kd ag n d = gt_G kd ag n d (gt_lv kd ag d) := by
  rw [show gt_t kd ag n d = (gt_f kd ag n d).1 from rfl, gt_q6 h hd hk hv]
theorem gt_u6 {kd : Nat → Nat} {ag : Nat → Int32} {n d : Nat} (h : gp_ok kd n) (hd : d < n) (hk : kd d = 6) (hv : (gt_lv kd ag d) < gp_sn kd d) (v : Nat) : gt_u kd ag n d v = if v = (gt_lv kd ag d) then 1 else 0 := by
  rw [show gt_u kd ag n d v = (gt_f kd ag n d).2.1 v from rfl, gt_q6 h hd hk hv]
theorem gt_se_le {a : Int32} {m : Nat} (ha : ∃ g, g ≤ 3 ∧ a = nI g) (hm : m ≤ 2) : gt_se a m ≤ 2 := by
  obtain ⟨g, hg, rfl⟩ := ha
  unfold gt_se
  split
  · exact hm
  · rename_i z
    rw [nI_clamp (by omega)]
    rcases Nat.lt_or_ge g 3 with y | y
    · omega
    · have : g = 3 := by omega
      subst this
      exact absurd rfl z
/-! the tests of a node -/
noncomputable def gt_nd (kd : Nat → Nat) (ag : Nat → Int32) (n d : Nat) : Nat :=
  if kd d = 12 then gt_max (gt_u kd ag n (gp_ch kd n d 1) (gp_sn kd d)) (gt_u kd ag n (gp_ch kd n d 1) (gp_sn kd d + 1))
  else if kd d = 15 then gt_max (gt_u kd ag n (gp_ch kd n d 1) (gp_sn kd d)) (gt_u kd ag n (gp_ch kd n d 2) (gp_sn kd d))
  else gt_u kd ag n (gp_ch kd n d 1) (gp_sn kd d)
noncomputable def gt_if (P : Prop) (a b : Nat) : Nat := @ite Nat P (Classical.propDecidable P) a b
theorem gt_if_t {P : Prop} {a b : Nat} (h : P) : gt_if P a b = a := by unfold gt_if; rw [if_pos h]
theorem gt_if_f {P : Prop} {a b : Nat} (h : ¬ P) : gt_if P a b = b := by unfold gt_if; rw [if_neg h]
/-- the test behind the first child -/
noncomputable def gt_e1 (kd : Nat → Nat) (ag : Nat → Int32) (n d : Nat) : Nat :=
  gt_if ((kd d = 12 ∧ ¬ gt_k (gt_t kd ag n (gp_ch kd n d 0)) = 2) ∨ (kd d = 15 ∧ ¬ gt_k (gt_t kd ag n (gp_ch kd n d 0)) = 3) ∨ (kd d = 17 ∧ ¬ gt_k (gt_t kd ag n (gp_ch kd n d 0)) = 5)) 4 0
/-- the tests behind the last child -/
noncomputable def gt_e2 (kd : Nat → Nat) (ag : Nat → Int32) (n d : Nat) : Nat :=
  gt_if ((kd d = 8 ∧ ¬ (gt_k (gt_t kd ag n (gp_ch kd n d 0)) = 1 ∧ gt_k (gt_t kd ag n (gp_ch kd n d 1)) = 1)) ∨
    (kd d = 10 ∧ ¬ (gt_k (gt_t kd ag n (gp_ch kd n d 0)) = 4 ∧ gt_l (gt_t kd ag n (gp_ch kd n d 0)) = gt_t kd ag n (gp_ch kd n d 1))) ∨
    (kd d = 15 ∧ ¬ gt_t kd ag n (gp_ch kd n d 1) = gt_t kd ag n (gp_ch kd n d 2))) 4
  (gt_if (((kd d = 9 ∨ kd d = 12 ∨ kd d = 15) ∧ ¬ ag d = 3 ∧ (ag d).toNatClampNeg < gt_nd kd ag n d) ∨
    (kd d = 17 ∧ (gt_g (gt_t kd ag n (gp_ch kd n d 0))).toNatClampNeg < gt_nd kd ag n d)) 5 0)
noncomputable def gt_H (kd : Nat → Nat) (ag : Nat → Int32) (n : Nat) (f : Nat → Nat × Nat) (d : Nat) : Nat × Nat :=
  if kd d ≤ 5 then (0, 0)
  else if 0 < gp_ar (kd d) ∧ ¬ (f (gp_ch kd n d 0)).1 = 0 then f (gp_ch kd n d 0)
  else if ¬ gt_e1 kd ag n d = 0 then (gt_e1 kd ag n d, d)
  else if 1 < gp_ar (kd d) ∧ ¬ (f (gp_ch kd n d 1)).1 = 0 then f (gp_ch kd n d 1)
  else if 2 < gp_ar (kd d) ∧ ¬ (f (gp_ch kd n d 2)).1 = 0 then f (gp_ch kd n d 2)
  else (gt_e2 kd ag n d, d)
/-- the first error in the subtree of a node: its status (0: none) and its node -/
noncomputable def gt_er (kd : Nat → Nat) (ag : Nat → Int32) (n : Nat) : Nat → Nat × Nat := Classical.choose (gt_fx (0, 0) (fun d => 32 - d) (gt_H kd ag n))
theorem gt_er_f (kd : Nat → Nat) (ag : Nat → Int32) (n d : Nat) : gt_er kd ag n d = gt_H kd ag n (fun b => if 32 - b < 32 - d then gt_er kd ag n b else (0, 0)) d :=
  Classical.choose_spec (gt_fx (0, 0) (fun d => 32 - d) (gt_H kd ag n)) d
theorem gt_er_e {kd : Nat → Nat} {ag : Nat → Int32} {n d : Nat} (h : gp_ok kd n) (hd : d < n) : gt_er kd ag n d = gt_H kd ag n (gt_er kd ag n) d := by
  have hn := h.2.1
  have key : ∀ j, j < gp_ar (kd d) → (if 32 - gp_ch kd n d j < 32 - d then gt_er kd ag n (gp_ch kd n d j) else (0, 0)) = gt_er kd ag n (gp_ch kd n d j) := by
    intro j hj
    have a := (gp_ch_lt h hd hj).1
    have b := gp_ch_ge h hd (Nat.le_of_lt hj)
    exact if_pos (by omega)
  rw [gt_er_f]
  unfold gt_H
  dsimp only
  by_cases h5 : kd d ≤ 5
  · rw [if_pos h5, if_pos h5]
  rw [if_neg h5, if_neg h5]
  by_cases h0 : 0 < gp_ar (kd d)
  · by_cases h1 : 1 < gp_ar (kd d)
    · by_cases h2 : 2 < gp_ar (kd d)
      · simp only [key 0 h0, key 1 h1, key 2 h2]
      · simp only [key 0 h0, key 1 h1, h2, false_and, if_false]
    · have h2 : ¬ 2 < gp_ar (kd d) := by omega
      simp only [key 0 h0, h1, h2, false_and, if_false]
  · have h1 : ¬ 1 < gp_ar (kd d) := by omega
    have h2 : ¬ 2 < gp_ar (kd d) := by omega
    simp only [h0, h1, h2, false_and, if_false]
theorem gt_er_ty {kd : Nat → Nat} {ag : Nat → Int32} {n d : Nat} (h : gp_ok kd n) (hd : d < n) (hk : kd d ≤ 5) : gt_er kd ag n d = (0, 0) := by
  rw [gt_er_e h hd]; unfold gt_H; rw [if_pos hk]
/-- what no error below a term says -/
theorem gt_er_ok {kd : Nat → Nat} {ag : Nat → Int32} {n d : Nat} (h : gp_ok kd n) (hd : d < n) (hk : ¬ kd d ≤ 5) (e : (gt_er kd ag n d).1 = 0) :
    (∀ j, j < gp_ar (kd d) → (gt_er kd ag n (gp_ch kd n d j)).1 = 0) ∧ gt_e1 kd ag n d = 0 ∧ gt_e2 kd ag n d = 0 := by
  have h3 := gp_ar_le (kd d)
  rw [gt_er_e h hd] at e
  unfold gt_H at e
  rw [if_neg hk] at e
  by_cases c0 : 0 < gp_ar (kd d) ∧ ¬ (gt_er kd ag n (gp_ch kd n d 0)).1 = 0
  · rw [if_pos c0] at e; exact absurd e c0.2
  rw [if_neg c0] at e
  by_cases c1 : ¬ gt_e1 kd ag n d = 0
  · rw [if_pos c1] at e; exact absurd e c1
  rw [if_neg c1] at e
  by_cases c2 : 1 < gp_ar (kd d) ∧ ¬ (gt_er kd ag n (gp_ch kd n d 1)).1 = 0
  · rw [if_pos c2] at e; exact absurd e c2.2
  rw [if_neg c2] at e
  by_cases c3 : 2 < gp_ar (kd d) ∧ ¬ (gt_er kd ag n (gp_ch kd n d 2)).1 = 0
  · rw [if_pos c3] at e; exact absurd e c3.2
  rw [if_neg c3] at e
  refine ⟨fun j hj => ?_, Classical.not_not.mp c1, e⟩
  have : j = 0 ∨ j = 1 ∨ j = 2 := by omega
  rcases this with rfl | rfl | rfl
  · exact Classical.byContradiction fun z => c0 ⟨hj, z⟩
  · exact Classical.byContradiction fun z => c2 ⟨hj, z⟩
  · exact Classical.byContradiction fun z => c3 ⟨hj, z⟩

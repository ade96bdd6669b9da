section ZL
variable {xs : List Int32} {ls : p_Ls} {t : Nat → Option p_C} {s : d_S} {h : p_H} {i : Int} {Q : Option Value → p_H → Prop}
set_option maxRecDepth 100000 in
theorem z_body (l0 : p_lk 0 ls = some (.ref 0)) (l1 : p_lk 1 ls = some (.ref 2)) (l2 : p_lk 2 ls = some (.ref 64)) (l3 : p_lk 3 ls = some (.int (Int32.ofInt i))) (hW : k_wds t) (hH : d_V t h s) (H : v_R t s) (t0 : t 0 = some (2, 0, xs.map Value.int)) (h0 : 0 ≤ i) (hi : i + 7 ≤ xs.length) (hl : xs.length ≤ 3584) (K : z_K t h ls Q) : p_wp p_GT p_MT 100 m_L_law 27 ls [] h Q := by
  refine dw_aln (a := 0) rfl l0 (dw_iln (x := i) rfl l3 (z_ald rfl hH t0 (by omega) ⟨by omega, by omega⟩ (dw_bp (c := 63) rfl rfl (dw_and rfl ?_))))
  obtain ⟨c, hc, hcl⟩ := z_63 (x := z_X xs i)
  rw [hc]
  by_cases q0 : c = 0
  · subst q0
    exact dw_ts (u := 236) rfl (d_rl rfl) rfl (z_c0 l0 l1 l2 l3 hW hH H t0 h0 hi hl K)
  by_cases q1 : c = 1
  · subst q1
    exact dw_ts (u := 269) rfl (d_rl rfl) rfl (z_c1 l0 l1 l2 l3 hW hH H t0 h0 hi hl K)
  by_cases q2 : c = 2
  · subst q2
    exact dw_ts (u := 344) rfl (d_rl rfl) rfl (z_c2 l0 l1 l2 l3 hW hH H t0 h0 hi hl K)
  by_cases q3 : c = 3
  · subst q3
    exact dw_ts (u := 407) rfl (d_rl rfl) rfl (z_c3 l0 l1 l2 l3 hW hH H t0 h0 hi hl K)
  by_cases q4 : c = 4
  · subst q4
    exact dw_ts (u := 430) rfl (d_rl rfl) rfl (z_c4 l0 l1 l2 l3 hW hH H t0 h0 hi hl K)
  by_cases q5 : c = 5
  · subst q5
    exact dw_ts (u := 443) rfl (d_rl rfl) rfl (z_c5 l0 l1 l2 l3 hW hH H t0 h0 hi hl K)
  by_cases q6 : c = 6
  · subst q6
    exact dw_ts (u := 466) rfl (d_rl rfl) rfl (z_c6 l0 l1 l2 l3 hW hH H t0 h0 hi hl K)
  by_cases q7 : c = 7
  · subst q7
    exact dw_ts (u := 489) rfl (d_rl rfl) rfl (z_c7 l0 l1 l2 l3 hW hH H t0 h0 hi hl K)
  by_cases q8 : c = 8
  · subst q8
    exact dw_ts (u := 538) rfl (d_rl rfl) rfl (z_c8 l0 l1 l2 l3 hW hH H t0 h0 hi hl K)
  by_cases q9 : c = 9
  · subst q9
    exact dw_ts (u := 571) rfl (d_rl rfl) rfl (z_c9 l0 l1 l2 l3 hW hH H t0 h0 hi hl K)
  by_cases q10 : c = 10
  · subst q10
    exact dw_ts (u := 594) rfl (d_rl rfl) rfl (z_c10 l0 l1 l2 l3 hW hH H t0 h0 hi hl K)
  by_cases q11 : c = 11
  · subst q11
    exact dw_ts (u := 617) rfl (d_rl rfl) rfl (z_c11 l0 l1 l2 l3 hW hH H t0 h0 hi hl K)
  by_cases q12 : c = 12
  · subst q12
    exact dw_ts (u := 640) rfl (d_rl rfl) rfl (z_c12 l0 l1 l2 l3 hW hH H t0 h0 hi hl K)
  by_cases q13 : c = 13
  · subst q13
    exact dw_ts (u := 673) rfl (d_rl rfl) rfl (z_c13 l0 l1 l2 l3 hW hH H t0 h0 hi hl K)
  by_cases q14 : c = 14
  · subst q14
    exact dw_ts (u := 686) rfl (d_rl rfl) rfl (z_c14 l0 l1 l2 l3 hW hH H t0 h0 hi hl K)
  by_cases q15 : c = 15
  · subst q15
    exact dw_ts (u := 719) rfl (d_rl rfl) rfl (z_c15 l0 l1 l2 l3 hW hH H t0 h0 hi hl K)
  by_cases q16 : c = 16
  · subst q16
    exact dw_ts (u := 752) rfl (d_rl rfl) rfl (z_c16 l0 l1 l2 l3 hW hH H t0 h0 hi hl K)
  by_cases q17 : c = 17
  · subst q17
    exact dw_ts (u := 785) rfl (d_rl rfl) rfl (z_c17 l0 l1 l2 l3 hW hH H t0 h0 hi hl K)
  by_cases q18 : c = 18
  · subst q18
    exact dw_ts (u := 808) rfl (d_rl rfl) rfl (z_c18 l0 l1 l2 l3 hW hH H t0 h0 hi hl K)
  by_cases q19 : c = 19
  · subst q19
    exact dw_ts (u := 821) rfl (d_rl rfl) rfl (z_c19 l0 l1 l2 l3 hW hH H t0 h0 hi hl K)
  by_cases q20 : c = 20
  · subst q20
    exact dw_ts (u := 864) rfl (d_rl rfl) rfl (z_c20 l0 l1 l2 l3 hW hH H t0 h0 hi hl K)
  by_cases q21 : c = 21
  · subst q21
    exact dw_ts (u := 897) rfl (d_rl rfl) rfl (z_c21 l0 l1 l2 l3 hW hH H t0 h0 hi hl K)
  by_cases q22 : c = 22
  · subst q22
    exact dw_ts (u := 920) rfl (d_rl rfl) rfl (z_c22 l0 l1 l2 l3 hW hH H t0 h0 hi hl K)
  by_cases q23 : c = 23
  · subst q23
    exact dw_ts (u := 943) rfl (d_rl rfl) rfl (z_c23 l0 l1 l2 l3 hW hH H t0 h0 hi hl K)
  by_cases q24 : c = 24
  · subst q24
    exact dw_ts (u := 966) rfl (d_rl rfl) rfl (z_c24 l0 l1 l2 l3 hW hH H t0 h0 hi hl K)
  by_cases q25 : c = 25
  · subst q25
    exact dw_ts (u := 1005) rfl (d_rl rfl) rfl (z_c25 l0 l1 l2 l3 hW hH H t0 h0 hi hl K)
  by_cases q26 : c = 26
  · subst q26
    exact dw_ts (u := 1018) rfl (d_rl rfl) rfl (z_c26 l0 l1 l2 l3 hW hH H t0 h0 hi hl K)
  by_cases q27 : c = 27
  · subst q27
    exact dw_ts (u := 1031) rfl (d_rl rfl) rfl (z_c27 l0 l1 l2 l3 hW hH H t0 h0 hi hl K)
  by_cases q28 : c = 28
  · subst q28
    exact dw_ts (u := 1090) rfl (d_rl rfl) rfl (z_c28 l0 l1 l2 l3 hW hH H t0 h0 hi hl K)
  by_cases q29 : c = 29
  · subst q29
    exact dw_ts (u := 1113) rfl (d_rl rfl) rfl (z_c29 l0 l1 l2 l3 hW hH H t0 h0 hi hl K)
  by_cases q30 : c = 30
  · subst q30
    exact dw_ts (u := 1156) rfl (d_rl rfl) rfl (z_c30 l0 l1 l2 l3 hW hH H t0 h0 hi hl K)
  by_cases q31 : c = 31
  · subst q31
    exact dw_ts (u := 1179) rfl (d_rl rfl) rfl (z_c31 l0 l1 l2 l3 hW hH H t0 h0 hi hl K)
  by_cases q32 : c = 32
  · subst q32
    exact dw_ts (u := 1248) rfl (d_rl rfl) rfl (z_c32 l0 l1 l2 l3 hW hH H t0 h0 hi hl K)
  by_cases q33 : c = 33
  · subst q33
    exact dw_ts (u := 1281) rfl (d_rl rfl) rfl (z_c33 l0 l1 l2 l3 hW hH H t0 h0 hi hl K)
  by_cases q34 : c = 34
  · subst q34
    exact dw_ts (u := 1304) rfl (d_rl rfl) rfl (z_c34 l0 l1 l2 l3 hW hH H t0 h0 hi hl K)
  by_cases q35 : c = 35
  · subst q35
    exact dw_ts (u := 1327) rfl (d_rl rfl) rfl (z_c35 l0 l1 l2 l3 hW hH H t0 h0 hi hl K)
  by_cases q36 : c = 36
  · subst q36
    exact dw_ts (u := 1350) rfl (d_rl rfl) rfl (z_c36 l0 l1 l2 l3 hW hH H t0 h0 hi hl K)
  by_cases q37 : c = 37
  · subst q37
    exact dw_ts (u := 1409) rfl (d_rl rfl) rfl (z_c37 l0 l1 l2 l3 hW hH H t0 h0 hi hl K)
  by_cases q38 : c = 38
  · subst q38
    exact dw_ts (u := 1458) rfl (d_rl rfl) rfl (z_c38 l0 l1 l2 l3 hW hH H t0 h0 hi hl K)
  by_cases q39 : c = 39
  · subst q39
    exact dw_ts (u := 1491) rfl (d_rl rfl) rfl (z_c39 l0 l1 l2 l3 hW hH H t0 h0 hi hl K)
  by_cases q40 : c = 40
  · subst q40
    exact dw_ts (u := 1514) rfl (d_rl rfl) rfl (z_c40 l0 l1 l2 l3 hW hH H t0 h0 hi hl K)
  by_cases q41 : c = 41
  · subst q41
    exact dw_ts (u := 1537) rfl (d_rl rfl) rfl (z_c41 l0 l1 l2 l3 hW hH H t0 h0 hi hl K)
  by_cases q42 : c = 42
  · subst q42
    exact dw_ts (u := 1570) rfl (d_rl rfl) rfl (z_c42 l0 l1 l2 l3 hW hH H t0 h0 hi hl K)
  by_cases q43 : c = 43
  · subst q43
    exact dw_ts (u := 1623) rfl (d_rl rfl) rfl (z_c43 l0 l1 l2 l3 hW hH H t0 h0 hi hl K)
  by_cases q44 : c = 44
  · subst q44
    exact dw_ts (u := 1636) rfl (d_rl rfl) rfl (z_c44 l0 l1 l2 l3 hW hH H t0 h0 hi hl K)
  by_cases q45 : c = 45
  · subst q45
    exact dw_ts (u := 1649) rfl (d_rl rfl) rfl (z_c45 l0 l1 l2 l3 hW hH H t0 h0 hi hl K)
  by_cases q46 : c = 46
  · subst q46
    exact dw_ts (u := 1662) rfl (d_rl rfl) rfl (z_c46 l0 l1 l2 l3 hW hH H t0 h0 hi hl K)
  refine dw_ts (u := 1685) rfl ⟨by omega, by omega⟩ (by rw [if_pos (by omega)]; rfl) (K t h s hH H (fun _ _ q => q) (by omega) (by omega))
set_option maxRecDepth 100000 in
theorem z_loop (hl : xs.length ≤ 3584) (S : Nat) : ∀ (f : Nat) (t : Nat → Option p_C) (s : d_S) (h : p_H) (ls : p_Ls) (c : Nat), c + f = 514 → 7 * c ≤ xs.length → k_wds t → d_V t h s → v_R t s → t 0 = some (2, 0, xs.map Value.int) → p_lk 0 ls = some (.ref 0) → p_lk 1 ls = some (.ref 2) → p_lk 2 ls = some (.ref 64) → p_lk 3 ls = some (.int (Int32.ofInt ((7 * c : Nat) : Int))) → h.length ≤ 80 + 5 * c → p_sl h ≤ S + 1973 * c → p_wp p_GT p_MT 100 m_L_law 18 ls [] h (fun v h2 => v = some (.int 1) ∧ h2.length ≤ 5000 ∧ p_sl h2 ≤ S + 1973 * 514) := by
  intro f
  induction f with
  | zero => intro t s h ls c hc h7; omega
  | succ f ih =>
    intro t s h ls c hc h7 hW hH H t0 l0 l1 l2 l3 hl1 hl2
    refine dw_iln (x := ((7 * c : Nat) : Int)) rfl l3 (dw_aln (a := 0) rfl l0 (z_len rfl hH t0 (dw_bp (c := 7) rfl rfl (dw_sub rfl ?_))))
    by_cases q : (xs.length : Int) - 7 < ((7 * c : Nat) : Int)
    · exact dw_gt_y rfl (u := 1691) rfl ⟨by omega, by omega⟩ ⟨by omega, by omega⟩ q (dw_ic rfl (y_ret rfl rfl (Or.inr rfl) ⟨rfl, by omega, by omega⟩))
    refine dw_gt_n rfl (u := 1691) rfl ⟨by omega, by omega⟩ ⟨by omega, by omega⟩ q (z_body l0 l1 l2 l3 hW hH H t0 (by omega) (by omega) hl ?_)
    intro t2 h2 s2 hH2 H2 ht2 k1 k2
    refine dw_ii (x := ((7 * c : Nat) : Int)) rfl l3 rfl (dw_go rfl (u := 18) rfl ?_)
    rw [d_w_id (by omega) (by omega), show ((7 * c : Nat) : Int) + 7 = ((7 * (c + 1) : Nat) : Int) by omega]
    exact ih t2 s2 h2 _ (c + 1) (by omega) (by omega) (hW.le ht2) hH2 H2 (ht2 _ _ t0) (d_s1 l0 rfl (by decide)) (d_s1 l1 rfl (by decide)) (d_s1 l2 rfl (by decide)) p_lk_s1 (by omega) (by omega)
end ZL

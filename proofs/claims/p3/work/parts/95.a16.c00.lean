set_option maxRecDepth 100000 in
noncomputable def F_X11_within (x0 : Int) (x1 : Int) (x2 : Int) : Option (Int) :=
  if x0 < x1 then
  some 0
  else
  if x2 < x0 then
  some 0
  else
  some 1
set_option maxRecDepth 100000 in
theorem D_X11_within {h : p_H} {x0 : Int} {x1 : Int} {x2 : Int} {r : Int} (hF : F_X11_within x0 x1 x2 = some r) (r_x0 : d_R x0) (r_x1 : d_R x1) (r_x2 : d_R x2) : p_wp p_GT p_MT 0 m_X11_within 0 (lv_args 0 [.int (Int32.ofInt x0), .int (Int32.ofInt x1), .int (Int32.ofInt x2)]) [] h (d_QB h r) := by
  unfold F_X11_within at hF
  refine dw_iln rfl rfl (dw_iln rfl rfl (?_))
  refine d_if hF (fun q hF => ?_) (fun q hF => ?_)
  · refine dw_lt_y rfl (u := 14) rfl r_x0 r_x1 q ?_
    exact dw_ic rfl (dw_rB rfl rfl (Or.inl rfl) hF)
  · refine dw_lt_n rfl (u := 14) rfl r_x0 r_x1 q ?_
    refine dw_iln rfl rfl (dw_iln rfl rfl (?_))
    refine d_if hF (fun q hF => ?_) (fun q hF => ?_)
    · refine dw_gt_y rfl (u := 14) rfl r_x0 r_x2 q ?_
      exact dw_ic rfl (dw_rB rfl rfl (Or.inl rfl) hF)
    · refine dw_gt_n rfl (u := 14) rfl r_x0 r_x2 q ?_
      exact dw_ic rfl (dw_go rfl (u := 15) rfl (dw_rB rfl rfl (Or.inr rfl) hF))
set_option maxRecDepth 100000 in
noncomputable def F_X11_bit (x0 : Int) : Option (Int) :=
  if x0 = 0 then
  some 0
  else
  some 1
set_option maxRecDepth 100000 in
theorem D_X11_bit {h : p_H} {x0 : Int} {r : Int} (hF : F_X11_bit x0 = some r) (r_x0 : d_R x0) : p_wp p_GT p_MT 0 m_X11_bit 0 (lv_args 0 [.int (Int32.ofInt x0)]) [] h (d_QP h r) := by
  unfold F_X11_bit at hF
  refine dw_iln rfl rfl (?_)
  refine d_if hF (fun q hF => ?_) (fun q hF => ?_)
  · refine dw_zeq_y rfl (u := 8) rfl r_x0 q ?_
    exact dw_ic rfl (dw_rP rfl rfl (d_rl rfl) hF)
  · refine dw_zeq_n rfl (u := 8) rfl r_x0 q ?_
    exact dw_ic rfl (dw_go rfl (u := 9) rfl (dw_rP rfl rfl (d_rl rfl) hF))
set_option maxRecDepth 100000 in
noncomputable def F_X4_layAcross_3_j179_1 (k6 : Int → Int → Int → Int → d_S → Option (d_S)) (x2 : Int) (x3 : Int) (x5 : Int) (y1 : Int) (y2 : Int) (s : d_S) : Option (d_S) :=
  d_b (F_X11_bit 1) (fun v12 => d_g (0 ≤ y1 ∧ y1 < 64) (d_l (d_si s 42 ((y1).toNat) (d_w (y2 + v12))) (fun s14 => d_l (d_si s14 37 5 (d_w ((s14.1 37 5) + 1))) (fun s15 => k6 x2 x3 (d_w (x5 + 1)) (d_w (x5 + 1)) s15))))
set_option maxRecDepth 100000 in
theorem D_X4_layAcross_3_j179_1 {t : Nat → Option p_C} {h : p_H} {s : d_S} {k6 : Int → Int → Int → Int → d_S → Option (d_S)} {x2 : Int} {x3 : Int} {x5 : Int} {y1 : Int} {y2 : Int} {r : d_S} {ls : p_Ls} (hF : F_X4_layAcross_3_j179_1 k6 x2 x3 x5 y1 y2 s = some r) (hH : d_V t h s) (l0 : p_lk 0 ls = some (.ref 37)) (l1 : p_lk 1 ls = some (.ref 3)) (r_x2 : d_R x2) (l2 : p_lk 2 ls = some (.int (Int32.ofInt x2))) (r_x3 : d_R x3) (l3 : p_lk 3 ls = some (.int (Int32.ofInt x3))) (r_x5 : d_R x5) (l5 : p_lk 5 ls = some (.int (Int32.ofInt x5))) (r_y1 : d_R y1) (r_y2 : d_R y2) (hk6 : ∀ {x2 : Int} {x3 : Int} {x4 : Int} {x5 : Int} {ls : p_Ls} {s : d_S} {h : p_H}, k6 x2 x3 x4 x5 s = some r → d_V t h s → p_lk 0 ls = some (.ref 37) → p_lk 1 ls = some (.ref 3) → d_R x2 → p_lk 2 ls = some (.int (Int32.ofInt x2)) → d_R x3 → p_lk 3 ls = some (.int (Int32.ofInt x3)) → d_R x4 → p_lk 4 ls = some (.int (Int32.ofInt x4)) → d_R x5 → p_lk 5 ls = some (.int (Int32.ofInt x5)) → p_wp p_GT p_MT 1 m_X4_layAcross 6 ls [] h (d_QV t r)) : p_wp p_GT p_MT 1 m_X4_layAcross 179 ls [.int (Int32.ofInt 1), .int (Int32.ofInt y2), .int (Int32.ofInt y1), .ref 42] h (d_QV t r) := by
  unfold F_X4_layAcross_3_j179_1 at hF
  refine dw_sP hF rfl rfl rfl rfl rfl (dc := 0) (fun _ e => D_X11_bit e (d_rl rfl)) (fun v12 r_v12 hF => dw_add rfl (dw_w1 (d_gd hF (fun g13 hF => dw_ast rfl hH d_a42 g13.1 g13.2 r_y1 rfl d_R_w hF (fun s14 h14 hH14 hF => dw_aln rfl l0 (dw_dupr rfl (dw_gi (k := 5) rfl rfl rfl hH14 d_c37_5 (dw_ic rfl (dw_add rfl (?_))))))))))
  refine dw_w1 (dw_pi (k := 5) rfl rfl rfl rfl hH14 d_c37_5 d_R_w (by decide) hF (fun s15 h15 hH15 hF => dw_il rfl l5 (dw_ic rfl (dw_add rfl (dw_w1 (dw_is rfl rfl (dw_ii rfl (d_s1 l5 rfl (by decide)) rfl (dw_go rfl (u := 6) rfl (?_)))))))))
  exact hk6 hF hH15 (d_s1 (d_s1 l0 rfl (by decide)) rfl (by decide)) (d_s1 (d_s1 l1 rfl (by decide)) rfl (by decide)) r_x2 (d_s1 (d_s1 l2 rfl (by decide)) rfl (by decide)) r_x3 (d_s1 (d_s1 l3 rfl (by decide)) rfl (by decide)) d_R_w (d_s1 p_lk_s1 rfl (by decide)) d_R_w p_lk_s1
set_option maxRecDepth 100000 in
noncomputable def F_X4_layAcross_3_j179_0 (k6 : Int → Int → Int → Int → d_S → Option (d_S)) (x2 : Int) (x3 : Int) (x5 : Int) (y1 : Int) (y2 : Int) (s : d_S) : Option (d_S) :=
  d_b (F_X11_bit 0) (fun v16 => d_g (0 ≤ y1 ∧ y1 < 64) (d_l (d_si s 42 ((y1).toNat) (d_w (y2 + v16))) (fun s18 => d_l (d_si s18 37 5 (d_w ((s18.1 37 5) + 1))) (fun s19 => k6 x2 x3 (d_w (x5 + 1)) (d_w (x5 + 1)) s19))))
set_option maxRecDepth 100000 in
theorem D_X4_layAcross_3_j179_0 {t : Nat → Option p_C} {h : p_H} {s : d_S} {k6 : Int → Int → Int → Int → d_S → Option (d_S)} {x2 : Int} {x3 : Int} {x5 : Int} {y1 : Int} {y2 : Int} {r : d_S} {ls : p_Ls} (hF : F_X4_layAcross_3_j179_0 k6 x2 x3 x5 y1 y2 s = some r) (hH : d_V t h s) (l0 : p_lk 0 ls = some (.ref 37)) (l1 : p_lk 1 ls = some (.ref 3)) (r_x2 : d_R x2) (l2 : p_lk 2 ls = some (.int (Int32.ofInt x2))) (r_x3 : d_R x3) (l3 : p_lk 3 ls = some (.int (Int32.ofInt x3))) (r_x5 : d_R x5) (l5 : p_lk 5 ls = some (.int (Int32.ofInt x5))) (r_y1 : d_R y1) (r_y2 : d_R y2) (hk6 : ∀ {x2 : Int} {x3 : Int} {x4 : Int} {x5 : Int} {ls : p_Ls} {s : d_S} {h : p_H}, k6 x2 x3 x4 x5 s = some r → d_V t h s → p_lk 0 ls = some (.ref 37) → p_lk 1 ls = some (.ref 3) → d_R x2 → p_lk 2 ls = some (.int (Int32.ofInt x2)) → d_R x3 → p_lk 3 ls = some (.int (Int32.ofInt x3)) → d_R x4 → p_lk 4 ls = some (.int (Int32.ofInt x4)) → d_R x5 → p_lk 5 ls = some (.int (Int32.ofInt x5)) → p_wp p_GT p_MT 1 m_X4_layAcross 6 ls [] h (d_QV t r)) : p_wp p_GT p_MT 1 m_X4_layAcross 179 ls [.int (Int32.ofInt 0), .int (Int32.ofInt y2), .int (Int32.ofInt y1), .ref 42] h (d_QV t r) := by
  unfold F_X4_layAcross_3_j179_0 at hF
  refine dw_sP hF rfl rfl rfl rfl rfl (dc := 0) (fun _ e => D_X11_bit e (d_rl rfl)) (fun v16 r_v16 hF => dw_add rfl (dw_w1 (d_gd hF (fun g17 hF => dw_ast rfl hH d_a42 g17.1 g17.2 r_y1 rfl d_R_w hF (fun s18 h18 hH18 hF => dw_aln rfl l0 (dw_dupr rfl (dw_gi (k := 5) rfl rfl rfl hH18 d_c37_5 (dw_ic rfl (dw_add rfl (?_))))))))))
  refine dw_w1 (dw_pi (k := 5) rfl rfl rfl rfl hH18 d_c37_5 d_R_w (by decide) hF (fun s19 h19 hH19 hF => dw_il rfl l5 (dw_ic rfl (dw_add rfl (dw_w1 (dw_is rfl rfl (dw_ii rfl (d_s1 l5 rfl (by decide)) rfl (dw_go rfl (u := 6) rfl (?_)))))))))
  exact hk6 hF hH19 (d_s1 (d_s1 l0 rfl (by decide)) rfl (by decide)) (d_s1 (d_s1 l1 rfl (by decide)) rfl (by decide)) r_x2 (d_s1 (d_s1 l2 rfl (by decide)) rfl (by decide)) r_x3 (d_s1 (d_s1 l3 rfl (by decide)) rfl (by decide)) d_R_w (d_s1 p_lk_s1 rfl (by decide)) d_R_w p_lk_s1
set_option maxRecDepth 100000 in
noncomputable def F_X4_layAcross_3_j160_1 (k6 : Int → Int → Int → Int → d_S → Option (d_S)) (x2 : Int) (x3 : Int) (x5 : Int) (y1 : Int) (y2 : Int) (s : d_S) : Option (d_S) :=
  d_b (F_X11_bit 1) (fun v11 => if (d_w (x2 + x3)) = (s.1 3 1) then
  F_X4_layAcross_3_j179_1 k6 x2 x3 x5 y1 (d_w (y2 + v11)) s
  else
  F_X4_layAcross_3_j179_0 k6 x2 x3 x5 y1 (d_w (y2 + v11)) s)
set_option maxRecDepth 100000 in
theorem D_X4_layAcross_3_j160_1 {t : Nat → Option p_C} {h : p_H} {s : d_S} {k6 : Int → Int → Int → Int → d_S → Option (d_S)} {x2 : Int} {x3 : Int} {x5 : Int} {y1 : Int} {y2 : Int} {r : d_S} {ls : p_Ls} (hF : F_X4_layAcross_3_j160_1 k6 x2 x3 x5 y1 y2 s = some r) (hH : d_V t h s) (l0 : p_lk 0 ls = some (.ref 37)) (l1 : p_lk 1 ls = some (.ref 3)) (r_x2 : d_R x2) (l2 : p_lk 2 ls = some (.int (Int32.ofInt x2))) (r_x3 : d_R x3) (l3 : p_lk 3 ls = some (.int (Int32.ofInt x3))) (r_x5 : d_R x5) (l5 : p_lk 5 ls = some (.int (Int32.ofInt x5))) (r_y1 : d_R y1) (r_y2 : d_R y2) (hk6 : ∀ {x2 : Int} {x3 : Int} {x4 : Int} {x5 : Int} {ls : p_Ls} {s : d_S} {h : p_H}, k6 x2 x3 x4 x5 s = some r → d_V t h s → p_lk 0 ls = some (.ref 37) → p_lk 1 ls = some (.ref 3) → d_R x2 → p_lk 2 ls = some (.int (Int32.ofInt x2)) → d_R x3 → p_lk 3 ls = some (.int (Int32.ofInt x3)) → d_R x4 → p_lk 4 ls = some (.int (Int32.ofInt x4)) → d_R x5 → p_lk 5 ls = some (.int (Int32.ofInt x5)) → p_wp p_GT p_MT 1 m_X4_layAcross 6 ls [] h (d_QV t r)) : p_wp p_GT p_MT 1 m_X4_layAcross 160 ls [.int (Int32.ofInt 1), .int (Int32.ofInt y2), .int (Int32.ofInt y1), .ref 42] h (d_QV t r) := by
  unfold F_X4_layAcross_3_j160_1 at hF
  refine dw_sP hF rfl rfl rfl rfl rfl (dc := 0) (fun _ e => D_X11_bit e (d_rl rfl)) (fun v11 r_v11 hF => dw_add rfl (dw_iln rfl l2 (dw_iln rfl l3 (dw_add rfl (dw_aln rfl l1 (dw_gi (k := 1) rfl rfl rfl hH d_c3_1 (dw_w2 (?_))))))))
  refine d_if hF (fun q hF => ?_) (fun q hF => ?_)
  · refine dw_ne_y rfl (u := 178) rfl d_R_w hH.r q ?_
    refine dw_ic rfl (dw_go rfl (u := 179) rfl (dw_w2 (?_)))
    exact D_X4_layAcross_3_j179_1 hF hH l0 l1 r_x2 l2 r_x3 l3 r_x5 l5 r_y1 d_R_w hk6
  · refine dw_ne_n rfl (u := 178) rfl d_R_w hH.r q ?_
    refine dw_ic rfl (dw_w2 (?_))
    exact D_X4_layAcross_3_j179_0 hF hH l0 l1 r_x2 l2 r_x3 l3 r_x5 l5 r_y1 d_R_w hk6
set_option maxRecDepth 100000 in
noncomputable def F_X4_layAcross_3_j160_0 (k6 : Int → Int → Int → Int → d_S → Option (d_S)) (x2 : Int) (x3 : Int) (x5 : Int) (y1 : Int) (y2 : Int) (s : d_S) : Option (d_S) :=
  d_b (F_X11_bit 0) (fun v20 => if (d_w (x2 + x3)) = (s.1 3 1) then
  F_X4_layAcross_3_j179_1 k6 x2 x3 x5 y1 (d_w (y2 + v20)) s
  else
  F_X4_layAcross_3_j179_0 k6 x2 x3 x5 y1 (d_w (y2 + v20)) s)
set_option maxRecDepth 100000 in
theorem D_X4_layAcross_3_j160_0 {t : Nat → Option p_C} {h : p_H} {s : d_S} {k6 : Int → Int → Int → Int → d_S → Option (d_S)} {x2 : Int} {x3 : Int} {x5 : Int} {y1 : Int} {y2 : Int} {r : d_S} {ls : p_Ls} (hF : F_X4_layAcross_3_j160_0 k6 x2 x3 x5 y1 y2 s = some r) (hH : d_V t h s) (l0 : p_lk 0 ls = some (.ref 37)) (l1 : p_lk 1 ls = some (.ref 3)) (r_x2 : d_R x2) (l2 : p_lk 2 ls = some (.int (Int32.ofInt x2))) (r_x3 : d_R x3) (l3 : p_lk 3 ls = some (.int (Int32.ofInt x3))) (r_x5 : d_R x5) (l5 : p_lk 5 ls = some (.int (Int32.ofInt x5))) (r_y1 : d_R y1) (r_y2 : d_R y2) (hk6 : ∀ {x2 : Int} {x3 : Int} {x4 : Int} {x5 : Int} {ls : p_Ls} {s : d_S} {h : p_H}, k6 x2 x3 x4 x5 s = some r → d_V t h s → p_lk 0 ls = some (.ref 37) → p_lk 1 ls = some (.ref 3) → d_R x2 → p_lk 2 ls = some (.int (Int32.ofInt x2)) → d_R x3 → p_lk 3 ls = some (.int (Int32.ofInt x3)) → d_R x4 → p_lk 4 ls = some (.int (Int32.ofInt x4)) → d_R x5 → p_lk 5 ls = some (.int (Int32.ofInt x5)) → p_wp p_GT p_MT 1 m_X4_layAcross 6 ls [] h (d_QV t r)) : p_wp p_GT p_MT 1 m_X4_layAcross 160 ls [.int (Int32.ofInt 0), .int (Int32.ofInt y2), .int (Int32.ofInt y1), .ref 42] h (d_QV t r) := by
  unfold F_X4_layAcross_3_j160_0 at hF
  refine dw_sP hF rfl rfl rfl rfl rfl (dc := 0) (fun _ e => D_X11_bit e (d_rl rfl)) (fun v20 r_v20 hF => dw_add rfl (dw_iln rfl l2 (dw_iln rfl l3 (dw_add rfl (dw_aln rfl l1 (dw_gi (k := 1) rfl rfl rfl hH d_c3_1 (dw_w2 (?_))))))))
  refine d_if hF (fun q hF => ?_) (fun q hF => ?_)
  · refine dw_ne_y rfl (u := 178) rfl d_R_w hH.r q ?_
    refine dw_ic rfl (dw_go rfl (u := 179) rfl (dw_w2 (?_)))
    exact D_X4_layAcross_3_j179_1 hF hH l0 l1 r_x2 l2 r_x3 l3 r_x5 l5 r_y1 d_R_w hk6
  · refine dw_ne_n rfl (u := 178) rfl d_R_w hH.r q ?_
    refine dw_ic rfl (dw_w2 (?_))
    exact D_X4_layAcross_3_j179_0 hF hH l0 l1 r_x2 l2 r_x3 l3 r_x5 l5 r_y1 d_R_w hk6
set_option maxRecDepth 100000 in
noncomputable def F_X4_layAcross_3_j140_1 (k6 : Int → Int → Int → Int → d_S → Option (d_S)) (x2 : Int) (x3 : Int) (x5 : Int) (y1 : Int) (y2 : Int) (s : d_S) : Option (d_S) :=
  d_b (F_X11_bit 1) (fun v10 => if (d_w (x5 + 1)) = (s.1 3 0) then
  F_X4_layAcross_3_j160_1 k6 x2 x3 x5 y1 (d_w (y2 + v10)) s
  else
  F_X4_layAcross_3_j160_0 k6 x2 x3 x5 y1 (d_w (y2 + v10)) s)
set_option maxRecDepth 100000 in
theorem D_X4_layAcross_3_j140_1 {t : Nat → Option p_C} {h : p_H} {s : d_S} {k6 : Int → Int → Int → Int → d_S → Option (d_S)} {x2 : Int} {x3 : Int} {x5 : Int} {y1 : Int} {y2 : Int} {r : d_S} {ls : p_Ls} (hF : F_X4_layAcross_3_j140_1 k6 x2 x3 x5 y1 y2 s = some r) (hH : d_V t h s) (l0 : p_lk 0 ls = some (.ref 37)) (l1 : p_lk 1 ls = some (.ref 3)) (r_x2 : d_R x2) (l2 : p_lk 2 ls = some (.int (Int32.ofInt x2))) (r_x3 : d_R x3) (l3 : p_lk 3 ls = some (.int (Int32.ofInt x3))) (r_x5 : d_R x5) (l5 : p_lk 5 ls = some (.int (Int32.ofInt x5))) (r_y1 : d_R y1) (r_y2 : d_R y2) (hk6 : ∀ {x2 : Int} {x3 : Int} {x4 : Int} {x5 : Int} {ls : p_Ls} {s : d_S} {h : p_H}, k6 x2 x3 x4 x5 s = some r → d_V t h s → p_lk 0 ls = some (.ref 37) → p_lk 1 ls = some (.ref 3) → d_R x2 → p_lk 2 ls = some (.int (Int32.ofInt x2)) → d_R x3 → p_lk 3 ls = some (.int (Int32.ofInt x3)) → d_R x4 → p_lk 4 ls = some (.int (Int32.ofInt x4)) → d_R x5 → p_lk 5 ls = some (.int (Int32.ofInt x5)) → p_wp p_GT p_MT 1 m_X4_layAcross 6 ls [] h (d_QV t r)) : p_wp p_GT p_MT 1 m_X4_layAcross 140 ls [.int (Int32.ofInt 1), .int (Int32.ofInt y2), .int (Int32.ofInt y1), .ref 42] h (d_QV t r) := by
  unfold F_X4_layAcross_3_j140_1 at hF
  refine dw_sP hF rfl rfl rfl rfl rfl (dc := 0) (fun _ e => D_X11_bit e (d_rl rfl)) (fun v10 r_v10 hF => dw_add rfl (dw_il rfl l5 (dw_ic rfl (dw_add rfl (dw_aln rfl l1 (dw_gi (k := 0) rfl rfl rfl hH d_c3_0 (dw_w2 (?_))))))))
  refine d_if hF (fun q hF => ?_) (fun q hF => ?_)
  · refine dw_ne_y rfl (u := 159) rfl d_R_w hH.r q ?_
    refine dw_ic rfl (dw_go rfl (u := 160) rfl (dw_w2 (?_)))
    exact D_X4_layAcross_3_j160_1 hF hH l0 l1 r_x2 l2 r_x3 l3 r_x5 l5 r_y1 d_R_w hk6
  · refine dw_ne_n rfl (u := 159) rfl d_R_w hH.r q ?_
    refine dw_ic rfl (dw_w2 (?_))
    exact D_X4_layAcross_3_j160_0 hF hH l0 l1 r_x2 l2 r_x3 l3 r_x5 l5 r_y1 d_R_w hk6
set_option maxRecDepth 100000 in
noncomputable def F_X4_layAcross_3_j140_0 (k6 : Int → Int → Int → Int → d_S → Option (d_S)) (x2 : Int) (x3 : Int) (x5 : Int) (y1 : Int) (y2 : Int) (s : d_S) : Option (d_S) :=
  d_b (F_X11_bit 0) (fun v21 => if (d_w (x5 + 1)) = (s.1 3 0) then
  F_X4_layAcross_3_j160_1 k6 x2 x3 x5 y1 (d_w (y2 + v21)) s
  else
  F_X4_layAcross_3_j160_0 k6 x2 x3 x5 y1 (d_w (y2 + v21)) s)
set_option maxRecDepth 100000 in
theorem D_X4_layAcross_3_j140_0 {t : Nat → Option p_C} {h : p_H} {s : d_S} {k6 : Int → Int → Int → Int → d_S → Option (d_S)} {x2 : Int} {x3 : Int} {x5 : Int} {y1 : Int} {y2 : Int} {r : d_S} {ls : p_Ls} (hF : F_X4_layAcross_3_j140_0 k6 x2 x3 x5 y1 y2 s = some r) (hH : d_V t h s) (l0 : p_lk 0 ls = some (.ref 37)) (l1 : p_lk 1 ls = some (.ref 3)) (r_x2 : d_R x2) (l2 : p_lk 2 ls = some (.int (Int32.ofInt x2))) (r_x3 : d_R x3) (l3 : p_lk 3 ls = some (.int (Int32.ofInt x3))) (r_x5 : d_R x5) (l5 : p_lk 5 ls = some (.int (Int32.ofInt x5))) (r_y1 : d_R y1) (r_y2 : d_R y2) (hk6 : ∀ {x2 : Int} {x3 : Int} {x4 : Int} {x5 : Int} {ls : p_Ls} {s : d_S} {h : p_H}, k6 x2 x3 x4 x5 s = some r → d_V t h s → p_lk 0 ls = some (.ref 37) → p_lk 1 ls = some (.ref 3) → d_R x2 → p_lk 2 ls = some (.int (Int32.ofInt x2)) → d_R x3 → p_lk 3 ls = some (.int (Int32.ofInt x3)) → d_R x4 → p_lk 4 ls = some (.int (Int32.ofInt x4)) → d_R x5 → p_lk 5 ls = some (.int (Int32.ofInt x5)) → p_wp p_GT p_MT 1 m_X4_layAcross 6 ls [] h (d_QV t r)) : p_wp p_GT p_MT 1 m_X4_layAcross 140 ls [.int (Int32.ofInt 0), .int (Int32.ofInt y2), .int (Int32.ofInt y1), .ref 42] h (d_QV t r) := by
  unfold F_X4_layAcross_3_j140_0 at hF
  refine dw_sP hF rfl rfl rfl rfl rfl (dc := 0) (fun _ e => D_X11_bit e (d_rl rfl)) (fun v21 r_v21 hF => dw_add rfl (dw_il rfl l5 (dw_ic rfl (dw_add rfl (dw_aln rfl l1 (dw_gi (k := 0) rfl rfl rfl hH d_c3_0 (dw_w2 (?_))))))))
  refine d_if hF (fun q hF => ?_) (fun q hF => ?_)
  · refine dw_ne_y rfl (u := 159) rfl d_R_w hH.r q ?_
    refine dw_ic rfl (dw_go rfl (u := 160) rfl (dw_w2 (?_)))
    exact D_X4_layAcross_3_j160_1 hF hH l0 l1 r_x2 l2 r_x3 l3 r_x5 l5 r_y1 d_R_w hk6
  · refine dw_ne_n rfl (u := 159) rfl d_R_w hH.r q ?_
    refine dw_ic rfl (dw_w2 (?_))
    exact D_X4_layAcross_3_j160_0 hF hH l0 l1 r_x2 l2 r_x3 l3 r_x5 l5 r_y1 d_R_w hk6
set_option maxRecDepth 100000 in
noncomputable def F_X4_layAcross_3_j42 (k6 : Int → Int → Int → Int → d_S → Option (d_S)) (x2 : Int) (x3 : Int) (x4 : Int) (x5 : Int) (s : d_S) : Option (d_S) :=
  if (s.1 37 5) < 64 then
  d_g (0 ≤ (s.1 37 5) ∧ (s.1 37 5) < 64) (d_l (d_si s 38 (((s.1 37 5)).toNat) x4) (fun s2 => d_g (0 ≤ (s2.1 37 5) ∧ (s2.1 37 5) < 64) (d_l (d_si s2 39 (((s2.1 37 5)).toNat) x2) (fun s4 => d_g (0 ≤ (s4.1 37 5) ∧ (s4.1 37 5) < 64) (d_l (d_si s4 40 (((s4.1 37 5)).toNat) (d_w ((x5 + 1) - x4))) (fun s6 => d_g (0 ≤ (s6.1 37 5) ∧ (s6.1 37 5) < 64) (d_l (d_si s6 41 (((s6.1 37 5)).toNat) x3) (fun s8 => if x4 = 0 then
  d_b (F_X11_bit 1) (fun v9 => if x2 = 0 then
  F_X4_layAcross_3_j140_1 k6 x2 x3 x5 (s8.1 37 5) v9 s8
  else
  F_X4_layAcross_3_j140_0 k6 x2 x3 x5 (s8.1 37 5) v9 s8)
  else
  d_b (F_X11_bit 0) (fun v22 => if x2 = 0 then
  F_X4_layAcross_3_j140_1 k6 x2 x3 x5 (s8.1 37 5) v22 s8
  else
  F_X4_layAcross_3_j140_0 k6 x2 x3 x5 (s8.1 37 5) v22 s8)))))))))
  else
  k6 x2 x3 x4 (d_w (x5 + 1)) s
set_option maxRecDepth 100000 in
theorem D_X4_layAcross_3_j42 {t : Nat → Option p_C} {h : p_H} {s : d_S} {k6 : Int → Int → Int → Int → d_S → Option (d_S)} {x2 : Int} {x3 : Int} {x4 : Int} {x5 : Int} {r : d_S} {ls : p_Ls} (hF : F_X4_layAcross_3_j42 k6 x2 x3 x4 x5 s = some r) (hH : d_V t h s) (l0 : p_lk 0 ls = some (.ref 37)) (l1 : p_lk 1 ls = some (.ref 3)) (r_x2 : d_R x2) (l2 : p_lk 2 ls = some (.int (Int32.ofInt x2))) (r_x3 : d_R x3) (l3 : p_lk 3 ls = some (.int (Int32.ofInt x3))) (r_x4 : d_R x4) (l4 : p_lk 4 ls = some (.int (Int32.ofInt x4))) (r_x5 : d_R x5) (l5 : p_lk 5 ls = some (.int (Int32.ofInt x5))) (hk6 : ∀ {x2 : Int} {x3 : Int} {x4 : Int} {x5 : Int} {ls : p_Ls} {s : d_S} {h : p_H}, k6 x2 x3 x4 x5 s = some r → d_V t h s → p_lk 0 ls = some (.ref 37) → p_lk 1 ls = some (.ref 3) → d_R x2 → p_lk 2 ls = some (.int (Int32.ofInt x2)) → d_R x3 → p_lk 3 ls = some (.int (Int32.ofInt x3)) → d_R x4 → p_lk 4 ls = some (.int (Int32.ofInt x4)) → d_R x5 → p_lk 5 ls = some (.int (Int32.ofInt x5)) → p_wp p_GT p_MT 1 m_X4_layAcross 6 ls [] h (d_QV t r)) : p_wp p_GT p_MT 1 m_X4_layAcross 42 ls [] h (d_QV t r) := by
  unfold F_X4_layAcross_3_j42 at hF
  refine dw_ic rfl (dw_go rfl (u := 47) rfl (dw_is rfl rfl (dw_il rfl p_lk_s1 (dw_zeq_n rfl (u := 200) rfl (d_rl rfl) (by decide) (dw_aln rfl (d_s1 l0 rfl (by decide)) (dw_gi (k := 5) rfl rfl rfl hH d_c37_5 (dw_bp rfl rfl (?_))))))))
  refine d_if hF (fun q hF => ?_) (fun q hF => ?_)
  · refine dw_ge_y rfl (u := 200) rfl hH.r (d_rl rfl) q ?_
    refine dw_aln rfl (d_s1 l0 rfl (by decide)) (dw_gr rfl rfl rfl hH d_c37_0 (dw_aln rfl (d_s1 l0 rfl (by decide)) (dw_gi (k := 5) rfl rfl rfl hH d_c37_5 (dw_il rfl (d_s1 l4 rfl (by decide)) (d_gd hF (fun g1 hF => dw_ast rfl hH d_a38 g1.1 g1.2 hH.r rfl r_x4 hF (fun s2 h2 hH2 hF => dw_aln rfl (d_s1 l0 rfl (by decide)) (dw_gr rfl rfl rfl hH2 d_c37_1 (dw_aln rfl (d_s1 l0 rfl (by decide)) (?_))))))))))
    refine dw_gi (k := 5) rfl rfl rfl hH2 d_c37_5 (dw_iln rfl (d_s1 l2 rfl (by decide)) (d_gd hF (fun g3 hF => dw_ast rfl hH2 d_a39 g3.1 g3.2 hH2.r rfl r_x2 hF (fun s4 h4 hH4 hF => dw_aln rfl (d_s1 l0 rfl (by decide)) (dw_gr rfl rfl rfl hH4 d_c37_2 (dw_aln rfl (d_s1 l0 rfl (by decide)) (dw_gi (k := 5) rfl rfl rfl hH4 d_c37_5 (dw_il rfl (d_s1 l5 rfl (by decide)) (dw_ic rfl (?_))))))))))
    refine dw_add rfl (dw_il rfl (d_s1 l4 rfl (by decide)) (dw_sub rfl (dw_w1 (d_gd hF (fun g5 hF => dw_ast rfl hH4 d_a40 g5.1 g5.2 hH4.r rfl d_R_w hF (fun s6 h6 hH6 hF => dw_aln rfl (d_s1 l0 rfl (by decide)) (dw_gr rfl rfl rfl hH6 d_c37_3 (dw_aln rfl (d_s1 l0 rfl (by decide)) (dw_gi (k := 5) rfl rfl rfl hH6 d_c37_5 (?_))))))))))
    refine dw_iln rfl (d_s1 l3 rfl (by decide)) (d_gd hF (fun g7 hF => dw_ast rfl hH6 d_a41 g7.1 g7.2 hH6.r rfl r_x3 hF (fun s8 h8 hH8 hF => dw_aln rfl (d_s1 l0 rfl (by decide)) (dw_gr rfl rfl rfl hH8 d_c37_4 (dw_aln rfl (d_s1 l0 rfl (by decide)) (dw_gi (k := 5) rfl rfl rfl hH8 d_c37_5 (dw_il rfl (d_s1 l4 rfl (by decide)) (?_))))))))
    refine d_if hF (fun q hF => ?_) (fun q hF => ?_)
    · refine dw_zne_y rfl (u := 127) rfl r_x4 q ?_
      refine dw_ic rfl (dw_go rfl (u := 128) rfl (dw_sP hF rfl rfl rfl rfl rfl (dc := 0) (fun _ e => D_X11_bit e (d_rl rfl)) (fun v9 r_v9 hF => dw_iln rfl (d_s1 l2 rfl (by decide)) (?_))))
      refine d_if hF (fun q hF => ?_) (fun q hF => ?_)
      · refine dw_zne_y rfl (u := 139) rfl r_x2 q ?_
        refine dw_ic rfl (dw_go rfl (u := 140) rfl (?_))
        exact D_X4_layAcross_3_j140_1 hF hH8 (d_s1 l0 rfl (by decide)) (d_s1 l1 rfl (by decide)) r_x2 (d_s1 l2 rfl (by decide)) r_x3 (d_s1 l3 rfl (by decide)) r_x5 (d_s1 l5 rfl (by decide)) hH8.r r_v9 hk6
      · refine dw_zne_n rfl (u := 139) rfl r_x2 q ?_
        refine dw_ic rfl (?_)
        exact D_X4_layAcross_3_j140_0 hF hH8 (d_s1 l0 rfl (by decide)) (d_s1 l1 rfl (by decide)) r_x2 (d_s1 l2 rfl (by decide)) r_x3 (d_s1 l3 rfl (by decide)) r_x5 (d_s1 l5 rfl (by decide)) hH8.r r_v9 hk6
    · refine dw_zne_n rfl (u := 127) rfl r_x4 q ?_
      refine dw_ic rfl (dw_sP hF rfl rfl rfl rfl rfl (dc := 0) (fun _ e => D_X11_bit e (d_rl rfl)) (fun v22 r_v22 hF => dw_iln rfl (d_s1 l2 rfl (by decide)) (?_)))
      refine d_if hF (fun q hF => ?_) (fun q hF => ?_)
      · refine dw_zne_y rfl (u := 139) rfl r_x2 q ?_
        refine dw_ic rfl (dw_go rfl (u := 140) rfl (?_))
        exact D_X4_layAcross_3_j140_1 hF hH8 (d_s1 l0 rfl (by decide)) (d_s1 l1 rfl (by decide)) r_x2 (d_s1 l2 rfl (by decide)) r_x3 (d_s1 l3 rfl (by decide)) r_x5 (d_s1 l5 rfl (by decide)) hH8.r r_v22 hk6
      · refine dw_zne_n rfl (u := 139) rfl r_x2 q ?_
        refine dw_ic rfl (?_)
        exact D_X4_layAcross_3_j140_0 hF hH8 (d_s1 l0 rfl (by decide)) (d_s1 l1 rfl (by decide)) r_x2 (d_s1 l2 rfl (by decide)) r_x3 (d_s1 l3 rfl (by decide)) r_x5 (d_s1 l5 rfl (by decide)) hH8.r r_v22 hk6
  · refine dw_ge_n rfl (u := 200) rfl hH.r (d_rl rfl) q ?_
    refine dw_ii rfl (d_s1 l5 rfl (by decide)) rfl (dw_go rfl (u := 6) rfl (?_))
    exact hk6 hF hH (d_s1 (d_s1 l0 rfl (by decide)) rfl (by decide)) (d_s1 (d_s1 l1 rfl (by decide)) rfl (by decide)) r_x2 (d_s1 (d_s1 l2 rfl (by decide)) rfl (by decide)) r_x3 (d_s1 (d_s1 l3 rfl (by decide)) rfl (by decide)) r_x4 (d_s1 (d_s1 l4 rfl (by decide)) rfl (by decide)) d_R_w p_lk_s1
set_option maxRecDepth 100000 in
noncomputable def F_X4_layAcross_3_l6_b (rec : Int → Int → Int → Int → d_S → Option (d_S)) (x2 : Int) (x3 : Int) (x4 : Int) (x5 : Int) (s : d_S) : Option (d_S) :=
  if x5 < (s.1 3 0) then
  if x5 = (d_w ((s.1 3 0) - 1)) then
  F_X4_layAcross_3_j42 rec x2 x3 x4 x5 s
  else
  if (d_and (d_shr (s.1 6 0) x5) 1) = 1 then
  F_X4_layAcross_3_j42 rec x2 x3 x4 x5 s
  else
  rec x2 x3 x4 (d_w (x5 + 1)) s
  else
  some s
set_option maxRecDepth 100000 in
noncomputable def F_X4_layAcross_3_l6 : Nat → Int → Int → Int → Int → d_S → Option (d_S)
  | 0 => fun _ _ _ _ _ => none
  | n + 1 => F_X4_layAcross_3_l6_b (F_X4_layAcross_3_l6 n)
set_option maxRecDepth 100000 in
theorem D_X4_layAcross_3_l6 {t : Nat → Option p_C} {r : d_S} : ∀ (n : Nat) {x2 : Int} {x3 : Int} {x4 : Int} {x5 : Int} {ls : p_Ls} {s : d_S} {h : p_H}, F_X4_layAcross_3_l6 n x2 x3 x4 x5 s = some r → d_V t h s → p_lk 0 ls = some (.ref 37) → p_lk 1 ls = some (.ref 3) → d_R x2 → p_lk 2 ls = some (.int (Int32.ofInt x2)) → d_R x3 → p_lk 3 ls = some (.int (Int32.ofInt x3)) → d_R x4 → p_lk 4 ls = some (.int (Int32.ofInt x4)) → d_R x5 → p_lk 5 ls = some (.int (Int32.ofInt x5)) → p_wp p_GT p_MT 1 m_X4_layAcross 6 ls [] h (d_QV t r) := by
  intro n
  induction n with
  | zero =>
    intro x2 x3 x4 x5 ls s h hF hH l0 l1 r_x2 l2 r_x3 l3 r_x4 l4 r_x5 l5
    cases (show (none : Option (d_S)) = some r from hF)
  | succ n ih =>
    intro x2 x3 x4 x5 ls s h hF hH l0 l1 r_x2 l2 r_x3 l3 r_x4 l4 r_x5 l5
    have hF : F_X4_layAcross_3_l6_b (F_X4_layAcross_3_l6 n) x2 x3 x4 x5 s = some r := hF
    unfold F_X4_layAcross_3_l6_b at hF
    refine dw_il rfl l5 (dw_aln rfl l1 (dw_gi (k := 0) rfl rfl rfl hH d_c3_0 (?_)))
    refine d_if hF (fun q hF => ?_) (fun q hF => ?_)
    · refine dw_ge_y rfl (u := 206) rfl r_x5 hH.r q ?_
      refine dw_il rfl l5 (dw_aln rfl l1 (dw_gi (k := 0) rfl rfl rfl hH d_c3_0 (dw_ic rfl (dw_sub rfl (dw_w1 (?_))))))
      refine d_if hF (fun q hF => ?_) (fun q hF => ?_)
      · refine dw_eq_y rfl (u := 42) rfl r_x5 d_R_w q ?_
        exact D_X4_layAcross_3_j42 hF hH l0 l1 r_x2 l2 r_x3 l3 r_x4 l4 r_x5 l5 (fun {x2} {x3} {x4} {x5} {ls} {s} {h} hF hH l0 l1 r_x2 l2 r_x3 l3 r_x4 l4 r_x5 l5 => ih hF hH l0 l1 r_x2 l2 r_x3 l3 r_x4 l4 r_x5 l5)
      · refine dw_eq_n rfl (u := 42) rfl r_x5 d_R_w q ?_
        refine dw_aln rfl l1 (dw_gr rfl rfl rfl hH d_c3_8 (dw_gi (k := 0) rfl rfl rfl hH d_c6_0 (dw_il rfl l5 (dw_shr rfl (dw_ic rfl (dw_and rfl (dw_ic rfl (?_))))))))
        refine d_if hF (fun q hF => ?_) (fun q hF => ?_)
        · refine dw_ne_y rfl (u := 46) rfl d_R_t (d_rl rfl) q ?_
          exact D_X4_layAcross_3_j42 hF hH l0 l1 r_x2 l2 r_x3 l3 r_x4 l4 r_x5 l5 (fun {x2} {x3} {x4} {x5} {ls} {s} {h} hF hH l0 l1 r_x2 l2 r_x3 l3 r_x4 l4 r_x5 l5 => ih hF hH l0 l1 r_x2 l2 r_x3 l3 r_x4 l4 r_x5 l5)
        · refine dw_ne_n rfl (u := 46) rfl d_R_t (d_rl rfl) q ?_
          refine dw_ic rfl (dw_is rfl rfl (dw_il rfl p_lk_s1 (dw_zeq_y rfl (u := 200) rfl (d_rl rfl) (by decide) (dw_ii rfl (d_s1 l5 rfl (by decide)) rfl (dw_go rfl (u := 6) rfl (?_))))))
          exact ih hF hH (d_s1 (d_s1 l0 rfl (by decide)) rfl (by decide)) (d_s1 (d_s1 l1 rfl (by decide)) rfl (by decide)) r_x2 (d_s1 (d_s1 l2 rfl (by decide)) rfl (by decide)) r_x3 (d_s1 (d_s1 l3 rfl (by decide)) rfl (by decide)) r_x4 (d_s1 (d_s1 l4 rfl (by decide)) rfl (by decide)) d_R_w p_lk_s1
    · refine dw_ge_n rfl (u := 206) rfl r_x5 hH.r q ?_
      exact dw_rV rfl rfl hH hF
set_option maxRecDepth 100000 in
noncomputable def F_X4_layAcross_3 (s : d_S) (x2 : Int) (x3 : Int) : Option (d_S) :=
  F_X4_layAcross_3_l6 d_N x2 x3 0 0 s
set_option maxRecDepth 100000 in
theorem D_X4_layAcross_3 {t : Nat → Option p_C} {h : p_H} {s : d_S} {x2 : Int} {x3 : Int} {r : d_S} (hF : F_X4_layAcross_3 s x2 x3 = some r) (hH : d_V t h s) (r_x2 : d_R x2) (r_x3 : d_R x3) : p_wp p_GT p_MT 1 m_X4_layAcross 0 (lv_args 0 [.ref 37, .ref 3, .int (Int32.ofInt x2), .int (Int32.ofInt x3)]) [] h (d_QV t r) := by
  unfold F_X4_layAcross_3 at hF
  refine dw_ic rfl (dw_is rfl rfl (dw_ic rfl (dw_is rfl rfl (?_))))
  exact D_X4_layAcross_3_l6 _ hF hH (d_s1 (d_s1 rfl rfl (by decide)) rfl (by decide)) (d_s1 (d_s1 rfl rfl (by decide)) rfl (by decide)) r_x2 (d_s1 (d_s1 rfl rfl (by decide)) rfl (by decide)) r_x3 (d_s1 (d_s1 rfl rfl (by decide)) rfl (by decide)) (d_rl rfl) (d_s1 p_lk_s1 rfl (by decide)) (d_rl rfl) p_lk_s1
set_option maxRecDepth 100000 in
noncomputable def F_X4_lay_3_j42 (k9 : Int → Int → d_S → Option (d_S)) (x2 : Int) (x3 : Int) (s : d_S) : Option (d_S) :=
  d_b (F_X4_layAcross_3 s x2 (d_w ((x3 + 1) - x2))) (fun s2 => k9 (d_w (x3 + 1)) (d_w (x3 + 1)) s2)
set_option maxRecDepth 100000 in
theorem D_X4_lay_3_j42 {t : Nat → Option p_C} {h : p_H} {s : d_S} {k9 : Int → Int → d_S → Option (d_S)} {x2 : Int} {x3 : Int} {r : d_S} {ls : p_Ls} (hF : F_X4_lay_3_j42 k9 x2 x3 s = some r) (hH : d_V t h s) (l0 : p_lk 0 ls = some (.ref 37)) (l1 : p_lk 1 ls = some (.ref 3)) (r_x2 : d_R x2) (l2 : p_lk 2 ls = some (.int (Int32.ofInt x2))) (r_x3 : d_R x3) (l3 : p_lk 3 ls = some (.int (Int32.ofInt x3))) (hk9 : ∀ {x2 : Int} {x3 : Int} {ls : p_Ls} {s : d_S} {h : p_H}, k9 x2 x3 s = some r → d_V t h s → p_lk 0 ls = some (.ref 37) → p_lk 1 ls = some (.ref 3) → d_R x2 → p_lk 2 ls = some (.int (Int32.ofInt x2)) → d_R x3 → p_lk 3 ls = some (.int (Int32.ofInt x3)) → p_wp p_GT p_MT 2 m_X4_lay 9 ls [] h (d_QV t r)) : p_wp p_GT p_MT 2 m_X4_lay 42 ls [] h (d_QV t r) := by
  unfold F_X4_lay_3_j42 at hF
  refine dw_aln rfl l0 (dw_aln rfl l1 (dw_iln rfl l2 (dw_iln rfl l3 (dw_ic rfl (dw_add rfl (dw_iln rfl l2 (dw_sub rfl (dw_w1 (dw_vV hF rfl (d_vir (n := 4) rfl rfl rfl rfl rfl hH d_c37_0 rfl) rfl rfl rfl (dc := 1) (fun _ e => D_X4_layAcross_3 e hH r_x2 d_R_w) (fun s2 h2 hH2 hF => ?_))))))))))
  refine dw_iln rfl l3 (dw_ic rfl (dw_add rfl (dw_w1 (dw_isn rfl rfl (dw_ii rfl (d_s1 l3 rfl (by decide)) rfl (dw_go rfl (u := 9) rfl (?_)))))))
  exact hk9 hF hH2 (d_s1 (d_s1 l0 rfl (by decide)) rfl (by decide)) (d_s1 (d_s1 l1 rfl (by decide)) rfl (by decide)) d_R_w (d_s1 p_lk_s1 rfl (by decide)) d_R_w p_lk_s1
set_option maxRecDepth 100000 in
noncomputable def F_X4_lay_3_l9_b (rec : Int → Int → d_S → Option (d_S)) (x2 : Int) (x3 : Int) (s : d_S) : Option (d_S) :=
  if x3 < (s.1 3 1) then
  if x3 = (d_w ((s.1 3 1) - 1)) then
  F_X4_lay_3_j42 rec x2 x3 s
  else
  if (d_and (d_shr (s.1 6 1) x3) 1) = 1 then
  F_X4_lay_3_j42 rec x2 x3 s
  else
  rec x2 (d_w (x3 + 1)) s
  else
  some s
set_option maxRecDepth 100000 in
noncomputable def F_X4_lay_3_l9 : Nat → Int → Int → d_S → Option (d_S)
  | 0 => fun _ _ _ => none
  | n + 1 => F_X4_lay_3_l9_b (F_X4_lay_3_l9 n)
set_option maxRecDepth 100000 in
theorem D_X4_lay_3_l9 {t : Nat → Option p_C} {r : d_S} : ∀ (n : Nat) {x2 : Int} {x3 : Int} {ls : p_Ls} {s : d_S} {h : p_H}, F_X4_lay_3_l9 n x2 x3 s = some r → d_V t h s → p_lk 0 ls = some (.ref 37) → p_lk 1 ls = some (.ref 3) → d_R x2 → p_lk 2 ls = some (.int (Int32.ofInt x2)) → d_R x3 → p_lk 3 ls = some (.int (Int32.ofInt x3)) → p_wp p_GT p_MT 2 m_X4_lay 9 ls [] h (d_QV t r) := by
  intro n
  induction n with
  | zero =>
    intro x2 x3 ls s h hF hH l0 l1 r_x2 l2 r_x3 l3
    cases (show (none : Option (d_S)) = some r from hF)
  | succ n ih =>
    intro x2 x3 ls s h hF hH l0 l1 r_x2 l2 r_x3 l3
    have hF : F_X4_lay_3_l9_b (F_X4_lay_3_l9 n) x2 x3 s = some r := hF
    unfold F_X4_lay_3_l9_b at hF
    refine dw_iln rfl l3 (dw_aln rfl l1 (dw_gi (k := 1) rfl rfl rfl hH d_c3_1 (?_)))
    refine d_if hF (fun q hF => ?_) (fun q hF => ?_)
    · refine dw_ge_y rfl (u := 63) rfl r_x3 hH.r q ?_
      refine dw_iln rfl l3 (dw_aln rfl l1 (dw_gi (k := 1) rfl rfl rfl hH d_c3_1 (dw_ic rfl (dw_sub rfl (dw_w1 (?_))))))
      refine d_if hF (fun q hF => ?_) (fun q hF => ?_)
      · refine dw_eq_y rfl (u := 42) rfl r_x3 d_R_w q ?_
        exact D_X4_lay_3_j42 hF hH l0 l1 r_x2 l2 r_x3 l3 (fun {x2} {x3} {ls} {s} {h} hF hH l0 l1 r_x2 l2 r_x3 l3 => ih hF hH l0 l1 r_x2 l2 r_x3 l3)
      · refine dw_eq_n rfl (u := 42) rfl r_x3 d_R_w q ?_
        refine dw_aln rfl l1 (dw_gr rfl rfl rfl hH d_c3_8 (dw_gi (k := 1) rfl rfl rfl hH d_c6_1 (dw_iln rfl l3 (dw_shr rfl (dw_ic rfl (dw_and rfl (dw_ic rfl (?_))))))))
        refine d_if hF (fun q hF => ?_) (fun q hF => ?_)
        · refine dw_ne_y rfl (u := 57) rfl d_R_t (d_rl rfl) q ?_
          exact D_X4_lay_3_j42 hF hH l0 l1 r_x2 l2 r_x3 l3 (fun {x2} {x3} {ls} {s} {h} hF hH l0 l1 r_x2 l2 r_x3 l3 => ih hF hH l0 l1 r_x2 l2 r_x3 l3)
        · refine dw_ne_n rfl (u := 57) rfl d_R_t (d_rl rfl) q ?_
          refine dw_ii rfl l3 rfl (dw_go rfl (u := 9) rfl (?_))
          exact ih hF hH (d_s1 l0 rfl (by decide)) (d_s1 l1 rfl (by decide)) r_x2 (d_s1 l2 rfl (by decide)) d_R_w p_lk_s1
    · refine dw_ge_n rfl (u := 63) rfl r_x3 hH.r q ?_
      exact dw_rV rfl rfl hH hF
set_option maxRecDepth 100000 in
noncomputable def F_X4_lay_3 (s : d_S) : Option (d_S) :=
  d_l (d_si s 37 5 0) (fun s1 => F_X4_lay_3_l9 d_N 0 0 s1)
set_option maxRecDepth 100000 in
theorem D_X4_lay_3 {t : Nat → Option p_C} {h : p_H} {s : d_S} {r : d_S} (hF : F_X4_lay_3 s = some r) (hH : d_V t h s) : p_wp p_GT p_MT 2 m_X4_lay 0 (lv_args 0 [.ref 37, .ref 3]) [] h (d_QV t r) := by
  unfold F_X4_lay_3 at hF
  refine dw_aln rfl rfl (dw_ic rfl (dw_pi (k := 5) rfl rfl rfl rfl hH d_c37_5 (d_rl rfl) (by decide) hF (fun s1 h1 hH1 hF => dw_ic rfl (dw_isn rfl rfl (dw_ic rfl (dw_isn rfl rfl (?_)))))))
  exact D_X4_lay_3_l9 _ hF hH1 (d_s1 (d_s1 rfl rfl (by decide)) rfl (by decide)) (d_s1 (d_s1 rfl rfl (by decide)) rfl (by decide)) (d_rl rfl) (d_s1 p_lk_s1 rfl (by decide)) (d_rl rfl) p_lk_s1
set_option maxRecDepth 100000 in
noncomputable def F_X11_pond (s : d_S) (x1 : Int) (x2 : Int) : Option (Int × d_S) :=
  d_b (F_X11_within x1 2 8) (fun v1 => if v1 = 0 then
  some (0, s)
  else
  d_b (F_X11_within x2 2 8) (fun v2 => if v2 = 0 then
  some (0, s)
  else
  if (s.1 3 2) = 0 then
  if (s.1 6 0) = 0 then
  if (s.1 6 1) = 0 then
  d_l (d_si s 3 2 1) (fun s3 => d_l (d_si s3 3 0 x1) (fun s4 => d_l (d_si s4 3 1 x2) (fun s5 => d_b (F_X4_lay_3 s5) (fun s6 => some (1, s6)))))
  else
  some (0, s)
  else
  some (0, s)
  else
  some (0, s)))
set_option maxRecDepth 100000 in
theorem D_X11_pond {t : Nat → Option p_C} {h : p_H} {s : d_S} {x1 : Int} {x2 : Int} {r : Int × d_S} (hF : F_X11_pond s x1 x2 = some r) (hH : d_V t h s) (r_x1 : d_R x1) (r_x2 : d_R x2) : p_wp p_GT p_MT 3 m_X11_pond 0 (lv_args 0 [.ref 2, .int (Int32.ofInt x1), .int (Int32.ofInt x2)]) [] h (d_QC t r) := by
  unfold F_X11_pond at hF
  refine dw_iln rfl rfl (dw_ic rfl (dw_bp rfl rfl (dw_sB hF rfl rfl rfl rfl rfl (dc := 0) (fun _ e => D_X11_within e r_x1 (d_rl rfl) (d_rl rfl)) (fun v1 r_v1 hF => ?_))))
  refine d_if hF (fun q hF => ?_) (fun q hF => ?_)
  · refine dw_zeq_y rfl (u := 20) rfl (d_R_b r_v1) q ?_
    exact dw_ic rfl (dw_rC rfl rfl (Or.inl rfl) hH hF)
  · refine dw_zeq_n rfl (u := 20) rfl (d_R_b r_v1) q ?_
    refine dw_iln rfl rfl (dw_ic rfl (dw_bp rfl rfl (dw_sB hF rfl rfl rfl rfl rfl (dc := 0) (fun _ e => D_X11_within e r_x2 (d_rl rfl) (d_rl rfl)) (fun v2 r_v2 hF => ?_))))
    refine d_if hF (fun q hF => ?_) (fun q hF => ?_)
    · refine dw_zne_y rfl (u := 22) rfl (d_R_b r_v2) q ?_
      exact dw_ic rfl (dw_rC rfl rfl (Or.inl rfl) hH hF)
    · refine dw_zne_n rfl (u := 22) rfl (d_R_b r_v2) q ?_
      refine dw_aln rfl rfl (dw_gr rfl rfl rfl hH d_c2_0 (dw_gi (k := 2) rfl rfl rfl hH d_c3_2 (?_)))
      refine d_if hF (fun q hF => ?_) (fun q hF => ?_)
      · refine dw_zne_y rfl (u := 58) rfl hH.r q ?_
        refine dw_aln rfl rfl (dw_gr rfl rfl rfl hH d_c2_0 (dw_gr rfl rfl rfl hH d_c3_8 (dw_gi (k := 0) rfl rfl rfl hH d_c6_0 (?_))))
        refine d_if hF (fun q hF => ?_) (fun q hF => ?_)
        · refine dw_zne_y rfl (u := 58) rfl hH.r q ?_
          refine dw_aln rfl rfl (dw_gr rfl rfl rfl hH d_c2_0 (dw_gr rfl rfl rfl hH d_c3_8 (dw_gi (k := 1) rfl rfl rfl hH d_c6_1 (?_))))
          refine d_if hF (fun q hF => ?_) (fun q hF => ?_)
          · refine dw_zeq_y rfl (u := 60) rfl hH.r q ?_
            refine dw_aln rfl rfl (dw_gr rfl rfl rfl hH d_c2_0 (dw_ic rfl (dw_pb (k := 2) rfl rfl rfl rfl hH d_c3_2 (Or.inr rfl) (by decide) hF (fun s3 h3 hH3 hF => dw_aln rfl rfl (dw_gr rfl rfl rfl hH3 d_c2_0 (dw_iln rfl rfl (dw_pi (k := 0) rfl rfl rfl rfl hH3 d_c3_0 r_x1 (by decide) hF (fun s4 h4 hH4 hF => dw_aln rfl rfl (dw_gr rfl rfl rfl hH4 d_c2_0 (?_))))))))))
            exact dw_iln rfl rfl (dw_pi (k := 1) rfl rfl rfl rfl hH4 d_c3_1 r_x2 (by decide) hF (fun s5 h5 hH5 hF => dw_aln rfl rfl (dw_gr rfl rfl rfl hH5 d_c2_2 (dw_aln rfl rfl (dw_gr rfl rfl rfl hH5 d_c2_0 (dw_vV hF rfl (d_vir (n := 2) rfl rfl rfl rfl rfl hH5 d_c37_0 rfl) rfl rfl rfl (dc := 2) (fun _ e => D_X4_lay_3 e hH5) (fun s6 h6 hH6 hF => dw_ic rfl (dw_rC rfl rfl (Or.inr rfl) hH6 hF))))))))
          · refine dw_zeq_n rfl (u := 60) rfl hH.r q ?_
            exact dw_ic rfl (dw_rC rfl rfl (Or.inl rfl) hH hF)
        · refine dw_zne_n rfl (u := 58) rfl hH.r q ?_
          exact dw_ic rfl (dw_rC rfl rfl (Or.inl rfl) hH hF)
      · refine dw_zne_n rfl (u := 58) rfl hH.r q ?_
        exact dw_ic rfl (dw_rC rfl rfl (Or.inl rfl) hH hF)
set_option maxRecDepth 100000 in
noncomputable def F_X11_sight_j81 (x1 : Int) (x2 : Int) (x3 : Int) (x4 : Int) (x5 : Int) (x6 : Int) (s : d_S) : Option (Int × d_S) :=
  some ((-1), s)
set_option maxRecDepth 100000 in
theorem D_X11_sight_j81 {t : Nat → Option p_C} {h : p_H} {s : d_S} {x1 : Int} {x2 : Int} {x3 : Int} {x4 : Int} {x5 : Int} {x6 : Int} {r : Int × d_S} {ls : p_Ls} (hF : F_X11_sight_j81 x1 x2 x3 x4 x5 x6 s = some r) (hH : d_V t h s) (l0 : p_lk 0 ls = some (.ref 2)) (r_x1 : d_R x1) (l1 : p_lk 1 ls = some (.int (Int32.ofInt x1))) (r_x2 : d_R x2) (l2 : p_lk 2 ls = some (.int (Int32.ofInt x2))) (r_x3 : d_R x3) (l3 : p_lk 3 ls = some (.int (Int32.ofInt x3))) (r_x4 : d_R x4) (l4 : p_lk 4 ls = some (.int (Int32.ofInt x4))) (r_x5 : d_R x5) (l5 : p_lk 5 ls = some (.int (Int32.ofInt x5))) (r_x6 : d_R x6) (l6 : p_lk 6 ls = some (.int (Int32.ofInt x6))) : p_wp p_GT p_MT 1 m_X11_sight 81 ls [] h (d_QI t r) := by
  unfold F_X11_sight_j81 at hF
  refine dw_ic rfl (dw_is rfl rfl (dw_aln rfl (d_s1 l0 rfl (by decide)) (dw_gr rfl rfl rfl hH d_c2_0 (dw_gi (k := 3) rfl rfl rfl hH d_c3_3 (dw_bp rfl rfl (dw_mul rfl (dw_w1 (dw_is rfl rfl (dw_il rfl (d_s1 p_lk_s1 rfl (by decide)) (?_))))))))))
  exact dw_zeq_y rfl (u := 117) rfl (d_rl rfl) (by decide) (dw_ic rfl (dw_rI rfl rfl (d_rl rfl) hH hF))
set_option maxRecDepth 100000 in
noncomputable def F_X11_sight (s : d_S) (x1 : Int) (x2 : Int) (x3 : Int) (x4 : Int) (x5 : Int) (x6 : Int) : Option (Int × d_S) :=
  d_b (F_X11_within x1 0 9) (fun v1 => if v1 = 0 then
  F_X11_sight_j81 x1 x2 x3 x4 x5 x6 s
  else
  d_b (F_X11_within x6 0 9) (fun v2 => if v2 = 0 then
  F_X11_sight_j81 x1 x2 x3 x4 x5 x6 s
  else
  d_b (F_X11_within x4 1 3) (fun v3 => if v3 = 0 then
  F_X11_sight_j81 x1 x2 x3 x4 x5 x6 s
  else
  d_b (F_X11_within x5 1 3) (fun v4 => if v4 = 0 then
  F_X11_sight_j81 x1 x2 x3 x4 x5 x6 s
  else
  d_b (F_X11_within x2 0 (d_w ((s.1 3 0) - x4))) (fun v5 => if v5 = 0 then
  F_X11_sight_j81 x1 x2 x3 x4 x5 x6 s
  else
  d_b (F_X11_within x3 0 (d_w ((s.1 3 1) - x5))) (fun v6 => if v6 = 0 then
  F_X11_sight_j81 x1 x2 x3 x4 x5 x6 s
  else
  if 72 < (d_w ((d_w ((s.1 3 3) * 6)) + 6)) then
  some ((-1), s)
  else
  d_g (0 ≤ (d_w ((d_w ((s.1 3 3) * 6)) + 0)) ∧ (d_w ((d_w ((s.1 3 3) * 6)) + 0)) < 72) (d_l (d_si s 4 (((d_w ((d_w ((s.1 3 3) * 6)) + 0))).toNat) x1) (fun s8 => d_g (0 ≤ (d_w ((d_w ((s.1 3 3) * 6)) + 1)) ∧ (d_w ((d_w ((s.1 3 3) * 6)) + 1)) < 72) (d_l (d_si s8 4 (((d_w ((d_w ((s.1 3 3) * 6)) + 1))).toNat) x2) (fun s10 => d_g (0 ≤ (d_w ((d_w ((s.1 3 3) * 6)) + 2)) ∧ (d_w ((d_w ((s.1 3 3) * 6)) + 2)) < 72) (d_l (d_si s10 4 (((d_w ((d_w ((s.1 3 3) * 6)) + 2))).toNat) x3) (fun s12 => d_g (0 ≤ (d_w ((d_w ((s.1 3 3) * 6)) + 3)) ∧ (d_w ((d_w ((s.1 3 3) * 6)) + 3)) < 72) (d_l (d_si s12 4 (((d_w ((d_w ((s.1 3 3) * 6)) + 3))).toNat) x4) (fun s14 => d_g (0 ≤ (d_w ((d_w ((s.1 3 3) * 6)) + 4)) ∧ (d_w ((d_w ((s.1 3 3) * 6)) + 4)) < 72) (d_l (d_si s14 4 (((d_w ((d_w ((s.1 3 3) * 6)) + 4))).toNat) x5) (fun s16 => d_g (0 ≤ (d_w ((d_w ((s.1 3 3) * 6)) + 5)) ∧ (d_w ((d_w ((s.1 3 3) * 6)) + 5)) < 72) (d_l (d_si s16 4 (((d_w ((d_w ((s.1 3 3) * 6)) + 5))).toNat) x6) (fun s18 => d_l (d_si s18 3 3 (d_w ((s18.1 3 3) + 1))) (fun s19 => some ((d_w ((s19.1 3 3) - 1)), s19))))))))))))))))))))
set_option maxRecDepth 100000 in
theorem D_X11_sight {t : Nat → Option p_C} {h : p_H} {s : d_S} {x1 : Int} {x2 : Int} {x3 : Int} {x4 : Int} {x5 : Int} {x6 : Int} {r : Int × d_S} (hF : F_X11_sight s x1 x2 x3 x4 x5 x6 = some r) (hH : d_V t h s) (r_x1 : d_R x1) (r_x2 : d_R x2) (r_x3 : d_R x3) (r_x4 : d_R x4) (r_x5 : d_R x5) (r_x6 : d_R x6) : p_wp p_GT p_MT 1 m_X11_sight 0 (lv_args 0 [.ref 2, .int (Int32.ofInt x1), .int (Int32.ofInt x2), .int (Int32.ofInt x3), .int (Int32.ofInt x4), .int (Int32.ofInt x5), .int (Int32.ofInt x6)]) [] h (d_QI t r) := by
  unfold F_X11_sight at hF
  refine dw_iln rfl rfl (dw_ic rfl (dw_bp rfl rfl (dw_sB hF rfl rfl rfl rfl rfl (dc := 0) (fun _ e => D_X11_within e r_x1 (d_rl rfl) (d_rl rfl)) (fun v1 r_v1 hF => ?_))))
  refine d_if hF (fun q hF => ?_) (fun q hF => ?_)
  · refine dw_zeq_y rfl (u := 81) rfl (d_R_b r_v1) q ?_
    exact D_X11_sight_j81 hF hH rfl r_x1 rfl r_x2 rfl r_x3 rfl r_x4 rfl r_x5 rfl r_x6 rfl
  · refine dw_zeq_n rfl (u := 81) rfl (d_R_b r_v1) q ?_
    refine dw_il rfl rfl (dw_ic rfl (dw_bp rfl rfl (dw_sB hF rfl rfl rfl rfl rfl (dc := 0) (fun _ e => D_X11_within e r_x6 (d_rl rfl) (d_rl rfl)) (fun v2 r_v2 hF => ?_))))
    refine d_if hF (fun q hF => ?_) (fun q hF => ?_)
    · refine dw_zeq_y rfl (u := 81) rfl (d_R_b r_v2) q ?_
      exact D_X11_sight_j81 hF hH rfl r_x1 rfl r_x2 rfl r_x3 rfl r_x4 rfl r_x5 rfl r_x6 rfl
    · refine dw_zeq_n rfl (u := 81) rfl (d_R_b r_v2) q ?_
      refine dw_il rfl rfl (dw_ic rfl (dw_ic rfl (dw_sB hF rfl rfl rfl rfl rfl (dc := 0) (fun _ e => D_X11_within e r_x4 (d_rl rfl) (d_rl rfl)) (fun v3 r_v3 hF => ?_))))
      refine d_if hF (fun q hF => ?_) (fun q hF => ?_)
      · refine dw_zeq_y rfl (u := 81) rfl (d_R_b r_v3) q ?_
        exact D_X11_sight_j81 hF hH rfl r_x1 rfl r_x2 rfl r_x3 rfl r_x4 rfl r_x5 rfl r_x6 rfl
      · refine dw_zeq_n rfl (u := 81) rfl (d_R_b r_v3) q ?_
        refine dw_il rfl rfl (dw_ic rfl (dw_ic rfl (dw_sB hF rfl rfl rfl rfl rfl (dc := 0) (fun _ e => D_X11_within e r_x5 (d_rl rfl) (d_rl rfl)) (fun v4 r_v4 hF => ?_))))
        refine d_if hF (fun q hF => ?_) (fun q hF => ?_)
        · refine dw_zeq_y rfl (u := 81) rfl (d_R_b r_v4) q ?_
          exact D_X11_sight_j81 hF hH rfl r_x1 rfl r_x2 rfl r_x3 rfl r_x4 rfl r_x5 rfl r_x6 rfl
        · refine dw_zeq_n rfl (u := 81) rfl (d_R_b r_v4) q ?_
          refine dw_iln rfl rfl (dw_ic rfl (dw_aln rfl rfl (dw_gr rfl rfl rfl hH d_c2_0 (dw_gi (k := 0) rfl rfl rfl hH d_c3_0 (dw_il rfl rfl (dw_sub rfl (dw_w1 (dw_sB hF rfl rfl rfl rfl rfl (dc := 0) (fun _ e => D_X11_within e r_x2 (d_rl rfl) d_R_w) (fun v5 r_v5 hF => ?_)))))))))
          refine d_if hF (fun q hF => ?_) (fun q hF => ?_)
          · refine dw_zeq_y rfl (u := 81) rfl (d_R_b r_v5) q ?_
            exact D_X11_sight_j81 hF hH rfl r_x1 rfl r_x2 rfl r_x3 rfl r_x4 rfl r_x5 rfl r_x6 rfl
          · refine dw_zeq_n rfl (u := 81) rfl (d_R_b r_v5) q ?_
            refine dw_iln rfl rfl (dw_ic rfl (dw_aln rfl rfl (dw_gr rfl rfl rfl hH d_c2_0 (dw_gi (k := 1) rfl rfl rfl hH d_c3_1 (dw_il rfl rfl (dw_sub rfl (dw_w1 (dw_sB hF rfl rfl rfl rfl rfl (dc := 0) (fun _ e => D_X11_within e r_x3 (d_rl rfl) d_R_w) (fun v6 r_v6 hF => ?_)))))))))
            refine d_if hF (fun q hF => ?_) (fun q hF => ?_)
            · refine dw_zeq_y rfl (u := 81) rfl (d_R_b r_v6) q ?_
              exact D_X11_sight_j81 hF hH rfl r_x1 rfl r_x2 rfl r_x3 rfl r_x4 rfl r_x5 rfl r_x6 rfl
            · refine dw_zeq_n rfl (u := 81) rfl (d_R_b r_v6) q ?_
              refine dw_ic rfl (dw_go rfl (u := 82) rfl (dw_is rfl rfl (dw_aln rfl (d_s1 rfl rfl (by decide)) (dw_gr rfl rfl rfl hH d_c2_0 (dw_gi (k := 3) rfl rfl rfl hH d_c3_3 (dw_bp rfl rfl (dw_mul rfl (dw_w1 (dw_is rfl rfl (?_))))))))))
              refine dw_il rfl (d_s1 p_lk_s1 rfl (by decide)) (dw_zeq_n rfl (u := 117) rfl (d_rl rfl) (by decide) (dw_il rfl p_lk_s1 (dw_bp rfl rfl (dw_add rfl (dw_aln rfl (d_s1 (d_s1 rfl rfl (by decide)) rfl (by decide)) (dw_gr rfl rfl rfl hH d_c2_0 (dw_gr rfl rfl rfl hH d_c3_4 (dw_len rfl hH d_a4 rfl (z := 72) rfl (dw_w2 (?_))))))))))
              refine d_if hF (fun q hF => ?_) (fun q hF => ?_)
              · refine dw_le_y rfl (u := 119) rfl d_R_w (d_rl rfl) q ?_
                exact dw_ic rfl (dw_rI rfl rfl (d_rl rfl) hH hF)
              · refine dw_le_n rfl (u := 119) rfl d_R_w (d_rl rfl) q ?_
                refine dw_aln rfl (d_s1 (d_s1 rfl rfl (by decide)) rfl (by decide)) (dw_gr rfl rfl rfl hH d_c2_0 (dw_gr rfl rfl rfl hH d_c3_4 (dw_il rfl p_lk_s1 (dw_ic rfl (dw_add rfl (dw_iln rfl (d_s1 (d_s1 rfl rfl (by decide)) rfl (by decide)) (dw_w2 (d_gd hF (fun g7 hF => dw_ast rfl hH d_a4 g7.1 g7.2 d_R_w rfl r_x1 hF (fun s8 h8 hH8 hF => ?_))))))))))
                refine dw_aln rfl (d_s1 (d_s1 rfl rfl (by decide)) rfl (by decide)) (dw_gr rfl rfl rfl hH8 d_c2_0 (dw_gr rfl rfl rfl hH8 d_c3_4 (dw_il rfl p_lk_s1 (dw_ic rfl (dw_add rfl (dw_iln rfl (d_s1 (d_s1 rfl rfl (by decide)) rfl (by decide)) (dw_w2 (d_gd hF (fun g9 hF => dw_ast rfl hH8 d_a4 g9.1 g9.2 d_R_w rfl r_x2 hF (fun s10 h10 hH10 hF => ?_))))))))))
                refine dw_aln rfl (d_s1 (d_s1 rfl rfl (by decide)) rfl (by decide)) (dw_gr rfl rfl rfl hH10 d_c2_0 (dw_gr rfl rfl rfl hH10 d_c3_4 (dw_il rfl p_lk_s1 (dw_ic rfl (dw_add rfl (dw_iln rfl (d_s1 (d_s1 rfl rfl (by decide)) rfl (by decide)) (dw_w2 (d_gd hF (fun g11 hF => dw_ast rfl hH10 d_a4 g11.1 g11.2 d_R_w rfl r_x3 hF (fun s12 h12 hH12 hF => ?_))))))))))
                refine dw_aln rfl (d_s1 (d_s1 rfl rfl (by decide)) rfl (by decide)) (dw_gr rfl rfl rfl hH12 d_c2_0 (dw_gr rfl rfl rfl hH12 d_c3_4 (dw_il rfl p_lk_s1 (dw_ic rfl (dw_add rfl (dw_il rfl (d_s1 (d_s1 rfl rfl (by decide)) rfl (by decide)) (dw_w2 (d_gd hF (fun g13 hF => dw_ast rfl hH12 d_a4 g13.1 g13.2 d_R_w rfl r_x4 hF (fun s14 h14 hH14 hF => ?_))))))))))
                refine dw_aln rfl (d_s1 (d_s1 rfl rfl (by decide)) rfl (by decide)) (dw_gr rfl rfl rfl hH14 d_c2_0 (dw_gr rfl rfl rfl hH14 d_c3_4 (dw_il rfl p_lk_s1 (dw_ic rfl (dw_add rfl (dw_il rfl (d_s1 (d_s1 rfl rfl (by decide)) rfl (by decide)) (dw_w2 (d_gd hF (fun g15 hF => dw_ast rfl hH14 d_a4 g15.1 g15.2 d_R_w rfl r_x5 hF (fun s16 h16 hH16 hF => ?_))))))))))
                refine dw_aln rfl (d_s1 (d_s1 rfl rfl (by decide)) rfl (by decide)) (dw_gr rfl rfl rfl hH16 d_c2_0 (dw_gr rfl rfl rfl hH16 d_c3_4 (dw_il rfl p_lk_s1 (dw_ic rfl (dw_add rfl (dw_il rfl (d_s1 (d_s1 rfl rfl (by decide)) rfl (by decide)) (dw_w2 (d_gd hF (fun g17 hF => dw_ast rfl hH16 d_a4 g17.1 g17.2 d_R_w rfl r_x6 hF (fun s18 h18 hH18 hF => ?_))))))))))
                refine dw_aln rfl (d_s1 (d_s1 rfl rfl (by decide)) rfl (by decide)) (dw_gr rfl rfl rfl hH18 d_c2_0 (dw_dupr rfl (dw_gi (k := 3) rfl rfl rfl hH18 d_c3_3 (dw_ic rfl (dw_add rfl (dw_w1 (dw_pi (k := 3) rfl rfl rfl rfl hH18 d_c3_3 d_R_w (by decide) hF (fun s19 h19 hH19 hF => dw_aln rfl (d_s1 (d_s1 rfl rfl (by decide)) rfl (by decide)) (dw_gr rfl rfl rfl hH19 d_c2_0 (?_))))))))))
                exact dw_gi (k := 3) rfl rfl rfl hH19 d_c3_3 (dw_ic rfl (dw_sub rfl (dw_w1 (dw_rI rfl rfl d_R_w hH19 hF))))
set_option maxRecDepth 100000 in
noncomputable def F_X11_end (s : d_S) (x1 : Int) : Option (Int × d_S) :=
  d_b (F_X11_within x1 0 (s.1 43 1)) (fun v1 => if v1 = 0 then
  some ((-1), s)
  else
  d_l (d_si s 43 1 x1) (fun s2 => some (x1, s2)))
set_option maxRecDepth 100000 in
theorem D_X11_end {t : Nat → Option p_C} {h : p_H} {s : d_S} {x1 : Int} {r : Int × d_S} (hF : F_X11_end s x1 = some r) (hH : d_V t h s) (r_x1 : d_R x1) : p_wp p_GT p_MT 1 m_X11_end 0 (lv_args 0 [.ref 2, .int (Int32.ofInt x1)]) [] h (d_QI t r) := by
  unfold F_X11_end at hF
  refine dw_iln rfl rfl (dw_ic rfl (dw_aln rfl rfl (dw_gr rfl rfl rfl hH d_c2_3 (dw_gi (k := 1) rfl rfl rfl hH d_c43_1 (dw_sB hF rfl rfl rfl rfl rfl (dc := 0) (fun _ e => D_X11_within e r_x1 (d_rl rfl) hH.r) (fun v1 r_v1 hF => ?_))))))
  refine d_if hF (fun q hF => ?_) (fun q hF => ?_)
  · refine dw_zne_y rfl (u := 17) rfl (d_R_b r_v1) q ?_
    exact dw_ic rfl (dw_rI rfl rfl (d_rl rfl) hH hF)
  · refine dw_zne_n rfl (u := 17) rfl (d_R_b r_v1) q ?_
    exact dw_aln rfl rfl (dw_gr rfl rfl rfl hH d_c2_3 (dw_iln rfl rfl (dw_pi (k := 1) rfl rfl rfl rfl hH d_c43_1 r_x1 (by decide) hF (fun s2 h2 hH2 hF => dw_iln rfl rfl (dw_rI rfl rfl r_x1 hH2 hF)))))
set_option maxRecDepth 100000 in
noncomputable def F_X11_fault (s : d_S) (x1 : Int) : Option (Int) :=
  if x1 = 0 then
  some (s.1 43 2)
  else
  if x1 = 1 then
  some (s.1 43 3)
  else
  some (-1)
set_option maxRecDepth 100000 in
theorem D_X11_fault {t : Nat → Option p_C} {h : p_H} {s : d_S} {x1 : Int} {r : Int} (hF : F_X11_fault s x1 = some r) (hH : d_V t h s) (r_x1 : d_R x1) : p_wp p_GT p_MT 0 m_X11_fault 0 (lv_args 0 [.ref 2, .int (Int32.ofInt x1)]) [] h (d_QP h r) := by
  unfold F_X11_fault at hF
  refine dw_iln rfl rfl (?_)
  refine d_if hF (fun q hF => ?_) (fun q hF => ?_)
  · refine dw_zne_y rfl (u := 12) rfl r_x1 q ?_
    exact dw_aln rfl rfl (dw_gr rfl rfl rfl hH d_c2_3 (dw_gi (k := 2) rfl rfl rfl hH d_c43_2 (dw_rP rfl rfl hH.r hF)))
  · refine dw_zne_n rfl (u := 12) rfl r_x1 q ?_
    refine dw_iln rfl rfl (dw_ic rfl (?_))
    refine d_if hF (fun q hF => ?_) (fun q hF => ?_)
    · refine dw_ne_y rfl (u := 27) rfl r_x1 (d_rl rfl) q ?_
      exact dw_aln rfl rfl (dw_gr rfl rfl rfl hH d_c2_3 (dw_gi (k := 3) rfl rfl rfl hH d_c43_3 (dw_go rfl (u := 28) rfl (dw_rP rfl rfl hH.r hF))))
    · refine dw_ne_n rfl (u := 27) rfl r_x1 (d_rl rfl) q ?_
      exact dw_ic rfl (dw_rP rfl rfl (d_rl rfl) hF)
set_option maxRecDepth 100000 in
noncomputable def F_X9_textAt_3_j30 (s : d_S) : Option (Option Nat) :=
  some none
set_option maxRecDepth 100000 in
theorem D_X9_textAt_3_j30 {t : Nat → Option p_C} {h : p_H} {s : d_S} {r : Option Nat} {ls : p_Ls} (hF : F_X9_textAt_3_j30 s = some r) (hH : d_V t h s) : p_wp p_GT p_MT 0 m_X9_textAt 30 ls [] h (d_QO t h r) := by
  unfold F_X9_textAt_3_j30 at hF
  exact dw_null rfl (dw_rO rfl rfl (fun _ q => nomatch q) hF)
set_option maxRecDepth 100000 in
noncomputable def F_X9_textAt_3 (s : d_S) (x1 : Int) : Option (Option Nat) :=
  if x1 < 0 then
  F_X9_textAt_3_j30 s
  else
  if x1 < (s.1 3 5) then
  if x1 < 4 then
  d_g (0 ≤ x1 ∧ x1 < 4) (some (s.2.1 5 (x1.toNat)))
  else
  F_X9_textAt_3_j30 s
  else
  F_X9_textAt_3_j30 s
set_option maxRecDepth 100000 in
theorem D_X9_textAt_3 {t : Nat → Option p_C} {h : p_H} {s : d_S} {x1 : Int} {r : Option Nat} (hF : F_X9_textAt_3 s x1 = some r) (hH : d_V t h s) (r_x1 : d_R x1) : p_wp p_GT p_MT 0 m_X9_textAt 0 (lv_args 0 [.ref 3, .int (Int32.ofInt x1)]) [] h (d_QO t h r) := by
  unfold F_X9_textAt_3 at hF
  refine dw_iln rfl rfl (?_)
  refine d_if hF (fun q hF => ?_) (fun q hF => ?_)
  · refine dw_zlt_y rfl (u := 30) rfl r_x1 q ?_
    exact D_X9_textAt_3_j30 hF hH
  · refine dw_zlt_n rfl (u := 30) rfl r_x1 q ?_
    refine dw_iln rfl rfl (dw_aln rfl rfl (dw_gi (k := 5) rfl rfl rfl hH d_c3_5 (?_)))
    refine d_if hF (fun q hF => ?_) (fun q hF => ?_)
    · refine dw_ge_y rfl (u := 30) rfl r_x1 hH.r q ?_
      refine dw_iln rfl rfl (dw_aln rfl rfl (dw_gr rfl rfl rfl hH d_c3_7 (dw_len rfl hH d_a5 rfl (z := 4) rfl (?_))))
      refine d_if hF (fun q hF => ?_) (fun q hF => ?_)
      · refine dw_ge_y rfl (u := 30) rfl r_x1 (d_rl rfl) q ?_
        exact dw_aln rfl rfl (dw_gr rfl rfl rfl hH d_c3_7 (dw_iln rfl rfl (d_gd hF (fun g1 hF => dw_old rfl hH d_a5 g1.1 g1.2 r_x1 rfl (dw_go rfl (u := 31) rfl (dw_rO rfl rfl (hH.T (by decide)) hF))))))
      · refine dw_ge_n rfl (u := 30) rfl r_x1 (d_rl rfl) q ?_
        exact D_X9_textAt_3_j30 hF hH
    · refine dw_ge_n rfl (u := 30) rfl r_x1 hH.r q ?_
      exact D_X9_textAt_3_j30 hF hH

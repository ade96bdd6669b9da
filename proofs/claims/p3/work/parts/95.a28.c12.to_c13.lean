set_option maxRecDepth 100000 in
noncomputable def F_X9_become_20_3_l68_b (k95 : d_S → Option (d_S)) (rec : Int → d_S → Option (d_S)) (x2 : Int) (s : d_S) : Option (d_S) :=
  if x2 < 4 then
  d_g (0 ≤ x2 ∧ x2 < 4) (d_g (0 ≤ x2 ∧ x2 < 4) (d_l (d_sp s 22 ((x2).toNat) (s.2.1 5 (x2.toNat))) (fun s11 => rec (d_w (x2 + 1)) s11)))
  else
  k95 s
set_option maxRecDepth 100000 in
noncomputable def F_X9_become_20_3_l68 (k95 : d_S → Option (d_S)) : Nat → Int → d_S → Option (d_S)
  | 0 => fun _ _ => none
  | n + 1 => F_X9_become_20_3_l68_b k95 (F_X9_become_20_3_l68 k95 n)
set_option maxRecDepth 100000 in
theorem D_X9_become_20_3_l68 {t : Nat → Option p_C} {k95 : d_S → Option (d_S)} {r : d_S} (hk95 : ∀ {ls : p_Ls} {s : d_S} {h : p_H}, k95 s = some r → d_V t h s → p_lk 0 ls = some (.ref 20) → p_lk 1 ls = some (.ref 3) → p_wp p_GT p_MT 1 m_X9_become 95 ls [] h (d_QV t r)) : ∀ (n : Nat) {x2 : Int} {ls : p_Ls} {s : d_S} {h : p_H}, F_X9_become_20_3_l68 k95 n x2 s = some r → d_V t h s → p_lk 0 ls = some (.ref 20) → p_lk 1 ls = some (.ref 3) → d_R x2 → p_lk 2 ls = some (.int (Int32.ofInt x2)) → p_wp p_GT p_MT 1 m_X9_become 68 ls [] h (d_QV t r) := by
  intro n
  induction n with
  | zero =>
    intro x2 ls s h hF hH l0 l1 r_x2 l2
    cases (show (none : Option (d_S)) = some r from hF)
  | succ n ih =>
    intro x2 ls s h hF hH l0 l1 r_x2 l2
    have hF : F_X9_become_20_3_l68_b k95 (F_X9_become_20_3_l68 k95 n) x2 s = some r := hF
    unfold F_X9_become_20_3_l68_b at hF
    refine dw_iln rfl l2 (dw_aln rfl l0 (dw_gr rfl rfl rfl hH d_c20_7 (dw_len rfl hH d_a22 rfl (z := 4) rfl (?_))))
    refine d_if hF (fun q hF => ?_) (fun q hF => ?_)
    · refine dw_ge_y rfl (u := 95) rfl r_x2 (d_rl rfl) q ?_
      refine dw_aln rfl l0 (dw_gr rfl rfl rfl hH d_c20_7 (dw_iln rfl l2 (dw_aln rfl l1 (dw_gr rfl rfl rfl hH d_c3_7 (dw_iln rfl l2 (d_gd hF (fun g9 hF => dw_old rfl hH d_a5 g9.1 g9.2 r_x2 rfl (d_gd hF (fun g10 hF => dw_ost rfl hH d_a22 g10.1 g10.2 r_x2 rfl (hH.T (by decide)) hF (fun s11 h11 hH11 hF => ?_))))))))))
      refine dw_ii rfl l2 rfl (dw_go rfl (u := 68) rfl (?_))
      exact ih hF hH11 (d_s1 l0 rfl (by decide)) (d_s1 l1 rfl (by decide)) d_R_w p_lk_s1
    · refine dw_ge_n rfl (u := 95) rfl r_x2 (d_rl rfl) q ?_
      exact hk95 hF hH l0 l1
set_option maxRecDepth 100000 in
noncomputable def F_X9_become_20_3 (s : d_S) : Option (d_S) :=
  d_l (d_si s 20 0 (s.1 3 0)) (fun s1 => d_l (d_si s1 20 1 (s1.1 3 1)) (fun s2 => d_g ((s2.1 3 2) = 0 ∨ (s2.1 3 2) = 1) (d_l (d_si s2 20 2 (s2.1 3 2)) (fun s4 => d_l (d_si s4 20 3 (s4.1 3 3)) (fun s5 => d_l (d_cp s5 4 0 21 0 72) (fun s6 => d_l (d_si s6 20 5 (s6.1 3 5)) (fun s7 => d_l (d_si s7 20 6 (s7.1 3 6)) (fun s8 => F_X9_become_20_3_l68 (fun s_u12 =>
  d_b (F_X10_become_23_6 s_u12) (fun s13 => d_b (F_X6_become_25_8 s13) (fun s14 => d_b (F_X8_become_27_10 s14) (fun s15 => d_b (F_X8_become_29_12 s15) (fun s16 => d_b (F_X8_become_31_14 s16) (fun s17 => d_b (F_X8_become_33_16 s17) (fun s18 => d_b (F_X8_become_35_18 s18) (fun s19 => some s19)))))))) d_N 0 s8))))))))
set_option maxRecDepth 100000 in
theorem D_X9_become_20_3 {t : Nat → Option p_C} {h : p_H} {s : d_S} {r : d_S} (hF : F_X9_become_20_3 s = some r) (hH : d_V t h s) : p_wp p_GT p_MT 1 m_X9_become 0 (lv_args 0 [.ref 20, .ref 3]) [] h (d_QV t r) := by
  unfold F_X9_become_20_3 at hF
  refine dw_aln rfl rfl (dw_aln rfl rfl (dw_gi (k := 0) rfl rfl rfl hH d_c3_0 (dw_pi (k := 0) rfl rfl rfl rfl hH d_c20_0 hH.r (by decide) hF (fun s1 h1 hH1 hF => dw_aln rfl rfl (dw_aln rfl rfl (dw_gi (k := 1) rfl rfl rfl hH1 d_c3_1 (dw_pi (k := 1) rfl rfl rfl rfl hH1 d_c20_1 hH1.r (by decide) hF (fun s2 h2 hH2 hF => dw_aln rfl rfl (dw_aln rfl rfl (?_))))))))))
  refine dw_gi (k := 2) rfl rfl rfl hH2 d_c3_2 (d_gd hF (fun g3 hF => dw_pb (k := 2) rfl rfl rfl rfl hH2 d_c20_2 g3 (by decide) hF (fun s4 h4 hH4 hF => dw_aln rfl rfl (dw_aln rfl rfl (dw_gi (k := 3) rfl rfl rfl hH4 d_c3_3 (dw_pi (k := 3) rfl rfl rfl rfl hH4 d_c20_3 hH4.r (by decide) hF (fun s5 h5 hH5 hF => dw_aln rfl rfl (dw_gr rfl rfl rfl hH5 d_c3_4 (dw_ic rfl (?_))))))))))
  refine dw_aln rfl rfl (dw_gr rfl rfl rfl hH5 d_c20_4 (dw_ic rfl (dw_aln rfl rfl (dw_gr rfl rfl rfl hH5 d_c20_4 (dw_len rfl hH5 d_a21 rfl (z := 72) rfl (dw_cpy rfl rfl hH5 d_a4 d_a21 (d_rl rfl) (d_rl rfl) (d_rl rfl) (by decide) rfl hF (fun s6 h6 hH6 hF => dw_aln rfl rfl (dw_aln rfl rfl (dw_gi (k := 5) rfl rfl rfl hH6 d_c3_5 (?_))))))))))
  refine dw_pi (k := 5) rfl rfl rfl rfl hH6 d_c20_5 hH6.r (by decide) hF (fun s7 h7 hH7 hF => dw_aln rfl rfl (dw_aln rfl rfl (dw_gi (k := 6) rfl rfl rfl hH7 d_c3_6 (dw_pi (k := 6) rfl rfl rfl rfl hH7 d_c20_6 hH7.r (by decide) hF (fun s8 h8 hH8 hF => dw_ic rfl (dw_isn rfl rfl (?_)))))))
  refine D_X9_become_20_3_l68 (fun {ls_u12} {s_u12} {h_u12} hF hH_u12 l0_u12 l1_u12 => ?_) _ hF hH8 (d_s1 rfl rfl (by decide)) (d_s1 rfl rfl (by decide)) (d_rl rfl) p_lk_s1
  · refine dw_aln rfl l0_u12 (dw_gr rfl rfl rfl hH_u12 d_c20_8 (dw_aln rfl l1_u12 (dw_gr rfl rfl rfl hH_u12 d_c3_8 (dw_vV hF rfl (d_vir (n := 2) rfl rfl rfl rfl rfl hH_u12 d_c23_0 rfl) rfl rfl rfl (dc := 0) (fun _ e => D_X10_become_23_6 e hH_u12) (fun s13 h13 hH13 hF => dw_aln rfl l0_u12 (dw_gr rfl rfl rfl hH13 d_c20_9 (dw_aln rfl l1_u12 (dw_gr rfl rfl rfl hH13 d_c3_9 (dw_vV hF rfl (d_vir (n := 2) rfl rfl rfl rfl rfl hH13 d_c25_0 rfl) rfl rfl rfl (dc := 0) (fun _ e => D_X6_become_25_8 e hH13) (fun s14 h14 hH14 hF => ?_))))))))))
    refine dw_aln rfl l0_u12 (dw_gr rfl rfl rfl hH14 d_c20_10 (dw_aln rfl l1_u12 (dw_gr rfl rfl rfl hH14 d_c3_10 (dw_vV hF rfl (d_vir (n := 2) rfl rfl rfl rfl rfl hH14 d_c27_0 rfl) rfl rfl rfl (dc := 0) (fun _ e => D_X8_become_27_10 e hH14) (fun s15 h15 hH15 hF => dw_aln rfl l0_u12 (dw_gr rfl rfl rfl hH15 d_c20_11 (dw_aln rfl l1_u12 (dw_gr rfl rfl rfl hH15 d_c3_11 (dw_vV hF rfl (d_vir (n := 2) rfl rfl rfl rfl rfl hH15 d_c29_0 rfl) rfl rfl rfl (dc := 0) (fun _ e => D_X8_become_29_12 e hH15) (fun s16 h16 hH16 hF => ?_))))))))))
    refine dw_aln rfl l0_u12 (dw_gr rfl rfl rfl hH16 d_c20_12 (dw_aln rfl l1_u12 (dw_gr rfl rfl rfl hH16 d_c3_12 (dw_vV hF rfl (d_vir (n := 2) rfl rfl rfl rfl rfl hH16 d_c31_0 rfl) rfl rfl rfl (dc := 0) (fun _ e => D_X8_become_31_14 e hH16) (fun s17 h17 hH17 hF => dw_aln rfl l0_u12 (dw_gr rfl rfl rfl hH17 d_c20_13 (dw_aln rfl l1_u12 (dw_gr rfl rfl rfl hH17 d_c3_13 (dw_vV hF rfl (d_vir (n := 2) rfl rfl rfl rfl rfl hH17 d_c33_0 rfl) rfl rfl rfl (dc := 0) (fun _ e => D_X8_become_33_16 e hH17) (fun s18 h18 hH18 hF => ?_))))))))))
    exact dw_aln rfl l0_u12 (dw_gr rfl rfl rfl hH18 d_c20_14 (dw_aln rfl l1_u12 (dw_gr rfl rfl rfl hH18 d_c3_14 (dw_vV hF rfl (d_vir (n := 2) rfl rfl rfl rfl rfl hH18 d_c35_0 rfl) rfl rfl rfl (dc := 0) (fun _ e => D_X8_become_35_18 e hH18) (fun s19 h19 hH19 hF => dw_rV rfl rfl hH19 hF)))))
set_option maxRecDepth 100000 in
noncomputable def F_X11_image (s : d_S) : Option (Int × d_S) :=
  d_b (F_X9_become_20_3 s) (fun s1 => some ((s1.1 6 3), s1))
set_option maxRecDepth 100000 in
theorem D_X11_image {t : Nat → Option p_C} {h : p_H} {s : d_S} {r : Int × d_S} (hF : F_X11_image s = some r) (hH : d_V t h s) : p_wp p_GT p_MT 2 m_X11_image 0 (lv_args 0 [.ref 2]) [] h (d_QI t r) := by
  unfold F_X11_image at hF
  exact dw_aln rfl rfl (dw_gr rfl rfl rfl hH d_c2_1 (dw_aln rfl rfl (dw_gr rfl rfl rfl hH d_c2_0 (dw_vV hF rfl (d_vir (n := 2) rfl rfl rfl rfl rfl hH d_c20_0 rfl) rfl rfl rfl (dc := 1) (fun _ e => D_X9_become_20_3 e hH) (fun s1 h1 hH1 hF => dw_aln rfl rfl (dw_gr rfl rfl rfl hH1 d_c2_0 (dw_gr rfl rfl rfl hH1 d_c3_8 (dw_gi (k := 3) rfl rfl rfl hH1 d_c6_3 (dw_rI rfl rfl hH1.r hH1 hF)))))))))
set_option maxRecDepth 100000 in
noncomputable def F_X10_become_6_23 (s : d_S) : Option (d_S) :=
  d_l (d_si s 6 0 (s.1 23 0)) (fun s1 => d_l (d_si s1 6 1 (s1.1 23 1)) (fun s2 => d_l (d_si s2 6 2 (s2.1 23 2)) (fun s3 => d_l (d_si s3 6 3 (s3.1 23 3)) (fun s4 => d_l (d_si s4 6 4 (s4.1 23 4)) (fun s5 => d_l (d_si s5 6 5 (s5.1 23 5)) (fun s6 => d_l (d_si s6 6 6 (s6.1 23 6)) (fun s7 => d_l (d_cp s7 24 0 7 0 64) (fun s8 => some s8))))))))
set_option maxRecDepth 100000 in
theorem D_X10_become_6_23 {t : Nat → Option p_C} {h : p_H} {s : d_S} {r : d_S} (hF : F_X10_become_6_23 s = some r) (hH : d_V t h s) : p_wp p_GT p_MT 0 m_X10_become 0 (lv_args 0 [.ref 6, .ref 23]) [] h (d_QV t r) := by
  unfold F_X10_become_6_23 at hF
  refine dw_aln rfl rfl (dw_aln rfl rfl (dw_gi (k := 0) rfl rfl rfl hH d_c23_0 (dw_pi (k := 0) rfl rfl rfl rfl hH d_c6_0 hH.r (by decide) hF (fun s1 h1 hH1 hF => dw_aln rfl rfl (dw_aln rfl rfl (dw_gi (k := 1) rfl rfl rfl hH1 d_c23_1 (dw_pi (k := 1) rfl rfl rfl rfl hH1 d_c6_1 hH1.r (by decide) hF (fun s2 h2 hH2 hF => dw_aln rfl rfl (dw_aln rfl rfl (?_))))))))))
  refine dw_gi (k := 2) rfl rfl rfl hH2 d_c23_2 (dw_pi (k := 2) rfl rfl rfl rfl hH2 d_c6_2 hH2.r (by decide) hF (fun s3 h3 hH3 hF => dw_aln rfl rfl (dw_aln rfl rfl (dw_gi (k := 3) rfl rfl rfl hH3 d_c23_3 (dw_pi (k := 3) rfl rfl rfl rfl hH3 d_c6_3 hH3.r (by decide) hF (fun s4 h4 hH4 hF => dw_aln rfl rfl (dw_aln rfl rfl (dw_gi (k := 4) rfl rfl rfl hH4 d_c23_4 (dw_pi (k := 4) rfl rfl rfl rfl hH4 d_c6_4 hH4.r (by decide) hF (fun s5 h5 hH5 hF => ?_))))))))))
  refine dw_aln rfl rfl (dw_aln rfl rfl (dw_gi (k := 5) rfl rfl rfl hH5 d_c23_5 (dw_pi (k := 5) rfl rfl rfl rfl hH5 d_c6_5 hH5.r (by decide) hF (fun s6 h6 hH6 hF => dw_aln rfl rfl (dw_aln rfl rfl (dw_gi (k := 6) rfl rfl rfl hH6 d_c23_6 (dw_pi (k := 6) rfl rfl rfl rfl hH6 d_c6_6 hH6.r (by decide) hF (fun s7 h7 hH7 hF => dw_aln rfl rfl (dw_gr rfl rfl rfl hH7 d_c23_7 (?_))))))))))
  exact dw_ic rfl (dw_aln rfl rfl (dw_gr rfl rfl rfl hH7 d_c6_7 (dw_ic rfl (dw_aln rfl rfl (dw_gr rfl rfl rfl hH7 d_c6_7 (dw_len rfl hH7 d_a7 rfl (z := 64) rfl (dw_cpy rfl rfl hH7 d_a24 d_a7 (d_rl rfl) (d_rl rfl) (d_rl rfl) (by decide) rfl hF (fun s8 h8 hH8 hF => dw_rV rfl rfl hH8 hF))))))))
set_option maxRecDepth 100000 in
noncomputable def F_X6_become_8_25 (s : d_S) : Option (d_S) :=
  d_l (d_si s 8 1 (s.1 25 1)) (fun s1 => d_l (d_si s1 8 2 (s1.1 25 2)) (fun s2 => d_l (d_cp s2 26 0 9 0 2130) (fun s3 => some s3)))
set_option maxRecDepth 100000 in
theorem D_X6_become_8_25 {t : Nat → Option p_C} {h : p_H} {s : d_S} {r : d_S} (hF : F_X6_become_8_25 s = some r) (hH : d_V t h s) : p_wp p_GT p_MT 0 m_X6_become 0 (lv_args 0 [.ref 8, .ref 25]) [] h (d_QV t r) := by
  unfold F_X6_become_8_25 at hF
  refine dw_aln rfl rfl (dw_aln rfl rfl (dw_gi (k := 1) rfl rfl rfl hH d_c25_1 (dw_pi (k := 1) rfl rfl rfl rfl hH d_c8_1 hH.r (by decide) hF (fun s1 h1 hH1 hF => dw_aln rfl rfl (dw_aln rfl rfl (dw_gi (k := 2) rfl rfl rfl hH1 d_c25_2 (dw_pi (k := 2) rfl rfl rfl rfl hH1 d_c8_2 hH1.r (by decide) hF (fun s2 h2 hH2 hF => dw_aln rfl rfl (dw_gr rfl rfl rfl hH2 d_c25_0 (?_))))))))))
  exact dw_ic rfl (dw_aln rfl rfl (dw_gr rfl rfl rfl hH2 d_c8_0 (dw_ic rfl (dw_aln rfl rfl (dw_gr rfl rfl rfl hH2 d_c8_0 (dw_len rfl hH2 d_a9 rfl (z := 2130) rfl (dw_cpy rfl rfl hH2 d_a26 d_a9 (d_rl rfl) (d_rl rfl) (d_rl rfl) (by decide) rfl hF (fun s3 h3 hH3 hF => dw_rV rfl rfl hH3 hF))))))))
set_option maxRecDepth 100000 in
noncomputable def F_X8_become_10_27 (s : d_S) : Option (d_S) :=
  d_l (d_si s 10 2 (s.1 27 2)) (fun s1 => d_l (d_cp s1 28 0 11 0 32) (fun s2 => some s2))
set_option maxRecDepth 100000 in
theorem D_X8_become_10_27 {t : Nat → Option p_C} {h : p_H} {s : d_S} {r : d_S} (hF : F_X8_become_10_27 s = some r) (hH : d_V t h s) : p_wp p_GT p_MT 0 m_X8_become 0 (lv_args 0 [.ref 10, .ref 27]) [] h (d_QV t r) := by
  unfold F_X8_become_10_27 at hF
  refine dw_aln rfl rfl (dw_aln rfl rfl (dw_gi (k := 2) rfl rfl rfl hH d_c27_2 (dw_pi (k := 2) rfl rfl rfl rfl hH d_c10_2 hH.r (by decide) hF (fun s1 h1 hH1 hF => dw_aln rfl rfl (dw_gr rfl rfl rfl hH1 d_c27_1 (dw_ic rfl (dw_aln rfl rfl (dw_gr rfl rfl rfl hH1 d_c10_1 (dw_ic rfl (?_))))))))))
  exact dw_aln rfl rfl (dw_gr rfl rfl rfl hH1 d_c10_1 (dw_len rfl hH1 d_a11 rfl (z := 32) rfl (dw_cpy rfl rfl hH1 d_a28 d_a11 (d_rl rfl) (d_rl rfl) (d_rl rfl) (by decide) rfl hF (fun s2 h2 hH2 hF => dw_rV rfl rfl hH2 hF))))
set_option maxRecDepth 100000 in
noncomputable def F_X8_become_12_29 (s : d_S) : Option (d_S) :=
  d_l (d_si s 12 2 (s.1 29 2)) (fun s1 => d_l (d_cp s1 30 0 13 0 32) (fun s2 => some s2))
set_option maxRecDepth 100000 in
theorem D_X8_become_12_29 {t : Nat → Option p_C} {h : p_H} {s : d_S} {r : d_S} (hF : F_X8_become_12_29 s = some r) (hH : d_V t h s) : p_wp p_GT p_MT 0 m_X8_become 0 (lv_args 0 [.ref 12, .ref 29]) [] h (d_QV t r) := by
  unfold F_X8_become_12_29 at hF
  refine dw_aln rfl rfl (dw_aln rfl rfl (dw_gi (k := 2) rfl rfl rfl hH d_c29_2 (dw_pi (k := 2) rfl rfl rfl rfl hH d_c12_2 hH.r (by decide) hF (fun s1 h1 hH1 hF => dw_aln rfl rfl (dw_gr rfl rfl rfl hH1 d_c29_1 (dw_ic rfl (dw_aln rfl rfl (dw_gr rfl rfl rfl hH1 d_c12_1 (dw_ic rfl (?_))))))))))
  exact dw_aln rfl rfl (dw_gr rfl rfl rfl hH1 d_c12_1 (dw_len rfl hH1 d_a13 rfl (z := 32) rfl (dw_cpy rfl rfl hH1 d_a30 d_a13 (d_rl rfl) (d_rl rfl) (d_rl rfl) (by decide) rfl hF (fun s2 h2 hH2 hF => dw_rV rfl rfl hH2 hF))))
set_option maxRecDepth 100000 in
noncomputable def F_X8_become_14_31 (s : d_S) : Option (d_S) :=
  d_l (d_si s 14 2 (s.1 31 2)) (fun s1 => d_l (d_cp s1 32 0 15 0 32) (fun s2 => some s2))
set_option maxRecDepth 100000 in
theorem D_X8_become_14_31 {t : Nat → Option p_C} {h : p_H} {s : d_S} {r : d_S} (hF : F_X8_become_14_31 s = some r) (hH : d_V t h s) : p_wp p_GT p_MT 0 m_X8_become 0 (lv_args 0 [.ref 14, .ref 31]) [] h (d_QV t r) := by
  unfold F_X8_become_14_31 at hF
  refine dw_aln rfl rfl (dw_aln rfl rfl (dw_gi (k := 2) rfl rfl rfl hH d_c31_2 (dw_pi (k := 2) rfl rfl rfl rfl hH d_c14_2 hH.r (by decide) hF (fun s1 h1 hH1 hF => dw_aln rfl rfl (dw_gr rfl rfl rfl hH1 d_c31_1 (dw_ic rfl (dw_aln rfl rfl (dw_gr rfl rfl rfl hH1 d_c14_1 (dw_ic rfl (?_))))))))))
  exact dw_aln rfl rfl (dw_gr rfl rfl rfl hH1 d_c14_1 (dw_len rfl hH1 d_a15 rfl (z := 32) rfl (dw_cpy rfl rfl hH1 d_a32 d_a15 (d_rl rfl) (d_rl rfl) (d_rl rfl) (by decide) rfl hF (fun s2 h2 hH2 hF => dw_rV rfl rfl hH2 hF))))
set_option maxRecDepth 100000 in
noncomputable def F_X8_become_16_33 (s : d_S) : Option (d_S) :=
  d_l (d_si s 16 2 (s.1 33 2)) (fun s1 => d_l (d_cp s1 34 0 17 0 32) (fun s2 => some s2))
set_option maxRecDepth 100000 in
theorem D_X8_become_16_33 {t : Nat → Option p_C} {h : p_H} {s : d_S} {r : d_S} (hF : F_X8_become_16_33 s = some r) (hH : d_V t h s) : p_wp p_GT p_MT 0 m_X8_become 0 (lv_args 0 [.ref 16, .ref 33]) [] h (d_QV t r) := by
  unfold F_X8_become_16_33 at hF
  refine dw_aln rfl rfl (dw_aln rfl rfl (dw_gi (k := 2) rfl rfl rfl hH d_c33_2 (dw_pi (k := 2) rfl rfl rfl rfl hH d_c16_2 hH.r (by decide) hF (fun s1 h1 hH1 hF => dw_aln rfl rfl (dw_gr rfl rfl rfl hH1 d_c33_1 (dw_ic rfl (dw_aln rfl rfl (dw_gr rfl rfl rfl hH1 d_c16_1 (dw_ic rfl (?_))))))))))
  exact dw_aln rfl rfl (dw_gr rfl rfl rfl hH1 d_c16_1 (dw_len rfl hH1 d_a17 rfl (z := 32) rfl (dw_cpy rfl rfl hH1 d_a34 d_a17 (d_rl rfl) (d_rl rfl) (d_rl rfl) (by decide) rfl hF (fun s2 h2 hH2 hF => dw_rV rfl rfl hH2 hF))))
set_option maxRecDepth 100000 in
noncomputable def F_X8_become_18_35 (s : d_S) : Option (d_S) :=
  d_l (d_si s 18 2 (s.1 35 2)) (fun s1 => d_l (d_cp s1 36 0 19 0 32) (fun s2 => some s2))
set_option maxRecDepth 100000 in
theorem D_X8_become_18_35 {t : Nat → Option p_C} {h : p_H} {s : d_S} {r : d_S} (hF : F_X8_become_18_35 s = some r) (hH : d_V t h s) : p_wp p_GT p_MT 0 m_X8_become 0 (lv_args 0 [.ref 18, .ref 35]) [] h (d_QV t r) := by
  unfold F_X8_become_18_35 at hF
  refine dw_aln rfl rfl (dw_aln rfl rfl (dw_gi (k := 2) rfl rfl rfl hH d_c35_2 (dw_pi (k := 2) rfl rfl rfl rfl hH d_c18_2 hH.r (by decide) hF (fun s1 h1 hH1 hF => dw_aln rfl rfl (dw_gr rfl rfl rfl hH1 d_c35_1 (dw_ic rfl (dw_aln rfl rfl (dw_gr rfl rfl rfl hH1 d_c18_1 (dw_ic rfl (?_))))))))))
  exact dw_aln rfl rfl (dw_gr rfl rfl rfl hH1 d_c18_1 (dw_len rfl hH1 d_a19 rfl (z := 32) rfl (dw_cpy rfl rfl hH1 d_a36 d_a19 (d_rl rfl) (d_rl rfl) (d_rl rfl) (by decide) rfl hF (fun s2 h2 hH2 hF => dw_rV rfl rfl hH2 hF))))
set_option maxRecDepth 100000 in
noncomputable def F_X9_become_3_20_l68_b (k95 : d_S → Option (d_S)) (rec : Int → d_S → Option (d_S)) (x2 : Int) (s : d_S) : Option (d_S) :=
  if x2 < 4 then
  d_g (0 ≤ x2 ∧ x2 < 4) (d_g (0 ≤ x2 ∧ x2 < 4) (d_l (d_sp s 5 ((x2).toNat) (s.2.1 22 (x2.toNat))) (fun s11 => rec (d_w (x2 + 1)) s11)))
  else
  k95 s
set_option maxRecDepth 100000 in
noncomputable def F_X9_become_3_20_l68 (k95 : d_S → Option (d_S)) : Nat → Int → d_S → Option (d_S)
  | 0 => fun _ _ => none
  | n + 1 => F_X9_become_3_20_l68_b k95 (F_X9_become_3_20_l68 k95 n)
set_option maxRecDepth 100000 in
theorem D_X9_become_3_20_l68 {t : Nat → Option p_C} {k95 : d_S → Option (d_S)} {r : d_S} (hk95 : ∀ {ls : p_Ls} {s : d_S} {h : p_H}, k95 s = some r → d_V t h s → p_lk 0 ls = some (.ref 3) → p_lk 1 ls = some (.ref 20) → p_wp p_GT p_MT 1 m_X9_become 95 ls [] h (d_QV t r)) : ∀ (n : Nat) {x2 : Int} {ls : p_Ls} {s : d_S} {h : p_H}, F_X9_become_3_20_l68 k95 n x2 s = some r → d_V t h s → p_lk 0 ls = some (.ref 3) → p_lk 1 ls = some (.ref 20) → d_R x2 → p_lk 2 ls = some (.int (Int32.ofInt x2)) → p_wp p_GT p_MT 1 m_X9_become 68 ls [] h (d_QV t r) := by
  intro n
  induction n with
  | zero =>
    intro x2 ls s h hF hH l0 l1 r_x2 l2
    cases (show (none : Option (d_S)) = some r from hF)
  | succ n ih =>
    intro x2 ls s h hF hH l0 l1 r_x2 l2
    have hF : F_X9_become_3_20_l68_b k95 (F_X9_become_3_20_l68 k95 n) x2 s = some r := hF
    unfold F_X9_become_3_20_l68_b at hF
    refine dw_iln rfl l2 (dw_aln rfl l0 (dw_gr rfl rfl rfl hH d_c3_7 (dw_len rfl hH d_a5 rfl (z := 4) rfl (?_))))
    refine d_if hF (fun q hF => ?_) (fun q hF => ?_)
    · refine dw_ge_y rfl (u := 95) rfl r_x2 (d_rl rfl) q ?_
      refine dw_aln rfl l0 (dw_gr rfl rfl rfl hH d_c3_7 (dw_iln rfl l2 (dw_aln rfl l1 (dw_gr rfl rfl rfl hH d_c20_7 (dw_iln rfl l2 (d_gd hF (fun g9 hF => dw_old rfl hH d_a22 g9.1 g9.2 r_x2 rfl (d_gd hF (fun g10 hF => dw_ost rfl hH d_a5 g10.1 g10.2 r_x2 rfl (hH.T (by decide)) hF (fun s11 h11 hH11 hF => ?_))))))))))
      refine dw_ii rfl l2 rfl (dw_go rfl (u := 68) rfl (?_))
      exact ih hF hH11 (d_s1 l0 rfl (by decide)) (d_s1 l1 rfl (by decide)) d_R_w p_lk_s1
    · refine dw_ge_n rfl (u := 95) rfl r_x2 (d_rl rfl) q ?_
      exact hk95 hF hH l0 l1
set_option maxRecDepth 100000 in
noncomputable def F_X9_become_3_20 (s : d_S) : Option (d_S) :=
  d_l (d_si s 3 0 (s.1 20 0)) (fun s1 => d_l (d_si s1 3 1 (s1.1 20 1)) (fun s2 => d_g ((s2.1 20 2) = 0 ∨ (s2.1 20 2) = 1) (d_l (d_si s2 3 2 (s2.1 20 2)) (fun s4 => d_l (d_si s4 3 3 (s4.1 20 3)) (fun s5 => d_l (d_cp s5 21 0 4 0 72) (fun s6 => d_l (d_si s6 3 5 (s6.1 20 5)) (fun s7 => d_l (d_si s7 3 6 (s7.1 20 6)) (fun s8 => F_X9_become_3_20_l68 (fun s_u12 =>
  d_b (F_X10_become_6_23 s_u12) (fun s13 => d_b (F_X6_become_8_25 s13) (fun s14 => d_b (F_X8_become_10_27 s14) (fun s15 => d_b (F_X8_become_12_29 s15) (fun s16 => d_b (F_X8_become_14_31 s16) (fun s17 => d_b (F_X8_become_16_33 s17) (fun s18 => d_b (F_X8_become_18_35 s18) (fun s19 => some s19)))))))) d_N 0 s8))))))))
set_option maxRecDepth 100000 in
theorem D_X9_become_3_20 {t : Nat → Option p_C} {h : p_H} {s : d_S} {r : d_S} (hF : F_X9_become_3_20 s = some r) (hH : d_V t h s) : p_wp p_GT p_MT 1 m_X9_become 0 (lv_args 0 [.ref 3, .ref 20]) [] h (d_QV t r) := by
  unfold F_X9_become_3_20 at hF
  refine dw_aln rfl rfl (dw_aln rfl rfl (dw_gi (k := 0) rfl rfl rfl hH d_c20_0 (dw_pi (k := 0) rfl rfl rfl rfl hH d_c3_0 hH.r (by decide) hF (fun s1 h1 hH1 hF => dw_aln rfl rfl (dw_aln rfl rfl (dw_gi (k := 1) rfl rfl rfl hH1 d_c20_1 (dw_pi (k := 1) rfl rfl rfl rfl hH1 d_c3_1 hH1.r (by decide) hF (fun s2 h2 hH2 hF => dw_aln rfl rfl (dw_aln rfl rfl (?_))))))))))
  refine dw_gi (k := 2) rfl rfl rfl hH2 d_c20_2 (d_gd hF (fun g3 hF => dw_pb (k := 2) rfl rfl rfl rfl hH2 d_c3_2 g3 (by decide) hF (fun s4 h4 hH4 hF => dw_aln rfl rfl (dw_aln rfl rfl (dw_gi (k := 3) rfl rfl rfl hH4 d_c20_3 (dw_pi (k := 3) rfl rfl rfl rfl hH4 d_c3_3 hH4.r (by decide) hF (fun s5 h5 hH5 hF => dw_aln rfl rfl (dw_gr rfl rfl rfl hH5 d_c20_4 (dw_ic rfl (?_))))))))))
  refine dw_aln rfl rfl (dw_gr rfl rfl rfl hH5 d_c3_4 (dw_ic rfl (dw_aln rfl rfl (dw_gr rfl rfl rfl hH5 d_c3_4 (dw_len rfl hH5 d_a4 rfl (z := 72) rfl (dw_cpy rfl rfl hH5 d_a21 d_a4 (d_rl rfl) (d_rl rfl) (d_rl rfl) (by decide) rfl hF (fun s6 h6 hH6 hF => dw_aln rfl rfl (dw_aln rfl rfl (dw_gi (k := 5) rfl rfl rfl hH6 d_c20_5 (?_))))))))))
  refine dw_pi (k := 5) rfl rfl rfl rfl hH6 d_c3_5 hH6.r (by decide) hF (fun s7 h7 hH7 hF => dw_aln rfl rfl (dw_aln rfl rfl (dw_gi (k := 6) rfl rfl rfl hH7 d_c20_6 (dw_pi (k := 6) rfl rfl rfl rfl hH7 d_c3_6 hH7.r (by decide) hF (fun s8 h8 hH8 hF => dw_ic rfl (dw_isn rfl rfl (?_)))))))
  refine D_X9_become_3_20_l68 (fun {ls_u12} {s_u12} {h_u12} hF hH_u12 l0_u12 l1_u12 => ?_) _ hF hH8 (d_s1 rfl rfl (by decide)) (d_s1 rfl rfl (by decide)) (d_rl rfl) p_lk_s1
  · refine dw_aln rfl l0_u12 (dw_gr rfl rfl rfl hH_u12 d_c3_8 (dw_aln rfl l1_u12 (dw_gr rfl rfl rfl hH_u12 d_c20_8 (dw_vV hF rfl (d_vir (n := 2) rfl rfl rfl rfl rfl hH_u12 d_c6_0 rfl) rfl rfl rfl (dc := 0) (fun _ e => D_X10_become_6_23 e hH_u12) (fun s13 h13 hH13 hF => dw_aln rfl l0_u12 (dw_gr rfl rfl rfl hH13 d_c3_9 (dw_aln rfl l1_u12 (dw_gr rfl rfl rfl hH13 d_c20_9 (dw_vV hF rfl (d_vir (n := 2) rfl rfl rfl rfl rfl hH13 d_c8_0 rfl) rfl rfl rfl (dc := 0) (fun _ e => D_X6_become_8_25 e hH13) (fun s14 h14 hH14 hF => ?_))))))))))
    refine dw_aln rfl l0_u12 (dw_gr rfl rfl rfl hH14 d_c3_10 (dw_aln rfl l1_u12 (dw_gr rfl rfl rfl hH14 d_c20_10 (dw_vV hF rfl (d_vir (n := 2) rfl rfl rfl rfl rfl hH14 d_c10_0 rfl) rfl rfl rfl (dc := 0) (fun _ e => D_X8_become_10_27 e hH14) (fun s15 h15 hH15 hF => dw_aln rfl l0_u12 (dw_gr rfl rfl rfl hH15 d_c3_11 (dw_aln rfl l1_u12 (dw_gr rfl rfl rfl hH15 d_c20_11 (dw_vV hF rfl (d_vir (n := 2) rfl rfl rfl rfl rfl hH15 d_c12_0 rfl) rfl rfl rfl (dc := 0) (fun _ e => D_X8_become_12_29 e hH15) (fun s16 h16 hH16 hF => ?_))))))))))
    refine dw_aln rfl l0_u12 (dw_gr rfl rfl rfl hH16 d_c3_12 (dw_aln rfl l1_u12 (dw_gr rfl rfl rfl hH16 d_c20_12 (dw_vV hF rfl (d_vir (n := 2) rfl rfl rfl rfl rfl hH16 d_c14_0 rfl) rfl rfl rfl (dc := 0) (fun _ e => D_X8_become_14_31 e hH16) (fun s17 h17 hH17 hF => dw_aln rfl l0_u12 (dw_gr rfl rfl rfl hH17 d_c3_13 (dw_aln rfl l1_u12 (dw_gr rfl rfl rfl hH17 d_c20_13 (dw_vV hF rfl (d_vir (n := 2) rfl rfl rfl rfl rfl hH17 d_c16_0 rfl) rfl rfl rfl (dc := 0) (fun _ e => D_X8_become_16_33 e hH17) (fun s18 h18 hH18 hF => ?_))))))))))
    exact dw_aln rfl l0_u12 (dw_gr rfl rfl rfl hH18 d_c3_14 (dw_aln rfl l1_u12 (dw_gr rfl rfl rfl hH18 d_c20_14 (dw_vV hF rfl (d_vir (n := 2) rfl rfl rfl rfl rfl hH18 d_c18_0 rfl) rfl rfl rfl (dc := 0) (fun _ e => D_X8_become_18_35 e hH18) (fun s19 h19 hH19 hF => dw_rV rfl rfl hH19 hF)))))
set_option maxRecDepth 100000 in
noncomputable def F_X11_back (s : d_S) : Option (Int × d_S) :=
  d_b (F_X9_become_3_20 s) (fun s1 => d_b (F_X4_lay_3 s1) (fun s2 => some ((s2.1 6 3), s2)))
set_option maxRecDepth 100000 in
theorem D_X11_back {t : Nat → Option p_C} {h : p_H} {s : d_S} {r : Int × d_S} (hF : F_X11_back s = some r) (hH : d_V t h s) : p_wp p_GT p_MT 3 m_X11_back 0 (lv_args 0 [.ref 2]) [] h (d_QI t r) := by
  unfold F_X11_back at hF
  refine dw_aln rfl rfl (dw_gr rfl rfl rfl hH d_c2_0 (dw_aln rfl rfl (dw_gr rfl rfl rfl hH d_c2_1 (dw_vV hF rfl (d_vir (n := 2) rfl rfl rfl rfl rfl hH d_c3_0 rfl) rfl rfl rfl (dc := 1) (fun _ e => D_X9_become_3_20 e hH) (fun s1 h1 hH1 hF => dw_aln rfl rfl (dw_gr rfl rfl rfl hH1 d_c2_2 (dw_aln rfl rfl (dw_gr rfl rfl rfl hH1 d_c2_0 (dw_vV hF rfl (d_vir (n := 2) rfl rfl rfl rfl rfl hH1 d_c37_0 rfl) rfl rfl rfl (dc := 2) (fun _ e => D_X4_lay_3 e hH1) (fun s2 h2 hH2 hF => ?_))))))))))
  exact dw_aln rfl rfl (dw_gr rfl rfl rfl hH2 d_c2_0 (dw_gr rfl rfl rfl hH2 d_c3_8 (dw_gi (k := 3) rfl rfl rfl hH2 d_c6_3 (dw_rI rfl rfl hH2.r hH2 hF))))
set_option maxRecDepth 100000 in
noncomputable def F_X11_about (s : d_S) (x1 : Int) : Option (Int) :=
  
  if x1 = 0 then
  some (s.1 3 3)
  else
  if x1 = 1 then
  some (s.1 3 5)
  else
  if x1 = 2 then
  some (s.1 3 6)
  else
  if x1 = 3 then
  some (s.1 8 2)
  else
  if x1 = 4 then
  some (s.1 10 2)
  else
  if x1 = 5 then
  some (s.1 12 2)
  else
  if x1 = 6 then
  some (s.1 14 2)
  else
  if x1 = 7 then
  some (s.1 16 2)
  else
  if x1 = 8 then
  some (s.1 18 2)
  else
  if x1 = 9 then
  some (s.1 43 1)
  else
  some (-2)
set_option maxRecDepth 100000 in
theorem D_X11_about {t : Nat → Option p_C} {h : p_H} {s : d_S} {x1 : Int} {r : Int} (hF : F_X11_about s x1 = some r) (hH : d_V t h s) (r_x1 : d_R x1) : p_wp p_GT p_MT 0 m_X11_about 0 (lv_args 0 [.ref 2, .int (Int32.ofInt x1)]) [] h (d_QP h r) := by
  unfold F_X11_about at hF
  refine dw_iln rfl rfl (?_)
  refine d_if hF (fun q hF => ?_) (fun q0 hF => ?_)
  · refine dw_ts rfl r_x1 (u := 56) (by rw [q]; rfl) ?_
    exact dw_aln rfl rfl (dw_gr rfl rfl rfl hH d_c2_0 (dw_gi (k := 3) rfl rfl rfl hH d_c3_3 (dw_rP rfl rfl hH.r hF)))
  refine d_if hF (fun q hF => ?_) (fun q1 hF => ?_)
  · refine dw_ts rfl r_x1 (u := 64) (by rw [q]; rfl) ?_
    exact dw_aln rfl rfl (dw_gr rfl rfl rfl hH d_c2_0 (dw_gi (k := 5) rfl rfl rfl hH d_c3_5 (dw_rP rfl rfl hH.r hF)))
  refine d_if hF (fun q hF => ?_) (fun q2 hF => ?_)
  · refine dw_ts rfl r_x1 (u := 72) (by rw [q]; rfl) ?_
    exact dw_aln rfl rfl (dw_gr rfl rfl rfl hH d_c2_0 (dw_gi (k := 6) rfl rfl rfl hH d_c3_6 (dw_rP rfl rfl hH.r hF)))
  refine d_if hF (fun q hF => ?_) (fun q3 hF => ?_)
  · refine dw_ts rfl r_x1 (u := 80) (by rw [q]; rfl) ?_
    exact dw_aln rfl rfl (dw_gr rfl rfl rfl hH d_c2_0 (dw_gr rfl rfl rfl hH d_c3_9 (dw_gi (k := 2) rfl rfl rfl hH d_c8_2 (dw_rP rfl rfl hH.r hF))))
  refine d_if hF (fun q hF => ?_) (fun q4 hF => ?_)
  · refine dw_ts rfl r_x1 (u := 91) (by rw [q]; rfl) ?_
    exact dw_aln rfl rfl (dw_gr rfl rfl rfl hH d_c2_0 (dw_gr rfl rfl rfl hH d_c3_10 (dw_gi (k := 2) rfl rfl rfl hH d_c10_2 (dw_rP rfl rfl hH.r hF))))
  refine d_if hF (fun q hF => ?_) (fun q5 hF => ?_)
  · refine dw_ts rfl r_x1 (u := 102) (by rw [q]; rfl) ?_
    exact dw_aln rfl rfl (dw_gr rfl rfl rfl hH d_c2_0 (dw_gr rfl rfl rfl hH d_c3_11 (dw_gi (k := 2) rfl rfl rfl hH d_c12_2 (dw_rP rfl rfl hH.r hF))))
  refine d_if hF (fun q hF => ?_) (fun q6 hF => ?_)
  · refine dw_ts rfl r_x1 (u := 113) (by rw [q]; rfl) ?_
    exact dw_aln rfl rfl (dw_gr rfl rfl rfl hH d_c2_0 (dw_gr rfl rfl rfl hH d_c3_12 (dw_gi (k := 2) rfl rfl rfl hH d_c14_2 (dw_rP rfl rfl hH.r hF))))
  refine d_if hF (fun q hF => ?_) (fun q7 hF => ?_)
  · refine dw_ts rfl r_x1 (u := 124) (by rw [q]; rfl) ?_
    exact dw_aln rfl rfl (dw_gr rfl rfl rfl hH d_c2_0 (dw_gr rfl rfl rfl hH d_c3_13 (dw_gi (k := 2) rfl rfl rfl hH d_c16_2 (dw_rP rfl rfl hH.r hF))))
  refine d_if hF (fun q hF => ?_) (fun q8 hF => ?_)
  · refine dw_ts rfl r_x1 (u := 135) (by rw [q]; rfl) ?_
    exact dw_aln rfl rfl (dw_gr rfl rfl rfl hH d_c2_0 (dw_gr rfl rfl rfl hH d_c3_14 (dw_gi (k := 2) rfl rfl rfl hH d_c18_2 (dw_rP rfl rfl hH.r hF))))
  refine d_if hF (fun q hF => ?_) (fun q9 hF => ?_)
  · refine dw_ts rfl r_x1 (u := 146) (by rw [q]; rfl) ?_
    exact dw_aln rfl rfl (dw_gr rfl rfl rfl hH d_c2_3 (dw_gi (k := 1) rfl rfl rfl hH d_c43_1 (dw_rP rfl rfl hH.r hF)))
  refine dw_ts rfl r_x1 (u := 154) (by rw [if_pos (by omega)]; rfl) ?_
  exact dw_bp rfl rfl (dw_rP rfl rfl (d_rl rfl) hF)
set_option maxRecDepth 100000 in
noncomputable def F_X11_summer_j147 (t : Nat → Option p_C) (k55 : Int → Int → d_S → Option (Int × d_S)) (x2 : Int) (x4 : Int) (x5 : Int) (s : d_S) : Option (Int × d_S) :=
  if 1 < (d_rem x5 4) then
  if (s.1 6 3) < 999 then
  d_b (F_X11_passDay t s) (fun s10 => k55 x2 (d_w (x4 + 1)) s10)
  else
  k55 x2 (d_w (x4 + 1)) s
  else
  k55 x2 (d_w (x4 + 1)) s
set_option maxRecDepth 100000 in
theorem D_X11_summer_j147 {t : Nat → Option p_C} {h : p_H} {s : d_S} {k55 : Int → Int → d_S → Option (Int × d_S)} {x2 : Int} {x4 : Int} {x5 : Int} {r : Int × d_S} {ls : p_Ls} (hF : F_X11_summer_j147 t k55 x2 x4 x5 s = some r) (hH : d_V t h s) (l0 : p_lk 0 ls = some (.ref 2)) (r_x2 : d_R x2) (l2 : p_lk 2 ls = some (.int (Int32.ofInt x2))) (l3 : p_lk 3 ls = some (.ref 6)) (r_x4 : d_R x4) (l4 : p_lk 4 ls = some (.int (Int32.ofInt x4))) (r_x5 : d_R x5) (l5 : p_lk 5 ls = some (.int (Int32.ofInt x5))) (hk55 : ∀ {x2 : Int} {x4 : Int} {ls : p_Ls} {s : d_S} {h : p_H}, k55 x2 x4 s = some r → d_V t h s → p_lk 0 ls = some (.ref 2) → d_R x2 → p_lk 2 ls = some (.int (Int32.ofInt x2)) → p_lk 3 ls = some (.ref 6) → d_R x4 → p_lk 4 ls = some (.int (Int32.ofInt x4)) → p_wp p_GT p_MT 6 m_X11_summer 55 ls [] h (d_QI t r)) : p_wp p_GT p_MT 6 m_X11_summer 147 ls [] h (d_QI t r) := by
  unfold F_X11_summer_j147 at hF
  refine dw_il rfl l5 (dw_ic rfl (dw_rem rfl (d_rl rfl) (by decide) (dw_ic rfl (?_))))
  refine d_if hF (fun q hF => ?_) (fun q hF => ?_)
  · refine dw_le_y rfl (u := 169) rfl d_R_t (d_rl rfl) q ?_
    refine dw_aln rfl l3 (dw_gi (k := 3) rfl rfl rfl hH d_c6_3 (dw_sp rfl rfl (?_)))
    refine d_if hF (fun q hF => ?_) (fun q hF => ?_)
    · refine dw_ge_y rfl (u := 169) rfl hH.r (d_rl rfl) q ?_
      refine dw_aln rfl l0 (dw_vV hF rfl (d_vir (n := 1) rfl rfl rfl rfl rfl hH d_c2_0 rfl) rfl rfl rfl (dc := 5) (fun _ e => D_X11_passDay e hH) (fun s10 h10 hH10 hF => dw_ii rfl l4 rfl (dw_go rfl (u := 55) rfl (?_))))
      exact hk55 hF hH10 (d_s1 l0 rfl (by decide)) r_x2 (d_s1 l2 rfl (by decide)) (d_s1 l3 rfl (by decide)) d_R_w p_lk_s1
    · refine dw_ge_n rfl (u := 169) rfl hH.r (d_rl rfl) q ?_
      refine dw_ii rfl l4 rfl (dw_go rfl (u := 55) rfl (?_))
      exact hk55 hF hH (d_s1 l0 rfl (by decide)) r_x2 (d_s1 l2 rfl (by decide)) (d_s1 l3 rfl (by decide)) d_R_w p_lk_s1
  · refine dw_le_n rfl (u := 169) rfl d_R_t (d_rl rfl) q ?_
    refine dw_ii rfl l4 rfl (dw_go rfl (u := 55) rfl (?_))
    exact hk55 hF hH (d_s1 l0 rfl (by decide)) r_x2 (d_s1 l2 rfl (by decide)) (d_s1 l3 rfl (by decide)) d_R_w p_lk_s1
set_option maxRecDepth 100000 in
noncomputable def F_X11_summer_j120 (t : Nat → Option p_C) (k55 : Int → Int → d_S → Option (Int × d_S)) (x2 : Int) (x4 : Int) (x5 : Int) (x6 : Int) (s : d_S) : Option (Int × d_S) :=
  if (d_rem x5 4) = 1 then
  d_b (F_X11_canSell s x6) (fun v9 => if v9 = 0 then
  F_X11_summer_j147 t k55 x2 x4 x5 s
  else
  d_b2 (F_X11_sellOff t s x6) (fun v11 s12 => k55 x2 (d_w (x4 + 1)) s12))
  else
  F_X11_summer_j147 t k55 x2 x4 x5 s
set_option maxRecDepth 100000 in
theorem D_X11_summer_j120 {t : Nat → Option p_C} {h : p_H} {s : d_S} {k55 : Int → Int → d_S → Option (Int × d_S)} {x2 : Int} {x4 : Int} {x5 : Int} {x6 : Int} {r : Int × d_S} {ls : p_Ls} (hF : F_X11_summer_j120 t k55 x2 x4 x5 x6 s = some r) (hH : d_V t h s) (l0 : p_lk 0 ls = some (.ref 2)) (r_x2 : d_R x2) (l2 : p_lk 2 ls = some (.int (Int32.ofInt x2))) (l3 : p_lk 3 ls = some (.ref 6)) (r_x4 : d_R x4) (l4 : p_lk 4 ls = some (.int (Int32.ofInt x4))) (r_x5 : d_R x5) (l5 : p_lk 5 ls = some (.int (Int32.ofInt x5))) (r_x6 : d_R x6) (l6 : p_lk 6 ls = some (.int (Int32.ofInt x6))) (hk55 : ∀ {x2 : Int} {x4 : Int} {ls : p_Ls} {s : d_S} {h : p_H}, k55 x2 x4 s = some r → d_V t h s → p_lk 0 ls = some (.ref 2) → d_R x2 → p_lk 2 ls = some (.int (Int32.ofInt x2)) → p_lk 3 ls = some (.ref 6) → d_R x4 → p_lk 4 ls = some (.int (Int32.ofInt x4)) → p_wp p_GT p_MT 6 m_X11_summer 55 ls [] h (d_QI t r)) : p_wp p_GT p_MT 6 m_X11_summer 120 ls [] h (d_QI t r) := by
  unfold F_X11_summer_j120 at hF
  refine dw_il rfl l5 (dw_ic rfl (dw_rem rfl (d_rl rfl) (by decide) (dw_ic rfl (?_))))
  refine d_if hF (fun q hF => ?_) (fun q hF => ?_)
  · refine dw_ne_y rfl (u := 147) rfl d_R_t (d_rl rfl) q ?_
    refine dw_aln rfl l0 (dw_il rfl l6 (dw_vB hF rfl (d_vir (n := 2) rfl rfl rfl rfl rfl hH d_c2_0 rfl) rfl rfl rfl (dc := 2) (fun _ e => D_X11_canSell e hH r_x6) (fun v9 r_v9 hF => ?_)))
    refine d_if hF (fun q hF => ?_) (fun q hF => ?_)
    · refine dw_zeq_y rfl (u := 147) rfl (d_R_b r_v9) q ?_
      exact D_X11_summer_j147 hF hH l0 r_x2 l2 l3 r_x4 l4 r_x5 l5 hk55
    · refine dw_zeq_n rfl (u := 147) rfl (d_R_b r_v9) q ?_
      refine dw_aln rfl l0 (dw_il rfl l6 (dw_vI hF rfl (d_vir (n := 2) rfl rfl rfl rfl rfl hH d_c2_0 rfl) rfl rfl rfl (dc := 4) (fun _ _ e => D_X11_sellOff e hH r_x6) (fun v11 s12 h12 hH12 r_v11 hF => dw_pop rfl (dw_go rfl (u := 169) rfl (dw_ii rfl l4 rfl (dw_go rfl (u := 55) rfl (?_)))))))
      exact hk55 hF hH12 (d_s1 l0 rfl (by decide)) r_x2 (d_s1 l2 rfl (by decide)) (d_s1 l3 rfl (by decide)) d_R_w p_lk_s1
  · refine dw_ne_n rfl (u := 147) rfl d_R_t (d_rl rfl) q ?_
    exact D_X11_summer_j147 hF hH l0 r_x2 l2 l3 r_x4 l4 r_x5 l5 hk55
set_option maxRecDepth 100000 in
noncomputable def F_X11_summer_l55_b (t : Nat → Option p_C) (rec : Int → Int → d_S → Option (Int × d_S)) (x2 : Int) (x4 : Int) (s : d_S) : Option (Int × d_S) :=
  if x4 < x2 then
  d_b2 (F_X10_draw_6 s) (fun v5 s6 => if 0 < (s6.1 37 5) then
  d_g (¬ (s6.1 37 5) = 0) (if (d_rem v5 4) = 0 then
  d_b (F_X11_canLay s6 1 (d_rem v5 (s6.1 37 5))) (fun v8 => if v8 = 0 then
  F_X11_summer_j120 t rec x2 x4 v5 (d_rem v5 (s6.1 37 5)) s6
  else
  d_b (F_X11_layStraw s6 1 (d_rem v5 (s6.1 37 5))) (fun s13 => rec x2 (d_w (x4 + 1)) s13))
  else
  F_X11_summer_j120 t rec x2 x4 v5 (d_rem v5 (s6.1 37 5)) s6)
  else
  if (d_rem v5 4) = 0 then
  d_b (F_X11_canLay s6 1 0) (fun v14 => if v14 = 0 then
  F_X11_summer_j120 t rec x2 x4 v5 0 s6
  else
  d_b (F_X11_layStraw s6 1 0) (fun s15 => rec x2 (d_w (x4 + 1)) s15))
  else
  F_X11_summer_j120 t rec x2 x4 v5 0 s6)
  else
  some ((s.1 6 5), s)
set_option maxRecDepth 100000 in
noncomputable def F_X11_summer_l55 (t : Nat → Option p_C) : Nat → Int → Int → d_S → Option (Int × d_S)
  | 0 => fun _ _ _ => none
  | n + 1 => F_X11_summer_l55_b t (F_X11_summer_l55 t n)
set_option maxRecDepth 100000 in
theorem D_X11_summer_l55 {t : Nat → Option p_C} {r : Int × d_S} : ∀ (n : Nat) {x2 : Int} {x4 : Int} {ls : p_Ls} {s : d_S} {h : p_H}, F_X11_summer_l55 t n x2 x4 s = some r → d_V t h s → p_lk 0 ls = some (.ref 2) → d_R x2 → p_lk 2 ls = some (.int (Int32.ofInt x2)) → p_lk 3 ls = some (.ref 6) → d_R x4 → p_lk 4 ls = some (.int (Int32.ofInt x4)) → p_wp p_GT p_MT 6 m_X11_summer 55 ls [] h (d_QI t r) := by
  intro n
  induction n with
  | zero =>
    intro x2 x4 ls s h hF hH l0 r_x2 l2 l3 r_x4 l4
    cases (show (none : Option (Int × d_S)) = some r from hF)
  | succ n ih =>
    intro x2 x4 ls s h hF hH l0 r_x2 l2 l3 r_x4 l4
    have hF : F_X11_summer_l55_b t (F_X11_summer_l55 t n) x2 x4 s = some r := hF
    unfold F_X11_summer_l55_b at hF
    refine dw_il rfl l4 (dw_iln rfl l2 (?_))
    refine d_if hF (fun q hF => ?_) (fun q hF => ?_)
    · refine dw_ge_y rfl (u := 175) rfl r_x4 r_x2 q ?_
      refine dw_aln rfl l3 (dw_vI hF rfl (d_vir (n := 1) rfl rfl rfl rfl rfl hH d_c6_0 rfl) rfl rfl rfl (dc := 1) (fun _ _ e => D_X10_draw_6 e hH) (fun v5 s6 h6 hH6 r_v5 hF => dw_is rfl rfl (dw_aln rfl (d_s1 l0 rfl (by decide)) (dw_gr rfl rfl rfl hH6 d_c2_2 (dw_gi (k := 5) rfl rfl rfl hH6 d_c37_5 (?_))))))
      refine d_if hF (fun q hF => ?_) (fun q hF => ?_)
      · refine dw_zle_y rfl (u := 90) rfl hH6.r q ?_
        refine dw_il rfl p_lk_s1 (dw_aln rfl (d_s1 l0 rfl (by decide)) (dw_gr rfl rfl rfl hH6 d_c2_2 (dw_gi (k := 5) rfl rfl rfl hH6 d_c37_5 (d_gd hF (fun g7 hF => dw_rem rfl hH6.r g7 (dw_go rfl (u := 91) rfl (dw_is rfl rfl (dw_il rfl (d_s1 p_lk_s1 rfl (by decide)) (dw_ic rfl (?_))))))))))
        refine dw_rem rfl (d_rl rfl) (by decide) (?_)
        refine d_if hF (fun q hF => ?_) (fun q hF => ?_)
        · refine dw_zne_y rfl (u := 120) rfl d_R_t q ?_
          refine dw_aln rfl (d_s1 (d_s1 l0 rfl (by decide)) rfl (by decide)) (dw_ic rfl (dw_il rfl p_lk_s1 (dw_vB hF rfl (d_vir (n := 3) rfl rfl rfl rfl rfl hH6 d_c2_0 rfl) rfl rfl rfl (dc := 2) (fun _ e => D_X11_canLay e hH6 (d_rl rfl) d_R_t) (fun v8 r_v8 hF => ?_))))
          refine d_if hF (fun q hF => ?_) (fun q hF => ?_)
          · refine dw_zeq_y rfl (u := 120) rfl (d_R_b r_v8) q ?_
            exact D_X11_summer_j120 hF hH6 (d_s1 (d_s1 l0 rfl (by decide)) rfl (by decide)) r_x2 (d_s1 (d_s1 l2 rfl (by decide)) rfl (by decide)) (d_s1 (d_s1 l3 rfl (by decide)) rfl (by decide)) r_x4 (d_s1 (d_s1 l4 rfl (by decide)) rfl (by decide)) r_v5 (d_s1 p_lk_s1 rfl (by decide)) d_R_t p_lk_s1 (fun {x2} {x4} {ls} {s} {h} hF hH l0 r_x2 l2 l3 r_x4 l4 => ih hF hH l0 r_x2 l2 l3 r_x4 l4)
          · refine dw_zeq_n rfl (u := 120) rfl (d_R_b r_v8) q ?_
            refine dw_aln rfl (d_s1 (d_s1 l0 rfl (by decide)) rfl (by decide)) (dw_ic rfl (dw_il rfl p_lk_s1 (dw_vV hF rfl (d_vir (n := 3) rfl rfl rfl rfl rfl hH6 d_c2_0 rfl) rfl rfl rfl (dc := 2) (fun _ e => D_X11_layStraw e hH6 (d_rl rfl) d_R_t) (fun s13 h13 hH13 hF => dw_go rfl (u := 169) rfl (dw_ii rfl (d_s1 (d_s1 l4 rfl (by decide)) rfl (by decide)) rfl (dw_go rfl (u := 55) rfl (?_)))))))
            exact ih hF hH13 (d_s1 (d_s1 (d_s1 l0 rfl (by decide)) rfl (by decide)) rfl (by decide)) r_x2 (d_s1 (d_s1 (d_s1 l2 rfl (by decide)) rfl (by decide)) rfl (by decide)) (d_s1 (d_s1 (d_s1 l3 rfl (by decide)) rfl (by decide)) rfl (by decide)) d_R_w p_lk_s1
        · refine dw_zne_n rfl (u := 120) rfl d_R_t q ?_
          exact D_X11_summer_j120 hF hH6 (d_s1 (d_s1 l0 rfl (by decide)) rfl (by decide)) r_x2 (d_s1 (d_s1 l2 rfl (by decide)) rfl (by decide)) (d_s1 (d_s1 l3 rfl (by decide)) rfl (by decide)) r_x4 (d_s1 (d_s1 l4 rfl (by decide)) rfl (by decide)) r_v5 (d_s1 p_lk_s1 rfl (by decide)) d_R_t p_lk_s1 (fun {x2} {x4} {ls} {s} {h} hF hH l0 r_x2 l2 l3 r_x4 l4 => ih hF hH l0 r_x2 l2 l3 r_x4 l4)
      · refine dw_zle_n rfl (u := 90) rfl hH6.r q ?_
        refine dw_ic rfl (dw_is rfl rfl (dw_il rfl (d_s1 p_lk_s1 rfl (by decide)) (dw_ic rfl (dw_rem rfl (d_rl rfl) (by decide) (?_)))))
        refine d_if hF (fun q hF => ?_) (fun q hF => ?_)
        · refine dw_zne_y rfl (u := 120) rfl d_R_t q ?_
          refine dw_aln rfl (d_s1 (d_s1 l0 rfl (by decide)) rfl (by decide)) (dw_ic rfl (dw_il rfl p_lk_s1 (dw_vB hF rfl (d_vir (n := 3) rfl rfl rfl rfl rfl hH6 d_c2_0 rfl) rfl rfl rfl (dc := 2) (fun _ e => D_X11_canLay e hH6 (d_rl rfl) (d_rl rfl)) (fun v14 r_v14 hF => ?_))))
          refine d_if hF (fun q hF => ?_) (fun q hF => ?_)
          · refine dw_zeq_y rfl (u := 120) rfl (d_R_b r_v14) q ?_
            exact D_X11_summer_j120 hF hH6 (d_s1 (d_s1 l0 rfl (by decide)) rfl (by decide)) r_x2 (d_s1 (d_s1 l2 rfl (by decide)) rfl (by decide)) (d_s1 (d_s1 l3 rfl (by decide)) rfl (by decide)) r_x4 (d_s1 (d_s1 l4 rfl (by decide)) rfl (by decide)) r_v5 (d_s1 p_lk_s1 rfl (by decide)) (d_rl rfl) p_lk_s1 (fun {x2} {x4} {ls} {s} {h} hF hH l0 r_x2 l2 l3 r_x4 l4 => ih hF hH l0 r_x2 l2 l3 r_x4 l4)
          · refine dw_zeq_n rfl (u := 120) rfl (d_R_b r_v14) q ?_
            refine dw_aln rfl (d_s1 (d_s1 l0 rfl (by decide)) rfl (by decide)) (dw_ic rfl (dw_il rfl p_lk_s1 (dw_vV hF rfl (d_vir (n := 3) rfl rfl rfl rfl rfl hH6 d_c2_0 rfl) rfl rfl rfl (dc := 2) (fun _ e => D_X11_layStraw e hH6 (d_rl rfl) (d_rl rfl)) (fun s15 h15 hH15 hF => dw_go rfl (u := 169) rfl (dw_ii rfl (d_s1 (d_s1 l4 rfl (by decide)) rfl (by decide)) rfl (dw_go rfl (u := 55) rfl (?_)))))))
            exact ih hF hH15 (d_s1 (d_s1 (d_s1 l0 rfl (by decide)) rfl (by decide)) rfl (by decide)) r_x2 (d_s1 (d_s1 (d_s1 l2 rfl (by decide)) rfl (by decide)) rfl (by decide)) (d_s1 (d_s1 (d_s1 l3 rfl (by decide)) rfl (by decide)) rfl (by decide)) d_R_w p_lk_s1
        · refine dw_zne_n rfl (u := 120) rfl d_R_t q ?_
          exact D_X11_summer_j120 hF hH6 (d_s1 (d_s1 l0 rfl (by decide)) rfl (by decide)) r_x2 (d_s1 (d_s1 l2 rfl (by decide)) rfl (by decide)) (d_s1 (d_s1 l3 rfl (by decide)) rfl (by decide)) r_x4 (d_s1 (d_s1 l4 rfl (by decide)) rfl (by decide)) r_v5 (d_s1 p_lk_s1 rfl (by decide)) (d_rl rfl) p_lk_s1 (fun {x2} {x4} {ls} {s} {h} hF hH l0 r_x2 l2 l3 r_x4 l4 => ih hF hH l0 r_x2 l2 l3 r_x4 l4)
    · refine dw_ge_n rfl (u := 175) rfl r_x4 r_x2 q ?_
      exact dw_aln rfl l3 (dw_gi (k := 5) rfl rfl rfl hH d_c6_5 (dw_rI rfl rfl hH.r hH hF))
set_option maxRecDepth 100000 in
noncomputable def F_X11_summer (t : Nat → Option p_C) (s : d_S) (x1 : Int) (x2 : Int) : Option (Int × d_S) :=
  d_b (F_X11_within x1 0 9999) (fun v1 => if v1 = 0 then
  some ((-1), s)
  else
  d_b (F_X11_within x2 1 40) (fun v2 => if v2 = 0 then
  some ((-1), s)
  else
  d_b (F_X6_keep_8_6 s) (fun s3 => d_l (d_si s3 6 6 (d_w ((x1 * 3) + 73))) (fun s4 => F_X11_summer_l55 t d_N x2 0 s4))))
set_option maxRecDepth 100000 in
theorem D_X11_summer {t : Nat → Option p_C} {h : p_H} {s : d_S} {x1 : Int} {x2 : Int} {r : Int × d_S} (hF : F_X11_summer t s x1 x2 = some r) (hH : d_V t h s) (r_x1 : d_R x1) (r_x2 : d_R x2) : p_wp p_GT p_MT 6 m_X11_summer 0 (lv_args 0 [.ref 2, .int (Int32.ofInt x1), .int (Int32.ofInt x2)]) [] h (d_QI t r) := by
  unfold F_X11_summer at hF
  refine dw_iln rfl rfl (dw_ic rfl (dw_sp rfl rfl (dw_sB hF rfl rfl rfl rfl rfl (dc := 0) (fun _ e => D_X11_within e r_x1 (d_rl rfl) (d_rl rfl)) (fun v1 r_v1 hF => ?_))))
  refine d_if hF (fun q hF => ?_) (fun q hF => ?_)
  · refine dw_zeq_y rfl (u := 21) rfl (d_R_b r_v1) q ?_
    exact dw_ic rfl (dw_rI rfl rfl (d_rl rfl) hH hF)
  · refine dw_zeq_n rfl (u := 21) rfl (d_R_b r_v1) q ?_
    refine dw_iln rfl rfl (dw_ic rfl (dw_bp rfl rfl (dw_sB hF rfl rfl rfl rfl rfl (dc := 0) (fun _ e => D_X11_within e r_x2 (d_rl rfl) (d_rl rfl)) (fun v2 r_v2 hF => ?_))))
    refine d_if hF (fun q hF => ?_) (fun q hF => ?_)
    · refine dw_zne_y rfl (u := 23) rfl (d_R_b r_v2) q ?_
      exact dw_ic rfl (dw_rI rfl rfl (d_rl rfl) hH hF)
    · refine dw_zne_n rfl (u := 23) rfl (d_R_b r_v2) q ?_
      refine dw_aln rfl rfl (dw_gr rfl rfl rfl hH d_c2_0 (dw_gr rfl rfl rfl hH d_c3_8 (dw_asn rfl rfl (dw_aln rfl (d_s1 rfl rfl (by decide)) (dw_gr rfl rfl rfl hH d_c2_0 (dw_gr rfl rfl rfl hH d_c3_9 (dw_aln rfl p_lk_s1 (dw_vV hF rfl (d_vir (n := 2) rfl rfl rfl rfl rfl hH d_c8_0 rfl) rfl rfl rfl (dc := 1) (fun _ e => D_X6_keep_8_6 e hH) (fun s3 h3 hH3 hF => dw_aln rfl p_lk_s1 (?_))))))))))
      refine dw_iln rfl (d_s1 rfl rfl (by decide)) (dw_ic rfl (dw_mul rfl (dw_bp rfl rfl (dw_add rfl (dw_w1 (dw_pi (k := 6) rfl rfl rfl rfl hH3 d_c6_6 d_R_w (by decide) hF (fun s4 h4 hH4 hF => dw_ic rfl (dw_is rfl rfl (?_)))))))))
      exact D_X11_summer_l55 _ hF hH4 (d_s1 (d_s1 rfl rfl (by decide)) rfl (by decide)) r_x2 (d_s1 (d_s1 rfl rfl (by decide)) rfl (by decide)) (d_s1 p_lk_s1 rfl (by decide)) (d_rl rfl) p_lk_s1
set_option maxRecDepth 100000 in
noncomputable def F_X7_part (t : Nat → Option p_C) (s : d_S) (x0 : Nat) (x1 : Int) (x2 : Int) : Option (Int) :=
  if (d_w ((x1 * 7) + x2)) < 0 then
  some (-1)
  else
  d_b (d_tfq t x0 4) (fun v1 => d_b v1 (fun b2 => d_b (d_tn t b2) (fun v3 => if (d_w ((x1 * 7) + x2)) < v3 then
  d_b (d_tfq t x0 4) (fun v4 => d_b v4 (fun b5 => d_b (d_tl t b5 (d_w ((x1 * 7) + x2))) (fun v6 => some v6)))
  else
  some (-1))))
set_option maxRecDepth 100000 in
theorem D_X7_part {t : Nat → Option p_C} {h : p_H} {s : d_S} {x0 : Nat} {x1 : Int} {x2 : Int} {r : Int} (hF : F_X7_part t s x0 x1 x2 = some r) (hH : d_V t h s) (r_x0 : d_Tx t x0) (r_x1 : d_R x1) (r_x2 : d_R x2) : p_wp p_GT p_MT 0 m_X7_part 0 (lv_args 0 [.ref x0, .int (Int32.ofInt x1), .int (Int32.ofInt x2)]) [] h (d_QP h r) := by
  unfold F_X7_part at hF
  refine dw_iln rfl rfl (dw_bp rfl rfl (dw_mul rfl (dw_iln rfl rfl (dw_add rfl (dw_w1 (dw_isn rfl rfl (dw_iln rfl p_lk_s1 (?_))))))))
  refine d_if hF (fun q hF => ?_) (fun q hF => ?_)
  · refine dw_zlt_y rfl (u := 29) rfl d_R_w q ?_
    exact dw_ic rfl (dw_rP rfl rfl (d_rl rfl) hF)
  · refine dw_zlt_n rfl (u := 29) rfl d_R_w q ?_
    refine dw_iln rfl p_lk_s1 (dw_aln rfl (d_s1 rfl rfl (by decide)) (dw_tgq hF rfl rfl rfl hH (fun v1 r_v1 hF => dw_oq1 hF r_v1 (fun b2 r_b2 hF => dw_tln hF rfl hH (fun v3 r_v3 hF => ?_)))))
    refine d_if hF (fun q hF => ?_) (fun q hF => ?_)
    · refine dw_ge_y rfl (u := 29) rfl d_R_w r_v3 q ?_
      exact dw_aln rfl (d_s1 rfl rfl (by decide)) (dw_tgq hF rfl rfl rfl hH (fun v4 r_v4 hF => dw_iln rfl p_lk_s1 (dw_oq2 hF r_v4 (fun b5 r_b5 hF => dw_tld hF rfl hH d_R_w (fun v6 r_v6 hF => dw_go rfl (u := 30) rfl (dw_rP rfl rfl r_v6 hF))))))
    · refine dw_ge_n rfl (u := 29) rfl d_R_w r_v3 q ?_
      exact dw_ic rfl (dw_rP rfl rfl (d_rl rfl) hF)
set_option maxRecDepth 100000 in
noncomputable def F_X11_perform (t : Nat → Option p_C) (s : d_S) (x1 : Option Nat) (x2 : Int) : Option (Int × d_S) :=
  d_b x1 (fun b1 => d_b (F_X7_part t s b1 x2 1) (fun v2 => d_b x1 (fun b3 => d_b (F_X7_part t s b3 x2 2) (fun v4 => d_b x1 (fun b5 => d_b (F_X7_part t s b5 x2 0) (fun v6 => 
  if v6 = 3 then
  d_b2 (F_X11_pond s v2 v4) (fun v7 s8 => some (v7, s8))
  else
  if v6 = 4 then
  d_b x1 (fun b9 => d_b (F_X7_part t s b9 x2 3) (fun v10 => d_b x1 (fun b11 => d_b (F_X7_part t s b11 x2 4) (fun v12 => d_b x1 (fun b13 => d_b (F_X7_part t s b13 x2 5) (fun v14 => d_b x1 (fun b15 => d_b (F_X7_part t s b15 x2 6) (fun v16 => d_b2 (F_X11_sight s v2 v4 v10 v12 v14 v16) (fun v17 s18 => if v17 = (-1) then
  some (0, s18)
  else
  some (1, s18))))))))))
  else
  if v6 = 5 then
  d_b2 (F_X11_sawThrough s v2 1) (fun v19 s20 => some (v19, s20))
  else
  if v6 = 6 then
  d_b2 (F_X11_sawThrough s v2 0) (fun v21 s22 => some (v21, s22))
  else
  if v6 = 7 then
  d_b2 (F_X11_sellByHand t s v2) (fun v23 s24 => if v23 = (-1) then
  some (0, s24)
  else
  some (1, s24))
  else
  if v6 = 8 then
  d_b2 (F_X11_layByHand s v2 v4) (fun v25 s26 => some (v25, s26))
  else
  if v6 = 9 then
  d_b2 (F_X11_passDays t s v2) (fun v27 s28 => some (v27, s28))
  else
  some (1, s)))))))
set_option maxRecDepth 100000 in
theorem D_X11_perform {t : Nat → Option p_C} {h : p_H} {s : d_S} {x1 : Option Nat} {x2 : Int} {r : Int × d_S} (hF : F_X11_perform t s x1 x2 = some r) (hH : d_V t h s) (r_x1 : d_T t x1) (r_x2 : d_R x2) : p_wp p_GT p_MT 7 m_X11_perform 0 (lv_args 0 [.ref 2, d_pv x1, .int (Int32.ofInt x2)]) [] h (d_QC t r) := by
  have a0 : p_lk 0 (lv_args 0 [.ref 2, d_pv x1, .int (Int32.ofInt x2)]) = some (.ref 2) := by cases x1 <;> rfl
  have a1 : p_lk 1 (lv_args 0 [.ref 2, d_pv x1, .int (Int32.ofInt x2)]) = some (d_pv x1) := by cases x1 <;> rfl
  have a2 : p_lk 2 (lv_args 0 [.ref 2, d_pv x1, .int (Int32.ofInt x2)]) = some (.int (Int32.ofInt x2)) := by cases x1 <;> rfl
  unfold F_X11_perform at hF
  refine dw_alno rfl a1 (dw_iln rfl a2 (dw_ic rfl (dw_ot3 hF r_x1 (fun b1 r_b1 hF => dw_vP hF rfl (d_virt (n := 3) rfl rfl rfl rfl rfl hH r_b1 rfl) rfl rfl rfl (dc := 0) (fun _ e => D_X7_part e hH r_b1 r_x2 (d_rl rfl)) (fun v2 r_v2 hF => dw_isn rfl rfl (dw_alno rfl (d_s1o a1 (by decide)) (dw_iln rfl (d_s1 a2 rfl (by decide)) (dw_ic rfl (dw_ot3 hF r_x1 (fun b3 r_b3 hF => ?_))))))))))
  refine dw_vP hF rfl (d_virt (n := 3) rfl rfl rfl rfl rfl hH r_b3 rfl) rfl rfl rfl (dc := 0) (fun _ e => D_X7_part e hH r_b3 r_x2 (d_rl rfl)) (fun v4 r_v4 hF => dw_is rfl rfl (dw_alno rfl (d_s1o (d_s1o a1 (by decide)) (by decide)) (dw_iln rfl (d_s1 (d_s1 a2 rfl (by decide)) rfl (by decide)) (dw_ic rfl (dw_ot3 hF r_x1 (fun b5 r_b5 hF => dw_vP hF rfl (d_virt (n := 3) rfl rfl rfl rfl rfl hH r_b5 rfl) rfl rfl rfl (dc := 0) (fun _ e => D_X7_part e hH r_b5 r_x2 (d_rl rfl)) (fun v6 r_v6 hF => ?_)))))))
  refine d_if hF (fun q hF => ?_) (fun q0 hF => ?_)
  · refine dw_ts rfl r_v6 (u := 64) (by rw [q]; rfl) ?_
    exact dw_aln rfl (d_s1 (d_s1 a0 rfl (by decide)) rfl (by decide)) (dw_iln rfl (d_s1 p_lk_s1 rfl (by decide)) (dw_il rfl p_lk_s1 (dw_vC hF rfl (d_vir (n := 3) rfl rfl rfl rfl rfl hH d_c2_0 rfl) rfl rfl rfl (dc := 3) (fun _ _ e => D_X11_pond e hH r_v2 r_v4) (fun v7 s8 h8 hH8 r_v7 hF => dw_rC rfl rfl r_v7 hH8 hF))))
  refine d_if hF (fun q hF => ?_) (fun q1 hF => ?_)
  · refine dw_ts rfl r_v6 (u := 72) (by rw [q]; rfl) ?_
    refine dw_aln rfl (d_s1 (d_s1 a0 rfl (by decide)) rfl (by decide)) (dw_iln rfl (d_s1 p_lk_s1 rfl (by decide)) (dw_il rfl p_lk_s1 (dw_alno rfl (d_s1o (d_s1o a1 (by decide)) (by decide)) (dw_iln rfl (d_s1 (d_s1 a2 rfl (by decide)) rfl (by decide)) (dw_ic rfl (dw_ot3 hF r_x1 (fun b9 r_b9 hF => dw_vP hF rfl (d_virt (n := 3) rfl rfl rfl rfl rfl hH r_b9 rfl) rfl rfl rfl (dc := 0) (fun _ e => D_X7_part e hH r_b9 r_x2 (d_rl rfl)) (fun v10 r_v10 hF => dw_alno rfl (d_s1o (d_s1o a1 (by decide)) (by decide)) (dw_iln rfl (d_s1 (d_s1 a2 rfl (by decide)) rfl (by decide)) (?_))))))))))
    refine dw_ic rfl (dw_ot3 hF r_x1 (fun b11 r_b11 hF => dw_vP hF rfl (d_virt (n := 3) rfl rfl rfl rfl rfl hH r_b11 rfl) rfl rfl rfl (dc := 0) (fun _ e => D_X7_part e hH r_b11 r_x2 (d_rl rfl)) (fun v12 r_v12 hF => dw_alno rfl (d_s1o (d_s1o a1 (by decide)) (by decide)) (dw_iln rfl (d_s1 (d_s1 a2 rfl (by decide)) rfl (by decide)) (dw_ic rfl (dw_ot3 hF r_x1 (fun b13 r_b13 hF => dw_vP hF rfl (d_virt (n := 3) rfl rfl rfl rfl rfl hH r_b13 rfl) rfl rfl rfl (dc := 0) (fun _ e => D_X7_part e hH r_b13 r_x2 (d_rl rfl)) (fun v14 r_v14 hF => dw_alno rfl (d_s1o (d_s1o a1 (by decide)) (by decide)) (dw_iln rfl (d_s1 (d_s1 a2 rfl (by decide)) rfl (by decide)) (?_))))))))))
    refine dw_bp rfl rfl (dw_ot3 hF r_x1 (fun b15 r_b15 hF => dw_vP hF rfl (d_virt (n := 3) rfl rfl rfl rfl rfl hH r_b15 rfl) rfl rfl rfl (dc := 0) (fun _ e => D_X7_part e hH r_b15 r_x2 (d_rl rfl)) (fun v16 r_v16 hF => dw_vI hF rfl (d_vir (n := 7) rfl rfl rfl rfl rfl hH d_c2_0 rfl) rfl rfl rfl (dc := 1) (fun _ _ e => D_X11_sight e hH r_v2 r_v4 r_v10 r_v12 r_v14 r_v16) (fun v17 s18 h18 hH18 r_v17 hF => dw_ic rfl (?_)))))
    refine d_if hF (fun q hF => ?_) (fun q hF => ?_)
    · refine dw_eq_y rfl (u := 112) rfl r_v17 (d_rl rfl) q ?_
      exact dw_ic rfl (dw_rC rfl rfl (Or.inl rfl) hH18 hF)
    · refine dw_eq_n rfl (u := 112) rfl r_v17 (d_rl rfl) q ?_
      exact dw_ic rfl (dw_go rfl (u := 113) rfl (dw_rC rfl rfl (Or.inr rfl) hH18 hF))
  refine d_if hF (fun q hF => ?_) (fun q2 hF => ?_)
  · refine dw_ts rfl r_v6 (u := 114) (by rw [q]; rfl) ?_
    exact dw_aln rfl (d_s1 (d_s1 a0 rfl (by decide)) rfl (by decide)) (dw_iln rfl (d_s1 p_lk_s1 rfl (by decide)) (dw_ic rfl (dw_vC hF rfl (d_vir (n := 3) rfl rfl rfl rfl rfl hH d_c2_0 rfl) rfl rfl rfl (dc := 3) (fun _ _ e => D_X11_sawThrough e hH r_v2 (d_rl rfl)) (fun v19 s20 h20 hH20 r_v19 hF => dw_rC rfl rfl r_v19 hH20 hF))))
  refine d_if hF (fun q hF => ?_) (fun q3 hF => ?_)
  · refine dw_ts rfl r_v6 (u := 121) (by rw [q]; rfl) ?_
    exact dw_aln rfl (d_s1 (d_s1 a0 rfl (by decide)) rfl (by decide)) (dw_iln rfl (d_s1 p_lk_s1 rfl (by decide)) (dw_ic rfl (dw_vC hF rfl (d_vir (n := 3) rfl rfl rfl rfl rfl hH d_c2_0 rfl) rfl rfl rfl (dc := 3) (fun _ _ e => D_X11_sawThrough e hH r_v2 (d_rl rfl)) (fun v21 s22 h22 hH22 r_v21 hF => dw_rC rfl rfl r_v21 hH22 hF))))
  refine d_if hF (fun q hF => ?_) (fun q4 hF => ?_)
  · refine dw_ts rfl r_v6 (u := 142) (by rw [q]; rfl) ?_
    refine dw_aln rfl (d_s1 (d_s1 a0 rfl (by decide)) rfl (by decide)) (dw_iln rfl (d_s1 p_lk_s1 rfl (by decide)) (dw_vI hF rfl (d_vir (n := 2) rfl rfl rfl rfl rfl hH d_c2_0 rfl) rfl rfl rfl (dc := 5) (fun _ _ e => D_X11_sellByHand e hH r_v2) (fun v23 s24 h24 hH24 r_v23 hF => dw_ic rfl (?_))))
    refine d_if hF (fun q hF => ?_) (fun q hF => ?_)
    · refine dw_eq_y rfl (u := 155) rfl r_v23 (d_rl rfl) q ?_
      exact dw_ic rfl (dw_rC rfl rfl (Or.inl rfl) hH24 hF)
    · refine dw_eq_n rfl (u := 155) rfl r_v23 (d_rl rfl) q ?_
      exact dw_ic rfl (dw_go rfl (u := 156) rfl (dw_rC rfl rfl (Or.inr rfl) hH24 hF))
  refine d_if hF (fun q hF => ?_) (fun q5 hF => ?_)
  · refine dw_ts rfl r_v6 (u := 128) (by rw [q]; rfl) ?_
    exact dw_aln rfl (d_s1 (d_s1 a0 rfl (by decide)) rfl (by decide)) (dw_iln rfl (d_s1 p_lk_s1 rfl (by decide)) (dw_il rfl p_lk_s1 (dw_vC hF rfl (d_vir (n := 3) rfl rfl rfl rfl rfl hH d_c2_0 rfl) rfl rfl rfl (dc := 3) (fun _ _ e => D_X11_layByHand e hH r_v2 r_v4) (fun v25 s26 h26 hH26 r_v25 hF => dw_rC rfl rfl r_v25 hH26 hF))))
  refine d_if hF (fun q hF => ?_) (fun q6 hF => ?_)
  · refine dw_ts rfl r_v6 (u := 136) (by rw [q]; rfl) ?_
    exact dw_aln rfl (d_s1 (d_s1 a0 rfl (by decide)) rfl (by decide)) (dw_iln rfl (d_s1 p_lk_s1 rfl (by decide)) (dw_vC hF rfl (d_vir (n := 2) rfl rfl rfl rfl rfl hH d_c2_0 rfl) rfl rfl rfl (dc := 6) (fun _ _ e => D_X11_passDays e hH r_v2) (fun v27 s28 h28 hH28 r_v27 hF => dw_rC rfl rfl r_v27 hH28 hF)))
  refine dw_ts rfl r_v6 (u := 157) (by rw [if_pos (by omega)]; rfl) ?_
  exact dw_ic rfl (dw_rC rfl rfl (Or.inr rfl) hH hF)
set_option maxRecDepth 100000 in
noncomputable def F_X11_played_l18_b (t : Nat → Option p_C) (rec : (Option Nat) → Int → d_S → Option (Int × d_S)) (x2 : Option Nat) (x3 : Int) (s : d_S) : Option (Int × d_S) :=
  d_b x2 (fun b3 => d_b (d_tfi t b3 3) (fun v4 => if x3 < v4 then
  d_b2 (F_X11_perform t s x2 x3) (fun v5 s6 => if v5 = 0 then
  some (x3, s6)
  else
  rec x2 (d_w (x3 + 1)) s6)
  else
  some ((-1), s)))
set_option maxRecDepth 100000 in
noncomputable def F_X11_played_l18 (t : Nat → Option p_C) : Nat → (Option Nat) → Int → d_S → Option (Int × d_S)
  | 0 => fun _ _ _ => none
  | n + 1 => F_X11_played_l18_b t (F_X11_played_l18 t n)
set_option maxRecDepth 100000 in
theorem D_X11_played_l18 {t : Nat → Option p_C} {r : Int × d_S} : ∀ (n : Nat) {x2 : Option Nat} {x3 : Int} {ls : p_Ls} {s : d_S} {h : p_H}, F_X11_played_l18 t n x2 x3 s = some r → d_V t h s → p_lk 0 ls = some (.ref 2) → d_T t x2 → p_lk 2 ls = some (d_pv x2) → d_R x3 → p_lk 3 ls = some (.int (Int32.ofInt x3)) → p_wp p_GT p_MT 8 m_X11_played 18 ls [] h (d_QI t r) := by
  intro n
  induction n with
  | zero =>
    intro x2 x3 ls s h hF hH l0 r_x2 l2 r_x3 l3
    cases (show (none : Option (Int × d_S)) = some r from hF)
  | succ n ih =>
    intro x2 x3 ls s h hF hH l0 r_x2 l2 r_x3 l3
    have hF : F_X11_played_l18_b t (F_X11_played_l18 t n) x2 x3 s = some r := hF
    unfold F_X11_played_l18_b at hF
    refine dw_iln rfl l3 (dw_alno rfl l2 (dw_ot1 hF r_x2 (fun b3 r_b3 hF => dw_tgi hF rfl rfl rfl hH (fun v4 r_v4 hF => ?_))))
    refine d_if hF (fun q hF => ?_) (fun q hF => ?_)
    · refine dw_ge_y rfl (u := 43) rfl r_x3 r_v4 q ?_
      refine dw_aln rfl l0 (dw_alno rfl l2 (dw_iln rfl l3 (dw_vC hF rfl (d_vir (n := 3) rfl rfl (by generalize x2 = e; cases e <;> rfl) rfl rfl hH d_c2_0 rfl) rfl (by generalize x2 = e; cases e <;> rfl) rfl (dc := 7) (fun _ _ e => D_X11_perform e hH r_x2 r_x3) (fun v5 s6 h6 hH6 r_v5 hF => ?_))))
      refine d_if hF (fun q hF => ?_) (fun q hF => ?_)
      · refine dw_zne_y rfl (u := 37) rfl (d_R_b r_v5) q ?_
        exact dw_iln rfl l3 (dw_rI rfl rfl r_x3 hH6 hF)
      · refine dw_zne_n rfl (u := 37) rfl (d_R_b r_v5) q ?_
        refine dw_ii rfl l3 rfl (dw_go rfl (u := 18) rfl (?_))
        exact ih hF hH6 (d_s1 l0 rfl (by decide)) r_x2 (d_s1o l2 (by decide)) d_R_w p_lk_s1
    · refine dw_ge_n rfl (u := 43) rfl r_x3 r_v4 q ?_
      exact dw_ic rfl (dw_rI rfl rfl (d_rl rfl) hH hF)
set_option maxRecDepth 100000 in
noncomputable def F_X11_played (t : Nat → Option p_C) (s : d_S) (x1 : Int) : Option (Int × d_S) :=
  d_b (F_X9_textAt_3 s x1) (fun v1 => match v1 with
  | none =>
  some ((-2), s)
  | some b2 =>
  F_X11_played_l18 t d_N v1 0 s)
set_option maxRecDepth 100000 in
theorem D_X11_played {t : Nat → Option p_C} {h : p_H} {s : d_S} {x1 : Int} {r : Int × d_S} (hF : F_X11_played t s x1 = some r) (hH : d_V t h s) (r_x1 : d_R x1) : p_wp p_GT p_MT 8 m_X11_played 0 (lv_args 0 [.ref 2, .int (Int32.ofInt x1)]) [] h (d_QI t r) := by
  unfold F_X11_played at hF
  refine dw_aln rfl rfl (dw_gr rfl rfl rfl hH d_c2_0 (dw_iln rfl rfl (dw_vO hF rfl (d_vir (n := 2) rfl rfl rfl rfl rfl hH d_c3_0 rfl) rfl rfl rfl (dc := 0) (fun _ e => D_X9_textAt_3 e hH r_x1) (fun v1 r_v1 hF => dw_asno rfl rfl (dw_alno rfl p_lk_s1 (?_))))))
  refine d_ifo (α := Int) hF (fun q hF => ?_) (fun b2 q hF => ?_)
  · refine dw_nnn rfl q ?_
    exact dw_bp rfl rfl (dw_rI rfl rfl (d_rl rfl) hH hF)
  · refine dw_nns rfl (u := 16) rfl q ?_
    refine dw_ic rfl (dw_isn rfl rfl (?_))
    exact D_X11_played_l18 _ hF hH (d_s1 (d_s1 rfl rfl (by decide)) rfl (by decide)) r_v1 (d_s1o p_lk_s1 (by decide)) (d_rl rfl) p_lk_s1

set_option maxRecDepth 100000 in
noncomputable def F_X11_sellByHand (t : Nat → Option p_C) (s : d_S) (x1 : Int) : Option (Int × d_S) :=
  d_b (F_X11_canSell s x1) (fun v1 => if v1 = 0 then
  some ((-1), s)
  else
  d_b (F_X6_keep_8_6 s) (fun s2 => d_b2 (F_X11_sellOff t s2 x1) (fun v3 s4 => some (v3, s4))))
set_option maxRecDepth 100000 in
theorem D_X11_sellByHand {t : Nat → Option p_C} {h : p_H} {s : d_S} {x1 : Int} {r : Int × d_S} (hF : F_X11_sellByHand t s x1 = some r) (hH : d_V t h s) (r_x1 : d_R x1) : p_wp p_GT p_MT 5 m_X11_sellByHand 0 (lv_args 0 [.ref 2, .int (Int32.ofInt x1)]) [] h (d_QI t r) := by
  unfold F_X11_sellByHand at hF
  refine dw_aln rfl rfl (dw_iln rfl rfl (dw_vB hF rfl (d_vir (n := 2) rfl rfl rfl rfl rfl hH d_c2_0 rfl) rfl rfl rfl (dc := 2) (fun _ e => D_X11_canSell e hH r_x1) (fun v1 r_v1 hF => ?_)))
  refine d_if hF (fun q hF => ?_) (fun q hF => ?_)
  · refine dw_zne_y rfl (u := 10) rfl (d_R_b r_v1) q ?_
    exact dw_ic rfl (dw_rI rfl rfl (d_rl rfl) hH hF)
  · refine dw_zne_n rfl (u := 10) rfl (d_R_b r_v1) q ?_
    refine dw_aln rfl rfl (dw_gr rfl rfl rfl hH d_c2_0 (dw_gr rfl rfl rfl hH d_c3_9 (dw_aln rfl rfl (dw_gr rfl rfl rfl hH d_c2_0 (dw_gr rfl rfl rfl hH d_c3_8 (dw_vV hF rfl (d_vir (n := 2) rfl rfl rfl rfl rfl hH d_c8_0 rfl) rfl rfl rfl (dc := 1) (fun _ e => D_X6_keep_8_6 e hH) (fun s2 h2 hH2 hF => dw_aln rfl rfl (dw_iln rfl rfl (dw_vI hF rfl (d_vir (n := 2) rfl rfl rfl rfl rfl hH2 d_c2_0 rfl) rfl rfl rfl (dc := 4) (fun _ _ e => D_X11_sellOff e hH2 r_x1) (fun v3 s4 h4 hH4 r_v3 hF => ?_))))))))))
    exact dw_rI rfl rfl r_v3 hH4 hF
set_option maxRecDepth 100000 in
noncomputable def F_X11_sell (t : Nat → Option p_C) (s : d_S) (x1 : Int) : Option (Int × d_S) :=
  d_b2 (F_X11_sellByHand t s x1) (fun v1 s2 => some (v1, s2))
set_option maxRecDepth 100000 in
theorem D_X11_sell {t : Nat → Option p_C} {h : p_H} {s : d_S} {x1 : Int} {r : Int × d_S} (hF : F_X11_sell t s x1 = some r) (hH : d_V t h s) (r_x1 : d_R x1) : p_wp p_GT p_MT 6 m_X11_sell 0 (lv_args 0 [.ref 2, .int (Int32.ofInt x1)]) [] h (d_QI t r) := by
  unfold F_X11_sell at hF
  exact dw_aln rfl rfl (dw_iln rfl rfl (dw_vI hF rfl (d_vir (n := 2) rfl rfl rfl rfl rfl hH d_c2_0 rfl) rfl rfl rfl (dc := 5) (fun _ _ e => D_X11_sellByHand e hH r_x1) (fun v1 s2 h2 hH2 r_v1 hF => dw_rI rfl rfl r_v1 hH2 hF)))
set_option maxRecDepth 100000 in
noncomputable def F_X10_readFrom_6_9 (s : d_S) (x2 : Int) : Option (d_S) :=
  if x2 < 0 then
  some s
  else
  if 2130 < (d_w (x2 + 71)) then
  some s
  else
  d_g (0 ≤ x2 ∧ x2 < 2130) (d_l (d_si s 6 0 (s.1 9 (x2.toNat))) (fun s2 => d_g (0 ≤ (d_w (x2 + 1)) ∧ (d_w (x2 + 1)) < 2130) (d_l (d_si s2 6 1 (s2.1 9 (((d_w (x2 + 1))).toNat))) (fun s4 => d_g (0 ≤ (d_w (x2 + 2)) ∧ (d_w (x2 + 2)) < 2130) (d_l (d_si s4 6 2 (s4.1 9 (((d_w (x2 + 2))).toNat))) (fun s6 => d_g (0 ≤ (d_w (x2 + 3)) ∧ (d_w (x2 + 3)) < 2130) (d_l (d_si s6 6 3 (s6.1 9 (((d_w (x2 + 3))).toNat))) (fun s8 => d_g (0 ≤ (d_w (x2 + 4)) ∧ (d_w (x2 + 4)) < 2130) (d_l (d_si s8 6 4 (s8.1 9 (((d_w (x2 + 4))).toNat))) (fun s10 => d_g (0 ≤ (d_w (x2 + 5)) ∧ (d_w (x2 + 5)) < 2130) (d_l (d_si s10 6 5 (s10.1 9 (((d_w (x2 + 5))).toNat))) (fun s12 => d_g (0 ≤ (d_w (x2 + 6)) ∧ (d_w (x2 + 6)) < 2130) (d_l (d_si s12 6 6 (s12.1 9 (((d_w (x2 + 6))).toNat))) (fun s14 => d_g ((0 : Int) ≤ (d_w (x2 + 7)) ∧ (0 : Int) ≤ 0 ∧ (0 : Int) ≤ 64 ∧ (d_w (x2 + 7)) + 64 ≤ 2130 ∧ (0 : Int) + 64 ≤ 64) (d_l (d_cp s14 9 ((d_w (x2 + 7))).toNat 7 0 64) (fun s16 => some s16))))))))))))))))
set_option maxRecDepth 100000 in
theorem D_X10_readFrom_6_9 {t : Nat → Option p_C} {h : p_H} {s : d_S} {x2 : Int} {r : d_S} (hF : F_X10_readFrom_6_9 s x2 = some r) (hH : d_V t h s) (r_x2 : d_R x2) : p_wp p_GT p_MT 0 m_X10_readFrom 0 (lv_args 0 [.ref 6, .ref 9, .int (Int32.ofInt x2)]) [] h (d_QV t r) := by
  unfold F_X10_readFrom_6_9 at hF
  refine dw_iln rfl rfl (?_)
  refine d_if hF (fun q hF => ?_) (fun q hF => ?_)
  · refine dw_zlt_y rfl (u := 13) rfl r_x2 q ?_
    exact dw_rV rfl rfl hH hF
  · refine dw_zlt_n rfl (u := 13) rfl r_x2 q ?_
    refine dw_iln rfl rfl (dw_bp rfl rfl (dw_add rfl (dw_aln rfl rfl (dw_len rfl hH d_a9 rfl (z := 2130) rfl (dw_w2 (?_))))))
    refine d_if hF (fun q hF => ?_) (fun q hF => ?_)
    · refine dw_le_y rfl (u := 14) rfl d_R_w (d_rl rfl) q ?_
      exact dw_rV rfl rfl hH hF
    · refine dw_le_n rfl (u := 14) rfl d_R_w (d_rl rfl) q ?_
      refine dw_aln rfl rfl (dw_aln rfl rfl (dw_iln rfl rfl (d_gd hF (fun g1 hF => dw_ald rfl hH d_a9 rfl g1.1 g1.2 r_x2 rfl (dw_pi (k := 0) rfl rfl rfl rfl hH d_c6_0 hH.r (by decide) hF (fun s2 h2 hH2 hF => dw_aln rfl rfl (dw_aln rfl rfl (dw_iln rfl rfl (dw_ic rfl (?_))))))))))
      refine dw_add rfl (dw_w1 (d_gd hF (fun g3 hF => dw_ald rfl hH2 d_a9 rfl g3.1 g3.2 d_R_w rfl (dw_pi (k := 1) rfl rfl rfl rfl hH2 d_c6_1 hH2.r (by decide) hF (fun s4 h4 hH4 hF => dw_aln rfl rfl (dw_aln rfl rfl (dw_iln rfl rfl (dw_ic rfl (dw_add rfl (?_))))))))))
      refine dw_w1 (d_gd hF (fun g5 hF => dw_ald rfl hH4 d_a9 rfl g5.1 g5.2 d_R_w rfl (dw_pi (k := 2) rfl rfl rfl rfl hH4 d_c6_2 hH4.r (by decide) hF (fun s6 h6 hH6 hF => dw_aln rfl rfl (dw_aln rfl rfl (dw_iln rfl rfl (dw_ic rfl (dw_add rfl (dw_w1 (?_))))))))))
      refine d_gd hF (fun g7 hF => dw_ald rfl hH6 d_a9 rfl g7.1 g7.2 d_R_w rfl (dw_pi (k := 3) rfl rfl rfl rfl hH6 d_c6_3 hH6.r (by decide) hF (fun s8 h8 hH8 hF => dw_aln rfl rfl (dw_aln rfl rfl (dw_iln rfl rfl (dw_ic rfl (dw_add rfl (dw_w1 (d_gd hF (fun g9 hF => ?_))))))))))
      refine dw_ald rfl hH8 d_a9 rfl g9.1 g9.2 d_R_w rfl (dw_pi (k := 4) rfl rfl rfl rfl hH8 d_c6_4 hH8.r (by decide) hF (fun s10 h10 hH10 hF => dw_aln rfl rfl (dw_aln rfl rfl (dw_iln rfl rfl (dw_ic rfl (dw_add rfl (dw_w1 (d_gd hF (fun g11 hF => dw_ald rfl hH10 d_a9 rfl g11.1 g11.2 d_R_w rfl (?_))))))))))
      refine dw_pi (k := 5) rfl rfl rfl rfl hH10 d_c6_5 hH10.r (by decide) hF (fun s12 h12 hH12 hF => dw_aln rfl rfl (dw_aln rfl rfl (dw_iln rfl rfl (dw_bp rfl rfl (dw_add rfl (dw_w1 (d_gd hF (fun g13 hF => dw_ald rfl hH12 d_a9 rfl g13.1 g13.2 d_R_w rfl (dw_pi (k := 6) rfl rfl rfl rfl hH12 d_c6_6 hH12.r (by decide) hF (fun s14 h14 hH14 hF => ?_))))))))))
      refine dw_aln rfl rfl (dw_iln rfl rfl (dw_bp rfl rfl (dw_add rfl (dw_aln rfl rfl (dw_gr rfl rfl rfl hH14 d_c6_7 (dw_ic rfl (dw_aln rfl rfl (dw_gr rfl rfl rfl hH14 d_c6_7 (dw_len rfl hH14 d_a7 rfl (z := 64) rfl (?_))))))))))
      exact dw_w4 (d_gd hF (fun g15 hF => dw_cpy rfl rfl hH14 d_a9 d_a7 d_R_w (d_rl rfl) (d_rl rfl) g15 rfl hF (fun s16 h16 hH16 hF => dw_rV rfl rfl hH16 hF)))
set_option maxRecDepth 100000 in
noncomputable def F_X6_takeBack_8_6 (s : d_S) : Option (Int × d_S) :=
  if (s.1 8 2) = 0 then
  some (0, s)
  else
  d_l (d_si s 8 1 (d_rem (((s.1 8 1) + 30) - 1) 30)) (fun s1 => d_l (d_si s1 8 2 (d_w ((s1.1 8 2) - 1))) (fun s2 => d_b (F_X10_readFrom_6_9 s2 (d_w ((s2.1 8 1) * 71))) (fun s3 => some (1, s3))))
set_option maxRecDepth 100000 in
theorem D_X6_takeBack_8_6 {t : Nat → Option p_C} {h : p_H} {s : d_S} {r : Int × d_S} (hF : F_X6_takeBack_8_6 s = some r) (hH : d_V t h s) : p_wp p_GT p_MT 1 m_X6_takeBack 0 (lv_args 0 [.ref 8, .ref 6]) [] h (d_QC t r) := by
  unfold F_X6_takeBack_8_6 at hF
  refine dw_aln rfl rfl (dw_gi (k := 2) rfl rfl rfl hH d_c8_2 (?_))
  refine d_if hF (fun q hF => ?_) (fun q hF => ?_)
  · refine dw_zne_y rfl (u := 9) rfl hH.r q ?_
    exact dw_ic rfl (dw_rC rfl rfl (Or.inl rfl) hH hF)
  · refine dw_zne_n rfl (u := 9) rfl hH.r q ?_
    refine dw_aln rfl rfl (dw_aln rfl rfl (dw_gi (k := 1) rfl rfl rfl hH d_c8_1 (dw_bp rfl rfl (dw_add rfl (dw_ic rfl (dw_sub rfl (dw_bp rfl rfl (dw_rem rfl (d_rl rfl) (by decide) (dw_pi (k := 1) rfl rfl rfl rfl hH d_c8_1 d_R_t (by decide) hF (fun s1 h1 hH1 hF => ?_))))))))))
    refine dw_aln rfl rfl (dw_dupr rfl (dw_gi (k := 2) rfl rfl rfl hH1 d_c8_2 (dw_ic rfl (dw_sub rfl (dw_w1 (dw_pi (k := 2) rfl rfl rfl rfl hH1 d_c8_2 d_R_w (by decide) hF (fun s2 h2 hH2 hF => dw_aln rfl rfl (dw_aln rfl rfl (dw_gr rfl rfl rfl hH2 d_c8_0 (?_))))))))))
    exact dw_aln rfl rfl (dw_gi (k := 1) rfl rfl rfl hH2 d_c8_1 (dw_bp rfl rfl (dw_mul rfl (dw_w1 (dw_vV hF rfl (d_vir (n := 3) rfl rfl rfl rfl rfl hH2 d_c6_0 rfl) rfl rfl rfl (dc := 0) (fun _ e => D_X10_readFrom_6_9 e hH2 d_R_w) (fun s3 h3 hH3 hF => dw_ic rfl (dw_rC rfl rfl (Or.inr rfl) hH3 hF)))))))
set_option maxRecDepth 100000 in
noncomputable def F_X11_undo (s : d_S) : Option (Int × d_S) :=
  d_b2 (F_X6_takeBack_8_6 s) (fun v1 s2 => if v1 = 0 then
  some ((-1), s2)
  else
  d_b (F_X4_lay_3 s2) (fun s3 => some ((s3.1 8 2), s3)))
set_option maxRecDepth 100000 in
theorem D_X11_undo {t : Nat → Option p_C} {h : p_H} {s : d_S} {r : Int × d_S} (hF : F_X11_undo s = some r) (hH : d_V t h s) : p_wp p_GT p_MT 3 m_X11_undo 0 (lv_args 0 [.ref 2]) [] h (d_QI t r) := by
  unfold F_X11_undo at hF
  refine dw_aln rfl rfl (dw_gr rfl rfl rfl hH d_c2_0 (dw_gr rfl rfl rfl hH d_c3_9 (dw_aln rfl rfl (dw_gr rfl rfl rfl hH d_c2_0 (dw_gr rfl rfl rfl hH d_c3_8 (dw_vC hF rfl (d_vir (n := 2) rfl rfl rfl rfl rfl hH d_c8_0 rfl) rfl rfl rfl (dc := 1) (fun _ _ e => D_X6_takeBack_8_6 e hH) (fun v1 s2 h2 hH2 r_v1 hF => ?_)))))))
  refine d_if hF (fun q hF => ?_) (fun q hF => ?_)
  · refine dw_zne_y rfl (u := 22) rfl (d_R_b r_v1) q ?_
    exact dw_ic rfl (dw_rI rfl rfl (d_rl rfl) hH2 hF)
  · refine dw_zne_n rfl (u := 22) rfl (d_R_b r_v1) q ?_
    exact dw_aln rfl rfl (dw_gr rfl rfl rfl hH2 d_c2_2 (dw_aln rfl rfl (dw_gr rfl rfl rfl hH2 d_c2_0 (dw_vV hF rfl (d_vir (n := 2) rfl rfl rfl rfl rfl hH2 d_c37_0 rfl) rfl rfl rfl (dc := 2) (fun _ e => D_X4_lay_3 e hH2) (fun s3 h3 hH3 hF => dw_aln rfl rfl (dw_gr rfl rfl rfl hH3 d_c2_0 (dw_gr rfl rfl rfl hH3 d_c3_9 (dw_gi (k := 2) rfl rfl rfl hH3 d_c8_2 (dw_rI rfl rfl hH3.r hH3 hF)))))))))
set_option maxRecDepth 100000 in
noncomputable def F_X4_partOf_38 (s : d_S) (x1 : Int) : Option (Int) :=
  if x1 < 0 then
  some 0
  else
  if x1 < 64 then
  d_g (0 ≤ x1 ∧ x1 < 64) (some (s.1 38 (x1.toNat)))
  else
  some 0
set_option maxRecDepth 100000 in
theorem D_X4_partOf_38 {t : Nat → Option p_C} {h : p_H} {s : d_S} {x1 : Int} {r : Int} (hF : F_X4_partOf_38 s x1 = some r) (hH : d_V t h s) (r_x1 : d_R x1) : p_wp p_GT p_MT 0 m_X4_partOf 0 (lv_args 0 [.ref 38, .int (Int32.ofInt x1)]) [] h (d_QP h r) := by
  unfold F_X4_partOf_38 at hF
  refine dw_iln rfl rfl (?_)
  refine d_if hF (fun q hF => ?_) (fun q hF => ?_)
  · refine dw_zlt_y rfl (u := 16) rfl r_x1 q ?_
    exact dw_ic rfl (dw_rP rfl rfl (d_rl rfl) hF)
  · refine dw_zlt_n rfl (u := 16) rfl r_x1 q ?_
    refine dw_iln rfl rfl (dw_aln rfl rfl (dw_len rfl hH d_a38 rfl (z := 64) rfl (?_)))
    refine d_if hF (fun q hF => ?_) (fun q hF => ?_)
    · refine dw_ge_y rfl (u := 16) rfl r_x1 (d_rl rfl) q ?_
      exact dw_aln rfl rfl (dw_iln rfl rfl (d_gd hF (fun g1 hF => dw_ald rfl hH d_a38 rfl g1.1 g1.2 r_x1 rfl (dw_go rfl (u := 17) rfl (dw_rP rfl rfl hH.r hF)))))
    · refine dw_ge_n rfl (u := 16) rfl r_x1 (d_rl rfl) q ?_
      exact dw_ic rfl (dw_rP rfl rfl (d_rl rfl) hF)
set_option maxRecDepth 100000 in
noncomputable def F_X4_leftOf (s : d_S) (x1 : Int) : Option (Int) :=
  d_b (F_X4_partOf_38 s x1) (fun v1 => some v1)
set_option maxRecDepth 100000 in
theorem D_X4_leftOf {t : Nat → Option p_C} {h : p_H} {s : d_S} {x1 : Int} {r : Int} (hF : F_X4_leftOf s x1 = some r) (hH : d_V t h s) (r_x1 : d_R x1) : p_wp p_GT p_MT 1 m_X4_leftOf 0 (lv_args 0 [.ref 37, .int (Int32.ofInt x1)]) [] h (d_QP h r) := by
  unfold F_X4_leftOf at hF
  exact dw_aln rfl rfl (dw_gr rfl rfl rfl hH d_c37_0 (dw_iln rfl rfl (dw_sP hF rfl rfl rfl rfl rfl (dc := 0) (fun _ e => D_X4_partOf_38 e hH r_x1) (fun v1 r_v1 hF => dw_rP rfl rfl r_v1 hF))))
set_option maxRecDepth 100000 in
noncomputable def F_X4_partOf_39 (s : d_S) (x1 : Int) : Option (Int) :=
  if x1 < 0 then
  some 0
  else
  if x1 < 64 then
  d_g (0 ≤ x1 ∧ x1 < 64) (some (s.1 39 (x1.toNat)))
  else
  some 0
set_option maxRecDepth 100000 in
theorem D_X4_partOf_39 {t : Nat → Option p_C} {h : p_H} {s : d_S} {x1 : Int} {r : Int} (hF : F_X4_partOf_39 s x1 = some r) (hH : d_V t h s) (r_x1 : d_R x1) : p_wp p_GT p_MT 0 m_X4_partOf 0 (lv_args 0 [.ref 39, .int (Int32.ofInt x1)]) [] h (d_QP h r) := by
  unfold F_X4_partOf_39 at hF
  refine dw_iln rfl rfl (?_)
  refine d_if hF (fun q hF => ?_) (fun q hF => ?_)
  · refine dw_zlt_y rfl (u := 16) rfl r_x1 q ?_
    exact dw_ic rfl (dw_rP rfl rfl (d_rl rfl) hF)
  · refine dw_zlt_n rfl (u := 16) rfl r_x1 q ?_
    refine dw_iln rfl rfl (dw_aln rfl rfl (dw_len rfl hH d_a39 rfl (z := 64) rfl (?_)))
    refine d_if hF (fun q hF => ?_) (fun q hF => ?_)
    · refine dw_ge_y rfl (u := 16) rfl r_x1 (d_rl rfl) q ?_
      exact dw_aln rfl rfl (dw_iln rfl rfl (d_gd hF (fun g1 hF => dw_ald rfl hH d_a39 rfl g1.1 g1.2 r_x1 rfl (dw_go rfl (u := 17) rfl (dw_rP rfl rfl hH.r hF)))))
    · refine dw_ge_n rfl (u := 16) rfl r_x1 (d_rl rfl) q ?_
      exact dw_ic rfl (dw_rP rfl rfl (d_rl rfl) hF)
set_option maxRecDepth 100000 in
noncomputable def F_X4_topOf (s : d_S) (x1 : Int) : Option (Int) :=
  d_b (F_X4_partOf_39 s x1) (fun v1 => some v1)
set_option maxRecDepth 100000 in
theorem D_X4_topOf {t : Nat → Option p_C} {h : p_H} {s : d_S} {x1 : Int} {r : Int} (hF : F_X4_topOf s x1 = some r) (hH : d_V t h s) (r_x1 : d_R x1) : p_wp p_GT p_MT 1 m_X4_topOf 0 (lv_args 0 [.ref 37, .int (Int32.ofInt x1)]) [] h (d_QP h r) := by
  unfold F_X4_topOf at hF
  exact dw_aln rfl rfl (dw_gr rfl rfl rfl hH d_c37_1 (dw_iln rfl rfl (dw_sP hF rfl rfl rfl rfl rfl (dc := 0) (fun _ e => D_X4_partOf_39 e hH r_x1) (fun v1 r_v1 hF => dw_rP rfl rfl r_v1 hF))))
set_option maxRecDepth 100000 in
noncomputable def F_X4_wideOf (s : d_S) (x1 : Int) : Option (Int) :=
  d_b (F_X4_partOf_40 s x1) (fun v1 => some v1)
set_option maxRecDepth 100000 in
theorem D_X4_wideOf {t : Nat → Option p_C} {h : p_H} {s : d_S} {x1 : Int} {r : Int} (hF : F_X4_wideOf s x1 = some r) (hH : d_V t h s) (r_x1 : d_R x1) : p_wp p_GT p_MT 1 m_X4_wideOf 0 (lv_args 0 [.ref 37, .int (Int32.ofInt x1)]) [] h (d_QP h r) := by
  unfold F_X4_wideOf at hF
  exact dw_aln rfl rfl (dw_gr rfl rfl rfl hH d_c37_2 (dw_iln rfl rfl (dw_sP hF rfl rfl rfl rfl rfl (dc := 0) (fun _ e => D_X4_partOf_40 e hH r_x1) (fun v1 r_v1 hF => dw_rP rfl rfl r_v1 hF))))
set_option maxRecDepth 100000 in
noncomputable def F_X4_highOf (s : d_S) (x1 : Int) : Option (Int) :=
  d_b (F_X4_partOf_41 s x1) (fun v1 => some v1)
set_option maxRecDepth 100000 in
theorem D_X4_highOf {t : Nat → Option p_C} {h : p_H} {s : d_S} {x1 : Int} {r : Int} (hF : F_X4_highOf s x1 = some r) (hH : d_V t h s) (r_x1 : d_R x1) : p_wp p_GT p_MT 1 m_X4_highOf 0 (lv_args 0 [.ref 37, .int (Int32.ofInt x1)]) [] h (d_QP h r) := by
  unfold F_X4_highOf at hF
  exact dw_aln rfl rfl (dw_gr rfl rfl rfl hH d_c37_3 (dw_iln rfl rfl (dw_sP hF rfl rfl rfl rfl rfl (dc := 0) (fun _ e => D_X4_partOf_41 e hH r_x1) (fun v1 r_v1 hF => dw_rP rfl rfl r_v1 hF))))
set_option maxRecDepth 100000 in
noncomputable def F_X0_meltsUnder (t : Nat → Option p_C) (s : d_S) (x1 : Option Nat) (x2 : Int) (x3 : Int) : Option (Int × d_S) :=
  d_b (F_X1_tellDay s (s.1 47 6) x2 x3 (s.1 47 9)) (fun s1 => d_b2 (F_X1_melts t s1 x1) (fun v2 s3 => some (v2, s3)))
set_option maxRecDepth 100000 in
theorem D_X0_meltsUnder {t : Nat → Option p_C} {h : p_H} {s : d_S} {x1 : Option Nat} {x2 : Int} {x3 : Int} {r : Int × d_S} (hF : F_X0_meltsUnder t s x1 x2 x3 = some r) (hH : d_V t h s) (r_x1 : d_T t x1) (r_x2 : d_R x2) (r_x3 : d_R x3) : p_wp p_GT p_MT 3 m_X0_meltsUnder 0 (lv_args 0 [.ref 47, d_pv x1, .int (Int32.ofInt x2), .int (Int32.ofInt x3)]) [] h (d_QI t r) := by
  have a0 : p_lk 0 (lv_args 0 [.ref 47, d_pv x1, .int (Int32.ofInt x2), .int (Int32.ofInt x3)]) = some (.ref 47) := by cases x1 <;> rfl
  have a1 : p_lk 1 (lv_args 0 [.ref 47, d_pv x1, .int (Int32.ofInt x2), .int (Int32.ofInt x3)]) = some (d_pv x1) := by cases x1 <;> rfl
  have a2 : p_lk 2 (lv_args 0 [.ref 47, d_pv x1, .int (Int32.ofInt x2), .int (Int32.ofInt x3)]) = some (.int (Int32.ofInt x2)) := by cases x1 <;> rfl
  have a3 : p_lk 3 (lv_args 0 [.ref 47, d_pv x1, .int (Int32.ofInt x2), .int (Int32.ofInt x3)]) = some (.int (Int32.ofInt x3)) := by cases x1 <;> rfl
  unfold F_X0_meltsUnder at hF
  refine dw_aln rfl a0 (dw_gr rfl rfl rfl hH d_c47_2 (dw_aln rfl a0 (dw_gi (k := 6) rfl rfl rfl hH d_c47_6 (dw_iln rfl a2 (dw_iln rfl a3 (dw_aln rfl a0 (dw_gi (k := 9) rfl rfl rfl hH d_c47_9 (dw_vV hF rfl (d_vir (n := 5) rfl rfl rfl rfl rfl hH d_c48_0 rfl) rfl rfl rfl (dc := 0) (fun _ e => D_X1_tellDay e hH hH.r r_x2 r_x3 hH.r) (fun s1 h1 hH1 hF => dw_aln rfl a0 (?_))))))))))
  exact dw_gr rfl rfl rfl hH1 d_c47_2 (dw_alno rfl a1 (dw_vI hF rfl (d_vir (n := 2) rfl rfl (by generalize x1 = e; cases e <;> rfl) rfl rfl hH1 d_c48_0 rfl) rfl (by generalize x1 = e; cases e <;> rfl) rfl (dc := 2) (fun _ _ e => D_X1_melts e hH1 r_x1) (fun v2 s3 h3 hH3 r_v2 hF => dw_rI rfl rfl r_v2 hH3 hF)))
set_option maxRecDepth 100000 in
noncomputable def F_X0_meltsAt (t : Nat → Option p_C) (s : d_S) : Option (Int × d_S) :=
  d_b2 (F_X0_meltsUnder t s (s.2.1 47 3) (s.1 47 7) (s.1 47 8)) (fun v1 s2 => some (v1, s2))
set_option maxRecDepth 100000 in
theorem D_X0_meltsAt {t : Nat → Option p_C} {h : p_H} {s : d_S} {r : Int × d_S} (hF : F_X0_meltsAt t s = some r) (hH : d_V t h s) : p_wp p_GT p_MT 4 m_X0_meltsAt 0 (lv_args 0 [.ref 47]) [] h (d_QI t r) := by
  unfold F_X0_meltsAt at hF
  exact dw_aln rfl rfl (dw_aln rfl rfl (dw_go_ (k := 3) rfl rfl rfl hH d_c47_3 (dw_aln rfl rfl (dw_gi (k := 7) rfl rfl rfl hH d_c47_7 (dw_aln rfl rfl (dw_gi (k := 8) rfl rfl rfl hH d_c47_8 (dw_vI hF rfl (d_vir (n := 4) rfl rfl (by generalize (s.2.1 47 3) = e; cases e <;> rfl) rfl rfl hH d_c47_0 rfl) rfl (by generalize (s.2.1 47 3) = e; cases e <;> rfl) rfl (dc := 3) (fun _ _ e => D_X0_meltsUnder e hH (hH.T (by decide)) hH.r hH.r) (fun v1 s2 h2 hH2 r_v1 hF => dw_rI rfl rfl r_v1 hH2 hF))))))))
set_option maxRecDepth 100000 in
noncomputable def F_X11_meltsNow (t : Nat → Option p_C) (s : d_S) (x1 : Int) : Option (Int × d_S) :=
  d_b (F_X0_start s x1) (fun s1 => d_b2 (F_X0_meltsAt t s1) (fun v2 s3 => some (v2, s3)))
set_option maxRecDepth 100000 in
theorem D_X11_meltsNow {t : Nat → Option p_C} {h : p_H} {s : d_S} {x1 : Int} {r : Int × d_S} (hF : F_X11_meltsNow t s x1 = some r) (hH : d_V t h s) (r_x1 : d_R x1) : p_wp p_GT p_MT 5 m_X11_meltsNow 0 (lv_args 0 [.ref 2, .int (Int32.ofInt x1)]) [] h (d_QI t r) := by
  unfold F_X11_meltsNow at hF
  exact dw_aln rfl rfl (dw_gr rfl rfl rfl hH d_c2_4 (dw_iln rfl rfl (dw_vV hF rfl (d_vir (n := 2) rfl rfl rfl rfl rfl hH d_c47_0 rfl) rfl rfl rfl (dc := 2) (fun _ e => D_X0_start e hH r_x1) (fun s1 h1 hH1 hF => dw_aln rfl rfl (dw_gr rfl rfl rfl hH1 d_c2_4 (dw_vI hF rfl (d_vir (n := 1) rfl rfl rfl rfl rfl hH1 d_c47_0 rfl) rfl rfl rfl (dc := 4) (fun _ _ e => D_X0_meltsAt e hH1) (fun v2 s3 h3 hH3 r_v2 hF => dw_rI rfl rfl r_v2 hH3 hF)))))))
set_option maxRecDepth 100000 in
noncomputable def F_X11_sellsNow (t : Nat → Option p_C) (s : d_S) (x1 : Int) : Option (Int × d_S) :=
  d_b (F_X0_start s x1) (fun s1 => d_b2 (F_X0_sellsAt t s1) (fun v2 s3 => some (v2, s3)))
set_option maxRecDepth 100000 in
theorem D_X11_sellsNow {t : Nat → Option p_C} {h : p_H} {s : d_S} {x1 : Int} {r : Int × d_S} (hF : F_X11_sellsNow t s x1 = some r) (hH : d_V t h s) (r_x1 : d_R x1) : p_wp p_GT p_MT 4 m_X11_sellsNow 0 (lv_args 0 [.ref 2, .int (Int32.ofInt x1)]) [] h (d_QI t r) := by
  unfold F_X11_sellsNow at hF
  exact dw_aln rfl rfl (dw_gr rfl rfl rfl hH d_c2_4 (dw_iln rfl rfl (dw_vV hF rfl (d_vir (n := 2) rfl rfl rfl rfl rfl hH d_c47_0 rfl) rfl rfl rfl (dc := 2) (fun _ e => D_X0_start e hH r_x1) (fun s1 h1 hH1 hF => dw_aln rfl rfl (dw_gr rfl rfl rfl hH1 d_c2_4 (dw_vI hF rfl (d_vir (n := 1) rfl rfl rfl rfl rfl hH1 d_c47_0 rfl) rfl rfl rfl (dc := 3) (fun _ _ e => D_X0_sellsAt e hH1) (fun v2 s3 h3 hH3 r_v2 hF => dw_rI rfl rfl r_v2 hH3 hF)))))))
set_option maxRecDepth 100000 in
noncomputable def F_X11_block (t : Nat → Option p_C) (s : d_S) (x1 : Int) (x2 : Int) : Option (Int × d_S) :=
  d_b (F_X11_isBlock s x1) (fun v1 => if v1 = 0 then
  some ((-1), s)
  else
  
  if x2 = 0 then
  d_b (F_X4_leftOf s x1) (fun v2 => some (v2, s))
  else
  if x2 = 1 then
  d_b (F_X4_topOf s x1) (fun v3 => some (v3, s))
  else
  if x2 = 2 then
  d_b (F_X4_wideOf s x1) (fun v4 => some (v4, s))
  else
  if x2 = 3 then
  d_b (F_X4_highOf s x1) (fun v5 => some (v5, s))
  else
  if x2 = 4 then
  d_b (F_X10_strawOn_6 s x1) (fun v6 => some (v6, s))
  else
  if x2 = 5 then
  d_b (F_X10_meltedOf_6 s x1) (fun v7 => some (v7, s))
  else
  if x2 = 6 then
  d_b (F_X10_isSold_6 s x1) (fun v8 => d_b (F_X11_bit v8) (fun v9 => some (v9, s)))
  else
  if x2 = 7 then
  d_b (F_X4_edgeOf s x1) (fun v10 => some (v10, s))
  else
  if x2 = 8 then
  d_b (F_X4_sightsIn_3 s x1) (fun v11 => some (v11, s))
  else
  if x2 = 9 then
  d_b2 (F_X11_meltsNow t s x1) (fun v12 s13 => some (v12, s13))
  else
  if x2 = 10 then
  d_b2 (F_X11_sellsNow t s x1) (fun v14 s15 => some (v14, s15))
  else
  some ((-1), s))
set_option maxRecDepth 100000 in
theorem D_X11_block {t : Nat → Option p_C} {h : p_H} {s : d_S} {x1 : Int} {x2 : Int} {r : Int × d_S} (hF : F_X11_block t s x1 x2 = some r) (hH : d_V t h s) (r_x1 : d_R x1) (r_x2 : d_R x2) : p_wp p_GT p_MT 6 m_X11_block 0 (lv_args 0 [.ref 2, .int (Int32.ofInt x1), .int (Int32.ofInt x2)]) [] h (d_QI t r) := by
  unfold F_X11_block at hF
  refine dw_aln rfl rfl (dw_iln rfl rfl (dw_vB hF rfl (d_vir (n := 2) rfl rfl rfl rfl rfl hH d_c2_0 rfl) rfl rfl rfl (dc := 1) (fun _ e => D_X11_isBlock e hH r_x1) (fun v1 r_v1 hF => ?_)))
  refine d_if hF (fun q hF => ?_) (fun q hF => ?_)
  · refine dw_zne_y rfl (u := 10) rfl (d_R_b r_v1) q ?_
    exact dw_ic rfl (dw_rI rfl rfl (d_rl rfl) hH hF)
  · refine dw_zne_n rfl (u := 10) rfl (d_R_b r_v1) q ?_
    refine dw_iln rfl rfl (?_)
    refine d_if hF (fun q hF => ?_) (fun q0 hF => ?_)
    · refine dw_ts rfl r_x2 (u := 68) (by rw [q]; rfl) ?_
      exact dw_aln rfl rfl (dw_gr rfl rfl rfl hH d_c2_2 (dw_iln rfl rfl (dw_vP hF rfl (d_vir (n := 2) rfl rfl rfl rfl rfl hH d_c37_0 rfl) rfl rfl rfl (dc := 1) (fun _ e => D_X4_leftOf e hH r_x1) (fun v2 r_v2 hF => dw_rI rfl rfl r_v2 hH hF))))
    refine d_if hF (fun q hF => ?_) (fun q1 hF => ?_)
    · refine dw_ts rfl r_x2 (u := 77) (by rw [q]; rfl) ?_
      exact dw_aln rfl rfl (dw_gr rfl rfl rfl hH d_c2_2 (dw_iln rfl rfl (dw_vP hF rfl (d_vir (n := 2) rfl rfl rfl rfl rfl hH d_c37_0 rfl) rfl rfl rfl (dc := 1) (fun _ e => D_X4_topOf e hH r_x1) (fun v3 r_v3 hF => dw_rI rfl rfl r_v3 hH hF))))
    refine d_if hF (fun q hF => ?_) (fun q2 hF => ?_)
    · refine dw_ts rfl r_x2 (u := 86) (by rw [q]; rfl) ?_
      exact dw_aln rfl rfl (dw_gr rfl rfl rfl hH d_c2_2 (dw_iln rfl rfl (dw_vP hF rfl (d_vir (n := 2) rfl rfl rfl rfl rfl hH d_c37_0 rfl) rfl rfl rfl (dc := 1) (fun _ e => D_X4_wideOf e hH r_x1) (fun v4 r_v4 hF => dw_rI rfl rfl r_v4 hH hF))))
    refine d_if hF (fun q hF => ?_) (fun q3 hF => ?_)
    · refine dw_ts rfl r_x2 (u := 95) (by rw [q]; rfl) ?_
      exact dw_aln rfl rfl (dw_gr rfl rfl rfl hH d_c2_2 (dw_iln rfl rfl (dw_vP hF rfl (d_vir (n := 2) rfl rfl rfl rfl rfl hH d_c37_0 rfl) rfl rfl rfl (dc := 1) (fun _ e => D_X4_highOf e hH r_x1) (fun v5 r_v5 hF => dw_rI rfl rfl r_v5 hH hF))))
    refine d_if hF (fun q hF => ?_) (fun q4 hF => ?_)
    · refine dw_ts rfl r_x2 (u := 104) (by rw [q]; rfl) ?_
      exact dw_aln rfl rfl (dw_gr rfl rfl rfl hH d_c2_0 (dw_gr rfl rfl rfl hH d_c3_8 (dw_iln rfl rfl (dw_vP hF rfl (d_vir (n := 2) rfl rfl rfl rfl rfl hH d_c6_0 rfl) rfl rfl rfl (dc := 1) (fun _ e => D_X10_strawOn_6 e hH r_x1) (fun v6 r_v6 hF => dw_rI rfl rfl r_v6 hH hF)))))
    refine d_if hF (fun q hF => ?_) (fun q5 hF => ?_)
    · refine dw_ts rfl r_x2 (u := 116) (by rw [q]; rfl) ?_
      exact dw_aln rfl rfl (dw_gr rfl rfl rfl hH d_c2_0 (dw_gr rfl rfl rfl hH d_c3_8 (dw_iln rfl rfl (dw_vP hF rfl (d_vir (n := 2) rfl rfl rfl rfl rfl hH d_c6_0 rfl) rfl rfl rfl (dc := 1) (fun _ e => D_X10_meltedOf_6 e hH r_x1) (fun v7 r_v7 hF => dw_rI rfl rfl r_v7 hH hF)))))
    refine d_if hF (fun q hF => ?_) (fun q6 hF => ?_)
    · refine dw_ts rfl r_x2 (u := 128) (by rw [q]; rfl) ?_
      exact dw_aln rfl rfl (dw_gr rfl rfl rfl hH d_c2_0 (dw_gr rfl rfl rfl hH d_c3_8 (dw_iln rfl rfl (dw_vB hF rfl (d_vir (n := 2) rfl rfl rfl rfl rfl hH d_c6_0 rfl) rfl rfl rfl (dc := 1) (fun _ e => D_X10_isSold_6 e hH r_x1) (fun v8 r_v8 hF => dw_sP hF rfl rfl rfl rfl rfl (dc := 0) (fun _ e => D_X11_bit e (d_R_b r_v8)) (fun v9 r_v9 hF => dw_rI rfl rfl r_v9 hH hF))))))
    refine d_if hF (fun q hF => ?_) (fun q7 hF => ?_)
    · refine dw_ts rfl r_x2 (u := 143) (by rw [q]; rfl) ?_
      exact dw_aln rfl rfl (dw_gr rfl rfl rfl hH d_c2_2 (dw_iln rfl rfl (dw_vP hF rfl (d_vir (n := 2) rfl rfl rfl rfl rfl hH d_c37_0 rfl) rfl rfl rfl (dc := 1) (fun _ e => D_X4_edgeOf e hH r_x1) (fun v10 r_v10 hF => dw_rI rfl rfl r_v10 hH hF))))
    refine d_if hF (fun q hF => ?_) (fun q8 hF => ?_)
    · refine dw_ts rfl r_x2 (u := 152) (by rw [q]; rfl) ?_
      exact dw_aln rfl rfl (dw_gr rfl rfl rfl hH d_c2_2 (dw_aln rfl rfl (dw_gr rfl rfl rfl hH d_c2_0 (dw_iln rfl rfl (dw_vP hF rfl (d_vir (n := 3) rfl rfl rfl rfl rfl hH d_c37_0 rfl) rfl rfl rfl (dc := 2) (fun _ e => D_X4_sightsIn_3 e hH r_x1) (fun v11 r_v11 hF => dw_rI rfl rfl r_v11 hH hF))))))
    refine d_if hF (fun q hF => ?_) (fun q9 hF => ?_)
    · refine dw_ts rfl r_x2 (u := 165) (by rw [q]; rfl) ?_
      exact dw_aln rfl rfl (dw_iln rfl rfl (dw_vI hF rfl (d_vir (n := 2) rfl rfl rfl rfl rfl hH d_c2_0 rfl) rfl rfl rfl (dc := 5) (fun _ _ e => D_X11_meltsNow e hH r_x1) (fun v12 s13 h13 hH13 r_v12 hF => dw_rI rfl rfl r_v12 hH13 hF)))
    refine d_if hF (fun q hF => ?_) (fun q10 hF => ?_)
    · refine dw_ts rfl r_x2 (u := 171) (by rw [q]; rfl) ?_
      exact dw_aln rfl rfl (dw_iln rfl rfl (dw_vI hF rfl (d_vir (n := 2) rfl rfl rfl rfl rfl hH d_c2_0 rfl) rfl rfl rfl (dc := 4) (fun _ _ e => D_X11_sellsNow e hH r_x1) (fun v14 s15 h15 hH15 r_v14 hF => dw_rI rfl rfl r_v14 hH15 hF)))
    refine dw_ts rfl r_x2 (u := 177) (by rw [if_pos (by omega)]; rfl) ?_
    exact dw_ic rfl (dw_rI rfl rfl (d_rl rfl) hH hF)
set_option maxRecDepth 100000 in
noncomputable def F_X11_blockOf_l2_b (s : d_S) (rec : Int → Int → Int → Option (Int)) (x1 : Int) (x2 : Int) (x3 : Int) : Option (Int) :=
  if x3 < (s.1 37 5) then
  d_b (F_X4_leftOf s x3) (fun v1 => d_b (F_X4_topOf s x3) (fun v2 => d_b (F_X4_wideOf s x3) (fun v3 => d_b (F_X11_within (d_w (x1 - v1)) 0 (d_w (v3 - 1))) (fun v4 => if v4 = 0 then
  rec x1 x2 (d_w (x3 + 1))
  else
  d_b (F_X4_highOf s x3) (fun v5 => d_b (F_X11_within (d_w (x2 - v2)) 0 (d_w (v5 - 1))) (fun v6 => if v6 = 0 then
  rec x1 x2 (d_w (x3 + 1))
  else
  some x3))))))
  else
  some (-1)
set_option maxRecDepth 100000 in
noncomputable def F_X11_blockOf_l2 (s : d_S) : Nat → Int → Int → Int → Option (Int)
  | 0 => fun _ _ _ => none
  | n + 1 => F_X11_blockOf_l2_b s (F_X11_blockOf_l2 s n)
set_option maxRecDepth 100000 in
theorem D_X11_blockOf_l2 {t : Nat → Option p_C} {h : p_H} {s : d_S} {r : Int} (hH : d_V t h s) : ∀ (n : Nat) {x1 : Int} {x2 : Int} {x3 : Int} {ls : p_Ls}, F_X11_blockOf_l2 s n x1 x2 x3 = some r → p_lk 0 ls = some (.ref 2) → d_R x1 → p_lk 1 ls = some (.int (Int32.ofInt x1)) → d_R x2 → p_lk 2 ls = some (.int (Int32.ofInt x2)) → d_R x3 → p_lk 3 ls = some (.int (Int32.ofInt x3)) → p_wp p_GT p_MT 2 m_X11_blockOf 2 ls [] h (d_QP h r) := by
  intro n
  induction n with
  | zero =>
    intro x1 x2 x3 ls hF l0 r_x1 l1 r_x2 l2 r_x3 l3
    cases (show (none : Option (Int)) = some r from hF)
  | succ n ih =>
    intro x1 x2 x3 ls hF l0 r_x1 l1 r_x2 l2 r_x3 l3
    have hF : F_X11_blockOf_l2_b s (F_X11_blockOf_l2 s n) x1 x2 x3 = some r := hF
    unfold F_X11_blockOf_l2_b at hF
    refine dw_iln rfl l3 (dw_aln rfl l0 (dw_gr rfl rfl rfl hH d_c2_2 (dw_gi (k := 5) rfl rfl rfl hH d_c37_5 (?_))))
    refine d_if hF (fun q hF => ?_) (fun q hF => ?_)
    · refine dw_ge_y rfl (u := 83) rfl r_x3 hH.r q ?_
      refine dw_iln rfl l1 (dw_aln rfl l0 (dw_gr rfl rfl rfl hH d_c2_2 (dw_iln rfl l3 (dw_vP hF rfl (d_vir (n := 2) rfl rfl rfl rfl rfl hH d_c37_0 rfl) rfl rfl rfl (dc := 1) (fun _ e => D_X4_leftOf e hH r_x3) (fun v1 r_v1 hF => dw_sub rfl (dw_w1 (dw_is rfl rfl (dw_iln rfl (d_s1 l2 rfl (by decide)) (dw_aln rfl (d_s1 l0 rfl (by decide)) (?_))))))))))
      refine dw_gr rfl rfl rfl hH d_c2_2 (dw_iln rfl (d_s1 l3 rfl (by decide)) (dw_vP hF rfl (d_vir (n := 2) rfl rfl rfl rfl rfl hH d_c37_0 rfl) rfl rfl rfl (dc := 1) (fun _ e => D_X4_topOf e hH r_x3) (fun v2 r_v2 hF => dw_sub rfl (dw_w1 (dw_is rfl rfl (dw_il rfl (d_s1 p_lk_s1 rfl (by decide)) (dw_ic rfl (dw_aln rfl (d_s1 (d_s1 l0 rfl (by decide)) rfl (by decide)) (dw_gr rfl rfl rfl hH d_c2_2 (?_))))))))))
      refine dw_iln rfl (d_s1 (d_s1 l3 rfl (by decide)) rfl (by decide)) (dw_vP hF rfl (d_vir (n := 2) rfl rfl rfl rfl rfl hH d_c37_0 rfl) rfl rfl rfl (dc := 1) (fun _ e => D_X4_wideOf e hH r_x3) (fun v3 r_v3 hF => dw_ic rfl (dw_sub rfl (dw_w1 (dw_sB hF rfl rfl rfl rfl rfl (dc := 0) (fun _ e => D_X11_within e d_R_w (d_rl rfl) d_R_w) (fun v4 r_v4 hF => ?_))))))
      refine d_if hF (fun q hF => ?_) (fun q hF => ?_)
      · refine dw_zeq_y rfl (u := 77) rfl (d_R_b r_v4) q ?_
        refine dw_ii rfl (d_s1 (d_s1 l3 rfl (by decide)) rfl (by decide)) rfl (dw_go rfl (u := 2) rfl (?_))
        exact ih hF (d_s1 (d_s1 (d_s1 l0 rfl (by decide)) rfl (by decide)) rfl (by decide)) r_x1 (d_s1 (d_s1 (d_s1 l1 rfl (by decide)) rfl (by decide)) rfl (by decide)) r_x2 (d_s1 (d_s1 (d_s1 l2 rfl (by decide)) rfl (by decide)) rfl (by decide)) d_R_w p_lk_s1
      · refine dw_zeq_n rfl (u := 77) rfl (d_R_b r_v4) q ?_
        refine dw_il rfl p_lk_s1 (dw_ic rfl (dw_aln rfl (d_s1 (d_s1 l0 rfl (by decide)) rfl (by decide)) (dw_gr rfl rfl rfl hH d_c2_2 (dw_iln rfl (d_s1 (d_s1 l3 rfl (by decide)) rfl (by decide)) (dw_vP hF rfl (d_vir (n := 2) rfl rfl rfl rfl rfl hH d_c37_0 rfl) rfl rfl rfl (dc := 1) (fun _ e => D_X4_highOf e hH r_x3) (fun v5 r_v5 hF => dw_ic rfl (dw_sub rfl (dw_w1 (dw_sB hF rfl rfl rfl rfl rfl (dc := 0) (fun _ e => D_X11_within e d_R_w (d_rl rfl) d_R_w) (fun v6 r_v6 hF => ?_))))))))))
        refine d_if hF (fun q hF => ?_) (fun q hF => ?_)
        · refine dw_zeq_y rfl (u := 77) rfl (d_R_b r_v6) q ?_
          refine dw_ii rfl (d_s1 (d_s1 l3 rfl (by decide)) rfl (by decide)) rfl (dw_go rfl (u := 2) rfl (?_))
          exact ih hF (d_s1 (d_s1 (d_s1 l0 rfl (by decide)) rfl (by decide)) rfl (by decide)) r_x1 (d_s1 (d_s1 (d_s1 l1 rfl (by decide)) rfl (by decide)) rfl (by decide)) r_x2 (d_s1 (d_s1 (d_s1 l2 rfl (by decide)) rfl (by decide)) rfl (by decide)) d_R_w p_lk_s1
        · refine dw_zeq_n rfl (u := 77) rfl (d_R_b r_v6) q ?_
          exact dw_iln rfl (d_s1 (d_s1 l3 rfl (by decide)) rfl (by decide)) (dw_rP rfl rfl r_x3 hF)
    · refine dw_ge_n rfl (u := 83) rfl r_x3 hH.r q ?_
      exact dw_ic rfl (dw_rP rfl rfl (d_rl rfl) hF)
set_option maxRecDepth 100000 in
noncomputable def F_X11_blockOf (s : d_S) (x1 : Int) (x2 : Int) : Option (Int) :=
  F_X11_blockOf_l2 s d_N x1 x2 0
set_option maxRecDepth 100000 in
theorem D_X11_blockOf {t : Nat → Option p_C} {h : p_H} {s : d_S} {x1 : Int} {x2 : Int} {r : Int} (hF : F_X11_blockOf s x1 x2 = some r) (hH : d_V t h s) (r_x1 : d_R x1) (r_x2 : d_R x2) : p_wp p_GT p_MT 2 m_X11_blockOf 0 (lv_args 0 [.ref 2, .int (Int32.ofInt x1), .int (Int32.ofInt x2)]) [] h (d_QP h r) := by
  unfold F_X11_blockOf at hF
  refine dw_ic rfl (dw_isn rfl rfl (?_))
  exact D_X11_blockOf_l2 hH _ hF (d_s1 rfl rfl (by decide)) r_x1 (d_s1 rfl rfl (by decide)) r_x2 (d_s1 rfl rfl (by decide)) (d_rl rfl) p_lk_s1
set_option maxRecDepth 100000 in
noncomputable def F_X11_isSight (s : d_S) (x1 : Int) : Option (Int) :=
  d_b (F_X11_within x1 0 (d_w ((s.1 3 3) - 1))) (fun v1 => some v1)
set_option maxRecDepth 100000 in
theorem D_X11_isSight {t : Nat → Option p_C} {h : p_H} {s : d_S} {x1 : Int} {r : Int} (hF : F_X11_isSight s x1 = some r) (hH : d_V t h s) (r_x1 : d_R x1) : p_wp p_GT p_MT 1 m_X11_isSight 0 (lv_args 0 [.ref 2, .int (Int32.ofInt x1)]) [] h (d_QB h r) := by
  unfold F_X11_isSight at hF
  exact dw_iln rfl rfl (dw_ic rfl (dw_aln rfl rfl (dw_gr rfl rfl rfl hH d_c2_0 (dw_gi (k := 3) rfl rfl rfl hH d_c3_3 (dw_ic rfl (dw_sub rfl (dw_w1 (dw_sB hF rfl rfl rfl rfl rfl (dc := 0) (fun _ e => D_X11_within e r_x1 (d_rl rfl) d_R_w) (fun v1 r_v1 hF => dw_rB rfl rfl r_v1 hF)))))))))
set_option maxRecDepth 100000 in
noncomputable def F_X11_linesThrough_j62 (s : d_S) (k5 : Int → Int → Int → Int → Option (Int)) (x1 : Int) (x2 : Int) (x3 : Int) (x4 : Int) (x5 : Int) (y1 : Int) (y2 : Int) : Option (Int) :=
  d_b (F_X9_sightPart_3 s y1 y2) (fun v2 => d_l (d_or x3 (d_shl ((d_shl 1 (v2 - 1)) - 1) x5)) (fun z3 => k5 x1 x2 z3 (d_w (x4 + 1))))
set_option maxRecDepth 100000 in
theorem D_X11_linesThrough_j62 {t : Nat → Option p_C} {h : p_H} {s : d_S} {k5 : Int → Int → Int → Int → Option (Int)} {x1 : Int} {x2 : Int} {x3 : Int} {x4 : Int} {x5 : Int} {y1 : Int} {y2 : Int} {r : Int} {ls : p_Ls} (hF : F_X11_linesThrough_j62 s k5 x1 x2 x3 x4 x5 y1 y2 = some r) (hH : d_V t h s) (l0 : p_lk 0 ls = some (.ref 2)) (r_x1 : d_R x1) (l1 : p_lk 1 ls = some (.int (Int32.ofInt x1))) (r_x2 : d_R x2) (l2 : p_lk 2 ls = some (.int (Int32.ofInt x2))) (r_x3 : d_R x3) (l3 : p_lk 3 ls = some (.int (Int32.ofInt x3))) (r_x4 : d_R x4) (l4 : p_lk 4 ls = some (.int (Int32.ofInt x4))) (r_x5 : d_R x5) (l5 : p_lk 5 ls = some (.int (Int32.ofInt x5))) (r_y1 : d_R y1) (r_y2 : d_R y2) (hk5 : ∀ {x1 : Int} {x2 : Int} {x3 : Int} {x4 : Int} {ls : p_Ls}, k5 x1 x2 x3 x4 = some r → p_lk 0 ls = some (.ref 2) → d_R x1 → p_lk 1 ls = some (.int (Int32.ofInt x1)) → d_R x2 → p_lk 2 ls = some (.int (Int32.ofInt x2)) → d_R x3 → p_lk 3 ls = some (.int (Int32.ofInt x3)) → d_R x4 → p_lk 4 ls = some (.int (Int32.ofInt x4)) → p_wp p_GT p_MT 1 m_X11_linesThrough 5 ls [] h (d_QP h r)) : p_wp p_GT p_MT 1 m_X11_linesThrough 62 ls [.int (Int32.ofInt y2), .int (Int32.ofInt y1), .ref 3] h (d_QP h r) := by
  unfold F_X11_linesThrough_j62 at hF
  refine dw_vP hF rfl (d_vir (n := 3) rfl rfl rfl rfl rfl hH d_c3_0 rfl) rfl rfl rfl (dc := 0) (fun _ e => D_X9_sightPart_3 e hH r_y1 r_y2) (fun v2 r_v2 hF => dw_is rfl rfl (dw_iln rfl (d_s1 l3 rfl (by decide)) (dw_ic rfl (dw_il rfl p_lk_s1 (dw_ic rfl (dw_sub rfl (dw_shl rfl (dw_ic rfl (dw_sub rfl (?_))))))))))
  refine dw_il rfl (d_s1 l5 rfl (by decide)) (dw_shl rfl (dw_or rfl (dw_nm hF d_R_t (fun z3 r_z3 hF => dw_isn rfl rfl (dw_ii rfl (d_s1 (d_s1 l4 rfl (by decide)) rfl (by decide)) rfl (dw_go rfl (u := 5) rfl (?_)))))))
  exact hk5 hF (d_s1 (d_s1 (d_s1 l0 rfl (by decide)) rfl (by decide)) rfl (by decide)) r_x1 (d_s1 (d_s1 (d_s1 l1 rfl (by decide)) rfl (by decide)) rfl (by decide)) r_x2 (d_s1 (d_s1 (d_s1 l2 rfl (by decide)) rfl (by decide)) rfl (by decide)) r_z3 (d_s1 p_lk_s1 rfl (by decide)) d_R_w p_lk_s1
set_option maxRecDepth 100000 in
noncomputable def F_X11_linesThrough_l5_b (s : d_S) (rec : Int → Int → Int → Int → Option (Int)) (x1 : Int) (x2 : Int) (x3 : Int) (x4 : Int) : Option (Int) :=
  if x4 < (s.1 3 3) then
  if (d_and (d_shr x1 x4) 1) = 1 then
  if x2 = 0 then
  d_b (F_X9_sightPart_3 s x4 2) (fun v1 => if x2 = 0 then
  F_X11_linesThrough_j62 s rec x1 x2 x3 x4 v1 x4 4
  else
  F_X11_linesThrough_j62 s rec x1 x2 x3 x4 v1 x4 3)
  else
  d_b (F_X9_sightPart_3 s x4 1) (fun v4 => if x2 = 0 then
  F_X11_linesThrough_j62 s rec x1 x2 x3 x4 v4 x4 4
  else
  F_X11_linesThrough_j62 s rec x1 x2 x3 x4 v4 x4 3)
  else
  rec x1 x2 x3 (d_w (x4 + 1))
  else
  some x3
set_option maxRecDepth 100000 in
noncomputable def F_X11_linesThrough_l5 (s : d_S) : Nat → Int → Int → Int → Int → Option (Int)
  | 0 => fun _ _ _ _ => none
  | n + 1 => F_X11_linesThrough_l5_b s (F_X11_linesThrough_l5 s n)
set_option maxRecDepth 100000 in
theorem D_X11_linesThrough_l5 {t : Nat → Option p_C} {h : p_H} {s : d_S} {r : Int} (hH : d_V t h s) : ∀ (n : Nat) {x1 : Int} {x2 : Int} {x3 : Int} {x4 : Int} {ls : p_Ls}, F_X11_linesThrough_l5 s n x1 x2 x3 x4 = some r → p_lk 0 ls = some (.ref 2) → d_R x1 → p_lk 1 ls = some (.int (Int32.ofInt x1)) → d_R x2 → p_lk 2 ls = some (.int (Int32.ofInt x2)) → d_R x3 → p_lk 3 ls = some (.int (Int32.ofInt x3)) → d_R x4 → p_lk 4 ls = some (.int (Int32.ofInt x4)) → p_wp p_GT p_MT 1 m_X11_linesThrough 5 ls [] h (d_QP h r) := by
  intro n
  induction n with
  | zero =>
    intro x1 x2 x3 x4 ls hF l0 r_x1 l1 r_x2 l2 r_x3 l3 r_x4 l4
    cases (show (none : Option (Int)) = some r from hF)
  | succ n ih =>
    intro x1 x2 x3 x4 ls hF l0 r_x1 l1 r_x2 l2 r_x3 l3 r_x4 l4
    have hF : F_X11_linesThrough_l5_b s (F_X11_linesThrough_l5 s n) x1 x2 x3 x4 = some r := hF
    unfold F_X11_linesThrough_l5_b at hF
    refine dw_il rfl l4 (dw_aln rfl l0 (dw_gr rfl rfl rfl hH d_c2_0 (dw_gi (k := 3) rfl rfl rfl hH d_c3_3 (?_))))
    refine d_if hF (fun q hF => ?_) (fun q hF => ?_)
    · refine dw_ge_y rfl (u := 87) rfl r_x4 hH.r q ?_
      refine dw_iln rfl l1 (dw_il rfl l4 (dw_shr rfl (dw_ic rfl (dw_and rfl (dw_ic rfl (?_))))))
      refine d_if hF (fun q hF => ?_) (fun q hF => ?_)
      · refine dw_ne_y rfl (u := 81) rfl d_R_t (d_rl rfl) q ?_
        refine dw_aln rfl l0 (dw_gr rfl rfl rfl hH d_c2_0 (dw_il rfl l4 (dw_iln rfl l2 (?_))))
        refine d_if hF (fun q hF => ?_) (fun q hF => ?_)
        · refine dw_zeq_y rfl (u := 41) rfl r_x2 q ?_
          refine dw_ic rfl (dw_vP hF rfl (d_vir (n := 3) rfl rfl rfl rfl rfl hH d_c3_0 rfl) rfl rfl rfl (dc := 0) (fun _ e => D_X9_sightPart_3 e hH r_x4 (d_rl rfl)) (fun v1 r_v1 hF => dw_is rfl rfl (dw_aln rfl (d_s1 l0 rfl (by decide)) (dw_gr rfl rfl rfl hH d_c2_0 (dw_il rfl (d_s1 l4 rfl (by decide)) (dw_iln rfl (d_s1 l2 rfl (by decide)) (?_)))))))
          refine d_if hF (fun q hF => ?_) (fun q hF => ?_)
          · refine dw_zeq_y rfl (u := 61) rfl r_x2 q ?_
            refine dw_ic rfl (?_)
            exact D_X11_linesThrough_j62 hF hH (d_s1 l0 rfl (by decide)) r_x1 (d_s1 l1 rfl (by decide)) r_x2 (d_s1 l2 rfl (by decide)) r_x3 (d_s1 l3 rfl (by decide)) r_x4 (d_s1 l4 rfl (by decide)) r_v1 p_lk_s1 r_x4 (d_rl rfl) (fun {x1} {x2} {x3} {x4} {ls} hF l0 r_x1 l1 r_x2 l2 r_x3 l3 r_x4 l4 => ih hF l0 r_x1 l1 r_x2 l2 r_x3 l3 r_x4 l4)
          · refine dw_zeq_n rfl (u := 61) rfl r_x2 q ?_
            refine dw_ic rfl (dw_go rfl (u := 62) rfl (?_))
            exact D_X11_linesThrough_j62 hF hH (d_s1 l0 rfl (by decide)) r_x1 (d_s1 l1 rfl (by decide)) r_x2 (d_s1 l2 rfl (by decide)) r_x3 (d_s1 l3 rfl (by decide)) r_x4 (d_s1 l4 rfl (by decide)) r_v1 p_lk_s1 r_x4 (d_rl rfl) (fun {x1} {x2} {x3} {x4} {ls} hF l0 r_x1 l1 r_x2 l2 r_x3 l3 r_x4 l4 => ih hF l0 r_x1 l1 r_x2 l2 r_x3 l3 r_x4 l4)
        · refine dw_zeq_n rfl (u := 41) rfl r_x2 q ?_
          refine dw_ic rfl (dw_go rfl (u := 42) rfl (dw_vP hF rfl (d_vir (n := 3) rfl rfl rfl rfl rfl hH d_c3_0 rfl) rfl rfl rfl (dc := 0) (fun _ e => D_X9_sightPart_3 e hH r_x4 (d_rl rfl)) (fun v4 r_v4 hF => dw_is rfl rfl (dw_aln rfl (d_s1 l0 rfl (by decide)) (dw_gr rfl rfl rfl hH d_c2_0 (dw_il rfl (d_s1 l4 rfl (by decide)) (dw_iln rfl (d_s1 l2 rfl (by decide)) (?_))))))))
          refine d_if hF (fun q hF => ?_) (fun q hF => ?_)
          · refine dw_zeq_y rfl (u := 61) rfl r_x2 q ?_
            refine dw_ic rfl (?_)
            exact D_X11_linesThrough_j62 hF hH (d_s1 l0 rfl (by decide)) r_x1 (d_s1 l1 rfl (by decide)) r_x2 (d_s1 l2 rfl (by decide)) r_x3 (d_s1 l3 rfl (by decide)) r_x4 (d_s1 l4 rfl (by decide)) r_v4 p_lk_s1 r_x4 (d_rl rfl) (fun {x1} {x2} {x3} {x4} {ls} hF l0 r_x1 l1 r_x2 l2 r_x3 l3 r_x4 l4 => ih hF l0 r_x1 l1 r_x2 l2 r_x3 l3 r_x4 l4)
          · refine dw_zeq_n rfl (u := 61) rfl r_x2 q ?_
            refine dw_ic rfl (dw_go rfl (u := 62) rfl (?_))
            exact D_X11_linesThrough_j62 hF hH (d_s1 l0 rfl (by decide)) r_x1 (d_s1 l1 rfl (by decide)) r_x2 (d_s1 l2 rfl (by decide)) r_x3 (d_s1 l3 rfl (by decide)) r_x4 (d_s1 l4 rfl (by decide)) r_v4 p_lk_s1 r_x4 (d_rl rfl) (fun {x1} {x2} {x3} {x4} {ls} hF l0 r_x1 l1 r_x2 l2 r_x3 l3 r_x4 l4 => ih hF l0 r_x1 l1 r_x2 l2 r_x3 l3 r_x4 l4)
      · refine dw_ne_n rfl (u := 81) rfl d_R_t (d_rl rfl) q ?_
        refine dw_ii rfl l4 rfl (dw_go rfl (u := 5) rfl (?_))
        exact ih hF (d_s1 l0 rfl (by decide)) r_x1 (d_s1 l1 rfl (by decide)) r_x2 (d_s1 l2 rfl (by decide)) r_x3 (d_s1 l3 rfl (by decide)) d_R_w p_lk_s1
    · refine dw_ge_n rfl (u := 87) rfl r_x4 hH.r q ?_
      exact dw_iln rfl l3 (dw_rP rfl rfl r_x3 hF)
set_option maxRecDepth 100000 in
noncomputable def F_X11_linesThrough (s : d_S) (x1 : Int) (x2 : Int) : Option (Int) :=
  F_X11_linesThrough_l5 s d_N x1 x2 0 0
set_option maxRecDepth 100000 in
theorem D_X11_linesThrough {t : Nat → Option p_C} {h : p_H} {s : d_S} {x1 : Int} {x2 : Int} {r : Int} (hF : F_X11_linesThrough s x1 x2 = some r) (hH : d_V t h s) (r_x1 : d_R x1) (r_x2 : d_R x2) : p_wp p_GT p_MT 1 m_X11_linesThrough 0 (lv_args 0 [.ref 2, .int (Int32.ofInt x1), .int (Int32.ofInt x2)]) [] h (d_QP h r) := by
  unfold F_X11_linesThrough at hF
  refine dw_ic rfl (dw_isn rfl rfl (dw_ic rfl (dw_is rfl rfl (?_))))
  exact D_X11_linesThrough_l5 hH _ hF (d_s1 (d_s1 rfl rfl (by decide)) rfl (by decide)) r_x1 (d_s1 (d_s1 rfl rfl (by decide)) rfl (by decide)) r_x2 (d_s1 (d_s1 rfl rfl (by decide)) rfl (by decide)) (d_rl rfl) (d_s1 p_lk_s1 rfl (by decide)) (d_rl rfl) p_lk_s1
set_option maxRecDepth 100000 in
noncomputable def F_X11_wholeSights_j59 (s : d_S) (k4 : Int → Int → Option (Int)) (x1 : Int) (x2 : Int) : Option (Int) :=
  d_b (F_X11_bit 0) (fun v4 => k4 (d_or x1 (d_shl v4 x2)) (d_w (x2 + 1)))
set_option maxRecDepth 100000 in
theorem D_X11_wholeSights_j59 {t : Nat → Option p_C} {h : p_H} {s : d_S} {k4 : Int → Int → Option (Int)} {x1 : Int} {x2 : Int} {r : Int} {ls : p_Ls} (hF : F_X11_wholeSights_j59 s k4 x1 x2 = some r) (hH : d_V t h s) (l0 : p_lk 0 ls = some (.ref 2)) (r_x1 : d_R x1) (l1 : p_lk 1 ls = some (.int (Int32.ofInt x1))) (r_x2 : d_R x2) (l2 : p_lk 2 ls = some (.int (Int32.ofInt x2))) (hk4 : ∀ {x1 : Int} {x2 : Int} {ls : p_Ls}, k4 x1 x2 = some r → p_lk 0 ls = some (.ref 2) → d_R x1 → p_lk 1 ls = some (.int (Int32.ofInt x1)) → d_R x2 → p_lk 2 ls = some (.int (Int32.ofInt x2)) → p_wp p_GT p_MT 2 m_X11_wholeSights 4 ls [] h (d_QP h r)) : p_wp p_GT p_MT 2 m_X11_wholeSights 59 ls [] h (d_QP h r) := by
  unfold F_X11_wholeSights_j59 at hF
  refine dw_ic rfl (dw_go rfl (u := 64) rfl (dw_isn rfl rfl (dw_iln rfl (d_s1 l1 rfl (by decide)) (dw_iln rfl p_lk_s1 (dw_zne_n rfl (u := 74) rfl (d_rl rfl) (by decide) (dw_ic rfl (dw_sP hF rfl rfl rfl rfl rfl (dc := 0) (fun _ e => D_X11_bit e (d_rl rfl)) (fun v4 r_v4 hF => dw_iln rfl (d_s1 l2 rfl (by decide)) (dw_shl rfl (?_))))))))))
  refine dw_or rfl (dw_isn rfl rfl (dw_ii rfl (d_s1 (d_s1 l2 rfl (by decide)) rfl (by decide)) rfl (dw_go rfl (u := 4) rfl (?_))))
  exact hk4 hF (d_s1 (d_s1 (d_s1 l0 rfl (by decide)) rfl (by decide)) rfl (by decide)) d_R_t (d_s1 p_lk_s1 rfl (by decide)) d_R_w p_lk_s1
set_option maxRecDepth 100000 in
noncomputable def F_X11_wholeSights_l4_b (s : d_S) (rec : Int → Int → Option (Int)) (x1 : Int) (x2 : Int) : Option (Int) :=
  if x2 < (s.1 3 3) then
  d_b (F_X11_linesThrough s (d_shl 1 x2) 1) (fun v1 => if (d_and (s.1 6 0) v1) = 0 then
  d_b (F_X11_linesThrough s (d_shl 1 x2) 0) (fun v2 => if (d_and (s.1 6 1) v2) = 0 then
  d_b (F_X11_bit 1) (fun v3 => rec (d_or x1 (d_shl v3 x2)) (d_w (x2 + 1)))
  else
  F_X11_wholeSights_j59 s rec x1 x2)
  else
  F_X11_wholeSights_j59 s rec x1 x2)
  else
  some x1
set_option maxRecDepth 100000 in
noncomputable def F_X11_wholeSights_l4 (s : d_S) : Nat → Int → Int → Option (Int)
  | 0 => fun _ _ => none
  | n + 1 => F_X11_wholeSights_l4_b s (F_X11_wholeSights_l4 s n)
set_option maxRecDepth 100000 in
theorem D_X11_wholeSights_l4 {t : Nat → Option p_C} {h : p_H} {s : d_S} {r : Int} (hH : d_V t h s) : ∀ (n : Nat) {x1 : Int} {x2 : Int} {ls : p_Ls}, F_X11_wholeSights_l4 s n x1 x2 = some r → p_lk 0 ls = some (.ref 2) → d_R x1 → p_lk 1 ls = some (.int (Int32.ofInt x1)) → d_R x2 → p_lk 2 ls = some (.int (Int32.ofInt x2)) → p_wp p_GT p_MT 2 m_X11_wholeSights 4 ls [] h (d_QP h r) := by
  intro n
  induction n with
  | zero =>
    intro x1 x2 ls hF l0 r_x1 l1 r_x2 l2
    cases (show (none : Option (Int)) = some r from hF)
  | succ n ih =>
    intro x1 x2 ls hF l0 r_x1 l1 r_x2 l2
    have hF : F_X11_wholeSights_l4_b s (F_X11_wholeSights_l4 s n) x1 x2 = some r := hF
    unfold F_X11_wholeSights_l4_b at hF
    refine dw_iln rfl l2 (dw_aln rfl l0 (dw_gr rfl rfl rfl hH d_c2_0 (dw_gi (k := 3) rfl rfl rfl hH d_c3_3 (?_))))
    refine d_if hF (fun q hF => ?_) (fun q hF => ?_)
    · refine dw_ge_y rfl (u := 88) rfl r_x2 hH.r q ?_
      refine dw_aln rfl l0 (dw_gr rfl rfl rfl hH d_c2_0 (dw_gr rfl rfl rfl hH d_c3_8 (dw_gi (k := 0) rfl rfl rfl hH d_c6_0 (dw_aln rfl l0 (dw_ic rfl (dw_iln rfl l2 (dw_shl rfl (dw_ic rfl (dw_vP hF rfl (d_vir (n := 3) rfl rfl rfl rfl rfl hH d_c2_0 rfl) rfl rfl rfl (dc := 1) (fun _ e => D_X11_linesThrough e hH d_R_t (d_rl rfl)) (fun v1 r_v1 hF => ?_))))))))))
      refine dw_and rfl (?_)
      refine d_if hF (fun q hF => ?_) (fun q hF => ?_)
      · refine dw_zne_y rfl (u := 59) rfl d_R_t q ?_
        refine dw_aln rfl l0 (dw_gr rfl rfl rfl hH d_c2_0 (dw_gr rfl rfl rfl hH d_c3_8 (dw_gi (k := 1) rfl rfl rfl hH d_c6_1 (dw_aln rfl l0 (dw_ic rfl (dw_iln rfl l2 (dw_shl rfl (dw_ic rfl (dw_vP hF rfl (d_vir (n := 3) rfl rfl rfl rfl rfl hH d_c2_0 rfl) rfl rfl rfl (dc := 1) (fun _ e => D_X11_linesThrough e hH d_R_t (d_rl rfl)) (fun v2 r_v2 hF => ?_))))))))))
        refine dw_and rfl (?_)
        refine d_if hF (fun q hF => ?_) (fun q hF => ?_)
        · refine dw_zeq_y rfl (u := 63) rfl d_R_t q ?_
          refine dw_ic rfl (dw_isn rfl rfl (dw_iln rfl (d_s1 l1 rfl (by decide)) (dw_iln rfl p_lk_s1 (dw_zne_y rfl (u := 74) rfl (d_rl rfl) (by decide) (dw_ic rfl (dw_go rfl (u := 75) rfl (dw_sP hF rfl rfl rfl rfl rfl (dc := 0) (fun _ e => D_X11_bit e (d_rl rfl)) (fun v3 r_v3 hF => dw_iln rfl (d_s1 l2 rfl (by decide)) (dw_shl rfl (?_))))))))))
          refine dw_or rfl (dw_isn rfl rfl (dw_ii rfl (d_s1 (d_s1 l2 rfl (by decide)) rfl (by decide)) rfl (dw_go rfl (u := 4) rfl (?_))))
          exact ih hF (d_s1 (d_s1 (d_s1 l0 rfl (by decide)) rfl (by decide)) rfl (by decide)) d_R_t (d_s1 p_lk_s1 rfl (by decide)) d_R_w p_lk_s1
        · refine dw_zeq_n rfl (u := 63) rfl d_R_t q ?_
          exact D_X11_wholeSights_j59 hF hH l0 r_x1 l1 r_x2 l2 (fun {x1} {x2} {ls} hF l0 r_x1 l1 r_x2 l2 => ih hF l0 r_x1 l1 r_x2 l2)
      · refine dw_zne_n rfl (u := 59) rfl d_R_t q ?_
        exact D_X11_wholeSights_j59 hF hH l0 r_x1 l1 r_x2 l2 (fun {x1} {x2} {ls} hF l0 r_x1 l1 r_x2 l2 => ih hF l0 r_x1 l1 r_x2 l2)
    · refine dw_ge_n rfl (u := 88) rfl r_x2 hH.r q ?_
      exact dw_iln rfl l1 (dw_rP rfl rfl r_x1 hF)
set_option maxRecDepth 100000 in
noncomputable def F_X11_wholeSights (s : d_S) : Option (Int) :=
  F_X11_wholeSights_l4 s d_N 0 0
set_option maxRecDepth 100000 in
theorem D_X11_wholeSights {t : Nat → Option p_C} {h : p_H} {s : d_S} {r : Int} (hF : F_X11_wholeSights s = some r) (hH : d_V t h s) : p_wp p_GT p_MT 2 m_X11_wholeSights 0 (lv_args 0 [.ref 2]) [] h (d_QP h r) := by
  unfold F_X11_wholeSights at hF
  refine dw_ic rfl (dw_isn rfl rfl (dw_ic rfl (dw_isn rfl rfl (?_))))
  exact D_X11_wholeSights_l4 hH _ hF (d_s1 (d_s1 rfl rfl (by decide)) rfl (by decide)) (d_rl rfl) (d_s1 p_lk_s1 rfl (by decide)) (d_rl rfl) p_lk_s1

set_option maxRecDepth 100000 in
noncomputable def F_X11_by_j18 (x1 : Int) (s : d_S) : Option (Int × d_S) :=
  d_l (d_si s 3 6 x1) (fun s1 => some (1, s1))
set_option maxRecDepth 100000 in
theorem D_X11_by_j18 {t : Nat → Option p_C} {h : p_H} {s : d_S} {x1 : Int} {r : Int × d_S} {ls : p_Ls} (hF : F_X11_by_j18 x1 s = some r) (hH : d_V t h s) (l0 : p_lk 0 ls = some (.ref 2)) (r_x1 : d_R x1) (l1 : p_lk 1 ls = some (.int (Int32.ofInt x1))) : p_wp p_GT p_MT 1 m_X11_by 18 ls [] h (d_QC t r) := by
  unfold F_X11_by_j18 at hF
  exact dw_aln rfl l0 (dw_gr rfl rfl rfl hH d_c2_0 (dw_iln rfl l1 (dw_pi (k := 6) rfl rfl rfl rfl hH d_c3_6 r_x1 (by decide) hF (fun s1 h1 hH1 hF => dw_ic rfl (dw_rC rfl rfl (Or.inr rfl) hH1 hF)))))
set_option maxRecDepth 100000 in
noncomputable def F_X11_by (s : d_S) (x1 : Int) : Option (Int × d_S) :=
  if x1 = (-1) then
  F_X11_by_j18 x1 s
  else
  d_b (F_X9_textAt_3 s x1) (fun v2 => match v2 with
  | none =>
  some (0, s)
  | some b3 =>
  F_X11_by_j18 x1 s)
set_option maxRecDepth 100000 in
theorem D_X11_by {t : Nat → Option p_C} {h : p_H} {s : d_S} {x1 : Int} {r : Int × d_S} (hF : F_X11_by s x1 = some r) (hH : d_V t h s) (r_x1 : d_R x1) : p_wp p_GT p_MT 1 m_X11_by 0 (lv_args 0 [.ref 2, .int (Int32.ofInt x1)]) [] h (d_QC t r) := by
  unfold F_X11_by at hF
  refine dw_iln rfl rfl (dw_ic rfl (?_))
  refine d_if hF (fun q hF => ?_) (fun q hF => ?_)
  · refine dw_eq_y rfl (u := 18) rfl r_x1 (d_rl rfl) q ?_
    exact D_X11_by_j18 hF hH rfl r_x1 rfl
  · refine dw_eq_n rfl (u := 18) rfl r_x1 (d_rl rfl) q ?_
    refine dw_aln rfl rfl (dw_gr rfl rfl rfl hH d_c2_0 (dw_iln rfl rfl (dw_vO hF rfl (d_vir (n := 2) rfl rfl rfl rfl rfl hH d_c3_0 rfl) rfl rfl rfl (dc := 0) (fun _ e => D_X9_textAt_3 e hH r_x1) (fun v2 r_v2 hF => ?_))))
    refine d_ifo (α := Int) hF (fun q hF => ?_) (fun b3 q hF => ?_)
    · refine dw_nnn rfl q ?_
      exact dw_ic rfl (dw_rC rfl rfl (Or.inl rfl) hH hF)
    · refine dw_nns rfl (u := 18) rfl q ?_
      exact D_X11_by_j18 hF hH rfl r_x1 rfl
set_option maxRecDepth 100000 in
noncomputable def F_X10_isUntouched_6_l2_b (s : d_S) (rec : Int → Option (Int)) (x1 : Int) : Option (Int) :=
  if x1 < 64 then
  d_g (0 ≤ x1 ∧ x1 < 64) (if (s.1 7 (x1.toNat)) = 0 then
  rec (d_w (x1 + 1))
  else
  some 0)
  else
  some 1
set_option maxRecDepth 100000 in
noncomputable def F_X10_isUntouched_6_l2 (s : d_S) : Nat → Int → Option (Int)
  | 0 => fun _ => none
  | n + 1 => F_X10_isUntouched_6_l2_b s (F_X10_isUntouched_6_l2 s n)
set_option maxRecDepth 100000 in
theorem D_X10_isUntouched_6_l2 {t : Nat → Option p_C} {h : p_H} {s : d_S} {r : Int} (hH : d_V t h s) : ∀ (n : Nat) {x1 : Int} {ls : p_Ls}, F_X10_isUntouched_6_l2 s n x1 = some r → p_lk 0 ls = some (.ref 6) → d_R x1 → p_lk 1 ls = some (.int (Int32.ofInt x1)) → p_wp p_GT p_MT 0 m_X10_isUntouched 2 ls [] h (d_QB h r) := by
  intro n
  induction n with
  | zero =>
    intro x1 ls hF l0 r_x1 l1
    cases (show (none : Option (Int)) = some r from hF)
  | succ n ih =>
    intro x1 ls hF l0 r_x1 l1
    have hF : F_X10_isUntouched_6_l2_b s (F_X10_isUntouched_6_l2 s n) x1 = some r := hF
    unfold F_X10_isUntouched_6_l2_b at hF
    refine dw_iln rfl l1 (dw_aln rfl l0 (dw_gr rfl rfl rfl hH d_c6_7 (dw_len rfl hH d_a7 rfl (z := 64) rfl (?_))))
    refine d_if hF (fun q hF => ?_) (fun q hF => ?_)
    · refine dw_ge_y rfl (u := 28) rfl r_x1 (d_rl rfl) q ?_
      refine dw_aln rfl l0 (dw_gr rfl rfl rfl hH d_c6_7 (dw_iln rfl l1 (d_gd hF (fun g1 hF => dw_ald rfl hH d_a7 rfl g1.1 g1.2 r_x1 rfl (?_)))))
      refine d_if hF (fun q hF => ?_) (fun q hF => ?_)
      · refine dw_zeq_y rfl (u := 22) rfl hH.r q ?_
        refine dw_ii rfl l1 rfl (dw_go rfl (u := 2) rfl (?_))
        exact ih hF (d_s1 l0 rfl (by decide)) d_R_w p_lk_s1
      · refine dw_zeq_n rfl (u := 22) rfl hH.r q ?_
        exact dw_ic rfl (dw_rB rfl rfl (Or.inl rfl) hF)
    · refine dw_ge_n rfl (u := 28) rfl r_x1 (d_rl rfl) q ?_
      exact dw_ic rfl (dw_rB rfl rfl (Or.inr rfl) hF)
set_option maxRecDepth 100000 in
noncomputable def F_X10_isUntouched_6 (s : d_S) : Option (Int) :=
  F_X10_isUntouched_6_l2 s d_N 0
set_option maxRecDepth 100000 in
theorem D_X10_isUntouched_6 {t : Nat → Option p_C} {h : p_H} {s : d_S} {r : Int} (hF : F_X10_isUntouched_6 s = some r) (hH : d_V t h s) : p_wp p_GT p_MT 0 m_X10_isUntouched 0 (lv_args 0 [.ref 6]) [] h (d_QB h r) := by
  unfold F_X10_isUntouched_6 at hF
  refine dw_ic rfl (dw_isn rfl rfl (?_))
  exact D_X10_isUntouched_6_l2 hH _ hF (d_s1 rfl rfl (by decide)) (d_rl rfl) p_lk_s1
set_option maxRecDepth 100000 in
noncomputable def F_X10_writeTo_6_9 (s : d_S) (x2 : Int) : Option (d_S) :=
  if x2 < 0 then
  some s
  else
  if 2130 < (d_w (x2 + 71)) then
  some s
  else
  d_g (0 ≤ x2 ∧ x2 < 2130) (d_l (d_si s 9 ((x2).toNat) (s.1 6 0)) (fun s2 => d_g (0 ≤ (d_w (x2 + 1)) ∧ (d_w (x2 + 1)) < 2130) (d_l (d_si s2 9 (((d_w (x2 + 1))).toNat) (s2.1 6 1)) (fun s4 => d_g (0 ≤ (d_w (x2 + 2)) ∧ (d_w (x2 + 2)) < 2130) (d_l (d_si s4 9 (((d_w (x2 + 2))).toNat) (s4.1 6 2)) (fun s6 => d_g (0 ≤ (d_w (x2 + 3)) ∧ (d_w (x2 + 3)) < 2130) (d_l (d_si s6 9 (((d_w (x2 + 3))).toNat) (s6.1 6 3)) (fun s8 => d_g (0 ≤ (d_w (x2 + 4)) ∧ (d_w (x2 + 4)) < 2130) (d_l (d_si s8 9 (((d_w (x2 + 4))).toNat) (s8.1 6 4)) (fun s10 => d_g (0 ≤ (d_w (x2 + 5)) ∧ (d_w (x2 + 5)) < 2130) (d_l (d_si s10 9 (((d_w (x2 + 5))).toNat) (s10.1 6 5)) (fun s12 => d_g (0 ≤ (d_w (x2 + 6)) ∧ (d_w (x2 + 6)) < 2130) (d_l (d_si s12 9 (((d_w (x2 + 6))).toNat) (s12.1 6 6)) (fun s14 => d_g ((0 : Int) ≤ 0 ∧ (0 : Int) ≤ (d_w (x2 + 7)) ∧ (0 : Int) ≤ 64 ∧ (0 : Int) + 64 ≤ 64 ∧ (d_w (x2 + 7)) + 64 ≤ 2130) (d_l (d_cp s14 7 0 9 ((d_w (x2 + 7))).toNat 64) (fun s16 => some s16))))))))))))))))
set_option maxRecDepth 100000 in
theorem D_X10_writeTo_6_9 {t : Nat → Option p_C} {h : p_H} {s : d_S} {x2 : Int} {r : d_S} (hF : F_X10_writeTo_6_9 s x2 = some r) (hH : d_V t h s) (r_x2 : d_R x2) : p_wp p_GT p_MT 0 m_X10_writeTo 0 (lv_args 0 [.ref 6, .ref 9, .int (Int32.ofInt x2)]) [] h (d_QV t r) := by
  unfold F_X10_writeTo_6_9 at hF
  refine dw_iln rfl rfl (?_)
  refine d_if hF (fun q hF => ?_) (fun q hF => ?_)
  · refine dw_zlt_y rfl (u := 13) rfl r_x2 q ?_
    exact dw_rV rfl rfl hH hF
  · refine dw_zlt_n rfl (u := 13) rfl r_x2 q ?_
    refine dw_iln rfl rfl (dw_bp rfl rfl (dw_add rfl (dw_aln rfl rfl (dw_len rfl hH d_a9 rfl (z := 2130) rfl (dw_w2 (?_))))))
    refine d_if hF (fun q hF => ?_) (fun q hF => ?_)
    · refine dw_le_y rfl (u := 14) rfl d_R_w (d_rl rfl) q ?_
      exact dw_rV rfl rfl hH hF
    · refine dw_le_n rfl (u := 14) rfl d_R_w (d_rl rfl) q ?_
      refine dw_aln rfl rfl (dw_iln rfl rfl (dw_aln rfl rfl (dw_gi (k := 0) rfl rfl rfl hH d_c6_0 (d_gd hF (fun g1 hF => dw_ast rfl hH d_a9 g1.1 g1.2 r_x2 rfl hH.r hF (fun s2 h2 hH2 hF => dw_aln rfl rfl (dw_iln rfl rfl (dw_ic rfl (dw_add rfl (?_))))))))))
      refine dw_aln rfl rfl (dw_gi (k := 1) rfl rfl rfl hH2 d_c6_1 (dw_w2 (d_gd hF (fun g3 hF => dw_ast rfl hH2 d_a9 g3.1 g3.2 d_R_w rfl hH2.r hF (fun s4 h4 hH4 hF => dw_aln rfl rfl (dw_iln rfl rfl (dw_ic rfl (dw_add rfl (dw_aln rfl rfl (?_))))))))))
      refine dw_gi (k := 2) rfl rfl rfl hH4 d_c6_2 (dw_w2 (d_gd hF (fun g5 hF => dw_ast rfl hH4 d_a9 g5.1 g5.2 d_R_w rfl hH4.r hF (fun s6 h6 hH6 hF => dw_aln rfl rfl (dw_iln rfl rfl (dw_ic rfl (dw_add rfl (dw_aln rfl rfl (dw_gi (k := 3) rfl rfl rfl hH6 d_c6_3 (?_))))))))))
      refine dw_w2 (d_gd hF (fun g7 hF => dw_ast rfl hH6 d_a9 g7.1 g7.2 d_R_w rfl hH6.r hF (fun s8 h8 hH8 hF => dw_aln rfl rfl (dw_iln rfl rfl (dw_ic rfl (dw_add rfl (dw_aln rfl rfl (dw_gi (k := 4) rfl rfl rfl hH8 d_c6_4 (dw_w2 (?_))))))))))
      refine d_gd hF (fun g9 hF => dw_ast rfl hH8 d_a9 g9.1 g9.2 d_R_w rfl hH8.r hF (fun s10 h10 hH10 hF => dw_aln rfl rfl (dw_iln rfl rfl (dw_ic rfl (dw_add rfl (dw_aln rfl rfl (dw_gi (k := 5) rfl rfl rfl hH10 d_c6_5 (dw_w2 (d_gd hF (fun g11 hF => ?_))))))))))
      refine dw_ast rfl hH10 d_a9 g11.1 g11.2 d_R_w rfl hH10.r hF (fun s12 h12 hH12 hF => dw_aln rfl rfl (dw_iln rfl rfl (dw_bp rfl rfl (dw_add rfl (dw_aln rfl rfl (dw_gi (k := 6) rfl rfl rfl hH12 d_c6_6 (dw_w2 (d_gd hF (fun g13 hF => dw_ast rfl hH12 d_a9 g13.1 g13.2 d_R_w rfl hH12.r hF (fun s14 h14 hH14 hF => ?_))))))))))
      refine dw_aln rfl rfl (dw_gr rfl rfl rfl hH14 d_c6_7 (dw_ic rfl (dw_aln rfl rfl (dw_iln rfl rfl (dw_bp rfl rfl (dw_add rfl (dw_aln rfl rfl (dw_gr rfl rfl rfl hH14 d_c6_7 (dw_len rfl hH14 d_a7 rfl (z := 64) rfl (?_))))))))))
      exact dw_w2 (d_gd hF (fun g15 hF => dw_cpy rfl rfl hH14 d_a7 d_a9 (d_rl rfl) d_R_w (d_rl rfl) g15 rfl hF (fun s16 h16 hH16 hF => dw_rV rfl rfl hH16 hF)))
set_option maxRecDepth 100000 in
noncomputable def F_J9_min_7cf53 (x0 : Int) (x1 : Int) : Option (Int) :=
  if x1 < x0 then
  some x1
  else
  some x0
set_option maxRecDepth 100000 in
theorem D_J9_min_7cf53 {h : p_H} {x0 : Int} {x1 : Int} {r : Int} (hF : F_J9_min_7cf53 x0 x1 = some r) (r_x0 : d_R x0) (r_x1 : d_R x1) : p_wp p_GT p_MT 0 m_J9_min_7cf53 0 (lv_args 0 [.int (Int32.ofInt x0), .int (Int32.ofInt x1)]) [] h (d_QP h r) := by
  unfold F_J9_min_7cf53 at hF
  refine dw_iln rfl rfl (dw_iln rfl rfl (?_))
  refine d_if hF (fun q hF => ?_) (fun q hF => ?_)
  · refine dw_gt_y rfl (u := 9) rfl r_x0 r_x1 q ?_
    exact dw_iln rfl rfl (dw_rP rfl rfl r_x1 hF)
  · refine dw_gt_n rfl (u := 9) rfl r_x0 r_x1 q ?_
    exact dw_iln rfl rfl (dw_go rfl (u := 10) rfl (dw_rP rfl rfl r_x0 hF))
set_option maxRecDepth 100000 in
noncomputable def F_X6_keep_8_6 (s : d_S) : Option (d_S) :=
  d_b (F_X10_writeTo_6_9 s (d_w ((s.1 8 1) * 71))) (fun s1 => d_l (d_si s1 8 1 (d_rem ((s1.1 8 1) + 1) 30)) (fun s2 => d_b (F_J9_min_7cf53 30 (d_w ((s2.1 8 2) + 1))) (fun v3 => d_l (d_si s2 8 2 v3) (fun s4 => some s4))))
set_option maxRecDepth 100000 in
theorem D_X6_keep_8_6 {t : Nat → Option p_C} {h : p_H} {s : d_S} {r : d_S} (hF : F_X6_keep_8_6 s = some r) (hH : d_V t h s) : p_wp p_GT p_MT 1 m_X6_keep 0 (lv_args 0 [.ref 8, .ref 6]) [] h (d_QV t r) := by
  unfold F_X6_keep_8_6 at hF
  refine dw_aln rfl rfl (dw_aln rfl rfl (dw_gr rfl rfl rfl hH d_c8_0 (dw_aln rfl rfl (dw_gi (k := 1) rfl rfl rfl hH d_c8_1 (dw_bp rfl rfl (dw_mul rfl (dw_w1 (dw_vV hF rfl (d_vir (n := 3) rfl rfl rfl rfl rfl hH d_c6_0 rfl) rfl rfl rfl (dc := 0) (fun _ e => D_X10_writeTo_6_9 e hH d_R_w) (fun s1 h1 hH1 hF => dw_aln rfl rfl (?_))))))))))
  refine dw_aln rfl rfl (dw_gi (k := 1) rfl rfl rfl hH1 d_c8_1 (dw_ic rfl (dw_add rfl (dw_bp rfl rfl (dw_rem rfl (d_rl rfl) (by decide) (dw_pi (k := 1) rfl rfl rfl rfl hH1 d_c8_1 d_R_t (by decide) hF (fun s2 h2 hH2 hF => dw_aln rfl rfl (dw_bp rfl rfl (dw_aln rfl rfl (?_))))))))))
  exact dw_gi (k := 2) rfl rfl rfl hH2 d_c8_2 (dw_ic rfl (dw_add rfl (dw_w1 (dw_sP hF rfl rfl rfl rfl rfl (dc := 0) (fun _ e => D_J9_min_7cf53 e (d_rl rfl) d_R_w) (fun v3 r_v3 hF => dw_pi (k := 2) rfl rfl rfl rfl hH2 d_c8_2 r_v3 (by decide) hF (fun s4 h4 hH4 hF => dw_rV rfl rfl hH4 hF))))))
set_option maxRecDepth 100000 in
noncomputable def F_X11_sawThrough_j127 (s : d_S) : Option (Int × d_S) :=
  d_b (F_X4_lay_3 s) (fun s5 => some (1, s5))
set_option maxRecDepth 100000 in
theorem D_X11_sawThrough_j127 {t : Nat → Option p_C} {h : p_H} {s : d_S} {r : Int × d_S} {ls : p_Ls} (hF : F_X11_sawThrough_j127 s = some r) (hH : d_V t h s) (l0 : p_lk 0 ls = some (.ref 2)) : p_wp p_GT p_MT 3 m_X11_sawThrough 127 ls [] h (d_QC t r) := by
  unfold F_X11_sawThrough_j127 at hF
  exact dw_aln rfl l0 (dw_gr rfl rfl rfl hH d_c2_2 (dw_aln rfl l0 (dw_gr rfl rfl rfl hH d_c2_0 (dw_vV hF rfl (d_vir (n := 2) rfl rfl rfl rfl rfl hH d_c37_0 rfl) rfl rfl rfl (dc := 2) (fun _ e => D_X4_lay_3 e hH) (fun s5 h5 hH5 hF => dw_ic rfl (dw_rC rfl rfl (Or.inr rfl) hH5 hF))))))
set_option maxRecDepth 100000 in
noncomputable def F_X11_sawThrough_j56 (x1 : Int) (x2 : Int) (y0 : Int) (s : d_S) : Option (Int × d_S) :=
  if (d_and (d_shr y0 x1) 1) = 1 then
  some (0, s)
  else
  d_b (F_X10_isUntouched_6 s) (fun v2 => if v2 = 0 then
  some (0, s)
  else
  d_b (F_X6_keep_8_6 s) (fun s3 => if x2 = 0 then
  d_l (d_si s3 6 1 (d_or (s3.1 6 1) (d_shl 1 x1))) (fun s4 => F_X11_sawThrough_j127 s4)
  else
  d_l (d_si s3 6 0 (d_or (s3.1 6 0) (d_shl 1 x1))) (fun s6 => F_X11_sawThrough_j127 s6)))
set_option maxRecDepth 100000 in
theorem D_X11_sawThrough_j56 {t : Nat → Option p_C} {h : p_H} {s : d_S} {x1 : Int} {x2 : Int} {y0 : Int} {r : Int × d_S} {ls : p_Ls} (hF : F_X11_sawThrough_j56 x1 x2 y0 s = some r) (hH : d_V t h s) (l0 : p_lk 0 ls = some (.ref 2)) (r_x1 : d_R x1) (l1 : p_lk 1 ls = some (.int (Int32.ofInt x1))) (r_x2 : d_R x2) (l2 : p_lk 2 ls = some (.int (Int32.ofInt x2))) (l3 : p_lk 3 ls = some (.ref 6)) (r_y0 : d_R y0) : p_wp p_GT p_MT 3 m_X11_sawThrough 56 ls [.int (Int32.ofInt y0)] h (d_QC t r) := by
  unfold F_X11_sawThrough_j56 at hF
  refine dw_iln rfl l1 (dw_shr rfl (dw_ic rfl (dw_and rfl (dw_ic rfl (?_)))))
  refine d_if hF (fun q hF => ?_) (fun q hF => ?_)
  · refine dw_ne_y rfl (u := 68) rfl d_R_t (d_rl rfl) q ?_
    exact dw_ic rfl (dw_go rfl (u := 69) rfl (dw_is rfl rfl (dw_il rfl p_lk_s1 (dw_zne_n rfl (u := 83) rfl (d_rl rfl) (by decide) (dw_ic rfl (dw_rC rfl rfl (Or.inl rfl) hH hF))))))
  · refine dw_ne_n rfl (u := 68) rfl d_R_t (d_rl rfl) q ?_
    refine dw_ic rfl (dw_is rfl rfl (dw_il rfl p_lk_s1 (dw_zne_y rfl (u := 83) rfl (d_rl rfl) (by decide) (dw_aln rfl (d_s1 l3 rfl (by decide)) (dw_vB hF rfl (d_vir (n := 1) rfl rfl rfl rfl rfl hH d_c6_0 rfl) rfl rfl rfl (dc := 0) (fun _ e => D_X10_isUntouched_6 e hH) (fun v2 r_v2 hF => ?_))))))
    refine d_if hF (fun q hF => ?_) (fun q hF => ?_)
    · refine dw_zne_y rfl (u := 85) rfl (d_R_b r_v2) q ?_
      exact dw_ic rfl (dw_rC rfl rfl (Or.inl rfl) hH hF)
    · refine dw_zne_n rfl (u := 85) rfl (d_R_b r_v2) q ?_
      refine dw_aln rfl (d_s1 l0 rfl (by decide)) (dw_gr rfl rfl rfl hH d_c2_0 (dw_gr rfl rfl rfl hH d_c3_9 (dw_aln rfl (d_s1 l3 rfl (by decide)) (dw_vV hF rfl (d_vir (n := 2) rfl rfl rfl rfl rfl hH d_c8_0 rfl) rfl rfl rfl (dc := 1) (fun _ e => D_X6_keep_8_6 e hH) (fun s3 h3 hH3 hF => dw_iln rfl (d_s1 l2 rfl (by decide)) (?_))))))
      refine d_if hF (fun q hF => ?_) (fun q hF => ?_)
      · refine dw_zeq_y rfl (u := 115) rfl r_x2 q ?_
        refine dw_aln rfl (d_s1 l3 rfl (by decide)) (dw_dupr rfl (dw_gi (k := 1) rfl rfl rfl hH3 d_c6_1 (dw_ic rfl (dw_iln rfl (d_s1 l1 rfl (by decide)) (dw_shl rfl (dw_or rfl (dw_pi (k := 1) rfl rfl rfl rfl hH3 d_c6_1 d_R_t (by decide) hF (fun s4 h4 hH4 hF => ?_))))))))
        exact D_X11_sawThrough_j127 hF hH4 (d_s1 l0 rfl (by decide))
      · refine dw_zeq_n rfl (u := 115) rfl r_x2 q ?_
        refine dw_aln rfl (d_s1 l3 rfl (by decide)) (dw_dupr rfl (dw_gi (k := 0) rfl rfl rfl hH3 d_c6_0 (dw_ic rfl (dw_iln rfl (d_s1 l1 rfl (by decide)) (dw_shl rfl (dw_or rfl (dw_pi (k := 0) rfl rfl rfl rfl hH3 d_c6_0 d_R_t (by decide) hF (fun s6 h6 hH6 hF => dw_go rfl (u := 127) rfl (?_)))))))))
        exact D_X11_sawThrough_j127 hF hH6 (d_s1 l0 rfl (by decide))
set_option maxRecDepth 100000 in
noncomputable def F_X11_sawThrough_j31_0 (x1 : Int) (x2 : Int) (y0 : Int) (y2 : Int) (s : d_S) : Option (Int × d_S) :=
  d_b (F_X11_within y0 0 (d_w (y2 - 2))) (fun v1 => if v1 = 0 then
  some (0, s)
  else
  if x2 = 0 then
  F_X11_sawThrough_j56 x1 x2 (s.1 6 1) s
  else
  F_X11_sawThrough_j56 x1 x2 (s.1 6 0) s)
set_option maxRecDepth 100000 in
theorem D_X11_sawThrough_j31_0 {t : Nat → Option p_C} {h : p_H} {s : d_S} {x1 : Int} {x2 : Int} {y0 : Int} {y2 : Int} {r : Int × d_S} {ls : p_Ls} (hF : F_X11_sawThrough_j31_0 x1 x2 y0 y2 s = some r) (hH : d_V t h s) (l0 : p_lk 0 ls = some (.ref 2)) (r_x1 : d_R x1) (l1 : p_lk 1 ls = some (.int (Int32.ofInt x1))) (r_x2 : d_R x2) (l2 : p_lk 2 ls = some (.int (Int32.ofInt x2))) (l3 : p_lk 3 ls = some (.ref 6)) (r_y0 : d_R y0) (r_y2 : d_R y2) : p_wp p_GT p_MT 3 m_X11_sawThrough 31 ls [.int (Int32.ofInt y2), .int (Int32.ofInt 0), .int (Int32.ofInt y0)] h (d_QC t r) := by
  unfold F_X11_sawThrough_j31_0 at hF
  refine dw_ic rfl (dw_sub rfl (dw_w1 (dw_sB hF rfl rfl rfl rfl rfl (dc := 0) (fun _ e => D_X11_within e r_y0 (d_rl rfl) d_R_w) (fun v1 r_v1 hF => ?_))))
  refine d_if hF (fun q hF => ?_) (fun q hF => ?_)
  · refine dw_zne_y rfl (u := 41) rfl (d_R_b r_v1) q ?_
    exact dw_ic rfl (dw_rC rfl rfl (Or.inl rfl) hH hF)
  · refine dw_zne_n rfl (u := 41) rfl (d_R_b r_v1) q ?_
    refine dw_iln rfl l2 (?_)
    refine d_if hF (fun q hF => ?_) (fun q hF => ?_)
    · refine dw_zeq_y rfl (u := 52) rfl r_x2 q ?_
      refine dw_aln rfl l3 (dw_gi (k := 1) rfl rfl rfl hH d_c6_1 (?_))
      exact D_X11_sawThrough_j56 hF hH l0 r_x1 l1 r_x2 l2 l3 hH.r
    · refine dw_zeq_n rfl (u := 52) rfl r_x2 q ?_
      refine dw_aln rfl l3 (dw_gi (k := 0) rfl rfl rfl hH d_c6_0 (dw_go rfl (u := 56) rfl (?_)))
      exact D_X11_sawThrough_j56 hF hH l0 r_x1 l1 r_x2 l2 l3 hH.r
set_option maxRecDepth 100000 in
noncomputable def F_X11_sawThrough (s : d_S) (x1 : Int) (x2 : Int) : Option (Int × d_S) :=
  if x2 = 0 then
  F_X11_sawThrough_j31_0 x1 x2 x1 (s.1 3 1) s
  else
  F_X11_sawThrough_j31_0 x1 x2 x1 (s.1 3 0) s
set_option maxRecDepth 100000 in
theorem D_X11_sawThrough {t : Nat → Option p_C} {h : p_H} {s : d_S} {x1 : Int} {x2 : Int} {r : Int × d_S} (hF : F_X11_sawThrough s x1 x2 = some r) (hH : d_V t h s) (r_x1 : d_R x1) (r_x2 : d_R x2) : p_wp p_GT p_MT 3 m_X11_sawThrough 0 (lv_args 0 [.ref 2, .int (Int32.ofInt x1), .int (Int32.ofInt x2)]) [] h (d_QC t r) := by
  unfold F_X11_sawThrough at hF
  refine dw_aln rfl rfl (dw_gr rfl rfl rfl hH d_c2_0 (dw_gr rfl rfl rfl hH d_c3_8 (dw_asn rfl rfl (dw_iln rfl (d_s1 rfl rfl (by decide)) (dw_ic rfl (dw_iln rfl (d_s1 rfl rfl (by decide)) (?_)))))))
  refine d_if hF (fun q hF => ?_) (fun q hF => ?_)
  · refine dw_zeq_y rfl (u := 24) rfl r_x2 q ?_
    refine dw_aln rfl (d_s1 rfl rfl (by decide)) (dw_gr rfl rfl rfl hH d_c2_0 (dw_gi (k := 1) rfl rfl rfl hH d_c3_1 (?_)))
    exact D_X11_sawThrough_j31_0 hF hH (d_s1 rfl rfl (by decide)) r_x1 (d_s1 rfl rfl (by decide)) r_x2 (d_s1 rfl rfl (by decide)) p_lk_s1 r_x1 hH.r
  · refine dw_zeq_n rfl (u := 24) rfl r_x2 q ?_
    refine dw_aln rfl (d_s1 rfl rfl (by decide)) (dw_gr rfl rfl rfl hH d_c2_0 (dw_gi (k := 0) rfl rfl rfl hH d_c3_0 (dw_go rfl (u := 31) rfl (?_))))
    exact D_X11_sawThrough_j31_0 hF hH (d_s1 rfl rfl (by decide)) r_x1 (d_s1 rfl rfl (by decide)) r_x2 (d_s1 rfl rfl (by decide)) p_lk_s1 r_x1 hH.r
set_option maxRecDepth 100000 in
noncomputable def F_X11_saw (s : d_S) (x1 : Int) (x2 : Int) : Option (Int × d_S) :=
  d_b2 (F_X11_sawThrough s x1 x2) (fun v1 s2 => if v1 = 0 then
  some ((-1), s2)
  else
  some ((s2.1 37 5), s2))
set_option maxRecDepth 100000 in
theorem D_X11_saw {t : Nat → Option p_C} {h : p_H} {s : d_S} {x1 : Int} {x2 : Int} {r : Int × d_S} (hF : F_X11_saw s x1 x2 = some r) (hH : d_V t h s) (r_x1 : d_R x1) (r_x2 : d_R x2) : p_wp p_GT p_MT 4 m_X11_saw 0 (lv_args 0 [.ref 2, .int (Int32.ofInt x1), .int (Int32.ofInt x2)]) [] h (d_QI t r) := by
  unfold F_X11_saw at hF
  refine dw_aln rfl rfl (dw_iln rfl rfl (dw_iln rfl rfl (dw_vC hF rfl (d_vir (n := 3) rfl rfl rfl rfl rfl hH d_c2_0 rfl) rfl rfl rfl (dc := 3) (fun _ _ e => D_X11_sawThrough e hH r_x1 r_x2) (fun v1 s2 h2 hH2 r_v1 hF => ?_))))
  refine d_if hF (fun q hF => ?_) (fun q hF => ?_)
  · refine dw_zeq_y rfl (u := 19) rfl (d_R_b r_v1) q ?_
    exact dw_ic rfl (dw_rI rfl rfl (d_rl rfl) hH2 hF)
  · refine dw_zeq_n rfl (u := 19) rfl (d_R_b r_v1) q ?_
    exact dw_aln rfl rfl (dw_gr rfl rfl rfl hH2 d_c2_2 (dw_gi (k := 5) rfl rfl rfl hH2 d_c37_5 (dw_go rfl (u := 20) rfl (dw_rI rfl rfl hH2.r hH2 hF))))
set_option maxRecDepth 100000 in
noncomputable def F_X11_isBlock (s : d_S) (x1 : Int) : Option (Int) :=
  d_b (F_X11_within x1 0 (d_w ((s.1 37 5) - 1))) (fun v1 => some v1)
set_option maxRecDepth 100000 in
theorem D_X11_isBlock {t : Nat → Option p_C} {h : p_H} {s : d_S} {x1 : Int} {r : Int} (hF : F_X11_isBlock s x1 = some r) (hH : d_V t h s) (r_x1 : d_R x1) : p_wp p_GT p_MT 1 m_X11_isBlock 0 (lv_args 0 [.ref 2, .int (Int32.ofInt x1)]) [] h (d_QB h r) := by
  unfold F_X11_isBlock at hF
  exact dw_iln rfl rfl (dw_ic rfl (dw_aln rfl rfl (dw_gr rfl rfl rfl hH d_c2_2 (dw_gi (k := 5) rfl rfl rfl hH d_c37_5 (dw_ic rfl (dw_sub rfl (dw_w1 (dw_sB hF rfl rfl rfl rfl rfl (dc := 0) (fun _ e => D_X11_within e r_x1 (d_rl rfl) d_R_w) (fun v1 r_v1 hF => dw_rB rfl rfl r_v1 hF)))))))))
set_option maxRecDepth 100000 in
noncomputable def F_X10_markOf_6 (s : d_S) (x1 : Int) : Option (Int) :=
  if x1 < 0 then
  some 0
  else
  if x1 < 64 then
  d_g (0 ≤ x1 ∧ x1 < 64) (some (s.1 7 (x1.toNat)))
  else
  some 0
set_option maxRecDepth 100000 in
theorem D_X10_markOf_6 {t : Nat → Option p_C} {h : p_H} {s : d_S} {x1 : Int} {r : Int} (hF : F_X10_markOf_6 s x1 = some r) (hH : d_V t h s) (r_x1 : d_R x1) : p_wp p_GT p_MT 0 m_X10_markOf 0 (lv_args 0 [.ref 6, .int (Int32.ofInt x1)]) [] h (d_QP h r) := by
  unfold F_X10_markOf_6 at hF
  refine dw_iln rfl rfl (?_)
  refine d_if hF (fun q hF => ?_) (fun q hF => ?_)
  · refine dw_zlt_y rfl (u := 22) rfl r_x1 q ?_
    exact dw_ic rfl (dw_rP rfl rfl (d_rl rfl) hF)
  · refine dw_zlt_n rfl (u := 22) rfl r_x1 q ?_
    refine dw_iln rfl rfl (dw_aln rfl rfl (dw_gr rfl rfl rfl hH d_c6_7 (dw_len rfl hH d_a7 rfl (z := 64) rfl (?_))))
    refine d_if hF (fun q hF => ?_) (fun q hF => ?_)
    · refine dw_ge_y rfl (u := 22) rfl r_x1 (d_rl rfl) q ?_
      exact dw_aln rfl rfl (dw_gr rfl rfl rfl hH d_c6_7 (dw_iln rfl rfl (d_gd hF (fun g1 hF => dw_ald rfl hH d_a7 rfl g1.1 g1.2 r_x1 rfl (dw_go rfl (u := 23) rfl (dw_rP rfl rfl hH.r hF))))))
    · refine dw_ge_n rfl (u := 22) rfl r_x1 (d_rl rfl) q ?_
      exact dw_ic rfl (dw_rP rfl rfl (d_rl rfl) hF)
set_option maxRecDepth 100000 in
noncomputable def F_X10_isSold_6 (s : d_S) (x1 : Int) : Option (Int) :=
  d_b (F_X10_markOf_6 s x1) (fun v1 => if (d_shr v1 11) = 1 then
  some 1
  else
  some 0)
set_option maxRecDepth 100000 in
theorem D_X10_isSold_6 {t : Nat → Option p_C} {h : p_H} {s : d_S} {x1 : Int} {r : Int} (hF : F_X10_isSold_6 s x1 = some r) (hH : d_V t h s) (r_x1 : d_R x1) : p_wp p_GT p_MT 1 m_X10_isSold 0 (lv_args 0 [.ref 6, .int (Int32.ofInt x1)]) [] h (d_QB h r) := by
  unfold F_X10_isSold_6 at hF
  refine dw_aln rfl rfl (dw_iln rfl rfl (dw_vP hF rfl (d_vir (n := 2) rfl rfl rfl rfl rfl hH d_c6_0 rfl) rfl rfl rfl (dc := 0) (fun _ e => D_X10_markOf_6 e hH r_x1) (fun v1 r_v1 hF => dw_bp rfl rfl (dw_shr rfl (dw_ic rfl (?_))))))
  refine d_if hF (fun q hF => ?_) (fun q hF => ?_)
  · refine dw_ne_y rfl (u := 16) rfl d_R_t (d_rl rfl) q ?_
    exact dw_ic rfl (dw_go rfl (u := 17) rfl (dw_rB rfl rfl (Or.inr rfl) hF))
  · refine dw_ne_n rfl (u := 16) rfl d_R_t (d_rl rfl) q ?_
    exact dw_ic rfl (dw_rB rfl rfl (Or.inl rfl) hF)
set_option maxRecDepth 100000 in
noncomputable def F_X10_strawOn_6 (s : d_S) (x1 : Int) : Option (Int) :=
  d_b (F_X10_markOf_6 s x1) (fun v1 => some (d_and v1 15))
set_option maxRecDepth 100000 in
theorem D_X10_strawOn_6 {t : Nat → Option p_C} {h : p_H} {s : d_S} {x1 : Int} {r : Int} (hF : F_X10_strawOn_6 s x1 = some r) (hH : d_V t h s) (r_x1 : d_R x1) : p_wp p_GT p_MT 1 m_X10_strawOn 0 (lv_args 0 [.ref 6, .int (Int32.ofInt x1)]) [] h (d_QP h r) := by
  unfold F_X10_strawOn_6 at hF
  exact dw_aln rfl rfl (dw_iln rfl rfl (dw_vP hF rfl (d_vir (n := 2) rfl rfl rfl rfl rfl hH d_c6_0 rfl) rfl rfl rfl (dc := 0) (fun _ e => D_X10_markOf_6 e hH r_x1) (fun v1 r_v1 hF => dw_bp rfl rfl (dw_and rfl (dw_rP rfl rfl d_R_t hF)))))
set_option maxRecDepth 100000 in
noncomputable def F_X11_canLay (s : d_S) (x1 : Int) (x2 : Int) : Option (Int) :=
  d_b (F_X11_isBlock s x2) (fun v1 => if v1 = 0 then
  some 0
  else
  d_b (F_X11_within x1 (-9) 9) (fun v2 => if v2 = 0 then
  some 0
  else
  if x1 = 0 then
  some 0
  else
  d_b (F_X10_isSold_6 s x2) (fun v3 => if v3 = 0 then
  d_b (F_X10_strawOn_6 s x2) (fun v4 => d_b (F_X11_within (d_w (v4 + x1)) 0 9) (fun v5 => if v5 = 0 then
  some 0
  else
  d_b (F_X11_within (d_w ((s.1 6 2) - x1)) 0 99) (fun v6 => if v6 = 0 then
  some 0
  else
  some 1)))
  else
  some 0)))
set_option maxRecDepth 100000 in
theorem D_X11_canLay {t : Nat → Option p_C} {h : p_H} {s : d_S} {x1 : Int} {x2 : Int} {r : Int} (hF : F_X11_canLay s x1 x2 = some r) (hH : d_V t h s) (r_x1 : d_R x1) (r_x2 : d_R x2) : p_wp p_GT p_MT 2 m_X11_canLay 0 (lv_args 0 [.ref 2, .int (Int32.ofInt x1), .int (Int32.ofInt x2)]) [] h (d_QB h r) := by
  unfold F_X11_canLay at hF
  refine dw_aln rfl rfl (dw_iln rfl rfl (dw_vB hF rfl (d_vir (n := 2) rfl rfl rfl rfl rfl hH d_c2_0 rfl) rfl rfl rfl (dc := 1) (fun _ e => D_X11_isBlock e hH r_x2) (fun v1 r_v1 hF => ?_)))
  refine d_if hF (fun q hF => ?_) (fun q hF => ?_)
  · refine dw_zeq_y rfl (u := 37) rfl (d_R_b r_v1) q ?_
    exact dw_ic rfl (dw_rB rfl rfl (Or.inl rfl) hF)
  · refine dw_zeq_n rfl (u := 37) rfl (d_R_b r_v1) q ?_
    refine dw_iln rfl rfl (dw_bp rfl rfl (dw_bp rfl rfl (dw_sB hF rfl rfl rfl rfl rfl (dc := 0) (fun _ e => D_X11_within e r_x1 (d_rl rfl) (d_rl rfl)) (fun v2 r_v2 hF => ?_))))
    refine d_if hF (fun q hF => ?_) (fun q hF => ?_)
    · refine dw_zeq_y rfl (u := 37) rfl (d_R_b r_v2) q ?_
      exact dw_ic rfl (dw_rB rfl rfl (Or.inl rfl) hF)
    · refine dw_zeq_n rfl (u := 37) rfl (d_R_b r_v2) q ?_
      refine dw_iln rfl rfl (?_)
      refine d_if hF (fun q hF => ?_) (fun q hF => ?_)
      · refine dw_zeq_y rfl (u := 37) rfl r_x1 q ?_
        exact dw_ic rfl (dw_rB rfl rfl (Or.inl rfl) hF)
      · refine dw_zeq_n rfl (u := 37) rfl r_x1 q ?_
        refine dw_aln rfl rfl (dw_gr rfl rfl rfl hH d_c2_0 (dw_gr rfl rfl rfl hH d_c3_8 (dw_iln rfl rfl (dw_vB hF rfl (d_vir (n := 2) rfl rfl rfl rfl rfl hH d_c6_0 rfl) rfl rfl rfl (dc := 1) (fun _ e => D_X10_isSold_6 e hH r_x2) (fun v3 r_v3 hF => ?_)))))
        refine d_if hF (fun q hF => ?_) (fun q hF => ?_)
        · refine dw_zeq_y rfl (u := 39) rfl (d_R_b r_v3) q ?_
          refine dw_aln rfl rfl (dw_gr rfl rfl rfl hH d_c2_0 (dw_gr rfl rfl rfl hH d_c3_8 (dw_iln rfl rfl (dw_vP hF rfl (d_vir (n := 2) rfl rfl rfl rfl rfl hH d_c6_0 rfl) rfl rfl rfl (dc := 1) (fun _ e => D_X10_strawOn_6 e hH r_x2) (fun v4 r_v4 hF => dw_iln rfl rfl (dw_add rfl (dw_ic rfl (dw_bp rfl rfl (dw_w3 (?_))))))))))
          refine dw_sB hF rfl rfl rfl rfl rfl (dc := 0) (fun _ e => D_X11_within e d_R_w (d_rl rfl) (d_rl rfl)) (fun v5 r_v5 hF => ?_)
          refine d_if hF (fun q hF => ?_) (fun q hF => ?_)
          · refine dw_zeq_y rfl (u := 86) rfl (d_R_b r_v5) q ?_
            exact dw_ic rfl (dw_rB rfl rfl (Or.inl rfl) hF)
          · refine dw_zeq_n rfl (u := 86) rfl (d_R_b r_v5) q ?_
            refine dw_aln rfl rfl (dw_gr rfl rfl rfl hH d_c2_0 (dw_gr rfl rfl rfl hH d_c3_8 (dw_gi (k := 2) rfl rfl rfl hH d_c6_2 (dw_iln rfl rfl (dw_sub rfl (dw_ic rfl (dw_bp rfl rfl (dw_w3 (dw_sB hF rfl rfl rfl rfl rfl (dc := 0) (fun _ e => D_X11_within e d_R_w (d_rl rfl) (d_rl rfl)) (fun v6 r_v6 hF => ?_))))))))))
            refine d_if hF (fun q hF => ?_) (fun q hF => ?_)
            · refine dw_zeq_y rfl (u := 86) rfl (d_R_b r_v6) q ?_
              exact dw_ic rfl (dw_rB rfl rfl (Or.inl rfl) hF)
            · refine dw_zeq_n rfl (u := 86) rfl (d_R_b r_v6) q ?_
              exact dw_ic rfl (dw_go rfl (u := 87) rfl (dw_rB rfl rfl (Or.inr rfl) hF))
        · refine dw_zeq_n rfl (u := 39) rfl (d_R_b r_v3) q ?_
          exact dw_ic rfl (dw_rB rfl rfl (Or.inl rfl) hF)
set_option maxRecDepth 100000 in
noncomputable def F_X10_meltedOf_6 (s : d_S) (x1 : Int) : Option (Int) :=
  d_b (F_X10_markOf_6 s x1) (fun v1 => some (d_and (d_shr v1 4) 127))
set_option maxRecDepth 100000 in
theorem D_X10_meltedOf_6 {t : Nat → Option p_C} {h : p_H} {s : d_S} {x1 : Int} {r : Int} (hF : F_X10_meltedOf_6 s x1 = some r) (hH : d_V t h s) (r_x1 : d_R x1) : p_wp p_GT p_MT 1 m_X10_meltedOf 0 (lv_args 0 [.ref 6, .int (Int32.ofInt x1)]) [] h (d_QP h r) := by
  unfold F_X10_meltedOf_6 at hF
  exact dw_aln rfl rfl (dw_iln rfl rfl (dw_vP hF rfl (d_vir (n := 2) rfl rfl rfl rfl rfl hH d_c6_0 rfl) rfl rfl rfl (dc := 0) (fun _ e => D_X10_markOf_6 e hH r_x1) (fun v1 r_v1 hF => dw_ic rfl (dw_shr rfl (dw_bp rfl rfl (dw_and rfl (dw_rP rfl rfl d_R_t hF)))))))
set_option maxRecDepth 100000 in
noncomputable def F_X10_put_6 (s : d_S) (x1 : Int) (x2 : Int) (x3 : Int) (x4 : Int) : Option (d_S) :=
  if x1 < 0 then
  some s
  else
  if x1 < 64 then
  d_b (F_X11_bit x4) (fun v1 => d_g (0 ≤ x1 ∧ x1 < 64) (d_l (d_si s 7 ((x1).toNat) (d_or (d_or x2 (d_shl x3 4)) (d_shl v1 11))) (fun s3 => some s3)))
  else
  some s
set_option maxRecDepth 100000 in
theorem D_X10_put_6 {t : Nat → Option p_C} {h : p_H} {s : d_S} {x1 : Int} {x2 : Int} {x3 : Int} {x4 : Int} {r : d_S} (hF : F_X10_put_6 s x1 x2 x3 x4 = some r) (hH : d_V t h s) (r_x1 : d_R x1) (r_x2 : d_R x2) (r_x3 : d_R x3) (r_x4 : d_R x4) : p_wp p_GT p_MT 1 m_X10_put 0 (lv_args 0 [.ref 6, .int (Int32.ofInt x1), .int (Int32.ofInt x2), .int (Int32.ofInt x3), .int (Int32.ofInt x4)]) [] h (d_QV t r) := by
  unfold F_X10_put_6 at hF
  refine dw_iln rfl rfl (?_)
  refine d_if hF (fun q hF => ?_) (fun q hF => ?_)
  · refine dw_zlt_y rfl (u := 33) rfl r_x1 q ?_
    exact dw_rV rfl rfl hH hF
  · refine dw_zlt_n rfl (u := 33) rfl r_x1 q ?_
    refine dw_iln rfl rfl (dw_aln rfl rfl (dw_gr rfl rfl rfl hH d_c6_7 (dw_len rfl hH d_a7 rfl (z := 64) rfl (?_))))
    refine d_if hF (fun q hF => ?_) (fun q hF => ?_)
    · refine dw_ge_y rfl (u := 33) rfl r_x1 (d_rl rfl) q ?_
      refine dw_aln rfl rfl (dw_gr rfl rfl rfl hH d_c6_7 (dw_iln rfl rfl (dw_iln rfl rfl (dw_iln rfl rfl (dw_ic rfl (dw_shl rfl (dw_or rfl (dw_il rfl rfl (dw_sP hF rfl rfl rfl rfl rfl (dc := 0) (fun _ e => D_X11_bit e r_x4) (fun v1 r_v1 hF => ?_))))))))))
      exact dw_bp rfl rfl (dw_shl rfl (dw_or rfl (d_gd hF (fun g2 hF => dw_ast rfl hH d_a7 g2.1 g2.2 r_x1 rfl d_R_t hF (fun s3 h3 hH3 hF => dw_rV rfl rfl hH3 hF)))))
    · refine dw_ge_n rfl (u := 33) rfl r_x1 (d_rl rfl) q ?_
      exact dw_rV rfl rfl hH hF
set_option maxRecDepth 100000 in
noncomputable def F_X11_layStraw (s : d_S) (x1 : Int) (x2 : Int) : Option (d_S) :=
  d_l (d_si s 6 2 (d_w ((s.1 6 2) - x1))) (fun s1 => d_b (F_X10_strawOn_6 s1 x2) (fun v2 => d_b (F_X10_meltedOf_6 s1 x2) (fun v3 => d_b (F_X10_put_6 s1 x2 (d_w (v2 + x1)) v3 0) (fun s4 => some s4))))
set_option maxRecDepth 100000 in
theorem D_X11_layStraw {t : Nat → Option p_C} {h : p_H} {s : d_S} {x1 : Int} {x2 : Int} {r : d_S} (hF : F_X11_layStraw s x1 x2 = some r) (hH : d_V t h s) (r_x1 : d_R x1) (r_x2 : d_R x2) : p_wp p_GT p_MT 2 m_X11_layStraw 0 (lv_args 0 [.ref 2, .int (Int32.ofInt x1), .int (Int32.ofInt x2)]) [] h (d_QV t r) := by
  unfold F_X11_layStraw at hF
  refine dw_aln rfl rfl (dw_gr rfl rfl rfl hH d_c2_0 (dw_gr rfl rfl rfl hH d_c3_8 (dw_asn rfl rfl (dw_aln rfl p_lk_s1 (dw_dupr rfl (dw_gi (k := 2) rfl rfl rfl hH d_c6_2 (dw_iln rfl (d_s1 rfl rfl (by decide)) (dw_sub rfl (dw_w1 (?_))))))))))
  refine dw_pi (k := 2) rfl rfl rfl rfl hH d_c6_2 d_R_w (by decide) hF (fun s1 h1 hH1 hF => dw_aln rfl p_lk_s1 (dw_iln rfl (d_s1 rfl rfl (by decide)) (dw_aln rfl p_lk_s1 (dw_iln rfl (d_s1 rfl rfl (by decide)) (dw_vP hF rfl (d_vir (n := 2) rfl rfl rfl rfl rfl hH1 d_c6_0 rfl) rfl rfl rfl (dc := 1) (fun _ e => D_X10_strawOn_6 e hH1 r_x2) (fun v2 r_v2 hF => dw_iln rfl (d_s1 rfl rfl (by decide)) (dw_add rfl (dw_aln rfl p_lk_s1 (dw_iln rfl (d_s1 rfl rfl (by decide)) (?_))))))))))
  exact dw_vP hF rfl (d_vir (n := 2) rfl rfl rfl rfl rfl hH1 d_c6_0 rfl) rfl rfl rfl (dc := 1) (fun _ e => D_X10_meltedOf_6 e hH1 r_x2) (fun v3 r_v3 hF => dw_ic rfl (dw_w3 (dw_vV hF rfl (d_vir (n := 5) rfl rfl rfl rfl rfl hH1 d_c6_0 rfl) rfl rfl rfl (dc := 1) (fun _ e => D_X10_put_6 e hH1 r_x2 d_R_w r_v3 (d_rl rfl)) (fun s4 h4 hH4 hF => dw_rV rfl rfl hH4 hF))))
set_option maxRecDepth 100000 in
noncomputable def F_X11_layByHand (s : d_S) (x1 : Int) (x2 : Int) : Option (Int × d_S) :=
  d_b (F_X11_canLay s x1 x2) (fun v1 => if v1 = 0 then
  some (0, s)
  else
  d_b (F_X6_keep_8_6 s) (fun s2 => d_b (F_X11_layStraw s2 x1 x2) (fun s3 => some (1, s3))))
set_option maxRecDepth 100000 in
theorem D_X11_layByHand {t : Nat → Option p_C} {h : p_H} {s : d_S} {x1 : Int} {x2 : Int} {r : Int × d_S} (hF : F_X11_layByHand s x1 x2 = some r) (hH : d_V t h s) (r_x1 : d_R x1) (r_x2 : d_R x2) : p_wp p_GT p_MT 3 m_X11_layByHand 0 (lv_args 0 [.ref 2, .int (Int32.ofInt x1), .int (Int32.ofInt x2)]) [] h (d_QC t r) := by
  unfold F_X11_layByHand at hF
  refine dw_aln rfl rfl (dw_iln rfl rfl (dw_iln rfl rfl (dw_vB hF rfl (d_vir (n := 3) rfl rfl rfl rfl rfl hH d_c2_0 rfl) rfl rfl rfl (dc := 2) (fun _ e => D_X11_canLay e hH r_x1 r_x2) (fun v1 r_v1 hF => ?_))))
  refine d_if hF (fun q hF => ?_) (fun q hF => ?_)
  · refine dw_zne_y rfl (u := 11) rfl (d_R_b r_v1) q ?_
    exact dw_ic rfl (dw_rC rfl rfl (Or.inl rfl) hH hF)
  · refine dw_zne_n rfl (u := 11) rfl (d_R_b r_v1) q ?_
    refine dw_aln rfl rfl (dw_gr rfl rfl rfl hH d_c2_0 (dw_gr rfl rfl rfl hH d_c3_9 (dw_aln rfl rfl (dw_gr rfl rfl rfl hH d_c2_0 (dw_gr rfl rfl rfl hH d_c3_8 (dw_vV hF rfl (d_vir (n := 2) rfl rfl rfl rfl rfl hH d_c8_0 rfl) rfl rfl rfl (dc := 1) (fun _ e => D_X6_keep_8_6 e hH) (fun s2 h2 hH2 hF => dw_aln rfl rfl (dw_iln rfl rfl (dw_iln rfl rfl (?_))))))))))
    exact dw_vV hF rfl (d_vir (n := 3) rfl rfl rfl rfl rfl hH2 d_c2_0 rfl) rfl rfl rfl (dc := 2) (fun _ e => D_X11_layStraw e hH2 r_x1 r_x2) (fun s3 h3 hH3 hF => dw_ic rfl (dw_rC rfl rfl (Or.inr rfl) hH3 hF))
set_option maxRecDepth 100000 in
noncomputable def F_X11_straw (s : d_S) (x1 : Int) (x2 : Int) : Option (Int × d_S) :=
  d_b2 (F_X11_layByHand s x1 x2) (fun v1 s2 => if v1 = 0 then
  some ((-1), s2)
  else
  d_b (F_X10_strawOn_6 s2 x2) (fun v3 => some (v3, s2)))
set_option maxRecDepth 100000 in
theorem D_X11_straw {t : Nat → Option p_C} {h : p_H} {s : d_S} {x1 : Int} {x2 : Int} {r : Int × d_S} (hF : F_X11_straw s x1 x2 = some r) (hH : d_V t h s) (r_x1 : d_R x1) (r_x2 : d_R x2) : p_wp p_GT p_MT 4 m_X11_straw 0 (lv_args 0 [.ref 2, .int (Int32.ofInt x1), .int (Int32.ofInt x2)]) [] h (d_QI t r) := by
  unfold F_X11_straw at hF
  refine dw_aln rfl rfl (dw_iln rfl rfl (dw_iln rfl rfl (dw_vC hF rfl (d_vir (n := 3) rfl rfl rfl rfl rfl hH d_c2_0 rfl) rfl rfl rfl (dc := 3) (fun _ _ e => D_X11_layByHand e hH r_x1 r_x2) (fun v1 s2 h2 hH2 r_v1 hF => ?_))))
  refine d_if hF (fun q hF => ?_) (fun q hF => ?_)
  · refine dw_zeq_y rfl (u := 23) rfl (d_R_b r_v1) q ?_
    exact dw_ic rfl (dw_rI rfl rfl (d_rl rfl) hH2 hF)
  · refine dw_zeq_n rfl (u := 23) rfl (d_R_b r_v1) q ?_
    exact dw_aln rfl rfl (dw_gr rfl rfl rfl hH2 d_c2_0 (dw_gr rfl rfl rfl hH2 d_c3_8 (dw_iln rfl rfl (dw_vP hF rfl (d_vir (n := 2) rfl rfl rfl rfl rfl hH2 d_c6_0 rfl) rfl rfl rfl (dc := 1) (fun _ e => D_X10_strawOn_6 e hH2 r_x2) (fun v3 r_v3 hF => dw_go rfl (u := 24) rfl (dw_rI rfl rfl r_v3 hH2 hF))))))
set_option maxRecDepth 100000 in
noncomputable def F_X9_ruler_3 (s : d_S) : Option (Option Nat) :=
  d_b (F_X9_textAt_3 s (s.1 3 6)) (fun v1 => some v1)
set_option maxRecDepth 100000 in
theorem D_X9_ruler_3 {t : Nat → Option p_C} {h : p_H} {s : d_S} {r : Option Nat} (hF : F_X9_ruler_3 s = some r) (hH : d_V t h s) : p_wp p_GT p_MT 1 m_X9_ruler 0 (lv_args 0 [.ref 3]) [] h (d_QO t h r) := by
  unfold F_X9_ruler_3 at hF
  exact dw_aln rfl rfl (dw_aln rfl rfl (dw_gi (k := 6) rfl rfl rfl hH d_c3_6 (dw_vO hF rfl (d_vir (n := 2) rfl rfl rfl rfl rfl hH d_c3_0 rfl) rfl rfl rfl (dc := 0) (fun _ e => D_X9_textAt_3 e hH hH.r) (fun v1 r_v1 hF => dw_rO rfl rfl r_v1 hF))))
set_option maxRecDepth 100000 in
noncomputable def F_X4_partOf_40 (s : d_S) (x1 : Int) : Option (Int) :=
  if x1 < 0 then
  some 0
  else
  if x1 < 64 then
  d_g (0 ≤ x1 ∧ x1 < 64) (some (s.1 40 (x1.toNat)))
  else
  some 0
set_option maxRecDepth 100000 in
theorem D_X4_partOf_40 {t : Nat → Option p_C} {h : p_H} {s : d_S} {x1 : Int} {r : Int} (hF : F_X4_partOf_40 s x1 = some r) (hH : d_V t h s) (r_x1 : d_R x1) : p_wp p_GT p_MT 0 m_X4_partOf 0 (lv_args 0 [.ref 40, .int (Int32.ofInt x1)]) [] h (d_QP h r) := by
  unfold F_X4_partOf_40 at hF
  refine dw_iln rfl rfl (?_)
  refine d_if hF (fun q hF => ?_) (fun q hF => ?_)
  · refine dw_zlt_y rfl (u := 16) rfl r_x1 q ?_
    exact dw_ic rfl (dw_rP rfl rfl (d_rl rfl) hF)
  · refine dw_zlt_n rfl (u := 16) rfl r_x1 q ?_
    refine dw_iln rfl rfl (dw_aln rfl rfl (dw_len rfl hH d_a40 rfl (z := 64) rfl (?_)))
    refine d_if hF (fun q hF => ?_) (fun q hF => ?_)
    · refine dw_ge_y rfl (u := 16) rfl r_x1 (d_rl rfl) q ?_
      exact dw_aln rfl rfl (dw_iln rfl rfl (d_gd hF (fun g1 hF => dw_ald rfl hH d_a40 rfl g1.1 g1.2 r_x1 rfl (dw_go rfl (u := 17) rfl (dw_rP rfl rfl hH.r hF)))))
    · refine dw_ge_n rfl (u := 16) rfl r_x1 (d_rl rfl) q ?_
      exact dw_ic rfl (dw_rP rfl rfl (d_rl rfl) hF)
set_option maxRecDepth 100000 in
noncomputable def F_X4_partOf_41 (s : d_S) (x1 : Int) : Option (Int) :=
  if x1 < 0 then
  some 0
  else
  if x1 < 64 then
  d_g (0 ≤ x1 ∧ x1 < 64) (some (s.1 41 (x1.toNat)))
  else
  some 0
set_option maxRecDepth 100000 in
theorem D_X4_partOf_41 {t : Nat → Option p_C} {h : p_H} {s : d_S} {x1 : Int} {r : Int} (hF : F_X4_partOf_41 s x1 = some r) (hH : d_V t h s) (r_x1 : d_R x1) : p_wp p_GT p_MT 0 m_X4_partOf 0 (lv_args 0 [.ref 41, .int (Int32.ofInt x1)]) [] h (d_QP h r) := by
  unfold F_X4_partOf_41 at hF
  refine dw_iln rfl rfl (?_)
  refine d_if hF (fun q hF => ?_) (fun q hF => ?_)
  · refine dw_zlt_y rfl (u := 16) rfl r_x1 q ?_
    exact dw_ic rfl (dw_rP rfl rfl (d_rl rfl) hF)
  · refine dw_zlt_n rfl (u := 16) rfl r_x1 q ?_
    refine dw_iln rfl rfl (dw_aln rfl rfl (dw_len rfl hH d_a41 rfl (z := 64) rfl (?_)))
    refine d_if hF (fun q hF => ?_) (fun q hF => ?_)
    · refine dw_ge_y rfl (u := 16) rfl r_x1 (d_rl rfl) q ?_
      exact dw_aln rfl rfl (dw_iln rfl rfl (d_gd hF (fun g1 hF => dw_ald rfl hH d_a41 rfl g1.1 g1.2 r_x1 rfl (dw_go rfl (u := 17) rfl (dw_rP rfl rfl hH.r hF)))))
    · refine dw_ge_n rfl (u := 16) rfl r_x1 (d_rl rfl) q ?_
      exact dw_ic rfl (dw_rP rfl rfl (d_rl rfl) hF)
set_option maxRecDepth 100000 in
noncomputable def F_X4_sizeOf (s : d_S) (x1 : Int) : Option (Int) :=
  d_b (F_X4_partOf_40 s x1) (fun v1 => d_b (F_X4_partOf_41 s x1) (fun v2 => some (d_w (v1 * v2))))
set_option maxRecDepth 100000 in
theorem D_X4_sizeOf {t : Nat → Option p_C} {h : p_H} {s : d_S} {x1 : Int} {r : Int} (hF : F_X4_sizeOf s x1 = some r) (hH : d_V t h s) (r_x1 : d_R x1) : p_wp p_GT p_MT 1 m_X4_sizeOf 0 (lv_args 0 [.ref 37, .int (Int32.ofInt x1)]) [] h (d_QP h r) := by
  unfold F_X4_sizeOf at hF
  refine dw_aln rfl rfl (dw_gr rfl rfl rfl hH d_c37_2 (dw_iln rfl rfl (dw_sP hF rfl rfl rfl rfl rfl (dc := 0) (fun _ e => D_X4_partOf_40 e hH r_x1) (fun v1 r_v1 hF => dw_aln rfl rfl (dw_gr rfl rfl rfl hH d_c37_3 (dw_iln rfl rfl (dw_sP hF rfl rfl rfl rfl rfl (dc := 0) (fun _ e => D_X4_partOf_41 e hH r_x1) (fun v2 r_v2 hF => dw_mul rfl (dw_w1 (?_))))))))))
  exact dw_rP rfl rfl d_R_w hF
set_option maxRecDepth 100000 in
noncomputable def F_X4_partOf_42 (s : d_S) (x1 : Int) : Option (Int) :=
  if x1 < 0 then
  some 0
  else
  if x1 < 64 then
  d_g (0 ≤ x1 ∧ x1 < 64) (some (s.1 42 (x1.toNat)))
  else
  some 0
set_option maxRecDepth 100000 in
theorem D_X4_partOf_42 {t : Nat → Option p_C} {h : p_H} {s : d_S} {x1 : Int} {r : Int} (hF : F_X4_partOf_42 s x1 = some r) (hH : d_V t h s) (r_x1 : d_R x1) : p_wp p_GT p_MT 0 m_X4_partOf 0 (lv_args 0 [.ref 42, .int (Int32.ofInt x1)]) [] h (d_QP h r) := by
  unfold F_X4_partOf_42 at hF
  refine dw_iln rfl rfl (?_)
  refine d_if hF (fun q hF => ?_) (fun q hF => ?_)
  · refine dw_zlt_y rfl (u := 16) rfl r_x1 q ?_
    exact dw_ic rfl (dw_rP rfl rfl (d_rl rfl) hF)
  · refine dw_zlt_n rfl (u := 16) rfl r_x1 q ?_
    refine dw_iln rfl rfl (dw_aln rfl rfl (dw_len rfl hH d_a42 rfl (z := 64) rfl (?_)))
    refine d_if hF (fun q hF => ?_) (fun q hF => ?_)
    · refine dw_ge_y rfl (u := 16) rfl r_x1 (d_rl rfl) q ?_
      exact dw_aln rfl rfl (dw_iln rfl rfl (d_gd hF (fun g1 hF => dw_ald rfl hH d_a42 rfl g1.1 g1.2 r_x1 rfl (dw_go rfl (u := 17) rfl (dw_rP rfl rfl hH.r hF)))))
    · refine dw_ge_n rfl (u := 16) rfl r_x1 (d_rl rfl) q ?_
      exact dw_ic rfl (dw_rP rfl rfl (d_rl rfl) hF)
set_option maxRecDepth 100000 in
noncomputable def F_X4_edgeOf (s : d_S) (x1 : Int) : Option (Int) :=
  d_b (F_X4_partOf_42 s x1) (fun v1 => some v1)
set_option maxRecDepth 100000 in
theorem D_X4_edgeOf {t : Nat → Option p_C} {h : p_H} {s : d_S} {x1 : Int} {r : Int} (hF : F_X4_edgeOf s x1 = some r) (hH : d_V t h s) (r_x1 : d_R x1) : p_wp p_GT p_MT 1 m_X4_edgeOf 0 (lv_args 0 [.ref 37, .int (Int32.ofInt x1)]) [] h (d_QP h r) := by
  unfold F_X4_edgeOf at hF
  exact dw_aln rfl rfl (dw_gr rfl rfl rfl hH d_c37_4 (dw_iln rfl rfl (dw_sP hF rfl rfl rfl rfl rfl (dc := 0) (fun _ e => D_X4_partOf_42 e hH r_x1) (fun v1 r_v1 hF => dw_rP rfl rfl r_v1 hF))))
set_option maxRecDepth 100000 in
noncomputable def F_X1_tellBlock (s : d_S) (x1 : Int) (x2 : Int) : Option (d_S) :=
  d_l (d_si s 49 (3) x1) (fun s1 => d_l (d_si s1 49 (5) x2) (fun s2 => some s2))
set_option maxRecDepth 100000 in
theorem D_X1_tellBlock {t : Nat → Option p_C} {h : p_H} {s : d_S} {x1 : Int} {x2 : Int} {r : d_S} (hF : F_X1_tellBlock s x1 x2 = some r) (hH : d_V t h s) (r_x1 : d_R x1) (r_x2 : d_R x2) : p_wp p_GT p_MT 0 m_X1_tellBlock 0 (lv_args 0 [.ref 48, .int (Int32.ofInt x1), .int (Int32.ofInt x2)]) [] h (d_QV t r) := by
  unfold F_X1_tellBlock at hF
  refine dw_aln rfl rfl (dw_gr rfl rfl rfl hH d_c48_0 (dw_ic rfl (dw_iln rfl rfl (dw_ast rfl hH d_a49 (by decide) (by decide) (d_rl rfl) (k := 3) rfl r_x1 hF (fun s1 h1 hH1 hF => dw_aln rfl rfl (dw_gr rfl rfl rfl hH1 d_c48_0 (dw_ic rfl (dw_iln rfl rfl (dw_ast rfl hH1 d_a49 (by decide) (by decide) (d_rl rfl) (k := 5) rfl r_x2 hF (fun s2 h2 hH2 hF => ?_))))))))))
  exact dw_rV rfl rfl hH2 hF
set_option maxRecDepth 100000 in
noncomputable def F_X0_start (s : d_S) (x1 : Int) : Option (d_S) :=
  d_l (d_si s 47 4 x1) (fun s1 => d_b (F_X9_ruler_3 s1) (fun v2 => d_l (d_sp s1 47 3 v2) (fun s3 => d_l (d_si s3 47 5 (s3.1 6 6)) (fun s4 => d_l (d_si s4 47 6 (s4.1 6 3)) (fun s5 => d_l (d_si s5 47 7 (s5.1 6 4)) (fun s6 => d_b (F_X10_strawOn_6 s6 x1) (fun v7 => d_l (d_si s6 47 8 v7) (fun s8 => d_b (F_X10_meltedOf_6 s8 x1) (fun v9 => d_l (d_si s8 47 9 v9) (fun s10 => d_b (F_X10_isSold_6 s10 x1) (fun v11 => d_l (d_si s10 47 10 v11) (fun s12 => d_b (F_X4_sizeOf s12 x1) (fun v13 => d_b (F_X4_edgeOf s12 x1) (fun v14 => d_b (F_X1_tellBlock s12 v13 v14) (fun s15 => some s15)))))))))))))))
set_option maxRecDepth 100000 in
theorem D_X0_start {t : Nat → Option p_C} {h : p_H} {s : d_S} {x1 : Int} {r : d_S} (hF : F_X0_start s x1 = some r) (hH : d_V t h s) (r_x1 : d_R x1) : p_wp p_GT p_MT 2 m_X0_start 0 (lv_args 0 [.ref 47, .int (Int32.ofInt x1)]) [] h (d_QV t r) := by
  unfold F_X0_start at hF
  refine dw_aln rfl rfl (dw_gr rfl rfl rfl hH d_c47_0 (dw_gr rfl rfl rfl hH d_c3_8 (dw_asn rfl rfl (dw_aln rfl (d_s1 rfl rfl (by decide)) (dw_iln rfl (d_s1 rfl rfl (by decide)) (dw_pi (k := 4) rfl rfl rfl rfl hH d_c47_4 r_x1 (by decide) hF (fun s1 h1 hH1 hF => dw_aln rfl (d_s1 rfl rfl (by decide)) (dw_aln rfl (d_s1 rfl rfl (by decide)) (dw_gr rfl rfl rfl hH1 d_c47_0 (?_))))))))))
  refine dw_vO hF rfl (d_vir (n := 1) rfl rfl rfl rfl rfl hH1 d_c3_0 rfl) rfl rfl rfl (dc := 1) (fun _ e => D_X9_ruler_3 e hH1) (fun v2 r_v2 hF => dw_po rfl rfl rfl rfl hH1 d_c47_3 r_v2 hF (fun s3 h3 hH3 hF => dw_aln rfl (d_s1 rfl rfl (by decide)) (dw_aln rfl p_lk_s1 (dw_gi (k := 6) rfl rfl rfl hH3 d_c6_6 (dw_pi (k := 5) rfl rfl rfl rfl hH3 d_c47_5 hH3.r (by decide) hF (fun s4 h4 hH4 hF => dw_aln rfl (d_s1 rfl rfl (by decide)) (dw_aln rfl p_lk_s1 (dw_gi (k := 3) rfl rfl rfl hH4 d_c6_3 (dw_pi (k := 6) rfl rfl rfl rfl hH4 d_c47_6 hH4.r (by decide) hF (fun s5 h5 hH5 hF => ?_))))))))))
  refine dw_aln rfl (d_s1 rfl rfl (by decide)) (dw_aln rfl p_lk_s1 (dw_gi (k := 4) rfl rfl rfl hH5 d_c6_4 (dw_pi (k := 7) rfl rfl rfl rfl hH5 d_c47_7 hH5.r (by decide) hF (fun s6 h6 hH6 hF => dw_aln rfl (d_s1 rfl rfl (by decide)) (dw_aln rfl p_lk_s1 (dw_iln rfl (d_s1 rfl rfl (by decide)) (dw_vP hF rfl (d_vir (n := 2) rfl rfl rfl rfl rfl hH6 d_c6_0 rfl) rfl rfl rfl (dc := 1) (fun _ e => D_X10_strawOn_6 e hH6 r_x1) (fun v7 r_v7 hF => dw_pi (k := 8) rfl rfl rfl rfl hH6 d_c47_8 r_v7 (by decide) hF (fun s8 h8 hH8 hF => dw_aln rfl (d_s1 rfl rfl (by decide)) (?_))))))))))
  refine dw_aln rfl p_lk_s1 (dw_iln rfl (d_s1 rfl rfl (by decide)) (dw_vP hF rfl (d_vir (n := 2) rfl rfl rfl rfl rfl hH8 d_c6_0 rfl) rfl rfl rfl (dc := 1) (fun _ e => D_X10_meltedOf_6 e hH8 r_x1) (fun v9 r_v9 hF => dw_pi (k := 9) rfl rfl rfl rfl hH8 d_c47_9 r_v9 (by decide) hF (fun s10 h10 hH10 hF => dw_aln rfl (d_s1 rfl rfl (by decide)) (dw_aln rfl p_lk_s1 (dw_iln rfl (d_s1 rfl rfl (by decide)) (dw_vB hF rfl (d_vir (n := 2) rfl rfl rfl rfl rfl hH10 d_c6_0 rfl) rfl rfl rfl (dc := 1) (fun _ e => D_X10_isSold_6 e hH10 r_x1) (fun v11 r_v11 hF => dw_pb (k := 10) rfl rfl rfl rfl hH10 d_c47_10 r_v11 (by decide) hF (fun s12 h12 hH12 hF => dw_aln rfl (d_s1 rfl rfl (by decide)) (?_))))))))))
  refine dw_gr rfl rfl rfl hH12 d_c47_2 (dw_aln rfl (d_s1 rfl rfl (by decide)) (dw_gr rfl rfl rfl hH12 d_c47_1 (dw_iln rfl (d_s1 rfl rfl (by decide)) (dw_vP hF rfl (d_vir (n := 2) rfl rfl rfl rfl rfl hH12 d_c37_0 rfl) rfl rfl rfl (dc := 1) (fun _ e => D_X4_sizeOf e hH12 r_x1) (fun v13 r_v13 hF => dw_aln rfl (d_s1 rfl rfl (by decide)) (dw_gr rfl rfl rfl hH12 d_c47_1 (dw_iln rfl (d_s1 rfl rfl (by decide)) (dw_vP hF rfl (d_vir (n := 2) rfl rfl rfl rfl rfl hH12 d_c37_0 rfl) rfl rfl rfl (dc := 1) (fun _ e => D_X4_edgeOf e hH12 r_x1) (fun v14 r_v14 hF => dw_vV hF rfl (d_vir (n := 3) rfl rfl rfl rfl rfl hH12 d_c48_0 rfl) rfl rfl rfl (dc := 0) (fun _ e => D_X1_tellBlock e hH12 r_v13 r_v14) (fun s15 h15 hH15 hF => ?_))))))))))
  exact dw_rV rfl rfl hH15 hF
set_option maxRecDepth 100000 in
noncomputable def F_X1_tellDay (s : d_S) (x1 : Int) (x2 : Int) (x3 : Int) (x4 : Int) : Option (d_S) :=
  d_l (d_si s 49 (1) x1) (fun s1 => d_l (d_si s1 49 (2) x2) (fun s2 => d_l (d_si s2 49 (0) x3) (fun s3 => d_l (d_si s3 49 (4) x4) (fun s4 => some s4))))
set_option maxRecDepth 100000 in
theorem D_X1_tellDay {t : Nat → Option p_C} {h : p_H} {s : d_S} {x1 : Int} {x2 : Int} {x3 : Int} {x4 : Int} {r : d_S} (hF : F_X1_tellDay s x1 x2 x3 x4 = some r) (hH : d_V t h s) (r_x1 : d_R x1) (r_x2 : d_R x2) (r_x3 : d_R x3) (r_x4 : d_R x4) : p_wp p_GT p_MT 0 m_X1_tellDay 0 (lv_args 0 [.ref 48, .int (Int32.ofInt x1), .int (Int32.ofInt x2), .int (Int32.ofInt x3), .int (Int32.ofInt x4)]) [] h (d_QV t r) := by
  unfold F_X1_tellDay at hF
  refine dw_aln rfl rfl (dw_gr rfl rfl rfl hH d_c48_0 (dw_ic rfl (dw_iln rfl rfl (dw_ast rfl hH d_a49 (by decide) (by decide) (d_rl rfl) (k := 1) rfl r_x1 hF (fun s1 h1 hH1 hF => dw_aln rfl rfl (dw_gr rfl rfl rfl hH1 d_c48_0 (dw_ic rfl (dw_iln rfl rfl (dw_ast rfl hH1 d_a49 (by decide) (by decide) (d_rl rfl) (k := 2) rfl r_x2 hF (fun s2 h2 hH2 hF => ?_))))))))))
  refine dw_aln rfl rfl (dw_gr rfl rfl rfl hH2 d_c48_0 (dw_ic rfl (dw_iln rfl rfl (dw_ast rfl hH2 d_a49 (by decide) (by decide) (d_rl rfl) (k := 0) rfl r_x3 hF (fun s3 h3 hH3 hF => dw_aln rfl rfl (dw_gr rfl rfl rfl hH3 d_c48_0 (dw_ic rfl (dw_il rfl rfl (dw_ast rfl hH3 d_a49 (by decide) (by decide) (d_rl rfl) (k := 4) rfl r_x4 hF (fun s4 h4 hH4 hF => ?_))))))))))
  exact dw_rV rfl rfl hH4 hF
set_option maxRecDepth 100000 in
noncomputable def F_J9_max_7cf53 (x0 : Int) (x1 : Int) : Option (Int) :=
  if x0 < x1 then
  some x1
  else
  some x0
set_option maxRecDepth 100000 in
theorem D_J9_max_7cf53 {h : p_H} {x0 : Int} {x1 : Int} {r : Int} (hF : F_J9_max_7cf53 x0 x1 = some r) (r_x0 : d_R x0) (r_x1 : d_R x1) : p_wp p_GT p_MT 0 m_J9_max_7cf53 0 (lv_args 0 [.int (Int32.ofInt x0), .int (Int32.ofInt x1)]) [] h (d_QP h r) := by
  unfold F_J9_max_7cf53 at hF
  refine dw_iln rfl rfl (dw_iln rfl rfl (?_))
  refine d_if hF (fun q hF => ?_) (fun q hF => ?_)
  · refine dw_lt_y rfl (u := 9) rfl r_x0 r_x1 q ?_
    exact dw_iln rfl rfl (dw_rP rfl rfl r_x1 hF)
  · refine dw_lt_n rfl (u := 9) rfl r_x0 r_x1 q ?_
    exact dw_iln rfl rfl (dw_go rfl (u := 10) rfl (dw_rP rfl rfl r_x0 hF))
set_option maxRecDepth 100000 in
noncomputable def F_J9_min_f86c9 (x0 : Int) (x2 : Int) : Option (Int) :=
  if x2 < x0 then
  some x2
  else
  some x0
set_option maxRecDepth 100000 in
theorem D_J9_min_f86c9 {h : p_H} {x0 : Int} {x2 : Int} {r : Int} (hF : F_J9_min_f86c9 x0 x2 = some r) (r_x0 : d_RL x0) (r_x2 : d_RL x2) : p_wp p_GT p_MT 0 m_J9_min_f86c9 0 (lv_args 0 [.long (Int64.ofInt x0), .long (Int64.ofInt x2)]) [] h (d_QL h r) := by
  unfold F_J9_min_f86c9 at hF
  refine dw_lln rfl rfl (dw_lln rfl rfl (?_))
  refine d_if hF (fun q hF => ?_) (fun q hF => ?_)
  · refine dw_Lgt_y rfl rfl (u := 10) rfl r_x0 r_x2 q ?_
    exact dw_lln rfl rfl (dw_rL rfl rfl r_x2 hF)
  · refine dw_Lgt_n rfl rfl (u := 10) rfl r_x0 r_x2 q ?_
    exact dw_lln rfl rfl (dw_go rfl (u := 11) rfl (dw_rL rfl rfl r_x0 hF))
set_option maxRecDepth 100000 in
noncomputable def F_J9_max_f86c9 (x0 : Int) (x2 : Int) : Option (Int) :=
  if x0 < x2 then
  some x2
  else
  some x0
set_option maxRecDepth 100000 in
theorem D_J9_max_f86c9 {h : p_H} {x0 : Int} {x2 : Int} {r : Int} (hF : F_J9_max_f86c9 x0 x2 = some r) (r_x0 : d_RL x0) (r_x2 : d_RL x2) : p_wp p_GT p_MT 0 m_J9_max_f86c9 0 (lv_args 0 [.long (Int64.ofInt x0), .long (Int64.ofInt x2)]) [] h (d_QL h r) := by
  unfold F_J9_max_f86c9 at hF
  refine dw_lln rfl rfl (dw_lln rfl rfl (?_))
  refine d_if hF (fun q hF => ?_) (fun q hF => ?_)
  · refine dw_Llt_y rfl rfl (u := 10) rfl r_x0 r_x2 q ?_
    exact dw_lln rfl rfl (dw_rL rfl rfl r_x2 hF)
  · refine dw_Llt_n rfl rfl (u := 10) rfl r_x0 r_x2 q ?_
    exact dw_lln rfl rfl (dw_go rfl (u := 11) rfl (dw_rL rfl rfl r_x0 hF))

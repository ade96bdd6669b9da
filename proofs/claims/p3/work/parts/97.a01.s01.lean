set_option maxRecDepth 100000 in
noncomputable def F_X5_choose_5_l71_b (k140 : Int → Int → Int → Int → d_S → Option (d_S)) (rec : Int → Int → Int → Int → Int → d_S → Option (d_S)) (x1 : Int) (x2 : Int) (x3 : Int) (x4 : Int) (x5 : Int) (s : d_S) : Option (d_S) :=
  d_g (0 ≤ x1 ∧ x1 < 5) (if x5 < (s.1 58 (x1.toNat)) then
  if x5 < 5 then
  d_g (0 ≤ (d_w ((x1 * 5) + x5)) ∧ (d_w ((x1 * 5) + x5)) < 25) (d_l (s.1 57 (((d_w ((x1 * 5) + x5))).toNat)) (fun z4 => d_b (F_X5_isFree s z4 x1) (fun v5 => if v5 = 0 then
  rec x1 x2 x3 x4 (d_w (x5 + 1)) s
  else
  d_g (0 ≤ x1 ∧ x1 < 5) (d_l (d_si s 59 ((x1).toNat) z4) (fun s7 => d_b (F_X5_choose_4 s7 (d_w (x1 + 1)) (d_w (x2 + x4)) (d_w (x3 - x4))) (fun s8 => rec x1 x2 x3 x4 (d_w (x5 + 1)) s8))))))
  else
  k140 x1 x2 x3 x4 s
  else
  k140 x1 x2 x3 x4 s)
set_option maxRecDepth 100000 in
noncomputable def F_X5_choose_5_l71 (k140 : Int → Int → Int → Int → d_S → Option (d_S)) : Nat → Int → Int → Int → Int → Int → d_S → Option (d_S)
  | 0 => fun _ _ _ _ _ _ => none
  | n + 1 => F_X5_choose_5_l71_b k140 (F_X5_choose_5_l71 k140 n)
set_option maxRecDepth 100000 in
theorem D_X5_choose_5_l71 {t : Nat → Option p_C} {k140 : Int → Int → Int → Int → d_S → Option (d_S)} {r : d_S} (hk140 : ∀ {x1 : Int} {x2 : Int} {x3 : Int} {x4 : Int} {ls : p_Ls} {s : d_S} {h : p_H}, k140 x1 x2 x3 x4 s = some r → d_V t h s → p_lk 0 ls = some (.ref 56) → d_R x1 → p_lk 1 ls = some (.int (Int32.ofInt x1)) → d_R x2 → p_lk 2 ls = some (.int (Int32.ofInt x2)) → d_R x3 → p_lk 3 ls = some (.int (Int32.ofInt x3)) → d_R x4 → p_lk 4 ls = some (.int (Int32.ofInt x4)) → p_wp p_GT p_MT 5 m_X5_choose 140 ls [] h (d_QV t r)) : ∀ (n : Nat) {x1 : Int} {x2 : Int} {x3 : Int} {x4 : Int} {x5 : Int} {ls : p_Ls} {s : d_S} {h : p_H}, F_X5_choose_5_l71 k140 n x1 x2 x3 x4 x5 s = some r → d_V t h s → p_lk 0 ls = some (.ref 56) → d_R x1 → p_lk 1 ls = some (.int (Int32.ofInt x1)) → d_R x2 → p_lk 2 ls = some (.int (Int32.ofInt x2)) → d_R x3 → p_lk 3 ls = some (.int (Int32.ofInt x3)) → d_R x4 → p_lk 4 ls = some (.int (Int32.ofInt x4)) → d_R x5 → p_lk 5 ls = some (.int (Int32.ofInt x5)) → p_wp p_GT p_MT 5 m_X5_choose 71 ls [] h (d_QV t r) := by
  intro n
  induction n with
  | zero =>
    intro x1 x2 x3 x4 x5 ls s h hF hH l0 r_x1 l1 r_x2 l2 r_x3 l3 r_x4 l4 r_x5 l5
    cases (show (none : Option (d_S)) = some r from hF)
  | succ n ih =>
    intro x1 x2 x3 x4 x5 ls s h hF hH l0 r_x1 l1 r_x2 l2 r_x3 l3 r_x4 l4 r_x5 l5
    have hF : F_X5_choose_5_l71_b k140 (F_X5_choose_5_l71 k140 n) x1 x2 x3 x4 x5 s = some r := hF
    unfold F_X5_choose_5_l71_b at hF
    refine dw_il rfl l5 (dw_aln rfl l0 (dw_gr rfl rfl rfl hH d_c56_4 (dw_iln rfl l1 (d_gd hF (fun g2 hF => dw_ald rfl hH d_a58 rfl g2.1 g2.2 r_x1 rfl (?_))))))
    refine d_if hF (fun q hF => ?_) (fun q hF => ?_)
    · refine dw_ge_y rfl (u := 140) rfl r_x5 hH.r q ?_
      refine dw_il rfl l5 (dw_ic rfl (?_))
      refine d_if hF (fun q hF => ?_) (fun q hF => ?_)
      · refine dw_ge_y rfl (u := 140) rfl r_x5 (d_rl rfl) q ?_
        refine dw_aln rfl l0 (dw_gr rfl rfl rfl hH d_c56_3 (dw_iln rfl l1 (dw_ic rfl (dw_mul rfl (dw_il rfl l5 (dw_add rfl (dw_w1 (d_gd hF (fun g3 hF => dw_ald rfl hH d_a57 rfl g3.1 g3.2 d_R_w rfl (?_))))))))))
        refine dw_nm hF hH.r (fun z4 r_z4 hF => dw_is rfl rfl (dw_aln rfl (d_s1 l0 rfl (by decide)) (dw_il rfl p_lk_s1 (dw_iln rfl (d_s1 l1 rfl (by decide)) (dw_vB hF rfl (d_vir (n := 3) rfl rfl rfl rfl rfl hH d_c56_0 rfl) rfl rfl rfl (dc := 0) (fun _ e => D_X5_isFree e hH r_z4 r_x1) (fun v5 r_v5 hF => ?_))))))
        refine d_if hF (fun q hF => ?_) (fun q hF => ?_)
        · refine dw_zeq_y rfl (u := 134) rfl (d_R_b r_v5) q ?_
          refine dw_ii rfl (d_s1 l5 rfl (by decide)) rfl (dw_go rfl (u := 71) rfl (?_))
          exact ih hF hH (d_s1 (d_s1 l0 rfl (by decide)) rfl (by decide)) r_x1 (d_s1 (d_s1 l1 rfl (by decide)) rfl (by decide)) r_x2 (d_s1 (d_s1 l2 rfl (by decide)) rfl (by decide)) r_x3 (d_s1 (d_s1 l3 rfl (by decide)) rfl (by decide)) r_x4 (d_s1 (d_s1 l4 rfl (by decide)) rfl (by decide)) d_R_w p_lk_s1
        · refine dw_zeq_n rfl (u := 134) rfl (d_R_b r_v5) q ?_
          refine dw_aln rfl (d_s1 l0 rfl (by decide)) (dw_gr rfl rfl rfl hH d_c56_5 (dw_iln rfl (d_s1 l1 rfl (by decide)) (dw_il rfl p_lk_s1 (d_gd hF (fun g6 hF => dw_ast rfl hH d_a59 g6.1 g6.2 r_x1 rfl r_z4 hF (fun s7 h7 hH7 hF => dw_aln rfl (d_s1 l0 rfl (by decide)) (dw_iln rfl (d_s1 l1 rfl (by decide)) (dw_ic rfl (dw_add rfl (?_))))))))))
          refine dw_iln rfl (d_s1 l2 rfl (by decide)) (dw_il rfl (d_s1 l4 rfl (by decide)) (dw_add rfl (dw_iln rfl (d_s1 l3 rfl (by decide)) (dw_il rfl (d_s1 l4 rfl (by decide)) (dw_sub rfl (dw_w1 (dw_w2 (dw_w3 (dw_vV hF rfl (d_vir (n := 4) rfl rfl rfl rfl rfl hH7 d_c56_0 rfl) rfl rfl rfl (dc := 4) (fun _ e => D_X5_choose_4 e hH7 d_R_w d_R_w d_R_w) (fun s8 h8 hH8 hF => ?_))))))))))
          refine dw_ii rfl (d_s1 l5 rfl (by decide)) rfl (dw_go rfl (u := 71) rfl (?_))
          exact ih hF hH8 (d_s1 (d_s1 l0 rfl (by decide)) rfl (by decide)) r_x1 (d_s1 (d_s1 l1 rfl (by decide)) rfl (by decide)) r_x2 (d_s1 (d_s1 l2 rfl (by decide)) rfl (by decide)) r_x3 (d_s1 (d_s1 l3 rfl (by decide)) rfl (by decide)) r_x4 (d_s1 (d_s1 l4 rfl (by decide)) rfl (by decide)) d_R_w p_lk_s1
      · refine dw_ge_n rfl (u := 140) rfl r_x5 (d_rl rfl) q ?_
        exact hk140 hF hH l0 r_x1 l1 r_x2 l2 r_x3 l3 r_x4 l4
    · refine dw_ge_n rfl (u := 140) rfl r_x5 hH.r q ?_
      exact hk140 hF hH l0 r_x1 l1 r_x2 l2 r_x3 l3 r_x4 l4
set_option maxRecDepth 100000 in
noncomputable def F_X5_choose_5_j30 (x2 : Int) (s : d_S) : Option (d_S) :=
  d_l (d_si s 56 7 x2) (fun s13 => d_l (d_cp s13 59 0 60 0 5) (fun s14 => some s14))
set_option maxRecDepth 100000 in
theorem D_X5_choose_5_j30 {t : Nat → Option p_C} {h : p_H} {s : d_S} {x2 : Int} {r : d_S} {ls : p_Ls} (hF : F_X5_choose_5_j30 x2 s = some r) (hH : d_V t h s) (l0 : p_lk 0 ls = some (.ref 56)) (r_x2 : d_R x2) (l2 : p_lk 2 ls = some (.int (Int32.ofInt x2))) : p_wp p_GT p_MT 5 m_X5_choose 30 ls [] h (d_QV t r) := by
  unfold F_X5_choose_5_j30 at hF
  refine dw_aln rfl l0 (dw_iln rfl l2 (dw_pi (k := 7) rfl rfl rfl rfl hH d_c56_7 r_x2 (by decide) hF (fun s13 h13 hH13 hF => dw_aln rfl l0 (dw_gr rfl rfl rfl hH13 d_c56_5 (dw_ic rfl (dw_aln rfl l0 (dw_gr rfl rfl rfl hH13 d_c56_6 (dw_ic rfl (dw_aln rfl l0 (?_))))))))))
  exact dw_gr rfl rfl rfl hH13 d_c56_6 (dw_len rfl hH13 d_a60 rfl (z := 5) rfl (dw_cpy rfl rfl hH13 d_a59 d_a60 (d_rl rfl) (d_rl rfl) (d_rl rfl) (by decide) rfl hF (fun s14 h14 hH14 hF => dw_rV rfl rfl hH14 hF)))
set_option maxRecDepth 100000 in
noncomputable def F_X5_choose_5 (s : d_S) (x1 : Int) (x2 : Int) (x3 : Int) : Option (d_S) :=
  if (s.1 56 7) < (d_w (x2 + x3)) then
  if x1 < (s.1 10 2) then
  if x1 < 5 then
  d_b (F_X8_part_10 s x1 2) (fun v1 => F_X5_choose_5_l71 (fun x1_u9 x2_u9 x3_u9 x4_u9 s_u9 =>
  d_g (0 ≤ x1_u9 ∧ x1_u9 < 5) (d_l (d_si s_u9 59 ((x1_u9).toNat) (-1)) (fun s11 => d_b (F_X5_choose_4 s11 (d_w (x1_u9 + 1)) x2_u9 (d_w (x3_u9 - x4_u9))) (fun s12 => some s12)))) d_N x1 x2 x3 v1 0 s)
  else
  F_X5_choose_5_j30 x2 s
  else
  F_X5_choose_5_j30 x2 s
  else
  some s
set_option maxRecDepth 100000 in
theorem D_X5_choose_5 {t : Nat → Option p_C} {h : p_H} {s : d_S} {x1 : Int} {x2 : Int} {x3 : Int} {r : d_S} (hF : F_X5_choose_5 s x1 x2 x3 = some r) (hH : d_V t h s) (r_x1 : d_R x1) (r_x2 : d_R x2) (r_x3 : d_R x3) : p_wp p_GT p_MT 5 m_X5_choose 0 (lv_args 0 [.ref 56, .int (Int32.ofInt x1), .int (Int32.ofInt x2), .int (Int32.ofInt x3)]) [] h (d_QV t r) := by
  unfold F_X5_choose_5 at hF
  refine dw_iln rfl rfl (dw_iln rfl rfl (dw_add rfl (dw_aln rfl rfl (dw_gi (k := 7) rfl rfl rfl hH d_c56_7 (dw_w2 (?_))))))
  refine d_if hF (fun q hF => ?_) (fun q hF => ?_)
  · refine dw_gt_y rfl (u := 11) rfl d_R_w hH.r q ?_
    refine dw_iln rfl rfl (dw_aln rfl rfl (dw_gr rfl rfl rfl hH d_c56_0 (dw_gr rfl rfl rfl hH d_c3_10 (dw_gi (k := 2) rfl rfl rfl hH d_c10_2 (?_)))))
    refine d_if hF (fun q hF => ?_) (fun q hF => ?_)
    · refine dw_ge_y rfl (u := 30) rfl r_x1 hH.r q ?_
      refine dw_iln rfl rfl (dw_ic rfl (?_))
      refine d_if hF (fun q hF => ?_) (fun q hF => ?_)
      · refine dw_lt_y rfl (u := 54) rfl r_x1 (d_rl rfl) q ?_
        refine dw_aln rfl rfl (dw_gr rfl rfl rfl hH d_c56_0 (dw_gr rfl rfl rfl hH d_c3_10 (dw_iln rfl rfl (dw_ic rfl (dw_vP hF rfl (d_vir (n := 3) rfl rfl rfl rfl rfl hH d_c10_0 rfl) rfl rfl rfl (dc := 0) (fun _ e => D_X8_part_10 e hH r_x1 (d_rl rfl)) (fun v1 r_v1 hF => dw_is rfl rfl (dw_ic rfl (dw_is rfl rfl (?_)))))))))
        refine D_X5_choose_5_l71 (fun {x1_u9} {x2_u9} {x3_u9} {x4_u9} {ls_u9} {s_u9} {h_u9} hF hH_u9 l0_u9 r_x1_u9 l1_u9 r_x2_u9 l2_u9 r_x3_u9 l3_u9 r_x4_u9 l4_u9 => ?_) _ hF hH (d_s1 (d_s1 rfl rfl (by decide)) rfl (by decide)) r_x1 (d_s1 (d_s1 rfl rfl (by decide)) rfl (by decide)) r_x2 (d_s1 (d_s1 rfl rfl (by decide)) rfl (by decide)) r_x3 (d_s1 (d_s1 rfl rfl (by decide)) rfl (by decide)) r_v1 (d_s1 p_lk_s1 rfl (by decide)) (d_rl rfl) p_lk_s1
        · refine dw_aln rfl l0_u9 (dw_gr rfl rfl rfl hH_u9 d_c56_5 (dw_iln rfl l1_u9 (dw_ic rfl (d_gd hF (fun g10 hF => dw_ast rfl hH_u9 d_a59 g10.1 g10.2 r_x1_u9 rfl (d_rl rfl) hF (fun s11 h11 hH11 hF => dw_aln rfl l0_u9 (dw_iln rfl l1_u9 (dw_ic rfl (dw_add rfl (?_))))))))))
          exact dw_iln rfl l2_u9 (dw_iln rfl l3_u9 (dw_il rfl l4_u9 (dw_sub rfl (dw_w1 (dw_w3 (dw_vV hF rfl (d_vir (n := 4) rfl rfl rfl rfl rfl hH11 d_c56_0 rfl) rfl rfl rfl (dc := 4) (fun _ e => D_X5_choose_4 e hH11 d_R_w r_x2_u9 d_R_w) (fun s12 h12 hH12 hF => dw_rV rfl rfl hH12 hF)))))))
      · refine dw_lt_n rfl (u := 54) rfl r_x1 (d_rl rfl) q ?_
        exact D_X5_choose_5_j30 hF hH rfl r_x2 rfl
    · refine dw_ge_n rfl (u := 30) rfl r_x1 hH.r q ?_
      exact D_X5_choose_5_j30 hF hH rfl r_x2 rfl
  · refine dw_gt_n rfl (u := 11) rfl d_R_w hH.r q ?_
    exact dw_rV rfl rfl hH hF
set_option maxRecDepth 100000 in
noncomputable def F_X5_choose_6_l71_b (k140 : Int → Int → Int → Int → d_S → Option (d_S)) (rec : Int → Int → Int → Int → Int → d_S → Option (d_S)) (x1 : Int) (x2 : Int) (x3 : Int) (x4 : Int) (x5 : Int) (s : d_S) : Option (d_S) :=
  d_g (0 ≤ x1 ∧ x1 < 5) (if x5 < (s.1 58 (x1.toNat)) then
  if x5 < 5 then
  d_g (0 ≤ (d_w ((x1 * 5) + x5)) ∧ (d_w ((x1 * 5) + x5)) < 25) (d_l (s.1 57 (((d_w ((x1 * 5) + x5))).toNat)) (fun z4 => d_b (F_X5_isFree s z4 x1) (fun v5 => if v5 = 0 then
  rec x1 x2 x3 x4 (d_w (x5 + 1)) s
  else
  d_g (0 ≤ x1 ∧ x1 < 5) (d_l (d_si s 59 ((x1).toNat) z4) (fun s7 => d_b (F_X5_choose_5 s7 (d_w (x1 + 1)) (d_w (x2 + x4)) (d_w (x3 - x4))) (fun s8 => rec x1 x2 x3 x4 (d_w (x5 + 1)) s8))))))
  else
  k140 x1 x2 x3 x4 s
  else
  k140 x1 x2 x3 x4 s)
set_option maxRecDepth 100000 in
noncomputable def F_X5_choose_6_l71 (k140 : Int → Int → Int → Int → d_S → Option (d_S)) : Nat → Int → Int → Int → Int → Int → d_S → Option (d_S)
  | 0 => fun _ _ _ _ _ _ => none
  | n + 1 => F_X5_choose_6_l71_b k140 (F_X5_choose_6_l71 k140 n)
set_option maxRecDepth 100000 in
theorem D_X5_choose_6_l71 {t : Nat → Option p_C} {k140 : Int → Int → Int → Int → d_S → Option (d_S)} {r : d_S} (hk140 : ∀ {x1 : Int} {x2 : Int} {x3 : Int} {x4 : Int} {ls : p_Ls} {s : d_S} {h : p_H}, k140 x1 x2 x3 x4 s = some r → d_V t h s → p_lk 0 ls = some (.ref 56) → d_R x1 → p_lk 1 ls = some (.int (Int32.ofInt x1)) → d_R x2 → p_lk 2 ls = some (.int (Int32.ofInt x2)) → d_R x3 → p_lk 3 ls = some (.int (Int32.ofInt x3)) → d_R x4 → p_lk 4 ls = some (.int (Int32.ofInt x4)) → p_wp p_GT p_MT 6 m_X5_choose 140 ls [] h (d_QV t r)) : ∀ (n : Nat) {x1 : Int} {x2 : Int} {x3 : Int} {x4 : Int} {x5 : Int} {ls : p_Ls} {s : d_S} {h : p_H}, F_X5_choose_6_l71 k140 n x1 x2 x3 x4 x5 s = some r → d_V t h s → p_lk 0 ls = some (.ref 56) → d_R x1 → p_lk 1 ls = some (.int (Int32.ofInt x1)) → d_R x2 → p_lk 2 ls = some (.int (Int32.ofInt x2)) → d_R x3 → p_lk 3 ls = some (.int (Int32.ofInt x3)) → d_R x4 → p_lk 4 ls = some (.int (Int32.ofInt x4)) → d_R x5 → p_lk 5 ls = some (.int (Int32.ofInt x5)) → p_wp p_GT p_MT 6 m_X5_choose 71 ls [] h (d_QV t r) := by
  intro n
  induction n with
  | zero =>
    intro x1 x2 x3 x4 x5 ls s h hF hH l0 r_x1 l1 r_x2 l2 r_x3 l3 r_x4 l4 r_x5 l5
    cases (show (none : Option (d_S)) = some r from hF)
  | succ n ih =>
    intro x1 x2 x3 x4 x5 ls s h hF hH l0 r_x1 l1 r_x2 l2 r_x3 l3 r_x4 l4 r_x5 l5
    have hF : F_X5_choose_6_l71_b k140 (F_X5_choose_6_l71 k140 n) x1 x2 x3 x4 x5 s = some r := hF
    unfold F_X5_choose_6_l71_b at hF
    refine dw_il rfl l5 (dw_aln rfl l0 (dw_gr rfl rfl rfl hH d_c56_4 (dw_iln rfl l1 (d_gd hF (fun g2 hF => dw_ald rfl hH d_a58 rfl g2.1 g2.2 r_x1 rfl (?_))))))
    refine d_if hF (fun q hF => ?_) (fun q hF => ?_)
    · refine dw_ge_y rfl (u := 140) rfl r_x5 hH.r q ?_
      refine dw_il rfl l5 (dw_ic rfl (?_))
      refine d_if hF (fun q hF => ?_) (fun q hF => ?_)
      · refine dw_ge_y rfl (u := 140) rfl r_x5 (d_rl rfl) q ?_
        refine dw_aln rfl l0 (dw_gr rfl rfl rfl hH d_c56_3 (dw_iln rfl l1 (dw_ic rfl (dw_mul rfl (dw_il rfl l5 (dw_add rfl (dw_w1 (d_gd hF (fun g3 hF => dw_ald rfl hH d_a57 rfl g3.1 g3.2 d_R_w rfl (?_))))))))))
        refine dw_nm hF hH.r (fun z4 r_z4 hF => dw_is rfl rfl (dw_aln rfl (d_s1 l0 rfl (by decide)) (dw_il rfl p_lk_s1 (dw_iln rfl (d_s1 l1 rfl (by decide)) (dw_vB hF rfl (d_vir (n := 3) rfl rfl rfl rfl rfl hH d_c56_0 rfl) rfl rfl rfl (dc := 0) (fun _ e => D_X5_isFree e hH r_z4 r_x1) (fun v5 r_v5 hF => ?_))))))
        refine d_if hF (fun q hF => ?_) (fun q hF => ?_)
        · refine dw_zeq_y rfl (u := 134) rfl (d_R_b r_v5) q ?_
          refine dw_ii rfl (d_s1 l5 rfl (by decide)) rfl (dw_go rfl (u := 71) rfl (?_))
          exact ih hF hH (d_s1 (d_s1 l0 rfl (by decide)) rfl (by decide)) r_x1 (d_s1 (d_s1 l1 rfl (by decide)) rfl (by decide)) r_x2 (d_s1 (d_s1 l2 rfl (by decide)) rfl (by decide)) r_x3 (d_s1 (d_s1 l3 rfl (by decide)) rfl (by decide)) r_x4 (d_s1 (d_s1 l4 rfl (by decide)) rfl (by decide)) d_R_w p_lk_s1
        · refine dw_zeq_n rfl (u := 134) rfl (d_R_b r_v5) q ?_
          refine dw_aln rfl (d_s1 l0 rfl (by decide)) (dw_gr rfl rfl rfl hH d_c56_5 (dw_iln rfl (d_s1 l1 rfl (by decide)) (dw_il rfl p_lk_s1 (d_gd hF (fun g6 hF => dw_ast rfl hH d_a59 g6.1 g6.2 r_x1 rfl r_z4 hF (fun s7 h7 hH7 hF => dw_aln rfl (d_s1 l0 rfl (by decide)) (dw_iln rfl (d_s1 l1 rfl (by decide)) (dw_ic rfl (dw_add rfl (?_))))))))))
          refine dw_iln rfl (d_s1 l2 rfl (by decide)) (dw_il rfl (d_s1 l4 rfl (by decide)) (dw_add rfl (dw_iln rfl (d_s1 l3 rfl (by decide)) (dw_il rfl (d_s1 l4 rfl (by decide)) (dw_sub rfl (dw_w1 (dw_w2 (dw_w3 (dw_vV hF rfl (d_vir (n := 4) rfl rfl rfl rfl rfl hH7 d_c56_0 rfl) rfl rfl rfl (dc := 5) (fun _ e => D_X5_choose_5 e hH7 d_R_w d_R_w d_R_w) (fun s8 h8 hH8 hF => ?_))))))))))
          refine dw_ii rfl (d_s1 l5 rfl (by decide)) rfl (dw_go rfl (u := 71) rfl (?_))
          exact ih hF hH8 (d_s1 (d_s1 l0 rfl (by decide)) rfl (by decide)) r_x1 (d_s1 (d_s1 l1 rfl (by decide)) rfl (by decide)) r_x2 (d_s1 (d_s1 l2 rfl (by decide)) rfl (by decide)) r_x3 (d_s1 (d_s1 l3 rfl (by decide)) rfl (by decide)) r_x4 (d_s1 (d_s1 l4 rfl (by decide)) rfl (by decide)) d_R_w p_lk_s1
      · refine dw_ge_n rfl (u := 140) rfl r_x5 (d_rl rfl) q ?_
        exact hk140 hF hH l0 r_x1 l1 r_x2 l2 r_x3 l3 r_x4 l4
    · refine dw_ge_n rfl (u := 140) rfl r_x5 hH.r q ?_
      exact hk140 hF hH l0 r_x1 l1 r_x2 l2 r_x3 l3 r_x4 l4
set_option maxRecDepth 100000 in
noncomputable def F_X5_choose_6_j30 (x2 : Int) (s : d_S) : Option (d_S) :=
  d_l (d_si s 56 7 x2) (fun s13 => d_l (d_cp s13 59 0 60 0 5) (fun s14 => some s14))
set_option maxRecDepth 100000 in
theorem D_X5_choose_6_j30 {t : Nat → Option p_C} {h : p_H} {s : d_S} {x2 : Int} {r : d_S} {ls : p_Ls} (hF : F_X5_choose_6_j30 x2 s = some r) (hH : d_V t h s) (l0 : p_lk 0 ls = some (.ref 56)) (r_x2 : d_R x2) (l2 : p_lk 2 ls = some (.int (Int32.ofInt x2))) : p_wp p_GT p_MT 6 m_X5_choose 30 ls [] h (d_QV t r) := by
  unfold F_X5_choose_6_j30 at hF
  refine dw_aln rfl l0 (dw_iln rfl l2 (dw_pi (k := 7) rfl rfl rfl rfl hH d_c56_7 r_x2 (by decide) hF (fun s13 h13 hH13 hF => dw_aln rfl l0 (dw_gr rfl rfl rfl hH13 d_c56_5 (dw_ic rfl (dw_aln rfl l0 (dw_gr rfl rfl rfl hH13 d_c56_6 (dw_ic rfl (dw_aln rfl l0 (?_))))))))))
  exact dw_gr rfl rfl rfl hH13 d_c56_6 (dw_len rfl hH13 d_a60 rfl (z := 5) rfl (dw_cpy rfl rfl hH13 d_a59 d_a60 (d_rl rfl) (d_rl rfl) (d_rl rfl) (by decide) rfl hF (fun s14 h14 hH14 hF => dw_rV rfl rfl hH14 hF)))
set_option maxRecDepth 100000 in
noncomputable def F_X5_choose_6 (s : d_S) (x1 : Int) (x2 : Int) (x3 : Int) : Option (d_S) :=
  if (s.1 56 7) < (d_w (x2 + x3)) then
  if x1 < (s.1 10 2) then
  if x1 < 5 then
  d_b (F_X8_part_10 s x1 2) (fun v1 => F_X5_choose_6_l71 (fun x1_u9 x2_u9 x3_u9 x4_u9 s_u9 =>
  d_g (0 ≤ x1_u9 ∧ x1_u9 < 5) (d_l (d_si s_u9 59 ((x1_u9).toNat) (-1)) (fun s11 => d_b (F_X5_choose_5 s11 (d_w (x1_u9 + 1)) x2_u9 (d_w (x3_u9 - x4_u9))) (fun s12 => some s12)))) d_N x1 x2 x3 v1 0 s)
  else
  F_X5_choose_6_j30 x2 s
  else
  F_X5_choose_6_j30 x2 s
  else
  some s
set_option maxRecDepth 100000 in
theorem D_X5_choose_6 {t : Nat → Option p_C} {h : p_H} {s : d_S} {x1 : Int} {x2 : Int} {x3 : Int} {r : d_S} (hF : F_X5_choose_6 s x1 x2 x3 = some r) (hH : d_V t h s) (r_x1 : d_R x1) (r_x2 : d_R x2) (r_x3 : d_R x3) : p_wp p_GT p_MT 6 m_X5_choose 0 (lv_args 0 [.ref 56, .int (Int32.ofInt x1), .int (Int32.ofInt x2), .int (Int32.ofInt x3)]) [] h (d_QV t r) := by
  unfold F_X5_choose_6 at hF
  refine dw_iln rfl rfl (dw_iln rfl rfl (dw_add rfl (dw_aln rfl rfl (dw_gi (k := 7) rfl rfl rfl hH d_c56_7 (dw_w2 (?_))))))
  refine d_if hF (fun q hF => ?_) (fun q hF => ?_)
  · refine dw_gt_y rfl (u := 11) rfl d_R_w hH.r q ?_
    refine dw_iln rfl rfl (dw_aln rfl rfl (dw_gr rfl rfl rfl hH d_c56_0 (dw_gr rfl rfl rfl hH d_c3_10 (dw_gi (k := 2) rfl rfl rfl hH d_c10_2 (?_)))))
    refine d_if hF (fun q hF => ?_) (fun q hF => ?_)
    · refine dw_ge_y rfl (u := 30) rfl r_x1 hH.r q ?_
      refine dw_iln rfl rfl (dw_ic rfl (?_))
      refine d_if hF (fun q hF => ?_) (fun q hF => ?_)
      · refine dw_lt_y rfl (u := 54) rfl r_x1 (d_rl rfl) q ?_
        refine dw_aln rfl rfl (dw_gr rfl rfl rfl hH d_c56_0 (dw_gr rfl rfl rfl hH d_c3_10 (dw_iln rfl rfl (dw_ic rfl (dw_vP hF rfl (d_vir (n := 3) rfl rfl rfl rfl rfl hH d_c10_0 rfl) rfl rfl rfl (dc := 0) (fun _ e => D_X8_part_10 e hH r_x1 (d_rl rfl)) (fun v1 r_v1 hF => dw_is rfl rfl (dw_ic rfl (dw_is rfl rfl (?_)))))))))
        refine D_X5_choose_6_l71 (fun {x1_u9} {x2_u9} {x3_u9} {x4_u9} {ls_u9} {s_u9} {h_u9} hF hH_u9 l0_u9 r_x1_u9 l1_u9 r_x2_u9 l2_u9 r_x3_u9 l3_u9 r_x4_u9 l4_u9 => ?_) _ hF hH (d_s1 (d_s1 rfl rfl (by decide)) rfl (by decide)) r_x1 (d_s1 (d_s1 rfl rfl (by decide)) rfl (by decide)) r_x2 (d_s1 (d_s1 rfl rfl (by decide)) rfl (by decide)) r_x3 (d_s1 (d_s1 rfl rfl (by decide)) rfl (by decide)) r_v1 (d_s1 p_lk_s1 rfl (by decide)) (d_rl rfl) p_lk_s1
        · refine dw_aln rfl l0_u9 (dw_gr rfl rfl rfl hH_u9 d_c56_5 (dw_iln rfl l1_u9 (dw_ic rfl (d_gd hF (fun g10 hF => dw_ast rfl hH_u9 d_a59 g10.1 g10.2 r_x1_u9 rfl (d_rl rfl) hF (fun s11 h11 hH11 hF => dw_aln rfl l0_u9 (dw_iln rfl l1_u9 (dw_ic rfl (dw_add rfl (?_))))))))))
          exact dw_iln rfl l2_u9 (dw_iln rfl l3_u9 (dw_il rfl l4_u9 (dw_sub rfl (dw_w1 (dw_w3 (dw_vV hF rfl (d_vir (n := 4) rfl rfl rfl rfl rfl hH11 d_c56_0 rfl) rfl rfl rfl (dc := 5) (fun _ e => D_X5_choose_5 e hH11 d_R_w r_x2_u9 d_R_w) (fun s12 h12 hH12 hF => dw_rV rfl rfl hH12 hF)))))))
      · refine dw_lt_n rfl (u := 54) rfl r_x1 (d_rl rfl) q ?_
        exact D_X5_choose_6_j30 hF hH rfl r_x2 rfl
    · refine dw_ge_n rfl (u := 30) rfl r_x1 hH.r q ?_
      exact D_X5_choose_6_j30 hF hH rfl r_x2 rfl
  · refine dw_gt_n rfl (u := 11) rfl d_R_w hH.r q ?_
    exact dw_rV rfl rfl hH hF
set_option maxRecDepth 100000 in
noncomputable def F_X5_deepestWhole_l5_b (s : d_S) (rec : Int → Int → Int → Int → Option (Int)) (x1 : Int) (x2 : Int) (x3 : Int) (x4 : Int) : Option (Int) :=
  if x4 < (s.1 3 3) then
  d_b (F_X9_sightPart_3 s x4 3) (fun v1 => d_b (F_X9_sightPart_3 s x4 4) (fun v2 => d_b (F_X9_sightPart_3 s x4 0) (fun v3 => if v3 = x1 then
  d_b (F_X4_cellsOf_3 s x4 x2) (fun v4 => if v4 = (d_w (v1 * v2)) then
  d_b (F_X9_sightPart_3 s x4 5) (fun v5 => d_b (F_J9_max_7cf53 x3 v5) (fun v6 => rec x1 x2 v6 (d_w (x4 + 1))))
  else
  rec x1 x2 x3 (d_w (x4 + 1)))
  else
  rec x1 x2 x3 (d_w (x4 + 1)))))
  else
  some x3
set_option maxRecDepth 100000 in
noncomputable def F_X5_deepestWhole_l5 (s : d_S) : Nat → Int → Int → Int → Int → Option (Int)
  | 0 => fun _ _ _ _ => none
  | n + 1 => F_X5_deepestWhole_l5_b s (F_X5_deepestWhole_l5 s n)
set_option maxRecDepth 100000 in
theorem D_X5_deepestWhole_l5 {t : Nat → Option p_C} {h : p_H} {s : d_S} {r : Int} (hH : d_V t h s) : ∀ (n : Nat) {x1 : Int} {x2 : Int} {x3 : Int} {x4 : Int} {ls : p_Ls}, F_X5_deepestWhole_l5 s n x1 x2 x3 x4 = some r → p_lk 0 ls = some (.ref 56) → d_R x1 → p_lk 1 ls = some (.int (Int32.ofInt x1)) → d_R x2 → p_lk 2 ls = some (.int (Int32.ofInt x2)) → d_R x3 → p_lk 3 ls = some (.int (Int32.ofInt x3)) → d_R x4 → p_lk 4 ls = some (.int (Int32.ofInt x4)) → p_wp p_GT p_MT 2 m_X5_deepestWhole 5 ls [] h (d_QP h r) := by
  intro n
  induction n with
  | zero =>
    intro x1 x2 x3 x4 ls hF l0 r_x1 l1 r_x2 l2 r_x3 l3 r_x4 l4
    cases (show (none : Option (Int)) = some r from hF)
  | succ n ih =>
    intro x1 x2 x3 x4 ls hF l0 r_x1 l1 r_x2 l2 r_x3 l3 r_x4 l4
    have hF : F_X5_deepestWhole_l5_b s (F_X5_deepestWhole_l5 s n) x1 x2 x3 x4 = some r := hF
    unfold F_X5_deepestWhole_l5_b at hF
    refine dw_il rfl l4 (dw_aln rfl l0 (dw_gr rfl rfl rfl hH d_c56_0 (dw_gi (k := 3) rfl rfl rfl hH d_c3_3 (?_))))
    refine d_if hF (fun q hF => ?_) (fun q hF => ?_)
    · refine dw_ge_y rfl (u := 94) rfl r_x4 hH.r q ?_
      refine dw_aln rfl l0 (dw_gr rfl rfl rfl hH d_c56_0 (dw_il rfl l4 (dw_ic rfl (dw_vP hF rfl (d_vir (n := 3) rfl rfl rfl rfl rfl hH d_c3_0 rfl) rfl rfl rfl (dc := 0) (fun _ e => D_X9_sightPart_3 e hH r_x4 (d_rl rfl)) (fun v1 r_v1 hF => dw_aln rfl l0 (dw_gr rfl rfl rfl hH d_c56_0 (dw_il rfl l4 (dw_ic rfl (dw_vP hF rfl (d_vir (n := 3) rfl rfl rfl rfl rfl hH d_c3_0 rfl) rfl rfl rfl (dc := 0) (fun _ e => D_X9_sightPart_3 e hH r_x4 (d_rl rfl)) (fun v2 r_v2 hF => ?_))))))))))
      refine dw_mul rfl (dw_w1 (dw_is rfl rfl (dw_aln rfl (d_s1 l0 rfl (by decide)) (dw_gr rfl rfl rfl hH d_c56_0 (dw_il rfl (d_s1 l4 rfl (by decide)) (dw_ic rfl (dw_vP hF rfl (d_vir (n := 3) rfl rfl rfl rfl rfl hH d_c3_0 rfl) rfl rfl rfl (dc := 0) (fun _ e => D_X9_sightPart_3 e hH r_x4 (d_rl rfl)) (fun v3 r_v3 hF => dw_iln rfl (d_s1 l1 rfl (by decide)) (?_)))))))))
      refine d_if hF (fun q hF => ?_) (fun q hF => ?_)
      · refine dw_ne_y rfl (u := 88) rfl r_v3 r_x1 q ?_
        refine dw_aln rfl (d_s1 l0 rfl (by decide)) (dw_gr rfl rfl rfl hH d_c56_1 (dw_aln rfl (d_s1 l0 rfl (by decide)) (dw_gr rfl rfl rfl hH d_c56_0 (dw_il rfl (d_s1 l4 rfl (by decide)) (dw_iln rfl (d_s1 l2 rfl (by decide)) (dw_vP hF rfl (d_vir (n := 4) rfl rfl rfl rfl rfl hH d_c37_0 rfl) rfl rfl rfl (dc := 1) (fun _ e => D_X4_cellsOf_3 e hH r_x4 r_x2) (fun v4 r_v4 hF => dw_il rfl p_lk_s1 (?_))))))))
        refine d_if hF (fun q hF => ?_) (fun q hF => ?_)
        · refine dw_ne_y rfl (u := 88) rfl r_v4 d_R_w q ?_
          refine dw_iln rfl (d_s1 l3 rfl (by decide)) (dw_aln rfl (d_s1 l0 rfl (by decide)) (dw_gr rfl rfl rfl hH d_c56_0 (dw_il rfl (d_s1 l4 rfl (by decide)) (dw_ic rfl (dw_vP hF rfl (d_vir (n := 3) rfl rfl rfl rfl rfl hH d_c3_0 rfl) rfl rfl rfl (dc := 0) (fun _ e => D_X9_sightPart_3 e hH r_x4 (d_rl rfl)) (fun v5 r_v5 hF => dw_sP hF rfl rfl rfl rfl rfl (dc := 0) (fun _ e => D_J9_max_7cf53 e r_x3 r_v5) (fun v6 r_v6 hF => dw_isn rfl rfl (dw_ii rfl (d_s1 (d_s1 l4 rfl (by decide)) rfl (by decide)) rfl (dw_go rfl (u := 5) rfl (?_))))))))))
          exact ih hF (d_s1 (d_s1 (d_s1 l0 rfl (by decide)) rfl (by decide)) rfl (by decide)) r_x1 (d_s1 (d_s1 (d_s1 l1 rfl (by decide)) rfl (by decide)) rfl (by decide)) r_x2 (d_s1 (d_s1 (d_s1 l2 rfl (by decide)) rfl (by decide)) rfl (by decide)) r_v6 (d_s1 p_lk_s1 rfl (by decide)) d_R_w p_lk_s1
        · refine dw_ne_n rfl (u := 88) rfl r_v4 d_R_w q ?_
          refine dw_ii rfl (d_s1 l4 rfl (by decide)) rfl (dw_go rfl (u := 5) rfl (?_))
          exact ih hF (d_s1 (d_s1 l0 rfl (by decide)) rfl (by decide)) r_x1 (d_s1 (d_s1 l1 rfl (by decide)) rfl (by decide)) r_x2 (d_s1 (d_s1 l2 rfl (by decide)) rfl (by decide)) r_x3 (d_s1 (d_s1 l3 rfl (by decide)) rfl (by decide)) d_R_w p_lk_s1
      · refine dw_ne_n rfl (u := 88) rfl r_v3 r_x1 q ?_
        refine dw_ii rfl (d_s1 l4 rfl (by decide)) rfl (dw_go rfl (u := 5) rfl (?_))
        exact ih hF (d_s1 (d_s1 l0 rfl (by decide)) rfl (by decide)) r_x1 (d_s1 (d_s1 l1 rfl (by decide)) rfl (by decide)) r_x2 (d_s1 (d_s1 l2 rfl (by decide)) rfl (by decide)) r_x3 (d_s1 (d_s1 l3 rfl (by decide)) rfl (by decide)) d_R_w p_lk_s1
    · refine dw_ge_n rfl (u := 94) rfl r_x4 hH.r q ?_
      exact dw_iln rfl l3 (dw_rP rfl rfl r_x3 hF)
set_option maxRecDepth 100000 in
noncomputable def F_X5_deepestWhole (s : d_S) (x1 : Int) (x2 : Int) : Option (Int) :=
  F_X5_deepestWhole_l5 s d_N x1 x2 (-1) 0
set_option maxRecDepth 100000 in
theorem D_X5_deepestWhole {t : Nat → Option p_C} {h : p_H} {s : d_S} {x1 : Int} {x2 : Int} {r : Int} (hF : F_X5_deepestWhole s x1 x2 = some r) (hH : d_V t h s) (r_x1 : d_R x1) (r_x2 : d_R x2) : p_wp p_GT p_MT 2 m_X5_deepestWhole 0 (lv_args 0 [.ref 56, .int (Int32.ofInt x1), .int (Int32.ofInt x2)]) [] h (d_QP h r) := by
  unfold F_X5_deepestWhole at hF
  refine dw_ic rfl (dw_isn rfl rfl (dw_ic rfl (dw_is rfl rfl (?_))))
  exact D_X5_deepestWhole_l5 hH _ hF (d_s1 (d_s1 rfl rfl (by decide)) rfl (by decide)) r_x1 (d_s1 (d_s1 rfl rfl (by decide)) rfl (by decide)) r_x2 (d_s1 (d_s1 rfl rfl (by decide)) rfl (by decide)) (d_rl rfl) (d_s1 p_lk_s1 rfl (by decide)) (d_rl rfl) p_lk_s1
set_option maxRecDepth 100000 in
noncomputable def F_X5_serves (t : Nat → Option p_C) (s : d_S) (x1 : Int) (x2 : Int) : Option (Int × d_S) :=
  d_b (F_X8_part_10 s x2 1) (fun v1 => d_b (F_X8_part_10 s x2 0) (fun v2 => d_b (F_X5_deepestWhole s v2 x1) (fun v3 => d_b (F_X10_isSold_6 s x1) (fun v4 => if v4 = 0 then
  if v3 = (-1) then
  some (0, s)
  else
  d_b (F_X11_within (d_w (v1 - (s.1 6 3))) 0 60) (fun v5 => if v5 = 0 then
  some (0, s)
  else
  d_b (F_X0_start s x1) (fun s6 => d_b (F_X0_run t s6 (d_w (v1 - (s.1 6 3)))) (fun s7 => if (d_w (v3 * 10)) < (s7.1 47 9) then
  some (0, s7)
  else
  some (1, s7))))
  else
  some (0, s)))))
set_option maxRecDepth 100000 in
theorem D_X5_serves {t : Nat → Option p_C} {h : p_H} {s : d_S} {x1 : Int} {x2 : Int} {r : Int × d_S} (hF : F_X5_serves t s x1 x2 = some r) (hH : d_V t h s) (r_x1 : d_R x1) (r_x2 : d_R x2) : p_wp p_GT p_MT 5 m_X5_serves 0 (lv_args 0 [.ref 56, .int (Int32.ofInt x1), .int (Int32.ofInt x2)]) [] h (d_QC t r) := by
  unfold F_X5_serves at hF
  refine dw_aln rfl rfl (dw_gr rfl rfl rfl hH d_c56_0 (dw_gr rfl rfl rfl hH d_c3_10 (dw_iln rfl rfl (dw_ic rfl (dw_vP hF rfl (d_vir (n := 3) rfl rfl rfl rfl rfl hH d_c10_0 rfl) rfl rfl rfl (dc := 0) (fun _ e => D_X8_part_10 e hH r_x2 (d_rl rfl)) (fun v1 r_v1 hF => dw_aln rfl rfl (dw_gr rfl rfl rfl hH d_c56_0 (dw_gr rfl rfl rfl hH d_c3_8 (dw_gi (k := 3) rfl rfl rfl hH d_c6_3 (?_))))))))))
  refine dw_sub rfl (dw_w1 (dw_isn rfl rfl (dw_aln rfl (d_s1 rfl rfl (by decide)) (dw_aln rfl (d_s1 rfl rfl (by decide)) (dw_gr rfl rfl rfl hH d_c56_0 (dw_gr rfl rfl rfl hH d_c3_10 (dw_iln rfl (d_s1 rfl rfl (by decide)) (dw_ic rfl (dw_vP hF rfl (d_vir (n := 3) rfl rfl rfl rfl rfl hH d_c10_0 rfl) rfl rfl rfl (dc := 0) (fun _ e => D_X8_part_10 e hH r_x2 (d_rl rfl)) (fun v2 r_v2 hF => ?_))))))))))
  refine dw_iln rfl (d_s1 rfl rfl (by decide)) (dw_vP hF rfl (d_vir (n := 3) rfl rfl rfl rfl rfl hH d_c56_0 rfl) rfl rfl rfl (dc := 2) (fun _ e => D_X5_deepestWhole e hH r_v2 r_x1) (fun v3 r_v3 hF => dw_is rfl rfl (dw_aln rfl (d_s1 (d_s1 rfl rfl (by decide)) rfl (by decide)) (dw_gr rfl rfl rfl hH d_c56_0 (dw_gr rfl rfl rfl hH d_c3_8 (dw_iln rfl (d_s1 (d_s1 rfl rfl (by decide)) rfl (by decide)) (dw_vB hF rfl (d_vir (n := 2) rfl rfl rfl rfl rfl hH d_c6_0 rfl) rfl rfl rfl (dc := 1) (fun _ e => D_X10_isSold_6 e hH r_x1) (fun v4 r_v4 hF => ?_))))))))
  refine d_if hF (fun q hF => ?_) (fun q hF => ?_)
  · refine dw_zne_y rfl (u := 73) rfl (d_R_b r_v4) q ?_
    refine dw_il rfl p_lk_s1 (dw_ic rfl (?_))
    refine d_if hF (fun q hF => ?_) (fun q hF => ?_)
    · refine dw_eq_y rfl (u := 73) rfl r_v3 (d_rl rfl) q ?_
      exact dw_ic rfl (dw_rC rfl rfl (Or.inl rfl) hH hF)
    · refine dw_eq_n rfl (u := 73) rfl r_v3 (d_rl rfl) q ?_
      refine dw_iln rfl (d_s1 p_lk_s1 rfl (by decide)) (dw_ic rfl (dw_bp rfl rfl (dw_sB hF rfl rfl rfl rfl rfl (dc := 0) (fun _ e => D_X11_within e d_R_w (d_rl rfl) (d_rl rfl)) (fun v5 r_v5 hF => ?_))))
      refine d_if hF (fun q hF => ?_) (fun q hF => ?_)
      · refine dw_zne_y rfl (u := 75) rfl (d_R_b r_v5) q ?_
        exact dw_ic rfl (dw_rC rfl rfl (Or.inl rfl) hH hF)
      · refine dw_zne_n rfl (u := 75) rfl (d_R_b r_v5) q ?_
        refine dw_aln rfl (d_s1 (d_s1 rfl rfl (by decide)) rfl (by decide)) (dw_gr rfl rfl rfl hH d_c56_2 (dw_iln rfl (d_s1 (d_s1 rfl rfl (by decide)) rfl (by decide)) (dw_vV hF rfl (d_vir (n := 2) rfl rfl rfl rfl rfl hH d_c47_0 rfl) rfl rfl rfl (dc := 2) (fun _ e => D_X0_start e hH r_x1) (fun s6 h6 hH6 hF => dw_aln rfl (d_s1 (d_s1 rfl rfl (by decide)) rfl (by decide)) (dw_gr rfl rfl rfl hH6 d_c56_2 (dw_iln rfl (d_s1 p_lk_s1 rfl (by decide)) (dw_vV hF rfl (d_vir (n := 2) rfl rfl rfl rfl rfl hH6 d_c47_0 rfl) rfl rfl rfl (dc := 4) (fun _ e => D_X0_run e hH6 d_R_w) (fun s7 h7 hH7 hF => dw_aln rfl (d_s1 (d_s1 rfl rfl (by decide)) rfl (by decide)) (dw_gr rfl rfl rfl hH7 d_c56_2 (?_))))))))))
        refine dw_gi (k := 9) rfl rfl rfl hH7 d_c47_9 (dw_il rfl p_lk_s1 (dw_bp rfl rfl (dw_mul rfl (dw_w1 (?_)))))
        refine d_if hF (fun q hF => ?_) (fun q hF => ?_)
        · refine dw_gt_y rfl (u := 110) rfl hH7.r d_R_w q ?_
          exact dw_ic rfl (dw_rC rfl rfl (Or.inl rfl) hH7 hF)
        · refine dw_gt_n rfl (u := 110) rfl hH7.r d_R_w q ?_
          exact dw_ic rfl (dw_go rfl (u := 111) rfl (dw_rC rfl rfl (Or.inr rfl) hH7 hF))
  · refine dw_zne_n rfl (u := 73) rfl (d_R_b r_v4) q ?_
    exact dw_ic rfl (dw_rC rfl rfl (Or.inl rfl) hH hF)
set_option maxRecDepth 100000 in
noncomputable def F_X5_findLowest_l4_b (t : Nat → Option p_C) (k69 : Int → Int → d_S → Option (d_S)) (rec : Int → Int → Int → d_S → Option (d_S)) (x1 : Int) (x2 : Int) (x3 : Int) (s : d_S) : Option (d_S) :=
  if x3 < (s.1 37 5) then
  if x2 < 5 then
  d_b (F_X11_within (d_w ((x1 * 5) + x2)) 0 (d_w (25 - 1))) (fun v1 => if v1 = 0 then
  rec x1 x2 (d_w (x3 + 1)) s
  else
  d_b2 (F_X5_serves t s x3 x1) (fun v2 s3 => if v2 = 0 then
  rec x1 x2 (d_w (x3 + 1)) s3
  else
  d_g (0 ≤ (d_w ((x1 * 5) + x2)) ∧ (d_w ((x1 * 5) + x2)) < 25) (d_l (d_si s3 57 (((d_w ((x1 * 5) + x2))).toNat) x3) (fun s5 => rec x1 (d_w (x2 + 1)) (d_w (x3 + 1)) s5))))
  else
  k69 x1 x2 s
  else
  k69 x1 x2 s
set_option maxRecDepth 100000 in
noncomputable def F_X5_findLowest_l4 (t : Nat → Option p_C) (k69 : Int → Int → d_S → Option (d_S)) : Nat → Int → Int → Int → d_S → Option (d_S)
  | 0 => fun _ _ _ _ => none
  | n + 1 => F_X5_findLowest_l4_b t k69 (F_X5_findLowest_l4 t k69 n)
set_option maxRecDepth 100000 in
theorem D_X5_findLowest_l4 {t : Nat → Option p_C} {k69 : Int → Int → d_S → Option (d_S)} {r : d_S} (hk69 : ∀ {x1 : Int} {x2 : Int} {ls : p_Ls} {s : d_S} {h : p_H}, k69 x1 x2 s = some r → d_V t h s → p_lk 0 ls = some (.ref 56) → d_R x1 → p_lk 1 ls = some (.int (Int32.ofInt x1)) → d_R x2 → p_lk 2 ls = some (.int (Int32.ofInt x2)) → p_wp p_GT p_MT 6 m_X5_findLowest 69 ls [] h (d_QV t r)) : ∀ (n : Nat) {x1 : Int} {x2 : Int} {x3 : Int} {ls : p_Ls} {s : d_S} {h : p_H}, F_X5_findLowest_l4 t k69 n x1 x2 x3 s = some r → d_V t h s → p_lk 0 ls = some (.ref 56) → d_R x1 → p_lk 1 ls = some (.int (Int32.ofInt x1)) → d_R x2 → p_lk 2 ls = some (.int (Int32.ofInt x2)) → d_R x3 → p_lk 3 ls = some (.int (Int32.ofInt x3)) → p_wp p_GT p_MT 6 m_X5_findLowest 4 ls [] h (d_QV t r) := by
  intro n
  induction n with
  | zero =>
    intro x1 x2 x3 ls s h hF hH l0 r_x1 l1 r_x2 l2 r_x3 l3
    cases (show (none : Option (d_S)) = some r from hF)
  | succ n ih =>
    intro x1 x2 x3 ls s h hF hH l0 r_x1 l1 r_x2 l2 r_x3 l3
    have hF : F_X5_findLowest_l4_b t k69 (F_X5_findLowest_l4 t k69 n) x1 x2 x3 s = some r := hF
    unfold F_X5_findLowest_l4_b at hF
    refine dw_iln rfl l3 (dw_aln rfl l0 (dw_gr rfl rfl rfl hH d_c56_1 (dw_gi (k := 5) rfl rfl rfl hH d_c37_5 (?_))))
    refine d_if hF (fun q hF => ?_) (fun q hF => ?_)
    · refine dw_ge_y rfl (u := 69) rfl r_x3 hH.r q ?_
      refine dw_iln rfl l2 (dw_ic rfl (?_))
      refine d_if hF (fun q hF => ?_) (fun q hF => ?_)
      · refine dw_ge_y rfl (u := 69) rfl r_x2 (d_rl rfl) q ?_
        refine dw_iln rfl l1 (dw_ic rfl (dw_mul rfl (dw_iln rfl l2 (dw_add rfl (dw_w1 (dw_is rfl rfl (dw_il rfl p_lk_s1 (dw_ic rfl (dw_aln rfl (d_s1 l0 rfl (by decide)) (?_))))))))))
        refine dw_gr rfl rfl rfl hH d_c56_3 (dw_len rfl hH d_a57 rfl (z := 25) rfl (dw_ic rfl (dw_sub rfl (dw_w1 (dw_sB hF rfl rfl rfl rfl rfl (dc := 0) (fun _ e => D_X11_within e d_R_w (d_rl rfl) d_R_w) (fun v1 r_v1 hF => ?_))))))
        refine d_if hF (fun q hF => ?_) (fun q hF => ?_)
        · refine dw_zeq_y rfl (u := 63) rfl (d_R_b r_v1) q ?_
          refine dw_ii rfl (d_s1 l3 rfl (by decide)) rfl (dw_go rfl (u := 4) rfl (?_))
          exact ih hF hH (d_s1 (d_s1 l0 rfl (by decide)) rfl (by decide)) r_x1 (d_s1 (d_s1 l1 rfl (by decide)) rfl (by decide)) r_x2 (d_s1 (d_s1 l2 rfl (by decide)) rfl (by decide)) d_R_w p_lk_s1
        · refine dw_zeq_n rfl (u := 63) rfl (d_R_b r_v1) q ?_
          refine dw_aln rfl (d_s1 l0 rfl (by decide)) (dw_iln rfl (d_s1 l3 rfl (by decide)) (dw_iln rfl (d_s1 l1 rfl (by decide)) (dw_vC hF rfl (d_vir (n := 3) rfl rfl rfl rfl rfl hH d_c56_0 rfl) rfl rfl rfl (dc := 5) (fun _ _ e => D_X5_serves e hH r_x3 r_x1) (fun v2 s3 h3 hH3 r_v2 hF => ?_))))
          refine d_if hF (fun q hF => ?_) (fun q hF => ?_)
          · refine dw_zeq_y rfl (u := 63) rfl (d_R_b r_v2) q ?_
            refine dw_ii rfl (d_s1 l3 rfl (by decide)) rfl (dw_go rfl (u := 4) rfl (?_))
            exact ih hF hH3 (d_s1 (d_s1 l0 rfl (by decide)) rfl (by decide)) r_x1 (d_s1 (d_s1 l1 rfl (by decide)) rfl (by decide)) r_x2 (d_s1 (d_s1 l2 rfl (by decide)) rfl (by decide)) d_R_w p_lk_s1
          · refine dw_zeq_n rfl (u := 63) rfl (d_R_b r_v2) q ?_
            refine dw_aln rfl (d_s1 l0 rfl (by decide)) (dw_gr rfl rfl rfl hH3 d_c56_3 (dw_il rfl p_lk_s1 (dw_iln rfl (d_s1 l3 rfl (by decide)) (d_gd hF (fun g4 hF => dw_ast rfl hH3 d_a57 g4.1 g4.2 d_R_w rfl r_x3 hF (fun s5 h5 hH5 hF => dw_ii rfl (d_s1 l2 rfl (by decide)) rfl (dw_ii rfl (d_s1 (d_s1 l3 rfl (by decide)) rfl (by decide)) rfl (dw_go rfl (u := 4) rfl (?_)))))))))
            exact ih hF hH5 (d_s1 (d_s1 (d_s1 l0 rfl (by decide)) rfl (by decide)) rfl (by decide)) r_x1 (d_s1 (d_s1 (d_s1 l1 rfl (by decide)) rfl (by decide)) rfl (by decide)) d_R_w (d_s1 p_lk_s1 rfl (by decide)) d_R_w p_lk_s1
      · refine dw_ge_n rfl (u := 69) rfl r_x2 (d_rl rfl) q ?_
        exact hk69 hF hH l0 r_x1 l1 r_x2 l2
    · refine dw_ge_n rfl (u := 69) rfl r_x3 hH.r q ?_
      exact hk69 hF hH l0 r_x1 l1 r_x2 l2
set_option maxRecDepth 100000 in
noncomputable def F_X5_findLowest (t : Nat → Option p_C) (s : d_S) (x1 : Int) : Option (d_S) :=
  F_X5_findLowest_l4 t (fun x1_u6 x2_u6 s_u6 =>
  d_b (F_X11_within x1_u6 0 4) (fun v7 => if v7 = 0 then
  some s_u6
  else
  d_g (0 ≤ x1_u6 ∧ x1_u6 < 5) (d_l (d_si s_u6 58 ((x1_u6).toNat) x2_u6) (fun s9 => some s9)))) d_N x1 0 0 s
set_option maxRecDepth 100000 in
theorem D_X5_findLowest {t : Nat → Option p_C} {h : p_H} {s : d_S} {x1 : Int} {r : d_S} (hF : F_X5_findLowest t s x1 = some r) (hH : d_V t h s) (r_x1 : d_R x1) : p_wp p_GT p_MT 6 m_X5_findLowest 0 (lv_args 0 [.ref 56, .int (Int32.ofInt x1)]) [] h (d_QV t r) := by
  unfold F_X5_findLowest at hF
  refine dw_ic rfl (dw_isn rfl rfl (dw_ic rfl (dw_isn rfl rfl (?_))))
  refine D_X5_findLowest_l4 (fun {x1_u6} {x2_u6} {ls_u6} {s_u6} {h_u6} hF hH_u6 l0_u6 r_x1_u6 l1_u6 r_x2_u6 l2_u6 => ?_) _ hF hH (d_s1 (d_s1 rfl rfl (by decide)) rfl (by decide)) r_x1 (d_s1 (d_s1 rfl rfl (by decide)) rfl (by decide)) (d_rl rfl) (d_s1 p_lk_s1 rfl (by decide)) (d_rl rfl) p_lk_s1
  · refine dw_iln rfl l1_u6 (dw_ic rfl (dw_ic rfl (dw_sB hF rfl rfl rfl rfl rfl (dc := 0) (fun _ e => D_X11_within e r_x1_u6 (d_rl rfl) (d_rl rfl)) (fun v7 r_v7 hF => ?_))))
    refine d_if hF (fun q hF => ?_) (fun q hF => ?_)
    · refine dw_zeq_y rfl (u := 85) rfl (d_R_b r_v7) q ?_
      exact dw_rV rfl rfl hH_u6 hF
    · refine dw_zeq_n rfl (u := 85) rfl (d_R_b r_v7) q ?_
      exact dw_aln rfl l0_u6 (dw_gr rfl rfl rfl hH_u6 d_c56_4 (dw_iln rfl l1_u6 (dw_iln rfl l2_u6 (d_gd hF (fun g8 hF => dw_ast rfl hH_u6 d_a58 g8.1 g8.2 r_x1_u6 rfl r_x2_u6 hF (fun s9 h9 hH9 hF => dw_rV rfl rfl hH9 hF))))))
set_option maxRecDepth 100000 in
noncomputable def F_X5_settle_l4_b (t : Nat → Option p_C) (k44 : Int → d_S → Option (d_S)) (rec : Int → Int → d_S → Option (d_S)) (x1 : Int) (x2 : Int) (s : d_S) : Option (d_S) :=
  if x2 < (s.1 10 2) then
  d_b (F_X5_findLowest t s x2) (fun s1 => d_b (F_X8_part_10 s1 x2 2) (fun v2 => rec (d_w (x1 + v2)) (d_w (x2 + 1)) s1))
  else
  k44 x1 s
set_option maxRecDepth 100000 in
noncomputable def F_X5_settle_l4 (t : Nat → Option p_C) (k44 : Int → d_S → Option (d_S)) : Nat → Int → Int → d_S → Option (d_S)
  | 0 => fun _ _ _ => none
  | n + 1 => F_X5_settle_l4_b t k44 (F_X5_settle_l4 t k44 n)
set_option maxRecDepth 100000 in
theorem D_X5_settle_l4 {t : Nat → Option p_C} {k44 : Int → d_S → Option (d_S)} {r : d_S} (hk44 : ∀ {x1 : Int} {ls : p_Ls} {s : d_S} {h : p_H}, k44 x1 s = some r → d_V t h s → p_lk 0 ls = some (.ref 56) → d_R x1 → p_lk 1 ls = some (.int (Int32.ofInt x1)) → p_wp p_GT p_MT 7 m_X5_settle 44 ls [] h (d_QV t r)) : ∀ (n : Nat) {x1 : Int} {x2 : Int} {ls : p_Ls} {s : d_S} {h : p_H}, F_X5_settle_l4 t k44 n x1 x2 s = some r → d_V t h s → p_lk 0 ls = some (.ref 56) → d_R x1 → p_lk 1 ls = some (.int (Int32.ofInt x1)) → d_R x2 → p_lk 2 ls = some (.int (Int32.ofInt x2)) → p_wp p_GT p_MT 7 m_X5_settle 4 ls [] h (d_QV t r) := by
  intro n
  induction n with
  | zero =>
    intro x1 x2 ls s h hF hH l0 r_x1 l1 r_x2 l2
    cases (show (none : Option (d_S)) = some r from hF)
  | succ n ih =>
    intro x1 x2 ls s h hF hH l0 r_x1 l1 r_x2 l2
    have hF : F_X5_settle_l4_b t k44 (F_X5_settle_l4 t k44 n) x1 x2 s = some r := hF
    unfold F_X5_settle_l4_b at hF
    refine dw_iln rfl l2 (dw_aln rfl l0 (dw_gr rfl rfl rfl hH d_c56_0 (dw_gr rfl rfl rfl hH d_c3_10 (dw_gi (k := 2) rfl rfl rfl hH d_c10_2 (?_)))))
    refine d_if hF (fun q hF => ?_) (fun q hF => ?_)
    · refine dw_ge_y rfl (u := 44) rfl r_x2 hH.r q ?_
      refine dw_aln rfl l0 (dw_iln rfl l2 (dw_vV hF rfl (d_vir (n := 2) rfl rfl rfl rfl rfl hH d_c56_0 rfl) rfl rfl rfl (dc := 6) (fun _ e => D_X5_findLowest e hH r_x2) (fun s1 h1 hH1 hF => dw_iln rfl l1 (dw_aln rfl l0 (dw_gr rfl rfl rfl hH1 d_c56_0 (dw_gr rfl rfl rfl hH1 d_c3_10 (dw_iln rfl l2 (dw_ic rfl (dw_vP hF rfl (d_vir (n := 3) rfl rfl rfl rfl rfl hH1 d_c10_0 rfl) rfl rfl rfl (dc := 0) (fun _ e => D_X8_part_10 e hH1 r_x2 (d_rl rfl)) (fun v2 r_v2 hF => ?_))))))))))
      refine dw_add rfl (dw_w1 (dw_isn rfl rfl (dw_ii rfl (d_s1 l2 rfl (by decide)) rfl (dw_go rfl (u := 4) rfl (?_)))))
      exact ih hF hH1 (d_s1 (d_s1 l0 rfl (by decide)) rfl (by decide)) d_R_w (d_s1 p_lk_s1 rfl (by decide)) d_R_w p_lk_s1
    · refine dw_ge_n rfl (u := 44) rfl r_x2 hH.r q ?_
      exact hk44 hF hH l0 r_x1 l1
set_option maxRecDepth 100000 in
noncomputable def F_X5_settle (t : Nat → Option p_C) (s : d_S) : Option (d_S) :=
  F_X5_settle_l4 t (fun x1_u3 s_u3 =>
  d_l (d_si s_u3 56 7 (-1)) (fun s4 => d_b (F_X5_choose_6 s4 0 0 x1_u3) (fun s5 => some s5))) d_N 0 0 s
set_option maxRecDepth 100000 in
theorem D_X5_settle {t : Nat → Option p_C} {h : p_H} {s : d_S} {r : d_S} (hF : F_X5_settle t s = some r) (hH : d_V t h s) : p_wp p_GT p_MT 7 m_X5_settle 0 (lv_args 0 [.ref 56]) [] h (d_QV t r) := by
  unfold F_X5_settle at hF
  refine dw_ic rfl (dw_isn rfl rfl (dw_ic rfl (dw_isn rfl rfl (?_))))
  refine D_X5_settle_l4 (fun {x1_u3} {ls_u3} {s_u3} {h_u3} hF hH_u3 l0_u3 r_x1_u3 l1_u3 => ?_) _ hF hH (d_s1 (d_s1 rfl rfl (by decide)) rfl (by decide)) (d_rl rfl) (d_s1 p_lk_s1 rfl (by decide)) (d_rl rfl) p_lk_s1
  · exact dw_aln rfl l0_u3 (dw_ic rfl (dw_pi (k := 7) rfl rfl rfl rfl hH_u3 d_c56_7 (d_rl rfl) (by decide) hF (fun s4 h4 hH4 hF => dw_aln rfl l0_u3 (dw_ic rfl (dw_ic rfl (dw_iln rfl l1_u3 (dw_vV hF rfl (d_vir (n := 4) rfl rfl rfl rfl rfl hH4 d_c56_0 rfl) rfl rfl rfl (dc := 6) (fun _ e => D_X5_choose_6 e hH4 (d_rl rfl) (d_rl rfl) r_x1_u3) (fun s5 h5 hH5 hF => dw_rV rfl rfl hH5 hF))))))))
set_option maxRecDepth 100000 in
noncomputable def F_X5_blockFor (s : d_S) (x1 : Int) : Option (Int) :=
  d_b (F_X11_within x1 0 (d_w (5 - 1))) (fun v1 => if v1 = 0 then
  some (-1)
  else
  d_g (0 ≤ x1 ∧ x1 < 5) (some (s.1 60 (x1.toNat))))
set_option maxRecDepth 100000 in
theorem D_X5_blockFor {t : Nat → Option p_C} {h : p_H} {s : d_S} {x1 : Int} {r : Int} (hF : F_X5_blockFor s x1 = some r) (hH : d_V t h s) (r_x1 : d_R x1) : p_wp p_GT p_MT 1 m_X5_blockFor 0 (lv_args 0 [.ref 56, .int (Int32.ofInt x1)]) [] h (d_QP h r) := by
  unfold F_X5_blockFor at hF
  refine dw_iln rfl rfl (dw_ic rfl (dw_aln rfl rfl (dw_gr rfl rfl rfl hH d_c56_6 (dw_len rfl hH d_a60 rfl (z := 5) rfl (dw_ic rfl (dw_sub rfl (dw_w1 (dw_sB hF rfl rfl rfl rfl rfl (dc := 0) (fun _ e => D_X11_within e r_x1 (d_rl rfl) d_R_w) (fun v1 r_v1 hF => ?_)))))))))
  refine d_if hF (fun q hF => ?_) (fun q hF => ?_)
  · refine dw_zeq_y rfl (u := 24) rfl (d_R_b r_v1) q ?_
    exact dw_ic rfl (dw_rP rfl rfl (d_rl rfl) hF)
  · refine dw_zeq_n rfl (u := 24) rfl (d_R_b r_v1) q ?_
    exact dw_aln rfl rfl (dw_gr rfl rfl rfl hH d_c56_6 (dw_iln rfl rfl (d_gd hF (fun g2 hF => dw_ald rfl hH d_a60 rfl g2.1 g2.2 r_x1 rfl (dw_go rfl (u := 25) rfl (dw_rP rfl rfl hH.r hF))))))
set_option maxRecDepth 100000 in
noncomputable def F_X11_served (t : Nat → Option p_C) (s : d_S) (x1 : Int) : Option (Int × d_S) :=
  d_b (F_X11_within x1 (-1) (d_w ((s.1 10 2) - 1))) (fun v1 => if v1 = 0 then
  some ((-2), s)
  else
  d_b (F_X5_settle t s) (fun s2 => if x1 = (-1) then
  some ((s2.1 56 7), s2)
  else
  d_b (F_X5_blockFor s2 x1) (fun v3 => some (v3, s2))))
set_option maxRecDepth 100000 in
theorem D_X11_served {t : Nat → Option p_C} {h : p_H} {s : d_S} {x1 : Int} {r : Int × d_S} (hF : F_X11_served t s x1 = some r) (hH : d_V t h s) (r_x1 : d_R x1) : p_wp p_GT p_MT 8 m_X11_served 0 (lv_args 0 [.ref 2, .int (Int32.ofInt x1)]) [] h (d_QI t r) := by
  unfold F_X11_served at hF
  refine dw_iln rfl rfl (dw_ic rfl (dw_aln rfl rfl (dw_gr rfl rfl rfl hH d_c2_0 (dw_gr rfl rfl rfl hH d_c3_10 (dw_gi (k := 2) rfl rfl rfl hH d_c10_2 (dw_ic rfl (dw_sub rfl (dw_w1 (dw_sB hF rfl rfl rfl rfl rfl (dc := 0) (fun _ e => D_X11_within e r_x1 (d_rl rfl) d_R_w) (fun v1 r_v1 hF => ?_))))))))))
  refine d_if hF (fun q hF => ?_) (fun q hF => ?_)
  · refine dw_zne_y rfl (u := 23) rfl (d_R_b r_v1) q ?_
    exact dw_bp rfl rfl (dw_rI rfl rfl (d_rl rfl) hH hF)
  · refine dw_zne_n rfl (u := 23) rfl (d_R_b r_v1) q ?_
    refine dw_aln rfl rfl (dw_gr rfl rfl rfl hH d_c2_6 (dw_vV hF rfl (d_vir (n := 1) rfl rfl rfl rfl rfl hH d_c56_0 rfl) rfl rfl rfl (dc := 7) (fun _ e => D_X5_settle e hH) (fun s2 h2 hH2 hF => dw_iln rfl rfl (dw_ic rfl (?_)))))
    refine d_if hF (fun q hF => ?_) (fun q hF => ?_)
    · refine dw_ne_y rfl (u := 45) rfl r_x1 (d_rl rfl) q ?_
      exact dw_aln rfl rfl (dw_gr rfl rfl rfl hH2 d_c2_6 (dw_gi (k := 7) rfl rfl rfl hH2 d_c56_7 (dw_go rfl (u := 53) rfl (dw_rI rfl rfl hH2.r hH2 hF))))
    · refine dw_ne_n rfl (u := 45) rfl r_x1 (d_rl rfl) q ?_
      exact dw_aln rfl rfl (dw_gr rfl rfl rfl hH2 d_c2_6 (dw_iln rfl rfl (dw_vP hF rfl (d_vir (n := 2) rfl rfl rfl rfl rfl hH2 d_c56_0 rfl) rfl rfl rfl (dc := 1) (fun _ e => D_X5_blockFor e hH2 r_x1) (fun v3 r_v3 hF => dw_rI rfl rfl r_v3 hH2 hF))))

set_option maxRecDepth 100000 in
noncomputable def F_X12_lies_l58_b (k120 : Int → Int → Int → Int → d_S → Option (Int × d_S)) (rec : Int → Int → Int → Int → Int → d_S → Option (Int × d_S)) (x1 : Int) (x2 : Int) (x3 : Int) (x4 : Int) (x5 : Int) (s : d_S) : Option (Int × d_S) :=
  if 999 < x5 then
  k120 x1 x2 x3 x4 s
  else
  d_g (0 ≤ (d_w (331 + x1)) ∧ (d_w (331 + x1)) < 2517) (d_l (d_si s 65 (((d_w (331 + x1))).toNat) x5) (fun s7 => d_b (F_X12_winner s7) (fun v8 => if v8 = x1 then
  d_b (F_X12_paid s7) (fun v9 => if x4 < (d_w (x2 - v9)) then
  rec x1 x2 x3 (d_w (x2 - v9)) (d_w (x5 + 1)) s7
  else
  rec x1 x2 x3 x4 (d_w (x5 + 1)) s7)
  else
  if x4 < 0 then
  rec x1 x2 x3 0 (d_w (x5 + 1)) s7
  else
  rec x1 x2 x3 x4 (d_w (x5 + 1)) s7)))
set_option maxRecDepth 100000 in
noncomputable def F_X12_lies_l58 (k120 : Int → Int → Int → Int → d_S → Option (Int × d_S)) : Nat → Int → Int → Int → Int → Int → d_S → Option (Int × d_S)
  | 0 => fun _ _ _ _ _ _ => none
  | n + 1 => F_X12_lies_l58_b k120 (F_X12_lies_l58 k120 n)
set_option maxRecDepth 100000 in
theorem D_X12_lies_l58 {t : Nat → Option p_C} {k120 : Int → Int → Int → Int → d_S → Option (Int × d_S)} {r : Int × d_S} (hk120 : ∀ {x1 : Int} {x2 : Int} {x3 : Int} {x4 : Int} {ls : p_Ls} {s : d_S} {h : p_H}, k120 x1 x2 x3 x4 s = some r → d_V t h s → p_lk 0 ls = some (.ref 64) → d_R x1 → p_lk 1 ls = some (.int (Int32.ofInt x1)) → d_R x2 → p_lk 2 ls = some (.int (Int32.ofInt x2)) → d_R x3 → p_lk 3 ls = some (.int (Int32.ofInt x3)) → d_R x4 → p_lk 4 ls = some (.int (Int32.ofInt x4)) → p_wp p_GT p_MT 2 m_X12_lies 120 ls [] h (d_QI t r)) : ∀ (n : Nat) {x1 : Int} {x2 : Int} {x3 : Int} {x4 : Int} {x5 : Int} {ls : p_Ls} {s : d_S} {h : p_H}, F_X12_lies_l58 k120 n x1 x2 x3 x4 x5 s = some r → d_V t h s → p_lk 0 ls = some (.ref 64) → d_R x1 → p_lk 1 ls = some (.int (Int32.ofInt x1)) → d_R x2 → p_lk 2 ls = some (.int (Int32.ofInt x2)) → d_R x3 → p_lk 3 ls = some (.int (Int32.ofInt x3)) → d_R x4 → p_lk 4 ls = some (.int (Int32.ofInt x4)) → d_R x5 → p_lk 5 ls = some (.int (Int32.ofInt x5)) → p_wp p_GT p_MT 2 m_X12_lies 58 ls [] h (d_QI t r) := by
  intro n
  induction n with
  | zero =>
    intro x1 x2 x3 x4 x5 ls s h hF hH l0 r_x1 l1 r_x2 l2 r_x3 l3 r_x4 l4 r_x5 l5
    cases (show (none : Option (Int × d_S)) = some r from hF)
  | succ n ih =>
    intro x1 x2 x3 x4 x5 ls s h hF hH l0 r_x1 l1 r_x2 l2 r_x3 l3 r_x4 l4 r_x5 l5
    have hF : F_X12_lies_l58_b k120 (F_X12_lies_l58 k120 n) x1 x2 x3 x4 x5 s = some r := hF
    unfold F_X12_lies_l58_b at hF
    refine dw_il rfl l5 (dw_sp rfl rfl (?_))
    refine d_if hF (fun q hF => ?_) (fun q hF => ?_)
    · refine dw_gt_y rfl (u := 120) rfl r_x5 (d_rl rfl) q ?_
      exact hk120 hF hH l0 r_x1 l1 r_x2 l2 r_x3 l3 r_x4 l4
    · refine dw_gt_n rfl (u := 120) rfl r_x5 (d_rl rfl) q ?_
      refine dw_aln rfl l0 (dw_gr rfl rfl rfl hH d_c64_0 (dw_sp rfl rfl (dw_iln rfl l1 (dw_add rfl (dw_il rfl l5 (dw_w2 (d_gd hF (fun g6 hF => dw_ast rfl hH d_a65 g6.1 g6.2 d_R_w rfl r_x5 hF (fun s7 h7 hH7 hF => dw_aln rfl l0 (?_))))))))))
      refine dw_vP hF rfl (d_vir (n := 1) rfl rfl rfl rfl rfl hH7 d_c64_0 rfl) rfl rfl rfl (dc := 0) (fun _ e => D_X12_winner e hH7) (fun v8 r_v8 hF => dw_iln rfl l1 (?_))
      refine d_if hF (fun q hF => ?_) (fun q hF => ?_)
      · refine dw_ne_y rfl (u := 95) rfl r_v8 r_x1 q ?_
        refine dw_iln rfl l2 (dw_aln rfl l0 (dw_vP hF rfl (d_vir (n := 1) rfl rfl rfl rfl rfl hH7 d_c64_0 rfl) rfl rfl rfl (dc := 1) (fun _ e => D_X12_paid e hH7) (fun v9 r_v9 hF => dw_sub rfl (dw_go rfl (u := 96) rfl (dw_w1 (dw_is rfl rfl (dw_il rfl p_lk_s1 (dw_il rfl (d_s1 l4 rfl (by decide)) (?_)))))))))
        refine d_if hF (fun q hF => ?_) (fun q hF => ?_)
        · refine dw_le_y rfl (u := 110) rfl d_R_w r_x4 q ?_
          refine dw_il rfl p_lk_s1 (dw_go rfl (u := 112) rfl (dw_is rfl rfl (dw_ii rfl (d_s1 (d_s1 l5 rfl (by decide)) rfl (by decide)) rfl (dw_go rfl (u := 58) rfl (?_)))))
          exact ih hF hH7 (d_s1 (d_s1 (d_s1 l0 rfl (by decide)) rfl (by decide)) rfl (by decide)) r_x1 (d_s1 (d_s1 (d_s1 l1 rfl (by decide)) rfl (by decide)) rfl (by decide)) r_x2 (d_s1 (d_s1 (d_s1 l2 rfl (by decide)) rfl (by decide)) rfl (by decide)) r_x3 (d_s1 (d_s1 (d_s1 l3 rfl (by decide)) rfl (by decide)) rfl (by decide)) d_R_w (d_s1 p_lk_s1 rfl (by decide)) d_R_w p_lk_s1
        · refine dw_le_n rfl (u := 110) rfl d_R_w r_x4 q ?_
          refine dw_il rfl (d_s1 l4 rfl (by decide)) (dw_is rfl rfl (dw_ii rfl (d_s1 (d_s1 l5 rfl (by decide)) rfl (by decide)) rfl (dw_go rfl (u := 58) rfl (?_))))
          exact ih hF hH7 (d_s1 (d_s1 (d_s1 l0 rfl (by decide)) rfl (by decide)) rfl (by decide)) r_x1 (d_s1 (d_s1 (d_s1 l1 rfl (by decide)) rfl (by decide)) rfl (by decide)) r_x2 (d_s1 (d_s1 (d_s1 l2 rfl (by decide)) rfl (by decide)) rfl (by decide)) r_x3 (d_s1 (d_s1 (d_s1 l3 rfl (by decide)) rfl (by decide)) rfl (by decide)) r_x4 (d_s1 p_lk_s1 rfl (by decide)) d_R_w p_lk_s1
      · refine dw_ne_n rfl (u := 95) rfl r_v8 r_x1 q ?_
        refine dw_ic rfl (dw_is rfl rfl (dw_il rfl p_lk_s1 (dw_il rfl (d_s1 l4 rfl (by decide)) (?_))))
        refine d_if hF (fun q hF => ?_) (fun q hF => ?_)
        · refine dw_le_y rfl (u := 110) rfl (d_rl rfl) r_x4 q ?_
          refine dw_il rfl p_lk_s1 (dw_go rfl (u := 112) rfl (dw_is rfl rfl (dw_ii rfl (d_s1 (d_s1 l5 rfl (by decide)) rfl (by decide)) rfl (dw_go rfl (u := 58) rfl (?_)))))
          exact ih hF hH7 (d_s1 (d_s1 (d_s1 l0 rfl (by decide)) rfl (by decide)) rfl (by decide)) r_x1 (d_s1 (d_s1 (d_s1 l1 rfl (by decide)) rfl (by decide)) rfl (by decide)) r_x2 (d_s1 (d_s1 (d_s1 l2 rfl (by decide)) rfl (by decide)) rfl (by decide)) r_x3 (d_s1 (d_s1 (d_s1 l3 rfl (by decide)) rfl (by decide)) rfl (by decide)) (d_rl rfl) (d_s1 p_lk_s1 rfl (by decide)) d_R_w p_lk_s1
        · refine dw_le_n rfl (u := 110) rfl (d_rl rfl) r_x4 q ?_
          refine dw_il rfl (d_s1 l4 rfl (by decide)) (dw_is rfl rfl (dw_ii rfl (d_s1 (d_s1 l5 rfl (by decide)) rfl (by decide)) rfl (dw_go rfl (u := 58) rfl (?_))))
          exact ih hF hH7 (d_s1 (d_s1 (d_s1 l0 rfl (by decide)) rfl (by decide)) rfl (by decide)) r_x1 (d_s1 (d_s1 (d_s1 l1 rfl (by decide)) rfl (by decide)) rfl (by decide)) r_x2 (d_s1 (d_s1 (d_s1 l2 rfl (by decide)) rfl (by decide)) rfl (by decide)) r_x3 (d_s1 (d_s1 (d_s1 l3 rfl (by decide)) rfl (by decide)) rfl (by decide)) r_x4 (d_s1 p_lk_s1 rfl (by decide)) d_R_w p_lk_s1
set_option maxRecDepth 100000 in
noncomputable def F_X12_lies (s : d_S) (x1 : Int) : Option (Int × d_S) :=
  d_b (F_X12_isIn x1 0 (d_w ((s.1 65 6) - 1))) (fun v1 => if v1 = 0 then
  some ((-2), s)
  else
  d_g (0 ≤ (d_w (331 + x1)) ∧ (d_w (331 + x1)) < 2517) (d_l (s.1 65 (((d_w (331 + x1))).toNat)) (fun z3 => d_b (F_X12_winner s) (fun v4 => if v4 = x1 then
  d_b (F_X12_paid s) (fun v5 => F_X12_lies_l58 (fun x1_u10 x2_u10 x3_u10 x4_u10 s_u10 =>
  d_g (0 ≤ (d_w (331 + x1_u10)) ∧ (d_w (331 + x1_u10)) < 2517) (d_l (d_si s_u10 65 (((d_w (331 + x1_u10))).toNat) x2_u10) (fun s12 => some ((d_w (x4_u10 - x3_u10)), s12)))) d_N x1 z3 (d_w (z3 - v5)) (-100000) 0 s)
  else
  F_X12_lies_l58 (fun x1_u13 x2_u13 x3_u13 x4_u13 s_u13 =>
  d_g (0 ≤ (d_w (331 + x1_u13)) ∧ (d_w (331 + x1_u13)) < 2517) (d_l (d_si s_u13 65 (((d_w (331 + x1_u13))).toNat) x2_u13) (fun s15 => some ((d_w (x4_u13 - x3_u13)), s15)))) d_N x1 z3 0 (-100000) 0 s))))
set_option maxRecDepth 100000 in
theorem D_X12_lies {t : Nat → Option p_C} {h : p_H} {s : d_S} {x1 : Int} {r : Int × d_S} (hF : F_X12_lies s x1 = some r) (hH : d_V t h s) (r_x1 : d_R x1) : p_wp p_GT p_MT 2 m_X12_lies 0 (lv_args 0 [.ref 64, .int (Int32.ofInt x1)]) [] h (d_QI t r) := by
  unfold F_X12_lies at hF
  refine dw_iln rfl rfl (dw_ic rfl (dw_aln rfl rfl (dw_gr rfl rfl rfl hH d_c64_0 (dw_bp rfl rfl (dw_ald rfl hH d_a65 rfl (by decide) (by decide) (d_rl rfl) (k := 6) rfl (dw_ic rfl (dw_sub rfl (dw_w1 (dw_sB hF rfl rfl rfl rfl rfl (dc := 0) (fun _ e => D_X12_isIn e r_x1 (d_rl rfl) d_R_w) (fun v1 r_v1 hF => ?_))))))))))
  refine d_if hF (fun q hF => ?_) (fun q hF => ?_)
  · refine dw_zne_y rfl (u := 20) rfl (d_R_b r_v1) q ?_
    exact dw_bp rfl rfl (dw_rI rfl rfl (d_rl rfl) hH hF)
  · refine dw_zne_n rfl (u := 20) rfl (d_R_b r_v1) q ?_
    refine dw_aln rfl rfl (dw_gr rfl rfl rfl hH d_c64_0 (dw_sp rfl rfl (dw_iln rfl rfl (dw_add rfl (dw_w1 (d_gd hF (fun g2 hF => dw_ald rfl hH d_a65 rfl g2.1 g2.2 d_R_w rfl (dw_nm hF hH.r (fun z3 r_z3 hF => dw_isn rfl rfl (?_))))))))))
    refine dw_aln rfl (d_s1 rfl rfl (by decide)) (dw_vP hF rfl (d_vir (n := 1) rfl rfl rfl rfl rfl hH d_c64_0 rfl) rfl rfl rfl (dc := 0) (fun _ e => D_X12_winner e hH) (fun v4 r_v4 hF => dw_iln rfl (d_s1 rfl rfl (by decide)) (?_)))
    refine d_if hF (fun q hF => ?_) (fun q hF => ?_)
    · refine dw_ne_y rfl (u := 48) rfl r_v4 r_x1 q ?_
      refine dw_iln rfl p_lk_s1 (dw_aln rfl (d_s1 rfl rfl (by decide)) (dw_vP hF rfl (d_vir (n := 1) rfl rfl rfl rfl rfl hH d_c64_0 rfl) rfl rfl rfl (dc := 1) (fun _ e => D_X12_paid e hH) (fun v5 r_v5 hF => dw_sub rfl (dw_go rfl (u := 49) rfl (dw_w1 (dw_isn rfl rfl (dw_ldcw rfl rfl (dw_is rfl rfl (dw_ic rfl (?_))))))))))
      refine dw_is rfl rfl (?_)
      refine D_X12_lies_l58 (fun {x1_u10} {x2_u10} {x3_u10} {x4_u10} {ls_u10} {s_u10} {h_u10} hF hH_u10 l0_u10 r_x1_u10 l1_u10 r_x2_u10 l2_u10 r_x3_u10 l3_u10 r_x4_u10 l4_u10 => ?_) _ hF hH (d_s1 (d_s1 (d_s1 (d_s1 rfl rfl (by decide)) rfl (by decide)) rfl (by decide)) rfl (by decide)) r_x1 (d_s1 (d_s1 (d_s1 (d_s1 rfl rfl (by decide)) rfl (by decide)) rfl (by decide)) rfl (by decide)) r_z3 (d_s1 (d_s1 (d_s1 p_lk_s1 rfl (by decide)) rfl (by decide)) rfl (by decide)) d_R_w (d_s1 (d_s1 p_lk_s1 rfl (by decide)) rfl (by decide)) (d_rl rfl) (d_s1 p_lk_s1 rfl (by decide)) (d_rl rfl) p_lk_s1
      · refine dw_aln rfl l0_u10 (dw_gr rfl rfl rfl hH_u10 d_c64_0 (dw_sp rfl rfl (dw_iln rfl l1_u10 (dw_add rfl (dw_iln rfl l2_u10 (dw_w2 (d_gd hF (fun g11 hF => dw_ast rfl hH_u10 d_a65 g11.1 g11.2 d_R_w rfl r_x2_u10 hF (fun s12 h12 hH12 hF => dw_il rfl l4_u10 (?_))))))))))
        exact dw_iln rfl l3_u10 (dw_sub rfl (dw_w1 (dw_rI rfl rfl d_R_w hH12 hF)))
    · refine dw_ne_n rfl (u := 48) rfl r_v4 r_x1 q ?_
      refine dw_ic rfl (dw_isn rfl rfl (dw_ldcw rfl rfl (dw_is rfl rfl (dw_ic rfl (dw_is rfl rfl (?_))))))
      refine D_X12_lies_l58 (fun {x1_u13} {x2_u13} {x3_u13} {x4_u13} {ls_u13} {s_u13} {h_u13} hF hH_u13 l0_u13 r_x1_u13 l1_u13 r_x2_u13 l2_u13 r_x3_u13 l3_u13 r_x4_u13 l4_u13 => ?_) _ hF hH (d_s1 (d_s1 (d_s1 (d_s1 rfl rfl (by decide)) rfl (by decide)) rfl (by decide)) rfl (by decide)) r_x1 (d_s1 (d_s1 (d_s1 (d_s1 rfl rfl (by decide)) rfl (by decide)) rfl (by decide)) rfl (by decide)) r_z3 (d_s1 (d_s1 (d_s1 p_lk_s1 rfl (by decide)) rfl (by decide)) rfl (by decide)) (d_rl rfl) (d_s1 (d_s1 p_lk_s1 rfl (by decide)) rfl (by decide)) (d_rl rfl) (d_s1 p_lk_s1 rfl (by decide)) (d_rl rfl) p_lk_s1
      · refine dw_aln rfl l0_u13 (dw_gr rfl rfl rfl hH_u13 d_c64_0 (dw_sp rfl rfl (dw_iln rfl l1_u13 (dw_add rfl (dw_iln rfl l2_u13 (dw_w2 (d_gd hF (fun g14 hF => dw_ast rfl hH_u13 d_a65 g14.1 g14.2 d_R_w rfl r_x2_u13 hF (fun s15 h15 hH15 hF => dw_il rfl l4_u13 (?_))))))))))
        exact dw_iln rfl l3_u13 (dw_sub rfl (dw_w1 (dw_rI rfl rfl d_R_w hH15 hF)))
set_option maxRecDepth 100000 in
noncomputable def F_X12_speed_l35_b (s : d_S) (k163 : Int → Int → Int → Int → Option (Int)) (rec : Int → Int → Int → Int → Int → Option (Int)) (x1 : Int) (x2 : Int) (x3 : Int) (x4 : Int) (x5 : Int) : Option (Int) :=
  if x5 < (s.1 65 7) then
  d_g (0 ≤ (d_w (339 + (2 * x5))) ∧ (d_w (339 + (2 * x5))) < 2517) (d_g (0 ≤ (d_w (339 + (2 * x4))) ∧ (d_w (339 + (2 * x4))) < 2517) (d_l (d_w ((s.1 65 (((d_w (339 + (2 * x5)))).toNat)) - (s.1 65 (((d_w (339 + (2 * x4)))).toNat)))) (fun z4 => d_g (0 ≤ (d_w ((339 + (2 * x5)) + 1)) ∧ (d_w ((339 + (2 * x5)) + 1)) < 2517) (d_g (0 ≤ (d_w ((339 + (2 * x4)) + 1)) ∧ (d_w ((339 + (2 * x4)) + 1)) < 2517) (d_l (d_w ((s.1 65 (((d_w ((339 + (2 * x5)) + 1))).toNat)) - (s.1 65 (((d_w ((339 + (2 * x4)) + 1))).toNat)))) (fun z7 => if 0 < z4 then
  if 0 < x3 then
  if x1 < 2 then
  if (d_w (x2 * z4)) < (d_w (z7 * x3)) then
  rec x1 z7 z4 x4 (d_w (x5 + 1))
  else
  rec x1 x2 x3 x4 (d_w (x5 + 1))
  else
  if (d_w (z7 * x3)) < (d_w (x2 * z4)) then
  rec x1 z7 z4 x4 (d_w (x5 + 1))
  else
  rec x1 x2 x3 x4 (d_w (x5 + 1))
  else
  rec x1 z7 z4 x4 (d_w (x5 + 1))
  else
  rec x1 x2 x3 x4 (d_w (x5 + 1))))))))
  else
  k163 x1 x2 x3 x4
set_option maxRecDepth 100000 in
noncomputable def F_X12_speed_l35 (s : d_S) (k163 : Int → Int → Int → Int → Option (Int)) : Nat → Int → Int → Int → Int → Int → Option (Int)
  | 0 => fun _ _ _ _ _ => none
  | n + 1 => F_X12_speed_l35_b s k163 (F_X12_speed_l35 s k163 n)
set_option maxRecDepth 100000 in
theorem D_X12_speed_l35 {t : Nat → Option p_C} {h : p_H} {s : d_S} {k163 : Int → Int → Int → Int → Option (Int)} {r : Int} (hH : d_V t h s) (hk163 : ∀ {x1 : Int} {x2 : Int} {x3 : Int} {x4 : Int} {ls : p_Ls}, k163 x1 x2 x3 x4 = some r → p_lk 0 ls = some (.ref 64) → d_R x1 → p_lk 1 ls = some (.int (Int32.ofInt x1)) → d_R x2 → p_lk 2 ls = some (.int (Int32.ofInt x2)) → d_R x3 → p_lk 3 ls = some (.int (Int32.ofInt x3)) → d_R x4 → p_lk 4 ls = some (.int (Int32.ofInt x4)) → p_wp p_GT p_MT 2 m_X12_speed 163 ls [] h (d_QP h r)) : ∀ (n : Nat) {x1 : Int} {x2 : Int} {x3 : Int} {x4 : Int} {x5 : Int} {ls : p_Ls}, F_X12_speed_l35 s k163 n x1 x2 x3 x4 x5 = some r → p_lk 0 ls = some (.ref 64) → d_R x1 → p_lk 1 ls = some (.int (Int32.ofInt x1)) → d_R x2 → p_lk 2 ls = some (.int (Int32.ofInt x2)) → d_R x3 → p_lk 3 ls = some (.int (Int32.ofInt x3)) → d_R x4 → p_lk 4 ls = some (.int (Int32.ofInt x4)) → d_R x5 → p_lk 5 ls = some (.int (Int32.ofInt x5)) → p_wp p_GT p_MT 2 m_X12_speed 35 ls [] h (d_QP h r) := by
  intro n
  induction n with
  | zero =>
    intro x1 x2 x3 x4 x5 ls hF l0 r_x1 l1 r_x2 l2 r_x3 l3 r_x4 l4 r_x5 l5
    cases (show (none : Option (Int)) = some r from hF)
  | succ n ih =>
    intro x1 x2 x3 x4 x5 ls hF l0 r_x1 l1 r_x2 l2 r_x3 l3 r_x4 l4 r_x5 l5
    have hF : F_X12_speed_l35_b s k163 (F_X12_speed_l35 s k163 n) x1 x2 x3 x4 x5 = some r := hF
    unfold F_X12_speed_l35_b at hF
    refine dw_il rfl l5 (dw_aln rfl l0 (dw_gr rfl rfl rfl hH d_c64_0 (dw_bp rfl rfl (dw_ald rfl hH d_a65 rfl (by decide) (by decide) (d_rl rfl) (k := 7) rfl (?_)))))
    refine d_if hF (fun q hF => ?_) (fun q hF => ?_)
    · refine dw_ge_y rfl (u := 163) rfl r_x5 hH.r q ?_
      refine dw_aln rfl l0 (dw_gr rfl rfl rfl hH d_c64_0 (dw_sp rfl rfl (dw_ic rfl (dw_il rfl l5 (dw_mul rfl (dw_add rfl (dw_w1 (d_gd hF (fun g2 hF => dw_ald rfl hH d_a65 rfl g2.1 g2.2 d_R_w rfl (?_))))))))))
      refine dw_aln rfl l0 (dw_gr rfl rfl rfl hH d_c64_0 (dw_sp rfl rfl (dw_ic rfl (dw_il rfl l4 (dw_mul rfl (dw_add rfl (dw_w1 (d_gd hF (fun g3 hF => dw_ald rfl hH d_a65 rfl g3.1 g3.2 d_R_w rfl (?_))))))))))
      refine dw_sub rfl (dw_w1 (dw_nm hF d_R_w (fun z4 r_z4 hF => dw_is rfl rfl (dw_aln rfl (d_s1 l0 rfl (by decide)) (dw_gr rfl rfl rfl hH d_c64_0 (dw_sp rfl rfl (dw_ic rfl (dw_il rfl (d_s1 l5 rfl (by decide)) (dw_mul rfl (?_))))))))))
      refine dw_add rfl (dw_ic rfl (dw_add rfl (dw_w1 (d_gd hF (fun g5 hF => dw_ald rfl hH d_a65 rfl g5.1 g5.2 d_R_w rfl (dw_aln rfl (d_s1 l0 rfl (by decide)) (dw_gr rfl rfl rfl hH d_c64_0 (dw_sp rfl rfl (dw_ic rfl (?_))))))))))
      refine dw_il rfl (d_s1 l4 rfl (by decide)) (dw_mul rfl (dw_add rfl (dw_ic rfl (dw_add rfl (dw_w1 (d_gd hF (fun g6 hF => dw_ald rfl hH d_a65 rfl g6.1 g6.2 d_R_w rfl (dw_sub rfl (dw_w1 (?_))))))))))
      refine dw_nm hF d_R_w (fun z7 r_z7 hF => dw_is rfl rfl (dw_il rfl (d_s1 p_lk_s1 rfl (by decide)) (?_)))
      refine d_if hF (fun q hF => ?_) (fun q hF => ?_)
      · refine dw_zle_y rfl (u := 157) rfl r_z4 q ?_
        refine dw_iln rfl (d_s1 (d_s1 l3 rfl (by decide)) rfl (by decide)) (?_)
        refine d_if hF (fun q hF => ?_) (fun q hF => ?_)
        · refine dw_zle_y rfl (u := 151) rfl r_x3 q ?_
          refine dw_iln rfl (d_s1 (d_s1 l1 rfl (by decide)) rfl (by decide)) (dw_ic rfl (?_))
          refine d_if hF (fun q hF => ?_) (fun q hF => ?_)
          · refine dw_ge_y rfl (u := 137) rfl r_x1 (d_rl rfl) q ?_
            refine dw_il rfl p_lk_s1 (dw_iln rfl (d_s1 (d_s1 l3 rfl (by decide)) rfl (by decide)) (dw_mul rfl (dw_iln rfl (d_s1 (d_s1 l2 rfl (by decide)) rfl (by decide)) (dw_il rfl (d_s1 p_lk_s1 rfl (by decide)) (dw_mul rfl (dw_w1 (dw_w2 (?_))))))))
            refine d_if hF (fun q hF => ?_) (fun q hF => ?_)
            · refine dw_gt_y rfl (u := 151) rfl d_R_w d_R_w q ?_
              refine dw_il rfl p_lk_s1 (dw_isn rfl rfl (dw_il rfl (d_s1 (d_s1 p_lk_s1 rfl (by decide)) rfl (by decide)) (dw_isn rfl rfl (dw_ii rfl (d_s1 (d_s1 (d_s1 (d_s1 l5 rfl (by decide)) rfl (by decide)) rfl (by decide)) rfl (by decide)) rfl (dw_go rfl (u := 35) rfl (?_))))))
              exact ih hF (d_s1 (d_s1 (d_s1 (d_s1 (d_s1 l0 rfl (by decide)) rfl (by decide)) rfl (by decide)) rfl (by decide)) rfl (by decide)) r_x1 (d_s1 (d_s1 (d_s1 (d_s1 (d_s1 l1 rfl (by decide)) rfl (by decide)) rfl (by decide)) rfl (by decide)) rfl (by decide)) r_z7 (d_s1 (d_s1 p_lk_s1 rfl (by decide)) rfl (by decide)) r_z4 (d_s1 p_lk_s1 rfl (by decide)) r_x4 (d_s1 (d_s1 (d_s1 (d_s1 (d_s1 l4 rfl (by decide)) rfl (by decide)) rfl (by decide)) rfl (by decide)) rfl (by decide)) d_R_w p_lk_s1
            · refine dw_gt_n rfl (u := 151) rfl d_R_w d_R_w q ?_
              refine dw_go rfl (u := 157) rfl (dw_ii rfl (d_s1 (d_s1 l5 rfl (by decide)) rfl (by decide)) rfl (dw_go rfl (u := 35) rfl (?_)))
              exact ih hF (d_s1 (d_s1 (d_s1 l0 rfl (by decide)) rfl (by decide)) rfl (by decide)) r_x1 (d_s1 (d_s1 (d_s1 l1 rfl (by decide)) rfl (by decide)) rfl (by decide)) r_x2 (d_s1 (d_s1 (d_s1 l2 rfl (by decide)) rfl (by decide)) rfl (by decide)) r_x3 (d_s1 (d_s1 (d_s1 l3 rfl (by decide)) rfl (by decide)) rfl (by decide)) r_x4 (d_s1 (d_s1 (d_s1 l4 rfl (by decide)) rfl (by decide)) rfl (by decide)) d_R_w p_lk_s1
          · refine dw_ge_n rfl (u := 137) rfl r_x1 (d_rl rfl) q ?_
            refine dw_il rfl p_lk_s1 (dw_iln rfl (d_s1 (d_s1 l3 rfl (by decide)) rfl (by decide)) (dw_mul rfl (dw_iln rfl (d_s1 (d_s1 l2 rfl (by decide)) rfl (by decide)) (dw_il rfl (d_s1 p_lk_s1 rfl (by decide)) (dw_mul rfl (dw_w1 (dw_w2 (?_))))))))
            refine d_if hF (fun q hF => ?_) (fun q hF => ?_)
            · refine dw_lt_y rfl (u := 151) rfl d_R_w d_R_w q ?_
              refine dw_il rfl p_lk_s1 (dw_isn rfl rfl (dw_il rfl (d_s1 (d_s1 p_lk_s1 rfl (by decide)) rfl (by decide)) (dw_isn rfl rfl (dw_ii rfl (d_s1 (d_s1 (d_s1 (d_s1 l5 rfl (by decide)) rfl (by decide)) rfl (by decide)) rfl (by decide)) rfl (dw_go rfl (u := 35) rfl (?_))))))
              exact ih hF (d_s1 (d_s1 (d_s1 (d_s1 (d_s1 l0 rfl (by decide)) rfl (by decide)) rfl (by decide)) rfl (by decide)) rfl (by decide)) r_x1 (d_s1 (d_s1 (d_s1 (d_s1 (d_s1 l1 rfl (by decide)) rfl (by decide)) rfl (by decide)) rfl (by decide)) rfl (by decide)) r_z7 (d_s1 (d_s1 p_lk_s1 rfl (by decide)) rfl (by decide)) r_z4 (d_s1 p_lk_s1 rfl (by decide)) r_x4 (d_s1 (d_s1 (d_s1 (d_s1 (d_s1 l4 rfl (by decide)) rfl (by decide)) rfl (by decide)) rfl (by decide)) rfl (by decide)) d_R_w p_lk_s1
            · refine dw_lt_n rfl (u := 151) rfl d_R_w d_R_w q ?_
              refine dw_go rfl (u := 157) rfl (dw_ii rfl (d_s1 (d_s1 l5 rfl (by decide)) rfl (by decide)) rfl (dw_go rfl (u := 35) rfl (?_)))
              exact ih hF (d_s1 (d_s1 (d_s1 l0 rfl (by decide)) rfl (by decide)) rfl (by decide)) r_x1 (d_s1 (d_s1 (d_s1 l1 rfl (by decide)) rfl (by decide)) rfl (by decide)) r_x2 (d_s1 (d_s1 (d_s1 l2 rfl (by decide)) rfl (by decide)) rfl (by decide)) r_x3 (d_s1 (d_s1 (d_s1 l3 rfl (by decide)) rfl (by decide)) rfl (by decide)) r_x4 (d_s1 (d_s1 (d_s1 l4 rfl (by decide)) rfl (by decide)) rfl (by decide)) d_R_w p_lk_s1
        · refine dw_zle_n rfl (u := 151) rfl r_x3 q ?_
          refine dw_il rfl p_lk_s1 (dw_isn rfl rfl (dw_il rfl (d_s1 (d_s1 p_lk_s1 rfl (by decide)) rfl (by decide)) (dw_isn rfl rfl (dw_ii rfl (d_s1 (d_s1 (d_s1 (d_s1 l5 rfl (by decide)) rfl (by decide)) rfl (by decide)) rfl (by decide)) rfl (dw_go rfl (u := 35) rfl (?_))))))
          exact ih hF (d_s1 (d_s1 (d_s1 (d_s1 (d_s1 l0 rfl (by decide)) rfl (by decide)) rfl (by decide)) rfl (by decide)) rfl (by decide)) r_x1 (d_s1 (d_s1 (d_s1 (d_s1 (d_s1 l1 rfl (by decide)) rfl (by decide)) rfl (by decide)) rfl (by decide)) rfl (by decide)) r_z7 (d_s1 (d_s1 p_lk_s1 rfl (by decide)) rfl (by decide)) r_z4 (d_s1 p_lk_s1 rfl (by decide)) r_x4 (d_s1 (d_s1 (d_s1 (d_s1 (d_s1 l4 rfl (by decide)) rfl (by decide)) rfl (by decide)) rfl (by decide)) rfl (by decide)) d_R_w p_lk_s1
      · refine dw_zle_n rfl (u := 157) rfl r_z4 q ?_
        refine dw_ii rfl (d_s1 (d_s1 l5 rfl (by decide)) rfl (by decide)) rfl (dw_go rfl (u := 35) rfl (?_))
        exact ih hF (d_s1 (d_s1 (d_s1 l0 rfl (by decide)) rfl (by decide)) rfl (by decide)) r_x1 (d_s1 (d_s1 (d_s1 l1 rfl (by decide)) rfl (by decide)) rfl (by decide)) r_x2 (d_s1 (d_s1 (d_s1 l2 rfl (by decide)) rfl (by decide)) rfl (by decide)) r_x3 (d_s1 (d_s1 (d_s1 l3 rfl (by decide)) rfl (by decide)) rfl (by decide)) r_x4 (d_s1 (d_s1 (d_s1 l4 rfl (by decide)) rfl (by decide)) rfl (by decide)) d_R_w p_lk_s1
    · refine dw_ge_n rfl (u := 163) rfl r_x5 hH.r q ?_
      exact hk163 hF l0 r_x1 l1 r_x2 l2 r_x3 l3 r_x4 l4
set_option maxRecDepth 100000 in
noncomputable def F_X12_speed_l20_b (s : d_S) (k169 : Int → Int → Int → Option (Int)) (rec : Int → Int → Int → Int → Option (Int)) (x1 : Int) (x2 : Int) (x3 : Int) (x4 : Int) : Option (Int) :=
  if x4 < (s.1 65 7) then
  F_X12_speed_l35 s (fun x1_u8 x2_u8 x3_u8 x4_u8 =>
  rec x1_u8 x2_u8 x3_u8 (d_w (x4_u8 + 1))) d_N x1 x2 x3 x4 0
  else
  k169 x1 x2 x3
set_option maxRecDepth 100000 in
noncomputable def F_X12_speed_l20 (s : d_S) (k169 : Int → Int → Int → Option (Int)) : Nat → Int → Int → Int → Int → Option (Int)
  | 0 => fun _ _ _ _ => none
  | n + 1 => F_X12_speed_l20_b s k169 (F_X12_speed_l20 s k169 n)
set_option maxRecDepth 100000 in
theorem D_X12_speed_l20 {t : Nat → Option p_C} {h : p_H} {s : d_S} {k169 : Int → Int → Int → Option (Int)} {r : Int} (hH : d_V t h s) (hk169 : ∀ {x1 : Int} {x2 : Int} {x3 : Int} {ls : p_Ls}, k169 x1 x2 x3 = some r → d_R x1 → p_lk 1 ls = some (.int (Int32.ofInt x1)) → d_R x2 → p_lk 2 ls = some (.int (Int32.ofInt x2)) → d_R x3 → p_lk 3 ls = some (.int (Int32.ofInt x3)) → p_wp p_GT p_MT 2 m_X12_speed 169 ls [] h (d_QP h r)) : ∀ (n : Nat) {x1 : Int} {x2 : Int} {x3 : Int} {x4 : Int} {ls : p_Ls}, F_X12_speed_l20 s k169 n x1 x2 x3 x4 = some r → p_lk 0 ls = some (.ref 64) → d_R x1 → p_lk 1 ls = some (.int (Int32.ofInt x1)) → d_R x2 → p_lk 2 ls = some (.int (Int32.ofInt x2)) → d_R x3 → p_lk 3 ls = some (.int (Int32.ofInt x3)) → d_R x4 → p_lk 4 ls = some (.int (Int32.ofInt x4)) → p_wp p_GT p_MT 2 m_X12_speed 20 ls [] h (d_QP h r) := by
  intro n
  induction n with
  | zero =>
    intro x1 x2 x3 x4 ls hF l0 r_x1 l1 r_x2 l2 r_x3 l3 r_x4 l4
    cases (show (none : Option (Int)) = some r from hF)
  | succ n ih =>
    intro x1 x2 x3 x4 ls hF l0 r_x1 l1 r_x2 l2 r_x3 l3 r_x4 l4
    have hF : F_X12_speed_l20_b s k169 (F_X12_speed_l20 s k169 n) x1 x2 x3 x4 = some r := hF
    unfold F_X12_speed_l20_b at hF
    refine dw_il rfl l4 (dw_aln rfl l0 (dw_gr rfl rfl rfl hH d_c64_0 (dw_bp rfl rfl (dw_ald rfl hH d_a65 rfl (by decide) (by decide) (d_rl rfl) (k := 7) rfl (?_)))))
    refine d_if hF (fun q hF => ?_) (fun q hF => ?_)
    · refine dw_ge_y rfl (u := 169) rfl r_x4 hH.r q ?_
      refine dw_ic rfl (dw_is rfl rfl (?_))
      refine D_X12_speed_l35 hH (fun {x1_u8} {x2_u8} {x3_u8} {x4_u8} {ls_u8} hF l0_u8 r_x1_u8 l1_u8 r_x2_u8 l2_u8 r_x3_u8 l3_u8 r_x4_u8 l4_u8 => ?_) _ hF (d_s1 l0 rfl (by decide)) r_x1 (d_s1 l1 rfl (by decide)) r_x2 (d_s1 l2 rfl (by decide)) r_x3 (d_s1 l3 rfl (by decide)) r_x4 (d_s1 l4 rfl (by decide)) (d_rl rfl) p_lk_s1
      · refine dw_ii rfl l4_u8 rfl (dw_go rfl (u := 20) rfl (?_))
        exact ih hF (d_s1 l0_u8 rfl (by decide)) r_x1_u8 (d_s1 l1_u8 rfl (by decide)) r_x2_u8 (d_s1 l2_u8 rfl (by decide)) r_x3_u8 (d_s1 l3_u8 rfl (by decide)) d_R_w p_lk_s1
    · refine dw_ge_n rfl (u := 169) rfl r_x4 hH.r q ?_
      exact hk169 hF r_x1 l1 r_x2 l2 r_x3 l3
set_option maxRecDepth 100000 in
noncomputable def F_X12_speed (s : d_S) (x1 : Int) : Option (Int) :=
  d_b (F_X12_isIn x1 0 3) (fun v1 => if v1 = 0 then
  some (-100000)
  else
  F_X12_speed_l20 s (fun x1_u9 x2_u9 x3_u9 =>
  if x3_u9 = 0 then
  some (-100000)
  else
  if (d_rem x1_u9 2) = 1 then
  d_b (F_X12_part x2_u9 x3_u9 1) (fun v10 => some (d_w v10))
  else
  d_b (F_X12_part x2_u9 x3_u9 0) (fun v11 => some (d_w v11))) d_N x1 0 0 0)
set_option maxRecDepth 100000 in
theorem D_X12_speed {t : Nat → Option p_C} {h : p_H} {s : d_S} {x1 : Int} {r : Int} (hF : F_X12_speed s x1 = some r) (hH : d_V t h s) (r_x1 : d_R x1) : p_wp p_GT p_MT 2 m_X12_speed 0 (lv_args 0 [.ref 64, .int (Int32.ofInt x1)]) [] h (d_QP h r) := by
  unfold F_X12_speed at hF
  refine dw_iln rfl rfl (dw_ic rfl (dw_ic rfl (dw_sB hF rfl rfl rfl rfl rfl (dc := 0) (fun _ e => D_X12_isIn e r_x1 (d_rl rfl) (d_rl rfl)) (fun v1 r_v1 hF => ?_))))
  refine d_if hF (fun q hF => ?_) (fun q hF => ?_)
  · refine dw_zne_y rfl (u := 13) rfl (d_R_b r_v1) q ?_
    exact dw_ldcw rfl rfl (dw_rP rfl rfl (d_rl rfl) hF)
  · refine dw_zne_n rfl (u := 13) rfl (d_R_b r_v1) q ?_
    refine dw_ic rfl (dw_isn rfl rfl (dw_ic rfl (dw_isn rfl rfl (dw_ic rfl (dw_is rfl rfl (?_))))))
    refine D_X12_speed_l20 hH (fun {x1_u9} {x2_u9} {x3_u9} {ls_u9} hF r_x1_u9 l1_u9 r_x2_u9 l2_u9 r_x3_u9 l3_u9 => ?_) _ hF (d_s1 (d_s1 (d_s1 rfl rfl (by decide)) rfl (by decide)) rfl (by decide)) r_x1 (d_s1 (d_s1 (d_s1 rfl rfl (by decide)) rfl (by decide)) rfl (by decide)) (d_rl rfl) (d_s1 (d_s1 p_lk_s1 rfl (by decide)) rfl (by decide)) (d_rl rfl) (d_s1 p_lk_s1 rfl (by decide)) (d_rl rfl) p_lk_s1
    · refine dw_iln rfl l3_u9 (?_)
      refine d_if hF (fun q hF => ?_) (fun q hF => ?_)
      · refine dw_zne_y rfl (u := 179) rfl r_x3_u9 q ?_
        exact dw_ldcw rfl rfl (dw_go rfl (u := 199) rfl (dw_rP rfl rfl (d_rl rfl) hF))
      · refine dw_zne_n rfl (u := 179) rfl r_x3_u9 q ?_
        refine dw_iln rfl l2_u9 (dw_i2l rfl r_x2_u9 (dw_iln rfl l3_u9 (dw_i2l rfl r_x3_u9 (dw_iln rfl l1_u9 (dw_ic rfl (dw_rem rfl (d_rl rfl) (by decide) (dw_ic rfl (?_))))))))
        refine d_if hF (fun q hF => ?_) (fun q hF => ?_)
        · refine dw_ne_y rfl (u := 194) rfl d_R_t (d_rl rfl) q ?_
          exact dw_ic rfl (dw_go rfl (u := 195) rfl (dw_sL hF rfl rfl rfl rfl rfl (dc := 1) (fun _ e => D_X12_part e (d_RL_R r_x2_u9) (d_RL_R r_x3_u9) (d_rl rfl)) (fun v10 r_v10 hF => dw_l2i rfl (dw_w1 (dw_rP rfl rfl d_R_w hF)))))
        · refine dw_ne_n rfl (u := 194) rfl d_R_t (d_rl rfl) q ?_
          exact dw_ic rfl (dw_sL hF rfl rfl rfl rfl rfl (dc := 1) (fun _ e => D_X12_part e (d_RL_R r_x2_u9) (d_RL_R r_x3_u9) (d_rl rfl)) (fun v11 r_v11 hF => dw_l2i rfl (dw_w1 (dw_rP rfl rfl d_R_w hF))))
set_option maxRecDepth 100000 in
noncomputable def F_X12_isServing_l12_b (s : d_S) (rec : Int → Int → Int → Option (Int)) (x1 : Int) (x2 : Int) (x3 : Int) : Option (Int) :=
  if x3 < (s.1 65 0) then
  d_b (F_X12_sightOf s x3 0) (fun v2 => if v2 = x2 then
  d_b (F_X12_cellsIn s x3 x1) (fun v3 => d_b (F_X12_areaOf s x3) (fun v4 => if v3 = v4 then
  d_b (F_X12_get s x1 1) (fun v5 => d_b (F_X12_sightOf s x3 5) (fun v6 => if (d_w (10 * v6)) < v5 then
  rec x1 x2 (d_w (x3 + 1))
  else
  some 1))
  else
  rec x1 x2 (d_w (x3 + 1))))
  else
  rec x1 x2 (d_w (x3 + 1)))
  else
  some 0
set_option maxRecDepth 100000 in
noncomputable def F_X12_isServing_l12 (s : d_S) : Nat → Int → Int → Int → Option (Int)
  | 0 => fun _ _ _ => none
  | n + 1 => F_X12_isServing_l12_b s (F_X12_isServing_l12 s n)
set_option maxRecDepth 100000 in
theorem D_X12_isServing_l12 {t : Nat → Option p_C} {h : p_H} {s : d_S} {r : Int} (hH : d_V t h s) : ∀ (n : Nat) {x1 : Int} {x2 : Int} {x3 : Int} {ls : p_Ls}, F_X12_isServing_l12 s n x1 x2 x3 = some r → p_lk 0 ls = some (.ref 64) → d_R x1 → p_lk 1 ls = some (.int (Int32.ofInt x1)) → d_R x2 → p_lk 2 ls = some (.int (Int32.ofInt x2)) → d_R x3 → p_lk 3 ls = some (.int (Int32.ofInt x3)) → p_wp p_GT p_MT 5 m_X12_isServing 12 ls [] h (d_QB h r) := by
  intro n
  induction n with
  | zero =>
    intro x1 x2 x3 ls hF l0 r_x1 l1 r_x2 l2 r_x3 l3
    cases (show (none : Option (Int)) = some r from hF)
  | succ n ih =>
    intro x1 x2 x3 ls hF l0 r_x1 l1 r_x2 l2 r_x3 l3
    have hF : F_X12_isServing_l12_b s (F_X12_isServing_l12 s n) x1 x2 x3 = some r := hF
    unfold F_X12_isServing_l12_b at hF
    refine dw_iln rfl l3 (dw_aln rfl l0 (dw_gr rfl rfl rfl hH d_c64_0 (dw_ic rfl (dw_ald rfl hH d_a65 rfl (by decide) (by decide) (d_rl rfl) (k := 0) rfl (?_)))))
    refine d_if hF (fun q hF => ?_) (fun q hF => ?_)
    · refine dw_ge_y rfl (u := 72) rfl r_x3 hH.r q ?_
      refine dw_aln rfl l0 (dw_iln rfl l3 (dw_ic rfl (dw_vP hF rfl (d_vir (n := 3) rfl rfl rfl rfl rfl hH d_c64_0 rfl) rfl rfl rfl (dc := 0) (fun _ e => D_X12_sightOf e hH r_x3 (d_rl rfl)) (fun v2 r_v2 hF => dw_iln rfl l2 (?_)))))
      refine d_if hF (fun q hF => ?_) (fun q hF => ?_)
      · refine dw_ne_y rfl (u := 66) rfl r_v2 r_x2 q ?_
        refine dw_aln rfl l0 (dw_iln rfl l3 (dw_iln rfl l1 (dw_vP hF rfl (d_vir (n := 3) rfl rfl rfl rfl rfl hH d_c64_0 rfl) rfl rfl rfl (dc := 4) (fun _ e => D_X12_cellsIn e hH r_x3 r_x1) (fun v3 r_v3 hF => dw_aln rfl l0 (dw_iln rfl l3 (dw_vP hF rfl (d_vir (n := 2) rfl rfl rfl rfl rfl hH d_c64_0 rfl) rfl rfl rfl (dc := 1) (fun _ e => D_X12_areaOf e hH r_x3) (fun v4 r_v4 hF => ?_)))))))
        refine d_if hF (fun q hF => ?_) (fun q hF => ?_)
        · refine dw_ne_y rfl (u := 66) rfl r_v3 r_v4 q ?_
          refine dw_aln rfl l0 (dw_iln rfl l1 (dw_ic rfl (dw_vP hF rfl (d_vir (n := 3) rfl rfl rfl rfl rfl hH d_c64_0 rfl) rfl rfl rfl (dc := 0) (fun _ e => D_X12_get e hH r_x1 (d_rl rfl)) (fun v5 r_v5 hF => dw_bp rfl rfl (dw_aln rfl l0 (dw_iln rfl l3 (dw_ic rfl (dw_vP hF rfl (d_vir (n := 3) rfl rfl rfl rfl rfl hH d_c64_0 rfl) rfl rfl rfl (dc := 0) (fun _ e => D_X12_sightOf e hH r_x3 (d_rl rfl)) (fun v6 r_v6 hF => dw_mul rfl (?_))))))))))
          refine dw_w1 (?_)
          refine d_if hF (fun q hF => ?_) (fun q hF => ?_)
          · refine dw_gt_y rfl (u := 66) rfl r_v5 d_R_w q ?_
            refine dw_ii rfl l3 rfl (dw_go rfl (u := 12) rfl (?_))
            exact ih hF (d_s1 l0 rfl (by decide)) r_x1 (d_s1 l1 rfl (by decide)) r_x2 (d_s1 l2 rfl (by decide)) d_R_w p_lk_s1
          · refine dw_gt_n rfl (u := 66) rfl r_v5 d_R_w q ?_
            exact dw_ic rfl (dw_rB rfl rfl (Or.inr rfl) hF)
        · refine dw_ne_n rfl (u := 66) rfl r_v3 r_v4 q ?_
          refine dw_ii rfl l3 rfl (dw_go rfl (u := 12) rfl (?_))
          exact ih hF (d_s1 l0 rfl (by decide)) r_x1 (d_s1 l1 rfl (by decide)) r_x2 (d_s1 l2 rfl (by decide)) d_R_w p_lk_s1
      · refine dw_ne_n rfl (u := 66) rfl r_v2 r_x2 q ?_
        refine dw_ii rfl l3 rfl (dw_go rfl (u := 12) rfl (?_))
        exact ih hF (d_s1 l0 rfl (by decide)) r_x1 (d_s1 l1 rfl (by decide)) r_x2 (d_s1 l2 rfl (by decide)) d_R_w p_lk_s1
    · refine dw_ge_n rfl (u := 72) rfl r_x3 hH.r q ?_
      exact dw_ic rfl (dw_rB rfl rfl (Or.inl rfl) hF)
set_option maxRecDepth 100000 in
noncomputable def F_X12_isServing (s : d_S) (x1 : Int) (x2 : Int) : Option (Int) :=
  d_b (F_X12_isSold s x1) (fun v1 => if v1 = 0 then
  F_X12_isServing_l12 s d_N x1 x2 0
  else
  some 0)
set_option maxRecDepth 100000 in
theorem D_X12_isServing {t : Nat → Option p_C} {h : p_H} {s : d_S} {x1 : Int} {x2 : Int} {r : Int} (hF : F_X12_isServing s x1 x2 = some r) (hH : d_V t h s) (r_x1 : d_R x1) (r_x2 : d_R x2) : p_wp p_GT p_MT 5 m_X12_isServing 0 (lv_args 0 [.ref 64, .int (Int32.ofInt x1), .int (Int32.ofInt x2)]) [] h (d_QB h r) := by
  unfold F_X12_isServing at hF
  refine dw_aln rfl rfl (dw_iln rfl rfl (dw_vB hF rfl (d_vir (n := 2) rfl rfl rfl rfl rfl hH d_c64_0 rfl) rfl rfl rfl (dc := 1) (fun _ e => D_X12_isSold e hH r_x1) (fun v1 r_v1 hF => ?_)))
  refine d_if hF (fun q hF => ?_) (fun q hF => ?_)
  · refine dw_zeq_y rfl (u := 10) rfl (d_R_b r_v1) q ?_
    refine dw_ic rfl (dw_isn rfl rfl (?_))
    exact D_X12_isServing_l12 hH _ hF (d_s1 rfl rfl (by decide)) r_x1 (d_s1 rfl rfl (by decide)) r_x2 (d_s1 rfl rfl (by decide)) (d_rl rfl) p_lk_s1
  · refine dw_zeq_n rfl (u := 10) rfl (d_R_b r_v1) q ?_
    exact dw_ic rfl (dw_rB rfl rfl (Or.inl rfl) hF)

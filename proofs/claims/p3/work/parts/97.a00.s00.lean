set_option maxRecDepth 100000 in
noncomputable def F_X5_choose_0 (_s : d_S) (_x1 _x2 _x3 : Int) : Option d_S := none
set_option maxRecDepth 100000 in
theorem D_X5_choose_0 {t : Nat → Option p_C} {h : p_H} {s : d_S} {x1 x2 x3 : Int} {r : d_S} (hF : F_X5_choose_0 s x1 x2 x3 = some r) (hH : d_V t h s) (r_x1 : d_R x1) (r_x2 : d_R x2) (r_x3 : d_R x3) : p_wp p_GT p_MT 0 m_X5_choose 0 (lv_args 0 [.ref 56, .int (Int32.ofInt x1), .int (Int32.ofInt x2), .int (Int32.ofInt x3)]) [] h (d_QV t r) := by
  cases (show (none : Option d_S) = some r from hF)
set_option maxRecDepth 100000 in
noncomputable def F_X8_part_10 (s : d_S) (x1 : Int) (x2 : Int) : Option (Int) :=
  if (d_w ((x1 * 4) + x2)) < 0 then
  some 0
  else
  if (d_w ((x1 * 4) + x2)) < 32 then
  d_g (0 ≤ (d_w ((x1 * 4) + x2)) ∧ (d_w ((x1 * 4) + x2)) < 32) (some (s.1 11 (((d_w ((x1 * 4) + x2))).toNat)))
  else
  some 0
set_option maxRecDepth 100000 in
theorem D_X8_part_10 {t : Nat → Option p_C} {h : p_H} {s : d_S} {x1 : Int} {x2 : Int} {r : Int} (hF : F_X8_part_10 s x1 x2 = some r) (hH : d_V t h s) (r_x1 : d_R x1) (r_x2 : d_R x2) : p_wp p_GT p_MT 0 m_X8_part 0 (lv_args 0 [.ref 10, .int (Int32.ofInt x1), .int (Int32.ofInt x2)]) [] h (d_QP h r) := by
  unfold F_X8_part_10 at hF
  refine dw_iln rfl rfl (dw_ic rfl (dw_mul rfl (dw_iln rfl rfl (dw_add rfl (dw_w1 (dw_isn rfl rfl (dw_iln rfl p_lk_s1 (?_))))))))
  refine d_if hF (fun q hF => ?_) (fun q hF => ?_)
  · refine dw_zlt_y rfl (u := 28) rfl d_R_w q ?_
    exact dw_ic rfl (dw_rP rfl rfl (d_rl rfl) hF)
  · refine dw_zlt_n rfl (u := 28) rfl d_R_w q ?_
    refine dw_iln rfl p_lk_s1 (dw_aln rfl (d_s1 rfl rfl (by decide)) (dw_gr rfl rfl rfl hH d_c10_1 (dw_len rfl hH d_a11 rfl (z := 32) rfl (?_))))
    refine d_if hF (fun q hF => ?_) (fun q hF => ?_)
    · refine dw_ge_y rfl (u := 28) rfl d_R_w (d_rl rfl) q ?_
      exact dw_aln rfl (d_s1 rfl rfl (by decide)) (dw_gr rfl rfl rfl hH d_c10_1 (dw_iln rfl p_lk_s1 (d_gd hF (fun g1 hF => dw_ald rfl hH d_a11 rfl g1.1 g1.2 d_R_w rfl (dw_go rfl (u := 29) rfl (dw_rP rfl rfl hH.r hF))))))
    · refine dw_ge_n rfl (u := 28) rfl d_R_w (d_rl rfl) q ?_
      exact dw_ic rfl (dw_rP rfl rfl (d_rl rfl) hF)
set_option maxRecDepth 100000 in
noncomputable def F_X5_isFree_l2_b (s : d_S) (rec : Int → Int → Int → Option (Int)) (x1 : Int) (x2 : Int) (x3 : Int) : Option (Int) :=
  if x3 < x2 then
  if x3 < 5 then
  d_g (0 ≤ x3 ∧ x3 < 5) (if (s.1 59 (x3.toNat)) = x1 then
  some 0
  else
  rec x1 x2 (d_w (x3 + 1)))
  else
  some 1
  else
  some 1
set_option maxRecDepth 100000 in
noncomputable def F_X5_isFree_l2 (s : d_S) : Nat → Int → Int → Int → Option (Int)
  | 0 => fun _ _ _ => none
  | n + 1 => F_X5_isFree_l2_b s (F_X5_isFree_l2 s n)
set_option maxRecDepth 100000 in
theorem D_X5_isFree_l2 {t : Nat → Option p_C} {h : p_H} {s : d_S} {r : Int} (hH : d_V t h s) : ∀ (n : Nat) {x1 : Int} {x2 : Int} {x3 : Int} {ls : p_Ls}, F_X5_isFree_l2 s n x1 x2 x3 = some r → p_lk 0 ls = some (.ref 56) → d_R x1 → p_lk 1 ls = some (.int (Int32.ofInt x1)) → d_R x2 → p_lk 2 ls = some (.int (Int32.ofInt x2)) → d_R x3 → p_lk 3 ls = some (.int (Int32.ofInt x3)) → p_wp p_GT p_MT 0 m_X5_isFree 2 ls [] h (d_QB h r) := by
  intro n
  induction n with
  | zero =>
    intro x1 x2 x3 ls hF l0 r_x1 l1 r_x2 l2 r_x3 l3
    cases (show (none : Option (Int)) = some r from hF)
  | succ n ih =>
    intro x1 x2 x3 ls hF l0 r_x1 l1 r_x2 l2 r_x3 l3
    have hF : F_X5_isFree_l2_b s (F_X5_isFree_l2 s n) x1 x2 x3 = some r := hF
    unfold F_X5_isFree_l2_b at hF
    refine dw_iln rfl l3 (dw_iln rfl l2 (?_))
    refine d_if hF (fun q hF => ?_) (fun q hF => ?_)
    · refine dw_ge_y rfl (u := 30) rfl r_x3 r_x2 q ?_
      refine dw_iln rfl l3 (dw_ic rfl (?_))
      refine d_if hF (fun q hF => ?_) (fun q hF => ?_)
      · refine dw_ge_y rfl (u := 30) rfl r_x3 (d_rl rfl) q ?_
        refine dw_aln rfl l0 (dw_gr rfl rfl rfl hH d_c56_5 (dw_iln rfl l3 (d_gd hF (fun g1 hF => dw_ald rfl hH d_a59 rfl g1.1 g1.2 r_x3 rfl (dw_iln rfl l1 (?_))))))
        refine d_if hF (fun q hF => ?_) (fun q hF => ?_)
        · refine dw_ne_y rfl (u := 24) rfl hH.r r_x1 q ?_
          exact dw_ic rfl (dw_rB rfl rfl (Or.inl rfl) hF)
        · refine dw_ne_n rfl (u := 24) rfl hH.r r_x1 q ?_
          refine dw_ii rfl l3 rfl (dw_go rfl (u := 2) rfl (?_))
          exact ih hF (d_s1 l0 rfl (by decide)) r_x1 (d_s1 l1 rfl (by decide)) r_x2 (d_s1 l2 rfl (by decide)) d_R_w p_lk_s1
      · refine dw_ge_n rfl (u := 30) rfl r_x3 (d_rl rfl) q ?_
        exact dw_ic rfl (dw_rB rfl rfl (Or.inr rfl) hF)
    · refine dw_ge_n rfl (u := 30) rfl r_x3 r_x2 q ?_
      exact dw_ic rfl (dw_rB rfl rfl (Or.inr rfl) hF)
set_option maxRecDepth 100000 in
noncomputable def F_X5_isFree (s : d_S) (x1 : Int) (x2 : Int) : Option (Int) :=
  F_X5_isFree_l2 s d_N x1 x2 0
set_option maxRecDepth 100000 in
theorem D_X5_isFree {t : Nat → Option p_C} {h : p_H} {s : d_S} {x1 : Int} {x2 : Int} {r : Int} (hF : F_X5_isFree s x1 x2 = some r) (hH : d_V t h s) (r_x1 : d_R x1) (r_x2 : d_R x2) : p_wp p_GT p_MT 0 m_X5_isFree 0 (lv_args 0 [.ref 56, .int (Int32.ofInt x1), .int (Int32.ofInt x2)]) [] h (d_QB h r) := by
  unfold F_X5_isFree at hF
  refine dw_ic rfl (dw_isn rfl rfl (?_))
  exact D_X5_isFree_l2 hH _ hF (d_s1 rfl rfl (by decide)) r_x1 (d_s1 rfl rfl (by decide)) r_x2 (d_s1 rfl rfl (by decide)) (d_rl rfl) p_lk_s1
set_option maxRecDepth 100000 in
noncomputable def F_X5_choose_1_l71_b (k140 : Int → Int → Int → Int → d_S → Option (d_S)) (rec : Int → Int → Int → Int → Int → d_S → Option (d_S)) (x1 : Int) (x2 : Int) (x3 : Int) (x4 : Int) (x5 : Int) (s : d_S) : Option (d_S) :=
  d_g (0 ≤ x1 ∧ x1 < 5) (if x5 < (s.1 58 (x1.toNat)) then
  if x5 < 5 then
  d_g (0 ≤ (d_w ((x1 * 5) + x5)) ∧ (d_w ((x1 * 5) + x5)) < 25) (d_l (s.1 57 (((d_w ((x1 * 5) + x5))).toNat)) (fun z4 => d_b (F_X5_isFree s z4 x1) (fun v5 => if v5 = 0 then
  rec x1 x2 x3 x4 (d_w (x5 + 1)) s
  else
  d_g (0 ≤ x1 ∧ x1 < 5) (d_l (d_si s 59 ((x1).toNat) z4) (fun s7 => d_b (F_X5_choose_0 s7 (d_w (x1 + 1)) (d_w (x2 + x4)) (d_w (x3 - x4))) (fun s8 => rec x1 x2 x3 x4 (d_w (x5 + 1)) s8))))))
  else
  k140 x1 x2 x3 x4 s
  else
  k140 x1 x2 x3 x4 s)
set_option maxRecDepth 100000 in
noncomputable def F_X5_choose_1_l71 (k140 : Int → Int → Int → Int → d_S → Option (d_S)) : Nat → Int → Int → Int → Int → Int → d_S → Option (d_S)
  | 0 => fun _ _ _ _ _ _ => none
  | n + 1 => F_X5_choose_1_l71_b k140 (F_X5_choose_1_l71 k140 n)
set_option maxRecDepth 100000 in
theorem D_X5_choose_1_l71 {t : Nat → Option p_C} {k140 : Int → Int → Int → Int → d_S → Option (d_S)} {r : d_S} (hk140 : ∀ {x1 : Int} {x2 : Int} {x3 : Int} {x4 : Int} {ls : p_Ls} {s : d_S} {h : p_H}, k140 x1 x2 x3 x4 s = some r → d_V t h s → p_lk 0 ls = some (.ref 56) → d_R x1 → p_lk 1 ls = some (.int (Int32.ofInt x1)) → d_R x2 → p_lk 2 ls = some (.int (Int32.ofInt x2)) → d_R x3 → p_lk 3 ls = some (.int (Int32.ofInt x3)) → d_R x4 → p_lk 4 ls = some (.int (Int32.ofInt x4)) → p_wp p_GT p_MT 1 m_X5_choose 140 ls [] h (d_QV t r)) : ∀ (n : Nat) {x1 : Int} {x2 : Int} {x3 : Int} {x4 : Int} {x5 : Int} {ls : p_Ls} {s : d_S} {h : p_H}, F_X5_choose_1_l71 k140 n x1 x2 x3 x4 x5 s = some r → d_V t h s → p_lk 0 ls = some (.ref 56) → d_R x1 → p_lk 1 ls = some (.int (Int32.ofInt x1)) → d_R x2 → p_lk 2 ls = some (.int (Int32.ofInt x2)) → d_R x3 → p_lk 3 ls = some (.int (Int32.ofInt x3)) → d_R x4 → p_lk 4 ls = some (.int (Int32.ofInt x4)) → d_R x5 → p_lk 5 ls = some (.int (Int32.ofInt x5)) → p_wp p_GT p_MT 1 m_X5_choose 71 ls [] h (d_QV t r) := by
  intro n
  induction n with
  | zero =>
    intro x1 x2 x3 x4 x5 ls s h hF hH l0 r_x1 l1 r_x2 l2 r_x3 l3 r_x4 l4 r_x5 l5
    cases (show (none : Option (d_S)) = some r from hF)
  | succ n ih =>
    intro x1 x2 x3 x4 x5 ls s h hF hH l0 r_x1 l1 r_x2 l2 r_x3 l3 r_x4 l4 r_x5 l5
    have hF : F_X5_choose_1_l71_b k140 (F_X5_choose_1_l71 k140 n) x1 x2 x3 x4 x5 s = some r := hF
    unfold F_X5_choose_1_l71_b at hF
    refine dw_il rfl l5 (dw_aln rfl l0 (dw_gr rfl rfl rfl hH d_c56_4 (dw_iln rfl l1 (d_gd hF (fun g2 hF => dw_ald rfl hH d_a58 rfl g2.1 g2.2 r_x1 rfl (?_))))))
    refine d_if hF (fun q hF => ?_) (fun q hF => ?_)
    · refine dw_ge_y rfl (u := 140) rfl r_x5 hH.r q ?_
      refine dw_il rfl l5 (dw_ic rfl (?_))
      refine d_if hF (fun q hF => ?_) (fun q hF => ?_)
      · refine dw_ge_y rfl (u := 140) rfl r_x5 (d_rl rfl) q ?_
        refine dw_aln rfl l0 (dw_gr rfl rfl rfl hH d_c56_3 (dw_iln rfl l1 (dw_ic rfl (dw_mul rfl (dw_il rfl l5 (dw_add rfl (dw_w1 (d_gd hF (fun g3 hF => dw_ald rfl hH d_a57 rfl g3.1 g3.2 d_R_w rfl (?_))))))))))
        refine dw_nm hF hH.r (fun z4 r_z4 hF => dw_is rfl rfl (dw_aln rfl (d_s1 l0 rfl (by decide)) (dw_il rfl p_lk_s1 (dw_iln rfl (d_s1 l1 rfl (by decide)) (dw_vB hF rfl (d_vir (n := 3) rfl rfl rfl rfl rfl hH d_c56_0 rfl) rfl rfl rfl (dc := 0) (fun _ e => D_X5_isFree e hH r_z4 r_x1) (fun v5 r_v5 hF => ?_))))))
        refine d_if hF (fun q hF => ?_) (fun q hF => ?_)
        · refine dw_zeq_y rfl (u := 134) rfl (d_R_b r_v5) q ?_
          refine dw_ii rfl (d_s1 l5 rfl (by decide)) rfl (dw_go rfl (u := 71) rfl (?_))
          exact ih hF hH (d_s1 (d_s1 l0 rfl (by decide)) rfl (by decide)) r_x1 (d_s1 (d_s1 l1 rfl (by decide)) rfl (by decide)) r_x2 (d_s1 (d_s1 l2 rfl (by decide)) rfl (by decide)) r_x3 (d_s1 (d_s1 l3 rfl (by decide)) rfl (by decide)) r_x4 (d_s1 (d_s1 l4 rfl (by decide)) rfl (by decide)) d_R_w p_lk_s1
        · refine dw_zeq_n rfl (u := 134) rfl (d_R_b r_v5) q ?_
          refine dw_aln rfl (d_s1 l0 rfl (by decide)) (dw_gr rfl rfl rfl hH d_c56_5 (dw_iln rfl (d_s1 l1 rfl (by decide)) (dw_il rfl p_lk_s1 (d_gd hF (fun g6 hF => dw_ast rfl hH d_a59 g6.1 g6.2 r_x1 rfl r_z4 hF (fun s7 h7 hH7 hF => dw_aln rfl (d_s1 l0 rfl (by decide)) (dw_iln rfl (d_s1 l1 rfl (by decide)) (dw_ic rfl (dw_add rfl (?_))))))))))
          refine dw_iln rfl (d_s1 l2 rfl (by decide)) (dw_il rfl (d_s1 l4 rfl (by decide)) (dw_add rfl (dw_iln rfl (d_s1 l3 rfl (by decide)) (dw_il rfl (d_s1 l4 rfl (by decide)) (dw_sub rfl (dw_w1 (dw_w2 (dw_w3 (dw_vV hF rfl (d_vir (n := 4) rfl rfl rfl rfl rfl hH7 d_c56_0 rfl) rfl rfl rfl (dc := 0) (fun _ e => D_X5_choose_0 e hH7 d_R_w d_R_w d_R_w) (fun s8 h8 hH8 hF => ?_))))))))))
          refine dw_ii rfl (d_s1 l5 rfl (by decide)) rfl (dw_go rfl (u := 71) rfl (?_))
          exact ih hF hH8 (d_s1 (d_s1 l0 rfl (by decide)) rfl (by decide)) r_x1 (d_s1 (d_s1 l1 rfl (by decide)) rfl (by decide)) r_x2 (d_s1 (d_s1 l2 rfl (by decide)) rfl (by decide)) r_x3 (d_s1 (d_s1 l3 rfl (by decide)) rfl (by decide)) r_x4 (d_s1 (d_s1 l4 rfl (by decide)) rfl (by decide)) d_R_w p_lk_s1
      · refine dw_ge_n rfl (u := 140) rfl r_x5 (d_rl rfl) q ?_
        exact hk140 hF hH l0 r_x1 l1 r_x2 l2 r_x3 l3 r_x4 l4
    · refine dw_ge_n rfl (u := 140) rfl r_x5 hH.r q ?_
      exact hk140 hF hH l0 r_x1 l1 r_x2 l2 r_x3 l3 r_x4 l4
set_option maxRecDepth 100000 in
noncomputable def F_X5_choose_1_j30 (x2 : Int) (s : d_S) : Option (d_S) :=
  d_l (d_si s 56 7 x2) (fun s13 => d_l (d_cp s13 59 0 60 0 5) (fun s14 => some s14))
set_option maxRecDepth 100000 in
theorem D_X5_choose_1_j30 {t : Nat → Option p_C} {h : p_H} {s : d_S} {x2 : Int} {r : d_S} {ls : p_Ls} (hF : F_X5_choose_1_j30 x2 s = some r) (hH : d_V t h s) (l0 : p_lk 0 ls = some (.ref 56)) (r_x2 : d_R x2) (l2 : p_lk 2 ls = some (.int (Int32.ofInt x2))) : p_wp p_GT p_MT 1 m_X5_choose 30 ls [] h (d_QV t r) := by
  unfold F_X5_choose_1_j30 at hF
  refine dw_aln rfl l0 (dw_iln rfl l2 (dw_pi (k := 7) rfl rfl rfl rfl hH d_c56_7 r_x2 (by decide) hF (fun s13 h13 hH13 hF => dw_aln rfl l0 (dw_gr rfl rfl rfl hH13 d_c56_5 (dw_ic rfl (dw_aln rfl l0 (dw_gr rfl rfl rfl hH13 d_c56_6 (dw_ic rfl (dw_aln rfl l0 (?_))))))))))
  exact dw_gr rfl rfl rfl hH13 d_c56_6 (dw_len rfl hH13 d_a60 rfl (z := 5) rfl (dw_cpy rfl rfl hH13 d_a59 d_a60 (d_rl rfl) (d_rl rfl) (d_rl rfl) (by decide) rfl hF (fun s14 h14 hH14 hF => dw_rV rfl rfl hH14 hF)))
set_option maxRecDepth 100000 in
noncomputable def F_X5_choose_1 (s : d_S) (x1 : Int) (x2 : Int) (x3 : Int) : Option (d_S) :=
  if (s.1 56 7) < (d_w (x2 + x3)) then
  if x1 < (s.1 10 2) then
  if x1 < 5 then
  d_b (F_X8_part_10 s x1 2) (fun v1 => F_X5_choose_1_l71 (fun x1_u9 x2_u9 x3_u9 x4_u9 s_u9 =>
  d_g (0 ≤ x1_u9 ∧ x1_u9 < 5) (d_l (d_si s_u9 59 ((x1_u9).toNat) (-1)) (fun s11 => d_b (F_X5_choose_0 s11 (d_w (x1_u9 + 1)) x2_u9 (d_w (x3_u9 - x4_u9))) (fun s12 => some s12)))) d_N x1 x2 x3 v1 0 s)
  else
  F_X5_choose_1_j30 x2 s
  else
  F_X5_choose_1_j30 x2 s
  else
  some s
set_option maxRecDepth 100000 in
theorem D_X5_choose_1 {t : Nat → Option p_C} {h : p_H} {s : d_S} {x1 : Int} {x2 : Int} {x3 : Int} {r : d_S} (hF : F_X5_choose_1 s x1 x2 x3 = some r) (hH : d_V t h s) (r_x1 : d_R x1) (r_x2 : d_R x2) (r_x3 : d_R x3) : p_wp p_GT p_MT 1 m_X5_choose 0 (lv_args 0 [.ref 56, .int (Int32.ofInt x1), .int (Int32.ofInt x2), .int (Int32.ofInt x3)]) [] h (d_QV t r) := by
  unfold F_X5_choose_1 at hF
  refine dw_iln rfl rfl (dw_iln rfl rfl (dw_add rfl (dw_aln rfl rfl (dw_gi (k := 7) rfl rfl rfl hH d_c56_7 (dw_w2 (?_))))))
  refine d_if hF (fun q hF => ?_) (fun q hF => ?_)
  · refine dw_gt_y rfl (u := 11) rfl d_R_w hH.r q ?_
    refine dw_iln rfl rfl (dw_aln rfl rfl (dw_gr rfl rfl rfl hH d_c56_0 (dw_gr rfl rfl rfl hH d_c3_10 (dw_gi (k := 2) rfl rfl rfl hH d_c10_2 (?_)))))
    refine d_if hF (fun q hF => ?_) (fun q hF => ?_)
    · refine dw_ge_y rfl (u := 30) rfl r_x1 hH.r q ?_
      refine dw_iln rfl rfl (dw_ic rfl (?_))
      refine d_if hF (fun q hF => ?_) (fun q hF => ?_)
      · refine dw_lt_y rfl (u := 54) rfl r_x1 (d_rl rfl) q ?_
        refine dw_aln rfl rfl (dw_gr rfl rfl rfl hH d_c56_0 (dw_gr rfl rfl rfl hH d_c3_10 (dw_iln rfl rfl (dw_ic rfl (dw_vP hF rfl (d_vir (n := 3) rfl rfl rfl rfl rfl hH d_c10_0 rfl) rfl rfl rfl (dc := 0) (fun _ e => D_X8_part_10 e hH r_x1 (d_rl rfl)) (fun v1 r_v1 hF => dw_is rfl rfl (dw_ic rfl (dw_is rfl rfl (?_)))))))))
        refine D_X5_choose_1_l71 (fun {x1_u9} {x2_u9} {x3_u9} {x4_u9} {ls_u9} {s_u9} {h_u9} hF hH_u9 l0_u9 r_x1_u9 l1_u9 r_x2_u9 l2_u9 r_x3_u9 l3_u9 r_x4_u9 l4_u9 => ?_) _ hF hH (d_s1 (d_s1 rfl rfl (by decide)) rfl (by decide)) r_x1 (d_s1 (d_s1 rfl rfl (by decide)) rfl (by decide)) r_x2 (d_s1 (d_s1 rfl rfl (by decide)) rfl (by decide)) r_x3 (d_s1 (d_s1 rfl rfl (by decide)) rfl (by decide)) r_v1 (d_s1 p_lk_s1 rfl (by decide)) (d_rl rfl) p_lk_s1
        · refine dw_aln rfl l0_u9 (dw_gr rfl rfl rfl hH_u9 d_c56_5 (dw_iln rfl l1_u9 (dw_ic rfl (d_gd hF (fun g10 hF => dw_ast rfl hH_u9 d_a59 g10.1 g10.2 r_x1_u9 rfl (d_rl rfl) hF (fun s11 h11 hH11 hF => dw_aln rfl l0_u9 (dw_iln rfl l1_u9 (dw_ic rfl (dw_add rfl (?_))))))))))
          exact dw_iln rfl l2_u9 (dw_iln rfl l3_u9 (dw_il rfl l4_u9 (dw_sub rfl (dw_w1 (dw_w3 (dw_vV hF rfl (d_vir (n := 4) rfl rfl rfl rfl rfl hH11 d_c56_0 rfl) rfl rfl rfl (dc := 0) (fun _ e => D_X5_choose_0 e hH11 d_R_w r_x2_u9 d_R_w) (fun s12 h12 hH12 hF => dw_rV rfl rfl hH12 hF)))))))
      · refine dw_lt_n rfl (u := 54) rfl r_x1 (d_rl rfl) q ?_
        exact D_X5_choose_1_j30 hF hH rfl r_x2 rfl
    · refine dw_ge_n rfl (u := 30) rfl r_x1 hH.r q ?_
      exact D_X5_choose_1_j30 hF hH rfl r_x2 rfl
  · refine dw_gt_n rfl (u := 11) rfl d_R_w hH.r q ?_
    exact dw_rV rfl rfl hH hF
set_option maxRecDepth 100000 in
noncomputable def F_X5_choose_2_l71_b (k140 : Int → Int → Int → Int → d_S → Option (d_S)) (rec : Int → Int → Int → Int → Int → d_S → Option (d_S)) (x1 : Int) (x2 : Int) (x3 : Int) (x4 : Int) (x5 : Int) (s : d_S) : Option (d_S) :=
  d_g (0 ≤ x1 ∧ x1 < 5) (if x5 < (s.1 58 (x1.toNat)) then
  if x5 < 5 then
  d_g (0 ≤ (d_w ((x1 * 5) + x5)) ∧ (d_w ((x1 * 5) + x5)) < 25) (d_l (s.1 57 (((d_w ((x1 * 5) + x5))).toNat)) (fun z4 => d_b (F_X5_isFree s z4 x1) (fun v5 => if v5 = 0 then
  rec x1 x2 x3 x4 (d_w (x5 + 1)) s
  else
  d_g (0 ≤ x1 ∧ x1 < 5) (d_l (d_si s 59 ((x1).toNat) z4) (fun s7 => d_b (F_X5_choose_1 s7 (d_w (x1 + 1)) (d_w (x2 + x4)) (d_w (x3 - x4))) (fun s8 => rec x1 x2 x3 x4 (d_w (x5 + 1)) s8))))))
  else
  k140 x1 x2 x3 x4 s
  else
  k140 x1 x2 x3 x4 s)
set_option maxRecDepth 100000 in
noncomputable def F_X5_choose_2_l71 (k140 : Int → Int → Int → Int → d_S → Option (d_S)) : Nat → Int → Int → Int → Int → Int → d_S → Option (d_S)
  | 0 => fun _ _ _ _ _ _ => none
  | n + 1 => F_X5_choose_2_l71_b k140 (F_X5_choose_2_l71 k140 n)
set_option maxRecDepth 100000 in
theorem D_X5_choose_2_l71 {t : Nat → Option p_C} {k140 : Int → Int → Int → Int → d_S → Option (d_S)} {r : d_S} (hk140 : ∀ {x1 : Int} {x2 : Int} {x3 : Int} {x4 : Int} {ls : p_Ls} {s : d_S} {h : p_H}, k140 x1 x2 x3 x4 s = some r → d_V t h s → p_lk 0 ls = some (.ref 56) → d_R x1 → p_lk 1 ls = some (.int (Int32.ofInt x1)) → d_R x2 → p_lk 2 ls = some (.int (Int32.ofInt x2)) → d_R x3 → p_lk 3 ls = some (.int (Int32.ofInt x3)) → d_R x4 → p_lk 4 ls = some (.int (Int32.ofInt x4)) → p_wp p_GT p_MT 2 m_X5_choose 140 ls [] h (d_QV t r)) : ∀ (n : Nat) {x1 : Int} {x2 : Int} {x3 : Int} {x4 : Int} {x5 : Int} {ls : p_Ls} {s : d_S} {h : p_H}, F_X5_choose_2_l71 k140 n x1 x2 x3 x4 x5 s = some r → d_V t h s → p_lk 0 ls = some (.ref 56) → d_R x1 → p_lk 1 ls = some (.int (Int32.ofInt x1)) → d_R x2 → p_lk 2 ls = some (.int (Int32.ofInt x2)) → d_R x3 → p_lk 3 ls = some (.int (Int32.ofInt x3)) → d_R x4 → p_lk 4 ls = some (.int (Int32.ofInt x4)) → d_R x5 → p_lk 5 ls = some (.int (Int32.ofInt x5)) → p_wp p_GT p_MT 2 m_X5_choose 71 ls [] h (d_QV t r) := by
  intro n
  induction n with
  | zero =>
    intro x1 x2 x3 x4 x5 ls s h hF hH l0 r_x1 l1 r_x2 l2 r_x3 l3 r_x4 l4 r_x5 l5
    cases (show (none : Option (d_S)) = some r from hF)
  | succ n ih =>
    intro x1 x2 x3 x4 x5 ls s h hF hH l0 r_x1 l1 r_x2 l2 r_x3 l3 r_x4 l4 r_x5 l5
    have hF : F_X5_choose_2_l71_b k140 (F_X5_choose_2_l71 k140 n) x1 x2 x3 x4 x5 s = some r := hF
    unfold F_X5_choose_2_l71_b at hF
    refine dw_il rfl l5 (dw_aln rfl l0 (dw_gr rfl rfl rfl hH d_c56_4 (dw_iln rfl l1 (d_gd hF (fun g2 hF => dw_ald rfl hH d_a58 rfl g2.1 g2.2 r_x1 rfl (?_))))))
    refine d_if hF (fun q hF => ?_) (fun q hF => ?_)
    · refine dw_ge_y rfl (u := 140) rfl r_x5 hH.r q ?_
      refine dw_il rfl l5 (dw_ic rfl (?_))
      refine d_if hF (fun q hF => ?_) (fun q hF => ?_)
      · refine dw_ge_y rfl (u := 140) rfl r_x5 (d_rl rfl) q ?_
        refine dw_aln rfl l0 (dw_gr rfl rfl rfl hH d_c56_3 (dw_iln rfl l1 (dw_ic rfl (dw_mul rfl (dw_il rfl l5 (dw_add rfl (dw_w1 (d_gd hF (fun g3 hF => dw_ald rfl hH d_a57 rfl g3.1 g3.2 d_R_w rfl (?_))))))))))
        refine dw_nm hF hH.r (fun z4 r_z4 hF => dw_is rfl rfl (dw_aln rfl (d_s1 l0 rfl (by decide)) (dw_il rfl p_lk_s1 (dw_iln rfl (d_s1 l1 rfl (by decide)) (dw_vB hF rfl (d_vir (n := 3) rfl rfl rfl rfl rfl hH d_c56_0 rfl) rfl rfl rfl (dc := 0) (fun _ e => D_X5_isFree e hH r_z4 r_x1) (fun v5 r_v5 hF => ?_))))))
        refine d_if hF (fun q hF => ?_) (fun q hF => ?_)
        · refine dw_zeq_y rfl (u := 134) rfl (d_R_b r_v5) q ?_
          refine dw_ii rfl (d_s1 l5 rfl (by decide)) rfl (dw_go rfl (u := 71) rfl (?_))
          exact ih hF hH (d_s1 (d_s1 l0 rfl (by decide)) rfl (by decide)) r_x1 (d_s1 (d_s1 l1 rfl (by decide)) rfl (by decide)) r_x2 (d_s1 (d_s1 l2 rfl (by decide)) rfl (by decide)) r_x3 (d_s1 (d_s1 l3 rfl (by decide)) rfl (by decide)) r_x4 (d_s1 (d_s1 l4 rfl (by decide)) rfl (by decide)) d_R_w p_lk_s1
        · refine dw_zeq_n rfl (u := 134) rfl (d_R_b r_v5) q ?_
          refine dw_aln rfl (d_s1 l0 rfl (by decide)) (dw_gr rfl rfl rfl hH d_c56_5 (dw_iln rfl (d_s1 l1 rfl (by decide)) (dw_il rfl p_lk_s1 (d_gd hF (fun g6 hF => dw_ast rfl hH d_a59 g6.1 g6.2 r_x1 rfl r_z4 hF (fun s7 h7 hH7 hF => dw_aln rfl (d_s1 l0 rfl (by decide)) (dw_iln rfl (d_s1 l1 rfl (by decide)) (dw_ic rfl (dw_add rfl (?_))))))))))
          refine dw_iln rfl (d_s1 l2 rfl (by decide)) (dw_il rfl (d_s1 l4 rfl (by decide)) (dw_add rfl (dw_iln rfl (d_s1 l3 rfl (by decide)) (dw_il rfl (d_s1 l4 rfl (by decide)) (dw_sub rfl (dw_w1 (dw_w2 (dw_w3 (dw_vV hF rfl (d_vir (n := 4) rfl rfl rfl rfl rfl hH7 d_c56_0 rfl) rfl rfl rfl (dc := 1) (fun _ e => D_X5_choose_1 e hH7 d_R_w d_R_w d_R_w) (fun s8 h8 hH8 hF => ?_))))))))))
          refine dw_ii rfl (d_s1 l5 rfl (by decide)) rfl (dw_go rfl (u := 71) rfl (?_))
          exact ih hF hH8 (d_s1 (d_s1 l0 rfl (by decide)) rfl (by decide)) r_x1 (d_s1 (d_s1 l1 rfl (by decide)) rfl (by decide)) r_x2 (d_s1 (d_s1 l2 rfl (by decide)) rfl (by decide)) r_x3 (d_s1 (d_s1 l3 rfl (by decide)) rfl (by decide)) r_x4 (d_s1 (d_s1 l4 rfl (by decide)) rfl (by decide)) d_R_w p_lk_s1
      · refine dw_ge_n rfl (u := 140) rfl r_x5 (d_rl rfl) q ?_
        exact hk140 hF hH l0 r_x1 l1 r_x2 l2 r_x3 l3 r_x4 l4
    · refine dw_ge_n rfl (u := 140) rfl r_x5 hH.r q ?_
      exact hk140 hF hH l0 r_x1 l1 r_x2 l2 r_x3 l3 r_x4 l4
set_option maxRecDepth 100000 in
noncomputable def F_X5_choose_2_j30 (x2 : Int) (s : d_S) : Option (d_S) :=
  d_l (d_si s 56 7 x2) (fun s13 => d_l (d_cp s13 59 0 60 0 5) (fun s14 => some s14))
set_option maxRecDepth 100000 in
theorem D_X5_choose_2_j30 {t : Nat → Option p_C} {h : p_H} {s : d_S} {x2 : Int} {r : d_S} {ls : p_Ls} (hF : F_X5_choose_2_j30 x2 s = some r) (hH : d_V t h s) (l0 : p_lk 0 ls = some (.ref 56)) (r_x2 : d_R x2) (l2 : p_lk 2 ls = some (.int (Int32.ofInt x2))) : p_wp p_GT p_MT 2 m_X5_choose 30 ls [] h (d_QV t r) := by
  unfold F_X5_choose_2_j30 at hF
  refine dw_aln rfl l0 (dw_iln rfl l2 (dw_pi (k := 7) rfl rfl rfl rfl hH d_c56_7 r_x2 (by decide) hF (fun s13 h13 hH13 hF => dw_aln rfl l0 (dw_gr rfl rfl rfl hH13 d_c56_5 (dw_ic rfl (dw_aln rfl l0 (dw_gr rfl rfl rfl hH13 d_c56_6 (dw_ic rfl (dw_aln rfl l0 (?_))))))))))
  exact dw_gr rfl rfl rfl hH13 d_c56_6 (dw_len rfl hH13 d_a60 rfl (z := 5) rfl (dw_cpy rfl rfl hH13 d_a59 d_a60 (d_rl rfl) (d_rl rfl) (d_rl rfl) (by decide) rfl hF (fun s14 h14 hH14 hF => dw_rV rfl rfl hH14 hF)))
set_option maxRecDepth 100000 in
noncomputable def F_X5_choose_2 (s : d_S) (x1 : Int) (x2 : Int) (x3 : Int) : Option (d_S) :=
  if (s.1 56 7) < (d_w (x2 + x3)) then
  if x1 < (s.1 10 2) then
  if x1 < 5 then
  d_b (F_X8_part_10 s x1 2) (fun v1 => F_X5_choose_2_l71 (fun x1_u9 x2_u9 x3_u9 x4_u9 s_u9 =>
  d_g (0 ≤ x1_u9 ∧ x1_u9 < 5) (d_l (d_si s_u9 59 ((x1_u9).toNat) (-1)) (fun s11 => d_b (F_X5_choose_1 s11 (d_w (x1_u9 + 1)) x2_u9 (d_w (x3_u9 - x4_u9))) (fun s12 => some s12)))) d_N x1 x2 x3 v1 0 s)
  else
  F_X5_choose_2_j30 x2 s
  else
  F_X5_choose_2_j30 x2 s
  else
  some s
set_option maxRecDepth 100000 in
theorem D_X5_choose_2 {t : Nat → Option p_C} {h : p_H} {s : d_S} {x1 : Int} {x2 : Int} {x3 : Int} {r : d_S} (hF : F_X5_choose_2 s x1 x2 x3 = some r) (hH : d_V t h s) (r_x1 : d_R x1) (r_x2 : d_R x2) (r_x3 : d_R x3) : p_wp p_GT p_MT 2 m_X5_choose 0 (lv_args 0 [.ref 56, .int (Int32.ofInt x1), .int (Int32.ofInt x2), .int (Int32.ofInt x3)]) [] h (d_QV t r) := by
  unfold F_X5_choose_2 at hF
  refine dw_iln rfl rfl (dw_iln rfl rfl (dw_add rfl (dw_aln rfl rfl (dw_gi (k := 7) rfl rfl rfl hH d_c56_7 (dw_w2 (?_))))))
  refine d_if hF (fun q hF => ?_) (fun q hF => ?_)
  · refine dw_gt_y rfl (u := 11) rfl d_R_w hH.r q ?_
    refine dw_iln rfl rfl (dw_aln rfl rfl (dw_gr rfl rfl rfl hH d_c56_0 (dw_gr rfl rfl rfl hH d_c3_10 (dw_gi (k := 2) rfl rfl rfl hH d_c10_2 (?_)))))
    refine d_if hF (fun q hF => ?_) (fun q hF => ?_)
    · refine dw_ge_y rfl (u := 30) rfl r_x1 hH.r q ?_
      refine dw_iln rfl rfl (dw_ic rfl (?_))
      refine d_if hF (fun q hF => ?_) (fun q hF => ?_)
      · refine dw_lt_y rfl (u := 54) rfl r_x1 (d_rl rfl) q ?_
        refine dw_aln rfl rfl (dw_gr rfl rfl rfl hH d_c56_0 (dw_gr rfl rfl rfl hH d_c3_10 (dw_iln rfl rfl (dw_ic rfl (dw_vP hF rfl (d_vir (n := 3) rfl rfl rfl rfl rfl hH d_c10_0 rfl) rfl rfl rfl (dc := 0) (fun _ e => D_X8_part_10 e hH r_x1 (d_rl rfl)) (fun v1 r_v1 hF => dw_is rfl rfl (dw_ic rfl (dw_is rfl rfl (?_)))))))))
        refine D_X5_choose_2_l71 (fun {x1_u9} {x2_u9} {x3_u9} {x4_u9} {ls_u9} {s_u9} {h_u9} hF hH_u9 l0_u9 r_x1_u9 l1_u9 r_x2_u9 l2_u9 r_x3_u9 l3_u9 r_x4_u9 l4_u9 => ?_) _ hF hH (d_s1 (d_s1 rfl rfl (by decide)) rfl (by decide)) r_x1 (d_s1 (d_s1 rfl rfl (by decide)) rfl (by decide)) r_x2 (d_s1 (d_s1 rfl rfl (by decide)) rfl (by decide)) r_x3 (d_s1 (d_s1 rfl rfl (by decide)) rfl (by decide)) r_v1 (d_s1 p_lk_s1 rfl (by decide)) (d_rl rfl) p_lk_s1
        · refine dw_aln rfl l0_u9 (dw_gr rfl rfl rfl hH_u9 d_c56_5 (dw_iln rfl l1_u9 (dw_ic rfl (d_gd hF (fun g10 hF => dw_ast rfl hH_u9 d_a59 g10.1 g10.2 r_x1_u9 rfl (d_rl rfl) hF (fun s11 h11 hH11 hF => dw_aln rfl l0_u9 (dw_iln rfl l1_u9 (dw_ic rfl (dw_add rfl (?_))))))))))
          exact dw_iln rfl l2_u9 (dw_iln rfl l3_u9 (dw_il rfl l4_u9 (dw_sub rfl (dw_w1 (dw_w3 (dw_vV hF rfl (d_vir (n := 4) rfl rfl rfl rfl rfl hH11 d_c56_0 rfl) rfl rfl rfl (dc := 1) (fun _ e => D_X5_choose_1 e hH11 d_R_w r_x2_u9 d_R_w) (fun s12 h12 hH12 hF => dw_rV rfl rfl hH12 hF)))))))
      · refine dw_lt_n rfl (u := 54) rfl r_x1 (d_rl rfl) q ?_
        exact D_X5_choose_2_j30 hF hH rfl r_x2 rfl
    · refine dw_ge_n rfl (u := 30) rfl r_x1 hH.r q ?_
      exact D_X5_choose_2_j30 hF hH rfl r_x2 rfl
  · refine dw_gt_n rfl (u := 11) rfl d_R_w hH.r q ?_
    exact dw_rV rfl rfl hH hF
set_option maxRecDepth 100000 in
noncomputable def F_X5_choose_3_l71_b (k140 : Int → Int → Int → Int → d_S → Option (d_S)) (rec : Int → Int → Int → Int → Int → d_S → Option (d_S)) (x1 : Int) (x2 : Int) (x3 : Int) (x4 : Int) (x5 : Int) (s : d_S) : Option (d_S) :=
  d_g (0 ≤ x1 ∧ x1 < 5) (if x5 < (s.1 58 (x1.toNat)) then
  if x5 < 5 then
  d_g (0 ≤ (d_w ((x1 * 5) + x5)) ∧ (d_w ((x1 * 5) + x5)) < 25) (d_l (s.1 57 (((d_w ((x1 * 5) + x5))).toNat)) (fun z4 => d_b (F_X5_isFree s z4 x1) (fun v5 => if v5 = 0 then
  rec x1 x2 x3 x4 (d_w (x5 + 1)) s
  else
  d_g (0 ≤ x1 ∧ x1 < 5) (d_l (d_si s 59 ((x1).toNat) z4) (fun s7 => d_b (F_X5_choose_2 s7 (d_w (x1 + 1)) (d_w (x2 + x4)) (d_w (x3 - x4))) (fun s8 => rec x1 x2 x3 x4 (d_w (x5 + 1)) s8))))))
  else
  k140 x1 x2 x3 x4 s
  else
  k140 x1 x2 x3 x4 s)
set_option maxRecDepth 100000 in
noncomputable def F_X5_choose_3_l71 (k140 : Int → Int → Int → Int → d_S → Option (d_S)) : Nat → Int → Int → Int → Int → Int → d_S → Option (d_S)
  | 0 => fun _ _ _ _ _ _ => none
  | n + 1 => F_X5_choose_3_l71_b k140 (F_X5_choose_3_l71 k140 n)
set_option maxRecDepth 100000 in
theorem D_X5_choose_3_l71 {t : Nat → Option p_C} {k140 : Int → Int → Int → Int → d_S → Option (d_S)} {r : d_S} (hk140 : ∀ {x1 : Int} {x2 : Int} {x3 : Int} {x4 : Int} {ls : p_Ls} {s : d_S} {h : p_H}, k140 x1 x2 x3 x4 s = some r → d_V t h s → p_lk 0 ls = some (.ref 56) → d_R x1 → p_lk 1 ls = some (.int (Int32.ofInt x1)) → d_R x2 → p_lk 2 ls = some (.int (Int32.ofInt x2)) → d_R x3 → p_lk 3 ls = some (.int (Int32.ofInt x3)) → d_R x4 → p_lk 4 ls = some (.int (Int32.ofInt x4)) → p_wp p_GT p_MT 3 m_X5_choose 140 ls [] h (d_QV t r)) : ∀ (n : Nat) {x1 : Int} {x2 : Int} {x3 : Int} {x4 : Int} {x5 : Int} {ls : p_Ls} {s : d_S} {h : p_H}, F_X5_choose_3_l71 k140 n x1 x2 x3 x4 x5 s = some r → d_V t h s → p_lk 0 ls = some (.ref 56) → d_R x1 → p_lk 1 ls = some (.int (Int32.ofInt x1)) → d_R x2 → p_lk 2 ls = some (.int (Int32.ofInt x2)) → d_R x3 → p_lk 3 ls = some (.int (Int32.ofInt x3)) → d_R x4 → p_lk 4 ls = some (.int (Int32.ofInt x4)) → d_R x5 → p_lk 5 ls = some (.int (Int32.ofInt x5)) → p_wp p_GT p_MT 3 m_X5_choose 71 ls [] h (d_QV t r) := by
  intro n
  induction n with
  | zero =>
    intro x1 x2 x3 x4 x5 ls s h hF hH l0 r_x1 l1 r_x2 l2 r_x3 l3 r_x4 l4 r_x5 l5
    cases (show (none : Option (d_S)) = some r from hF)
  | succ n ih =>
    intro x1 x2 x3 x4 x5 ls s h hF hH l0 r_x1 l1 r_x2 l2 r_x3 l3 r_x4 l4 r_x5 l5
    have hF : F_X5_choose_3_l71_b k140 (F_X5_choose_3_l71 k140 n) x1 x2 x3 x4 x5 s = some r := hF
    unfold F_X5_choose_3_l71_b at hF
    refine dw_il rfl l5 (dw_aln rfl l0 (dw_gr rfl rfl rfl hH d_c56_4 (dw_iln rfl l1 (d_gd hF (fun g2 hF => dw_ald rfl hH d_a58 rfl g2.1 g2.2 r_x1 rfl (?_))))))
    refine d_if hF (fun q hF => ?_) (fun q hF => ?_)
    · refine dw_ge_y rfl (u := 140) rfl r_x5 hH.r q ?_
      refine dw_il rfl l5 (dw_ic rfl (?_))
      refine d_if hF (fun q hF => ?_) (fun q hF => ?_)
      · refine dw_ge_y rfl (u := 140) rfl r_x5 (d_rl rfl) q ?_
        refine dw_aln rfl l0 (dw_gr rfl rfl rfl hH d_c56_3 (dw_iln rfl l1 (dw_ic rfl (dw_mul rfl (dw_il rfl l5 (dw_add rfl (dw_w1 (d_gd hF (fun g3 hF => dw_ald rfl hH d_a57 rfl g3.1 g3.2 d_R_w rfl (?_))))))))))
        refine dw_nm hF hH.r (fun z4 r_z4 hF => dw_is rfl rfl (dw_aln rfl (d_s1 l0 rfl (by decide)) (dw_il rfl p_lk_s1 (dw_iln rfl (d_s1 l1 rfl (by decide)) (dw_vB hF rfl (d_vir (n := 3) rfl rfl rfl rfl rfl hH d_c56_0 rfl) rfl rfl rfl (dc := 0) (fun _ e => D_X5_isFree e hH r_z4 r_x1) (fun v5 r_v5 hF => ?_))))))
        refine d_if hF (fun q hF => ?_) (fun q hF => ?_)
        · refine dw_zeq_y rfl (u := 134) rfl (d_R_b r_v5) q ?_
          refine dw_ii rfl (d_s1 l5 rfl (by decide)) rfl (dw_go rfl (u := 71) rfl (?_))
          exact ih hF hH (d_s1 (d_s1 l0 rfl (by decide)) rfl (by decide)) r_x1 (d_s1 (d_s1 l1 rfl (by decide)) rfl (by decide)) r_x2 (d_s1 (d_s1 l2 rfl (by decide)) rfl (by decide)) r_x3 (d_s1 (d_s1 l3 rfl (by decide)) rfl (by decide)) r_x4 (d_s1 (d_s1 l4 rfl (by decide)) rfl (by decide)) d_R_w p_lk_s1
        · refine dw_zeq_n rfl (u := 134) rfl (d_R_b r_v5) q ?_
          refine dw_aln rfl (d_s1 l0 rfl (by decide)) (dw_gr rfl rfl rfl hH d_c56_5 (dw_iln rfl (d_s1 l1 rfl (by decide)) (dw_il rfl p_lk_s1 (d_gd hF (fun g6 hF => dw_ast rfl hH d_a59 g6.1 g6.2 r_x1 rfl r_z4 hF (fun s7 h7 hH7 hF => dw_aln rfl (d_s1 l0 rfl (by decide)) (dw_iln rfl (d_s1 l1 rfl (by decide)) (dw_ic rfl (dw_add rfl (?_))))))))))
          refine dw_iln rfl (d_s1 l2 rfl (by decide)) (dw_il rfl (d_s1 l4 rfl (by decide)) (dw_add rfl (dw_iln rfl (d_s1 l3 rfl (by decide)) (dw_il rfl (d_s1 l4 rfl (by decide)) (dw_sub rfl (dw_w1 (dw_w2 (dw_w3 (dw_vV hF rfl (d_vir (n := 4) rfl rfl rfl rfl rfl hH7 d_c56_0 rfl) rfl rfl rfl (dc := 2) (fun _ e => D_X5_choose_2 e hH7 d_R_w d_R_w d_R_w) (fun s8 h8 hH8 hF => ?_))))))))))
          refine dw_ii rfl (d_s1 l5 rfl (by decide)) rfl (dw_go rfl (u := 71) rfl (?_))
          exact ih hF hH8 (d_s1 (d_s1 l0 rfl (by decide)) rfl (by decide)) r_x1 (d_s1 (d_s1 l1 rfl (by decide)) rfl (by decide)) r_x2 (d_s1 (d_s1 l2 rfl (by decide)) rfl (by decide)) r_x3 (d_s1 (d_s1 l3 rfl (by decide)) rfl (by decide)) r_x4 (d_s1 (d_s1 l4 rfl (by decide)) rfl (by decide)) d_R_w p_lk_s1
      · refine dw_ge_n rfl (u := 140) rfl r_x5 (d_rl rfl) q ?_
        exact hk140 hF hH l0 r_x1 l1 r_x2 l2 r_x3 l3 r_x4 l4
    · refine dw_ge_n rfl (u := 140) rfl r_x5 hH.r q ?_
      exact hk140 hF hH l0 r_x1 l1 r_x2 l2 r_x3 l3 r_x4 l4
set_option maxRecDepth 100000 in
noncomputable def F_X5_choose_3_j30 (x2 : Int) (s : d_S) : Option (d_S) :=
  d_l (d_si s 56 7 x2) (fun s13 => d_l (d_cp s13 59 0 60 0 5) (fun s14 => some s14))
set_option maxRecDepth 100000 in
theorem D_X5_choose_3_j30 {t : Nat → Option p_C} {h : p_H} {s : d_S} {x2 : Int} {r : d_S} {ls : p_Ls} (hF : F_X5_choose_3_j30 x2 s = some r) (hH : d_V t h s) (l0 : p_lk 0 ls = some (.ref 56)) (r_x2 : d_R x2) (l2 : p_lk 2 ls = some (.int (Int32.ofInt x2))) : p_wp p_GT p_MT 3 m_X5_choose 30 ls [] h (d_QV t r) := by
  unfold F_X5_choose_3_j30 at hF
  refine dw_aln rfl l0 (dw_iln rfl l2 (dw_pi (k := 7) rfl rfl rfl rfl hH d_c56_7 r_x2 (by decide) hF (fun s13 h13 hH13 hF => dw_aln rfl l0 (dw_gr rfl rfl rfl hH13 d_c56_5 (dw_ic rfl (dw_aln rfl l0 (dw_gr rfl rfl rfl hH13 d_c56_6 (dw_ic rfl (dw_aln rfl l0 (?_))))))))))
  exact dw_gr rfl rfl rfl hH13 d_c56_6 (dw_len rfl hH13 d_a60 rfl (z := 5) rfl (dw_cpy rfl rfl hH13 d_a59 d_a60 (d_rl rfl) (d_rl rfl) (d_rl rfl) (by decide) rfl hF (fun s14 h14 hH14 hF => dw_rV rfl rfl hH14 hF)))
set_option maxRecDepth 100000 in
noncomputable def F_X5_choose_3 (s : d_S) (x1 : Int) (x2 : Int) (x3 : Int) : Option (d_S) :=
  if (s.1 56 7) < (d_w (x2 + x3)) then
  if x1 < (s.1 10 2) then
  if x1 < 5 then
  d_b (F_X8_part_10 s x1 2) (fun v1 => F_X5_choose_3_l71 (fun x1_u9 x2_u9 x3_u9 x4_u9 s_u9 =>
  d_g (0 ≤ x1_u9 ∧ x1_u9 < 5) (d_l (d_si s_u9 59 ((x1_u9).toNat) (-1)) (fun s11 => d_b (F_X5_choose_2 s11 (d_w (x1_u9 + 1)) x2_u9 (d_w (x3_u9 - x4_u9))) (fun s12 => some s12)))) d_N x1 x2 x3 v1 0 s)
  else
  F_X5_choose_3_j30 x2 s
  else
  F_X5_choose_3_j30 x2 s
  else
  some s
set_option maxRecDepth 100000 in
theorem D_X5_choose_3 {t : Nat → Option p_C} {h : p_H} {s : d_S} {x1 : Int} {x2 : Int} {x3 : Int} {r : d_S} (hF : F_X5_choose_3 s x1 x2 x3 = some r) (hH : d_V t h s) (r_x1 : d_R x1) (r_x2 : d_R x2) (r_x3 : d_R x3) : p_wp p_GT p_MT 3 m_X5_choose 0 (lv_args 0 [.ref 56, .int (Int32.ofInt x1), .int (Int32.ofInt x2), .int (Int32.ofInt x3)]) [] h (d_QV t r) := by
  unfold F_X5_choose_3 at hF
  refine dw_iln rfl rfl (dw_iln rfl rfl (dw_add rfl (dw_aln rfl rfl (dw_gi (k := 7) rfl rfl rfl hH d_c56_7 (dw_w2 (?_))))))
  refine d_if hF (fun q hF => ?_) (fun q hF => ?_)
  · refine dw_gt_y rfl (u := 11) rfl d_R_w hH.r q ?_
    refine dw_iln rfl rfl (dw_aln rfl rfl (dw_gr rfl rfl rfl hH d_c56_0 (dw_gr rfl rfl rfl hH d_c3_10 (dw_gi (k := 2) rfl rfl rfl hH d_c10_2 (?_)))))
    refine d_if hF (fun q hF => ?_) (fun q hF => ?_)
    · refine dw_ge_y rfl (u := 30) rfl r_x1 hH.r q ?_
      refine dw_iln rfl rfl (dw_ic rfl (?_))
      refine d_if hF (fun q hF => ?_) (fun q hF => ?_)
      · refine dw_lt_y rfl (u := 54) rfl r_x1 (d_rl rfl) q ?_
        refine dw_aln rfl rfl (dw_gr rfl rfl rfl hH d_c56_0 (dw_gr rfl rfl rfl hH d_c3_10 (dw_iln rfl rfl (dw_ic rfl (dw_vP hF rfl (d_vir (n := 3) rfl rfl rfl rfl rfl hH d_c10_0 rfl) rfl rfl rfl (dc := 0) (fun _ e => D_X8_part_10 e hH r_x1 (d_rl rfl)) (fun v1 r_v1 hF => dw_is rfl rfl (dw_ic rfl (dw_is rfl rfl (?_)))))))))
        refine D_X5_choose_3_l71 (fun {x1_u9} {x2_u9} {x3_u9} {x4_u9} {ls_u9} {s_u9} {h_u9} hF hH_u9 l0_u9 r_x1_u9 l1_u9 r_x2_u9 l2_u9 r_x3_u9 l3_u9 r_x4_u9 l4_u9 => ?_) _ hF hH (d_s1 (d_s1 rfl rfl (by decide)) rfl (by decide)) r_x1 (d_s1 (d_s1 rfl rfl (by decide)) rfl (by decide)) r_x2 (d_s1 (d_s1 rfl rfl (by decide)) rfl (by decide)) r_x3 (d_s1 (d_s1 rfl rfl (by decide)) rfl (by decide)) r_v1 (d_s1 p_lk_s1 rfl (by decide)) (d_rl rfl) p_lk_s1
        · refine dw_aln rfl l0_u9 (dw_gr rfl rfl rfl hH_u9 d_c56_5 (dw_iln rfl l1_u9 (dw_ic rfl (d_gd hF (fun g10 hF => dw_ast rfl hH_u9 d_a59 g10.1 g10.2 r_x1_u9 rfl (d_rl rfl) hF (fun s11 h11 hH11 hF => dw_aln rfl l0_u9 (dw_iln rfl l1_u9 (dw_ic rfl (dw_add rfl (?_))))))))))
          exact dw_iln rfl l2_u9 (dw_iln rfl l3_u9 (dw_il rfl l4_u9 (dw_sub rfl (dw_w1 (dw_w3 (dw_vV hF rfl (d_vir (n := 4) rfl rfl rfl rfl rfl hH11 d_c56_0 rfl) rfl rfl rfl (dc := 2) (fun _ e => D_X5_choose_2 e hH11 d_R_w r_x2_u9 d_R_w) (fun s12 h12 hH12 hF => dw_rV rfl rfl hH12 hF)))))))
      · refine dw_lt_n rfl (u := 54) rfl r_x1 (d_rl rfl) q ?_
        exact D_X5_choose_3_j30 hF hH rfl r_x2 rfl
    · refine dw_ge_n rfl (u := 30) rfl r_x1 hH.r q ?_
      exact D_X5_choose_3_j30 hF hH rfl r_x2 rfl
  · refine dw_gt_n rfl (u := 11) rfl d_R_w hH.r q ?_
    exact dw_rV rfl rfl hH hF
set_option maxRecDepth 100000 in
noncomputable def F_X5_choose_4_l71_b (k140 : Int → Int → Int → Int → d_S → Option (d_S)) (rec : Int → Int → Int → Int → Int → d_S → Option (d_S)) (x1 : Int) (x2 : Int) (x3 : Int) (x4 : Int) (x5 : Int) (s : d_S) : Option (d_S) :=
  d_g (0 ≤ x1 ∧ x1 < 5) (if x5 < (s.1 58 (x1.toNat)) then
  if x5 < 5 then
  d_g (0 ≤ (d_w ((x1 * 5) + x5)) ∧ (d_w ((x1 * 5) + x5)) < 25) (d_l (s.1 57 (((d_w ((x1 * 5) + x5))).toNat)) (fun z4 => d_b (F_X5_isFree s z4 x1) (fun v5 => if v5 = 0 then
  rec x1 x2 x3 x4 (d_w (x5 + 1)) s
  else
  d_g (0 ≤ x1 ∧ x1 < 5) (d_l (d_si s 59 ((x1).toNat) z4) (fun s7 => d_b (F_X5_choose_3 s7 (d_w (x1 + 1)) (d_w (x2 + x4)) (d_w (x3 - x4))) (fun s8 => rec x1 x2 x3 x4 (d_w (x5 + 1)) s8))))))
  else
  k140 x1 x2 x3 x4 s
  else
  k140 x1 x2 x3 x4 s)
set_option maxRecDepth 100000 in
noncomputable def F_X5_choose_4_l71 (k140 : Int → Int → Int → Int → d_S → Option (d_S)) : Nat → Int → Int → Int → Int → Int → d_S → Option (d_S)
  | 0 => fun _ _ _ _ _ _ => none
  | n + 1 => F_X5_choose_4_l71_b k140 (F_X5_choose_4_l71 k140 n)
set_option maxRecDepth 100000 in
theorem D_X5_choose_4_l71 {t : Nat → Option p_C} {k140 : Int → Int → Int → Int → d_S → Option (d_S)} {r : d_S} (hk140 : ∀ {x1 : Int} {x2 : Int} {x3 : Int} {x4 : Int} {ls : p_Ls} {s : d_S} {h : p_H}, k140 x1 x2 x3 x4 s = some r → d_V t h s → p_lk 0 ls = some (.ref 56) → d_R x1 → p_lk 1 ls = some (.int (Int32.ofInt x1)) → d_R x2 → p_lk 2 ls = some (.int (Int32.ofInt x2)) → d_R x3 → p_lk 3 ls = some (.int (Int32.ofInt x3)) → d_R x4 → p_lk 4 ls = some (.int (Int32.ofInt x4)) → p_wp p_GT p_MT 4 m_X5_choose 140 ls [] h (d_QV t r)) : ∀ (n : Nat) {x1 : Int} {x2 : Int} {x3 : Int} {x4 : Int} {x5 : Int} {ls : p_Ls} {s : d_S} {h : p_H}, F_X5_choose_4_l71 k140 n x1 x2 x3 x4 x5 s = some r → d_V t h s → p_lk 0 ls = some (.ref 56) → d_R x1 → p_lk 1 ls = some (.int (Int32.ofInt x1)) → d_R x2 → p_lk 2 ls = some (.int (Int32.ofInt x2)) → d_R x3 → p_lk 3 ls = some (.int (Int32.ofInt x3)) → d_R x4 → p_lk 4 ls = some (.int (Int32.ofInt x4)) → d_R x5 → p_lk 5 ls = some (.int (Int32.ofInt x5)) → p_wp p_GT p_MT 4 m_X5_choose 71 ls [] h (d_QV t r) := by
  intro n
  induction n with
  | zero =>
    intro x1 x2 x3 x4 x5 ls s h hF hH l0 r_x1 l1 r_x2 l2 r_x3 l3 r_x4 l4 r_x5 l5
    cases (show (none : Option (d_S)) = some r from hF)
  | succ n ih =>
    intro x1 x2 x3 x4 x5 ls s h hF hH l0 r_x1 l1 r_x2 l2 r_x3 l3 r_x4 l4 r_x5 l5
    have hF : F_X5_choose_4_l71_b k140 (F_X5_choose_4_l71 k140 n) x1 x2 x3 x4 x5 s = some r := hF
    unfold F_X5_choose_4_l71_b at hF
    refine dw_il rfl l5 (dw_aln rfl l0 (dw_gr rfl rfl rfl hH d_c56_4 (dw_iln rfl l1 (d_gd hF (fun g2 hF => dw_ald rfl hH d_a58 rfl g2.1 g2.2 r_x1 rfl (?_))))))
    refine d_if hF (fun q hF => ?_) (fun q hF => ?_)
    · refine dw_ge_y rfl (u := 140) rfl r_x5 hH.r q ?_
      refine dw_il rfl l5 (dw_ic rfl (?_))
      refine d_if hF (fun q hF => ?_) (fun q hF => ?_)
      · refine dw_ge_y rfl (u := 140) rfl r_x5 (d_rl rfl) q ?_
        refine dw_aln rfl l0 (dw_gr rfl rfl rfl hH d_c56_3 (dw_iln rfl l1 (dw_ic rfl (dw_mul rfl (dw_il rfl l5 (dw_add rfl (dw_w1 (d_gd hF (fun g3 hF => dw_ald rfl hH d_a57 rfl g3.1 g3.2 d_R_w rfl (?_))))))))))
        refine dw_nm hF hH.r (fun z4 r_z4 hF => dw_is rfl rfl (dw_aln rfl (d_s1 l0 rfl (by decide)) (dw_il rfl p_lk_s1 (dw_iln rfl (d_s1 l1 rfl (by decide)) (dw_vB hF rfl (d_vir (n := 3) rfl rfl rfl rfl rfl hH d_c56_0 rfl) rfl rfl rfl (dc := 0) (fun _ e => D_X5_isFree e hH r_z4 r_x1) (fun v5 r_v5 hF => ?_))))))
        refine d_if hF (fun q hF => ?_) (fun q hF => ?_)
        · refine dw_zeq_y rfl (u := 134) rfl (d_R_b r_v5) q ?_
          refine dw_ii rfl (d_s1 l5 rfl (by decide)) rfl (dw_go rfl (u := 71) rfl (?_))
          exact ih hF hH (d_s1 (d_s1 l0 rfl (by decide)) rfl (by decide)) r_x1 (d_s1 (d_s1 l1 rfl (by decide)) rfl (by decide)) r_x2 (d_s1 (d_s1 l2 rfl (by decide)) rfl (by decide)) r_x3 (d_s1 (d_s1 l3 rfl (by decide)) rfl (by decide)) r_x4 (d_s1 (d_s1 l4 rfl (by decide)) rfl (by decide)) d_R_w p_lk_s1
        · refine dw_zeq_n rfl (u := 134) rfl (d_R_b r_v5) q ?_
          refine dw_aln rfl (d_s1 l0 rfl (by decide)) (dw_gr rfl rfl rfl hH d_c56_5 (dw_iln rfl (d_s1 l1 rfl (by decide)) (dw_il rfl p_lk_s1 (d_gd hF (fun g6 hF => dw_ast rfl hH d_a59 g6.1 g6.2 r_x1 rfl r_z4 hF (fun s7 h7 hH7 hF => dw_aln rfl (d_s1 l0 rfl (by decide)) (dw_iln rfl (d_s1 l1 rfl (by decide)) (dw_ic rfl (dw_add rfl (?_))))))))))
          refine dw_iln rfl (d_s1 l2 rfl (by decide)) (dw_il rfl (d_s1 l4 rfl (by decide)) (dw_add rfl (dw_iln rfl (d_s1 l3 rfl (by decide)) (dw_il rfl (d_s1 l4 rfl (by decide)) (dw_sub rfl (dw_w1 (dw_w2 (dw_w3 (dw_vV hF rfl (d_vir (n := 4) rfl rfl rfl rfl rfl hH7 d_c56_0 rfl) rfl rfl rfl (dc := 3) (fun _ e => D_X5_choose_3 e hH7 d_R_w d_R_w d_R_w) (fun s8 h8 hH8 hF => ?_))))))))))
          refine dw_ii rfl (d_s1 l5 rfl (by decide)) rfl (dw_go rfl (u := 71) rfl (?_))
          exact ih hF hH8 (d_s1 (d_s1 l0 rfl (by decide)) rfl (by decide)) r_x1 (d_s1 (d_s1 l1 rfl (by decide)) rfl (by decide)) r_x2 (d_s1 (d_s1 l2 rfl (by decide)) rfl (by decide)) r_x3 (d_s1 (d_s1 l3 rfl (by decide)) rfl (by decide)) r_x4 (d_s1 (d_s1 l4 rfl (by decide)) rfl (by decide)) d_R_w p_lk_s1
      · refine dw_ge_n rfl (u := 140) rfl r_x5 (d_rl rfl) q ?_
        exact hk140 hF hH l0 r_x1 l1 r_x2 l2 r_x3 l3 r_x4 l4
    · refine dw_ge_n rfl (u := 140) rfl r_x5 hH.r q ?_
      exact hk140 hF hH l0 r_x1 l1 r_x2 l2 r_x3 l3 r_x4 l4
set_option maxRecDepth 100000 in
noncomputable def F_X5_choose_4_j30 (x2 : Int) (s : d_S) : Option (d_S) :=
  d_l (d_si s 56 7 x2) (fun s13 => d_l (d_cp s13 59 0 60 0 5) (fun s14 => some s14))
set_option maxRecDepth 100000 in
theorem D_X5_choose_4_j30 {t : Nat → Option p_C} {h : p_H} {s : d_S} {x2 : Int} {r : d_S} {ls : p_Ls} (hF : F_X5_choose_4_j30 x2 s = some r) (hH : d_V t h s) (l0 : p_lk 0 ls = some (.ref 56)) (r_x2 : d_R x2) (l2 : p_lk 2 ls = some (.int (Int32.ofInt x2))) : p_wp p_GT p_MT 4 m_X5_choose 30 ls [] h (d_QV t r) := by
  unfold F_X5_choose_4_j30 at hF
  refine dw_aln rfl l0 (dw_iln rfl l2 (dw_pi (k := 7) rfl rfl rfl rfl hH d_c56_7 r_x2 (by decide) hF (fun s13 h13 hH13 hF => dw_aln rfl l0 (dw_gr rfl rfl rfl hH13 d_c56_5 (dw_ic rfl (dw_aln rfl l0 (dw_gr rfl rfl rfl hH13 d_c56_6 (dw_ic rfl (dw_aln rfl l0 (?_))))))))))
  exact dw_gr rfl rfl rfl hH13 d_c56_6 (dw_len rfl hH13 d_a60 rfl (z := 5) rfl (dw_cpy rfl rfl hH13 d_a59 d_a60 (d_rl rfl) (d_rl rfl) (d_rl rfl) (by decide) rfl hF (fun s14 h14 hH14 hF => dw_rV rfl rfl hH14 hF)))
set_option maxRecDepth 100000 in
noncomputable def F_X5_choose_4 (s : d_S) (x1 : Int) (x2 : Int) (x3 : Int) : Option (d_S) :=
  if (s.1 56 7) < (d_w (x2 + x3)) then
  if x1 < (s.1 10 2) then
  if x1 < 5 then
  d_b (F_X8_part_10 s x1 2) (fun v1 => F_X5_choose_4_l71 (fun x1_u9 x2_u9 x3_u9 x4_u9 s_u9 =>
  d_g (0 ≤ x1_u9 ∧ x1_u9 < 5) (d_l (d_si s_u9 59 ((x1_u9).toNat) (-1)) (fun s11 => d_b (F_X5_choose_3 s11 (d_w (x1_u9 + 1)) x2_u9 (d_w (x3_u9 - x4_u9))) (fun s12 => some s12)))) d_N x1 x2 x3 v1 0 s)
  else
  F_X5_choose_4_j30 x2 s
  else
  F_X5_choose_4_j30 x2 s
  else
  some s
set_option maxRecDepth 100000 in
theorem D_X5_choose_4 {t : Nat → Option p_C} {h : p_H} {s : d_S} {x1 : Int} {x2 : Int} {x3 : Int} {r : d_S} (hF : F_X5_choose_4 s x1 x2 x3 = some r) (hH : d_V t h s) (r_x1 : d_R x1) (r_x2 : d_R x2) (r_x3 : d_R x3) : p_wp p_GT p_MT 4 m_X5_choose 0 (lv_args 0 [.ref 56, .int (Int32.ofInt x1), .int (Int32.ofInt x2), .int (Int32.ofInt x3)]) [] h (d_QV t r) := by
  unfold F_X5_choose_4 at hF
  refine dw_iln rfl rfl (dw_iln rfl rfl (dw_add rfl (dw_aln rfl rfl (dw_gi (k := 7) rfl rfl rfl hH d_c56_7 (dw_w2 (?_))))))
  refine d_if hF (fun q hF => ?_) (fun q hF => ?_)
  · refine dw_gt_y rfl (u := 11) rfl d_R_w hH.r q ?_
    refine dw_iln rfl rfl (dw_aln rfl rfl (dw_gr rfl rfl rfl hH d_c56_0 (dw_gr rfl rfl rfl hH d_c3_10 (dw_gi (k := 2) rfl rfl rfl hH d_c10_2 (?_)))))
    refine d_if hF (fun q hF => ?_) (fun q hF => ?_)
    · refine dw_ge_y rfl (u := 30) rfl r_x1 hH.r q ?_
      refine dw_iln rfl rfl (dw_ic rfl (?_))
      refine d_if hF (fun q hF => ?_) (fun q hF => ?_)
      · refine dw_lt_y rfl (u := 54) rfl r_x1 (d_rl rfl) q ?_
        refine dw_aln rfl rfl (dw_gr rfl rfl rfl hH d_c56_0 (dw_gr rfl rfl rfl hH d_c3_10 (dw_iln rfl rfl (dw_ic rfl (dw_vP hF rfl (d_vir (n := 3) rfl rfl rfl rfl rfl hH d_c10_0 rfl) rfl rfl rfl (dc := 0) (fun _ e => D_X8_part_10 e hH r_x1 (d_rl rfl)) (fun v1 r_v1 hF => dw_is rfl rfl (dw_ic rfl (dw_is rfl rfl (?_)))))))))
        refine D_X5_choose_4_l71 (fun {x1_u9} {x2_u9} {x3_u9} {x4_u9} {ls_u9} {s_u9} {h_u9} hF hH_u9 l0_u9 r_x1_u9 l1_u9 r_x2_u9 l2_u9 r_x3_u9 l3_u9 r_x4_u9 l4_u9 => ?_) _ hF hH (d_s1 (d_s1 rfl rfl (by decide)) rfl (by decide)) r_x1 (d_s1 (d_s1 rfl rfl (by decide)) rfl (by decide)) r_x2 (d_s1 (d_s1 rfl rfl (by decide)) rfl (by decide)) r_x3 (d_s1 (d_s1 rfl rfl (by decide)) rfl (by decide)) r_v1 (d_s1 p_lk_s1 rfl (by decide)) (d_rl rfl) p_lk_s1
        · refine dw_aln rfl l0_u9 (dw_gr rfl rfl rfl hH_u9 d_c56_5 (dw_iln rfl l1_u9 (dw_ic rfl (d_gd hF (fun g10 hF => dw_ast rfl hH_u9 d_a59 g10.1 g10.2 r_x1_u9 rfl (d_rl rfl) hF (fun s11 h11 hH11 hF => dw_aln rfl l0_u9 (dw_iln rfl l1_u9 (dw_ic rfl (dw_add rfl (?_))))))))))
          exact dw_iln rfl l2_u9 (dw_iln rfl l3_u9 (dw_il rfl l4_u9 (dw_sub rfl (dw_w1 (dw_w3 (dw_vV hF rfl (d_vir (n := 4) rfl rfl rfl rfl rfl hH11 d_c56_0 rfl) rfl rfl rfl (dc := 3) (fun _ e => D_X5_choose_3 e hH11 d_R_w r_x2_u9 d_R_w) (fun s12 h12 hH12 hF => dw_rV rfl rfl hH12 hF)))))))
      · refine dw_lt_n rfl (u := 54) rfl r_x1 (d_rl rfl) q ?_
        exact D_X5_choose_4_j30 hF hH rfl r_x2 rfl
    · refine dw_ge_n rfl (u := 30) rfl r_x1 hH.r q ?_
      exact D_X5_choose_4_j30 hF hH rfl r_x2 rfl
  · refine dw_gt_n rfl (u := 11) rfl d_R_w hH.r q ?_
    exact dw_rV rfl rfl hH hF

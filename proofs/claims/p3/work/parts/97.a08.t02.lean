set_option maxRecDepth 100000 in
noncomputable def F_X12_openNow_l7_b (s : d_S) (k28 : Int → Option (Int)) (rec : Int → Option (Int)) (x1 : Int) : Option (Int) :=
  if x1 < 0 then
  k28 x1
  else
  d_g (0 ≤ x1 ∧ x1 < 160) (if (s.1 69 (x1.toNat)) < 40 then
  rec (d_w (x1 + (-1)))
  else
  k28 x1)
set_option maxRecDepth 100000 in
noncomputable def F_X12_openNow_l7 (s : d_S) (k28 : Int → Option (Int)) : Nat → Int → Option (Int)
  | 0 => fun _ => none
  | n + 1 => F_X12_openNow_l7_b s k28 (F_X12_openNow_l7 s k28 n)
set_option maxRecDepth 100000 in
theorem D_X12_openNow_l7 {t : Nat → Option p_C} {h : p_H} {s : d_S} {k28 : Int → Option (Int)} {r : Int} (hH : d_V t h s) (hk28 : ∀ {x1 : Int} {ls : p_Ls}, k28 x1 = some r → p_lk 0 ls = some (.ref 64) → d_R x1 → p_lk 1 ls = some (.int (Int32.ofInt x1)) → p_wp p_GT p_MT 0 m_X12_openNow 28 ls [] h (d_QP h r)) : ∀ (n : Nat) {x1 : Int} {ls : p_Ls}, F_X12_openNow_l7 s k28 n x1 = some r → p_lk 0 ls = some (.ref 64) → d_R x1 → p_lk 1 ls = some (.int (Int32.ofInt x1)) → p_wp p_GT p_MT 0 m_X12_openNow 7 ls [] h (d_QP h r) := by
  intro n
  induction n with
  | zero =>
    intro x1 ls hF l0 r_x1 l1
    cases (show (none : Option (Int)) = some r from hF)
  | succ n ih =>
    intro x1 ls hF l0 r_x1 l1
    have hF : F_X12_openNow_l7_b s k28 (F_X12_openNow_l7 s k28 n) x1 = some r := hF
    unfold F_X12_openNow_l7_b at hF
    refine dw_iln rfl l1 (?_)
    refine d_if hF (fun q hF => ?_) (fun q hF => ?_)
    · refine dw_zlt_y rfl (u := 28) rfl r_x1 q ?_
      exact hk28 hF l0 r_x1 l1
    · refine dw_zlt_n rfl (u := 28) rfl r_x1 q ?_
      refine dw_aln rfl l0 (dw_gr rfl rfl rfl hH d_c64_15 (dw_iln rfl l1 (d_gd hF (fun g1 hF => dw_ald rfl hH d_a69 rfl g1.1 g1.2 r_x1 rfl (dw_bp rfl rfl (?_))))))
      refine d_if hF (fun q hF => ?_) (fun q hF => ?_)
      · refine dw_ge_y rfl (u := 28) rfl hH.r (d_rl rfl) q ?_
        refine dw_ii rfl l1 rfl (dw_go rfl (u := 7) rfl (?_))
        exact ih hF (d_s1 l0 rfl (by decide)) d_R_w p_lk_s1
      · refine dw_ge_n rfl (u := 28) rfl hH.r (d_rl rfl) q ?_
        exact hk28 hF l0 r_x1 l1
set_option maxRecDepth 100000 in
noncomputable def F_X12_openNow (s : d_S) : Option (Int) :=
  F_X12_openNow_l7 s (fun x1_u2 =>
  if x1_u2 < 0 then
  some (-1)
  else
  d_g (0 ≤ x1_u2 ∧ x1_u2 < 160) (some (s.1 69 (x1_u2.toNat)))) d_N (d_w ((s.1 64 17) - 1))
set_option maxRecDepth 100000 in
theorem D_X12_openNow {t : Nat → Option p_C} {h : p_H} {s : d_S} {r : Int} (hF : F_X12_openNow s = some r) (hH : d_V t h s) : p_wp p_GT p_MT 0 m_X12_openNow 0 (lv_args 0 [.ref 64]) [] h (d_QP h r) := by
  unfold F_X12_openNow at hF
  refine dw_aln rfl rfl (dw_gi (k := 17) rfl rfl rfl hH d_c64_17 (dw_ic rfl (dw_sub rfl (dw_w1 (dw_isn rfl rfl (?_))))))
  refine D_X12_openNow_l7 hH (fun {x1_u2} {ls_u2} hF l0_u2 r_x1_u2 l1_u2 => ?_) _ hF (d_s1 rfl rfl (by decide)) d_R_w p_lk_s1
  · refine dw_iln rfl l1_u2 (?_)
    refine d_if hF (fun q hF => ?_) (fun q hF => ?_)
    · refine dw_zge_y rfl (u := 36) rfl r_x1_u2 q ?_
      exact dw_ic rfl (dw_go rfl (u := 42) rfl (dw_rP rfl rfl (d_rl rfl) hF))
    · refine dw_zge_n rfl (u := 36) rfl r_x1_u2 q ?_
      exact dw_aln rfl l0_u2 (dw_gr rfl rfl rfl hH d_c64_15 (dw_iln rfl l1_u2 (d_gd hF (fun g3 hF => dw_ald rfl hH d_a69 rfl g3.1 g3.2 r_x1_u2 rfl (dw_rP rfl rfl hH.r hF)))))
set_option maxRecDepth 100000 in
noncomputable def F_X12_nextOfNth (s : d_S) : Option (Int × d_S) :=
  d_b (F_X12_settle s 1) (fun s1 => d_l (d_si s1 64 20 0) (fun s2 => d_b (F_X12_nextToken s2) (fun s3 => d_g (0 ≤ (d_w ((s3.1 64 19) - 1)) ∧ (d_w ((s3.1 64 19) - 1)) < 9) (if (s3.1 70 (((d_w ((s3.1 64 19) - 1))).toNat)) = 6 then
  d_b (F_X12_faultOfOne s3) (fun v5 => if v5 = 0 then
  some (7, s3)
  else
  d_b (F_X12_faultOfOne s3) (fun v6 => some (v6, s3)))
  else
  d_g (0 ≤ (d_w ((s3.1 64 19) - 1)) ∧ (d_w ((s3.1 64 19) - 1)) < 9) (d_g (0 ≤ (d_w ((s3.1 64 19) - 1)) ∧ (d_w ((s3.1 64 19) - 1)) < 9) (d_l (d_si s3 70 (((d_w ((s3.1 64 19) - 1))).toNat) (d_w ((s3.1 70 (((d_w ((s3.1 64 19) - 1))).toNat)) + 1))) (fun s9 => some (0, s9))))))))
set_option maxRecDepth 100000 in
theorem D_X12_nextOfNth {t : Nat → Option p_C} {h : p_H} {s : d_S} {r : Int × d_S} (hF : F_X12_nextOfNth s = some r) (hH : d_V t h s) : p_wp p_GT p_MT 7 m_X12_nextOfNth 0 (lv_args 0 [.ref 64]) [] h (d_QI t r) := by
  unfold F_X12_nextOfNth at hF
  refine dw_aln rfl rfl (dw_ic rfl (dw_vV hF rfl (d_vir (n := 2) rfl rfl rfl rfl rfl hH d_c64_0 rfl) rfl rfl rfl (dc := 1) (fun _ e => D_X12_settle e hH (d_rl rfl)) (fun s1 h1 hH1 hF => dw_aln rfl rfl (dw_ic rfl (dw_pb (k := 20) rfl rfl rfl rfl hH1 d_c64_20 (Or.inl rfl) (by decide) hF (fun s2 h2 hH2 hF => dw_aln rfl rfl (dw_vV hF rfl (d_vir (n := 1) rfl rfl rfl rfl rfl hH2 d_c64_0 rfl) rfl rfl rfl (dc := 1) (fun _ e => D_X12_nextToken e hH2) (fun s3 h3 hH3 hF => dw_aln rfl rfl (dw_gr rfl rfl rfl hH3 d_c64_16 (?_))))))))))
  refine dw_aln rfl rfl (dw_gi (k := 19) rfl rfl rfl hH3 d_c64_19 (dw_ic rfl (dw_sub rfl (dw_w1 (d_gd hF (fun g4 hF => dw_ald rfl hH3 d_a70 rfl g4.1 g4.2 d_R_w rfl (dw_bp rfl rfl (?_))))))))
  refine d_if hF (fun q hF => ?_) (fun q hF => ?_)
  · refine dw_ne_y rfl (u := 47) rfl hH3.r (d_rl rfl) q ?_
    refine dw_aln rfl rfl (dw_vP hF rfl (d_vir (n := 1) rfl rfl rfl rfl rfl hH3 d_c64_0 rfl) rfl rfl rfl (dc := 6) (fun _ e => D_X12_faultOfOne e hH3) (fun v5 r_v5 hF => ?_))
    refine d_if hF (fun q hF => ?_) (fun q hF => ?_)
    · refine dw_zne_y rfl (u := 42) rfl r_v5 q ?_
      exact dw_bp rfl rfl (dw_go rfl (u := 46) rfl (dw_rI rfl rfl (d_rl rfl) hH3 hF))
    · refine dw_zne_n rfl (u := 42) rfl r_v5 q ?_
      exact dw_aln rfl rfl (dw_vP hF rfl (d_vir (n := 1) rfl rfl rfl rfl rfl hH3 d_c64_0 rfl) rfl rfl rfl (dc := 6) (fun _ e => D_X12_faultOfOne e hH3) (fun v6 r_v6 hF => dw_rI rfl rfl r_v6 hH3 hF))
  · refine dw_ne_n rfl (u := 47) rfl hH3.r (d_rl rfl) q ?_
    refine dw_aln rfl rfl (dw_gr rfl rfl rfl hH3 d_c64_16 (dw_aln rfl rfl (dw_gi (k := 19) rfl rfl rfl hH3 d_c64_19 (dw_ic rfl (dw_sub rfl (dw_w1 (dw_dup2 rfl (d_gd hF (fun g7 hF => dw_ald rfl hH3 d_a70 rfl g7.1 g7.2 d_R_w rfl (?_))))))))))
    exact dw_ic rfl (dw_add rfl (dw_w1 (d_gd hF (fun g8 hF => dw_ast rfl hH3 d_a70 g8.1 g8.2 d_R_w rfl d_R_w hF (fun s9 h9 hH9 hF => dw_ic rfl (dw_rI rfl rfl (d_rl rfl) hH9 hF))))))
set_option maxRecDepth 100000 in
noncomputable def F_X12_behindOne_j223 (s : d_S) : Option (Int × d_S) :=
  d_b (F_X12_nextToken s) (fun s13 => d_b (F_X12_settle s13 3) (fun s14 => some (0, s14)))
set_option maxRecDepth 100000 in
theorem D_X12_behindOne_j223 {t : Nat → Option p_C} {h : p_H} {s : d_S} {r : Int × d_S} {ls : p_Ls} (hF : F_X12_behindOne_j223 s = some r) (hH : d_V t h s) (l0 : p_lk 0 ls = some (.ref 64)) : p_wp p_GT p_MT 8 m_X12_behindOne 223 ls [] h (d_QI t r) := by
  unfold F_X12_behindOne_j223 at hF
  exact dw_aln rfl l0 (dw_vV hF rfl (d_vir (n := 1) rfl rfl rfl rfl rfl hH d_c64_0 rfl) rfl rfl rfl (dc := 1) (fun _ e => D_X12_nextToken e hH) (fun s13 h13 hH13 hF => dw_aln rfl l0 (dw_ic rfl (dw_vV hF rfl (d_vir (n := 2) rfl rfl rfl rfl rfl hH13 d_c64_0 rfl) rfl rfl rfl (dc := 1) (fun _ e => D_X12_settle e hH13 (d_rl rfl)) (fun s14 h14 hH14 hF => dw_ic rfl (dw_rI rfl rfl (d_rl rfl) hH14 hF))))))
set_option maxRecDepth 100000 in
noncomputable def F_X12_behindOne_j152 (x2 : Int) (s : d_S) : Option (Int × d_S) :=
  if x2 = (-1) then
  some ((-1), s)
  else
  if (s.1 64 9) = 41 then
  d_b (F_X12_settle s 1) (fun s7 => d_l (d_si s7 64 17 (d_w ((s7.1 64 17) - 1))) (fun s8 => d_l (d_si s8 64 18 (d_w ((s8.1 64 18) - 1))) (fun s9 => if x2 = 42 then
  d_l (d_si s9 64 19 (d_w ((s9.1 64 19) - 1))) (fun s10 => d_g (0 ≤ (s10.1 64 19) ∧ (s10.1 64 19) < 9) (d_b (F_X12_emit s10 2 (s10.1 70 (((s10.1 64 19)).toNat))) (fun s12 => F_X12_behindOne_j223 s12)))
  else
  F_X12_behindOne_j223 s9)))
  else
  some ((-1), s)
set_option maxRecDepth 100000 in
theorem D_X12_behindOne_j152 {t : Nat → Option p_C} {h : p_H} {s : d_S} {x2 : Int} {r : Int × d_S} {ls : p_Ls} (hF : F_X12_behindOne_j152 x2 s = some r) (hH : d_V t h s) (l0 : p_lk 0 ls = some (.ref 64)) (r_x2 : d_R x2) (l2 : p_lk 2 ls = some (.int (Int32.ofInt x2))) : p_wp p_GT p_MT 8 m_X12_behindOne 152 ls [] h (d_QI t r) := by
  unfold F_X12_behindOne_j152 at hF
  refine dw_iln rfl l2 (dw_ic rfl (?_))
  refine d_if hF (fun q hF => ?_) (fun q hF => ?_)
  · refine dw_eq_y rfl (u := 166) rfl r_x2 (d_rl rfl) q ?_
    exact dw_ic rfl (dw_rI rfl rfl (d_rl rfl) hH hF)
  · refine dw_eq_n rfl (u := 166) rfl r_x2 (d_rl rfl) q ?_
    refine dw_aln rfl l0 (dw_gi (k := 9) rfl rfl rfl hH d_c64_9 (dw_bp rfl rfl (?_)))
    refine d_if hF (fun q hF => ?_) (fun q hF => ?_)
    · refine dw_eq_y rfl (u := 168) rfl hH.r (d_rl rfl) q ?_
      refine dw_aln rfl l0 (dw_ic rfl (dw_vV hF rfl (d_vir (n := 2) rfl rfl rfl rfl rfl hH d_c64_0 rfl) rfl rfl rfl (dc := 1) (fun _ e => D_X12_settle e hH (d_rl rfl)) (fun s7 h7 hH7 hF => dw_aln rfl l0 (dw_dupr rfl (dw_gi (k := 17) rfl rfl rfl hH7 d_c64_17 (dw_ic rfl (dw_sub rfl (dw_w1 (dw_pi (k := 17) rfl rfl rfl rfl hH7 d_c64_17 d_R_w (by decide) hF (fun s8 h8 hH8 hF => ?_))))))))))
      refine dw_aln rfl l0 (dw_dupr rfl (dw_gi (k := 18) rfl rfl rfl hH8 d_c64_18 (dw_ic rfl (dw_sub rfl (dw_w1 (dw_pi (k := 18) rfl rfl rfl rfl hH8 d_c64_18 d_R_w (by decide) hF (fun s9 h9 hH9 hF => dw_iln rfl l2 (dw_bp rfl rfl (?_)))))))))
      refine d_if hF (fun q hF => ?_) (fun q hF => ?_)
      · refine dw_ne_y rfl (u := 223) rfl r_x2 (d_rl rfl) q ?_
        refine dw_aln rfl l0 (dw_dupr rfl (dw_gi (k := 19) rfl rfl rfl hH9 d_c64_19 (dw_ic rfl (dw_sub rfl (dw_w1 (dw_pi (k := 19) rfl rfl rfl rfl hH9 d_c64_19 d_R_w (by decide) hF (fun s10 h10 hH10 hF => dw_aln rfl l0 (dw_ic rfl (dw_aln rfl l0 (?_))))))))))
        refine dw_gr rfl rfl rfl hH10 d_c64_16 (dw_aln rfl l0 (dw_gi (k := 19) rfl rfl rfl hH10 d_c64_19 (d_gd hF (fun g11 hF => dw_ald rfl hH10 d_a70 rfl g11.1 g11.2 hH10.r rfl (dw_vV hF rfl (d_vir (n := 3) rfl rfl rfl rfl rfl hH10 d_c64_0 rfl) rfl rfl rfl (dc := 0) (fun _ e => D_X12_emit e hH10 (d_rl rfl) hH10.r) (fun s12 h12 hH12 hF => ?_))))))
        exact D_X12_behindOne_j223 hF hH12 l0
      · refine dw_ne_n rfl (u := 223) rfl r_x2 (d_rl rfl) q ?_
        exact D_X12_behindOne_j223 hF hH9 l0
    · refine dw_eq_n rfl (u := 168) rfl hH.r (d_rl rfl) q ?_
      exact dw_ic rfl (dw_rI rfl rfl (d_rl rfl) hH hF)
set_option maxRecDepth 100000 in
noncomputable def F_X12_behindOne_j83 (y0 : Int) (s : d_S) : Option (Int × d_S) :=
  if y0 < 0 then
  d_b (F_X12_openNow s) (fun v4 => if v4 = 42 then
  if (s.1 64 9) = 44 then
  d_b2 (F_X12_nextOfNth s) (fun v5 s6 => some (v5, s6))
  else
  F_X12_behindOne_j152 v4 s
  else
  F_X12_behindOne_j152 v4 s)
  else
  d_b (F_X12_rank y0) (fun v15 => d_b (F_X12_settle s v15) (fun s16 => d_g (0 ≤ (s16.1 64 17) ∧ (s16.1 64 17) < 160) (d_l (d_si s16 69 (((s16.1 64 17)).toNat) y0) (fun s18 => d_l (d_si s18 64 17 (d_w ((s18.1 64 17) + 1))) (fun s19 => d_l (d_si s19 64 20 0) (fun s20 => d_b (F_X12_nextToken s20) (fun s21 => some (0, s21))))))))
set_option maxRecDepth 100000 in
theorem D_X12_behindOne_j83 {t : Nat → Option p_C} {h : p_H} {s : d_S} {y0 : Int} {r : Int × d_S} {ls : p_Ls} (hF : F_X12_behindOne_j83 y0 s = some r) (hH : d_V t h s) (l0 : p_lk 0 ls = some (.ref 64)) (r_y0 : d_R y0) : p_wp p_GT p_MT 8 m_X12_behindOne 83 ls [.int (Int32.ofInt y0)] h (d_QI t r) := by
  unfold F_X12_behindOne_j83 at hF
  refine dw_isn rfl rfl (dw_iln rfl p_lk_s1 (?_))
  refine d_if hF (fun q hF => ?_) (fun q hF => ?_)
  · refine dw_zlt_y rfl (u := 127) rfl r_y0 q ?_
    refine dw_aln rfl (d_s1 l0 rfl (by decide)) (dw_vP hF rfl (d_vir (n := 1) rfl rfl rfl rfl rfl hH d_c64_0 rfl) rfl rfl rfl (dc := 0) (fun _ e => D_X12_openNow e hH) (fun v4 r_v4 hF => dw_isn rfl rfl (dw_iln rfl p_lk_s1 (dw_bp rfl rfl (?_)))))
    refine d_if hF (fun q hF => ?_) (fun q hF => ?_)
    · refine dw_ne_y rfl (u := 152) rfl r_v4 (d_rl rfl) q ?_
      refine dw_aln rfl (d_s1 (d_s1 l0 rfl (by decide)) rfl (by decide)) (dw_gi (k := 9) rfl rfl rfl hH d_c64_9 (dw_bp rfl rfl (?_)))
      refine d_if hF (fun q hF => ?_) (fun q hF => ?_)
      · refine dw_ne_y rfl (u := 152) rfl hH.r (d_rl rfl) q ?_
        exact dw_aln rfl (d_s1 (d_s1 l0 rfl (by decide)) rfl (by decide)) (dw_vI hF rfl (d_vir (n := 1) rfl rfl rfl rfl rfl hH d_c64_0 rfl) rfl rfl rfl (dc := 7) (fun _ _ e => D_X12_nextOfNth e hH) (fun v5 s6 h6 hH6 r_v5 hF => dw_rI rfl rfl r_v5 hH6 hF))
      · refine dw_ne_n rfl (u := 152) rfl hH.r (d_rl rfl) q ?_
        exact D_X12_behindOne_j152 hF hH (d_s1 (d_s1 l0 rfl (by decide)) rfl (by decide)) r_v4 p_lk_s1
    · refine dw_ne_n rfl (u := 152) rfl r_v4 (d_rl rfl) q ?_
      exact D_X12_behindOne_j152 hF hH (d_s1 (d_s1 l0 rfl (by decide)) rfl (by decide)) r_v4 p_lk_s1
  · refine dw_zlt_n rfl (u := 127) rfl r_y0 q ?_
    refine dw_aln rfl (d_s1 l0 rfl (by decide)) (dw_iln rfl p_lk_s1 (dw_sP hF rfl rfl rfl rfl rfl (dc := 0) (fun _ e => D_X12_rank e r_y0) (fun v15 r_v15 hF => dw_vV hF rfl (d_vir (n := 2) rfl rfl rfl rfl rfl hH d_c64_0 rfl) rfl rfl rfl (dc := 1) (fun _ e => D_X12_settle e hH r_v15) (fun s16 h16 hH16 hF => dw_aln rfl (d_s1 l0 rfl (by decide)) (dw_gr rfl rfl rfl hH16 d_c64_15 (dw_aln rfl (d_s1 l0 rfl (by decide)) (dw_gi (k := 17) rfl rfl rfl hH16 d_c64_17 (dw_iln rfl p_lk_s1 (d_gd hF (fun g17 hF => ?_))))))))))
    refine dw_ast rfl hH16 d_a69 g17.1 g17.2 hH16.r rfl r_y0 hF (fun s18 h18 hH18 hF => dw_aln rfl (d_s1 l0 rfl (by decide)) (dw_dupr rfl (dw_gi (k := 17) rfl rfl rfl hH18 d_c64_17 (dw_ic rfl (dw_add rfl (dw_w1 (dw_pi (k := 17) rfl rfl rfl rfl hH18 d_c64_17 d_R_w (by decide) hF (fun s19 h19 hH19 hF => dw_aln rfl (d_s1 l0 rfl (by decide)) (dw_ic rfl (?_))))))))))
    exact dw_pb (k := 20) rfl rfl rfl rfl hH19 d_c64_20 (Or.inl rfl) (by decide) hF (fun s20 h20 hH20 hF => dw_aln rfl (d_s1 l0 rfl (by decide)) (dw_vV hF rfl (d_vir (n := 1) rfl rfl rfl rfl rfl hH20 d_c64_0 rfl) rfl rfl rfl (dc := 1) (fun _ e => D_X12_nextToken e hH20) (fun s21 h21 hH21 hF => dw_ic rfl (dw_rI rfl rfl (d_rl rfl) hH21 hF))))
set_option maxRecDepth 100000 in
noncomputable def F_X12_behindOne_j28 (s : d_S) : Option (Int × d_S) :=
  if (s.1 64 9) = 43 then
  F_X12_behindOne_j83 4 s
  else
  if (s.1 64 9) = 45 then
  F_X12_behindOne_j83 5 s
  else
  if (s.1 64 9) = 42 then
  F_X12_behindOne_j83 6 s
  else
  if (s.1 64 9) = 47 then
  F_X12_behindOne_j83 7 s
  else
  F_X12_behindOne_j83 (-1) s
set_option maxRecDepth 100000 in
theorem D_X12_behindOne_j28 {t : Nat → Option p_C} {h : p_H} {s : d_S} {r : Int × d_S} {ls : p_Ls} (hF : F_X12_behindOne_j28 s = some r) (hH : d_V t h s) (l0 : p_lk 0 ls = some (.ref 64)) : p_wp p_GT p_MT 8 m_X12_behindOne 28 ls [] h (d_QI t r) := by
  unfold F_X12_behindOne_j28 at hF
  refine dw_aln rfl l0 (dw_gi (k := 9) rfl rfl rfl hH d_c64_9 (dw_bp rfl rfl (?_)))
  refine d_if hF (fun q hF => ?_) (fun q hF => ?_)
  · refine dw_ne_y rfl (u := 41) rfl hH.r (d_rl rfl) q ?_
    refine dw_ic rfl (dw_go rfl (u := 83) rfl (?_))
    exact D_X12_behindOne_j83 hF hH l0 (d_rl rfl)
  · refine dw_ne_n rfl (u := 41) rfl hH.r (d_rl rfl) q ?_
    refine dw_aln rfl l0 (dw_gi (k := 9) rfl rfl rfl hH d_c64_9 (dw_bp rfl rfl (?_)))
    refine d_if hF (fun q hF => ?_) (fun q hF => ?_)
    · refine dw_ne_y rfl (u := 54) rfl hH.r (d_rl rfl) q ?_
      refine dw_ic rfl (dw_go rfl (u := 83) rfl (?_))
      exact D_X12_behindOne_j83 hF hH l0 (d_rl rfl)
    · refine dw_ne_n rfl (u := 54) rfl hH.r (d_rl rfl) q ?_
      refine dw_aln rfl l0 (dw_gi (k := 9) rfl rfl rfl hH d_c64_9 (dw_bp rfl rfl (?_)))
      refine d_if hF (fun q hF => ?_) (fun q hF => ?_)
      · refine dw_ne_y rfl (u := 68) rfl hH.r (d_rl rfl) q ?_
        refine dw_bp rfl rfl (dw_go rfl (u := 83) rfl (?_))
        exact D_X12_behindOne_j83 hF hH l0 (d_rl rfl)
      · refine dw_ne_n rfl (u := 68) rfl hH.r (d_rl rfl) q ?_
        refine dw_aln rfl l0 (dw_gi (k := 9) rfl rfl rfl hH d_c64_9 (dw_bp rfl rfl (?_)))
        refine d_if hF (fun q hF => ?_) (fun q hF => ?_)
        · refine dw_ne_y rfl (u := 82) rfl hH.r (d_rl rfl) q ?_
          refine dw_bp rfl rfl (dw_go rfl (u := 83) rfl (?_))
          exact D_X12_behindOne_j83 hF hH l0 (d_rl rfl)
        · refine dw_ne_n rfl (u := 82) rfl hH.r (d_rl rfl) q ?_
          refine dw_ic rfl (?_)
          exact D_X12_behindOne_j83 hF hH l0 (d_rl rfl)
set_option maxRecDepth 100000 in
noncomputable def F_X12_behindOne (s : d_S) : Option (Int × d_S) :=
  if 0 < (s.1 64 17) then
  d_g (0 ≤ (d_w ((s.1 64 17) - 1)) ∧ (d_w ((s.1 64 17) - 1)) < 160) (if (s.1 69 (((d_w ((s.1 64 17) - 1))).toNat)) = 41 then
  d_b2 (F_X12_ofNth s) (fun v2 s3 => some (v2, s3))
  else
  F_X12_behindOne_j28 s)
  else
  F_X12_behindOne_j28 s
set_option maxRecDepth 100000 in
theorem D_X12_behindOne {t : Nat → Option p_C} {h : p_H} {s : d_S} {r : Int × d_S} (hF : F_X12_behindOne s = some r) (hH : d_V t h s) : p_wp p_GT p_MT 8 m_X12_behindOne 0 (lv_args 0 [.ref 64]) [] h (d_QI t r) := by
  unfold F_X12_behindOne at hF
  refine dw_aln rfl rfl (dw_gi (k := 17) rfl rfl rfl hH d_c64_17 (?_))
  refine d_if hF (fun q hF => ?_) (fun q hF => ?_)
  · refine dw_zle_y rfl (u := 28) rfl hH.r q ?_
    refine dw_aln rfl rfl (dw_gr rfl rfl rfl hH d_c64_15 (dw_aln rfl rfl (dw_gi (k := 17) rfl rfl rfl hH d_c64_17 (dw_ic rfl (dw_sub rfl (dw_w1 (d_gd hF (fun g1 hF => dw_ald rfl hH d_a69 rfl g1.1 g1.2 d_R_w rfl (dw_bp rfl rfl (?_))))))))))
    refine d_if hF (fun q hF => ?_) (fun q hF => ?_)
    · refine dw_ne_y rfl (u := 28) rfl hH.r (d_rl rfl) q ?_
      exact dw_aln rfl rfl (dw_vI hF rfl (d_vir (n := 1) rfl rfl rfl rfl rfl hH d_c64_0 rfl) rfl rfl rfl (dc := 2) (fun _ _ e => D_X12_ofNth e hH) (fun v2 s3 h3 hH3 r_v2 hF => dw_rI rfl rfl r_v2 hH3 hF))
    · refine dw_ne_n rfl (u := 28) rfl hH.r (d_rl rfl) q ?_
      exact D_X12_behindOne_j28 hF hH rfl
  · refine dw_zle_n rfl (u := 28) rfl hH.r q ?_
    exact D_X12_behindOne_j28 hF hH rfl
set_option maxRecDepth 100000 in
noncomputable def F_X12_summed_j38 (k20 : d_S → Option (Int × d_S)) (k52 : d_S → Option (Int × d_S)) (y0 : Int) (s : d_S) : Option (Int × d_S) :=
  if 0 < y0 then
  some (y0, s)
  else
  if y0 = 0 then
  k20 s
  else
  k52 s
set_option maxRecDepth 100000 in
theorem D_X12_summed_j38 {t : Nat → Option p_C} {h : p_H} {s : d_S} {k20 : d_S → Option (Int × d_S)} {k52 : d_S → Option (Int × d_S)} {y0 : Int} {r : Int × d_S} {ls : p_Ls} (hF : F_X12_summed_j38 k20 k52 y0 s = some r) (hH : d_V t h s) (l0 : p_lk 0 ls = some (.ref 64)) (r_y0 : d_R y0) (hk20 : ∀ {ls : p_Ls} {s : d_S} {h : p_H}, k20 s = some r → d_V t h s → p_lk 0 ls = some (.ref 64) → p_wp p_GT p_MT 9 m_X12_summed 20 ls [] h (d_QI t r)) (hk52 : ∀ {ls : p_Ls} {s : d_S} {h : p_H}, k52 s = some r → d_V t h s → p_lk 0 ls = some (.ref 64) → p_wp p_GT p_MT 9 m_X12_summed 52 ls [] h (d_QI t r)) : p_wp p_GT p_MT 9 m_X12_summed 38 ls [.int (Int32.ofInt y0)] h (d_QI t r) := by
  unfold F_X12_summed_j38 at hF
  refine dw_isn rfl rfl (dw_iln rfl p_lk_s1 (?_))
  refine d_if hF (fun q hF => ?_) (fun q hF => ?_)
  · refine dw_zle_y rfl (u := 45) rfl r_y0 q ?_
    exact dw_iln rfl p_lk_s1 (dw_rI rfl rfl r_y0 hH hF)
  · refine dw_zle_n rfl (u := 45) rfl r_y0 q ?_
    refine dw_iln rfl p_lk_s1 (?_)
    refine d_if hF (fun q hF => ?_) (fun q hF => ?_)
    · refine dw_zne_y rfl (u := 52) rfl r_y0 q ?_
      refine dw_go rfl (u := 20) rfl (?_)
      exact hk20 hF hH (d_s1 l0 rfl (by decide))
    · refine dw_zne_n rfl (u := 52) rfl r_y0 q ?_
      exact hk52 hF hH (d_s1 l0 rfl (by decide))
set_option maxRecDepth 100000 in
noncomputable def F_X12_summed_l20_b (k52 : d_S → Option (Int × d_S)) (rec : d_S → Option (Int × d_S)) (s : d_S) : Option (Int × d_S) :=
  if (s.1 64 20) = 0 then
  d_b2 (F_X12_beginOne s) (fun v5 s6 => F_X12_summed_j38 rec k52 v5 s6)
  else
  d_b2 (F_X12_behindOne s) (fun v7 s8 => F_X12_summed_j38 rec k52 v7 s8)
set_option maxRecDepth 100000 in
noncomputable def F_X12_summed_l20 (k52 : d_S → Option (Int × d_S)) : Nat → d_S → Option (Int × d_S)
  | 0 => fun _ => none
  | n + 1 => F_X12_summed_l20_b k52 (F_X12_summed_l20 k52 n)
set_option maxRecDepth 100000 in
theorem D_X12_summed_l20 {t : Nat → Option p_C} {k52 : d_S → Option (Int × d_S)} {r : Int × d_S} (hk52 : ∀ {ls : p_Ls} {s : d_S} {h : p_H}, k52 s = some r → d_V t h s → p_lk 0 ls = some (.ref 64) → p_wp p_GT p_MT 9 m_X12_summed 52 ls [] h (d_QI t r)) : ∀ (n : Nat) {ls : p_Ls} {s : d_S} {h : p_H}, F_X12_summed_l20 k52 n s = some r → d_V t h s → p_lk 0 ls = some (.ref 64) → p_wp p_GT p_MT 9 m_X12_summed 20 ls [] h (d_QI t r) := by
  intro n
  induction n with
  | zero =>
    intro ls s h hF hH l0
    cases (show (none : Option (Int × d_S)) = some r from hF)
  | succ n ih =>
    intro ls s h hF hH l0
    have hF : F_X12_summed_l20_b k52 (F_X12_summed_l20 k52 n) s = some r := hF
    unfold F_X12_summed_l20_b at hF
    refine dw_aln rfl l0 (dw_gi (k := 20) rfl rfl rfl hH d_c64_20 (?_))
    refine d_if hF (fun q hF => ?_) (fun q hF => ?_)
    · refine dw_zeq_y rfl (u := 34) rfl hH.r q ?_
      refine dw_aln rfl l0 (dw_vI hF rfl (d_vir (n := 1) rfl rfl rfl rfl rfl hH d_c64_0 rfl) rfl rfl rfl (dc := 7) (fun _ _ e => D_X12_beginOne e hH) (fun v5 s6 h6 hH6 r_v5 hF => ?_))
      exact D_X12_summed_j38 hF hH6 l0 r_v5 (fun {ls} {s} {h} hF hH l0 => ih hF hH l0) hk52
    · refine dw_zeq_n rfl (u := 34) rfl hH.r q ?_
      refine dw_aln rfl l0 (dw_vI hF rfl (d_vir (n := 1) rfl rfl rfl rfl rfl hH d_c64_0 rfl) rfl rfl rfl (dc := 8) (fun _ _ e => D_X12_behindOne e hH) (fun v7 s8 h8 hH8 r_v7 hF => dw_go rfl (u := 38) rfl (?_)))
      exact D_X12_summed_j38 hF hH8 l0 r_v7 (fun {ls} {s} {h} hF hH l0 => ih hF hH l0) hk52
set_option maxRecDepth 100000 in
noncomputable def F_X12_summed (s : d_S) : Option (Int × d_S) :=
  d_l (d_si s 64 17 0) (fun s1 => d_l (d_si s1 64 18 0) (fun s2 => d_l (d_si s2 64 19 0) (fun s3 => d_l (d_si s3 64 20 0) (fun s4 => F_X12_summed_l20 (fun s_u9 =>
  d_b (F_X12_openNow s_u9) (fun v10 => if v10 < 0 then
  d_b (F_X12_settle s_u9 1) (fun s11 => some (0, s11))
  else
  some (1, s_u9))) d_N s4))))
set_option maxRecDepth 100000 in
theorem D_X12_summed {t : Nat → Option p_C} {h : p_H} {s : d_S} {r : Int × d_S} (hF : F_X12_summed s = some r) (hH : d_V t h s) : p_wp p_GT p_MT 9 m_X12_summed 0 (lv_args 0 [.ref 64]) [] h (d_QI t r) := by
  unfold F_X12_summed at hF
  refine dw_aln rfl rfl (dw_ic rfl (dw_pi (k := 17) rfl rfl rfl rfl hH d_c64_17 (d_rl rfl) (by decide) hF (fun s1 h1 hH1 hF => dw_aln rfl rfl (dw_ic rfl (dw_pi (k := 18) rfl rfl rfl rfl hH1 d_c64_18 (d_rl rfl) (by decide) hF (fun s2 h2 hH2 hF => dw_aln rfl rfl (dw_ic rfl (dw_pi (k := 19) rfl rfl rfl rfl hH2 d_c64_19 (d_rl rfl) (by decide) hF (fun s3 h3 hH3 hF => dw_aln rfl rfl (?_))))))))))
  refine dw_ic rfl (dw_pb (k := 20) rfl rfl rfl rfl hH3 d_c64_20 (Or.inl rfl) (by decide) hF (fun s4 h4 hH4 hF => ?_))
  refine D_X12_summed_l20 (fun {ls_u9} {s_u9} {h_u9} hF hH_u9 l0_u9 => ?_) _ hF hH4 rfl
  · refine dw_aln rfl l0_u9 (dw_vP hF rfl (d_vir (n := 1) rfl rfl rfl rfl rfl hH_u9 d_c64_0 rfl) rfl rfl rfl (dc := 0) (fun _ e => D_X12_openNow e hH_u9) (fun v10 r_v10 hF => ?_))
    refine d_if hF (fun q hF => ?_) (fun q hF => ?_)
    · refine dw_zlt_y rfl (u := 61) rfl r_v10 q ?_
      exact dw_aln rfl l0_u9 (dw_ic rfl (dw_vV hF rfl (d_vir (n := 2) rfl rfl rfl rfl rfl hH_u9 d_c64_0 rfl) rfl rfl rfl (dc := 1) (fun _ e => D_X12_settle e hH_u9 (d_rl rfl)) (fun s11 h11 hH11 hF => dw_ic rfl (dw_rI rfl rfl (d_rl rfl) hH11 hF))))
    · refine dw_zlt_n rfl (u := 61) rfl r_v10 q ?_
      exact dw_ic rfl (dw_rI rfl rfl (d_rl rfl) hH_u9 hF)
set_option maxRecDepth 100000 in
noncomputable def F_X12_lawClause (s : d_S) (x1 : Int) : Option (Int × d_S) :=
  d_g (0 ≤ (d_w (x1 + 1)) ∧ (d_w (x1 + 1)) < 3108) (d_l (d_si s 67 (((d_w (x1 + 1))).toNat) (s.1 64 13)) (fun s2 => d_b2 (F_X12_summed s2) (fun v3 s4 => d_g (0 ≤ (d_w (x1 + 2)) ∧ (d_w (x1 + 2)) < 3108) (d_l (d_si s4 67 (((d_w (x1 + 2))).toNat) (s4.1 64 13)) (fun s6 => some (v3, s6))))))
set_option maxRecDepth 100000 in
theorem D_X12_lawClause {t : Nat → Option p_C} {h : p_H} {s : d_S} {x1 : Int} {r : Int × d_S} (hF : F_X12_lawClause s x1 = some r) (hH : d_V t h s) (r_x1 : d_R x1) : p_wp p_GT p_MT 10 m_X12_lawClause 0 (lv_args 0 [.ref 64, .int (Int32.ofInt x1)]) [] h (d_QI t r) := by
  unfold F_X12_lawClause at hF
  refine dw_aln rfl rfl (dw_gr rfl rfl rfl hH d_c64_2 (dw_iln rfl rfl (dw_ic rfl (dw_add rfl (dw_aln rfl rfl (dw_gi (k := 13) rfl rfl rfl hH d_c64_13 (dw_w2 (d_gd hF (fun g1 hF => dw_ast rfl hH d_a67 g1.1 g1.2 d_R_w rfl hH.r hF (fun s2 h2 hH2 hF => ?_))))))))))
  refine dw_aln rfl rfl (dw_vI hF rfl (d_vir (n := 1) rfl rfl rfl rfl rfl hH2 d_c64_0 rfl) rfl rfl rfl (dc := 9) (fun _ _ e => D_X12_summed e hH2) (fun v3 s4 h4 hH4 r_v3 hF => dw_isn rfl rfl (dw_aln rfl (d_s1 rfl rfl (by decide)) (dw_gr rfl rfl rfl hH4 d_c64_2 (dw_iln rfl (d_s1 rfl rfl (by decide)) (dw_ic rfl (dw_add rfl (dw_aln rfl (d_s1 rfl rfl (by decide)) (dw_gi (k := 13) rfl rfl rfl hH4 d_c64_13 (?_))))))))))
  exact dw_w2 (d_gd hF (fun g5 hF => dw_ast rfl hH4 d_a67 g5.1 g5.2 d_R_w rfl hH4.r hF (fun s6 h6 hH6 hF => dw_iln rfl p_lk_s1 (dw_rI rfl rfl r_v3 hH6 hF))))
set_option maxRecDepth 100000 in
noncomputable def F_X12_body (s : d_S) (x1 : Int) (x2 : Int) : Option (Int × d_S) :=
  
  if x1 = 3 then
  d_b2 (F_X12_pondClause s x2) (fun v1 s2 => some (v1, s2))
  else
  if x1 = 4 then
  d_b2 (F_X12_sightClause s x2) (fun v3 s4 => some (v3, s4))
  else
  if x1 = 5 then
  d_b2 (F_X12_figure s (d_w (x2 + 1)) 0 6) (fun v5 s6 => some (v5, s6))
  else
  if x1 = 6 then
  d_b2 (F_X12_figure s (d_w (x2 + 1)) 0 6) (fun v7 s8 => some (v7, s8))
  else
  if x1 = 7 then
  d_b2 (F_X12_strawClause s x2) (fun v9 s10 => some (v9, s10))
  else
  if x1 = 8 then
  d_b2 (F_X12_figure s (d_w (x2 + 1)) 1 60) (fun v11 s12 => some (v11, s12))
  else
  if x1 = 9 then
  d_b2 (F_X12_figure s (d_w (x2 + 1)) 0 63) (fun v13 s14 => some (v13, s14))
  else
  d_b2 (F_X12_lawClause s x2) (fun v15 s16 => some (v15, s16))
set_option maxRecDepth 100000 in
theorem D_X12_body {t : Nat → Option p_C} {h : p_H} {s : d_S} {x1 : Int} {x2 : Int} {r : Int × d_S} (hF : F_X12_body s x1 x2 = some r) (hH : d_V t h s) (r_x1 : d_R x1) (r_x2 : d_R x2) : p_wp p_GT p_MT 11 m_X12_body 0 (lv_args 0 [.ref 64, .int (Int32.ofInt x1), .int (Int32.ofInt x2)]) [] h (d_QI t r) := by
  unfold F_X12_body at hF
  refine dw_iln rfl rfl (?_)
  refine d_if hF (fun q hF => ?_) (fun q0 hF => ?_)
  · refine dw_ts rfl r_x1 (u := 44) (by rw [q]; rfl) ?_
    exact dw_aln rfl rfl (dw_iln rfl rfl (dw_vI hF rfl (d_vir (n := 2) rfl rfl rfl rfl rfl hH d_c64_0 rfl) rfl rfl rfl (dc := 4) (fun _ _ e => D_X12_pondClause e hH r_x2) (fun v1 s2 h2 hH2 r_v1 hF => dw_rI rfl rfl r_v1 hH2 hF)))
  refine d_if hF (fun q hF => ?_) (fun q1 hF => ?_)
  · refine dw_ts rfl r_x1 (u := 50) (by rw [q]; rfl) ?_
    exact dw_aln rfl rfl (dw_iln rfl rfl (dw_vI hF rfl (d_vir (n := 2) rfl rfl rfl rfl rfl hH d_c64_0 rfl) rfl rfl rfl (dc := 4) (fun _ _ e => D_X12_sightClause e hH r_x2) (fun v3 s4 h4 hH4 r_v3 hF => dw_rI rfl rfl r_v3 hH4 hF)))
  refine d_if hF (fun q hF => ?_) (fun q2 hF => ?_)
  · refine dw_ts rfl r_x1 (u := 56) (by rw [q]; rfl) ?_
    exact dw_aln rfl rfl (dw_iln rfl rfl (dw_ic rfl (dw_add rfl (dw_ic rfl (dw_bp rfl rfl (dw_w3 (dw_vI hF rfl (d_vir (n := 4) rfl rfl rfl rfl rfl hH d_c64_0 rfl) rfl rfl rfl (dc := 2) (fun _ _ e => D_X12_figure e hH d_R_w (d_rl rfl) (d_rl rfl)) (fun v5 s6 h6 hH6 r_v5 hF => dw_rI rfl rfl r_v5 hH6 hF))))))))
  refine d_if hF (fun q hF => ?_) (fun q3 hF => ?_)
  · refine dw_ts rfl r_x1 (u := 67) (by rw [q]; rfl) ?_
    exact dw_aln rfl rfl (dw_iln rfl rfl (dw_ic rfl (dw_add rfl (dw_ic rfl (dw_bp rfl rfl (dw_w3 (dw_vI hF rfl (d_vir (n := 4) rfl rfl rfl rfl rfl hH d_c64_0 rfl) rfl rfl rfl (dc := 2) (fun _ _ e => D_X12_figure e hH d_R_w (d_rl rfl) (d_rl rfl)) (fun v7 s8 h8 hH8 r_v7 hF => dw_rI rfl rfl r_v7 hH8 hF))))))))
  refine d_if hF (fun q hF => ?_) (fun q4 hF => ?_)
  · refine dw_ts rfl r_x1 (u := 78) (by rw [q]; rfl) ?_
    exact dw_aln rfl rfl (dw_iln rfl rfl (dw_vI hF rfl (d_vir (n := 2) rfl rfl rfl rfl rfl hH d_c64_0 rfl) rfl rfl rfl (dc := 4) (fun _ _ e => D_X12_strawClause e hH r_x2) (fun v9 s10 h10 hH10 r_v9 hF => dw_rI rfl rfl r_v9 hH10 hF)))
  refine d_if hF (fun q hF => ?_) (fun q5 hF => ?_)
  · refine dw_ts rfl r_x1 (u := 84) (by rw [q]; rfl) ?_
    exact dw_aln rfl rfl (dw_iln rfl rfl (dw_ic rfl (dw_add rfl (dw_ic rfl (dw_bp rfl rfl (dw_w3 (dw_vI hF rfl (d_vir (n := 4) rfl rfl rfl rfl rfl hH d_c64_0 rfl) rfl rfl rfl (dc := 2) (fun _ _ e => D_X12_figure e hH d_R_w (d_rl rfl) (d_rl rfl)) (fun v11 s12 h12 hH12 r_v11 hF => dw_rI rfl rfl r_v11 hH12 hF))))))))
  refine d_if hF (fun q hF => ?_) (fun q6 hF => ?_)
  · refine dw_ts rfl r_x1 (u := 95) (by rw [q]; rfl) ?_
    exact dw_aln rfl rfl (dw_iln rfl rfl (dw_ic rfl (dw_add rfl (dw_ic rfl (dw_bp rfl rfl (dw_w3 (dw_vI hF rfl (d_vir (n := 4) rfl rfl rfl rfl rfl hH d_c64_0 rfl) rfl rfl rfl (dc := 2) (fun _ _ e => D_X12_figure e hH d_R_w (d_rl rfl) (d_rl rfl)) (fun v13 s14 h14 hH14 r_v13 hF => dw_rI rfl rfl r_v13 hH14 hF))))))))
  refine dw_ts rfl r_x1 (u := 106) (by rw [if_pos (by omega)]; rfl) ?_
  exact dw_aln rfl rfl (dw_iln rfl rfl (dw_vI hF rfl (d_vir (n := 2) rfl rfl rfl rfl rfl hH d_c64_0 rfl) rfl rfl rfl (dc := 10) (fun _ _ e => D_X12_lawClause e hH r_x2) (fun v15 s16 h16 hH16 r_v15 hF => dw_rI rfl rfl r_v15 hH16 hF)))
set_option maxRecDepth 100000 in
noncomputable def F_X12_clause_j65 (x1 : Int) (x2 : Int) (s : d_S) : Option (Int × d_S) :=
  d_l (d_si s 64 14 x1) (fun s4 => d_b (F_X12_nextToken s4) (fun s5 => d_l (d_w (((s5.1 64 12) + 1) + (7 * x2))) (fun z6 => d_g (0 ≤ z6 ∧ z6 < 3108) (d_l (d_si s5 67 ((z6).toNat) x1) (fun s8 => d_b2 (F_X12_body s8 x1 z6) (fun v9 s10 => if v9 = 0 then
  d_g (0 ≤ (s10.1 64 12) ∧ (s10.1 64 12) < 3108) (d_g (0 ≤ (s10.1 64 12) ∧ (s10.1 64 12) < 3108) (d_l (d_si s10 67 (((s10.1 64 12)).toNat) (d_w ((s10.1 67 (((s10.1 64 12)).toNat)) + 1))) (fun s13 => if (s13.1 64 9) = 59 then
  d_b (F_X12_nextToken s13) (fun s14 => some (0, s14))
  else
  some (1, s13))))
  else
  some (v9, s10)))))))
set_option maxRecDepth 100000 in
theorem D_X12_clause_j65 {t : Nat → Option p_C} {h : p_H} {s : d_S} {x1 : Int} {x2 : Int} {r : Int × d_S} {ls : p_Ls} (hF : F_X12_clause_j65 x1 x2 s = some r) (hH : d_V t h s) (l0 : p_lk 0 ls = some (.ref 64)) (r_x1 : d_R x1) (l1 : p_lk 1 ls = some (.int (Int32.ofInt x1))) (r_x2 : d_R x2) (l2 : p_lk 2 ls = some (.int (Int32.ofInt x2))) : p_wp p_GT p_MT 12 m_X12_clause 65 ls [] h (d_QI t r) := by
  unfold F_X12_clause_j65 at hF
  refine dw_aln rfl l0 (dw_iln rfl l1 (dw_pi (k := 14) rfl rfl rfl rfl hH d_c64_14 r_x1 (by decide) hF (fun s4 h4 hH4 hF => dw_aln rfl l0 (dw_vV hF rfl (d_vir (n := 1) rfl rfl rfl rfl rfl hH4 d_c64_0 rfl) rfl rfl rfl (dc := 1) (fun _ e => D_X12_nextToken e hH4) (fun s5 h5 hH5 hF => dw_aln rfl l0 (dw_gi (k := 12) rfl rfl rfl hH5 d_c64_12 (dw_ic rfl (dw_add rfl (dw_bp rfl rfl (?_))))))))))
  refine dw_iln rfl l2 (dw_mul rfl (dw_add rfl (dw_w1 (dw_nm hF d_R_w (fun z6 r_z6 hF => dw_isn rfl rfl (dw_aln rfl (d_s1 l0 rfl (by decide)) (dw_gr rfl rfl rfl hH5 d_c64_2 (dw_iln rfl p_lk_s1 (dw_iln rfl (d_s1 l1 rfl (by decide)) (?_))))))))))
  refine d_gd hF (fun g7 hF => dw_ast rfl hH5 d_a67 g7.1 g7.2 r_z6 rfl r_x1 hF (fun s8 h8 hH8 hF => dw_aln rfl (d_s1 l0 rfl (by decide)) (dw_iln rfl (d_s1 l1 rfl (by decide)) (dw_iln rfl p_lk_s1 (dw_vI hF rfl (d_vir (n := 3) rfl rfl rfl rfl rfl hH8 d_c64_0 rfl) rfl rfl rfl (dc := 11) (fun _ _ e => D_X12_body e hH8 r_x1 r_z6) (fun v9 s10 h10 hH10 r_v9 hF => dw_is rfl rfl (dw_il rfl p_lk_s1 (?_))))))))
  refine d_if hF (fun q hF => ?_) (fun q hF => ?_)
  · refine dw_zeq_y rfl (u := 109) rfl r_v9 q ?_
    refine dw_aln rfl (d_s1 (d_s1 l0 rfl (by decide)) rfl (by decide)) (dw_gr rfl rfl rfl hH10 d_c64_2 (dw_aln rfl (d_s1 (d_s1 l0 rfl (by decide)) rfl (by decide)) (dw_gi (k := 12) rfl rfl rfl hH10 d_c64_12 (dw_dup2 rfl (d_gd hF (fun g11 hF => dw_ald rfl hH10 d_a67 rfl g11.1 g11.2 hH10.r rfl (dw_ic rfl (dw_add rfl (dw_w1 (?_))))))))))
    refine d_gd hF (fun g12 hF => dw_ast rfl hH10 d_a67 g12.1 g12.2 hH10.r rfl d_R_w hF (fun s13 h13 hH13 hF => dw_aln rfl (d_s1 (d_s1 l0 rfl (by decide)) rfl (by decide)) (dw_gi (k := 9) rfl rfl rfl hH13 d_c64_9 (dw_bp rfl rfl (?_)))))
    refine d_if hF (fun q hF => ?_) (fun q hF => ?_)
    · refine dw_eq_y rfl (u := 133) rfl hH13.r (d_rl rfl) q ?_
      exact dw_aln rfl (d_s1 (d_s1 l0 rfl (by decide)) rfl (by decide)) (dw_vV hF rfl (d_vir (n := 1) rfl rfl rfl rfl rfl hH13 d_c64_0 rfl) rfl rfl rfl (dc := 1) (fun _ e => D_X12_nextToken e hH13) (fun s14 h14 hH14 hF => dw_ic rfl (dw_rI rfl rfl (d_rl rfl) hH14 hF)))
    · refine dw_eq_n rfl (u := 133) rfl hH13.r (d_rl rfl) q ?_
      exact dw_ic rfl (dw_rI rfl rfl (d_rl rfl) hH13 hF)
  · refine dw_zeq_n rfl (u := 109) rfl r_v9 q ?_
    exact dw_il rfl p_lk_s1 (dw_rI rfl rfl r_v9 hH10 hF)
set_option maxRecDepth 100000 in
noncomputable def F_X12_clause_j29 (x1 : Int) (s : d_S) : Option (Int × d_S) :=
  d_g (0 ≤ (s.1 64 12) ∧ (s.1 64 12) < 3108) (d_l (s.1 67 (((s.1 64 12)).toNat)) (fun z3 => if z3 = 24 then
  some (6, s)
  else
  if 2 < x1 then
  F_X12_clause_j65 x1 z3 s
  else
  d_l (d_si s 64 21 (d_or (s.1 64 21) (d_shl 1 x1))) (fun s15 => F_X12_clause_j65 x1 z3 s15)))
set_option maxRecDepth 100000 in
theorem D_X12_clause_j29 {t : Nat → Option p_C} {h : p_H} {s : d_S} {x1 : Int} {r : Int × d_S} {ls : p_Ls} (hF : F_X12_clause_j29 x1 s = some r) (hH : d_V t h s) (l0 : p_lk 0 ls = some (.ref 64)) (r_x1 : d_R x1) (l1 : p_lk 1 ls = some (.int (Int32.ofInt x1))) : p_wp p_GT p_MT 12 m_X12_clause 29 ls [] h (d_QI t r) := by
  unfold F_X12_clause_j29 at hF
  refine dw_aln rfl l0 (dw_gr rfl rfl rfl hH d_c64_2 (dw_aln rfl l0 (dw_gi (k := 12) rfl rfl rfl hH d_c64_12 (d_gd hF (fun g2 hF => dw_ald rfl hH d_a67 rfl g2.1 g2.2 hH.r rfl (dw_nm hF hH.r (fun z3 r_z3 hF => dw_isn rfl rfl (dw_iln rfl p_lk_s1 (dw_bp rfl rfl (?_))))))))))
  refine d_if hF (fun q hF => ?_) (fun q hF => ?_)
  · refine dw_ne_y rfl (u := 48) rfl r_z3 (d_rl rfl) q ?_
    exact dw_bp rfl rfl (dw_rI rfl rfl (d_rl rfl) hH hF)
  · refine dw_ne_n rfl (u := 48) rfl r_z3 (d_rl rfl) q ?_
    refine dw_iln rfl (d_s1 l1 rfl (by decide)) (dw_ic rfl (?_))
    refine d_if hF (fun q hF => ?_) (fun q hF => ?_)
    · refine dw_gt_y rfl (u := 65) rfl r_x1 (d_rl rfl) q ?_
      exact D_X12_clause_j65 hF hH (d_s1 l0 rfl (by decide)) r_x1 (d_s1 l1 rfl (by decide)) r_z3 p_lk_s1
    · refine dw_gt_n rfl (u := 65) rfl r_x1 (d_rl rfl) q ?_
      refine dw_aln rfl (d_s1 l0 rfl (by decide)) (dw_dupr rfl (dw_gi (k := 21) rfl rfl rfl hH d_c64_21 (dw_ic rfl (dw_iln rfl (d_s1 l1 rfl (by decide)) (dw_shl rfl (dw_or rfl (dw_pi (k := 21) rfl rfl rfl rfl hH d_c64_21 d_R_t (by decide) hF (fun s15 h15 hH15 hF => ?_))))))))
      exact D_X12_clause_j65 hF hH15 (d_s1 l0 rfl (by decide)) r_x1 (d_s1 l1 rfl (by decide)) r_z3 p_lk_s1
set_option maxRecDepth 100000 in
noncomputable def F_X12_clause (s : d_S) : Option (Int × d_S) :=
  d_b (F_X12_sortOf s) (fun v1 => if v1 < 0 then
  some (1, s)
  else
  if 2 < v1 then
  F_X12_clause_j29 v1 s
  else
  d_b (F_X12_has (s.1 64 21) v1) (fun v16 => if v16 = 0 then
  F_X12_clause_j29 v1 s
  else
  some (4, s)))
set_option maxRecDepth 100000 in
theorem D_X12_clause {t : Nat → Option p_C} {h : p_H} {s : d_S} {r : Int × d_S} (hF : F_X12_clause s = some r) (hH : d_V t h s) : p_wp p_GT p_MT 12 m_X12_clause 0 (lv_args 0 [.ref 64]) [] h (d_QI t r) := by
  unfold F_X12_clause at hF
  refine dw_aln rfl rfl (dw_vP hF rfl (d_vir (n := 1) rfl rfl rfl rfl rfl hH d_c64_0 rfl) rfl rfl rfl (dc := 4) (fun _ e => D_X12_sortOf e hH) (fun v1 r_v1 hF => dw_isn rfl rfl (dw_iln rfl p_lk_s1 (?_))))
  refine d_if hF (fun q hF => ?_) (fun q hF => ?_)
  · refine dw_zge_y rfl (u := 11) rfl r_v1 q ?_
    exact dw_ic rfl (dw_rI rfl rfl (d_rl rfl) hH hF)
  · refine dw_zge_n rfl (u := 11) rfl r_v1 q ?_
    refine dw_iln rfl p_lk_s1 (dw_ic rfl (?_))
    refine d_if hF (fun q hF => ?_) (fun q hF => ?_)
    · refine dw_gt_y rfl (u := 29) rfl r_v1 (d_rl rfl) q ?_
      exact D_X12_clause_j29 hF hH (d_s1 rfl rfl (by decide)) r_v1 p_lk_s1
    · refine dw_gt_n rfl (u := 29) rfl r_v1 (d_rl rfl) q ?_
      refine dw_aln rfl (d_s1 rfl rfl (by decide)) (dw_gi (k := 21) rfl rfl rfl hH d_c64_21 (dw_iln rfl p_lk_s1 (dw_sB hF rfl rfl rfl rfl rfl (dc := 0) (fun _ e => D_X12_has e hH.r r_v1) (fun v16 r_v16 hF => ?_))))
      refine d_if hF (fun q hF => ?_) (fun q hF => ?_)
      · refine dw_zeq_y rfl (u := 29) rfl (d_R_b r_v16) q ?_
        exact D_X12_clause_j29 hF hH (d_s1 rfl rfl (by decide)) r_v1 p_lk_s1
      · refine dw_zeq_n rfl (u := 29) rfl (d_R_b r_v16) q ?_
        exact dw_ic rfl (dw_rI rfl rfl (d_rl rfl) hH hF)
set_option maxRecDepth 100000 in
noncomputable def F_X12_readText_l43_b (rec : d_S → Option (Int × d_S)) (s : d_S) : Option (Int × d_S) :=
  if (s.1 64 9) = 0 then
  some (0, s)
  else
  d_b2 (F_X12_clause s) (fun v8 s9 => if v8 = 0 then
  rec s9
  else
  some (v8, s9))
set_option maxRecDepth 100000 in
noncomputable def F_X12_readText_l43 : Nat → d_S → Option (Int × d_S)
  | 0 => fun _ => none
  | n + 1 => F_X12_readText_l43_b (F_X12_readText_l43 n)
set_option maxRecDepth 100000 in
theorem D_X12_readText_l43 {t : Nat → Option p_C} {r : Int × d_S} : ∀ (n : Nat) {ls : p_Ls} {s : d_S} {h : p_H}, F_X12_readText_l43 n s = some r → d_V t h s → p_lk 0 ls = some (.ref 64) → p_wp p_GT p_MT 13 m_X12_readText 43 ls [] h (d_QI t r) := by
  intro n
  induction n with
  | zero =>
    intro ls s h hF hH l0
    cases (show (none : Option (Int × d_S)) = some r from hF)
  | succ n ih =>
    intro ls s h hF hH l0
    have hF : F_X12_readText_l43_b (F_X12_readText_l43 n) s = some r := hF
    unfold F_X12_readText_l43_b at hF
    refine dw_aln rfl l0 (dw_gi (k := 9) rfl rfl rfl hH d_c64_9 (?_))
    refine d_if hF (fun q hF => ?_) (fun q hF => ?_)
    · refine dw_zeq_y rfl (u := 64) rfl hH.r q ?_
      exact dw_ic rfl (dw_rI rfl rfl (d_rl rfl) hH hF)
    · refine dw_zeq_n rfl (u := 64) rfl hH.r q ?_
      refine dw_aln rfl l0 (dw_vI hF rfl (d_vir (n := 1) rfl rfl rfl rfl rfl hH d_c64_0 rfl) rfl rfl rfl (dc := 12) (fun _ _ e => D_X12_clause e hH) (fun v8 s9 h9 hH9 r_v8 hF => dw_isn rfl rfl (dw_iln rfl p_lk_s1 (?_))))
      refine d_if hF (fun q hF => ?_) (fun q hF => ?_)
      · refine dw_zeq_y rfl (u := 61) rfl r_v8 q ?_
        refine dw_go rfl (u := 43) rfl (?_)
        exact ih hF hH9 (d_s1 l0 rfl (by decide))
      · refine dw_zeq_n rfl (u := 61) rfl r_v8 q ?_
        exact dw_iln rfl p_lk_s1 (dw_rI rfl rfl r_v8 hH9 hF)
set_option maxRecDepth 100000 in
noncomputable def F_X12_readText (s : d_S) : Option (Int × d_S) :=
  d_l (d_si s 64 12 (d_w (777 * (s.1 65 1)))) (fun s1 => d_g (0 ≤ (s1.1 64 12) ∧ (s1.1 64 12) < 3108) (d_l (d_si s1 67 (((s1.1 64 12)).toNat) 0) (fun s3 => d_l (d_si s3 64 13 0) (fun s4 => d_l (d_si s4 64 21 0) (fun s5 => d_l (d_si s5 64 7 0) (fun s6 => d_b (F_X12_nextToken s6) (fun s7 => F_X12_readText_l43 d_N s7)))))))
set_option maxRecDepth 100000 in
theorem D_X12_readText {t : Nat → Option p_C} {h : p_H} {s : d_S} {r : Int × d_S} (hF : F_X12_readText s = some r) (hH : d_V t h s) : p_wp p_GT p_MT 13 m_X12_readText 0 (lv_args 0 [.ref 64]) [] h (d_QI t r) := by
  unfold F_X12_readText at hF
  refine dw_aln rfl rfl (dw_sp rfl rfl (dw_aln rfl rfl (dw_gr rfl rfl rfl hH d_c64_0 (dw_ic rfl (dw_ald rfl hH d_a65 rfl (by decide) (by decide) (d_rl rfl) (k := 1) rfl (dw_mul rfl (dw_w1 (dw_pi (k := 12) rfl rfl rfl rfl hH d_c64_12 d_R_w (by decide) hF (fun s1 h1 hH1 hF => dw_aln rfl rfl (?_))))))))))
  refine dw_gr rfl rfl rfl hH1 d_c64_2 (dw_aln rfl rfl (dw_gi (k := 12) rfl rfl rfl hH1 d_c64_12 (dw_ic rfl (d_gd hF (fun g2 hF => dw_ast rfl hH1 d_a67 g2.1 g2.2 hH1.r rfl (d_rl rfl) hF (fun s3 h3 hH3 hF => dw_aln rfl rfl (dw_ic rfl (dw_pi (k := 13) rfl rfl rfl rfl hH3 d_c64_13 (d_rl rfl) (by decide) hF (fun s4 h4 hH4 hF => dw_aln rfl rfl (?_))))))))))
  refine dw_ic rfl (dw_pi (k := 21) rfl rfl rfl rfl hH4 d_c64_21 (d_rl rfl) (by decide) hF (fun s5 h5 hH5 hF => dw_aln rfl rfl (dw_ic rfl (dw_pi (k := 7) rfl rfl rfl rfl hH5 d_c64_7 (d_rl rfl) (by decide) hF (fun s6 h6 hH6 hF => dw_aln rfl rfl (dw_vV hF rfl (d_vir (n := 1) rfl rfl rfl rfl rfl hH6 d_c64_0 rfl) rfl rfl rfl (dc := 1) (fun _ e => D_X12_nextToken e hH6) (fun s7 h7 hH7 hF => ?_)))))))
  exact D_X12_readText_l43 _ hF hH7 rfl
set_option maxRecDepth 100000 in
noncomputable def F_X12_text_j36 (y1 : Int) (s : d_S) : Option (Int × d_S) :=
  d_l (d_si s 64 6 y1) (fun s4 => d_l (d_si s4 64 4 0) (fun s5 => if (s5.1 64 5) = 0 then
  d_l (d_si s5 65 (1) (d_w ((s5.1 65 1) + 1))) (fun s6 => some ((d_w ((s6.1 65 1) - 1)), s6))
  else
  some ((-1), s5)))
set_option maxRecDepth 100000 in
theorem D_X12_text_j36 {t : Nat → Option p_C} {h : p_H} {s : d_S} {y1 : Int} {r : Int × d_S} {ls : p_Ls} (hF : F_X12_text_j36 y1 s = some r) (hH : d_V t h s) (l0 : p_lk 0 ls = some (.ref 64)) (r_y1 : d_R y1) : p_wp p_GT p_MT 14 m_X12_text 36 ls [.int (Int32.ofInt y1), .ref 64] h (d_QI t r) := by
  unfold F_X12_text_j36 at hF
  refine dw_pi (k := 6) rfl rfl rfl rfl hH d_c64_6 r_y1 (by decide) hF (fun s4 h4 hH4 hF => dw_aln rfl l0 (dw_ic rfl (dw_pi (k := 4) rfl rfl rfl rfl hH4 d_c64_4 (d_rl rfl) (by decide) hF (fun s5 h5 hH5 hF => dw_aln rfl l0 (dw_gi (k := 5) rfl rfl rfl hH5 d_c64_5 (?_))))))
  refine d_if hF (fun q hF => ?_) (fun q hF => ?_)
  · refine dw_zeq_y rfl (u := 53) rfl hH5.r q ?_
    refine dw_aln rfl l0 (dw_gr rfl rfl rfl hH5 d_c64_0 (dw_ic rfl (dw_dup2 rfl (dw_ald rfl hH5 d_a65 rfl (by decide) (by decide) (d_rl rfl) (k := 1) rfl (dw_ic rfl (dw_add rfl (dw_w1 (dw_ast rfl hH5 d_a65 (by decide) (by decide) (d_rl rfl) (k := 1) rfl d_R_w hF (fun s6 h6 hH6 hF => dw_aln rfl l0 (?_))))))))))
    exact dw_gr rfl rfl rfl hH6 d_c64_0 (dw_ic rfl (dw_ald rfl hH6 d_a65 rfl (by decide) (by decide) (d_rl rfl) (k := 1) rfl (dw_ic rfl (dw_sub rfl (dw_w1 (dw_rI rfl rfl d_R_w hH6 hF))))))
  · refine dw_zeq_n rfl (u := 53) rfl hH5.r q ?_
    exact dw_ic rfl (dw_rI rfl rfl (d_rl rfl) hH5 hF)
set_option maxRecDepth 100000 in
noncomputable def F_X12_text (s : d_S) : Option (Int × d_S) :=
  if (s.1 65 1) = 4 then
  some ((-1), s)
  else
  d_b2 (F_X12_readText s) (fun v1 s2 => d_l (d_si s2 64 5 v1) (fun s3 => if (s3.1 64 5) = 0 then
  F_X12_text_j36 (-1) s3
  else
  F_X12_text_j36 (s3.1 64 8) s3))
set_option maxRecDepth 100000 in
theorem D_X12_text {t : Nat → Option p_C} {h : p_H} {s : d_S} {r : Int × d_S} (hF : F_X12_text s = some r) (hH : d_V t h s) : p_wp p_GT p_MT 14 m_X12_text 0 (lv_args 0 [.ref 64]) [] h (d_QI t r) := by
  unfold F_X12_text at hF
  refine dw_aln rfl rfl (dw_gr rfl rfl rfl hH d_c64_0 (dw_ic rfl (dw_ald rfl hH d_a65 rfl (by decide) (by decide) (d_rl rfl) (k := 1) rfl (dw_ic rfl (?_)))))
  refine d_if hF (fun q hF => ?_) (fun q hF => ?_)
  · refine dw_ne_y rfl (u := 12) rfl hH.r (d_rl rfl) q ?_
    exact dw_ic rfl (dw_rI rfl rfl (d_rl rfl) hH hF)
  · refine dw_ne_n rfl (u := 12) rfl hH.r (d_rl rfl) q ?_
    refine dw_aln rfl rfl (dw_aln rfl rfl (dw_vI hF rfl (d_vir (n := 1) rfl rfl rfl rfl rfl hH d_c64_0 rfl) rfl rfl rfl (dc := 13) (fun _ _ e => D_X12_readText e hH) (fun v1 s2 h2 hH2 r_v1 hF => dw_pi (k := 5) rfl rfl rfl rfl hH2 d_c64_5 r_v1 (by decide) hF (fun s3 h3 hH3 hF => dw_aln rfl rfl (dw_aln rfl rfl (dw_gi (k := 5) rfl rfl rfl hH3 d_c64_5 (?_)))))))
    refine d_if hF (fun q hF => ?_) (fun q hF => ?_)
    · refine dw_zne_y rfl (u := 32) rfl hH3.r q ?_
      refine dw_ic rfl (dw_go rfl (u := 36) rfl (?_))
      exact D_X12_text_j36 hF hH3 rfl (d_rl rfl)
    · refine dw_zne_n rfl (u := 32) rfl hH3.r q ?_
      refine dw_aln rfl rfl (dw_gi (k := 8) rfl rfl rfl hH3 d_c64_8 (?_))
      exact D_X12_text_j36 hF hH3 rfl hH3.r
set_option maxRecDepth 100000 in
noncomputable def F_X3_hasRoom (s : d_S) (x1 : Int) : Option (Int) :=
  if 300 < (d_w ((s.1 43 1) + x1)) then
  some 0
  else
  some 1
set_option maxRecDepth 100000 in
theorem D_X3_hasRoom {t : Nat → Option p_C} {h : p_H} {s : d_S} {x1 : Int} {r : Int} (hF : F_X3_hasRoom s x1 = some r) (hH : d_V t h s) (r_x1 : d_R x1) : p_wp p_GT p_MT 0 m_X3_hasRoom 0 (lv_args 0 [.ref 43, .int (Int32.ofInt x1)]) [] h (d_QB h r) := by
  unfold F_X3_hasRoom at hF
  refine dw_aln rfl rfl (dw_gi (k := 1) rfl rfl rfl hH d_c43_1 (dw_iln rfl rfl (dw_add rfl (dw_sp rfl rfl (dw_w2 (?_))))))
  refine d_if hF (fun q hF => ?_) (fun q hF => ?_)
  · refine dw_gt_y rfl (u := 16) rfl d_R_w (d_rl rfl) q ?_
    exact dw_ic rfl (dw_rB rfl rfl (Or.inl rfl) hF)
  · refine dw_gt_n rfl (u := 16) rfl d_R_w (d_rl rfl) q ?_
    exact dw_ic rfl (dw_go rfl (u := 17) rfl (dw_rB rfl rfl (Or.inr rfl) hF))
set_option maxRecDepth 100000 in
noncomputable def F_X3_append_l3_b (rec : Int → Int → d_S → Option (d_S)) (x1 : Int) (x2 : Int) (s : d_S) : Option (d_S) :=
  if x2 < 0 then
  some s
  else
  if (s.1 43 1) < 300 then
  d_g (0 ≤ (s.1 43 1) ∧ (s.1 43 1) < 300) (d_l (d_si s 44 (((s.1 43 1)).toNat) (d_b8 (d_shr x1 x2))) (fun s2 => d_l (d_si s2 43 1 (d_w ((s2.1 43 1) + 1))) (fun s3 => rec x1 (d_w (x2 + (-8))) s3)))
  else
  some s
set_option maxRecDepth 100000 in
noncomputable def F_X3_append_l3 : Nat → Int → Int → d_S → Option (d_S)
  | 0 => fun _ _ _ => none
  | n + 1 => F_X3_append_l3_b (F_X3_append_l3 n)
set_option maxRecDepth 100000 in
theorem D_X3_append_l3 {t : Nat → Option p_C} {r : d_S} : ∀ (n : Nat) {x1 : Int} {x2 : Int} {ls : p_Ls} {s : d_S} {h : p_H}, F_X3_append_l3 n x1 x2 s = some r → d_V t h s → p_lk 0 ls = some (.ref 43) → d_R x1 → p_lk 1 ls = some (.int (Int32.ofInt x1)) → d_R x2 → p_lk 2 ls = some (.int (Int32.ofInt x2)) → p_wp p_GT p_MT 0 m_X3_append 3 ls [] h (d_QV t r) := by
  intro n
  induction n with
  | zero =>
    intro x1 x2 ls s h hF hH l0 r_x1 l1 r_x2 l2
    cases (show (none : Option (d_S)) = some r from hF)
  | succ n ih =>
    intro x1 x2 ls s h hF hH l0 r_x1 l1 r_x2 l2
    have hF : F_X3_append_l3_b (F_X3_append_l3 n) x1 x2 s = some r := hF
    unfold F_X3_append_l3_b at hF
    refine dw_iln rfl l2 (?_)
    refine d_if hF (fun q hF => ?_) (fun q hF => ?_)
    · refine dw_zlt_y rfl (u := 46) rfl r_x2 q ?_
      exact dw_rV rfl rfl hH hF
    · refine dw_zlt_n rfl (u := 46) rfl r_x2 q ?_
      refine dw_aln rfl l0 (dw_gi (k := 1) rfl rfl rfl hH d_c43_1 (dw_sp rfl rfl (?_)))
      refine d_if hF (fun q hF => ?_) (fun q hF => ?_)
      · refine dw_ge_y rfl (u := 46) rfl hH.r (d_rl rfl) q ?_
        refine dw_aln rfl l0 (dw_gr rfl rfl rfl hH d_c43_0 (dw_aln rfl l0 (dw_gi (k := 1) rfl rfl rfl hH d_c43_1 (dw_iln rfl l1 (dw_iln rfl l2 (dw_shr rfl (dw_i2b rfl (d_gd hF (fun g1 hF => dw_bst1 rfl hH d_a44 g1.1 g1.2 hH.r rfl d_b8_R.2 hF (fun s2 h2 hH2 hF => ?_))))))))))
        refine dw_aln rfl l0 (dw_dupr rfl (dw_gi (k := 1) rfl rfl rfl hH2 d_c43_1 (dw_ic rfl (dw_add rfl (dw_w1 (dw_pi (k := 1) rfl rfl rfl rfl hH2 d_c43_1 d_R_w (by decide) hF (fun s3 h3 hH3 hF => dw_ii rfl l2 rfl (dw_go rfl (u := 3) rfl (?_)))))))))
        exact ih hF hH3 (d_s1 l0 rfl (by decide)) r_x1 (d_s1 l1 rfl (by decide)) d_R_w p_lk_s1
      · refine dw_ge_n rfl (u := 46) rfl hH.r (d_rl rfl) q ?_
        exact dw_rV rfl rfl hH hF
set_option maxRecDepth 100000 in
noncomputable def F_X3_append (s : d_S) (x1 : Int) : Option (d_S) :=
  F_X3_append_l3 d_N x1 24 s
set_option maxRecDepth 100000 in
theorem D_X3_append {t : Nat → Option p_C} {h : p_H} {s : d_S} {x1 : Int} {r : d_S} (hF : F_X3_append s x1 = some r) (hH : d_V t h s) (r_x1 : d_R x1) : p_wp p_GT p_MT 0 m_X3_append 0 (lv_args 0 [.ref 43, .int (Int32.ofInt x1)]) [] h (d_QV t r) := by
  unfold F_X3_append at hF
  refine dw_bp rfl rfl (dw_isn rfl rfl (?_))
  exact D_X3_append_l3 _ hF hH (d_s1 rfl rfl (by decide)) r_x1 (d_s1 rfl rfl (by decide)) (d_rl rfl) p_lk_s1

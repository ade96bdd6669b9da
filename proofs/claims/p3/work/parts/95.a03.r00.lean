set_option maxRecDepth 100000 in
noncomputable def F_X12_bits_l4_b (rec : Int → Int → Int → Option (Int)) (x0 : Int) (x1 : Int) (x2 : Int) : Option (Int) :=
  if x2 < 12 then
  d_l (d_w (x1 + (d_and (d_shr x0 x2) 1))) (fun z1 => rec x0 z1 (d_w (x2 + 1)))
  else
  some x1
set_option maxRecDepth 100000 in
noncomputable def F_X12_bits_l4 : Nat → Int → Int → Int → Option (Int)
  | 0 => fun _ _ _ => none
  | n + 1 => F_X12_bits_l4_b (F_X12_bits_l4 n)
set_option maxRecDepth 100000 in
theorem D_X12_bits_l4 {h : p_H} {r : Int} : ∀ (n : Nat) {x0 : Int} {x1 : Int} {x2 : Int} {ls : p_Ls}, F_X12_bits_l4 n x0 x1 x2 = some r → d_R x0 → p_lk 0 ls = some (.int (Int32.ofInt x0)) → d_R x1 → p_lk 1 ls = some (.int (Int32.ofInt x1)) → d_R x2 → p_lk 2 ls = some (.int (Int32.ofInt x2)) → p_wp p_GT p_MT 0 m_X12_bits 4 ls [] h (d_QP h r) := by
  intro n
  induction n with
  | zero =>
    intro x0 x1 x2 ls hF r_x0 l0 r_x1 l1 r_x2 l2
    cases (show (none : Option (Int)) = some r from hF)
  | succ n ih =>
    intro x0 x1 x2 ls hF r_x0 l0 r_x1 l1 r_x2 l2
    have hF : F_X12_bits_l4_b (F_X12_bits_l4 n) x0 x1 x2 = some r := hF
    unfold F_X12_bits_l4_b at hF
    refine dw_iln rfl l2 (dw_bp rfl rfl (?_))
    refine d_if hF (fun q hF => ?_) (fun q hF => ?_)
    · refine dw_ge_y rfl (u := 24) rfl r_x2 (d_rl rfl) q ?_
      refine dw_iln rfl l1 (dw_iln rfl l0 (dw_iln rfl l2 (dw_shr rfl (dw_ic rfl (dw_and rfl (dw_add rfl (dw_w1 (dw_nm hF d_R_w (fun z1 r_z1 hF => dw_isn rfl rfl (?_))))))))))
      refine dw_ii rfl (d_s1 l2 rfl (by decide)) rfl (dw_go rfl (u := 4) rfl (?_))
      exact ih hF r_x0 (d_s1 (d_s1 l0 rfl (by decide)) rfl (by decide)) r_z1 (d_s1 p_lk_s1 rfl (by decide)) d_R_w p_lk_s1
    · refine dw_ge_n rfl (u := 24) rfl r_x2 (d_rl rfl) q ?_
      exact dw_iln rfl l1 (dw_rP rfl rfl r_x1 hF)
set_option maxRecDepth 100000 in
noncomputable def F_X12_bits (x0 : Int) : Option (Int) :=
  F_X12_bits_l4 d_N x0 0 0
set_option maxRecDepth 100000 in
theorem D_X12_bits {h : p_H} {x0 : Int} {r : Int} (hF : F_X12_bits x0 = some r) (r_x0 : d_R x0) : p_wp p_GT p_MT 0 m_X12_bits 0 (lv_args 0 [.int (Int32.ofInt x0)]) [] h (d_QP h r) := by
  unfold F_X12_bits at hF
  refine dw_ic rfl (dw_isn rfl rfl (dw_ic rfl (dw_isn rfl rfl (?_))))
  exact D_X12_bits_l4 _ hF r_x0 (d_s1 (d_s1 rfl rfl (by decide)) rfl (by decide)) (d_rl rfl) (d_s1 p_lk_s1 rfl (by decide)) (d_rl rfl) p_lk_s1
set_option maxRecDepth 100000 in
noncomputable def F_X12_across (s : d_S) : Option (Int) :=
  d_b (F_X12_bits (s.1 65 14)) (fun v1 => some (d_w (v1 + 1)))
set_option maxRecDepth 100000 in
theorem D_X12_across {t : Nat → Option p_C} {h : p_H} {s : d_S} {r : Int} (hF : F_X12_across s = some r) (hH : d_V t h s) : p_wp p_GT p_MT 1 m_X12_across 0 (lv_args 0 [.ref 64]) [] h (d_QP h r) := by
  unfold F_X12_across at hF
  exact dw_aln rfl rfl (dw_gr rfl rfl rfl hH d_c64_0 (dw_bp rfl rfl (dw_ald rfl hH d_a65 rfl (by decide) (by decide) (d_rl rfl) (k := 14) rfl (dw_sP hF rfl rfl rfl rfl rfl (dc := 0) (fun _ e => D_X12_bits e hH.r) (fun v1 r_v1 hF => dw_ic rfl (dw_add rfl (dw_w1 (dw_rP rfl rfl d_R_w hF))))))))
set_option maxRecDepth 100000 in
noncomputable def F_X12_blocks (s : d_S) : Option (Int) :=
  d_b (F_X12_across s) (fun v1 => d_b (F_X12_bits (s.1 65 15)) (fun v2 => some (d_w (v1 * (v2 + 1)))))
set_option maxRecDepth 100000 in
theorem D_X12_blocks {t : Nat → Option p_C} {h : p_H} {s : d_S} {r : Int} (hF : F_X12_blocks s = some r) (hH : d_V t h s) : p_wp p_GT p_MT 2 m_X12_blocks 0 (lv_args 0 [.ref 64]) [] h (d_QP h r) := by
  unfold F_X12_blocks at hF
  refine dw_aln rfl rfl (dw_vP hF rfl (d_vir (n := 1) rfl rfl rfl rfl rfl hH d_c64_0 rfl) rfl rfl rfl (dc := 1) (fun _ e => D_X12_across e hH) (fun v1 r_v1 hF => dw_aln rfl rfl (dw_gr rfl rfl rfl hH d_c64_0 (dw_bp rfl rfl (dw_ald rfl hH d_a65 rfl (by decide) (by decide) (d_rl rfl) (k := 15) rfl (dw_sP hF rfl rfl rfl rfl rfl (dc := 0) (fun _ e => D_X12_bits e hH.r) (fun v2 r_v2 hF => dw_ic rfl (dw_add rfl (dw_mul rfl (?_))))))))))
  exact dw_w1 (dw_rP rfl rfl d_R_w hF)
set_option maxRecDepth 100000 in
noncomputable def F_X12_isIn (x0 : Int) (x1 : Int) (x2 : Int) : Option (Int) :=
  if x0 < x1 then
  some 0
  else
  if x2 < x0 then
  some 0
  else
  some 1
set_option maxRecDepth 100000 in
theorem D_X12_isIn {h : p_H} {x0 : Int} {x1 : Int} {x2 : Int} {r : Int} (hF : F_X12_isIn x0 x1 x2 = some r) (r_x0 : d_R x0) (r_x1 : d_R x1) (r_x2 : d_R x2) : p_wp p_GT p_MT 0 m_X12_isIn 0 (lv_args 0 [.int (Int32.ofInt x0), .int (Int32.ofInt x1), .int (Int32.ofInt x2)]) [] h (d_QB h r) := by
  unfold F_X12_isIn at hF
  refine dw_iln rfl rfl (dw_iln rfl rfl (?_))
  refine d_if hF (fun q hF => ?_) (fun q hF => ?_)
  · refine dw_lt_y rfl (u := 14) rfl r_x0 r_x1 q ?_
    exact dw_ic rfl (dw_rB rfl rfl (Or.inl rfl) hF)
  · refine dw_lt_n rfl (u := 14) rfl r_x0 r_x1 q ?_
    refine dw_iln rfl rfl (dw_iln rfl rfl (?_))
    refine d_if hF (fun q hF => ?_) (fun q hF => ?_)
    · refine dw_gt_y rfl (u := 14) rfl r_x0 r_x2 q ?_
      exact dw_ic rfl (dw_rB rfl rfl (Or.inl rfl) hF)
    · refine dw_gt_n rfl (u := 14) rfl r_x0 r_x2 q ?_
      exact dw_ic rfl (dw_go rfl (u := 15) rfl (dw_rB rfl rfl (Or.inr rfl) hF))
set_option maxRecDepth 100000 in
noncomputable def F_X12_isBlock (s : d_S) (x1 : Int) : Option (Int) :=
  d_b (F_X12_blocks s) (fun v1 => d_b (F_X12_isIn x1 0 (d_w (v1 - 1))) (fun v2 => some v2))
set_option maxRecDepth 100000 in
theorem D_X12_isBlock {t : Nat → Option p_C} {h : p_H} {s : d_S} {x1 : Int} {r : Int} (hF : F_X12_isBlock s x1 = some r) (hH : d_V t h s) (r_x1 : d_R x1) : p_wp p_GT p_MT 3 m_X12_isBlock 0 (lv_args 0 [.ref 64, .int (Int32.ofInt x1)]) [] h (d_QB h r) := by
  unfold F_X12_isBlock at hF
  exact dw_iln rfl rfl (dw_ic rfl (dw_aln rfl rfl (dw_vP hF rfl (d_vir (n := 1) rfl rfl rfl rfl rfl hH d_c64_0 rfl) rfl rfl rfl (dc := 2) (fun _ e => D_X12_blocks e hH) (fun v1 r_v1 hF => dw_ic rfl (dw_sub rfl (dw_w1 (dw_sB hF rfl rfl rfl rfl rfl (dc := 0) (fun _ e => D_X12_isIn e r_x1 (d_rl rfl) d_R_w) (fun v2 r_v2 hF => dw_rB rfl rfl r_v2 hF))))))))
set_option maxRecDepth 100000 in
noncomputable def F_X12_partOf (x0 : Int) (x1 : Int) : Option (Int) :=
  d_b (F_X12_bits (d_and x0 ((d_shl 1 x1) - 1))) (fun v1 => some v1)
set_option maxRecDepth 100000 in
theorem D_X12_partOf {h : p_H} {x0 : Int} {x1 : Int} {r : Int} (hF : F_X12_partOf x0 x1 = some r) (r_x0 : d_R x0) (r_x1 : d_R x1) : p_wp p_GT p_MT 1 m_X12_partOf 0 (lv_args 0 [.int (Int32.ofInt x0), .int (Int32.ofInt x1)]) [] h (d_QP h r) := by
  unfold F_X12_partOf at hF
  exact dw_iln rfl rfl (dw_ic rfl (dw_iln rfl rfl (dw_shl rfl (dw_ic rfl (dw_sub rfl (dw_and rfl (dw_sP hF rfl rfl rfl rfl rfl (dc := 0) (fun _ e => D_X12_bits e d_R_t) (fun v1 r_v1 hF => dw_rP rfl rfl r_v1 hF))))))))
set_option maxRecDepth 100000 in
noncomputable def F_X12_beginOf_l2_b (rec : Int → Int → Int → Option (Int)) (x0 : Int) (x1 : Int) (x2 : Int) : Option (Int) :=
  d_b (F_X12_partOf x0 x2) (fun v1 => if v1 < x1 then
  rec x0 x1 (d_w (x2 + 1))
  else
  some x2)
set_option maxRecDepth 100000 in
noncomputable def F_X12_beginOf_l2 : Nat → Int → Int → Int → Option (Int)
  | 0 => fun _ _ _ => none
  | n + 1 => F_X12_beginOf_l2_b (F_X12_beginOf_l2 n)
set_option maxRecDepth 100000 in
theorem D_X12_beginOf_l2 {h : p_H} {r : Int} : ∀ (n : Nat) {x0 : Int} {x1 : Int} {x2 : Int} {ls : p_Ls}, F_X12_beginOf_l2 n x0 x1 x2 = some r → d_R x0 → p_lk 0 ls = some (.int (Int32.ofInt x0)) → d_R x1 → p_lk 1 ls = some (.int (Int32.ofInt x1)) → d_R x2 → p_lk 2 ls = some (.int (Int32.ofInt x2)) → p_wp p_GT p_MT 2 m_X12_beginOf 2 ls [] h (d_QP h r) := by
  intro n
  induction n with
  | zero =>
    intro x0 x1 x2 ls hF r_x0 l0 r_x1 l1 r_x2 l2
    cases (show (none : Option (Int)) = some r from hF)
  | succ n ih =>
    intro x0 x1 x2 ls hF r_x0 l0 r_x1 l1 r_x2 l2
    have hF : F_X12_beginOf_l2_b (F_X12_beginOf_l2 n) x0 x1 x2 = some r := hF
    unfold F_X12_beginOf_l2_b at hF
    refine dw_iln rfl l0 (dw_iln rfl l2 (dw_sP hF rfl rfl rfl rfl rfl (dc := 1) (fun _ e => D_X12_partOf e r_x0 r_x2) (fun v1 r_v1 hF => dw_iln rfl l1 (?_))))
    refine d_if hF (fun q hF => ?_) (fun q hF => ?_)
    · refine dw_ge_y rfl (u := 17) rfl r_v1 r_x1 q ?_
      refine dw_ii rfl l2 rfl (dw_go rfl (u := 2) rfl (?_))
      exact ih hF r_x0 (d_s1 l0 rfl (by decide)) r_x1 (d_s1 l1 rfl (by decide)) d_R_w p_lk_s1
    · refine dw_ge_n rfl (u := 17) rfl r_v1 r_x1 q ?_
      exact dw_iln rfl l2 (dw_rP rfl rfl r_x2 hF)
set_option maxRecDepth 100000 in
noncomputable def F_X12_beginOf (x0 : Int) (x1 : Int) : Option (Int) :=
  F_X12_beginOf_l2 d_N x0 x1 0
set_option maxRecDepth 100000 in
theorem D_X12_beginOf {h : p_H} {x0 : Int} {x1 : Int} {r : Int} (hF : F_X12_beginOf x0 x1 = some r) (r_x0 : d_R x0) (r_x1 : d_R x1) : p_wp p_GT p_MT 2 m_X12_beginOf 0 (lv_args 0 [.int (Int32.ofInt x0), .int (Int32.ofInt x1)]) [] h (d_QP h r) := by
  unfold F_X12_beginOf at hF
  refine dw_ic rfl (dw_isn rfl rfl (?_))
  exact D_X12_beginOf_l2 _ hF r_x0 (d_s1 rfl rfl (by decide)) r_x1 (d_s1 rfl rfl (by decide)) (d_rl rfl) p_lk_s1
set_option maxRecDepth 100000 in
noncomputable def F_X12_lengthOf_l5_b (rec : Int → Int → Int → Int → Int → Option (Int)) (x0 : Int) (x1 : Int) (x2 : Int) (x3 : Int) (x4 : Int) : Option (Int) :=
  if x4 < x2 then
  d_b (F_X12_partOf x0 x4) (fun v1 => if v1 = x1 then
  rec x0 x1 x2 (d_w (x3 + 1)) (d_w (x4 + 1))
  else
  rec x0 x1 x2 (d_w (x3 + 0)) (d_w (x4 + 1)))
  else
  some x3
set_option maxRecDepth 100000 in
noncomputable def F_X12_lengthOf_l5 : Nat → Int → Int → Int → Int → Int → Option (Int)
  | 0 => fun _ _ _ _ _ => none
  | n + 1 => F_X12_lengthOf_l5_b (F_X12_lengthOf_l5 n)
set_option maxRecDepth 100000 in
theorem D_X12_lengthOf_l5 {h : p_H} {r : Int} : ∀ (n : Nat) {x0 : Int} {x1 : Int} {x2 : Int} {x3 : Int} {x4 : Int} {ls : p_Ls}, F_X12_lengthOf_l5 n x0 x1 x2 x3 x4 = some r → d_R x0 → p_lk 0 ls = some (.int (Int32.ofInt x0)) → d_R x1 → p_lk 1 ls = some (.int (Int32.ofInt x1)) → d_R x2 → p_lk 2 ls = some (.int (Int32.ofInt x2)) → d_R x3 → p_lk 3 ls = some (.int (Int32.ofInt x3)) → d_R x4 → p_lk 4 ls = some (.int (Int32.ofInt x4)) → p_wp p_GT p_MT 2 m_X12_lengthOf 5 ls [] h (d_QP h r) := by
  intro n
  induction n with
  | zero =>
    intro x0 x1 x2 x3 x4 ls hF r_x0 l0 r_x1 l1 r_x2 l2 r_x3 l3 r_x4 l4
    cases (show (none : Option (Int)) = some r from hF)
  | succ n ih =>
    intro x0 x1 x2 x3 x4 ls hF r_x0 l0 r_x1 l1 r_x2 l2 r_x3 l3 r_x4 l4
    have hF : F_X12_lengthOf_l5_b (F_X12_lengthOf_l5 n) x0 x1 x2 x3 x4 = some r := hF
    unfold F_X12_lengthOf_l5_b at hF
    refine dw_il rfl l4 (dw_iln rfl l2 (?_))
    refine d_if hF (fun q hF => ?_) (fun q hF => ?_)
    · refine dw_ge_y rfl (u := 35) rfl r_x4 r_x2 q ?_
      refine dw_iln rfl l3 (dw_iln rfl l0 (dw_il rfl l4 (dw_sP hF rfl rfl rfl rfl rfl (dc := 1) (fun _ e => D_X12_partOf e r_x0 r_x4) (fun v1 r_v1 hF => dw_iln rfl l1 (?_)))))
      refine d_if hF (fun q hF => ?_) (fun q hF => ?_)
      · refine dw_ne_y rfl (u := 26) rfl r_v1 r_x1 q ?_
        refine dw_ic rfl (dw_go rfl (u := 27) rfl (dw_add rfl (dw_w1 (dw_isn rfl rfl (dw_ii rfl (d_s1 l4 rfl (by decide)) rfl (dw_go rfl (u := 5) rfl (?_)))))))
        exact ih hF r_x0 (d_s1 (d_s1 l0 rfl (by decide)) rfl (by decide)) r_x1 (d_s1 (d_s1 l1 rfl (by decide)) rfl (by decide)) r_x2 (d_s1 (d_s1 l2 rfl (by decide)) rfl (by decide)) d_R_w (d_s1 p_lk_s1 rfl (by decide)) d_R_w p_lk_s1
      · refine dw_ne_n rfl (u := 26) rfl r_v1 r_x1 q ?_
        refine dw_ic rfl (dw_add rfl (dw_w1 (dw_isn rfl rfl (dw_ii rfl (d_s1 l4 rfl (by decide)) rfl (dw_go rfl (u := 5) rfl (?_))))))
        exact ih hF r_x0 (d_s1 (d_s1 l0 rfl (by decide)) rfl (by decide)) r_x1 (d_s1 (d_s1 l1 rfl (by decide)) rfl (by decide)) r_x2 (d_s1 (d_s1 l2 rfl (by decide)) rfl (by decide)) d_R_w (d_s1 p_lk_s1 rfl (by decide)) d_R_w p_lk_s1
    · refine dw_ge_n rfl (u := 35) rfl r_x4 r_x2 q ?_
      exact dw_iln rfl l3 (dw_rP rfl rfl r_x3 hF)
set_option maxRecDepth 100000 in
noncomputable def F_X12_lengthOf (x0 : Int) (x1 : Int) (x2 : Int) : Option (Int) :=
  F_X12_lengthOf_l5 d_N x0 x1 x2 0 0
set_option maxRecDepth 100000 in
theorem D_X12_lengthOf {h : p_H} {x0 : Int} {x1 : Int} {x2 : Int} {r : Int} (hF : F_X12_lengthOf x0 x1 x2 = some r) (r_x0 : d_R x0) (r_x1 : d_R x1) (r_x2 : d_R x2) : p_wp p_GT p_MT 2 m_X12_lengthOf 0 (lv_args 0 [.int (Int32.ofInt x0), .int (Int32.ofInt x1), .int (Int32.ofInt x2)]) [] h (d_QP h r) := by
  unfold F_X12_lengthOf at hF
  refine dw_ic rfl (dw_isn rfl rfl (dw_ic rfl (dw_is rfl rfl (?_))))
  exact D_X12_lengthOf_l5 _ hF r_x0 (d_s1 (d_s1 rfl rfl (by decide)) rfl (by decide)) r_x1 (d_s1 (d_s1 rfl rfl (by decide)) rfl (by decide)) r_x2 (d_s1 (d_s1 rfl rfl (by decide)) rfl (by decide)) (d_rl rfl) (d_s1 p_lk_s1 rfl (by decide)) (d_rl rfl) p_lk_s1
set_option maxRecDepth 100000 in
noncomputable def F_X12_leftOf (s : d_S) (x1 : Int) : Option (Int) :=
  d_b (F_X12_across s) (fun v1 => d_g (¬ v1 = 0) (d_b (F_X12_beginOf (s.1 65 14) (d_rem x1 v1)) (fun v3 => some v3)))
set_option maxRecDepth 100000 in
theorem D_X12_leftOf {t : Nat → Option p_C} {h : p_H} {s : d_S} {x1 : Int} {r : Int} (hF : F_X12_leftOf s x1 = some r) (hH : d_V t h s) (r_x1 : d_R x1) : p_wp p_GT p_MT 3 m_X12_leftOf 0 (lv_args 0 [.ref 64, .int (Int32.ofInt x1)]) [] h (d_QP h r) := by
  unfold F_X12_leftOf at hF
  refine dw_aln rfl rfl (dw_gr rfl rfl rfl hH d_c64_0 (dw_bp rfl rfl (dw_ald rfl hH d_a65 rfl (by decide) (by decide) (d_rl rfl) (k := 14) rfl (dw_iln rfl rfl (dw_aln rfl rfl (dw_vP hF rfl (d_vir (n := 1) rfl rfl rfl rfl rfl hH d_c64_0 rfl) rfl rfl rfl (dc := 1) (fun _ e => D_X12_across e hH) (fun v1 r_v1 hF => d_gd hF (fun g2 hF => dw_rem rfl r_v1 g2 (dw_sP hF rfl rfl rfl rfl rfl (dc := 2) (fun _ e => D_X12_beginOf e hH.r d_R_t) (fun v3 r_v3 hF => ?_))))))))))
  exact dw_rP rfl rfl r_v3 hF
set_option maxRecDepth 100000 in
noncomputable def F_X12_upperOf (s : d_S) (x1 : Int) : Option (Int) :=
  d_b (F_X12_across s) (fun v1 => d_g (¬ v1 = 0) (d_b (F_X12_beginOf (s.1 65 15) (d_div x1 v1)) (fun v3 => some v3)))
set_option maxRecDepth 100000 in
theorem D_X12_upperOf {t : Nat → Option p_C} {h : p_H} {s : d_S} {x1 : Int} {r : Int} (hF : F_X12_upperOf s x1 = some r) (hH : d_V t h s) (r_x1 : d_R x1) : p_wp p_GT p_MT 3 m_X12_upperOf 0 (lv_args 0 [.ref 64, .int (Int32.ofInt x1)]) [] h (d_QP h r) := by
  unfold F_X12_upperOf at hF
  refine dw_aln rfl rfl (dw_gr rfl rfl rfl hH d_c64_0 (dw_bp rfl rfl (dw_ald rfl hH d_a65 rfl (by decide) (by decide) (d_rl rfl) (k := 15) rfl (dw_iln rfl rfl (dw_aln rfl rfl (dw_vP hF rfl (d_vir (n := 1) rfl rfl rfl rfl rfl hH d_c64_0 rfl) rfl rfl rfl (dc := 1) (fun _ e => D_X12_across e hH) (fun v1 r_v1 hF => d_gd hF (fun g2 hF => dw_div rfl r_v1 g2 (dw_sP hF rfl rfl rfl rfl rfl (dc := 2) (fun _ e => D_X12_beginOf e hH.r d_R_t) (fun v3 r_v3 hF => ?_))))))))))
  exact dw_rP rfl rfl r_v3 hF
set_option maxRecDepth 100000 in
noncomputable def F_X12_wideOf (s : d_S) (x1 : Int) : Option (Int) :=
  d_b (F_X12_across s) (fun v1 => d_g (¬ v1 = 0) (d_b (F_X12_lengthOf (s.1 65 14) (d_rem x1 v1) (s.1 65 16)) (fun v3 => some v3)))
set_option maxRecDepth 100000 in
theorem D_X12_wideOf {t : Nat → Option p_C} {h : p_H} {s : d_S} {x1 : Int} {r : Int} (hF : F_X12_wideOf s x1 = some r) (hH : d_V t h s) (r_x1 : d_R x1) : p_wp p_GT p_MT 3 m_X12_wideOf 0 (lv_args 0 [.ref 64, .int (Int32.ofInt x1)]) [] h (d_QP h r) := by
  unfold F_X12_wideOf at hF
  refine dw_aln rfl rfl (dw_gr rfl rfl rfl hH d_c64_0 (dw_bp rfl rfl (dw_ald rfl hH d_a65 rfl (by decide) (by decide) (d_rl rfl) (k := 14) rfl (dw_iln rfl rfl (dw_aln rfl rfl (dw_vP hF rfl (d_vir (n := 1) rfl rfl rfl rfl rfl hH d_c64_0 rfl) rfl rfl rfl (dc := 1) (fun _ e => D_X12_across e hH) (fun v1 r_v1 hF => d_gd hF (fun g2 hF => dw_rem rfl r_v1 g2 (dw_aln rfl rfl (?_))))))))))
  exact dw_gr rfl rfl rfl hH d_c64_0 (dw_bp rfl rfl (dw_ald rfl hH d_a65 rfl (by decide) (by decide) (d_rl rfl) (k := 16) rfl (dw_sP hF rfl rfl rfl rfl rfl (dc := 2) (fun _ e => D_X12_lengthOf e hH.r d_R_t hH.r) (fun v3 r_v3 hF => dw_rP rfl rfl r_v3 hF))))
set_option maxRecDepth 100000 in
noncomputable def F_X12_highOf (s : d_S) (x1 : Int) : Option (Int) :=
  d_b (F_X12_across s) (fun v1 => d_g (¬ v1 = 0) (d_b (F_X12_lengthOf (s.1 65 15) (d_div x1 v1) (s.1 65 17)) (fun v3 => some v3)))
set_option maxRecDepth 100000 in
theorem D_X12_highOf {t : Nat → Option p_C} {h : p_H} {s : d_S} {x1 : Int} {r : Int} (hF : F_X12_highOf s x1 = some r) (hH : d_V t h s) (r_x1 : d_R x1) : p_wp p_GT p_MT 3 m_X12_highOf 0 (lv_args 0 [.ref 64, .int (Int32.ofInt x1)]) [] h (d_QP h r) := by
  unfold F_X12_highOf at hF
  refine dw_aln rfl rfl (dw_gr rfl rfl rfl hH d_c64_0 (dw_bp rfl rfl (dw_ald rfl hH d_a65 rfl (by decide) (by decide) (d_rl rfl) (k := 15) rfl (dw_iln rfl rfl (dw_aln rfl rfl (dw_vP hF rfl (d_vir (n := 1) rfl rfl rfl rfl rfl hH d_c64_0 rfl) rfl rfl rfl (dc := 1) (fun _ e => D_X12_across e hH) (fun v1 r_v1 hF => d_gd hF (fun g2 hF => dw_div rfl r_v1 g2 (dw_aln rfl rfl (?_))))))))))
  exact dw_gr rfl rfl rfl hH d_c64_0 (dw_bp rfl rfl (dw_ald rfl hH d_a65 rfl (by decide) (by decide) (d_rl rfl) (k := 17) rfl (dw_sP hF rfl rfl rfl rfl rfl (dc := 2) (fun _ e => D_X12_lengthOf e hH.r d_R_t hH.r) (fun v3 r_v3 hF => dw_rP rfl rfl r_v3 hF))))
set_option maxRecDepth 100000 in
noncomputable def F_X12_edgeOf_j57_1 (s : d_S) (x1 : Int) (y0 : Int) : Option (Int) :=
  d_b (F_X12_upperOf s x1) (fun v5 => d_b (F_X12_highOf s x1) (fun v6 => if (d_w (v5 + v6)) = (s.1 65 17) then
  some (d_w ((d_w (y0 + 1)) + 1))
  else
  some (d_w ((d_w (y0 + 1)) + 0))))
set_option maxRecDepth 100000 in
theorem D_X12_edgeOf_j57_1 {t : Nat → Option p_C} {h : p_H} {s : d_S} {x1 : Int} {y0 : Int} {r : Int} {ls : p_Ls} (hF : F_X12_edgeOf_j57_1 s x1 y0 = some r) (hH : d_V t h s) (l0 : p_lk 0 ls = some (.ref 64)) (r_x1 : d_R x1) (l1 : p_lk 1 ls = some (.int (Int32.ofInt x1))) (r_y0 : d_R y0) : p_wp p_GT p_MT 4 m_X12_edgeOf 57 ls [.int (Int32.ofInt 1), .int (Int32.ofInt y0)] h (d_QP h r) := by
  unfold F_X12_edgeOf_j57_1 at hF
  refine dw_add rfl (dw_w1 (dw_isn rfl rfl (dw_iln rfl p_lk_s1 (dw_aln rfl (d_s1 l0 rfl (by decide)) (dw_iln rfl (d_s1 l1 rfl (by decide)) (dw_vP hF rfl (d_vir (n := 2) rfl rfl rfl rfl rfl hH d_c64_0 rfl) rfl rfl rfl (dc := 3) (fun _ e => D_X12_upperOf e hH r_x1) (fun v5 r_v5 hF => dw_aln rfl (d_s1 l0 rfl (by decide)) (dw_iln rfl (d_s1 l1 rfl (by decide)) (dw_vP hF rfl (d_vir (n := 2) rfl rfl rfl rfl rfl hH d_c64_0 rfl) rfl rfl rfl (dc := 3) (fun _ e => D_X12_highOf e hH r_x1) (fun v6 r_v6 hF => ?_))))))))))
  refine dw_add rfl (dw_aln rfl (d_s1 l0 rfl (by decide)) (dw_gr rfl rfl rfl hH d_c64_0 (dw_bp rfl rfl (dw_ald rfl hH d_a65 rfl (by decide) (by decide) (d_rl rfl) (k := 17) rfl (dw_w2 (?_))))))
  refine d_if hF (fun q hF => ?_) (fun q hF => ?_)
  · refine dw_ne_y rfl (u := 85) rfl d_R_w hH.r q ?_
    exact dw_ic rfl (dw_go rfl (u := 86) rfl (dw_add rfl (dw_w1 (dw_rP rfl rfl d_R_w hF))))
  · refine dw_ne_n rfl (u := 85) rfl d_R_w hH.r q ?_
    exact dw_ic rfl (dw_add rfl (dw_w1 (dw_rP rfl rfl d_R_w hF)))
set_option maxRecDepth 100000 in
noncomputable def F_X12_edgeOf_j57_0 (s : d_S) (x1 : Int) (y0 : Int) : Option (Int) :=
  d_b (F_X12_upperOf s x1) (fun v7 => d_b (F_X12_highOf s x1) (fun v8 => if (d_w (v7 + v8)) = (s.1 65 17) then
  some (d_w ((d_w (y0 + 0)) + 1))
  else
  some (d_w ((d_w (y0 + 0)) + 0))))
set_option maxRecDepth 100000 in
theorem D_X12_edgeOf_j57_0 {t : Nat → Option p_C} {h : p_H} {s : d_S} {x1 : Int} {y0 : Int} {r : Int} {ls : p_Ls} (hF : F_X12_edgeOf_j57_0 s x1 y0 = some r) (hH : d_V t h s) (l0 : p_lk 0 ls = some (.ref 64)) (r_x1 : d_R x1) (l1 : p_lk 1 ls = some (.int (Int32.ofInt x1))) (r_y0 : d_R y0) : p_wp p_GT p_MT 4 m_X12_edgeOf 57 ls [.int (Int32.ofInt 0), .int (Int32.ofInt y0)] h (d_QP h r) := by
  unfold F_X12_edgeOf_j57_0 at hF
  refine dw_add rfl (dw_w1 (dw_isn rfl rfl (dw_iln rfl p_lk_s1 (dw_aln rfl (d_s1 l0 rfl (by decide)) (dw_iln rfl (d_s1 l1 rfl (by decide)) (dw_vP hF rfl (d_vir (n := 2) rfl rfl rfl rfl rfl hH d_c64_0 rfl) rfl rfl rfl (dc := 3) (fun _ e => D_X12_upperOf e hH r_x1) (fun v7 r_v7 hF => dw_aln rfl (d_s1 l0 rfl (by decide)) (dw_iln rfl (d_s1 l1 rfl (by decide)) (dw_vP hF rfl (d_vir (n := 2) rfl rfl rfl rfl rfl hH d_c64_0 rfl) rfl rfl rfl (dc := 3) (fun _ e => D_X12_highOf e hH r_x1) (fun v8 r_v8 hF => ?_))))))))))
  refine dw_add rfl (dw_aln rfl (d_s1 l0 rfl (by decide)) (dw_gr rfl rfl rfl hH d_c64_0 (dw_bp rfl rfl (dw_ald rfl hH d_a65 rfl (by decide) (by decide) (d_rl rfl) (k := 17) rfl (dw_w2 (?_))))))
  refine d_if hF (fun q hF => ?_) (fun q hF => ?_)
  · refine dw_ne_y rfl (u := 85) rfl d_R_w hH.r q ?_
    exact dw_ic rfl (dw_go rfl (u := 86) rfl (dw_add rfl (dw_w1 (dw_rP rfl rfl d_R_w hF))))
  · refine dw_ne_n rfl (u := 85) rfl d_R_w hH.r q ?_
    exact dw_ic rfl (dw_add rfl (dw_w1 (dw_rP rfl rfl d_R_w hF)))
set_option maxRecDepth 100000 in
noncomputable def F_X12_edgeOf (s : d_S) (x1 : Int) : Option (Int) :=
  d_b (F_X12_leftOf s x1) (fun v1 => if v1 = 0 then
  d_b (F_X12_upperOf s x1) (fun v2 => if v2 = 0 then
  d_b (F_X12_leftOf s x1) (fun v3 => d_b (F_X12_wideOf s x1) (fun v4 => if (d_w (v3 + v4)) = (s.1 65 16) then
  F_X12_edgeOf_j57_1 s x1 (d_w (1 + 1))
  else
  F_X12_edgeOf_j57_0 s x1 (d_w (1 + 1))))
  else
  d_b (F_X12_leftOf s x1) (fun v9 => d_b (F_X12_wideOf s x1) (fun v10 => if (d_w (v9 + v10)) = (s.1 65 16) then
  F_X12_edgeOf_j57_1 s x1 (d_w (1 + 0))
  else
  F_X12_edgeOf_j57_0 s x1 (d_w (1 + 0)))))
  else
  d_b (F_X12_upperOf s x1) (fun v11 => if v11 = 0 then
  d_b (F_X12_leftOf s x1) (fun v12 => d_b (F_X12_wideOf s x1) (fun v13 => if (d_w (v12 + v13)) = (s.1 65 16) then
  F_X12_edgeOf_j57_1 s x1 (d_w (0 + 1))
  else
  F_X12_edgeOf_j57_0 s x1 (d_w (0 + 1))))
  else
  d_b (F_X12_leftOf s x1) (fun v14 => d_b (F_X12_wideOf s x1) (fun v15 => if (d_w (v14 + v15)) = (s.1 65 16) then
  F_X12_edgeOf_j57_1 s x1 (d_w (0 + 0))
  else
  F_X12_edgeOf_j57_0 s x1 (d_w (0 + 0))))))
set_option maxRecDepth 100000 in
theorem D_X12_edgeOf {t : Nat → Option p_C} {h : p_H} {s : d_S} {x1 : Int} {r : Int} (hF : F_X12_edgeOf s x1 = some r) (hH : d_V t h s) (r_x1 : d_R x1) : p_wp p_GT p_MT 4 m_X12_edgeOf 0 (lv_args 0 [.ref 64, .int (Int32.ofInt x1)]) [] h (d_QP h r) := by
  unfold F_X12_edgeOf at hF
  refine dw_aln rfl rfl (dw_iln rfl rfl (dw_vP hF rfl (d_vir (n := 2) rfl rfl rfl rfl rfl hH d_c64_0 rfl) rfl rfl rfl (dc := 3) (fun _ e => D_X12_leftOf e hH r_x1) (fun v1 r_v1 hF => ?_)))
  refine d_if hF (fun q hF => ?_) (fun q hF => ?_)
  · refine dw_zne_y rfl (u := 12) rfl r_v1 q ?_
    refine dw_ic rfl (dw_go rfl (u := 13) rfl (dw_isn rfl rfl (dw_iln rfl p_lk_s1 (dw_aln rfl (d_s1 rfl rfl (by decide)) (dw_iln rfl (d_s1 rfl rfl (by decide)) (dw_vP hF rfl (d_vir (n := 2) rfl rfl rfl rfl rfl hH d_c64_0 rfl) rfl rfl rfl (dc := 3) (fun _ e => D_X12_upperOf e hH r_x1) (fun v2 r_v2 hF => ?_)))))))
    refine d_if hF (fun q hF => ?_) (fun q hF => ?_)
    · refine dw_zne_y rfl (u := 27) rfl r_v2 q ?_
      refine dw_ic rfl (dw_go rfl (u := 28) rfl (dw_add rfl (dw_w1 (dw_isn rfl rfl (dw_iln rfl p_lk_s1 (dw_aln rfl (d_s1 (d_s1 rfl rfl (by decide)) rfl (by decide)) (dw_iln rfl (d_s1 (d_s1 rfl rfl (by decide)) rfl (by decide)) (dw_vP hF rfl (d_vir (n := 2) rfl rfl rfl rfl rfl hH d_c64_0 rfl) rfl rfl rfl (dc := 3) (fun _ e => D_X12_leftOf e hH r_x1) (fun v3 r_v3 hF => dw_aln rfl (d_s1 (d_s1 rfl rfl (by decide)) rfl (by decide)) (?_))))))))))
      refine dw_iln rfl (d_s1 (d_s1 rfl rfl (by decide)) rfl (by decide)) (dw_vP hF rfl (d_vir (n := 2) rfl rfl rfl rfl rfl hH d_c64_0 rfl) rfl rfl rfl (dc := 3) (fun _ e => D_X12_wideOf e hH r_x1) (fun v4 r_v4 hF => dw_add rfl (dw_aln rfl (d_s1 (d_s1 rfl rfl (by decide)) rfl (by decide)) (dw_gr rfl rfl rfl hH d_c64_0 (dw_bp rfl rfl (dw_ald rfl hH d_a65 rfl (by decide) (by decide) (d_rl rfl) (k := 16) rfl (dw_w2 (?_))))))))
      refine d_if hF (fun q hF => ?_) (fun q hF => ?_)
      · refine dw_ne_y rfl (u := 56) rfl d_R_w hH.r q ?_
        refine dw_ic rfl (dw_go rfl (u := 57) rfl (?_))
        exact D_X12_edgeOf_j57_1 hF hH (d_s1 (d_s1 rfl rfl (by decide)) rfl (by decide)) r_x1 (d_s1 (d_s1 rfl rfl (by decide)) rfl (by decide)) d_R_w
      · refine dw_ne_n rfl (u := 56) rfl d_R_w hH.r q ?_
        refine dw_ic rfl (?_)
        exact D_X12_edgeOf_j57_0 hF hH (d_s1 (d_s1 rfl rfl (by decide)) rfl (by decide)) r_x1 (d_s1 (d_s1 rfl rfl (by decide)) rfl (by decide)) d_R_w
    · refine dw_zne_n rfl (u := 27) rfl r_v2 q ?_
      refine dw_ic rfl (dw_add rfl (dw_w1 (dw_isn rfl rfl (dw_iln rfl p_lk_s1 (dw_aln rfl (d_s1 (d_s1 rfl rfl (by decide)) rfl (by decide)) (dw_iln rfl (d_s1 (d_s1 rfl rfl (by decide)) rfl (by decide)) (dw_vP hF rfl (d_vir (n := 2) rfl rfl rfl rfl rfl hH d_c64_0 rfl) rfl rfl rfl (dc := 3) (fun _ e => D_X12_leftOf e hH r_x1) (fun v9 r_v9 hF => dw_aln rfl (d_s1 (d_s1 rfl rfl (by decide)) rfl (by decide)) (dw_iln rfl (d_s1 (d_s1 rfl rfl (by decide)) rfl (by decide)) (?_))))))))))
      refine dw_vP hF rfl (d_vir (n := 2) rfl rfl rfl rfl rfl hH d_c64_0 rfl) rfl rfl rfl (dc := 3) (fun _ e => D_X12_wideOf e hH r_x1) (fun v10 r_v10 hF => dw_add rfl (dw_aln rfl (d_s1 (d_s1 rfl rfl (by decide)) rfl (by decide)) (dw_gr rfl rfl rfl hH d_c64_0 (dw_bp rfl rfl (dw_ald rfl hH d_a65 rfl (by decide) (by decide) (d_rl rfl) (k := 16) rfl (dw_w2 (?_)))))))
      refine d_if hF (fun q hF => ?_) (fun q hF => ?_)
      · refine dw_ne_y rfl (u := 56) rfl d_R_w hH.r q ?_
        refine dw_ic rfl (dw_go rfl (u := 57) rfl (?_))
        exact D_X12_edgeOf_j57_1 hF hH (d_s1 (d_s1 rfl rfl (by decide)) rfl (by decide)) r_x1 (d_s1 (d_s1 rfl rfl (by decide)) rfl (by decide)) d_R_w
      · refine dw_ne_n rfl (u := 56) rfl d_R_w hH.r q ?_
        refine dw_ic rfl (?_)
        exact D_X12_edgeOf_j57_0 hF hH (d_s1 (d_s1 rfl rfl (by decide)) rfl (by decide)) r_x1 (d_s1 (d_s1 rfl rfl (by decide)) rfl (by decide)) d_R_w
  · refine dw_zne_n rfl (u := 12) rfl r_v1 q ?_
    refine dw_ic rfl (dw_isn rfl rfl (dw_iln rfl p_lk_s1 (dw_aln rfl (d_s1 rfl rfl (by decide)) (dw_iln rfl (d_s1 rfl rfl (by decide)) (dw_vP hF rfl (d_vir (n := 2) rfl rfl rfl rfl rfl hH d_c64_0 rfl) rfl rfl rfl (dc := 3) (fun _ e => D_X12_upperOf e hH r_x1) (fun v11 r_v11 hF => ?_))))))
    refine d_if hF (fun q hF => ?_) (fun q hF => ?_)
    · refine dw_zne_y rfl (u := 27) rfl r_v11 q ?_
      refine dw_ic rfl (dw_go rfl (u := 28) rfl (dw_add rfl (dw_w1 (dw_isn rfl rfl (dw_iln rfl p_lk_s1 (dw_aln rfl (d_s1 (d_s1 rfl rfl (by decide)) rfl (by decide)) (dw_iln rfl (d_s1 (d_s1 rfl rfl (by decide)) rfl (by decide)) (dw_vP hF rfl (d_vir (n := 2) rfl rfl rfl rfl rfl hH d_c64_0 rfl) rfl rfl rfl (dc := 3) (fun _ e => D_X12_leftOf e hH r_x1) (fun v12 r_v12 hF => dw_aln rfl (d_s1 (d_s1 rfl rfl (by decide)) rfl (by decide)) (?_))))))))))
      refine dw_iln rfl (d_s1 (d_s1 rfl rfl (by decide)) rfl (by decide)) (dw_vP hF rfl (d_vir (n := 2) rfl rfl rfl rfl rfl hH d_c64_0 rfl) rfl rfl rfl (dc := 3) (fun _ e => D_X12_wideOf e hH r_x1) (fun v13 r_v13 hF => dw_add rfl (dw_aln rfl (d_s1 (d_s1 rfl rfl (by decide)) rfl (by decide)) (dw_gr rfl rfl rfl hH d_c64_0 (dw_bp rfl rfl (dw_ald rfl hH d_a65 rfl (by decide) (by decide) (d_rl rfl) (k := 16) rfl (dw_w2 (?_))))))))
      refine d_if hF (fun q hF => ?_) (fun q hF => ?_)
      · refine dw_ne_y rfl (u := 56) rfl d_R_w hH.r q ?_
        refine dw_ic rfl (dw_go rfl (u := 57) rfl (?_))
        exact D_X12_edgeOf_j57_1 hF hH (d_s1 (d_s1 rfl rfl (by decide)) rfl (by decide)) r_x1 (d_s1 (d_s1 rfl rfl (by decide)) rfl (by decide)) d_R_w
      · refine dw_ne_n rfl (u := 56) rfl d_R_w hH.r q ?_
        refine dw_ic rfl (?_)
        exact D_X12_edgeOf_j57_0 hF hH (d_s1 (d_s1 rfl rfl (by decide)) rfl (by decide)) r_x1 (d_s1 (d_s1 rfl rfl (by decide)) rfl (by decide)) d_R_w
    · refine dw_zne_n rfl (u := 27) rfl r_v11 q ?_
      refine dw_ic rfl (dw_add rfl (dw_w1 (dw_isn rfl rfl (dw_iln rfl p_lk_s1 (dw_aln rfl (d_s1 (d_s1 rfl rfl (by decide)) rfl (by decide)) (dw_iln rfl (d_s1 (d_s1 rfl rfl (by decide)) rfl (by decide)) (dw_vP hF rfl (d_vir (n := 2) rfl rfl rfl rfl rfl hH d_c64_0 rfl) rfl rfl rfl (dc := 3) (fun _ e => D_X12_leftOf e hH r_x1) (fun v14 r_v14 hF => dw_aln rfl (d_s1 (d_s1 rfl rfl (by decide)) rfl (by decide)) (dw_iln rfl (d_s1 (d_s1 rfl rfl (by decide)) rfl (by decide)) (?_))))))))))
      refine dw_vP hF rfl (d_vir (n := 2) rfl rfl rfl rfl rfl hH d_c64_0 rfl) rfl rfl rfl (dc := 3) (fun _ e => D_X12_wideOf e hH r_x1) (fun v15 r_v15 hF => dw_add rfl (dw_aln rfl (d_s1 (d_s1 rfl rfl (by decide)) rfl (by decide)) (dw_gr rfl rfl rfl hH d_c64_0 (dw_bp rfl rfl (dw_ald rfl hH d_a65 rfl (by decide) (by decide) (d_rl rfl) (k := 16) rfl (dw_w2 (?_)))))))
      refine d_if hF (fun q hF => ?_) (fun q hF => ?_)
      · refine dw_ne_y rfl (u := 56) rfl d_R_w hH.r q ?_
        refine dw_ic rfl (dw_go rfl (u := 57) rfl (?_))
        exact D_X12_edgeOf_j57_1 hF hH (d_s1 (d_s1 rfl rfl (by decide)) rfl (by decide)) r_x1 (d_s1 (d_s1 rfl rfl (by decide)) rfl (by decide)) d_R_w
      · refine dw_ne_n rfl (u := 56) rfl d_R_w hH.r q ?_
        refine dw_ic rfl (?_)
        exact D_X12_edgeOf_j57_0 hF hH (d_s1 (d_s1 rfl rfl (by decide)) rfl (by decide)) r_x1 (d_s1 (d_s1 rfl rfl (by decide)) rfl (by decide)) d_R_w
set_option maxRecDepth 100000 in
noncomputable def F_X12_get (s : d_S) (x1 : Int) (x2 : Int) : Option (Int) :=
  d_g (0 ≤ (d_w ((20 + (3 * x1)) + x2)) ∧ (d_w ((20 + (3 * x1)) + x2)) < 2517) (some (s.1 65 (((d_w ((20 + (3 * x1)) + x2))).toNat)))
set_option maxRecDepth 100000 in
theorem D_X12_get {t : Nat → Option p_C} {h : p_H} {s : d_S} {x1 : Int} {x2 : Int} {r : Int} (hF : F_X12_get s x1 x2 = some r) (hH : d_V t h s) (r_x1 : d_R x1) (r_x2 : d_R x2) : p_wp p_GT p_MT 0 m_X12_get 0 (lv_args 0 [.ref 64, .int (Int32.ofInt x1), .int (Int32.ofInt x2)]) [] h (d_QP h r) := by
  unfold F_X12_get at hF
  refine dw_aln rfl rfl (dw_gr rfl rfl rfl hH d_c64_0 (dw_bp rfl rfl (dw_ic rfl (dw_iln rfl rfl (dw_mul rfl (dw_add rfl (dw_iln rfl rfl (dw_add rfl (dw_w1 (?_))))))))))
  exact d_gd hF (fun g1 hF => dw_ald rfl hH d_a65 rfl g1.1 g1.2 d_R_w rfl (dw_rP rfl rfl hH.r hF))
set_option maxRecDepth 100000 in
noncomputable def F_X12_set (s : d_S) (x1 : Int) (x2 : Int) (x3 : Int) : Option (d_S) :=
  d_g (0 ≤ (d_w ((20 + (3 * x1)) + x2)) ∧ (d_w ((20 + (3 * x1)) + x2)) < 2517) (d_l (d_si s 65 (((d_w ((20 + (3 * x1)) + x2))).toNat) x3) (fun s2 => some s2))
set_option maxRecDepth 100000 in
theorem D_X12_set {t : Nat → Option p_C} {h : p_H} {s : d_S} {x1 : Int} {x2 : Int} {x3 : Int} {r : d_S} (hF : F_X12_set s x1 x2 x3 = some r) (hH : d_V t h s) (r_x1 : d_R x1) (r_x2 : d_R x2) (r_x3 : d_R x3) : p_wp p_GT p_MT 0 m_X12_set 0 (lv_args 0 [.ref 64, .int (Int32.ofInt x1), .int (Int32.ofInt x2), .int (Int32.ofInt x3)]) [] h (d_QV t r) := by
  unfold F_X12_set at hF
  refine dw_aln rfl rfl (dw_gr rfl rfl rfl hH d_c64_0 (dw_bp rfl rfl (dw_ic rfl (dw_iln rfl rfl (dw_mul rfl (dw_add rfl (dw_iln rfl rfl (dw_add rfl (dw_iln rfl rfl (?_))))))))))
  exact dw_w2 (d_gd hF (fun g1 hF => dw_ast rfl hH d_a65 g1.1 g1.2 d_R_w rfl r_x3 hF (fun s2 h2 hH2 hF => dw_rV rfl rfl hH2 hF)))
set_option maxRecDepth 100000 in
noncomputable def F_X12_isSold (s : d_S) (x1 : Int) : Option (Int) :=
  d_b (F_X12_get s x1 2) (fun v1 => if v1 = 1 then
  some 1
  else
  some 0)
set_option maxRecDepth 100000 in
theorem D_X12_isSold {t : Nat → Option p_C} {h : p_H} {s : d_S} {x1 : Int} {r : Int} (hF : F_X12_isSold s x1 = some r) (hH : d_V t h s) (r_x1 : d_R x1) : p_wp p_GT p_MT 1 m_X12_isSold 0 (lv_args 0 [.ref 64, .int (Int32.ofInt x1)]) [] h (d_QB h r) := by
  unfold F_X12_isSold at hF
  refine dw_aln rfl rfl (dw_iln rfl rfl (dw_ic rfl (dw_vP hF rfl (d_vir (n := 3) rfl rfl rfl rfl rfl hH d_c64_0 rfl) rfl rfl rfl (dc := 0) (fun _ e => D_X12_get e hH r_x1 (d_rl rfl)) (fun v1 r_v1 hF => dw_ic rfl (?_)))))
  refine d_if hF (fun q hF => ?_) (fun q hF => ?_)
  · refine dw_ne_y rfl (u := 14) rfl r_v1 (d_rl rfl) q ?_
    exact dw_ic rfl (dw_go rfl (u := 15) rfl (dw_rB rfl rfl (Or.inr rfl) hF))
  · refine dw_ne_n rfl (u := 14) rfl r_v1 (d_rl rfl) q ?_
    exact dw_ic rfl (dw_rB rfl rfl (Or.inl rfl) hF)
set_option maxRecDepth 100000 in
noncomputable def F_X12_isWater (s : d_S) (x1 : Int) : Option (Int) :=
  d_b (F_X12_get s x1 1) (fun v1 => if v1 = 100 then
  some 1
  else
  some 0)
set_option maxRecDepth 100000 in
theorem D_X12_isWater {t : Nat → Option p_C} {h : p_H} {s : d_S} {x1 : Int} {r : Int} (hF : F_X12_isWater s x1 = some r) (hH : d_V t h s) (r_x1 : d_R x1) : p_wp p_GT p_MT 1 m_X12_isWater 0 (lv_args 0 [.ref 64, .int (Int32.ofInt x1)]) [] h (d_QB h r) := by
  unfold F_X12_isWater at hF
  refine dw_aln rfl rfl (dw_iln rfl rfl (dw_ic rfl (dw_vP hF rfl (d_vir (n := 3) rfl rfl rfl rfl rfl hH d_c64_0 rfl) rfl rfl rfl (dc := 0) (fun _ e => D_X12_get e hH r_x1 (d_rl rfl)) (fun v1 r_v1 hF => dw_bp rfl rfl (?_)))))
  refine d_if hF (fun q hF => ?_) (fun q hF => ?_)
  · refine dw_ne_y rfl (u := 15) rfl r_v1 (d_rl rfl) q ?_
    exact dw_ic rfl (dw_go rfl (u := 16) rfl (dw_rB rfl rfl (Or.inr rfl) hF))
  · refine dw_ne_n rfl (u := 15) rfl r_v1 (d_rl rfl) q ?_
    exact dw_ic rfl (dw_rB rfl rfl (Or.inl rfl) hF)
set_option maxRecDepth 100000 in
noncomputable def F_X12_isSight (s : d_S) (x1 : Int) : Option (Int) :=
  d_b (F_X12_isIn x1 0 (d_w ((s.1 65 0) - 1))) (fun v1 => some v1)
set_option maxRecDepth 100000 in
theorem D_X12_isSight {t : Nat → Option p_C} {h : p_H} {s : d_S} {x1 : Int} {r : Int} (hF : F_X12_isSight s x1 = some r) (hH : d_V t h s) (r_x1 : d_R x1) : p_wp p_GT p_MT 1 m_X12_isSight 0 (lv_args 0 [.ref 64, .int (Int32.ofInt x1)]) [] h (d_QB h r) := by
  unfold F_X12_isSight at hF
  refine dw_iln rfl rfl (dw_ic rfl (dw_aln rfl rfl (dw_gr rfl rfl rfl hH d_c64_0 (dw_ic rfl (dw_ald rfl hH d_a65 rfl (by decide) (by decide) (d_rl rfl) (k := 0) rfl (dw_ic rfl (dw_sub rfl (dw_w1 (dw_sB hF rfl rfl rfl rfl rfl (dc := 0) (fun _ e => D_X12_isIn e r_x1 (d_rl rfl) d_R_w) (fun v1 r_v1 hF => ?_))))))))))
  exact dw_rB rfl rfl r_v1 hF
set_option maxRecDepth 100000 in
noncomputable def F_X12_sightOf (s : d_S) (x1 : Int) (x2 : Int) : Option (Int) :=
  d_g (0 ≤ (d_w ((212 + (6 * x1)) + x2)) ∧ (d_w ((212 + (6 * x1)) + x2)) < 2517) (some (s.1 65 (((d_w ((212 + (6 * x1)) + x2))).toNat)))
set_option maxRecDepth 100000 in
theorem D_X12_sightOf {t : Nat → Option p_C} {h : p_H} {s : d_S} {x1 : Int} {x2 : Int} {r : Int} (hF : F_X12_sightOf s x1 x2 = some r) (hH : d_V t h s) (r_x1 : d_R x1) (r_x2 : d_R x2) : p_wp p_GT p_MT 0 m_X12_sightOf 0 (lv_args 0 [.ref 64, .int (Int32.ofInt x1), .int (Int32.ofInt x2)]) [] h (d_QP h r) := by
  unfold F_X12_sightOf at hF
  refine dw_aln rfl rfl (dw_gr rfl rfl rfl hH d_c64_0 (dw_sp rfl rfl (dw_bp rfl rfl (dw_iln rfl rfl (dw_mul rfl (dw_add rfl (dw_iln rfl rfl (dw_add rfl (dw_w1 (?_))))))))))
  exact d_gd hF (fun g1 hF => dw_ald rfl hH d_a65 rfl g1.1 g1.2 d_R_w rfl (dw_rP rfl rfl hH.r hF))
set_option maxRecDepth 100000 in
noncomputable def F_X12_common_j30 (x4 : Int) (y0 : Int) : Option (Int) :=
  if x4 < y0 then
  some (d_w (y0 - x4))
  else
  some 0
set_option maxRecDepth 100000 in
theorem D_X12_common_j30 {h : p_H} {x4 : Int} {y0 : Int} {r : Int} {ls : p_Ls} (hF : F_X12_common_j30 x4 y0 = some r) (r_x4 : d_R x4) (l4 : p_lk 4 ls = some (.int (Int32.ofInt x4))) (r_y0 : d_R y0) : p_wp p_GT p_MT 0 m_X12_common 30 ls [.int (Int32.ofInt y0)] h (d_QP h r) := by
  unfold F_X12_common_j30 at hF
  refine dw_is rfl rfl (dw_il rfl p_lk_s1 (dw_il rfl (d_s1 l4 rfl (by decide)) (?_)))
  refine d_if hF (fun q hF => ?_) (fun q hF => ?_)
  · refine dw_le_y rfl (u := 47) rfl r_y0 r_x4 q ?_
    exact dw_il rfl p_lk_s1 (dw_il rfl (d_s1 l4 rfl (by decide)) (dw_sub rfl (dw_go rfl (u := 48) rfl (dw_w1 (dw_rP rfl rfl d_R_w hF)))))
  · refine dw_le_n rfl (u := 47) rfl r_y0 r_x4 q ?_
    exact dw_ic rfl (dw_rP rfl rfl (d_rl rfl) hF)
set_option maxRecDepth 100000 in
noncomputable def F_X12_common_j10 (x0 : Int) (x1 : Int) (x2 : Int) (x3 : Int) (y0 : Int) : Option (Int) :=
  if (d_w (x0 + x1)) < (d_w (x2 + x3)) then
  F_X12_common_j30 y0 (d_w (x0 + x1))
  else
  F_X12_common_j30 y0 (d_w (x2 + x3))
set_option maxRecDepth 100000 in
theorem D_X12_common_j10 {h : p_H} {x0 : Int} {x1 : Int} {x2 : Int} {x3 : Int} {y0 : Int} {r : Int} {ls : p_Ls} (hF : F_X12_common_j10 x0 x1 x2 x3 y0 = some r) (r_x0 : d_R x0) (l0 : p_lk 0 ls = some (.int (Int32.ofInt x0))) (r_x1 : d_R x1) (l1 : p_lk 1 ls = some (.int (Int32.ofInt x1))) (r_x2 : d_R x2) (l2 : p_lk 2 ls = some (.int (Int32.ofInt x2))) (r_x3 : d_R x3) (l3 : p_lk 3 ls = some (.int (Int32.ofInt x3))) (r_y0 : d_R y0) : p_wp p_GT p_MT 0 m_X12_common 10 ls [.int (Int32.ofInt y0)] h (d_QP h r) := by
  unfold F_X12_common_j10 at hF
  refine dw_is rfl rfl (dw_iln rfl (d_s1 l0 rfl (by decide)) (dw_iln rfl (d_s1 l1 rfl (by decide)) (dw_add rfl (dw_iln rfl (d_s1 l2 rfl (by decide)) (dw_iln rfl (d_s1 l3 rfl (by decide)) (dw_add rfl (dw_w1 (dw_w2 (?_)))))))))
  refine d_if hF (fun q hF => ?_) (fun q hF => ?_)
  · refine dw_ge_y rfl (u := 27) rfl d_R_w d_R_w q ?_
    refine dw_iln rfl (d_s1 l0 rfl (by decide)) (dw_iln rfl (d_s1 l1 rfl (by decide)) (dw_add rfl (dw_go rfl (u := 30) rfl (dw_w1 (?_)))))
    exact D_X12_common_j30 hF r_y0 p_lk_s1 d_R_w
  · refine dw_ge_n rfl (u := 27) rfl d_R_w d_R_w q ?_
    refine dw_iln rfl (d_s1 l2 rfl (by decide)) (dw_iln rfl (d_s1 l3 rfl (by decide)) (dw_add rfl (dw_w1 (?_))))
    exact D_X12_common_j30 hF r_y0 p_lk_s1 d_R_w
set_option maxRecDepth 100000 in
noncomputable def F_X12_common (x0 : Int) (x1 : Int) (x2 : Int) (x3 : Int) : Option (Int) :=
  if x2 < x0 then
  F_X12_common_j10 x0 x1 x2 x3 x0
  else
  F_X12_common_j10 x0 x1 x2 x3 x2
set_option maxRecDepth 100000 in
theorem D_X12_common {h : p_H} {x0 : Int} {x1 : Int} {x2 : Int} {x3 : Int} {r : Int} (hF : F_X12_common x0 x1 x2 x3 = some r) (r_x0 : d_R x0) (r_x1 : d_R x1) (r_x2 : d_R x2) (r_x3 : d_R x3) : p_wp p_GT p_MT 0 m_X12_common 0 (lv_args 0 [.int (Int32.ofInt x0), .int (Int32.ofInt x1), .int (Int32.ofInt x2), .int (Int32.ofInt x3)]) [] h (d_QP h r) := by
  unfold F_X12_common at hF
  refine dw_iln rfl rfl (dw_iln rfl rfl (?_))
  refine d_if hF (fun q hF => ?_) (fun q hF => ?_)
  · refine dw_le_y rfl (u := 9) rfl r_x0 r_x2 q ?_
    refine dw_iln rfl rfl (dw_go rfl (u := 10) rfl (?_))
    exact D_X12_common_j10 hF r_x0 rfl r_x1 rfl r_x2 rfl r_x3 rfl r_x0
  · refine dw_le_n rfl (u := 9) rfl r_x0 r_x2 q ?_
    refine dw_iln rfl rfl (?_)
    exact D_X12_common_j10 hF r_x0 rfl r_x1 rfl r_x2 rfl r_x3 rfl r_x2
set_option maxRecDepth 100000 in
noncomputable def F_X12_cellsIn (s : d_S) (x1 : Int) (x2 : Int) : Option (Int) :=
  d_b (F_X12_sightOf s x1 1) (fun v1 => d_b (F_X12_sightOf s x1 3) (fun v2 => d_b (F_X12_leftOf s x2) (fun v3 => d_b (F_X12_wideOf s x2) (fun v4 => d_b (F_X12_common v1 v2 v3 v4) (fun v5 => d_b (F_X12_sightOf s x1 2) (fun v6 => d_b (F_X12_sightOf s x1 4) (fun v7 => d_b (F_X12_upperOf s x2) (fun v8 => d_b (F_X12_highOf s x2) (fun v9 => d_b (F_X12_common v6 v7 v8 v9) (fun v10 => some (d_w (v5 * v10))))))))))))
set_option maxRecDepth 100000 in
theorem D_X12_cellsIn {t : Nat → Option p_C} {h : p_H} {s : d_S} {x1 : Int} {x2 : Int} {r : Int} (hF : F_X12_cellsIn s x1 x2 = some r) (hH : d_V t h s) (r_x1 : d_R x1) (r_x2 : d_R x2) : p_wp p_GT p_MT 4 m_X12_cellsIn 0 (lv_args 0 [.ref 64, .int (Int32.ofInt x1), .int (Int32.ofInt x2)]) [] h (d_QP h r) := by
  unfold F_X12_cellsIn at hF
  refine dw_aln rfl rfl (dw_iln rfl rfl (dw_ic rfl (dw_vP hF rfl (d_vir (n := 3) rfl rfl rfl rfl rfl hH d_c64_0 rfl) rfl rfl rfl (dc := 0) (fun _ e => D_X12_sightOf e hH r_x1 (d_rl rfl)) (fun v1 r_v1 hF => dw_aln rfl rfl (dw_iln rfl rfl (dw_ic rfl (dw_vP hF rfl (d_vir (n := 3) rfl rfl rfl rfl rfl hH d_c64_0 rfl) rfl rfl rfl (dc := 0) (fun _ e => D_X12_sightOf e hH r_x1 (d_rl rfl)) (fun v2 r_v2 hF => dw_aln rfl rfl (dw_iln rfl rfl (?_))))))))))
  refine dw_vP hF rfl (d_vir (n := 2) rfl rfl rfl rfl rfl hH d_c64_0 rfl) rfl rfl rfl (dc := 3) (fun _ e => D_X12_leftOf e hH r_x2) (fun v3 r_v3 hF => dw_aln rfl rfl (dw_iln rfl rfl (dw_vP hF rfl (d_vir (n := 2) rfl rfl rfl rfl rfl hH d_c64_0 rfl) rfl rfl rfl (dc := 3) (fun _ e => D_X12_wideOf e hH r_x2) (fun v4 r_v4 hF => dw_sP hF rfl rfl rfl rfl rfl (dc := 0) (fun _ e => D_X12_common e r_v1 r_v2 r_v3 r_v4) (fun v5 r_v5 hF => dw_isn rfl rfl (dw_iln rfl p_lk_s1 (dw_aln rfl (d_s1 rfl rfl (by decide)) (dw_iln rfl (d_s1 rfl rfl (by decide)) (dw_ic rfl (?_))))))))))
  refine dw_vP hF rfl (d_vir (n := 3) rfl rfl rfl rfl rfl hH d_c64_0 rfl) rfl rfl rfl (dc := 0) (fun _ e => D_X12_sightOf e hH r_x1 (d_rl rfl)) (fun v6 r_v6 hF => dw_aln rfl (d_s1 rfl rfl (by decide)) (dw_iln rfl (d_s1 rfl rfl (by decide)) (dw_ic rfl (dw_vP hF rfl (d_vir (n := 3) rfl rfl rfl rfl rfl hH d_c64_0 rfl) rfl rfl rfl (dc := 0) (fun _ e => D_X12_sightOf e hH r_x1 (d_rl rfl)) (fun v7 r_v7 hF => dw_aln rfl (d_s1 rfl rfl (by decide)) (dw_iln rfl (d_s1 rfl rfl (by decide)) (dw_vP hF rfl (d_vir (n := 2) rfl rfl rfl rfl rfl hH d_c64_0 rfl) rfl rfl rfl (dc := 3) (fun _ e => D_X12_upperOf e hH r_x2) (fun v8 r_v8 hF => dw_aln rfl (d_s1 rfl rfl (by decide)) (dw_iln rfl (d_s1 rfl rfl (by decide)) (?_))))))))))
  exact dw_vP hF rfl (d_vir (n := 2) rfl rfl rfl rfl rfl hH d_c64_0 rfl) rfl rfl rfl (dc := 3) (fun _ e => D_X12_highOf e hH r_x2) (fun v9 r_v9 hF => dw_sP hF rfl rfl rfl rfl rfl (dc := 0) (fun _ e => D_X12_common e r_v6 r_v7 r_v8 r_v9) (fun v10 r_v10 hF => dw_mul rfl (dw_w1 (dw_rP rfl rfl d_R_w hF))))
set_option maxRecDepth 100000 in
noncomputable def F_X12_areaOf (s : d_S) (x1 : Int) : Option (Int) :=
  d_b (F_X12_sightOf s x1 3) (fun v1 => d_b (F_X12_sightOf s x1 4) (fun v2 => some (d_w (v1 * v2))))
set_option maxRecDepth 100000 in
theorem D_X12_areaOf {t : Nat → Option p_C} {h : p_H} {s : d_S} {x1 : Int} {r : Int} (hF : F_X12_areaOf s x1 = some r) (hH : d_V t h s) (r_x1 : d_R x1) : p_wp p_GT p_MT 1 m_X12_areaOf 0 (lv_args 0 [.ref 64, .int (Int32.ofInt x1)]) [] h (d_QP h r) := by
  unfold F_X12_areaOf at hF
  refine dw_aln rfl rfl (dw_iln rfl rfl (dw_ic rfl (dw_vP hF rfl (d_vir (n := 3) rfl rfl rfl rfl rfl hH d_c64_0 rfl) rfl rfl rfl (dc := 0) (fun _ e => D_X12_sightOf e hH r_x1 (d_rl rfl)) (fun v1 r_v1 hF => dw_aln rfl rfl (dw_iln rfl rfl (dw_ic rfl (dw_vP hF rfl (d_vir (n := 3) rfl rfl rfl rfl rfl hH d_c64_0 rfl) rfl rfl rfl (dc := 0) (fun _ e => D_X12_sightOf e hH r_x1 (d_rl rfl)) (fun v2 r_v2 hF => dw_mul rfl (dw_w1 (?_))))))))))
  exact dw_rP rfl rfl d_R_w hF
set_option maxRecDepth 100000 in
noncomputable def F_X12_sightsIn_l4_b (s : d_S) (rec : Int → Int → Int → Option (Int)) (x1 : Int) (x2 : Int) (x3 : Int) : Option (Int) :=
  if x3 < (s.1 65 0) then
  d_b (F_X12_cellsIn s x3 x1) (fun v1 => if 0 < v1 then
  rec x1 (d_or x2 (d_shl 1 x3)) (d_w (x3 + 1))
  else
  rec x1 (d_or x2 0) (d_w (x3 + 1)))
  else
  some x2
set_option maxRecDepth 100000 in
noncomputable def F_X12_sightsIn_l4 (s : d_S) : Nat → Int → Int → Int → Option (Int)
  | 0 => fun _ _ _ => none
  | n + 1 => F_X12_sightsIn_l4_b s (F_X12_sightsIn_l4 s n)
set_option maxRecDepth 100000 in
theorem D_X12_sightsIn_l4 {t : Nat → Option p_C} {h : p_H} {s : d_S} {r : Int} (hH : d_V t h s) : ∀ (n : Nat) {x1 : Int} {x2 : Int} {x3 : Int} {ls : p_Ls}, F_X12_sightsIn_l4 s n x1 x2 x3 = some r → p_lk 0 ls = some (.ref 64) → d_R x1 → p_lk 1 ls = some (.int (Int32.ofInt x1)) → d_R x2 → p_lk 2 ls = some (.int (Int32.ofInt x2)) → d_R x3 → p_lk 3 ls = some (.int (Int32.ofInt x3)) → p_wp p_GT p_MT 5 m_X12_sightsIn 4 ls [] h (d_QP h r) := by
  intro n
  induction n with
  | zero =>
    intro x1 x2 x3 ls hF l0 r_x1 l1 r_x2 l2 r_x3 l3
    cases (show (none : Option (Int)) = some r from hF)
  | succ n ih =>
    intro x1 x2 x3 ls hF l0 r_x1 l1 r_x2 l2 r_x3 l3
    have hF : F_X12_sightsIn_l4_b s (F_X12_sightsIn_l4 s n) x1 x2 x3 = some r := hF
    unfold F_X12_sightsIn_l4_b at hF
    refine dw_iln rfl l3 (dw_aln rfl l0 (dw_gr rfl rfl rfl hH d_c64_0 (dw_ic rfl (dw_ald rfl hH d_a65 rfl (by decide) (by decide) (d_rl rfl) (k := 0) rfl (?_)))))
    refine d_if hF (fun q hF => ?_) (fun q hF => ?_)
    · refine dw_ge_y rfl (u := 39) rfl r_x3 hH.r q ?_
      refine dw_iln rfl l2 (dw_aln rfl l0 (dw_iln rfl l3 (dw_iln rfl l1 (dw_vP hF rfl (d_vir (n := 3) rfl rfl rfl rfl rfl hH d_c64_0 rfl) rfl rfl rfl (dc := 4) (fun _ e => D_X12_cellsIn e hH r_x3 r_x1) (fun v1 r_v1 hF => ?_)))))
      refine d_if hF (fun q hF => ?_) (fun q hF => ?_)
      · refine dw_zle_y rfl (u := 30) rfl r_v1 q ?_
        refine dw_ic rfl (dw_iln rfl l3 (dw_shl rfl (dw_go rfl (u := 31) rfl (dw_or rfl (dw_isn rfl rfl (dw_ii rfl (d_s1 l3 rfl (by decide)) rfl (dw_go rfl (u := 4) rfl (?_))))))))
        exact ih hF (d_s1 (d_s1 l0 rfl (by decide)) rfl (by decide)) r_x1 (d_s1 (d_s1 l1 rfl (by decide)) rfl (by decide)) d_R_t (d_s1 p_lk_s1 rfl (by decide)) d_R_w p_lk_s1
      · refine dw_zle_n rfl (u := 30) rfl r_v1 q ?_
        refine dw_ic rfl (dw_or rfl (dw_isn rfl rfl (dw_ii rfl (d_s1 l3 rfl (by decide)) rfl (dw_go rfl (u := 4) rfl (?_)))))
        exact ih hF (d_s1 (d_s1 l0 rfl (by decide)) rfl (by decide)) r_x1 (d_s1 (d_s1 l1 rfl (by decide)) rfl (by decide)) d_R_t (d_s1 p_lk_s1 rfl (by decide)) d_R_w p_lk_s1
    · refine dw_ge_n rfl (u := 39) rfl r_x3 hH.r q ?_
      exact dw_iln rfl l2 (dw_rP rfl rfl r_x2 hF)
set_option maxRecDepth 100000 in
noncomputable def F_X12_sightsIn (s : d_S) (x1 : Int) : Option (Int) :=
  F_X12_sightsIn_l4 s d_N x1 0 0
set_option maxRecDepth 100000 in
theorem D_X12_sightsIn {t : Nat → Option p_C} {h : p_H} {s : d_S} {x1 : Int} {r : Int} (hF : F_X12_sightsIn s x1 = some r) (hH : d_V t h s) (r_x1 : d_R x1) : p_wp p_GT p_MT 5 m_X12_sightsIn 0 (lv_args 0 [.ref 64, .int (Int32.ofInt x1)]) [] h (d_QP h r) := by
  unfold F_X12_sightsIn at hF
  refine dw_ic rfl (dw_isn rfl rfl (dw_ic rfl (dw_isn rfl rfl (?_))))
  exact D_X12_sightsIn_l4 hH _ hF (d_s1 (d_s1 rfl rfl (by decide)) rfl (by decide)) r_x1 (d_s1 (d_s1 rfl rfl (by decide)) rfl (by decide)) (d_rl rfl) (d_s1 p_lk_s1 rfl (by decide)) (d_rl rfl) p_lk_s1
set_option maxRecDepth 100000 in
noncomputable def F_X12_kindsIn_l4_b (s : d_S) (k44 : Int → Option (Int)) (rec : Int → Int → Int → Option (Int)) (x1 : Int) (x2 : Int) (x3 : Int) : Option (Int) :=
  if x3 < (s.1 65 0) then
  d_b (F_X12_cellsIn s x3 x1) (fun v1 => if 0 < v1 then
  d_b (F_X12_sightOf s x3 0) (fun v2 => rec x1 (d_or x2 (d_shl 1 v2)) (d_w (x3 + 1)))
  else
  rec x1 (d_or x2 0) (d_w (x3 + 1)))
  else
  k44 x2
set_option maxRecDepth 100000 in
noncomputable def F_X12_kindsIn_l4 (s : d_S) (k44 : Int → Option (Int)) : Nat → Int → Int → Int → Option (Int)
  | 0 => fun _ _ _ => none
  | n + 1 => F_X12_kindsIn_l4_b s k44 (F_X12_kindsIn_l4 s k44 n)
set_option maxRecDepth 100000 in
theorem D_X12_kindsIn_l4 {t : Nat → Option p_C} {h : p_H} {s : d_S} {k44 : Int → Option (Int)} {r : Int} (hH : d_V t h s) (hk44 : ∀ {x2 : Int} {ls : p_Ls}, k44 x2 = some r → d_R x2 → p_lk 2 ls = some (.int (Int32.ofInt x2)) → p_wp p_GT p_MT 5 m_X12_kindsIn 44 ls [] h (d_QP h r)) : ∀ (n : Nat) {x1 : Int} {x2 : Int} {x3 : Int} {ls : p_Ls}, F_X12_kindsIn_l4 s k44 n x1 x2 x3 = some r → p_lk 0 ls = some (.ref 64) → d_R x1 → p_lk 1 ls = some (.int (Int32.ofInt x1)) → d_R x2 → p_lk 2 ls = some (.int (Int32.ofInt x2)) → d_R x3 → p_lk 3 ls = some (.int (Int32.ofInt x3)) → p_wp p_GT p_MT 5 m_X12_kindsIn 4 ls [] h (d_QP h r) := by
  intro n
  induction n with
  | zero =>
    intro x1 x2 x3 ls hF l0 r_x1 l1 r_x2 l2 r_x3 l3
    cases (show (none : Option (Int)) = some r from hF)
  | succ n ih =>
    intro x1 x2 x3 ls hF l0 r_x1 l1 r_x2 l2 r_x3 l3
    have hF : F_X12_kindsIn_l4_b s k44 (F_X12_kindsIn_l4 s k44 n) x1 x2 x3 = some r := hF
    unfold F_X12_kindsIn_l4_b at hF
    refine dw_iln rfl l3 (dw_aln rfl l0 (dw_gr rfl rfl rfl hH d_c64_0 (dw_ic rfl (dw_ald rfl hH d_a65 rfl (by decide) (by decide) (d_rl rfl) (k := 0) rfl (?_)))))
    refine d_if hF (fun q hF => ?_) (fun q hF => ?_)
    · refine dw_ge_y rfl (u := 44) rfl r_x3 hH.r q ?_
      refine dw_iln rfl l2 (dw_aln rfl l0 (dw_iln rfl l3 (dw_iln rfl l1 (dw_vP hF rfl (d_vir (n := 3) rfl rfl rfl rfl rfl hH d_c64_0 rfl) rfl rfl rfl (dc := 4) (fun _ e => D_X12_cellsIn e hH r_x3 r_x1) (fun v1 r_v1 hF => ?_)))))
      refine d_if hF (fun q hF => ?_) (fun q hF => ?_)
      · refine dw_zle_y rfl (u := 35) rfl r_v1 q ?_
        refine dw_ic rfl (dw_aln rfl l0 (dw_iln rfl l3 (dw_ic rfl (dw_vP hF rfl (d_vir (n := 3) rfl rfl rfl rfl rfl hH d_c64_0 rfl) rfl rfl rfl (dc := 0) (fun _ e => D_X12_sightOf e hH r_x3 (d_rl rfl)) (fun v2 r_v2 hF => dw_shl rfl (dw_go rfl (u := 36) rfl (dw_or rfl (dw_isn rfl rfl (dw_ii rfl (d_s1 l3 rfl (by decide)) rfl (?_))))))))))
        refine dw_go rfl (u := 4) rfl (?_)
        exact ih hF (d_s1 (d_s1 l0 rfl (by decide)) rfl (by decide)) r_x1 (d_s1 (d_s1 l1 rfl (by decide)) rfl (by decide)) d_R_t (d_s1 p_lk_s1 rfl (by decide)) d_R_w p_lk_s1
      · refine dw_zle_n rfl (u := 35) rfl r_v1 q ?_
        refine dw_ic rfl (dw_or rfl (dw_isn rfl rfl (dw_ii rfl (d_s1 l3 rfl (by decide)) rfl (dw_go rfl (u := 4) rfl (?_)))))
        exact ih hF (d_s1 (d_s1 l0 rfl (by decide)) rfl (by decide)) r_x1 (d_s1 (d_s1 l1 rfl (by decide)) rfl (by decide)) d_R_t (d_s1 p_lk_s1 rfl (by decide)) d_R_w p_lk_s1
    · refine dw_ge_n rfl (u := 44) rfl r_x3 hH.r q ?_
      exact hk44 hF r_x2 l2
set_option maxRecDepth 100000 in
noncomputable def F_X12_kindsIn (s : d_S) (x1 : Int) : Option (Int) :=
  F_X12_kindsIn_l4 s (fun x2_u3 =>
  d_b (F_X12_bits x2_u3) (fun v4 => some v4)) d_N x1 0 0
set_option maxRecDepth 100000 in
theorem D_X12_kindsIn {t : Nat → Option p_C} {h : p_H} {s : d_S} {x1 : Int} {r : Int} (hF : F_X12_kindsIn s x1 = some r) (hH : d_V t h s) (r_x1 : d_R x1) : p_wp p_GT p_MT 5 m_X12_kindsIn 0 (lv_args 0 [.ref 64, .int (Int32.ofInt x1)]) [] h (d_QP h r) := by
  unfold F_X12_kindsIn at hF
  refine dw_ic rfl (dw_isn rfl rfl (dw_ic rfl (dw_isn rfl rfl (?_))))
  refine D_X12_kindsIn_l4 hH (fun {x2_u3} {ls_u3} hF r_x2_u3 l2_u3 => ?_) _ hF (d_s1 (d_s1 rfl rfl (by decide)) rfl (by decide)) r_x1 (d_s1 (d_s1 rfl rfl (by decide)) rfl (by decide)) (d_rl rfl) (d_s1 p_lk_s1 rfl (by decide)) (d_rl rfl) p_lk_s1
  · exact dw_iln rfl l2_u3 (dw_sP hF rfl rfl rfl rfl rfl (dc := 0) (fun _ e => D_X12_bits e r_x2_u3) (fun v4 r_v4 hF => dw_rP rfl rfl r_v4 hF))

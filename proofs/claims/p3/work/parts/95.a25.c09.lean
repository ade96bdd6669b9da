set_option maxRecDepth 100000 in
noncomputable def F_X8_part_12 (s : d_S) (x1 : Int) (x2 : Int) : Option (Int) :=
  if (d_w ((x1 * 4) + x2)) < 0 then
  some 0
  else
  if (d_w ((x1 * 4) + x2)) < 32 then
  d_g (0 ≤ (d_w ((x1 * 4) + x2)) ∧ (d_w ((x1 * 4) + x2)) < 32) (some (s.1 13 (((d_w ((x1 * 4) + x2))).toNat)))
  else
  some 0
set_option maxRecDepth 100000 in
theorem D_X8_part_12 {t : Nat → Option p_C} {h : p_H} {s : d_S} {x1 : Int} {x2 : Int} {r : Int} (hF : F_X8_part_12 s x1 x2 = some r) (hH : d_V t h s) (r_x1 : d_R x1) (r_x2 : d_R x2) : p_wp p_GT p_MT 0 m_X8_part 0 (lv_args 0 [.ref 12, .int (Int32.ofInt x1), .int (Int32.ofInt x2)]) [] h (d_QP h r) := by
  unfold F_X8_part_12 at hF
  refine dw_iln rfl rfl (dw_ic rfl (dw_mul rfl (dw_iln rfl rfl (dw_add rfl (dw_w1 (dw_isn rfl rfl (dw_iln rfl p_lk_s1 (?_))))))))
  refine d_if hF (fun q hF => ?_) (fun q hF => ?_)
  · refine dw_zlt_y rfl (u := 28) rfl d_R_w q ?_
    exact dw_ic rfl (dw_rP rfl rfl (d_rl rfl) hF)
  · refine dw_zlt_n rfl (u := 28) rfl d_R_w q ?_
    refine dw_iln rfl p_lk_s1 (dw_aln rfl (d_s1 rfl rfl (by decide)) (dw_gr rfl rfl rfl hH d_c12_1 (dw_len rfl hH d_a13 rfl (z := 32) rfl (?_))))
    refine d_if hF (fun q hF => ?_) (fun q hF => ?_)
    · refine dw_ge_y rfl (u := 28) rfl d_R_w (d_rl rfl) q ?_
      exact dw_aln rfl (d_s1 rfl rfl (by decide)) (dw_gr rfl rfl rfl hH d_c12_1 (dw_iln rfl p_lk_s1 (d_gd hF (fun g1 hF => dw_ald rfl hH d_a13 rfl g1.1 g1.2 d_R_w rfl (dw_go rfl (u := 29) rfl (dw_rP rfl rfl hH.r hF))))))
    · refine dw_ge_n rfl (u := 28) rfl d_R_w (d_rl rfl) q ?_
      exact dw_ic rfl (dw_rP rfl rfl (d_rl rfl) hF)
set_option maxRecDepth 100000 in
noncomputable def F_X11_mayLie_j84_1 (s : d_S) (k3 : Int → Int → Int → Int → Option (Int)) (x1 : Int) (x2 : Int) (x3 : Int) (x4 : Int) (x5 : Int) : Option (Int) :=
  if x5 = 0 then
  k3 x1 x2 x3 (d_w (x4 + 1))
  else
  d_b (F_X8_part_12 s x4 3) (fun v4 => if v4 = 1 then
  k3 x1 x2 x3 (d_w (x4 + 1))
  else
  some 0)
set_option maxRecDepth 100000 in
theorem D_X11_mayLie_j84_1 {t : Nat → Option p_C} {h : p_H} {s : d_S} {k3 : Int → Int → Int → Int → Option (Int)} {x1 : Int} {x2 : Int} {x3 : Int} {x4 : Int} {x5 : Int} {r : Int} {ls : p_Ls} (hF : F_X11_mayLie_j84_1 s k3 x1 x2 x3 x4 x5 = some r) (hH : d_V t h s) (l0 : p_lk 0 ls = some (.ref 2)) (r_x1 : d_R x1) (l1 : p_lk 1 ls = some (.int (Int32.ofInt x1))) (r_x2 : d_R x2) (l2 : p_lk 2 ls = some (.int (Int32.ofInt x2))) (r_x3 : d_R x3) (l3 : p_lk 3 ls = some (.int (Int32.ofInt x3))) (r_x4 : d_R x4) (l4 : p_lk 4 ls = some (.int (Int32.ofInt x4))) (r_x5 : d_R x5) (l5 : p_lk 5 ls = some (.int (Int32.ofInt x5))) (hk3 : ∀ {x1 : Int} {x2 : Int} {x3 : Int} {x4 : Int} {ls : p_Ls}, k3 x1 x2 x3 x4 = some r → p_lk 0 ls = some (.ref 2) → d_R x1 → p_lk 1 ls = some (.int (Int32.ofInt x1)) → d_R x2 → p_lk 2 ls = some (.int (Int32.ofInt x2)) → d_R x3 → p_lk 3 ls = some (.int (Int32.ofInt x3)) → d_R x4 → p_lk 4 ls = some (.int (Int32.ofInt x4)) → p_wp p_GT p_MT 1 m_X11_mayLie 3 ls [] h (d_QB h r)) : p_wp p_GT p_MT 1 m_X11_mayLie 84 ls [.int (Int32.ofInt 1)] h (d_QB h r) := by
  unfold F_X11_mayLie_j84_1 at hF
  refine dw_is rfl rfl (dw_il rfl (d_s1 l5 rfl (by decide)) (?_))
  refine d_if hF (fun q hF => ?_) (fun q hF => ?_)
  · refine dw_zeq_y rfl (u := 120) rfl r_x5 q ?_
    refine dw_ii rfl (d_s1 l4 rfl (by decide)) rfl (dw_go rfl (u := 3) rfl (?_))
    exact hk3 hF (d_s1 (d_s1 l0 rfl (by decide)) rfl (by decide)) r_x1 (d_s1 (d_s1 l1 rfl (by decide)) rfl (by decide)) r_x2 (d_s1 (d_s1 l2 rfl (by decide)) rfl (by decide)) r_x3 (d_s1 (d_s1 l3 rfl (by decide)) rfl (by decide)) d_R_w p_lk_s1
  · refine dw_zeq_n rfl (u := 120) rfl r_x5 q ?_
    refine dw_il rfl p_lk_s1 (dw_aln rfl (d_s1 l0 rfl (by decide)) (dw_gr rfl rfl rfl hH d_c2_0 (dw_gr rfl rfl rfl hH d_c3_11 (dw_il rfl (d_s1 l4 rfl (by decide)) (dw_ic rfl (dw_vP hF rfl (d_vir (n := 3) rfl rfl rfl rfl rfl hH d_c12_0 rfl) rfl rfl rfl (dc := 0) (fun _ e => D_X8_part_12 e hH r_x4 (d_rl rfl)) (fun v4 r_v4 hF => dw_ic rfl (?_))))))))
    refine d_if hF (fun q hF => ?_) (fun q hF => ?_)
    · refine dw_ne_y rfl (u := 114) rfl r_v4 (d_rl rfl) q ?_
      refine dw_ic rfl (dw_go rfl (u := 115) rfl (dw_eq_y rfl (u := 120) rfl (d_rl rfl) (d_rl rfl) (by decide) (dw_ii rfl (d_s1 l4 rfl (by decide)) rfl (dw_go rfl (u := 3) rfl (?_)))))
      exact hk3 hF (d_s1 (d_s1 l0 rfl (by decide)) rfl (by decide)) r_x1 (d_s1 (d_s1 l1 rfl (by decide)) rfl (by decide)) r_x2 (d_s1 (d_s1 l2 rfl (by decide)) rfl (by decide)) r_x3 (d_s1 (d_s1 l3 rfl (by decide)) rfl (by decide)) d_R_w p_lk_s1
    · refine dw_ne_n rfl (u := 114) rfl r_v4 (d_rl rfl) q ?_
      exact dw_ic rfl (dw_eq_n rfl (u := 120) rfl (d_rl rfl) (d_rl rfl) (by decide) (dw_ic rfl (dw_rB rfl rfl (Or.inl rfl) hF)))
set_option maxRecDepth 100000 in
noncomputable def F_X11_mayLie_j84_0 (s : d_S) (k3 : Int → Int → Int → Int → Option (Int)) (x1 : Int) (x2 : Int) (x3 : Int) (x4 : Int) (x5 : Int) : Option (Int) :=
  if x5 = 0 then
  k3 x1 x2 x3 (d_w (x4 + 1))
  else
  d_b (F_X8_part_12 s x4 3) (fun v5 => if v5 = 1 then
  some 0
  else
  k3 x1 x2 x3 (d_w (x4 + 1)))
set_option maxRecDepth 100000 in
theorem D_X11_mayLie_j84_0 {t : Nat → Option p_C} {h : p_H} {s : d_S} {k3 : Int → Int → Int → Int → Option (Int)} {x1 : Int} {x2 : Int} {x3 : Int} {x4 : Int} {x5 : Int} {r : Int} {ls : p_Ls} (hF : F_X11_mayLie_j84_0 s k3 x1 x2 x3 x4 x5 = some r) (hH : d_V t h s) (l0 : p_lk 0 ls = some (.ref 2)) (r_x1 : d_R x1) (l1 : p_lk 1 ls = some (.int (Int32.ofInt x1))) (r_x2 : d_R x2) (l2 : p_lk 2 ls = some (.int (Int32.ofInt x2))) (r_x3 : d_R x3) (l3 : p_lk 3 ls = some (.int (Int32.ofInt x3))) (r_x4 : d_R x4) (l4 : p_lk 4 ls = some (.int (Int32.ofInt x4))) (r_x5 : d_R x5) (l5 : p_lk 5 ls = some (.int (Int32.ofInt x5))) (hk3 : ∀ {x1 : Int} {x2 : Int} {x3 : Int} {x4 : Int} {ls : p_Ls}, k3 x1 x2 x3 x4 = some r → p_lk 0 ls = some (.ref 2) → d_R x1 → p_lk 1 ls = some (.int (Int32.ofInt x1)) → d_R x2 → p_lk 2 ls = some (.int (Int32.ofInt x2)) → d_R x3 → p_lk 3 ls = some (.int (Int32.ofInt x3)) → d_R x4 → p_lk 4 ls = some (.int (Int32.ofInt x4)) → p_wp p_GT p_MT 1 m_X11_mayLie 3 ls [] h (d_QB h r)) : p_wp p_GT p_MT 1 m_X11_mayLie 84 ls [.int (Int32.ofInt 0)] h (d_QB h r) := by
  unfold F_X11_mayLie_j84_0 at hF
  refine dw_is rfl rfl (dw_il rfl (d_s1 l5 rfl (by decide)) (?_))
  refine d_if hF (fun q hF => ?_) (fun q hF => ?_)
  · refine dw_zeq_y rfl (u := 120) rfl r_x5 q ?_
    refine dw_ii rfl (d_s1 l4 rfl (by decide)) rfl (dw_go rfl (u := 3) rfl (?_))
    exact hk3 hF (d_s1 (d_s1 l0 rfl (by decide)) rfl (by decide)) r_x1 (d_s1 (d_s1 l1 rfl (by decide)) rfl (by decide)) r_x2 (d_s1 (d_s1 l2 rfl (by decide)) rfl (by decide)) r_x3 (d_s1 (d_s1 l3 rfl (by decide)) rfl (by decide)) d_R_w p_lk_s1
  · refine dw_zeq_n rfl (u := 120) rfl r_x5 q ?_
    refine dw_il rfl p_lk_s1 (dw_aln rfl (d_s1 l0 rfl (by decide)) (dw_gr rfl rfl rfl hH d_c2_0 (dw_gr rfl rfl rfl hH d_c3_11 (dw_il rfl (d_s1 l4 rfl (by decide)) (dw_ic rfl (dw_vP hF rfl (d_vir (n := 3) rfl rfl rfl rfl rfl hH d_c12_0 rfl) rfl rfl rfl (dc := 0) (fun _ e => D_X8_part_12 e hH r_x4 (d_rl rfl)) (fun v5 r_v5 hF => dw_ic rfl (?_))))))))
    refine d_if hF (fun q hF => ?_) (fun q hF => ?_)
    · refine dw_ne_y rfl (u := 114) rfl r_v5 (d_rl rfl) q ?_
      exact dw_ic rfl (dw_go rfl (u := 115) rfl (dw_eq_n rfl (u := 120) rfl (d_rl rfl) (d_rl rfl) (by decide) (dw_ic rfl (dw_rB rfl rfl (Or.inl rfl) hF))))
    · refine dw_ne_n rfl (u := 114) rfl r_v5 (d_rl rfl) q ?_
      refine dw_ic rfl (dw_eq_y rfl (u := 120) rfl (d_rl rfl) (d_rl rfl) (by decide) (dw_ii rfl (d_s1 l4 rfl (by decide)) rfl (dw_go rfl (u := 3) rfl (?_))))
      exact hk3 hF (d_s1 (d_s1 l0 rfl (by decide)) rfl (by decide)) r_x1 (d_s1 (d_s1 l1 rfl (by decide)) rfl (by decide)) r_x2 (d_s1 (d_s1 l2 rfl (by decide)) rfl (by decide)) r_x3 (d_s1 (d_s1 l3 rfl (by decide)) rfl (by decide)) d_R_w p_lk_s1
set_option maxRecDepth 100000 in
noncomputable def F_X11_mayLie_j56 (s : d_S) (k3 : Int → Int → Int → Int → Option (Int)) (x1 : Int) (x2 : Int) (x3 : Int) (x4 : Int) : Option (Int) :=
  d_b (F_X8_part_12 s x4 2) (fun v6 => if (d_w (x3 * 10)) < v6 then
  F_X11_mayLie_j84_1 s k3 x1 x2 x3 x4 0
  else
  F_X11_mayLie_j84_0 s k3 x1 x2 x3 x4 0)
set_option maxRecDepth 100000 in
theorem D_X11_mayLie_j56 {t : Nat → Option p_C} {h : p_H} {s : d_S} {k3 : Int → Int → Int → Int → Option (Int)} {x1 : Int} {x2 : Int} {x3 : Int} {x4 : Int} {r : Int} {ls : p_Ls} (hF : F_X11_mayLie_j56 s k3 x1 x2 x3 x4 = some r) (hH : d_V t h s) (l0 : p_lk 0 ls = some (.ref 2)) (r_x1 : d_R x1) (l1 : p_lk 1 ls = some (.int (Int32.ofInt x1))) (r_x2 : d_R x2) (l2 : p_lk 2 ls = some (.int (Int32.ofInt x2))) (r_x3 : d_R x3) (l3 : p_lk 3 ls = some (.int (Int32.ofInt x3))) (r_x4 : d_R x4) (l4 : p_lk 4 ls = some (.int (Int32.ofInt x4))) (hk3 : ∀ {x1 : Int} {x2 : Int} {x3 : Int} {x4 : Int} {ls : p_Ls}, k3 x1 x2 x3 x4 = some r → p_lk 0 ls = some (.ref 2) → d_R x1 → p_lk 1 ls = some (.int (Int32.ofInt x1)) → d_R x2 → p_lk 2 ls = some (.int (Int32.ofInt x2)) → d_R x3 → p_lk 3 ls = some (.int (Int32.ofInt x3)) → d_R x4 → p_lk 4 ls = some (.int (Int32.ofInt x4)) → p_wp p_GT p_MT 1 m_X11_mayLie 3 ls [] h (d_QB h r)) : p_wp p_GT p_MT 1 m_X11_mayLie 56 ls [] h (d_QB h r) := by
  unfold F_X11_mayLie_j56 at hF
  refine dw_ic rfl (dw_is rfl rfl (dw_aln rfl (d_s1 l0 rfl (by decide)) (dw_gr rfl rfl rfl hH d_c2_0 (dw_gr rfl rfl rfl hH d_c3_11 (dw_il rfl (d_s1 l4 rfl (by decide)) (dw_ic rfl (dw_vP hF rfl (d_vir (n := 3) rfl rfl rfl rfl rfl hH d_c12_0 rfl) rfl rfl rfl (dc := 0) (fun _ e => D_X8_part_12 e hH r_x4 (d_rl rfl)) (fun v6 r_v6 hF => dw_iln rfl (d_s1 l3 rfl (by decide)) (dw_bp rfl rfl (?_))))))))))
  refine dw_mul rfl (dw_w1 (?_))
  refine d_if hF (fun q hF => ?_) (fun q hF => ?_)
  · refine dw_le_y rfl (u := 83) rfl r_v6 d_R_w q ?_
    refine dw_ic rfl (dw_go rfl (u := 84) rfl (?_))
    exact D_X11_mayLie_j84_1 hF hH (d_s1 l0 rfl (by decide)) r_x1 (d_s1 l1 rfl (by decide)) r_x2 (d_s1 l2 rfl (by decide)) r_x3 (d_s1 l3 rfl (by decide)) r_x4 (d_s1 l4 rfl (by decide)) (d_rl rfl) p_lk_s1 hk3
  · refine dw_le_n rfl (u := 83) rfl r_v6 d_R_w q ?_
    refine dw_ic rfl (?_)
    exact D_X11_mayLie_j84_0 hF hH (d_s1 l0 rfl (by decide)) r_x1 (d_s1 l1 rfl (by decide)) r_x2 (d_s1 l2 rfl (by decide)) r_x3 (d_s1 l3 rfl (by decide)) r_x4 (d_s1 l4 rfl (by decide)) (d_rl rfl) p_lk_s1 hk3
set_option maxRecDepth 100000 in
noncomputable def F_X11_mayLie_l3_b (s : d_S) (rec : Int → Int → Int → Int → Option (Int)) (x1 : Int) (x2 : Int) (x3 : Int) (x4 : Int) : Option (Int) :=
  if x4 < (s.1 12 2) then
  d_b (F_X8_part_12 s x4 0) (fun v1 => if v1 = x1 then
  d_b (F_X8_part_12 s x4 1) (fun v2 => if v2 = x2 then
  d_b (F_X8_part_12 s x4 2) (fun v3 => if (d_w (x3 * 10)) < v3 then
  F_X11_mayLie_j84_1 s rec x1 x2 x3 x4 1
  else
  F_X11_mayLie_j84_0 s rec x1 x2 x3 x4 1)
  else
  F_X11_mayLie_j56 s rec x1 x2 x3 x4)
  else
  F_X11_mayLie_j56 s rec x1 x2 x3 x4)
  else
  some 1
set_option maxRecDepth 100000 in
noncomputable def F_X11_mayLie_l3 (s : d_S) : Nat → Int → Int → Int → Int → Option (Int)
  | 0 => fun _ _ _ _ => none
  | n + 1 => F_X11_mayLie_l3_b s (F_X11_mayLie_l3 s n)
set_option maxRecDepth 100000 in
theorem D_X11_mayLie_l3 {t : Nat → Option p_C} {h : p_H} {s : d_S} {r : Int} (hH : d_V t h s) : ∀ (n : Nat) {x1 : Int} {x2 : Int} {x3 : Int} {x4 : Int} {ls : p_Ls}, F_X11_mayLie_l3 s n x1 x2 x3 x4 = some r → p_lk 0 ls = some (.ref 2) → d_R x1 → p_lk 1 ls = some (.int (Int32.ofInt x1)) → d_R x2 → p_lk 2 ls = some (.int (Int32.ofInt x2)) → d_R x3 → p_lk 3 ls = some (.int (Int32.ofInt x3)) → d_R x4 → p_lk 4 ls = some (.int (Int32.ofInt x4)) → p_wp p_GT p_MT 1 m_X11_mayLie 3 ls [] h (d_QB h r) := by
  intro n
  induction n with
  | zero =>
    intro x1 x2 x3 x4 ls hF l0 r_x1 l1 r_x2 l2 r_x3 l3 r_x4 l4
    cases (show (none : Option (Int)) = some r from hF)
  | succ n ih =>
    intro x1 x2 x3 x4 ls hF l0 r_x1 l1 r_x2 l2 r_x3 l3 r_x4 l4
    have hF : F_X11_mayLie_l3_b s (F_X11_mayLie_l3 s n) x1 x2 x3 x4 = some r := hF
    unfold F_X11_mayLie_l3_b at hF
    refine dw_il rfl l4 (dw_aln rfl l0 (dw_gr rfl rfl rfl hH d_c2_0 (dw_gr rfl rfl rfl hH d_c3_11 (dw_gi (k := 2) rfl rfl rfl hH d_c12_2 (?_)))))
    refine d_if hF (fun q hF => ?_) (fun q hF => ?_)
    · refine dw_ge_y rfl (u := 126) rfl r_x4 hH.r q ?_
      refine dw_aln rfl l0 (dw_gr rfl rfl rfl hH d_c2_0 (dw_gr rfl rfl rfl hH d_c3_11 (dw_il rfl l4 (dw_ic rfl (dw_vP hF rfl (d_vir (n := 3) rfl rfl rfl rfl rfl hH d_c12_0 rfl) rfl rfl rfl (dc := 0) (fun _ e => D_X8_part_12 e hH r_x4 (d_rl rfl)) (fun v1 r_v1 hF => dw_iln rfl l1 (?_)))))))
      refine d_if hF (fun q hF => ?_) (fun q hF => ?_)
      · refine dw_ne_y rfl (u := 56) rfl r_v1 r_x1 q ?_
        refine dw_aln rfl l0 (dw_gr rfl rfl rfl hH d_c2_0 (dw_gr rfl rfl rfl hH d_c3_11 (dw_il rfl l4 (dw_ic rfl (dw_vP hF rfl (d_vir (n := 3) rfl rfl rfl rfl rfl hH d_c12_0 rfl) rfl rfl rfl (dc := 0) (fun _ e => D_X8_part_12 e hH r_x4 (d_rl rfl)) (fun v2 r_v2 hF => dw_iln rfl l2 (?_)))))))
        refine d_if hF (fun q hF => ?_) (fun q hF => ?_)
        · refine dw_ne_y rfl (u := 56) rfl r_v2 r_x2 q ?_
          refine dw_ic rfl (dw_go rfl (u := 57) rfl (dw_is rfl rfl (dw_aln rfl (d_s1 l0 rfl (by decide)) (dw_gr rfl rfl rfl hH d_c2_0 (dw_gr rfl rfl rfl hH d_c3_11 (dw_il rfl (d_s1 l4 rfl (by decide)) (dw_ic rfl (dw_vP hF rfl (d_vir (n := 3) rfl rfl rfl rfl rfl hH d_c12_0 rfl) rfl rfl rfl (dc := 0) (fun _ e => D_X8_part_12 e hH r_x4 (d_rl rfl)) (fun v3 r_v3 hF => dw_iln rfl (d_s1 l3 rfl (by decide)) (?_))))))))))
          refine dw_bp rfl rfl (dw_mul rfl (dw_w1 (?_)))
          refine d_if hF (fun q hF => ?_) (fun q hF => ?_)
          · refine dw_le_y rfl (u := 83) rfl r_v3 d_R_w q ?_
            refine dw_ic rfl (dw_go rfl (u := 84) rfl (?_))
            exact D_X11_mayLie_j84_1 hF hH (d_s1 l0 rfl (by decide)) r_x1 (d_s1 l1 rfl (by decide)) r_x2 (d_s1 l2 rfl (by decide)) r_x3 (d_s1 l3 rfl (by decide)) r_x4 (d_s1 l4 rfl (by decide)) (d_rl rfl) p_lk_s1 (fun {x1} {x2} {x3} {x4} {ls} hF l0 r_x1 l1 r_x2 l2 r_x3 l3 r_x4 l4 => ih hF l0 r_x1 l1 r_x2 l2 r_x3 l3 r_x4 l4)
          · refine dw_le_n rfl (u := 83) rfl r_v3 d_R_w q ?_
            refine dw_ic rfl (?_)
            exact D_X11_mayLie_j84_0 hF hH (d_s1 l0 rfl (by decide)) r_x1 (d_s1 l1 rfl (by decide)) r_x2 (d_s1 l2 rfl (by decide)) r_x3 (d_s1 l3 rfl (by decide)) r_x4 (d_s1 l4 rfl (by decide)) (d_rl rfl) p_lk_s1 (fun {x1} {x2} {x3} {x4} {ls} hF l0 r_x1 l1 r_x2 l2 r_x3 l3 r_x4 l4 => ih hF l0 r_x1 l1 r_x2 l2 r_x3 l3 r_x4 l4)
        · refine dw_ne_n rfl (u := 56) rfl r_v2 r_x2 q ?_
          exact D_X11_mayLie_j56 hF hH l0 r_x1 l1 r_x2 l2 r_x3 l3 r_x4 l4 (fun {x1} {x2} {x3} {x4} {ls} hF l0 r_x1 l1 r_x2 l2 r_x3 l3 r_x4 l4 => ih hF l0 r_x1 l1 r_x2 l2 r_x3 l3 r_x4 l4)
      · refine dw_ne_n rfl (u := 56) rfl r_v1 r_x1 q ?_
        exact D_X11_mayLie_j56 hF hH l0 r_x1 l1 r_x2 l2 r_x3 l3 r_x4 l4 (fun {x1} {x2} {x3} {x4} {ls} hF l0 r_x1 l1 r_x2 l2 r_x3 l3 r_x4 l4 => ih hF l0 r_x1 l1 r_x2 l2 r_x3 l3 r_x4 l4)
    · refine dw_ge_n rfl (u := 126) rfl r_x4 hH.r q ?_
      exact dw_ic rfl (dw_rB rfl rfl (Or.inr rfl) hF)
set_option maxRecDepth 100000 in
noncomputable def F_X11_mayLie (s : d_S) (x1 : Int) (x2 : Int) (x3 : Int) : Option (Int) :=
  F_X11_mayLie_l3 s d_N x1 x2 x3 0
set_option maxRecDepth 100000 in
theorem D_X11_mayLie {t : Nat → Option p_C} {h : p_H} {s : d_S} {x1 : Int} {x2 : Int} {x3 : Int} {r : Int} (hF : F_X11_mayLie s x1 x2 x3 = some r) (hH : d_V t h s) (r_x1 : d_R x1) (r_x2 : d_R x2) (r_x3 : d_R x3) : p_wp p_GT p_MT 1 m_X11_mayLie 0 (lv_args 0 [.ref 2, .int (Int32.ofInt x1), .int (Int32.ofInt x2), .int (Int32.ofInt x3)]) [] h (d_QB h r) := by
  unfold F_X11_mayLie at hF
  refine dw_ic rfl (dw_is rfl rfl (?_))
  exact D_X11_mayLie_l3 hH _ hF (d_s1 rfl rfl (by decide)) r_x1 (d_s1 rfl rfl (by decide)) r_x2 (d_s1 rfl rfl (by decide)) r_x3 (d_s1 rfl rfl (by decide)) (d_rl rfl) p_lk_s1
set_option maxRecDepth 100000 in
noncomputable def F_X11_layers_l27_b (s : d_S) (rec : Int → Int → Int → Int → Option (Int)) (x1 : Int) (x2 : Int) (x3 : Int) (x4 : Int) : Option (Int) :=
  if x4 < 10 then
  d_b (F_X11_mayLie s x1 x2 x4) (fun v3 => d_b (F_X11_bit v3) (fun v4 => rec x1 x2 (d_or x3 (d_shl v4 x4)) (d_w (x4 + 1))))
  else
  some x3
set_option maxRecDepth 100000 in
noncomputable def F_X11_layers_l27 (s : d_S) : Nat → Int → Int → Int → Int → Option (Int)
  | 0 => fun _ _ _ _ => none
  | n + 1 => F_X11_layers_l27_b s (F_X11_layers_l27 s n)
set_option maxRecDepth 100000 in
theorem D_X11_layers_l27 {t : Nat → Option p_C} {h : p_H} {s : d_S} {r : Int} (hH : d_V t h s) : ∀ (n : Nat) {x1 : Int} {x2 : Int} {x3 : Int} {x4 : Int} {ls : p_Ls}, F_X11_layers_l27 s n x1 x2 x3 x4 = some r → p_lk 0 ls = some (.ref 2) → d_R x1 → p_lk 1 ls = some (.int (Int32.ofInt x1)) → d_R x2 → p_lk 2 ls = some (.int (Int32.ofInt x2)) → d_R x3 → p_lk 3 ls = some (.int (Int32.ofInt x3)) → d_R x4 → p_lk 4 ls = some (.int (Int32.ofInt x4)) → p_wp p_GT p_MT 2 m_X11_layers 27 ls [] h (d_QP h r) := by
  intro n
  induction n with
  | zero =>
    intro x1 x2 x3 x4 ls hF l0 r_x1 l1 r_x2 l2 r_x3 l3 r_x4 l4
    cases (show (none : Option (Int)) = some r from hF)
  | succ n ih =>
    intro x1 x2 x3 x4 ls hF l0 r_x1 l1 r_x2 l2 r_x3 l3 r_x4 l4
    have hF : F_X11_layers_l27_b s (F_X11_layers_l27 s n) x1 x2 x3 x4 = some r := hF
    unfold F_X11_layers_l27_b at hF
    refine dw_il rfl l4 (dw_bp rfl rfl (?_))
    refine d_if hF (fun q hF => ?_) (fun q hF => ?_)
    · refine dw_ge_y rfl (u := 57) rfl r_x4 (d_rl rfl) q ?_
      refine dw_iln rfl l3 (dw_aln rfl l0 (dw_iln rfl l1 (dw_iln rfl l2 (dw_il rfl l4 (dw_vB hF rfl (d_vir (n := 4) rfl rfl rfl rfl rfl hH d_c2_0 rfl) rfl rfl rfl (dc := 1) (fun _ e => D_X11_mayLie e hH r_x1 r_x2 r_x4) (fun v3 r_v3 hF => dw_sP hF rfl rfl rfl rfl rfl (dc := 0) (fun _ e => D_X11_bit e (d_R_b r_v3)) (fun v4 r_v4 hF => dw_il rfl l4 (dw_shl rfl (dw_or rfl (?_))))))))))
      refine dw_isn rfl rfl (dw_ii rfl (d_s1 l4 rfl (by decide)) rfl (dw_go rfl (u := 27) rfl (?_)))
      exact ih hF (d_s1 (d_s1 l0 rfl (by decide)) rfl (by decide)) r_x1 (d_s1 (d_s1 l1 rfl (by decide)) rfl (by decide)) r_x2 (d_s1 (d_s1 l2 rfl (by decide)) rfl (by decide)) d_R_t (d_s1 p_lk_s1 rfl (by decide)) d_R_w p_lk_s1
    · refine dw_ge_n rfl (u := 57) rfl r_x4 (d_rl rfl) q ?_
      exact dw_iln rfl l3 (dw_rP rfl rfl r_x3 hF)
set_option maxRecDepth 100000 in
noncomputable def F_X11_layers (s : d_S) (x1 : Int) (x2 : Int) : Option (Int) :=
  d_b (F_X11_within x1 0 9) (fun v1 => if v1 = 0 then
  some (-1)
  else
  d_b (F_X11_within x2 0 63) (fun v2 => if v2 = 0 then
  some (-1)
  else
  F_X11_layers_l27 s d_N x1 x2 0 0))
set_option maxRecDepth 100000 in
theorem D_X11_layers {t : Nat → Option p_C} {h : p_H} {s : d_S} {x1 : Int} {x2 : Int} {r : Int} (hF : F_X11_layers s x1 x2 = some r) (hH : d_V t h s) (r_x1 : d_R x1) (r_x2 : d_R x2) : p_wp p_GT p_MT 2 m_X11_layers 0 (lv_args 0 [.ref 2, .int (Int32.ofInt x1), .int (Int32.ofInt x2)]) [] h (d_QP h r) := by
  unfold F_X11_layers at hF
  refine dw_iln rfl rfl (dw_ic rfl (dw_bp rfl rfl (dw_sB hF rfl rfl rfl rfl rfl (dc := 0) (fun _ e => D_X11_within e r_x1 (d_rl rfl) (d_rl rfl)) (fun v1 r_v1 hF => ?_))))
  refine d_if hF (fun q hF => ?_) (fun q hF => ?_)
  · refine dw_zeq_y rfl (u := 20) rfl (d_R_b r_v1) q ?_
    exact dw_ic rfl (dw_rP rfl rfl (d_rl rfl) hF)
  · refine dw_zeq_n rfl (u := 20) rfl (d_R_b r_v1) q ?_
    refine dw_iln rfl rfl (dw_ic rfl (dw_bp rfl rfl (dw_sB hF rfl rfl rfl rfl rfl (dc := 0) (fun _ e => D_X11_within e r_x2 (d_rl rfl) (d_rl rfl)) (fun v2 r_v2 hF => ?_))))
    refine d_if hF (fun q hF => ?_) (fun q hF => ?_)
    · refine dw_zne_y rfl (u := 22) rfl (d_R_b r_v2) q ?_
      exact dw_ic rfl (dw_rP rfl rfl (d_rl rfl) hF)
    · refine dw_zne_n rfl (u := 22) rfl (d_R_b r_v2) q ?_
      refine dw_ic rfl (dw_isn rfl rfl (dw_ic rfl (dw_is rfl rfl (?_))))
      exact D_X11_layers_l27 hH _ hF (d_s1 (d_s1 rfl rfl (by decide)) rfl (by decide)) r_x1 (d_s1 (d_s1 rfl rfl (by decide)) rfl (by decide)) r_x2 (d_s1 (d_s1 rfl rfl (by decide)) rfl (by decide)) (d_rl rfl) (d_s1 p_lk_s1 rfl (by decide)) (d_rl rfl) p_lk_s1
set_option maxRecDepth 100000 in
noncomputable def F_X8_none_14 (s : d_S) : Option (Int × d_S) :=
  d_l (d_si s 14 2 0) (fun s1 => some (0, s1))
set_option maxRecDepth 100000 in
theorem D_X8_none_14 {t : Nat → Option p_C} {h : p_H} {s : d_S} {r : Int × d_S} (hF : F_X8_none_14 s = some r) (hH : d_V t h s) : p_wp p_GT p_MT 0 m_X8_none 0 (lv_args 0 [.ref 14]) [] h (d_QI t r) := by
  unfold F_X8_none_14 at hF
  exact dw_aln rfl rfl (dw_ic rfl (dw_pi (k := 2) rfl rfl rfl rfl hH d_c14_2 (d_rl rfl) (by decide) hF (fun s1 h1 hH1 hF => dw_ic rfl (dw_rI rfl rfl (d_rl rfl) hH1 hF))))
set_option maxRecDepth 100000 in
noncomputable def F_X8_add_14 (s : d_S) (x1 : Int) (x2 : Int) (x3 : Int) (x4 : Int) : Option (Int × d_S) :=
  if (s.1 14 2) < (s.1 14 0) then
  if (d_w ((s.1 14 2) * 4)) < 0 then
  some ((-2), s)
  else
  if 32 < (d_w ((d_w ((s.1 14 2) * 4)) + 4)) then
  some ((-2), s)
  else
  d_g (0 ≤ (d_w ((s.1 14 2) * 4)) ∧ (d_w ((s.1 14 2) * 4)) < 32) (d_l (d_si s 15 (((d_w ((s.1 14 2) * 4))).toNat) x1) (fun s2 => d_g (0 ≤ (d_w ((d_w ((s.1 14 2) * 4)) + 1)) ∧ (d_w ((d_w ((s.1 14 2) * 4)) + 1)) < 32) (d_l (d_si s2 15 (((d_w ((d_w ((s.1 14 2) * 4)) + 1))).toNat) x2) (fun s4 => d_g (0 ≤ (d_w ((d_w ((s.1 14 2) * 4)) + 2)) ∧ (d_w ((d_w ((s.1 14 2) * 4)) + 2)) < 32) (d_l (d_si s4 15 (((d_w ((d_w ((s.1 14 2) * 4)) + 2))).toNat) x3) (fun s6 => d_g (0 ≤ (d_w ((d_w ((s.1 14 2) * 4)) + 3)) ∧ (d_w ((d_w ((s.1 14 2) * 4)) + 3)) < 32) (d_l (d_si s6 15 (((d_w ((d_w ((s.1 14 2) * 4)) + 3))).toNat) x4) (fun s8 => d_l (d_si s8 14 2 (d_w ((s8.1 14 2) + 1))) (fun s9 => some ((s9.1 14 2), s9))))))))))
  else
  some ((-2), s)
set_option maxRecDepth 100000 in
theorem D_X8_add_14 {t : Nat → Option p_C} {h : p_H} {s : d_S} {x1 : Int} {x2 : Int} {x3 : Int} {x4 : Int} {r : Int × d_S} (hF : F_X8_add_14 s x1 x2 x3 x4 = some r) (hH : d_V t h s) (r_x1 : d_R x1) (r_x2 : d_R x2) (r_x3 : d_R x3) (r_x4 : d_R x4) : p_wp p_GT p_MT 0 m_X8_add 0 (lv_args 0 [.ref 14, .int (Int32.ofInt x1), .int (Int32.ofInt x2), .int (Int32.ofInt x3), .int (Int32.ofInt x4)]) [] h (d_QI t r) := by
  unfold F_X8_add_14 at hF
  refine dw_aln rfl rfl (dw_gi (k := 2) rfl rfl rfl hH d_c14_2 (dw_ic rfl (dw_mul rfl (dw_w1 (dw_is rfl rfl (dw_aln rfl (d_s1 rfl rfl (by decide)) (dw_gi (k := 2) rfl rfl rfl hH d_c14_2 (dw_aln rfl (d_s1 rfl rfl (by decide)) (dw_gi (k := 0) rfl rfl rfl hH d_c14_0 (?_))))))))))
  refine d_if hF (fun q hF => ?_) (fun q hF => ?_)
  · refine dw_ge_y rfl (u := 36) rfl hH.r hH.r q ?_
    refine dw_il rfl p_lk_s1 (?_)
    refine d_if hF (fun q hF => ?_) (fun q hF => ?_)
    · refine dw_zlt_y rfl (u := 36) rfl d_R_w q ?_
      exact dw_bp rfl rfl (dw_rI rfl rfl (d_rl rfl) hH hF)
    · refine dw_zlt_n rfl (u := 36) rfl d_R_w q ?_
      refine dw_il rfl p_lk_s1 (dw_ic rfl (dw_add rfl (dw_aln rfl (d_s1 rfl rfl (by decide)) (dw_gr rfl rfl rfl hH d_c14_1 (dw_len rfl hH d_a15 rfl (z := 32) rfl (dw_w2 (?_)))))))
      refine d_if hF (fun q hF => ?_) (fun q hF => ?_)
      · refine dw_le_y rfl (u := 39) rfl d_R_w (d_rl rfl) q ?_
        exact dw_bp rfl rfl (dw_rI rfl rfl (d_rl rfl) hH hF)
      · refine dw_le_n rfl (u := 39) rfl d_R_w (d_rl rfl) q ?_
        refine dw_aln rfl (d_s1 rfl rfl (by decide)) (dw_gr rfl rfl rfl hH d_c14_1 (dw_il rfl p_lk_s1 (dw_iln rfl (d_s1 rfl rfl (by decide)) (d_gd hF (fun g1 hF => dw_ast rfl hH d_a15 g1.1 g1.2 d_R_w rfl r_x1 hF (fun s2 h2 hH2 hF => dw_aln rfl (d_s1 rfl rfl (by decide)) (dw_gr rfl rfl rfl hH2 d_c14_1 (dw_il rfl p_lk_s1 (dw_ic rfl (?_))))))))))
        refine dw_add rfl (dw_iln rfl (d_s1 rfl rfl (by decide)) (dw_w2 (d_gd hF (fun g3 hF => dw_ast rfl hH2 d_a15 g3.1 g3.2 d_R_w rfl r_x2 hF (fun s4 h4 hH4 hF => dw_aln rfl (d_s1 rfl rfl (by decide)) (dw_gr rfl rfl rfl hH4 d_c14_1 (dw_il rfl p_lk_s1 (dw_ic rfl (dw_add rfl (?_))))))))))
        refine dw_iln rfl (d_s1 rfl rfl (by decide)) (dw_w2 (d_gd hF (fun g5 hF => dw_ast rfl hH4 d_a15 g5.1 g5.2 d_R_w rfl r_x3 hF (fun s6 h6 hH6 hF => dw_aln rfl (d_s1 rfl rfl (by decide)) (dw_gr rfl rfl rfl hH6 d_c14_1 (dw_il rfl p_lk_s1 (dw_ic rfl (dw_add rfl (dw_il rfl (d_s1 rfl rfl (by decide)) (?_))))))))))
        refine dw_w2 (d_gd hF (fun g7 hF => dw_ast rfl hH6 d_a15 g7.1 g7.2 d_R_w rfl r_x4 hF (fun s8 h8 hH8 hF => dw_aln rfl (d_s1 rfl rfl (by decide)) (dw_dupr rfl (dw_gi (k := 2) rfl rfl rfl hH8 d_c14_2 (dw_ic rfl (dw_add rfl (dw_w1 (dw_pi (k := 2) rfl rfl rfl rfl hH8 d_c14_2 d_R_w (by decide) hF (fun s9 h9 hH9 hF => ?_))))))))))
        exact dw_aln rfl (d_s1 rfl rfl (by decide)) (dw_gi (k := 2) rfl rfl rfl hH9 d_c14_2 (dw_rI rfl rfl hH9.r hH9 hF))
  · refine dw_ge_n rfl (u := 36) rfl hH.r hH.r q ?_
    exact dw_bp rfl rfl (dw_rI rfl rfl (d_rl rfl) hH hF)
set_option maxRecDepth 100000 in
noncomputable def F_X11_bid (s : d_S) (x1 : Int) : Option (Int × d_S) :=
  if x1 = (-1) then
  d_b2 (F_X8_none_14 s) (fun v1 s2 => some (v1, s2))
  else
  d_b (F_X11_within x1 0 999) (fun v3 => if v3 = 0 then
  some ((-2), s)
  else
  d_b2 (F_X8_add_14 s x1 0 0 0) (fun v4 s5 => some (v4, s5)))
set_option maxRecDepth 100000 in
theorem D_X11_bid {t : Nat → Option p_C} {h : p_H} {s : d_S} {x1 : Int} {r : Int × d_S} (hF : F_X11_bid s x1 = some r) (hH : d_V t h s) (r_x1 : d_R x1) : p_wp p_GT p_MT 1 m_X11_bid 0 (lv_args 0 [.ref 2, .int (Int32.ofInt x1)]) [] h (d_QI t r) := by
  unfold F_X11_bid at hF
  refine dw_iln rfl rfl (dw_ic rfl (?_))
  refine d_if hF (fun q hF => ?_) (fun q hF => ?_)
  · refine dw_ne_y rfl (u := 16) rfl r_x1 (d_rl rfl) q ?_
    exact dw_aln rfl rfl (dw_gr rfl rfl rfl hH d_c2_0 (dw_gr rfl rfl rfl hH d_c3_12 (dw_vI hF rfl (d_vir (n := 1) rfl rfl rfl rfl rfl hH d_c14_0 rfl) rfl rfl rfl (dc := 0) (fun _ _ e => D_X8_none_14 e hH) (fun v1 s2 h2 hH2 r_v1 hF => dw_rI rfl rfl r_v1 hH2 hF))))
  · refine dw_ne_n rfl (u := 16) rfl r_x1 (d_rl rfl) q ?_
    refine dw_iln rfl rfl (dw_ic rfl (dw_sp rfl rfl (dw_sB hF rfl rfl rfl rfl rfl (dc := 0) (fun _ e => D_X11_within e r_x1 (d_rl rfl) (d_rl rfl)) (fun v3 r_v3 hF => ?_))))
    refine d_if hF (fun q hF => ?_) (fun q hF => ?_)
    · refine dw_zeq_y rfl (u := 44) rfl (d_R_b r_v3) q ?_
      exact dw_bp rfl rfl (dw_rI rfl rfl (d_rl rfl) hH hF)
    · refine dw_zeq_n rfl (u := 44) rfl (d_R_b r_v3) q ?_
      exact dw_aln rfl rfl (dw_gr rfl rfl rfl hH d_c2_0 (dw_gr rfl rfl rfl hH d_c3_12 (dw_iln rfl rfl (dw_ic rfl (dw_ic rfl (dw_ic rfl (dw_vI hF rfl (d_vir (n := 5) rfl rfl rfl rfl rfl hH d_c14_0 rfl) rfl rfl rfl (dc := 0) (fun _ _ e => D_X8_add_14 e hH r_x1 (d_rl rfl) (d_rl rfl) (d_rl rfl)) (fun v4 s5 h5 hH5 r_v4 hF => dw_go rfl (u := 46) rfl (dw_rI rfl rfl r_v4 hH5 hF)))))))))
set_option maxRecDepth 100000 in
noncomputable def F_X8_part_14 (s : d_S) (x1 : Int) (x2 : Int) : Option (Int) :=
  if (d_w ((x1 * 4) + x2)) < 0 then
  some 0
  else
  if (d_w ((x1 * 4) + x2)) < 32 then
  d_g (0 ≤ (d_w ((x1 * 4) + x2)) ∧ (d_w ((x1 * 4) + x2)) < 32) (some (s.1 15 (((d_w ((x1 * 4) + x2))).toNat)))
  else
  some 0
set_option maxRecDepth 100000 in
theorem D_X8_part_14 {t : Nat → Option p_C} {h : p_H} {s : d_S} {x1 : Int} {x2 : Int} {r : Int} (hF : F_X8_part_14 s x1 x2 = some r) (hH : d_V t h s) (r_x1 : d_R x1) (r_x2 : d_R x2) : p_wp p_GT p_MT 0 m_X8_part 0 (lv_args 0 [.ref 14, .int (Int32.ofInt x1), .int (Int32.ofInt x2)]) [] h (d_QP h r) := by
  unfold F_X8_part_14 at hF
  refine dw_iln rfl rfl (dw_ic rfl (dw_mul rfl (dw_iln rfl rfl (dw_add rfl (dw_w1 (dw_isn rfl rfl (dw_iln rfl p_lk_s1 (?_))))))))
  refine d_if hF (fun q hF => ?_) (fun q hF => ?_)
  · refine dw_zlt_y rfl (u := 28) rfl d_R_w q ?_
    exact dw_ic rfl (dw_rP rfl rfl (d_rl rfl) hF)
  · refine dw_zlt_n rfl (u := 28) rfl d_R_w q ?_
    refine dw_iln rfl p_lk_s1 (dw_aln rfl (d_s1 rfl rfl (by decide)) (dw_gr rfl rfl rfl hH d_c14_1 (dw_len rfl hH d_a15 rfl (z := 32) rfl (?_))))
    refine d_if hF (fun q hF => ?_) (fun q hF => ?_)
    · refine dw_ge_y rfl (u := 28) rfl d_R_w (d_rl rfl) q ?_
      exact dw_aln rfl (d_s1 rfl rfl (by decide)) (dw_gr rfl rfl rfl hH d_c14_1 (dw_iln rfl p_lk_s1 (d_gd hF (fun g1 hF => dw_ald rfl hH d_a15 rfl g1.1 g1.2 d_R_w rfl (dw_go rfl (u := 29) rfl (dw_rP rfl rfl hH.r hF))))))
    · refine dw_ge_n rfl (u := 28) rfl d_R_w (d_rl rfl) q ?_
      exact dw_ic rfl (dw_rP rfl rfl (d_rl rfl) hF)
set_option maxRecDepth 100000 in
noncomputable def F_X11_winner_l4_b (s : d_S) (rec : Int → Int → Option (Int)) (x1 : Int) (x2 : Int) : Option (Int) :=
  if x2 < (s.1 14 2) then
  d_b (F_X8_part_14 s x2 0) (fun v1 => d_b (F_X8_part_14 s x1 0) (fun v2 => if v2 < v1 then
  rec x2 (d_w (x2 + 1))
  else
  rec x1 (d_w (x2 + 1))))
  else
  some x1
set_option maxRecDepth 100000 in
noncomputable def F_X11_winner_l4 (s : d_S) : Nat → Int → Int → Option (Int)
  | 0 => fun _ _ => none
  | n + 1 => F_X11_winner_l4_b s (F_X11_winner_l4 s n)
set_option maxRecDepth 100000 in
theorem D_X11_winner_l4 {t : Nat → Option p_C} {h : p_H} {s : d_S} {r : Int} (hH : d_V t h s) : ∀ (n : Nat) {x1 : Int} {x2 : Int} {ls : p_Ls}, F_X11_winner_l4 s n x1 x2 = some r → p_lk 0 ls = some (.ref 2) → d_R x1 → p_lk 1 ls = some (.int (Int32.ofInt x1)) → d_R x2 → p_lk 2 ls = some (.int (Int32.ofInt x2)) → p_wp p_GT p_MT 1 m_X11_winner 4 ls [] h (d_QP h r) := by
  intro n
  induction n with
  | zero =>
    intro x1 x2 ls hF l0 r_x1 l1 r_x2 l2
    cases (show (none : Option (Int)) = some r from hF)
  | succ n ih =>
    intro x1 x2 ls hF l0 r_x1 l1 r_x2 l2
    have hF : F_X11_winner_l4_b s (F_X11_winner_l4 s n) x1 x2 = some r := hF
    unfold F_X11_winner_l4_b at hF
    refine dw_iln rfl l2 (dw_aln rfl l0 (dw_gr rfl rfl rfl hH d_c2_0 (dw_gr rfl rfl rfl hH d_c3_12 (dw_gi (k := 2) rfl rfl rfl hH d_c14_2 (?_)))))
    refine d_if hF (fun q hF => ?_) (fun q hF => ?_)
    · refine dw_ge_y rfl (u := 53) rfl r_x2 hH.r q ?_
      refine dw_aln rfl l0 (dw_gr rfl rfl rfl hH d_c2_0 (dw_gr rfl rfl rfl hH d_c3_12 (dw_iln rfl l2 (dw_ic rfl (dw_vP hF rfl (d_vir (n := 3) rfl rfl rfl rfl rfl hH d_c14_0 rfl) rfl rfl rfl (dc := 0) (fun _ e => D_X8_part_14 e hH r_x2 (d_rl rfl)) (fun v1 r_v1 hF => dw_aln rfl l0 (dw_gr rfl rfl rfl hH d_c2_0 (dw_gr rfl rfl rfl hH d_c3_12 (dw_iln rfl l1 (?_))))))))))
      refine dw_ic rfl (dw_vP hF rfl (d_vir (n := 3) rfl rfl rfl rfl rfl hH d_c14_0 rfl) rfl rfl rfl (dc := 0) (fun _ e => D_X8_part_14 e hH r_x1 (d_rl rfl)) (fun v2 r_v2 hF => ?_))
      refine d_if hF (fun q hF => ?_) (fun q hF => ?_)
      · refine dw_le_y rfl (u := 47) rfl r_v1 r_v2 q ?_
        refine dw_iln rfl l2 (dw_isn rfl rfl (dw_ii rfl (d_s1 l2 rfl (by decide)) rfl (dw_go rfl (u := 4) rfl (?_))))
        exact ih hF (d_s1 (d_s1 l0 rfl (by decide)) rfl (by decide)) r_x2 (d_s1 p_lk_s1 rfl (by decide)) d_R_w p_lk_s1
      · refine dw_le_n rfl (u := 47) rfl r_v1 r_v2 q ?_
        refine dw_ii rfl l2 rfl (dw_go rfl (u := 4) rfl (?_))
        exact ih hF (d_s1 l0 rfl (by decide)) r_x1 (d_s1 l1 rfl (by decide)) d_R_w p_lk_s1
    · refine dw_ge_n rfl (u := 53) rfl r_x2 hH.r q ?_
      exact dw_iln rfl l1 (dw_rP rfl rfl r_x1 hF)
set_option maxRecDepth 100000 in
noncomputable def F_X11_winner (s : d_S) : Option (Int) :=
  F_X11_winner_l4 s d_N 0 1
set_option maxRecDepth 100000 in
theorem D_X11_winner {t : Nat → Option p_C} {h : p_H} {s : d_S} {r : Int} (hF : F_X11_winner s = some r) (hH : d_V t h s) : p_wp p_GT p_MT 1 m_X11_winner 0 (lv_args 0 [.ref 2]) [] h (d_QP h r) := by
  unfold F_X11_winner at hF
  refine dw_ic rfl (dw_isn rfl rfl (dw_ic rfl (dw_isn rfl rfl (?_))))
  exact D_X11_winner_l4 hH _ hF (d_s1 (d_s1 rfl rfl (by decide)) rfl (by decide)) (d_rl rfl) (d_s1 p_lk_s1 rfl (by decide)) (d_rl rfl) p_lk_s1
set_option maxRecDepth 100000 in
noncomputable def F_X11_highestBut_l4_b (s : d_S) (rec : Int → Int → Int → Option (Int)) (x1 : Int) (x2 : Int) (x3 : Int) : Option (Int) :=
  if x3 < (s.1 14 2) then
  if x3 = x1 then
  rec x1 x2 (d_w (x3 + 1))
  else
  d_b (F_X8_part_14 s x3 0) (fun v1 => d_b (F_J9_max_7cf53 x2 v1) (fun v2 => rec x1 v2 (d_w (x3 + 1))))
  else
  some x2
set_option maxRecDepth 100000 in
noncomputable def F_X11_highestBut_l4 (s : d_S) : Nat → Int → Int → Int → Option (Int)
  | 0 => fun _ _ _ => none
  | n + 1 => F_X11_highestBut_l4_b s (F_X11_highestBut_l4 s n)
set_option maxRecDepth 100000 in
theorem D_X11_highestBut_l4 {t : Nat → Option p_C} {h : p_H} {s : d_S} {r : Int} (hH : d_V t h s) : ∀ (n : Nat) {x1 : Int} {x2 : Int} {x3 : Int} {ls : p_Ls}, F_X11_highestBut_l4 s n x1 x2 x3 = some r → p_lk 0 ls = some (.ref 2) → d_R x1 → p_lk 1 ls = some (.int (Int32.ofInt x1)) → d_R x2 → p_lk 2 ls = some (.int (Int32.ofInt x2)) → d_R x3 → p_lk 3 ls = some (.int (Int32.ofInt x3)) → p_wp p_GT p_MT 1 m_X11_highestBut 4 ls [] h (d_QP h r) := by
  intro n
  induction n with
  | zero =>
    intro x1 x2 x3 ls hF l0 r_x1 l1 r_x2 l2 r_x3 l3
    cases (show (none : Option (Int)) = some r from hF)
  | succ n ih =>
    intro x1 x2 x3 ls hF l0 r_x1 l1 r_x2 l2 r_x3 l3
    have hF : F_X11_highestBut_l4_b s (F_X11_highestBut_l4 s n) x1 x2 x3 = some r := hF
    unfold F_X11_highestBut_l4_b at hF
    refine dw_iln rfl l3 (dw_aln rfl l0 (dw_gr rfl rfl rfl hH d_c2_0 (dw_gr rfl rfl rfl hH d_c3_12 (dw_gi (k := 2) rfl rfl rfl hH d_c14_2 (?_)))))
    refine d_if hF (fun q hF => ?_) (fun q hF => ?_)
    · refine dw_ge_y rfl (u := 46) rfl r_x3 hH.r q ?_
      refine dw_iln rfl l3 (dw_iln rfl l1 (?_))
      refine d_if hF (fun q hF => ?_) (fun q hF => ?_)
      · refine dw_eq_y rfl (u := 40) rfl r_x3 r_x1 q ?_
        refine dw_ii rfl l3 rfl (dw_go rfl (u := 4) rfl (?_))
        exact ih hF (d_s1 l0 rfl (by decide)) r_x1 (d_s1 l1 rfl (by decide)) r_x2 (d_s1 l2 rfl (by decide)) d_R_w p_lk_s1
      · refine dw_eq_n rfl (u := 40) rfl r_x3 r_x1 q ?_
        refine dw_iln rfl l2 (dw_aln rfl l0 (dw_gr rfl rfl rfl hH d_c2_0 (dw_gr rfl rfl rfl hH d_c3_12 (dw_iln rfl l3 (dw_ic rfl (dw_vP hF rfl (d_vir (n := 3) rfl rfl rfl rfl rfl hH d_c14_0 rfl) rfl rfl rfl (dc := 0) (fun _ e => D_X8_part_14 e hH r_x3 (d_rl rfl)) (fun v1 r_v1 hF => dw_sP hF rfl rfl rfl rfl rfl (dc := 0) (fun _ e => D_J9_max_7cf53 e r_x2 r_v1) (fun v2 r_v2 hF => dw_isn rfl rfl (dw_ii rfl (d_s1 l3 rfl (by decide)) rfl (?_))))))))))
        refine dw_go rfl (u := 4) rfl (?_)
        exact ih hF (d_s1 (d_s1 l0 rfl (by decide)) rfl (by decide)) r_x1 (d_s1 (d_s1 l1 rfl (by decide)) rfl (by decide)) r_v2 (d_s1 p_lk_s1 rfl (by decide)) d_R_w p_lk_s1
    · refine dw_ge_n rfl (u := 46) rfl r_x3 hH.r q ?_
      exact dw_iln rfl l2 (dw_rP rfl rfl r_x2 hF)
set_option maxRecDepth 100000 in
noncomputable def F_X11_highestBut (s : d_S) (x1 : Int) : Option (Int) :=
  F_X11_highestBut_l4 s d_N x1 0 0
set_option maxRecDepth 100000 in
theorem D_X11_highestBut {t : Nat → Option p_C} {h : p_H} {s : d_S} {x1 : Int} {r : Int} (hF : F_X11_highestBut s x1 = some r) (hH : d_V t h s) (r_x1 : d_R x1) : p_wp p_GT p_MT 1 m_X11_highestBut 0 (lv_args 0 [.ref 2, .int (Int32.ofInt x1)]) [] h (d_QP h r) := by
  unfold F_X11_highestBut at hF
  refine dw_ic rfl (dw_isn rfl rfl (dw_ic rfl (dw_isn rfl rfl (?_))))
  exact D_X11_highestBut_l4 hH _ hF (d_s1 (d_s1 rfl rfl (by decide)) rfl (by decide)) r_x1 (d_s1 (d_s1 rfl rfl (by decide)) rfl (by decide)) (d_rl rfl) (d_s1 p_lk_s1 rfl (by decide)) (d_rl rfl) p_lk_s1
set_option maxRecDepth 100000 in
noncomputable def F_X11_auction (s : d_S) (x1 : Int) : Option (Int) :=
  if (s.1 14 2) = 0 then
  some (-1)
  else
  d_b (F_X11_within x1 0 1) (fun v1 => if v1 = 0 then
  some (-1)
  else
  d_b (F_X11_winner s) (fun v2 => if x1 = 0 then
  some v2
  else
  d_b (F_X11_highestBut s v2) (fun v3 => some v3)))
set_option maxRecDepth 100000 in
theorem D_X11_auction {t : Nat → Option p_C} {h : p_H} {s : d_S} {x1 : Int} {r : Int} (hF : F_X11_auction s x1 = some r) (hH : d_V t h s) (r_x1 : d_R x1) : p_wp p_GT p_MT 2 m_X11_auction 0 (lv_args 0 [.ref 2, .int (Int32.ofInt x1)]) [] h (d_QP h r) := by
  unfold F_X11_auction at hF
  refine dw_aln rfl rfl (dw_gr rfl rfl rfl hH d_c2_0 (dw_gr rfl rfl rfl hH d_c3_12 (dw_gi (k := 2) rfl rfl rfl hH d_c14_2 (?_))))
  refine d_if hF (fun q hF => ?_) (fun q hF => ?_)
  · refine dw_zeq_y rfl (u := 22) rfl hH.r q ?_
    exact dw_ic rfl (dw_rP rfl rfl (d_rl rfl) hF)
  · refine dw_zeq_n rfl (u := 22) rfl hH.r q ?_
    refine dw_iln rfl rfl (dw_ic rfl (dw_ic rfl (dw_sB hF rfl rfl rfl rfl rfl (dc := 0) (fun _ e => D_X11_within e r_x1 (d_rl rfl) (d_rl rfl)) (fun v1 r_v1 hF => ?_))))
    refine d_if hF (fun q hF => ?_) (fun q hF => ?_)
    · refine dw_zne_y rfl (u := 24) rfl (d_R_b r_v1) q ?_
      exact dw_ic rfl (dw_rP rfl rfl (d_rl rfl) hF)
    · refine dw_zne_n rfl (u := 24) rfl (d_R_b r_v1) q ?_
      refine dw_aln rfl rfl (dw_vP hF rfl (d_vir (n := 1) rfl rfl rfl rfl rfl hH d_c2_0 rfl) rfl rfl rfl (dc := 1) (fun _ e => D_X11_winner e hH) (fun v2 r_v2 hF => dw_isn rfl rfl (dw_iln rfl (d_s1 rfl rfl (by decide)) (?_))))
      refine d_if hF (fun q hF => ?_) (fun q hF => ?_)
      · refine dw_zne_y rfl (u := 37) rfl r_x1 q ?_
        exact dw_iln rfl p_lk_s1 (dw_go rfl (u := 42) rfl (dw_rP rfl rfl r_v2 hF))
      · refine dw_zne_n rfl (u := 37) rfl r_x1 q ?_
        exact dw_aln rfl (d_s1 rfl rfl (by decide)) (dw_iln rfl p_lk_s1 (dw_vP hF rfl (d_vir (n := 2) rfl rfl rfl rfl rfl hH d_c2_0 rfl) rfl rfl rfl (dc := 1) (fun _ e => D_X11_highestBut e hH r_v2) (fun v3 r_v3 hF => dw_rP rfl rfl r_v3 hF)))
set_option maxRecDepth 100000 in
noncomputable def F_X11_lies (s : d_S) (x1 : Int) : Option (Int) :=
  d_b (F_X11_within x1 0 (d_w ((s.1 14 2) - 1))) (fun v1 => if v1 = 0 then
  some (-2)
  else
  d_b (F_X8_part_14 s x1 0) (fun v2 => d_b (F_X11_highestBut s x1) (fun v3 => d_b (F_X11_winner s) (fun v4 => if v4 = x1 then
  d_b (F_J9_max_7cf53 (d_w (v2 - v3)) 0) (fun v5 => some (d_w (v5 - (d_w (v2 - v3)))))
  else
  d_b (F_J9_max_7cf53 (d_w (v2 - v3)) 0) (fun v6 => some (d_w (v6 - 0)))))))
set_option maxRecDepth 100000 in
theorem D_X11_lies {t : Nat → Option p_C} {h : p_H} {s : d_S} {x1 : Int} {r : Int} (hF : F_X11_lies s x1 = some r) (hH : d_V t h s) (r_x1 : d_R x1) : p_wp p_GT p_MT 2 m_X11_lies 0 (lv_args 0 [.ref 2, .int (Int32.ofInt x1)]) [] h (d_QP h r) := by
  unfold F_X11_lies at hF
  refine dw_iln rfl rfl (dw_ic rfl (dw_aln rfl rfl (dw_gr rfl rfl rfl hH d_c2_0 (dw_gr rfl rfl rfl hH d_c3_12 (dw_gi (k := 2) rfl rfl rfl hH d_c14_2 (dw_ic rfl (dw_sub rfl (dw_w1 (dw_sB hF rfl rfl rfl rfl rfl (dc := 0) (fun _ e => D_X11_within e r_x1 (d_rl rfl) d_R_w) (fun v1 r_v1 hF => ?_))))))))))
  refine d_if hF (fun q hF => ?_) (fun q hF => ?_)
  · refine dw_zne_y rfl (u := 23) rfl (d_R_b r_v1) q ?_
    exact dw_bp rfl rfl (dw_rP rfl rfl (d_rl rfl) hF)
  · refine dw_zne_n rfl (u := 23) rfl (d_R_b r_v1) q ?_
    refine dw_aln rfl rfl (dw_gr rfl rfl rfl hH d_c2_0 (dw_gr rfl rfl rfl hH d_c3_12 (dw_iln rfl rfl (dw_ic rfl (dw_vP hF rfl (d_vir (n := 3) rfl rfl rfl rfl rfl hH d_c14_0 rfl) rfl rfl rfl (dc := 0) (fun _ e => D_X8_part_14 e hH r_x1 (d_rl rfl)) (fun v2 r_v2 hF => dw_aln rfl rfl (dw_iln rfl rfl (dw_vP hF rfl (d_vir (n := 2) rfl rfl rfl rfl rfl hH d_c2_0 rfl) rfl rfl rfl (dc := 1) (fun _ e => D_X11_highestBut e hH r_x1) (fun v3 r_v3 hF => dw_sub rfl (?_))))))))))
    refine dw_w1 (dw_isn rfl rfl (dw_aln rfl (d_s1 rfl rfl (by decide)) (dw_vP hF rfl (d_vir (n := 1) rfl rfl rfl rfl rfl hH d_c2_0 rfl) rfl rfl rfl (dc := 1) (fun _ e => D_X11_winner e hH) (fun v4 r_v4 hF => dw_iln rfl (d_s1 rfl rfl (by decide)) (?_)))))
    refine d_if hF (fun q hF => ?_) (fun q hF => ?_)
    · refine dw_ne_y rfl (u := 54) rfl r_v4 r_x1 q ?_
      exact dw_iln rfl p_lk_s1 (dw_go rfl (u := 55) rfl (dw_isn rfl rfl (dw_iln rfl (d_s1 p_lk_s1 rfl (by decide)) (dw_ic rfl (dw_sP hF rfl rfl rfl rfl rfl (dc := 0) (fun _ e => D_J9_max_7cf53 e d_R_w (d_rl rfl)) (fun v5 r_v5 hF => dw_iln rfl p_lk_s1 (dw_sub rfl (dw_w1 (dw_rP rfl rfl d_R_w hF)))))))))
    · refine dw_ne_n rfl (u := 54) rfl r_v4 r_x1 q ?_
      exact dw_ic rfl (dw_isn rfl rfl (dw_iln rfl (d_s1 p_lk_s1 rfl (by decide)) (dw_ic rfl (dw_sP hF rfl rfl rfl rfl rfl (dc := 0) (fun _ e => D_J9_max_7cf53 e d_R_w (d_rl rfl)) (fun v6 r_v6 hF => dw_iln rfl p_lk_s1 (dw_sub rfl (dw_w1 (dw_rP rfl rfl d_R_w hF))))))))
set_option maxRecDepth 100000 in
noncomputable def F_X11_kiss_j65 (s : d_S) (x4 : Int) (x5 : Int) (y0 : Int) : Option (Int) :=
  d_b (F_X11_divisor x4 x5) (fun v6 => d_g (¬ v6 = 0) (some (d_div y0 v6)))
set_option maxRecDepth 100000 in
theorem D_X11_kiss_j65 {t : Nat → Option p_C} {h : p_H} {s : d_S} {x4 : Int} {x5 : Int} {y0 : Int} {r : Int} {ls : p_Ls} (hF : F_X11_kiss_j65 s x4 x5 y0 = some r) (hH : d_V t h s) (r_x4 : d_R x4) (l4 : p_lk 4 ls = some (.int (Int32.ofInt x4))) (r_x5 : d_R x5) (l5 : p_lk 5 ls = some (.int (Int32.ofInt x5))) (r_y0 : d_R y0) : p_wp p_GT p_MT 2 m_X11_kiss 65 ls [.int (Int32.ofInt y0)] h (d_QP h r) := by
  unfold F_X11_kiss_j65 at hF
  exact dw_il rfl l4 (dw_il rfl l5 (dw_sP hF rfl rfl rfl rfl rfl (dc := 1) (fun _ e => D_X11_divisor e r_x4 r_x5) (fun v6 r_v6 hF => d_gd hF (fun g7 hF => dw_div rfl r_v6 g7 (dw_rP rfl rfl d_R_t hF)))))
set_option maxRecDepth 100000 in
noncomputable def F_X11_kiss (s : d_S) (x1 : Int) (x2 : Int) (x3 : Int) : Option (Int) :=
  d_b (F_X11_isSight s x1) (fun v1 => if v1 = 0 then
  some (-1)
  else
  d_b (F_X11_isBlock s x2) (fun v2 => if v2 = 0 then
  some (-1)
  else
  d_b (F_X4_cellsOf_3 s x1 x2) (fun v3 => d_b (F_X9_sightPart_3 s x1 3) (fun v4 => d_b (F_X9_sightPart_3 s x1 4) (fun v5 => if x3 = 0 then
  F_X11_kiss_j65 s v3 (d_w (v4 * v5)) v3
  else
  F_X11_kiss_j65 s v3 (d_w (v4 * v5)) (d_w (v4 * v5)))))))
set_option maxRecDepth 100000 in
theorem D_X11_kiss {t : Nat → Option p_C} {h : p_H} {s : d_S} {x1 : Int} {x2 : Int} {x3 : Int} {r : Int} (hF : F_X11_kiss s x1 x2 x3 = some r) (hH : d_V t h s) (r_x1 : d_R x1) (r_x2 : d_R x2) (r_x3 : d_R x3) : p_wp p_GT p_MT 2 m_X11_kiss 0 (lv_args 0 [.ref 2, .int (Int32.ofInt x1), .int (Int32.ofInt x2), .int (Int32.ofInt x3)]) [] h (d_QP h r) := by
  unfold F_X11_kiss at hF
  refine dw_aln rfl rfl (dw_iln rfl rfl (dw_vB hF rfl (d_vir (n := 2) rfl rfl rfl rfl rfl hH d_c2_0 rfl) rfl rfl rfl (dc := 1) (fun _ e => D_X11_isSight e hH r_x1) (fun v1 r_v1 hF => ?_)))
  refine d_if hF (fun q hF => ?_) (fun q hF => ?_)
  · refine dw_zeq_y rfl (u := 16) rfl (d_R_b r_v1) q ?_
    exact dw_ic rfl (dw_rP rfl rfl (d_rl rfl) hF)
  · refine dw_zeq_n rfl (u := 16) rfl (d_R_b r_v1) q ?_
    refine dw_aln rfl rfl (dw_iln rfl rfl (dw_vB hF rfl (d_vir (n := 2) rfl rfl rfl rfl rfl hH d_c2_0 rfl) rfl rfl rfl (dc := 1) (fun _ e => D_X11_isBlock e hH r_x2) (fun v2 r_v2 hF => ?_)))
    refine d_if hF (fun q hF => ?_) (fun q hF => ?_)
    · refine dw_zne_y rfl (u := 18) rfl (d_R_b r_v2) q ?_
      exact dw_ic rfl (dw_rP rfl rfl (d_rl rfl) hF)
    · refine dw_zne_n rfl (u := 18) rfl (d_R_b r_v2) q ?_
      refine dw_aln rfl rfl (dw_gr rfl rfl rfl hH d_c2_2 (dw_aln rfl rfl (dw_gr rfl rfl rfl hH d_c2_0 (dw_iln rfl rfl (dw_iln rfl rfl (dw_vP hF rfl (d_vir (n := 4) rfl rfl rfl rfl rfl hH d_c37_0 rfl) rfl rfl rfl (dc := 1) (fun _ e => D_X4_cellsOf_3 e hH r_x1 r_x2) (fun v3 r_v3 hF => dw_is rfl rfl (dw_aln rfl (d_s1 rfl rfl (by decide)) (dw_gr rfl rfl rfl hH d_c2_0 (?_))))))))))
      refine dw_iln rfl (d_s1 rfl rfl (by decide)) (dw_ic rfl (dw_vP hF rfl (d_vir (n := 3) rfl rfl rfl rfl rfl hH d_c3_0 rfl) rfl rfl rfl (dc := 0) (fun _ e => D_X9_sightPart_3 e hH r_x1 (d_rl rfl)) (fun v4 r_v4 hF => dw_aln rfl (d_s1 rfl rfl (by decide)) (dw_gr rfl rfl rfl hH d_c2_0 (dw_iln rfl (d_s1 rfl rfl (by decide)) (dw_ic rfl (dw_vP hF rfl (d_vir (n := 3) rfl rfl rfl rfl rfl hH d_c3_0 rfl) rfl rfl rfl (dc := 0) (fun _ e => D_X9_sightPart_3 e hH r_x1 (d_rl rfl)) (fun v5 r_v5 hF => dw_mul rfl (dw_w1 (?_))))))))))
      refine dw_is rfl rfl (dw_iln rfl (d_s1 (d_s1 rfl rfl (by decide)) rfl (by decide)) (?_))
      refine d_if hF (fun q hF => ?_) (fun q hF => ?_)
      · refine dw_zeq_y rfl (u := 63) rfl r_x3 q ?_
        refine dw_il rfl (d_s1 p_lk_s1 rfl (by decide)) (?_)
        exact D_X11_kiss_j65 hF hH r_v3 (d_s1 p_lk_s1 rfl (by decide)) d_R_w p_lk_s1 r_v3
      · refine dw_zeq_n rfl (u := 63) rfl r_x3 q ?_
        refine dw_il rfl p_lk_s1 (dw_go rfl (u := 65) rfl (?_))
        exact D_X11_kiss_j65 hF hH r_v3 (d_s1 p_lk_s1 rfl (by decide)) d_R_w p_lk_s1 d_R_w
set_option maxRecDepth 100000 in
noncomputable def F_X11_sightsOf_l4_b (s : d_S) (rec : Int → Int → Int → Option (Int)) (x1 : Int) (x2 : Int) (x3 : Int) : Option (Int) :=
  if x3 < (s.1 3 3) then
  d_b (F_X9_sightPart_3 s x3 0) (fun v1 => if v1 = x1 then
  d_b (F_X11_bit 1) (fun v2 => rec x1 (d_or x2 (d_shl v2 x3)) (d_w (x3 + 1)))
  else
  d_b (F_X11_bit 0) (fun v3 => rec x1 (d_or x2 (d_shl v3 x3)) (d_w (x3 + 1))))
  else
  some x2
set_option maxRecDepth 100000 in
noncomputable def F_X11_sightsOf_l4 (s : d_S) : Nat → Int → Int → Int → Option (Int)
  | 0 => fun _ _ _ => none
  | n + 1 => F_X11_sightsOf_l4_b s (F_X11_sightsOf_l4 s n)
set_option maxRecDepth 100000 in
theorem D_X11_sightsOf_l4 {t : Nat → Option p_C} {h : p_H} {s : d_S} {r : Int} (hH : d_V t h s) : ∀ (n : Nat) {x1 : Int} {x2 : Int} {x3 : Int} {ls : p_Ls}, F_X11_sightsOf_l4 s n x1 x2 x3 = some r → p_lk 0 ls = some (.ref 2) → d_R x1 → p_lk 1 ls = some (.int (Int32.ofInt x1)) → d_R x2 → p_lk 2 ls = some (.int (Int32.ofInt x2)) → d_R x3 → p_lk 3 ls = some (.int (Int32.ofInt x3)) → p_wp p_GT p_MT 1 m_X11_sightsOf 4 ls [] h (d_QP h r) := by
  intro n
  induction n with
  | zero =>
    intro x1 x2 x3 ls hF l0 r_x1 l1 r_x2 l2 r_x3 l3
    cases (show (none : Option (Int)) = some r from hF)
  | succ n ih =>
    intro x1 x2 x3 ls hF l0 r_x1 l1 r_x2 l2 r_x3 l3
    have hF : F_X11_sightsOf_l4_b s (F_X11_sightsOf_l4 s n) x1 x2 x3 = some r := hF
    unfold F_X11_sightsOf_l4_b at hF
    refine dw_iln rfl l3 (dw_aln rfl l0 (dw_gr rfl rfl rfl hH d_c2_0 (dw_gi (k := 3) rfl rfl rfl hH d_c3_3 (?_))))
    refine d_if hF (fun q hF => ?_) (fun q hF => ?_)
    · refine dw_ge_y rfl (u := 47) rfl r_x3 hH.r q ?_
      refine dw_iln rfl l2 (dw_aln rfl l0 (dw_gr rfl rfl rfl hH d_c2_0 (dw_iln rfl l3 (dw_ic rfl (dw_vP hF rfl (d_vir (n := 3) rfl rfl rfl rfl rfl hH d_c3_0 rfl) rfl rfl rfl (dc := 0) (fun _ e => D_X9_sightPart_3 e hH r_x3 (d_rl rfl)) (fun v1 r_v1 hF => dw_iln rfl l1 (?_)))))))
      refine d_if hF (fun q hF => ?_) (fun q hF => ?_)
      · refine dw_ne_y rfl (u := 33) rfl r_v1 r_x1 q ?_
        refine dw_ic rfl (dw_go rfl (u := 34) rfl (dw_sP hF rfl rfl rfl rfl rfl (dc := 0) (fun _ e => D_X11_bit e (d_rl rfl)) (fun v2 r_v2 hF => dw_iln rfl l3 (dw_shl rfl (dw_or rfl (dw_isn rfl rfl (dw_ii rfl (d_s1 l3 rfl (by decide)) rfl (dw_go rfl (u := 4) rfl (?_)))))))))
        exact ih hF (d_s1 (d_s1 l0 rfl (by decide)) rfl (by decide)) r_x1 (d_s1 (d_s1 l1 rfl (by decide)) rfl (by decide)) d_R_t (d_s1 p_lk_s1 rfl (by decide)) d_R_w p_lk_s1
      · refine dw_ne_n rfl (u := 33) rfl r_v1 r_x1 q ?_
        refine dw_ic rfl (dw_sP hF rfl rfl rfl rfl rfl (dc := 0) (fun _ e => D_X11_bit e (d_rl rfl)) (fun v3 r_v3 hF => dw_iln rfl l3 (dw_shl rfl (dw_or rfl (dw_isn rfl rfl (dw_ii rfl (d_s1 l3 rfl (by decide)) rfl (dw_go rfl (u := 4) rfl (?_))))))))
        exact ih hF (d_s1 (d_s1 l0 rfl (by decide)) rfl (by decide)) r_x1 (d_s1 (d_s1 l1 rfl (by decide)) rfl (by decide)) d_R_t (d_s1 p_lk_s1 rfl (by decide)) d_R_w p_lk_s1
    · refine dw_ge_n rfl (u := 47) rfl r_x3 hH.r q ?_
      exact dw_iln rfl l2 (dw_rP rfl rfl r_x2 hF)
set_option maxRecDepth 100000 in
noncomputable def F_X11_sightsOf (s : d_S) (x1 : Int) : Option (Int) :=
  F_X11_sightsOf_l4 s d_N x1 0 0
set_option maxRecDepth 100000 in
theorem D_X11_sightsOf {t : Nat → Option p_C} {h : p_H} {s : d_S} {x1 : Int} {r : Int} (hF : F_X11_sightsOf s x1 = some r) (hH : d_V t h s) (r_x1 : d_R x1) : p_wp p_GT p_MT 1 m_X11_sightsOf 0 (lv_args 0 [.ref 2, .int (Int32.ofInt x1)]) [] h (d_QP h r) := by
  unfold F_X11_sightsOf at hF
  refine dw_ic rfl (dw_isn rfl rfl (dw_ic rfl (dw_isn rfl rfl (?_))))
  exact D_X11_sightsOf_l4 hH _ hF (d_s1 (d_s1 rfl rfl (by decide)) rfl (by decide)) r_x1 (d_s1 (d_s1 rfl rfl (by decide)) rfl (by decide)) (d_rl rfl) (d_s1 p_lk_s1 rfl (by decide)) (d_rl rfl) p_lk_s1

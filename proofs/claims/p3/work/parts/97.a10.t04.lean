set_option maxRecDepth 100000 in
noncomputable def F_X3_make (s : d_S) (x1 : Int) (x2 : Int) : Option (Int × d_S) :=
  if (s.1 43 15) < 600 then
  d_g (0 ≤ (s.1 43 15) ∧ (s.1 43 15) < 600) (d_l (d_si s 46 (((s.1 43 15)).toNat) (d_or (d_shl x2 4) x1)) (fun s2 => d_l (d_si s2 43 15 (d_w ((s2.1 43 15) + 1))) (fun s3 => some (1, s3))))
  else
  d_b2 (F_X3_wrong s 1) (fun v4 s5 => some (v4, s5))
set_option maxRecDepth 100000 in
theorem D_X3_make {t : Nat → Option p_C} {h : p_H} {s : d_S} {x1 : Int} {x2 : Int} {r : Int × d_S} (hF : F_X3_make s x1 x2 = some r) (hH : d_V t h s) (r_x1 : d_R x1) (r_x2 : d_R x2) : p_wp p_GT p_MT 1 m_X3_make 0 (lv_args 0 [.ref 43, .int (Int32.ofInt x1), .int (Int32.ofInt x2)]) [] h (d_QC t r) := by
  unfold F_X3_make at hF
  refine dw_aln rfl rfl (dw_gi (k := 15) rfl rfl rfl hH d_c43_15 (dw_aln rfl rfl (dw_gr rfl rfl rfl hH d_c43_14 (dw_len rfl hH d_a46 rfl (z := 600) rfl (?_)))))
  refine d_if hF (fun q hF => ?_) (fun q hF => ?_)
  · refine dw_lt_y rfl (u := 18) rfl hH.r (d_rl rfl) q ?_
    refine dw_aln rfl rfl (dw_gr rfl rfl rfl hH d_c43_14 (dw_aln rfl rfl (dw_gi (k := 15) rfl rfl rfl hH d_c43_15 (dw_iln rfl rfl (dw_ic rfl (dw_shl rfl (dw_iln rfl rfl (dw_or rfl (d_gd hF (fun g1 hF => ?_))))))))))
    exact dw_ast rfl hH d_a46 g1.1 g1.2 hH.r rfl d_R_t hF (fun s2 h2 hH2 hF => dw_aln rfl rfl (dw_dupr rfl (dw_gi (k := 15) rfl rfl rfl hH2 d_c43_15 (dw_ic rfl (dw_add rfl (dw_w1 (dw_pi (k := 15) rfl rfl rfl rfl hH2 d_c43_15 d_R_w (by decide) hF (fun s3 h3 hH3 hF => dw_ic rfl (dw_rC rfl rfl (Or.inr rfl) hH3 hF)))))))))
  · refine dw_lt_n rfl (u := 18) rfl hH.r (d_rl rfl) q ?_
    exact dw_aln rfl rfl (dw_ic rfl (dw_vC hF rfl (d_vir (n := 2) rfl rfl rfl rfl rfl hH d_c43_0 rfl) rfl rfl rfl (dc := 0) (fun _ _ e => D_X3_wrong e hH (d_rl rfl)) (fun v4 s5 h5 hH5 r_v4 hF => dw_rC rfl rfl r_v4 hH5 hF)))
set_option maxRecDepth 100000 in
noncomputable def F_X3_lead (s : d_S) (x1 : Int) (x2 : Int) : Option (d_S) :=
  d_b (F_X11_within x1 0 (d_w ((s.1 43 15) - 1))) (fun v1 => if v1 = 0 then
  some s
  else
  if x1 < 600 then
  d_g (0 ≤ x1 ∧ x1 < 600) (d_g (0 ≤ x1 ∧ x1 < 600) (d_l (d_si s 46 ((x1).toNat) (d_or (d_shl x2 4) (d_and (s.1 46 (x1.toNat)) 15))) (fun s4 => some s4)))
  else
  some s)
set_option maxRecDepth 100000 in
theorem D_X3_lead {t : Nat → Option p_C} {h : p_H} {s : d_S} {x1 : Int} {x2 : Int} {r : d_S} (hF : F_X3_lead s x1 x2 = some r) (hH : d_V t h s) (r_x1 : d_R x1) (r_x2 : d_R x2) : p_wp p_GT p_MT 1 m_X3_lead 0 (lv_args 0 [.ref 43, .int (Int32.ofInt x1), .int (Int32.ofInt x2)]) [] h (d_QV t r) := by
  unfold F_X3_lead at hF
  refine dw_iln rfl rfl (dw_ic rfl (dw_aln rfl rfl (dw_gi (k := 15) rfl rfl rfl hH d_c43_15 (dw_ic rfl (dw_sub rfl (dw_w1 (dw_sB hF rfl rfl rfl rfl rfl (dc := 0) (fun _ e => D_X11_within e r_x1 (d_rl rfl) d_R_w) (fun v1 r_v1 hF => ?_))))))))
  refine d_if hF (fun q hF => ?_) (fun q hF => ?_)
  · refine dw_zeq_y rfl (u := 42) rfl (d_R_b r_v1) q ?_
    exact dw_rV rfl rfl hH hF
  · refine dw_zeq_n rfl (u := 42) rfl (d_R_b r_v1) q ?_
    refine dw_iln rfl rfl (dw_aln rfl rfl (dw_gr rfl rfl rfl hH d_c43_14 (dw_len rfl hH d_a46 rfl (z := 600) rfl (?_))))
    refine d_if hF (fun q hF => ?_) (fun q hF => ?_)
    · refine dw_ge_y rfl (u := 42) rfl r_x1 (d_rl rfl) q ?_
      refine dw_aln rfl rfl (dw_gr rfl rfl rfl hH d_c43_14 (dw_iln rfl rfl (dw_iln rfl rfl (dw_ic rfl (dw_shl rfl (dw_aln rfl rfl (dw_gr rfl rfl rfl hH d_c43_14 (dw_iln rfl rfl (d_gd hF (fun g2 hF => ?_))))))))))
      exact dw_ald rfl hH d_a46 rfl g2.1 g2.2 r_x1 rfl (dw_bp rfl rfl (dw_and rfl (dw_or rfl (d_gd hF (fun g3 hF => dw_ast rfl hH d_a46 g3.1 g3.2 r_x1 rfl d_R_t hF (fun s4 h4 hH4 hF => dw_rV rfl rfl hH4 hF))))))
    · refine dw_ge_n rfl (u := 42) rfl r_x1 (d_rl rfl) q ?_
      exact dw_rV rfl rfl hH hF
set_option maxRecDepth 100000 in
noncomputable def F_X3_closeJumps_l4_b (rec : Int → Int → d_S → Option (d_S)) (x2 : Int) (x3 : Int) (s : d_S) : Option (d_S) :=
  if x3 < 6 then
  d_b (F_X11_within x2 0 (d_w ((s.1 43 15) - 1))) (fun v1 => if v1 = 0 then
  some s
  else
  if x2 < 600 then
  d_g (0 ≤ x2 ∧ x2 < 600) (d_l (d_w ((d_shr (s.1 46 (x2.toNat)) 4) - 1)) (fun z3 => d_b (F_X3_lead s x2 (s.1 43 15)) (fun s4 => rec z3 (d_w (x3 + 1)) s4)))
  else
  some s)
  else
  some s
set_option maxRecDepth 100000 in
noncomputable def F_X3_closeJumps_l4 : Nat → Int → Int → d_S → Option (d_S)
  | 0 => fun _ _ _ => none
  | n + 1 => F_X3_closeJumps_l4_b (F_X3_closeJumps_l4 n)
set_option maxRecDepth 100000 in
theorem D_X3_closeJumps_l4 {t : Nat → Option p_C} {r : d_S} : ∀ (n : Nat) {x2 : Int} {x3 : Int} {ls : p_Ls} {s : d_S} {h : p_H}, F_X3_closeJumps_l4 n x2 x3 s = some r → d_V t h s → p_lk 0 ls = some (.ref 43) → d_R x2 → p_lk 2 ls = some (.int (Int32.ofInt x2)) → d_R x3 → p_lk 3 ls = some (.int (Int32.ofInt x3)) → p_wp p_GT p_MT 2 m_X3_closeJumps 4 ls [] h (d_QV t r) := by
  intro n
  induction n with
  | zero =>
    intro x2 x3 ls s h hF hH l0 r_x2 l2 r_x3 l3
    cases (show (none : Option (d_S)) = some r from hF)
  | succ n ih =>
    intro x2 x3 ls s h hF hH l0 r_x2 l2 r_x3 l3
    have hF : F_X3_closeJumps_l4_b (F_X3_closeJumps_l4 n) x2 x3 s = some r := hF
    unfold F_X3_closeJumps_l4_b at hF
    refine dw_iln rfl l3 (dw_bp rfl rfl (?_))
    refine d_if hF (fun q hF => ?_) (fun q hF => ?_)
    · refine dw_ge_y rfl (u := 63) rfl r_x3 (d_rl rfl) q ?_
      refine dw_iln rfl l2 (dw_ic rfl (dw_aln rfl l0 (dw_gi (k := 15) rfl rfl rfl hH d_c43_15 (dw_ic rfl (dw_sub rfl (dw_w1 (dw_sB hF rfl rfl rfl rfl rfl (dc := 0) (fun _ e => D_X11_within e r_x2 (d_rl rfl) d_R_w) (fun v1 r_v1 hF => ?_))))))))
      refine d_if hF (fun q hF => ?_) (fun q hF => ?_)
      · refine dw_zeq_y rfl (u := 63) rfl (d_R_b r_v1) q ?_
        exact dw_rV rfl rfl hH hF
      · refine dw_zeq_n rfl (u := 63) rfl (d_R_b r_v1) q ?_
        refine dw_iln rfl l2 (dw_aln rfl l0 (dw_gr rfl rfl rfl hH d_c43_14 (dw_len rfl hH d_a46 rfl (z := 600) rfl (?_))))
        refine d_if hF (fun q hF => ?_) (fun q hF => ?_)
        · refine dw_ge_y rfl (u := 63) rfl r_x2 (d_rl rfl) q ?_
          refine dw_aln rfl l0 (dw_gr rfl rfl rfl hH d_c43_14 (dw_iln rfl l2 (d_gd hF (fun g2 hF => dw_ald rfl hH d_a46 rfl g2.1 g2.2 r_x2 rfl (dw_ic rfl (dw_shr rfl (dw_ic rfl (dw_sub rfl (dw_w1 (?_))))))))))
          refine dw_nm hF d_R_w (fun z3 r_z3 hF => dw_is rfl rfl (dw_aln rfl (d_s1 l0 rfl (by decide)) (dw_iln rfl (d_s1 l2 rfl (by decide)) (dw_aln rfl (d_s1 l0 rfl (by decide)) (dw_gi (k := 15) rfl rfl rfl hH d_c43_15 (dw_vV hF rfl (d_vir (n := 3) rfl rfl rfl rfl rfl hH d_c43_0 rfl) rfl rfl rfl (dc := 1) (fun _ e => D_X3_lead e hH r_x2 hH.r) (fun s4 h4 hH4 hF => dw_il rfl p_lk_s1 (dw_isn rfl rfl (dw_ii rfl (d_s1 (d_s1 l3 rfl (by decide)) rfl (by decide)) rfl (?_))))))))))
          refine dw_go rfl (u := 4) rfl (?_)
          exact ih hF hH4 (d_s1 (d_s1 (d_s1 l0 rfl (by decide)) rfl (by decide)) rfl (by decide)) r_z3 (d_s1 p_lk_s1 rfl (by decide)) d_R_w p_lk_s1
        · refine dw_ge_n rfl (u := 63) rfl r_x2 (d_rl rfl) q ?_
          exact dw_rV rfl rfl hH hF
    · refine dw_ge_n rfl (u := 63) rfl r_x3 (d_rl rfl) q ?_
      exact dw_rV rfl rfl hH hF
set_option maxRecDepth 100000 in
noncomputable def F_X3_closeJumps (s : d_S) (x1 : Int) : Option (d_S) :=
  F_X3_closeJumps_l4 d_N x1 0 s
set_option maxRecDepth 100000 in
theorem D_X3_closeJumps {t : Nat → Option p_C} {h : p_H} {s : d_S} {x1 : Int} {r : d_S} (hF : F_X3_closeJumps s x1 = some r) (hH : d_V t h s) (r_x1 : d_R x1) : p_wp p_GT p_MT 2 m_X3_closeJumps 0 (lv_args 0 [.ref 43, .int (Int32.ofInt x1)]) [] h (d_QV t r) := by
  unfold F_X3_closeJumps at hF
  refine dw_iln rfl rfl (dw_isn rfl rfl (dw_ic rfl (dw_isn rfl rfl (?_))))
  exact D_X3_closeJumps_l4 _ hF hH (d_s1 (d_s1 rfl rfl (by decide)) rfl (by decide)) r_x1 (d_s1 p_lk_s1 rfl (by decide)) (d_rl rfl) p_lk_s1
set_option maxRecDepth 100000 in
noncomputable def F_X3_faultOfOne_j73 (s : d_S) : Option (Int) :=
  if (s.1 43 17) = 0 then
  some 0
  else
  some 7
set_option maxRecDepth 100000 in
theorem D_X3_faultOfOne_j73 {t : Nat → Option p_C} {h : p_H} {s : d_S} {r : Int} {ls : p_Ls} (hF : F_X3_faultOfOne_j73 s = some r) (hH : d_V t h s) (l0 : p_lk 0 ls = some (.ref 43)) : p_wp p_GT p_MT 0 m_X3_faultOfOne 73 ls [] h (d_QP h r) := by
  unfold F_X3_faultOfOne_j73 at hF
  refine dw_aln rfl l0 (dw_gi (k := 17) rfl rfl rfl hH d_c43_17 (?_))
  refine d_if hF (fun q hF => ?_) (fun q hF => ?_)
  · refine dw_zeq_y rfl (u := 85) rfl hH.r q ?_
    exact dw_ic rfl (dw_rP rfl rfl (d_rl rfl) hF)
  · refine dw_zeq_n rfl (u := 85) rfl hH.r q ?_
    exact dw_bp rfl rfl (dw_go rfl (u := 86) rfl (dw_rP rfl rfl (d_rl rfl) hF))
set_option maxRecDepth 100000 in
noncomputable def F_X3_faultOfOne_j50 (s : d_S) (x2 : Int) : Option (Int) :=
  if x2 = 0 then
  F_X3_faultOfOne_j73 s
  else
  if (s.1 43 7) < 14 then
  F_X3_faultOfOne_j73 s
  else
  if (s.1 43 16) = 1 then
  F_X3_faultOfOne_j73 s
  else
  some 5
set_option maxRecDepth 100000 in
theorem D_X3_faultOfOne_j50 {t : Nat → Option p_C} {h : p_H} {s : d_S} {x2 : Int} {r : Int} {ls : p_Ls} (hF : F_X3_faultOfOne_j50 s x2 = some r) (hH : d_V t h s) (l0 : p_lk 0 ls = some (.ref 43)) (r_x2 : d_R x2) (l2 : p_lk 2 ls = some (.int (Int32.ofInt x2))) : p_wp p_GT p_MT 0 m_X3_faultOfOne 50 ls [] h (d_QP h r) := by
  unfold F_X3_faultOfOne_j50 at hF
  refine dw_iln rfl l2 (?_)
  refine d_if hF (fun q hF => ?_) (fun q hF => ?_)
  · refine dw_zeq_y rfl (u := 73) rfl r_x2 q ?_
    exact D_X3_faultOfOne_j73 hF hH l0
  · refine dw_zeq_n rfl (u := 73) rfl r_x2 q ?_
    refine dw_aln rfl l0 (dw_gi (k := 7) rfl rfl rfl hH d_c43_7 (dw_bp rfl rfl (?_)))
    refine d_if hF (fun q hF => ?_) (fun q hF => ?_)
    · refine dw_lt_y rfl (u := 73) rfl hH.r (d_rl rfl) q ?_
      exact D_X3_faultOfOne_j73 hF hH l0
    · refine dw_lt_n rfl (u := 73) rfl hH.r (d_rl rfl) q ?_
      refine dw_aln rfl l0 (dw_gi (k := 16) rfl rfl rfl hH d_c43_16 (dw_ic rfl (?_)))
      refine d_if hF (fun q hF => ?_) (fun q hF => ?_)
      · refine dw_eq_y rfl (u := 73) rfl hH.r (d_rl rfl) q ?_
        exact D_X3_faultOfOne_j73 hF hH l0
      · refine dw_eq_n rfl (u := 73) rfl hH.r (d_rl rfl) q ?_
        exact dw_ic rfl (dw_rP rfl rfl (d_rl rfl) hF)
set_option maxRecDepth 100000 in
noncomputable def F_X3_faultOfOne_j38 (s : d_S) (x1 : Int) (x2 : Int) (x3 : Int) : Option (Int) :=
  if x1 = 0 then
  F_X3_faultOfOne_j50 s x2
  else
  if x3 < 8 then
  F_X3_faultOfOne_j50 s x2
  else
  some 3
set_option maxRecDepth 100000 in
theorem D_X3_faultOfOne_j38 {t : Nat → Option p_C} {h : p_H} {s : d_S} {x1 : Int} {x2 : Int} {x3 : Int} {r : Int} {ls : p_Ls} (hF : F_X3_faultOfOne_j38 s x1 x2 x3 = some r) (hH : d_V t h s) (l0 : p_lk 0 ls = some (.ref 43)) (r_x1 : d_R x1) (l1 : p_lk 1 ls = some (.int (Int32.ofInt x1))) (r_x2 : d_R x2) (l2 : p_lk 2 ls = some (.int (Int32.ofInt x2))) (r_x3 : d_R x3) (l3 : p_lk 3 ls = some (.int (Int32.ofInt x3))) : p_wp p_GT p_MT 0 m_X3_faultOfOne 38 ls [] h (d_QP h r) := by
  unfold F_X3_faultOfOne_j38 at hF
  refine dw_iln rfl l1 (?_)
  refine d_if hF (fun q hF => ?_) (fun q hF => ?_)
  · refine dw_zeq_y rfl (u := 50) rfl r_x1 q ?_
    exact D_X3_faultOfOne_j50 hF hH l0 r_x2 l2
  · refine dw_zeq_n rfl (u := 50) rfl r_x1 q ?_
    refine dw_iln rfl l3 (dw_bp rfl rfl (?_))
    refine d_if hF (fun q hF => ?_) (fun q hF => ?_)
    · refine dw_lt_y rfl (u := 50) rfl r_x3 (d_rl rfl) q ?_
      exact D_X3_faultOfOne_j50 hF hH l0 r_x2 l2
    · refine dw_lt_n rfl (u := 50) rfl r_x3 (d_rl rfl) q ?_
      exact dw_ic rfl (dw_rP rfl rfl (d_rl rfl) hF)
set_option maxRecDepth 100000 in
noncomputable def F_X3_faultOfOne_j18 (s : d_S) (x1 : Int) (x2 : Int) (x3 : Int) : Option (Int) :=
  if (s.1 43 6) = 2 then
  if 9999 < (s.1 43 7) then
  some 2
  else
  F_X3_faultOfOne_j38 s x1 x2 x3
  else
  F_X3_faultOfOne_j38 s x1 x2 x3
set_option maxRecDepth 100000 in
theorem D_X3_faultOfOne_j18 {t : Nat → Option p_C} {h : p_H} {s : d_S} {x1 : Int} {x2 : Int} {x3 : Int} {r : Int} {ls : p_Ls} (hF : F_X3_faultOfOne_j18 s x1 x2 x3 = some r) (hH : d_V t h s) (l0 : p_lk 0 ls = some (.ref 43)) (r_x1 : d_R x1) (l1 : p_lk 1 ls = some (.int (Int32.ofInt x1))) (r_x2 : d_R x2) (l2 : p_lk 2 ls = some (.int (Int32.ofInt x2))) (r_x3 : d_R x3) (l3 : p_lk 3 ls = some (.int (Int32.ofInt x3))) : p_wp p_GT p_MT 0 m_X3_faultOfOne 18 ls [] h (d_QP h r) := by
  unfold F_X3_faultOfOne_j18 at hF
  refine dw_aln rfl l0 (dw_gi (k := 6) rfl rfl rfl hH d_c43_6 (dw_ic rfl (?_)))
  refine d_if hF (fun q hF => ?_) (fun q hF => ?_)
  · refine dw_ne_y rfl (u := 38) rfl hH.r (d_rl rfl) q ?_
    refine dw_aln rfl l0 (dw_gi (k := 7) rfl rfl rfl hH d_c43_7 (dw_sp rfl rfl (?_)))
    refine d_if hF (fun q hF => ?_) (fun q hF => ?_)
    · refine dw_le_y rfl (u := 38) rfl hH.r (d_rl rfl) q ?_
      exact dw_ic rfl (dw_rP rfl rfl (d_rl rfl) hF)
    · refine dw_le_n rfl (u := 38) rfl hH.r (d_rl rfl) q ?_
      exact D_X3_faultOfOne_j38 hF hH l0 r_x1 l1 r_x2 l2 r_x3 l3
  · refine dw_ne_n rfl (u := 38) rfl hH.r (d_rl rfl) q ?_
    exact D_X3_faultOfOne_j38 hF hH l0 r_x1 l1 r_x2 l2 r_x3 l3
set_option maxRecDepth 100000 in
noncomputable def F_X3_faultOfOne (s : d_S) (x1 : Int) (x2 : Int) (x3 : Int) : Option (Int) :=
  if x1 = 0 then
  if x2 = 0 then
  if (s.1 43 6) = 2 then
  F_X3_faultOfOne_j18 s x1 x2 x3
  else
  some 1
  else
  F_X3_faultOfOne_j18 s x1 x2 x3
  else
  F_X3_faultOfOne_j18 s x1 x2 x3
set_option maxRecDepth 100000 in
theorem D_X3_faultOfOne {t : Nat → Option p_C} {h : p_H} {s : d_S} {x1 : Int} {x2 : Int} {x3 : Int} {r : Int} (hF : F_X3_faultOfOne s x1 x2 x3 = some r) (hH : d_V t h s) (r_x1 : d_R x1) (r_x2 : d_R x2) (r_x3 : d_R x3) : p_wp p_GT p_MT 0 m_X3_faultOfOne 0 (lv_args 0 [.ref 43, .int (Int32.ofInt x1), .int (Int32.ofInt x2), .int (Int32.ofInt x3)]) [] h (d_QP h r) := by
  unfold F_X3_faultOfOne at hF
  refine dw_iln rfl rfl (?_)
  refine d_if hF (fun q hF => ?_) (fun q hF => ?_)
  · refine dw_zne_y rfl (u := 18) rfl r_x1 q ?_
    refine dw_iln rfl rfl (?_)
    refine d_if hF (fun q hF => ?_) (fun q hF => ?_)
    · refine dw_zne_y rfl (u := 18) rfl r_x2 q ?_
      refine dw_aln rfl rfl (dw_gi (k := 6) rfl rfl rfl hH d_c43_6 (dw_ic rfl (?_)))
      refine d_if hF (fun q hF => ?_) (fun q hF => ?_)
      · refine dw_eq_y rfl (u := 18) rfl hH.r (d_rl rfl) q ?_
        exact D_X3_faultOfOne_j18 hF hH rfl r_x1 rfl r_x2 rfl r_x3 rfl
      · refine dw_eq_n rfl (u := 18) rfl hH.r (d_rl rfl) q ?_
        exact dw_ic rfl (dw_rP rfl rfl (d_rl rfl) hF)
    · refine dw_zne_n rfl (u := 18) rfl r_x2 q ?_
      exact D_X3_faultOfOne_j18 hF hH rfl r_x1 rfl r_x2 rfl r_x3 rfl
  · refine dw_zne_n rfl (u := 18) rfl r_x1 q ?_
    exact D_X3_faultOfOne_j18 hF hH rfl r_x1 rfl r_x2 rfl r_x3 rfl
abbrev d_G : Type := (d_S → Int → Option (Int × d_S)) × (d_S → Int → Option (Int × d_S)) × (d_S → Int → Option (Int × d_S)) × (d_S → Int → Option (Int × d_S))
def d_Gok (t : Nat → Option p_C) (dd : Nat) (g : d_G) : Prop := (∀ {s : d_S} {h : p_H} {x : Int} {r : Int × d_S}, g.1 s x = some r → d_V t h s → d_R x → p_wp p_GT p_MT dd m_X3_readSum 0 (lv_args 0 [.ref 43, .int (Int32.ofInt x)]) [] h (d_QC t r)) ∧ (∀ {s : d_S} {h : p_H} {x : Int} {r : Int × d_S}, g.2.1 s x = some r → d_V t h s → d_R x → p_wp p_GT p_MT dd m_X3_readProduct 0 (lv_args 0 [.ref 43, .int (Int32.ofInt x)]) [] h (d_QC t r)) ∧ (∀ {s : d_S} {h : p_H} {x : Int} {r : Int × d_S}, g.2.2.1 s x = some r → d_V t h s → d_R x → p_wp p_GT p_MT dd m_X3_readOne 0 (lv_args 0 [.ref 43, .int (Int32.ofInt x)]) [] h (d_QC t r)) ∧ (∀ {s : d_S} {h : p_H} {x : Int} {r : Int × d_S}, g.2.2.2 s x = some r → d_V t h s → d_R x → p_wp p_GT p_MT dd m_X3_readChoice 0 (lv_args 0 [.ref 43, .int (Int32.ofInt x)]) [] h (d_QC t r))
set_option maxRecDepth 100000 in
noncomputable def F_X3_readSum_j52 (g : d_G) (t : Nat → Option p_C) (k8 : Int → Int → Int → d_S → Option (Int × d_S)) (x1 : Int) (x3 : Int) (y0 : Int) (s : d_S) : Option (Int × d_S) :=
  d_b (F_X3_step t s) (fun s8 => d_b2 (g.2.1 s8 x1) (fun v9 s10 => if v9 = 0 then
  k8 x1 0 (d_w (x3 + 1)) s10
  else
  d_b2 (F_X3_make s10 y0 0) (fun v11 s12 => if v11 = 0 then
  k8 x1 0 (d_w (x3 + 1)) s12
  else
  k8 x1 1 (d_w (x3 + 1)) s12)))
set_option maxRecDepth 100000 in
theorem D_X3_readSum_j52 {g : d_G} {dd : Nat} {t : Nat → Option p_C} (hg : d_Gok t dd g) (h0 : 2 ≤ dd) {h : p_H} {s : d_S} {k8 : Int → Int → Int → d_S → Option (Int × d_S)} {x1 : Int} {x3 : Int} {y0 : Int} {r : Int × d_S} {ls : p_Ls} (hF : F_X3_readSum_j52 g t k8 x1 x3 y0 s = some r) (hH : d_V t h s) (l0 : p_lk 0 ls = some (.ref 43)) (r_x1 : d_R x1) (l1 : p_lk 1 ls = some (.int (Int32.ofInt x1))) (r_x3 : d_R x3) (l3 : p_lk 3 ls = some (.int (Int32.ofInt x3))) (r_y0 : d_R y0) (hk8 : ∀ {x1 : Int} {x2 : Int} {x3 : Int} {ls : p_Ls} {s : d_S} {h : p_H}, k8 x1 x2 x3 s = some r → d_V t h s → p_lk 0 ls = some (.ref 43) → d_R x1 → p_lk 1 ls = some (.int (Int32.ofInt x1)) → d_R x2 → p_lk 2 ls = some (.int (Int32.ofInt x2)) → d_R x3 → p_lk 3 ls = some (.int (Int32.ofInt x3)) → p_wp p_GT p_MT (dd + 1) m_X3_readSum 8 ls [] h (d_QC t r)) : p_wp p_GT p_MT (dd + 1) m_X3_readSum 52 ls [.int (Int32.ofInt y0)] h (d_QC t r) := by
  unfold F_X3_readSum_j52 at hF
  refine dw_is rfl rfl (dw_aln rfl (d_s1 l0 rfl (by decide)) (dw_vV hF rfl (d_vir (n := 1) rfl rfl rfl rfl rfl hH d_c43_0 rfl) rfl rfl (Nat.ble_eq_true_of_le (by omega)) (dc := 1) (fun _ e => D_X3_step e hH) (fun s8 h8 hH8 hF => dw_aln rfl (d_s1 l0 rfl (by decide)) (dw_iln rfl (d_s1 l1 rfl (by decide)) (dw_vC hF rfl (d_vir (n := 2) rfl rfl rfl rfl rfl hH8 d_c43_0 rfl) rfl rfl (Nat.ble_eq_true_of_le (by omega)) (dc := dd) (fun _ _ e => hg.2.1 e hH8 r_x1) (fun v9 s10 h10 hH10 r_v9 hF => ?_))))))
  refine d_if hF (fun q hF => ?_) (fun q hF => ?_)
  · refine dw_zeq_y rfl (u := 80) rfl (d_R_b r_v9) q ?_
    refine dw_ic rfl (dw_isn rfl rfl (dw_ii rfl (d_s1 (d_s1 l3 rfl (by decide)) rfl (by decide)) rfl (dw_go rfl (u := 8) rfl (?_))))
    exact hk8 hF hH10 (d_s1 (d_s1 (d_s1 l0 rfl (by decide)) rfl (by decide)) rfl (by decide)) r_x1 (d_s1 (d_s1 (d_s1 l1 rfl (by decide)) rfl (by decide)) rfl (by decide)) (d_rl rfl) (d_s1 p_lk_s1 rfl (by decide)) d_R_w p_lk_s1
  · refine dw_zeq_n rfl (u := 80) rfl (d_R_b r_v9) q ?_
    refine dw_aln rfl (d_s1 l0 rfl (by decide)) (dw_il rfl p_lk_s1 (dw_ic rfl (dw_vC hF rfl (d_vir (n := 3) rfl rfl rfl rfl rfl hH10 d_c43_0 rfl) rfl rfl (Nat.ble_eq_true_of_le (by omega)) (dc := 1) (fun _ _ e => D_X3_make e hH10 r_y0 (d_rl rfl)) (fun v11 s12 h12 hH12 r_v11 hF => ?_))))
    refine d_if hF (fun q hF => ?_) (fun q hF => ?_)
    · refine dw_zeq_y rfl (u := 80) rfl (d_R_b r_v11) q ?_
      refine dw_ic rfl (dw_isn rfl rfl (dw_ii rfl (d_s1 (d_s1 l3 rfl (by decide)) rfl (by decide)) rfl (dw_go rfl (u := 8) rfl (?_))))
      exact hk8 hF hH12 (d_s1 (d_s1 (d_s1 l0 rfl (by decide)) rfl (by decide)) rfl (by decide)) r_x1 (d_s1 (d_s1 (d_s1 l1 rfl (by decide)) rfl (by decide)) rfl (by decide)) (d_rl rfl) (d_s1 p_lk_s1 rfl (by decide)) d_R_w p_lk_s1
    · refine dw_zeq_n rfl (u := 80) rfl (d_R_b r_v11) q ?_
      refine dw_ic rfl (dw_go rfl (u := 81) rfl (dw_isn rfl rfl (dw_ii rfl (d_s1 (d_s1 l3 rfl (by decide)) rfl (by decide)) rfl (dw_go rfl (u := 8) rfl (?_)))))
      exact hk8 hF hH12 (d_s1 (d_s1 (d_s1 l0 rfl (by decide)) rfl (by decide)) rfl (by decide)) r_x1 (d_s1 (d_s1 (d_s1 l1 rfl (by decide)) rfl (by decide)) rfl (by decide)) (d_rl rfl) (d_s1 p_lk_s1 rfl (by decide)) d_R_w p_lk_s1
set_option maxRecDepth 100000 in
noncomputable def F_X3_readSum_j37 (g : d_G) (t : Nat → Option p_C) (k8 : Int → Int → Int → d_S → Option (Int × d_S)) (x1 : Int) (x3 : Int) (s : d_S) : Option (Int × d_S) :=
  d_b (F_X3_isSign s 43) (fun v7 => if v7 = 0 then
  F_X3_readSum_j52 g t k8 x1 x3 6 s
  else
  F_X3_readSum_j52 g t k8 x1 x3 5 s)
set_option maxRecDepth 100000 in
theorem D_X3_readSum_j37 {g : d_G} {dd : Nat} {t : Nat → Option p_C} (hg : d_Gok t dd g) (h0 : 2 ≤ dd) {h : p_H} {s : d_S} {k8 : Int → Int → Int → d_S → Option (Int × d_S)} {x1 : Int} {x3 : Int} {r : Int × d_S} {ls : p_Ls} (hF : F_X3_readSum_j37 g t k8 x1 x3 s = some r) (hH : d_V t h s) (l0 : p_lk 0 ls = some (.ref 43)) (r_x1 : d_R x1) (l1 : p_lk 1 ls = some (.int (Int32.ofInt x1))) (r_x3 : d_R x3) (l3 : p_lk 3 ls = some (.int (Int32.ofInt x3))) (hk8 : ∀ {x1 : Int} {x2 : Int} {x3 : Int} {ls : p_Ls} {s : d_S} {h : p_H}, k8 x1 x2 x3 s = some r → d_V t h s → p_lk 0 ls = some (.ref 43) → d_R x1 → p_lk 1 ls = some (.int (Int32.ofInt x1)) → d_R x2 → p_lk 2 ls = some (.int (Int32.ofInt x2)) → d_R x3 → p_lk 3 ls = some (.int (Int32.ofInt x3)) → p_wp p_GT p_MT (dd + 1) m_X3_readSum 8 ls [] h (d_QC t r)) : p_wp p_GT p_MT (dd + 1) m_X3_readSum 37 ls [] h (d_QC t r) := by
  unfold F_X3_readSum_j37 at hF
  refine dw_aln rfl l0 (dw_bp rfl rfl (dw_vB hF rfl (d_vir (n := 2) rfl rfl rfl rfl rfl hH d_c43_0 rfl) rfl rfl (Nat.ble_eq_true_of_le (by omega)) (dc := 0) (fun _ e => D_X3_isSign e hH (d_rl rfl)) (fun v7 r_v7 hF => ?_)))
  refine d_if hF (fun q hF => ?_) (fun q hF => ?_)
  · refine dw_zeq_y rfl (u := 50) rfl (d_R_b r_v7) q ?_
    refine dw_bp rfl rfl (?_)
    exact D_X3_readSum_j52 hg h0 hF hH l0 r_x1 l1 r_x3 l3 (d_rl rfl) hk8
  · refine dw_zeq_n rfl (u := 50) rfl (d_R_b r_v7) q ?_
    refine dw_ic rfl (dw_go rfl (u := 52) rfl (?_))
    exact D_X3_readSum_j52 hg h0 hF hH l0 r_x1 l1 r_x3 l3 (d_rl rfl) hk8
set_option maxRecDepth 100000 in
noncomputable def F_X3_readSum_l8_b (g : d_G) (t : Nat → Option p_C) (rec : Int → Int → Int → d_S → Option (Int × d_S)) (x1 : Int) (x2 : Int) (x3 : Int) (s : d_S) : Option (Int × d_S) :=
  if x3 < 300 then
  if x2 = 0 then
  d_g (x2 = 0 ∨ x2 = 1) (some (x2, s))
  else
  d_b (F_X3_isSign s 43) (fun v4 => if v4 = 0 then
  d_b (F_X3_isSign s 45) (fun v5 => if v5 = 0 then
  d_g (x2 = 0 ∨ x2 = 1) (some (x2, s))
  else
  F_X3_readSum_j37 g t rec x1 x3 s)
  else
  F_X3_readSum_j37 g t rec x1 x3 s)
  else
  d_g (x2 = 0 ∨ x2 = 1) (some (x2, s))
set_option maxRecDepth 100000 in
noncomputable def F_X3_readSum_l8 (g : d_G) (t : Nat → Option p_C) : Nat → Int → Int → Int → d_S → Option (Int × d_S)
  | 0 => fun _ _ _ _ => none
  | n + 1 => F_X3_readSum_l8_b g t (F_X3_readSum_l8 g t n)
set_option maxRecDepth 100000 in
theorem D_X3_readSum_l8 {g : d_G} {dd : Nat} {t : Nat → Option p_C} (hg : d_Gok t dd g) (h0 : 2 ≤ dd) {r : Int × d_S} : ∀ (n : Nat) {x1 : Int} {x2 : Int} {x3 : Int} {ls : p_Ls} {s : d_S} {h : p_H}, F_X3_readSum_l8 g t n x1 x2 x3 s = some r → d_V t h s → p_lk 0 ls = some (.ref 43) → d_R x1 → p_lk 1 ls = some (.int (Int32.ofInt x1)) → d_R x2 → p_lk 2 ls = some (.int (Int32.ofInt x2)) → d_R x3 → p_lk 3 ls = some (.int (Int32.ofInt x3)) → p_wp p_GT p_MT (dd + 1) m_X3_readSum 8 ls [] h (d_QC t r) := by
  intro n
  induction n with
  | zero =>
    intro x1 x2 x3 ls s h hF hH l0 r_x1 l1 r_x2 l2 r_x3 l3
    cases (show (none : Option (Int × d_S)) = some r from hF)
  | succ n ih =>
    intro x1 x2 x3 ls s h hF hH l0 r_x1 l1 r_x2 l2 r_x3 l3
    have hF : F_X3_readSum_l8_b g t (F_X3_readSum_l8 g t n) x1 x2 x3 s = some r := hF
    unfold F_X3_readSum_l8_b at hF
    refine dw_iln rfl l3 (dw_sp rfl rfl (?_))
    refine d_if hF (fun q hF => ?_) (fun q hF => ?_)
    · refine dw_ge_y rfl (u := 88) rfl r_x3 (d_rl rfl) q ?_
      refine dw_iln rfl l2 (?_)
      refine d_if hF (fun q hF => ?_) (fun q hF => ?_)
      · refine dw_zeq_y rfl (u := 88) rfl r_x2 q ?_
        exact dw_iln rfl l2 (d_gd hF (fun g3 hF => dw_rC rfl rfl g3 hH hF))
      · refine dw_zeq_n rfl (u := 88) rfl r_x2 q ?_
        refine dw_aln rfl l0 (dw_bp rfl rfl (dw_vB hF rfl (d_vir (n := 2) rfl rfl rfl rfl rfl hH d_c43_0 rfl) rfl rfl (Nat.ble_eq_true_of_le (by omega)) (dc := 0) (fun _ e => D_X3_isSign e hH (d_rl rfl)) (fun v4 r_v4 hF => ?_)))
        refine d_if hF (fun q hF => ?_) (fun q hF => ?_)
        · refine dw_zne_y rfl (u := 37) rfl (d_R_b r_v4) q ?_
          refine dw_aln rfl l0 (dw_bp rfl rfl (dw_vB hF rfl (d_vir (n := 2) rfl rfl rfl rfl rfl hH d_c43_0 rfl) rfl rfl (Nat.ble_eq_true_of_le (by omega)) (dc := 0) (fun _ e => D_X3_isSign e hH (d_rl rfl)) (fun v5 r_v5 hF => ?_)))
          refine d_if hF (fun q hF => ?_) (fun q hF => ?_)
          · refine dw_zeq_y rfl (u := 88) rfl (d_R_b r_v5) q ?_
            exact dw_iln rfl l2 (d_gd hF (fun g6 hF => dw_rC rfl rfl g6 hH hF))
          · refine dw_zeq_n rfl (u := 88) rfl (d_R_b r_v5) q ?_
            exact D_X3_readSum_j37 hg h0 hF hH l0 r_x1 l1 r_x3 l3 (fun {x1} {x2} {x3} {ls} {s} {h} hF hH l0 r_x1 l1 r_x2 l2 r_x3 l3 => ih hF hH l0 r_x1 l1 r_x2 l2 r_x3 l3)
        · refine dw_zne_n rfl (u := 37) rfl (d_R_b r_v4) q ?_
          exact D_X3_readSum_j37 hg h0 hF hH l0 r_x1 l1 r_x3 l3 (fun {x1} {x2} {x3} {ls} {s} {h} hF hH l0 r_x1 l1 r_x2 l2 r_x3 l3 => ih hF hH l0 r_x1 l1 r_x2 l2 r_x3 l3)
    · refine dw_ge_n rfl (u := 88) rfl r_x3 (d_rl rfl) q ?_
      exact dw_iln rfl l2 (d_gd hF (fun g13 hF => dw_rC rfl rfl g13 hH hF))
set_option maxRecDepth 100000 in
noncomputable def F_X3_readSum (g : d_G) (t : Nat → Option p_C) (s : d_S) (x1 : Int) : Option (Int × d_S) :=
  d_b2 (g.2.1 s x1) (fun v1 s2 => F_X3_readSum_l8 g t d_N x1 v1 0 s2)
set_option maxRecDepth 100000 in
theorem D_X3_readSum {g : d_G} {dd : Nat} {t : Nat → Option p_C} (hg : d_Gok t dd g) (h0 : 2 ≤ dd) {h : p_H} {s : d_S} {x1 : Int} {r : Int × d_S} (hF : F_X3_readSum g t s x1 = some r) (hH : d_V t h s) (r_x1 : d_R x1) : p_wp p_GT p_MT (dd + 1) m_X3_readSum 0 (lv_args 0 [.ref 43, .int (Int32.ofInt x1)]) [] h (d_QC t r) := by
  unfold F_X3_readSum at hF
  refine dw_aln rfl rfl (dw_iln rfl rfl (dw_vC hF rfl (d_vir (n := 2) rfl rfl rfl rfl rfl hH d_c43_0 rfl) rfl rfl (Nat.ble_eq_true_of_le (by omega)) (dc := dd) (fun _ _ e => hg.2.1 e hH r_x1) (fun v1 s2 h2 hH2 r_v1 hF => dw_isn rfl rfl (dw_ic rfl (dw_isn rfl rfl (?_))))))
  exact D_X3_readSum_l8 hg h0 _ hF hH2 (d_s1 (d_s1 rfl rfl (by decide)) rfl (by decide)) r_x1 (d_s1 (d_s1 rfl rfl (by decide)) rfl (by decide)) (d_R_b r_v1) (d_s1 p_lk_s1 rfl (by decide)) (d_rl rfl) p_lk_s1
set_option maxRecDepth 100000 in
noncomputable def F_X3_readProduct_j53 (g : d_G) (t : Nat → Option p_C) (k8 : Int → Int → Int → d_S → Option (Int × d_S)) (x1 : Int) (x3 : Int) (y0 : Int) (s : d_S) : Option (Int × d_S) :=
  d_b (F_X3_step t s) (fun s8 => d_b2 (g.2.2.1 s8 x1) (fun v9 s10 => if v9 = 0 then
  k8 x1 0 (d_w (x3 + 1)) s10
  else
  d_b2 (F_X3_make s10 y0 0) (fun v11 s12 => if v11 = 0 then
  k8 x1 0 (d_w (x3 + 1)) s12
  else
  k8 x1 1 (d_w (x3 + 1)) s12)))
set_option maxRecDepth 100000 in
theorem D_X3_readProduct_j53 {g : d_G} {dd : Nat} {t : Nat → Option p_C} (hg : d_Gok t dd g) (h0 : 2 ≤ dd) {h : p_H} {s : d_S} {k8 : Int → Int → Int → d_S → Option (Int × d_S)} {x1 : Int} {x3 : Int} {y0 : Int} {r : Int × d_S} {ls : p_Ls} (hF : F_X3_readProduct_j53 g t k8 x1 x3 y0 s = some r) (hH : d_V t h s) (l0 : p_lk 0 ls = some (.ref 43)) (r_x1 : d_R x1) (l1 : p_lk 1 ls = some (.int (Int32.ofInt x1))) (r_x3 : d_R x3) (l3 : p_lk 3 ls = some (.int (Int32.ofInt x3))) (r_y0 : d_R y0) (hk8 : ∀ {x1 : Int} {x2 : Int} {x3 : Int} {ls : p_Ls} {s : d_S} {h : p_H}, k8 x1 x2 x3 s = some r → d_V t h s → p_lk 0 ls = some (.ref 43) → d_R x1 → p_lk 1 ls = some (.int (Int32.ofInt x1)) → d_R x2 → p_lk 2 ls = some (.int (Int32.ofInt x2)) → d_R x3 → p_lk 3 ls = some (.int (Int32.ofInt x3)) → p_wp p_GT p_MT (dd + 1) m_X3_readProduct 8 ls [] h (d_QC t r)) : p_wp p_GT p_MT (dd + 1) m_X3_readProduct 53 ls [.int (Int32.ofInt y0)] h (d_QC t r) := by
  unfold F_X3_readProduct_j53 at hF
  refine dw_is rfl rfl (dw_aln rfl (d_s1 l0 rfl (by decide)) (dw_vV hF rfl (d_vir (n := 1) rfl rfl rfl rfl rfl hH d_c43_0 rfl) rfl rfl (Nat.ble_eq_true_of_le (by omega)) (dc := 1) (fun _ e => D_X3_step e hH) (fun s8 h8 hH8 hF => dw_aln rfl (d_s1 l0 rfl (by decide)) (dw_iln rfl (d_s1 l1 rfl (by decide)) (dw_vC hF rfl (d_vir (n := 2) rfl rfl rfl rfl rfl hH8 d_c43_0 rfl) rfl rfl (Nat.ble_eq_true_of_le (by omega)) (dc := dd) (fun _ _ e => hg.2.2.1 e hH8 r_x1) (fun v9 s10 h10 hH10 r_v9 hF => ?_))))))
  refine d_if hF (fun q hF => ?_) (fun q hF => ?_)
  · refine dw_zeq_y rfl (u := 81) rfl (d_R_b r_v9) q ?_
    refine dw_ic rfl (dw_isn rfl rfl (dw_ii rfl (d_s1 (d_s1 l3 rfl (by decide)) rfl (by decide)) rfl (dw_go rfl (u := 8) rfl (?_))))
    exact hk8 hF hH10 (d_s1 (d_s1 (d_s1 l0 rfl (by decide)) rfl (by decide)) rfl (by decide)) r_x1 (d_s1 (d_s1 (d_s1 l1 rfl (by decide)) rfl (by decide)) rfl (by decide)) (d_rl rfl) (d_s1 p_lk_s1 rfl (by decide)) d_R_w p_lk_s1
  · refine dw_zeq_n rfl (u := 81) rfl (d_R_b r_v9) q ?_
    refine dw_aln rfl (d_s1 l0 rfl (by decide)) (dw_il rfl p_lk_s1 (dw_ic rfl (dw_vC hF rfl (d_vir (n := 3) rfl rfl rfl rfl rfl hH10 d_c43_0 rfl) rfl rfl (Nat.ble_eq_true_of_le (by omega)) (dc := 1) (fun _ _ e => D_X3_make e hH10 r_y0 (d_rl rfl)) (fun v11 s12 h12 hH12 r_v11 hF => ?_))))
    refine d_if hF (fun q hF => ?_) (fun q hF => ?_)
    · refine dw_zeq_y rfl (u := 81) rfl (d_R_b r_v11) q ?_
      refine dw_ic rfl (dw_isn rfl rfl (dw_ii rfl (d_s1 (d_s1 l3 rfl (by decide)) rfl (by decide)) rfl (dw_go rfl (u := 8) rfl (?_))))
      exact hk8 hF hH12 (d_s1 (d_s1 (d_s1 l0 rfl (by decide)) rfl (by decide)) rfl (by decide)) r_x1 (d_s1 (d_s1 (d_s1 l1 rfl (by decide)) rfl (by decide)) rfl (by decide)) (d_rl rfl) (d_s1 p_lk_s1 rfl (by decide)) d_R_w p_lk_s1
    · refine dw_zeq_n rfl (u := 81) rfl (d_R_b r_v11) q ?_
      refine dw_ic rfl (dw_go rfl (u := 82) rfl (dw_isn rfl rfl (dw_ii rfl (d_s1 (d_s1 l3 rfl (by decide)) rfl (by decide)) rfl (dw_go rfl (u := 8) rfl (?_)))))
      exact hk8 hF hH12 (d_s1 (d_s1 (d_s1 l0 rfl (by decide)) rfl (by decide)) rfl (by decide)) r_x1 (d_s1 (d_s1 (d_s1 l1 rfl (by decide)) rfl (by decide)) rfl (by decide)) (d_rl rfl) (d_s1 p_lk_s1 rfl (by decide)) d_R_w p_lk_s1
set_option maxRecDepth 100000 in
noncomputable def F_X3_readProduct_j37 (g : d_G) (t : Nat → Option p_C) (k8 : Int → Int → Int → d_S → Option (Int × d_S)) (x1 : Int) (x3 : Int) (s : d_S) : Option (Int × d_S) :=
  d_b (F_X3_isSign s 42) (fun v7 => if v7 = 0 then
  F_X3_readProduct_j53 g t k8 x1 x3 8 s
  else
  F_X3_readProduct_j53 g t k8 x1 x3 7 s)
set_option maxRecDepth 100000 in
theorem D_X3_readProduct_j37 {g : d_G} {dd : Nat} {t : Nat → Option p_C} (hg : d_Gok t dd g) (h0 : 2 ≤ dd) {h : p_H} {s : d_S} {k8 : Int → Int → Int → d_S → Option (Int × d_S)} {x1 : Int} {x3 : Int} {r : Int × d_S} {ls : p_Ls} (hF : F_X3_readProduct_j37 g t k8 x1 x3 s = some r) (hH : d_V t h s) (l0 : p_lk 0 ls = some (.ref 43)) (r_x1 : d_R x1) (l1 : p_lk 1 ls = some (.int (Int32.ofInt x1))) (r_x3 : d_R x3) (l3 : p_lk 3 ls = some (.int (Int32.ofInt x3))) (hk8 : ∀ {x1 : Int} {x2 : Int} {x3 : Int} {ls : p_Ls} {s : d_S} {h : p_H}, k8 x1 x2 x3 s = some r → d_V t h s → p_lk 0 ls = some (.ref 43) → d_R x1 → p_lk 1 ls = some (.int (Int32.ofInt x1)) → d_R x2 → p_lk 2 ls = some (.int (Int32.ofInt x2)) → d_R x3 → p_lk 3 ls = some (.int (Int32.ofInt x3)) → p_wp p_GT p_MT (dd + 1) m_X3_readProduct 8 ls [] h (d_QC t r)) : p_wp p_GT p_MT (dd + 1) m_X3_readProduct 37 ls [] h (d_QC t r) := by
  unfold F_X3_readProduct_j37 at hF
  refine dw_aln rfl l0 (dw_bp rfl rfl (dw_vB hF rfl (d_vir (n := 2) rfl rfl rfl rfl rfl hH d_c43_0 rfl) rfl rfl (Nat.ble_eq_true_of_le (by omega)) (dc := 0) (fun _ e => D_X3_isSign e hH (d_rl rfl)) (fun v7 r_v7 hF => ?_)))
  refine d_if hF (fun q hF => ?_) (fun q hF => ?_)
  · refine dw_zeq_y rfl (u := 51) rfl (d_R_b r_v7) q ?_
    refine dw_bp rfl rfl (?_)
    exact D_X3_readProduct_j53 hg h0 hF hH l0 r_x1 l1 r_x3 l3 (d_rl rfl) hk8
  · refine dw_zeq_n rfl (u := 51) rfl (d_R_b r_v7) q ?_
    refine dw_bp rfl rfl (dw_go rfl (u := 53) rfl (?_))
    exact D_X3_readProduct_j53 hg h0 hF hH l0 r_x1 l1 r_x3 l3 (d_rl rfl) hk8
set_option maxRecDepth 100000 in
noncomputable def F_X3_readProduct_l8_b (g : d_G) (t : Nat → Option p_C) (rec : Int → Int → Int → d_S → Option (Int × d_S)) (x1 : Int) (x2 : Int) (x3 : Int) (s : d_S) : Option (Int × d_S) :=
  if x3 < 300 then
  if x2 = 0 then
  d_g (x2 = 0 ∨ x2 = 1) (some (x2, s))
  else
  d_b (F_X3_isSign s 42) (fun v4 => if v4 = 0 then
  d_b (F_X3_isSign s 47) (fun v5 => if v5 = 0 then
  d_g (x2 = 0 ∨ x2 = 1) (some (x2, s))
  else
  F_X3_readProduct_j37 g t rec x1 x3 s)
  else
  F_X3_readProduct_j37 g t rec x1 x3 s)
  else
  d_g (x2 = 0 ∨ x2 = 1) (some (x2, s))
set_option maxRecDepth 100000 in
noncomputable def F_X3_readProduct_l8 (g : d_G) (t : Nat → Option p_C) : Nat → Int → Int → Int → d_S → Option (Int × d_S)
  | 0 => fun _ _ _ _ => none
  | n + 1 => F_X3_readProduct_l8_b g t (F_X3_readProduct_l8 g t n)
set_option maxRecDepth 100000 in
theorem D_X3_readProduct_l8 {g : d_G} {dd : Nat} {t : Nat → Option p_C} (hg : d_Gok t dd g) (h0 : 2 ≤ dd) {r : Int × d_S} : ∀ (n : Nat) {x1 : Int} {x2 : Int} {x3 : Int} {ls : p_Ls} {s : d_S} {h : p_H}, F_X3_readProduct_l8 g t n x1 x2 x3 s = some r → d_V t h s → p_lk 0 ls = some (.ref 43) → d_R x1 → p_lk 1 ls = some (.int (Int32.ofInt x1)) → d_R x2 → p_lk 2 ls = some (.int (Int32.ofInt x2)) → d_R x3 → p_lk 3 ls = some (.int (Int32.ofInt x3)) → p_wp p_GT p_MT (dd + 1) m_X3_readProduct 8 ls [] h (d_QC t r) := by
  intro n
  induction n with
  | zero =>
    intro x1 x2 x3 ls s h hF hH l0 r_x1 l1 r_x2 l2 r_x3 l3
    cases (show (none : Option (Int × d_S)) = some r from hF)
  | succ n ih =>
    intro x1 x2 x3 ls s h hF hH l0 r_x1 l1 r_x2 l2 r_x3 l3
    have hF : F_X3_readProduct_l8_b g t (F_X3_readProduct_l8 g t n) x1 x2 x3 s = some r := hF
    unfold F_X3_readProduct_l8_b at hF
    refine dw_iln rfl l3 (dw_sp rfl rfl (?_))
    refine d_if hF (fun q hF => ?_) (fun q hF => ?_)
    · refine dw_ge_y rfl (u := 89) rfl r_x3 (d_rl rfl) q ?_
      refine dw_iln rfl l2 (?_)
      refine d_if hF (fun q hF => ?_) (fun q hF => ?_)
      · refine dw_zeq_y rfl (u := 89) rfl r_x2 q ?_
        exact dw_iln rfl l2 (d_gd hF (fun g3 hF => dw_rC rfl rfl g3 hH hF))
      · refine dw_zeq_n rfl (u := 89) rfl r_x2 q ?_
        refine dw_aln rfl l0 (dw_bp rfl rfl (dw_vB hF rfl (d_vir (n := 2) rfl rfl rfl rfl rfl hH d_c43_0 rfl) rfl rfl (Nat.ble_eq_true_of_le (by omega)) (dc := 0) (fun _ e => D_X3_isSign e hH (d_rl rfl)) (fun v4 r_v4 hF => ?_)))
        refine d_if hF (fun q hF => ?_) (fun q hF => ?_)
        · refine dw_zne_y rfl (u := 37) rfl (d_R_b r_v4) q ?_
          refine dw_aln rfl l0 (dw_bp rfl rfl (dw_vB hF rfl (d_vir (n := 2) rfl rfl rfl rfl rfl hH d_c43_0 rfl) rfl rfl (Nat.ble_eq_true_of_le (by omega)) (dc := 0) (fun _ e => D_X3_isSign e hH (d_rl rfl)) (fun v5 r_v5 hF => ?_)))
          refine d_if hF (fun q hF => ?_) (fun q hF => ?_)
          · refine dw_zeq_y rfl (u := 89) rfl (d_R_b r_v5) q ?_
            exact dw_iln rfl l2 (d_gd hF (fun g6 hF => dw_rC rfl rfl g6 hH hF))
          · refine dw_zeq_n rfl (u := 89) rfl (d_R_b r_v5) q ?_
            exact D_X3_readProduct_j37 hg h0 hF hH l0 r_x1 l1 r_x3 l3 (fun {x1} {x2} {x3} {ls} {s} {h} hF hH l0 r_x1 l1 r_x2 l2 r_x3 l3 => ih hF hH l0 r_x1 l1 r_x2 l2 r_x3 l3)
        · refine dw_zne_n rfl (u := 37) rfl (d_R_b r_v4) q ?_
          exact D_X3_readProduct_j37 hg h0 hF hH l0 r_x1 l1 r_x3 l3 (fun {x1} {x2} {x3} {ls} {s} {h} hF hH l0 r_x1 l1 r_x2 l2 r_x3 l3 => ih hF hH l0 r_x1 l1 r_x2 l2 r_x3 l3)
    · refine dw_ge_n rfl (u := 89) rfl r_x3 (d_rl rfl) q ?_
      exact dw_iln rfl l2 (d_gd hF (fun g13 hF => dw_rC rfl rfl g13 hH hF))
set_option maxRecDepth 100000 in
noncomputable def F_X3_readProduct (g : d_G) (t : Nat → Option p_C) (s : d_S) (x1 : Int) : Option (Int × d_S) :=
  d_b2 (g.2.2.1 s x1) (fun v1 s2 => F_X3_readProduct_l8 g t d_N x1 v1 0 s2)
set_option maxRecDepth 100000 in
theorem D_X3_readProduct {g : d_G} {dd : Nat} {t : Nat → Option p_C} (hg : d_Gok t dd g) (h0 : 2 ≤ dd) {h : p_H} {s : d_S} {x1 : Int} {r : Int × d_S} (hF : F_X3_readProduct g t s x1 = some r) (hH : d_V t h s) (r_x1 : d_R x1) : p_wp p_GT p_MT (dd + 1) m_X3_readProduct 0 (lv_args 0 [.ref 43, .int (Int32.ofInt x1)]) [] h (d_QC t r) := by
  unfold F_X3_readProduct at hF
  refine dw_aln rfl rfl (dw_iln rfl rfl (dw_vC hF rfl (d_vir (n := 2) rfl rfl rfl rfl rfl hH d_c43_0 rfl) rfl rfl (Nat.ble_eq_true_of_le (by omega)) (dc := dd) (fun _ _ e => hg.2.2.1 e hH r_x1) (fun v1 s2 h2 hH2 r_v1 hF => dw_isn rfl rfl (dw_ic rfl (dw_isn rfl rfl (?_))))))
  exact D_X3_readProduct_l8 hg h0 _ hF hH2 (d_s1 (d_s1 rfl rfl (by decide)) rfl (by decide)) r_x1 (d_s1 (d_s1 rfl rfl (by decide)) rfl (by decide)) (d_R_b r_v1) (d_s1 p_lk_s1 rfl (by decide)) (d_rl rfl) p_lk_s1

set_option maxRecDepth 100000 in
noncomputable def F_X11_feed (s : d_S) (x1 : Int) (x2 : Int) (x3 : Int) (x4 : Int) (x5 : Int) : Option (Int × d_S) :=
  d_b (F_X3_hasRoom s 20) (fun v1 => if v1 = 0 then
  some ((-1), s)
  else
  d_b (F_X3_append s x1) (fun s2 => d_b (F_X3_append s2 x2) (fun s3 => d_b (F_X3_append s3 x3) (fun s4 => d_b (F_X3_append s4 x4) (fun s5 => d_b (F_X3_append s5 x5) (fun s6 => some ((s6.1 43 1), s6)))))))
set_option maxRecDepth 100000 in
theorem D_X11_feed {t : Nat → Option p_C} {h : p_H} {s : d_S} {x1 : Int} {x2 : Int} {x3 : Int} {x4 : Int} {x5 : Int} {r : Int × d_S} (hF : F_X11_feed s x1 x2 x3 x4 x5 = some r) (hH : d_V t h s) (r_x1 : d_R x1) (r_x2 : d_R x2) (r_x3 : d_R x3) (r_x4 : d_R x4) (r_x5 : d_R x5) : p_wp p_GT p_MT 1 m_X11_feed 0 (lv_args 0 [.ref 2, .int (Int32.ofInt x1), .int (Int32.ofInt x2), .int (Int32.ofInt x3), .int (Int32.ofInt x4), .int (Int32.ofInt x5)]) [] h (d_QI t r) := by
  unfold F_X11_feed at hF
  refine dw_aln rfl rfl (dw_gr rfl rfl rfl hH d_c2_3 (dw_bp rfl rfl (dw_vB hF rfl (d_vir (n := 2) rfl rfl rfl rfl rfl hH d_c43_0 rfl) rfl rfl rfl (dc := 0) (fun _ e => D_X3_hasRoom e hH (d_rl rfl)) (fun v1 r_v1 hF => ?_))))
  refine d_if hF (fun q hF => ?_) (fun q hF => ?_)
  · refine dw_zne_y rfl (u := 14) rfl (d_R_b r_v1) q ?_
    exact dw_ic rfl (dw_rI rfl rfl (d_rl rfl) hH hF)
  · refine dw_zne_n rfl (u := 14) rfl (d_R_b r_v1) q ?_
    refine dw_aln rfl rfl (dw_gr rfl rfl rfl hH d_c2_3 (dw_iln rfl rfl (dw_vV hF rfl (d_vir (n := 2) rfl rfl rfl rfl rfl hH d_c43_0 rfl) rfl rfl rfl (dc := 0) (fun _ e => D_X3_append e hH r_x1) (fun s2 h2 hH2 hF => dw_aln rfl rfl (dw_gr rfl rfl rfl hH2 d_c2_3 (dw_iln rfl rfl (dw_vV hF rfl (d_vir (n := 2) rfl rfl rfl rfl rfl hH2 d_c43_0 rfl) rfl rfl rfl (dc := 0) (fun _ e => D_X3_append e hH2 r_x2) (fun s3 h3 hH3 hF => dw_aln rfl rfl (dw_gr rfl rfl rfl hH3 d_c2_3 (?_))))))))))
    refine dw_iln rfl rfl (dw_vV hF rfl (d_vir (n := 2) rfl rfl rfl rfl rfl hH3 d_c43_0 rfl) rfl rfl rfl (dc := 0) (fun _ e => D_X3_append e hH3 r_x3) (fun s4 h4 hH4 hF => dw_aln rfl rfl (dw_gr rfl rfl rfl hH4 d_c2_3 (dw_il rfl rfl (dw_vV hF rfl (d_vir (n := 2) rfl rfl rfl rfl rfl hH4 d_c43_0 rfl) rfl rfl rfl (dc := 0) (fun _ e => D_X3_append e hH4 r_x4) (fun s5 h5 hH5 hF => dw_aln rfl rfl (dw_gr rfl rfl rfl hH5 d_c2_3 (dw_il rfl rfl (dw_vV hF rfl (d_vir (n := 2) rfl rfl rfl rfl rfl hH5 d_c43_0 rfl) rfl rfl rfl (dc := 0) (fun _ e => D_X3_append e hH5 r_x5) (fun s6 h6 hH6 hF => ?_))))))))))
    exact dw_aln rfl rfl (dw_gr rfl rfl rfl hH6 d_c2_3 (dw_gi (k := 1) rfl rfl rfl hH6 d_c43_1 (dw_rI rfl rfl hH6.r hH6 hF)))
set_option maxRecDepth 100000 in
noncomputable def F_X3_byteAt (s : d_S) (x1 : Int) : Option (Int) :=
  if x1 < 0 then
  some 0
  else
  if x1 < (s.1 43 1) then
  if x1 < 300 then
  d_g (0 ≤ x1 ∧ x1 < 300) (some (d_and (s.1 44 (x1.toNat)) 255))
  else
  some 0
  else
  some 0
set_option maxRecDepth 100000 in
theorem D_X3_byteAt {t : Nat → Option p_C} {h : p_H} {s : d_S} {x1 : Int} {r : Int} (hF : F_X3_byteAt s x1 = some r) (hH : d_V t h s) (r_x1 : d_R x1) : p_wp p_GT p_MT 0 m_X3_byteAt 0 (lv_args 0 [.ref 43, .int (Int32.ofInt x1)]) [] h (d_QP h r) := by
  unfold F_X3_byteAt at hF
  refine dw_iln rfl rfl (?_)
  refine d_if hF (fun q hF => ?_) (fun q hF => ?_)
  · refine dw_zlt_y rfl (u := 32) rfl r_x1 q ?_
    exact dw_ic rfl (dw_rP rfl rfl (d_rl rfl) hF)
  · refine dw_zlt_n rfl (u := 32) rfl r_x1 q ?_
    refine dw_iln rfl rfl (dw_aln rfl rfl (dw_gi (k := 1) rfl rfl rfl hH d_c43_1 (?_)))
    refine d_if hF (fun q hF => ?_) (fun q hF => ?_)
    · refine dw_ge_y rfl (u := 32) rfl r_x1 hH.r q ?_
      refine dw_iln rfl rfl (dw_sp rfl rfl (?_))
      refine d_if hF (fun q hF => ?_) (fun q hF => ?_)
      · refine dw_ge_y rfl (u := 32) rfl r_x1 (d_rl rfl) q ?_
        exact dw_aln rfl rfl (dw_gr rfl rfl rfl hH d_c43_0 (dw_iln rfl rfl (d_gd hF (fun g1 hF => dw_bld1 rfl hH d_a44 g1.1 g1.2 r_x1 rfl (dw_sp rfl rfl (dw_and rfl (dw_go rfl (u := 33) rfl (dw_rP rfl rfl d_R_t hF))))))))
      · refine dw_ge_n rfl (u := 32) rfl r_x1 (d_rl rfl) q ?_
        exact dw_ic rfl (dw_rP rfl rfl (d_rl rfl) hF)
    · refine dw_ge_n rfl (u := 32) rfl r_x1 hH.r q ?_
      exact dw_ic rfl (dw_rP rfl rfl (d_rl rfl) hF)
set_option maxRecDepth 100000 in
noncomputable def F_X3_sortOf_j26 (x0 : Int) : Option (Int) :=
  if x0 < 48 then
  some 3
  else
  if 57 < x0 then
  some 3
  else
  some 2
set_option maxRecDepth 100000 in
theorem D_X3_sortOf_j26 {h : p_H} {x0 : Int} {r : Int} {ls : p_Ls} (hF : F_X3_sortOf_j26 x0 = some r) (r_x0 : d_R x0) (l0 : p_lk 0 ls = some (.int (Int32.ofInt x0))) : p_wp p_GT p_MT 0 m_X3_sortOf 26 ls [] h (d_QP h r) := by
  unfold F_X3_sortOf_j26 at hF
  refine dw_iln rfl l0 (dw_bp rfl rfl (?_))
  refine d_if hF (fun q hF => ?_) (fun q hF => ?_)
  · refine dw_lt_y rfl (u := 42) rfl r_x0 (d_rl rfl) q ?_
    exact dw_ic rfl (dw_rP rfl rfl (d_rl rfl) hF)
  · refine dw_lt_n rfl (u := 42) rfl r_x0 (d_rl rfl) q ?_
    refine dw_iln rfl l0 (dw_bp rfl rfl (?_))
    refine d_if hF (fun q hF => ?_) (fun q hF => ?_)
    · refine dw_gt_y rfl (u := 42) rfl r_x0 (d_rl rfl) q ?_
      exact dw_ic rfl (dw_rP rfl rfl (d_rl rfl) hF)
    · refine dw_gt_n rfl (u := 42) rfl r_x0 (d_rl rfl) q ?_
      exact dw_ic rfl (dw_go rfl (u := 43) rfl (dw_rP rfl rfl (d_rl rfl) hF))
set_option maxRecDepth 100000 in
noncomputable def F_X3_sortOf_j12 (x0 : Int) : Option (Int) :=
  if x0 < 65 then
  F_X3_sortOf_j26 x0
  else
  if 90 < x0 then
  F_X3_sortOf_j26 x0
  else
  some 1
set_option maxRecDepth 100000 in
theorem D_X3_sortOf_j12 {h : p_H} {x0 : Int} {r : Int} {ls : p_Ls} (hF : F_X3_sortOf_j12 x0 = some r) (r_x0 : d_R x0) (l0 : p_lk 0 ls = some (.int (Int32.ofInt x0))) : p_wp p_GT p_MT 0 m_X3_sortOf 12 ls [] h (d_QP h r) := by
  unfold F_X3_sortOf_j12 at hF
  refine dw_iln rfl l0 (dw_bp rfl rfl (?_))
  refine d_if hF (fun q hF => ?_) (fun q hF => ?_)
  · refine dw_lt_y rfl (u := 26) rfl r_x0 (d_rl rfl) q ?_
    exact D_X3_sortOf_j26 hF r_x0 l0
  · refine dw_lt_n rfl (u := 26) rfl r_x0 (d_rl rfl) q ?_
    refine dw_iln rfl l0 (dw_bp rfl rfl (?_))
    refine d_if hF (fun q hF => ?_) (fun q hF => ?_)
    · refine dw_gt_y rfl (u := 26) rfl r_x0 (d_rl rfl) q ?_
      exact D_X3_sortOf_j26 hF r_x0 l0
    · refine dw_gt_n rfl (u := 26) rfl r_x0 (d_rl rfl) q ?_
      exact dw_ic rfl (dw_rP rfl rfl (d_rl rfl) hF)
set_option maxRecDepth 100000 in
noncomputable def F_X3_sortOf (x0 : Int) : Option (Int) :=
  if x0 < 97 then
  F_X3_sortOf_j12 x0
  else
  if 122 < x0 then
  F_X3_sortOf_j12 x0
  else
  some 1
set_option maxRecDepth 100000 in
theorem D_X3_sortOf {h : p_H} {x0 : Int} {r : Int} (hF : F_X3_sortOf x0 = some r) (r_x0 : d_R x0) : p_wp p_GT p_MT 0 m_X3_sortOf 0 (lv_args 0 [.int (Int32.ofInt x0)]) [] h (d_QP h r) := by
  unfold F_X3_sortOf at hF
  refine dw_iln rfl rfl (dw_bp rfl rfl (?_))
  refine d_if hF (fun q hF => ?_) (fun q hF => ?_)
  · refine dw_lt_y rfl (u := 12) rfl r_x0 (d_rl rfl) q ?_
    exact D_X3_sortOf_j12 hF r_x0 rfl
  · refine dw_lt_n rfl (u := 12) rfl r_x0 (d_rl rfl) q ?_
    refine dw_iln rfl rfl (dw_bp rfl rfl (?_))
    refine d_if hF (fun q hF => ?_) (fun q hF => ?_)
    · refine dw_le_y rfl (u := 24) rfl r_x0 (d_rl rfl) q ?_
      exact D_X3_sortOf_j12 hF r_x0 rfl
    · refine dw_le_n rfl (u := 24) rfl r_x0 (d_rl rfl) q ?_
      exact dw_ic rfl (dw_rP rfl rfl (d_rl rfl) hF)
set_option maxRecDepth 100000 in
noncomputable def F_X3_wordOf_l2_b (t : Nat → Option p_C) (s : d_S) (rec : Int → Int → Option (Int)) (x0 : Int) (x2 : Int) : Option (Int) :=
  d_b (d_twn t) (fun v1 => if x2 < v1 then
  d_b (d_twl t x2) (fun v2 => if v2 = x0 then
  some x2
  else
  rec x0 (d_w (x2 + 1)))
  else
  some (-1))
set_option maxRecDepth 100000 in
noncomputable def F_X3_wordOf_l2 (t : Nat → Option p_C) (s : d_S) : Nat → Int → Int → Option (Int)
  | 0 => fun _ _ => none
  | n + 1 => F_X3_wordOf_l2_b t s (F_X3_wordOf_l2 t s n)
set_option maxRecDepth 100000 in
theorem D_X3_wordOf_l2 {t : Nat → Option p_C} {h : p_H} {s : d_S} {r : Int} (hH : d_V t h s) : ∀ (n : Nat) {x0 : Int} {x2 : Int} {ls : p_Ls}, F_X3_wordOf_l2 t s n x0 x2 = some r → d_RL x0 → p_lk 0 ls = some (.long (Int64.ofInt x0)) → d_R x2 → p_lk 2 ls = some (.int (Int32.ofInt x2)) → p_wp p_GT p_MT 0 m_X3_wordOf 2 ls [] h (d_QP h r) := by
  intro n
  induction n with
  | zero =>
    intro x0 x2 ls hF r_x0 l0 r_x2 l2
    cases (show (none : Option (Int)) = some r from hF)
  | succ n ih =>
    intro x0 x2 ls hF r_x0 l0 r_x2 l2
    have hF : F_X3_wordOf_l2_b t s (F_X3_wordOf_l2 t s n) x0 x2 = some r := hF
    unfold F_X3_wordOf_l2_b at hF
    refine dw_iln rfl l2 (dw_gs rfl rfl (dw_twn hF rfl hH (fun v1 r_v1 hF => ?_)))
    refine d_if hF (fun q hF => ?_) (fun q hF => ?_)
    · refine dw_ge_y rfl (u := 28) rfl r_x2 r_v1 q ?_
      refine dw_gs rfl rfl (dw_iln rfl l2 (dw_twl hF rfl hH r_x2 (fun v2 r_v2 hF => dw_lln rfl l0 (?_))))
      refine d_if hF (fun q hF => ?_) (fun q hF => ?_)
      · refine dw_Lne_y rfl rfl (u := 22) rfl r_v2 r_x0 q ?_
        exact dw_iln rfl l2 (dw_rP rfl rfl r_x2 hF)
      · refine dw_Lne_n rfl rfl (u := 22) rfl r_v2 r_x0 q ?_
        refine dw_ii rfl l2 rfl (dw_go rfl (u := 2) rfl (?_))
        exact ih hF r_x0 (d_s1l l0 (by decide) (by decide)) d_R_w p_lk_s1
    · refine dw_ge_n rfl (u := 28) rfl r_x2 r_v1 q ?_
      exact dw_ic rfl (dw_rP rfl rfl (d_rl rfl) hF)
set_option maxRecDepth 100000 in
noncomputable def F_X3_wordOf (t : Nat → Option p_C) (s : d_S) (x0 : Int) : Option (Int) :=
  F_X3_wordOf_l2 t s d_N x0 0
set_option maxRecDepth 100000 in
theorem D_X3_wordOf {t : Nat → Option p_C} {h : p_H} {s : d_S} {x0 : Int} {r : Int} (hF : F_X3_wordOf t s x0 = some r) (hH : d_V t h s) (r_x0 : d_RL x0) : p_wp p_GT p_MT 0 m_X3_wordOf 0 (lv_args 0 [.long (Int64.ofInt x0)]) [] h (d_QP h r) := by
  unfold F_X3_wordOf at hF
  refine dw_ic rfl (dw_isn rfl rfl (?_))
  exact D_X3_wordOf_l2 hH _ hF r_x0 (d_s1l rfl (by decide) (by decide)) (d_rl rfl) p_lk_s1
set_option maxRecDepth 100000 in
noncomputable def F_X3_step_j37 (t : Nat → Option p_C) (k0 : d_S → Option (d_S)) (s : d_S) : Option (d_S) :=
  d_l (d_si s 43 4 (d_w ((s.1 43 4) + 1))) (fun s2 => k0 s2)
set_option maxRecDepth 100000 in
theorem D_X3_step_j37 {t : Nat → Option p_C} {h : p_H} {s : d_S} {k0 : d_S → Option (d_S)} {r : d_S} {ls : p_Ls} (hF : F_X3_step_j37 t k0 s = some r) (hH : d_V t h s) (l0 : p_lk 0 ls = some (.ref 43)) (hk0 : ∀ {ls : p_Ls} {s : d_S} {h : p_H}, k0 s = some r → d_V t h s → p_lk 0 ls = some (.ref 43) → p_wp p_GT p_MT 1 m_X3_step 0 ls [] h (d_QV t r)) : p_wp p_GT p_MT 1 m_X3_step 37 ls [] h (d_QV t r) := by
  unfold F_X3_step_j37 at hF
  refine dw_aln rfl l0 (dw_dupr rfl (dw_gi (k := 4) rfl rfl rfl hH d_c43_4 (dw_ic rfl (dw_add rfl (dw_w1 (dw_pi (k := 4) rfl rfl rfl rfl hH d_c43_4 d_R_w (by decide) hF (fun s2 h2 hH2 hF => dw_go rfl (u := 0) rfl (?_))))))))
  exact hk0 hF hH2 l0
set_option maxRecDepth 100000 in
noncomputable def F_X3_step_l0_b (t : Nat → Option p_C) (k50 : d_S → Option (d_S)) (rec : d_S → Option (d_S)) (s : d_S) : Option (d_S) :=
  if (s.1 43 4) < (s.1 43 1) then
  d_b (F_X3_byteAt s (s.1 43 4)) (fun v1 => if v1 = 32 then
  F_X3_step_j37 t rec s
  else
  d_b (F_X3_byteAt s (s.1 43 4)) (fun v3 => if v3 = 10 then
  F_X3_step_j37 t rec s
  else
  k50 s))
  else
  k50 s
set_option maxRecDepth 100000 in
noncomputable def F_X3_step_l0 (t : Nat → Option p_C) (k50 : d_S → Option (d_S)) : Nat → d_S → Option (d_S)
  | 0 => fun _ => none
  | n + 1 => F_X3_step_l0_b t k50 (F_X3_step_l0 t k50 n)
set_option maxRecDepth 100000 in
theorem D_X3_step_l0 {t : Nat → Option p_C} {k50 : d_S → Option (d_S)} {r : d_S} (hk50 : ∀ {ls : p_Ls} {s : d_S} {h : p_H}, k50 s = some r → d_V t h s → p_lk 0 ls = some (.ref 43) → p_wp p_GT p_MT 1 m_X3_step 50 ls [] h (d_QV t r)) : ∀ (n : Nat) {ls : p_Ls} {s : d_S} {h : p_H}, F_X3_step_l0 t k50 n s = some r → d_V t h s → p_lk 0 ls = some (.ref 43) → p_wp p_GT p_MT 1 m_X3_step 0 ls [] h (d_QV t r) := by
  intro n
  induction n with
  | zero =>
    intro ls s h hF hH l0
    cases (show (none : Option (d_S)) = some r from hF)
  | succ n ih =>
    intro ls s h hF hH l0
    have hF : F_X3_step_l0_b t k50 (F_X3_step_l0 t k50 n) s = some r := hF
    unfold F_X3_step_l0_b at hF
    refine dw_aln rfl l0 (dw_gi (k := 4) rfl rfl rfl hH d_c43_4 (dw_aln rfl l0 (dw_gi (k := 1) rfl rfl rfl hH d_c43_1 (?_))))
    refine d_if hF (fun q hF => ?_) (fun q hF => ?_)
    · refine dw_ge_y rfl (u := 50) rfl hH.r hH.r q ?_
      refine dw_aln rfl l0 (dw_aln rfl l0 (dw_gi (k := 4) rfl rfl rfl hH d_c43_4 (dw_vP hF rfl (d_vir (n := 2) rfl rfl rfl rfl rfl hH d_c43_0 rfl) rfl rfl rfl (dc := 0) (fun _ e => D_X3_byteAt e hH hH.r) (fun v1 r_v1 hF => dw_bp rfl rfl (?_)))))
      refine d_if hF (fun q hF => ?_) (fun q hF => ?_)
      · refine dw_eq_y rfl (u := 37) rfl r_v1 (d_rl rfl) q ?_
        exact D_X3_step_j37 hF hH l0 (fun {ls} {s} {h} hF hH l0 => ih hF hH l0)
      · refine dw_eq_n rfl (u := 37) rfl r_v1 (d_rl rfl) q ?_
        refine dw_aln rfl l0 (dw_aln rfl l0 (dw_gi (k := 4) rfl rfl rfl hH d_c43_4 (dw_vP hF rfl (d_vir (n := 2) rfl rfl rfl rfl rfl hH d_c43_0 rfl) rfl rfl rfl (dc := 0) (fun _ e => D_X3_byteAt e hH hH.r) (fun v3 r_v3 hF => dw_bp rfl rfl (?_)))))
        refine d_if hF (fun q hF => ?_) (fun q hF => ?_)
        · refine dw_ne_y rfl (u := 50) rfl r_v3 (d_rl rfl) q ?_
          exact D_X3_step_j37 hF hH l0 (fun {ls} {s} {h} hF hH l0 => ih hF hH l0)
        · refine dw_ne_n rfl (u := 50) rfl r_v3 (d_rl rfl) q ?_
          exact hk50 hF hH l0
    · refine dw_ge_n rfl (u := 50) rfl hH.r hH.r q ?_
      exact hk50 hF hH l0
set_option maxRecDepth 100000 in
noncomputable def F_X3_step_j140 (t : Nat → Option p_C) (k92 : Int → Int → d_S → Option (d_S)) (x1 : Int) (x3 : Int) (s : d_S) : Option (d_S) :=
  d_b (F_X3_byteAt s (s.1 43 4)) (fun v11 => d_b (F_X3_byteAt s (s.1 43 4)) (fun v12 => d_b (F_J9_min_7cf53 10000 (d_w (((x3 * 10) + v12) - 48))) (fun v13 => d_l (d_si s 43 4 (d_w ((s.1 43 4) + 1))) (fun s14 => k92 (d_orL (d_shlL x1 8) v11) v13 s14))))
set_option maxRecDepth 100000 in
theorem D_X3_step_j140 {t : Nat → Option p_C} {h : p_H} {s : d_S} {k92 : Int → Int → d_S → Option (d_S)} {x1 : Int} {x3 : Int} {r : d_S} {ls : p_Ls} (hF : F_X3_step_j140 t k92 x1 x3 s = some r) (hH : d_V t h s) (l0 : p_lk 0 ls = some (.ref 43)) (r_x1 : d_RL x1) (l1 : p_lk 1 ls = some (.long (Int64.ofInt x1))) (r_x3 : d_R x3) (l3 : p_lk 3 ls = some (.int (Int32.ofInt x3))) (hk92 : ∀ {x1 : Int} {x3 : Int} {ls : p_Ls} {s : d_S} {h : p_H}, k92 x1 x3 s = some r → d_V t h s → p_lk 0 ls = some (.ref 43) → d_RL x1 → p_lk 1 ls = some (.long (Int64.ofInt x1)) → d_R x3 → p_lk 3 ls = some (.int (Int32.ofInt x3)) → p_wp p_GT p_MT 1 m_X3_step 92 ls [] h (d_QV t r)) : p_wp p_GT p_MT 1 m_X3_step 140 ls [] h (d_QV t r) := by
  unfold F_X3_step_j140 at hF
  refine dw_lln rfl l1 (dw_bp rfl rfl (dw_lshl rfl (dw_aln rfl l0 (dw_aln rfl l0 (dw_gi (k := 4) rfl rfl rfl hH d_c43_4 (dw_vP hF rfl (d_vir (n := 2) rfl rfl rfl rfl rfl hH d_c43_0 rfl) rfl rfl rfl (dc := 0) (fun _ e => D_X3_byteAt e hH hH.r) (fun v11 r_v11 hF => dw_i2l rfl r_v11 (dw_lor rfl (dw_lsn rfl rfl (?_))))))))))
  refine dw_sp rfl rfl (dw_iln rfl (d_s2 l3 rfl (by decide) (by decide)) (dw_bp rfl rfl (dw_mul rfl (dw_aln rfl (d_s2 l0 rfl (by decide) (by decide)) (dw_aln rfl (d_s2 l0 rfl (by decide) (by decide)) (dw_gi (k := 4) rfl rfl rfl hH d_c43_4 (dw_vP hF rfl (d_vir (n := 2) rfl rfl rfl rfl rfl hH d_c43_0 rfl) rfl rfl rfl (dc := 0) (fun _ e => D_X3_byteAt e hH hH.r) (fun v12 r_v12 hF => dw_add rfl (dw_bp rfl rfl (?_))))))))))
  refine dw_sub rfl (dw_w1 (dw_sP hF rfl rfl rfl rfl rfl (dc := 0) (fun _ e => D_J9_min_7cf53 e (d_rl rfl) d_R_w) (fun v13 r_v13 hF => dw_isn rfl rfl (dw_aln rfl (d_s1 (d_s2 l0 rfl (by decide) (by decide)) rfl (by decide)) (dw_dupr rfl (dw_gi (k := 4) rfl rfl rfl hH d_c43_4 (dw_ic rfl (dw_add rfl (dw_w1 (?_))))))))))
  refine dw_pi (k := 4) rfl rfl rfl rfl hH d_c43_4 d_R_w (by decide) hF (fun s14 h14 hH14 hF => dw_go rfl (u := 92) rfl (?_))
  exact hk92 hF hH14 (d_s1 (d_s2 l0 rfl (by decide) (by decide)) rfl (by decide)) d_RL_t (d_s1l p_lk_s2 (by decide) (by decide)) r_v13 p_lk_s1
set_option maxRecDepth 100000 in
noncomputable def F_X3_step_l92_b (t : Nat → Option p_C) (k191 : Int → Int → d_S → Option (d_S)) (rec : Int → Int → d_S → Option (d_S)) (x1 : Int) (x3 : Int) (s : d_S) : Option (d_S) :=
  if (s.1 43 4) < (s.1 43 1) then
  d_b (F_X3_byteAt s (s.1 43 4)) (fun v9 => d_b (F_X3_sortOf v9) (fun v10 => if v10 = (s.1 43 6) then
  if (s.1 43 6) = 3 then
  if (s.1 43 4) = (s.1 43 5) then
  F_X3_step_j140 t rec x1 x3 s
  else
  k191 x1 x3 s
  else
  F_X3_step_j140 t rec x1 x3 s
  else
  k191 x1 x3 s))
  else
  k191 x1 x3 s
set_option maxRecDepth 100000 in
noncomputable def F_X3_step_l92 (t : Nat → Option p_C) (k191 : Int → Int → d_S → Option (d_S)) : Nat → Int → Int → d_S → Option (d_S)
  | 0 => fun _ _ _ => none
  | n + 1 => F_X3_step_l92_b t k191 (F_X3_step_l92 t k191 n)
set_option maxRecDepth 100000 in
theorem D_X3_step_l92 {t : Nat → Option p_C} {k191 : Int → Int → d_S → Option (d_S)} {r : d_S} (hk191 : ∀ {x1 : Int} {x3 : Int} {ls : p_Ls} {s : d_S} {h : p_H}, k191 x1 x3 s = some r → d_V t h s → p_lk 0 ls = some (.ref 43) → d_RL x1 → p_lk 1 ls = some (.long (Int64.ofInt x1)) → d_R x3 → p_lk 3 ls = some (.int (Int32.ofInt x3)) → p_wp p_GT p_MT 1 m_X3_step 191 ls [] h (d_QV t r)) : ∀ (n : Nat) {x1 : Int} {x3 : Int} {ls : p_Ls} {s : d_S} {h : p_H}, F_X3_step_l92 t k191 n x1 x3 s = some r → d_V t h s → p_lk 0 ls = some (.ref 43) → d_RL x1 → p_lk 1 ls = some (.long (Int64.ofInt x1)) → d_R x3 → p_lk 3 ls = some (.int (Int32.ofInt x3)) → p_wp p_GT p_MT 1 m_X3_step 92 ls [] h (d_QV t r) := by
  intro n
  induction n with
  | zero =>
    intro x1 x3 ls s h hF hH l0 r_x1 l1 r_x3 l3
    cases (show (none : Option (d_S)) = some r from hF)
  | succ n ih =>
    intro x1 x3 ls s h hF hH l0 r_x1 l1 r_x3 l3
    have hF : F_X3_step_l92_b t k191 (F_X3_step_l92 t k191 n) x1 x3 s = some r := hF
    unfold F_X3_step_l92_b at hF
    refine dw_aln rfl l0 (dw_gi (k := 4) rfl rfl rfl hH d_c43_4 (dw_aln rfl l0 (dw_gi (k := 1) rfl rfl rfl hH d_c43_1 (?_))))
    refine d_if hF (fun q hF => ?_) (fun q hF => ?_)
    · refine dw_ge_y rfl (u := 191) rfl hH.r hH.r q ?_
      refine dw_aln rfl l0 (dw_aln rfl l0 (dw_gi (k := 4) rfl rfl rfl hH d_c43_4 (dw_vP hF rfl (d_vir (n := 2) rfl rfl rfl rfl rfl hH d_c43_0 rfl) rfl rfl rfl (dc := 0) (fun _ e => D_X3_byteAt e hH hH.r) (fun v9 r_v9 hF => dw_sP hF rfl rfl rfl rfl rfl (dc := 0) (fun _ e => D_X3_sortOf e r_v9) (fun v10 r_v10 hF => dw_aln rfl l0 (dw_gi (k := 6) rfl rfl rfl hH d_c43_6 (?_)))))))
      refine d_if hF (fun q hF => ?_) (fun q hF => ?_)
      · refine dw_ne_y rfl (u := 191) rfl r_v10 hH.r q ?_
        refine dw_aln rfl l0 (dw_gi (k := 6) rfl rfl rfl hH d_c43_6 (dw_ic rfl (?_)))
        refine d_if hF (fun q hF => ?_) (fun q hF => ?_)
        · refine dw_ne_y rfl (u := 140) rfl hH.r (d_rl rfl) q ?_
          refine dw_aln rfl l0 (dw_gi (k := 4) rfl rfl rfl hH d_c43_4 (dw_aln rfl l0 (dw_gi (k := 5) rfl rfl rfl hH d_c43_5 (?_))))
          refine d_if hF (fun q hF => ?_) (fun q hF => ?_)
          · refine dw_ne_y rfl (u := 191) rfl hH.r hH.r q ?_
            exact D_X3_step_j140 hF hH l0 r_x1 l1 r_x3 l3 (fun {x1} {x3} {ls} {s} {h} hF hH l0 r_x1 l1 r_x3 l3 => ih hF hH l0 r_x1 l1 r_x3 l3)
          · refine dw_ne_n rfl (u := 191) rfl hH.r hH.r q ?_
            exact hk191 hF hH l0 r_x1 l1 r_x3 l3
        · refine dw_ne_n rfl (u := 140) rfl hH.r (d_rl rfl) q ?_
          exact D_X3_step_j140 hF hH l0 r_x1 l1 r_x3 l3 (fun {x1} {x3} {ls} {s} {h} hF hH l0 r_x1 l1 r_x3 l3 => ih hF hH l0 r_x1 l1 r_x3 l3)
      · refine dw_ne_n rfl (u := 191) rfl r_v10 hH.r q ?_
        exact hk191 hF hH l0 r_x1 l1 r_x3 l3
    · refine dw_ge_n rfl (u := 191) rfl hH.r hH.r q ?_
      exact hk191 hF hH l0 r_x1 l1 r_x3 l3
set_option maxRecDepth 100000 in
noncomputable def F_X3_step_j225 (t : Nat → Option p_C) (y1 : Int) (s : d_S) : Option (d_S) :=
  d_l (d_si s 43 7 y1) (fun s18 => some s18)
set_option maxRecDepth 100000 in
theorem D_X3_step_j225 {t : Nat → Option p_C} {h : p_H} {s : d_S} {y1 : Int} {r : d_S} {ls : p_Ls} (hF : F_X3_step_j225 t y1 s = some r) (hH : d_V t h s) (r_y1 : d_R y1) : p_wp p_GT p_MT 1 m_X3_step 225 ls [.int (Int32.ofInt y1), .ref 43] h (d_QV t r) := by
  unfold F_X3_step_j225 at hF
  exact dw_pi (k := 7) rfl rfl rfl rfl hH d_c43_7 r_y1 (by decide) hF (fun s18 h18 hH18 hF => dw_rV rfl rfl hH18 hF)
set_option maxRecDepth 100000 in
noncomputable def F_X3_step_j191 (t : Nat → Option p_C) (x1 : Int) (x3 : Int) (s : d_S) : Option (d_S) :=
  if (s.1 43 6) = 1 then
  d_b (F_X3_wordOf t s x1) (fun v16 => d_l (d_si s 43 7 v16) (fun s17 => some s17))
  else
  if (s.1 43 6) = 2 then
  F_X3_step_j225 t x3 s
  else
  F_X3_step_j225 t (d_w x1) s
set_option maxRecDepth 100000 in
theorem D_X3_step_j191 {t : Nat → Option p_C} {h : p_H} {s : d_S} {x1 : Int} {x3 : Int} {r : d_S} {ls : p_Ls} (hF : F_X3_step_j191 t x1 x3 s = some r) (hH : d_V t h s) (l0 : p_lk 0 ls = some (.ref 43)) (r_x1 : d_RL x1) (l1 : p_lk 1 ls = some (.long (Int64.ofInt x1))) (r_x3 : d_R x3) (l3 : p_lk 3 ls = some (.int (Int32.ofInt x3))) : p_wp p_GT p_MT 1 m_X3_step 191 ls [] h (d_QV t r) := by
  unfold F_X3_step_j191 at hF
  refine dw_aln rfl l0 (dw_gi (k := 6) rfl rfl rfl hH d_c43_6 (dw_ic rfl (?_)))
  refine d_if hF (fun q hF => ?_) (fun q hF => ?_)
  · refine dw_ne_y rfl (u := 210) rfl hH.r (d_rl rfl) q ?_
    exact dw_aln rfl l0 (dw_lln rfl l1 (dw_sP hF rfl rfl rfl rfl rfl (dc := 0) (fun _ e => D_X3_wordOf e hH r_x1) (fun v16 r_v16 hF => dw_pi (k := 7) rfl rfl rfl rfl hH d_c43_7 r_v16 (by decide) hF (fun s17 h17 hH17 hF => dw_go rfl (u := 228) rfl (dw_rV rfl rfl hH17 hF)))))
  · refine dw_ne_n rfl (u := 210) rfl hH.r (d_rl rfl) q ?_
    refine dw_aln rfl l0 (dw_aln rfl l0 (dw_gi (k := 6) rfl rfl rfl hH d_c43_6 (dw_ic rfl (?_))))
    refine d_if hF (fun q hF => ?_) (fun q hF => ?_)
    · refine dw_ne_y rfl (u := 223) rfl hH.r (d_rl rfl) q ?_
      refine dw_iln rfl l3 (dw_go rfl (u := 225) rfl (?_))
      exact D_X3_step_j225 hF hH r_x3
    · refine dw_ne_n rfl (u := 223) rfl hH.r (d_rl rfl) q ?_
      refine dw_lln rfl l1 (dw_l2i rfl (dw_w1 (?_)))
      exact D_X3_step_j225 hF hH d_R_w
set_option maxRecDepth 100000 in
noncomputable def F_X3_step (t : Nat → Option p_C) (s : d_S) : Option (d_S) :=
  F_X3_step_l0 t (fun s_u4 =>
  d_l (d_si s_u4 43 5 (s_u4.1 43 4)) (fun s5 => if (s5.1 43 4) < (s5.1 43 1) then
  d_b (F_X3_byteAt s5 (s5.1 43 4)) (fun v6 => d_b (F_X3_sortOf v6) (fun v7 => d_l (d_si s5 43 6 v7) (fun s8 => F_X3_step_l92 t (fun x1_u15 x3_u15 s_u15 =>
  F_X3_step_j191 t x1_u15 x3_u15 s_u15) d_N 0 0 s8)))
  else
  d_l (d_si s5 43 6 0) (fun s19 => F_X3_step_l92 t (fun x1_u20 x3_u20 s_u20 =>
  F_X3_step_j191 t x1_u20 x3_u20 s_u20) d_N 0 0 s19))) d_N s
set_option maxRecDepth 100000 in
theorem D_X3_step {t : Nat → Option p_C} {h : p_H} {s : d_S} {r : d_S} (hF : F_X3_step t s = some r) (hH : d_V t h s) : p_wp p_GT p_MT 1 m_X3_step 0 (lv_args 0 [.ref 43]) [] h (d_QV t r) := by
  unfold F_X3_step at hF
  refine D_X3_step_l0 (fun {ls_u4} {s_u4} {h_u4} hF hH_u4 l0_u4 => ?_) _ hF hH rfl
  · refine dw_aln rfl l0_u4 (dw_aln rfl l0_u4 (dw_gi (k := 4) rfl rfl rfl hH_u4 d_c43_4 (dw_pi (k := 5) rfl rfl rfl rfl hH_u4 d_c43_5 hH_u4.r (by decide) hF (fun s5 h5 hH5 hF => dw_aln rfl l0_u4 (dw_aln rfl l0_u4 (dw_gi (k := 4) rfl rfl rfl hH5 d_c43_4 (dw_aln rfl l0_u4 (dw_gi (k := 1) rfl rfl rfl hH5 d_c43_1 (?_)))))))))
    refine d_if hF (fun q hF => ?_) (fun q hF => ?_)
    · refine dw_ge_y rfl (u := 84) rfl hH5.r hH5.r q ?_
      refine dw_aln rfl l0_u4 (dw_aln rfl l0_u4 (dw_gi (k := 4) rfl rfl rfl hH5 d_c43_4 (dw_vP hF rfl (d_vir (n := 2) rfl rfl rfl rfl rfl hH5 d_c43_0 rfl) rfl rfl rfl (dc := 0) (fun _ e => D_X3_byteAt e hH5 hH5.r) (fun v6 r_v6 hF => dw_sP hF rfl rfl rfl rfl rfl (dc := 0) (fun _ e => D_X3_sortOf e r_v6) (fun v7 r_v7 hF => dw_go rfl (u := 85) rfl (dw_pi (k := 6) rfl rfl rfl rfl hH5 d_c43_6 r_v7 (by decide) hF (fun s8 h8 hH8 hF => dw_lc rfl (x := 0) rfl (dw_lsn rfl rfl (dw_ic rfl (?_))))))))))
      refine dw_isn rfl rfl (?_)
      refine D_X3_step_l92 (fun {x1_u15} {x3_u15} {ls_u15} {s_u15} {h_u15} hF hH_u15 l0_u15 r_x1_u15 l1_u15 r_x3_u15 l3_u15 => ?_) _ hF hH8 (d_s1 (d_s2 l0_u4 rfl (by decide) (by decide)) rfl (by decide)) (d_rll rfl) (d_s1l p_lk_s2 (by decide) (by decide)) (d_rl rfl) p_lk_s1
      · exact D_X3_step_j191 hF hH_u15 l0_u15 r_x1_u15 l1_u15 r_x3_u15 l3_u15
    · refine dw_ge_n rfl (u := 84) rfl hH5.r hH5.r q ?_
      refine dw_ic rfl (dw_pi (k := 6) rfl rfl rfl rfl hH5 d_c43_6 (d_rl rfl) (by decide) hF (fun s19 h19 hH19 hF => dw_lc rfl (x := 0) rfl (dw_lsn rfl rfl (dw_ic rfl (dw_isn rfl rfl (?_))))))
      refine D_X3_step_l92 (fun {x1_u20} {x3_u20} {ls_u20} {s_u20} {h_u20} hF hH_u20 l0_u20 r_x1_u20 l1_u20 r_x3_u20 l3_u20 => ?_) _ hF hH19 (d_s1 (d_s2 l0_u4 rfl (by decide) (by decide)) rfl (by decide)) (d_rll rfl) (d_s1l p_lk_s2 (by decide) (by decide)) (d_rl rfl) p_lk_s1
      · exact D_X3_step_j191 hF hH_u20 l0_u20 r_x1_u20 l1_u20 r_x3_u20 l3_u20
set_option maxRecDepth 100000 in
noncomputable def F_X3_isSign (s : d_S) (x1 : Int) : Option (Int) :=
  if (s.1 43 6) = 3 then
  if (s.1 43 7) = x1 then
  some 1
  else
  some 0
  else
  some 0
set_option maxRecDepth 100000 in
theorem D_X3_isSign {t : Nat → Option p_C} {h : p_H} {s : d_S} {x1 : Int} {r : Int} (hF : F_X3_isSign s x1 = some r) (hH : d_V t h s) (r_x1 : d_R x1) : p_wp p_GT p_MT 0 m_X3_isSign 0 (lv_args 0 [.ref 43, .int (Int32.ofInt x1)]) [] h (d_QB h r) := by
  unfold F_X3_isSign at hF
  refine dw_aln rfl rfl (dw_gi (k := 6) rfl rfl rfl hH d_c43_6 (dw_ic rfl (?_)))
  refine d_if hF (fun q hF => ?_) (fun q hF => ?_)
  · refine dw_ne_y rfl (u := 20) rfl hH.r (d_rl rfl) q ?_
    refine dw_aln rfl rfl (dw_gi (k := 7) rfl rfl rfl hH d_c43_7 (dw_iln rfl rfl (?_)))
    refine d_if hF (fun q hF => ?_) (fun q hF => ?_)
    · refine dw_ne_y rfl (u := 20) rfl hH.r r_x1 q ?_
      exact dw_ic rfl (dw_go rfl (u := 21) rfl (dw_rB rfl rfl (Or.inr rfl) hF))
    · refine dw_ne_n rfl (u := 20) rfl hH.r r_x1 q ?_
      exact dw_ic rfl (dw_rB rfl rfl (Or.inl rfl) hF)
  · refine dw_ne_n rfl (u := 20) rfl hH.r (d_rl rfl) q ?_
    exact dw_ic rfl (dw_rB rfl rfl (Or.inl rfl) hF)
set_option maxRecDepth 100000 in
noncomputable def F_X3_isWord (s : d_S) (x1 : Int) : Option (Int) :=
  if (s.1 43 6) = 1 then
  if (s.1 43 7) = x1 then
  some 1
  else
  some 0
  else
  some 0
set_option maxRecDepth 100000 in
theorem D_X3_isWord {t : Nat → Option p_C} {h : p_H} {s : d_S} {x1 : Int} {r : Int} (hF : F_X3_isWord s x1 = some r) (hH : d_V t h s) (r_x1 : d_R x1) : p_wp p_GT p_MT 0 m_X3_isWord 0 (lv_args 0 [.ref 43, .int (Int32.ofInt x1)]) [] h (d_QB h r) := by
  unfold F_X3_isWord at hF
  refine dw_aln rfl rfl (dw_gi (k := 6) rfl rfl rfl hH d_c43_6 (dw_ic rfl (?_)))
  refine d_if hF (fun q hF => ?_) (fun q hF => ?_)
  · refine dw_ne_y rfl (u := 20) rfl hH.r (d_rl rfl) q ?_
    refine dw_aln rfl rfl (dw_gi (k := 7) rfl rfl rfl hH d_c43_7 (dw_iln rfl rfl (?_)))
    refine d_if hF (fun q hF => ?_) (fun q hF => ?_)
    · refine dw_ne_y rfl (u := 20) rfl hH.r r_x1 q ?_
      exact dw_ic rfl (dw_go rfl (u := 21) rfl (dw_rB rfl rfl (Or.inr rfl) hF))
    · refine dw_ne_n rfl (u := 20) rfl hH.r r_x1 q ?_
      exact dw_ic rfl (dw_rB rfl rfl (Or.inl rfl) hF)
  · refine dw_ne_n rfl (u := 20) rfl hH.r (d_rl rfl) q ?_
    exact dw_ic rfl (dw_rB rfl rfl (Or.inl rfl) hF)
set_option maxRecDepth 100000 in
noncomputable def F_X3_wrong (s : d_S) (x1 : Int) : Option (Int × d_S) :=
  d_l (d_si s 43 2 x1) (fun s1 => d_l (d_si s1 43 3 (s1.1 43 5)) (fun s2 => some (0, s2)))
set_option maxRecDepth 100000 in
theorem D_X3_wrong {t : Nat → Option p_C} {h : p_H} {s : d_S} {x1 : Int} {r : Int × d_S} (hF : F_X3_wrong s x1 = some r) (hH : d_V t h s) (r_x1 : d_R x1) : p_wp p_GT p_MT 0 m_X3_wrong 0 (lv_args 0 [.ref 43, .int (Int32.ofInt x1)]) [] h (d_QC t r) := by
  unfold F_X3_wrong at hF
  exact dw_aln rfl rfl (dw_iln rfl rfl (dw_pi (k := 2) rfl rfl rfl rfl hH d_c43_2 r_x1 (by decide) hF (fun s1 h1 hH1 hF => dw_aln rfl rfl (dw_aln rfl rfl (dw_gi (k := 5) rfl rfl rfl hH1 d_c43_5 (dw_pi (k := 3) rfl rfl rfl rfl hH1 d_c43_3 hH1.r (by decide) hF (fun s2 h2 hH2 hF => dw_ic rfl (dw_rC rfl rfl (Or.inl rfl) hH2 hF))))))))
set_option maxRecDepth 100000 in
noncomputable def F_X3_takeSign (t : Nat → Option p_C) (s : d_S) (x1 : Int) : Option (Int × d_S) :=
  d_b (F_X3_isSign s x1) (fun v1 => if v1 = 0 then
  d_b2 (F_X3_wrong s 1) (fun v2 s3 => some (v2, s3))
  else
  d_b (F_X3_step t s) (fun s4 => some (1, s4)))
set_option maxRecDepth 100000 in
theorem D_X3_takeSign {t : Nat → Option p_C} {h : p_H} {s : d_S} {x1 : Int} {r : Int × d_S} (hF : F_X3_takeSign t s x1 = some r) (hH : d_V t h s) (r_x1 : d_R x1) : p_wp p_GT p_MT 2 m_X3_takeSign 0 (lv_args 0 [.ref 43, .int (Int32.ofInt x1)]) [] h (d_QC t r) := by
  unfold F_X3_takeSign at hF
  refine dw_aln rfl rfl (dw_iln rfl rfl (dw_vB hF rfl (d_vir (n := 2) rfl rfl rfl rfl rfl hH d_c43_0 rfl) rfl rfl rfl (dc := 0) (fun _ e => D_X3_isSign e hH r_x1) (fun v1 r_v1 hF => ?_)))
  refine d_if hF (fun q hF => ?_) (fun q hF => ?_)
  · refine dw_zne_y rfl (u := 14) rfl (d_R_b r_v1) q ?_
    exact dw_aln rfl rfl (dw_ic rfl (dw_vC hF rfl (d_vir (n := 2) rfl rfl rfl rfl rfl hH d_c43_0 rfl) rfl rfl rfl (dc := 0) (fun _ _ e => D_X3_wrong e hH (d_rl rfl)) (fun v2 s3 h3 hH3 r_v2 hF => dw_rC rfl rfl r_v2 hH3 hF)))
  · refine dw_zne_n rfl (u := 14) rfl (d_R_b r_v1) q ?_
    exact dw_aln rfl rfl (dw_vV hF rfl (d_vir (n := 1) rfl rfl rfl rfl rfl hH d_c43_0 rfl) rfl rfl rfl (dc := 1) (fun _ e => D_X3_step e hH) (fun s4 h4 hH4 hF => dw_ic rfl (dw_rC rfl rfl (Or.inr rfl) hH4 hF)))
set_option maxRecDepth 100000 in
noncomputable def F_X3_takeWord (t : Nat → Option p_C) (s : d_S) (x1 : Int) : Option (Int × d_S) :=
  d_b (F_X3_isWord s x1) (fun v1 => if v1 = 0 then
  d_b2 (F_X3_wrong s 1) (fun v2 s3 => some (v2, s3))
  else
  d_b (F_X3_step t s) (fun s4 => some (1, s4)))
set_option maxRecDepth 100000 in
theorem D_X3_takeWord {t : Nat → Option p_C} {h : p_H} {s : d_S} {x1 : Int} {r : Int × d_S} (hF : F_X3_takeWord t s x1 = some r) (hH : d_V t h s) (r_x1 : d_R x1) : p_wp p_GT p_MT 2 m_X3_takeWord 0 (lv_args 0 [.ref 43, .int (Int32.ofInt x1)]) [] h (d_QC t r) := by
  unfold F_X3_takeWord at hF
  refine dw_aln rfl rfl (dw_iln rfl rfl (dw_vB hF rfl (d_vir (n := 2) rfl rfl rfl rfl rfl hH d_c43_0 rfl) rfl rfl rfl (dc := 0) (fun _ e => D_X3_isWord e hH r_x1) (fun v1 r_v1 hF => ?_)))
  refine d_if hF (fun q hF => ?_) (fun q hF => ?_)
  · refine dw_zne_y rfl (u := 14) rfl (d_R_b r_v1) q ?_
    exact dw_aln rfl rfl (dw_ic rfl (dw_vC hF rfl (d_vir (n := 2) rfl rfl rfl rfl rfl hH d_c43_0 rfl) rfl rfl rfl (dc := 0) (fun _ _ e => D_X3_wrong e hH (d_rl rfl)) (fun v2 s3 h3 hH3 r_v2 hF => dw_rC rfl rfl r_v2 hH3 hF)))
  · refine dw_zne_n rfl (u := 14) rfl (d_R_b r_v1) q ?_
    exact dw_aln rfl rfl (dw_vV hF rfl (d_vir (n := 1) rfl rfl rfl rfl rfl hH d_c43_0 rfl) rfl rfl rfl (dc := 1) (fun _ e => D_X3_step e hH) (fun s4 h4 hH4 hF => dw_ic rfl (dw_rC rfl rfl (Or.inr rfl) hH4 hF)))
set_option maxRecDepth 100000 in
noncomputable def F_X3_addPart (s : d_S) (x1 : Int) : Option (d_S) :=
  d_l (d_w ((((s.1 43 9) - 1) * 7) + (s.1 43 10))) (fun z1 => d_b (F_X11_within z1 0 (d_w (168 - 1))) (fun v2 => if v2 = 0 then
  some s
  else
  d_g (0 ≤ z1 ∧ z1 < 168) (d_l (d_si s 45 ((z1).toNat) x1) (fun s4 => d_l (d_si s4 43 10 (d_w ((s4.1 43 10) + 1))) (fun s5 => some s5)))))
set_option maxRecDepth 100000 in
theorem D_X3_addPart {t : Nat → Option p_C} {h : p_H} {s : d_S} {x1 : Int} {r : d_S} (hF : F_X3_addPart s x1 = some r) (hH : d_V t h s) (r_x1 : d_R x1) : p_wp p_GT p_MT 1 m_X3_addPart 0 (lv_args 0 [.ref 43, .int (Int32.ofInt x1)]) [] h (d_QV t r) := by
  unfold F_X3_addPart at hF
  refine dw_aln rfl rfl (dw_gi (k := 9) rfl rfl rfl hH d_c43_9 (dw_ic rfl (dw_sub rfl (dw_bp rfl rfl (dw_mul rfl (dw_aln rfl rfl (dw_gi (k := 10) rfl rfl rfl hH d_c43_10 (dw_add rfl (dw_w1 (?_))))))))))
  refine dw_nm hF d_R_w (fun z1 r_z1 hF => dw_isn rfl rfl (dw_iln rfl p_lk_s1 (dw_ic rfl (dw_aln rfl (d_s1 rfl rfl (by decide)) (dw_gr rfl rfl rfl hH d_c43_8 (dw_len rfl hH d_a45 rfl (z := 168) rfl (dw_ic rfl (dw_sub rfl (dw_w1 (?_))))))))))
  refine dw_sB hF rfl rfl rfl rfl rfl (dc := 0) (fun _ e => D_X11_within e r_z1 (d_rl rfl) d_R_w) (fun v2 r_v2 hF => ?_)
  refine d_if hF (fun q hF => ?_) (fun q hF => ?_)
  · refine dw_zeq_y rfl (u := 47) rfl (d_R_b r_v2) q ?_
    exact dw_rV rfl rfl hH hF
  · refine dw_zeq_n rfl (u := 47) rfl (d_R_b r_v2) q ?_
    refine dw_aln rfl (d_s1 rfl rfl (by decide)) (dw_gr rfl rfl rfl hH d_c43_8 (dw_iln rfl p_lk_s1 (dw_iln rfl (d_s1 rfl rfl (by decide)) (d_gd hF (fun g3 hF => dw_ast rfl hH d_a45 g3.1 g3.2 r_z1 rfl r_x1 hF (fun s4 h4 hH4 hF => dw_aln rfl (d_s1 rfl rfl (by decide)) (dw_dupr rfl (dw_gi (k := 10) rfl rfl rfl hH4 d_c43_10 (dw_ic rfl (?_))))))))))
    exact dw_add rfl (dw_w1 (dw_pi (k := 10) rfl rfl rfl rfl hH4 d_c43_10 d_R_w (by decide) hF (fun s5 h5 hH5 hF => dw_rV rfl rfl hH5 hF)))
set_option maxRecDepth 100000 in
noncomputable def F_X3_takeNumber (t : Nat → Option p_C) (s : d_S) (x1 : Int) (x2 : Int) : Option (Int × d_S) :=
  if (s.1 43 6) = 2 then
  d_b (F_X11_within (s.1 43 7) x1 x2) (fun v1 => if v1 = 0 then
  d_b2 (F_X3_wrong s 2) (fun v2 s3 => some (v2, s3))
  else
  d_b (F_X3_addPart s (s.1 43 7)) (fun s4 => d_b (F_X3_step t s4) (fun s5 => some (1, s5))))
  else
  d_b2 (F_X3_wrong s 1) (fun v6 s7 => some (v6, s7))
set_option maxRecDepth 100000 in
theorem D_X3_takeNumber {t : Nat → Option p_C} {h : p_H} {s : d_S} {x1 : Int} {x2 : Int} {r : Int × d_S} (hF : F_X3_takeNumber t s x1 x2 = some r) (hH : d_V t h s) (r_x1 : d_R x1) (r_x2 : d_R x2) : p_wp p_GT p_MT 2 m_X3_takeNumber 0 (lv_args 0 [.ref 43, .int (Int32.ofInt x1), .int (Int32.ofInt x2)]) [] h (d_QC t r) := by
  unfold F_X3_takeNumber at hF
  refine dw_aln rfl rfl (dw_gi (k := 6) rfl rfl rfl hH d_c43_6 (dw_ic rfl (?_)))
  refine d_if hF (fun q hF => ?_) (fun q hF => ?_)
  · refine dw_eq_y rfl (u := 14) rfl hH.r (d_rl rfl) q ?_
    refine dw_aln rfl rfl (dw_gi (k := 7) rfl rfl rfl hH d_c43_7 (dw_iln rfl rfl (dw_iln rfl rfl (dw_sB hF rfl rfl rfl rfl rfl (dc := 0) (fun _ e => D_X11_within e hH.r r_x1 r_x2) (fun v1 r_v1 hF => ?_)))))
    refine d_if hF (fun q hF => ?_) (fun q hF => ?_)
    · refine dw_zne_y rfl (u := 32) rfl (d_R_b r_v1) q ?_
      exact dw_aln rfl rfl (dw_ic rfl (dw_vC hF rfl (d_vir (n := 2) rfl rfl rfl rfl rfl hH d_c43_0 rfl) rfl rfl rfl (dc := 0) (fun _ _ e => D_X3_wrong e hH (d_rl rfl)) (fun v2 s3 h3 hH3 r_v2 hF => dw_rC rfl rfl r_v2 hH3 hF)))
    · refine dw_zne_n rfl (u := 32) rfl (d_R_b r_v1) q ?_
      exact dw_aln rfl rfl (dw_aln rfl rfl (dw_gi (k := 7) rfl rfl rfl hH d_c43_7 (dw_vV hF rfl (d_vir (n := 2) rfl rfl rfl rfl rfl hH d_c43_0 rfl) rfl rfl rfl (dc := 1) (fun _ e => D_X3_addPart e hH hH.r) (fun s4 h4 hH4 hF => dw_aln rfl rfl (dw_vV hF rfl (d_vir (n := 1) rfl rfl rfl rfl rfl hH4 d_c43_0 rfl) rfl rfl rfl (dc := 1) (fun _ e => D_X3_step e hH4) (fun s5 h5 hH5 hF => dw_ic rfl (dw_rC rfl rfl (Or.inr rfl) hH5 hF)))))))
  · refine dw_eq_n rfl (u := 14) rfl hH.r (d_rl rfl) q ?_
    exact dw_aln rfl rfl (dw_ic rfl (dw_vC hF rfl (d_vir (n := 2) rfl rfl rfl rfl rfl hH d_c43_0 rfl) rfl rfl rfl (dc := 0) (fun _ _ e => D_X3_wrong e hH (d_rl rfl)) (fun v6 s7 h7 hH7 r_v6 hF => dw_rC rfl rfl r_v6 hH7 hF)))
set_option maxRecDepth 100000 in
noncomputable def F_X3_readDeed (t : Nat → Option p_C) (s : d_S) (x1 : Int) : Option (Int × d_S) :=
  
  if x1 = 3 then
  d_b2 (F_X3_takeNumber t s 2 8) (fun v1 s2 => if v1 = 0 then
  some (0, s2)
  else
  d_b2 (F_X3_takeWord t s2 16) (fun v3 s4 => if v3 = 0 then
  some (0, s4)
  else
  d_b2 (F_X3_takeNumber t s4 2 8) (fun v5 s6 => if v5 = 0 then
  some (0, s6)
  else
  some (1, s6))))
  else
  if x1 = 4 then
  d_b2 (F_X3_takeNumber t s 0 9) (fun v7 s8 => if v7 = 0 then
  some (0, s8)
  else
  d_b2 (F_X3_takeWord t s8 17) (fun v9 s10 => if v9 = 0 then
  some (0, s10)
  else
  d_b2 (F_X3_takeNumber t s10 0 7) (fun v11 s12 => if v11 = 0 then
  some (0, s12)
  else
  d_b2 (F_X3_takeSign t s12 44) (fun v13 s14 => if v13 = 0 then
  some (0, s14)
  else
  d_b2 (F_X3_takeNumber t s14 0 7) (fun v15 s16 => if v15 = 0 then
  some (0, s16)
  else
  d_b2 (F_X3_takeSign t s16 58) (fun v17 s18 => if v17 = 0 then
  some (0, s18)
  else
  d_b2 (F_X3_takeNumber t s18 1 3) (fun v19 s20 => if v19 = 0 then
  some (0, s20)
  else
  d_b2 (F_X3_takeSign t s20 44) (fun v21 s22 => if v21 = 0 then
  some (0, s22)
  else
  d_b2 (F_X3_takeNumber t s22 1 3) (fun v23 s24 => if v23 = 0 then
  some (0, s24)
  else
  d_b2 (F_X3_takeWord t s24 18) (fun v25 s26 => if v25 = 0 then
  some (0, s26)
  else
  d_b2 (F_X3_takeNumber t s26 0 9) (fun v27 s28 => if v27 = 0 then
  some (0, s28)
  else
  some (1, s28))))))))))))
  else
  if x1 = 5 then
  d_b2 (F_X3_takeNumber t s 0 6) (fun v29 s30 => some (v29, s30))
  else
  if x1 = 6 then
  d_b2 (F_X3_takeNumber t s 0 6) (fun v31 s32 => some (v31, s32))
  else
  if x1 = 7 then
  d_b2 (F_X3_takeNumber t s 0 63) (fun v33 s34 => some (v33, s34))
  else
  if x1 = 8 then
  d_b2 (F_X3_takeNumber t s 1 9) (fun v35 s36 => if v35 = 0 then
  some (0, s36)
  else
  d_b2 (F_X3_takeWord t s36 19) (fun v37 s38 => if v37 = 0 then
  some (0, s38)
  else
  d_b2 (F_X3_takeNumber t s38 0 63) (fun v39 s40 => if v39 = 0 then
  some (0, s40)
  else
  some (1, s40))))
  else
  if x1 = 9 then
  d_b2 (F_X3_takeNumber t s 1 60) (fun v41 s42 => some (v41, s42))
  else
  d_b2 (F_X3_takeNumber t s 0 6) (fun v43 s44 => some (v43, s44))
set_option maxRecDepth 100000 in
theorem D_X3_readDeed {t : Nat → Option p_C} {h : p_H} {s : d_S} {x1 : Int} {r : Int × d_S} (hF : F_X3_readDeed t s x1 = some r) (hH : d_V t h s) (r_x1 : d_R x1) : p_wp p_GT p_MT 3 m_X3_readDeed 0 (lv_args 0 [.ref 43, .int (Int32.ofInt x1)]) [] h (d_QC t r) := by
  unfold F_X3_readDeed at hF
  refine dw_iln rfl rfl (?_)
  refine d_if hF (fun q hF => ?_) (fun q0 hF => ?_)
  · refine dw_ts rfl r_x1 (u := 44) (by rw [q]; rfl) ?_
    refine dw_aln rfl rfl (dw_ic rfl (dw_bp rfl rfl (dw_vC hF rfl (d_vir (n := 3) rfl rfl rfl rfl rfl hH d_c43_0 rfl) rfl rfl rfl (dc := 2) (fun _ _ e => D_X3_takeNumber e hH (d_rl rfl) (d_rl rfl)) (fun v1 s2 h2 hH2 r_v1 hF => ?_))))
    refine d_if hF (fun q hF => ?_) (fun q hF => ?_)
    · refine dw_zeq_y rfl (u := 77) rfl (d_R_b r_v1) q ?_
      exact dw_ic rfl (dw_rC rfl rfl (Or.inl rfl) hH2 hF)
    · refine dw_zeq_n rfl (u := 77) rfl (d_R_b r_v1) q ?_
      refine dw_aln rfl rfl (dw_bp rfl rfl (dw_vC hF rfl (d_vir (n := 2) rfl rfl rfl rfl rfl hH2 d_c43_0 rfl) rfl rfl rfl (dc := 2) (fun _ _ e => D_X3_takeWord e hH2 (d_rl rfl)) (fun v3 s4 h4 hH4 r_v3 hF => ?_)))
      refine d_if hF (fun q hF => ?_) (fun q hF => ?_)
      · refine dw_zeq_y rfl (u := 77) rfl (d_R_b r_v3) q ?_
        exact dw_ic rfl (dw_rC rfl rfl (Or.inl rfl) hH4 hF)
      · refine dw_zeq_n rfl (u := 77) rfl (d_R_b r_v3) q ?_
        refine dw_aln rfl rfl (dw_ic rfl (dw_bp rfl rfl (dw_vC hF rfl (d_vir (n := 3) rfl rfl rfl rfl rfl hH4 d_c43_0 rfl) rfl rfl rfl (dc := 2) (fun _ _ e => D_X3_takeNumber e hH4 (d_rl rfl) (d_rl rfl)) (fun v5 s6 h6 hH6 r_v5 hF => ?_))))
        refine d_if hF (fun q hF => ?_) (fun q hF => ?_)
        · refine dw_zeq_y rfl (u := 77) rfl (d_R_b r_v5) q ?_
          exact dw_ic rfl (dw_rC rfl rfl (Or.inl rfl) hH6 hF)
        · refine dw_zeq_n rfl (u := 77) rfl (d_R_b r_v5) q ?_
          exact dw_ic rfl (dw_go rfl (u := 78) rfl (dw_rC rfl rfl (Or.inr rfl) hH6 hF))
  refine d_if hF (fun q hF => ?_) (fun q1 hF => ?_)
  · refine dw_ts rfl r_x1 (u := 79) (by rw [q]; rfl) ?_
    refine dw_aln rfl rfl (dw_ic rfl (dw_bp rfl rfl (dw_vC hF rfl (d_vir (n := 3) rfl rfl rfl rfl rfl hH d_c43_0 rfl) rfl rfl rfl (dc := 2) (fun _ _ e => D_X3_takeNumber e hH (d_rl rfl) (d_rl rfl)) (fun v7 s8 h8 hH8 r_v7 hF => ?_))))
    refine d_if hF (fun q hF => ?_) (fun q hF => ?_)
    · refine dw_zeq_y rfl (u := 186) rfl (d_R_b r_v7) q ?_
      exact dw_ic rfl (dw_rC rfl rfl (Or.inl rfl) hH8 hF)
    · refine dw_zeq_n rfl (u := 186) rfl (d_R_b r_v7) q ?_
      refine dw_aln rfl rfl (dw_bp rfl rfl (dw_vC hF rfl (d_vir (n := 2) rfl rfl rfl rfl rfl hH8 d_c43_0 rfl) rfl rfl rfl (dc := 2) (fun _ _ e => D_X3_takeWord e hH8 (d_rl rfl)) (fun v9 s10 h10 hH10 r_v9 hF => ?_)))
      refine d_if hF (fun q hF => ?_) (fun q hF => ?_)
      · refine dw_zeq_y rfl (u := 186) rfl (d_R_b r_v9) q ?_
        exact dw_ic rfl (dw_rC rfl rfl (Or.inl rfl) hH10 hF)
      · refine dw_zeq_n rfl (u := 186) rfl (d_R_b r_v9) q ?_
        refine dw_aln rfl rfl (dw_ic rfl (dw_bp rfl rfl (dw_vC hF rfl (d_vir (n := 3) rfl rfl rfl rfl rfl hH10 d_c43_0 rfl) rfl rfl rfl (dc := 2) (fun _ _ e => D_X3_takeNumber e hH10 (d_rl rfl) (d_rl rfl)) (fun v11 s12 h12 hH12 r_v11 hF => ?_))))
        refine d_if hF (fun q hF => ?_) (fun q hF => ?_)
        · refine dw_zeq_y rfl (u := 186) rfl (d_R_b r_v11) q ?_
          exact dw_ic rfl (dw_rC rfl rfl (Or.inl rfl) hH12 hF)
        · refine dw_zeq_n rfl (u := 186) rfl (d_R_b r_v11) q ?_
          refine dw_aln rfl rfl (dw_bp rfl rfl (dw_vC hF rfl (d_vir (n := 2) rfl rfl rfl rfl rfl hH12 d_c43_0 rfl) rfl rfl rfl (dc := 2) (fun _ _ e => D_X3_takeSign e hH12 (d_rl rfl)) (fun v13 s14 h14 hH14 r_v13 hF => ?_)))
          refine d_if hF (fun q hF => ?_) (fun q hF => ?_)
          · refine dw_zeq_y rfl (u := 186) rfl (d_R_b r_v13) q ?_
            exact dw_ic rfl (dw_rC rfl rfl (Or.inl rfl) hH14 hF)
          · refine dw_zeq_n rfl (u := 186) rfl (d_R_b r_v13) q ?_
            refine dw_aln rfl rfl (dw_ic rfl (dw_bp rfl rfl (dw_vC hF rfl (d_vir (n := 3) rfl rfl rfl rfl rfl hH14 d_c43_0 rfl) rfl rfl rfl (dc := 2) (fun _ _ e => D_X3_takeNumber e hH14 (d_rl rfl) (d_rl rfl)) (fun v15 s16 h16 hH16 r_v15 hF => ?_))))
            refine d_if hF (fun q hF => ?_) (fun q hF => ?_)
            · refine dw_zeq_y rfl (u := 186) rfl (d_R_b r_v15) q ?_
              exact dw_ic rfl (dw_rC rfl rfl (Or.inl rfl) hH16 hF)
            · refine dw_zeq_n rfl (u := 186) rfl (d_R_b r_v15) q ?_
              refine dw_aln rfl rfl (dw_bp rfl rfl (dw_vC hF rfl (d_vir (n := 2) rfl rfl rfl rfl rfl hH16 d_c43_0 rfl) rfl rfl rfl (dc := 2) (fun _ _ e => D_X3_takeSign e hH16 (d_rl rfl)) (fun v17 s18 h18 hH18 r_v17 hF => ?_)))
              refine d_if hF (fun q hF => ?_) (fun q hF => ?_)
              · refine dw_zeq_y rfl (u := 186) rfl (d_R_b r_v17) q ?_
                exact dw_ic rfl (dw_rC rfl rfl (Or.inl rfl) hH18 hF)
              · refine dw_zeq_n rfl (u := 186) rfl (d_R_b r_v17) q ?_
                refine dw_aln rfl rfl (dw_ic rfl (dw_ic rfl (dw_vC hF rfl (d_vir (n := 3) rfl rfl rfl rfl rfl hH18 d_c43_0 rfl) rfl rfl rfl (dc := 2) (fun _ _ e => D_X3_takeNumber e hH18 (d_rl rfl) (d_rl rfl)) (fun v19 s20 h20 hH20 r_v19 hF => ?_))))
                refine d_if hF (fun q hF => ?_) (fun q hF => ?_)
                · refine dw_zeq_y rfl (u := 186) rfl (d_R_b r_v19) q ?_
                  exact dw_ic rfl (dw_rC rfl rfl (Or.inl rfl) hH20 hF)
                · refine dw_zeq_n rfl (u := 186) rfl (d_R_b r_v19) q ?_
                  refine dw_aln rfl rfl (dw_bp rfl rfl (dw_vC hF rfl (d_vir (n := 2) rfl rfl rfl rfl rfl hH20 d_c43_0 rfl) rfl rfl rfl (dc := 2) (fun _ _ e => D_X3_takeSign e hH20 (d_rl rfl)) (fun v21 s22 h22 hH22 r_v21 hF => ?_)))
                  refine d_if hF (fun q hF => ?_) (fun q hF => ?_)
                  · refine dw_zeq_y rfl (u := 186) rfl (d_R_b r_v21) q ?_
                    exact dw_ic rfl (dw_rC rfl rfl (Or.inl rfl) hH22 hF)
                  · refine dw_zeq_n rfl (u := 186) rfl (d_R_b r_v21) q ?_
                    refine dw_aln rfl rfl (dw_ic rfl (dw_ic rfl (dw_vC hF rfl (d_vir (n := 3) rfl rfl rfl rfl rfl hH22 d_c43_0 rfl) rfl rfl rfl (dc := 2) (fun _ _ e => D_X3_takeNumber e hH22 (d_rl rfl) (d_rl rfl)) (fun v23 s24 h24 hH24 r_v23 hF => ?_))))
                    refine d_if hF (fun q hF => ?_) (fun q hF => ?_)
                    · refine dw_zeq_y rfl (u := 186) rfl (d_R_b r_v23) q ?_
                      exact dw_ic rfl (dw_rC rfl rfl (Or.inl rfl) hH24 hF)
                    · refine dw_zeq_n rfl (u := 186) rfl (d_R_b r_v23) q ?_
                      refine dw_aln rfl rfl (dw_bp rfl rfl (dw_vC hF rfl (d_vir (n := 2) rfl rfl rfl rfl rfl hH24 d_c43_0 rfl) rfl rfl rfl (dc := 2) (fun _ _ e => D_X3_takeWord e hH24 (d_rl rfl)) (fun v25 s26 h26 hH26 r_v25 hF => ?_)))
                      refine d_if hF (fun q hF => ?_) (fun q hF => ?_)
                      · refine dw_zeq_y rfl (u := 186) rfl (d_R_b r_v25) q ?_
                        exact dw_ic rfl (dw_rC rfl rfl (Or.inl rfl) hH26 hF)
                      · refine dw_zeq_n rfl (u := 186) rfl (d_R_b r_v25) q ?_
                        refine dw_aln rfl rfl (dw_ic rfl (dw_bp rfl rfl (dw_vC hF rfl (d_vir (n := 3) rfl rfl rfl rfl rfl hH26 d_c43_0 rfl) rfl rfl rfl (dc := 2) (fun _ _ e => D_X3_takeNumber e hH26 (d_rl rfl) (d_rl rfl)) (fun v27 s28 h28 hH28 r_v27 hF => ?_))))
                        refine d_if hF (fun q hF => ?_) (fun q hF => ?_)
                        · refine dw_zeq_y rfl (u := 186) rfl (d_R_b r_v27) q ?_
                          exact dw_ic rfl (dw_rC rfl rfl (Or.inl rfl) hH28 hF)
                        · refine dw_zeq_n rfl (u := 186) rfl (d_R_b r_v27) q ?_
                          exact dw_ic rfl (dw_go rfl (u := 187) rfl (dw_rC rfl rfl (Or.inr rfl) hH28 hF))
  refine d_if hF (fun q hF => ?_) (fun q2 hF => ?_)
  · refine dw_ts rfl r_x1 (u := 239) (by rw [q]; rfl) ?_
    exact dw_aln rfl rfl (dw_ic rfl (dw_bp rfl rfl (dw_vC hF rfl (d_vir (n := 3) rfl rfl rfl rfl rfl hH d_c43_0 rfl) rfl rfl rfl (dc := 2) (fun _ _ e => D_X3_takeNumber e hH (d_rl rfl) (d_rl rfl)) (fun v29 s30 h30 hH30 r_v29 hF => dw_rC rfl rfl r_v29 hH30 hF))))
  refine d_if hF (fun q hF => ?_) (fun q3 hF => ?_)
  · refine dw_ts rfl r_x1 (u := 239) (by rw [q]; rfl) ?_
    exact dw_aln rfl rfl (dw_ic rfl (dw_bp rfl rfl (dw_vC hF rfl (d_vir (n := 3) rfl rfl rfl rfl rfl hH d_c43_0 rfl) rfl rfl rfl (dc := 2) (fun _ _ e => D_X3_takeNumber e hH (d_rl rfl) (d_rl rfl)) (fun v31 s32 h32 hH32 r_v31 hF => dw_rC rfl rfl r_v31 hH32 hF))))
  refine d_if hF (fun q hF => ?_) (fun q4 hF => ?_)
  · refine dw_ts rfl r_x1 (u := 231) (by rw [q]; rfl) ?_
    exact dw_aln rfl rfl (dw_ic rfl (dw_bp rfl rfl (dw_vC hF rfl (d_vir (n := 3) rfl rfl rfl rfl rfl hH d_c43_0 rfl) rfl rfl rfl (dc := 2) (fun _ _ e => D_X3_takeNumber e hH (d_rl rfl) (d_rl rfl)) (fun v33 s34 h34 hH34 r_v33 hF => dw_rC rfl rfl r_v33 hH34 hF))))
  refine d_if hF (fun q hF => ?_) (fun q5 hF => ?_)
  · refine dw_ts rfl r_x1 (u := 188) (by rw [q]; rfl) ?_
    refine dw_aln rfl rfl (dw_ic rfl (dw_bp rfl rfl (dw_vC hF rfl (d_vir (n := 3) rfl rfl rfl rfl rfl hH d_c43_0 rfl) rfl rfl rfl (dc := 2) (fun _ _ e => D_X3_takeNumber e hH (d_rl rfl) (d_rl rfl)) (fun v35 s36 h36 hH36 r_v35 hF => ?_))))
    refine d_if hF (fun q hF => ?_) (fun q hF => ?_)
    · refine dw_zeq_y rfl (u := 221) rfl (d_R_b r_v35) q ?_
      exact dw_ic rfl (dw_rC rfl rfl (Or.inl rfl) hH36 hF)
    · refine dw_zeq_n rfl (u := 221) rfl (d_R_b r_v35) q ?_
      refine dw_aln rfl rfl (dw_bp rfl rfl (dw_vC hF rfl (d_vir (n := 2) rfl rfl rfl rfl rfl hH36 d_c43_0 rfl) rfl rfl rfl (dc := 2) (fun _ _ e => D_X3_takeWord e hH36 (d_rl rfl)) (fun v37 s38 h38 hH38 r_v37 hF => ?_)))
      refine d_if hF (fun q hF => ?_) (fun q hF => ?_)
      · refine dw_zeq_y rfl (u := 221) rfl (d_R_b r_v37) q ?_
        exact dw_ic rfl (dw_rC rfl rfl (Or.inl rfl) hH38 hF)
      · refine dw_zeq_n rfl (u := 221) rfl (d_R_b r_v37) q ?_
        refine dw_aln rfl rfl (dw_ic rfl (dw_bp rfl rfl (dw_vC hF rfl (d_vir (n := 3) rfl rfl rfl rfl rfl hH38 d_c43_0 rfl) rfl rfl rfl (dc := 2) (fun _ _ e => D_X3_takeNumber e hH38 (d_rl rfl) (d_rl rfl)) (fun v39 s40 h40 hH40 r_v39 hF => ?_))))
        refine d_if hF (fun q hF => ?_) (fun q hF => ?_)
        · refine dw_zeq_y rfl (u := 221) rfl (d_R_b r_v39) q ?_
          exact dw_ic rfl (dw_rC rfl rfl (Or.inl rfl) hH40 hF)
        · refine dw_zeq_n rfl (u := 221) rfl (d_R_b r_v39) q ?_
          exact dw_ic rfl (dw_go rfl (u := 222) rfl (dw_rC rfl rfl (Or.inr rfl) hH40 hF))
  refine d_if hF (fun q hF => ?_) (fun q6 hF => ?_)
  · refine dw_ts rfl r_x1 (u := 223) (by rw [q]; rfl) ?_
    exact dw_aln rfl rfl (dw_ic rfl (dw_bp rfl rfl (dw_vC hF rfl (d_vir (n := 3) rfl rfl rfl rfl rfl hH d_c43_0 rfl) rfl rfl rfl (dc := 2) (fun _ _ e => D_X3_takeNumber e hH (d_rl rfl) (d_rl rfl)) (fun v41 s42 h42 hH42 r_v41 hF => dw_rC rfl rfl r_v41 hH42 hF))))
  refine dw_ts rfl r_x1 (u := 239) (by rw [if_pos (by omega)]; rfl) ?_
  exact dw_aln rfl rfl (dw_ic rfl (dw_bp rfl rfl (dw_vC hF rfl (d_vir (n := 3) rfl rfl rfl rfl rfl hH d_c43_0 rfl) rfl rfl rfl (dc := 2) (fun _ _ e => D_X3_takeNumber e hH (d_rl rfl) (d_rl rfl)) (fun v43 s44 h44 hH44 r_v43 hF => dw_rC rfl rfl r_v43 hH44 hF))))

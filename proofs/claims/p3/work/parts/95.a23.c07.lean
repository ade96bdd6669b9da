set_option maxRecDepth 100000 in
noncomputable def F_X11_together_j82 (s : d_S) (k46 : Int → Int → Int → Int → Option (Int)) (x2 : Int) (x3 : Int) (x4 : Int) (x5 : Int) : Option (Int) :=
  k46 x2 x3 x4 (d_w (x5 + 1))
set_option maxRecDepth 100000 in
theorem D_X11_together_j82 {t : Nat → Option p_C} {h : p_H} {s : d_S} {k46 : Int → Int → Int → Int → Option (Int)} {x2 : Int} {x3 : Int} {x4 : Int} {x5 : Int} {r : Int} {ls : p_Ls} (hF : F_X11_together_j82 s k46 x2 x3 x4 x5 = some r) (hH : d_V t h s) (l0 : p_lk 0 ls = some (.ref 2)) (r_x2 : d_R x2) (l2 : p_lk 2 ls = some (.int (Int32.ofInt x2))) (r_x3 : d_R x3) (l3 : p_lk 3 ls = some (.int (Int32.ofInt x3))) (r_x4 : d_R x4) (l4 : p_lk 4 ls = some (.int (Int32.ofInt x4))) (r_x5 : d_R x5) (l5 : p_lk 5 ls = some (.int (Int32.ofInt x5))) (hk46 : ∀ {x2 : Int} {x3 : Int} {x4 : Int} {x5 : Int} {ls : p_Ls}, k46 x2 x3 x4 x5 = some r → p_lk 0 ls = some (.ref 2) → d_R x2 → p_lk 2 ls = some (.int (Int32.ofInt x2)) → d_R x3 → p_lk 3 ls = some (.int (Int32.ofInt x3)) → d_R x4 → p_lk 4 ls = some (.int (Int32.ofInt x4)) → d_R x5 → p_lk 5 ls = some (.int (Int32.ofInt x5)) → p_wp p_GT p_MT 3 m_X11_together 46 ls [] h (d_QP h r)) : p_wp p_GT p_MT 3 m_X11_together 82 ls [] h (d_QP h r) := by
  unfold F_X11_together_j82 at hF
  refine dw_ic rfl (dw_is rfl rfl (dw_il rfl p_lk_s1 (dw_zeq_y rfl (u := 139) rfl (d_rl rfl) (by decide) (dw_ii rfl (d_s1 l5 rfl (by decide)) rfl (dw_go rfl (u := 46) rfl (?_))))))
  exact hk46 hF (d_s1 (d_s1 l0 rfl (by decide)) rfl (by decide)) r_x2 (d_s1 (d_s1 l2 rfl (by decide)) rfl (by decide)) r_x3 (d_s1 (d_s1 l3 rfl (by decide)) rfl (by decide)) r_x4 (d_s1 (d_s1 l4 rfl (by decide)) rfl (by decide)) d_R_w p_lk_s1
set_option maxRecDepth 100000 in
noncomputable def F_X11_together_l46_b (s : d_S) (k145 : Int → Int → Int → Option (Int)) (rec : Int → Int → Int → Int → Option (Int)) (x2 : Int) (x3 : Int) (x4 : Int) (x5 : Int) : Option (Int) :=
  if x5 < (s.1 3 3) then
  if (d_and (d_shr x2 x4) 1) = 1 then
  if (d_and (d_shr x2 x5) 1) = 1 then
  d_b (F_X9_sightPart_3 s x4 0) (fun v3 => d_b (F_X9_sightPart_3 s x5 0) (fun v4 => if v3 = v4 then
  rec x2 x3 x4 (d_w (x5 + 1))
  else
  d_b (F_X9_sightPart_3 s x4 5) (fun v5 => d_b (F_X9_sightPart_3 s x5 5) (fun v6 => if v5 = v6 then
  rec x2 (d_w (x3 + 1)) x4 (d_w (x5 + 1))
  else
  rec x2 x3 x4 (d_w (x5 + 1))))))
  else
  F_X11_together_j82 s rec x2 x3 x4 x5
  else
  F_X11_together_j82 s rec x2 x3 x4 x5
  else
  k145 x2 x3 x4
set_option maxRecDepth 100000 in
noncomputable def F_X11_together_l46 (s : d_S) (k145 : Int → Int → Int → Option (Int)) : Nat → Int → Int → Int → Int → Option (Int)
  | 0 => fun _ _ _ _ => none
  | n + 1 => F_X11_together_l46_b s k145 (F_X11_together_l46 s k145 n)
set_option maxRecDepth 100000 in
theorem D_X11_together_l46 {t : Nat → Option p_C} {h : p_H} {s : d_S} {k145 : Int → Int → Int → Option (Int)} {r : Int} (hH : d_V t h s) (hk145 : ∀ {x2 : Int} {x3 : Int} {x4 : Int} {ls : p_Ls}, k145 x2 x3 x4 = some r → p_lk 0 ls = some (.ref 2) → d_R x2 → p_lk 2 ls = some (.int (Int32.ofInt x2)) → d_R x3 → p_lk 3 ls = some (.int (Int32.ofInt x3)) → d_R x4 → p_lk 4 ls = some (.int (Int32.ofInt x4)) → p_wp p_GT p_MT 3 m_X11_together 145 ls [] h (d_QP h r)) : ∀ (n : Nat) {x2 : Int} {x3 : Int} {x4 : Int} {x5 : Int} {ls : p_Ls}, F_X11_together_l46 s k145 n x2 x3 x4 x5 = some r → p_lk 0 ls = some (.ref 2) → d_R x2 → p_lk 2 ls = some (.int (Int32.ofInt x2)) → d_R x3 → p_lk 3 ls = some (.int (Int32.ofInt x3)) → d_R x4 → p_lk 4 ls = some (.int (Int32.ofInt x4)) → d_R x5 → p_lk 5 ls = some (.int (Int32.ofInt x5)) → p_wp p_GT p_MT 3 m_X11_together 46 ls [] h (d_QP h r) := by
  intro n
  induction n with
  | zero =>
    intro x2 x3 x4 x5 ls hF l0 r_x2 l2 r_x3 l3 r_x4 l4 r_x5 l5
    cases (show (none : Option (Int)) = some r from hF)
  | succ n ih =>
    intro x2 x3 x4 x5 ls hF l0 r_x2 l2 r_x3 l3 r_x4 l4 r_x5 l5
    have hF : F_X11_together_l46_b s k145 (F_X11_together_l46 s k145 n) x2 x3 x4 x5 = some r := hF
    unfold F_X11_together_l46_b at hF
    refine dw_il rfl l5 (dw_aln rfl l0 (dw_gr rfl rfl rfl hH d_c2_0 (dw_gi (k := 3) rfl rfl rfl hH d_c3_3 (?_))))
    refine d_if hF (fun q hF => ?_) (fun q hF => ?_)
    · refine dw_ge_y rfl (u := 145) rfl r_x5 hH.r q ?_
      refine dw_iln rfl l2 (dw_il rfl l4 (dw_shr rfl (dw_ic rfl (dw_and rfl (dw_ic rfl (?_))))))
      refine d_if hF (fun q hF => ?_) (fun q hF => ?_)
      · refine dw_ne_y rfl (u := 82) rfl d_R_t (d_rl rfl) q ?_
        refine dw_iln rfl l2 (dw_il rfl l5 (dw_shr rfl (dw_ic rfl (dw_and rfl (dw_ic rfl (?_))))))
        refine d_if hF (fun q hF => ?_) (fun q hF => ?_)
        · refine dw_ne_y rfl (u := 82) rfl d_R_t (d_rl rfl) q ?_
          refine dw_ic rfl (dw_go rfl (u := 83) rfl (dw_is rfl rfl (dw_il rfl p_lk_s1 (dw_zeq_n rfl (u := 139) rfl (d_rl rfl) (by decide) (dw_aln rfl (d_s1 l0 rfl (by decide)) (dw_gr rfl rfl rfl hH d_c2_0 (dw_il rfl (d_s1 l4 rfl (by decide)) (dw_ic rfl (dw_vP hF rfl (d_vir (n := 3) rfl rfl rfl rfl rfl hH d_c3_0 rfl) rfl rfl rfl (dc := 0) (fun _ e => D_X9_sightPart_3 e hH r_x4 (d_rl rfl)) (fun v3 r_v3 hF => ?_))))))))))
          refine dw_aln rfl (d_s1 l0 rfl (by decide)) (dw_gr rfl rfl rfl hH d_c2_0 (dw_il rfl (d_s1 l5 rfl (by decide)) (dw_ic rfl (dw_vP hF rfl (d_vir (n := 3) rfl rfl rfl rfl rfl hH d_c3_0 rfl) rfl rfl rfl (dc := 0) (fun _ e => D_X9_sightPart_3 e hH r_x5 (d_rl rfl)) (fun v4 r_v4 hF => ?_)))))
          refine d_if hF (fun q hF => ?_) (fun q hF => ?_)
          · refine dw_eq_y rfl (u := 139) rfl r_v3 r_v4 q ?_
            refine dw_ii rfl (d_s1 l5 rfl (by decide)) rfl (dw_go rfl (u := 46) rfl (?_))
            exact ih hF (d_s1 (d_s1 l0 rfl (by decide)) rfl (by decide)) r_x2 (d_s1 (d_s1 l2 rfl (by decide)) rfl (by decide)) r_x3 (d_s1 (d_s1 l3 rfl (by decide)) rfl (by decide)) r_x4 (d_s1 (d_s1 l4 rfl (by decide)) rfl (by decide)) d_R_w p_lk_s1
          · refine dw_eq_n rfl (u := 139) rfl r_v3 r_v4 q ?_
            refine dw_aln rfl (d_s1 l0 rfl (by decide)) (dw_gr rfl rfl rfl hH d_c2_0 (dw_il rfl (d_s1 l4 rfl (by decide)) (dw_ic rfl (dw_vP hF rfl (d_vir (n := 3) rfl rfl rfl rfl rfl hH d_c3_0 rfl) rfl rfl rfl (dc := 0) (fun _ e => D_X9_sightPart_3 e hH r_x4 (d_rl rfl)) (fun v5 r_v5 hF => dw_aln rfl (d_s1 l0 rfl (by decide)) (dw_gr rfl rfl rfl hH d_c2_0 (dw_il rfl (d_s1 l5 rfl (by decide)) (dw_ic rfl (dw_vP hF rfl (d_vir (n := 3) rfl rfl rfl rfl rfl hH d_c3_0 rfl) rfl rfl rfl (dc := 0) (fun _ e => D_X9_sightPart_3 e hH r_x5 (d_rl rfl)) (fun v6 r_v6 hF => ?_))))))))))
            refine d_if hF (fun q hF => ?_) (fun q hF => ?_)
            · refine dw_ne_y rfl (u := 139) rfl r_v5 r_v6 q ?_
              refine dw_ii rfl (d_s1 l3 rfl (by decide)) rfl (dw_ii rfl (d_s1 (d_s1 l5 rfl (by decide)) rfl (by decide)) rfl (dw_go rfl (u := 46) rfl (?_)))
              exact ih hF (d_s1 (d_s1 (d_s1 l0 rfl (by decide)) rfl (by decide)) rfl (by decide)) r_x2 (d_s1 (d_s1 (d_s1 l2 rfl (by decide)) rfl (by decide)) rfl (by decide)) d_R_w (d_s1 p_lk_s1 rfl (by decide)) r_x4 (d_s1 (d_s1 (d_s1 l4 rfl (by decide)) rfl (by decide)) rfl (by decide)) d_R_w p_lk_s1
            · refine dw_ne_n rfl (u := 139) rfl r_v5 r_v6 q ?_
              refine dw_ii rfl (d_s1 l5 rfl (by decide)) rfl (dw_go rfl (u := 46) rfl (?_))
              exact ih hF (d_s1 (d_s1 l0 rfl (by decide)) rfl (by decide)) r_x2 (d_s1 (d_s1 l2 rfl (by decide)) rfl (by decide)) r_x3 (d_s1 (d_s1 l3 rfl (by decide)) rfl (by decide)) r_x4 (d_s1 (d_s1 l4 rfl (by decide)) rfl (by decide)) d_R_w p_lk_s1
        · refine dw_ne_n rfl (u := 82) rfl d_R_t (d_rl rfl) q ?_
          exact D_X11_together_j82 hF hH l0 r_x2 l2 r_x3 l3 r_x4 l4 r_x5 l5 (fun {x2} {x3} {x4} {x5} {ls} hF l0 r_x2 l2 r_x3 l3 r_x4 l4 r_x5 l5 => ih hF l0 r_x2 l2 r_x3 l3 r_x4 l4 r_x5 l5)
      · refine dw_ne_n rfl (u := 82) rfl d_R_t (d_rl rfl) q ?_
        exact D_X11_together_j82 hF hH l0 r_x2 l2 r_x3 l3 r_x4 l4 r_x5 l5 (fun {x2} {x3} {x4} {x5} {ls} hF l0 r_x2 l2 r_x3 l3 r_x4 l4 r_x5 l5 => ih hF l0 r_x2 l2 r_x3 l3 r_x4 l4 r_x5 l5)
    · refine dw_ge_n rfl (u := 145) rfl r_x5 hH.r q ?_
      exact hk145 hF l0 r_x2 l2 r_x3 l3 r_x4 l4
set_option maxRecDepth 100000 in
noncomputable def F_X11_together_l28_b (s : d_S) (rec : Int → Int → Int → Option (Int)) (x2 : Int) (x3 : Int) (x4 : Int) : Option (Int) :=
  if x4 < (s.1 3 3) then
  F_X11_together_l46 s (fun x2_u7 x3_u7 x4_u7 =>
  rec x2_u7 x3_u7 (d_w (x4_u7 + 1))) d_N x2 x3 x4 (d_w (x4 + 1))
  else
  some x3
set_option maxRecDepth 100000 in
noncomputable def F_X11_together_l28 (s : d_S) : Nat → Int → Int → Int → Option (Int)
  | 0 => fun _ _ _ => none
  | n + 1 => F_X11_together_l28_b s (F_X11_together_l28 s n)
set_option maxRecDepth 100000 in
theorem D_X11_together_l28 {t : Nat → Option p_C} {h : p_H} {s : d_S} {r : Int} (hH : d_V t h s) : ∀ (n : Nat) {x2 : Int} {x3 : Int} {x4 : Int} {ls : p_Ls}, F_X11_together_l28 s n x2 x3 x4 = some r → p_lk 0 ls = some (.ref 2) → d_R x2 → p_lk 2 ls = some (.int (Int32.ofInt x2)) → d_R x3 → p_lk 3 ls = some (.int (Int32.ofInt x3)) → d_R x4 → p_lk 4 ls = some (.int (Int32.ofInt x4)) → p_wp p_GT p_MT 3 m_X11_together 28 ls [] h (d_QP h r) := by
  intro n
  induction n with
  | zero =>
    intro x2 x3 x4 ls hF l0 r_x2 l2 r_x3 l3 r_x4 l4
    cases (show (none : Option (Int)) = some r from hF)
  | succ n ih =>
    intro x2 x3 x4 ls hF l0 r_x2 l2 r_x3 l3 r_x4 l4
    have hF : F_X11_together_l28_b s (F_X11_together_l28 s n) x2 x3 x4 = some r := hF
    unfold F_X11_together_l28_b at hF
    refine dw_il rfl l4 (dw_aln rfl l0 (dw_gr rfl rfl rfl hH d_c2_0 (dw_gi (k := 3) rfl rfl rfl hH d_c3_3 (?_))))
    refine d_if hF (fun q hF => ?_) (fun q hF => ?_)
    · refine dw_ge_y rfl (u := 151) rfl r_x4 hH.r q ?_
      refine dw_il rfl l4 (dw_ic rfl (dw_add rfl (dw_w1 (dw_is rfl rfl (?_)))))
      refine D_X11_together_l46 hH (fun {x2_u7} {x3_u7} {x4_u7} {ls_u7} hF l0_u7 r_x2_u7 l2_u7 r_x3_u7 l3_u7 r_x4_u7 l4_u7 => ?_) _ hF (d_s1 l0 rfl (by decide)) r_x2 (d_s1 l2 rfl (by decide)) r_x3 (d_s1 l3 rfl (by decide)) r_x4 (d_s1 l4 rfl (by decide)) d_R_w p_lk_s1
      · refine dw_ii rfl l4_u7 rfl (dw_go rfl (u := 28) rfl (?_))
        exact ih hF (d_s1 l0_u7 rfl (by decide)) r_x2_u7 (d_s1 l2_u7 rfl (by decide)) r_x3_u7 (d_s1 l3_u7 rfl (by decide)) d_R_w p_lk_s1
    · refine dw_ge_n rfl (u := 151) rfl r_x4 hH.r q ?_
      exact dw_iln rfl l3 (dw_rP rfl rfl r_x3 hF)
set_option maxRecDepth 100000 in
noncomputable def F_X11_together (s : d_S) (x1 : Int) : Option (Int) :=
  d_b (F_X11_isBlock s x1) (fun v1 => if v1 = 0 then
  some (-1)
  else
  d_b (F_X4_sightsIn_3 s x1) (fun v2 => F_X11_together_l28 s d_N v2 0 0))
set_option maxRecDepth 100000 in
theorem D_X11_together {t : Nat → Option p_C} {h : p_H} {s : d_S} {x1 : Int} {r : Int} (hF : F_X11_together s x1 = some r) (hH : d_V t h s) (r_x1 : d_R x1) : p_wp p_GT p_MT 3 m_X11_together 0 (lv_args 0 [.ref 2, .int (Int32.ofInt x1)]) [] h (d_QP h r) := by
  unfold F_X11_together at hF
  refine dw_aln rfl rfl (dw_iln rfl rfl (dw_vB hF rfl (d_vir (n := 2) rfl rfl rfl rfl rfl hH d_c2_0 rfl) rfl rfl rfl (dc := 1) (fun _ e => D_X11_isBlock e hH r_x1) (fun v1 r_v1 hF => ?_)))
  refine d_if hF (fun q hF => ?_) (fun q hF => ?_)
  · refine dw_zne_y rfl (u := 10) rfl (d_R_b r_v1) q ?_
    exact dw_ic rfl (dw_rP rfl rfl (d_rl rfl) hF)
  · refine dw_zne_n rfl (u := 10) rfl (d_R_b r_v1) q ?_
    refine dw_aln rfl rfl (dw_gr rfl rfl rfl hH d_c2_2 (dw_aln rfl rfl (dw_gr rfl rfl rfl hH d_c2_0 (dw_iln rfl rfl (dw_vP hF rfl (d_vir (n := 3) rfl rfl rfl rfl rfl hH d_c37_0 rfl) rfl rfl rfl (dc := 2) (fun _ e => D_X4_sightsIn_3 e hH r_x1) (fun v2 r_v2 hF => dw_isn rfl rfl (dw_ic rfl (dw_isn rfl rfl (dw_ic rfl (?_))))))))))
    refine dw_is rfl rfl (?_)
    exact D_X11_together_l28 hH _ hF (d_s1 (d_s1 (d_s1 rfl rfl (by decide)) rfl (by decide)) rfl (by decide)) r_v2 (d_s1 (d_s1 p_lk_s1 rfl (by decide)) rfl (by decide)) (d_rl rfl) (d_s1 p_lk_s1 rfl (by decide)) (d_rl rfl) p_lk_s1
set_option maxRecDepth 100000 in
noncomputable def F_X11_ice_l4_b (s : d_S) (rec : Int → Int → Int → Option (Int)) (x1 : Int) (x2 : Int) (x3 : Int) : Option (Int) :=
  if x3 < (s.1 37 5) then
  d_b (F_X10_isSold_6 s x3) (fun v1 => if v1 = x1 then
  d_b (F_X4_sizeOf s x3) (fun v2 => rec x1 (d_w (x2 + v2)) (d_w (x3 + 1)))
  else
  rec x1 x2 (d_w (x3 + 1)))
  else
  some x2
set_option maxRecDepth 100000 in
noncomputable def F_X11_ice_l4 (s : d_S) : Nat → Int → Int → Int → Option (Int)
  | 0 => fun _ _ _ => none
  | n + 1 => F_X11_ice_l4_b s (F_X11_ice_l4 s n)
set_option maxRecDepth 100000 in
theorem D_X11_ice_l4 {t : Nat → Option p_C} {h : p_H} {s : d_S} {r : Int} (hH : d_V t h s) : ∀ (n : Nat) {x1 : Int} {x2 : Int} {x3 : Int} {ls : p_Ls}, F_X11_ice_l4 s n x1 x2 x3 = some r → p_lk 0 ls = some (.ref 2) → d_R x1 → p_lk 1 ls = some (.int (Int32.ofInt x1)) → d_R x2 → p_lk 2 ls = some (.int (Int32.ofInt x2)) → d_R x3 → p_lk 3 ls = some (.int (Int32.ofInt x3)) → p_wp p_GT p_MT 2 m_X11_ice 4 ls [] h (d_QP h r) := by
  intro n
  induction n with
  | zero =>
    intro x1 x2 x3 ls hF l0 r_x1 l1 r_x2 l2 r_x3 l3
    cases (show (none : Option (Int)) = some r from hF)
  | succ n ih =>
    intro x1 x2 x3 ls hF l0 r_x1 l1 r_x2 l2 r_x3 l3
    have hF : F_X11_ice_l4_b s (F_X11_ice_l4 s n) x1 x2 x3 = some r := hF
    unfold F_X11_ice_l4_b at hF
    refine dw_iln rfl l3 (dw_aln rfl l0 (dw_gr rfl rfl rfl hH d_c2_2 (dw_gi (k := 5) rfl rfl rfl hH d_c37_5 (?_))))
    refine d_if hF (fun q hF => ?_) (fun q hF => ?_)
    · refine dw_ge_y rfl (u := 47) rfl r_x3 hH.r q ?_
      refine dw_aln rfl l0 (dw_gr rfl rfl rfl hH d_c2_0 (dw_gr rfl rfl rfl hH d_c3_8 (dw_iln rfl l3 (dw_vB hF rfl (d_vir (n := 2) rfl rfl rfl rfl rfl hH d_c6_0 rfl) rfl rfl rfl (dc := 1) (fun _ e => D_X10_isSold_6 e hH r_x3) (fun v1 r_v1 hF => dw_iln rfl l1 (?_))))))
      refine d_if hF (fun q hF => ?_) (fun q hF => ?_)
      · refine dw_ne_y rfl (u := 41) rfl (d_R_b r_v1) r_x1 q ?_
        refine dw_iln rfl l2 (dw_aln rfl l0 (dw_gr rfl rfl rfl hH d_c2_2 (dw_iln rfl l3 (dw_vP hF rfl (d_vir (n := 2) rfl rfl rfl rfl rfl hH d_c37_0 rfl) rfl rfl rfl (dc := 1) (fun _ e => D_X4_sizeOf e hH r_x3) (fun v2 r_v2 hF => dw_add rfl (dw_w1 (dw_isn rfl rfl (dw_ii rfl (d_s1 l3 rfl (by decide)) rfl (dw_go rfl (u := 4) rfl (?_))))))))))
        exact ih hF (d_s1 (d_s1 l0 rfl (by decide)) rfl (by decide)) r_x1 (d_s1 (d_s1 l1 rfl (by decide)) rfl (by decide)) d_R_w (d_s1 p_lk_s1 rfl (by decide)) d_R_w p_lk_s1
      · refine dw_ne_n rfl (u := 41) rfl (d_R_b r_v1) r_x1 q ?_
        refine dw_ii rfl l3 rfl (dw_go rfl (u := 4) rfl (?_))
        exact ih hF (d_s1 l0 rfl (by decide)) r_x1 (d_s1 l1 rfl (by decide)) r_x2 (d_s1 l2 rfl (by decide)) d_R_w p_lk_s1
    · refine dw_ge_n rfl (u := 47) rfl r_x3 hH.r q ?_
      exact dw_iln rfl l2 (dw_rP rfl rfl r_x2 hF)
set_option maxRecDepth 100000 in
noncomputable def F_X11_ice (s : d_S) (x1 : Int) : Option (Int) :=
  F_X11_ice_l4 s d_N x1 0 0
set_option maxRecDepth 100000 in
theorem D_X11_ice {t : Nat → Option p_C} {h : p_H} {s : d_S} {x1 : Int} {r : Int} (hF : F_X11_ice s x1 = some r) (hH : d_V t h s) (r_x1 : d_R x1) : p_wp p_GT p_MT 2 m_X11_ice 0 (lv_args 0 [.ref 2, .int (Int32.ofInt x1)]) [] h (d_QP h r) := by
  unfold F_X11_ice at hF
  refine dw_ic rfl (dw_isn rfl rfl (dw_ic rfl (dw_isn rfl rfl (?_))))
  exact D_X11_ice_l4 hH _ hF (d_s1 (d_s1 rfl rfl (by decide)) rfl (by decide)) r_x1 (d_s1 (d_s1 rfl rfl (by decide)) rfl (by decide)) (d_rl rfl) (d_s1 p_lk_s1 rfl (by decide)) (d_rl rfl) p_lk_s1
set_option maxRecDepth 100000 in
noncomputable def F_X11_gone_l4_b (s : d_S) (rec : Int → Int → Option (Int)) (x1 : Int) (x2 : Int) : Option (Int) :=
  if x2 < (s.1 37 5) then
  d_b (F_X10_meltedOf_6 s x2) (fun v1 => if v1 < 100 then
  d_b (F_X11_bit 0) (fun v2 => rec (d_w (x1 + v2)) (d_w (x2 + 1)))
  else
  d_b (F_X11_bit 1) (fun v3 => rec (d_w (x1 + v3)) (d_w (x2 + 1))))
  else
  some x1
set_option maxRecDepth 100000 in
noncomputable def F_X11_gone_l4 (s : d_S) : Nat → Int → Int → Option (Int)
  | 0 => fun _ _ => none
  | n + 1 => F_X11_gone_l4_b s (F_X11_gone_l4 s n)
set_option maxRecDepth 100000 in
theorem D_X11_gone_l4 {t : Nat → Option p_C} {h : p_H} {s : d_S} {r : Int} (hH : d_V t h s) : ∀ (n : Nat) {x1 : Int} {x2 : Int} {ls : p_Ls}, F_X11_gone_l4 s n x1 x2 = some r → p_lk 0 ls = some (.ref 2) → d_R x1 → p_lk 1 ls = some (.int (Int32.ofInt x1)) → d_R x2 → p_lk 2 ls = some (.int (Int32.ofInt x2)) → p_wp p_GT p_MT 2 m_X11_gone 4 ls [] h (d_QP h r) := by
  intro n
  induction n with
  | zero =>
    intro x1 x2 ls hF l0 r_x1 l1 r_x2 l2
    cases (show (none : Option (Int)) = some r from hF)
  | succ n ih =>
    intro x1 x2 ls hF l0 r_x1 l1 r_x2 l2
    have hF : F_X11_gone_l4_b s (F_X11_gone_l4 s n) x1 x2 = some r := hF
    unfold F_X11_gone_l4_b at hF
    refine dw_iln rfl l2 (dw_aln rfl l0 (dw_gr rfl rfl rfl hH d_c2_2 (dw_gi (k := 5) rfl rfl rfl hH d_c37_5 (?_))))
    refine d_if hF (fun q hF => ?_) (fun q hF => ?_)
    · refine dw_ge_y rfl (u := 48) rfl r_x2 hH.r q ?_
      refine dw_iln rfl l1 (dw_aln rfl l0 (dw_gr rfl rfl rfl hH d_c2_0 (dw_gr rfl rfl rfl hH d_c3_8 (dw_iln rfl l2 (dw_vP hF rfl (d_vir (n := 2) rfl rfl rfl rfl rfl hH d_c6_0 rfl) rfl rfl rfl (dc := 1) (fun _ e => D_X10_meltedOf_6 e hH r_x2) (fun v1 r_v1 hF => dw_bp rfl rfl (?_)))))))
      refine d_if hF (fun q hF => ?_) (fun q hF => ?_)
      · refine dw_lt_y rfl (u := 36) rfl r_v1 (d_rl rfl) q ?_
        refine dw_ic rfl (dw_sP hF rfl rfl rfl rfl rfl (dc := 0) (fun _ e => D_X11_bit e (d_rl rfl)) (fun v2 r_v2 hF => dw_add rfl (dw_w1 (dw_isn rfl rfl (dw_ii rfl (d_s1 l2 rfl (by decide)) rfl (dw_go rfl (u := 4) rfl (?_)))))))
        exact ih hF (d_s1 (d_s1 l0 rfl (by decide)) rfl (by decide)) d_R_w (d_s1 p_lk_s1 rfl (by decide)) d_R_w p_lk_s1
      · refine dw_lt_n rfl (u := 36) rfl r_v1 (d_rl rfl) q ?_
        refine dw_ic rfl (dw_go rfl (u := 37) rfl (dw_sP hF rfl rfl rfl rfl rfl (dc := 0) (fun _ e => D_X11_bit e (d_rl rfl)) (fun v3 r_v3 hF => dw_add rfl (dw_w1 (dw_isn rfl rfl (dw_ii rfl (d_s1 l2 rfl (by decide)) rfl (dw_go rfl (u := 4) rfl (?_))))))))
        exact ih hF (d_s1 (d_s1 l0 rfl (by decide)) rfl (by decide)) d_R_w (d_s1 p_lk_s1 rfl (by decide)) d_R_w p_lk_s1
    · refine dw_ge_n rfl (u := 48) rfl r_x2 hH.r q ?_
      exact dw_iln rfl l1 (dw_rP rfl rfl r_x1 hF)
set_option maxRecDepth 100000 in
noncomputable def F_X11_gone (s : d_S) : Option (Int) :=
  F_X11_gone_l4 s d_N 0 0
set_option maxRecDepth 100000 in
theorem D_X11_gone {t : Nat → Option p_C} {h : p_H} {s : d_S} {r : Int} (hF : F_X11_gone s = some r) (hH : d_V t h s) : p_wp p_GT p_MT 2 m_X11_gone 0 (lv_args 0 [.ref 2]) [] h (d_QP h r) := by
  unfold F_X11_gone at hF
  refine dw_ic rfl (dw_isn rfl rfl (dw_ic rfl (dw_isn rfl rfl (?_))))
  exact D_X11_gone_l4 hH _ hF (d_s1 (d_s1 rfl rfl (by decide)) rfl (by decide)) (d_rl rfl) (d_s1 p_lk_s1 rfl (by decide)) (d_rl rfl) p_lk_s1
set_option maxRecDepth 100000 in
noncomputable def F_X11_litter_l4_b (s : d_S) (rec : Int → Int → Option (Int)) (x1 : Int) (x2 : Int) : Option (Int) :=
  if x2 < (s.1 37 5) then
  d_b (F_X10_strawOn_6 s x2) (fun v1 => rec (d_w (x1 + v1)) (d_w (x2 + 1)))
  else
  some x1
set_option maxRecDepth 100000 in
noncomputable def F_X11_litter_l4 (s : d_S) : Nat → Int → Int → Option (Int)
  | 0 => fun _ _ => none
  | n + 1 => F_X11_litter_l4_b s (F_X11_litter_l4 s n)
set_option maxRecDepth 100000 in
theorem D_X11_litter_l4 {t : Nat → Option p_C} {h : p_H} {s : d_S} {r : Int} (hH : d_V t h s) : ∀ (n : Nat) {x1 : Int} {x2 : Int} {ls : p_Ls}, F_X11_litter_l4 s n x1 x2 = some r → p_lk 0 ls = some (.ref 2) → d_R x1 → p_lk 1 ls = some (.int (Int32.ofInt x1)) → d_R x2 → p_lk 2 ls = some (.int (Int32.ofInt x2)) → p_wp p_GT p_MT 2 m_X11_litter 4 ls [] h (d_QP h r) := by
  intro n
  induction n with
  | zero =>
    intro x1 x2 ls hF l0 r_x1 l1 r_x2 l2
    cases (show (none : Option (Int)) = some r from hF)
  | succ n ih =>
    intro x1 x2 ls hF l0 r_x1 l1 r_x2 l2
    have hF : F_X11_litter_l4_b s (F_X11_litter_l4 s n) x1 x2 = some r := hF
    unfold F_X11_litter_l4_b at hF
    refine dw_iln rfl l2 (dw_aln rfl l0 (dw_gr rfl rfl rfl hH d_c2_2 (dw_gi (k := 5) rfl rfl rfl hH d_c37_5 (?_))))
    refine d_if hF (fun q hF => ?_) (fun q hF => ?_)
    · refine dw_ge_y rfl (u := 35) rfl r_x2 hH.r q ?_
      refine dw_iln rfl l1 (dw_aln rfl l0 (dw_gr rfl rfl rfl hH d_c2_0 (dw_gr rfl rfl rfl hH d_c3_8 (dw_iln rfl l2 (dw_vP hF rfl (d_vir (n := 2) rfl rfl rfl rfl rfl hH d_c6_0 rfl) rfl rfl rfl (dc := 1) (fun _ e => D_X10_strawOn_6 e hH r_x2) (fun v1 r_v1 hF => dw_add rfl (dw_w1 (dw_isn rfl rfl (dw_ii rfl (d_s1 l2 rfl (by decide)) rfl (?_))))))))))
      refine dw_go rfl (u := 4) rfl (?_)
      exact ih hF (d_s1 (d_s1 l0 rfl (by decide)) rfl (by decide)) d_R_w (d_s1 p_lk_s1 rfl (by decide)) d_R_w p_lk_s1
    · refine dw_ge_n rfl (u := 35) rfl r_x2 hH.r q ?_
      exact dw_iln rfl l1 (dw_rP rfl rfl r_x1 hF)
set_option maxRecDepth 100000 in
noncomputable def F_X11_litter (s : d_S) : Option (Int) :=
  F_X11_litter_l4 s d_N 0 0
set_option maxRecDepth 100000 in
theorem D_X11_litter {t : Nat → Option p_C} {h : p_H} {s : d_S} {r : Int} (hF : F_X11_litter s = some r) (hH : d_V t h s) : p_wp p_GT p_MT 2 m_X11_litter 0 (lv_args 0 [.ref 2]) [] h (d_QP h r) := by
  unfold F_X11_litter at hF
  refine dw_ic rfl (dw_isn rfl rfl (dw_ic rfl (dw_isn rfl rfl (?_))))
  exact D_X11_litter_l4 hH _ hF (d_s1 (d_s1 rfl rfl (by decide)) rfl (by decide)) (d_rl rfl) (d_s1 p_lk_s1 rfl (by decide)) (d_rl rfl) p_lk_s1
set_option maxRecDepth 100000 in
noncomputable def F_X2_behind (t : Nat → Option p_C) (s : d_S) (x1 : Int) (x2 : Int) (x3 : Int) : Option (Int × d_S) :=
  d_b2 (F_X0_strawFrom t s x2 x3 (d_rem x1 10) (d_div x1 10)) (fun v1 s2 => d_b2 (F_X0_meltedFrom t s2 x2 x3 v1 (d_div x1 10)) (fun v3 s4 => some ((d_w ((v3 * 10) + v1)), s4)))
set_option maxRecDepth 100000 in
theorem D_X2_behind {t : Nat → Option p_C} {h : p_H} {s : d_S} {x1 : Int} {x2 : Int} {x3 : Int} {r : Int × d_S} (hF : F_X2_behind t s x1 x2 x3 = some r) (hH : d_V t h s) (r_x1 : d_R x1) (r_x2 : d_R x2) (r_x3 : d_R x3) : p_wp p_GT p_MT 4 m_X2_behind 0 (lv_args 0 [.ref 51, .int (Int32.ofInt x1), .int (Int32.ofInt x2), .int (Int32.ofInt x3)]) [] h (d_QI t r) := by
  unfold F_X2_behind at hF
  refine dw_iln rfl rfl (dw_bp rfl rfl (dw_div rfl (d_rl rfl) (by decide) (dw_is rfl rfl (dw_aln rfl (d_s1 rfl rfl (by decide)) (dw_gr rfl rfl rfl hH d_c51_0 (dw_iln rfl (d_s1 rfl rfl (by decide)) (dw_iln rfl (d_s1 rfl rfl (by decide)) (dw_iln rfl (d_s1 rfl rfl (by decide)) (dw_bp rfl rfl (?_))))))))))
  refine dw_rem rfl (d_rl rfl) (by decide) (dw_il rfl p_lk_s1 (dw_vI hF rfl (d_vir (n := 5) rfl rfl rfl rfl rfl hH d_c47_0 rfl) rfl rfl rfl (dc := 3) (fun _ _ e => D_X0_strawFrom e hH r_x2 r_x3 d_R_t d_R_t) (fun v1 s2 h2 hH2 r_v1 hF => dw_is rfl rfl (dw_aln rfl (d_s1 (d_s1 rfl rfl (by decide)) rfl (by decide)) (dw_gr rfl rfl rfl hH2 d_c51_0 (dw_iln rfl (d_s1 (d_s1 rfl rfl (by decide)) rfl (by decide)) (dw_iln rfl (d_s1 (d_s1 rfl rfl (by decide)) rfl (by decide)) (dw_il rfl p_lk_s1 (dw_il rfl (d_s1 p_lk_s1 rfl (by decide)) (?_))))))))))
  exact dw_vI hF rfl (d_vir (n := 5) rfl rfl rfl rfl rfl hH2 d_c47_0 rfl) rfl rfl rfl (dc := 3) (fun _ _ e => D_X0_meltedFrom e hH2 r_x2 r_x3 r_v1 d_R_t) (fun v3 s4 h4 hH4 r_v3 hF => dw_bp rfl rfl (dw_mul rfl (dw_il rfl p_lk_s1 (dw_add rfl (dw_w1 (dw_rI rfl rfl d_R_w hH4 hF))))))
set_option maxRecDepth 100000 in
noncomputable def F_X2_gather_l2_b (rec : Int → Int → d_S → Option (d_S)) (x1 : Int) (x2 : Int) (s : d_S) : Option (d_S) :=
  if x2 < x1 then
  if x2 < 100 then
  d_g (0 ≤ x2 ∧ x2 < 100) (if (s.1 53 (x2.toNat)) < 0 then
  rec x1 (d_w (x2 + 1)) s
  else
  if (s.1 53 (x2.toNat)) < 1000 then
  d_g (0 ≤ x2 ∧ x2 < 100) (d_l (d_si s 54 ((x2).toNat) (s.1 53 (x2.toNat))) (fun s3 => d_g (0 ≤ (s.1 53 (x2.toNat)) ∧ (s.1 53 (x2.toNat)) < 1000) (d_g (0 ≤ x2 ∧ x2 < 100) (d_l (d_si s3 55 ((x2).toNat) (s3.1 52 (((s.1 53 (x2.toNat))).toNat))) (fun s6 => d_g (0 ≤ (s.1 53 (x2.toNat)) ∧ (s.1 53 (x2.toNat)) < 1000) (d_l (d_si s6 52 (((s.1 53 (x2.toNat))).toNat) 0) (fun s8 => rec x1 (d_w (x2 + 1)) s8)))))))
  else
  rec x1 (d_w (x2 + 1)) s)
  else
  some s
  else
  some s
set_option maxRecDepth 100000 in
noncomputable def F_X2_gather_l2 : Nat → Int → Int → d_S → Option (d_S)
  | 0 => fun _ _ _ => none
  | n + 1 => F_X2_gather_l2_b (F_X2_gather_l2 n)
set_option maxRecDepth 100000 in
theorem D_X2_gather_l2 {t : Nat → Option p_C} {r : d_S} : ∀ (n : Nat) {x1 : Int} {x2 : Int} {ls : p_Ls} {s : d_S} {h : p_H}, F_X2_gather_l2 n x1 x2 s = some r → d_V t h s → p_lk 0 ls = some (.ref 51) → d_R x1 → p_lk 1 ls = some (.int (Int32.ofInt x1)) → d_R x2 → p_lk 2 ls = some (.int (Int32.ofInt x2)) → p_wp p_GT p_MT 0 m_X2_gather 2 ls [] h (d_QV t r) := by
  intro n
  induction n with
  | zero =>
    intro x1 x2 ls s h hF hH l0 r_x1 l1 r_x2 l2
    cases (show (none : Option (d_S)) = some r from hF)
  | succ n ih =>
    intro x1 x2 ls s h hF hH l0 r_x1 l1 r_x2 l2
    have hF : F_X2_gather_l2_b (F_X2_gather_l2 n) x1 x2 s = some r := hF
    unfold F_X2_gather_l2_b at hF
    refine dw_iln rfl l2 (dw_iln rfl l1 (?_))
    refine d_if hF (fun q hF => ?_) (fun q hF => ?_)
    · refine dw_ge_y rfl (u := 66) rfl r_x2 r_x1 q ?_
      refine dw_iln rfl l2 (dw_aln rfl l0 (dw_gr rfl rfl rfl hH d_c51_2 (dw_len rfl hH d_a53 rfl (z := 100) rfl (?_))))
      refine d_if hF (fun q hF => ?_) (fun q hF => ?_)
      · refine dw_ge_y rfl (u := 66) rfl r_x2 (d_rl rfl) q ?_
        refine dw_aln rfl l0 (dw_gr rfl rfl rfl hH d_c51_2 (dw_iln rfl l2 (d_gd hF (fun g1 hF => dw_ald rfl hH d_a53 rfl g1.1 g1.2 r_x2 rfl (dw_isn rfl rfl (dw_iln rfl p_lk_s1 (?_)))))))
        refine d_if hF (fun q hF => ?_) (fun q hF => ?_)
        · refine dw_zlt_y rfl (u := 60) rfl hH.r q ?_
          refine dw_ii rfl (d_s1 l2 rfl (by decide)) rfl (dw_go rfl (u := 2) rfl (?_))
          exact ih hF hH (d_s1 (d_s1 l0 rfl (by decide)) rfl (by decide)) r_x1 (d_s1 (d_s1 l1 rfl (by decide)) rfl (by decide)) d_R_w p_lk_s1
        · refine dw_zlt_n rfl (u := 60) rfl hH.r q ?_
          refine dw_iln rfl p_lk_s1 (dw_sp rfl rfl (?_))
          refine d_if hF (fun q hF => ?_) (fun q hF => ?_)
          · refine dw_ge_y rfl (u := 60) rfl hH.r (d_rl rfl) q ?_
            refine dw_aln rfl (d_s1 l0 rfl (by decide)) (dw_gr rfl rfl rfl hH d_c51_3 (dw_iln rfl (d_s1 l2 rfl (by decide)) (dw_iln rfl p_lk_s1 (d_gd hF (fun g2 hF => dw_ast rfl hH d_a54 g2.1 g2.2 r_x2 rfl hH.r hF (fun s3 h3 hH3 hF => dw_aln rfl (d_s1 l0 rfl (by decide)) (dw_gr rfl rfl rfl hH3 d_c51_4 (dw_iln rfl (d_s1 l2 rfl (by decide)) (dw_aln rfl (d_s1 l0 rfl (by decide)) (?_))))))))))
            refine dw_gr rfl rfl rfl hH3 d_c51_1 (dw_iln rfl p_lk_s1 (d_gd hF (fun g4 hF => dw_ald rfl hH3 d_a52 rfl g4.1 g4.2 hH.r rfl (d_gd hF (fun g5 hF => dw_ast rfl hH3 d_a55 g5.1 g5.2 r_x2 rfl hH3.r hF (fun s6 h6 hH6 hF => dw_aln rfl (d_s1 l0 rfl (by decide)) (dw_gr rfl rfl rfl hH6 d_c51_1 (dw_iln rfl p_lk_s1 (dw_ic rfl (?_))))))))))
            refine d_gd hF (fun g7 hF => dw_ast rfl hH6 d_a52 g7.1 g7.2 hH.r rfl (d_rl rfl) hF (fun s8 h8 hH8 hF => dw_ii rfl (d_s1 l2 rfl (by decide)) rfl (dw_go rfl (u := 2) rfl (?_))))
            exact ih hF hH8 (d_s1 (d_s1 l0 rfl (by decide)) rfl (by decide)) r_x1 (d_s1 (d_s1 l1 rfl (by decide)) rfl (by decide)) d_R_w p_lk_s1
          · refine dw_ge_n rfl (u := 60) rfl hH.r (d_rl rfl) q ?_
            refine dw_ii rfl (d_s1 l2 rfl (by decide)) rfl (dw_go rfl (u := 2) rfl (?_))
            exact ih hF hH (d_s1 (d_s1 l0 rfl (by decide)) rfl (by decide)) r_x1 (d_s1 (d_s1 l1 rfl (by decide)) rfl (by decide)) d_R_w p_lk_s1
      · refine dw_ge_n rfl (u := 66) rfl r_x2 (d_rl rfl) q ?_
        exact dw_rV rfl rfl hH hF
    · refine dw_ge_n rfl (u := 66) rfl r_x2 r_x1 q ?_
      exact dw_rV rfl rfl hH hF
set_option maxRecDepth 100000 in
noncomputable def F_X2_gather (s : d_S) (x1 : Int) : Option (d_S) :=
  F_X2_gather_l2 d_N x1 0 s
set_option maxRecDepth 100000 in
theorem D_X2_gather {t : Nat → Option p_C} {h : p_H} {s : d_S} {x1 : Int} {r : d_S} (hF : F_X2_gather s x1 = some r) (hH : d_V t h s) (r_x1 : d_R x1) : p_wp p_GT p_MT 0 m_X2_gather 0 (lv_args 0 [.ref 51, .int (Int32.ofInt x1)]) [] h (d_QV t r) := by
  unfold F_X2_gather at hF
  refine dw_ic rfl (dw_isn rfl rfl (?_))
  exact D_X2_gather_l2 _ hF hH (d_s1 rfl rfl (by decide)) r_x1 (d_s1 rfl rfl (by decide)) (d_rl rfl) p_lk_s1
set_option maxRecDepth 100000 in
noncomputable def F_X2_spread_j90 (t : Nat → Option p_C) (k24 : Int → Int → Int → Int → Int → d_S → Option (Int × d_S)) (x1 : Int) (x2 : Int) (x3 : Int) (x4 : Int) (x5 : Int) (x6 : Int) (s : d_S) : Option (Int × d_S) :=
  d_g (0 ≤ x6 ∧ x6 < 1000) (d_g (0 ≤ x4 ∧ x4 < 100) (d_g (0 ≤ x6 ∧ x6 < 1000) (d_l (d_si s 52 ((x6).toNat) (d_w ((s.1 52 (x6.toNat)) + (s.1 55 (x4.toNat))))) (fun s10 => k24 x1 x2 x3 x4 (d_w (x5 + 1)) s10))))
set_option maxRecDepth 100000 in
theorem D_X2_spread_j90 {t : Nat → Option p_C} {h : p_H} {s : d_S} {k24 : Int → Int → Int → Int → Int → d_S → Option (Int × d_S)} {x1 : Int} {x2 : Int} {x3 : Int} {x4 : Int} {x5 : Int} {x6 : Int} {r : Int × d_S} {ls : p_Ls} (hF : F_X2_spread_j90 t k24 x1 x2 x3 x4 x5 x6 s = some r) (hH : d_V t h s) (l0 : p_lk 0 ls = some (.ref 51)) (r_x1 : d_R x1) (l1 : p_lk 1 ls = some (.int (Int32.ofInt x1))) (r_x2 : d_R x2) (l2 : p_lk 2 ls = some (.int (Int32.ofInt x2))) (r_x3 : d_R x3) (l3 : p_lk 3 ls = some (.int (Int32.ofInt x3))) (r_x4 : d_R x4) (l4 : p_lk 4 ls = some (.int (Int32.ofInt x4))) (r_x5 : d_R x5) (l5 : p_lk 5 ls = some (.int (Int32.ofInt x5))) (r_x6 : d_R x6) (l6 : p_lk 6 ls = some (.int (Int32.ofInt x6))) (hk24 : ∀ {x1 : Int} {x2 : Int} {x3 : Int} {x4 : Int} {x5 : Int} {ls : p_Ls} {s : d_S} {h : p_H}, k24 x1 x2 x3 x4 x5 s = some r → d_V t h s → p_lk 0 ls = some (.ref 51) → d_R x1 → p_lk 1 ls = some (.int (Int32.ofInt x1)) → d_R x2 → p_lk 2 ls = some (.int (Int32.ofInt x2)) → d_R x3 → p_lk 3 ls = some (.int (Int32.ofInt x3)) → d_R x4 → p_lk 4 ls = some (.int (Int32.ofInt x4)) → d_R x5 → p_lk 5 ls = some (.int (Int32.ofInt x5)) → p_wp p_GT p_MT 5 m_X2_spread 24 ls [] h (d_QI t r)) : p_wp p_GT p_MT 5 m_X2_spread 90 ls [] h (d_QI t r) := by
  unfold F_X2_spread_j90 at hF
  refine dw_aln rfl l0 (dw_gr rfl rfl rfl hH d_c51_1 (dw_il rfl l6 (dw_dup2 rfl (d_gd hF (fun g7 hF => dw_ald rfl hH d_a52 rfl g7.1 g7.2 r_x6 rfl (dw_aln rfl l0 (dw_gr rfl rfl rfl hH d_c51_4 (dw_il rfl l4 (d_gd hF (fun g8 hF => ?_))))))))))
  refine dw_ald rfl hH d_a55 rfl g8.1 g8.2 r_x4 rfl (dw_add rfl (dw_w1 (d_gd hF (fun g9 hF => dw_ast rfl hH d_a52 g9.1 g9.2 r_x6 rfl d_R_w hF (fun s10 h10 hH10 hF => dw_ii rfl l5 rfl (dw_go rfl (u := 24) rfl (?_)))))))
  exact hk24 hF hH10 (d_s1 l0 rfl (by decide)) r_x1 (d_s1 l1 rfl (by decide)) r_x2 (d_s1 l2 rfl (by decide)) r_x3 (d_s1 l3 rfl (by decide)) r_x4 (d_s1 l4 rfl (by decide)) d_R_w p_lk_s1
set_option maxRecDepth 100000 in
noncomputable def F_X2_spread_l24_b (t : Nat → Option p_C) (k113 : Int → Int → Int → Int → d_S → Option (Int × d_S)) (rec : Int → Int → Int → Int → Int → d_S → Option (Int × d_S)) (x1 : Int) (x2 : Int) (x3 : Int) (x4 : Int) (x5 : Int) (s : d_S) : Option (Int × d_S) :=
  if x5 < 10 then
  d_g (0 ≤ x4 ∧ x4 < 100) (d_b2 (F_X2_behind t s (s.1 54 (x4.toNat)) x2 x5) (fun v2 s3 => if v2 < 0 then
  rec x1 x2 x3 x4 (d_w (x5 + 1)) s3
  else
  if v2 < 1000 then
  d_g (0 ≤ v2 ∧ v2 < 1000) (if (s3.1 52 (v2.toNat)) = 0 then
  if x3 < 100 then
  d_g (0 ≤ x3 ∧ x3 < 100) (d_l (d_si s3 53 ((x3).toNat) v2) (fun s6 => F_X2_spread_j90 t rec x1 x2 (d_w (x3 + 1)) x4 x5 v2 s6))
  else
  F_X2_spread_j90 t rec x1 x2 x3 x4 x5 v2 s3
  else
  F_X2_spread_j90 t rec x1 x2 x3 x4 x5 v2 s3)
  else
  rec x1 x2 x3 x4 (d_w (x5 + 1)) s3))
  else
  k113 x1 x2 x3 x4 s
set_option maxRecDepth 100000 in
noncomputable def F_X2_spread_l24 (t : Nat → Option p_C) (k113 : Int → Int → Int → Int → d_S → Option (Int × d_S)) : Nat → Int → Int → Int → Int → Int → d_S → Option (Int × d_S)
  | 0 => fun _ _ _ _ _ _ => none
  | n + 1 => F_X2_spread_l24_b t k113 (F_X2_spread_l24 t k113 n)
set_option maxRecDepth 100000 in
theorem D_X2_spread_l24 {t : Nat → Option p_C} {k113 : Int → Int → Int → Int → d_S → Option (Int × d_S)} {r : Int × d_S} (hk113 : ∀ {x1 : Int} {x2 : Int} {x3 : Int} {x4 : Int} {ls : p_Ls} {s : d_S} {h : p_H}, k113 x1 x2 x3 x4 s = some r → d_V t h s → p_lk 0 ls = some (.ref 51) → d_R x1 → p_lk 1 ls = some (.int (Int32.ofInt x1)) → d_R x2 → p_lk 2 ls = some (.int (Int32.ofInt x2)) → d_R x3 → p_lk 3 ls = some (.int (Int32.ofInt x3)) → d_R x4 → p_lk 4 ls = some (.int (Int32.ofInt x4)) → p_wp p_GT p_MT 5 m_X2_spread 113 ls [] h (d_QI t r)) : ∀ (n : Nat) {x1 : Int} {x2 : Int} {x3 : Int} {x4 : Int} {x5 : Int} {ls : p_Ls} {s : d_S} {h : p_H}, F_X2_spread_l24 t k113 n x1 x2 x3 x4 x5 s = some r → d_V t h s → p_lk 0 ls = some (.ref 51) → d_R x1 → p_lk 1 ls = some (.int (Int32.ofInt x1)) → d_R x2 → p_lk 2 ls = some (.int (Int32.ofInt x2)) → d_R x3 → p_lk 3 ls = some (.int (Int32.ofInt x3)) → d_R x4 → p_lk 4 ls = some (.int (Int32.ofInt x4)) → d_R x5 → p_lk 5 ls = some (.int (Int32.ofInt x5)) → p_wp p_GT p_MT 5 m_X2_spread 24 ls [] h (d_QI t r) := by
  intro n
  induction n with
  | zero =>
    intro x1 x2 x3 x4 x5 ls s h hF hH l0 r_x1 l1 r_x2 l2 r_x3 l3 r_x4 l4 r_x5 l5
    cases (show (none : Option (Int × d_S)) = some r from hF)
  | succ n ih =>
    intro x1 x2 x3 x4 x5 ls s h hF hH l0 r_x1 l1 r_x2 l2 r_x3 l3 r_x4 l4 r_x5 l5
    have hF : F_X2_spread_l24_b t k113 (F_X2_spread_l24 t k113 n) x1 x2 x3 x4 x5 s = some r := hF
    unfold F_X2_spread_l24_b at hF
    refine dw_il rfl l5 (dw_bp rfl rfl (?_))
    refine d_if hF (fun q hF => ?_) (fun q hF => ?_)
    · refine dw_ge_y rfl (u := 113) rfl r_x5 (d_rl rfl) q ?_
      refine dw_aln rfl l0 (dw_aln rfl l0 (dw_gr rfl rfl rfl hH d_c51_3 (dw_il rfl l4 (d_gd hF (fun g1 hF => dw_ald rfl hH d_a54 rfl g1.1 g1.2 r_x4 rfl (dw_iln rfl l2 (dw_il rfl l5 (dw_vI hF rfl (d_vir (n := 4) rfl rfl rfl rfl rfl hH d_c51_0 rfl) rfl rfl rfl (dc := 4) (fun _ _ e => D_X2_behind e hH hH.r r_x2 r_x5) (fun v2 s3 h3 hH3 r_v2 hF => dw_is rfl rfl (?_))))))))))
      refine dw_il rfl p_lk_s1 (?_)
      refine d_if hF (fun q hF => ?_) (fun q hF => ?_)
      · refine dw_zlt_y rfl (u := 107) rfl r_v2 q ?_
        refine dw_ii rfl (d_s1 l5 rfl (by decide)) rfl (dw_go rfl (u := 24) rfl (?_))
        exact ih hF hH3 (d_s1 (d_s1 l0 rfl (by decide)) rfl (by decide)) r_x1 (d_s1 (d_s1 l1 rfl (by decide)) rfl (by decide)) r_x2 (d_s1 (d_s1 l2 rfl (by decide)) rfl (by decide)) r_x3 (d_s1 (d_s1 l3 rfl (by decide)) rfl (by decide)) r_x4 (d_s1 (d_s1 l4 rfl (by decide)) rfl (by decide)) d_R_w p_lk_s1
      · refine dw_zlt_n rfl (u := 107) rfl r_v2 q ?_
        refine dw_il rfl p_lk_s1 (dw_sp rfl rfl (?_))
        refine d_if hF (fun q hF => ?_) (fun q hF => ?_)
        · refine dw_ge_y rfl (u := 107) rfl r_v2 (d_rl rfl) q ?_
          refine dw_aln rfl (d_s1 l0 rfl (by decide)) (dw_gr rfl rfl rfl hH3 d_c51_1 (dw_il rfl p_lk_s1 (d_gd hF (fun g4 hF => dw_ald rfl hH3 d_a52 rfl g4.1 g4.2 r_v2 rfl (?_)))))
          refine d_if hF (fun q hF => ?_) (fun q hF => ?_)
          · refine dw_zne_y rfl (u := 90) rfl hH3.r q ?_
            refine dw_iln rfl (d_s1 l3 rfl (by decide)) (dw_aln rfl (d_s1 l0 rfl (by decide)) (dw_gr rfl rfl rfl hH3 d_c51_2 (dw_len rfl hH3 d_a53 rfl (z := 100) rfl (?_))))
            refine d_if hF (fun q hF => ?_) (fun q hF => ?_)
            · refine dw_ge_y rfl (u := 90) rfl r_x3 (d_rl rfl) q ?_
              refine dw_aln rfl (d_s1 l0 rfl (by decide)) (dw_gr rfl rfl rfl hH3 d_c51_2 (dw_iln rfl (d_s1 l3 rfl (by decide)) (dw_il rfl p_lk_s1 (d_gd hF (fun g5 hF => dw_ast rfl hH3 d_a53 g5.1 g5.2 r_x3 rfl r_v2 hF (fun s6 h6 hH6 hF => dw_ii rfl (d_s1 l3 rfl (by decide)) rfl (?_)))))))
              exact D_X2_spread_j90 hF hH6 (d_s1 (d_s1 l0 rfl (by decide)) rfl (by decide)) r_x1 (d_s1 (d_s1 l1 rfl (by decide)) rfl (by decide)) r_x2 (d_s1 (d_s1 l2 rfl (by decide)) rfl (by decide)) d_R_w p_lk_s1 r_x4 (d_s1 (d_s1 l4 rfl (by decide)) rfl (by decide)) r_x5 (d_s1 (d_s1 l5 rfl (by decide)) rfl (by decide)) r_v2 (d_s1 p_lk_s1 rfl (by decide)) (fun {x1} {x2} {x3} {x4} {x5} {ls} {s} {h} hF hH l0 r_x1 l1 r_x2 l2 r_x3 l3 r_x4 l4 r_x5 l5 => ih hF hH l0 r_x1 l1 r_x2 l2 r_x3 l3 r_x4 l4 r_x5 l5)
            · refine dw_ge_n rfl (u := 90) rfl r_x3 (d_rl rfl) q ?_
              exact D_X2_spread_j90 hF hH3 (d_s1 l0 rfl (by decide)) r_x1 (d_s1 l1 rfl (by decide)) r_x2 (d_s1 l2 rfl (by decide)) r_x3 (d_s1 l3 rfl (by decide)) r_x4 (d_s1 l4 rfl (by decide)) r_x5 (d_s1 l5 rfl (by decide)) r_v2 p_lk_s1 (fun {x1} {x2} {x3} {x4} {x5} {ls} {s} {h} hF hH l0 r_x1 l1 r_x2 l2 r_x3 l3 r_x4 l4 r_x5 l5 => ih hF hH l0 r_x1 l1 r_x2 l2 r_x3 l3 r_x4 l4 r_x5 l5)
          · refine dw_zne_n rfl (u := 90) rfl hH3.r q ?_
            exact D_X2_spread_j90 hF hH3 (d_s1 l0 rfl (by decide)) r_x1 (d_s1 l1 rfl (by decide)) r_x2 (d_s1 l2 rfl (by decide)) r_x3 (d_s1 l3 rfl (by decide)) r_x4 (d_s1 l4 rfl (by decide)) r_x5 (d_s1 l5 rfl (by decide)) r_v2 p_lk_s1 (fun {x1} {x2} {x3} {x4} {x5} {ls} {s} {h} hF hH l0 r_x1 l1 r_x2 l2 r_x3 l3 r_x4 l4 r_x5 l5 => ih hF hH l0 r_x1 l1 r_x2 l2 r_x3 l3 r_x4 l4 r_x5 l5)
        · refine dw_ge_n rfl (u := 107) rfl r_v2 (d_rl rfl) q ?_
          refine dw_ii rfl (d_s1 l5 rfl (by decide)) rfl (dw_go rfl (u := 24) rfl (?_))
          exact ih hF hH3 (d_s1 (d_s1 l0 rfl (by decide)) rfl (by decide)) r_x1 (d_s1 (d_s1 l1 rfl (by decide)) rfl (by decide)) r_x2 (d_s1 (d_s1 l2 rfl (by decide)) rfl (by decide)) r_x3 (d_s1 (d_s1 l3 rfl (by decide)) rfl (by decide)) r_x4 (d_s1 (d_s1 l4 rfl (by decide)) rfl (by decide)) d_R_w p_lk_s1
    · refine dw_ge_n rfl (u := 113) rfl r_x5 (d_rl rfl) q ?_
      exact hk113 hF hH l0 r_x1 l1 r_x2 l2 r_x3 l3 r_x4 l4
set_option maxRecDepth 100000 in
noncomputable def F_X2_spread_l5_b (t : Nat → Option p_C) (k119 : Int → d_S → Option (Int × d_S)) (rec : Int → Int → Int → Int → d_S → Option (Int × d_S)) (x1 : Int) (x2 : Int) (x3 : Int) (x4 : Int) (s : d_S) : Option (Int × d_S) :=
  if x4 < x1 then
  if x4 < 100 then
  F_X2_spread_l24 t (fun x1_u11 x2_u11 x3_u11 x4_u11 s_u11 =>
  rec x1_u11 x2_u11 x3_u11 (d_w (x4_u11 + 1)) s_u11) d_N x1 x2 x3 x4 0 s
  else
  k119 x3 s
  else
  k119 x3 s
set_option maxRecDepth 100000 in
noncomputable def F_X2_spread_l5 (t : Nat → Option p_C) (k119 : Int → d_S → Option (Int × d_S)) : Nat → Int → Int → Int → Int → d_S → Option (Int × d_S)
  | 0 => fun _ _ _ _ _ => none
  | n + 1 => F_X2_spread_l5_b t k119 (F_X2_spread_l5 t k119 n)
set_option maxRecDepth 100000 in
theorem D_X2_spread_l5 {t : Nat → Option p_C} {k119 : Int → d_S → Option (Int × d_S)} {r : Int × d_S} (hk119 : ∀ {x3 : Int} {ls : p_Ls} {s : d_S} {h : p_H}, k119 x3 s = some r → d_V t h s → p_lk 0 ls = some (.ref 51) → d_R x3 → p_lk 3 ls = some (.int (Int32.ofInt x3)) → p_wp p_GT p_MT 5 m_X2_spread 119 ls [] h (d_QI t r)) : ∀ (n : Nat) {x1 : Int} {x2 : Int} {x3 : Int} {x4 : Int} {ls : p_Ls} {s : d_S} {h : p_H}, F_X2_spread_l5 t k119 n x1 x2 x3 x4 s = some r → d_V t h s → p_lk 0 ls = some (.ref 51) → d_R x1 → p_lk 1 ls = some (.int (Int32.ofInt x1)) → d_R x2 → p_lk 2 ls = some (.int (Int32.ofInt x2)) → d_R x3 → p_lk 3 ls = some (.int (Int32.ofInt x3)) → d_R x4 → p_lk 4 ls = some (.int (Int32.ofInt x4)) → p_wp p_GT p_MT 5 m_X2_spread 5 ls [] h (d_QI t r) := by
  intro n
  induction n with
  | zero =>
    intro x1 x2 x3 x4 ls s h hF hH l0 r_x1 l1 r_x2 l2 r_x3 l3 r_x4 l4
    cases (show (none : Option (Int × d_S)) = some r from hF)
  | succ n ih =>
    intro x1 x2 x3 x4 ls s h hF hH l0 r_x1 l1 r_x2 l2 r_x3 l3 r_x4 l4
    have hF : F_X2_spread_l5_b t k119 (F_X2_spread_l5 t k119 n) x1 x2 x3 x4 s = some r := hF
    unfold F_X2_spread_l5_b at hF
    refine dw_il rfl l4 (dw_iln rfl l1 (?_))
    refine d_if hF (fun q hF => ?_) (fun q hF => ?_)
    · refine dw_ge_y rfl (u := 119) rfl r_x4 r_x1 q ?_
      refine dw_il rfl l4 (dw_aln rfl l0 (dw_gr rfl rfl rfl hH d_c51_3 (dw_len rfl hH d_a54 rfl (z := 100) rfl (?_))))
      refine d_if hF (fun q hF => ?_) (fun q hF => ?_)
      · refine dw_ge_y rfl (u := 119) rfl r_x4 (d_rl rfl) q ?_
        refine dw_ic rfl (dw_is rfl rfl (?_))
        refine D_X2_spread_l24 (fun {x1_u11} {x2_u11} {x3_u11} {x4_u11} {ls_u11} {s_u11} {h_u11} hF hH_u11 l0_u11 r_x1_u11 l1_u11 r_x2_u11 l2_u11 r_x3_u11 l3_u11 r_x4_u11 l4_u11 => ?_) _ hF hH (d_s1 l0 rfl (by decide)) r_x1 (d_s1 l1 rfl (by decide)) r_x2 (d_s1 l2 rfl (by decide)) r_x3 (d_s1 l3 rfl (by decide)) r_x4 (d_s1 l4 rfl (by decide)) (d_rl rfl) p_lk_s1
        · refine dw_ii rfl l4_u11 rfl (dw_go rfl (u := 5) rfl (?_))
          exact ih hF hH_u11 (d_s1 l0_u11 rfl (by decide)) r_x1_u11 (d_s1 l1_u11 rfl (by decide)) r_x2_u11 (d_s1 l2_u11 rfl (by decide)) r_x3_u11 (d_s1 l3_u11 rfl (by decide)) d_R_w p_lk_s1
      · refine dw_ge_n rfl (u := 119) rfl r_x4 (d_rl rfl) q ?_
        exact hk119 hF hH l0 r_x3 l3
    · refine dw_ge_n rfl (u := 119) rfl r_x4 r_x1 q ?_
      exact hk119 hF hH l0 r_x3 l3
set_option maxRecDepth 100000 in
noncomputable def F_X2_spread (t : Nat → Option p_C) (s : d_S) (x1 : Int) (x2 : Int) : Option (Int × d_S) :=
  F_X2_spread_l5 t (fun x3_u12 s_u12 =>
  d_b (F_X2_gather s_u12 x3_u12) (fun s13 => some (x3_u12, s13))) d_N x1 x2 0 0 s
set_option maxRecDepth 100000 in
theorem D_X2_spread {t : Nat → Option p_C} {h : p_H} {s : d_S} {x1 : Int} {x2 : Int} {r : Int × d_S} (hF : F_X2_spread t s x1 x2 = some r) (hH : d_V t h s) (r_x1 : d_R x1) (r_x2 : d_R x2) : p_wp p_GT p_MT 5 m_X2_spread 0 (lv_args 0 [.ref 51, .int (Int32.ofInt x1), .int (Int32.ofInt x2)]) [] h (d_QI t r) := by
  unfold F_X2_spread at hF
  refine dw_ic rfl (dw_isn rfl rfl (dw_ic rfl (dw_is rfl rfl (?_))))
  refine D_X2_spread_l5 (fun {x3_u12} {ls_u12} {s_u12} {h_u12} hF hH_u12 l0_u12 r_x3_u12 l3_u12 => ?_) _ hF hH (d_s1 (d_s1 rfl rfl (by decide)) rfl (by decide)) r_x1 (d_s1 (d_s1 rfl rfl (by decide)) rfl (by decide)) r_x2 (d_s1 (d_s1 rfl rfl (by decide)) rfl (by decide)) (d_rl rfl) (d_s1 p_lk_s1 rfl (by decide)) (d_rl rfl) p_lk_s1
  · exact dw_aln rfl l0_u12 (dw_iln rfl l3_u12 (dw_vV hF rfl (d_vir (n := 2) rfl rfl rfl rfl rfl hH_u12 d_c51_0 rfl) rfl rfl rfl (dc := 0) (fun _ e => D_X2_gather e hH_u12 r_x3_u12) (fun s13 h13 hH13 hF => dw_iln rfl l3_u12 (dw_rI rfl rfl r_x3_u12 hH13 hF))))
set_option maxRecDepth 100000 in
noncomputable def F_X2_leftOver_l24_b (t : Nat → Option p_C) (k71 : Int → Int → Int → Int → d_S → Option (Int × d_S)) (rec : Int → Int → Int → Int → Int → d_S → Option (Int × d_S)) (x1 : Int) (x2 : Int) (x3 : Int) (x4 : Int) (x5 : Int) (s : d_S) : Option (Int × d_S) :=
  if x5 < 10 then
  d_g (0 ≤ x4 ∧ x4 < 100) (d_b2 (F_X2_behind t s (s.1 54 (x4.toNat)) x2 x5) (fun v2 s3 => if v2 < 1000 then
  d_g (0 ≤ x4 ∧ x4 < 100) (d_l (d_w (x3 + (s3.1 55 (x4.toNat)))) (fun z5 => rec x1 x2 z5 x4 (d_w (x5 + 1)) s3))
  else
  rec x1 x2 (d_w (x3 + 0)) x4 (d_w (x5 + 1)) s3))
  else
  k71 x1 x2 x3 x4 s
set_option maxRecDepth 100000 in
noncomputable def F_X2_leftOver_l24 (t : Nat → Option p_C) (k71 : Int → Int → Int → Int → d_S → Option (Int × d_S)) : Nat → Int → Int → Int → Int → Int → d_S → Option (Int × d_S)
  | 0 => fun _ _ _ _ _ _ => none
  | n + 1 => F_X2_leftOver_l24_b t k71 (F_X2_leftOver_l24 t k71 n)
set_option maxRecDepth 100000 in
theorem D_X2_leftOver_l24 {t : Nat → Option p_C} {k71 : Int → Int → Int → Int → d_S → Option (Int × d_S)} {r : Int × d_S} (hk71 : ∀ {x1 : Int} {x2 : Int} {x3 : Int} {x4 : Int} {ls : p_Ls} {s : d_S} {h : p_H}, k71 x1 x2 x3 x4 s = some r → d_V t h s → p_lk 0 ls = some (.ref 51) → d_R x1 → p_lk 1 ls = some (.int (Int32.ofInt x1)) → d_R x2 → p_lk 2 ls = some (.int (Int32.ofInt x2)) → d_R x3 → p_lk 3 ls = some (.int (Int32.ofInt x3)) → d_R x4 → p_lk 4 ls = some (.int (Int32.ofInt x4)) → p_wp p_GT p_MT 5 m_X2_leftOver 71 ls [] h (d_QI t r)) : ∀ (n : Nat) {x1 : Int} {x2 : Int} {x3 : Int} {x4 : Int} {x5 : Int} {ls : p_Ls} {s : d_S} {h : p_H}, F_X2_leftOver_l24 t k71 n x1 x2 x3 x4 x5 s = some r → d_V t h s → p_lk 0 ls = some (.ref 51) → d_R x1 → p_lk 1 ls = some (.int (Int32.ofInt x1)) → d_R x2 → p_lk 2 ls = some (.int (Int32.ofInt x2)) → d_R x3 → p_lk 3 ls = some (.int (Int32.ofInt x3)) → d_R x4 → p_lk 4 ls = some (.int (Int32.ofInt x4)) → d_R x5 → p_lk 5 ls = some (.int (Int32.ofInt x5)) → p_wp p_GT p_MT 5 m_X2_leftOver 24 ls [] h (d_QI t r) := by
  intro n
  induction n with
  | zero =>
    intro x1 x2 x3 x4 x5 ls s h hF hH l0 r_x1 l1 r_x2 l2 r_x3 l3 r_x4 l4 r_x5 l5
    cases (show (none : Option (Int × d_S)) = some r from hF)
  | succ n ih =>
    intro x1 x2 x3 x4 x5 ls s h hF hH l0 r_x1 l1 r_x2 l2 r_x3 l3 r_x4 l4 r_x5 l5
    have hF : F_X2_leftOver_l24_b t k71 (F_X2_leftOver_l24 t k71 n) x1 x2 x3 x4 x5 s = some r := hF
    unfold F_X2_leftOver_l24_b at hF
    refine dw_il rfl l5 (dw_bp rfl rfl (?_))
    refine d_if hF (fun q hF => ?_) (fun q hF => ?_)
    · refine dw_ge_y rfl (u := 71) rfl r_x5 (d_rl rfl) q ?_
      refine dw_iln rfl l3 (dw_aln rfl l0 (dw_aln rfl l0 (dw_gr rfl rfl rfl hH d_c51_3 (dw_il rfl l4 (d_gd hF (fun g1 hF => dw_ald rfl hH d_a54 rfl g1.1 g1.2 r_x4 rfl (dw_iln rfl l2 (dw_il rfl l5 (dw_vI hF rfl (d_vir (n := 4) rfl rfl rfl rfl rfl hH d_c51_0 rfl) rfl rfl rfl (dc := 4) (fun _ _ e => D_X2_behind e hH hH.r r_x2 r_x5) (fun v2 s3 h3 hH3 r_v2 hF => ?_))))))))))
      refine dw_sp rfl rfl (?_)
      refine d_if hF (fun q hF => ?_) (fun q hF => ?_)
      · refine dw_ge_y rfl (u := 62) rfl r_v2 (d_rl rfl) q ?_
        refine dw_aln rfl l0 (dw_gr rfl rfl rfl hH3 d_c51_4 (dw_il rfl l4 (d_gd hF (fun g4 hF => dw_ald rfl hH3 d_a55 rfl g4.1 g4.2 r_x4 rfl (dw_go rfl (u := 63) rfl (dw_add rfl (dw_w1 (dw_nm hF d_R_w (fun z5 r_z5 hF => dw_isn rfl rfl (?_))))))))))
        refine dw_ii rfl (d_s1 l5 rfl (by decide)) rfl (dw_go rfl (u := 24) rfl (?_))
        exact ih hF hH3 (d_s1 (d_s1 l0 rfl (by decide)) rfl (by decide)) r_x1 (d_s1 (d_s1 l1 rfl (by decide)) rfl (by decide)) r_x2 (d_s1 (d_s1 l2 rfl (by decide)) rfl (by decide)) r_z5 (d_s1 p_lk_s1 rfl (by decide)) r_x4 (d_s1 (d_s1 l4 rfl (by decide)) rfl (by decide)) d_R_w p_lk_s1
      · refine dw_ge_n rfl (u := 62) rfl r_v2 (d_rl rfl) q ?_
        refine dw_ic rfl (dw_add rfl (dw_w1 (dw_isn rfl rfl (dw_ii rfl (d_s1 l5 rfl (by decide)) rfl (dw_go rfl (u := 24) rfl (?_))))))
        exact ih hF hH3 (d_s1 (d_s1 l0 rfl (by decide)) rfl (by decide)) r_x1 (d_s1 (d_s1 l1 rfl (by decide)) rfl (by decide)) r_x2 (d_s1 (d_s1 l2 rfl (by decide)) rfl (by decide)) d_R_w (d_s1 p_lk_s1 rfl (by decide)) r_x4 (d_s1 (d_s1 l4 rfl (by decide)) rfl (by decide)) d_R_w p_lk_s1
    · refine dw_ge_n rfl (u := 71) rfl r_x5 (d_rl rfl) q ?_
      exact hk71 hF hH l0 r_x1 l1 r_x2 l2 r_x3 l3 r_x4 l4
set_option maxRecDepth 100000 in
noncomputable def F_X2_leftOver_l5_b (t : Nat → Option p_C) (rec : Int → Int → Int → Int → d_S → Option (Int × d_S)) (x1 : Int) (x2 : Int) (x3 : Int) (x4 : Int) (s : d_S) : Option (Int × d_S) :=
  if x4 < x1 then
  if x4 < 100 then
  F_X2_leftOver_l24 t (fun x1_u6 x2_u6 x3_u6 x4_u6 s_u6 =>
  rec x1_u6 x2_u6 x3_u6 (d_w (x4_u6 + 1)) s_u6) d_N x1 x2 x3 x4 0 s
  else
  some (x3, s)
  else
  some (x3, s)
set_option maxRecDepth 100000 in
noncomputable def F_X2_leftOver_l5 (t : Nat → Option p_C) : Nat → Int → Int → Int → Int → d_S → Option (Int × d_S)
  | 0 => fun _ _ _ _ _ => none
  | n + 1 => F_X2_leftOver_l5_b t (F_X2_leftOver_l5 t n)
set_option maxRecDepth 100000 in
theorem D_X2_leftOver_l5 {t : Nat → Option p_C} {r : Int × d_S} : ∀ (n : Nat) {x1 : Int} {x2 : Int} {x3 : Int} {x4 : Int} {ls : p_Ls} {s : d_S} {h : p_H}, F_X2_leftOver_l5 t n x1 x2 x3 x4 s = some r → d_V t h s → p_lk 0 ls = some (.ref 51) → d_R x1 → p_lk 1 ls = some (.int (Int32.ofInt x1)) → d_R x2 → p_lk 2 ls = some (.int (Int32.ofInt x2)) → d_R x3 → p_lk 3 ls = some (.int (Int32.ofInt x3)) → d_R x4 → p_lk 4 ls = some (.int (Int32.ofInt x4)) → p_wp p_GT p_MT 5 m_X2_leftOver 5 ls [] h (d_QI t r) := by
  intro n
  induction n with
  | zero =>
    intro x1 x2 x3 x4 ls s h hF hH l0 r_x1 l1 r_x2 l2 r_x3 l3 r_x4 l4
    cases (show (none : Option (Int × d_S)) = some r from hF)
  | succ n ih =>
    intro x1 x2 x3 x4 ls s h hF hH l0 r_x1 l1 r_x2 l2 r_x3 l3 r_x4 l4
    have hF : F_X2_leftOver_l5_b t (F_X2_leftOver_l5 t n) x1 x2 x3 x4 s = some r := hF
    unfold F_X2_leftOver_l5_b at hF
    refine dw_il rfl l4 (dw_iln rfl l1 (?_))
    refine d_if hF (fun q hF => ?_) (fun q hF => ?_)
    · refine dw_ge_y rfl (u := 77) rfl r_x4 r_x1 q ?_
      refine dw_il rfl l4 (dw_aln rfl l0 (dw_gr rfl rfl rfl hH d_c51_3 (dw_len rfl hH d_a54 rfl (z := 100) rfl (?_))))
      refine d_if hF (fun q hF => ?_) (fun q hF => ?_)
      · refine dw_ge_y rfl (u := 77) rfl r_x4 (d_rl rfl) q ?_
        refine dw_ic rfl (dw_is rfl rfl (?_))
        refine D_X2_leftOver_l24 (fun {x1_u6} {x2_u6} {x3_u6} {x4_u6} {ls_u6} {s_u6} {h_u6} hF hH_u6 l0_u6 r_x1_u6 l1_u6 r_x2_u6 l2_u6 r_x3_u6 l3_u6 r_x4_u6 l4_u6 => ?_) _ hF hH (d_s1 l0 rfl (by decide)) r_x1 (d_s1 l1 rfl (by decide)) r_x2 (d_s1 l2 rfl (by decide)) r_x3 (d_s1 l3 rfl (by decide)) r_x4 (d_s1 l4 rfl (by decide)) (d_rl rfl) p_lk_s1
        · refine dw_ii rfl l4_u6 rfl (dw_go rfl (u := 5) rfl (?_))
          exact ih hF hH_u6 (d_s1 l0_u6 rfl (by decide)) r_x1_u6 (d_s1 l1_u6 rfl (by decide)) r_x2_u6 (d_s1 l2_u6 rfl (by decide)) r_x3_u6 (d_s1 l3_u6 rfl (by decide)) d_R_w p_lk_s1
      · refine dw_ge_n rfl (u := 77) rfl r_x4 (d_rl rfl) q ?_
        exact dw_iln rfl l3 (dw_rI rfl rfl r_x3 hH hF)
    · refine dw_ge_n rfl (u := 77) rfl r_x4 r_x1 q ?_
      exact dw_iln rfl l3 (dw_rI rfl rfl r_x3 hH hF)
set_option maxRecDepth 100000 in
noncomputable def F_X2_leftOver (t : Nat → Option p_C) (s : d_S) (x1 : Int) (x2 : Int) : Option (Int × d_S) :=
  F_X2_leftOver_l5 t d_N x1 x2 0 0 s
set_option maxRecDepth 100000 in
theorem D_X2_leftOver {t : Nat → Option p_C} {h : p_H} {s : d_S} {x1 : Int} {x2 : Int} {r : Int × d_S} (hF : F_X2_leftOver t s x1 x2 = some r) (hH : d_V t h s) (r_x1 : d_R x1) (r_x2 : d_R x2) : p_wp p_GT p_MT 5 m_X2_leftOver 0 (lv_args 0 [.ref 51, .int (Int32.ofInt x1), .int (Int32.ofInt x2)]) [] h (d_QI t r) := by
  unfold F_X2_leftOver at hF
  refine dw_ic rfl (dw_isn rfl rfl (dw_ic rfl (dw_is rfl rfl (?_))))
  exact D_X2_leftOver_l5 _ hF hH (d_s1 (d_s1 rfl rfl (by decide)) rfl (by decide)) r_x1 (d_s1 (d_s1 rfl rfl (by decide)) rfl (by decide)) r_x2 (d_s1 (d_s1 rfl rfl (by decide)) rfl (by decide)) (d_rl rfl) (d_s1 p_lk_s1 rfl (by decide)) (d_rl rfl) p_lk_s1

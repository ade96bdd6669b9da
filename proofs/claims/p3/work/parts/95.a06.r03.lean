set_option maxRecDepth 100000 in
noncomputable def F_X12_showing_l4_b (s : d_S) (rec : Int → Int → Option (Int)) (x1 : Int) (x2 : Int) : Option (Int) :=
  if x2 < (s.1 65 0) then
  d_b (F_X12_isShowing s x2) (fun v1 => if v1 = 0 then
  rec (d_or x1 0) (d_w (x2 + 1))
  else
  rec (d_or x1 (d_shl 1 x2)) (d_w (x2 + 1)))
  else
  some x1
set_option maxRecDepth 100000 in
noncomputable def F_X12_showing_l4 (s : d_S) : Nat → Int → Int → Option (Int)
  | 0 => fun _ _ => none
  | n + 1 => F_X12_showing_l4_b s (F_X12_showing_l4 s n)
set_option maxRecDepth 100000 in
theorem D_X12_showing_l4 {t : Nat → Option p_C} {h : p_H} {s : d_S} {r : Int} (hH : d_V t h s) : ∀ (n : Nat) {x1 : Int} {x2 : Int} {ls : p_Ls}, F_X12_showing_l4 s n x1 x2 = some r → p_lk 0 ls = some (.ref 64) → d_R x1 → p_lk 1 ls = some (.int (Int32.ofInt x1)) → d_R x2 → p_lk 2 ls = some (.int (Int32.ofInt x2)) → p_wp p_GT p_MT 6 m_X12_showing 4 ls [] h (d_QP h r) := by
  intro n
  induction n with
  | zero =>
    intro x1 x2 ls hF l0 r_x1 l1 r_x2 l2
    cases (show (none : Option (Int)) = some r from hF)
  | succ n ih =>
    intro x1 x2 ls hF l0 r_x1 l1 r_x2 l2
    have hF : F_X12_showing_l4_b s (F_X12_showing_l4 s n) x1 x2 = some r := hF
    unfold F_X12_showing_l4_b at hF
    refine dw_iln rfl l2 (dw_aln rfl l0 (dw_gr rfl rfl rfl hH d_c64_0 (dw_ic rfl (dw_ald rfl hH d_a65 rfl (by decide) (by decide) (d_rl rfl) (k := 0) rfl (?_)))))
    refine d_if hF (fun q hF => ?_) (fun q hF => ?_)
    · refine dw_ge_y rfl (u := 38) rfl r_x2 hH.r q ?_
      refine dw_iln rfl l1 (dw_aln rfl l0 (dw_iln rfl l2 (dw_vB hF rfl (d_vir (n := 2) rfl rfl rfl rfl rfl hH d_c64_0 rfl) rfl rfl rfl (dc := 5) (fun _ e => D_X12_isShowing e hH r_x2) (fun v1 r_v1 hF => ?_))))
      refine d_if hF (fun q hF => ?_) (fun q hF => ?_)
      · refine dw_zeq_y rfl (u := 29) rfl (d_R_b r_v1) q ?_
        refine dw_ic rfl (dw_or rfl (dw_isn rfl rfl (dw_ii rfl (d_s1 l2 rfl (by decide)) rfl (dw_go rfl (u := 4) rfl (?_)))))
        exact ih hF (d_s1 (d_s1 l0 rfl (by decide)) rfl (by decide)) d_R_t (d_s1 p_lk_s1 rfl (by decide)) d_R_w p_lk_s1
      · refine dw_zeq_n rfl (u := 29) rfl (d_R_b r_v1) q ?_
        refine dw_ic rfl (dw_iln rfl l2 (dw_shl rfl (dw_go rfl (u := 30) rfl (dw_or rfl (dw_isn rfl rfl (dw_ii rfl (d_s1 l2 rfl (by decide)) rfl (dw_go rfl (u := 4) rfl (?_))))))))
        exact ih hF (d_s1 (d_s1 l0 rfl (by decide)) rfl (by decide)) d_R_t (d_s1 p_lk_s1 rfl (by decide)) d_R_w p_lk_s1
    · refine dw_ge_n rfl (u := 38) rfl r_x2 hH.r q ?_
      exact dw_iln rfl l1 (dw_rP rfl rfl r_x1 hF)
set_option maxRecDepth 100000 in
noncomputable def F_X12_showing (s : d_S) : Option (Int) :=
  F_X12_showing_l4 s d_N 0 0
set_option maxRecDepth 100000 in
theorem D_X12_showing {t : Nat → Option p_C} {h : p_H} {s : d_S} {r : Int} (hF : F_X12_showing s = some r) (hH : d_V t h s) : p_wp p_GT p_MT 6 m_X12_showing 0 (lv_args 0 [.ref 64]) [] h (d_QP h r) := by
  unfold F_X12_showing at hF
  refine dw_ic rfl (dw_isn rfl rfl (dw_ic rfl (dw_isn rfl rfl (?_))))
  exact D_X12_showing_l4 hH _ hF (d_s1 (d_s1 rfl rfl (by decide)) rfl (by decide)) (d_rl rfl) (d_s1 p_lk_s1 rfl (by decide)) (d_rl rfl) p_lk_s1
set_option maxRecDepth 100000 in
noncomputable def F_X12_together_l38_b (s : d_S) (k115 : Int → Int → Int → Option (Int)) (rec : Int → Int → Int → Int → Option (Int)) (x2 : Int) (x3 : Int) (x4 : Int) (x5 : Int) : Option (Int) :=
  if x5 < (s.1 65 0) then
  d_b (F_X12_has x2 x4) (fun v3 => if v3 = 0 then
  rec x2 (d_w (x3 + 0)) x4 (d_w (x5 + 1))
  else
  d_b (F_X12_has x2 x5) (fun v4 => if v4 = 0 then
  rec x2 (d_w (x3 + 0)) x4 (d_w (x5 + 1))
  else
  d_b (F_X12_sightOf s x4 0) (fun v5 => d_b (F_X12_sightOf s x5 0) (fun v6 => if v5 = v6 then
  rec x2 (d_w (x3 + 0)) x4 (d_w (x5 + 1))
  else
  d_b (F_X12_sightOf s x4 5) (fun v7 => d_b (F_X12_sightOf s x5 5) (fun v8 => if v7 = v8 then
  rec x2 (d_w (x3 + 1)) x4 (d_w (x5 + 1))
  else
  rec x2 (d_w (x3 + 0)) x4 (d_w (x5 + 1))))))))
  else
  k115 x2 x3 x4
set_option maxRecDepth 100000 in
noncomputable def F_X12_together_l38 (s : d_S) (k115 : Int → Int → Int → Option (Int)) : Nat → Int → Int → Int → Int → Option (Int)
  | 0 => fun _ _ _ _ => none
  | n + 1 => F_X12_together_l38_b s k115 (F_X12_together_l38 s k115 n)
set_option maxRecDepth 100000 in
theorem D_X12_together_l38 {t : Nat → Option p_C} {h : p_H} {s : d_S} {k115 : Int → Int → Int → Option (Int)} {r : Int} (hH : d_V t h s) (hk115 : ∀ {x2 : Int} {x3 : Int} {x4 : Int} {ls : p_Ls}, k115 x2 x3 x4 = some r → p_lk 0 ls = some (.ref 64) → d_R x2 → p_lk 2 ls = some (.int (Int32.ofInt x2)) → d_R x3 → p_lk 3 ls = some (.int (Int32.ofInt x3)) → d_R x4 → p_lk 4 ls = some (.int (Int32.ofInt x4)) → p_wp p_GT p_MT 6 m_X12_together 115 ls [] h (d_QP h r)) : ∀ (n : Nat) {x2 : Int} {x3 : Int} {x4 : Int} {x5 : Int} {ls : p_Ls}, F_X12_together_l38 s k115 n x2 x3 x4 x5 = some r → p_lk 0 ls = some (.ref 64) → d_R x2 → p_lk 2 ls = some (.int (Int32.ofInt x2)) → d_R x3 → p_lk 3 ls = some (.int (Int32.ofInt x3)) → d_R x4 → p_lk 4 ls = some (.int (Int32.ofInt x4)) → d_R x5 → p_lk 5 ls = some (.int (Int32.ofInt x5)) → p_wp p_GT p_MT 6 m_X12_together 38 ls [] h (d_QP h r) := by
  intro n
  induction n with
  | zero =>
    intro x2 x3 x4 x5 ls hF l0 r_x2 l2 r_x3 l3 r_x4 l4 r_x5 l5
    cases (show (none : Option (Int)) = some r from hF)
  | succ n ih =>
    intro x2 x3 x4 x5 ls hF l0 r_x2 l2 r_x3 l3 r_x4 l4 r_x5 l5
    have hF : F_X12_together_l38_b s k115 (F_X12_together_l38 s k115 n) x2 x3 x4 x5 = some r := hF
    unfold F_X12_together_l38_b at hF
    refine dw_il rfl l5 (dw_aln rfl l0 (dw_gr rfl rfl rfl hH d_c64_0 (dw_ic rfl (dw_ald rfl hH d_a65 rfl (by decide) (by decide) (d_rl rfl) (k := 0) rfl (?_)))))
    refine d_if hF (fun q hF => ?_) (fun q hF => ?_)
    · refine dw_ge_y rfl (u := 115) rfl r_x5 hH.r q ?_
      refine dw_iln rfl l3 (dw_iln rfl l2 (dw_il rfl l4 (dw_sB hF rfl rfl rfl rfl rfl (dc := 0) (fun _ e => D_X12_has e r_x2 r_x4) (fun v3 r_v3 hF => ?_))))
      refine d_if hF (fun q hF => ?_) (fun q hF => ?_)
      · refine dw_zeq_y rfl (u := 106) rfl (d_R_b r_v3) q ?_
        refine dw_ic rfl (dw_add rfl (dw_w1 (dw_isn rfl rfl (dw_ii rfl (d_s1 l5 rfl (by decide)) rfl (dw_go rfl (u := 38) rfl (?_))))))
        exact ih hF (d_s1 (d_s1 l0 rfl (by decide)) rfl (by decide)) r_x2 (d_s1 (d_s1 l2 rfl (by decide)) rfl (by decide)) d_R_w (d_s1 p_lk_s1 rfl (by decide)) r_x4 (d_s1 (d_s1 l4 rfl (by decide)) rfl (by decide)) d_R_w p_lk_s1
      · refine dw_zeq_n rfl (u := 106) rfl (d_R_b r_v3) q ?_
        refine dw_iln rfl l2 (dw_il rfl l5 (dw_sB hF rfl rfl rfl rfl rfl (dc := 0) (fun _ e => D_X12_has e r_x2 r_x5) (fun v4 r_v4 hF => ?_)))
        refine d_if hF (fun q hF => ?_) (fun q hF => ?_)
        · refine dw_zeq_y rfl (u := 106) rfl (d_R_b r_v4) q ?_
          refine dw_ic rfl (dw_add rfl (dw_w1 (dw_isn rfl rfl (dw_ii rfl (d_s1 l5 rfl (by decide)) rfl (dw_go rfl (u := 38) rfl (?_))))))
          exact ih hF (d_s1 (d_s1 l0 rfl (by decide)) rfl (by decide)) r_x2 (d_s1 (d_s1 l2 rfl (by decide)) rfl (by decide)) d_R_w (d_s1 p_lk_s1 rfl (by decide)) r_x4 (d_s1 (d_s1 l4 rfl (by decide)) rfl (by decide)) d_R_w p_lk_s1
        · refine dw_zeq_n rfl (u := 106) rfl (d_R_b r_v4) q ?_
          refine dw_aln rfl l0 (dw_il rfl l4 (dw_ic rfl (dw_vP hF rfl (d_vir (n := 3) rfl rfl rfl rfl rfl hH d_c64_0 rfl) rfl rfl rfl (dc := 0) (fun _ e => D_X12_sightOf e hH r_x4 (d_rl rfl)) (fun v5 r_v5 hF => dw_aln rfl l0 (dw_il rfl l5 (dw_ic rfl (dw_vP hF rfl (d_vir (n := 3) rfl rfl rfl rfl rfl hH d_c64_0 rfl) rfl rfl rfl (dc := 0) (fun _ e => D_X12_sightOf e hH r_x5 (d_rl rfl)) (fun v6 r_v6 hF => ?_))))))))
          refine d_if hF (fun q hF => ?_) (fun q hF => ?_)
          · refine dw_eq_y rfl (u := 106) rfl r_v5 r_v6 q ?_
            refine dw_ic rfl (dw_add rfl (dw_w1 (dw_isn rfl rfl (dw_ii rfl (d_s1 l5 rfl (by decide)) rfl (dw_go rfl (u := 38) rfl (?_))))))
            exact ih hF (d_s1 (d_s1 l0 rfl (by decide)) rfl (by decide)) r_x2 (d_s1 (d_s1 l2 rfl (by decide)) rfl (by decide)) d_R_w (d_s1 p_lk_s1 rfl (by decide)) r_x4 (d_s1 (d_s1 l4 rfl (by decide)) rfl (by decide)) d_R_w p_lk_s1
          · refine dw_eq_n rfl (u := 106) rfl r_v5 r_v6 q ?_
            refine dw_aln rfl l0 (dw_il rfl l4 (dw_ic rfl (dw_vP hF rfl (d_vir (n := 3) rfl rfl rfl rfl rfl hH d_c64_0 rfl) rfl rfl rfl (dc := 0) (fun _ e => D_X12_sightOf e hH r_x4 (d_rl rfl)) (fun v7 r_v7 hF => dw_aln rfl l0 (dw_il rfl l5 (dw_ic rfl (dw_vP hF rfl (d_vir (n := 3) rfl rfl rfl rfl rfl hH d_c64_0 rfl) rfl rfl rfl (dc := 0) (fun _ e => D_X12_sightOf e hH r_x5 (d_rl rfl)) (fun v8 r_v8 hF => ?_))))))))
            refine d_if hF (fun q hF => ?_) (fun q hF => ?_)
            · refine dw_ne_y rfl (u := 106) rfl r_v7 r_v8 q ?_
              refine dw_ic rfl (dw_go rfl (u := 107) rfl (dw_add rfl (dw_w1 (dw_isn rfl rfl (dw_ii rfl (d_s1 l5 rfl (by decide)) rfl (dw_go rfl (u := 38) rfl (?_)))))))
              exact ih hF (d_s1 (d_s1 l0 rfl (by decide)) rfl (by decide)) r_x2 (d_s1 (d_s1 l2 rfl (by decide)) rfl (by decide)) d_R_w (d_s1 p_lk_s1 rfl (by decide)) r_x4 (d_s1 (d_s1 l4 rfl (by decide)) rfl (by decide)) d_R_w p_lk_s1
            · refine dw_ne_n rfl (u := 106) rfl r_v7 r_v8 q ?_
              refine dw_ic rfl (dw_add rfl (dw_w1 (dw_isn rfl rfl (dw_ii rfl (d_s1 l5 rfl (by decide)) rfl (dw_go rfl (u := 38) rfl (?_))))))
              exact ih hF (d_s1 (d_s1 l0 rfl (by decide)) rfl (by decide)) r_x2 (d_s1 (d_s1 l2 rfl (by decide)) rfl (by decide)) d_R_w (d_s1 p_lk_s1 rfl (by decide)) r_x4 (d_s1 (d_s1 l4 rfl (by decide)) rfl (by decide)) d_R_w p_lk_s1
    · refine dw_ge_n rfl (u := 115) rfl r_x5 hH.r q ?_
      exact hk115 hF l0 r_x2 l2 r_x3 l3 r_x4 l4
set_option maxRecDepth 100000 in
noncomputable def F_X12_together_l21_b (s : d_S) (rec : Int → Int → Int → Option (Int)) (x2 : Int) (x3 : Int) (x4 : Int) : Option (Int) :=
  if x4 < (s.1 65 0) then
  F_X12_together_l38 s (fun x2_u9 x3_u9 x4_u9 =>
  rec x2_u9 x3_u9 (d_w (x4_u9 + 1))) d_N x2 x3 x4 (d_w (x4 + 1))
  else
  some x3
set_option maxRecDepth 100000 in
noncomputable def F_X12_together_l21 (s : d_S) : Nat → Int → Int → Int → Option (Int)
  | 0 => fun _ _ _ => none
  | n + 1 => F_X12_together_l21_b s (F_X12_together_l21 s n)
set_option maxRecDepth 100000 in
theorem D_X12_together_l21 {t : Nat → Option p_C} {h : p_H} {s : d_S} {r : Int} (hH : d_V t h s) : ∀ (n : Nat) {x2 : Int} {x3 : Int} {x4 : Int} {ls : p_Ls}, F_X12_together_l21 s n x2 x3 x4 = some r → p_lk 0 ls = some (.ref 64) → d_R x2 → p_lk 2 ls = some (.int (Int32.ofInt x2)) → d_R x3 → p_lk 3 ls = some (.int (Int32.ofInt x3)) → d_R x4 → p_lk 4 ls = some (.int (Int32.ofInt x4)) → p_wp p_GT p_MT 6 m_X12_together 21 ls [] h (d_QP h r) := by
  intro n
  induction n with
  | zero =>
    intro x2 x3 x4 ls hF l0 r_x2 l2 r_x3 l3 r_x4 l4
    cases (show (none : Option (Int)) = some r from hF)
  | succ n ih =>
    intro x2 x3 x4 ls hF l0 r_x2 l2 r_x3 l3 r_x4 l4
    have hF : F_X12_together_l21_b s (F_X12_together_l21 s n) x2 x3 x4 = some r := hF
    unfold F_X12_together_l21_b at hF
    refine dw_il rfl l4 (dw_aln rfl l0 (dw_gr rfl rfl rfl hH d_c64_0 (dw_ic rfl (dw_ald rfl hH d_a65 rfl (by decide) (by decide) (d_rl rfl) (k := 0) rfl (?_)))))
    refine d_if hF (fun q hF => ?_) (fun q hF => ?_)
    · refine dw_ge_y rfl (u := 121) rfl r_x4 hH.r q ?_
      refine dw_il rfl l4 (dw_ic rfl (dw_add rfl (dw_w1 (dw_is rfl rfl (?_)))))
      refine D_X12_together_l38 hH (fun {x2_u9} {x3_u9} {x4_u9} {ls_u9} hF l0_u9 r_x2_u9 l2_u9 r_x3_u9 l3_u9 r_x4_u9 l4_u9 => ?_) _ hF (d_s1 l0 rfl (by decide)) r_x2 (d_s1 l2 rfl (by decide)) r_x3 (d_s1 l3 rfl (by decide)) r_x4 (d_s1 l4 rfl (by decide)) d_R_w p_lk_s1
      · refine dw_ii rfl l4_u9 rfl (dw_go rfl (u := 21) rfl (?_))
        exact ih hF (d_s1 l0_u9 rfl (by decide)) r_x2_u9 (d_s1 l2_u9 rfl (by decide)) r_x3_u9 (d_s1 l3_u9 rfl (by decide)) d_R_w p_lk_s1
    · refine dw_ge_n rfl (u := 121) rfl r_x4 hH.r q ?_
      exact dw_iln rfl l3 (dw_rP rfl rfl r_x3 hF)
set_option maxRecDepth 100000 in
noncomputable def F_X12_together (s : d_S) (x1 : Int) : Option (Int) :=
  d_b (F_X12_isBlock s x1) (fun v1 => if v1 = 0 then
  some (-1)
  else
  d_b (F_X12_sightsIn s x1) (fun v2 => F_X12_together_l21 s d_N v2 0 0))
set_option maxRecDepth 100000 in
theorem D_X12_together {t : Nat → Option p_C} {h : p_H} {s : d_S} {x1 : Int} {r : Int} (hF : F_X12_together s x1 = some r) (hH : d_V t h s) (r_x1 : d_R x1) : p_wp p_GT p_MT 6 m_X12_together 0 (lv_args 0 [.ref 64, .int (Int32.ofInt x1)]) [] h (d_QP h r) := by
  unfold F_X12_together at hF
  refine dw_aln rfl rfl (dw_iln rfl rfl (dw_vB hF rfl (d_vir (n := 2) rfl rfl rfl rfl rfl hH d_c64_0 rfl) rfl rfl rfl (dc := 3) (fun _ e => D_X12_isBlock e hH r_x1) (fun v1 r_v1 hF => ?_)))
  refine d_if hF (fun q hF => ?_) (fun q hF => ?_)
  · refine dw_zne_y rfl (u := 10) rfl (d_R_b r_v1) q ?_
    exact dw_ic rfl (dw_rP rfl rfl (d_rl rfl) hF)
  · refine dw_zne_n rfl (u := 10) rfl (d_R_b r_v1) q ?_
    refine dw_aln rfl rfl (dw_iln rfl rfl (dw_vP hF rfl (d_vir (n := 2) rfl rfl rfl rfl rfl hH d_c64_0 rfl) rfl rfl rfl (dc := 5) (fun _ e => D_X12_sightsIn e hH r_x1) (fun v2 r_v2 hF => dw_isn rfl rfl (dw_ic rfl (dw_isn rfl rfl (dw_ic rfl (dw_is rfl rfl (?_))))))))
    exact D_X12_together_l21 hH _ hF (d_s1 (d_s1 (d_s1 rfl rfl (by decide)) rfl (by decide)) rfl (by decide)) r_v2 (d_s1 (d_s1 p_lk_s1 rfl (by decide)) rfl (by decide)) (d_rl rfl) (d_s1 p_lk_s1 rfl (by decide)) (d_rl rfl) p_lk_s1
set_option maxRecDepth 100000 in
noncomputable def F_X12_ice_l4_b (s : d_S) (rec : Int → Int → Int → Option (Int)) (x1 : Int) (x2 : Int) (x3 : Int) : Option (Int) :=
  d_b (F_X12_blocks s) (fun v1 => if x3 < v1 then
  d_b (F_X12_isSold s x3) (fun v2 => if v2 = x1 then
  d_b (F_X12_wideOf s x3) (fun v3 => d_b (F_X12_highOf s x3) (fun v4 => rec x1 (d_w (x2 + (v3 * v4))) (d_w (x3 + 1))))
  else
  rec x1 (d_w (x2 + 0)) (d_w (x3 + 1)))
  else
  some x2)
set_option maxRecDepth 100000 in
noncomputable def F_X12_ice_l4 (s : d_S) : Nat → Int → Int → Int → Option (Int)
  | 0 => fun _ _ _ => none
  | n + 1 => F_X12_ice_l4_b s (F_X12_ice_l4 s n)
set_option maxRecDepth 100000 in
theorem D_X12_ice_l4 {t : Nat → Option p_C} {h : p_H} {s : d_S} {r : Int} (hH : d_V t h s) : ∀ (n : Nat) {x1 : Int} {x2 : Int} {x3 : Int} {ls : p_Ls}, F_X12_ice_l4 s n x1 x2 x3 = some r → p_lk 0 ls = some (.ref 64) → d_R x1 → p_lk 1 ls = some (.int (Int32.ofInt x1)) → d_R x2 → p_lk 2 ls = some (.int (Int32.ofInt x2)) → d_R x3 → p_lk 3 ls = some (.int (Int32.ofInt x3)) → p_wp p_GT p_MT 4 m_X12_ice 4 ls [] h (d_QP h r) := by
  intro n
  induction n with
  | zero =>
    intro x1 x2 x3 ls hF l0 r_x1 l1 r_x2 l2 r_x3 l3
    cases (show (none : Option (Int)) = some r from hF)
  | succ n ih =>
    intro x1 x2 x3 ls hF l0 r_x1 l1 r_x2 l2 r_x3 l3
    have hF : F_X12_ice_l4_b s (F_X12_ice_l4 s n) x1 x2 x3 = some r := hF
    unfold F_X12_ice_l4_b at hF
    refine dw_iln rfl l3 (dw_aln rfl l0 (dw_vP hF rfl (d_vir (n := 1) rfl rfl rfl rfl rfl hH d_c64_0 rfl) rfl rfl rfl (dc := 2) (fun _ e => D_X12_blocks e hH) (fun v1 r_v1 hF => ?_)))
    refine d_if hF (fun q hF => ?_) (fun q hF => ?_)
    · refine dw_ge_y rfl (u := 45) rfl r_x3 r_v1 q ?_
      refine dw_iln rfl l2 (dw_aln rfl l0 (dw_iln rfl l3 (dw_vB hF rfl (d_vir (n := 2) rfl rfl rfl rfl rfl hH d_c64_0 rfl) rfl rfl rfl (dc := 1) (fun _ e => D_X12_isSold e hH r_x3) (fun v2 r_v2 hF => dw_iln rfl l1 (?_)))))
      refine d_if hF (fun q hF => ?_) (fun q hF => ?_)
      · refine dw_ne_y rfl (u := 36) rfl (d_R_b r_v2) r_x1 q ?_
        refine dw_aln rfl l0 (dw_iln rfl l3 (dw_vP hF rfl (d_vir (n := 2) rfl rfl rfl rfl rfl hH d_c64_0 rfl) rfl rfl rfl (dc := 3) (fun _ e => D_X12_wideOf e hH r_x3) (fun v3 r_v3 hF => dw_aln rfl l0 (dw_iln rfl l3 (dw_vP hF rfl (d_vir (n := 2) rfl rfl rfl rfl rfl hH d_c64_0 rfl) rfl rfl rfl (dc := 3) (fun _ e => D_X12_highOf e hH r_x3) (fun v4 r_v4 hF => dw_mul rfl (dw_go rfl (u := 37) rfl (dw_add rfl (dw_w1 (?_))))))))))
        refine dw_isn rfl rfl (dw_ii rfl (d_s1 l3 rfl (by decide)) rfl (dw_go rfl (u := 4) rfl (?_)))
        exact ih hF (d_s1 (d_s1 l0 rfl (by decide)) rfl (by decide)) r_x1 (d_s1 (d_s1 l1 rfl (by decide)) rfl (by decide)) d_R_w (d_s1 p_lk_s1 rfl (by decide)) d_R_w p_lk_s1
      · refine dw_ne_n rfl (u := 36) rfl (d_R_b r_v2) r_x1 q ?_
        refine dw_ic rfl (dw_add rfl (dw_w1 (dw_isn rfl rfl (dw_ii rfl (d_s1 l3 rfl (by decide)) rfl (dw_go rfl (u := 4) rfl (?_))))))
        exact ih hF (d_s1 (d_s1 l0 rfl (by decide)) rfl (by decide)) r_x1 (d_s1 (d_s1 l1 rfl (by decide)) rfl (by decide)) d_R_w (d_s1 p_lk_s1 rfl (by decide)) d_R_w p_lk_s1
    · refine dw_ge_n rfl (u := 45) rfl r_x3 r_v1 q ?_
      exact dw_iln rfl l2 (dw_rP rfl rfl r_x2 hF)
set_option maxRecDepth 100000 in
noncomputable def F_X12_ice (s : d_S) (x1 : Int) : Option (Int) :=
  F_X12_ice_l4 s d_N x1 0 0
set_option maxRecDepth 100000 in
theorem D_X12_ice {t : Nat → Option p_C} {h : p_H} {s : d_S} {x1 : Int} {r : Int} (hF : F_X12_ice s x1 = some r) (hH : d_V t h s) (r_x1 : d_R x1) : p_wp p_GT p_MT 4 m_X12_ice 0 (lv_args 0 [.ref 64, .int (Int32.ofInt x1)]) [] h (d_QP h r) := by
  unfold F_X12_ice at hF
  refine dw_ic rfl (dw_isn rfl rfl (dw_ic rfl (dw_isn rfl rfl (?_))))
  exact D_X12_ice_l4 hH _ hF (d_s1 (d_s1 rfl rfl (by decide)) rfl (by decide)) r_x1 (d_s1 (d_s1 rfl rfl (by decide)) rfl (by decide)) (d_rl rfl) (d_s1 p_lk_s1 rfl (by decide)) (d_rl rfl) p_lk_s1
set_option maxRecDepth 100000 in
noncomputable def F_X12_gone_l4_b (s : d_S) (rec : Int → Int → Option (Int)) (x1 : Int) (x2 : Int) : Option (Int) :=
  d_b (F_X12_blocks s) (fun v1 => if x2 < v1 then
  d_b (F_X12_isWater s x2) (fun v2 => if v2 = 0 then
  rec (d_w (x1 + 0)) (d_w (x2 + 1))
  else
  rec (d_w (x1 + 1)) (d_w (x2 + 1)))
  else
  some x1)
set_option maxRecDepth 100000 in
noncomputable def F_X12_gone_l4 (s : d_S) : Nat → Int → Int → Option (Int)
  | 0 => fun _ _ => none
  | n + 1 => F_X12_gone_l4_b s (F_X12_gone_l4 s n)
set_option maxRecDepth 100000 in
theorem D_X12_gone_l4 {t : Nat → Option p_C} {h : p_H} {s : d_S} {r : Int} (hH : d_V t h s) : ∀ (n : Nat) {x1 : Int} {x2 : Int} {ls : p_Ls}, F_X12_gone_l4 s n x1 x2 = some r → p_lk 0 ls = some (.ref 64) → d_R x1 → p_lk 1 ls = some (.int (Int32.ofInt x1)) → d_R x2 → p_lk 2 ls = some (.int (Int32.ofInt x2)) → p_wp p_GT p_MT 3 m_X12_gone 4 ls [] h (d_QP h r) := by
  intro n
  induction n with
  | zero =>
    intro x1 x2 ls hF l0 r_x1 l1 r_x2 l2
    cases (show (none : Option (Int)) = some r from hF)
  | succ n ih =>
    intro x1 x2 ls hF l0 r_x1 l1 r_x2 l2
    have hF : F_X12_gone_l4_b s (F_X12_gone_l4 s n) x1 x2 = some r := hF
    unfold F_X12_gone_l4_b at hF
    refine dw_iln rfl l2 (dw_aln rfl l0 (dw_vP hF rfl (d_vir (n := 1) rfl rfl rfl rfl rfl hH d_c64_0 rfl) rfl rfl rfl (dc := 2) (fun _ e => D_X12_blocks e hH) (fun v1 r_v1 hF => ?_)))
    refine d_if hF (fun q hF => ?_) (fun q hF => ?_)
    · refine dw_ge_y rfl (u := 34) rfl r_x2 r_v1 q ?_
      refine dw_iln rfl l1 (dw_aln rfl l0 (dw_iln rfl l2 (dw_vB hF rfl (d_vir (n := 2) rfl rfl rfl rfl rfl hH d_c64_0 rfl) rfl rfl rfl (dc := 1) (fun _ e => D_X12_isWater e hH r_x2) (fun v2 r_v2 hF => ?_))))
      refine d_if hF (fun q hF => ?_) (fun q hF => ?_)
      · refine dw_zeq_y rfl (u := 25) rfl (d_R_b r_v2) q ?_
        refine dw_ic rfl (dw_add rfl (dw_w1 (dw_isn rfl rfl (dw_ii rfl (d_s1 l2 rfl (by decide)) rfl (dw_go rfl (u := 4) rfl (?_))))))
        exact ih hF (d_s1 (d_s1 l0 rfl (by decide)) rfl (by decide)) d_R_w (d_s1 p_lk_s1 rfl (by decide)) d_R_w p_lk_s1
      · refine dw_zeq_n rfl (u := 25) rfl (d_R_b r_v2) q ?_
        refine dw_ic rfl (dw_go rfl (u := 26) rfl (dw_add rfl (dw_w1 (dw_isn rfl rfl (dw_ii rfl (d_s1 l2 rfl (by decide)) rfl (dw_go rfl (u := 4) rfl (?_)))))))
        exact ih hF (d_s1 (d_s1 l0 rfl (by decide)) rfl (by decide)) d_R_w (d_s1 p_lk_s1 rfl (by decide)) d_R_w p_lk_s1
    · refine dw_ge_n rfl (u := 34) rfl r_x2 r_v1 q ?_
      exact dw_iln rfl l1 (dw_rP rfl rfl r_x1 hF)
set_option maxRecDepth 100000 in
noncomputable def F_X12_gone (s : d_S) : Option (Int) :=
  F_X12_gone_l4 s d_N 0 0
set_option maxRecDepth 100000 in
theorem D_X12_gone {t : Nat → Option p_C} {h : p_H} {s : d_S} {r : Int} (hF : F_X12_gone s = some r) (hH : d_V t h s) : p_wp p_GT p_MT 3 m_X12_gone 0 (lv_args 0 [.ref 64]) [] h (d_QP h r) := by
  unfold F_X12_gone at hF
  refine dw_ic rfl (dw_isn rfl rfl (dw_ic rfl (dw_isn rfl rfl (?_))))
  exact D_X12_gone_l4 hH _ hF (d_s1 (d_s1 rfl rfl (by decide)) rfl (by decide)) (d_rl rfl) (d_s1 p_lk_s1 rfl (by decide)) (d_rl rfl) p_lk_s1
set_option maxRecDepth 100000 in
noncomputable def F_X12_litter_l4_b (s : d_S) (rec : Int → Int → Option (Int)) (x1 : Int) (x2 : Int) : Option (Int) :=
  d_b (F_X12_blocks s) (fun v1 => if x2 < v1 then
  d_b (F_X12_get s x2 0) (fun v2 => rec (d_w (x1 + v2)) (d_w (x2 + 1)))
  else
  some x1)
set_option maxRecDepth 100000 in
noncomputable def F_X12_litter_l4 (s : d_S) : Nat → Int → Int → Option (Int)
  | 0 => fun _ _ => none
  | n + 1 => F_X12_litter_l4_b s (F_X12_litter_l4 s n)
set_option maxRecDepth 100000 in
theorem D_X12_litter_l4 {t : Nat → Option p_C} {h : p_H} {s : d_S} {r : Int} (hH : d_V t h s) : ∀ (n : Nat) {x1 : Int} {x2 : Int} {ls : p_Ls}, F_X12_litter_l4 s n x1 x2 = some r → p_lk 0 ls = some (.ref 64) → d_R x1 → p_lk 1 ls = some (.int (Int32.ofInt x1)) → d_R x2 → p_lk 2 ls = some (.int (Int32.ofInt x2)) → p_wp p_GT p_MT 3 m_X12_litter 4 ls [] h (d_QP h r) := by
  intro n
  induction n with
  | zero =>
    intro x1 x2 ls hF l0 r_x1 l1 r_x2 l2
    cases (show (none : Option (Int)) = some r from hF)
  | succ n ih =>
    intro x1 x2 ls hF l0 r_x1 l1 r_x2 l2
    have hF : F_X12_litter_l4_b s (F_X12_litter_l4 s n) x1 x2 = some r := hF
    unfold F_X12_litter_l4_b at hF
    refine dw_iln rfl l2 (dw_aln rfl l0 (dw_vP hF rfl (d_vir (n := 1) rfl rfl rfl rfl rfl hH d_c64_0 rfl) rfl rfl rfl (dc := 2) (fun _ e => D_X12_blocks e hH) (fun v1 r_v1 hF => ?_)))
    refine d_if hF (fun q hF => ?_) (fun q hF => ?_)
    · refine dw_ge_y rfl (u := 27) rfl r_x2 r_v1 q ?_
      refine dw_iln rfl l1 (dw_aln rfl l0 (dw_iln rfl l2 (dw_ic rfl (dw_vP hF rfl (d_vir (n := 3) rfl rfl rfl rfl rfl hH d_c64_0 rfl) rfl rfl rfl (dc := 0) (fun _ e => D_X12_get e hH r_x2 (d_rl rfl)) (fun v2 r_v2 hF => dw_add rfl (dw_w1 (dw_isn rfl rfl (dw_ii rfl (d_s1 l2 rfl (by decide)) rfl (dw_go rfl (u := 4) rfl (?_))))))))))
      exact ih hF (d_s1 (d_s1 l0 rfl (by decide)) rfl (by decide)) d_R_w (d_s1 p_lk_s1 rfl (by decide)) d_R_w p_lk_s1
    · refine dw_ge_n rfl (u := 27) rfl r_x2 r_v1 q ?_
      exact dw_iln rfl l1 (dw_rP rfl rfl r_x1 hF)
set_option maxRecDepth 100000 in
noncomputable def F_X12_litter (s : d_S) : Option (Int) :=
  F_X12_litter_l4 s d_N 0 0
set_option maxRecDepth 100000 in
theorem D_X12_litter {t : Nat → Option p_C} {h : p_H} {s : d_S} {r : Int} (hF : F_X12_litter s = some r) (hH : d_V t h s) : p_wp p_GT p_MT 3 m_X12_litter 0 (lv_args 0 [.ref 64]) [] h (d_QP h r) := by
  unfold F_X12_litter at hF
  refine dw_ic rfl (dw_isn rfl rfl (dw_ic rfl (dw_isn rfl rfl (?_))))
  exact D_X12_litter_l4 hH _ hF (d_s1 (d_s1 rfl rfl (by decide)) rfl (by decide)) (d_rl rfl) (d_s1 p_lk_s1 rfl (by decide)) (d_rl rfl) p_lk_s1
set_option maxRecDepth 100000 in
noncomputable def F_X12_gcd_l17_b (rec : Int → Int → Option (Int)) (x4 : Int) (x6 : Int) : Option (Int) :=
  if x6 = 0 then
  some x4
  else
  d_g (¬ x6 = 0) (rec x6 (d_remL x4 x6))
set_option maxRecDepth 100000 in
noncomputable def F_X12_gcd_l17 : Nat → Int → Int → Option (Int)
  | 0 => fun _ _ => none
  | n + 1 => F_X12_gcd_l17_b (F_X12_gcd_l17 n)
set_option maxRecDepth 100000 in
theorem D_X12_gcd_l17 {h : p_H} {r : Int} : ∀ (n : Nat) {x4 : Int} {x6 : Int} {ls : p_Ls}, F_X12_gcd_l17 n x4 x6 = some r → d_RL x4 → p_lk 4 ls = some (.long (Int64.ofInt x4)) → d_RL x6 → p_lk 6 ls = some (.long (Int64.ofInt x6)) → p_wp p_GT p_MT 0 m_X12_gcd 17 ls [] h (d_QL h r) := by
  intro n
  induction n with
  | zero =>
    intro x4 x6 ls hF r_x4 l4 r_x6 l6
    cases (show (none : Option (Int)) = some r from hF)
  | succ n ih =>
    intro x4 x6 ls hF r_x4 l4 r_x6 l6
    have hF : F_X12_gcd_l17_b (F_X12_gcd_l17 n) x4 x6 = some r := hF
    unfold F_X12_gcd_l17_b at hF
    refine dw_ll rfl l6 (dw_lc rfl (x := 0) rfl (?_))
    refine d_if hF (fun q hF => ?_) (fun q hF => ?_)
    · refine dw_Leq_y rfl rfl (u := 42) rfl r_x6 (d_rll rfl) q ?_
      exact dw_ll rfl l4 (dw_rL rfl rfl r_x4 hF)
    · refine dw_Leq_n rfl rfl (u := 42) rfl r_x6 (d_rll rfl) q ?_
      refine dw_ll rfl l4 (dw_ll rfl l6 (d_gd hF (fun g1 hF => dw_remL rfl r_x6 g1 (dw_lls rfl rfl (dw_ll rfl (d_s2l l6 (by decide) (by decide) (by decide)) (dw_lls rfl rfl (dw_ll rfl (d_s2l p_lk_s2 (by decide) (by decide) (by decide)) (dw_lls rfl rfl (dw_go rfl (u := 17) rfl (?_))))))))))
      exact ih hF r_x6 (d_s2l p_lk_s2 (by decide) (by decide) (by decide)) d_RL_t p_lk_s2
set_option maxRecDepth 100000 in
noncomputable def F_X12_gcd_j12 (x2 : Int) (y0 : Int) : Option (Int) :=
  F_X12_gcd_l17 d_N y0 x2
set_option maxRecDepth 100000 in
theorem D_X12_gcd_j12 {h : p_H} {x2 : Int} {y0 : Int} {r : Int} {ls : p_Ls} (hF : F_X12_gcd_j12 x2 y0 = some r) (r_x2 : d_RL x2) (l2 : p_lk 2 ls = some (.long (Int64.ofInt x2))) (r_y0 : d_RL y0) : p_wp p_GT p_MT 0 m_X12_gcd 12 ls [.long (Int64.ofInt y0)] h (d_QL h r) := by
  unfold F_X12_gcd_j12 at hF
  refine dw_lls rfl rfl (dw_lln rfl (d_s2l l2 (by decide) (by decide) (by decide)) (dw_lls rfl rfl (?_)))
  exact D_X12_gcd_l17 _ hF r_y0 (d_s2l p_lk_s2 (by decide) (by decide) (by decide)) r_x2 p_lk_s2
set_option maxRecDepth 100000 in
noncomputable def F_X12_gcd (x0 : Int) (x2 : Int) : Option (Int) :=
  if x0 < 0 then
  F_X12_gcd_j12 x2 (d_W (-x0))
  else
  F_X12_gcd_j12 x2 x0
set_option maxRecDepth 100000 in
theorem D_X12_gcd {h : p_H} {x0 : Int} {x2 : Int} {r : Int} (hF : F_X12_gcd x0 x2 = some r) (r_x0 : d_RL x0) (r_x2 : d_RL x2) : p_wp p_GT p_MT 0 m_X12_gcd 0 (lv_args 0 [.long (Int64.ofInt x0), .long (Int64.ofInt x2)]) [] h (d_QL h r) := by
  unfold F_X12_gcd at hF
  refine dw_lln rfl rfl (dw_lc rfl (x := 0) rfl (?_))
  refine d_if hF (fun q hF => ?_) (fun q hF => ?_)
  · refine dw_Lge_y rfl rfl (u := 11) rfl r_x0 (d_rll rfl) q ?_
    refine dw_lln rfl rfl (dw_negL rfl (dw_go rfl (u := 12) rfl (dw_wL1 (?_))))
    exact D_X12_gcd_j12 hF r_x2 rfl d_RL_W
  · refine dw_Lge_n rfl rfl (u := 11) rfl r_x0 (d_rll rfl) q ?_
    refine dw_lln rfl rfl (?_)
    exact D_X12_gcd_j12 hF r_x2 rfl r_x0
set_option maxRecDepth 100000 in
noncomputable def F_X12_part_j10 (x0 : Int) (x2 : Int) (y0 : Int) : Option (Int) :=
  d_b (F_X12_gcd x0 x2) (fun v1 => d_g (¬ v1 = 0) (some (d_divL y0 v1)))
set_option maxRecDepth 100000 in
theorem D_X12_part_j10 {h : p_H} {x0 : Int} {x2 : Int} {y0 : Int} {r : Int} {ls : p_Ls} (hF : F_X12_part_j10 x0 x2 y0 = some r) (r_x0 : d_RL x0) (l0 : p_lk 0 ls = some (.long (Int64.ofInt x0))) (r_x2 : d_RL x2) (l2 : p_lk 2 ls = some (.long (Int64.ofInt x2))) (r_y0 : d_RL y0) : p_wp p_GT p_MT 1 m_X12_part 10 ls [.long (Int64.ofInt y0)] h (d_QL h r) := by
  unfold F_X12_part_j10 at hF
  exact dw_lln rfl l0 (dw_lln rfl l2 (dw_sL hF rfl rfl rfl rfl rfl (dc := 0) (fun _ e => D_X12_gcd e r_x0 r_x2) (fun v1 r_v1 hF => d_gd hF (fun g2 hF => dw_divL rfl r_v1 g2 (dw_rL rfl rfl d_RL_t hF)))))
set_option maxRecDepth 100000 in
noncomputable def F_X12_part (x0 : Int) (x2 : Int) (x4 : Int) : Option (Int) :=
  if x4 = 0 then
  F_X12_part_j10 x0 x2 x0
  else
  F_X12_part_j10 x0 x2 x2
set_option maxRecDepth 100000 in
theorem D_X12_part {h : p_H} {x0 : Int} {x2 : Int} {x4 : Int} {r : Int} (hF : F_X12_part x0 x2 x4 = some r) (r_x0 : d_RL x0) (r_x2 : d_RL x2) (r_x4 : d_R x4) : p_wp p_GT p_MT 1 m_X12_part 0 (lv_args 0 [.long (Int64.ofInt x0), .long (Int64.ofInt x2), .int (Int32.ofInt x4)]) [] h (d_QL h r) := by
  unfold F_X12_part at hF
  refine dw_il rfl rfl (?_)
  refine d_if hF (fun q hF => ?_) (fun q hF => ?_)
  · refine dw_zeq_y rfl (u := 9) rfl r_x4 q ?_
    refine dw_lln rfl rfl (?_)
    exact D_X12_part_j10 hF r_x0 rfl r_x2 rfl r_x0
  · refine dw_zeq_n rfl (u := 9) rfl r_x4 q ?_
    refine dw_lln rfl rfl (dw_go rfl (u := 10) rfl (?_))
    exact D_X12_part_j10 hF r_x0 rfl r_x2 rfl r_x2
set_option maxRecDepth 100000 in
noncomputable def F_X12_kiss (s : d_S) (x1 : Int) (x2 : Int) (x3 : Int) : Option (Int) :=
  d_b (F_X12_isSight s x1) (fun v1 => if v1 = 0 then
  some (-1)
  else
  d_b (F_X12_isBlock s x2) (fun v2 => if v2 = 0 then
  some (-1)
  else
  d_b (F_X12_cellsIn s x1 x2) (fun v3 => d_b (F_X12_areaOf s x1) (fun v4 => d_b (F_X12_part v3 v4 x3) (fun v5 => some (d_w v5))))))
set_option maxRecDepth 100000 in
theorem D_X12_kiss {t : Nat → Option p_C} {h : p_H} {s : d_S} {x1 : Int} {x2 : Int} {x3 : Int} {r : Int} (hF : F_X12_kiss s x1 x2 x3 = some r) (hH : d_V t h s) (r_x1 : d_R x1) (r_x2 : d_R x2) (r_x3 : d_R x3) : p_wp p_GT p_MT 5 m_X12_kiss 0 (lv_args 0 [.ref 64, .int (Int32.ofInt x1), .int (Int32.ofInt x2), .int (Int32.ofInt x3)]) [] h (d_QP h r) := by
  unfold F_X12_kiss at hF
  refine dw_aln rfl rfl (dw_iln rfl rfl (dw_vB hF rfl (d_vir (n := 2) rfl rfl rfl rfl rfl hH d_c64_0 rfl) rfl rfl rfl (dc := 1) (fun _ e => D_X12_isSight e hH r_x1) (fun v1 r_v1 hF => ?_)))
  refine d_if hF (fun q hF => ?_) (fun q hF => ?_)
  · refine dw_zeq_y rfl (u := 37) rfl (d_R_b r_v1) q ?_
    exact dw_ic rfl (dw_rP rfl rfl (d_rl rfl) hF)
  · refine dw_zeq_n rfl (u := 37) rfl (d_R_b r_v1) q ?_
    refine dw_aln rfl rfl (dw_iln rfl rfl (dw_vB hF rfl (d_vir (n := 2) rfl rfl rfl rfl rfl hH d_c64_0 rfl) rfl rfl rfl (dc := 3) (fun _ e => D_X12_isBlock e hH r_x2) (fun v2 r_v2 hF => ?_)))
    refine d_if hF (fun q hF => ?_) (fun q hF => ?_)
    · refine dw_zeq_y rfl (u := 37) rfl (d_R_b r_v2) q ?_
      exact dw_ic rfl (dw_rP rfl rfl (d_rl rfl) hF)
    · refine dw_zeq_n rfl (u := 37) rfl (d_R_b r_v2) q ?_
      refine dw_aln rfl rfl (dw_iln rfl rfl (dw_iln rfl rfl (dw_vP hF rfl (d_vir (n := 3) rfl rfl rfl rfl rfl hH d_c64_0 rfl) rfl rfl rfl (dc := 4) (fun _ e => D_X12_cellsIn e hH r_x1 r_x2) (fun v3 r_v3 hF => dw_i2l rfl r_v3 (dw_aln rfl rfl (dw_iln rfl rfl (dw_vP hF rfl (d_vir (n := 2) rfl rfl rfl rfl rfl hH d_c64_0 rfl) rfl rfl rfl (dc := 1) (fun _ e => D_X12_areaOf e hH r_x1) (fun v4 r_v4 hF => dw_i2l rfl r_v4 (dw_iln rfl rfl (?_))))))))))
      exact dw_sL hF rfl rfl rfl rfl rfl (dc := 1) (fun _ e => D_X12_part e (d_RL_R r_v3) (d_RL_R r_v4) r_x3) (fun v5 r_v5 hF => dw_l2i rfl (dw_go rfl (u := 38) rfl (dw_w1 (dw_rP rfl rfl d_R_w hF))))
set_option maxRecDepth 100000 in
noncomputable def F_X12_copy_65_66_l2_b (rec : Int → d_S → Option (d_S)) (x2 : Int) (s : d_S) : Option (d_S) :=
  if x2 < 2517 then
  d_g (0 ≤ x2 ∧ x2 < 2517) (d_g (0 ≤ x2 ∧ x2 < 2517) (d_l (d_si s 66 ((x2).toNat) (s.1 65 (x2.toNat))) (fun s3 => rec (d_w (x2 + 1)) s3)))
  else
  some s
set_option maxRecDepth 100000 in
noncomputable def F_X12_copy_65_66_l2 : Nat → Int → d_S → Option (d_S)
  | 0 => fun _ _ => none
  | n + 1 => F_X12_copy_65_66_l2_b (F_X12_copy_65_66_l2 n)
set_option maxRecDepth 100000 in
theorem D_X12_copy_65_66_l2 {t : Nat → Option p_C} {r : d_S} : ∀ (n : Nat) {x2 : Int} {ls : p_Ls} {s : d_S} {h : p_H}, F_X12_copy_65_66_l2 n x2 s = some r → d_V t h s → p_lk 0 ls = some (.ref 65) → p_lk 1 ls = some (.ref 66) → d_R x2 → p_lk 2 ls = some (.int (Int32.ofInt x2)) → p_wp p_GT p_MT 0 m_X12_copy 2 ls [] h (d_QV t r) := by
  intro n
  induction n with
  | zero =>
    intro x2 ls s h hF hH l0 l1 r_x2 l2
    cases (show (none : Option (d_S)) = some r from hF)
  | succ n ih =>
    intro x2 ls s h hF hH l0 l1 r_x2 l2
    have hF : F_X12_copy_65_66_l2_b (F_X12_copy_65_66_l2 n) x2 s = some r := hF
    unfold F_X12_copy_65_66_l2_b at hF
    refine dw_iln rfl l2 (dw_sp rfl rfl (?_))
    refine d_if hF (fun q hF => ?_) (fun q hF => ?_)
    · refine dw_ge_y rfl (u := 21) rfl r_x2 (d_rl rfl) q ?_
      refine dw_aln rfl l1 (dw_iln rfl l2 (dw_aln rfl l0 (dw_iln rfl l2 (d_gd hF (fun g1 hF => dw_ald rfl hH d_a65 rfl g1.1 g1.2 r_x2 rfl (d_gd hF (fun g2 hF => dw_ast rfl hH d_a66 g2.1 g2.2 r_x2 rfl hH.r hF (fun s3 h3 hH3 hF => dw_ii rfl l2 rfl (dw_go rfl (u := 2) rfl (?_))))))))))
      exact ih hF hH3 (d_s1 l0 rfl (by decide)) (d_s1 l1 rfl (by decide)) d_R_w p_lk_s1
    · refine dw_ge_n rfl (u := 21) rfl r_x2 (d_rl rfl) q ?_
      exact dw_rV rfl rfl hH hF
set_option maxRecDepth 100000 in
noncomputable def F_X12_copy_65_66 (s : d_S) : Option (d_S) :=
  F_X12_copy_65_66_l2 d_N 0 s
set_option maxRecDepth 100000 in
theorem D_X12_copy_65_66 {t : Nat → Option p_C} {h : p_H} {s : d_S} {r : d_S} (hF : F_X12_copy_65_66 s = some r) (hH : d_V t h s) : p_wp p_GT p_MT 0 m_X12_copy 0 (lv_args 0 [.ref 65, .ref 66]) [] h (d_QV t r) := by
  unfold F_X12_copy_65_66 at hF
  refine dw_ic rfl (dw_isn rfl rfl (?_))
  exact D_X12_copy_65_66_l2 _ hF hH (d_s1 rfl rfl (by decide)) (d_s1 rfl rfl (by decide)) (d_rl rfl) p_lk_s1
set_option maxRecDepth 100000 in
noncomputable def F_X12_image (s : d_S) : Option (Int × d_S) :=
  d_b (F_X12_copy_65_66 s) (fun s1 => some ((s1.1 65 9), s1))
set_option maxRecDepth 100000 in
theorem D_X12_image {t : Nat → Option p_C} {h : p_H} {s : d_S} {r : Int × d_S} (hF : F_X12_image s = some r) (hH : d_V t h s) : p_wp p_GT p_MT 1 m_X12_image 0 (lv_args 0 [.ref 64]) [] h (d_QI t r) := by
  unfold F_X12_image at hF
  exact dw_aln rfl rfl (dw_gr rfl rfl rfl hH d_c64_0 (dw_aln rfl rfl (dw_gr rfl rfl rfl hH d_c64_1 (dw_sV hF rfl rfl rfl rfl rfl (dc := 0) (fun _ e => D_X12_copy_65_66 e hH) (fun s1 h1 hH1 hF => dw_aln rfl rfl (dw_gr rfl rfl rfl hH1 d_c64_0 (dw_bp rfl rfl (dw_ald rfl hH1 d_a65 rfl (by decide) (by decide) (d_rl rfl) (k := 9) rfl (dw_rI rfl rfl hH1.r hH1 hF)))))))))
set_option maxRecDepth 100000 in
noncomputable def F_X12_copy_66_65_l2_b (rec : Int → d_S → Option (d_S)) (x2 : Int) (s : d_S) : Option (d_S) :=
  if x2 < 2517 then
  d_g (0 ≤ x2 ∧ x2 < 2517) (d_g (0 ≤ x2 ∧ x2 < 2517) (d_l (d_si s 65 ((x2).toNat) (s.1 66 (x2.toNat))) (fun s3 => rec (d_w (x2 + 1)) s3)))
  else
  some s
set_option maxRecDepth 100000 in
noncomputable def F_X12_copy_66_65_l2 : Nat → Int → d_S → Option (d_S)
  | 0 => fun _ _ => none
  | n + 1 => F_X12_copy_66_65_l2_b (F_X12_copy_66_65_l2 n)
set_option maxRecDepth 100000 in
theorem D_X12_copy_66_65_l2 {t : Nat → Option p_C} {r : d_S} : ∀ (n : Nat) {x2 : Int} {ls : p_Ls} {s : d_S} {h : p_H}, F_X12_copy_66_65_l2 n x2 s = some r → d_V t h s → p_lk 0 ls = some (.ref 66) → p_lk 1 ls = some (.ref 65) → d_R x2 → p_lk 2 ls = some (.int (Int32.ofInt x2)) → p_wp p_GT p_MT 0 m_X12_copy 2 ls [] h (d_QV t r) := by
  intro n
  induction n with
  | zero =>
    intro x2 ls s h hF hH l0 l1 r_x2 l2
    cases (show (none : Option (d_S)) = some r from hF)
  | succ n ih =>
    intro x2 ls s h hF hH l0 l1 r_x2 l2
    have hF : F_X12_copy_66_65_l2_b (F_X12_copy_66_65_l2 n) x2 s = some r := hF
    unfold F_X12_copy_66_65_l2_b at hF
    refine dw_iln rfl l2 (dw_sp rfl rfl (?_))
    refine d_if hF (fun q hF => ?_) (fun q hF => ?_)
    · refine dw_ge_y rfl (u := 21) rfl r_x2 (d_rl rfl) q ?_
      refine dw_aln rfl l1 (dw_iln rfl l2 (dw_aln rfl l0 (dw_iln rfl l2 (d_gd hF (fun g1 hF => dw_ald rfl hH d_a66 rfl g1.1 g1.2 r_x2 rfl (d_gd hF (fun g2 hF => dw_ast rfl hH d_a65 g2.1 g2.2 r_x2 rfl hH.r hF (fun s3 h3 hH3 hF => dw_ii rfl l2 rfl (dw_go rfl (u := 2) rfl (?_))))))))))
      exact ih hF hH3 (d_s1 l0 rfl (by decide)) (d_s1 l1 rfl (by decide)) d_R_w p_lk_s1
    · refine dw_ge_n rfl (u := 21) rfl r_x2 (d_rl rfl) q ?_
      exact dw_rV rfl rfl hH hF
set_option maxRecDepth 100000 in
noncomputable def F_X12_copy_66_65 (s : d_S) : Option (d_S) :=
  F_X12_copy_66_65_l2 d_N 0 s
set_option maxRecDepth 100000 in
theorem D_X12_copy_66_65 {t : Nat → Option p_C} {h : p_H} {s : d_S} {r : d_S} (hF : F_X12_copy_66_65 s = some r) (hH : d_V t h s) : p_wp p_GT p_MT 0 m_X12_copy 0 (lv_args 0 [.ref 66, .ref 65]) [] h (d_QV t r) := by
  unfold F_X12_copy_66_65 at hF
  refine dw_ic rfl (dw_isn rfl rfl (?_))
  exact D_X12_copy_66_65_l2 _ hF hH (d_s1 rfl rfl (by decide)) (d_s1 rfl rfl (by decide)) (d_rl rfl) p_lk_s1
set_option maxRecDepth 100000 in
noncomputable def F_X12_back (s : d_S) : Option (Int × d_S) :=
  d_b (F_X12_copy_66_65 s) (fun s1 => some ((s1.1 65 9), s1))
set_option maxRecDepth 100000 in
theorem D_X12_back {t : Nat → Option p_C} {h : p_H} {s : d_S} {r : Int × d_S} (hF : F_X12_back s = some r) (hH : d_V t h s) : p_wp p_GT p_MT 1 m_X12_back 0 (lv_args 0 [.ref 64]) [] h (d_QI t r) := by
  unfold F_X12_back at hF
  exact dw_aln rfl rfl (dw_gr rfl rfl rfl hH d_c64_1 (dw_aln rfl rfl (dw_gr rfl rfl rfl hH d_c64_0 (dw_sV hF rfl rfl rfl rfl rfl (dc := 0) (fun _ e => D_X12_copy_66_65 e hH) (fun s1 h1 hH1 hF => dw_aln rfl rfl (dw_gr rfl rfl rfl hH1 d_c64_0 (dw_bp rfl rfl (dw_ald rfl hH1 d_a65 rfl (by decide) (by decide) (d_rl rfl) (k := 9) rfl (dw_rI rfl rfl hH1.r hH1 hF)))))))))
set_option maxRecDepth 100000 in
noncomputable def F_X12_about (s : d_S) (x1 : Int) : Option (Int) :=
  
  if x1 = 0 then
  some (s.1 65 0)
  else
  if x1 = 1 then
  some (s.1 65 1)
  else
  if x1 = 2 then
  some (s.1 65 2)
  else
  if x1 = 3 then
  some (s.1 65 3)
  else
  if x1 = 4 then
  some (s.1 65 4)
  else
  if x1 = 5 then
  some (s.1 65 5)
  else
  if x1 = 6 then
  some (s.1 65 6)
  else
  if x1 = 7 then
  some (s.1 65 7)
  else
  if x1 = 8 then
  some (s.1 65 8)
  else
  if x1 = 9 then
  some (s.1 64 4)
  else
  some (-2)
set_option maxRecDepth 100000 in
theorem D_X12_about {t : Nat → Option p_C} {h : p_H} {s : d_S} {x1 : Int} {r : Int} (hF : F_X12_about s x1 = some r) (hH : d_V t h s) (r_x1 : d_R x1) : p_wp p_GT p_MT 0 m_X12_about 0 (lv_args 0 [.ref 64, .int (Int32.ofInt x1)]) [] h (d_QP h r) := by
  unfold F_X12_about at hF
  refine dw_iln rfl rfl (?_)
  refine d_if hF (fun q hF => ?_) (fun q0 hF => ?_)
  · refine dw_ts rfl r_x1 (u := 56) (by rw [q]; rfl) ?_
    exact dw_aln rfl rfl (dw_gr rfl rfl rfl hH d_c64_0 (dw_ic rfl (dw_ald rfl hH d_a65 rfl (by decide) (by decide) (d_rl rfl) (k := 0) rfl (dw_rP rfl rfl hH.r hF))))
  refine d_if hF (fun q hF => ?_) (fun q1 hF => ?_)
  · refine dw_ts rfl r_x1 (u := 63) (by rw [q]; rfl) ?_
    exact dw_aln rfl rfl (dw_gr rfl rfl rfl hH d_c64_0 (dw_ic rfl (dw_ald rfl hH d_a65 rfl (by decide) (by decide) (d_rl rfl) (k := 1) rfl (dw_rP rfl rfl hH.r hF))))
  refine d_if hF (fun q hF => ?_) (fun q2 hF => ?_)
  · refine dw_ts rfl r_x1 (u := 70) (by rw [q]; rfl) ?_
    exact dw_aln rfl rfl (dw_gr rfl rfl rfl hH d_c64_0 (dw_ic rfl (dw_ald rfl hH d_a65 rfl (by decide) (by decide) (d_rl rfl) (k := 2) rfl (dw_rP rfl rfl hH.r hF))))
  refine d_if hF (fun q hF => ?_) (fun q3 hF => ?_)
  · refine dw_ts rfl r_x1 (u := 77) (by rw [q]; rfl) ?_
    exact dw_aln rfl rfl (dw_gr rfl rfl rfl hH d_c64_0 (dw_ic rfl (dw_ald rfl hH d_a65 rfl (by decide) (by decide) (d_rl rfl) (k := 3) rfl (dw_rP rfl rfl hH.r hF))))
  refine d_if hF (fun q hF => ?_) (fun q4 hF => ?_)
  · refine dw_ts rfl r_x1 (u := 84) (by rw [q]; rfl) ?_
    exact dw_aln rfl rfl (dw_gr rfl rfl rfl hH d_c64_0 (dw_ic rfl (dw_ald rfl hH d_a65 rfl (by decide) (by decide) (d_rl rfl) (k := 4) rfl (dw_rP rfl rfl hH.r hF))))
  refine d_if hF (fun q hF => ?_) (fun q5 hF => ?_)
  · refine dw_ts rfl r_x1 (u := 91) (by rw [q]; rfl) ?_
    exact dw_aln rfl rfl (dw_gr rfl rfl rfl hH d_c64_0 (dw_ic rfl (dw_ald rfl hH d_a65 rfl (by decide) (by decide) (d_rl rfl) (k := 5) rfl (dw_rP rfl rfl hH.r hF))))
  refine d_if hF (fun q hF => ?_) (fun q6 hF => ?_)
  · refine dw_ts rfl r_x1 (u := 98) (by rw [q]; rfl) ?_
    exact dw_aln rfl rfl (dw_gr rfl rfl rfl hH d_c64_0 (dw_bp rfl rfl (dw_ald rfl hH d_a65 rfl (by decide) (by decide) (d_rl rfl) (k := 6) rfl (dw_rP rfl rfl hH.r hF))))
  refine d_if hF (fun q hF => ?_) (fun q7 hF => ?_)
  · refine dw_ts rfl r_x1 (u := 106) (by rw [q]; rfl) ?_
    exact dw_aln rfl rfl (dw_gr rfl rfl rfl hH d_c64_0 (dw_bp rfl rfl (dw_ald rfl hH d_a65 rfl (by decide) (by decide) (d_rl rfl) (k := 7) rfl (dw_rP rfl rfl hH.r hF))))
  refine d_if hF (fun q hF => ?_) (fun q8 hF => ?_)
  · refine dw_ts rfl r_x1 (u := 114) (by rw [q]; rfl) ?_
    exact dw_aln rfl rfl (dw_gr rfl rfl rfl hH d_c64_0 (dw_bp rfl rfl (dw_ald rfl hH d_a65 rfl (by decide) (by decide) (d_rl rfl) (k := 8) rfl (dw_rP rfl rfl hH.r hF))))
  refine d_if hF (fun q hF => ?_) (fun q9 hF => ?_)
  · refine dw_ts rfl r_x1 (u := 122) (by rw [q]; rfl) ?_
    exact dw_aln rfl rfl (dw_gi (k := 4) rfl rfl rfl hH d_c64_4 (dw_rP rfl rfl hH.r hF))
  refine dw_ts rfl r_x1 (u := 127) (by rw [if_pos (by omega)]; rfl) ?_
  exact dw_bp rfl rfl (dw_rP rfl rfl (d_rl rfl) hF)
set_option maxRecDepth 100000 in
noncomputable def F_X12_order (s : d_S) (x1 : Int) (x2 : Int) (x3 : Int) : Option (Int × d_S) :=
  if x1 = (-1) then
  d_l (d_si s 65 (4) 0) (fun s1 => some (0, s1))
  else
  d_b (F_X12_isIn x1 0 9) (fun v2 => if v2 = 0 then
  some ((-2), s)
  else
  d_b (F_X12_isIn x2 0 999) (fun v3 => if v3 = 0 then
  some ((-2), s)
  else
  d_b (F_X12_isIn x3 1 99) (fun v4 => if v4 = 0 then
  some ((-2), s)
  else
  if (s.1 65 4) = 5 then
  some ((-2), s)
  else
  d_l (d_w (284 + (3 * (s.1 65 4)))) (fun z5 => d_g (0 ≤ z5 ∧ z5 < 2517) (d_l (d_si s 65 ((z5).toNat) x1) (fun s7 => d_g (0 ≤ (d_w (z5 + 1)) ∧ (d_w (z5 + 1)) < 2517) (d_l (d_si s7 65 (((d_w (z5 + 1))).toNat) x2) (fun s9 => d_g (0 ≤ (d_w (z5 + 2)) ∧ (d_w (z5 + 2)) < 2517) (d_l (d_si s9 65 (((d_w (z5 + 2))).toNat) x3) (fun s11 => d_l (d_si s11 65 (4) (d_w ((s11.1 65 4) + 1))) (fun s12 => some ((s12.1 65 4), s12))))))))))))
set_option maxRecDepth 100000 in
theorem D_X12_order {t : Nat → Option p_C} {h : p_H} {s : d_S} {x1 : Int} {x2 : Int} {x3 : Int} {r : Int × d_S} (hF : F_X12_order s x1 x2 x3 = some r) (hH : d_V t h s) (r_x1 : d_R x1) (r_x2 : d_R x2) (r_x3 : d_R x3) : p_wp p_GT p_MT 1 m_X12_order 0 (lv_args 0 [.ref 64, .int (Int32.ofInt x1), .int (Int32.ofInt x2), .int (Int32.ofInt x3)]) [] h (d_QI t r) := by
  unfold F_X12_order at hF
  refine dw_iln rfl rfl (dw_ic rfl (?_))
  refine d_if hF (fun q hF => ?_) (fun q hF => ?_)
  · refine dw_ne_y rfl (u := 14) rfl r_x1 (d_rl rfl) q ?_
    exact dw_aln rfl rfl (dw_gr rfl rfl rfl hH d_c64_0 (dw_ic rfl (dw_ic rfl (dw_ast rfl hH d_a65 (by decide) (by decide) (d_rl rfl) (k := 4) rfl (d_rl rfl) hF (fun s1 h1 hH1 hF => dw_ic rfl (dw_rI rfl rfl (d_rl rfl) hH1 hF))))))
  · refine dw_ne_n rfl (u := 14) rfl r_x1 (d_rl rfl) q ?_
    refine dw_iln rfl rfl (dw_ic rfl (dw_bp rfl rfl (dw_sB hF rfl rfl rfl rfl rfl (dc := 0) (fun _ e => D_X12_isIn e r_x1 (d_rl rfl) (d_rl rfl)) (fun v2 r_v2 hF => ?_))))
    refine d_if hF (fun q hF => ?_) (fun q hF => ?_)
    · refine dw_zeq_y rfl (u := 55) rfl (d_R_b r_v2) q ?_
      exact dw_bp rfl rfl (dw_rI rfl rfl (d_rl rfl) hH hF)
    · refine dw_zeq_n rfl (u := 55) rfl (d_R_b r_v2) q ?_
      refine dw_iln rfl rfl (dw_ic rfl (dw_sp rfl rfl (dw_sB hF rfl rfl rfl rfl rfl (dc := 0) (fun _ e => D_X12_isIn e r_x2 (d_rl rfl) (d_rl rfl)) (fun v3 r_v3 hF => ?_))))
      refine d_if hF (fun q hF => ?_) (fun q hF => ?_)
      · refine dw_zeq_y rfl (u := 55) rfl (d_R_b r_v3) q ?_
        exact dw_bp rfl rfl (dw_rI rfl rfl (d_rl rfl) hH hF)
      · refine dw_zeq_n rfl (u := 55) rfl (d_R_b r_v3) q ?_
        refine dw_iln rfl rfl (dw_ic rfl (dw_bp rfl rfl (dw_sB hF rfl rfl rfl rfl rfl (dc := 0) (fun _ e => D_X12_isIn e r_x3 (d_rl rfl) (d_rl rfl)) (fun v4 r_v4 hF => ?_))))
        refine d_if hF (fun q hF => ?_) (fun q hF => ?_)
        · refine dw_zeq_y rfl (u := 55) rfl (d_R_b r_v4) q ?_
          exact dw_bp rfl rfl (dw_rI rfl rfl (d_rl rfl) hH hF)
        · refine dw_zeq_n rfl (u := 55) rfl (d_R_b r_v4) q ?_
          refine dw_aln rfl rfl (dw_gr rfl rfl rfl hH d_c64_0 (dw_ic rfl (dw_ald rfl hH d_a65 rfl (by decide) (by decide) (d_rl rfl) (k := 4) rfl (dw_ic rfl (?_)))))
          refine d_if hF (fun q hF => ?_) (fun q hF => ?_)
          · refine dw_ne_y rfl (u := 58) rfl hH.r (d_rl rfl) q ?_
            exact dw_bp rfl rfl (dw_rI rfl rfl (d_rl rfl) hH hF)
          · refine dw_ne_n rfl (u := 58) rfl hH.r (d_rl rfl) q ?_
            refine dw_sp rfl rfl (dw_ic rfl (dw_aln rfl rfl (dw_gr rfl rfl rfl hH d_c64_0 (dw_ic rfl (dw_ald rfl hH d_a65 rfl (by decide) (by decide) (d_rl rfl) (k := 4) rfl (dw_mul rfl (dw_add rfl (dw_w1 (dw_nm hF d_R_w (fun z5 r_z5 hF => ?_))))))))))
            refine dw_is rfl rfl (dw_aln rfl (d_s1 rfl rfl (by decide)) (dw_gr rfl rfl rfl hH d_c64_0 (dw_il rfl p_lk_s1 (dw_iln rfl (d_s1 rfl rfl (by decide)) (d_gd hF (fun g6 hF => dw_ast rfl hH d_a65 g6.1 g6.2 r_z5 rfl r_x1 hF (fun s7 h7 hH7 hF => dw_aln rfl (d_s1 rfl rfl (by decide)) (dw_gr rfl rfl rfl hH7 d_c64_0 (dw_il rfl p_lk_s1 (?_))))))))))
            refine dw_ic rfl (dw_add rfl (dw_iln rfl (d_s1 rfl rfl (by decide)) (dw_w2 (d_gd hF (fun g8 hF => dw_ast rfl hH7 d_a65 g8.1 g8.2 d_R_w rfl r_x2 hF (fun s9 h9 hH9 hF => dw_aln rfl (d_s1 rfl rfl (by decide)) (dw_gr rfl rfl rfl hH9 d_c64_0 (dw_il rfl p_lk_s1 (dw_ic rfl (?_))))))))))
            refine dw_add rfl (dw_iln rfl (d_s1 rfl rfl (by decide)) (dw_w2 (d_gd hF (fun g10 hF => dw_ast rfl hH9 d_a65 g10.1 g10.2 d_R_w rfl r_x3 hF (fun s11 h11 hH11 hF => dw_aln rfl (d_s1 rfl rfl (by decide)) (dw_gr rfl rfl rfl hH11 d_c64_0 (dw_ic rfl (dw_dup2 rfl (dw_ald rfl hH11 d_a65 rfl (by decide) (by decide) (d_rl rfl) (k := 4) rfl (?_))))))))))
            exact dw_ic rfl (dw_add rfl (dw_w1 (dw_ast rfl hH11 d_a65 (by decide) (by decide) (d_rl rfl) (k := 4) rfl d_R_w hF (fun s12 h12 hH12 hF => dw_aln rfl (d_s1 rfl rfl (by decide)) (dw_gr rfl rfl rfl hH12 d_c64_0 (dw_ic rfl (dw_ald rfl hH12 d_a65 rfl (by decide) (by decide) (d_rl rfl) (k := 4) rfl (dw_rI rfl rfl hH12.r hH12 hF))))))))

set_option maxRecDepth 100000 in
noncomputable def F_X4_showingIn_3_j58 (s : d_S) (k6 : Int → Int → Int → Int → Option (Int)) (x2 : Int) (x3 : Int) (x5 : Int) (y0 : Int) : Option (Int) :=
  d_b (F_X11_bit 0) (fun v4 => k6 x2 x3 (d_or y0 (d_shl v4 x5)) (d_w (x5 + 1)))
set_option maxRecDepth 100000 in
theorem D_X4_showingIn_3_j58 {t : Nat → Option p_C} {h : p_H} {s : d_S} {k6 : Int → Int → Int → Int → Option (Int)} {x2 : Int} {x3 : Int} {x5 : Int} {y0 : Int} {r : Int} {ls : p_Ls} (hF : F_X4_showingIn_3_j58 s k6 x2 x3 x5 y0 = some r) (hH : d_V t h s) (l0 : p_lk 0 ls = some (.ref 37)) (l1 : p_lk 1 ls = some (.ref 3)) (r_x2 : d_R x2) (l2 : p_lk 2 ls = some (.int (Int32.ofInt x2))) (r_x3 : d_R x3) (l3 : p_lk 3 ls = some (.int (Int32.ofInt x3))) (r_x5 : d_R x5) (l5 : p_lk 5 ls = some (.int (Int32.ofInt x5))) (r_y0 : d_R y0) (hk6 : ∀ {x2 : Int} {x3 : Int} {x4 : Int} {x5 : Int} {ls : p_Ls}, k6 x2 x3 x4 x5 = some r → p_lk 0 ls = some (.ref 37) → p_lk 1 ls = some (.ref 3) → d_R x2 → p_lk 2 ls = some (.int (Int32.ofInt x2)) → d_R x3 → p_lk 3 ls = some (.int (Int32.ofInt x3)) → d_R x4 → p_lk 4 ls = some (.int (Int32.ofInt x4)) → d_R x5 → p_lk 5 ls = some (.int (Int32.ofInt x5)) → p_wp p_GT p_MT 2 m_X4_showingIn 6 ls [] h (d_QP h r)) : p_wp p_GT p_MT 2 m_X4_showingIn 58 ls [.int (Int32.ofInt y0)] h (d_QP h r) := by
  unfold F_X4_showingIn_3_j58 at hF
  refine dw_ic rfl (dw_sP hF rfl rfl rfl rfl rfl (dc := 0) (fun _ e => D_X11_bit e (d_rl rfl)) (fun v4 r_v4 hF => dw_il rfl l5 (dw_shl rfl (dw_or rfl (dw_is rfl rfl (dw_ii rfl (d_s1 l5 rfl (by decide)) rfl (dw_go rfl (u := 6) rfl (?_))))))))
  exact hk6 hF (d_s1 (d_s1 l0 rfl (by decide)) rfl (by decide)) (d_s1 (d_s1 l1 rfl (by decide)) rfl (by decide)) r_x2 (d_s1 (d_s1 l2 rfl (by decide)) rfl (by decide)) r_x3 (d_s1 (d_s1 l3 rfl (by decide)) rfl (by decide)) d_R_t (d_s1 p_lk_s1 rfl (by decide)) d_R_w p_lk_s1
set_option maxRecDepth 100000 in
noncomputable def F_X4_showingIn_3_l6_b (s : d_S) (rec : Int → Int → Int → Int → Option (Int)) (x2 : Int) (x3 : Int) (x4 : Int) (x5 : Int) : Option (Int) :=
  if x5 < (s.1 3 3) then
  d_b (F_X9_sightPart_3 s x5 5) (fun v1 => if (d_w (v1 * 10)) < x3 then
  d_b (F_X4_cellsOf_3 s x5 x2) (fun v2 => if 0 < v2 then
  d_b (F_X11_bit 1) (fun v3 => rec x2 x3 (d_or x4 (d_shl v3 x5)) (d_w (x5 + 1)))
  else
  F_X4_showingIn_3_j58 s rec x2 x3 x5 x4)
  else
  F_X4_showingIn_3_j58 s rec x2 x3 x5 x4)
  else
  some x4
set_option maxRecDepth 100000 in
noncomputable def F_X4_showingIn_3_l6 (s : d_S) : Nat → Int → Int → Int → Int → Option (Int)
  | 0 => fun _ _ _ _ => none
  | n + 1 => F_X4_showingIn_3_l6_b s (F_X4_showingIn_3_l6 s n)
set_option maxRecDepth 100000 in
theorem D_X4_showingIn_3_l6 {t : Nat → Option p_C} {h : p_H} {s : d_S} {r : Int} (hH : d_V t h s) : ∀ (n : Nat) {x2 : Int} {x3 : Int} {x4 : Int} {x5 : Int} {ls : p_Ls}, F_X4_showingIn_3_l6 s n x2 x3 x4 x5 = some r → p_lk 0 ls = some (.ref 37) → p_lk 1 ls = some (.ref 3) → d_R x2 → p_lk 2 ls = some (.int (Int32.ofInt x2)) → d_R x3 → p_lk 3 ls = some (.int (Int32.ofInt x3)) → d_R x4 → p_lk 4 ls = some (.int (Int32.ofInt x4)) → d_R x5 → p_lk 5 ls = some (.int (Int32.ofInt x5)) → p_wp p_GT p_MT 2 m_X4_showingIn 6 ls [] h (d_QP h r) := by
  intro n
  induction n with
  | zero =>
    intro x2 x3 x4 x5 ls hF l0 l1 r_x2 l2 r_x3 l3 r_x4 l4 r_x5 l5
    cases (show (none : Option (Int)) = some r from hF)
  | succ n ih =>
    intro x2 x3 x4 x5 ls hF l0 l1 r_x2 l2 r_x3 l3 r_x4 l4 r_x5 l5
    have hF : F_X4_showingIn_3_l6_b s (F_X4_showingIn_3_l6 s n) x2 x3 x4 x5 = some r := hF
    unfold F_X4_showingIn_3_l6_b at hF
    refine dw_il rfl l5 (dw_aln rfl l1 (dw_gi (k := 3) rfl rfl rfl hH d_c3_3 (?_)))
    refine d_if hF (fun q hF => ?_) (fun q hF => ?_)
    · refine dw_ge_y rfl (u := 74) rfl r_x5 hH.r q ?_
      refine dw_iln rfl l3 (dw_aln rfl l1 (dw_il rfl l5 (dw_ic rfl (dw_vP hF rfl (d_vir (n := 3) rfl rfl rfl rfl rfl hH d_c3_0 rfl) rfl rfl rfl (dc := 0) (fun _ e => D_X9_sightPart_3 e hH r_x5 (d_rl rfl)) (fun v1 r_v1 hF => dw_bp rfl rfl (dw_mul rfl (dw_w1 (?_))))))))
      refine d_if hF (fun q hF => ?_) (fun q hF => ?_)
      · refine dw_le_y rfl (u := 33) rfl r_x3 d_R_w q ?_
        refine dw_ic rfl (dw_go rfl (u := 34) rfl (dw_is rfl rfl (dw_il rfl (d_s1 l4 rfl (by decide)) (dw_il rfl p_lk_s1 (dw_zeq_n rfl (u := 58) rfl (d_rl rfl) (by decide) (dw_aln rfl (d_s1 l0 rfl (by decide)) (dw_aln rfl (d_s1 l1 rfl (by decide)) (dw_il rfl (d_s1 l5 rfl (by decide)) (dw_iln rfl (d_s1 l2 rfl (by decide)) (?_))))))))))
        refine dw_vP hF rfl (d_vir (n := 4) rfl rfl rfl rfl rfl hH d_c37_0 rfl) rfl rfl rfl (dc := 1) (fun _ e => D_X4_cellsOf_3 e hH r_x5 r_x2) (fun v2 r_v2 hF => ?_)
        refine d_if hF (fun q hF => ?_) (fun q hF => ?_)
        · refine dw_zle_y rfl (u := 58) rfl r_v2 q ?_
          refine dw_ic rfl (dw_go rfl (u := 59) rfl (dw_sP hF rfl rfl rfl rfl rfl (dc := 0) (fun _ e => D_X11_bit e (d_rl rfl)) (fun v3 r_v3 hF => dw_il rfl (d_s1 l5 rfl (by decide)) (dw_shl rfl (dw_or rfl (dw_is rfl rfl (dw_ii rfl (d_s1 (d_s1 l5 rfl (by decide)) rfl (by decide)) rfl (dw_go rfl (u := 6) rfl (?_)))))))))
          exact ih hF (d_s1 (d_s1 (d_s1 l0 rfl (by decide)) rfl (by decide)) rfl (by decide)) (d_s1 (d_s1 (d_s1 l1 rfl (by decide)) rfl (by decide)) rfl (by decide)) r_x2 (d_s1 (d_s1 (d_s1 l2 rfl (by decide)) rfl (by decide)) rfl (by decide)) r_x3 (d_s1 (d_s1 (d_s1 l3 rfl (by decide)) rfl (by decide)) rfl (by decide)) d_R_t (d_s1 p_lk_s1 rfl (by decide)) d_R_w p_lk_s1
        · refine dw_zle_n rfl (u := 58) rfl r_v2 q ?_
          exact D_X4_showingIn_3_j58 hF hH (d_s1 l0 rfl (by decide)) (d_s1 l1 rfl (by decide)) r_x2 (d_s1 l2 rfl (by decide)) r_x3 (d_s1 l3 rfl (by decide)) r_x5 (d_s1 l5 rfl (by decide)) r_x4 (fun {x2} {x3} {x4} {x5} {ls} hF l0 l1 r_x2 l2 r_x3 l3 r_x4 l4 r_x5 l5 => ih hF l0 l1 r_x2 l2 r_x3 l3 r_x4 l4 r_x5 l5)
      · refine dw_le_n rfl (u := 33) rfl r_x3 d_R_w q ?_
        refine dw_ic rfl (dw_is rfl rfl (dw_il rfl (d_s1 l4 rfl (by decide)) (dw_il rfl p_lk_s1 (dw_zeq_y rfl (u := 58) rfl (d_rl rfl) (by decide) (?_)))))
        exact D_X4_showingIn_3_j58 hF hH (d_s1 l0 rfl (by decide)) (d_s1 l1 rfl (by decide)) r_x2 (d_s1 l2 rfl (by decide)) r_x3 (d_s1 l3 rfl (by decide)) r_x5 (d_s1 l5 rfl (by decide)) r_x4 (fun {x2} {x3} {x4} {x5} {ls} hF l0 l1 r_x2 l2 r_x3 l3 r_x4 l4 r_x5 l5 => ih hF l0 l1 r_x2 l2 r_x3 l3 r_x4 l4 r_x5 l5)
    · refine dw_ge_n rfl (u := 74) rfl r_x5 hH.r q ?_
      exact dw_il rfl l4 (dw_rP rfl rfl r_x4 hF)
set_option maxRecDepth 100000 in
noncomputable def F_X4_showingIn_3 (s : d_S) (x2 : Int) (x3 : Int) : Option (Int) :=
  F_X4_showingIn_3_l6 s d_N x2 x3 0 0
set_option maxRecDepth 100000 in
theorem D_X4_showingIn_3 {t : Nat → Option p_C} {h : p_H} {s : d_S} {x2 : Int} {x3 : Int} {r : Int} (hF : F_X4_showingIn_3 s x2 x3 = some r) (hH : d_V t h s) (r_x2 : d_R x2) (r_x3 : d_R x3) : p_wp p_GT p_MT 2 m_X4_showingIn 0 (lv_args 0 [.ref 37, .ref 3, .int (Int32.ofInt x2), .int (Int32.ofInt x3)]) [] h (d_QP h r) := by
  unfold F_X4_showingIn_3 at hF
  refine dw_ic rfl (dw_is rfl rfl (dw_ic rfl (dw_is rfl rfl (?_))))
  exact D_X4_showingIn_3_l6 hH _ hF (d_s1 (d_s1 rfl rfl (by decide)) rfl (by decide)) (d_s1 (d_s1 rfl rfl (by decide)) rfl (by decide)) r_x2 (d_s1 (d_s1 rfl rfl (by decide)) rfl (by decide)) r_x3 (d_s1 (d_s1 rfl rfl (by decide)) rfl (by decide)) (d_rl rfl) (d_s1 p_lk_s1 rfl (by decide)) (d_rl rfl) p_lk_s1
set_option maxRecDepth 100000 in
noncomputable def F_X11_showingNow_l4_b (s : d_S) (rec : Int → Int → Option (Int)) (x1 : Int) (x2 : Int) : Option (Int) :=
  if x2 < (s.1 37 5) then
  d_b (F_X10_meltedOf_6 s x2) (fun v1 => d_b (F_X4_showingIn_3 s x2 v1) (fun v2 => rec (d_or x1 v2) (d_w (x2 + 1))))
  else
  some x1
set_option maxRecDepth 100000 in
noncomputable def F_X11_showingNow_l4 (s : d_S) : Nat → Int → Int → Option (Int)
  | 0 => fun _ _ => none
  | n + 1 => F_X11_showingNow_l4_b s (F_X11_showingNow_l4 s n)
set_option maxRecDepth 100000 in
theorem D_X11_showingNow_l4 {t : Nat → Option p_C} {h : p_H} {s : d_S} {r : Int} (hH : d_V t h s) : ∀ (n : Nat) {x1 : Int} {x2 : Int} {ls : p_Ls}, F_X11_showingNow_l4 s n x1 x2 = some r → p_lk 0 ls = some (.ref 2) → d_R x1 → p_lk 1 ls = some (.int (Int32.ofInt x1)) → d_R x2 → p_lk 2 ls = some (.int (Int32.ofInt x2)) → p_wp p_GT p_MT 3 m_X11_showingNow 4 ls [] h (d_QP h r) := by
  intro n
  induction n with
  | zero =>
    intro x1 x2 ls hF l0 r_x1 l1 r_x2 l2
    cases (show (none : Option (Int)) = some r from hF)
  | succ n ih =>
    intro x1 x2 ls hF l0 r_x1 l1 r_x2 l2
    have hF : F_X11_showingNow_l4_b s (F_X11_showingNow_l4 s n) x1 x2 = some r := hF
    unfold F_X11_showingNow_l4_b at hF
    refine dw_iln rfl l2 (dw_aln rfl l0 (dw_gr rfl rfl rfl hH d_c2_2 (dw_gi (k := 5) rfl rfl rfl hH d_c37_5 (?_))))
    refine d_if hF (fun q hF => ?_) (fun q hF => ?_)
    · refine dw_ge_y rfl (u := 47) rfl r_x2 hH.r q ?_
      refine dw_iln rfl l1 (dw_aln rfl l0 (dw_gr rfl rfl rfl hH d_c2_2 (dw_aln rfl l0 (dw_gr rfl rfl rfl hH d_c2_0 (dw_iln rfl l2 (dw_aln rfl l0 (dw_gr rfl rfl rfl hH d_c2_0 (dw_gr rfl rfl rfl hH d_c3_8 (dw_iln rfl l2 (?_))))))))))
      refine dw_vP hF rfl (d_vir (n := 2) rfl rfl rfl rfl rfl hH d_c6_0 rfl) rfl rfl rfl (dc := 1) (fun _ e => D_X10_meltedOf_6 e hH r_x2) (fun v1 r_v1 hF => dw_vP hF rfl (d_vir (n := 4) rfl rfl rfl rfl rfl hH d_c37_0 rfl) rfl rfl rfl (dc := 2) (fun _ e => D_X4_showingIn_3 e hH r_x2 r_v1) (fun v2 r_v2 hF => dw_or rfl (dw_isn rfl rfl (dw_ii rfl (d_s1 l2 rfl (by decide)) rfl (dw_go rfl (u := 4) rfl (?_))))))
      exact ih hF (d_s1 (d_s1 l0 rfl (by decide)) rfl (by decide)) d_R_t (d_s1 p_lk_s1 rfl (by decide)) d_R_w p_lk_s1
    · refine dw_ge_n rfl (u := 47) rfl r_x2 hH.r q ?_
      exact dw_iln rfl l1 (dw_rP rfl rfl r_x1 hF)
set_option maxRecDepth 100000 in
noncomputable def F_X11_showingNow (s : d_S) : Option (Int) :=
  F_X11_showingNow_l4 s d_N 0 0
set_option maxRecDepth 100000 in
theorem D_X11_showingNow {t : Nat → Option p_C} {h : p_H} {s : d_S} {r : Int} (hF : F_X11_showingNow s = some r) (hH : d_V t h s) : p_wp p_GT p_MT 3 m_X11_showingNow 0 (lv_args 0 [.ref 2]) [] h (d_QP h r) := by
  unfold F_X11_showingNow at hF
  refine dw_ic rfl (dw_isn rfl rfl (dw_ic rfl (dw_isn rfl rfl (?_))))
  exact D_X11_showingNow_l4 hH _ hF (d_s1 (d_s1 rfl rfl (by decide)) rfl (by decide)) (d_rl rfl) (d_s1 p_lk_s1 rfl (by decide)) (d_rl rfl) p_lk_s1
set_option maxRecDepth 100000 in
noncomputable def F_X11_ofSight (s : d_S) (x1 : Int) (x2 : Int) : Option (Int) :=
  d_b (F_X11_isSight s x1) (fun v1 => if v1 = 0 then
  some (-1)
  else
  d_b (F_X11_within x2 0 5) (fun v2 => if v2 = 0 then
  if x2 = 6 then
  d_b (F_X11_wholeSights s) (fun v3 => some (d_and (d_shr v3 x1) 1))
  else
  if x2 = 7 then
  d_b (F_X11_showingNow s) (fun v4 => some (d_and (d_shr v4 x1) 1))
  else
  some (-1)
  else
  d_b (F_X9_sightPart_3 s x1 x2) (fun v5 => some v5)))
set_option maxRecDepth 100000 in
theorem D_X11_ofSight {t : Nat → Option p_C} {h : p_H} {s : d_S} {x1 : Int} {x2 : Int} {r : Int} (hF : F_X11_ofSight s x1 x2 = some r) (hH : d_V t h s) (r_x1 : d_R x1) (r_x2 : d_R x2) : p_wp p_GT p_MT 4 m_X11_ofSight 0 (lv_args 0 [.ref 2, .int (Int32.ofInt x1), .int (Int32.ofInt x2)]) [] h (d_QP h r) := by
  unfold F_X11_ofSight at hF
  refine dw_aln rfl rfl (dw_iln rfl rfl (dw_vB hF rfl (d_vir (n := 2) rfl rfl rfl rfl rfl hH d_c2_0 rfl) rfl rfl rfl (dc := 1) (fun _ e => D_X11_isSight e hH r_x1) (fun v1 r_v1 hF => ?_)))
  refine d_if hF (fun q hF => ?_) (fun q hF => ?_)
  · refine dw_zne_y rfl (u := 10) rfl (d_R_b r_v1) q ?_
    exact dw_ic rfl (dw_rP rfl rfl (d_rl rfl) hF)
  · refine dw_zne_n rfl (u := 10) rfl (d_R_b r_v1) q ?_
    refine dw_iln rfl rfl (dw_ic rfl (dw_ic rfl (dw_sB hF rfl rfl rfl rfl rfl (dc := 0) (fun _ e => D_X11_within e r_x2 (d_rl rfl) (d_rl rfl)) (fun v2 r_v2 hF => ?_))))
    refine d_if hF (fun q hF => ?_) (fun q hF => ?_)
    · refine dw_zeq_y rfl (u := 29) rfl (d_R_b r_v2) q ?_
      refine dw_iln rfl rfl (dw_bp rfl rfl (?_))
      refine d_if hF (fun q hF => ?_) (fun q hF => ?_)
      · refine dw_ne_y rfl (u := 44) rfl r_x2 (d_rl rfl) q ?_
        exact dw_aln rfl rfl (dw_vP hF rfl (d_vir (n := 1) rfl rfl rfl rfl rfl hH d_c2_0 rfl) rfl rfl rfl (dc := 2) (fun _ e => D_X11_wholeSights e hH) (fun v3 r_v3 hF => dw_iln rfl rfl (dw_shr rfl (dw_ic rfl (dw_and rfl (dw_rP rfl rfl d_R_t hF))))))
      · refine dw_ne_n rfl (u := 44) rfl r_x2 (d_rl rfl) q ?_
        refine dw_iln rfl rfl (dw_bp rfl rfl (?_))
        refine d_if hF (fun q hF => ?_) (fun q hF => ?_)
        · refine dw_ne_y rfl (u := 61) rfl r_x2 (d_rl rfl) q ?_
          exact dw_aln rfl rfl (dw_vP hF rfl (d_vir (n := 1) rfl rfl rfl rfl rfl hH d_c2_0 rfl) rfl rfl rfl (dc := 3) (fun _ e => D_X11_showingNow e hH) (fun v4 r_v4 hF => dw_iln rfl rfl (dw_shr rfl (dw_ic rfl (dw_and rfl (dw_go rfl (u := 62) rfl (dw_rP rfl rfl d_R_t hF)))))))
        · refine dw_ne_n rfl (u := 61) rfl r_x2 (d_rl rfl) q ?_
          exact dw_ic rfl (dw_rP rfl rfl (d_rl rfl) hF)
    · refine dw_zeq_n rfl (u := 29) rfl (d_R_b r_v2) q ?_
      exact dw_aln rfl rfl (dw_gr rfl rfl rfl hH d_c2_0 (dw_iln rfl rfl (dw_iln rfl rfl (dw_vP hF rfl (d_vir (n := 3) rfl rfl rfl rfl rfl hH d_c3_0 rfl) rfl rfl rfl (dc := 0) (fun _ e => D_X9_sightPart_3 e hH r_x1 r_x2) (fun v5 r_v5 hF => dw_rP rfl rfl r_v5 hF)))))
set_option maxRecDepth 100000 in
noncomputable def F_X11_is (s : d_S) (x1 : Int) : Option (Int) :=
  
  if x1 = 0 then
  some (s.1 6 3)
  else
  if x1 = 1 then
  some (s.1 6 4)
  else
  if x1 = 2 then
  some (s.1 6 5)
  else
  if x1 = 3 then
  some (s.1 6 2)
  else
  if x1 = 4 then
  some (s.1 6 6)
  else
  if x1 = 5 then
  some (s.1 6 0)
  else
  if x1 = 6 then
  some (s.1 6 1)
  else
  if x1 = 7 then
  some (s.1 3 0)
  else
  if x1 = 8 then
  some (s.1 3 1)
  else
  if x1 = 9 then
  some (s.1 37 5)
  else
  some (-2)
set_option maxRecDepth 100000 in
theorem D_X11_is {t : Nat → Option p_C} {h : p_H} {s : d_S} {x1 : Int} {r : Int} (hF : F_X11_is s x1 = some r) (hH : d_V t h s) (r_x1 : d_R x1) : p_wp p_GT p_MT 0 m_X11_is 0 (lv_args 0 [.ref 2, .int (Int32.ofInt x1)]) [] h (d_QP h r) := by
  unfold F_X11_is at hF
  refine dw_aln rfl rfl (dw_gr rfl rfl rfl hH d_c2_0 (dw_gr rfl rfl rfl hH d_c3_8 (dw_asn rfl rfl (dw_iln rfl (d_s1 rfl rfl (by decide)) (?_)))))
  refine d_if hF (fun q hF => ?_) (fun q0 hF => ?_)
  · refine dw_ts rfl r_x1 (u := 64) (by rw [q]; rfl) ?_
    exact dw_aln rfl p_lk_s1 (dw_gi (k := 3) rfl rfl rfl hH d_c6_3 (dw_rP rfl rfl hH.r hF))
  refine d_if hF (fun q hF => ?_) (fun q1 hF => ?_)
  · refine dw_ts rfl r_x1 (u := 69) (by rw [q]; rfl) ?_
    exact dw_aln rfl p_lk_s1 (dw_gi (k := 4) rfl rfl rfl hH d_c6_4 (dw_rP rfl rfl hH.r hF))
  refine d_if hF (fun q hF => ?_) (fun q2 hF => ?_)
  · refine dw_ts rfl r_x1 (u := 74) (by rw [q]; rfl) ?_
    exact dw_aln rfl p_lk_s1 (dw_gi (k := 5) rfl rfl rfl hH d_c6_5 (dw_rP rfl rfl hH.r hF))
  refine d_if hF (fun q hF => ?_) (fun q3 hF => ?_)
  · refine dw_ts rfl r_x1 (u := 79) (by rw [q]; rfl) ?_
    exact dw_aln rfl p_lk_s1 (dw_gi (k := 2) rfl rfl rfl hH d_c6_2 (dw_rP rfl rfl hH.r hF))
  refine d_if hF (fun q hF => ?_) (fun q4 hF => ?_)
  · refine dw_ts rfl r_x1 (u := 84) (by rw [q]; rfl) ?_
    exact dw_aln rfl p_lk_s1 (dw_gi (k := 6) rfl rfl rfl hH d_c6_6 (dw_rP rfl rfl hH.r hF))
  refine d_if hF (fun q hF => ?_) (fun q5 hF => ?_)
  · refine dw_ts rfl r_x1 (u := 89) (by rw [q]; rfl) ?_
    exact dw_aln rfl p_lk_s1 (dw_gi (k := 0) rfl rfl rfl hH d_c6_0 (dw_rP rfl rfl hH.r hF))
  refine d_if hF (fun q hF => ?_) (fun q6 hF => ?_)
  · refine dw_ts rfl r_x1 (u := 94) (by rw [q]; rfl) ?_
    exact dw_aln rfl p_lk_s1 (dw_gi (k := 1) rfl rfl rfl hH d_c6_1 (dw_rP rfl rfl hH.r hF))
  refine d_if hF (fun q hF => ?_) (fun q7 hF => ?_)
  · refine dw_ts rfl r_x1 (u := 99) (by rw [q]; rfl) ?_
    exact dw_aln rfl (d_s1 rfl rfl (by decide)) (dw_gr rfl rfl rfl hH d_c2_0 (dw_gi (k := 0) rfl rfl rfl hH d_c3_0 (dw_rP rfl rfl hH.r hF)))
  refine d_if hF (fun q hF => ?_) (fun q8 hF => ?_)
  · refine dw_ts rfl r_x1 (u := 107) (by rw [q]; rfl) ?_
    exact dw_aln rfl (d_s1 rfl rfl (by decide)) (dw_gr rfl rfl rfl hH d_c2_0 (dw_gi (k := 1) rfl rfl rfl hH d_c3_1 (dw_rP rfl rfl hH.r hF)))
  refine d_if hF (fun q hF => ?_) (fun q9 hF => ?_)
  · refine dw_ts rfl r_x1 (u := 115) (by rw [q]; rfl) ?_
    exact dw_aln rfl (d_s1 rfl rfl (by decide)) (dw_gr rfl rfl rfl hH d_c2_2 (dw_gi (k := 5) rfl rfl rfl hH d_c37_5 (dw_rP rfl rfl hH.r hF)))
  refine dw_ts rfl r_x1 (u := 123) (by rw [if_pos (by omega)]; rfl) ?_
  exact dw_bp rfl rfl (dw_rP rfl rfl (d_rl rfl) hF)
set_option maxRecDepth 100000 in
noncomputable def F_X11_whole (s : d_S) : Option (Int) :=
  d_b (F_X11_wholeSights s) (fun v1 => some v1)
set_option maxRecDepth 100000 in
theorem D_X11_whole {t : Nat → Option p_C} {h : p_H} {s : d_S} {r : Int} (hF : F_X11_whole s = some r) (hH : d_V t h s) : p_wp p_GT p_MT 3 m_X11_whole 0 (lv_args 0 [.ref 2]) [] h (d_QP h r) := by
  unfold F_X11_whole at hF
  exact dw_aln rfl rfl (dw_vP hF rfl (d_vir (n := 1) rfl rfl rfl rfl rfl hH d_c2_0 rfl) rfl rfl rfl (dc := 2) (fun _ e => D_X11_wholeSights e hH) (fun v1 r_v1 hF => dw_rP rfl rfl r_v1 hF))
set_option maxRecDepth 100000 in
noncomputable def F_J7_fill_53178_63_l5_b (rec : Int → Int → Int → d_S → Option (d_S)) (x1 : Int) (x2 : Int) (x3 : Int) (s : d_S) : Option (d_S) :=
  if x2 < x3 then
  d_g (0 ≤ x2 ∧ x2 < 9) (d_l (d_si s 63 ((x2).toNat) x1) (fun s2 => rec x1 (d_w (x2 + 1)) x3 s2))
  else
  some s
set_option maxRecDepth 100000 in
noncomputable def F_J7_fill_53178_63_l5 : Nat → Int → Int → Int → d_S → Option (d_S)
  | 0 => fun _ _ _ _ => none
  | n + 1 => F_J7_fill_53178_63_l5_b (F_J7_fill_53178_63_l5 n)
set_option maxRecDepth 100000 in
theorem D_J7_fill_53178_63_l5 {t : Nat → Option p_C} {r : d_S} : ∀ (n : Nat) {x1 : Int} {x2 : Int} {x3 : Int} {ls : p_Ls} {s : d_S} {h : p_H}, F_J7_fill_53178_63_l5 n x1 x2 x3 s = some r → d_V t h s → p_lk 0 ls = some (.ref 63) → d_R x1 → p_lk 1 ls = some (.int (Int32.ofInt x1)) → d_R x2 → p_lk 2 ls = some (.int (Int32.ofInt x2)) → d_R x3 → p_lk 3 ls = some (.int (Int32.ofInt x3)) → p_wp p_GT p_MT 0 m_J7_fill_53178 5 ls [] h (d_QV t r) := by
  intro n
  induction n with
  | zero =>
    intro x1 x2 x3 ls s h hF hH l0 r_x1 l1 r_x2 l2 r_x3 l3
    cases (show (none : Option (d_S)) = some r from hF)
  | succ n ih =>
    intro x1 x2 x3 ls s h hF hH l0 r_x1 l1 r_x2 l2 r_x3 l3
    have hF : F_J7_fill_53178_63_l5_b (F_J7_fill_53178_63_l5 n) x1 x2 x3 s = some r := hF
    unfold F_J7_fill_53178_63_l5_b at hF
    refine dw_iln rfl l2 (dw_iln rfl l3 (?_))
    refine d_if hF (fun q hF => ?_) (fun q hF => ?_)
    · refine dw_ge_y rfl (u := 20) rfl r_x2 r_x3 q ?_
      refine dw_aln rfl l0 (dw_iln rfl l2 (dw_iln rfl l1 (d_gd hF (fun g1 hF => dw_ast rfl hH d_a63 g1.1 g1.2 r_x2 rfl r_x1 hF (fun s2 h2 hH2 hF => dw_ii rfl l2 rfl (dw_go rfl (u := 5) rfl (?_)))))))
      exact ih hF hH2 (d_s1 l0 rfl (by decide)) r_x1 (d_s1 l1 rfl (by decide)) d_R_w p_lk_s1 r_x3 (d_s1 l3 rfl (by decide))
    · refine dw_ge_n rfl (u := 20) rfl r_x2 r_x3 q ?_
      exact dw_rV rfl rfl hH hF
set_option maxRecDepth 100000 in
noncomputable def F_J7_fill_53178_63 (s : d_S) (x1 : Int) : Option (d_S) :=
  F_J7_fill_53178_63_l5 d_N x1 0 9 s
set_option maxRecDepth 100000 in
theorem D_J7_fill_53178_63 {t : Nat → Option p_C} {h : p_H} {s : d_S} {x1 : Int} {r : d_S} (hF : F_J7_fill_53178_63 s x1 = some r) (hH : d_V t h s) (r_x1 : d_R x1) : p_wp p_GT p_MT 0 m_J7_fill_53178 0 (lv_args 0 [.ref 63, .int (Int32.ofInt x1)]) [] h (d_QV t r) := by
  unfold F_J7_fill_53178_63 at hF
  refine dw_ic rfl (dw_isn rfl rfl (dw_aln rfl (d_s1 rfl rfl (by decide)) (dw_len rfl hH d_a63 rfl (z := 9) rfl (dw_isn rfl rfl (?_)))))
  exact D_J7_fill_53178_63_l5 _ hF hH (d_s1 (d_s1 rfl rfl (by decide)) rfl (by decide)) r_x1 (d_s1 (d_s1 rfl rfl (by decide)) rfl (by decide)) (d_rl rfl) (d_s1 p_lk_s1 rfl (by decide)) (d_rl rfl) p_lk_s1
set_option maxRecDepth 100000 in
noncomputable def F_X11_narrowest_j34 (k7 : Int → Int → Int → Int → Int → Option (Int)) (x0 : Int) (x1 : Int) (x2 : Int) (x3 : Int) (x4 : Int) : Option (Int) :=
  d_b (F_J9_min_7cf53 x2 x3) (fun v1 => k7 x0 x1 v1 0 (d_w (x4 + 1)))
set_option maxRecDepth 100000 in
theorem D_X11_narrowest_j34 {h : p_H} {k7 : Int → Int → Int → Int → Int → Option (Int)} {x0 : Int} {x1 : Int} {x2 : Int} {x3 : Int} {x4 : Int} {r : Int} {ls : p_Ls} (hF : F_X11_narrowest_j34 k7 x0 x1 x2 x3 x4 = some r) (r_x0 : d_R x0) (l0 : p_lk 0 ls = some (.int (Int32.ofInt x0))) (r_x1 : d_R x1) (l1 : p_lk 1 ls = some (.int (Int32.ofInt x1))) (r_x2 : d_R x2) (l2 : p_lk 2 ls = some (.int (Int32.ofInt x2))) (r_x3 : d_R x3) (l3 : p_lk 3 ls = some (.int (Int32.ofInt x3))) (r_x4 : d_R x4) (l4 : p_lk 4 ls = some (.int (Int32.ofInt x4))) (hk7 : ∀ {x0 : Int} {x1 : Int} {x2 : Int} {x3 : Int} {x4 : Int} {ls : p_Ls}, k7 x0 x1 x2 x3 x4 = some r → d_R x0 → p_lk 0 ls = some (.int (Int32.ofInt x0)) → d_R x1 → p_lk 1 ls = some (.int (Int32.ofInt x1)) → d_R x2 → p_lk 2 ls = some (.int (Int32.ofInt x2)) → d_R x3 → p_lk 3 ls = some (.int (Int32.ofInt x3)) → d_R x4 → p_lk 4 ls = some (.int (Int32.ofInt x4)) → p_wp p_GT p_MT 1 m_X11_narrowest 7 ls [] h (d_QP h r)) : p_wp p_GT p_MT 1 m_X11_narrowest 34 ls [] h (d_QP h r) := by
  unfold F_X11_narrowest_j34 at hF
  refine dw_iln rfl l2 (dw_iln rfl l3 (dw_sP hF rfl rfl rfl rfl rfl (dc := 0) (fun _ e => D_J9_min_7cf53 e r_x2 r_x3) (fun v1 r_v1 hF => dw_isn rfl rfl (dw_ic rfl (dw_isn rfl rfl (dw_ii rfl (d_s1 (d_s1 l4 rfl (by decide)) rfl (by decide)) rfl (dw_go rfl (u := 7) rfl (?_))))))))
  exact hk7 hF r_x0 (d_s1 (d_s1 (d_s1 l0 rfl (by decide)) rfl (by decide)) rfl (by decide)) r_x1 (d_s1 (d_s1 (d_s1 l1 rfl (by decide)) rfl (by decide)) rfl (by decide)) r_v1 (d_s1 (d_s1 p_lk_s1 rfl (by decide)) rfl (by decide)) (d_rl rfl) (d_s1 p_lk_s1 rfl (by decide)) d_R_w p_lk_s1
set_option maxRecDepth 100000 in
noncomputable def F_X11_narrowest_l7_b (rec : Int → Int → Int → Int → Int → Option (Int)) (x0 : Int) (x1 : Int) (x2 : Int) (x3 : Int) (x4 : Int) : Option (Int) :=
  if x4 < x1 then
  if (d_and (d_shr x0 x4) 1) = 1 then
  F_X11_narrowest_j34 rec x0 x1 x2 (d_w (x3 + 1)) x4
  else
  if x4 = (d_w (x1 - 1)) then
  F_X11_narrowest_j34 rec x0 x1 x2 (d_w (x3 + 1)) x4
  else
  rec x0 x1 x2 (d_w (x3 + 1)) (d_w (x4 + 1))
  else
  some x2
set_option maxRecDepth 100000 in
noncomputable def F_X11_narrowest_l7 : Nat → Int → Int → Int → Int → Int → Option (Int)
  | 0 => fun _ _ _ _ _ => none
  | n + 1 => F_X11_narrowest_l7_b (F_X11_narrowest_l7 n)
set_option maxRecDepth 100000 in
theorem D_X11_narrowest_l7 {h : p_H} {r : Int} : ∀ (n : Nat) {x0 : Int} {x1 : Int} {x2 : Int} {x3 : Int} {x4 : Int} {ls : p_Ls}, F_X11_narrowest_l7 n x0 x1 x2 x3 x4 = some r → d_R x0 → p_lk 0 ls = some (.int (Int32.ofInt x0)) → d_R x1 → p_lk 1 ls = some (.int (Int32.ofInt x1)) → d_R x2 → p_lk 2 ls = some (.int (Int32.ofInt x2)) → d_R x3 → p_lk 3 ls = some (.int (Int32.ofInt x3)) → d_R x4 → p_lk 4 ls = some (.int (Int32.ofInt x4)) → p_wp p_GT p_MT 1 m_X11_narrowest 7 ls [] h (d_QP h r) := by
  intro n
  induction n with
  | zero =>
    intro x0 x1 x2 x3 x4 ls hF r_x0 l0 r_x1 l1 r_x2 l2 r_x3 l3 r_x4 l4
    cases (show (none : Option (Int)) = some r from hF)
  | succ n ih =>
    intro x0 x1 x2 x3 x4 ls hF r_x0 l0 r_x1 l1 r_x2 l2 r_x3 l3 r_x4 l4
    have hF : F_X11_narrowest_l7_b (F_X11_narrowest_l7 n) x0 x1 x2 x3 x4 = some r := hF
    unfold F_X11_narrowest_l7_b at hF
    refine dw_il rfl l4 (dw_iln rfl l1 (?_))
    refine d_if hF (fun q hF => ?_) (fun q hF => ?_)
    · refine dw_ge_y rfl (u := 48) rfl r_x4 r_x1 q ?_
      refine dw_ii rfl l3 rfl (dw_iln rfl (d_s1 l0 rfl (by decide)) (dw_il rfl (d_s1 l4 rfl (by decide)) (dw_shr rfl (dw_ic rfl (dw_and rfl (dw_ic rfl (?_)))))))
      refine d_if hF (fun q hF => ?_) (fun q hF => ?_)
      · refine dw_eq_y rfl (u := 34) rfl d_R_t (d_rl rfl) q ?_
        exact D_X11_narrowest_j34 hF r_x0 (d_s1 l0 rfl (by decide)) r_x1 (d_s1 l1 rfl (by decide)) r_x2 (d_s1 l2 rfl (by decide)) d_R_w p_lk_s1 r_x4 (d_s1 l4 rfl (by decide)) (fun {x0} {x1} {x2} {x3} {x4} {ls} hF r_x0 l0 r_x1 l1 r_x2 l2 r_x3 l3 r_x4 l4 => ih hF r_x0 l0 r_x1 l1 r_x2 l2 r_x3 l3 r_x4 l4)
      · refine dw_eq_n rfl (u := 34) rfl d_R_t (d_rl rfl) q ?_
        refine dw_il rfl (d_s1 l4 rfl (by decide)) (dw_iln rfl (d_s1 l1 rfl (by decide)) (dw_ic rfl (dw_sub rfl (dw_w1 (?_)))))
        refine d_if hF (fun q hF => ?_) (fun q hF => ?_)
        · refine dw_ne_y rfl (u := 42) rfl r_x4 d_R_w q ?_
          exact D_X11_narrowest_j34 hF r_x0 (d_s1 l0 rfl (by decide)) r_x1 (d_s1 l1 rfl (by decide)) r_x2 (d_s1 l2 rfl (by decide)) d_R_w p_lk_s1 r_x4 (d_s1 l4 rfl (by decide)) (fun {x0} {x1} {x2} {x3} {x4} {ls} hF r_x0 l0 r_x1 l1 r_x2 l2 r_x3 l3 r_x4 l4 => ih hF r_x0 l0 r_x1 l1 r_x2 l2 r_x3 l3 r_x4 l4)
        · refine dw_ne_n rfl (u := 42) rfl r_x4 d_R_w q ?_
          refine dw_ii rfl (d_s1 l4 rfl (by decide)) rfl (dw_go rfl (u := 7) rfl (?_))
          exact ih hF r_x0 (d_s1 (d_s1 l0 rfl (by decide)) rfl (by decide)) r_x1 (d_s1 (d_s1 l1 rfl (by decide)) rfl (by decide)) r_x2 (d_s1 (d_s1 l2 rfl (by decide)) rfl (by decide)) d_R_w (d_s1 p_lk_s1 rfl (by decide)) d_R_w p_lk_s1
    · refine dw_ge_n rfl (u := 48) rfl r_x4 r_x1 q ?_
      exact dw_iln rfl l2 (dw_rP rfl rfl r_x2 hF)
set_option maxRecDepth 100000 in
noncomputable def F_X11_narrowest (x0 : Int) (x1 : Int) : Option (Int) :=
  F_X11_narrowest_l7 d_N x0 x1 x1 0 0
set_option maxRecDepth 100000 in
theorem D_X11_narrowest {h : p_H} {x0 : Int} {x1 : Int} {r : Int} (hF : F_X11_narrowest x0 x1 = some r) (r_x0 : d_R x0) (r_x1 : d_R x1) : p_wp p_GT p_MT 1 m_X11_narrowest 0 (lv_args 0 [.int (Int32.ofInt x0), .int (Int32.ofInt x1)]) [] h (d_QP h r) := by
  unfold F_X11_narrowest at hF
  refine dw_iln rfl rfl (dw_isn rfl rfl (dw_ic rfl (dw_isn rfl rfl (dw_ic rfl (dw_is rfl rfl (?_))))))
  exact D_X11_narrowest_l7 _ hF r_x0 (d_s1 (d_s1 (d_s1 rfl rfl (by decide)) rfl (by decide)) rfl (by decide)) r_x1 (d_s1 (d_s1 (d_s1 rfl rfl (by decide)) rfl (by decide)) rfl (by decide)) r_x1 (d_s1 (d_s1 p_lk_s1 rfl (by decide)) rfl (by decide)) (d_rl rfl) (d_s1 p_lk_s1 rfl (by decide)) (d_rl rfl) p_lk_s1
set_option maxRecDepth 100000 in
noncomputable def F_X11_findLevelSets_j94 (k50 : Int → Int → Int → Int → d_S → Option (d_S)) (x1 : Int) (x2 : Int) (x3 : Int) (x4 : Int) (s : d_S) : Option (d_S) :=
  d_g (0 ≤ x4 ∧ x4 < 9) (d_l (d_si s 63 ((x4).toNat) x2) (fun s5 => k50 x1 x2 x3 (d_w (x4 + 1)) s5))
set_option maxRecDepth 100000 in
theorem D_X11_findLevelSets_j94 {t : Nat → Option p_C} {h : p_H} {s : d_S} {k50 : Int → Int → Int → Int → d_S → Option (d_S)} {x1 : Int} {x2 : Int} {x3 : Int} {x4 : Int} {r : d_S} {ls : p_Ls} (hF : F_X11_findLevelSets_j94 k50 x1 x2 x3 x4 s = some r) (hH : d_V t h s) (l0 : p_lk 0 ls = some (.ref 2)) (r_x1 : d_R x1) (l1 : p_lk 1 ls = some (.int (Int32.ofInt x1))) (r_x2 : d_R x2) (l2 : p_lk 2 ls = some (.int (Int32.ofInt x2))) (r_x3 : d_R x3) (l3 : p_lk 3 ls = some (.int (Int32.ofInt x3))) (r_x4 : d_R x4) (l4 : p_lk 4 ls = some (.int (Int32.ofInt x4))) (hk50 : ∀ {x1 : Int} {x2 : Int} {x3 : Int} {x4 : Int} {ls : p_Ls} {s : d_S} {h : p_H}, k50 x1 x2 x3 x4 s = some r → d_V t h s → p_lk 0 ls = some (.ref 2) → d_R x1 → p_lk 1 ls = some (.int (Int32.ofInt x1)) → d_R x2 → p_lk 2 ls = some (.int (Int32.ofInt x2)) → d_R x3 → p_lk 3 ls = some (.int (Int32.ofInt x3)) → d_R x4 → p_lk 4 ls = some (.int (Int32.ofInt x4)) → p_wp p_GT p_MT 2 m_X11_findLevelSets 50 ls [] h (d_QV t r)) : p_wp p_GT p_MT 2 m_X11_findLevelSets 94 ls [] h (d_QV t r) := by
  unfold F_X11_findLevelSets_j94 at hF
  refine dw_aln rfl l0 (dw_gr rfl rfl rfl hH d_c2_9 (dw_il rfl l4 (dw_iln rfl l2 (d_gd hF (fun g4 hF => dw_ast rfl hH d_a63 g4.1 g4.2 r_x4 rfl r_x2 hF (fun s5 h5 hH5 hF => dw_ii rfl l4 rfl (dw_go rfl (u := 50) rfl (?_))))))))
  exact hk50 hF hH5 (d_s1 l0 rfl (by decide)) r_x1 (d_s1 l1 rfl (by decide)) r_x2 (d_s1 l2 rfl (by decide)) r_x3 (d_s1 l3 rfl (by decide)) d_R_w p_lk_s1
set_option maxRecDepth 100000 in
noncomputable def F_X11_findLevelSets_l50_b (k108 : Int → Int → d_S → Option (d_S)) (rec : Int → Int → Int → Int → d_S → Option (d_S)) (x1 : Int) (x2 : Int) (x3 : Int) (x4 : Int) (s : d_S) : Option (d_S) :=
  if x3 < x4 then
  k108 x1 x2 s
  else
  if x4 < 9 then
  d_g (0 ≤ x4 ∧ x4 < 9) (if (s.1 63 (x4.toNat)) = (-1) then
  F_X11_findLevelSets_j94 rec x1 x2 x3 x4 s
  else
  d_b (F_J6_bitCount_0f7a4 x2) (fun v6 => d_g (0 ≤ x4 ∧ x4 < 9) (d_b (F_J6_bitCount_0f7a4 (s.1 63 (x4.toNat))) (fun v8 => if v8 < v6 then
  F_X11_findLevelSets_j94 rec x1 x2 x3 x4 s
  else
  rec x1 x2 x3 (d_w (x4 + 1)) s))))
  else
  k108 x1 x2 s
set_option maxRecDepth 100000 in
noncomputable def F_X11_findLevelSets_l50 (k108 : Int → Int → d_S → Option (d_S)) : Nat → Int → Int → Int → Int → d_S → Option (d_S)
  | 0 => fun _ _ _ _ _ => none
  | n + 1 => F_X11_findLevelSets_l50_b k108 (F_X11_findLevelSets_l50 k108 n)
set_option maxRecDepth 100000 in
theorem D_X11_findLevelSets_l50 {t : Nat → Option p_C} {k108 : Int → Int → d_S → Option (d_S)} {r : d_S} (hk108 : ∀ {x1 : Int} {x2 : Int} {ls : p_Ls} {s : d_S} {h : p_H}, k108 x1 x2 s = some r → d_V t h s → p_lk 0 ls = some (.ref 2) → d_R x1 → p_lk 1 ls = some (.int (Int32.ofInt x1)) → d_R x2 → p_lk 2 ls = some (.int (Int32.ofInt x2)) → p_wp p_GT p_MT 2 m_X11_findLevelSets 108 ls [] h (d_QV t r)) : ∀ (n : Nat) {x1 : Int} {x2 : Int} {x3 : Int} {x4 : Int} {ls : p_Ls} {s : d_S} {h : p_H}, F_X11_findLevelSets_l50 k108 n x1 x2 x3 x4 s = some r → d_V t h s → p_lk 0 ls = some (.ref 2) → d_R x1 → p_lk 1 ls = some (.int (Int32.ofInt x1)) → d_R x2 → p_lk 2 ls = some (.int (Int32.ofInt x2)) → d_R x3 → p_lk 3 ls = some (.int (Int32.ofInt x3)) → d_R x4 → p_lk 4 ls = some (.int (Int32.ofInt x4)) → p_wp p_GT p_MT 2 m_X11_findLevelSets 50 ls [] h (d_QV t r) := by
  intro n
  induction n with
  | zero =>
    intro x1 x2 x3 x4 ls s h hF hH l0 r_x1 l1 r_x2 l2 r_x3 l3 r_x4 l4
    cases (show (none : Option (d_S)) = some r from hF)
  | succ n ih =>
    intro x1 x2 x3 x4 ls s h hF hH l0 r_x1 l1 r_x2 l2 r_x3 l3 r_x4 l4
    have hF : F_X11_findLevelSets_l50_b k108 (F_X11_findLevelSets_l50 k108 n) x1 x2 x3 x4 s = some r := hF
    unfold F_X11_findLevelSets_l50_b at hF
    refine dw_il rfl l4 (dw_iln rfl l3 (?_))
    refine d_if hF (fun q hF => ?_) (fun q hF => ?_)
    · refine dw_gt_y rfl (u := 108) rfl r_x4 r_x3 q ?_
      exact hk108 hF hH l0 r_x1 l1 r_x2 l2
    · refine dw_gt_n rfl (u := 108) rfl r_x4 r_x3 q ?_
      refine dw_il rfl l4 (dw_aln rfl l0 (dw_gr rfl rfl rfl hH d_c2_9 (dw_len rfl hH d_a63 rfl (z := 9) rfl (?_))))
      refine d_if hF (fun q hF => ?_) (fun q hF => ?_)
      · refine dw_ge_y rfl (u := 108) rfl r_x4 (d_rl rfl) q ?_
        refine dw_aln rfl l0 (dw_gr rfl rfl rfl hH d_c2_9 (dw_il rfl l4 (d_gd hF (fun g3 hF => dw_ald rfl hH d_a63 rfl g3.1 g3.2 r_x4 rfl (dw_ic rfl (?_))))))
        refine d_if hF (fun q hF => ?_) (fun q hF => ?_)
        · refine dw_eq_y rfl (u := 94) rfl hH.r (d_rl rfl) q ?_
          exact D_X11_findLevelSets_j94 hF hH l0 r_x1 l1 r_x2 l2 r_x3 l3 r_x4 l4 (fun {x1} {x2} {x3} {x4} {ls} {s} {h} hF hH l0 r_x1 l1 r_x2 l2 r_x3 l3 r_x4 l4 => ih hF hH l0 r_x1 l1 r_x2 l2 r_x3 l3 r_x4 l4)
        · refine dw_eq_n rfl (u := 94) rfl hH.r (d_rl rfl) q ?_
          refine dw_iln rfl l2 (dw_sP hF rfl rfl rfl rfl rfl (dc := 0) (fun _ e => D_J6_bitCount_0f7a4 e r_x2) (fun v6 r_v6 hF => dw_aln rfl l0 (dw_gr rfl rfl rfl hH d_c2_9 (dw_il rfl l4 (d_gd hF (fun g7 hF => dw_ald rfl hH d_a63 rfl g7.1 g7.2 r_x4 rfl (dw_sP hF rfl rfl rfl rfl rfl (dc := 0) (fun _ e => D_J6_bitCount_0f7a4 e hH.r) (fun v8 r_v8 hF => ?_))))))))
          refine d_if hF (fun q hF => ?_) (fun q hF => ?_)
          · refine dw_le_y rfl (u := 102) rfl r_v6 r_v8 q ?_
            exact D_X11_findLevelSets_j94 hF hH l0 r_x1 l1 r_x2 l2 r_x3 l3 r_x4 l4 (fun {x1} {x2} {x3} {x4} {ls} {s} {h} hF hH l0 r_x1 l1 r_x2 l2 r_x3 l3 r_x4 l4 => ih hF hH l0 r_x1 l1 r_x2 l2 r_x3 l3 r_x4 l4)
          · refine dw_le_n rfl (u := 102) rfl r_v6 r_v8 q ?_
            refine dw_ii rfl l4 rfl (dw_go rfl (u := 50) rfl (?_))
            exact ih hF hH (d_s1 l0 rfl (by decide)) r_x1 (d_s1 l1 rfl (by decide)) r_x2 (d_s1 l2 rfl (by decide)) r_x3 (d_s1 l3 rfl (by decide)) d_R_w p_lk_s1
      · refine dw_ge_n rfl (u := 108) rfl r_x4 (d_rl rfl) q ?_
        exact hk108 hF hH l0 r_x1 l1 r_x2 l2
set_option maxRecDepth 100000 in
noncomputable def F_X11_findLevelSets_l10_b (rec : Int → Int → d_S → Option (d_S)) (x1 : Int) (x2 : Int) (s : d_S) : Option (d_S) :=
  if x2 < (d_shl 1 ((s.1 3 1) - 1)) then
  if (d_and x2 x1) = 0 then
  d_b (F_X11_narrowest x2 (s.1 3 1)) (fun v2 => F_X11_findLevelSets_l50 (fun x1_u9 x2_u9 s_u9 =>
  rec x1_u9 (d_w (x2_u9 + 1)) s_u9) d_N x1 x2 v2 1 s)
  else
  F_X11_findLevelSets_l50 (fun x1_u10 x2_u10 s_u10 =>
  rec x1_u10 (d_w (x2_u10 + 1)) s_u10) d_N x1 x2 0 1 s
  else
  some s
set_option maxRecDepth 100000 in
noncomputable def F_X11_findLevelSets_l10 : Nat → Int → Int → d_S → Option (d_S)
  | 0 => fun _ _ _ => none
  | n + 1 => F_X11_findLevelSets_l10_b (F_X11_findLevelSets_l10 n)
set_option maxRecDepth 100000 in
theorem D_X11_findLevelSets_l10 {t : Nat → Option p_C} {r : d_S} : ∀ (n : Nat) {x1 : Int} {x2 : Int} {ls : p_Ls} {s : d_S} {h : p_H}, F_X11_findLevelSets_l10 n x1 x2 s = some r → d_V t h s → p_lk 0 ls = some (.ref 2) → d_R x1 → p_lk 1 ls = some (.int (Int32.ofInt x1)) → d_R x2 → p_lk 2 ls = some (.int (Int32.ofInt x2)) → p_wp p_GT p_MT 2 m_X11_findLevelSets 10 ls [] h (d_QV t r) := by
  intro n
  induction n with
  | zero =>
    intro x1 x2 ls s h hF hH l0 r_x1 l1 r_x2 l2
    cases (show (none : Option (d_S)) = some r from hF)
  | succ n ih =>
    intro x1 x2 ls s h hF hH l0 r_x1 l1 r_x2 l2
    have hF : F_X11_findLevelSets_l10_b (F_X11_findLevelSets_l10 n) x1 x2 s = some r := hF
    unfold F_X11_findLevelSets_l10_b at hF
    refine dw_iln rfl l2 (dw_ic rfl (dw_aln rfl l0 (dw_gr rfl rfl rfl hH d_c2_0 (dw_gi (k := 1) rfl rfl rfl hH d_c3_1 (dw_ic rfl (dw_sub rfl (dw_shl rfl (?_))))))))
    refine d_if hF (fun q hF => ?_) (fun q hF => ?_)
    · refine dw_ge_y rfl (u := 114) rfl r_x2 d_R_t q ?_
      refine dw_iln rfl l2 (dw_iln rfl l1 (dw_and rfl (?_)))
      refine d_if hF (fun q hF => ?_) (fun q hF => ?_)
      · refine dw_zne_y rfl (u := 45) rfl d_R_t q ?_
        refine dw_iln rfl l2 (dw_aln rfl l0 (dw_gr rfl rfl rfl hH d_c2_0 (dw_gi (k := 1) rfl rfl rfl hH d_c3_1 (dw_sP hF rfl rfl rfl rfl rfl (dc := 1) (fun _ e => D_X11_narrowest e r_x2 hH.r) (fun v2 r_v2 hF => dw_go rfl (u := 46) rfl (dw_isn rfl rfl (dw_ic rfl (dw_is rfl rfl (?_)))))))))
        refine D_X11_findLevelSets_l50 (fun {x1_u9} {x2_u9} {ls_u9} {s_u9} {h_u9} hF hH_u9 l0_u9 r_x1_u9 l1_u9 r_x2_u9 l2_u9 => ?_) _ hF hH (d_s1 (d_s1 l0 rfl (by decide)) rfl (by decide)) r_x1 (d_s1 (d_s1 l1 rfl (by decide)) rfl (by decide)) r_x2 (d_s1 (d_s1 l2 rfl (by decide)) rfl (by decide)) r_v2 (d_s1 p_lk_s1 rfl (by decide)) (d_rl rfl) p_lk_s1
        · refine dw_ii rfl l2_u9 rfl (dw_go rfl (u := 10) rfl (?_))
          exact ih hF hH_u9 (d_s1 l0_u9 rfl (by decide)) r_x1_u9 (d_s1 l1_u9 rfl (by decide)) d_R_w p_lk_s1
      · refine dw_zne_n rfl (u := 45) rfl d_R_t q ?_
        refine dw_ic rfl (dw_isn rfl rfl (dw_ic rfl (dw_is rfl rfl (?_))))
        refine D_X11_findLevelSets_l50 (fun {x1_u10} {x2_u10} {ls_u10} {s_u10} {h_u10} hF hH_u10 l0_u10 r_x1_u10 l1_u10 r_x2_u10 l2_u10 => ?_) _ hF hH (d_s1 (d_s1 l0 rfl (by decide)) rfl (by decide)) r_x1 (d_s1 (d_s1 l1 rfl (by decide)) rfl (by decide)) r_x2 (d_s1 (d_s1 l2 rfl (by decide)) rfl (by decide)) (d_rl rfl) (d_s1 p_lk_s1 rfl (by decide)) (d_rl rfl) p_lk_s1
        · refine dw_ii rfl l2_u10 rfl (dw_go rfl (u := 10) rfl (?_))
          exact ih hF hH_u10 (d_s1 l0_u10 rfl (by decide)) r_x1_u10 (d_s1 l1_u10 rfl (by decide)) d_R_w p_lk_s1
    · refine dw_ge_n rfl (u := 114) rfl r_x2 d_R_t q ?_
      exact dw_rV rfl rfl hH hF
set_option maxRecDepth 100000 in
noncomputable def F_X11_findLevelSets (s : d_S) (x1 : Int) : Option (d_S) :=
  d_b (F_J7_fill_53178_63 s (-1)) (fun s1 => F_X11_findLevelSets_l10 d_N x1 0 s1)
set_option maxRecDepth 100000 in
theorem D_X11_findLevelSets {t : Nat → Option p_C} {h : p_H} {s : d_S} {x1 : Int} {r : d_S} (hF : F_X11_findLevelSets s x1 = some r) (hH : d_V t h s) (r_x1 : d_R x1) : p_wp p_GT p_MT 2 m_X11_findLevelSets 0 (lv_args 0 [.ref 2, .int (Int32.ofInt x1)]) [] h (d_QV t r) := by
  unfold F_X11_findLevelSets at hF
  refine dw_aln rfl rfl (dw_gr rfl rfl rfl hH d_c2_9 (dw_ic rfl (dw_sV hF rfl rfl rfl rfl rfl (dc := 0) (fun _ e => D_J7_fill_53178_63 e hH (d_rl rfl)) (fun s1 h1 hH1 hF => dw_ic rfl (dw_isn rfl rfl (?_))))))
  exact D_X11_findLevelSets_l10 _ hF hH1 (d_s1 rfl rfl (by decide)) r_x1 (d_s1 rfl rfl (by decide)) (d_rl rfl) p_lk_s1
set_option maxRecDepth 100000 in
noncomputable def F_X11_levelSetFor (s : d_S) (x1 : Int) (x2 : Int) : Option (Int) :=
  if 0 < x1 then
  d_g (¬ x1 = 0) (d_l (d_div ((x2 + x1) - 1) x1) (fun z2 => d_b (F_X11_within z2 1 (d_w (9 - 1))) (fun v3 => if v3 = 0 then
  some (-1)
  else
  d_g (0 ≤ z2 ∧ z2 < 9) (some (s.1 63 (z2.toNat))))))
  else
  d_b (F_X11_within 0 1 (d_w (9 - 1))) (fun v5 => if v5 = 0 then
  some (-1)
  else
  some (s.1 63 0))
set_option maxRecDepth 100000 in
theorem D_X11_levelSetFor {t : Nat → Option p_C} {h : p_H} {s : d_S} {x1 : Int} {x2 : Int} {r : Int} (hF : F_X11_levelSetFor s x1 x2 = some r) (hH : d_V t h s) (r_x1 : d_R x1) (r_x2 : d_R x2) : p_wp p_GT p_MT 1 m_X11_levelSetFor 0 (lv_args 0 [.ref 2, .int (Int32.ofInt x1), .int (Int32.ofInt x2)]) [] h (d_QP h r) := by
  unfold F_X11_levelSetFor at hF
  refine dw_iln rfl rfl (?_)
  refine d_if hF (fun q hF => ?_) (fun q hF => ?_)
  · refine dw_zle_y rfl (u := 14) rfl r_x1 q ?_
    refine dw_iln rfl rfl (dw_iln rfl rfl (dw_add rfl (dw_ic rfl (dw_sub rfl (dw_iln rfl rfl (d_gd hF (fun g1 hF => dw_div rfl r_x1 g1 (dw_go rfl (u := 15) rfl (dw_nm hF d_R_t (fun z2 r_z2 hF => ?_))))))))))
    refine dw_isn rfl rfl (dw_iln rfl p_lk_s1 (dw_ic rfl (dw_aln rfl (d_s1 rfl rfl (by decide)) (dw_gr rfl rfl rfl hH d_c2_9 (dw_len rfl hH d_a63 rfl (z := 9) rfl (dw_ic rfl (dw_sub rfl (dw_w1 (dw_sB hF rfl rfl rfl rfl rfl (dc := 0) (fun _ e => D_X11_within e r_z2 (d_rl rfl) d_R_w) (fun v3 r_v3 hF => ?_))))))))))
    refine d_if hF (fun q hF => ?_) (fun q hF => ?_)
    · refine dw_zeq_y rfl (u := 40) rfl (d_R_b r_v3) q ?_
      exact dw_ic rfl (dw_rP rfl rfl (d_rl rfl) hF)
    · refine dw_zeq_n rfl (u := 40) rfl (d_R_b r_v3) q ?_
      exact dw_aln rfl (d_s1 rfl rfl (by decide)) (dw_gr rfl rfl rfl hH d_c2_9 (dw_iln rfl p_lk_s1 (d_gd hF (fun g4 hF => dw_ald rfl hH d_a63 rfl g4.1 g4.2 r_z2 rfl (dw_go rfl (u := 41) rfl (dw_rP rfl rfl hH.r hF))))))
  · refine dw_zle_n rfl (u := 14) rfl r_x1 q ?_
    refine dw_ic rfl (dw_isn rfl rfl (dw_iln rfl p_lk_s1 (dw_ic rfl (dw_aln rfl (d_s1 rfl rfl (by decide)) (dw_gr rfl rfl rfl hH d_c2_9 (dw_len rfl hH d_a63 rfl (z := 9) rfl (dw_ic rfl (dw_sub rfl (dw_w1 (?_))))))))))
    refine dw_sB hF rfl rfl rfl rfl rfl (dc := 0) (fun _ e => D_X11_within e (d_rl rfl) (d_rl rfl) d_R_w) (fun v5 r_v5 hF => ?_)
    refine d_if hF (fun q hF => ?_) (fun q hF => ?_)
    · refine dw_zeq_y rfl (u := 40) rfl (d_R_b r_v5) q ?_
      exact dw_ic rfl (dw_rP rfl rfl (d_rl rfl) hF)
    · refine dw_zeq_n rfl (u := 40) rfl (d_R_b r_v5) q ?_
      exact dw_aln rfl (d_s1 rfl rfl (by decide)) (dw_gr rfl rfl rfl hH d_c2_9 (dw_iln rfl p_lk_s1 (dw_ald rfl hH d_a63 rfl (by decide) (by decide) (d_rl rfl) (k := 0) rfl (dw_go rfl (u := 41) rfl (dw_rP rfl rfl hH.r hF)))))

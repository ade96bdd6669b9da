set_option maxRecDepth 100000 in
noncomputable def F_X11_unseen_l46_b (t : Nat → Option p_C) (rec : Int → Int → Int → d_S → Option (Int × d_S)) (x3 : Int) (x4 : Int) (x5 : Int) (s : d_S) : Option (Int × d_S) :=
  if x5 < (s.1 37 5) then
  d_b (F_X10_isSold_6 s x5) (fun v3 => if v3 = 0 then
  d_b (F_X4_sightsIn_3 s x5) (fun v4 => if (d_and v4 x3) = 0 then
  rec x3 x4 (d_w (x5 + 1)) s
  else
  d_b2 (F_X11_sellsNow t s x5) (fun v5 s6 => rec x3 (d_w (x4 + v5)) (d_w (x5 + 1)) s6))
  else
  rec x3 x4 (d_w (x5 + 1)) s)
  else
  some (x4, s)
set_option maxRecDepth 100000 in
noncomputable def F_X11_unseen_l46 (t : Nat → Option p_C) : Nat → Int → Int → Int → d_S → Option (Int × d_S)
  | 0 => fun _ _ _ _ => none
  | n + 1 => F_X11_unseen_l46_b t (F_X11_unseen_l46 t n)
set_option maxRecDepth 100000 in
theorem D_X11_unseen_l46 {t : Nat → Option p_C} {r : Int × d_S} : ∀ (n : Nat) {x3 : Int} {x4 : Int} {x5 : Int} {ls : p_Ls} {s : d_S} {h : p_H}, F_X11_unseen_l46 t n x3 x4 x5 s = some r → d_V t h s → p_lk 0 ls = some (.ref 2) → d_R x3 → p_lk 3 ls = some (.int (Int32.ofInt x3)) → d_R x4 → p_lk 4 ls = some (.int (Int32.ofInt x4)) → d_R x5 → p_lk 5 ls = some (.int (Int32.ofInt x5)) → p_wp p_GT p_MT 5 m_X11_unseen 46 ls [] h (d_QI t r) := by
  intro n
  induction n with
  | zero =>
    intro x3 x4 x5 ls s h hF hH l0 r_x3 l3 r_x4 l4 r_x5 l5
    cases (show (none : Option (Int × d_S)) = some r from hF)
  | succ n ih =>
    intro x3 x4 x5 ls s h hF hH l0 r_x3 l3 r_x4 l4 r_x5 l5
    have hF : F_X11_unseen_l46_b t (F_X11_unseen_l46 t n) x3 x4 x5 s = some r := hF
    unfold F_X11_unseen_l46_b at hF
    refine dw_il rfl l5 (dw_aln rfl l0 (dw_gr rfl rfl rfl hH d_c2_2 (dw_gi (k := 5) rfl rfl rfl hH d_c37_5 (?_))))
    refine d_if hF (fun q hF => ?_) (fun q hF => ?_)
    · refine dw_ge_y rfl (u := 108) rfl r_x5 hH.r q ?_
      refine dw_aln rfl l0 (dw_gr rfl rfl rfl hH d_c2_0 (dw_gr rfl rfl rfl hH d_c3_8 (dw_il rfl l5 (dw_vB hF rfl (d_vir (n := 2) rfl rfl rfl rfl rfl hH d_c6_0 rfl) rfl rfl rfl (dc := 1) (fun _ e => D_X10_isSold_6 e hH r_x5) (fun v3 r_v3 hF => ?_)))))
      refine d_if hF (fun q hF => ?_) (fun q hF => ?_)
      · refine dw_zne_y rfl (u := 102) rfl (d_R_b r_v3) q ?_
        refine dw_aln rfl l0 (dw_gr rfl rfl rfl hH d_c2_2 (dw_aln rfl l0 (dw_gr rfl rfl rfl hH d_c2_0 (dw_il rfl l5 (dw_vP hF rfl (d_vir (n := 3) rfl rfl rfl rfl rfl hH d_c37_0 rfl) rfl rfl rfl (dc := 2) (fun _ e => D_X4_sightsIn_3 e hH r_x5) (fun v4 r_v4 hF => dw_iln rfl l3 (dw_and rfl (?_))))))))
        refine d_if hF (fun q hF => ?_) (fun q hF => ?_)
        · refine dw_zeq_y rfl (u := 102) rfl d_R_t q ?_
          refine dw_ii rfl l5 rfl (dw_go rfl (u := 46) rfl (?_))
          exact ih hF hH (d_s1 l0 rfl (by decide)) r_x3 (d_s1 l3 rfl (by decide)) r_x4 (d_s1 l4 rfl (by decide)) d_R_w p_lk_s1
        · refine dw_zeq_n rfl (u := 102) rfl d_R_t q ?_
          refine dw_il rfl l4 (dw_aln rfl l0 (dw_il rfl l5 (dw_vI hF rfl (d_vir (n := 2) rfl rfl rfl rfl rfl hH d_c2_0 rfl) rfl rfl rfl (dc := 4) (fun _ _ e => D_X11_sellsNow e hH r_x5) (fun v5 s6 h6 hH6 r_v5 hF => dw_add rfl (dw_w1 (dw_is rfl rfl (dw_ii rfl (d_s1 l5 rfl (by decide)) rfl (dw_go rfl (u := 46) rfl (?_)))))))))
          exact ih hF hH6 (d_s1 (d_s1 l0 rfl (by decide)) rfl (by decide)) r_x3 (d_s1 (d_s1 l3 rfl (by decide)) rfl (by decide)) d_R_w (d_s1 p_lk_s1 rfl (by decide)) d_R_w p_lk_s1
      · refine dw_zne_n rfl (u := 102) rfl (d_R_b r_v3) q ?_
        refine dw_ii rfl l5 rfl (dw_go rfl (u := 46) rfl (?_))
        exact ih hF hH (d_s1 l0 rfl (by decide)) r_x3 (d_s1 l3 rfl (by decide)) r_x4 (d_s1 l4 rfl (by decide)) d_R_w p_lk_s1
    · refine dw_ge_n rfl (u := 108) rfl r_x5 hH.r q ?_
      exact dw_il rfl l4 (dw_rI rfl rfl r_x4 hH hF)
set_option maxRecDepth 100000 in
noncomputable def F_X11_unseen (t : Nat → Option p_C) (s : d_S) (x1 : Int) (x2 : Int) : Option (Int × d_S) :=
  d_b (F_X11_within x1 0 9) (fun v1 => if v1 = 0 then
  some ((-1), s)
  else
  d_b (F_X11_sightsOf s x1) (fun v2 => if x2 = 0 then
  F_X11_unseen_l46 t d_N v2 0 0 s
  else
  d_b (F_X11_showingNow s) (fun v7 => if (d_and v7 v2) = 0 then
  d_b (F_X11_bit 0) (fun v8 => some (v8, s))
  else
  d_b (F_X11_bit 1) (fun v9 => some (v9, s)))))
set_option maxRecDepth 100000 in
theorem D_X11_unseen {t : Nat → Option p_C} {h : p_H} {s : d_S} {x1 : Int} {x2 : Int} {r : Int × d_S} (hF : F_X11_unseen t s x1 x2 = some r) (hH : d_V t h s) (r_x1 : d_R x1) (r_x2 : d_R x2) : p_wp p_GT p_MT 5 m_X11_unseen 0 (lv_args 0 [.ref 2, .int (Int32.ofInt x1), .int (Int32.ofInt x2)]) [] h (d_QI t r) := by
  unfold F_X11_unseen at hF
  refine dw_iln rfl rfl (dw_ic rfl (dw_bp rfl rfl (dw_sB hF rfl rfl rfl rfl rfl (dc := 0) (fun _ e => D_X11_within e r_x1 (d_rl rfl) (d_rl rfl)) (fun v1 r_v1 hF => ?_))))
  refine d_if hF (fun q hF => ?_) (fun q hF => ?_)
  · refine dw_zne_y rfl (u := 12) rfl (d_R_b r_v1) q ?_
    exact dw_ic rfl (dw_rI rfl rfl (d_rl rfl) hH hF)
  · refine dw_zne_n rfl (u := 12) rfl (d_R_b r_v1) q ?_
    refine dw_aln rfl rfl (dw_iln rfl rfl (dw_vP hF rfl (d_vir (n := 2) rfl rfl rfl rfl rfl hH d_c2_0 rfl) rfl rfl rfl (dc := 1) (fun _ e => D_X11_sightsOf e hH r_x1) (fun v2 r_v2 hF => dw_isn rfl rfl (dw_iln rfl (d_s1 rfl rfl (by decide)) (?_)))))
    refine d_if hF (fun q hF => ?_) (fun q hF => ?_)
    · refine dw_zeq_y rfl (u := 40) rfl r_x2 q ?_
      refine dw_ic rfl (dw_is rfl rfl (dw_ic rfl (dw_is rfl rfl (?_))))
      exact D_X11_unseen_l46 _ hF hH (d_s1 (d_s1 (d_s1 rfl rfl (by decide)) rfl (by decide)) rfl (by decide)) r_v2 (d_s1 (d_s1 p_lk_s1 rfl (by decide)) rfl (by decide)) (d_rl rfl) (d_s1 p_lk_s1 rfl (by decide)) (d_rl rfl) p_lk_s1
    · refine dw_zeq_n rfl (u := 40) rfl r_x2 q ?_
      refine dw_aln rfl (d_s1 rfl rfl (by decide)) (dw_vP hF rfl (d_vir (n := 1) rfl rfl rfl rfl rfl hH d_c2_0 rfl) rfl rfl rfl (dc := 3) (fun _ e => D_X11_showingNow e hH) (fun v7 r_v7 hF => dw_iln rfl p_lk_s1 (dw_and rfl (?_))))
      refine d_if hF (fun q hF => ?_) (fun q hF => ?_)
      · refine dw_zeq_y rfl (u := 35) rfl d_R_t q ?_
        exact dw_ic rfl (dw_sP hF rfl rfl rfl rfl rfl (dc := 0) (fun _ e => D_X11_bit e (d_rl rfl)) (fun v8 r_v8 hF => dw_rI rfl rfl r_v8 hH hF))
      · refine dw_zeq_n rfl (u := 35) rfl d_R_t q ?_
        exact dw_ic rfl (dw_go rfl (u := 36) rfl (dw_sP hF rfl rfl rfl rfl rfl (dc := 0) (fun _ e => D_X11_bit e (d_rl rfl)) (fun v9 r_v9 hF => dw_rI rfl rfl r_v9 hH hF)))
set_option maxRecDepth 100000 in
noncomputable def F_X8_none_16 (s : d_S) : Option (Int × d_S) :=
  d_l (d_si s 16 2 0) (fun s1 => some (0, s1))
set_option maxRecDepth 100000 in
theorem D_X8_none_16 {t : Nat → Option p_C} {h : p_H} {s : d_S} {r : Int × d_S} (hF : F_X8_none_16 s = some r) (hH : d_V t h s) : p_wp p_GT p_MT 0 m_X8_none 0 (lv_args 0 [.ref 16]) [] h (d_QI t r) := by
  unfold F_X8_none_16 at hF
  exact dw_aln rfl rfl (dw_ic rfl (dw_pi (k := 2) rfl rfl rfl rfl hH d_c16_2 (d_rl rfl) (by decide) hF (fun s1 h1 hH1 hF => dw_ic rfl (dw_rI rfl rfl (d_rl rfl) hH1 hF))))
set_option maxRecDepth 100000 in
noncomputable def F_X8_add_16 (s : d_S) (x1 : Int) (x2 : Int) (x3 : Int) (x4 : Int) : Option (Int × d_S) :=
  if (s.1 16 2) < (s.1 16 0) then
  if (d_w ((s.1 16 2) * 4)) < 0 then
  some ((-2), s)
  else
  if 32 < (d_w ((d_w ((s.1 16 2) * 4)) + 4)) then
  some ((-2), s)
  else
  d_g (0 ≤ (d_w ((s.1 16 2) * 4)) ∧ (d_w ((s.1 16 2) * 4)) < 32) (d_l (d_si s 17 (((d_w ((s.1 16 2) * 4))).toNat) x1) (fun s2 => d_g (0 ≤ (d_w ((d_w ((s.1 16 2) * 4)) + 1)) ∧ (d_w ((d_w ((s.1 16 2) * 4)) + 1)) < 32) (d_l (d_si s2 17 (((d_w ((d_w ((s.1 16 2) * 4)) + 1))).toNat) x2) (fun s4 => d_g (0 ≤ (d_w ((d_w ((s.1 16 2) * 4)) + 2)) ∧ (d_w ((d_w ((s.1 16 2) * 4)) + 2)) < 32) (d_l (d_si s4 17 (((d_w ((d_w ((s.1 16 2) * 4)) + 2))).toNat) x3) (fun s6 => d_g (0 ≤ (d_w ((d_w ((s.1 16 2) * 4)) + 3)) ∧ (d_w ((d_w ((s.1 16 2) * 4)) + 3)) < 32) (d_l (d_si s6 17 (((d_w ((d_w ((s.1 16 2) * 4)) + 3))).toNat) x4) (fun s8 => d_l (d_si s8 16 2 (d_w ((s8.1 16 2) + 1))) (fun s9 => some ((s9.1 16 2), s9))))))))))
  else
  some ((-2), s)
set_option maxRecDepth 100000 in
theorem D_X8_add_16 {t : Nat → Option p_C} {h : p_H} {s : d_S} {x1 : Int} {x2 : Int} {x3 : Int} {x4 : Int} {r : Int × d_S} (hF : F_X8_add_16 s x1 x2 x3 x4 = some r) (hH : d_V t h s) (r_x1 : d_R x1) (r_x2 : d_R x2) (r_x3 : d_R x3) (r_x4 : d_R x4) : p_wp p_GT p_MT 0 m_X8_add 0 (lv_args 0 [.ref 16, .int (Int32.ofInt x1), .int (Int32.ofInt x2), .int (Int32.ofInt x3), .int (Int32.ofInt x4)]) [] h (d_QI t r) := by
  unfold F_X8_add_16 at hF
  refine dw_aln rfl rfl (dw_gi (k := 2) rfl rfl rfl hH d_c16_2 (dw_ic rfl (dw_mul rfl (dw_w1 (dw_is rfl rfl (dw_aln rfl (d_s1 rfl rfl (by decide)) (dw_gi (k := 2) rfl rfl rfl hH d_c16_2 (dw_aln rfl (d_s1 rfl rfl (by decide)) (dw_gi (k := 0) rfl rfl rfl hH d_c16_0 (?_))))))))))
  refine d_if hF (fun q hF => ?_) (fun q hF => ?_)
  · refine dw_ge_y rfl (u := 36) rfl hH.r hH.r q ?_
    refine dw_il rfl p_lk_s1 (?_)
    refine d_if hF (fun q hF => ?_) (fun q hF => ?_)
    · refine dw_zlt_y rfl (u := 36) rfl d_R_w q ?_
      exact dw_bp rfl rfl (dw_rI rfl rfl (d_rl rfl) hH hF)
    · refine dw_zlt_n rfl (u := 36) rfl d_R_w q ?_
      refine dw_il rfl p_lk_s1 (dw_ic rfl (dw_add rfl (dw_aln rfl (d_s1 rfl rfl (by decide)) (dw_gr rfl rfl rfl hH d_c16_1 (dw_len rfl hH d_a17 rfl (z := 32) rfl (dw_w2 (?_)))))))
      refine d_if hF (fun q hF => ?_) (fun q hF => ?_)
      · refine dw_le_y rfl (u := 39) rfl d_R_w (d_rl rfl) q ?_
        exact dw_bp rfl rfl (dw_rI rfl rfl (d_rl rfl) hH hF)
      · refine dw_le_n rfl (u := 39) rfl d_R_w (d_rl rfl) q ?_
        refine dw_aln rfl (d_s1 rfl rfl (by decide)) (dw_gr rfl rfl rfl hH d_c16_1 (dw_il rfl p_lk_s1 (dw_iln rfl (d_s1 rfl rfl (by decide)) (d_gd hF (fun g1 hF => dw_ast rfl hH d_a17 g1.1 g1.2 d_R_w rfl r_x1 hF (fun s2 h2 hH2 hF => dw_aln rfl (d_s1 rfl rfl (by decide)) (dw_gr rfl rfl rfl hH2 d_c16_1 (dw_il rfl p_lk_s1 (dw_ic rfl (?_))))))))))
        refine dw_add rfl (dw_iln rfl (d_s1 rfl rfl (by decide)) (dw_w2 (d_gd hF (fun g3 hF => dw_ast rfl hH2 d_a17 g3.1 g3.2 d_R_w rfl r_x2 hF (fun s4 h4 hH4 hF => dw_aln rfl (d_s1 rfl rfl (by decide)) (dw_gr rfl rfl rfl hH4 d_c16_1 (dw_il rfl p_lk_s1 (dw_ic rfl (dw_add rfl (?_))))))))))
        refine dw_iln rfl (d_s1 rfl rfl (by decide)) (dw_w2 (d_gd hF (fun g5 hF => dw_ast rfl hH4 d_a17 g5.1 g5.2 d_R_w rfl r_x3 hF (fun s6 h6 hH6 hF => dw_aln rfl (d_s1 rfl rfl (by decide)) (dw_gr rfl rfl rfl hH6 d_c16_1 (dw_il rfl p_lk_s1 (dw_ic rfl (dw_add rfl (dw_il rfl (d_s1 rfl rfl (by decide)) (?_))))))))))
        refine dw_w2 (d_gd hF (fun g7 hF => dw_ast rfl hH6 d_a17 g7.1 g7.2 d_R_w rfl r_x4 hF (fun s8 h8 hH8 hF => dw_aln rfl (d_s1 rfl rfl (by decide)) (dw_dupr rfl (dw_gi (k := 2) rfl rfl rfl hH8 d_c16_2 (dw_ic rfl (dw_add rfl (dw_w1 (dw_pi (k := 2) rfl rfl rfl rfl hH8 d_c16_2 d_R_w (by decide) hF (fun s9 h9 hH9 hF => ?_))))))))))
        exact dw_aln rfl (d_s1 rfl rfl (by decide)) (dw_gi (k := 2) rfl rfl rfl hH9 d_c16_2 (dw_rI rfl rfl hH9.r hH9 hF))
  · refine dw_ge_n rfl (u := 36) rfl hH.r hH.r q ?_
    exact dw_bp rfl rfl (dw_rI rfl rfl (d_rl rfl) hH hF)
set_option maxRecDepth 100000 in
noncomputable def F_X11_measure (s : d_S) (x1 : Int) (x2 : Int) : Option (Int × d_S) :=
  if x1 = (-1) then
  d_b2 (F_X8_none_16 s) (fun v1 s2 => some (v1, s2))
  else
  d_b (F_X11_within x1 0 999) (fun v3 => if v3 = 0 then
  some ((-2), s)
  else
  d_b (F_X11_within x2 0 100) (fun v4 => if v4 = 0 then
  some ((-2), s)
  else
  d_b2 (F_X8_add_16 s x1 x2 0 0) (fun v5 s6 => some (v5, s6))))
set_option maxRecDepth 100000 in
theorem D_X11_measure {t : Nat → Option p_C} {h : p_H} {s : d_S} {x1 : Int} {x2 : Int} {r : Int × d_S} (hF : F_X11_measure s x1 x2 = some r) (hH : d_V t h s) (r_x1 : d_R x1) (r_x2 : d_R x2) : p_wp p_GT p_MT 1 m_X11_measure 0 (lv_args 0 [.ref 2, .int (Int32.ofInt x1), .int (Int32.ofInt x2)]) [] h (d_QI t r) := by
  unfold F_X11_measure at hF
  refine dw_iln rfl rfl (dw_ic rfl (?_))
  refine d_if hF (fun q hF => ?_) (fun q hF => ?_)
  · refine dw_ne_y rfl (u := 16) rfl r_x1 (d_rl rfl) q ?_
    exact dw_aln rfl rfl (dw_gr rfl rfl rfl hH d_c2_0 (dw_gr rfl rfl rfl hH d_c3_13 (dw_vI hF rfl (d_vir (n := 1) rfl rfl rfl rfl rfl hH d_c16_0 rfl) rfl rfl rfl (dc := 0) (fun _ _ e => D_X8_none_16 e hH) (fun v1 s2 h2 hH2 r_v1 hF => dw_rI rfl rfl r_v1 hH2 hF))))
  · refine dw_ne_n rfl (u := 16) rfl r_x1 (d_rl rfl) q ?_
    refine dw_iln rfl rfl (dw_ic rfl (dw_sp rfl rfl (dw_sB hF rfl rfl rfl rfl rfl (dc := 0) (fun _ e => D_X11_within e r_x1 (d_rl rfl) (d_rl rfl)) (fun v3 r_v3 hF => ?_))))
    refine d_if hF (fun q hF => ?_) (fun q hF => ?_)
    · refine dw_zeq_y rfl (u := 37) rfl (d_R_b r_v3) q ?_
      exact dw_bp rfl rfl (dw_rI rfl rfl (d_rl rfl) hH hF)
    · refine dw_zeq_n rfl (u := 37) rfl (d_R_b r_v3) q ?_
      refine dw_iln rfl rfl (dw_ic rfl (dw_bp rfl rfl (dw_sB hF rfl rfl rfl rfl rfl (dc := 0) (fun _ e => D_X11_within e r_x2 (d_rl rfl) (d_rl rfl)) (fun v4 r_v4 hF => ?_))))
      refine d_if hF (fun q hF => ?_) (fun q hF => ?_)
      · refine dw_zne_y rfl (u := 40) rfl (d_R_b r_v4) q ?_
        exact dw_bp rfl rfl (dw_rI rfl rfl (d_rl rfl) hH hF)
      · refine dw_zne_n rfl (u := 40) rfl (d_R_b r_v4) q ?_
        exact dw_aln rfl rfl (dw_gr rfl rfl rfl hH d_c2_0 (dw_gr rfl rfl rfl hH d_c3_13 (dw_iln rfl rfl (dw_iln rfl rfl (dw_ic rfl (dw_ic rfl (dw_vI hF rfl (d_vir (n := 5) rfl rfl rfl rfl rfl hH d_c16_0 rfl) rfl rfl rfl (dc := 0) (fun _ _ e => D_X8_add_16 e hH r_x1 r_x2 (d_rl rfl) (d_rl rfl)) (fun v5 s6 h6 hH6 r_v5 hF => dw_rI rfl rfl r_v5 hH6 hF))))))))
set_option maxRecDepth 100000 in
noncomputable def F_X8_part_16 (s : d_S) (x1 : Int) (x2 : Int) : Option (Int) :=
  if (d_w ((x1 * 4) + x2)) < 0 then
  some 0
  else
  if (d_w ((x1 * 4) + x2)) < 32 then
  d_g (0 ≤ (d_w ((x1 * 4) + x2)) ∧ (d_w ((x1 * 4) + x2)) < 32) (some (s.1 17 (((d_w ((x1 * 4) + x2))).toNat)))
  else
  some 0
set_option maxRecDepth 100000 in
theorem D_X8_part_16 {t : Nat → Option p_C} {h : p_H} {s : d_S} {x1 : Int} {x2 : Int} {r : Int} (hF : F_X8_part_16 s x1 x2 = some r) (hH : d_V t h s) (r_x1 : d_R x1) (r_x2 : d_R x2) : p_wp p_GT p_MT 0 m_X8_part 0 (lv_args 0 [.ref 16, .int (Int32.ofInt x1), .int (Int32.ofInt x2)]) [] h (d_QP h r) := by
  unfold F_X8_part_16 at hF
  refine dw_iln rfl rfl (dw_ic rfl (dw_mul rfl (dw_iln rfl rfl (dw_add rfl (dw_w1 (dw_isn rfl rfl (dw_iln rfl p_lk_s1 (?_))))))))
  refine d_if hF (fun q hF => ?_) (fun q hF => ?_)
  · refine dw_zlt_y rfl (u := 28) rfl d_R_w q ?_
    exact dw_ic rfl (dw_rP rfl rfl (d_rl rfl) hF)
  · refine dw_zlt_n rfl (u := 28) rfl d_R_w q ?_
    refine dw_iln rfl p_lk_s1 (dw_aln rfl (d_s1 rfl rfl (by decide)) (dw_gr rfl rfl rfl hH d_c16_1 (dw_len rfl hH d_a17 rfl (z := 32) rfl (?_))))
    refine d_if hF (fun q hF => ?_) (fun q hF => ?_)
    · refine dw_ge_y rfl (u := 28) rfl d_R_w (d_rl rfl) q ?_
      exact dw_aln rfl (d_s1 rfl rfl (by decide)) (dw_gr rfl rfl rfl hH d_c16_1 (dw_iln rfl p_lk_s1 (d_gd hF (fun g1 hF => dw_ald rfl hH d_a17 rfl g1.1 g1.2 d_R_w rfl (dw_go rfl (u := 29) rfl (dw_rP rfl rfl hH.r hF))))))
    · refine dw_ge_n rfl (u := 28) rfl d_R_w (d_rl rfl) q ?_
      exact dw_ic rfl (dw_rP rfl rfl (d_rl rfl) hF)
set_option maxRecDepth 100000 in
noncomputable def F_X11_speed_l25_b (s : d_S) (k148 : Int → Int → Int → Int → Option (Int)) (rec : Int → Int → Int → Int → Int → Option (Int)) (x1 : Int) (x2 : Int) (x3 : Int) (x4 : Int) (x5 : Int) : Option (Int) :=
  if x5 < (s.1 16 2) then
  d_b (F_X8_part_16 s x5 0) (fun v1 => d_b (F_X8_part_16 s x4 0) (fun v2 => d_b (F_X8_part_16 s x5 1) (fun v3 => d_b (F_X8_part_16 s x4 1) (fun v4 => d_l (d_w (((d_w (v3 - v4)) * x3) - (x2 * (d_w (v1 - v2))))) (fun z5 => if 0 < (d_w (v1 - v2)) then
  if x3 = 0 then
  rec x1 (d_w (v3 - v4)) (d_w (v1 - v2)) x4 (d_w (x5 + 1))
  else
  if x1 < 2 then
  if 0 < z5 then
  rec x1 (d_w (v3 - v4)) (d_w (v1 - v2)) x4 (d_w (x5 + 1))
  else
  rec x1 x2 x3 x4 (d_w (x5 + 1))
  else
  if z5 < 0 then
  rec x1 (d_w (v3 - v4)) (d_w (v1 - v2)) x4 (d_w (x5 + 1))
  else
  rec x1 x2 x3 x4 (d_w (x5 + 1))
  else
  rec x1 x2 x3 x4 (d_w (x5 + 1)))))))
  else
  k148 x1 x2 x3 x4
set_option maxRecDepth 100000 in
noncomputable def F_X11_speed_l25 (s : d_S) (k148 : Int → Int → Int → Int → Option (Int)) : Nat → Int → Int → Int → Int → Int → Option (Int)
  | 0 => fun _ _ _ _ _ => none
  | n + 1 => F_X11_speed_l25_b s k148 (F_X11_speed_l25 s k148 n)
set_option maxRecDepth 100000 in
theorem D_X11_speed_l25 {t : Nat → Option p_C} {h : p_H} {s : d_S} {k148 : Int → Int → Int → Int → Option (Int)} {r : Int} (hH : d_V t h s) (hk148 : ∀ {x1 : Int} {x2 : Int} {x3 : Int} {x4 : Int} {ls : p_Ls}, k148 x1 x2 x3 x4 = some r → p_lk 0 ls = some (.ref 2) → d_R x1 → p_lk 1 ls = some (.int (Int32.ofInt x1)) → d_R x2 → p_lk 2 ls = some (.int (Int32.ofInt x2)) → d_R x3 → p_lk 3 ls = some (.int (Int32.ofInt x3)) → d_R x4 → p_lk 4 ls = some (.int (Int32.ofInt x4)) → p_wp p_GT p_MT 2 m_X11_speed 148 ls [] h (d_QP h r)) : ∀ (n : Nat) {x1 : Int} {x2 : Int} {x3 : Int} {x4 : Int} {x5 : Int} {ls : p_Ls}, F_X11_speed_l25 s k148 n x1 x2 x3 x4 x5 = some r → p_lk 0 ls = some (.ref 2) → d_R x1 → p_lk 1 ls = some (.int (Int32.ofInt x1)) → d_R x2 → p_lk 2 ls = some (.int (Int32.ofInt x2)) → d_R x3 → p_lk 3 ls = some (.int (Int32.ofInt x3)) → d_R x4 → p_lk 4 ls = some (.int (Int32.ofInt x4)) → d_R x5 → p_lk 5 ls = some (.int (Int32.ofInt x5)) → p_wp p_GT p_MT 2 m_X11_speed 25 ls [] h (d_QP h r) := by
  intro n
  induction n with
  | zero =>
    intro x1 x2 x3 x4 x5 ls hF l0 r_x1 l1 r_x2 l2 r_x3 l3 r_x4 l4 r_x5 l5
    cases (show (none : Option (Int)) = some r from hF)
  | succ n ih =>
    intro x1 x2 x3 x4 x5 ls hF l0 r_x1 l1 r_x2 l2 r_x3 l3 r_x4 l4 r_x5 l5
    have hF : F_X11_speed_l25_b s k148 (F_X11_speed_l25 s k148 n) x1 x2 x3 x4 x5 = some r := hF
    unfold F_X11_speed_l25_b at hF
    refine dw_il rfl l5 (dw_aln rfl l0 (dw_gr rfl rfl rfl hH d_c2_0 (dw_gr rfl rfl rfl hH d_c3_13 (dw_gi (k := 2) rfl rfl rfl hH d_c16_2 (?_)))))
    refine d_if hF (fun q hF => ?_) (fun q hF => ?_)
    · refine dw_ge_y rfl (u := 148) rfl r_x5 hH.r q ?_
      refine dw_aln rfl l0 (dw_gr rfl rfl rfl hH d_c2_0 (dw_gr rfl rfl rfl hH d_c3_13 (dw_il rfl l5 (dw_ic rfl (dw_vP hF rfl (d_vir (n := 3) rfl rfl rfl rfl rfl hH d_c16_0 rfl) rfl rfl rfl (dc := 0) (fun _ e => D_X8_part_16 e hH r_x5 (d_rl rfl)) (fun v1 r_v1 hF => dw_aln rfl l0 (dw_gr rfl rfl rfl hH d_c2_0 (dw_gr rfl rfl rfl hH d_c3_13 (dw_il rfl l4 (?_))))))))))
      refine dw_ic rfl (dw_vP hF rfl (d_vir (n := 3) rfl rfl rfl rfl rfl hH d_c16_0 rfl) rfl rfl rfl (dc := 0) (fun _ e => D_X8_part_16 e hH r_x4 (d_rl rfl)) (fun v2 r_v2 hF => dw_sub rfl (dw_w1 (dw_is rfl rfl (dw_aln rfl (d_s1 l0 rfl (by decide)) (dw_gr rfl rfl rfl hH d_c2_0 (dw_gr rfl rfl rfl hH d_c3_13 (dw_il rfl (d_s1 l5 rfl (by decide)) (dw_ic rfl (?_))))))))))
      refine dw_vP hF rfl (d_vir (n := 3) rfl rfl rfl rfl rfl hH d_c16_0 rfl) rfl rfl rfl (dc := 0) (fun _ e => D_X8_part_16 e hH r_x5 (d_rl rfl)) (fun v3 r_v3 hF => dw_aln rfl (d_s1 l0 rfl (by decide)) (dw_gr rfl rfl rfl hH d_c2_0 (dw_gr rfl rfl rfl hH d_c3_13 (dw_il rfl (d_s1 l4 rfl (by decide)) (dw_ic rfl (dw_vP hF rfl (d_vir (n := 3) rfl rfl rfl rfl rfl hH d_c16_0 rfl) rfl rfl rfl (dc := 0) (fun _ e => D_X8_part_16 e hH r_x4 (d_rl rfl)) (fun v4 r_v4 hF => dw_sub rfl (dw_w1 (dw_is rfl rfl (?_))))))))))
      refine dw_il rfl p_lk_s1 (dw_iln rfl (d_s1 (d_s1 l3 rfl (by decide)) rfl (by decide)) (dw_mul rfl (dw_iln rfl (d_s1 (d_s1 l2 rfl (by decide)) rfl (by decide)) (dw_il rfl (d_s1 p_lk_s1 rfl (by decide)) (dw_mul rfl (dw_sub rfl (dw_w1 (dw_nm hF d_R_w (fun z5 r_z5 hF => dw_is rfl rfl (?_))))))))))
      refine dw_il rfl (d_s1 (d_s1 p_lk_s1 rfl (by decide)) rfl (by decide)) (?_)
      refine d_if hF (fun q hF => ?_) (fun q hF => ?_)
      · refine dw_zle_y rfl (u := 142) rfl d_R_w q ?_
        refine dw_iln rfl (d_s1 (d_s1 (d_s1 l3 rfl (by decide)) rfl (by decide)) rfl (by decide)) (?_)
        refine d_if hF (fun q hF => ?_) (fun q hF => ?_)
        · refine dw_zeq_y rfl (u := 136) rfl r_x3 q ?_
          refine dw_il rfl (d_s1 p_lk_s1 rfl (by decide)) (dw_isn rfl rfl (dw_il rfl (d_s1 (d_s1 (d_s1 p_lk_s1 rfl (by decide)) rfl (by decide)) rfl (by decide)) (dw_isn rfl rfl (dw_ii rfl (d_s1 (d_s1 (d_s1 (d_s1 (d_s1 l5 rfl (by decide)) rfl (by decide)) rfl (by decide)) rfl (by decide)) rfl (by decide)) rfl (dw_go rfl (u := 25) rfl (?_))))))
          exact ih hF (d_s1 (d_s1 (d_s1 (d_s1 (d_s1 (d_s1 l0 rfl (by decide)) rfl (by decide)) rfl (by decide)) rfl (by decide)) rfl (by decide)) rfl (by decide)) r_x1 (d_s1 (d_s1 (d_s1 (d_s1 (d_s1 (d_s1 l1 rfl (by decide)) rfl (by decide)) rfl (by decide)) rfl (by decide)) rfl (by decide)) rfl (by decide)) d_R_w (d_s1 (d_s1 p_lk_s1 rfl (by decide)) rfl (by decide)) d_R_w (d_s1 p_lk_s1 rfl (by decide)) r_x4 (d_s1 (d_s1 (d_s1 (d_s1 (d_s1 (d_s1 l4 rfl (by decide)) rfl (by decide)) rfl (by decide)) rfl (by decide)) rfl (by decide)) rfl (by decide)) d_R_w p_lk_s1
        · refine dw_zeq_n rfl (u := 136) rfl r_x3 q ?_
          refine dw_iln rfl (d_s1 (d_s1 (d_s1 l1 rfl (by decide)) rfl (by decide)) rfl (by decide)) (dw_ic rfl (?_))
          refine d_if hF (fun q hF => ?_) (fun q hF => ?_)
          · refine dw_ge_y rfl (u := 131) rfl r_x1 (d_rl rfl) q ?_
            refine dw_il rfl p_lk_s1 (?_)
            refine d_if hF (fun q hF => ?_) (fun q hF => ?_)
            · refine dw_zle_y rfl (u := 142) rfl r_z5 q ?_
              refine dw_go rfl (u := 136) rfl (dw_il rfl (d_s1 p_lk_s1 rfl (by decide)) (dw_isn rfl rfl (dw_il rfl (d_s1 (d_s1 (d_s1 p_lk_s1 rfl (by decide)) rfl (by decide)) rfl (by decide)) (dw_isn rfl rfl (dw_ii rfl (d_s1 (d_s1 (d_s1 (d_s1 (d_s1 l5 rfl (by decide)) rfl (by decide)) rfl (by decide)) rfl (by decide)) rfl (by decide)) rfl (dw_go rfl (u := 25) rfl (?_)))))))
              exact ih hF (d_s1 (d_s1 (d_s1 (d_s1 (d_s1 (d_s1 l0 rfl (by decide)) rfl (by decide)) rfl (by decide)) rfl (by decide)) rfl (by decide)) rfl (by decide)) r_x1 (d_s1 (d_s1 (d_s1 (d_s1 (d_s1 (d_s1 l1 rfl (by decide)) rfl (by decide)) rfl (by decide)) rfl (by decide)) rfl (by decide)) rfl (by decide)) d_R_w (d_s1 (d_s1 p_lk_s1 rfl (by decide)) rfl (by decide)) d_R_w (d_s1 p_lk_s1 rfl (by decide)) r_x4 (d_s1 (d_s1 (d_s1 (d_s1 (d_s1 (d_s1 l4 rfl (by decide)) rfl (by decide)) rfl (by decide)) rfl (by decide)) rfl (by decide)) rfl (by decide)) d_R_w p_lk_s1
            · refine dw_zle_n rfl (u := 142) rfl r_z5 q ?_
              refine dw_ii rfl (d_s1 (d_s1 (d_s1 l5 rfl (by decide)) rfl (by decide)) rfl (by decide)) rfl (dw_go rfl (u := 25) rfl (?_))
              exact ih hF (d_s1 (d_s1 (d_s1 (d_s1 l0 rfl (by decide)) rfl (by decide)) rfl (by decide)) rfl (by decide)) r_x1 (d_s1 (d_s1 (d_s1 (d_s1 l1 rfl (by decide)) rfl (by decide)) rfl (by decide)) rfl (by decide)) r_x2 (d_s1 (d_s1 (d_s1 (d_s1 l2 rfl (by decide)) rfl (by decide)) rfl (by decide)) rfl (by decide)) r_x3 (d_s1 (d_s1 (d_s1 (d_s1 l3 rfl (by decide)) rfl (by decide)) rfl (by decide)) rfl (by decide)) r_x4 (d_s1 (d_s1 (d_s1 (d_s1 l4 rfl (by decide)) rfl (by decide)) rfl (by decide)) rfl (by decide)) d_R_w p_lk_s1
          · refine dw_ge_n rfl (u := 131) rfl r_x1 (d_rl rfl) q ?_
            refine dw_il rfl p_lk_s1 (?_)
            refine d_if hF (fun q hF => ?_) (fun q hF => ?_)
            · refine dw_zge_y rfl (u := 142) rfl r_z5 q ?_
              refine dw_il rfl (d_s1 p_lk_s1 rfl (by decide)) (dw_isn rfl rfl (dw_il rfl (d_s1 (d_s1 (d_s1 p_lk_s1 rfl (by decide)) rfl (by decide)) rfl (by decide)) (dw_isn rfl rfl (dw_ii rfl (d_s1 (d_s1 (d_s1 (d_s1 (d_s1 l5 rfl (by decide)) rfl (by decide)) rfl (by decide)) rfl (by decide)) rfl (by decide)) rfl (dw_go rfl (u := 25) rfl (?_))))))
              exact ih hF (d_s1 (d_s1 (d_s1 (d_s1 (d_s1 (d_s1 l0 rfl (by decide)) rfl (by decide)) rfl (by decide)) rfl (by decide)) rfl (by decide)) rfl (by decide)) r_x1 (d_s1 (d_s1 (d_s1 (d_s1 (d_s1 (d_s1 l1 rfl (by decide)) rfl (by decide)) rfl (by decide)) rfl (by decide)) rfl (by decide)) rfl (by decide)) d_R_w (d_s1 (d_s1 p_lk_s1 rfl (by decide)) rfl (by decide)) d_R_w (d_s1 p_lk_s1 rfl (by decide)) r_x4 (d_s1 (d_s1 (d_s1 (d_s1 (d_s1 (d_s1 l4 rfl (by decide)) rfl (by decide)) rfl (by decide)) rfl (by decide)) rfl (by decide)) rfl (by decide)) d_R_w p_lk_s1
            · refine dw_zge_n rfl (u := 142) rfl r_z5 q ?_
              refine dw_ii rfl (d_s1 (d_s1 (d_s1 l5 rfl (by decide)) rfl (by decide)) rfl (by decide)) rfl (dw_go rfl (u := 25) rfl (?_))
              exact ih hF (d_s1 (d_s1 (d_s1 (d_s1 l0 rfl (by decide)) rfl (by decide)) rfl (by decide)) rfl (by decide)) r_x1 (d_s1 (d_s1 (d_s1 (d_s1 l1 rfl (by decide)) rfl (by decide)) rfl (by decide)) rfl (by decide)) r_x2 (d_s1 (d_s1 (d_s1 (d_s1 l2 rfl (by decide)) rfl (by decide)) rfl (by decide)) rfl (by decide)) r_x3 (d_s1 (d_s1 (d_s1 (d_s1 l3 rfl (by decide)) rfl (by decide)) rfl (by decide)) rfl (by decide)) r_x4 (d_s1 (d_s1 (d_s1 (d_s1 l4 rfl (by decide)) rfl (by decide)) rfl (by decide)) rfl (by decide)) d_R_w p_lk_s1
      · refine dw_zle_n rfl (u := 142) rfl d_R_w q ?_
        refine dw_ii rfl (d_s1 (d_s1 (d_s1 l5 rfl (by decide)) rfl (by decide)) rfl (by decide)) rfl (dw_go rfl (u := 25) rfl (?_))
        exact ih hF (d_s1 (d_s1 (d_s1 (d_s1 l0 rfl (by decide)) rfl (by decide)) rfl (by decide)) rfl (by decide)) r_x1 (d_s1 (d_s1 (d_s1 (d_s1 l1 rfl (by decide)) rfl (by decide)) rfl (by decide)) rfl (by decide)) r_x2 (d_s1 (d_s1 (d_s1 (d_s1 l2 rfl (by decide)) rfl (by decide)) rfl (by decide)) rfl (by decide)) r_x3 (d_s1 (d_s1 (d_s1 (d_s1 l3 rfl (by decide)) rfl (by decide)) rfl (by decide)) rfl (by decide)) r_x4 (d_s1 (d_s1 (d_s1 (d_s1 l4 rfl (by decide)) rfl (by decide)) rfl (by decide)) rfl (by decide)) d_R_w p_lk_s1
    · refine dw_ge_n rfl (u := 148) rfl r_x5 hH.r q ?_
      exact hk148 hF l0 r_x1 l1 r_x2 l2 r_x3 l3 r_x4 l4
set_option maxRecDepth 100000 in
noncomputable def F_X11_speed_l7_b (s : d_S) (k154 : Int → Int → Int → Option (Int)) (rec : Int → Int → Int → Int → Option (Int)) (x1 : Int) (x2 : Int) (x3 : Int) (x4 : Int) : Option (Int) :=
  if x4 < (s.1 16 2) then
  F_X11_speed_l25 s (fun x1_u6 x2_u6 x3_u6 x4_u6 =>
  rec x1_u6 x2_u6 x3_u6 (d_w (x4_u6 + 1))) d_N x1 x2 x3 x4 0
  else
  k154 x1 x2 x3
set_option maxRecDepth 100000 in
noncomputable def F_X11_speed_l7 (s : d_S) (k154 : Int → Int → Int → Option (Int)) : Nat → Int → Int → Int → Int → Option (Int)
  | 0 => fun _ _ _ _ => none
  | n + 1 => F_X11_speed_l7_b s k154 (F_X11_speed_l7 s k154 n)
set_option maxRecDepth 100000 in
theorem D_X11_speed_l7 {t : Nat → Option p_C} {h : p_H} {s : d_S} {k154 : Int → Int → Int → Option (Int)} {r : Int} (hH : d_V t h s) (hk154 : ∀ {x1 : Int} {x2 : Int} {x3 : Int} {ls : p_Ls}, k154 x1 x2 x3 = some r → d_R x1 → p_lk 1 ls = some (.int (Int32.ofInt x1)) → d_R x2 → p_lk 2 ls = some (.int (Int32.ofInt x2)) → d_R x3 → p_lk 3 ls = some (.int (Int32.ofInt x3)) → p_wp p_GT p_MT 2 m_X11_speed 154 ls [] h (d_QP h r)) : ∀ (n : Nat) {x1 : Int} {x2 : Int} {x3 : Int} {x4 : Int} {ls : p_Ls}, F_X11_speed_l7 s k154 n x1 x2 x3 x4 = some r → p_lk 0 ls = some (.ref 2) → d_R x1 → p_lk 1 ls = some (.int (Int32.ofInt x1)) → d_R x2 → p_lk 2 ls = some (.int (Int32.ofInt x2)) → d_R x3 → p_lk 3 ls = some (.int (Int32.ofInt x3)) → d_R x4 → p_lk 4 ls = some (.int (Int32.ofInt x4)) → p_wp p_GT p_MT 2 m_X11_speed 7 ls [] h (d_QP h r) := by
  intro n
  induction n with
  | zero =>
    intro x1 x2 x3 x4 ls hF l0 r_x1 l1 r_x2 l2 r_x3 l3 r_x4 l4
    cases (show (none : Option (Int)) = some r from hF)
  | succ n ih =>
    intro x1 x2 x3 x4 ls hF l0 r_x1 l1 r_x2 l2 r_x3 l3 r_x4 l4
    have hF : F_X11_speed_l7_b s k154 (F_X11_speed_l7 s k154 n) x1 x2 x3 x4 = some r := hF
    unfold F_X11_speed_l7_b at hF
    refine dw_il rfl l4 (dw_aln rfl l0 (dw_gr rfl rfl rfl hH d_c2_0 (dw_gr rfl rfl rfl hH d_c3_13 (dw_gi (k := 2) rfl rfl rfl hH d_c16_2 (?_)))))
    refine d_if hF (fun q hF => ?_) (fun q hF => ?_)
    · refine dw_ge_y rfl (u := 154) rfl r_x4 hH.r q ?_
      refine dw_ic rfl (dw_is rfl rfl (?_))
      refine D_X11_speed_l25 hH (fun {x1_u6} {x2_u6} {x3_u6} {x4_u6} {ls_u6} hF l0_u6 r_x1_u6 l1_u6 r_x2_u6 l2_u6 r_x3_u6 l3_u6 r_x4_u6 l4_u6 => ?_) _ hF (d_s1 l0 rfl (by decide)) r_x1 (d_s1 l1 rfl (by decide)) r_x2 (d_s1 l2 rfl (by decide)) r_x3 (d_s1 l3 rfl (by decide)) r_x4 (d_s1 l4 rfl (by decide)) (d_rl rfl) p_lk_s1
      · refine dw_ii rfl l4_u6 rfl (dw_go rfl (u := 7) rfl (?_))
        exact ih hF (d_s1 l0_u6 rfl (by decide)) r_x1_u6 (d_s1 l1_u6 rfl (by decide)) r_x2_u6 (d_s1 l2_u6 rfl (by decide)) r_x3_u6 (d_s1 l3_u6 rfl (by decide)) d_R_w p_lk_s1
    · refine dw_ge_n rfl (u := 154) rfl r_x4 hH.r q ?_
      exact hk154 hF r_x1 l1 r_x2 l2 r_x3 l3
set_option maxRecDepth 100000 in
noncomputable def F_X11_speed_j167 (s : d_S) : Option (Int) :=
  some (-100000)
set_option maxRecDepth 100000 in
theorem D_X11_speed_j167 {t : Nat → Option p_C} {h : p_H} {s : d_S} {r : Int} {ls : p_Ls} (hF : F_X11_speed_j167 s = some r) (hH : d_V t h s) : p_wp p_GT p_MT 2 m_X11_speed 167 ls [] h (d_QP h r) := by
  unfold F_X11_speed_j167 at hF
  exact dw_ldcw rfl rfl (dw_rP rfl rfl (d_rl rfl) hF)
set_option maxRecDepth 100000 in
noncomputable def F_X11_speed_j182 (s : d_S) (x2 : Int) (x3 : Int) (y0 : Int) : Option (Int) :=
  d_b (F_X11_divisor x2 x3) (fun v9 => d_g (¬ v9 = 0) (some (d_div y0 v9)))
set_option maxRecDepth 100000 in
theorem D_X11_speed_j182 {t : Nat → Option p_C} {h : p_H} {s : d_S} {x2 : Int} {x3 : Int} {y0 : Int} {r : Int} {ls : p_Ls} (hF : F_X11_speed_j182 s x2 x3 y0 = some r) (hH : d_V t h s) (r_x2 : d_R x2) (l2 : p_lk 2 ls = some (.int (Int32.ofInt x2))) (r_x3 : d_R x3) (l3 : p_lk 3 ls = some (.int (Int32.ofInt x3))) (r_y0 : d_R y0) : p_wp p_GT p_MT 2 m_X11_speed 182 ls [.int (Int32.ofInt y0)] h (d_QP h r) := by
  unfold F_X11_speed_j182 at hF
  exact dw_iln rfl l2 (dw_iln rfl l3 (dw_sP hF rfl rfl rfl rfl rfl (dc := 1) (fun _ e => D_X11_divisor e r_x2 r_x3) (fun v9 r_v9 hF => d_gd hF (fun g10 hF => dw_div rfl r_v9 g10 (dw_rP rfl rfl d_R_t hF)))))
set_option maxRecDepth 100000 in
noncomputable def F_X11_speed (s : d_S) (x1 : Int) : Option (Int) :=
  F_X11_speed_l7 s (fun x1_u7 x2_u7 x3_u7 =>
  if x3_u7 = 0 then
  F_X11_speed_j167 s
  else
  d_b (F_X11_within x1_u7 0 3) (fun v8 => if v8 = 0 then
  F_X11_speed_j167 s
  else
  if (d_rem x1_u7 2) = 0 then
  F_X11_speed_j182 s x2_u7 x3_u7 x2_u7
  else
  F_X11_speed_j182 s x2_u7 x3_u7 x3_u7)) d_N x1 0 0 0
set_option maxRecDepth 100000 in
theorem D_X11_speed {t : Nat → Option p_C} {h : p_H} {s : d_S} {x1 : Int} {r : Int} (hF : F_X11_speed s x1 = some r) (hH : d_V t h s) (r_x1 : d_R x1) : p_wp p_GT p_MT 2 m_X11_speed 0 (lv_args 0 [.ref 2, .int (Int32.ofInt x1)]) [] h (d_QP h r) := by
  unfold F_X11_speed at hF
  refine dw_ic rfl (dw_isn rfl rfl (dw_ic rfl (dw_isn rfl rfl (dw_ic rfl (dw_is rfl rfl (?_))))))
  refine D_X11_speed_l7 hH (fun {x1_u7} {x2_u7} {x3_u7} {ls_u7} hF r_x1_u7 l1_u7 r_x2_u7 l2_u7 r_x3_u7 l3_u7 => ?_) _ hF (d_s1 (d_s1 (d_s1 rfl rfl (by decide)) rfl (by decide)) rfl (by decide)) r_x1 (d_s1 (d_s1 (d_s1 rfl rfl (by decide)) rfl (by decide)) rfl (by decide)) (d_rl rfl) (d_s1 (d_s1 p_lk_s1 rfl (by decide)) rfl (by decide)) (d_rl rfl) (d_s1 p_lk_s1 rfl (by decide)) (d_rl rfl) p_lk_s1
  · refine dw_iln rfl l3_u7 (?_)
    refine d_if hF (fun q hF => ?_) (fun q hF => ?_)
    · refine dw_zeq_y rfl (u := 167) rfl r_x3_u7 q ?_
      exact D_X11_speed_j167 hF hH
    · refine dw_zeq_n rfl (u := 167) rfl r_x3_u7 q ?_
      refine dw_iln rfl l1_u7 (dw_ic rfl (dw_ic rfl (dw_sB hF rfl rfl rfl rfl rfl (dc := 0) (fun _ e => D_X11_within e r_x1_u7 (d_rl rfl) (d_rl rfl)) (fun v8 r_v8 hF => ?_))))
      refine d_if hF (fun q hF => ?_) (fun q hF => ?_)
      · refine dw_zne_y rfl (u := 171) rfl (d_R_b r_v8) q ?_
        exact D_X11_speed_j167 hF hH
      · refine dw_zne_n rfl (u := 171) rfl (d_R_b r_v8) q ?_
        refine dw_iln rfl l1_u7 (dw_ic rfl (dw_rem rfl (d_rl rfl) (by decide) (?_)))
        refine d_if hF (fun q hF => ?_) (fun q hF => ?_)
        · refine dw_zne_y rfl (u := 181) rfl d_R_t q ?_
          refine dw_iln rfl l2_u7 (dw_go rfl (u := 182) rfl (?_))
          exact D_X11_speed_j182 hF hH r_x2_u7 l2_u7 r_x3_u7 l3_u7 r_x2_u7
        · refine dw_zne_n rfl (u := 181) rfl d_R_t q ?_
          refine dw_iln rfl l3_u7 (?_)
          exact D_X11_speed_j182 hF hH r_x2_u7 l2_u7 r_x3_u7 l3_u7 r_x3_u7
set_option maxRecDepth 100000 in
noncomputable def F_X11_bestPlay_l45_b (k141 : Int → Int → Int → Int → Int → d_S → Option (Int × d_S)) (rec : Int → Int → Int → Int → Int → Int → d_S → Option (Int × d_S)) (x1 : Int) (x2 : Int) (x3 : Int) (x4 : Int) (x5 : Int) (x6 : Int) (s : d_S) : Option (Int × d_S) :=
  if x1 < (d_w (x6 + x5)) then
  k141 x1 x2 x3 x4 x5 s
  else
  if 16 < (d_w (x6 + x5)) then
  k141 x1 x2 x3 x4 x5 s
  else
  d_g (0 ≤ x6 ∧ x6 < 64) (d_g (0 ≤ (d_w (x6 + 1)) ∧ (d_w (x6 + 1)) < 16) (d_l (d_w ((s.1 61 (x6.toNat)) - (s.1 62 (((d_w (x6 + 1))).toNat)))) (fun z4 => d_g (0 ≤ (d_w ((x6 + x5) - 1)) ∧ (d_w ((x6 + x5) - 1)) < 64) (d_g (0 ≤ x6 ∧ x6 < 16) (d_l (d_w ((s.1 61 (((d_w ((x6 + x5) - 1))).toNat)) - (s.1 62 (x6.toNat)))) (fun z7 => d_b (F_J9_max_7cf53 z4 z7) (fun v8 => d_g (0 ≤ x6 ∧ x6 < 16) (d_l (d_si s 62 ((x6).toNat) v8) (fun s10 => if x5 = x1 then
  rec x1 x2 z4 z7 x5 (d_w (x6 + 1)) s10
  else
  rec x1 x2 x3 x4 x5 (d_w (x6 + 1)) s10)))))))))
set_option maxRecDepth 100000 in
noncomputable def F_X11_bestPlay_l45 (k141 : Int → Int → Int → Int → Int → d_S → Option (Int × d_S)) : Nat → Int → Int → Int → Int → Int → Int → d_S → Option (Int × d_S)
  | 0 => fun _ _ _ _ _ _ _ => none
  | n + 1 => F_X11_bestPlay_l45_b k141 (F_X11_bestPlay_l45 k141 n)
set_option maxRecDepth 100000 in
theorem D_X11_bestPlay_l45 {t : Nat → Option p_C} {k141 : Int → Int → Int → Int → Int → d_S → Option (Int × d_S)} {r : Int × d_S} (hk141 : ∀ {x1 : Int} {x2 : Int} {x3 : Int} {x4 : Int} {x5 : Int} {ls : p_Ls} {s : d_S} {h : p_H}, k141 x1 x2 x3 x4 x5 s = some r → d_V t h s → p_lk 0 ls = some (.ref 2) → d_R x1 → p_lk 1 ls = some (.int (Int32.ofInt x1)) → d_R x2 → p_lk 2 ls = some (.int (Int32.ofInt x2)) → d_R x3 → p_lk 3 ls = some (.int (Int32.ofInt x3)) → d_R x4 → p_lk 4 ls = some (.int (Int32.ofInt x4)) → d_R x5 → p_lk 5 ls = some (.int (Int32.ofInt x5)) → p_wp p_GT p_MT 1 m_X11_bestPlay 141 ls [] h (d_QI t r)) : ∀ (n : Nat) {x1 : Int} {x2 : Int} {x3 : Int} {x4 : Int} {x5 : Int} {x6 : Int} {ls : p_Ls} {s : d_S} {h : p_H}, F_X11_bestPlay_l45 k141 n x1 x2 x3 x4 x5 x6 s = some r → d_V t h s → p_lk 0 ls = some (.ref 2) → d_R x1 → p_lk 1 ls = some (.int (Int32.ofInt x1)) → d_R x2 → p_lk 2 ls = some (.int (Int32.ofInt x2)) → d_R x3 → p_lk 3 ls = some (.int (Int32.ofInt x3)) → d_R x4 → p_lk 4 ls = some (.int (Int32.ofInt x4)) → d_R x5 → p_lk 5 ls = some (.int (Int32.ofInt x5)) → d_R x6 → p_lk 6 ls = some (.int (Int32.ofInt x6)) → p_wp p_GT p_MT 1 m_X11_bestPlay 45 ls [] h (d_QI t r) := by
  intro n
  induction n with
  | zero =>
    intro x1 x2 x3 x4 x5 x6 ls s h hF hH l0 r_x1 l1 r_x2 l2 r_x3 l3 r_x4 l4 r_x5 l5 r_x6 l6
    cases (show (none : Option (Int × d_S)) = some r from hF)
  | succ n ih =>
    intro x1 x2 x3 x4 x5 x6 ls s h hF hH l0 r_x1 l1 r_x2 l2 r_x3 l3 r_x4 l4 r_x5 l5 r_x6 l6
    have hF : F_X11_bestPlay_l45_b k141 (F_X11_bestPlay_l45 k141 n) x1 x2 x3 x4 x5 x6 s = some r := hF
    unfold F_X11_bestPlay_l45_b at hF
    refine dw_il rfl l6 (dw_il rfl l5 (dw_add rfl (dw_iln rfl l1 (dw_w2 (?_)))))
    refine d_if hF (fun q hF => ?_) (fun q hF => ?_)
    · refine dw_gt_y rfl (u := 141) rfl d_R_w r_x1 q ?_
      exact hk141 hF hH l0 r_x1 l1 r_x2 l2 r_x3 l3 r_x4 l4 r_x5 l5
    · refine dw_gt_n rfl (u := 141) rfl d_R_w r_x1 q ?_
      refine dw_il rfl l6 (dw_il rfl l5 (dw_add rfl (dw_aln rfl l0 (dw_gr rfl rfl rfl hH d_c2_8 (dw_len rfl hH d_a62 rfl (z := 16) rfl (dw_w2 (?_)))))))
      refine d_if hF (fun q hF => ?_) (fun q hF => ?_)
      · refine dw_gt_y rfl (u := 141) rfl d_R_w (d_rl rfl) q ?_
        exact hk141 hF hH l0 r_x1 l1 r_x2 l2 r_x3 l3 r_x4 l4 r_x5 l5
      · refine dw_gt_n rfl (u := 141) rfl d_R_w (d_rl rfl) q ?_
        refine dw_aln rfl l0 (dw_gr rfl rfl rfl hH d_c2_7 (dw_il rfl l6 (d_gd hF (fun g2 hF => dw_ald rfl hH d_a61 rfl g2.1 g2.2 r_x6 rfl (dw_aln rfl l0 (dw_gr rfl rfl rfl hH d_c2_8 (dw_il rfl l6 (dw_ic rfl (dw_add rfl (?_))))))))))
        refine dw_w1 (d_gd hF (fun g3 hF => dw_ald rfl hH d_a62 rfl g3.1 g3.2 d_R_w rfl (dw_sub rfl (dw_w1 (dw_nm hF d_R_w (fun z4 r_z4 hF => dw_is rfl rfl (dw_aln rfl (d_s1 l0 rfl (by decide)) (dw_gr rfl rfl rfl hH d_c2_7 (dw_il rfl (d_s1 l6 rfl (by decide)) (?_))))))))))
        refine dw_il rfl (d_s1 l5 rfl (by decide)) (dw_add rfl (dw_ic rfl (dw_sub rfl (dw_w1 (d_gd hF (fun g5 hF => dw_ald rfl hH d_a61 rfl g5.1 g5.2 d_R_w rfl (dw_aln rfl (d_s1 l0 rfl (by decide)) (dw_gr rfl rfl rfl hH d_c2_8 (dw_il rfl (d_s1 l6 rfl (by decide)) (?_))))))))))
        refine d_gd hF (fun g6 hF => dw_ald rfl hH d_a62 rfl g6.1 g6.2 r_x6 rfl (dw_sub rfl (dw_w1 (dw_nm hF d_R_w (fun z7 r_z7 hF => dw_is rfl rfl (dw_aln rfl (d_s1 (d_s1 l0 rfl (by decide)) rfl (by decide)) (dw_gr rfl rfl rfl hH d_c2_8 (dw_il rfl (d_s1 (d_s1 l6 rfl (by decide)) rfl (by decide)) (dw_il rfl (d_s1 p_lk_s1 rfl (by decide)) (?_))))))))))
        refine dw_il rfl p_lk_s1 (dw_sP hF rfl rfl rfl rfl rfl (dc := 0) (fun _ e => D_J9_max_7cf53 e r_z4 r_z7) (fun v8 r_v8 hF => d_gd hF (fun g9 hF => dw_ast rfl hH d_a62 g9.1 g9.2 r_x6 rfl r_v8 hF (fun s10 h10 hH10 hF => dw_il rfl (d_s1 (d_s1 l5 rfl (by decide)) rfl (by decide)) (dw_iln rfl (d_s1 (d_s1 l1 rfl (by decide)) rfl (by decide)) (?_))))))
        refine d_if hF (fun q hF => ?_) (fun q hF => ?_)
        · refine dw_ne_y rfl (u := 135) rfl r_x5 r_x1 q ?_
          refine dw_il rfl (d_s1 p_lk_s1 rfl (by decide)) (dw_isn rfl rfl (dw_il rfl (d_s1 p_lk_s1 rfl (by decide)) (dw_is rfl rfl (dw_ii rfl (d_s1 (d_s1 (d_s1 (d_s1 l6 rfl (by decide)) rfl (by decide)) rfl (by decide)) rfl (by decide)) rfl (dw_go rfl (u := 45) rfl (?_))))))
          exact ih hF hH10 (d_s1 (d_s1 (d_s1 (d_s1 (d_s1 l0 rfl (by decide)) rfl (by decide)) rfl (by decide)) rfl (by decide)) rfl (by decide)) r_x1 (d_s1 (d_s1 (d_s1 (d_s1 (d_s1 l1 rfl (by decide)) rfl (by decide)) rfl (by decide)) rfl (by decide)) rfl (by decide)) r_x2 (d_s1 (d_s1 (d_s1 (d_s1 (d_s1 l2 rfl (by decide)) rfl (by decide)) rfl (by decide)) rfl (by decide)) rfl (by decide)) r_z4 (d_s1 (d_s1 p_lk_s1 rfl (by decide)) rfl (by decide)) r_z7 (d_s1 p_lk_s1 rfl (by decide)) r_x5 (d_s1 (d_s1 (d_s1 (d_s1 (d_s1 l5 rfl (by decide)) rfl (by decide)) rfl (by decide)) rfl (by decide)) rfl (by decide)) d_R_w p_lk_s1
        · refine dw_ne_n rfl (u := 135) rfl r_x5 r_x1 q ?_
          refine dw_ii rfl (d_s1 (d_s1 l6 rfl (by decide)) rfl (by decide)) rfl (dw_go rfl (u := 45) rfl (?_))
          exact ih hF hH10 (d_s1 (d_s1 (d_s1 l0 rfl (by decide)) rfl (by decide)) rfl (by decide)) r_x1 (d_s1 (d_s1 (d_s1 l1 rfl (by decide)) rfl (by decide)) rfl (by decide)) r_x2 (d_s1 (d_s1 (d_s1 l2 rfl (by decide)) rfl (by decide)) rfl (by decide)) r_x3 (d_s1 (d_s1 (d_s1 l3 rfl (by decide)) rfl (by decide)) rfl (by decide)) r_x4 (d_s1 (d_s1 (d_s1 l4 rfl (by decide)) rfl (by decide)) rfl (by decide)) r_x5 (d_s1 (d_s1 (d_s1 l5 rfl (by decide)) rfl (by decide)) rfl (by decide)) d_R_w p_lk_s1
set_option maxRecDepth 100000 in
noncomputable def F_X11_bestPlay_l36_b (k147 : Int → Int → Int → d_S → Option (Int × d_S)) (rec : Int → Int → Int → Int → Int → d_S → Option (Int × d_S)) (x1 : Int) (x2 : Int) (x3 : Int) (x4 : Int) (x5 : Int) (s : d_S) : Option (Int × d_S) :=
  if x1 < x5 then
  k147 x2 x3 x4 s
  else
  F_X11_bestPlay_l45 (fun x1_u11 x2_u11 x3_u11 x4_u11 x5_u11 s_u11 =>
  rec x1_u11 x2_u11 x3_u11 x4_u11 (d_w (x5_u11 + 1)) s_u11) d_N x1 x2 x3 x4 x5 0 s
set_option maxRecDepth 100000 in
noncomputable def F_X11_bestPlay_l36 (k147 : Int → Int → Int → d_S → Option (Int × d_S)) : Nat → Int → Int → Int → Int → Int → d_S → Option (Int × d_S)
  | 0 => fun _ _ _ _ _ _ => none
  | n + 1 => F_X11_bestPlay_l36_b k147 (F_X11_bestPlay_l36 k147 n)
set_option maxRecDepth 100000 in
theorem D_X11_bestPlay_l36 {t : Nat → Option p_C} {k147 : Int → Int → Int → d_S → Option (Int × d_S)} {r : Int × d_S} (hk147 : ∀ {x2 : Int} {x3 : Int} {x4 : Int} {ls : p_Ls} {s : d_S} {h : p_H}, k147 x2 x3 x4 s = some r → d_V t h s → p_lk 0 ls = some (.ref 2) → d_R x2 → p_lk 2 ls = some (.int (Int32.ofInt x2)) → d_R x3 → p_lk 3 ls = some (.int (Int32.ofInt x3)) → d_R x4 → p_lk 4 ls = some (.int (Int32.ofInt x4)) → p_wp p_GT p_MT 1 m_X11_bestPlay 147 ls [] h (d_QI t r)) : ∀ (n : Nat) {x1 : Int} {x2 : Int} {x3 : Int} {x4 : Int} {x5 : Int} {ls : p_Ls} {s : d_S} {h : p_H}, F_X11_bestPlay_l36 k147 n x1 x2 x3 x4 x5 s = some r → d_V t h s → p_lk 0 ls = some (.ref 2) → d_R x1 → p_lk 1 ls = some (.int (Int32.ofInt x1)) → d_R x2 → p_lk 2 ls = some (.int (Int32.ofInt x2)) → d_R x3 → p_lk 3 ls = some (.int (Int32.ofInt x3)) → d_R x4 → p_lk 4 ls = some (.int (Int32.ofInt x4)) → d_R x5 → p_lk 5 ls = some (.int (Int32.ofInt x5)) → p_wp p_GT p_MT 1 m_X11_bestPlay 36 ls [] h (d_QI t r) := by
  intro n
  induction n with
  | zero =>
    intro x1 x2 x3 x4 x5 ls s h hF hH l0 r_x1 l1 r_x2 l2 r_x3 l3 r_x4 l4 r_x5 l5
    cases (show (none : Option (Int × d_S)) = some r from hF)
  | succ n ih =>
    intro x1 x2 x3 x4 x5 ls s h hF hH l0 r_x1 l1 r_x2 l2 r_x3 l3 r_x4 l4 r_x5 l5
    have hF : F_X11_bestPlay_l36_b k147 (F_X11_bestPlay_l36 k147 n) x1 x2 x3 x4 x5 s = some r := hF
    unfold F_X11_bestPlay_l36_b at hF
    refine dw_il rfl l5 (dw_iln rfl l1 (?_))
    refine d_if hF (fun q hF => ?_) (fun q hF => ?_)
    · refine dw_gt_y rfl (u := 147) rfl r_x5 r_x1 q ?_
      exact hk147 hF hH l0 r_x2 l2 r_x3 l3 r_x4 l4
    · refine dw_gt_n rfl (u := 147) rfl r_x5 r_x1 q ?_
      refine dw_ic rfl (dw_is rfl rfl (?_))
      refine D_X11_bestPlay_l45 (fun {x1_u11} {x2_u11} {x3_u11} {x4_u11} {x5_u11} {ls_u11} {s_u11} {h_u11} hF hH_u11 l0_u11 r_x1_u11 l1_u11 r_x2_u11 l2_u11 r_x3_u11 l3_u11 r_x4_u11 l4_u11 r_x5_u11 l5_u11 => ?_) _ hF hH (d_s1 l0 rfl (by decide)) r_x1 (d_s1 l1 rfl (by decide)) r_x2 (d_s1 l2 rfl (by decide)) r_x3 (d_s1 l3 rfl (by decide)) r_x4 (d_s1 l4 rfl (by decide)) r_x5 (d_s1 l5 rfl (by decide)) (d_rl rfl) p_lk_s1
      · refine dw_ii rfl l5_u11 rfl (dw_go rfl (u := 36) rfl (?_))
        exact ih hF hH_u11 (d_s1 l0_u11 rfl (by decide)) r_x1_u11 (d_s1 l1_u11 rfl (by decide)) r_x2_u11 (d_s1 l2_u11 rfl (by decide)) r_x3_u11 (d_s1 l3_u11 rfl (by decide)) r_x4_u11 (d_s1 l4_u11 rfl (by decide)) d_R_w p_lk_s1
set_option maxRecDepth 100000 in
noncomputable def F_X11_bestPlay (s : d_S) (x1 : Int) (x2 : Int) : Option (Int × d_S) :=
  d_l (d_cp s 61 0 62 0 16) (fun s1 => F_X11_bestPlay_l36 (fun x2_u12 x3_u12 x4_u12 s_u12 =>
  if x2_u12 = 0 then
  some ((s_u12.1 62 0), s_u12)
  else
  if x3_u12 < x4_u12 then
  d_b (F_X11_bit 1) (fun v13 => some (v13, s_u12))
  else
  d_b (F_X11_bit 0) (fun v14 => some (v14, s_u12))) d_N x1 x2 (s1.1 61 0) (s1.1 61 0) 2 s1)
set_option maxRecDepth 100000 in
theorem D_X11_bestPlay {t : Nat → Option p_C} {h : p_H} {s : d_S} {x1 : Int} {x2 : Int} {r : Int × d_S} (hF : F_X11_bestPlay s x1 x2 = some r) (hH : d_V t h s) (r_x1 : d_R x1) (r_x2 : d_R x2) : p_wp p_GT p_MT 1 m_X11_bestPlay 0 (lv_args 0 [.ref 2, .int (Int32.ofInt x1), .int (Int32.ofInt x2)]) [] h (d_QI t r) := by
  unfold F_X11_bestPlay at hF
  refine dw_aln rfl rfl (dw_gr rfl rfl rfl hH d_c2_7 (dw_ic rfl (dw_aln rfl rfl (dw_gr rfl rfl rfl hH d_c2_8 (dw_ic rfl (dw_aln rfl rfl (dw_gr rfl rfl rfl hH d_c2_8 (dw_len rfl hH d_a62 rfl (z := 16) rfl (dw_cpy rfl rfl hH d_a61 d_a62 (d_rl rfl) (d_rl rfl) (d_rl rfl) (by decide) rfl hF (fun s1 h1 hH1 hF => ?_))))))))))
  refine dw_aln rfl rfl (dw_gr rfl rfl rfl hH1 d_c2_7 (dw_ic rfl (dw_ald rfl hH1 d_a61 rfl (by decide) (by decide) (d_rl rfl) (k := 0) rfl (dw_isn rfl rfl (dw_aln rfl (d_s1 rfl rfl (by decide)) (dw_gr rfl rfl rfl hH1 d_c2_7 (dw_ic rfl (dw_ald rfl hH1 d_a61 rfl (by decide) (by decide) (d_rl rfl) (k := 0) rfl (dw_is rfl rfl (?_))))))))))
  refine dw_ic rfl (dw_is rfl rfl (?_))
  refine D_X11_bestPlay_l36 (fun {x2_u12} {x3_u12} {x4_u12} {ls_u12} {s_u12} {h_u12} hF hH_u12 l0_u12 r_x2_u12 l2_u12 r_x3_u12 l3_u12 r_x4_u12 l4_u12 => ?_) _ hF hH1 (d_s1 (d_s1 (d_s1 rfl rfl (by decide)) rfl (by decide)) rfl (by decide)) r_x1 (d_s1 (d_s1 (d_s1 rfl rfl (by decide)) rfl (by decide)) rfl (by decide)) r_x2 (d_s1 (d_s1 (d_s1 rfl rfl (by decide)) rfl (by decide)) rfl (by decide)) hH1.r (d_s1 (d_s1 p_lk_s1 rfl (by decide)) rfl (by decide)) hH1.r (d_s1 p_lk_s1 rfl (by decide)) (d_rl rfl) p_lk_s1
  · refine dw_iln rfl l2_u12 (?_)
    refine d_if hF (fun q hF => ?_) (fun q hF => ?_)
    · refine dw_zeq_y rfl (u := 168) rfl r_x2_u12 q ?_
      exact dw_aln rfl l0_u12 (dw_gr rfl rfl rfl hH_u12 d_c2_8 (dw_ic rfl (dw_ald rfl hH_u12 d_a62 rfl (by decide) (by decide) (d_rl rfl) (k := 0) rfl (dw_rI rfl rfl hH_u12.r hH_u12 hF))))
    · refine dw_zeq_n rfl (u := 168) rfl r_x2_u12 q ?_
      refine dw_il rfl l4_u12 (dw_iln rfl l3_u12 (?_))
      refine d_if hF (fun q hF => ?_) (fun q hF => ?_)
      · refine dw_le_y rfl (u := 161) rfl r_x4_u12 r_x3_u12 q ?_
        exact dw_ic rfl (dw_go rfl (u := 162) rfl (dw_sP hF rfl rfl rfl rfl rfl (dc := 0) (fun _ e => D_X11_bit e (d_rl rfl)) (fun v13 r_v13 hF => dw_go rfl (u := 174) rfl (dw_rI rfl rfl r_v13 hH_u12 hF))))
      · refine dw_le_n rfl (u := 161) rfl r_x4_u12 r_x3_u12 q ?_
        exact dw_ic rfl (dw_sP hF rfl rfl rfl rfl rfl (dc := 0) (fun _ e => D_X11_bit e (d_rl rfl)) (fun v14 r_v14 hF => dw_go rfl (u := 174) rfl (dw_rI rfl rfl r_v14 hH_u12 hF)))

set_option maxRecDepth 100000 in
noncomputable def F_X1_reckon_j324 (t : Nat → Option p_C) (k7 : (Option Nat) → Int → Int → Int → d_S → Option (Int × d_S)) (x1 : Option Nat) (x2 : Int) (x3 : Int) (x4 : Int) (x11 : Int) (s : d_S) : Option (Int × d_S) :=
  d_b (F_J9_min_f86c9 1000000 x11) (fun v20 => d_b (F_J9_max_f86c9 (-1000000) v20) (fun v21 => d_g (0 ≤ (d_w (x2 - 1)) ∧ (d_w (x2 - 1)) < 32) (d_l (d_si s 50 (((d_w (x2 - 1))).toNat) (d_w v21)) (fun s23 => k7 x1 x2 x3 (d_w (x4 + 1)) s23))))
set_option maxRecDepth 100000 in
theorem D_X1_reckon_j324 {t : Nat → Option p_C} {h : p_H} {s : d_S} {k7 : (Option Nat) → Int → Int → Int → d_S → Option (Int × d_S)} {x1 : Option Nat} {x2 : Int} {x3 : Int} {x4 : Int} {x11 : Int} {r : Int × d_S} {ls : p_Ls} (hF : F_X1_reckon_j324 t k7 x1 x2 x3 x4 x11 s = some r) (hH : d_V t h s) (l0 : p_lk 0 ls = some (.ref 48)) (r_x1 : True) (l1 : p_lk 1 ls = some (d_pv x1)) (r_x2 : d_R x2) (l2 : p_lk 2 ls = some (.int (Int32.ofInt x2))) (r_x3 : d_R x3) (l3 : p_lk 3 ls = some (.int (Int32.ofInt x3))) (r_x4 : d_R x4) (l4 : p_lk 4 ls = some (.int (Int32.ofInt x4))) (r_x11 : d_RL x11) (l11 : p_lk 11 ls = some (.long (Int64.ofInt x11))) (hk7 : ∀ {x1 : Option Nat} {x2 : Int} {x3 : Int} {x4 : Int} {ls : p_Ls} {s : d_S} {h : p_H}, k7 x1 x2 x3 x4 s = some r → d_V t h s → p_lk 0 ls = some (.ref 48) → True → p_lk 1 ls = some (d_pv x1) → d_R x2 → p_lk 2 ls = some (.int (Int32.ofInt x2)) → d_R x3 → p_lk 3 ls = some (.int (Int32.ofInt x3)) → d_R x4 → p_lk 4 ls = some (.int (Int32.ofInt x4)) → p_wp p_GT p_MT 1 m_X1_reckon 7 ls [] h (d_QI t r)) : p_wp p_GT p_MT 1 m_X1_reckon 324 ls [] h (d_QI t r) := by
  unfold F_X1_reckon_j324 at hF
  refine dw_aln rfl l0 (dw_gr rfl rfl rfl hH d_c48_1 (dw_iln rfl l2 (dw_ic rfl (dw_sub rfl (dw_ldc2 rfl rfl (dw_ldc2 rfl rfl (dw_ll rfl l11 (dw_sL hF rfl rfl rfl rfl rfl (dc := 0) (fun _ e => D_J9_min_f86c9 e (d_rll rfl) r_x11) (fun v20 r_v20 hF => dw_sL hF rfl rfl rfl rfl rfl (dc := 0) (fun _ e => D_J9_max_f86c9 e (d_rll rfl) r_v20) (fun v21 r_v21 hF => ?_))))))))))
  refine dw_l2i rfl (dw_w1 (dw_w2 (d_gd hF (fun g22 hF => dw_ast rfl hH d_a50 g22.1 g22.2 d_R_w rfl d_R_w hF (fun s23 h23 hH23 hF => dw_ii rfl l4 rfl (dw_go rfl (u := 7) rfl (?_)))))))
  exact hk7 hF hH23 (d_s1 l0 rfl (by decide)) r_x1 (d_s1o l1 (by decide)) r_x2 (d_s1 l2 rfl (by decide)) r_x3 (d_s1 l3 rfl (by decide)) d_R_w p_lk_s1
set_option maxRecDepth 100000 in
noncomputable def F_X1_reckon_j322 (t : Nat → Option p_C) (k7 : (Option Nat) → Int → Int → Int → d_S → Option (Int × d_S)) (x1 : Option Nat) (x2 : Int) (x3 : Int) (x4 : Int) (y0 : Int) (s : d_S) : Option (Int × d_S) :=
  F_X1_reckon_j324 t k7 x1 x2 x3 x4 y0 s
set_option maxRecDepth 100000 in
theorem D_X1_reckon_j322 {t : Nat → Option p_C} {h : p_H} {s : d_S} {k7 : (Option Nat) → Int → Int → Int → d_S → Option (Int × d_S)} {x1 : Option Nat} {x2 : Int} {x3 : Int} {x4 : Int} {y0 : Int} {r : Int × d_S} {ls : p_Ls} (hF : F_X1_reckon_j322 t k7 x1 x2 x3 x4 y0 s = some r) (hH : d_V t h s) (l0 : p_lk 0 ls = some (.ref 48)) (r_x1 : True) (l1 : p_lk 1 ls = some (d_pv x1)) (r_x2 : d_R x2) (l2 : p_lk 2 ls = some (.int (Int32.ofInt x2))) (r_x3 : d_R x3) (l3 : p_lk 3 ls = some (.int (Int32.ofInt x3))) (r_x4 : d_R x4) (l4 : p_lk 4 ls = some (.int (Int32.ofInt x4))) (r_y0 : d_RL y0) (hk7 : ∀ {x1 : Option Nat} {x2 : Int} {x3 : Int} {x4 : Int} {ls : p_Ls} {s : d_S} {h : p_H}, k7 x1 x2 x3 x4 s = some r → d_V t h s → p_lk 0 ls = some (.ref 48) → True → p_lk 1 ls = some (d_pv x1) → d_R x2 → p_lk 2 ls = some (.int (Int32.ofInt x2)) → d_R x3 → p_lk 3 ls = some (.int (Int32.ofInt x3)) → d_R x4 → p_lk 4 ls = some (.int (Int32.ofInt x4)) → p_wp p_GT p_MT 1 m_X1_reckon 7 ls [] h (d_QI t r)) : p_wp p_GT p_MT 1 m_X1_reckon 322 ls [.long (Int64.ofInt y0)] h (d_QI t r) := by
  unfold F_X1_reckon_j322 at hF
  refine dw_lls rfl rfl (?_)
  exact D_X1_reckon_j324 hF hH (d_s2 l0 rfl (by decide) (by decide)) r_x1 (d_s2o l1 (by decide) (by decide)) r_x2 (d_s2 l2 rfl (by decide) (by decide)) r_x3 (d_s2 l3 rfl (by decide) (by decide)) r_x4 (d_s2 l4 rfl (by decide) (by decide)) r_y0 p_lk_s2 hk7
set_option maxRecDepth 100000 in
noncomputable def F_X1_reckon_j212 (t : Nat → Option p_C) (k7 : (Option Nat) → Int → Int → Int → d_S → Option (Int × d_S)) (x1 : Option Nat) (x2 : Int) (x3 : Int) (x4 : Int) (x5 : Int) (s : d_S) : Option (Int × d_S) :=
  if x5 < 5 then
  k7 x1 x2 x3 (d_w (x4 + 1)) s
  else
  if 1 < x2 then
  d_g (0 ≤ (d_w ((d_w (x2 + (-1))) - 1)) ∧ (d_w ((d_w (x2 + (-1))) - 1)) < 32) (d_g (0 ≤ (d_w (x2 + (-1))) ∧ (d_w (x2 + (-1))) < 32) (
  if x5 = 5 then
  F_X1_reckon_j324 t k7 x1 (d_w (x2 + (-1))) x3 x4 (d_W ((s.1 50 (((d_w ((d_w (x2 + (-1))) - 1))).toNat)) + (s.1 50 (((d_w (x2 + (-1)))).toNat)))) s
  else
  if x5 = 6 then
  F_X1_reckon_j324 t k7 x1 (d_w (x2 + (-1))) x3 x4 (d_W ((s.1 50 (((d_w ((d_w (x2 + (-1))) - 1))).toNat)) - (s.1 50 (((d_w (x2 + (-1)))).toNat)))) s
  else
  if x5 = 7 then
  F_X1_reckon_j324 t k7 x1 (d_w (x2 + (-1))) x3 x4 (d_W ((s.1 50 (((d_w ((d_w (x2 + (-1))) - 1))).toNat)) * (s.1 50 (((d_w (x2 + (-1)))).toNat)))) s
  else
  if (s.1 50 (((d_w (x2 + (-1)))).toNat)) = 0 then
  F_X1_reckon_j322 t k7 x1 (d_w (x2 + (-1))) x3 x4 0 s
  else
  d_g (¬ (s.1 50 (((d_w (x2 + (-1)))).toNat)) = 0) (F_X1_reckon_j322 t k7 x1 (d_w (x2 + (-1))) x3 x4 (d_divL (s.1 50 (((d_w ((d_w (x2 + (-1))) - 1))).toNat)) (s.1 50 (((d_w (x2 + (-1)))).toNat))) s)))
  else
  k7 x1 x2 x3 (d_w (x4 + 1)) s
set_option maxRecDepth 100000 in
theorem D_X1_reckon_j212 {t : Nat → Option p_C} {h : p_H} {s : d_S} {k7 : (Option Nat) → Int → Int → Int → d_S → Option (Int × d_S)} {x1 : Option Nat} {x2 : Int} {x3 : Int} {x4 : Int} {x5 : Int} {r : Int × d_S} {ls : p_Ls} (hF : F_X1_reckon_j212 t k7 x1 x2 x3 x4 x5 s = some r) (hH : d_V t h s) (l0 : p_lk 0 ls = some (.ref 48)) (r_x1 : True) (l1 : p_lk 1 ls = some (d_pv x1)) (r_x2 : d_R x2) (l2 : p_lk 2 ls = some (.int (Int32.ofInt x2))) (r_x3 : d_R x3) (l3 : p_lk 3 ls = some (.int (Int32.ofInt x3))) (r_x4 : d_R x4) (l4 : p_lk 4 ls = some (.int (Int32.ofInt x4))) (r_x5 : d_R x5) (l5 : p_lk 5 ls = some (.int (Int32.ofInt x5))) (hk7 : ∀ {x1 : Option Nat} {x2 : Int} {x3 : Int} {x4 : Int} {ls : p_Ls} {s : d_S} {h : p_H}, k7 x1 x2 x3 x4 s = some r → d_V t h s → p_lk 0 ls = some (.ref 48) → True → p_lk 1 ls = some (d_pv x1) → d_R x2 → p_lk 2 ls = some (.int (Int32.ofInt x2)) → d_R x3 → p_lk 3 ls = some (.int (Int32.ofInt x3)) → d_R x4 → p_lk 4 ls = some (.int (Int32.ofInt x4)) → p_wp p_GT p_MT 1 m_X1_reckon 7 ls [] h (d_QI t r)) : p_wp p_GT p_MT 1 m_X1_reckon 212 ls [] h (d_QI t r) := by
  unfold F_X1_reckon_j212 at hF
  refine dw_il rfl l5 (dw_ic rfl (?_))
  refine d_if hF (fun q hF => ?_) (fun q hF => ?_)
  · refine dw_lt_y rfl (u := 347) rfl r_x5 (d_rl rfl) q ?_
    refine dw_ii rfl l4 rfl (dw_go rfl (u := 7) rfl (?_))
    exact hk7 hF hH (d_s1 l0 rfl (by decide)) r_x1 (d_s1o l1 (by decide)) r_x2 (d_s1 l2 rfl (by decide)) r_x3 (d_s1 l3 rfl (by decide)) d_R_w p_lk_s1
  · refine dw_lt_n rfl (u := 347) rfl r_x5 (d_rl rfl) q ?_
    refine dw_iln rfl l2 (dw_ic rfl (?_))
    refine d_if hF (fun q hF => ?_) (fun q hF => ?_)
    · refine dw_le_y rfl (u := 347) rfl r_x2 (d_rl rfl) q ?_
      refine dw_ii rfl l2 rfl (dw_aln rfl (d_s1 l0 rfl (by decide)) (dw_gr rfl rfl rfl hH d_c48_1 (dw_iln rfl p_lk_s1 (dw_ic rfl (dw_sub rfl (dw_w1 (d_gd hF (fun g18 hF => dw_ald rfl hH d_a50 rfl g18.1 g18.2 d_R_w rfl (dw_i2l rfl hH.r (?_))))))))))
      refine dw_lls rfl rfl (dw_aln rfl (d_s2 (d_s1 l0 rfl (by decide)) rfl (by decide) (by decide)) (dw_gr rfl rfl rfl hH d_c48_1 (dw_iln rfl (d_s2 p_lk_s1 rfl (by decide) (by decide)) (d_gd hF (fun g19 hF => dw_ald rfl hH d_a50 rfl g19.1 g19.2 d_R_w rfl (dw_i2l rfl hH.r (dw_lls rfl rfl (dw_lc rfl (x := 0) rfl (dw_lls rfl rfl (?_))))))))))
      refine dw_il rfl (d_s2 (d_s2 (d_s2 (d_s1 l5 rfl (by decide)) rfl (by decide) (by decide)) rfl (by decide) (by decide)) rfl (by decide) (by decide)) (?_)
      refine d_if hF (fun q hF => ?_) (fun q0 hF => ?_)
      · refine dw_ts rfl r_x5 (u := 276) (by rw [q]; rfl) ?_
        refine dw_ll rfl (d_s2l (d_s2l p_lk_s2 (by decide) (by decide) (by decide)) (by decide) (by decide) (by decide)) (dw_ll rfl (d_s2l p_lk_s2 (by decide) (by decide) (by decide)) (dw_addL rfl (dw_wL1 (dw_lls rfl rfl (dw_go rfl (u := 324) rfl (?_))))))
        exact D_X1_reckon_j324 hF hH (d_s2 (d_s2 (d_s2 (d_s2 (d_s1 l0 rfl (by decide)) rfl (by decide) (by decide)) rfl (by decide) (by decide)) rfl (by decide) (by decide)) rfl (by decide) (by decide)) r_x1 (d_s2o (d_s2o (d_s2o (d_s2o (d_s1o l1 (by decide)) (by decide) (by decide)) (by decide) (by decide)) (by decide) (by decide)) (by decide) (by decide)) d_R_w (d_s2 (d_s2 (d_s2 (d_s2 p_lk_s1 rfl (by decide) (by decide)) rfl (by decide) (by decide)) rfl (by decide) (by decide)) rfl (by decide) (by decide)) r_x3 (d_s2 (d_s2 (d_s2 (d_s2 (d_s1 l3 rfl (by decide)) rfl (by decide) (by decide)) rfl (by decide) (by decide)) rfl (by decide) (by decide)) rfl (by decide) (by decide)) r_x4 (d_s2 (d_s2 (d_s2 (d_s2 (d_s1 l4 rfl (by decide)) rfl (by decide) (by decide)) rfl (by decide) (by decide)) rfl (by decide) (by decide)) rfl (by decide) (by decide)) d_RL_W p_lk_s2 hk7
      refine d_if hF (fun q hF => ?_) (fun q1 hF => ?_)
      · refine dw_ts rfl r_x5 (u := 286) (by rw [q]; rfl) ?_
        refine dw_ll rfl (d_s2l (d_s2l p_lk_s2 (by decide) (by decide) (by decide)) (by decide) (by decide) (by decide)) (dw_ll rfl (d_s2l p_lk_s2 (by decide) (by decide) (by decide)) (dw_subL rfl (dw_wL1 (dw_lls rfl rfl (dw_go rfl (u := 324) rfl (?_))))))
        exact D_X1_reckon_j324 hF hH (d_s2 (d_s2 (d_s2 (d_s2 (d_s1 l0 rfl (by decide)) rfl (by decide) (by decide)) rfl (by decide) (by decide)) rfl (by decide) (by decide)) rfl (by decide) (by decide)) r_x1 (d_s2o (d_s2o (d_s2o (d_s2o (d_s1o l1 (by decide)) (by decide) (by decide)) (by decide) (by decide)) (by decide) (by decide)) (by decide) (by decide)) d_R_w (d_s2 (d_s2 (d_s2 (d_s2 p_lk_s1 rfl (by decide) (by decide)) rfl (by decide) (by decide)) rfl (by decide) (by decide)) rfl (by decide) (by decide)) r_x3 (d_s2 (d_s2 (d_s2 (d_s2 (d_s1 l3 rfl (by decide)) rfl (by decide) (by decide)) rfl (by decide) (by decide)) rfl (by decide) (by decide)) rfl (by decide) (by decide)) r_x4 (d_s2 (d_s2 (d_s2 (d_s2 (d_s1 l4 rfl (by decide)) rfl (by decide) (by decide)) rfl (by decide) (by decide)) rfl (by decide) (by decide)) rfl (by decide) (by decide)) d_RL_W p_lk_s2 hk7
      refine d_if hF (fun q hF => ?_) (fun q2 hF => ?_)
      · refine dw_ts rfl r_x5 (u := 296) (by rw [q]; rfl) ?_
        refine dw_ll rfl (d_s2l (d_s2l p_lk_s2 (by decide) (by decide) (by decide)) (by decide) (by decide) (by decide)) (dw_ll rfl (d_s2l p_lk_s2 (by decide) (by decide) (by decide)) (dw_mulL rfl (dw_wL1 (dw_lls rfl rfl (dw_go rfl (u := 324) rfl (?_))))))
        exact D_X1_reckon_j324 hF hH (d_s2 (d_s2 (d_s2 (d_s2 (d_s1 l0 rfl (by decide)) rfl (by decide) (by decide)) rfl (by decide) (by decide)) rfl (by decide) (by decide)) rfl (by decide) (by decide)) r_x1 (d_s2o (d_s2o (d_s2o (d_s2o (d_s1o l1 (by decide)) (by decide) (by decide)) (by decide) (by decide)) (by decide) (by decide)) (by decide) (by decide)) d_R_w (d_s2 (d_s2 (d_s2 (d_s2 p_lk_s1 rfl (by decide) (by decide)) rfl (by decide) (by decide)) rfl (by decide) (by decide)) rfl (by decide) (by decide)) r_x3 (d_s2 (d_s2 (d_s2 (d_s2 (d_s1 l3 rfl (by decide)) rfl (by decide) (by decide)) rfl (by decide) (by decide)) rfl (by decide) (by decide)) rfl (by decide) (by decide)) r_x4 (d_s2 (d_s2 (d_s2 (d_s2 (d_s1 l4 rfl (by decide)) rfl (by decide) (by decide)) rfl (by decide) (by decide)) rfl (by decide) (by decide)) rfl (by decide) (by decide)) d_RL_W p_lk_s2 hk7
      refine dw_ts rfl r_x5 (u := 306) (by rw [if_pos (by omega)]; rfl) ?_
      refine dw_ll rfl (d_s2l p_lk_s2 (by decide) (by decide) (by decide)) (dw_lc rfl (x := 0) rfl (?_))
      refine d_if hF (fun q hF => ?_) (fun q hF => ?_)
      · refine dw_Lne_y rfl rfl (u := 317) rfl (d_RL_R hH.r) (d_rll rfl) q ?_
        refine dw_lc rfl (x := 0) rfl (dw_go rfl (u := 322) rfl (?_))
        exact D_X1_reckon_j322 hF hH (d_s2 (d_s2 (d_s2 (d_s1 l0 rfl (by decide)) rfl (by decide) (by decide)) rfl (by decide) (by decide)) rfl (by decide) (by decide)) r_x1 (d_s2o (d_s2o (d_s2o (d_s1o l1 (by decide)) (by decide) (by decide)) (by decide) (by decide)) (by decide) (by decide)) d_R_w (d_s2 (d_s2 (d_s2 p_lk_s1 rfl (by decide) (by decide)) rfl (by decide) (by decide)) rfl (by decide) (by decide)) r_x3 (d_s2 (d_s2 (d_s2 (d_s1 l3 rfl (by decide)) rfl (by decide) (by decide)) rfl (by decide) (by decide)) rfl (by decide) (by decide)) r_x4 (d_s2 (d_s2 (d_s2 (d_s1 l4 rfl (by decide)) rfl (by decide) (by decide)) rfl (by decide) (by decide)) rfl (by decide) (by decide)) (d_rll rfl) hk7
      · refine dw_Lne_n rfl rfl (u := 317) rfl (d_RL_R hH.r) (d_rll rfl) q ?_
        refine dw_ll rfl (d_s2l (d_s2l p_lk_s2 (by decide) (by decide) (by decide)) (by decide) (by decide) (by decide)) (dw_ll rfl (d_s2l p_lk_s2 (by decide) (by decide) (by decide)) (d_gd hF (fun g24 hF => dw_divL rfl (d_RL_R hH.r) g24 (?_))))
        exact D_X1_reckon_j322 hF hH (d_s2 (d_s2 (d_s2 (d_s1 l0 rfl (by decide)) rfl (by decide) (by decide)) rfl (by decide) (by decide)) rfl (by decide) (by decide)) r_x1 (d_s2o (d_s2o (d_s2o (d_s1o l1 (by decide)) (by decide) (by decide)) (by decide) (by decide)) (by decide) (by decide)) d_R_w (d_s2 (d_s2 (d_s2 p_lk_s1 rfl (by decide) (by decide)) rfl (by decide) (by decide)) rfl (by decide) (by decide)) r_x3 (d_s2 (d_s2 (d_s2 (d_s1 l3 rfl (by decide)) rfl (by decide) (by decide)) rfl (by decide) (by decide)) rfl (by decide) (by decide)) r_x4 (d_s2 (d_s2 (d_s2 (d_s1 l4 rfl (by decide)) rfl (by decide) (by decide)) rfl (by decide) (by decide)) rfl (by decide) (by decide)) d_RL_t hk7
    · refine dw_le_n rfl (u := 347) rfl r_x2 (d_rl rfl) q ?_
      refine dw_ii rfl l4 rfl (dw_go rfl (u := 7) rfl (?_))
      exact hk7 hF hH (d_s1 l0 rfl (by decide)) r_x1 (d_s1o l1 (by decide)) r_x2 (d_s1 l2 rfl (by decide)) r_x3 (d_s1 l3 rfl (by decide)) d_R_w p_lk_s1
set_option maxRecDepth 100000 in
noncomputable def F_X1_reckon_j161 (t : Nat → Option p_C) (k7 : (Option Nat) → Int → Int → Int → d_S → Option (Int × d_S)) (x1 : Option Nat) (x2 : Int) (x3 : Int) (x4 : Int) (x5 : Int) (x6 : Int) (s : d_S) : Option (Int × d_S) :=
  if x5 = 4 then
  if 0 < x2 then
  if x6 = 0 then
  k7 x1 (d_w (x2 + (-1))) x3 (d_w (x4 + 1)) s
  else
  d_g (0 ≤ (d_w (x2 - 1)) ∧ (d_w (x2 - 1)) < 32) (if 1 < (s.1 50 (((d_w (x2 - 1))).toNat)) then
  d_g (0 ≤ (d_w (x2 - 1)) ∧ (d_w (x2 - 1)) < 32) (d_g (0 ≤ (d_w (x2 - 1)) ∧ (d_w (x2 - 1)) < 32) (d_l (d_si s 50 (((d_w (x2 - 1))).toNat) (d_w ((s.1 50 (((d_w (x2 - 1))).toNat)) - 1))) (fun s17 => k7 x1 x2 x6 (d_w (x4 + 1)) s17)))
  else
  k7 x1 (d_w (x2 + (-1))) x3 (d_w (x4 + 1)) s)
  else
  F_X1_reckon_j212 t k7 x1 x2 x3 x4 x5 s
  else
  F_X1_reckon_j212 t k7 x1 x2 x3 x4 x5 s
set_option maxRecDepth 100000 in
theorem D_X1_reckon_j161 {t : Nat → Option p_C} {h : p_H} {s : d_S} {k7 : (Option Nat) → Int → Int → Int → d_S → Option (Int × d_S)} {x1 : Option Nat} {x2 : Int} {x3 : Int} {x4 : Int} {x5 : Int} {x6 : Int} {r : Int × d_S} {ls : p_Ls} (hF : F_X1_reckon_j161 t k7 x1 x2 x3 x4 x5 x6 s = some r) (hH : d_V t h s) (l0 : p_lk 0 ls = some (.ref 48)) (r_x1 : True) (l1 : p_lk 1 ls = some (d_pv x1)) (r_x2 : d_R x2) (l2 : p_lk 2 ls = some (.int (Int32.ofInt x2))) (r_x3 : d_R x3) (l3 : p_lk 3 ls = some (.int (Int32.ofInt x3))) (r_x4 : d_R x4) (l4 : p_lk 4 ls = some (.int (Int32.ofInt x4))) (r_x5 : d_R x5) (l5 : p_lk 5 ls = some (.int (Int32.ofInt x5))) (r_x6 : d_R x6) (l6 : p_lk 6 ls = some (.int (Int32.ofInt x6))) (hk7 : ∀ {x1 : Option Nat} {x2 : Int} {x3 : Int} {x4 : Int} {ls : p_Ls} {s : d_S} {h : p_H}, k7 x1 x2 x3 x4 s = some r → d_V t h s → p_lk 0 ls = some (.ref 48) → True → p_lk 1 ls = some (d_pv x1) → d_R x2 → p_lk 2 ls = some (.int (Int32.ofInt x2)) → d_R x3 → p_lk 3 ls = some (.int (Int32.ofInt x3)) → d_R x4 → p_lk 4 ls = some (.int (Int32.ofInt x4)) → p_wp p_GT p_MT 1 m_X1_reckon 7 ls [] h (d_QI t r)) : p_wp p_GT p_MT 1 m_X1_reckon 161 ls [] h (d_QI t r) := by
  unfold F_X1_reckon_j161 at hF
  refine dw_il rfl l5 (dw_ic rfl (?_))
  refine d_if hF (fun q hF => ?_) (fun q hF => ?_)
  · refine dw_ne_y rfl (u := 212) rfl r_x5 (d_rl rfl) q ?_
    refine dw_iln rfl l2 (?_)
    refine d_if hF (fun q hF => ?_) (fun q hF => ?_)
    · refine dw_zle_y rfl (u := 212) rfl r_x2 q ?_
      refine dw_il rfl l6 (?_)
      refine d_if hF (fun q hF => ?_) (fun q hF => ?_)
      · refine dw_zeq_y rfl (u := 188) rfl r_x6 q ?_
        refine dw_ii rfl l2 rfl (dw_go rfl (u := 347) rfl (dw_ii rfl (d_s1 l4 rfl (by decide)) rfl (dw_go rfl (u := 7) rfl (?_))))
        exact hk7 hF hH (d_s1 (d_s1 l0 rfl (by decide)) rfl (by decide)) r_x1 (d_s1o (d_s1o l1 (by decide)) (by decide)) d_R_w (d_s1 p_lk_s1 rfl (by decide)) r_x3 (d_s1 (d_s1 l3 rfl (by decide)) rfl (by decide)) d_R_w p_lk_s1
      · refine dw_zeq_n rfl (u := 188) rfl r_x6 q ?_
        refine dw_aln rfl l0 (dw_gr rfl rfl rfl hH d_c48_1 (dw_iln rfl l2 (dw_ic rfl (dw_sub rfl (dw_w1 (d_gd hF (fun g14 hF => dw_ald rfl hH d_a50 rfl g14.1 g14.2 d_R_w rfl (dw_ic rfl (?_)))))))))
        refine d_if hF (fun q hF => ?_) (fun q hF => ?_)
        · refine dw_gt_y rfl (u := 194) rfl hH.r (d_rl rfl) q ?_
          refine dw_aln rfl l0 (dw_gr rfl rfl rfl hH d_c48_1 (dw_iln rfl l2 (dw_ic rfl (dw_sub rfl (dw_w1 (dw_dup2 rfl (d_gd hF (fun g15 hF => dw_ald rfl hH d_a50 rfl g15.1 g15.2 d_R_w rfl (dw_ic rfl (?_))))))))))
          refine dw_sub rfl (dw_w1 (d_gd hF (fun g16 hF => dw_ast rfl hH d_a50 g16.1 g16.2 d_R_w rfl d_R_w hF (fun s17 h17 hH17 hF => dw_il rfl l6 (dw_isn rfl rfl (dw_go rfl (u := 347) rfl (dw_ii rfl (d_s1 l4 rfl (by decide)) rfl (dw_go rfl (u := 7) rfl (?_)))))))))
          exact hk7 hF hH17 (d_s1 (d_s1 l0 rfl (by decide)) rfl (by decide)) r_x1 (d_s1o (d_s1o l1 (by decide)) (by decide)) r_x2 (d_s1 (d_s1 l2 rfl (by decide)) rfl (by decide)) r_x6 (d_s1 p_lk_s1 rfl (by decide)) d_R_w p_lk_s1
        · refine dw_gt_n rfl (u := 194) rfl hH.r (d_rl rfl) q ?_
          refine dw_ii rfl l2 rfl (dw_go rfl (u := 347) rfl (dw_ii rfl (d_s1 l4 rfl (by decide)) rfl (dw_go rfl (u := 7) rfl (?_))))
          exact hk7 hF hH (d_s1 (d_s1 l0 rfl (by decide)) rfl (by decide)) r_x1 (d_s1o (d_s1o l1 (by decide)) (by decide)) d_R_w (d_s1 p_lk_s1 rfl (by decide)) r_x3 (d_s1 (d_s1 l3 rfl (by decide)) rfl (by decide)) d_R_w p_lk_s1
    · refine dw_zle_n rfl (u := 212) rfl r_x2 q ?_
      exact D_X1_reckon_j212 hF hH l0 r_x1 l1 r_x2 l2 r_x3 l3 r_x4 l4 r_x5 l5 hk7
  · refine dw_ne_n rfl (u := 212) rfl r_x5 (d_rl rfl) q ?_
    exact D_X1_reckon_j212 hF hH l0 r_x1 l1 r_x2 l2 r_x3 l3 r_x4 l4 r_x5 l5 hk7
set_option maxRecDepth 100000 in
noncomputable def F_X1_reckon_j131 (t : Nat → Option p_C) (k7 : (Option Nat) → Int → Int → Int → d_S → Option (Int × d_S)) (x1 : Option Nat) (x2 : Int) (x3 : Int) (x4 : Int) (x5 : Int) (x6 : Int) (s : d_S) : Option (Int × d_S) :=
  if x5 = 2 then
  if 0 < x2 then
  d_g (0 ≤ (d_w (x2 - 1)) ∧ (d_w (x2 - 1)) < 32) (d_g (0 ≤ (d_w (x2 - 1)) ∧ (d_w (x2 - 1)) < 32) (d_l (d_si s 50 (((d_w (x2 - 1))).toNat) (d_w (-(s.1 50 (((d_w (x2 - 1))).toNat))))) (fun s13 => k7 x1 x2 x3 (d_w (x4 + 1)) s13)))
  else
  F_X1_reckon_j161 t k7 x1 x2 x3 x4 x5 x6 s
  else
  F_X1_reckon_j161 t k7 x1 x2 x3 x4 x5 x6 s
set_option maxRecDepth 100000 in
theorem D_X1_reckon_j131 {t : Nat → Option p_C} {h : p_H} {s : d_S} {k7 : (Option Nat) → Int → Int → Int → d_S → Option (Int × d_S)} {x1 : Option Nat} {x2 : Int} {x3 : Int} {x4 : Int} {x5 : Int} {x6 : Int} {r : Int × d_S} {ls : p_Ls} (hF : F_X1_reckon_j131 t k7 x1 x2 x3 x4 x5 x6 s = some r) (hH : d_V t h s) (l0 : p_lk 0 ls = some (.ref 48)) (r_x1 : True) (l1 : p_lk 1 ls = some (d_pv x1)) (r_x2 : d_R x2) (l2 : p_lk 2 ls = some (.int (Int32.ofInt x2))) (r_x3 : d_R x3) (l3 : p_lk 3 ls = some (.int (Int32.ofInt x3))) (r_x4 : d_R x4) (l4 : p_lk 4 ls = some (.int (Int32.ofInt x4))) (r_x5 : d_R x5) (l5 : p_lk 5 ls = some (.int (Int32.ofInt x5))) (r_x6 : d_R x6) (l6 : p_lk 6 ls = some (.int (Int32.ofInt x6))) (hk7 : ∀ {x1 : Option Nat} {x2 : Int} {x3 : Int} {x4 : Int} {ls : p_Ls} {s : d_S} {h : p_H}, k7 x1 x2 x3 x4 s = some r → d_V t h s → p_lk 0 ls = some (.ref 48) → True → p_lk 1 ls = some (d_pv x1) → d_R x2 → p_lk 2 ls = some (.int (Int32.ofInt x2)) → d_R x3 → p_lk 3 ls = some (.int (Int32.ofInt x3)) → d_R x4 → p_lk 4 ls = some (.int (Int32.ofInt x4)) → p_wp p_GT p_MT 1 m_X1_reckon 7 ls [] h (d_QI t r)) : p_wp p_GT p_MT 1 m_X1_reckon 131 ls [] h (d_QI t r) := by
  unfold F_X1_reckon_j131 at hF
  refine dw_il rfl l5 (dw_ic rfl (?_))
  refine d_if hF (fun q hF => ?_) (fun q hF => ?_)
  · refine dw_ne_y rfl (u := 161) rfl r_x5 (d_rl rfl) q ?_
    refine dw_iln rfl l2 (?_)
    refine d_if hF (fun q hF => ?_) (fun q hF => ?_)
    · refine dw_zle_y rfl (u := 161) rfl r_x2 q ?_
      refine dw_aln rfl l0 (dw_gr rfl rfl rfl hH d_c48_1 (dw_iln rfl l2 (dw_ic rfl (dw_sub rfl (dw_aln rfl l0 (dw_gr rfl rfl rfl hH d_c48_1 (dw_iln rfl l2 (dw_ic rfl (dw_sub rfl (?_))))))))))
      refine dw_w1 (d_gd hF (fun g11 hF => dw_ald rfl hH d_a50 rfl g11.1 g11.2 d_R_w rfl (dw_neg rfl (dw_w1 (dw_w2 (d_gd hF (fun g12 hF => dw_ast rfl hH d_a50 g12.1 g12.2 d_R_w rfl d_R_w hF (fun s13 h13 hH13 hF => dw_go rfl (u := 347) rfl (dw_ii rfl l4 rfl (?_))))))))))
      refine dw_go rfl (u := 7) rfl (?_)
      exact hk7 hF hH13 (d_s1 l0 rfl (by decide)) r_x1 (d_s1o l1 (by decide)) r_x2 (d_s1 l2 rfl (by decide)) r_x3 (d_s1 l3 rfl (by decide)) d_R_w p_lk_s1
    · refine dw_zle_n rfl (u := 161) rfl r_x2 q ?_
      exact D_X1_reckon_j161 hF hH l0 r_x1 l1 r_x2 l2 r_x3 l3 r_x4 l4 r_x5 l5 r_x6 l6 hk7
  · refine dw_ne_n rfl (u := 161) rfl r_x5 (d_rl rfl) q ?_
    exact D_X1_reckon_j161 hF hH l0 r_x1 l1 r_x2 l2 r_x3 l3 r_x4 l4 r_x5 l5 r_x6 l6 hk7
set_option maxRecDepth 100000 in
noncomputable def F_X1_reckon_j82 (t : Nat → Option p_C) (k7 : (Option Nat) → Int → Int → Int → d_S → Option (Int × d_S)) (x1 : Option Nat) (x2 : Int) (x3 : Int) (x4 : Int) (x5 : Int) (x6 : Int) (s : d_S) : Option (Int × d_S) :=
  if x5 = 1 then
  if x2 < 32 then
  if x6 < 0 then
  F_X1_reckon_j131 t k7 x1 x2 x3 x4 x5 x6 s
  else
  if x6 < 8 then
  d_g (0 ≤ x6 ∧ x6 < 8) (d_g (0 ≤ x2 ∧ x2 < 32) (d_l (d_si s 50 ((x2).toNat) (s.1 49 (x6.toNat))) (fun s27 => k7 x1 (d_w (x2 + 1)) x3 (d_w (x4 + 1)) s27)))
  else
  F_X1_reckon_j131 t k7 x1 x2 x3 x4 x5 x6 s
  else
  F_X1_reckon_j131 t k7 x1 x2 x3 x4 x5 x6 s
  else
  F_X1_reckon_j131 t k7 x1 x2 x3 x4 x5 x6 s
set_option maxRecDepth 100000 in
theorem D_X1_reckon_j82 {t : Nat → Option p_C} {h : p_H} {s : d_S} {k7 : (Option Nat) → Int → Int → Int → d_S → Option (Int × d_S)} {x1 : Option Nat} {x2 : Int} {x3 : Int} {x4 : Int} {x5 : Int} {x6 : Int} {r : Int × d_S} {ls : p_Ls} (hF : F_X1_reckon_j82 t k7 x1 x2 x3 x4 x5 x6 s = some r) (hH : d_V t h s) (l0 : p_lk 0 ls = some (.ref 48)) (r_x1 : True) (l1 : p_lk 1 ls = some (d_pv x1)) (r_x2 : d_R x2) (l2 : p_lk 2 ls = some (.int (Int32.ofInt x2))) (r_x3 : d_R x3) (l3 : p_lk 3 ls = some (.int (Int32.ofInt x3))) (r_x4 : d_R x4) (l4 : p_lk 4 ls = some (.int (Int32.ofInt x4))) (r_x5 : d_R x5) (l5 : p_lk 5 ls = some (.int (Int32.ofInt x5))) (r_x6 : d_R x6) (l6 : p_lk 6 ls = some (.int (Int32.ofInt x6))) (hk7 : ∀ {x1 : Option Nat} {x2 : Int} {x3 : Int} {x4 : Int} {ls : p_Ls} {s : d_S} {h : p_H}, k7 x1 x2 x3 x4 s = some r → d_V t h s → p_lk 0 ls = some (.ref 48) → True → p_lk 1 ls = some (d_pv x1) → d_R x2 → p_lk 2 ls = some (.int (Int32.ofInt x2)) → d_R x3 → p_lk 3 ls = some (.int (Int32.ofInt x3)) → d_R x4 → p_lk 4 ls = some (.int (Int32.ofInt x4)) → p_wp p_GT p_MT 1 m_X1_reckon 7 ls [] h (d_QI t r)) : p_wp p_GT p_MT 1 m_X1_reckon 82 ls [] h (d_QI t r) := by
  unfold F_X1_reckon_j82 at hF
  refine dw_il rfl l5 (dw_ic rfl (?_))
  refine d_if hF (fun q hF => ?_) (fun q hF => ?_)
  · refine dw_ne_y rfl (u := 131) rfl r_x5 (d_rl rfl) q ?_
    refine dw_iln rfl l2 (dw_aln rfl l0 (dw_gr rfl rfl rfl hH d_c48_1 (dw_len rfl hH d_a50 rfl (z := 32) rfl (?_))))
    refine d_if hF (fun q hF => ?_) (fun q hF => ?_)
    · refine dw_ge_y rfl (u := 131) rfl r_x2 (d_rl rfl) q ?_
      refine dw_il rfl l6 (?_)
      refine d_if hF (fun q hF => ?_) (fun q hF => ?_)
      · refine dw_zlt_y rfl (u := 131) rfl r_x6 q ?_
        exact D_X1_reckon_j131 hF hH l0 r_x1 l1 r_x2 l2 r_x3 l3 r_x4 l4 r_x5 l5 r_x6 l6 hk7
      · refine dw_zlt_n rfl (u := 131) rfl r_x6 q ?_
        refine dw_il rfl l6 (dw_aln rfl l0 (dw_gr rfl rfl rfl hH d_c48_0 (dw_len rfl hH d_a49 rfl (z := 8) rfl (?_))))
        refine d_if hF (fun q hF => ?_) (fun q hF => ?_)
        · refine dw_ge_y rfl (u := 131) rfl r_x6 (d_rl rfl) q ?_
          refine dw_aln rfl l0 (dw_gr rfl rfl rfl hH d_c48_1 (dw_iln rfl l2 (dw_aln rfl l0 (dw_gr rfl rfl rfl hH d_c48_0 (dw_il rfl l6 (d_gd hF (fun g25 hF => dw_ald rfl hH d_a49 rfl g25.1 g25.2 r_x6 rfl (d_gd hF (fun g26 hF => dw_ast rfl hH d_a50 g26.1 g26.2 r_x2 rfl hH.r hF (fun s27 h27 hH27 hF => ?_))))))))))
          refine dw_ii rfl l2 rfl (dw_go rfl (u := 347) rfl (dw_ii rfl (d_s1 l4 rfl (by decide)) rfl (dw_go rfl (u := 7) rfl (?_))))
          exact hk7 hF hH27 (d_s1 (d_s1 l0 rfl (by decide)) rfl (by decide)) r_x1 (d_s1o (d_s1o l1 (by decide)) (by decide)) d_R_w (d_s1 p_lk_s1 rfl (by decide)) r_x3 (d_s1 (d_s1 l3 rfl (by decide)) rfl (by decide)) d_R_w p_lk_s1
        · refine dw_ge_n rfl (u := 131) rfl r_x6 (d_rl rfl) q ?_
          exact D_X1_reckon_j131 hF hH l0 r_x1 l1 r_x2 l2 r_x3 l3 r_x4 l4 r_x5 l5 r_x6 l6 hk7
    · refine dw_ge_n rfl (u := 131) rfl r_x2 (d_rl rfl) q ?_
      exact D_X1_reckon_j131 hF hH l0 r_x1 l1 r_x2 l2 r_x3 l3 r_x4 l4 r_x5 l5 r_x6 l6 hk7
  · refine dw_ne_n rfl (u := 131) rfl r_x5 (d_rl rfl) q ?_
    exact D_X1_reckon_j131 hF hH l0 r_x1 l1 r_x2 l2 r_x3 l3 r_x4 l4 r_x5 l5 r_x6 l6 hk7
set_option maxRecDepth 100000 in
noncomputable def F_X1_reckon_l7_b (t : Nat → Option p_C) (k353 : Int → d_S → Option (Int × d_S)) (rec : (Option Nat) → Int → Int → Int → d_S → Option (Int × d_S)) (x1 : Option Nat) (x2 : Int) (x3 : Int) (x4 : Int) (s : d_S) : Option (Int × d_S) :=
  d_b x1 (fun b1 => d_b (d_tn t b1) (fun v2 => if x4 < v2 then
  if x3 < 0 then
  k353 x2 s
  else
  d_b x1 (fun b3 => d_b (d_tn t b3) (fun v4 => if x3 < v4 then
  d_b x1 (fun b5 => d_b (d_tl t b5 x3) (fun v6 => d_b x1 (fun b7 => d_b (d_tl t b7 x3) (fun v8 => if (d_and v6 15) = 3 then
  rec x1 x2 (d_shr v8 4) (d_w (x4 + 1)) s
  else
  if (d_and v6 15) = 0 then
  if x2 < 32 then
  d_g (0 ≤ x2 ∧ x2 < 32) (d_l (d_si s 50 ((x2).toNat) (d_shr v8 4)) (fun s10 => rec x1 (d_w (x2 + 1)) (d_w (x3 + 1)) (d_w (x4 + 1)) s10))
  else
  F_X1_reckon_j82 t rec x1 x2 (d_w (x3 + 1)) x4 (d_and v6 15) (d_shr v8 4) s
  else
  F_X1_reckon_j82 t rec x1 x2 (d_w (x3 + 1)) x4 (d_and v6 15) (d_shr v8 4) s))))
  else
  k353 x2 s))
  else
  k353 x2 s))
set_option maxRecDepth 100000 in
noncomputable def F_X1_reckon_l7 (t : Nat → Option p_C) (k353 : Int → d_S → Option (Int × d_S)) : Nat → (Option Nat) → Int → Int → Int → d_S → Option (Int × d_S)
  | 0 => fun _ _ _ _ _ => none
  | n + 1 => F_X1_reckon_l7_b t k353 (F_X1_reckon_l7 t k353 n)
set_option maxRecDepth 100000 in
theorem D_X1_reckon_l7 {t : Nat → Option p_C} {k353 : Int → d_S → Option (Int × d_S)} {r : Int × d_S} (hk353 : ∀ {x2 : Int} {ls : p_Ls} {s : d_S} {h : p_H}, k353 x2 s = some r → d_V t h s → p_lk 0 ls = some (.ref 48) → d_R x2 → p_lk 2 ls = some (.int (Int32.ofInt x2)) → p_wp p_GT p_MT 1 m_X1_reckon 353 ls [] h (d_QI t r)) : ∀ (n : Nat) {x1 : Option Nat} {x2 : Int} {x3 : Int} {x4 : Int} {ls : p_Ls} {s : d_S} {h : p_H}, F_X1_reckon_l7 t k353 n x1 x2 x3 x4 s = some r → d_V t h s → p_lk 0 ls = some (.ref 48) → True → p_lk 1 ls = some (d_pv x1) → d_R x2 → p_lk 2 ls = some (.int (Int32.ofInt x2)) → d_R x3 → p_lk 3 ls = some (.int (Int32.ofInt x3)) → d_R x4 → p_lk 4 ls = some (.int (Int32.ofInt x4)) → p_wp p_GT p_MT 1 m_X1_reckon 7 ls [] h (d_QI t r) := by
  intro n
  induction n with
  | zero =>
    intro x1 x2 x3 x4 ls s h hF hH l0 r_x1 l1 r_x2 l2 r_x3 l3 r_x4 l4
    cases (show (none : Option (Int × d_S)) = some r from hF)
  | succ n ih =>
    intro x1 x2 x3 x4 ls s h hF hH l0 r_x1 l1 r_x2 l2 r_x3 l3 r_x4 l4
    have hF : F_X1_reckon_l7_b t k353 (F_X1_reckon_l7 t k353 n) x1 x2 x3 x4 s = some r := hF
    unfold F_X1_reckon_l7_b at hF
    refine dw_il rfl l4 (dw_alno rfl l1 (dw_oq1 hF r_x1 (fun b1 r_b1 hF => dw_tln hF rfl hH (fun v2 r_v2 hF => ?_))))
    refine d_if hF (fun q hF => ?_) (fun q hF => ?_)
    · refine dw_ge_y rfl (u := 353) rfl r_x4 r_v2 q ?_
      refine dw_iln rfl l3 (?_)
      refine d_if hF (fun q hF => ?_) (fun q hF => ?_)
      · refine dw_zlt_y rfl (u := 353) rfl r_x3 q ?_
        exact hk353 hF hH l0 r_x2 l2
      · refine dw_zlt_n rfl (u := 353) rfl r_x3 q ?_
        refine dw_iln rfl l3 (dw_alno rfl l1 (dw_oq1 hF r_x1 (fun b3 r_b3 hF => dw_tln hF rfl hH (fun v4 r_v4 hF => ?_))))
        refine d_if hF (fun q hF => ?_) (fun q hF => ?_)
        · refine dw_ge_y rfl (u := 353) rfl r_x3 r_v4 q ?_
          refine dw_alno rfl l1 (dw_iln rfl l3 (dw_oq2 hF r_x1 (fun b5 r_b5 hF => dw_tld hF rfl hH r_x3 (fun v6 r_v6 hF => dw_bp rfl rfl (dw_and rfl (dw_is rfl rfl (dw_alno rfl (d_s1o l1 (by decide)) (dw_iln rfl (d_s1 l3 rfl (by decide)) (dw_oq2 hF r_x1 (fun b7 r_b7 hF => ?_))))))))))
          refine dw_tld hF rfl hH r_x3 (fun v8 r_v8 hF => dw_ic rfl (dw_shr rfl (dw_is rfl rfl (dw_ii rfl (d_s1 (d_s1 l3 rfl (by decide)) rfl (by decide)) rfl (dw_il rfl (d_s1 (d_s1 p_lk_s1 rfl (by decide)) rfl (by decide)) (dw_ic rfl (?_)))))))
          refine d_if hF (fun q hF => ?_) (fun q hF => ?_)
          · refine dw_ne_y rfl (u := 54) rfl d_R_t (d_rl rfl) q ?_
            refine dw_il rfl (d_s1 p_lk_s1 rfl (by decide)) (dw_isn rfl rfl (dw_go rfl (u := 347) rfl (dw_ii rfl (d_s1 (d_s1 (d_s1 (d_s1 l4 rfl (by decide)) rfl (by decide)) rfl (by decide)) rfl (by decide)) rfl (dw_go rfl (u := 7) rfl (?_)))))
            exact ih hF hH (d_s1 (d_s1 (d_s1 (d_s1 (d_s1 l0 rfl (by decide)) rfl (by decide)) rfl (by decide)) rfl (by decide)) rfl (by decide)) r_x1 (d_s1o (d_s1o (d_s1o (d_s1o (d_s1o l1 (by decide)) (by decide)) (by decide)) (by decide)) (by decide)) r_x2 (d_s1 (d_s1 (d_s1 (d_s1 (d_s1 l2 rfl (by decide)) rfl (by decide)) rfl (by decide)) rfl (by decide)) rfl (by decide)) d_R_t (d_s1 p_lk_s1 rfl (by decide)) d_R_w p_lk_s1
          · refine dw_ne_n rfl (u := 54) rfl d_R_t (d_rl rfl) q ?_
            refine dw_il rfl (d_s1 (d_s1 p_lk_s1 rfl (by decide)) rfl (by decide)) (?_)
            refine d_if hF (fun q hF => ?_) (fun q hF => ?_)
            · refine dw_zne_y rfl (u := 82) rfl d_R_t q ?_
              refine dw_iln rfl (d_s1 (d_s1 (d_s1 l2 rfl (by decide)) rfl (by decide)) rfl (by decide)) (dw_aln rfl (d_s1 (d_s1 (d_s1 l0 rfl (by decide)) rfl (by decide)) rfl (by decide)) (dw_gr rfl rfl rfl hH d_c48_1 (dw_len rfl hH d_a50 rfl (z := 32) rfl (?_))))
              refine d_if hF (fun q hF => ?_) (fun q hF => ?_)
              · refine dw_ge_y rfl (u := 82) rfl r_x2 (d_rl rfl) q ?_
                refine dw_aln rfl (d_s1 (d_s1 (d_s1 l0 rfl (by decide)) rfl (by decide)) rfl (by decide)) (dw_gr rfl rfl rfl hH d_c48_1 (dw_iln rfl (d_s1 (d_s1 (d_s1 l2 rfl (by decide)) rfl (by decide)) rfl (by decide)) (dw_il rfl (d_s1 p_lk_s1 rfl (by decide)) (d_gd hF (fun g9 hF => dw_ast rfl hH d_a50 g9.1 g9.2 r_x2 rfl d_R_t hF (fun s10 h10 hH10 hF => dw_ii rfl (d_s1 (d_s1 (d_s1 l2 rfl (by decide)) rfl (by decide)) rfl (by decide)) rfl (dw_go rfl (u := 347) rfl (dw_ii rfl (d_s1 (d_s1 (d_s1 (d_s1 l4 rfl (by decide)) rfl (by decide)) rfl (by decide)) rfl (by decide)) rfl (dw_go rfl (u := 7) rfl (?_))))))))))
                exact ih hF hH10 (d_s1 (d_s1 (d_s1 (d_s1 (d_s1 l0 rfl (by decide)) rfl (by decide)) rfl (by decide)) rfl (by decide)) rfl (by decide)) r_x1 (d_s1o (d_s1o (d_s1o (d_s1o (d_s1o l1 (by decide)) (by decide)) (by decide)) (by decide)) (by decide)) d_R_w (d_s1 p_lk_s1 rfl (by decide)) d_R_w (d_s1 (d_s1 p_lk_s1 rfl (by decide)) rfl (by decide)) d_R_w p_lk_s1
              · refine dw_ge_n rfl (u := 82) rfl r_x2 (d_rl rfl) q ?_
                exact D_X1_reckon_j82 hF hH (d_s1 (d_s1 (d_s1 l0 rfl (by decide)) rfl (by decide)) rfl (by decide)) r_x1 (d_s1o (d_s1o (d_s1o l1 (by decide)) (by decide)) (by decide)) r_x2 (d_s1 (d_s1 (d_s1 l2 rfl (by decide)) rfl (by decide)) rfl (by decide)) d_R_w p_lk_s1 r_x4 (d_s1 (d_s1 (d_s1 l4 rfl (by decide)) rfl (by decide)) rfl (by decide)) d_R_t (d_s1 (d_s1 p_lk_s1 rfl (by decide)) rfl (by decide)) d_R_t (d_s1 p_lk_s1 rfl (by decide)) (fun {x1} {x2} {x3} {x4} {ls} {s} {h} hF hH l0 r_x1 l1 r_x2 l2 r_x3 l3 r_x4 l4 => ih hF hH l0 r_x1 l1 r_x2 l2 r_x3 l3 r_x4 l4)
            · refine dw_zne_n rfl (u := 82) rfl d_R_t q ?_
              exact D_X1_reckon_j82 hF hH (d_s1 (d_s1 (d_s1 l0 rfl (by decide)) rfl (by decide)) rfl (by decide)) r_x1 (d_s1o (d_s1o (d_s1o l1 (by decide)) (by decide)) (by decide)) r_x2 (d_s1 (d_s1 (d_s1 l2 rfl (by decide)) rfl (by decide)) rfl (by decide)) d_R_w p_lk_s1 r_x4 (d_s1 (d_s1 (d_s1 l4 rfl (by decide)) rfl (by decide)) rfl (by decide)) d_R_t (d_s1 (d_s1 p_lk_s1 rfl (by decide)) rfl (by decide)) d_R_t (d_s1 p_lk_s1 rfl (by decide)) (fun {x1} {x2} {x3} {x4} {ls} {s} {h} hF hH l0 r_x1 l1 r_x2 l2 r_x3 l3 r_x4 l4 => ih hF hH l0 r_x1 l1 r_x2 l2 r_x3 l3 r_x4 l4)
        · refine dw_ge_n rfl (u := 353) rfl r_x3 r_v4 q ?_
          exact hk353 hF hH l0 r_x2 l2
    · refine dw_ge_n rfl (u := 353) rfl r_x4 r_v2 q ?_
      exact hk353 hF hH l0 r_x2 l2
set_option maxRecDepth 100000 in
noncomputable def F_X1_reckon (t : Nat → Option p_C) (s : d_S) (x1 : Option Nat) : Option (Int × d_S) :=
  F_X1_reckon_l7 t (fun x2_u28 s_u28 =>
  if 0 < x2_u28 then
  d_g (0 ≤ (d_w (x2_u28 - 1)) ∧ (d_w (x2_u28 - 1)) < 32) (some ((s_u28.1 50 (((d_w (x2_u28 - 1))).toNat)), s_u28))
  else
  some (0, s_u28)) d_N x1 0 0 0 s
set_option maxRecDepth 100000 in
theorem D_X1_reckon {t : Nat → Option p_C} {h : p_H} {s : d_S} {x1 : Option Nat} {r : Int × d_S} (hF : F_X1_reckon t s x1 = some r) (hH : d_V t h s) (r_x1 : True) : p_wp p_GT p_MT 1 m_X1_reckon 0 (lv_args 0 [.ref 48, d_pv x1]) [] h (d_QI t r) := by
  have a0 : p_lk 0 (lv_args 0 [.ref 48, d_pv x1]) = some (.ref 48) := by cases x1 <;> rfl
  have a1 : p_lk 1 (lv_args 0 [.ref 48, d_pv x1]) = some (d_pv x1) := by cases x1 <;> rfl
  unfold F_X1_reckon at hF
  refine dw_ic rfl (dw_isn rfl rfl (dw_ic rfl (dw_isn rfl rfl (dw_ic rfl (dw_is rfl rfl (?_))))))
  refine D_X1_reckon_l7 (fun {x2_u28} {ls_u28} {s_u28} {h_u28} hF hH_u28 l0_u28 r_x2_u28 l2_u28 => ?_) _ hF hH (d_s1 (d_s1 (d_s1 a0 rfl (by decide)) rfl (by decide)) rfl (by decide)) r_x1 (d_s1o (d_s1o (d_s1o a1 (by decide)) (by decide)) (by decide)) (d_rl rfl) (d_s1 (d_s1 p_lk_s1 rfl (by decide)) rfl (by decide)) (d_rl rfl) (d_s1 p_lk_s1 rfl (by decide)) (d_rl rfl) p_lk_s1
  · refine dw_iln rfl l2_u28 (?_)
    refine d_if hF (fun q hF => ?_) (fun q hF => ?_)
    · refine dw_zle_y rfl (u := 368) rfl r_x2_u28 q ?_
      exact dw_aln rfl l0_u28 (dw_gr rfl rfl rfl hH_u28 d_c48_1 (dw_iln rfl l2_u28 (dw_ic rfl (dw_sub rfl (dw_w1 (d_gd hF (fun g29 hF => dw_ald rfl hH_u28 d_a50 rfl g29.1 g29.2 d_R_w rfl (dw_go rfl (u := 369) rfl (dw_rI rfl rfl hH_u28.r hH_u28 hF)))))))))
    · refine dw_zle_n rfl (u := 368) rfl r_x2_u28 q ?_
      exact dw_ic rfl (dw_rI rfl rfl (d_rl rfl) hH_u28 hF)
set_option maxRecDepth 100000 in
noncomputable def F_X1_melts_j52 (t : Nat → Option p_C) (y0 : Int) (s : d_S) : Option (Int × d_S) :=
  d_b (F_J9_min_7cf53 100 y0) (fun v2 => d_b (F_J9_max_7cf53 0 v2) (fun v3 => some (v3, s)))
set_option maxRecDepth 100000 in
theorem D_X1_melts_j52 {t : Nat → Option p_C} {h : p_H} {s : d_S} {y0 : Int} {r : Int × d_S} {ls : p_Ls} (hF : F_X1_melts_j52 t y0 s = some r) (hH : d_V t h s) (r_y0 : d_R y0) : p_wp p_GT p_MT 2 m_X1_melts 52 ls [.int (Int32.ofInt y0)] h (d_QI t r) := by
  unfold F_X1_melts_j52 at hF
  exact dw_isn rfl rfl (dw_ic rfl (dw_bp rfl rfl (dw_iln rfl p_lk_s1 (dw_sP hF rfl rfl rfl rfl rfl (dc := 0) (fun _ e => D_J9_min_7cf53 e (d_rl rfl) r_y0) (fun v2 r_v2 hF => dw_sP hF rfl rfl rfl rfl rfl (dc := 0) (fun _ e => D_J9_max_7cf53 e (d_rl rfl) r_v2) (fun v3 r_v3 hF => dw_rI rfl rfl r_v3 hH hF))))))
set_option maxRecDepth 100000 in
noncomputable def F_X1_melts_j15 (t : Nat → Option p_C) (x1 : Option Nat) (s : d_S) : Option (Int × d_S) :=
  F_X1_melts_j52 t (d_w (((s.1 49 2) + (s.1 49 5)) - (s.1 49 0))) s
set_option maxRecDepth 100000 in
theorem D_X1_melts_j15 {t : Nat → Option p_C} {h : p_H} {s : d_S} {x1 : Option Nat} {r : Int × d_S} {ls : p_Ls} (hF : F_X1_melts_j15 t x1 s = some r) (hH : d_V t h s) (l0 : p_lk 0 ls = some (.ref 48)) (r_x1 : d_T t x1) (l1 : p_lk 1 ls = some (d_pv x1)) : p_wp p_GT p_MT 2 m_X1_melts 15 ls [] h (d_QI t r) := by
  unfold F_X1_melts_j15 at hF
  refine dw_ic rfl (dw_isn rfl rfl (dw_iln rfl p_lk_s1 (dw_zeq_y rfl (u := 32) rfl (d_rl rfl) (by decide) (dw_aln rfl (d_s1 l0 rfl (by decide)) (dw_gr rfl rfl rfl hH d_c48_0 (dw_ic rfl (dw_ald rfl hH d_a49 rfl (by decide) (by decide) (d_rl rfl) (k := 2) rfl (dw_aln rfl (d_s1 l0 rfl (by decide)) (dw_gr rfl rfl rfl hH d_c48_0 (?_))))))))))
  refine dw_ic rfl (dw_ald rfl hH d_a49 rfl (by decide) (by decide) (d_rl rfl) (k := 5) rfl (dw_add rfl (dw_aln rfl (d_s1 l0 rfl (by decide)) (dw_gr rfl rfl rfl hH d_c48_0 (dw_ic rfl (dw_ald rfl hH d_a49 rfl (by decide) (by decide) (d_rl rfl) (k := 0) rfl (dw_sub rfl (dw_w1 (?_)))))))))
  exact D_X1_melts_j52 hF hH d_R_w
set_option maxRecDepth 100000 in
noncomputable def F_X1_melts (t : Nat → Option p_C) (s : d_S) (x1 : Option Nat) : Option (Int × d_S) :=
  match x1 with
  | none =>
  F_X1_melts_j15 t x1 s
  | some b1 =>
  d_b x1 (fun b4 => d_b (d_tfq t b4 0) (fun v5 => match v5 with
  | none =>
  F_X1_melts_j15 t x1 s
  | some b6 =>
  d_b x1 (fun b7 => d_b (d_tfq t b7 0) (fun v8 => d_b2 (F_X1_reckon t s v8) (fun v9 s10 => F_X1_melts_j52 t v9 s10)))))
set_option maxRecDepth 100000 in
theorem D_X1_melts {t : Nat → Option p_C} {h : p_H} {s : d_S} {x1 : Option Nat} {r : Int × d_S} (hF : F_X1_melts t s x1 = some r) (hH : d_V t h s) (r_x1 : d_T t x1) : p_wp p_GT p_MT 2 m_X1_melts 0 (lv_args 0 [.ref 48, d_pv x1]) [] h (d_QI t r) := by
  have a0 : p_lk 0 (lv_args 0 [.ref 48, d_pv x1]) = some (.ref 48) := by cases x1 <;> rfl
  have a1 : p_lk 1 (lv_args 0 [.ref 48, d_pv x1]) = some (d_pv x1) := by cases x1 <;> rfl
  unfold F_X1_melts at hF
  refine dw_alno rfl a1 (?_)
  refine d_ifo (α := Int) hF (fun q hF => ?_) (fun b1 q hF => ?_)
  · refine dw_nn rfl (u := 15) rfl q ?_
    exact D_X1_melts_j15 hF hH a0 r_x1 a1
  · refine dw_ns rfl q ?_
    refine dw_alno rfl a1 (dw_ot1 hF r_x1 (fun b4 r_b4 hF => dw_tgq hF rfl rfl rfl hH (fun v5 r_v5 hF => ?_)))
    refine d_ifo (α := Int) hF (fun q hF => ?_) (fun b6 q hF => ?_)
    · refine dw_nn rfl (u := 15) rfl q ?_
      exact D_X1_melts_j15 hF hH a0 r_x1 a1
    · refine dw_ns rfl q ?_
      refine dw_ic rfl (dw_go rfl (u := 16) rfl (dw_isn rfl rfl (dw_iln rfl p_lk_s1 (dw_zeq_n rfl (u := 32) rfl (d_rl rfl) (by decide) (dw_aln rfl (d_s1 a0 rfl (by decide)) (dw_alno rfl (d_s1o a1 (by decide)) (dw_ot1 hF r_x1 (fun b7 r_b7 hF => dw_tgq hF rfl rfl rfl hH (fun v8 r_v8 hF => dw_vI hF rfl (d_vir (n := 2) rfl rfl (by generalize v8 = e; cases e <;> rfl) rfl rfl hH d_c48_0 rfl) rfl (by generalize v8 = e; cases e <;> rfl) rfl (dc := 1) (fun _ _ e => D_X1_reckon e hH r_v8) (fun v9 s10 h10 hH10 r_v9 hF => ?_))))))))))
      refine dw_go rfl (u := 52) rfl (?_)
      exact D_X1_melts_j52 hF hH10 r_v9
set_option maxRecDepth 100000 in
noncomputable def F_X0_meltedFrom (t : Nat → Option p_C) (s : d_S) (x1 : Int) (x2 : Int) (x3 : Int) (x4 : Int) : Option (Int × d_S) :=
  if x4 < 100 then
  d_b (F_X1_tellDay s x1 x2 x3 x4) (fun s1 => d_b2 (F_X1_melts t s1 (s1.2.1 47 3)) (fun v2 s3 => d_b (F_J9_min_7cf53 100 (d_w (x4 + v2))) (fun v4 => some (v4, s3))))
  else
  some (100, s)
set_option maxRecDepth 100000 in
theorem D_X0_meltedFrom {t : Nat → Option p_C} {h : p_H} {s : d_S} {x1 : Int} {x2 : Int} {x3 : Int} {x4 : Int} {r : Int × d_S} (hF : F_X0_meltedFrom t s x1 x2 x3 x4 = some r) (hH : d_V t h s) (r_x1 : d_R x1) (r_x2 : d_R x2) (r_x3 : d_R x3) (r_x4 : d_R x4) : p_wp p_GT p_MT 3 m_X0_meltedFrom 0 (lv_args 0 [.ref 47, .int (Int32.ofInt x1), .int (Int32.ofInt x2), .int (Int32.ofInt x3), .int (Int32.ofInt x4)]) [] h (d_QI t r) := by
  unfold F_X0_meltedFrom at hF
  refine dw_il rfl rfl (dw_bp rfl rfl (?_))
  refine d_if hF (fun q hF => ?_) (fun q hF => ?_)
  · refine dw_lt_y rfl (u := 10) rfl r_x4 (d_rl rfl) q ?_
    refine dw_aln rfl rfl (dw_gr rfl rfl rfl hH d_c47_2 (dw_iln rfl rfl (dw_iln rfl rfl (dw_iln rfl rfl (dw_il rfl rfl (dw_vV hF rfl (d_vir (n := 5) rfl rfl rfl rfl rfl hH d_c48_0 rfl) rfl rfl rfl (dc := 0) (fun _ e => D_X1_tellDay e hH r_x1 r_x2 r_x3 r_x4) (fun s1 h1 hH1 hF => dw_bp rfl rfl (dw_il rfl rfl (dw_aln rfl rfl (?_))))))))))
    exact dw_gr rfl rfl rfl hH1 d_c47_2 (dw_aln rfl rfl (dw_go_ (k := 3) rfl rfl rfl hH1 d_c47_3 (dw_vI hF rfl (d_vir (n := 2) rfl rfl (by generalize (s1.2.1 47 3) = e; cases e <;> rfl) rfl rfl hH1 d_c48_0 rfl) rfl (by generalize (s1.2.1 47 3) = e; cases e <;> rfl) rfl (dc := 2) (fun _ _ e => D_X1_melts e hH1 (hH1.T (by decide))) (fun v2 s3 h3 hH3 r_v2 hF => dw_add rfl (dw_w1 (dw_sP hF rfl rfl rfl rfl rfl (dc := 0) (fun _ e => D_J9_min_7cf53 e (d_rl rfl) d_R_w) (fun v4 r_v4 hF => dw_rI rfl rfl r_v4 hH3 hF)))))))
  · refine dw_lt_n rfl (u := 10) rfl r_x4 (d_rl rfl) q ?_
    exact dw_bp rfl rfl (dw_rI rfl rfl (d_rl rfl) hH hF)
set_option maxRecDepth 100000 in
noncomputable def F_X10_behind (x0 : Int) : Option (Int) :=
  some (d_rem ((x0 * 281) + 179) 30293)
set_option maxRecDepth 100000 in
theorem D_X10_behind {h : p_H} {x0 : Int} {r : Int} (hF : F_X10_behind x0 = some r) (r_x0 : d_R x0) : p_wp p_GT p_MT 0 m_X10_behind 0 (lv_args 0 [.int (Int32.ofInt x0)]) [] h (d_QP h r) := by
  unfold F_X10_behind at hF
  exact dw_iln rfl rfl (dw_sp rfl rfl (dw_mul rfl (dw_sp rfl rfl (dw_add rfl (dw_sp rfl rfl (dw_rem rfl (d_rl rfl) (by decide) (dw_rP rfl rfl d_R_t hF)))))))
set_option maxRecDepth 100000 in
noncomputable def F_X1_rots_j15 (t : Nat → Option p_C) (x1 : Option Nat) (s : d_S) : Option (Int × d_S) :=
  some (0, s)
set_option maxRecDepth 100000 in
theorem D_X1_rots_j15 {t : Nat → Option p_C} {h : p_H} {s : d_S} {x1 : Option Nat} {r : Int × d_S} {ls : p_Ls} (hF : F_X1_rots_j15 t x1 s = some r) (hH : d_V t h s) (l0 : p_lk 0 ls = some (.ref 48)) (r_x1 : d_T t x1) (l1 : p_lk 1 ls = some (d_pv x1)) : p_wp p_GT p_MT 2 m_X1_rots 15 ls [] h (d_QI t r) := by
  unfold F_X1_rots_j15 at hF
  exact dw_ic rfl (dw_isn rfl rfl (dw_iln rfl p_lk_s1 (dw_zeq_y rfl (u := 41) rfl (d_rl rfl) (by decide) (dw_ic rfl (dw_rI rfl rfl (d_rl rfl) hH hF)))))
set_option maxRecDepth 100000 in
noncomputable def F_X1_rots (t : Nat → Option p_C) (s : d_S) (x1 : Option Nat) : Option (Int × d_S) :=
  match x1 with
  | none =>
  F_X1_rots_j15 t x1 s
  | some b1 =>
  d_b x1 (fun b2 => d_b (d_tfq t b2 2) (fun v3 => match v3 with
  | none =>
  F_X1_rots_j15 t x1 s
  | some b4 =>
  d_b x1 (fun b5 => d_b (d_tfq t b5 2) (fun v6 => d_b2 (F_X1_reckon t s v6) (fun v7 s8 => d_b (F_J9_min_7cf53 9 v7) (fun v9 => d_b (F_J9_max_7cf53 0 v9) (fun v10 => some (v10, s8))))))))
set_option maxRecDepth 100000 in
theorem D_X1_rots {t : Nat → Option p_C} {h : p_H} {s : d_S} {x1 : Option Nat} {r : Int × d_S} (hF : F_X1_rots t s x1 = some r) (hH : d_V t h s) (r_x1 : d_T t x1) : p_wp p_GT p_MT 2 m_X1_rots 0 (lv_args 0 [.ref 48, d_pv x1]) [] h (d_QI t r) := by
  have a0 : p_lk 0 (lv_args 0 [.ref 48, d_pv x1]) = some (.ref 48) := by cases x1 <;> rfl
  have a1 : p_lk 1 (lv_args 0 [.ref 48, d_pv x1]) = some (d_pv x1) := by cases x1 <;> rfl
  unfold F_X1_rots at hF
  refine dw_alno rfl a1 (?_)
  refine d_ifo (α := Int) hF (fun q hF => ?_) (fun b1 q hF => ?_)
  · refine dw_nn rfl (u := 15) rfl q ?_
    exact D_X1_rots_j15 hF hH a0 r_x1 a1
  · refine dw_ns rfl q ?_
    refine dw_alno rfl a1 (dw_ot1 hF r_x1 (fun b2 r_b2 hF => dw_tgq hF rfl rfl rfl hH (fun v3 r_v3 hF => ?_)))
    refine d_ifo (α := Int) hF (fun q hF => ?_) (fun b4 q hF => ?_)
    · refine dw_nn rfl (u := 15) rfl q ?_
      exact D_X1_rots_j15 hF hH a0 r_x1 a1
    · refine dw_ns rfl q ?_
      refine dw_ic rfl (dw_go rfl (u := 16) rfl (dw_isn rfl rfl (dw_iln rfl p_lk_s1 (dw_zeq_n rfl (u := 41) rfl (d_rl rfl) (by decide) (dw_ic rfl (dw_bp rfl rfl (dw_aln rfl (d_s1 a0 rfl (by decide)) (dw_alno rfl (d_s1o a1 (by decide)) (dw_ot1 hF r_x1 (fun b5 r_b5 hF => ?_))))))))))
      exact dw_tgq hF rfl rfl rfl hH (fun v6 r_v6 hF => dw_vI hF rfl (d_vir (n := 2) rfl rfl (by generalize v6 = e; cases e <;> rfl) rfl rfl hH d_c48_0 rfl) rfl (by generalize v6 = e; cases e <;> rfl) rfl (dc := 1) (fun _ _ e => D_X1_reckon e hH r_v6) (fun v7 s8 h8 hH8 r_v7 hF => dw_sP hF rfl rfl rfl rfl rfl (dc := 0) (fun _ e => D_J9_min_7cf53 e (d_rl rfl) r_v7) (fun v9 r_v9 hF => dw_sP hF rfl rfl rfl rfl rfl (dc := 0) (fun _ e => D_J9_max_7cf53 e (d_rl rfl) r_v9) (fun v10 r_v10 hF => dw_go rfl (u := 42) rfl (dw_rI rfl rfl r_v10 hH8 hF)))))
set_option maxRecDepth 100000 in
noncomputable def F_X0_strawFrom (t : Nat → Option p_C) (s : d_S) (x1 : Int) (x2 : Int) (x3 : Int) (x4 : Int) : Option (Int × d_S) :=
  if 0 < x3 then
  d_b (F_X1_tellDay s x1 x2 x3 x4) (fun s1 => d_b2 (F_X1_rots t s1 (s1.2.1 47 3)) (fun v2 s3 => d_b (F_J9_max_7cf53 0 (d_w (x3 - v2))) (fun v4 => some (v4, s3))))
  else
  some (0, s)
set_option maxRecDepth 100000 in
theorem D_X0_strawFrom {t : Nat → Option p_C} {h : p_H} {s : d_S} {x1 : Int} {x2 : Int} {x3 : Int} {x4 : Int} {r : Int × d_S} (hF : F_X0_strawFrom t s x1 x2 x3 x4 = some r) (hH : d_V t h s) (r_x1 : d_R x1) (r_x2 : d_R x2) (r_x3 : d_R x3) (r_x4 : d_R x4) : p_wp p_GT p_MT 3 m_X0_strawFrom 0 (lv_args 0 [.ref 47, .int (Int32.ofInt x1), .int (Int32.ofInt x2), .int (Int32.ofInt x3), .int (Int32.ofInt x4)]) [] h (d_QI t r) := by
  unfold F_X0_strawFrom at hF
  refine dw_iln rfl rfl (?_)
  refine d_if hF (fun q hF => ?_) (fun q hF => ?_)
  · refine dw_zgt_y rfl (u := 6) rfl r_x3 q ?_
    refine dw_aln rfl rfl (dw_gr rfl rfl rfl hH d_c47_2 (dw_iln rfl rfl (dw_iln rfl rfl (dw_iln rfl rfl (dw_il rfl rfl (dw_vV hF rfl (d_vir (n := 5) rfl rfl rfl rfl rfl hH d_c48_0 rfl) rfl rfl rfl (dc := 0) (fun _ e => D_X1_tellDay e hH r_x1 r_x2 r_x3 r_x4) (fun s1 h1 hH1 hF => dw_ic rfl (dw_iln rfl rfl (dw_aln rfl rfl (?_))))))))))
    exact dw_gr rfl rfl rfl hH1 d_c47_2 (dw_aln rfl rfl (dw_go_ (k := 3) rfl rfl rfl hH1 d_c47_3 (dw_vI hF rfl (d_vir (n := 2) rfl rfl (by generalize (s1.2.1 47 3) = e; cases e <;> rfl) rfl rfl hH1 d_c48_0 rfl) rfl (by generalize (s1.2.1 47 3) = e; cases e <;> rfl) rfl (dc := 2) (fun _ _ e => D_X1_rots e hH1 (hH1.T (by decide))) (fun v2 s3 h3 hH3 r_v2 hF => dw_sub rfl (dw_w1 (dw_sP hF rfl rfl rfl rfl rfl (dc := 0) (fun _ e => D_J9_max_7cf53 e (d_rl rfl) d_R_w) (fun v4 r_v4 hF => dw_rI rfl rfl r_v4 hH3 hF)))))))
  · refine dw_zgt_n rfl (u := 6) rfl r_x3 q ?_
    exact dw_ic rfl (dw_rI rfl rfl (d_rl rfl) hH hF)

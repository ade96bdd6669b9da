set_option maxRecDepth 100000 in
noncomputable def F_X12_sellNow (s : d_S) (x1 : Int) : Option (Int × d_S) :=
  d_b2 (F_X12_sellsOf s x1) (fun v1 s2 => d_l (d_si s2 65 (11) (d_w ((s2.1 65 11) + v1))) (fun s3 => d_b (F_X12_get s3 x1 0) (fun v4 => d_b (F_X12_cut (d_w ((s3.1 65 12) + v4)) 99) (fun v5 => d_l (d_si s3 65 (12) v5) (fun s6 => d_b (F_X12_set s6 x1 0 0) (fun s7 => d_b (F_X12_set s7 x1 2 1) (fun s8 => some (v1, s8))))))))
set_option maxRecDepth 100000 in
theorem D_X12_sellNow {t : Nat → Option p_C} {h : p_H} {s : d_S} {x1 : Int} {r : Int × d_S} (hF : F_X12_sellNow s x1 = some r) (hH : d_V t h s) (r_x1 : d_R x1) : p_wp p_GT p_MT 7 m_X12_sellNow 0 (lv_args 0 [.ref 64, .int (Int32.ofInt x1)]) [] h (d_QI t r) := by
  unfold F_X12_sellNow at hF
  refine dw_aln rfl rfl (dw_iln rfl rfl (dw_vI hF rfl (d_vir (n := 2) rfl rfl rfl rfl rfl hH d_c64_0 rfl) rfl rfl rfl (dc := 6) (fun _ _ e => D_X12_sellsOf e hH r_x1) (fun v1 s2 h2 hH2 r_v1 hF => dw_isn rfl rfl (dw_aln rfl (d_s1 rfl rfl (by decide)) (dw_gr rfl rfl rfl hH2 d_c64_0 (dw_bp rfl rfl (dw_dup2 rfl (dw_ald rfl hH2 d_a65 rfl (by decide) (by decide) (d_rl rfl) (k := 11) rfl (dw_iln rfl p_lk_s1 (?_))))))))))
  refine dw_add rfl (dw_w1 (dw_ast rfl hH2 d_a65 (by decide) (by decide) (d_rl rfl) (k := 11) rfl d_R_w hF (fun s3 h3 hH3 hF => dw_aln rfl (d_s1 rfl rfl (by decide)) (dw_gr rfl rfl rfl hH3 d_c64_0 (dw_bp rfl rfl (dw_aln rfl (d_s1 rfl rfl (by decide)) (dw_gr rfl rfl rfl hH3 d_c64_0 (dw_bp rfl rfl (dw_ald rfl hH3 d_a65 rfl (by decide) (by decide) (d_rl rfl) (k := 12) rfl (?_))))))))))
  refine dw_aln rfl (d_s1 rfl rfl (by decide)) (dw_iln rfl (d_s1 rfl rfl (by decide)) (dw_ic rfl (dw_vP hF rfl (d_vir (n := 3) rfl rfl rfl rfl rfl hH3 d_c64_0 rfl) rfl rfl rfl (dc := 0) (fun _ e => D_X12_get e hH3 r_x1 (d_rl rfl)) (fun v4 r_v4 hF => dw_add rfl (dw_w1 (dw_i2l rfl d_R_w (dw_bp rfl rfl (dw_sP hF rfl rfl rfl rfl rfl (dc := 0) (fun _ e => D_X12_cut e (d_RL_R d_R_w) (d_rl rfl)) (fun v5 r_v5 hF => dw_ast rfl hH3 d_a65 (by decide) (by decide) (d_rl rfl) (k := 12) rfl r_v5 hF (fun s6 h6 hH6 hF => ?_))))))))))
  refine dw_aln rfl (d_s1 rfl rfl (by decide)) (dw_iln rfl (d_s1 rfl rfl (by decide)) (dw_ic rfl (dw_ic rfl (dw_vV hF rfl (d_vir (n := 4) rfl rfl rfl rfl rfl hH6 d_c64_0 rfl) rfl rfl rfl (dc := 0) (fun _ e => D_X12_set e hH6 r_x1 (d_rl rfl) (d_rl rfl)) (fun s7 h7 hH7 hF => dw_aln rfl (d_s1 rfl rfl (by decide)) (dw_iln rfl (d_s1 rfl rfl (by decide)) (dw_ic rfl (dw_ic rfl (dw_vV hF rfl (d_vir (n := 4) rfl rfl rfl rfl rfl hH7 d_c64_0 rfl) rfl rfl rfl (dc := 0) (fun _ e => D_X12_set e hH7 r_x1 (d_rl rfl) (d_rl rfl)) (fun s8 h8 hH8 hF => ?_))))))))))
  exact dw_iln rfl p_lk_s1 (dw_rI rfl rfl r_v1 hH8 hF)
set_option maxRecDepth 100000 in
noncomputable def F_X12_sell (s : d_S) (x1 : Int) : Option (Int × d_S) :=
  d_b (F_X12_canSell s x1) (fun v1 => if v1 = 0 then
  some ((-1), s)
  else
  d_b (F_X12_keep s) (fun s2 => d_b2 (F_X12_sellNow s2 x1) (fun v3 s4 => some (v3, s4))))
set_option maxRecDepth 100000 in
theorem D_X12_sell {t : Nat → Option p_C} {h : p_H} {s : d_S} {x1 : Int} {r : Int × d_S} (hF : F_X12_sell s x1 = some r) (hH : d_V t h s) (r_x1 : d_R x1) : p_wp p_GT p_MT 8 m_X12_sell 0 (lv_args 0 [.ref 64, .int (Int32.ofInt x1)]) [] h (d_QI t r) := by
  unfold F_X12_sell at hF
  refine dw_aln rfl rfl (dw_iln rfl rfl (dw_vB hF rfl (d_vir (n := 2) rfl rfl rfl rfl rfl hH d_c64_0 rfl) rfl rfl rfl (dc := 4) (fun _ e => D_X12_canSell e hH r_x1) (fun v1 r_v1 hF => ?_)))
  refine d_if hF (fun q hF => ?_) (fun q hF => ?_)
  · refine dw_zne_y rfl (u := 10) rfl (d_R_b r_v1) q ?_
    exact dw_ic rfl (dw_rI rfl rfl (d_rl rfl) hH hF)
  · refine dw_zne_n rfl (u := 10) rfl (d_R_b r_v1) q ?_
    exact dw_aln rfl rfl (dw_vV hF rfl (d_vir (n := 1) rfl rfl rfl rfl rfl hH d_c64_0 rfl) rfl rfl rfl (dc := 1) (fun _ e => D_X12_keep e hH) (fun s2 h2 hH2 hF => dw_aln rfl rfl (dw_iln rfl rfl (dw_vI hF rfl (d_vir (n := 2) rfl rfl rfl rfl rfl hH2 d_c64_0 rfl) rfl rfl rfl (dc := 7) (fun _ _ e => D_X12_sellNow e hH2 r_x1) (fun v3 s4 h4 hH4 r_v3 hF => dw_rI rfl rfl r_v3 hH4 hF)))))
set_option maxRecDepth 100000 in
noncomputable def F_X12_isPlayed (s : d_S) (x1 : Int) : Option (Int × d_S) :=
  d_g (0 ≤ (d_w (x1 + 1)) ∧ (d_w (x1 + 1)) < 3108) (d_l (s.1 67 (((d_w (x1 + 1))).toNat)) (fun z2 => d_g (0 ≤ (d_w (x1 + 2)) ∧ (d_w (x1 + 2)) < 3108) (d_l (s.1 67 (((d_w (x1 + 2))).toNat)) (fun z4 => d_g (0 ≤ x1 ∧ x1 < 3108) (
  if (s.1 67 (x1.toNat)) = 3 then
  d_b2 (F_X12_pond s z2 z4) (fun v6 s7 => some (v6, s7))
  else
  if (s.1 67 (x1.toNat)) = 4 then
  d_g (0 ≤ (d_w (x1 + 3)) ∧ (d_w (x1 + 3)) < 3108) (d_g (0 ≤ (d_w (x1 + 4)) ∧ (d_w (x1 + 4)) < 3108) (d_g (0 ≤ (d_w (x1 + 5)) ∧ (d_w (x1 + 5)) < 3108) (d_g (0 ≤ (d_w (x1 + 6)) ∧ (d_w (x1 + 6)) < 3108) (d_b2 (F_X12_sight s z2 z4 (s.1 67 (((d_w (x1 + 3))).toNat)) (s.1 67 (((d_w (x1 + 4))).toNat)) (s.1 67 (((d_w (x1 + 5))).toNat)) (s.1 67 (((d_w (x1 + 6))).toNat))) (fun v12 s13 => if v12 < 0 then
  some (0, s13)
  else
  some (1, s13))))))
  else
  if (s.1 67 (x1.toNat)) = 5 then
  d_b2 (F_X12_saw s z2 1) (fun v14 s15 => if v14 < 0 then
  some (0, s15)
  else
  some (1, s15))
  else
  if (s.1 67 (x1.toNat)) = 6 then
  d_b2 (F_X12_saw s z2 0) (fun v16 s17 => if v16 < 0 then
  some (0, s17)
  else
  some (1, s17))
  else
  if (s.1 67 (x1.toNat)) = 7 then
  d_b2 (F_X12_straw s z2 z4) (fun v18 s19 => if v18 < 0 then
  some (0, s19)
  else
  some (1, s19))
  else
  if (s.1 67 (x1.toNat)) = 8 then
  d_b2 (F_X12_arePassed s z2) (fun v20 s21 => some (v20, s21))
  else
  if (s.1 67 (x1.toNat)) = 9 then
  d_b2 (F_X12_sell s z2) (fun v22 s23 => if v22 < 0 then
  some (0, s23)
  else
  some (1, s23))
  else
  some (1, s))))))
set_option maxRecDepth 100000 in
theorem D_X12_isPlayed {t : Nat → Option p_C} {h : p_H} {s : d_S} {x1 : Int} {r : Int × d_S} (hF : F_X12_isPlayed s x1 = some r) (hH : d_V t h s) (r_x1 : d_R x1) : p_wp p_GT p_MT 10 m_X12_isPlayed 0 (lv_args 0 [.ref 64, .int (Int32.ofInt x1)]) [] h (d_QC t r) := by
  unfold F_X12_isPlayed at hF
  refine dw_aln rfl rfl (dw_gr rfl rfl rfl hH d_c64_2 (dw_iln rfl rfl (dw_ic rfl (dw_add rfl (dw_w1 (d_gd hF (fun g1 hF => dw_ald rfl hH d_a67 rfl g1.1 g1.2 d_R_w rfl (dw_nm hF hH.r (fun z2 r_z2 hF => dw_isn rfl rfl (?_))))))))))
  refine dw_aln rfl (d_s1 rfl rfl (by decide)) (dw_gr rfl rfl rfl hH d_c64_2 (dw_iln rfl (d_s1 rfl rfl (by decide)) (dw_ic rfl (dw_add rfl (dw_w1 (d_gd hF (fun g3 hF => dw_ald rfl hH d_a67 rfl g3.1 g3.2 d_R_w rfl (dw_nm hF hH.r (fun z4 r_z4 hF => dw_isn rfl rfl (?_))))))))))
  refine dw_aln rfl (d_s1 (d_s1 rfl rfl (by decide)) rfl (by decide)) (dw_gr rfl rfl rfl hH d_c64_2 (dw_iln rfl (d_s1 (d_s1 rfl rfl (by decide)) rfl (by decide)) (d_gd hF (fun g5 hF => dw_ald rfl hH d_a67 rfl g5.1 g5.2 r_x1 rfl (?_)))))
  refine d_if hF (fun q hF => ?_) (fun q0 hF => ?_)
  · refine dw_ts rfl hH.r (u := 68) (by rw [q]; rfl) ?_
    exact dw_aln rfl (d_s1 (d_s1 rfl rfl (by decide)) rfl (by decide)) (dw_iln rfl (d_s1 p_lk_s1 rfl (by decide)) (dw_iln rfl p_lk_s1 (dw_vC hF rfl (d_vir (n := 3) rfl rfl rfl rfl rfl hH d_c64_0 rfl) rfl rfl rfl (dc := 1) (fun _ _ e => D_X12_pond e hH r_z2 r_z4) (fun v6 s7 h7 hH7 r_v6 hF => dw_rC rfl rfl r_v6 hH7 hF))))
  refine d_if hF (fun q hF => ?_) (fun q1 hF => ?_)
  · refine dw_ts rfl hH.r (u := 75) (by rw [q]; rfl) ?_
    refine dw_aln rfl (d_s1 (d_s1 rfl rfl (by decide)) rfl (by decide)) (dw_iln rfl (d_s1 p_lk_s1 rfl (by decide)) (dw_iln rfl p_lk_s1 (dw_aln rfl (d_s1 (d_s1 rfl rfl (by decide)) rfl (by decide)) (dw_gr rfl rfl rfl hH d_c64_2 (dw_iln rfl (d_s1 (d_s1 rfl rfl (by decide)) rfl (by decide)) (dw_ic rfl (dw_add rfl (dw_w1 (d_gd hF (fun g8 hF => ?_))))))))))
    refine dw_ald rfl hH d_a67 rfl g8.1 g8.2 d_R_w rfl (dw_aln rfl (d_s1 (d_s1 rfl rfl (by decide)) rfl (by decide)) (dw_gr rfl rfl rfl hH d_c64_2 (dw_iln rfl (d_s1 (d_s1 rfl rfl (by decide)) rfl (by decide)) (dw_ic rfl (dw_add rfl (dw_w1 (d_gd hF (fun g9 hF => dw_ald rfl hH d_a67 rfl g9.1 g9.2 d_R_w rfl (dw_aln rfl (d_s1 (d_s1 rfl rfl (by decide)) rfl (by decide)) (?_))))))))))
    refine dw_gr rfl rfl rfl hH d_c64_2 (dw_iln rfl (d_s1 (d_s1 rfl rfl (by decide)) rfl (by decide)) (dw_ic rfl (dw_add rfl (dw_w1 (d_gd hF (fun g10 hF => dw_ald rfl hH d_a67 rfl g10.1 g10.2 d_R_w rfl (dw_aln rfl (d_s1 (d_s1 rfl rfl (by decide)) rfl (by decide)) (dw_gr rfl rfl rfl hH d_c64_2 (dw_iln rfl (d_s1 (d_s1 rfl rfl (by decide)) rfl (by decide)) (?_))))))))))
    refine dw_bp rfl rfl (dw_add rfl (dw_w1 (d_gd hF (fun g11 hF => dw_ald rfl hH d_a67 rfl g11.1 g11.2 d_R_w rfl (dw_vI hF rfl (d_vir (n := 7) rfl rfl rfl rfl rfl hH d_c64_0 rfl) rfl rfl rfl (dc := 1) (fun _ _ e => D_X12_sight e hH r_z2 r_z4 hH.r hH.r hH.r hH.r) (fun v12 s13 h13 hH13 r_v12 hF => ?_))))))
    refine d_if hF (fun q hF => ?_) (fun q hF => ?_)
    · refine dw_zlt_y rfl (u := 121) rfl r_v12 q ?_
      exact dw_ic rfl (dw_rC rfl rfl (Or.inl rfl) hH13 hF)
    · refine dw_zlt_n rfl (u := 121) rfl r_v12 q ?_
      exact dw_ic rfl (dw_go rfl (u := 122) rfl (dw_rC rfl rfl (Or.inr rfl) hH13 hF))
  refine d_if hF (fun q hF => ?_) (fun q2 hF => ?_)
  · refine dw_ts rfl hH.r (u := 123) (by rw [q]; rfl) ?_
    refine dw_aln rfl (d_s1 (d_s1 rfl rfl (by decide)) rfl (by decide)) (dw_iln rfl (d_s1 p_lk_s1 rfl (by decide)) (dw_ic rfl (dw_vI hF rfl (d_vir (n := 3) rfl rfl rfl rfl rfl hH d_c64_0 rfl) rfl rfl rfl (dc := 3) (fun _ _ e => D_X12_saw e hH r_z2 (d_rl rfl)) (fun v14 s15 h15 hH15 r_v14 hF => ?_))))
    refine d_if hF (fun q hF => ?_) (fun q hF => ?_)
    · refine dw_zlt_y rfl (u := 136) rfl r_v14 q ?_
      exact dw_ic rfl (dw_rC rfl rfl (Or.inl rfl) hH15 hF)
    · refine dw_zlt_n rfl (u := 136) rfl r_v14 q ?_
      exact dw_ic rfl (dw_go rfl (u := 137) rfl (dw_rC rfl rfl (Or.inr rfl) hH15 hF))
  refine d_if hF (fun q hF => ?_) (fun q3 hF => ?_)
  · refine dw_ts rfl hH.r (u := 138) (by rw [q]; rfl) ?_
    refine dw_aln rfl (d_s1 (d_s1 rfl rfl (by decide)) rfl (by decide)) (dw_iln rfl (d_s1 p_lk_s1 rfl (by decide)) (dw_ic rfl (dw_vI hF rfl (d_vir (n := 3) rfl rfl rfl rfl rfl hH d_c64_0 rfl) rfl rfl rfl (dc := 3) (fun _ _ e => D_X12_saw e hH r_z2 (d_rl rfl)) (fun v16 s17 h17 hH17 r_v16 hF => ?_))))
    refine d_if hF (fun q hF => ?_) (fun q hF => ?_)
    · refine dw_zlt_y rfl (u := 151) rfl r_v16 q ?_
      exact dw_ic rfl (dw_rC rfl rfl (Or.inl rfl) hH17 hF)
    · refine dw_zlt_n rfl (u := 151) rfl r_v16 q ?_
      exact dw_ic rfl (dw_go rfl (u := 152) rfl (dw_rC rfl rfl (Or.inr rfl) hH17 hF))
  refine d_if hF (fun q hF => ?_) (fun q4 hF => ?_)
  · refine dw_ts rfl hH.r (u := 153) (by rw [q]; rfl) ?_
    refine dw_aln rfl (d_s1 (d_s1 rfl rfl (by decide)) rfl (by decide)) (dw_iln rfl (d_s1 p_lk_s1 rfl (by decide)) (dw_iln rfl p_lk_s1 (dw_vI hF rfl (d_vir (n := 3) rfl rfl rfl rfl rfl hH d_c64_0 rfl) rfl rfl rfl (dc := 5) (fun _ _ e => D_X12_straw e hH r_z2 r_z4) (fun v18 s19 h19 hH19 r_v18 hF => ?_))))
    refine d_if hF (fun q hF => ?_) (fun q hF => ?_)
    · refine dw_zlt_y rfl (u := 166) rfl r_v18 q ?_
      exact dw_ic rfl (dw_rC rfl rfl (Or.inl rfl) hH19 hF)
    · refine dw_zlt_n rfl (u := 166) rfl r_v18 q ?_
      exact dw_ic rfl (dw_go rfl (u := 167) rfl (dw_rC rfl rfl (Or.inr rfl) hH19 hF))
  refine d_if hF (fun q hF => ?_) (fun q5 hF => ?_)
  · refine dw_ts rfl hH.r (u := 168) (by rw [q]; rfl) ?_
    exact dw_aln rfl (d_s1 (d_s1 rfl rfl (by decide)) rfl (by decide)) (dw_iln rfl (d_s1 p_lk_s1 rfl (by decide)) (dw_vC hF rfl (d_vir (n := 2) rfl rfl rfl rfl rfl hH d_c64_0 rfl) rfl rfl rfl (dc := 9) (fun _ _ e => D_X12_arePassed e hH r_z2) (fun v20 s21 h21 hH21 r_v20 hF => dw_rC rfl rfl r_v20 hH21 hF)))
  refine d_if hF (fun q hF => ?_) (fun q6 hF => ?_)
  · refine dw_ts rfl hH.r (u := 174) (by rw [q]; rfl) ?_
    refine dw_aln rfl (d_s1 (d_s1 rfl rfl (by decide)) rfl (by decide)) (dw_iln rfl (d_s1 p_lk_s1 rfl (by decide)) (dw_vI hF rfl (d_vir (n := 2) rfl rfl rfl rfl rfl hH d_c64_0 rfl) rfl rfl rfl (dc := 8) (fun _ _ e => D_X12_sell e hH r_z2) (fun v22 s23 h23 hH23 r_v22 hF => ?_)))
    refine d_if hF (fun q hF => ?_) (fun q hF => ?_)
    · refine dw_zlt_y rfl (u := 186) rfl r_v22 q ?_
      exact dw_ic rfl (dw_rC rfl rfl (Or.inl rfl) hH23 hF)
    · refine dw_zlt_n rfl (u := 186) rfl r_v22 q ?_
      exact dw_ic rfl (dw_go rfl (u := 187) rfl (dw_rC rfl rfl (Or.inr rfl) hH23 hF))
  refine dw_ts rfl hH.r (u := 188) (by rw [if_pos (by omega)]; rfl) ?_
  exact dw_ic rfl (dw_rC rfl rfl (Or.inr rfl) hH hF)
set_option maxRecDepth 100000 in
noncomputable def F_X12_played_l21_b (rec : Int → Int → d_S → Option (Int × d_S)) (x1 : Int) (x2 : Int) (s : d_S) : Option (Int × d_S) :=
  d_g (0 ≤ (d_w (777 * x1)) ∧ (d_w (777 * x1)) < 3108) (if x2 < (s.1 67 (((d_w (777 * x1))).toNat)) then
  d_b2 (F_X12_isPlayed s (d_w (((777 * x1) + 1) + (7 * x2)))) (fun v3 s4 => if v3 = 0 then
  some (x2, s4)
  else
  rec x1 (d_w (x2 + 1)) s4)
  else
  some ((-1), s))
set_option maxRecDepth 100000 in
noncomputable def F_X12_played_l21 : Nat → Int → Int → d_S → Option (Int × d_S)
  | 0 => fun _ _ _ => none
  | n + 1 => F_X12_played_l21_b (F_X12_played_l21 n)
set_option maxRecDepth 100000 in
theorem D_X12_played_l21 {t : Nat → Option p_C} {r : Int × d_S} : ∀ (n : Nat) {x1 : Int} {x2 : Int} {ls : p_Ls} {s : d_S} {h : p_H}, F_X12_played_l21 n x1 x2 s = some r → d_V t h s → p_lk 0 ls = some (.ref 64) → d_R x1 → p_lk 1 ls = some (.int (Int32.ofInt x1)) → d_R x2 → p_lk 2 ls = some (.int (Int32.ofInt x2)) → p_wp p_GT p_MT 11 m_X12_played 21 ls [] h (d_QI t r) := by
  intro n
  induction n with
  | zero =>
    intro x1 x2 ls s h hF hH l0 r_x1 l1 r_x2 l2
    cases (show (none : Option (Int × d_S)) = some r from hF)
  | succ n ih =>
    intro x1 x2 ls s h hF hH l0 r_x1 l1 r_x2 l2
    have hF : F_X12_played_l21_b (F_X12_played_l21 n) x1 x2 s = some r := hF
    unfold F_X12_played_l21_b at hF
    refine dw_iln rfl l2 (dw_aln rfl l0 (dw_gr rfl rfl rfl hH d_c64_2 (dw_sp rfl rfl (dw_iln rfl l1 (dw_mul rfl (dw_w1 (d_gd hF (fun g2 hF => dw_ald rfl hH d_a67 rfl g2.1 g2.2 d_R_w rfl (?_)))))))))
    refine d_if hF (fun q hF => ?_) (fun q hF => ?_)
    · refine dw_ge_y rfl (u := 62) rfl r_x2 hH.r q ?_
      refine dw_aln rfl l0 (dw_sp rfl rfl (dw_iln rfl l1 (dw_mul rfl (dw_ic rfl (dw_add rfl (dw_bp rfl rfl (dw_iln rfl l2 (dw_mul rfl (dw_add rfl (?_))))))))))
      refine dw_w1 (dw_vC hF rfl (d_vir (n := 2) rfl rfl rfl rfl rfl hH d_c64_0 rfl) rfl rfl rfl (dc := 10) (fun _ _ e => D_X12_isPlayed e hH d_R_w) (fun v3 s4 h4 hH4 r_v3 hF => ?_))
      refine d_if hF (fun q hF => ?_) (fun q hF => ?_)
      · refine dw_zne_y rfl (u := 56) rfl (d_R_b r_v3) q ?_
        exact dw_iln rfl l2 (dw_rI rfl rfl r_x2 hH4 hF)
      · refine dw_zne_n rfl (u := 56) rfl (d_R_b r_v3) q ?_
        refine dw_ii rfl l2 rfl (dw_go rfl (u := 21) rfl (?_))
        exact ih hF hH4 (d_s1 l0 rfl (by decide)) r_x1 (d_s1 l1 rfl (by decide)) d_R_w p_lk_s1
    · refine dw_ge_n rfl (u := 62) rfl r_x2 hH.r q ?_
      exact dw_ic rfl (dw_rI rfl rfl (d_rl rfl) hH hF)
set_option maxRecDepth 100000 in
noncomputable def F_X12_played (s : d_S) (x1 : Int) : Option (Int × d_S) :=
  d_b (F_X12_isIn x1 0 (d_w ((s.1 65 1) - 1))) (fun v1 => if v1 = 0 then
  some ((-2), s)
  else
  F_X12_played_l21 d_N x1 0 s)
set_option maxRecDepth 100000 in
theorem D_X12_played {t : Nat → Option p_C} {h : p_H} {s : d_S} {x1 : Int} {r : Int × d_S} (hF : F_X12_played s x1 = some r) (hH : d_V t h s) (r_x1 : d_R x1) : p_wp p_GT p_MT 11 m_X12_played 0 (lv_args 0 [.ref 64, .int (Int32.ofInt x1)]) [] h (d_QI t r) := by
  unfold F_X12_played at hF
  refine dw_iln rfl rfl (dw_ic rfl (dw_aln rfl rfl (dw_gr rfl rfl rfl hH d_c64_0 (dw_ic rfl (dw_ald rfl hH d_a65 rfl (by decide) (by decide) (d_rl rfl) (k := 1) rfl (dw_ic rfl (dw_sub rfl (dw_w1 (dw_sB hF rfl rfl rfl rfl rfl (dc := 0) (fun _ e => D_X12_isIn e r_x1 (d_rl rfl) d_R_w) (fun v1 r_v1 hF => ?_))))))))))
  refine d_if hF (fun q hF => ?_) (fun q hF => ?_)
  · refine dw_zne_y rfl (u := 19) rfl (d_R_b r_v1) q ?_
    exact dw_bp rfl rfl (dw_rI rfl rfl (d_rl rfl) hH hF)
  · refine dw_zne_n rfl (u := 19) rfl (d_R_b r_v1) q ?_
    refine dw_ic rfl (dw_isn rfl rfl (?_))
    exact D_X12_played_l21 _ hF hH (d_s1 rfl rfl (by decide)) r_x1 (d_s1 rfl rfl (by decide)) (d_rl rfl) p_lk_s1
set_option maxRecDepth 100000 in
noncomputable def F_X12_happens (s : d_S) (x1 : Int) : Option (d_S) :=
  d_b (F_X12_blocks s) (fun v1 => d_g (¬ v1 = 0) (
  if (d_rem x1 4) = 0 then
  d_b (F_X12_canLay s 1 (d_rem x1 v1)) (fun v3 => if v3 = 0 then
  some s
  else
  d_b (F_X12_layNow s 1 (d_rem x1 v1)) (fun s4 => some s4))
  else
  if (d_rem x1 4) = 1 then
  d_b (F_X12_canSell s (d_rem x1 v1)) (fun v5 => if v5 = 0 then
  some s
  else
  d_b2 (F_X12_sellNow s (d_rem x1 v1)) (fun v6 s7 => some s7))
  else
  if (s.1 65 9) < 999 then
  d_b (F_X12_pass s) (fun s8 => some s8)
  else
  some s))
set_option maxRecDepth 100000 in
theorem D_X12_happens {t : Nat → Option p_C} {h : p_H} {s : d_S} {x1 : Int} {r : d_S} (hF : F_X12_happens s x1 = some r) (hH : d_V t h s) (r_x1 : d_R x1) : p_wp p_GT p_MT 9 m_X12_happens 0 (lv_args 0 [.ref 64, .int (Int32.ofInt x1)]) [] h (d_QV t r) := by
  unfold F_X12_happens at hF
  refine dw_iln rfl rfl (dw_aln rfl rfl (dw_vP hF rfl (d_vir (n := 1) rfl rfl rfl rfl rfl hH d_c64_0 rfl) rfl rfl rfl (dc := 2) (fun _ e => D_X12_blocks e hH) (fun v1 r_v1 hF => d_gd hF (fun g2 hF => dw_rem rfl r_v1 g2 (dw_isn rfl rfl (dw_iln rfl (d_s1 rfl rfl (by decide)) (dw_ic rfl (dw_rem rfl (d_rl rfl) (by decide) (?_)))))))))
  refine d_if hF (fun q hF => ?_) (fun q0 hF => ?_)
  · refine dw_ls rfl d_R_t rfl (u := 36) (by rw [q]; rfl) ?_
    refine dw_aln rfl (d_s1 rfl rfl (by decide)) (dw_ic rfl (dw_iln rfl p_lk_s1 (dw_vB hF rfl (d_vir (n := 3) rfl rfl rfl rfl rfl hH d_c64_0 rfl) rfl rfl rfl (dc := 4) (fun _ e => D_X12_canLay e hH (d_rl rfl) d_R_t) (fun v3 r_v3 hF => ?_))))
    refine d_if hF (fun q hF => ?_) (fun q hF => ?_)
    · refine dw_zeq_y rfl (u := 88) rfl (d_R_b r_v3) q ?_
      exact dw_rV rfl rfl hH hF
    · refine dw_zeq_n rfl (u := 88) rfl (d_R_b r_v3) q ?_
      exact dw_aln rfl (d_s1 rfl rfl (by decide)) (dw_ic rfl (dw_iln rfl p_lk_s1 (dw_vV hF rfl (d_vir (n := 3) rfl rfl rfl rfl rfl hH d_c64_0 rfl) rfl rfl rfl (dc := 1) (fun _ e => D_X12_layNow e hH (d_rl rfl) d_R_t) (fun s4 h4 hH4 hF => dw_go rfl (u := 88) rfl (dw_rV rfl rfl hH4 hF)))))
  refine d_if hF (fun q hF => ?_) (fun q1 hF => ?_)
  · refine dw_ls rfl d_R_t rfl (u := 54) (by rw [q]; rfl) ?_
    refine dw_aln rfl (d_s1 rfl rfl (by decide)) (dw_iln rfl p_lk_s1 (dw_vB hF rfl (d_vir (n := 2) rfl rfl rfl rfl rfl hH d_c64_0 rfl) rfl rfl rfl (dc := 4) (fun _ e => D_X12_canSell e hH d_R_t) (fun v5 r_v5 hF => ?_)))
    refine d_if hF (fun q hF => ?_) (fun q hF => ?_)
    · refine dw_zeq_y rfl (u := 88) rfl (d_R_b r_v5) q ?_
      exact dw_rV rfl rfl hH hF
    · refine dw_zeq_n rfl (u := 88) rfl (d_R_b r_v5) q ?_
      exact dw_aln rfl (d_s1 rfl rfl (by decide)) (dw_iln rfl p_lk_s1 (dw_vI hF rfl (d_vir (n := 2) rfl rfl rfl rfl rfl hH d_c64_0 rfl) rfl rfl rfl (dc := 7) (fun _ _ e => D_X12_sellNow e hH d_R_t) (fun v6 s7 h7 hH7 r_v6 hF => dw_pop rfl (dw_go rfl (u := 88) rfl (dw_rV rfl rfl hH7 hF)))))
  refine dw_ls rfl d_R_t rfl (u := 71) (by show p_tg _ (Op.lookupswitch.offset [(0, 26), (1, 44)] 61 _) = _; rw [Op.lookupswitch.offset_cons, if_neg (by omega), Op.lookupswitch.offset_cons, if_neg (by omega)]; rfl) ?_
  refine dw_aln rfl (d_s1 rfl rfl (by decide)) (dw_gr rfl rfl rfl hH d_c64_0 (dw_bp rfl rfl (dw_ald rfl hH d_a65 rfl (by decide) (by decide) (d_rl rfl) (k := 9) rfl (dw_sp rfl rfl (?_)))))
  refine d_if hF (fun q hF => ?_) (fun q hF => ?_)
  · refine dw_ge_y rfl (u := 88) rfl hH.r (d_rl rfl) q ?_
    exact dw_aln rfl (d_s1 rfl rfl (by decide)) (dw_vV hF rfl (d_vir (n := 1) rfl rfl rfl rfl rfl hH d_c64_0 rfl) rfl rfl rfl (dc := 8) (fun _ e => D_X12_pass e hH) (fun s8 h8 hH8 hF => dw_rV rfl rfl hH8 hF))
  · refine dw_ge_n rfl (u := 88) rfl hH.r (d_rl rfl) q ?_
    exact dw_rV rfl rfl hH hF
set_option maxRecDepth 100000 in
noncomputable def F_X12_summer_l42_b (k72 : d_S → Option (Int × d_S)) (rec : Int → Int → d_S → Option (Int × d_S)) (x2 : Int) (x3 : Int) (s : d_S) : Option (Int × d_S) :=
  if x3 < x2 then
  d_b (F_X12_anew s) (fun s5 => d_b (F_X12_happens s5 (s.1 65 13)) (fun s6 => rec x2 (d_w (x3 + 1)) s6))
  else
  k72 s
set_option maxRecDepth 100000 in
noncomputable def F_X12_summer_l42 (k72 : d_S → Option (Int × d_S)) : Nat → Int → Int → d_S → Option (Int × d_S)
  | 0 => fun _ _ _ => none
  | n + 1 => F_X12_summer_l42_b k72 (F_X12_summer_l42 k72 n)
set_option maxRecDepth 100000 in
theorem D_X12_summer_l42 {t : Nat → Option p_C} {k72 : d_S → Option (Int × d_S)} {r : Int × d_S} (hk72 : ∀ {ls : p_Ls} {s : d_S} {h : p_H}, k72 s = some r → d_V t h s → p_lk 0 ls = some (.ref 64) → p_wp p_GT p_MT 10 m_X12_summer 72 ls [] h (d_QI t r)) : ∀ (n : Nat) {x2 : Int} {x3 : Int} {ls : p_Ls} {s : d_S} {h : p_H}, F_X12_summer_l42 k72 n x2 x3 s = some r → d_V t h s → p_lk 0 ls = some (.ref 64) → d_R x2 → p_lk 2 ls = some (.int (Int32.ofInt x2)) → d_R x3 → p_lk 3 ls = some (.int (Int32.ofInt x3)) → p_wp p_GT p_MT 10 m_X12_summer 42 ls [] h (d_QI t r) := by
  intro n
  induction n with
  | zero =>
    intro x2 x3 ls s h hF hH l0 r_x2 l2 r_x3 l3
    cases (show (none : Option (Int × d_S)) = some r from hF)
  | succ n ih =>
    intro x2 x3 ls s h hF hH l0 r_x2 l2 r_x3 l3
    have hF : F_X12_summer_l42_b k72 (F_X12_summer_l42 k72 n) x2 x3 s = some r := hF
    unfold F_X12_summer_l42_b at hF
    refine dw_iln rfl l3 (dw_iln rfl l2 (?_))
    refine d_if hF (fun q hF => ?_) (fun q hF => ?_)
    · refine dw_ge_y rfl (u := 72) rfl r_x3 r_x2 q ?_
      refine dw_aln rfl l0 (dw_gr rfl rfl rfl hH d_c64_0 (dw_bp rfl rfl (dw_ald rfl hH d_a65 rfl (by decide) (by decide) (d_rl rfl) (k := 13) rfl (dw_is rfl rfl (dw_aln rfl (d_s1 l0 rfl (by decide)) (dw_vV hF rfl (d_vir (n := 1) rfl rfl rfl rfl rfl hH d_c64_0 rfl) rfl rfl rfl (dc := 0) (fun _ e => D_X12_anew e hH) (fun s5 h5 hH5 hF => dw_aln rfl (d_s1 l0 rfl (by decide)) (dw_il rfl p_lk_s1 (dw_vV hF rfl (d_vir (n := 2) rfl rfl rfl rfl rfl hH5 d_c64_0 rfl) rfl rfl rfl (dc := 9) (fun _ e => D_X12_happens e hH5 hH.r) (fun s6 h6 hH6 hF => ?_))))))))))
      refine dw_ii rfl (d_s1 l3 rfl (by decide)) rfl (dw_go rfl (u := 42) rfl (?_))
      exact ih hF hH6 (d_s1 (d_s1 l0 rfl (by decide)) rfl (by decide)) r_x2 (d_s1 (d_s1 l2 rfl (by decide)) rfl (by decide)) d_R_w p_lk_s1
    · refine dw_ge_n rfl (u := 72) rfl r_x3 r_x2 q ?_
      exact hk72 hF hH l0
set_option maxRecDepth 100000 in
noncomputable def F_X12_summer (s : d_S) (x1 : Int) (x2 : Int) : Option (Int × d_S) :=
  d_b (F_X12_isIn x1 0 9999) (fun v1 => if v1 = 0 then
  some ((-1), s)
  else
  d_b (F_X12_isIn x2 1 40) (fun v2 => if v2 = 0 then
  some ((-1), s)
  else
  d_b (F_X12_keep s) (fun s3 => d_l (d_si s3 65 (13) (d_w ((x1 * 3) + 73))) (fun s4 => F_X12_summer_l42 (fun s_u7 =>
  some ((s_u7.1 65 11), s_u7)) d_N x2 0 s4))))
set_option maxRecDepth 100000 in
theorem D_X12_summer {t : Nat → Option p_C} {h : p_H} {s : d_S} {x1 : Int} {x2 : Int} {r : Int × d_S} (hF : F_X12_summer s x1 x2 = some r) (hH : d_V t h s) (r_x1 : d_R x1) (r_x2 : d_R x2) : p_wp p_GT p_MT 10 m_X12_summer 0 (lv_args 0 [.ref 64, .int (Int32.ofInt x1), .int (Int32.ofInt x2)]) [] h (d_QI t r) := by
  unfold F_X12_summer at hF
  refine dw_iln rfl rfl (dw_ic rfl (dw_sp rfl rfl (dw_sB hF rfl rfl rfl rfl rfl (dc := 0) (fun _ e => D_X12_isIn e r_x1 (d_rl rfl) (d_rl rfl)) (fun v1 r_v1 hF => ?_))))
  refine d_if hF (fun q hF => ?_) (fun q hF => ?_)
  · refine dw_zeq_y rfl (u := 21) rfl (d_R_b r_v1) q ?_
    exact dw_ic rfl (dw_rI rfl rfl (d_rl rfl) hH hF)
  · refine dw_zeq_n rfl (u := 21) rfl (d_R_b r_v1) q ?_
    refine dw_iln rfl rfl (dw_ic rfl (dw_bp rfl rfl (dw_sB hF rfl rfl rfl rfl rfl (dc := 0) (fun _ e => D_X12_isIn e r_x2 (d_rl rfl) (d_rl rfl)) (fun v2 r_v2 hF => ?_))))
    refine d_if hF (fun q hF => ?_) (fun q hF => ?_)
    · refine dw_zne_y rfl (u := 23) rfl (d_R_b r_v2) q ?_
      exact dw_ic rfl (dw_rI rfl rfl (d_rl rfl) hH hF)
    · refine dw_zne_n rfl (u := 23) rfl (d_R_b r_v2) q ?_
      refine dw_aln rfl rfl (dw_vV hF rfl (d_vir (n := 1) rfl rfl rfl rfl rfl hH d_c64_0 rfl) rfl rfl rfl (dc := 1) (fun _ e => D_X12_keep e hH) (fun s3 h3 hH3 hF => dw_aln rfl rfl (dw_gr rfl rfl rfl hH3 d_c64_0 (dw_bp rfl rfl (dw_iln rfl rfl (dw_ic rfl (dw_mul rfl (dw_bp rfl rfl (dw_add rfl (?_))))))))))
      refine dw_w1 (dw_ast rfl hH3 d_a65 (by decide) (by decide) (d_rl rfl) (k := 13) rfl d_R_w hF (fun s4 h4 hH4 hF => dw_ic rfl (dw_isn rfl rfl (?_))))
      refine D_X12_summer_l42 (fun {ls_u7} {s_u7} {h_u7} hF hH_u7 l0_u7 => ?_) _ hF hH4 (d_s1 rfl rfl (by decide)) r_x2 (d_s1 rfl rfl (by decide)) (d_rl rfl) p_lk_s1
      · exact dw_aln rfl l0_u7 (dw_gr rfl rfl rfl hH_u7 d_c64_0 (dw_bp rfl rfl (dw_ald rfl hH_u7 d_a65 rfl (by decide) (by decide) (d_rl rfl) (k := 11) rfl (dw_rI rfl rfl hH_u7.r hH_u7 hF))))
set_option maxRecDepth 100000 in
noncomputable def F_X12_block (s : d_S) (x1 : Int) (x2 : Int) : Option (Int × d_S) :=
  d_b (F_X12_isBlock s x1) (fun v1 => if v1 = 0 then
  some ((-1), s)
  else
  
  if x2 = 0 then
  d_b (F_X12_leftOf s x1) (fun v2 => some (v2, s))
  else
  if x2 = 1 then
  d_b (F_X12_upperOf s x1) (fun v3 => some (v3, s))
  else
  if x2 = 2 then
  d_b (F_X12_wideOf s x1) (fun v4 => some (v4, s))
  else
  if x2 = 3 then
  d_b (F_X12_highOf s x1) (fun v5 => some (v5, s))
  else
  if x2 = 4 then
  d_b (F_X12_get s x1 0) (fun v6 => some (v6, s))
  else
  if x2 = 5 then
  d_b (F_X12_get s x1 1) (fun v7 => some (v7, s))
  else
  if x2 = 6 then
  d_b (F_X12_get s x1 2) (fun v8 => some (v8, s))
  else
  if x2 = 7 then
  d_b (F_X12_edgeOf s x1) (fun v9 => some (v9, s))
  else
  if x2 = 8 then
  d_b (F_X12_sightsIn s x1) (fun v10 => some (v10, s))
  else
  if x2 = 9 then
  d_b2 (F_X12_meltsOf s x1) (fun v11 s12 => some (v11, s12))
  else
  if x2 = 10 then
  d_b2 (F_X12_sellsOf s x1) (fun v13 s14 => some (v13, s14))
  else
  some ((-1), s))
set_option maxRecDepth 100000 in
theorem D_X12_block {t : Nat → Option p_C} {h : p_H} {s : d_S} {x1 : Int} {x2 : Int} {r : Int × d_S} (hF : F_X12_block s x1 x2 = some r) (hH : d_V t h s) (r_x1 : d_R x1) (r_x2 : d_R x2) : p_wp p_GT p_MT 8 m_X12_block 0 (lv_args 0 [.ref 64, .int (Int32.ofInt x1), .int (Int32.ofInt x2)]) [] h (d_QI t r) := by
  unfold F_X12_block at hF
  refine dw_aln rfl rfl (dw_iln rfl rfl (dw_vB hF rfl (d_vir (n := 2) rfl rfl rfl rfl rfl hH d_c64_0 rfl) rfl rfl rfl (dc := 3) (fun _ e => D_X12_isBlock e hH r_x1) (fun v1 r_v1 hF => ?_)))
  refine d_if hF (fun q hF => ?_) (fun q hF => ?_)
  · refine dw_zne_y rfl (u := 10) rfl (d_R_b r_v1) q ?_
    exact dw_ic rfl (dw_rI rfl rfl (d_rl rfl) hH hF)
  · refine dw_zne_n rfl (u := 10) rfl (d_R_b r_v1) q ?_
    refine dw_iln rfl rfl (?_)
    refine d_if hF (fun q hF => ?_) (fun q0 hF => ?_)
    · refine dw_ts rfl r_x2 (u := 68) (by rw [q]; rfl) ?_
      exact dw_aln rfl rfl (dw_iln rfl rfl (dw_vP hF rfl (d_vir (n := 2) rfl rfl rfl rfl rfl hH d_c64_0 rfl) rfl rfl rfl (dc := 3) (fun _ e => D_X12_leftOf e hH r_x1) (fun v2 r_v2 hF => dw_rI rfl rfl r_v2 hH hF)))
    refine d_if hF (fun q hF => ?_) (fun q1 hF => ?_)
    · refine dw_ts rfl r_x2 (u := 74) (by rw [q]; rfl) ?_
      exact dw_aln rfl rfl (dw_iln rfl rfl (dw_vP hF rfl (d_vir (n := 2) rfl rfl rfl rfl rfl hH d_c64_0 rfl) rfl rfl rfl (dc := 3) (fun _ e => D_X12_upperOf e hH r_x1) (fun v3 r_v3 hF => dw_rI rfl rfl r_v3 hH hF)))
    refine d_if hF (fun q hF => ?_) (fun q2 hF => ?_)
    · refine dw_ts rfl r_x2 (u := 80) (by rw [q]; rfl) ?_
      exact dw_aln rfl rfl (dw_iln rfl rfl (dw_vP hF rfl (d_vir (n := 2) rfl rfl rfl rfl rfl hH d_c64_0 rfl) rfl rfl rfl (dc := 3) (fun _ e => D_X12_wideOf e hH r_x1) (fun v4 r_v4 hF => dw_rI rfl rfl r_v4 hH hF)))
    refine d_if hF (fun q hF => ?_) (fun q3 hF => ?_)
    · refine dw_ts rfl r_x2 (u := 86) (by rw [q]; rfl) ?_
      exact dw_aln rfl rfl (dw_iln rfl rfl (dw_vP hF rfl (d_vir (n := 2) rfl rfl rfl rfl rfl hH d_c64_0 rfl) rfl rfl rfl (dc := 3) (fun _ e => D_X12_highOf e hH r_x1) (fun v5 r_v5 hF => dw_rI rfl rfl r_v5 hH hF)))
    refine d_if hF (fun q hF => ?_) (fun q4 hF => ?_)
    · refine dw_ts rfl r_x2 (u := 92) (by rw [q]; rfl) ?_
      exact dw_aln rfl rfl (dw_iln rfl rfl (dw_ic rfl (dw_vP hF rfl (d_vir (n := 3) rfl rfl rfl rfl rfl hH d_c64_0 rfl) rfl rfl rfl (dc := 0) (fun _ e => D_X12_get e hH r_x1 (d_rl rfl)) (fun v6 r_v6 hF => dw_rI rfl rfl r_v6 hH hF))))
    refine d_if hF (fun q hF => ?_) (fun q5 hF => ?_)
    · refine dw_ts rfl r_x2 (u := 99) (by rw [q]; rfl) ?_
      exact dw_aln rfl rfl (dw_iln rfl rfl (dw_ic rfl (dw_vP hF rfl (d_vir (n := 3) rfl rfl rfl rfl rfl hH d_c64_0 rfl) rfl rfl rfl (dc := 0) (fun _ e => D_X12_get e hH r_x1 (d_rl rfl)) (fun v7 r_v7 hF => dw_rI rfl rfl r_v7 hH hF))))
    refine d_if hF (fun q hF => ?_) (fun q6 hF => ?_)
    · refine dw_ts rfl r_x2 (u := 106) (by rw [q]; rfl) ?_
      exact dw_aln rfl rfl (dw_iln rfl rfl (dw_ic rfl (dw_vP hF rfl (d_vir (n := 3) rfl rfl rfl rfl rfl hH d_c64_0 rfl) rfl rfl rfl (dc := 0) (fun _ e => D_X12_get e hH r_x1 (d_rl rfl)) (fun v8 r_v8 hF => dw_rI rfl rfl r_v8 hH hF))))
    refine d_if hF (fun q hF => ?_) (fun q7 hF => ?_)
    · refine dw_ts rfl r_x2 (u := 113) (by rw [q]; rfl) ?_
      exact dw_aln rfl rfl (dw_iln rfl rfl (dw_vP hF rfl (d_vir (n := 2) rfl rfl rfl rfl rfl hH d_c64_0 rfl) rfl rfl rfl (dc := 4) (fun _ e => D_X12_edgeOf e hH r_x1) (fun v9 r_v9 hF => dw_rI rfl rfl r_v9 hH hF)))
    refine d_if hF (fun q hF => ?_) (fun q8 hF => ?_)
    · refine dw_ts rfl r_x2 (u := 119) (by rw [q]; rfl) ?_
      exact dw_aln rfl rfl (dw_iln rfl rfl (dw_vP hF rfl (d_vir (n := 2) rfl rfl rfl rfl rfl hH d_c64_0 rfl) rfl rfl rfl (dc := 5) (fun _ e => D_X12_sightsIn e hH r_x1) (fun v10 r_v10 hF => dw_rI rfl rfl r_v10 hH hF)))
    refine d_if hF (fun q hF => ?_) (fun q9 hF => ?_)
    · refine dw_ts rfl r_x2 (u := 125) (by rw [q]; rfl) ?_
      exact dw_aln rfl rfl (dw_iln rfl rfl (dw_vI hF rfl (d_vir (n := 2) rfl rfl rfl rfl rfl hH d_c64_0 rfl) rfl rfl rfl (dc := 7) (fun _ _ e => D_X12_meltsOf e hH r_x1) (fun v11 s12 h12 hH12 r_v11 hF => dw_rI rfl rfl r_v11 hH12 hF)))
    refine d_if hF (fun q hF => ?_) (fun q10 hF => ?_)
    · refine dw_ts rfl r_x2 (u := 131) (by rw [q]; rfl) ?_
      exact dw_aln rfl rfl (dw_iln rfl rfl (dw_vI hF rfl (d_vir (n := 2) rfl rfl rfl rfl rfl hH d_c64_0 rfl) rfl rfl rfl (dc := 6) (fun _ _ e => D_X12_sellsOf e hH r_x1) (fun v13 s14 h14 hH14 r_v13 hF => dw_rI rfl rfl r_v13 hH14 hF)))
    refine dw_ts rfl r_x2 (u := 137) (by rw [if_pos (by omega)]; rfl) ?_
    exact dw_ic rfl (dw_rI rfl rfl (d_rl rfl) hH hF)
set_option maxRecDepth 100000 in
noncomputable def F_X12_goOn (s : d_S) : Option (d_S) :=
  if (s.1 65 9) < 999 then
  d_b (F_X12_pass s) (fun s1 => some s1)
  else
  some s
set_option maxRecDepth 100000 in
theorem D_X12_goOn {t : Nat → Option p_C} {h : p_H} {s : d_S} {r : d_S} (hF : F_X12_goOn s = some r) (hH : d_V t h s) : p_wp p_GT p_MT 9 m_X12_goOn 0 (lv_args 0 [.ref 64]) [] h (d_QV t r) := by
  unfold F_X12_goOn at hF
  refine dw_aln rfl rfl (dw_gr rfl rfl rfl hH d_c64_0 (dw_bp rfl rfl (dw_ald rfl hH d_a65 rfl (by decide) (by decide) (d_rl rfl) (k := 9) rfl (dw_sp rfl rfl (?_)))))
  refine d_if hF (fun q hF => ?_) (fun q hF => ?_)
  · refine dw_ge_y rfl (u := 17) rfl hH.r (d_rl rfl) q ?_
    exact dw_aln rfl rfl (dw_vV hF rfl (d_vir (n := 1) rfl rfl rfl rfl rfl hH d_c64_0 rfl) rfl rfl rfl (dc := 8) (fun _ e => D_X12_pass e hH) (fun s1 h1 hH1 hF => dw_rV rfl rfl hH1 hF))
  · refine dw_ge_n rfl (u := 17) rfl hH.r (d_rl rfl) q ?_
    exact dw_rV rfl rfl hH hF
set_option maxRecDepth 100000 in
noncomputable def F_X12_foretold_l31_b (k46 : Int → d_S → Option (Int × d_S)) (rec : Int → Int → Int → d_S → Option (Int × d_S)) (x1 : Int) (x2 : Int) (x3 : Int) (s : d_S) : Option (Int × d_S) :=
  if x3 < x1 then
  d_b (F_X12_goOn s) (fun s3 => rec x1 x2 (d_w (x3 + 1)) s3)
  else
  k46 x2 s
set_option maxRecDepth 100000 in
noncomputable def F_X12_foretold_l31 (k46 : Int → d_S → Option (Int × d_S)) : Nat → Int → Int → Int → d_S → Option (Int × d_S)
  | 0 => fun _ _ _ _ => none
  | n + 1 => F_X12_foretold_l31_b k46 (F_X12_foretold_l31 k46 n)
set_option maxRecDepth 100000 in
theorem D_X12_foretold_l31 {t : Nat → Option p_C} {k46 : Int → d_S → Option (Int × d_S)} {r : Int × d_S} (hk46 : ∀ {x2 : Int} {ls : p_Ls} {s : d_S} {h : p_H}, k46 x2 s = some r → d_V t h s → p_lk 0 ls = some (.ref 64) → d_R x2 → p_lk 2 ls = some (.int (Int32.ofInt x2)) → p_wp p_GT p_MT 10 m_X12_foretold 46 ls [] h (d_QI t r)) : ∀ (n : Nat) {x1 : Int} {x2 : Int} {x3 : Int} {ls : p_Ls} {s : d_S} {h : p_H}, F_X12_foretold_l31 k46 n x1 x2 x3 s = some r → d_V t h s → p_lk 0 ls = some (.ref 64) → d_R x1 → p_lk 1 ls = some (.int (Int32.ofInt x1)) → d_R x2 → p_lk 2 ls = some (.int (Int32.ofInt x2)) → d_R x3 → p_lk 3 ls = some (.int (Int32.ofInt x3)) → p_wp p_GT p_MT 10 m_X12_foretold 31 ls [] h (d_QI t r) := by
  intro n
  induction n with
  | zero =>
    intro x1 x2 x3 ls s h hF hH l0 r_x1 l1 r_x2 l2 r_x3 l3
    cases (show (none : Option (Int × d_S)) = some r from hF)
  | succ n ih =>
    intro x1 x2 x3 ls s h hF hH l0 r_x1 l1 r_x2 l2 r_x3 l3
    have hF : F_X12_foretold_l31_b k46 (F_X12_foretold_l31 k46 n) x1 x2 x3 s = some r := hF
    unfold F_X12_foretold_l31_b at hF
    refine dw_iln rfl l3 (dw_iln rfl l1 (?_))
    refine d_if hF (fun q hF => ?_) (fun q hF => ?_)
    · refine dw_ge_y rfl (u := 46) rfl r_x3 r_x1 q ?_
      refine dw_aln rfl l0 (dw_vV hF rfl (d_vir (n := 1) rfl rfl rfl rfl rfl hH d_c64_0 rfl) rfl rfl rfl (dc := 9) (fun _ e => D_X12_goOn e hH) (fun s3 h3 hH3 hF => dw_ii rfl l3 rfl (dw_go rfl (u := 31) rfl (?_))))
      exact ih hF hH3 (d_s1 l0 rfl (by decide)) r_x1 (d_s1 l1 rfl (by decide)) r_x2 (d_s1 l2 rfl (by decide)) d_R_w p_lk_s1
    · refine dw_ge_n rfl (u := 46) rfl r_x3 r_x1 q ?_
      exact hk46 hF hH l0 r_x2 l2
set_option maxRecDepth 100000 in
noncomputable def F_X12_foretold_j64 (y0 : Int) (s : d_S) : Option (Int × d_S) :=
  d_b (F_X12_putBack s) (fun s6 => some (y0, s6))
set_option maxRecDepth 100000 in
theorem D_X12_foretold_j64 {t : Nat → Option p_C} {h : p_H} {s : d_S} {y0 : Int} {r : Int × d_S} {ls : p_Ls} (hF : F_X12_foretold_j64 y0 s = some r) (hH : d_V t h s) (l0 : p_lk 0 ls = some (.ref 64)) (r_y0 : d_R y0) : p_wp p_GT p_MT 10 m_X12_foretold 64 ls [.int (Int32.ofInt y0)] h (d_QI t r) := by
  unfold F_X12_foretold_j64 at hF
  exact dw_isn rfl rfl (dw_aln rfl (d_s1 l0 rfl (by decide)) (dw_vV hF rfl (d_vir (n := 1) rfl rfl rfl rfl rfl hH d_c64_0 rfl) rfl rfl rfl (dc := 0) (fun _ e => D_X12_putBack e hH) (fun s6 h6 hH6 hF => dw_iln rfl p_lk_s1 (dw_rI rfl rfl r_y0 hH6 hF))))
set_option maxRecDepth 100000 in
noncomputable def F_X12_foretold_j25 (x1 : Int) (x2 : Int) (s : d_S) : Option (Int × d_S) :=
  d_b (F_X12_begin s) (fun s2 => F_X12_foretold_l31 (fun x2_u4 s_u4 =>
  if x2_u4 = (-1) then
  d_b (F_X12_showing s_u4) (fun v5 => F_X12_foretold_j64 v5 s_u4)
  else
  d_b (F_X12_get s_u4 x2_u4 1) (fun v7 => F_X12_foretold_j64 v7 s_u4)) d_N x1 x2 0 s2)
set_option maxRecDepth 100000 in
theorem D_X12_foretold_j25 {t : Nat → Option p_C} {h : p_H} {s : d_S} {x1 : Int} {x2 : Int} {r : Int × d_S} {ls : p_Ls} (hF : F_X12_foretold_j25 x1 x2 s = some r) (hH : d_V t h s) (l0 : p_lk 0 ls = some (.ref 64)) (r_x1 : d_R x1) (l1 : p_lk 1 ls = some (.int (Int32.ofInt x1))) (r_x2 : d_R x2) (l2 : p_lk 2 ls = some (.int (Int32.ofInt x2))) : p_wp p_GT p_MT 10 m_X12_foretold 25 ls [] h (d_QI t r) := by
  unfold F_X12_foretold_j25 at hF
  refine dw_aln rfl l0 (dw_vV hF rfl (d_vir (n := 1) rfl rfl rfl rfl rfl hH d_c64_0 rfl) rfl rfl rfl (dc := 0) (fun _ e => D_X12_begin e hH) (fun s2 h2 hH2 hF => dw_ic rfl (dw_isn rfl rfl (?_))))
  refine D_X12_foretold_l31 (fun {x2_u4} {ls_u4} {s_u4} {h_u4} hF hH_u4 l0_u4 r_x2_u4 l2_u4 => ?_) _ hF hH2 (d_s1 l0 rfl (by decide)) r_x1 (d_s1 l1 rfl (by decide)) r_x2 (d_s1 l2 rfl (by decide)) (d_rl rfl) p_lk_s1
  · refine dw_iln rfl l2_u4 (dw_ic rfl (?_))
    refine d_if hF (fun q hF => ?_) (fun q hF => ?_)
    · refine dw_ne_y rfl (u := 58) rfl r_x2_u4 (d_rl rfl) q ?_
      refine dw_aln rfl l0_u4 (dw_vP hF rfl (d_vir (n := 1) rfl rfl rfl rfl rfl hH_u4 d_c64_0 rfl) rfl rfl rfl (dc := 6) (fun _ e => D_X12_showing e hH_u4) (fun v5 r_v5 hF => dw_go rfl (u := 64) rfl (?_)))
      exact D_X12_foretold_j64 hF hH_u4 l0_u4 r_v5
    · refine dw_ne_n rfl (u := 58) rfl r_x2_u4 (d_rl rfl) q ?_
      refine dw_aln rfl l0_u4 (dw_iln rfl l2_u4 (dw_ic rfl (dw_vP hF rfl (d_vir (n := 3) rfl rfl rfl rfl rfl hH_u4 d_c64_0 rfl) rfl rfl rfl (dc := 0) (fun _ e => D_X12_get e hH_u4 r_x2_u4 (d_rl rfl)) (fun v7 r_v7 hF => ?_))))
      exact D_X12_foretold_j64 hF hH_u4 l0_u4 r_v7
set_option maxRecDepth 100000 in
noncomputable def F_X12_foretold (s : d_S) (x1 : Int) (x2 : Int) : Option (Int × d_S) :=
  d_b (F_X12_isIn x1 1 60) (fun v1 => if v1 = 0 then
  some ((-1), s)
  else
  if x2 = (-1) then
  F_X12_foretold_j25 x1 x2 s
  else
  d_b (F_X12_isBlock s x2) (fun v8 => if v8 = 0 then
  some ((-1), s)
  else
  F_X12_foretold_j25 x1 x2 s))
set_option maxRecDepth 100000 in
theorem D_X12_foretold {t : Nat → Option p_C} {h : p_H} {s : d_S} {x1 : Int} {x2 : Int} {r : Int × d_S} (hF : F_X12_foretold s x1 x2 = some r) (hH : d_V t h s) (r_x1 : d_R x1) (r_x2 : d_R x2) : p_wp p_GT p_MT 10 m_X12_foretold 0 (lv_args 0 [.ref 64, .int (Int32.ofInt x1), .int (Int32.ofInt x2)]) [] h (d_QI t r) := by
  unfold F_X12_foretold at hF
  refine dw_iln rfl rfl (dw_ic rfl (dw_bp rfl rfl (dw_sB hF rfl rfl rfl rfl rfl (dc := 0) (fun _ e => D_X12_isIn e r_x1 (d_rl rfl) (d_rl rfl)) (fun v1 r_v1 hF => ?_))))
  refine d_if hF (fun q hF => ?_) (fun q hF => ?_)
  · refine dw_zeq_y rfl (u := 23) rfl (d_R_b r_v1) q ?_
    exact dw_ic rfl (dw_rI rfl rfl (d_rl rfl) hH hF)
  · refine dw_zeq_n rfl (u := 23) rfl (d_R_b r_v1) q ?_
    refine dw_iln rfl rfl (dw_ic rfl (?_))
    refine d_if hF (fun q hF => ?_) (fun q hF => ?_)
    · refine dw_eq_y rfl (u := 25) rfl r_x2 (d_rl rfl) q ?_
      exact D_X12_foretold_j25 hF hH rfl r_x1 rfl r_x2 rfl
    · refine dw_eq_n rfl (u := 25) rfl r_x2 (d_rl rfl) q ?_
      refine dw_aln rfl rfl (dw_iln rfl rfl (dw_vB hF rfl (d_vir (n := 2) rfl rfl rfl rfl rfl hH d_c64_0 rfl) rfl rfl rfl (dc := 3) (fun _ e => D_X12_isBlock e hH r_x2) (fun v8 r_v8 hF => ?_)))
      refine d_if hF (fun q hF => ?_) (fun q hF => ?_)
      · refine dw_zne_y rfl (u := 25) rfl (d_R_b r_v8) q ?_
        exact dw_ic rfl (dw_rI rfl rfl (d_rl rfl) hH hF)
      · refine dw_zne_n rfl (u := 25) rfl (d_R_b r_v8) q ?_
        exact D_X12_foretold_j25 hF hH rfl r_x1 rfl r_x2 rfl
set_option maxRecDepth 100000 in
noncomputable def F_X12_showsIn_j39 (k18 : Int → Int → Int → d_S → Option (Int × d_S)) (x1 : Int) (x2 : Int) (x3 : Int) (s : d_S) : Option (Int × d_S) :=
  d_b (F_X12_goOn s) (fun s4 => k18 x1 x2 (d_w (x3 + 1)) s4)
set_option maxRecDepth 100000 in
theorem D_X12_showsIn_j39 {t : Nat → Option p_C} {h : p_H} {s : d_S} {k18 : Int → Int → Int → d_S → Option (Int × d_S)} {x1 : Int} {x2 : Int} {x3 : Int} {r : Int × d_S} {ls : p_Ls} (hF : F_X12_showsIn_j39 k18 x1 x2 x3 s = some r) (hH : d_V t h s) (l0 : p_lk 0 ls = some (.ref 64)) (r_x1 : d_R x1) (l1 : p_lk 1 ls = some (.int (Int32.ofInt x1))) (r_x2 : d_R x2) (l2 : p_lk 2 ls = some (.int (Int32.ofInt x2))) (r_x3 : d_R x3) (l3 : p_lk 3 ls = some (.int (Int32.ofInt x3))) (hk18 : ∀ {x1 : Int} {x2 : Int} {x3 : Int} {ls : p_Ls} {s : d_S} {h : p_H}, k18 x1 x2 x3 s = some r → d_V t h s → p_lk 0 ls = some (.ref 64) → d_R x1 → p_lk 1 ls = some (.int (Int32.ofInt x1)) → d_R x2 → p_lk 2 ls = some (.int (Int32.ofInt x2)) → d_R x3 → p_lk 3 ls = some (.int (Int32.ofInt x3)) → p_wp p_GT p_MT 10 m_X12_showsIn 18 ls [] h (d_QI t r)) : p_wp p_GT p_MT 10 m_X12_showsIn 39 ls [] h (d_QI t r) := by
  unfold F_X12_showsIn_j39 at hF
  refine dw_aln rfl l0 (dw_vV hF rfl (d_vir (n := 1) rfl rfl rfl rfl rfl hH d_c64_0 rfl) rfl rfl rfl (dc := 9) (fun _ e => D_X12_goOn e hH) (fun s4 h4 hH4 hF => dw_ii rfl l3 rfl (dw_go rfl (u := 18) rfl (?_))))
  exact hk18 hF hH4 (d_s1 l0 rfl (by decide)) r_x1 (d_s1 l1 rfl (by decide)) r_x2 (d_s1 l2 rfl (by decide)) d_R_w p_lk_s1
set_option maxRecDepth 100000 in
noncomputable def F_X12_showsIn_l18_b (k49 : Int → d_S → Option (Int × d_S)) (rec : Int → Int → Int → d_S → Option (Int × d_S)) (x1 : Int) (x2 : Int) (x3 : Int) (s : d_S) : Option (Int × d_S) :=
  if 60 < x3 then
  k49 x2 s
  else
  if x2 = (-1) then
  d_b (F_X12_isShowing s x1) (fun v3 => if v3 = 0 then
  F_X12_showsIn_j39 rec x1 x2 x3 s
  else
  F_X12_showsIn_j39 rec x1 x3 x3 s)
  else
  k49 x2 s
set_option maxRecDepth 100000 in
noncomputable def F_X12_showsIn_l18 (k49 : Int → d_S → Option (Int × d_S)) : Nat → Int → Int → Int → d_S → Option (Int × d_S)
  | 0 => fun _ _ _ _ => none
  | n + 1 => F_X12_showsIn_l18_b k49 (F_X12_showsIn_l18 k49 n)
set_option maxRecDepth 100000 in
theorem D_X12_showsIn_l18 {t : Nat → Option p_C} {k49 : Int → d_S → Option (Int × d_S)} {r : Int × d_S} (hk49 : ∀ {x2 : Int} {ls : p_Ls} {s : d_S} {h : p_H}, k49 x2 s = some r → d_V t h s → p_lk 0 ls = some (.ref 64) → d_R x2 → p_lk 2 ls = some (.int (Int32.ofInt x2)) → p_wp p_GT p_MT 10 m_X12_showsIn 49 ls [] h (d_QI t r)) : ∀ (n : Nat) {x1 : Int} {x2 : Int} {x3 : Int} {ls : p_Ls} {s : d_S} {h : p_H}, F_X12_showsIn_l18 k49 n x1 x2 x3 s = some r → d_V t h s → p_lk 0 ls = some (.ref 64) → d_R x1 → p_lk 1 ls = some (.int (Int32.ofInt x1)) → d_R x2 → p_lk 2 ls = some (.int (Int32.ofInt x2)) → d_R x3 → p_lk 3 ls = some (.int (Int32.ofInt x3)) → p_wp p_GT p_MT 10 m_X12_showsIn 18 ls [] h (d_QI t r) := by
  intro n
  induction n with
  | zero =>
    intro x1 x2 x3 ls s h hF hH l0 r_x1 l1 r_x2 l2 r_x3 l3
    cases (show (none : Option (Int × d_S)) = some r from hF)
  | succ n ih =>
    intro x1 x2 x3 ls s h hF hH l0 r_x1 l1 r_x2 l2 r_x3 l3
    have hF : F_X12_showsIn_l18_b k49 (F_X12_showsIn_l18 k49 n) x1 x2 x3 s = some r := hF
    unfold F_X12_showsIn_l18_b at hF
    refine dw_iln rfl l3 (dw_bp rfl rfl (?_))
    refine d_if hF (fun q hF => ?_) (fun q hF => ?_)
    · refine dw_gt_y rfl (u := 49) rfl r_x3 (d_rl rfl) q ?_
      exact hk49 hF hH l0 r_x2 l2
    · refine dw_gt_n rfl (u := 49) rfl r_x3 (d_rl rfl) q ?_
      refine dw_iln rfl l2 (dw_ic rfl (?_))
      refine d_if hF (fun q hF => ?_) (fun q hF => ?_)
      · refine dw_ne_y rfl (u := 49) rfl r_x2 (d_rl rfl) q ?_
        refine dw_aln rfl l0 (dw_iln rfl l1 (dw_vB hF rfl (d_vir (n := 2) rfl rfl rfl rfl rfl hH d_c64_0 rfl) rfl rfl rfl (dc := 5) (fun _ e => D_X12_isShowing e hH r_x1) (fun v3 r_v3 hF => ?_)))
        refine d_if hF (fun q hF => ?_) (fun q hF => ?_)
        · refine dw_zeq_y rfl (u := 39) rfl (d_R_b r_v3) q ?_
          exact D_X12_showsIn_j39 hF hH l0 r_x1 l1 r_x2 l2 r_x3 l3 (fun {x1} {x2} {x3} {ls} {s} {h} hF hH l0 r_x1 l1 r_x2 l2 r_x3 l3 => ih hF hH l0 r_x1 l1 r_x2 l2 r_x3 l3)
        · refine dw_zeq_n rfl (u := 39) rfl (d_R_b r_v3) q ?_
          refine dw_iln rfl l3 (dw_isn rfl rfl (?_))
          exact D_X12_showsIn_j39 hF hH (d_s1 l0 rfl (by decide)) r_x1 (d_s1 l1 rfl (by decide)) r_x3 p_lk_s1 r_x3 (d_s1 l3 rfl (by decide)) (fun {x1} {x2} {x3} {ls} {s} {h} hF hH l0 r_x1 l1 r_x2 l2 r_x3 l3 => ih hF hH l0 r_x1 l1 r_x2 l2 r_x3 l3)
      · refine dw_ne_n rfl (u := 49) rfl r_x2 (d_rl rfl) q ?_
        exact hk49 hF hH l0 r_x2 l2
set_option maxRecDepth 100000 in
noncomputable def F_X12_showsIn (s : d_S) (x1 : Int) : Option (Int × d_S) :=
  d_b (F_X12_isSight s x1) (fun v1 => if v1 = 0 then
  some ((-1), s)
  else
  d_b (F_X12_begin s) (fun s2 => F_X12_showsIn_l18 (fun x2_u5 s_u5 =>
  d_b (F_X12_putBack s_u5) (fun s6 => some (x2_u5, s6))) d_N x1 (-1) 0 s2))
set_option maxRecDepth 100000 in
theorem D_X12_showsIn {t : Nat → Option p_C} {h : p_H} {s : d_S} {x1 : Int} {r : Int × d_S} (hF : F_X12_showsIn s x1 = some r) (hH : d_V t h s) (r_x1 : d_R x1) : p_wp p_GT p_MT 10 m_X12_showsIn 0 (lv_args 0 [.ref 64, .int (Int32.ofInt x1)]) [] h (d_QI t r) := by
  unfold F_X12_showsIn at hF
  refine dw_aln rfl rfl (dw_iln rfl rfl (dw_vB hF rfl (d_vir (n := 2) rfl rfl rfl rfl rfl hH d_c64_0 rfl) rfl rfl rfl (dc := 1) (fun _ e => D_X12_isSight e hH r_x1) (fun v1 r_v1 hF => ?_)))
  refine d_if hF (fun q hF => ?_) (fun q hF => ?_)
  · refine dw_zne_y rfl (u := 10) rfl (d_R_b r_v1) q ?_
    exact dw_ic rfl (dw_rI rfl rfl (d_rl rfl) hH hF)
  · refine dw_zne_n rfl (u := 10) rfl (d_R_b r_v1) q ?_
    refine dw_aln rfl rfl (dw_vV hF rfl (d_vir (n := 1) rfl rfl rfl rfl rfl hH d_c64_0 rfl) rfl rfl rfl (dc := 0) (fun _ e => D_X12_begin e hH) (fun s2 h2 hH2 hF => dw_ic rfl (dw_isn rfl rfl (dw_ic rfl (dw_isn rfl rfl (?_))))))
    refine D_X12_showsIn_l18 (fun {x2_u5} {ls_u5} {s_u5} {h_u5} hF hH_u5 l0_u5 r_x2_u5 l2_u5 => ?_) _ hF hH2 (d_s1 (d_s1 rfl rfl (by decide)) rfl (by decide)) r_x1 (d_s1 (d_s1 rfl rfl (by decide)) rfl (by decide)) (d_rl rfl) (d_s1 p_lk_s1 rfl (by decide)) (d_rl rfl) p_lk_s1
    · exact dw_aln rfl l0_u5 (dw_vV hF rfl (d_vir (n := 1) rfl rfl rfl rfl rfl hH_u5 d_c64_0 rfl) rfl rfl rfl (dc := 0) (fun _ e => D_X12_putBack e hH_u5) (fun s6 h6 hH6 hF => dw_iln rfl l2_u5 (dw_rI rfl rfl r_x2_u5 hH6 hF)))

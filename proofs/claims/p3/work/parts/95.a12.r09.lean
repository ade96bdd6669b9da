set_option maxRecDepth 100000 in
noncomputable def F_X12_dearest_l8_b (k39 : Int → d_S → Option (Int × d_S)) (rec : Int → Int → d_S → Option (Int × d_S)) (x1 : Int) (x2 : Int) (s : d_S) : Option (Int × d_S) :=
  if x2 < 64 then
  d_b (F_X12_canSell s x2) (fun v1 => if v1 = 0 then
  d_g (0 ≤ x2 ∧ x2 < 64) (d_l (d_si s 74 ((x2).toNat) 1) (fun s3 => rec x1 (d_w (x2 + 1)) s3))
  else
  d_g (0 ≤ x2 ∧ x2 < 64) (d_l (d_si s 74 ((x2).toNat) 0) (fun s5 => rec x1 (d_w (x2 + 1)) s5)))
  else
  k39 x1 s
set_option maxRecDepth 100000 in
noncomputable def F_X12_dearest_l8 (k39 : Int → d_S → Option (Int × d_S)) : Nat → Int → Int → d_S → Option (Int × d_S)
  | 0 => fun _ _ _ => none
  | n + 1 => F_X12_dearest_l8_b k39 (F_X12_dearest_l8 k39 n)
set_option maxRecDepth 100000 in
theorem D_X12_dearest_l8 {t : Nat → Option p_C} {k39 : Int → d_S → Option (Int × d_S)} {r : Int × d_S} (hk39 : ∀ {x1 : Int} {ls : p_Ls} {s : d_S} {h : p_H}, k39 x1 s = some r → d_V t h s → p_lk 0 ls = some (.ref 64) → d_R x1 → p_lk 1 ls = some (.int (Int32.ofInt x1)) → p_wp p_GT p_MT 7 m_X12_dearest 39 ls [] h (d_QI t r)) : ∀ (n : Nat) {x1 : Int} {x2 : Int} {ls : p_Ls} {s : d_S} {h : p_H}, F_X12_dearest_l8 k39 n x1 x2 s = some r → d_V t h s → p_lk 0 ls = some (.ref 64) → d_R x1 → p_lk 1 ls = some (.int (Int32.ofInt x1)) → d_R x2 → p_lk 2 ls = some (.int (Int32.ofInt x2)) → p_wp p_GT p_MT 7 m_X12_dearest 8 ls [] h (d_QI t r) := by
  intro n
  induction n with
  | zero =>
    intro x1 x2 ls s h hF hH l0 r_x1 l1 r_x2 l2
    cases (show (none : Option (Int × d_S)) = some r from hF)
  | succ n ih =>
    intro x1 x2 ls s h hF hH l0 r_x1 l1 r_x2 l2
    have hF : F_X12_dearest_l8_b k39 (F_X12_dearest_l8 k39 n) x1 x2 s = some r := hF
    unfold F_X12_dearest_l8_b at hF
    refine dw_iln rfl l2 (dw_bp rfl rfl (?_))
    refine d_if hF (fun q hF => ?_) (fun q hF => ?_)
    · refine dw_ge_y rfl (u := 39) rfl r_x2 (d_rl rfl) q ?_
      refine dw_aln rfl l0 (dw_gr rfl rfl rfl hH d_c64_25 (dw_iln rfl l2 (dw_aln rfl l0 (dw_iln rfl l2 (dw_vB hF rfl (d_vir (n := 2) rfl rfl rfl rfl rfl hH d_c64_0 rfl) rfl rfl rfl (dc := 4) (fun _ e => D_X12_canSell e hH r_x2) (fun v1 r_v1 hF => ?_))))))
      refine d_if hF (fun q hF => ?_) (fun q hF => ?_)
      · refine dw_zne_y rfl (u := 31) rfl (d_R_b r_v1) q ?_
        refine dw_ic rfl (dw_go rfl (u := 32) rfl (d_gd hF (fun g2 hF => dw_bst rfl hH d_a74 g2.1 g2.2 r_x2 rfl (Or.inr rfl) hF (fun s3 h3 hH3 hF => dw_ii rfl l2 rfl (dw_go rfl (u := 8) rfl (?_))))))
        exact ih hF hH3 (d_s1 l0 rfl (by decide)) r_x1 (d_s1 l1 rfl (by decide)) d_R_w p_lk_s1
      · refine dw_zne_n rfl (u := 31) rfl (d_R_b r_v1) q ?_
        refine dw_ic rfl (d_gd hF (fun g4 hF => dw_bst rfl hH d_a74 g4.1 g4.2 r_x2 rfl (Or.inl rfl) hF (fun s5 h5 hH5 hF => dw_ii rfl l2 rfl (dw_go rfl (u := 8) rfl (?_)))))
        exact ih hF hH5 (d_s1 l0 rfl (by decide)) r_x1 (d_s1 l1 rfl (by decide)) d_R_w p_lk_s1
    · refine dw_ge_n rfl (u := 39) rfl r_x2 (d_rl rfl) q ?_
      exact hk39 hF hH l0 r_x1 l1
set_option maxRecDepth 100000 in
noncomputable def F_X12_dearest_l53_b (k100 : Int → Int → Int → d_S → Option (Int × d_S)) (rec : Int → Int → Int → Int → d_S → Option (Int × d_S)) (x1 : Int) (x2 : Int) (x3 : Int) (x4 : Int) (s : d_S) : Option (Int × d_S) :=
  d_b (F_X12_blocks s) (fun v7 => if x4 < v7 then
  d_g (0 ≤ x4 ∧ x4 < 64) (if (s.1 74 (x4.toNat)) = 0 then
  if x2 = (-1) then
  rec x1 x4 x3 (d_w (x4 + 1)) s
  else
  d_b2 (F_X12_sellsOf s x4) (fun v9 s10 => d_b2 (F_X12_sellsOf s10 x2) (fun v11 s12 => if v11 < v9 then
  rec x1 x4 x3 (d_w (x4 + 1)) s12
  else
  rec x1 x2 x3 (d_w (x4 + 1)) s12))
  else
  rec x1 x2 x3 (d_w (x4 + 1)) s)
  else
  k100 x1 x2 x3 s)
set_option maxRecDepth 100000 in
noncomputable def F_X12_dearest_l53 (k100 : Int → Int → Int → d_S → Option (Int × d_S)) : Nat → Int → Int → Int → Int → d_S → Option (Int × d_S)
  | 0 => fun _ _ _ _ _ => none
  | n + 1 => F_X12_dearest_l53_b k100 (F_X12_dearest_l53 k100 n)
set_option maxRecDepth 100000 in
theorem D_X12_dearest_l53 {t : Nat → Option p_C} {k100 : Int → Int → Int → d_S → Option (Int × d_S)} {r : Int × d_S} (hk100 : ∀ {x1 : Int} {x2 : Int} {x3 : Int} {ls : p_Ls} {s : d_S} {h : p_H}, k100 x1 x2 x3 s = some r → d_V t h s → p_lk 0 ls = some (.ref 64) → d_R x1 → p_lk 1 ls = some (.int (Int32.ofInt x1)) → d_R x2 → p_lk 2 ls = some (.int (Int32.ofInt x2)) → d_R x3 → p_lk 3 ls = some (.int (Int32.ofInt x3)) → p_wp p_GT p_MT 7 m_X12_dearest 100 ls [] h (d_QI t r)) : ∀ (n : Nat) {x1 : Int} {x2 : Int} {x3 : Int} {x4 : Int} {ls : p_Ls} {s : d_S} {h : p_H}, F_X12_dearest_l53 k100 n x1 x2 x3 x4 s = some r → d_V t h s → p_lk 0 ls = some (.ref 64) → d_R x1 → p_lk 1 ls = some (.int (Int32.ofInt x1)) → d_R x2 → p_lk 2 ls = some (.int (Int32.ofInt x2)) → d_R x3 → p_lk 3 ls = some (.int (Int32.ofInt x3)) → d_R x4 → p_lk 4 ls = some (.int (Int32.ofInt x4)) → p_wp p_GT p_MT 7 m_X12_dearest 53 ls [] h (d_QI t r) := by
  intro n
  induction n with
  | zero =>
    intro x1 x2 x3 x4 ls s h hF hH l0 r_x1 l1 r_x2 l2 r_x3 l3 r_x4 l4
    cases (show (none : Option (Int × d_S)) = some r from hF)
  | succ n ih =>
    intro x1 x2 x3 x4 ls s h hF hH l0 r_x1 l1 r_x2 l2 r_x3 l3 r_x4 l4
    have hF : F_X12_dearest_l53_b k100 (F_X12_dearest_l53 k100 n) x1 x2 x3 x4 s = some r := hF
    unfold F_X12_dearest_l53_b at hF
    refine dw_il rfl l4 (dw_aln rfl l0 (dw_vP hF rfl (d_vir (n := 1) rfl rfl rfl rfl rfl hH d_c64_0 rfl) rfl rfl rfl (dc := 2) (fun _ e => D_X12_blocks e hH) (fun v7 r_v7 hF => ?_)))
    refine d_if hF (fun q hF => ?_) (fun q hF => ?_)
    · refine dw_ge_y rfl (u := 100) rfl r_x4 r_v7 q ?_
      refine dw_aln rfl l0 (dw_gr rfl rfl rfl hH d_c64_25 (dw_il rfl l4 (d_gd hF (fun g8 hF => dw_bld rfl hH d_a74 g8.1 g8.2 r_x4 rfl (?_)))))
      refine d_if hF (fun q hF => ?_) (fun q hF => ?_)
      · refine dw_zne_y rfl (u := 94) rfl hH.r q ?_
        refine dw_iln rfl l2 (dw_ic rfl (?_))
        refine d_if hF (fun q hF => ?_) (fun q hF => ?_)
        · refine dw_eq_y rfl (u := 91) rfl r_x2 (d_rl rfl) q ?_
          refine dw_il rfl l4 (dw_isn rfl rfl (dw_ii rfl (d_s1 l4 rfl (by decide)) rfl (dw_go rfl (u := 53) rfl (?_))))
          exact ih hF hH (d_s1 (d_s1 l0 rfl (by decide)) rfl (by decide)) r_x1 (d_s1 (d_s1 l1 rfl (by decide)) rfl (by decide)) r_x4 (d_s1 p_lk_s1 rfl (by decide)) r_x3 (d_s1 (d_s1 l3 rfl (by decide)) rfl (by decide)) d_R_w p_lk_s1
        · refine dw_eq_n rfl (u := 91) rfl r_x2 (d_rl rfl) q ?_
          refine dw_aln rfl l0 (dw_il rfl l4 (dw_vI hF rfl (d_vir (n := 2) rfl rfl rfl rfl rfl hH d_c64_0 rfl) rfl rfl rfl (dc := 6) (fun _ _ e => D_X12_sellsOf e hH r_x4) (fun v9 s10 h10 hH10 r_v9 hF => dw_aln rfl l0 (dw_iln rfl l2 (dw_vI hF rfl (d_vir (n := 2) rfl rfl rfl rfl rfl hH10 d_c64_0 rfl) rfl rfl rfl (dc := 6) (fun _ _ e => D_X12_sellsOf e hH10 r_x2) (fun v11 s12 h12 hH12 r_v11 hF => ?_))))))
          refine d_if hF (fun q hF => ?_) (fun q hF => ?_)
          · refine dw_le_y rfl (u := 94) rfl r_v9 r_v11 q ?_
            refine dw_il rfl l4 (dw_isn rfl rfl (dw_ii rfl (d_s1 l4 rfl (by decide)) rfl (dw_go rfl (u := 53) rfl (?_))))
            exact ih hF hH12 (d_s1 (d_s1 l0 rfl (by decide)) rfl (by decide)) r_x1 (d_s1 (d_s1 l1 rfl (by decide)) rfl (by decide)) r_x4 (d_s1 p_lk_s1 rfl (by decide)) r_x3 (d_s1 (d_s1 l3 rfl (by decide)) rfl (by decide)) d_R_w p_lk_s1
          · refine dw_le_n rfl (u := 94) rfl r_v9 r_v11 q ?_
            refine dw_ii rfl l4 rfl (dw_go rfl (u := 53) rfl (?_))
            exact ih hF hH12 (d_s1 l0 rfl (by decide)) r_x1 (d_s1 l1 rfl (by decide)) r_x2 (d_s1 l2 rfl (by decide)) r_x3 (d_s1 l3 rfl (by decide)) d_R_w p_lk_s1
      · refine dw_zne_n rfl (u := 94) rfl hH.r q ?_
        refine dw_ii rfl l4 rfl (dw_go rfl (u := 53) rfl (?_))
        exact ih hF hH (d_s1 l0 rfl (by decide)) r_x1 (d_s1 l1 rfl (by decide)) r_x2 (d_s1 l2 rfl (by decide)) r_x3 (d_s1 l3 rfl (by decide)) d_R_w p_lk_s1
    · refine dw_ge_n rfl (u := 100) rfl r_x4 r_v7 q ?_
      exact hk100 hF hH l0 r_x1 l1 r_x2 l2 r_x3 l3
set_option maxRecDepth 100000 in
noncomputable def F_X12_dearest_l43_b (rec : Int → Int → Int → d_S → Option (Int × d_S)) (x1 : Int) (x2 : Int) (x3 : Int) (s : d_S) : Option (Int × d_S) :=
  if x1 < x3 then
  some (x2, s)
  else
  F_X12_dearest_l53 (fun x1_u13 x2_u13 x3_u13 s_u13 =>
  if x2_u13 = (-1) then
  some ((-1), s_u13)
  else
  d_g (0 ≤ x2_u13 ∧ x2_u13 < 64) (d_l (d_si s_u13 74 ((x2_u13).toNat) 1) (fun s15 => rec x1_u13 x2_u13 (d_w (x3_u13 + 1)) s15))) d_N x1 (-1) x3 0 s
set_option maxRecDepth 100000 in
noncomputable def F_X12_dearest_l43 : Nat → Int → Int → Int → d_S → Option (Int × d_S)
  | 0 => fun _ _ _ _ => none
  | n + 1 => F_X12_dearest_l43_b (F_X12_dearest_l43 n)
set_option maxRecDepth 100000 in
theorem D_X12_dearest_l43 {t : Nat → Option p_C} {r : Int × d_S} : ∀ (n : Nat) {x1 : Int} {x2 : Int} {x3 : Int} {ls : p_Ls} {s : d_S} {h : p_H}, F_X12_dearest_l43 n x1 x2 x3 s = some r → d_V t h s → p_lk 0 ls = some (.ref 64) → d_R x1 → p_lk 1 ls = some (.int (Int32.ofInt x1)) → d_R x2 → p_lk 2 ls = some (.int (Int32.ofInt x2)) → d_R x3 → p_lk 3 ls = some (.int (Int32.ofInt x3)) → p_wp p_GT p_MT 7 m_X12_dearest 43 ls [] h (d_QI t r) := by
  intro n
  induction n with
  | zero =>
    intro x1 x2 x3 ls s h hF hH l0 r_x1 l1 r_x2 l2 r_x3 l3
    cases (show (none : Option (Int × d_S)) = some r from hF)
  | succ n ih =>
    intro x1 x2 x3 ls s h hF hH l0 r_x1 l1 r_x2 l2 r_x3 l3
    have hF : F_X12_dearest_l43_b (F_X12_dearest_l43 n) x1 x2 x3 s = some r := hF
    unfold F_X12_dearest_l43_b at hF
    refine dw_iln rfl l3 (dw_iln rfl l1 (?_))
    refine d_if hF (fun q hF => ?_) (fun q hF => ?_)
    · refine dw_gt_y rfl (u := 120) rfl r_x3 r_x1 q ?_
      exact dw_iln rfl l2 (dw_rI rfl rfl r_x2 hH hF)
    · refine dw_gt_n rfl (u := 120) rfl r_x3 r_x1 q ?_
      refine dw_ic rfl (dw_isn rfl rfl (dw_ic rfl (dw_is rfl rfl (?_))))
      refine D_X12_dearest_l53 (fun {x1_u13} {x2_u13} {x3_u13} {ls_u13} {s_u13} {h_u13} hF hH_u13 l0_u13 r_x1_u13 l1_u13 r_x2_u13 l2_u13 r_x3_u13 l3_u13 => ?_) _ hF hH (d_s1 (d_s1 l0 rfl (by decide)) rfl (by decide)) r_x1 (d_s1 (d_s1 l1 rfl (by decide)) rfl (by decide)) (d_rl rfl) (d_s1 p_lk_s1 rfl (by decide)) r_x3 (d_s1 (d_s1 l3 rfl (by decide)) rfl (by decide)) (d_rl rfl) p_lk_s1
      · refine dw_iln rfl l2_u13 (dw_ic rfl (?_))
        refine d_if hF (fun q hF => ?_) (fun q hF => ?_)
        · refine dw_ne_y rfl (u := 107) rfl r_x2_u13 (d_rl rfl) q ?_
          exact dw_ic rfl (dw_rI rfl rfl (d_rl rfl) hH_u13 hF)
        · refine dw_ne_n rfl (u := 107) rfl r_x2_u13 (d_rl rfl) q ?_
          refine dw_aln rfl l0_u13 (dw_gr rfl rfl rfl hH_u13 d_c64_25 (dw_iln rfl l2_u13 (dw_ic rfl (d_gd hF (fun g14 hF => dw_bst rfl hH_u13 d_a74 g14.1 g14.2 r_x2_u13 rfl (Or.inr rfl) hF (fun s15 h15 hH15 hF => dw_ii rfl l3_u13 rfl (dw_go rfl (u := 43) rfl (?_))))))))
          exact ih hF hH15 (d_s1 l0_u13 rfl (by decide)) r_x1_u13 (d_s1 l1_u13 rfl (by decide)) r_x2_u13 (d_s1 l2_u13 rfl (by decide)) d_R_w p_lk_s1
set_option maxRecDepth 100000 in
noncomputable def F_X12_dearest (s : d_S) (x1 : Int) : Option (Int × d_S) :=
  if x1 < 0 then
  some ((-1), s)
  else
  F_X12_dearest_l8 (fun x1_u6 s_u6 =>
  F_X12_dearest_l43 d_N x1_u6 (-1) 0 s_u6) d_N x1 0 s
set_option maxRecDepth 100000 in
theorem D_X12_dearest {t : Nat → Option p_C} {h : p_H} {s : d_S} {x1 : Int} {r : Int × d_S} (hF : F_X12_dearest s x1 = some r) (hH : d_V t h s) (r_x1 : d_R x1) : p_wp p_GT p_MT 7 m_X12_dearest 0 (lv_args 0 [.ref 64, .int (Int32.ofInt x1)]) [] h (d_QI t r) := by
  unfold F_X12_dearest at hF
  refine dw_iln rfl rfl (?_)
  refine d_if hF (fun q hF => ?_) (fun q hF => ?_)
  · refine dw_zge_y rfl (u := 6) rfl r_x1 q ?_
    exact dw_ic rfl (dw_rI rfl rfl (d_rl rfl) hH hF)
  · refine dw_zge_n rfl (u := 6) rfl r_x1 q ?_
    refine dw_ic rfl (dw_isn rfl rfl (?_))
    refine D_X12_dearest_l8 (fun {x1_u6} {ls_u6} {s_u6} {h_u6} hF hH_u6 l0_u6 r_x1_u6 l1_u6 => ?_) _ hF hH (d_s1 rfl rfl (by decide)) r_x1 (d_s1 rfl rfl (by decide)) (d_rl rfl) p_lk_s1
    · refine dw_ic rfl (dw_isn rfl rfl (dw_ic rfl (dw_isn rfl rfl (?_))))
      exact D_X12_dearest_l43 _ hF hH_u6 (d_s1 (d_s1 l0_u6 rfl (by decide)) rfl (by decide)) r_x1_u6 (d_s1 (d_s1 l1_u6 rfl (by decide)) rfl (by decide)) (d_rl rfl) (d_s1 p_lk_s1 rfl (by decide)) (d_rl rfl) p_lk_s1
set_option maxRecDepth 100000 in
noncomputable def F_X12_isLasting_l31_b (k129 : Int → d_S → Option (Int × d_S)) (rec : Int → Int → Int → Int → Int → Int → Int → d_S → Option (Int × d_S)) (x1 : Int) (x2 : Int) (x4 : Int) (x5 : Int) (x6 : Int) (x7 : Int) (x8 : Int) (s : d_S) : Option (Int × d_S) :=
  if x8 < x2 then
  d_b2 (F_X12_meltsBy s (s.1 65 2) x1 (d_w ((s.1 65 9) + x8)) x5 x6 x7) (fun v3 s4 => d_b (F_X12_cut (d_w (x7 + v3)) 100) (fun v5 => d_b2 (F_X12_rotsBy s4 x1 (d_w (((s4.1 65 9) + x8) + 1)) (d_rem x4 10) x6 v5) (fun v6 s7 => d_b (F_X12_cut (d_w (x6 - v6)) 9) (fun v8 => rec x1 x2 (d_div x4 10) (d_rem x4 10) v8 v5 (d_w (x8 + 1)) s7))))
  else
  k129 x7 s
set_option maxRecDepth 100000 in
noncomputable def F_X12_isLasting_l31 (k129 : Int → d_S → Option (Int × d_S)) : Nat → Int → Int → Int → Int → Int → Int → Int → d_S → Option (Int × d_S)
  | 0 => fun _ _ _ _ _ _ _ _ => none
  | n + 1 => F_X12_isLasting_l31_b k129 (F_X12_isLasting_l31 k129 n)
set_option maxRecDepth 100000 in
theorem D_X12_isLasting_l31 {t : Nat → Option p_C} {k129 : Int → d_S → Option (Int × d_S)} {r : Int × d_S} (hk129 : ∀ {x7 : Int} {ls : p_Ls} {s : d_S} {h : p_H}, k129 x7 s = some r → d_V t h s → d_R x7 → p_lk 7 ls = some (.int (Int32.ofInt x7)) → p_wp p_GT p_MT 7 m_X12_isLasting 129 ls [] h (d_QC t r)) : ∀ (n : Nat) {x1 : Int} {x2 : Int} {x4 : Int} {x5 : Int} {x6 : Int} {x7 : Int} {x8 : Int} {ls : p_Ls} {s : d_S} {h : p_H}, F_X12_isLasting_l31 k129 n x1 x2 x4 x5 x6 x7 x8 s = some r → d_V t h s → p_lk 0 ls = some (.ref 64) → d_R x1 → p_lk 1 ls = some (.int (Int32.ofInt x1)) → d_R x2 → p_lk 2 ls = some (.int (Int32.ofInt x2)) → d_R x4 → p_lk 4 ls = some (.int (Int32.ofInt x4)) → d_R x5 → p_lk 5 ls = some (.int (Int32.ofInt x5)) → d_R x6 → p_lk 6 ls = some (.int (Int32.ofInt x6)) → d_R x7 → p_lk 7 ls = some (.int (Int32.ofInt x7)) → d_R x8 → p_lk 8 ls = some (.int (Int32.ofInt x8)) → p_wp p_GT p_MT 7 m_X12_isLasting 31 ls [] h (d_QC t r) := by
  intro n
  induction n with
  | zero =>
    intro x1 x2 x4 x5 x6 x7 x8 ls s h hF hH l0 r_x1 l1 r_x2 l2 r_x4 l4 r_x5 l5 r_x6 l6 r_x7 l7 r_x8 l8
    cases (show (none : Option (Int × d_S)) = some r from hF)
  | succ n ih =>
    intro x1 x2 x4 x5 x6 x7 x8 ls s h hF hH l0 r_x1 l1 r_x2 l2 r_x4 l4 r_x5 l5 r_x6 l6 r_x7 l7 r_x8 l8
    have hF : F_X12_isLasting_l31_b k129 (F_X12_isLasting_l31 k129 n) x1 x2 x4 x5 x6 x7 x8 s = some r := hF
    unfold F_X12_isLasting_l31_b at hF
    refine dw_il rfl l8 (dw_iln rfl l2 (?_))
    refine d_if hF (fun q hF => ?_) (fun q hF => ?_)
    · refine dw_ge_y rfl (u := 129) rfl r_x8 r_x2 q ?_
      refine dw_il rfl l7 (dw_aln rfl l0 (dw_aln rfl l0 (dw_gr rfl rfl rfl hH d_c64_0 (dw_ic rfl (dw_ald rfl hH d_a65 rfl (by decide) (by decide) (d_rl rfl) (k := 2) rfl (dw_iln rfl l1 (dw_aln rfl l0 (dw_gr rfl rfl rfl hH d_c64_0 (dw_bp rfl rfl (?_))))))))))
      refine dw_ald rfl hH d_a65 rfl (by decide) (by decide) (d_rl rfl) (k := 9) rfl (dw_il rfl l8 (dw_add rfl (dw_il rfl l5 (dw_il rfl l6 (dw_il rfl l7 (dw_w4 (dw_vI hF rfl (d_vir (n := 7) rfl rfl rfl rfl rfl hH d_c64_0 rfl) rfl rfl rfl (dc := 6) (fun _ _ e => D_X12_meltsBy e hH hH.r r_x1 d_R_w r_x5 r_x6 r_x7) (fun v3 s4 h4 hH4 r_v3 hF => dw_add rfl (dw_w1 (?_))))))))))
      refine dw_i2l rfl d_R_w (dw_bp rfl rfl (dw_sP hF rfl rfl rfl rfl rfl (dc := 0) (fun _ e => D_X12_cut e (d_RL_R d_R_w) (d_rl rfl)) (fun v5 r_v5 hF => dw_is rfl rfl (dw_il rfl (d_s1 l4 rfl (by decide)) (dw_bp rfl rfl (dw_rem rfl (d_rl rfl) (by decide) (dw_is rfl rfl (dw_il rfl (d_s1 (d_s1 l4 rfl (by decide)) rfl (by decide)) (dw_bp rfl rfl (?_))))))))))
      refine dw_div rfl (d_rl rfl) (by decide) (dw_is rfl rfl (dw_il rfl (d_s1 (d_s1 (d_s1 l6 rfl (by decide)) rfl (by decide)) rfl (by decide)) (dw_aln rfl (d_s1 (d_s1 (d_s1 l0 rfl (by decide)) rfl (by decide)) rfl (by decide)) (dw_iln rfl (d_s1 (d_s1 (d_s1 l1 rfl (by decide)) rfl (by decide)) rfl (by decide)) (dw_aln rfl (d_s1 (d_s1 (d_s1 l0 rfl (by decide)) rfl (by decide)) rfl (by decide)) (dw_gr rfl rfl rfl hH4 d_c64_0 (dw_bp rfl rfl (dw_ald rfl hH4 d_a65 rfl (by decide) (by decide) (d_rl rfl) (k := 9) rfl (dw_il rfl (d_s1 (d_s1 (d_s1 l8 rfl (by decide)) rfl (by decide)) rfl (by decide)) (?_))))))))))
      refine dw_add rfl (dw_ic rfl (dw_add rfl (dw_il rfl (d_s1 p_lk_s1 rfl (by decide)) (dw_il rfl (d_s1 (d_s1 (d_s1 l6 rfl (by decide)) rfl (by decide)) rfl (by decide)) (dw_il rfl (d_s1 (d_s1 p_lk_s1 rfl (by decide)) rfl (by decide)) (dw_w4 (dw_vI hF rfl (d_vir (n := 6) rfl rfl rfl rfl rfl hH4 d_c64_0 rfl) rfl rfl rfl (dc := 6) (fun _ _ e => D_X12_rotsBy e hH4 r_x1 d_R_w d_R_t r_x6 r_v5) (fun v6 s7 h7 hH7 r_v6 hF => dw_sub rfl (dw_w1 (?_))))))))))
      refine dw_i2l rfl d_R_w (dw_bp rfl rfl (dw_sP hF rfl rfl rfl rfl rfl (dc := 0) (fun _ e => D_X12_cut e (d_RL_R d_R_w) (d_rl rfl)) (fun v8 r_v8 hF => dw_is rfl rfl (dw_ii rfl (d_s1 (d_s1 (d_s1 (d_s1 l8 rfl (by decide)) rfl (by decide)) rfl (by decide)) rfl (by decide)) rfl (dw_go rfl (u := 31) rfl (?_))))))
      exact ih hF hH7 (d_s1 (d_s1 (d_s1 (d_s1 (d_s1 l0 rfl (by decide)) rfl (by decide)) rfl (by decide)) rfl (by decide)) rfl (by decide)) r_x1 (d_s1 (d_s1 (d_s1 (d_s1 (d_s1 l1 rfl (by decide)) rfl (by decide)) rfl (by decide)) rfl (by decide)) rfl (by decide)) r_x2 (d_s1 (d_s1 (d_s1 (d_s1 (d_s1 l2 rfl (by decide)) rfl (by decide)) rfl (by decide)) rfl (by decide)) rfl (by decide)) d_R_t (d_s1 (d_s1 p_lk_s1 rfl (by decide)) rfl (by decide)) d_R_t (d_s1 (d_s1 (d_s1 p_lk_s1 rfl (by decide)) rfl (by decide)) rfl (by decide)) r_v8 (d_s1 p_lk_s1 rfl (by decide)) r_v5 (d_s1 (d_s1 (d_s1 (d_s1 p_lk_s1 rfl (by decide)) rfl (by decide)) rfl (by decide)) rfl (by decide)) d_R_w p_lk_s1
    · refine dw_ge_n rfl (u := 129) rfl r_x8 r_x2 q ?_
      exact hk129 hF hH r_x7 l7
set_option maxRecDepth 100000 in
noncomputable def F_X12_isLasting (s : d_S) (x1 : Int) (x2 : Int) (x3 : Int) : Option (Int × d_S) :=
  d_b (F_X12_get s x1 0) (fun v1 => d_b (F_X12_get s x1 1) (fun v2 => F_X12_isLasting_l31 (fun x7_u9 s_u9 =>
  if x7_u9 < 100 then
  some (1, s_u9)
  else
  some (0, s_u9)) d_N x1 x2 x3 (s.1 65 10) v1 v2 0 s))
set_option maxRecDepth 100000 in
theorem D_X12_isLasting {t : Nat → Option p_C} {h : p_H} {s : d_S} {x1 : Int} {x2 : Int} {x3 : Int} {r : Int × d_S} (hF : F_X12_isLasting s x1 x2 x3 = some r) (hH : d_V t h s) (r_x1 : d_R x1) (r_x2 : d_R x2) (r_x3 : d_R x3) : p_wp p_GT p_MT 7 m_X12_isLasting 0 (lv_args 0 [.ref 64, .int (Int32.ofInt x1), .int (Int32.ofInt x2), .int (Int32.ofInt x3)]) [] h (d_QC t r) := by
  unfold F_X12_isLasting at hF
  refine dw_iln rfl rfl (dw_is rfl rfl (dw_aln rfl (d_s1 rfl rfl (by decide)) (dw_gr rfl rfl rfl hH d_c64_0 (dw_bp rfl rfl (dw_ald rfl hH d_a65 rfl (by decide) (by decide) (d_rl rfl) (k := 10) rfl (dw_is rfl rfl (dw_aln rfl (d_s1 (d_s1 rfl rfl (by decide)) rfl (by decide)) (dw_iln rfl (d_s1 (d_s1 rfl rfl (by decide)) rfl (by decide)) (dw_ic rfl (?_))))))))))
  refine dw_vP hF rfl (d_vir (n := 3) rfl rfl rfl rfl rfl hH d_c64_0 rfl) rfl rfl rfl (dc := 0) (fun _ e => D_X12_get e hH r_x1 (d_rl rfl)) (fun v1 r_v1 hF => dw_is rfl rfl (dw_aln rfl (d_s1 (d_s1 (d_s1 rfl rfl (by decide)) rfl (by decide)) rfl (by decide)) (dw_iln rfl (d_s1 (d_s1 (d_s1 rfl rfl (by decide)) rfl (by decide)) rfl (by decide)) (dw_ic rfl (dw_vP hF rfl (d_vir (n := 3) rfl rfl rfl rfl rfl hH d_c64_0 rfl) rfl rfl rfl (dc := 0) (fun _ e => D_X12_get e hH r_x1 (d_rl rfl)) (fun v2 r_v2 hF => dw_is rfl rfl (dw_ic rfl (dw_is rfl rfl (?_)))))))))
  refine D_X12_isLasting_l31 (fun {x7_u9} {ls_u9} {s_u9} {h_u9} hF hH_u9 r_x7_u9 l7_u9 => ?_) _ hF hH (d_s1 (d_s1 (d_s1 (d_s1 (d_s1 rfl rfl (by decide)) rfl (by decide)) rfl (by decide)) rfl (by decide)) rfl (by decide)) r_x1 (d_s1 (d_s1 (d_s1 (d_s1 (d_s1 rfl rfl (by decide)) rfl (by decide)) rfl (by decide)) rfl (by decide)) rfl (by decide)) r_x2 (d_s1 (d_s1 (d_s1 (d_s1 (d_s1 rfl rfl (by decide)) rfl (by decide)) rfl (by decide)) rfl (by decide)) rfl (by decide)) r_x3 (d_s1 (d_s1 (d_s1 (d_s1 p_lk_s1 rfl (by decide)) rfl (by decide)) rfl (by decide)) rfl (by decide)) hH.r (d_s1 (d_s1 (d_s1 p_lk_s1 rfl (by decide)) rfl (by decide)) rfl (by decide)) r_v1 (d_s1 (d_s1 p_lk_s1 rfl (by decide)) rfl (by decide)) r_v2 (d_s1 p_lk_s1 rfl (by decide)) (d_rl rfl) p_lk_s1
  · refine dw_il rfl l7_u9 (dw_bp rfl rfl (?_))
    refine d_if hF (fun q hF => ?_) (fun q hF => ?_)
    · refine dw_ge_y rfl (u := 140) rfl r_x7_u9 (d_rl rfl) q ?_
      exact dw_ic rfl (dw_go rfl (u := 141) rfl (dw_rC rfl rfl (Or.inr rfl) hH_u9 hF))
    · refine dw_ge_n rfl (u := 140) rfl r_x7_u9 (d_rl rfl) q ?_
      exact dw_ic rfl (dw_rC rfl rfl (Or.inl rfl) hH_u9 hF)
set_option maxRecDepth 100000 in
noncomputable def F_X12_pathsOf_l4_b (rec : Int → Int → Int → Option (Int)) (x0 : Int) (x1 : Int) (x2 : Int) : Option (Int) :=
  if x2 < x0 then
  rec x0 (d_w (x1 * 10)) (d_w (x2 + 1))
  else
  some x1
set_option maxRecDepth 100000 in
noncomputable def F_X12_pathsOf_l4 : Nat → Int → Int → Int → Option (Int)
  | 0 => fun _ _ _ => none
  | n + 1 => F_X12_pathsOf_l4_b (F_X12_pathsOf_l4 n)
set_option maxRecDepth 100000 in
theorem D_X12_pathsOf_l4 {h : p_H} {r : Int} : ∀ (n : Nat) {x0 : Int} {x1 : Int} {x2 : Int} {ls : p_Ls}, F_X12_pathsOf_l4 n x0 x1 x2 = some r → d_R x0 → p_lk 0 ls = some (.int (Int32.ofInt x0)) → d_R x1 → p_lk 1 ls = some (.int (Int32.ofInt x1)) → d_R x2 → p_lk 2 ls = some (.int (Int32.ofInt x2)) → p_wp p_GT p_MT 0 m_X12_pathsOf 4 ls [] h (d_QP h r) := by
  intro n
  induction n with
  | zero =>
    intro x0 x1 x2 ls hF r_x0 l0 r_x1 l1 r_x2 l2
    cases (show (none : Option (Int)) = some r from hF)
  | succ n ih =>
    intro x0 x1 x2 ls hF r_x0 l0 r_x1 l1 r_x2 l2
    have hF : F_X12_pathsOf_l4_b (F_X12_pathsOf_l4 n) x0 x1 x2 = some r := hF
    unfold F_X12_pathsOf_l4_b at hF
    refine dw_iln rfl l2 (dw_iln rfl l0 (?_))
    refine d_if hF (fun q hF => ?_) (fun q hF => ?_)
    · refine dw_ge_y rfl (u := 20) rfl r_x2 r_x0 q ?_
      refine dw_iln rfl l1 (dw_bp rfl rfl (dw_mul rfl (dw_w1 (dw_isn rfl rfl (dw_ii rfl (d_s1 l2 rfl (by decide)) rfl (dw_go rfl (u := 4) rfl (?_)))))))
      exact ih hF r_x0 (d_s1 (d_s1 l0 rfl (by decide)) rfl (by decide)) d_R_w (d_s1 p_lk_s1 rfl (by decide)) d_R_w p_lk_s1
    · refine dw_ge_n rfl (u := 20) rfl r_x2 r_x0 q ?_
      exact dw_iln rfl l1 (dw_rP rfl rfl r_x1 hF)
set_option maxRecDepth 100000 in
noncomputable def F_X12_pathsOf (x0 : Int) : Option (Int) :=
  F_X12_pathsOf_l4 d_N x0 1 1
set_option maxRecDepth 100000 in
theorem D_X12_pathsOf {h : p_H} {x0 : Int} {r : Int} (hF : F_X12_pathsOf x0 = some r) (r_x0 : d_R x0) : p_wp p_GT p_MT 0 m_X12_pathsOf 0 (lv_args 0 [.int (Int32.ofInt x0)]) [] h (d_QP h r) := by
  unfold F_X12_pathsOf at hF
  refine dw_ic rfl (dw_isn rfl rfl (dw_ic rfl (dw_isn rfl rfl (?_))))
  exact D_X12_pathsOf_l4 _ hF r_x0 (d_s1 (d_s1 rfl rfl (by decide)) rfl (by decide)) (d_rl rfl) (d_s1 p_lk_s1 rfl (by decide)) (d_rl rfl) p_lk_s1
set_option maxRecDepth 100000 in
noncomputable def F_X12_lasting_l5_b (rec : Int → Int → Int → Int → d_S → Option (Int × d_S)) (x1 : Int) (x2 : Int) (x3 : Int) (x4 : Int) (s : d_S) : Option (Int × d_S) :=
  d_b (F_X12_pathsOf x2) (fun v1 => if x4 < v1 then
  d_b2 (F_X12_isLasting s x1 x2 x4) (fun v2 s3 => if v2 = 0 then
  rec x1 x2 (d_w (x3 + 0)) (d_w (x4 + 1)) s3
  else
  rec x1 x2 (d_w (x3 + 1)) (d_w (x4 + 1)) s3)
  else
  some (x3, s))
set_option maxRecDepth 100000 in
noncomputable def F_X12_lasting_l5 : Nat → Int → Int → Int → Int → d_S → Option (Int × d_S)
  | 0 => fun _ _ _ _ _ => none
  | n + 1 => F_X12_lasting_l5_b (F_X12_lasting_l5 n)
set_option maxRecDepth 100000 in
theorem D_X12_lasting_l5 {t : Nat → Option p_C} {r : Int × d_S} : ∀ (n : Nat) {x1 : Int} {x2 : Int} {x3 : Int} {x4 : Int} {ls : p_Ls} {s : d_S} {h : p_H}, F_X12_lasting_l5 n x1 x2 x3 x4 s = some r → d_V t h s → p_lk 0 ls = some (.ref 64) → d_R x1 → p_lk 1 ls = some (.int (Int32.ofInt x1)) → d_R x2 → p_lk 2 ls = some (.int (Int32.ofInt x2)) → d_R x3 → p_lk 3 ls = some (.int (Int32.ofInt x3)) → d_R x4 → p_lk 4 ls = some (.int (Int32.ofInt x4)) → p_wp p_GT p_MT 8 m_X12_lasting 5 ls [] h (d_QI t r) := by
  intro n
  induction n with
  | zero =>
    intro x1 x2 x3 x4 ls s h hF hH l0 r_x1 l1 r_x2 l2 r_x3 l3 r_x4 l4
    cases (show (none : Option (Int × d_S)) = some r from hF)
  | succ n ih =>
    intro x1 x2 x3 x4 ls s h hF hH l0 r_x1 l1 r_x2 l2 r_x3 l3 r_x4 l4
    have hF : F_X12_lasting_l5_b (F_X12_lasting_l5 n) x1 x2 x3 x4 s = some r := hF
    unfold F_X12_lasting_l5_b at hF
    refine dw_il rfl l4 (dw_iln rfl l2 (dw_sP hF rfl rfl rfl rfl rfl (dc := 0) (fun _ e => D_X12_pathsOf e r_x2) (fun v1 r_v1 hF => ?_)))
    refine d_if hF (fun q hF => ?_) (fun q hF => ?_)
    · refine dw_ge_y rfl (u := 39) rfl r_x4 r_v1 q ?_
      refine dw_iln rfl l3 (dw_aln rfl l0 (dw_iln rfl l1 (dw_iln rfl l2 (dw_il rfl l4 (dw_vC hF rfl (d_vir (n := 4) rfl rfl rfl rfl rfl hH d_c64_0 rfl) rfl rfl rfl (dc := 7) (fun _ _ e => D_X12_isLasting e hH r_x1 r_x2 r_x4) (fun v2 s3 h3 hH3 r_v2 hF => ?_))))))
      refine d_if hF (fun q hF => ?_) (fun q hF => ?_)
      · refine dw_zeq_y rfl (u := 30) rfl (d_R_b r_v2) q ?_
        refine dw_ic rfl (dw_add rfl (dw_w1 (dw_isn rfl rfl (dw_ii rfl (d_s1 l4 rfl (by decide)) rfl (dw_go rfl (u := 5) rfl (?_))))))
        exact ih hF hH3 (d_s1 (d_s1 l0 rfl (by decide)) rfl (by decide)) r_x1 (d_s1 (d_s1 l1 rfl (by decide)) rfl (by decide)) r_x2 (d_s1 (d_s1 l2 rfl (by decide)) rfl (by decide)) d_R_w (d_s1 p_lk_s1 rfl (by decide)) d_R_w p_lk_s1
      · refine dw_zeq_n rfl (u := 30) rfl (d_R_b r_v2) q ?_
        refine dw_ic rfl (dw_go rfl (u := 31) rfl (dw_add rfl (dw_w1 (dw_isn rfl rfl (dw_ii rfl (d_s1 l4 rfl (by decide)) rfl (dw_go rfl (u := 5) rfl (?_)))))))
        exact ih hF hH3 (d_s1 (d_s1 l0 rfl (by decide)) rfl (by decide)) r_x1 (d_s1 (d_s1 l1 rfl (by decide)) rfl (by decide)) r_x2 (d_s1 (d_s1 l2 rfl (by decide)) rfl (by decide)) d_R_w (d_s1 p_lk_s1 rfl (by decide)) d_R_w p_lk_s1
    · refine dw_ge_n rfl (u := 39) rfl r_x4 r_v1 q ?_
      exact dw_iln rfl l3 (dw_rI rfl rfl r_x3 hH hF)
set_option maxRecDepth 100000 in
noncomputable def F_X12_lasting (s : d_S) (x1 : Int) (x2 : Int) : Option (Int × d_S) :=
  F_X12_lasting_l5 d_N x1 x2 0 0 s
set_option maxRecDepth 100000 in
theorem D_X12_lasting {t : Nat → Option p_C} {h : p_H} {s : d_S} {x1 : Int} {x2 : Int} {r : Int × d_S} (hF : F_X12_lasting s x1 x2 = some r) (hH : d_V t h s) (r_x1 : d_R x1) (r_x2 : d_R x2) : p_wp p_GT p_MT 8 m_X12_lasting 0 (lv_args 0 [.ref 64, .int (Int32.ofInt x1), .int (Int32.ofInt x2)]) [] h (d_QI t r) := by
  unfold F_X12_lasting at hF
  refine dw_ic rfl (dw_isn rfl rfl (dw_ic rfl (dw_is rfl rfl (?_))))
  exact D_X12_lasting_l5 _ hF hH (d_s1 (d_s1 rfl rfl (by decide)) rfl (by decide)) r_x1 (d_s1 (d_s1 rfl rfl (by decide)) rfl (by decide)) r_x2 (d_s1 (d_s1 rfl rfl (by decide)) rfl (by decide)) (d_rl rfl) (d_s1 p_lk_s1 rfl (by decide)) (d_rl rfl) p_lk_s1
set_option maxRecDepth 100000 in
noncomputable def F_X12_lasts_j36 (s : d_S) : Option (Int × d_S) :=
  some ((-1), s)
set_option maxRecDepth 100000 in
theorem D_X12_lasts_j36 {t : Nat → Option p_C} {h : p_H} {s : d_S} {r : Int × d_S} {ls : p_Ls} (hF : F_X12_lasts_j36 s = some r) (hH : d_V t h s) : p_wp p_GT p_MT 9 m_X12_lasts 36 ls [] h (d_QJ t r) := by
  unfold F_X12_lasts_j36 at hF
  exact dw_ldc2 rfl rfl (dw_rJ rfl rfl (d_rll rfl) hH hF)
set_option maxRecDepth 100000 in
noncomputable def F_X12_lasts (s : d_S) (x1 : Int) (x2 : Int) (x3 : Int) : Option (Int × d_S) :=
  d_b (F_X12_isBlock s x1) (fun v1 => if v1 = 0 then
  F_X12_lasts_j36 s
  else
  d_b (F_X12_isIn x2 0 4) (fun v2 => if v2 = 0 then
  F_X12_lasts_j36 s
  else
  d_b2 (F_X12_lasting s x1 x2) (fun v3 s4 => d_b (F_X12_pathsOf x2) (fun v5 => d_b (F_X12_part v3 v5 x3) (fun v6 => some (v6, s4))))))
set_option maxRecDepth 100000 in
theorem D_X12_lasts {t : Nat → Option p_C} {h : p_H} {s : d_S} {x1 : Int} {x2 : Int} {x3 : Int} {r : Int × d_S} (hF : F_X12_lasts s x1 x2 x3 = some r) (hH : d_V t h s) (r_x1 : d_R x1) (r_x2 : d_R x2) (r_x3 : d_R x3) : p_wp p_GT p_MT 9 m_X12_lasts 0 (lv_args 0 [.ref 64, .int (Int32.ofInt x1), .int (Int32.ofInt x2), .int (Int32.ofInt x3)]) [] h (d_QJ t r) := by
  unfold F_X12_lasts at hF
  refine dw_aln rfl rfl (dw_iln rfl rfl (dw_vB hF rfl (d_vir (n := 2) rfl rfl rfl rfl rfl hH d_c64_0 rfl) rfl rfl rfl (dc := 3) (fun _ e => D_X12_isBlock e hH r_x1) (fun v1 r_v1 hF => ?_)))
  refine d_if hF (fun q hF => ?_) (fun q hF => ?_)
  · refine dw_zeq_y rfl (u := 36) rfl (d_R_b r_v1) q ?_
    exact D_X12_lasts_j36 hF hH
  · refine dw_zeq_n rfl (u := 36) rfl (d_R_b r_v1) q ?_
    refine dw_iln rfl rfl (dw_ic rfl (dw_ic rfl (dw_sB hF rfl rfl rfl rfl rfl (dc := 0) (fun _ e => D_X12_isIn e r_x2 (d_rl rfl) (d_rl rfl)) (fun v2 r_v2 hF => ?_))))
    refine d_if hF (fun q hF => ?_) (fun q hF => ?_)
    · refine dw_zeq_y rfl (u := 36) rfl (d_R_b r_v2) q ?_
      exact D_X12_lasts_j36 hF hH
    · refine dw_zeq_n rfl (u := 36) rfl (d_R_b r_v2) q ?_
      refine dw_aln rfl rfl (dw_iln rfl rfl (dw_iln rfl rfl (dw_vI hF rfl (d_vir (n := 3) rfl rfl rfl rfl rfl hH d_c64_0 rfl) rfl rfl rfl (dc := 8) (fun _ _ e => D_X12_lasting e hH r_x1 r_x2) (fun v3 s4 h4 hH4 r_v3 hF => dw_i2l rfl r_v3 (dw_iln rfl rfl (dw_sP hF rfl rfl rfl rfl rfl (dc := 0) (fun _ e => D_X12_pathsOf e r_x2) (fun v5 r_v5 hF => dw_i2l rfl r_v5 (dw_iln rfl rfl (dw_sL hF rfl rfl rfl rfl rfl (dc := 1) (fun _ e => D_X12_part e (d_RL_R r_v3) (d_RL_R r_v5) r_x3) (fun v6 r_v6 hF => ?_))))))))))
      exact dw_go rfl (u := 39) rfl (dw_rJ rfl rfl r_v6 hH4 hF)
set_option maxRecDepth 100000 in
noncomputable def F_X12_sellFirst_l18_b (rec : Int → Int → Int → Int → d_S → Option (Int × d_S)) (x1 : Int) (x2 : Int) (x3 : Int) (x4 : Int) (s : d_S) : Option (Int × d_S) :=
  d_b (F_X12_blocks s) (fun v2 => if x4 < v2 then
  d_b (F_X12_canSell s x4) (fun v3 => if v3 = 0 then
  rec x1 x2 x3 (d_w (x4 + 1)) s
  else
  d_b2 (F_X12_lasting s x4 x1) (fun v4 s5 => if x2 = (-1) then
  rec x1 x4 v4 (d_w (x4 + 1)) s5
  else
  if v4 < x3 then
  rec x1 x4 v4 (d_w (x4 + 1)) s5
  else
  rec x1 x2 x3 (d_w (x4 + 1)) s5))
  else
  some (x2, s))
set_option maxRecDepth 100000 in
noncomputable def F_X12_sellFirst_l18 : Nat → Int → Int → Int → Int → d_S → Option (Int × d_S)
  | 0 => fun _ _ _ _ _ => none
  | n + 1 => F_X12_sellFirst_l18_b (F_X12_sellFirst_l18 n)
set_option maxRecDepth 100000 in
theorem D_X12_sellFirst_l18 {t : Nat → Option p_C} {r : Int × d_S} : ∀ (n : Nat) {x1 : Int} {x2 : Int} {x3 : Int} {x4 : Int} {ls : p_Ls} {s : d_S} {h : p_H}, F_X12_sellFirst_l18 n x1 x2 x3 x4 s = some r → d_V t h s → p_lk 0 ls = some (.ref 64) → d_R x1 → p_lk 1 ls = some (.int (Int32.ofInt x1)) → d_R x2 → p_lk 2 ls = some (.int (Int32.ofInt x2)) → d_R x3 → p_lk 3 ls = some (.int (Int32.ofInt x3)) → d_R x4 → p_lk 4 ls = some (.int (Int32.ofInt x4)) → p_wp p_GT p_MT 9 m_X12_sellFirst 18 ls [] h (d_QI t r) := by
  intro n
  induction n with
  | zero =>
    intro x1 x2 x3 x4 ls s h hF hH l0 r_x1 l1 r_x2 l2 r_x3 l3 r_x4 l4
    cases (show (none : Option (Int × d_S)) = some r from hF)
  | succ n ih =>
    intro x1 x2 x3 x4 ls s h hF hH l0 r_x1 l1 r_x2 l2 r_x3 l3 r_x4 l4
    have hF : F_X12_sellFirst_l18_b (F_X12_sellFirst_l18 n) x1 x2 x3 x4 s = some r := hF
    unfold F_X12_sellFirst_l18_b at hF
    refine dw_il rfl l4 (dw_aln rfl l0 (dw_vP hF rfl (d_vir (n := 1) rfl rfl rfl rfl rfl hH d_c64_0 rfl) rfl rfl rfl (dc := 2) (fun _ e => D_X12_blocks e hH) (fun v2 r_v2 hF => ?_)))
    refine d_if hF (fun q hF => ?_) (fun q hF => ?_)
    · refine dw_ge_y rfl (u := 74) rfl r_x4 r_v2 q ?_
      refine dw_aln rfl l0 (dw_il rfl l4 (dw_vB hF rfl (d_vir (n := 2) rfl rfl rfl rfl rfl hH d_c64_0 rfl) rfl rfl rfl (dc := 4) (fun _ e => D_X12_canSell e hH r_x4) (fun v3 r_v3 hF => ?_)))
      refine d_if hF (fun q hF => ?_) (fun q hF => ?_)
      · refine dw_zne_y rfl (u := 39) rfl (d_R_b r_v3) q ?_
        refine dw_go rfl (u := 68) rfl (dw_ii rfl l4 rfl (dw_go rfl (u := 18) rfl (?_)))
        exact ih hF hH (d_s1 l0 rfl (by decide)) r_x1 (d_s1 l1 rfl (by decide)) r_x2 (d_s1 l2 rfl (by decide)) r_x3 (d_s1 l3 rfl (by decide)) d_R_w p_lk_s1
      · refine dw_zne_n rfl (u := 39) rfl (d_R_b r_v3) q ?_
        refine dw_aln rfl l0 (dw_il rfl l4 (dw_iln rfl l1 (dw_vI hF rfl (d_vir (n := 3) rfl rfl rfl rfl rfl hH d_c64_0 rfl) rfl rfl rfl (dc := 8) (fun _ _ e => D_X12_lasting e hH r_x4 r_x1) (fun v4 s5 h5 hH5 r_v4 hF => dw_is rfl rfl (dw_iln rfl (d_s1 l2 rfl (by decide)) (dw_ic rfl (?_)))))))
        refine d_if hF (fun q hF => ?_) (fun q hF => ?_)
        · refine dw_eq_y rfl (u := 62) rfl r_x2 (d_rl rfl) q ?_
          refine dw_il rfl (d_s1 l4 rfl (by decide)) (dw_isn rfl rfl (dw_il rfl (d_s1 p_lk_s1 rfl (by decide)) (dw_isn rfl rfl (dw_ii rfl (d_s1 (d_s1 (d_s1 l4 rfl (by decide)) rfl (by decide)) rfl (by decide)) rfl (dw_go rfl (u := 18) rfl (?_))))))
          exact ih hF hH5 (d_s1 (d_s1 (d_s1 (d_s1 l0 rfl (by decide)) rfl (by decide)) rfl (by decide)) rfl (by decide)) r_x1 (d_s1 (d_s1 (d_s1 (d_s1 l1 rfl (by decide)) rfl (by decide)) rfl (by decide)) rfl (by decide)) r_x4 (d_s1 (d_s1 p_lk_s1 rfl (by decide)) rfl (by decide)) r_v4 (d_s1 p_lk_s1 rfl (by decide)) d_R_w p_lk_s1
        · refine dw_eq_n rfl (u := 62) rfl r_x2 (d_rl rfl) q ?_
          refine dw_il rfl p_lk_s1 (dw_iln rfl (d_s1 l3 rfl (by decide)) (?_))
          refine d_if hF (fun q hF => ?_) (fun q hF => ?_)
          · refine dw_lt_y rfl (u := 62) rfl r_v4 r_x3 q ?_
            refine dw_il rfl (d_s1 l4 rfl (by decide)) (dw_isn rfl rfl (dw_il rfl (d_s1 p_lk_s1 rfl (by decide)) (dw_isn rfl rfl (dw_ii rfl (d_s1 (d_s1 (d_s1 l4 rfl (by decide)) rfl (by decide)) rfl (by decide)) rfl (dw_go rfl (u := 18) rfl (?_))))))
            exact ih hF hH5 (d_s1 (d_s1 (d_s1 (d_s1 l0 rfl (by decide)) rfl (by decide)) rfl (by decide)) rfl (by decide)) r_x1 (d_s1 (d_s1 (d_s1 (d_s1 l1 rfl (by decide)) rfl (by decide)) rfl (by decide)) rfl (by decide)) r_x4 (d_s1 (d_s1 p_lk_s1 rfl (by decide)) rfl (by decide)) r_v4 (d_s1 p_lk_s1 rfl (by decide)) d_R_w p_lk_s1
          · refine dw_lt_n rfl (u := 62) rfl r_v4 r_x3 q ?_
            refine dw_go rfl (u := 68) rfl (dw_ii rfl (d_s1 l4 rfl (by decide)) rfl (dw_go rfl (u := 18) rfl (?_)))
            exact ih hF hH5 (d_s1 (d_s1 l0 rfl (by decide)) rfl (by decide)) r_x1 (d_s1 (d_s1 l1 rfl (by decide)) rfl (by decide)) r_x2 (d_s1 (d_s1 l2 rfl (by decide)) rfl (by decide)) r_x3 (d_s1 (d_s1 l3 rfl (by decide)) rfl (by decide)) d_R_w p_lk_s1
    · refine dw_ge_n rfl (u := 74) rfl r_x4 r_v2 q ?_
      exact dw_iln rfl l2 (dw_rI rfl rfl r_x2 hH hF)
set_option maxRecDepth 100000 in
noncomputable def F_X12_sellFirst (s : d_S) (x1 : Int) : Option (Int × d_S) :=
  d_b (F_X12_isIn x1 0 4) (fun v1 => if v1 = 0 then
  some ((-1), s)
  else
  F_X12_sellFirst_l18 d_N x1 (-1) 0 0 s)
set_option maxRecDepth 100000 in
theorem D_X12_sellFirst {t : Nat → Option p_C} {h : p_H} {s : d_S} {x1 : Int} {r : Int × d_S} (hF : F_X12_sellFirst s x1 = some r) (hH : d_V t h s) (r_x1 : d_R x1) : p_wp p_GT p_MT 9 m_X12_sellFirst 0 (lv_args 0 [.ref 64, .int (Int32.ofInt x1)]) [] h (d_QI t r) := by
  unfold F_X12_sellFirst at hF
  refine dw_iln rfl rfl (dw_ic rfl (dw_ic rfl (dw_sB hF rfl rfl rfl rfl rfl (dc := 0) (fun _ e => D_X12_isIn e r_x1 (d_rl rfl) (d_rl rfl)) (fun v1 r_v1 hF => ?_))))
  refine d_if hF (fun q hF => ?_) (fun q hF => ?_)
  · refine dw_zne_y rfl (u := 11) rfl (d_R_b r_v1) q ?_
    exact dw_ic rfl (dw_rI rfl rfl (d_rl rfl) hH hF)
  · refine dw_zne_n rfl (u := 11) rfl (d_R_b r_v1) q ?_
    refine dw_ic rfl (dw_isn rfl rfl (dw_ic rfl (dw_isn rfl rfl (dw_ic rfl (dw_is rfl rfl (?_))))))
    exact D_X12_sellFirst_l18 _ hF hH (d_s1 (d_s1 (d_s1 rfl rfl (by decide)) rfl (by decide)) rfl (by decide)) r_x1 (d_s1 (d_s1 (d_s1 rfl rfl (by decide)) rfl (by decide)) rfl (by decide)) (d_rl rfl) (d_s1 (d_s1 p_lk_s1 rfl (by decide)) rfl (by decide)) (d_rl rfl) (d_s1 p_lk_s1 rfl (by decide)) (d_rl rfl) p_lk_s1
set_option maxRecDepth 100000 in
noncomputable def F_X12_findServing_l2_b (k22 : d_S → Option (d_S)) (rec : Int → d_S → Option (d_S)) (x1 : Int) (s : d_S) : Option (d_S) :=
  if x1 < 320 then
  d_g (0 ≤ x1 ∧ x1 < 320) (d_l (d_si s 75 ((x1).toNat) 0) (fun s2 => rec (d_w (x1 + 1)) s2))
  else
  k22 s
set_option maxRecDepth 100000 in
noncomputable def F_X12_findServing_l2 (k22 : d_S → Option (d_S)) : Nat → Int → d_S → Option (d_S)
  | 0 => fun _ _ => none
  | n + 1 => F_X12_findServing_l2_b k22 (F_X12_findServing_l2 k22 n)
set_option maxRecDepth 100000 in
theorem D_X12_findServing_l2 {t : Nat → Option p_C} {k22 : d_S → Option (d_S)} {r : d_S} (hk22 : ∀ {ls : p_Ls} {s : d_S} {h : p_H}, k22 s = some r → d_V t h s → p_lk 0 ls = some (.ref 64) → p_wp p_GT p_MT 10 m_X12_findServing 22 ls [] h (d_QV t r)) : ∀ (n : Nat) {x1 : Int} {ls : p_Ls} {s : d_S} {h : p_H}, F_X12_findServing_l2 k22 n x1 s = some r → d_V t h s → p_lk 0 ls = some (.ref 64) → d_R x1 → p_lk 1 ls = some (.int (Int32.ofInt x1)) → p_wp p_GT p_MT 10 m_X12_findServing 2 ls [] h (d_QV t r) := by
  intro n
  induction n with
  | zero =>
    intro x1 ls s h hF hH l0 r_x1 l1
    cases (show (none : Option (d_S)) = some r from hF)
  | succ n ih =>
    intro x1 ls s h hF hH l0 r_x1 l1
    have hF : F_X12_findServing_l2_b k22 (F_X12_findServing_l2 k22 n) x1 s = some r := hF
    unfold F_X12_findServing_l2_b at hF
    refine dw_iln rfl l1 (dw_sp rfl rfl (?_))
    refine d_if hF (fun q hF => ?_) (fun q hF => ?_)
    · refine dw_ge_y rfl (u := 22) rfl r_x1 (d_rl rfl) q ?_
      refine dw_aln rfl l0 (dw_gr rfl rfl rfl hH d_c64_26 (dw_iln rfl l1 (dw_ic rfl (d_gd hF (fun g1 hF => dw_bst rfl hH d_a75 g1.1 g1.2 r_x1 rfl (Or.inl rfl) hF (fun s2 h2 hH2 hF => dw_ii rfl l1 rfl (dw_go rfl (u := 2) rfl (?_))))))))
      exact ih hF hH2 (d_s1 l0 rfl (by decide)) d_R_w p_lk_s1
    · refine dw_ge_n rfl (u := 22) rfl r_x1 (d_rl rfl) q ?_
      exact hk22 hF hH l0
set_option maxRecDepth 100000 in
noncomputable def F_X12_findServing_l75_b (k117 : Int → Int → d_S → Option (d_S)) (rec : Int → Int → Int → d_S → Option (d_S)) (x1 : Int) (x2 : Int) (x3 : Int) (s : d_S) : Option (d_S) :=
  d_b (F_X12_blocks s) (fun v6 => if x3 < v6 then
  d_g (0 ≤ (d_w (284 + (3 * x2))) ∧ (d_w (284 + (3 * x2))) < 2517) (d_b (F_X12_isServing s x3 (s.1 65 (((d_w (284 + (3 * x2)))).toNat))) (fun v8 => d_g (0 ≤ (d_w ((64 * x2) + x3)) ∧ (d_w ((64 * x2) + x3)) < 320) (d_l (d_si s 75 (((d_w ((64 * x2) + x3))).toNat) v8) (fun s10 => rec x1 x2 (d_w (x3 + 1)) s10))))
  else
  k117 x1 x2 s)
set_option maxRecDepth 100000 in
noncomputable def F_X12_findServing_l75 (k117 : Int → Int → d_S → Option (d_S)) : Nat → Int → Int → Int → d_S → Option (d_S)
  | 0 => fun _ _ _ _ => none
  | n + 1 => F_X12_findServing_l75_b k117 (F_X12_findServing_l75 k117 n)
set_option maxRecDepth 100000 in
theorem D_X12_findServing_l75 {t : Nat → Option p_C} {k117 : Int → Int → d_S → Option (d_S)} {r : d_S} (hk117 : ∀ {x1 : Int} {x2 : Int} {ls : p_Ls} {s : d_S} {h : p_H}, k117 x1 x2 s = some r → d_V t h s → p_lk 0 ls = some (.ref 64) → d_R x1 → p_lk 1 ls = some (.int (Int32.ofInt x1)) → d_R x2 → p_lk 2 ls = some (.int (Int32.ofInt x2)) → p_wp p_GT p_MT 10 m_X12_findServing 117 ls [] h (d_QV t r)) : ∀ (n : Nat) {x1 : Int} {x2 : Int} {x3 : Int} {ls : p_Ls} {s : d_S} {h : p_H}, F_X12_findServing_l75 k117 n x1 x2 x3 s = some r → d_V t h s → p_lk 0 ls = some (.ref 64) → d_R x1 → p_lk 1 ls = some (.int (Int32.ofInt x1)) → d_R x2 → p_lk 2 ls = some (.int (Int32.ofInt x2)) → d_R x3 → p_lk 3 ls = some (.int (Int32.ofInt x3)) → p_wp p_GT p_MT 10 m_X12_findServing 75 ls [] h (d_QV t r) := by
  intro n
  induction n with
  | zero =>
    intro x1 x2 x3 ls s h hF hH l0 r_x1 l1 r_x2 l2 r_x3 l3
    cases (show (none : Option (d_S)) = some r from hF)
  | succ n ih =>
    intro x1 x2 x3 ls s h hF hH l0 r_x1 l1 r_x2 l2 r_x3 l3
    have hF : F_X12_findServing_l75_b k117 (F_X12_findServing_l75 k117 n) x1 x2 x3 s = some r := hF
    unfold F_X12_findServing_l75_b at hF
    refine dw_iln rfl l3 (dw_aln rfl l0 (dw_vP hF rfl (d_vir (n := 1) rfl rfl rfl rfl rfl hH d_c64_0 rfl) rfl rfl rfl (dc := 2) (fun _ e => D_X12_blocks e hH) (fun v6 r_v6 hF => ?_)))
    refine d_if hF (fun q hF => ?_) (fun q hF => ?_)
    · refine dw_ge_y rfl (u := 117) rfl r_x3 r_v6 q ?_
      refine dw_aln rfl l0 (dw_gr rfl rfl rfl hH d_c64_26 (dw_bp rfl rfl (dw_iln rfl l2 (dw_mul rfl (dw_iln rfl l3 (dw_add rfl (dw_aln rfl l0 (dw_iln rfl l3 (dw_aln rfl l0 (?_))))))))))
      refine dw_gr rfl rfl rfl hH d_c64_0 (dw_sp rfl rfl (dw_ic rfl (dw_iln rfl l2 (dw_mul rfl (dw_add rfl (dw_w1 (d_gd hF (fun g7 hF => dw_ald rfl hH d_a65 rfl g7.1 g7.2 d_R_w rfl (dw_vB hF rfl (d_vir (n := 3) rfl rfl rfl rfl rfl hH d_c64_0 rfl) rfl rfl rfl (dc := 5) (fun _ e => D_X12_isServing e hH r_x3 hH.r) (fun v8 r_v8 hF => ?_))))))))))
      refine dw_w2 (d_gd hF (fun g9 hF => dw_bst rfl hH d_a75 g9.1 g9.2 d_R_w rfl r_v8 hF (fun s10 h10 hH10 hF => dw_ii rfl l3 rfl (dw_go rfl (u := 75) rfl (?_)))))
      exact ih hF hH10 (d_s1 l0 rfl (by decide)) r_x1 (d_s1 l1 rfl (by decide)) r_x2 (d_s1 l2 rfl (by decide)) d_R_w p_lk_s1
    · refine dw_ge_n rfl (u := 117) rfl r_x3 r_v6 q ?_
      exact hk117 hF hH l0 r_x1 l1 r_x2 l2
set_option maxRecDepth 100000 in
noncomputable def F_X12_findServing_l36_b (k123 : Int → d_S → Option (d_S)) (rec : Int → Int → d_S → Option (d_S)) (x1 : Int) (x2 : Int) (s : d_S) : Option (d_S) :=
  if x2 < (s.1 65 4) then
  d_g (0 ≤ (d_w ((284 + (3 * x2)) + 1)) ∧ (d_w ((284 + (3 * x2)) + 1)) < 2517) (if (s.1 65 (((d_w ((284 + (3 * x2)) + 1))).toNat)) = (s.1 65 9) then
  F_X12_findServing_l75 (fun x1_u11 x2_u11 s_u11 =>
  rec x1_u11 (d_w (x2_u11 + 1)) s_u11) d_N x1 x2 0 s
  else
  rec x1 (d_w (x2 + 1)) s)
  else
  k123 x1 s
set_option maxRecDepth 100000 in
noncomputable def F_X12_findServing_l36 (k123 : Int → d_S → Option (d_S)) : Nat → Int → Int → d_S → Option (d_S)
  | 0 => fun _ _ _ => none
  | n + 1 => F_X12_findServing_l36_b k123 (F_X12_findServing_l36 k123 n)
set_option maxRecDepth 100000 in
theorem D_X12_findServing_l36 {t : Nat → Option p_C} {k123 : Int → d_S → Option (d_S)} {r : d_S} (hk123 : ∀ {x1 : Int} {ls : p_Ls} {s : d_S} {h : p_H}, k123 x1 s = some r → d_V t h s → p_lk 0 ls = some (.ref 64) → d_R x1 → p_lk 1 ls = some (.int (Int32.ofInt x1)) → p_wp p_GT p_MT 10 m_X12_findServing 123 ls [] h (d_QV t r)) : ∀ (n : Nat) {x1 : Int} {x2 : Int} {ls : p_Ls} {s : d_S} {h : p_H}, F_X12_findServing_l36 k123 n x1 x2 s = some r → d_V t h s → p_lk 0 ls = some (.ref 64) → d_R x1 → p_lk 1 ls = some (.int (Int32.ofInt x1)) → d_R x2 → p_lk 2 ls = some (.int (Int32.ofInt x2)) → p_wp p_GT p_MT 10 m_X12_findServing 36 ls [] h (d_QV t r) := by
  intro n
  induction n with
  | zero =>
    intro x1 x2 ls s h hF hH l0 r_x1 l1 r_x2 l2
    cases (show (none : Option (d_S)) = some r from hF)
  | succ n ih =>
    intro x1 x2 ls s h hF hH l0 r_x1 l1 r_x2 l2
    have hF : F_X12_findServing_l36_b k123 (F_X12_findServing_l36 k123 n) x1 x2 s = some r := hF
    unfold F_X12_findServing_l36_b at hF
    refine dw_iln rfl l2 (dw_aln rfl l0 (dw_gr rfl rfl rfl hH d_c64_0 (dw_ic rfl (dw_ald rfl hH d_a65 rfl (by decide) (by decide) (d_rl rfl) (k := 4) rfl (?_)))))
    refine d_if hF (fun q hF => ?_) (fun q hF => ?_)
    · refine dw_ge_y rfl (u := 123) rfl r_x2 hH.r q ?_
      refine dw_aln rfl l0 (dw_gr rfl rfl rfl hH d_c64_0 (dw_sp rfl rfl (dw_ic rfl (dw_iln rfl l2 (dw_mul rfl (dw_add rfl (dw_ic rfl (dw_add rfl (dw_w1 (?_))))))))))
      refine d_gd hF (fun g5 hF => dw_ald rfl hH d_a65 rfl g5.1 g5.2 d_R_w rfl (dw_aln rfl l0 (dw_gr rfl rfl rfl hH d_c64_0 (dw_bp rfl rfl (dw_ald rfl hH d_a65 rfl (by decide) (by decide) (d_rl rfl) (k := 9) rfl (?_))))))
      refine d_if hF (fun q hF => ?_) (fun q hF => ?_)
      · refine dw_eq_y rfl (u := 73) rfl hH.r hH.r q ?_
        refine dw_ic rfl (dw_isn rfl rfl (?_))
        refine D_X12_findServing_l75 (fun {x1_u11} {x2_u11} {ls_u11} {s_u11} {h_u11} hF hH_u11 l0_u11 r_x1_u11 l1_u11 r_x2_u11 l2_u11 => ?_) _ hF hH (d_s1 l0 rfl (by decide)) r_x1 (d_s1 l1 rfl (by decide)) r_x2 (d_s1 l2 rfl (by decide)) (d_rl rfl) p_lk_s1
        · refine dw_ii rfl l2_u11 rfl (dw_go rfl (u := 36) rfl (?_))
          exact ih hF hH_u11 (d_s1 l0_u11 rfl (by decide)) r_x1_u11 (d_s1 l1_u11 rfl (by decide)) d_R_w p_lk_s1
      · refine dw_eq_n rfl (u := 73) rfl hH.r hH.r q ?_
        refine dw_go rfl (u := 117) rfl (dw_ii rfl l2 rfl (dw_go rfl (u := 36) rfl (?_)))
        exact ih hF hH (d_s1 l0 rfl (by decide)) r_x1 (d_s1 l1 rfl (by decide)) d_R_w p_lk_s1
    · refine dw_ge_n rfl (u := 123) rfl r_x2 hH.r q ?_
      exact hk123 hF hH l0 r_x1 l1
set_option maxRecDepth 100000 in
noncomputable def F_X12_findServing_l28_b (k133 : d_S → Option (d_S)) (rec : Int → d_S → Option (d_S)) (x1 : Int) (s : d_S) : Option (d_S) :=
  if 60 < x1 then
  k133 s
  else
  F_X12_findServing_l36 (fun x1_u12 s_u12 =>
  d_b (F_X12_goOn s_u12) (fun s13 => rec (d_w (x1_u12 + 1)) s13)) d_N x1 0 s
set_option maxRecDepth 100000 in
noncomputable def F_X12_findServing_l28 (k133 : d_S → Option (d_S)) : Nat → Int → d_S → Option (d_S)
  | 0 => fun _ _ => none
  | n + 1 => F_X12_findServing_l28_b k133 (F_X12_findServing_l28 k133 n)
set_option maxRecDepth 100000 in
theorem D_X12_findServing_l28 {t : Nat → Option p_C} {k133 : d_S → Option (d_S)} {r : d_S} (hk133 : ∀ {ls : p_Ls} {s : d_S} {h : p_H}, k133 s = some r → d_V t h s → p_lk 0 ls = some (.ref 64) → p_wp p_GT p_MT 10 m_X12_findServing 133 ls [] h (d_QV t r)) : ∀ (n : Nat) {x1 : Int} {ls : p_Ls} {s : d_S} {h : p_H}, F_X12_findServing_l28 k133 n x1 s = some r → d_V t h s → p_lk 0 ls = some (.ref 64) → d_R x1 → p_lk 1 ls = some (.int (Int32.ofInt x1)) → p_wp p_GT p_MT 10 m_X12_findServing 28 ls [] h (d_QV t r) := by
  intro n
  induction n with
  | zero =>
    intro x1 ls s h hF hH l0 r_x1 l1
    cases (show (none : Option (d_S)) = some r from hF)
  | succ n ih =>
    intro x1 ls s h hF hH l0 r_x1 l1
    have hF : F_X12_findServing_l28_b k133 (F_X12_findServing_l28 k133 n) x1 s = some r := hF
    unfold F_X12_findServing_l28_b at hF
    refine dw_iln rfl l1 (dw_bp rfl rfl (?_))
    refine d_if hF (fun q hF => ?_) (fun q hF => ?_)
    · refine dw_gt_y rfl (u := 133) rfl r_x1 (d_rl rfl) q ?_
      exact hk133 hF hH l0
    · refine dw_gt_n rfl (u := 133) rfl r_x1 (d_rl rfl) q ?_
      refine dw_ic rfl (dw_isn rfl rfl (?_))
      refine D_X12_findServing_l36 (fun {x1_u12} {ls_u12} {s_u12} {h_u12} hF hH_u12 l0_u12 r_x1_u12 l1_u12 => ?_) _ hF hH (d_s1 l0 rfl (by decide)) r_x1 (d_s1 l1 rfl (by decide)) (d_rl rfl) p_lk_s1
      · refine dw_aln rfl l0_u12 (dw_vV hF rfl (d_vir (n := 1) rfl rfl rfl rfl rfl hH_u12 d_c64_0 rfl) rfl rfl rfl (dc := 9) (fun _ e => D_X12_goOn e hH_u12) (fun s13 h13 hH13 hF => dw_ii rfl l1_u12 rfl (dw_go rfl (u := 28) rfl (?_))))
        exact ih hF hH13 (d_s1 l0_u12 rfl (by decide)) d_R_w p_lk_s1
set_option maxRecDepth 100000 in
noncomputable def F_X12_findServing (s : d_S) : Option (d_S) :=
  F_X12_findServing_l2 (fun s_u3 =>
  d_b (F_X12_begin s_u3) (fun s4 => F_X12_findServing_l28 (fun s_u14 =>
  d_b (F_X12_putBack s_u14) (fun s15 => some s15)) d_N 0 s4)) d_N 0 s
set_option maxRecDepth 100000 in
theorem D_X12_findServing {t : Nat → Option p_C} {h : p_H} {s : d_S} {r : d_S} (hF : F_X12_findServing s = some r) (hH : d_V t h s) : p_wp p_GT p_MT 10 m_X12_findServing 0 (lv_args 0 [.ref 64]) [] h (d_QV t r) := by
  unfold F_X12_findServing at hF
  refine dw_ic rfl (dw_isn rfl rfl (?_))
  refine D_X12_findServing_l2 (fun {ls_u3} {s_u3} {h_u3} hF hH_u3 l0_u3 => ?_) _ hF hH (d_s1 rfl rfl (by decide)) (d_rl rfl) p_lk_s1
  · refine dw_aln rfl l0_u3 (dw_vV hF rfl (d_vir (n := 1) rfl rfl rfl rfl rfl hH_u3 d_c64_0 rfl) rfl rfl rfl (dc := 0) (fun _ e => D_X12_begin e hH_u3) (fun s4 h4 hH4 hF => dw_ic rfl (dw_isn rfl rfl (?_))))
    refine D_X12_findServing_l28 (fun {ls_u14} {s_u14} {h_u14} hF hH_u14 l0_u14 => ?_) _ hF hH4 (d_s1 l0_u3 rfl (by decide)) (d_rl rfl) p_lk_s1
    · exact dw_aln rfl l0_u14 (dw_vV hF rfl (d_vir (n := 1) rfl rfl rfl rfl rfl hH_u14 d_c64_0 rfl) rfl rfl rfl (dc := 0) (fun _ e => D_X12_putBack e hH_u14) (fun s15 h15 hH15 hF => dw_rV rfl rfl hH15 hF))

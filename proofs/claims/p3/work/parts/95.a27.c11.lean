set_option maxRecDepth 100000 in
noncomputable def F_X11_sellers_l4_b (t : Nat → Option p_C) (k55 : Int → Int → d_S → Option (Int × d_S)) (rec : Int → Int → Int → d_S → Option (Int × d_S)) (x1 : Int) (x2 : Int) (x3 : Int) (s : d_S) : Option (Int × d_S) :=
  if x3 < (s.1 37 5) then
  if x2 < 16 then
  d_b (F_X10_isSold_6 s x3) (fun v1 => if v1 = 0 then
  d_b2 (F_X11_sellsNow t s x3) (fun v2 s3 => d_g (0 ≤ x2 ∧ x2 < 64) (d_l (d_si s3 61 ((x2).toNat) v2) (fun s5 => rec x1 (d_w (x2 + 1)) (d_w (x3 + 1)) s5)))
  else
  rec x1 x2 (d_w (x3 + 1)) s)
  else
  k55 x1 x2 s
  else
  k55 x1 x2 s
set_option maxRecDepth 100000 in
noncomputable def F_X11_sellers_l4 (t : Nat → Option p_C) (k55 : Int → Int → d_S → Option (Int × d_S)) : Nat → Int → Int → Int → d_S → Option (Int × d_S)
  | 0 => fun _ _ _ _ => none
  | n + 1 => F_X11_sellers_l4_b t k55 (F_X11_sellers_l4 t k55 n)
set_option maxRecDepth 100000 in
theorem D_X11_sellers_l4 {t : Nat → Option p_C} {k55 : Int → Int → d_S → Option (Int × d_S)} {r : Int × d_S} (hk55 : ∀ {x1 : Int} {x2 : Int} {ls : p_Ls} {s : d_S} {h : p_H}, k55 x1 x2 s = some r → d_V t h s → p_lk 0 ls = some (.ref 2) → d_R x1 → p_lk 1 ls = some (.int (Int32.ofInt x1)) → d_R x2 → p_lk 2 ls = some (.int (Int32.ofInt x2)) → p_wp p_GT p_MT 5 m_X11_sellers 55 ls [] h (d_QI t r)) : ∀ (n : Nat) {x1 : Int} {x2 : Int} {x3 : Int} {ls : p_Ls} {s : d_S} {h : p_H}, F_X11_sellers_l4 t k55 n x1 x2 x3 s = some r → d_V t h s → p_lk 0 ls = some (.ref 2) → d_R x1 → p_lk 1 ls = some (.int (Int32.ofInt x1)) → d_R x2 → p_lk 2 ls = some (.int (Int32.ofInt x2)) → d_R x3 → p_lk 3 ls = some (.int (Int32.ofInt x3)) → p_wp p_GT p_MT 5 m_X11_sellers 4 ls [] h (d_QI t r) := by
  intro n
  induction n with
  | zero =>
    intro x1 x2 x3 ls s h hF hH l0 r_x1 l1 r_x2 l2 r_x3 l3
    cases (show (none : Option (Int × d_S)) = some r from hF)
  | succ n ih =>
    intro x1 x2 x3 ls s h hF hH l0 r_x1 l1 r_x2 l2 r_x3 l3
    have hF : F_X11_sellers_l4_b t k55 (F_X11_sellers_l4 t k55 n) x1 x2 x3 s = some r := hF
    unfold F_X11_sellers_l4_b at hF
    refine dw_iln rfl l3 (dw_aln rfl l0 (dw_gr rfl rfl rfl hH d_c2_2 (dw_gi (k := 5) rfl rfl rfl hH d_c37_5 (?_))))
    refine d_if hF (fun q hF => ?_) (fun q hF => ?_)
    · refine dw_ge_y rfl (u := 55) rfl r_x3 hH.r q ?_
      refine dw_iln rfl l2 (dw_bp rfl rfl (?_))
      refine d_if hF (fun q hF => ?_) (fun q hF => ?_)
      · refine dw_ge_y rfl (u := 55) rfl r_x2 (d_rl rfl) q ?_
        refine dw_aln rfl l0 (dw_gr rfl rfl rfl hH d_c2_0 (dw_gr rfl rfl rfl hH d_c3_8 (dw_iln rfl l3 (dw_vB hF rfl (d_vir (n := 2) rfl rfl rfl rfl rfl hH d_c6_0 rfl) rfl rfl rfl (dc := 1) (fun _ e => D_X10_isSold_6 e hH r_x3) (fun v1 r_v1 hF => ?_)))))
        refine d_if hF (fun q hF => ?_) (fun q hF => ?_)
        · refine dw_zne_y rfl (u := 49) rfl (d_R_b r_v1) q ?_
          refine dw_aln rfl l0 (dw_gr rfl rfl rfl hH d_c2_7 (dw_iln rfl l2 (dw_aln rfl l0 (dw_iln rfl l3 (dw_vI hF rfl (d_vir (n := 2) rfl rfl rfl rfl rfl hH d_c2_0 rfl) rfl rfl rfl (dc := 4) (fun _ _ e => D_X11_sellsNow e hH r_x3) (fun v2 s3 h3 hH3 r_v2 hF => d_gd hF (fun g4 hF => dw_ast rfl hH3 d_a61 g4.1 g4.2 r_x2 rfl r_v2 hF (fun s5 h5 hH5 hF => dw_ii rfl l2 rfl (dw_ii rfl (d_s1 l3 rfl (by decide)) rfl (?_))))))))))
          refine dw_go rfl (u := 4) rfl (?_)
          exact ih hF hH5 (d_s1 (d_s1 l0 rfl (by decide)) rfl (by decide)) r_x1 (d_s1 (d_s1 l1 rfl (by decide)) rfl (by decide)) d_R_w (d_s1 p_lk_s1 rfl (by decide)) d_R_w p_lk_s1
        · refine dw_zne_n rfl (u := 49) rfl (d_R_b r_v1) q ?_
          refine dw_ii rfl l3 rfl (dw_go rfl (u := 4) rfl (?_))
          exact ih hF hH (d_s1 l0 rfl (by decide)) r_x1 (d_s1 l1 rfl (by decide)) r_x2 (d_s1 l2 rfl (by decide)) d_R_w p_lk_s1
      · refine dw_ge_n rfl (u := 55) rfl r_x2 (d_rl rfl) q ?_
        exact hk55 hF hH l0 r_x1 l1 r_x2 l2
    · refine dw_ge_n rfl (u := 55) rfl r_x3 hH.r q ?_
      exact hk55 hF hH l0 r_x1 l1 r_x2 l2
set_option maxRecDepth 100000 in
noncomputable def F_X11_sellers_j68 (t : Nat → Option p_C) (s : d_S) : Option (Int × d_S) :=
  some ((-100000), s)
set_option maxRecDepth 100000 in
theorem D_X11_sellers_j68 {t : Nat → Option p_C} {h : p_H} {s : d_S} {r : Int × d_S} {ls : p_Ls} (hF : F_X11_sellers_j68 t s = some r) (hH : d_V t h s) : p_wp p_GT p_MT 5 m_X11_sellers 68 ls [] h (d_QI t r) := by
  unfold F_X11_sellers_j68 at hF
  exact dw_ldcw rfl rfl (dw_rI rfl rfl (d_rl rfl) hH hF)
set_option maxRecDepth 100000 in
noncomputable def F_X11_sellers (t : Nat → Option p_C) (s : d_S) (x1 : Int) : Option (Int × d_S) :=
  F_X11_sellers_l4 t (fun x1_u6 x2_u6 s_u6 =>
  if x2_u6 = 0 then
  F_X11_sellers_j68 t s_u6
  else
  d_b (F_X11_within x1_u6 0 1) (fun v7 => if v7 = 0 then
  F_X11_sellers_j68 t s_u6
  else
  if x1_u6 = 1 then
  d_b2 (F_X11_bestPlay s_u6 x2_u6 1) (fun v8 s9 => some (v8, s9))
  else
  d_b2 (F_X11_bestPlay s_u6 x2_u6 0) (fun v10 s11 => some (v10, s11)))) d_N x1 0 0 s
set_option maxRecDepth 100000 in
theorem D_X11_sellers {t : Nat → Option p_C} {h : p_H} {s : d_S} {x1 : Int} {r : Int × d_S} (hF : F_X11_sellers t s x1 = some r) (hH : d_V t h s) (r_x1 : d_R x1) : p_wp p_GT p_MT 5 m_X11_sellers 0 (lv_args 0 [.ref 2, .int (Int32.ofInt x1)]) [] h (d_QI t r) := by
  unfold F_X11_sellers at hF
  refine dw_ic rfl (dw_isn rfl rfl (dw_ic rfl (dw_isn rfl rfl (?_))))
  refine D_X11_sellers_l4 (fun {x1_u6} {x2_u6} {ls_u6} {s_u6} {h_u6} hF hH_u6 l0_u6 r_x1_u6 l1_u6 r_x2_u6 l2_u6 => ?_) _ hF hH (d_s1 (d_s1 rfl rfl (by decide)) rfl (by decide)) r_x1 (d_s1 (d_s1 rfl rfl (by decide)) rfl (by decide)) (d_rl rfl) (d_s1 p_lk_s1 rfl (by decide)) (d_rl rfl) p_lk_s1
  · refine dw_iln rfl l2_u6 (?_)
    refine d_if hF (fun q hF => ?_) (fun q hF => ?_)
    · refine dw_zeq_y rfl (u := 68) rfl r_x2_u6 q ?_
      exact D_X11_sellers_j68 hF hH_u6
    · refine dw_zeq_n rfl (u := 68) rfl r_x2_u6 q ?_
      refine dw_iln rfl l1_u6 (dw_ic rfl (dw_ic rfl (dw_sB hF rfl rfl rfl rfl rfl (dc := 0) (fun _ e => D_X11_within e r_x1_u6 (d_rl rfl) (d_rl rfl)) (fun v7 r_v7 hF => ?_))))
      refine d_if hF (fun q hF => ?_) (fun q hF => ?_)
      · refine dw_zne_y rfl (u := 72) rfl (d_R_b r_v7) q ?_
        exact D_X11_sellers_j68 hF hH_u6
      · refine dw_zne_n rfl (u := 72) rfl (d_R_b r_v7) q ?_
        refine dw_aln rfl l0_u6 (dw_iln rfl l2_u6 (dw_iln rfl l1_u6 (dw_ic rfl (?_))))
        refine d_if hF (fun q hF => ?_) (fun q hF => ?_)
        · refine dw_ne_y rfl (u := 83) rfl r_x1_u6 (d_rl rfl) q ?_
          exact dw_ic rfl (dw_go rfl (u := 84) rfl (dw_vI hF rfl (d_vir (n := 3) rfl rfl rfl rfl rfl hH_u6 d_c2_0 rfl) rfl rfl rfl (dc := 1) (fun _ _ e => D_X11_bestPlay e hH_u6 r_x2_u6 (d_rl rfl)) (fun v8 s9 h9 hH9 r_v8 hF => dw_rI rfl rfl r_v8 hH9 hF)))
        · refine dw_ne_n rfl (u := 83) rfl r_x1_u6 (d_rl rfl) q ?_
          exact dw_ic rfl (dw_vI hF rfl (d_vir (n := 3) rfl rfl rfl rfl rfl hH_u6 d_c2_0 rfl) rfl rfl rfl (dc := 1) (fun _ _ e => D_X11_bestPlay e hH_u6 r_x2_u6 (d_rl rfl)) (fun v10 s11 h11 hH11 r_v10 hF => dw_rI rfl rfl r_v10 hH11 hF))
set_option maxRecDepth 100000 in
noncomputable def F_X0_penceBehind (t : Nat → Option p_C) (s : d_S) (x1 : Int) (x2 : Int) (x3 : Int) : Option (Int × d_S) :=
  d_b (F_X0_start s x1) (fun s1 => d_b (F_J9_min_7cf53 9 (d_w ((s1.1 47 8) + x2))) (fun v2 => d_l (d_si s1 47 8 v2) (fun s3 => d_b (F_X0_run t s3 x3) (fun s4 => if (s4.1 47 9) < 100 then
  d_b2 (F_X0_sellsAt t s4) (fun v5 s6 => some (v5, s6))
  else
  some (0, s4)))))
set_option maxRecDepth 100000 in
theorem D_X0_penceBehind {t : Nat → Option p_C} {h : p_H} {s : d_S} {x1 : Int} {x2 : Int} {x3 : Int} {r : Int × d_S} (hF : F_X0_penceBehind t s x1 x2 x3 = some r) (hH : d_V t h s) (r_x1 : d_R x1) (r_x2 : d_R x2) (r_x3 : d_R x3) : p_wp p_GT p_MT 5 m_X0_penceBehind 0 (lv_args 0 [.ref 47, .int (Int32.ofInt x1), .int (Int32.ofInt x2), .int (Int32.ofInt x3)]) [] h (d_QI t r) := by
  unfold F_X0_penceBehind at hF
  refine dw_aln rfl rfl (dw_iln rfl rfl (dw_vV hF rfl (d_vir (n := 2) rfl rfl rfl rfl rfl hH d_c47_0 rfl) rfl rfl rfl (dc := 2) (fun _ e => D_X0_start e hH r_x1) (fun s1 h1 hH1 hF => dw_aln rfl rfl (dw_bp rfl rfl (dw_aln rfl rfl (dw_gi (k := 8) rfl rfl rfl hH1 d_c47_8 (dw_iln rfl rfl (dw_add rfl (dw_w1 (?_))))))))))
  refine dw_sP hF rfl rfl rfl rfl rfl (dc := 0) (fun _ e => D_J9_min_7cf53 e (d_rl rfl) d_R_w) (fun v2 r_v2 hF => dw_pi (k := 8) rfl rfl rfl rfl hH1 d_c47_8 r_v2 (by decide) hF (fun s3 h3 hH3 hF => dw_aln rfl rfl (dw_iln rfl rfl (dw_vV hF rfl (d_vir (n := 2) rfl rfl rfl rfl rfl hH3 d_c47_0 rfl) rfl rfl rfl (dc := 4) (fun _ e => D_X0_run e hH3 r_x3) (fun s4 h4 hH4 hF => dw_aln rfl rfl (dw_gi (k := 9) rfl rfl rfl hH4 d_c47_9 (dw_bp rfl rfl (?_))))))))
  refine d_if hF (fun q hF => ?_) (fun q hF => ?_)
  · refine dw_ge_y rfl (u := 41) rfl hH4.r (d_rl rfl) q ?_
    exact dw_aln rfl rfl (dw_vI hF rfl (d_vir (n := 1) rfl rfl rfl rfl rfl hH4 d_c47_0 rfl) rfl rfl rfl (dc := 3) (fun _ _ e => D_X0_sellsAt e hH4) (fun v5 s6 h6 hH6 r_v5 hF => dw_go rfl (u := 42) rfl (dw_rI rfl rfl r_v5 hH6 hF)))
  · refine dw_ge_n rfl (u := 41) rfl hH4.r (d_rl rfl) q ?_
    exact dw_ic rfl (dw_rI rfl rfl (d_rl rfl) hH4 hF)
set_option maxRecDepth 100000 in
noncomputable def F_X11_strawBest_l30_b (t : Nat → Option p_C) (rec : Int → Int → Int → Int → Int → d_S → Option (Int × d_S)) (x1 : Int) (x2 : Int) (x3 : Int) (x4 : Int) (x5 : Int) (s : d_S) : Option (Int × d_S) :=
  if x5 < (s.1 37 5) then
  d_b (F_X10_isSold_6 s x5) (fun v3 => if v3 = 0 then
  d_b2 (F_X0_penceBehind t s x5 x1 x2) (fun v4 s5 => d_b2 (F_X0_penceBehind t s5 x5 0 x2) (fun v6 s7 => if x3 = (-1) then
  rec x1 x2 x5 (d_w (v4 - v6)) (d_w (x5 + 1)) s7
  else
  if x4 < (d_w (v4 - v6)) then
  rec x1 x2 x5 (d_w (v4 - v6)) (d_w (x5 + 1)) s7
  else
  rec x1 x2 x3 x4 (d_w (x5 + 1)) s7))
  else
  rec x1 x2 x3 x4 (d_w (x5 + 1)) s)
  else
  some (x3, s)
set_option maxRecDepth 100000 in
noncomputable def F_X11_strawBest_l30 (t : Nat → Option p_C) : Nat → Int → Int → Int → Int → Int → d_S → Option (Int × d_S)
  | 0 => fun _ _ _ _ _ _ => none
  | n + 1 => F_X11_strawBest_l30_b t (F_X11_strawBest_l30 t n)
set_option maxRecDepth 100000 in
theorem D_X11_strawBest_l30 {t : Nat → Option p_C} {r : Int × d_S} : ∀ (n : Nat) {x1 : Int} {x2 : Int} {x3 : Int} {x4 : Int} {x5 : Int} {ls : p_Ls} {s : d_S} {h : p_H}, F_X11_strawBest_l30 t n x1 x2 x3 x4 x5 s = some r → d_V t h s → p_lk 0 ls = some (.ref 2) → d_R x1 → p_lk 1 ls = some (.int (Int32.ofInt x1)) → d_R x2 → p_lk 2 ls = some (.int (Int32.ofInt x2)) → d_R x3 → p_lk 3 ls = some (.int (Int32.ofInt x3)) → d_R x4 → p_lk 4 ls = some (.int (Int32.ofInt x4)) → d_R x5 → p_lk 5 ls = some (.int (Int32.ofInt x5)) → p_wp p_GT p_MT 6 m_X11_strawBest 30 ls [] h (d_QI t r) := by
  intro n
  induction n with
  | zero =>
    intro x1 x2 x3 x4 x5 ls s h hF hH l0 r_x1 l1 r_x2 l2 r_x3 l3 r_x4 l4 r_x5 l5
    cases (show (none : Option (Int × d_S)) = some r from hF)
  | succ n ih =>
    intro x1 x2 x3 x4 x5 ls s h hF hH l0 r_x1 l1 r_x2 l2 r_x3 l3 r_x4 l4 r_x5 l5
    have hF : F_X11_strawBest_l30_b t (F_X11_strawBest_l30 t n) x1 x2 x3 x4 x5 s = some r := hF
    unfold F_X11_strawBest_l30_b at hF
    refine dw_il rfl l5 (dw_aln rfl l0 (dw_gr rfl rfl rfl hH d_c2_2 (dw_gi (k := 5) rfl rfl rfl hH d_c37_5 (?_))))
    refine d_if hF (fun q hF => ?_) (fun q hF => ?_)
    · refine dw_ge_y rfl (u := 107) rfl r_x5 hH.r q ?_
      refine dw_aln rfl l0 (dw_gr rfl rfl rfl hH d_c2_0 (dw_gr rfl rfl rfl hH d_c3_8 (dw_il rfl l5 (dw_vB hF rfl (d_vir (n := 2) rfl rfl rfl rfl rfl hH d_c6_0 rfl) rfl rfl rfl (dc := 1) (fun _ e => D_X10_isSold_6 e hH r_x5) (fun v3 r_v3 hF => ?_)))))
      refine d_if hF (fun q hF => ?_) (fun q hF => ?_)
      · refine dw_zne_y rfl (u := 101) rfl (d_R_b r_v3) q ?_
        refine dw_aln rfl l0 (dw_gr rfl rfl rfl hH d_c2_4 (dw_il rfl l5 (dw_iln rfl l1 (dw_iln rfl l2 (dw_vI hF rfl (d_vir (n := 4) rfl rfl rfl rfl rfl hH d_c47_0 rfl) rfl rfl rfl (dc := 5) (fun _ _ e => D_X0_penceBehind e hH r_x5 r_x1 r_x2) (fun v4 s5 h5 hH5 r_v4 hF => dw_aln rfl l0 (dw_gr rfl rfl rfl hH5 d_c2_4 (dw_il rfl l5 (dw_ic rfl (?_))))))))))
        refine dw_iln rfl l2 (dw_vI hF rfl (d_vir (n := 4) rfl rfl rfl rfl rfl hH5 d_c47_0 rfl) rfl rfl rfl (dc := 5) (fun _ _ e => D_X0_penceBehind e hH5 r_x5 (d_rl rfl) r_x2) (fun v6 s7 h7 hH7 r_v6 hF => dw_sub rfl (dw_w1 (dw_is rfl rfl (dw_iln rfl (d_s1 l3 rfl (by decide)) (dw_ic rfl (?_)))))))
        refine d_if hF (fun q hF => ?_) (fun q hF => ?_)
        · refine dw_eq_y rfl (u := 94) rfl r_x3 (d_rl rfl) q ?_
          refine dw_il rfl (d_s1 l5 rfl (by decide)) (dw_isn rfl rfl (dw_il rfl (d_s1 p_lk_s1 rfl (by decide)) (dw_is rfl rfl (dw_ii rfl (d_s1 (d_s1 (d_s1 l5 rfl (by decide)) rfl (by decide)) rfl (by decide)) rfl (dw_go rfl (u := 30) rfl (?_))))))
          exact ih hF hH7 (d_s1 (d_s1 (d_s1 (d_s1 l0 rfl (by decide)) rfl (by decide)) rfl (by decide)) rfl (by decide)) r_x1 (d_s1 (d_s1 (d_s1 (d_s1 l1 rfl (by decide)) rfl (by decide)) rfl (by decide)) rfl (by decide)) r_x2 (d_s1 (d_s1 (d_s1 (d_s1 l2 rfl (by decide)) rfl (by decide)) rfl (by decide)) rfl (by decide)) r_x5 (d_s1 (d_s1 p_lk_s1 rfl (by decide)) rfl (by decide)) d_R_w (d_s1 p_lk_s1 rfl (by decide)) d_R_w p_lk_s1
        · refine dw_eq_n rfl (u := 94) rfl r_x3 (d_rl rfl) q ?_
          refine dw_il rfl p_lk_s1 (dw_il rfl (d_s1 l4 rfl (by decide)) (?_))
          refine d_if hF (fun q hF => ?_) (fun q hF => ?_)
          · refine dw_le_y rfl (u := 101) rfl d_R_w r_x4 q ?_
            refine dw_il rfl (d_s1 l5 rfl (by decide)) (dw_isn rfl rfl (dw_il rfl (d_s1 p_lk_s1 rfl (by decide)) (dw_is rfl rfl (dw_ii rfl (d_s1 (d_s1 (d_s1 l5 rfl (by decide)) rfl (by decide)) rfl (by decide)) rfl (dw_go rfl (u := 30) rfl (?_))))))
            exact ih hF hH7 (d_s1 (d_s1 (d_s1 (d_s1 l0 rfl (by decide)) rfl (by decide)) rfl (by decide)) rfl (by decide)) r_x1 (d_s1 (d_s1 (d_s1 (d_s1 l1 rfl (by decide)) rfl (by decide)) rfl (by decide)) rfl (by decide)) r_x2 (d_s1 (d_s1 (d_s1 (d_s1 l2 rfl (by decide)) rfl (by decide)) rfl (by decide)) rfl (by decide)) r_x5 (d_s1 (d_s1 p_lk_s1 rfl (by decide)) rfl (by decide)) d_R_w (d_s1 p_lk_s1 rfl (by decide)) d_R_w p_lk_s1
          · refine dw_le_n rfl (u := 101) rfl d_R_w r_x4 q ?_
            refine dw_ii rfl (d_s1 l5 rfl (by decide)) rfl (dw_go rfl (u := 30) rfl (?_))
            exact ih hF hH7 (d_s1 (d_s1 l0 rfl (by decide)) rfl (by decide)) r_x1 (d_s1 (d_s1 l1 rfl (by decide)) rfl (by decide)) r_x2 (d_s1 (d_s1 l2 rfl (by decide)) rfl (by decide)) r_x3 (d_s1 (d_s1 l3 rfl (by decide)) rfl (by decide)) r_x4 (d_s1 (d_s1 l4 rfl (by decide)) rfl (by decide)) d_R_w p_lk_s1
      · refine dw_zne_n rfl (u := 101) rfl (d_R_b r_v3) q ?_
        refine dw_ii rfl l5 rfl (dw_go rfl (u := 30) rfl (?_))
        exact ih hF hH (d_s1 l0 rfl (by decide)) r_x1 (d_s1 l1 rfl (by decide)) r_x2 (d_s1 l2 rfl (by decide)) r_x3 (d_s1 l3 rfl (by decide)) r_x4 (d_s1 l4 rfl (by decide)) d_R_w p_lk_s1
    · refine dw_ge_n rfl (u := 107) rfl r_x5 hH.r q ?_
      exact dw_iln rfl l3 (dw_rI rfl rfl r_x3 hH hF)
set_option maxRecDepth 100000 in
noncomputable def F_X11_strawBest (t : Nat → Option p_C) (s : d_S) (x1 : Int) (x2 : Int) : Option (Int × d_S) :=
  d_b (F_X11_within x1 0 9) (fun v1 => if v1 = 0 then
  some ((-1), s)
  else
  d_b (F_X11_within x2 1 20) (fun v2 => if v2 = 0 then
  some ((-1), s)
  else
  F_X11_strawBest_l30 t d_N x1 x2 (-1) 0 0 s))
set_option maxRecDepth 100000 in
theorem D_X11_strawBest {t : Nat → Option p_C} {h : p_H} {s : d_S} {x1 : Int} {x2 : Int} {r : Int × d_S} (hF : F_X11_strawBest t s x1 x2 = some r) (hH : d_V t h s) (r_x1 : d_R x1) (r_x2 : d_R x2) : p_wp p_GT p_MT 6 m_X11_strawBest 0 (lv_args 0 [.ref 2, .int (Int32.ofInt x1), .int (Int32.ofInt x2)]) [] h (d_QI t r) := by
  unfold F_X11_strawBest at hF
  refine dw_iln rfl rfl (dw_ic rfl (dw_bp rfl rfl (dw_sB hF rfl rfl rfl rfl rfl (dc := 0) (fun _ e => D_X11_within e r_x1 (d_rl rfl) (d_rl rfl)) (fun v1 r_v1 hF => ?_))))
  refine d_if hF (fun q hF => ?_) (fun q hF => ?_)
  · refine dw_zeq_y rfl (u := 20) rfl (d_R_b r_v1) q ?_
    exact dw_ic rfl (dw_rI rfl rfl (d_rl rfl) hH hF)
  · refine dw_zeq_n rfl (u := 20) rfl (d_R_b r_v1) q ?_
    refine dw_iln rfl rfl (dw_ic rfl (dw_bp rfl rfl (dw_sB hF rfl rfl rfl rfl rfl (dc := 0) (fun _ e => D_X11_within e r_x2 (d_rl rfl) (d_rl rfl)) (fun v2 r_v2 hF => ?_))))
    refine d_if hF (fun q hF => ?_) (fun q hF => ?_)
    · refine dw_zne_y rfl (u := 22) rfl (d_R_b r_v2) q ?_
      exact dw_ic rfl (dw_rI rfl rfl (d_rl rfl) hH hF)
    · refine dw_zne_n rfl (u := 22) rfl (d_R_b r_v2) q ?_
      refine dw_ic rfl (dw_isn rfl rfl (dw_ic rfl (dw_is rfl rfl (dw_ic rfl (dw_is rfl rfl (?_))))))
      exact D_X11_strawBest_l30 _ hF hH (d_s1 (d_s1 (d_s1 rfl rfl (by decide)) rfl (by decide)) rfl (by decide)) r_x1 (d_s1 (d_s1 (d_s1 rfl rfl (by decide)) rfl (by decide)) rfl (by decide)) r_x2 (d_s1 (d_s1 (d_s1 rfl rfl (by decide)) rfl (by decide)) rfl (by decide)) (d_rl rfl) (d_s1 (d_s1 p_lk_s1 rfl (by decide)) rfl (by decide)) (d_rl rfl) (d_s1 p_lk_s1 rfl (by decide)) (d_rl rfl) p_lk_s1
set_option maxRecDepth 100000 in
noncomputable def F_X8_none_18 (s : d_S) : Option (Int × d_S) :=
  d_l (d_si s 18 2 0) (fun s1 => some (0, s1))
set_option maxRecDepth 100000 in
theorem D_X8_none_18 {t : Nat → Option p_C} {h : p_H} {s : d_S} {r : Int × d_S} (hF : F_X8_none_18 s = some r) (hH : d_V t h s) : p_wp p_GT p_MT 0 m_X8_none 0 (lv_args 0 [.ref 18]) [] h (d_QI t r) := by
  unfold F_X8_none_18 at hF
  exact dw_aln rfl rfl (dw_ic rfl (dw_pi (k := 2) rfl rfl rfl rfl hH d_c18_2 (d_rl rfl) (by decide) hF (fun s1 h1 hH1 hF => dw_ic rfl (dw_rI rfl rfl (d_rl rfl) hH1 hF))))
set_option maxRecDepth 100000 in
noncomputable def F_X8_add_18 (s : d_S) (x1 : Int) (x2 : Int) (x3 : Int) (x4 : Int) : Option (Int × d_S) :=
  if (s.1 18 2) < (s.1 18 0) then
  if (d_w ((s.1 18 2) * 4)) < 0 then
  some ((-2), s)
  else
  if 32 < (d_w ((d_w ((s.1 18 2) * 4)) + 4)) then
  some ((-2), s)
  else
  d_g (0 ≤ (d_w ((s.1 18 2) * 4)) ∧ (d_w ((s.1 18 2) * 4)) < 32) (d_l (d_si s 19 (((d_w ((s.1 18 2) * 4))).toNat) x1) (fun s2 => d_g (0 ≤ (d_w ((d_w ((s.1 18 2) * 4)) + 1)) ∧ (d_w ((d_w ((s.1 18 2) * 4)) + 1)) < 32) (d_l (d_si s2 19 (((d_w ((d_w ((s.1 18 2) * 4)) + 1))).toNat) x2) (fun s4 => d_g (0 ≤ (d_w ((d_w ((s.1 18 2) * 4)) + 2)) ∧ (d_w ((d_w ((s.1 18 2) * 4)) + 2)) < 32) (d_l (d_si s4 19 (((d_w ((d_w ((s.1 18 2) * 4)) + 2))).toNat) x3) (fun s6 => d_g (0 ≤ (d_w ((d_w ((s.1 18 2) * 4)) + 3)) ∧ (d_w ((d_w ((s.1 18 2) * 4)) + 3)) < 32) (d_l (d_si s6 19 (((d_w ((d_w ((s.1 18 2) * 4)) + 3))).toNat) x4) (fun s8 => d_l (d_si s8 18 2 (d_w ((s8.1 18 2) + 1))) (fun s9 => some ((s9.1 18 2), s9))))))))))
  else
  some ((-2), s)
set_option maxRecDepth 100000 in
theorem D_X8_add_18 {t : Nat → Option p_C} {h : p_H} {s : d_S} {x1 : Int} {x2 : Int} {x3 : Int} {x4 : Int} {r : Int × d_S} (hF : F_X8_add_18 s x1 x2 x3 x4 = some r) (hH : d_V t h s) (r_x1 : d_R x1) (r_x2 : d_R x2) (r_x3 : d_R x3) (r_x4 : d_R x4) : p_wp p_GT p_MT 0 m_X8_add 0 (lv_args 0 [.ref 18, .int (Int32.ofInt x1), .int (Int32.ofInt x2), .int (Int32.ofInt x3), .int (Int32.ofInt x4)]) [] h (d_QI t r) := by
  unfold F_X8_add_18 at hF
  refine dw_aln rfl rfl (dw_gi (k := 2) rfl rfl rfl hH d_c18_2 (dw_ic rfl (dw_mul rfl (dw_w1 (dw_is rfl rfl (dw_aln rfl (d_s1 rfl rfl (by decide)) (dw_gi (k := 2) rfl rfl rfl hH d_c18_2 (dw_aln rfl (d_s1 rfl rfl (by decide)) (dw_gi (k := 0) rfl rfl rfl hH d_c18_0 (?_))))))))))
  refine d_if hF (fun q hF => ?_) (fun q hF => ?_)
  · refine dw_ge_y rfl (u := 36) rfl hH.r hH.r q ?_
    refine dw_il rfl p_lk_s1 (?_)
    refine d_if hF (fun q hF => ?_) (fun q hF => ?_)
    · refine dw_zlt_y rfl (u := 36) rfl d_R_w q ?_
      exact dw_bp rfl rfl (dw_rI rfl rfl (d_rl rfl) hH hF)
    · refine dw_zlt_n rfl (u := 36) rfl d_R_w q ?_
      refine dw_il rfl p_lk_s1 (dw_ic rfl (dw_add rfl (dw_aln rfl (d_s1 rfl rfl (by decide)) (dw_gr rfl rfl rfl hH d_c18_1 (dw_len rfl hH d_a19 rfl (z := 32) rfl (dw_w2 (?_)))))))
      refine d_if hF (fun q hF => ?_) (fun q hF => ?_)
      · refine dw_le_y rfl (u := 39) rfl d_R_w (d_rl rfl) q ?_
        exact dw_bp rfl rfl (dw_rI rfl rfl (d_rl rfl) hH hF)
      · refine dw_le_n rfl (u := 39) rfl d_R_w (d_rl rfl) q ?_
        refine dw_aln rfl (d_s1 rfl rfl (by decide)) (dw_gr rfl rfl rfl hH d_c18_1 (dw_il rfl p_lk_s1 (dw_iln rfl (d_s1 rfl rfl (by decide)) (d_gd hF (fun g1 hF => dw_ast rfl hH d_a19 g1.1 g1.2 d_R_w rfl r_x1 hF (fun s2 h2 hH2 hF => dw_aln rfl (d_s1 rfl rfl (by decide)) (dw_gr rfl rfl rfl hH2 d_c18_1 (dw_il rfl p_lk_s1 (dw_ic rfl (?_))))))))))
        refine dw_add rfl (dw_iln rfl (d_s1 rfl rfl (by decide)) (dw_w2 (d_gd hF (fun g3 hF => dw_ast rfl hH2 d_a19 g3.1 g3.2 d_R_w rfl r_x2 hF (fun s4 h4 hH4 hF => dw_aln rfl (d_s1 rfl rfl (by decide)) (dw_gr rfl rfl rfl hH4 d_c18_1 (dw_il rfl p_lk_s1 (dw_ic rfl (dw_add rfl (?_))))))))))
        refine dw_iln rfl (d_s1 rfl rfl (by decide)) (dw_w2 (d_gd hF (fun g5 hF => dw_ast rfl hH4 d_a19 g5.1 g5.2 d_R_w rfl r_x3 hF (fun s6 h6 hH6 hF => dw_aln rfl (d_s1 rfl rfl (by decide)) (dw_gr rfl rfl rfl hH6 d_c18_1 (dw_il rfl p_lk_s1 (dw_ic rfl (dw_add rfl (dw_il rfl (d_s1 rfl rfl (by decide)) (?_))))))))))
        refine dw_w2 (d_gd hF (fun g7 hF => dw_ast rfl hH6 d_a19 g7.1 g7.2 d_R_w rfl r_x4 hF (fun s8 h8 hH8 hF => dw_aln rfl (d_s1 rfl rfl (by decide)) (dw_dupr rfl (dw_gi (k := 2) rfl rfl rfl hH8 d_c18_2 (dw_ic rfl (dw_add rfl (dw_w1 (dw_pi (k := 2) rfl rfl rfl rfl hH8 d_c18_2 d_R_w (by decide) hF (fun s9 h9 hH9 hF => ?_))))))))))
        exact dw_aln rfl (d_s1 rfl rfl (by decide)) (dw_gi (k := 2) rfl rfl rfl hH9 d_c18_2 (dw_rI rfl rfl hH9.r hH9 hF))
  · refine dw_ge_n rfl (u := 36) rfl hH.r hH.r q ?_
    exact dw_bp rfl rfl (dw_rI rfl rfl (d_rl rfl) hH hF)
set_option maxRecDepth 100000 in
noncomputable def F_X11_melt_j59 (x1 : Int) (x2 : Int) (x3 : Int) (x4 : Int) (s : d_S) : Option (Int × d_S) :=
  some ((-2), s)
set_option maxRecDepth 100000 in
theorem D_X11_melt_j59 {t : Nat → Option p_C} {h : p_H} {s : d_S} {x1 : Int} {x2 : Int} {x3 : Int} {x4 : Int} {r : Int × d_S} {ls : p_Ls} (hF : F_X11_melt_j59 x1 x2 x3 x4 s = some r) (hH : d_V t h s) (l0 : p_lk 0 ls = some (.ref 2)) (r_x1 : d_R x1) (l1 : p_lk 1 ls = some (.int (Int32.ofInt x1))) (r_x2 : d_R x2) (l2 : p_lk 2 ls = some (.int (Int32.ofInt x2))) (r_x3 : d_R x3) (l3 : p_lk 3 ls = some (.int (Int32.ofInt x3))) (r_x4 : d_R x4) (l4 : p_lk 4 ls = some (.int (Int32.ofInt x4))) : p_wp p_GT p_MT 2 m_X11_melt 59 ls [] h (d_QI t r) := by
  unfold F_X11_melt_j59 at hF
  exact dw_ic rfl (dw_is rfl rfl (dw_il rfl p_lk_s1 (dw_zeq_y rfl (u := 85) rfl (d_rl rfl) (by decide) (dw_bp rfl rfl (dw_rI rfl rfl (d_rl rfl) hH hF)))))
set_option maxRecDepth 100000 in
noncomputable def F_X11_melt (s : d_S) (x1 : Int) (x2 : Int) (x3 : Int) (x4 : Int) : Option (Int × d_S) :=
  if x1 = (-1) then
  d_b2 (F_X8_none_18 s) (fun v1 s2 => some (v1, s2))
  else
  d_b (F_X11_isBlock s x1) (fun v3 => if v3 = 0 then
  F_X11_melt_j59 x1 x2 x3 x4 s
  else
  d_b (F_X11_within x2 0 9) (fun v4 => if v4 = 0 then
  F_X11_melt_j59 x1 x2 x3 x4 s
  else
  d_b (F_X11_within x3 0 9) (fun v5 => if v5 = 0 then
  F_X11_melt_j59 x1 x2 x3 x4 s
  else
  d_b (F_X11_within x4 0 100) (fun v6 => if v6 = 0 then
  F_X11_melt_j59 x1 x2 x3 x4 s
  else
  d_b2 (F_X8_add_18 s x1 x2 x3 x4) (fun v7 s8 => some (v7, s8))))))
set_option maxRecDepth 100000 in
theorem D_X11_melt {t : Nat → Option p_C} {h : p_H} {s : d_S} {x1 : Int} {x2 : Int} {x3 : Int} {x4 : Int} {r : Int × d_S} (hF : F_X11_melt s x1 x2 x3 x4 = some r) (hH : d_V t h s) (r_x1 : d_R x1) (r_x2 : d_R x2) (r_x3 : d_R x3) (r_x4 : d_R x4) : p_wp p_GT p_MT 2 m_X11_melt 0 (lv_args 0 [.ref 2, .int (Int32.ofInt x1), .int (Int32.ofInt x2), .int (Int32.ofInt x3), .int (Int32.ofInt x4)]) [] h (d_QI t r) := by
  unfold F_X11_melt at hF
  refine dw_iln rfl rfl (dw_ic rfl (?_))
  refine d_if hF (fun q hF => ?_) (fun q hF => ?_)
  · refine dw_ne_y rfl (u := 16) rfl r_x1 (d_rl rfl) q ?_
    exact dw_aln rfl rfl (dw_gr rfl rfl rfl hH d_c2_0 (dw_gr rfl rfl rfl hH d_c3_14 (dw_vI hF rfl (d_vir (n := 1) rfl rfl rfl rfl rfl hH d_c18_0 rfl) rfl rfl rfl (dc := 0) (fun _ _ e => D_X8_none_18 e hH) (fun v1 s2 h2 hH2 r_v1 hF => dw_rI rfl rfl r_v1 hH2 hF))))
  · refine dw_ne_n rfl (u := 16) rfl r_x1 (d_rl rfl) q ?_
    refine dw_aln rfl rfl (dw_iln rfl rfl (dw_vB hF rfl (d_vir (n := 2) rfl rfl rfl rfl rfl hH d_c2_0 rfl) rfl rfl rfl (dc := 1) (fun _ e => D_X11_isBlock e hH r_x1) (fun v3 r_v3 hF => ?_)))
    refine d_if hF (fun q hF => ?_) (fun q hF => ?_)
    · refine dw_zeq_y rfl (u := 59) rfl (d_R_b r_v3) q ?_
      exact D_X11_melt_j59 hF hH rfl r_x1 rfl r_x2 rfl r_x3 rfl r_x4 rfl
    · refine dw_zeq_n rfl (u := 59) rfl (d_R_b r_v3) q ?_
      refine dw_iln rfl rfl (dw_ic rfl (dw_bp rfl rfl (dw_sB hF rfl rfl rfl rfl rfl (dc := 0) (fun _ e => D_X11_within e r_x2 (d_rl rfl) (d_rl rfl)) (fun v4 r_v4 hF => ?_))))
      refine d_if hF (fun q hF => ?_) (fun q hF => ?_)
      · refine dw_zeq_y rfl (u := 59) rfl (d_R_b r_v4) q ?_
        exact D_X11_melt_j59 hF hH rfl r_x1 rfl r_x2 rfl r_x3 rfl r_x4 rfl
      · refine dw_zeq_n rfl (u := 59) rfl (d_R_b r_v4) q ?_
        refine dw_iln rfl rfl (dw_ic rfl (dw_bp rfl rfl (dw_sB hF rfl rfl rfl rfl rfl (dc := 0) (fun _ e => D_X11_within e r_x3 (d_rl rfl) (d_rl rfl)) (fun v5 r_v5 hF => ?_))))
        refine d_if hF (fun q hF => ?_) (fun q hF => ?_)
        · refine dw_zeq_y rfl (u := 59) rfl (d_R_b r_v5) q ?_
          exact D_X11_melt_j59 hF hH rfl r_x1 rfl r_x2 rfl r_x3 rfl r_x4 rfl
        · refine dw_zeq_n rfl (u := 59) rfl (d_R_b r_v5) q ?_
          refine dw_il rfl rfl (dw_ic rfl (dw_bp rfl rfl (dw_sB hF rfl rfl rfl rfl rfl (dc := 0) (fun _ e => D_X11_within e r_x4 (d_rl rfl) (d_rl rfl)) (fun v6 r_v6 hF => ?_))))
          refine d_if hF (fun q hF => ?_) (fun q hF => ?_)
          · refine dw_zeq_y rfl (u := 59) rfl (d_R_b r_v6) q ?_
            exact D_X11_melt_j59 hF hH rfl r_x1 rfl r_x2 rfl r_x3 rfl r_x4 rfl
          · refine dw_zeq_n rfl (u := 59) rfl (d_R_b r_v6) q ?_
            refine dw_ic rfl (dw_go rfl (u := 60) rfl (dw_is rfl rfl (dw_il rfl p_lk_s1 (dw_zeq_n rfl (u := 85) rfl (d_rl rfl) (by decide) (dw_aln rfl (d_s1 rfl rfl (by decide)) (dw_gr rfl rfl rfl hH d_c2_0 (dw_gr rfl rfl rfl hH d_c3_14 (dw_iln rfl (d_s1 rfl rfl (by decide)) (dw_iln rfl (d_s1 rfl rfl (by decide)) (?_))))))))))
            exact dw_iln rfl (d_s1 rfl rfl (by decide)) (dw_il rfl (d_s1 rfl rfl (by decide)) (dw_vI hF rfl (d_vir (n := 5) rfl rfl rfl rfl rfl hH d_c18_0 rfl) rfl rfl rfl (dc := 0) (fun _ _ e => D_X8_add_18 e hH r_x1 r_x2 r_x3 r_x4) (fun v7 s8 h8 hH8 r_v7 hF => dw_go rfl (u := 87) rfl (dw_rI rfl rfl r_v7 hH8 hF))))
set_option maxRecDepth 100000 in
noncomputable def F_X8_part_18 (s : d_S) (x1 : Int) (x2 : Int) : Option (Int) :=
  if (d_w ((x1 * 4) + x2)) < 0 then
  some 0
  else
  if (d_w ((x1 * 4) + x2)) < 32 then
  d_g (0 ≤ (d_w ((x1 * 4) + x2)) ∧ (d_w ((x1 * 4) + x2)) < 32) (some (s.1 19 (((d_w ((x1 * 4) + x2))).toNat)))
  else
  some 0
set_option maxRecDepth 100000 in
theorem D_X8_part_18 {t : Nat → Option p_C} {h : p_H} {s : d_S} {x1 : Int} {x2 : Int} {r : Int} (hF : F_X8_part_18 s x1 x2 = some r) (hH : d_V t h s) (r_x1 : d_R x1) (r_x2 : d_R x2) : p_wp p_GT p_MT 0 m_X8_part 0 (lv_args 0 [.ref 18, .int (Int32.ofInt x1), .int (Int32.ofInt x2)]) [] h (d_QP h r) := by
  unfold F_X8_part_18 at hF
  refine dw_iln rfl rfl (dw_ic rfl (dw_mul rfl (dw_iln rfl rfl (dw_add rfl (dw_w1 (dw_isn rfl rfl (dw_iln rfl p_lk_s1 (?_))))))))
  refine d_if hF (fun q hF => ?_) (fun q hF => ?_)
  · refine dw_zlt_y rfl (u := 28) rfl d_R_w q ?_
    exact dw_ic rfl (dw_rP rfl rfl (d_rl rfl) hF)
  · refine dw_zlt_n rfl (u := 28) rfl d_R_w q ?_
    refine dw_iln rfl p_lk_s1 (dw_aln rfl (d_s1 rfl rfl (by decide)) (dw_gr rfl rfl rfl hH d_c18_1 (dw_len rfl hH d_a19 rfl (z := 32) rfl (?_))))
    refine d_if hF (fun q hF => ?_) (fun q hF => ?_)
    · refine dw_ge_y rfl (u := 28) rfl d_R_w (d_rl rfl) q ?_
      exact dw_aln rfl (d_s1 rfl rfl (by decide)) (dw_gr rfl rfl rfl hH d_c18_1 (dw_iln rfl p_lk_s1 (d_gd hF (fun g1 hF => dw_ald rfl hH d_a19 rfl g1.1 g1.2 d_R_w rfl (dw_go rfl (u := 29) rfl (dw_rP rfl rfl hH.r hF))))))
    · refine dw_ge_n rfl (u := 28) rfl d_R_w (d_rl rfl) q ?_
      exact dw_ic rfl (dw_rP rfl rfl (d_rl rfl) hF)
set_option maxRecDepth 100000 in
noncomputable def F_X11_allSoBy_l2_b (t : Nat → Option p_C) (rec : (Option Nat) → Int → d_S → Option (Int × d_S)) (x1 : Option Nat) (x2 : Int) (s : d_S) : Option (Int × d_S) :=
  if x2 < (s.1 18 2) then
  d_b (F_X8_part_18 s x2 0) (fun v1 => d_b (F_X11_isBlock s v1) (fun v2 => if v2 = 0 then
  some (0, s)
  else
  d_b (F_X0_start s v1) (fun s3 => d_b (F_X8_part_18 s3 x2 1) (fun v4 => d_b (F_X8_part_18 s3 x2 2) (fun v5 => d_b2 (F_X0_meltsUnder t s3 x1 v4 v5) (fun v6 s7 => d_b (F_X8_part_18 s7 x2 3) (fun v8 => if v6 = v8 then
  rec x1 (d_w (x2 + 1)) s7
  else
  some (0, s7))))))))
  else
  some (1, s)
set_option maxRecDepth 100000 in
noncomputable def F_X11_allSoBy_l2 (t : Nat → Option p_C) : Nat → (Option Nat) → Int → d_S → Option (Int × d_S)
  | 0 => fun _ _ _ => none
  | n + 1 => F_X11_allSoBy_l2_b t (F_X11_allSoBy_l2 t n)
set_option maxRecDepth 100000 in
theorem D_X11_allSoBy_l2 {t : Nat → Option p_C} {r : Int × d_S} : ∀ (n : Nat) {x1 : Option Nat} {x2 : Int} {ls : p_Ls} {s : d_S} {h : p_H}, F_X11_allSoBy_l2 t n x1 x2 s = some r → d_V t h s → p_lk 0 ls = some (.ref 2) → d_T t x1 → p_lk 1 ls = some (d_pv x1) → d_R x2 → p_lk 2 ls = some (.int (Int32.ofInt x2)) → p_wp p_GT p_MT 4 m_X11_allSoBy 2 ls [] h (d_QC t r) := by
  intro n
  induction n with
  | zero =>
    intro x1 x2 ls s h hF hH l0 r_x1 l1 r_x2 l2
    cases (show (none : Option (Int × d_S)) = some r from hF)
  | succ n ih =>
    intro x1 x2 ls s h hF hH l0 r_x1 l1 r_x2 l2
    have hF : F_X11_allSoBy_l2_b t (F_X11_allSoBy_l2 t n) x1 x2 s = some r := hF
    unfold F_X11_allSoBy_l2_b at hF
    refine dw_iln rfl l2 (dw_aln rfl l0 (dw_gr rfl rfl rfl hH d_c2_0 (dw_gr rfl rfl rfl hH d_c3_14 (dw_gi (k := 2) rfl rfl rfl hH d_c18_2 (?_)))))
    refine d_if hF (fun q hF => ?_) (fun q hF => ?_)
    · refine dw_ge_y rfl (u := 102) rfl r_x2 hH.r q ?_
      refine dw_aln rfl l0 (dw_gr rfl rfl rfl hH d_c2_0 (dw_gr rfl rfl rfl hH d_c3_14 (dw_iln rfl l2 (dw_ic rfl (dw_vP hF rfl (d_vir (n := 3) rfl rfl rfl rfl rfl hH d_c18_0 rfl) rfl rfl rfl (dc := 0) (fun _ e => D_X8_part_18 e hH r_x2 (d_rl rfl)) (fun v1 r_v1 hF => dw_isn rfl rfl (dw_aln rfl (d_s1 l0 rfl (by decide)) (dw_iln rfl p_lk_s1 (dw_vB hF rfl (d_vir (n := 2) rfl rfl rfl rfl rfl hH d_c2_0 rfl) rfl rfl rfl (dc := 1) (fun _ e => D_X11_isBlock e hH r_v1) (fun v2 r_v2 hF => ?_))))))))))
      refine d_if hF (fun q hF => ?_) (fun q hF => ?_)
      · refine dw_zne_y rfl (u := 39) rfl (d_R_b r_v2) q ?_
        exact dw_ic rfl (dw_rC rfl rfl (Or.inl rfl) hH hF)
      · refine dw_zne_n rfl (u := 39) rfl (d_R_b r_v2) q ?_
        refine dw_aln rfl (d_s1 l0 rfl (by decide)) (dw_gr rfl rfl rfl hH d_c2_4 (dw_iln rfl p_lk_s1 (dw_vV hF rfl (d_vir (n := 2) rfl rfl rfl rfl rfl hH d_c47_0 rfl) rfl rfl rfl (dc := 2) (fun _ e => D_X0_start e hH r_v1) (fun s3 h3 hH3 hF => dw_aln rfl (d_s1 l0 rfl (by decide)) (dw_gr rfl rfl rfl hH3 d_c2_4 (dw_alno rfl (d_s1o l1 (by decide)) (dw_aln rfl (d_s1 l0 rfl (by decide)) (dw_gr rfl rfl rfl hH3 d_c2_0 (dw_gr rfl rfl rfl hH3 d_c3_14 (?_))))))))))
        refine dw_iln rfl (d_s1 l2 rfl (by decide)) (dw_ic rfl (dw_vP hF rfl (d_vir (n := 3) rfl rfl (by generalize x1 = e; cases e <;> rfl) rfl rfl hH3 d_c18_0 rfl) rfl (by generalize x1 = e; cases e <;> rfl) rfl (dc := 0) (fun _ e => D_X8_part_18 e hH3 r_x2 (d_rl rfl)) (fun v4 r_v4 hF => dw_aln rfl (d_s1 l0 rfl (by decide)) (dw_gr rfl rfl rfl hH3 d_c2_0 (dw_gr rfl rfl rfl hH3 d_c3_14 (dw_iln rfl (d_s1 l2 rfl (by decide)) (dw_ic rfl (dw_vP hF rfl (d_vir (n := 3) rfl rfl (by generalize x1 = e; cases e <;> rfl) rfl rfl hH3 d_c18_0 rfl) rfl (by generalize x1 = e; cases e <;> rfl) rfl (dc := 0) (fun _ e => D_X8_part_18 e hH3 r_x2 (d_rl rfl)) (fun v5 r_v5 hF => dw_vI hF rfl (d_vir (n := 4) rfl rfl (by generalize x1 = e; cases e <;> rfl) rfl rfl hH3 d_c47_0 rfl) rfl (by generalize x1 = e; cases e <;> rfl) rfl (dc := 3) (fun _ _ e => D_X0_meltsUnder e hH3 r_x1 r_v4 r_v5) (fun v6 s7 h7 hH7 r_v6 hF => ?_))))))))))
        refine dw_aln rfl (d_s1 l0 rfl (by decide)) (dw_gr rfl rfl rfl hH7 d_c2_0 (dw_gr rfl rfl rfl hH7 d_c3_14 (dw_iln rfl (d_s1 l2 rfl (by decide)) (dw_ic rfl (dw_vP hF rfl (d_vir (n := 3) rfl rfl rfl rfl rfl hH7 d_c18_0 rfl) rfl rfl rfl (dc := 0) (fun _ e => D_X8_part_18 e hH7 r_x2 (d_rl rfl)) (fun v8 r_v8 hF => ?_))))))
        refine d_if hF (fun q hF => ?_) (fun q hF => ?_)
        · refine dw_eq_y rfl (u := 96) rfl r_v6 r_v8 q ?_
          refine dw_ii rfl (d_s1 l2 rfl (by decide)) rfl (dw_go rfl (u := 2) rfl (?_))
          exact ih hF hH7 (d_s1 (d_s1 l0 rfl (by decide)) rfl (by decide)) r_x1 (d_s1o (d_s1o l1 (by decide)) (by decide)) d_R_w p_lk_s1
        · refine dw_eq_n rfl (u := 96) rfl r_v6 r_v8 q ?_
          exact dw_ic rfl (dw_rC rfl rfl (Or.inl rfl) hH7 hF)
    · refine dw_ge_n rfl (u := 102) rfl r_x2 hH.r q ?_
      exact dw_ic rfl (dw_rC rfl rfl (Or.inr rfl) hH hF)
set_option maxRecDepth 100000 in
noncomputable def F_X11_allSoBy (t : Nat → Option p_C) (s : d_S) (x1 : Option Nat) : Option (Int × d_S) :=
  F_X11_allSoBy_l2 t d_N x1 0 s
set_option maxRecDepth 100000 in
theorem D_X11_allSoBy {t : Nat → Option p_C} {h : p_H} {s : d_S} {x1 : Option Nat} {r : Int × d_S} (hF : F_X11_allSoBy t s x1 = some r) (hH : d_V t h s) (r_x1 : d_T t x1) : p_wp p_GT p_MT 4 m_X11_allSoBy 0 (lv_args 0 [.ref 2, d_pv x1]) [] h (d_QC t r) := by
  have a0 : p_lk 0 (lv_args 0 [.ref 2, d_pv x1]) = some (.ref 2) := by cases x1 <;> rfl
  have a1 : p_lk 1 (lv_args 0 [.ref 2, d_pv x1]) = some (d_pv x1) := by cases x1 <;> rfl
  unfold F_X11_allSoBy at hF
  refine dw_ic rfl (dw_isn rfl rfl (?_))
  exact D_X11_allSoBy_l2 _ hF hH (d_s1 a0 rfl (by decide)) r_x1 (d_s1o a1 (by decide)) (d_rl rfl) p_lk_s1
set_option maxRecDepth 100000 in
noncomputable def F_X11_whoseLaw_l4_b (t : Nat → Option p_C) (rec : Int → Int → d_S → Option (Int × d_S)) (x1 : Int) (x2 : Int) (s : d_S) : Option (Int × d_S) :=
  if x2 < (s.1 3 5) then
  d_b (F_X9_textAt_3 s x2) (fun v1 => d_b2 (F_X11_allSoBy t s v1) (fun v2 s3 => d_b (F_X11_bit v2) (fun v4 => rec (d_or x1 (d_shl v4 x2)) (d_w (x2 + 1)) s3)))
  else
  some (x1, s)
set_option maxRecDepth 100000 in
noncomputable def F_X11_whoseLaw_l4 (t : Nat → Option p_C) : Nat → Int → Int → d_S → Option (Int × d_S)
  | 0 => fun _ _ _ => none
  | n + 1 => F_X11_whoseLaw_l4_b t (F_X11_whoseLaw_l4 t n)
set_option maxRecDepth 100000 in
theorem D_X11_whoseLaw_l4 {t : Nat → Option p_C} {r : Int × d_S} : ∀ (n : Nat) {x1 : Int} {x2 : Int} {ls : p_Ls} {s : d_S} {h : p_H}, F_X11_whoseLaw_l4 t n x1 x2 s = some r → d_V t h s → p_lk 0 ls = some (.ref 2) → d_R x1 → p_lk 1 ls = some (.int (Int32.ofInt x1)) → d_R x2 → p_lk 2 ls = some (.int (Int32.ofInt x2)) → p_wp p_GT p_MT 5 m_X11_whoseLaw 4 ls [] h (d_QI t r) := by
  intro n
  induction n with
  | zero =>
    intro x1 x2 ls s h hF hH l0 r_x1 l1 r_x2 l2
    cases (show (none : Option (Int × d_S)) = some r from hF)
  | succ n ih =>
    intro x1 x2 ls s h hF hH l0 r_x1 l1 r_x2 l2
    have hF : F_X11_whoseLaw_l4_b t (F_X11_whoseLaw_l4 t n) x1 x2 s = some r := hF
    unfold F_X11_whoseLaw_l4_b at hF
    refine dw_iln rfl l2 (dw_aln rfl l0 (dw_gr rfl rfl rfl hH d_c2_0 (dw_gi (k := 5) rfl rfl rfl hH d_c3_5 (?_))))
    refine d_if hF (fun q hF => ?_) (fun q hF => ?_)
    · refine dw_ge_y rfl (u := 41) rfl r_x2 hH.r q ?_
      refine dw_iln rfl l1 (dw_aln rfl l0 (dw_aln rfl l0 (dw_gr rfl rfl rfl hH d_c2_0 (dw_iln rfl l2 (dw_vO hF rfl (d_vir (n := 2) rfl rfl rfl rfl rfl hH d_c3_0 rfl) rfl rfl rfl (dc := 0) (fun _ e => D_X9_textAt_3 e hH r_x2) (fun v1 r_v1 hF => dw_vC hF rfl (d_vir (n := 2) rfl rfl (by generalize v1 = e; cases e <;> rfl) rfl rfl hH d_c2_0 rfl) rfl (by generalize v1 = e; cases e <;> rfl) rfl (dc := 4) (fun _ _ e => D_X11_allSoBy e hH r_v1) (fun v2 s3 h3 hH3 r_v2 hF => dw_sP hF rfl rfl rfl rfl rfl (dc := 0) (fun _ e => D_X11_bit e (d_R_b r_v2)) (fun v4 r_v4 hF => dw_iln rfl l2 (dw_shl rfl (?_))))))))))
      refine dw_or rfl (dw_isn rfl rfl (dw_ii rfl (d_s1 l2 rfl (by decide)) rfl (dw_go rfl (u := 4) rfl (?_))))
      exact ih hF hH3 (d_s1 (d_s1 l0 rfl (by decide)) rfl (by decide)) d_R_t (d_s1 p_lk_s1 rfl (by decide)) d_R_w p_lk_s1
    · refine dw_ge_n rfl (u := 41) rfl r_x2 hH.r q ?_
      exact dw_iln rfl l1 (dw_rI rfl rfl r_x1 hH hF)
set_option maxRecDepth 100000 in
noncomputable def F_X11_whoseLaw (t : Nat → Option p_C) (s : d_S) : Option (Int × d_S) :=
  F_X11_whoseLaw_l4 t d_N 0 0 s
set_option maxRecDepth 100000 in
theorem D_X11_whoseLaw {t : Nat → Option p_C} {h : p_H} {s : d_S} {r : Int × d_S} (hF : F_X11_whoseLaw t s = some r) (hH : d_V t h s) : p_wp p_GT p_MT 5 m_X11_whoseLaw 0 (lv_args 0 [.ref 2]) [] h (d_QI t r) := by
  unfold F_X11_whoseLaw at hF
  refine dw_ic rfl (dw_isn rfl rfl (dw_ic rfl (dw_isn rfl rfl (?_))))
  exact D_X11_whoseLaw_l4 _ hF hH (d_s1 (d_s1 rfl rfl (by decide)) rfl (by decide)) (d_rl rfl) (d_s1 p_lk_s1 rfl (by decide)) (d_rl rfl) p_lk_s1
set_option maxRecDepth 100000 in
noncomputable def F_X10_become_23_6 (s : d_S) : Option (d_S) :=
  d_l (d_si s 23 0 (s.1 6 0)) (fun s1 => d_l (d_si s1 23 1 (s1.1 6 1)) (fun s2 => d_l (d_si s2 23 2 (s2.1 6 2)) (fun s3 => d_l (d_si s3 23 3 (s3.1 6 3)) (fun s4 => d_l (d_si s4 23 4 (s4.1 6 4)) (fun s5 => d_l (d_si s5 23 5 (s5.1 6 5)) (fun s6 => d_l (d_si s6 23 6 (s6.1 6 6)) (fun s7 => d_l (d_cp s7 7 0 24 0 64) (fun s8 => some s8))))))))
set_option maxRecDepth 100000 in
theorem D_X10_become_23_6 {t : Nat → Option p_C} {h : p_H} {s : d_S} {r : d_S} (hF : F_X10_become_23_6 s = some r) (hH : d_V t h s) : p_wp p_GT p_MT 0 m_X10_become 0 (lv_args 0 [.ref 23, .ref 6]) [] h (d_QV t r) := by
  unfold F_X10_become_23_6 at hF
  refine dw_aln rfl rfl (dw_aln rfl rfl (dw_gi (k := 0) rfl rfl rfl hH d_c6_0 (dw_pi (k := 0) rfl rfl rfl rfl hH d_c23_0 hH.r (by decide) hF (fun s1 h1 hH1 hF => dw_aln rfl rfl (dw_aln rfl rfl (dw_gi (k := 1) rfl rfl rfl hH1 d_c6_1 (dw_pi (k := 1) rfl rfl rfl rfl hH1 d_c23_1 hH1.r (by decide) hF (fun s2 h2 hH2 hF => dw_aln rfl rfl (dw_aln rfl rfl (?_))))))))))
  refine dw_gi (k := 2) rfl rfl rfl hH2 d_c6_2 (dw_pi (k := 2) rfl rfl rfl rfl hH2 d_c23_2 hH2.r (by decide) hF (fun s3 h3 hH3 hF => dw_aln rfl rfl (dw_aln rfl rfl (dw_gi (k := 3) rfl rfl rfl hH3 d_c6_3 (dw_pi (k := 3) rfl rfl rfl rfl hH3 d_c23_3 hH3.r (by decide) hF (fun s4 h4 hH4 hF => dw_aln rfl rfl (dw_aln rfl rfl (dw_gi (k := 4) rfl rfl rfl hH4 d_c6_4 (dw_pi (k := 4) rfl rfl rfl rfl hH4 d_c23_4 hH4.r (by decide) hF (fun s5 h5 hH5 hF => ?_))))))))))
  refine dw_aln rfl rfl (dw_aln rfl rfl (dw_gi (k := 5) rfl rfl rfl hH5 d_c6_5 (dw_pi (k := 5) rfl rfl rfl rfl hH5 d_c23_5 hH5.r (by decide) hF (fun s6 h6 hH6 hF => dw_aln rfl rfl (dw_aln rfl rfl (dw_gi (k := 6) rfl rfl rfl hH6 d_c6_6 (dw_pi (k := 6) rfl rfl rfl rfl hH6 d_c23_6 hH6.r (by decide) hF (fun s7 h7 hH7 hF => dw_aln rfl rfl (dw_gr rfl rfl rfl hH7 d_c6_7 (?_))))))))))
  exact dw_ic rfl (dw_aln rfl rfl (dw_gr rfl rfl rfl hH7 d_c23_7 (dw_ic rfl (dw_aln rfl rfl (dw_gr rfl rfl rfl hH7 d_c23_7 (dw_len rfl hH7 d_a24 rfl (z := 64) rfl (dw_cpy rfl rfl hH7 d_a7 d_a24 (d_rl rfl) (d_rl rfl) (d_rl rfl) (by decide) rfl hF (fun s8 h8 hH8 hF => dw_rV rfl rfl hH8 hF))))))))
set_option maxRecDepth 100000 in
noncomputable def F_X6_become_25_8 (s : d_S) : Option (d_S) :=
  d_l (d_si s 25 1 (s.1 8 1)) (fun s1 => d_l (d_si s1 25 2 (s1.1 8 2)) (fun s2 => d_l (d_cp s2 9 0 26 0 2130) (fun s3 => some s3)))
set_option maxRecDepth 100000 in
theorem D_X6_become_25_8 {t : Nat → Option p_C} {h : p_H} {s : d_S} {r : d_S} (hF : F_X6_become_25_8 s = some r) (hH : d_V t h s) : p_wp p_GT p_MT 0 m_X6_become 0 (lv_args 0 [.ref 25, .ref 8]) [] h (d_QV t r) := by
  unfold F_X6_become_25_8 at hF
  refine dw_aln rfl rfl (dw_aln rfl rfl (dw_gi (k := 1) rfl rfl rfl hH d_c8_1 (dw_pi (k := 1) rfl rfl rfl rfl hH d_c25_1 hH.r (by decide) hF (fun s1 h1 hH1 hF => dw_aln rfl rfl (dw_aln rfl rfl (dw_gi (k := 2) rfl rfl rfl hH1 d_c8_2 (dw_pi (k := 2) rfl rfl rfl rfl hH1 d_c25_2 hH1.r (by decide) hF (fun s2 h2 hH2 hF => dw_aln rfl rfl (dw_gr rfl rfl rfl hH2 d_c8_0 (?_))))))))))
  exact dw_ic rfl (dw_aln rfl rfl (dw_gr rfl rfl rfl hH2 d_c25_0 (dw_ic rfl (dw_aln rfl rfl (dw_gr rfl rfl rfl hH2 d_c25_0 (dw_len rfl hH2 d_a26 rfl (z := 2130) rfl (dw_cpy rfl rfl hH2 d_a9 d_a26 (d_rl rfl) (d_rl rfl) (d_rl rfl) (by decide) rfl hF (fun s3 h3 hH3 hF => dw_rV rfl rfl hH3 hF))))))))
set_option maxRecDepth 100000 in
noncomputable def F_X8_become_27_10 (s : d_S) : Option (d_S) :=
  d_l (d_si s 27 2 (s.1 10 2)) (fun s1 => d_l (d_cp s1 11 0 28 0 32) (fun s2 => some s2))
set_option maxRecDepth 100000 in
theorem D_X8_become_27_10 {t : Nat → Option p_C} {h : p_H} {s : d_S} {r : d_S} (hF : F_X8_become_27_10 s = some r) (hH : d_V t h s) : p_wp p_GT p_MT 0 m_X8_become 0 (lv_args 0 [.ref 27, .ref 10]) [] h (d_QV t r) := by
  unfold F_X8_become_27_10 at hF
  refine dw_aln rfl rfl (dw_aln rfl rfl (dw_gi (k := 2) rfl rfl rfl hH d_c10_2 (dw_pi (k := 2) rfl rfl rfl rfl hH d_c27_2 hH.r (by decide) hF (fun s1 h1 hH1 hF => dw_aln rfl rfl (dw_gr rfl rfl rfl hH1 d_c10_1 (dw_ic rfl (dw_aln rfl rfl (dw_gr rfl rfl rfl hH1 d_c27_1 (dw_ic rfl (?_))))))))))
  exact dw_aln rfl rfl (dw_gr rfl rfl rfl hH1 d_c27_1 (dw_len rfl hH1 d_a28 rfl (z := 32) rfl (dw_cpy rfl rfl hH1 d_a11 d_a28 (d_rl rfl) (d_rl rfl) (d_rl rfl) (by decide) rfl hF (fun s2 h2 hH2 hF => dw_rV rfl rfl hH2 hF))))
set_option maxRecDepth 100000 in
noncomputable def F_X8_become_29_12 (s : d_S) : Option (d_S) :=
  d_l (d_si s 29 2 (s.1 12 2)) (fun s1 => d_l (d_cp s1 13 0 30 0 32) (fun s2 => some s2))
set_option maxRecDepth 100000 in
theorem D_X8_become_29_12 {t : Nat → Option p_C} {h : p_H} {s : d_S} {r : d_S} (hF : F_X8_become_29_12 s = some r) (hH : d_V t h s) : p_wp p_GT p_MT 0 m_X8_become 0 (lv_args 0 [.ref 29, .ref 12]) [] h (d_QV t r) := by
  unfold F_X8_become_29_12 at hF
  refine dw_aln rfl rfl (dw_aln rfl rfl (dw_gi (k := 2) rfl rfl rfl hH d_c12_2 (dw_pi (k := 2) rfl rfl rfl rfl hH d_c29_2 hH.r (by decide) hF (fun s1 h1 hH1 hF => dw_aln rfl rfl (dw_gr rfl rfl rfl hH1 d_c12_1 (dw_ic rfl (dw_aln rfl rfl (dw_gr rfl rfl rfl hH1 d_c29_1 (dw_ic rfl (?_))))))))))
  exact dw_aln rfl rfl (dw_gr rfl rfl rfl hH1 d_c29_1 (dw_len rfl hH1 d_a30 rfl (z := 32) rfl (dw_cpy rfl rfl hH1 d_a13 d_a30 (d_rl rfl) (d_rl rfl) (d_rl rfl) (by decide) rfl hF (fun s2 h2 hH2 hF => dw_rV rfl rfl hH2 hF))))
set_option maxRecDepth 100000 in
noncomputable def F_X8_become_31_14 (s : d_S) : Option (d_S) :=
  d_l (d_si s 31 2 (s.1 14 2)) (fun s1 => d_l (d_cp s1 15 0 32 0 32) (fun s2 => some s2))
set_option maxRecDepth 100000 in
theorem D_X8_become_31_14 {t : Nat → Option p_C} {h : p_H} {s : d_S} {r : d_S} (hF : F_X8_become_31_14 s = some r) (hH : d_V t h s) : p_wp p_GT p_MT 0 m_X8_become 0 (lv_args 0 [.ref 31, .ref 14]) [] h (d_QV t r) := by
  unfold F_X8_become_31_14 at hF
  refine dw_aln rfl rfl (dw_aln rfl rfl (dw_gi (k := 2) rfl rfl rfl hH d_c14_2 (dw_pi (k := 2) rfl rfl rfl rfl hH d_c31_2 hH.r (by decide) hF (fun s1 h1 hH1 hF => dw_aln rfl rfl (dw_gr rfl rfl rfl hH1 d_c14_1 (dw_ic rfl (dw_aln rfl rfl (dw_gr rfl rfl rfl hH1 d_c31_1 (dw_ic rfl (?_))))))))))
  exact dw_aln rfl rfl (dw_gr rfl rfl rfl hH1 d_c31_1 (dw_len rfl hH1 d_a32 rfl (z := 32) rfl (dw_cpy rfl rfl hH1 d_a15 d_a32 (d_rl rfl) (d_rl rfl) (d_rl rfl) (by decide) rfl hF (fun s2 h2 hH2 hF => dw_rV rfl rfl hH2 hF))))
set_option maxRecDepth 100000 in
noncomputable def F_X8_become_33_16 (s : d_S) : Option (d_S) :=
  d_l (d_si s 33 2 (s.1 16 2)) (fun s1 => d_l (d_cp s1 17 0 34 0 32) (fun s2 => some s2))
set_option maxRecDepth 100000 in
theorem D_X8_become_33_16 {t : Nat → Option p_C} {h : p_H} {s : d_S} {r : d_S} (hF : F_X8_become_33_16 s = some r) (hH : d_V t h s) : p_wp p_GT p_MT 0 m_X8_become 0 (lv_args 0 [.ref 33, .ref 16]) [] h (d_QV t r) := by
  unfold F_X8_become_33_16 at hF
  refine dw_aln rfl rfl (dw_aln rfl rfl (dw_gi (k := 2) rfl rfl rfl hH d_c16_2 (dw_pi (k := 2) rfl rfl rfl rfl hH d_c33_2 hH.r (by decide) hF (fun s1 h1 hH1 hF => dw_aln rfl rfl (dw_gr rfl rfl rfl hH1 d_c16_1 (dw_ic rfl (dw_aln rfl rfl (dw_gr rfl rfl rfl hH1 d_c33_1 (dw_ic rfl (?_))))))))))
  exact dw_aln rfl rfl (dw_gr rfl rfl rfl hH1 d_c33_1 (dw_len rfl hH1 d_a34 rfl (z := 32) rfl (dw_cpy rfl rfl hH1 d_a17 d_a34 (d_rl rfl) (d_rl rfl) (d_rl rfl) (by decide) rfl hF (fun s2 h2 hH2 hF => dw_rV rfl rfl hH2 hF))))
set_option maxRecDepth 100000 in
noncomputable def F_X8_become_35_18 (s : d_S) : Option (d_S) :=
  d_l (d_si s 35 2 (s.1 18 2)) (fun s1 => d_l (d_cp s1 19 0 36 0 32) (fun s2 => some s2))
set_option maxRecDepth 100000 in
theorem D_X8_become_35_18 {t : Nat → Option p_C} {h : p_H} {s : d_S} {r : d_S} (hF : F_X8_become_35_18 s = some r) (hH : d_V t h s) : p_wp p_GT p_MT 0 m_X8_become 0 (lv_args 0 [.ref 35, .ref 18]) [] h (d_QV t r) := by
  unfold F_X8_become_35_18 at hF
  refine dw_aln rfl rfl (dw_aln rfl rfl (dw_gi (k := 2) rfl rfl rfl hH d_c18_2 (dw_pi (k := 2) rfl rfl rfl rfl hH d_c35_2 hH.r (by decide) hF (fun s1 h1 hH1 hF => dw_aln rfl rfl (dw_gr rfl rfl rfl hH1 d_c18_1 (dw_ic rfl (dw_aln rfl rfl (dw_gr rfl rfl rfl hH1 d_c35_1 (dw_ic rfl (?_))))))))))
  exact dw_aln rfl rfl (dw_gr rfl rfl rfl hH1 d_c35_1 (dw_len rfl hH1 d_a36 rfl (z := 32) rfl (dw_cpy rfl rfl hH1 d_a19 d_a36 (d_rl rfl) (d_rl rfl) (d_rl rfl) (by decide) rfl hF (fun s2 h2 hH2 hF => dw_rV rfl rfl hH2 hF))))

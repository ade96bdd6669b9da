set_option maxRecDepth 100000 in
noncomputable def F_X0_run_j48 (t : Nat → Option p_C) (k2 : Int → Int → d_S → Option (d_S)) (x1 : Int) (x2 : Int) (s : d_S) : Option (d_S) :=
  d_l (d_si s 47 6 (d_w ((s.1 47 6) + 1))) (fun s4 => d_l (d_si s4 47 7 (d_rem (s4.1 47 5) 10)) (fun s5 => d_b (F_X10_behind (s5.1 47 5)) (fun v6 => d_l (d_si s5 47 5 v6) (fun s7 => if (s7.1 47 10) = 0 then
  d_b2 (F_X0_strawFrom t s7 (s7.1 47 6) (s7.1 47 7) (s7.1 47 8) (s7.1 47 9)) (fun v8 s9 => d_l (d_si s9 47 8 v8) (fun s10 => k2 x1 (d_w (x2 + 1)) s10))
  else
  k2 x1 (d_w (x2 + 1)) s7))))
set_option maxRecDepth 100000 in
theorem D_X0_run_j48 {t : Nat → Option p_C} {h : p_H} {s : d_S} {k2 : Int → Int → d_S → Option (d_S)} {x1 : Int} {x2 : Int} {r : d_S} {ls : p_Ls} (hF : F_X0_run_j48 t k2 x1 x2 s = some r) (hH : d_V t h s) (l0 : p_lk 0 ls = some (.ref 47)) (r_x1 : d_R x1) (l1 : p_lk 1 ls = some (.int (Int32.ofInt x1))) (r_x2 : d_R x2) (l2 : p_lk 2 ls = some (.int (Int32.ofInt x2))) (hk2 : ∀ {x1 : Int} {x2 : Int} {ls : p_Ls} {s : d_S} {h : p_H}, k2 x1 x2 s = some r → d_V t h s → p_lk 0 ls = some (.ref 47) → d_R x1 → p_lk 1 ls = some (.int (Int32.ofInt x1)) → d_R x2 → p_lk 2 ls = some (.int (Int32.ofInt x2)) → p_wp p_GT p_MT 4 m_X0_run 2 ls [] h (d_QV t r)) : p_wp p_GT p_MT 4 m_X0_run 48 ls [] h (d_QV t r) := by
  unfold F_X0_run_j48 at hF
  refine dw_aln rfl l0 (dw_dupr rfl (dw_gi (k := 6) rfl rfl rfl hH d_c47_6 (dw_ic rfl (dw_add rfl (dw_w1 (dw_pi (k := 6) rfl rfl rfl rfl hH d_c47_6 d_R_w (by decide) hF (fun s4 h4 hH4 hF => dw_aln rfl l0 (dw_aln rfl l0 (dw_gi (k := 5) rfl rfl rfl hH4 d_c47_5 (?_))))))))))
  refine dw_bp rfl rfl (dw_rem rfl (d_rl rfl) (by decide) (dw_pi (k := 7) rfl rfl rfl rfl hH4 d_c47_7 d_R_t (by decide) hF (fun s5 h5 hH5 hF => dw_aln rfl l0 (dw_aln rfl l0 (dw_gi (k := 5) rfl rfl rfl hH5 d_c47_5 (dw_sP hF rfl rfl rfl rfl rfl (dc := 0) (fun _ e => D_X10_behind e hH5.r) (fun v6 r_v6 hF => dw_pi (k := 5) rfl rfl rfl rfl hH5 d_c47_5 r_v6 (by decide) hF (fun s7 h7 hH7 hF => dw_aln rfl l0 (dw_gi (k := 10) rfl rfl rfl hH7 d_c47_10 (?_))))))))))
  refine d_if hF (fun q hF => ?_) (fun q hF => ?_)
  · refine dw_zne_y rfl (u := 111) rfl hH7.r q ?_
    refine dw_aln rfl l0 (dw_aln rfl l0 (dw_aln rfl l0 (dw_gi (k := 6) rfl rfl rfl hH7 d_c47_6 (dw_aln rfl l0 (dw_gi (k := 7) rfl rfl rfl hH7 d_c47_7 (dw_aln rfl l0 (dw_gi (k := 8) rfl rfl rfl hH7 d_c47_8 (dw_aln rfl l0 (dw_gi (k := 9) rfl rfl rfl hH7 d_c47_9 (?_))))))))))
    refine dw_vI hF rfl (d_vir (n := 5) rfl rfl rfl rfl rfl hH7 d_c47_0 rfl) rfl rfl rfl (dc := 3) (fun _ _ e => D_X0_strawFrom e hH7 hH7.r hH7.r hH7.r hH7.r) (fun v8 s9 h9 hH9 r_v8 hF => dw_pi (k := 8) rfl rfl rfl rfl hH9 d_c47_8 r_v8 (by decide) hF (fun s10 h10 hH10 hF => dw_ii rfl l2 rfl (dw_go rfl (u := 2) rfl (?_))))
    exact hk2 hF hH10 (d_s1 l0 rfl (by decide)) r_x1 (d_s1 l1 rfl (by decide)) d_R_w p_lk_s1
  · refine dw_zne_n rfl (u := 111) rfl hH7.r q ?_
    refine dw_ii rfl l2 rfl (dw_go rfl (u := 2) rfl (?_))
    exact hk2 hF hH7 (d_s1 l0 rfl (by decide)) r_x1 (d_s1 l1 rfl (by decide)) d_R_w p_lk_s1
set_option maxRecDepth 100000 in
noncomputable def F_X0_run_l2_b (t : Nat → Option p_C) (rec : Int → Int → d_S → Option (d_S)) (x1 : Int) (x2 : Int) (s : d_S) : Option (d_S) :=
  if x2 < x1 then
  if (s.1 47 6) < 999 then
  if (s.1 47 10) = 0 then
  d_b2 (F_X0_meltedFrom t s (s.1 47 6) (s.1 47 7) (s.1 47 8) (s.1 47 9)) (fun v1 s2 => d_l (d_si s2 47 9 v1) (fun s3 => F_X0_run_j48 t rec x1 x2 s3))
  else
  F_X0_run_j48 t rec x1 x2 s
  else
  some s
  else
  some s
set_option maxRecDepth 100000 in
noncomputable def F_X0_run_l2 (t : Nat → Option p_C) : Nat → Int → Int → d_S → Option (d_S)
  | 0 => fun _ _ _ => none
  | n + 1 => F_X0_run_l2_b t (F_X0_run_l2 t n)
set_option maxRecDepth 100000 in
theorem D_X0_run_l2 {t : Nat → Option p_C} {r : d_S} : ∀ (n : Nat) {x1 : Int} {x2 : Int} {ls : p_Ls} {s : d_S} {h : p_H}, F_X0_run_l2 t n x1 x2 s = some r → d_V t h s → p_lk 0 ls = some (.ref 47) → d_R x1 → p_lk 1 ls = some (.int (Int32.ofInt x1)) → d_R x2 → p_lk 2 ls = some (.int (Int32.ofInt x2)) → p_wp p_GT p_MT 4 m_X0_run 2 ls [] h (d_QV t r) := by
  intro n
  induction n with
  | zero =>
    intro x1 x2 ls s h hF hH l0 r_x1 l1 r_x2 l2
    cases (show (none : Option (d_S)) = some r from hF)
  | succ n ih =>
    intro x1 x2 ls s h hF hH l0 r_x1 l1 r_x2 l2
    have hF : F_X0_run_l2_b t (F_X0_run_l2 t n) x1 x2 s = some r := hF
    unfold F_X0_run_l2_b at hF
    refine dw_iln rfl l2 (dw_iln rfl l1 (?_))
    refine d_if hF (fun q hF => ?_) (fun q hF => ?_)
    · refine dw_ge_y rfl (u := 117) rfl r_x2 r_x1 q ?_
      refine dw_aln rfl l0 (dw_gi (k := 6) rfl rfl rfl hH d_c47_6 (dw_sp rfl rfl (?_)))
      refine d_if hF (fun q hF => ?_) (fun q hF => ?_)
      · refine dw_ge_y rfl (u := 117) rfl hH.r (d_rl rfl) q ?_
        refine dw_aln rfl l0 (dw_gi (k := 10) rfl rfl rfl hH d_c47_10 (?_))
        refine d_if hF (fun q hF => ?_) (fun q hF => ?_)
        · refine dw_zne_y rfl (u := 48) rfl hH.r q ?_
          refine dw_aln rfl l0 (dw_aln rfl l0 (dw_aln rfl l0 (dw_gi (k := 6) rfl rfl rfl hH d_c47_6 (dw_aln rfl l0 (dw_gi (k := 7) rfl rfl rfl hH d_c47_7 (dw_aln rfl l0 (dw_gi (k := 8) rfl rfl rfl hH d_c47_8 (dw_aln rfl l0 (dw_gi (k := 9) rfl rfl rfl hH d_c47_9 (?_))))))))))
          refine dw_vI hF rfl (d_vir (n := 5) rfl rfl rfl rfl rfl hH d_c47_0 rfl) rfl rfl rfl (dc := 3) (fun _ _ e => D_X0_meltedFrom e hH hH.r hH.r hH.r hH.r) (fun v1 s2 h2 hH2 r_v1 hF => dw_pi (k := 9) rfl rfl rfl rfl hH2 d_c47_9 r_v1 (by decide) hF (fun s3 h3 hH3 hF => ?_))
          exact D_X0_run_j48 hF hH3 l0 r_x1 l1 r_x2 l2 (fun {x1} {x2} {ls} {s} {h} hF hH l0 r_x1 l1 r_x2 l2 => ih hF hH l0 r_x1 l1 r_x2 l2)
        · refine dw_zne_n rfl (u := 48) rfl hH.r q ?_
          exact D_X0_run_j48 hF hH l0 r_x1 l1 r_x2 l2 (fun {x1} {x2} {ls} {s} {h} hF hH l0 r_x1 l1 r_x2 l2 => ih hF hH l0 r_x1 l1 r_x2 l2)
      · refine dw_ge_n rfl (u := 117) rfl hH.r (d_rl rfl) q ?_
        exact dw_rV rfl rfl hH hF
    · refine dw_ge_n rfl (u := 117) rfl r_x2 r_x1 q ?_
      exact dw_rV rfl rfl hH hF
set_option maxRecDepth 100000 in
noncomputable def F_X0_run (t : Nat → Option p_C) (s : d_S) (x1 : Int) : Option (d_S) :=
  F_X0_run_l2 t d_N x1 0 s
set_option maxRecDepth 100000 in
theorem D_X0_run {t : Nat → Option p_C} {h : p_H} {s : d_S} {x1 : Int} {r : d_S} (hF : F_X0_run t s x1 = some r) (hH : d_V t h s) (r_x1 : d_R x1) : p_wp p_GT p_MT 4 m_X0_run 0 (lv_args 0 [.ref 47, .int (Int32.ofInt x1)]) [] h (d_QV t r) := by
  unfold F_X0_run at hF
  refine dw_ic rfl (dw_isn rfl rfl (?_))
  exact D_X0_run_l2 _ hF hH (d_s1 rfl rfl (by decide)) r_x1 (d_s1 rfl rfl (by decide)) (d_rl rfl) p_lk_s1
set_option maxRecDepth 100000 in
noncomputable def F_X10_draw_6 (s : d_S) : Option (Int × d_S) :=
  d_b (F_X10_behind (s.1 6 6)) (fun v1 => d_l (d_si s 6 6 v1) (fun s2 => some ((s.1 6 6), s2)))
set_option maxRecDepth 100000 in
theorem D_X10_draw_6 {t : Nat → Option p_C} {h : p_H} {s : d_S} {r : Int × d_S} (hF : F_X10_draw_6 s = some r) (hH : d_V t h s) : p_wp p_GT p_MT 1 m_X10_draw 0 (lv_args 0 [.ref 6]) [] h (d_QI t r) := by
  unfold F_X10_draw_6 at hF
  exact dw_aln rfl rfl (dw_gi (k := 6) rfl rfl rfl hH d_c6_6 (dw_isn rfl rfl (dw_aln rfl (d_s1 rfl rfl (by decide)) (dw_aln rfl (d_s1 rfl rfl (by decide)) (dw_gi (k := 6) rfl rfl rfl hH d_c6_6 (dw_sP hF rfl rfl rfl rfl rfl (dc := 0) (fun _ e => D_X10_behind e hH.r) (fun v1 r_v1 hF => dw_pi (k := 6) rfl rfl rfl rfl hH d_c6_6 r_v1 (by decide) hF (fun s2 h2 hH2 hF => dw_iln rfl p_lk_s1 (dw_rI rfl rfl hH.r hH2 hF)))))))))
set_option maxRecDepth 100000 in
noncomputable def F_X11_passDay_l10_b (t : Nat → Option p_C) (k69 : d_S → Option (d_S)) (rec : Int → d_S → Option (d_S)) (x2 : Int) (s : d_S) : Option (d_S) :=
  if x2 < (s.1 37 5) then
  d_b (F_X0_start s x2) (fun s1 => d_b (F_X0_run t s1 1) (fun s2 => d_b (F_X10_put_6 s2 x2 (s2.1 47 8) (s2.1 47 9) (s2.1 47 10)) (fun s3 => rec (d_w (x2 + 1)) s3)))
  else
  k69 s
set_option maxRecDepth 100000 in
noncomputable def F_X11_passDay_l10 (t : Nat → Option p_C) (k69 : d_S → Option (d_S)) : Nat → Int → d_S → Option (d_S)
  | 0 => fun _ _ => none
  | n + 1 => F_X11_passDay_l10_b t k69 (F_X11_passDay_l10 t k69 n)
set_option maxRecDepth 100000 in
theorem D_X11_passDay_l10 {t : Nat → Option p_C} {k69 : d_S → Option (d_S)} {r : d_S} (hk69 : ∀ {ls : p_Ls} {s : d_S} {h : p_H}, k69 s = some r → d_V t h s → p_lk 1 ls = some (.ref 6) → p_wp p_GT p_MT 5 m_X11_passDay 69 ls [] h (d_QV t r)) : ∀ (n : Nat) {x2 : Int} {ls : p_Ls} {s : d_S} {h : p_H}, F_X11_passDay_l10 t k69 n x2 s = some r → d_V t h s → p_lk 0 ls = some (.ref 2) → p_lk 1 ls = some (.ref 6) → d_R x2 → p_lk 2 ls = some (.int (Int32.ofInt x2)) → p_wp p_GT p_MT 5 m_X11_passDay 10 ls [] h (d_QV t r) := by
  intro n
  induction n with
  | zero =>
    intro x2 ls s h hF hH l0 l1 r_x2 l2
    cases (show (none : Option (d_S)) = some r from hF)
  | succ n ih =>
    intro x2 ls s h hF hH l0 l1 r_x2 l2
    have hF : F_X11_passDay_l10_b t k69 (F_X11_passDay_l10 t k69 n) x2 s = some r := hF
    unfold F_X11_passDay_l10_b at hF
    refine dw_iln rfl l2 (dw_aln rfl l0 (dw_gr rfl rfl rfl hH d_c2_2 (dw_gi (k := 5) rfl rfl rfl hH d_c37_5 (?_))))
    refine d_if hF (fun q hF => ?_) (fun q hF => ?_)
    · refine dw_ge_y rfl (u := 69) rfl r_x2 hH.r q ?_
      refine dw_aln rfl l0 (dw_gr rfl rfl rfl hH d_c2_4 (dw_iln rfl l2 (dw_vV hF rfl (d_vir (n := 2) rfl rfl rfl rfl rfl hH d_c47_0 rfl) rfl rfl rfl (dc := 2) (fun _ e => D_X0_start e hH r_x2) (fun s1 h1 hH1 hF => dw_aln rfl l0 (dw_gr rfl rfl rfl hH1 d_c2_4 (dw_ic rfl (dw_vV hF rfl (d_vir (n := 2) rfl rfl rfl rfl rfl hH1 d_c47_0 rfl) rfl rfl rfl (dc := 4) (fun _ e => D_X0_run e hH1 (d_rl rfl)) (fun s2 h2 hH2 hF => dw_aln rfl l1 (dw_iln rfl l2 (?_))))))))))
      refine dw_aln rfl l0 (dw_gr rfl rfl rfl hH2 d_c2_4 (dw_gi (k := 8) rfl rfl rfl hH2 d_c47_8 (dw_aln rfl l0 (dw_gr rfl rfl rfl hH2 d_c2_4 (dw_gi (k := 9) rfl rfl rfl hH2 d_c47_9 (dw_aln rfl l0 (dw_gr rfl rfl rfl hH2 d_c2_4 (dw_gi (k := 10) rfl rfl rfl hH2 d_c47_10 (dw_vV hF rfl (d_vir (n := 5) rfl rfl rfl rfl rfl hH2 d_c6_0 rfl) rfl rfl rfl (dc := 1) (fun _ e => D_X10_put_6 e hH2 r_x2 hH2.r hH2.r hH2.r) (fun s3 h3 hH3 hF => ?_))))))))))
      refine dw_ii rfl l2 rfl (dw_go rfl (u := 10) rfl (?_))
      exact ih hF hH3 (d_s1 l0 rfl (by decide)) (d_s1 l1 rfl (by decide)) d_R_w p_lk_s1
    · refine dw_ge_n rfl (u := 69) rfl r_x2 hH.r q ?_
      exact hk69 hF hH l1
set_option maxRecDepth 100000 in
noncomputable def F_X11_passDay (t : Nat → Option p_C) (s : d_S) : Option (d_S) :=
  F_X11_passDay_l10 t (fun s_u4 =>
  d_l (d_si s_u4 6 3 (d_w ((s_u4.1 6 3) + 1))) (fun s5 => d_b2 (F_X10_draw_6 s5) (fun v6 s7 => d_l (d_si s7 6 4 (d_rem v6 10)) (fun s8 => some s8)))) d_N 0 s
set_option maxRecDepth 100000 in
theorem D_X11_passDay {t : Nat → Option p_C} {h : p_H} {s : d_S} {r : d_S} (hF : F_X11_passDay t s = some r) (hH : d_V t h s) : p_wp p_GT p_MT 5 m_X11_passDay 0 (lv_args 0 [.ref 2]) [] h (d_QV t r) := by
  unfold F_X11_passDay at hF
  refine dw_aln rfl rfl (dw_gr rfl rfl rfl hH d_c2_0 (dw_gr rfl rfl rfl hH d_c3_8 (dw_asn rfl rfl (dw_ic rfl (dw_isn rfl rfl (?_))))))
  refine D_X11_passDay_l10 (fun {ls_u4} {s_u4} {h_u4} hF hH_u4 l1_u4 => ?_) _ hF hH (d_s1 (d_s1 rfl rfl (by decide)) rfl (by decide)) (d_s1 p_lk_s1 rfl (by decide)) (d_rl rfl) p_lk_s1
  · refine dw_aln rfl l1_u4 (dw_dupr rfl (dw_gi (k := 3) rfl rfl rfl hH_u4 d_c6_3 (dw_ic rfl (dw_add rfl (dw_w1 (dw_pi (k := 3) rfl rfl rfl rfl hH_u4 d_c6_3 d_R_w (by decide) hF (fun s5 h5 hH5 hF => dw_aln rfl l1_u4 (dw_aln rfl l1_u4 (dw_vI hF rfl (d_vir (n := 1) rfl rfl rfl rfl rfl hH5 d_c6_0 rfl) rfl rfl rfl (dc := 1) (fun _ _ e => D_X10_draw_6 e hH5) (fun v6 s7 h7 hH7 r_v6 hF => ?_))))))))))
    exact dw_bp rfl rfl (dw_rem rfl (d_rl rfl) (by decide) (dw_pi (k := 4) rfl rfl rfl rfl hH7 d_c6_4 d_R_t (by decide) hF (fun s8 h8 hH8 hF => dw_rV rfl rfl hH8 hF)))
set_option maxRecDepth 100000 in
noncomputable def F_X11_passDays_l2_b (t : Nat → Option p_C) (rec : Int → Int → d_S → Option (Int × d_S)) (x1 : Int) (x2 : Int) (s : d_S) : Option (Int × d_S) :=
  if x2 < x1 then
  if (s.1 6 3) < 999 then
  d_b (F_X6_keep_8_6 s) (fun s1 => d_b (F_X11_passDay t s1) (fun s2 => rec x1 (d_w (x2 + 1)) s2))
  else
  some (0, s)
  else
  some (1, s)
set_option maxRecDepth 100000 in
noncomputable def F_X11_passDays_l2 (t : Nat → Option p_C) : Nat → Int → Int → d_S → Option (Int × d_S)
  | 0 => fun _ _ _ => none
  | n + 1 => F_X11_passDays_l2_b t (F_X11_passDays_l2 t n)
set_option maxRecDepth 100000 in
theorem D_X11_passDays_l2 {t : Nat → Option p_C} {r : Int × d_S} : ∀ (n : Nat) {x1 : Int} {x2 : Int} {ls : p_Ls} {s : d_S} {h : p_H}, F_X11_passDays_l2 t n x1 x2 s = some r → d_V t h s → p_lk 0 ls = some (.ref 2) → d_R x1 → p_lk 1 ls = some (.int (Int32.ofInt x1)) → d_R x2 → p_lk 2 ls = some (.int (Int32.ofInt x2)) → p_wp p_GT p_MT 6 m_X11_passDays 2 ls [] h (d_QC t r) := by
  intro n
  induction n with
  | zero =>
    intro x1 x2 ls s h hF hH l0 r_x1 l1 r_x2 l2
    cases (show (none : Option (Int × d_S)) = some r from hF)
  | succ n ih =>
    intro x1 x2 ls s h hF hH l0 r_x1 l1 r_x2 l2
    have hF : F_X11_passDays_l2_b t (F_X11_passDays_l2 t n) x1 x2 s = some r := hF
    unfold F_X11_passDays_l2_b at hF
    refine dw_iln rfl l2 (dw_iln rfl l1 (?_))
    refine d_if hF (fun q hF => ?_) (fun q hF => ?_)
    · refine dw_ge_y rfl (u := 52) rfl r_x2 r_x1 q ?_
      refine dw_aln rfl l0 (dw_gr rfl rfl rfl hH d_c2_0 (dw_gr rfl rfl rfl hH d_c3_8 (dw_gi (k := 3) rfl rfl rfl hH d_c6_3 (dw_sp rfl rfl (?_)))))
      refine d_if hF (fun q hF => ?_) (fun q hF => ?_)
      · refine dw_lt_y rfl (u := 25) rfl hH.r (d_rl rfl) q ?_
        refine dw_aln rfl l0 (dw_gr rfl rfl rfl hH d_c2_0 (dw_gr rfl rfl rfl hH d_c3_9 (dw_aln rfl l0 (dw_gr rfl rfl rfl hH d_c2_0 (dw_gr rfl rfl rfl hH d_c3_8 (dw_vV hF rfl (d_vir (n := 2) rfl rfl rfl rfl rfl hH d_c8_0 rfl) rfl rfl rfl (dc := 1) (fun _ e => D_X6_keep_8_6 e hH) (fun s1 h1 hH1 hF => dw_aln rfl l0 (dw_vV hF rfl (d_vir (n := 1) rfl rfl rfl rfl rfl hH1 d_c2_0 rfl) rfl rfl rfl (dc := 5) (fun _ e => D_X11_passDay e hH1) (fun s2 h2 hH2 hF => dw_ii rfl l2 rfl (?_))))))))))
        refine dw_go rfl (u := 2) rfl (?_)
        exact ih hF hH2 (d_s1 l0 rfl (by decide)) r_x1 (d_s1 l1 rfl (by decide)) d_R_w p_lk_s1
      · refine dw_lt_n rfl (u := 25) rfl hH.r (d_rl rfl) q ?_
        exact dw_ic rfl (dw_rC rfl rfl (Or.inl rfl) hH hF)
    · refine dw_ge_n rfl (u := 52) rfl r_x2 r_x1 q ?_
      exact dw_ic rfl (dw_rC rfl rfl (Or.inr rfl) hH hF)
set_option maxRecDepth 100000 in
noncomputable def F_X11_passDays (t : Nat → Option p_C) (s : d_S) (x1 : Int) : Option (Int × d_S) :=
  F_X11_passDays_l2 t d_N x1 0 s
set_option maxRecDepth 100000 in
theorem D_X11_passDays {t : Nat → Option p_C} {h : p_H} {s : d_S} {x1 : Int} {r : Int × d_S} (hF : F_X11_passDays t s x1 = some r) (hH : d_V t h s) (r_x1 : d_R x1) : p_wp p_GT p_MT 6 m_X11_passDays 0 (lv_args 0 [.ref 2, .int (Int32.ofInt x1)]) [] h (d_QC t r) := by
  unfold F_X11_passDays at hF
  refine dw_ic rfl (dw_isn rfl rfl (?_))
  exact D_X11_passDays_l2 _ hF hH (d_s1 rfl rfl (by decide)) r_x1 (d_s1 rfl rfl (by decide)) (d_rl rfl) p_lk_s1
set_option maxRecDepth 100000 in
noncomputable def F_X11_day (t : Nat → Option p_C) (s : d_S) (x1 : Int) : Option (Int × d_S) :=
  d_b (F_X11_within x1 1 60) (fun v1 => if v1 = 0 then
  some ((-1), s)
  else
  if 999 < (d_w ((s.1 6 3) + x1)) then
  some ((-1), s)
  else
  d_b2 (F_X11_passDays t s x1) (fun v2 s3 => some ((s3.1 6 4), s3)))
set_option maxRecDepth 100000 in
theorem D_X11_day {t : Nat → Option p_C} {h : p_H} {s : d_S} {x1 : Int} {r : Int × d_S} (hF : F_X11_day t s x1 = some r) (hH : d_V t h s) (r_x1 : d_R x1) : p_wp p_GT p_MT 7 m_X11_day 0 (lv_args 0 [.ref 2, .int (Int32.ofInt x1)]) [] h (d_QI t r) := by
  unfold F_X11_day at hF
  refine dw_iln rfl rfl (dw_ic rfl (dw_bp rfl rfl (dw_sB hF rfl rfl rfl rfl rfl (dc := 0) (fun _ e => D_X11_within e r_x1 (d_rl rfl) (d_rl rfl)) (fun v1 r_v1 hF => ?_))))
  refine d_if hF (fun q hF => ?_) (fun q hF => ?_)
  · refine dw_zeq_y rfl (u := 28) rfl (d_R_b r_v1) q ?_
    exact dw_ic rfl (dw_rI rfl rfl (d_rl rfl) hH hF)
  · refine dw_zeq_n rfl (u := 28) rfl (d_R_b r_v1) q ?_
    refine dw_aln rfl rfl (dw_gr rfl rfl rfl hH d_c2_0 (dw_gr rfl rfl rfl hH d_c3_8 (dw_gi (k := 3) rfl rfl rfl hH d_c6_3 (dw_iln rfl rfl (dw_add rfl (dw_sp rfl rfl (dw_w2 (?_))))))))
    refine d_if hF (fun q hF => ?_) (fun q hF => ?_)
    · refine dw_le_y rfl (u := 30) rfl d_R_w (d_rl rfl) q ?_
      exact dw_ic rfl (dw_rI rfl rfl (d_rl rfl) hH hF)
    · refine dw_le_n rfl (u := 30) rfl d_R_w (d_rl rfl) q ?_
      exact dw_aln rfl rfl (dw_iln rfl rfl (dw_vC hF rfl (d_vir (n := 2) rfl rfl rfl rfl rfl hH d_c2_0 rfl) rfl rfl rfl (dc := 6) (fun _ _ e => D_X11_passDays e hH r_x1) (fun v2 s3 h3 hH3 r_v2 hF => dw_pop rfl (dw_aln rfl rfl (dw_gr rfl rfl rfl hH3 d_c2_0 (dw_gr rfl rfl rfl hH3 d_c3_8 (dw_gi (k := 4) rfl rfl rfl hH3 d_c6_4 (dw_rI rfl rfl hH3.r hH3 hF))))))))
set_option maxRecDepth 100000 in
noncomputable def F_X11_canSell (s : d_S) (x1 : Int) : Option (Int) :=
  d_b (F_X11_isBlock s x1) (fun v1 => if v1 = 0 then
  some 0
  else
  d_b (F_X10_isSold_6 s x1) (fun v2 => if v2 = 0 then
  d_b (F_X10_meltedOf_6 s x1) (fun v3 => if v3 < 100 then
  some 1
  else
  some 0)
  else
  some 0))
set_option maxRecDepth 100000 in
theorem D_X11_canSell {t : Nat → Option p_C} {h : p_H} {s : d_S} {x1 : Int} {r : Int} (hF : F_X11_canSell s x1 = some r) (hH : d_V t h s) (r_x1 : d_R x1) : p_wp p_GT p_MT 2 m_X11_canSell 0 (lv_args 0 [.ref 2, .int (Int32.ofInt x1)]) [] h (d_QB h r) := by
  unfold F_X11_canSell at hF
  refine dw_aln rfl rfl (dw_iln rfl rfl (dw_vB hF rfl (d_vir (n := 2) rfl rfl rfl rfl rfl hH d_c2_0 rfl) rfl rfl rfl (dc := 1) (fun _ e => D_X11_isBlock e hH r_x1) (fun v1 r_v1 hF => ?_)))
  refine d_if hF (fun q hF => ?_) (fun q hF => ?_)
  · refine dw_zeq_y rfl (u := 42) rfl (d_R_b r_v1) q ?_
    exact dw_ic rfl (dw_rB rfl rfl (Or.inl rfl) hF)
  · refine dw_zeq_n rfl (u := 42) rfl (d_R_b r_v1) q ?_
    refine dw_aln rfl rfl (dw_gr rfl rfl rfl hH d_c2_0 (dw_gr rfl rfl rfl hH d_c3_8 (dw_iln rfl rfl (dw_vB hF rfl (d_vir (n := 2) rfl rfl rfl rfl rfl hH d_c6_0 rfl) rfl rfl rfl (dc := 1) (fun _ e => D_X10_isSold_6 e hH r_x1) (fun v2 r_v2 hF => ?_)))))
    refine d_if hF (fun q hF => ?_) (fun q hF => ?_)
    · refine dw_zne_y rfl (u := 42) rfl (d_R_b r_v2) q ?_
      refine dw_aln rfl rfl (dw_gr rfl rfl rfl hH d_c2_0 (dw_gr rfl rfl rfl hH d_c3_8 (dw_iln rfl rfl (dw_vP hF rfl (d_vir (n := 2) rfl rfl rfl rfl rfl hH d_c6_0 rfl) rfl rfl rfl (dc := 1) (fun _ e => D_X10_meltedOf_6 e hH r_x1) (fun v3 r_v3 hF => dw_bp rfl rfl (?_))))))
      refine d_if hF (fun q hF => ?_) (fun q hF => ?_)
      · refine dw_ge_y rfl (u := 42) rfl r_v3 (d_rl rfl) q ?_
        exact dw_ic rfl (dw_go rfl (u := 43) rfl (dw_rB rfl rfl (Or.inr rfl) hF))
      · refine dw_ge_n rfl (u := 42) rfl r_v3 (d_rl rfl) q ?_
        exact dw_ic rfl (dw_rB rfl rfl (Or.inl rfl) hF)
    · refine dw_zne_n rfl (u := 42) rfl (d_R_b r_v2) q ?_
      exact dw_ic rfl (dw_rB rfl rfl (Or.inl rfl) hF)
set_option maxRecDepth 100000 in
noncomputable def F_X1_sells_j51 (t : Nat → Option p_C) (y0 : Int) (s : d_S) : Option (Int × d_S) :=
  d_b (F_J9_min_7cf53 9999 y0) (fun v2 => d_b (F_J9_max_7cf53 0 v2) (fun v3 => some (v3, s)))
set_option maxRecDepth 100000 in
theorem D_X1_sells_j51 {t : Nat → Option p_C} {h : p_H} {s : d_S} {y0 : Int} {r : Int × d_S} {ls : p_Ls} (hF : F_X1_sells_j51 t y0 s = some r) (hH : d_V t h s) (r_y0 : d_R y0) : p_wp p_GT p_MT 2 m_X1_sells 51 ls [.int (Int32.ofInt y0)] h (d_QI t r) := by
  unfold F_X1_sells_j51 at hF
  exact dw_isn rfl rfl (dw_ic rfl (dw_sp rfl rfl (dw_iln rfl p_lk_s1 (dw_sP hF rfl rfl rfl rfl rfl (dc := 0) (fun _ e => D_J9_min_7cf53 e (d_rl rfl) r_y0) (fun v2 r_v2 hF => dw_sP hF rfl rfl rfl rfl rfl (dc := 0) (fun _ e => D_J9_max_7cf53 e (d_rl rfl) r_v2) (fun v3 r_v3 hF => dw_rI rfl rfl r_v3 hH hF))))))
set_option maxRecDepth 100000 in
noncomputable def F_X1_sells_j15 (t : Nat → Option p_C) (x1 : Option Nat) (s : d_S) : Option (Int × d_S) :=
  F_X1_sells_j51 t (d_div ((s.1 49 3) * (100 - (s.1 49 4))) 10) s
set_option maxRecDepth 100000 in
theorem D_X1_sells_j15 {t : Nat → Option p_C} {h : p_H} {s : d_S} {x1 : Option Nat} {r : Int × d_S} {ls : p_Ls} (hF : F_X1_sells_j15 t x1 s = some r) (hH : d_V t h s) (l0 : p_lk 0 ls = some (.ref 48)) (r_x1 : d_T t x1) (l1 : p_lk 1 ls = some (d_pv x1)) : p_wp p_GT p_MT 2 m_X1_sells 15 ls [] h (d_QI t r) := by
  unfold F_X1_sells_j15 at hF
  refine dw_ic rfl (dw_isn rfl rfl (dw_iln rfl p_lk_s1 (dw_zeq_y rfl (u := 32) rfl (d_rl rfl) (by decide) (dw_aln rfl (d_s1 l0 rfl (by decide)) (dw_gr rfl rfl rfl hH d_c48_0 (dw_ic rfl (dw_ald rfl hH d_a49 rfl (by decide) (by decide) (d_rl rfl) (k := 3) rfl (dw_bp rfl rfl (dw_aln rfl (d_s1 l0 rfl (by decide)) (?_))))))))))
  refine dw_gr rfl rfl rfl hH d_c48_0 (dw_ic rfl (dw_ald rfl hH d_a49 rfl (by decide) (by decide) (d_rl rfl) (k := 4) rfl (dw_sub rfl (dw_mul rfl (dw_bp rfl rfl (dw_div rfl (d_rl rfl) (by decide) (?_)))))))
  exact D_X1_sells_j51 hF hH d_R_t
set_option maxRecDepth 100000 in
noncomputable def F_X1_sells (t : Nat → Option p_C) (s : d_S) (x1 : Option Nat) : Option (Int × d_S) :=
  match x1 with
  | none =>
  F_X1_sells_j15 t x1 s
  | some b1 =>
  d_b x1 (fun b4 => d_b (d_tfq t b4 1) (fun v5 => match v5 with
  | none =>
  F_X1_sells_j15 t x1 s
  | some b6 =>
  d_b x1 (fun b7 => d_b (d_tfq t b7 1) (fun v8 => d_b2 (F_X1_reckon t s v8) (fun v9 s10 => F_X1_sells_j51 t v9 s10)))))
set_option maxRecDepth 100000 in
theorem D_X1_sells {t : Nat → Option p_C} {h : p_H} {s : d_S} {x1 : Option Nat} {r : Int × d_S} (hF : F_X1_sells t s x1 = some r) (hH : d_V t h s) (r_x1 : d_T t x1) : p_wp p_GT p_MT 2 m_X1_sells 0 (lv_args 0 [.ref 48, d_pv x1]) [] h (d_QI t r) := by
  have a0 : p_lk 0 (lv_args 0 [.ref 48, d_pv x1]) = some (.ref 48) := by cases x1 <;> rfl
  have a1 : p_lk 1 (lv_args 0 [.ref 48, d_pv x1]) = some (d_pv x1) := by cases x1 <;> rfl
  unfold F_X1_sells at hF
  refine dw_alno rfl a1 (?_)
  refine d_ifo (α := Int) hF (fun q hF => ?_) (fun b1 q hF => ?_)
  · refine dw_nn rfl (u := 15) rfl q ?_
    exact D_X1_sells_j15 hF hH a0 r_x1 a1
  · refine dw_ns rfl q ?_
    refine dw_alno rfl a1 (dw_ot1 hF r_x1 (fun b4 r_b4 hF => dw_tgq hF rfl rfl rfl hH (fun v5 r_v5 hF => ?_)))
    refine d_ifo (α := Int) hF (fun q hF => ?_) (fun b6 q hF => ?_)
    · refine dw_nn rfl (u := 15) rfl q ?_
      exact D_X1_sells_j15 hF hH a0 r_x1 a1
    · refine dw_ns rfl q ?_
      refine dw_ic rfl (dw_go rfl (u := 16) rfl (dw_isn rfl rfl (dw_iln rfl p_lk_s1 (dw_zeq_n rfl (u := 32) rfl (d_rl rfl) (by decide) (dw_aln rfl (d_s1 a0 rfl (by decide)) (dw_alno rfl (d_s1o a1 (by decide)) (dw_ot1 hF r_x1 (fun b7 r_b7 hF => dw_tgq hF rfl rfl rfl hH (fun v8 r_v8 hF => dw_vI hF rfl (d_vir (n := 2) rfl rfl (by generalize v8 = e; cases e <;> rfl) rfl rfl hH d_c48_0 rfl) rfl (by generalize v8 = e; cases e <;> rfl) rfl (dc := 1) (fun _ _ e => D_X1_reckon e hH r_v8) (fun v9 s10 h10 hH10 r_v9 hF => ?_))))))))))
      refine dw_go rfl (u := 51) rfl (?_)
      exact D_X1_sells_j51 hF hH10 r_v9
set_option maxRecDepth 100000 in
noncomputable def F_X9_sightPart_3 (s : d_S) (x1 : Int) (x2 : Int) : Option (Int) :=
  if (d_w ((x1 * 6) + x2)) < 0 then
  some 0
  else
  if (d_w ((x1 * 6) + x2)) < 72 then
  d_g (0 ≤ (d_w ((x1 * 6) + x2)) ∧ (d_w ((x1 * 6) + x2)) < 72) (some (s.1 4 (((d_w ((x1 * 6) + x2))).toNat)))
  else
  some 0
set_option maxRecDepth 100000 in
theorem D_X9_sightPart_3 {t : Nat → Option p_C} {h : p_H} {s : d_S} {x1 : Int} {x2 : Int} {r : Int} (hF : F_X9_sightPart_3 s x1 x2 = some r) (hH : d_V t h s) (r_x1 : d_R x1) (r_x2 : d_R x2) : p_wp p_GT p_MT 0 m_X9_sightPart 0 (lv_args 0 [.ref 3, .int (Int32.ofInt x1), .int (Int32.ofInt x2)]) [] h (d_QP h r) := by
  unfold F_X9_sightPart_3 at hF
  refine dw_iln rfl rfl (dw_bp rfl rfl (dw_mul rfl (dw_iln rfl rfl (dw_add rfl (dw_w1 (dw_isn rfl rfl (dw_iln rfl p_lk_s1 (?_))))))))
  refine d_if hF (fun q hF => ?_) (fun q hF => ?_)
  · refine dw_zlt_y rfl (u := 29) rfl d_R_w q ?_
    exact dw_ic rfl (dw_rP rfl rfl (d_rl rfl) hF)
  · refine dw_zlt_n rfl (u := 29) rfl d_R_w q ?_
    refine dw_iln rfl p_lk_s1 (dw_aln rfl (d_s1 rfl rfl (by decide)) (dw_gr rfl rfl rfl hH d_c3_4 (dw_len rfl hH d_a4 rfl (z := 72) rfl (?_))))
    refine d_if hF (fun q hF => ?_) (fun q hF => ?_)
    · refine dw_ge_y rfl (u := 29) rfl d_R_w (d_rl rfl) q ?_
      exact dw_aln rfl (d_s1 rfl rfl (by decide)) (dw_gr rfl rfl rfl hH d_c3_4 (dw_iln rfl p_lk_s1 (d_gd hF (fun g1 hF => dw_ald rfl hH d_a4 rfl g1.1 g1.2 d_R_w rfl (dw_go rfl (u := 30) rfl (dw_rP rfl rfl hH.r hF))))))
    · refine dw_ge_n rfl (u := 29) rfl d_R_w (d_rl rfl) q ?_
      exact dw_ic rfl (dw_rP rfl rfl (d_rl rfl) hF)
set_option maxRecDepth 100000 in
noncomputable def F_X4_cellsOf_3 (s : d_S) (x2 : Int) (x3 : Int) : Option (Int) :=
  if x3 < 0 then
  some 0
  else
  if x3 < 64 then
  d_b (F_X9_sightPart_3 s x2 1) (fun v1 => d_b (F_X9_sightPart_3 s x2 2) (fun v2 => d_b (F_X9_sightPart_3 s x2 3) (fun v3 => d_g (0 ≤ x3 ∧ x3 < 64) (d_g (0 ≤ x3 ∧ x3 < 64) (d_b (F_J9_min_7cf53 (d_w (v1 + v3)) (d_w ((s.1 38 (x3.toNat)) + (s.1 40 (x3.toNat))))) (fun v6 => d_b (F_X9_sightPart_3 s x2 4) (fun v7 => d_g (0 ≤ x3 ∧ x3 < 64) (d_g (0 ≤ x3 ∧ x3 < 64) (d_b (F_J9_min_7cf53 (d_w (v2 + v7)) (d_w ((s.1 39 (x3.toNat)) + (s.1 41 (x3.toNat))))) (fun v10 => d_g (0 ≤ x3 ∧ x3 < 64) (d_b (F_J9_max_7cf53 v1 (s.1 38 (x3.toNat))) (fun v12 => d_g (0 ≤ x3 ∧ x3 < 64) (d_b (F_J9_max_7cf53 v2 (s.1 39 (x3.toNat))) (fun v14 => if 0 < (d_w (v6 - v12)) then
  if 0 < (d_w (v10 - v14)) then
  some (d_w ((d_w (v6 - v12)) * (d_w (v10 - v14))))
  else
  some 0
  else
  some 0))))))))))))))
  else
  some 0
set_option maxRecDepth 100000 in
theorem D_X4_cellsOf_3 {t : Nat → Option p_C} {h : p_H} {s : d_S} {x2 : Int} {x3 : Int} {r : Int} (hF : F_X4_cellsOf_3 s x2 x3 = some r) (hH : d_V t h s) (r_x2 : d_R x2) (r_x3 : d_R x3) : p_wp p_GT p_MT 1 m_X4_cellsOf 0 (lv_args 0 [.ref 37, .ref 3, .int (Int32.ofInt x2), .int (Int32.ofInt x3)]) [] h (d_QP h r) := by
  unfold F_X4_cellsOf_3 at hF
  refine dw_iln rfl rfl (?_)
  refine d_if hF (fun q hF => ?_) (fun q hF => ?_)
  · refine dw_zlt_y rfl (u := 10) rfl r_x3 q ?_
    exact dw_ic rfl (dw_rP rfl rfl (d_rl rfl) hF)
  · refine dw_zlt_n rfl (u := 10) rfl r_x3 q ?_
    refine dw_iln rfl rfl (dw_bp rfl rfl (?_))
    refine d_if hF (fun q hF => ?_) (fun q hF => ?_)
    · refine dw_lt_y rfl (u := 12) rfl r_x3 (d_rl rfl) q ?_
      refine dw_aln rfl rfl (dw_iln rfl rfl (dw_ic rfl (dw_vP hF rfl (d_vir (n := 3) rfl rfl rfl rfl rfl hH d_c3_0 rfl) rfl rfl rfl (dc := 0) (fun _ e => D_X9_sightPart_3 e hH r_x2 (d_rl rfl)) (fun v1 r_v1 hF => dw_is rfl rfl (dw_aln rfl (d_s1 rfl rfl (by decide)) (dw_iln rfl (d_s1 rfl rfl (by decide)) (dw_ic rfl (dw_vP hF rfl (d_vir (n := 3) rfl rfl rfl rfl rfl hH d_c3_0 rfl) rfl rfl rfl (dc := 0) (fun _ e => D_X9_sightPart_3 e hH r_x2 (d_rl rfl)) (fun v2 r_v2 hF => dw_is rfl rfl (?_))))))))))
      refine dw_il rfl (d_s1 p_lk_s1 rfl (by decide)) (dw_aln rfl (d_s1 (d_s1 rfl rfl (by decide)) rfl (by decide)) (dw_iln rfl (d_s1 (d_s1 rfl rfl (by decide)) rfl (by decide)) (dw_ic rfl (dw_vP hF rfl (d_vir (n := 3) rfl rfl rfl rfl rfl hH d_c3_0 rfl) rfl rfl rfl (dc := 0) (fun _ e => D_X9_sightPart_3 e hH r_x2 (d_rl rfl)) (fun v3 r_v3 hF => dw_add rfl (dw_aln rfl (d_s1 (d_s1 rfl rfl (by decide)) rfl (by decide)) (dw_gr rfl rfl rfl hH d_c37_0 (dw_iln rfl (d_s1 (d_s1 rfl rfl (by decide)) rfl (by decide)) (d_gd hF (fun g4 hF => ?_))))))))))
      refine dw_ald rfl hH d_a38 rfl g4.1 g4.2 r_x3 rfl (dw_aln rfl (d_s1 (d_s1 rfl rfl (by decide)) rfl (by decide)) (dw_gr rfl rfl rfl hH d_c37_2 (dw_iln rfl (d_s1 (d_s1 rfl rfl (by decide)) rfl (by decide)) (d_gd hF (fun g5 hF => dw_ald rfl hH d_a40 rfl g5.1 g5.2 r_x3 rfl (dw_add rfl (dw_w1 (dw_w2 (dw_sP hF rfl rfl rfl rfl rfl (dc := 0) (fun _ e => D_J9_min_7cf53 e d_R_w d_R_w) (fun v6 r_v6 hF => ?_))))))))))
      refine dw_is rfl rfl (dw_il rfl (d_s1 p_lk_s1 rfl (by decide)) (dw_aln rfl (d_s1 (d_s1 (d_s1 rfl rfl (by decide)) rfl (by decide)) rfl (by decide)) (dw_iln rfl (d_s1 (d_s1 (d_s1 rfl rfl (by decide)) rfl (by decide)) rfl (by decide)) (dw_ic rfl (dw_vP hF rfl (d_vir (n := 3) rfl rfl rfl rfl rfl hH d_c3_0 rfl) rfl rfl rfl (dc := 0) (fun _ e => D_X9_sightPart_3 e hH r_x2 (d_rl rfl)) (fun v7 r_v7 hF => dw_add rfl (dw_aln rfl (d_s1 (d_s1 (d_s1 rfl rfl (by decide)) rfl (by decide)) rfl (by decide)) (dw_gr rfl rfl rfl hH d_c37_1 (dw_iln rfl (d_s1 (d_s1 (d_s1 rfl rfl (by decide)) rfl (by decide)) rfl (by decide)) (?_))))))))))
      refine d_gd hF (fun g8 hF => dw_ald rfl hH d_a39 rfl g8.1 g8.2 r_x3 rfl (dw_aln rfl (d_s1 (d_s1 (d_s1 rfl rfl (by decide)) rfl (by decide)) rfl (by decide)) (dw_gr rfl rfl rfl hH d_c37_3 (dw_iln rfl (d_s1 (d_s1 (d_s1 rfl rfl (by decide)) rfl (by decide)) rfl (by decide)) (d_gd hF (fun g9 hF => dw_ald rfl hH d_a41 rfl g9.1 g9.2 r_x3 rfl (dw_add rfl (dw_w1 (dw_w2 (?_))))))))))
      refine dw_sP hF rfl rfl rfl rfl rfl (dc := 0) (fun _ e => D_J9_min_7cf53 e d_R_w d_R_w) (fun v10 r_v10 hF => dw_is rfl rfl (dw_il rfl (d_s1 p_lk_s1 rfl (by decide)) (dw_il rfl (d_s1 (d_s1 (d_s1 p_lk_s1 rfl (by decide)) rfl (by decide)) rfl (by decide)) (dw_aln rfl (d_s1 (d_s1 (d_s1 (d_s1 rfl rfl (by decide)) rfl (by decide)) rfl (by decide)) rfl (by decide)) (dw_gr rfl rfl rfl hH d_c37_0 (dw_iln rfl (d_s1 (d_s1 (d_s1 (d_s1 rfl rfl (by decide)) rfl (by decide)) rfl (by decide)) rfl (by decide)) (d_gd hF (fun g11 hF => dw_ald rfl hH d_a38 rfl g11.1 g11.2 r_x3 rfl (dw_sP hF rfl rfl rfl rfl rfl (dc := 0) (fun _ e => D_J9_max_7cf53 e r_v1 hH.r) (fun v12 r_v12 hF => ?_))))))))))
      refine dw_sub rfl (dw_w1 (dw_is rfl rfl (dw_il rfl (d_s1 p_lk_s1 rfl (by decide)) (dw_il rfl (d_s1 (d_s1 (d_s1 p_lk_s1 rfl (by decide)) rfl (by decide)) rfl (by decide)) (dw_aln rfl (d_s1 (d_s1 (d_s1 (d_s1 (d_s1 rfl rfl (by decide)) rfl (by decide)) rfl (by decide)) rfl (by decide)) rfl (by decide)) (dw_gr rfl rfl rfl hH d_c37_1 (dw_iln rfl (d_s1 (d_s1 (d_s1 (d_s1 (d_s1 rfl rfl (by decide)) rfl (by decide)) rfl (by decide)) rfl (by decide)) rfl (by decide)) (d_gd hF (fun g13 hF => dw_ald rfl hH d_a39 rfl g13.1 g13.2 r_x3 rfl (?_))))))))))
      refine dw_sP hF rfl rfl rfl rfl rfl (dc := 0) (fun _ e => D_J9_max_7cf53 e r_v2 hH.r) (fun v14 r_v14 hF => dw_sub rfl (dw_w1 (dw_is rfl rfl (dw_il rfl (d_s1 p_lk_s1 rfl (by decide)) (?_)))))
      refine d_if hF (fun q hF => ?_) (fun q hF => ?_)
      · refine dw_zle_y rfl (u := 132) rfl d_R_w q ?_
        refine dw_il rfl p_lk_s1 (?_)
        refine d_if hF (fun q hF => ?_) (fun q hF => ?_)
        · refine dw_zle_y rfl (u := 132) rfl d_R_w q ?_
          exact dw_il rfl (d_s1 p_lk_s1 rfl (by decide)) (dw_il rfl p_lk_s1 (dw_mul rfl (dw_go rfl (u := 133) rfl (dw_w1 (dw_rP rfl rfl d_R_w hF)))))
        · refine dw_zle_n rfl (u := 132) rfl d_R_w q ?_
          exact dw_ic rfl (dw_rP rfl rfl (d_rl rfl) hF)
      · refine dw_zle_n rfl (u := 132) rfl d_R_w q ?_
        exact dw_ic rfl (dw_rP rfl rfl (d_rl rfl) hF)
    · refine dw_lt_n rfl (u := 12) rfl r_x3 (d_rl rfl) q ?_
      exact dw_ic rfl (dw_rP rfl rfl (d_rl rfl) hF)
set_option maxRecDepth 100000 in
noncomputable def F_X4_sightsIn_3_l5_b (s : d_S) (rec : Int → Int → Int → Option (Int)) (x2 : Int) (x3 : Int) (x4 : Int) : Option (Int) :=
  if x4 < (s.1 3 3) then
  d_b (F_X4_cellsOf_3 s x4 x2) (fun v1 => if 0 < v1 then
  d_b (F_X11_bit 1) (fun v2 => rec x2 (d_or x3 (d_shl v2 x4)) (d_w (x4 + 1)))
  else
  d_b (F_X11_bit 0) (fun v3 => rec x2 (d_or x3 (d_shl v3 x4)) (d_w (x4 + 1))))
  else
  some x3
set_option maxRecDepth 100000 in
noncomputable def F_X4_sightsIn_3_l5 (s : d_S) : Nat → Int → Int → Int → Option (Int)
  | 0 => fun _ _ _ => none
  | n + 1 => F_X4_sightsIn_3_l5_b s (F_X4_sightsIn_3_l5 s n)
set_option maxRecDepth 100000 in
theorem D_X4_sightsIn_3_l5 {t : Nat → Option p_C} {h : p_H} {s : d_S} {r : Int} (hH : d_V t h s) : ∀ (n : Nat) {x2 : Int} {x3 : Int} {x4 : Int} {ls : p_Ls}, F_X4_sightsIn_3_l5 s n x2 x3 x4 = some r → p_lk 0 ls = some (.ref 37) → p_lk 1 ls = some (.ref 3) → d_R x2 → p_lk 2 ls = some (.int (Int32.ofInt x2)) → d_R x3 → p_lk 3 ls = some (.int (Int32.ofInt x3)) → d_R x4 → p_lk 4 ls = some (.int (Int32.ofInt x4)) → p_wp p_GT p_MT 2 m_X4_sightsIn 5 ls [] h (d_QP h r) := by
  intro n
  induction n with
  | zero =>
    intro x2 x3 x4 ls hF l0 l1 r_x2 l2 r_x3 l3 r_x4 l4
    cases (show (none : Option (Int)) = some r from hF)
  | succ n ih =>
    intro x2 x3 x4 ls hF l0 l1 r_x2 l2 r_x3 l3 r_x4 l4
    have hF : F_X4_sightsIn_3_l5_b s (F_X4_sightsIn_3_l5 s n) x2 x3 x4 = some r := hF
    unfold F_X4_sightsIn_3_l5_b at hF
    refine dw_il rfl l4 (dw_aln rfl l1 (dw_gi (k := 3) rfl rfl rfl hH d_c3_3 (?_)))
    refine d_if hF (fun q hF => ?_) (fun q hF => ?_)
    · refine dw_ge_y rfl (u := 45) rfl r_x4 hH.r q ?_
      refine dw_iln rfl l3 (dw_aln rfl l0 (dw_aln rfl l1 (dw_il rfl l4 (dw_iln rfl l2 (dw_vP hF rfl (d_vir (n := 4) rfl rfl rfl rfl rfl hH d_c37_0 rfl) rfl rfl rfl (dc := 1) (fun _ e => D_X4_cellsOf_3 e hH r_x4 r_x2) (fun v1 r_v1 hF => ?_))))))
      refine d_if hF (fun q hF => ?_) (fun q hF => ?_)
      · refine dw_zle_y rfl (u := 30) rfl r_v1 q ?_
        refine dw_ic rfl (dw_go rfl (u := 31) rfl (dw_sP hF rfl rfl rfl rfl rfl (dc := 0) (fun _ e => D_X11_bit e (d_rl rfl)) (fun v2 r_v2 hF => dw_il rfl l4 (dw_shl rfl (dw_or rfl (dw_isn rfl rfl (dw_ii rfl (d_s1 l4 rfl (by decide)) rfl (dw_go rfl (u := 5) rfl (?_)))))))))
        exact ih hF (d_s1 (d_s1 l0 rfl (by decide)) rfl (by decide)) (d_s1 (d_s1 l1 rfl (by decide)) rfl (by decide)) r_x2 (d_s1 (d_s1 l2 rfl (by decide)) rfl (by decide)) d_R_t (d_s1 p_lk_s1 rfl (by decide)) d_R_w p_lk_s1
      · refine dw_zle_n rfl (u := 30) rfl r_v1 q ?_
        refine dw_ic rfl (dw_sP hF rfl rfl rfl rfl rfl (dc := 0) (fun _ e => D_X11_bit e (d_rl rfl)) (fun v3 r_v3 hF => dw_il rfl l4 (dw_shl rfl (dw_or rfl (dw_isn rfl rfl (dw_ii rfl (d_s1 l4 rfl (by decide)) rfl (dw_go rfl (u := 5) rfl (?_))))))))
        exact ih hF (d_s1 (d_s1 l0 rfl (by decide)) rfl (by decide)) (d_s1 (d_s1 l1 rfl (by decide)) rfl (by decide)) r_x2 (d_s1 (d_s1 l2 rfl (by decide)) rfl (by decide)) d_R_t (d_s1 p_lk_s1 rfl (by decide)) d_R_w p_lk_s1
    · refine dw_ge_n rfl (u := 45) rfl r_x4 hH.r q ?_
      exact dw_iln rfl l3 (dw_rP rfl rfl r_x3 hF)
set_option maxRecDepth 100000 in
noncomputable def F_X4_sightsIn_3 (s : d_S) (x2 : Int) : Option (Int) :=
  F_X4_sightsIn_3_l5 s d_N x2 0 0
set_option maxRecDepth 100000 in
theorem D_X4_sightsIn_3 {t : Nat → Option p_C} {h : p_H} {s : d_S} {x2 : Int} {r : Int} (hF : F_X4_sightsIn_3 s x2 = some r) (hH : d_V t h s) (r_x2 : d_R x2) : p_wp p_GT p_MT 2 m_X4_sightsIn 0 (lv_args 0 [.ref 37, .ref 3, .int (Int32.ofInt x2)]) [] h (d_QP h r) := by
  unfold F_X4_sightsIn_3 at hF
  refine dw_ic rfl (dw_isn rfl rfl (dw_ic rfl (dw_is rfl rfl (?_))))
  exact D_X4_sightsIn_3_l5 hH _ hF (d_s1 (d_s1 rfl rfl (by decide)) rfl (by decide)) (d_s1 (d_s1 rfl rfl (by decide)) rfl (by decide)) r_x2 (d_s1 (d_s1 rfl rfl (by decide)) rfl (by decide)) (d_rl rfl) (d_s1 p_lk_s1 rfl (by decide)) (d_rl rfl) p_lk_s1
set_option maxRecDepth 100000 in
noncomputable def F_J6_bitCount_0f7a4 (x0 : Int) : Option (Int) :=
  d_l (d_w (x0 - (d_and (d_ushr x0 1) 1431655765))) (fun z1 => d_l (d_w ((d_and z1 858993459) + (d_and (d_ushr z1 2) 858993459))) (fun z2 => d_l (d_and (z2 + (d_ushr z2 4)) 252645135) (fun z3 => d_l (d_w (z3 + (d_ushr z3 8))) (fun z4 => d_l (d_w (z4 + (d_ushr z4 16))) (fun z5 => some (d_and z5 63))))))
set_option maxRecDepth 100000 in
theorem D_J6_bitCount_0f7a4 {h : p_H} {x0 : Int} {r : Int} (hF : F_J6_bitCount_0f7a4 x0 = some r) (r_x0 : d_R x0) : p_wp p_GT p_MT 0 m_J6_bitCount_0f7a4 0 (lv_args 0 [.int (Int32.ofInt x0)]) [] h (d_QP h r) := by
  unfold F_J6_bitCount_0f7a4 at hF
  refine dw_iln rfl rfl (dw_iln rfl rfl (dw_ic rfl (dw_ushr rfl (dw_ldcw rfl rfl (dw_and rfl (dw_sub rfl (dw_w1 (dw_nm hF d_R_w (fun z1 r_z1 hF => dw_isn rfl rfl (?_))))))))))
  refine dw_iln rfl p_lk_s1 (dw_ldcw rfl rfl (dw_and rfl (dw_iln rfl p_lk_s1 (dw_ic rfl (dw_ushr rfl (dw_ldcw rfl rfl (dw_and rfl (dw_add rfl (dw_w1 (?_))))))))))
  refine dw_nm hF d_R_w (fun z2 r_z2 hF => dw_isn rfl rfl (dw_iln rfl p_lk_s1 (dw_iln rfl p_lk_s1 (dw_ic rfl (dw_ushr rfl (dw_add rfl (dw_ldcw rfl rfl (dw_and rfl (dw_nm hF d_R_t (fun z3 r_z3 hF => ?_))))))))))
  refine dw_isn rfl rfl (dw_iln rfl p_lk_s1 (dw_iln rfl p_lk_s1 (dw_bp rfl rfl (dw_ushr rfl (dw_add rfl (dw_w1 (dw_nm hF d_R_w (fun z4 r_z4 hF => dw_isn rfl rfl (dw_iln rfl p_lk_s1 (?_))))))))))
  refine dw_iln rfl p_lk_s1 (dw_bp rfl rfl (dw_ushr rfl (dw_add rfl (dw_w1 (dw_nm hF d_R_w (fun z5 r_z5 hF => dw_isn rfl rfl (dw_iln rfl p_lk_s1 (dw_bp rfl rfl (dw_and rfl (?_))))))))))
  exact dw_rP rfl rfl d_R_t hF
set_option maxRecDepth 100000 in
noncomputable def F_X4_kindsIn_3_l5_b (s : d_S) (rec : Int → Int → Int → Option (Int)) (x2 : Int) (x3 : Int) (x4 : Int) : Option (Int) :=
  if x4 < (s.1 3 3) then
  d_b (F_X4_cellsOf_3 s x4 x2) (fun v1 => if 0 < v1 then
  d_b (F_X11_bit 1) (fun v2 => d_b (F_X9_sightPart_3 s x4 0) (fun v3 => rec x2 (d_or x3 (d_shl v2 v3)) (d_w (x4 + 1))))
  else
  d_b (F_X11_bit 0) (fun v4 => d_b (F_X9_sightPart_3 s x4 0) (fun v5 => rec x2 (d_or x3 (d_shl v4 v5)) (d_w (x4 + 1)))))
  else
  some x3
set_option maxRecDepth 100000 in
noncomputable def F_X4_kindsIn_3_l5 (s : d_S) : Nat → Int → Int → Int → Option (Int)
  | 0 => fun _ _ _ => none
  | n + 1 => F_X4_kindsIn_3_l5_b s (F_X4_kindsIn_3_l5 s n)
set_option maxRecDepth 100000 in
theorem D_X4_kindsIn_3_l5 {t : Nat → Option p_C} {h : p_H} {s : d_S} {r : Int} (hH : d_V t h s) : ∀ (n : Nat) {x2 : Int} {x3 : Int} {x4 : Int} {ls : p_Ls}, F_X4_kindsIn_3_l5 s n x2 x3 x4 = some r → p_lk 0 ls = some (.ref 37) → p_lk 1 ls = some (.ref 3) → d_R x2 → p_lk 2 ls = some (.int (Int32.ofInt x2)) → d_R x3 → p_lk 3 ls = some (.int (Int32.ofInt x3)) → d_R x4 → p_lk 4 ls = some (.int (Int32.ofInt x4)) → p_wp p_GT p_MT 2 m_X4_kindsIn 5 ls [] h (d_QP h r) := by
  intro n
  induction n with
  | zero =>
    intro x2 x3 x4 ls hF l0 l1 r_x2 l2 r_x3 l3 r_x4 l4
    cases (show (none : Option (Int)) = some r from hF)
  | succ n ih =>
    intro x2 x3 x4 ls hF l0 l1 r_x2 l2 r_x3 l3 r_x4 l4
    have hF : F_X4_kindsIn_3_l5_b s (F_X4_kindsIn_3_l5 s n) x2 x3 x4 = some r := hF
    unfold F_X4_kindsIn_3_l5_b at hF
    refine dw_il rfl l4 (dw_aln rfl l1 (dw_gi (k := 3) rfl rfl rfl hH d_c3_3 (?_)))
    refine d_if hF (fun q hF => ?_) (fun q hF => ?_)
    · refine dw_ge_y rfl (u := 50) rfl r_x4 hH.r q ?_
      refine dw_iln rfl l3 (dw_aln rfl l0 (dw_aln rfl l1 (dw_il rfl l4 (dw_iln rfl l2 (dw_vP hF rfl (d_vir (n := 4) rfl rfl rfl rfl rfl hH d_c37_0 rfl) rfl rfl rfl (dc := 1) (fun _ e => D_X4_cellsOf_3 e hH r_x4 r_x2) (fun v1 r_v1 hF => ?_))))))
      refine d_if hF (fun q hF => ?_) (fun q hF => ?_)
      · refine dw_zle_y rfl (u := 30) rfl r_v1 q ?_
        refine dw_ic rfl (dw_go rfl (u := 31) rfl (dw_sP hF rfl rfl rfl rfl rfl (dc := 0) (fun _ e => D_X11_bit e (d_rl rfl)) (fun v2 r_v2 hF => dw_aln rfl l1 (dw_il rfl l4 (dw_ic rfl (dw_vP hF rfl (d_vir (n := 3) rfl rfl rfl rfl rfl hH d_c3_0 rfl) rfl rfl rfl (dc := 0) (fun _ e => D_X9_sightPart_3 e hH r_x4 (d_rl rfl)) (fun v3 r_v3 hF => dw_shl rfl (dw_or rfl (dw_isn rfl rfl (?_))))))))))
        refine dw_ii rfl (d_s1 l4 rfl (by decide)) rfl (dw_go rfl (u := 5) rfl (?_))
        exact ih hF (d_s1 (d_s1 l0 rfl (by decide)) rfl (by decide)) (d_s1 (d_s1 l1 rfl (by decide)) rfl (by decide)) r_x2 (d_s1 (d_s1 l2 rfl (by decide)) rfl (by decide)) d_R_t (d_s1 p_lk_s1 rfl (by decide)) d_R_w p_lk_s1
      · refine dw_zle_n rfl (u := 30) rfl r_v1 q ?_
        refine dw_ic rfl (dw_sP hF rfl rfl rfl rfl rfl (dc := 0) (fun _ e => D_X11_bit e (d_rl rfl)) (fun v4 r_v4 hF => dw_aln rfl l1 (dw_il rfl l4 (dw_ic rfl (dw_vP hF rfl (d_vir (n := 3) rfl rfl rfl rfl rfl hH d_c3_0 rfl) rfl rfl rfl (dc := 0) (fun _ e => D_X9_sightPart_3 e hH r_x4 (d_rl rfl)) (fun v5 r_v5 hF => dw_shl rfl (dw_or rfl (dw_isn rfl rfl (dw_ii rfl (d_s1 l4 rfl (by decide)) rfl (?_))))))))))
        refine dw_go rfl (u := 5) rfl (?_)
        exact ih hF (d_s1 (d_s1 l0 rfl (by decide)) rfl (by decide)) (d_s1 (d_s1 l1 rfl (by decide)) rfl (by decide)) r_x2 (d_s1 (d_s1 l2 rfl (by decide)) rfl (by decide)) d_R_t (d_s1 p_lk_s1 rfl (by decide)) d_R_w p_lk_s1
    · refine dw_ge_n rfl (u := 50) rfl r_x4 hH.r q ?_
      exact dw_iln rfl l3 (dw_rP rfl rfl r_x3 hF)
set_option maxRecDepth 100000 in
noncomputable def F_X4_kindsIn_3 (s : d_S) (x2 : Int) : Option (Int) :=
  F_X4_kindsIn_3_l5 s d_N x2 0 0
set_option maxRecDepth 100000 in
theorem D_X4_kindsIn_3 {t : Nat → Option p_C} {h : p_H} {s : d_S} {x2 : Int} {r : Int} (hF : F_X4_kindsIn_3 s x2 = some r) (hH : d_V t h s) (r_x2 : d_R x2) : p_wp p_GT p_MT 2 m_X4_kindsIn 0 (lv_args 0 [.ref 37, .ref 3, .int (Int32.ofInt x2)]) [] h (d_QP h r) := by
  unfold F_X4_kindsIn_3 at hF
  refine dw_ic rfl (dw_isn rfl rfl (dw_ic rfl (dw_is rfl rfl (?_))))
  exact D_X4_kindsIn_3_l5 hH _ hF (d_s1 (d_s1 rfl rfl (by decide)) rfl (by decide)) (d_s1 (d_s1 rfl rfl (by decide)) rfl (by decide)) r_x2 (d_s1 (d_s1 rfl rfl (by decide)) rfl (by decide)) (d_rl rfl) (d_s1 p_lk_s1 rfl (by decide)) (d_rl rfl) p_lk_s1
set_option maxRecDepth 100000 in
noncomputable def F_X1_tellSights (s : d_S) (x1 : Int) (x2 : Int) : Option (d_S) :=
  d_l (d_si s 49 (6) x1) (fun s1 => d_l (d_si s1 49 (7) x2) (fun s2 => some s2))
set_option maxRecDepth 100000 in
theorem D_X1_tellSights {t : Nat → Option p_C} {h : p_H} {s : d_S} {x1 : Int} {x2 : Int} {r : d_S} (hF : F_X1_tellSights s x1 x2 = some r) (hH : d_V t h s) (r_x1 : d_R x1) (r_x2 : d_R x2) : p_wp p_GT p_MT 0 m_X1_tellSights 0 (lv_args 0 [.ref 48, .int (Int32.ofInt x1), .int (Int32.ofInt x2)]) [] h (d_QV t r) := by
  unfold F_X1_tellSights at hF
  refine dw_aln rfl rfl (dw_gr rfl rfl rfl hH d_c48_0 (dw_bp rfl rfl (dw_iln rfl rfl (dw_ast rfl hH d_a49 (by decide) (by decide) (d_rl rfl) (k := 6) rfl r_x1 hF (fun s1 h1 hH1 hF => dw_aln rfl rfl (dw_gr rfl rfl rfl hH1 d_c48_0 (dw_bp rfl rfl (dw_iln rfl rfl (dw_ast rfl hH1 d_a49 (by decide) (by decide) (d_rl rfl) (k := 7) rfl r_x2 hF (fun s2 h2 hH2 hF => ?_))))))))))
  exact dw_rV rfl rfl hH2 hF
set_option maxRecDepth 100000 in
noncomputable def F_X0_sellsAt_j62 (t : Nat → Option p_C) (s : d_S) : Option (Int × d_S) :=
  d_b (F_X1_tellDay s (s.1 47 6) (s.1 47 7) (s.1 47 8) (s.1 47 9)) (fun s2 => d_b2 (F_X1_sells t s2 (s2.2.1 47 3)) (fun v3 s4 => some (v3, s4)))
set_option maxRecDepth 100000 in
theorem D_X0_sellsAt_j62 {t : Nat → Option p_C} {h : p_H} {s : d_S} {r : Int × d_S} {ls : p_Ls} (hF : F_X0_sellsAt_j62 t s = some r) (hH : d_V t h s) (l0 : p_lk 0 ls = some (.ref 47)) : p_wp p_GT p_MT 3 m_X0_sellsAt 62 ls [] h (d_QI t r) := by
  unfold F_X0_sellsAt_j62 at hF
  refine dw_aln rfl l0 (dw_gr rfl rfl rfl hH d_c47_2 (dw_aln rfl l0 (dw_gi (k := 6) rfl rfl rfl hH d_c47_6 (dw_aln rfl l0 (dw_gi (k := 7) rfl rfl rfl hH d_c47_7 (dw_aln rfl l0 (dw_gi (k := 8) rfl rfl rfl hH d_c47_8 (dw_aln rfl l0 (dw_gi (k := 9) rfl rfl rfl hH d_c47_9 (?_))))))))))
  exact dw_vV hF rfl (d_vir (n := 5) rfl rfl rfl rfl rfl hH d_c48_0 rfl) rfl rfl rfl (dc := 0) (fun _ e => D_X1_tellDay e hH hH.r hH.r hH.r hH.r) (fun s2 h2 hH2 hF => dw_aln rfl l0 (dw_gr rfl rfl rfl hH2 d_c47_2 (dw_aln rfl l0 (dw_go_ (k := 3) rfl rfl rfl hH2 d_c47_3 (dw_vI hF rfl (d_vir (n := 2) rfl rfl (by generalize (s2.2.1 47 3) = e; cases e <;> rfl) rfl rfl hH2 d_c48_0 rfl) rfl (by generalize (s2.2.1 47 3) = e; cases e <;> rfl) rfl (dc := 2) (fun _ _ e => D_X1_sells e hH2 (hH2.T (by decide))) (fun v3 s4 h4 hH4 r_v3 hF => dw_rI rfl rfl r_v3 hH4 hF))))))
set_option maxRecDepth 100000 in
noncomputable def F_X0_sellsAt (t : Nat → Option p_C) (s : d_S) : Option (Int × d_S) :=
  match (s.2.1 47 3) with
  | none =>
  F_X0_sellsAt_j62 t s
  | some b1 =>
  d_b (s.2.1 47 3) (fun b5 => d_b (d_tfq t b5 1) (fun v6 => match v6 with
  | none =>
  F_X0_sellsAt_j62 t s
  | some b7 =>
  d_b (F_X4_sightsIn_3 s (s.1 47 4)) (fun v8 => d_b (F_J6_bitCount_0f7a4 v8) (fun v9 => d_b (F_X4_kindsIn_3 s (s.1 47 4)) (fun v10 => d_b (F_J6_bitCount_0f7a4 v10) (fun v11 => d_b (F_X1_tellSights s v9 v11) (fun s12 => F_X0_sellsAt_j62 t s12)))))))
set_option maxRecDepth 100000 in
theorem D_X0_sellsAt {t : Nat → Option p_C} {h : p_H} {s : d_S} {r : Int × d_S} (hF : F_X0_sellsAt t s = some r) (hH : d_V t h s) : p_wp p_GT p_MT 3 m_X0_sellsAt 0 (lv_args 0 [.ref 47]) [] h (d_QI t r) := by
  unfold F_X0_sellsAt at hF
  refine dw_aln rfl rfl (dw_go_ (k := 3) rfl rfl rfl hH d_c47_3 (?_))
  refine d_ifo (α := Int) hF (fun q hF => ?_) (fun b1 q hF => ?_)
  · refine dw_nn rfl (u := 62) rfl q ?_
    exact D_X0_sellsAt_j62 hF hH rfl
  · refine dw_ns rfl q ?_
    refine dw_aln rfl rfl (dw_go_ (k := 3) rfl rfl rfl hH d_c47_3 (dw_ot1 hF (hH.T (by decide)) (fun b5 r_b5 hF => dw_tgq hF rfl rfl rfl hH (fun v6 r_v6 hF => ?_))))
    refine d_ifo (α := Int) hF (fun q hF => ?_) (fun b7 q hF => ?_)
    · refine dw_nn rfl (u := 62) rfl q ?_
      exact D_X0_sellsAt_j62 hF hH rfl
    · refine dw_ns rfl q ?_
      refine dw_aln rfl rfl (dw_gr rfl rfl rfl hH d_c47_1 (dw_aln rfl rfl (dw_gr rfl rfl rfl hH d_c47_0 (dw_aln rfl rfl (dw_gi (k := 4) rfl rfl rfl hH d_c47_4 (dw_vP hF rfl (d_vir (n := 3) rfl rfl rfl rfl rfl hH d_c37_0 rfl) rfl rfl rfl (dc := 2) (fun _ e => D_X4_sightsIn_3 e hH hH.r) (fun v8 r_v8 hF => dw_sP hF rfl rfl rfl rfl rfl (dc := 0) (fun _ e => D_J6_bitCount_0f7a4 e r_v8) (fun v9 r_v9 hF => dw_isn rfl rfl (dw_aln rfl (d_s1 rfl rfl (by decide)) (?_))))))))))
      refine dw_gr rfl rfl rfl hH d_c47_2 (dw_iln rfl p_lk_s1 (dw_aln rfl (d_s1 rfl rfl (by decide)) (dw_gr rfl rfl rfl hH d_c47_1 (dw_aln rfl (d_s1 rfl rfl (by decide)) (dw_gr rfl rfl rfl hH d_c47_0 (dw_aln rfl (d_s1 rfl rfl (by decide)) (dw_gi (k := 4) rfl rfl rfl hH d_c47_4 (dw_vP hF rfl (d_vir (n := 3) rfl rfl rfl rfl rfl hH d_c37_0 rfl) rfl rfl rfl (dc := 2) (fun _ e => D_X4_kindsIn_3 e hH hH.r) (fun v10 r_v10 hF => dw_sP hF rfl rfl rfl rfl rfl (dc := 0) (fun _ e => D_J6_bitCount_0f7a4 e r_v10) (fun v11 r_v11 hF => ?_))))))))))
      refine dw_vV hF rfl (d_vir (n := 3) rfl rfl rfl rfl rfl hH d_c48_0 rfl) rfl rfl rfl (dc := 0) (fun _ e => D_X1_tellSights e hH r_v9 r_v11) (fun s12 h12 hH12 hF => ?_)
      exact D_X0_sellsAt_j62 hF hH12 (d_s1 rfl rfl (by decide))
set_option maxRecDepth 100000 in
noncomputable def F_X11_sellOff (t : Nat → Option p_C) (s : d_S) (x1 : Int) : Option (Int × d_S) :=
  d_b (F_X0_start s x1) (fun s1 => d_b2 (F_X0_sellsAt t s1) (fun v2 s3 => d_l (d_si s3 6 5 (d_w ((s3.1 6 5) + v2))) (fun s4 => d_b (F_X10_strawOn_6 s4 x1) (fun v5 => d_b (F_J9_min_7cf53 99 (d_w ((s4.1 6 2) + v5))) (fun v6 => d_l (d_si s4 6 2 v6) (fun s7 => d_b (F_X10_meltedOf_6 s7 x1) (fun v8 => d_b (F_X10_put_6 s7 x1 0 v8 1) (fun s9 => some (v2, s9)))))))))
set_option maxRecDepth 100000 in
theorem D_X11_sellOff {t : Nat → Option p_C} {h : p_H} {s : d_S} {x1 : Int} {r : Int × d_S} (hF : F_X11_sellOff t s x1 = some r) (hH : d_V t h s) (r_x1 : d_R x1) : p_wp p_GT p_MT 4 m_X11_sellOff 0 (lv_args 0 [.ref 2, .int (Int32.ofInt x1)]) [] h (d_QI t r) := by
  unfold F_X11_sellOff at hF
  refine dw_aln rfl rfl (dw_gr rfl rfl rfl hH d_c2_0 (dw_gr rfl rfl rfl hH d_c3_8 (dw_asn rfl rfl (dw_aln rfl (d_s1 rfl rfl (by decide)) (dw_gr rfl rfl rfl hH d_c2_4 (dw_iln rfl (d_s1 rfl rfl (by decide)) (dw_vV hF rfl (d_vir (n := 2) rfl rfl rfl rfl rfl hH d_c47_0 rfl) rfl rfl rfl (dc := 2) (fun _ e => D_X0_start e hH r_x1) (fun s1 h1 hH1 hF => dw_aln rfl (d_s1 rfl rfl (by decide)) (dw_gr rfl rfl rfl hH1 d_c2_4 (?_))))))))))
  refine dw_vI hF rfl (d_vir (n := 1) rfl rfl rfl rfl rfl hH1 d_c47_0 rfl) rfl rfl rfl (dc := 3) (fun _ _ e => D_X0_sellsAt e hH1) (fun v2 s3 h3 hH3 r_v2 hF => dw_isn rfl rfl (dw_aln rfl (d_s1 p_lk_s1 rfl (by decide)) (dw_dupr rfl (dw_gi (k := 5) rfl rfl rfl hH3 d_c6_5 (dw_iln rfl p_lk_s1 (dw_add rfl (dw_w1 (dw_pi (k := 5) rfl rfl rfl rfl hH3 d_c6_5 d_R_w (by decide) hF (fun s4 h4 hH4 hF => dw_aln rfl (d_s1 p_lk_s1 rfl (by decide)) (?_))))))))))
  refine dw_bp rfl rfl (dw_aln rfl (d_s1 p_lk_s1 rfl (by decide)) (dw_gi (k := 2) rfl rfl rfl hH4 d_c6_2 (dw_aln rfl (d_s1 p_lk_s1 rfl (by decide)) (dw_iln rfl (d_s1 (d_s1 rfl rfl (by decide)) rfl (by decide)) (dw_vP hF rfl (d_vir (n := 2) rfl rfl rfl rfl rfl hH4 d_c6_0 rfl) rfl rfl rfl (dc := 1) (fun _ e => D_X10_strawOn_6 e hH4 r_x1) (fun v5 r_v5 hF => dw_add rfl (dw_w1 (dw_sP hF rfl rfl rfl rfl rfl (dc := 0) (fun _ e => D_J9_min_7cf53 e (d_rl rfl) d_R_w) (fun v6 r_v6 hF => dw_pi (k := 2) rfl rfl rfl rfl hH4 d_c6_2 r_v6 (by decide) hF (fun s7 h7 hH7 hF => ?_))))))))))
  exact dw_aln rfl (d_s1 p_lk_s1 rfl (by decide)) (dw_iln rfl (d_s1 (d_s1 rfl rfl (by decide)) rfl (by decide)) (dw_ic rfl (dw_aln rfl (d_s1 p_lk_s1 rfl (by decide)) (dw_iln rfl (d_s1 (d_s1 rfl rfl (by decide)) rfl (by decide)) (dw_vP hF rfl (d_vir (n := 2) rfl rfl rfl rfl rfl hH7 d_c6_0 rfl) rfl rfl rfl (dc := 1) (fun _ e => D_X10_meltedOf_6 e hH7 r_x1) (fun v8 r_v8 hF => dw_ic rfl (dw_vV hF rfl (d_vir (n := 5) rfl rfl rfl rfl rfl hH7 d_c6_0 rfl) rfl rfl rfl (dc := 1) (fun _ e => D_X10_put_6 e hH7 r_x1 (d_rl rfl) r_v8 (d_rl rfl)) (fun s9 h9 hH9 hF => dw_iln rfl p_lk_s1 (dw_rI rfl rfl r_v2 hH9 hF)))))))))

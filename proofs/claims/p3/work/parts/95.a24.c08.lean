set_option maxRecDepth 100000 in
noncomputable def F_X2_ofAll_l4_b (rec : Int → Int → Int → Option (Int)) (x1 : Int) (x2 : Int) (x3 : Int) : Option (Int) :=
  if x3 < x1 then
  if x3 < 4 then
  rec x1 (d_w (x2 * 10)) (d_w (x3 + 1))
  else
  some x2
  else
  some x2
set_option maxRecDepth 100000 in
noncomputable def F_X2_ofAll_l4 : Nat → Int → Int → Int → Option (Int)
  | 0 => fun _ _ _ => none
  | n + 1 => F_X2_ofAll_l4_b (F_X2_ofAll_l4 n)
set_option maxRecDepth 100000 in
theorem D_X2_ofAll_l4 {h : p_H} {r : Int} : ∀ (n : Nat) {x1 : Int} {x2 : Int} {x3 : Int} {ls : p_Ls}, F_X2_ofAll_l4 n x1 x2 x3 = some r → d_R x1 → p_lk 1 ls = some (.int (Int32.ofInt x1)) → d_R x2 → p_lk 2 ls = some (.int (Int32.ofInt x2)) → d_R x3 → p_lk 3 ls = some (.int (Int32.ofInt x3)) → p_wp p_GT p_MT 0 m_X2_ofAll 4 ls [] h (d_QP h r) := by
  intro n
  induction n with
  | zero =>
    intro x1 x2 x3 ls hF r_x1 l1 r_x2 l2 r_x3 l3
    cases (show (none : Option (Int)) = some r from hF)
  | succ n ih =>
    intro x1 x2 x3 ls hF r_x1 l1 r_x2 l2 r_x3 l3
    have hF : F_X2_ofAll_l4_b (F_X2_ofAll_l4 n) x1 x2 x3 = some r := hF
    unfold F_X2_ofAll_l4_b at hF
    refine dw_iln rfl l3 (dw_iln rfl l1 (?_))
    refine d_if hF (fun q hF => ?_) (fun q hF => ?_)
    · refine dw_ge_y rfl (u := 25) rfl r_x3 r_x1 q ?_
      refine dw_iln rfl l3 (dw_ic rfl (?_))
      refine d_if hF (fun q hF => ?_) (fun q hF => ?_)
      · refine dw_ge_y rfl (u := 25) rfl r_x3 (d_rl rfl) q ?_
        refine dw_iln rfl l2 (dw_bp rfl rfl (dw_mul rfl (dw_w1 (dw_isn rfl rfl (dw_ii rfl (d_s1 l3 rfl (by decide)) rfl (dw_go rfl (u := 4) rfl (?_)))))))
        exact ih hF r_x1 (d_s1 (d_s1 l1 rfl (by decide)) rfl (by decide)) d_R_w (d_s1 p_lk_s1 rfl (by decide)) d_R_w p_lk_s1
      · refine dw_ge_n rfl (u := 25) rfl r_x3 (d_rl rfl) q ?_
        exact dw_iln rfl l2 (dw_rP rfl rfl r_x2 hF)
    · refine dw_ge_n rfl (u := 25) rfl r_x3 r_x1 q ?_
      exact dw_iln rfl l2 (dw_rP rfl rfl r_x2 hF)
set_option maxRecDepth 100000 in
noncomputable def F_X2_ofAll (x1 : Int) : Option (Int) :=
  F_X2_ofAll_l4 d_N x1 1 1
set_option maxRecDepth 100000 in
theorem D_X2_ofAll {h : p_H} {x1 : Int} {r : Int} (hF : F_X2_ofAll x1 = some r) (r_x1 : d_R x1) : p_wp p_GT p_MT 0 m_X2_ofAll 0 (lv_args 0 [.ref 51, .int (Int32.ofInt x1)]) [] h (d_QP h r) := by
  unfold F_X2_ofAll at hF
  refine dw_ic rfl (dw_isn rfl rfl (dw_ic rfl (dw_isn rfl rfl (?_))))
  exact D_X2_ofAll_l4 _ hF r_x1 (d_s1 (d_s1 rfl rfl (by decide)) rfl (by decide)) (d_rl rfl) (d_s1 p_lk_s1 rfl (by decide)) (d_rl rfl) p_lk_s1
set_option maxRecDepth 100000 in
noncomputable def F_X2_lasting_j77 (t : Nat → Option p_C) (x3 : Int) (s : d_S) : Option (Int × d_S) :=
  if x3 < 100 then
  d_b (F_X11_bit 1) (fun v4 => some (v4, s))
  else
  d_b (F_X11_bit 0) (fun v5 => some (v5, s))
set_option maxRecDepth 100000 in
theorem D_X2_lasting_j77 {t : Nat → Option p_C} {h : p_H} {s : d_S} {x3 : Int} {r : Int × d_S} {ls : p_Ls} (hF : F_X2_lasting_j77 t x3 s = some r) (hH : d_V t h s) (r_x3 : d_R x3) (l3 : p_lk 3 ls = some (.int (Int32.ofInt x3))) : p_wp p_GT p_MT 6 m_X2_lasting 77 ls [] h (d_QI t r) := by
  unfold F_X2_lasting_j77 at hF
  refine dw_iln rfl l3 (dw_bp rfl rfl (?_))
  refine d_if hF (fun q hF => ?_) (fun q hF => ?_)
  · refine dw_ge_y rfl (u := 87) rfl r_x3 (d_rl rfl) q ?_
    exact dw_ic rfl (dw_go rfl (u := 88) rfl (dw_sP hF rfl rfl rfl rfl rfl (dc := 0) (fun _ e => D_X11_bit e (d_rl rfl)) (fun v4 r_v4 hF => dw_rI rfl rfl r_v4 hH hF)))
  · refine dw_ge_n rfl (u := 87) rfl r_x3 (d_rl rfl) q ?_
    exact dw_ic rfl (dw_sP hF rfl rfl rfl rfl rfl (dc := 0) (fun _ e => D_X11_bit e (d_rl rfl)) (fun v5 r_v5 hF => dw_rI rfl rfl r_v5 hH hF))
set_option maxRecDepth 100000 in
noncomputable def F_X2_lasting_l123_b (t : Nat → Option p_C) (k161 : Int → Int → d_S → Option (Int × d_S)) (rec : Int → Int → Int → d_S → Option (Int × d_S)) (x2 : Int) (x4 : Int) (x5 : Int) (s : d_S) : Option (Int × d_S) :=
  if x5 < (d_w (x2 - 1)) then
  if x5 < 4 then
  d_b2 (F_X2_spread t s x4 (d_w ((s.1 47 6) + x5))) (fun v8 s9 => rec x2 v8 (d_w (x5 + 1)) s9)
  else
  k161 x2 x4 s
  else
  k161 x2 x4 s
set_option maxRecDepth 100000 in
noncomputable def F_X2_lasting_l123 (t : Nat → Option p_C) (k161 : Int → Int → d_S → Option (Int × d_S)) : Nat → Int → Int → Int → d_S → Option (Int × d_S)
  | 0 => fun _ _ _ _ => none
  | n + 1 => F_X2_lasting_l123_b t k161 (F_X2_lasting_l123 t k161 n)
set_option maxRecDepth 100000 in
theorem D_X2_lasting_l123 {t : Nat → Option p_C} {k161 : Int → Int → d_S → Option (Int × d_S)} {r : Int × d_S} (hk161 : ∀ {x2 : Int} {x4 : Int} {ls : p_Ls} {s : d_S} {h : p_H}, k161 x2 x4 s = some r → d_V t h s → p_lk 0 ls = some (.ref 51) → d_R x2 → p_lk 2 ls = some (.int (Int32.ofInt x2)) → d_R x4 → p_lk 4 ls = some (.int (Int32.ofInt x4)) → p_wp p_GT p_MT 6 m_X2_lasting 161 ls [] h (d_QI t r)) : ∀ (n : Nat) {x2 : Int} {x4 : Int} {x5 : Int} {ls : p_Ls} {s : d_S} {h : p_H}, F_X2_lasting_l123 t k161 n x2 x4 x5 s = some r → d_V t h s → p_lk 0 ls = some (.ref 51) → d_R x2 → p_lk 2 ls = some (.int (Int32.ofInt x2)) → d_R x4 → p_lk 4 ls = some (.int (Int32.ofInt x4)) → d_R x5 → p_lk 5 ls = some (.int (Int32.ofInt x5)) → p_wp p_GT p_MT 6 m_X2_lasting 123 ls [] h (d_QI t r) := by
  intro n
  induction n with
  | zero =>
    intro x2 x4 x5 ls s h hF hH l0 r_x2 l2 r_x4 l4 r_x5 l5
    cases (show (none : Option (Int × d_S)) = some r from hF)
  | succ n ih =>
    intro x2 x4 x5 ls s h hF hH l0 r_x2 l2 r_x4 l4 r_x5 l5
    have hF : F_X2_lasting_l123_b t k161 (F_X2_lasting_l123 t k161 n) x2 x4 x5 s = some r := hF
    unfold F_X2_lasting_l123_b at hF
    refine dw_il rfl l5 (dw_iln rfl l2 (dw_ic rfl (dw_sub rfl (dw_w1 (?_)))))
    refine d_if hF (fun q hF => ?_) (fun q hF => ?_)
    · refine dw_ge_y rfl (u := 161) rfl r_x5 d_R_w q ?_
      refine dw_il rfl l5 (dw_ic rfl (?_))
      refine d_if hF (fun q hF => ?_) (fun q hF => ?_)
      · refine dw_ge_y rfl (u := 161) rfl r_x5 (d_rl rfl) q ?_
        refine dw_aln rfl l0 (dw_il rfl l4 (dw_aln rfl l0 (dw_gr rfl rfl rfl hH d_c51_0 (dw_gi (k := 6) rfl rfl rfl hH d_c47_6 (dw_il rfl l5 (dw_add rfl (dw_w1 (dw_vI hF rfl (d_vir (n := 3) rfl rfl rfl rfl rfl hH d_c51_0 rfl) rfl rfl rfl (dc := 5) (fun _ _ e => D_X2_spread e hH r_x4 d_R_w) (fun v8 s9 h9 hH9 r_v8 hF => dw_is rfl rfl (?_))))))))))
        refine dw_ii rfl (d_s1 l5 rfl (by decide)) rfl (dw_go rfl (u := 123) rfl (?_))
        exact ih hF hH9 (d_s1 (d_s1 l0 rfl (by decide)) rfl (by decide)) r_x2 (d_s1 (d_s1 l2 rfl (by decide)) rfl (by decide)) r_v8 (d_s1 p_lk_s1 rfl (by decide)) d_R_w p_lk_s1
      · refine dw_ge_n rfl (u := 161) rfl r_x5 (d_rl rfl) q ?_
        exact hk161 hF hH l0 r_x2 l2 r_x4 l4
    · refine dw_ge_n rfl (u := 161) rfl r_x5 d_R_w q ?_
      exact hk161 hF hH l0 r_x2 l2 r_x4 l4
set_option maxRecDepth 100000 in
noncomputable def F_X2_lasting_j66 (t : Nat → Option p_C) (x2 : Int) (x3 : Int) (s : d_S) : Option (Int × d_S) :=
  if x3 < 100 then
  if x2 < 2 then
  F_X2_lasting_j77 t x3 s
  else
  d_l (d_si s 54 (0) (d_w ((x3 * 10) + (s.1 47 8)))) (fun s6 => d_l (d_si s6 55 (0) 1) (fun s7 => F_X2_lasting_l123 t (fun x2_u10 x4_u10 s_u10 =>
  d_b2 (F_X2_leftOver t s_u10 x4_u10 (d_w (((s_u10.1 47 6) + x2_u10) - 1))) (fun v11 s12 => some (v11, s12))) d_N x2 1 1 s7))
  else
  F_X2_lasting_j77 t x3 s
set_option maxRecDepth 100000 in
theorem D_X2_lasting_j66 {t : Nat → Option p_C} {h : p_H} {s : d_S} {x2 : Int} {x3 : Int} {r : Int × d_S} {ls : p_Ls} (hF : F_X2_lasting_j66 t x2 x3 s = some r) (hH : d_V t h s) (l0 : p_lk 0 ls = some (.ref 51)) (r_x2 : d_R x2) (l2 : p_lk 2 ls = some (.int (Int32.ofInt x2))) (r_x3 : d_R x3) (l3 : p_lk 3 ls = some (.int (Int32.ofInt x3))) : p_wp p_GT p_MT 6 m_X2_lasting 66 ls [] h (d_QI t r) := by
  unfold F_X2_lasting_j66 at hF
  refine dw_iln rfl l3 (dw_bp rfl rfl (?_))
  refine d_if hF (fun q hF => ?_) (fun q hF => ?_)
  · refine dw_ge_y rfl (u := 77) rfl r_x3 (d_rl rfl) q ?_
    refine dw_iln rfl l2 (dw_ic rfl (?_))
    refine d_if hF (fun q hF => ?_) (fun q hF => ?_)
    · refine dw_ge_y rfl (u := 92) rfl r_x2 (d_rl rfl) q ?_
      exact D_X2_lasting_j77 hF hH r_x3 l3
    · refine dw_ge_n rfl (u := 92) rfl r_x2 (d_rl rfl) q ?_
      refine dw_aln rfl l0 (dw_gr rfl rfl rfl hH d_c51_3 (dw_ic rfl (dw_iln rfl l3 (dw_bp rfl rfl (dw_mul rfl (dw_aln rfl l0 (dw_gr rfl rfl rfl hH d_c51_0 (dw_gi (k := 8) rfl rfl rfl hH d_c47_8 (dw_add rfl (?_))))))))))
      refine dw_w1 (dw_ast rfl hH d_a54 (by decide) (by decide) (d_rl rfl) (k := 0) rfl d_R_w hF (fun s6 h6 hH6 hF => dw_aln rfl l0 (dw_gr rfl rfl rfl hH6 d_c51_4 (dw_ic rfl (dw_ic rfl (dw_ast rfl hH6 d_a55 (by decide) (by decide) (d_rl rfl) (k := 0) rfl (d_rl rfl) hF (fun s7 h7 hH7 hF => dw_ic rfl (dw_is rfl rfl (dw_ic rfl (?_))))))))))
      refine dw_is rfl rfl (?_)
      refine D_X2_lasting_l123 (fun {x2_u10} {x4_u10} {ls_u10} {s_u10} {h_u10} hF hH_u10 l0_u10 r_x2_u10 l2_u10 r_x4_u10 l4_u10 => ?_) _ hF hH7 (d_s1 (d_s1 l0 rfl (by decide)) rfl (by decide)) r_x2 (d_s1 (d_s1 l2 rfl (by decide)) rfl (by decide)) (d_rl rfl) (d_s1 p_lk_s1 rfl (by decide)) (d_rl rfl) p_lk_s1
      · refine dw_aln rfl l0_u10 (dw_il rfl l4_u10 (dw_aln rfl l0_u10 (dw_gr rfl rfl rfl hH_u10 d_c51_0 (dw_gi (k := 6) rfl rfl rfl hH_u10 d_c47_6 (dw_iln rfl l2_u10 (dw_add rfl (dw_ic rfl (dw_sub rfl (dw_w1 (?_))))))))))
        exact dw_vI hF rfl (d_vir (n := 3) rfl rfl rfl rfl rfl hH_u10 d_c51_0 rfl) rfl rfl rfl (dc := 5) (fun _ _ e => D_X2_leftOver e hH_u10 r_x4_u10 d_R_w) (fun v11 s12 h12 hH12 r_v11 hF => dw_rI rfl rfl r_v11 hH12 hF)
  · refine dw_ge_n rfl (u := 77) rfl r_x3 (d_rl rfl) q ?_
    exact D_X2_lasting_j77 hF hH r_x3 l3
set_option maxRecDepth 100000 in
noncomputable def F_X2_lasting (t : Nat → Option p_C) (s : d_S) (x1 : Int) (x2 : Int) : Option (Int × d_S) :=
  d_b (F_X0_start s x1) (fun s1 => if (s1.1 47 10) = 0 then
  if 0 < x2 then
  d_b2 (F_X0_meltedFrom t s1 (s1.1 47 6) (s1.1 47 7) (s1.1 47 8) (s1.1 47 9)) (fun v2 s3 => F_X2_lasting_j66 t x2 v2 s3)
  else
  F_X2_lasting_j66 t x2 (s1.1 47 9) s1
  else
  d_b (F_X2_ofAll x2) (fun v13 => some (v13, s1)))
set_option maxRecDepth 100000 in
theorem D_X2_lasting {t : Nat → Option p_C} {h : p_H} {s : d_S} {x1 : Int} {x2 : Int} {r : Int × d_S} (hF : F_X2_lasting t s x1 x2 = some r) (hH : d_V t h s) (r_x1 : d_R x1) (r_x2 : d_R x2) : p_wp p_GT p_MT 6 m_X2_lasting 0 (lv_args 0 [.ref 51, .int (Int32.ofInt x1), .int (Int32.ofInt x2)]) [] h (d_QI t r) := by
  unfold F_X2_lasting at hF
  refine dw_aln rfl rfl (dw_gr rfl rfl rfl hH d_c51_0 (dw_iln rfl rfl (dw_vV hF rfl (d_vir (n := 2) rfl rfl rfl rfl rfl hH d_c47_0 rfl) rfl rfl rfl (dc := 2) (fun _ e => D_X0_start e hH r_x1) (fun s1 h1 hH1 hF => dw_aln rfl rfl (dw_gr rfl rfl rfl hH1 d_c51_0 (dw_gi (k := 10) rfl rfl rfl hH1 d_c47_10 (?_)))))))
  refine d_if hF (fun q hF => ?_) (fun q hF => ?_)
  · refine dw_zeq_y rfl (u := 24) rfl hH1.r q ?_
    refine dw_aln rfl rfl (dw_gr rfl rfl rfl hH1 d_c51_0 (dw_gi (k := 9) rfl rfl rfl hH1 d_c47_9 (dw_isn rfl rfl (dw_iln rfl (d_s1 rfl rfl (by decide)) (?_)))))
    refine d_if hF (fun q hF => ?_) (fun q hF => ?_)
    · refine dw_zle_y rfl (u := 66) rfl r_x2 q ?_
      refine dw_aln rfl (d_s1 rfl rfl (by decide)) (dw_gr rfl rfl rfl hH1 d_c51_0 (dw_aln rfl (d_s1 rfl rfl (by decide)) (dw_gr rfl rfl rfl hH1 d_c51_0 (dw_gi (k := 6) rfl rfl rfl hH1 d_c47_6 (dw_aln rfl (d_s1 rfl rfl (by decide)) (dw_gr rfl rfl rfl hH1 d_c51_0 (dw_gi (k := 7) rfl rfl rfl hH1 d_c47_7 (dw_aln rfl (d_s1 rfl rfl (by decide)) (dw_gr rfl rfl rfl hH1 d_c51_0 (?_))))))))))
      refine dw_gi (k := 8) rfl rfl rfl hH1 d_c47_8 (dw_iln rfl p_lk_s1 (dw_vI hF rfl (d_vir (n := 5) rfl rfl rfl rfl rfl hH1 d_c47_0 rfl) rfl rfl rfl (dc := 3) (fun _ _ e => D_X0_meltedFrom e hH1 hH1.r hH1.r hH1.r hH1.r) (fun v2 s3 h3 hH3 r_v2 hF => dw_isn rfl rfl (?_))))
      exact D_X2_lasting_j66 hF hH3 (d_s1 (d_s1 rfl rfl (by decide)) rfl (by decide)) r_x2 (d_s1 (d_s1 rfl rfl (by decide)) rfl (by decide)) r_v2 p_lk_s1
    · refine dw_zle_n rfl (u := 66) rfl r_x2 q ?_
      exact D_X2_lasting_j66 hF hH1 (d_s1 rfl rfl (by decide)) r_x2 (d_s1 rfl rfl (by decide)) hH1.r p_lk_s1
  · refine dw_zeq_n rfl (u := 24) rfl hH1.r q ?_
    exact dw_aln rfl rfl (dw_iln rfl rfl (dw_vP hF rfl (d_vir (n := 2) rfl rfl rfl rfl rfl hH1 d_c51_0 rfl) rfl rfl rfl (dc := 0) (fun _ e => D_X2_ofAll e r_x2) (fun v13 r_v13 hF => dw_rI rfl rfl r_v13 hH1 hF)))
set_option maxRecDepth 100000 in
noncomputable def F_J9_abs_0f7a4 (x0 : Int) : Option (Int) :=
  if x0 < 0 then
  some (d_w (-x0))
  else
  some x0
set_option maxRecDepth 100000 in
theorem D_J9_abs_0f7a4 {h : p_H} {x0 : Int} {r : Int} (hF : F_J9_abs_0f7a4 x0 = some r) (r_x0 : d_R x0) : p_wp p_GT p_MT 0 m_J9_abs_0f7a4 0 (lv_args 0 [.int (Int32.ofInt x0)]) [] h (d_QP h r) := by
  unfold F_J9_abs_0f7a4 at hF
  refine dw_iln rfl rfl (?_)
  refine d_if hF (fun q hF => ?_) (fun q hF => ?_)
  · refine dw_zge_y rfl (u := 9) rfl r_x0 q ?_
    exact dw_iln rfl rfl (dw_neg rfl (dw_go rfl (u := 10) rfl (dw_w1 (dw_rP rfl rfl d_R_w hF))))
  · refine dw_zge_n rfl (u := 9) rfl r_x0 q ?_
    exact dw_iln rfl rfl (dw_rP rfl rfl r_x0 hF)
set_option maxRecDepth 100000 in
noncomputable def F_X11_divisor_l13_b (k40 : Int → Option (Int)) (rec : Int → Int → Int → Option (Int)) (x2 : Int) (x3 : Int) (x4 : Int) : Option (Int) :=
  if x4 < 64 then
  if x3 = 0 then
  k40 x2
  else
  d_g (¬ x3 = 0) (rec x3 (d_rem x2 x3) (d_w (x4 + 1)))
  else
  k40 x2
set_option maxRecDepth 100000 in
noncomputable def F_X11_divisor_l13 (k40 : Int → Option (Int)) : Nat → Int → Int → Int → Option (Int)
  | 0 => fun _ _ _ => none
  | n + 1 => F_X11_divisor_l13_b k40 (F_X11_divisor_l13 k40 n)
set_option maxRecDepth 100000 in
theorem D_X11_divisor_l13 {h : p_H} {k40 : Int → Option (Int)} {r : Int} (hk40 : ∀ {x2 : Int} {ls : p_Ls}, k40 x2 = some r → d_R x2 → p_lk 2 ls = some (.int (Int32.ofInt x2)) → p_wp p_GT p_MT 1 m_X11_divisor 40 ls [] h (d_QP h r)) : ∀ (n : Nat) {x2 : Int} {x3 : Int} {x4 : Int} {ls : p_Ls}, F_X11_divisor_l13 k40 n x2 x3 x4 = some r → d_R x2 → p_lk 2 ls = some (.int (Int32.ofInt x2)) → d_R x3 → p_lk 3 ls = some (.int (Int32.ofInt x3)) → d_R x4 → p_lk 4 ls = some (.int (Int32.ofInt x4)) → p_wp p_GT p_MT 1 m_X11_divisor 13 ls [] h (d_QP h r) := by
  intro n
  induction n with
  | zero =>
    intro x2 x3 x4 ls hF r_x2 l2 r_x3 l3 r_x4 l4
    cases (show (none : Option (Int)) = some r from hF)
  | succ n ih =>
    intro x2 x3 x4 ls hF r_x2 l2 r_x3 l3 r_x4 l4
    have hF : F_X11_divisor_l13_b k40 (F_X11_divisor_l13 k40 n) x2 x3 x4 = some r := hF
    unfold F_X11_divisor_l13_b at hF
    refine dw_il rfl l4 (dw_bp rfl rfl (?_))
    refine d_if hF (fun q hF => ?_) (fun q hF => ?_)
    · refine dw_ge_y rfl (u := 40) rfl r_x4 (d_rl rfl) q ?_
      refine dw_iln rfl l3 (?_)
      refine d_if hF (fun q hF => ?_) (fun q hF => ?_)
      · refine dw_zeq_y rfl (u := 40) rfl r_x3 q ?_
        exact hk40 hF r_x2 l2
      · refine dw_zeq_n rfl (u := 40) rfl r_x3 q ?_
        refine dw_iln rfl l2 (dw_iln rfl l3 (d_gd hF (fun g3 hF => dw_rem rfl r_x3 g3 (dw_is rfl rfl (dw_iln rfl (d_s1 l3 rfl (by decide)) (dw_isn rfl rfl (dw_il rfl (d_s1 p_lk_s1 rfl (by decide)) (dw_isn rfl rfl (dw_ii rfl (d_s1 (d_s1 (d_s1 l4 rfl (by decide)) rfl (by decide)) rfl (by decide)) rfl (?_))))))))))
        refine dw_go rfl (u := 13) rfl (?_)
        exact ih hF r_x3 (d_s1 (d_s1 p_lk_s1 rfl (by decide)) rfl (by decide)) d_R_t (d_s1 p_lk_s1 rfl (by decide)) d_R_w p_lk_s1
    · refine dw_ge_n rfl (u := 40) rfl r_x4 (d_rl rfl) q ?_
      exact hk40 hF r_x2 l2
set_option maxRecDepth 100000 in
noncomputable def F_X11_divisor (x0 : Int) (x1 : Int) : Option (Int) :=
  d_b (F_J9_abs_0f7a4 x0) (fun v1 => d_b (F_J9_abs_0f7a4 x1) (fun v2 => F_X11_divisor_l13 (fun x2_u4 =>
  d_b (F_J9_max_7cf53 1 x2_u4) (fun v5 => some v5)) d_N v1 v2 0))
set_option maxRecDepth 100000 in
theorem D_X11_divisor {h : p_H} {x0 : Int} {x1 : Int} {r : Int} (hF : F_X11_divisor x0 x1 = some r) (r_x0 : d_R x0) (r_x1 : d_R x1) : p_wp p_GT p_MT 1 m_X11_divisor 0 (lv_args 0 [.int (Int32.ofInt x0), .int (Int32.ofInt x1)]) [] h (d_QP h r) := by
  unfold F_X11_divisor at hF
  refine dw_iln rfl rfl (dw_sP hF rfl rfl rfl rfl rfl (dc := 0) (fun _ e => D_J9_abs_0f7a4 e r_x0) (fun v1 r_v1 hF => dw_isn rfl rfl (dw_iln rfl (d_s1 rfl rfl (by decide)) (dw_sP hF rfl rfl rfl rfl rfl (dc := 0) (fun _ e => D_J9_abs_0f7a4 e r_x1) (fun v2 r_v2 hF => dw_isn rfl rfl (dw_ic rfl (dw_is rfl rfl (?_))))))))
  refine D_X11_divisor_l13 (fun {x2_u4} {ls_u4} hF r_x2_u4 l2_u4 => ?_) _ hF r_v1 (d_s1 (d_s1 p_lk_s1 rfl (by decide)) rfl (by decide)) r_v2 (d_s1 p_lk_s1 rfl (by decide)) (d_rl rfl) p_lk_s1
  · exact dw_ic rfl (dw_iln rfl l2_u4 (dw_sP hF rfl rfl rfl rfl rfl (dc := 0) (fun _ e => D_J9_max_7cf53 e (d_rl rfl) r_x2_u4) (fun v5 r_v5 hF => dw_rP rfl rfl r_v5 hF)))
set_option maxRecDepth 100000 in
noncomputable def F_X11_lasts_j17 (t : Nat → Option p_C) (s : d_S) : Option (Int × d_S) :=
  some ((-1), s)
set_option maxRecDepth 100000 in
theorem D_X11_lasts_j17 {t : Nat → Option p_C} {h : p_H} {s : d_S} {r : Int × d_S} {ls : p_Ls} (hF : F_X11_lasts_j17 t s = some r) (hH : d_V t h s) : p_wp p_GT p_MT 7 m_X11_lasts 17 ls [] h (d_QJ t r) := by
  unfold F_X11_lasts_j17 at hF
  exact dw_ldc2 rfl rfl (dw_rJ rfl rfl (d_rll rfl) hH hF)
set_option maxRecDepth 100000 in
noncomputable def F_X11_lasts_j53 (t : Nat → Option p_C) (x4 : Int) (x5 : Int) (y0 : Int) (s : d_S) : Option (Int × d_S) :=
  d_b (F_X11_divisor x4 x5) (fun v6 => d_g (¬ v6 = 0) (some ((d_div y0 v6), s)))
set_option maxRecDepth 100000 in
theorem D_X11_lasts_j53 {t : Nat → Option p_C} {h : p_H} {s : d_S} {x4 : Int} {x5 : Int} {y0 : Int} {r : Int × d_S} {ls : p_Ls} (hF : F_X11_lasts_j53 t x4 x5 y0 s = some r) (hH : d_V t h s) (r_x4 : d_R x4) (l4 : p_lk 4 ls = some (.int (Int32.ofInt x4))) (r_x5 : d_R x5) (l5 : p_lk 5 ls = some (.int (Int32.ofInt x5))) (r_y0 : d_R y0) : p_wp p_GT p_MT 7 m_X11_lasts 53 ls [.int (Int32.ofInt y0)] h (d_QJ t r) := by
  unfold F_X11_lasts_j53 at hF
  exact dw_il rfl l4 (dw_il rfl l5 (dw_sP hF rfl rfl rfl rfl rfl (dc := 1) (fun _ e => D_X11_divisor e r_x4 r_x5) (fun v6 r_v6 hF => d_gd hF (fun g7 hF => dw_div rfl r_v6 g7 (dw_i2l rfl d_R_t (dw_rJ rfl rfl (d_RL_R d_R_t) hH hF))))))
set_option maxRecDepth 100000 in
noncomputable def F_X11_lasts (t : Nat → Option p_C) (s : d_S) (x1 : Int) (x2 : Int) (x3 : Int) : Option (Int × d_S) :=
  d_b (F_X11_isBlock s x1) (fun v1 => if v1 = 0 then
  F_X11_lasts_j17 t s
  else
  d_b (F_X11_within x2 0 4) (fun v2 => if v2 = 0 then
  F_X11_lasts_j17 t s
  else
  d_b2 (F_X2_lasting t s x1 x2) (fun v3 s4 => d_b (F_X2_ofAll x2) (fun v5 => if x3 = 0 then
  F_X11_lasts_j53 t v3 v5 v3 s4
  else
  F_X11_lasts_j53 t v3 v5 v5 s4))))
set_option maxRecDepth 100000 in
theorem D_X11_lasts {t : Nat → Option p_C} {h : p_H} {s : d_S} {x1 : Int} {x2 : Int} {x3 : Int} {r : Int × d_S} (hF : F_X11_lasts t s x1 x2 x3 = some r) (hH : d_V t h s) (r_x1 : d_R x1) (r_x2 : d_R x2) (r_x3 : d_R x3) : p_wp p_GT p_MT 7 m_X11_lasts 0 (lv_args 0 [.ref 2, .int (Int32.ofInt x1), .int (Int32.ofInt x2), .int (Int32.ofInt x3)]) [] h (d_QJ t r) := by
  unfold F_X11_lasts at hF
  refine dw_aln rfl rfl (dw_iln rfl rfl (dw_vB hF rfl (d_vir (n := 2) rfl rfl rfl rfl rfl hH d_c2_0 rfl) rfl rfl rfl (dc := 1) (fun _ e => D_X11_isBlock e hH r_x1) (fun v1 r_v1 hF => ?_)))
  refine d_if hF (fun q hF => ?_) (fun q hF => ?_)
  · refine dw_zeq_y rfl (u := 17) rfl (d_R_b r_v1) q ?_
    exact D_X11_lasts_j17 hF hH
  · refine dw_zeq_n rfl (u := 17) rfl (d_R_b r_v1) q ?_
    refine dw_iln rfl rfl (dw_ic rfl (dw_ic rfl (dw_sB hF rfl rfl rfl rfl rfl (dc := 0) (fun _ e => D_X11_within e r_x2 (d_rl rfl) (d_rl rfl)) (fun v2 r_v2 hF => ?_))))
    refine d_if hF (fun q hF => ?_) (fun q hF => ?_)
    · refine dw_zne_y rfl (u := 21) rfl (d_R_b r_v2) q ?_
      exact D_X11_lasts_j17 hF hH
    · refine dw_zne_n rfl (u := 21) rfl (d_R_b r_v2) q ?_
      refine dw_aln rfl rfl (dw_gr rfl rfl rfl hH d_c2_5 (dw_iln rfl rfl (dw_iln rfl rfl (dw_vI hF rfl (d_vir (n := 3) rfl rfl rfl rfl rfl hH d_c51_0 rfl) rfl rfl rfl (dc := 6) (fun _ _ e => D_X2_lasting e hH r_x1 r_x2) (fun v3 s4 h4 hH4 r_v3 hF => dw_is rfl rfl (dw_aln rfl (d_s1 rfl rfl (by decide)) (dw_gr rfl rfl rfl hH4 d_c2_5 (dw_iln rfl (d_s1 rfl rfl (by decide)) (dw_vP hF rfl (d_vir (n := 2) rfl rfl rfl rfl rfl hH4 d_c51_0 rfl) rfl rfl rfl (dc := 0) (fun _ e => D_X2_ofAll e r_x2) (fun v5 r_v5 hF => ?_))))))))))
      refine dw_is rfl rfl (dw_iln rfl (d_s1 (d_s1 rfl rfl (by decide)) rfl (by decide)) (?_))
      refine d_if hF (fun q hF => ?_) (fun q hF => ?_)
      · refine dw_zeq_y rfl (u := 51) rfl r_x3 q ?_
        refine dw_il rfl (d_s1 p_lk_s1 rfl (by decide)) (?_)
        exact D_X11_lasts_j53 hF hH4 r_v3 (d_s1 p_lk_s1 rfl (by decide)) r_v5 p_lk_s1 r_v3
      · refine dw_zeq_n rfl (u := 51) rfl r_x3 q ?_
        refine dw_il rfl p_lk_s1 (dw_go rfl (u := 53) rfl (?_))
        exact D_X11_lasts_j53 hF hH4 r_v3 (d_s1 p_lk_s1 rfl (by decide)) r_v5 p_lk_s1 r_v5
set_option maxRecDepth 100000 in
noncomputable def F_X10_isLike_6 (s : d_S) (x1 : Int) (x2 : Int) : Option (Int) :=
  d_b (F_X10_markOf_6 s x1) (fun v1 => d_b (F_X10_markOf_6 s x2) (fun v2 => if v1 = v2 then
  some 1
  else
  some 0))
set_option maxRecDepth 100000 in
theorem D_X10_isLike_6 {t : Nat → Option p_C} {h : p_H} {s : d_S} {x1 : Int} {x2 : Int} {r : Int} (hF : F_X10_isLike_6 s x1 x2 = some r) (hH : d_V t h s) (r_x1 : d_R x1) (r_x2 : d_R x2) : p_wp p_GT p_MT 1 m_X10_isLike 0 (lv_args 0 [.ref 6, .int (Int32.ofInt x1), .int (Int32.ofInt x2)]) [] h (d_QB h r) := by
  unfold F_X10_isLike_6 at hF
  refine dw_aln rfl rfl (dw_iln rfl rfl (dw_vP hF rfl (d_vir (n := 2) rfl rfl rfl rfl rfl hH d_c6_0 rfl) rfl rfl rfl (dc := 0) (fun _ e => D_X10_markOf_6 e hH r_x1) (fun v1 r_v1 hF => dw_aln rfl rfl (dw_iln rfl rfl (dw_vP hF rfl (d_vir (n := 2) rfl rfl rfl rfl rfl hH d_c6_0 rfl) rfl rfl rfl (dc := 0) (fun _ e => D_X10_markOf_6 e hH r_x2) (fun v2 r_v2 hF => ?_))))))
  refine d_if hF (fun q hF => ?_) (fun q hF => ?_)
  · refine dw_ne_y rfl (u := 17) rfl r_v1 r_v2 q ?_
    exact dw_ic rfl (dw_go rfl (u := 18) rfl (dw_rB rfl rfl (Or.inr rfl) hF))
  · refine dw_ne_n rfl (u := 17) rfl r_v1 r_v2 q ?_
    exact dw_ic rfl (dw_rB rfl rfl (Or.inl rfl) hF)
set_option maxRecDepth 100000 in
noncomputable def F_X11_hasLikeBefore_l2_b (s : d_S) (rec : Int → Int → Option (Int)) (x1 : Int) (x2 : Int) : Option (Int) :=
  if x2 < x1 then
  d_b (F_X10_isLike_6 s x1 x2) (fun v1 => if v1 = 0 then
  rec x1 (d_w (x2 + 1))
  else
  d_b (F_X4_sizeOf s x2) (fun v2 => d_b (F_X4_sizeOf s x1) (fun v3 => if v2 = v3 then
  d_b (F_X4_edgeOf s x2) (fun v4 => d_b (F_X4_edgeOf s x1) (fun v5 => if v4 = v5 then
  some 1
  else
  rec x1 (d_w (x2 + 1))))
  else
  rec x1 (d_w (x2 + 1)))))
  else
  some 0
set_option maxRecDepth 100000 in
noncomputable def F_X11_hasLikeBefore_l2 (s : d_S) : Nat → Int → Int → Option (Int)
  | 0 => fun _ _ => none
  | n + 1 => F_X11_hasLikeBefore_l2_b s (F_X11_hasLikeBefore_l2 s n)
set_option maxRecDepth 100000 in
theorem D_X11_hasLikeBefore_l2 {t : Nat → Option p_C} {h : p_H} {s : d_S} {r : Int} (hH : d_V t h s) : ∀ (n : Nat) {x1 : Int} {x2 : Int} {ls : p_Ls}, F_X11_hasLikeBefore_l2 s n x1 x2 = some r → p_lk 0 ls = some (.ref 2) → d_R x1 → p_lk 1 ls = some (.int (Int32.ofInt x1)) → d_R x2 → p_lk 2 ls = some (.int (Int32.ofInt x2)) → p_wp p_GT p_MT 2 m_X11_hasLikeBefore 2 ls [] h (d_QB h r) := by
  intro n
  induction n with
  | zero =>
    intro x1 x2 ls hF l0 r_x1 l1 r_x2 l2
    cases (show (none : Option (Int)) = some r from hF)
  | succ n ih =>
    intro x1 x2 ls hF l0 r_x1 l1 r_x2 l2
    have hF : F_X11_hasLikeBefore_l2_b s (F_X11_hasLikeBefore_l2 s n) x1 x2 = some r := hF
    unfold F_X11_hasLikeBefore_l2_b at hF
    refine dw_iln rfl l2 (dw_iln rfl l1 (?_))
    refine d_if hF (fun q hF => ?_) (fun q hF => ?_)
    · refine dw_ge_y rfl (u := 68) rfl r_x2 r_x1 q ?_
      refine dw_aln rfl l0 (dw_gr rfl rfl rfl hH d_c2_0 (dw_gr rfl rfl rfl hH d_c3_8 (dw_iln rfl l1 (dw_iln rfl l2 (dw_vB hF rfl (d_vir (n := 3) rfl rfl rfl rfl rfl hH d_c6_0 rfl) rfl rfl rfl (dc := 1) (fun _ e => D_X10_isLike_6 e hH r_x1 r_x2) (fun v1 r_v1 hF => ?_))))))
      refine d_if hF (fun q hF => ?_) (fun q hF => ?_)
      · refine dw_zeq_y rfl (u := 62) rfl (d_R_b r_v1) q ?_
        refine dw_ii rfl l2 rfl (dw_go rfl (u := 2) rfl (?_))
        exact ih hF (d_s1 l0 rfl (by decide)) r_x1 (d_s1 l1 rfl (by decide)) d_R_w p_lk_s1
      · refine dw_zeq_n rfl (u := 62) rfl (d_R_b r_v1) q ?_
        refine dw_aln rfl l0 (dw_gr rfl rfl rfl hH d_c2_2 (dw_iln rfl l2 (dw_vP hF rfl (d_vir (n := 2) rfl rfl rfl rfl rfl hH d_c37_0 rfl) rfl rfl rfl (dc := 1) (fun _ e => D_X4_sizeOf e hH r_x2) (fun v2 r_v2 hF => dw_aln rfl l0 (dw_gr rfl rfl rfl hH d_c2_2 (dw_iln rfl l1 (dw_vP hF rfl (d_vir (n := 2) rfl rfl rfl rfl rfl hH d_c37_0 rfl) rfl rfl rfl (dc := 1) (fun _ e => D_X4_sizeOf e hH r_x1) (fun v3 r_v3 hF => ?_))))))))
        refine d_if hF (fun q hF => ?_) (fun q hF => ?_)
        · refine dw_ne_y rfl (u := 62) rfl r_v2 r_v3 q ?_
          refine dw_aln rfl l0 (dw_gr rfl rfl rfl hH d_c2_2 (dw_iln rfl l2 (dw_vP hF rfl (d_vir (n := 2) rfl rfl rfl rfl rfl hH d_c37_0 rfl) rfl rfl rfl (dc := 1) (fun _ e => D_X4_edgeOf e hH r_x2) (fun v4 r_v4 hF => dw_aln rfl l0 (dw_gr rfl rfl rfl hH d_c2_2 (dw_iln rfl l1 (dw_vP hF rfl (d_vir (n := 2) rfl rfl rfl rfl rfl hH d_c37_0 rfl) rfl rfl rfl (dc := 1) (fun _ e => D_X4_edgeOf e hH r_x1) (fun v5 r_v5 hF => ?_))))))))
          refine d_if hF (fun q hF => ?_) (fun q hF => ?_)
          · refine dw_ne_y rfl (u := 62) rfl r_v4 r_v5 q ?_
            exact dw_ic rfl (dw_rB rfl rfl (Or.inr rfl) hF)
          · refine dw_ne_n rfl (u := 62) rfl r_v4 r_v5 q ?_
            refine dw_ii rfl l2 rfl (dw_go rfl (u := 2) rfl (?_))
            exact ih hF (d_s1 l0 rfl (by decide)) r_x1 (d_s1 l1 rfl (by decide)) d_R_w p_lk_s1
        · refine dw_ne_n rfl (u := 62) rfl r_v2 r_v3 q ?_
          refine dw_ii rfl l2 rfl (dw_go rfl (u := 2) rfl (?_))
          exact ih hF (d_s1 l0 rfl (by decide)) r_x1 (d_s1 l1 rfl (by decide)) d_R_w p_lk_s1
    · refine dw_ge_n rfl (u := 68) rfl r_x2 r_x1 q ?_
      exact dw_ic rfl (dw_rB rfl rfl (Or.inl rfl) hF)
set_option maxRecDepth 100000 in
noncomputable def F_X11_hasLikeBefore (s : d_S) (x1 : Int) : Option (Int) :=
  F_X11_hasLikeBefore_l2 s d_N x1 0
set_option maxRecDepth 100000 in
theorem D_X11_hasLikeBefore {t : Nat → Option p_C} {h : p_H} {s : d_S} {x1 : Int} {r : Int} (hF : F_X11_hasLikeBefore s x1 = some r) (hH : d_V t h s) (r_x1 : d_R x1) : p_wp p_GT p_MT 2 m_X11_hasLikeBefore 0 (lv_args 0 [.ref 2, .int (Int32.ofInt x1)]) [] h (d_QB h r) := by
  unfold F_X11_hasLikeBefore at hF
  refine dw_ic rfl (dw_isn rfl rfl (?_))
  exact D_X11_hasLikeBefore_l2 hH _ hF (d_s1 rfl rfl (by decide)) r_x1 (d_s1 rfl rfl (by decide)) (d_rl rfl) p_lk_s1
set_option maxRecDepth 100000 in
noncomputable def F_X11_sellFirst_l18_b (t : Nat → Option p_C) (rec : Int → Int → Int → Int → d_S → Option (Int × d_S)) (x1 : Int) (x2 : Int) (x3 : Int) (x4 : Int) (s : d_S) : Option (Int × d_S) :=
  if x4 < (s.1 37 5) then
  d_b (F_X11_canSell s x4) (fun v2 => if v2 = 0 then
  rec x1 x2 x3 (d_w (x4 + 1)) s
  else
  d_b (F_X11_hasLikeBefore s x4) (fun v3 => if v3 = 0 then
  d_b2 (F_X2_lasting t s x4 x1) (fun v4 s5 => if x2 = (-1) then
  rec x1 x4 v4 (d_w (x4 + 1)) s5
  else
  if v4 < x3 then
  rec x1 x4 v4 (d_w (x4 + 1)) s5
  else
  rec x1 x2 x3 (d_w (x4 + 1)) s5)
  else
  rec x1 x2 x3 (d_w (x4 + 1)) s))
  else
  some (x2, s)
set_option maxRecDepth 100000 in
noncomputable def F_X11_sellFirst_l18 (t : Nat → Option p_C) : Nat → Int → Int → Int → Int → d_S → Option (Int × d_S)
  | 0 => fun _ _ _ _ _ => none
  | n + 1 => F_X11_sellFirst_l18_b t (F_X11_sellFirst_l18 t n)
set_option maxRecDepth 100000 in
theorem D_X11_sellFirst_l18 {t : Nat → Option p_C} {r : Int × d_S} : ∀ (n : Nat) {x1 : Int} {x2 : Int} {x3 : Int} {x4 : Int} {ls : p_Ls} {s : d_S} {h : p_H}, F_X11_sellFirst_l18 t n x1 x2 x3 x4 s = some r → d_V t h s → p_lk 0 ls = some (.ref 2) → d_R x1 → p_lk 1 ls = some (.int (Int32.ofInt x1)) → d_R x2 → p_lk 2 ls = some (.int (Int32.ofInt x2)) → d_R x3 → p_lk 3 ls = some (.int (Int32.ofInt x3)) → d_R x4 → p_lk 4 ls = some (.int (Int32.ofInt x4)) → p_wp p_GT p_MT 7 m_X11_sellFirst 18 ls [] h (d_QI t r) := by
  intro n
  induction n with
  | zero =>
    intro x1 x2 x3 x4 ls s h hF hH l0 r_x1 l1 r_x2 l2 r_x3 l3 r_x4 l4
    cases (show (none : Option (Int × d_S)) = some r from hF)
  | succ n ih =>
    intro x1 x2 x3 x4 ls s h hF hH l0 r_x1 l1 r_x2 l2 r_x3 l3 r_x4 l4
    have hF : F_X11_sellFirst_l18_b t (F_X11_sellFirst_l18 t n) x1 x2 x3 x4 s = some r := hF
    unfold F_X11_sellFirst_l18_b at hF
    refine dw_il rfl l4 (dw_aln rfl l0 (dw_gr rfl rfl rfl hH d_c2_2 (dw_gi (k := 5) rfl rfl rfl hH d_c37_5 (?_))))
    refine d_if hF (fun q hF => ?_) (fun q hF => ?_)
    · refine dw_ge_y rfl (u := 83) rfl r_x4 hH.r q ?_
      refine dw_aln rfl l0 (dw_il rfl l4 (dw_vB hF rfl (d_vir (n := 2) rfl rfl rfl rfl rfl hH d_c2_0 rfl) rfl rfl rfl (dc := 2) (fun _ e => D_X11_canSell e hH r_x4) (fun v2 r_v2 hF => ?_)))
      refine d_if hF (fun q hF => ?_) (fun q hF => ?_)
      · refine dw_zeq_y rfl (u := 77) rfl (d_R_b r_v2) q ?_
        refine dw_ii rfl l4 rfl (dw_go rfl (u := 18) rfl (?_))
        exact ih hF hH (d_s1 l0 rfl (by decide)) r_x1 (d_s1 l1 rfl (by decide)) r_x2 (d_s1 l2 rfl (by decide)) r_x3 (d_s1 l3 rfl (by decide)) d_R_w p_lk_s1
      · refine dw_zeq_n rfl (u := 77) rfl (d_R_b r_v2) q ?_
        refine dw_aln rfl l0 (dw_il rfl l4 (dw_vB hF rfl (d_vir (n := 2) rfl rfl rfl rfl rfl hH d_c2_0 rfl) rfl rfl rfl (dc := 2) (fun _ e => D_X11_hasLikeBefore e hH r_x4) (fun v3 r_v3 hF => ?_)))
        refine d_if hF (fun q hF => ?_) (fun q hF => ?_)
        · refine dw_zne_y rfl (u := 77) rfl (d_R_b r_v3) q ?_
          refine dw_aln rfl l0 (dw_gr rfl rfl rfl hH d_c2_5 (dw_il rfl l4 (dw_iln rfl l1 (dw_vI hF rfl (d_vir (n := 3) rfl rfl rfl rfl rfl hH d_c51_0 rfl) rfl rfl rfl (dc := 6) (fun _ _ e => D_X2_lasting e hH r_x4 r_x1) (fun v4 s5 h5 hH5 r_v4 hF => dw_is rfl rfl (dw_iln rfl (d_s1 l2 rfl (by decide)) (dw_ic rfl (?_))))))))
          refine d_if hF (fun q hF => ?_) (fun q hF => ?_)
          · refine dw_eq_y rfl (u := 71) rfl r_x2 (d_rl rfl) q ?_
            refine dw_il rfl (d_s1 l4 rfl (by decide)) (dw_isn rfl rfl (dw_il rfl (d_s1 p_lk_s1 rfl (by decide)) (dw_isn rfl rfl (dw_ii rfl (d_s1 (d_s1 (d_s1 l4 rfl (by decide)) rfl (by decide)) rfl (by decide)) rfl (dw_go rfl (u := 18) rfl (?_))))))
            exact ih hF hH5 (d_s1 (d_s1 (d_s1 (d_s1 l0 rfl (by decide)) rfl (by decide)) rfl (by decide)) rfl (by decide)) r_x1 (d_s1 (d_s1 (d_s1 (d_s1 l1 rfl (by decide)) rfl (by decide)) rfl (by decide)) rfl (by decide)) r_x4 (d_s1 (d_s1 p_lk_s1 rfl (by decide)) rfl (by decide)) r_v4 (d_s1 p_lk_s1 rfl (by decide)) d_R_w p_lk_s1
          · refine dw_eq_n rfl (u := 71) rfl r_x2 (d_rl rfl) q ?_
            refine dw_il rfl p_lk_s1 (dw_iln rfl (d_s1 l3 rfl (by decide)) (?_))
            refine d_if hF (fun q hF => ?_) (fun q hF => ?_)
            · refine dw_ge_y rfl (u := 77) rfl r_v4 r_x3 q ?_
              refine dw_il rfl (d_s1 l4 rfl (by decide)) (dw_isn rfl rfl (dw_il rfl (d_s1 p_lk_s1 rfl (by decide)) (dw_isn rfl rfl (dw_ii rfl (d_s1 (d_s1 (d_s1 l4 rfl (by decide)) rfl (by decide)) rfl (by decide)) rfl (dw_go rfl (u := 18) rfl (?_))))))
              exact ih hF hH5 (d_s1 (d_s1 (d_s1 (d_s1 l0 rfl (by decide)) rfl (by decide)) rfl (by decide)) rfl (by decide)) r_x1 (d_s1 (d_s1 (d_s1 (d_s1 l1 rfl (by decide)) rfl (by decide)) rfl (by decide)) rfl (by decide)) r_x4 (d_s1 (d_s1 p_lk_s1 rfl (by decide)) rfl (by decide)) r_v4 (d_s1 p_lk_s1 rfl (by decide)) d_R_w p_lk_s1
            · refine dw_ge_n rfl (u := 77) rfl r_v4 r_x3 q ?_
              refine dw_ii rfl (d_s1 l4 rfl (by decide)) rfl (dw_go rfl (u := 18) rfl (?_))
              exact ih hF hH5 (d_s1 (d_s1 l0 rfl (by decide)) rfl (by decide)) r_x1 (d_s1 (d_s1 l1 rfl (by decide)) rfl (by decide)) r_x2 (d_s1 (d_s1 l2 rfl (by decide)) rfl (by decide)) r_x3 (d_s1 (d_s1 l3 rfl (by decide)) rfl (by decide)) d_R_w p_lk_s1
        · refine dw_zne_n rfl (u := 77) rfl (d_R_b r_v3) q ?_
          refine dw_ii rfl l4 rfl (dw_go rfl (u := 18) rfl (?_))
          exact ih hF hH (d_s1 l0 rfl (by decide)) r_x1 (d_s1 l1 rfl (by decide)) r_x2 (d_s1 l2 rfl (by decide)) r_x3 (d_s1 l3 rfl (by decide)) d_R_w p_lk_s1
    · refine dw_ge_n rfl (u := 83) rfl r_x4 hH.r q ?_
      exact dw_iln rfl l2 (dw_rI rfl rfl r_x2 hH hF)
set_option maxRecDepth 100000 in
noncomputable def F_X11_sellFirst (t : Nat → Option p_C) (s : d_S) (x1 : Int) : Option (Int × d_S) :=
  d_b (F_X11_within x1 0 4) (fun v1 => if v1 = 0 then
  some ((-1), s)
  else
  F_X11_sellFirst_l18 t d_N x1 (-1) 0 0 s)
set_option maxRecDepth 100000 in
theorem D_X11_sellFirst {t : Nat → Option p_C} {h : p_H} {s : d_S} {x1 : Int} {r : Int × d_S} (hF : F_X11_sellFirst t s x1 = some r) (hH : d_V t h s) (r_x1 : d_R x1) : p_wp p_GT p_MT 7 m_X11_sellFirst 0 (lv_args 0 [.ref 2, .int (Int32.ofInt x1)]) [] h (d_QI t r) := by
  unfold F_X11_sellFirst at hF
  refine dw_iln rfl rfl (dw_ic rfl (dw_ic rfl (dw_sB hF rfl rfl rfl rfl rfl (dc := 0) (fun _ e => D_X11_within e r_x1 (d_rl rfl) (d_rl rfl)) (fun v1 r_v1 hF => ?_))))
  refine d_if hF (fun q hF => ?_) (fun q hF => ?_)
  · refine dw_zne_y rfl (u := 11) rfl (d_R_b r_v1) q ?_
    exact dw_ic rfl (dw_rI rfl rfl (d_rl rfl) hH hF)
  · refine dw_zne_n rfl (u := 11) rfl (d_R_b r_v1) q ?_
    refine dw_ic rfl (dw_isn rfl rfl (dw_ic rfl (dw_isn rfl rfl (dw_ic rfl (dw_is rfl rfl (?_))))))
    exact D_X11_sellFirst_l18 _ hF hH (d_s1 (d_s1 (d_s1 rfl rfl (by decide)) rfl (by decide)) rfl (by decide)) r_x1 (d_s1 (d_s1 (d_s1 rfl rfl (by decide)) rfl (by decide)) rfl (by decide)) (d_rl rfl) (d_s1 (d_s1 p_lk_s1 rfl (by decide)) rfl (by decide)) (d_rl rfl) (d_s1 p_lk_s1 rfl (by decide)) (d_rl rfl) p_lk_s1
set_option maxRecDepth 100000 in
noncomputable def F_X8_none_10 (s : d_S) : Option (Int × d_S) :=
  d_l (d_si s 10 2 0) (fun s1 => some (0, s1))
set_option maxRecDepth 100000 in
theorem D_X8_none_10 {t : Nat → Option p_C} {h : p_H} {s : d_S} {r : Int × d_S} (hF : F_X8_none_10 s = some r) (hH : d_V t h s) : p_wp p_GT p_MT 0 m_X8_none 0 (lv_args 0 [.ref 10]) [] h (d_QI t r) := by
  unfold F_X8_none_10 at hF
  exact dw_aln rfl rfl (dw_ic rfl (dw_pi (k := 2) rfl rfl rfl rfl hH d_c10_2 (d_rl rfl) (by decide) hF (fun s1 h1 hH1 hF => dw_ic rfl (dw_rI rfl rfl (d_rl rfl) hH1 hF))))
set_option maxRecDepth 100000 in
noncomputable def F_X8_add_10 (s : d_S) (x1 : Int) (x2 : Int) (x3 : Int) (x4 : Int) : Option (Int × d_S) :=
  if (s.1 10 2) < (s.1 10 0) then
  if (d_w ((s.1 10 2) * 4)) < 0 then
  some ((-2), s)
  else
  if 32 < (d_w ((d_w ((s.1 10 2) * 4)) + 4)) then
  some ((-2), s)
  else
  d_g (0 ≤ (d_w ((s.1 10 2) * 4)) ∧ (d_w ((s.1 10 2) * 4)) < 32) (d_l (d_si s 11 (((d_w ((s.1 10 2) * 4))).toNat) x1) (fun s2 => d_g (0 ≤ (d_w ((d_w ((s.1 10 2) * 4)) + 1)) ∧ (d_w ((d_w ((s.1 10 2) * 4)) + 1)) < 32) (d_l (d_si s2 11 (((d_w ((d_w ((s.1 10 2) * 4)) + 1))).toNat) x2) (fun s4 => d_g (0 ≤ (d_w ((d_w ((s.1 10 2) * 4)) + 2)) ∧ (d_w ((d_w ((s.1 10 2) * 4)) + 2)) < 32) (d_l (d_si s4 11 (((d_w ((d_w ((s.1 10 2) * 4)) + 2))).toNat) x3) (fun s6 => d_g (0 ≤ (d_w ((d_w ((s.1 10 2) * 4)) + 3)) ∧ (d_w ((d_w ((s.1 10 2) * 4)) + 3)) < 32) (d_l (d_si s6 11 (((d_w ((d_w ((s.1 10 2) * 4)) + 3))).toNat) x4) (fun s8 => d_l (d_si s8 10 2 (d_w ((s8.1 10 2) + 1))) (fun s9 => some ((s9.1 10 2), s9))))))))))
  else
  some ((-2), s)
set_option maxRecDepth 100000 in
theorem D_X8_add_10 {t : Nat → Option p_C} {h : p_H} {s : d_S} {x1 : Int} {x2 : Int} {x3 : Int} {x4 : Int} {r : Int × d_S} (hF : F_X8_add_10 s x1 x2 x3 x4 = some r) (hH : d_V t h s) (r_x1 : d_R x1) (r_x2 : d_R x2) (r_x3 : d_R x3) (r_x4 : d_R x4) : p_wp p_GT p_MT 0 m_X8_add 0 (lv_args 0 [.ref 10, .int (Int32.ofInt x1), .int (Int32.ofInt x2), .int (Int32.ofInt x3), .int (Int32.ofInt x4)]) [] h (d_QI t r) := by
  unfold F_X8_add_10 at hF
  refine dw_aln rfl rfl (dw_gi (k := 2) rfl rfl rfl hH d_c10_2 (dw_ic rfl (dw_mul rfl (dw_w1 (dw_is rfl rfl (dw_aln rfl (d_s1 rfl rfl (by decide)) (dw_gi (k := 2) rfl rfl rfl hH d_c10_2 (dw_aln rfl (d_s1 rfl rfl (by decide)) (dw_gi (k := 0) rfl rfl rfl hH d_c10_0 (?_))))))))))
  refine d_if hF (fun q hF => ?_) (fun q hF => ?_)
  · refine dw_ge_y rfl (u := 36) rfl hH.r hH.r q ?_
    refine dw_il rfl p_lk_s1 (?_)
    refine d_if hF (fun q hF => ?_) (fun q hF => ?_)
    · refine dw_zlt_y rfl (u := 36) rfl d_R_w q ?_
      exact dw_bp rfl rfl (dw_rI rfl rfl (d_rl rfl) hH hF)
    · refine dw_zlt_n rfl (u := 36) rfl d_R_w q ?_
      refine dw_il rfl p_lk_s1 (dw_ic rfl (dw_add rfl (dw_aln rfl (d_s1 rfl rfl (by decide)) (dw_gr rfl rfl rfl hH d_c10_1 (dw_len rfl hH d_a11 rfl (z := 32) rfl (dw_w2 (?_)))))))
      refine d_if hF (fun q hF => ?_) (fun q hF => ?_)
      · refine dw_le_y rfl (u := 39) rfl d_R_w (d_rl rfl) q ?_
        exact dw_bp rfl rfl (dw_rI rfl rfl (d_rl rfl) hH hF)
      · refine dw_le_n rfl (u := 39) rfl d_R_w (d_rl rfl) q ?_
        refine dw_aln rfl (d_s1 rfl rfl (by decide)) (dw_gr rfl rfl rfl hH d_c10_1 (dw_il rfl p_lk_s1 (dw_iln rfl (d_s1 rfl rfl (by decide)) (d_gd hF (fun g1 hF => dw_ast rfl hH d_a11 g1.1 g1.2 d_R_w rfl r_x1 hF (fun s2 h2 hH2 hF => dw_aln rfl (d_s1 rfl rfl (by decide)) (dw_gr rfl rfl rfl hH2 d_c10_1 (dw_il rfl p_lk_s1 (dw_ic rfl (?_))))))))))
        refine dw_add rfl (dw_iln rfl (d_s1 rfl rfl (by decide)) (dw_w2 (d_gd hF (fun g3 hF => dw_ast rfl hH2 d_a11 g3.1 g3.2 d_R_w rfl r_x2 hF (fun s4 h4 hH4 hF => dw_aln rfl (d_s1 rfl rfl (by decide)) (dw_gr rfl rfl rfl hH4 d_c10_1 (dw_il rfl p_lk_s1 (dw_ic rfl (dw_add rfl (?_))))))))))
        refine dw_iln rfl (d_s1 rfl rfl (by decide)) (dw_w2 (d_gd hF (fun g5 hF => dw_ast rfl hH4 d_a11 g5.1 g5.2 d_R_w rfl r_x3 hF (fun s6 h6 hH6 hF => dw_aln rfl (d_s1 rfl rfl (by decide)) (dw_gr rfl rfl rfl hH6 d_c10_1 (dw_il rfl p_lk_s1 (dw_ic rfl (dw_add rfl (dw_il rfl (d_s1 rfl rfl (by decide)) (?_))))))))))
        refine dw_w2 (d_gd hF (fun g7 hF => dw_ast rfl hH6 d_a11 g7.1 g7.2 d_R_w rfl r_x4 hF (fun s8 h8 hH8 hF => dw_aln rfl (d_s1 rfl rfl (by decide)) (dw_dupr rfl (dw_gi (k := 2) rfl rfl rfl hH8 d_c10_2 (dw_ic rfl (dw_add rfl (dw_w1 (dw_pi (k := 2) rfl rfl rfl rfl hH8 d_c10_2 d_R_w (by decide) hF (fun s9 h9 hH9 hF => ?_))))))))))
        exact dw_aln rfl (d_s1 rfl rfl (by decide)) (dw_gi (k := 2) rfl rfl rfl hH9 d_c10_2 (dw_rI rfl rfl hH9.r hH9 hF))
  · refine dw_ge_n rfl (u := 36) rfl hH.r hH.r q ?_
    exact dw_bp rfl rfl (dw_rI rfl rfl (d_rl rfl) hH hF)
set_option maxRecDepth 100000 in
noncomputable def F_X11_order (s : d_S) (x1 : Int) (x2 : Int) (x3 : Int) : Option (Int × d_S) :=
  if x1 = (-1) then
  d_b2 (F_X8_none_10 s) (fun v1 s2 => some (v1, s2))
  else
  d_b (F_X11_within x1 0 9) (fun v3 => if v3 = 0 then
  some ((-2), s)
  else
  d_b (F_X11_within x2 0 999) (fun v4 => if v4 = 0 then
  some ((-2), s)
  else
  d_b (F_X11_within x3 1 99) (fun v5 => if v5 = 0 then
  some ((-2), s)
  else
  d_b2 (F_X8_add_10 s x1 x2 x3 0) (fun v6 s7 => some (v6, s7)))))
set_option maxRecDepth 100000 in
theorem D_X11_order {t : Nat → Option p_C} {h : p_H} {s : d_S} {x1 : Int} {x2 : Int} {x3 : Int} {r : Int × d_S} (hF : F_X11_order s x1 x2 x3 = some r) (hH : d_V t h s) (r_x1 : d_R x1) (r_x2 : d_R x2) (r_x3 : d_R x3) : p_wp p_GT p_MT 1 m_X11_order 0 (lv_args 0 [.ref 2, .int (Int32.ofInt x1), .int (Int32.ofInt x2), .int (Int32.ofInt x3)]) [] h (d_QI t r) := by
  unfold F_X11_order at hF
  refine dw_iln rfl rfl (dw_ic rfl (?_))
  refine d_if hF (fun q hF => ?_) (fun q hF => ?_)
  · refine dw_ne_y rfl (u := 16) rfl r_x1 (d_rl rfl) q ?_
    exact dw_aln rfl rfl (dw_gr rfl rfl rfl hH d_c2_0 (dw_gr rfl rfl rfl hH d_c3_10 (dw_vI hF rfl (d_vir (n := 1) rfl rfl rfl rfl rfl hH d_c10_0 rfl) rfl rfl rfl (dc := 0) (fun _ _ e => D_X8_none_10 e hH) (fun v1 s2 h2 hH2 r_v1 hF => dw_rI rfl rfl r_v1 hH2 hF))))
  · refine dw_ne_n rfl (u := 16) rfl r_x1 (d_rl rfl) q ?_
    refine dw_iln rfl rfl (dw_ic rfl (dw_bp rfl rfl (dw_sB hF rfl rfl rfl rfl rfl (dc := 0) (fun _ e => D_X11_within e r_x1 (d_rl rfl) (d_rl rfl)) (fun v3 r_v3 hF => ?_))))
    refine d_if hF (fun q hF => ?_) (fun q hF => ?_)
    · refine dw_zeq_y rfl (u := 47) rfl (d_R_b r_v3) q ?_
      exact dw_bp rfl rfl (dw_rI rfl rfl (d_rl rfl) hH hF)
    · refine dw_zeq_n rfl (u := 47) rfl (d_R_b r_v3) q ?_
      refine dw_iln rfl rfl (dw_ic rfl (dw_sp rfl rfl (dw_sB hF rfl rfl rfl rfl rfl (dc := 0) (fun _ e => D_X11_within e r_x2 (d_rl rfl) (d_rl rfl)) (fun v4 r_v4 hF => ?_))))
      refine d_if hF (fun q hF => ?_) (fun q hF => ?_)
      · refine dw_zeq_y rfl (u := 47) rfl (d_R_b r_v4) q ?_
        exact dw_bp rfl rfl (dw_rI rfl rfl (d_rl rfl) hH hF)
      · refine dw_zeq_n rfl (u := 47) rfl (d_R_b r_v4) q ?_
        refine dw_iln rfl rfl (dw_ic rfl (dw_bp rfl rfl (dw_sB hF rfl rfl rfl rfl rfl (dc := 0) (fun _ e => D_X11_within e r_x3 (d_rl rfl) (d_rl rfl)) (fun v5 r_v5 hF => ?_))))
        refine d_if hF (fun q hF => ?_) (fun q hF => ?_)
        · refine dw_zne_y rfl (u := 50) rfl (d_R_b r_v5) q ?_
          exact dw_bp rfl rfl (dw_rI rfl rfl (d_rl rfl) hH hF)
        · refine dw_zne_n rfl (u := 50) rfl (d_R_b r_v5) q ?_
          exact dw_aln rfl rfl (dw_gr rfl rfl rfl hH d_c2_0 (dw_gr rfl rfl rfl hH d_c3_10 (dw_iln rfl rfl (dw_iln rfl rfl (dw_iln rfl rfl (dw_ic rfl (dw_vI hF rfl (d_vir (n := 5) rfl rfl rfl rfl rfl hH d_c10_0 rfl) rfl rfl rfl (dc := 0) (fun _ _ e => D_X8_add_10 e hH r_x1 r_x2 r_x3 (d_rl rfl)) (fun v6 s7 h7 hH7 r_v6 hF => dw_rI rfl rfl r_v6 hH7 hF))))))))
set_option maxRecDepth 100000 in
noncomputable def F_X8_none_12 (s : d_S) : Option (Int × d_S) :=
  d_l (d_si s 12 2 0) (fun s1 => some (0, s1))
set_option maxRecDepth 100000 in
theorem D_X8_none_12 {t : Nat → Option p_C} {h : p_H} {s : d_S} {r : Int × d_S} (hF : F_X8_none_12 s = some r) (hH : d_V t h s) : p_wp p_GT p_MT 0 m_X8_none 0 (lv_args 0 [.ref 12]) [] h (d_QI t r) := by
  unfold F_X8_none_12 at hF
  exact dw_aln rfl rfl (dw_ic rfl (dw_pi (k := 2) rfl rfl rfl rfl hH d_c12_2 (d_rl rfl) (by decide) hF (fun s1 h1 hH1 hF => dw_ic rfl (dw_rI rfl rfl (d_rl rfl) hH1 hF))))
set_option maxRecDepth 100000 in
noncomputable def F_X8_add_12 (s : d_S) (x1 : Int) (x2 : Int) (x3 : Int) (x4 : Int) : Option (Int × d_S) :=
  if (s.1 12 2) < (s.1 12 0) then
  if (d_w ((s.1 12 2) * 4)) < 0 then
  some ((-2), s)
  else
  if 32 < (d_w ((d_w ((s.1 12 2) * 4)) + 4)) then
  some ((-2), s)
  else
  d_g (0 ≤ (d_w ((s.1 12 2) * 4)) ∧ (d_w ((s.1 12 2) * 4)) < 32) (d_l (d_si s 13 (((d_w ((s.1 12 2) * 4))).toNat) x1) (fun s2 => d_g (0 ≤ (d_w ((d_w ((s.1 12 2) * 4)) + 1)) ∧ (d_w ((d_w ((s.1 12 2) * 4)) + 1)) < 32) (d_l (d_si s2 13 (((d_w ((d_w ((s.1 12 2) * 4)) + 1))).toNat) x2) (fun s4 => d_g (0 ≤ (d_w ((d_w ((s.1 12 2) * 4)) + 2)) ∧ (d_w ((d_w ((s.1 12 2) * 4)) + 2)) < 32) (d_l (d_si s4 13 (((d_w ((d_w ((s.1 12 2) * 4)) + 2))).toNat) x3) (fun s6 => d_g (0 ≤ (d_w ((d_w ((s.1 12 2) * 4)) + 3)) ∧ (d_w ((d_w ((s.1 12 2) * 4)) + 3)) < 32) (d_l (d_si s6 13 (((d_w ((d_w ((s.1 12 2) * 4)) + 3))).toNat) x4) (fun s8 => d_l (d_si s8 12 2 (d_w ((s8.1 12 2) + 1))) (fun s9 => some ((s9.1 12 2), s9))))))))))
  else
  some ((-2), s)
set_option maxRecDepth 100000 in
theorem D_X8_add_12 {t : Nat → Option p_C} {h : p_H} {s : d_S} {x1 : Int} {x2 : Int} {x3 : Int} {x4 : Int} {r : Int × d_S} (hF : F_X8_add_12 s x1 x2 x3 x4 = some r) (hH : d_V t h s) (r_x1 : d_R x1) (r_x2 : d_R x2) (r_x3 : d_R x3) (r_x4 : d_R x4) : p_wp p_GT p_MT 0 m_X8_add 0 (lv_args 0 [.ref 12, .int (Int32.ofInt x1), .int (Int32.ofInt x2), .int (Int32.ofInt x3), .int (Int32.ofInt x4)]) [] h (d_QI t r) := by
  unfold F_X8_add_12 at hF
  refine dw_aln rfl rfl (dw_gi (k := 2) rfl rfl rfl hH d_c12_2 (dw_ic rfl (dw_mul rfl (dw_w1 (dw_is rfl rfl (dw_aln rfl (d_s1 rfl rfl (by decide)) (dw_gi (k := 2) rfl rfl rfl hH d_c12_2 (dw_aln rfl (d_s1 rfl rfl (by decide)) (dw_gi (k := 0) rfl rfl rfl hH d_c12_0 (?_))))))))))
  refine d_if hF (fun q hF => ?_) (fun q hF => ?_)
  · refine dw_ge_y rfl (u := 36) rfl hH.r hH.r q ?_
    refine dw_il rfl p_lk_s1 (?_)
    refine d_if hF (fun q hF => ?_) (fun q hF => ?_)
    · refine dw_zlt_y rfl (u := 36) rfl d_R_w q ?_
      exact dw_bp rfl rfl (dw_rI rfl rfl (d_rl rfl) hH hF)
    · refine dw_zlt_n rfl (u := 36) rfl d_R_w q ?_
      refine dw_il rfl p_lk_s1 (dw_ic rfl (dw_add rfl (dw_aln rfl (d_s1 rfl rfl (by decide)) (dw_gr rfl rfl rfl hH d_c12_1 (dw_len rfl hH d_a13 rfl (z := 32) rfl (dw_w2 (?_)))))))
      refine d_if hF (fun q hF => ?_) (fun q hF => ?_)
      · refine dw_le_y rfl (u := 39) rfl d_R_w (d_rl rfl) q ?_
        exact dw_bp rfl rfl (dw_rI rfl rfl (d_rl rfl) hH hF)
      · refine dw_le_n rfl (u := 39) rfl d_R_w (d_rl rfl) q ?_
        refine dw_aln rfl (d_s1 rfl rfl (by decide)) (dw_gr rfl rfl rfl hH d_c12_1 (dw_il rfl p_lk_s1 (dw_iln rfl (d_s1 rfl rfl (by decide)) (d_gd hF (fun g1 hF => dw_ast rfl hH d_a13 g1.1 g1.2 d_R_w rfl r_x1 hF (fun s2 h2 hH2 hF => dw_aln rfl (d_s1 rfl rfl (by decide)) (dw_gr rfl rfl rfl hH2 d_c12_1 (dw_il rfl p_lk_s1 (dw_ic rfl (?_))))))))))
        refine dw_add rfl (dw_iln rfl (d_s1 rfl rfl (by decide)) (dw_w2 (d_gd hF (fun g3 hF => dw_ast rfl hH2 d_a13 g3.1 g3.2 d_R_w rfl r_x2 hF (fun s4 h4 hH4 hF => dw_aln rfl (d_s1 rfl rfl (by decide)) (dw_gr rfl rfl rfl hH4 d_c12_1 (dw_il rfl p_lk_s1 (dw_ic rfl (dw_add rfl (?_))))))))))
        refine dw_iln rfl (d_s1 rfl rfl (by decide)) (dw_w2 (d_gd hF (fun g5 hF => dw_ast rfl hH4 d_a13 g5.1 g5.2 d_R_w rfl r_x3 hF (fun s6 h6 hH6 hF => dw_aln rfl (d_s1 rfl rfl (by decide)) (dw_gr rfl rfl rfl hH6 d_c12_1 (dw_il rfl p_lk_s1 (dw_ic rfl (dw_add rfl (dw_il rfl (d_s1 rfl rfl (by decide)) (?_))))))))))
        refine dw_w2 (d_gd hF (fun g7 hF => dw_ast rfl hH6 d_a13 g7.1 g7.2 d_R_w rfl r_x4 hF (fun s8 h8 hH8 hF => dw_aln rfl (d_s1 rfl rfl (by decide)) (dw_dupr rfl (dw_gi (k := 2) rfl rfl rfl hH8 d_c12_2 (dw_ic rfl (dw_add rfl (dw_w1 (dw_pi (k := 2) rfl rfl rfl rfl hH8 d_c12_2 d_R_w (by decide) hF (fun s9 h9 hH9 hF => ?_))))))))))
        exact dw_aln rfl (d_s1 rfl rfl (by decide)) (dw_gi (k := 2) rfl rfl rfl hH9 d_c12_2 (dw_rI rfl rfl hH9.r hH9 hF))
  · refine dw_ge_n rfl (u := 36) rfl hH.r hH.r q ?_
    exact dw_bp rfl rfl (dw_rI rfl rfl (d_rl rfl) hH hF)
set_option maxRecDepth 100000 in
noncomputable def F_X11_glass (s : d_S) (x1 : Int) (x2 : Int) (x3 : Int) (x4 : Int) : Option (Int × d_S) :=
  if x1 = (-1) then
  d_b2 (F_X8_none_12 s) (fun v1 s2 => some (v1, s2))
  else
  d_b (F_X11_within x1 0 9) (fun v3 => if v3 = 0 then
  some ((-2), s)
  else
  d_b (F_X11_within x2 0 63) (fun v4 => if v4 = 0 then
  some ((-2), s)
  else
  d_b (F_X11_within x3 0 100) (fun v5 => if v5 = 0 then
  some ((-2), s)
  else
  d_b (F_X11_bit x4) (fun v6 => d_b2 (F_X8_add_12 s x1 x2 x3 v6) (fun v7 s8 => some (v7, s8))))))
set_option maxRecDepth 100000 in
theorem D_X11_glass {t : Nat → Option p_C} {h : p_H} {s : d_S} {x1 : Int} {x2 : Int} {x3 : Int} {x4 : Int} {r : Int × d_S} (hF : F_X11_glass s x1 x2 x3 x4 = some r) (hH : d_V t h s) (r_x1 : d_R x1) (r_x2 : d_R x2) (r_x3 : d_R x3) (r_x4 : d_R x4) : p_wp p_GT p_MT 1 m_X11_glass 0 (lv_args 0 [.ref 2, .int (Int32.ofInt x1), .int (Int32.ofInt x2), .int (Int32.ofInt x3), .int (Int32.ofInt x4)]) [] h (d_QI t r) := by
  unfold F_X11_glass at hF
  refine dw_iln rfl rfl (dw_ic rfl (?_))
  refine d_if hF (fun q hF => ?_) (fun q hF => ?_)
  · refine dw_ne_y rfl (u := 16) rfl r_x1 (d_rl rfl) q ?_
    exact dw_aln rfl rfl (dw_gr rfl rfl rfl hH d_c2_0 (dw_gr rfl rfl rfl hH d_c3_11 (dw_vI hF rfl (d_vir (n := 1) rfl rfl rfl rfl rfl hH d_c12_0 rfl) rfl rfl rfl (dc := 0) (fun _ _ e => D_X8_none_12 e hH) (fun v1 s2 h2 hH2 r_v1 hF => dw_rI rfl rfl r_v1 hH2 hF))))
  · refine dw_ne_n rfl (u := 16) rfl r_x1 (d_rl rfl) q ?_
    refine dw_iln rfl rfl (dw_ic rfl (dw_bp rfl rfl (dw_sB hF rfl rfl rfl rfl rfl (dc := 0) (fun _ e => D_X11_within e r_x1 (d_rl rfl) (d_rl rfl)) (fun v3 r_v3 hF => ?_))))
    refine d_if hF (fun q hF => ?_) (fun q hF => ?_)
    · refine dw_zeq_y rfl (u := 46) rfl (d_R_b r_v3) q ?_
      exact dw_bp rfl rfl (dw_rI rfl rfl (d_rl rfl) hH hF)
    · refine dw_zeq_n rfl (u := 46) rfl (d_R_b r_v3) q ?_
      refine dw_iln rfl rfl (dw_ic rfl (dw_bp rfl rfl (dw_sB hF rfl rfl rfl rfl rfl (dc := 0) (fun _ e => D_X11_within e r_x2 (d_rl rfl) (d_rl rfl)) (fun v4 r_v4 hF => ?_))))
      refine d_if hF (fun q hF => ?_) (fun q hF => ?_)
      · refine dw_zeq_y rfl (u := 46) rfl (d_R_b r_v4) q ?_
        exact dw_bp rfl rfl (dw_rI rfl rfl (d_rl rfl) hH hF)
      · refine dw_zeq_n rfl (u := 46) rfl (d_R_b r_v4) q ?_
        refine dw_iln rfl rfl (dw_ic rfl (dw_bp rfl rfl (dw_sB hF rfl rfl rfl rfl rfl (dc := 0) (fun _ e => D_X11_within e r_x3 (d_rl rfl) (d_rl rfl)) (fun v5 r_v5 hF => ?_))))
        refine d_if hF (fun q hF => ?_) (fun q hF => ?_)
        · refine dw_zne_y rfl (u := 49) rfl (d_R_b r_v5) q ?_
          exact dw_bp rfl rfl (dw_rI rfl rfl (d_rl rfl) hH hF)
        · refine dw_zne_n rfl (u := 49) rfl (d_R_b r_v5) q ?_
          exact dw_aln rfl rfl (dw_gr rfl rfl rfl hH d_c2_0 (dw_gr rfl rfl rfl hH d_c3_11 (dw_iln rfl rfl (dw_iln rfl rfl (dw_iln rfl rfl (dw_il rfl rfl (dw_sP hF rfl rfl rfl rfl rfl (dc := 0) (fun _ e => D_X11_bit e r_x4) (fun v6 r_v6 hF => dw_vI hF rfl (d_vir (n := 5) rfl rfl rfl rfl rfl hH d_c12_0 rfl) rfl rfl rfl (dc := 0) (fun _ _ e => D_X8_add_12 e hH r_x1 r_x2 r_x3 r_v6) (fun v7 s8 h8 hH8 r_v7 hF => dw_rI rfl rfl r_v7 hH8 hF)))))))))

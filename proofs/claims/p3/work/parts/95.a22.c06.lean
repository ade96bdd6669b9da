set_option maxRecDepth 100000 in
noncomputable def F_X11_sawing_j42 (x1 : Int) (x2 : Int) (x3 : Int) (s : d_S) : Option (Int × d_S) :=
  some ((-1), s)
set_option maxRecDepth 100000 in
theorem D_X11_sawing_j42 {t : Nat → Option p_C} {h : p_H} {s : d_S} {x1 : Int} {x2 : Int} {x3 : Int} {r : Int × d_S} {ls : p_Ls} (hF : F_X11_sawing_j42 x1 x2 x3 s = some r) (hH : d_V t h s) (l0 : p_lk 0 ls = some (.ref 2)) (r_x1 : d_R x1) (l1 : p_lk 1 ls = some (.int (Int32.ofInt x1))) (r_x2 : d_R x2) (l2 : p_lk 2 ls = some (.int (Int32.ofInt x2))) (r_x3 : d_R x3) (l3 : p_lk 3 ls = some (.int (Int32.ofInt x3))) : p_wp p_GT p_MT 3 m_X11_sawing 42 ls [] h (d_QI t r) := by
  unfold F_X11_sawing_j42 at hF
  exact dw_ic rfl (dw_is rfl rfl (dw_il rfl p_lk_s1 (dw_zne_y rfl (u := 52) rfl (d_rl rfl) (by decide) (dw_ic rfl (dw_rI rfl rfl (d_rl rfl) hH hF)))))
set_option maxRecDepth 100000 in
noncomputable def F_X11_sawing_j154 (k82 : Int → Int → Int → Int → Int → Int → Int → d_S → Option (Int × d_S)) (x2 : Int) (x3 : Int) (x5 : Int) (x6 : Int) (x7 : Int) (x8 : Int) (x9 : Int) (x10 : Int) (y0 : Int) (s : d_S) : Option (Int × d_S) :=
  if x6 < y0 then
  k82 x2 x3 x5 y0 x9 x10 (d_w (x9 + 1)) s
  else
  k82 x2 x3 x5 x6 x7 x8 (d_w (x9 + 1)) s
set_option maxRecDepth 100000 in
theorem D_X11_sawing_j154 {t : Nat → Option p_C} {h : p_H} {s : d_S} {k82 : Int → Int → Int → Int → Int → Int → Int → d_S → Option (Int × d_S)} {x2 : Int} {x3 : Int} {x5 : Int} {x6 : Int} {x7 : Int} {x8 : Int} {x9 : Int} {x10 : Int} {y0 : Int} {r : Int × d_S} {ls : p_Ls} (hF : F_X11_sawing_j154 k82 x2 x3 x5 x6 x7 x8 x9 x10 y0 s = some r) (hH : d_V t h s) (l0 : p_lk 0 ls = some (.ref 2)) (r_x2 : d_R x2) (l2 : p_lk 2 ls = some (.int (Int32.ofInt x2))) (r_x3 : d_R x3) (l3 : p_lk 3 ls = some (.int (Int32.ofInt x3))) (r_x5 : d_R x5) (l5 : p_lk 5 ls = some (.int (Int32.ofInt x5))) (r_x6 : d_R x6) (l6 : p_lk 6 ls = some (.int (Int32.ofInt x6))) (r_x7 : d_R x7) (l7 : p_lk 7 ls = some (.int (Int32.ofInt x7))) (r_x8 : d_R x8) (l8 : p_lk 8 ls = some (.int (Int32.ofInt x8))) (r_x9 : d_R x9) (l9 : p_lk 9 ls = some (.int (Int32.ofInt x9))) (r_x10 : d_R x10) (l10 : p_lk 10 ls = some (.int (Int32.ofInt x10))) (r_y0 : d_R y0) (hk82 : ∀ {x2 : Int} {x3 : Int} {x5 : Int} {x6 : Int} {x7 : Int} {x8 : Int} {x9 : Int} {ls : p_Ls} {s : d_S} {h : p_H}, k82 x2 x3 x5 x6 x7 x8 x9 s = some r → d_V t h s → p_lk 0 ls = some (.ref 2) → d_R x2 → p_lk 2 ls = some (.int (Int32.ofInt x2)) → d_R x3 → p_lk 3 ls = some (.int (Int32.ofInt x3)) → d_R x5 → p_lk 5 ls = some (.int (Int32.ofInt x5)) → d_R x6 → p_lk 6 ls = some (.int (Int32.ofInt x6)) → d_R x7 → p_lk 7 ls = some (.int (Int32.ofInt x7)) → d_R x8 → p_lk 8 ls = some (.int (Int32.ofInt x8)) → d_R x9 → p_lk 9 ls = some (.int (Int32.ofInt x9)) → p_wp p_GT p_MT 3 m_X11_sawing 82 ls [] h (d_QI t r)) : p_wp p_GT p_MT 3 m_X11_sawing 154 ls [.int (Int32.ofInt y0)] h (d_QI t r) := by
  unfold F_X11_sawing_j154 at hF
  refine dw_is rfl rfl (dw_il rfl p_lk_s1 (dw_il rfl (d_s1 l6 rfl (by decide)) (?_)))
  refine d_if hF (fun q hF => ?_) (fun q hF => ?_)
  · refine dw_le_y rfl (u := 175) rfl r_y0 r_x6 q ?_
    refine dw_il rfl p_lk_s1 (dw_is rfl rfl (dw_il rfl (d_s1 (d_s1 l9 rfl (by decide)) rfl (by decide)) (dw_is rfl rfl (dw_il rfl (d_s1 (d_s1 (d_s1 l10 rfl (by decide)) rfl (by decide)) rfl (by decide)) (dw_is rfl rfl (dw_ii rfl (d_s1 (d_s1 (d_s1 (d_s1 l9 rfl (by decide)) rfl (by decide)) rfl (by decide)) rfl (by decide)) rfl (dw_go rfl (u := 82) rfl (?_))))))))
    exact hk82 hF hH (d_s1 (d_s1 (d_s1 (d_s1 (d_s1 l0 rfl (by decide)) rfl (by decide)) rfl (by decide)) rfl (by decide)) rfl (by decide)) r_x2 (d_s1 (d_s1 (d_s1 (d_s1 (d_s1 l2 rfl (by decide)) rfl (by decide)) rfl (by decide)) rfl (by decide)) rfl (by decide)) r_x3 (d_s1 (d_s1 (d_s1 (d_s1 (d_s1 l3 rfl (by decide)) rfl (by decide)) rfl (by decide)) rfl (by decide)) rfl (by decide)) r_x5 (d_s1 (d_s1 (d_s1 (d_s1 (d_s1 l5 rfl (by decide)) rfl (by decide)) rfl (by decide)) rfl (by decide)) rfl (by decide)) r_y0 (d_s1 (d_s1 (d_s1 p_lk_s1 rfl (by decide)) rfl (by decide)) rfl (by decide)) r_x9 (d_s1 (d_s1 p_lk_s1 rfl (by decide)) rfl (by decide)) r_x10 (d_s1 p_lk_s1 rfl (by decide)) d_R_w p_lk_s1
  · refine dw_le_n rfl (u := 175) rfl r_y0 r_x6 q ?_
    refine dw_ii rfl (d_s1 l9 rfl (by decide)) rfl (dw_go rfl (u := 82) rfl (?_))
    exact hk82 hF hH (d_s1 (d_s1 l0 rfl (by decide)) rfl (by decide)) r_x2 (d_s1 (d_s1 l2 rfl (by decide)) rfl (by decide)) r_x3 (d_s1 (d_s1 l3 rfl (by decide)) rfl (by decide)) r_x5 (d_s1 (d_s1 l5 rfl (by decide)) rfl (by decide)) r_x6 (d_s1 (d_s1 l6 rfl (by decide)) rfl (by decide)) r_x7 (d_s1 (d_s1 l7 rfl (by decide)) rfl (by decide)) r_x8 (d_s1 (d_s1 l8 rfl (by decide)) rfl (by decide)) d_R_w p_lk_s1
set_option maxRecDepth 100000 in
noncomputable def F_X11_sawing_j127 (k82 : Int → Int → Int → Int → Int → Int → Int → d_S → Option (Int × d_S)) (x2 : Int) (x3 : Int) (x5 : Int) (x6 : Int) (x7 : Int) (x8 : Int) (x9 : Int) (y0 : Int) (s : d_S) : Option (Int × d_S) :=
  if y0 = (-1) then
  F_X11_sawing_j154 k82 x2 x3 x5 x6 x7 x8 x9 y0 (-1) s
  else
  d_b (F_J6_bitCount_0f7a4 x9) (fun v9 => d_b (F_J6_bitCount_0f7a4 y0) (fun v10 => F_X11_sawing_j154 k82 x2 x3 x5 x6 x7 x8 x9 y0 (d_w ((v9 + 1) * (v10 + 1))) s))
set_option maxRecDepth 100000 in
theorem D_X11_sawing_j127 {t : Nat → Option p_C} {h : p_H} {s : d_S} {k82 : Int → Int → Int → Int → Int → Int → Int → d_S → Option (Int × d_S)} {x2 : Int} {x3 : Int} {x5 : Int} {x6 : Int} {x7 : Int} {x8 : Int} {x9 : Int} {y0 : Int} {r : Int × d_S} {ls : p_Ls} (hF : F_X11_sawing_j127 k82 x2 x3 x5 x6 x7 x8 x9 y0 s = some r) (hH : d_V t h s) (l0 : p_lk 0 ls = some (.ref 2)) (r_x2 : d_R x2) (l2 : p_lk 2 ls = some (.int (Int32.ofInt x2))) (r_x3 : d_R x3) (l3 : p_lk 3 ls = some (.int (Int32.ofInt x3))) (r_x5 : d_R x5) (l5 : p_lk 5 ls = some (.int (Int32.ofInt x5))) (r_x6 : d_R x6) (l6 : p_lk 6 ls = some (.int (Int32.ofInt x6))) (r_x7 : d_R x7) (l7 : p_lk 7 ls = some (.int (Int32.ofInt x7))) (r_x8 : d_R x8) (l8 : p_lk 8 ls = some (.int (Int32.ofInt x8))) (r_x9 : d_R x9) (l9 : p_lk 9 ls = some (.int (Int32.ofInt x9))) (r_y0 : d_R y0) (hk82 : ∀ {x2 : Int} {x3 : Int} {x5 : Int} {x6 : Int} {x7 : Int} {x8 : Int} {x9 : Int} {ls : p_Ls} {s : d_S} {h : p_H}, k82 x2 x3 x5 x6 x7 x8 x9 s = some r → d_V t h s → p_lk 0 ls = some (.ref 2) → d_R x2 → p_lk 2 ls = some (.int (Int32.ofInt x2)) → d_R x3 → p_lk 3 ls = some (.int (Int32.ofInt x3)) → d_R x5 → p_lk 5 ls = some (.int (Int32.ofInt x5)) → d_R x6 → p_lk 6 ls = some (.int (Int32.ofInt x6)) → d_R x7 → p_lk 7 ls = some (.int (Int32.ofInt x7)) → d_R x8 → p_lk 8 ls = some (.int (Int32.ofInt x8)) → d_R x9 → p_lk 9 ls = some (.int (Int32.ofInt x9)) → p_wp p_GT p_MT 3 m_X11_sawing 82 ls [] h (d_QI t r)) : p_wp p_GT p_MT 3 m_X11_sawing 127 ls [.int (Int32.ofInt y0)] h (d_QI t r) := by
  unfold F_X11_sawing_j127 at hF
  refine dw_is rfl rfl (dw_il rfl p_lk_s1 (dw_ic rfl (?_)))
  refine d_if hF (fun q hF => ?_) (fun q hF => ?_)
  · refine dw_ne_y rfl (u := 139) rfl r_y0 (d_rl rfl) q ?_
    refine dw_ic rfl (dw_go rfl (u := 154) rfl (?_))
    exact D_X11_sawing_j154 hF hH (d_s1 l0 rfl (by decide)) r_x2 (d_s1 l2 rfl (by decide)) r_x3 (d_s1 l3 rfl (by decide)) r_x5 (d_s1 l5 rfl (by decide)) r_x6 (d_s1 l6 rfl (by decide)) r_x7 (d_s1 l7 rfl (by decide)) r_x8 (d_s1 l8 rfl (by decide)) r_x9 (d_s1 l9 rfl (by decide)) r_y0 p_lk_s1 (d_rl rfl) hk82
  · refine dw_ne_n rfl (u := 139) rfl r_y0 (d_rl rfl) q ?_
    refine dw_il rfl (d_s1 l9 rfl (by decide)) (dw_sP hF rfl rfl rfl rfl rfl (dc := 0) (fun _ e => D_J6_bitCount_0f7a4 e r_x9) (fun v9 r_v9 hF => dw_ic rfl (dw_add rfl (dw_il rfl p_lk_s1 (dw_sP hF rfl rfl rfl rfl rfl (dc := 0) (fun _ e => D_J6_bitCount_0f7a4 e r_y0) (fun v10 r_v10 hF => dw_ic rfl (dw_add rfl (dw_mul rfl (dw_w1 (?_))))))))))
    exact D_X11_sawing_j154 hF hH (d_s1 l0 rfl (by decide)) r_x2 (d_s1 l2 rfl (by decide)) r_x3 (d_s1 l3 rfl (by decide)) r_x5 (d_s1 l5 rfl (by decide)) r_x6 (d_s1 l6 rfl (by decide)) r_x7 (d_s1 l7 rfl (by decide)) r_x8 (d_s1 l8 rfl (by decide)) r_x9 (d_s1 l9 rfl (by decide)) r_y0 p_lk_s1 d_R_w hk82
set_option maxRecDepth 100000 in
noncomputable def F_X11_sawing_l82_b (k181 : Int → Int → Int → Int → d_S → Option (Int × d_S)) (rec : Int → Int → Int → Int → Int → Int → Int → d_S → Option (Int × d_S)) (x2 : Int) (x3 : Int) (x5 : Int) (x6 : Int) (x7 : Int) (x8 : Int) (x9 : Int) (s : d_S) : Option (Int × d_S) :=
  if x9 < (d_shl 1 ((s.1 3 0) - 1)) then
  if (d_and x9 x5) = 0 then
  d_b (F_X11_narrowest x9 (s.1 3 0)) (fun v7 => d_b (F_X11_levelSetFor s v7 x2) (fun v8 => F_X11_sawing_j127 rec x2 x3 x5 x6 x7 x8 x9 v8 s))
  else
  F_X11_sawing_j127 rec x2 x3 x5 x6 x7 x8 x9 (-1) s
  else
  k181 x3 x6 x7 x8 s
set_option maxRecDepth 100000 in
noncomputable def F_X11_sawing_l82 (k181 : Int → Int → Int → Int → d_S → Option (Int × d_S)) : Nat → Int → Int → Int → Int → Int → Int → Int → d_S → Option (Int × d_S)
  | 0 => fun _ _ _ _ _ _ _ _ => none
  | n + 1 => F_X11_sawing_l82_b k181 (F_X11_sawing_l82 k181 n)
set_option maxRecDepth 100000 in
theorem D_X11_sawing_l82 {t : Nat → Option p_C} {k181 : Int → Int → Int → Int → d_S → Option (Int × d_S)} {r : Int × d_S} (hk181 : ∀ {x3 : Int} {x6 : Int} {x7 : Int} {x8 : Int} {ls : p_Ls} {s : d_S} {h : p_H}, k181 x3 x6 x7 x8 s = some r → d_V t h s → d_R x3 → p_lk 3 ls = some (.int (Int32.ofInt x3)) → d_R x6 → p_lk 6 ls = some (.int (Int32.ofInt x6)) → d_R x7 → p_lk 7 ls = some (.int (Int32.ofInt x7)) → d_R x8 → p_lk 8 ls = some (.int (Int32.ofInt x8)) → p_wp p_GT p_MT 3 m_X11_sawing 181 ls [] h (d_QI t r)) : ∀ (n : Nat) {x2 : Int} {x3 : Int} {x5 : Int} {x6 : Int} {x7 : Int} {x8 : Int} {x9 : Int} {ls : p_Ls} {s : d_S} {h : p_H}, F_X11_sawing_l82 k181 n x2 x3 x5 x6 x7 x8 x9 s = some r → d_V t h s → p_lk 0 ls = some (.ref 2) → d_R x2 → p_lk 2 ls = some (.int (Int32.ofInt x2)) → d_R x3 → p_lk 3 ls = some (.int (Int32.ofInt x3)) → d_R x5 → p_lk 5 ls = some (.int (Int32.ofInt x5)) → d_R x6 → p_lk 6 ls = some (.int (Int32.ofInt x6)) → d_R x7 → p_lk 7 ls = some (.int (Int32.ofInt x7)) → d_R x8 → p_lk 8 ls = some (.int (Int32.ofInt x8)) → d_R x9 → p_lk 9 ls = some (.int (Int32.ofInt x9)) → p_wp p_GT p_MT 3 m_X11_sawing 82 ls [] h (d_QI t r) := by
  intro n
  induction n with
  | zero =>
    intro x2 x3 x5 x6 x7 x8 x9 ls s h hF hH l0 r_x2 l2 r_x3 l3 r_x5 l5 r_x6 l6 r_x7 l7 r_x8 l8 r_x9 l9
    cases (show (none : Option (Int × d_S)) = some r from hF)
  | succ n ih =>
    intro x2 x3 x5 x6 x7 x8 x9 ls s h hF hH l0 r_x2 l2 r_x3 l3 r_x5 l5 r_x6 l6 r_x7 l7 r_x8 l8 r_x9 l9
    have hF : F_X11_sawing_l82_b k181 (F_X11_sawing_l82 k181 n) x2 x3 x5 x6 x7 x8 x9 s = some r := hF
    unfold F_X11_sawing_l82_b at hF
    refine dw_il rfl l9 (dw_ic rfl (dw_aln rfl l0 (dw_gr rfl rfl rfl hH d_c2_0 (dw_gi (k := 0) rfl rfl rfl hH d_c3_0 (dw_ic rfl (dw_sub rfl (dw_shl rfl (?_))))))))
    refine d_if hF (fun q hF => ?_) (fun q hF => ?_)
    · refine dw_ge_y rfl (u := 181) rfl r_x9 d_R_t q ?_
      refine dw_il rfl l9 (dw_il rfl l5 (dw_and rfl (?_)))
      refine d_if hF (fun q hF => ?_) (fun q hF => ?_)
      · refine dw_zne_y rfl (u := 126) rfl d_R_t q ?_
        refine dw_aln rfl l0 (dw_il rfl l9 (dw_aln rfl l0 (dw_gr rfl rfl rfl hH d_c2_0 (dw_gi (k := 0) rfl rfl rfl hH d_c3_0 (dw_sP hF rfl rfl rfl rfl rfl (dc := 1) (fun _ e => D_X11_narrowest e r_x9 hH.r) (fun v7 r_v7 hF => dw_iln rfl l2 (dw_vP hF rfl (d_vir (n := 3) rfl rfl rfl rfl rfl hH d_c2_0 rfl) rfl rfl rfl (dc := 1) (fun _ e => D_X11_levelSetFor e hH r_v7 r_x2) (fun v8 r_v8 hF => dw_go rfl (u := 127) rfl (?_)))))))))
        exact D_X11_sawing_j127 hF hH l0 r_x2 l2 r_x3 l3 r_x5 l5 r_x6 l6 r_x7 l7 r_x8 l8 r_x9 l9 r_v8 (fun {x2} {x3} {x5} {x6} {x7} {x8} {x9} {ls} {s} {h} hF hH l0 r_x2 l2 r_x3 l3 r_x5 l5 r_x6 l6 r_x7 l7 r_x8 l8 r_x9 l9 => ih hF hH l0 r_x2 l2 r_x3 l3 r_x5 l5 r_x6 l6 r_x7 l7 r_x8 l8 r_x9 l9)
      · refine dw_zne_n rfl (u := 126) rfl d_R_t q ?_
        refine dw_ic rfl (?_)
        exact D_X11_sawing_j127 hF hH l0 r_x2 l2 r_x3 l3 r_x5 l5 r_x6 l6 r_x7 l7 r_x8 l8 r_x9 l9 (d_rl rfl) (fun {x2} {x3} {x5} {x6} {x7} {x8} {x9} {ls} {s} {h} hF hH l0 r_x2 l2 r_x3 l3 r_x5 l5 r_x6 l6 r_x7 l7 r_x8 l8 r_x9 l9 => ih hF hH l0 r_x2 l2 r_x3 l3 r_x5 l5 r_x6 l6 r_x7 l7 r_x8 l8 r_x9 l9)
    · refine dw_ge_n rfl (u := 181) rfl r_x9 d_R_t q ?_
      exact hk181 hF hH r_x3 l3 r_x6 l6 r_x7 l7 r_x8 l8
set_option maxRecDepth 100000 in
noncomputable def F_X11_sawing (s : d_S) (x1 : Int) (x2 : Int) (x3 : Int) : Option (Int × d_S) :=
  d_b (F_X11_within x1 0 (d_w ((d_shl 1 (s.1 3 3)) - 1))) (fun v1 => if v1 = 0 then
  F_X11_sawing_j42 x1 x2 x3 s
  else
  d_b (F_X11_within x2 1 64) (fun v2 => if v2 = 0 then
  F_X11_sawing_j42 x1 x2 x3 s
  else
  d_b (F_X11_within x3 0 2) (fun v3 => if v3 = 0 then
  F_X11_sawing_j42 x1 x2 x3 s
  else
  d_b (F_X11_linesThrough s x1 1) (fun v4 => d_b (F_X11_linesThrough s x1 0) (fun v5 => d_b (F_X11_findLevelSets s v5) (fun s6 => F_X11_sawing_l82 (fun x3_u11 x6_u11 x7_u11 x8_u11 s_u11 =>
  if x3_u11 = 0 then
  some (x6_u11, s_u11)
  else
  if x3_u11 = 1 then
  some (x7_u11, s_u11)
  else
  some (x8_u11, s_u11)) d_N x2 x3 v4 (-1) (-1) (-1) 0 s6))))))
set_option maxRecDepth 100000 in
theorem D_X11_sawing {t : Nat → Option p_C} {h : p_H} {s : d_S} {x1 : Int} {x2 : Int} {x3 : Int} {r : Int × d_S} (hF : F_X11_sawing s x1 x2 x3 = some r) (hH : d_V t h s) (r_x1 : d_R x1) (r_x2 : d_R x2) (r_x3 : d_R x3) : p_wp p_GT p_MT 3 m_X11_sawing 0 (lv_args 0 [.ref 2, .int (Int32.ofInt x1), .int (Int32.ofInt x2), .int (Int32.ofInt x3)]) [] h (d_QI t r) := by
  unfold F_X11_sawing at hF
  refine dw_iln rfl rfl (dw_ic rfl (dw_ic rfl (dw_aln rfl rfl (dw_gr rfl rfl rfl hH d_c2_0 (dw_gi (k := 3) rfl rfl rfl hH d_c3_3 (dw_shl rfl (dw_ic rfl (dw_sub rfl (dw_w1 (?_))))))))))
  refine dw_sB hF rfl rfl rfl rfl rfl (dc := 0) (fun _ e => D_X11_within e r_x1 (d_rl rfl) d_R_w) (fun v1 r_v1 hF => ?_)
  refine d_if hF (fun q hF => ?_) (fun q hF => ?_)
  · refine dw_zeq_y rfl (u := 42) rfl (d_R_b r_v1) q ?_
    exact D_X11_sawing_j42 hF hH rfl r_x1 rfl r_x2 rfl r_x3 rfl
  · refine dw_zeq_n rfl (u := 42) rfl (d_R_b r_v1) q ?_
    refine dw_iln rfl rfl (dw_ic rfl (dw_bp rfl rfl (dw_sB hF rfl rfl rfl rfl rfl (dc := 0) (fun _ e => D_X11_within e r_x2 (d_rl rfl) (d_rl rfl)) (fun v2 r_v2 hF => ?_))))
    refine d_if hF (fun q hF => ?_) (fun q hF => ?_)
    · refine dw_zeq_y rfl (u := 42) rfl (d_R_b r_v2) q ?_
      exact D_X11_sawing_j42 hF hH rfl r_x1 rfl r_x2 rfl r_x3 rfl
    · refine dw_zeq_n rfl (u := 42) rfl (d_R_b r_v2) q ?_
      refine dw_iln rfl rfl (dw_ic rfl (dw_ic rfl (dw_sB hF rfl rfl rfl rfl rfl (dc := 0) (fun _ e => D_X11_within e r_x3 (d_rl rfl) (d_rl rfl)) (fun v3 r_v3 hF => ?_))))
      refine d_if hF (fun q hF => ?_) (fun q hF => ?_)
      · refine dw_zeq_y rfl (u := 42) rfl (d_R_b r_v3) q ?_
        exact D_X11_sawing_j42 hF hH rfl r_x1 rfl r_x2 rfl r_x3 rfl
      · refine dw_zeq_n rfl (u := 42) rfl (d_R_b r_v3) q ?_
        refine dw_ic rfl (dw_go rfl (u := 43) rfl (dw_is rfl rfl (dw_il rfl p_lk_s1 (dw_zne_n rfl (u := 52) rfl (d_rl rfl) (by decide) (dw_aln rfl (d_s1 rfl rfl (by decide)) (dw_iln rfl (d_s1 rfl rfl (by decide)) (dw_ic rfl (dw_vP hF rfl (d_vir (n := 3) rfl rfl rfl rfl rfl hH d_c2_0 rfl) rfl rfl rfl (dc := 1) (fun _ e => D_X11_linesThrough e hH r_x1 (d_rl rfl)) (fun v4 r_v4 hF => dw_is rfl rfl (?_))))))))))
        refine dw_aln rfl (d_s1 (d_s1 rfl rfl (by decide)) rfl (by decide)) (dw_aln rfl (d_s1 (d_s1 rfl rfl (by decide)) rfl (by decide)) (dw_iln rfl (d_s1 (d_s1 rfl rfl (by decide)) rfl (by decide)) (dw_ic rfl (dw_vP hF rfl (d_vir (n := 3) rfl rfl rfl rfl rfl hH d_c2_0 rfl) rfl rfl rfl (dc := 1) (fun _ e => D_X11_linesThrough e hH r_x1 (d_rl rfl)) (fun v5 r_v5 hF => dw_vV hF rfl (d_vir (n := 2) rfl rfl rfl rfl rfl hH d_c2_0 rfl) rfl rfl rfl (dc := 2) (fun _ e => D_X11_findLevelSets e hH r_v5) (fun s6 h6 hH6 hF => dw_ic rfl (dw_is rfl rfl (dw_ic rfl (dw_is rfl rfl (?_))))))))))
        refine dw_ic rfl (dw_is rfl rfl (dw_ic rfl (dw_is rfl rfl (?_))))
        refine D_X11_sawing_l82 (fun {x3_u11} {x6_u11} {x7_u11} {x8_u11} {ls_u11} {s_u11} {h_u11} hF hH_u11 r_x3_u11 l3_u11 r_x6_u11 l6_u11 r_x7_u11 l7_u11 r_x8_u11 l8_u11 => ?_) _ hF hH6 (d_s1 (d_s1 (d_s1 (d_s1 (d_s1 (d_s1 rfl rfl (by decide)) rfl (by decide)) rfl (by decide)) rfl (by decide)) rfl (by decide)) rfl (by decide)) r_x2 (d_s1 (d_s1 (d_s1 (d_s1 (d_s1 (d_s1 rfl rfl (by decide)) rfl (by decide)) rfl (by decide)) rfl (by decide)) rfl (by decide)) rfl (by decide)) r_x3 (d_s1 (d_s1 (d_s1 (d_s1 (d_s1 (d_s1 rfl rfl (by decide)) rfl (by decide)) rfl (by decide)) rfl (by decide)) rfl (by decide)) rfl (by decide)) r_v4 (d_s1 (d_s1 (d_s1 (d_s1 p_lk_s1 rfl (by decide)) rfl (by decide)) rfl (by decide)) rfl (by decide)) (d_rl rfl) (d_s1 (d_s1 (d_s1 p_lk_s1 rfl (by decide)) rfl (by decide)) rfl (by decide)) (d_rl rfl) (d_s1 (d_s1 p_lk_s1 rfl (by decide)) rfl (by decide)) (d_rl rfl) (d_s1 p_lk_s1 rfl (by decide)) (d_rl rfl) p_lk_s1
        · refine dw_iln rfl l3_u11 (?_)
          refine d_if hF (fun q hF => ?_) (fun q hF => ?_)
          · refine dw_zne_y rfl (u := 188) rfl r_x3_u11 q ?_
            exact dw_il rfl l6_u11 (dw_rI rfl rfl r_x6_u11 hH_u11 hF)
          · refine dw_zne_n rfl (u := 188) rfl r_x3_u11 q ?_
            refine dw_iln rfl l3_u11 (dw_ic rfl (?_))
            refine d_if hF (fun q hF => ?_) (fun q hF => ?_)
            · refine dw_ne_y rfl (u := 198) rfl r_x3_u11 (d_rl rfl) q ?_
              exact dw_il rfl l7_u11 (dw_go rfl (u := 200) rfl (dw_rI rfl rfl r_x7_u11 hH_u11 hF))
            · refine dw_ne_n rfl (u := 198) rfl r_x3_u11 (d_rl rfl) q ?_
              exact dw_il rfl l8_u11 (dw_rI rfl rfl r_x8_u11 hH_u11 hF)
set_option maxRecDepth 100000 in
noncomputable def F_X11_showingBehind_l4_b (t : Nat → Option p_C) (rec : Int → Int → Int → d_S → Option (Int × d_S)) (x1 : Int) (x2 : Int) (x3 : Int) (s : d_S) : Option (Int × d_S) :=
  if x3 < (s.1 37 5) then
  d_b (F_X4_sightsIn_3 s x3) (fun v1 => if v1 = 0 then
  rec x1 x2 (d_w (x3 + 1)) s
  else
  d_b (F_X0_start s x3) (fun s2 => d_b (F_X0_run t s2 x1) (fun s3 => d_b (F_X4_showingIn_3 s3 x3 (s3.1 47 9)) (fun v4 => rec x1 (d_or x2 v4) (d_w (x3 + 1)) s3))))
  else
  some (x2, s)
set_option maxRecDepth 100000 in
noncomputable def F_X11_showingBehind_l4 (t : Nat → Option p_C) : Nat → Int → Int → Int → d_S → Option (Int × d_S)
  | 0 => fun _ _ _ _ => none
  | n + 1 => F_X11_showingBehind_l4_b t (F_X11_showingBehind_l4 t n)
set_option maxRecDepth 100000 in
theorem D_X11_showingBehind_l4 {t : Nat → Option p_C} {r : Int × d_S} : ∀ (n : Nat) {x1 : Int} {x2 : Int} {x3 : Int} {ls : p_Ls} {s : d_S} {h : p_H}, F_X11_showingBehind_l4 t n x1 x2 x3 s = some r → d_V t h s → p_lk 0 ls = some (.ref 2) → d_R x1 → p_lk 1 ls = some (.int (Int32.ofInt x1)) → d_R x2 → p_lk 2 ls = some (.int (Int32.ofInt x2)) → d_R x3 → p_lk 3 ls = some (.int (Int32.ofInt x3)) → p_wp p_GT p_MT 5 m_X11_showingBehind 4 ls [] h (d_QI t r) := by
  intro n
  induction n with
  | zero =>
    intro x1 x2 x3 ls s h hF hH l0 r_x1 l1 r_x2 l2 r_x3 l3
    cases (show (none : Option (Int × d_S)) = some r from hF)
  | succ n ih =>
    intro x1 x2 x3 ls s h hF hH l0 r_x1 l1 r_x2 l2 r_x3 l3
    have hF : F_X11_showingBehind_l4_b t (F_X11_showingBehind_l4 t n) x1 x2 x3 s = some r := hF
    unfold F_X11_showingBehind_l4_b at hF
    refine dw_iln rfl l3 (dw_aln rfl l0 (dw_gr rfl rfl rfl hH d_c2_2 (dw_gi (k := 5) rfl rfl rfl hH d_c37_5 (?_))))
    refine d_if hF (fun q hF => ?_) (fun q hF => ?_)
    · refine dw_ge_y rfl (u := 74) rfl r_x3 hH.r q ?_
      refine dw_aln rfl l0 (dw_gr rfl rfl rfl hH d_c2_2 (dw_aln rfl l0 (dw_gr rfl rfl rfl hH d_c2_0 (dw_iln rfl l3 (dw_vP hF rfl (d_vir (n := 3) rfl rfl rfl rfl rfl hH d_c37_0 rfl) rfl rfl rfl (dc := 2) (fun _ e => D_X4_sightsIn_3 e hH r_x3) (fun v1 r_v1 hF => ?_))))))
      refine d_if hF (fun q hF => ?_) (fun q hF => ?_)
      · refine dw_zeq_y rfl (u := 68) rfl r_v1 q ?_
        refine dw_ii rfl l3 rfl (dw_go rfl (u := 4) rfl (?_))
        exact ih hF hH (d_s1 l0 rfl (by decide)) r_x1 (d_s1 l1 rfl (by decide)) r_x2 (d_s1 l2 rfl (by decide)) d_R_w p_lk_s1
      · refine dw_zeq_n rfl (u := 68) rfl r_v1 q ?_
        refine dw_aln rfl l0 (dw_gr rfl rfl rfl hH d_c2_4 (dw_iln rfl l3 (dw_vV hF rfl (d_vir (n := 2) rfl rfl rfl rfl rfl hH d_c47_0 rfl) rfl rfl rfl (dc := 2) (fun _ e => D_X0_start e hH r_x3) (fun s2 h2 hH2 hF => dw_aln rfl l0 (dw_gr rfl rfl rfl hH2 d_c2_4 (dw_iln rfl l1 (dw_vV hF rfl (d_vir (n := 2) rfl rfl rfl rfl rfl hH2 d_c47_0 rfl) rfl rfl rfl (dc := 4) (fun _ e => D_X0_run e hH2 r_x1) (fun s3 h3 hH3 hF => dw_iln rfl l2 (dw_aln rfl l0 (?_))))))))))
        refine dw_gr rfl rfl rfl hH3 d_c2_2 (dw_aln rfl l0 (dw_gr rfl rfl rfl hH3 d_c2_0 (dw_iln rfl l3 (dw_aln rfl l0 (dw_gr rfl rfl rfl hH3 d_c2_4 (dw_gi (k := 9) rfl rfl rfl hH3 d_c47_9 (dw_vP hF rfl (d_vir (n := 4) rfl rfl rfl rfl rfl hH3 d_c37_0 rfl) rfl rfl rfl (dc := 2) (fun _ e => D_X4_showingIn_3 e hH3 r_x3 hH3.r) (fun v4 r_v4 hF => dw_or rfl (dw_isn rfl rfl (?_))))))))))
        refine dw_ii rfl (d_s1 l3 rfl (by decide)) rfl (dw_go rfl (u := 4) rfl (?_))
        exact ih hF hH3 (d_s1 (d_s1 l0 rfl (by decide)) rfl (by decide)) r_x1 (d_s1 (d_s1 l1 rfl (by decide)) rfl (by decide)) d_R_t (d_s1 p_lk_s1 rfl (by decide)) d_R_w p_lk_s1
    · refine dw_ge_n rfl (u := 74) rfl r_x3 hH.r q ?_
      exact dw_iln rfl l2 (dw_rI rfl rfl r_x2 hH hF)
set_option maxRecDepth 100000 in
noncomputable def F_X11_showingBehind (t : Nat → Option p_C) (s : d_S) (x1 : Int) : Option (Int × d_S) :=
  F_X11_showingBehind_l4 t d_N x1 0 0 s
set_option maxRecDepth 100000 in
theorem D_X11_showingBehind {t : Nat → Option p_C} {h : p_H} {s : d_S} {x1 : Int} {r : Int × d_S} (hF : F_X11_showingBehind t s x1 = some r) (hH : d_V t h s) (r_x1 : d_R x1) : p_wp p_GT p_MT 5 m_X11_showingBehind 0 (lv_args 0 [.ref 2, .int (Int32.ofInt x1)]) [] h (d_QI t r) := by
  unfold F_X11_showingBehind at hF
  refine dw_ic rfl (dw_isn rfl rfl (dw_ic rfl (dw_isn rfl rfl (?_))))
  exact D_X11_showingBehind_l4 _ hF hH (d_s1 (d_s1 rfl rfl (by decide)) rfl (by decide)) r_x1 (d_s1 (d_s1 rfl rfl (by decide)) rfl (by decide)) (d_rl rfl) (d_s1 p_lk_s1 rfl (by decide)) (d_rl rfl) p_lk_s1
set_option maxRecDepth 100000 in
noncomputable def F_X11_foretold_j25 (t : Nat → Option p_C) (x1 : Int) (x2 : Int) (s : d_S) : Option (Int × d_S) :=
  if x2 = (-1) then
  d_b2 (F_X11_showingBehind t s x1) (fun v2 s3 => some (v2, s3))
  else
  d_b (F_X0_start s x2) (fun s4 => d_b (F_X0_run t s4 x1) (fun s5 => some ((s5.1 47 9), s5)))
set_option maxRecDepth 100000 in
theorem D_X11_foretold_j25 {t : Nat → Option p_C} {h : p_H} {s : d_S} {x1 : Int} {x2 : Int} {r : Int × d_S} {ls : p_Ls} (hF : F_X11_foretold_j25 t x1 x2 s = some r) (hH : d_V t h s) (l0 : p_lk 0 ls = some (.ref 2)) (r_x1 : d_R x1) (l1 : p_lk 1 ls = some (.int (Int32.ofInt x1))) (r_x2 : d_R x2) (l2 : p_lk 2 ls = some (.int (Int32.ofInt x2))) : p_wp p_GT p_MT 6 m_X11_foretold 25 ls [] h (d_QI t r) := by
  unfold F_X11_foretold_j25 at hF
  refine dw_iln rfl l2 (dw_ic rfl (?_))
  refine d_if hF (fun q hF => ?_) (fun q hF => ?_)
  · refine dw_ne_y rfl (u := 36) rfl r_x2 (d_rl rfl) q ?_
    exact dw_aln rfl l0 (dw_iln rfl l1 (dw_vI hF rfl (d_vir (n := 2) rfl rfl rfl rfl rfl hH d_c2_0 rfl) rfl rfl rfl (dc := 5) (fun _ _ e => D_X11_showingBehind e hH r_x1) (fun v2 s3 h3 hH3 r_v2 hF => dw_rI rfl rfl r_v2 hH3 hF)))
  · refine dw_ne_n rfl (u := 36) rfl r_x2 (d_rl rfl) q ?_
    refine dw_aln rfl l0 (dw_gr rfl rfl rfl hH d_c2_4 (dw_iln rfl l2 (dw_vV hF rfl (d_vir (n := 2) rfl rfl rfl rfl rfl hH d_c47_0 rfl) rfl rfl rfl (dc := 2) (fun _ e => D_X0_start e hH r_x2) (fun s4 h4 hH4 hF => dw_aln rfl l0 (dw_gr rfl rfl rfl hH4 d_c2_4 (dw_iln rfl l1 (dw_vV hF rfl (d_vir (n := 2) rfl rfl rfl rfl rfl hH4 d_c47_0 rfl) rfl rfl rfl (dc := 4) (fun _ e => D_X0_run e hH4 r_x1) (fun s5 h5 hH5 hF => dw_aln rfl l0 (dw_gr rfl rfl rfl hH5 d_c2_4 (?_))))))))))
    exact dw_gi (k := 9) rfl rfl rfl hH5 d_c47_9 (dw_rI rfl rfl hH5.r hH5 hF)
set_option maxRecDepth 100000 in
noncomputable def F_X11_foretold (t : Nat → Option p_C) (s : d_S) (x1 : Int) (x2 : Int) : Option (Int × d_S) :=
  d_b (F_X11_within x1 1 60) (fun v1 => if v1 = 0 then
  some ((-1), s)
  else
  if x2 = (-1) then
  F_X11_foretold_j25 t x1 x2 s
  else
  d_b (F_X11_isBlock s x2) (fun v6 => if v6 = 0 then
  some ((-1), s)
  else
  F_X11_foretold_j25 t x1 x2 s))
set_option maxRecDepth 100000 in
theorem D_X11_foretold {t : Nat → Option p_C} {h : p_H} {s : d_S} {x1 : Int} {x2 : Int} {r : Int × d_S} (hF : F_X11_foretold t s x1 x2 = some r) (hH : d_V t h s) (r_x1 : d_R x1) (r_x2 : d_R x2) : p_wp p_GT p_MT 6 m_X11_foretold 0 (lv_args 0 [.ref 2, .int (Int32.ofInt x1), .int (Int32.ofInt x2)]) [] h (d_QI t r) := by
  unfold F_X11_foretold at hF
  refine dw_iln rfl rfl (dw_ic rfl (dw_bp rfl rfl (dw_sB hF rfl rfl rfl rfl rfl (dc := 0) (fun _ e => D_X11_within e r_x1 (d_rl rfl) (d_rl rfl)) (fun v1 r_v1 hF => ?_))))
  refine d_if hF (fun q hF => ?_) (fun q hF => ?_)
  · refine dw_zeq_y rfl (u := 23) rfl (d_R_b r_v1) q ?_
    exact dw_ic rfl (dw_rI rfl rfl (d_rl rfl) hH hF)
  · refine dw_zeq_n rfl (u := 23) rfl (d_R_b r_v1) q ?_
    refine dw_iln rfl rfl (dw_ic rfl (?_))
    refine d_if hF (fun q hF => ?_) (fun q hF => ?_)
    · refine dw_eq_y rfl (u := 25) rfl r_x2 (d_rl rfl) q ?_
      exact D_X11_foretold_j25 hF hH rfl r_x1 rfl r_x2 rfl
    · refine dw_eq_n rfl (u := 25) rfl r_x2 (d_rl rfl) q ?_
      refine dw_aln rfl rfl (dw_iln rfl rfl (dw_vB hF rfl (d_vir (n := 2) rfl rfl rfl rfl rfl hH d_c2_0 rfl) rfl rfl rfl (dc := 1) (fun _ e => D_X11_isBlock e hH r_x2) (fun v6 r_v6 hF => ?_)))
      refine d_if hF (fun q hF => ?_) (fun q hF => ?_)
      · refine dw_zne_y rfl (u := 25) rfl (d_R_b r_v6) q ?_
        exact dw_ic rfl (dw_rI rfl rfl (d_rl rfl) hH hF)
      · refine dw_zne_n rfl (u := 25) rfl (d_R_b r_v6) q ?_
        exact D_X11_foretold_j25 hF hH rfl r_x1 rfl r_x2 rfl
set_option maxRecDepth 100000 in
noncomputable def F_X0_daysUntilAbove_l7_b (t : Nat → Option p_C) (rec : Int → Int → d_S → Option (Int × d_S)) (x2 : Int) (x3 : Int) (s : d_S) : Option (Int × d_S) :=
  if 60 < x3 then
  some (61, s)
  else
  if x2 < (s.1 47 9) then
  some (x3, s)
  else
  d_b (F_X0_run t s 1) (fun s2 => rec x2 (d_w (x3 + 1)) s2)
set_option maxRecDepth 100000 in
noncomputable def F_X0_daysUntilAbove_l7 (t : Nat → Option p_C) : Nat → Int → Int → d_S → Option (Int × d_S)
  | 0 => fun _ _ _ => none
  | n + 1 => F_X0_daysUntilAbove_l7_b t (F_X0_daysUntilAbove_l7 t n)
set_option maxRecDepth 100000 in
theorem D_X0_daysUntilAbove_l7 {t : Nat → Option p_C} {r : Int × d_S} : ∀ (n : Nat) {x2 : Int} {x3 : Int} {ls : p_Ls} {s : d_S} {h : p_H}, F_X0_daysUntilAbove_l7 t n x2 x3 s = some r → d_V t h s → p_lk 0 ls = some (.ref 47) → d_R x2 → p_lk 2 ls = some (.int (Int32.ofInt x2)) → d_R x3 → p_lk 3 ls = some (.int (Int32.ofInt x3)) → p_wp p_GT p_MT 5 m_X0_daysUntilAbove 7 ls [] h (d_QI t r) := by
  intro n
  induction n with
  | zero =>
    intro x2 x3 ls s h hF hH l0 r_x2 l2 r_x3 l3
    cases (show (none : Option (Int × d_S)) = some r from hF)
  | succ n ih =>
    intro x2 x3 ls s h hF hH l0 r_x2 l2 r_x3 l3
    have hF : F_X0_daysUntilAbove_l7_b t (F_X0_daysUntilAbove_l7 t n) x2 x3 s = some r := hF
    unfold F_X0_daysUntilAbove_l7_b at hF
    refine dw_iln rfl l3 (dw_bp rfl rfl (?_))
    refine d_if hF (fun q hF => ?_) (fun q hF => ?_)
    · refine dw_gt_y rfl (u := 34) rfl r_x3 (d_rl rfl) q ?_
      exact dw_bp rfl rfl (dw_rI rfl rfl (d_rl rfl) hH hF)
    · refine dw_gt_n rfl (u := 34) rfl r_x3 (d_rl rfl) q ?_
      refine dw_aln rfl l0 (dw_gi (k := 9) rfl rfl rfl hH d_c47_9 (dw_iln rfl l2 (?_)))
      refine d_if hF (fun q hF => ?_) (fun q hF => ?_)
      · refine dw_le_y rfl (u := 23) rfl hH.r r_x2 q ?_
        exact dw_iln rfl l3 (dw_rI rfl rfl r_x3 hH hF)
      · refine dw_le_n rfl (u := 23) rfl hH.r r_x2 q ?_
        refine dw_aln rfl l0 (dw_ic rfl (dw_vV hF rfl (d_vir (n := 2) rfl rfl rfl rfl rfl hH d_c47_0 rfl) rfl rfl rfl (dc := 4) (fun _ e => D_X0_run e hH (d_rl rfl)) (fun s2 h2 hH2 hF => dw_ii rfl l3 rfl (dw_go rfl (u := 7) rfl (?_)))))
        exact ih hF hH2 (d_s1 l0 rfl (by decide)) r_x2 (d_s1 l2 rfl (by decide)) d_R_w p_lk_s1
set_option maxRecDepth 100000 in
noncomputable def F_X0_daysUntilAbove (t : Nat → Option p_C) (s : d_S) (x1 : Int) (x2 : Int) : Option (Int × d_S) :=
  d_b (F_X0_start s x1) (fun s1 => F_X0_daysUntilAbove_l7 t d_N x2 0 s1)
set_option maxRecDepth 100000 in
theorem D_X0_daysUntilAbove {t : Nat → Option p_C} {h : p_H} {s : d_S} {x1 : Int} {x2 : Int} {r : Int × d_S} (hF : F_X0_daysUntilAbove t s x1 x2 = some r) (hH : d_V t h s) (r_x1 : d_R x1) (r_x2 : d_R x2) : p_wp p_GT p_MT 5 m_X0_daysUntilAbove 0 (lv_args 0 [.ref 47, .int (Int32.ofInt x1), .int (Int32.ofInt x2)]) [] h (d_QI t r) := by
  unfold F_X0_daysUntilAbove at hF
  refine dw_aln rfl rfl (dw_iln rfl rfl (dw_vV hF rfl (d_vir (n := 2) rfl rfl rfl rfl rfl hH d_c47_0 rfl) rfl rfl rfl (dc := 2) (fun _ e => D_X0_start e hH r_x1) (fun s1 h1 hH1 hF => dw_ic rfl (dw_isn rfl rfl (?_)))))
  exact D_X0_daysUntilAbove_l7 _ hF hH1 (d_s1 rfl rfl (by decide)) r_x2 (d_s1 rfl rfl (by decide)) (d_rl rfl) p_lk_s1
set_option maxRecDepth 100000 in
noncomputable def F_X11_showsIn_l15_b (t : Nat → Option p_C) (k73 : Int → d_S → Option (Int × d_S)) (rec : Int → Int → Int → d_S → Option (Int × d_S)) (x1 : Int) (x2 : Int) (x3 : Int) (s : d_S) : Option (Int × d_S) :=
  if x3 < (s.1 37 5) then
  d_b (F_X4_cellsOf_3 s x1 x3) (fun v2 => if 0 < v2 then
  d_b (F_X9_sightPart_3 s x1 5) (fun v3 => d_b2 (F_X0_daysUntilAbove t s x3 (d_w (v3 * 10))) (fun v4 s5 => d_b (F_J9_min_7cf53 x2 v4) (fun v6 => rec x1 v6 (d_w (x3 + 1)) s5)))
  else
  rec x1 x2 (d_w (x3 + 1)) s)
  else
  k73 x2 s
set_option maxRecDepth 100000 in
noncomputable def F_X11_showsIn_l15 (t : Nat → Option p_C) (k73 : Int → d_S → Option (Int × d_S)) : Nat → Int → Int → Int → d_S → Option (Int × d_S)
  | 0 => fun _ _ _ _ => none
  | n + 1 => F_X11_showsIn_l15_b t k73 (F_X11_showsIn_l15 t k73 n)
set_option maxRecDepth 100000 in
theorem D_X11_showsIn_l15 {t : Nat → Option p_C} {k73 : Int → d_S → Option (Int × d_S)} {r : Int × d_S} (hk73 : ∀ {x2 : Int} {ls : p_Ls} {s : d_S} {h : p_H}, k73 x2 s = some r → d_V t h s → d_R x2 → p_lk 2 ls = some (.int (Int32.ofInt x2)) → p_wp p_GT p_MT 6 m_X11_showsIn 73 ls [] h (d_QI t r)) : ∀ (n : Nat) {x1 : Int} {x2 : Int} {x3 : Int} {ls : p_Ls} {s : d_S} {h : p_H}, F_X11_showsIn_l15 t k73 n x1 x2 x3 s = some r → d_V t h s → p_lk 0 ls = some (.ref 2) → d_R x1 → p_lk 1 ls = some (.int (Int32.ofInt x1)) → d_R x2 → p_lk 2 ls = some (.int (Int32.ofInt x2)) → d_R x3 → p_lk 3 ls = some (.int (Int32.ofInt x3)) → p_wp p_GT p_MT 6 m_X11_showsIn 15 ls [] h (d_QI t r) := by
  intro n
  induction n with
  | zero =>
    intro x1 x2 x3 ls s h hF hH l0 r_x1 l1 r_x2 l2 r_x3 l3
    cases (show (none : Option (Int × d_S)) = some r from hF)
  | succ n ih =>
    intro x1 x2 x3 ls s h hF hH l0 r_x1 l1 r_x2 l2 r_x3 l3
    have hF : F_X11_showsIn_l15_b t k73 (F_X11_showsIn_l15 t k73 n) x1 x2 x3 s = some r := hF
    unfold F_X11_showsIn_l15_b at hF
    refine dw_iln rfl l3 (dw_aln rfl l0 (dw_gr rfl rfl rfl hH d_c2_2 (dw_gi (k := 5) rfl rfl rfl hH d_c37_5 (?_))))
    refine d_if hF (fun q hF => ?_) (fun q hF => ?_)
    · refine dw_ge_y rfl (u := 73) rfl r_x3 hH.r q ?_
      refine dw_aln rfl l0 (dw_gr rfl rfl rfl hH d_c2_2 (dw_aln rfl l0 (dw_gr rfl rfl rfl hH d_c2_0 (dw_iln rfl l1 (dw_iln rfl l3 (dw_vP hF rfl (d_vir (n := 4) rfl rfl rfl rfl rfl hH d_c37_0 rfl) rfl rfl rfl (dc := 1) (fun _ e => D_X4_cellsOf_3 e hH r_x1 r_x3) (fun v2 r_v2 hF => ?_)))))))
      refine d_if hF (fun q hF => ?_) (fun q hF => ?_)
      · refine dw_zle_y rfl (u := 67) rfl r_v2 q ?_
        refine dw_iln rfl l2 (dw_aln rfl l0 (dw_gr rfl rfl rfl hH d_c2_4 (dw_iln rfl l3 (dw_aln rfl l0 (dw_gr rfl rfl rfl hH d_c2_0 (dw_iln rfl l1 (dw_ic rfl (dw_vP hF rfl (d_vir (n := 3) rfl rfl rfl rfl rfl hH d_c3_0 rfl) rfl rfl rfl (dc := 0) (fun _ e => D_X9_sightPart_3 e hH r_x1 (d_rl rfl)) (fun v3 r_v3 hF => dw_bp rfl rfl (?_))))))))))
        refine dw_mul rfl (dw_w1 (dw_vI hF rfl (d_vir (n := 3) rfl rfl rfl rfl rfl hH d_c47_0 rfl) rfl rfl rfl (dc := 5) (fun _ _ e => D_X0_daysUntilAbove e hH r_x3 d_R_w) (fun v4 s5 h5 hH5 r_v4 hF => dw_sP hF rfl rfl rfl rfl rfl (dc := 0) (fun _ e => D_J9_min_7cf53 e r_x2 r_v4) (fun v6 r_v6 hF => dw_isn rfl rfl (dw_ii rfl (d_s1 l3 rfl (by decide)) rfl (dw_go rfl (u := 15) rfl (?_)))))))
        exact ih hF hH5 (d_s1 (d_s1 l0 rfl (by decide)) rfl (by decide)) r_x1 (d_s1 (d_s1 l1 rfl (by decide)) rfl (by decide)) r_v6 (d_s1 p_lk_s1 rfl (by decide)) d_R_w p_lk_s1
      · refine dw_zle_n rfl (u := 67) rfl r_v2 q ?_
        refine dw_ii rfl l3 rfl (dw_go rfl (u := 15) rfl (?_))
        exact ih hF hH (d_s1 l0 rfl (by decide)) r_x1 (d_s1 l1 rfl (by decide)) r_x2 (d_s1 l2 rfl (by decide)) d_R_w p_lk_s1
    · refine dw_ge_n rfl (u := 73) rfl r_x3 hH.r q ?_
      exact hk73 hF hH r_x2 l2
set_option maxRecDepth 100000 in
noncomputable def F_X11_showsIn (t : Nat → Option p_C) (s : d_S) (x1 : Int) : Option (Int × d_S) :=
  d_b (F_X11_isSight s x1) (fun v1 => if v1 = 0 then
  some ((-1), s)
  else
  F_X11_showsIn_l15 t (fun x2_u7 s_u7 =>
  if 60 < x2_u7 then
  some ((-1), s_u7)
  else
  some (x2_u7, s_u7)) d_N x1 61 0 s)
set_option maxRecDepth 100000 in
theorem D_X11_showsIn {t : Nat → Option p_C} {h : p_H} {s : d_S} {x1 : Int} {r : Int × d_S} (hF : F_X11_showsIn t s x1 = some r) (hH : d_V t h s) (r_x1 : d_R x1) : p_wp p_GT p_MT 6 m_X11_showsIn 0 (lv_args 0 [.ref 2, .int (Int32.ofInt x1)]) [] h (d_QI t r) := by
  unfold F_X11_showsIn at hF
  refine dw_aln rfl rfl (dw_iln rfl rfl (dw_vB hF rfl (d_vir (n := 2) rfl rfl rfl rfl rfl hH d_c2_0 rfl) rfl rfl rfl (dc := 1) (fun _ e => D_X11_isSight e hH r_x1) (fun v1 r_v1 hF => ?_)))
  refine d_if hF (fun q hF => ?_) (fun q hF => ?_)
  · refine dw_zne_y rfl (u := 10) rfl (d_R_b r_v1) q ?_
    exact dw_ic rfl (dw_rI rfl rfl (d_rl rfl) hH hF)
  · refine dw_zne_n rfl (u := 10) rfl (d_R_b r_v1) q ?_
    refine dw_bp rfl rfl (dw_isn rfl rfl (dw_ic rfl (dw_isn rfl rfl (?_))))
    refine D_X11_showsIn_l15 (fun {x2_u7} {ls_u7} {s_u7} {h_u7} hF hH_u7 r_x2_u7 l2_u7 => ?_) _ hF hH (d_s1 (d_s1 rfl rfl (by decide)) rfl (by decide)) r_x1 (d_s1 (d_s1 rfl rfl (by decide)) rfl (by decide)) (d_rl rfl) (d_s1 p_lk_s1 rfl (by decide)) (d_rl rfl) p_lk_s1
    · refine dw_iln rfl l2_u7 (dw_bp rfl rfl (?_))
      refine d_if hF (fun q hF => ?_) (fun q hF => ?_)
      · refine dw_le_y rfl (u := 83) rfl r_x2_u7 (d_rl rfl) q ?_
        exact dw_ic rfl (dw_go rfl (u := 84) rfl (dw_rI rfl rfl (d_rl rfl) hH_u7 hF))
      · refine dw_le_n rfl (u := 83) rfl r_x2_u7 (d_rl rfl) q ?_
        exact dw_iln rfl l2_u7 (dw_rI rfl rfl r_x2_u7 hH_u7 hF)
set_option maxRecDepth 100000 in
noncomputable def F_X11_manyAhead_l5_b (s : d_S) (rec : Int → Int → Int → Int → Option (Int)) (x1 : Int) (x2 : Int) (x3 : Int) (x4 : Int) : Option (Int) :=
  if x4 < (s.1 37 5) then
  if x4 < 64 then
  d_g (0 ≤ x4 ∧ x4 < 64) (if x2 < (s.1 61 (x4.toNat)) then
  rec x1 x2 (d_w (x3 + 1)) (d_w (x4 + 1))
  else
  d_g (0 ≤ x4 ∧ x4 < 64) (if (s.1 61 (x4.toNat)) = x2 then
  if x4 < x1 then
  rec x1 x2 (d_w (x3 + 1)) (d_w (x4 + 1))
  else
  rec x1 x2 x3 (d_w (x4 + 1))
  else
  rec x1 x2 x3 (d_w (x4 + 1))))
  else
  some x3
  else
  some x3
set_option maxRecDepth 100000 in
noncomputable def F_X11_manyAhead_l5 (s : d_S) : Nat → Int → Int → Int → Int → Option (Int)
  | 0 => fun _ _ _ _ => none
  | n + 1 => F_X11_manyAhead_l5_b s (F_X11_manyAhead_l5 s n)
set_option maxRecDepth 100000 in
theorem D_X11_manyAhead_l5 {t : Nat → Option p_C} {h : p_H} {s : d_S} {r : Int} (hH : d_V t h s) : ∀ (n : Nat) {x1 : Int} {x2 : Int} {x3 : Int} {x4 : Int} {ls : p_Ls}, F_X11_manyAhead_l5 s n x1 x2 x3 x4 = some r → p_lk 0 ls = some (.ref 2) → d_R x1 → p_lk 1 ls = some (.int (Int32.ofInt x1)) → d_R x2 → p_lk 2 ls = some (.int (Int32.ofInt x2)) → d_R x3 → p_lk 3 ls = some (.int (Int32.ofInt x3)) → d_R x4 → p_lk 4 ls = some (.int (Int32.ofInt x4)) → p_wp p_GT p_MT 0 m_X11_manyAhead 5 ls [] h (d_QP h r) := by
  intro n
  induction n with
  | zero =>
    intro x1 x2 x3 x4 ls hF l0 r_x1 l1 r_x2 l2 r_x3 l3 r_x4 l4
    cases (show (none : Option (Int)) = some r from hF)
  | succ n ih =>
    intro x1 x2 x3 x4 ls hF l0 r_x1 l1 r_x2 l2 r_x3 l3 r_x4 l4
    have hF : F_X11_manyAhead_l5_b s (F_X11_manyAhead_l5 s n) x1 x2 x3 x4 = some r := hF
    unfold F_X11_manyAhead_l5_b at hF
    refine dw_il rfl l4 (dw_aln rfl l0 (dw_gr rfl rfl rfl hH d_c2_2 (dw_gi (k := 5) rfl rfl rfl hH d_c37_5 (?_))))
    refine d_if hF (fun q hF => ?_) (fun q hF => ?_)
    · refine dw_ge_y rfl (u := 64) rfl r_x4 hH.r q ?_
      refine dw_il rfl l4 (dw_aln rfl l0 (dw_gr rfl rfl rfl hH d_c2_7 (dw_len rfl hH d_a61 rfl (z := 64) rfl (?_))))
      refine d_if hF (fun q hF => ?_) (fun q hF => ?_)
      · refine dw_ge_y rfl (u := 64) rfl r_x4 (d_rl rfl) q ?_
        refine dw_aln rfl l0 (dw_gr rfl rfl rfl hH d_c2_7 (dw_il rfl l4 (d_gd hF (fun g1 hF => dw_ald rfl hH d_a61 rfl g1.1 g1.2 r_x4 rfl (dw_iln rfl l2 (?_))))))
        refine d_if hF (fun q hF => ?_) (fun q hF => ?_)
        · refine dw_gt_y rfl (u := 55) rfl hH.r r_x2 q ?_
          refine dw_ii rfl l3 rfl (dw_ii rfl (d_s1 l4 rfl (by decide)) rfl (dw_go rfl (u := 5) rfl (?_)))
          exact ih hF (d_s1 (d_s1 l0 rfl (by decide)) rfl (by decide)) r_x1 (d_s1 (d_s1 l1 rfl (by decide)) rfl (by decide)) r_x2 (d_s1 (d_s1 l2 rfl (by decide)) rfl (by decide)) d_R_w (d_s1 p_lk_s1 rfl (by decide)) d_R_w p_lk_s1
        · refine dw_gt_n rfl (u := 55) rfl hH.r r_x2 q ?_
          refine dw_aln rfl l0 (dw_gr rfl rfl rfl hH d_c2_7 (dw_il rfl l4 (d_gd hF (fun g2 hF => dw_ald rfl hH d_a61 rfl g2.1 g2.2 r_x4 rfl (dw_iln rfl l2 (?_))))))
          refine d_if hF (fun q hF => ?_) (fun q hF => ?_)
          · refine dw_ne_y rfl (u := 58) rfl hH.r r_x2 q ?_
            refine dw_il rfl l4 (dw_iln rfl l1 (?_))
            refine d_if hF (fun q hF => ?_) (fun q hF => ?_)
            · refine dw_ge_y rfl (u := 58) rfl r_x4 r_x1 q ?_
              refine dw_ii rfl l3 rfl (dw_ii rfl (d_s1 l4 rfl (by decide)) rfl (dw_go rfl (u := 5) rfl (?_)))
              exact ih hF (d_s1 (d_s1 l0 rfl (by decide)) rfl (by decide)) r_x1 (d_s1 (d_s1 l1 rfl (by decide)) rfl (by decide)) r_x2 (d_s1 (d_s1 l2 rfl (by decide)) rfl (by decide)) d_R_w (d_s1 p_lk_s1 rfl (by decide)) d_R_w p_lk_s1
            · refine dw_ge_n rfl (u := 58) rfl r_x4 r_x1 q ?_
              refine dw_ii rfl l4 rfl (dw_go rfl (u := 5) rfl (?_))
              exact ih hF (d_s1 l0 rfl (by decide)) r_x1 (d_s1 l1 rfl (by decide)) r_x2 (d_s1 l2 rfl (by decide)) r_x3 (d_s1 l3 rfl (by decide)) d_R_w p_lk_s1
          · refine dw_ne_n rfl (u := 58) rfl hH.r r_x2 q ?_
            refine dw_ii rfl l4 rfl (dw_go rfl (u := 5) rfl (?_))
            exact ih hF (d_s1 l0 rfl (by decide)) r_x1 (d_s1 l1 rfl (by decide)) r_x2 (d_s1 l2 rfl (by decide)) r_x3 (d_s1 l3 rfl (by decide)) d_R_w p_lk_s1
      · refine dw_ge_n rfl (u := 64) rfl r_x4 (d_rl rfl) q ?_
        exact dw_iln rfl l3 (dw_rP rfl rfl r_x3 hF)
    · refine dw_ge_n rfl (u := 64) rfl r_x4 hH.r q ?_
      exact dw_iln rfl l3 (dw_rP rfl rfl r_x3 hF)
set_option maxRecDepth 100000 in
noncomputable def F_X11_manyAhead (s : d_S) (x1 : Int) (x2 : Int) : Option (Int) :=
  F_X11_manyAhead_l5 s d_N x1 x2 0 0
set_option maxRecDepth 100000 in
theorem D_X11_manyAhead {t : Nat → Option p_C} {h : p_H} {s : d_S} {x1 : Int} {x2 : Int} {r : Int} (hF : F_X11_manyAhead s x1 x2 = some r) (hH : d_V t h s) (r_x1 : d_R x1) (r_x2 : d_R x2) : p_wp p_GT p_MT 0 m_X11_manyAhead 0 (lv_args 0 [.ref 2, .int (Int32.ofInt x1), .int (Int32.ofInt x2)]) [] h (d_QP h r) := by
  unfold F_X11_manyAhead at hF
  refine dw_ic rfl (dw_isn rfl rfl (dw_ic rfl (dw_is rfl rfl (?_))))
  exact D_X11_manyAhead_l5 hH _ hF (d_s1 (d_s1 rfl rfl (by decide)) rfl (by decide)) r_x1 (d_s1 (d_s1 rfl rfl (by decide)) rfl (by decide)) r_x2 (d_s1 (d_s1 rfl rfl (by decide)) rfl (by decide)) (d_rl rfl) (d_s1 p_lk_s1 rfl (by decide)) (d_rl rfl) p_lk_s1
set_option maxRecDepth 100000 in
noncomputable def F_X11_dearest_j44 (t : Nat → Option p_C) (k2 : Int → Int → d_S → Option (Int × d_S)) (x1 : Int) (x2 : Int) (y1 : Int) (y2 : Int) (s : d_S) : Option (Int × d_S) :=
  d_g (0 ≤ y1 ∧ y1 < 64) (d_l (d_si s 61 ((y1).toNat) y2) (fun s3 => k2 x1 (d_w (x2 + 1)) s3))
set_option maxRecDepth 100000 in
theorem D_X11_dearest_j44 {t : Nat → Option p_C} {h : p_H} {s : d_S} {k2 : Int → Int → d_S → Option (Int × d_S)} {x1 : Int} {x2 : Int} {y1 : Int} {y2 : Int} {r : Int × d_S} {ls : p_Ls} (hF : F_X11_dearest_j44 t k2 x1 x2 y1 y2 s = some r) (hH : d_V t h s) (l0 : p_lk 0 ls = some (.ref 2)) (r_x1 : d_R x1) (l1 : p_lk 1 ls = some (.int (Int32.ofInt x1))) (r_x2 : d_R x2) (l2 : p_lk 2 ls = some (.int (Int32.ofInt x2))) (r_y1 : d_R y1) (r_y2 : d_R y2) (hk2 : ∀ {x1 : Int} {x2 : Int} {ls : p_Ls} {s : d_S} {h : p_H}, k2 x1 x2 s = some r → d_V t h s → p_lk 0 ls = some (.ref 2) → d_R x1 → p_lk 1 ls = some (.int (Int32.ofInt x1)) → d_R x2 → p_lk 2 ls = some (.int (Int32.ofInt x2)) → p_wp p_GT p_MT 5 m_X11_dearest 2 ls [] h (d_QI t r)) : p_wp p_GT p_MT 5 m_X11_dearest 44 ls [.int (Int32.ofInt y2), .int (Int32.ofInt y1), .ref 61] h (d_QI t r) := by
  unfold F_X11_dearest_j44 at hF
  refine d_gd hF (fun g2 hF => dw_ast rfl hH d_a61 g2.1 g2.2 r_y1 rfl r_y2 hF (fun s3 h3 hH3 hF => dw_ii rfl l2 rfl (dw_go rfl (u := 2) rfl (?_))))
  exact hk2 hF hH3 (d_s1 l0 rfl (by decide)) r_x1 (d_s1 l1 rfl (by decide)) d_R_w p_lk_s1
set_option maxRecDepth 100000 in
noncomputable def F_X11_dearest_l2_b (t : Nat → Option p_C) (k51 : Int → d_S → Option (Int × d_S)) (rec : Int → Int → d_S → Option (Int × d_S)) (x1 : Int) (x2 : Int) (s : d_S) : Option (Int × d_S) :=
  if x2 < (s.1 37 5) then
  if x2 < 64 then
  d_b (F_X11_canSell s x2) (fun v1 => if v1 = 0 then
  F_X11_dearest_j44 t rec x1 x2 x2 (-1) s
  else
  d_b2 (F_X11_sellsNow t s x2) (fun v4 s5 => F_X11_dearest_j44 t rec x1 x2 x2 v4 s5))
  else
  k51 x1 s
  else
  k51 x1 s
set_option maxRecDepth 100000 in
noncomputable def F_X11_dearest_l2 (t : Nat → Option p_C) (k51 : Int → d_S → Option (Int × d_S)) : Nat → Int → Int → d_S → Option (Int × d_S)
  | 0 => fun _ _ _ => none
  | n + 1 => F_X11_dearest_l2_b t k51 (F_X11_dearest_l2 t k51 n)
set_option maxRecDepth 100000 in
theorem D_X11_dearest_l2 {t : Nat → Option p_C} {k51 : Int → d_S → Option (Int × d_S)} {r : Int × d_S} (hk51 : ∀ {x1 : Int} {ls : p_Ls} {s : d_S} {h : p_H}, k51 x1 s = some r → d_V t h s → p_lk 0 ls = some (.ref 2) → d_R x1 → p_lk 1 ls = some (.int (Int32.ofInt x1)) → p_wp p_GT p_MT 5 m_X11_dearest 51 ls [] h (d_QI t r)) : ∀ (n : Nat) {x1 : Int} {x2 : Int} {ls : p_Ls} {s : d_S} {h : p_H}, F_X11_dearest_l2 t k51 n x1 x2 s = some r → d_V t h s → p_lk 0 ls = some (.ref 2) → d_R x1 → p_lk 1 ls = some (.int (Int32.ofInt x1)) → d_R x2 → p_lk 2 ls = some (.int (Int32.ofInt x2)) → p_wp p_GT p_MT 5 m_X11_dearest 2 ls [] h (d_QI t r) := by
  intro n
  induction n with
  | zero =>
    intro x1 x2 ls s h hF hH l0 r_x1 l1 r_x2 l2
    cases (show (none : Option (Int × d_S)) = some r from hF)
  | succ n ih =>
    intro x1 x2 ls s h hF hH l0 r_x1 l1 r_x2 l2
    have hF : F_X11_dearest_l2_b t k51 (F_X11_dearest_l2 t k51 n) x1 x2 s = some r := hF
    unfold F_X11_dearest_l2_b at hF
    refine dw_iln rfl l2 (dw_aln rfl l0 (dw_gr rfl rfl rfl hH d_c2_2 (dw_gi (k := 5) rfl rfl rfl hH d_c37_5 (?_))))
    refine d_if hF (fun q hF => ?_) (fun q hF => ?_)
    · refine dw_ge_y rfl (u := 51) rfl r_x2 hH.r q ?_
      refine dw_iln rfl l2 (dw_aln rfl l0 (dw_gr rfl rfl rfl hH d_c2_7 (dw_len rfl hH d_a61 rfl (z := 64) rfl (?_))))
      refine d_if hF (fun q hF => ?_) (fun q hF => ?_)
      · refine dw_ge_y rfl (u := 51) rfl r_x2 (d_rl rfl) q ?_
        refine dw_aln rfl l0 (dw_gr rfl rfl rfl hH d_c2_7 (dw_iln rfl l2 (dw_aln rfl l0 (dw_iln rfl l2 (dw_vB hF rfl (d_vir (n := 2) rfl rfl rfl rfl rfl hH d_c2_0 rfl) rfl rfl rfl (dc := 2) (fun _ e => D_X11_canSell e hH r_x2) (fun v1 r_v1 hF => ?_))))))
        refine d_if hF (fun q hF => ?_) (fun q hF => ?_)
        · refine dw_zeq_y rfl (u := 43) rfl (d_R_b r_v1) q ?_
          refine dw_ic rfl (?_)
          exact D_X11_dearest_j44 hF hH l0 r_x1 l1 r_x2 l2 r_x2 (d_rl rfl) (fun {x1} {x2} {ls} {s} {h} hF hH l0 r_x1 l1 r_x2 l2 => ih hF hH l0 r_x1 l1 r_x2 l2)
        · refine dw_zeq_n rfl (u := 43) rfl (d_R_b r_v1) q ?_
          refine dw_aln rfl l0 (dw_iln rfl l2 (dw_vI hF rfl (d_vir (n := 2) rfl rfl rfl rfl rfl hH d_c2_0 rfl) rfl rfl rfl (dc := 4) (fun _ _ e => D_X11_sellsNow e hH r_x2) (fun v4 s5 h5 hH5 r_v4 hF => dw_go rfl (u := 44) rfl (?_))))
          exact D_X11_dearest_j44 hF hH5 l0 r_x1 l1 r_x2 l2 r_x2 r_v4 (fun {x1} {x2} {ls} {s} {h} hF hH l0 r_x1 l1 r_x2 l2 => ih hF hH l0 r_x1 l1 r_x2 l2)
      · refine dw_ge_n rfl (u := 51) rfl r_x2 (d_rl rfl) q ?_
        exact hk51 hF hH l0 r_x1 l1
    · refine dw_ge_n rfl (u := 51) rfl r_x2 hH.r q ?_
      exact hk51 hF hH l0 r_x1 l1
set_option maxRecDepth 100000 in
noncomputable def F_X11_dearest_l53_b (t : Nat → Option p_C) (rec : Int → Int → d_S → Option (Int × d_S)) (x1 : Int) (x2 : Int) (s : d_S) : Option (Int × d_S) :=
  if x2 < (s.1 37 5) then
  if x2 < 64 then
  d_g (0 ≤ x2 ∧ x2 < 64) (if (s.1 61 (x2.toNat)) = (-1) then
  rec x1 (d_w (x2 + 1)) s
  else
  d_g (0 ≤ x2 ∧ x2 < 64) (d_b (F_X11_manyAhead s x2 (s.1 61 (x2.toNat))) (fun v9 => if v9 = x1 then
  some (x2, s)
  else
  rec x1 (d_w (x2 + 1)) s)))
  else
  some ((-1), s)
  else
  some ((-1), s)
set_option maxRecDepth 100000 in
noncomputable def F_X11_dearest_l53 (t : Nat → Option p_C) : Nat → Int → Int → d_S → Option (Int × d_S)
  | 0 => fun _ _ _ => none
  | n + 1 => F_X11_dearest_l53_b t (F_X11_dearest_l53 t n)
set_option maxRecDepth 100000 in
theorem D_X11_dearest_l53 {t : Nat → Option p_C} {r : Int × d_S} : ∀ (n : Nat) {x1 : Int} {x2 : Int} {ls : p_Ls} {s : d_S} {h : p_H}, F_X11_dearest_l53 t n x1 x2 s = some r → d_V t h s → p_lk 0 ls = some (.ref 2) → d_R x1 → p_lk 1 ls = some (.int (Int32.ofInt x1)) → d_R x2 → p_lk 2 ls = some (.int (Int32.ofInt x2)) → p_wp p_GT p_MT 5 m_X11_dearest 53 ls [] h (d_QI t r) := by
  intro n
  induction n with
  | zero =>
    intro x1 x2 ls s h hF hH l0 r_x1 l1 r_x2 l2
    cases (show (none : Option (Int × d_S)) = some r from hF)
  | succ n ih =>
    intro x1 x2 ls s h hF hH l0 r_x1 l1 r_x2 l2
    have hF : F_X11_dearest_l53_b t (F_X11_dearest_l53 t n) x1 x2 s = some r := hF
    unfold F_X11_dearest_l53_b at hF
    refine dw_iln rfl l2 (dw_aln rfl l0 (dw_gr rfl rfl rfl hH d_c2_2 (dw_gi (k := 5) rfl rfl rfl hH d_c37_5 (?_))))
    refine d_if hF (fun q hF => ?_) (fun q hF => ?_)
    · refine dw_ge_y rfl (u := 106) rfl r_x2 hH.r q ?_
      refine dw_iln rfl l2 (dw_aln rfl l0 (dw_gr rfl rfl rfl hH d_c2_7 (dw_len rfl hH d_a61 rfl (z := 64) rfl (?_))))
      refine d_if hF (fun q hF => ?_) (fun q hF => ?_)
      · refine dw_ge_y rfl (u := 106) rfl r_x2 (d_rl rfl) q ?_
        refine dw_aln rfl l0 (dw_gr rfl rfl rfl hH d_c2_7 (dw_iln rfl l2 (d_gd hF (fun g7 hF => dw_ald rfl hH d_a61 rfl g7.1 g7.2 r_x2 rfl (dw_ic rfl (?_))))))
        refine d_if hF (fun q hF => ?_) (fun q hF => ?_)
        · refine dw_eq_y rfl (u := 100) rfl hH.r (d_rl rfl) q ?_
          refine dw_ii rfl l2 rfl (dw_go rfl (u := 53) rfl (?_))
          exact ih hF hH (d_s1 l0 rfl (by decide)) r_x1 (d_s1 l1 rfl (by decide)) d_R_w p_lk_s1
        · refine dw_eq_n rfl (u := 100) rfl hH.r (d_rl rfl) q ?_
          refine dw_aln rfl l0 (dw_iln rfl l2 (dw_aln rfl l0 (dw_gr rfl rfl rfl hH d_c2_7 (dw_iln rfl l2 (d_gd hF (fun g8 hF => dw_ald rfl hH d_a61 rfl g8.1 g8.2 r_x2 rfl (dw_vP hF rfl (d_vir (n := 3) rfl rfl rfl rfl rfl hH d_c2_0 rfl) rfl rfl rfl (dc := 0) (fun _ e => D_X11_manyAhead e hH r_x2 hH.r) (fun v9 r_v9 hF => dw_iln rfl l1 (?_)))))))))
          refine d_if hF (fun q hF => ?_) (fun q hF => ?_)
          · refine dw_ne_y rfl (u := 100) rfl r_v9 r_x1 q ?_
            exact dw_iln rfl l2 (dw_rI rfl rfl r_x2 hH hF)
          · refine dw_ne_n rfl (u := 100) rfl r_v9 r_x1 q ?_
            refine dw_ii rfl l2 rfl (dw_go rfl (u := 53) rfl (?_))
            exact ih hF hH (d_s1 l0 rfl (by decide)) r_x1 (d_s1 l1 rfl (by decide)) d_R_w p_lk_s1
      · refine dw_ge_n rfl (u := 106) rfl r_x2 (d_rl rfl) q ?_
        exact dw_ic rfl (dw_rI rfl rfl (d_rl rfl) hH hF)
    · refine dw_ge_n rfl (u := 106) rfl r_x2 hH.r q ?_
      exact dw_ic rfl (dw_rI rfl rfl (d_rl rfl) hH hF)
set_option maxRecDepth 100000 in
noncomputable def F_X11_dearest (t : Nat → Option p_C) (s : d_S) (x1 : Int) : Option (Int × d_S) :=
  F_X11_dearest_l2 t (fun x1_u6 s_u6 =>
  F_X11_dearest_l53 t d_N x1_u6 0 s_u6) d_N x1 0 s
set_option maxRecDepth 100000 in
theorem D_X11_dearest {t : Nat → Option p_C} {h : p_H} {s : d_S} {x1 : Int} {r : Int × d_S} (hF : F_X11_dearest t s x1 = some r) (hH : d_V t h s) (r_x1 : d_R x1) : p_wp p_GT p_MT 5 m_X11_dearest 0 (lv_args 0 [.ref 2, .int (Int32.ofInt x1)]) [] h (d_QI t r) := by
  unfold F_X11_dearest at hF
  refine dw_ic rfl (dw_isn rfl rfl (?_))
  refine D_X11_dearest_l2 (fun {x1_u6} {ls_u6} {s_u6} {h_u6} hF hH_u6 l0_u6 r_x1_u6 l1_u6 => ?_) _ hF hH (d_s1 rfl rfl (by decide)) r_x1 (d_s1 rfl rfl (by decide)) (d_rl rfl) p_lk_s1
  · refine dw_ic rfl (dw_isn rfl rfl (?_))
    exact D_X11_dearest_l53 _ hF hH_u6 (d_s1 l0_u6 rfl (by decide)) r_x1_u6 (d_s1 l1_u6 rfl (by decide)) (d_rl rfl) p_lk_s1

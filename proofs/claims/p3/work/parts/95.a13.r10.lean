set_option maxRecDepth 100000 in
noncomputable def F_X12_served_l25_b (k44 : Int → d_S → Option (Int × d_S)) (rec : Int → Int → d_S → Option (Int × d_S)) (x1 : Int) (x2 : Int) (s : d_S) : Option (Int × d_S) :=
  if x2 < 64 then
  d_g (0 ≤ x2 ∧ x2 < 64) (d_l (d_si s 74 ((x2).toNat) 0) (fun s4 => rec x1 (d_w (x2 + 1)) s4))
  else
  k44 x1 s
set_option maxRecDepth 100000 in
noncomputable def F_X12_served_l25 (k44 : Int → d_S → Option (Int × d_S)) : Nat → Int → Int → d_S → Option (Int × d_S)
  | 0 => fun _ _ _ => none
  | n + 1 => F_X12_served_l25_b k44 (F_X12_served_l25 k44 n)
set_option maxRecDepth 100000 in
theorem D_X12_served_l25 {t : Nat → Option p_C} {k44 : Int → d_S → Option (Int × d_S)} {r : Int × d_S} (hk44 : ∀ {x1 : Int} {ls : p_Ls} {s : d_S} {h : p_H}, k44 x1 s = some r → d_V t h s → p_lk 0 ls = some (.ref 64) → d_R x1 → p_lk 1 ls = some (.int (Int32.ofInt x1)) → p_wp p_GT p_MT 11 m_X12_served 44 ls [] h (d_QI t r)) : ∀ (n : Nat) {x1 : Int} {x2 : Int} {ls : p_Ls} {s : d_S} {h : p_H}, F_X12_served_l25 k44 n x1 x2 s = some r → d_V t h s → p_lk 0 ls = some (.ref 64) → d_R x1 → p_lk 1 ls = some (.int (Int32.ofInt x1)) → d_R x2 → p_lk 2 ls = some (.int (Int32.ofInt x2)) → p_wp p_GT p_MT 11 m_X12_served 25 ls [] h (d_QI t r) := by
  intro n
  induction n with
  | zero =>
    intro x1 x2 ls s h hF hH l0 r_x1 l1 r_x2 l2
    cases (show (none : Option (Int × d_S)) = some r from hF)
  | succ n ih =>
    intro x1 x2 ls s h hF hH l0 r_x1 l1 r_x2 l2
    have hF : F_X12_served_l25_b k44 (F_X12_served_l25 k44 n) x1 x2 s = some r := hF
    unfold F_X12_served_l25_b at hF
    refine dw_iln rfl l2 (dw_bp rfl rfl (?_))
    refine d_if hF (fun q hF => ?_) (fun q hF => ?_)
    · refine dw_ge_y rfl (u := 44) rfl r_x2 (d_rl rfl) q ?_
      refine dw_aln rfl l0 (dw_gr rfl rfl rfl hH d_c64_25 (dw_iln rfl l2 (dw_ic rfl (d_gd hF (fun g3 hF => dw_bst rfl hH d_a74 g3.1 g3.2 r_x2 rfl (Or.inl rfl) hF (fun s4 h4 hH4 hF => dw_ii rfl l2 rfl (dw_go rfl (u := 25) rfl (?_))))))))
      exact ih hF hH4 (d_s1 l0 rfl (by decide)) r_x1 (d_s1 l1 rfl (by decide)) d_R_w p_lk_s1
    · refine dw_ge_n rfl (u := 44) rfl r_x2 (d_rl rfl) q ?_
      exact hk44 hF hH l0 r_x1 l1
set_option maxRecDepth 100000 in
noncomputable def F_X12_served_l62_b (k122 : Int → d_S → Option (Int × d_S)) (rec : Int → Int → Int → d_S → Option (Int × d_S)) (x1 : Int) (x3 : Int) (x4 : Int) (s : d_S) : Option (Int × d_S) :=
  if x4 < (s.1 65 4) then
  d_b2 (F_X12_serverOf s x4 x3) (fun v8 s9 => d_g (0 ≤ x4 ∧ x4 < 5) (d_l (d_si s9 77 ((x4).toNat) v8) (fun s11 => d_g (0 ≤ x4 ∧ x4 < 5) (if (s11.1 77 (x4.toNat)) = (-1) then
  rec x1 x3 (d_w (x4 + 1)) s11
  else
  d_g (0 ≤ (d_w ((284 + (3 * x4)) + 2)) ∧ (d_w ((284 + (3 * x4)) + 2)) < 2517) (d_l (d_w (x3 - (s11.1 65 (((d_w ((284 + (3 * x4)) + 2))).toNat)))) (fun z14 => rec x1 z14 (d_w (x4 + 1)) s11))))))
  else
  k122 x1 s
set_option maxRecDepth 100000 in
noncomputable def F_X12_served_l62 (k122 : Int → d_S → Option (Int × d_S)) : Nat → Int → Int → Int → d_S → Option (Int × d_S)
  | 0 => fun _ _ _ _ => none
  | n + 1 => F_X12_served_l62_b k122 (F_X12_served_l62 k122 n)
set_option maxRecDepth 100000 in
theorem D_X12_served_l62 {t : Nat → Option p_C} {k122 : Int → d_S → Option (Int × d_S)} {r : Int × d_S} (hk122 : ∀ {x1 : Int} {ls : p_Ls} {s : d_S} {h : p_H}, k122 x1 s = some r → d_V t h s → p_lk 0 ls = some (.ref 64) → d_R x1 → p_lk 1 ls = some (.int (Int32.ofInt x1)) → p_wp p_GT p_MT 11 m_X12_served 122 ls [] h (d_QI t r)) : ∀ (n : Nat) {x1 : Int} {x3 : Int} {x4 : Int} {ls : p_Ls} {s : d_S} {h : p_H}, F_X12_served_l62 k122 n x1 x3 x4 s = some r → d_V t h s → p_lk 0 ls = some (.ref 64) → d_R x1 → p_lk 1 ls = some (.int (Int32.ofInt x1)) → d_R x3 → p_lk 3 ls = some (.int (Int32.ofInt x3)) → d_R x4 → p_lk 4 ls = some (.int (Int32.ofInt x4)) → p_wp p_GT p_MT 11 m_X12_served 62 ls [] h (d_QI t r) := by
  intro n
  induction n with
  | zero =>
    intro x1 x3 x4 ls s h hF hH l0 r_x1 l1 r_x3 l3 r_x4 l4
    cases (show (none : Option (Int × d_S)) = some r from hF)
  | succ n ih =>
    intro x1 x3 x4 ls s h hF hH l0 r_x1 l1 r_x3 l3 r_x4 l4
    have hF : F_X12_served_l62_b k122 (F_X12_served_l62 k122 n) x1 x3 x4 s = some r := hF
    unfold F_X12_served_l62_b at hF
    refine dw_il rfl l4 (dw_aln rfl l0 (dw_gr rfl rfl rfl hH d_c64_0 (dw_ic rfl (dw_ald rfl hH d_a65 rfl (by decide) (by decide) (d_rl rfl) (k := 4) rfl (?_)))))
    refine d_if hF (fun q hF => ?_) (fun q hF => ?_)
    · refine dw_ge_y rfl (u := 122) rfl r_x4 hH.r q ?_
      refine dw_aln rfl l0 (dw_gr rfl rfl rfl hH d_c64_28 (dw_il rfl l4 (dw_aln rfl l0 (dw_il rfl l4 (dw_iln rfl l3 (dw_vI hF rfl (d_vir (n := 3) rfl rfl rfl rfl rfl hH d_c64_0 rfl) rfl rfl rfl (dc := 4) (fun _ _ e => D_X12_serverOf e hH r_x4 r_x3) (fun v8 s9 h9 hH9 r_v8 hF => d_gd hF (fun g10 hF => dw_ast rfl hH9 d_a77 g10.1 g10.2 r_x4 rfl r_v8 hF (fun s11 h11 hH11 hF => dw_aln rfl l0 (?_))))))))))
      refine dw_gr rfl rfl rfl hH11 d_c64_28 (dw_il rfl l4 (d_gd hF (fun g12 hF => dw_ald rfl hH11 d_a77 rfl g12.1 g12.2 r_x4 rfl (dw_ic rfl (?_)))))
      refine d_if hF (fun q hF => ?_) (fun q hF => ?_)
      · refine dw_eq_y rfl (u := 116) rfl hH11.r (d_rl rfl) q ?_
        refine dw_ii rfl l4 rfl (dw_go rfl (u := 62) rfl (?_))
        exact ih hF hH11 (d_s1 l0 rfl (by decide)) r_x1 (d_s1 l1 rfl (by decide)) r_x3 (d_s1 l3 rfl (by decide)) d_R_w p_lk_s1
      · refine dw_eq_n rfl (u := 116) rfl hH11.r (d_rl rfl) q ?_
        refine dw_iln rfl l3 (dw_aln rfl l0 (dw_gr rfl rfl rfl hH11 d_c64_0 (dw_sp rfl rfl (dw_ic rfl (dw_il rfl l4 (dw_mul rfl (dw_add rfl (dw_ic rfl (dw_add rfl (?_))))))))))
        refine dw_w1 (d_gd hF (fun g13 hF => dw_ald rfl hH11 d_a65 rfl g13.1 g13.2 d_R_w rfl (dw_sub rfl (dw_w1 (dw_nm hF d_R_w (fun z14 r_z14 hF => dw_isn rfl rfl (dw_ii rfl (d_s1 l4 rfl (by decide)) rfl (dw_go rfl (u := 62) rfl (?_)))))))))
        exact ih hF hH11 (d_s1 (d_s1 l0 rfl (by decide)) rfl (by decide)) r_x1 (d_s1 (d_s1 l1 rfl (by decide)) rfl (by decide)) r_z14 (d_s1 p_lk_s1 rfl (by decide)) d_R_w p_lk_s1
    · refine dw_ge_n rfl (u := 122) rfl r_x4 hH.r q ?_
      exact hk122 hF hH l0 r_x1 l1
set_option maxRecDepth 100000 in
noncomputable def F_X12_served (s : d_S) (x1 : Int) : Option (Int × d_S) :=
  d_b (F_X12_isIn x1 (-1) (d_w ((s.1 65 4) - 1))) (fun v1 => if v1 = 0 then
  some ((-2), s)
  else
  d_b (F_X12_findServing s) (fun s2 => F_X12_served_l25 (fun x1_u5 s_u5 =>
  d_b2 (F_X12_mostOf s_u5 0) (fun v6 s7 => if x1_u5 = (-1) then
  some (v6, s7)
  else
  F_X12_served_l62 (fun x1_u15 s_u15 =>
  d_g (0 ≤ x1_u15 ∧ x1_u15 < 5) (some ((s_u15.1 77 (x1_u15.toNat)), s_u15))) d_N x1_u5 v6 0 s7)) d_N x1 0 s2))
set_option maxRecDepth 100000 in
theorem D_X12_served {t : Nat → Option p_C} {h : p_H} {s : d_S} {x1 : Int} {r : Int × d_S} (hF : F_X12_served s x1 = some r) (hH : d_V t h s) (r_x1 : d_R x1) : p_wp p_GT p_MT 11 m_X12_served 0 (lv_args 0 [.ref 64, .int (Int32.ofInt x1)]) [] h (d_QI t r) := by
  unfold F_X12_served at hF
  refine dw_iln rfl rfl (dw_ic rfl (dw_aln rfl rfl (dw_gr rfl rfl rfl hH d_c64_0 (dw_ic rfl (dw_ald rfl hH d_a65 rfl (by decide) (by decide) (d_rl rfl) (k := 4) rfl (dw_ic rfl (dw_sub rfl (dw_w1 (dw_sB hF rfl rfl rfl rfl rfl (dc := 0) (fun _ e => D_X12_isIn e r_x1 (d_rl rfl) d_R_w) (fun v1 r_v1 hF => ?_))))))))))
  refine d_if hF (fun q hF => ?_) (fun q hF => ?_)
  · refine dw_zne_y rfl (u := 19) rfl (d_R_b r_v1) q ?_
    exact dw_bp rfl rfl (dw_rI rfl rfl (d_rl rfl) hH hF)
  · refine dw_zne_n rfl (u := 19) rfl (d_R_b r_v1) q ?_
    refine dw_aln rfl rfl (dw_vV hF rfl (d_vir (n := 1) rfl rfl rfl rfl rfl hH d_c64_0 rfl) rfl rfl rfl (dc := 10) (fun _ e => D_X12_findServing e hH) (fun s2 h2 hH2 hF => dw_ic rfl (dw_isn rfl rfl (?_))))
    refine D_X12_served_l25 (fun {x1_u5} {ls_u5} {s_u5} {h_u5} hF hH_u5 l0_u5 r_x1_u5 l1_u5 => ?_) _ hF hH2 (d_s1 rfl rfl (by decide)) r_x1 (d_s1 rfl rfl (by decide)) (d_rl rfl) p_lk_s1
    · refine dw_aln rfl l0_u5 (dw_ic rfl (dw_vI hF rfl (d_vir (n := 2) rfl rfl rfl rfl rfl hH_u5 d_c64_0 rfl) rfl rfl rfl (dc := 3) (fun _ _ e => D_X12_mostOf e hH_u5 (d_rl rfl)) (fun v6 s7 h7 hH7 r_v6 hF => dw_isn rfl rfl (dw_iln rfl (d_s1 l1_u5 rfl (by decide)) (dw_ic rfl (?_))))))
      refine d_if hF (fun q hF => ?_) (fun q hF => ?_)
      · refine dw_ne_y rfl (u := 57) rfl r_x1_u5 (d_rl rfl) q ?_
        exact dw_iln rfl p_lk_s1 (dw_rI rfl rfl r_v6 hH7 hF)
      · refine dw_ne_n rfl (u := 57) rfl r_x1_u5 (d_rl rfl) q ?_
        refine dw_iln rfl p_lk_s1 (dw_isn rfl rfl (dw_ic rfl (dw_is rfl rfl (?_))))
        refine D_X12_served_l62 (fun {x1_u15} {ls_u15} {s_u15} {h_u15} hF hH_u15 l0_u15 r_x1_u15 l1_u15 => ?_) _ hF hH7 (d_s1 (d_s1 (d_s1 l0_u5 rfl (by decide)) rfl (by decide)) rfl (by decide)) r_x1_u5 (d_s1 (d_s1 (d_s1 l1_u5 rfl (by decide)) rfl (by decide)) rfl (by decide)) r_v6 (d_s1 p_lk_s1 rfl (by decide)) (d_rl rfl) p_lk_s1
        · exact dw_aln rfl l0_u15 (dw_gr rfl rfl rfl hH_u15 d_c64_28 (dw_iln rfl l1_u15 (d_gd hF (fun g16 hF => dw_ald rfl hH_u15 d_a77 rfl g16.1 g16.2 r_x1_u15 rfl (dw_rI rfl rfl hH_u15.r hH_u15 hF)))))
set_option maxRecDepth 100000 in
noncomputable def F_X12_unseen_l35_b (k86 : Int → Int → Int → Int → Int → Int → d_S → Option (Int × d_S)) (rec : Int → Int → Int → Int → Int → Int → Int → d_S → Option (Int × d_S)) (x1 : Int) (x2 : Int) (x3 : Int) (x4 : Int) (x5 : Int) (x6 : Int) (x7 : Int) (s : d_S) : Option (Int × d_S) :=
  if x7 < (s.1 65 0) then
  if x6 = 0 then
  d_b (F_X12_sightOf s x7 0) (fun v3 => if v3 = x1 then
  d_b (F_X12_cellsIn s x7 x5) (fun v4 => if 0 < v4 then
  rec x1 x2 x3 x4 x5 1 (d_w (x7 + 1)) s
  else
  rec x1 x2 x3 x4 x5 0 (d_w (x7 + 1)) s)
  else
  rec x1 x2 x3 x4 x5 0 (d_w (x7 + 1)) s)
  else
  rec x1 x2 x3 x4 x5 1 (d_w (x7 + 1)) s
  else
  k86 x1 x2 x3 x4 x5 x6 s
set_option maxRecDepth 100000 in
noncomputable def F_X12_unseen_l35 (k86 : Int → Int → Int → Int → Int → Int → d_S → Option (Int × d_S)) : Nat → Int → Int → Int → Int → Int → Int → Int → d_S → Option (Int × d_S)
  | 0 => fun _ _ _ _ _ _ _ _ => none
  | n + 1 => F_X12_unseen_l35_b k86 (F_X12_unseen_l35 k86 n)
set_option maxRecDepth 100000 in
theorem D_X12_unseen_l35 {t : Nat → Option p_C} {k86 : Int → Int → Int → Int → Int → Int → d_S → Option (Int × d_S)} {r : Int × d_S} (hk86 : ∀ {x1 : Int} {x2 : Int} {x3 : Int} {x4 : Int} {x5 : Int} {x6 : Int} {ls : p_Ls} {s : d_S} {h : p_H}, k86 x1 x2 x3 x4 x5 x6 s = some r → d_V t h s → p_lk 0 ls = some (.ref 64) → d_R x1 → p_lk 1 ls = some (.int (Int32.ofInt x1)) → d_R x2 → p_lk 2 ls = some (.int (Int32.ofInt x2)) → d_R x3 → p_lk 3 ls = some (.int (Int32.ofInt x3)) → d_R x4 → p_lk 4 ls = some (.int (Int32.ofInt x4)) → d_R x5 → p_lk 5 ls = some (.int (Int32.ofInt x5)) → d_R x6 → p_lk 6 ls = some (.int (Int32.ofInt x6)) → p_wp p_GT p_MT 7 m_X12_unseen 86 ls [] h (d_QI t r)) : ∀ (n : Nat) {x1 : Int} {x2 : Int} {x3 : Int} {x4 : Int} {x5 : Int} {x6 : Int} {x7 : Int} {ls : p_Ls} {s : d_S} {h : p_H}, F_X12_unseen_l35 k86 n x1 x2 x3 x4 x5 x6 x7 s = some r → d_V t h s → p_lk 0 ls = some (.ref 64) → d_R x1 → p_lk 1 ls = some (.int (Int32.ofInt x1)) → d_R x2 → p_lk 2 ls = some (.int (Int32.ofInt x2)) → d_R x3 → p_lk 3 ls = some (.int (Int32.ofInt x3)) → d_R x4 → p_lk 4 ls = some (.int (Int32.ofInt x4)) → d_R x5 → p_lk 5 ls = some (.int (Int32.ofInt x5)) → d_R x6 → p_lk 6 ls = some (.int (Int32.ofInt x6)) → d_R x7 → p_lk 7 ls = some (.int (Int32.ofInt x7)) → p_wp p_GT p_MT 7 m_X12_unseen 35 ls [] h (d_QI t r) := by
  intro n
  induction n with
  | zero =>
    intro x1 x2 x3 x4 x5 x6 x7 ls s h hF hH l0 r_x1 l1 r_x2 l2 r_x3 l3 r_x4 l4 r_x5 l5 r_x6 l6 r_x7 l7
    cases (show (none : Option (Int × d_S)) = some r from hF)
  | succ n ih =>
    intro x1 x2 x3 x4 x5 x6 x7 ls s h hF hH l0 r_x1 l1 r_x2 l2 r_x3 l3 r_x4 l4 r_x5 l5 r_x6 l6 r_x7 l7
    have hF : F_X12_unseen_l35_b k86 (F_X12_unseen_l35 k86 n) x1 x2 x3 x4 x5 x6 x7 s = some r := hF
    unfold F_X12_unseen_l35_b at hF
    refine dw_il rfl l7 (dw_aln rfl l0 (dw_gr rfl rfl rfl hH d_c64_0 (dw_ic rfl (dw_ald rfl hH d_a65 rfl (by decide) (by decide) (d_rl rfl) (k := 0) rfl (?_)))))
    refine d_if hF (fun q hF => ?_) (fun q hF => ?_)
    · refine dw_ge_y rfl (u := 86) rfl r_x7 hH.r q ?_
      refine dw_il rfl l6 (?_)
      refine d_if hF (fun q hF => ?_) (fun q hF => ?_)
      · refine dw_zne_y rfl (u := 73) rfl r_x6 q ?_
        refine dw_aln rfl l0 (dw_il rfl l7 (dw_ic rfl (dw_vP hF rfl (d_vir (n := 3) rfl rfl rfl rfl rfl hH d_c64_0 rfl) rfl rfl rfl (dc := 0) (fun _ e => D_X12_sightOf e hH r_x7 (d_rl rfl)) (fun v3 r_v3 hF => dw_iln rfl l1 (?_)))))
        refine d_if hF (fun q hF => ?_) (fun q hF => ?_)
        · refine dw_ne_y rfl (u := 77) rfl r_v3 r_x1 q ?_
          refine dw_aln rfl l0 (dw_il rfl l7 (dw_il rfl l5 (dw_vP hF rfl (d_vir (n := 3) rfl rfl rfl rfl rfl hH d_c64_0 rfl) rfl rfl rfl (dc := 4) (fun _ e => D_X12_cellsIn e hH r_x7 r_x5) (fun v4 r_v4 hF => ?_))))
          refine d_if hF (fun q hF => ?_) (fun q hF => ?_)
          · refine dw_zle_y rfl (u := 77) rfl r_v4 q ?_
            refine dw_ic rfl (dw_go rfl (u := 78) rfl (dw_is rfl rfl (dw_ii rfl (d_s1 l7 rfl (by decide)) rfl (dw_go rfl (u := 35) rfl (?_)))))
            exact ih hF hH (d_s1 (d_s1 l0 rfl (by decide)) rfl (by decide)) r_x1 (d_s1 (d_s1 l1 rfl (by decide)) rfl (by decide)) r_x2 (d_s1 (d_s1 l2 rfl (by decide)) rfl (by decide)) r_x3 (d_s1 (d_s1 l3 rfl (by decide)) rfl (by decide)) r_x4 (d_s1 (d_s1 l4 rfl (by decide)) rfl (by decide)) r_x5 (d_s1 (d_s1 l5 rfl (by decide)) rfl (by decide)) (d_rl rfl) (d_s1 p_lk_s1 rfl (by decide)) d_R_w p_lk_s1
          · refine dw_zle_n rfl (u := 77) rfl r_v4 q ?_
            refine dw_ic rfl (dw_is rfl rfl (dw_ii rfl (d_s1 l7 rfl (by decide)) rfl (dw_go rfl (u := 35) rfl (?_))))
            exact ih hF hH (d_s1 (d_s1 l0 rfl (by decide)) rfl (by decide)) r_x1 (d_s1 (d_s1 l1 rfl (by decide)) rfl (by decide)) r_x2 (d_s1 (d_s1 l2 rfl (by decide)) rfl (by decide)) r_x3 (d_s1 (d_s1 l3 rfl (by decide)) rfl (by decide)) r_x4 (d_s1 (d_s1 l4 rfl (by decide)) rfl (by decide)) r_x5 (d_s1 (d_s1 l5 rfl (by decide)) rfl (by decide)) (d_rl rfl) (d_s1 p_lk_s1 rfl (by decide)) d_R_w p_lk_s1
        · refine dw_ne_n rfl (u := 77) rfl r_v3 r_x1 q ?_
          refine dw_ic rfl (dw_is rfl rfl (dw_ii rfl (d_s1 l7 rfl (by decide)) rfl (dw_go rfl (u := 35) rfl (?_))))
          exact ih hF hH (d_s1 (d_s1 l0 rfl (by decide)) rfl (by decide)) r_x1 (d_s1 (d_s1 l1 rfl (by decide)) rfl (by decide)) r_x2 (d_s1 (d_s1 l2 rfl (by decide)) rfl (by decide)) r_x3 (d_s1 (d_s1 l3 rfl (by decide)) rfl (by decide)) r_x4 (d_s1 (d_s1 l4 rfl (by decide)) rfl (by decide)) r_x5 (d_s1 (d_s1 l5 rfl (by decide)) rfl (by decide)) (d_rl rfl) (d_s1 p_lk_s1 rfl (by decide)) d_R_w p_lk_s1
      · refine dw_zne_n rfl (u := 73) rfl r_x6 q ?_
        refine dw_ic rfl (dw_go rfl (u := 78) rfl (dw_is rfl rfl (dw_ii rfl (d_s1 l7 rfl (by decide)) rfl (dw_go rfl (u := 35) rfl (?_)))))
        exact ih hF hH (d_s1 (d_s1 l0 rfl (by decide)) rfl (by decide)) r_x1 (d_s1 (d_s1 l1 rfl (by decide)) rfl (by decide)) r_x2 (d_s1 (d_s1 l2 rfl (by decide)) rfl (by decide)) r_x3 (d_s1 (d_s1 l3 rfl (by decide)) rfl (by decide)) r_x4 (d_s1 (d_s1 l4 rfl (by decide)) rfl (by decide)) r_x5 (d_s1 (d_s1 l5 rfl (by decide)) rfl (by decide)) (d_rl rfl) (d_s1 p_lk_s1 rfl (by decide)) d_R_w p_lk_s1
    · refine dw_ge_n rfl (u := 86) rfl r_x7 hH.r q ?_
      exact hk86 hF hH l0 r_x1 l1 r_x2 l2 r_x3 l3 r_x4 l4 r_x5 l5 r_x6 l6
set_option maxRecDepth 100000 in
noncomputable def F_X12_unseen_l20_b (k119 : Int → Int → Int → Int → d_S → Option (Int × d_S)) (rec : Int → Int → Int → Int → Int → d_S → Option (Int × d_S)) (x1 : Int) (x2 : Int) (x3 : Int) (x4 : Int) (x5 : Int) (s : d_S) : Option (Int × d_S) :=
  d_b (F_X12_blocks s) (fun v2 => if x5 < v2 then
  F_X12_unseen_l35 (fun x1_u5 x2_u5 x3_u5 x4_u5 x5_u5 x6_u5 s_u5 =>
  if x6_u5 = 0 then
  rec x1_u5 x2_u5 (d_w (x3_u5 + 0)) x4_u5 (d_w (x5_u5 + 1)) s_u5
  else
  d_b (F_X12_isSold s_u5 x5_u5) (fun v6 => if v6 = 0 then
  d_b2 (F_X12_sellsOf s_u5 x5_u5) (fun v7 s8 => rec x1_u5 x2_u5 (d_w (x3_u5 + v7)) x4_u5 (d_w (x5_u5 + 1)) s8)
  else
  rec x1_u5 x2_u5 (d_w (x3_u5 + 0)) x4_u5 (d_w (x5_u5 + 1)) s_u5)) d_N x1 x2 x3 x4 x5 0 0 s
  else
  k119 x1 x2 x3 x4 s)
set_option maxRecDepth 100000 in
noncomputable def F_X12_unseen_l20 (k119 : Int → Int → Int → Int → d_S → Option (Int × d_S)) : Nat → Int → Int → Int → Int → Int → d_S → Option (Int × d_S)
  | 0 => fun _ _ _ _ _ _ => none
  | n + 1 => F_X12_unseen_l20_b k119 (F_X12_unseen_l20 k119 n)
set_option maxRecDepth 100000 in
theorem D_X12_unseen_l20 {t : Nat → Option p_C} {k119 : Int → Int → Int → Int → d_S → Option (Int × d_S)} {r : Int × d_S} (hk119 : ∀ {x1 : Int} {x2 : Int} {x3 : Int} {x4 : Int} {ls : p_Ls} {s : d_S} {h : p_H}, k119 x1 x2 x3 x4 s = some r → d_V t h s → p_lk 0 ls = some (.ref 64) → d_R x1 → p_lk 1 ls = some (.int (Int32.ofInt x1)) → d_R x2 → p_lk 2 ls = some (.int (Int32.ofInt x2)) → d_R x3 → p_lk 3 ls = some (.int (Int32.ofInt x3)) → d_R x4 → p_lk 4 ls = some (.int (Int32.ofInt x4)) → p_wp p_GT p_MT 7 m_X12_unseen 119 ls [] h (d_QI t r)) : ∀ (n : Nat) {x1 : Int} {x2 : Int} {x3 : Int} {x4 : Int} {x5 : Int} {ls : p_Ls} {s : d_S} {h : p_H}, F_X12_unseen_l20 k119 n x1 x2 x3 x4 x5 s = some r → d_V t h s → p_lk 0 ls = some (.ref 64) → d_R x1 → p_lk 1 ls = some (.int (Int32.ofInt x1)) → d_R x2 → p_lk 2 ls = some (.int (Int32.ofInt x2)) → d_R x3 → p_lk 3 ls = some (.int (Int32.ofInt x3)) → d_R x4 → p_lk 4 ls = some (.int (Int32.ofInt x4)) → d_R x5 → p_lk 5 ls = some (.int (Int32.ofInt x5)) → p_wp p_GT p_MT 7 m_X12_unseen 20 ls [] h (d_QI t r) := by
  intro n
  induction n with
  | zero =>
    intro x1 x2 x3 x4 x5 ls s h hF hH l0 r_x1 l1 r_x2 l2 r_x3 l3 r_x4 l4 r_x5 l5
    cases (show (none : Option (Int × d_S)) = some r from hF)
  | succ n ih =>
    intro x1 x2 x3 x4 x5 ls s h hF hH l0 r_x1 l1 r_x2 l2 r_x3 l3 r_x4 l4 r_x5 l5
    have hF : F_X12_unseen_l20_b k119 (F_X12_unseen_l20 k119 n) x1 x2 x3 x4 x5 s = some r := hF
    unfold F_X12_unseen_l20_b at hF
    refine dw_il rfl l5 (dw_aln rfl l0 (dw_vP hF rfl (d_vir (n := 1) rfl rfl rfl rfl rfl hH d_c64_0 rfl) rfl rfl rfl (dc := 2) (fun _ e => D_X12_blocks e hH) (fun v2 r_v2 hF => ?_)))
    refine d_if hF (fun q hF => ?_) (fun q hF => ?_)
    · refine dw_ge_y rfl (u := 119) rfl r_x5 r_v2 q ?_
      refine dw_ic rfl (dw_is rfl rfl (dw_ic rfl (dw_is rfl rfl (?_))))
      refine D_X12_unseen_l35 (fun {x1_u5} {x2_u5} {x3_u5} {x4_u5} {x5_u5} {x6_u5} {ls_u5} {s_u5} {h_u5} hF hH_u5 l0_u5 r_x1_u5 l1_u5 r_x2_u5 l2_u5 r_x3_u5 l3_u5 r_x4_u5 l4_u5 r_x5_u5 l5_u5 r_x6_u5 l6_u5 => ?_) _ hF hH (d_s1 (d_s1 l0 rfl (by decide)) rfl (by decide)) r_x1 (d_s1 (d_s1 l1 rfl (by decide)) rfl (by decide)) r_x2 (d_s1 (d_s1 l2 rfl (by decide)) rfl (by decide)) r_x3 (d_s1 (d_s1 l3 rfl (by decide)) rfl (by decide)) r_x4 (d_s1 (d_s1 l4 rfl (by decide)) rfl (by decide)) r_x5 (d_s1 (d_s1 l5 rfl (by decide)) rfl (by decide)) (d_rl rfl) (d_s1 p_lk_s1 rfl (by decide)) (d_rl rfl) p_lk_s1
      · refine dw_iln rfl l3_u5 (dw_il rfl l6_u5 (?_))
        refine d_if hF (fun q hF => ?_) (fun q hF => ?_)
        · refine dw_zeq_y rfl (u := 110) rfl r_x6_u5 q ?_
          refine dw_ic rfl (dw_add rfl (dw_w1 (dw_isn rfl rfl (dw_ii rfl (d_s1 l5_u5 rfl (by decide)) rfl (dw_go rfl (u := 20) rfl (?_))))))
          exact ih hF hH_u5 (d_s1 (d_s1 l0_u5 rfl (by decide)) rfl (by decide)) r_x1_u5 (d_s1 (d_s1 l1_u5 rfl (by decide)) rfl (by decide)) r_x2_u5 (d_s1 (d_s1 l2_u5 rfl (by decide)) rfl (by decide)) d_R_w (d_s1 p_lk_s1 rfl (by decide)) r_x4_u5 (d_s1 (d_s1 l4_u5 rfl (by decide)) rfl (by decide)) d_R_w p_lk_s1
        · refine dw_zeq_n rfl (u := 110) rfl r_x6_u5 q ?_
          refine dw_aln rfl l0_u5 (dw_il rfl l5_u5 (dw_vB hF rfl (d_vir (n := 2) rfl rfl rfl rfl rfl hH_u5 d_c64_0 rfl) rfl rfl rfl (dc := 1) (fun _ e => D_X12_isSold e hH_u5 r_x5_u5) (fun v6 r_v6 hF => ?_)))
          refine d_if hF (fun q hF => ?_) (fun q hF => ?_)
          · refine dw_zne_y rfl (u := 110) rfl (d_R_b r_v6) q ?_
            refine dw_aln rfl l0_u5 (dw_il rfl l5_u5 (dw_vI hF rfl (d_vir (n := 2) rfl rfl rfl rfl rfl hH_u5 d_c64_0 rfl) rfl rfl rfl (dc := 6) (fun _ _ e => D_X12_sellsOf e hH_u5 r_x5_u5) (fun v7 s8 h8 hH8 r_v7 hF => dw_go rfl (u := 111) rfl (dw_add rfl (dw_w1 (dw_isn rfl rfl (dw_ii rfl (d_s1 l5_u5 rfl (by decide)) rfl (dw_go rfl (u := 20) rfl (?_)))))))))
            exact ih hF hH8 (d_s1 (d_s1 l0_u5 rfl (by decide)) rfl (by decide)) r_x1_u5 (d_s1 (d_s1 l1_u5 rfl (by decide)) rfl (by decide)) r_x2_u5 (d_s1 (d_s1 l2_u5 rfl (by decide)) rfl (by decide)) d_R_w (d_s1 p_lk_s1 rfl (by decide)) r_x4_u5 (d_s1 (d_s1 l4_u5 rfl (by decide)) rfl (by decide)) d_R_w p_lk_s1
          · refine dw_zne_n rfl (u := 110) rfl (d_R_b r_v6) q ?_
            refine dw_ic rfl (dw_add rfl (dw_w1 (dw_isn rfl rfl (dw_ii rfl (d_s1 l5_u5 rfl (by decide)) rfl (dw_go rfl (u := 20) rfl (?_))))))
            exact ih hF hH_u5 (d_s1 (d_s1 l0_u5 rfl (by decide)) rfl (by decide)) r_x1_u5 (d_s1 (d_s1 l1_u5 rfl (by decide)) rfl (by decide)) r_x2_u5 (d_s1 (d_s1 l2_u5 rfl (by decide)) rfl (by decide)) d_R_w (d_s1 p_lk_s1 rfl (by decide)) r_x4_u5 (d_s1 (d_s1 l4_u5 rfl (by decide)) rfl (by decide)) d_R_w p_lk_s1
    · refine dw_ge_n rfl (u := 119) rfl r_x5 r_v2 q ?_
      exact hk119 hF hH l0 r_x1 l1 r_x2 l2 r_x3 l3 r_x4 l4
set_option maxRecDepth 100000 in
noncomputable def F_X12_unseen_l122_b (k162 : Int → Int → Int → d_S → Option (Int × d_S)) (rec : Int → Int → Int → Int → Int → d_S → Option (Int × d_S)) (x1 : Int) (x2 : Int) (x3 : Int) (x4 : Int) (x5 : Int) (s : d_S) : Option (Int × d_S) :=
  if x5 < (s.1 65 0) then
  d_b (F_X12_sightOf s x5 0) (fun v10 => if v10 = x1 then
  d_b (F_X12_isShowing s x5) (fun v11 => if v11 = 0 then
  rec x1 x2 x3 x4 (d_w (x5 + 1)) s
  else
  rec x1 x2 x3 1 (d_w (x5 + 1)) s)
  else
  rec x1 x2 x3 x4 (d_w (x5 + 1)) s)
  else
  k162 x2 x3 x4 s
set_option maxRecDepth 100000 in
noncomputable def F_X12_unseen_l122 (k162 : Int → Int → Int → d_S → Option (Int × d_S)) : Nat → Int → Int → Int → Int → Int → d_S → Option (Int × d_S)
  | 0 => fun _ _ _ _ _ _ => none
  | n + 1 => F_X12_unseen_l122_b k162 (F_X12_unseen_l122 k162 n)
set_option maxRecDepth 100000 in
theorem D_X12_unseen_l122 {t : Nat → Option p_C} {k162 : Int → Int → Int → d_S → Option (Int × d_S)} {r : Int × d_S} (hk162 : ∀ {x2 : Int} {x3 : Int} {x4 : Int} {ls : p_Ls} {s : d_S} {h : p_H}, k162 x2 x3 x4 s = some r → d_V t h s → d_R x2 → p_lk 2 ls = some (.int (Int32.ofInt x2)) → d_R x3 → p_lk 3 ls = some (.int (Int32.ofInt x3)) → d_R x4 → p_lk 4 ls = some (.int (Int32.ofInt x4)) → p_wp p_GT p_MT 7 m_X12_unseen 162 ls [] h (d_QI t r)) : ∀ (n : Nat) {x1 : Int} {x2 : Int} {x3 : Int} {x4 : Int} {x5 : Int} {ls : p_Ls} {s : d_S} {h : p_H}, F_X12_unseen_l122 k162 n x1 x2 x3 x4 x5 s = some r → d_V t h s → p_lk 0 ls = some (.ref 64) → d_R x1 → p_lk 1 ls = some (.int (Int32.ofInt x1)) → d_R x2 → p_lk 2 ls = some (.int (Int32.ofInt x2)) → d_R x3 → p_lk 3 ls = some (.int (Int32.ofInt x3)) → d_R x4 → p_lk 4 ls = some (.int (Int32.ofInt x4)) → d_R x5 → p_lk 5 ls = some (.int (Int32.ofInt x5)) → p_wp p_GT p_MT 7 m_X12_unseen 122 ls [] h (d_QI t r) := by
  intro n
  induction n with
  | zero =>
    intro x1 x2 x3 x4 x5 ls s h hF hH l0 r_x1 l1 r_x2 l2 r_x3 l3 r_x4 l4 r_x5 l5
    cases (show (none : Option (Int × d_S)) = some r from hF)
  | succ n ih =>
    intro x1 x2 x3 x4 x5 ls s h hF hH l0 r_x1 l1 r_x2 l2 r_x3 l3 r_x4 l4 r_x5 l5
    have hF : F_X12_unseen_l122_b k162 (F_X12_unseen_l122 k162 n) x1 x2 x3 x4 x5 s = some r := hF
    unfold F_X12_unseen_l122_b at hF
    refine dw_il rfl l5 (dw_aln rfl l0 (dw_gr rfl rfl rfl hH d_c64_0 (dw_ic rfl (dw_ald rfl hH d_a65 rfl (by decide) (by decide) (d_rl rfl) (k := 0) rfl (?_)))))
    refine d_if hF (fun q hF => ?_) (fun q hF => ?_)
    · refine dw_ge_y rfl (u := 162) rfl r_x5 hH.r q ?_
      refine dw_aln rfl l0 (dw_il rfl l5 (dw_ic rfl (dw_vP hF rfl (d_vir (n := 3) rfl rfl rfl rfl rfl hH d_c64_0 rfl) rfl rfl rfl (dc := 0) (fun _ e => D_X12_sightOf e hH r_x5 (d_rl rfl)) (fun v10 r_v10 hF => dw_iln rfl l1 (?_)))))
      refine d_if hF (fun q hF => ?_) (fun q hF => ?_)
      · refine dw_ne_y rfl (u := 156) rfl r_v10 r_x1 q ?_
        refine dw_aln rfl l0 (dw_il rfl l5 (dw_vB hF rfl (d_vir (n := 2) rfl rfl rfl rfl rfl hH d_c64_0 rfl) rfl rfl rfl (dc := 5) (fun _ e => D_X12_isShowing e hH r_x5) (fun v11 r_v11 hF => ?_)))
        refine d_if hF (fun q hF => ?_) (fun q hF => ?_)
        · refine dw_zeq_y rfl (u := 156) rfl (d_R_b r_v11) q ?_
          refine dw_ii rfl l5 rfl (dw_go rfl (u := 122) rfl (?_))
          exact ih hF hH (d_s1 l0 rfl (by decide)) r_x1 (d_s1 l1 rfl (by decide)) r_x2 (d_s1 l2 rfl (by decide)) r_x3 (d_s1 l3 rfl (by decide)) r_x4 (d_s1 l4 rfl (by decide)) d_R_w p_lk_s1
        · refine dw_zeq_n rfl (u := 156) rfl (d_R_b r_v11) q ?_
          refine dw_ic rfl (dw_is rfl rfl (dw_ii rfl (d_s1 l5 rfl (by decide)) rfl (dw_go rfl (u := 122) rfl (?_))))
          exact ih hF hH (d_s1 (d_s1 l0 rfl (by decide)) rfl (by decide)) r_x1 (d_s1 (d_s1 l1 rfl (by decide)) rfl (by decide)) r_x2 (d_s1 (d_s1 l2 rfl (by decide)) rfl (by decide)) r_x3 (d_s1 (d_s1 l3 rfl (by decide)) rfl (by decide)) (d_rl rfl) (d_s1 p_lk_s1 rfl (by decide)) d_R_w p_lk_s1
      · refine dw_ne_n rfl (u := 156) rfl r_v10 r_x1 q ?_
        refine dw_ii rfl l5 rfl (dw_go rfl (u := 122) rfl (?_))
        exact ih hF hH (d_s1 l0 rfl (by decide)) r_x1 (d_s1 l1 rfl (by decide)) r_x2 (d_s1 l2 rfl (by decide)) r_x3 (d_s1 l3 rfl (by decide)) r_x4 (d_s1 l4 rfl (by decide)) d_R_w p_lk_s1
    · refine dw_ge_n rfl (u := 162) rfl r_x5 hH.r q ?_
      exact hk162 hF hH r_x2 l2 r_x3 l3 r_x4 l4
set_option maxRecDepth 100000 in
noncomputable def F_X12_unseen (s : d_S) (x1 : Int) (x2 : Int) : Option (Int × d_S) :=
  d_b (F_X12_isIn x1 0 9) (fun v1 => if v1 = 0 then
  some ((-1), s)
  else
  F_X12_unseen_l20 (fun x1_u9 x2_u9 x3_u9 x4_u9 s_u9 =>
  F_X12_unseen_l122 (fun x2_u12 x3_u12 x4_u12 s_u12 =>
  if x2_u12 = 0 then
  some (x3_u12, s_u12)
  else
  some (x4_u12, s_u12)) d_N x1_u9 x2_u9 x3_u9 x4_u9 0 s_u9) d_N x1 x2 0 0 0 s)
set_option maxRecDepth 100000 in
theorem D_X12_unseen {t : Nat → Option p_C} {h : p_H} {s : d_S} {x1 : Int} {x2 : Int} {r : Int × d_S} (hF : F_X12_unseen s x1 x2 = some r) (hH : d_V t h s) (r_x1 : d_R x1) (r_x2 : d_R x2) : p_wp p_GT p_MT 7 m_X12_unseen 0 (lv_args 0 [.ref 64, .int (Int32.ofInt x1), .int (Int32.ofInt x2)]) [] h (d_QI t r) := by
  unfold F_X12_unseen at hF
  refine dw_iln rfl rfl (dw_ic rfl (dw_bp rfl rfl (dw_sB hF rfl rfl rfl rfl rfl (dc := 0) (fun _ e => D_X12_isIn e r_x1 (d_rl rfl) (d_rl rfl)) (fun v1 r_v1 hF => ?_))))
  refine d_if hF (fun q hF => ?_) (fun q hF => ?_)
  · refine dw_zne_y rfl (u := 12) rfl (d_R_b r_v1) q ?_
    exact dw_ic rfl (dw_rI rfl rfl (d_rl rfl) hH hF)
  · refine dw_zne_n rfl (u := 12) rfl (d_R_b r_v1) q ?_
    refine dw_ic rfl (dw_isn rfl rfl (dw_ic rfl (dw_is rfl rfl (dw_ic rfl (dw_is rfl rfl (?_))))))
    refine D_X12_unseen_l20 (fun {x1_u9} {x2_u9} {x3_u9} {x4_u9} {ls_u9} {s_u9} {h_u9} hF hH_u9 l0_u9 r_x1_u9 l1_u9 r_x2_u9 l2_u9 r_x3_u9 l3_u9 r_x4_u9 l4_u9 => ?_) _ hF hH (d_s1 (d_s1 (d_s1 rfl rfl (by decide)) rfl (by decide)) rfl (by decide)) r_x1 (d_s1 (d_s1 (d_s1 rfl rfl (by decide)) rfl (by decide)) rfl (by decide)) r_x2 (d_s1 (d_s1 (d_s1 rfl rfl (by decide)) rfl (by decide)) rfl (by decide)) (d_rl rfl) (d_s1 (d_s1 p_lk_s1 rfl (by decide)) rfl (by decide)) (d_rl rfl) (d_s1 p_lk_s1 rfl (by decide)) (d_rl rfl) p_lk_s1
    · refine dw_ic rfl (dw_is rfl rfl (?_))
      refine D_X12_unseen_l122 (fun {x2_u12} {x3_u12} {x4_u12} {ls_u12} {s_u12} {h_u12} hF hH_u12 r_x2_u12 l2_u12 r_x3_u12 l3_u12 r_x4_u12 l4_u12 => ?_) _ hF hH_u9 (d_s1 l0_u9 rfl (by decide)) r_x1_u9 (d_s1 l1_u9 rfl (by decide)) r_x2_u9 (d_s1 l2_u9 rfl (by decide)) r_x3_u9 (d_s1 l3_u9 rfl (by decide)) r_x4_u9 (d_s1 l4_u9 rfl (by decide)) (d_rl rfl) p_lk_s1
      · refine dw_iln rfl l2_u12 (?_)
        refine d_if hF (fun q hF => ?_) (fun q hF => ?_)
        · refine dw_zeq_y rfl (u := 171) rfl r_x2_u12 q ?_
          exact dw_iln rfl l3_u12 (dw_rI rfl rfl r_x3_u12 hH_u12 hF)
        · refine dw_zeq_n rfl (u := 171) rfl r_x2_u12 q ?_
          exact dw_il rfl l4_u12 (dw_go rfl (u := 172) rfl (dw_rI rfl rfl r_x4_u12 hH_u12 hF))

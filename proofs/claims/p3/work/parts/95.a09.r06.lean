set_option maxRecDepth 100000 in
noncomputable def F_X12_mostOf_l2_b (k29 : Int → d_S → Option (Int × d_S)) (rec : Int → Int → d_S → Option (Int × d_S)) (x1 : Int) (x2 : Int) (s : d_S) : Option (Int × d_S) :=
  if x2 < 32 then
  if x2 = 0 then
  d_g (0 ≤ x2 ∧ x2 < 32) (d_l (d_si s 76 ((x2).toNat) 0) (fun s2 => rec x1 (d_w (x2 + 1)) s2))
  else
  d_g (0 ≤ x2 ∧ x2 < 32) (d_l (d_si s 76 ((x2).toNat) (-1)) (fun s4 => rec x1 (d_w (x2 + 1)) s4))
  else
  k29 x1 s
set_option maxRecDepth 100000 in
noncomputable def F_X12_mostOf_l2 (k29 : Int → d_S → Option (Int × d_S)) : Nat → Int → Int → d_S → Option (Int × d_S)
  | 0 => fun _ _ _ => none
  | n + 1 => F_X12_mostOf_l2_b k29 (F_X12_mostOf_l2 k29 n)
set_option maxRecDepth 100000 in
theorem D_X12_mostOf_l2 {t : Nat → Option p_C} {k29 : Int → d_S → Option (Int × d_S)} {r : Int × d_S} (hk29 : ∀ {x1 : Int} {ls : p_Ls} {s : d_S} {h : p_H}, k29 x1 s = some r → d_V t h s → p_lk 0 ls = some (.ref 64) → d_R x1 → p_lk 1 ls = some (.int (Int32.ofInt x1)) → p_wp p_GT p_MT 3 m_X12_mostOf 29 ls [] h (d_QI t r)) : ∀ (n : Nat) {x1 : Int} {x2 : Int} {ls : p_Ls} {s : d_S} {h : p_H}, F_X12_mostOf_l2 k29 n x1 x2 s = some r → d_V t h s → p_lk 0 ls = some (.ref 64) → d_R x1 → p_lk 1 ls = some (.int (Int32.ofInt x1)) → d_R x2 → p_lk 2 ls = some (.int (Int32.ofInt x2)) → p_wp p_GT p_MT 3 m_X12_mostOf 2 ls [] h (d_QI t r) := by
  intro n
  induction n with
  | zero =>
    intro x1 x2 ls s h hF hH l0 r_x1 l1 r_x2 l2
    cases (show (none : Option (Int × d_S)) = some r from hF)
  | succ n ih =>
    intro x1 x2 ls s h hF hH l0 r_x1 l1 r_x2 l2
    have hF : F_X12_mostOf_l2_b k29 (F_X12_mostOf_l2 k29 n) x1 x2 s = some r := hF
    unfold F_X12_mostOf_l2_b at hF
    refine dw_iln rfl l2 (dw_bp rfl rfl (?_))
    refine d_if hF (fun q hF => ?_) (fun q hF => ?_)
    · refine dw_ge_y rfl (u := 29) rfl r_x2 (d_rl rfl) q ?_
      refine dw_aln rfl l0 (dw_gr rfl rfl rfl hH d_c64_27 (dw_iln rfl l2 (dw_iln rfl l2 (?_))))
      refine d_if hF (fun q hF => ?_) (fun q hF => ?_)
      · refine dw_zne_y rfl (u := 21) rfl r_x2 q ?_
        refine dw_ic rfl (dw_go rfl (u := 22) rfl (d_gd hF (fun g1 hF => dw_ast rfl hH d_a76 g1.1 g1.2 r_x2 rfl (d_rl rfl) hF (fun s2 h2 hH2 hF => dw_ii rfl l2 rfl (dw_go rfl (u := 2) rfl (?_))))))
        exact ih hF hH2 (d_s1 l0 rfl (by decide)) r_x1 (d_s1 l1 rfl (by decide)) d_R_w p_lk_s1
      · refine dw_zne_n rfl (u := 21) rfl r_x2 q ?_
        refine dw_ic rfl (d_gd hF (fun g3 hF => dw_ast rfl hH d_a76 g3.1 g3.2 r_x2 rfl (d_rl rfl) hF (fun s4 h4 hH4 hF => dw_ii rfl l2 rfl (dw_go rfl (u := 2) rfl (?_)))))
        exact ih hF hH4 (d_s1 l0 rfl (by decide)) r_x1 (d_s1 l1 rfl (by decide)) d_R_w p_lk_s1
    · refine dw_ge_n rfl (u := 29) rfl r_x2 (d_rl rfl) q ?_
      exact hk29 hF hH l0 r_x1 l1
set_option maxRecDepth 100000 in
noncomputable def F_X12_mostOf_j169 (k65 : Int → Int → Int → Int → Int → d_S → Option (Int × d_S)) (x1 : Int) (x2 : Int) (x3 : Int) (x4 : Int) (x5 : Int) (x6 : Int) (s : d_S) : Option (Int × d_S) :=
  if x2 < x6 then
  k65 x1 x6 x3 x4 (d_w (x5 + 1)) s
  else
  k65 x1 x2 x3 x4 (d_w (x5 + 1)) s
set_option maxRecDepth 100000 in
theorem D_X12_mostOf_j169 {t : Nat → Option p_C} {h : p_H} {s : d_S} {k65 : Int → Int → Int → Int → Int → d_S → Option (Int × d_S)} {x1 : Int} {x2 : Int} {x3 : Int} {x4 : Int} {x5 : Int} {x6 : Int} {r : Int × d_S} {ls : p_Ls} (hF : F_X12_mostOf_j169 k65 x1 x2 x3 x4 x5 x6 s = some r) (hH : d_V t h s) (l0 : p_lk 0 ls = some (.ref 64)) (r_x1 : d_R x1) (l1 : p_lk 1 ls = some (.int (Int32.ofInt x1))) (r_x2 : d_R x2) (l2 : p_lk 2 ls = some (.int (Int32.ofInt x2))) (r_x3 : d_R x3) (l3 : p_lk 3 ls = some (.int (Int32.ofInt x3))) (r_x4 : d_R x4) (l4 : p_lk 4 ls = some (.int (Int32.ofInt x4))) (r_x5 : d_R x5) (l5 : p_lk 5 ls = some (.int (Int32.ofInt x5))) (r_x6 : d_R x6) (l6 : p_lk 6 ls = some (.int (Int32.ofInt x6))) (hk65 : ∀ {x1 : Int} {x2 : Int} {x3 : Int} {x4 : Int} {x5 : Int} {ls : p_Ls} {s : d_S} {h : p_H}, k65 x1 x2 x3 x4 x5 s = some r → d_V t h s → p_lk 0 ls = some (.ref 64) → d_R x1 → p_lk 1 ls = some (.int (Int32.ofInt x1)) → d_R x2 → p_lk 2 ls = some (.int (Int32.ofInt x2)) → d_R x3 → p_lk 3 ls = some (.int (Int32.ofInt x3)) → d_R x4 → p_lk 4 ls = some (.int (Int32.ofInt x4)) → d_R x5 → p_lk 5 ls = some (.int (Int32.ofInt x5)) → p_wp p_GT p_MT 3 m_X12_mostOf 65 ls [] h (d_QI t r)) : p_wp p_GT p_MT 3 m_X12_mostOf 169 ls [] h (d_QI t r) := by
  unfold F_X12_mostOf_j169 at hF
  refine dw_il rfl l6 (dw_iln rfl l2 (?_))
  refine d_if hF (fun q hF => ?_) (fun q hF => ?_)
  · refine dw_le_y rfl (u := 178) rfl r_x6 r_x2 q ?_
    refine dw_il rfl l6 (dw_isn rfl rfl (dw_ii rfl (d_s1 l5 rfl (by decide)) rfl (dw_go rfl (u := 65) rfl (?_))))
    exact hk65 hF hH (d_s1 (d_s1 l0 rfl (by decide)) rfl (by decide)) r_x1 (d_s1 (d_s1 l1 rfl (by decide)) rfl (by decide)) r_x6 (d_s1 p_lk_s1 rfl (by decide)) r_x3 (d_s1 (d_s1 l3 rfl (by decide)) rfl (by decide)) r_x4 (d_s1 (d_s1 l4 rfl (by decide)) rfl (by decide)) d_R_w p_lk_s1
  · refine dw_le_n rfl (u := 178) rfl r_x6 r_x2 q ?_
    refine dw_ii rfl l5 rfl (dw_go rfl (u := 65) rfl (?_))
    exact hk65 hF hH (d_s1 l0 rfl (by decide)) r_x1 (d_s1 l1 rfl (by decide)) r_x2 (d_s1 l2 rfl (by decide)) r_x3 (d_s1 l3 rfl (by decide)) r_x4 (d_s1 l4 rfl (by decide)) d_R_w p_lk_s1
set_option maxRecDepth 100000 in
noncomputable def F_X12_mostOf_l65_b (k184 : Int → Int → Int → Int → d_S → Option (Int × d_S)) (rec : Int → Int → Int → Int → Int → d_S → Option (Int × d_S)) (x1 : Int) (x2 : Int) (x3 : Int) (x4 : Int) (x5 : Int) (s : d_S) : Option (Int × d_S) :=
  if x5 < (s.1 65 4) then
  d_g (0 ≤ x4 ∧ x4 < 32) (if (s.1 76 (x4.toNat)) < 0 then
  k184 x1 x2 x3 x4 s
  else
  d_b (F_X12_has x4 x5) (fun v9 => if v9 = 0 then
  d_g (0 ≤ (d_w ((64 * x5) + x3)) ∧ (d_w ((64 * x5) + x3)) < 320) (if (s.1 75 (((d_w ((64 * x5) + x3))).toNat)) = 0 then
  rec x1 x2 x3 x4 (d_w (x5 + 1)) s
  else
  d_g (0 ≤ x4 ∧ x4 < 32) (d_g (0 ≤ (d_w ((284 + (3 * x5)) + 2)) ∧ (d_w ((284 + (3 * x5)) + 2)) < 2517) (d_l (d_w ((s.1 76 (x4.toNat)) + (s.1 65 (((d_w ((284 + (3 * x5)) + 2))).toNat)))) (fun z13 => d_g (0 ≤ (d_or x4 (d_shl 1 x5)) ∧ (d_or x4 (d_shl 1 x5)) < 32) (if (s.1 76 (((d_or x4 (d_shl 1 x5))).toNat)) < z13 then
  d_g (0 ≤ (d_or x4 (d_shl 1 x5)) ∧ (d_or x4 (d_shl 1 x5)) < 32) (d_l (d_si s 76 (((d_or x4 (d_shl 1 x5))).toNat) z13) (fun s16 => F_X12_mostOf_j169 rec x1 x2 x3 x4 x5 z13 s16))
  else
  F_X12_mostOf_j169 rec x1 x2 x3 x4 x5 z13 s)))))
  else
  rec x1 x2 x3 x4 (d_w (x5 + 1)) s))
  else
  k184 x1 x2 x3 x4 s
set_option maxRecDepth 100000 in
noncomputable def F_X12_mostOf_l65 (k184 : Int → Int → Int → Int → d_S → Option (Int × d_S)) : Nat → Int → Int → Int → Int → Int → d_S → Option (Int × d_S)
  | 0 => fun _ _ _ _ _ _ => none
  | n + 1 => F_X12_mostOf_l65_b k184 (F_X12_mostOf_l65 k184 n)
set_option maxRecDepth 100000 in
theorem D_X12_mostOf_l65 {t : Nat → Option p_C} {k184 : Int → Int → Int → Int → d_S → Option (Int × d_S)} {r : Int × d_S} (hk184 : ∀ {x1 : Int} {x2 : Int} {x3 : Int} {x4 : Int} {ls : p_Ls} {s : d_S} {h : p_H}, k184 x1 x2 x3 x4 s = some r → d_V t h s → p_lk 0 ls = some (.ref 64) → d_R x1 → p_lk 1 ls = some (.int (Int32.ofInt x1)) → d_R x2 → p_lk 2 ls = some (.int (Int32.ofInt x2)) → d_R x3 → p_lk 3 ls = some (.int (Int32.ofInt x3)) → d_R x4 → p_lk 4 ls = some (.int (Int32.ofInt x4)) → p_wp p_GT p_MT 3 m_X12_mostOf 184 ls [] h (d_QI t r)) : ∀ (n : Nat) {x1 : Int} {x2 : Int} {x3 : Int} {x4 : Int} {x5 : Int} {ls : p_Ls} {s : d_S} {h : p_H}, F_X12_mostOf_l65 k184 n x1 x2 x3 x4 x5 s = some r → d_V t h s → p_lk 0 ls = some (.ref 64) → d_R x1 → p_lk 1 ls = some (.int (Int32.ofInt x1)) → d_R x2 → p_lk 2 ls = some (.int (Int32.ofInt x2)) → d_R x3 → p_lk 3 ls = some (.int (Int32.ofInt x3)) → d_R x4 → p_lk 4 ls = some (.int (Int32.ofInt x4)) → d_R x5 → p_lk 5 ls = some (.int (Int32.ofInt x5)) → p_wp p_GT p_MT 3 m_X12_mostOf 65 ls [] h (d_QI t r) := by
  intro n
  induction n with
  | zero =>
    intro x1 x2 x3 x4 x5 ls s h hF hH l0 r_x1 l1 r_x2 l2 r_x3 l3 r_x4 l4 r_x5 l5
    cases (show (none : Option (Int × d_S)) = some r from hF)
  | succ n ih =>
    intro x1 x2 x3 x4 x5 ls s h hF hH l0 r_x1 l1 r_x2 l2 r_x3 l3 r_x4 l4 r_x5 l5
    have hF : F_X12_mostOf_l65_b k184 (F_X12_mostOf_l65 k184 n) x1 x2 x3 x4 x5 s = some r := hF
    unfold F_X12_mostOf_l65_b at hF
    refine dw_il rfl l5 (dw_aln rfl l0 (dw_gr rfl rfl rfl hH d_c64_0 (dw_ic rfl (dw_ald rfl hH d_a65 rfl (by decide) (by decide) (d_rl rfl) (k := 4) rfl (?_)))))
    refine d_if hF (fun q hF => ?_) (fun q hF => ?_)
    · refine dw_ge_y rfl (u := 184) rfl r_x5 hH.r q ?_
      refine dw_aln rfl l0 (dw_gr rfl rfl rfl hH d_c64_27 (dw_il rfl l4 (d_gd hF (fun g8 hF => dw_ald rfl hH d_a76 rfl g8.1 g8.2 r_x4 rfl (?_)))))
      refine d_if hF (fun q hF => ?_) (fun q hF => ?_)
      · refine dw_zlt_y rfl (u := 184) rfl hH.r q ?_
        exact hk184 hF hH l0 r_x1 l1 r_x2 l2 r_x3 l3 r_x4 l4
      · refine dw_zlt_n rfl (u := 184) rfl hH.r q ?_
        refine dw_il rfl l4 (dw_il rfl l5 (dw_sB hF rfl rfl rfl rfl rfl (dc := 0) (fun _ e => D_X12_has e r_x4 r_x5) (fun v9 r_v9 hF => ?_)))
        refine d_if hF (fun q hF => ?_) (fun q hF => ?_)
        · refine dw_zne_y rfl (u := 178) rfl (d_R_b r_v9) q ?_
          refine dw_aln rfl l0 (dw_gr rfl rfl rfl hH d_c64_26 (dw_bp rfl rfl (dw_il rfl l5 (dw_mul rfl (dw_iln rfl l3 (dw_add rfl (dw_w1 (d_gd hF (fun g10 hF => dw_bld rfl hH d_a75 g10.1 g10.2 d_R_w rfl (?_))))))))))
          refine d_if hF (fun q hF => ?_) (fun q hF => ?_)
          · refine dw_zne_y rfl (u := 114) rfl hH.r q ?_
            refine dw_go rfl (u := 178) rfl (dw_ii rfl l5 rfl (dw_go rfl (u := 65) rfl (?_)))
            exact ih hF hH (d_s1 l0 rfl (by decide)) r_x1 (d_s1 l1 rfl (by decide)) r_x2 (d_s1 l2 rfl (by decide)) r_x3 (d_s1 l3 rfl (by decide)) r_x4 (d_s1 l4 rfl (by decide)) d_R_w p_lk_s1
          · refine dw_zne_n rfl (u := 114) rfl hH.r q ?_
            refine dw_aln rfl l0 (dw_gr rfl rfl rfl hH d_c64_27 (dw_il rfl l4 (d_gd hF (fun g11 hF => dw_ald rfl hH d_a76 rfl g11.1 g11.2 r_x4 rfl (dw_aln rfl l0 (dw_gr rfl rfl rfl hH d_c64_0 (dw_sp rfl rfl (dw_ic rfl (dw_il rfl l5 (?_))))))))))
            refine dw_mul rfl (dw_add rfl (dw_ic rfl (dw_add rfl (dw_w1 (d_gd hF (fun g12 hF => dw_ald rfl hH d_a65 rfl g12.1 g12.2 d_R_w rfl (dw_add rfl (dw_w1 (dw_nm hF d_R_w (fun z13 r_z13 hF => ?_))))))))))
            refine dw_is rfl rfl (dw_il rfl (d_s1 l4 rfl (by decide)) (dw_ic rfl (dw_il rfl (d_s1 l5 rfl (by decide)) (dw_shl rfl (dw_or rfl (dw_is rfl rfl (dw_il rfl (d_s1 p_lk_s1 rfl (by decide)) (dw_aln rfl (d_s1 (d_s1 l0 rfl (by decide)) rfl (by decide)) (dw_gr rfl rfl rfl hH d_c64_27 (?_))))))))))
            refine dw_il rfl p_lk_s1 (d_gd hF (fun g14 hF => dw_ald rfl hH d_a76 rfl g14.1 g14.2 d_R_t rfl (?_)))
            refine d_if hF (fun q hF => ?_) (fun q hF => ?_)
            · refine dw_le_y rfl (u := 169) rfl r_z13 hH.r q ?_
              refine dw_aln rfl (d_s1 (d_s1 l0 rfl (by decide)) rfl (by decide)) (dw_gr rfl rfl rfl hH d_c64_27 (dw_il rfl p_lk_s1 (dw_il rfl (d_s1 p_lk_s1 rfl (by decide)) (d_gd hF (fun g15 hF => dw_ast rfl hH d_a76 g15.1 g15.2 d_R_t rfl r_z13 hF (fun s16 h16 hH16 hF => ?_))))))
              exact D_X12_mostOf_j169 hF hH16 (d_s1 (d_s1 l0 rfl (by decide)) rfl (by decide)) r_x1 (d_s1 (d_s1 l1 rfl (by decide)) rfl (by decide)) r_x2 (d_s1 (d_s1 l2 rfl (by decide)) rfl (by decide)) r_x3 (d_s1 (d_s1 l3 rfl (by decide)) rfl (by decide)) r_x4 (d_s1 (d_s1 l4 rfl (by decide)) rfl (by decide)) r_x5 (d_s1 (d_s1 l5 rfl (by decide)) rfl (by decide)) r_z13 (d_s1 p_lk_s1 rfl (by decide)) (fun {x1} {x2} {x3} {x4} {x5} {ls} {s} {h} hF hH l0 r_x1 l1 r_x2 l2 r_x3 l3 r_x4 l4 r_x5 l5 => ih hF hH l0 r_x1 l1 r_x2 l2 r_x3 l3 r_x4 l4 r_x5 l5)
            · refine dw_le_n rfl (u := 169) rfl r_z13 hH.r q ?_
              exact D_X12_mostOf_j169 hF hH (d_s1 (d_s1 l0 rfl (by decide)) rfl (by decide)) r_x1 (d_s1 (d_s1 l1 rfl (by decide)) rfl (by decide)) r_x2 (d_s1 (d_s1 l2 rfl (by decide)) rfl (by decide)) r_x3 (d_s1 (d_s1 l3 rfl (by decide)) rfl (by decide)) r_x4 (d_s1 (d_s1 l4 rfl (by decide)) rfl (by decide)) r_x5 (d_s1 (d_s1 l5 rfl (by decide)) rfl (by decide)) r_z13 (d_s1 p_lk_s1 rfl (by decide)) (fun {x1} {x2} {x3} {x4} {x5} {ls} {s} {h} hF hH l0 r_x1 l1 r_x2 l2 r_x3 l3 r_x4 l4 r_x5 l5 => ih hF hH l0 r_x1 l1 r_x2 l2 r_x3 l3 r_x4 l4 r_x5 l5)
        · refine dw_zne_n rfl (u := 178) rfl (d_R_b r_v9) q ?_
          refine dw_ii rfl l5 rfl (dw_go rfl (u := 65) rfl (?_))
          exact ih hF hH (d_s1 l0 rfl (by decide)) r_x1 (d_s1 l1 rfl (by decide)) r_x2 (d_s1 l2 rfl (by decide)) r_x3 (d_s1 l3 rfl (by decide)) r_x4 (d_s1 l4 rfl (by decide)) d_R_w p_lk_s1
    · refine dw_ge_n rfl (u := 184) rfl r_x5 hH.r q ?_
      exact hk184 hF hH l0 r_x1 l1 r_x2 l2 r_x3 l3 r_x4 l4
set_option maxRecDepth 100000 in
noncomputable def F_X12_mostOf_l57_b (k190 : Int → Int → Int → d_S → Option (Int × d_S)) (rec : Int → Int → Int → Int → d_S → Option (Int × d_S)) (x1 : Int) (x2 : Int) (x3 : Int) (x4 : Int) (s : d_S) : Option (Int × d_S) :=
  if x4 < 0 then
  k190 x1 x2 x3 s
  else
  F_X12_mostOf_l65 (fun x1_u17 x2_u17 x3_u17 x4_u17 s_u17 =>
  rec x1_u17 x2_u17 x3_u17 (d_w (x4_u17 + (-1))) s_u17) d_N x1 x2 x3 x4 x1 s
set_option maxRecDepth 100000 in
noncomputable def F_X12_mostOf_l57 (k190 : Int → Int → Int → d_S → Option (Int × d_S)) : Nat → Int → Int → Int → Int → d_S → Option (Int × d_S)
  | 0 => fun _ _ _ _ _ => none
  | n + 1 => F_X12_mostOf_l57_b k190 (F_X12_mostOf_l57 k190 n)
set_option maxRecDepth 100000 in
theorem D_X12_mostOf_l57 {t : Nat → Option p_C} {k190 : Int → Int → Int → d_S → Option (Int × d_S)} {r : Int × d_S} (hk190 : ∀ {x1 : Int} {x2 : Int} {x3 : Int} {ls : p_Ls} {s : d_S} {h : p_H}, k190 x1 x2 x3 s = some r → d_V t h s → p_lk 0 ls = some (.ref 64) → d_R x1 → p_lk 1 ls = some (.int (Int32.ofInt x1)) → d_R x2 → p_lk 2 ls = some (.int (Int32.ofInt x2)) → d_R x3 → p_lk 3 ls = some (.int (Int32.ofInt x3)) → p_wp p_GT p_MT 3 m_X12_mostOf 190 ls [] h (d_QI t r)) : ∀ (n : Nat) {x1 : Int} {x2 : Int} {x3 : Int} {x4 : Int} {ls : p_Ls} {s : d_S} {h : p_H}, F_X12_mostOf_l57 k190 n x1 x2 x3 x4 s = some r → d_V t h s → p_lk 0 ls = some (.ref 64) → d_R x1 → p_lk 1 ls = some (.int (Int32.ofInt x1)) → d_R x2 → p_lk 2 ls = some (.int (Int32.ofInt x2)) → d_R x3 → p_lk 3 ls = some (.int (Int32.ofInt x3)) → d_R x4 → p_lk 4 ls = some (.int (Int32.ofInt x4)) → p_wp p_GT p_MT 3 m_X12_mostOf 57 ls [] h (d_QI t r) := by
  intro n
  induction n with
  | zero =>
    intro x1 x2 x3 x4 ls s h hF hH l0 r_x1 l1 r_x2 l2 r_x3 l3 r_x4 l4
    cases (show (none : Option (Int × d_S)) = some r from hF)
  | succ n ih =>
    intro x1 x2 x3 x4 ls s h hF hH l0 r_x1 l1 r_x2 l2 r_x3 l3 r_x4 l4
    have hF : F_X12_mostOf_l57_b k190 (F_X12_mostOf_l57 k190 n) x1 x2 x3 x4 s = some r := hF
    unfold F_X12_mostOf_l57_b at hF
    refine dw_il rfl l4 (?_)
    refine d_if hF (fun q hF => ?_) (fun q hF => ?_)
    · refine dw_zlt_y rfl (u := 190) rfl r_x4 q ?_
      exact hk190 hF hH l0 r_x1 l1 r_x2 l2 r_x3 l3
    · refine dw_zlt_n rfl (u := 190) rfl r_x4 q ?_
      refine dw_iln rfl l1 (dw_is rfl rfl (?_))
      refine D_X12_mostOf_l65 (fun {x1_u17} {x2_u17} {x3_u17} {x4_u17} {ls_u17} {s_u17} {h_u17} hF hH_u17 l0_u17 r_x1_u17 l1_u17 r_x2_u17 l2_u17 r_x3_u17 l3_u17 r_x4_u17 l4_u17 => ?_) _ hF hH (d_s1 l0 rfl (by decide)) r_x1 (d_s1 l1 rfl (by decide)) r_x2 (d_s1 l2 rfl (by decide)) r_x3 (d_s1 l3 rfl (by decide)) r_x4 (d_s1 l4 rfl (by decide)) r_x1 p_lk_s1
      · refine dw_ii rfl l4_u17 rfl (dw_go rfl (u := 57) rfl (?_))
        exact ih hF hH_u17 (d_s1 l0_u17 rfl (by decide)) r_x1_u17 (d_s1 l1_u17 rfl (by decide)) r_x2_u17 (d_s1 l2_u17 rfl (by decide)) r_x3_u17 (d_s1 l3_u17 rfl (by decide)) d_R_w p_lk_s1
set_option maxRecDepth 100000 in
noncomputable def F_X12_mostOf_l33_b (rec : Int → Int → Int → d_S → Option (Int × d_S)) (x1 : Int) (x2 : Int) (x3 : Int) (s : d_S) : Option (Int × d_S) :=
  d_b (F_X12_blocks s) (fun v6 => if x3 < v6 then
  d_g (0 ≤ x3 ∧ x3 < 64) (if (s.1 74 (x3.toNat)) = 0 then
  F_X12_mostOf_l57 (fun x1_u18 x2_u18 x3_u18 s_u18 =>
  rec x1_u18 x2_u18 (d_w (x3_u18 + 1)) s_u18) d_N x1 x2 x3 31 s
  else
  rec x1 x2 (d_w (x3 + 1)) s)
  else
  some (x2, s))
set_option maxRecDepth 100000 in
noncomputable def F_X12_mostOf_l33 : Nat → Int → Int → Int → d_S → Option (Int × d_S)
  | 0 => fun _ _ _ _ => none
  | n + 1 => F_X12_mostOf_l33_b (F_X12_mostOf_l33 n)
set_option maxRecDepth 100000 in
theorem D_X12_mostOf_l33 {t : Nat → Option p_C} {r : Int × d_S} : ∀ (n : Nat) {x1 : Int} {x2 : Int} {x3 : Int} {ls : p_Ls} {s : d_S} {h : p_H}, F_X12_mostOf_l33 n x1 x2 x3 s = some r → d_V t h s → p_lk 0 ls = some (.ref 64) → d_R x1 → p_lk 1 ls = some (.int (Int32.ofInt x1)) → d_R x2 → p_lk 2 ls = some (.int (Int32.ofInt x2)) → d_R x3 → p_lk 3 ls = some (.int (Int32.ofInt x3)) → p_wp p_GT p_MT 3 m_X12_mostOf 33 ls [] h (d_QI t r) := by
  intro n
  induction n with
  | zero =>
    intro x1 x2 x3 ls s h hF hH l0 r_x1 l1 r_x2 l2 r_x3 l3
    cases (show (none : Option (Int × d_S)) = some r from hF)
  | succ n ih =>
    intro x1 x2 x3 ls s h hF hH l0 r_x1 l1 r_x2 l2 r_x3 l3
    have hF : F_X12_mostOf_l33_b (F_X12_mostOf_l33 n) x1 x2 x3 s = some r := hF
    unfold F_X12_mostOf_l33_b at hF
    refine dw_iln rfl l3 (dw_aln rfl l0 (dw_vP hF rfl (d_vir (n := 1) rfl rfl rfl rfl rfl hH d_c64_0 rfl) rfl rfl rfl (dc := 2) (fun _ e => D_X12_blocks e hH) (fun v6 r_v6 hF => ?_)))
    refine d_if hF (fun q hF => ?_) (fun q hF => ?_)
    · refine dw_ge_y rfl (u := 196) rfl r_x3 r_v6 q ?_
      refine dw_aln rfl l0 (dw_gr rfl rfl rfl hH d_c64_25 (dw_iln rfl l3 (d_gd hF (fun g7 hF => dw_bld rfl hH d_a74 g7.1 g7.2 r_x3 rfl (?_)))))
      refine d_if hF (fun q hF => ?_) (fun q hF => ?_)
      · refine dw_zeq_y rfl (u := 53) rfl hH.r q ?_
        refine dw_bp rfl rfl (dw_is rfl rfl (?_))
        refine D_X12_mostOf_l57 (fun {x1_u18} {x2_u18} {x3_u18} {ls_u18} {s_u18} {h_u18} hF hH_u18 l0_u18 r_x1_u18 l1_u18 r_x2_u18 l2_u18 r_x3_u18 l3_u18 => ?_) _ hF hH (d_s1 l0 rfl (by decide)) r_x1 (d_s1 l1 rfl (by decide)) r_x2 (d_s1 l2 rfl (by decide)) r_x3 (d_s1 l3 rfl (by decide)) (d_rl rfl) p_lk_s1
        · refine dw_ii rfl l3_u18 rfl (dw_go rfl (u := 33) rfl (?_))
          exact ih hF hH_u18 (d_s1 l0_u18 rfl (by decide)) r_x1_u18 (d_s1 l1_u18 rfl (by decide)) r_x2_u18 (d_s1 l2_u18 rfl (by decide)) d_R_w p_lk_s1
      · refine dw_zeq_n rfl (u := 53) rfl hH.r q ?_
        refine dw_go rfl (u := 190) rfl (dw_ii rfl l3 rfl (dw_go rfl (u := 33) rfl (?_)))
        exact ih hF hH (d_s1 l0 rfl (by decide)) r_x1 (d_s1 l1 rfl (by decide)) r_x2 (d_s1 l2 rfl (by decide)) d_R_w p_lk_s1
    · refine dw_ge_n rfl (u := 196) rfl r_x3 r_v6 q ?_
      exact dw_iln rfl l2 (dw_rI rfl rfl r_x2 hH hF)
set_option maxRecDepth 100000 in
noncomputable def F_X12_mostOf (s : d_S) (x1 : Int) : Option (Int × d_S) :=
  F_X12_mostOf_l2 (fun x1_u5 s_u5 =>
  F_X12_mostOf_l33 d_N x1_u5 0 0 s_u5) d_N x1 0 s
set_option maxRecDepth 100000 in
theorem D_X12_mostOf {t : Nat → Option p_C} {h : p_H} {s : d_S} {x1 : Int} {r : Int × d_S} (hF : F_X12_mostOf s x1 = some r) (hH : d_V t h s) (r_x1 : d_R x1) : p_wp p_GT p_MT 3 m_X12_mostOf 0 (lv_args 0 [.ref 64, .int (Int32.ofInt x1)]) [] h (d_QI t r) := by
  unfold F_X12_mostOf at hF
  refine dw_ic rfl (dw_isn rfl rfl (?_))
  refine D_X12_mostOf_l2 (fun {x1_u5} {ls_u5} {s_u5} {h_u5} hF hH_u5 l0_u5 r_x1_u5 l1_u5 => ?_) _ hF hH (d_s1 rfl rfl (by decide)) r_x1 (d_s1 rfl rfl (by decide)) (d_rl rfl) p_lk_s1
  · refine dw_ic rfl (dw_isn rfl rfl (dw_ic rfl (dw_isn rfl rfl (?_))))
    exact D_X12_mostOf_l33 _ hF hH_u5 (d_s1 (d_s1 l0_u5 rfl (by decide)) rfl (by decide)) r_x1_u5 (d_s1 (d_s1 l1_u5 rfl (by decide)) rfl (by decide)) (d_rl rfl) (d_s1 p_lk_s1 rfl (by decide)) (d_rl rfl) p_lk_s1
set_option maxRecDepth 100000 in
noncomputable def F_X12_serverOf_l2_b (rec : Int → Int → Int → d_S → Option (Int × d_S)) (x1 : Int) (x2 : Int) (x3 : Int) (s : d_S) : Option (Int × d_S) :=
  d_b (F_X12_blocks s) (fun v1 => if x3 < v1 then
  d_g (0 ≤ x3 ∧ x3 < 64) (if (s.1 74 (x3.toNat)) = 0 then
  d_g (0 ≤ (d_w ((64 * x1) + x3)) ∧ (d_w ((64 * x1) + x3)) < 320) (if (s.1 75 (((d_w ((64 * x1) + x3))).toNat)) = 0 then
  rec x1 x2 (d_w (x3 + 1)) s
  else
  d_g (0 ≤ x3 ∧ x3 < 64) (d_l (d_si s 74 ((x3).toNat) 1) (fun s5 => d_g (0 ≤ (d_w ((284 + (3 * x1)) + 2)) ∧ (d_w ((284 + (3 * x1)) + 2)) < 2517) (d_b2 (F_X12_mostOf s5 (d_w (x1 + 1))) (fun v7 s8 => if (d_w ((s5.1 65 (((d_w ((284 + (3 * x1)) + 2))).toNat)) + v7)) = x2 then
  some (x3, s8)
  else
  d_g (0 ≤ x3 ∧ x3 < 64) (d_l (d_si s8 74 ((x3).toNat) 0) (fun s10 => rec x1 x2 (d_w (x3 + 1)) s10)))))))
  else
  rec x1 x2 (d_w (x3 + 1)) s)
  else
  some ((-1), s))
set_option maxRecDepth 100000 in
noncomputable def F_X12_serverOf_l2 : Nat → Int → Int → Int → d_S → Option (Int × d_S)
  | 0 => fun _ _ _ _ => none
  | n + 1 => F_X12_serverOf_l2_b (F_X12_serverOf_l2 n)
set_option maxRecDepth 100000 in
theorem D_X12_serverOf_l2 {t : Nat → Option p_C} {r : Int × d_S} : ∀ (n : Nat) {x1 : Int} {x2 : Int} {x3 : Int} {ls : p_Ls} {s : d_S} {h : p_H}, F_X12_serverOf_l2 n x1 x2 x3 s = some r → d_V t h s → p_lk 0 ls = some (.ref 64) → d_R x1 → p_lk 1 ls = some (.int (Int32.ofInt x1)) → d_R x2 → p_lk 2 ls = some (.int (Int32.ofInt x2)) → d_R x3 → p_lk 3 ls = some (.int (Int32.ofInt x3)) → p_wp p_GT p_MT 4 m_X12_serverOf 2 ls [] h (d_QI t r) := by
  intro n
  induction n with
  | zero =>
    intro x1 x2 x3 ls s h hF hH l0 r_x1 l1 r_x2 l2 r_x3 l3
    cases (show (none : Option (Int × d_S)) = some r from hF)
  | succ n ih =>
    intro x1 x2 x3 ls s h hF hH l0 r_x1 l1 r_x2 l2 r_x3 l3
    have hF : F_X12_serverOf_l2_b (F_X12_serverOf_l2 n) x1 x2 x3 s = some r := hF
    unfold F_X12_serverOf_l2_b at hF
    refine dw_iln rfl l3 (dw_aln rfl l0 (dw_vP hF rfl (d_vir (n := 1) rfl rfl rfl rfl rfl hH d_c64_0 rfl) rfl rfl rfl (dc := 2) (fun _ e => D_X12_blocks e hH) (fun v1 r_v1 hF => ?_)))
    refine d_if hF (fun q hF => ?_) (fun q hF => ?_)
    · refine dw_ge_y rfl (u := 84) rfl r_x3 r_v1 q ?_
      refine dw_aln rfl l0 (dw_gr rfl rfl rfl hH d_c64_25 (dw_iln rfl l3 (d_gd hF (fun g2 hF => dw_bld rfl hH d_a74 g2.1 g2.2 r_x3 rfl (?_)))))
      refine d_if hF (fun q hF => ?_) (fun q hF => ?_)
      · refine dw_zne_y rfl (u := 78) rfl hH.r q ?_
        refine dw_aln rfl l0 (dw_gr rfl rfl rfl hH d_c64_26 (dw_bp rfl rfl (dw_iln rfl l1 (dw_mul rfl (dw_iln rfl l3 (dw_add rfl (dw_w1 (d_gd hF (fun g3 hF => dw_bld rfl hH d_a75 g3.1 g3.2 d_R_w rfl (?_))))))))))
        refine d_if hF (fun q hF => ?_) (fun q hF => ?_)
        · refine dw_zne_y rfl (u := 36) rfl hH.r q ?_
          refine dw_go rfl (u := 78) rfl (dw_ii rfl l3 rfl (dw_go rfl (u := 2) rfl (?_)))
          exact ih hF hH (d_s1 l0 rfl (by decide)) r_x1 (d_s1 l1 rfl (by decide)) r_x2 (d_s1 l2 rfl (by decide)) d_R_w p_lk_s1
        · refine dw_zne_n rfl (u := 36) rfl hH.r q ?_
          refine dw_aln rfl l0 (dw_gr rfl rfl rfl hH d_c64_25 (dw_iln rfl l3 (dw_ic rfl (d_gd hF (fun g4 hF => dw_bst rfl hH d_a74 g4.1 g4.2 r_x3 rfl (Or.inr rfl) hF (fun s5 h5 hH5 hF => dw_aln rfl l0 (dw_gr rfl rfl rfl hH5 d_c64_0 (dw_sp rfl rfl (dw_ic rfl (?_))))))))))
          refine dw_iln rfl l1 (dw_mul rfl (dw_add rfl (dw_ic rfl (dw_add rfl (dw_w1 (d_gd hF (fun g6 hF => dw_ald rfl hH5 d_a65 rfl g6.1 g6.2 d_R_w rfl (dw_aln rfl l0 (dw_iln rfl l1 (?_))))))))))
          refine dw_ic rfl (dw_add rfl (dw_w1 (dw_vI hF rfl (d_vir (n := 2) rfl rfl rfl rfl rfl hH5 d_c64_0 rfl) rfl rfl rfl (dc := 3) (fun _ _ e => D_X12_mostOf e hH5 d_R_w) (fun v7 s8 h8 hH8 r_v7 hF => dw_add rfl (dw_iln rfl l2 (dw_w2 (?_)))))))
          refine d_if hF (fun q hF => ?_) (fun q hF => ?_)
          · refine dw_ne_y rfl (u := 71) rfl d_R_w r_x2 q ?_
            exact dw_iln rfl l3 (dw_rI rfl rfl r_x3 hH8 hF)
          · refine dw_ne_n rfl (u := 71) rfl d_R_w r_x2 q ?_
            refine dw_aln rfl l0 (dw_gr rfl rfl rfl hH8 d_c64_25 (dw_iln rfl l3 (dw_ic rfl (d_gd hF (fun g9 hF => dw_bst rfl hH8 d_a74 g9.1 g9.2 r_x3 rfl (Or.inl rfl) hF (fun s10 h10 hH10 hF => dw_ii rfl l3 rfl (dw_go rfl (u := 2) rfl (?_))))))))
            exact ih hF hH10 (d_s1 l0 rfl (by decide)) r_x1 (d_s1 l1 rfl (by decide)) r_x2 (d_s1 l2 rfl (by decide)) d_R_w p_lk_s1
      · refine dw_zne_n rfl (u := 78) rfl hH.r q ?_
        refine dw_ii rfl l3 rfl (dw_go rfl (u := 2) rfl (?_))
        exact ih hF hH (d_s1 l0 rfl (by decide)) r_x1 (d_s1 l1 rfl (by decide)) r_x2 (d_s1 l2 rfl (by decide)) d_R_w p_lk_s1
    · refine dw_ge_n rfl (u := 84) rfl r_x3 r_v1 q ?_
      exact dw_ic rfl (dw_rI rfl rfl (d_rl rfl) hH hF)
set_option maxRecDepth 100000 in
noncomputable def F_X12_serverOf (s : d_S) (x1 : Int) (x2 : Int) : Option (Int × d_S) :=
  F_X12_serverOf_l2 d_N x1 x2 0 s
set_option maxRecDepth 100000 in
theorem D_X12_serverOf {t : Nat → Option p_C} {h : p_H} {s : d_S} {x1 : Int} {x2 : Int} {r : Int × d_S} (hF : F_X12_serverOf s x1 x2 = some r) (hH : d_V t h s) (r_x1 : d_R x1) (r_x2 : d_R x2) : p_wp p_GT p_MT 4 m_X12_serverOf 0 (lv_args 0 [.ref 64, .int (Int32.ofInt x1), .int (Int32.ofInt x2)]) [] h (d_QI t r) := by
  unfold F_X12_serverOf at hF
  refine dw_ic rfl (dw_isn rfl rfl (?_))
  exact D_X12_serverOf_l2 _ hF hH (d_s1 rfl rfl (by decide)) r_x1 (d_s1 rfl rfl (by decide)) r_x2 (d_s1 rfl rfl (by decide)) (d_rl rfl) p_lk_s1
set_option maxRecDepth 100000 in
noncomputable def F_X12_end (s : d_S) (x1 : Int) : Option (Int × d_S) :=
  d_b (F_X12_isIn x1 0 (s.1 64 4)) (fun v1 => if v1 = 0 then
  some ((-1), s)
  else
  d_l (d_si s 64 4 x1) (fun s2 => some (x1, s2)))
set_option maxRecDepth 100000 in
theorem D_X12_end {t : Nat → Option p_C} {h : p_H} {s : d_S} {x1 : Int} {r : Int × d_S} (hF : F_X12_end s x1 = some r) (hH : d_V t h s) (r_x1 : d_R x1) : p_wp p_GT p_MT 1 m_X12_end 0 (lv_args 0 [.ref 64, .int (Int32.ofInt x1)]) [] h (d_QI t r) := by
  unfold F_X12_end at hF
  refine dw_iln rfl rfl (dw_ic rfl (dw_aln rfl rfl (dw_gi (k := 4) rfl rfl rfl hH d_c64_4 (dw_sB hF rfl rfl rfl rfl rfl (dc := 0) (fun _ e => D_X12_isIn e r_x1 (d_rl rfl) hH.r) (fun v1 r_v1 hF => ?_)))))
  refine d_if hF (fun q hF => ?_) (fun q hF => ?_)
  · refine dw_zne_y rfl (u := 14) rfl (d_R_b r_v1) q ?_
    exact dw_ic rfl (dw_rI rfl rfl (d_rl rfl) hH hF)
  · refine dw_zne_n rfl (u := 14) rfl (d_R_b r_v1) q ?_
    exact dw_aln rfl rfl (dw_iln rfl rfl (dw_pi (k := 4) rfl rfl rfl rfl hH d_c64_4 r_x1 (by decide) hF (fun s2 h2 hH2 hF => dw_iln rfl rfl (dw_rI rfl rfl r_x1 hH2 hF))))
set_option maxRecDepth 100000 in
noncomputable def F_X12_fault (s : d_S) (x1 : Int) : Option (Int) :=
  if x1 = 0 then
  some (s.1 64 5)
  else
  if x1 = 1 then
  some (s.1 64 6)
  else
  some (-1)
set_option maxRecDepth 100000 in
theorem D_X12_fault {t : Nat → Option p_C} {h : p_H} {s : d_S} {x1 : Int} {r : Int} (hF : F_X12_fault s x1 = some r) (hH : d_V t h s) (r_x1 : d_R x1) : p_wp p_GT p_MT 0 m_X12_fault 0 (lv_args 0 [.ref 64, .int (Int32.ofInt x1)]) [] h (d_QP h r) := by
  unfold F_X12_fault at hF
  refine dw_iln rfl rfl (?_)
  refine d_if hF (fun q hF => ?_) (fun q hF => ?_)
  · refine dw_zne_y rfl (u := 11) rfl r_x1 q ?_
    exact dw_aln rfl rfl (dw_gi (k := 5) rfl rfl rfl hH d_c64_5 (dw_go rfl (u := 24) rfl (dw_rP rfl rfl hH.r hF)))
  · refine dw_zne_n rfl (u := 11) rfl r_x1 q ?_
    refine dw_iln rfl rfl (dw_ic rfl (?_))
    refine d_if hF (fun q hF => ?_) (fun q hF => ?_)
    · refine dw_ne_y rfl (u := 23) rfl r_x1 (d_rl rfl) q ?_
      exact dw_aln rfl rfl (dw_gi (k := 6) rfl rfl rfl hH d_c64_6 (dw_go rfl (u := 24) rfl (dw_rP rfl rfl hH.r hF)))
    · refine dw_ne_n rfl (u := 23) rfl r_x1 (d_rl rfl) q ?_
      exact dw_ic rfl (dw_rP rfl rfl (d_rl rfl) hF)
set_option maxRecDepth 100000 in
noncomputable def F_X12_cut (x0 : Int) (x2 : Int) : Option (Int) :=
  if x0 < 0 then
  some 0
  else
  if x2 < x0 then
  some x2
  else
  some (d_w x0)
set_option maxRecDepth 100000 in
theorem D_X12_cut {h : p_H} {x0 : Int} {x2 : Int} {r : Int} (hF : F_X12_cut x0 x2 = some r) (r_x0 : d_RL x0) (r_x2 : d_R x2) : p_wp p_GT p_MT 0 m_X12_cut 0 (lv_args 0 [.long (Int64.ofInt x0), .int (Int32.ofInt x2)]) [] h (d_QP h r) := by
  unfold F_X12_cut at hF
  refine dw_lln rfl rfl (dw_lc rfl (x := 0) rfl (?_))
  refine d_if hF (fun q hF => ?_) (fun q hF => ?_)
  · refine dw_Lge_y rfl rfl (u := 10) rfl r_x0 (d_rll rfl) q ?_
    exact dw_ic rfl (dw_go rfl (u := 23) rfl (dw_rP rfl rfl (d_rl rfl) hF))
  · refine dw_Lge_n rfl rfl (u := 10) rfl r_x0 (d_rll rfl) q ?_
    refine dw_lln rfl rfl (dw_iln rfl rfl (dw_i2l rfl r_x2 (?_)))
    refine d_if hF (fun q hF => ?_) (fun q hF => ?_)
    · refine dw_Lle_y rfl rfl (u := 21) rfl r_x0 (d_RL_R r_x2) q ?_
      exact dw_iln rfl rfl (dw_go rfl (u := 23) rfl (dw_rP rfl rfl r_x2 hF))
    · refine dw_Lle_n rfl rfl (u := 21) rfl r_x0 (d_RL_R r_x2) q ?_
      exact dw_lln rfl rfl (dw_l2i rfl (dw_w1 (dw_rP rfl rfl d_R_w hF)))
set_option maxRecDepth 100000 in
noncomputable def F_X12_held (x0 : Int) : Option (Int) :=
  if 1000000 < x0 then
  some 1000000
  else
  if x0 < (-1000000) then
  some (-1000000)
  else
  some x0
set_option maxRecDepth 100000 in
theorem D_X12_held {h : p_H} {x0 : Int} {r : Int} (hF : F_X12_held x0 = some r) (r_x0 : d_RL x0) : p_wp p_GT p_MT 0 m_X12_held 0 (lv_args 0 [.long (Int64.ofInt x0)]) [] h (d_QL h r) := by
  unfold F_X12_held at hF
  refine dw_lln rfl rfl (dw_ldc2 rfl rfl (?_))
  refine d_if hF (fun q hF => ?_) (fun q hF => ?_)
  · refine dw_Lle_y rfl rfl (u := 14) rfl r_x0 (d_rll rfl) q ?_
    exact dw_ldc2 rfl rfl (dw_go rfl (u := 29) rfl (dw_rL rfl rfl (d_rll rfl) hF))
  · refine dw_Lle_n rfl rfl (u := 14) rfl r_x0 (d_rll rfl) q ?_
    refine dw_lln rfl rfl (dw_ldc2 rfl rfl (?_))
    refine d_if hF (fun q hF => ?_) (fun q hF => ?_)
    · refine dw_Lge_y rfl rfl (u := 28) rfl r_x0 (d_rll rfl) q ?_
      exact dw_ldc2 rfl rfl (dw_go rfl (u := 29) rfl (dw_rL rfl rfl (d_rll rfl) hF))
    · refine dw_Lge_n rfl rfl (u := 28) rfl r_x0 (d_rll rfl) q ?_
      exact dw_lln rfl rfl (dw_rL rfl rfl r_x0 hF)
set_option maxRecDepth 100000 in
noncomputable def F_X12_two (x0 : Int) (x1 : Int) (x3 : Int) : Option (Int) :=
  
  if x0 = 4 then
  d_b (F_X12_held (d_W (x1 + x3))) (fun v1 => some v1)
  else
  if x0 = 5 then
  d_b (F_X12_held (d_W (x1 - x3))) (fun v2 => some v2)
  else
  if x0 = 6 then
  d_b (F_X12_held (d_W (x1 * x3))) (fun v3 => some v3)
  else
  if x3 = 0 then
  some 0
  else
  d_g (¬ x3 = 0) (some (d_divL x1 x3))
set_option maxRecDepth 100000 in
theorem D_X12_two {h : p_H} {x0 : Int} {x1 : Int} {x3 : Int} {r : Int} (hF : F_X12_two x0 x1 x3 = some r) (r_x0 : d_R x0) (r_x1 : d_RL x1) (r_x3 : d_RL x3) : p_wp p_GT p_MT 1 m_X12_two 0 (lv_args 0 [.int (Int32.ofInt x0), .long (Int64.ofInt x1), .long (Int64.ofInt x3)]) [] h (d_QL h r) := by
  unfold F_X12_two at hF
  refine dw_iln rfl rfl (?_)
  refine d_if hF (fun q hF => ?_) (fun q0 hF => ?_)
  · refine dw_ts rfl r_x0 (u := 28) (by rw [q]; rfl) ?_
    exact dw_lln rfl rfl (dw_lln rfl rfl (dw_addL rfl (dw_wL1 (dw_sL hF rfl rfl rfl rfl rfl (dc := 0) (fun _ e => D_X12_held e d_RL_W) (fun v1 r_v1 hF => dw_rL rfl rfl r_v1 hF)))))
  refine d_if hF (fun q hF => ?_) (fun q1 hF => ?_)
  · refine dw_ts rfl r_x0 (u := 35) (by rw [q]; rfl) ?_
    exact dw_lln rfl rfl (dw_lln rfl rfl (dw_subL rfl (dw_wL1 (dw_sL hF rfl rfl rfl rfl rfl (dc := 0) (fun _ e => D_X12_held e d_RL_W) (fun v2 r_v2 hF => dw_rL rfl rfl r_v2 hF)))))
  refine d_if hF (fun q hF => ?_) (fun q2 hF => ?_)
  · refine dw_ts rfl r_x0 (u := 42) (by rw [q]; rfl) ?_
    exact dw_lln rfl rfl (dw_lln rfl rfl (dw_mulL rfl (dw_wL1 (dw_sL hF rfl rfl rfl rfl rfl (dc := 0) (fun _ e => D_X12_held e d_RL_W) (fun v3 r_v3 hF => dw_rL rfl rfl r_v3 hF)))))
  refine dw_ts rfl r_x0 (u := 49) (by rw [if_pos (by omega)]; rfl) ?_
  refine dw_lln rfl rfl (dw_lc rfl (x := 0) rfl (?_))
  refine d_if hF (fun q hF => ?_) (fun q hF => ?_)
  · refine dw_Lne_y rfl rfl (u := 59) rfl r_x3 (d_rll rfl) q ?_
    exact dw_lc rfl (x := 0) rfl (dw_go rfl (u := 62) rfl (dw_rL rfl rfl (d_rll rfl) hF))
  · refine dw_Lne_n rfl rfl (u := 59) rfl r_x3 (d_rll rfl) q ?_
    exact dw_lln rfl rfl (dw_lln rfl rfl (d_gd hF (fun g4 hF => dw_divL rfl r_x3 g4 (dw_rL rfl rfl d_RL_t hF))))

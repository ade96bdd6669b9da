set_option maxRecDepth 100000 in
noncomputable def F_X12_sellers_l4_b (k49 : Int → Int → d_S → Option (Int × d_S)) (rec : Int → Int → Int → d_S → Option (Int × d_S)) (x1 : Int) (x2 : Int) (x3 : Int) (s : d_S) : Option (Int × d_S) :=
  d_b (F_X12_blocks s) (fun v1 => if x3 < v1 then
  if x2 < 16 then
  d_b (F_X12_isSold s x3) (fun v2 => if v2 = 0 then
  d_b2 (F_X12_sellsOf s x3) (fun v3 s4 => d_g (0 ≤ x2 ∧ x2 < 16) (d_l (d_si s4 78 ((x2).toNat) v3) (fun s6 => rec x1 (d_w (x2 + 1)) (d_w (x3 + 1)) s6)))
  else
  rec x1 x2 (d_w (x3 + 1)) s)
  else
  k49 x1 x2 s
  else
  k49 x1 x2 s)
set_option maxRecDepth 100000 in
noncomputable def F_X12_sellers_l4 (k49 : Int → Int → d_S → Option (Int × d_S)) : Nat → Int → Int → Int → d_S → Option (Int × d_S)
  | 0 => fun _ _ _ _ => none
  | n + 1 => F_X12_sellers_l4_b k49 (F_X12_sellers_l4 k49 n)
set_option maxRecDepth 100000 in
theorem D_X12_sellers_l4 {t : Nat → Option p_C} {k49 : Int → Int → d_S → Option (Int × d_S)} {r : Int × d_S} (hk49 : ∀ {x1 : Int} {x2 : Int} {ls : p_Ls} {s : d_S} {h : p_H}, k49 x1 x2 s = some r → d_V t h s → p_lk 0 ls = some (.ref 64) → d_R x1 → p_lk 1 ls = some (.int (Int32.ofInt x1)) → d_R x2 → p_lk 2 ls = some (.int (Int32.ofInt x2)) → p_wp p_GT p_MT 7 m_X12_sellers 49 ls [] h (d_QI t r)) : ∀ (n : Nat) {x1 : Int} {x2 : Int} {x3 : Int} {ls : p_Ls} {s : d_S} {h : p_H}, F_X12_sellers_l4 k49 n x1 x2 x3 s = some r → d_V t h s → p_lk 0 ls = some (.ref 64) → d_R x1 → p_lk 1 ls = some (.int (Int32.ofInt x1)) → d_R x2 → p_lk 2 ls = some (.int (Int32.ofInt x2)) → d_R x3 → p_lk 3 ls = some (.int (Int32.ofInt x3)) → p_wp p_GT p_MT 7 m_X12_sellers 4 ls [] h (d_QI t r) := by
  intro n
  induction n with
  | zero =>
    intro x1 x2 x3 ls s h hF hH l0 r_x1 l1 r_x2 l2 r_x3 l3
    cases (show (none : Option (Int × d_S)) = some r from hF)
  | succ n ih =>
    intro x1 x2 x3 ls s h hF hH l0 r_x1 l1 r_x2 l2 r_x3 l3
    have hF : F_X12_sellers_l4_b k49 (F_X12_sellers_l4 k49 n) x1 x2 x3 s = some r := hF
    unfold F_X12_sellers_l4_b at hF
    refine dw_iln rfl l3 (dw_aln rfl l0 (dw_vP hF rfl (d_vir (n := 1) rfl rfl rfl rfl rfl hH d_c64_0 rfl) rfl rfl rfl (dc := 2) (fun _ e => D_X12_blocks e hH) (fun v1 r_v1 hF => ?_)))
    refine d_if hF (fun q hF => ?_) (fun q hF => ?_)
    · refine dw_ge_y rfl (u := 49) rfl r_x3 r_v1 q ?_
      refine dw_iln rfl l2 (dw_bp rfl rfl (?_))
      refine d_if hF (fun q hF => ?_) (fun q hF => ?_)
      · refine dw_ge_y rfl (u := 49) rfl r_x2 (d_rl rfl) q ?_
        refine dw_aln rfl l0 (dw_iln rfl l3 (dw_vB hF rfl (d_vir (n := 2) rfl rfl rfl rfl rfl hH d_c64_0 rfl) rfl rfl rfl (dc := 1) (fun _ e => D_X12_isSold e hH r_x3) (fun v2 r_v2 hF => ?_)))
        refine d_if hF (fun q hF => ?_) (fun q hF => ?_)
        · refine dw_zeq_y rfl (u := 29) rfl (d_R_b r_v2) q ?_
          refine dw_aln rfl l0 (dw_gr rfl rfl rfl hH d_c64_29 (dw_iln rfl l2 (dw_aln rfl l0 (dw_iln rfl l3 (dw_vI hF rfl (d_vir (n := 2) rfl rfl rfl rfl rfl hH d_c64_0 rfl) rfl rfl rfl (dc := 6) (fun _ _ e => D_X12_sellsOf e hH r_x3) (fun v3 s4 h4 hH4 r_v3 hF => d_gd hF (fun g5 hF => dw_ast rfl hH4 d_a78 g5.1 g5.2 r_x2 rfl r_v3 hF (fun s6 h6 hH6 hF => dw_ii rfl l2 rfl (dw_ii rfl (d_s1 l3 rfl (by decide)) rfl (?_))))))))))
          refine dw_go rfl (u := 4) rfl (?_)
          exact ih hF hH6 (d_s1 (d_s1 l0 rfl (by decide)) rfl (by decide)) r_x1 (d_s1 (d_s1 l1 rfl (by decide)) rfl (by decide)) d_R_w (d_s1 p_lk_s1 rfl (by decide)) d_R_w p_lk_s1
        · refine dw_zeq_n rfl (u := 29) rfl (d_R_b r_v2) q ?_
          refine dw_go rfl (u := 43) rfl (dw_ii rfl l3 rfl (dw_go rfl (u := 4) rfl (?_)))
          exact ih hF hH (d_s1 l0 rfl (by decide)) r_x1 (d_s1 l1 rfl (by decide)) r_x2 (d_s1 l2 rfl (by decide)) d_R_w p_lk_s1
      · refine dw_ge_n rfl (u := 49) rfl r_x2 (d_rl rfl) q ?_
        exact hk49 hF hH l0 r_x1 l1 r_x2 l2
    · refine dw_ge_n rfl (u := 49) rfl r_x3 r_v1 q ?_
      exact hk49 hF hH l0 r_x1 l1 r_x2 l2
set_option maxRecDepth 100000 in
noncomputable def F_X12_sellers_j62 (s : d_S) : Option (Int × d_S) :=
  some ((-100000), s)
set_option maxRecDepth 100000 in
theorem D_X12_sellers_j62 {t : Nat → Option p_C} {h : p_H} {s : d_S} {r : Int × d_S} {ls : p_Ls} (hF : F_X12_sellers_j62 s = some r) (hH : d_V t h s) : p_wp p_GT p_MT 7 m_X12_sellers 62 ls [] h (d_QI t r) := by
  unfold F_X12_sellers_j62 at hF
  exact dw_ldcw rfl rfl (dw_rI rfl rfl (d_rl rfl) hH hF)
set_option maxRecDepth 100000 in
noncomputable def F_X12_sellers_j192 (k80 : Int → Int → Int → Int → Int → d_S → Option (Int × d_S)) (x1 : Int) (x2 : Int) (x4 : Int) (x5 : Int) (x6 : Int) (x7 : Int) (y1 : Int) (y2 : Int) (s : d_S) : Option (Int × d_S) :=
  d_g (0 ≤ y1 ∧ y1 < 272) (d_l (d_si s 79 ((y1).toNat) y2) (fun s15 => if x6 < x7 then
  k80 x1 x2 1 x4 (d_w (x5 + 1)) s15
  else
  k80 x1 x2 0 x4 (d_w (x5 + 1)) s15))
set_option maxRecDepth 100000 in
theorem D_X12_sellers_j192 {t : Nat → Option p_C} {h : p_H} {s : d_S} {k80 : Int → Int → Int → Int → Int → d_S → Option (Int × d_S)} {x1 : Int} {x2 : Int} {x4 : Int} {x5 : Int} {x6 : Int} {x7 : Int} {y1 : Int} {y2 : Int} {r : Int × d_S} {ls : p_Ls} (hF : F_X12_sellers_j192 k80 x1 x2 x4 x5 x6 x7 y1 y2 s = some r) (hH : d_V t h s) (l0 : p_lk 0 ls = some (.ref 64)) (r_x1 : d_R x1) (l1 : p_lk 1 ls = some (.int (Int32.ofInt x1))) (r_x2 : d_R x2) (l2 : p_lk 2 ls = some (.int (Int32.ofInt x2))) (r_x4 : d_R x4) (l4 : p_lk 4 ls = some (.int (Int32.ofInt x4))) (r_x5 : d_R x5) (l5 : p_lk 5 ls = some (.int (Int32.ofInt x5))) (r_x6 : d_R x6) (l6 : p_lk 6 ls = some (.int (Int32.ofInt x6))) (r_x7 : d_R x7) (l7 : p_lk 7 ls = some (.int (Int32.ofInt x7))) (r_y1 : d_R y1) (r_y2 : d_R y2) (hk80 : ∀ {x1 : Int} {x2 : Int} {x3 : Int} {x4 : Int} {x5 : Int} {ls : p_Ls} {s : d_S} {h : p_H}, k80 x1 x2 x3 x4 x5 s = some r → d_V t h s → p_lk 0 ls = some (.ref 64) → d_R x1 → p_lk 1 ls = some (.int (Int32.ofInt x1)) → d_R x2 → p_lk 2 ls = some (.int (Int32.ofInt x2)) → d_R x3 → p_lk 3 ls = some (.int (Int32.ofInt x3)) → d_R x4 → p_lk 4 ls = some (.int (Int32.ofInt x4)) → d_R x5 → p_lk 5 ls = some (.int (Int32.ofInt x5)) → p_wp p_GT p_MT 7 m_X12_sellers 80 ls [] h (d_QI t r)) : p_wp p_GT p_MT 7 m_X12_sellers 192 ls [.int (Int32.ofInt y2), .int (Int32.ofInt y1), .ref 79] h (d_QI t r) := by
  unfold F_X12_sellers_j192 at hF
  refine d_gd hF (fun g14 hF => dw_ast rfl hH d_a79 g14.1 g14.2 r_y1 rfl r_y2 hF (fun s15 h15 hH15 hF => dw_il rfl l6 (dw_il rfl l7 (?_))))
  refine d_if hF (fun q hF => ?_) (fun q hF => ?_)
  · refine dw_ge_y rfl (u := 204) rfl r_x6 r_x7 q ?_
    refine dw_ic rfl (dw_go rfl (u := 205) rfl (dw_isn rfl rfl (dw_ii rfl (d_s1 l5 rfl (by decide)) rfl (dw_go rfl (u := 80) rfl (?_)))))
    exact hk80 hF hH15 (d_s1 (d_s1 l0 rfl (by decide)) rfl (by decide)) r_x1 (d_s1 (d_s1 l1 rfl (by decide)) rfl (by decide)) r_x2 (d_s1 (d_s1 l2 rfl (by decide)) rfl (by decide)) (d_rl rfl) (d_s1 p_lk_s1 rfl (by decide)) r_x4 (d_s1 (d_s1 l4 rfl (by decide)) rfl (by decide)) d_R_w p_lk_s1
  · refine dw_ge_n rfl (u := 204) rfl r_x6 r_x7 q ?_
    refine dw_ic rfl (dw_isn rfl rfl (dw_ii rfl (d_s1 l5 rfl (by decide)) rfl (dw_go rfl (u := 80) rfl (?_))))
    exact hk80 hF hH15 (d_s1 (d_s1 l0 rfl (by decide)) rfl (by decide)) r_x1 (d_s1 (d_s1 l1 rfl (by decide)) rfl (by decide)) r_x2 (d_s1 (d_s1 l2 rfl (by decide)) rfl (by decide)) (d_rl rfl) (d_s1 p_lk_s1 rfl (by decide)) r_x4 (d_s1 (d_s1 l4 rfl (by decide)) rfl (by decide)) d_R_w p_lk_s1
set_option maxRecDepth 100000 in
noncomputable def F_X12_sellers_j163 (k80 : Int → Int → Int → Int → Int → d_S → Option (Int × d_S)) (x1 : Int) (x2 : Int) (x4 : Int) (x5 : Int) (x6 : Int) (y0 : Int) (y1 : Int) (s : d_S) : Option (Int × d_S) :=
  if x6 < (d_w (y0 - y1)) then
  F_X12_sellers_j192 k80 x1 x2 x4 x5 x6 (d_w (y0 - y1)) (d_w ((17 * x5) + x4)) (d_w (y0 - y1)) s
  else
  F_X12_sellers_j192 k80 x1 x2 x4 x5 x6 (d_w (y0 - y1)) (d_w ((17 * x5) + x4)) x6 s
set_option maxRecDepth 100000 in
theorem D_X12_sellers_j163 {t : Nat → Option p_C} {h : p_H} {s : d_S} {k80 : Int → Int → Int → Int → Int → d_S → Option (Int × d_S)} {x1 : Int} {x2 : Int} {x4 : Int} {x5 : Int} {x6 : Int} {y0 : Int} {y1 : Int} {r : Int × d_S} {ls : p_Ls} (hF : F_X12_sellers_j163 k80 x1 x2 x4 x5 x6 y0 y1 s = some r) (hH : d_V t h s) (l0 : p_lk 0 ls = some (.ref 64)) (r_x1 : d_R x1) (l1 : p_lk 1 ls = some (.int (Int32.ofInt x1))) (r_x2 : d_R x2) (l2 : p_lk 2 ls = some (.int (Int32.ofInt x2))) (r_x4 : d_R x4) (l4 : p_lk 4 ls = some (.int (Int32.ofInt x4))) (r_x5 : d_R x5) (l5 : p_lk 5 ls = some (.int (Int32.ofInt x5))) (r_x6 : d_R x6) (l6 : p_lk 6 ls = some (.int (Int32.ofInt x6))) (r_y0 : d_R y0) (r_y1 : d_R y1) (hk80 : ∀ {x1 : Int} {x2 : Int} {x3 : Int} {x4 : Int} {x5 : Int} {ls : p_Ls} {s : d_S} {h : p_H}, k80 x1 x2 x3 x4 x5 s = some r → d_V t h s → p_lk 0 ls = some (.ref 64) → d_R x1 → p_lk 1 ls = some (.int (Int32.ofInt x1)) → d_R x2 → p_lk 2 ls = some (.int (Int32.ofInt x2)) → d_R x3 → p_lk 3 ls = some (.int (Int32.ofInt x3)) → d_R x4 → p_lk 4 ls = some (.int (Int32.ofInt x4)) → d_R x5 → p_lk 5 ls = some (.int (Int32.ofInt x5)) → p_wp p_GT p_MT 7 m_X12_sellers 80 ls [] h (d_QI t r)) : p_wp p_GT p_MT 7 m_X12_sellers 163 ls [.int (Int32.ofInt y1), .int (Int32.ofInt y0)] h (d_QI t r) := by
  unfold F_X12_sellers_j163 at hF
  refine dw_sub rfl (dw_w1 (dw_is rfl rfl (dw_aln rfl (d_s1 l0 rfl (by decide)) (dw_gr rfl rfl rfl hH d_c64_30 (dw_bp rfl rfl (dw_il rfl (d_s1 l5 rfl (by decide)) (dw_mul rfl (dw_il rfl (d_s1 l4 rfl (by decide)) (dw_add rfl (?_))))))))))
  refine dw_il rfl (d_s1 l6 rfl (by decide)) (dw_il rfl p_lk_s1 (?_))
  refine d_if hF (fun q hF => ?_) (fun q hF => ?_)
  · refine dw_ge_y rfl (u := 190) rfl r_x6 d_R_w q ?_
    refine dw_il rfl p_lk_s1 (dw_go rfl (u := 192) rfl (dw_w2 (?_)))
    exact D_X12_sellers_j192 hF hH (d_s1 l0 rfl (by decide)) r_x1 (d_s1 l1 rfl (by decide)) r_x2 (d_s1 l2 rfl (by decide)) r_x4 (d_s1 l4 rfl (by decide)) r_x5 (d_s1 l5 rfl (by decide)) r_x6 (d_s1 l6 rfl (by decide)) d_R_w p_lk_s1 d_R_w d_R_w hk80
  · refine dw_ge_n rfl (u := 190) rfl r_x6 d_R_w q ?_
    refine dw_il rfl (d_s1 l6 rfl (by decide)) (dw_w2 (?_))
    exact D_X12_sellers_j192 hF hH (d_s1 l0 rfl (by decide)) r_x1 (d_s1 l1 rfl (by decide)) r_x2 (d_s1 l2 rfl (by decide)) r_x4 (d_s1 l4 rfl (by decide)) r_x5 (d_s1 l5 rfl (by decide)) r_x6 (d_s1 l6 rfl (by decide)) d_R_w p_lk_s1 d_R_w r_x6 hk80
set_option maxRecDepth 100000 in
noncomputable def F_X12_sellers_j163_0 (k80 : Int → Int → Int → Int → Int → d_S → Option (Int × d_S)) (x1 : Int) (x2 : Int) (x4 : Int) (x5 : Int) (x6 : Int) (y0 : Int) (s : d_S) : Option (Int × d_S) :=
  if x6 < (d_w (y0 - 0)) then
  F_X12_sellers_j192 k80 x1 x2 x4 x5 x6 (d_w (y0 - 0)) (d_w ((17 * x5) + x4)) (d_w (y0 - 0)) s
  else
  F_X12_sellers_j192 k80 x1 x2 x4 x5 x6 (d_w (y0 - 0)) (d_w ((17 * x5) + x4)) x6 s
set_option maxRecDepth 100000 in
theorem D_X12_sellers_j163_0 {t : Nat → Option p_C} {h : p_H} {s : d_S} {k80 : Int → Int → Int → Int → Int → d_S → Option (Int × d_S)} {x1 : Int} {x2 : Int} {x4 : Int} {x5 : Int} {x6 : Int} {y0 : Int} {r : Int × d_S} {ls : p_Ls} (hF : F_X12_sellers_j163_0 k80 x1 x2 x4 x5 x6 y0 s = some r) (hH : d_V t h s) (l0 : p_lk 0 ls = some (.ref 64)) (r_x1 : d_R x1) (l1 : p_lk 1 ls = some (.int (Int32.ofInt x1))) (r_x2 : d_R x2) (l2 : p_lk 2 ls = some (.int (Int32.ofInt x2))) (r_x4 : d_R x4) (l4 : p_lk 4 ls = some (.int (Int32.ofInt x4))) (r_x5 : d_R x5) (l5 : p_lk 5 ls = some (.int (Int32.ofInt x5))) (r_x6 : d_R x6) (l6 : p_lk 6 ls = some (.int (Int32.ofInt x6))) (r_y0 : d_R y0) (hk80 : ∀ {x1 : Int} {x2 : Int} {x3 : Int} {x4 : Int} {x5 : Int} {ls : p_Ls} {s : d_S} {h : p_H}, k80 x1 x2 x3 x4 x5 s = some r → d_V t h s → p_lk 0 ls = some (.ref 64) → d_R x1 → p_lk 1 ls = some (.int (Int32.ofInt x1)) → d_R x2 → p_lk 2 ls = some (.int (Int32.ofInt x2)) → d_R x3 → p_lk 3 ls = some (.int (Int32.ofInt x3)) → d_R x4 → p_lk 4 ls = some (.int (Int32.ofInt x4)) → d_R x5 → p_lk 5 ls = some (.int (Int32.ofInt x5)) → p_wp p_GT p_MT 7 m_X12_sellers 80 ls [] h (d_QI t r)) : p_wp p_GT p_MT 7 m_X12_sellers 163 ls [.int (Int32.ofInt 0), .int (Int32.ofInt y0)] h (d_QI t r) := by
  unfold F_X12_sellers_j163_0 at hF
  refine dw_sub rfl (dw_w1 (dw_is rfl rfl (dw_aln rfl (d_s1 l0 rfl (by decide)) (dw_gr rfl rfl rfl hH d_c64_30 (dw_bp rfl rfl (dw_il rfl (d_s1 l5 rfl (by decide)) (dw_mul rfl (dw_il rfl (d_s1 l4 rfl (by decide)) (dw_add rfl (?_))))))))))
  refine dw_il rfl (d_s1 l6 rfl (by decide)) (dw_il rfl p_lk_s1 (?_))
  refine d_if hF (fun q hF => ?_) (fun q hF => ?_)
  · refine dw_ge_y rfl (u := 190) rfl r_x6 d_R_w q ?_
    refine dw_il rfl p_lk_s1 (dw_go rfl (u := 192) rfl (dw_w2 (?_)))
    exact D_X12_sellers_j192 hF hH (d_s1 l0 rfl (by decide)) r_x1 (d_s1 l1 rfl (by decide)) r_x2 (d_s1 l2 rfl (by decide)) r_x4 (d_s1 l4 rfl (by decide)) r_x5 (d_s1 l5 rfl (by decide)) r_x6 (d_s1 l6 rfl (by decide)) d_R_w p_lk_s1 d_R_w d_R_w hk80
  · refine dw_ge_n rfl (u := 190) rfl r_x6 d_R_w q ?_
    refine dw_il rfl (d_s1 l6 rfl (by decide)) (dw_w2 (?_))
    exact D_X12_sellers_j192 hF hH (d_s1 l0 rfl (by decide)) r_x1 (d_s1 l1 rfl (by decide)) r_x2 (d_s1 l2 rfl (by decide)) r_x4 (d_s1 l4 rfl (by decide)) r_x5 (d_s1 l5 rfl (by decide)) r_x6 (d_s1 l6 rfl (by decide)) d_R_w p_lk_s1 d_R_w r_x6 hk80
set_option maxRecDepth 100000 in
noncomputable def F_X12_sellers_l80_b (k212 : Int → Int → Int → Int → d_S → Option (Int × d_S)) (rec : Int → Int → Int → Int → Int → d_S → Option (Int × d_S)) (x1 : Int) (x2 : Int) (x3 : Int) (x4 : Int) (x5 : Int) (s : d_S) : Option (Int × d_S) :=
  if x2 < (d_w (x5 + x4)) then
  k212 x1 x2 x3 x4 s
  else
  d_g (0 ≤ x5 ∧ x5 < 16) (if 1 < x4 then
  d_g (0 ≤ (d_w (((17 * (x5 + 1)) + x4) - 1)) ∧ (d_w (((17 * (x5 + 1)) + x4) - 1)) < 272) (d_l (d_w ((s.1 78 (x5.toNat)) - (s.1 79 (((d_w (((17 * (x5 + 1)) + x4) - 1))).toNat)))) (fun z11 => d_g (0 ≤ (d_w ((x5 + x4) - 1)) ∧ (d_w ((x5 + x4) - 1)) < 16) (if 1 < x4 then
  d_g (0 ≤ (d_w (((17 * x5) + x4) - 1)) ∧ (d_w (((17 * x5) + x4) - 1)) < 272) (F_X12_sellers_j163 rec x1 x2 x4 x5 z11 (s.1 78 (((d_w ((x5 + x4) - 1))).toNat)) (s.1 79 (((d_w (((17 * x5) + x4) - 1))).toNat)) s)
  else
  F_X12_sellers_j163_0 rec x1 x2 x4 x5 z11 (s.1 78 (((d_w ((x5 + x4) - 1))).toNat)) s)))
  else
  d_l (d_w ((s.1 78 (x5.toNat)) - 0)) (fun z16 => d_g (0 ≤ (d_w ((x5 + x4) - 1)) ∧ (d_w ((x5 + x4) - 1)) < 16) (if 1 < x4 then
  d_g (0 ≤ (d_w (((17 * x5) + x4) - 1)) ∧ (d_w (((17 * x5) + x4) - 1)) < 272) (F_X12_sellers_j163 rec x1 x2 x4 x5 z16 (s.1 78 (((d_w ((x5 + x4) - 1))).toNat)) (s.1 79 (((d_w (((17 * x5) + x4) - 1))).toNat)) s)
  else
  F_X12_sellers_j163_0 rec x1 x2 x4 x5 z16 (s.1 78 (((d_w ((x5 + x4) - 1))).toNat)) s)))
set_option maxRecDepth 100000 in
noncomputable def F_X12_sellers_l80 (k212 : Int → Int → Int → Int → d_S → Option (Int × d_S)) : Nat → Int → Int → Int → Int → Int → d_S → Option (Int × d_S)
  | 0 => fun _ _ _ _ _ _ => none
  | n + 1 => F_X12_sellers_l80_b k212 (F_X12_sellers_l80 k212 n)
set_option maxRecDepth 100000 in
theorem D_X12_sellers_l80 {t : Nat → Option p_C} {k212 : Int → Int → Int → Int → d_S → Option (Int × d_S)} {r : Int × d_S} (hk212 : ∀ {x1 : Int} {x2 : Int} {x3 : Int} {x4 : Int} {ls : p_Ls} {s : d_S} {h : p_H}, k212 x1 x2 x3 x4 s = some r → d_V t h s → p_lk 0 ls = some (.ref 64) → d_R x1 → p_lk 1 ls = some (.int (Int32.ofInt x1)) → d_R x2 → p_lk 2 ls = some (.int (Int32.ofInt x2)) → d_R x3 → p_lk 3 ls = some (.int (Int32.ofInt x3)) → d_R x4 → p_lk 4 ls = some (.int (Int32.ofInt x4)) → p_wp p_GT p_MT 7 m_X12_sellers 212 ls [] h (d_QI t r)) : ∀ (n : Nat) {x1 : Int} {x2 : Int} {x3 : Int} {x4 : Int} {x5 : Int} {ls : p_Ls} {s : d_S} {h : p_H}, F_X12_sellers_l80 k212 n x1 x2 x3 x4 x5 s = some r → d_V t h s → p_lk 0 ls = some (.ref 64) → d_R x1 → p_lk 1 ls = some (.int (Int32.ofInt x1)) → d_R x2 → p_lk 2 ls = some (.int (Int32.ofInt x2)) → d_R x3 → p_lk 3 ls = some (.int (Int32.ofInt x3)) → d_R x4 → p_lk 4 ls = some (.int (Int32.ofInt x4)) → d_R x5 → p_lk 5 ls = some (.int (Int32.ofInt x5)) → p_wp p_GT p_MT 7 m_X12_sellers 80 ls [] h (d_QI t r) := by
  intro n
  induction n with
  | zero =>
    intro x1 x2 x3 x4 x5 ls s h hF hH l0 r_x1 l1 r_x2 l2 r_x3 l3 r_x4 l4 r_x5 l5
    cases (show (none : Option (Int × d_S)) = some r from hF)
  | succ n ih =>
    intro x1 x2 x3 x4 x5 ls s h hF hH l0 r_x1 l1 r_x2 l2 r_x3 l3 r_x4 l4 r_x5 l5
    have hF : F_X12_sellers_l80_b k212 (F_X12_sellers_l80 k212 n) x1 x2 x3 x4 x5 s = some r := hF
    unfold F_X12_sellers_l80_b at hF
    refine dw_il rfl l5 (dw_il rfl l4 (dw_add rfl (dw_iln rfl l2 (dw_w2 (?_)))))
    refine d_if hF (fun q hF => ?_) (fun q hF => ?_)
    · refine dw_gt_y rfl (u := 212) rfl d_R_w r_x2 q ?_
      exact hk212 hF hH l0 r_x1 l1 r_x2 l2 r_x3 l3 r_x4 l4
    · refine dw_gt_n rfl (u := 212) rfl d_R_w r_x2 q ?_
      refine dw_aln rfl l0 (dw_gr rfl rfl rfl hH d_c64_29 (dw_il rfl l5 (d_gd hF (fun g9 hF => dw_ald rfl hH d_a78 rfl g9.1 g9.2 r_x5 rfl (dw_il rfl l4 (dw_ic rfl (?_)))))))
      refine d_if hF (fun q hF => ?_) (fun q hF => ?_)
      · refine dw_le_y rfl (u := 122) rfl r_x4 (d_rl rfl) q ?_
        refine dw_aln rfl l0 (dw_gr rfl rfl rfl hH d_c64_30 (dw_bp rfl rfl (dw_il rfl l5 (dw_ic rfl (dw_add rfl (dw_mul rfl (dw_il rfl l4 (dw_add rfl (dw_ic rfl (?_))))))))))
        refine dw_sub rfl (dw_w1 (d_gd hF (fun g10 hF => dw_ald rfl hH d_a79 rfl g10.1 g10.2 d_R_w rfl (dw_go rfl (u := 123) rfl (dw_sub rfl (dw_w1 (dw_nm hF d_R_w (fun z11 r_z11 hF => dw_is rfl rfl (dw_aln rfl (d_s1 l0 rfl (by decide)) (?_))))))))))
        refine dw_gr rfl rfl rfl hH d_c64_29 (dw_il rfl (d_s1 l5 rfl (by decide)) (dw_il rfl (d_s1 l4 rfl (by decide)) (dw_add rfl (dw_ic rfl (dw_sub rfl (dw_w1 (d_gd hF (fun g12 hF => dw_ald rfl hH d_a78 rfl g12.1 g12.2 d_R_w rfl (dw_il rfl (d_s1 l4 rfl (by decide)) (?_))))))))))
        refine dw_ic rfl (?_)
        refine d_if hF (fun q hF => ?_) (fun q hF => ?_)
        · refine dw_le_y rfl (u := 162) rfl r_x4 (d_rl rfl) q ?_
          refine dw_aln rfl (d_s1 l0 rfl (by decide)) (dw_gr rfl rfl rfl hH d_c64_30 (dw_bp rfl rfl (dw_il rfl (d_s1 l5 rfl (by decide)) (dw_mul rfl (dw_il rfl (d_s1 l4 rfl (by decide)) (dw_add rfl (dw_ic rfl (dw_sub rfl (dw_w1 (?_))))))))))
          refine d_gd hF (fun g13 hF => dw_ald rfl hH d_a79 rfl g13.1 g13.2 d_R_w rfl (dw_go rfl (u := 163) rfl (?_)))
          exact D_X12_sellers_j163 hF hH (d_s1 l0 rfl (by decide)) r_x1 (d_s1 l1 rfl (by decide)) r_x2 (d_s1 l2 rfl (by decide)) r_x4 (d_s1 l4 rfl (by decide)) r_x5 (d_s1 l5 rfl (by decide)) r_z11 p_lk_s1 hH.r hH.r (fun {x1} {x2} {x3} {x4} {x5} {ls} {s} {h} hF hH l0 r_x1 l1 r_x2 l2 r_x3 l3 r_x4 l4 r_x5 l5 => ih hF hH l0 r_x1 l1 r_x2 l2 r_x3 l3 r_x4 l4 r_x5 l5)
        · refine dw_le_n rfl (u := 162) rfl r_x4 (d_rl rfl) q ?_
          refine dw_ic rfl (?_)
          exact D_X12_sellers_j163_0 hF hH (d_s1 l0 rfl (by decide)) r_x1 (d_s1 l1 rfl (by decide)) r_x2 (d_s1 l2 rfl (by decide)) r_x4 (d_s1 l4 rfl (by decide)) r_x5 (d_s1 l5 rfl (by decide)) r_z11 p_lk_s1 hH.r (fun {x1} {x2} {x3} {x4} {x5} {ls} {s} {h} hF hH l0 r_x1 l1 r_x2 l2 r_x3 l3 r_x4 l4 r_x5 l5 => ih hF hH l0 r_x1 l1 r_x2 l2 r_x3 l3 r_x4 l4 r_x5 l5)
      · refine dw_le_n rfl (u := 122) rfl r_x4 (d_rl rfl) q ?_
        refine dw_ic rfl (dw_sub rfl (dw_w1 (dw_nm hF d_R_w (fun z16 r_z16 hF => dw_is rfl rfl (dw_aln rfl (d_s1 l0 rfl (by decide)) (dw_gr rfl rfl rfl hH d_c64_29 (dw_il rfl (d_s1 l5 rfl (by decide)) (dw_il rfl (d_s1 l4 rfl (by decide)) (dw_add rfl (?_))))))))))
        refine dw_ic rfl (dw_sub rfl (dw_w1 (d_gd hF (fun g17 hF => dw_ald rfl hH d_a78 rfl g17.1 g17.2 d_R_w rfl (dw_il rfl (d_s1 l4 rfl (by decide)) (dw_ic rfl (?_)))))))
        refine d_if hF (fun q hF => ?_) (fun q hF => ?_)
        · refine dw_le_y rfl (u := 162) rfl r_x4 (d_rl rfl) q ?_
          refine dw_aln rfl (d_s1 l0 rfl (by decide)) (dw_gr rfl rfl rfl hH d_c64_30 (dw_bp rfl rfl (dw_il rfl (d_s1 l5 rfl (by decide)) (dw_mul rfl (dw_il rfl (d_s1 l4 rfl (by decide)) (dw_add rfl (dw_ic rfl (dw_sub rfl (dw_w1 (?_))))))))))
          refine d_gd hF (fun g18 hF => dw_ald rfl hH d_a79 rfl g18.1 g18.2 d_R_w rfl (dw_go rfl (u := 163) rfl (?_)))
          exact D_X12_sellers_j163 hF hH (d_s1 l0 rfl (by decide)) r_x1 (d_s1 l1 rfl (by decide)) r_x2 (d_s1 l2 rfl (by decide)) r_x4 (d_s1 l4 rfl (by decide)) r_x5 (d_s1 l5 rfl (by decide)) r_z16 p_lk_s1 hH.r hH.r (fun {x1} {x2} {x3} {x4} {x5} {ls} {s} {h} hF hH l0 r_x1 l1 r_x2 l2 r_x3 l3 r_x4 l4 r_x5 l5 => ih hF hH l0 r_x1 l1 r_x2 l2 r_x3 l3 r_x4 l4 r_x5 l5)
        · refine dw_le_n rfl (u := 162) rfl r_x4 (d_rl rfl) q ?_
          refine dw_ic rfl (?_)
          exact D_X12_sellers_j163_0 hF hH (d_s1 l0 rfl (by decide)) r_x1 (d_s1 l1 rfl (by decide)) r_x2 (d_s1 l2 rfl (by decide)) r_x4 (d_s1 l4 rfl (by decide)) r_x5 (d_s1 l5 rfl (by decide)) r_z16 p_lk_s1 hH.r (fun {x1} {x2} {x3} {x4} {x5} {ls} {s} {h} hF hH l0 r_x1 l1 r_x2 l2 r_x3 l3 r_x4 l4 r_x5 l5 => ih hF hH l0 r_x1 l1 r_x2 l2 r_x3 l3 r_x4 l4 r_x5 l5)
set_option maxRecDepth 100000 in
noncomputable def F_X12_sellers_l71_b (k218 : Int → Int → Int → d_S → Option (Int × d_S)) (rec : Int → Int → Int → Int → d_S → Option (Int × d_S)) (x1 : Int) (x2 : Int) (x3 : Int) (x4 : Int) (s : d_S) : Option (Int × d_S) :=
  if x2 < x4 then
  k218 x1 x2 x3 s
  else
  F_X12_sellers_l80 (fun x1_u19 x2_u19 x3_u19 x4_u19 s_u19 =>
  rec x1_u19 x2_u19 x3_u19 (d_w (x4_u19 + 1)) s_u19) d_N x1 x2 x3 x4 0 s
set_option maxRecDepth 100000 in
noncomputable def F_X12_sellers_l71 (k218 : Int → Int → Int → d_S → Option (Int × d_S)) : Nat → Int → Int → Int → Int → d_S → Option (Int × d_S)
  | 0 => fun _ _ _ _ _ => none
  | n + 1 => F_X12_sellers_l71_b k218 (F_X12_sellers_l71 k218 n)
set_option maxRecDepth 100000 in
theorem D_X12_sellers_l71 {t : Nat → Option p_C} {k218 : Int → Int → Int → d_S → Option (Int × d_S)} {r : Int × d_S} (hk218 : ∀ {x1 : Int} {x2 : Int} {x3 : Int} {ls : p_Ls} {s : d_S} {h : p_H}, k218 x1 x2 x3 s = some r → d_V t h s → p_lk 0 ls = some (.ref 64) → d_R x1 → p_lk 1 ls = some (.int (Int32.ofInt x1)) → d_R x2 → p_lk 2 ls = some (.int (Int32.ofInt x2)) → d_R x3 → p_lk 3 ls = some (.int (Int32.ofInt x3)) → p_wp p_GT p_MT 7 m_X12_sellers 218 ls [] h (d_QI t r)) : ∀ (n : Nat) {x1 : Int} {x2 : Int} {x3 : Int} {x4 : Int} {ls : p_Ls} {s : d_S} {h : p_H}, F_X12_sellers_l71 k218 n x1 x2 x3 x4 s = some r → d_V t h s → p_lk 0 ls = some (.ref 64) → d_R x1 → p_lk 1 ls = some (.int (Int32.ofInt x1)) → d_R x2 → p_lk 2 ls = some (.int (Int32.ofInt x2)) → d_R x3 → p_lk 3 ls = some (.int (Int32.ofInt x3)) → d_R x4 → p_lk 4 ls = some (.int (Int32.ofInt x4)) → p_wp p_GT p_MT 7 m_X12_sellers 71 ls [] h (d_QI t r) := by
  intro n
  induction n with
  | zero =>
    intro x1 x2 x3 x4 ls s h hF hH l0 r_x1 l1 r_x2 l2 r_x3 l3 r_x4 l4
    cases (show (none : Option (Int × d_S)) = some r from hF)
  | succ n ih =>
    intro x1 x2 x3 x4 ls s h hF hH l0 r_x1 l1 r_x2 l2 r_x3 l3 r_x4 l4
    have hF : F_X12_sellers_l71_b k218 (F_X12_sellers_l71 k218 n) x1 x2 x3 x4 s = some r := hF
    unfold F_X12_sellers_l71_b at hF
    refine dw_il rfl l4 (dw_iln rfl l2 (?_))
    refine d_if hF (fun q hF => ?_) (fun q hF => ?_)
    · refine dw_gt_y rfl (u := 218) rfl r_x4 r_x2 q ?_
      exact hk218 hF hH l0 r_x1 l1 r_x2 l2 r_x3 l3
    · refine dw_gt_n rfl (u := 218) rfl r_x4 r_x2 q ?_
      refine dw_ic rfl (dw_is rfl rfl (?_))
      refine D_X12_sellers_l80 (fun {x1_u19} {x2_u19} {x3_u19} {x4_u19} {ls_u19} {s_u19} {h_u19} hF hH_u19 l0_u19 r_x1_u19 l1_u19 r_x2_u19 l2_u19 r_x3_u19 l3_u19 r_x4_u19 l4_u19 => ?_) _ hF hH (d_s1 l0 rfl (by decide)) r_x1 (d_s1 l1 rfl (by decide)) r_x2 (d_s1 l2 rfl (by decide)) r_x3 (d_s1 l3 rfl (by decide)) r_x4 (d_s1 l4 rfl (by decide)) (d_rl rfl) p_lk_s1
      · refine dw_ii rfl l4_u19 rfl (dw_go rfl (u := 71) rfl (?_))
        exact ih hF hH_u19 (d_s1 l0_u19 rfl (by decide)) r_x1_u19 (d_s1 l1_u19 rfl (by decide)) r_x2_u19 (d_s1 l2_u19 rfl (by decide)) r_x3_u19 (d_s1 l3_u19 rfl (by decide)) d_R_w p_lk_s1
set_option maxRecDepth 100000 in
noncomputable def F_X12_sellers (s : d_S) (x1 : Int) : Option (Int × d_S) :=
  F_X12_sellers_l4 (fun x1_u7 x2_u7 s_u7 =>
  if x2_u7 = 0 then
  F_X12_sellers_j62 s_u7
  else
  d_b (F_X12_isIn x1_u7 0 1) (fun v8 => if v8 = 0 then
  F_X12_sellers_j62 s_u7
  else
  F_X12_sellers_l71 (fun x1_u20 x2_u20 x3_u20 s_u20 =>
  if x1_u20 = 1 then
  if x3_u20 = 0 then
  some (0, s_u20)
  else
  some (1, s_u20)
  else
  d_g (0 ≤ x2_u20 ∧ x2_u20 < 272) (some ((s_u20.1 79 (x2_u20.toNat)), s_u20))) d_N x1_u7 x2_u7 0 1 s_u7)) d_N x1 0 0 s
set_option maxRecDepth 100000 in
theorem D_X12_sellers {t : Nat → Option p_C} {h : p_H} {s : d_S} {x1 : Int} {r : Int × d_S} (hF : F_X12_sellers s x1 = some r) (hH : d_V t h s) (r_x1 : d_R x1) : p_wp p_GT p_MT 7 m_X12_sellers 0 (lv_args 0 [.ref 64, .int (Int32.ofInt x1)]) [] h (d_QI t r) := by
  unfold F_X12_sellers at hF
  refine dw_ic rfl (dw_isn rfl rfl (dw_ic rfl (dw_isn rfl rfl (?_))))
  refine D_X12_sellers_l4 (fun {x1_u7} {x2_u7} {ls_u7} {s_u7} {h_u7} hF hH_u7 l0_u7 r_x1_u7 l1_u7 r_x2_u7 l2_u7 => ?_) _ hF hH (d_s1 (d_s1 rfl rfl (by decide)) rfl (by decide)) r_x1 (d_s1 (d_s1 rfl rfl (by decide)) rfl (by decide)) (d_rl rfl) (d_s1 p_lk_s1 rfl (by decide)) (d_rl rfl) p_lk_s1
  · refine dw_iln rfl l2_u7 (?_)
    refine d_if hF (fun q hF => ?_) (fun q hF => ?_)
    · refine dw_zeq_y rfl (u := 62) rfl r_x2_u7 q ?_
      exact D_X12_sellers_j62 hF hH_u7
    · refine dw_zeq_n rfl (u := 62) rfl r_x2_u7 q ?_
      refine dw_iln rfl l1_u7 (dw_ic rfl (dw_ic rfl (dw_sB hF rfl rfl rfl rfl rfl (dc := 0) (fun _ e => D_X12_isIn e r_x1_u7 (d_rl rfl) (d_rl rfl)) (fun v8 r_v8 hF => ?_))))
      refine d_if hF (fun q hF => ?_) (fun q hF => ?_)
      · refine dw_zne_y rfl (u := 66) rfl (d_R_b r_v8) q ?_
        exact D_X12_sellers_j62 hF hH_u7
      · refine dw_zne_n rfl (u := 66) rfl (d_R_b r_v8) q ?_
        refine dw_ic rfl (dw_isn rfl rfl (dw_ic rfl (dw_is rfl rfl (?_))))
        refine D_X12_sellers_l71 (fun {x1_u20} {x2_u20} {x3_u20} {ls_u20} {s_u20} {h_u20} hF hH_u20 l0_u20 r_x1_u20 l1_u20 r_x2_u20 l2_u20 r_x3_u20 l3_u20 => ?_) _ hF hH_u7 (d_s1 (d_s1 l0_u7 rfl (by decide)) rfl (by decide)) r_x1_u7 (d_s1 (d_s1 l1_u7 rfl (by decide)) rfl (by decide)) r_x2_u7 (d_s1 (d_s1 l2_u7 rfl (by decide)) rfl (by decide)) (d_rl rfl) (d_s1 p_lk_s1 rfl (by decide)) (d_rl rfl) p_lk_s1
        · refine dw_iln rfl l1_u20 (dw_ic rfl (?_))
          refine d_if hF (fun q hF => ?_) (fun q hF => ?_)
          · refine dw_ne_y rfl (u := 235) rfl r_x1_u20 (d_rl rfl) q ?_
            refine dw_iln rfl l3_u20 (?_)
            refine d_if hF (fun q hF => ?_) (fun q hF => ?_)
            · refine dw_zeq_y rfl (u := 231) rfl r_x3_u20 q ?_
              exact dw_ic rfl (dw_go rfl (u := 241) rfl (dw_rI rfl rfl (d_rl rfl) hH_u20 hF))
            · refine dw_zeq_n rfl (u := 231) rfl r_x3_u20 q ?_
              exact dw_ic rfl (dw_go rfl (u := 241) rfl (dw_rI rfl rfl (d_rl rfl) hH_u20 hF))
          · refine dw_ne_n rfl (u := 235) rfl r_x1_u20 (d_rl rfl) q ?_
            exact dw_aln rfl l0_u20 (dw_gr rfl rfl rfl hH_u20 d_c64_30 (dw_iln rfl l2_u20 (d_gd hF (fun g21 hF => dw_ald rfl hH_u20 d_a79 rfl g21.1 g21.2 r_x2_u20 rfl (dw_rI rfl rfl hH_u20.r hH_u20 hF)))))
set_option maxRecDepth 100000 in
noncomputable def F_X12_worthLater_l2_b (k17 : d_S → Option (Int × d_S)) (rec : Int → Int → d_S → Option (Int × d_S)) (x1 : Int) (x2 : Int) (s : d_S) : Option (Int × d_S) :=
  if x2 < x1 then
  d_b (F_X12_goOn s) (fun s1 => rec x1 (d_w (x2 + 1)) s1)
  else
  k17 s
set_option maxRecDepth 100000 in
noncomputable def F_X12_worthLater_l2 (k17 : d_S → Option (Int × d_S)) : Nat → Int → Int → d_S → Option (Int × d_S)
  | 0 => fun _ _ _ => none
  | n + 1 => F_X12_worthLater_l2_b k17 (F_X12_worthLater_l2 k17 n)
set_option maxRecDepth 100000 in
theorem D_X12_worthLater_l2 {t : Nat → Option p_C} {k17 : d_S → Option (Int × d_S)} {r : Int × d_S} (hk17 : ∀ {ls : p_Ls} {s : d_S} {h : p_H}, k17 s = some r → d_V t h s → p_lk 0 ls = some (.ref 64) → p_wp p_GT p_MT 10 m_X12_worthLater 17 ls [] h (d_QI t r)) : ∀ (n : Nat) {x1 : Int} {x2 : Int} {ls : p_Ls} {s : d_S} {h : p_H}, F_X12_worthLater_l2 k17 n x1 x2 s = some r → d_V t h s → p_lk 0 ls = some (.ref 64) → d_R x1 → p_lk 1 ls = some (.int (Int32.ofInt x1)) → d_R x2 → p_lk 2 ls = some (.int (Int32.ofInt x2)) → p_wp p_GT p_MT 10 m_X12_worthLater 2 ls [] h (d_QI t r) := by
  intro n
  induction n with
  | zero =>
    intro x1 x2 ls s h hF hH l0 r_x1 l1 r_x2 l2
    cases (show (none : Option (Int × d_S)) = some r from hF)
  | succ n ih =>
    intro x1 x2 ls s h hF hH l0 r_x1 l1 r_x2 l2
    have hF : F_X12_worthLater_l2_b k17 (F_X12_worthLater_l2 k17 n) x1 x2 s = some r := hF
    unfold F_X12_worthLater_l2_b at hF
    refine dw_iln rfl l2 (dw_iln rfl l1 (?_))
    refine d_if hF (fun q hF => ?_) (fun q hF => ?_)
    · refine dw_ge_y rfl (u := 17) rfl r_x2 r_x1 q ?_
      refine dw_aln rfl l0 (dw_vV hF rfl (d_vir (n := 1) rfl rfl rfl rfl rfl hH d_c64_0 rfl) rfl rfl rfl (dc := 9) (fun _ e => D_X12_goOn e hH) (fun s1 h1 hH1 hF => dw_ii rfl l2 rfl (dw_go rfl (u := 2) rfl (?_))))
      exact ih hF hH1 (d_s1 l0 rfl (by decide)) r_x1 (d_s1 l1 rfl (by decide)) d_R_w p_lk_s1
    · refine dw_ge_n rfl (u := 17) rfl r_x2 r_x1 q ?_
      exact hk17 hF hH l0
set_option maxRecDepth 100000 in
noncomputable def F_X12_worthLater_l21_b (rec : Int → Int → d_S → Option (Int × d_S)) (x2 : Int) (x3 : Int) (s : d_S) : Option (Int × d_S) :=
  d_b (F_X12_blocks s) (fun v3 => if x3 < v3 then
  d_b (F_X12_canSell s x3) (fun v4 => if v4 = 0 then
  rec (d_w (x2 + 0)) (d_w (x3 + 1)) s
  else
  d_b2 (F_X12_sellsOf s x3) (fun v5 s6 => rec (d_w (x2 + v5)) (d_w (x3 + 1)) s6))
  else
  some (x2, s))
set_option maxRecDepth 100000 in
noncomputable def F_X12_worthLater_l21 : Nat → Int → Int → d_S → Option (Int × d_S)
  | 0 => fun _ _ _ => none
  | n + 1 => F_X12_worthLater_l21_b (F_X12_worthLater_l21 n)
set_option maxRecDepth 100000 in
theorem D_X12_worthLater_l21 {t : Nat → Option p_C} {r : Int × d_S} : ∀ (n : Nat) {x2 : Int} {x3 : Int} {ls : p_Ls} {s : d_S} {h : p_H}, F_X12_worthLater_l21 n x2 x3 s = some r → d_V t h s → p_lk 0 ls = some (.ref 64) → d_R x2 → p_lk 2 ls = some (.int (Int32.ofInt x2)) → d_R x3 → p_lk 3 ls = some (.int (Int32.ofInt x3)) → p_wp p_GT p_MT 10 m_X12_worthLater 21 ls [] h (d_QI t r) := by
  intro n
  induction n with
  | zero =>
    intro x2 x3 ls s h hF hH l0 r_x2 l2 r_x3 l3
    cases (show (none : Option (Int × d_S)) = some r from hF)
  | succ n ih =>
    intro x2 x3 ls s h hF hH l0 r_x2 l2 r_x3 l3
    have hF : F_X12_worthLater_l21_b (F_X12_worthLater_l21 n) x2 x3 s = some r := hF
    unfold F_X12_worthLater_l21_b at hF
    refine dw_iln rfl l3 (dw_aln rfl l0 (dw_vP hF rfl (d_vir (n := 1) rfl rfl rfl rfl rfl hH d_c64_0 rfl) rfl rfl rfl (dc := 2) (fun _ e => D_X12_blocks e hH) (fun v3 r_v3 hF => ?_)))
    refine d_if hF (fun q hF => ?_) (fun q hF => ?_)
    · refine dw_ge_y rfl (u := 55) rfl r_x3 r_v3 q ?_
      refine dw_iln rfl l2 (dw_aln rfl l0 (dw_iln rfl l3 (dw_vB hF rfl (d_vir (n := 2) rfl rfl rfl rfl rfl hH d_c64_0 rfl) rfl rfl rfl (dc := 4) (fun _ e => D_X12_canSell e hH r_x3) (fun v4 r_v4 hF => ?_))))
      refine d_if hF (fun q hF => ?_) (fun q hF => ?_)
      · refine dw_zeq_y rfl (u := 46) rfl (d_R_b r_v4) q ?_
        refine dw_ic rfl (dw_add rfl (dw_w1 (dw_isn rfl rfl (dw_ii rfl (d_s1 l3 rfl (by decide)) rfl (dw_go rfl (u := 21) rfl (?_))))))
        exact ih hF hH (d_s1 (d_s1 l0 rfl (by decide)) rfl (by decide)) d_R_w (d_s1 p_lk_s1 rfl (by decide)) d_R_w p_lk_s1
      · refine dw_zeq_n rfl (u := 46) rfl (d_R_b r_v4) q ?_
        refine dw_aln rfl l0 (dw_iln rfl l3 (dw_vI hF rfl (d_vir (n := 2) rfl rfl rfl rfl rfl hH d_c64_0 rfl) rfl rfl rfl (dc := 6) (fun _ _ e => D_X12_sellsOf e hH r_x3) (fun v5 s6 h6 hH6 r_v5 hF => dw_go rfl (u := 47) rfl (dw_add rfl (dw_w1 (dw_isn rfl rfl (dw_ii rfl (d_s1 l3 rfl (by decide)) rfl (dw_go rfl (u := 21) rfl (?_)))))))))
        exact ih hF hH6 (d_s1 (d_s1 l0 rfl (by decide)) rfl (by decide)) d_R_w (d_s1 p_lk_s1 rfl (by decide)) d_R_w p_lk_s1
    · refine dw_ge_n rfl (u := 55) rfl r_x3 r_v3 q ?_
      exact dw_iln rfl l2 (dw_rI rfl rfl r_x2 hH hF)
set_option maxRecDepth 100000 in
noncomputable def F_X12_worthLater (s : d_S) (x1 : Int) : Option (Int × d_S) :=
  F_X12_worthLater_l2 (fun s_u2 =>
  F_X12_worthLater_l21 d_N 0 0 s_u2) d_N x1 0 s
set_option maxRecDepth 100000 in
theorem D_X12_worthLater {t : Nat → Option p_C} {h : p_H} {s : d_S} {x1 : Int} {r : Int × d_S} (hF : F_X12_worthLater s x1 = some r) (hH : d_V t h s) (r_x1 : d_R x1) : p_wp p_GT p_MT 10 m_X12_worthLater 0 (lv_args 0 [.ref 64, .int (Int32.ofInt x1)]) [] h (d_QI t r) := by
  unfold F_X12_worthLater at hF
  refine dw_ic rfl (dw_isn rfl rfl (?_))
  refine D_X12_worthLater_l2 (fun {ls_u2} {s_u2} {h_u2} hF hH_u2 l0_u2 => ?_) _ hF hH (d_s1 rfl rfl (by decide)) r_x1 (d_s1 rfl rfl (by decide)) (d_rl rfl) p_lk_s1
  · refine dw_ic rfl (dw_isn rfl rfl (dw_ic rfl (dw_isn rfl rfl (?_))))
    exact D_X12_worthLater_l21 _ hF hH_u2 (d_s1 (d_s1 l0_u2 rfl (by decide)) rfl (by decide)) (d_rl rfl) (d_s1 p_lk_s1 rfl (by decide)) (d_rl rfl) p_lk_s1
set_option maxRecDepth 100000 in
noncomputable def F_X12_strawBest_l30_b (rec : Int → Int → Int → Int → Int → d_S → Option (Int × d_S)) (x1 : Int) (x2 : Int) (x3 : Int) (x4 : Int) (x5 : Int) (s : d_S) : Option (Int × d_S) :=
  d_b (F_X12_blocks s) (fun v3 => if x5 < v3 then
  d_b (F_X12_isSold s x5) (fun v4 => if v4 = 0 then
  d_b (F_X12_begin s) (fun s5 => d_b (F_X12_get s5 x5 0) (fun v6 => d_b (F_X12_cut (d_w (v6 + x1)) 9) (fun v7 => d_b (F_X12_set s5 x5 0 v7) (fun s8 => d_b2 (F_X12_worthLater s8 x2) (fun v9 s10 => d_b (F_X12_putBack s10) (fun s11 => if x3 = (-1) then
  rec x1 x2 x5 v9 (d_w (x5 + 1)) s11
  else
  if x4 < v9 then
  rec x1 x2 x5 v9 (d_w (x5 + 1)) s11
  else
  rec x1 x2 x3 x4 (d_w (x5 + 1)) s11))))))
  else
  rec x1 x2 x3 x4 (d_w (x5 + 1)) s)
  else
  some (x3, s))
set_option maxRecDepth 100000 in
noncomputable def F_X12_strawBest_l30 : Nat → Int → Int → Int → Int → Int → d_S → Option (Int × d_S)
  | 0 => fun _ _ _ _ _ _ => none
  | n + 1 => F_X12_strawBest_l30_b (F_X12_strawBest_l30 n)
set_option maxRecDepth 100000 in
theorem D_X12_strawBest_l30 {t : Nat → Option p_C} {r : Int × d_S} : ∀ (n : Nat) {x1 : Int} {x2 : Int} {x3 : Int} {x4 : Int} {x5 : Int} {ls : p_Ls} {s : d_S} {h : p_H}, F_X12_strawBest_l30 n x1 x2 x3 x4 x5 s = some r → d_V t h s → p_lk 0 ls = some (.ref 64) → d_R x1 → p_lk 1 ls = some (.int (Int32.ofInt x1)) → d_R x2 → p_lk 2 ls = some (.int (Int32.ofInt x2)) → d_R x3 → p_lk 3 ls = some (.int (Int32.ofInt x3)) → d_R x4 → p_lk 4 ls = some (.int (Int32.ofInt x4)) → d_R x5 → p_lk 5 ls = some (.int (Int32.ofInt x5)) → p_wp p_GT p_MT 11 m_X12_strawBest 30 ls [] h (d_QI t r) := by
  intro n
  induction n with
  | zero =>
    intro x1 x2 x3 x4 x5 ls s h hF hH l0 r_x1 l1 r_x2 l2 r_x3 l3 r_x4 l4 r_x5 l5
    cases (show (none : Option (Int × d_S)) = some r from hF)
  | succ n ih =>
    intro x1 x2 x3 x4 x5 ls s h hF hH l0 r_x1 l1 r_x2 l2 r_x3 l3 r_x4 l4 r_x5 l5
    have hF : F_X12_strawBest_l30_b (F_X12_strawBest_l30 n) x1 x2 x3 x4 x5 s = some r := hF
    unfold F_X12_strawBest_l30_b at hF
    refine dw_il rfl l5 (dw_aln rfl l0 (dw_vP hF rfl (d_vir (n := 1) rfl rfl rfl rfl rfl hH d_c64_0 rfl) rfl rfl rfl (dc := 2) (fun _ e => D_X12_blocks e hH) (fun v3 r_v3 hF => ?_)))
    refine d_if hF (fun q hF => ?_) (fun q hF => ?_)
    · refine dw_ge_y rfl (u := 116) rfl r_x5 r_v3 q ?_
      refine dw_aln rfl l0 (dw_il rfl l5 (dw_vB hF rfl (d_vir (n := 2) rfl rfl rfl rfl rfl hH d_c64_0 rfl) rfl rfl rfl (dc := 1) (fun _ e => D_X12_isSold e hH r_x5) (fun v4 r_v4 hF => ?_)))
      refine d_if hF (fun q hF => ?_) (fun q hF => ?_)
      · refine dw_zeq_y rfl (u := 51) rfl (d_R_b r_v4) q ?_
        refine dw_aln rfl l0 (dw_vV hF rfl (d_vir (n := 1) rfl rfl rfl rfl rfl hH d_c64_0 rfl) rfl rfl rfl (dc := 0) (fun _ e => D_X12_begin e hH) (fun s5 h5 hH5 hF => dw_aln rfl l0 (dw_il rfl l5 (dw_ic rfl (dw_aln rfl l0 (dw_il rfl l5 (dw_ic rfl (dw_vP hF rfl (d_vir (n := 3) rfl rfl rfl rfl rfl hH5 d_c64_0 rfl) rfl rfl rfl (dc := 0) (fun _ e => D_X12_get e hH5 r_x5 (d_rl rfl)) (fun v6 r_v6 hF => dw_iln rfl l1 (?_))))))))))
        refine dw_add rfl (dw_w1 (dw_i2l rfl d_R_w (dw_bp rfl rfl (dw_sP hF rfl rfl rfl rfl rfl (dc := 0) (fun _ e => D_X12_cut e (d_RL_R d_R_w) (d_rl rfl)) (fun v7 r_v7 hF => dw_vV hF rfl (d_vir (n := 4) rfl rfl rfl rfl rfl hH5 d_c64_0 rfl) rfl rfl rfl (dc := 0) (fun _ e => D_X12_set e hH5 r_x5 (d_rl rfl) r_v7) (fun s8 h8 hH8 hF => dw_aln rfl l0 (dw_iln rfl l2 (dw_vI hF rfl (d_vir (n := 2) rfl rfl rfl rfl rfl hH8 d_c64_0 rfl) rfl rfl rfl (dc := 10) (fun _ _ e => D_X12_worthLater e hH8 r_x2) (fun v9 s10 h10 hH10 r_v9 hF => dw_is rfl rfl (?_))))))))))
        refine dw_aln rfl (d_s1 l0 rfl (by decide)) (dw_vV hF rfl (d_vir (n := 1) rfl rfl rfl rfl rfl hH10 d_c64_0 rfl) rfl rfl rfl (dc := 0) (fun _ e => D_X12_putBack e hH10) (fun s11 h11 hH11 hF => dw_iln rfl (d_s1 l3 rfl (by decide)) (dw_ic rfl (?_))))
        refine d_if hF (fun q hF => ?_) (fun q hF => ?_)
        · refine dw_eq_y rfl (u := 103) rfl r_x3 (d_rl rfl) q ?_
          refine dw_il rfl (d_s1 l5 rfl (by decide)) (dw_isn rfl rfl (dw_il rfl (d_s1 p_lk_s1 rfl (by decide)) (dw_is rfl rfl (dw_ii rfl (d_s1 (d_s1 (d_s1 l5 rfl (by decide)) rfl (by decide)) rfl (by decide)) rfl (dw_go rfl (u := 30) rfl (?_))))))
          exact ih hF hH11 (d_s1 (d_s1 (d_s1 (d_s1 l0 rfl (by decide)) rfl (by decide)) rfl (by decide)) rfl (by decide)) r_x1 (d_s1 (d_s1 (d_s1 (d_s1 l1 rfl (by decide)) rfl (by decide)) rfl (by decide)) rfl (by decide)) r_x2 (d_s1 (d_s1 (d_s1 (d_s1 l2 rfl (by decide)) rfl (by decide)) rfl (by decide)) rfl (by decide)) r_x5 (d_s1 (d_s1 p_lk_s1 rfl (by decide)) rfl (by decide)) r_v9 (d_s1 p_lk_s1 rfl (by decide)) d_R_w p_lk_s1
        · refine dw_eq_n rfl (u := 103) rfl r_x3 (d_rl rfl) q ?_
          refine dw_il rfl p_lk_s1 (dw_il rfl (d_s1 l4 rfl (by decide)) (?_))
          refine d_if hF (fun q hF => ?_) (fun q hF => ?_)
          · refine dw_gt_y rfl (u := 103) rfl r_v9 r_x4 q ?_
            refine dw_il rfl (d_s1 l5 rfl (by decide)) (dw_isn rfl rfl (dw_il rfl (d_s1 p_lk_s1 rfl (by decide)) (dw_is rfl rfl (dw_ii rfl (d_s1 (d_s1 (d_s1 l5 rfl (by decide)) rfl (by decide)) rfl (by decide)) rfl (dw_go rfl (u := 30) rfl (?_))))))
            exact ih hF hH11 (d_s1 (d_s1 (d_s1 (d_s1 l0 rfl (by decide)) rfl (by decide)) rfl (by decide)) rfl (by decide)) r_x1 (d_s1 (d_s1 (d_s1 (d_s1 l1 rfl (by decide)) rfl (by decide)) rfl (by decide)) rfl (by decide)) r_x2 (d_s1 (d_s1 (d_s1 (d_s1 l2 rfl (by decide)) rfl (by decide)) rfl (by decide)) rfl (by decide)) r_x5 (d_s1 (d_s1 p_lk_s1 rfl (by decide)) rfl (by decide)) r_v9 (d_s1 p_lk_s1 rfl (by decide)) d_R_w p_lk_s1
          · refine dw_gt_n rfl (u := 103) rfl r_v9 r_x4 q ?_
            refine dw_go rfl (u := 110) rfl (dw_ii rfl (d_s1 l5 rfl (by decide)) rfl (dw_go rfl (u := 30) rfl (?_)))
            exact ih hF hH11 (d_s1 (d_s1 l0 rfl (by decide)) rfl (by decide)) r_x1 (d_s1 (d_s1 l1 rfl (by decide)) rfl (by decide)) r_x2 (d_s1 (d_s1 l2 rfl (by decide)) rfl (by decide)) r_x3 (d_s1 (d_s1 l3 rfl (by decide)) rfl (by decide)) r_x4 (d_s1 (d_s1 l4 rfl (by decide)) rfl (by decide)) d_R_w p_lk_s1
      · refine dw_zeq_n rfl (u := 51) rfl (d_R_b r_v4) q ?_
        refine dw_go rfl (u := 110) rfl (dw_ii rfl l5 rfl (dw_go rfl (u := 30) rfl (?_)))
        exact ih hF hH (d_s1 l0 rfl (by decide)) r_x1 (d_s1 l1 rfl (by decide)) r_x2 (d_s1 l2 rfl (by decide)) r_x3 (d_s1 l3 rfl (by decide)) r_x4 (d_s1 l4 rfl (by decide)) d_R_w p_lk_s1
    · refine dw_ge_n rfl (u := 116) rfl r_x5 r_v3 q ?_
      exact dw_iln rfl l3 (dw_rI rfl rfl r_x3 hH hF)
set_option maxRecDepth 100000 in
noncomputable def F_X12_strawBest (s : d_S) (x1 : Int) (x2 : Int) : Option (Int × d_S) :=
  d_b (F_X12_isIn x1 0 9) (fun v1 => if v1 = 0 then
  some ((-1), s)
  else
  d_b (F_X12_isIn x2 1 20) (fun v2 => if v2 = 0 then
  some ((-1), s)
  else
  F_X12_strawBest_l30 d_N x1 x2 (-1) 0 0 s))
set_option maxRecDepth 100000 in
theorem D_X12_strawBest {t : Nat → Option p_C} {h : p_H} {s : d_S} {x1 : Int} {x2 : Int} {r : Int × d_S} (hF : F_X12_strawBest s x1 x2 = some r) (hH : d_V t h s) (r_x1 : d_R x1) (r_x2 : d_R x2) : p_wp p_GT p_MT 11 m_X12_strawBest 0 (lv_args 0 [.ref 64, .int (Int32.ofInt x1), .int (Int32.ofInt x2)]) [] h (d_QI t r) := by
  unfold F_X12_strawBest at hF
  refine dw_iln rfl rfl (dw_ic rfl (dw_bp rfl rfl (dw_sB hF rfl rfl rfl rfl rfl (dc := 0) (fun _ e => D_X12_isIn e r_x1 (d_rl rfl) (d_rl rfl)) (fun v1 r_v1 hF => ?_))))
  refine d_if hF (fun q hF => ?_) (fun q hF => ?_)
  · refine dw_zeq_y rfl (u := 20) rfl (d_R_b r_v1) q ?_
    exact dw_ic rfl (dw_rI rfl rfl (d_rl rfl) hH hF)
  · refine dw_zeq_n rfl (u := 20) rfl (d_R_b r_v1) q ?_
    refine dw_iln rfl rfl (dw_ic rfl (dw_bp rfl rfl (dw_sB hF rfl rfl rfl rfl rfl (dc := 0) (fun _ e => D_X12_isIn e r_x2 (d_rl rfl) (d_rl rfl)) (fun v2 r_v2 hF => ?_))))
    refine d_if hF (fun q hF => ?_) (fun q hF => ?_)
    · refine dw_zne_y rfl (u := 22) rfl (d_R_b r_v2) q ?_
      exact dw_ic rfl (dw_rI rfl rfl (d_rl rfl) hH hF)
    · refine dw_zne_n rfl (u := 22) rfl (d_R_b r_v2) q ?_
      refine dw_ic rfl (dw_isn rfl rfl (dw_ic rfl (dw_is rfl rfl (dw_ic rfl (dw_is rfl rfl (?_))))))
      exact D_X12_strawBest_l30 _ hF hH (d_s1 (d_s1 (d_s1 rfl rfl (by decide)) rfl (by decide)) rfl (by decide)) r_x1 (d_s1 (d_s1 (d_s1 rfl rfl (by decide)) rfl (by decide)) rfl (by decide)) r_x2 (d_s1 (d_s1 (d_s1 rfl rfl (by decide)) rfl (by decide)) rfl (by decide)) (d_rl rfl) (d_s1 (d_s1 p_lk_s1 rfl (by decide)) rfl (by decide)) (d_rl rfl) (d_s1 p_lk_s1 rfl (by decide)) (d_rl rfl) p_lk_s1
set_option maxRecDepth 100000 in
noncomputable def F_X12_isLaw_l2_b (rec : Int → Int → d_S → Option (Int × d_S)) (x1 : Int) (x2 : Int) (s : d_S) : Option (Int × d_S) :=
  if x2 < (s.1 65 8) then
  d_g (0 ≤ (d_w (355 + (4 * x2))) ∧ (d_w (355 + (4 * x2))) < 2517) (d_b (F_X12_isBlock s (s.1 65 (((d_w (355 + (4 * x2)))).toNat))) (fun v2 => if v2 = 0 then
  some (0, s)
  else
  d_g (0 ≤ (d_w (355 + (4 * x2))) ∧ (d_w (355 + (4 * x2))) < 2517) (d_g (0 ≤ (d_w ((d_w (355 + (4 * x2))) + 1)) ∧ (d_w ((d_w (355 + (4 * x2))) + 1)) < 2517) (d_g (0 ≤ (d_w ((d_w (355 + (4 * x2))) + 2)) ∧ (d_w ((d_w (355 + (4 * x2))) + 2)) < 2517) (d_g (0 ≤ (d_w (355 + (4 * x2))) ∧ (d_w (355 + (4 * x2))) < 2517) (d_b (F_X12_get s (s.1 65 (((d_w (355 + (4 * x2)))).toNat)) 1) (fun v7 => d_b2 (F_X12_meltsBy s x1 (s.1 65 (((d_w (355 + (4 * x2)))).toNat)) (s.1 65 9) (s.1 65 (((d_w ((d_w (355 + (4 * x2))) + 1))).toNat)) (s.1 65 (((d_w ((d_w (355 + (4 * x2))) + 2))).toNat)) v7) (fun v8 s9 => d_g (0 ≤ (d_w ((d_w (355 + (4 * x2))) + 3)) ∧ (d_w ((d_w (355 + (4 * x2))) + 3)) < 2517) (if v8 = (s9.1 65 (((d_w ((d_w (355 + (4 * x2))) + 3))).toNat)) then
  rec x1 (d_w (x2 + 1)) s9
  else
  some (0, s9))))))))))
  else
  some (1, s)
set_option maxRecDepth 100000 in
noncomputable def F_X12_isLaw_l2 : Nat → Int → Int → d_S → Option (Int × d_S)
  | 0 => fun _ _ _ => none
  | n + 1 => F_X12_isLaw_l2_b (F_X12_isLaw_l2 n)
set_option maxRecDepth 100000 in
theorem D_X12_isLaw_l2 {t : Nat → Option p_C} {r : Int × d_S} : ∀ (n : Nat) {x1 : Int} {x2 : Int} {ls : p_Ls} {s : d_S} {h : p_H}, F_X12_isLaw_l2 n x1 x2 s = some r → d_V t h s → p_lk 0 ls = some (.ref 64) → d_R x1 → p_lk 1 ls = some (.int (Int32.ofInt x1)) → d_R x2 → p_lk 2 ls = some (.int (Int32.ofInt x2)) → p_wp p_GT p_MT 7 m_X12_isLaw 2 ls [] h (d_QC t r) := by
  intro n
  induction n with
  | zero =>
    intro x1 x2 ls s h hF hH l0 r_x1 l1 r_x2 l2
    cases (show (none : Option (Int × d_S)) = some r from hF)
  | succ n ih =>
    intro x1 x2 ls s h hF hH l0 r_x1 l1 r_x2 l2
    have hF : F_X12_isLaw_l2_b (F_X12_isLaw_l2 n) x1 x2 s = some r := hF
    unfold F_X12_isLaw_l2_b at hF
    refine dw_iln rfl l2 (dw_aln rfl l0 (dw_gr rfl rfl rfl hH d_c64_0 (dw_bp rfl rfl (dw_ald rfl hH d_a65 rfl (by decide) (by decide) (d_rl rfl) (k := 8) rfl (?_)))))
    refine d_if hF (fun q hF => ?_) (fun q hF => ?_)
    · refine dw_ge_y rfl (u := 98) rfl r_x2 hH.r q ?_
      refine dw_sp rfl rfl (dw_ic rfl (dw_iln rfl l2 (dw_mul rfl (dw_add rfl (dw_w1 (dw_isn rfl rfl (dw_aln rfl (d_s1 l0 rfl (by decide)) (dw_aln rfl (d_s1 l0 rfl (by decide)) (dw_gr rfl rfl rfl hH d_c64_0 (?_))))))))))
      refine dw_iln rfl p_lk_s1 (d_gd hF (fun g1 hF => dw_ald rfl hH d_a65 rfl g1.1 g1.2 d_R_w rfl (dw_vB hF rfl (d_vir (n := 2) rfl rfl rfl rfl rfl hH d_c64_0 rfl) rfl rfl rfl (dc := 3) (fun _ e => D_X12_isBlock e hH hH.r) (fun v2 r_v2 hF => ?_))))
      refine d_if hF (fun q hF => ?_) (fun q hF => ?_)
      · refine dw_zeq_y rfl (u := 90) rfl (d_R_b r_v2) q ?_
        exact dw_ic rfl (dw_rC rfl rfl (Or.inl rfl) hH hF)
      · refine dw_zeq_n rfl (u := 90) rfl (d_R_b r_v2) q ?_
        refine dw_aln rfl (d_s1 l0 rfl (by decide)) (dw_iln rfl (d_s1 l1 rfl (by decide)) (dw_aln rfl (d_s1 l0 rfl (by decide)) (dw_gr rfl rfl rfl hH d_c64_0 (dw_iln rfl p_lk_s1 (d_gd hF (fun g3 hF => dw_ald rfl hH d_a65 rfl g3.1 g3.2 d_R_w rfl (dw_aln rfl (d_s1 l0 rfl (by decide)) (dw_gr rfl rfl rfl hH d_c64_0 (dw_bp rfl rfl (?_))))))))))
        refine dw_ald rfl hH d_a65 rfl (by decide) (by decide) (d_rl rfl) (k := 9) rfl (dw_aln rfl (d_s1 l0 rfl (by decide)) (dw_gr rfl rfl rfl hH d_c64_0 (dw_iln rfl p_lk_s1 (dw_ic rfl (dw_add rfl (dw_w1 (d_gd hF (fun g4 hF => dw_ald rfl hH d_a65 rfl g4.1 g4.2 d_R_w rfl (dw_aln rfl (d_s1 l0 rfl (by decide)) (?_))))))))))
        refine dw_gr rfl rfl rfl hH d_c64_0 (dw_iln rfl p_lk_s1 (dw_ic rfl (dw_add rfl (dw_w1 (d_gd hF (fun g5 hF => dw_ald rfl hH d_a65 rfl g5.1 g5.2 d_R_w rfl (dw_aln rfl (d_s1 l0 rfl (by decide)) (dw_aln rfl (d_s1 l0 rfl (by decide)) (dw_gr rfl rfl rfl hH d_c64_0 (?_))))))))))
        refine dw_iln rfl p_lk_s1 (d_gd hF (fun g6 hF => dw_ald rfl hH d_a65 rfl g6.1 g6.2 d_R_w rfl (dw_ic rfl (dw_vP hF rfl (d_vir (n := 3) rfl rfl rfl rfl rfl hH d_c64_0 rfl) rfl rfl rfl (dc := 0) (fun _ e => D_X12_get e hH hH.r (d_rl rfl)) (fun v7 r_v7 hF => dw_vI hF rfl (d_vir (n := 7) rfl rfl rfl rfl rfl hH d_c64_0 rfl) rfl rfl rfl (dc := 6) (fun _ _ e => D_X12_meltsBy e hH r_x1 hH.r hH.r hH.r hH.r r_v7) (fun v8 s9 h9 hH9 r_v8 hF => dw_aln rfl (d_s1 l0 rfl (by decide)) (dw_gr rfl rfl rfl hH9 d_c64_0 (dw_iln rfl p_lk_s1 (dw_ic rfl (?_))))))))))
        refine dw_add rfl (dw_w1 (d_gd hF (fun g10 hF => dw_ald rfl hH9 d_a65 rfl g10.1 g10.2 d_R_w rfl (?_))))
        refine d_if hF (fun q hF => ?_) (fun q hF => ?_)
        · refine dw_eq_y rfl (u := 92) rfl r_v8 hH9.r q ?_
          refine dw_ii rfl (d_s1 l2 rfl (by decide)) rfl (dw_go rfl (u := 2) rfl (?_))
          exact ih hF hH9 (d_s1 (d_s1 l0 rfl (by decide)) rfl (by decide)) r_x1 (d_s1 (d_s1 l1 rfl (by decide)) rfl (by decide)) d_R_w p_lk_s1
        · refine dw_eq_n rfl (u := 92) rfl r_v8 hH9.r q ?_
          exact dw_ic rfl (dw_rC rfl rfl (Or.inl rfl) hH9 hF)
    · refine dw_ge_n rfl (u := 98) rfl r_x2 hH.r q ?_
      exact dw_ic rfl (dw_rC rfl rfl (Or.inr rfl) hH hF)
set_option maxRecDepth 100000 in
noncomputable def F_X12_isLaw (s : d_S) (x1 : Int) : Option (Int × d_S) :=
  F_X12_isLaw_l2 d_N x1 0 s
set_option maxRecDepth 100000 in
theorem D_X12_isLaw {t : Nat → Option p_C} {h : p_H} {s : d_S} {x1 : Int} {r : Int × d_S} (hF : F_X12_isLaw s x1 = some r) (hH : d_V t h s) (r_x1 : d_R x1) : p_wp p_GT p_MT 7 m_X12_isLaw 0 (lv_args 0 [.ref 64, .int (Int32.ofInt x1)]) [] h (d_QC t r) := by
  unfold F_X12_isLaw at hF
  refine dw_ic rfl (dw_isn rfl rfl (?_))
  exact D_X12_isLaw_l2 _ hF hH (d_s1 rfl rfl (by decide)) r_x1 (d_s1 rfl rfl (by decide)) (d_rl rfl) p_lk_s1
set_option maxRecDepth 100000 in
noncomputable def F_X12_whoseLaw_l4_b (rec : Int → Int → d_S → Option (Int × d_S)) (x1 : Int) (x2 : Int) (s : d_S) : Option (Int × d_S) :=
  if x2 < (s.1 65 1) then
  d_b2 (F_X12_isLaw s x2) (fun v1 s2 => if v1 = 0 then
  rec (d_or x1 0) (d_w (x2 + 1)) s2
  else
  rec (d_or x1 (d_shl 1 x2)) (d_w (x2 + 1)) s2)
  else
  some (x1, s)
set_option maxRecDepth 100000 in
noncomputable def F_X12_whoseLaw_l4 : Nat → Int → Int → d_S → Option (Int × d_S)
  | 0 => fun _ _ _ => none
  | n + 1 => F_X12_whoseLaw_l4_b (F_X12_whoseLaw_l4 n)
set_option maxRecDepth 100000 in
theorem D_X12_whoseLaw_l4 {t : Nat → Option p_C} {r : Int × d_S} : ∀ (n : Nat) {x1 : Int} {x2 : Int} {ls : p_Ls} {s : d_S} {h : p_H}, F_X12_whoseLaw_l4 n x1 x2 s = some r → d_V t h s → p_lk 0 ls = some (.ref 64) → d_R x1 → p_lk 1 ls = some (.int (Int32.ofInt x1)) → d_R x2 → p_lk 2 ls = some (.int (Int32.ofInt x2)) → p_wp p_GT p_MT 8 m_X12_whoseLaw 4 ls [] h (d_QI t r) := by
  intro n
  induction n with
  | zero =>
    intro x1 x2 ls s h hF hH l0 r_x1 l1 r_x2 l2
    cases (show (none : Option (Int × d_S)) = some r from hF)
  | succ n ih =>
    intro x1 x2 ls s h hF hH l0 r_x1 l1 r_x2 l2
    have hF : F_X12_whoseLaw_l4_b (F_X12_whoseLaw_l4 n) x1 x2 s = some r := hF
    unfold F_X12_whoseLaw_l4_b at hF
    refine dw_iln rfl l2 (dw_aln rfl l0 (dw_gr rfl rfl rfl hH d_c64_0 (dw_ic rfl (dw_ald rfl hH d_a65 rfl (by decide) (by decide) (d_rl rfl) (k := 1) rfl (?_)))))
    refine d_if hF (fun q hF => ?_) (fun q hF => ?_)
    · refine dw_ge_y rfl (u := 38) rfl r_x2 hH.r q ?_
      refine dw_iln rfl l1 (dw_aln rfl l0 (dw_iln rfl l2 (dw_vC hF rfl (d_vir (n := 2) rfl rfl rfl rfl rfl hH d_c64_0 rfl) rfl rfl rfl (dc := 7) (fun _ _ e => D_X12_isLaw e hH r_x2) (fun v1 s2 h2 hH2 r_v1 hF => ?_))))
      refine d_if hF (fun q hF => ?_) (fun q hF => ?_)
      · refine dw_zeq_y rfl (u := 29) rfl (d_R_b r_v1) q ?_
        refine dw_ic rfl (dw_or rfl (dw_isn rfl rfl (dw_ii rfl (d_s1 l2 rfl (by decide)) rfl (dw_go rfl (u := 4) rfl (?_)))))
        exact ih hF hH2 (d_s1 (d_s1 l0 rfl (by decide)) rfl (by decide)) d_R_t (d_s1 p_lk_s1 rfl (by decide)) d_R_w p_lk_s1
      · refine dw_zeq_n rfl (u := 29) rfl (d_R_b r_v1) q ?_
        refine dw_ic rfl (dw_iln rfl l2 (dw_shl rfl (dw_go rfl (u := 30) rfl (dw_or rfl (dw_isn rfl rfl (dw_ii rfl (d_s1 l2 rfl (by decide)) rfl (dw_go rfl (u := 4) rfl (?_))))))))
        exact ih hF hH2 (d_s1 (d_s1 l0 rfl (by decide)) rfl (by decide)) d_R_t (d_s1 p_lk_s1 rfl (by decide)) d_R_w p_lk_s1
    · refine dw_ge_n rfl (u := 38) rfl r_x2 hH.r q ?_
      exact dw_iln rfl l1 (dw_rI rfl rfl r_x1 hH hF)
set_option maxRecDepth 100000 in
noncomputable def F_X12_whoseLaw (s : d_S) : Option (Int × d_S) :=
  F_X12_whoseLaw_l4 d_N 0 0 s
set_option maxRecDepth 100000 in
theorem D_X12_whoseLaw {t : Nat → Option p_C} {h : p_H} {s : d_S} {r : Int × d_S} (hF : F_X12_whoseLaw s = some r) (hH : d_V t h s) : p_wp p_GT p_MT 8 m_X12_whoseLaw 0 (lv_args 0 [.ref 64]) [] h (d_QI t r) := by
  unfold F_X12_whoseLaw at hF
  refine dw_ic rfl (dw_isn rfl rfl (dw_ic rfl (dw_isn rfl rfl (?_))))
  exact D_X12_whoseLaw_l4 _ hF hH (d_s1 (d_s1 rfl rfl (by decide)) rfl (by decide)) (d_rl rfl) (d_s1 p_lk_s1 rfl (by decide)) (d_rl rfl) p_lk_s1

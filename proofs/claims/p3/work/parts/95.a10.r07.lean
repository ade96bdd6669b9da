set_option maxRecDepth 100000 in
noncomputable def F_X12_worked_j180 (k37 : Int → Int → Int → Int → d_S → Option (Int × d_S)) (x3 : Int) (x4 : Int) (x5 : Int) (x6 : Int) (y0 : Int) (s : d_S) : Option (Int × d_S) :=
  d_g (0 ≤ (d_w ((x5 - 1) + y0)) ∧ (d_w ((x5 - 1) + y0)) < 330) (d_g (0 ≤ (d_w (x5 - 1)) ∧ (d_w (x5 - 1)) < 330) (d_l (d_sl s (((d_w (x5 - 1))).toNat) (s.2.2 (((d_w ((x5 - 1) + y0))).toNat))) (fun s16 => k37 x3 x4 x5 (d_w (x6 + 1)) s16)))
set_option maxRecDepth 100000 in
theorem D_X12_worked_j180 {t : Nat → Option p_C} {h : p_H} {s : d_S} {k37 : Int → Int → Int → Int → d_S → Option (Int × d_S)} {x3 : Int} {x4 : Int} {x5 : Int} {x6 : Int} {y0 : Int} {r : Int × d_S} {ls : p_Ls} (hF : F_X12_worked_j180 k37 x3 x4 x5 x6 y0 s = some r) (hH : d_V t h s) (l0 : p_lk 0 ls = some (.ref 64)) (r_x3 : d_R x3) (l3 : p_lk 3 ls = some (.int (Int32.ofInt x3))) (r_x4 : d_R x4) (l4 : p_lk 4 ls = some (.int (Int32.ofInt x4))) (r_x5 : d_R x5) (l5 : p_lk 5 ls = some (.int (Int32.ofInt x5))) (r_x6 : d_R x6) (l6 : p_lk 6 ls = some (.int (Int32.ofInt x6))) (r_y0 : d_R y0) (hk37 : ∀ {x3 : Int} {x4 : Int} {x5 : Int} {x6 : Int} {ls : p_Ls} {s : d_S} {h : p_H}, k37 x3 x4 x5 x6 s = some r → d_V t h s → p_lk 0 ls = some (.ref 64) → d_R x3 → p_lk 3 ls = some (.int (Int32.ofInt x3)) → d_R x4 → p_lk 4 ls = some (.int (Int32.ofInt x4)) → d_R x5 → p_lk 5 ls = some (.int (Int32.ofInt x5)) → d_R x6 → p_lk 6 ls = some (.int (Int32.ofInt x6)) → p_wp p_GT p_MT 2 m_X12_worked 37 ls [] h (d_QJ t r)) : p_wp p_GT p_MT 2 m_X12_worked 180 ls [.int (Int32.ofInt y0)] h (d_QJ t r) := by
  unfold F_X12_worked_j180 at hF
  refine dw_is rfl rfl (dw_aln rfl (d_s1 l0 rfl (by decide)) (dw_gr rfl rfl rfl hH d_c64_23 (dw_il rfl (d_s1 l5 rfl (by decide)) (dw_ic rfl (dw_sub rfl (dw_aln rfl (d_s1 l0 rfl (by decide)) (dw_gr rfl rfl rfl hH d_c64_23 (dw_il rfl (d_s1 l5 rfl (by decide)) (dw_ic rfl (?_))))))))))
  refine dw_sub rfl (dw_il rfl p_lk_s1 (dw_add rfl (dw_w1 (d_gd hF (fun g14 hF => dw_lld rfl hH g14.1 g14.2 d_R_w rfl (dw_w2 (d_gd hF (fun g15 hF => dw_lst rfl hH g15.1 g15.2 d_R_w rfl hH.rl hF (fun s16 h16 hH16 hF => dw_go rfl (u := 267) rfl (?_))))))))))
  refine dw_ii rfl (d_s1 l6 rfl (by decide)) rfl (dw_go rfl (u := 37) rfl (?_))
  exact hk37 hF hH16 (d_s1 (d_s1 l0 rfl (by decide)) rfl (by decide)) r_x3 (d_s1 (d_s1 l3 rfl (by decide)) rfl (by decide)) r_x4 (d_s1 (d_s1 l4 rfl (by decide)) rfl (by decide)) r_x5 (d_s1 (d_s1 l5 rfl (by decide)) rfl (by decide)) d_R_w p_lk_s1
set_option maxRecDepth 100000 in
noncomputable def F_X12_worked_j111 (k37 : Int → Int → Int → Int → d_S → Option (Int × d_S)) (x3 : Int) (x4 : Int) (x5 : Int) (x6 : Int) (y1 : Int) (y2 : Int) (s : d_S) : Option (Int × d_S) :=
  d_g (0 ≤ y1 ∧ y1 < 330) (d_l (d_sl s ((y1).toNat) y2) (fun s27 => k37 x3 x4 (d_w (x5 + 1)) (d_w (x6 + 1)) s27))
set_option maxRecDepth 100000 in
theorem D_X12_worked_j111 {t : Nat → Option p_C} {h : p_H} {s : d_S} {k37 : Int → Int → Int → Int → d_S → Option (Int × d_S)} {x3 : Int} {x4 : Int} {x5 : Int} {x6 : Int} {y1 : Int} {y2 : Int} {r : Int × d_S} {ls : p_Ls} (hF : F_X12_worked_j111 k37 x3 x4 x5 x6 y1 y2 s = some r) (hH : d_V t h s) (l0 : p_lk 0 ls = some (.ref 64)) (r_x3 : d_R x3) (l3 : p_lk 3 ls = some (.int (Int32.ofInt x3))) (r_x4 : d_R x4) (l4 : p_lk 4 ls = some (.int (Int32.ofInt x4))) (r_x5 : d_R x5) (l5 : p_lk 5 ls = some (.int (Int32.ofInt x5))) (r_x6 : d_R x6) (l6 : p_lk 6 ls = some (.int (Int32.ofInt x6))) (r_y1 : d_R y1) (r_y2 : d_RL y2) (hk37 : ∀ {x3 : Int} {x4 : Int} {x5 : Int} {x6 : Int} {ls : p_Ls} {s : d_S} {h : p_H}, k37 x3 x4 x5 x6 s = some r → d_V t h s → p_lk 0 ls = some (.ref 64) → d_R x3 → p_lk 3 ls = some (.int (Int32.ofInt x3)) → d_R x4 → p_lk 4 ls = some (.int (Int32.ofInt x4)) → d_R x5 → p_lk 5 ls = some (.int (Int32.ofInt x5)) → d_R x6 → p_lk 6 ls = some (.int (Int32.ofInt x6)) → p_wp p_GT p_MT 2 m_X12_worked 37 ls [] h (d_QJ t r)) : p_wp p_GT p_MT 2 m_X12_worked 111 ls [.long (Int64.ofInt y2), .int (Int32.ofInt y1), .ref 72] h (d_QJ t r) := by
  unfold F_X12_worked_j111 at hF
  refine d_gd hF (fun g26 hF => dw_lst rfl hH g26.1 g26.2 r_y1 rfl r_y2 hF (fun s27 h27 hH27 hF => dw_ii rfl l5 rfl (dw_go rfl (u := 267) rfl (dw_ii rfl (d_s1 l6 rfl (by decide)) rfl (dw_go rfl (u := 37) rfl (?_))))))
  exact hk37 hF hH27 (d_s1 (d_s1 l0 rfl (by decide)) rfl (by decide)) r_x3 (d_s1 (d_s1 l3 rfl (by decide)) rfl (by decide)) r_x4 (d_s1 (d_s1 l4 rfl (by decide)) rfl (by decide)) d_R_w (d_s1 p_lk_s1 rfl (by decide)) d_R_w p_lk_s1
set_option maxRecDepth 100000 in
noncomputable def F_X12_worked_l37_b (k273 : d_S → Option (Int × d_S)) (rec : Int → Int → Int → Int → d_S → Option (Int × d_S)) (x3 : Int) (x4 : Int) (x5 : Int) (x6 : Int) (s : d_S) : Option (Int × d_S) :=
  d_g (0 ≤ (d_w (x3 + 2)) ∧ (d_w (x3 + 2)) < 3108) (if x6 < (s.1 67 (((d_w (x3 + 2))).toNat)) then
  d_g (0 ≤ (d_w (x4 + (2 * x6))) ∧ (d_w (x4 + (2 * x6))) < 3108) (d_l (s.1 67 (((d_w (x4 + (2 * x6)))).toNat)) (fun z6 => d_g (0 ≤ (d_w ((x4 + (2 * x6)) + 1)) ∧ (d_w ((x4 + (2 * x6)) + 1)) < 3108) (d_l (s.1 67 (((d_w ((x4 + (2 * x6)) + 1))).toNat)) (fun z8 => if 1 < z6 then
  if z6 = 2 then
  d_g (0 ≤ (d_w ((d_w (x5 - z8)) - 1)) ∧ (d_w ((d_w (x5 - z8)) - 1)) < 330) (if (s.2.2 (((d_w ((d_w (x5 - z8)) - 1))).toNat)) < 1 then
  d_g (0 ≤ (d_w (((d_w (x5 - z8)) - 1) + 1)) ∧ (d_w (((d_w (x5 - z8)) - 1) + 1)) < 330) (d_g (0 ≤ (d_w ((d_w (x5 - z8)) - 1)) ∧ (d_w ((d_w (x5 - z8)) - 1)) < 330) (d_l (d_sl s (((d_w ((d_w (x5 - z8)) - 1))).toNat) (s.2.2 (((d_w (((d_w (x5 - z8)) - 1) + 1))).toNat))) (fun s12 => rec x3 x4 (d_w (x5 - z8)) (d_w (x6 + 1)) s12)))
  else
  d_g (0 ≤ (d_w ((d_w (x5 - z8)) - 1)) ∧ (d_w ((d_w (x5 - z8)) - 1)) < 330) (if z8 < (s.2.2 (((d_w ((d_w (x5 - z8)) - 1))).toNat)) then
  F_X12_worked_j180 rec x3 x4 (d_w (x5 - z8)) x6 z8 s
  else
  d_g (0 ≤ (d_w ((d_w (x5 - z8)) - 1)) ∧ (d_w ((d_w (x5 - z8)) - 1)) < 330) (F_X12_worked_j180 rec x3 x4 (d_w (x5 - z8)) x6 (d_w (s.2.2 (((d_w ((d_w (x5 - z8)) - 1))).toNat))) s)))
  else
  if z6 = 3 then
  d_g (0 ≤ (d_w (x5 - 1)) ∧ (d_w (x5 - 1)) < 330) (d_g (0 ≤ (d_w (x5 - 1)) ∧ (d_w (x5 - 1)) < 330) (d_l (d_sl s (((d_w (x5 - 1))).toNat) (d_W (-(s.2.2 (((d_w (x5 - 1))).toNat))))) (fun s20 => rec x3 x4 x5 (d_w (x6 + 1)) s20)))
  else
  d_g (0 ≤ (d_w ((d_w (x5 + (-1))) - 1)) ∧ (d_w ((d_w (x5 + (-1))) - 1)) < 330) (d_g (0 ≤ (d_w (x5 + (-1))) ∧ (d_w (x5 + (-1))) < 330) (d_b (F_X12_two z6 (s.2.2 (((d_w ((d_w (x5 + (-1))) - 1))).toNat)) (s.2.2 (((d_w (x5 + (-1)))).toNat))) (fun v23 => d_g (0 ≤ (d_w ((d_w (x5 + (-1))) - 1)) ∧ (d_w ((d_w (x5 + (-1))) - 1)) < 330) (d_l (d_sl s (((d_w ((d_w (x5 + (-1))) - 1))).toNat) v23) (fun s25 => rec x3 x4 (d_w (x5 + (-1))) (d_w (x6 + 1)) s25)))))
  else
  if z6 = 0 then
  F_X12_worked_j111 rec x3 x4 x5 x6 x5 z8 s
  else
  d_g (0 ≤ z8 ∧ z8 < 8) (F_X12_worked_j111 rec x3 x4 x5 x6 x5 (s.1 71 (z8.toNat)) s)))))
  else
  k273 s)
set_option maxRecDepth 100000 in
noncomputable def F_X12_worked_l37 (k273 : d_S → Option (Int × d_S)) : Nat → Int → Int → Int → Int → d_S → Option (Int × d_S)
  | 0 => fun _ _ _ _ _ => none
  | n + 1 => F_X12_worked_l37_b k273 (F_X12_worked_l37 k273 n)
set_option maxRecDepth 100000 in
theorem D_X12_worked_l37 {t : Nat → Option p_C} {k273 : d_S → Option (Int × d_S)} {r : Int × d_S} (hk273 : ∀ {ls : p_Ls} {s : d_S} {h : p_H}, k273 s = some r → d_V t h s → p_lk 0 ls = some (.ref 64) → p_wp p_GT p_MT 2 m_X12_worked 273 ls [] h (d_QJ t r)) : ∀ (n : Nat) {x3 : Int} {x4 : Int} {x5 : Int} {x6 : Int} {ls : p_Ls} {s : d_S} {h : p_H}, F_X12_worked_l37 k273 n x3 x4 x5 x6 s = some r → d_V t h s → p_lk 0 ls = some (.ref 64) → d_R x3 → p_lk 3 ls = some (.int (Int32.ofInt x3)) → d_R x4 → p_lk 4 ls = some (.int (Int32.ofInt x4)) → d_R x5 → p_lk 5 ls = some (.int (Int32.ofInt x5)) → d_R x6 → p_lk 6 ls = some (.int (Int32.ofInt x6)) → p_wp p_GT p_MT 2 m_X12_worked 37 ls [] h (d_QJ t r) := by
  intro n
  induction n with
  | zero =>
    intro x3 x4 x5 x6 ls s h hF hH l0 r_x3 l3 r_x4 l4 r_x5 l5 r_x6 l6
    cases (show (none : Option (Int × d_S)) = some r from hF)
  | succ n ih =>
    intro x3 x4 x5 x6 ls s h hF hH l0 r_x3 l3 r_x4 l4 r_x5 l5 r_x6 l6
    have hF : F_X12_worked_l37_b k273 (F_X12_worked_l37 k273 n) x3 x4 x5 x6 s = some r := hF
    unfold F_X12_worked_l37_b at hF
    refine dw_il rfl l6 (dw_aln rfl l0 (dw_gr rfl rfl rfl hH d_c64_2 (dw_iln rfl l3 (dw_ic rfl (dw_add rfl (dw_w1 (d_gd hF (fun g4 hF => dw_ald rfl hH d_a67 rfl g4.1 g4.2 d_R_w rfl (?_)))))))))
    refine d_if hF (fun q hF => ?_) (fun q hF => ?_)
    · refine dw_ge_y rfl (u := 273) rfl r_x6 hH.r q ?_
      refine dw_aln rfl l0 (dw_gr rfl rfl rfl hH d_c64_2 (dw_il rfl l4 (dw_ic rfl (dw_il rfl l6 (dw_mul rfl (dw_add rfl (dw_w1 (d_gd hF (fun g5 hF => dw_ald rfl hH d_a67 rfl g5.1 g5.2 d_R_w rfl (?_))))))))))
      refine dw_nm hF hH.r (fun z6 r_z6 hF => dw_is rfl rfl (dw_aln rfl (d_s1 l0 rfl (by decide)) (dw_gr rfl rfl rfl hH d_c64_2 (dw_il rfl (d_s1 l4 rfl (by decide)) (dw_ic rfl (dw_il rfl (d_s1 l6 rfl (by decide)) (dw_mul rfl (dw_add rfl (dw_ic rfl (?_))))))))))
      refine dw_add rfl (dw_w1 (d_gd hF (fun g7 hF => dw_ald rfl hH d_a67 rfl g7.1 g7.2 d_R_w rfl (dw_nm hF hH.r (fun z8 r_z8 hF => dw_is rfl rfl (dw_il rfl (d_s1 p_lk_s1 rfl (by decide)) (dw_ic rfl (?_))))))))
      refine d_if hF (fun q hF => ?_) (fun q hF => ?_)
      · refine dw_gt_y rfl (u := 118) rfl r_z6 (d_rl rfl) q ?_
        refine dw_il rfl (d_s1 p_lk_s1 rfl (by decide)) (dw_ic rfl (?_))
        refine d_if hF (fun q hF => ?_) (fun q hF => ?_)
        · refine dw_ne_y rfl (u := 206) rfl r_z6 (d_rl rfl) q ?_
          refine dw_il rfl (d_s1 (d_s1 l5 rfl (by decide)) rfl (by decide)) (dw_il rfl p_lk_s1 (dw_sub rfl (dw_w1 (dw_is rfl rfl (dw_aln rfl (d_s1 (d_s1 (d_s1 l0 rfl (by decide)) rfl (by decide)) rfl (by decide)) (dw_gr rfl rfl rfl hH d_c64_23 (dw_il rfl p_lk_s1 (dw_ic rfl (dw_sub rfl (?_))))))))))
          refine dw_w1 (d_gd hF (fun g9 hF => dw_lld rfl hH g9.1 g9.2 d_R_w rfl (dw_lc rfl (x := 1) rfl (?_))))
          refine d_if hF (fun q hF => ?_) (fun q hF => ?_)
          · refine dw_Lge_y rfl rfl (u := 149) rfl hH.rl (d_rll rfl) q ?_
            refine dw_ic rfl (dw_go rfl (u := 180) rfl (dw_is rfl rfl (dw_aln rfl (d_s1 (d_s1 (d_s1 (d_s1 l0 rfl (by decide)) rfl (by decide)) rfl (by decide)) rfl (by decide)) (dw_gr rfl rfl rfl hH d_c64_23 (dw_il rfl (d_s1 p_lk_s1 rfl (by decide)) (dw_ic rfl (dw_sub rfl (dw_aln rfl (d_s1 (d_s1 (d_s1 (d_s1 l0 rfl (by decide)) rfl (by decide)) rfl (by decide)) rfl (by decide)) (dw_gr rfl rfl rfl hH d_c64_23 (?_))))))))))
            refine dw_il rfl (d_s1 p_lk_s1 rfl (by decide)) (dw_ic rfl (dw_sub rfl (dw_il rfl p_lk_s1 (dw_add rfl (dw_w1 (d_gd hF (fun g10 hF => dw_lld rfl hH g10.1 g10.2 d_R_w rfl (dw_w2 (d_gd hF (fun g11 hF => ?_))))))))))
            refine dw_lst rfl hH g11.1 g11.2 d_R_w rfl hH.rl hF (fun s12 h12 hH12 hF => dw_go rfl (u := 267) rfl (dw_ii rfl (d_s1 (d_s1 (d_s1 (d_s1 l6 rfl (by decide)) rfl (by decide)) rfl (by decide)) rfl (by decide)) rfl (dw_go rfl (u := 37) rfl (?_))))
            exact ih hF hH12 (d_s1 (d_s1 (d_s1 (d_s1 (d_s1 l0 rfl (by decide)) rfl (by decide)) rfl (by decide)) rfl (by decide)) rfl (by decide)) r_x3 (d_s1 (d_s1 (d_s1 (d_s1 (d_s1 l3 rfl (by decide)) rfl (by decide)) rfl (by decide)) rfl (by decide)) rfl (by decide)) r_x4 (d_s1 (d_s1 (d_s1 (d_s1 (d_s1 l4 rfl (by decide)) rfl (by decide)) rfl (by decide)) rfl (by decide)) rfl (by decide)) d_R_w (d_s1 (d_s1 p_lk_s1 rfl (by decide)) rfl (by decide)) d_R_w p_lk_s1
          · refine dw_Lge_n rfl rfl (u := 149) rfl hH.rl (d_rll rfl) q ?_
            refine dw_aln rfl (d_s1 (d_s1 (d_s1 l0 rfl (by decide)) rfl (by decide)) rfl (by decide)) (dw_gr rfl rfl rfl hH d_c64_23 (dw_il rfl p_lk_s1 (dw_ic rfl (dw_sub rfl (dw_w1 (d_gd hF (fun g13 hF => dw_lld rfl hH g13.1 g13.2 d_R_w rfl (dw_il rfl (d_s1 p_lk_s1 rfl (by decide)) (dw_i2l rfl r_z8 (?_))))))))))
            refine d_if hF (fun q hF => ?_) (fun q hF => ?_)
            · refine dw_Lle_y rfl rfl (u := 170) rfl hH.rl (d_RL_R r_z8) q ?_
              refine dw_il rfl (d_s1 p_lk_s1 rfl (by decide)) (dw_go rfl (u := 180) rfl (?_))
              exact D_X12_worked_j180 hF hH (d_s1 (d_s1 (d_s1 l0 rfl (by decide)) rfl (by decide)) rfl (by decide)) r_x3 (d_s1 (d_s1 (d_s1 l3 rfl (by decide)) rfl (by decide)) rfl (by decide)) r_x4 (d_s1 (d_s1 (d_s1 l4 rfl (by decide)) rfl (by decide)) rfl (by decide)) d_R_w p_lk_s1 r_x6 (d_s1 (d_s1 (d_s1 l6 rfl (by decide)) rfl (by decide)) rfl (by decide)) r_z8 (fun {x3} {x4} {x5} {x6} {ls} {s} {h} hF hH l0 r_x3 l3 r_x4 l4 r_x5 l5 r_x6 l6 => ih hF hH l0 r_x3 l3 r_x4 l4 r_x5 l5 r_x6 l6)
            · refine dw_Lle_n rfl rfl (u := 170) rfl hH.rl (d_RL_R r_z8) q ?_
              refine dw_aln rfl (d_s1 (d_s1 (d_s1 l0 rfl (by decide)) rfl (by decide)) rfl (by decide)) (dw_gr rfl rfl rfl hH d_c64_23 (dw_il rfl p_lk_s1 (dw_ic rfl (dw_sub rfl (dw_w1 (d_gd hF (fun g17 hF => dw_lld rfl hH g17.1 g17.2 d_R_w rfl (dw_l2i rfl (dw_w1 (?_))))))))))
              exact D_X12_worked_j180 hF hH (d_s1 (d_s1 (d_s1 l0 rfl (by decide)) rfl (by decide)) rfl (by decide)) r_x3 (d_s1 (d_s1 (d_s1 l3 rfl (by decide)) rfl (by decide)) rfl (by decide)) r_x4 (d_s1 (d_s1 (d_s1 l4 rfl (by decide)) rfl (by decide)) rfl (by decide)) d_R_w p_lk_s1 r_x6 (d_s1 (d_s1 (d_s1 l6 rfl (by decide)) rfl (by decide)) rfl (by decide)) d_R_w (fun {x3} {x4} {x5} {x6} {ls} {s} {h} hF hH l0 r_x3 l3 r_x4 l4 r_x5 l5 r_x6 l6 => ih hF hH l0 r_x3 l3 r_x4 l4 r_x5 l5 r_x6 l6)
        · refine dw_ne_n rfl (u := 206) rfl r_z6 (d_rl rfl) q ?_
          refine dw_il rfl (d_s1 p_lk_s1 rfl (by decide)) (dw_ic rfl (?_))
          refine d_if hF (fun q hF => ?_) (fun q hF => ?_)
          · refine dw_ne_y rfl (u := 234) rfl r_z6 (d_rl rfl) q ?_
            refine dw_aln rfl (d_s1 (d_s1 l0 rfl (by decide)) rfl (by decide)) (dw_gr rfl rfl rfl hH d_c64_23 (dw_il rfl (d_s1 (d_s1 l5 rfl (by decide)) rfl (by decide)) (dw_ic rfl (dw_sub rfl (dw_aln rfl (d_s1 (d_s1 l0 rfl (by decide)) rfl (by decide)) (dw_gr rfl rfl rfl hH d_c64_23 (dw_il rfl (d_s1 (d_s1 l5 rfl (by decide)) rfl (by decide)) (dw_ic rfl (dw_sub rfl (?_))))))))))
            refine dw_w1 (d_gd hF (fun g18 hF => dw_lld rfl hH g18.1 g18.2 d_R_w rfl (dw_negL rfl (dw_wL1 (dw_w2 (d_gd hF (fun g19 hF => dw_lst rfl hH g19.1 g19.2 d_R_w rfl d_RL_W hF (fun s20 h20 hH20 hF => dw_go rfl (u := 267) rfl (dw_ii rfl (d_s1 (d_s1 l6 rfl (by decide)) rfl (by decide)) rfl (?_))))))))))
            refine dw_go rfl (u := 37) rfl (?_)
            exact ih hF hH20 (d_s1 (d_s1 (d_s1 l0 rfl (by decide)) rfl (by decide)) rfl (by decide)) r_x3 (d_s1 (d_s1 (d_s1 l3 rfl (by decide)) rfl (by decide)) rfl (by decide)) r_x4 (d_s1 (d_s1 (d_s1 l4 rfl (by decide)) rfl (by decide)) rfl (by decide)) r_x5 (d_s1 (d_s1 (d_s1 l5 rfl (by decide)) rfl (by decide)) rfl (by decide)) d_R_w p_lk_s1
          · refine dw_ne_n rfl (u := 234) rfl r_z6 (d_rl rfl) q ?_
            refine dw_ii rfl (d_s1 (d_s1 l5 rfl (by decide)) rfl (by decide)) rfl (dw_aln rfl (d_s1 (d_s1 (d_s1 l0 rfl (by decide)) rfl (by decide)) rfl (by decide)) (dw_gr rfl rfl rfl hH d_c64_23 (dw_il rfl p_lk_s1 (dw_ic rfl (dw_sub rfl (dw_il rfl (d_s1 (d_s1 p_lk_s1 rfl (by decide)) rfl (by decide)) (dw_aln rfl (d_s1 (d_s1 (d_s1 l0 rfl (by decide)) rfl (by decide)) rfl (by decide)) (dw_gr rfl rfl rfl hH d_c64_23 (dw_il rfl p_lk_s1 (?_))))))))))
            refine dw_ic rfl (dw_sub rfl (dw_w1 (d_gd hF (fun g21 hF => dw_lld rfl hH g21.1 g21.2 d_R_w rfl (dw_aln rfl (d_s1 (d_s1 (d_s1 l0 rfl (by decide)) rfl (by decide)) rfl (by decide)) (dw_gr rfl rfl rfl hH d_c64_23 (dw_il rfl p_lk_s1 (d_gd hF (fun g22 hF => dw_lld rfl hH g22.1 g22.2 d_R_w rfl (?_))))))))))
            refine dw_sL hF rfl rfl rfl rfl rfl (dc := 1) (fun _ e => D_X12_two e r_z6 hH.rl hH.rl) (fun v23 r_v23 hF => dw_w2 (d_gd hF (fun g24 hF => dw_lst rfl hH g24.1 g24.2 d_R_w rfl r_v23 hF (fun s25 h25 hH25 hF => dw_ii rfl (d_s1 (d_s1 (d_s1 l6 rfl (by decide)) rfl (by decide)) rfl (by decide)) rfl (dw_go rfl (u := 37) rfl (?_))))))
            exact ih hF hH25 (d_s1 (d_s1 (d_s1 (d_s1 l0 rfl (by decide)) rfl (by decide)) rfl (by decide)) rfl (by decide)) r_x3 (d_s1 (d_s1 (d_s1 (d_s1 l3 rfl (by decide)) rfl (by decide)) rfl (by decide)) rfl (by decide)) r_x4 (d_s1 (d_s1 (d_s1 (d_s1 l4 rfl (by decide)) rfl (by decide)) rfl (by decide)) rfl (by decide)) d_R_w (d_s1 p_lk_s1 rfl (by decide)) d_R_w p_lk_s1
      · refine dw_gt_n rfl (u := 118) rfl r_z6 (d_rl rfl) q ?_
        refine dw_aln rfl (d_s1 (d_s1 l0 rfl (by decide)) rfl (by decide)) (dw_gr rfl rfl rfl hH d_c64_23 (dw_il rfl (d_s1 (d_s1 l5 rfl (by decide)) rfl (by decide)) (dw_il rfl (d_s1 p_lk_s1 rfl (by decide)) (?_))))
        refine d_if hF (fun q hF => ?_) (fun q hF => ?_)
        · refine dw_zne_y rfl (u := 103) rfl r_z6 q ?_
          refine dw_il rfl p_lk_s1 (dw_i2l rfl r_z8 (dw_go rfl (u := 111) rfl (?_)))
          exact D_X12_worked_j111 hF hH (d_s1 (d_s1 l0 rfl (by decide)) rfl (by decide)) r_x3 (d_s1 (d_s1 l3 rfl (by decide)) rfl (by decide)) r_x4 (d_s1 (d_s1 l4 rfl (by decide)) rfl (by decide)) r_x5 (d_s1 (d_s1 l5 rfl (by decide)) rfl (by decide)) r_x6 (d_s1 (d_s1 l6 rfl (by decide)) rfl (by decide)) r_x5 (d_RL_R r_z8) (fun {x3} {x4} {x5} {x6} {ls} {s} {h} hF hH l0 r_x3 l3 r_x4 l4 r_x5 l5 r_x6 l6 => ih hF hH l0 r_x3 l3 r_x4 l4 r_x5 l5 r_x6 l6)
        · refine dw_zne_n rfl (u := 103) rfl r_z6 q ?_
          refine dw_aln rfl (d_s1 (d_s1 l0 rfl (by decide)) rfl (by decide)) (dw_gr rfl rfl rfl hH d_c64_22 (dw_il rfl p_lk_s1 (d_gd hF (fun g28 hF => dw_ald rfl hH d_a71 rfl g28.1 g28.2 r_z8 rfl (dw_i2l rfl hH.r (?_))))))
          exact D_X12_worked_j111 hF hH (d_s1 (d_s1 l0 rfl (by decide)) rfl (by decide)) r_x3 (d_s1 (d_s1 l3 rfl (by decide)) rfl (by decide)) r_x4 (d_s1 (d_s1 l4 rfl (by decide)) rfl (by decide)) r_x5 (d_s1 (d_s1 l5 rfl (by decide)) rfl (by decide)) r_x6 (d_s1 (d_s1 l6 rfl (by decide)) rfl (by decide)) r_x5 (d_RL_R hH.r) (fun {x3} {x4} {x5} {x6} {ls} {s} {h} hF hH l0 r_x3 l3 r_x4 l4 r_x5 l5 r_x6 l6 => ih hF hH l0 r_x3 l3 r_x4 l4 r_x5 l5 r_x6 l6)
    · refine dw_ge_n rfl (u := 273) rfl r_x6 hH.r q ?_
      exact hk273 hF hH l0
set_option maxRecDepth 100000 in
noncomputable def F_X12_worked (s : d_S) (x1 : Int) (x2 : Int) : Option (Int × d_S) :=
  d_l (d_w (((777 * x1) + 1) + (7 * x2))) (fun z1 => d_g (0 ≤ (d_w (z1 + 1)) ∧ (d_w (z1 + 1)) < 3108) (d_l (s.1 67 (((d_w (z1 + 1))).toNat)) (fun z3 => F_X12_worked_l37 (fun s_u29 =>
  some ((s_u29.2.2 0), s_u29)) d_N z1 (d_w ((777 * x1) + 169)) 0 z3 s)))
set_option maxRecDepth 100000 in
theorem D_X12_worked {t : Nat → Option p_C} {h : p_H} {s : d_S} {x1 : Int} {x2 : Int} {r : Int × d_S} (hF : F_X12_worked s x1 x2 = some r) (hH : d_V t h s) (r_x1 : d_R x1) (r_x2 : d_R x2) : p_wp p_GT p_MT 2 m_X12_worked 0 (lv_args 0 [.ref 64, .int (Int32.ofInt x1), .int (Int32.ofInt x2)]) [] h (d_QJ t r) := by
  unfold F_X12_worked at hF
  refine dw_sp rfl rfl (dw_iln rfl rfl (dw_mul rfl (dw_ic rfl (dw_add rfl (dw_bp rfl rfl (dw_iln rfl rfl (dw_mul rfl (dw_add rfl (dw_w1 (?_))))))))))
  refine dw_nm hF d_R_w (fun z1 r_z1 hF => dw_isn rfl rfl (dw_sp rfl rfl (dw_iln rfl (d_s1 rfl rfl (by decide)) (dw_mul rfl (dw_sp rfl rfl (dw_add rfl (dw_w1 (dw_is rfl rfl (dw_ic rfl (?_))))))))))
  refine dw_is rfl rfl (dw_aln rfl (d_s1 (d_s1 (d_s1 rfl rfl (by decide)) rfl (by decide)) rfl (by decide)) (dw_gr rfl rfl rfl hH d_c64_2 (dw_iln rfl (d_s1 (d_s1 p_lk_s1 rfl (by decide)) rfl (by decide)) (dw_ic rfl (dw_add rfl (dw_w1 (d_gd hF (fun g2 hF => dw_ald rfl hH d_a67 rfl g2.1 g2.2 d_R_w rfl (dw_nm hF hH.r (fun z3 r_z3 hF => ?_))))))))))
  refine dw_is rfl rfl (?_)
  refine D_X12_worked_l37 (fun {ls_u29} {s_u29} {h_u29} hF hH_u29 l0_u29 => ?_) _ hF hH (d_s1 (d_s1 (d_s1 (d_s1 rfl rfl (by decide)) rfl (by decide)) rfl (by decide)) rfl (by decide)) r_z1 (d_s1 (d_s1 (d_s1 p_lk_s1 rfl (by decide)) rfl (by decide)) rfl (by decide)) d_R_w (d_s1 (d_s1 p_lk_s1 rfl (by decide)) rfl (by decide)) (d_rl rfl) (d_s1 p_lk_s1 rfl (by decide)) r_z3 p_lk_s1
  · exact dw_aln rfl l0_u29 (dw_gr rfl rfl rfl hH_u29 d_c64_23 (dw_ic rfl (dw_lld rfl hH_u29 (by decide) (by decide) (d_rl rfl) (k := 0) rfl (dw_rJ rfl rfl hH_u29.rl hH_u29 hF))))
set_option maxRecDepth 100000 in
noncomputable def F_X12_says_l3_b (k63 : Int → Int → d_S → Option (Int × d_S)) (k44 : Int → Int → Int → d_S → Option (Int × d_S)) (rec : Int → Int → Int → Int → Int → d_S → Option (Int × d_S)) (x1 : Int) (x2 : Int) (x3 : Int) (x5 : Int) (x6 : Int) (s : d_S) : Option (Int × d_S) :=
  if x1 < 0 then
  k63 x3 x5 s
  else
  d_g (0 ≤ (d_w (777 * x1)) ∧ (d_w (777 * x1)) < 3108) (if x6 < (s.1 67 (((d_w (777 * x1))).toNat)) then
  d_g (0 ≤ (d_w (((777 * x1) + 1) + (7 * x6))) ∧ (d_w (((777 * x1) + 1) + (7 * x6))) < 3108) (if (s.1 67 (((d_w (((777 * x1) + 1) + (7 * x6)))).toNat)) = x2 then
  k44 x1 x5 x6 s
  else
  rec x1 x2 x3 x5 (d_w (x6 + 1)) s)
  else
  k63 x3 x5 s)
set_option maxRecDepth 100000 in
noncomputable def F_X12_says_l3 (k63 : Int → Int → d_S → Option (Int × d_S)) (k44 : Int → Int → Int → d_S → Option (Int × d_S)) : Nat → Int → Int → Int → Int → Int → d_S → Option (Int × d_S)
  | 0 => fun _ _ _ _ _ _ => none
  | n + 1 => F_X12_says_l3_b k63 k44 (F_X12_says_l3 k63 k44 n)
set_option maxRecDepth 100000 in
theorem D_X12_says_l3 {t : Nat → Option p_C} {k63 : Int → Int → d_S → Option (Int × d_S)} {k44 : Int → Int → Int → d_S → Option (Int × d_S)} {r : Int × d_S} (hk63 : ∀ {x3 : Int} {x5 : Int} {ls : p_Ls} {s : d_S} {h : p_H}, k63 x3 x5 s = some r → d_V t h s → d_RL x3 → p_lk 3 ls = some (.long (Int64.ofInt x3)) → d_R x5 → p_lk 5 ls = some (.int (Int32.ofInt x5)) → p_wp p_GT p_MT 3 m_X12_says 63 ls [] h (d_QI t r)) (hk44 : ∀ {x1 : Int} {x5 : Int} {x6 : Int} {ls : p_Ls} {s : d_S} {h : p_H}, k44 x1 x5 x6 s = some r → d_V t h s → p_lk 0 ls = some (.ref 64) → d_R x1 → p_lk 1 ls = some (.int (Int32.ofInt x1)) → d_R x5 → p_lk 5 ls = some (.int (Int32.ofInt x5)) → d_R x6 → p_lk 6 ls = some (.int (Int32.ofInt x6)) → p_wp p_GT p_MT 3 m_X12_says 44 ls [] h (d_QI t r)) : ∀ (n : Nat) {x1 : Int} {x2 : Int} {x3 : Int} {x5 : Int} {x6 : Int} {ls : p_Ls} {s : d_S} {h : p_H}, F_X12_says_l3 k63 k44 n x1 x2 x3 x5 x6 s = some r → d_V t h s → p_lk 0 ls = some (.ref 64) → d_R x1 → p_lk 1 ls = some (.int (Int32.ofInt x1)) → d_R x2 → p_lk 2 ls = some (.int (Int32.ofInt x2)) → d_RL x3 → p_lk 3 ls = some (.long (Int64.ofInt x3)) → d_R x5 → p_lk 5 ls = some (.int (Int32.ofInt x5)) → d_R x6 → p_lk 6 ls = some (.int (Int32.ofInt x6)) → p_wp p_GT p_MT 3 m_X12_says 3 ls [] h (d_QI t r) := by
  intro n
  induction n with
  | zero =>
    intro x1 x2 x3 x5 x6 ls s h hF hH l0 r_x1 l1 r_x2 l2 r_x3 l3 r_x5 l5 r_x6 l6
    cases (show (none : Option (Int × d_S)) = some r from hF)
  | succ n ih =>
    intro x1 x2 x3 x5 x6 ls s h hF hH l0 r_x1 l1 r_x2 l2 r_x3 l3 r_x5 l5 r_x6 l6
    have hF : F_X12_says_l3_b k63 k44 (F_X12_says_l3 k63 k44 n) x1 x2 x3 x5 x6 s = some r := hF
    unfold F_X12_says_l3_b at hF
    refine dw_iln rfl l1 (?_)
    refine d_if hF (fun q hF => ?_) (fun q hF => ?_)
    · refine dw_zlt_y rfl (u := 63) rfl r_x1 q ?_
      exact hk63 hF hH r_x3 l3 r_x5 l5
    · refine dw_zlt_n rfl (u := 63) rfl r_x1 q ?_
      refine dw_il rfl l6 (dw_aln rfl l0 (dw_gr rfl rfl rfl hH d_c64_2 (dw_sp rfl rfl (dw_iln rfl l1 (dw_mul rfl (dw_w1 (d_gd hF (fun g1 hF => dw_ald rfl hH d_a67 rfl g1.1 g1.2 d_R_w rfl (?_)))))))))
      refine d_if hF (fun q hF => ?_) (fun q hF => ?_)
      · refine dw_ge_y rfl (u := 63) rfl r_x6 hH.r q ?_
        refine dw_aln rfl l0 (dw_gr rfl rfl rfl hH d_c64_2 (dw_sp rfl rfl (dw_iln rfl l1 (dw_mul rfl (dw_ic rfl (dw_add rfl (dw_bp rfl rfl (dw_il rfl l6 (dw_mul rfl (?_))))))))))
        refine dw_add rfl (dw_w1 (d_gd hF (fun g2 hF => dw_ald rfl hH d_a67 rfl g2.1 g2.2 d_R_w rfl (dw_iln rfl l2 (?_)))))
        refine d_if hF (fun q hF => ?_) (fun q hF => ?_)
        · refine dw_ne_y rfl (u := 57) rfl hH.r r_x2 q ?_
          exact hk44 hF hH l0 r_x1 l1 r_x5 l5 r_x6 l6
        · refine dw_ne_n rfl (u := 57) rfl hH.r r_x2 q ?_
          refine dw_ii rfl l6 rfl (dw_go rfl (u := 3) rfl (?_))
          exact ih hF hH (d_s1 l0 rfl (by decide)) r_x1 (d_s1 l1 rfl (by decide)) r_x2 (d_s1 l2 rfl (by decide)) r_x3 (d_s1l l3 (by decide) (by decide)) r_x5 (d_s1 l5 rfl (by decide)) d_R_w p_lk_s1
      · refine dw_ge_n rfl (u := 63) rfl r_x6 hH.r q ?_
        exact hk63 hF hH r_x3 l3 r_x5 l5
set_option maxRecDepth 100000 in
noncomputable def F_X12_says (s : d_S) (x1 : Int) (x2 : Int) (x3 : Int) (x5 : Int) : Option (Int × d_S) :=
  F_X12_says_l3 (fun x3_u3 x5_u3 s_u3 =>
  d_b (F_X12_cut x3_u3 x5_u3) (fun v4 => some (v4, s_u3))) (fun x1_u5 x5_u5 x6_u5 s_u5 =>
  d_b2 (F_X12_worked s_u5 x1_u5 x6_u5) (fun v6 s7 => d_b (F_X12_cut v6 x5_u5) (fun v8 => some (v8, s7)))) d_N x1 x2 x3 x5 0 s
set_option maxRecDepth 100000 in
theorem D_X12_says {t : Nat → Option p_C} {h : p_H} {s : d_S} {x1 : Int} {x2 : Int} {x3 : Int} {x5 : Int} {r : Int × d_S} (hF : F_X12_says s x1 x2 x3 x5 = some r) (hH : d_V t h s) (r_x1 : d_R x1) (r_x2 : d_R x2) (r_x3 : d_RL x3) (r_x5 : d_R x5) : p_wp p_GT p_MT 3 m_X12_says 0 (lv_args 0 [.ref 64, .int (Int32.ofInt x1), .int (Int32.ofInt x2), .long (Int64.ofInt x3), .int (Int32.ofInt x5)]) [] h (d_QI t r) := by
  unfold F_X12_says at hF
  refine dw_ic rfl (dw_is rfl rfl (?_))
  refine D_X12_says_l3 (fun {x3_u3} {x5_u3} {ls_u3} {s_u3} {h_u3} hF hH_u3 r_x3_u3 l3_u3 r_x5_u3 l5_u3 => ?_) (fun {x1_u5} {x5_u5} {x6_u5} {ls_u5} {s_u5} {h_u5} hF hH_u5 l0_u5 r_x1_u5 l1_u5 r_x5_u5 l5_u5 r_x6_u5 l6_u5 => ?_) _ hF hH (d_s1 rfl rfl (by decide)) r_x1 (d_s1 rfl rfl (by decide)) r_x2 (d_s1 rfl rfl (by decide)) r_x3 (d_s1l rfl (by decide) (by decide)) r_x5 (d_s1 rfl rfl (by decide)) (d_rl rfl) p_lk_s1
  · exact dw_lln rfl l3_u3 (dw_il rfl l5_u3 (dw_sP hF rfl rfl rfl rfl rfl (dc := 0) (fun _ e => D_X12_cut e r_x3_u3 r_x5_u3) (fun v4 r_v4 hF => dw_rI rfl rfl r_v4 hH_u3 hF)))
  · exact dw_aln rfl l0_u5 (dw_iln rfl l1_u5 (dw_il rfl l6_u5 (dw_vJ hF rfl (d_vir (n := 3) rfl rfl rfl rfl rfl hH_u5 d_c64_0 rfl) rfl rfl rfl (dc := 2) (fun _ _ e => D_X12_worked e hH_u5 r_x1_u5 r_x6_u5) (fun v6 s7 h7 hH7 r_v6 hF => dw_il rfl l5_u5 (dw_sP hF rfl rfl rfl rfl rfl (dc := 0) (fun _ e => D_X12_cut e r_v6 r_x5_u5) (fun v8 r_v8 hF => dw_rI rfl rfl r_v8 hH7 hF))))))
set_option maxRecDepth 100000 in
noncomputable def F_X12_meltsBy (s : d_S) (x1 : Int) (x2 : Int) (x3 : Int) (x4 : Int) (x5 : Int) (x6 : Int) : Option (Int × d_S) :=
  d_b (F_X12_name s x2 x3 x4 x5 x6) (fun s1 => d_b2 (F_X12_says s1 x1 0 (d_w ((x4 + (s1.1 71 5)) - x5)) 100) (fun v2 s3 => some (v2, s3)))
set_option maxRecDepth 100000 in
theorem D_X12_meltsBy {t : Nat → Option p_C} {h : p_H} {s : d_S} {x1 : Int} {x2 : Int} {x3 : Int} {x4 : Int} {x5 : Int} {x6 : Int} {r : Int × d_S} (hF : F_X12_meltsBy s x1 x2 x3 x4 x5 x6 = some r) (hH : d_V t h s) (r_x1 : d_R x1) (r_x2 : d_R x2) (r_x3 : d_R x3) (r_x4 : d_R x4) (r_x5 : d_R x5) (r_x6 : d_R x6) : p_wp p_GT p_MT 6 m_X12_meltsBy 0 (lv_args 0 [.ref 64, .int (Int32.ofInt x1), .int (Int32.ofInt x2), .int (Int32.ofInt x3), .int (Int32.ofInt x4), .int (Int32.ofInt x5), .int (Int32.ofInt x6)]) [] h (d_QI t r) := by
  unfold F_X12_meltsBy at hF
  refine dw_aln rfl rfl (dw_iln rfl rfl (dw_iln rfl rfl (dw_il rfl rfl (dw_il rfl rfl (dw_il rfl rfl (dw_vV hF rfl (d_vir (n := 6) rfl rfl rfl rfl rfl hH d_c64_0 rfl) rfl rfl rfl (dc := 5) (fun _ e => D_X12_name e hH r_x2 r_x3 r_x4 r_x5 r_x6) (fun s1 h1 hH1 hF => dw_aln rfl rfl (dw_iln rfl rfl (dw_ic rfl (?_))))))))))
  refine dw_il rfl rfl (dw_aln rfl rfl (dw_gr rfl rfl rfl hH1 d_c64_22 (dw_ic rfl (dw_ald rfl hH1 d_a71 rfl (by decide) (by decide) (d_rl rfl) (k := 5) rfl (dw_add rfl (dw_il rfl rfl (dw_sub rfl (dw_w1 (dw_i2l rfl d_R_w (?_))))))))))
  exact dw_bp rfl rfl (dw_vI hF rfl (d_vir (n := 5) rfl rfl rfl rfl rfl hH1 d_c64_0 rfl) rfl rfl rfl (dc := 3) (fun _ _ e => D_X12_says e hH1 r_x1 (d_rl rfl) (d_RL_R d_R_w) (d_rl rfl)) (fun v2 s3 h3 hH3 r_v2 hF => dw_rI rfl rfl r_v2 hH3 hF))
set_option maxRecDepth 100000 in
noncomputable def F_X12_rotsBy (s : d_S) (x1 : Int) (x2 : Int) (x3 : Int) (x4 : Int) (x5 : Int) : Option (Int × d_S) :=
  d_b (F_X12_name s x1 x2 x3 x4 x5) (fun s1 => d_b2 (F_X12_says s1 (s1.1 65 2) 2 0 9) (fun v2 s3 => some (v2, s3)))
set_option maxRecDepth 100000 in
theorem D_X12_rotsBy {t : Nat → Option p_C} {h : p_H} {s : d_S} {x1 : Int} {x2 : Int} {x3 : Int} {x4 : Int} {x5 : Int} {r : Int × d_S} (hF : F_X12_rotsBy s x1 x2 x3 x4 x5 = some r) (hH : d_V t h s) (r_x1 : d_R x1) (r_x2 : d_R x2) (r_x3 : d_R x3) (r_x4 : d_R x4) (r_x5 : d_R x5) : p_wp p_GT p_MT 6 m_X12_rotsBy 0 (lv_args 0 [.ref 64, .int (Int32.ofInt x1), .int (Int32.ofInt x2), .int (Int32.ofInt x3), .int (Int32.ofInt x4), .int (Int32.ofInt x5)]) [] h (d_QI t r) := by
  unfold F_X12_rotsBy at hF
  refine dw_aln rfl rfl (dw_iln rfl rfl (dw_iln rfl rfl (dw_iln rfl rfl (dw_il rfl rfl (dw_il rfl rfl (dw_vV hF rfl (d_vir (n := 6) rfl rfl rfl rfl rfl hH d_c64_0 rfl) rfl rfl rfl (dc := 5) (fun _ e => D_X12_name e hH r_x1 r_x2 r_x3 r_x4 r_x5) (fun s1 h1 hH1 hF => dw_aln rfl rfl (dw_aln rfl rfl (dw_gr rfl rfl rfl hH1 d_c64_0 (?_))))))))))
  exact dw_ic rfl (dw_ald rfl hH1 d_a65 rfl (by decide) (by decide) (d_rl rfl) (k := 2) rfl (dw_ic rfl (dw_lc rfl (x := 0) rfl (dw_bp rfl rfl (dw_vI hF rfl (d_vir (n := 5) rfl rfl rfl rfl rfl hH1 d_c64_0 rfl) rfl rfl rfl (dc := 3) (fun _ _ e => D_X12_says e hH1 hH1.r (d_rl rfl) (d_rll rfl) (d_rl rfl)) (fun v2 s3 h3 hH3 r_v2 hF => dw_rI rfl rfl r_v2 hH3 hF))))))
set_option maxRecDepth 100000 in
noncomputable def F_X12_meltsOf (s : d_S) (x1 : Int) : Option (Int × d_S) :=
  d_b (F_X12_get s x1 0) (fun v1 => d_b (F_X12_get s x1 1) (fun v2 => d_b2 (F_X12_meltsBy s (s.1 65 2) x1 (s.1 65 9) (s.1 65 10) v1 v2) (fun v3 s4 => some (v3, s4))))
set_option maxRecDepth 100000 in
theorem D_X12_meltsOf {t : Nat → Option p_C} {h : p_H} {s : d_S} {x1 : Int} {r : Int × d_S} (hF : F_X12_meltsOf s x1 = some r) (hH : d_V t h s) (r_x1 : d_R x1) : p_wp p_GT p_MT 7 m_X12_meltsOf 0 (lv_args 0 [.ref 64, .int (Int32.ofInt x1)]) [] h (d_QI t r) := by
  unfold F_X12_meltsOf at hF
  refine dw_aln rfl rfl (dw_aln rfl rfl (dw_gr rfl rfl rfl hH d_c64_0 (dw_ic rfl (dw_ald rfl hH d_a65 rfl (by decide) (by decide) (d_rl rfl) (k := 2) rfl (dw_iln rfl rfl (dw_aln rfl rfl (dw_gr rfl rfl rfl hH d_c64_0 (dw_bp rfl rfl (dw_ald rfl hH d_a65 rfl (by decide) (by decide) (d_rl rfl) (k := 9) rfl (?_))))))))))
  refine dw_aln rfl rfl (dw_gr rfl rfl rfl hH d_c64_0 (dw_bp rfl rfl (dw_ald rfl hH d_a65 rfl (by decide) (by decide) (d_rl rfl) (k := 10) rfl (dw_aln rfl rfl (dw_iln rfl rfl (dw_ic rfl (dw_vP hF rfl (d_vir (n := 3) rfl rfl rfl rfl rfl hH d_c64_0 rfl) rfl rfl rfl (dc := 0) (fun _ e => D_X12_get e hH r_x1 (d_rl rfl)) (fun v1 r_v1 hF => dw_aln rfl rfl (dw_iln rfl rfl (?_))))))))))
  exact dw_ic rfl (dw_vP hF rfl (d_vir (n := 3) rfl rfl rfl rfl rfl hH d_c64_0 rfl) rfl rfl rfl (dc := 0) (fun _ e => D_X12_get e hH r_x1 (d_rl rfl)) (fun v2 r_v2 hF => dw_vI hF rfl (d_vir (n := 7) rfl rfl rfl rfl rfl hH d_c64_0 rfl) rfl rfl rfl (dc := 6) (fun _ _ e => D_X12_meltsBy e hH hH.r r_x1 hH.r hH.r r_v1 r_v2) (fun v3 s4 h4 hH4 r_v3 hF => dw_rI rfl rfl r_v3 hH4 hF)))
set_option maxRecDepth 100000 in
noncomputable def F_X12_sellsOf (s : d_S) (x1 : Int) : Option (Int × d_S) :=
  d_b (F_X12_get s x1 0) (fun v1 => d_b (F_X12_get s x1 1) (fun v2 => d_b (F_X12_name s x1 (s.1 65 9) (s.1 65 10) v1 v2) (fun s3 => d_b (F_X12_sightsIn s3 x1) (fun v4 => d_b (F_X12_bits v4) (fun v5 => d_l (d_si s3 71 (6) v5) (fun s6 => d_b (F_X12_kindsIn s6 x1) (fun v7 => d_l (d_si s6 71 (7) v7) (fun s8 => d_b (F_X12_get s8 x1 1) (fun v9 => d_b2 (F_X12_says s8 (s8.1 65 2) 1 (d_div ((s8.1 71 2) * (100 - v9)) 10) 9999) (fun v10 s11 => some (v10, s11)))))))))))
set_option maxRecDepth 100000 in
theorem D_X12_sellsOf {t : Nat → Option p_C} {h : p_H} {s : d_S} {x1 : Int} {r : Int × d_S} (hF : F_X12_sellsOf s x1 = some r) (hH : d_V t h s) (r_x1 : d_R x1) : p_wp p_GT p_MT 6 m_X12_sellsOf 0 (lv_args 0 [.ref 64, .int (Int32.ofInt x1)]) [] h (d_QI t r) := by
  unfold F_X12_sellsOf at hF
  refine dw_aln rfl rfl (dw_iln rfl rfl (dw_aln rfl rfl (dw_gr rfl rfl rfl hH d_c64_0 (dw_bp rfl rfl (dw_ald rfl hH d_a65 rfl (by decide) (by decide) (d_rl rfl) (k := 9) rfl (dw_aln rfl rfl (dw_gr rfl rfl rfl hH d_c64_0 (dw_bp rfl rfl (dw_ald rfl hH d_a65 rfl (by decide) (by decide) (d_rl rfl) (k := 10) rfl (?_))))))))))
  refine dw_aln rfl rfl (dw_iln rfl rfl (dw_ic rfl (dw_vP hF rfl (d_vir (n := 3) rfl rfl rfl rfl rfl hH d_c64_0 rfl) rfl rfl rfl (dc := 0) (fun _ e => D_X12_get e hH r_x1 (d_rl rfl)) (fun v1 r_v1 hF => dw_aln rfl rfl (dw_iln rfl rfl (dw_ic rfl (dw_vP hF rfl (d_vir (n := 3) rfl rfl rfl rfl rfl hH d_c64_0 rfl) rfl rfl rfl (dc := 0) (fun _ e => D_X12_get e hH r_x1 (d_rl rfl)) (fun v2 r_v2 hF => dw_vV hF rfl (d_vir (n := 6) rfl rfl rfl rfl rfl hH d_c64_0 rfl) rfl rfl rfl (dc := 5) (fun _ e => D_X12_name e hH r_x1 hH.r hH.r r_v1 r_v2) (fun s3 h3 hH3 hF => dw_aln rfl rfl (?_))))))))))
  refine dw_gr rfl rfl rfl hH3 d_c64_22 (dw_bp rfl rfl (dw_aln rfl rfl (dw_iln rfl rfl (dw_vP hF rfl (d_vir (n := 2) rfl rfl rfl rfl rfl hH3 d_c64_0 rfl) rfl rfl rfl (dc := 5) (fun _ e => D_X12_sightsIn e hH3 r_x1) (fun v4 r_v4 hF => dw_sP hF rfl rfl rfl rfl rfl (dc := 0) (fun _ e => D_X12_bits e r_v4) (fun v5 r_v5 hF => dw_ast rfl hH3 d_a71 (by decide) (by decide) (d_rl rfl) (k := 6) rfl r_v5 hF (fun s6 h6 hH6 hF => dw_aln rfl rfl (dw_gr rfl rfl rfl hH6 d_c64_22 (dw_bp rfl rfl (?_))))))))))
  refine dw_aln rfl rfl (dw_iln rfl rfl (dw_vP hF rfl (d_vir (n := 2) rfl rfl rfl rfl rfl hH6 d_c64_0 rfl) rfl rfl rfl (dc := 5) (fun _ e => D_X12_kindsIn e hH6 r_x1) (fun v7 r_v7 hF => dw_ast rfl hH6 d_a71 (by decide) (by decide) (d_rl rfl) (k := 7) rfl r_v7 hF (fun s8 h8 hH8 hF => dw_aln rfl rfl (dw_aln rfl rfl (dw_gr rfl rfl rfl hH8 d_c64_0 (dw_ic rfl (dw_ald rfl hH8 d_a65 rfl (by decide) (by decide) (d_rl rfl) (k := 2) rfl (dw_ic rfl (?_))))))))))
  refine dw_aln rfl rfl (dw_gr rfl rfl rfl hH8 d_c64_22 (dw_ic rfl (dw_ald rfl hH8 d_a71 rfl (by decide) (by decide) (d_rl rfl) (k := 2) rfl (dw_bp rfl rfl (dw_aln rfl rfl (dw_iln rfl rfl (dw_ic rfl (dw_vP hF rfl (d_vir (n := 3) rfl rfl rfl rfl rfl hH8 d_c64_0 rfl) rfl rfl rfl (dc := 0) (fun _ e => D_X12_get e hH8 r_x1 (d_rl rfl)) (fun v9 r_v9 hF => dw_sub rfl (?_))))))))))
  exact dw_mul rfl (dw_bp rfl rfl (dw_div rfl (d_rl rfl) (by decide) (dw_i2l rfl d_R_t (dw_sp rfl rfl (dw_vI hF rfl (d_vir (n := 5) rfl rfl rfl rfl rfl hH8 d_c64_0 rfl) rfl rfl rfl (dc := 3) (fun _ _ e => D_X12_says e hH8 hH8.r (d_rl rfl) (d_RL_R d_R_t) (d_rl rfl)) (fun v10 s11 h11 hH11 r_v10 hF => dw_rI rfl rfl r_v10 hH11 hF))))))
set_option maxRecDepth 100000 in
noncomputable def F_X12_pass_l2_b (k48 : d_S → Option (d_S)) (rec : Int → d_S → Option (d_S)) (x1 : Int) (s : d_S) : Option (d_S) :=
  d_b (F_X12_blocks s) (fun v1 => if x1 < v1 then
  d_b (F_X12_isSold s x1) (fun v2 => if v2 = 0 then
  d_b (F_X12_get s x1 1) (fun v3 => d_b2 (F_X12_meltsOf s x1) (fun v4 s5 => d_b (F_X12_cut (d_w (v3 + v4)) 100) (fun v6 => d_b (F_X12_set s5 x1 1 v6) (fun s7 => rec (d_w (x1 + 1)) s7))))
  else
  rec (d_w (x1 + 1)) s)
  else
  k48 s)
set_option maxRecDepth 100000 in
noncomputable def F_X12_pass_l2 (k48 : d_S → Option (d_S)) : Nat → Int → d_S → Option (d_S)
  | 0 => fun _ _ => none
  | n + 1 => F_X12_pass_l2_b k48 (F_X12_pass_l2 k48 n)
set_option maxRecDepth 100000 in
theorem D_X12_pass_l2 {t : Nat → Option p_C} {k48 : d_S → Option (d_S)} {r : d_S} (hk48 : ∀ {ls : p_Ls} {s : d_S} {h : p_H}, k48 s = some r → d_V t h s → p_lk 0 ls = some (.ref 64) → p_wp p_GT p_MT 8 m_X12_pass 48 ls [] h (d_QV t r)) : ∀ (n : Nat) {x1 : Int} {ls : p_Ls} {s : d_S} {h : p_H}, F_X12_pass_l2 k48 n x1 s = some r → d_V t h s → p_lk 0 ls = some (.ref 64) → d_R x1 → p_lk 1 ls = some (.int (Int32.ofInt x1)) → p_wp p_GT p_MT 8 m_X12_pass 2 ls [] h (d_QV t r) := by
  intro n
  induction n with
  | zero =>
    intro x1 ls s h hF hH l0 r_x1 l1
    cases (show (none : Option (d_S)) = some r from hF)
  | succ n ih =>
    intro x1 ls s h hF hH l0 r_x1 l1
    have hF : F_X12_pass_l2_b k48 (F_X12_pass_l2 k48 n) x1 s = some r := hF
    unfold F_X12_pass_l2_b at hF
    refine dw_iln rfl l1 (dw_aln rfl l0 (dw_vP hF rfl (d_vir (n := 1) rfl rfl rfl rfl rfl hH d_c64_0 rfl) rfl rfl rfl (dc := 2) (fun _ e => D_X12_blocks e hH) (fun v1 r_v1 hF => ?_)))
    refine d_if hF (fun q hF => ?_) (fun q hF => ?_)
    · refine dw_ge_y rfl (u := 48) rfl r_x1 r_v1 q ?_
      refine dw_aln rfl l0 (dw_iln rfl l1 (dw_vB hF rfl (d_vir (n := 2) rfl rfl rfl rfl rfl hH d_c64_0 rfl) rfl rfl rfl (dc := 1) (fun _ e => D_X12_isSold e hH r_x1) (fun v2 r_v2 hF => ?_)))
      refine d_if hF (fun q hF => ?_) (fun q hF => ?_)
      · refine dw_zne_y rfl (u := 42) rfl (d_R_b r_v2) q ?_
        refine dw_aln rfl l0 (dw_iln rfl l1 (dw_ic rfl (dw_aln rfl l0 (dw_iln rfl l1 (dw_ic rfl (dw_vP hF rfl (d_vir (n := 3) rfl rfl rfl rfl rfl hH d_c64_0 rfl) rfl rfl rfl (dc := 0) (fun _ e => D_X12_get e hH r_x1 (d_rl rfl)) (fun v3 r_v3 hF => dw_aln rfl l0 (dw_iln rfl l1 (dw_vI hF rfl (d_vir (n := 2) rfl rfl rfl rfl rfl hH d_c64_0 rfl) rfl rfl rfl (dc := 7) (fun _ _ e => D_X12_meltsOf e hH r_x1) (fun v4 s5 h5 hH5 r_v4 hF => ?_))))))))))
        refine dw_add rfl (dw_w1 (dw_i2l rfl d_R_w (dw_bp rfl rfl (dw_sP hF rfl rfl rfl rfl rfl (dc := 0) (fun _ e => D_X12_cut e (d_RL_R d_R_w) (d_rl rfl)) (fun v6 r_v6 hF => dw_vV hF rfl (d_vir (n := 4) rfl rfl rfl rfl rfl hH5 d_c64_0 rfl) rfl rfl rfl (dc := 0) (fun _ e => D_X12_set e hH5 r_x1 (d_rl rfl) r_v6) (fun s7 h7 hH7 hF => dw_ii rfl l1 rfl (dw_go rfl (u := 2) rfl (?_))))))))
        exact ih hF hH7 (d_s1 l0 rfl (by decide)) d_R_w p_lk_s1
      · refine dw_zne_n rfl (u := 42) rfl (d_R_b r_v2) q ?_
        refine dw_ii rfl l1 rfl (dw_go rfl (u := 2) rfl (?_))
        exact ih hF hH (d_s1 l0 rfl (by decide)) d_R_w p_lk_s1
    · refine dw_ge_n rfl (u := 48) rfl r_x1 r_v1 q ?_
      exact hk48 hF hH l0
set_option maxRecDepth 100000 in
noncomputable def F_X12_pass_l74_b (rec : Int → d_S → Option (d_S)) (x1 : Int) (s : d_S) : Option (d_S) :=
  d_b (F_X12_blocks s) (fun v13 => if x1 < v13 then
  d_b (F_X12_isSold s x1) (fun v14 => if v14 = 0 then
  d_b (F_X12_get s x1 0) (fun v15 => d_b (F_X12_get s x1 0) (fun v16 => d_b (F_X12_get s x1 1) (fun v17 => d_b2 (F_X12_rotsBy s x1 (s.1 65 9) (s.1 65 10) v16 v17) (fun v18 s19 => d_b (F_X12_cut (d_w (v15 - v18)) 9) (fun v20 => d_b (F_X12_set s19 x1 0 v20) (fun s21 => rec (d_w (x1 + 1)) s21))))))
  else
  rec (d_w (x1 + 1)) s)
  else
  some s)
set_option maxRecDepth 100000 in
noncomputable def F_X12_pass_l74 : Nat → Int → d_S → Option (d_S)
  | 0 => fun _ _ => none
  | n + 1 => F_X12_pass_l74_b (F_X12_pass_l74 n)
set_option maxRecDepth 100000 in
theorem D_X12_pass_l74 {t : Nat → Option p_C} {r : d_S} : ∀ (n : Nat) {x1 : Int} {ls : p_Ls} {s : d_S} {h : p_H}, F_X12_pass_l74 n x1 s = some r → d_V t h s → p_lk 0 ls = some (.ref 64) → d_R x1 → p_lk 1 ls = some (.int (Int32.ofInt x1)) → p_wp p_GT p_MT 8 m_X12_pass 74 ls [] h (d_QV t r) := by
  intro n
  induction n with
  | zero =>
    intro x1 ls s h hF hH l0 r_x1 l1
    cases (show (none : Option (d_S)) = some r from hF)
  | succ n ih =>
    intro x1 ls s h hF hH l0 r_x1 l1
    have hF : F_X12_pass_l74_b (F_X12_pass_l74 n) x1 s = some r := hF
    unfold F_X12_pass_l74_b at hF
    refine dw_iln rfl l1 (dw_aln rfl l0 (dw_vP hF rfl (d_vir (n := 1) rfl rfl rfl rfl rfl hH d_c64_0 rfl) rfl rfl rfl (dc := 2) (fun _ e => D_X12_blocks e hH) (fun v13 r_v13 hF => ?_)))
    refine d_if hF (fun q hF => ?_) (fun q hF => ?_)
    · refine dw_ge_y rfl (u := 149) rfl r_x1 r_v13 q ?_
      refine dw_aln rfl l0 (dw_iln rfl l1 (dw_vB hF rfl (d_vir (n := 2) rfl rfl rfl rfl rfl hH d_c64_0 rfl) rfl rfl rfl (dc := 1) (fun _ e => D_X12_isSold e hH r_x1) (fun v14 r_v14 hF => ?_)))
      refine d_if hF (fun q hF => ?_) (fun q hF => ?_)
      · refine dw_zeq_y rfl (u := 93) rfl (d_R_b r_v14) q ?_
        refine dw_aln rfl l0 (dw_iln rfl l1 (dw_ic rfl (dw_aln rfl l0 (dw_iln rfl l1 (dw_ic rfl (dw_vP hF rfl (d_vir (n := 3) rfl rfl rfl rfl rfl hH d_c64_0 rfl) rfl rfl rfl (dc := 0) (fun _ e => D_X12_get e hH r_x1 (d_rl rfl)) (fun v15 r_v15 hF => dw_aln rfl l0 (dw_iln rfl l1 (dw_aln rfl l0 (?_))))))))))
        refine dw_gr rfl rfl rfl hH d_c64_0 (dw_bp rfl rfl (dw_ald rfl hH d_a65 rfl (by decide) (by decide) (d_rl rfl) (k := 9) rfl (dw_aln rfl l0 (dw_gr rfl rfl rfl hH d_c64_0 (dw_bp rfl rfl (dw_ald rfl hH d_a65 rfl (by decide) (by decide) (d_rl rfl) (k := 10) rfl (dw_aln rfl l0 (dw_iln rfl l1 (dw_ic rfl (?_))))))))))
        refine dw_vP hF rfl (d_vir (n := 3) rfl rfl rfl rfl rfl hH d_c64_0 rfl) rfl rfl rfl (dc := 0) (fun _ e => D_X12_get e hH r_x1 (d_rl rfl)) (fun v16 r_v16 hF => dw_aln rfl l0 (dw_iln rfl l1 (dw_ic rfl (dw_vP hF rfl (d_vir (n := 3) rfl rfl rfl rfl rfl hH d_c64_0 rfl) rfl rfl rfl (dc := 0) (fun _ e => D_X12_get e hH r_x1 (d_rl rfl)) (fun v17 r_v17 hF => dw_vI hF rfl (d_vir (n := 6) rfl rfl rfl rfl rfl hH d_c64_0 rfl) rfl rfl rfl (dc := 6) (fun _ _ e => D_X12_rotsBy e hH r_x1 hH.r hH.r r_v16 r_v17) (fun v18 s19 h19 hH19 r_v18 hF => dw_sub rfl (dw_w1 (dw_i2l rfl d_R_w (dw_bp rfl rfl (?_))))))))))
        refine dw_sP hF rfl rfl rfl rfl rfl (dc := 0) (fun _ e => D_X12_cut e (d_RL_R d_R_w) (d_rl rfl)) (fun v20 r_v20 hF => dw_vV hF rfl (d_vir (n := 4) rfl rfl rfl rfl rfl hH19 d_c64_0 rfl) rfl rfl rfl (dc := 0) (fun _ e => D_X12_set e hH19 r_x1 (d_rl rfl) r_v20) (fun s21 h21 hH21 hF => dw_ii rfl l1 rfl (dw_go rfl (u := 74) rfl (?_))))
        exact ih hF hH21 (d_s1 l0 rfl (by decide)) d_R_w p_lk_s1
      · refine dw_zeq_n rfl (u := 93) rfl (d_R_b r_v14) q ?_
        refine dw_go rfl (u := 143) rfl (dw_ii rfl l1 rfl (dw_go rfl (u := 74) rfl (?_)))
        exact ih hF hH (d_s1 l0 rfl (by decide)) d_R_w p_lk_s1
    · refine dw_ge_n rfl (u := 149) rfl r_x1 r_v13 q ?_
      exact dw_rV rfl rfl hH hF
set_option maxRecDepth 100000 in
noncomputable def F_X12_pass (s : d_S) : Option (d_S) :=
  F_X12_pass_l2 (fun s_u8 =>
  d_l (d_si s_u8 65 (9) (d_w ((s_u8.1 65 9) + 1))) (fun s9 => d_b2 (F_X12_drawn s9 10) (fun v10 s11 => d_l (d_si s11 65 (10) v10) (fun s12 => F_X12_pass_l74 d_N 0 s12)))) d_N 0 s
set_option maxRecDepth 100000 in
theorem D_X12_pass {t : Nat → Option p_C} {h : p_H} {s : d_S} {r : d_S} (hF : F_X12_pass s = some r) (hH : d_V t h s) : p_wp p_GT p_MT 8 m_X12_pass 0 (lv_args 0 [.ref 64]) [] h (d_QV t r) := by
  unfold F_X12_pass at hF
  refine dw_ic rfl (dw_isn rfl rfl (?_))
  refine D_X12_pass_l2 (fun {ls_u8} {s_u8} {h_u8} hF hH_u8 l0_u8 => ?_) _ hF hH (d_s1 rfl rfl (by decide)) (d_rl rfl) p_lk_s1
  · refine dw_aln rfl l0_u8 (dw_gr rfl rfl rfl hH_u8 d_c64_0 (dw_bp rfl rfl (dw_dup2 rfl (dw_ald rfl hH_u8 d_a65 rfl (by decide) (by decide) (d_rl rfl) (k := 9) rfl (dw_ic rfl (dw_add rfl (dw_w1 (dw_ast rfl hH_u8 d_a65 (by decide) (by decide) (d_rl rfl) (k := 9) rfl d_R_w hF (fun s9 h9 hH9 hF => dw_aln rfl l0_u8 (?_))))))))))
    refine dw_gr rfl rfl rfl hH9 d_c64_0 (dw_bp rfl rfl (dw_aln rfl l0_u8 (dw_bp rfl rfl (dw_vI hF rfl (d_vir (n := 2) rfl rfl rfl rfl rfl hH9 d_c64_0 rfl) rfl rfl rfl (dc := 1) (fun _ _ e => D_X12_drawn e hH9 (d_rl rfl)) (fun v10 s11 h11 hH11 r_v10 hF => dw_ast rfl hH11 d_a65 (by decide) (by decide) (d_rl rfl) (k := 10) rfl r_v10 hF (fun s12 h12 hH12 hF => dw_ic rfl (dw_isn rfl rfl (?_))))))))
    exact D_X12_pass_l74 _ hF hH12 (d_s1 l0_u8 rfl (by decide)) (d_rl rfl) p_lk_s1
set_option maxRecDepth 100000 in
noncomputable def F_X12_arePassed_l2_b (rec : Int → Int → d_S → Option (Int × d_S)) (x1 : Int) (x2 : Int) (s : d_S) : Option (Int × d_S) :=
  if x2 < x1 then
  if (s.1 65 9) = 999 then
  some (0, s)
  else
  d_b (F_X12_keep s) (fun s1 => d_b (F_X12_pass s1) (fun s2 => rec x1 (d_w (x2 + 1)) s2))
  else
  some (1, s)
set_option maxRecDepth 100000 in
noncomputable def F_X12_arePassed_l2 : Nat → Int → Int → d_S → Option (Int × d_S)
  | 0 => fun _ _ _ => none
  | n + 1 => F_X12_arePassed_l2_b (F_X12_arePassed_l2 n)
set_option maxRecDepth 100000 in
theorem D_X12_arePassed_l2 {t : Nat → Option p_C} {r : Int × d_S} : ∀ (n : Nat) {x1 : Int} {x2 : Int} {ls : p_Ls} {s : d_S} {h : p_H}, F_X12_arePassed_l2 n x1 x2 s = some r → d_V t h s → p_lk 0 ls = some (.ref 64) → d_R x1 → p_lk 1 ls = some (.int (Int32.ofInt x1)) → d_R x2 → p_lk 2 ls = some (.int (Int32.ofInt x2)) → p_wp p_GT p_MT 9 m_X12_arePassed 2 ls [] h (d_QC t r) := by
  intro n
  induction n with
  | zero =>
    intro x1 x2 ls s h hF hH l0 r_x1 l1 r_x2 l2
    cases (show (none : Option (Int × d_S)) = some r from hF)
  | succ n ih =>
    intro x1 x2 ls s h hF hH l0 r_x1 l1 r_x2 l2
    have hF : F_X12_arePassed_l2_b (F_X12_arePassed_l2 n) x1 x2 s = some r := hF
    unfold F_X12_arePassed_l2_b at hF
    refine dw_iln rfl l2 (dw_iln rfl l1 (?_))
    refine d_if hF (fun q hF => ?_) (fun q hF => ?_)
    · refine dw_ge_y rfl (u := 36) rfl r_x2 r_x1 q ?_
      refine dw_aln rfl l0 (dw_gr rfl rfl rfl hH d_c64_0 (dw_bp rfl rfl (dw_ald rfl hH d_a65 rfl (by decide) (by decide) (d_rl rfl) (k := 9) rfl (dw_sp rfl rfl (?_)))))
      refine d_if hF (fun q hF => ?_) (fun q hF => ?_)
      · refine dw_ne_y rfl (u := 22) rfl hH.r (d_rl rfl) q ?_
        exact dw_ic rfl (dw_rC rfl rfl (Or.inl rfl) hH hF)
      · refine dw_ne_n rfl (u := 22) rfl hH.r (d_rl rfl) q ?_
        refine dw_aln rfl l0 (dw_vV hF rfl (d_vir (n := 1) rfl rfl rfl rfl rfl hH d_c64_0 rfl) rfl rfl rfl (dc := 1) (fun _ e => D_X12_keep e hH) (fun s1 h1 hH1 hF => dw_aln rfl l0 (dw_vV hF rfl (d_vir (n := 1) rfl rfl rfl rfl rfl hH1 d_c64_0 rfl) rfl rfl rfl (dc := 8) (fun _ e => D_X12_pass e hH1) (fun s2 h2 hH2 hF => dw_ii rfl l2 rfl (dw_go rfl (u := 2) rfl (?_))))))
        exact ih hF hH2 (d_s1 l0 rfl (by decide)) r_x1 (d_s1 l1 rfl (by decide)) d_R_w p_lk_s1
    · refine dw_ge_n rfl (u := 36) rfl r_x2 r_x1 q ?_
      exact dw_ic rfl (dw_rC rfl rfl (Or.inr rfl) hH hF)
set_option maxRecDepth 100000 in
noncomputable def F_X12_arePassed (s : d_S) (x1 : Int) : Option (Int × d_S) :=
  F_X12_arePassed_l2 d_N x1 0 s
set_option maxRecDepth 100000 in
theorem D_X12_arePassed {t : Nat → Option p_C} {h : p_H} {s : d_S} {x1 : Int} {r : Int × d_S} (hF : F_X12_arePassed s x1 = some r) (hH : d_V t h s) (r_x1 : d_R x1) : p_wp p_GT p_MT 9 m_X12_arePassed 0 (lv_args 0 [.ref 64, .int (Int32.ofInt x1)]) [] h (d_QC t r) := by
  unfold F_X12_arePassed at hF
  refine dw_ic rfl (dw_isn rfl rfl (?_))
  exact D_X12_arePassed_l2 _ hF hH (d_s1 rfl rfl (by decide)) r_x1 (d_s1 rfl rfl (by decide)) (d_rl rfl) p_lk_s1
set_option maxRecDepth 100000 in
noncomputable def F_X12_day (s : d_S) (x1 : Int) : Option (Int × d_S) :=
  d_b (F_X12_isIn x1 1 60) (fun v1 => if v1 = 0 then
  some ((-1), s)
  else
  if 999 < (d_w ((s.1 65 9) + x1)) then
  some ((-1), s)
  else
  d_b2 (F_X12_arePassed s x1) (fun v2 s3 => if v2 = 0 then
  some ((-1), s3)
  else
  some ((s3.1 65 10), s3)))
set_option maxRecDepth 100000 in
theorem D_X12_day {t : Nat → Option p_C} {h : p_H} {s : d_S} {x1 : Int} {r : Int × d_S} (hF : F_X12_day s x1 = some r) (hH : d_V t h s) (r_x1 : d_R x1) : p_wp p_GT p_MT 10 m_X12_day 0 (lv_args 0 [.ref 64, .int (Int32.ofInt x1)]) [] h (d_QI t r) := by
  unfold F_X12_day at hF
  refine dw_iln rfl rfl (dw_ic rfl (dw_bp rfl rfl (dw_sB hF rfl rfl rfl rfl rfl (dc := 0) (fun _ e => D_X12_isIn e r_x1 (d_rl rfl) (d_rl rfl)) (fun v1 r_v1 hF => ?_))))
  refine d_if hF (fun q hF => ?_) (fun q hF => ?_)
  · refine dw_zeq_y rfl (u := 43) rfl (d_R_b r_v1) q ?_
    exact dw_ic rfl (dw_rI rfl rfl (d_rl rfl) hH hF)
  · refine dw_zeq_n rfl (u := 43) rfl (d_R_b r_v1) q ?_
    refine dw_aln rfl rfl (dw_gr rfl rfl rfl hH d_c64_0 (dw_bp rfl rfl (dw_ald rfl hH d_a65 rfl (by decide) (by decide) (d_rl rfl) (k := 9) rfl (dw_iln rfl rfl (dw_add rfl (dw_sp rfl rfl (dw_w2 (?_))))))))
    refine d_if hF (fun q hF => ?_) (fun q hF => ?_)
    · refine dw_gt_y rfl (u := 43) rfl d_R_w (d_rl rfl) q ?_
      exact dw_ic rfl (dw_rI rfl rfl (d_rl rfl) hH hF)
    · refine dw_gt_n rfl (u := 43) rfl d_R_w (d_rl rfl) q ?_
      refine dw_aln rfl rfl (dw_iln rfl rfl (dw_vC hF rfl (d_vir (n := 2) rfl rfl rfl rfl rfl hH d_c64_0 rfl) rfl rfl rfl (dc := 9) (fun _ _ e => D_X12_arePassed e hH r_x1) (fun v2 s3 h3 hH3 r_v2 hF => ?_)))
      refine d_if hF (fun q hF => ?_) (fun q hF => ?_)
      · refine dw_zeq_y rfl (u := 43) rfl (d_R_b r_v2) q ?_
        exact dw_ic rfl (dw_rI rfl rfl (d_rl rfl) hH3 hF)
      · refine dw_zeq_n rfl (u := 43) rfl (d_R_b r_v2) q ?_
        exact dw_aln rfl rfl (dw_gr rfl rfl rfl hH3 d_c64_0 (dw_bp rfl rfl (dw_ald rfl hH3 d_a65 rfl (by decide) (by decide) (d_rl rfl) (k := 10) rfl (dw_go rfl (u := 44) rfl (dw_rI rfl rfl hH3.r hH3 hF)))))

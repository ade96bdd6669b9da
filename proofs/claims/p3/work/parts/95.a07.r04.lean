set_option maxRecDepth 100000 in
noncomputable def F_X12_glass (s : d_S) (x1 : Int) (x2 : Int) (x3 : Int) (x4 : Int) : Option (Int × d_S) :=
  if x1 = (-1) then
  d_l (d_si s 65 (5) 0) (fun s1 => some (0, s1))
  else
  d_b (F_X12_isIn x1 0 9) (fun v2 => if v2 = 0 then
  some ((-2), s)
  else
  d_b (F_X12_isIn x2 0 63) (fun v3 => if v3 = 0 then
  some ((-2), s)
  else
  d_b (F_X12_isIn x3 0 100) (fun v4 => if v4 = 0 then
  some ((-2), s)
  else
  if (s.1 65 5) = 8 then
  some ((-2), s)
  else
  d_l (d_w (299 + (4 * (s.1 65 5)))) (fun z5 => d_g (0 ≤ z5 ∧ z5 < 2517) (d_l (d_si s 65 ((z5).toNat) x1) (fun s7 => d_g (0 ≤ (d_w (z5 + 1)) ∧ (d_w (z5 + 1)) < 2517) (d_l (d_si s7 65 (((d_w (z5 + 1))).toNat) x2) (fun s9 => d_g (0 ≤ (d_w (z5 + 2)) ∧ (d_w (z5 + 2)) < 2517) (d_l (d_si s9 65 (((d_w (z5 + 2))).toNat) x3) (fun s11 => if x4 = 0 then
  d_g (0 ≤ (d_w (z5 + 3)) ∧ (d_w (z5 + 3)) < 2517) (d_l (d_si s11 65 (((d_w (z5 + 3))).toNat) 0) (fun s13 => d_l (d_si s13 65 (5) (d_w ((s13.1 65 5) + 1))) (fun s14 => some ((s14.1 65 5), s14))))
  else
  d_g (0 ≤ (d_w (z5 + 3)) ∧ (d_w (z5 + 3)) < 2517) (d_l (d_si s11 65 (((d_w (z5 + 3))).toNat) 1) (fun s16 => d_l (d_si s16 65 (5) (d_w ((s16.1 65 5) + 1))) (fun s17 => some ((s17.1 65 5), s17))))))))))))))
set_option maxRecDepth 100000 in
theorem D_X12_glass {t : Nat → Option p_C} {h : p_H} {s : d_S} {x1 : Int} {x2 : Int} {x3 : Int} {x4 : Int} {r : Int × d_S} (hF : F_X12_glass s x1 x2 x3 x4 = some r) (hH : d_V t h s) (r_x1 : d_R x1) (r_x2 : d_R x2) (r_x3 : d_R x3) (r_x4 : d_R x4) : p_wp p_GT p_MT 1 m_X12_glass 0 (lv_args 0 [.ref 64, .int (Int32.ofInt x1), .int (Int32.ofInt x2), .int (Int32.ofInt x3), .int (Int32.ofInt x4)]) [] h (d_QI t r) := by
  unfold F_X12_glass at hF
  refine dw_iln rfl rfl (dw_ic rfl (?_))
  refine d_if hF (fun q hF => ?_) (fun q hF => ?_)
  · refine dw_ne_y rfl (u := 14) rfl r_x1 (d_rl rfl) q ?_
    exact dw_aln rfl rfl (dw_gr rfl rfl rfl hH d_c64_0 (dw_ic rfl (dw_ic rfl (dw_ast rfl hH d_a65 (by decide) (by decide) (d_rl rfl) (k := 5) rfl (d_rl rfl) hF (fun s1 h1 hH1 hF => dw_ic rfl (dw_rI rfl rfl (d_rl rfl) hH1 hF))))))
  · refine dw_ne_n rfl (u := 14) rfl r_x1 (d_rl rfl) q ?_
    refine dw_iln rfl rfl (dw_ic rfl (dw_bp rfl rfl (dw_sB hF rfl rfl rfl rfl rfl (dc := 0) (fun _ e => D_X12_isIn e r_x1 (d_rl rfl) (d_rl rfl)) (fun v2 r_v2 hF => ?_))))
    refine d_if hF (fun q hF => ?_) (fun q hF => ?_)
    · refine dw_zeq_y rfl (u := 55) rfl (d_R_b r_v2) q ?_
      exact dw_bp rfl rfl (dw_rI rfl rfl (d_rl rfl) hH hF)
    · refine dw_zeq_n rfl (u := 55) rfl (d_R_b r_v2) q ?_
      refine dw_iln rfl rfl (dw_ic rfl (dw_bp rfl rfl (dw_sB hF rfl rfl rfl rfl rfl (dc := 0) (fun _ e => D_X12_isIn e r_x2 (d_rl rfl) (d_rl rfl)) (fun v3 r_v3 hF => ?_))))
      refine d_if hF (fun q hF => ?_) (fun q hF => ?_)
      · refine dw_zeq_y rfl (u := 55) rfl (d_R_b r_v3) q ?_
        exact dw_bp rfl rfl (dw_rI rfl rfl (d_rl rfl) hH hF)
      · refine dw_zeq_n rfl (u := 55) rfl (d_R_b r_v3) q ?_
        refine dw_iln rfl rfl (dw_ic rfl (dw_bp rfl rfl (dw_sB hF rfl rfl rfl rfl rfl (dc := 0) (fun _ e => D_X12_isIn e r_x3 (d_rl rfl) (d_rl rfl)) (fun v4 r_v4 hF => ?_))))
        refine d_if hF (fun q hF => ?_) (fun q hF => ?_)
        · refine dw_zeq_y rfl (u := 55) rfl (d_R_b r_v4) q ?_
          exact dw_bp rfl rfl (dw_rI rfl rfl (d_rl rfl) hH hF)
        · refine dw_zeq_n rfl (u := 55) rfl (d_R_b r_v4) q ?_
          refine dw_aln rfl rfl (dw_gr rfl rfl rfl hH d_c64_0 (dw_ic rfl (dw_ald rfl hH d_a65 rfl (by decide) (by decide) (d_rl rfl) (k := 5) rfl (dw_bp rfl rfl (?_)))))
          refine d_if hF (fun q hF => ?_) (fun q hF => ?_)
          · refine dw_ne_y rfl (u := 58) rfl hH.r (d_rl rfl) q ?_
            exact dw_bp rfl rfl (dw_rI rfl rfl (d_rl rfl) hH hF)
          · refine dw_ne_n rfl (u := 58) rfl hH.r (d_rl rfl) q ?_
            refine dw_sp rfl rfl (dw_ic rfl (dw_aln rfl rfl (dw_gr rfl rfl rfl hH d_c64_0 (dw_ic rfl (dw_ald rfl hH d_a65 rfl (by decide) (by decide) (d_rl rfl) (k := 5) rfl (dw_mul rfl (dw_add rfl (dw_w1 (dw_nm hF d_R_w (fun z5 r_z5 hF => ?_))))))))))
            refine dw_is rfl rfl (dw_aln rfl (d_s1 rfl rfl (by decide)) (dw_gr rfl rfl rfl hH d_c64_0 (dw_il rfl p_lk_s1 (dw_iln rfl (d_s1 rfl rfl (by decide)) (d_gd hF (fun g6 hF => dw_ast rfl hH d_a65 g6.1 g6.2 r_z5 rfl r_x1 hF (fun s7 h7 hH7 hF => dw_aln rfl (d_s1 rfl rfl (by decide)) (dw_gr rfl rfl rfl hH7 d_c64_0 (dw_il rfl p_lk_s1 (?_))))))))))
            refine dw_ic rfl (dw_add rfl (dw_iln rfl (d_s1 rfl rfl (by decide)) (dw_w2 (d_gd hF (fun g8 hF => dw_ast rfl hH7 d_a65 g8.1 g8.2 d_R_w rfl r_x2 hF (fun s9 h9 hH9 hF => dw_aln rfl (d_s1 rfl rfl (by decide)) (dw_gr rfl rfl rfl hH9 d_c64_0 (dw_il rfl p_lk_s1 (dw_ic rfl (?_))))))))))
            refine dw_add rfl (dw_iln rfl (d_s1 rfl rfl (by decide)) (dw_w2 (d_gd hF (fun g10 hF => dw_ast rfl hH9 d_a65 g10.1 g10.2 d_R_w rfl r_x3 hF (fun s11 h11 hH11 hF => dw_aln rfl (d_s1 rfl rfl (by decide)) (dw_gr rfl rfl rfl hH11 d_c64_0 (dw_il rfl p_lk_s1 (dw_ic rfl (dw_add rfl (?_))))))))))
            refine dw_il rfl (d_s1 rfl rfl (by decide)) (?_)
            refine d_if hF (fun q hF => ?_) (fun q hF => ?_)
            · refine dw_zeq_y rfl (u := 117) rfl r_x4 q ?_
              refine dw_ic rfl (dw_w2 (d_gd hF (fun g12 hF => dw_ast rfl hH11 d_a65 g12.1 g12.2 d_R_w rfl (d_rl rfl) hF (fun s13 h13 hH13 hF => dw_aln rfl (d_s1 rfl rfl (by decide)) (dw_gr rfl rfl rfl hH13 d_c64_0 (dw_ic rfl (dw_dup2 rfl (dw_ald rfl hH13 d_a65 rfl (by decide) (by decide) (d_rl rfl) (k := 5) rfl (dw_ic rfl (?_))))))))))
              exact dw_add rfl (dw_w1 (dw_ast rfl hH13 d_a65 (by decide) (by decide) (d_rl rfl) (k := 5) rfl d_R_w hF (fun s14 h14 hH14 hF => dw_aln rfl (d_s1 rfl rfl (by decide)) (dw_gr rfl rfl rfl hH14 d_c64_0 (dw_ic rfl (dw_ald rfl hH14 d_a65 rfl (by decide) (by decide) (d_rl rfl) (k := 5) rfl (dw_rI rfl rfl hH14.r hH14 hF)))))))
            · refine dw_zeq_n rfl (u := 117) rfl r_x4 q ?_
              refine dw_ic rfl (dw_go rfl (u := 118) rfl (dw_w2 (d_gd hF (fun g15 hF => dw_ast rfl hH11 d_a65 g15.1 g15.2 d_R_w rfl (d_rl rfl) hF (fun s16 h16 hH16 hF => dw_aln rfl (d_s1 rfl rfl (by decide)) (dw_gr rfl rfl rfl hH16 d_c64_0 (dw_ic rfl (dw_dup2 rfl (dw_ald rfl hH16 d_a65 rfl (by decide) (by decide) (d_rl rfl) (k := 5) rfl (?_))))))))))
              exact dw_ic rfl (dw_add rfl (dw_w1 (dw_ast rfl hH16 d_a65 (by decide) (by decide) (d_rl rfl) (k := 5) rfl d_R_w hF (fun s17 h17 hH17 hF => dw_aln rfl (d_s1 rfl rfl (by decide)) (dw_gr rfl rfl rfl hH17 d_c64_0 (dw_ic rfl (dw_ald rfl hH17 d_a65 rfl (by decide) (by decide) (d_rl rfl) (k := 5) rfl (dw_rI rfl rfl hH17.r hH17 hF))))))))
set_option maxRecDepth 100000 in
noncomputable def F_X12_bid (s : d_S) (x1 : Int) : Option (Int × d_S) :=
  if x1 = (-1) then
  d_l (d_si s 65 (6) 0) (fun s1 => some (0, s1))
  else
  d_b (F_X12_isIn x1 0 999) (fun v2 => if v2 = 0 then
  some ((-2), s)
  else
  if (s.1 65 6) = 8 then
  some ((-2), s)
  else
  d_g (0 ≤ (d_w (331 + (s.1 65 6))) ∧ (d_w (331 + (s.1 65 6))) < 2517) (d_l (d_si s 65 (((d_w (331 + (s.1 65 6)))).toNat) x1) (fun s4 => d_l (d_si s4 65 (6) (d_w ((s4.1 65 6) + 1))) (fun s5 => some ((s5.1 65 6), s5)))))
set_option maxRecDepth 100000 in
theorem D_X12_bid {t : Nat → Option p_C} {h : p_H} {s : d_S} {x1 : Int} {r : Int × d_S} (hF : F_X12_bid s x1 = some r) (hH : d_V t h s) (r_x1 : d_R x1) : p_wp p_GT p_MT 1 m_X12_bid 0 (lv_args 0 [.ref 64, .int (Int32.ofInt x1)]) [] h (d_QI t r) := by
  unfold F_X12_bid at hF
  refine dw_iln rfl rfl (dw_ic rfl (?_))
  refine d_if hF (fun q hF => ?_) (fun q hF => ?_)
  · refine dw_ne_y rfl (u := 15) rfl r_x1 (d_rl rfl) q ?_
    exact dw_aln rfl rfl (dw_gr rfl rfl rfl hH d_c64_0 (dw_bp rfl rfl (dw_ic rfl (dw_ast rfl hH d_a65 (by decide) (by decide) (d_rl rfl) (k := 6) rfl (d_rl rfl) hF (fun s1 h1 hH1 hF => dw_ic rfl (dw_rI rfl rfl (d_rl rfl) hH1 hF))))))
  · refine dw_ne_n rfl (u := 15) rfl r_x1 (d_rl rfl) q ?_
    refine dw_iln rfl rfl (dw_ic rfl (dw_sp rfl rfl (dw_sB hF rfl rfl rfl rfl rfl (dc := 0) (fun _ e => D_X12_isIn e r_x1 (d_rl rfl) (d_rl rfl)) (fun v2 r_v2 hF => ?_))))
    refine d_if hF (fun q hF => ?_) (fun q hF => ?_)
    · refine dw_zeq_y rfl (u := 38) rfl (d_R_b r_v2) q ?_
      exact dw_bp rfl rfl (dw_rI rfl rfl (d_rl rfl) hH hF)
    · refine dw_zeq_n rfl (u := 38) rfl (d_R_b r_v2) q ?_
      refine dw_aln rfl rfl (dw_gr rfl rfl rfl hH d_c64_0 (dw_bp rfl rfl (dw_ald rfl hH d_a65 rfl (by decide) (by decide) (d_rl rfl) (k := 6) rfl (dw_bp rfl rfl (?_)))))
      refine d_if hF (fun q hF => ?_) (fun q hF => ?_)
      · refine dw_ne_y rfl (u := 41) rfl hH.r (d_rl rfl) q ?_
        exact dw_bp rfl rfl (dw_rI rfl rfl (d_rl rfl) hH hF)
      · refine dw_ne_n rfl (u := 41) rfl hH.r (d_rl rfl) q ?_
        refine dw_aln rfl rfl (dw_gr rfl rfl rfl hH d_c64_0 (dw_sp rfl rfl (dw_aln rfl rfl (dw_gr rfl rfl rfl hH d_c64_0 (dw_bp rfl rfl (dw_ald rfl hH d_a65 rfl (by decide) (by decide) (d_rl rfl) (k := 6) rfl (dw_add rfl (dw_iln rfl rfl (dw_w2 (?_))))))))))
        refine d_gd hF (fun g3 hF => dw_ast rfl hH d_a65 g3.1 g3.2 d_R_w rfl r_x1 hF (fun s4 h4 hH4 hF => dw_aln rfl rfl (dw_gr rfl rfl rfl hH4 d_c64_0 (dw_bp rfl rfl (dw_dup2 rfl (dw_ald rfl hH4 d_a65 rfl (by decide) (by decide) (d_rl rfl) (k := 6) rfl (dw_ic rfl (dw_add rfl (dw_w1 (?_))))))))))
        exact dw_ast rfl hH4 d_a65 (by decide) (by decide) (d_rl rfl) (k := 6) rfl d_R_w hF (fun s5 h5 hH5 hF => dw_aln rfl rfl (dw_gr rfl rfl rfl hH5 d_c64_0 (dw_bp rfl rfl (dw_ald rfl hH5 d_a65 rfl (by decide) (by decide) (d_rl rfl) (k := 6) rfl (dw_rI rfl rfl hH5.r hH5 hF)))))
set_option maxRecDepth 100000 in
noncomputable def F_X12_measure (s : d_S) (x1 : Int) (x2 : Int) : Option (Int × d_S) :=
  if x1 = (-1) then
  d_l (d_si s 65 (7) 0) (fun s1 => some (0, s1))
  else
  d_b (F_X12_isIn x1 0 999) (fun v2 => if v2 = 0 then
  some ((-2), s)
  else
  d_b (F_X12_isIn x2 0 100) (fun v3 => if v3 = 0 then
  some ((-2), s)
  else
  if (s.1 65 7) = 8 then
  some ((-2), s)
  else
  d_g (0 ≤ (d_w (339 + (2 * (s.1 65 7)))) ∧ (d_w (339 + (2 * (s.1 65 7)))) < 2517) (d_l (d_si s 65 (((d_w (339 + (2 * (s.1 65 7))))).toNat) x1) (fun s5 => d_g (0 ≤ (d_w ((339 + (2 * (s5.1 65 7))) + 1)) ∧ (d_w ((339 + (2 * (s5.1 65 7))) + 1)) < 2517) (d_l (d_si s5 65 (((d_w ((339 + (2 * (s5.1 65 7))) + 1))).toNat) x2) (fun s7 => d_l (d_si s7 65 (7) (d_w ((s7.1 65 7) + 1))) (fun s8 => some ((s8.1 65 7), s8))))))))
set_option maxRecDepth 100000 in
theorem D_X12_measure {t : Nat → Option p_C} {h : p_H} {s : d_S} {x1 : Int} {x2 : Int} {r : Int × d_S} (hF : F_X12_measure s x1 x2 = some r) (hH : d_V t h s) (r_x1 : d_R x1) (r_x2 : d_R x2) : p_wp p_GT p_MT 1 m_X12_measure 0 (lv_args 0 [.ref 64, .int (Int32.ofInt x1), .int (Int32.ofInt x2)]) [] h (d_QI t r) := by
  unfold F_X12_measure at hF
  refine dw_iln rfl rfl (dw_ic rfl (?_))
  refine d_if hF (fun q hF => ?_) (fun q hF => ?_)
  · refine dw_ne_y rfl (u := 15) rfl r_x1 (d_rl rfl) q ?_
    exact dw_aln rfl rfl (dw_gr rfl rfl rfl hH d_c64_0 (dw_bp rfl rfl (dw_ic rfl (dw_ast rfl hH d_a65 (by decide) (by decide) (d_rl rfl) (k := 7) rfl (d_rl rfl) hF (fun s1 h1 hH1 hF => dw_ic rfl (dw_rI rfl rfl (d_rl rfl) hH1 hF))))))
  · refine dw_ne_n rfl (u := 15) rfl r_x1 (d_rl rfl) q ?_
    refine dw_iln rfl rfl (dw_ic rfl (dw_sp rfl rfl (dw_sB hF rfl rfl rfl rfl rfl (dc := 0) (fun _ e => D_X12_isIn e r_x1 (d_rl rfl) (d_rl rfl)) (fun v2 r_v2 hF => ?_))))
    refine d_if hF (fun q hF => ?_) (fun q hF => ?_)
    · refine dw_zeq_y rfl (u := 48) rfl (d_R_b r_v2) q ?_
      exact dw_bp rfl rfl (dw_rI rfl rfl (d_rl rfl) hH hF)
    · refine dw_zeq_n rfl (u := 48) rfl (d_R_b r_v2) q ?_
      refine dw_iln rfl rfl (dw_ic rfl (dw_bp rfl rfl (dw_sB hF rfl rfl rfl rfl rfl (dc := 0) (fun _ e => D_X12_isIn e r_x2 (d_rl rfl) (d_rl rfl)) (fun v3 r_v3 hF => ?_))))
      refine d_if hF (fun q hF => ?_) (fun q hF => ?_)
      · refine dw_zeq_y rfl (u := 48) rfl (d_R_b r_v3) q ?_
        exact dw_bp rfl rfl (dw_rI rfl rfl (d_rl rfl) hH hF)
      · refine dw_zeq_n rfl (u := 48) rfl (d_R_b r_v3) q ?_
        refine dw_aln rfl rfl (dw_gr rfl rfl rfl hH d_c64_0 (dw_bp rfl rfl (dw_ald rfl hH d_a65 rfl (by decide) (by decide) (d_rl rfl) (k := 7) rfl (dw_bp rfl rfl (?_)))))
        refine d_if hF (fun q hF => ?_) (fun q hF => ?_)
        · refine dw_ne_y rfl (u := 51) rfl hH.r (d_rl rfl) q ?_
          exact dw_bp rfl rfl (dw_rI rfl rfl (d_rl rfl) hH hF)
        · refine dw_ne_n rfl (u := 51) rfl hH.r (d_rl rfl) q ?_
          refine dw_aln rfl rfl (dw_gr rfl rfl rfl hH d_c64_0 (dw_sp rfl rfl (dw_ic rfl (dw_aln rfl rfl (dw_gr rfl rfl rfl hH d_c64_0 (dw_bp rfl rfl (dw_ald rfl hH d_a65 rfl (by decide) (by decide) (d_rl rfl) (k := 7) rfl (dw_mul rfl (dw_add rfl (?_))))))))))
          refine dw_iln rfl rfl (dw_w2 (d_gd hF (fun g4 hF => dw_ast rfl hH d_a65 g4.1 g4.2 d_R_w rfl r_x1 hF (fun s5 h5 hH5 hF => dw_aln rfl rfl (dw_gr rfl rfl rfl hH5 d_c64_0 (dw_sp rfl rfl (dw_ic rfl (dw_aln rfl rfl (dw_gr rfl rfl rfl hH5 d_c64_0 (?_))))))))))
          refine dw_bp rfl rfl (dw_ald rfl hH5 d_a65 rfl (by decide) (by decide) (d_rl rfl) (k := 7) rfl (dw_mul rfl (dw_add rfl (dw_ic rfl (dw_add rfl (dw_iln rfl rfl (dw_w2 (d_gd hF (fun g6 hF => dw_ast rfl hH5 d_a65 g6.1 g6.2 d_R_w rfl r_x2 hF (fun s7 h7 hH7 hF => ?_))))))))))
          refine dw_aln rfl rfl (dw_gr rfl rfl rfl hH7 d_c64_0 (dw_bp rfl rfl (dw_dup2 rfl (dw_ald rfl hH7 d_a65 rfl (by decide) (by decide) (d_rl rfl) (k := 7) rfl (dw_ic rfl (dw_add rfl (dw_w1 (dw_ast rfl hH7 d_a65 (by decide) (by decide) (d_rl rfl) (k := 7) rfl d_R_w hF (fun s8 h8 hH8 hF => dw_aln rfl rfl (?_))))))))))
          exact dw_gr rfl rfl rfl hH8 d_c64_0 (dw_bp rfl rfl (dw_ald rfl hH8 d_a65 rfl (by decide) (by decide) (d_rl rfl) (k := 7) rfl (dw_rI rfl rfl hH8.r hH8 hF)))
set_option maxRecDepth 100000 in
noncomputable def F_X12_melt (s : d_S) (x1 : Int) (x2 : Int) (x3 : Int) (x4 : Int) : Option (Int × d_S) :=
  if x1 = (-1) then
  d_l (d_si s 65 (8) 0) (fun s1 => some (0, s1))
  else
  d_b (F_X12_isBlock s x1) (fun v2 => if v2 = 0 then
  some ((-2), s)
  else
  d_b (F_X12_isIn x2 0 9) (fun v3 => if v3 = 0 then
  some ((-2), s)
  else
  d_b (F_X12_isIn x3 0 9) (fun v4 => if v4 = 0 then
  some ((-2), s)
  else
  d_b (F_X12_isIn x4 0 100) (fun v5 => if v5 = 0 then
  some ((-2), s)
  else
  if (s.1 65 8) = 8 then
  some ((-2), s)
  else
  d_l (d_w (355 + (4 * (s.1 65 8)))) (fun z6 => d_g (0 ≤ z6 ∧ z6 < 2517) (d_l (d_si s 65 ((z6).toNat) x1) (fun s8 => d_g (0 ≤ (d_w (z6 + 1)) ∧ (d_w (z6 + 1)) < 2517) (d_l (d_si s8 65 (((d_w (z6 + 1))).toNat) x2) (fun s10 => d_g (0 ≤ (d_w (z6 + 2)) ∧ (d_w (z6 + 2)) < 2517) (d_l (d_si s10 65 (((d_w (z6 + 2))).toNat) x3) (fun s12 => d_g (0 ≤ (d_w (z6 + 3)) ∧ (d_w (z6 + 3)) < 2517) (d_l (d_si s12 65 (((d_w (z6 + 3))).toNat) x4) (fun s14 => d_l (d_si s14 65 (8) (d_w ((s14.1 65 8) + 1))) (fun s15 => some ((s15.1 65 8), s15)))))))))))))))
set_option maxRecDepth 100000 in
theorem D_X12_melt {t : Nat → Option p_C} {h : p_H} {s : d_S} {x1 : Int} {x2 : Int} {x3 : Int} {x4 : Int} {r : Int × d_S} (hF : F_X12_melt s x1 x2 x3 x4 = some r) (hH : d_V t h s) (r_x1 : d_R x1) (r_x2 : d_R x2) (r_x3 : d_R x3) (r_x4 : d_R x4) : p_wp p_GT p_MT 4 m_X12_melt 0 (lv_args 0 [.ref 64, .int (Int32.ofInt x1), .int (Int32.ofInt x2), .int (Int32.ofInt x3), .int (Int32.ofInt x4)]) [] h (d_QI t r) := by
  unfold F_X12_melt at hF
  refine dw_iln rfl rfl (dw_ic rfl (?_))
  refine d_if hF (fun q hF => ?_) (fun q hF => ?_)
  · refine dw_ne_y rfl (u := 15) rfl r_x1 (d_rl rfl) q ?_
    exact dw_aln rfl rfl (dw_gr rfl rfl rfl hH d_c64_0 (dw_bp rfl rfl (dw_ic rfl (dw_ast rfl hH d_a65 (by decide) (by decide) (d_rl rfl) (k := 8) rfl (d_rl rfl) hF (fun s1 h1 hH1 hF => dw_ic rfl (dw_rI rfl rfl (d_rl rfl) hH1 hF))))))
  · refine dw_ne_n rfl (u := 15) rfl r_x1 (d_rl rfl) q ?_
    refine dw_aln rfl rfl (dw_iln rfl rfl (dw_vB hF rfl (d_vir (n := 2) rfl rfl rfl rfl rfl hH d_c64_0 rfl) rfl rfl rfl (dc := 3) (fun _ e => D_X12_isBlock e hH r_x1) (fun v2 r_v2 hF => ?_)))
    refine d_if hF (fun q hF => ?_) (fun q hF => ?_)
    · refine dw_zeq_y rfl (u := 66) rfl (d_R_b r_v2) q ?_
      exact dw_bp rfl rfl (dw_rI rfl rfl (d_rl rfl) hH hF)
    · refine dw_zeq_n rfl (u := 66) rfl (d_R_b r_v2) q ?_
      refine dw_iln rfl rfl (dw_ic rfl (dw_bp rfl rfl (dw_sB hF rfl rfl rfl rfl rfl (dc := 0) (fun _ e => D_X12_isIn e r_x2 (d_rl rfl) (d_rl rfl)) (fun v3 r_v3 hF => ?_))))
      refine d_if hF (fun q hF => ?_) (fun q hF => ?_)
      · refine dw_zeq_y rfl (u := 66) rfl (d_R_b r_v3) q ?_
        exact dw_bp rfl rfl (dw_rI rfl rfl (d_rl rfl) hH hF)
      · refine dw_zeq_n rfl (u := 66) rfl (d_R_b r_v3) q ?_
        refine dw_iln rfl rfl (dw_ic rfl (dw_bp rfl rfl (dw_sB hF rfl rfl rfl rfl rfl (dc := 0) (fun _ e => D_X12_isIn e r_x3 (d_rl rfl) (d_rl rfl)) (fun v4 r_v4 hF => ?_))))
        refine d_if hF (fun q hF => ?_) (fun q hF => ?_)
        · refine dw_zeq_y rfl (u := 66) rfl (d_R_b r_v4) q ?_
          exact dw_bp rfl rfl (dw_rI rfl rfl (d_rl rfl) hH hF)
        · refine dw_zeq_n rfl (u := 66) rfl (d_R_b r_v4) q ?_
          refine dw_il rfl rfl (dw_ic rfl (dw_bp rfl rfl (dw_sB hF rfl rfl rfl rfl rfl (dc := 0) (fun _ e => D_X12_isIn e r_x4 (d_rl rfl) (d_rl rfl)) (fun v5 r_v5 hF => ?_))))
          refine d_if hF (fun q hF => ?_) (fun q hF => ?_)
          · refine dw_zeq_y rfl (u := 66) rfl (d_R_b r_v5) q ?_
            exact dw_bp rfl rfl (dw_rI rfl rfl (d_rl rfl) hH hF)
          · refine dw_zeq_n rfl (u := 66) rfl (d_R_b r_v5) q ?_
            refine dw_aln rfl rfl (dw_gr rfl rfl rfl hH d_c64_0 (dw_bp rfl rfl (dw_ald rfl hH d_a65 rfl (by decide) (by decide) (d_rl rfl) (k := 8) rfl (dw_bp rfl rfl (?_)))))
            refine d_if hF (fun q hF => ?_) (fun q hF => ?_)
            · refine dw_ne_y rfl (u := 69) rfl hH.r (d_rl rfl) q ?_
              exact dw_bp rfl rfl (dw_rI rfl rfl (d_rl rfl) hH hF)
            · refine dw_ne_n rfl (u := 69) rfl hH.r (d_rl rfl) q ?_
              refine dw_sp rfl rfl (dw_ic rfl (dw_aln rfl rfl (dw_gr rfl rfl rfl hH d_c64_0 (dw_bp rfl rfl (dw_ald rfl hH d_a65 rfl (by decide) (by decide) (d_rl rfl) (k := 8) rfl (dw_mul rfl (dw_add rfl (dw_w1 (dw_nm hF d_R_w (fun z6 r_z6 hF => ?_))))))))))
              refine dw_is rfl rfl (dw_aln rfl (d_s1 rfl rfl (by decide)) (dw_gr rfl rfl rfl hH d_c64_0 (dw_il rfl p_lk_s1 (dw_iln rfl (d_s1 rfl rfl (by decide)) (d_gd hF (fun g7 hF => dw_ast rfl hH d_a65 g7.1 g7.2 r_z6 rfl r_x1 hF (fun s8 h8 hH8 hF => dw_aln rfl (d_s1 rfl rfl (by decide)) (dw_gr rfl rfl rfl hH8 d_c64_0 (dw_il rfl p_lk_s1 (?_))))))))))
              refine dw_ic rfl (dw_add rfl (dw_iln rfl (d_s1 rfl rfl (by decide)) (dw_w2 (d_gd hF (fun g9 hF => dw_ast rfl hH8 d_a65 g9.1 g9.2 d_R_w rfl r_x2 hF (fun s10 h10 hH10 hF => dw_aln rfl (d_s1 rfl rfl (by decide)) (dw_gr rfl rfl rfl hH10 d_c64_0 (dw_il rfl p_lk_s1 (dw_ic rfl (?_))))))))))
              refine dw_add rfl (dw_iln rfl (d_s1 rfl rfl (by decide)) (dw_w2 (d_gd hF (fun g11 hF => dw_ast rfl hH10 d_a65 g11.1 g11.2 d_R_w rfl r_x3 hF (fun s12 h12 hH12 hF => dw_aln rfl (d_s1 rfl rfl (by decide)) (dw_gr rfl rfl rfl hH12 d_c64_0 (dw_il rfl p_lk_s1 (dw_ic rfl (dw_add rfl (?_))))))))))
              refine dw_il rfl (d_s1 rfl rfl (by decide)) (dw_w2 (d_gd hF (fun g13 hF => dw_ast rfl hH12 d_a65 g13.1 g13.2 d_R_w rfl r_x4 hF (fun s14 h14 hH14 hF => dw_aln rfl (d_s1 rfl rfl (by decide)) (dw_gr rfl rfl rfl hH14 d_c64_0 (dw_bp rfl rfl (dw_dup2 rfl (dw_ald rfl hH14 d_a65 rfl (by decide) (by decide) (d_rl rfl) (k := 8) rfl (dw_ic rfl (?_))))))))))
              exact dw_add rfl (dw_w1 (dw_ast rfl hH14 d_a65 (by decide) (by decide) (d_rl rfl) (k := 8) rfl d_R_w hF (fun s15 h15 hH15 hF => dw_aln rfl (d_s1 rfl rfl (by decide)) (dw_gr rfl rfl rfl hH15 d_c64_0 (dw_bp rfl rfl (dw_ald rfl hH15 d_a65 rfl (by decide) (by decide) (d_rl rfl) (k := 8) rfl (dw_rI rfl rfl hH15.r hH15 hF)))))))
set_option maxRecDepth 100000 in
noncomputable def F_X12_layers_l80_b (s : d_S) (k136 : Int → Int → Int → Int → Option (Int)) (rec : Int → Int → Int → Int → Int → Int → Option (Int)) (x1 : Int) (x2 : Int) (x3 : Int) (x4 : Int) (x5 : Int) (x6 : Int) : Option (Int) :=
  if x6 < 10 then
  d_g (0 ≤ (d_w (x5 + 2)) ∧ (d_w (x5 + 2)) < 2517) (if (d_w (10 * x6)) < (s.1 65 (((d_w (x5 + 2))).toNat)) then
  d_g (0 ≤ (d_w (x5 + 3)) ∧ (d_w (x5 + 3)) < 2517) (if 1 = (s.1 65 (((d_w (x5 + 3))).toNat)) then
  rec x1 x2 x3 x4 x5 (d_w (x6 + 1))
  else
  d_l (d_and x3 (d_xor (d_shl 1 x6) (-1))) (fun z7 => rec x1 x2 z7 x4 x5 (d_w (x6 + 1))))
  else
  d_g (0 ≤ (d_w (x5 + 3)) ∧ (d_w (x5 + 3)) < 2517) (if 0 = (s.1 65 (((d_w (x5 + 3))).toNat)) then
  rec x1 x2 x3 x4 x5 (d_w (x6 + 1))
  else
  d_l (d_and x3 (d_xor (d_shl 1 x6) (-1))) (fun z9 => rec x1 x2 z9 x4 x5 (d_w (x6 + 1)))))
  else
  k136 x1 x2 x3 x4
set_option maxRecDepth 100000 in
noncomputable def F_X12_layers_l80 (s : d_S) (k136 : Int → Int → Int → Int → Option (Int)) : Nat → Int → Int → Int → Int → Int → Int → Option (Int)
  | 0 => fun _ _ _ _ _ _ => none
  | n + 1 => F_X12_layers_l80_b s k136 (F_X12_layers_l80 s k136 n)
set_option maxRecDepth 100000 in
theorem D_X12_layers_l80 {t : Nat → Option p_C} {h : p_H} {s : d_S} {k136 : Int → Int → Int → Int → Option (Int)} {r : Int} (hH : d_V t h s) (hk136 : ∀ {x1 : Int} {x2 : Int} {x3 : Int} {x4 : Int} {ls : p_Ls}, k136 x1 x2 x3 x4 = some r → p_lk 0 ls = some (.ref 64) → d_R x1 → p_lk 1 ls = some (.int (Int32.ofInt x1)) → d_R x2 → p_lk 2 ls = some (.int (Int32.ofInt x2)) → d_R x3 → p_lk 3 ls = some (.int (Int32.ofInt x3)) → d_R x4 → p_lk 4 ls = some (.int (Int32.ofInt x4)) → p_wp p_GT p_MT 1 m_X12_layers 136 ls [] h (d_QP h r)) : ∀ (n : Nat) {x1 : Int} {x2 : Int} {x3 : Int} {x4 : Int} {x5 : Int} {x6 : Int} {ls : p_Ls}, F_X12_layers_l80 s k136 n x1 x2 x3 x4 x5 x6 = some r → p_lk 0 ls = some (.ref 64) → d_R x1 → p_lk 1 ls = some (.int (Int32.ofInt x1)) → d_R x2 → p_lk 2 ls = some (.int (Int32.ofInt x2)) → d_R x3 → p_lk 3 ls = some (.int (Int32.ofInt x3)) → d_R x4 → p_lk 4 ls = some (.int (Int32.ofInt x4)) → d_R x5 → p_lk 5 ls = some (.int (Int32.ofInt x5)) → d_R x6 → p_lk 6 ls = some (.int (Int32.ofInt x6)) → p_wp p_GT p_MT 1 m_X12_layers 80 ls [] h (d_QP h r) := by
  intro n
  induction n with
  | zero =>
    intro x1 x2 x3 x4 x5 x6 ls hF l0 r_x1 l1 r_x2 l2 r_x3 l3 r_x4 l4 r_x5 l5 r_x6 l6
    cases (show (none : Option (Int)) = some r from hF)
  | succ n ih =>
    intro x1 x2 x3 x4 x5 x6 ls hF l0 r_x1 l1 r_x2 l2 r_x3 l3 r_x4 l4 r_x5 l5 r_x6 l6
    have hF : F_X12_layers_l80_b s k136 (F_X12_layers_l80 s k136 n) x1 x2 x3 x4 x5 x6 = some r := hF
    unfold F_X12_layers_l80_b at hF
    refine dw_il rfl l6 (dw_bp rfl rfl (?_))
    refine d_if hF (fun q hF => ?_) (fun q hF => ?_)
    · refine dw_ge_y rfl (u := 136) rfl r_x6 (d_rl rfl) q ?_
      refine dw_aln rfl l0 (dw_gr rfl rfl rfl hH d_c64_0 (dw_il rfl l5 (dw_ic rfl (dw_add rfl (dw_w1 (d_gd hF (fun g5 hF => dw_ald rfl hH d_a65 rfl g5.1 g5.2 d_R_w rfl (dw_bp rfl rfl (dw_il rfl l6 (?_))))))))))
      refine dw_mul rfl (dw_w1 (?_))
      refine d_if hF (fun q hF => ?_) (fun q hF => ?_)
      · refine dw_le_y rfl (u := 108) rfl hH.r d_R_w q ?_
        refine dw_ic rfl (dw_go rfl (u := 109) rfl (dw_aln rfl l0 (dw_gr rfl rfl rfl hH d_c64_0 (dw_il rfl l5 (dw_ic rfl (dw_add rfl (dw_w1 (d_gd hF (fun g6 hF => dw_ald rfl hH d_a65 rfl g6.1 g6.2 d_R_w rfl (?_))))))))))
        refine d_if hF (fun q hF => ?_) (fun q hF => ?_)
        · refine dw_eq_y rfl (u := 130) rfl (d_rl rfl) hH.r q ?_
          refine dw_ii rfl l6 rfl (dw_go rfl (u := 80) rfl (?_))
          exact ih hF (d_s1 l0 rfl (by decide)) r_x1 (d_s1 l1 rfl (by decide)) r_x2 (d_s1 l2 rfl (by decide)) r_x3 (d_s1 l3 rfl (by decide)) r_x4 (d_s1 l4 rfl (by decide)) r_x5 (d_s1 l5 rfl (by decide)) d_R_w p_lk_s1
        · refine dw_eq_n rfl (u := 130) rfl (d_rl rfl) hH.r q ?_
          refine dw_iln rfl l3 (dw_ic rfl (dw_il rfl l6 (dw_shl rfl (dw_ic rfl (dw_xor rfl (dw_and rfl (dw_nm hF d_R_t (fun z7 r_z7 hF => dw_isn rfl rfl (dw_ii rfl (d_s1 l6 rfl (by decide)) rfl (?_))))))))))
          refine dw_go rfl (u := 80) rfl (?_)
          exact ih hF (d_s1 (d_s1 l0 rfl (by decide)) rfl (by decide)) r_x1 (d_s1 (d_s1 l1 rfl (by decide)) rfl (by decide)) r_x2 (d_s1 (d_s1 l2 rfl (by decide)) rfl (by decide)) r_z7 (d_s1 p_lk_s1 rfl (by decide)) r_x4 (d_s1 (d_s1 l4 rfl (by decide)) rfl (by decide)) r_x5 (d_s1 (d_s1 l5 rfl (by decide)) rfl (by decide)) d_R_w p_lk_s1
      · refine dw_le_n rfl (u := 108) rfl hH.r d_R_w q ?_
        refine dw_ic rfl (dw_aln rfl l0 (dw_gr rfl rfl rfl hH d_c64_0 (dw_il rfl l5 (dw_ic rfl (dw_add rfl (dw_w1 (d_gd hF (fun g8 hF => dw_ald rfl hH d_a65 rfl g8.1 g8.2 d_R_w rfl (?_)))))))))
        refine d_if hF (fun q hF => ?_) (fun q hF => ?_)
        · refine dw_eq_y rfl (u := 130) rfl (d_rl rfl) hH.r q ?_
          refine dw_ii rfl l6 rfl (dw_go rfl (u := 80) rfl (?_))
          exact ih hF (d_s1 l0 rfl (by decide)) r_x1 (d_s1 l1 rfl (by decide)) r_x2 (d_s1 l2 rfl (by decide)) r_x3 (d_s1 l3 rfl (by decide)) r_x4 (d_s1 l4 rfl (by decide)) r_x5 (d_s1 l5 rfl (by decide)) d_R_w p_lk_s1
        · refine dw_eq_n rfl (u := 130) rfl (d_rl rfl) hH.r q ?_
          refine dw_iln rfl l3 (dw_ic rfl (dw_il rfl l6 (dw_shl rfl (dw_ic rfl (dw_xor rfl (dw_and rfl (dw_nm hF d_R_t (fun z9 r_z9 hF => dw_isn rfl rfl (dw_ii rfl (d_s1 l6 rfl (by decide)) rfl (?_))))))))))
          refine dw_go rfl (u := 80) rfl (?_)
          exact ih hF (d_s1 (d_s1 l0 rfl (by decide)) rfl (by decide)) r_x1 (d_s1 (d_s1 l1 rfl (by decide)) rfl (by decide)) r_x2 (d_s1 (d_s1 l2 rfl (by decide)) rfl (by decide)) r_z9 (d_s1 p_lk_s1 rfl (by decide)) r_x4 (d_s1 (d_s1 l4 rfl (by decide)) rfl (by decide)) r_x5 (d_s1 (d_s1 l5 rfl (by decide)) rfl (by decide)) d_R_w p_lk_s1
    · refine dw_ge_n rfl (u := 136) rfl r_x6 (d_rl rfl) q ?_
      exact hk136 hF l0 r_x1 l1 r_x2 l2 r_x3 l3 r_x4 l4
set_option maxRecDepth 100000 in
noncomputable def F_X12_layers_l29_b (s : d_S) (rec : Int → Int → Int → Int → Option (Int)) (x1 : Int) (x2 : Int) (x3 : Int) (x4 : Int) : Option (Int) :=
  if x4 < (s.1 65 5) then
  d_g (0 ≤ (d_w (299 + (4 * x4))) ∧ (d_w (299 + (4 * x4))) < 2517) (if (s.1 65 (((d_w (299 + (4 * x4)))).toNat)) = x1 then
  d_g (0 ≤ (d_w ((d_w (299 + (4 * x4))) + 1)) ∧ (d_w ((d_w (299 + (4 * x4))) + 1)) < 2517) (if (s.1 65 (((d_w ((d_w (299 + (4 * x4))) + 1))).toNat)) = x2 then
  F_X12_layers_l80 s (fun x1_u10 x2_u10 x3_u10 x4_u10 =>
  rec x1_u10 x2_u10 x3_u10 (d_w (x4_u10 + 1))) d_N x1 x2 x3 x4 (d_w (299 + (4 * x4))) 0
  else
  rec x1 x2 x3 (d_w (x4 + 1)))
  else
  rec x1 x2 x3 (d_w (x4 + 1)))
  else
  some x3
set_option maxRecDepth 100000 in
noncomputable def F_X12_layers_l29 (s : d_S) : Nat → Int → Int → Int → Int → Option (Int)
  | 0 => fun _ _ _ _ => none
  | n + 1 => F_X12_layers_l29_b s (F_X12_layers_l29 s n)
set_option maxRecDepth 100000 in
theorem D_X12_layers_l29 {t : Nat → Option p_C} {h : p_H} {s : d_S} {r : Int} (hH : d_V t h s) : ∀ (n : Nat) {x1 : Int} {x2 : Int} {x3 : Int} {x4 : Int} {ls : p_Ls}, F_X12_layers_l29 s n x1 x2 x3 x4 = some r → p_lk 0 ls = some (.ref 64) → d_R x1 → p_lk 1 ls = some (.int (Int32.ofInt x1)) → d_R x2 → p_lk 2 ls = some (.int (Int32.ofInt x2)) → d_R x3 → p_lk 3 ls = some (.int (Int32.ofInt x3)) → d_R x4 → p_lk 4 ls = some (.int (Int32.ofInt x4)) → p_wp p_GT p_MT 1 m_X12_layers 29 ls [] h (d_QP h r) := by
  intro n
  induction n with
  | zero =>
    intro x1 x2 x3 x4 ls hF l0 r_x1 l1 r_x2 l2 r_x3 l3 r_x4 l4
    cases (show (none : Option (Int)) = some r from hF)
  | succ n ih =>
    intro x1 x2 x3 x4 ls hF l0 r_x1 l1 r_x2 l2 r_x3 l3 r_x4 l4
    have hF : F_X12_layers_l29_b s (F_X12_layers_l29 s n) x1 x2 x3 x4 = some r := hF
    unfold F_X12_layers_l29_b at hF
    refine dw_il rfl l4 (dw_aln rfl l0 (dw_gr rfl rfl rfl hH d_c64_0 (dw_ic rfl (dw_ald rfl hH d_a65 rfl (by decide) (by decide) (d_rl rfl) (k := 5) rfl (?_)))))
    refine d_if hF (fun q hF => ?_) (fun q hF => ?_)
    · refine dw_ge_y rfl (u := 142) rfl r_x4 hH.r q ?_
      refine dw_sp rfl rfl (dw_ic rfl (dw_il rfl l4 (dw_mul rfl (dw_add rfl (dw_w1 (dw_is rfl rfl (dw_aln rfl (d_s1 l0 rfl (by decide)) (dw_gr rfl rfl rfl hH d_c64_0 (dw_il rfl p_lk_s1 (?_))))))))))
      refine d_gd hF (fun g3 hF => dw_ald rfl hH d_a65 rfl g3.1 g3.2 d_R_w rfl (dw_iln rfl (d_s1 l1 rfl (by decide)) (?_)))
      refine d_if hF (fun q hF => ?_) (fun q hF => ?_)
      · refine dw_ne_y rfl (u := 136) rfl hH.r r_x1 q ?_
        refine dw_aln rfl (d_s1 l0 rfl (by decide)) (dw_gr rfl rfl rfl hH d_c64_0 (dw_il rfl p_lk_s1 (dw_ic rfl (dw_add rfl (dw_w1 (d_gd hF (fun g4 hF => dw_ald rfl hH d_a65 rfl g4.1 g4.2 d_R_w rfl (dw_iln rfl (d_s1 l2 rfl (by decide)) (?_)))))))))
        refine d_if hF (fun q hF => ?_) (fun q hF => ?_)
        · refine dw_eq_y rfl (u := 77) rfl hH.r r_x2 q ?_
          refine dw_ic rfl (dw_is rfl rfl (?_))
          refine D_X12_layers_l80 hH (fun {x1_u10} {x2_u10} {x3_u10} {x4_u10} {ls_u10} hF l0_u10 r_x1_u10 l1_u10 r_x2_u10 l2_u10 r_x3_u10 l3_u10 r_x4_u10 l4_u10 => ?_) _ hF (d_s1 (d_s1 l0 rfl (by decide)) rfl (by decide)) r_x1 (d_s1 (d_s1 l1 rfl (by decide)) rfl (by decide)) r_x2 (d_s1 (d_s1 l2 rfl (by decide)) rfl (by decide)) r_x3 (d_s1 (d_s1 l3 rfl (by decide)) rfl (by decide)) r_x4 (d_s1 (d_s1 l4 rfl (by decide)) rfl (by decide)) d_R_w (d_s1 p_lk_s1 rfl (by decide)) (d_rl rfl) p_lk_s1
          · refine dw_ii rfl l4_u10 rfl (dw_go rfl (u := 29) rfl (?_))
            exact ih hF (d_s1 l0_u10 rfl (by decide)) r_x1_u10 (d_s1 l1_u10 rfl (by decide)) r_x2_u10 (d_s1 l2_u10 rfl (by decide)) r_x3_u10 (d_s1 l3_u10 rfl (by decide)) d_R_w p_lk_s1
        · refine dw_eq_n rfl (u := 77) rfl hH.r r_x2 q ?_
          refine dw_go rfl (u := 136) rfl (dw_ii rfl (d_s1 l4 rfl (by decide)) rfl (dw_go rfl (u := 29) rfl (?_)))
          exact ih hF (d_s1 (d_s1 l0 rfl (by decide)) rfl (by decide)) r_x1 (d_s1 (d_s1 l1 rfl (by decide)) rfl (by decide)) r_x2 (d_s1 (d_s1 l2 rfl (by decide)) rfl (by decide)) r_x3 (d_s1 (d_s1 l3 rfl (by decide)) rfl (by decide)) d_R_w p_lk_s1
      · refine dw_ne_n rfl (u := 136) rfl hH.r r_x1 q ?_
        refine dw_ii rfl (d_s1 l4 rfl (by decide)) rfl (dw_go rfl (u := 29) rfl (?_))
        exact ih hF (d_s1 (d_s1 l0 rfl (by decide)) rfl (by decide)) r_x1 (d_s1 (d_s1 l1 rfl (by decide)) rfl (by decide)) r_x2 (d_s1 (d_s1 l2 rfl (by decide)) rfl (by decide)) r_x3 (d_s1 (d_s1 l3 rfl (by decide)) rfl (by decide)) d_R_w p_lk_s1
    · refine dw_ge_n rfl (u := 142) rfl r_x4 hH.r q ?_
      exact dw_iln rfl l3 (dw_rP rfl rfl r_x3 hF)
set_option maxRecDepth 100000 in
noncomputable def F_X12_layers (s : d_S) (x1 : Int) (x2 : Int) : Option (Int) :=
  d_b (F_X12_isIn x1 0 9) (fun v1 => if v1 = 0 then
  some (-1)
  else
  d_b (F_X12_isIn x2 0 63) (fun v2 => if v2 = 0 then
  some (-1)
  else
  F_X12_layers_l29 s d_N x1 x2 1023 0))
set_option maxRecDepth 100000 in
theorem D_X12_layers {t : Nat → Option p_C} {h : p_H} {s : d_S} {x1 : Int} {x2 : Int} {r : Int} (hF : F_X12_layers s x1 x2 = some r) (hH : d_V t h s) (r_x1 : d_R x1) (r_x2 : d_R x2) : p_wp p_GT p_MT 1 m_X12_layers 0 (lv_args 0 [.ref 64, .int (Int32.ofInt x1), .int (Int32.ofInt x2)]) [] h (d_QP h r) := by
  unfold F_X12_layers at hF
  refine dw_iln rfl rfl (dw_ic rfl (dw_bp rfl rfl (dw_sB hF rfl rfl rfl rfl rfl (dc := 0) (fun _ e => D_X12_isIn e r_x1 (d_rl rfl) (d_rl rfl)) (fun v1 r_v1 hF => ?_))))
  refine d_if hF (fun q hF => ?_) (fun q hF => ?_)
  · refine dw_zeq_y rfl (u := 20) rfl (d_R_b r_v1) q ?_
    exact dw_ic rfl (dw_rP rfl rfl (d_rl rfl) hF)
  · refine dw_zeq_n rfl (u := 20) rfl (d_R_b r_v1) q ?_
    refine dw_iln rfl rfl (dw_ic rfl (dw_bp rfl rfl (dw_sB hF rfl rfl rfl rfl rfl (dc := 0) (fun _ e => D_X12_isIn e r_x2 (d_rl rfl) (d_rl rfl)) (fun v2 r_v2 hF => ?_))))
    refine d_if hF (fun q hF => ?_) (fun q hF => ?_)
    · refine dw_zne_y rfl (u := 22) rfl (d_R_b r_v2) q ?_
      exact dw_ic rfl (dw_rP rfl rfl (d_rl rfl) hF)
    · refine dw_zne_n rfl (u := 22) rfl (d_R_b r_v2) q ?_
      refine dw_sp rfl rfl (dw_isn rfl rfl (dw_ic rfl (dw_is rfl rfl (?_))))
      exact D_X12_layers_l29 hH _ hF (d_s1 (d_s1 rfl rfl (by decide)) rfl (by decide)) r_x1 (d_s1 (d_s1 rfl rfl (by decide)) rfl (by decide)) r_x2 (d_s1 (d_s1 rfl rfl (by decide)) rfl (by decide)) (d_rl rfl) (d_s1 p_lk_s1 rfl (by decide)) (d_rl rfl) p_lk_s1
set_option maxRecDepth 100000 in
noncomputable def F_X12_winner_l4_b (s : d_S) (rec : Int → Int → Option (Int)) (x1 : Int) (x2 : Int) : Option (Int) :=
  if x2 < (s.1 65 6) then
  d_g (0 ≤ (d_w (331 + x2)) ∧ (d_w (331 + x2)) < 2517) (d_g (0 ≤ (d_w (331 + x1)) ∧ (d_w (331 + x1)) < 2517) (if (s.1 65 (((d_w (331 + x1))).toNat)) < (s.1 65 (((d_w (331 + x2))).toNat)) then
  rec x2 (d_w (x2 + 1))
  else
  rec x1 (d_w (x2 + 1))))
  else
  some x1
set_option maxRecDepth 100000 in
noncomputable def F_X12_winner_l4 (s : d_S) : Nat → Int → Int → Option (Int)
  | 0 => fun _ _ => none
  | n + 1 => F_X12_winner_l4_b s (F_X12_winner_l4 s n)
set_option maxRecDepth 100000 in
theorem D_X12_winner_l4 {t : Nat → Option p_C} {h : p_H} {s : d_S} {r : Int} (hH : d_V t h s) : ∀ (n : Nat) {x1 : Int} {x2 : Int} {ls : p_Ls}, F_X12_winner_l4 s n x1 x2 = some r → p_lk 0 ls = some (.ref 64) → d_R x1 → p_lk 1 ls = some (.int (Int32.ofInt x1)) → d_R x2 → p_lk 2 ls = some (.int (Int32.ofInt x2)) → p_wp p_GT p_MT 0 m_X12_winner 4 ls [] h (d_QP h r) := by
  intro n
  induction n with
  | zero =>
    intro x1 x2 ls hF l0 r_x1 l1 r_x2 l2
    cases (show (none : Option (Int)) = some r from hF)
  | succ n ih =>
    intro x1 x2 ls hF l0 r_x1 l1 r_x2 l2
    have hF : F_X12_winner_l4_b s (F_X12_winner_l4 s n) x1 x2 = some r := hF
    unfold F_X12_winner_l4_b at hF
    refine dw_iln rfl l2 (dw_aln rfl l0 (dw_gr rfl rfl rfl hH d_c64_0 (dw_bp rfl rfl (dw_ald rfl hH d_a65 rfl (by decide) (by decide) (d_rl rfl) (k := 6) rfl (?_)))))
    refine d_if hF (fun q hF => ?_) (fun q hF => ?_)
    · refine dw_ge_y rfl (u := 46) rfl r_x2 hH.r q ?_
      refine dw_aln rfl l0 (dw_gr rfl rfl rfl hH d_c64_0 (dw_sp rfl rfl (dw_iln rfl l2 (dw_add rfl (dw_w1 (d_gd hF (fun g1 hF => dw_ald rfl hH d_a65 rfl g1.1 g1.2 d_R_w rfl (dw_aln rfl l0 (dw_gr rfl rfl rfl hH d_c64_0 (?_))))))))))
      refine dw_sp rfl rfl (dw_iln rfl l1 (dw_add rfl (dw_w1 (d_gd hF (fun g2 hF => dw_ald rfl hH d_a65 rfl g2.1 g2.2 d_R_w rfl (?_))))))
      refine d_if hF (fun q hF => ?_) (fun q hF => ?_)
      · refine dw_le_y rfl (u := 40) rfl hH.r hH.r q ?_
        refine dw_iln rfl l2 (dw_isn rfl rfl (dw_ii rfl (d_s1 l2 rfl (by decide)) rfl (dw_go rfl (u := 4) rfl (?_))))
        exact ih hF (d_s1 (d_s1 l0 rfl (by decide)) rfl (by decide)) r_x2 (d_s1 p_lk_s1 rfl (by decide)) d_R_w p_lk_s1
      · refine dw_le_n rfl (u := 40) rfl hH.r hH.r q ?_
        refine dw_ii rfl l2 rfl (dw_go rfl (u := 4) rfl (?_))
        exact ih hF (d_s1 l0 rfl (by decide)) r_x1 (d_s1 l1 rfl (by decide)) d_R_w p_lk_s1
    · refine dw_ge_n rfl (u := 46) rfl r_x2 hH.r q ?_
      exact dw_iln rfl l1 (dw_rP rfl rfl r_x1 hF)
set_option maxRecDepth 100000 in
noncomputable def F_X12_winner (s : d_S) : Option (Int) :=
  F_X12_winner_l4 s d_N 0 1
set_option maxRecDepth 100000 in
theorem D_X12_winner {t : Nat → Option p_C} {h : p_H} {s : d_S} {r : Int} (hF : F_X12_winner s = some r) (hH : d_V t h s) : p_wp p_GT p_MT 0 m_X12_winner 0 (lv_args 0 [.ref 64]) [] h (d_QP h r) := by
  unfold F_X12_winner at hF
  refine dw_ic rfl (dw_isn rfl rfl (dw_ic rfl (dw_isn rfl rfl (?_))))
  exact D_X12_winner_l4 hH _ hF (d_s1 (d_s1 rfl rfl (by decide)) rfl (by decide)) (d_rl rfl) (d_s1 p_lk_s1 rfl (by decide)) (d_rl rfl) p_lk_s1
set_option maxRecDepth 100000 in
noncomputable def F_X12_paid_l9_b (s : d_S) (rec : Int → Int → Int → Option (Int)) (x1 : Int) (x2 : Int) (x3 : Int) : Option (Int) :=
  if x3 < (s.1 65 6) then
  if x3 = x2 then
  rec x1 x2 (d_w (x3 + 1))
  else
  d_g (0 ≤ (d_w (331 + x3)) ∧ (d_w (331 + x3)) < 2517) (if x1 < (s.1 65 (((d_w (331 + x3))).toNat)) then
  d_g (0 ≤ (d_w (331 + x3)) ∧ (d_w (331 + x3)) < 2517) (d_l (s.1 65 (((d_w (331 + x3))).toNat)) (fun z4 => rec z4 x2 (d_w (x3 + 1))))
  else
  rec x1 x2 (d_w (x3 + 1)))
  else
  some x1
set_option maxRecDepth 100000 in
noncomputable def F_X12_paid_l9 (s : d_S) : Nat → Int → Int → Int → Option (Int)
  | 0 => fun _ _ _ => none
  | n + 1 => F_X12_paid_l9_b s (F_X12_paid_l9 s n)
set_option maxRecDepth 100000 in
theorem D_X12_paid_l9 {t : Nat → Option p_C} {h : p_H} {s : d_S} {r : Int} (hH : d_V t h s) : ∀ (n : Nat) {x1 : Int} {x2 : Int} {x3 : Int} {ls : p_Ls}, F_X12_paid_l9 s n x1 x2 x3 = some r → p_lk 0 ls = some (.ref 64) → d_R x1 → p_lk 1 ls = some (.int (Int32.ofInt x1)) → d_R x2 → p_lk 2 ls = some (.int (Int32.ofInt x2)) → d_R x3 → p_lk 3 ls = some (.int (Int32.ofInt x3)) → p_wp p_GT p_MT 1 m_X12_paid 9 ls [] h (d_QP h r) := by
  intro n
  induction n with
  | zero =>
    intro x1 x2 x3 ls hF l0 r_x1 l1 r_x2 l2 r_x3 l3
    cases (show (none : Option (Int)) = some r from hF)
  | succ n ih =>
    intro x1 x2 x3 ls hF l0 r_x1 l1 r_x2 l2 r_x3 l3
    have hF : F_X12_paid_l9_b s (F_X12_paid_l9 s n) x1 x2 x3 = some r := hF
    unfold F_X12_paid_l9_b at hF
    refine dw_iln rfl l3 (dw_aln rfl l0 (dw_gr rfl rfl rfl hH d_c64_0 (dw_bp rfl rfl (dw_ald rfl hH d_a65 rfl (by decide) (by decide) (d_rl rfl) (k := 6) rfl (?_)))))
    refine d_if hF (fun q hF => ?_) (fun q hF => ?_)
    · refine dw_ge_y rfl (u := 56) rfl r_x3 hH.r q ?_
      refine dw_iln rfl l3 (dw_iln rfl l2 (?_))
      refine d_if hF (fun q hF => ?_) (fun q hF => ?_)
      · refine dw_eq_y rfl (u := 50) rfl r_x3 r_x2 q ?_
        refine dw_ii rfl l3 rfl (dw_go rfl (u := 9) rfl (?_))
        exact ih hF (d_s1 l0 rfl (by decide)) r_x1 (d_s1 l1 rfl (by decide)) r_x2 (d_s1 l2 rfl (by decide)) d_R_w p_lk_s1
      · refine dw_eq_n rfl (u := 50) rfl r_x3 r_x2 q ?_
        refine dw_aln rfl l0 (dw_gr rfl rfl rfl hH d_c64_0 (dw_sp rfl rfl (dw_iln rfl l3 (dw_add rfl (dw_w1 (d_gd hF (fun g2 hF => dw_ald rfl hH d_a65 rfl g2.1 g2.2 d_R_w rfl (dw_iln rfl l1 (?_)))))))))
        refine d_if hF (fun q hF => ?_) (fun q hF => ?_)
        · refine dw_le_y rfl (u := 50) rfl hH.r r_x1 q ?_
          refine dw_aln rfl l0 (dw_gr rfl rfl rfl hH d_c64_0 (dw_sp rfl rfl (dw_iln rfl l3 (dw_add rfl (dw_w1 (d_gd hF (fun g3 hF => dw_ald rfl hH d_a65 rfl g3.1 g3.2 d_R_w rfl (dw_nm hF hH.r (fun z4 r_z4 hF => dw_isn rfl rfl (?_))))))))))
          refine dw_ii rfl (d_s1 l3 rfl (by decide)) rfl (dw_go rfl (u := 9) rfl (?_))
          exact ih hF (d_s1 (d_s1 l0 rfl (by decide)) rfl (by decide)) r_z4 (d_s1 p_lk_s1 rfl (by decide)) r_x2 (d_s1 (d_s1 l2 rfl (by decide)) rfl (by decide)) d_R_w p_lk_s1
        · refine dw_le_n rfl (u := 50) rfl hH.r r_x1 q ?_
          refine dw_ii rfl l3 rfl (dw_go rfl (u := 9) rfl (?_))
          exact ih hF (d_s1 l0 rfl (by decide)) r_x1 (d_s1 l1 rfl (by decide)) r_x2 (d_s1 l2 rfl (by decide)) d_R_w p_lk_s1
    · refine dw_ge_n rfl (u := 56) rfl r_x3 hH.r q ?_
      exact dw_iln rfl l1 (dw_rP rfl rfl r_x1 hF)
set_option maxRecDepth 100000 in
noncomputable def F_X12_paid (s : d_S) : Option (Int) :=
  d_b (F_X12_winner s) (fun v1 => F_X12_paid_l9 s d_N 0 v1 0)
set_option maxRecDepth 100000 in
theorem D_X12_paid {t : Nat → Option p_C} {h : p_H} {s : d_S} {r : Int} (hF : F_X12_paid s = some r) (hH : d_V t h s) : p_wp p_GT p_MT 1 m_X12_paid 0 (lv_args 0 [.ref 64]) [] h (d_QP h r) := by
  unfold F_X12_paid at hF
  refine dw_ic rfl (dw_isn rfl rfl (dw_aln rfl (d_s1 rfl rfl (by decide)) (dw_vP hF rfl (d_vir (n := 1) rfl rfl rfl rfl rfl hH d_c64_0 rfl) rfl rfl rfl (dc := 0) (fun _ e => D_X12_winner e hH) (fun v1 r_v1 hF => dw_isn rfl rfl (dw_ic rfl (dw_isn rfl rfl (?_)))))))
  exact D_X12_paid_l9 hH _ hF (d_s1 (d_s1 (d_s1 rfl rfl (by decide)) rfl (by decide)) rfl (by decide)) (d_rl rfl) (d_s1 (d_s1 p_lk_s1 rfl (by decide)) rfl (by decide)) r_v1 (d_s1 p_lk_s1 rfl (by decide)) (d_rl rfl) p_lk_s1
set_option maxRecDepth 100000 in
noncomputable def F_X12_auction (s : d_S) (x1 : Int) : Option (Int) :=
  if (s.1 65 6) = 0 then
  some (-1)
  else
  d_b (F_X12_isIn x1 0 1) (fun v1 => if v1 = 0 then
  some (-1)
  else
  if x1 = 0 then
  d_b (F_X12_winner s) (fun v2 => some v2)
  else
  d_b (F_X12_paid s) (fun v3 => some v3))
set_option maxRecDepth 100000 in
theorem D_X12_auction {t : Nat → Option p_C} {h : p_H} {s : d_S} {x1 : Int} {r : Int} (hF : F_X12_auction s x1 = some r) (hH : d_V t h s) (r_x1 : d_R x1) : p_wp p_GT p_MT 2 m_X12_auction 0 (lv_args 0 [.ref 64, .int (Int32.ofInt x1)]) [] h (d_QP h r) := by
  unfold F_X12_auction at hF
  refine dw_aln rfl rfl (dw_gr rfl rfl rfl hH d_c64_0 (dw_bp rfl rfl (dw_ald rfl hH d_a65 rfl (by decide) (by decide) (d_rl rfl) (k := 6) rfl (?_))))
  refine d_if hF (fun q hF => ?_) (fun q hF => ?_)
  · refine dw_zeq_y rfl (u := 19) rfl hH.r q ?_
    exact dw_ic rfl (dw_rP rfl rfl (d_rl rfl) hF)
  · refine dw_zeq_n rfl (u := 19) rfl hH.r q ?_
    refine dw_iln rfl rfl (dw_ic rfl (dw_ic rfl (dw_sB hF rfl rfl rfl rfl rfl (dc := 0) (fun _ e => D_X12_isIn e r_x1 (d_rl rfl) (d_rl rfl)) (fun v1 r_v1 hF => ?_))))
    refine d_if hF (fun q hF => ?_) (fun q hF => ?_)
    · refine dw_zne_y rfl (u := 21) rfl (d_R_b r_v1) q ?_
      exact dw_ic rfl (dw_rP rfl rfl (d_rl rfl) hF)
    · refine dw_zne_n rfl (u := 21) rfl (d_R_b r_v1) q ?_
      refine dw_iln rfl rfl (?_)
      refine d_if hF (fun q hF => ?_) (fun q hF => ?_)
      · refine dw_zne_y rfl (u := 32) rfl r_x1 q ?_
        exact dw_aln rfl rfl (dw_vP hF rfl (d_vir (n := 1) rfl rfl rfl rfl rfl hH d_c64_0 rfl) rfl rfl rfl (dc := 0) (fun _ e => D_X12_winner e hH) (fun v2 r_v2 hF => dw_go rfl (u := 36) rfl (dw_rP rfl rfl r_v2 hF)))
      · refine dw_zne_n rfl (u := 32) rfl r_x1 q ?_
        exact dw_aln rfl rfl (dw_vP hF rfl (d_vir (n := 1) rfl rfl rfl rfl rfl hH d_c64_0 rfl) rfl rfl rfl (dc := 1) (fun _ e => D_X12_paid e hH) (fun v3 r_v3 hF => dw_rP rfl rfl r_v3 hF))

set_option maxRecDepth 100000 in
noncomputable def F_X12_pond (s : d_S) (x1 : Int) (x2 : Int) : Option (Int × d_S) :=
  d_b (F_X12_isIn x1 2 8) (fun v1 => if v1 = 0 then
  some (0, s)
  else
  d_b (F_X12_isIn x2 2 8) (fun v2 => if v2 = 0 then
  some (0, s)
  else
  if (s.1 65 18) = 1 then
  some (0, s)
  else
  d_l (d_si s 65 (16) x1) (fun s3 => d_l (d_si s3 65 (17) x2) (fun s4 => d_l (d_si s4 65 (18) 1) (fun s5 => some (1, s5))))))
set_option maxRecDepth 100000 in
theorem D_X12_pond {t : Nat → Option p_C} {h : p_H} {s : d_S} {x1 : Int} {x2 : Int} {r : Int × d_S} (hF : F_X12_pond s x1 x2 = some r) (hH : d_V t h s) (r_x1 : d_R x1) (r_x2 : d_R x2) : p_wp p_GT p_MT 1 m_X12_pond 0 (lv_args 0 [.ref 64, .int (Int32.ofInt x1), .int (Int32.ofInt x2)]) [] h (d_QC t r) := by
  unfold F_X12_pond at hF
  refine dw_iln rfl rfl (dw_ic rfl (dw_bp rfl rfl (dw_sB hF rfl rfl rfl rfl rfl (dc := 0) (fun _ e => D_X12_isIn e r_x1 (d_rl rfl) (d_rl rfl)) (fun v1 r_v1 hF => ?_))))
  refine d_if hF (fun q hF => ?_) (fun q hF => ?_)
  · refine dw_zeq_y rfl (u := 31) rfl (d_R_b r_v1) q ?_
    exact dw_ic rfl (dw_rC rfl rfl (Or.inl rfl) hH hF)
  · refine dw_zeq_n rfl (u := 31) rfl (d_R_b r_v1) q ?_
    refine dw_iln rfl rfl (dw_ic rfl (dw_bp rfl rfl (dw_sB hF rfl rfl rfl rfl rfl (dc := 0) (fun _ e => D_X12_isIn e r_x2 (d_rl rfl) (d_rl rfl)) (fun v2 r_v2 hF => ?_))))
    refine d_if hF (fun q hF => ?_) (fun q hF => ?_)
    · refine dw_zeq_y rfl (u := 31) rfl (d_R_b r_v2) q ?_
      exact dw_ic rfl (dw_rC rfl rfl (Or.inl rfl) hH hF)
    · refine dw_zeq_n rfl (u := 31) rfl (d_R_b r_v2) q ?_
      refine dw_aln rfl rfl (dw_gr rfl rfl rfl hH d_c64_0 (dw_bp rfl rfl (dw_ald rfl hH d_a65 rfl (by decide) (by decide) (d_rl rfl) (k := 18) rfl (dw_ic rfl (?_)))))
      refine d_if hF (fun q hF => ?_) (fun q hF => ?_)
      · refine dw_ne_y rfl (u := 33) rfl hH.r (d_rl rfl) q ?_
        exact dw_ic rfl (dw_rC rfl rfl (Or.inl rfl) hH hF)
      · refine dw_ne_n rfl (u := 33) rfl hH.r (d_rl rfl) q ?_
        refine dw_aln rfl rfl (dw_gr rfl rfl rfl hH d_c64_0 (dw_bp rfl rfl (dw_iln rfl rfl (dw_ast rfl hH d_a65 (by decide) (by decide) (d_rl rfl) (k := 16) rfl r_x1 hF (fun s3 h3 hH3 hF => dw_aln rfl rfl (dw_gr rfl rfl rfl hH3 d_c64_0 (dw_bp rfl rfl (dw_iln rfl rfl (dw_ast rfl hH3 d_a65 (by decide) (by decide) (d_rl rfl) (k := 17) rfl r_x2 hF (fun s4 h4 hH4 hF => ?_))))))))))
        exact dw_aln rfl rfl (dw_gr rfl rfl rfl hH4 d_c64_0 (dw_bp rfl rfl (dw_ic rfl (dw_ast rfl hH4 d_a65 (by decide) (by decide) (d_rl rfl) (k := 18) rfl (d_rl rfl) hF (fun s5 h5 hH5 hF => dw_ic rfl (dw_rC rfl rfl (Or.inr rfl) hH5 hF))))))
set_option maxRecDepth 100000 in
noncomputable def F_X12_sight (s : d_S) (x1 : Int) (x2 : Int) (x3 : Int) (x4 : Int) (x5 : Int) (x6 : Int) : Option (Int × d_S) :=
  d_b (F_X12_isIn x1 0 9) (fun v1 => if v1 = 0 then
  some ((-1), s)
  else
  d_b (F_X12_isIn x2 0 7) (fun v2 => if v2 = 0 then
  some ((-1), s)
  else
  d_b (F_X12_isIn x3 0 7) (fun v3 => if v3 = 0 then
  some ((-1), s)
  else
  d_b (F_X12_isIn x4 1 3) (fun v4 => if v4 = 0 then
  some ((-1), s)
  else
  d_b (F_X12_isIn x5 1 3) (fun v5 => if v5 = 0 then
  some ((-1), s)
  else
  d_b (F_X12_isIn x6 0 9) (fun v6 => if v6 = 0 then
  some ((-1), s)
  else
  if (s.1 65 16) < (d_w (x2 + x4)) then
  some ((-1), s)
  else
  if (s.1 65 17) < (d_w (x3 + x5)) then
  some ((-1), s)
  else
  if (s.1 65 0) = 12 then
  some ((-1), s)
  else
  d_l (d_w (212 + (6 * (s.1 65 0)))) (fun z7 => d_g (0 ≤ z7 ∧ z7 < 2517) (d_l (d_si s 65 ((z7).toNat) x1) (fun s9 => d_g (0 ≤ (d_w (z7 + 1)) ∧ (d_w (z7 + 1)) < 2517) (d_l (d_si s9 65 (((d_w (z7 + 1))).toNat) x2) (fun s11 => d_g (0 ≤ (d_w (z7 + 2)) ∧ (d_w (z7 + 2)) < 2517) (d_l (d_si s11 65 (((d_w (z7 + 2))).toNat) x3) (fun s13 => d_g (0 ≤ (d_w (z7 + 3)) ∧ (d_w (z7 + 3)) < 2517) (d_l (d_si s13 65 (((d_w (z7 + 3))).toNat) x4) (fun s15 => d_g (0 ≤ (d_w (z7 + 4)) ∧ (d_w (z7 + 4)) < 2517) (d_l (d_si s15 65 (((d_w (z7 + 4))).toNat) x5) (fun s17 => d_g (0 ≤ (d_w (z7 + 5)) ∧ (d_w (z7 + 5)) < 2517) (d_l (d_si s17 65 (((d_w (z7 + 5))).toNat) x6) (fun s19 => d_l (d_si s19 65 (0) (d_w ((s19.1 65 0) + 1))) (fun s20 => some ((d_w ((s20.1 65 0) - 1)), s20)))))))))))))))))))))
set_option maxRecDepth 100000 in
theorem D_X12_sight {t : Nat → Option p_C} {h : p_H} {s : d_S} {x1 : Int} {x2 : Int} {x3 : Int} {x4 : Int} {x5 : Int} {x6 : Int} {r : Int × d_S} (hF : F_X12_sight s x1 x2 x3 x4 x5 x6 = some r) (hH : d_V t h s) (r_x1 : d_R x1) (r_x2 : d_R x2) (r_x3 : d_R x3) (r_x4 : d_R x4) (r_x5 : d_R x5) (r_x6 : d_R x6) : p_wp p_GT p_MT 1 m_X12_sight 0 (lv_args 0 [.ref 64, .int (Int32.ofInt x1), .int (Int32.ofInt x2), .int (Int32.ofInt x3), .int (Int32.ofInt x4), .int (Int32.ofInt x5), .int (Int32.ofInt x6)]) [] h (d_QI t r) := by
  unfold F_X12_sight at hF
  refine dw_iln rfl rfl (dw_ic rfl (dw_bp rfl rfl (dw_sB hF rfl rfl rfl rfl rfl (dc := 0) (fun _ e => D_X12_isIn e r_x1 (d_rl rfl) (d_rl rfl)) (fun v1 r_v1 hF => ?_))))
  refine d_if hF (fun q hF => ?_) (fun q hF => ?_)
  · refine dw_zeq_y rfl (u := 61) rfl (d_R_b r_v1) q ?_
    exact dw_ic rfl (dw_rI rfl rfl (d_rl rfl) hH hF)
  · refine dw_zeq_n rfl (u := 61) rfl (d_R_b r_v1) q ?_
    refine dw_iln rfl rfl (dw_ic rfl (dw_bp rfl rfl (dw_sB hF rfl rfl rfl rfl rfl (dc := 0) (fun _ e => D_X12_isIn e r_x2 (d_rl rfl) (d_rl rfl)) (fun v2 r_v2 hF => ?_))))
    refine d_if hF (fun q hF => ?_) (fun q hF => ?_)
    · refine dw_zeq_y rfl (u := 61) rfl (d_R_b r_v2) q ?_
      exact dw_ic rfl (dw_rI rfl rfl (d_rl rfl) hH hF)
    · refine dw_zeq_n rfl (u := 61) rfl (d_R_b r_v2) q ?_
      refine dw_iln rfl rfl (dw_ic rfl (dw_bp rfl rfl (dw_sB hF rfl rfl rfl rfl rfl (dc := 0) (fun _ e => D_X12_isIn e r_x3 (d_rl rfl) (d_rl rfl)) (fun v3 r_v3 hF => ?_))))
      refine d_if hF (fun q hF => ?_) (fun q hF => ?_)
      · refine dw_zeq_y rfl (u := 61) rfl (d_R_b r_v3) q ?_
        exact dw_ic rfl (dw_rI rfl rfl (d_rl rfl) hH hF)
      · refine dw_zeq_n rfl (u := 61) rfl (d_R_b r_v3) q ?_
        refine dw_il rfl rfl (dw_ic rfl (dw_ic rfl (dw_sB hF rfl rfl rfl rfl rfl (dc := 0) (fun _ e => D_X12_isIn e r_x4 (d_rl rfl) (d_rl rfl)) (fun v4 r_v4 hF => ?_))))
        refine d_if hF (fun q hF => ?_) (fun q hF => ?_)
        · refine dw_zeq_y rfl (u := 61) rfl (d_R_b r_v4) q ?_
          exact dw_ic rfl (dw_rI rfl rfl (d_rl rfl) hH hF)
        · refine dw_zeq_n rfl (u := 61) rfl (d_R_b r_v4) q ?_
          refine dw_il rfl rfl (dw_ic rfl (dw_ic rfl (dw_sB hF rfl rfl rfl rfl rfl (dc := 0) (fun _ e => D_X12_isIn e r_x5 (d_rl rfl) (d_rl rfl)) (fun v5 r_v5 hF => ?_))))
          refine d_if hF (fun q hF => ?_) (fun q hF => ?_)
          · refine dw_zeq_y rfl (u := 61) rfl (d_R_b r_v5) q ?_
            exact dw_ic rfl (dw_rI rfl rfl (d_rl rfl) hH hF)
          · refine dw_zeq_n rfl (u := 61) rfl (d_R_b r_v5) q ?_
            refine dw_il rfl rfl (dw_ic rfl (dw_bp rfl rfl (dw_sB hF rfl rfl rfl rfl rfl (dc := 0) (fun _ e => D_X12_isIn e r_x6 (d_rl rfl) (d_rl rfl)) (fun v6 r_v6 hF => ?_))))
            refine d_if hF (fun q hF => ?_) (fun q hF => ?_)
            · refine dw_zne_y rfl (u := 63) rfl (d_R_b r_v6) q ?_
              exact dw_ic rfl (dw_rI rfl rfl (d_rl rfl) hH hF)
            · refine dw_zne_n rfl (u := 63) rfl (d_R_b r_v6) q ?_
              refine dw_iln rfl rfl (dw_il rfl rfl (dw_add rfl (dw_aln rfl rfl (dw_gr rfl rfl rfl hH d_c64_0 (dw_bp rfl rfl (dw_ald rfl hH d_a65 rfl (by decide) (by decide) (d_rl rfl) (k := 16) rfl (dw_w2 (?_))))))))
              refine d_if hF (fun q hF => ?_) (fun q hF => ?_)
              · refine dw_gt_y rfl (u := 102) rfl d_R_w hH.r q ?_
                exact dw_ic rfl (dw_rI rfl rfl (d_rl rfl) hH hF)
              · refine dw_gt_n rfl (u := 102) rfl d_R_w hH.r q ?_
                refine dw_iln rfl rfl (dw_il rfl rfl (dw_add rfl (dw_aln rfl rfl (dw_gr rfl rfl rfl hH d_c64_0 (dw_bp rfl rfl (dw_ald rfl hH d_a65 rfl (by decide) (by decide) (d_rl rfl) (k := 17) rfl (dw_w2 (?_))))))))
                refine d_if hF (fun q hF => ?_) (fun q hF => ?_)
                · refine dw_gt_y rfl (u := 102) rfl d_R_w hH.r q ?_
                  exact dw_ic rfl (dw_rI rfl rfl (d_rl rfl) hH hF)
                · refine dw_gt_n rfl (u := 102) rfl d_R_w hH.r q ?_
                  refine dw_aln rfl rfl (dw_gr rfl rfl rfl hH d_c64_0 (dw_ic rfl (dw_ald rfl hH d_a65 rfl (by decide) (by decide) (d_rl rfl) (k := 0) rfl (dw_bp rfl rfl (?_)))))
                  refine d_if hF (fun q hF => ?_) (fun q hF => ?_)
                  · refine dw_ne_y rfl (u := 104) rfl hH.r (d_rl rfl) q ?_
                    exact dw_ic rfl (dw_rI rfl rfl (d_rl rfl) hH hF)
                  · refine dw_ne_n rfl (u := 104) rfl hH.r (d_rl rfl) q ?_
                    refine dw_sp rfl rfl (dw_bp rfl rfl (dw_aln rfl rfl (dw_gr rfl rfl rfl hH d_c64_0 (dw_ic rfl (dw_ald rfl hH d_a65 rfl (by decide) (by decide) (d_rl rfl) (k := 0) rfl (dw_mul rfl (dw_add rfl (dw_w1 (dw_nm hF d_R_w (fun z7 r_z7 hF => ?_))))))))))
                    refine dw_is rfl rfl (dw_aln rfl (d_s1 rfl rfl (by decide)) (dw_gr rfl rfl rfl hH d_c64_0 (dw_il rfl p_lk_s1 (dw_iln rfl (d_s1 rfl rfl (by decide)) (d_gd hF (fun g8 hF => dw_ast rfl hH d_a65 g8.1 g8.2 r_z7 rfl r_x1 hF (fun s9 h9 hH9 hF => dw_aln rfl (d_s1 rfl rfl (by decide)) (dw_gr rfl rfl rfl hH9 d_c64_0 (dw_il rfl p_lk_s1 (?_))))))))))
                    refine dw_ic rfl (dw_add rfl (dw_iln rfl (d_s1 rfl rfl (by decide)) (dw_w2 (d_gd hF (fun g10 hF => dw_ast rfl hH9 d_a65 g10.1 g10.2 d_R_w rfl r_x2 hF (fun s11 h11 hH11 hF => dw_aln rfl (d_s1 rfl rfl (by decide)) (dw_gr rfl rfl rfl hH11 d_c64_0 (dw_il rfl p_lk_s1 (dw_ic rfl (?_))))))))))
                    refine dw_add rfl (dw_iln rfl (d_s1 rfl rfl (by decide)) (dw_w2 (d_gd hF (fun g12 hF => dw_ast rfl hH11 d_a65 g12.1 g12.2 d_R_w rfl r_x3 hF (fun s13 h13 hH13 hF => dw_aln rfl (d_s1 rfl rfl (by decide)) (dw_gr rfl rfl rfl hH13 d_c64_0 (dw_il rfl p_lk_s1 (dw_ic rfl (dw_add rfl (?_))))))))))
                    refine dw_il rfl (d_s1 rfl rfl (by decide)) (dw_w2 (d_gd hF (fun g14 hF => dw_ast rfl hH13 d_a65 g14.1 g14.2 d_R_w rfl r_x4 hF (fun s15 h15 hH15 hF => dw_aln rfl (d_s1 rfl rfl (by decide)) (dw_gr rfl rfl rfl hH15 d_c64_0 (dw_il rfl p_lk_s1 (dw_ic rfl (dw_add rfl (dw_il rfl (d_s1 rfl rfl (by decide)) (?_))))))))))
                    refine dw_w2 (d_gd hF (fun g16 hF => dw_ast rfl hH15 d_a65 g16.1 g16.2 d_R_w rfl r_x5 hF (fun s17 h17 hH17 hF => dw_aln rfl (d_s1 rfl rfl (by decide)) (dw_gr rfl rfl rfl hH17 d_c64_0 (dw_il rfl p_lk_s1 (dw_ic rfl (dw_add rfl (dw_il rfl (d_s1 rfl rfl (by decide)) (dw_w2 (?_))))))))))
                    refine d_gd hF (fun g18 hF => dw_ast rfl hH17 d_a65 g18.1 g18.2 d_R_w rfl r_x6 hF (fun s19 h19 hH19 hF => dw_aln rfl (d_s1 rfl rfl (by decide)) (dw_gr rfl rfl rfl hH19 d_c64_0 (dw_ic rfl (dw_dup2 rfl (dw_ald rfl hH19 d_a65 rfl (by decide) (by decide) (d_rl rfl) (k := 0) rfl (dw_ic rfl (dw_add rfl (dw_w1 (?_))))))))))
                    exact dw_ast rfl hH19 d_a65 (by decide) (by decide) (d_rl rfl) (k := 0) rfl d_R_w hF (fun s20 h20 hH20 hF => dw_aln rfl (d_s1 rfl rfl (by decide)) (dw_gr rfl rfl rfl hH20 d_c64_0 (dw_ic rfl (dw_ald rfl hH20 d_a65 rfl (by decide) (by decide) (d_rl rfl) (k := 0) rfl (dw_ic rfl (dw_sub rfl (dw_w1 (dw_rI rfl rfl d_R_w hH20 hF))))))))
set_option maxRecDepth 100000 in
noncomputable def F_X12_by (s : d_S) (x1 : Int) : Option (Int × d_S) :=
  d_b (F_X12_isIn x1 (-1) (d_w ((s.1 65 1) - 1))) (fun v1 => if v1 = 0 then
  some (0, s)
  else
  d_l (d_si s 65 (2) x1) (fun s2 => some (1, s2)))
set_option maxRecDepth 100000 in
theorem D_X12_by {t : Nat → Option p_C} {h : p_H} {s : d_S} {x1 : Int} {r : Int × d_S} (hF : F_X12_by s x1 = some r) (hH : d_V t h s) (r_x1 : d_R x1) : p_wp p_GT p_MT 1 m_X12_by 0 (lv_args 0 [.ref 64, .int (Int32.ofInt x1)]) [] h (d_QC t r) := by
  unfold F_X12_by at hF
  refine dw_iln rfl rfl (dw_ic rfl (dw_aln rfl rfl (dw_gr rfl rfl rfl hH d_c64_0 (dw_ic rfl (dw_ald rfl hH d_a65 rfl (by decide) (by decide) (d_rl rfl) (k := 1) rfl (dw_ic rfl (dw_sub rfl (dw_w1 (dw_sB hF rfl rfl rfl rfl rfl (dc := 0) (fun _ e => D_X12_isIn e r_x1 (d_rl rfl) d_R_w) (fun v1 r_v1 hF => ?_))))))))))
  refine d_if hF (fun q hF => ?_) (fun q hF => ?_)
  · refine dw_zne_y rfl (u := 18) rfl (d_R_b r_v1) q ?_
    exact dw_ic rfl (dw_rC rfl rfl (Or.inl rfl) hH hF)
  · refine dw_zne_n rfl (u := 18) rfl (d_R_b r_v1) q ?_
    exact dw_aln rfl rfl (dw_gr rfl rfl rfl hH d_c64_0 (dw_ic rfl (dw_iln rfl rfl (dw_ast rfl hH d_a65 (by decide) (by decide) (d_rl rfl) (k := 2) rfl r_x1 hF (fun s2 h2 hH2 hF => dw_ic rfl (dw_rC rfl rfl (Or.inr rfl) hH2 hF))))))
set_option maxRecDepth 100000 in
noncomputable def F_X12_name (s : d_S) (x1 : Int) (x2 : Int) (x3 : Int) (x4 : Int) (x5 : Int) : Option (d_S) :=
  d_l (d_si s 71 (0) x2) (fun s1 => d_l (d_si s1 71 (1) x3) (fun s2 => d_b (F_X12_wideOf s2 x1) (fun v3 => d_b (F_X12_highOf s2 x1) (fun v4 => d_l (d_si s2 71 (2) (d_w (v3 * v4))) (fun s5 => d_l (d_si s5 71 (3) x4) (fun s6 => d_l (d_si s6 71 (4) x5) (fun s7 => d_b (F_X12_edgeOf s7 x1) (fun v8 => d_l (d_si s7 71 (5) v8) (fun s9 => some s9)))))))))
set_option maxRecDepth 100000 in
theorem D_X12_name {t : Nat → Option p_C} {h : p_H} {s : d_S} {x1 : Int} {x2 : Int} {x3 : Int} {x4 : Int} {x5 : Int} {r : d_S} (hF : F_X12_name s x1 x2 x3 x4 x5 = some r) (hH : d_V t h s) (r_x1 : d_R x1) (r_x2 : d_R x2) (r_x3 : d_R x3) (r_x4 : d_R x4) (r_x5 : d_R x5) : p_wp p_GT p_MT 5 m_X12_name 0 (lv_args 0 [.ref 64, .int (Int32.ofInt x1), .int (Int32.ofInt x2), .int (Int32.ofInt x3), .int (Int32.ofInt x4), .int (Int32.ofInt x5)]) [] h (d_QV t r) := by
  unfold F_X12_name at hF
  refine dw_aln rfl rfl (dw_gr rfl rfl rfl hH d_c64_22 (dw_ic rfl (dw_iln rfl rfl (dw_ast rfl hH d_a71 (by decide) (by decide) (d_rl rfl) (k := 0) rfl r_x2 hF (fun s1 h1 hH1 hF => dw_aln rfl rfl (dw_gr rfl rfl rfl hH1 d_c64_22 (dw_ic rfl (dw_iln rfl rfl (dw_ast rfl hH1 d_a71 (by decide) (by decide) (d_rl rfl) (k := 1) rfl r_x3 hF (fun s2 h2 hH2 hF => ?_))))))))))
  refine dw_aln rfl rfl (dw_gr rfl rfl rfl hH2 d_c64_22 (dw_ic rfl (dw_aln rfl rfl (dw_iln rfl rfl (dw_vP hF rfl (d_vir (n := 2) rfl rfl rfl rfl rfl hH2 d_c64_0 rfl) rfl rfl rfl (dc := 3) (fun _ e => D_X12_wideOf e hH2 r_x1) (fun v3 r_v3 hF => dw_aln rfl rfl (dw_iln rfl rfl (dw_vP hF rfl (d_vir (n := 2) rfl rfl rfl rfl rfl hH2 d_c64_0 rfl) rfl rfl rfl (dc := 3) (fun _ e => D_X12_highOf e hH2 r_x1) (fun v4 r_v4 hF => dw_mul rfl (?_))))))))))
  refine dw_w1 (dw_ast rfl hH2 d_a71 (by decide) (by decide) (d_rl rfl) (k := 2) rfl d_R_w hF (fun s5 h5 hH5 hF => dw_aln rfl rfl (dw_gr rfl rfl rfl hH5 d_c64_22 (dw_ic rfl (dw_il rfl rfl (dw_ast rfl hH5 d_a71 (by decide) (by decide) (d_rl rfl) (k := 3) rfl r_x4 hF (fun s6 h6 hH6 hF => dw_aln rfl rfl (dw_gr rfl rfl rfl hH6 d_c64_22 (dw_ic rfl (?_))))))))))
  exact dw_il rfl rfl (dw_ast rfl hH6 d_a71 (by decide) (by decide) (d_rl rfl) (k := 4) rfl r_x5 hF (fun s7 h7 hH7 hF => dw_aln rfl rfl (dw_gr rfl rfl rfl hH7 d_c64_22 (dw_ic rfl (dw_aln rfl rfl (dw_iln rfl rfl (dw_vP hF rfl (d_vir (n := 2) rfl rfl rfl rfl rfl hH7 d_c64_0 rfl) rfl rfl rfl (dc := 4) (fun _ e => D_X12_edgeOf e hH7 r_x1) (fun v8 r_v8 hF => dw_ast rfl hH7 d_a71 (by decide) (by decide) (d_rl rfl) (k := 5) rfl r_v8 hF (fun s9 h9 hH9 hF => dw_rV rfl rfl hH9 hF)))))))))
set_option maxRecDepth 100000 in
noncomputable def F_X12_keep_l13_b (k46 : d_S → Option (d_S)) (rec : Int → d_S → Option (d_S)) (x1 : Int) (s : d_S) : Option (d_S) :=
  if x1 < 2059 then
  d_g (0 ≤ (d_w (458 + x1)) ∧ (d_w (458 + x1)) < 2517) (d_g (0 ≤ (d_w (387 + x1)) ∧ (d_w (387 + x1)) < 2517) (d_l (d_si s 65 (((d_w (387 + x1))).toNat) (s.1 65 (((d_w (458 + x1))).toNat))) (fun s3 => rec (d_w (x1 + 1)) s3)))
  else
  k46 s
set_option maxRecDepth 100000 in
noncomputable def F_X12_keep_l13 (k46 : d_S → Option (d_S)) : Nat → Int → d_S → Option (d_S)
  | 0 => fun _ _ => none
  | n + 1 => F_X12_keep_l13_b k46 (F_X12_keep_l13 k46 n)
set_option maxRecDepth 100000 in
theorem D_X12_keep_l13 {t : Nat → Option p_C} {k46 : d_S → Option (d_S)} {r : d_S} (hk46 : ∀ {ls : p_Ls} {s : d_S} {h : p_H}, k46 s = some r → d_V t h s → p_lk 0 ls = some (.ref 64) → p_wp p_GT p_MT 1 m_X12_keep 46 ls [] h (d_QV t r)) : ∀ (n : Nat) {x1 : Int} {ls : p_Ls} {s : d_S} {h : p_H}, F_X12_keep_l13 k46 n x1 s = some r → d_V t h s → p_lk 0 ls = some (.ref 64) → d_R x1 → p_lk 1 ls = some (.int (Int32.ofInt x1)) → p_wp p_GT p_MT 1 m_X12_keep 13 ls [] h (d_QV t r) := by
  intro n
  induction n with
  | zero =>
    intro x1 ls s h hF hH l0 r_x1 l1
    cases (show (none : Option (d_S)) = some r from hF)
  | succ n ih =>
    intro x1 ls s h hF hH l0 r_x1 l1
    have hF : F_X12_keep_l13_b k46 (F_X12_keep_l13 k46 n) x1 s = some r := hF
    unfold F_X12_keep_l13_b at hF
    refine dw_iln rfl l1 (dw_sp rfl rfl (?_))
    refine d_if hF (fun q hF => ?_) (fun q hF => ?_)
    · refine dw_ge_y rfl (u := 46) rfl r_x1 (d_rl rfl) q ?_
      refine dw_aln rfl l0 (dw_gr rfl rfl rfl hH d_c64_0 (dw_sp rfl rfl (dw_iln rfl l1 (dw_add rfl (dw_aln rfl l0 (dw_gr rfl rfl rfl hH d_c64_0 (dw_sp rfl rfl (dw_iln rfl l1 (dw_add rfl (?_))))))))))
      refine dw_w1 (d_gd hF (fun g1 hF => dw_ald rfl hH d_a65 rfl g1.1 g1.2 d_R_w rfl (dw_w2 (d_gd hF (fun g2 hF => dw_ast rfl hH d_a65 g2.1 g2.2 d_R_w rfl hH.r hF (fun s3 h3 hH3 hF => dw_ii rfl l1 rfl (dw_go rfl (u := 13) rfl (?_))))))))
      exact ih hF hH3 (d_s1 l0 rfl (by decide)) d_R_w p_lk_s1
    · refine dw_ge_n rfl (u := 46) rfl r_x1 (d_rl rfl) q ?_
      exact hk46 hF hH l0
set_option maxRecDepth 100000 in
noncomputable def F_X12_keep_l72_b (k101 : Int → d_S → Option (d_S)) (rec : Int → Int → d_S → Option (d_S)) (x1 : Int) (x2 : Int) (s : d_S) : Option (d_S) :=
  if x2 < 7 then
  d_g (0 ≤ (d_w (9 + x2)) ∧ (d_w (9 + x2)) < 2517) (d_g (0 ≤ (d_w (x1 + x2)) ∧ (d_w (x1 + x2)) < 2517) (d_l (d_si s 65 (((d_w (x1 + x2))).toNat) (s.1 65 (((d_w (9 + x2))).toNat))) (fun s9 => rec x1 (d_w (x2 + 1)) s9)))
  else
  k101 x1 s
set_option maxRecDepth 100000 in
noncomputable def F_X12_keep_l72 (k101 : Int → d_S → Option (d_S)) : Nat → Int → Int → d_S → Option (d_S)
  | 0 => fun _ _ _ => none
  | n + 1 => F_X12_keep_l72_b k101 (F_X12_keep_l72 k101 n)
set_option maxRecDepth 100000 in
theorem D_X12_keep_l72 {t : Nat → Option p_C} {k101 : Int → d_S → Option (d_S)} {r : d_S} (hk101 : ∀ {x1 : Int} {ls : p_Ls} {s : d_S} {h : p_H}, k101 x1 s = some r → d_V t h s → p_lk 0 ls = some (.ref 64) → d_R x1 → p_lk 1 ls = some (.int (Int32.ofInt x1)) → p_wp p_GT p_MT 1 m_X12_keep 101 ls [] h (d_QV t r)) : ∀ (n : Nat) {x1 : Int} {x2 : Int} {ls : p_Ls} {s : d_S} {h : p_H}, F_X12_keep_l72 k101 n x1 x2 s = some r → d_V t h s → p_lk 0 ls = some (.ref 64) → d_R x1 → p_lk 1 ls = some (.int (Int32.ofInt x1)) → d_R x2 → p_lk 2 ls = some (.int (Int32.ofInt x2)) → p_wp p_GT p_MT 1 m_X12_keep 72 ls [] h (d_QV t r) := by
  intro n
  induction n with
  | zero =>
    intro x1 x2 ls s h hF hH l0 r_x1 l1 r_x2 l2
    cases (show (none : Option (d_S)) = some r from hF)
  | succ n ih =>
    intro x1 x2 ls s h hF hH l0 r_x1 l1 r_x2 l2
    have hF : F_X12_keep_l72_b k101 (F_X12_keep_l72 k101 n) x1 x2 s = some r := hF
    unfold F_X12_keep_l72_b at hF
    refine dw_iln rfl l2 (dw_bp rfl rfl (?_))
    refine d_if hF (fun q hF => ?_) (fun q hF => ?_)
    · refine dw_ge_y rfl (u := 101) rfl r_x2 (d_rl rfl) q ?_
      refine dw_aln rfl l0 (dw_gr rfl rfl rfl hH d_c64_0 (dw_iln rfl l1 (dw_iln rfl l2 (dw_add rfl (dw_aln rfl l0 (dw_gr rfl rfl rfl hH d_c64_0 (dw_bp rfl rfl (dw_iln rfl l2 (dw_add rfl (?_))))))))))
      refine dw_w1 (d_gd hF (fun g7 hF => dw_ald rfl hH d_a65 rfl g7.1 g7.2 d_R_w rfl (dw_w2 (d_gd hF (fun g8 hF => dw_ast rfl hH d_a65 g8.1 g8.2 d_R_w rfl hH.r hF (fun s9 h9 hH9 hF => dw_ii rfl l2 rfl (dw_go rfl (u := 72) rfl (?_))))))))
      exact ih hF hH9 (d_s1 l0 rfl (by decide)) r_x1 (d_s1 l1 rfl (by decide)) d_R_w p_lk_s1
    · refine dw_ge_n rfl (u := 101) rfl r_x2 (d_rl rfl) q ?_
      exact hk101 hF hH l0 r_x1 l1
set_option maxRecDepth 100000 in
noncomputable def F_X12_keep_l103_b (k152 : d_S → Option (d_S)) (rec : Int → Int → d_S → Option (d_S)) (x1 : Int) (x2 : Int) (s : d_S) : Option (d_S) :=
  if x2 < 64 then
  d_b (F_X12_get s x2 2) (fun v11 => d_b (F_X12_get s x2 1) (fun v12 => d_b (F_X12_get s x2 0) (fun v13 => d_g (0 ≤ (d_w ((x1 + 7) + x2)) ∧ (d_w ((x1 + 7) + x2)) < 2517) (d_l (d_si s 65 (((d_w ((x1 + 7) + x2))).toNat) (d_w ((((v11 * 101) + v12) * 10) + v13))) (fun s15 => rec x1 (d_w (x2 + 1)) s15)))))
  else
  k152 s
set_option maxRecDepth 100000 in
noncomputable def F_X12_keep_l103 (k152 : d_S → Option (d_S)) : Nat → Int → Int → d_S → Option (d_S)
  | 0 => fun _ _ _ => none
  | n + 1 => F_X12_keep_l103_b k152 (F_X12_keep_l103 k152 n)
set_option maxRecDepth 100000 in
theorem D_X12_keep_l103 {t : Nat → Option p_C} {k152 : d_S → Option (d_S)} {r : d_S} (hk152 : ∀ {ls : p_Ls} {s : d_S} {h : p_H}, k152 s = some r → d_V t h s → p_lk 0 ls = some (.ref 64) → p_wp p_GT p_MT 1 m_X12_keep 152 ls [] h (d_QV t r)) : ∀ (n : Nat) {x1 : Int} {x2 : Int} {ls : p_Ls} {s : d_S} {h : p_H}, F_X12_keep_l103 k152 n x1 x2 s = some r → d_V t h s → p_lk 0 ls = some (.ref 64) → d_R x1 → p_lk 1 ls = some (.int (Int32.ofInt x1)) → d_R x2 → p_lk 2 ls = some (.int (Int32.ofInt x2)) → p_wp p_GT p_MT 1 m_X12_keep 103 ls [] h (d_QV t r) := by
  intro n
  induction n with
  | zero =>
    intro x1 x2 ls s h hF hH l0 r_x1 l1 r_x2 l2
    cases (show (none : Option (d_S)) = some r from hF)
  | succ n ih =>
    intro x1 x2 ls s h hF hH l0 r_x1 l1 r_x2 l2
    have hF : F_X12_keep_l103_b k152 (F_X12_keep_l103 k152 n) x1 x2 s = some r := hF
    unfold F_X12_keep_l103_b at hF
    refine dw_iln rfl l2 (dw_bp rfl rfl (?_))
    refine d_if hF (fun q hF => ?_) (fun q hF => ?_)
    · refine dw_ge_y rfl (u := 152) rfl r_x2 (d_rl rfl) q ?_
      refine dw_aln rfl l0 (dw_gr rfl rfl rfl hH d_c64_0 (dw_iln rfl l1 (dw_bp rfl rfl (dw_add rfl (dw_iln rfl l2 (dw_add rfl (dw_aln rfl l0 (dw_iln rfl l2 (dw_ic rfl (?_))))))))))
      refine dw_vP hF rfl (d_vir (n := 3) rfl rfl rfl rfl rfl hH d_c64_0 rfl) rfl rfl rfl (dc := 0) (fun _ e => D_X12_get e hH r_x2 (d_rl rfl)) (fun v11 r_v11 hF => dw_bp rfl rfl (dw_mul rfl (dw_aln rfl l0 (dw_iln rfl l2 (dw_ic rfl (dw_vP hF rfl (d_vir (n := 3) rfl rfl rfl rfl rfl hH d_c64_0 rfl) rfl rfl rfl (dc := 0) (fun _ e => D_X12_get e hH r_x2 (d_rl rfl)) (fun v12 r_v12 hF => dw_add rfl (dw_bp rfl rfl (dw_mul rfl (?_))))))))))
      refine dw_aln rfl l0 (dw_iln rfl l2 (dw_ic rfl (dw_vP hF rfl (d_vir (n := 3) rfl rfl rfl rfl rfl hH d_c64_0 rfl) rfl rfl rfl (dc := 0) (fun _ e => D_X12_get e hH r_x2 (d_rl rfl)) (fun v13 r_v13 hF => dw_add rfl (dw_w1 (dw_w2 (d_gd hF (fun g14 hF => dw_ast rfl hH d_a65 g14.1 g14.2 d_R_w rfl d_R_w hF (fun s15 h15 hH15 hF => dw_ii rfl l2 rfl (?_))))))))))
      refine dw_go rfl (u := 103) rfl (?_)
      exact ih hF hH15 (d_s1 l0 rfl (by decide)) r_x1 (d_s1 l1 rfl (by decide)) d_R_w p_lk_s1
    · refine dw_ge_n rfl (u := 152) rfl r_x2 (d_rl rfl) q ?_
      exact hk152 hF hH l0
set_option maxRecDepth 100000 in
noncomputable def F_X12_keep_j56 (s : d_S) : Option (d_S) :=
  d_l (d_w (387 + (71 * (s.1 65 3)))) (fun z6 => F_X12_keep_l72 (fun x1_u10 s_u10 =>
  F_X12_keep_l103 (fun s_u16 =>
  d_l (d_si s_u16 65 (3) (d_w ((s_u16.1 65 3) + 1))) (fun s17 => some s17)) d_N x1_u10 0 s_u10) d_N z6 0 s)
set_option maxRecDepth 100000 in
theorem D_X12_keep_j56 {t : Nat → Option p_C} {h : p_H} {s : d_S} {r : d_S} {ls : p_Ls} (hF : F_X12_keep_j56 s = some r) (hH : d_V t h s) (l0 : p_lk 0 ls = some (.ref 64)) : p_wp p_GT p_MT 1 m_X12_keep 56 ls [] h (d_QV t r) := by
  unfold F_X12_keep_j56 at hF
  refine dw_sp rfl rfl (dw_bp rfl rfl (dw_aln rfl l0 (dw_gr rfl rfl rfl hH d_c64_0 (dw_ic rfl (dw_ald rfl hH d_a65 rfl (by decide) (by decide) (d_rl rfl) (k := 3) rfl (dw_mul rfl (dw_add rfl (dw_w1 (dw_nm hF d_R_w (fun z6 r_z6 hF => ?_))))))))))
  refine dw_isn rfl rfl (dw_ic rfl (dw_isn rfl rfl (?_)))
  refine D_X12_keep_l72 (fun {x1_u10} {ls_u10} {s_u10} {h_u10} hF hH_u10 l0_u10 r_x1_u10 l1_u10 => ?_) _ hF hH (d_s1 (d_s1 l0 rfl (by decide)) rfl (by decide)) r_z6 (d_s1 p_lk_s1 rfl (by decide)) (d_rl rfl) p_lk_s1
  · refine dw_ic rfl (dw_isn rfl rfl (?_))
    refine D_X12_keep_l103 (fun {ls_u16} {s_u16} {h_u16} hF hH_u16 l0_u16 => ?_) _ hF hH_u10 (d_s1 l0_u10 rfl (by decide)) r_x1_u10 (d_s1 l1_u10 rfl (by decide)) (d_rl rfl) p_lk_s1
    · exact dw_aln rfl l0_u16 (dw_gr rfl rfl rfl hH_u16 d_c64_0 (dw_ic rfl (dw_dup2 rfl (dw_ald rfl hH_u16 d_a65 rfl (by decide) (by decide) (d_rl rfl) (k := 3) rfl (dw_ic rfl (dw_add rfl (dw_w1 (dw_ast rfl hH_u16 d_a65 (by decide) (by decide) (d_rl rfl) (k := 3) rfl d_R_w hF (fun s17 h17 hH17 hF => dw_rV rfl rfl hH17 hF)))))))))
set_option maxRecDepth 100000 in
noncomputable def F_X12_keep (s : d_S) : Option (d_S) :=
  if (s.1 65 3) = 30 then
  F_X12_keep_l13 (fun s_u4 =>
  d_l (d_si s_u4 65 (3) (d_w ((s_u4.1 65 3) - 1))) (fun s5 => F_X12_keep_j56 s5)) d_N 0 s
  else
  F_X12_keep_j56 s
set_option maxRecDepth 100000 in
theorem D_X12_keep {t : Nat → Option p_C} {h : p_H} {s : d_S} {r : d_S} (hF : F_X12_keep s = some r) (hH : d_V t h s) : p_wp p_GT p_MT 1 m_X12_keep 0 (lv_args 0 [.ref 64]) [] h (d_QV t r) := by
  unfold F_X12_keep at hF
  refine dw_aln rfl rfl (dw_gr rfl rfl rfl hH d_c64_0 (dw_ic rfl (dw_ald rfl hH d_a65 rfl (by decide) (by decide) (d_rl rfl) (k := 3) rfl (dw_bp rfl rfl (?_)))))
  refine d_if hF (fun q hF => ?_) (fun q hF => ?_)
  · refine dw_ne_y rfl (u := 56) rfl hH.r (d_rl rfl) q ?_
    refine dw_ic rfl (dw_isn rfl rfl (?_))
    refine D_X12_keep_l13 (fun {ls_u4} {s_u4} {h_u4} hF hH_u4 l0_u4 => ?_) _ hF hH (d_s1 rfl rfl (by decide)) (d_rl rfl) p_lk_s1
    · refine dw_aln rfl l0_u4 (dw_gr rfl rfl rfl hH_u4 d_c64_0 (dw_ic rfl (dw_dup2 rfl (dw_ald rfl hH_u4 d_a65 rfl (by decide) (by decide) (d_rl rfl) (k := 3) rfl (dw_ic rfl (dw_sub rfl (dw_w1 (dw_ast rfl hH_u4 d_a65 (by decide) (by decide) (d_rl rfl) (k := 3) rfl d_R_w hF (fun s5 h5 hH5 hF => ?_)))))))))
      exact D_X12_keep_j56 hF hH5 l0_u4
  · refine dw_ne_n rfl (u := 56) rfl hH.r (d_rl rfl) q ?_
    exact D_X12_keep_j56 hF hH rfl
set_option maxRecDepth 100000 in
noncomputable def F_X12_undo_l37_b (k66 : Int → d_S → Option (Int × d_S)) (rec : Int → Int → d_S → Option (Int × d_S)) (x1 : Int) (x2 : Int) (s : d_S) : Option (Int × d_S) :=
  if x2 < 7 then
  d_g (0 ≤ (d_w (x1 + x2)) ∧ (d_w (x1 + x2)) < 2517) (d_g (0 ≤ (d_w (9 + x2)) ∧ (d_w (9 + x2)) < 2517) (d_l (d_si s 65 (((d_w (9 + x2))).toNat) (s.1 65 (((d_w (x1 + x2))).toNat))) (fun s5 => rec x1 (d_w (x2 + 1)) s5)))
  else
  k66 x1 s
set_option maxRecDepth 100000 in
noncomputable def F_X12_undo_l37 (k66 : Int → d_S → Option (Int × d_S)) : Nat → Int → Int → d_S → Option (Int × d_S)
  | 0 => fun _ _ _ => none
  | n + 1 => F_X12_undo_l37_b k66 (F_X12_undo_l37 k66 n)
set_option maxRecDepth 100000 in
theorem D_X12_undo_l37 {t : Nat → Option p_C} {k66 : Int → d_S → Option (Int × d_S)} {r : Int × d_S} (hk66 : ∀ {x1 : Int} {ls : p_Ls} {s : d_S} {h : p_H}, k66 x1 s = some r → d_V t h s → p_lk 0 ls = some (.ref 64) → d_R x1 → p_lk 1 ls = some (.int (Int32.ofInt x1)) → p_wp p_GT p_MT 1 m_X12_undo 66 ls [] h (d_QI t r)) : ∀ (n : Nat) {x1 : Int} {x2 : Int} {ls : p_Ls} {s : d_S} {h : p_H}, F_X12_undo_l37 k66 n x1 x2 s = some r → d_V t h s → p_lk 0 ls = some (.ref 64) → d_R x1 → p_lk 1 ls = some (.int (Int32.ofInt x1)) → d_R x2 → p_lk 2 ls = some (.int (Int32.ofInt x2)) → p_wp p_GT p_MT 1 m_X12_undo 37 ls [] h (d_QI t r) := by
  intro n
  induction n with
  | zero =>
    intro x1 x2 ls s h hF hH l0 r_x1 l1 r_x2 l2
    cases (show (none : Option (Int × d_S)) = some r from hF)
  | succ n ih =>
    intro x1 x2 ls s h hF hH l0 r_x1 l1 r_x2 l2
    have hF : F_X12_undo_l37_b k66 (F_X12_undo_l37 k66 n) x1 x2 s = some r := hF
    unfold F_X12_undo_l37_b at hF
    refine dw_iln rfl l2 (dw_bp rfl rfl (?_))
    refine d_if hF (fun q hF => ?_) (fun q hF => ?_)
    · refine dw_ge_y rfl (u := 66) rfl r_x2 (d_rl rfl) q ?_
      refine dw_aln rfl l0 (dw_gr rfl rfl rfl hH d_c64_0 (dw_bp rfl rfl (dw_iln rfl l2 (dw_add rfl (dw_aln rfl l0 (dw_gr rfl rfl rfl hH d_c64_0 (dw_iln rfl l1 (dw_iln rfl l2 (dw_add rfl (?_))))))))))
      refine dw_w1 (d_gd hF (fun g3 hF => dw_ald rfl hH d_a65 rfl g3.1 g3.2 d_R_w rfl (dw_w2 (d_gd hF (fun g4 hF => dw_ast rfl hH d_a65 g4.1 g4.2 d_R_w rfl hH.r hF (fun s5 h5 hH5 hF => dw_ii rfl l2 rfl (dw_go rfl (u := 37) rfl (?_))))))))
      exact ih hF hH5 (d_s1 l0 rfl (by decide)) r_x1 (d_s1 l1 rfl (by decide)) d_R_w p_lk_s1
    · refine dw_ge_n rfl (u := 66) rfl r_x2 (d_rl rfl) q ?_
      exact hk66 hF hH l0 r_x1 l1
set_option maxRecDepth 100000 in
noncomputable def F_X12_undo_l68_b (k126 : d_S → Option (Int × d_S)) (rec : Int → Int → d_S → Option (Int × d_S)) (x1 : Int) (x2 : Int) (s : d_S) : Option (Int × d_S) :=
  if x2 < 64 then
  d_g (0 ≤ (d_w ((x1 + 7) + x2)) ∧ (d_w ((x1 + 7) + x2)) < 2517) (d_l (s.1 65 (((d_w ((x1 + 7) + x2))).toNat)) (fun z8 => d_b (F_X12_set s x2 0 (d_rem z8 10)) (fun s9 => d_b (F_X12_set s9 x2 1 (d_rem (d_div z8 10) 101)) (fun s10 => d_b (F_X12_set s10 x2 2 (d_div z8 1010)) (fun s11 => rec x1 (d_w (x2 + 1)) s11)))))
  else
  k126 s
set_option maxRecDepth 100000 in
noncomputable def F_X12_undo_l68 (k126 : d_S → Option (Int × d_S)) : Nat → Int → Int → d_S → Option (Int × d_S)
  | 0 => fun _ _ _ => none
  | n + 1 => F_X12_undo_l68_b k126 (F_X12_undo_l68 k126 n)
set_option maxRecDepth 100000 in
theorem D_X12_undo_l68 {t : Nat → Option p_C} {k126 : d_S → Option (Int × d_S)} {r : Int × d_S} (hk126 : ∀ {ls : p_Ls} {s : d_S} {h : p_H}, k126 s = some r → d_V t h s → p_lk 0 ls = some (.ref 64) → p_wp p_GT p_MT 1 m_X12_undo 126 ls [] h (d_QI t r)) : ∀ (n : Nat) {x1 : Int} {x2 : Int} {ls : p_Ls} {s : d_S} {h : p_H}, F_X12_undo_l68 k126 n x1 x2 s = some r → d_V t h s → p_lk 0 ls = some (.ref 64) → d_R x1 → p_lk 1 ls = some (.int (Int32.ofInt x1)) → d_R x2 → p_lk 2 ls = some (.int (Int32.ofInt x2)) → p_wp p_GT p_MT 1 m_X12_undo 68 ls [] h (d_QI t r) := by
  intro n
  induction n with
  | zero =>
    intro x1 x2 ls s h hF hH l0 r_x1 l1 r_x2 l2
    cases (show (none : Option (Int × d_S)) = some r from hF)
  | succ n ih =>
    intro x1 x2 ls s h hF hH l0 r_x1 l1 r_x2 l2
    have hF : F_X12_undo_l68_b k126 (F_X12_undo_l68 k126 n) x1 x2 s = some r := hF
    unfold F_X12_undo_l68_b at hF
    refine dw_iln rfl l2 (dw_bp rfl rfl (?_))
    refine d_if hF (fun q hF => ?_) (fun q hF => ?_)
    · refine dw_ge_y rfl (u := 126) rfl r_x2 (d_rl rfl) q ?_
      refine dw_aln rfl l0 (dw_gr rfl rfl rfl hH d_c64_0 (dw_iln rfl l1 (dw_bp rfl rfl (dw_add rfl (dw_iln rfl l2 (dw_add rfl (dw_w1 (d_gd hF (fun g7 hF => dw_ald rfl hH d_a65 rfl g7.1 g7.2 d_R_w rfl (?_))))))))))
      refine dw_nm hF hH.r (fun z8 r_z8 hF => dw_isn rfl rfl (dw_aln rfl (d_s1 l0 rfl (by decide)) (dw_iln rfl (d_s1 l2 rfl (by decide)) (dw_ic rfl (dw_iln rfl p_lk_s1 (dw_bp rfl rfl (dw_rem rfl (d_rl rfl) (by decide) (dw_vV hF rfl (d_vir (n := 4) rfl rfl rfl rfl rfl hH d_c64_0 rfl) rfl rfl rfl (dc := 0) (fun _ e => D_X12_set e hH r_x2 (d_rl rfl) d_R_t) (fun s9 h9 hH9 hF => dw_aln rfl (d_s1 l0 rfl (by decide)) (?_))))))))))
      refine dw_iln rfl (d_s1 l2 rfl (by decide)) (dw_ic rfl (dw_iln rfl p_lk_s1 (dw_bp rfl rfl (dw_div rfl (d_rl rfl) (by decide) (dw_bp rfl rfl (dw_rem rfl (d_rl rfl) (by decide) (dw_vV hF rfl (d_vir (n := 4) rfl rfl rfl rfl rfl hH9 d_c64_0 rfl) rfl rfl rfl (dc := 0) (fun _ e => D_X12_set e hH9 r_x2 (d_rl rfl) d_R_t) (fun s10 h10 hH10 hF => dw_aln rfl (d_s1 l0 rfl (by decide)) (dw_iln rfl (d_s1 l2 rfl (by decide)) (?_))))))))))
      refine dw_ic rfl (dw_iln rfl p_lk_s1 (dw_sp rfl rfl (dw_div rfl (d_rl rfl) (by decide) (dw_vV hF rfl (d_vir (n := 4) rfl rfl rfl rfl rfl hH10 d_c64_0 rfl) rfl rfl rfl (dc := 0) (fun _ e => D_X12_set e hH10 r_x2 (d_rl rfl) d_R_t) (fun s11 h11 hH11 hF => dw_ii rfl (d_s1 l2 rfl (by decide)) rfl (dw_go rfl (u := 68) rfl (?_)))))))
      exact ih hF hH11 (d_s1 (d_s1 l0 rfl (by decide)) rfl (by decide)) r_x1 (d_s1 (d_s1 l1 rfl (by decide)) rfl (by decide)) d_R_w p_lk_s1
    · refine dw_ge_n rfl (u := 126) rfl r_x2 (d_rl rfl) q ?_
      exact hk126 hF hH l0
set_option maxRecDepth 100000 in
noncomputable def F_X12_undo (s : d_S) : Option (Int × d_S) :=
  if (s.1 65 3) = 0 then
  some ((-1), s)
  else
  d_l (d_si s 65 (3) (d_w ((s.1 65 3) - 1))) (fun s1 => d_l (d_w (387 + (71 * (s1.1 65 3)))) (fun z2 => F_X12_undo_l37 (fun x1_u6 s_u6 =>
  F_X12_undo_l68 (fun s_u12 =>
  some ((s_u12.1 65 3), s_u12)) d_N x1_u6 0 s_u6) d_N z2 0 s1))
set_option maxRecDepth 100000 in
theorem D_X12_undo {t : Nat → Option p_C} {h : p_H} {s : d_S} {r : Int × d_S} (hF : F_X12_undo s = some r) (hH : d_V t h s) : p_wp p_GT p_MT 1 m_X12_undo 0 (lv_args 0 [.ref 64]) [] h (d_QI t r) := by
  unfold F_X12_undo at hF
  refine dw_aln rfl rfl (dw_gr rfl rfl rfl hH d_c64_0 (dw_ic rfl (dw_ald rfl hH d_a65 rfl (by decide) (by decide) (d_rl rfl) (k := 3) rfl (?_))))
  refine d_if hF (fun q hF => ?_) (fun q hF => ?_)
  · refine dw_zne_y rfl (u := 11) rfl hH.r q ?_
    exact dw_ic rfl (dw_rI rfl rfl (d_rl rfl) hH hF)
  · refine dw_zne_n rfl (u := 11) rfl hH.r q ?_
    refine dw_aln rfl rfl (dw_gr rfl rfl rfl hH d_c64_0 (dw_ic rfl (dw_dup2 rfl (dw_ald rfl hH d_a65 rfl (by decide) (by decide) (d_rl rfl) (k := 3) rfl (dw_ic rfl (dw_sub rfl (dw_w1 (dw_ast rfl hH d_a65 (by decide) (by decide) (d_rl rfl) (k := 3) rfl d_R_w hF (fun s1 h1 hH1 hF => dw_sp rfl rfl (?_))))))))))
    refine dw_bp rfl rfl (dw_aln rfl rfl (dw_gr rfl rfl rfl hH1 d_c64_0 (dw_ic rfl (dw_ald rfl hH1 d_a65 rfl (by decide) (by decide) (d_rl rfl) (k := 3) rfl (dw_mul rfl (dw_add rfl (dw_w1 (dw_nm hF d_R_w (fun z2 r_z2 hF => dw_isn rfl rfl (?_))))))))))
    refine dw_ic rfl (dw_isn rfl rfl (?_))
    refine D_X12_undo_l37 (fun {x1_u6} {ls_u6} {s_u6} {h_u6} hF hH_u6 l0_u6 r_x1_u6 l1_u6 => ?_) _ hF hH1 (d_s1 (d_s1 rfl rfl (by decide)) rfl (by decide)) r_z2 (d_s1 p_lk_s1 rfl (by decide)) (d_rl rfl) p_lk_s1
    · refine dw_ic rfl (dw_isn rfl rfl (?_))
      refine D_X12_undo_l68 (fun {ls_u12} {s_u12} {h_u12} hF hH_u12 l0_u12 => ?_) _ hF hH_u6 (d_s1 l0_u6 rfl (by decide)) r_x1_u6 (d_s1 l1_u6 rfl (by decide)) (d_rl rfl) p_lk_s1
      · exact dw_aln rfl l0_u12 (dw_gr rfl rfl rfl hH_u12 d_c64_0 (dw_ic rfl (dw_ald rfl hH_u12 d_a65 rfl (by decide) (by decide) (d_rl rfl) (k := 3) rfl (dw_rI rfl rfl hH_u12.r hH_u12 hF))))
set_option maxRecDepth 100000 in
noncomputable def F_X12_has (x0 : Int) (x1 : Int) : Option (Int) :=
  if (d_and (d_shr x0 x1) 1) = 1 then
  some 1
  else
  some 0
set_option maxRecDepth 100000 in
theorem D_X12_has {h : p_H} {x0 : Int} {x1 : Int} {r : Int} (hF : F_X12_has x0 x1 = some r) (r_x0 : d_R x0) (r_x1 : d_R x1) : p_wp p_GT p_MT 0 m_X12_has 0 (lv_args 0 [.int (Int32.ofInt x0), .int (Int32.ofInt x1)]) [] h (d_QB h r) := by
  unfold F_X12_has at hF
  refine dw_iln rfl rfl (dw_iln rfl rfl (dw_shr rfl (dw_ic rfl (dw_and rfl (dw_ic rfl (?_))))))
  refine d_if hF (fun q hF => ?_) (fun q hF => ?_)
  · refine dw_ne_y rfl (u := 13) rfl d_R_t (d_rl rfl) q ?_
    exact dw_ic rfl (dw_go rfl (u := 14) rfl (dw_rB rfl rfl (Or.inr rfl) hF))
  · refine dw_ne_n rfl (u := 13) rfl d_R_t (d_rl rfl) q ?_
    exact dw_ic rfl (dw_rB rfl rfl (Or.inl rfl) hF)
set_option maxRecDepth 100000 in
noncomputable def F_X12_saw_l57_b (k83 : Int → Int → d_S → Option (Int × d_S)) (rec : Int → Int → Int → d_S → Option (Int × d_S)) (x1 : Int) (x3 : Int) (x4 : Int) (s : d_S) : Option (Int × d_S) :=
  if x4 < 212 then
  d_g (0 ≤ x4 ∧ x4 < 2517) (if (s.1 65 (x4.toNat)) = 0 then
  rec x1 x3 (d_w (x4 + 1)) s
  else
  some ((-1), s))
  else
  k83 x1 x3 s
set_option maxRecDepth 100000 in
noncomputable def F_X12_saw_l57 (k83 : Int → Int → d_S → Option (Int × d_S)) : Nat → Int → Int → Int → d_S → Option (Int × d_S)
  | 0 => fun _ _ _ _ => none
  | n + 1 => F_X12_saw_l57_b k83 (F_X12_saw_l57 k83 n)
set_option maxRecDepth 100000 in
theorem D_X12_saw_l57 {t : Nat → Option p_C} {k83 : Int → Int → d_S → Option (Int × d_S)} {r : Int × d_S} (hk83 : ∀ {x1 : Int} {x3 : Int} {ls : p_Ls} {s : d_S} {h : p_H}, k83 x1 x3 s = some r → d_V t h s → p_lk 0 ls = some (.ref 64) → d_R x1 → p_lk 1 ls = some (.int (Int32.ofInt x1)) → d_R x3 → p_lk 3 ls = some (.int (Int32.ofInt x3)) → p_wp p_GT p_MT 3 m_X12_saw 83 ls [] h (d_QI t r)) : ∀ (n : Nat) {x1 : Int} {x3 : Int} {x4 : Int} {ls : p_Ls} {s : d_S} {h : p_H}, F_X12_saw_l57 k83 n x1 x3 x4 s = some r → d_V t h s → p_lk 0 ls = some (.ref 64) → d_R x1 → p_lk 1 ls = some (.int (Int32.ofInt x1)) → d_R x3 → p_lk 3 ls = some (.int (Int32.ofInt x3)) → d_R x4 → p_lk 4 ls = some (.int (Int32.ofInt x4)) → p_wp p_GT p_MT 3 m_X12_saw 57 ls [] h (d_QI t r) := by
  intro n
  induction n with
  | zero =>
    intro x1 x3 x4 ls s h hF hH l0 r_x1 l1 r_x3 l3 r_x4 l4
    cases (show (none : Option (Int × d_S)) = some r from hF)
  | succ n ih =>
    intro x1 x3 x4 ls s h hF hH l0 r_x1 l1 r_x3 l3 r_x4 l4
    have hF : F_X12_saw_l57_b k83 (F_X12_saw_l57 k83 n) x1 x3 x4 s = some r := hF
    unfold F_X12_saw_l57_b at hF
    refine dw_il rfl l4 (dw_sp rfl rfl (?_))
    refine d_if hF (fun q hF => ?_) (fun q hF => ?_)
    · refine dw_ge_y rfl (u := 83) rfl r_x4 (d_rl rfl) q ?_
      refine dw_aln rfl l0 (dw_gr rfl rfl rfl hH d_c64_0 (dw_il rfl l4 (d_gd hF (fun g5 hF => dw_ald rfl hH d_a65 rfl g5.1 g5.2 r_x4 rfl (?_)))))
      refine d_if hF (fun q hF => ?_) (fun q hF => ?_)
      · refine dw_zeq_y rfl (u := 77) rfl hH.r q ?_
        refine dw_ii rfl l4 rfl (dw_go rfl (u := 57) rfl (?_))
        exact ih hF hH (d_s1 l0 rfl (by decide)) r_x1 (d_s1 l1 rfl (by decide)) r_x3 (d_s1 l3 rfl (by decide)) d_R_w p_lk_s1
      · refine dw_zeq_n rfl (u := 77) rfl hH.r q ?_
        exact dw_ic rfl (dw_rI rfl rfl (d_rl rfl) hH hF)
    · refine dw_ge_n rfl (u := 83) rfl r_x4 (d_rl rfl) q ?_
      exact hk83 hF hH l0 r_x1 l1 r_x3 l3
set_option maxRecDepth 100000 in
noncomputable def F_X12_saw_j29_0 (x1 : Int) (x3 : Int) (y0 : Int) (y3 : Int) (s : d_S) : Option (Int × d_S) :=
  d_g (0 ≤ y3 ∧ y3 < 2517) (d_b (F_X12_isIn y0 0 (d_w ((s.1 65 (y3.toNat)) - 2))) (fun v2 => if v2 = 0 then
  some ((-1), s)
  else
  d_g (0 ≤ x3 ∧ x3 < 2517) (d_b (F_X12_has (s.1 65 (x3.toNat)) x1) (fun v4 => if v4 = 0 then
  F_X12_saw_l57 (fun x1_u6 x3_u6 s_u6 =>
  d_b (F_X12_keep s_u6) (fun s7 => d_g (0 ≤ x3_u6 ∧ x3_u6 < 2517) (d_g (0 ≤ x3_u6 ∧ x3_u6 < 2517) (d_l (d_si s7 65 ((x3_u6).toNat) (d_or (s7.1 65 (x3_u6.toNat)) (d_shl 1 x1_u6))) (fun s10 => d_b (F_X12_blocks s10) (fun v11 => some (v11, s10))))))) d_N x1 x3 20 s
  else
  some ((-1), s)))))
set_option maxRecDepth 100000 in
theorem D_X12_saw_j29_0 {t : Nat → Option p_C} {h : p_H} {s : d_S} {x1 : Int} {x3 : Int} {y0 : Int} {y3 : Int} {r : Int × d_S} {ls : p_Ls} (hF : F_X12_saw_j29_0 x1 x3 y0 y3 s = some r) (hH : d_V t h s) (l0 : p_lk 0 ls = some (.ref 64)) (r_x1 : d_R x1) (l1 : p_lk 1 ls = some (.int (Int32.ofInt x1))) (r_x3 : d_R x3) (l3 : p_lk 3 ls = some (.int (Int32.ofInt x3))) (r_y0 : d_R y0) (r_y3 : d_R y3) : p_wp p_GT p_MT 3 m_X12_saw 29 ls [.int (Int32.ofInt y3), .ref 65, .int (Int32.ofInt 0), .int (Int32.ofInt y0)] h (d_QI t r) := by
  unfold F_X12_saw_j29_0 at hF
  refine d_gd hF (fun g1 hF => dw_ald rfl hH d_a65 rfl g1.1 g1.2 r_y3 rfl (dw_ic rfl (dw_sub rfl (dw_w1 (dw_sB hF rfl rfl rfl rfl rfl (dc := 0) (fun _ e => D_X12_isIn e r_y0 (d_rl rfl) d_R_w) (fun v2 r_v2 hF => ?_))))))
  refine d_if hF (fun q hF => ?_) (fun q hF => ?_)
  · refine dw_zeq_y rfl (u := 51) rfl (d_R_b r_v2) q ?_
    exact dw_ic rfl (dw_rI rfl rfl (d_rl rfl) hH hF)
  · refine dw_zeq_n rfl (u := 51) rfl (d_R_b r_v2) q ?_
    refine dw_aln rfl l0 (dw_gr rfl rfl rfl hH d_c64_0 (dw_iln rfl l3 (d_gd hF (fun g3 hF => dw_ald rfl hH d_a65 rfl g3.1 g3.2 r_x3 rfl (dw_iln rfl l1 (dw_sB hF rfl rfl rfl rfl rfl (dc := 0) (fun _ e => D_X12_has e hH.r r_x1) (fun v4 r_v4 hF => ?_)))))))
    refine d_if hF (fun q hF => ?_) (fun q hF => ?_)
    · refine dw_zeq_y rfl (u := 53) rfl (d_R_b r_v4) q ?_
      refine dw_bp rfl rfl (dw_is rfl rfl (?_))
      refine D_X12_saw_l57 (fun {x1_u6} {x3_u6} {ls_u6} {s_u6} {h_u6} hF hH_u6 l0_u6 r_x1_u6 l1_u6 r_x3_u6 l3_u6 => ?_) _ hF hH (d_s1 l0 rfl (by decide)) r_x1 (d_s1 l1 rfl (by decide)) r_x3 (d_s1 l3 rfl (by decide)) (d_rl rfl) p_lk_s1
      · refine dw_aln rfl l0_u6 (dw_vV hF rfl (d_vir (n := 1) rfl rfl rfl rfl rfl hH_u6 d_c64_0 rfl) rfl rfl rfl (dc := 1) (fun _ e => D_X12_keep e hH_u6) (fun s7 h7 hH7 hF => dw_aln rfl l0_u6 (dw_gr rfl rfl rfl hH7 d_c64_0 (dw_iln rfl l3_u6 (dw_dup2 rfl (d_gd hF (fun g8 hF => dw_ald rfl hH7 d_a65 rfl g8.1 g8.2 r_x3_u6 rfl (dw_ic rfl (dw_iln rfl l1_u6 (?_))))))))))
        exact dw_shl rfl (dw_or rfl (d_gd hF (fun g9 hF => dw_ast rfl hH7 d_a65 g9.1 g9.2 r_x3_u6 rfl d_R_t hF (fun s10 h10 hH10 hF => dw_aln rfl l0_u6 (dw_vP hF rfl (d_vir (n := 1) rfl rfl rfl rfl rfl hH10 d_c64_0 rfl) rfl rfl rfl (dc := 2) (fun _ e => D_X12_blocks e hH10) (fun v11 r_v11 hF => dw_rI rfl rfl r_v11 hH10 hF))))))
    · refine dw_zeq_n rfl (u := 53) rfl (d_R_b r_v4) q ?_
      exact dw_ic rfl (dw_rI rfl rfl (d_rl rfl) hH hF)
set_option maxRecDepth 100000 in
noncomputable def F_X12_saw_j11 (x1 : Int) (x2 : Int) (y0 : Int) (s : d_S) : Option (Int × d_S) :=
  if x2 = 0 then
  F_X12_saw_j29_0 x1 y0 x1 17 s
  else
  F_X12_saw_j29_0 x1 y0 x1 16 s
set_option maxRecDepth 100000 in
theorem D_X12_saw_j11 {t : Nat → Option p_C} {h : p_H} {s : d_S} {x1 : Int} {x2 : Int} {y0 : Int} {r : Int × d_S} {ls : p_Ls} (hF : F_X12_saw_j11 x1 x2 y0 s = some r) (hH : d_V t h s) (l0 : p_lk 0 ls = some (.ref 64)) (r_x1 : d_R x1) (l1 : p_lk 1 ls = some (.int (Int32.ofInt x1))) (r_x2 : d_R x2) (l2 : p_lk 2 ls = some (.int (Int32.ofInt x2))) (r_y0 : d_R y0) : p_wp p_GT p_MT 3 m_X12_saw 11 ls [.int (Int32.ofInt y0)] h (d_QI t r) := by
  unfold F_X12_saw_j11 at hF
  refine dw_isn rfl rfl (dw_iln rfl (d_s1 l1 rfl (by decide)) (dw_ic rfl (dw_aln rfl (d_s1 l0 rfl (by decide)) (dw_gr rfl rfl rfl hH d_c64_0 (dw_iln rfl (d_s1 l2 rfl (by decide)) (?_))))))
  refine d_if hF (fun q hF => ?_) (fun q hF => ?_)
  · refine dw_zeq_y rfl (u := 27) rfl r_x2 q ?_
    refine dw_bp rfl rfl (?_)
    exact D_X12_saw_j29_0 hF hH (d_s1 l0 rfl (by decide)) r_x1 (d_s1 l1 rfl (by decide)) r_y0 p_lk_s1 r_x1 (d_rl rfl)
  · refine dw_zeq_n rfl (u := 27) rfl r_x2 q ?_
    refine dw_bp rfl rfl (dw_go rfl (u := 29) rfl (?_))
    exact D_X12_saw_j29_0 hF hH (d_s1 l0 rfl (by decide)) r_x1 (d_s1 l1 rfl (by decide)) r_y0 p_lk_s1 r_x1 (d_rl rfl)
set_option maxRecDepth 100000 in
noncomputable def F_X12_saw (s : d_S) (x1 : Int) (x2 : Int) : Option (Int × d_S) :=
  if x2 = 0 then
  F_X12_saw_j11 x1 x2 15 s
  else
  F_X12_saw_j11 x1 x2 14 s
set_option maxRecDepth 100000 in
theorem D_X12_saw {t : Nat → Option p_C} {h : p_H} {s : d_S} {x1 : Int} {x2 : Int} {r : Int × d_S} (hF : F_X12_saw s x1 x2 = some r) (hH : d_V t h s) (r_x1 : d_R x1) (r_x2 : d_R x2) : p_wp p_GT p_MT 3 m_X12_saw 0 (lv_args 0 [.ref 64, .int (Int32.ofInt x1), .int (Int32.ofInt x2)]) [] h (d_QI t r) := by
  unfold F_X12_saw at hF
  refine dw_iln rfl rfl (?_)
  refine d_if hF (fun q hF => ?_) (fun q hF => ?_)
  · refine dw_zeq_y rfl (u := 9) rfl r_x2 q ?_
    refine dw_bp rfl rfl (?_)
    exact D_X12_saw_j11 hF hH rfl r_x1 rfl r_x2 rfl (d_rl rfl)
  · refine dw_zeq_n rfl (u := 9) rfl r_x2 q ?_
    refine dw_bp rfl rfl (dw_go rfl (u := 11) rfl (?_))
    exact D_X12_saw_j11 hF hH rfl r_x1 rfl r_x2 rfl (d_rl rfl)
set_option maxRecDepth 100000 in
noncomputable def F_X12_canLay (s : d_S) (x1 : Int) (x2 : Int) : Option (Int) :=
  d_b (F_X12_isBlock s x2) (fun v1 => if v1 = 0 then
  some 0
  else
  d_b (F_X12_isSold s x2) (fun v2 => if v2 = 0 then
  d_b (F_X12_get s x2 0) (fun v3 => d_b (F_X12_isIn (d_w (v3 + x1)) 0 9) (fun v4 => if v4 = 0 then
  some 0
  else
  d_b (F_X12_isIn (d_w ((s.1 65 12) - x1)) 0 99) (fun v5 => if v5 = 0 then
  some 0
  else
  some 1)))
  else
  some 0))
set_option maxRecDepth 100000 in
theorem D_X12_canLay {t : Nat → Option p_C} {h : p_H} {s : d_S} {x1 : Int} {x2 : Int} {r : Int} (hF : F_X12_canLay s x1 x2 = some r) (hH : d_V t h s) (r_x1 : d_R x1) (r_x2 : d_R x2) : p_wp p_GT p_MT 4 m_X12_canLay 0 (lv_args 0 [.ref 64, .int (Int32.ofInt x1), .int (Int32.ofInt x2)]) [] h (d_QB h r) := by
  unfold F_X12_canLay at hF
  refine dw_aln rfl rfl (dw_iln rfl rfl (dw_vB hF rfl (d_vir (n := 2) rfl rfl rfl rfl rfl hH d_c64_0 rfl) rfl rfl rfl (dc := 3) (fun _ e => D_X12_isBlock e hH r_x2) (fun v1 r_v1 hF => ?_)))
  refine d_if hF (fun q hF => ?_) (fun q hF => ?_)
  · refine dw_zeq_y rfl (u := 55) rfl (d_R_b r_v1) q ?_
    exact dw_ic rfl (dw_rB rfl rfl (Or.inl rfl) hF)
  · refine dw_zeq_n rfl (u := 55) rfl (d_R_b r_v1) q ?_
    refine dw_aln rfl rfl (dw_iln rfl rfl (dw_vB hF rfl (d_vir (n := 2) rfl rfl rfl rfl rfl hH d_c64_0 rfl) rfl rfl rfl (dc := 1) (fun _ e => D_X12_isSold e hH r_x2) (fun v2 r_v2 hF => ?_)))
    refine d_if hF (fun q hF => ?_) (fun q hF => ?_)
    · refine dw_zne_y rfl (u := 55) rfl (d_R_b r_v2) q ?_
      refine dw_aln rfl rfl (dw_iln rfl rfl (dw_ic rfl (dw_vP hF rfl (d_vir (n := 3) rfl rfl rfl rfl rfl hH d_c64_0 rfl) rfl rfl rfl (dc := 0) (fun _ e => D_X12_get e hH r_x2 (d_rl rfl)) (fun v3 r_v3 hF => dw_iln rfl rfl (dw_add rfl (dw_ic rfl (dw_bp rfl rfl (dw_w3 (dw_sB hF rfl rfl rfl rfl rfl (dc := 0) (fun _ e => D_X12_isIn e d_R_w (d_rl rfl) (d_rl rfl)) (fun v4 r_v4 hF => ?_))))))))))
      refine d_if hF (fun q hF => ?_) (fun q hF => ?_)
      · refine dw_zeq_y rfl (u := 55) rfl (d_R_b r_v4) q ?_
        exact dw_ic rfl (dw_rB rfl rfl (Or.inl rfl) hF)
      · refine dw_zeq_n rfl (u := 55) rfl (d_R_b r_v4) q ?_
        refine dw_aln rfl rfl (dw_gr rfl rfl rfl hH d_c64_0 (dw_bp rfl rfl (dw_ald rfl hH d_a65 rfl (by decide) (by decide) (d_rl rfl) (k := 12) rfl (dw_iln rfl rfl (dw_sub rfl (dw_ic rfl (dw_bp rfl rfl (dw_w3 (dw_sB hF rfl rfl rfl rfl rfl (dc := 0) (fun _ e => D_X12_isIn e d_R_w (d_rl rfl) (d_rl rfl)) (fun v5 r_v5 hF => ?_))))))))))
        refine d_if hF (fun q hF => ?_) (fun q hF => ?_)
        · refine dw_zeq_y rfl (u := 55) rfl (d_R_b r_v5) q ?_
          exact dw_ic rfl (dw_rB rfl rfl (Or.inl rfl) hF)
        · refine dw_zeq_n rfl (u := 55) rfl (d_R_b r_v5) q ?_
          exact dw_ic rfl (dw_go rfl (u := 56) rfl (dw_rB rfl rfl (Or.inr rfl) hF))
    · refine dw_zne_n rfl (u := 55) rfl (d_R_b r_v2) q ?_
      exact dw_ic rfl (dw_rB rfl rfl (Or.inl rfl) hF)
set_option maxRecDepth 100000 in
noncomputable def F_X12_layNow (s : d_S) (x1 : Int) (x2 : Int) : Option (d_S) :=
  d_b (F_X12_get s x2 0) (fun v1 => d_b (F_X12_set s x2 0 (d_w (v1 + x1))) (fun s2 => d_l (d_si s2 65 (12) (d_w ((s2.1 65 12) - x1))) (fun s3 => some s3)))
set_option maxRecDepth 100000 in
theorem D_X12_layNow {t : Nat → Option p_C} {h : p_H} {s : d_S} {x1 : Int} {x2 : Int} {r : d_S} (hF : F_X12_layNow s x1 x2 = some r) (hH : d_V t h s) (r_x1 : d_R x1) (r_x2 : d_R x2) : p_wp p_GT p_MT 1 m_X12_layNow 0 (lv_args 0 [.ref 64, .int (Int32.ofInt x1), .int (Int32.ofInt x2)]) [] h (d_QV t r) := by
  unfold F_X12_layNow at hF
  refine dw_aln rfl rfl (dw_iln rfl rfl (dw_ic rfl (dw_aln rfl rfl (dw_iln rfl rfl (dw_ic rfl (dw_vP hF rfl (d_vir (n := 3) rfl rfl rfl rfl rfl hH d_c64_0 rfl) rfl rfl rfl (dc := 0) (fun _ e => D_X12_get e hH r_x2 (d_rl rfl)) (fun v1 r_v1 hF => dw_iln rfl rfl (dw_add rfl (dw_w1 (?_))))))))))
  refine dw_vV hF rfl (d_vir (n := 4) rfl rfl rfl rfl rfl hH d_c64_0 rfl) rfl rfl rfl (dc := 0) (fun _ e => D_X12_set e hH r_x2 (d_rl rfl) d_R_w) (fun s2 h2 hH2 hF => dw_aln rfl rfl (dw_gr rfl rfl rfl hH2 d_c64_0 (dw_bp rfl rfl (dw_dup2 rfl (dw_ald rfl hH2 d_a65 rfl (by decide) (by decide) (d_rl rfl) (k := 12) rfl (dw_iln rfl rfl (dw_sub rfl (dw_w1 (dw_ast rfl hH2 d_a65 (by decide) (by decide) (d_rl rfl) (k := 12) rfl d_R_w hF (fun s3 h3 hH3 hF => ?_))))))))))
  exact dw_rV rfl rfl hH3 hF
set_option maxRecDepth 100000 in
noncomputable def F_X12_straw (s : d_S) (x1 : Int) (x2 : Int) : Option (Int × d_S) :=
  if x1 = 0 then
  some ((-1), s)
  else
  d_b (F_X12_isIn x1 (-9) 9) (fun v1 => if v1 = 0 then
  some ((-1), s)
  else
  d_b (F_X12_canLay s x1 x2) (fun v2 => if v2 = 0 then
  some ((-1), s)
  else
  d_b (F_X12_keep s) (fun s3 => d_b (F_X12_layNow s3 x1 x2) (fun s4 => d_b (F_X12_get s4 x2 0) (fun v5 => some (v5, s4))))))
set_option maxRecDepth 100000 in
theorem D_X12_straw {t : Nat → Option p_C} {h : p_H} {s : d_S} {x1 : Int} {x2 : Int} {r : Int × d_S} (hF : F_X12_straw s x1 x2 = some r) (hH : d_V t h s) (r_x1 : d_R x1) (r_x2 : d_R x2) : p_wp p_GT p_MT 5 m_X12_straw 0 (lv_args 0 [.ref 64, .int (Int32.ofInt x1), .int (Int32.ofInt x2)]) [] h (d_QI t r) := by
  unfold F_X12_straw at hF
  refine dw_iln rfl rfl (?_)
  refine d_if hF (fun q hF => ?_) (fun q hF => ?_)
  · refine dw_zeq_y rfl (u := 24) rfl r_x1 q ?_
    exact dw_ic rfl (dw_rI rfl rfl (d_rl rfl) hH hF)
  · refine dw_zeq_n rfl (u := 24) rfl r_x1 q ?_
    refine dw_iln rfl rfl (dw_bp rfl rfl (dw_bp rfl rfl (dw_sB hF rfl rfl rfl rfl rfl (dc := 0) (fun _ e => D_X12_isIn e r_x1 (d_rl rfl) (d_rl rfl)) (fun v1 r_v1 hF => ?_))))
    refine d_if hF (fun q hF => ?_) (fun q hF => ?_)
    · refine dw_zeq_y rfl (u := 24) rfl (d_R_b r_v1) q ?_
      exact dw_ic rfl (dw_rI rfl rfl (d_rl rfl) hH hF)
    · refine dw_zeq_n rfl (u := 24) rfl (d_R_b r_v1) q ?_
      refine dw_aln rfl rfl (dw_iln rfl rfl (dw_iln rfl rfl (dw_vB hF rfl (d_vir (n := 3) rfl rfl rfl rfl rfl hH d_c64_0 rfl) rfl rfl rfl (dc := 4) (fun _ e => D_X12_canLay e hH r_x1 r_x2) (fun v2 r_v2 hF => ?_))))
      refine d_if hF (fun q hF => ?_) (fun q hF => ?_)
      · refine dw_zne_y rfl (u := 26) rfl (d_R_b r_v2) q ?_
        exact dw_ic rfl (dw_rI rfl rfl (d_rl rfl) hH hF)
      · refine dw_zne_n rfl (u := 26) rfl (d_R_b r_v2) q ?_
        refine dw_aln rfl rfl (dw_vV hF rfl (d_vir (n := 1) rfl rfl rfl rfl rfl hH d_c64_0 rfl) rfl rfl rfl (dc := 1) (fun _ e => D_X12_keep e hH) (fun s3 h3 hH3 hF => dw_aln rfl rfl (dw_iln rfl rfl (dw_iln rfl rfl (dw_vV hF rfl (d_vir (n := 3) rfl rfl rfl rfl rfl hH3 d_c64_0 rfl) rfl rfl rfl (dc := 1) (fun _ e => D_X12_layNow e hH3 r_x1 r_x2) (fun s4 h4 hH4 hF => dw_aln rfl rfl (dw_iln rfl rfl (dw_ic rfl (dw_vP hF rfl (d_vir (n := 3) rfl rfl rfl rfl rfl hH4 d_c64_0 rfl) rfl rfl rfl (dc := 0) (fun _ e => D_X12_get e hH4 r_x2 (d_rl rfl)) (fun v5 r_v5 hF => ?_))))))))))
        exact dw_rI rfl rfl r_v5 hH4 hF

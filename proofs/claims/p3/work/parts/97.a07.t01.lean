set_option maxRecDepth 100000 in
noncomputable def F_X12_worded (s : d_S) (x1 : Int) (x3 : Int) (x4 : Int) (x5 : Int) : Option (Int × d_S) :=
  d_b (F_X12_isWord s x1) (fun v1 => if v1 = 0 then
  some (1, s)
  else
  d_b (F_X12_nextToken s) (fun s2 => d_b2 (F_X12_figure s2 x3 x4 x5) (fun v3 s4 => some (v3, s4))))
set_option maxRecDepth 100000 in
theorem D_X12_worded {t : Nat → Option p_C} {h : p_H} {s : d_S} {x1 : Int} {x3 : Int} {x4 : Int} {x5 : Int} {r : Int × d_S} (hF : F_X12_worded s x1 x3 x4 x5 = some r) (hH : d_V t h s) (r_x1 : d_RL x1) (r_x3 : d_R x3) (r_x4 : d_R x4) (r_x5 : d_R x5) : p_wp p_GT p_MT 3 m_X12_worded 0 (lv_args 0 [.ref 64, .long (Int64.ofInt x1), .int (Int32.ofInt x3), .int (Int32.ofInt x4), .int (Int32.ofInt x5)]) [] h (d_QI t r) := by
  unfold F_X12_worded at hF
  refine dw_aln rfl rfl (dw_lln rfl rfl (dw_vB hF rfl (d_vir (n := 2) rfl rfl rfl rfl rfl hH d_c64_0 rfl) rfl rfl rfl (dc := 0) (fun _ e => D_X12_isWord e hH r_x1) (fun v1 r_v1 hF => ?_)))
  refine d_if hF (fun q hF => ?_) (fun q hF => ?_)
  · refine dw_zne_y rfl (u := 10) rfl (d_R_b r_v1) q ?_
    exact dw_ic rfl (dw_rI rfl rfl (d_rl rfl) hH hF)
  · refine dw_zne_n rfl (u := 10) rfl (d_R_b r_v1) q ?_
    exact dw_aln rfl rfl (dw_vV hF rfl (d_vir (n := 1) rfl rfl rfl rfl rfl hH d_c64_0 rfl) rfl rfl rfl (dc := 1) (fun _ e => D_X12_nextToken e hH) (fun s2 h2 hH2 hF => dw_aln rfl rfl (dw_iln rfl rfl (dw_il rfl rfl (dw_il rfl rfl (dw_vI hF rfl (d_vir (n := 4) rfl rfl rfl rfl rfl hH2 d_c64_0 rfl) rfl rfl rfl (dc := 2) (fun _ _ e => D_X12_figure e hH2 r_x3 r_x4 r_x5) (fun v3 s4 h4 hH4 r_v3 hF => dw_rI rfl rfl r_v3 hH4 hF)))))))
set_option maxRecDepth 100000 in
noncomputable def F_X12_pondClause (s : d_S) (x1 : Int) : Option (Int × d_S) :=
  d_b2 (F_X12_figure s (d_w (x1 + 1)) 2 8) (fun v1 s2 => if v1 = 0 then
  d_b (F_X12_w2 98 121) (fun v3 => d_b2 (F_X12_worded s2 v3 (d_w (x1 + 2)) 2 8) (fun v4 s5 => some (v4, s5)))
  else
  some (v1, s2))
set_option maxRecDepth 100000 in
theorem D_X12_pondClause {t : Nat → Option p_C} {h : p_H} {s : d_S} {x1 : Int} {r : Int × d_S} (hF : F_X12_pondClause s x1 = some r) (hH : d_V t h s) (r_x1 : d_R x1) : p_wp p_GT p_MT 4 m_X12_pondClause 0 (lv_args 0 [.ref 64, .int (Int32.ofInt x1)]) [] h (d_QI t r) := by
  unfold F_X12_pondClause at hF
  refine dw_aln rfl rfl (dw_iln rfl rfl (dw_ic rfl (dw_add rfl (dw_ic rfl (dw_bp rfl rfl (dw_w3 (dw_vI hF rfl (d_vir (n := 4) rfl rfl rfl rfl rfl hH d_c64_0 rfl) rfl rfl rfl (dc := 2) (fun _ _ e => D_X12_figure e hH d_R_w (d_rl rfl) (d_rl rfl)) (fun v1 s2 h2 hH2 r_v1 hF => dw_isn rfl rfl (dw_iln rfl p_lk_s1 (?_))))))))))
  refine d_if hF (fun q hF => ?_) (fun q hF => ?_)
  · refine dw_zeq_y rfl (u := 19) rfl r_v1 q ?_
    refine dw_aln rfl (d_s1 rfl rfl (by decide)) (dw_bp rfl rfl (dw_bp rfl rfl (dw_sL hF rfl rfl rfl rfl rfl (dc := 0) (fun _ e => D_X12_w2 e (d_rl rfl) (d_rl rfl)) (fun v3 r_v3 hF => dw_iln rfl (d_s1 rfl rfl (by decide)) (dw_ic rfl (dw_add rfl (dw_ic rfl (dw_bp rfl rfl (dw_w3 (?_))))))))))
    exact dw_vI hF rfl (d_vir (n := 5) rfl rfl rfl rfl rfl hH2 d_c64_0 rfl) rfl rfl rfl (dc := 3) (fun _ _ e => D_X12_worded e hH2 r_v3 d_R_w (d_rl rfl) (d_rl rfl)) (fun v4 s5 h5 hH5 r_v4 hF => dw_rI rfl rfl r_v4 hH5 hF)
  · refine dw_zeq_n rfl (u := 19) rfl r_v1 q ?_
    exact dw_iln rfl p_lk_s1 (dw_go rfl (u := 36) rfl (dw_rI rfl rfl r_v1 hH2 hF))
set_option maxRecDepth 100000 in
noncomputable def F_X12_signed (s : d_S) (x1 : Int) (x2 : Int) (x3 : Int) (x4 : Int) : Option (Int × d_S) :=
  if (s.1 64 9) = x1 then
  d_b (F_X12_nextToken s) (fun s1 => d_b2 (F_X12_figure s1 x2 x3 x4) (fun v2 s3 => some (v2, s3)))
  else
  some (1, s)
set_option maxRecDepth 100000 in
theorem D_X12_signed {t : Nat → Option p_C} {h : p_H} {s : d_S} {x1 : Int} {x2 : Int} {x3 : Int} {x4 : Int} {r : Int × d_S} (hF : F_X12_signed s x1 x2 x3 x4 = some r) (hH : d_V t h s) (r_x1 : d_R x1) (r_x2 : d_R x2) (r_x3 : d_R x3) (r_x4 : d_R x4) : p_wp p_GT p_MT 3 m_X12_signed 0 (lv_args 0 [.ref 64, .int (Int32.ofInt x1), .int (Int32.ofInt x2), .int (Int32.ofInt x3), .int (Int32.ofInt x4)]) [] h (d_QI t r) := by
  unfold F_X12_signed at hF
  refine dw_aln rfl rfl (dw_gi (k := 9) rfl rfl rfl hH d_c64_9 (dw_iln rfl rfl (?_)))
  refine d_if hF (fun q hF => ?_) (fun q hF => ?_)
  · refine dw_eq_y rfl (u := 10) rfl hH.r r_x1 q ?_
    exact dw_aln rfl rfl (dw_vV hF rfl (d_vir (n := 1) rfl rfl rfl rfl rfl hH d_c64_0 rfl) rfl rfl rfl (dc := 1) (fun _ e => D_X12_nextToken e hH) (fun s1 h1 hH1 hF => dw_aln rfl rfl (dw_iln rfl rfl (dw_iln rfl rfl (dw_il rfl rfl (dw_vI hF rfl (d_vir (n := 4) rfl rfl rfl rfl rfl hH1 d_c64_0 rfl) rfl rfl rfl (dc := 2) (fun _ _ e => D_X12_figure e hH1 r_x2 r_x3 r_x4) (fun v2 s3 h3 hH3 r_v2 hF => dw_rI rfl rfl r_v2 hH3 hF)))))))
  · refine dw_eq_n rfl (u := 10) rfl hH.r r_x1 q ?_
    exact dw_ic rfl (dw_rI rfl rfl (d_rl rfl) hH hF)
set_option maxRecDepth 100000 in
noncomputable def F_X12_sightClause_j82 (x1 : Int) (x2 : Int) (s : d_S) : Option (Int × d_S) :=
  if x2 = 0 then
  d_b (F_X12_w4 100 101 101 112) (fun v12 => d_b2 (F_X12_worded s v12 (d_w (x1 + 6)) 0 9) (fun v13 s14 => some (v13, s14)))
  else
  some (x2, s)
set_option maxRecDepth 100000 in
theorem D_X12_sightClause_j82 {t : Nat → Option p_C} {h : p_H} {s : d_S} {x1 : Int} {x2 : Int} {r : Int × d_S} {ls : p_Ls} (hF : F_X12_sightClause_j82 x1 x2 s = some r) (hH : d_V t h s) (l0 : p_lk 0 ls = some (.ref 64)) (r_x1 : d_R x1) (l1 : p_lk 1 ls = some (.int (Int32.ofInt x1))) (r_x2 : d_R x2) (l2 : p_lk 2 ls = some (.int (Int32.ofInt x2))) : p_wp p_GT p_MT 4 m_X12_sightClause 82 ls [] h (d_QI t r) := by
  unfold F_X12_sightClause_j82 at hF
  refine dw_iln rfl l2 (?_)
  refine d_if hF (fun q hF => ?_) (fun q hF => ?_)
  · refine dw_zeq_y rfl (u := 90) rfl r_x2 q ?_
    refine dw_aln rfl l0 (dw_bp rfl rfl (dw_bp rfl rfl (dw_bp rfl rfl (dw_bp rfl rfl (dw_sL hF rfl rfl rfl rfl rfl (dc := 2) (fun _ e => D_X12_w4 e (d_rl rfl) (d_rl rfl) (d_rl rfl) (d_rl rfl)) (fun v12 r_v12 hF => dw_iln rfl l1 (dw_bp rfl rfl (dw_add rfl (dw_ic rfl (?_))))))))))
    exact dw_bp rfl rfl (dw_w3 (dw_vI hF rfl (d_vir (n := 5) rfl rfl rfl rfl rfl hH d_c64_0 rfl) rfl rfl rfl (dc := 3) (fun _ _ e => D_X12_worded e hH r_v12 d_R_w (d_rl rfl) (d_rl rfl)) (fun v13 s14 h14 hH14 r_v13 hF => dw_rI rfl rfl r_v13 hH14 hF)))
  · refine dw_zeq_n rfl (u := 90) rfl r_x2 q ?_
    exact dw_iln rfl l2 (dw_go rfl (u := 112) rfl (dw_rI rfl rfl r_x2 hH hF))
set_option maxRecDepth 100000 in
noncomputable def F_X12_sightClause_j66 (x1 : Int) (x2 : Int) (s : d_S) : Option (Int × d_S) :=
  if x2 = 0 then
  d_b2 (F_X12_signed s 44 (d_w (x1 + 5)) 1 3) (fun v10 s11 => F_X12_sightClause_j82 x1 v10 s11)
  else
  F_X12_sightClause_j82 x1 x2 s
set_option maxRecDepth 100000 in
theorem D_X12_sightClause_j66 {t : Nat → Option p_C} {h : p_H} {s : d_S} {x1 : Int} {x2 : Int} {r : Int × d_S} {ls : p_Ls} (hF : F_X12_sightClause_j66 x1 x2 s = some r) (hH : d_V t h s) (l0 : p_lk 0 ls = some (.ref 64)) (r_x1 : d_R x1) (l1 : p_lk 1 ls = some (.int (Int32.ofInt x1))) (r_x2 : d_R x2) (l2 : p_lk 2 ls = some (.int (Int32.ofInt x2))) : p_wp p_GT p_MT 4 m_X12_sightClause 66 ls [] h (d_QI t r) := by
  unfold F_X12_sightClause_j66 at hF
  refine dw_iln rfl l2 (?_)
  refine d_if hF (fun q hF => ?_) (fun q hF => ?_)
  · refine dw_zne_y rfl (u := 82) rfl r_x2 q ?_
    refine dw_aln rfl l0 (dw_bp rfl rfl (dw_iln rfl l1 (dw_ic rfl (dw_add rfl (dw_ic rfl (dw_ic rfl (dw_w3 (dw_vI hF rfl (d_vir (n := 5) rfl rfl rfl rfl rfl hH d_c64_0 rfl) rfl rfl rfl (dc := 3) (fun _ _ e => D_X12_signed e hH (d_rl rfl) d_R_w (d_rl rfl) (d_rl rfl)) (fun v10 s11 h11 hH11 r_v10 hF => dw_isn rfl rfl (?_))))))))))
    exact D_X12_sightClause_j82 hF hH11 (d_s1 l0 rfl (by decide)) r_x1 (d_s1 l1 rfl (by decide)) r_v10 p_lk_s1
  · refine dw_zne_n rfl (u := 82) rfl r_x2 q ?_
    exact D_X12_sightClause_j82 hF hH l0 r_x1 l1 r_x2 l2
set_option maxRecDepth 100000 in
noncomputable def F_X12_sightClause_j50 (x1 : Int) (x2 : Int) (s : d_S) : Option (Int × d_S) :=
  if x2 = 0 then
  d_b2 (F_X12_signed s 58 (d_w (x1 + 4)) 1 3) (fun v8 s9 => F_X12_sightClause_j66 x1 v8 s9)
  else
  F_X12_sightClause_j66 x1 x2 s
set_option maxRecDepth 100000 in
theorem D_X12_sightClause_j50 {t : Nat → Option p_C} {h : p_H} {s : d_S} {x1 : Int} {x2 : Int} {r : Int × d_S} {ls : p_Ls} (hF : F_X12_sightClause_j50 x1 x2 s = some r) (hH : d_V t h s) (l0 : p_lk 0 ls = some (.ref 64)) (r_x1 : d_R x1) (l1 : p_lk 1 ls = some (.int (Int32.ofInt x1))) (r_x2 : d_R x2) (l2 : p_lk 2 ls = some (.int (Int32.ofInt x2))) : p_wp p_GT p_MT 4 m_X12_sightClause 50 ls [] h (d_QI t r) := by
  unfold F_X12_sightClause_j50 at hF
  refine dw_iln rfl l2 (?_)
  refine d_if hF (fun q hF => ?_) (fun q hF => ?_)
  · refine dw_zne_y rfl (u := 66) rfl r_x2 q ?_
    refine dw_aln rfl l0 (dw_bp rfl rfl (dw_iln rfl l1 (dw_ic rfl (dw_add rfl (dw_ic rfl (dw_ic rfl (dw_w3 (dw_vI hF rfl (d_vir (n := 5) rfl rfl rfl rfl rfl hH d_c64_0 rfl) rfl rfl rfl (dc := 3) (fun _ _ e => D_X12_signed e hH (d_rl rfl) d_R_w (d_rl rfl) (d_rl rfl)) (fun v8 s9 h9 hH9 r_v8 hF => dw_isn rfl rfl (?_))))))))))
    exact D_X12_sightClause_j66 hF hH9 (d_s1 l0 rfl (by decide)) r_x1 (d_s1 l1 rfl (by decide)) r_v8 p_lk_s1
  · refine dw_zne_n rfl (u := 66) rfl r_x2 q ?_
    exact D_X12_sightClause_j66 hF hH l0 r_x1 l1 r_x2 l2
set_option maxRecDepth 100000 in
noncomputable def F_X12_sightClause_j33 (x1 : Int) (x2 : Int) (s : d_S) : Option (Int × d_S) :=
  if x2 = 0 then
  d_b2 (F_X12_signed s 44 (d_w (x1 + 3)) 0 7) (fun v6 s7 => F_X12_sightClause_j50 x1 v6 s7)
  else
  F_X12_sightClause_j50 x1 x2 s
set_option maxRecDepth 100000 in
theorem D_X12_sightClause_j33 {t : Nat → Option p_C} {h : p_H} {s : d_S} {x1 : Int} {x2 : Int} {r : Int × d_S} {ls : p_Ls} (hF : F_X12_sightClause_j33 x1 x2 s = some r) (hH : d_V t h s) (l0 : p_lk 0 ls = some (.ref 64)) (r_x1 : d_R x1) (l1 : p_lk 1 ls = some (.int (Int32.ofInt x1))) (r_x2 : d_R x2) (l2 : p_lk 2 ls = some (.int (Int32.ofInt x2))) : p_wp p_GT p_MT 4 m_X12_sightClause 33 ls [] h (d_QI t r) := by
  unfold F_X12_sightClause_j33 at hF
  refine dw_iln rfl l2 (?_)
  refine d_if hF (fun q hF => ?_) (fun q hF => ?_)
  · refine dw_zne_y rfl (u := 50) rfl r_x2 q ?_
    refine dw_aln rfl l0 (dw_bp rfl rfl (dw_iln rfl l1 (dw_ic rfl (dw_add rfl (dw_ic rfl (dw_bp rfl rfl (dw_w3 (dw_vI hF rfl (d_vir (n := 5) rfl rfl rfl rfl rfl hH d_c64_0 rfl) rfl rfl rfl (dc := 3) (fun _ _ e => D_X12_signed e hH (d_rl rfl) d_R_w (d_rl rfl) (d_rl rfl)) (fun v6 s7 h7 hH7 r_v6 hF => dw_isn rfl rfl (?_))))))))))
    exact D_X12_sightClause_j50 hF hH7 (d_s1 l0 rfl (by decide)) r_x1 (d_s1 l1 rfl (by decide)) r_v6 p_lk_s1
  · refine dw_zne_n rfl (u := 50) rfl r_x2 q ?_
    exact D_X12_sightClause_j50 hF hH l0 r_x1 l1 r_x2 l2
set_option maxRecDepth 100000 in
noncomputable def F_X12_sightClause (s : d_S) (x1 : Int) : Option (Int × d_S) :=
  d_b2 (F_X12_figure s (d_w (x1 + 1)) 0 9) (fun v1 s2 => if v1 = 0 then
  d_b (F_X12_w2 97 116) (fun v3 => d_b2 (F_X12_worded s2 v3 (d_w (x1 + 2)) 0 7) (fun v4 s5 => F_X12_sightClause_j33 x1 v4 s5))
  else
  F_X12_sightClause_j33 x1 v1 s2)
set_option maxRecDepth 100000 in
theorem D_X12_sightClause {t : Nat → Option p_C} {h : p_H} {s : d_S} {x1 : Int} {r : Int × d_S} (hF : F_X12_sightClause s x1 = some r) (hH : d_V t h s) (r_x1 : d_R x1) : p_wp p_GT p_MT 4 m_X12_sightClause 0 (lv_args 0 [.ref 64, .int (Int32.ofInt x1)]) [] h (d_QI t r) := by
  unfold F_X12_sightClause at hF
  refine dw_aln rfl rfl (dw_iln rfl rfl (dw_ic rfl (dw_add rfl (dw_ic rfl (dw_bp rfl rfl (dw_w3 (dw_vI hF rfl (d_vir (n := 4) rfl rfl rfl rfl rfl hH d_c64_0 rfl) rfl rfl rfl (dc := 2) (fun _ _ e => D_X12_figure e hH d_R_w (d_rl rfl) (d_rl rfl)) (fun v1 s2 h2 hH2 r_v1 hF => dw_isn rfl rfl (dw_iln rfl p_lk_s1 (?_))))))))))
  refine d_if hF (fun q hF => ?_) (fun q hF => ?_)
  · refine dw_zne_y rfl (u := 33) rfl r_v1 q ?_
    refine dw_aln rfl (d_s1 rfl rfl (by decide)) (dw_bp rfl rfl (dw_bp rfl rfl (dw_sL hF rfl rfl rfl rfl rfl (dc := 0) (fun _ e => D_X12_w2 e (d_rl rfl) (d_rl rfl)) (fun v3 r_v3 hF => dw_iln rfl (d_s1 rfl rfl (by decide)) (dw_ic rfl (dw_add rfl (dw_ic rfl (dw_bp rfl rfl (dw_w3 (?_))))))))))
    refine dw_vI hF rfl (d_vir (n := 5) rfl rfl rfl rfl rfl hH2 d_c64_0 rfl) rfl rfl rfl (dc := 3) (fun _ _ e => D_X12_worded e hH2 r_v3 d_R_w (d_rl rfl) (d_rl rfl)) (fun v4 s5 h5 hH5 r_v4 hF => dw_isn rfl rfl (?_))
    exact D_X12_sightClause_j33 hF hH5 (d_s1 (d_s1 rfl rfl (by decide)) rfl (by decide)) r_x1 (d_s1 (d_s1 rfl rfl (by decide)) rfl (by decide)) r_v4 p_lk_s1
  · refine dw_zne_n rfl (u := 33) rfl r_v1 q ?_
    exact D_X12_sightClause_j33 hF hH2 (d_s1 rfl rfl (by decide)) r_x1 (d_s1 rfl rfl (by decide)) r_v1 p_lk_s1
set_option maxRecDepth 100000 in
noncomputable def F_X12_strawClause (s : d_S) (x1 : Int) : Option (Int × d_S) :=
  d_b2 (F_X12_figure s (d_w (x1 + 1)) 1 9) (fun v1 s2 => if v1 = 0 then
  d_b (F_X12_w2 116 111) (fun v3 => d_b2 (F_X12_worded s2 v3 (d_w (x1 + 2)) 0 63) (fun v4 s5 => some (v4, s5)))
  else
  some (v1, s2))
set_option maxRecDepth 100000 in
theorem D_X12_strawClause {t : Nat → Option p_C} {h : p_H} {s : d_S} {x1 : Int} {r : Int × d_S} (hF : F_X12_strawClause s x1 = some r) (hH : d_V t h s) (r_x1 : d_R x1) : p_wp p_GT p_MT 4 m_X12_strawClause 0 (lv_args 0 [.ref 64, .int (Int32.ofInt x1)]) [] h (d_QI t r) := by
  unfold F_X12_strawClause at hF
  refine dw_aln rfl rfl (dw_iln rfl rfl (dw_ic rfl (dw_add rfl (dw_ic rfl (dw_bp rfl rfl (dw_w3 (dw_vI hF rfl (d_vir (n := 4) rfl rfl rfl rfl rfl hH d_c64_0 rfl) rfl rfl rfl (dc := 2) (fun _ _ e => D_X12_figure e hH d_R_w (d_rl rfl) (d_rl rfl)) (fun v1 s2 h2 hH2 r_v1 hF => dw_isn rfl rfl (dw_iln rfl p_lk_s1 (?_))))))))))
  refine d_if hF (fun q hF => ?_) (fun q hF => ?_)
  · refine dw_zeq_y rfl (u := 19) rfl r_v1 q ?_
    refine dw_aln rfl (d_s1 rfl rfl (by decide)) (dw_bp rfl rfl (dw_bp rfl rfl (dw_sL hF rfl rfl rfl rfl rfl (dc := 0) (fun _ e => D_X12_w2 e (d_rl rfl) (d_rl rfl)) (fun v3 r_v3 hF => dw_iln rfl (d_s1 rfl rfl (by decide)) (dw_ic rfl (dw_add rfl (dw_ic rfl (dw_bp rfl rfl (dw_w3 (?_))))))))))
    exact dw_vI hF rfl (d_vir (n := 5) rfl rfl rfl rfl rfl hH2 d_c64_0 rfl) rfl rfl rfl (dc := 3) (fun _ _ e => D_X12_worded e hH2 r_v3 d_R_w (d_rl rfl) (d_rl rfl)) (fun v4 s5 h5 hH5 r_v4 hF => dw_rI rfl rfl r_v4 hH5 hF)
  · refine dw_zeq_n rfl (u := 19) rfl r_v1 q ?_
    exact dw_iln rfl p_lk_s1 (dw_go rfl (u := 36) rfl (dw_rI rfl rfl r_v1 hH2 hF))
set_option maxRecDepth 100000 in
noncomputable def F_X12_w6 (x0 : Int) (x1 : Int) (x2 : Int) (x3 : Int) (x4 : Int) (x5 : Int) : Option (Int) :=
  d_b (F_X12_w5 x0 x1 x2 x3 x4) (fun v1 => some (d_orL (d_shlL v1 8) x5))
set_option maxRecDepth 100000 in
theorem D_X12_w6 {h : p_H} {x0 : Int} {x1 : Int} {x2 : Int} {x3 : Int} {x4 : Int} {x5 : Int} {r : Int} (hF : F_X12_w6 x0 x1 x2 x3 x4 x5 = some r) (r_x0 : d_R x0) (r_x1 : d_R x1) (r_x2 : d_R x2) (r_x3 : d_R x3) (r_x4 : d_R x4) (r_x5 : d_R x5) : p_wp p_GT p_MT 4 m_X12_w6 0 (lv_args 0 [.int (Int32.ofInt x0), .int (Int32.ofInt x1), .int (Int32.ofInt x2), .int (Int32.ofInt x3), .int (Int32.ofInt x4), .int (Int32.ofInt x5)]) [] h (d_QL h r) := by
  unfold F_X12_w6 at hF
  refine dw_iln rfl rfl (dw_iln rfl rfl (dw_iln rfl rfl (dw_iln rfl rfl (dw_il rfl rfl (dw_sL hF rfl rfl rfl rfl rfl (dc := 3) (fun _ e => D_X12_w5 e r_x0 r_x1 r_x2 r_x3 r_x4) (fun v1 r_v1 hF => dw_bp rfl rfl (dw_lshl rfl (dw_il rfl rfl (dw_i2l rfl r_x5 (?_))))))))))
  exact dw_lor rfl (dw_rL rfl rfl d_RL_t hF)
set_option maxRecDepth 100000 in
noncomputable def F_X12_nameOf (s : d_S) : Option (Int) :=
  if (s.1 64 9) = 2 then
  d_b (F_X12_w3 100 97 121) (fun v1 => if (s.2.2 1011) = v1 then
  some 0
  else
  d_b (F_X12_w4 104 101 97 116) (fun v2 => if (s.2.2 1011) = v2 then
  some 1
  else
  d_b (F_X12_w4 115 105 122 101) (fun v3 => if (s.2.2 1011) = v3 then
  some 2
  else
  d_b (F_X12_w5 115 116 114 97 119) (fun v4 => if (s.2.2 1011) = v4 then
  some 3
  else
  d_b (F_X12_w6 109 101 108 116 101 100) (fun v5 => if (s.2.2 1011) = v5 then
  some 4
  else
  d_b (F_X12_w4 101 100 103 101) (fun v6 => if (s.2.2 1011) = v6 then
  some 5
  else
  d_b (F_X12_w6 115 105 103 104 116 115) (fun v7 => if (s.2.2 1011) = v7 then
  some 6
  else
  d_b (F_X12_w5 107 105 110 100 115) (fun v8 => if (s.2.2 1011) = v8 then
  some 7
  else
  some (-1)))))))))
  else
  some (-1)
set_option maxRecDepth 100000 in
theorem D_X12_nameOf {t : Nat → Option p_C} {h : p_H} {s : d_S} {r : Int} (hF : F_X12_nameOf s = some r) (hH : d_V t h s) : p_wp p_GT p_MT 5 m_X12_nameOf 0 (lv_args 0 [.ref 64]) [] h (d_QP h r) := by
  unfold F_X12_nameOf at hF
  refine dw_aln rfl rfl (dw_gi (k := 9) rfl rfl rfl hH d_c64_9 (dw_ic rfl (?_)))
  refine d_if hF (fun q hF => ?_) (fun q hF => ?_)
  · refine dw_eq_y rfl (u := 10) rfl hH.r (d_rl rfl) q ?_
    refine dw_aln rfl rfl (dw_gL rfl rfl rfl hH (dw_bp rfl rfl (dw_bp rfl rfl (dw_bp rfl rfl (dw_sL hF rfl rfl rfl rfl rfl (dc := 1) (fun _ e => D_X12_w3 e (d_rl rfl) (d_rl rfl) (d_rl rfl)) (fun v1 r_v1 hF => ?_))))))
    refine d_if hF (fun q hF => ?_) (fun q hF => ?_)
    · refine dw_Lne_y rfl rfl (u := 29) rfl hH.rl r_v1 q ?_
      exact dw_ic rfl (dw_rP rfl rfl (d_rl rfl) hF)
    · refine dw_Lne_n rfl rfl (u := 29) rfl hH.rl r_v1 q ?_
      refine dw_aln rfl rfl (dw_gL rfl rfl rfl hH (dw_bp rfl rfl (dw_bp rfl rfl (dw_bp rfl rfl (dw_bp rfl rfl (dw_sL hF rfl rfl rfl rfl rfl (dc := 2) (fun _ e => D_X12_w4 e (d_rl rfl) (d_rl rfl) (d_rl rfl) (d_rl rfl)) (fun v2 r_v2 hF => ?_)))))))
      refine d_if hF (fun q hF => ?_) (fun q hF => ?_)
      · refine dw_Lne_y rfl rfl (u := 50) rfl hH.rl r_v2 q ?_
        exact dw_ic rfl (dw_rP rfl rfl (d_rl rfl) hF)
      · refine dw_Lne_n rfl rfl (u := 50) rfl hH.rl r_v2 q ?_
        refine dw_aln rfl rfl (dw_gL rfl rfl rfl hH (dw_bp rfl rfl (dw_bp rfl rfl (dw_bp rfl rfl (dw_bp rfl rfl (dw_sL hF rfl rfl rfl rfl rfl (dc := 2) (fun _ e => D_X12_w4 e (d_rl rfl) (d_rl rfl) (d_rl rfl) (d_rl rfl)) (fun v3 r_v3 hF => ?_)))))))
        refine d_if hF (fun q hF => ?_) (fun q hF => ?_)
        · refine dw_Lne_y rfl rfl (u := 71) rfl hH.rl r_v3 q ?_
          exact dw_ic rfl (dw_rP rfl rfl (d_rl rfl) hF)
        · refine dw_Lne_n rfl rfl (u := 71) rfl hH.rl r_v3 q ?_
          refine dw_aln rfl rfl (dw_gL rfl rfl rfl hH (dw_bp rfl rfl (dw_bp rfl rfl (dw_bp rfl rfl (dw_bp rfl rfl (dw_bp rfl rfl (dw_sL hF rfl rfl rfl rfl rfl (dc := 3) (fun _ e => D_X12_w5 e (d_rl rfl) (d_rl rfl) (d_rl rfl) (d_rl rfl) (d_rl rfl)) (fun v4 r_v4 hF => ?_))))))))
          refine d_if hF (fun q hF => ?_) (fun q hF => ?_)
          · refine dw_Lne_y rfl rfl (u := 94) rfl hH.rl r_v4 q ?_
            exact dw_ic rfl (dw_rP rfl rfl (d_rl rfl) hF)
          · refine dw_Lne_n rfl rfl (u := 94) rfl hH.rl r_v4 q ?_
            refine dw_aln rfl rfl (dw_gL rfl rfl rfl hH (dw_bp rfl rfl (dw_bp rfl rfl (dw_bp rfl rfl (dw_bp rfl rfl (dw_bp rfl rfl (dw_bp rfl rfl (dw_sL hF rfl rfl rfl rfl rfl (dc := 4) (fun _ e => D_X12_w6 e (d_rl rfl) (d_rl rfl) (d_rl rfl) (d_rl rfl) (d_rl rfl) (d_rl rfl)) (fun v5 r_v5 hF => ?_)))))))))
            refine d_if hF (fun q hF => ?_) (fun q hF => ?_)
            · refine dw_Lne_y rfl rfl (u := 119) rfl hH.rl r_v5 q ?_
              exact dw_ic rfl (dw_rP rfl rfl (d_rl rfl) hF)
            · refine dw_Lne_n rfl rfl (u := 119) rfl hH.rl r_v5 q ?_
              refine dw_aln rfl rfl (dw_gL rfl rfl rfl hH (dw_bp rfl rfl (dw_bp rfl rfl (dw_bp rfl rfl (dw_bp rfl rfl (dw_sL hF rfl rfl rfl rfl rfl (dc := 2) (fun _ e => D_X12_w4 e (d_rl rfl) (d_rl rfl) (d_rl rfl) (d_rl rfl)) (fun v6 r_v6 hF => ?_)))))))
              refine d_if hF (fun q hF => ?_) (fun q hF => ?_)
              · refine dw_Lne_y rfl rfl (u := 140) rfl hH.rl r_v6 q ?_
                exact dw_ic rfl (dw_rP rfl rfl (d_rl rfl) hF)
              · refine dw_Lne_n rfl rfl (u := 140) rfl hH.rl r_v6 q ?_
                refine dw_aln rfl rfl (dw_gL rfl rfl rfl hH (dw_bp rfl rfl (dw_bp rfl rfl (dw_bp rfl rfl (dw_bp rfl rfl (dw_bp rfl rfl (dw_bp rfl rfl (dw_sL hF rfl rfl rfl rfl rfl (dc := 4) (fun _ e => D_X12_w6 e (d_rl rfl) (d_rl rfl) (d_rl rfl) (d_rl rfl) (d_rl rfl) (d_rl rfl)) (fun v7 r_v7 hF => ?_)))))))))
                refine d_if hF (fun q hF => ?_) (fun q hF => ?_)
                · refine dw_Lne_y rfl rfl (u := 168) rfl hH.rl r_v7 q ?_
                  exact dw_bp rfl rfl (dw_go rfl (u := 195) rfl (dw_rP rfl rfl (d_rl rfl) hF))
                · refine dw_Lne_n rfl rfl (u := 168) rfl hH.rl r_v7 q ?_
                  refine dw_aln rfl rfl (dw_gL rfl rfl rfl hH (dw_bp rfl rfl (dw_bp rfl rfl (dw_bp rfl rfl (dw_bp rfl rfl (dw_bp rfl rfl (dw_sL hF rfl rfl rfl rfl rfl (dc := 3) (fun _ e => D_X12_w5 e (d_rl rfl) (d_rl rfl) (d_rl rfl) (d_rl rfl) (d_rl rfl)) (fun v8 r_v8 hF => ?_))))))))
                  refine d_if hF (fun q hF => ?_) (fun q hF => ?_)
                  · refine dw_Lne_y rfl rfl (u := 194) rfl hH.rl r_v8 q ?_
                    exact dw_bp rfl rfl (dw_go rfl (u := 195) rfl (dw_rP rfl rfl (d_rl rfl) hF))
                  · refine dw_Lne_n rfl rfl (u := 194) rfl hH.rl r_v8 q ?_
                    exact dw_ic rfl (dw_rP rfl rfl (d_rl rfl) hF)
  · refine dw_eq_n rfl (u := 10) rfl hH.r (d_rl rfl) q ?_
    exact dw_ic rfl (dw_rP rfl rfl (d_rl rfl) hF)
set_option maxRecDepth 100000 in
noncomputable def F_X12_isNth (s : d_S) : Option (Int) :=
  d_b (F_X12_w3 110 116 104) (fun v1 => d_b (F_X12_isWord s v1) (fun v2 => some v2))
set_option maxRecDepth 100000 in
theorem D_X12_isNth {t : Nat → Option p_C} {h : p_H} {s : d_S} {r : Int} (hF : F_X12_isNth s = some r) (hH : d_V t h s) : p_wp p_GT p_MT 2 m_X12_isNth 0 (lv_args 0 [.ref 64]) [] h (d_QB h r) := by
  unfold F_X12_isNth at hF
  exact dw_aln rfl rfl (dw_bp rfl rfl (dw_bp rfl rfl (dw_bp rfl rfl (dw_sL hF rfl rfl rfl rfl rfl (dc := 1) (fun _ e => D_X12_w3 e (d_rl rfl) (d_rl rfl) (d_rl rfl)) (fun v1 r_v1 hF => dw_vB hF rfl (d_vir (n := 2) rfl rfl rfl rfl rfl hH d_c64_0 rfl) rfl rfl rfl (dc := 0) (fun _ e => D_X12_isWord e hH r_v1) (fun v2 r_v2 hF => dw_rB rfl rfl r_v2 hF))))))
set_option maxRecDepth 100000 in
noncomputable def F_X12_isOf (s : d_S) (x1 : Int) : Option (Int) :=
  if x1 < 6 then
  some 1
  else
  if (s.1 64 14) = 1 then
  some 1
  else
  some 0
set_option maxRecDepth 100000 in
theorem D_X12_isOf {t : Nat → Option p_C} {h : p_H} {s : d_S} {x1 : Int} {r : Int} (hF : F_X12_isOf s x1 = some r) (hH : d_V t h s) (r_x1 : d_R x1) : p_wp p_GT p_MT 0 m_X12_isOf 0 (lv_args 0 [.ref 64, .int (Int32.ofInt x1)]) [] h (d_QB h r) := by
  unfold F_X12_isOf at hF
  refine dw_iln rfl rfl (dw_bp rfl rfl (?_))
  refine d_if hF (fun q hF => ?_) (fun q hF => ?_)
  · refine dw_lt_y rfl (u := 14) rfl r_x1 (d_rl rfl) q ?_
    exact dw_ic rfl (dw_go rfl (u := 19) rfl (dw_rB rfl rfl (Or.inr rfl) hF))
  · refine dw_lt_n rfl (u := 14) rfl r_x1 (d_rl rfl) q ?_
    refine dw_aln rfl rfl (dw_gi (k := 14) rfl rfl rfl hH d_c64_14 (dw_ic rfl (?_)))
    refine d_if hF (fun q hF => ?_) (fun q hF => ?_)
    · refine dw_ne_y rfl (u := 18) rfl hH.r (d_rl rfl) q ?_
      exact dw_ic rfl (dw_go rfl (u := 19) rfl (dw_rB rfl rfl (Or.inr rfl) hF))
    · refine dw_ne_n rfl (u := 18) rfl hH.r (d_rl rfl) q ?_
      exact dw_ic rfl (dw_rB rfl rfl (Or.inl rfl) hF)
set_option maxRecDepth 100000 in
noncomputable def F_X12_faultOfOne_j74 (s : d_S) : Option (Int) :=
  if (s.1 64 18) = 8 then
  some 3
  else
  some 0
set_option maxRecDepth 100000 in
theorem D_X12_faultOfOne_j74 {t : Nat → Option p_C} {h : p_H} {s : d_S} {r : Int} {ls : p_Ls} (hF : F_X12_faultOfOne_j74 s = some r) (hH : d_V t h s) (l0 : p_lk 0 ls = some (.ref 64)) : p_wp p_GT p_MT 6 m_X12_faultOfOne 74 ls [] h (d_QP h r) := by
  unfold F_X12_faultOfOne_j74 at hF
  refine dw_aln rfl l0 (dw_gi (k := 18) rfl rfl rfl hH d_c64_18 (dw_bp rfl rfl (?_)))
  refine d_if hF (fun q hF => ?_) (fun q hF => ?_)
  · refine dw_ne_y rfl (u := 87) rfl hH.r (d_rl rfl) q ?_
    exact dw_ic rfl (dw_go rfl (u := 88) rfl (dw_rP rfl rfl (d_rl rfl) hF))
  · refine dw_ne_n rfl (u := 87) rfl hH.r (d_rl rfl) q ?_
    exact dw_ic rfl (dw_rP rfl rfl (d_rl rfl) hF)
set_option maxRecDepth 100000 in
noncomputable def F_X12_faultOfOne (s : d_S) : Option (Int) :=
  if (s.1 64 9) = 1 then
  if 9999 < (s.1 64 10) then
  some 2
  else
  some 0
  else
  d_b (F_X12_nameOf s) (fun v1 => if v1 < 0 then
  if (s.1 64 9) = 40 then
  F_X12_faultOfOne_j74 s
  else
  if (s.1 64 9) = 45 then
  F_X12_faultOfOne_j74 s
  else
  d_b (F_X12_isNth s) (fun v2 => if v2 = 0 then
  some 1
  else
  F_X12_faultOfOne_j74 s)
  else
  d_b (F_X12_isOf s v1) (fun v3 => if v3 = 0 then
  some 5
  else
  some 0))
set_option maxRecDepth 100000 in
theorem D_X12_faultOfOne {t : Nat → Option p_C} {h : p_H} {s : d_S} {r : Int} (hF : F_X12_faultOfOne s = some r) (hH : d_V t h s) : p_wp p_GT p_MT 6 m_X12_faultOfOne 0 (lv_args 0 [.ref 64]) [] h (d_QP h r) := by
  unfold F_X12_faultOfOne at hF
  refine dw_aln rfl rfl (dw_gi (k := 9) rfl rfl rfl hH d_c64_9 (dw_ic rfl (?_)))
  refine d_if hF (fun q hF => ?_) (fun q hF => ?_)
  · refine dw_ne_y rfl (u := 24) rfl hH.r (d_rl rfl) q ?_
    refine dw_aln rfl rfl (dw_gi (k := 10) rfl rfl rfl hH d_c64_10 (dw_sp rfl rfl (?_)))
    refine d_if hF (fun q hF => ?_) (fun q hF => ?_)
    · refine dw_le_y rfl (u := 22) rfl hH.r (d_rl rfl) q ?_
      exact dw_ic rfl (dw_go rfl (u := 23) rfl (dw_rP rfl rfl (d_rl rfl) hF))
    · refine dw_le_n rfl (u := 22) rfl hH.r (d_rl rfl) q ?_
      exact dw_ic rfl (dw_rP rfl rfl (d_rl rfl) hF)
  · refine dw_ne_n rfl (u := 24) rfl hH.r (d_rl rfl) q ?_
    refine dw_aln rfl rfl (dw_vP hF rfl (d_vir (n := 1) rfl rfl rfl rfl rfl hH d_c64_0 rfl) rfl rfl rfl (dc := 5) (fun _ e => D_X12_nameOf e hH) (fun v1 r_v1 hF => dw_isn rfl rfl (dw_iln rfl p_lk_s1 (?_))))
    refine d_if hF (fun q hF => ?_) (fun q hF => ?_)
    · refine dw_zlt_y rfl (u := 47) rfl r_v1 q ?_
      refine dw_aln rfl (d_s1 rfl rfl (by decide)) (dw_gi (k := 9) rfl rfl rfl hH d_c64_9 (dw_bp rfl rfl (?_)))
      refine d_if hF (fun q hF => ?_) (fun q hF => ?_)
      · refine dw_eq_y rfl (u := 74) rfl hH.r (d_rl rfl) q ?_
        exact D_X12_faultOfOne_j74 hF hH (d_s1 rfl rfl (by decide))
      · refine dw_eq_n rfl (u := 74) rfl hH.r (d_rl rfl) q ?_
        refine dw_aln rfl (d_s1 rfl rfl (by decide)) (dw_gi (k := 9) rfl rfl rfl hH d_c64_9 (dw_bp rfl rfl (?_)))
        refine d_if hF (fun q hF => ?_) (fun q hF => ?_)
        · refine dw_eq_y rfl (u := 74) rfl hH.r (d_rl rfl) q ?_
          exact D_X12_faultOfOne_j74 hF hH (d_s1 rfl rfl (by decide))
        · refine dw_eq_n rfl (u := 74) rfl hH.r (d_rl rfl) q ?_
          refine dw_aln rfl (d_s1 rfl rfl (by decide)) (dw_vB hF rfl (d_vir (n := 1) rfl rfl rfl rfl rfl hH d_c64_0 rfl) rfl rfl rfl (dc := 2) (fun _ e => D_X12_isNth e hH) (fun v2 r_v2 hF => ?_))
          refine d_if hF (fun q hF => ?_) (fun q hF => ?_)
          · refine dw_zne_y rfl (u := 74) rfl (d_R_b r_v2) q ?_
            exact dw_ic rfl (dw_rP rfl rfl (d_rl rfl) hF)
          · refine dw_zne_n rfl (u := 74) rfl (d_R_b r_v2) q ?_
            exact D_X12_faultOfOne_j74 hF hH (d_s1 rfl rfl (by decide))
    · refine dw_zlt_n rfl (u := 47) rfl r_v1 q ?_
      refine dw_aln rfl (d_s1 rfl rfl (by decide)) (dw_iln rfl p_lk_s1 (dw_vB hF rfl (d_vir (n := 2) rfl rfl rfl rfl rfl hH d_c64_0 rfl) rfl rfl rfl (dc := 0) (fun _ e => D_X12_isOf e hH r_v1) (fun v3 r_v3 hF => ?_)))
      refine d_if hF (fun q hF => ?_) (fun q hF => ?_)
      · refine dw_zeq_y rfl (u := 45) rfl (d_R_b r_v3) q ?_
        exact dw_ic rfl (dw_rP rfl rfl (d_rl rfl) hF)
      · refine dw_zeq_n rfl (u := 45) rfl (d_R_b r_v3) q ?_
        exact dw_ic rfl (dw_go rfl (u := 46) rfl (dw_rP rfl rfl (d_rl rfl) hF))
set_option maxRecDepth 100000 in
noncomputable def F_X12_emit (s : d_S) (x1 : Int) (x2 : Int) : Option (d_S) :=
  d_g (0 ≤ (d_w (((s.1 64 12) + 169) + (2 * (s.1 64 13)))) ∧ (d_w (((s.1 64 12) + 169) + (2 * (s.1 64 13)))) < 3108) (d_l (d_si s 67 (((d_w (((s.1 64 12) + 169) + (2 * (s.1 64 13))))).toNat) x1) (fun s2 => d_g (0 ≤ (d_w ((((s2.1 64 12) + 169) + (2 * (s2.1 64 13))) + 1)) ∧ (d_w ((((s2.1 64 12) + 169) + (2 * (s2.1 64 13))) + 1)) < 3108) (d_l (d_si s2 67 (((d_w ((((s2.1 64 12) + 169) + (2 * (s2.1 64 13))) + 1))).toNat) x2) (fun s4 => d_l (d_si s4 64 13 (d_w ((s4.1 64 13) + 1))) (fun s5 => some s5)))))
set_option maxRecDepth 100000 in
theorem D_X12_emit {t : Nat → Option p_C} {h : p_H} {s : d_S} {x1 : Int} {x2 : Int} {r : d_S} (hF : F_X12_emit s x1 x2 = some r) (hH : d_V t h s) (r_x1 : d_R x1) (r_x2 : d_R x2) : p_wp p_GT p_MT 0 m_X12_emit 0 (lv_args 0 [.ref 64, .int (Int32.ofInt x1), .int (Int32.ofInt x2)]) [] h (d_QV t r) := by
  unfold F_X12_emit at hF
  refine dw_aln rfl rfl (dw_gr rfl rfl rfl hH d_c64_2 (dw_aln rfl rfl (dw_gi (k := 12) rfl rfl rfl hH d_c64_12 (dw_sp rfl rfl (dw_add rfl (dw_ic rfl (dw_aln rfl rfl (dw_gi (k := 13) rfl rfl rfl hH d_c64_13 (dw_mul rfl (?_))))))))))
  refine dw_add rfl (dw_iln rfl rfl (dw_w2 (d_gd hF (fun g1 hF => dw_ast rfl hH d_a67 g1.1 g1.2 d_R_w rfl r_x1 hF (fun s2 h2 hH2 hF => dw_aln rfl rfl (dw_gr rfl rfl rfl hH2 d_c64_2 (dw_aln rfl rfl (dw_gi (k := 12) rfl rfl rfl hH2 d_c64_12 (dw_sp rfl rfl (?_))))))))))
  refine dw_add rfl (dw_ic rfl (dw_aln rfl rfl (dw_gi (k := 13) rfl rfl rfl hH2 d_c64_13 (dw_mul rfl (dw_add rfl (dw_ic rfl (dw_add rfl (dw_iln rfl rfl (dw_w2 (?_))))))))))
  exact d_gd hF (fun g3 hF => dw_ast rfl hH2 d_a67 g3.1 g3.2 d_R_w rfl r_x2 hF (fun s4 h4 hH4 hF => dw_aln rfl rfl (dw_dupr rfl (dw_gi (k := 13) rfl rfl rfl hH4 d_c64_13 (dw_ic rfl (dw_add rfl (dw_w1 (dw_pi (k := 13) rfl rfl rfl rfl hH4 d_c64_13 d_R_w (by decide) hF (fun s5 h5 hH5 hF => dw_rV rfl rfl hH5 hF)))))))))
set_option maxRecDepth 100000 in
noncomputable def F_X12_rank (x0 : Int) : Option (Int) :=
  if x0 < 40 then
  if x0 = 3 then
  some 3
  else
  if x0 < 6 then
  some 1
  else
  some 2
  else
  some 0
set_option maxRecDepth 100000 in
theorem D_X12_rank {h : p_H} {x0 : Int} {r : Int} (hF : F_X12_rank x0 = some r) (r_x0 : d_R x0) : p_wp p_GT p_MT 0 m_X12_rank 0 (lv_args 0 [.int (Int32.ofInt x0)]) [] h (d_QP h r) := by
  unfold F_X12_rank at hF
  refine dw_iln rfl rfl (dw_bp rfl rfl (?_))
  refine d_if hF (fun q hF => ?_) (fun q hF => ?_)
  · refine dw_lt_y rfl (u := 10) rfl r_x0 (d_rl rfl) q ?_
    refine dw_iln rfl rfl (dw_ic rfl (?_))
    refine d_if hF (fun q hF => ?_) (fun q hF => ?_)
    · refine dw_ne_y rfl (u := 19) rfl r_x0 (d_rl rfl) q ?_
      exact dw_ic rfl (dw_go rfl (u := 30) rfl (dw_rP rfl rfl (d_rl rfl) hF))
    · refine dw_ne_n rfl (u := 19) rfl r_x0 (d_rl rfl) q ?_
      refine dw_iln rfl rfl (dw_bp rfl rfl (?_))
      refine d_if hF (fun q hF => ?_) (fun q hF => ?_)
      · refine dw_lt_y rfl (u := 29) rfl r_x0 (d_rl rfl) q ?_
        exact dw_ic rfl (dw_rP rfl rfl (d_rl rfl) hF)
      · refine dw_lt_n rfl (u := 29) rfl r_x0 (d_rl rfl) q ?_
        exact dw_ic rfl (dw_go rfl (u := 30) rfl (dw_rP rfl rfl (d_rl rfl) hF))
  · refine dw_lt_n rfl (u := 10) rfl r_x0 (d_rl rfl) q ?_
    exact dw_ic rfl (dw_go rfl (u := 30) rfl (dw_rP rfl rfl (d_rl rfl) hF))
set_option maxRecDepth 100000 in
noncomputable def F_X12_settle_l0_b (rec : Int → d_S → Option (d_S)) (x1 : Int) (s : d_S) : Option (d_S) :=
  if 0 < (s.1 64 17) then
  d_g (0 ≤ (d_w ((s.1 64 17) - 1)) ∧ (d_w ((s.1 64 17) - 1)) < 160) (d_b (F_X12_rank (s.1 69 (((d_w ((s.1 64 17) - 1))).toNat))) (fun v2 => if v2 < x1 then
  some s
  else
  d_l (d_si s 64 17 (d_w ((s.1 64 17) - 1))) (fun s3 => d_g (0 ≤ (s3.1 64 17) ∧ (s3.1 64 17) < 160) (d_b (F_X12_emit s3 (s3.1 69 (((s3.1 64 17)).toNat)) 0) (fun s5 => d_g (0 ≤ (s5.1 64 17) ∧ (s5.1 64 17) < 160) (if (s5.1 69 (((s5.1 64 17)).toNat)) = 3 then
  d_l (d_si s5 64 18 (d_w ((s5.1 64 18) - 1))) (fun s7 => rec x1 s7)
  else
  rec x1 s5))))))
  else
  some s
set_option maxRecDepth 100000 in
noncomputable def F_X12_settle_l0 : Nat → Int → d_S → Option (d_S)
  | 0 => fun _ _ => none
  | n + 1 => F_X12_settle_l0_b (F_X12_settle_l0 n)
set_option maxRecDepth 100000 in
theorem D_X12_settle_l0 {t : Nat → Option p_C} {r : d_S} : ∀ (n : Nat) {x1 : Int} {ls : p_Ls} {s : d_S} {h : p_H}, F_X12_settle_l0 n x1 s = some r → d_V t h s → p_lk 0 ls = some (.ref 64) → d_R x1 → p_lk 1 ls = some (.int (Int32.ofInt x1)) → p_wp p_GT p_MT 1 m_X12_settle 0 ls [] h (d_QV t r) := by
  intro n
  induction n with
  | zero =>
    intro x1 ls s h hF hH l0 r_x1 l1
    cases (show (none : Option (d_S)) = some r from hF)
  | succ n ih =>
    intro x1 ls s h hF hH l0 r_x1 l1
    have hF : F_X12_settle_l0_b (F_X12_settle_l0 n) x1 s = some r := hF
    unfold F_X12_settle_l0_b at hF
    refine dw_aln rfl l0 (dw_gi (k := 17) rfl rfl rfl hH d_c64_17 (?_))
    refine d_if hF (fun q hF => ?_) (fun q hF => ?_)
    · refine dw_zle_y rfl (u := 75) rfl hH.r q ?_
      refine dw_aln rfl l0 (dw_gr rfl rfl rfl hH d_c64_15 (dw_aln rfl l0 (dw_gi (k := 17) rfl rfl rfl hH d_c64_17 (dw_ic rfl (dw_sub rfl (dw_w1 (d_gd hF (fun g1 hF => dw_ald rfl hH d_a69 rfl g1.1 g1.2 d_R_w rfl (dw_sP hF rfl rfl rfl rfl rfl (dc := 0) (fun _ e => D_X12_rank e hH.r) (fun v2 r_v2 hF => ?_))))))))))
      refine dw_iln rfl l1 (?_)
      refine d_if hF (fun q hF => ?_) (fun q hF => ?_)
      · refine dw_lt_y rfl (u := 75) rfl r_v2 r_x1 q ?_
        exact dw_rV rfl rfl hH hF
      · refine dw_lt_n rfl (u := 75) rfl r_v2 r_x1 q ?_
        refine dw_aln rfl l0 (dw_dupr rfl (dw_gi (k := 17) rfl rfl rfl hH d_c64_17 (dw_ic rfl (dw_sub rfl (dw_w1 (dw_pi (k := 17) rfl rfl rfl rfl hH d_c64_17 d_R_w (by decide) hF (fun s3 h3 hH3 hF => dw_aln rfl l0 (dw_aln rfl l0 (dw_gr rfl rfl rfl hH3 d_c64_15 (?_))))))))))
        refine dw_aln rfl l0 (dw_gi (k := 17) rfl rfl rfl hH3 d_c64_17 (d_gd hF (fun g4 hF => dw_ald rfl hH3 d_a69 rfl g4.1 g4.2 hH3.r rfl (dw_ic rfl (dw_vV hF rfl (d_vir (n := 3) rfl rfl rfl rfl rfl hH3 d_c64_0 rfl) rfl rfl rfl (dc := 0) (fun _ e => D_X12_emit e hH3 hH3.r (d_rl rfl)) (fun s5 h5 hH5 hF => dw_aln rfl l0 (dw_gr rfl rfl rfl hH5 d_c64_15 (dw_aln rfl l0 (dw_gi (k := 17) rfl rfl rfl hH5 d_c64_17 (?_))))))))))
        refine d_gd hF (fun g6 hF => dw_ald rfl hH5 d_a69 rfl g6.1 g6.2 hH5.r rfl (dw_ic rfl (?_)))
        refine d_if hF (fun q hF => ?_) (fun q hF => ?_)
        · refine dw_ne_y rfl (u := 0) rfl hH5.r (d_rl rfl) q ?_
          refine dw_aln rfl l0 (dw_dupr rfl (dw_gi (k := 18) rfl rfl rfl hH5 d_c64_18 (dw_ic rfl (dw_sub rfl (dw_w1 (dw_pi (k := 18) rfl rfl rfl rfl hH5 d_c64_18 d_R_w (by decide) hF (fun s7 h7 hH7 hF => dw_go rfl (u := 0) rfl (?_))))))))
          exact ih hF hH7 l0 r_x1 l1
        · refine dw_ne_n rfl (u := 0) rfl hH5.r (d_rl rfl) q ?_
          exact ih hF hH5 l0 r_x1 l1
    · refine dw_zle_n rfl (u := 75) rfl hH.r q ?_
      exact dw_rV rfl rfl hH hF
set_option maxRecDepth 100000 in
noncomputable def F_X12_settle (s : d_S) (x1 : Int) : Option (d_S) :=
  F_X12_settle_l0 d_N x1 s
set_option maxRecDepth 100000 in
theorem D_X12_settle {t : Nat → Option p_C} {h : p_H} {s : d_S} {x1 : Int} {r : d_S} (hF : F_X12_settle s x1 = some r) (hH : d_V t h s) (r_x1 : d_R x1) : p_wp p_GT p_MT 1 m_X12_settle 0 (lv_args 0 [.ref 64, .int (Int32.ofInt x1)]) [] h (d_QV t r) := by
  unfold F_X12_settle at hF
  exact D_X12_settle_l0 _ hF hH rfl r_x1 rfl
set_option maxRecDepth 100000 in
noncomputable def F_X12_beginOne_j58_0 (y2 : Int) (s : d_S) : Option (Int × d_S) :=
  d_b (F_X12_emit s 0 y2) (fun s3 => d_b (F_X12_nextToken s3) (fun s4 => d_l (d_si s4 64 20 1) (fun s5 => d_b (F_X12_settle s5 3) (fun s6 => some (0, s6)))))
set_option maxRecDepth 100000 in
theorem D_X12_beginOne_j58_0 {t : Nat → Option p_C} {h : p_H} {s : d_S} {y2 : Int} {r : Int × d_S} {ls : p_Ls} (hF : F_X12_beginOne_j58_0 y2 s = some r) (hH : d_V t h s) (l0 : p_lk 0 ls = some (.ref 64)) (r_y2 : d_R y2) : p_wp p_GT p_MT 7 m_X12_beginOne 58 ls [.int (Int32.ofInt y2), .int (Int32.ofInt 0), .ref 64] h (d_QI t r) := by
  unfold F_X12_beginOne_j58_0 at hF
  refine dw_vV hF rfl (d_vir (n := 3) rfl rfl rfl rfl rfl hH d_c64_0 rfl) rfl rfl rfl (dc := 0) (fun _ e => D_X12_emit e hH (d_rl rfl) r_y2) (fun s3 h3 hH3 hF => dw_aln rfl l0 (dw_vV hF rfl (d_vir (n := 1) rfl rfl rfl rfl rfl hH3 d_c64_0 rfl) rfl rfl rfl (dc := 1) (fun _ e => D_X12_nextToken e hH3) (fun s4 h4 hH4 hF => dw_aln rfl l0 (dw_ic rfl (dw_pb (k := 20) rfl rfl rfl rfl hH4 d_c64_20 (Or.inr rfl) (by decide) hF (fun s5 h5 hH5 hF => dw_aln rfl l0 (dw_ic rfl (dw_vV hF rfl (d_vir (n := 2) rfl rfl rfl rfl rfl hH5 d_c64_0 rfl) rfl rfl rfl (dc := 1) (fun _ e => D_X12_settle e hH5 (d_rl rfl)) (fun s6 h6 hH6 hF => dw_ic rfl (?_))))))))))
  exact dw_rI rfl rfl (d_rl rfl) hH6 hF
set_option maxRecDepth 100000 in
noncomputable def F_X12_beginOne_j58_1 (y2 : Int) (s : d_S) : Option (Int × d_S) :=
  d_b (F_X12_emit s 1 y2) (fun s7 => d_b (F_X12_nextToken s7) (fun s8 => d_l (d_si s8 64 20 1) (fun s9 => d_b (F_X12_settle s9 3) (fun s10 => some (0, s10)))))
set_option maxRecDepth 100000 in
theorem D_X12_beginOne_j58_1 {t : Nat → Option p_C} {h : p_H} {s : d_S} {y2 : Int} {r : Int × d_S} {ls : p_Ls} (hF : F_X12_beginOne_j58_1 y2 s = some r) (hH : d_V t h s) (l0 : p_lk 0 ls = some (.ref 64)) (r_y2 : d_R y2) : p_wp p_GT p_MT 7 m_X12_beginOne 58 ls [.int (Int32.ofInt y2), .int (Int32.ofInt 1), .ref 64] h (d_QI t r) := by
  unfold F_X12_beginOne_j58_1 at hF
  refine dw_vV hF rfl (d_vir (n := 3) rfl rfl rfl rfl rfl hH d_c64_0 rfl) rfl rfl rfl (dc := 0) (fun _ e => D_X12_emit e hH (d_rl rfl) r_y2) (fun s7 h7 hH7 hF => dw_aln rfl l0 (dw_vV hF rfl (d_vir (n := 1) rfl rfl rfl rfl rfl hH7 d_c64_0 rfl) rfl rfl rfl (dc := 1) (fun _ e => D_X12_nextToken e hH7) (fun s8 h8 hH8 hF => dw_aln rfl l0 (dw_ic rfl (dw_pb (k := 20) rfl rfl rfl rfl hH8 d_c64_20 (Or.inr rfl) (by decide) hF (fun s9 h9 hH9 hF => dw_aln rfl l0 (dw_ic rfl (dw_vV hF rfl (d_vir (n := 2) rfl rfl rfl rfl rfl hH9 d_c64_0 rfl) rfl rfl rfl (dc := 1) (fun _ e => D_X12_settle e hH9 (d_rl rfl)) (fun s10 h10 hH10 hF => dw_ic rfl (?_))))))))))
  exact dw_rI rfl rfl (d_rl rfl) hH10 hF
set_option maxRecDepth 100000 in
noncomputable def F_X12_beginOne_j28 (x2 : Int) (s : d_S) : Option (Int × d_S) :=
  if (s.1 64 9) = 1 then
  if (s.1 64 9) = 1 then
  F_X12_beginOne_j58_0 (s.1 64 10) s
  else
  F_X12_beginOne_j58_0 x2 s
  else
  if (s.1 64 9) = 1 then
  F_X12_beginOne_j58_1 (s.1 64 10) s
  else
  F_X12_beginOne_j58_1 x2 s
set_option maxRecDepth 100000 in
theorem D_X12_beginOne_j28 {t : Nat → Option p_C} {h : p_H} {s : d_S} {x2 : Int} {r : Int × d_S} {ls : p_Ls} (hF : F_X12_beginOne_j28 x2 s = some r) (hH : d_V t h s) (l0 : p_lk 0 ls = some (.ref 64)) (r_x2 : d_R x2) (l2 : p_lk 2 ls = some (.int (Int32.ofInt x2))) : p_wp p_GT p_MT 7 m_X12_beginOne 28 ls [] h (d_QI t r) := by
  unfold F_X12_beginOne_j28 at hF
  refine dw_aln rfl l0 (dw_aln rfl l0 (dw_gi (k := 9) rfl rfl rfl hH d_c64_9 (dw_ic rfl (?_))))
  refine d_if hF (fun q hF => ?_) (fun q hF => ?_)
  · refine dw_ne_y rfl (u := 41) rfl hH.r (d_rl rfl) q ?_
    refine dw_ic rfl (dw_go rfl (u := 42) rfl (dw_aln rfl l0 (dw_gi (k := 9) rfl rfl rfl hH d_c64_9 (dw_ic rfl (?_)))))
    refine d_if hF (fun q hF => ?_) (fun q hF => ?_)
    · refine dw_ne_y rfl (u := 57) rfl hH.r (d_rl rfl) q ?_
      refine dw_aln rfl l0 (dw_gi (k := 10) rfl rfl rfl hH d_c64_10 (dw_go rfl (u := 58) rfl (?_)))
      exact D_X12_beginOne_j58_0 hF hH l0 hH.r
    · refine dw_ne_n rfl (u := 57) rfl hH.r (d_rl rfl) q ?_
      refine dw_iln rfl l2 (?_)
      exact D_X12_beginOne_j58_0 hF hH l0 r_x2
  · refine dw_ne_n rfl (u := 41) rfl hH.r (d_rl rfl) q ?_
    refine dw_ic rfl (dw_aln rfl l0 (dw_gi (k := 9) rfl rfl rfl hH d_c64_9 (dw_ic rfl (?_))))
    refine d_if hF (fun q hF => ?_) (fun q hF => ?_)
    · refine dw_ne_y rfl (u := 57) rfl hH.r (d_rl rfl) q ?_
      refine dw_aln rfl l0 (dw_gi (k := 10) rfl rfl rfl hH d_c64_10 (dw_go rfl (u := 58) rfl (?_)))
      exact D_X12_beginOne_j58_1 hF hH l0 hH.r
    · refine dw_ne_n rfl (u := 57) rfl hH.r (d_rl rfl) q ?_
      refine dw_iln rfl l2 (?_)
      exact D_X12_beginOne_j58_1 hF hH l0 r_x2
set_option maxRecDepth 100000 in
noncomputable def F_X12_beginOne_j124 (y1 : Int) (y2 : Int) (s : d_S) : Option (Int × d_S) :=
  d_g (0 ≤ y1 ∧ y1 < 160) (d_l (d_si s 69 ((y1).toNat) y2) (fun s13 => d_l (d_si s13 64 17 (d_w ((s13.1 64 17) + 1))) (fun s14 => d_b (F_X12_nextToken s14) (fun s15 => some (0, s15)))))
set_option maxRecDepth 100000 in
theorem D_X12_beginOne_j124 {t : Nat → Option p_C} {h : p_H} {s : d_S} {y1 : Int} {y2 : Int} {r : Int × d_S} {ls : p_Ls} (hF : F_X12_beginOne_j124 y1 y2 s = some r) (hH : d_V t h s) (l0 : p_lk 0 ls = some (.ref 64)) (r_y1 : d_R y1) (r_y2 : d_R y2) : p_wp p_GT p_MT 7 m_X12_beginOne 124 ls [.int (Int32.ofInt y2), .int (Int32.ofInt y1), .ref 69] h (d_QI t r) := by
  unfold F_X12_beginOne_j124 at hF
  refine d_gd hF (fun g12 hF => dw_ast rfl hH d_a69 g12.1 g12.2 r_y1 rfl r_y2 hF (fun s13 h13 hH13 hF => dw_aln rfl l0 (dw_dupr rfl (dw_gi (k := 17) rfl rfl rfl hH13 d_c64_17 (dw_ic rfl (dw_add rfl (dw_w1 (dw_pi (k := 17) rfl rfl rfl rfl hH13 d_c64_17 d_R_w (by decide) hF (fun s14 h14 hH14 hF => dw_aln rfl l0 (?_))))))))))
  exact dw_vV hF rfl (d_vir (n := 1) rfl rfl rfl rfl rfl hH14 d_c64_0 rfl) rfl rfl rfl (dc := 1) (fun _ e => D_X12_nextToken e hH14) (fun s15 h15 hH15 hF => dw_ic rfl (dw_rI rfl rfl (d_rl rfl) hH15 hF))
set_option maxRecDepth 100000 in
noncomputable def F_X12_beginOne (s : d_S) : Option (Int × d_S) :=
  d_b (F_X12_faultOfOne s) (fun v1 => if v1 = 0 then
  d_b (F_X12_nameOf s) (fun v2 => if (s.1 64 9) = 1 then
  F_X12_beginOne_j28 v2 s
  else
  if v2 < 0 then
  d_l (d_si s 64 18 (d_w ((s.1 64 18) + 1))) (fun s11 => if (s11.1 64 9) = 40 then
  F_X12_beginOne_j124 (s11.1 64 17) 40 s11
  else
  if (s11.1 64 9) = 45 then
  F_X12_beginOne_j124 (s11.1 64 17) 3 s11
  else
  F_X12_beginOne_j124 (s11.1 64 17) 41 s11)
  else
  F_X12_beginOne_j28 v2 s)
  else
  some (v1, s))
set_option maxRecDepth 100000 in
theorem D_X12_beginOne {t : Nat → Option p_C} {h : p_H} {s : d_S} {r : Int × d_S} (hF : F_X12_beginOne s = some r) (hH : d_V t h s) : p_wp p_GT p_MT 7 m_X12_beginOne 0 (lv_args 0 [.ref 64]) [] h (d_QI t r) := by
  unfold F_X12_beginOne at hF
  refine dw_aln rfl rfl (dw_vP hF rfl (d_vir (n := 1) rfl rfl rfl rfl rfl hH d_c64_0 rfl) rfl rfl rfl (dc := 6) (fun _ e => D_X12_faultOfOne e hH) (fun v1 r_v1 hF => dw_isn rfl rfl (dw_iln rfl p_lk_s1 (?_))))
  refine d_if hF (fun q hF => ?_) (fun q hF => ?_)
  · refine dw_zeq_y rfl (u := 11) rfl r_v1 q ?_
    refine dw_aln rfl (d_s1 rfl rfl (by decide)) (dw_vP hF rfl (d_vir (n := 1) rfl rfl rfl rfl rfl hH d_c64_0 rfl) rfl rfl rfl (dc := 5) (fun _ e => D_X12_nameOf e hH) (fun v2 r_v2 hF => dw_isn rfl rfl (dw_aln rfl (d_s1 (d_s1 rfl rfl (by decide)) rfl (by decide)) (dw_gi (k := 9) rfl rfl rfl hH d_c64_9 (dw_ic rfl (?_))))))
    refine d_if hF (fun q hF => ?_) (fun q hF => ?_)
    · refine dw_eq_y rfl (u := 28) rfl hH.r (d_rl rfl) q ?_
      exact D_X12_beginOne_j28 hF hH (d_s1 (d_s1 rfl rfl (by decide)) rfl (by decide)) r_v2 p_lk_s1
    · refine dw_eq_n rfl (u := 28) rfl hH.r (d_rl rfl) q ?_
      refine dw_iln rfl p_lk_s1 (?_)
      refine d_if hF (fun q hF => ?_) (fun q hF => ?_)
      · refine dw_zlt_y rfl (u := 77) rfl r_v2 q ?_
        refine dw_aln rfl (d_s1 (d_s1 rfl rfl (by decide)) rfl (by decide)) (dw_dupr rfl (dw_gi (k := 18) rfl rfl rfl hH d_c64_18 (dw_ic rfl (dw_add rfl (dw_w1 (dw_pi (k := 18) rfl rfl rfl rfl hH d_c64_18 d_R_w (by decide) hF (fun s11 h11 hH11 hF => dw_aln rfl (d_s1 (d_s1 rfl rfl (by decide)) rfl (by decide)) (dw_gr rfl rfl rfl hH11 d_c64_15 (dw_aln rfl (d_s1 (d_s1 rfl rfl (by decide)) rfl (by decide)) (?_))))))))))
        refine dw_gi (k := 17) rfl rfl rfl hH11 d_c64_17 (dw_aln rfl (d_s1 (d_s1 rfl rfl (by decide)) rfl (by decide)) (dw_gi (k := 9) rfl rfl rfl hH11 d_c64_9 (dw_bp rfl rfl (?_))))
        refine d_if hF (fun q hF => ?_) (fun q hF => ?_)
        · refine dw_ne_y rfl (u := 109) rfl hH11.r (d_rl rfl) q ?_
          refine dw_bp rfl rfl (dw_go rfl (u := 124) rfl (?_))
          exact D_X12_beginOne_j124 hF hH11 (d_s1 (d_s1 rfl rfl (by decide)) rfl (by decide)) hH11.r (d_rl rfl)
        · refine dw_ne_n rfl (u := 109) rfl hH11.r (d_rl rfl) q ?_
          refine dw_aln rfl (d_s1 (d_s1 rfl rfl (by decide)) rfl (by decide)) (dw_gi (k := 9) rfl rfl rfl hH11 d_c64_9 (dw_bp rfl rfl (?_)))
          refine d_if hF (fun q hF => ?_) (fun q hF => ?_)
          · refine dw_ne_y rfl (u := 122) rfl hH11.r (d_rl rfl) q ?_
            refine dw_ic rfl (dw_go rfl (u := 124) rfl (?_))
            exact D_X12_beginOne_j124 hF hH11 (d_s1 (d_s1 rfl rfl (by decide)) rfl (by decide)) hH11.r (d_rl rfl)
          · refine dw_ne_n rfl (u := 122) rfl hH11.r (d_rl rfl) q ?_
            refine dw_bp rfl rfl (?_)
            exact D_X12_beginOne_j124 hF hH11 (d_s1 (d_s1 rfl rfl (by decide)) rfl (by decide)) hH11.r (d_rl rfl)
      · refine dw_zlt_n rfl (u := 77) rfl r_v2 q ?_
        exact D_X12_beginOne_j28 hF hH (d_s1 (d_s1 rfl rfl (by decide)) rfl (by decide)) r_v2 p_lk_s1
  · refine dw_zeq_n rfl (u := 11) rfl r_v1 q ?_
    exact dw_iln rfl p_lk_s1 (dw_rI rfl rfl r_v1 hH hF)
set_option maxRecDepth 100000 in
noncomputable def F_X12_ofNth (s : d_S) : Option (Int × d_S) :=
  d_b (F_X12_w2 111 102) (fun v1 => d_b (F_X12_isWord s v1) (fun v2 => if v2 = 0 then
  some (1, s)
  else
  d_b (F_X12_nextToken s) (fun s3 => if (s3.1 64 9) = 40 then
  d_b (F_X12_nextToken s3) (fun s4 => d_g (0 ≤ (d_w ((s4.1 64 17) - 1)) ∧ (d_w ((s4.1 64 17) - 1)) < 160) (d_l (d_si s4 69 (((d_w ((s4.1 64 17) - 1))).toNat) 42) (fun s6 => d_g (0 ≤ (s6.1 64 19) ∧ (s6.1 64 19) < 9) (d_l (d_si s6 70 (((s6.1 64 19)).toNat) 1) (fun s8 => d_l (d_si s8 64 19 (d_w ((s8.1 64 19) + 1))) (fun s9 => d_l (d_si s9 64 20 0) (fun s10 => some (0, s10))))))))
  else
  some (1, s3))))
set_option maxRecDepth 100000 in
theorem D_X12_ofNth {t : Nat → Option p_C} {h : p_H} {s : d_S} {r : Int × d_S} (hF : F_X12_ofNth s = some r) (hH : d_V t h s) : p_wp p_GT p_MT 2 m_X12_ofNth 0 (lv_args 0 [.ref 64]) [] h (d_QI t r) := by
  unfold F_X12_ofNth at hF
  refine dw_aln rfl rfl (dw_bp rfl rfl (dw_bp rfl rfl (dw_sL hF rfl rfl rfl rfl rfl (dc := 0) (fun _ e => D_X12_w2 e (d_rl rfl) (d_rl rfl)) (fun v1 r_v1 hF => dw_vB hF rfl (d_vir (n := 2) rfl rfl rfl rfl rfl hH d_c64_0 rfl) rfl rfl rfl (dc := 0) (fun _ e => D_X12_isWord e hH r_v1) (fun v2 r_v2 hF => ?_)))))
  refine d_if hF (fun q hF => ?_) (fun q hF => ?_)
  · refine dw_zne_y rfl (u := 16) rfl (d_R_b r_v2) q ?_
    exact dw_ic rfl (dw_rI rfl rfl (d_rl rfl) hH hF)
  · refine dw_zne_n rfl (u := 16) rfl (d_R_b r_v2) q ?_
    refine dw_aln rfl rfl (dw_vV hF rfl (d_vir (n := 1) rfl rfl rfl rfl rfl hH d_c64_0 rfl) rfl rfl rfl (dc := 1) (fun _ e => D_X12_nextToken e hH) (fun s3 h3 hH3 hF => dw_aln rfl rfl (dw_gi (k := 9) rfl rfl rfl hH3 d_c64_9 (dw_bp rfl rfl (?_)))))
    refine d_if hF (fun q hF => ?_) (fun q hF => ?_)
    · refine dw_eq_y rfl (u := 31) rfl hH3.r (d_rl rfl) q ?_
      refine dw_aln rfl rfl (dw_vV hF rfl (d_vir (n := 1) rfl rfl rfl rfl rfl hH3 d_c64_0 rfl) rfl rfl rfl (dc := 1) (fun _ e => D_X12_nextToken e hH3) (fun s4 h4 hH4 hF => dw_aln rfl rfl (dw_gr rfl rfl rfl hH4 d_c64_15 (dw_aln rfl rfl (dw_gi (k := 17) rfl rfl rfl hH4 d_c64_17 (dw_ic rfl (dw_sub rfl (dw_bp rfl rfl (dw_w2 (?_))))))))))
      refine d_gd hF (fun g5 hF => dw_ast rfl hH4 d_a69 g5.1 g5.2 d_R_w rfl (d_rl rfl) hF (fun s6 h6 hH6 hF => dw_aln rfl rfl (dw_gr rfl rfl rfl hH6 d_c64_16 (dw_aln rfl rfl (dw_gi (k := 19) rfl rfl rfl hH6 d_c64_19 (dw_ic rfl (d_gd hF (fun g7 hF => dw_ast rfl hH6 d_a70 g7.1 g7.2 hH6.r rfl (d_rl rfl) hF (fun s8 h8 hH8 hF => dw_aln rfl rfl (?_))))))))))
      refine dw_dupr rfl (dw_gi (k := 19) rfl rfl rfl hH8 d_c64_19 (dw_ic rfl (dw_add rfl (dw_w1 (dw_pi (k := 19) rfl rfl rfl rfl hH8 d_c64_19 d_R_w (by decide) hF (fun s9 h9 hH9 hF => dw_aln rfl rfl (dw_ic rfl (dw_pb (k := 20) rfl rfl rfl rfl hH9 d_c64_20 (Or.inl rfl) (by decide) hF (fun s10 h10 hH10 hF => dw_ic rfl (?_))))))))))
      exact dw_rI rfl rfl (d_rl rfl) hH10 hF
    · refine dw_eq_n rfl (u := 31) rfl hH3.r (d_rl rfl) q ?_
      exact dw_ic rfl (dw_rI rfl rfl (d_rl rfl) hH3 hF)

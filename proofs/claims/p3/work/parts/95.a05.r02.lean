set_option maxRecDepth 100000 in
noncomputable def F_X12_anew (s : d_S) : Option (d_S) :=
  d_l (d_si s 65 (13) (d_rem (((s.1 65 13) * 281) + 179) 30293)) (fun s1 => some s1)
set_option maxRecDepth 100000 in
theorem D_X12_anew {t : Nat → Option p_C} {h : p_H} {s : d_S} {r : d_S} (hF : F_X12_anew s = some r) (hH : d_V t h s) : p_wp p_GT p_MT 0 m_X12_anew 0 (lv_args 0 [.ref 64]) [] h (d_QV t r) := by
  unfold F_X12_anew at hF
  refine dw_aln rfl rfl (dw_gr rfl rfl rfl hH d_c64_0 (dw_bp rfl rfl (dw_aln rfl rfl (dw_gr rfl rfl rfl hH d_c64_0 (dw_bp rfl rfl (dw_ald rfl hH d_a65 rfl (by decide) (by decide) (d_rl rfl) (k := 13) rfl (dw_sp rfl rfl (dw_mul rfl (dw_sp rfl rfl (?_))))))))))
  exact dw_add rfl (dw_sp rfl rfl (dw_rem rfl (d_rl rfl) (by decide) (dw_ast rfl hH d_a65 (by decide) (by decide) (d_rl rfl) (k := 13) rfl d_R_t hF (fun s1 h1 hH1 hF => dw_rV rfl rfl hH1 hF))))
set_option maxRecDepth 100000 in
noncomputable def F_X12_drawn (s : d_S) (x1 : Int) : Option (Int × d_S) :=
  d_g (¬ x1 = 0) (d_b (F_X12_anew s) (fun s2 => some ((d_rem (s.1 65 13) x1), s2)))
set_option maxRecDepth 100000 in
theorem D_X12_drawn {t : Nat → Option p_C} {h : p_H} {s : d_S} {x1 : Int} {r : Int × d_S} (hF : F_X12_drawn s x1 = some r) (hH : d_V t h s) (r_x1 : d_R x1) : p_wp p_GT p_MT 1 m_X12_drawn 0 (lv_args 0 [.ref 64, .int (Int32.ofInt x1)]) [] h (d_QI t r) := by
  unfold F_X12_drawn at hF
  refine dw_aln rfl rfl (dw_gr rfl rfl rfl hH d_c64_0 (dw_bp rfl rfl (dw_ald rfl hH d_a65 rfl (by decide) (by decide) (d_rl rfl) (k := 13) rfl (dw_iln rfl rfl (d_gd hF (fun g1 hF => dw_rem rfl r_x1 g1 (dw_isn rfl rfl (dw_aln rfl (d_s1 rfl rfl (by decide)) (dw_vV hF rfl (d_vir (n := 1) rfl rfl rfl rfl rfl hH d_c64_0 rfl) rfl rfl rfl (dc := 0) (fun _ e => D_X12_anew e hH) (fun s2 h2 hH2 hF => ?_))))))))))
  exact dw_iln rfl p_lk_s1 (dw_rI rfl rfl d_R_t hH2 hF)
set_option maxRecDepth 100000 in
noncomputable def F_X12_canSell (s : d_S) (x1 : Int) : Option (Int) :=
  d_b (F_X12_isBlock s x1) (fun v1 => if v1 = 0 then
  some 0
  else
  d_b (F_X12_isSold s x1) (fun v2 => if v2 = 0 then
  d_b (F_X12_isWater s x1) (fun v3 => if v3 = 0 then
  some 1
  else
  some 0)
  else
  some 0))
set_option maxRecDepth 100000 in
theorem D_X12_canSell {t : Nat → Option p_C} {h : p_H} {s : d_S} {x1 : Int} {r : Int} (hF : F_X12_canSell s x1 = some r) (hH : d_V t h s) (r_x1 : d_R x1) : p_wp p_GT p_MT 4 m_X12_canSell 0 (lv_args 0 [.ref 64, .int (Int32.ofInt x1)]) [] h (d_QB h r) := by
  unfold F_X12_canSell at hF
  refine dw_aln rfl rfl (dw_iln rfl rfl (dw_vB hF rfl (d_vir (n := 2) rfl rfl rfl rfl rfl hH d_c64_0 rfl) rfl rfl rfl (dc := 3) (fun _ e => D_X12_isBlock e hH r_x1) (fun v1 r_v1 hF => ?_)))
  refine d_if hF (fun q hF => ?_) (fun q hF => ?_)
  · refine dw_zeq_y rfl (u := 28) rfl (d_R_b r_v1) q ?_
    exact dw_ic rfl (dw_rB rfl rfl (Or.inl rfl) hF)
  · refine dw_zeq_n rfl (u := 28) rfl (d_R_b r_v1) q ?_
    refine dw_aln rfl rfl (dw_iln rfl rfl (dw_vB hF rfl (d_vir (n := 2) rfl rfl rfl rfl rfl hH d_c64_0 rfl) rfl rfl rfl (dc := 1) (fun _ e => D_X12_isSold e hH r_x1) (fun v2 r_v2 hF => ?_)))
    refine d_if hF (fun q hF => ?_) (fun q hF => ?_)
    · refine dw_zne_y rfl (u := 28) rfl (d_R_b r_v2) q ?_
      refine dw_aln rfl rfl (dw_iln rfl rfl (dw_vB hF rfl (d_vir (n := 2) rfl rfl rfl rfl rfl hH d_c64_0 rfl) rfl rfl rfl (dc := 1) (fun _ e => D_X12_isWater e hH r_x1) (fun v3 r_v3 hF => ?_)))
      refine d_if hF (fun q hF => ?_) (fun q hF => ?_)
      · refine dw_zne_y rfl (u := 28) rfl (d_R_b r_v3) q ?_
        exact dw_ic rfl (dw_go rfl (u := 29) rfl (dw_rB rfl rfl (Or.inr rfl) hF))
      · refine dw_zne_n rfl (u := 28) rfl (d_R_b r_v3) q ?_
        exact dw_ic rfl (dw_rB rfl rfl (Or.inl rfl) hF)
    · refine dw_zne_n rfl (u := 28) rfl (d_R_b r_v2) q ?_
      exact dw_ic rfl (dw_rB rfl rfl (Or.inl rfl) hF)
set_option maxRecDepth 100000 in
noncomputable def F_X12_blockOf (s : d_S) (x1 : Int) (x2 : Int) : Option (Int) :=
  d_b (F_X12_isIn x1 0 (d_w ((s.1 65 16) - 1))) (fun v1 => if v1 = 0 then
  some (-1)
  else
  d_b (F_X12_isIn x2 0 (d_w ((s.1 65 17) - 1))) (fun v2 => if v2 = 0 then
  some (-1)
  else
  d_b (F_X12_partOf (s.1 65 15) x2) (fun v3 => d_b (F_X12_across s) (fun v4 => d_b (F_X12_partOf (s.1 65 14) x1) (fun v5 => some (d_w ((v3 * v4) + v5)))))))
set_option maxRecDepth 100000 in
theorem D_X12_blockOf {t : Nat → Option p_C} {h : p_H} {s : d_S} {x1 : Int} {x2 : Int} {r : Int} (hF : F_X12_blockOf s x1 x2 = some r) (hH : d_V t h s) (r_x1 : d_R x1) (r_x2 : d_R x2) : p_wp p_GT p_MT 2 m_X12_blockOf 0 (lv_args 0 [.ref 64, .int (Int32.ofInt x1), .int (Int32.ofInt x2)]) [] h (d_QP h r) := by
  unfold F_X12_blockOf at hF
  refine dw_iln rfl rfl (dw_ic rfl (dw_aln rfl rfl (dw_gr rfl rfl rfl hH d_c64_0 (dw_bp rfl rfl (dw_ald rfl hH d_a65 rfl (by decide) (by decide) (d_rl rfl) (k := 16) rfl (dw_ic rfl (dw_sub rfl (dw_w1 (dw_sB hF rfl rfl rfl rfl rfl (dc := 0) (fun _ e => D_X12_isIn e r_x1 (d_rl rfl) d_R_w) (fun v1 r_v1 hF => ?_))))))))))
  refine d_if hF (fun q hF => ?_) (fun q hF => ?_)
  · refine dw_zeq_y rfl (u := 34) rfl (d_R_b r_v1) q ?_
    exact dw_ic rfl (dw_rP rfl rfl (d_rl rfl) hF)
  · refine dw_zeq_n rfl (u := 34) rfl (d_R_b r_v1) q ?_
    refine dw_iln rfl rfl (dw_ic rfl (dw_aln rfl rfl (dw_gr rfl rfl rfl hH d_c64_0 (dw_bp rfl rfl (dw_ald rfl hH d_a65 rfl (by decide) (by decide) (d_rl rfl) (k := 17) rfl (dw_ic rfl (dw_sub rfl (dw_w1 (dw_sB hF rfl rfl rfl rfl rfl (dc := 0) (fun _ e => D_X12_isIn e r_x2 (d_rl rfl) d_R_w) (fun v2 r_v2 hF => ?_))))))))))
    refine d_if hF (fun q hF => ?_) (fun q hF => ?_)
    · refine dw_zne_y rfl (u := 36) rfl (d_R_b r_v2) q ?_
      exact dw_ic rfl (dw_rP rfl rfl (d_rl rfl) hF)
    · refine dw_zne_n rfl (u := 36) rfl (d_R_b r_v2) q ?_
      refine dw_aln rfl rfl (dw_gr rfl rfl rfl hH d_c64_0 (dw_bp rfl rfl (dw_ald rfl hH d_a65 rfl (by decide) (by decide) (d_rl rfl) (k := 15) rfl (dw_iln rfl rfl (dw_sP hF rfl rfl rfl rfl rfl (dc := 1) (fun _ e => D_X12_partOf e hH.r r_x2) (fun v3 r_v3 hF => dw_aln rfl rfl (dw_vP hF rfl (d_vir (n := 1) rfl rfl rfl rfl rfl hH d_c64_0 rfl) rfl rfl rfl (dc := 1) (fun _ e => D_X12_across e hH) (fun v4 r_v4 hF => dw_mul rfl (dw_aln rfl rfl (?_))))))))))
      exact dw_gr rfl rfl rfl hH d_c64_0 (dw_bp rfl rfl (dw_ald rfl hH d_a65 rfl (by decide) (by decide) (d_rl rfl) (k := 14) rfl (dw_iln rfl rfl (dw_sP hF rfl rfl rfl rfl rfl (dc := 1) (fun _ e => D_X12_partOf e hH.r r_x1) (fun v5 r_v5 hF => dw_add rfl (dw_w1 (dw_rP rfl rfl d_R_w hF)))))))
set_option maxRecDepth 100000 in
noncomputable def F_X12_through (x0 : Int) (x1 : Int) : Option (Int) :=
  some (d_shl ((d_shl 1 (x1 - 1)) - 1) x0)
set_option maxRecDepth 100000 in
theorem D_X12_through {h : p_H} {x0 : Int} {x1 : Int} {r : Int} (hF : F_X12_through x0 x1 = some r) (r_x0 : d_R x0) (r_x1 : d_R x1) : p_wp p_GT p_MT 0 m_X12_through 0 (lv_args 0 [.int (Int32.ofInt x0), .int (Int32.ofInt x1)]) [] h (d_QP h r) := by
  unfold F_X12_through at hF
  exact dw_ic rfl (dw_iln rfl rfl (dw_ic rfl (dw_sub rfl (dw_shl rfl (dw_ic rfl (dw_sub rfl (dw_iln rfl rfl (dw_shl rfl (dw_rP rfl rfl d_R_t hF)))))))))
set_option maxRecDepth 100000 in
noncomputable def F_X12_isUncut (s : d_S) (x1 : Int) (x2 : Int) (x3 : Int) : Option (Int) :=
  d_b (F_X12_sightOf s x1 1) (fun v1 => d_b (F_X12_sightOf s x1 3) (fun v2 => d_b (F_X12_through v1 v2) (fun v3 => if (d_and x2 v3) = 0 then
  d_b (F_X12_sightOf s x1 2) (fun v4 => d_b (F_X12_sightOf s x1 4) (fun v5 => d_b (F_X12_through v4 v5) (fun v6 => if (d_and x3 v6) = 0 then
  some 1
  else
  some 0)))
  else
  some 0)))
set_option maxRecDepth 100000 in
theorem D_X12_isUncut {t : Nat → Option p_C} {h : p_H} {s : d_S} {x1 : Int} {x2 : Int} {x3 : Int} {r : Int} (hF : F_X12_isUncut s x1 x2 x3 = some r) (hH : d_V t h s) (r_x1 : d_R x1) (r_x2 : d_R x2) (r_x3 : d_R x3) : p_wp p_GT p_MT 1 m_X12_isUncut 0 (lv_args 0 [.ref 64, .int (Int32.ofInt x1), .int (Int32.ofInt x2), .int (Int32.ofInt x3)]) [] h (d_QB h r) := by
  unfold F_X12_isUncut at hF
  refine dw_iln rfl rfl (dw_aln rfl rfl (dw_iln rfl rfl (dw_ic rfl (dw_vP hF rfl (d_vir (n := 3) rfl rfl rfl rfl rfl hH d_c64_0 rfl) rfl rfl rfl (dc := 0) (fun _ e => D_X12_sightOf e hH r_x1 (d_rl rfl)) (fun v1 r_v1 hF => dw_aln rfl rfl (dw_iln rfl rfl (dw_ic rfl (dw_vP hF rfl (d_vir (n := 3) rfl rfl rfl rfl rfl hH d_c64_0 rfl) rfl rfl rfl (dc := 0) (fun _ e => D_X12_sightOf e hH r_x1 (d_rl rfl)) (fun v2 r_v2 hF => dw_sP hF rfl rfl rfl rfl rfl (dc := 0) (fun _ e => D_X12_through e r_v1 r_v2) (fun v3 r_v3 hF => ?_))))))))))
  refine dw_and rfl (?_)
  refine d_if hF (fun q hF => ?_) (fun q hF => ?_)
  · refine dw_zne_y rfl (u := 44) rfl d_R_t q ?_
    refine dw_iln rfl rfl (dw_aln rfl rfl (dw_iln rfl rfl (dw_ic rfl (dw_vP hF rfl (d_vir (n := 3) rfl rfl rfl rfl rfl hH d_c64_0 rfl) rfl rfl rfl (dc := 0) (fun _ e => D_X12_sightOf e hH r_x1 (d_rl rfl)) (fun v4 r_v4 hF => dw_aln rfl rfl (dw_iln rfl rfl (dw_ic rfl (dw_vP hF rfl (d_vir (n := 3) rfl rfl rfl rfl rfl hH d_c64_0 rfl) rfl rfl rfl (dc := 0) (fun _ e => D_X12_sightOf e hH r_x1 (d_rl rfl)) (fun v5 r_v5 hF => dw_sP hF rfl rfl rfl rfl rfl (dc := 0) (fun _ e => D_X12_through e r_v4 r_v5) (fun v6 r_v6 hF => ?_))))))))))
    refine dw_and rfl (?_)
    refine d_if hF (fun q hF => ?_) (fun q hF => ?_)
    · refine dw_zne_y rfl (u := 44) rfl d_R_t q ?_
      exact dw_ic rfl (dw_go rfl (u := 45) rfl (dw_rB rfl rfl (Or.inr rfl) hF))
    · refine dw_zne_n rfl (u := 44) rfl d_R_t q ?_
      exact dw_ic rfl (dw_rB rfl rfl (Or.inl rfl) hF)
  · refine dw_zne_n rfl (u := 44) rfl d_R_t q ?_
    exact dw_ic rfl (dw_rB rfl rfl (Or.inl rfl) hF)
set_option maxRecDepth 100000 in
noncomputable def F_X12_isShowing_l2_b (s : d_S) (rec : Int → Int → Option (Int)) (x1 : Int) (x2 : Int) : Option (Int) :=
  d_b (F_X12_blocks s) (fun v1 => if x2 < v1 then
  d_b (F_X12_cellsIn s x1 x2) (fun v2 => if 0 < v2 then
  d_b (F_X12_get s x2 1) (fun v3 => d_b (F_X12_sightOf s x1 5) (fun v4 => if (d_w (10 * v4)) < v3 then
  some 1
  else
  rec x1 (d_w (x2 + 1))))
  else
  rec x1 (d_w (x2 + 1)))
  else
  some 0)
set_option maxRecDepth 100000 in
noncomputable def F_X12_isShowing_l2 (s : d_S) : Nat → Int → Int → Option (Int)
  | 0 => fun _ _ => none
  | n + 1 => F_X12_isShowing_l2_b s (F_X12_isShowing_l2 s n)
set_option maxRecDepth 100000 in
theorem D_X12_isShowing_l2 {t : Nat → Option p_C} {h : p_H} {s : d_S} {r : Int} (hH : d_V t h s) : ∀ (n : Nat) {x1 : Int} {x2 : Int} {ls : p_Ls}, F_X12_isShowing_l2 s n x1 x2 = some r → p_lk 0 ls = some (.ref 64) → d_R x1 → p_lk 1 ls = some (.int (Int32.ofInt x1)) → d_R x2 → p_lk 2 ls = some (.int (Int32.ofInt x2)) → p_wp p_GT p_MT 5 m_X12_isShowing 2 ls [] h (d_QB h r) := by
  intro n
  induction n with
  | zero =>
    intro x1 x2 ls hF l0 r_x1 l1 r_x2 l2
    cases (show (none : Option (Int)) = some r from hF)
  | succ n ih =>
    intro x1 x2 ls hF l0 r_x1 l1 r_x2 l2
    have hF : F_X12_isShowing_l2_b s (F_X12_isShowing_l2 s n) x1 x2 = some r := hF
    unfold F_X12_isShowing_l2_b at hF
    refine dw_iln rfl l2 (dw_aln rfl l0 (dw_vP hF rfl (d_vir (n := 1) rfl rfl rfl rfl rfl hH d_c64_0 rfl) rfl rfl rfl (dc := 2) (fun _ e => D_X12_blocks e hH) (fun v1 r_v1 hF => ?_)))
    refine d_if hF (fun q hF => ?_) (fun q hF => ?_)
    · refine dw_ge_y rfl (u := 45) rfl r_x2 r_v1 q ?_
      refine dw_aln rfl l0 (dw_iln rfl l1 (dw_iln rfl l2 (dw_vP hF rfl (d_vir (n := 3) rfl rfl rfl rfl rfl hH d_c64_0 rfl) rfl rfl rfl (dc := 4) (fun _ e => D_X12_cellsIn e hH r_x1 r_x2) (fun v2 r_v2 hF => ?_))))
      refine d_if hF (fun q hF => ?_) (fun q hF => ?_)
      · refine dw_zle_y rfl (u := 39) rfl r_v2 q ?_
        refine dw_aln rfl l0 (dw_iln rfl l2 (dw_ic rfl (dw_vP hF rfl (d_vir (n := 3) rfl rfl rfl rfl rfl hH d_c64_0 rfl) rfl rfl rfl (dc := 0) (fun _ e => D_X12_get e hH r_x2 (d_rl rfl)) (fun v3 r_v3 hF => dw_bp rfl rfl (dw_aln rfl l0 (dw_iln rfl l1 (dw_ic rfl (dw_vP hF rfl (d_vir (n := 3) rfl rfl rfl rfl rfl hH d_c64_0 rfl) rfl rfl rfl (dc := 0) (fun _ e => D_X12_sightOf e hH r_x1 (d_rl rfl)) (fun v4 r_v4 hF => dw_mul rfl (?_))))))))))
        refine dw_w1 (?_)
        refine d_if hF (fun q hF => ?_) (fun q hF => ?_)
        · refine dw_le_y rfl (u := 39) rfl r_v3 d_R_w q ?_
          exact dw_ic rfl (dw_rB rfl rfl (Or.inr rfl) hF)
        · refine dw_le_n rfl (u := 39) rfl r_v3 d_R_w q ?_
          refine dw_ii rfl l2 rfl (dw_go rfl (u := 2) rfl (?_))
          exact ih hF (d_s1 l0 rfl (by decide)) r_x1 (d_s1 l1 rfl (by decide)) d_R_w p_lk_s1
      · refine dw_zle_n rfl (u := 39) rfl r_v2 q ?_
        refine dw_ii rfl l2 rfl (dw_go rfl (u := 2) rfl (?_))
        exact ih hF (d_s1 l0 rfl (by decide)) r_x1 (d_s1 l1 rfl (by decide)) d_R_w p_lk_s1
    · refine dw_ge_n rfl (u := 45) rfl r_x2 r_v1 q ?_
      exact dw_ic rfl (dw_rB rfl rfl (Or.inl rfl) hF)
set_option maxRecDepth 100000 in
noncomputable def F_X12_isShowing (s : d_S) (x1 : Int) : Option (Int) :=
  F_X12_isShowing_l2 s d_N x1 0
set_option maxRecDepth 100000 in
theorem D_X12_isShowing {t : Nat → Option p_C} {h : p_H} {s : d_S} {x1 : Int} {r : Int} (hF : F_X12_isShowing s x1 = some r) (hH : d_V t h s) (r_x1 : d_R x1) : p_wp p_GT p_MT 5 m_X12_isShowing 0 (lv_args 0 [.ref 64, .int (Int32.ofInt x1)]) [] h (d_QB h r) := by
  unfold F_X12_isShowing at hF
  refine dw_ic rfl (dw_isn rfl rfl (?_))
  exact D_X12_isShowing_l2 hH _ hF (d_s1 rfl rfl (by decide)) r_x1 (d_s1 rfl rfl (by decide)) (d_rl rfl) p_lk_s1
set_option maxRecDepth 100000 in
noncomputable def F_X12_ofSight (s : d_S) (x1 : Int) (x2 : Int) : Option (Int) :=
  d_b (F_X12_isSight s x1) (fun v1 => if v1 = 0 then
  some (-1)
  else
  d_b (F_X12_isIn x2 0 7) (fun v2 => if v2 = 0 then
  some (-1)
  else
  if x2 = 6 then
  d_b (F_X12_isUncut s x1 (s.1 65 14) (s.1 65 15)) (fun v3 => if v3 = 0 then
  some 0
  else
  some 1)
  else
  if x2 = 7 then
  d_b (F_X12_isShowing s x1) (fun v4 => if v4 = 0 then
  some 0
  else
  some 1)
  else
  d_b (F_X12_sightOf s x1 x2) (fun v5 => some v5)))
set_option maxRecDepth 100000 in
theorem D_X12_ofSight {t : Nat → Option p_C} {h : p_H} {s : d_S} {x1 : Int} {x2 : Int} {r : Int} (hF : F_X12_ofSight s x1 x2 = some r) (hH : d_V t h s) (r_x1 : d_R x1) (r_x2 : d_R x2) : p_wp p_GT p_MT 6 m_X12_ofSight 0 (lv_args 0 [.ref 64, .int (Int32.ofInt x1), .int (Int32.ofInt x2)]) [] h (d_QP h r) := by
  unfold F_X12_ofSight at hF
  refine dw_aln rfl rfl (dw_iln rfl rfl (dw_vB hF rfl (d_vir (n := 2) rfl rfl rfl rfl rfl hH d_c64_0 rfl) rfl rfl rfl (dc := 1) (fun _ e => D_X12_isSight e hH r_x1) (fun v1 r_v1 hF => ?_)))
  refine d_if hF (fun q hF => ?_) (fun q hF => ?_)
  · refine dw_zeq_y rfl (u := 18) rfl (d_R_b r_v1) q ?_
    exact dw_ic rfl (dw_rP rfl rfl (d_rl rfl) hF)
  · refine dw_zeq_n rfl (u := 18) rfl (d_R_b r_v1) q ?_
    refine dw_iln rfl rfl (dw_ic rfl (dw_bp rfl rfl (dw_sB hF rfl rfl rfl rfl rfl (dc := 0) (fun _ e => D_X12_isIn e r_x2 (d_rl rfl) (d_rl rfl)) (fun v2 r_v2 hF => ?_))))
    refine d_if hF (fun q hF => ?_) (fun q hF => ?_)
    · refine dw_zne_y rfl (u := 20) rfl (d_R_b r_v2) q ?_
      exact dw_ic rfl (dw_rP rfl rfl (d_rl rfl) hF)
    · refine dw_zne_n rfl (u := 20) rfl (d_R_b r_v2) q ?_
      refine dw_iln rfl rfl (dw_bp rfl rfl (?_))
      refine d_if hF (fun q hF => ?_) (fun q hF => ?_)
      · refine dw_ne_y rfl (u := 54) rfl r_x2 (d_rl rfl) q ?_
        refine dw_aln rfl rfl (dw_iln rfl rfl (dw_aln rfl rfl (dw_gr rfl rfl rfl hH d_c64_0 (dw_bp rfl rfl (dw_ald rfl hH d_a65 rfl (by decide) (by decide) (d_rl rfl) (k := 14) rfl (dw_aln rfl rfl (dw_gr rfl rfl rfl hH d_c64_0 (dw_bp rfl rfl (dw_ald rfl hH d_a65 rfl (by decide) (by decide) (d_rl rfl) (k := 15) rfl (?_))))))))))
        refine dw_vB hF rfl (d_vir (n := 4) rfl rfl rfl rfl rfl hH d_c64_0 rfl) rfl rfl rfl (dc := 1) (fun _ e => D_X12_isUncut e hH r_x1 hH.r hH.r) (fun v3 r_v3 hF => ?_)
        refine d_if hF (fun q hF => ?_) (fun q hF => ?_)
        · refine dw_zeq_y rfl (u := 52) rfl (d_R_b r_v3) q ?_
          exact dw_ic rfl (dw_rP rfl rfl (d_rl rfl) hF)
        · refine dw_zeq_n rfl (u := 52) rfl (d_R_b r_v3) q ?_
          exact dw_ic rfl (dw_go rfl (u := 53) rfl (dw_rP rfl rfl (d_rl rfl) hF))
      · refine dw_ne_n rfl (u := 54) rfl r_x2 (d_rl rfl) q ?_
        refine dw_iln rfl rfl (dw_bp rfl rfl (?_))
        refine d_if hF (fun q hF => ?_) (fun q hF => ?_)
        · refine dw_ne_y rfl (u := 76) rfl r_x2 (d_rl rfl) q ?_
          refine dw_aln rfl rfl (dw_iln rfl rfl (dw_vB hF rfl (d_vir (n := 2) rfl rfl rfl rfl rfl hH d_c64_0 rfl) rfl rfl rfl (dc := 5) (fun _ e => D_X12_isShowing e hH r_x1) (fun v4 r_v4 hF => ?_)))
          refine d_if hF (fun q hF => ?_) (fun q hF => ?_)
          · refine dw_zeq_y rfl (u := 72) rfl (d_R_b r_v4) q ?_
            exact dw_ic rfl (dw_go rfl (u := 82) rfl (dw_rP rfl rfl (d_rl rfl) hF))
          · refine dw_zeq_n rfl (u := 72) rfl (d_R_b r_v4) q ?_
            exact dw_ic rfl (dw_go rfl (u := 82) rfl (dw_rP rfl rfl (d_rl rfl) hF))
        · refine dw_ne_n rfl (u := 76) rfl r_x2 (d_rl rfl) q ?_
          exact dw_aln rfl rfl (dw_iln rfl rfl (dw_iln rfl rfl (dw_vP hF rfl (d_vir (n := 3) rfl rfl rfl rfl rfl hH d_c64_0 rfl) rfl rfl rfl (dc := 0) (fun _ e => D_X12_sightOf e hH r_x1 r_x2) (fun v5 r_v5 hF => dw_rP rfl rfl r_v5 hF))))
set_option maxRecDepth 100000 in
noncomputable def F_X12_is (s : d_S) (x1 : Int) : Option (Int) :=
  d_b (F_X12_isIn x1 0 8) (fun v1 => if v1 = 0 then
  if x1 = 9 then
  d_b (F_X12_blocks s) (fun v2 => some v2)
  else
  some (-2)
  else
  d_g (0 ≤ (d_w (9 + x1)) ∧ (d_w (9 + x1)) < 2517) (some (s.1 65 (((d_w (9 + x1))).toNat))))
set_option maxRecDepth 100000 in
theorem D_X12_is {t : Nat → Option p_C} {h : p_H} {s : d_S} {x1 : Int} {r : Int} (hF : F_X12_is s x1 = some r) (hH : d_V t h s) (r_x1 : d_R x1) : p_wp p_GT p_MT 3 m_X12_is 0 (lv_args 0 [.ref 64, .int (Int32.ofInt x1)]) [] h (d_QP h r) := by
  unfold F_X12_is at hF
  refine dw_iln rfl rfl (dw_ic rfl (dw_bp rfl rfl (dw_sB hF rfl rfl rfl rfl rfl (dc := 0) (fun _ e => D_X12_isIn e r_x1 (d_rl rfl) (d_rl rfl)) (fun v1 r_v1 hF => ?_))))
  refine d_if hF (fun q hF => ?_) (fun q hF => ?_)
  · refine dw_zeq_y rfl (u := 22) rfl (d_R_b r_v1) q ?_
    refine dw_iln rfl rfl (dw_bp rfl rfl (?_))
    refine d_if hF (fun q hF => ?_) (fun q hF => ?_)
    · refine dw_ne_y rfl (u := 35) rfl r_x1 (d_rl rfl) q ?_
      exact dw_aln rfl rfl (dw_vP hF rfl (d_vir (n := 1) rfl rfl rfl rfl rfl hH d_c64_0 rfl) rfl rfl rfl (dc := 2) (fun _ e => D_X12_blocks e hH) (fun v2 r_v2 hF => dw_go rfl (u := 37) rfl (dw_rP rfl rfl r_v2 hF)))
    · refine dw_ne_n rfl (u := 35) rfl r_x1 (d_rl rfl) q ?_
      exact dw_bp rfl rfl (dw_rP rfl rfl (d_rl rfl) hF)
  · refine dw_zeq_n rfl (u := 22) rfl (d_R_b r_v1) q ?_
    exact dw_aln rfl rfl (dw_gr rfl rfl rfl hH d_c64_0 (dw_bp rfl rfl (dw_iln rfl rfl (dw_add rfl (dw_w1 (d_gd hF (fun g3 hF => dw_ald rfl hH d_a65 rfl g3.1 g3.2 d_R_w rfl (dw_go rfl (u := 37) rfl (dw_rP rfl rfl hH.r hF)))))))))
set_option maxRecDepth 100000 in
noncomputable def F_X12_wholeBy_l5_b (s : d_S) (rec : Int → Int → Int → Int → Option (Int)) (x1 : Int) (x2 : Int) (x3 : Int) (x4 : Int) : Option (Int) :=
  if x4 < (s.1 65 0) then
  d_b (F_X12_isUncut s x4 x1 x2) (fun v1 => if v1 = 0 then
  rec x1 x2 (d_or x3 0) (d_w (x4 + 1))
  else
  rec x1 x2 (d_or x3 (d_shl 1 x4)) (d_w (x4 + 1)))
  else
  some x3
set_option maxRecDepth 100000 in
noncomputable def F_X12_wholeBy_l5 (s : d_S) : Nat → Int → Int → Int → Int → Option (Int)
  | 0 => fun _ _ _ _ => none
  | n + 1 => F_X12_wholeBy_l5_b s (F_X12_wholeBy_l5 s n)
set_option maxRecDepth 100000 in
theorem D_X12_wholeBy_l5 {t : Nat → Option p_C} {h : p_H} {s : d_S} {r : Int} (hH : d_V t h s) : ∀ (n : Nat) {x1 : Int} {x2 : Int} {x3 : Int} {x4 : Int} {ls : p_Ls}, F_X12_wholeBy_l5 s n x1 x2 x3 x4 = some r → p_lk 0 ls = some (.ref 64) → d_R x1 → p_lk 1 ls = some (.int (Int32.ofInt x1)) → d_R x2 → p_lk 2 ls = some (.int (Int32.ofInt x2)) → d_R x3 → p_lk 3 ls = some (.int (Int32.ofInt x3)) → d_R x4 → p_lk 4 ls = some (.int (Int32.ofInt x4)) → p_wp p_GT p_MT 2 m_X12_wholeBy 5 ls [] h (d_QP h r) := by
  intro n
  induction n with
  | zero =>
    intro x1 x2 x3 x4 ls hF l0 r_x1 l1 r_x2 l2 r_x3 l3 r_x4 l4
    cases (show (none : Option (Int)) = some r from hF)
  | succ n ih =>
    intro x1 x2 x3 x4 ls hF l0 r_x1 l1 r_x2 l2 r_x3 l3 r_x4 l4
    have hF : F_X12_wholeBy_l5_b s (F_X12_wholeBy_l5 s n) x1 x2 x3 x4 = some r := hF
    unfold F_X12_wholeBy_l5_b at hF
    refine dw_il rfl l4 (dw_aln rfl l0 (dw_gr rfl rfl rfl hH d_c64_0 (dw_ic rfl (dw_ald rfl hH d_a65 rfl (by decide) (by decide) (d_rl rfl) (k := 0) rfl (?_)))))
    refine d_if hF (fun q hF => ?_) (fun q hF => ?_)
    · refine dw_ge_y rfl (u := 44) rfl r_x4 hH.r q ?_
      refine dw_iln rfl l3 (dw_aln rfl l0 (dw_il rfl l4 (dw_iln rfl l1 (dw_iln rfl l2 (dw_vB hF rfl (d_vir (n := 4) rfl rfl rfl rfl rfl hH d_c64_0 rfl) rfl rfl rfl (dc := 1) (fun _ e => D_X12_isUncut e hH r_x4 r_x1 r_x2) (fun v1 r_v1 hF => ?_))))))
      refine d_if hF (fun q hF => ?_) (fun q hF => ?_)
      · refine dw_zeq_y rfl (u := 35) rfl (d_R_b r_v1) q ?_
        refine dw_ic rfl (dw_or rfl (dw_isn rfl rfl (dw_ii rfl (d_s1 l4 rfl (by decide)) rfl (dw_go rfl (u := 5) rfl (?_)))))
        exact ih hF (d_s1 (d_s1 l0 rfl (by decide)) rfl (by decide)) r_x1 (d_s1 (d_s1 l1 rfl (by decide)) rfl (by decide)) r_x2 (d_s1 (d_s1 l2 rfl (by decide)) rfl (by decide)) d_R_t (d_s1 p_lk_s1 rfl (by decide)) d_R_w p_lk_s1
      · refine dw_zeq_n rfl (u := 35) rfl (d_R_b r_v1) q ?_
        refine dw_ic rfl (dw_il rfl l4 (dw_shl rfl (dw_go rfl (u := 36) rfl (dw_or rfl (dw_isn rfl rfl (dw_ii rfl (d_s1 l4 rfl (by decide)) rfl (dw_go rfl (u := 5) rfl (?_))))))))
        exact ih hF (d_s1 (d_s1 l0 rfl (by decide)) rfl (by decide)) r_x1 (d_s1 (d_s1 l1 rfl (by decide)) rfl (by decide)) r_x2 (d_s1 (d_s1 l2 rfl (by decide)) rfl (by decide)) d_R_t (d_s1 p_lk_s1 rfl (by decide)) d_R_w p_lk_s1
    · refine dw_ge_n rfl (u := 44) rfl r_x4 hH.r q ?_
      exact dw_iln rfl l3 (dw_rP rfl rfl r_x3 hF)
set_option maxRecDepth 100000 in
noncomputable def F_X12_wholeBy (s : d_S) (x1 : Int) (x2 : Int) : Option (Int) :=
  F_X12_wholeBy_l5 s d_N x1 x2 0 0
set_option maxRecDepth 100000 in
theorem D_X12_wholeBy {t : Nat → Option p_C} {h : p_H} {s : d_S} {x1 : Int} {x2 : Int} {r : Int} (hF : F_X12_wholeBy s x1 x2 = some r) (hH : d_V t h s) (r_x1 : d_R x1) (r_x2 : d_R x2) : p_wp p_GT p_MT 2 m_X12_wholeBy 0 (lv_args 0 [.ref 64, .int (Int32.ofInt x1), .int (Int32.ofInt x2)]) [] h (d_QP h r) := by
  unfold F_X12_wholeBy at hF
  refine dw_ic rfl (dw_isn rfl rfl (dw_ic rfl (dw_is rfl rfl (?_))))
  exact D_X12_wholeBy_l5 hH _ hF (d_s1 (d_s1 rfl rfl (by decide)) rfl (by decide)) r_x1 (d_s1 (d_s1 rfl rfl (by decide)) rfl (by decide)) r_x2 (d_s1 (d_s1 rfl rfl (by decide)) rfl (by decide)) (d_rl rfl) (d_s1 p_lk_s1 rfl (by decide)) (d_rl rfl) p_lk_s1
set_option maxRecDepth 100000 in
noncomputable def F_X12_whole (s : d_S) : Option (Int) :=
  d_b (F_X12_wholeBy s (s.1 65 14) (s.1 65 15)) (fun v1 => some v1)
set_option maxRecDepth 100000 in
theorem D_X12_whole {t : Nat → Option p_C} {h : p_H} {s : d_S} {r : Int} (hF : F_X12_whole s = some r) (hH : d_V t h s) : p_wp p_GT p_MT 3 m_X12_whole 0 (lv_args 0 [.ref 64]) [] h (d_QP h r) := by
  unfold F_X12_whole at hF
  refine dw_aln rfl rfl (dw_aln rfl rfl (dw_gr rfl rfl rfl hH d_c64_0 (dw_bp rfl rfl (dw_ald rfl hH d_a65 rfl (by decide) (by decide) (d_rl rfl) (k := 14) rfl (dw_aln rfl rfl (dw_gr rfl rfl rfl hH d_c64_0 (dw_bp rfl rfl (dw_ald rfl hH d_a65 rfl (by decide) (by decide) (d_rl rfl) (k := 15) rfl (dw_vP hF rfl (d_vir (n := 3) rfl rfl rfl rfl rfl hH d_c64_0 rfl) rfl rfl rfl (dc := 2) (fun _ e => D_X12_wholeBy e hH hH.r hH.r) (fun v1 r_v1 hF => ?_))))))))))
  exact dw_rP rfl rfl r_v1 hF
set_option maxRecDepth 100000 in
noncomputable def F_X12_leastPart_l4_b (rec : Int → Int → Int → Int → Option (Int)) (x0 : Int) (x1 : Int) (x2 : Int) (x3 : Int) : Option (Int) :=
  d_b (F_X12_bits x0) (fun v1 => if v1 < x3 then
  some x2
  else
  d_b (F_X12_lengthOf x0 x3 x1) (fun v2 => if v2 < x2 then
  d_b (F_X12_lengthOf x0 x3 x1) (fun v3 => rec x0 x1 v3 (d_w (x3 + 1)))
  else
  rec x0 x1 x2 (d_w (x3 + 1))))
set_option maxRecDepth 100000 in
noncomputable def F_X12_leastPart_l4 : Nat → Int → Int → Int → Int → Option (Int)
  | 0 => fun _ _ _ _ => none
  | n + 1 => F_X12_leastPart_l4_b (F_X12_leastPart_l4 n)
set_option maxRecDepth 100000 in
theorem D_X12_leastPart_l4 {h : p_H} {r : Int} : ∀ (n : Nat) {x0 : Int} {x1 : Int} {x2 : Int} {x3 : Int} {ls : p_Ls}, F_X12_leastPart_l4 n x0 x1 x2 x3 = some r → d_R x0 → p_lk 0 ls = some (.int (Int32.ofInt x0)) → d_R x1 → p_lk 1 ls = some (.int (Int32.ofInt x1)) → d_R x2 → p_lk 2 ls = some (.int (Int32.ofInt x2)) → d_R x3 → p_lk 3 ls = some (.int (Int32.ofInt x3)) → p_wp p_GT p_MT 3 m_X12_leastPart 4 ls [] h (d_QP h r) := by
  intro n
  induction n with
  | zero =>
    intro x0 x1 x2 x3 ls hF r_x0 l0 r_x1 l1 r_x2 l2 r_x3 l3
    cases (show (none : Option (Int)) = some r from hF)
  | succ n ih =>
    intro x0 x1 x2 x3 ls hF r_x0 l0 r_x1 l1 r_x2 l2 r_x3 l3
    have hF : F_X12_leastPart_l4_b (F_X12_leastPart_l4 n) x0 x1 x2 x3 = some r := hF
    unfold F_X12_leastPart_l4_b at hF
    refine dw_iln rfl l3 (dw_iln rfl l0 (dw_sP hF rfl rfl rfl rfl rfl (dc := 0) (fun _ e => D_X12_bits e r_x0) (fun v1 r_v1 hF => ?_)))
    refine d_if hF (fun q hF => ?_) (fun q hF => ?_)
    · refine dw_gt_y rfl (u := 39) rfl r_x3 r_v1 q ?_
      exact dw_iln rfl l2 (dw_rP rfl rfl r_x2 hF)
    · refine dw_gt_n rfl (u := 39) rfl r_x3 r_v1 q ?_
      refine dw_iln rfl l0 (dw_iln rfl l3 (dw_iln rfl l1 (dw_sP hF rfl rfl rfl rfl rfl (dc := 2) (fun _ e => D_X12_lengthOf e r_x0 r_x3 r_x1) (fun v2 r_v2 hF => dw_iln rfl l2 (?_)))))
      refine d_if hF (fun q hF => ?_) (fun q hF => ?_)
      · refine dw_ge_y rfl (u := 31) rfl r_v2 r_x2 q ?_
        refine dw_iln rfl l0 (dw_iln rfl l3 (dw_iln rfl l1 (dw_sP hF rfl rfl rfl rfl rfl (dc := 2) (fun _ e => D_X12_lengthOf e r_x0 r_x3 r_x1) (fun v3 r_v3 hF => dw_go rfl (u := 32) rfl (dw_isn rfl rfl (dw_ii rfl (d_s1 l3 rfl (by decide)) rfl (dw_go rfl (u := 4) rfl (?_))))))))
        exact ih hF r_x0 (d_s1 (d_s1 l0 rfl (by decide)) rfl (by decide)) r_x1 (d_s1 (d_s1 l1 rfl (by decide)) rfl (by decide)) r_v3 (d_s1 p_lk_s1 rfl (by decide)) d_R_w p_lk_s1
      · refine dw_ge_n rfl (u := 31) rfl r_v2 r_x2 q ?_
        refine dw_iln rfl l2 (dw_isn rfl rfl (dw_ii rfl (d_s1 l3 rfl (by decide)) rfl (dw_go rfl (u := 4) rfl (?_))))
        exact ih hF r_x0 (d_s1 (d_s1 l0 rfl (by decide)) rfl (by decide)) r_x1 (d_s1 (d_s1 l1 rfl (by decide)) rfl (by decide)) r_x2 (d_s1 p_lk_s1 rfl (by decide)) d_R_w p_lk_s1
set_option maxRecDepth 100000 in
noncomputable def F_X12_leastPart (x0 : Int) (x1 : Int) : Option (Int) :=
  F_X12_leastPart_l4 d_N x0 x1 x1 0
set_option maxRecDepth 100000 in
theorem D_X12_leastPart {h : p_H} {x0 : Int} {x1 : Int} {r : Int} (hF : F_X12_leastPart x0 x1 = some r) (r_x0 : d_R x0) (r_x1 : d_R x1) : p_wp p_GT p_MT 3 m_X12_leastPart 0 (lv_args 0 [.int (Int32.ofInt x0), .int (Int32.ofInt x1)]) [] h (d_QP h r) := by
  unfold F_X12_leastPart at hF
  refine dw_iln rfl rfl (dw_isn rfl rfl (dw_ic rfl (dw_isn rfl rfl (?_))))
  exact D_X12_leastPart_l4 _ hF r_x0 (d_s1 (d_s1 rfl rfl (by decide)) rfl (by decide)) r_x1 (d_s1 (d_s1 rfl rfl (by decide)) rfl (by decide)) r_x1 (d_s1 p_lk_s1 rfl (by decide)) (d_rl rfl) p_lk_s1
set_option maxRecDepth 100000 in
noncomputable def F_X12_sawing_l84_b (s : d_S) (k179 : Int → Int → Int → Int → Int → Int → Int → Option (Int)) (rec : Int → Int → Int → Int → Int → Int → Int → Int → Int → Option (Int)) (x1 : Int) (x2 : Int) (x3 : Int) (x4 : Int) (x5 : Int) (x6 : Int) (x7 : Int) (x8 : Int) (x9 : Int) : Option (Int) :=
  if x9 < (d_shl 1 ((s.1 65 17) - 1)) then
  d_b (F_X12_bits x7) (fun v5 => d_b (F_X12_bits x9) (fun v6 => d_l (d_w ((v5 + 1) * (v6 + 1))) (fun z7 => if x4 < z7 then
  d_b (F_X12_leastPart x9 (s.1 65 17)) (fun v8 => if (d_w (x8 * v8)) < x2 then
  rec x1 x2 x3 x4 x5 x6 x7 x8 (d_w (x9 + 1))
  else
  d_b (F_X12_wholeBy s x7 x9) (fun v9 => if (d_and x1 (d_xor v9 (-1))) = 0 then
  rec x1 x2 x3 z7 x7 x9 x7 x8 (d_w (x9 + 1))
  else
  rec x1 x2 x3 x4 x5 x6 x7 x8 (d_w (x9 + 1))))
  else
  rec x1 x2 x3 x4 x5 x6 x7 x8 (d_w (x9 + 1)))))
  else
  k179 x1 x2 x3 x4 x5 x6 x7
set_option maxRecDepth 100000 in
noncomputable def F_X12_sawing_l84 (s : d_S) (k179 : Int → Int → Int → Int → Int → Int → Int → Option (Int)) : Nat → Int → Int → Int → Int → Int → Int → Int → Int → Int → Option (Int)
  | 0 => fun _ _ _ _ _ _ _ _ _ => none
  | n + 1 => F_X12_sawing_l84_b s k179 (F_X12_sawing_l84 s k179 n)
set_option maxRecDepth 100000 in
theorem D_X12_sawing_l84 {t : Nat → Option p_C} {h : p_H} {s : d_S} {k179 : Int → Int → Int → Int → Int → Int → Int → Option (Int)} {r : Int} (hH : d_V t h s) (hk179 : ∀ {x1 : Int} {x2 : Int} {x3 : Int} {x4 : Int} {x5 : Int} {x6 : Int} {x7 : Int} {ls : p_Ls}, k179 x1 x2 x3 x4 x5 x6 x7 = some r → p_lk 0 ls = some (.ref 64) → d_R x1 → p_lk 1 ls = some (.int (Int32.ofInt x1)) → d_R x2 → p_lk 2 ls = some (.int (Int32.ofInt x2)) → d_R x3 → p_lk 3 ls = some (.int (Int32.ofInt x3)) → d_R x4 → p_lk 4 ls = some (.int (Int32.ofInt x4)) → d_R x5 → p_lk 5 ls = some (.int (Int32.ofInt x5)) → d_R x6 → p_lk 6 ls = some (.int (Int32.ofInt x6)) → d_R x7 → p_lk 7 ls = some (.int (Int32.ofInt x7)) → p_wp p_GT p_MT 4 m_X12_sawing 179 ls [] h (d_QP h r)) : ∀ (n : Nat) {x1 : Int} {x2 : Int} {x3 : Int} {x4 : Int} {x5 : Int} {x6 : Int} {x7 : Int} {x8 : Int} {x9 : Int} {ls : p_Ls}, F_X12_sawing_l84 s k179 n x1 x2 x3 x4 x5 x6 x7 x8 x9 = some r → p_lk 0 ls = some (.ref 64) → d_R x1 → p_lk 1 ls = some (.int (Int32.ofInt x1)) → d_R x2 → p_lk 2 ls = some (.int (Int32.ofInt x2)) → d_R x3 → p_lk 3 ls = some (.int (Int32.ofInt x3)) → d_R x4 → p_lk 4 ls = some (.int (Int32.ofInt x4)) → d_R x5 → p_lk 5 ls = some (.int (Int32.ofInt x5)) → d_R x6 → p_lk 6 ls = some (.int (Int32.ofInt x6)) → d_R x7 → p_lk 7 ls = some (.int (Int32.ofInt x7)) → d_R x8 → p_lk 8 ls = some (.int (Int32.ofInt x8)) → d_R x9 → p_lk 9 ls = some (.int (Int32.ofInt x9)) → p_wp p_GT p_MT 4 m_X12_sawing 84 ls [] h (d_QP h r) := by
  intro n
  induction n with
  | zero =>
    intro x1 x2 x3 x4 x5 x6 x7 x8 x9 ls hF l0 r_x1 l1 r_x2 l2 r_x3 l3 r_x4 l4 r_x5 l5 r_x6 l6 r_x7 l7 r_x8 l8 r_x9 l9
    cases (show (none : Option (Int)) = some r from hF)
  | succ n ih =>
    intro x1 x2 x3 x4 x5 x6 x7 x8 x9 ls hF l0 r_x1 l1 r_x2 l2 r_x3 l3 r_x4 l4 r_x5 l5 r_x6 l6 r_x7 l7 r_x8 l8 r_x9 l9
    have hF : F_X12_sawing_l84_b s k179 (F_X12_sawing_l84 s k179 n) x1 x2 x3 x4 x5 x6 x7 x8 x9 = some r := hF
    unfold F_X12_sawing_l84_b at hF
    refine dw_il rfl l9 (dw_ic rfl (dw_aln rfl l0 (dw_gr rfl rfl rfl hH d_c64_0 (dw_bp rfl rfl (dw_ald rfl hH d_a65 rfl (by decide) (by decide) (d_rl rfl) (k := 17) rfl (dw_ic rfl (dw_sub rfl (dw_shl rfl (?_)))))))))
    refine d_if hF (fun q hF => ?_) (fun q hF => ?_)
    · refine dw_ge_y rfl (u := 179) rfl r_x9 d_R_t q ?_
      refine dw_il rfl l7 (dw_sP hF rfl rfl rfl rfl rfl (dc := 0) (fun _ e => D_X12_bits e r_x7) (fun v5 r_v5 hF => dw_ic rfl (dw_add rfl (dw_il rfl l9 (dw_sP hF rfl rfl rfl rfl rfl (dc := 0) (fun _ e => D_X12_bits e r_x9) (fun v6 r_v6 hF => dw_ic rfl (dw_add rfl (dw_mul rfl (dw_w1 (?_))))))))))
      refine dw_nm hF d_R_w (fun z7 r_z7 hF => dw_is rfl rfl (dw_il rfl p_lk_s1 (dw_il rfl (d_s1 l4 rfl (by decide)) (?_))))
      refine d_if hF (fun q hF => ?_) (fun q hF => ?_)
      · refine dw_le_y rfl (u := 173) rfl r_z7 r_x4 q ?_
        refine dw_il rfl (d_s1 l8 rfl (by decide)) (dw_il rfl (d_s1 l9 rfl (by decide)) (dw_aln rfl (d_s1 l0 rfl (by decide)) (dw_gr rfl rfl rfl hH d_c64_0 (dw_bp rfl rfl (dw_ald rfl hH d_a65 rfl (by decide) (by decide) (d_rl rfl) (k := 17) rfl (dw_sP hF rfl rfl rfl rfl rfl (dc := 3) (fun _ e => D_X12_leastPart e r_x9 hH.r) (fun v8 r_v8 hF => dw_mul rfl (dw_iln rfl (d_s1 l2 rfl (by decide)) (dw_w2 (?_))))))))))
        refine d_if hF (fun q hF => ?_) (fun q hF => ?_)
        · refine dw_lt_y rfl (u := 173) rfl d_R_w r_x2 q ?_
          refine dw_ii rfl (d_s1 l9 rfl (by decide)) rfl (dw_go rfl (u := 84) rfl (?_))
          exact ih hF (d_s1 (d_s1 l0 rfl (by decide)) rfl (by decide)) r_x1 (d_s1 (d_s1 l1 rfl (by decide)) rfl (by decide)) r_x2 (d_s1 (d_s1 l2 rfl (by decide)) rfl (by decide)) r_x3 (d_s1 (d_s1 l3 rfl (by decide)) rfl (by decide)) r_x4 (d_s1 (d_s1 l4 rfl (by decide)) rfl (by decide)) r_x5 (d_s1 (d_s1 l5 rfl (by decide)) rfl (by decide)) r_x6 (d_s1 (d_s1 l6 rfl (by decide)) rfl (by decide)) r_x7 (d_s1 (d_s1 l7 rfl (by decide)) rfl (by decide)) r_x8 (d_s1 (d_s1 l8 rfl (by decide)) rfl (by decide)) d_R_w p_lk_s1
        · refine dw_lt_n rfl (u := 173) rfl d_R_w r_x2 q ?_
          refine dw_iln rfl (d_s1 l1 rfl (by decide)) (dw_aln rfl (d_s1 l0 rfl (by decide)) (dw_il rfl (d_s1 l7 rfl (by decide)) (dw_il rfl (d_s1 l9 rfl (by decide)) (dw_vP hF rfl (d_vir (n := 3) rfl rfl rfl rfl rfl hH d_c64_0 rfl) rfl rfl rfl (dc := 2) (fun _ e => D_X12_wholeBy e hH r_x7 r_x9) (fun v9 r_v9 hF => dw_ic rfl (dw_xor rfl (dw_and rfl (?_))))))))
          refine d_if hF (fun q hF => ?_) (fun q hF => ?_)
          · refine dw_zeq_y rfl (u := 161) rfl d_R_t q ?_
            refine dw_il rfl p_lk_s1 (dw_is rfl rfl (dw_il rfl (d_s1 (d_s1 l7 rfl (by decide)) rfl (by decide)) (dw_is rfl rfl (dw_il rfl (d_s1 (d_s1 (d_s1 l9 rfl (by decide)) rfl (by decide)) rfl (by decide)) (dw_is rfl rfl (dw_ii rfl (d_s1 (d_s1 (d_s1 (d_s1 l9 rfl (by decide)) rfl (by decide)) rfl (by decide)) rfl (by decide)) rfl (dw_go rfl (u := 84) rfl (?_))))))))
            exact ih hF (d_s1 (d_s1 (d_s1 (d_s1 (d_s1 l0 rfl (by decide)) rfl (by decide)) rfl (by decide)) rfl (by decide)) rfl (by decide)) r_x1 (d_s1 (d_s1 (d_s1 (d_s1 (d_s1 l1 rfl (by decide)) rfl (by decide)) rfl (by decide)) rfl (by decide)) rfl (by decide)) r_x2 (d_s1 (d_s1 (d_s1 (d_s1 (d_s1 l2 rfl (by decide)) rfl (by decide)) rfl (by decide)) rfl (by decide)) rfl (by decide)) r_x3 (d_s1 (d_s1 (d_s1 (d_s1 (d_s1 l3 rfl (by decide)) rfl (by decide)) rfl (by decide)) rfl (by decide)) rfl (by decide)) r_z7 (d_s1 (d_s1 (d_s1 p_lk_s1 rfl (by decide)) rfl (by decide)) rfl (by decide)) r_x7 (d_s1 (d_s1 p_lk_s1 rfl (by decide)) rfl (by decide)) r_x9 (d_s1 p_lk_s1 rfl (by decide)) r_x7 (d_s1 (d_s1 (d_s1 (d_s1 (d_s1 l7 rfl (by decide)) rfl (by decide)) rfl (by decide)) rfl (by decide)) rfl (by decide)) r_x8 (d_s1 (d_s1 (d_s1 (d_s1 (d_s1 l8 rfl (by decide)) rfl (by decide)) rfl (by decide)) rfl (by decide)) rfl (by decide)) d_R_w p_lk_s1
          · refine dw_zeq_n rfl (u := 161) rfl d_R_t q ?_
            refine dw_go rfl (u := 173) rfl (dw_ii rfl (d_s1 l9 rfl (by decide)) rfl (dw_go rfl (u := 84) rfl (?_)))
            exact ih hF (d_s1 (d_s1 l0 rfl (by decide)) rfl (by decide)) r_x1 (d_s1 (d_s1 l1 rfl (by decide)) rfl (by decide)) r_x2 (d_s1 (d_s1 l2 rfl (by decide)) rfl (by decide)) r_x3 (d_s1 (d_s1 l3 rfl (by decide)) rfl (by decide)) r_x4 (d_s1 (d_s1 l4 rfl (by decide)) rfl (by decide)) r_x5 (d_s1 (d_s1 l5 rfl (by decide)) rfl (by decide)) r_x6 (d_s1 (d_s1 l6 rfl (by decide)) rfl (by decide)) r_x7 (d_s1 (d_s1 l7 rfl (by decide)) rfl (by decide)) r_x8 (d_s1 (d_s1 l8 rfl (by decide)) rfl (by decide)) d_R_w p_lk_s1
      · refine dw_le_n rfl (u := 173) rfl r_z7 r_x4 q ?_
        refine dw_ii rfl (d_s1 l9 rfl (by decide)) rfl (dw_go rfl (u := 84) rfl (?_))
        exact ih hF (d_s1 (d_s1 l0 rfl (by decide)) rfl (by decide)) r_x1 (d_s1 (d_s1 l1 rfl (by decide)) rfl (by decide)) r_x2 (d_s1 (d_s1 l2 rfl (by decide)) rfl (by decide)) r_x3 (d_s1 (d_s1 l3 rfl (by decide)) rfl (by decide)) r_x4 (d_s1 (d_s1 l4 rfl (by decide)) rfl (by decide)) r_x5 (d_s1 (d_s1 l5 rfl (by decide)) rfl (by decide)) r_x6 (d_s1 (d_s1 l6 rfl (by decide)) rfl (by decide)) r_x7 (d_s1 (d_s1 l7 rfl (by decide)) rfl (by decide)) r_x8 (d_s1 (d_s1 l8 rfl (by decide)) rfl (by decide)) d_R_w p_lk_s1
    · refine dw_ge_n rfl (u := 179) rfl r_x9 d_R_t q ?_
      exact hk179 hF l0 r_x1 l1 r_x2 l2 r_x3 l3 r_x4 l4 r_x5 l5 r_x6 l6 r_x7 l7
set_option maxRecDepth 100000 in
noncomputable def F_X12_sawing_l51_b (s : d_S) (k185 : Int → Int → Int → Int → Option (Int)) (rec : Int → Int → Int → Int → Int → Int → Int → Option (Int)) (x1 : Int) (x2 : Int) (x3 : Int) (x4 : Int) (x5 : Int) (x6 : Int) (x7 : Int) : Option (Int) :=
  if x7 < (d_shl 1 ((s.1 65 16) - 1)) then
  d_b (F_X12_leastPart x7 (s.1 65 16)) (fun v4 => F_X12_sawing_l84 s (fun x1_u10 x2_u10 x3_u10 x4_u10 x5_u10 x6_u10 x7_u10 =>
  rec x1_u10 x2_u10 x3_u10 x4_u10 x5_u10 x6_u10 (d_w (x7_u10 + 1))) d_N x1 x2 x3 x4 x5 x6 x7 v4 0)
  else
  k185 x3 x4 x5 x6
set_option maxRecDepth 100000 in
noncomputable def F_X12_sawing_l51 (s : d_S) (k185 : Int → Int → Int → Int → Option (Int)) : Nat → Int → Int → Int → Int → Int → Int → Int → Option (Int)
  | 0 => fun _ _ _ _ _ _ _ => none
  | n + 1 => F_X12_sawing_l51_b s k185 (F_X12_sawing_l51 s k185 n)
set_option maxRecDepth 100000 in
theorem D_X12_sawing_l51 {t : Nat → Option p_C} {h : p_H} {s : d_S} {k185 : Int → Int → Int → Int → Option (Int)} {r : Int} (hH : d_V t h s) (hk185 : ∀ {x3 : Int} {x4 : Int} {x5 : Int} {x6 : Int} {ls : p_Ls}, k185 x3 x4 x5 x6 = some r → d_R x3 → p_lk 3 ls = some (.int (Int32.ofInt x3)) → d_R x4 → p_lk 4 ls = some (.int (Int32.ofInt x4)) → d_R x5 → p_lk 5 ls = some (.int (Int32.ofInt x5)) → d_R x6 → p_lk 6 ls = some (.int (Int32.ofInt x6)) → p_wp p_GT p_MT 4 m_X12_sawing 185 ls [] h (d_QP h r)) : ∀ (n : Nat) {x1 : Int} {x2 : Int} {x3 : Int} {x4 : Int} {x5 : Int} {x6 : Int} {x7 : Int} {ls : p_Ls}, F_X12_sawing_l51 s k185 n x1 x2 x3 x4 x5 x6 x7 = some r → p_lk 0 ls = some (.ref 64) → d_R x1 → p_lk 1 ls = some (.int (Int32.ofInt x1)) → d_R x2 → p_lk 2 ls = some (.int (Int32.ofInt x2)) → d_R x3 → p_lk 3 ls = some (.int (Int32.ofInt x3)) → d_R x4 → p_lk 4 ls = some (.int (Int32.ofInt x4)) → d_R x5 → p_lk 5 ls = some (.int (Int32.ofInt x5)) → d_R x6 → p_lk 6 ls = some (.int (Int32.ofInt x6)) → d_R x7 → p_lk 7 ls = some (.int (Int32.ofInt x7)) → p_wp p_GT p_MT 4 m_X12_sawing 51 ls [] h (d_QP h r) := by
  intro n
  induction n with
  | zero =>
    intro x1 x2 x3 x4 x5 x6 x7 ls hF l0 r_x1 l1 r_x2 l2 r_x3 l3 r_x4 l4 r_x5 l5 r_x6 l6 r_x7 l7
    cases (show (none : Option (Int)) = some r from hF)
  | succ n ih =>
    intro x1 x2 x3 x4 x5 x6 x7 ls hF l0 r_x1 l1 r_x2 l2 r_x3 l3 r_x4 l4 r_x5 l5 r_x6 l6 r_x7 l7
    have hF : F_X12_sawing_l51_b s k185 (F_X12_sawing_l51 s k185 n) x1 x2 x3 x4 x5 x6 x7 = some r := hF
    unfold F_X12_sawing_l51_b at hF
    refine dw_il rfl l7 (dw_ic rfl (dw_aln rfl l0 (dw_gr rfl rfl rfl hH d_c64_0 (dw_bp rfl rfl (dw_ald rfl hH d_a65 rfl (by decide) (by decide) (d_rl rfl) (k := 16) rfl (dw_ic rfl (dw_sub rfl (dw_shl rfl (?_)))))))))
    refine d_if hF (fun q hF => ?_) (fun q hF => ?_)
    · refine dw_ge_y rfl (u := 185) rfl r_x7 d_R_t q ?_
      refine dw_il rfl l7 (dw_aln rfl l0 (dw_gr rfl rfl rfl hH d_c64_0 (dw_bp rfl rfl (dw_ald rfl hH d_a65 rfl (by decide) (by decide) (d_rl rfl) (k := 16) rfl (dw_sP hF rfl rfl rfl rfl rfl (dc := 3) (fun _ e => D_X12_leastPart e r_x7 hH.r) (fun v4 r_v4 hF => dw_is rfl rfl (dw_ic rfl (dw_is rfl rfl (?_)))))))))
      refine D_X12_sawing_l84 hH (fun {x1_u10} {x2_u10} {x3_u10} {x4_u10} {x5_u10} {x6_u10} {x7_u10} {ls_u10} hF l0_u10 r_x1_u10 l1_u10 r_x2_u10 l2_u10 r_x3_u10 l3_u10 r_x4_u10 l4_u10 r_x5_u10 l5_u10 r_x6_u10 l6_u10 r_x7_u10 l7_u10 => ?_) _ hF (d_s1 (d_s1 l0 rfl (by decide)) rfl (by decide)) r_x1 (d_s1 (d_s1 l1 rfl (by decide)) rfl (by decide)) r_x2 (d_s1 (d_s1 l2 rfl (by decide)) rfl (by decide)) r_x3 (d_s1 (d_s1 l3 rfl (by decide)) rfl (by decide)) r_x4 (d_s1 (d_s1 l4 rfl (by decide)) rfl (by decide)) r_x5 (d_s1 (d_s1 l5 rfl (by decide)) rfl (by decide)) r_x6 (d_s1 (d_s1 l6 rfl (by decide)) rfl (by decide)) r_x7 (d_s1 (d_s1 l7 rfl (by decide)) rfl (by decide)) r_v4 (d_s1 p_lk_s1 rfl (by decide)) (d_rl rfl) p_lk_s1
      · refine dw_ii rfl l7_u10 rfl (dw_go rfl (u := 51) rfl (?_))
        exact ih hF (d_s1 l0_u10 rfl (by decide)) r_x1_u10 (d_s1 l1_u10 rfl (by decide)) r_x2_u10 (d_s1 l2_u10 rfl (by decide)) r_x3_u10 (d_s1 l3_u10 rfl (by decide)) r_x4_u10 (d_s1 l4_u10 rfl (by decide)) r_x5_u10 (d_s1 l5_u10 rfl (by decide)) r_x6_u10 (d_s1 l6_u10 rfl (by decide)) d_R_w p_lk_s1
    · refine dw_ge_n rfl (u := 185) rfl r_x7 d_R_t q ?_
      exact hk185 hF r_x3 l3 r_x4 l4 r_x5 l5 r_x6 l6
set_option maxRecDepth 100000 in
noncomputable def F_X12_sawing (s : d_S) (x1 : Int) (x2 : Int) (x3 : Int) : Option (Int) :=
  d_b (F_X12_isIn x1 0 (d_w ((d_shl 1 (s.1 65 0)) - 1))) (fun v1 => if v1 = 0 then
  some (-1)
  else
  d_b (F_X12_isIn x2 1 64) (fun v2 => if v2 = 0 then
  some (-1)
  else
  d_b (F_X12_isIn x3 0 2) (fun v3 => if v3 = 0 then
  some (-1)
  else
  F_X12_sawing_l51 s (fun x3_u11 x4_u11 x5_u11 x6_u11 =>
  if x4_u11 = (-1) then
  some (-1)
  else
  if x3_u11 = 0 then
  some x4_u11
  else
  if x3_u11 = 1 then
  some x5_u11
  else
  some x6_u11) d_N x1 x2 x3 (-1) 0 0 0)))
set_option maxRecDepth 100000 in
theorem D_X12_sawing {t : Nat → Option p_C} {h : p_H} {s : d_S} {x1 : Int} {x2 : Int} {x3 : Int} {r : Int} (hF : F_X12_sawing s x1 x2 x3 = some r) (hH : d_V t h s) (r_x1 : d_R x1) (r_x2 : d_R x2) (r_x3 : d_R x3) : p_wp p_GT p_MT 4 m_X12_sawing 0 (lv_args 0 [.ref 64, .int (Int32.ofInt x1), .int (Int32.ofInt x2), .int (Int32.ofInt x3)]) [] h (d_QP h r) := by
  unfold F_X12_sawing at hF
  refine dw_iln rfl rfl (dw_ic rfl (dw_ic rfl (dw_aln rfl rfl (dw_gr rfl rfl rfl hH d_c64_0 (dw_ic rfl (dw_ald rfl hH d_a65 rfl (by decide) (by decide) (d_rl rfl) (k := 0) rfl (dw_shl rfl (dw_ic rfl (dw_sub rfl (?_))))))))))
  refine dw_w1 (dw_sB hF rfl rfl rfl rfl rfl (dc := 0) (fun _ e => D_X12_isIn e r_x1 (d_rl rfl) d_R_w) (fun v1 r_v1 hF => ?_))
  refine d_if hF (fun q hF => ?_) (fun q hF => ?_)
  · refine dw_zeq_y rfl (u := 37) rfl (d_R_b r_v1) q ?_
    exact dw_ic rfl (dw_rP rfl rfl (d_rl rfl) hF)
  · refine dw_zeq_n rfl (u := 37) rfl (d_R_b r_v1) q ?_
    refine dw_iln rfl rfl (dw_ic rfl (dw_bp rfl rfl (dw_sB hF rfl rfl rfl rfl rfl (dc := 0) (fun _ e => D_X12_isIn e r_x2 (d_rl rfl) (d_rl rfl)) (fun v2 r_v2 hF => ?_))))
    refine d_if hF (fun q hF => ?_) (fun q hF => ?_)
    · refine dw_zeq_y rfl (u := 37) rfl (d_R_b r_v2) q ?_
      exact dw_ic rfl (dw_rP rfl rfl (d_rl rfl) hF)
    · refine dw_zeq_n rfl (u := 37) rfl (d_R_b r_v2) q ?_
      refine dw_iln rfl rfl (dw_ic rfl (dw_ic rfl (dw_sB hF rfl rfl rfl rfl rfl (dc := 0) (fun _ e => D_X12_isIn e r_x3 (d_rl rfl) (d_rl rfl)) (fun v3 r_v3 hF => ?_))))
      refine d_if hF (fun q hF => ?_) (fun q hF => ?_)
      · refine dw_zne_y rfl (u := 39) rfl (d_R_b r_v3) q ?_
        exact dw_ic rfl (dw_rP rfl rfl (d_rl rfl) hF)
      · refine dw_zne_n rfl (u := 39) rfl (d_R_b r_v3) q ?_
        refine dw_ic rfl (dw_is rfl rfl (dw_ic rfl (dw_is rfl rfl (dw_ic rfl (dw_is rfl rfl (dw_ic rfl (dw_is rfl rfl (?_))))))))
        refine D_X12_sawing_l51 hH (fun {x3_u11} {x4_u11} {x5_u11} {x6_u11} {ls_u11} hF r_x3_u11 l3_u11 r_x4_u11 l4_u11 r_x5_u11 l5_u11 r_x6_u11 l6_u11 => ?_) _ hF (d_s1 (d_s1 (d_s1 (d_s1 rfl rfl (by decide)) rfl (by decide)) rfl (by decide)) rfl (by decide)) r_x1 (d_s1 (d_s1 (d_s1 (d_s1 rfl rfl (by decide)) rfl (by decide)) rfl (by decide)) rfl (by decide)) r_x2 (d_s1 (d_s1 (d_s1 (d_s1 rfl rfl (by decide)) rfl (by decide)) rfl (by decide)) rfl (by decide)) r_x3 (d_s1 (d_s1 (d_s1 (d_s1 rfl rfl (by decide)) rfl (by decide)) rfl (by decide)) rfl (by decide)) (d_rl rfl) (d_s1 (d_s1 (d_s1 p_lk_s1 rfl (by decide)) rfl (by decide)) rfl (by decide)) (d_rl rfl) (d_s1 (d_s1 p_lk_s1 rfl (by decide)) rfl (by decide)) (d_rl rfl) (d_s1 p_lk_s1 rfl (by decide)) (d_rl rfl) p_lk_s1
        · refine dw_il rfl l4_u11 (dw_ic rfl (?_))
          refine d_if hF (fun q hF => ?_) (fun q hF => ?_)
          · refine dw_ne_y rfl (u := 195) rfl r_x4_u11 (d_rl rfl) q ?_
            exact dw_ic rfl (dw_go rfl (u := 216) rfl (dw_rP rfl rfl (d_rl rfl) hF))
          · refine dw_ne_n rfl (u := 195) rfl r_x4_u11 (d_rl rfl) q ?_
            refine dw_iln rfl l3_u11 (?_)
            refine d_if hF (fun q hF => ?_) (fun q hF => ?_)
            · refine dw_zne_y rfl (u := 204) rfl r_x3_u11 q ?_
              exact dw_il rfl l4_u11 (dw_go rfl (u := 216) rfl (dw_rP rfl rfl r_x4_u11 hF))
            · refine dw_zne_n rfl (u := 204) rfl r_x3_u11 q ?_
              refine dw_iln rfl l3_u11 (dw_ic rfl (?_))
              refine d_if hF (fun q hF => ?_) (fun q hF => ?_)
              · refine dw_ne_y rfl (u := 214) rfl r_x3_u11 (d_rl rfl) q ?_
                exact dw_il rfl l5_u11 (dw_go rfl (u := 216) rfl (dw_rP rfl rfl r_x5_u11 hF))
              · refine dw_ne_n rfl (u := 214) rfl r_x3_u11 (d_rl rfl) q ?_
                exact dw_il rfl l6_u11 (dw_rP rfl rfl r_x6_u11 hF)
set_option maxRecDepth 100000 in
noncomputable def F_X12_begin_l3_b (rec : Int → d_S → Option (d_S)) (x1 : Int) (s : d_S) : Option (d_S) :=
  if x1 < 212 then
  d_g (0 ≤ x1 ∧ x1 < 2517) (d_g (0 ≤ x1 ∧ x1 < 212) (d_l (d_si s 73 ((x1).toNat) (s.1 65 (x1.toNat))) (fun s3 => rec (d_w (x1 + 1)) s3)))
  else
  some s
set_option maxRecDepth 100000 in
noncomputable def F_X12_begin_l3 : Nat → Int → d_S → Option (d_S)
  | 0 => fun _ _ => none
  | n + 1 => F_X12_begin_l3_b (F_X12_begin_l3 n)
set_option maxRecDepth 100000 in
theorem D_X12_begin_l3 {t : Nat → Option p_C} {r : d_S} : ∀ (n : Nat) {x1 : Int} {ls : p_Ls} {s : d_S} {h : p_H}, F_X12_begin_l3 n x1 s = some r → d_V t h s → p_lk 0 ls = some (.ref 64) → d_R x1 → p_lk 1 ls = some (.int (Int32.ofInt x1)) → p_wp p_GT p_MT 0 m_X12_begin 3 ls [] h (d_QV t r) := by
  intro n
  induction n with
  | zero =>
    intro x1 ls s h hF hH l0 r_x1 l1
    cases (show (none : Option (d_S)) = some r from hF)
  | succ n ih =>
    intro x1 ls s h hF hH l0 r_x1 l1
    have hF : F_X12_begin_l3_b (F_X12_begin_l3 n) x1 s = some r := hF
    unfold F_X12_begin_l3_b at hF
    refine dw_iln rfl l1 (dw_sp rfl rfl (?_))
    refine d_if hF (fun q hF => ?_) (fun q hF => ?_)
    · refine dw_ge_y rfl (u := 28) rfl r_x1 (d_rl rfl) q ?_
      refine dw_aln rfl l0 (dw_gr rfl rfl rfl hH d_c64_24 (dw_iln rfl l1 (dw_aln rfl l0 (dw_gr rfl rfl rfl hH d_c64_0 (dw_iln rfl l1 (d_gd hF (fun g1 hF => dw_ald rfl hH d_a65 rfl g1.1 g1.2 r_x1 rfl (d_gd hF (fun g2 hF => dw_ast rfl hH d_a73 g2.1 g2.2 r_x1 rfl hH.r hF (fun s3 h3 hH3 hF => ?_))))))))))
      refine dw_ii rfl l1 rfl (dw_go rfl (u := 3) rfl (?_))
      exact ih hF hH3 (d_s1 l0 rfl (by decide)) d_R_w p_lk_s1
    · refine dw_ge_n rfl (u := 28) rfl r_x1 (d_rl rfl) q ?_
      exact dw_rV rfl rfl hH hF
set_option maxRecDepth 100000 in
noncomputable def F_X12_begin (s : d_S) : Option (d_S) :=
  F_X12_begin_l3 d_N 9 s
set_option maxRecDepth 100000 in
theorem D_X12_begin {t : Nat → Option p_C} {h : p_H} {s : d_S} {r : d_S} (hF : F_X12_begin s = some r) (hH : d_V t h s) : p_wp p_GT p_MT 0 m_X12_begin 0 (lv_args 0 [.ref 64]) [] h (d_QV t r) := by
  unfold F_X12_begin at hF
  refine dw_bp rfl rfl (dw_isn rfl rfl (?_))
  exact D_X12_begin_l3 _ hF hH (d_s1 rfl rfl (by decide)) (d_rl rfl) p_lk_s1
set_option maxRecDepth 100000 in
noncomputable def F_X12_putBack_l3_b (rec : Int → d_S → Option (d_S)) (x1 : Int) (s : d_S) : Option (d_S) :=
  if x1 < 212 then
  d_g (0 ≤ x1 ∧ x1 < 212) (d_g (0 ≤ x1 ∧ x1 < 2517) (d_l (d_si s 65 ((x1).toNat) (s.1 73 (x1.toNat))) (fun s3 => rec (d_w (x1 + 1)) s3)))
  else
  some s
set_option maxRecDepth 100000 in
noncomputable def F_X12_putBack_l3 : Nat → Int → d_S → Option (d_S)
  | 0 => fun _ _ => none
  | n + 1 => F_X12_putBack_l3_b (F_X12_putBack_l3 n)
set_option maxRecDepth 100000 in
theorem D_X12_putBack_l3 {t : Nat → Option p_C} {r : d_S} : ∀ (n : Nat) {x1 : Int} {ls : p_Ls} {s : d_S} {h : p_H}, F_X12_putBack_l3 n x1 s = some r → d_V t h s → p_lk 0 ls = some (.ref 64) → d_R x1 → p_lk 1 ls = some (.int (Int32.ofInt x1)) → p_wp p_GT p_MT 0 m_X12_putBack 3 ls [] h (d_QV t r) := by
  intro n
  induction n with
  | zero =>
    intro x1 ls s h hF hH l0 r_x1 l1
    cases (show (none : Option (d_S)) = some r from hF)
  | succ n ih =>
    intro x1 ls s h hF hH l0 r_x1 l1
    have hF : F_X12_putBack_l3_b (F_X12_putBack_l3 n) x1 s = some r := hF
    unfold F_X12_putBack_l3_b at hF
    refine dw_iln rfl l1 (dw_sp rfl rfl (?_))
    refine d_if hF (fun q hF => ?_) (fun q hF => ?_)
    · refine dw_ge_y rfl (u := 28) rfl r_x1 (d_rl rfl) q ?_
      refine dw_aln rfl l0 (dw_gr rfl rfl rfl hH d_c64_0 (dw_iln rfl l1 (dw_aln rfl l0 (dw_gr rfl rfl rfl hH d_c64_24 (dw_iln rfl l1 (d_gd hF (fun g1 hF => dw_ald rfl hH d_a73 rfl g1.1 g1.2 r_x1 rfl (d_gd hF (fun g2 hF => dw_ast rfl hH d_a65 g2.1 g2.2 r_x1 rfl hH.r hF (fun s3 h3 hH3 hF => ?_))))))))))
      refine dw_ii rfl l1 rfl (dw_go rfl (u := 3) rfl (?_))
      exact ih hF hH3 (d_s1 l0 rfl (by decide)) d_R_w p_lk_s1
    · refine dw_ge_n rfl (u := 28) rfl r_x1 (d_rl rfl) q ?_
      exact dw_rV rfl rfl hH hF
set_option maxRecDepth 100000 in
noncomputable def F_X12_putBack (s : d_S) : Option (d_S) :=
  F_X12_putBack_l3 d_N 9 s
set_option maxRecDepth 100000 in
theorem D_X12_putBack {t : Nat → Option p_C} {h : p_H} {s : d_S} {r : d_S} (hF : F_X12_putBack s = some r) (hH : d_V t h s) : p_wp p_GT p_MT 0 m_X12_putBack 0 (lv_args 0 [.ref 64]) [] h (d_QV t r) := by
  unfold F_X12_putBack at hF
  refine dw_bp rfl rfl (dw_isn rfl rfl (?_))
  exact D_X12_putBack_l3 _ hF hH (d_s1 rfl rfl (by decide)) (d_rl rfl) p_lk_s1

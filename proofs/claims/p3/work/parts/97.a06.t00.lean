set_option maxRecDepth 100000 in
noncomputable def F_X12_four_l3_b (rec : Int → Int → d_S → Option (d_S)) (x1 : Int) (x2 : Int) (s : d_S) : Option (d_S) :=
  if x2 < 0 then
  some s
  else
  d_g (0 ≤ (s.1 64 4) ∧ (s.1 64 4) < 300) (d_l (d_si s 68 (((s.1 64 4)).toNat) (d_and (d_shr x1 x2) 255)) (fun s2 => d_l (d_si s2 64 4 (d_w ((s2.1 64 4) + 1))) (fun s3 => rec x1 (d_w (x2 + (-8))) s3)))
set_option maxRecDepth 100000 in
noncomputable def F_X12_four_l3 : Nat → Int → Int → d_S → Option (d_S)
  | 0 => fun _ _ _ => none
  | n + 1 => F_X12_four_l3_b (F_X12_four_l3 n)
set_option maxRecDepth 100000 in
theorem D_X12_four_l3 {t : Nat → Option p_C} {r : d_S} : ∀ (n : Nat) {x1 : Int} {x2 : Int} {ls : p_Ls} {s : d_S} {h : p_H}, F_X12_four_l3 n x1 x2 s = some r → d_V t h s → p_lk 0 ls = some (.ref 64) → d_R x1 → p_lk 1 ls = some (.int (Int32.ofInt x1)) → d_R x2 → p_lk 2 ls = some (.int (Int32.ofInt x2)) → p_wp p_GT p_MT 0 m_X12_four 3 ls [] h (d_QV t r) := by
  intro n
  induction n with
  | zero =>
    intro x1 x2 ls s h hF hH l0 r_x1 l1 r_x2 l2
    cases (show (none : Option (d_S)) = some r from hF)
  | succ n ih =>
    intro x1 x2 ls s h hF hH l0 r_x1 l1 r_x2 l2
    have hF : F_X12_four_l3_b (F_X12_four_l3 n) x1 x2 s = some r := hF
    unfold F_X12_four_l3_b at hF
    refine dw_iln rfl l2 (?_)
    refine d_if hF (fun q hF => ?_) (fun q hF => ?_)
    · refine dw_zlt_y rfl (u := 39) rfl r_x2 q ?_
      exact dw_rV rfl rfl hH hF
    · refine dw_zlt_n rfl (u := 39) rfl r_x2 q ?_
      refine dw_aln rfl l0 (dw_gr rfl rfl rfl hH d_c64_3 (dw_aln rfl l0 (dw_gi (k := 4) rfl rfl rfl hH d_c64_4 (dw_iln rfl l1 (dw_iln rfl l2 (dw_shr rfl (dw_sp rfl rfl (dw_and rfl (d_gd hF (fun g1 hF => ?_))))))))))
      refine dw_ast rfl hH d_a68 g1.1 g1.2 hH.r rfl d_R_t hF (fun s2 h2 hH2 hF => dw_aln rfl l0 (dw_dupr rfl (dw_gi (k := 4) rfl rfl rfl hH2 d_c64_4 (dw_ic rfl (dw_add rfl (dw_w1 (dw_pi (k := 4) rfl rfl rfl rfl hH2 d_c64_4 d_R_w (by decide) hF (fun s3 h3 hH3 hF => dw_ii rfl l2 rfl (dw_go rfl (u := 3) rfl (?_))))))))))
      exact ih hF hH3 (d_s1 l0 rfl (by decide)) r_x1 (d_s1 l1 rfl (by decide)) d_R_w p_lk_s1
set_option maxRecDepth 100000 in
noncomputable def F_X12_four (s : d_S) (x1 : Int) : Option (d_S) :=
  F_X12_four_l3 d_N x1 24 s
set_option maxRecDepth 100000 in
theorem D_X12_four {t : Nat → Option p_C} {h : p_H} {s : d_S} {x1 : Int} {r : d_S} (hF : F_X12_four s x1 = some r) (hH : d_V t h s) (r_x1 : d_R x1) : p_wp p_GT p_MT 0 m_X12_four 0 (lv_args 0 [.ref 64, .int (Int32.ofInt x1)]) [] h (d_QV t r) := by
  unfold F_X12_four at hF
  refine dw_bp rfl rfl (dw_isn rfl rfl (?_))
  exact D_X12_four_l3 _ hF hH (d_s1 rfl rfl (by decide)) r_x1 (d_s1 rfl rfl (by decide)) (d_rl rfl) p_lk_s1
set_option maxRecDepth 100000 in
noncomputable def F_X12_feed (s : d_S) (x1 : Int) (x2 : Int) (x3 : Int) (x4 : Int) (x5 : Int) : Option (Int × d_S) :=
  if 300 < (d_w ((s.1 64 4) + 20)) then
  some ((-1), s)
  else
  d_b (F_X12_four s x1) (fun s1 => d_b (F_X12_four s1 x2) (fun s2 => d_b (F_X12_four s2 x3) (fun s3 => d_b (F_X12_four s3 x4) (fun s4 => d_b (F_X12_four s4 x5) (fun s5 => some ((s5.1 64 4), s5))))))
set_option maxRecDepth 100000 in
theorem D_X12_feed {t : Nat → Option p_C} {h : p_H} {s : d_S} {x1 : Int} {x2 : Int} {x3 : Int} {x4 : Int} {x5 : Int} {r : Int × d_S} (hF : F_X12_feed s x1 x2 x3 x4 x5 = some r) (hH : d_V t h s) (r_x1 : d_R x1) (r_x2 : d_R x2) (r_x3 : d_R x3) (r_x4 : d_R x4) (r_x5 : d_R x5) : p_wp p_GT p_MT 1 m_X12_feed 0 (lv_args 0 [.ref 64, .int (Int32.ofInt x1), .int (Int32.ofInt x2), .int (Int32.ofInt x3), .int (Int32.ofInt x4), .int (Int32.ofInt x5)]) [] h (d_QI t r) := by
  unfold F_X12_feed at hF
  refine dw_aln rfl rfl (dw_gi (k := 4) rfl rfl rfl hH d_c64_4 (dw_bp rfl rfl (dw_add rfl (dw_sp rfl rfl (dw_w2 (?_))))))
  refine d_if hF (fun q hF => ?_) (fun q hF => ?_)
  · refine dw_le_y rfl (u := 15) rfl d_R_w (d_rl rfl) q ?_
    exact dw_ic rfl (dw_rI rfl rfl (d_rl rfl) hH hF)
  · refine dw_le_n rfl (u := 15) rfl d_R_w (d_rl rfl) q ?_
    refine dw_aln rfl rfl (dw_iln rfl rfl (dw_vV hF rfl (d_vir (n := 2) rfl rfl rfl rfl rfl hH d_c64_0 rfl) rfl rfl rfl (dc := 0) (fun _ e => D_X12_four e hH r_x1) (fun s1 h1 hH1 hF => dw_aln rfl rfl (dw_iln rfl rfl (dw_vV hF rfl (d_vir (n := 2) rfl rfl rfl rfl rfl hH1 d_c64_0 rfl) rfl rfl rfl (dc := 0) (fun _ e => D_X12_four e hH1 r_x2) (fun s2 h2 hH2 hF => dw_aln rfl rfl (dw_iln rfl rfl (dw_vV hF rfl (d_vir (n := 2) rfl rfl rfl rfl rfl hH2 d_c64_0 rfl) rfl rfl rfl (dc := 0) (fun _ e => D_X12_four e hH2 r_x3) (fun s3 h3 hH3 hF => dw_aln rfl rfl (?_))))))))))
    exact dw_il rfl rfl (dw_vV hF rfl (d_vir (n := 2) rfl rfl rfl rfl rfl hH3 d_c64_0 rfl) rfl rfl rfl (dc := 0) (fun _ e => D_X12_four e hH3 r_x4) (fun s4 h4 hH4 hF => dw_aln rfl rfl (dw_il rfl rfl (dw_vV hF rfl (d_vir (n := 2) rfl rfl rfl rfl rfl hH4 d_c64_0 rfl) rfl rfl rfl (dc := 0) (fun _ e => D_X12_four e hH4 r_x5) (fun s5 h5 hH5 hF => dw_aln rfl rfl (dw_gi (k := 4) rfl rfl rfl hH5 d_c64_4 (dw_rI rfl rfl hH5.r hH5 hF)))))))
set_option maxRecDepth 100000 in
noncomputable def F_X12_byteAt (s : d_S) (x1 : Int) : Option (Int) :=
  if x1 < (s.1 64 4) then
  d_g (0 ≤ x1 ∧ x1 < 300) (some (s.1 68 (x1.toNat)))
  else
  some (-1)
set_option maxRecDepth 100000 in
theorem D_X12_byteAt {t : Nat → Option p_C} {h : p_H} {s : d_S} {x1 : Int} {r : Int} (hF : F_X12_byteAt s x1 = some r) (hH : d_V t h s) (r_x1 : d_R x1) : p_wp p_GT p_MT 0 m_X12_byteAt 0 (lv_args 0 [.ref 64, .int (Int32.ofInt x1)]) [] h (d_QP h r) := by
  unfold F_X12_byteAt at hF
  refine dw_iln rfl rfl (dw_aln rfl rfl (dw_gi (k := 4) rfl rfl rfl hH d_c64_4 (?_)))
  refine d_if hF (fun q hF => ?_) (fun q hF => ?_)
  · refine dw_ge_y rfl (u := 17) rfl r_x1 hH.r q ?_
    exact dw_aln rfl rfl (dw_gr rfl rfl rfl hH d_c64_3 (dw_iln rfl rfl (d_gd hF (fun g1 hF => dw_ald rfl hH d_a68 rfl g1.1 g1.2 r_x1 rfl (dw_go rfl (u := 18) rfl (dw_rP rfl rfl hH.r hF))))))
  · refine dw_ge_n rfl (u := 17) rfl r_x1 hH.r q ?_
    exact dw_ic rfl (dw_rP rfl rfl (d_rl rfl) hF)
set_option maxRecDepth 100000 in
noncomputable def F_X12_isFigure (x0 : Int) : Option (Int) :=
  if x0 < 48 then
  some 0
  else
  if 57 < x0 then
  some 0
  else
  some 1
set_option maxRecDepth 100000 in
theorem D_X12_isFigure {h : p_H} {x0 : Int} {r : Int} (hF : F_X12_isFigure x0 = some r) (r_x0 : d_R x0) : p_wp p_GT p_MT 0 m_X12_isFigure 0 (lv_args 0 [.int (Int32.ofInt x0)]) [] h (d_QB h r) := by
  unfold F_X12_isFigure at hF
  refine dw_iln rfl rfl (dw_bp rfl rfl (?_))
  refine d_if hF (fun q hF => ?_) (fun q hF => ?_)
  · refine dw_lt_y rfl (u := 16) rfl r_x0 (d_rl rfl) q ?_
    exact dw_ic rfl (dw_rB rfl rfl (Or.inl rfl) hF)
  · refine dw_lt_n rfl (u := 16) rfl r_x0 (d_rl rfl) q ?_
    refine dw_iln rfl rfl (dw_bp rfl rfl (?_))
    refine d_if hF (fun q hF => ?_) (fun q hF => ?_)
    · refine dw_gt_y rfl (u := 16) rfl r_x0 (d_rl rfl) q ?_
      exact dw_ic rfl (dw_rB rfl rfl (Or.inl rfl) hF)
    · refine dw_gt_n rfl (u := 16) rfl r_x0 (d_rl rfl) q ?_
      exact dw_ic rfl (dw_go rfl (u := 17) rfl (dw_rB rfl rfl (Or.inr rfl) hF))
set_option maxRecDepth 100000 in
noncomputable def F_X12_isLetterByte_j12 (x0 : Int) : Option (Int) :=
  if x0 < 65 then
  some 0
  else
  if 90 < x0 then
  some 0
  else
  some 1
set_option maxRecDepth 100000 in
theorem D_X12_isLetterByte_j12 {h : p_H} {x0 : Int} {r : Int} {ls : p_Ls} (hF : F_X12_isLetterByte_j12 x0 = some r) (r_x0 : d_R x0) (l0 : p_lk 0 ls = some (.int (Int32.ofInt x0))) : p_wp p_GT p_MT 0 m_X12_isLetterByte 12 ls [] h (d_QB h r) := by
  unfold F_X12_isLetterByte_j12 at hF
  refine dw_iln rfl l0 (dw_bp rfl rfl (?_))
  refine d_if hF (fun q hF => ?_) (fun q hF => ?_)
  · refine dw_lt_y rfl (u := 28) rfl r_x0 (d_rl rfl) q ?_
    exact dw_ic rfl (dw_rB rfl rfl (Or.inl rfl) hF)
  · refine dw_lt_n rfl (u := 28) rfl r_x0 (d_rl rfl) q ?_
    refine dw_iln rfl l0 (dw_bp rfl rfl (?_))
    refine d_if hF (fun q hF => ?_) (fun q hF => ?_)
    · refine dw_gt_y rfl (u := 28) rfl r_x0 (d_rl rfl) q ?_
      exact dw_ic rfl (dw_rB rfl rfl (Or.inl rfl) hF)
    · refine dw_gt_n rfl (u := 28) rfl r_x0 (d_rl rfl) q ?_
      exact dw_ic rfl (dw_go rfl (u := 29) rfl (dw_rB rfl rfl (Or.inr rfl) hF))
set_option maxRecDepth 100000 in
noncomputable def F_X12_isLetterByte (x0 : Int) : Option (Int) :=
  if x0 < 97 then
  F_X12_isLetterByte_j12 x0
  else
  if 122 < x0 then
  F_X12_isLetterByte_j12 x0
  else
  some 1
set_option maxRecDepth 100000 in
theorem D_X12_isLetterByte {h : p_H} {x0 : Int} {r : Int} (hF : F_X12_isLetterByte x0 = some r) (r_x0 : d_R x0) : p_wp p_GT p_MT 0 m_X12_isLetterByte 0 (lv_args 0 [.int (Int32.ofInt x0)]) [] h (d_QB h r) := by
  unfold F_X12_isLetterByte at hF
  refine dw_iln rfl rfl (dw_bp rfl rfl (?_))
  refine d_if hF (fun q hF => ?_) (fun q hF => ?_)
  · refine dw_lt_y rfl (u := 12) rfl r_x0 (d_rl rfl) q ?_
    exact D_X12_isLetterByte_j12 hF r_x0 rfl
  · refine dw_lt_n rfl (u := 12) rfl r_x0 (d_rl rfl) q ?_
    refine dw_iln rfl rfl (dw_bp rfl rfl (?_))
    refine d_if hF (fun q hF => ?_) (fun q hF => ?_)
    · refine dw_le_y rfl (u := 24) rfl r_x0 (d_rl rfl) q ?_
      exact D_X12_isLetterByte_j12 hF r_x0 rfl
    · refine dw_le_n rfl (u := 24) rfl r_x0 (d_rl rfl) q ?_
      exact dw_ic rfl (dw_go rfl (u := 29) rfl (dw_rB rfl rfl (Or.inr rfl) hF))
set_option maxRecDepth 100000 in
noncomputable def F_X12_isSign (x0 : Int) : Option (Int) :=
  
  if x0 = 35 then
  some 1
  else
  if x0 = 36 then
  some 0
  else
  if x0 = 37 then
  some 0
  else
  if x0 = 38 then
  some 0
  else
  if x0 = 39 then
  some 0
  else
  if x0 = 40 then
  some 1
  else
  if x0 = 41 then
  some 1
  else
  if x0 = 42 then
  some 1
  else
  if x0 = 43 then
  some 1
  else
  if x0 = 44 then
  some 1
  else
  if x0 = 45 then
  some 1
  else
  if x0 = 46 then
  some 0
  else
  if x0 = 47 then
  some 1
  else
  if x0 = 48 then
  some 0
  else
  if x0 = 49 then
  some 0
  else
  if x0 = 50 then
  some 0
  else
  if x0 = 51 then
  some 0
  else
  if x0 = 52 then
  some 0
  else
  if x0 = 53 then
  some 0
  else
  if x0 = 54 then
  some 0
  else
  if x0 = 55 then
  some 0
  else
  if x0 = 56 then
  some 0
  else
  if x0 = 57 then
  some 0
  else
  if x0 = 58 then
  some 1
  else
  if x0 = 59 then
  some 1
  else
  if x0 = 60 then
  some 1
  else
  if x0 = 61 then
  some 1
  else
  if x0 = 62 then
  some 1
  else
  some 0
set_option maxRecDepth 100000 in
theorem D_X12_isSign {h : p_H} {x0 : Int} {r : Int} (hF : F_X12_isSign x0 = some r) (r_x0 : d_R x0) : p_wp p_GT p_MT 0 m_X12_isSign 0 (lv_args 0 [.int (Int32.ofInt x0)]) [] h (d_QB h r) := by
  unfold F_X12_isSign at hF
  refine dw_iln rfl rfl (?_)
  refine d_if hF (fun q hF => ?_) (fun q0 hF => ?_)
  · refine dw_ts rfl r_x0 (u := 128) (by rw [q]; rfl) ?_
    exact dw_ic rfl (dw_rB rfl rfl (Or.inr rfl) hF)
  refine d_if hF (fun q hF => ?_) (fun q1 hF => ?_)
  · refine dw_ts rfl r_x0 (u := 130) (by rw [q]; rfl) ?_
    exact dw_ic rfl (dw_rB rfl rfl (Or.inl rfl) hF)
  refine d_if hF (fun q hF => ?_) (fun q2 hF => ?_)
  · refine dw_ts rfl r_x0 (u := 130) (by rw [q]; rfl) ?_
    exact dw_ic rfl (dw_rB rfl rfl (Or.inl rfl) hF)
  refine d_if hF (fun q hF => ?_) (fun q3 hF => ?_)
  · refine dw_ts rfl r_x0 (u := 130) (by rw [q]; rfl) ?_
    exact dw_ic rfl (dw_rB rfl rfl (Or.inl rfl) hF)
  refine d_if hF (fun q hF => ?_) (fun q4 hF => ?_)
  · refine dw_ts rfl r_x0 (u := 130) (by rw [q]; rfl) ?_
    exact dw_ic rfl (dw_rB rfl rfl (Or.inl rfl) hF)
  refine d_if hF (fun q hF => ?_) (fun q5 hF => ?_)
  · refine dw_ts rfl r_x0 (u := 128) (by rw [q]; rfl) ?_
    exact dw_ic rfl (dw_rB rfl rfl (Or.inr rfl) hF)
  refine d_if hF (fun q hF => ?_) (fun q6 hF => ?_)
  · refine dw_ts rfl r_x0 (u := 128) (by rw [q]; rfl) ?_
    exact dw_ic rfl (dw_rB rfl rfl (Or.inr rfl) hF)
  refine d_if hF (fun q hF => ?_) (fun q7 hF => ?_)
  · refine dw_ts rfl r_x0 (u := 128) (by rw [q]; rfl) ?_
    exact dw_ic rfl (dw_rB rfl rfl (Or.inr rfl) hF)
  refine d_if hF (fun q hF => ?_) (fun q8 hF => ?_)
  · refine dw_ts rfl r_x0 (u := 128) (by rw [q]; rfl) ?_
    exact dw_ic rfl (dw_rB rfl rfl (Or.inr rfl) hF)
  refine d_if hF (fun q hF => ?_) (fun q9 hF => ?_)
  · refine dw_ts rfl r_x0 (u := 128) (by rw [q]; rfl) ?_
    exact dw_ic rfl (dw_rB rfl rfl (Or.inr rfl) hF)
  refine d_if hF (fun q hF => ?_) (fun q10 hF => ?_)
  · refine dw_ts rfl r_x0 (u := 128) (by rw [q]; rfl) ?_
    exact dw_ic rfl (dw_rB rfl rfl (Or.inr rfl) hF)
  refine d_if hF (fun q hF => ?_) (fun q11 hF => ?_)
  · refine dw_ts rfl r_x0 (u := 130) (by rw [q]; rfl) ?_
    exact dw_ic rfl (dw_rB rfl rfl (Or.inl rfl) hF)
  refine d_if hF (fun q hF => ?_) (fun q12 hF => ?_)
  · refine dw_ts rfl r_x0 (u := 128) (by rw [q]; rfl) ?_
    exact dw_ic rfl (dw_rB rfl rfl (Or.inr rfl) hF)
  refine d_if hF (fun q hF => ?_) (fun q13 hF => ?_)
  · refine dw_ts rfl r_x0 (u := 130) (by rw [q]; rfl) ?_
    exact dw_ic rfl (dw_rB rfl rfl (Or.inl rfl) hF)
  refine d_if hF (fun q hF => ?_) (fun q14 hF => ?_)
  · refine dw_ts rfl r_x0 (u := 130) (by rw [q]; rfl) ?_
    exact dw_ic rfl (dw_rB rfl rfl (Or.inl rfl) hF)
  refine d_if hF (fun q hF => ?_) (fun q15 hF => ?_)
  · refine dw_ts rfl r_x0 (u := 130) (by rw [q]; rfl) ?_
    exact dw_ic rfl (dw_rB rfl rfl (Or.inl rfl) hF)
  refine d_if hF (fun q hF => ?_) (fun q16 hF => ?_)
  · refine dw_ts rfl r_x0 (u := 130) (by rw [q]; rfl) ?_
    exact dw_ic rfl (dw_rB rfl rfl (Or.inl rfl) hF)
  refine d_if hF (fun q hF => ?_) (fun q17 hF => ?_)
  · refine dw_ts rfl r_x0 (u := 130) (by rw [q]; rfl) ?_
    exact dw_ic rfl (dw_rB rfl rfl (Or.inl rfl) hF)
  refine d_if hF (fun q hF => ?_) (fun q18 hF => ?_)
  · refine dw_ts rfl r_x0 (u := 130) (by rw [q]; rfl) ?_
    exact dw_ic rfl (dw_rB rfl rfl (Or.inl rfl) hF)
  refine d_if hF (fun q hF => ?_) (fun q19 hF => ?_)
  · refine dw_ts rfl r_x0 (u := 130) (by rw [q]; rfl) ?_
    exact dw_ic rfl (dw_rB rfl rfl (Or.inl rfl) hF)
  refine d_if hF (fun q hF => ?_) (fun q20 hF => ?_)
  · refine dw_ts rfl r_x0 (u := 130) (by rw [q]; rfl) ?_
    exact dw_ic rfl (dw_rB rfl rfl (Or.inl rfl) hF)
  refine d_if hF (fun q hF => ?_) (fun q21 hF => ?_)
  · refine dw_ts rfl r_x0 (u := 130) (by rw [q]; rfl) ?_
    exact dw_ic rfl (dw_rB rfl rfl (Or.inl rfl) hF)
  refine d_if hF (fun q hF => ?_) (fun q22 hF => ?_)
  · refine dw_ts rfl r_x0 (u := 130) (by rw [q]; rfl) ?_
    exact dw_ic rfl (dw_rB rfl rfl (Or.inl rfl) hF)
  refine d_if hF (fun q hF => ?_) (fun q23 hF => ?_)
  · refine dw_ts rfl r_x0 (u := 128) (by rw [q]; rfl) ?_
    exact dw_ic rfl (dw_rB rfl rfl (Or.inr rfl) hF)
  refine d_if hF (fun q hF => ?_) (fun q24 hF => ?_)
  · refine dw_ts rfl r_x0 (u := 128) (by rw [q]; rfl) ?_
    exact dw_ic rfl (dw_rB rfl rfl (Or.inr rfl) hF)
  refine d_if hF (fun q hF => ?_) (fun q25 hF => ?_)
  · refine dw_ts rfl r_x0 (u := 128) (by rw [q]; rfl) ?_
    exact dw_ic rfl (dw_rB rfl rfl (Or.inr rfl) hF)
  refine d_if hF (fun q hF => ?_) (fun q26 hF => ?_)
  · refine dw_ts rfl r_x0 (u := 128) (by rw [q]; rfl) ?_
    exact dw_ic rfl (dw_rB rfl rfl (Or.inr rfl) hF)
  refine d_if hF (fun q hF => ?_) (fun q27 hF => ?_)
  · refine dw_ts rfl r_x0 (u := 128) (by rw [q]; rfl) ?_
    exact dw_ic rfl (dw_rB rfl rfl (Or.inr rfl) hF)
  refine dw_ts rfl r_x0 (u := 130) (by rw [if_pos (by omega)]; rfl) ?_
  exact dw_ic rfl (dw_rB rfl rfl (Or.inl rfl) hF)
set_option maxRecDepth 100000 in
noncomputable def F_X12_nextToken_j26 (k0 : d_S → Option (d_S)) (s : d_S) : Option (d_S) :=
  d_l (d_si s 64 7 (d_w ((s.1 64 7) + 1))) (fun s2 => k0 s2)
set_option maxRecDepth 100000 in
theorem D_X12_nextToken_j26 {t : Nat → Option p_C} {h : p_H} {s : d_S} {k0 : d_S → Option (d_S)} {r : d_S} {ls : p_Ls} (hF : F_X12_nextToken_j26 k0 s = some r) (hH : d_V t h s) (l0 : p_lk 0 ls = some (.ref 64)) (hk0 : ∀ {ls : p_Ls} {s : d_S} {h : p_H}, k0 s = some r → d_V t h s → p_lk 0 ls = some (.ref 64) → p_wp p_GT p_MT 1 m_X12_nextToken 0 ls [] h (d_QV t r)) : p_wp p_GT p_MT 1 m_X12_nextToken 26 ls [] h (d_QV t r) := by
  unfold F_X12_nextToken_j26 at hF
  refine dw_aln rfl l0 (dw_dupr rfl (dw_gi (k := 7) rfl rfl rfl hH d_c64_7 (dw_ic rfl (dw_add rfl (dw_w1 (dw_pi (k := 7) rfl rfl rfl rfl hH d_c64_7 d_R_w (by decide) hF (fun s2 h2 hH2 hF => dw_go rfl (u := 0) rfl (?_))))))))
  exact hk0 hF hH2 l0
set_option maxRecDepth 100000 in
noncomputable def F_X12_nextToken_l0_b (k39 : d_S → Option (d_S)) (rec : d_S → Option (d_S)) (s : d_S) : Option (d_S) :=
  d_b (F_X12_byteAt s (s.1 64 7)) (fun v1 => if v1 = 32 then
  F_X12_nextToken_j26 rec s
  else
  d_b (F_X12_byteAt s (s.1 64 7)) (fun v3 => if v3 = 10 then
  F_X12_nextToken_j26 rec s
  else
  k39 s))
set_option maxRecDepth 100000 in
noncomputable def F_X12_nextToken_l0 (k39 : d_S → Option (d_S)) : Nat → d_S → Option (d_S)
  | 0 => fun _ => none
  | n + 1 => F_X12_nextToken_l0_b k39 (F_X12_nextToken_l0 k39 n)
set_option maxRecDepth 100000 in
theorem D_X12_nextToken_l0 {t : Nat → Option p_C} {k39 : d_S → Option (d_S)} {r : d_S} (hk39 : ∀ {ls : p_Ls} {s : d_S} {h : p_H}, k39 s = some r → d_V t h s → p_lk 0 ls = some (.ref 64) → p_wp p_GT p_MT 1 m_X12_nextToken 39 ls [] h (d_QV t r)) : ∀ (n : Nat) {ls : p_Ls} {s : d_S} {h : p_H}, F_X12_nextToken_l0 k39 n s = some r → d_V t h s → p_lk 0 ls = some (.ref 64) → p_wp p_GT p_MT 1 m_X12_nextToken 0 ls [] h (d_QV t r) := by
  intro n
  induction n with
  | zero =>
    intro ls s h hF hH l0
    cases (show (none : Option (d_S)) = some r from hF)
  | succ n ih =>
    intro ls s h hF hH l0
    have hF : F_X12_nextToken_l0_b k39 (F_X12_nextToken_l0 k39 n) s = some r := hF
    unfold F_X12_nextToken_l0_b at hF
    refine dw_aln rfl l0 (dw_aln rfl l0 (dw_gi (k := 7) rfl rfl rfl hH d_c64_7 (dw_vP hF rfl (d_vir (n := 2) rfl rfl rfl rfl rfl hH d_c64_0 rfl) rfl rfl rfl (dc := 0) (fun _ e => D_X12_byteAt e hH hH.r) (fun v1 r_v1 hF => dw_bp rfl rfl (?_)))))
    refine d_if hF (fun q hF => ?_) (fun q hF => ?_)
    · refine dw_eq_y rfl (u := 26) rfl r_v1 (d_rl rfl) q ?_
      exact D_X12_nextToken_j26 hF hH l0 (fun {ls} {s} {h} hF hH l0 => ih hF hH l0)
    · refine dw_eq_n rfl (u := 26) rfl r_v1 (d_rl rfl) q ?_
      refine dw_aln rfl l0 (dw_aln rfl l0 (dw_gi (k := 7) rfl rfl rfl hH d_c64_7 (dw_vP hF rfl (d_vir (n := 2) rfl rfl rfl rfl rfl hH d_c64_0 rfl) rfl rfl rfl (dc := 0) (fun _ e => D_X12_byteAt e hH hH.r) (fun v3 r_v3 hF => dw_bp rfl rfl (?_)))))
      refine d_if hF (fun q hF => ?_) (fun q hF => ?_)
      · refine dw_ne_y rfl (u := 39) rfl r_v3 (d_rl rfl) q ?_
        exact D_X12_nextToken_j26 hF hH l0 (fun {ls} {s} {h} hF hH l0 => ih hF hH l0)
      · refine dw_ne_n rfl (u := 39) rfl r_v3 (d_rl rfl) q ?_
        exact hk39 hF hH l0
set_option maxRecDepth 100000 in
noncomputable def F_X12_nextToken_j297 (y1 : Int) (s : d_S) : Option (d_S) :=
  d_l (d_si s 64 9 y1) (fun s14 => d_l (d_si s14 64 7 (d_w ((s14.1 64 7) + 1))) (fun s15 => some s15))
set_option maxRecDepth 100000 in
theorem D_X12_nextToken_j297 {t : Nat → Option p_C} {h : p_H} {s : d_S} {y1 : Int} {r : d_S} {ls : p_Ls} (hF : F_X12_nextToken_j297 y1 s = some r) (hH : d_V t h s) (l0 : p_lk 0 ls = some (.ref 64)) (r_y1 : d_R y1) : p_wp p_GT p_MT 1 m_X12_nextToken 297 ls [.int (Int32.ofInt y1), .ref 64] h (d_QV t r) := by
  unfold F_X12_nextToken_j297 at hF
  exact dw_pi (k := 9) rfl rfl rfl rfl hH d_c64_9 r_y1 (by decide) hF (fun s14 h14 hH14 hF => dw_aln rfl l0 (dw_dupr rfl (dw_gi (k := 7) rfl rfl rfl hH14 d_c64_7 (dw_ic rfl (dw_add rfl (dw_w1 (dw_pi (k := 7) rfl rfl rfl rfl hH14 d_c64_7 d_R_w (by decide) hF (fun s15 h15 hH15 hF => dw_rV rfl rfl hH15 hF))))))))
set_option maxRecDepth 100000 in
noncomputable def F_X12_nextToken_j272 (x1 : Int) (s : d_S) : Option (d_S) :=
  d_b (F_X12_byteAt s (s.1 64 7)) (fun v13 => if v13 = 61 then
  if x1 = 60 then
  F_X12_nextToken_j297 4 s
  else
  F_X12_nextToken_j297 5 s
  else
  some s)
set_option maxRecDepth 100000 in
theorem D_X12_nextToken_j272 {t : Nat → Option p_C} {h : p_H} {s : d_S} {x1 : Int} {r : d_S} {ls : p_Ls} (hF : F_X12_nextToken_j272 x1 s = some r) (hH : d_V t h s) (l0 : p_lk 0 ls = some (.ref 64)) (r_x1 : d_R x1) (l1 : p_lk 1 ls = some (.int (Int32.ofInt x1))) : p_wp p_GT p_MT 1 m_X12_nextToken 272 ls [] h (d_QV t r) := by
  unfold F_X12_nextToken_j272 at hF
  refine dw_aln rfl l0 (dw_aln rfl l0 (dw_gi (k := 7) rfl rfl rfl hH d_c64_7 (dw_vP hF rfl (d_vir (n := 2) rfl rfl rfl rfl rfl hH d_c64_0 rfl) rfl rfl rfl (dc := 0) (fun _ e => D_X12_byteAt e hH hH.r) (fun v13 r_v13 hF => dw_bp rfl rfl (?_)))))
  refine d_if hF (fun q hF => ?_) (fun q hF => ?_)
  · refine dw_ne_y rfl (u := 310) rfl r_v13 (d_rl rfl) q ?_
    refine dw_aln rfl l0 (dw_iln rfl l1 (dw_bp rfl rfl (?_)))
    refine d_if hF (fun q hF => ?_) (fun q hF => ?_)
    · refine dw_ne_y rfl (u := 296) rfl r_x1 (d_rl rfl) q ?_
      refine dw_ic rfl (dw_go rfl (u := 297) rfl (?_))
      exact D_X12_nextToken_j297 hF hH l0 (d_rl rfl)
    · refine dw_ne_n rfl (u := 296) rfl r_x1 (d_rl rfl) q ?_
      refine dw_ic rfl (?_)
      exact D_X12_nextToken_j297 hF hH l0 (d_rl rfl)
  · refine dw_ne_n rfl (u := 310) rfl r_v13 (d_rl rfl) q ?_
    exact dw_rV rfl rfl hH hF
set_option maxRecDepth 100000 in
noncomputable def F_X12_nextToken_j247 (x1 : Int) (y1 : Int) (s : d_S) : Option (d_S) :=
  d_l (d_si s 64 9 y1) (fun s11 => d_l (d_si s11 64 7 (d_w ((s11.1 64 7) + 1))) (fun s12 => if x1 = 60 then
  F_X12_nextToken_j272 x1 s12
  else
  if x1 = 62 then
  F_X12_nextToken_j272 x1 s12
  else
  some s12))
set_option maxRecDepth 100000 in
theorem D_X12_nextToken_j247 {t : Nat → Option p_C} {h : p_H} {s : d_S} {x1 : Int} {y1 : Int} {r : d_S} {ls : p_Ls} (hF : F_X12_nextToken_j247 x1 y1 s = some r) (hH : d_V t h s) (l0 : p_lk 0 ls = some (.ref 64)) (r_x1 : d_R x1) (l1 : p_lk 1 ls = some (.int (Int32.ofInt x1))) (r_y1 : d_R y1) : p_wp p_GT p_MT 1 m_X12_nextToken 247 ls [.int (Int32.ofInt y1), .ref 64] h (d_QV t r) := by
  unfold F_X12_nextToken_j247 at hF
  refine dw_pi (k := 9) rfl rfl rfl rfl hH d_c64_9 r_y1 (by decide) hF (fun s11 h11 hH11 hF => dw_aln rfl l0 (dw_dupr rfl (dw_gi (k := 7) rfl rfl rfl hH11 d_c64_7 (dw_ic rfl (dw_add rfl (dw_w1 (dw_pi (k := 7) rfl rfl rfl rfl hH11 d_c64_7 d_R_w (by decide) hF (fun s12 h12 hH12 hF => dw_iln rfl l1 (dw_bp rfl rfl (?_))))))))))
  refine d_if hF (fun q hF => ?_) (fun q hF => ?_)
  · refine dw_eq_y rfl (u := 272) rfl r_x1 (d_rl rfl) q ?_
    exact D_X12_nextToken_j272 hF hH12 l0 r_x1 l1
  · refine dw_eq_n rfl (u := 272) rfl r_x1 (d_rl rfl) q ?_
    refine dw_iln rfl l1 (dw_bp rfl rfl (?_))
    refine d_if hF (fun q hF => ?_) (fun q hF => ?_)
    · refine dw_ne_y rfl (u := 310) rfl r_x1 (d_rl rfl) q ?_
      exact D_X12_nextToken_j272 hF hH12 l0 r_x1 l1
    · refine dw_ne_n rfl (u := 310) rfl r_x1 (d_rl rfl) q ?_
      exact dw_rV rfl rfl hH12 hF
set_option maxRecDepth 100000 in
noncomputable def F_X12_nextToken_j218 (k168 : d_S → Option (d_S)) (y1 : Int) (s : d_S) : Option (d_S) :=
  d_l (d_sl s 1011 y1) (fun s21 => d_l (d_si s21 64 7 (d_w ((s21.1 64 7) + 1))) (fun s22 => k168 s22))
set_option maxRecDepth 100000 in
theorem D_X12_nextToken_j218 {t : Nat → Option p_C} {h : p_H} {s : d_S} {k168 : d_S → Option (d_S)} {y1 : Int} {r : d_S} {ls : p_Ls} (hF : F_X12_nextToken_j218 k168 y1 s = some r) (hH : d_V t h s) (l0 : p_lk 0 ls = some (.ref 64)) (r_y1 : d_RL y1) (hk168 : ∀ {ls : p_Ls} {s : d_S} {h : p_H}, k168 s = some r → d_V t h s → p_lk 0 ls = some (.ref 64) → p_wp p_GT p_MT 1 m_X12_nextToken 168 ls [] h (d_QV t r)) : p_wp p_GT p_MT 1 m_X12_nextToken 218 ls [.long (Int64.ofInt y1), .ref 64] h (d_QV t r) := by
  unfold F_X12_nextToken_j218 at hF
  refine dw_pL rfl rfl rfl rfl hH r_y1 hF (fun s21 h21 hH21 hF => dw_aln rfl l0 (dw_dupr rfl (dw_gi (k := 7) rfl rfl rfl hH21 d_c64_7 (dw_ic rfl (dw_add rfl (dw_w1 (dw_pi (k := 7) rfl rfl rfl rfl hH21 d_c64_7 d_R_w (by decide) hF (fun s22 h22 hH22 hF => dw_go rfl (u := 168) rfl (?_)))))))))
  exact hk168 hF hH22 l0
set_option maxRecDepth 100000 in
noncomputable def F_X12_nextToken_l168_b (rec : d_S → Option (d_S)) (s : d_S) : Option (d_S) :=
  d_b (F_X12_byteAt s (s.1 64 7)) (fun v18 => d_b (F_X12_isLetterByte v18) (fun v19 => if v19 = 0 then
  some s
  else
  if (d_shrL (s.2.2 1011) 48) = 0 then
  d_b (F_X12_byteAt s (s.1 64 7)) (fun v20 => F_X12_nextToken_j218 rec (d_orL (d_shlL (s.2.2 1011) 8) v20) s)
  else
  F_X12_nextToken_j218 rec 1152921504606846976 s))
set_option maxRecDepth 100000 in
noncomputable def F_X12_nextToken_l168 : Nat → d_S → Option (d_S)
  | 0 => fun _ => none
  | n + 1 => F_X12_nextToken_l168_b (F_X12_nextToken_l168 n)
set_option maxRecDepth 100000 in
theorem D_X12_nextToken_l168 {t : Nat → Option p_C} {r : d_S} : ∀ (n : Nat) {ls : p_Ls} {s : d_S} {h : p_H}, F_X12_nextToken_l168 n s = some r → d_V t h s → p_lk 0 ls = some (.ref 64) → p_wp p_GT p_MT 1 m_X12_nextToken 168 ls [] h (d_QV t r) := by
  intro n
  induction n with
  | zero =>
    intro ls s h hF hH l0
    cases (show (none : Option (d_S)) = some r from hF)
  | succ n ih =>
    intro ls s h hF hH l0
    have hF : F_X12_nextToken_l168_b (F_X12_nextToken_l168 n) s = some r := hF
    unfold F_X12_nextToken_l168_b at hF
    refine dw_aln rfl l0 (dw_aln rfl l0 (dw_gi (k := 7) rfl rfl rfl hH d_c64_7 (dw_vP hF rfl (d_vir (n := 2) rfl rfl rfl rfl rfl hH d_c64_0 rfl) rfl rfl rfl (dc := 0) (fun _ e => D_X12_byteAt e hH hH.r) (fun v18 r_v18 hF => dw_sB hF rfl rfl rfl rfl rfl (dc := 0) (fun _ e => D_X12_isLetterByte e r_v18) (fun v19 r_v19 hF => ?_)))))
    refine d_if hF (fun q hF => ?_) (fun q hF => ?_)
    · refine dw_zeq_y rfl (u := 310) rfl (d_R_b r_v19) q ?_
      exact dw_rV rfl rfl hH hF
    · refine dw_zeq_n rfl (u := 310) rfl (d_R_b r_v19) q ?_
      refine dw_aln rfl l0 (dw_aln rfl l0 (dw_gL rfl rfl rfl hH (dw_bp rfl rfl (dw_lshr rfl (dw_lc rfl (x := 0) rfl (?_))))))
      refine d_if hF (fun q hF => ?_) (fun q hF => ?_)
      · refine dw_Leq_y rfl rfl (u := 201) rfl d_RL_t (d_rll rfl) q ?_
        refine dw_aln rfl l0 (dw_gL rfl rfl rfl hH (dw_bp rfl rfl (dw_lshl rfl (dw_aln rfl l0 (dw_aln rfl l0 (dw_gi (k := 7) rfl rfl rfl hH d_c64_7 (dw_vP hF rfl (d_vir (n := 2) rfl rfl rfl rfl rfl hH d_c64_0 rfl) rfl rfl rfl (dc := 0) (fun _ e => D_X12_byteAt e hH hH.r) (fun v20 r_v20 hF => dw_i2l rfl r_v20 (dw_lor rfl (?_))))))))))
        exact D_X12_nextToken_j218 hF hH l0 d_RL_t (fun {ls} {s} {h} hF hH l0 => ih hF hH l0)
      · refine dw_Leq_n rfl rfl (u := 201) rfl d_RL_t (d_rll rfl) q ?_
        refine dw_ldc2 rfl rfl (dw_go rfl (u := 218) rfl (?_))
        exact D_X12_nextToken_j218 hF hH l0 (d_rll rfl) (fun {ls} {s} {h} hF hH l0 => ih hF hH l0)
set_option maxRecDepth 100000 in
noncomputable def F_X12_nextToken_j135 (k85 : d_S → Option (d_S)) (y1 : Int) (s : d_S) : Option (d_S) :=
  d_l (d_si s 64 10 y1) (fun s27 => d_l (d_si s27 64 7 (d_w ((s27.1 64 7) + 1))) (fun s28 => k85 s28))
set_option maxRecDepth 100000 in
theorem D_X12_nextToken_j135 {t : Nat → Option p_C} {h : p_H} {s : d_S} {k85 : d_S → Option (d_S)} {y1 : Int} {r : d_S} {ls : p_Ls} (hF : F_X12_nextToken_j135 k85 y1 s = some r) (hH : d_V t h s) (l0 : p_lk 0 ls = some (.ref 64)) (r_y1 : d_R y1) (hk85 : ∀ {ls : p_Ls} {s : d_S} {h : p_H}, k85 s = some r → d_V t h s → p_lk 0 ls = some (.ref 64) → p_wp p_GT p_MT 1 m_X12_nextToken 85 ls [] h (d_QV t r)) : p_wp p_GT p_MT 1 m_X12_nextToken 135 ls [.int (Int32.ofInt y1), .ref 64] h (d_QV t r) := by
  unfold F_X12_nextToken_j135 at hF
  refine dw_pi (k := 10) rfl rfl rfl rfl hH d_c64_10 r_y1 (by decide) hF (fun s27 h27 hH27 hF => dw_aln rfl l0 (dw_dupr rfl (dw_gi (k := 7) rfl rfl rfl hH27 d_c64_7 (dw_ic rfl (dw_add rfl (dw_w1 (dw_pi (k := 7) rfl rfl rfl rfl hH27 d_c64_7 d_R_w (by decide) hF (fun s28 h28 hH28 hF => dw_go rfl (u := 85) rfl (?_)))))))))
  exact hk85 hF hH28 l0
set_option maxRecDepth 100000 in
noncomputable def F_X12_nextToken_l85_b (rec : d_S → Option (d_S)) (s : d_S) : Option (d_S) :=
  d_b (F_X12_byteAt s (s.1 64 7)) (fun v25 => d_b (F_X12_isFigure v25) (fun v26 => if v26 = 0 then
  some s
  else
  if 99999 < (s.1 64 10) then
  F_X12_nextToken_j135 rec (s.1 64 10) s
  else
  d_b (F_X12_byteAt s (s.1 64 7)) (fun v29 => F_X12_nextToken_j135 rec (d_w (((10 * (s.1 64 10)) + v29) - 48)) s)))
set_option maxRecDepth 100000 in
noncomputable def F_X12_nextToken_l85 : Nat → d_S → Option (d_S)
  | 0 => fun _ => none
  | n + 1 => F_X12_nextToken_l85_b (F_X12_nextToken_l85 n)
set_option maxRecDepth 100000 in
theorem D_X12_nextToken_l85 {t : Nat → Option p_C} {r : d_S} : ∀ (n : Nat) {ls : p_Ls} {s : d_S} {h : p_H}, F_X12_nextToken_l85 n s = some r → d_V t h s → p_lk 0 ls = some (.ref 64) → p_wp p_GT p_MT 1 m_X12_nextToken 85 ls [] h (d_QV t r) := by
  intro n
  induction n with
  | zero =>
    intro ls s h hF hH l0
    cases (show (none : Option (d_S)) = some r from hF)
  | succ n ih =>
    intro ls s h hF hH l0
    have hF : F_X12_nextToken_l85_b (F_X12_nextToken_l85 n) s = some r := hF
    unfold F_X12_nextToken_l85_b at hF
    refine dw_aln rfl l0 (dw_aln rfl l0 (dw_gi (k := 7) rfl rfl rfl hH d_c64_7 (dw_vP hF rfl (d_vir (n := 2) rfl rfl rfl rfl rfl hH d_c64_0 rfl) rfl rfl rfl (dc := 0) (fun _ e => D_X12_byteAt e hH hH.r) (fun v25 r_v25 hF => dw_sB hF rfl rfl rfl rfl rfl (dc := 0) (fun _ e => D_X12_isFigure e r_v25) (fun v26 r_v26 hF => ?_)))))
    refine d_if hF (fun q hF => ?_) (fun q hF => ?_)
    · refine dw_zeq_y rfl (u := 310) rfl (d_R_b r_v26) q ?_
      exact dw_rV rfl rfl hH hF
    · refine dw_zeq_n rfl (u := 310) rfl (d_R_b r_v26) q ?_
      refine dw_aln rfl l0 (dw_aln rfl l0 (dw_gi (k := 10) rfl rfl rfl hH d_c64_10 (dw_ldc rfl rfl (?_))))
      refine d_if hF (fun q hF => ?_) (fun q hF => ?_)
      · refine dw_le_y rfl (u := 116) rfl hH.r (d_rl rfl) q ?_
        refine dw_aln rfl l0 (dw_gi (k := 10) rfl rfl rfl hH d_c64_10 (dw_go rfl (u := 135) rfl (?_)))
        exact D_X12_nextToken_j135 hF hH l0 hH.r (fun {ls} {s} {h} hF hH l0 => ih hF hH l0)
      · refine dw_le_n rfl (u := 116) rfl hH.r (d_rl rfl) q ?_
        refine dw_bp rfl rfl (dw_aln rfl l0 (dw_gi (k := 10) rfl rfl rfl hH d_c64_10 (dw_mul rfl (dw_aln rfl l0 (dw_aln rfl l0 (dw_gi (k := 7) rfl rfl rfl hH d_c64_7 (dw_vP hF rfl (d_vir (n := 2) rfl rfl rfl rfl rfl hH d_c64_0 rfl) rfl rfl rfl (dc := 0) (fun _ e => D_X12_byteAt e hH hH.r) (fun v29 r_v29 hF => dw_add rfl (dw_bp rfl rfl (?_))))))))))
        refine dw_sub rfl (dw_w1 (?_))
        exact D_X12_nextToken_j135 hF hH l0 d_R_w (fun {ls} {s} {h} hF hH l0 => ih hF hH l0)
set_option maxRecDepth 100000 in
noncomputable def F_X12_nextToken (s : d_S) : Option (d_S) :=
  F_X12_nextToken_l0 (fun s_u4 =>
  d_l (d_si s_u4 64 8 (s_u4.1 64 7)) (fun s5 => d_b (F_X12_byteAt s5 (s5.1 64 7)) (fun v6 => if v6 < 0 then
  d_l (d_si s5 64 9 0) (fun s7 => some s7)
  else
  d_b (F_X12_isFigure v6) (fun v8 => if v8 = 0 then
  d_b (F_X12_isLetterByte v6) (fun v9 => if v9 = 0 then
  d_b (F_X12_isSign v6) (fun v10 => if v10 = 0 then
  F_X12_nextToken_j247 v6 3 s5
  else
  F_X12_nextToken_j247 v6 v6 s5)
  else
  d_l (d_si s5 64 9 2) (fun s16 => d_l (d_sl s16 1011 0) (fun s17 => F_X12_nextToken_l168 d_N s17)))
  else
  d_l (d_si s5 64 9 1) (fun s23 => d_l (d_si s23 64 10 0) (fun s24 => F_X12_nextToken_l85 d_N s24)))))) d_N s
set_option maxRecDepth 100000 in
theorem D_X12_nextToken {t : Nat → Option p_C} {h : p_H} {s : d_S} {r : d_S} (hF : F_X12_nextToken s = some r) (hH : d_V t h s) : p_wp p_GT p_MT 1 m_X12_nextToken 0 (lv_args 0 [.ref 64]) [] h (d_QV t r) := by
  unfold F_X12_nextToken at hF
  refine D_X12_nextToken_l0 (fun {ls_u4} {s_u4} {h_u4} hF hH_u4 l0_u4 => ?_) _ hF hH rfl
  · refine dw_aln rfl l0_u4 (dw_aln rfl l0_u4 (dw_gi (k := 7) rfl rfl rfl hH_u4 d_c64_7 (dw_pi (k := 8) rfl rfl rfl rfl hH_u4 d_c64_8 hH_u4.r (by decide) hF (fun s5 h5 hH5 hF => dw_aln rfl l0_u4 (dw_aln rfl l0_u4 (dw_gi (k := 7) rfl rfl rfl hH5 d_c64_7 (dw_vP hF rfl (d_vir (n := 2) rfl rfl rfl rfl rfl hH5 d_c64_0 rfl) rfl rfl rfl (dc := 0) (fun _ e => D_X12_byteAt e hH5 hH5.r) (fun v6 r_v6 hF => dw_isn rfl rfl (dw_iln rfl p_lk_s1 (?_))))))))))
    refine d_if hF (fun q hF => ?_) (fun q hF => ?_)
    · refine dw_zge_y rfl (u := 68) rfl r_v6 q ?_
      exact dw_aln rfl (d_s1 l0_u4 rfl (by decide)) (dw_ic rfl (dw_pi (k := 9) rfl rfl rfl rfl hH5 d_c64_9 (d_rl rfl) (by decide) hF (fun s7 h7 hH7 hF => dw_go rfl (u := 310) rfl (dw_rV rfl rfl hH7 hF))))
    · refine dw_zge_n rfl (u := 68) rfl r_v6 q ?_
      refine dw_iln rfl p_lk_s1 (dw_sB hF rfl rfl rfl rfl rfl (dc := 0) (fun _ e => D_X12_isFigure e r_v6) (fun v8 r_v8 hF => ?_))
      refine d_if hF (fun q hF => ?_) (fun q hF => ?_)
      · refine dw_zeq_y rfl (u := 151) rfl (d_R_b r_v8) q ?_
        refine dw_iln rfl p_lk_s1 (dw_sB hF rfl rfl rfl rfl rfl (dc := 0) (fun _ e => D_X12_isLetterByte e r_v6) (fun v9 r_v9 hF => ?_))
        refine d_if hF (fun q hF => ?_) (fun q hF => ?_)
        · refine dw_zeq_y rfl (u := 234) rfl (d_R_b r_v9) q ?_
          refine dw_aln rfl (d_s1 l0_u4 rfl (by decide)) (dw_iln rfl p_lk_s1 (dw_sB hF rfl rfl rfl rfl rfl (dc := 0) (fun _ e => D_X12_isSign e r_v6) (fun v10 r_v10 hF => ?_)))
          refine d_if hF (fun q hF => ?_) (fun q hF => ?_)
          · refine dw_zeq_y rfl (u := 246) rfl (d_R_b r_v10) q ?_
            refine dw_ic rfl (?_)
            exact D_X12_nextToken_j247 hF hH5 (d_s1 l0_u4 rfl (by decide)) r_v6 p_lk_s1 (d_rl rfl)
          · refine dw_zeq_n rfl (u := 246) rfl (d_R_b r_v10) q ?_
            refine dw_iln rfl p_lk_s1 (dw_go rfl (u := 247) rfl (?_))
            exact D_X12_nextToken_j247 hF hH5 (d_s1 l0_u4 rfl (by decide)) r_v6 p_lk_s1 r_v6
        · refine dw_zeq_n rfl (u := 234) rfl (d_R_b r_v9) q ?_
          refine dw_aln rfl (d_s1 l0_u4 rfl (by decide)) (dw_ic rfl (dw_pi (k := 9) rfl rfl rfl rfl hH5 d_c64_9 (d_rl rfl) (by decide) hF (fun s16 h16 hH16 hF => dw_aln rfl (d_s1 l0_u4 rfl (by decide)) (dw_lc rfl (x := 0) rfl (dw_pL rfl rfl rfl rfl hH16 (d_rll rfl) hF (fun s17 h17 hH17 hF => ?_))))))
          exact D_X12_nextToken_l168 _ hF hH17 (d_s1 l0_u4 rfl (by decide))
      · refine dw_zeq_n rfl (u := 151) rfl (d_R_b r_v8) q ?_
        refine dw_aln rfl (d_s1 l0_u4 rfl (by decide)) (dw_ic rfl (dw_pi (k := 9) rfl rfl rfl rfl hH5 d_c64_9 (d_rl rfl) (by decide) hF (fun s23 h23 hH23 hF => dw_aln rfl (d_s1 l0_u4 rfl (by decide)) (dw_ic rfl (dw_pi (k := 10) rfl rfl rfl rfl hH23 d_c64_10 (d_rl rfl) (by decide) hF (fun s24 h24 hH24 hF => ?_))))))
        exact D_X12_nextToken_l85 _ hF hH24 (d_s1 l0_u4 rfl (by decide))
set_option maxRecDepth 100000 in
noncomputable def F_X12_w2 (x0 : Int) (x1 : Int) : Option (Int) :=
  some (d_orL (d_shlL x0 8) x1)
set_option maxRecDepth 100000 in
theorem D_X12_w2 {h : p_H} {x0 : Int} {x1 : Int} {r : Int} (hF : F_X12_w2 x0 x1 = some r) (r_x0 : d_R x0) (r_x1 : d_R x1) : p_wp p_GT p_MT 0 m_X12_w2 0 (lv_args 0 [.int (Int32.ofInt x0), .int (Int32.ofInt x1)]) [] h (d_QL h r) := by
  unfold F_X12_w2 at hF
  exact dw_iln rfl rfl (dw_i2l rfl r_x0 (dw_bp rfl rfl (dw_lshl rfl (dw_iln rfl rfl (dw_i2l rfl r_x1 (dw_lor rfl (dw_rL rfl rfl d_RL_t hF)))))))
set_option maxRecDepth 100000 in
noncomputable def F_X12_w3 (x0 : Int) (x1 : Int) (x2 : Int) : Option (Int) :=
  d_b (F_X12_w2 x0 x1) (fun v1 => some (d_orL (d_shlL v1 8) x2))
set_option maxRecDepth 100000 in
theorem D_X12_w3 {h : p_H} {x0 : Int} {x1 : Int} {x2 : Int} {r : Int} (hF : F_X12_w3 x0 x1 x2 = some r) (r_x0 : d_R x0) (r_x1 : d_R x1) (r_x2 : d_R x2) : p_wp p_GT p_MT 1 m_X12_w3 0 (lv_args 0 [.int (Int32.ofInt x0), .int (Int32.ofInt x1), .int (Int32.ofInt x2)]) [] h (d_QL h r) := by
  unfold F_X12_w3 at hF
  exact dw_iln rfl rfl (dw_iln rfl rfl (dw_sL hF rfl rfl rfl rfl rfl (dc := 0) (fun _ e => D_X12_w2 e r_x0 r_x1) (fun v1 r_v1 hF => dw_bp rfl rfl (dw_lshl rfl (dw_iln rfl rfl (dw_i2l rfl r_x2 (dw_lor rfl (dw_rL rfl rfl d_RL_t hF))))))))
set_option maxRecDepth 100000 in
noncomputable def F_X12_w4 (x0 : Int) (x1 : Int) (x2 : Int) (x3 : Int) : Option (Int) :=
  d_b (F_X12_w3 x0 x1 x2) (fun v1 => some (d_orL (d_shlL v1 8) x3))
set_option maxRecDepth 100000 in
theorem D_X12_w4 {h : p_H} {x0 : Int} {x1 : Int} {x2 : Int} {x3 : Int} {r : Int} (hF : F_X12_w4 x0 x1 x2 x3 = some r) (r_x0 : d_R x0) (r_x1 : d_R x1) (r_x2 : d_R x2) (r_x3 : d_R x3) : p_wp p_GT p_MT 2 m_X12_w4 0 (lv_args 0 [.int (Int32.ofInt x0), .int (Int32.ofInt x1), .int (Int32.ofInt x2), .int (Int32.ofInt x3)]) [] h (d_QL h r) := by
  unfold F_X12_w4 at hF
  exact dw_iln rfl rfl (dw_iln rfl rfl (dw_iln rfl rfl (dw_sL hF rfl rfl rfl rfl rfl (dc := 1) (fun _ e => D_X12_w3 e r_x0 r_x1 r_x2) (fun v1 r_v1 hF => dw_bp rfl rfl (dw_lshl rfl (dw_iln rfl rfl (dw_i2l rfl r_x3 (dw_lor rfl (dw_rL rfl rfl d_RL_t hF)))))))))
set_option maxRecDepth 100000 in
noncomputable def F_X12_w5 (x0 : Int) (x1 : Int) (x2 : Int) (x3 : Int) (x4 : Int) : Option (Int) :=
  d_b (F_X12_w4 x0 x1 x2 x3) (fun v1 => some (d_orL (d_shlL v1 8) x4))
set_option maxRecDepth 100000 in
theorem D_X12_w5 {h : p_H} {x0 : Int} {x1 : Int} {x2 : Int} {x3 : Int} {x4 : Int} {r : Int} (hF : F_X12_w5 x0 x1 x2 x3 x4 = some r) (r_x0 : d_R x0) (r_x1 : d_R x1) (r_x2 : d_R x2) (r_x3 : d_R x3) (r_x4 : d_R x4) : p_wp p_GT p_MT 3 m_X12_w5 0 (lv_args 0 [.int (Int32.ofInt x0), .int (Int32.ofInt x1), .int (Int32.ofInt x2), .int (Int32.ofInt x3), .int (Int32.ofInt x4)]) [] h (d_QL h r) := by
  unfold F_X12_w5 at hF
  refine dw_iln rfl rfl (dw_iln rfl rfl (dw_iln rfl rfl (dw_iln rfl rfl (dw_sL hF rfl rfl rfl rfl rfl (dc := 2) (fun _ e => D_X12_w4 e r_x0 r_x1 r_x2 r_x3) (fun v1 r_v1 hF => dw_bp rfl rfl (dw_lshl rfl (dw_il rfl rfl (dw_i2l rfl r_x4 (dw_lor rfl (?_))))))))))
  exact dw_rL rfl rfl d_RL_t hF
set_option maxRecDepth 100000 in
noncomputable def F_X12_isWord (s : d_S) (x1 : Int) : Option (Int) :=
  if (s.1 64 9) = 2 then
  if (s.2.2 1011) = x1 then
  some 1
  else
  some 0
  else
  some 0
set_option maxRecDepth 100000 in
theorem D_X12_isWord {t : Nat → Option p_C} {h : p_H} {s : d_S} {x1 : Int} {r : Int} (hF : F_X12_isWord s x1 = some r) (hH : d_V t h s) (r_x1 : d_RL x1) : p_wp p_GT p_MT 0 m_X12_isWord 0 (lv_args 0 [.ref 64, .long (Int64.ofInt x1)]) [] h (d_QB h r) := by
  unfold F_X12_isWord at hF
  refine dw_aln rfl rfl (dw_gi (k := 9) rfl rfl rfl hH d_c64_9 (dw_ic rfl (?_)))
  refine d_if hF (fun q hF => ?_) (fun q hF => ?_)
  · refine dw_ne_y rfl (u := 21) rfl hH.r (d_rl rfl) q ?_
    refine dw_aln rfl rfl (dw_gL rfl rfl rfl hH (dw_lln rfl rfl (?_)))
    refine d_if hF (fun q hF => ?_) (fun q hF => ?_)
    · refine dw_Lne_y rfl rfl (u := 21) rfl hH.rl r_x1 q ?_
      exact dw_ic rfl (dw_go rfl (u := 22) rfl (dw_rB rfl rfl (Or.inr rfl) hF))
    · refine dw_Lne_n rfl rfl (u := 21) rfl hH.rl r_x1 q ?_
      exact dw_ic rfl (dw_rB rfl rfl (Or.inl rfl) hF)
  · refine dw_ne_n rfl (u := 21) rfl hH.r (d_rl rfl) q ?_
    exact dw_ic rfl (dw_rB rfl rfl (Or.inl rfl) hF)
set_option maxRecDepth 100000 in
noncomputable def F_X12_sortOf (s : d_S) : Option (Int) :=
  d_b (F_X12_w5 109 101 108 116 115) (fun v1 => d_b (F_X12_isWord s v1) (fun v2 => if v2 = 0 then
  d_b (F_X12_w5 115 101 108 108 115) (fun v3 => d_b (F_X12_isWord s v3) (fun v4 => if v4 = 0 then
  d_b (F_X12_w4 114 111 116 115) (fun v5 => d_b (F_X12_isWord s v5) (fun v6 => if v6 = 0 then
  d_b (F_X12_w4 112 111 110 100) (fun v7 => d_b (F_X12_isWord s v7) (fun v8 => if v8 = 0 then
  d_b (F_X12_w5 115 105 103 104 116) (fun v9 => d_b (F_X12_isWord s v9) (fun v10 => if v10 = 0 then
  d_b (F_X12_w3 115 97 119) (fun v11 => d_b (F_X12_isWord s v11) (fun v12 => if v12 = 0 then
  d_b (F_X12_w5 99 114 111 115 115) (fun v13 => d_b (F_X12_isWord s v13) (fun v14 => if v14 = 0 then
  d_b (F_X12_w5 115 116 114 97 119) (fun v15 => d_b (F_X12_isWord s v15) (fun v16 => if v16 = 0 then
  d_b (F_X12_w3 100 97 121) (fun v17 => d_b (F_X12_isWord s v17) (fun v18 => if v18 = 0 then
  d_b (F_X12_w4 115 101 108 108) (fun v19 => d_b (F_X12_isWord s v19) (fun v20 => if v20 = 0 then
  some (-1)
  else
  some 9))
  else
  some 8))
  else
  some 7))
  else
  some 6))
  else
  some 5))
  else
  some 4))
  else
  some 3))
  else
  some 2))
  else
  some 1))
  else
  some 0))
set_option maxRecDepth 100000 in
theorem D_X12_sortOf {t : Nat → Option p_C} {h : p_H} {s : d_S} {r : Int} (hF : F_X12_sortOf s = some r) (hH : d_V t h s) : p_wp p_GT p_MT 4 m_X12_sortOf 0 (lv_args 0 [.ref 64]) [] h (d_QP h r) := by
  unfold F_X12_sortOf at hF
  refine dw_aln rfl rfl (dw_bp rfl rfl (dw_bp rfl rfl (dw_bp rfl rfl (dw_bp rfl rfl (dw_bp rfl rfl (dw_sL hF rfl rfl rfl rfl rfl (dc := 3) (fun _ e => D_X12_w5 e (d_rl rfl) (d_rl rfl) (d_rl rfl) (d_rl rfl) (d_rl rfl)) (fun v1 r_v1 hF => dw_vB hF rfl (d_vir (n := 2) rfl rfl rfl rfl rfl hH d_c64_0 rfl) rfl rfl rfl (dc := 0) (fun _ e => D_X12_isWord e hH r_v1) (fun v2 r_v2 hF => ?_))))))))
  refine d_if hF (fun q hF => ?_) (fun q hF => ?_)
  · refine dw_zeq_y rfl (u := 22) rfl (d_R_b r_v2) q ?_
    refine dw_aln rfl rfl (dw_bp rfl rfl (dw_bp rfl rfl (dw_bp rfl rfl (dw_bp rfl rfl (dw_bp rfl rfl (dw_sL hF rfl rfl rfl rfl rfl (dc := 3) (fun _ e => D_X12_w5 e (d_rl rfl) (d_rl rfl) (d_rl rfl) (d_rl rfl) (d_rl rfl)) (fun v3 r_v3 hF => dw_vB hF rfl (d_vir (n := 2) rfl rfl rfl rfl rfl hH d_c64_0 rfl) rfl rfl rfl (dc := 0) (fun _ e => D_X12_isWord e hH r_v3) (fun v4 r_v4 hF => ?_))))))))
    refine d_if hF (fun q hF => ?_) (fun q hF => ?_)
    · refine dw_zeq_y rfl (u := 44) rfl (d_R_b r_v4) q ?_
      refine dw_aln rfl rfl (dw_bp rfl rfl (dw_bp rfl rfl (dw_bp rfl rfl (dw_bp rfl rfl (dw_sL hF rfl rfl rfl rfl rfl (dc := 2) (fun _ e => D_X12_w4 e (d_rl rfl) (d_rl rfl) (d_rl rfl) (d_rl rfl)) (fun v5 r_v5 hF => dw_vB hF rfl (d_vir (n := 2) rfl rfl rfl rfl rfl hH d_c64_0 rfl) rfl rfl rfl (dc := 0) (fun _ e => D_X12_isWord e hH r_v5) (fun v6 r_v6 hF => ?_)))))))
      refine d_if hF (fun q hF => ?_) (fun q hF => ?_)
      · refine dw_zeq_y rfl (u := 64) rfl (d_R_b r_v6) q ?_
        refine dw_aln rfl rfl (dw_bp rfl rfl (dw_bp rfl rfl (dw_bp rfl rfl (dw_bp rfl rfl (dw_sL hF rfl rfl rfl rfl rfl (dc := 2) (fun _ e => D_X12_w4 e (d_rl rfl) (d_rl rfl) (d_rl rfl) (d_rl rfl)) (fun v7 r_v7 hF => dw_vB hF rfl (d_vir (n := 2) rfl rfl rfl rfl rfl hH d_c64_0 rfl) rfl rfl rfl (dc := 0) (fun _ e => D_X12_isWord e hH r_v7) (fun v8 r_v8 hF => ?_)))))))
        refine d_if hF (fun q hF => ?_) (fun q hF => ?_)
        · refine dw_zeq_y rfl (u := 84) rfl (d_R_b r_v8) q ?_
          refine dw_aln rfl rfl (dw_bp rfl rfl (dw_bp rfl rfl (dw_bp rfl rfl (dw_bp rfl rfl (dw_bp rfl rfl (dw_sL hF rfl rfl rfl rfl rfl (dc := 3) (fun _ e => D_X12_w5 e (d_rl rfl) (d_rl rfl) (d_rl rfl) (d_rl rfl) (d_rl rfl)) (fun v9 r_v9 hF => dw_vB hF rfl (d_vir (n := 2) rfl rfl rfl rfl rfl hH d_c64_0 rfl) rfl rfl rfl (dc := 0) (fun _ e => D_X12_isWord e hH r_v9) (fun v10 r_v10 hF => ?_))))))))
          refine d_if hF (fun q hF => ?_) (fun q hF => ?_)
          · refine dw_zeq_y rfl (u := 106) rfl (d_R_b r_v10) q ?_
            refine dw_aln rfl rfl (dw_bp rfl rfl (dw_bp rfl rfl (dw_bp rfl rfl (dw_sL hF rfl rfl rfl rfl rfl (dc := 1) (fun _ e => D_X12_w3 e (d_rl rfl) (d_rl rfl) (d_rl rfl)) (fun v11 r_v11 hF => dw_vB hF rfl (d_vir (n := 2) rfl rfl rfl rfl rfl hH d_c64_0 rfl) rfl rfl rfl (dc := 0) (fun _ e => D_X12_isWord e hH r_v11) (fun v12 r_v12 hF => ?_))))))
            refine d_if hF (fun q hF => ?_) (fun q hF => ?_)
            · refine dw_zeq_y rfl (u := 124) rfl (d_R_b r_v12) q ?_
              refine dw_aln rfl rfl (dw_bp rfl rfl (dw_bp rfl rfl (dw_bp rfl rfl (dw_bp rfl rfl (dw_bp rfl rfl (dw_sL hF rfl rfl rfl rfl rfl (dc := 3) (fun _ e => D_X12_w5 e (d_rl rfl) (d_rl rfl) (d_rl rfl) (d_rl rfl) (d_rl rfl)) (fun v13 r_v13 hF => dw_vB hF rfl (d_vir (n := 2) rfl rfl rfl rfl rfl hH d_c64_0 rfl) rfl rfl rfl (dc := 0) (fun _ e => D_X12_isWord e hH r_v13) (fun v14 r_v14 hF => ?_))))))))
              refine d_if hF (fun q hF => ?_) (fun q hF => ?_)
              · refine dw_zeq_y rfl (u := 147) rfl (d_R_b r_v14) q ?_
                refine dw_aln rfl rfl (dw_bp rfl rfl (dw_bp rfl rfl (dw_bp rfl rfl (dw_bp rfl rfl (dw_bp rfl rfl (dw_sL hF rfl rfl rfl rfl rfl (dc := 3) (fun _ e => D_X12_w5 e (d_rl rfl) (d_rl rfl) (d_rl rfl) (d_rl rfl) (d_rl rfl)) (fun v15 r_v15 hF => dw_vB hF rfl (d_vir (n := 2) rfl rfl rfl rfl rfl hH d_c64_0 rfl) rfl rfl rfl (dc := 0) (fun _ e => D_X12_isWord e hH r_v15) (fun v16 r_v16 hF => ?_))))))))
                refine d_if hF (fun q hF => ?_) (fun q hF => ?_)
                · refine dw_zeq_y rfl (u := 170) rfl (d_R_b r_v16) q ?_
                  refine dw_aln rfl rfl (dw_bp rfl rfl (dw_bp rfl rfl (dw_bp rfl rfl (dw_sL hF rfl rfl rfl rfl rfl (dc := 1) (fun _ e => D_X12_w3 e (d_rl rfl) (d_rl rfl) (d_rl rfl)) (fun v17 r_v17 hF => dw_vB hF rfl (d_vir (n := 2) rfl rfl rfl rfl rfl hH d_c64_0 rfl) rfl rfl rfl (dc := 0) (fun _ e => D_X12_isWord e hH r_v17) (fun v18 r_v18 hF => ?_))))))
                  refine d_if hF (fun q hF => ?_) (fun q hF => ?_)
                  · refine dw_zeq_y rfl (u := 191) rfl (d_R_b r_v18) q ?_
                    refine dw_aln rfl rfl (dw_bp rfl rfl (dw_bp rfl rfl (dw_bp rfl rfl (dw_bp rfl rfl (dw_sL hF rfl rfl rfl rfl rfl (dc := 2) (fun _ e => D_X12_w4 e (d_rl rfl) (d_rl rfl) (d_rl rfl) (d_rl rfl)) (fun v19 r_v19 hF => dw_vB hF rfl (d_vir (n := 2) rfl rfl rfl rfl rfl hH d_c64_0 rfl) rfl rfl rfl (dc := 0) (fun _ e => D_X12_isWord e hH r_v19) (fun v20 r_v20 hF => ?_)))))))
                    refine d_if hF (fun q hF => ?_) (fun q hF => ?_)
                    · refine dw_zeq_y rfl (u := 214) rfl (d_R_b r_v20) q ?_
                      exact dw_ic rfl (dw_rP rfl rfl (d_rl rfl) hF)
                    · refine dw_zeq_n rfl (u := 214) rfl (d_R_b r_v20) q ?_
                      exact dw_bp rfl rfl (dw_go rfl (u := 215) rfl (dw_rP rfl rfl (d_rl rfl) hF))
                  · refine dw_zeq_n rfl (u := 191) rfl (d_R_b r_v18) q ?_
                    exact dw_bp rfl rfl (dw_go rfl (u := 215) rfl (dw_rP rfl rfl (d_rl rfl) hF))
                · refine dw_zeq_n rfl (u := 170) rfl (d_R_b r_v16) q ?_
                  exact dw_bp rfl rfl (dw_rP rfl rfl (d_rl rfl) hF)
              · refine dw_zeq_n rfl (u := 147) rfl (d_R_b r_v14) q ?_
                exact dw_bp rfl rfl (dw_rP rfl rfl (d_rl rfl) hF)
            · refine dw_zeq_n rfl (u := 124) rfl (d_R_b r_v12) q ?_
              exact dw_ic rfl (dw_rP rfl rfl (d_rl rfl) hF)
          · refine dw_zeq_n rfl (u := 106) rfl (d_R_b r_v10) q ?_
            exact dw_ic rfl (dw_rP rfl rfl (d_rl rfl) hF)
        · refine dw_zeq_n rfl (u := 84) rfl (d_R_b r_v8) q ?_
          exact dw_ic rfl (dw_rP rfl rfl (d_rl rfl) hF)
      · refine dw_zeq_n rfl (u := 64) rfl (d_R_b r_v6) q ?_
        exact dw_ic rfl (dw_rP rfl rfl (d_rl rfl) hF)
    · refine dw_zeq_n rfl (u := 44) rfl (d_R_b r_v4) q ?_
      exact dw_ic rfl (dw_rP rfl rfl (d_rl rfl) hF)
  · refine dw_zeq_n rfl (u := 22) rfl (d_R_b r_v2) q ?_
    exact dw_ic rfl (dw_rP rfl rfl (d_rl rfl) hF)
set_option maxRecDepth 100000 in
noncomputable def F_X12_figure (s : d_S) (x1 : Int) (x2 : Int) (x3 : Int) : Option (Int × d_S) :=
  if (s.1 64 9) = 1 then
  d_b (F_X12_isIn (s.1 64 10) x2 x3) (fun v1 => if v1 = 0 then
  some (2, s)
  else
  d_g (0 ≤ x1 ∧ x1 < 3108) (d_l (d_si s 67 ((x1).toNat) (s.1 64 10)) (fun s3 => d_b (F_X12_nextToken s3) (fun s4 => some (0, s4)))))
  else
  some (1, s)
set_option maxRecDepth 100000 in
theorem D_X12_figure {t : Nat → Option p_C} {h : p_H} {s : d_S} {x1 : Int} {x2 : Int} {x3 : Int} {r : Int × d_S} (hF : F_X12_figure s x1 x2 x3 = some r) (hH : d_V t h s) (r_x1 : d_R x1) (r_x2 : d_R x2) (r_x3 : d_R x3) : p_wp p_GT p_MT 2 m_X12_figure 0 (lv_args 0 [.ref 64, .int (Int32.ofInt x1), .int (Int32.ofInt x2), .int (Int32.ofInt x3)]) [] h (d_QI t r) := by
  unfold F_X12_figure at hF
  refine dw_aln rfl rfl (dw_gi (k := 9) rfl rfl rfl hH d_c64_9 (dw_ic rfl (?_)))
  refine d_if hF (fun q hF => ?_) (fun q hF => ?_)
  · refine dw_eq_y rfl (u := 10) rfl hH.r (d_rl rfl) q ?_
    refine dw_aln rfl rfl (dw_gi (k := 10) rfl rfl rfl hH d_c64_10 (dw_iln rfl rfl (dw_iln rfl rfl (dw_sB hF rfl rfl rfl rfl rfl (dc := 0) (fun _ e => D_X12_isIn e hH.r r_x2 r_x3) (fun v1 r_v1 hF => ?_)))))
    refine d_if hF (fun q hF => ?_) (fun q hF => ?_)
    · refine dw_zne_y rfl (u := 24) rfl (d_R_b r_v1) q ?_
      exact dw_ic rfl (dw_rI rfl rfl (d_rl rfl) hH hF)
    · refine dw_zne_n rfl (u := 24) rfl (d_R_b r_v1) q ?_
      refine dw_aln rfl rfl (dw_gr rfl rfl rfl hH d_c64_2 (dw_iln rfl rfl (dw_aln rfl rfl (dw_gi (k := 10) rfl rfl rfl hH d_c64_10 (d_gd hF (fun g2 hF => dw_ast rfl hH d_a67 g2.1 g2.2 r_x1 rfl hH.r hF (fun s3 h3 hH3 hF => dw_aln rfl rfl (dw_vV hF rfl (d_vir (n := 1) rfl rfl rfl rfl rfl hH3 d_c64_0 rfl) rfl rfl rfl (dc := 1) (fun _ e => D_X12_nextToken e hH3) (fun s4 h4 hH4 hF => dw_ic rfl (?_))))))))))
      exact dw_rI rfl rfl (d_rl rfl) hH4 hF
  · refine dw_eq_n rfl (u := 10) rfl hH.r (d_rl rfl) q ?_
    exact dw_ic rfl (dw_rI rfl rfl (d_rl rfl) hH hF)

set_option maxRecDepth 100000 in
noncomputable def F_X11_perform (t : Nat → Option p_C) (s : d_S) (x1 : Option Nat) (x2 : Int) : Option (Int × d_S) :=
  d_b x1 (fun b1 => d_b (F_X7_part t s b1 x2 1) (fun v2 => d_b x1 (fun b3 => d_b (F_X7_part t s b3 x2 2) (fun v4 => d_b x1 (fun b5 => d_b (F_X7_part t s b5 x2 0) (fun v6 => 
  if v6 = 3 then
  d_b2 (F_X11_pond s v2 v4) (fun v7 s8 => some (v7, s8))
  else
  if v6 = 4 then
  d_b x1 (fun b9 => d_b (F_X7_part t s b9 x2 3) (fun v10 => d_b x1 (fun b11 => d_b (F_X7_part t s b11 x2 4) (fun v12 => d_b x1 (fun b13 => d_b (F_X7_part t s b13 x2 5) (fun v14 => d_b x1 (fun b15 => d_b (F_X7_part t s b15 x2 6) (fun v16 => d_b2 (F_X11_sight s v2 v4 v10 v12 v14 v16) (fun v17 s18 => if v17 = (-1) then
  some (0, s18)
  else
  some (1, s18))))))))))
  else
  if v6 = 5 then
  d_b2 (F_X11_sawThrough s v2 1) (fun v19 s20 => some (v19, s20))
  else
  if v6 = 6 then
  d_b2 (F_X11_sawThrough s v2 0) (fun v21 s22 => some (v21, s22))
  else
  if v6 = 7 then
  d_b2 (F_X11_sellByHand t s v2) (fun v23 s24 => if v23 = (-1) then
  some (0, s24)
  else
  some (1, s24))
  else
  if v6 = 8 then
  d_b2 (F_X11_layByHand s v2 v4) (fun v25 s26 => some (v25, s26))
  else
  if v6 = 9 then
  d_b2 (F_X11_passDays t s v2) (fun v27 s28 => some (v27, s28))
  else
  some (1, s)))))))
set_option maxRecDepth 100000 in
theorem D_X11_perform {t : Nat → Option p_C} {h : p_H} {s : d_S} {x1 : Option Nat} {x2 : Int} {r : Int × d_S} (hF : F_X11_perform t s x1 x2 = some r) (hH : d_V t h s) (r_x1 : d_T t x1) (r_x2 : d_R x2) : p_wp p_GT p_MT 7 m_X11_perform 0 (lv_args 0 [.ref 2, d_pv x1, .int (Int32.ofInt x2)]) [] h (d_QC t r) := by
  have a0 : p_lk 0 (lv_args 0 [.ref 2, d_pv x1, .int (Int32.ofInt x2)]) = some (.ref 2) := by cases x1 <;> rfl
  have a1 : p_lk 1 (lv_args 0 [.ref 2, d_pv x1, .int (Int32.ofInt x2)]) = some (d_pv x1) := by cases x1 <;> rfl
  have a2 : p_lk 2 (lv_args 0 [.ref 2, d_pv x1, .int (Int32.ofInt x2)]) = some (.int (Int32.ofInt x2)) := by cases x1 <;> rfl
  unfold F_X11_perform at hF
  refine dw_alno rfl a1 (dw_iln rfl a2 (dw_ic rfl (dw_ot3 hF r_x1 (fun b1 r_b1 hF => dw_vP hF rfl (d_virt (n := 3) rfl rfl rfl rfl rfl hH r_b1 rfl) rfl rfl rfl (dc := 0) (fun _ e => D_X7_part e hH r_b1 r_x2 (d_rl rfl)) (fun v2 r_v2 hF => dw_isn rfl rfl (dw_alno rfl (d_s1o a1 (by decide)) (dw_iln rfl (d_s1 a2 rfl (by decide)) (dw_ic rfl (dw_ot3 hF r_x1 (fun b3 r_b3 hF => ?_))))))))))
  refine dw_vP hF rfl (d_virt (n := 3) rfl rfl rfl rfl rfl hH r_b3 rfl) rfl rfl rfl (dc := 0) (fun _ e => D_X7_part e hH r_b3 r_x2 (d_rl rfl)) (fun v4 r_v4 hF => dw_is rfl rfl (dw_alno rfl (d_s1o (d_s1o a1 (by decide)) (by decide)) (dw_iln rfl (d_s1 (d_s1 a2 rfl (by decide)) rfl (by decide)) (dw_ic rfl (dw_ot3 hF r_x1 (fun b5 r_b5 hF => dw_vP hF rfl (d_virt (n := 3) rfl rfl rfl rfl rfl hH r_b5 rfl) rfl rfl rfl (dc := 0) (fun _ e => D_X7_part e hH r_b5 r_x2 (d_rl rfl)) (fun v6 r_v6 hF => ?_)))))))
  refine d_if hF (fun q hF => ?_) (fun q0 hF => ?_)
  · refine dw_ts rfl r_v6 (u := 64) (by rw [q]; rfl) ?_
    exact dw_aln rfl (d_s1 (d_s1 a0 rfl (by decide)) rfl (by decide)) (dw_iln rfl (d_s1 p_lk_s1 rfl (by decide)) (dw_il rfl p_lk_s1 (dw_vC hF rfl (d_vir (n := 3) rfl rfl rfl rfl rfl hH d_c2_0 rfl) rfl rfl rfl (dc := 3) (fun _ _ e => D_X11_pond e hH r_v2 r_v4) (fun v7 s8 h8 hH8 r_v7 hF => dw_rC rfl rfl r_v7 hH8 hF))))
  refine d_if hF (fun q hF => ?_) (fun q1 hF => ?_)
  · refine dw_ts rfl r_v6 (u := 72) (by rw [q]; rfl) ?_
    refine dw_aln rfl (d_s1 (d_s1 a0 rfl (by decide)) rfl (by decide)) (dw_iln rfl (d_s1 p_lk_s1 rfl (by decide)) (dw_il rfl p_lk_s1 (dw_alno rfl (d_s1o (d_s1o a1 (by decide)) (by decide)) (dw_iln rfl (d_s1 (d_s1 a2 rfl (by decide)) rfl (by decide)) (dw_ic rfl (dw_ot3 hF r_x1 (fun b9 r_b9 hF => dw_vP hF rfl (d_virt (n := 3) rfl rfl rfl rfl rfl hH r_b9 rfl) rfl rfl rfl (dc := 0) (fun _ e => D_X7_part e hH r_b9 r_x2 (d_rl rfl)) (fun v10 r_v10 hF => dw_alno rfl (d_s1o (d_s1o a1 (by decide)) (by decide)) (dw_iln rfl (d_s1 (d_s1 a2 rfl (by decide)) rfl (by decide)) (?_))))))))))
    refine dw_ic rfl (dw_ot3 hF r_x1 (fun b11 r_b11 hF => dw_vP hF rfl (d_virt (n := 3) rfl rfl rfl rfl rfl hH r_b11 rfl) rfl rfl rfl (dc := 0) (fun _ e => D_X7_part e hH r_b11 r_x2 (d_rl rfl)) (fun v12 r_v12 hF => dw_alno rfl (d_s1o (d_s1o a1 (by decide)) (by decide)) (dw_iln rfl (d_s1 (d_s1 a2 rfl (by decide)) rfl (by decide)) (dw_ic rfl (dw_ot3 hF r_x1 (fun b13 r_b13 hF => dw_vP hF rfl (d_virt (n := 3) rfl rfl rfl rfl rfl hH r_b13 rfl) rfl rfl rfl (dc := 0) (fun _ e => D_X7_part e hH r_b13 r_x2 (d_rl rfl)) (fun v14 r_v14 hF => dw_alno rfl (d_s1o (d_s1o a1 (by decide)) (by decide)) (dw_iln rfl (d_s1 (d_s1 a2 rfl (by decide)) rfl (by decide)) (?_))))))))))
    refine dw_bp rfl rfl (dw_ot3 hF r_x1 (fun b15 r_b15 hF => dw_vP hF rfl (d_virt (n := 3) rfl rfl rfl rfl rfl hH r_b15 rfl) rfl rfl rfl (dc := 0) (fun _ e => D_X7_part e hH r_b15 r_x2 (d_rl rfl)) (fun v16 r_v16 hF => dw_vI hF rfl (d_vir (n := 7) rfl rfl rfl rfl rfl hH d_c2_0 rfl) rfl rfl rfl (dc := 1) (fun _ _ e => D_X11_sight e hH r_v2 r_v4 r_v10 r_v12 r_v14 r_v16) (fun v17 s18 h18 hH18 r_v17 hF => dw_ic rfl (?_)))))
    refine d_if hF (fun q hF => ?_) (fun q hF => ?_)
    · refine dw_eq_y rfl (u := 112) rfl r_v17 (d_rl rfl) q ?_
      exact dw_ic rfl (dw_rC rfl rfl (Or.inl rfl) hH18 hF)
    · refine dw_eq_n rfl (u := 112) rfl r_v17 (d_rl rfl) q ?_
      exact dw_ic rfl (dw_go rfl (u := 113) rfl (dw_rC rfl rfl (Or.inr rfl) hH18 hF))
  refine d_if hF (fun q hF => ?_) (fun q2 hF => ?_)
  · refine dw_ts rfl r_v6 (u := 114) (by rw [q]; rfl) ?_
    exact dw_aln rfl (d_s1 (d_s1 a0 rfl (by decide)) rfl (by decide)) (dw_iln rfl (d_s1 p_lk_s1 rfl (by decide)) (dw_ic rfl (dw_vC hF rfl (d_vir (n := 3) rfl rfl rfl rfl rfl hH d_c2_0 rfl) rfl rfl rfl (dc := 3) (fun _ _ e => D_X11_sawThrough e hH r_v2 (d_rl rfl)) (fun v19 s20 h20 hH20 r_v19 hF => dw_rC rfl rfl r_v19 hH20 hF))))
  refine d_if hF (fun q hF => ?_) (fun q3 hF => ?_)
  · refine dw_ts rfl r_v6 (u := 121) (by rw [q]; rfl) ?_
    exact dw_aln rfl (d_s1 (d_s1 a0 rfl (by decide)) rfl (by decide)) (dw_iln rfl (d_s1 p_lk_s1 rfl (by decide)) (dw_ic rfl (dw_vC hF rfl (d_vir (n := 3) rfl rfl rfl rfl rfl hH d_c2_0 rfl) rfl rfl rfl (dc := 3) (fun _ _ e => D_X11_sawThrough e hH r_v2 (d_rl rfl)) (fun v21 s22 h22 hH22 r_v21 hF => dw_rC rfl rfl r_v21 hH22 hF))))
  refine d_if hF (fun q hF => ?_) (fun q4 hF => ?_)
  · refine dw_ts rfl r_v6 (u := 142) (by rw [q]; rfl) ?_
    refine dw_aln rfl (d_s1 (d_s1 a0 rfl (by decide)) rfl (by decide)) (dw_iln rfl (d_s1 p_lk_s1 rfl (by decide)) (dw_vI hF rfl (d_vir (n := 2) rfl rfl rfl rfl rfl hH d_c2_0 rfl) rfl rfl rfl (dc := 5) (fun _ _ e => D_X11_sellByHand e hH r_v2) (fun v23 s24 h24 hH24 r_v23 hF => dw_ic rfl (?_))))
    refine d_if hF (fun q hF => ?_) (fun q hF => ?_)
    · refine dw_eq_y rfl (u := 155) rfl r_v23 (d_rl rfl) q ?_
      exact dw_ic rfl (dw_rC rfl rfl (Or.inl rfl) hH24 hF)
    · refine dw_eq_n rfl (u := 155) rfl r_v23 (d_rl rfl) q ?_
      exact dw_ic rfl (dw_go rfl (u := 156) rfl (dw_rC rfl rfl (Or.inr rfl) hH24 hF))
  refine d_if hF (fun q hF => ?_) (fun q5 hF => ?_)
  · refine dw_ts rfl r_v6 (u := 128) (by rw [q]; rfl) ?_
    exact dw_aln rfl (d_s1 (d_s1 a0 rfl (by decide)) rfl (by decide)) (dw_iln rfl (d_s1 p_lk_s1 rfl (by decide)) (dw_il rfl p_lk_s1 (dw_vC hF rfl (d_vir (n := 3) rfl rfl rfl rfl rfl hH d_c2_0 rfl) rfl rfl rfl (dc := 3) (fun _ _ e => D_X11_layByHand e hH r_v2 r_v4) (fun v25 s26 h26 hH26 r_v25 hF => dw_rC rfl rfl r_v25 hH26 hF))))
  refine d_if hF (fun q hF => ?_) (fun q6 hF => ?_)
  · refine dw_ts rfl r_v6 (u := 136) (by rw [q]; rfl) ?_
    exact dw_aln rfl (d_s1 (d_s1 a0 rfl (by decide)) rfl (by decide)) (dw_iln rfl (d_s1 p_lk_s1 rfl (by decide)) (dw_vC hF rfl (d_vir (n := 2) rfl rfl rfl rfl rfl hH d_c2_0 rfl) rfl rfl rfl (dc := 6) (fun _ _ e => D_X11_passDays e hH r_v2) (fun v27 s28 h28 hH28 r_v27 hF => dw_rC rfl rfl r_v27 hH28 hF)))
  refine dw_ts rfl r_v6 (u := 157) (by rw [if_pos (by omega)]; rfl) ?_
  exact dw_ic rfl (dw_rC rfl rfl (Or.inr rfl) hH hF)
set_option maxRecDepth 100000 in
noncomputable def F_X11_played_l18_b (t : Nat → Option p_C) (rec : (Option Nat) → Int → d_S → Option (Int × d_S)) (x2 : Option Nat) (x3 : Int) (s : d_S) : Option (Int × d_S) :=
  d_b x2 (fun b3 => d_b (d_tfi t b3 3) (fun v4 => if x3 < v4 then
  d_b2 (F_X11_perform t s x2 x3) (fun v5 s6 => if v5 = 0 then
  some (x3, s6)
  else
  rec x2 (d_w (x3 + 1)) s6)
  else
  some ((-1), s)))
set_option maxRecDepth 100000 in
noncomputable def F_X11_played_l18 (t : Nat → Option p_C) : Nat → (Option Nat) → Int → d_S → Option (Int × d_S)
  | 0 => fun _ _ _ => none
  | n + 1 => F_X11_played_l18_b t (F_X11_played_l18 t n)
set_option maxRecDepth 100000 in
theorem D_X11_played_l18 {t : Nat → Option p_C} {r : Int × d_S} : ∀ (n : Nat) {x2 : Option Nat} {x3 : Int} {ls : p_Ls} {s : d_S} {h : p_H}, F_X11_played_l18 t n x2 x3 s = some r → d_V t h s → p_lk 0 ls = some (.ref 2) → d_T t x2 → p_lk 2 ls = some (d_pv x2) → d_R x3 → p_lk 3 ls = some (.int (Int32.ofInt x3)) → p_wp p_GT p_MT 8 m_X11_played 18 ls [] h (d_QI t r) := by
  intro n
  induction n with
  | zero =>
    intro x2 x3 ls s h hF hH l0 r_x2 l2 r_x3 l3
    cases (show (none : Option (Int × d_S)) = some r from hF)
  | succ n ih =>
    intro x2 x3 ls s h hF hH l0 r_x2 l2 r_x3 l3
    have hF : F_X11_played_l18_b t (F_X11_played_l18 t n) x2 x3 s = some r := hF
    unfold F_X11_played_l18_b at hF
    refine dw_iln rfl l3 (dw_alno rfl l2 (dw_ot1 hF r_x2 (fun b3 r_b3 hF => dw_tgi hF rfl rfl rfl hH (fun v4 r_v4 hF => ?_))))
    refine d_if hF (fun q hF => ?_) (fun q hF => ?_)
    · refine dw_ge_y rfl (u := 43) rfl r_x3 r_v4 q ?_
      refine dw_aln rfl l0 (dw_alno rfl l2 (dw_iln rfl l3 (dw_vC hF rfl (d_vir (n := 3) rfl rfl (by generalize x2 = e; cases e <;> rfl) rfl rfl hH d_c2_0 rfl) rfl (by generalize x2 = e; cases e <;> rfl) rfl (dc := 7) (fun _ _ e => D_X11_perform e hH r_x2 r_x3) (fun v5 s6 h6 hH6 r_v5 hF => ?_))))
      refine d_if hF (fun q hF => ?_) (fun q hF => ?_)
      · refine dw_zne_y rfl (u := 37) rfl (d_R_b r_v5) q ?_
        exact dw_iln rfl l3 (dw_rI rfl rfl r_x3 hH6 hF)
      · refine dw_zne_n rfl (u := 37) rfl (d_R_b r_v5) q ?_
        refine dw_ii rfl l3 rfl (dw_go rfl (u := 18) rfl (?_))
        exact ih hF hH6 (d_s1 l0 rfl (by decide)) r_x2 (d_s1o l2 (by decide)) d_R_w p_lk_s1
    · refine dw_ge_n rfl (u := 43) rfl r_x3 r_v4 q ?_
      exact dw_ic rfl (dw_rI rfl rfl (d_rl rfl) hH hF)
set_option maxRecDepth 100000 in
noncomputable def F_X11_played (t : Nat → Option p_C) (s : d_S) (x1 : Int) : Option (Int × d_S) :=
  d_b (F_X9_textAt_3 s x1) (fun v1 => match v1 with
  | none =>
  some ((-2), s)
  | some b2 =>
  F_X11_played_l18 t d_N v1 0 s)
set_option maxRecDepth 100000 in
theorem D_X11_played {t : Nat → Option p_C} {h : p_H} {s : d_S} {x1 : Int} {r : Int × d_S} (hF : F_X11_played t s x1 = some r) (hH : d_V t h s) (r_x1 : d_R x1) : p_wp p_GT p_MT 8 m_X11_played 0 (lv_args 0 [.ref 2, .int (Int32.ofInt x1)]) [] h (d_QI t r) := by
  unfold F_X11_played at hF
  refine dw_aln rfl rfl (dw_gr rfl rfl rfl hH d_c2_0 (dw_iln rfl rfl (dw_vO hF rfl (d_vir (n := 2) rfl rfl rfl rfl rfl hH d_c3_0 rfl) rfl rfl rfl (dc := 0) (fun _ e => D_X9_textAt_3 e hH r_x1) (fun v1 r_v1 hF => dw_asno rfl rfl (dw_alno rfl p_lk_s1 (?_))))))
  refine d_ifo (α := Int) hF (fun q hF => ?_) (fun b2 q hF => ?_)
  · refine dw_nnn rfl q ?_
    exact dw_bp rfl rfl (dw_rI rfl rfl (d_rl rfl) hH hF)
  · refine dw_nns rfl (u := 16) rfl q ?_
    refine dw_ic rfl (dw_isn rfl rfl (?_))
    exact D_X11_played_l18 _ hF hH (d_s1 (d_s1 rfl rfl (by decide)) rfl (by decide)) r_v1 (d_s1o p_lk_s1 (by decide)) (d_rl rfl) p_lk_s1

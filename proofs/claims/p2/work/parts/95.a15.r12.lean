set_option maxRecDepth 100000 in
noncomputable def F_X12_whoseLaw_l4_b (rec : Int → Int → d_S → Option (Int × d_S)) (x1 : Int) (x2 : Int) (s : d_S) : Option (Int × d_S) :=
  if x2 < (s.1 65 1) then
  d_b2 (F_X12_isLaw s x2) (fun v1 s2 => if v1 = 0 then
  rec (d_or x1 0) (d_w (x2 + 1)) s2
  else
  rec (d_or x1 (d_shl 1 x2)) (d_w (x2 + 1)) s2)
  else
  some (x1, s)
set_option maxRecDepth 100000 in
noncomputable def F_X12_whoseLaw_l4 : Nat → Int → Int → d_S → Option (Int × d_S)
  | 0 => fun _ _ _ => none
  | n + 1 => F_X12_whoseLaw_l4_b (F_X12_whoseLaw_l4 n)
set_option maxRecDepth 100000 in
theorem D_X12_whoseLaw_l4 {t : Nat → Option p_C} {r : Int × d_S} : ∀ (n : Nat) {x1 : Int} {x2 : Int} {ls : p_Ls} {s : d_S} {h : p_H}, F_X12_whoseLaw_l4 n x1 x2 s = some r → d_V t h s → p_lk 0 ls = some (.ref 64) → d_R x1 → p_lk 1 ls = some (.int (Int32.ofInt x1)) → d_R x2 → p_lk 2 ls = some (.int (Int32.ofInt x2)) → p_wp p_GT p_MT 8 m_X12_whoseLaw 4 ls [] h (d_QI t r) := by
  intro n
  induction n with
  | zero =>
    intro x1 x2 ls s h hF hH l0 r_x1 l1 r_x2 l2
    cases (show (none : Option (Int × d_S)) = some r from hF)
  | succ n ih =>
    intro x1 x2 ls s h hF hH l0 r_x1 l1 r_x2 l2
    have hF : F_X12_whoseLaw_l4_b (F_X12_whoseLaw_l4 n) x1 x2 s = some r := hF
    unfold F_X12_whoseLaw_l4_b at hF
    refine dw_iln rfl l2 (dw_aln rfl l0 (dw_gr rfl rfl rfl hH d_c64_0 (dw_ic rfl (dw_ald rfl hH d_a65 rfl (by decide) (by decide) (d_rl rfl) (k := 1) rfl (?_)))))
    refine d_if hF (fun q hF => ?_) (fun q hF => ?_)
    · refine dw_ge_y rfl (u := 38) rfl r_x2 hH.r q ?_
      refine dw_iln rfl l1 (dw_aln rfl l0 (dw_iln rfl l2 (dw_vC hF rfl (d_vir (n := 2) rfl rfl rfl rfl rfl hH d_c64_0 rfl) rfl rfl rfl (dc := 7) (fun _ _ e => D_X12_isLaw e hH r_x2) (fun v1 s2 h2 hH2 r_v1 hF => ?_))))
      refine d_if hF (fun q hF => ?_) (fun q hF => ?_)
      · refine dw_zeq_y rfl (u := 29) rfl (d_R_b r_v1) q ?_
        refine dw_ic rfl (dw_or rfl (dw_isn rfl rfl (dw_ii rfl (d_s1 l2 rfl (by decide)) rfl (dw_go rfl (u := 4) rfl (?_)))))
        exact ih hF hH2 (d_s1 (d_s1 l0 rfl (by decide)) rfl (by decide)) d_R_t (d_s1 p_lk_s1 rfl (by decide)) d_R_w p_lk_s1
      · refine dw_zeq_n rfl (u := 29) rfl (d_R_b r_v1) q ?_
        refine dw_ic rfl (dw_iln rfl l2 (dw_shl rfl (dw_go rfl (u := 30) rfl (dw_or rfl (dw_isn rfl rfl (dw_ii rfl (d_s1 l2 rfl (by decide)) rfl (dw_go rfl (u := 4) rfl (?_))))))))
        exact ih hF hH2 (d_s1 (d_s1 l0 rfl (by decide)) rfl (by decide)) d_R_t (d_s1 p_lk_s1 rfl (by decide)) d_R_w p_lk_s1
    · refine dw_ge_n rfl (u := 38) rfl r_x2 hH.r q ?_
      exact dw_iln rfl l1 (dw_rI rfl rfl r_x1 hH hF)
set_option maxRecDepth 100000 in
noncomputable def F_X12_whoseLaw (s : d_S) : Option (Int × d_S) :=
  F_X12_whoseLaw_l4 d_N 0 0 s
set_option maxRecDepth 100000 in
theorem D_X12_whoseLaw {t : Nat → Option p_C} {h : p_H} {s : d_S} {r : Int × d_S} (hF : F_X12_whoseLaw s = some r) (hH : d_V t h s) : p_wp p_GT p_MT 8 m_X12_whoseLaw 0 (lv_args 0 [.ref 64]) [] h (d_QI t r) := by
  unfold F_X12_whoseLaw at hF
  refine dw_ic rfl (dw_isn rfl rfl (dw_ic rfl (dw_isn rfl rfl (?_))))
  exact D_X12_whoseLaw_l4 _ hF hH (d_s1 (d_s1 rfl rfl (by decide)) rfl (by decide)) (d_rl rfl) (d_s1 p_lk_s1 rfl (by decide)) (d_rl rfl) p_lk_s1

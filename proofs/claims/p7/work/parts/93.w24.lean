/-! THE REFERENCE READS A CLAUSE, further -/
section RS12
variable {h : p_H} {dd n p w so t0 m on at_ : Nat} {b : Nat → Nat}
theorem s_has1 : ∀ x, x < 8 → ∀ s, s < 3 → ((Int32.ofNat x >>> (Int32.ofNat s &&& 31)) &&& Int32.ofNat 1) = Int32.ofNat (x / 2 ^ s % 2) := by decide +kernel
theorem s_or1 : ∀ x, x < 8 → ∀ s, s < 3 → ¬ x / 2 ^ s % 2 = 1 → (Int32.ofNat x ||| (Int32.ofNat 1 <<< (Int32.ofNat s &&& 31))) = Int32.ofNat (x + 2 ^ s) ∧ x + 2 ^ s < 8 := by decide +kernel
theorem r_has {x s : Nat} (hx : x < 8) (hs : s < 3) : p_wp p_GT p_MT dd m_X12_has 0 (lv_args 0 [.int (Int32.ofNat x), .int (Int32.ofNat s)]) [] h (fun v h2 => v = some (.int (l_b (Nat.beq (x / 2 ^ s % 2) 1))) ∧ h2 = h) := by
  refine w_iload_n rfl rfl (w_iload_n rfl rfl (w_ishr rfl (w_ic 1 rfl rfl (w_iand rfl (w_ic 1 rfl rfl ?_)))))
  rw [s_has1 x hx s hs]
  have h2 : x / 2 ^ s % 2 < 2 := Nat.mod_lt _ (by decide)
  by_cases q : x / 2 ^ s % 2 = 1
  · rw [q]
    exact w_icmp_f rfl (t := 13) rfl (by decide) (w_iconst rfl (w_goto rfl (t := 14) rfl (w_ireturnb rfl rfl rfl ⟨rfl, rfl⟩)))
  · rw [show x / 2 ^ s % 2 = 0 by omega]
    exact w_icmp_t rfl (t := 13) rfl (by decide) (w_iconst rfl (w_ireturnb rfl rfl rfl ⟨rfl, rfl⟩))
theorem r_body3 (hS : r_S0 h b n p w so t0 m on) (hn : n ≤ 300) (hat : t0 < at_) (hat2 : at_ + 7 ≤ 3108) : p_wp p_GT p_MT (dd + 6) m_X12_body 0 (lv_args 0 [.ref 64, .int (Int32.ofNat 3), .int (Int32.ofNat at_)]) [] h (fun v h2 => v = some (.int (Int32.ofNat (t_D b n [(0, 2, 8), (1, 16, 0), (0, 2, 8)] p).1)) ∧ r_S0 h2 b n ((t_D b n [(0, 2, 8), (1, 16, 0), (0, 2, 8)] p).2) w so t0 m on) := by
  have hS' := hS
  obtain ⟨fs, tv, tp, pv, cv, y17, y18, y19, y20, av, y1, e64, fl, f2, f3, f4, ⟨f8, ⟨t, f9, t256, tR⟩, ⟨x10, f10, f10'⟩, ⟨z11, f11, f11'⟩, a7, f7, a7n, a7e⟩, f12, f13, f14, f15, f16, f17, f18, f19, f20, f21, e67, tl, tm, e68, hb, e69, pl, e70, cl, f0, e65, a1⟩ := hS
  refine w_iload_n rfl rfl (w_sw rfl (t := 44) rfl (w_aload_n rfl rfl (w_iload_n rfl rfl (w_virtual (dc := dd + 5) (M' := m_X12_pondClause) rfl (g_vir (n := 2) rfl rfl (by simp [p_cat, p_bd, Value.category]) rfl rfl e64 rfl) rfl rfl (Nat.le_refl _) (r_pond (dd := dd) hS' hn hat hat2) ?_))))
  rintro v h2 ⟨rfl, hS2⟩
  exact w_ireturn rfl rfl ⟨rfl, hS2⟩
theorem r_body4 (hS : r_S0 h b n p w so t0 m on) (hn : n ≤ 300) (hat : t0 < at_) (hat2 : at_ + 7 ≤ 3108) : p_wp p_GT p_MT (dd + 6) m_X12_body 0 (lv_args 0 [.ref 64, .int (Int32.ofNat 4), .int (Int32.ofNat at_)]) [] h (fun v h2 => v = some (.int (Int32.ofNat (t_D b n [(0, 0, 9), (1, 17, 0), (0, 0, 7), (2, 44, 0), (0, 0, 7), (2, 58, 0), (0, 1, 3), (2, 44, 0), (0, 1, 3), (1, 18, 0), (0, 0, 9)] p).1)) ∧ r_S0 h2 b n ((t_D b n [(0, 0, 9), (1, 17, 0), (0, 0, 7), (2, 44, 0), (0, 0, 7), (2, 58, 0), (0, 1, 3), (2, 44, 0), (0, 1, 3), (1, 18, 0), (0, 0, 9)] p).2) w so t0 m on) := by
  have hS' := hS
  obtain ⟨fs, tv, tp, pv, cv, y17, y18, y19, y20, av, y1, e64, fl, f2, f3, f4, ⟨f8, ⟨t, f9, t256, tR⟩, ⟨x10, f10, f10'⟩, ⟨z11, f11, f11'⟩, a7, f7, a7n, a7e⟩, f12, f13, f14, f15, f16, f17, f18, f19, f20, f21, e67, tl, tm, e68, hb, e69, pl, e70, cl, f0, e65, a1⟩ := hS
  refine w_iload_n rfl rfl (w_sw rfl (t := 50) rfl (w_aload_n rfl rfl (w_iload_n rfl rfl (w_virtual (dc := dd + 5) (M' := m_X12_sightClause) rfl (g_vir (n := 2) rfl rfl (by simp [p_cat, p_bd, Value.category]) rfl rfl e64 rfl) rfl rfl (Nat.le_refl _) (r_sight (dd := dd) hS' hn hat hat2) ?_))))
  rintro v h2 ⟨rfl, hS2⟩
  exact w_ireturn rfl rfl ⟨rfl, hS2⟩
theorem r_body5 (hS : r_S0 h b n p w so t0 m on) (hn : n ≤ 300) (hat : t0 < at_) (hat2 : at_ + 7 ≤ 3108) : p_wp p_GT p_MT (dd + 6) m_X12_body 0 (lv_args 0 [.ref 64, .int (Int32.ofNat 5), .int (Int32.ofNat at_)]) [] h (fun v h2 => v = some (.int (Int32.ofNat (t_D b n [(0, 0, 6)] p).1)) ∧ r_S0 h2 b n ((t_D b n [(0, 0, 6)] p).2) w so t0 m on) := by
  have hS' := hS
  obtain ⟨fs, tv, tp, pv, cv, y17, y18, y19, y20, av, y1, e64, fl, f2, f3, f4, ⟨f8, ⟨t, f9, t256, tR⟩, ⟨x10, f10, f10'⟩, ⟨z11, f11, f11'⟩, a7, f7, a7n, a7e⟩, f12, f13, f14, f15, f16, f17, f18, f19, f20, f21, e67, tl, tm, e68, hb, e69, pl, e70, cl, f0, e65, a1⟩ := hS
  refine w_iload_n rfl rfl (w_sw rfl (t := 56) rfl (w_aload_n rfl rfl (w_iload_n rfl rfl (w_ic 1 rfl rfl (w_addN rfl (w_ic 0 rfl rfl (w_bp 6 rfl rfl (w_virtual (dc := dd + 5) (M' := m_X12_figure) rfl (g_vir (n := 4) rfl rfl (by simp [p_cat, p_bd, Value.category]) rfl rfl e64 rfl) rfl rfl (Nat.le_refl _) ((r_figs (dd := dd) (lo := 0) (hi := 6) hS' hn (by omega) (by omega) (by decide) (by decide)).mono (by omega) (fun _ _ q => q)) ?_))))))))
  rintro v h2 ⟨rfl, hS2⟩
  exact w_ireturn rfl rfl ⟨rfl, hS2⟩
theorem r_body6 (hS : r_S0 h b n p w so t0 m on) (hn : n ≤ 300) (hat : t0 < at_) (hat2 : at_ + 7 ≤ 3108) : p_wp p_GT p_MT (dd + 6) m_X12_body 0 (lv_args 0 [.ref 64, .int (Int32.ofNat 6), .int (Int32.ofNat at_)]) [] h (fun v h2 => v = some (.int (Int32.ofNat (t_D b n [(0, 0, 6)] p).1)) ∧ r_S0 h2 b n ((t_D b n [(0, 0, 6)] p).2) w so t0 m on) := by
  have hS' := hS
  obtain ⟨fs, tv, tp, pv, cv, y17, y18, y19, y20, av, y1, e64, fl, f2, f3, f4, ⟨f8, ⟨t, f9, t256, tR⟩, ⟨x10, f10, f10'⟩, ⟨z11, f11, f11'⟩, a7, f7, a7n, a7e⟩, f12, f13, f14, f15, f16, f17, f18, f19, f20, f21, e67, tl, tm, e68, hb, e69, pl, e70, cl, f0, e65, a1⟩ := hS
  refine w_iload_n rfl rfl (w_sw rfl (t := 67) rfl (w_aload_n rfl rfl (w_iload_n rfl rfl (w_ic 1 rfl rfl (w_addN rfl (w_ic 0 rfl rfl (w_bp 6 rfl rfl (w_virtual (dc := dd + 5) (M' := m_X12_figure) rfl (g_vir (n := 4) rfl rfl (by simp [p_cat, p_bd, Value.category]) rfl rfl e64 rfl) rfl rfl (Nat.le_refl _) ((r_figs (dd := dd) (lo := 0) (hi := 6) hS' hn (by omega) (by omega) (by decide) (by decide)).mono (by omega) (fun _ _ q => q)) ?_))))))))
  rintro v h2 ⟨rfl, hS2⟩
  exact w_ireturn rfl rfl ⟨rfl, hS2⟩
theorem r_body7 (hS : r_S0 h b n p w so t0 m on) (hn : n ≤ 300) (hat : t0 < at_) (hat2 : at_ + 7 ≤ 3108) : p_wp p_GT p_MT (dd + 6) m_X12_body 0 (lv_args 0 [.ref 64, .int (Int32.ofNat 9), .int (Int32.ofNat at_)]) [] h (fun v h2 => v = some (.int (Int32.ofNat (t_D b n [(0, 0, 63)] p).1)) ∧ r_S0 h2 b n ((t_D b n [(0, 0, 63)] p).2) w so t0 m on) := by
  have hS' := hS
  obtain ⟨fs, tv, tp, pv, cv, y17, y18, y19, y20, av, y1, e64, fl, f2, f3, f4, ⟨f8, ⟨t, f9, t256, tR⟩, ⟨x10, f10, f10'⟩, ⟨z11, f11, f11'⟩, a7, f7, a7n, a7e⟩, f12, f13, f14, f15, f16, f17, f18, f19, f20, f21, e67, tl, tm, e68, hb, e69, pl, e70, cl, f0, e65, a1⟩ := hS
  refine w_iload_n rfl rfl (w_sw rfl (t := 95) rfl (w_aload_n rfl rfl (w_iload_n rfl rfl (w_ic 1 rfl rfl (w_addN rfl (w_ic 0 rfl rfl (w_bp 63 rfl rfl (w_virtual (dc := dd + 5) (M' := m_X12_figure) rfl (g_vir (n := 4) rfl rfl (by simp [p_cat, p_bd, Value.category]) rfl rfl e64 rfl) rfl rfl (Nat.le_refl _) ((r_figs (dd := dd) (lo := 0) (hi := 63) hS' hn (by omega) (by omega) (by decide) (by decide)).mono (by omega) (fun _ _ q => q)) ?_))))))))
  rintro v h2 ⟨rfl, hS2⟩
  exact w_ireturn rfl rfl ⟨rfl, hS2⟩
theorem r_body8 (hS : r_S0 h b n p w so t0 m on) (hn : n ≤ 300) (hat : t0 < at_) (hat2 : at_ + 7 ≤ 3108) : p_wp p_GT p_MT (dd + 6) m_X12_body 0 (lv_args 0 [.ref 64, .int (Int32.ofNat 7), .int (Int32.ofNat at_)]) [] h (fun v h2 => v = some (.int (Int32.ofNat (t_D b n [(0, 1, 9), (1, 19, 0), (0, 0, 63)] p).1)) ∧ r_S0 h2 b n ((t_D b n [(0, 1, 9), (1, 19, 0), (0, 0, 63)] p).2) w so t0 m on) := by
  have hS' := hS
  obtain ⟨fs, tv, tp, pv, cv, y17, y18, y19, y20, av, y1, e64, fl, f2, f3, f4, ⟨f8, ⟨t, f9, t256, tR⟩, ⟨x10, f10, f10'⟩, ⟨z11, f11, f11'⟩, a7, f7, a7n, a7e⟩, f12, f13, f14, f15, f16, f17, f18, f19, f20, f21, e67, tl, tm, e68, hb, e69, pl, e70, cl, f0, e65, a1⟩ := hS
  refine w_iload_n rfl rfl (w_sw rfl (t := 78) rfl (w_aload_n rfl rfl (w_iload_n rfl rfl (w_virtual (dc := dd + 5) (M' := m_X12_strawClause) rfl (g_vir (n := 2) rfl rfl (by simp [p_cat, p_bd, Value.category]) rfl rfl e64 rfl) rfl rfl (Nat.le_refl _) (r_straw (dd := dd) hS' hn hat hat2) ?_))))
  rintro v h2 ⟨rfl, hS2⟩
  exact w_ireturn rfl rfl ⟨rfl, hS2⟩
theorem r_body9 (hS : r_S0 h b n p w so t0 m on) (hn : n ≤ 300) (hat : t0 < at_) (hat2 : at_ + 7 ≤ 3108) : p_wp p_GT p_MT (dd + 6) m_X12_body 0 (lv_args 0 [.ref 64, .int (Int32.ofNat 8), .int (Int32.ofNat at_)]) [] h (fun v h2 => v = some (.int (Int32.ofNat (t_D b n [(0, 1, 60)] p).1)) ∧ r_S0 h2 b n ((t_D b n [(0, 1, 60)] p).2) w so t0 m on) := by
  have hS' := hS
  obtain ⟨fs, tv, tp, pv, cv, y17, y18, y19, y20, av, y1, e64, fl, f2, f3, f4, ⟨f8, ⟨t, f9, t256, tR⟩, ⟨x10, f10, f10'⟩, ⟨z11, f11, f11'⟩, a7, f7, a7n, a7e⟩, f12, f13, f14, f15, f16, f17, f18, f19, f20, f21, e67, tl, tm, e68, hb, e69, pl, e70, cl, f0, e65, a1⟩ := hS
  refine w_iload_n rfl rfl (w_sw rfl (t := 84) rfl (w_aload_n rfl rfl (w_iload_n rfl rfl (w_ic 1 rfl rfl (w_addN rfl (w_ic 1 rfl rfl (w_bp 60 rfl rfl (w_virtual (dc := dd + 5) (M' := m_X12_figure) rfl (g_vir (n := 4) rfl rfl (by simp [p_cat, p_bd, Value.category]) rfl rfl e64 rfl) rfl rfl (Nat.le_refl _) ((r_figs (dd := dd) (lo := 1) (hi := 60) hS' hn (by omega) (by omega) (by decide) (by decide)).mono (by omega) (fun _ _ q => q)) ?_))))))))
  rintro v h2 ⟨rfl, hS2⟩
  exact w_ireturn rfl rfl ⟨rfl, hS2⟩
theorem r_body0 (hS : r_S0 h b n p w so t0 m on) {r : Nat × Nat} (hn : n ≤ 300) (hso : so < 100) (ht : t0 ≤ 2331) (hp : p ≤ n) (hw : w ≤ p + 3) (hat : t0 < at_) (hat2 : at_ + 7 ≤ 3108) (hr : t_P b n (Nat.beq so 1) 4000 2 0 0 p = r) : p_wp p_GT p_MT (dd + 12) m_X12_body 0 (lv_args 0 [.ref 64, .int (Int32.ofNat 0), .int (Int32.ofNat at_)]) [] h (fun v h2 => v = some (.int (Int32.ofNat r.1)) ∧ ∃ w2 : Nat, r_S0 h2 b n r.2 w2 so t0 m on ∧ (r.1 = 0 → w2 ≤ r.2 + 3 ∧ p < r.2 ∧ r.2 ≤ n)) := by
  have hS' := hS
  obtain ⟨fs, tv, tp, pv, cv, y17, y18, y19, y20, av, y1, e64, fl, f2, f3, f4, ⟨f8, ⟨t, f9, t256, tR⟩, ⟨x10, f10, f10'⟩, ⟨z11, f11, f11'⟩, a7, f7, a7n, a7e⟩, f12, f13, f14, f15, f16, f17, f18, f19, f20, f21, e67, tl, tm, e68, hb, e69, pl, e70, cl, f0, e65, a1⟩ := hS
  refine w_iload_n rfl rfl (w_sw rfl (t := 106) rfl (w_aload_n rfl rfl (w_iload_n rfl rfl (w_virtual (dc := dd + 11) (M' := m_X12_lawClause) rfl (g_vir (n := 2) rfl rfl (by simp [p_cat, p_bd, Value.category]) rfl rfl e64 rfl) rfl rfl (Nat.le_refl _) (r_lawc (dd := dd) hS' hn hso ht hp hw hat hat2 hr) ?_))))
  rintro v h2 ⟨rfl, hS2⟩
  exact w_ireturn rfl rfl ⟨rfl, hS2⟩
theorem r_body1 (hS : r_S0 h b n p w so t0 m on) {r : Nat × Nat} (hn : n ≤ 300) (hso : so < 100) (ht : t0 ≤ 2331) (hp : p ≤ n) (hw : w ≤ p + 3) (hat : t0 < at_) (hat2 : at_ + 7 ≤ 3108) (hr : t_P b n (Nat.beq so 1) 4000 2 0 0 p = r) : p_wp p_GT p_MT (dd + 12) m_X12_body 0 (lv_args 0 [.ref 64, .int (Int32.ofNat 1), .int (Int32.ofNat at_)]) [] h (fun v h2 => v = some (.int (Int32.ofNat r.1)) ∧ ∃ w2 : Nat, r_S0 h2 b n r.2 w2 so t0 m on ∧ (r.1 = 0 → w2 ≤ r.2 + 3 ∧ p < r.2 ∧ r.2 ≤ n)) := by
  have hS' := hS
  obtain ⟨fs, tv, tp, pv, cv, y17, y18, y19, y20, av, y1, e64, fl, f2, f3, f4, ⟨f8, ⟨t, f9, t256, tR⟩, ⟨x10, f10, f10'⟩, ⟨z11, f11, f11'⟩, a7, f7, a7n, a7e⟩, f12, f13, f14, f15, f16, f17, f18, f19, f20, f21, e67, tl, tm, e68, hb, e69, pl, e70, cl, f0, e65, a1⟩ := hS
  refine w_iload_n rfl rfl (w_sw rfl (t := 106) rfl (w_aload_n rfl rfl (w_iload_n rfl rfl (w_virtual (dc := dd + 11) (M' := m_X12_lawClause) rfl (g_vir (n := 2) rfl rfl (by simp [p_cat, p_bd, Value.category]) rfl rfl e64 rfl) rfl rfl (Nat.le_refl _) (r_lawc (dd := dd) hS' hn hso ht hp hw hat hat2 hr) ?_))))
  rintro v h2 ⟨rfl, hS2⟩
  exact w_ireturn rfl rfl ⟨rfl, hS2⟩
theorem r_body2 (hS : r_S0 h b n p w so t0 m on) {r : Nat × Nat} (hn : n ≤ 300) (hso : so < 100) (ht : t0 ≤ 2331) (hp : p ≤ n) (hw : w ≤ p + 3) (hat : t0 < at_) (hat2 : at_ + 7 ≤ 3108) (hr : t_P b n (Nat.beq so 1) 4000 2 0 0 p = r) : p_wp p_GT p_MT (dd + 12) m_X12_body 0 (lv_args 0 [.ref 64, .int (Int32.ofNat 2), .int (Int32.ofNat at_)]) [] h (fun v h2 => v = some (.int (Int32.ofNat r.1)) ∧ ∃ w2 : Nat, r_S0 h2 b n r.2 w2 so t0 m on ∧ (r.1 = 0 → w2 ≤ r.2 + 3 ∧ p < r.2 ∧ r.2 ≤ n)) := by
  have hS' := hS
  obtain ⟨fs, tv, tp, pv, cv, y17, y18, y19, y20, av, y1, e64, fl, f2, f3, f4, ⟨f8, ⟨t, f9, t256, tR⟩, ⟨x10, f10, f10'⟩, ⟨z11, f11, f11'⟩, a7, f7, a7n, a7e⟩, f12, f13, f14, f15, f16, f17, f18, f19, f20, f21, e67, tl, tm, e68, hb, e69, pl, e70, cl, f0, e65, a1⟩ := hS
  refine w_iload_n rfl rfl (w_sw rfl (t := 106) rfl (w_aload_n rfl rfl (w_iload_n rfl rfl (w_virtual (dc := dd + 11) (M' := m_X12_lawClause) rfl (g_vir (n := 2) rfl rfl (by simp [p_cat, p_bd, Value.category]) rfl rfl e64 rfl) rfl rfl (Nat.le_refl _) (r_lawc (dd := dd) hS' hn hso ht hp hw hat hat2 hr) ?_))))
  rintro v h2 ⟨rfl, hS2⟩
  exact w_ireturn rfl rfl ⟨rfl, hS2⟩
/-- what stands behind the word of a clause of sort w -/
def t_cs (b : Nat → Nat) (n w p : Nat) : Nat × Nat := if w < 3 then t_P b n (Nat.beq w 1) 4000 2 0 0 (t_x b n p) else t_D b n (t_dd w) (t_x b n p)
theorem t_cl_w {w : Nat} (hcw : t_cw b n p = w) : t_cl b n m on p = (if w = 10 then (1, p) else if w < 3 ∧ on / 2 ^ w % 2 = 1 then (4, p) else if m = 24 then (6, p) else (if (t_cs b n w p).1 ≠ 0 then t_cs b n w p else if t_is b n (t_cs b n w p).2 59 = true then (0, t_x b n (t_cs b n w p).2) else (1, (t_cs b n w p).2))) := by
  subst hcw
  rfl
theorem t_cw_le : t_cw b n p ≤ 10 := by unfold t_cw; (repeat' split) <;> decide
theorem t_cw_k (h : t_cw b n p ≠ 10) : t_k b n p = 1 := by
  by_cases q : t_k b n p = 1
  · exact q
  · refine absurd ?_ h
    have no : ∀ k, t_wd b n p k = false := fun k => Bool.eq_false_iff.mpr (fun e => q (t_wd_iff.mp e).1)
    unfold t_cw
    rw [no, no, no, no, no, no, no, no, no, no]
    rfl
theorem t_cw_lt (h : t_cw b n p ≠ 10) : p < n := t_k_lt (by rw [t_cw_k h]; decide)
end RS12

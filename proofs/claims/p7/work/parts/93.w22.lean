/-! THE REFERENCE READS: clauses -/
section RDD
variable {b : Nat → Nat} {n : Nat}
theorem t_D_app (A B : List (Nat × Nat × Nat)) : ∀ p, t_D b n (A ++ B) p = if (t_D b n A p).1 ≠ 0 then t_D b n A p else t_D b n B (t_D b n A p).2 := by
  induction A with
  | nil => intro p; try rfl
  | cons s A ih =>
    intro p
    simp only [List.cons_append, t_D]
    by_cases q0 : s.1 = 0
    · simp only [if_pos q0]
      by_cases q1 : t_k b n p ≠ 2
      · simp only [if_pos q1]; try rfl
      · simp only [if_neg q1]
        by_cases q2 : t_n b n p < s.2.1 ∨ s.2.2 < t_n b n p
        · simp only [if_pos q2]; try rfl
        · simp only [if_neg q2]; exact ih _
    · simp only [if_neg q0]
      by_cases q1 : s.1 = 1
      · simp only [if_pos q1]
        by_cases q2 : t_wd b n p s.2.1 = true
        · simp only [if_pos q2]; exact ih _
        · simp only [if_neg q2]; try rfl
      · simp only [if_neg q1]
        by_cases q2 : t_is b n p s.2.1 = true
        · simp only [if_pos q2]; exact ih _
        · simp only [if_neg q2]; try rfl
theorem t_D_le (A : List (Nat × Nat × Nat)) : ∀ p, p ≤ n → p ≤ (t_D b n A p).2 ∧ (t_D b n A p).2 ≤ n := by
  induction A with
  | nil => intro p h; exact ⟨Nat.le_refl _, h⟩
  | cons s A ih =>
    intro p h
    simp only [t_D]
    have nx : p < n → p ≤ (t_D b n A (t_x b n p)).2 ∧ (t_D b n A (t_x b n p)).2 ≤ n := fun hp => by
      have hx := t_x_lt (b := b) hp
      have := ih _ hx.2
      omega
    by_cases q0 : s.1 = 0
    · rw [if_pos q0]
      by_cases q1 : t_k b n p ≠ 2
      · rw [if_pos q1]; exact ⟨Nat.le_refl _, h⟩
      · rw [if_neg q1]
        by_cases q2 : t_n b n p < s.2.1 ∨ s.2.2 < t_n b n p
        · rw [if_pos q2]; exact ⟨Nat.le_refl _, h⟩
        · rw [if_neg q2]; exact nx (t_k_lt (b := b) (by omega))
    · rw [if_neg q0]
      by_cases q1 : s.1 = 1
      · rw [if_pos q1]
        by_cases q2 : t_wd b n p s.2.1 = true
        · rw [if_pos q2]; exact nx (t_wd_lt q2)
        · rw [if_neg q2]; exact ⟨Nat.le_refl _, h⟩
      · rw [if_neg q1]
        by_cases q2 : t_is b n p s.2.1 = true
        · rw [if_pos q2]; exact nx (t_is_lt q2)
        · rw [if_neg q2]; exact ⟨Nat.le_refl _, h⟩
end RDD
section RS11
variable {h : p_H} {dd n p w so t0 m on at_ lo hi : Nat} {b : Nat → Nat}
set_option maxRecDepth 100000 in
theorem r_figs (hS : r_S0 h b n p w so t0 m on) (hn : n ≤ 300) (hat : t0 < at_) (hat2 : at_ < 3108) (hhi : hi < 100) (hlo : lo < 100) : p_wp p_GT p_MT (dd + 2) m_X12_figure 0 (lv_args 0 [.ref 64, .int (Int32.ofNat at_), .int (Int32.ofNat lo), .int (Int32.ofNat hi)]) [] h (fun v h2 => v = some (.int (Int32.ofNat (t_D b n [(0, lo, hi)] p).1)) ∧ r_S0 h2 b n ((t_D b n [(0, lo, hi)] p).2) w so t0 m on) := by
  have hS' := hS
  obtain ⟨fs, tv, tp, pv, cv, y17, y18, y19, y20, av, y1, e64, fl, f2, f3, f4, ⟨f8, ⟨t, f9, t256, tR⟩, ⟨x10, f10, f10'⟩, ⟨z11, f11, f11'⟩, a7, f7, a7n, a7e⟩, f12, f13, f14, f15, f16, f17, f18, f19, f20, f21, e67, tl, tm, e68, hb, e69, pl, e70, cl, f0, e65, a1⟩ := hS
  have eD : t_D b n [(0, lo, hi)] p = (if t_k b n p ≠ 2 then (1, p) else if t_n b n p < lo ∨ hi < t_n b n p then (2, p) else (0, t_x b n p)) := rfl
  rw [eD]
  by_cases q0 : t_k b n p = 2
  · have e1 : t = 1 := tR.2.1.mpr q0
    have ex := f10' q0
    subst ex
    have hb6 := t_n_le (b := b) (n := n) (p := p)
    rw [if_neg (fun q => q q0)]
    refine w_aload_n rfl rfl (w_getf rfl rfl e64 f9 (w_ic 1 rfl rfl (w_icmp_t rfl (t := 10) rfl (by rw [e1]; decide) (w_aload_n rfl rfl (w_getf rfl rfl e64 f10 (w_iload_n rfl rfl (w_iload_n rfl rfl (w_static (nn := 0) (dc := dd + 1) (M' := m_X12_isIn) rfl rfl rfl rfl (Nat.le_refl _) b_isIn ?_))))))))
    rintro v h2 ⟨rfl, rfl⟩
    by_cases q1 : t_n b n p < lo ∨ hi < t_n b n p
    · rw [if_pos q1, if_neg (by rw [Int32.le_iff_toInt_le, Int32.le_iff_toInt_le, r_big hb6, g_ofNat (by omega), g_ofNat (by omega)]; omega)]
      exact w_ifc_f rfl (t := 24) rfl (by decide) (w_ic 2 rfl rfl (w_ireturn rfl rfl ⟨rfl, hS'⟩))
    · rw [if_neg q1, if_pos (by rw [Int32.le_iff_toInt_le, Int32.le_iff_toInt_le, r_big hb6, g_ofNat (by omega), g_ofNat (by omega)]; omega)]
      refine w_ifc_t rfl (t := 24) rfl (by decide) (w_aload_n rfl rfl (w_getf rfl rfl e64 f2 (w_iload_n rfl rfl (w_aload_n rfl rfl (w_getf rfl rfl e64 f10 (w_st rfl e67 (by omega) (by omega) ?_))))))
      refine w_use (X := fun h => r_S0 h b n p w so t0 m on) ⟨_, _, _, _, _, _, _, _, _, _, _, (a_ga (by decide) e64), (by first | exact fl | (simp only [List.length_set]; exact fl)), f2, f3, f4, ⟨f8, ⟨t, f9, t256, tR⟩, ⟨_, f10, f10'⟩, ⟨_, f11, f11'⟩, a7, f7, a7n, a7e⟩, f12, f13, f14, f15, f16, f17, f18, f19, f20, f21, (a_gs e67), (by first | exact tl | (simp only [List.length_set]; exact tl)), (by rw [List.getElem?_set_ne (by omega)]; exact tm), (a_ga (by decide) e68), hb, (a_ga (by decide) e69), (by first | exact pl | (simp only [List.length_set]; exact pl)), (a_ga (by decide) e70), (by first | exact cl | (simp only [List.length_set]; exact cl)), f0, (a_ga (by decide) e65), a1⟩ (fun hS2 => ?_)
      refine w_aload_n rfl rfl (w_virtual (dc := dd + 1) (M' := m_X12_nextToken) rfl (g_vir (n := 1) rfl rfl (by simp [p_cat, p_bd, Value.category]) rfl rfl (a_ga (by decide) e64) rfl) rfl rfl (Nat.le_refl _) (r_next0 (dd := dd) hS2 hn (t_nb (b := b) (by omega))) ?_)
      rintro v h3 ⟨rfl, hS3⟩
      exact w_ic 0 rfl rfl (w_ireturn rfl rfl ⟨rfl, hS3⟩)
  · rw [if_pos q0]
    have e1 : ¬ t = 1 := fun e => q0 (tR.2.1.mp e)
    exact w_aload_n rfl rfl (w_getf rfl rfl e64 f9 (w_ic 1 rfl rfl (w_icmp_f rfl (t := 10) rfl (by simp only [p_cd, decide_eq_false_iff_not]; exact b_ofNat_ne (by omega) (by omega) e1) (w_ic 1 rfl rfl (w_ireturn rfl rfl ⟨rfl, hS'⟩)))))
theorem r_wrd (hS : r_S0 h b n p w so t0 m on) (hn : n ≤ 300) (hat : t0 < at_) (hat2 : at_ < 3108) (hhi : hi < 100) (hlo : lo < 100) {k c : Nat} (hc : c = t_Wn.getD k 0) (hk : k < 22) : p_wp p_GT p_MT (dd + 3) m_X12_worded 0 (lv_args 0 [.ref 64, .long (Int64.ofNat c), .int (Int32.ofNat at_), .int (Int32.ofNat lo), .int (Int32.ofNat hi)]) [] h (fun v h2 => v = some (.int (Int32.ofNat (t_D b n [(1, k, 0), (0, lo, hi)] p).1)) ∧ r_S0 h2 b n ((t_D b n [(1, k, 0), (0, lo, hi)] p).2) w so t0 m on) := by
  have hS' := hS
  obtain ⟨fs, tv, tp, pv, cv, y17, y18, y19, y20, av, y1, e64, fl, f2, f3, f4, ⟨f8, ⟨t, f9, t256, tR⟩, ⟨x10, f10, f10'⟩, ⟨z11, f11, f11'⟩, a7, f7, a7n, a7e⟩, f12, f13, f14, f15, f16, f17, f18, f19, f20, f21, e67, tl, tm, e68, hb, e69, pl, e70, cl, f0, e65, a1⟩ := hS
  have eD : t_D b n [(1, k, 0), (0, lo, hi)] p = (if t_wd b n p k = true then t_D b n [(0, lo, hi)] (t_x b n p) else (1, p)) := rfl
  rw [eD]
  refine w_aload_n rfl rfl (w_lload_n rfl rfl (w_virtual (dc := dd + 2) (M' := m_X12_isWord) rfl (g_vir (n := 2) rfl rfl (by simp [p_cat, p_bd, Value.category]) rfl rfl e64 rfl) rfl rfl (Nat.le_refl _) (r_isw0 (k := k) (c := c) hS' hc hk) ?_))
  rintro v h2 ⟨rfl, rfl⟩
  cases q0 : t_wd b n p k with
  | true =>
    rw [if_pos rfl]
    have hk1 := (t_wd_iff.mp q0).1
    refine w_ifc_t rfl (t := 10) rfl (by decide) (w_aload_n rfl rfl (w_virtual (dc := dd + 2) (M' := m_X12_nextToken) rfl (g_vir (n := 1) rfl rfl (by simp [p_cat, p_bd, Value.category]) rfl rfl e64 rfl) rfl rfl (Nat.le_refl _) ((r_next0 (dd := dd) hS' hn (t_nb (b := b) (by omega))).mono (by omega) (fun _ _ q => q)) ?_))
    rintro v h2 ⟨rfl, hS2⟩
    have hS2' := hS2
    obtain ⟨fs2, tv2, tp2, pv2, cv2, y172, y182, y192, y202, av2, y12, e642, fl2, f22, f32, f42, ⟨f82, ⟨t2, f92, t2562, tR2⟩, ⟨x102, f102, f10'2⟩, ⟨z112, f112, f11'2⟩, a72, f72, a7n2, a7e2⟩, f122, f132, f142, f152, f162, f172, f182, f192, f202, f212, e672, tl2, tm2, e682, hb2, e692, pl2, e702, cl2, f02, e652, a12⟩ := hS2
    refine w_aload_n rfl rfl (w_iload_n rfl rfl (w_iload rfl rfl (w_iload rfl rfl (w_virtual (dc := dd + 2) (M' := m_X12_figure) rfl (g_vir (n := 4) rfl rfl (by simp [p_cat, p_bd, Value.category]) rfl rfl e642 rfl) rfl rfl (Nat.le_refl _) (r_figs (dd := dd) hS2' hn hat hat2 hhi hlo) ?_))))
    rintro v h3 ⟨rfl, hS3⟩
    exact w_ireturn rfl rfl ⟨rfl, hS3⟩
  | false =>
    rw [if_neg (by decide)]
    exact w_ifc_f rfl (t := 10) rfl (by decide) (w_ic 1 rfl rfl (w_ireturn rfl rfl ⟨rfl, hS'⟩))
theorem r_sgns (hS : r_S0 h b n p w so t0 m on) (hn : n ≤ 300) (hat : t0 < at_) (hat2 : at_ < 3108) (hhi : hi < 100) (hlo : lo < 100) {c : Nat} (hc : c = 44 ∨ c = 58) : p_wp p_GT p_MT (dd + 3) m_X12_signed 0 (lv_args 0 [.ref 64, .int (Int32.ofNat c), .int (Int32.ofNat at_), .int (Int32.ofNat lo), .int (Int32.ofNat hi)]) [] h (fun v h2 => v = some (.int (Int32.ofNat (t_D b n [(2, c, 0), (0, lo, hi)] p).1)) ∧ r_S0 h2 b n ((t_D b n [(2, c, 0), (0, lo, hi)] p).2) w so t0 m on) := by
  have hS' := hS
  obtain ⟨fs, tv, tp, pv, cv, y17, y18, y19, y20, av, y1, e64, fl, f2, f3, f4, ⟨f8, ⟨t, f9, t256, tR⟩, ⟨x10, f10, f10'⟩, ⟨z11, f11, f11'⟩, a7, f7, a7n, a7e⟩, f12, f13, f14, f15, f16, f17, f18, f19, f20, f21, e67, tl, tm, e68, hb, e69, pl, e70, cl, f0, e65, a1⟩ := hS
  have eD : t_D b n [(2, c, 0), (0, lo, hi)] p = (if t_is b n p c = true then t_D b n [(0, lo, hi)] (t_x b n p) else (1, p)) := rfl
  rw [eD]
  refine w_aload_n rfl rfl (w_getf rfl rfl e64 f9 (w_iload_n rfl rfl ?_))
  have hcc : t = c ↔ t_is b n p c = true := by rw [t_is_iff]; exact tR.2.2.2 c (by omega)
  cases q0 : t_is b n p c with
  | true =>
    rw [if_pos rfl]
    have et := hcc.mpr q0
    refine w_icmp_t rfl (t := 10) rfl (by rw [et]; simp [p_cd]) (w_aload_n rfl rfl (w_virtual (dc := dd + 2) (M' := m_X12_nextToken) rfl (g_vir (n := 1) rfl rfl (by simp [p_cat, p_bd, Value.category]) rfl rfl e64 rfl) rfl rfl (Nat.le_refl _) ((r_next0 (dd := dd) hS' hn (t_nb2 q0 (by omega) (by omega))).mono (by omega) (fun _ _ q => q)) ?_))
    rintro v h2 ⟨rfl, hS2⟩
    have hS2' := hS2
    obtain ⟨fs2, tv2, tp2, pv2, cv2, y172, y182, y192, y202, av2, y12, e642, fl2, f22, f32, f42, ⟨f82, ⟨t2, f92, t2562, tR2⟩, ⟨x102, f102, f10'2⟩, ⟨z112, f112, f11'2⟩, a72, f72, a7n2, a7e2⟩, f122, f132, f142, f152, f162, f172, f182, f192, f202, f212, e672, tl2, tm2, e682, hb2, e692, pl2, e702, cl2, f02, e652, a12⟩ := hS2
    refine w_aload_n rfl rfl (w_iload_n rfl rfl (w_iload_n rfl rfl (w_iload rfl rfl (w_virtual (dc := dd + 2) (M' := m_X12_figure) rfl (g_vir (n := 4) rfl rfl (by simp [p_cat, p_bd, Value.category]) rfl rfl e642 rfl) rfl rfl (Nat.le_refl _) (r_figs (dd := dd) hS2' hn hat hat2 hhi hlo) ?_))))
    rintro v h3 ⟨rfl, hS3⟩
    exact w_ireturn rfl rfl ⟨rfl, hS3⟩
  | false =>
    rw [if_neg (by decide)]
    have et : ¬ t = c := fun e => by rw [hcc.mp e] at q0; cases q0
    exact w_icmp_f rfl (t := 10) rfl (by simp only [p_cd, decide_eq_false_iff_not]; exact b_ofNat_ne (by omega) (by omega) et) (w_ic 1 rfl rfl (w_ireturn rfl rfl ⟨rfl, hS'⟩))
theorem t_D_100 {b : Nat → Nat} {n : Nat} {A : List (Nat × Nat × Nat)} : ∀ {p : Nat}, (t_D b n A p).1 < 100000 := by
  induction A with
  | nil => intro p; exact (by decide : (0 : Nat) < 100000)
  | cons s A ih =>
    intro p
    simp only [t_D]
    (repeat' split) <;> first | exact ih | decide | simp
set_option maxRecDepth 100000 in
theorem r_pond (hS : r_S0 h b n p w so t0 m on) (hn : n ≤ 300) (hat : t0 < at_) (hat2 : at_ + 7 ≤ 3108) : p_wp p_GT p_MT (dd + 5) m_X12_pondClause 0 (lv_args 0 [.ref 64, .int (Int32.ofNat at_)]) [] h (fun v h2 => v = some (.int (Int32.ofNat (t_D b n [(0, 2, 8), (1, 16, 0), (0, 2, 8)] p).1)) ∧ r_S0 h2 b n ((t_D b n [(0, 2, 8), (1, 16, 0), (0, 2, 8)] p).2) w so t0 m on) := by
  have hS' := hS
  obtain ⟨fs, tv, tp, pv, cv, y17, y18, y19, y20, av, y1, e64, fl, f2, f3, f4, ⟨f8, ⟨t, f9, t256, tR⟩, ⟨x10, f10, f10'⟩, ⟨z11, f11, f11'⟩, a7, f7, a7n, a7e⟩, f12, f13, f14, f15, f16, f17, f18, f19, f20, f21, e67, tl, tm, e68, hb, e69, pl, e70, cl, f0, e65, a1⟩ := hS
  rw [show t_D b n [(0, 2, 8), (1, 16, 0), (0, 2, 8)] p = _ from t_D_app [(0, 2, 8)] [(1, 16, 0), (0, 2, 8)] p]
  refine w_aload_n rfl rfl (w_iload_n rfl rfl (w_ic 1 rfl rfl (w_addN rfl (w_ic 2 rfl rfl (w_bp 8 rfl rfl (w_virtual (dc := dd + 4) (M' := m_X12_figure) rfl (g_vir (n := 4) rfl rfl (by simp [p_cat, p_bd, Value.category]) rfl rfl e64 rfl) rfl rfl (Nat.le_refl _) ((r_figs (dd := dd) (lo := 2) (hi := 8) hS' hn (by omega) (by omega) (by decide) (by decide)).mono (by omega) (fun _ _ q => q)) ?_))))))
  rintro v h2 ⟨rfl, hS2⟩
  refine w_istore_n rfl (by decide) (w_iload_n rfl p_lk_s1 ?_)
  by_cases e2 : (t_D b n [(0, 2, 8)] p).1 = 0
  · rw [if_neg (fun q => q e2), e2]
    have hS2' := hS2
    obtain ⟨fs2, tv2, tp2, pv2, cv2, y172, y182, y192, y202, av2, y12, e642, fl2, f22, f32, f42, ⟨f82, ⟨t2, f92, t2562, tR2⟩, ⟨x102, f102, f10'2⟩, ⟨z112, f112, f11'2⟩, a72, f72, a7n2, a7e2⟩, f122, f132, f142, f152, f162, f172, f182, f192, f202, f212, e672, tl2, tm2, e682, hb2, e692, pl2, e702, cl2, f02, e652, a12⟩ := hS2'
    refine w_ifc_t rfl (t := 19) rfl (by decide) (w_aload_n rfl (w_s1 rfl rfl (by decide)) (w_bp 98 rfl rfl (w_bp 121 rfl rfl (w_static (nn := 0) (dc := dd + 4) (M' := m_X12_w2) rfl rfl rfl rfl (Nat.le_refl _) (r_w2 (by decide) (by decide)) ?_))))
    rintro v h2 ⟨rfl, rfl⟩
    refine w_iload_n rfl (w_s1 rfl rfl (by decide)) (w_ic 2 rfl rfl (w_addN rfl (w_ic 2 rfl rfl (w_bp 8 rfl rfl (w_virtual (dc := dd + 4) (M' := m_X12_worded) rfl (g_vir (n := 5) rfl rfl (by simp [p_cat, p_bd, Value.category]) rfl rfl e642 rfl) rfl rfl (Nat.le_refl _) ((r_wrd (dd := dd) (lo := 2) (hi := 8) (k := 16) (c := 25209) hS2 hn (by omega) (by omega) (by decide) (by decide) (by decide) (by decide)).mono (by omega) (fun _ _ q => q)) ?_)))))
    rintro v h3 ⟨rfl, hS3⟩
    exact w_ireturn rfl rfl ⟨rfl, hS3⟩
  · rw [if_pos e2]
    exact w_ifc_f rfl (t := 19) rfl (by simp only [p_cd, decide_eq_false_iff_not]; exact b_ofNat_ne (b := 0) t_D_100 (by omega) e2) (w_iload_n rfl p_lk_s1 (w_goto rfl (t := 36) rfl (w_ireturn rfl rfl ⟨rfl, hS2⟩)))
set_option maxRecDepth 100000 in
theorem r_straw (hS : r_S0 h b n p w so t0 m on) (hn : n ≤ 300) (hat : t0 < at_) (hat2 : at_ + 7 ≤ 3108) : p_wp p_GT p_MT (dd + 5) m_X12_strawClause 0 (lv_args 0 [.ref 64, .int (Int32.ofNat at_)]) [] h (fun v h2 => v = some (.int (Int32.ofNat (t_D b n [(0, 1, 9), (1, 19, 0), (0, 0, 63)] p).1)) ∧ r_S0 h2 b n ((t_D b n [(0, 1, 9), (1, 19, 0), (0, 0, 63)] p).2) w so t0 m on) := by
  have hS' := hS
  obtain ⟨fs, tv, tp, pv, cv, y17, y18, y19, y20, av, y1, e64, fl, f2, f3, f4, ⟨f8, ⟨t, f9, t256, tR⟩, ⟨x10, f10, f10'⟩, ⟨z11, f11, f11'⟩, a7, f7, a7n, a7e⟩, f12, f13, f14, f15, f16, f17, f18, f19, f20, f21, e67, tl, tm, e68, hb, e69, pl, e70, cl, f0, e65, a1⟩ := hS
  rw [show t_D b n [(0, 1, 9), (1, 19, 0), (0, 0, 63)] p = _ from t_D_app [(0, 1, 9)] [(1, 19, 0), (0, 0, 63)] p]
  refine w_aload_n rfl rfl (w_iload_n rfl rfl (w_ic 1 rfl rfl (w_addN rfl (w_ic 1 rfl rfl (w_bp 9 rfl rfl (w_virtual (dc := dd + 4) (M' := m_X12_figure) rfl (g_vir (n := 4) rfl rfl (by simp [p_cat, p_bd, Value.category]) rfl rfl e64 rfl) rfl rfl (Nat.le_refl _) ((r_figs (dd := dd) (lo := 1) (hi := 9) hS' hn (by omega) (by omega) (by decide) (by decide)).mono (by omega) (fun _ _ q => q)) ?_))))))
  rintro v h2 ⟨rfl, hS2⟩
  refine w_istore_n rfl (by decide) (w_iload_n rfl p_lk_s1 ?_)
  by_cases e2 : (t_D b n [(0, 1, 9)] p).1 = 0
  · rw [if_neg (fun q => q e2), e2]
    have hS2' := hS2
    obtain ⟨fs2, tv2, tp2, pv2, cv2, y172, y182, y192, y202, av2, y12, e642, fl2, f22, f32, f42, ⟨f82, ⟨t2, f92, t2562, tR2⟩, ⟨x102, f102, f10'2⟩, ⟨z112, f112, f11'2⟩, a72, f72, a7n2, a7e2⟩, f122, f132, f142, f152, f162, f172, f182, f192, f202, f212, e672, tl2, tm2, e682, hb2, e692, pl2, e702, cl2, f02, e652, a12⟩ := hS2'
    refine w_ifc_t rfl (t := 19) rfl (by decide) (w_aload_n rfl (w_s1 rfl rfl (by decide)) (w_bp 116 rfl rfl (w_bp 111 rfl rfl (w_static (nn := 0) (dc := dd + 4) (M' := m_X12_w2) rfl rfl rfl rfl (Nat.le_refl _) (r_w2 (by decide) (by decide)) ?_))))
    rintro v h2 ⟨rfl, rfl⟩
    refine w_iload_n rfl (w_s1 rfl rfl (by decide)) (w_ic 2 rfl rfl (w_addN rfl (w_ic 0 rfl rfl (w_bp 63 rfl rfl (w_virtual (dc := dd + 4) (M' := m_X12_worded) rfl (g_vir (n := 5) rfl rfl (by simp [p_cat, p_bd, Value.category]) rfl rfl e642 rfl) rfl rfl (Nat.le_refl _) ((r_wrd (dd := dd) (lo := 0) (hi := 63) (k := 19) (c := 29807) hS2 hn (by omega) (by omega) (by decide) (by decide) (by decide) (by decide)).mono (by omega) (fun _ _ q => q)) ?_)))))
    rintro v h3 ⟨rfl, hS3⟩
    exact w_ireturn rfl rfl ⟨rfl, hS3⟩
  · rw [if_pos e2]
    exact w_ifc_f rfl (t := 19) rfl (by simp only [p_cd, decide_eq_false_iff_not]; exact b_ofNat_ne (b := 0) t_D_100 (by omega) e2) (w_iload_n rfl p_lk_s1 (w_goto rfl (t := 36) rfl (w_ireturn rfl rfl ⟨rfl, hS2⟩)))
set_option maxRecDepth 100000 in
theorem r_sight (hS : r_S0 h b n p w so t0 m on) (hn : n ≤ 300) (hat : t0 < at_) (hat2 : at_ + 7 ≤ 3108) : p_wp p_GT p_MT (dd + 5) m_X12_sightClause 0 (lv_args 0 [.ref 64, .int (Int32.ofNat at_)]) [] h (fun v h2 => v = some (.int (Int32.ofNat (t_D b n [(0, 0, 9), (1, 17, 0), (0, 0, 7), (2, 44, 0), (0, 0, 7), (2, 58, 0), (0, 1, 3), (2, 44, 0), (0, 1, 3), (1, 18, 0), (0, 0, 9)] p).1)) ∧ r_S0 h2 b n ((t_D b n [(0, 0, 9), (1, 17, 0), (0, 0, 7), (2, 44, 0), (0, 0, 7), (2, 58, 0), (0, 1, 3), (2, 44, 0), (0, 1, 3), (1, 18, 0), (0, 0, 9)] p).2) w so t0 m on) := by
  have hS' := hS
  obtain ⟨fs, tv, tp, pv, cv, y17, y18, y19, y20, av, y1, e64, fl, f2, f3, f4, ⟨f8, ⟨t, f9, t256, tR⟩, ⟨x10, f10, f10'⟩, ⟨z11, f11, f11'⟩, a7, f7, a7n, a7e⟩, f12, f13, f14, f15, f16, f17, f18, f19, f20, f21, e67, tl, tm, e68, hb, e69, pl, e70, cl, f0, e65, a1⟩ := hS
  rw [show t_D b n [(0, 0, 9), (1, 17, 0), (0, 0, 7), (2, 44, 0), (0, 0, 7), (2, 58, 0), (0, 1, 3), (2, 44, 0), (0, 1, 3), (1, 18, 0), (0, 0, 9)] p = _ from t_D_app [(0, 0, 9)] [(1, 17, 0), (0, 0, 7), (2, 44, 0), (0, 0, 7), (2, 58, 0), (0, 1, 3), (2, 44, 0), (0, 1, 3), (1, 18, 0), (0, 0, 9)] p]
  refine w_aload_n rfl rfl (w_iload_n rfl rfl (w_ic 1 rfl rfl (w_addN rfl (w_ic 0 rfl rfl (w_bp 9 rfl rfl (w_virtual (dc := dd + 4) (M' := m_X12_figure) rfl (g_vir (n := 4) rfl rfl (by simp [p_cat, p_bd, Value.category]) rfl rfl e64 rfl) rfl rfl (Nat.le_refl _) ((r_figs (dd := dd) (lo := 0) (hi := 9) hS' hn (by omega) (by omega) (by decide) (by decide)).mono (by omega) (fun _ _ q => q)) ?_))))))
  rintro v h2 ⟨rfl, hS2⟩
  refine w_istore_n rfl (by decide) (w_iload_n rfl p_lk_s1 ?_)
  by_cases e2 : (t_D b n [(0, 0, 9)] p).1 = 0
  · rw [if_neg (fun q => q e2), e2]
    have hS2' := hS2
    rw [show t_D b n [(1, 17, 0), (0, 0, 7), (2, 44, 0), (0, 0, 7), (2, 58, 0), (0, 1, 3), (2, 44, 0), (0, 1, 3), (1, 18, 0), (0, 0, 9)] ((t_D b n [(0, 0, 9)] p).2) = _ from t_D_app [(1, 17, 0), (0, 0, 7)] [(2, 44, 0), (0, 0, 7), (2, 58, 0), (0, 1, 3), (2, 44, 0), (0, 1, 3), (1, 18, 0), (0, 0, 9)] ((t_D b n [(0, 0, 9)] p).2)]
    obtain ⟨fs2, tv2, tp2, pv2, cv2, y172, y182, y192, y202, av2, y12, e642, fl2, f22, f32, f42, ⟨f82, ⟨t2, f92, t2562, tR2⟩, ⟨x102, f102, f10'2⟩, ⟨z112, f112, f11'2⟩, a72, f72, a7n2, a7e2⟩, f122, f132, f142, f152, f162, f172, f182, f192, f202, f212, e672, tl2, tm2, e682, hb2, e692, pl2, e702, cl2, f02, e652, a12⟩ := hS2'
    refine w_ifc_f rfl (t := 33) rfl (by decide) (w_aload_n rfl (w_s1 rfl rfl (by decide)) (w_bp 97 rfl rfl (w_bp 116 rfl rfl (w_static (nn := 0) (dc := dd + 4) (M' := m_X12_w2) rfl rfl rfl rfl (Nat.le_refl _) (r_w2 (by decide) (by decide)) ?_))))
    rintro v h2 ⟨rfl, rfl⟩
    refine w_iload_n rfl (w_s1 rfl rfl (by decide)) (w_ic 2 rfl rfl (w_addN rfl (w_ic 0 rfl rfl (w_bp 7 rfl rfl (w_virtual (dc := dd + 4) (M' := m_X12_worded) rfl (g_vir (n := 5) rfl rfl (by simp [p_cat, p_bd, Value.category]) rfl rfl e642 rfl) rfl rfl (Nat.le_refl _) ((r_wrd (dd := dd) (lo := 0) (hi := 7) (k := 17) (c := 24948) hS2 hn (by omega) (by omega) (by decide) (by decide) (by decide) (by decide)).mono (by omega) (fun _ _ q => q)) ?_)))))
    rintro v h3 ⟨rfl, hS3⟩
    refine w_istore_n rfl (by decide) (w_iload_n rfl p_lk_s1 ?_)
    by_cases e3 : (t_D b n [(1, 17, 0), (0, 0, 7)] ((t_D b n [(0, 0, 9)] p).2)).1 = 0
    · rw [if_neg (fun q => q e3), e3]
      have hS3' := hS3
      rw [show t_D b n [(2, 44, 0), (0, 0, 7), (2, 58, 0), (0, 1, 3), (2, 44, 0), (0, 1, 3), (1, 18, 0), (0, 0, 9)] ((t_D b n [(1, 17, 0), (0, 0, 7)] ((t_D b n [(0, 0, 9)] p).2)).2) = _ from t_D_app [(2, 44, 0), (0, 0, 7)] [(2, 58, 0), (0, 1, 3), (2, 44, 0), (0, 1, 3), (1, 18, 0), (0, 0, 9)] ((t_D b n [(1, 17, 0), (0, 0, 7)] ((t_D b n [(0, 0, 9)] p).2)).2)]
      obtain ⟨fs3, tv3, tp3, pv3, cv3, y173, y183, y193, y203, av3, y13, e643, fl3, f23, f33, f43, ⟨f83, ⟨t3, f93, t2563, tR3⟩, ⟨x103, f103, f10'3⟩, ⟨z113, f113, f11'3⟩, a73, f73, a7n3, a7e3⟩, f123, f133, f143, f153, f163, f173, f183, f193, f203, f213, e673, tl3, tm3, e683, hb3, e693, pl3, e703, cl3, f03, e653, a13⟩ := hS3'
      refine w_ifc_f rfl (t := 50) rfl (by decide) (w_aload_n rfl (w_s1 (w_s1 rfl rfl (by decide)) rfl (by decide)) (w_bp 44 rfl rfl (w_iload_n rfl (w_s1 (w_s1 rfl rfl (by decide)) rfl (by decide)) (w_ic 3 rfl rfl (w_addN rfl (w_ic 0 rfl rfl (w_bp 7 rfl rfl (w_virtual (dc := dd + 4) (M' := m_X12_signed) rfl (g_vir (n := 5) rfl rfl (by simp [p_cat, p_bd, Value.category]) rfl rfl e643 rfl) rfl rfl (Nat.le_refl _) ((r_sgns (dd := dd) (lo := 0) (hi := 7) (c := 44) hS3 hn (by omega) (by omega) (by decide) (by decide) (by omega)).mono (by omega) (fun _ _ q => q)) ?_))))))))
      rintro v h4 ⟨rfl, hS4⟩
      refine w_istore_n rfl (by decide) (w_iload_n rfl p_lk_s1 ?_)
      by_cases e4 : (t_D b n [(2, 44, 0), (0, 0, 7)] ((t_D b n [(1, 17, 0), (0, 0, 7)] ((t_D b n [(0, 0, 9)] p).2)).2)).1 = 0
      · rw [if_neg (fun q => q e4), e4]
        have hS4' := hS4
        rw [show t_D b n [(2, 58, 0), (0, 1, 3), (2, 44, 0), (0, 1, 3), (1, 18, 0), (0, 0, 9)] ((t_D b n [(2, 44, 0), (0, 0, 7)] ((t_D b n [(1, 17, 0), (0, 0, 7)] ((t_D b n [(0, 0, 9)] p).2)).2)).2) = _ from t_D_app [(2, 58, 0), (0, 1, 3)] [(2, 44, 0), (0, 1, 3), (1, 18, 0), (0, 0, 9)] ((t_D b n [(2, 44, 0), (0, 0, 7)] ((t_D b n [(1, 17, 0), (0, 0, 7)] ((t_D b n [(0, 0, 9)] p).2)).2)).2)]
        obtain ⟨fs4, tv4, tp4, pv4, cv4, y174, y184, y194, y204, av4, y14, e644, fl4, f24, f34, f44, ⟨f84, ⟨t4, f94, t2564, tR4⟩, ⟨x104, f104, f10'4⟩, ⟨z114, f114, f11'4⟩, a74, f74, a7n4, a7e4⟩, f124, f134, f144, f154, f164, f174, f184, f194, f204, f214, e674, tl4, tm4, e684, hb4, e694, pl4, e704, cl4, f04, e654, a14⟩ := hS4'
        refine w_ifc_f rfl (t := 66) rfl (by decide) (w_aload_n rfl (w_s1 (w_s1 (w_s1 rfl rfl (by decide)) rfl (by decide)) rfl (by decide)) (w_bp 58 rfl rfl (w_iload_n rfl (w_s1 (w_s1 (w_s1 rfl rfl (by decide)) rfl (by decide)) rfl (by decide)) (w_ic 4 rfl rfl (w_addN rfl (w_ic 1 rfl rfl (w_ic 3 rfl rfl (w_virtual (dc := dd + 4) (M' := m_X12_signed) rfl (g_vir (n := 5) rfl rfl (by simp [p_cat, p_bd, Value.category]) rfl rfl e644 rfl) rfl rfl (Nat.le_refl _) ((r_sgns (dd := dd) (lo := 1) (hi := 3) (c := 58) hS4 hn (by omega) (by omega) (by decide) (by decide) (by omega)).mono (by omega) (fun _ _ q => q)) ?_))))))))
        rintro v h5 ⟨rfl, hS5⟩
        refine w_istore_n rfl (by decide) (w_iload_n rfl p_lk_s1 ?_)
        by_cases e5 : (t_D b n [(2, 58, 0), (0, 1, 3)] ((t_D b n [(2, 44, 0), (0, 0, 7)] ((t_D b n [(1, 17, 0), (0, 0, 7)] ((t_D b n [(0, 0, 9)] p).2)).2)).2)).1 = 0
        · rw [if_neg (fun q => q e5), e5]
          have hS5' := hS5
          rw [show t_D b n [(2, 44, 0), (0, 1, 3), (1, 18, 0), (0, 0, 9)] ((t_D b n [(2, 58, 0), (0, 1, 3)] ((t_D b n [(2, 44, 0), (0, 0, 7)] ((t_D b n [(1, 17, 0), (0, 0, 7)] ((t_D b n [(0, 0, 9)] p).2)).2)).2)).2) = _ from t_D_app [(2, 44, 0), (0, 1, 3)] [(1, 18, 0), (0, 0, 9)] ((t_D b n [(2, 58, 0), (0, 1, 3)] ((t_D b n [(2, 44, 0), (0, 0, 7)] ((t_D b n [(1, 17, 0), (0, 0, 7)] ((t_D b n [(0, 0, 9)] p).2)).2)).2)).2)]
          obtain ⟨fs5, tv5, tp5, pv5, cv5, y175, y185, y195, y205, av5, y15, e645, fl5, f25, f35, f45, ⟨f85, ⟨t5, f95, t2565, tR5⟩, ⟨x105, f105, f10'5⟩, ⟨z115, f115, f11'5⟩, a75, f75, a7n5, a7e5⟩, f125, f135, f145, f155, f165, f175, f185, f195, f205, f215, e675, tl5, tm5, e685, hb5, e695, pl5, e705, cl5, f05, e655, a15⟩ := hS5'
          refine w_ifc_f rfl (t := 82) rfl (by decide) (w_aload_n rfl (w_s1 (w_s1 (w_s1 (w_s1 rfl rfl (by decide)) rfl (by decide)) rfl (by decide)) rfl (by decide)) (w_bp 44 rfl rfl (w_iload_n rfl (w_s1 (w_s1 (w_s1 (w_s1 rfl rfl (by decide)) rfl (by decide)) rfl (by decide)) rfl (by decide)) (w_ic 5 rfl rfl (w_addN rfl (w_ic 1 rfl rfl (w_ic 3 rfl rfl (w_virtual (dc := dd + 4) (M' := m_X12_signed) rfl (g_vir (n := 5) rfl rfl (by simp [p_cat, p_bd, Value.category]) rfl rfl e645 rfl) rfl rfl (Nat.le_refl _) ((r_sgns (dd := dd) (lo := 1) (hi := 3) (c := 44) hS5 hn (by omega) (by omega) (by decide) (by decide) (by omega)).mono (by omega) (fun _ _ q => q)) ?_))))))))
          rintro v h6 ⟨rfl, hS6⟩
          refine w_istore_n rfl (by decide) (w_iload_n rfl p_lk_s1 ?_)
          by_cases e6 : (t_D b n [(2, 44, 0), (0, 1, 3)] ((t_D b n [(2, 58, 0), (0, 1, 3)] ((t_D b n [(2, 44, 0), (0, 0, 7)] ((t_D b n [(1, 17, 0), (0, 0, 7)] ((t_D b n [(0, 0, 9)] p).2)).2)).2)).2)).1 = 0
          · rw [if_neg (fun q => q e6), e6]
            have hS6' := hS6
            obtain ⟨fs6, tv6, tp6, pv6, cv6, y176, y186, y196, y206, av6, y16, e646, fl6, f26, f36, f46, ⟨f86, ⟨t6, f96, t2566, tR6⟩, ⟨x106, f106, f10'6⟩, ⟨z116, f116, f11'6⟩, a76, f76, a7n6, a7e6⟩, f126, f136, f146, f156, f166, f176, f186, f196, f206, f216, e676, tl6, tm6, e686, hb6, e696, pl6, e706, cl6, f06, e656, a16⟩ := hS6'
            refine w_ifc_t rfl (t := 90) rfl (by decide) (w_aload_n rfl (w_s1 (w_s1 (w_s1 (w_s1 (w_s1 rfl rfl (by decide)) rfl (by decide)) rfl (by decide)) rfl (by decide)) rfl (by decide)) (w_bp 100 rfl rfl (w_bp 101 rfl rfl (w_bp 101 rfl rfl (w_bp 112 rfl rfl (w_static (nn := 0) (dc := dd + 4) (M' := m_X12_w4) rfl rfl rfl rfl (Nat.le_refl _) ((r_w4 (dd := dd) (by decide) (by decide) (by decide) (by decide)).mono (by omega) (fun _ _ q => q)) ?_))))))
            rintro v h2 ⟨rfl, rfl⟩
            refine w_iload_n rfl (w_s1 (w_s1 (w_s1 (w_s1 (w_s1 rfl rfl (by decide)) rfl (by decide)) rfl (by decide)) rfl (by decide)) rfl (by decide)) (w_bp 6 rfl rfl (w_addN rfl (w_ic 0 rfl rfl (w_bp 9 rfl rfl (w_virtual (dc := dd + 4) (M' := m_X12_worded) rfl (g_vir (n := 5) rfl rfl (by simp [p_cat, p_bd, Value.category]) rfl rfl e646 rfl) rfl rfl (Nat.le_refl _) ((r_wrd (dd := dd) (lo := 0) (hi := 9) (k := 18) (c := 1684366704) hS6 hn (by omega) (by omega) (by decide) (by decide) (by decide) (by decide)).mono (by omega) (fun _ _ q => q)) ?_)))))
            rintro v h7 ⟨rfl, hS7⟩
            exact w_ireturn rfl rfl ⟨rfl, hS7⟩
          · rw [if_pos e6]
            exact w_ifc_f rfl (t := 90) rfl (by simp only [p_cd, decide_eq_false_iff_not]; exact b_ofNat_ne (b := 0) t_D_100 (by omega) e6) (w_iload_n rfl p_lk_s1 (w_goto rfl (t := 112) rfl (w_ireturn rfl rfl ⟨rfl, hS6⟩)))
        · rw [if_pos e5]
          exact w_ifc_t rfl (t := 82) rfl (by simp only [p_cd, decide_eq_true_eq]; exact b_ofNat_ne (b := 0) t_D_100 (by omega) e5) (w_iload_n rfl p_lk_s1 (w_ifc_f rfl (t := 90) rfl (by simp only [p_cd, decide_eq_false_iff_not]; exact b_ofNat_ne (b := 0) t_D_100 (by omega) e5) (w_iload_n rfl p_lk_s1 (w_goto rfl (t := 112) rfl (w_ireturn rfl rfl ⟨rfl, hS5⟩)))))
      · rw [if_pos e4]
        exact w_ifc_t rfl (t := 66) rfl (by simp only [p_cd, decide_eq_true_eq]; exact b_ofNat_ne (b := 0) t_D_100 (by omega) e4) (w_iload_n rfl p_lk_s1 (w_ifc_t rfl (t := 82) rfl (by simp only [p_cd, decide_eq_true_eq]; exact b_ofNat_ne (b := 0) t_D_100 (by omega) e4) (w_iload_n rfl p_lk_s1 (w_ifc_f rfl (t := 90) rfl (by simp only [p_cd, decide_eq_false_iff_not]; exact b_ofNat_ne (b := 0) t_D_100 (by omega) e4) (w_iload_n rfl p_lk_s1 (w_goto rfl (t := 112) rfl (w_ireturn rfl rfl ⟨rfl, hS4⟩)))))))
    · rw [if_pos e3]
      exact w_ifc_t rfl (t := 50) rfl (by simp only [p_cd, decide_eq_true_eq]; exact b_ofNat_ne (b := 0) t_D_100 (by omega) e3) (w_iload_n rfl p_lk_s1 (w_ifc_t rfl (t := 66) rfl (by simp only [p_cd, decide_eq_true_eq]; exact b_ofNat_ne (b := 0) t_D_100 (by omega) e3) (w_iload_n rfl p_lk_s1 (w_ifc_t rfl (t := 82) rfl (by simp only [p_cd, decide_eq_true_eq]; exact b_ofNat_ne (b := 0) t_D_100 (by omega) e3) (w_iload_n rfl p_lk_s1 (w_ifc_f rfl (t := 90) rfl (by simp only [p_cd, decide_eq_false_iff_not]; exact b_ofNat_ne (b := 0) t_D_100 (by omega) e3) (w_iload_n rfl p_lk_s1 (w_goto rfl (t := 112) rfl (w_ireturn rfl rfl ⟨rfl, hS3⟩)))))))))
  · rw [if_pos e2]
    exact w_ifc_t rfl (t := 33) rfl (by simp only [p_cd, decide_eq_true_eq]; exact b_ofNat_ne (b := 0) t_D_100 (by omega) e2) (w_iload_n rfl p_lk_s1 (w_ifc_t rfl (t := 50) rfl (by simp only [p_cd, decide_eq_true_eq]; exact b_ofNat_ne (b := 0) t_D_100 (by omega) e2) (w_iload_n rfl p_lk_s1 (w_ifc_t rfl (t := 66) rfl (by simp only [p_cd, decide_eq_true_eq]; exact b_ofNat_ne (b := 0) t_D_100 (by omega) e2) (w_iload_n rfl p_lk_s1 (w_ifc_t rfl (t := 82) rfl (by simp only [p_cd, decide_eq_true_eq]; exact b_ofNat_ne (b := 0) t_D_100 (by omega) e2) (w_iload_n rfl p_lk_s1 (w_ifc_f rfl (t := 90) rfl (by simp only [p_cd, decide_eq_false_iff_not]; exact b_ofNat_ne (b := 0) t_D_100 (by omega) e2) (w_iload_n rfl p_lk_s1 (w_goto rfl (t := 112) rfl (w_ireturn rfl rfl ⟨rfl, hS2⟩)))))))))))
end RS11

/-! THE CLASS READS A CLAUSE, further -/
section RS13
variable {h : p_H} {dd n p u m : Nat} {la : Int32} {sv : Bool} {ml se ro fa pl : Value} {b : Nat → Nat}
theorem c_deed5 (hS : c_S h b n p u m la false ml se ro fa pl) (hn : n ≤ 300) (hp : p ≤ n) : p_wp p_GT p_MT (dd + 3) m_X3_readDeed 0 (lv_args 0 [.ref 43, .int (Int32.ofNat 5)]) [] h (fun v h2 => v = some (.int (l_b (Nat.beq (t_D b n [(0, 0, 6)] p).1 0))) ∧ c_Y h2 b n u m la ml se ro fa pl (t_D b n [(0, 0, 6)] p)) := by
  have hS' := hS
  obtain ⟨fs, tp, rw, cw, pa, e43, fl, f0, f1, f2, f3, ⟨f4, f5, f6, v7, f7, t1, t2, t3⟩, f8, f9, f10, f11, f12, f13, f14, f15, f16, f17, e44, hb, e1, e45, rl, hrI, e46, cl, hI⟩ := hS
  refine w_iload_n rfl rfl (w_sw rfl (t := 239) rfl (w_aload_n rfl rfl (w_ic 0 rfl rfl (w_bp 6 rfl rfl (w_virtual (dc := dd + 2) (M' := m_X3_takeNumber) rfl (g_vir (n := 3) rfl rfl (by simp [p_cat, p_bd, Value.category]) rfl rfl e43 rfl) rfl rfl (Nat.le_refl _) (c_takeN (dd := dd) (lo := 0) (hi := 6) hS' hn hp (by decide) (by decide)) ?_)))))
  rintro v h2 ⟨rfl, hY2⟩
  exact w_ireturnb rfl rfl (t_lb_n _) ⟨rfl, hY2⟩
theorem c_deed6 (hS : c_S h b n p u m la false ml se ro fa pl) (hn : n ≤ 300) (hp : p ≤ n) : p_wp p_GT p_MT (dd + 3) m_X3_readDeed 0 (lv_args 0 [.ref 43, .int (Int32.ofNat 6)]) [] h (fun v h2 => v = some (.int (l_b (Nat.beq (t_D b n [(0, 0, 6)] p).1 0))) ∧ c_Y h2 b n u m la ml se ro fa pl (t_D b n [(0, 0, 6)] p)) := by
  have hS' := hS
  obtain ⟨fs, tp, rw, cw, pa, e43, fl, f0, f1, f2, f3, ⟨f4, f5, f6, v7, f7, t1, t2, t3⟩, f8, f9, f10, f11, f12, f13, f14, f15, f16, f17, e44, hb, e1, e45, rl, hrI, e46, cl, hI⟩ := hS
  refine w_iload_n rfl rfl (w_sw rfl (t := 239) rfl (w_aload_n rfl rfl (w_ic 0 rfl rfl (w_bp 6 rfl rfl (w_virtual (dc := dd + 2) (M' := m_X3_takeNumber) rfl (g_vir (n := 3) rfl rfl (by simp [p_cat, p_bd, Value.category]) rfl rfl e43 rfl) rfl rfl (Nat.le_refl _) (c_takeN (dd := dd) (lo := 0) (hi := 6) hS' hn hp (by decide) (by decide)) ?_)))))
  rintro v h2 ⟨rfl, hY2⟩
  exact w_ireturnb rfl rfl (t_lb_n _) ⟨rfl, hY2⟩
theorem c_deed7 (hS : c_S h b n p u m la false ml se ro fa pl) (hn : n ≤ 300) (hp : p ≤ n) : p_wp p_GT p_MT (dd + 3) m_X3_readDeed 0 (lv_args 0 [.ref 43, .int (Int32.ofNat 7)]) [] h (fun v h2 => v = some (.int (l_b (Nat.beq (t_D b n [(0, 0, 63)] p).1 0))) ∧ c_Y h2 b n u m la ml se ro fa pl (t_D b n [(0, 0, 63)] p)) := by
  have hS' := hS
  obtain ⟨fs, tp, rw, cw, pa, e43, fl, f0, f1, f2, f3, ⟨f4, f5, f6, v7, f7, t1, t2, t3⟩, f8, f9, f10, f11, f12, f13, f14, f15, f16, f17, e44, hb, e1, e45, rl, hrI, e46, cl, hI⟩ := hS
  refine w_iload_n rfl rfl (w_sw rfl (t := 231) rfl (w_aload_n rfl rfl (w_ic 0 rfl rfl (w_bp 63 rfl rfl (w_virtual (dc := dd + 2) (M' := m_X3_takeNumber) rfl (g_vir (n := 3) rfl rfl (by simp [p_cat, p_bd, Value.category]) rfl rfl e43 rfl) rfl rfl (Nat.le_refl _) (c_takeN (dd := dd) (lo := 0) (hi := 63) hS' hn hp (by decide) (by decide)) ?_)))))
  rintro v h2 ⟨rfl, hY2⟩
  exact w_ireturnb rfl rfl (t_lb_n _) ⟨rfl, hY2⟩
set_option maxRecDepth 100000 in
theorem c_deed8 (hS : c_S h b n p u m la false ml se ro fa pl) (hn : n ≤ 300) (hp : p ≤ n) : p_wp p_GT p_MT (dd + 3) m_X3_readDeed 0 (lv_args 0 [.ref 43, .int (Int32.ofNat 8)]) [] h (fun v h2 => v = some (.int (l_b (Nat.beq (t_D b n [(0, 1, 9), (1, 19, 0), (0, 0, 63)] p).1 0))) ∧ c_Y h2 b n u m la ml se ro fa pl (t_D b n [(0, 1, 9), (1, 19, 0), (0, 0, 63)] p)) := by
  have hS' := hS
  obtain ⟨fs, tp, rw, cw, pa, e43, fl, f0, f1, f2, f3, ⟨f4, f5, f6, v7, f7, t1, t2, t3⟩, f8, f9, f10, f11, f12, f13, f14, f15, f16, f17, e44, hb, e1, e45, rl, hrI, e46, cl, hI⟩ := hS
  rw [show t_D b n [(0, 1, 9), (1, 19, 0), (0, 0, 63)] p = _ from t_D_app [(0, 1, 9)] [(1, 19, 0), (0, 0, 63)] p]
  refine w_iload_n rfl rfl (w_sw rfl (t := 188) rfl (w_aload_n rfl rfl (w_ic 1 rfl rfl (w_bp 9 rfl rfl (w_virtual (dc := dd + 2) (M' := m_X3_takeNumber) rfl (g_vir (n := 3) rfl rfl (by simp [p_cat, p_bd, Value.category]) rfl rfl e43 rfl) rfl rfl (Nat.le_refl _) (c_takeN (dd := dd) (lo := 1) (hi := 9) hS' hn hp (by decide) (by decide)) ?_)))))
  rintro v h2 ⟨rfl, hY2⟩
  by_cases e2 : (t_D b n [(0, 1, 9)] p).1 = 0
  · rw [if_neg (fun q => q e2), e2]
    have hS2 := hY2.1 e2
    have hp2 := (t_D_le (b := b) [(0, 1, 9)] p hp).2
    have hS2' := hS2
    rw [show t_D b n [(1, 19, 0), (0, 0, 63)] ((t_D b n [(0, 1, 9)] p).2) = _ from t_D_app [(1, 19, 0)] [(0, 0, 63)] ((t_D b n [(0, 1, 9)] p).2)]
    obtain ⟨fs2, tp2, rw2, cw2, pa2, e432, fl2, f02, f12, f22, f32, ⟨f42, f52, f62, v72, f72, t12, t22, t32⟩, f82, f92, f102, f112, f122, f132, f142, f152, f162, f172, e442, hb2, e12, e452, rl2, hrI2, e462, cl2, hI2⟩ := hS2'
    refine w_ifc_f rfl (t := 221) rfl (by decide) (w_aload_n rfl rfl (w_bp 19 rfl rfl (w_virtual (dc := dd + 2) (M' := m_X3_takeWord) rfl (g_vir (n := 2) rfl rfl (by simp [p_cat, p_bd, Value.category]) rfl rfl e432 rfl) rfl rfl (Nat.le_refl _) (c_takeW2 (dd := dd) (k := 19) hS2 hn hp2 (by decide)) ?_)))
    rintro v h3 ⟨rfl, hY3⟩
    by_cases e3 : (t_D b n [(1, 19, 0)] ((t_D b n [(0, 1, 9)] p).2)).1 = 0
    · rw [if_neg (fun q => q e3), e3]
      have hS3 := hY3.1 e3
      have hp3 := (t_D_le (b := b) [(1, 19, 0)] ((t_D b n [(0, 1, 9)] p).2) hp2).2
      have hS3' := hS3
      obtain ⟨fs3, tp3, rw3, cw3, pa3, e433, fl3, f03, f13, f23, f33, ⟨f43, f53, f63, v73, f73, t13, t23, t33⟩, f83, f93, f103, f113, f123, f133, f143, f153, f163, f173, e443, hb3, e13, e453, rl3, hrI3, e463, cl3, hI3⟩ := hS3'
      refine w_ifc_f rfl (t := 221) rfl (by decide) (w_aload_n rfl rfl (w_ic 0 rfl rfl (w_bp 63 rfl rfl (w_virtual (dc := dd + 2) (M' := m_X3_takeNumber) rfl (g_vir (n := 3) rfl rfl (by simp [p_cat, p_bd, Value.category]) rfl rfl e433 rfl) rfl rfl (Nat.le_refl _) (c_takeN (dd := dd) (lo := 0) (hi := 63) hS3 hn hp3 (by decide) (by decide)) ?_))))
      rintro v h4 ⟨rfl, hY4⟩
      by_cases e4 : (t_D b n [(0, 0, 63)] ((t_D b n [(1, 19, 0)] ((t_D b n [(0, 1, 9)] p).2)).2)).1 = 0
      · rw [e4]
        exact w_ifc_f rfl (t := 221) rfl (by decide) (w_iconst rfl (w_goto rfl (t := 222) rfl (w_ireturnb rfl rfl rfl ⟨rfl, hY4⟩)))
      · rw [t_beq0 e4]
        exact w_ifc_t rfl (t := 221) rfl (by decide) (w_iconst rfl (w_ireturnb rfl rfl rfl ⟨rfl, hY4⟩))
    · rw [if_pos e3, t_beq0 e3]
      exact w_ifc_t rfl (t := 221) rfl (by decide) (w_iconst rfl (w_ireturnb rfl rfl rfl ⟨rfl, hY3⟩))
  · rw [if_pos e2, t_beq0 e2]
    exact w_ifc_t rfl (t := 221) rfl (by decide) (w_iconst rfl (w_ireturnb rfl rfl rfl ⟨rfl, hY2⟩))
theorem c_deed9 (hS : c_S h b n p u m la false ml se ro fa pl) (hn : n ≤ 300) (hp : p ≤ n) : p_wp p_GT p_MT (dd + 3) m_X3_readDeed 0 (lv_args 0 [.ref 43, .int (Int32.ofNat 9)]) [] h (fun v h2 => v = some (.int (l_b (Nat.beq (t_D b n [(0, 1, 60)] p).1 0))) ∧ c_Y h2 b n u m la ml se ro fa pl (t_D b n [(0, 1, 60)] p)) := by
  have hS' := hS
  obtain ⟨fs, tp, rw, cw, pa, e43, fl, f0, f1, f2, f3, ⟨f4, f5, f6, v7, f7, t1, t2, t3⟩, f8, f9, f10, f11, f12, f13, f14, f15, f16, f17, e44, hb, e1, e45, rl, hrI, e46, cl, hI⟩ := hS
  refine w_iload_n rfl rfl (w_sw rfl (t := 223) rfl (w_aload_n rfl rfl (w_ic 1 rfl rfl (w_bp 60 rfl rfl (w_virtual (dc := dd + 2) (M' := m_X3_takeNumber) rfl (g_vir (n := 3) rfl rfl (by simp [p_cat, p_bd, Value.category]) rfl rfl e43 rfl) rfl rfl (Nat.le_refl _) (c_takeN (dd := dd) (lo := 1) (hi := 60) hS' hn hp (by decide) (by decide)) ?_)))))
  rintro v h2 ⟨rfl, hY2⟩
  exact w_ireturnb rfl rfl (t_lb_n _) ⟨rfl, hY2⟩
end RS13

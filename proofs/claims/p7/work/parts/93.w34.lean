/-! THE CLASS READS A CLAUSE, further -/
section RS13
variable {h : p_H} {dd n p u m : Nat} {la : Int32} {sv : Bool} {ml se ro fa pl : Value} {b : Nat → Nat}
set_option maxRecDepth 100000 in
theorem c_deed3 (hS : c_S h b n p u m la false ml se ro fa pl) (hn : n ≤ 300) (hp : p ≤ n) : p_wp p_GT p_MT (dd + 3) m_X3_readDeed 0 (lv_args 0 [.ref 43, .int (Int32.ofNat 3)]) [] h (fun v h2 => v = some (.int (l_b (Nat.beq (t_D b n [(0, 2, 8), (1, 16, 0), (0, 2, 8)] p).1 0))) ∧ c_Y h2 b n u m la ml se ro fa pl (t_D b n [(0, 2, 8), (1, 16, 0), (0, 2, 8)] p)) := by
  have hS' := hS
  obtain ⟨fs, tp, rw, cw, pa, e43, fl, f0, f1, f2, f3, ⟨f4, f5, f6, v7, f7, t1, t2, t3⟩, f8, f9, f10, f11, f12, f13, f14, f15, f16, f17, e44, hb, e1, e45, rl, hrI, e46, cl, hI⟩ := hS
  rw [show t_D b n [(0, 2, 8), (1, 16, 0), (0, 2, 8)] p = _ from t_D_app [(0, 2, 8)] [(1, 16, 0), (0, 2, 8)] p]
  refine w_iload_n rfl rfl (w_sw rfl (t := 44) rfl (w_aload_n rfl rfl (w_ic 2 rfl rfl (w_bp 8 rfl rfl (w_virtual (dc := dd + 2) (M' := m_X3_takeNumber) rfl (g_vir (n := 3) rfl rfl (by simp [p_cat, p_bd, Value.category]) rfl rfl e43 rfl) rfl rfl (Nat.le_refl _) (c_takeN (dd := dd) (lo := 2) (hi := 8) hS' hn hp (by decide) (by decide)) ?_)))))
  rintro v h2 ⟨rfl, hY2⟩
  by_cases e2 : (t_D b n [(0, 2, 8)] p).1 = 0
  · rw [if_neg (fun q => q e2), e2]
    have hS2 := hY2.1 e2
    have hp2 := (t_D_le (b := b) [(0, 2, 8)] p hp).2
    have hS2' := hS2
    rw [show t_D b n [(1, 16, 0), (0, 2, 8)] ((t_D b n [(0, 2, 8)] p).2) = _ from t_D_app [(1, 16, 0)] [(0, 2, 8)] ((t_D b n [(0, 2, 8)] p).2)]
    obtain ⟨fs2, tp2, rw2, cw2, pa2, e432, fl2, f02, f12, f22, f32, ⟨f42, f52, f62, v72, f72, t12, t22, t32⟩, f82, f92, f102, f112, f122, f132, f142, f152, f162, f172, e442, hb2, e12, e452, rl2, hrI2, e462, cl2, hI2⟩ := hS2'
    refine w_ifc_f rfl (t := 77) rfl (by decide) (w_aload_n rfl rfl (w_bp 16 rfl rfl (w_virtual (dc := dd + 2) (M' := m_X3_takeWord) rfl (g_vir (n := 2) rfl rfl (by simp [p_cat, p_bd, Value.category]) rfl rfl e432 rfl) rfl rfl (Nat.le_refl _) (c_takeW2 (dd := dd) (k := 16) hS2 hn hp2 (by decide)) ?_)))
    rintro v h3 ⟨rfl, hY3⟩
    by_cases e3 : (t_D b n [(1, 16, 0)] ((t_D b n [(0, 2, 8)] p).2)).1 = 0
    · rw [if_neg (fun q => q e3), e3]
      have hS3 := hY3.1 e3
      have hp3 := (t_D_le (b := b) [(1, 16, 0)] ((t_D b n [(0, 2, 8)] p).2) hp2).2
      have hS3' := hS3
      obtain ⟨fs3, tp3, rw3, cw3, pa3, e433, fl3, f03, f13, f23, f33, ⟨f43, f53, f63, v73, f73, t13, t23, t33⟩, f83, f93, f103, f113, f123, f133, f143, f153, f163, f173, e443, hb3, e13, e453, rl3, hrI3, e463, cl3, hI3⟩ := hS3'
      refine w_ifc_f rfl (t := 77) rfl (by decide) (w_aload_n rfl rfl (w_ic 2 rfl rfl (w_bp 8 rfl rfl (w_virtual (dc := dd + 2) (M' := m_X3_takeNumber) rfl (g_vir (n := 3) rfl rfl (by simp [p_cat, p_bd, Value.category]) rfl rfl e433 rfl) rfl rfl (Nat.le_refl _) (c_takeN (dd := dd) (lo := 2) (hi := 8) hS3 hn hp3 (by decide) (by decide)) ?_))))
      rintro v h4 ⟨rfl, hY4⟩
      by_cases e4 : (t_D b n [(0, 2, 8)] ((t_D b n [(1, 16, 0)] ((t_D b n [(0, 2, 8)] p).2)).2)).1 = 0
      · rw [e4]
        exact w_ifc_f rfl (t := 77) rfl (by decide) (w_iconst rfl (w_goto rfl (t := 78) rfl (w_ireturnb rfl rfl rfl ⟨rfl, hY4⟩)))
      · rw [t_beq0 e4]
        exact w_ifc_t rfl (t := 77) rfl (by decide) (w_iconst rfl (w_ireturnb rfl rfl rfl ⟨rfl, hY4⟩))
    · rw [if_pos e3, t_beq0 e3]
      exact w_ifc_t rfl (t := 77) rfl (by decide) (w_iconst rfl (w_ireturnb rfl rfl rfl ⟨rfl, hY3⟩))
  · rw [if_pos e2, t_beq0 e2]
    exact w_ifc_t rfl (t := 77) rfl (by decide) (w_iconst rfl (w_ireturnb rfl rfl rfl ⟨rfl, hY2⟩))
set_option maxRecDepth 100000 in
theorem c_deed4 (hS : c_S h b n p u m la false ml se ro fa pl) (hn : n ≤ 300) (hp : p ≤ n) : p_wp p_GT p_MT (dd + 3) m_X3_readDeed 0 (lv_args 0 [.ref 43, .int (Int32.ofNat 4)]) [] h (fun v h2 => v = some (.int (l_b (Nat.beq (t_D b n [(0, 0, 9), (1, 17, 0), (0, 0, 7), (2, 44, 0), (0, 0, 7), (2, 58, 0), (0, 1, 3), (2, 44, 0), (0, 1, 3), (1, 18, 0), (0, 0, 9)] p).1 0))) ∧ c_Y h2 b n u m la ml se ro fa pl (t_D b n [(0, 0, 9), (1, 17, 0), (0, 0, 7), (2, 44, 0), (0, 0, 7), (2, 58, 0), (0, 1, 3), (2, 44, 0), (0, 1, 3), (1, 18, 0), (0, 0, 9)] p)) := by
  have hS' := hS
  obtain ⟨fs, tp, rw, cw, pa, e43, fl, f0, f1, f2, f3, ⟨f4, f5, f6, v7, f7, t1, t2, t3⟩, f8, f9, f10, f11, f12, f13, f14, f15, f16, f17, e44, hb, e1, e45, rl, hrI, e46, cl, hI⟩ := hS
  rw [show t_D b n [(0, 0, 9), (1, 17, 0), (0, 0, 7), (2, 44, 0), (0, 0, 7), (2, 58, 0), (0, 1, 3), (2, 44, 0), (0, 1, 3), (1, 18, 0), (0, 0, 9)] p = _ from t_D_app [(0, 0, 9)] [(1, 17, 0), (0, 0, 7), (2, 44, 0), (0, 0, 7), (2, 58, 0), (0, 1, 3), (2, 44, 0), (0, 1, 3), (1, 18, 0), (0, 0, 9)] p]
  refine w_iload_n rfl rfl (w_sw rfl (t := 79) rfl (w_aload_n rfl rfl (w_ic 0 rfl rfl (w_bp 9 rfl rfl (w_virtual (dc := dd + 2) (M' := m_X3_takeNumber) rfl (g_vir (n := 3) rfl rfl (by simp [p_cat, p_bd, Value.category]) rfl rfl e43 rfl) rfl rfl (Nat.le_refl _) (c_takeN (dd := dd) (lo := 0) (hi := 9) hS' hn hp (by decide) (by decide)) ?_)))))
  rintro v h2 ⟨rfl, hY2⟩
  by_cases e2 : (t_D b n [(0, 0, 9)] p).1 = 0
  · rw [if_neg (fun q => q e2), e2]
    have hS2 := hY2.1 e2
    have hp2 := (t_D_le (b := b) [(0, 0, 9)] p hp).2
    have hS2' := hS2
    rw [show t_D b n [(1, 17, 0), (0, 0, 7), (2, 44, 0), (0, 0, 7), (2, 58, 0), (0, 1, 3), (2, 44, 0), (0, 1, 3), (1, 18, 0), (0, 0, 9)] ((t_D b n [(0, 0, 9)] p).2) = _ from t_D_app [(1, 17, 0)] [(0, 0, 7), (2, 44, 0), (0, 0, 7), (2, 58, 0), (0, 1, 3), (2, 44, 0), (0, 1, 3), (1, 18, 0), (0, 0, 9)] ((t_D b n [(0, 0, 9)] p).2)]
    obtain ⟨fs2, tp2, rw2, cw2, pa2, e432, fl2, f02, f12, f22, f32, ⟨f42, f52, f62, v72, f72, t12, t22, t32⟩, f82, f92, f102, f112, f122, f132, f142, f152, f162, f172, e442, hb2, e12, e452, rl2, hrI2, e462, cl2, hI2⟩ := hS2'
    refine w_ifc_f rfl (t := 186) rfl (by decide) (w_aload_n rfl rfl (w_bp 17 rfl rfl (w_virtual (dc := dd + 2) (M' := m_X3_takeWord) rfl (g_vir (n := 2) rfl rfl (by simp [p_cat, p_bd, Value.category]) rfl rfl e432 rfl) rfl rfl (Nat.le_refl _) (c_takeW2 (dd := dd) (k := 17) hS2 hn hp2 (by decide)) ?_)))
    rintro v h3 ⟨rfl, hY3⟩
    by_cases e3 : (t_D b n [(1, 17, 0)] ((t_D b n [(0, 0, 9)] p).2)).1 = 0
    · rw [if_neg (fun q => q e3), e3]
      have hS3 := hY3.1 e3
      have hp3 := (t_D_le (b := b) [(1, 17, 0)] ((t_D b n [(0, 0, 9)] p).2) hp2).2
      have hS3' := hS3
      rw [show t_D b n [(0, 0, 7), (2, 44, 0), (0, 0, 7), (2, 58, 0), (0, 1, 3), (2, 44, 0), (0, 1, 3), (1, 18, 0), (0, 0, 9)] ((t_D b n [(1, 17, 0)] ((t_D b n [(0, 0, 9)] p).2)).2) = _ from t_D_app [(0, 0, 7)] [(2, 44, 0), (0, 0, 7), (2, 58, 0), (0, 1, 3), (2, 44, 0), (0, 1, 3), (1, 18, 0), (0, 0, 9)] ((t_D b n [(1, 17, 0)] ((t_D b n [(0, 0, 9)] p).2)).2)]
      obtain ⟨fs3, tp3, rw3, cw3, pa3, e433, fl3, f03, f13, f23, f33, ⟨f43, f53, f63, v73, f73, t13, t23, t33⟩, f83, f93, f103, f113, f123, f133, f143, f153, f163, f173, e443, hb3, e13, e453, rl3, hrI3, e463, cl3, hI3⟩ := hS3'
      refine w_ifc_f rfl (t := 186) rfl (by decide) (w_aload_n rfl rfl (w_ic 0 rfl rfl (w_bp 7 rfl rfl (w_virtual (dc := dd + 2) (M' := m_X3_takeNumber) rfl (g_vir (n := 3) rfl rfl (by simp [p_cat, p_bd, Value.category]) rfl rfl e433 rfl) rfl rfl (Nat.le_refl _) (c_takeN (dd := dd) (lo := 0) (hi := 7) hS3 hn hp3 (by decide) (by decide)) ?_))))
      rintro v h4 ⟨rfl, hY4⟩
      by_cases e4 : (t_D b n [(0, 0, 7)] ((t_D b n [(1, 17, 0)] ((t_D b n [(0, 0, 9)] p).2)).2)).1 = 0
      · rw [if_neg (fun q => q e4), e4]
        have hS4 := hY4.1 e4
        have hp4 := (t_D_le (b := b) [(0, 0, 7)] ((t_D b n [(1, 17, 0)] ((t_D b n [(0, 0, 9)] p).2)).2) hp3).2
        have hS4' := hS4
        rw [show t_D b n [(2, 44, 0), (0, 0, 7), (2, 58, 0), (0, 1, 3), (2, 44, 0), (0, 1, 3), (1, 18, 0), (0, 0, 9)] ((t_D b n [(0, 0, 7)] ((t_D b n [(1, 17, 0)] ((t_D b n [(0, 0, 9)] p).2)).2)).2) = _ from t_D_app [(2, 44, 0)] [(0, 0, 7), (2, 58, 0), (0, 1, 3), (2, 44, 0), (0, 1, 3), (1, 18, 0), (0, 0, 9)] ((t_D b n [(0, 0, 7)] ((t_D b n [(1, 17, 0)] ((t_D b n [(0, 0, 9)] p).2)).2)).2)]
        obtain ⟨fs4, tp4, rw4, cw4, pa4, e434, fl4, f04, f14, f24, f34, ⟨f44, f54, f64, v74, f74, t14, t24, t34⟩, f84, f94, f104, f114, f124, f134, f144, f154, f164, f174, e444, hb4, e14, e454, rl4, hrI4, e464, cl4, hI4⟩ := hS4'
        refine w_ifc_f rfl (t := 186) rfl (by decide) (w_aload_n rfl rfl (w_bp 44 rfl rfl (w_virtual (dc := dd + 2) (M' := m_X3_takeSign) rfl (g_vir (n := 2) rfl rfl (by simp [p_cat, p_bd, Value.category]) rfl rfl e434 rfl) rfl rfl (Nat.le_refl _) (c_takeS2 (dd := dd) (c := 44) hS4 hn hp4 (by decide)) ?_)))
        rintro v h5 ⟨rfl, hY5⟩
        by_cases e5 : (t_D b n [(2, 44, 0)] ((t_D b n [(0, 0, 7)] ((t_D b n [(1, 17, 0)] ((t_D b n [(0, 0, 9)] p).2)).2)).2)).1 = 0
        · rw [if_neg (fun q => q e5), e5]
          have hS5 := hY5.1 e5
          have hp5 := (t_D_le (b := b) [(2, 44, 0)] ((t_D b n [(0, 0, 7)] ((t_D b n [(1, 17, 0)] ((t_D b n [(0, 0, 9)] p).2)).2)).2) hp4).2
          have hS5' := hS5
          rw [show t_D b n [(0, 0, 7), (2, 58, 0), (0, 1, 3), (2, 44, 0), (0, 1, 3), (1, 18, 0), (0, 0, 9)] ((t_D b n [(2, 44, 0)] ((t_D b n [(0, 0, 7)] ((t_D b n [(1, 17, 0)] ((t_D b n [(0, 0, 9)] p).2)).2)).2)).2) = _ from t_D_app [(0, 0, 7)] [(2, 58, 0), (0, 1, 3), (2, 44, 0), (0, 1, 3), (1, 18, 0), (0, 0, 9)] ((t_D b n [(2, 44, 0)] ((t_D b n [(0, 0, 7)] ((t_D b n [(1, 17, 0)] ((t_D b n [(0, 0, 9)] p).2)).2)).2)).2)]
          obtain ⟨fs5, tp5, rw5, cw5, pa5, e435, fl5, f05, f15, f25, f35, ⟨f45, f55, f65, v75, f75, t15, t25, t35⟩, f85, f95, f105, f115, f125, f135, f145, f155, f165, f175, e445, hb5, e15, e455, rl5, hrI5, e465, cl5, hI5⟩ := hS5'
          refine w_ifc_f rfl (t := 186) rfl (by decide) (w_aload_n rfl rfl (w_ic 0 rfl rfl (w_bp 7 rfl rfl (w_virtual (dc := dd + 2) (M' := m_X3_takeNumber) rfl (g_vir (n := 3) rfl rfl (by simp [p_cat, p_bd, Value.category]) rfl rfl e435 rfl) rfl rfl (Nat.le_refl _) (c_takeN (dd := dd) (lo := 0) (hi := 7) hS5 hn hp5 (by decide) (by decide)) ?_))))
          rintro v h6 ⟨rfl, hY6⟩
          by_cases e6 : (t_D b n [(0, 0, 7)] ((t_D b n [(2, 44, 0)] ((t_D b n [(0, 0, 7)] ((t_D b n [(1, 17, 0)] ((t_D b n [(0, 0, 9)] p).2)).2)).2)).2)).1 = 0
          · rw [if_neg (fun q => q e6), e6]
            have hS6 := hY6.1 e6
            have hp6 := (t_D_le (b := b) [(0, 0, 7)] ((t_D b n [(2, 44, 0)] ((t_D b n [(0, 0, 7)] ((t_D b n [(1, 17, 0)] ((t_D b n [(0, 0, 9)] p).2)).2)).2)).2) hp5).2
            have hS6' := hS6
            rw [show t_D b n [(2, 58, 0), (0, 1, 3), (2, 44, 0), (0, 1, 3), (1, 18, 0), (0, 0, 9)] ((t_D b n [(0, 0, 7)] ((t_D b n [(2, 44, 0)] ((t_D b n [(0, 0, 7)] ((t_D b n [(1, 17, 0)] ((t_D b n [(0, 0, 9)] p).2)).2)).2)).2)).2) = _ from t_D_app [(2, 58, 0)] [(0, 1, 3), (2, 44, 0), (0, 1, 3), (1, 18, 0), (0, 0, 9)] ((t_D b n [(0, 0, 7)] ((t_D b n [(2, 44, 0)] ((t_D b n [(0, 0, 7)] ((t_D b n [(1, 17, 0)] ((t_D b n [(0, 0, 9)] p).2)).2)).2)).2)).2)]
            obtain ⟨fs6, tp6, rw6, cw6, pa6, e436, fl6, f06, f16, f26, f36, ⟨f46, f56, f66, v76, f76, t16, t26, t36⟩, f86, f96, f106, f116, f126, f136, f146, f156, f166, f176, e446, hb6, e16, e456, rl6, hrI6, e466, cl6, hI6⟩ := hS6'
            refine w_ifc_f rfl (t := 186) rfl (by decide) (w_aload_n rfl rfl (w_bp 58 rfl rfl (w_virtual (dc := dd + 2) (M' := m_X3_takeSign) rfl (g_vir (n := 2) rfl rfl (by simp [p_cat, p_bd, Value.category]) rfl rfl e436 rfl) rfl rfl (Nat.le_refl _) (c_takeS2 (dd := dd) (c := 58) hS6 hn hp6 (by decide)) ?_)))
            rintro v h7 ⟨rfl, hY7⟩
            by_cases e7 : (t_D b n [(2, 58, 0)] ((t_D b n [(0, 0, 7)] ((t_D b n [(2, 44, 0)] ((t_D b n [(0, 0, 7)] ((t_D b n [(1, 17, 0)] ((t_D b n [(0, 0, 9)] p).2)).2)).2)).2)).2)).1 = 0
            · rw [if_neg (fun q => q e7), e7]
              have hS7 := hY7.1 e7
              have hp7 := (t_D_le (b := b) [(2, 58, 0)] ((t_D b n [(0, 0, 7)] ((t_D b n [(2, 44, 0)] ((t_D b n [(0, 0, 7)] ((t_D b n [(1, 17, 0)] ((t_D b n [(0, 0, 9)] p).2)).2)).2)).2)).2) hp6).2
              have hS7' := hS7
              rw [show t_D b n [(0, 1, 3), (2, 44, 0), (0, 1, 3), (1, 18, 0), (0, 0, 9)] ((t_D b n [(2, 58, 0)] ((t_D b n [(0, 0, 7)] ((t_D b n [(2, 44, 0)] ((t_D b n [(0, 0, 7)] ((t_D b n [(1, 17, 0)] ((t_D b n [(0, 0, 9)] p).2)).2)).2)).2)).2)).2) = _ from t_D_app [(0, 1, 3)] [(2, 44, 0), (0, 1, 3), (1, 18, 0), (0, 0, 9)] ((t_D b n [(2, 58, 0)] ((t_D b n [(0, 0, 7)] ((t_D b n [(2, 44, 0)] ((t_D b n [(0, 0, 7)] ((t_D b n [(1, 17, 0)] ((t_D b n [(0, 0, 9)] p).2)).2)).2)).2)).2)).2)]
              obtain ⟨fs7, tp7, rw7, cw7, pa7, e437, fl7, f07, f17, f27, f37, ⟨f47, f57, f67, v77, f77, t17, t27, t37⟩, f87, f97, f107, f117, f127, f137, f147, f157, f167, f177, e447, hb7, e17, e457, rl7, hrI7, e467, cl7, hI7⟩ := hS7'
              refine w_ifc_f rfl (t := 186) rfl (by decide) (w_aload_n rfl rfl (w_ic 1 rfl rfl (w_ic 3 rfl rfl (w_virtual (dc := dd + 2) (M' := m_X3_takeNumber) rfl (g_vir (n := 3) rfl rfl (by simp [p_cat, p_bd, Value.category]) rfl rfl e437 rfl) rfl rfl (Nat.le_refl _) (c_takeN (dd := dd) (lo := 1) (hi := 3) hS7 hn hp7 (by decide) (by decide)) ?_))))
              rintro v h8 ⟨rfl, hY8⟩
              by_cases e8 : (t_D b n [(0, 1, 3)] ((t_D b n [(2, 58, 0)] ((t_D b n [(0, 0, 7)] ((t_D b n [(2, 44, 0)] ((t_D b n [(0, 0, 7)] ((t_D b n [(1, 17, 0)] ((t_D b n [(0, 0, 9)] p).2)).2)).2)).2)).2)).2)).1 = 0
              · rw [if_neg (fun q => q e8), e8]
                have hS8 := hY8.1 e8
                have hp8 := (t_D_le (b := b) [(0, 1, 3)] ((t_D b n [(2, 58, 0)] ((t_D b n [(0, 0, 7)] ((t_D b n [(2, 44, 0)] ((t_D b n [(0, 0, 7)] ((t_D b n [(1, 17, 0)] ((t_D b n [(0, 0, 9)] p).2)).2)).2)).2)).2)).2) hp7).2
                have hS8' := hS8
                rw [show t_D b n [(2, 44, 0), (0, 1, 3), (1, 18, 0), (0, 0, 9)] ((t_D b n [(0, 1, 3)] ((t_D b n [(2, 58, 0)] ((t_D b n [(0, 0, 7)] ((t_D b n [(2, 44, 0)] ((t_D b n [(0, 0, 7)] ((t_D b n [(1, 17, 0)] ((t_D b n [(0, 0, 9)] p).2)).2)).2)).2)).2)).2)).2) = _ from t_D_app [(2, 44, 0)] [(0, 1, 3), (1, 18, 0), (0, 0, 9)] ((t_D b n [(0, 1, 3)] ((t_D b n [(2, 58, 0)] ((t_D b n [(0, 0, 7)] ((t_D b n [(2, 44, 0)] ((t_D b n [(0, 0, 7)] ((t_D b n [(1, 17, 0)] ((t_D b n [(0, 0, 9)] p).2)).2)).2)).2)).2)).2)).2)]
                obtain ⟨fs8, tp8, rw8, cw8, pa8, e438, fl8, f08, f18, f28, f38, ⟨f48, f58, f68, v78, f78, t18, t28, t38⟩, f88, f98, f108, f118, f128, f138, f148, f158, f168, f178, e448, hb8, e18, e458, rl8, hrI8, e468, cl8, hI8⟩ := hS8'
                refine w_ifc_f rfl (t := 186) rfl (by decide) (w_aload_n rfl rfl (w_bp 44 rfl rfl (w_virtual (dc := dd + 2) (M' := m_X3_takeSign) rfl (g_vir (n := 2) rfl rfl (by simp [p_cat, p_bd, Value.category]) rfl rfl e438 rfl) rfl rfl (Nat.le_refl _) (c_takeS2 (dd := dd) (c := 44) hS8 hn hp8 (by decide)) ?_)))
                rintro v h9 ⟨rfl, hY9⟩
                by_cases e9 : (t_D b n [(2, 44, 0)] ((t_D b n [(0, 1, 3)] ((t_D b n [(2, 58, 0)] ((t_D b n [(0, 0, 7)] ((t_D b n [(2, 44, 0)] ((t_D b n [(0, 0, 7)] ((t_D b n [(1, 17, 0)] ((t_D b n [(0, 0, 9)] p).2)).2)).2)).2)).2)).2)).2)).1 = 0
                · rw [if_neg (fun q => q e9), e9]
                  have hS9 := hY9.1 e9
                  have hp9 := (t_D_le (b := b) [(2, 44, 0)] ((t_D b n [(0, 1, 3)] ((t_D b n [(2, 58, 0)] ((t_D b n [(0, 0, 7)] ((t_D b n [(2, 44, 0)] ((t_D b n [(0, 0, 7)] ((t_D b n [(1, 17, 0)] ((t_D b n [(0, 0, 9)] p).2)).2)).2)).2)).2)).2)).2) hp8).2
                  have hS9' := hS9
                  rw [show t_D b n [(0, 1, 3), (1, 18, 0), (0, 0, 9)] ((t_D b n [(2, 44, 0)] ((t_D b n [(0, 1, 3)] ((t_D b n [(2, 58, 0)] ((t_D b n [(0, 0, 7)] ((t_D b n [(2, 44, 0)] ((t_D b n [(0, 0, 7)] ((t_D b n [(1, 17, 0)] ((t_D b n [(0, 0, 9)] p).2)).2)).2)).2)).2)).2)).2)).2) = _ from t_D_app [(0, 1, 3)] [(1, 18, 0), (0, 0, 9)] ((t_D b n [(2, 44, 0)] ((t_D b n [(0, 1, 3)] ((t_D b n [(2, 58, 0)] ((t_D b n [(0, 0, 7)] ((t_D b n [(2, 44, 0)] ((t_D b n [(0, 0, 7)] ((t_D b n [(1, 17, 0)] ((t_D b n [(0, 0, 9)] p).2)).2)).2)).2)).2)).2)).2)).2)]
                  obtain ⟨fs9, tp9, rw9, cw9, pa9, e439, fl9, f09, f19, f29, f39, ⟨f49, f59, f69, v79, f79, t19, t29, t39⟩, f89, f99, f109, f119, f129, f139, f149, f159, f169, f179, e449, hb9, e19, e459, rl9, hrI9, e469, cl9, hI9⟩ := hS9'
                  refine w_ifc_f rfl (t := 186) rfl (by decide) (w_aload_n rfl rfl (w_ic 1 rfl rfl (w_ic 3 rfl rfl (w_virtual (dc := dd + 2) (M' := m_X3_takeNumber) rfl (g_vir (n := 3) rfl rfl (by simp [p_cat, p_bd, Value.category]) rfl rfl e439 rfl) rfl rfl (Nat.le_refl _) (c_takeN (dd := dd) (lo := 1) (hi := 3) hS9 hn hp9 (by decide) (by decide)) ?_))))
                  rintro v h10 ⟨rfl, hY10⟩
                  by_cases e10 : (t_D b n [(0, 1, 3)] ((t_D b n [(2, 44, 0)] ((t_D b n [(0, 1, 3)] ((t_D b n [(2, 58, 0)] ((t_D b n [(0, 0, 7)] ((t_D b n [(2, 44, 0)] ((t_D b n [(0, 0, 7)] ((t_D b n [(1, 17, 0)] ((t_D b n [(0, 0, 9)] p).2)).2)).2)).2)).2)).2)).2)).2)).1 = 0
                  · rw [if_neg (fun q => q e10), e10]
                    have hS10 := hY10.1 e10
                    have hp10 := (t_D_le (b := b) [(0, 1, 3)] ((t_D b n [(2, 44, 0)] ((t_D b n [(0, 1, 3)] ((t_D b n [(2, 58, 0)] ((t_D b n [(0, 0, 7)] ((t_D b n [(2, 44, 0)] ((t_D b n [(0, 0, 7)] ((t_D b n [(1, 17, 0)] ((t_D b n [(0, 0, 9)] p).2)).2)).2)).2)).2)).2)).2)).2) hp9).2
                    have hS10' := hS10
                    rw [show t_D b n [(1, 18, 0), (0, 0, 9)] ((t_D b n [(0, 1, 3)] ((t_D b n [(2, 44, 0)] ((t_D b n [(0, 1, 3)] ((t_D b n [(2, 58, 0)] ((t_D b n [(0, 0, 7)] ((t_D b n [(2, 44, 0)] ((t_D b n [(0, 0, 7)] ((t_D b n [(1, 17, 0)] ((t_D b n [(0, 0, 9)] p).2)).2)).2)).2)).2)).2)).2)).2)).2) = _ from t_D_app [(1, 18, 0)] [(0, 0, 9)] ((t_D b n [(0, 1, 3)] ((t_D b n [(2, 44, 0)] ((t_D b n [(0, 1, 3)] ((t_D b n [(2, 58, 0)] ((t_D b n [(0, 0, 7)] ((t_D b n [(2, 44, 0)] ((t_D b n [(0, 0, 7)] ((t_D b n [(1, 17, 0)] ((t_D b n [(0, 0, 9)] p).2)).2)).2)).2)).2)).2)).2)).2)).2)]
                    obtain ⟨fs10, tp10, rw10, cw10, pa10, e4310, fl10, f010, f110, f210, f310, ⟨f410, f510, f610, v710, f710, t110, t210, t310⟩, f810, f910, f1010, f1110, f1210, f1310, f1410, f1510, f1610, f1710, e4410, hb10, e110, e4510, rl10, hrI10, e4610, cl10, hI10⟩ := hS10'
                    refine w_ifc_f rfl (t := 186) rfl (by decide) (w_aload_n rfl rfl (w_bp 18 rfl rfl (w_virtual (dc := dd + 2) (M' := m_X3_takeWord) rfl (g_vir (n := 2) rfl rfl (by simp [p_cat, p_bd, Value.category]) rfl rfl e4310 rfl) rfl rfl (Nat.le_refl _) (c_takeW2 (dd := dd) (k := 18) hS10 hn hp10 (by decide)) ?_)))
                    rintro v h11 ⟨rfl, hY11⟩
                    by_cases e11 : (t_D b n [(1, 18, 0)] ((t_D b n [(0, 1, 3)] ((t_D b n [(2, 44, 0)] ((t_D b n [(0, 1, 3)] ((t_D b n [(2, 58, 0)] ((t_D b n [(0, 0, 7)] ((t_D b n [(2, 44, 0)] ((t_D b n [(0, 0, 7)] ((t_D b n [(1, 17, 0)] ((t_D b n [(0, 0, 9)] p).2)).2)).2)).2)).2)).2)).2)).2)).2)).1 = 0
                    · rw [if_neg (fun q => q e11), e11]
                      have hS11 := hY11.1 e11
                      have hp11 := (t_D_le (b := b) [(1, 18, 0)] ((t_D b n [(0, 1, 3)] ((t_D b n [(2, 44, 0)] ((t_D b n [(0, 1, 3)] ((t_D b n [(2, 58, 0)] ((t_D b n [(0, 0, 7)] ((t_D b n [(2, 44, 0)] ((t_D b n [(0, 0, 7)] ((t_D b n [(1, 17, 0)] ((t_D b n [(0, 0, 9)] p).2)).2)).2)).2)).2)).2)).2)).2)).2) hp10).2
                      have hS11' := hS11
                      obtain ⟨fs11, tp11, rw11, cw11, pa11, e4311, fl11, f011, f111, f211, f311, ⟨f411, f511, f611, v711, f711, t111, t211, t311⟩, f811, f911, f1011, f1111, f1211, f1311, f1411, f1511, f1611, f1711, e4411, hb11, e111, e4511, rl11, hrI11, e4611, cl11, hI11⟩ := hS11'
                      refine w_ifc_f rfl (t := 186) rfl (by decide) (w_aload_n rfl rfl (w_ic 0 rfl rfl (w_bp 9 rfl rfl (w_virtual (dc := dd + 2) (M' := m_X3_takeNumber) rfl (g_vir (n := 3) rfl rfl (by simp [p_cat, p_bd, Value.category]) rfl rfl e4311 rfl) rfl rfl (Nat.le_refl _) (c_takeN (dd := dd) (lo := 0) (hi := 9) hS11 hn hp11 (by decide) (by decide)) ?_))))
                      rintro v h12 ⟨rfl, hY12⟩
                      by_cases e12 : (t_D b n [(0, 0, 9)] ((t_D b n [(1, 18, 0)] ((t_D b n [(0, 1, 3)] ((t_D b n [(2, 44, 0)] ((t_D b n [(0, 1, 3)] ((t_D b n [(2, 58, 0)] ((t_D b n [(0, 0, 7)] ((t_D b n [(2, 44, 0)] ((t_D b n [(0, 0, 7)] ((t_D b n [(1, 17, 0)] ((t_D b n [(0, 0, 9)] p).2)).2)).2)).2)).2)).2)).2)).2)).2)).2)).1 = 0
                      · rw [e12]
                        exact w_ifc_f rfl (t := 186) rfl (by decide) (w_iconst rfl (w_goto rfl (t := 187) rfl (w_ireturnb rfl rfl rfl ⟨rfl, hY12⟩)))
                      · rw [t_beq0 e12]
                        exact w_ifc_t rfl (t := 186) rfl (by decide) (w_iconst rfl (w_ireturnb rfl rfl rfl ⟨rfl, hY12⟩))
                    · rw [if_pos e11, t_beq0 e11]
                      exact w_ifc_t rfl (t := 186) rfl (by decide) (w_iconst rfl (w_ireturnb rfl rfl rfl ⟨rfl, hY11⟩))
                  · rw [if_pos e10, t_beq0 e10]
                    exact w_ifc_t rfl (t := 186) rfl (by decide) (w_iconst rfl (w_ireturnb rfl rfl rfl ⟨rfl, hY10⟩))
                · rw [if_pos e9, t_beq0 e9]
                  exact w_ifc_t rfl (t := 186) rfl (by decide) (w_iconst rfl (w_ireturnb rfl rfl rfl ⟨rfl, hY9⟩))
              · rw [if_pos e8, t_beq0 e8]
                exact w_ifc_t rfl (t := 186) rfl (by decide) (w_iconst rfl (w_ireturnb rfl rfl rfl ⟨rfl, hY8⟩))
            · rw [if_pos e7, t_beq0 e7]
              exact w_ifc_t rfl (t := 186) rfl (by decide) (w_iconst rfl (w_ireturnb rfl rfl rfl ⟨rfl, hY7⟩))
          · rw [if_pos e6, t_beq0 e6]
            exact w_ifc_t rfl (t := 186) rfl (by decide) (w_iconst rfl (w_ireturnb rfl rfl rfl ⟨rfl, hY6⟩))
        · rw [if_pos e5, t_beq0 e5]
          exact w_ifc_t rfl (t := 186) rfl (by decide) (w_iconst rfl (w_ireturnb rfl rfl rfl ⟨rfl, hY5⟩))
      · rw [if_pos e4, t_beq0 e4]
        exact w_ifc_t rfl (t := 186) rfl (by decide) (w_iconst rfl (w_ireturnb rfl rfl rfl ⟨rfl, hY4⟩))
    · rw [if_pos e3, t_beq0 e3]
      exact w_ifc_t rfl (t := 186) rfl (by decide) (w_iconst rfl (w_ireturnb rfl rfl rfl ⟨rfl, hY3⟩))
  · rw [if_pos e2, t_beq0 e2]
    exact w_ifc_t rfl (t := 186) rfl (by decide) (w_iconst rfl (w_ireturnb rfl rfl rfl ⟨rfl, hY2⟩))
end RS13

/-! THE CLASS READS A LAW, further -/
section RS10
variable {dd n so m f : Nat} {b : Nat → Nat} {ml se ro fa pl : Value}
theorem c_B5_no {d i : Nat} {ls : p_Ls} {h : p_H} {Q : Option Value → p_H → Prop} (hi : i ≤ 300) (l2 : p_lk 2 ls = some (.int (l_b false))) (l3 : p_lk 3 ls = some (.int (Int32.ofNat i))) (hQ : Q (some (.int (l_b false))) h) : p_wp p_GT p_MT (dd + 4 * (8 - d) + 6) m_X3_readSum 8 ls [] h Q := by
  by_cases q : i < 300
  · exact w_iload_n rfl l3 (w_sp 300 rfl rfl (w_icmp_f rfl (t := 88) rfl (by simp only [p_cd, decide_eq_false_iff_not]; rw [Int32.le_iff_toInt_le, g_ofNat (by omega), g_ofNat (by omega)]; omega) (w_iload_n rfl l2 (w_ifc_t rfl (t := 88) rfl (by decide) (w_iload_n rfl l2 (w_ireturnb rfl rfl rfl hQ))))))
  · exact w_iload_n rfl l3 (w_sp 300 rfl rfl (w_icmp_t rfl (t := 88) rfl (by simp only [p_cd, decide_eq_true_eq]; rw [Int32.le_iff_toInt_le, g_ofNat (by omega), g_ofNat (by omega)]; omega) (w_iload_n rfl l2 (w_ireturnb rfl rfl rfl hQ))))
set_option maxRecDepth 100000 in
theorem c_B5_ok (hn : n ≤ 300) (hso : so < 100) (ih : c_B b n so m dd ml se ro fa pl f) : c_B5 b n so m dd ml se ro fa pl (f + 1) := by
  intro d p u i ls h r hr hf hp hd hi hu hS l0 l1 l2 l3
  rw [t_P5] at hr
  by_cases q : t_is b n p 43 = true ∨ t_is b n p 45 = true
  · rw [if_pos q] at hr
    have hpn : p < n := by rcases q with q | q <;> exact t_is_lt q
    have hx := t_x_lt (b := b) hpn
    have go : ∀ (e : Nat) (ls4 : p_Ls), p_lk 0 ls4 = some (.ref 43) → p_lk 1 ls4 = some (.int (Int32.ofNat d)) → p_lk 3 ls4 = some (.int (Int32.ofNat i)) → p_lk 4 ls4 = some (.int (Int32.ofNat e)) → p_wp p_GT p_MT (dd + 4 * (8 - d) + 6) m_X3_readSum 54 ls4 [] h (fun v h2 => v = some (.int (l_b (Nat.beq r.1 0))) ∧ c_R h2 b n p (u) m (Int32.ofNat so) ml se ro fa pl r ∧ (r.1 = 0 → p ≤ r.2 ∧ r.2 ≤ n)) := by
      intro e ls4 m0 m1 m3 m4
      have hS' := hS
      obtain ⟨fs, tp, rw, cw, pa, e43, fl, f0, f1, f2, f3, ⟨f4, f5, f6, v7, f7, t1, t2, t3⟩, f8, f9, f10, f11, f12, f13, f14, f15, f16, f17, e44, hb, e1, e45, rl, hrI, e46, cl, hI⟩ := hS
      refine w_aload_n rfl m0 (w_virtual (dc := dd + 4 * (8 - d) + 5) (M' := m_X3_step) rfl (g_vir (n := 1) rfl rfl (by simp [p_cat, p_bd, Value.category]) rfl rfl e43 rfl) rfl rfl (Nat.le_refl _) ((c_next (dd := dd) hS' hn hp).mono (by omega) (fun _ _ q => q)) ?_)
      rintro v h2 ⟨rfl, hS2⟩
      have hS2' := hS2
      obtain ⟨fs2, tp2, rw2, cw2, pa2, e432, fl2, f02, f12, f22, f32, ⟨f42, f52, f62, v72, f72, t12, t22, t32⟩, f82, f92, f102, f112, f122, f132, f142, f152, f162, f172, e442, hb2, e12, e452, rl2, hrI2, e462, cl2, hI2⟩ := hS2'
      refine w_aload_n rfl m0 (w_iload_n rfl m1 (w_virtual (dc := dd + 4 * (8 - d) + 5) (M' := m_X3_readProduct) rfl (g_vir (n := 2) rfl rfl (by simp [p_cat, p_bd, Value.category]) rfl rfl e432 rfl) rfl rfl (Nat.le_refl _) (ih.2.1 d 0 (t_x b n p) u false _ _ rfl (by omega) hx.2 hd rfl (by omega) hS2) ?_))
      rintro v h3 ⟨rfl, hR, hB⟩
      generalize t_P b n (Nat.beq so 1) f 1 d 0 (t_x b n p) = s at hr hR hB
      by_cases e0 : s.1 = 0
      · rw [if_neg (fun q => q e0)] at hr
        obtain ⟨u3, hu3, hS3⟩ := hR.1 e0
        have hB := hB e0
        rw [e0]
        have hS3' := hS3
        obtain ⟨fs3, tp3, rw3, cw3, pa3, e433, fl3, f03, f13, f23, f33, ⟨f43, f53, f63, v73, f73, t13, t23, t33⟩, f83, f93, f103, f113, f123, f133, f143, f153, f163, f173, e443, hb3, e13, e453, rl3, hrI3, e463, cl3, hI3⟩ := hS3'
        refine w_ifc_f rfl (t := 80) rfl (by decide) (w_aload_n rfl m0 (w_iload rfl m4 (w_ic 0 rfl rfl (w_virtual (dc := dd + 4 * (8 - d) + 5) (M' := m_X3_make) rfl (g_vir (n := 3) rfl rfl (by simp [p_cat, p_bd, Value.category]) rfl rfl e433 rfl) rfl rfl (Nat.le_refl _) ((c_make (dd := dd) hS3 (by omega)).mono (by omega) (fun _ _ q => q)) ?_))))
        rintro v h4 ⟨rfl, hS4⟩
        refine w_ifc_f rfl (t := 80) rfl (by decide) (w_ic 1 rfl rfl (w_goto rfl (t := 81) rfl (w_istore_n rfl (by decide) (w_iincN rfl (w_s1 m3 rfl (by decide)) (by decide) (w_goto rfl (t := 8) rfl ?_)))))
        refine (ih.2.2.2.2.1 d s.2 (u3 + 1) (i + 1) _ h4 r hr (by omega) hB.2 hd (by omega) (by omega) hS4 (w_s1 (w_s1 m0 rfl (by decide)) rfl (by decide)) (w_s1 (w_s1 m1 rfl (by decide)) rfl (by decide)) (w_s1 p_lk_s1 rfl (by decide)) p_lk_s1).mono (by omega) ?_
        rintro v h5 ⟨rfl, hR5, hB5⟩
        exact ⟨rfl, c_R_b (by omega) hR5, fun e => by have := hB5 e; omega⟩
      · rw [if_pos e0] at hr
        subst hr
        rw [t_beq0 e0]
        exact w_ifc_t rfl (t := 80) rfl (by decide) (w_ic 0 rfl rfl (w_istore_n rfl (by decide) (w_iincN rfl (w_s1 m3 rfl (by decide)) (by decide) (w_goto rfl (t := 8) rfl (c_B5_no (i := i + 1) (by omega) (w_s1 p_lk_s1 rfl (by decide)) p_lk_s1 ⟨rfl, c_R_f e0 hR, fun e => absurd e e0⟩)))))
    cases q1 : t_is b n p 43 with
    | true =>
      have hS' := hS
      obtain ⟨fs, tp, rw, cw, pa, e43, fl, f0, f1, f2, f3, ⟨f4, f5, f6, v7, f7, t1, t2, t3⟩, f8, f9, f10, f11, f12, f13, f14, f15, f16, f17, e44, hb, e1, e45, rl, hrI, e46, cl, hI⟩ := hS
      refine w_iload_n rfl l3 (w_sp 300 rfl rfl (w_icmp_f rfl (t := 88) rfl (by simp only [p_cd, decide_eq_false_iff_not]; rw [Int32.le_iff_toInt_le, g_ofNat (by omega), g_ofNat (by omega)]; omega) (w_iload_n rfl l2 (w_ifc_f rfl (t := 88) rfl (by decide) (w_aload_n rfl l0 (w_bp 43 rfl rfl (w_virtual (dc := dd + 4 * (8 - d) + 5) (M' := m_X3_isSign) rfl (g_vir (n := 2) rfl rfl (by simp [p_cat, p_bd, Value.category]) rfl rfl e43 rfl) rfl rfl (Nat.le_refl _) (c_isS (c := 43) hS' (by decide)) ?_)))))))
      rintro v h2 ⟨rfl, rfl⟩
      rw [q1]
      refine w_ifc_t rfl (t := 37) rfl (by decide) (w_aload_n rfl l0 (w_bp 43 rfl rfl (w_virtual (dc := dd + 4 * (8 - d) + 5) (M' := m_X3_isSign) rfl (g_vir (n := 2) rfl rfl (by simp [p_cat, p_bd, Value.category]) rfl rfl e43 rfl) rfl rfl (Nat.le_refl _) (c_isS (c := 43) hS' (by decide)) ?_)))
      rintro v h2 ⟨rfl, rfl⟩
      rw [q1]
      exact w_ifc_f rfl (t := 50) rfl (by decide) (w_ic 5 rfl rfl (w_goto rfl (t := 52) rfl (w_istore rfl (by decide) (go _ _ (w_s1 l0 rfl (by decide)) (w_s1 l1 rfl (by decide)) (w_s1 l3 rfl (by decide)) p_lk_s1))))
    | false =>
      have hS' := hS
      obtain ⟨fs, tp, rw, cw, pa, e43, fl, f0, f1, f2, f3, ⟨f4, f5, f6, v7, f7, t1, t2, t3⟩, f8, f9, f10, f11, f12, f13, f14, f15, f16, f17, e44, hb, e1, e45, rl, hrI, e46, cl, hI⟩ := hS
      refine w_iload_n rfl l3 (w_sp 300 rfl rfl (w_icmp_f rfl (t := 88) rfl (by simp only [p_cd, decide_eq_false_iff_not]; rw [Int32.le_iff_toInt_le, g_ofNat (by omega), g_ofNat (by omega)]; omega) (w_iload_n rfl l2 (w_ifc_f rfl (t := 88) rfl (by decide) (w_aload_n rfl l0 (w_bp 43 rfl rfl (w_virtual (dc := dd + 4 * (8 - d) + 5) (M' := m_X3_isSign) rfl (g_vir (n := 2) rfl rfl (by simp [p_cat, p_bd, Value.category]) rfl rfl e43 rfl) rfl rfl (Nat.le_refl _) (c_isS (c := 43) hS' (by decide)) ?_)))))))
      rintro v h2 ⟨rfl, rfl⟩
      rw [q1]
      refine w_ifc_f rfl (t := 37) rfl (by decide) (w_aload_n rfl l0 (w_bp 45 rfl rfl (w_virtual (dc := dd + 4 * (8 - d) + 5) (M' := m_X3_isSign) rfl (g_vir (n := 2) rfl rfl (by simp [p_cat, p_bd, Value.category]) rfl rfl e43 rfl) rfl rfl (Nat.le_refl _) (c_isS (c := 45) hS' (by decide)) ?_)))
      rintro v h2 ⟨rfl, rfl⟩
      rw [q.resolve_left (by rw [q1]; decide)]
      refine w_ifc_f rfl (t := 88) rfl (by decide) (w_aload_n rfl l0 (w_bp 43 rfl rfl (w_virtual (dc := dd + 4 * (8 - d) + 5) (M' := m_X3_isSign) rfl (g_vir (n := 2) rfl rfl (by simp [p_cat, p_bd, Value.category]) rfl rfl e43 rfl) rfl rfl (Nat.le_refl _) (c_isS (c := 43) hS' (by decide)) ?_)))
      rintro v h2 ⟨rfl, rfl⟩
      rw [q1]
      exact w_ifc_t rfl (t := 50) rfl (by decide) (w_bp 6 rfl rfl (w_istore rfl (by decide) (go _ _ (w_s1 l0 rfl (by decide)) (w_s1 l1 rfl (by decide)) (w_s1 l3 rfl (by decide)) p_lk_s1)))
  · rw [if_neg q] at hr
    subst hr
    have q1 : t_is b n p 43 = false := Bool.eq_false_iff.mpr (fun e => q (Or.inl e))
    have q2 : t_is b n p 45 = false := Bool.eq_false_iff.mpr (fun e => q (Or.inr e))
    by_cases hi3 : i < 300
    · have hS' := hS
      obtain ⟨fs, tp, rw, cw, pa, e43, fl, f0, f1, f2, f3, ⟨f4, f5, f6, v7, f7, t1, t2, t3⟩, f8, f9, f10, f11, f12, f13, f14, f15, f16, f17, e44, hb, e1, e45, rl, hrI, e46, cl, hI⟩ := hS
      refine w_iload_n rfl l3 (w_sp 300 rfl rfl (w_icmp_f rfl (t := 88) rfl (by simp only [p_cd, decide_eq_false_iff_not]; rw [Int32.le_iff_toInt_le, g_ofNat (by omega), g_ofNat (by omega)]; omega) (w_iload_n rfl l2 (w_ifc_f rfl (t := 88) rfl (by decide) (w_aload_n rfl l0 (w_bp 43 rfl rfl (w_virtual (dc := dd + 4 * (8 - d) + 5) (M' := m_X3_isSign) rfl (g_vir (n := 2) rfl rfl (by simp [p_cat, p_bd, Value.category]) rfl rfl e43 rfl) rfl rfl (Nat.le_refl _) (c_isS (c := 43) hS' (by decide)) ?_)))))))
      rintro v h2 ⟨rfl, rfl⟩
      rw [q1]
      refine w_ifc_f rfl (t := 37) rfl (by decide) (w_aload_n rfl l0 (w_bp 45 rfl rfl (w_virtual (dc := dd + 4 * (8 - d) + 5) (M' := m_X3_isSign) rfl (g_vir (n := 2) rfl rfl (by simp [p_cat, p_bd, Value.category]) rfl rfl e43 rfl) rfl rfl (Nat.le_refl _) (c_isS (c := 45) hS' (by decide)) ?_)))
      rintro v h2 ⟨rfl, rfl⟩
      rw [q2]
      exact w_ifc_t rfl (t := 88) rfl (by decide) (w_iload_n rfl l2 (w_ireturnb rfl rfl rfl ⟨rfl, c_R_yes rfl (Nat.le_refl _) hS', fun _ => ⟨Nat.le_refl _, hp⟩⟩))
    · have hS' := hS
      obtain ⟨fs, tp, rw, cw, pa, e43, fl, f0, f1, f2, f3, ⟨f4, f5, f6, v7, f7, t1, t2, t3⟩, f8, f9, f10, f11, f12, f13, f14, f15, f16, f17, e44, hb, e1, e45, rl, hrI, e46, cl, hI⟩ := hS
      exact w_iload_n rfl l3 (w_sp 300 rfl rfl (w_icmp_t rfl (t := 88) rfl (by simp only [p_cd, decide_eq_true_eq]; rw [Int32.le_iff_toInt_le, g_ofNat (by omega), g_ofNat (by omega)]; omega) (w_iload_n rfl l2 (w_ireturnb rfl rfl rfl ⟨rfl, c_R_yes rfl (Nat.le_refl _) hS', fun _ => ⟨Nat.le_refl _, hp⟩⟩))))
theorem c_B2_ok (hn : n ≤ 300) (hso : so < 100) (ih : c_B b n so m dd ml se ro fa pl f) : c_B2 b n so m dd ml se ro fa pl (f + 1) := by
  intro d k p u sv h r hr hf hp hd hsv hu hS
  rw [t_P2] at hr
  have hS' := hS
  obtain ⟨fs, tp, rw, cw, pa, e43, fl, f0, f1, f2, f3, ⟨f4, f5, f6, v7, f7, t1, t2, t3⟩, f8, f9, f10, f11, f12, f13, f14, f15, f16, f17, e44, hb, e1, e45, rl, hrI, e46, cl, hI⟩ := hS'
  refine w_aload_n rfl rfl (w_iload_n rfl rfl (w_virtual (dc := dd + 4 * (8 - d) + 5) (M' := m_X3_readProduct) rfl (g_vir (n := 2) rfl rfl (by simp [p_cat, p_bd, Value.category]) rfl rfl e43 rfl) rfl rfl (Nat.le_refl _) (ih.2.1 d k p u sv h _ rfl (by omega) hp hd hsv hu hS) ?_))
  rintro v h2 ⟨rfl, hR, hB⟩
  refine w_istore_n rfl (by decide) (w_ic 0 rfl rfl (w_istore_n rfl (by decide) ?_))
  generalize t_P b n (Nat.beq so 1) f 1 d k p = s at hr hR hB
  by_cases e0 : s.1 = 0
  · rw [if_neg (fun q => q e0)] at hr
    obtain ⟨u3, hu3, hS3⟩ := hR.1 e0
    have hB := hB e0
    rw [e0]
    refine (ih.2.2.2.2.1 d s.2 u3 0 _ h2 r hr (by omega) hB.2 hd (Nat.zero_le _) (by omega) hS3 (w_s1 (w_s1 rfl rfl (by decide)) rfl (by decide)) (w_s1 (w_s1 rfl rfl (by decide)) rfl (by decide)) (w_s1 p_lk_s1 rfl (by decide)) p_lk_s1).mono (Nat.le_refl _) ?_
    rintro v h5 ⟨rfl, hR5, hB5⟩
    exact ⟨rfl, c_R_b (by omega) hR5, fun e => by have := hB5 e; omega⟩
  · rw [if_pos e0] at hr
    subst hr
    rw [t_beq0 e0]
    exact c_B5_no (i := 0) (by omega) (w_s1 p_lk_s1 rfl (by decide)) p_lk_s1 ⟨rfl, c_R_f e0 hR, fun e => absurd e e0⟩
end RS10

/-! THE CLASS READS A LAW, further -/
section RS10
variable {dd n so m f : Nat} {b : Nat → Nat} {ml se ro fa pl : Value}
set_option maxRecDepth 100000 in
theorem c_B0_neg (hn : n ≤ 300) (hso : so < 100) (ih : c_B b n so m dd ml se ro fa pl f) {d p u : Nat} {ls : p_Ls} {h2 : p_H} {r : Nat × Nat} (hf : 4 * (n - p) + 1 ≤ f + 1) (hp : p ≤ n) (hd : d < 8) (hu : u + 2 ≤ 2 * p) (hx : p < t_x b n p ∧ t_x b n p ≤ n) (hS2 : c_S h2 b n (t_x b n p) u m ((Int32.ofNat so)) false ml se ro fa pl) (ho : t_op b n p = true) (h20 : ¬ t_wd b n p 20 = true) (e45 : b p = 45) (hr : t_P b n (Nat.beq so 1) f 0 (d + 1) 0 (t_x b n p) = r) (l0 : p_lk 0 ls = some (.ref 43)) (l1 : p_lk 1 ls = some (.int (Int32.ofNat d))) (l2 : p_lk 2 ls = some (.int (l_b (t_op b n p)))) (l5 : p_lk 5 ls = some (.int (l_b (t_wd b n p 20)))) (l6 : p_lk 6 ls = some (.int (Int32.ofNat (b p)))) : p_wp p_GT p_MT (dd + 4 * (8 - d) + 4) m_X3_readOne 100 ls [] h2 (fun v h2 => v = some (.int (l_b (Nat.beq r.1 0))) ∧ c_R h2 b n p (u) m (Int32.ofNat so) ml se ro fa pl r ∧ (r.1 = 0 → p < r.2 ∧ r.2 ≤ n)) := by
  rw [ho] at l2
  rw [Bool.eq_false_iff.mpr h20] at l5
  have hS2' := hS2
  obtain ⟨fs2, tp2, rw2, cw2, pa2, e432, fl2, f02, f12, f22, f32, ⟨f42, f52, f62, v72, f72, t12, t22, t32⟩, f82, f92, f102, f112, f122, f132, f142, f152, f162, f172, e442, hb2, e12, e452, rl2, hrI2, e462, cl2, hI2⟩ := hS2'
  refine w_iload_n rfl l2 (w_ifc_t rfl (t := 129) rfl (by decide) (w_iload rfl l5 (w_ifc_t rfl (t := 142) rfl (by decide) (w_iload rfl l6 (w_bp 45 rfl rfl (w_icmp_f rfl (t := 176) rfl (by rw [e45]; decide) (w_aload_n rfl l0 (w_iload_n rfl l1 (w_ic 1 rfl rfl (w_addN rfl (w_virtual (dc := dd + 4 * (8 - d) + 3) (M' := m_X3_readOne) rfl (g_vir (n := 2) rfl rfl (by simp [p_cat, p_bd, Value.category]) rfl rfl e432 rfl) rfl rfl (by omega) ((ih.1 (d + 1) 0 (t_x b n p) u false h2 r hr (by omega) hx.2 (by omega) rfl (by omega) hS2).mono (by omega) (fun _ _ q => q)) ?_)))))))))))
  rintro v h4 ⟨rfl, hR4, hB4⟩
  by_cases e0 : r.1 = 0
  · obtain ⟨u4, hu4, hS4⟩ := hR4.1 e0
    have hB4 := hB4 e0
    have hS4' := hS4
    rw [e0]
    obtain ⟨fs4, tp4, rw4, cw4, pa4, e434, fl4, f04, f14, f24, f34, ⟨f44, f54, f64, v74, f74, t14, t24, t34⟩, f84, f94, f104, f114, f124, f134, f144, f154, f164, f174, e444, hb4, e14, e454, rl4, hrI4, e464, cl4, hI4⟩ := hS4'
    refine w_ifc_f rfl (t := 172) rfl (by decide) (w_aload_n rfl l0 (w_ic 2 rfl rfl (w_ic 0 rfl rfl (w_virtual (dc := dd + 4 * (8 - d) + 3) (M' := m_X3_make) rfl (g_vir (n := 3) rfl rfl (by simp [p_cat, p_bd, Value.category]) rfl rfl e434 rfl) rfl rfl (Nat.le_refl _) ((c_make (dd := dd) hS4 (by omega)).mono (by omega) (fun _ _ q => q)) ?_))))
    rintro v h5 ⟨rfl, hS5⟩
    exact w_ifc_f rfl (t := 172) rfl (by decide) (w_iconst rfl (w_goto rfl (t := 200) rfl (w_ireturnb rfl rfl rfl ⟨rfl, c_R_yes e0 (by omega) hS5, fun _ => by omega⟩)))
  · rw [t_beq0 e0]
    exact w_ifc_t rfl (t := 172) rfl (by decide) (w_iconst rfl (w_goto rfl (t := 200) rfl (w_ireturnb rfl rfl rfl ⟨rfl, c_R_f e0 hR4, fun e => absurd e e0⟩)))
set_option maxRecDepth 100000 in
theorem c_B0_par (hn : n ≤ 300) (hso : so < 100) (ih : c_B b n so m dd ml se ro fa pl f) {d p u : Nat} {ls : p_Ls} {h2 : p_H} {r : Nat × Nat} (hf : 4 * (n - p) + 1 ≤ f + 1) (hp : p ≤ n) (hd : d < 8) (hu : u + 2 ≤ 2 * p) (hx : p < t_x b n p ∧ t_x b n p ≤ n) (hS2 : c_S h2 b n (t_x b n p) u m ((Int32.ofNat so)) false ml se ro fa pl) (ho : t_op b n p = true) (h20 : ¬ t_wd b n p 20 = true) (hb8 : b p < 256) (e45 : ¬ b p = 45) (hr : (if (t_P b n (Nat.beq so 1) f 2 (d + 1) 0 (t_x b n p)).1 ≠ 0 then t_P b n (Nat.beq so 1) f 2 (d + 1) 0 (t_x b n p) else if t_is b n (t_P b n (Nat.beq so 1) f 2 (d + 1) 0 (t_x b n p)).2 41 = true then (0, t_x b n (t_P b n (Nat.beq so 1) f 2 (d + 1) 0 (t_x b n p)).2) else (1, (t_P b n (Nat.beq so 1) f 2 (d + 1) 0 (t_x b n p)).2)) = r) (l0 : p_lk 0 ls = some (.ref 43)) (l1 : p_lk 1 ls = some (.int (Int32.ofNat d))) (l2 : p_lk 2 ls = some (.int (l_b (t_op b n p)))) (l5 : p_lk 5 ls = some (.int (l_b (t_wd b n p 20)))) (l6 : p_lk 6 ls = some (.int (Int32.ofNat (b p)))) : p_wp p_GT p_MT (dd + 4 * (8 - d) + 4) m_X3_readOne 100 ls [] h2 (fun v h2 => v = some (.int (l_b (Nat.beq r.1 0))) ∧ c_R h2 b n p (u) m (Int32.ofNat so) ml se ro fa pl r ∧ (r.1 = 0 → p < r.2 ∧ r.2 ≤ n)) := by
  rw [ho] at l2
  rw [Bool.eq_false_iff.mpr h20] at l5
  have hS2' := hS2
  obtain ⟨fs2, tp2, rw2, cw2, pa2, e432, fl2, f02, f12, f22, f32, ⟨f42, f52, f62, v72, f72, t12, t22, t32⟩, f82, f92, f102, f112, f122, f132, f142, f152, f162, f172, e442, hb2, e12, e452, rl2, hrI2, e462, cl2, hI2⟩ := hS2'
  refine w_iload_n rfl l2 (w_ifc_t rfl (t := 129) rfl (by decide) (w_iload rfl l5 (w_ifc_t rfl (t := 142) rfl (by decide) (w_iload rfl l6 (w_bp 45 rfl rfl (w_icmp_t rfl (t := 176) rfl (by simp only [p_cd, decide_eq_true_eq]; exact b_ofNat_ne (by omega) (by omega) e45) (w_aload_n rfl l0 (w_iload_n rfl l1 (w_ic 1 rfl rfl (w_addN rfl (w_virtual (dc := dd + 4 * (8 - d) + 3) (M' := m_X3_readSum) rfl (g_vir (n := 2) rfl rfl (by simp [p_cat, p_bd, Value.category]) rfl rfl e432 rfl) rfl rfl (by omega) ((ih.2.2.1 (d + 1) 0 (t_x b n p) u false h2 _ rfl (by omega) hx.2 (by omega) rfl (by omega) hS2).mono (by omega) (fun _ _ q => q)) ?_)))))))))))
  rintro v h4 ⟨rfl, hR4, hB4⟩
  generalize t_P b n (Nat.beq so 1) f 2 (d + 1) 0 (t_x b n p) = s at hr hR4 hB4
  by_cases e0 : s.1 = 0
  · rw [if_neg (fun q => q e0)] at hr
    obtain ⟨u4, hu4, hS4⟩ := hR4.1 e0
    have hB4 := hB4 e0
    have hS4' := hS4
    rw [e0]
    obtain ⟨fs4, tp4, rw4, cw4, pa4, e434, fl4, f04, f14, f24, f34, ⟨f44, f54, f64, v74, f74, t14, t24, t34⟩, f84, f94, f104, f114, f124, f134, f144, f154, f164, f174, e444, hb4, e14, e454, rl4, hrI4, e464, cl4, hI4⟩ := hS4'
    refine w_ifc_f rfl (t := 199) rfl (by decide) (w_aload_n rfl l0 (w_bp 41 rfl rfl (w_virtual (dc := dd + 4 * (8 - d) + 3) (M' := m_X3_takeSign) rfl (g_vir (n := 2) rfl rfl (by simp [p_cat, p_bd, Value.category]) rfl rfl e434 rfl) rfl rfl (Nat.le_refl _) ((c_takeS (dd := dd) (c := 41) hS4 (by decide) hn hB4.2).mono (by omega) (fun _ _ q => q)) ?_)))
    rintro v h5 (⟨h41, rfl, hS5⟩ | ⟨h41, rfl, hS5⟩)
    · rw [if_pos h41] at hr
      subst hr
      have hy := t_x_lt (b := b) (t_is_lt h41)
      exact w_ifc_f rfl (t := 199) rfl (by decide) (w_iconst rfl (w_goto rfl (t := 200) rfl (w_ireturnb rfl rfl rfl ⟨rfl, c_R_yes rfl (by show u4 + 2 * p ≤ u + 2 * t_x b n s.2; omega) hS5, fun _ => ⟨by show p < t_x b n s.2; omega, hy.2⟩⟩)))
    · rw [if_neg (by rw [h41]; decide)] at hr
      subst hr
      exact w_ifc_t rfl (t := 199) rfl (by decide) (w_iconst rfl (w_ireturnb rfl rfl rfl ⟨rfl, c_R_no (by simp) hS5, fun e => absurd e (by simp)⟩))
  · rw [if_pos e0] at hr
    subst hr
    rw [t_beq0 e0]
    exact w_ifc_t rfl (t := 199) rfl (by decide) (w_iconst rfl (w_ireturnb rfl rfl rfl ⟨rfl, c_R_f e0 hR4, fun e => absurd e e0⟩))
end RS10

/-! THE CLASS READS A LAW, further -/
section RS10
variable {dd n so m f : Nat} {b : Nat → Nat} {ml se ro fa pl : Value}
set_option maxRecDepth 100000 in
theorem c_B6_ca (hn : n ≤ 300) (hso : so < 100) (ih : c_B b n so m dd ml se ro fa pl f) {d k p p2 u u4 : Nat} {y : Int32} {ls : p_Ls} {h4 : p_H} {r : Nat × Nat} (hf : 4 * (n - p) + 4 ≤ f + 1) (hp : p ≤ n) (hd1 : 1 ≤ d) (hd : d ≤ 8) (hk1 : 1 ≤ k) (hk7 : k ≤ 7) (hk6 : k ≠ 7) (hu : u + 3 ≤ 2 * p) (hu4 : u4 + 2 * p ≤ u + 1 + 2 * p2) (hB : p < p2 ∧ p2 ≤ n) (hS4 : c_S h4 b n p2 u4 m ((Int32.ofNat so)) false ml se ro fa pl) (h44 : t_is b n p2 44 = true) (hr : t_P b n (Nat.beq so 1) f 6 d (k + 1) (t_x b n p2) = r) (l0 : p_lk 0 ls = some (.ref 43)) (l1 : p_lk 1 ls = some (.int (Int32.ofNat d))) (l2 : p_lk 2 ls = some (.int y)) (l3 : p_lk 3 ls = some (.int (Int32.ofNat k))) (l4 : p_lk 4 ls = some (.int (Int32.ofNat u))) : p_wp p_GT p_MT (dd + 4 * (9 - d) + 3) m_X3_readChoice 97 ls [] h4 (fun v h2 => v = some (.int (l_b (Nat.beq r.1 0))) ∧ c_R h2 b n p (u + 1) m (Int32.ofNat so) ml se ro fa pl r ∧ (r.1 = 0 → p < r.2 ∧ r.2 ≤ n)) := by
  have hy := t_x_lt (b := b) (t_is_lt h44)
  have hS4' := hS4
  obtain ⟨fs4, tp4, rw4, cw4, pa4, e434, fl4, f04, f14, f24, f34, ⟨f44, f54, f64, v74, f74, t14, t24, t34⟩, f84, f94, f104, f114, f124, f134, f144, f154, f164, f174, e444, hb4, e14, e454, rl4, hrI4, e464, cl4, hI4⟩ := hS4'
  refine w_aload_n rfl l0 (w_ic 3 rfl rfl (w_iload_n rfl l2 (w_ic 1 rfl rfl (w_iadd rfl (w_virtual (dc := dd + 4 * (9 - d) + 2) (M' := m_X3_make) rfl (g_vir (n := 3) rfl rfl (by simp [p_cat, p_bd, Value.category]) rfl rfl e434 rfl) rfl rfl (Nat.le_refl _) ((c_make (dd := dd) hS4 (by omega)).mono (by omega) (fun _ _ q => q)) ?_)))))
  rintro v h5 ⟨rfl, hS5⟩
  have hS5' := hS5
  obtain ⟨fs5, tp5, rw5, cw5, pa5, e435, fl5, f05, f15, f25, f35, ⟨f45, f55, f65, v75, f75, t15, t25, t35⟩, f85, f95, f105, f115, f125, f135, f145, f155, f165, f175, e445, hb5, e15, e455, rl5, hrI5, e465, cl5, hI5⟩ := hS5'
  refine w_pop rfl (w_aload_n rfl l0 (w_getf rfl rfl e435 f155 (w_ic 1 rfl rfl (w_isub rfl (w_istore_n rfl (by decide) (w_aload_n rfl (w_s1 l0 rfl (by decide)) (w_iload rfl (w_s1 l4 rfl (by decide)) (w_aload_n rfl (w_s1 l0 rfl (by decide)) (w_getf rfl rfl e435 f155 (w_virtual (dc := dd + 4 * (9 - d) + 2) (M' := m_X3_lead) rfl (g_vir (n := 3) rfl rfl (by simp [p_cat, p_bd, Value.category]) rfl rfl e435 rfl) rfl rfl (Nat.le_refl _) ((c_lead (dd := dd) hS5 (by omega)).mono (by omega) (fun _ _ q => q)) ?_))))))))))
  rintro v h6 ⟨rfl, hS6⟩
  have hS6' := hS6
  obtain ⟨fs6, tp6, rw6, cw6, pa6, e436, fl6, f06, f16, f26, f36, ⟨f46, f56, f66, v76, f76, t16, t26, t36⟩, f86, f96, f106, f116, f126, f136, f146, f156, f166, f176, e446, hb6, e16, e456, rl6, hrI6, e466, cl6, hI6⟩ := hS6'
  refine w_aload_n rfl (w_s1 l0 rfl (by decide)) (w_virtual (dc := dd + 4 * (9 - d) + 2) (M' := m_X3_step) rfl (g_vir (n := 1) rfl rfl (by simp [p_cat, p_bd, Value.category]) rfl rfl e436 rfl) rfl rfl (Nat.le_refl _) ((c_next (dd := dd) hS6 hn hB.2).mono (by omega) (fun _ _ q => q)) ?_)
  rintro v h7 ⟨rfl, hS7⟩
  refine w_iincN rfl (w_s1 l3 rfl (by decide)) (by decide) (w_goto rfl (t := 32) rfl ?_)
  have q6 := ih.2.2.2.2.2
  refine (q6 d (k + 1) (t_x b n p2) (u4 + 1) _ _ h7 r hr (by omega) hy.2 hd1 hd (by omega) (by omega) (by omega) hS7 (w_s1 (w_s1 l0 rfl (by decide)) rfl (by decide)) (w_s1 (w_s1 l1 rfl (by decide)) rfl (by decide)) (w_s1 p_lk_s1 rfl (by decide)) p_lk_s1).mono (Nat.le_refl _) ?_
  rintro v h8 ⟨rfl, hR8, hB8⟩
  exact ⟨rfl, c_R_b (by omega) hR8, fun e => by have := hB8 e; omega⟩
theorem c_B6_en (hn : n ≤ 300) (hso : so < 100) (ih : c_B b n so m dd ml se ro fa pl f) {d k p p2 u u4 : Nat} {y : Int32} {ls : p_Ls} {h4 : p_H} {r : Nat × Nat} (hf : 4 * (n - p) + 4 ≤ f + 1) (hp : p ≤ n) (hd1 : 1 ≤ d) (hd : d ≤ 8) (hk1 : 1 ≤ k) (hk7 : k ≤ 7) (hk6 : k ≠ 7) (hu : u + 3 ≤ 2 * p) (hu4 : u4 + 2 * p ≤ u + 1 + 2 * p2) (hB : p < p2 ∧ p2 ≤ n) (hS4 : c_S h4 b n p2 u4 m ((Int32.ofNat so)) false ml se ro fa pl) (hr : (if t_is b n p2 41 = true then (0, t_x b n p2) else (1, p2)) = r) (l0 : p_lk 0 ls = some (.ref 43)) (l1 : p_lk 1 ls = some (.int (Int32.ofNat d))) (l2 : p_lk 2 ls = some (.int y)) (l3 : p_lk 3 ls = some (.int (Int32.ofNat k))) (l4 : p_lk 4 ls = some (.int (Int32.ofNat u))) : p_wp p_GT p_MT (dd + 4 * (9 - d) + 3) m_X3_readChoice 85 ls [] h4 (fun v h2 => v = some (.int (l_b (Nat.beq r.1 0))) ∧ c_R h2 b n p (u + 1) m (Int32.ofNat so) ml se ro fa pl r ∧ (r.1 = 0 → p < r.2 ∧ r.2 ≤ n)) := by
  have hS4' := hS4
  obtain ⟨fs4, tp4, rw4, cw4, pa4, e434, fl4, f04, f14, f24, f34, ⟨f44, f54, f64, v74, f74, t14, t24, t34⟩, f84, f94, f104, f114, f124, f134, f144, f154, f164, f174, e444, hb4, e14, e454, rl4, hrI4, e464, cl4, hI4⟩ := hS4'
  refine w_aload_n rfl l0 (w_iload_n rfl l2 (w_virtual (dc := dd + 4 * (9 - d) + 2) (M' := m_X3_closeJumps) rfl (g_vir (n := 2) rfl rfl (by simp [p_cat, p_bd, Value.category]) rfl rfl e434 rfl) rfl rfl (Nat.le_refl _) ((c_close (dd := dd) hS4 (by omega)).mono (by omega) (fun _ _ q => q)) ?_))
  rintro v h5 ⟨rfl, hS5⟩
  have hS5' := hS5
  obtain ⟨fs5, tp5, rw5, cw5, pa5, e435, fl5, f05, f15, f25, f35, ⟨f45, f55, f65, v75, f75, t15, t25, t35⟩, f85, f95, f105, f115, f125, f135, f145, f155, f165, f175, e445, hb5, e15, e455, rl5, hrI5, e465, cl5, hI5⟩ := hS5'
  refine w_aload_n rfl l0 (w_bp 41 rfl rfl (w_virtual (dc := dd + 4 * (9 - d) + 2) (M' := m_X3_takeSign) rfl (g_vir (n := 2) rfl rfl (by simp [p_cat, p_bd, Value.category]) rfl rfl e435 rfl) rfl rfl (Nat.le_refl _) ((c_takeS (dd := dd) (c := 41) hS5 (by decide) hn hB.2).mono (by omega) (fun _ _ q => q)) ?_))
  rintro v h6 (⟨h41, rfl, hS6⟩ | ⟨h41, rfl, hS6⟩)
  · rw [if_pos h41] at hr
    subst hr
    have hy := t_x_lt (b := b) (t_is_lt h41)
    exact w_ireturnb rfl rfl rfl ⟨rfl, c_R_yes rfl (by show u4 + 2 * p ≤ u + 1 + 2 * t_x b n p2; omega) hS6, fun _ => ⟨by show p < t_x b n p2; omega, hy.2⟩⟩
  · rw [if_neg (by rw [h41]; decide)] at hr
    subst hr
    exact w_ireturnb rfl rfl rfl ⟨rfl, c_R_no (by simp) hS6, fun e => absurd e (by simp)⟩
end RS10

/-! THE CLASS READS A LAW, further -/
section RS10
variable {dd n so m f : Nat} {b : Nat → Nat} {ml se ro fa pl : Value}
theorem c_B0_no (hn : n ≤ 300) {d p u : Nat} {ls : p_Ls} {h2 : p_H} {y : Int32} (hp : p ≤ n) (hd : d ≤ 8) (hu : u + 2 ≤ 2 * p) (hx : p < t_x b n p ∧ t_x b n p ≤ n) (hS2 : c_S h2 b n (t_x b n p) u m ((Int32.ofNat so)) false ml se ro fa pl) (ho : t_op b n p = false) (l0 : p_lk 0 ls = some (.ref 43)) (l1 : p_lk 1 ls = some (.int (Int32.ofNat d))) (l2 : p_lk 2 ls = some (.int (l_b (t_op b n p)))) (l3 : p_lk 3 ls = some (.int (l_b (c_nm b n p)))) (l6 : p_lk 6 ls = some (.int y)) : p_wp p_GT p_MT (dd + 4 * (8 - d) + 4) m_X3_readOne 100 ls [] h2 (fun v h2 => v = some (.int (l_b (Nat.beq (0, t_x b n p).1 0))) ∧ c_R h2 b n p (u) m (Int32.ofNat so) ml se ro fa pl (0, t_x b n p) ∧ ((0, t_x b n p).1 = 0 → p < (0, t_x b n p).2 ∧ (0, t_x b n p).2 ≤ n)) := by
  rw [ho] at l2
  have hS2' := hS2
  obtain ⟨fs2, tp2, rw2, cw2, pa2, e432, fl2, f02, f12, f22, f32, ⟨f42, f52, f62, v72, f72, t12, t22, t32⟩, f82, f92, f102, f112, f122, f132, f142, f152, f162, f172, e442, hb2, e12, e452, rl2, hrI2, e462, cl2, hI2⟩ := hS2'
  refine w_iload_n rfl l2 (w_ifc_f rfl (t := 129) rfl (by decide) (w_iload_n rfl l3 ?_))
  cases hnm : c_nm b n p with
  | true =>
    refine w_ifc_f rfl (t := 121) rfl (by decide) (w_aload_n rfl l0 (w_ic 1 rfl rfl (w_iload rfl l6 (w_bp 8 rfl rfl (w_isub rfl (w_virtual (dc := dd + 4 * (8 - d) + 3) (M' := m_X3_make) rfl (g_vir (n := 3) rfl rfl (by simp [p_cat, p_bd, Value.category]) rfl rfl e432 rfl) rfl rfl (Nat.le_refl _) ((c_make (dd := dd) hS2 (by omega)).mono (by omega) (fun _ _ q => q)) ?_))))))
    rintro v h4 ⟨rfl, hS4⟩
    exact w_goto rfl (t := 128) rfl (w_ireturnb rfl rfl rfl ⟨rfl, c_R_yes rfl (by show u + 1 + 2 * p ≤ u + 2 * t_x b n p; omega) hS4, fun _ => hx⟩)
  | false =>
    refine w_ifc_t rfl (t := 121) rfl (by decide) (w_aload_n rfl l0 (w_ic 0 rfl rfl (w_iload rfl l6 (w_virtual (dc := dd + 4 * (8 - d) + 3) (M' := m_X3_make) rfl (g_vir (n := 3) rfl rfl (by simp [p_cat, p_bd, Value.category]) rfl rfl e432 rfl) rfl rfl (Nat.le_refl _) ((c_make (dd := dd) hS2 (by omega)).mono (by omega) (fun _ _ q => q)) ?_))))
    rintro v h4 ⟨rfl, hS4⟩
    exact w_ireturnb rfl rfl rfl ⟨rfl, c_R_yes rfl (by show u + 1 + 2 * p ≤ u + 2 * t_x b n p; omega) hS4, fun _ => hx⟩
theorem c_B0_nth (hn : n ≤ 300) (hso : so < 100) (ih : c_B b n so m dd ml se ro fa pl f) {d p u : Nat} {ls : p_Ls} {h2 : p_H} {r : Nat × Nat} (hf : 4 * (n - p) + 1 ≤ f + 1) (hp : p ≤ n) (hd : d < 8) (hu : u + 2 ≤ 2 * p) (hx : p < t_x b n p ∧ t_x b n p ≤ n) (hS2 : c_S h2 b n (t_x b n p) u m ((Int32.ofNat so)) false ml se ro fa pl) (ho : t_op b n p = true) (h20 : t_wd b n p 20 = true) (hr : (if (t_P b n (Nat.beq so 1) f 0 (d + 1) 0 (t_x b n p)).1 ≠ 0 then t_P b n (Nat.beq so 1) f 0 (d + 1) 0 (t_x b n p) else if t_wd b n (t_P b n (Nat.beq so 1) f 0 (d + 1) 0 (t_x b n p)).2 21 = false then (1, (t_P b n (Nat.beq so 1) f 0 (d + 1) 0 (t_x b n p)).2) else if t_is b n (t_x b n (t_P b n (Nat.beq so 1) f 0 (d + 1) 0 (t_x b n p)).2) 40 = false then (1, t_x b n (t_P b n (Nat.beq so 1) f 0 (d + 1) 0 (t_x b n p)).2) else t_P b n (Nat.beq so 1) f 6 (d + 1) 1 (t_x b n (t_x b n (t_P b n (Nat.beq so 1) f 0 (d + 1) 0 (t_x b n p)).2))) = r) (l0 : p_lk 0 ls = some (.ref 43)) (l1 : p_lk 1 ls = some (.int (Int32.ofNat d))) (l2 : p_lk 2 ls = some (.int (l_b (t_op b n p)))) (l5 : p_lk 5 ls = some (.int (l_b (t_wd b n p 20)))) : p_wp p_GT p_MT (dd + 4 * (8 - d) + 4) m_X3_readOne 100 ls [] h2 (fun v h2 => v = some (.int (l_b (Nat.beq r.1 0))) ∧ c_R h2 b n p (u) m (Int32.ofNat so) ml se ro fa pl r ∧ (r.1 = 0 → p < r.2 ∧ r.2 ≤ n)) := by
  rw [ho] at l2
  rw [h20] at l5
  have hS2' := hS2
  obtain ⟨fs2, tp2, rw2, cw2, pa2, e432, fl2, f02, f12, f22, f32, ⟨f42, f52, f62, v72, f72, t12, t22, t32⟩, f82, f92, f102, f112, f122, f132, f142, f152, f162, f172, e442, hb2, e12, e452, rl2, hrI2, e462, cl2, hI2⟩ := hS2'
  refine w_iload_n rfl l2 (w_ifc_t rfl (t := 129) rfl (by decide) (w_iload rfl l5 (w_ifc_f rfl (t := 142) rfl (by decide) (w_aload_n rfl l0 (w_iload_n rfl l1 (w_ic 1 rfl rfl (w_addN rfl (w_virtual (dc := dd + 4 * (8 - d) + 3) (M' := m_X3_readChoice) rfl (g_vir (n := 2) rfl rfl (by simp [p_cat, p_bd, Value.category]) rfl rfl e432 rfl) rfl rfl (by omega) ((c_choice hn hso ih (d := d + 1) (p := t_x b n p) (r := r) (by omega) hx.2 (by omega) (by omega) (by omega) hS2 hr).mono (by omega) (fun _ _ q => q)) ?_))))))))
  rintro v h4 ⟨rfl, hR4, hB4⟩
  exact w_ireturnb rfl rfl (t_lb_n _) ⟨rfl, c_R_b (by omega) hR4, fun e => by have := hB4 e; omega⟩
end RS10

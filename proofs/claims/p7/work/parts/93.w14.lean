/-! THE CLASS READS A LAW, further -/
section RS10
variable {dd n so m f : Nat} {b : Nat → Nat} {ml se ro fa pl : Value}
theorem t_lb_n : ∀ x : Bool, narrow .boolean (.int (l_b x)) = .int (l_b x)
  | true => rfl
  | false => rfl
set_option maxRecDepth 100000 in
theorem c_choice (hn : n ≤ 300) (hso : so < 100) (ih : c_B b n so m dd ml se ro fa pl f) {d p u : Nat} {h : p_H} {r : Nat × Nat} (hf : 4 * (n - p) + 4 ≤ f) (hp : p ≤ n) (hd1 : 1 ≤ d) (hd : d ≤ 8) (hu : u + 2 ≤ 2 * p) (hS : c_S h b n p u m ((Int32.ofNat so)) false ml se ro fa pl) (hr : (if (t_P b n (Nat.beq so 1) f 0 d 0 p).1 ≠ 0 then t_P b n (Nat.beq so 1) f 0 d 0 p else if t_wd b n (t_P b n (Nat.beq so 1) f 0 d 0 p).2 21 = false then (1, (t_P b n (Nat.beq so 1) f 0 d 0 p).2) else if t_is b n (t_x b n (t_P b n (Nat.beq so 1) f 0 d 0 p).2) 40 = false then (1, t_x b n (t_P b n (Nat.beq so 1) f 0 d 0 p).2) else t_P b n (Nat.beq so 1) f 6 d 1 (t_x b n (t_x b n (t_P b n (Nat.beq so 1) f 0 d 0 p).2))) = r) : p_wp p_GT p_MT (dd + 4 * (9 - d) + 3) m_X3_readChoice 0 (lv_args 0 [.ref 43, .int (Int32.ofNat d)]) [] h (fun v h2 => v = some (.int (l_b (Nat.beq r.1 0))) ∧ c_R h2 b n p (u) m (Int32.ofNat so) ml se ro fa pl r ∧ (r.1 = 0 → p < r.2 ∧ r.2 ≤ n)) := by
  have hS' := hS
  obtain ⟨fs, tp, rw, cw, pa, e43, fl, f0, f1, f2, f3, ⟨f4, f5, f6, v7, f7, t1, t2, t3⟩, f8, f9, f10, f11, f12, f13, f14, f15, f16, f17, e44, hb, e1, e45, rl, hrI, e46, cl, hI⟩ := hS'
  refine w_aload_n rfl rfl (w_iload_n rfl rfl (w_virtual (dc := dd + 4 * (9 - d) + 2) (M' := m_X3_readOne) rfl (g_vir (n := 2) rfl rfl (by simp [p_cat, p_bd, Value.category]) rfl rfl e43 rfl) rfl rfl (Nat.le_refl _) ((ih.1 d 0 p u false h _ rfl (by omega) hp hd rfl hu hS).mono (by omega) (fun _ _ q => q)) ?_))
  rintro v h2 ⟨rfl, hR, hB⟩
  generalize t_P b n (Nat.beq so 1) f 0 d 0 p = s at hr hR hB
  by_cases e0 : s.1 = 0
  · rw [if_neg (fun q => q e0)] at hr
    obtain ⟨u2, hu2, hS2⟩ := hR.1 e0
    have hB := hB e0
    have hS2' := hS2
    rw [e0]
    obtain ⟨fs2, tp2, rw2, cw2, pa2, e432, fl2, f02, f12, f22, f32, ⟨f42, f52, f62, v72, f72, t12, t22, t32⟩, f82, f92, f102, f112, f122, f132, f142, f152, f162, f172, e442, hb2, e12, e452, rl2, hrI2, e462, cl2, hI2⟩ := hS2'
    refine w_ifc_f rfl (t := 26) rfl (by decide) (w_aload_n rfl rfl (w_bp 21 rfl rfl (w_virtual (dc := dd + 4 * (9 - d) + 2) (M' := m_X3_takeWord) rfl (g_vir (n := 2) rfl rfl (by simp [p_cat, p_bd, Value.category]) rfl rfl e432 rfl) rfl rfl (Nat.le_refl _) ((c_takeW (dd := dd) (k := 21) hS2 (by decide) hn hB.2).mono (by omega) (fun _ _ q => q)) ?_)))
    rintro v h3 (⟨h21, rfl, hS3⟩ | ⟨h21, rfl, hS3⟩)
    · rw [if_neg (by rw [h21]; decide)] at hr
      have hy := t_x_lt (b := b) (t_wd_lt h21)
      have hS3' := hS3
      obtain ⟨fs3, tp3, rw3, cw3, pa3, e433, fl3, f03, f13, f23, f33, ⟨f43, f53, f63, v73, f73, t13, t23, t33⟩, f83, f93, f103, f113, f123, f133, f143, f153, f163, f173, e443, hb3, e13, e453, rl3, hrI3, e463, cl3, hI3⟩ := hS3'
      refine w_ifc_f rfl (t := 26) rfl (by decide) (w_aload_n rfl rfl (w_bp 40 rfl rfl (w_virtual (dc := dd + 4 * (9 - d) + 2) (M' := m_X3_takeSign) rfl (g_vir (n := 2) rfl rfl (by simp [p_cat, p_bd, Value.category]) rfl rfl e433 rfl) rfl rfl (Nat.le_refl _) ((c_takeS (dd := dd) (c := 40) hS3 (by decide) hn hy.2).mono (by omega) (fun _ _ q => q)) ?_)))
      rintro v h4 (⟨h40, rfl, hS4⟩ | ⟨h40, rfl, hS4⟩)
      · rw [if_neg (by rw [h40]; decide)] at hr
        have hz := t_x_lt (b := b) (t_is_lt h40)
        refine w_ifc_t rfl (t := 28) rfl (by decide) (w_iconst rfl (w_istore_n rfl (by decide) (w_ic 1 rfl rfl (w_istore_n rfl (by decide) ?_))))
        refine (ih.2.2.2.2.2 d 1 (t_x b n (t_x b n s.2)) u2 _ _ h4 r hr (by omega) hz.2 hd1 hd (Nat.le_refl _) (by decide) (by omega) hS4 (w_s1 (w_s1 rfl rfl (by decide)) rfl (by decide)) (w_s1 (w_s1 rfl rfl (by decide)) rfl (by decide)) (w_s1 p_lk_s1 rfl (by decide)) p_lk_s1).mono (Nat.le_refl _) ?_
        rintro v h5 ⟨rfl, hR5, hB5⟩
        exact ⟨rfl, c_R_b (by omega) hR5, fun e => by have := hB5 e; omega⟩
      · rw [if_pos h40] at hr
        subst hr
        exact w_ifc_f rfl (t := 28) rfl (by decide) (w_iconst rfl (w_ireturnb rfl rfl rfl ⟨rfl, c_R_no (by simp) hS4, fun e => absurd e (by simp)⟩))
    · rw [if_pos h21] at hr
      subst hr
      exact w_ifc_t rfl (t := 26) rfl (by decide) (w_iconst rfl (w_ireturnb rfl rfl rfl ⟨rfl, c_R_no (by simp) hS3, fun e => absurd e (by simp)⟩))
  · rw [if_pos e0] at hr
    subst hr
    rw [t_beq0 e0]
    exact w_ifc_t rfl (t := 26) rfl (by decide) (w_iconst rfl (w_ireturnb rfl rfl rfl ⟨rfl, c_R_f e0 hR, fun e => absurd e e0⟩))
end RS10

/-! THE CLASS READS A LAW, further -/
section RS10
variable {dd n so m f : Nat} {b : Nat → Nat} {ml se ro fa pl : Value}
theorem t_P27 {d p g : Nat} {S : Bool} (h : (t_P b n S (g + 3) 2 d 7 p).1 = 0) : False := by
  have e0 : (t_P b n S (g + 1) 0 d 7 p).1 ≠ 0 := by
    rw [t_P0]
    by_cases q : t_F b n S d p ≠ 0
    · rw [if_pos q]; exact q
    · rw [if_neg q, if_pos rfl]; simp
  have e1 : (t_P b n S (g + 2) 1 d 7 p).1 ≠ 0 := by rw [t_P1, if_pos e0]; exact e0
  rw [t_P2, if_pos e1] at h
  exact e1 h
set_option maxRecDepth 100000 in
theorem c_B6_go (hn : n ≤ 300) (hso : so < 100) (ih : c_B b n so m dd ml se ro fa pl f) {d k p u : Nat} {y : Int32} {ls : p_Ls} {h3 : p_H} {r : Nat × Nat} (hf : 4 * (n - p) + 4 ≤ f + 1) (hp : p ≤ n) (hd1 : 1 ≤ d) (hd : d ≤ 8) (hk1 : 1 ≤ k) (hk7 : k ≤ 7) (hu : u + 3 ≤ 2 * p) (hS3 : c_S h3 b n p (u + 1) m ((Int32.ofNat so)) ((Nat.beq k 7)) ml se ro fa pl) (hr : (if (t_P b n (Nat.beq so 1) f 2 d k p).1 ≠ 0 then t_P b n (Nat.beq so 1) f 2 d k p else if t_is b n (t_P b n (Nat.beq so 1) f 2 d k p).2 44 = true then t_P b n (Nat.beq so 1) f 6 d (k + 1) (t_x b n (t_P b n (Nat.beq so 1) f 2 d k p).2) else if t_is b n (t_P b n (Nat.beq so 1) f 2 d k p).2 41 = true then (0, t_x b n (t_P b n (Nat.beq so 1) f 2 d k p).2) else (1, (t_P b n (Nat.beq so 1) f 2 d k p).2)) = r) (l0 : p_lk 0 ls = some (.ref 43)) (l1 : p_lk 1 ls = some (.int (Int32.ofNat d))) (l2 : p_lk 2 ls = some (.int y)) (l3 : p_lk 3 ls = some (.int (Int32.ofNat k))) (l4 : p_lk 4 ls = some (.int (Int32.ofNat u))) : p_wp p_GT p_MT (dd + 4 * (9 - d) + 3) m_X3_readChoice 66 ls [] h3 (fun v h2 => v = some (.int (l_b (Nat.beq r.1 0))) ∧ c_R h2 b n p (u + 1) m (Int32.ofNat so) ml se ro fa pl r ∧ (r.1 = 0 → p < r.2 ∧ r.2 ≤ n)) := by
  have hS3' := hS3
  obtain ⟨fs3, tp3, rw3, cw3, pa3, e433, fl3, f03, f13, f23, f33, ⟨f43, f53, f63, v73, f73, t13, t23, t33⟩, f83, f93, f103, f113, f123, f133, f143, f153, f163, f173, e443, hb3, e13, e453, rl3, hrI3, e463, cl3, hI3⟩ := hS3'
  refine w_aload_n rfl l0 (w_iload_n rfl l1 (w_virtual (dc := dd + 4 * (9 - d) + 2) (M' := m_X3_readSum) rfl (g_vir (n := 2) rfl rfl (by simp [p_cat, p_bd, Value.category]) rfl rfl e433 rfl) rfl rfl (Nat.le_refl _) ((ih.2.2.1 d k p (u + 1) _ h3 _ rfl (by omega) hp hd rfl (by omega) hS3).mono (by omega) (fun _ _ q => q)) ?_))
  rintro v h4 ⟨rfl, hR, hB⟩
  by_cases e0 : (t_P b n (Nat.beq so 1) f 2 d k p).1 = 0
  · rw [if_neg (fun q => q e0)] at hr
    have hk6 : k ≠ 7 := fun e => by
      subst e
      obtain ⟨g, rfl⟩ : ∃ g, f = g + 3 := ⟨f - 3, by omega⟩
      exact t_P27 e0
    generalize t_P b n (Nat.beq so 1) f 2 d k p = s at hr hR hB e0
    obtain ⟨u4, hu4, hS4⟩ := hR.1 e0
    have hB := hB e0
    have hS4' := hS4
    rw [e0]
    obtain ⟨fs4, tp4, rw4, cw4, pa4, e434, fl4, f04, f14, f24, f34, ⟨f44, f54, f64, v74, f74, t14, t24, t34⟩, f84, f94, f104, f114, f124, f134, f144, f154, f164, f174, e444, hb4, e14, e454, rl4, hrI4, e464, cl4, hI4⟩ := hS4'
    refine w_ifc_t rfl (t := 76) rfl (by decide) (w_aload_n rfl l0 (w_bp 44 rfl rfl (w_virtual (dc := dd + 4 * (9 - d) + 2) (M' := m_X3_isSign) rfl (g_vir (n := 2) rfl rfl (by simp [p_cat, p_bd, Value.category]) rfl rfl e434 rfl) rfl rfl (Nat.le_refl _) (c_isS (c := 44) hS4 (by decide)) ?_)))
    rintro v h2 ⟨rfl, rfl⟩
    by_cases h44 : t_is b n s.2 44 = true
    · rw [if_pos h44] at hr
      rw [h44]
      exact w_ifc_t rfl (t := 97) rfl (by decide) (c_B6_ca hn hso ih hf hp hd1 hd hk1 hk7 hk6 hu hu4 hB hS4 h44 hr l0 l1 l2 l3 l4)
    · rw [if_neg h44] at hr
      rw [Bool.eq_false_iff.mpr h44]
      exact w_ifc_f rfl (t := 97) rfl (by decide) (c_B6_en hn hso ih hf hp hd1 hd hk1 hk7 hk6 hu hu4 hB hS4 hr l0 l1 l2 l3 l4)
  · rw [if_pos e0] at hr
    subst hr
    rw [t_beq0 e0]
    exact w_ifc_f rfl (t := 76) rfl (by decide) (w_iconst rfl (w_ireturnb rfl rfl rfl ⟨rfl, c_R_f e0 hR, fun e => absurd e e0⟩))
end RS10

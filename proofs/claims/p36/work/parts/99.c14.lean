/-! THE CLASS READS A LAW: readSum, readProduct, readOne, readChoice go as the grammar says -/
def c_B0 (b : Nat → Nat) (n so m dd : Nat) (ml se ro fa pl : Value) (f : Nat) : Prop := ∀ (d k p u : Nat) (sv : Bool) (h : p_H) (r : Nat × Nat), t_P b n (Nat.beq so 1) f 0 d k p = r → 4 * (n - p) + 1 ≤ f → p ≤ n → d ≤ 8 → sv = Nat.beq k 7 → u + 2 ≤ 2 * p → c_S h b n p u m ((Int32.ofNat so)) sv ml se ro fa pl → p_wp p_GT p_MT (dd + 4 * (8 - d) + 4) m_X3_readOne 0 (lv_args 0 [.ref 43, .int (Int32.ofNat d)]) [] h (fun v h2 => v = some (.int (l_b (Nat.beq r.1 0))) ∧ c_R h2 b n p (u) m (Int32.ofNat so) ml se ro fa pl r ∧ (r.1 = 0 → p < r.2 ∧ r.2 ≤ n))
def c_B1 (b : Nat → Nat) (n so m dd : Nat) (ml se ro fa pl : Value) (f : Nat) : Prop := ∀ (d k p u : Nat) (sv : Bool) (h : p_H) (r : Nat × Nat), t_P b n (Nat.beq so 1) f 1 d k p = r → 4 * (n - p) + 2 ≤ f → p ≤ n → d ≤ 8 → sv = Nat.beq k 7 → u + 2 ≤ 2 * p → c_S h b n p u m ((Int32.ofNat so)) sv ml se ro fa pl → p_wp p_GT p_MT (dd + 4 * (8 - d) + 5) m_X3_readProduct 0 (lv_args 0 [.ref 43, .int (Int32.ofNat d)]) [] h (fun v h2 => v = some (.int (l_b (Nat.beq r.1 0))) ∧ c_R h2 b n p (u) m (Int32.ofNat so) ml se ro fa pl r ∧ (r.1 = 0 → p < r.2 ∧ r.2 ≤ n))
def c_B2 (b : Nat → Nat) (n so m dd : Nat) (ml se ro fa pl : Value) (f : Nat) : Prop := ∀ (d k p u : Nat) (sv : Bool) (h : p_H) (r : Nat × Nat), t_P b n (Nat.beq so 1) f 2 d k p = r → 4 * (n - p) + 3 ≤ f → p ≤ n → d ≤ 8 → sv = Nat.beq k 7 → u + 2 ≤ 2 * p → c_S h b n p u m ((Int32.ofNat so)) sv ml se ro fa pl → p_wp p_GT p_MT (dd + 4 * (8 - d) + 6) m_X3_readSum 0 (lv_args 0 [.ref 43, .int (Int32.ofNat d)]) [] h (fun v h2 => v = some (.int (l_b (Nat.beq r.1 0))) ∧ c_R h2 b n p (u) m (Int32.ofNat so) ml se ro fa pl r ∧ (r.1 = 0 → p < r.2 ∧ r.2 ≤ n))
def c_B4 (b : Nat → Nat) (n so m dd : Nat) (ml se ro fa pl : Value) (f : Nat) : Prop := ∀ (d p u i : Nat) (ls : p_Ls) (h : p_H) (r : Nat × Nat), t_P b n (Nat.beq so 1) f 4 d 0 p = r → 4 * (n - p) + 1 ≤ f → p ≤ n → d ≤ 8 → i ≤ p → u + 2 ≤ 2 * p → c_S h b n p u m ((Int32.ofNat so)) false ml se ro fa pl → p_lk 0 ls = some (.ref 43) → p_lk 1 ls = some (.int (Int32.ofNat d)) → p_lk 2 ls = some (.int (l_b true)) → p_lk 3 ls = some (.int (Int32.ofNat i)) → p_wp p_GT p_MT (dd + 4 * (8 - d) + 5) m_X3_readProduct 8 ls [] h (fun v h2 => v = some (.int (l_b (Nat.beq r.1 0))) ∧ c_R h2 b n p (u) m (Int32.ofNat so) ml se ro fa pl r ∧ (r.1 = 0 → p ≤ r.2 ∧ r.2 ≤ n))
def c_B5 (b : Nat → Nat) (n so m dd : Nat) (ml se ro fa pl : Value) (f : Nat) : Prop := ∀ (d p u i : Nat) (ls : p_Ls) (h : p_H) (r : Nat × Nat), t_P b n (Nat.beq so 1) f 5 d 0 p = r → 4 * (n - p) + 1 ≤ f → p ≤ n → d ≤ 8 → i ≤ p → u + 2 ≤ 2 * p → c_S h b n p u m ((Int32.ofNat so)) false ml se ro fa pl → p_lk 0 ls = some (.ref 43) → p_lk 1 ls = some (.int (Int32.ofNat d)) → p_lk 2 ls = some (.int (l_b true)) → p_lk 3 ls = some (.int (Int32.ofNat i)) → p_wp p_GT p_MT (dd + 4 * (8 - d) + 6) m_X3_readSum 8 ls [] h (fun v h2 => v = some (.int (l_b (Nat.beq r.1 0))) ∧ c_R h2 b n p (u) m (Int32.ofNat so) ml se ro fa pl r ∧ (r.1 = 0 → p ≤ r.2 ∧ r.2 ≤ n))
def c_B6 (b : Nat → Nat) (n so m dd : Nat) (ml se ro fa pl : Value) (f : Nat) : Prop := ∀ (d k p u : Nat) (y : Int32) (ls : p_Ls) (h : p_H) (r : Nat × Nat), t_P b n (Nat.beq so 1) f 6 d k p = r → 4 * (n - p) + 4 ≤ f → p ≤ n → 1 ≤ d → d ≤ 8 → 1 ≤ k → k ≤ 7 → u + 3 ≤ 2 * p → c_S h b n p u m ((Int32.ofNat so)) false ml se ro fa pl → p_lk 0 ls = some (.ref 43) → p_lk 1 ls = some (.int (Int32.ofNat d)) → p_lk 2 ls = some (.int y) → p_lk 3 ls = some (.int (Int32.ofNat k)) → p_wp p_GT p_MT (dd + 4 * (9 - d) + 3) m_X3_readChoice 32 ls [] h (fun v h2 => v = some (.int (l_b (Nat.beq r.1 0))) ∧ c_R h2 b n p (u + 1) m (Int32.ofNat so) ml se ro fa pl r ∧ (r.1 = 0 → p < r.2 ∧ r.2 ≤ n))
def c_B (b : Nat → Nat) (n so m dd : Nat) (ml se ro fa pl : Value) (f : Nat) : Prop := c_B0 b n so m dd ml se ro fa pl f ∧ c_B1 b n so m dd ml se ro fa pl f ∧ c_B2 b n so m dd ml se ro fa pl f ∧ c_B4 b n so m dd ml se ro fa pl f ∧ c_B5 b n so m dd ml se ro fa pl f ∧ c_B6 b n so m dd ml se ro fa pl f
section RS10
variable {dd n so m f : Nat} {b : Nat → Nat} {ml se ro fa pl : Value}
theorem c_R_no {h : p_H} {p u : Nat} {r : Nat × Nat} {sv : Bool} {u2 : Nat} (he : r.1 ≠ 0) (hS : c_S h b n r.2 u2 m (Int32.ofNat so) sv ml se ro (.int (Int32.ofNat r.1)) (.int (Int32.ofNat r.2))) : c_R h b n p u m (Int32.ofNat so) ml se ro fa pl r := ⟨fun e => absurd e he, fun _ => ⟨u2, sv, hS⟩⟩
theorem c_R_yes {h : p_H} {p u : Nat} {r : Nat × Nat} {u2 : Nat} (he : r.1 = 0) (hu : u2 + 2 * p ≤ u + 2 * r.2) (hS : c_S h b n r.2 u2 m (Int32.ofNat so) false ml se ro fa pl) : c_R h b n p u m (Int32.ofNat so) ml se ro fa pl r := ⟨fun _ => ⟨u2, hu, hS⟩, fun e => absurd he e⟩
theorem c_R_f {h : p_H} {p u p2 u2 : Nat} {r : Nat × Nat} (he : r.1 ≠ 0) (h0 : c_R h b n p u m (Int32.ofNat so) ml se ro fa pl r) : c_R h b n p2 u2 m (Int32.ofNat so) ml se ro fa pl r := ⟨fun e => absurd e he, h0.2⟩
theorem c_R_b {h : p_H} {p u p2 u2 : Nat} {r : Nat × Nat} (hu : u + 2 * p2 ≤ u2 + 2 * p) (h0 : c_R h b n p u m (Int32.ofNat so) ml se ro fa pl r) : c_R h b n p2 u2 m (Int32.ofNat so) ml se ro fa pl r := ⟨fun e => by obtain ⟨u3, q1, q2⟩ := h0.1 e; exact ⟨u3, by omega, q2⟩, h0.2⟩
theorem t_beq0 {x : Nat} (h : x ≠ 0) : Nat.beq x 0 = false := Bool.eq_false_iff.mpr (fun e => h (Nat.eq_of_beq_eq_true e))
/-- where an operator stands it is the one or the other -/
theorem t_is_one {p c e : Nat} (h : t_is b n p c = true) (hne : c ≠ e) : t_is b n p e = false := Bool.eq_false_iff.mpr (fun q => hne ((t_is_iff.mp h).2.symm.trans (t_is_iff.mp q).2))
theorem c_B4_no {d i : Nat} {ls : p_Ls} {h : p_H} {Q : Option Value → p_H → Prop} (hi : i < 300) (l2 : p_lk 2 ls = some (.int (l_b false))) (l3 : p_lk 3 ls = some (.int (Int32.ofNat i))) (hQ : Q (some (.int (l_b false))) h) : p_wp p_GT p_MT (dd + 4 * (8 - d) + 5) m_X3_readProduct 8 ls [] h Q := by
  exact w_iload_n rfl l3 (w_sp 300 rfl rfl (w_icmp_f rfl (t := 89) rfl (by simp only [p_cd, decide_eq_false_iff_not]; rw [Int32.le_iff_toInt_le, g_ofNat (by omega), g_ofNat (by omega)]; omega) (w_iload_n rfl l2 (w_ifc_t rfl (t := 89) rfl (by decide) (w_iload_n rfl l2 (w_ireturnb rfl rfl rfl hQ))))))
set_option maxRecDepth 100000 in
theorem c_B4_ok (hn : n ≤ 300) (hso : so < 100) (ih : c_B b n so m dd ml se ro fa pl f) : c_B4 b n so m dd ml se ro fa pl (f + 1) := by
  intro d p u i ls h r hr hf hp hd hi hu hS l0 l1 l2 l3
  rw [t_P4] at hr
  by_cases q : t_is b n p 42 = true ∨ t_is b n p 47 = true
  · rw [if_pos q] at hr
    have hpn : p < n := by rcases q with q | q <;> exact t_is_lt q
    have hx := t_x_lt (b := b) hpn
    have go : ∀ (e : Nat) (ls4 : p_Ls), p_lk 0 ls4 = some (.ref 43) → p_lk 1 ls4 = some (.int (Int32.ofNat d)) → p_lk 3 ls4 = some (.int (Int32.ofNat i)) → p_lk 4 ls4 = some (.int (Int32.ofNat e)) → p_wp p_GT p_MT (dd + 4 * (8 - d) + 5) m_X3_readProduct 55 ls4 [] h (fun v h2 => v = some (.int (l_b (Nat.beq r.1 0))) ∧ c_R h2 b n p (u) m (Int32.ofNat so) ml se ro fa pl r ∧ (r.1 = 0 → p ≤ r.2 ∧ r.2 ≤ n)) := by
      intro e ls4 m0 m1 m3 m4
      have hS' := hS
      obtain ⟨fs, tp, rw, cw, pa, e43, fl, f0, f1, f2, f3, ⟨f4, f5, f6, v7, f7, t1, t2, t3⟩, f8, f9, f10, f11, f12, f13, f14, f15, f16, f17, e44, hb, e1, e45, rl, hrI, e46, cl, hI⟩ := hS
      refine w_aload_n rfl m0 (w_virtual (dc := dd + 4 * (8 - d) + 4) (M' := m_X3_step) rfl (g_vir (n := 1) rfl rfl (by simp [p_cat, p_bd, Value.category]) rfl rfl e43 rfl) rfl rfl (Nat.le_refl _) ((c_next (dd := dd) hS' hn hp).mono (by omega) (fun _ _ q => q)) ?_)
      rintro v h2 ⟨rfl, hS2⟩
      have hS2' := hS2
      obtain ⟨fs2, tp2, rw2, cw2, pa2, e432, fl2, f02, f12, f22, f32, ⟨f42, f52, f62, v72, f72, t12, t22, t32⟩, f82, f92, f102, f112, f122, f132, f142, f152, f162, f172, e442, hb2, e12, e452, rl2, hrI2, e462, cl2, hI2⟩ := hS2'
      refine w_aload_n rfl m0 (w_iload_n rfl m1 (w_virtual (dc := dd + 4 * (8 - d) + 4) (M' := m_X3_readOne) rfl (g_vir (n := 2) rfl rfl (by simp [p_cat, p_bd, Value.category]) rfl rfl e432 rfl) rfl rfl (Nat.le_refl _) (ih.1 d 0 (t_x b n p) u false _ _ rfl (by omega) hx.2 hd rfl (by omega) hS2) ?_))
      rintro v h3 ⟨rfl, hR, hB⟩
      generalize t_P b n (Nat.beq so 1) f 0 d 0 (t_x b n p) = s at hr hR hB
      by_cases e0 : s.1 = 0
      · rw [if_neg (fun q => q e0)] at hr
        obtain ⟨u3, hu3, hS3⟩ := hR.1 e0
        have hB := hB e0
        rw [e0]
        have hS3' := hS3
        obtain ⟨fs3, tp3, rw3, cw3, pa3, e433, fl3, f03, f13, f23, f33, ⟨f43, f53, f63, v73, f73, t13, t23, t33⟩, f83, f93, f103, f113, f123, f133, f143, f153, f163, f173, e443, hb3, e13, e453, rl3, hrI3, e463, cl3, hI3⟩ := hS3'
        refine w_ifc_f rfl (t := 81) rfl (by decide) (w_aload_n rfl m0 (w_iload rfl m4 (w_ic 0 rfl rfl (w_virtual (dc := dd + 4 * (8 - d) + 4) (M' := m_X3_make) rfl (g_vir (n := 3) rfl rfl (by simp [p_cat, p_bd, Value.category]) rfl rfl e433 rfl) rfl rfl (Nat.le_refl _) ((c_make (dd := dd) hS3 (by omega)).mono (by omega) (fun _ _ q => q)) ?_))))
        rintro v h4 ⟨rfl, hS4⟩
        refine w_ifc_f rfl (t := 81) rfl (by decide) (w_ic 1 rfl rfl (w_goto rfl (t := 82) rfl (w_istore_n rfl (by decide) (w_iincN rfl (w_s1 m3 rfl (by decide)) (by decide) (w_goto rfl (t := 8) rfl ?_)))))
        refine (ih.2.2.2.1 d s.2 (u3 + 1) (i + 1) _ h4 r hr (by omega) hB.2 hd (by omega) (by omega) hS4 (w_s1 (w_s1 m0 rfl (by decide)) rfl (by decide)) (w_s1 (w_s1 m1 rfl (by decide)) rfl (by decide)) (w_s1 p_lk_s1 rfl (by decide)) p_lk_s1).mono (by omega) ?_
        rintro v h5 ⟨rfl, hR5, hB5⟩
        exact ⟨rfl, c_R_b (by omega) hR5, fun e => by have := hB5 e; omega⟩
      · rw [if_pos e0] at hr
        subst hr
        rw [t_beq0 e0]
        exact w_ifc_t rfl (t := 81) rfl (by decide) (w_ic 0 rfl rfl (w_istore_n rfl (by decide) (w_iincN rfl (w_s1 m3 rfl (by decide)) (by decide) (w_goto rfl (t := 8) rfl (c_B4_no (i := i + 1) (by omega) (w_s1 p_lk_s1 rfl (by decide)) p_lk_s1 ⟨rfl, c_R_f e0 hR, fun e => absurd e e0⟩)))))
    cases q1 : t_is b n p 42 with
    | true =>
      have hS' := hS
      obtain ⟨fs, tp, rw, cw, pa, e43, fl, f0, f1, f2, f3, ⟨f4, f5, f6, v7, f7, t1, t2, t3⟩, f8, f9, f10, f11, f12, f13, f14, f15, f16, f17, e44, hb, e1, e45, rl, hrI, e46, cl, hI⟩ := hS
      refine w_iload_n rfl l3 (w_sp 300 rfl rfl (w_icmp_f rfl (t := 89) rfl (by simp only [p_cd, decide_eq_false_iff_not]; rw [Int32.le_iff_toInt_le, g_ofNat (by omega), g_ofNat (by omega)]; omega) (w_iload_n rfl l2 (w_ifc_f rfl (t := 89) rfl (by decide) (w_aload_n rfl l0 (w_bp 42 rfl rfl (w_virtual (dc := dd + 4 * (8 - d) + 4) (M' := m_X3_isSign) rfl (g_vir (n := 2) rfl rfl (by simp [p_cat, p_bd, Value.category]) rfl rfl e43 rfl) rfl rfl (Nat.le_refl _) (c_isS (c := 42) hS' (by decide)) ?_)))))))
      rintro v h2 ⟨rfl, rfl⟩
      rw [q1]
      refine w_ifc_t rfl (t := 37) rfl (by decide) (w_aload_n rfl l0 (w_bp 42 rfl rfl (w_virtual (dc := dd + 4 * (8 - d) + 4) (M' := m_X3_isSign) rfl (g_vir (n := 2) rfl rfl (by simp [p_cat, p_bd, Value.category]) rfl rfl e43 rfl) rfl rfl (Nat.le_refl _) (c_isS (c := 42) hS' (by decide)) ?_)))
      rintro v h2 ⟨rfl, rfl⟩
      rw [q1]
      exact w_ifc_f rfl (t := 51) rfl (by decide) (w_bp 7 rfl rfl (w_goto rfl (t := 53) rfl (w_istore rfl (by decide) (go _ _ (w_s1 l0 rfl (by decide)) (w_s1 l1 rfl (by decide)) (w_s1 l3 rfl (by decide)) p_lk_s1))))
    | false =>
      have hS' := hS
      obtain ⟨fs, tp, rw, cw, pa, e43, fl, f0, f1, f2, f3, ⟨f4, f5, f6, v7, f7, t1, t2, t3⟩, f8, f9, f10, f11, f12, f13, f14, f15, f16, f17, e44, hb, e1, e45, rl, hrI, e46, cl, hI⟩ := hS
      refine w_iload_n rfl l3 (w_sp 300 rfl rfl (w_icmp_f rfl (t := 89) rfl (by simp only [p_cd, decide_eq_false_iff_not]; rw [Int32.le_iff_toInt_le, g_ofNat (by omega), g_ofNat (by omega)]; omega) (w_iload_n rfl l2 (w_ifc_f rfl (t := 89) rfl (by decide) (w_aload_n rfl l0 (w_bp 42 rfl rfl (w_virtual (dc := dd + 4 * (8 - d) + 4) (M' := m_X3_isSign) rfl (g_vir (n := 2) rfl rfl (by simp [p_cat, p_bd, Value.category]) rfl rfl e43 rfl) rfl rfl (Nat.le_refl _) (c_isS (c := 42) hS' (by decide)) ?_)))))))
      rintro v h2 ⟨rfl, rfl⟩
      rw [q1]
      refine w_ifc_f rfl (t := 37) rfl (by decide) (w_aload_n rfl l0 (w_bp 47 rfl rfl (w_virtual (dc := dd + 4 * (8 - d) + 4) (M' := m_X3_isSign) rfl (g_vir (n := 2) rfl rfl (by simp [p_cat, p_bd, Value.category]) rfl rfl e43 rfl) rfl rfl (Nat.le_refl _) (c_isS (c := 47) hS' (by decide)) ?_)))
      rintro v h2 ⟨rfl, rfl⟩
      rw [q.resolve_left (by rw [q1]; decide)]
      refine w_ifc_f rfl (t := 89) rfl (by decide) (w_aload_n rfl l0 (w_bp 42 rfl rfl (w_virtual (dc := dd + 4 * (8 - d) + 4) (M' := m_X3_isSign) rfl (g_vir (n := 2) rfl rfl (by simp [p_cat, p_bd, Value.category]) rfl rfl e43 rfl) rfl rfl (Nat.le_refl _) (c_isS (c := 42) hS' (by decide)) ?_)))
      rintro v h2 ⟨rfl, rfl⟩
      rw [q1]
      exact w_ifc_t rfl (t := 51) rfl (by decide) (w_bp 8 rfl rfl (w_istore rfl (by decide) (go _ _ (w_s1 l0 rfl (by decide)) (w_s1 l1 rfl (by decide)) (w_s1 l3 rfl (by decide)) p_lk_s1)))
  · rw [if_neg q] at hr
    subst hr
    have q1 : t_is b n p 42 = false := Bool.eq_false_iff.mpr (fun e => q (Or.inl e))
    have q2 : t_is b n p 47 = false := Bool.eq_false_iff.mpr (fun e => q (Or.inr e))
    by_cases hi3 : i < 300
    · have hS' := hS
    obtain ⟨fs, tp, rw, cw, pa, e43, fl, f0, f1, f2, f3, ⟨f4, f5, f6, v7, f7, t1, t2, t3⟩, f8, f9, f10, f11, f12, f13, f14, f15, f16, f17, e44, hb, e1, e45, rl, hrI, e46, cl, hI⟩ := hS
      refine w_iload_n rfl l3 (w_sp 300 rfl rfl (w_icmp_f rfl (t := 89) rfl (by simp only [p_cd, decide_eq_false_iff_not]; rw [Int32.le_iff_toInt_le, g_ofNat (by omega), g_ofNat (by omega)]; omega) (w_iload_n rfl l2 (w_ifc_f rfl (t := 89) rfl (by decide) (w_aload_n rfl l0 (w_bp 42 rfl rfl (w_virtual (dc := dd + 4 * (8 - d) + 4) (M' := m_X3_isSign) rfl (g_vir (n := 2) rfl rfl (by simp [p_cat, p_bd, Value.category]) rfl rfl e43 rfl) rfl rfl (Nat.le_refl _) (c_isS (c := 42) hS' (by decide)) ?_)))))))
      rintro v h2 ⟨rfl, rfl⟩
      rw [q1]
      refine w_ifc_f rfl (t := 37) rfl (by decide) (w_aload_n rfl l0 (w_bp 47 rfl rfl (w_virtual (dc := dd + 4 * (8 - d) + 4) (M' := m_X3_isSign) rfl (g_vir (n := 2) rfl rfl (by simp [p_cat, p_bd, Value.category]) rfl rfl e43 rfl) rfl rfl (Nat.le_refl _) (c_isS (c := 47) hS' (by decide)) ?_)))
      rintro v h2 ⟨rfl, rfl⟩
      rw [q2]
      exact w_ifc_t rfl (t := 89) rfl (by decide) (w_iload_n rfl l2 (w_ireturnb rfl rfl rfl ⟨rfl, c_R_yes rfl (Nat.le_refl _) hS', fun _ => ⟨Nat.le_refl _, hp⟩⟩))
    · have hS' := hS
      obtain ⟨fs, tp, rw, cw, pa, e43, fl, f0, f1, f2, f3, ⟨f4, f5, f6, v7, f7, t1, t2, t3⟩, f8, f9, f10, f11, f12, f13, f14, f15, f16, f17, e44, hb, e1, e45, rl, hrI, e46, cl, hI⟩ := hS
      exact w_iload_n rfl l3 (w_sp 300 rfl rfl (w_icmp_t rfl (t := 89) rfl (by simp only [p_cd, decide_eq_true_eq]; rw [Int32.le_iff_toInt_le, g_ofNat (by omega), g_ofNat (by omega)]; omega) (w_iload_n rfl l2 (w_ireturnb rfl rfl rfl ⟨rfl, c_R_yes rfl (Nat.le_refl _) hS', fun _ => ⟨Nat.le_refl _, hp⟩⟩))))
theorem c_B1_ok (hn : n ≤ 300) (hso : so < 100) (ih : c_B b n so m dd ml se ro fa pl f) : c_B1 b n so m dd ml se ro fa pl (f + 1) := by
  intro d k p u sv h r hr hf hp hd hsv hu hS
  rw [t_P1] at hr
  have hS' := hS
  obtain ⟨fs, tp, rw, cw, pa, e43, fl, f0, f1, f2, f3, ⟨f4, f5, f6, v7, f7, t1, t2, t3⟩, f8, f9, f10, f11, f12, f13, f14, f15, f16, f17, e44, hb, e1, e45, rl, hrI, e46, cl, hI⟩ := hS'
  refine w_aload_n rfl rfl (w_iload_n rfl rfl (w_virtual (dc := dd + 4 * (8 - d) + 4) (M' := m_X3_readOne) rfl (g_vir (n := 2) rfl rfl (by simp [p_cat, p_bd, Value.category]) rfl rfl e43 rfl) rfl rfl (Nat.le_refl _) (ih.1 d k p u sv h _ rfl (by omega) hp hd hsv hu hS) ?_))
  rintro v h2 ⟨rfl, hR, hB⟩
  refine w_istore_n rfl (by decide) (w_ic 0 rfl rfl (w_istore_n rfl (by decide) ?_))
  generalize t_P b n (Nat.beq so 1) f 0 d k p = s at hr hR hB
  by_cases e0 : s.1 = 0
  · rw [if_neg (fun q => q e0)] at hr
    obtain ⟨u3, hu3, hS3⟩ := hR.1 e0
    have hB := hB e0
    rw [e0]
    refine (ih.2.2.2.1 d s.2 u3 0 _ h2 r hr (by omega) hB.2 hd (Nat.zero_le _) (by omega) hS3 (w_s1 (w_s1 rfl rfl (by decide)) rfl (by decide)) (w_s1 (w_s1 rfl rfl (by decide)) rfl (by decide)) (w_s1 p_lk_s1 rfl (by decide)) p_lk_s1).mono (Nat.le_refl _) ?_
    rintro v h5 ⟨rfl, hR5, hB5⟩
    exact ⟨rfl, c_R_b (by omega) hR5, fun e => by have := hB5 e; omega⟩
  · rw [if_pos e0] at hr
    subst hr
    rw [t_beq0 e0]
    exact c_B4_no (i := 0) (by decide) (w_s1 p_lk_s1 rfl (by decide)) p_lk_s1 ⟨rfl, c_R_f e0 hR, fun e => absurd e e0⟩
theorem c_B5_no {d i : Nat} {ls : p_Ls} {h : p_H} {Q : Option Value → p_H → Prop} (hi : i < 300) (l2 : p_lk 2 ls = some (.int (l_b false))) (l3 : p_lk 3 ls = some (.int (Int32.ofNat i))) (hQ : Q (some (.int (l_b false))) h) : p_wp p_GT p_MT (dd + 4 * (8 - d) + 6) m_X3_readSum 8 ls [] h Q := by
  exact w_iload_n rfl l3 (w_sp 300 rfl rfl (w_icmp_f rfl (t := 88) rfl (by simp only [p_cd, decide_eq_false_iff_not]; rw [Int32.le_iff_toInt_le, g_ofNat (by omega), g_ofNat (by omega)]; omega) (w_iload_n rfl l2 (w_ifc_t rfl (t := 88) rfl (by decide) (w_iload_n rfl l2 (w_ireturnb rfl rfl rfl hQ))))))
set_option maxRecDepth 100000 in
theorem c_B5_ok (hn : n ≤ 300) (hso : so < 100) (ih : c_B b n so m dd ml se ro fa pl f) : c_B5 b n so m dd ml se ro fa pl (f + 1) := by
  intro d p u i ls h r hr hf hp hd hi hu hS l0 l1 l2 l3
  rw [t_P5] at hr
  by_cases q : t_is b n p 43 = true ∨ t_is b n p 45 = true
  · rw [if_pos q] at hr
    have hpn : p < n := by rcases q with q | q <;> exact t_is_lt q
    have hx := t_x_lt (b := b) hpn
    have go : ∀ (e : Nat) (ls4 : p_Ls), p_lk 0 ls4 = some (.ref 43) → p_lk 1 ls4 = some (.int (Int32.ofNat d)) → p_lk 3 ls4 = some (.int (Int32.ofNat i)) → p_lk 4 ls4 = some (.int (Int32.ofNat e)) → p_wp p_GT p_MT (dd + 4 * (8 - d) + 6) m_X3_readSum 54 ls4 [] h (fun v h2 => v = some (.int (l_b (Nat.beq r.1 0))) ∧ c_R h2 b n p (u) m (Int32.ofNat so) ml se ro fa pl r ∧ (r.1 = 0 → p ≤ r.2 ∧ r.2 ≤ n)) := by
      intro e ls4 m0 m1 m3 m4
      have hS' := hS
      obtain ⟨fs, tp, rw, cw, pa, e43, fl, f0, f1, f2, f3, ⟨f4, f5, f6, v7, f7, t1, t2, t3⟩, f8, f9, f10, f11, f12, f13, f14, f15, f16, f17, e44, hb, e1, e45, rl, hrI, e46, cl, hI⟩ := hS
      refine w_aload_n rfl m0 (w_virtual (dc := dd + 4 * (8 - d) + 5) (M' := m_X3_step) rfl (g_vir (n := 1) rfl rfl (by simp [p_cat, p_bd, Value.category]) rfl rfl e43 rfl) rfl rfl (Nat.le_refl _) ((c_next (dd := dd) hS' hn hp).mono (by omega) (fun _ _ q => q)) ?_)
      rintro v h2 ⟨rfl, hS2⟩
      have hS2' := hS2
      obtain ⟨fs2, tp2, rw2, cw2, pa2, e432, fl2, f02, f12, f22, f32, ⟨f42, f52, f62, v72, f72, t12, t22, t32⟩, f82, f92, f102, f112, f122, f132, f142, f152, f162, f172, e442, hb2, e12, e452, rl2, hrI2, e462, cl2, hI2⟩ := hS2'
      refine w_aload_n rfl m0 (w_iload_n rfl m1 (w_virtual (dc := dd + 4 * (8 - d) + 5) (M' := m_X3_readProduct) rfl (g_vir (n := 2) rfl rfl (by simp [p_cat, p_bd, Value.category]) rfl rfl e432 rfl) rfl rfl (Nat.le_refl _) (ih.2.1 d 0 (t_x b n p) u false _ _ rfl (by omega) hx.2 hd rfl (by omega) hS2) ?_))
      rintro v h3 ⟨rfl, hR, hB⟩
      generalize t_P b n (Nat.beq so 1) f 1 d 0 (t_x b n p) = s at hr hR hB
      by_cases e0 : s.1 = 0
      · rw [if_neg (fun q => q e0)] at hr
        obtain ⟨u3, hu3, hS3⟩ := hR.1 e0
        have hB := hB e0
        rw [e0]
        have hS3' := hS3
        obtain ⟨fs3, tp3, rw3, cw3, pa3, e433, fl3, f03, f13, f23, f33, ⟨f43, f53, f63, v73, f73, t13, t23, t33⟩, f83, f93, f103, f113, f123, f133, f143, f153, f163, f173, e443, hb3, e13, e453, rl3, hrI3, e463, cl3, hI3⟩ := hS3'
        refine w_ifc_f rfl (t := 80) rfl (by decide) (w_aload_n rfl m0 (w_iload rfl m4 (w_ic 0 rfl rfl (w_virtual (dc := dd + 4 * (8 - d) + 5) (M' := m_X3_make) rfl (g_vir (n := 3) rfl rfl (by simp [p_cat, p_bd, Value.category]) rfl rfl e433 rfl) rfl rfl (Nat.le_refl _) ((c_make (dd := dd) hS3 (by omega)).mono (by omega) (fun _ _ q => q)) ?_))))
        rintro v h4 ⟨rfl, hS4⟩
        refine w_ifc_f rfl (t := 80) rfl (by decide) (w_ic 1 rfl rfl (w_goto rfl (t := 81) rfl (w_istore_n rfl (by decide) (w_iincN rfl (w_s1 m3 rfl (by decide)) (by decide) (w_goto rfl (t := 8) rfl ?_)))))
        refine (ih.2.2.2.2.1 d s.2 (u3 + 1) (i + 1) _ h4 r hr (by omega) hB.2 hd (by omega) (by omega) hS4 (w_s1 (w_s1 m0 rfl (by decide)) rfl (by decide)) (w_s1 (w_s1 m1 rfl (by decide)) rfl (by decide)) (w_s1 p_lk_s1 rfl (by decide)) p_lk_s1).mono (by omega) ?_
        rintro v h5 ⟨rfl, hR5, hB5⟩
        exact ⟨rfl, c_R_b (by omega) hR5, fun e => by have := hB5 e; omega⟩
      · rw [if_pos e0] at hr
        subst hr
        rw [t_beq0 e0]
        exact w_ifc_t rfl (t := 80) rfl (by decide) (w_ic 0 rfl rfl (w_istore_n rfl (by decide) (w_iincN rfl (w_s1 m3 rfl (by decide)) (by decide) (w_goto rfl (t := 8) rfl (c_B5_no (i := i + 1) (by omega) (w_s1 p_lk_s1 rfl (by decide)) p_lk_s1 ⟨rfl, c_R_f e0 hR, fun e => absurd e e0⟩)))))
    cases q1 : t_is b n p 43 with
    | true =>
      have hS' := hS
      obtain ⟨fs, tp, rw, cw, pa, e43, fl, f0, f1, f2, f3, ⟨f4, f5, f6, v7, f7, t1, t2, t3⟩, f8, f9, f10, f11, f12, f13, f14, f15, f16, f17, e44, hb, e1, e45, rl, hrI, e46, cl, hI⟩ := hS
      refine w_iload_n rfl l3 (w_sp 300 rfl rfl (w_icmp_f rfl (t := 88) rfl (by simp only [p_cd, decide_eq_false_iff_not]; rw [Int32.le_iff_toInt_le, g_ofNat (by omega), g_ofNat (by omega)]; omega) (w_iload_n rfl l2 (w_ifc_f rfl (t := 88) rfl (by decide) (w_aload_n rfl l0 (w_bp 43 rfl rfl (w_virtual (dc := dd + 4 * (8 - d) + 5) (M' := m_X3_isSign) rfl (g_vir (n := 2) rfl rfl (by simp [p_cat, p_bd, Value.category]) rfl rfl e43 rfl) rfl rfl (Nat.le_refl _) (c_isS (c := 43) hS' (by decide)) ?_)))))))
      rintro v h2 ⟨rfl, rfl⟩
      rw [q1]
      refine w_ifc_t rfl (t := 37) rfl (by decide) (w_aload_n rfl l0 (w_bp 43 rfl rfl (w_virtual (dc := dd + 4 * (8 - d) + 5) (M' := m_X3_isSign) rfl (g_vir (n := 2) rfl rfl (by simp [p_cat, p_bd, Value.category]) rfl rfl e43 rfl) rfl rfl (Nat.le_refl _) (c_isS (c := 43) hS' (by decide)) ?_)))
      rintro v h2 ⟨rfl, rfl⟩
      rw [q1]
      exact w_ifc_f rfl (t := 50) rfl (by decide) (w_ic 5 rfl rfl (w_goto rfl (t := 52) rfl (w_istore rfl (by decide) (go _ _ (w_s1 l0 rfl (by decide)) (w_s1 l1 rfl (by decide)) (w_s1 l3 rfl (by decide)) p_lk_s1))))
    | false =>
      have hS' := hS
      obtain ⟨fs, tp, rw, cw, pa, e43, fl, f0, f1, f2, f3, ⟨f4, f5, f6, v7, f7, t1, t2, t3⟩, f8, f9, f10, f11, f12, f13, f14, f15, f16, f17, e44, hb, e1, e45, rl, hrI, e46, cl, hI⟩ := hS
      refine w_iload_n rfl l3 (w_sp 300 rfl rfl (w_icmp_f rfl (t := 88) rfl (by simp only [p_cd, decide_eq_false_iff_not]; rw [Int32.le_iff_toInt_le, g_ofNat (by omega), g_ofNat (by omega)]; omega) (w_iload_n rfl l2 (w_ifc_f rfl (t := 88) rfl (by decide) (w_aload_n rfl l0 (w_bp 43 rfl rfl (w_virtual (dc := dd + 4 * (8 - d) + 5) (M' := m_X3_isSign) rfl (g_vir (n := 2) rfl rfl (by simp [p_cat, p_bd, Value.category]) rfl rfl e43 rfl) rfl rfl (Nat.le_refl _) (c_isS (c := 43) hS' (by decide)) ?_)))))))
      rintro v h2 ⟨rfl, rfl⟩
      rw [q1]
      refine w_ifc_f rfl (t := 37) rfl (by decide) (w_aload_n rfl l0 (w_bp 45 rfl rfl (w_virtual (dc := dd + 4 * (8 - d) + 5) (M' := m_X3_isSign) rfl (g_vir (n := 2) rfl rfl (by simp [p_cat, p_bd, Value.category]) rfl rfl e43 rfl) rfl rfl (Nat.le_refl _) (c_isS (c := 45) hS' (by decide)) ?_)))
      rintro v h2 ⟨rfl, rfl⟩
      rw [q.resolve_left (by rw [q1]; decide)]
      refine w_ifc_f rfl (t := 88) rfl (by decide) (w_aload_n rfl l0 (w_bp 43 rfl rfl (w_virtual (dc := dd + 4 * (8 - d) + 5) (M' := m_X3_isSign) rfl (g_vir (n := 2) rfl rfl (by simp [p_cat, p_bd, Value.category]) rfl rfl e43 rfl) rfl rfl (Nat.le_refl _) (c_isS (c := 43) hS' (by decide)) ?_)))
      rintro v h2 ⟨rfl, rfl⟩
      rw [q1]
      exact w_ifc_t rfl (t := 50) rfl (by decide) (w_bp 6 rfl rfl (w_istore rfl (by decide) (go _ _ (w_s1 l0 rfl (by decide)) (w_s1 l1 rfl (by decide)) (w_s1 l3 rfl (by decide)) p_lk_s1)))
  · rw [if_neg q] at hr
    subst hr
    have q1 : t_is b n p 43 = false := Bool.eq_false_iff.mpr (fun e => q (Or.inl e))
    have q2 : t_is b n p 45 = false := Bool.eq_false_iff.mpr (fun e => q (Or.inr e))
    by_cases hi3 : i < 300
    · have hS' := hS
    obtain ⟨fs, tp, rw, cw, pa, e43, fl, f0, f1, f2, f3, ⟨f4, f5, f6, v7, f7, t1, t2, t3⟩, f8, f9, f10, f11, f12, f13, f14, f15, f16, f17, e44, hb, e1, e45, rl, hrI, e46, cl, hI⟩ := hS
      refine w_iload_n rfl l3 (w_sp 300 rfl rfl (w_icmp_f rfl (t := 88) rfl (by simp only [p_cd, decide_eq_false_iff_not]; rw [Int32.le_iff_toInt_le, g_ofNat (by omega), g_ofNat (by omega)]; omega) (w_iload_n rfl l2 (w_ifc_f rfl (t := 88) rfl (by decide) (w_aload_n rfl l0 (w_bp 43 rfl rfl (w_virtual (dc := dd + 4 * (8 - d) + 5) (M' := m_X3_isSign) rfl (g_vir (n := 2) rfl rfl (by simp [p_cat, p_bd, Value.category]) rfl rfl e43 rfl) rfl rfl (Nat.le_refl _) (c_isS (c := 43) hS' (by decide)) ?_)))))))
      rintro v h2 ⟨rfl, rfl⟩
      rw [q1]
      refine w_ifc_f rfl (t := 37) rfl (by decide) (w_aload_n rfl l0 (w_bp 45 rfl rfl (w_virtual (dc := dd + 4 * (8 - d) + 5) (M' := m_X3_isSign) rfl (g_vir (n := 2) rfl rfl (by simp [p_cat, p_bd, Value.category]) rfl rfl e43 rfl) rfl rfl (Nat.le_refl _) (c_isS (c := 45) hS' (by decide)) ?_)))
      rintro v h2 ⟨rfl, rfl⟩
      rw [q2]
      exact w_ifc_t rfl (t := 88) rfl (by decide) (w_iload_n rfl l2 (w_ireturnb rfl rfl rfl ⟨rfl, c_R_yes rfl (Nat.le_refl _) hS', fun _ => ⟨Nat.le_refl _, hp⟩⟩))
    · have hS' := hS
      obtain ⟨fs, tp, rw, cw, pa, e43, fl, f0, f1, f2, f3, ⟨f4, f5, f6, v7, f7, t1, t2, t3⟩, f8, f9, f10, f11, f12, f13, f14, f15, f16, f17, e44, hb, e1, e45, rl, hrI, e46, cl, hI⟩ := hS
      exact w_iload_n rfl l3 (w_sp 300 rfl rfl (w_icmp_t rfl (t := 88) rfl (by simp only [p_cd, decide_eq_true_eq]; rw [Int32.le_iff_toInt_le, g_ofNat (by omega), g_ofNat (by omega)]; omega) (w_iload_n rfl l2 (w_ireturnb rfl rfl rfl ⟨rfl, c_R_yes rfl (Nat.le_refl _) hS', fun _ => ⟨Nat.le_refl _, hp⟩⟩))))
theorem c_B2_ok (hn : n ≤ 300) (hso : so < 100) (ih : c_B b n so m dd ml se ro fa pl f) : c_B2 b n so m dd ml se ro fa pl (f + 1) := by
  intro d k p u sv h r hr hf hp hd hsv hu hS
  rw [t_P2] at hr
  have hS' := hS
  obtain ⟨fs, tp, rw, cw, pa, e43, fl, f0, f1, f2, f3, ⟨f4, f5, f6, v7, f7, t1, t2, t3⟩, f8, f9, f10, f11, f12, f13, f14, f15, f16, f17, e44, hb, e1, e45, rl, hrI, e46, cl, hI⟩ := hS'
  refine w_aload_n rfl rfl (w_iload_n rfl rfl (w_virtual (dc := dd + 4 * (8 - d) + 5) (M' := m_X3_readProduct) rfl (g_vir (n := 2) rfl rfl (by simp [p_cat, p_bd, Value.category]) rfl rfl e43 rfl) rfl rfl (Nat.le_refl _) (ih.2.1 d k p u sv h _ rfl (by omega) hp hd hsv hu hS) ?_))
  rintro v h2 ⟨rfl, hR, hB⟩
  refine w_istore_n rfl (by decide) (w_ic 0 rfl rfl (w_istore_n rfl (by decide) ?_))
  generalize t_P b n (Nat.beq so 1) f 1 d k p = s at hr hR hB
  by_cases e0 : s.1 = 0
  · rw [if_neg (fun q => q e0)] at hr
    obtain ⟨u3, hu3, hS3⟩ := hR.1 e0
    have hB := hB e0
    rw [e0]
    refine (ih.2.2.2.2.1 d s.2 u3 0 _ h2 r hr (by omega) hB.2 hd (Nat.zero_le _) (by omega) hS3 (w_s1 (w_s1 rfl rfl (by decide)) rfl (by decide)) (w_s1 (w_s1 rfl rfl (by decide)) rfl (by decide)) (w_s1 p_lk_s1 rfl (by decide)) p_lk_s1).mono (Nat.le_refl _) ?_
    rintro v h5 ⟨rfl, hR5, hB5⟩
    exact ⟨rfl, c_R_b (by omega) hR5, fun e => by have := hB5 e; omega⟩
  · rw [if_pos e0] at hr
    subst hr
    rw [t_beq0 e0]
    exact c_B5_no (i := 0) (by decide) (w_s1 p_lk_s1 rfl (by decide)) p_lk_s1 ⟨rfl, c_R_f e0 hR, fun e => absurd e e0⟩
theorem t_lb_n : ∀ x : Bool, narrow .boolean (.int (l_b x)) = .int (l_b x)
  | true => rfl
  | false => rfl
set_option maxRecDepth 100000 in
theorem c_choice (hn : n ≤ 300) (hso : so < 100) (ih : c_B b n so m dd ml se ro fa pl f) {d p u : Nat} {h : p_H} {r : Nat × Nat} (hf : 4 * (n - p) + 4 ≤ f) (hp : p ≤ n) (hd1 : 1 ≤ d) (hd : d ≤ 8) (hu : u + 2 ≤ 2 * p) (hS : c_S h b n p u m ((Int32.ofNat so)) false ml se ro fa pl) (hr : (if (t_P b n (Nat.beq so 1) f 0 d 0 p).1 ≠ 0 then t_P b n (Nat.beq so 1) f 0 d 0 p else if t_wd b n (t_P b n (Nat.beq so 1) f 0 d 0 p).2 21 = false then (1, (t_P b n (Nat.beq so 1) f 0 d 0 p).2) else if t_is b n (t_x b n (t_P b n (Nat.beq so 1) f 0 d 0 p).2) 40 = false then (1, t_x b n (t_P b n (Nat.beq so 1) f 0 d 0 p).2) else t_P b n (Nat.beq so 1) f 6 d 1 (t_x b n (t_x b n (t_P b n (Nat.beq so 1) f 0 d 0 p).2))) = r) : p_wp p_GT p_MT (dd + 4 * (9 - d) + 3) m_X3_readChoice 0 (lv_args 0 [.ref 43, .int (Int32.ofNat d)]) [] h (fun v h2 => v = some (.int (l_b (Nat.beq r.1 0))) ∧ c_R h2 b n p (u) m (Int32.ofNat so) ml se ro fa pl r ∧ (r.1 = 0 → p < r.2 ∧ r.2 ≤ n)) := by
  have hS' := hS
  obtain ⟨fs, tp, rw, cw, pa, e43, fl, f0, f1, f2, f3, ⟨f4, f5, f6, v7, f7, t1, t2, t3⟩, f8, f9, f10, f11, f12, f13, f14, f15, f16, f17, e44, hb, e1, e45, rl, hrI, e46, cl, hI⟩ := hS'
  refine w_aload_n rfl rfl (w_iload_n rfl rfl (w_virtual (dc := dd + 4 * (9 - d) + 2) (M' := m_X3_readOne) rfl (g_vir (n := 2) rfl rfl (by simp [p_cat, p_bd, Value.category]) rfl rfl e43 rfl) rfl rfl (Nat.le_refl _) ((ih.1 d 0 p u false h _ rfl (by omega) hp hd rfl hu hS).mono (by omega) (fun _ _ q => q)) ?_))
  rintro v h2 ⟨rfl, hR, hB⟩
  generalize t_P b n (Nat.beq so 1) f 0 d 0 p = s at hr hR hB
  by_cases e0 : s.1 = 0
  · rw [if_neg (fun q => q e0)] at hr
    obtain ⟨u2, hu2, hS2⟩ := hR.1 e0
    have hB := hB e0
    have hS2' := hS2
    rw [e0]
    obtain ⟨fs2, tp2, rw2, cw2, pa2, e432, fl2, f02, f12, f22, f32, ⟨f42, f52, f62, v72, f72, t12, t22, t32⟩, f82, f92, f102, f112, f122, f132, f142, f152, f162, f172, e442, hb2, e12, e452, rl2, hrI2, e462, cl2, hI2⟩ := hS2'
    refine w_ifc_f rfl (t := 26) rfl (by decide) (w_aload_n rfl rfl (w_bp 21 rfl rfl (w_virtual (dc := dd + 4 * (9 - d) + 2) (M' := m_X3_takeWord) rfl (g_vir (n := 2) rfl rfl (by simp [p_cat, p_bd, Value.category]) rfl rfl e432 rfl) rfl rfl (Nat.le_refl _) ((c_takeW (k := 21) hS2 (by decide) hn hB.2).mono (by omega) (fun _ _ q => q)) ?_)))
    rintro v h3 (⟨h21, rfl, hS3⟩ | ⟨h21, rfl, hS3⟩)
    · rw [if_neg (by rw [h21]; decide)] at hr
      have hy := t_x_lt (b := b) (t_wd_lt h21)
      have hS3' := hS3
      obtain ⟨fs3, tp3, rw3, cw3, pa3, e433, fl3, f03, f13, f23, f33, ⟨f43, f53, f63, v73, f73, t13, t23, t33⟩, f83, f93, f103, f113, f123, f133, f143, f153, f163, f173, e443, hb3, e13, e453, rl3, hrI3, e463, cl3, hI3⟩ := hS3'
      refine w_ifc_f rfl (t := 26) rfl (by decide) (w_aload_n rfl rfl (w_bp 40 rfl rfl (w_virtual (dc := dd + 4 * (9 - d) + 2) (M' := m_X3_takeSign) rfl (g_vir (n := 2) rfl rfl (by simp [p_cat, p_bd, Value.category]) rfl rfl e433 rfl) rfl rfl (Nat.le_refl _) ((c_takeS (c := 40) hS3 (by decide) hn hy.2).mono (by omega) (fun _ _ q => q)) ?_)))
      rintro v h4 (⟨h40, rfl, hS4⟩ | ⟨h40, rfl, hS4⟩)
      · rw [if_neg (by rw [h40]; decide)] at hr
        have hz := t_x_lt (b := b) (t_is_lt h40)
        refine w_ifc_t rfl (t := 28) rfl (by decide) (w_iconst rfl (w_istore_n rfl (by decide) (w_ic 1 rfl rfl (w_istore_n rfl (by decide) ?_))))
        refine (ih.2.2.2.2.2 d 1 (t_x b n (t_x b n s.2)) u2 _ _ h4 r hr (by omega) hz.2 hd1 hd (Nat.le_refl _) (by decide) (by omega) hS4 (w_s1 (w_s1 rfl rfl (by decide)) rfl (by decide)) (w_s1 (w_s1 rfl rfl (by decide)) rfl (by decide)) (w_s1 p_lk_s1 rfl (by decide)) p_lk_s1).mono (Nat.le_refl _) ?_
        rintro v h5 ⟨rfl, hR5, hB5⟩
        exact ⟨rfl, c_R_b (by omega) hR5, fun e => by have := hB5 e; omega⟩
      · rw [if_pos h40] at hr
        subst hr
        exact w_ifc_f rfl (t := 28) rfl (by decide) (w_iconst rfl (w_ireturnb rfl rfl rfl ⟨rfl, c_R_no (by decide) hS4, fun e => absurd e (by decide)⟩))
    · rw [if_pos h21] at hr
      subst hr
      exact w_ifc_t rfl (t := 26) rfl (by decide) (w_iconst rfl (w_ireturnb rfl rfl rfl ⟨rfl, c_R_no (by decide) hS3, fun e => absurd e (by decide)⟩))
  · rw [if_pos e0] at hr
    subst hr
    rw [t_beq0 e0]
    exact w_ifc_t rfl (t := 26) rfl (by decide) (w_iconst rfl (w_ireturnb rfl rfl rfl ⟨rfl, c_R_f e0 hR, fun e => absurd e e0⟩))
set_option maxRecDepth 100000 in
theorem c_B0_ok (hn : n ≤ 300) (hso : so < 100) (ih : c_B b n so m dd ml se ro fa pl f) : c_B0 b n so m dd ml se ro fa pl (f + 1) := by
  intro d k p u sv h r hr hf hp hd hsv hu hS
  rw [t_P0] at hr
  have hS' := hS
  obtain ⟨fs, tp, rw, cw, pa, e43, fl, f0, f1, f2, f3, ⟨f4, f5, f6, v7, f7, t1, t2, t3⟩, f8, f9, f10, f11, f12, f13, f14, f15, f16, f17, e44, hb, e1, e45, rl, hrI, e46, cl, hI⟩ := hS'
  have hbb : ∀ k, k < n → b k < 256 := fun k hk => (hb k (by omega)).2
  have A : ∀ (ls2 : p_Ls), p_lk 0 ls2 = some (.ref 43) → p_lk 1 ls2 = some (.int (Int32.ofNat d)) → p_lk 2 ls2 = some (.int (l_b (t_op b n p))) → p_wp p_GT p_MT (dd + 4 * (8 - d) + 4) m_X3_readOne 33 ls2 [] h (fun v h2 => v = some (.int (l_b (Nat.beq r.1 0))) ∧ c_R h2 b n p (u) m (Int32.ofNat so) ml se ro fa pl r ∧ (r.1 = 0 → p < r.2 ∧ r.2 ≤ n)) := by
    intro ls2 m0 m1 m2
    have B : ∀ (ls3 : p_Ls), p_lk 0 ls3 = some (.ref 43) → p_lk 1 ls3 = some (.int (Int32.ofNat d)) → p_lk 2 ls3 = some (.int (l_b (t_op b n p))) → p_lk 3 ls3 = some (.int (l_b (c_nm b n p))) → p_wp p_GT p_MT (dd + 4 * (8 - d) + 4) m_X3_readOne 61 ls3 [] h (fun v h2 => v = some (.int (l_b (Nat.beq r.1 0))) ∧ c_R h2 b n p (u) m (Int32.ofNat so) ml se ro fa pl r ∧ (r.1 = 0 → p < r.2 ∧ r.2 ≤ n)) := by
      intro ls3 k0 k1 k2 k3
      refine w_aload_n rfl k0 (w_iload_n rfl k2 (w_iload_n rfl k3 (w_iload_n rfl k1 (w_virtual (dc := dd + 4 * (8 - d) + 3) (M' := m_X3_faultOfOne) rfl (g_vir (n := 4) rfl rfl (by simp [p_cat, p_bd, Value.category]) rfl rfl e43 rfl) rfl rfl (Nat.le_refl _) (c_F hS hn hp hd hso) ?_))))
      rintro v h2 ⟨rfl, rfl⟩
      refine w_istore rfl (by decide) (w_iload rfl p_lk_s1 ?_)
      have h100 := t_F_100 (b := b) (n := n) (p := p) (d := d) (S := Nat.beq so 1)
      by_cases hF : t_F b n (Nat.beq so 1) d p = 0
      · rw [if_neg (fun q => q hF)] at hr
        rw [if_neg (fun q => q hF)]
        by_cases hk7 : k = 7
        · rw [if_pos hk7] at hr
          subst hr
          subst hk7
          subst hsv
          rw [if_pos (show Nat.beq 7 7 = true from rfl)]
          refine w_ifc_f rfl (t := 82) rfl (by decide) (w_aload_n rfl (w_s1 k0 rfl (by decide)) (w_iload rfl p_lk_s1 (w_virtual (dc := dd + 4 * (8 - d) + 3) (M' := m_X3_wrong) rfl (g_vir (n := 2) rfl rfl (by simp [p_cat, p_bd, Value.category]) rfl rfl e43 rfl) rfl rfl (Nat.le_refl _) (c_wrong hS) ?_)))
          rintro v h3 ⟨rfl, hS3⟩
          exact w_ireturnb rfl rfl rfl ⟨rfl, c_R_no (by decide) hS3, fun e => absurd e (by decide)⟩
        · rw [if_neg hk7] at hr
          have hsv0 : sv = false := by rw [hsv]; exact Bool.eq_false_iff.mpr (fun e => hk7 (Nat.eq_of_beq_eq_true e))
          subst hsv0
          rw [if_neg (by decide)]
          have hpn := t_F_lt hF
          have hx := t_x_lt (b := b) hpn
          refine w_ifc_t rfl (t := 82) rfl (by decide) (w_aload_n rfl (w_s1 k0 rfl (by decide)) (w_bp 20 rfl rfl (w_virtual (dc := dd + 4 * (8 - d) + 3) (M' := m_X3_isWord) rfl (g_vir (n := 2) rfl rfl (by simp [p_cat, p_bd, Value.category]) rfl rfl e43 rfl) rfl rfl (Nat.le_refl _) (c_isW (k := 20) hS (by decide) hp) ?_)))
          rintro v h2 ⟨rfl, rfl⟩
          refine w_istore rfl (by decide) (w_aload_n rfl (w_s1 (w_s1 k0 rfl (by decide)) rfl (by decide)) (w_getf rfl rfl e43 f7 (w_istore rfl (by decide) (w_aload_n rfl (w_s1 (w_s1 (w_s1 k0 rfl (by decide)) rfl (by decide)) rfl (by decide)) (w_virtual (dc := dd + 4 * (8 - d) + 3) (M' := m_X3_step) rfl (g_vir (n := 1) rfl rfl (by simp [p_cat, p_bd, Value.category]) rfl rfl e43 rfl) rfl rfl (Nat.le_refl _) ((c_next (dd := dd) hS hn hp).mono (by omega) (fun _ _ q => q)) ?_)))))
          rintro v h2 ⟨rfl, hS2⟩
          have hS2' := hS2
          obtain ⟨fs2, tp2, rw2, cw2, pa2, e432, fl2, f02, f12, f22, f32, ⟨f42, f52, f62, v72, f72, t12, t22, t32⟩, f82, f92, f102, f112, f122, f132, f142, f152, f162, f172, e442, hb2, e12, e452, rl2, hrI2, e462, cl2, hI2⟩ := hS2'
          refine w_iload_n rfl (w_s1 (w_s1 (w_s1 k2 rfl (by decide)) rfl (by decide)) rfl (by decide)) ?_
          by_cases ho : t_op b n p = false
          · rw [if_pos ho] at hr
            subst hr
            rw [ho]
            cases hnm : c_nm b n p with
            | true =>
              refine w_ifc_f rfl (t := 129) rfl (by decide) (w_iload_n rfl (w_s1 (w_s1 (w_s1 k3 rfl (by decide)) rfl (by decide)) rfl (by decide)) (w_ifc_f rfl (t := 121) rfl (by decide) (w_aload_n rfl (w_s1 (w_s1 (w_s1 k0 rfl (by decide)) rfl (by decide)) rfl (by decide)) (w_ic 1 rfl rfl (w_iload rfl p_lk_s1 (w_bp 8 rfl rfl (w_isub rfl (w_virtual (dc := dd + 4 * (8 - d) + 3) (M' := m_X3_make) rfl (g_vir (n := 3) rfl rfl (by simp [p_cat, p_bd, Value.category]) rfl rfl e432 rfl) rfl rfl (Nat.le_refl _) ((c_make (dd := dd) hS2 (by omega)).mono (by omega) (fun _ _ q => q)) ?_))))))))
              rintro v h4 ⟨rfl, hS4⟩
              exact w_goto rfl (t := 128) rfl (w_ireturnb rfl rfl rfl ⟨rfl, c_R_yes rfl (by show u + 1 + 2 * p ≤ u + 2 * t_x b n p; omega) hS4, fun _ => hx⟩)
            | false =>
              refine w_ifc_f rfl (t := 129) rfl (by decide) (w_iload_n rfl (w_s1 (w_s1 (w_s1 k3 rfl (by decide)) rfl (by decide)) rfl (by decide)) (w_ifc_t rfl (t := 121) rfl (by decide) (w_aload_n rfl (w_s1 (w_s1 (w_s1 k0 rfl (by decide)) rfl (by decide)) rfl (by decide)) (w_ic 0 rfl rfl (w_iload rfl p_lk_s1 (w_virtual (dc := dd + 4 * (8 - d) + 3) (M' := m_X3_make) rfl (g_vir (n := 3) rfl rfl (by simp [p_cat, p_bd, Value.category]) rfl rfl e432 rfl) rfl rfl (Nat.le_refl _) ((c_make (dd := dd) hS2 (by omega)).mono (by omega) (fun _ _ q => q)) ?_))))))
              rintro v h4 ⟨rfl, hS4⟩
              exact w_ireturnb rfl rfl rfl ⟨rfl, c_R_yes rfl (by show u + 1 + 2 * p ≤ u + 2 * t_x b n p; omega) hS4, fun _ => hx⟩
          · rw [if_neg ho] at hr
            have ho : t_op b n p = true := by cases q : t_op b n p with
              | true => rfl
              | false => exact absurd q ho
            have hd8 := t_F_op hF ho
            rw [ho]
            by_cases h20 : t_wd b n p 20 = true
            · rw [if_pos h20] at hr
              rw [h20]
              refine w_ifc_t rfl (t := 129) rfl (by decide) (w_iload rfl (w_s1 p_lk_s1 rfl (by decide)) (w_ifc_f rfl (t := 142) rfl (by decide) (w_aload_n rfl (w_s1 (w_s1 (w_s1 k0 rfl (by decide)) rfl (by decide)) rfl (by decide)) (w_iload_n rfl (w_s1 (w_s1 (w_s1 k1 rfl (by decide)) rfl (by decide)) rfl (by decide)) (w_ic 1 rfl rfl (w_addN rfl (w_virtual (dc := dd + 4 * (8 - d) + 3) (M' := m_X3_readChoice) rfl (g_vir (n := 2) rfl rfl (by simp [p_cat, p_bd, Value.category]) rfl rfl e432 rfl) rfl rfl (by omega) ((c_choice hn hso ih (d := d + 1) (p := t_x b n p) (r := r) (by omega) hx.2 (by omega) (by omega) (by omega) hS2 hr).mono (by omega) (fun _ _ q => q)) ?_)))))))
              rintro v h4 ⟨rfl, hR4, hB4⟩
              exact w_ireturnb rfl rfl (t_lb_n _) ⟨rfl, c_R_b (by omega) hR4, fun e => by have := hB4 e; omega⟩
            · rw [if_neg h20] at hr
              rw [Bool.eq_false_iff.mpr h20]
              have hk3 : t_k b n p = 3 := by
                have ho2 := ho
                unfold t_op at ho2
                simp only [Bool.or_eq_true] at ho2
                rcases ho2 with e | e | e
                · exact (t_is_iff.mp e).1
                · exact (t_is_iff.mp e).1
                · exact absurd e h20
              have ev := t3 hk3
              subst ev
              have hb8 := hbb p hpn
              by_cases h45 : t_is b n p 45 = true
              · rw [if_pos h45] at hr
                have e45 := (t_is_iff.mp h45).2
                refine w_ifc_t rfl (t := 129) rfl (by decide) (w_iload rfl (w_s1 p_lk_s1 rfl (by decide)) (w_ifc_t rfl (t := 142) rfl (by decide) (w_iload rfl p_lk_s1 (w_bp 45 rfl rfl (w_icmp_f rfl (t := 176) rfl (by rw [e45]; decide) (w_aload_n rfl (w_s1 (w_s1 (w_s1 k0 rfl (by decide)) rfl (by decide)) rfl (by decide)) (w_iload_n rfl (w_s1 (w_s1 (w_s1 k1 rfl (by decide)) rfl (by decide)) rfl (by decide)) (w_ic 1 rfl rfl (w_addN rfl (w_virtual (dc := dd + 4 * (8 - d) + 3) (M' := m_X3_readOne) rfl (g_vir (n := 2) rfl rfl (by simp [p_cat, p_bd, Value.category]) rfl rfl e432 rfl) rfl rfl (by omega) ((ih.1 (d + 1) 0 (t_x b n p) u false h2 r hr (by omega) hx.2 (by omega) rfl (by omega) hS2).mono (by omega) (fun _ _ q => q)) ?_))))))))))
                rintro v h4 ⟨rfl, hR4, hB4⟩
                by_cases e0 : r.1 = 0
                · obtain ⟨u4, hu4, hS4⟩ := hR4.1 e0
                  have hB4 := hB4 e0
                  have hS4' := hS4
                  rw [e0]
                  obtain ⟨fs4, tp4, rw4, cw4, pa4, e434, fl4, f04, f14, f24, f34, ⟨f44, f54, f64, v74, f74, t14, t24, t34⟩, f84, f94, f104, f114, f124, f134, f144, f154, f164, f174, e444, hb4, e14, e454, rl4, hrI4, e464, cl4, hI4⟩ := hS4'
                  refine w_ifc_f rfl (t := 172) rfl (by decide) (w_aload_n rfl (w_s1 (w_s1 (w_s1 k0 rfl (by decide)) rfl (by decide)) rfl (by decide)) (w_ic 2 rfl rfl (w_ic 0 rfl rfl (w_virtual (dc := dd + 4 * (8 - d) + 3) (M' := m_X3_make) rfl (g_vir (n := 3) rfl rfl (by simp [p_cat, p_bd, Value.category]) rfl rfl e434 rfl) rfl rfl (Nat.le_refl _) ((c_make (dd := dd) hS4 (by omega)).mono (by omega) (fun _ _ q => q)) ?_))))
                  rintro v h5 ⟨rfl, hS5⟩
                  exact w_ifc_f rfl (t := 172) rfl (by decide) (w_iconst rfl (w_goto rfl (t := 200) rfl (w_ireturnb rfl rfl rfl ⟨rfl, c_R_yes e0 (by omega) hS5, fun _ => by omega⟩)))
                · rw [t_beq0 e0]
                  exact w_ifc_t rfl (t := 172) rfl (by decide) (w_iconst rfl (w_goto rfl (t := 200) rfl (w_ireturnb rfl rfl rfl ⟨rfl, c_R_f e0 hR4, fun e => absurd e e0⟩)))
              · rw [if_neg h45] at hr
                have e45 : ¬ b p = 45 := fun e => h45 (t_is_iff.mpr ⟨hk3, e⟩)
                refine w_ifc_t rfl (t := 129) rfl (by decide) (w_iload rfl (w_s1 p_lk_s1 rfl (by decide)) (w_ifc_t rfl (t := 142) rfl (by decide) (w_iload rfl p_lk_s1 (w_bp 45 rfl rfl (w_icmp_t rfl (t := 176) rfl (by simp only [p_cd, decide_eq_true_eq]; exact b_ofNat_ne (by omega) (by omega) e45) (w_aload_n rfl (w_s1 (w_s1 (w_s1 k0 rfl (by decide)) rfl (by decide)) rfl (by decide)) (w_iload_n rfl (w_s1 (w_s1 (w_s1 k1 rfl (by decide)) rfl (by decide)) rfl (by decide)) (w_ic 1 rfl rfl (w_addN rfl (w_virtual (dc := dd + 4 * (8 - d) + 3) (M' := m_X3_readSum) rfl (g_vir (n := 2) rfl rfl (by simp [p_cat, p_bd, Value.category]) rfl rfl e432 rfl) rfl rfl (by omega) ((ih.2.2.1 (d + 1) 0 (t_x b n p) u false h2 _ rfl (by omega) hx.2 (by omega) rfl (by omega) hS2).mono (by omega) (fun _ _ q => q)) ?_))))))))))
                rintro v h4 ⟨rfl, hR4, hB4⟩
                generalize t_P b n (Nat.beq so 1) f 2 (d + 1) 0 (t_x b n p) = s at hr hR4 hB4
                by_cases e0 : s.1 = 0
                · rw [if_neg (fun q => q e0)] at hr
                  obtain ⟨u4, hu4, hS4⟩ := hR4.1 e0
                  have hB4 := hB4 e0
                  have hS4' := hS4
                  rw [e0]
                  obtain ⟨fs4, tp4, rw4, cw4, pa4, e434, fl4, f04, f14, f24, f34, ⟨f44, f54, f64, v74, f74, t14, t24, t34⟩, f84, f94, f104, f114, f124, f134, f144, f154, f164, f174, e444, hb4, e14, e454, rl4, hrI4, e464, cl4, hI4⟩ := hS4'
                  refine w_ifc_f rfl (t := 199) rfl (by decide) (w_aload_n rfl (w_s1 (w_s1 (w_s1 k0 rfl (by decide)) rfl (by decide)) rfl (by decide)) (w_bp 41 rfl rfl (w_virtual (dc := dd + 4 * (8 - d) + 3) (M' := m_X3_takeSign) rfl (g_vir (n := 2) rfl rfl (by simp [p_cat, p_bd, Value.category]) rfl rfl e434 rfl) rfl rfl (Nat.le_refl _) ((c_takeS (c := 41) hS4 (by decide) hn hB4.2).mono (by omega) (fun _ _ q => q)) ?_)))
                  rintro v h5 (⟨h41, rfl, hS5⟩ | ⟨h41, rfl, hS5⟩)
                  · rw [if_pos h41] at hr
                    subst hr
                    have hy := t_x_lt (b := b) (t_is_lt h41)
                    exact w_ifc_f rfl (t := 199) rfl (by decide) (w_iconst rfl (w_goto rfl (t := 200) rfl (w_ireturnb rfl rfl rfl ⟨rfl, c_R_yes rfl (by show u4 + 2 * p ≤ u + 2 * t_x b n s.2; omega) hS5, fun _ => ⟨by show p < t_x b n s.2; omega, hy.2⟩⟩)))
                  · rw [if_neg (by rw [h41]; decide)] at hr
                    subst hr
                    exact w_ifc_t rfl (t := 199) rfl (by decide) (w_iconst rfl (w_ireturnb rfl rfl rfl ⟨rfl, c_R_no (by decide) hS5, fun e => absurd e (by decide)⟩))
                · rw [if_pos e0] at hr
                  subst hr
                  rw [t_beq0 e0]
                  exact w_ifc_t rfl (t := 199) rfl (by decide) (w_iconst rfl (w_ireturnb rfl rfl rfl ⟨rfl, c_R_f e0 hR4, fun e => absurd e e0⟩))
      · rw [if_pos hF] at hr
        subst hr
        rw [if_pos hF]
        refine w_ifc_f rfl (t := 82) rfl (by simp only [p_cd, decide_eq_false_iff_not]; exact b_ofNat_ne (b := 0) (by omega) (by omega) hF) (w_aload_n rfl (w_s1 k0 rfl (by decide)) (w_iload rfl p_lk_s1 (w_virtual (dc := dd + 4 * (8 - d) + 3) (M' := m_X3_wrong) rfl (g_vir (n := 2) rfl rfl (by simp [p_cat, p_bd, Value.category]) rfl rfl e43 rfl) rfl rfl (Nat.le_refl _) (c_wrong hS) ?_)))
        rintro v h3 ⟨rfl, hS3⟩
        rw [show l_b (Nat.beq (t_F b n (Nat.beq so 1) d p, p).1 0) = l_b false by rw [t_beq0 hF]]
        exact w_ireturnb rfl rfl rfl ⟨rfl, c_R_no hF hS3, fun e => absurd e hF⟩
    by_cases k1 : t_k b n p = 1
    · have enm := c_nm_v hp hbb k1 (t1 k1)
      refine w_aload_n rfl m0 (w_getf rfl rfl e43 f6 (w_ic 1 rfl rfl (w_icmp_f rfl (t := 59) rfl (by rw [k1]; decide) (w_aload_n rfl m0 (w_getf rfl rfl e43 f7 (w_bp 8 rfl rfl (w_bp 15 rfl rfl (w_static (nn := 0) (dc := dd + 4 * (8 - d) + 3) (M' := m_X11_within) rfl rfl rfl rfl (Nat.le_refl _) b_within ?_))))))))
      rintro v h2 ⟨rfl, rfl⟩
      rw [enm]
      cases hnm : c_nm b n p with
      | true =>
        exact w_ifc_f rfl (t := 59) rfl (by decide) (w_iconst rfl (w_goto rfl (t := 60) rfl (w_istore_n rfl (by decide) (B _ (w_s1 m0 rfl (by decide)) (w_s1 m1 rfl (by decide)) (w_s1 m2 rfl (by decide)) (by rw [hnm]; exact p_lk_s1)))))
      | false =>
        exact w_ifc_t rfl (t := 59) rfl (by decide) (w_iconst rfl (w_istore_n rfl (by decide) (B _ (w_s1 m0 rfl (by decide)) (w_s1 m1 rfl (by decide)) (w_s1 m2 rfl (by decide)) (by rw [hnm]; exact p_lk_s1))))
    · have hk4 : t_k b n p < 4 := by unfold t_k; (repeat' split) <;> omega
      have hnm : c_nm b n p = false := by unfold c_nm; rw [(c_nm_w k1).1, (c_nm_w k1).2]; rfl
      exact w_aload_n rfl m0 (w_getf rfl rfl e43 f6 (w_iconst rfl (w_icmp_t rfl (t := 59) rfl (by simp only [p_cd, decide_eq_true_eq]; exact b_ofNat_ne (by omega) (by omega) k1) (w_iconst rfl (w_istore_n rfl (by decide) (B _ (w_s1 m0 rfl (by decide)) (w_s1 m1 rfl (by decide)) (w_s1 m2 rfl (by decide)) (by rw [hnm]; exact p_lk_s1)))))))
  refine w_aload_n rfl rfl (w_bp 40 rfl rfl (w_virtual (dc := dd + 4 * (8 - d) + 3) (M' := m_X3_isSign) rfl (g_vir (n := 2) rfl rfl (by simp [p_cat, p_bd, Value.category]) rfl rfl e43 rfl) rfl rfl (Nat.le_refl _) (c_isS (c := 40) hS (by decide)) ?_))
  rintro v h2 ⟨rfl, rfl⟩
  cases q1 : t_is b n p 40 with
  | true =>
    exact w_ifc_t rfl (t := 27) rfl (by decide) (w_iconst rfl (w_goto rfl (t := 32) rfl (w_istore_n rfl (by decide) (A _ (w_s1 rfl rfl (by decide)) (w_s1 rfl rfl (by decide)) (by rw [show t_op b n p = true by unfold t_op; rw [q1]; rfl]; exact p_lk_s1)))))
  | false =>
    refine w_ifc_f rfl (t := 27) rfl (by decide) (w_aload_n rfl rfl (w_bp 45 rfl rfl (w_virtual (dc := dd + 4 * (8 - d) + 3) (M' := m_X3_isSign) rfl (g_vir (n := 2) rfl rfl (by simp [p_cat, p_bd, Value.category]) rfl rfl e43 rfl) rfl rfl (Nat.le_refl _) (c_isS (c := 45) hS (by decide)) ?_)))
    rintro v h2 ⟨rfl, rfl⟩
    cases q2 : t_is b n p 45 with
    | true =>
      exact w_ifc_t rfl (t := 27) rfl (by decide) (w_iconst rfl (w_goto rfl (t := 32) rfl (w_istore_n rfl (by decide) (A _ (w_s1 rfl rfl (by decide)) (w_s1 rfl rfl (by decide)) (by rw [show t_op b n p = true by unfold t_op; rw [q1, q2]; rfl]; exact p_lk_s1)))))
    | false =>
      refine w_ifc_f rfl (t := 27) rfl (by decide) (w_aload_n rfl rfl (w_bp 20 rfl rfl (w_virtual (dc := dd + 4 * (8 - d) + 3) (M' := m_X3_isWord) rfl (g_vir (n := 2) rfl rfl (by simp [p_cat, p_bd, Value.category]) rfl rfl e43 rfl) rfl rfl (Nat.le_refl _) (c_isW (k := 20) hS (by decide) hp) ?_)))
      rintro v h2 ⟨rfl, rfl⟩
      cases q3 : t_wd b n p 20 with
      | true =>
        exact w_ifc_f rfl (t := 31) rfl (by decide) (w_iconst rfl (w_goto rfl (t := 32) rfl (w_istore_n rfl (by decide) (A _ (w_s1 rfl rfl (by decide)) (w_s1 rfl rfl (by decide)) (by rw [show t_op b n p = true by unfold t_op; rw [q1, q2, q3]; rfl]; exact p_lk_s1)))))
      | false =>
        exact w_ifc_t rfl (t := 31) rfl (by decide) (w_iconst rfl (w_istore_n rfl (by decide) (A _ (w_s1 rfl rfl (by decide)) (w_s1 rfl rfl (by decide)) (by rw [show t_op b n p = false by unfold t_op; rw [q1, q2, q3]; rfl]; exact p_lk_s1))))
theorem t_P27 {d p g : Nat} {S : Bool} (h : (t_P b n S (g + 3) 2 d 7 p).1 = 0) : False := by
  have e0 : (t_P b n S (g + 1) 0 d 7 p).1 ≠ 0 := by
    rw [t_P0]
    by_cases q : t_F b n S d p ≠ 0
    · rw [if_pos q]; exact q
    · rw [if_neg q, if_pos rfl]; decide
  have e1 : (t_P b n S (g + 2) 1 d 7 p).1 ≠ 0 := by rw [t_P1, if_pos e0]; exact e0
  rw [t_P2, if_pos e1] at h
  exact e1 h
set_option maxRecDepth 100000 in
theorem c_B6_ok (hn : n ≤ 300) (hso : so < 100) (ih : c_B b n so m dd ml se ro fa pl f) : c_B6 b n so m dd ml se ro fa pl (f + 1) := by
  intro d k p u y ls h r hr hf hp hd1 hd hk1 hk7 hu hS l0 l1 l2 l3
  rw [t_P6] at hr
  have hS' := hS
  obtain ⟨fs, tp, rw, cw, pa, e43, fl, f0, f1, f2, f3, ⟨f4, f5, f6, v7, f7, t1, t2, t3⟩, f8, f9, f10, f11, f12, f13, f14, f15, f16, f17, e44, hb, e1, e45, rl, hrI, e46, cl, hI⟩ := hS'
  refine w_iload_n rfl l3 (w_bp 7 rfl rfl (w_icmp_f rfl (t := 133) rfl (by simp only [p_cd, decide_eq_false_iff_not]; rw [Int32.lt_iff_toInt_lt, g_ofNat (by omega), g_ofNat (by omega)]; omega) (w_aload_n rfl l0 (w_getf rfl rfl e43 f15 (w_istore rfl (by decide) (w_aload_n rfl (w_s1 l0 rfl (by decide)) (w_ic 4 rfl rfl (w_ic 0 rfl rfl (w_virtual (dc := dd + 4 * (9 - d) + 2) (M' := m_X3_make) rfl (g_vir (n := 3) rfl rfl (by simp [p_cat, p_bd, Value.category]) rfl rfl e43 rfl) rfl rfl (Nat.le_refl _) ((c_make (dd := dd) hS (by omega)).mono (by omega) (fun _ _ q => q)) ?_)))))))))
  rintro v h2 ⟨rfl, hS2⟩
  have hS2' := hS2
  obtain ⟨fs2, tp2, rw2, cw2, pa2, e432, fl2, f02, f12, f22, f32, ⟨f42, f52, f62, v72, f72, t12, t22, t32⟩, f82, f92, f102, f112, f122, f132, f142, f152, f162, f172, e442, hb2, e12, e452, rl2, hrI2, e462, cl2, hI2⟩ := hS2'
  refine w_pop rfl (w_aload_n rfl (w_s1 l0 rfl (by decide)) (w_iload_n rfl (w_s1 l3 rfl (by decide)) (w_bp 6 rfl rfl ?_)))
  have go : ∀ (h3 : p_H) (ls3 : p_Ls), c_S h3 b n p (u + 1) m ((Int32.ofNat so)) ((Nat.beq k 7)) ml se ro fa pl → p_lk 0 ls3 = some (.ref 43) → p_lk 1 ls3 = some (.int (Int32.ofNat d)) → p_lk 2 ls3 = some (.int y) → p_lk 3 ls3 = some (.int (Int32.ofNat k)) → p_lk 4 ls3 = some (.int (Int32.ofNat u)) → p_wp p_GT p_MT (dd + 4 * (9 - d) + 3) m_X3_readChoice 66 ls3 [] h3 (fun v h2 => v = some (.int (l_b (Nat.beq r.1 0))) ∧ c_R h2 b n p (u + 1) m (Int32.ofNat so) ml se ro fa pl r ∧ (r.1 = 0 → p < r.2 ∧ r.2 ≤ n)) := by
    intro h3 ls3 hS3 k0 k1 k2 k3 k4
    have hS3' := hS3
    obtain ⟨fs3, tp3, rw3, cw3, pa3, e433, fl3, f03, f13, f23, f33, ⟨f43, f53, f63, v73, f73, t13, t23, t33⟩, f83, f93, f103, f113, f123, f133, f143, f153, f163, f173, e443, hb3, e13, e453, rl3, hrI3, e463, cl3, hI3⟩ := hS3'
    refine w_aload_n rfl k0 (w_iload_n rfl k1 (w_virtual (dc := dd + 4 * (9 - d) + 2) (M' := m_X3_readSum) rfl (g_vir (n := 2) rfl rfl (by simp [p_cat, p_bd, Value.category]) rfl rfl e433 rfl) rfl rfl (Nat.le_refl _) ((ih.2.2.1 d k p (u + 1) _ h3 _ rfl (by omega) hp hd rfl (by omega) hS3).mono (by omega) (fun _ _ q => q)) ?_))
    rintro v h4 ⟨rfl, hR, hB⟩
    by_cases e0 : (t_P b n (Nat.beq so 1) f 2 d k p).1 = 0
    · rw [if_neg (fun q => q e0)] at hr
      have hk6 : k ≠ 7 := fun e => by
        subst e
        obtain ⟨g, rfl⟩ : ∃ g, f = g + 3 := ⟨f - 3, by omega⟩
        exact t_P27 e0
      generalize t_P b n (Nat.beq so 1) f 2 d k p = s at hr hR hB e0
      obtain ⟨u4, hu4, hS4⟩ := hR.1 e0
      have hB := hB e0
      have hS4' := hS4
      rw [e0]
      obtain ⟨fs4, tp4, rw4, cw4, pa4, e434, fl4, f04, f14, f24, f34, ⟨f44, f54, f64, v74, f74, t14, t24, t34⟩, f84, f94, f104, f114, f124, f134, f144, f154, f164, f174, e444, hb4, e14, e454, rl4, hrI4, e464, cl4, hI4⟩ := hS4'
      refine w_ifc_t rfl (t := 76) rfl (by decide) (w_aload_n rfl k0 (w_bp 44 rfl rfl (w_virtual (dc := dd + 4 * (9 - d) + 2) (M' := m_X3_isSign) rfl (g_vir (n := 2) rfl rfl (by simp [p_cat, p_bd, Value.category]) rfl rfl e434 rfl) rfl rfl (Nat.le_refl _) (c_isS (c := 44) hS4 (by decide)) ?_)))
      rintro v h2 ⟨rfl, rfl⟩
      by_cases h44 : t_is b n s.2 44 = true
      · rw [if_pos h44] at hr
        have hy := t_x_lt (b := b) (t_is_lt h44)
        rw [h44]
        refine w_ifc_t rfl (t := 97) rfl (by decide) (w_aload_n rfl k0 (w_ic 3 rfl rfl (w_iload_n rfl k2 (w_ic 1 rfl rfl (w_iadd rfl (w_virtual (dc := dd + 4 * (9 - d) + 2) (M' := m_X3_make) rfl (g_vir (n := 3) rfl rfl (by simp [p_cat, p_bd, Value.category]) rfl rfl e434 rfl) rfl rfl (Nat.le_refl _) ((c_make (dd := dd) hS4 (by omega)).mono (by omega) (fun _ _ q => q)) ?_))))))
        rintro v h5 ⟨rfl, hS5⟩
        have hS5' := hS5
        obtain ⟨fs5, tp5, rw5, cw5, pa5, e435, fl5, f05, f15, f25, f35, ⟨f45, f55, f65, v75, f75, t15, t25, t35⟩, f85, f95, f105, f115, f125, f135, f145, f155, f165, f175, e445, hb5, e15, e455, rl5, hrI5, e465, cl5, hI5⟩ := hS5'
        refine w_pop rfl (w_aload_n rfl k0 (w_getf rfl rfl e435 f155 (w_ic 1 rfl rfl (w_isub rfl (w_istore_n rfl (by decide) (w_aload_n rfl (w_s1 k0 rfl (by decide)) (w_iload rfl (w_s1 k4 rfl (by decide)) (w_aload_n rfl (w_s1 k0 rfl (by decide)) (w_getf rfl rfl e435 f155 (w_virtual (dc := dd + 4 * (9 - d) + 2) (M' := m_X3_lead) rfl (g_vir (n := 3) rfl rfl (by simp [p_cat, p_bd, Value.category]) rfl rfl e435 rfl) rfl rfl (Nat.le_refl _) ((c_lead (dd := dd) hS5 (by omega)).mono (by omega) (fun _ _ q => q)) ?_))))))))))
        rintro v h6 ⟨rfl, hS6⟩
        have hS6' := hS6
        obtain ⟨fs6, tp6, rw6, cw6, pa6, e436, fl6, f06, f16, f26, f36, ⟨f46, f56, f66, v76, f76, t16, t26, t36⟩, f86, f96, f106, f116, f126, f136, f146, f156, f166, f176, e446, hb6, e16, e456, rl6, hrI6, e466, cl6, hI6⟩ := hS6'
        refine w_aload_n rfl (w_s1 k0 rfl (by decide)) (w_virtual (dc := dd + 4 * (9 - d) + 2) (M' := m_X3_step) rfl (g_vir (n := 1) rfl rfl (by simp [p_cat, p_bd, Value.category]) rfl rfl e436 rfl) rfl rfl (Nat.le_refl _) ((c_next (dd := dd) hS6 hn hB.2).mono (by omega) (fun _ _ q => q)) ?_)
        rintro v h7 ⟨rfl, hS7⟩
        refine w_iincN rfl (w_s1 k3 rfl (by decide)) (by decide) (w_goto rfl (t := 32) rfl ?_)
        refine (ih.2.2.2.2.2 d (k + 1) (t_x b n s.2) (u4 + 1) _ _ h7 r hr (by omega) hy.2 hd1 hd (by omega) (by omega) (by omega) hS7 (w_s1 (w_s1 k0 rfl (by decide)) rfl (by decide)) (w_s1 (w_s1 k1 rfl (by decide)) rfl (by decide)) (w_s1 p_lk_s1 rfl (by decide)) p_lk_s1).mono (Nat.le_refl _) ?_
        rintro v h8 ⟨rfl, hR8, hB8⟩
        exact ⟨rfl, c_R_b (by omega) hR8, fun e => by have := hB8 e; omega⟩
      · rw [if_neg h44] at hr
        rw [Bool.eq_false_iff.mpr h44]
        refine w_ifc_f rfl (t := 97) rfl (by decide) (w_aload_n rfl k0 (w_iload_n rfl k2 (w_virtual (dc := dd + 4 * (9 - d) + 2) (M' := m_X3_closeJumps) rfl (g_vir (n := 2) rfl rfl (by simp [p_cat, p_bd, Value.category]) rfl rfl e434 rfl) rfl rfl (Nat.le_refl _) ((c_close (dd := dd) hS4 (by omega)).mono (by omega) (fun _ _ q => q)) ?_)))
        rintro v h5 ⟨rfl, hS5⟩
        have hS5' := hS5
        obtain ⟨fs5, tp5, rw5, cw5, pa5, e435, fl5, f05, f15, f25, f35, ⟨f45, f55, f65, v75, f75, t15, t25, t35⟩, f85, f95, f105, f115, f125, f135, f145, f155, f165, f175, e445, hb5, e15, e455, rl5, hrI5, e465, cl5, hI5⟩ := hS5'
        refine w_aload_n rfl k0 (w_bp 41 rfl rfl (w_virtual (dc := dd + 4 * (9 - d) + 2) (M' := m_X3_takeSign) rfl (g_vir (n := 2) rfl rfl (by simp [p_cat, p_bd, Value.category]) rfl rfl e435 rfl) rfl rfl (Nat.le_refl _) ((c_takeS (c := 41) hS5 (by decide) hn hB.2).mono (by omega) (fun _ _ q => q)) ?_))
        rintro v h6 (⟨h41, rfl, hS6⟩ | ⟨h41, rfl, hS6⟩)
        · rw [if_pos h41] at hr
          subst hr
          have hy := t_x_lt (b := b) (t_is_lt h41)
          exact w_ireturnb rfl rfl rfl ⟨rfl, c_R_yes rfl (by show u4 + 2 * p ≤ u + 1 + 2 * t_x b n s.2; omega) hS6, fun _ => ⟨by show p < t_x b n s.2; omega, hy.2⟩⟩
        · rw [if_neg (by rw [h41]; decide)] at hr
          subst hr
          exact w_ireturnb rfl rfl rfl ⟨rfl, c_R_no (by decide) hS6, fun e => absurd e (by decide)⟩
    · rw [if_pos e0] at hr
      subst hr
      rw [t_beq0 e0]
      exact w_ifc_f rfl (t := 76) rfl (by decide) (w_iconst rfl (w_ireturnb rfl rfl rfl ⟨rfl, c_R_f e0 hR, fun e => absurd e e0⟩))
  by_cases h7 : k = 7
  · subst h7
    exact w_icmp_f rfl (t := 62) rfl (by decide) (w_ic 1 rfl rfl (w_goto rfl (t := 63) rfl (w_putf rfl rfl e432 rfl rfl (w_flt f172) (go _ _ ⟨_, _, _, _, _, (a_gs e432), (by first | exact fl2 | (simp only [List.length_set]; exact fl2)), (w_fne f02 (by decide)), (w_fne f12 (by decide)), (w_fne f22 (by decide)), (w_fne f32 (by decide)), ⟨(w_fne f42 (by decide)), (w_fne f52 (by decide)), (w_fne f62 (by decide)), v72, (w_fne f72 (by decide)), t12, t22, t32⟩, (w_fne f82 (by decide)), (w_fne f92 (by decide)), (w_fne f102 (by decide)), (w_fne f112 (by decide)), (w_fne f122 (by decide)), (w_fne f132 (by decide)), (w_fne f142 (by decide)), (w_fne f152 (by decide)), (w_fne f162 (by decide)), (w_fat f172), (a_ga (by decide) e442), hb2, (a_ga (by decide) e12), (a_ga (by decide) e452), (by first | exact rl2 | (simp only [List.length_set]; exact rl2)), hrI2, (a_ga (by decide) e462), (by first | exact cl2 | (simp only [List.length_set]; exact cl2)), hI2⟩ (w_s1 l0 rfl (by decide)) (w_s1 l1 rfl (by decide)) (w_s1 l2 rfl (by decide)) (w_s1 l3 rfl (by decide)) p_lk_s1))))
  · have e7 : Nat.beq k 7 = false := Bool.eq_false_iff.mpr (fun e => h7 (Nat.eq_of_beq_eq_true e))
    rw [e7] at go
    exact w_icmp_t rfl (t := 62) rfl (by simp only [p_cd, decide_eq_true_eq]; rw [Int32.le_iff_toInt_le, g_ofNat (by omega), g_ofNat (by omega)]; omega) (w_ic 0 rfl rfl (w_putf rfl rfl e432 rfl rfl (w_flt f172) (go _ _ ⟨_, _, _, _, _, (a_gs e432), (by first | exact fl2 | (simp only [List.length_set]; exact fl2)), (w_fne f02 (by decide)), (w_fne f12 (by decide)), (w_fne f22 (by decide)), (w_fne f32 (by decide)), ⟨(w_fne f42 (by decide)), (w_fne f52 (by decide)), (w_fne f62 (by decide)), v72, (w_fne f72 (by decide)), t12, t22, t32⟩, (w_fne f82 (by decide)), (w_fne f92 (by decide)), (w_fne f102 (by decide)), (w_fne f112 (by decide)), (w_fne f122 (by decide)), (w_fne f132 (by decide)), (w_fne f142 (by decide)), (w_fne f152 (by decide)), (w_fne f162 (by decide)), (w_fat f172), (a_ga (by decide) e442), hb2, (a_ga (by decide) e12), (a_ga (by decide) e452), (by first | exact rl2 | (simp only [List.length_set]; exact rl2)), hrI2, (a_ga (by decide) e462), (by first | exact cl2 | (simp only [List.length_set]; exact cl2)), hI2⟩ (w_s1 l0 rfl (by decide)) (w_s1 l1 rfl (by decide)) (w_s1 l2 rfl (by decide)) (w_s1 l3 rfl (by decide)) p_lk_s1)))
theorem c_B_ok (hn : n ≤ 300) (hso : so < 100) : ∀ f, c_B b n so m dd ml se ro fa pl f := by
  intro f
  induction f with
  | zero =>
    refine ⟨?_, ?_, ?_, ?_, ?_, ?_⟩
    · intro _ _ _ _ _ _ _ _ hf; omega
    · intro _ _ _ _ _ _ _ _ hf; omega
    · intro _ _ _ _ _ _ _ _ hf; omega
    · intro _ _ _ _ _ _ _ _ hf; omega
    · intro _ _ _ _ _ _ _ _ hf; omega
    · intro _ _ _ _ _ _ _ _ _ hf; omega
  | succ f ih => exact ⟨c_B0_ok hn hso ih, c_B1_ok hn hso ih, c_B2_ok hn hso ih, c_B4_ok hn hso ih, c_B5_ok hn hso ih, c_B6_ok hn hso ih⟩
end RS10

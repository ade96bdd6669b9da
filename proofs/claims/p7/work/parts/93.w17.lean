/-! THE CLASS READS A LAW, further -/
section RS10
variable {dd n so m f : Nat} {b : Nat → Nat} {ml se ro fa pl : Value}
set_option maxRecDepth 100000 in
theorem c_B0_ok (hn : n ≤ 300) (hso : so < 100) (ih : c_B b n so m dd ml se ro fa pl f) : c_B0 b n so m dd ml se ro fa pl (f + 1) := by
  intro d k p u sv h r hr hf hp hd hsv hu hS
  rw [t_P0] at hr
  have hS' := hS
  obtain ⟨fs, tp, rw, cw, pa, e43, fl, f0, f1, f2, f3, ⟨f4, f5, f6, v7, f7, t1, t2, t3⟩, f8, f9, f10, f11, f12, f13, f14, f15, f16, f17, e44, hb, e1, e45, rl, hrI, e46, cl, hI⟩ := hS'
  have hbb : ∀ k, k < n → b k < 256 := fun k hk => (hb k (by omega)).2
  have A : ∀ (ls2 : p_Ls), p_lk 0 ls2 = some (.ref 43) → p_lk 1 ls2 = some (.int (Int32.ofNat d)) → p_lk 2 ls2 = some (.int (l_b (t_op b n p))) → p_wp p_GT p_MT (dd + 4 * (8 - d) + 4) m_X3_readOne 33 ls2 [] h (fun v h2 => v = some (.int (l_b (Nat.beq r.1 0))) ∧ c_R h2 b n p (u) m (Int32.ofNat so) ml se ro fa pl r ∧ (r.1 = 0 → p < r.2 ∧ r.2 ≤ n)) := by
    intro ls2 m0 m1 m2
    have B : ∀ (ls3 : p_Ls), p_lk 0 ls3 = some (.ref 43) → p_lk 1 ls3 = some (.int (Int32.ofNat d)) → p_lk 2 ls3 = some (.int (l_b (t_op b n p))) → p_lk 3 ls3 = some (.int (l_b (c_nm b n p))) → p_wp p_GT p_MT (dd + 4 * (8 - d) + 4) m_X3_readOne 61 ls3 [] h (fun v h2 => v = some (.int (l_b (Nat.beq r.1 0))) ∧ c_R h2 b n p (u) m (Int32.ofNat so) ml se ro fa pl r ∧ (r.1 = 0 → p < r.2 ∧ r.2 ≤ n)) := by
      intro ls3 k0 k1 k2 k3
      refine w_aload_n rfl k0 (w_iload_n rfl k2 (w_iload_n rfl k3 (w_iload_n rfl k1 (w_virtual (dc := dd + 4 * (8 - d) + 3) (M' := m_X3_faultOfOne) rfl (g_vir (n := 4) rfl rfl (by simp [p_cat, p_bd, Value.category]) rfl rfl e43 rfl) rfl rfl (Nat.le_refl _) (c_F hS hn hp hd hso) ?_))))
      rintro v h2 ⟨rfl, rfl⟩
      refine w_istore rfl (by decide) (w_iload rfl p_lk_s1 ?_)
      have h100 := t_F_100 (b := b) (n := n) (p := p) (d := d) (S := Nat.beq so 1)
      by_cases hF : t_F b n (Nat.beq so 1) d p = 0
      · rw [if_neg (fun q => q hF)] at hr
        rw [if_neg (fun q => q hF)]
        by_cases hk7 : k = 7
        · rw [if_pos hk7] at hr
          subst hr
          subst hk7
          subst hsv
          rw [if_pos (show Nat.beq 7 7 = true from rfl)]
          refine w_ifc_f rfl (t := 82) rfl (by decide) (w_aload_n rfl (w_s1 k0 rfl (by decide)) (w_iload rfl p_lk_s1 (w_virtual (dc := dd + 4 * (8 - d) + 3) (M' := m_X3_wrong) rfl (g_vir (n := 2) rfl rfl (by simp [p_cat, p_bd, Value.category]) rfl rfl e43 rfl) rfl rfl (Nat.le_refl _) (c_wrong hS) ?_)))
          rintro v h3 ⟨rfl, hS3⟩
          exact w_ireturnb rfl rfl rfl ⟨rfl, c_R_no (by simp) hS3, fun e => absurd e (by simp)⟩
        · rw [if_neg hk7] at hr
          have hsv0 : sv = false := by rw [hsv]; exact Bool.eq_false_iff.mpr (fun e => hk7 (Nat.eq_of_beq_eq_true e))
          subst hsv0
          rw [if_neg (by decide)]
          have hpn := t_F_lt hF
          have hx := t_x_lt (b := b) hpn
          refine w_ifc_t rfl (t := 82) rfl (by decide) (w_aload_n rfl (w_s1 k0 rfl (by decide)) (w_bp 20 rfl rfl (w_virtual (dc := dd + 4 * (8 - d) + 3) (M' := m_X3_isWord) rfl (g_vir (n := 2) rfl rfl (by simp [p_cat, p_bd, Value.category]) rfl rfl e43 rfl) rfl rfl (Nat.le_refl _) (c_isW (k := 20) hS (by decide) hp) ?_)))
          rintro v h2 ⟨rfl, rfl⟩
          refine w_istore rfl (by decide) (w_aload_n rfl (w_s1 (w_s1 k0 rfl (by decide)) rfl (by decide)) (w_getf rfl rfl e43 f7 (w_istore rfl (by decide) (w_aload_n rfl (w_s1 (w_s1 (w_s1 k0 rfl (by decide)) rfl (by decide)) rfl (by decide)) (w_virtual (dc := dd + 4 * (8 - d) + 3) (M' := m_X3_step) rfl (g_vir (n := 1) rfl rfl (by simp [p_cat, p_bd, Value.category]) rfl rfl e43 rfl) rfl rfl (Nat.le_refl _) ((c_next (dd := dd) hS hn hp).mono (by omega) (fun _ _ q => q)) ?_)))))
          rintro v h2 ⟨rfl, hS2⟩
          by_cases ho : t_op b n p = false
          · rw [if_pos ho] at hr
            subst hr
            exact c_B0_no hn hp hd hu hx hS2 ho (w_s1 (w_s1 (w_s1 k0 rfl (by decide)) rfl (by decide)) rfl (by decide)) (w_s1 (w_s1 (w_s1 k1 rfl (by decide)) rfl (by decide)) rfl (by decide)) (w_s1 (w_s1 (w_s1 k2 rfl (by decide)) rfl (by decide)) rfl (by decide)) (w_s1 (w_s1 (w_s1 k3 rfl (by decide)) rfl (by decide)) rfl (by decide)) p_lk_s1
          · rw [if_neg ho] at hr
            have ho : t_op b n p = true := by cases q : t_op b n p with
              | true => rfl
              | false => exact absurd q ho
            have hd8 := t_F_op hF ho
            by_cases h20 : t_wd b n p 20 = true
            · rw [if_pos h20] at hr
              exact c_B0_nth hn hso ih hf hp hd8 hu hx hS2 ho h20 hr (w_s1 (w_s1 (w_s1 k0 rfl (by decide)) rfl (by decide)) rfl (by decide)) (w_s1 (w_s1 (w_s1 k1 rfl (by decide)) rfl (by decide)) rfl (by decide)) (w_s1 (w_s1 (w_s1 k2 rfl (by decide)) rfl (by decide)) rfl (by decide)) (w_s1 p_lk_s1 rfl (by decide))
            · rw [if_neg h20] at hr
              have hk3 : t_k b n p = 3 := by
                have ho2 := ho
                unfold t_op at ho2
                simp only [Bool.or_eq_true] at ho2
                rcases ho2 with e | e | e
                · exact (t_is_iff.mp e).1
                · exact (t_is_iff.mp e).1
                · exact absurd e h20
              have ev := t3 hk3
              subst ev
              have hb8 := hbb p hpn
              by_cases h45 : t_is b n p 45 = true
              · rw [if_pos h45] at hr
                exact c_B0_neg hn hso ih hf hp hd8 hu hx hS2 ho h20 ((t_is_iff.mp h45).2) hr (w_s1 (w_s1 (w_s1 k0 rfl (by decide)) rfl (by decide)) rfl (by decide)) (w_s1 (w_s1 (w_s1 k1 rfl (by decide)) rfl (by decide)) rfl (by decide)) (w_s1 (w_s1 (w_s1 k2 rfl (by decide)) rfl (by decide)) rfl (by decide)) (w_s1 p_lk_s1 rfl (by decide)) p_lk_s1
              · rw [if_neg h45] at hr
                exact c_B0_par hn hso ih hf hp hd8 hu hx hS2 ho h20 hb8 (fun e => h45 (t_is_iff.mpr ⟨hk3, e⟩)) hr (w_s1 (w_s1 (w_s1 k0 rfl (by decide)) rfl (by decide)) rfl (by decide)) (w_s1 (w_s1 (w_s1 k1 rfl (by decide)) rfl (by decide)) rfl (by decide)) (w_s1 (w_s1 (w_s1 k2 rfl (by decide)) rfl (by decide)) rfl (by decide)) (w_s1 p_lk_s1 rfl (by decide)) p_lk_s1
      · rw [if_pos hF] at hr
        subst hr
        rw [if_pos hF]
        refine w_ifc_f rfl (t := 82) rfl (by simp only [p_cd, decide_eq_false_iff_not]; exact b_ofNat_ne (b := 0) (by omega) (by omega) hF) (w_aload_n rfl (w_s1 k0 rfl (by decide)) (w_iload rfl p_lk_s1 (w_virtual (dc := dd + 4 * (8 - d) + 3) (M' := m_X3_wrong) rfl (g_vir (n := 2) rfl rfl (by simp [p_cat, p_bd, Value.category]) rfl rfl e43 rfl) rfl rfl (Nat.le_refl _) (c_wrong hS) ?_)))
        rintro v h3 ⟨rfl, hS3⟩
        rw [show l_b (Nat.beq (t_F b n (Nat.beq so 1) d p, p).1 0) = l_b false by rw [t_beq0 hF]]
        exact w_ireturnb rfl rfl rfl ⟨rfl, c_R_no hF hS3, fun e => absurd e hF⟩
    by_cases k1 : t_k b n p = 1
    · have enm := c_nm_v hp hbb k1 (t1 k1)
      refine w_aload_n rfl m0 (w_getf rfl rfl e43 f6 (w_ic 1 rfl rfl (w_icmp_f rfl (t := 59) rfl (by rw [k1]; decide) (w_aload_n rfl m0 (w_getf rfl rfl e43 f7 (w_bp 8 rfl rfl (w_bp 15 rfl rfl (w_static (nn := 0) (dc := dd + 4 * (8 - d) + 3) (M' := m_X11_within) rfl rfl rfl rfl (Nat.le_refl _) b_within ?_))))))))
      rintro v h2 ⟨rfl, rfl⟩
      rw [enm]
      cases hnm : c_nm b n p with
      | true =>
        exact w_ifc_f rfl (t := 59) rfl (by decide) (w_iconst rfl (w_goto rfl (t := 60) rfl (w_istore_n rfl (by decide) (B _ (w_s1 m0 rfl (by decide)) (w_s1 m1 rfl (by decide)) (w_s1 m2 rfl (by decide)) (by rw [hnm]; exact p_lk_s1)))))
      | false =>
        exact w_ifc_t rfl (t := 59) rfl (by decide) (w_iconst rfl (w_istore_n rfl (by decide) (B _ (w_s1 m0 rfl (by decide)) (w_s1 m1 rfl (by decide)) (w_s1 m2 rfl (by decide)) (by rw [hnm]; exact p_lk_s1))))
    · have hk4 : t_k b n p < 4 := by unfold t_k; (repeat' split) <;> omega
      have hnm : c_nm b n p = false := by unfold c_nm; rw [(c_nm_w k1).1, (c_nm_w k1).2]; rfl
      exact w_aload_n rfl m0 (w_getf rfl rfl e43 f6 (w_ic 1 rfl rfl (w_icmp_t rfl (t := 59) rfl (by simp only [p_cd, decide_eq_true_eq]; exact b_ofNat_ne (by omega) (by omega) k1) (w_iconst rfl (w_istore_n rfl (by decide) (B _ (w_s1 m0 rfl (by decide)) (w_s1 m1 rfl (by decide)) (w_s1 m2 rfl (by decide)) (by rw [hnm]; exact p_lk_s1)))))))
  refine w_aload_n rfl rfl (w_bp 40 rfl rfl (w_virtual (dc := dd + 4 * (8 - d) + 3) (M' := m_X3_isSign) rfl (g_vir (n := 2) rfl rfl (by simp [p_cat, p_bd, Value.category]) rfl rfl e43 rfl) rfl rfl (Nat.le_refl _) (c_isS (c := 40) hS (by decide)) ?_))
  rintro v h2 ⟨rfl, rfl⟩
  cases q1 : t_is b n p 40 with
  | true =>
    exact w_ifc_t rfl (t := 27) rfl (by decide) (w_iconst rfl (w_goto rfl (t := 32) rfl (w_istore_n rfl (by decide) (A _ (w_s1 rfl rfl (by decide)) (w_s1 rfl rfl (by decide)) (by rw [show t_op b n p = true by unfold t_op; rw [q1]; rfl]; exact p_lk_s1)))))
  | false =>
    refine w_ifc_f rfl (t := 27) rfl (by decide) (w_aload_n rfl rfl (w_bp 45 rfl rfl (w_virtual (dc := dd + 4 * (8 - d) + 3) (M' := m_X3_isSign) rfl (g_vir (n := 2) rfl rfl (by simp [p_cat, p_bd, Value.category]) rfl rfl e43 rfl) rfl rfl (Nat.le_refl _) (c_isS (c := 45) hS (by decide)) ?_)))
    rintro v h2 ⟨rfl, rfl⟩
    cases q2 : t_is b n p 45 with
    | true =>
      exact w_ifc_t rfl (t := 27) rfl (by decide) (w_iconst rfl (w_goto rfl (t := 32) rfl (w_istore_n rfl (by decide) (A _ (w_s1 rfl rfl (by decide)) (w_s1 rfl rfl (by decide)) (by rw [show t_op b n p = true by unfold t_op; rw [q1, q2]; rfl]; exact p_lk_s1)))))
    | false =>
      refine w_ifc_f rfl (t := 27) rfl (by decide) (w_aload_n rfl rfl (w_bp 20 rfl rfl (w_virtual (dc := dd + 4 * (8 - d) + 3) (M' := m_X3_isWord) rfl (g_vir (n := 2) rfl rfl (by simp [p_cat, p_bd, Value.category]) rfl rfl e43 rfl) rfl rfl (Nat.le_refl _) (c_isW (k := 20) hS (by decide) hp) ?_)))
      rintro v h2 ⟨rfl, rfl⟩
      cases q3 : t_wd b n p 20 with
      | true =>
        exact w_ifc_f rfl (t := 31) rfl (by decide) (w_iconst rfl (w_goto rfl (t := 32) rfl (w_istore_n rfl (by decide) (A _ (w_s1 rfl rfl (by decide)) (w_s1 rfl rfl (by decide)) (by rw [show t_op b n p = true by unfold t_op; rw [q1, q2, q3]; rfl]; exact p_lk_s1)))))
      | false =>
        exact w_ifc_t rfl (t := 31) rfl (by decide) (w_iconst rfl (w_istore_n rfl (by decide) (A _ (w_s1 rfl rfl (by decide)) (w_s1 rfl rfl (by decide)) (by rw [show t_op b n p = false by unfold t_op; rw [q1, q2, q3]; rfl]; exact p_lk_s1))))
end RS10

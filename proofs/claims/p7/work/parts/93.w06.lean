/-! THE REFERENCE READS A LAW: a ONE, what stands behind it -/
section RS5
variable {h : p_H} {dd n p w so d t0 m on : Nat} {σ κ : List Nat} {wh : Bool} {b : Nat → Nat}
theorem s_na6 (h6 : t_nm6 b n p = true) : ∃ k, k < 6 ∧ s_na b n p = Int32.ofNat k := by
  unfold t_nm6 at h6
  unfold s_na
  simp only [Bool.or_eq_true] at h6
  by_cases q0 : t_wd b n p 9 = true
  · exact ⟨0, by omega, by rw [if_pos q0]⟩
  · by_cases q1 : t_wd b n p 10 = true
    · exact ⟨1, by omega, by rw [if_neg q0, if_pos q1]⟩
    · by_cases q2 : t_wd b n p 11 = true
      · exact ⟨2, by omega, by rw [if_neg q0, if_neg q1, if_pos q2]⟩
      · by_cases q3 : t_wd b n p 8 = true
        · exact ⟨3, by omega, by rw [if_neg q0, if_neg q1, if_neg q2, if_pos q3]⟩
        · by_cases q4 : t_wd b n p 12 = true
          · exact ⟨4, by omega, by rw [if_neg q0, if_neg q1, if_neg q2, if_neg q3, if_pos q4]⟩
          · by_cases q5 : t_wd b n p 13 = true
            · exact ⟨5, by omega, by rw [if_neg q0, if_neg q1, if_neg q2, if_neg q3, if_neg q4, if_pos q5]⟩
            · exact absurd h6 (by rintro (e | e | e | e | e | e) <;> contradiction)
theorem s_nn6 (h6 : ¬ t_nm6 b n p = true) : ¬ t_wd b n p 9 = true ∧ ¬ t_wd b n p 10 = true ∧ ¬ t_wd b n p 11 = true ∧ ¬ t_wd b n p 8 = true ∧ ¬ t_wd b n p 12 = true ∧ ¬ t_wd b n p 13 = true := by
  unfold t_nm6 at h6
  simp only [Bool.or_eq_true, not_or] at h6
  exact h6
theorem s_na2 (h6 : ¬ t_nm6 b n p = true) (h2 : t_nm2 b n p = true) : ∃ k, 6 ≤ k ∧ k < 8 ∧ s_na b n p = Int32.ofNat k := by
  obtain ⟨q0, q1, q2, q3, q4, q5⟩ := s_nn6 h6
  unfold t_nm2 at h2
  unfold s_na
  rw [if_neg q0, if_neg q1, if_neg q2, if_neg q3, if_neg q4, if_neg q5]
  simp only [Bool.or_eq_true] at h2
  by_cases q6 : t_wd b n p 14 = true
  · exact ⟨6, by omega, by omega, by rw [if_pos q6]⟩
  · exact ⟨7, by omega, by omega, by rw [if_neg q6, if_pos (h2.resolve_left q6)]⟩
theorem s_na0 (h6 : ¬ t_nm6 b n p = true) (h2 : ¬ t_nm2 b n p = true) : s_na b n p = Int32.ofInt (-1) := by
  obtain ⟨q0, q1, q2, q3, q4, q5⟩ := s_nn6 h6
  unfold t_nm2 at h2
  simp only [Bool.or_eq_true, not_or] at h2
  unfold s_na
  rw [if_neg q0, if_neg q1, if_neg q2, if_neg q3, if_neg q4, if_neg q5, if_neg h2.1, if_neg h2.2]
/-- a name stands at a word alone -/
theorem s_nm_k (h6 : t_nm6 b n p = true ∨ t_nm2 b n p = true) : t_k b n p = 1 := by
  unfold t_nm6 t_nm2 at h6
  simp only [Bool.or_eq_true] at h6
  rcases h6 with (e | e | e | e | e | e) | (e | e) <;> exact (t_wd_iff.mp e).1
theorem s_op_k (h : t_op b n p = true) : t_k b n p = 3 ∨ t_k b n p = 1 := by
  unfold t_op at h
  simp only [Bool.or_eq_true] at h
  rcases h with e | e | e
  · exact Or.inl (t_is_iff.mp e).1
  · exact Or.inl (t_is_iff.mp e).1
  · exact Or.inr (t_wd_iff.mp e).1
theorem t_n_le : t_n b n p ≤ 1000000 := by
  have : ∀ (j q v : Nat), q + j = n → v ≤ 1000000 → (t_lp n (fun q => t_fi (b q)) (t_ns b) q v).2 ≤ 1000000 := by
    intro j
    induction j with
    | zero => intro q v hq hv; rw [t_lp_no (fun e => absurd e.1 (by omega))]; exact hv
    | succ j ih =>
      intro q v hq hv
      by_cases e : q < n ∧ t_fi (b q) = true
      · rw [t_lp_go e.1 e.2]
        have e2 := e.2
        unfold t_fi at e2
        rw [Bool.and_eq_true] at e2
        have := Nat.le_of_ble_eq_true e2.2
        refine ih _ _ (by omega) ?_
        unfold t_ns
        split <;> omega
      · rw [t_lp_no e]; exact hv
  unfold t_n t_nl
  by_cases q : p ≤ n
  · exact this (n - p) p 0 (by omega) (by decide)
  · rw [t_lp_no (fun e => absurd e.1 (by omega))]; exact Nat.zero_le _
theorem r_big {x : Nat} (hx : x ≤ 1000000) : (Int32.ofNat x).toInt = x := Int32.toInt_ofNat_of_lt (by omega)
theorem r_isof {k : Nat} (hS : r_S h b n p σ κ w so wh d t0 m on) (hk : k < 10) (hso : so < 100) : p_wp p_GT p_MT dd m_X12_isOf 0 (lv_args 0 [.ref 64, .int (Int32.ofNat k)]) [] h (fun v h2 => v = some (.int (l_b (!Nat.ble 6 k || Nat.beq so 1))) ∧ h2 = h) := by
  obtain ⟨fs, tv, tp, pv, cv, av, y1, e64, fl, f2, f3, f4, ⟨f8, ⟨t, f9, t256, tR⟩, ⟨x10, f10, f10'⟩, ⟨z11, f11, f11'⟩, a7, f7, a7n, a7e⟩, f12, f13, f14, f15, f16, f17, f18, f19, f20, f21, e67, tl, tm, e68, hb, e69, pl, hP, e70, cl, hK, f0, e65, a1⟩ := hS
  refine w_iload_n rfl rfl (w_bp 6 rfl rfl ?_)
  cases q1 : Nat.ble 6 k with
  | false =>
    exact w_icmp_t rfl (t := 14) rfl (by rw [t_clt (by omega) (by decide), q1]; rfl) (w_iconst rfl (w_goto rfl (t := 19) rfl (w_ireturnb rfl rfl rfl ⟨rfl, rfl⟩)))
  | true =>
    refine w_icmp_f rfl (t := 14) rfl (by rw [t_clt (by omega) (by decide), q1]; rfl) (w_aload_n rfl rfl (w_getf rfl rfl e64 f14 (w_ic 1 rfl rfl ?_)))
    cases q2 : Nat.beq so 1 with
    | true =>
      exact w_icmp_f rfl (t := 18) rfl (by rw [t_cne (by omega) (by decide), q2]; rfl) (w_iconst rfl (w_goto rfl (t := 19) rfl (w_ireturnb rfl rfl rfl ⟨rfl, rfl⟩)))
    | false =>
      exact w_icmp_t rfl (t := 18) rfl (by rw [t_cne (by omega) (by decide), q2]; rfl) (w_iconst rfl (w_ireturnb rfl rfl rfl ⟨rfl, rfl⟩))
theorem r_isnth (hS : r_S h b n p σ κ w so wh d t0 m on) : p_wp p_GT p_MT (dd + 2) m_X12_isNth 0 (lv_args 0 [.ref 64]) [] h (fun v h2 => v = some (.int (l_b (t_wd b n p 20))) ∧ h2 = h) := by
  have hS' := hS
  obtain ⟨fs, tv, tp, pv, cv, av, y1, e64, fl, f2, f3, f4, ⟨f8, ⟨t, f9, t256, tR⟩, ⟨x10, f10, f10'⟩, ⟨z11, f11, f11'⟩, a7, f7, a7n, a7e⟩, f12, f13, f14, f15, f16, f17, f18, f19, f20, f21, e67, tl, tm, e68, hb, e69, pl, hP, e70, cl, hK, f0, e65, a1⟩ := hS
  refine w_aload_n rfl rfl (w_bp 110 rfl rfl (w_bp 116 rfl rfl (w_bp 104 rfl rfl (w_static (nn := 0) (dc := dd + 1) (M' := m_X12_w3) rfl rfl rfl rfl (Nat.le_refl _) (r_w3 (dd := dd) (by decide) (by decide) (by decide)) ?_))))
  rintro v h2 ⟨rfl, rfl⟩
  refine w_virtual (dc := dd + 1) (M' := m_X12_isWord) rfl (g_vir (n := 2) rfl rfl (by simp [p_cat, p_bd, Value.category]) rfl rfl e64 rfl) rfl rfl (Nat.le_refl _) (r_isw (k := 20) (c := 7238760) hS' (by decide) (by decide)) ?_
  rintro v h2 ⟨rfl, rfl⟩
  cases q : t_wd b n p 20 with
  | true => exact w_ireturnb rfl rfl rfl ⟨rfl, rfl⟩
  | false => exact w_ireturnb rfl rfl rfl ⟨rfl, rfl⟩
set_option maxRecDepth 100000 in
theorem r_F (hS : r_S h b n p σ κ w so wh d t0 m on) (hso : so < 100) (hd : d ≤ 8) : p_wp p_GT p_MT (dd + 6) m_X12_faultOfOne 0 (lv_args 0 [.ref 64]) [] h (fun v h2 => v = some (.int (Int32.ofNat (t_F b n (Nat.beq so 1) d p))) ∧ h2 = h) := by
  have hS' := hS
  obtain ⟨fs, tv, tp, pv, cv, av, y1, e64, fl, f2, f3, f4, ⟨f8, ⟨t, f9, t256, tR⟩, ⟨x10, f10, f10'⟩, ⟨z11, f11, f11'⟩, a7, f7, a7n, a7e⟩, f12, f13, f14, f15, f16, f17, f18, f19, f20, f21, e67, tl, tm, e68, hb, e69, pl, hP, e70, cl, hK, f0, e65, a1⟩ := hS
  unfold t_F
  by_cases q0 : t_k b n p = 2
  · rw [if_pos q0]
    have e1 : t = 1 := tR.2.1.mpr q0
    have ex := f10' q0
    subst ex
    have hb6 := t_n_le (b := b) (n := n) (p := p)
    refine w_aload_n rfl rfl (w_getf rfl rfl e64 f9 (w_ic 1 rfl rfl (w_icmp_f rfl (t := 24) rfl (by rw [e1]; decide) (w_aload_n rfl rfl (w_getf rfl rfl e64 f10 (w_sp 9999 rfl rfl ?_))))))
    by_cases q1 : 9999 < t_n b n p
    · rw [if_pos q1]
      exact w_icmp_f rfl (t := 22) rfl (by simp only [p_cd, decide_eq_false_iff_not]; rw [Int32.le_iff_toInt_le, r_big hb6, g_ofNat (by omega)]; omega) (w_ic 2 rfl rfl (w_goto rfl (t := 23) rfl (w_ireturn rfl rfl ⟨rfl, rfl⟩)))
    · rw [if_neg q1]
      exact w_icmp_t rfl (t := 22) rfl (by simp only [p_cd, decide_eq_true_eq]; rw [Int32.le_iff_toInt_le, r_big hb6, g_ofNat (by omega)]; omega) (w_ic 0 rfl rfl (w_ireturn rfl rfl ⟨rfl, rfl⟩))
  · rw [if_neg q0]
    have e1 : ¬ t = 1 := fun e => q0 (tR.2.1.mp e)
    refine w_aload_n rfl rfl (w_getf rfl rfl e64 f9 (w_ic 1 rfl rfl (w_icmp_t rfl (t := 24) rfl (by simp only [p_cd, decide_eq_true_eq]; exact b_ofNat_ne (by omega) (by omega) e1) (w_aload_n rfl rfl (w_virtual (dc := dd + 5) (M' := m_X12_nameOf) rfl (g_vir (n := 1) rfl rfl (by simp [p_cat, p_bd, Value.category]) rfl rfl e64 rfl) rfl rfl (Nat.le_refl _) (r_name (dd := dd) hS') ?_)))))
    rintro v h2 ⟨rfl, rfl⟩
    refine w_istore_n rfl (by decide) (w_iload_n rfl p_lk_s1 ?_)
    by_cases h6 : t_nm6 b n p = true
    · rw [if_pos h6]
      obtain ⟨k, hk, ek⟩ := s_na6 h6
      rw [ek]
      refine w_ifc_f rfl (t := 47) rfl (by simp only [p_cd, decide_eq_false_iff_not]; exact g_nl (by omega)) (w_aload_n rfl (w_s1 rfl rfl (by decide)) (w_iload_n rfl p_lk_s1 (w_virtual (dc := dd + 5) (M' := m_X12_isOf) rfl (g_vir (n := 2) rfl rfl (by simp [p_cat, p_bd, Value.category]) rfl rfl e64 rfl) rfl rfl (Nat.le_refl _) (r_isof (k := k) hS' (by omega) hso) ?_)))
      rintro v h2 ⟨rfl, rfl⟩
      rw [show Nat.ble 6 k = false from Bool.eq_false_iff.mpr (fun q => by have := Nat.le_of_ble_eq_true q; omega), Bool.not_false, Bool.true_or]
      exact w_ifc_f rfl (t := 45) rfl (by decide) (w_ic 0 rfl rfl (w_goto rfl (t := 46) rfl (w_ireturn rfl rfl ⟨rfl, rfl⟩)))
    · rw [if_neg h6]
      by_cases h2 : t_nm2 b n p = true
      · rw [if_pos h2]
        obtain ⟨k, hk1, hk, ek⟩ := s_na2 h6 h2
        rw [ek]
        refine w_ifc_f rfl (t := 47) rfl (by simp only [p_cd, decide_eq_false_iff_not]; exact g_nl (by omega)) (w_aload_n rfl (w_s1 rfl rfl (by decide)) (w_iload_n rfl p_lk_s1 (w_virtual (dc := dd + 5) (M' := m_X12_isOf) rfl (g_vir (n := 2) rfl rfl (by simp [p_cat, p_bd, Value.category]) rfl rfl e64 rfl) rfl rfl (Nat.le_refl _) (r_isof (k := k) hS' (by omega) hso) ?_)))
        rintro v h2 ⟨rfl, rfl⟩
        rw [Nat.ble_eq_true_of_le hk1]
        cases q1 : Nat.beq so 1 with
        | true =>
          exact w_ifc_f rfl (t := 45) rfl (by decide) (w_ic 0 rfl rfl (w_goto rfl (t := 46) rfl (w_ireturn rfl rfl ⟨rfl, rfl⟩)))
        | false =>
          exact w_ifc_t rfl (t := 45) rfl (by decide) (w_ic 5 rfl rfl (w_ireturn rfl rfl ⟨rfl, rfl⟩))
      · rw [if_neg h2, s_na0 h6 h2]
        refine w_ifc_t rfl (t := 47) rfl (by decide) (w_aload_n rfl (w_s1 rfl rfl (by decide)) (w_getf rfl rfl e64 f9 (w_bp 40 rfl rfl ?_)))
        unfold t_op
        by_cases g1 : t_is b n p 40 = true
        · have et : t = 40 := (tR.2.2.2 40 (by omega)).mpr (t_is_iff.mp g1)
          rw [g1, Bool.true_or, if_pos rfl]
          refine w_icmp_t rfl (t := 74) rfl (by rw [et]; decide) (w_aload_n rfl (w_s1 rfl rfl (by decide)) (w_getf rfl rfl e64 f18 (w_bp 8 rfl rfl ?_)))
          by_cases q9 : 8 ≤ d
          · rw [if_pos q9]
            exact w_icmp_f rfl (t := 87) rfl (by rw [show d = 8 by omega]; decide) (w_ic 3 rfl rfl (w_goto rfl (t := 88) rfl (w_ireturn rfl rfl ⟨rfl, rfl⟩)))
          · rw [if_neg q9]
            exact w_icmp_t rfl (t := 87) rfl (by simp only [p_cd, decide_eq_true_eq]; exact b_ofNat_ne (by omega) (by omega) (by omega)) (w_ic 0 rfl rfl (w_ireturn rfl rfl ⟨rfl, rfl⟩))
        · have et : ¬ t = 40 := fun e => g1 (t_is_iff.mpr ((tR.2.2.2 40 (by omega)).mp e))
          rw [show t_is b n p 40 = false from Bool.eq_false_iff.mpr g1, Bool.false_or]
          refine w_icmp_f rfl (t := 74) rfl (by simp only [p_cd, decide_eq_false_iff_not]; exact b_ofNat_ne (by omega) (by omega) et) (w_aload_n rfl (w_s1 rfl rfl (by decide)) (w_getf rfl rfl e64 f9 (w_bp 45 rfl rfl ?_)))
          by_cases g2 : t_is b n p 45 = true
          · have et2 : t = 45 := (tR.2.2.2 45 (by omega)).mpr (t_is_iff.mp g2)
            rw [g2, Bool.true_or, if_pos rfl]
            refine w_icmp_t rfl (t := 74) rfl (by rw [et2]; decide) (w_aload_n rfl (w_s1 rfl rfl (by decide)) (w_getf rfl rfl e64 f18 (w_bp 8 rfl rfl ?_)))
            by_cases q9 : 8 ≤ d
            · rw [if_pos q9]
              exact w_icmp_f rfl (t := 87) rfl (by rw [show d = 8 by omega]; decide) (w_ic 3 rfl rfl (w_goto rfl (t := 88) rfl (w_ireturn rfl rfl ⟨rfl, rfl⟩)))
            · rw [if_neg q9]
              exact w_icmp_t rfl (t := 87) rfl (by simp only [p_cd, decide_eq_true_eq]; exact b_ofNat_ne (by omega) (by omega) (by omega)) (w_ic 0 rfl rfl (w_ireturn rfl rfl ⟨rfl, rfl⟩))
          · have et2 : ¬ t = 45 := fun e => g2 (t_is_iff.mpr ((tR.2.2.2 45 (by omega)).mp e))
            rw [show t_is b n p 45 = false from Bool.eq_false_iff.mpr g2, Bool.false_or]
            refine w_icmp_f rfl (t := 74) rfl (by simp only [p_cd, decide_eq_false_iff_not]; exact b_ofNat_ne (by omega) (by omega) et2) (w_aload_n rfl (w_s1 rfl rfl (by decide)) (w_virtual (dc := dd + 5) (M' := m_X12_isNth) rfl (g_vir (n := 1) rfl rfl (by simp [p_cat, p_bd, Value.category]) rfl rfl e64 rfl) rfl rfl (Nat.le_refl _) ((r_isnth (dd := dd) hS').mono (by omega) (fun _ _ q => q)) ?_))
            rintro v h2 ⟨rfl, rfl⟩
            cases g3 : t_wd b n p 20 with
            | true =>
              rw [if_pos rfl]
              refine w_ifc_t rfl (t := 74) rfl (by decide) (w_aload_n rfl (w_s1 rfl rfl (by decide)) (w_getf rfl rfl e64 f18 (w_bp 8 rfl rfl ?_)))
              by_cases q9 : 8 ≤ d
              · rw [if_pos q9]
                exact w_icmp_f rfl (t := 87) rfl (by rw [show d = 8 by omega]; decide) (w_ic 3 rfl rfl (w_goto rfl (t := 88) rfl (w_ireturn rfl rfl ⟨rfl, rfl⟩)))
              · rw [if_neg q9]
                exact w_icmp_t rfl (t := 87) rfl (by simp only [p_cd, decide_eq_true_eq]; exact b_ofNat_ne (by omega) (by omega) (by omega)) (w_ic 0 rfl rfl (w_ireturn rfl rfl ⟨rfl, rfl⟩))
            | false =>
              rw [if_neg (by decide)]
              exact w_ifc_f rfl (t := 74) rfl (by decide) (w_ic 1 rfl rfl (w_ireturn rfl rfl ⟨rfl, rfl⟩))
/-- the thing that is open last, or -1 -/
def s_onw : List Nat → Int32
  | [] => Int32.ofInt (-1)
  | x :: σ => if 40 ≤ x then Int32.ofNat x else s_onw σ
theorem r_onl {fs pv : List Value} (e64 : h[64]? = some (0, 12, fs)) (f15 : fs[15]? = some (.ref 69)) (e69 : h[69]? = some (1, 0, pv)) {τ : List Nat} : ∀ (σ : List Nat) (ls : p_Ls), σ.length ≤ 160 → r_P pv σ → s_onw σ = s_onw τ → p_lk 0 ls = some (.ref 64) → p_lk 1 ls = some (.int (Int32.ofInt ((σ.length : Int) - 1))) → p_wp p_GT p_MT dd m_X12_openNow 7 ls [] h (fun v h2 => v = some (.int (s_onw τ)) ∧ h2 = h) := by
  intro σ
  induction σ with
  | nil =>
    intro ls hs hP ht l0 l1
    rw [← ht]
    have l1 : p_lk 1 ls = some (.int (Int32.ofInt (-1))) := l1
    exact w_iload_n rfl l1 (w_ifc_t rfl (t := 28) rfl (by decide) (w_iload_n rfl l1 (w_ifc_f rfl (t := 36) rfl (by decide) (w_iconst rfl (w_goto rfl (t := 42) rfl (w_ireturn rfl rfl ⟨rfl, rfl⟩))))))
  | cons x σ ih =>
    intro ls hs hP ht l0 l1
    have hs : σ.length + 1 ≤ 160 := hs
    obtain ⟨hx, hx1, hP2⟩ := hP
    have l1 : p_lk 1 ls = some (.int (Int32.ofNat σ.length)) := by
      rw [l1]
      congr 2
      rw [show (((x :: σ).length : Nat) : Int) - 1 = ((σ.length : Nat) : Int) by rw [List.length_cons]; omega]
      exact Int32.ofInt_eq_ofNat
    refine w_iload_n rfl l1 (w_ifc_f rfl (t := 28) rfl (by simp only [p_cd, decide_eq_false_iff_not]; exact g_nl (by omega)) (w_aload_n rfl l0 (w_getf rfl rfl e64 f15 (w_iload_n rfl l1 (w_ld rfl e69 (by omega) hx (w_bp 40 rfl rfl ?_))))))
    simp only [s_onw] at ht
    by_cases q : 40 ≤ x
    · rw [if_pos q] at ht
      rw [← ht]
      exact w_icmp_t rfl (t := 28) rfl (by simp only [p_cd, decide_eq_true_eq]; rw [Int32.le_iff_toInt_le, g_ofNat (by omega), g_ofNat (by omega)]; omega) (w_iload_n rfl l1 (w_ifc_t rfl (t := 36) rfl (by simp only [p_cd, decide_eq_true_eq]; rw [Int32.le_iff_toInt_le, g_ofNat (by omega)]; simp only [Int32.toInt_zero]; omega) (w_aload_n rfl l0 (w_getf rfl rfl e64 f15 (w_iload_n rfl l1 (w_ld rfl e69 (by omega) hx (w_ireturn rfl rfl ⟨rfl, rfl⟩)))))))
    · rw [if_neg q] at ht
      refine w_icmp_f rfl (t := 28) rfl (by simp only [p_cd, decide_eq_false_iff_not]; rw [Int32.le_iff_toInt_le, g_ofNat (by omega), g_ofNat (by omega)]; omega) (w_iinc rfl l1 (by decide) (w_goto rfl (t := 7) rfl ?_))
      refine ih _ (by omega) hP2 ht (w_s1 l0 rfl (by decide)) ?_
      rw [show Int32.ofNat σ.length + Int32.ofInt (-1) = Int32.ofInt ((σ.length : Int) - 1) by rw [show ((σ.length : Int) - 1) = (σ.length : Int) + (-1) by omega, Int32.ofInt_add, Int32.ofInt_eq_ofNat]]
      exact p_lk_s1
theorem r_on (hS : r_S h b n p σ κ w so wh d t0 m on) (hs : σ.length ≤ 160) : p_wp p_GT p_MT dd m_X12_openNow 0 (lv_args 0 [.ref 64]) [] h (fun v h2 => v = some (.int (s_onw σ)) ∧ h2 = h) := by
  obtain ⟨fs, tv, tp, pv, cv, av, y1, e64, fl, f2, f3, f4, ⟨f8, ⟨t, f9, t256, tR⟩, ⟨x10, f10, f10'⟩, ⟨z11, f11, f11'⟩, a7, f7, a7n, a7e⟩, f12, f13, f14, f15, f16, f17, f18, f19, f20, f21, e67, tl, tm, e68, hb, e69, pl, hP, e70, cl, hK, f0, e65, a1⟩ := hS
  refine w_aload_n rfl rfl (w_getf rfl rfl e64 f17 (w_iconst rfl (w_isub rfl (w_istore_n rfl (by decide) ?_))))
  refine r_onl e64 f15 e69 σ _ hs hP rfl (w_s1 rfl rfl (by decide)) ?_
  rw [show Int32.ofNat σ.length - Int32.ofInt 1 = Int32.ofInt ((σ.length : Int) - 1) by rw [Int32.ofInt_sub, Int32.ofInt_eq_ofNat]]
  exact p_lk_s1
end RS5

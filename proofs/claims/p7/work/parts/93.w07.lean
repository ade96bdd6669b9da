/-! THE REFERENCE READS A LAW: beginOne, ofNth, nextOfNth, behindOne by what stands there -/
section RS6
variable {h : p_H} {dd n p w so d t0 m on : Nat} {σ κ : List Nat} {wh : Bool} {b : Nat → Nat}
theorem t_nb (hk : t_k b n p ≠ 3) : t_k b n p = 3 → b p ≠ 60 ∧ b p ≠ 62 := fun e => absurd e hk
theorem t_nb2 {c : Nat} (hc : t_is b n p c = true) (h1 : c ≠ 60) (h2 : c ≠ 62) : t_k b n p = 3 → b p ≠ 60 ∧ b p ≠ 62 := fun _ => by
  have := (t_is_iff.mp hc).2
  omega
theorem r_b1_F (hS : r_S h b n p σ κ w so wh d t0 m on) (hso : so < 100) (hd : d ≤ 8) (hn : n ≤ 300) (ht : t0 ≤ 2331) (hF : t_F b n (Nat.beq so 1) d p ≠ 0) : p_wp p_GT p_MT (dd + 7) m_X12_beginOne 0 (lv_args 0 [.ref 64]) [] h (fun v h2 => v = some (.int (Int32.ofNat (t_F b n (Nat.beq so 1) d p))) ∧ h2 = h) := by
  have hS' := hS
  obtain ⟨fs, tv, tp, pv, cv, av, y1, e64, fl, f2, f3, f4, ⟨f8, ⟨t, f9, t256, tR⟩, ⟨x10, f10, f10'⟩, ⟨z11, f11, f11'⟩, a7, f7, a7n, a7e⟩, f12, f13, f14, f15, f16, f17, f18, f19, f20, f21, e67, tl, tm, e68, hb, e69, pl, hP, e70, cl, hK, f0, e65, a1⟩ := hS
  have hF6 : t_F b n (Nat.beq so 1) d p < 100 := by unfold t_F; (repeat' split) <;> omega
  refine w_aload_n rfl rfl (w_virtual (dc := dd + 6) (M' := m_X12_faultOfOne) rfl (g_vir (n := 1) rfl rfl (by simp [p_cat, p_bd, Value.category]) rfl rfl e64 rfl) rfl rfl (Nat.le_refl _) (r_F (dd := dd) hS' hso hd) ?_)
  rintro v h2 ⟨rfl, rfl⟩
  exact w_istore_n rfl (by decide) (w_iload_n rfl p_lk_s1 (w_ifc_f rfl (t := 11) rfl (by simp only [p_cd, decide_eq_false_iff_not]; exact b_ofNat_ne (b := 0) (by omega) (by omega) hF) (w_iload_n rfl p_lk_s1 (w_ireturn rfl rfl ⟨rfl, rfl⟩))))
set_option maxRecDepth 100000 in
theorem r_b1_1 (hS : r_S h b n p σ κ w so wh d t0 m on) (hso : so < 100) (hd : d ≤ 8) (hn : n ≤ 300) (ht : t0 ≤ 2331) (hF : t_F b n (Nat.beq so 1) d p = 0) (ho : t_op b n p = false) (hw : w + σ.length + 1 ≤ 303) (hs : σ.length ≤ 160) (hdo : d = s_opn σ) : p_wp p_GT p_MT (dd + 7) m_X12_beginOne 0 (lv_args 0 [.ref 64]) [] h (fun v h2 => v = some (.int (Int32.ofNat 0)) ∧ ∃ w2, w2 + (s_se 3 σ).length = w + σ.length + 1 ∧ r_S h2 b n (t_x b n p) (s_se 3 σ) κ w2 so true (s_opn (s_se 3 σ)) t0 m on) := by
  have hS' := hS
  obtain ⟨fs, tv, tp, pv, cv, av, y1, e64, fl, f2, f3, f4, ⟨f8, ⟨t, f9, t256, tR⟩, ⟨x10, f10, f10'⟩, ⟨z11, f11, f11'⟩, a7, f7, a7n, a7e⟩, f12, f13, f14, f15, f16, f17, f18, f19, f20, f21, e67, tl, tm, e68, hb, e69, pl, hP, e70, cl, hK, f0, e65, a1⟩ := hS
  have nb : t_k b n p = 3 → b p ≠ 60 ∧ b p ≠ 62 := fun e => by
    unfold t_F at hF
    rw [if_neg (by omega)] at hF
    by_cases q1 : t_nm6 b n p = true
    · have := s_nm_k (Or.inl q1); omega
    · rw [if_neg q1] at hF
      by_cases q2 : t_nm2 b n p = true
      · have := s_nm_k (Or.inr q2); omega
      · rw [if_neg q2, ho, if_neg (by decide)] at hF; cases hF
  refine w_aload_n rfl rfl (w_virtual (dc := dd + 6) (M' := m_X12_faultOfOne) rfl (g_vir (n := 1) rfl rfl (by simp [p_cat, p_bd, Value.category]) rfl rfl e64 rfl) rfl rfl (Nat.le_refl _) (r_F (dd := dd) hS' hso hd) ?_)
  rintro v h2 ⟨rfl, rfl⟩
  refine w_istore_n rfl (by decide) (w_iload_n rfl p_lk_s1 ?_)
  rw [hF]
  refine w_ifc_t rfl (t := 11) rfl (by decide) (w_aload_n rfl (w_s1 rfl rfl (by decide)) (w_virtual (dc := dd + 6) (M' := m_X12_nameOf) rfl (g_vir (n := 1) rfl rfl (by simp [p_cat, p_bd, Value.category]) rfl rfl e64 rfl) rfl rfl (Nat.le_refl _) ((r_name (dd := dd) hS').mono (by omega) (fun _ _ q => q)) ?_))
  rintro v h2 ⟨rfl, rfl⟩
  refine w_istore_n rfl (by decide) (w_aload_n rfl (w_s1 (w_s1 rfl rfl (by decide)) rfl (by decide)) (w_getf rfl rfl e64 f9 (w_ic 1 rfl rfl ?_)))
  by_cases q0 : t_k b n p = 2
  · have e1 : t = 1 := tR.2.1.mpr q0
    refine w_icmp_t rfl (t := 28) rfl (by rw [e1]; decide) (w_aload_n rfl (w_s1 (w_s1 rfl rfl (by decide)) rfl (by decide)) (w_aload_n rfl (w_s1 (w_s1 rfl rfl (by decide)) rfl (by decide)) (w_getf rfl rfl e64 f9 (w_ic 1 rfl rfl (w_icmp_f rfl (t := 41) rfl (by rw [e1]; decide) (w_ic 0 rfl rfl (w_goto rfl (t := 42) rfl (w_aload_n rfl (w_s1 (w_s1 rfl rfl (by decide)) rfl (by decide)) (w_getf rfl rfl e64 f9 (w_ic 1 rfl rfl (w_icmp_f rfl (t := 57) rfl (by rw [e1]; decide) (w_aload_n rfl (w_s1 (w_s1 rfl rfl (by decide)) rfl (by decide)) (w_getf rfl rfl e64 f10 (w_goto rfl (t := 58) rfl (w_virtual (dc := dd + 6) (M' := m_X12_emit) rfl (g_vir (n := 3) rfl rfl (by simp [p_cat, p_bd, Value.category]) rfl rfl e64 rfl) rfl rfl (Nat.le_refl _) (r_emit hS' (by omega) ht) ?_)))))))))))))))
    rintro v h2 ⟨rfl, hS2, -⟩
    have hS2' := hS2
    obtain ⟨fs2, tv2, tp2, pv2, cv2, av2, y12, e642, fl2, f22, f32, f42, ⟨f82, ⟨t2, f92, t2562, tR2⟩, ⟨x102, f102, f10'2⟩, ⟨z112, f112, f11'2⟩, a72, f72, a7n2, a7e2⟩, f122, f132, f142, f152, f162, f172, f182, f192, f202, f212, e672, tl2, tm2, e682, hb2, e692, pl2, hP2, e702, cl2, hK2, f02, e652, a12⟩ := hS2
    refine w_aload_n rfl (w_s1 (w_s1 rfl rfl (by decide)) rfl (by decide)) (w_virtual (dc := dd + 6) (M' := m_X12_nextToken) rfl (g_vir (n := 1) rfl rfl (by simp [p_cat, p_bd, Value.category]) rfl rfl e642 rfl) rfl rfl (Nat.le_refl _) ((r_nextS (dd := dd) hS2' hn nb).mono (by omega) (fun _ _ q => q)) ?_)
    rintro v h3 ⟨rfl, hS3⟩
    obtain ⟨fs3, tv3, tp3, pv3, cv3, av3, y13, e643, fl3, f23, f33, f43, ⟨f83, ⟨t3, f93, t2563, tR3⟩, ⟨x103, f103, f10'3⟩, ⟨z113, f113, f11'3⟩, a73, f73, a7n3, a7e3⟩, f123, f133, f143, f153, f163, f173, f183, f193, f203, f213, e673, tl3, tm3, e683, hb3, e693, pl3, hP3, e703, cl3, hK3, f03, e653, a13⟩ := hS3
    refine w_aload_n rfl (w_s1 (w_s1 rfl rfl (by decide)) rfl (by decide)) (w_ic 1 rfl rfl (w_putf rfl rfl e643 rfl rfl (w_flt f203) (w_aload_n rfl (w_s1 (w_s1 rfl rfl (by decide)) rfl (by decide)) (w_ic 3 rfl rfl ?_))))
    refine w_use (X := fun h => r_S h b n (t_x b n p) σ κ (w + 1) so true d t0 m on) ⟨_, _, _, _, _, _, _, (a_gs e643), (by first | exact fl3 | (simp only [List.length_set]; exact fl3)), (w_fne f23 (by decide)), (w_fne f33 (by decide)), (w_fne f43 (by decide)), ⟨(w_fne f83 (by decide)), ⟨t3, (w_fne f93 (by decide)), t2563, tR3⟩, ⟨x103, (w_fne f103 (by decide)), f10'3⟩, ⟨z113, (w_fne f113 (by decide)), f11'3⟩, a73, (w_fne f73 (by decide)), a7n3, a7e3⟩, (w_fne f123 (by decide)), (w_fne f133 (by decide)), (w_fne f143 (by decide)), (w_fne f153 (by decide)), (w_fne f163 (by decide)), (w_fne f173 (by decide)), (w_fne f183 (by decide)), (w_fne f193 (by decide)), (w_fat f203), (w_fne f213 (by decide)), (a_ga (by decide) e673), (by first | exact tl3 | (simp only [List.length_set]; exact tl3)), tm3, (a_ga (by decide) e683), hb3, (a_ga (by decide) e693), (by first | exact pl3 | (simp only [List.length_set]; exact pl3)), hP3, (a_ga (by decide) e703), (by first | exact cl3 | (simp only [List.length_set]; exact cl3)), hK3, (w_fne f03 (by decide)), (a_ga (by decide) e653), a13⟩ (fun hS3b => ?_)
    refine w_virtual (dc := dd + 6) (M' := m_X12_settle) rfl (g_vir (n := 2) rfl rfl (by simp [p_cat, p_bd, Value.category]) rfl rfl (a_gs e643) rfl) rfl rfl (Nat.le_refl _) ((r_settle (dd := dd) (l := 3) (by decide) (by decide) hn ht σ (w + 1) d _ hs (by omega) hdo hS3b).mono (by omega) (fun _ _ q => q)) ?_
    rintro v h4 ⟨rfl, hS4⟩
    have hse := s_se_len 3 σ
    refine w_ic 0 rfl rfl (w_ireturn rfl rfl ⟨rfl, _, ?_, hS4⟩)
    omega
  · have e1 : ¬ t = 1 := fun e => q0 (tR.2.1.mp e)
    obtain ⟨k, hk, ek⟩ : ∃ k, k < 10 ∧ s_na b n p = Int32.ofNat k := by
      unfold t_F at hF
      rw [if_neg q0] at hF
      by_cases q1 : t_nm6 b n p = true
      · obtain ⟨k, h1, h2⟩ := s_na6 q1; exact ⟨k, by omega, h2⟩
      · rw [if_neg q1] at hF
        by_cases q2 : t_nm2 b n p = true
        · obtain ⟨k, -, h1, h2⟩ := s_na2 q1 q2; exact ⟨k, by omega, h2⟩
        · rw [if_neg q2, ho, if_neg (by decide)] at hF; cases hF
    rw [ek]
    refine w_icmp_f rfl (t := 28) rfl (by simp only [p_cd, decide_eq_false_iff_not]; exact b_ofNat_ne (by omega) (by omega) e1) (w_iload_n rfl p_lk_s1 (w_ifc_f rfl (t := 77) rfl (by simp only [p_cd, decide_eq_false_iff_not]; exact g_nl (by omega)) (w_aload_n rfl (w_s1 (w_s1 rfl rfl (by decide)) rfl (by decide)) (w_aload_n rfl (w_s1 (w_s1 rfl rfl (by decide)) rfl (by decide)) (w_getf rfl rfl e64 f9 (w_ic 1 rfl rfl (w_icmp_t rfl (t := 41) rfl (by simp only [p_cd, decide_eq_true_eq]; exact b_ofNat_ne (by omega) (by omega) e1) (w_ic 1 rfl rfl (w_aload_n rfl (w_s1 (w_s1 rfl rfl (by decide)) rfl (by decide)) (w_getf rfl rfl e64 f9 (w_ic 1 rfl rfl (w_icmp_t rfl (t := 57) rfl (by simp only [p_cd, decide_eq_true_eq]; exact b_ofNat_ne (by omega) (by omega) e1) (w_iload_n rfl p_lk_s1 (w_virtual (dc := dd + 6) (M' := m_X12_emit) rfl (g_vir (n := 3) rfl rfl (by simp [p_cat, p_bd, Value.category]) rfl rfl e64 rfl) rfl rfl (Nat.le_refl _) (r_emit hS' (by omega) ht) ?_))))))))))))))
    rintro v h2 ⟨rfl, hS2, -⟩
    have hS2' := hS2
    obtain ⟨fs2, tv2, tp2, pv2, cv2, av2, y12, e642, fl2, f22, f32, f42, ⟨f82, ⟨t2, f92, t2562, tR2⟩, ⟨x102, f102, f10'2⟩, ⟨z112, f112, f11'2⟩, a72, f72, a7n2, a7e2⟩, f122, f132, f142, f152, f162, f172, f182, f192, f202, f212, e672, tl2, tm2, e682, hb2, e692, pl2, hP2, e702, cl2, hK2, f02, e652, a12⟩ := hS2
    refine w_aload_n rfl (w_s1 (w_s1 rfl rfl (by decide)) rfl (by decide)) (w_virtual (dc := dd + 6) (M' := m_X12_nextToken) rfl (g_vir (n := 1) rfl rfl (by simp [p_cat, p_bd, Value.category]) rfl rfl e642 rfl) rfl rfl (Nat.le_refl _) ((r_nextS (dd := dd) hS2' hn nb).mono (by omega) (fun _ _ q => q)) ?_)
    rintro v h3 ⟨rfl, hS3⟩
    obtain ⟨fs3, tv3, tp3, pv3, cv3, av3, y13, e643, fl3, f23, f33, f43, ⟨f83, ⟨t3, f93, t2563, tR3⟩, ⟨x103, f103, f10'3⟩, ⟨z113, f113, f11'3⟩, a73, f73, a7n3, a7e3⟩, f123, f133, f143, f153, f163, f173, f183, f193, f203, f213, e673, tl3, tm3, e683, hb3, e693, pl3, hP3, e703, cl3, hK3, f03, e653, a13⟩ := hS3
    refine w_aload_n rfl (w_s1 (w_s1 rfl rfl (by decide)) rfl (by decide)) (w_ic 1 rfl rfl (w_putf rfl rfl e643 rfl rfl (w_flt f203) (w_aload_n rfl (w_s1 (w_s1 rfl rfl (by decide)) rfl (by decide)) (w_ic 3 rfl rfl ?_))))
    refine w_use (X := fun h => r_S h b n (t_x b n p) σ κ (w + 1) so true d t0 m on) ⟨_, _, _, _, _, _, _, (a_gs e643), (by first | exact fl3 | (simp only [List.length_set]; exact fl3)), (w_fne f23 (by decide)), (w_fne f33 (by decide)), (w_fne f43 (by decide)), ⟨(w_fne f83 (by decide)), ⟨t3, (w_fne f93 (by decide)), t2563, tR3⟩, ⟨x103, (w_fne f103 (by decide)), f10'3⟩, ⟨z113, (w_fne f113 (by decide)), f11'3⟩, a73, (w_fne f73 (by decide)), a7n3, a7e3⟩, (w_fne f123 (by decide)), (w_fne f133 (by decide)), (w_fne f143 (by decide)), (w_fne f153 (by decide)), (w_fne f163 (by decide)), (w_fne f173 (by decide)), (w_fne f183 (by decide)), (w_fne f193 (by decide)), (w_fat f203), (w_fne f213 (by decide)), (a_ga (by decide) e673), (by first | exact tl3 | (simp only [List.length_set]; exact tl3)), tm3, (a_ga (by decide) e683), hb3, (a_ga (by decide) e693), (by first | exact pl3 | (simp only [List.length_set]; exact pl3)), hP3, (a_ga (by decide) e703), (by first | exact cl3 | (simp only [List.length_set]; exact cl3)), hK3, (w_fne f03 (by decide)), (a_ga (by decide) e653), a13⟩ (fun hS3b => ?_)
    refine w_virtual (dc := dd + 6) (M' := m_X12_settle) rfl (g_vir (n := 2) rfl rfl (by simp [p_cat, p_bd, Value.category]) rfl rfl (a_gs e643) rfl) rfl rfl (Nat.le_refl _) ((r_settle (dd := dd) (l := 3) (by decide) (by decide) hn ht σ (w + 1) d _ hs (by omega) hdo hS3b).mono (by omega) (fun _ _ q => q)) ?_
    rintro v h4 ⟨rfl, hS4⟩
    have hse := s_se_len 3 σ
    refine w_ic 0 rfl rfl (w_ireturn rfl rfl ⟨rfl, _, ?_, hS4⟩)
    omega
set_option maxRecDepth 100000 in
theorem r_b1_par (hS : r_S h b n p σ κ w so wh d t0 m on) (hso : so < 100) (hd : d ≤ 8) (hn : n ≤ 300) (ht : t0 ≤ 2331) (hF : t_F b n (Nat.beq so 1) d p = 0) (ho : t_is b n p 40 = true) (hs : σ.length < 160) : p_wp p_GT p_MT (dd + 7) m_X12_beginOne 0 (lv_args 0 [.ref 64]) [] h (fun v h2 => v = some (.int (Int32.ofNat 0)) ∧ r_S h2 b n (t_x b n p) (40 :: σ) κ w so wh (d + 1) t0 m on) := by
  have hS' := hS
  obtain ⟨fs, tv, tp, pv, cv, av, y1, e64, fl, f2, f3, f4, ⟨f8, ⟨t, f9, t256, tR⟩, ⟨x10, f10, f10'⟩, ⟨z11, f11, f11'⟩, a7, f7, a7n, a7e⟩, f12, f13, f14, f15, f16, f17, f18, f19, f20, f21, e67, tl, tm, e68, hb, e69, pl, hP, e70, cl, hK, f0, e65, a1⟩ := hS
  have hk := (t_is_iff.mp ho).1
  have et : t = 40 := (tR.2.2.2 40 (by omega)).mpr (t_is_iff.mp ho)
  have nb := t_nb2 ho (by decide) (by decide)
  have no : ∀ k, k < 20 → ¬ t_wd b n p k = true := fun k _ e => by
    have := (t_wd_iff.mp e).1
    omega
  have n6 : ¬ t_nm6 b n p = true := by
    unfold t_nm6
    simp only [Bool.or_eq_true, not_or]
    exact ⟨no 9 (by decide), no 10 (by decide), no 11 (by decide), no 8 (by decide), no 12 (by decide), no 13 (by decide)⟩
  have n2 : ¬ t_nm2 b n p = true := by
    unfold t_nm2
    simp only [Bool.or_eq_true, not_or]
    exact ⟨no 14 (by decide), no 15 (by decide)⟩
  refine w_aload_n rfl rfl (w_virtual (dc := dd + 6) (M' := m_X12_faultOfOne) rfl (g_vir (n := 1) rfl rfl (by simp [p_cat, p_bd, Value.category]) rfl rfl e64 rfl) rfl rfl (Nat.le_refl _) (r_F (dd := dd) hS' hso hd) ?_)
  rintro v h2 ⟨rfl, rfl⟩
  refine w_istore_n rfl (by decide) (w_iload_n rfl p_lk_s1 ?_)
  rw [hF]
  refine w_ifc_t rfl (t := 11) rfl (by decide) (w_aload_n rfl (w_s1 rfl rfl (by decide)) (w_virtual (dc := dd + 6) (M' := m_X12_nameOf) rfl (g_vir (n := 1) rfl rfl (by simp [p_cat, p_bd, Value.category]) rfl rfl e64 rfl) rfl rfl (Nat.le_refl _) ((r_name (dd := dd) hS').mono (by omega) (fun _ _ q => q)) ?_))
  rintro v h2 ⟨rfl, rfl⟩
  refine w_istore_n rfl (by decide) (w_aload_n rfl (w_s1 (w_s1 rfl rfl (by decide)) rfl (by decide)) (w_getf rfl rfl e64 f9 (w_ic 1 rfl rfl ?_)))
  rw [s_na0 n6 n2]
  refine w_icmp_f rfl (t := 28) rfl (by rw [et]; decide) (w_iload_n rfl p_lk_s1 (w_ifc_t rfl (t := 77) rfl (by decide) (w_aload_n rfl (w_s1 (w_s1 rfl rfl (by decide)) rfl (by decide)) (w_dup rfl rfl (w_getf rfl rfl e64 f18 (w_ic 1 rfl rfl (w_addN rfl (w_putf rfl rfl e64 rfl rfl (w_flt f18) (w_aload_n rfl (w_s1 (w_s1 rfl rfl (by decide)) rfl (by decide)) (w_getf rfl rfl (a_gs e64) (w_fne f15 (by decide)) (w_aload_n rfl (w_s1 (w_s1 rfl rfl (by decide)) rfl (by decide)) (w_getf rfl rfl (a_gs e64) (w_fne f17 (by decide)) (w_aload_n rfl (w_s1 (w_s1 rfl rfl (by decide)) rfl (by decide)) (w_getf rfl rfl (a_gs e64) (w_fne f9 (by decide)) (w_bp 40 rfl rfl (w_icmp_f rfl (t := 109) rfl (by rw [et]; decide) (w_bp 40 rfl rfl (w_goto rfl (t := 124) rfl (w_st rfl (a_ga (by decide) e69) (by omega) (by omega) (w_aload_n rfl (w_s1 (w_s1 rfl rfl (by decide)) rfl (by decide)) (w_dup rfl rfl (w_getf rfl rfl (a_ga (by decide) (a_gs e64)) (w_fne f17 (by decide)) (w_ic 1 rfl rfl (w_addN rfl (w_putf rfl rfl (a_ga (by decide) (a_gs e64)) rfl rfl (w_flt (w_fne f17 (by decide))) ?_)))))))))))))))))))))))))
  refine w_use (X := fun h => r_S h b n p (40 :: σ) κ w so wh (d + 1) t0 m on) ⟨_, _, _, _, _, _, _, (a_gs (a_ga (by decide) (a_gs e64))), (by first | exact fl | (simp only [List.length_set]; exact fl)), (w_fne (w_fne f2 (by decide)) (by decide)), (w_fne (w_fne f3 (by decide)) (by decide)), (w_fne (w_fne f4 (by decide)) (by decide)), ⟨(w_fne (w_fne f8 (by decide)) (by decide)), ⟨t, (w_fne (w_fne f9 (by decide)) (by decide)), t256, tR⟩, ⟨x10, (w_fne (w_fne f10 (by decide)) (by decide)), f10'⟩, ⟨z11, (w_fne (w_fne f11 (by decide)) (by decide)), f11'⟩, a7, (w_fne (w_fne f7 (by decide)) (by decide)), a7n, a7e⟩, (w_fne (w_fne f12 (by decide)) (by decide)), (w_fne (w_fne f13 (by decide)) (by decide)), (w_fne (w_fne f14 (by decide)) (by decide)), (w_fne (w_fne f15 (by decide)) (by decide)), (w_fne (w_fne f16 (by decide)) (by decide)), (w_fat (w_fne f17 (by decide))), (w_fne (w_fat f18) (by decide)), (w_fne (w_fne f19 (by decide)) (by decide)), (w_fne (w_fne f20 (by decide)) (by decide)), (w_fne (w_fne f21 (by decide)) (by decide)), (a_ga (by decide) (a_ga (by decide) (a_ga (by decide) e67))), (by first | exact tl | (simp only [List.length_set]; exact tl)), tm, (a_ga (by decide) (a_ga (by decide) (a_ga (by decide) e68))), hb, (a_ga (by decide) (a_gs (a_ga (by decide) e69))), (by first | exact pl | (simp only [List.length_set]; exact pl)), ⟨List.getElem?_set_self (by omega), by decide, r_P_set (Nat.le_refl _) hP⟩, (a_ga (by decide) (a_ga (by decide) (a_ga (by decide) e70))), (by first | exact cl | (simp only [List.length_set]; exact cl)), hK, (w_fne (w_fne f0 (by decide)) (by decide)), (a_ga (by decide) (a_ga (by decide) (a_ga (by decide) e65))), a1⟩ (fun hS2 => ?_)
  refine w_aload_n rfl (w_s1 (w_s1 rfl rfl (by decide)) rfl (by decide)) (w_virtual (dc := dd + 6) (M' := m_X12_nextToken) rfl (g_vir (n := 1) rfl rfl (by simp [p_cat, p_bd, Value.category]) rfl rfl (a_gs (a_ga (by decide) (a_gs e64))) rfl) rfl rfl (Nat.le_refl _) ((r_nextS (dd := dd) hS2 hn nb).mono (by omega) (fun _ _ q => q)) ?_)
  rintro v h3 ⟨rfl, hS3⟩
  exact w_ic 0 rfl rfl (w_ireturn rfl rfl ⟨rfl, hS3⟩)
set_option maxRecDepth 100000 in
theorem r_b1_min (hS : r_S h b n p σ κ w so wh d t0 m on) (hso : so < 100) (hd : d ≤ 8) (hn : n ≤ 300) (ht : t0 ≤ 2331) (hF : t_F b n (Nat.beq so 1) d p = 0) (ho : t_is b n p 45 = true) (hs : σ.length < 160) : p_wp p_GT p_MT (dd + 7) m_X12_beginOne 0 (lv_args 0 [.ref 64]) [] h (fun v h2 => v = some (.int (Int32.ofNat 0)) ∧ r_S h2 b n (t_x b n p) (3 :: σ) κ w so wh (d + 1) t0 m on) := by
  have hS' := hS
  obtain ⟨fs, tv, tp, pv, cv, av, y1, e64, fl, f2, f3, f4, ⟨f8, ⟨t, f9, t256, tR⟩, ⟨x10, f10, f10'⟩, ⟨z11, f11, f11'⟩, a7, f7, a7n, a7e⟩, f12, f13, f14, f15, f16, f17, f18, f19, f20, f21, e67, tl, tm, e68, hb, e69, pl, hP, e70, cl, hK, f0, e65, a1⟩ := hS
  have hk := (t_is_iff.mp ho).1
  have et : t = 45 := (tR.2.2.2 45 (by omega)).mpr (t_is_iff.mp ho)
  have nb := t_nb2 ho (by decide) (by decide)
  have no : ∀ k, k < 20 → ¬ t_wd b n p k = true := fun k _ e => by
    have := (t_wd_iff.mp e).1
    omega
  have n6 : ¬ t_nm6 b n p = true := by
    unfold t_nm6
    simp only [Bool.or_eq_true, not_or]
    exact ⟨no 9 (by decide), no 10 (by decide), no 11 (by decide), no 8 (by decide), no 12 (by decide), no 13 (by decide)⟩
  have n2 : ¬ t_nm2 b n p = true := by
    unfold t_nm2
    simp only [Bool.or_eq_true, not_or]
    exact ⟨no 14 (by decide), no 15 (by decide)⟩
  refine w_aload_n rfl rfl (w_virtual (dc := dd + 6) (M' := m_X12_faultOfOne) rfl (g_vir (n := 1) rfl rfl (by simp [p_cat, p_bd, Value.category]) rfl rfl e64 rfl) rfl rfl (Nat.le_refl _) (r_F (dd := dd) hS' hso hd) ?_)
  rintro v h2 ⟨rfl, rfl⟩
  refine w_istore_n rfl (by decide) (w_iload_n rfl p_lk_s1 ?_)
  rw [hF]
  refine w_ifc_t rfl (t := 11) rfl (by decide) (w_aload_n rfl (w_s1 rfl rfl (by decide)) (w_virtual (dc := dd + 6) (M' := m_X12_nameOf) rfl (g_vir (n := 1) rfl rfl (by simp [p_cat, p_bd, Value.category]) rfl rfl e64 rfl) rfl rfl (Nat.le_refl _) ((r_name (dd := dd) hS').mono (by omega) (fun _ _ q => q)) ?_))
  rintro v h2 ⟨rfl, rfl⟩
  refine w_istore_n rfl (by decide) (w_aload_n rfl (w_s1 (w_s1 rfl rfl (by decide)) rfl (by decide)) (w_getf rfl rfl e64 f9 (w_ic 1 rfl rfl ?_)))
  rw [s_na0 n6 n2]
  refine w_icmp_f rfl (t := 28) rfl (by rw [et]; decide) (w_iload_n rfl p_lk_s1 (w_ifc_t rfl (t := 77) rfl (by decide) (w_aload_n rfl (w_s1 (w_s1 rfl rfl (by decide)) rfl (by decide)) (w_dup rfl rfl (w_getf rfl rfl e64 f18 (w_ic 1 rfl rfl (w_addN rfl (w_putf rfl rfl e64 rfl rfl (w_flt f18) (w_aload_n rfl (w_s1 (w_s1 rfl rfl (by decide)) rfl (by decide)) (w_getf rfl rfl (a_gs e64) (w_fne f15 (by decide)) (w_aload_n rfl (w_s1 (w_s1 rfl rfl (by decide)) rfl (by decide)) (w_getf rfl rfl (a_gs e64) (w_fne f17 (by decide)) (w_aload_n rfl (w_s1 (w_s1 rfl rfl (by decide)) rfl (by decide)) (w_getf rfl rfl (a_gs e64) (w_fne f9 (by decide)) (w_bp 40 rfl rfl (w_icmp_t rfl (t := 109) rfl (by rw [et]; decide) (w_aload_n rfl (w_s1 (w_s1 rfl rfl (by decide)) rfl (by decide)) (w_getf rfl rfl (a_gs e64) (w_fne f9 (by decide)) (w_bp 45 rfl rfl (w_icmp_f rfl (t := 122) rfl (by rw [et]; decide) (w_ic 3 rfl rfl (w_goto rfl (t := 124) rfl (w_st rfl (a_ga (by decide) e69) (by omega) (by omega) (w_aload_n rfl (w_s1 (w_s1 rfl rfl (by decide)) rfl (by decide)) (w_dup rfl rfl (w_getf rfl rfl (a_ga (by decide) (a_gs e64)) (w_fne f17 (by decide)) (w_ic 1 rfl rfl (w_addN rfl (w_putf rfl rfl (a_ga (by decide) (a_gs e64)) rfl rfl (w_flt (w_fne f17 (by decide))) ?_)))))))))))))))))))))))))))))
  refine w_use (X := fun h => r_S h b n p (3 :: σ) κ w so wh (d + 1) t0 m on) ⟨_, _, _, _, _, _, _, (a_gs (a_ga (by decide) (a_gs e64))), (by first | exact fl | (simp only [List.length_set]; exact fl)), (w_fne (w_fne f2 (by decide)) (by decide)), (w_fne (w_fne f3 (by decide)) (by decide)), (w_fne (w_fne f4 (by decide)) (by decide)), ⟨(w_fne (w_fne f8 (by decide)) (by decide)), ⟨t, (w_fne (w_fne f9 (by decide)) (by decide)), t256, tR⟩, ⟨x10, (w_fne (w_fne f10 (by decide)) (by decide)), f10'⟩, ⟨z11, (w_fne (w_fne f11 (by decide)) (by decide)), f11'⟩, a7, (w_fne (w_fne f7 (by decide)) (by decide)), a7n, a7e⟩, (w_fne (w_fne f12 (by decide)) (by decide)), (w_fne (w_fne f13 (by decide)) (by decide)), (w_fne (w_fne f14 (by decide)) (by decide)), (w_fne (w_fne f15 (by decide)) (by decide)), (w_fne (w_fne f16 (by decide)) (by decide)), (w_fat (w_fne f17 (by decide))), (w_fne (w_fat f18) (by decide)), (w_fne (w_fne f19 (by decide)) (by decide)), (w_fne (w_fne f20 (by decide)) (by decide)), (w_fne (w_fne f21 (by decide)) (by decide)), (a_ga (by decide) (a_ga (by decide) (a_ga (by decide) e67))), (by first | exact tl | (simp only [List.length_set]; exact tl)), tm, (a_ga (by decide) (a_ga (by decide) (a_ga (by decide) e68))), hb, (a_ga (by decide) (a_gs (a_ga (by decide) e69))), (by first | exact pl | (simp only [List.length_set]; exact pl)), ⟨List.getElem?_set_self (by omega), by decide, r_P_set (Nat.le_refl _) hP⟩, (a_ga (by decide) (a_ga (by decide) (a_ga (by decide) e70))), (by first | exact cl | (simp only [List.length_set]; exact cl)), hK, (w_fne (w_fne f0 (by decide)) (by decide)), (a_ga (by decide) (a_ga (by decide) (a_ga (by decide) e65))), a1⟩ (fun hS2 => ?_)
  refine w_aload_n rfl (w_s1 (w_s1 rfl rfl (by decide)) rfl (by decide)) (w_virtual (dc := dd + 6) (M' := m_X12_nextToken) rfl (g_vir (n := 1) rfl rfl (by simp [p_cat, p_bd, Value.category]) rfl rfl (a_gs (a_ga (by decide) (a_gs e64))) rfl) rfl rfl (Nat.le_refl _) ((r_nextS (dd := dd) hS2 hn nb).mono (by omega) (fun _ _ q => q)) ?_)
  rintro v h3 ⟨rfl, hS3⟩
  exact w_ic 0 rfl rfl (w_ireturn rfl rfl ⟨rfl, hS3⟩)
set_option maxRecDepth 100000 in
theorem r_b1_nth (hS : r_S h b n p σ κ w so wh d t0 m on) (hso : so < 100) (hd : d ≤ 8) (hn : n ≤ 300) (ht : t0 ≤ 2331) (hF : t_F b n (Nat.beq so 1) d p = 0) (ho : t_wd b n p 20 = true) (hs : σ.length < 160) : p_wp p_GT p_MT (dd + 7) m_X12_beginOne 0 (lv_args 0 [.ref 64]) [] h (fun v h2 => v = some (.int (Int32.ofNat 0)) ∧ r_S h2 b n (t_x b n p) (41 :: σ) κ w so wh (d + 1) t0 m on) := by
  have hS' := hS
  obtain ⟨fs, tv, tp, pv, cv, av, y1, e64, fl, f2, f3, f4, ⟨f8, ⟨t, f9, t256, tR⟩, ⟨x10, f10, f10'⟩, ⟨z11, f11, f11'⟩, a7, f7, a7n, a7e⟩, f12, f13, f14, f15, f16, f17, f18, f19, f20, f21, e67, tl, tm, e68, hb, e69, pl, hP, e70, cl, hK, f0, e65, a1⟩ := hS
  have hk := (t_wd_iff.mp ho).1
  have et : t = 2 := tR.2.2.1.mpr hk
  have nb := t_nb (b := b) (n := n) (p := p) (by omega)
  have w20 := (t_wd_iff.mp ho).2
  have no : ∀ k, k < 20 → ¬ t_wd b n p k = true := fun k hk e => by
    have := (t_wd_iff.mp e).2
    rw [w20] at this
    have := t_Wn_i 20 (by decide) k (by omega) this
    omega
  have n6 : ¬ t_nm6 b n p = true := by
    unfold t_nm6
    simp only [Bool.or_eq_true, not_or]
    exact ⟨no 9 (by decide), no 10 (by decide), no 11 (by decide), no 8 (by decide), no 12 (by decide), no 13 (by decide)⟩
  have n2 : ¬ t_nm2 b n p = true := by
    unfold t_nm2
    simp only [Bool.or_eq_true, not_or]
    exact ⟨no 14 (by decide), no 15 (by decide)⟩
  refine w_aload_n rfl rfl (w_virtual (dc := dd + 6) (M' := m_X12_faultOfOne) rfl (g_vir (n := 1) rfl rfl (by simp [p_cat, p_bd, Value.category]) rfl rfl e64 rfl) rfl rfl (Nat.le_refl _) (r_F (dd := dd) hS' hso hd) ?_)
  rintro v h2 ⟨rfl, rfl⟩
  refine w_istore_n rfl (by decide) (w_iload_n rfl p_lk_s1 ?_)
  rw [hF]
  refine w_ifc_t rfl (t := 11) rfl (by decide) (w_aload_n rfl (w_s1 rfl rfl (by decide)) (w_virtual (dc := dd + 6) (M' := m_X12_nameOf) rfl (g_vir (n := 1) rfl rfl (by simp [p_cat, p_bd, Value.category]) rfl rfl e64 rfl) rfl rfl (Nat.le_refl _) ((r_name (dd := dd) hS').mono (by omega) (fun _ _ q => q)) ?_))
  rintro v h2 ⟨rfl, rfl⟩
  refine w_istore_n rfl (by decide) (w_aload_n rfl (w_s1 (w_s1 rfl rfl (by decide)) rfl (by decide)) (w_getf rfl rfl e64 f9 (w_ic 1 rfl rfl ?_)))
  rw [s_na0 n6 n2]
  refine w_icmp_f rfl (t := 28) rfl (by rw [et]; decide) (w_iload_n rfl p_lk_s1 (w_ifc_t rfl (t := 77) rfl (by decide) (w_aload_n rfl (w_s1 (w_s1 rfl rfl (by decide)) rfl (by decide)) (w_dup rfl rfl (w_getf rfl rfl e64 f18 (w_ic 1 rfl rfl (w_addN rfl (w_putf rfl rfl e64 rfl rfl (w_flt f18) (w_aload_n rfl (w_s1 (w_s1 rfl rfl (by decide)) rfl (by decide)) (w_getf rfl rfl (a_gs e64) (w_fne f15 (by decide)) (w_aload_n rfl (w_s1 (w_s1 rfl rfl (by decide)) rfl (by decide)) (w_getf rfl rfl (a_gs e64) (w_fne f17 (by decide)) (w_aload_n rfl (w_s1 (w_s1 rfl rfl (by decide)) rfl (by decide)) (w_getf rfl rfl (a_gs e64) (w_fne f9 (by decide)) (w_bp 40 rfl rfl (w_icmp_t rfl (t := 109) rfl (by rw [et]; decide) (w_aload_n rfl (w_s1 (w_s1 rfl rfl (by decide)) rfl (by decide)) (w_getf rfl rfl (a_gs e64) (w_fne f9 (by decide)) (w_bp 45 rfl rfl (w_icmp_t rfl (t := 122) rfl (by rw [et]; decide) (w_bp 41 rfl rfl (w_st rfl (a_ga (by decide) e69) (by omega) (by omega) (w_aload_n rfl (w_s1 (w_s1 rfl rfl (by decide)) rfl (by decide)) (w_dup rfl rfl (w_getf rfl rfl (a_ga (by decide) (a_gs e64)) (w_fne f17 (by decide)) (w_ic 1 rfl rfl (w_addN rfl (w_putf rfl rfl (a_ga (by decide) (a_gs e64)) rfl rfl (w_flt (w_fne f17 (by decide))) ?_))))))))))))))))))))))))))))
  refine w_use (X := fun h => r_S h b n p (41 :: σ) κ w so wh (d + 1) t0 m on) ⟨_, _, _, _, _, _, _, (a_gs (a_ga (by decide) (a_gs e64))), (by first | exact fl | (simp only [List.length_set]; exact fl)), (w_fne (w_fne f2 (by decide)) (by decide)), (w_fne (w_fne f3 (by decide)) (by decide)), (w_fne (w_fne f4 (by decide)) (by decide)), ⟨(w_fne (w_fne f8 (by decide)) (by decide)), ⟨t, (w_fne (w_fne f9 (by decide)) (by decide)), t256, tR⟩, ⟨x10, (w_fne (w_fne f10 (by decide)) (by decide)), f10'⟩, ⟨z11, (w_fne (w_fne f11 (by decide)) (by decide)), f11'⟩, a7, (w_fne (w_fne f7 (by decide)) (by decide)), a7n, a7e⟩, (w_fne (w_fne f12 (by decide)) (by decide)), (w_fne (w_fne f13 (by decide)) (by decide)), (w_fne (w_fne f14 (by decide)) (by decide)), (w_fne (w_fne f15 (by decide)) (by decide)), (w_fne (w_fne f16 (by decide)) (by decide)), (w_fat (w_fne f17 (by decide))), (w_fne (w_fat f18) (by decide)), (w_fne (w_fne f19 (by decide)) (by decide)), (w_fne (w_fne f20 (by decide)) (by decide)), (w_fne (w_fne f21 (by decide)) (by decide)), (a_ga (by decide) (a_ga (by decide) (a_ga (by decide) e67))), (by first | exact tl | (simp only [List.length_set]; exact tl)), tm, (a_ga (by decide) (a_ga (by decide) (a_ga (by decide) e68))), hb, (a_ga (by decide) (a_gs (a_ga (by decide) e69))), (by first | exact pl | (simp only [List.length_set]; exact pl)), ⟨List.getElem?_set_self (by omega), by decide, r_P_set (Nat.le_refl _) hP⟩, (a_ga (by decide) (a_ga (by decide) (a_ga (by decide) e70))), (by first | exact cl | (simp only [List.length_set]; exact cl)), hK, (w_fne (w_fne f0 (by decide)) (by decide)), (a_ga (by decide) (a_ga (by decide) (a_ga (by decide) e65))), a1⟩ (fun hS2 => ?_)
  refine w_aload_n rfl (w_s1 (w_s1 rfl rfl (by decide)) rfl (by decide)) (w_virtual (dc := dd + 6) (M' := m_X12_nextToken) rfl (g_vir (n := 1) rfl rfl (by simp [p_cat, p_bd, Value.category]) rfl rfl (a_gs (a_ga (by decide) (a_gs e64))) rfl) rfl rfl (Nat.le_refl _) ((r_nextS (dd := dd) hS2 hn nb).mono (by omega) (fun _ _ q => q)) ?_)
  rintro v h3 ⟨rfl, hS3⟩
  exact w_ic 0 rfl rfl (w_ireturn rfl rfl ⟨rfl, hS3⟩)
end RS6

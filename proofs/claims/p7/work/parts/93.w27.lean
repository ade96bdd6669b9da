/-! THE REFERENCE READS A CLAUSE, further -/
section RS12
variable {h : p_H} {dd n p w so t0 m on at_ : Nat} {b : Nat → Nat}
set_option maxRecDepth 100000 in
theorem r_cl2 (hS : r_S0 h b n p w so t0 m on) (hn : n ≤ 300) (ht : t0 ≤ 2331) (hp : p ≤ n) (hw : w ≤ p + 3) (hm : m ≤ 24) (hon : on < 8) (hcw : t_cw b n p = 2) : p_wp p_GT p_MT (dd + 13) m_X12_clause 0 (lv_args 0 [.ref 64]) [] h (fun v h2 => v = some (.int (Int32.ofNat (t_cl b n m on p).1)) ∧ ∃ w2 so2 m2 on2 : Nat, r_S0 h2 b n (t_cl b n m on p).2 w2 so2 t0 m2 on2 ∧ ((t_cl b n m on p).1 = 0 → w2 ≤ (t_cl b n m on p).2 + 3 ∧ p < (t_cl b n m on p).2 ∧ (t_cl b n m on p).2 ≤ n ∧ m2 = m + 1 ∧ m < 24 ∧ on2 < 8 ∧ on2 = (if t_cw b n p < 3 then on + 2 ^ t_cw b n p else on))) := by
  have hS' := hS
  obtain ⟨fs, tv, tp, pv, cv, y17, y18, y19, y20, av, y1, e64, fl, f2, f3, f4, ⟨f8, ⟨t, f9, t256, tR⟩, ⟨x10, f10, f10'⟩, ⟨z11, f11, f11'⟩, a7, f7, a7n, a7e⟩, f12, f13, f14, f15, f16, f17, f18, f19, f20, f21, e67, tl, tm, e68, hb, e69, pl, e70, cl, f0, e65, a1⟩ := hS
  have ecl : t_cl b n m on p = (if 2 < 3 ∧ on / 2 ^ 2 % 2 = 1 then (4, p) else if m = 24 then (6, p) else (if (t_P b n (Nat.beq 2 1) 4000 2 0 0 (t_x b n p)).1 ≠ 0 then t_P b n (Nat.beq 2 1) 4000 2 0 0 (t_x b n p) else if t_is b n (t_P b n (Nat.beq 2 1) 4000 2 0 0 (t_x b n p)).2 59 = true then (0, t_x b n (t_P b n (Nat.beq 2 1) 4000 2 0 0 (t_x b n p)).2) else (1, (t_P b n (Nat.beq 2 1) 4000 2 0 0 (t_x b n p)).2))) := by rw [t_cl_w hcw, if_neg (by decide : ¬ 2 = 10), show t_cs b n 2 p = t_P b n (Nat.beq 2 1) 4000 2 0 0 (t_x b n p) from if_pos (by decide)]
  generalize hs : t_P b n (Nat.beq 2 1) 4000 2 0 0 (t_x b n p) = s at ecl
  refine w_aload_n rfl rfl (w_virtual (dc := dd + 12) (M' := m_X12_sortOf) rfl (g_vir (n := 1) rfl rfl (by simp [p_cat, p_bd, Value.category]) rfl rfl e64 rfl) rfl rfl (Nat.le_refl _) ((r_sortOf (dd := dd) hS').mono (by omega) (fun _ _ q => q)) ?_)
  rintro v h2 ⟨rfl, rfl⟩
  rw [ecl, hcw, show s_cs 2 = Int32.ofNat (2) from rfl]
  refine w_istore_n rfl (by decide) (w_iload_n rfl p_lk_s1 ?_)
  refine w_ifc_t rfl (t := 11) rfl (by decide) (w_iload_n rfl p_lk_s1 (w_ic 2 rfl rfl (w_icmp_f rfl (t := 29) rfl (by decide) (w_aload_n rfl (w_s1 rfl rfl (by decide)) (w_getf rfl rfl e64 f21 (w_iload_n rfl p_lk_s1 (w_static (nn := 0) (dc := dd + 12) (M' := m_X12_has) rfl rfl rfl rfl (Nat.le_refl _) (r_has (x := on) (s := 2) hon (by decide)) ?_)))))))
  rintro v h2 ⟨rfl, rfl⟩
  by_cases qh : on / 2 ^ 2 % 2 = 1
  · rw [if_pos ⟨by decide, qh⟩, qh]
    exact w_ifc_f rfl (t := 29) rfl (by decide) (w_ic 4 rfl rfl (w_ireturn rfl rfl ⟨rfl, w, so, m, on, hS', fun e => absurd e (by first | decide | simp)⟩))
  have qh2 : Nat.beq (on / 2 ^ 2 % 2) 1 = false := Bool.eq_false_iff.mpr (fun e => qh (Nat.eq_of_beq_eq_true e))
  rw [if_neg (fun e => qh e.2), qh2]
  obtain ⟨eor, hon2⟩ := s_or1 on hon 2 (by decide) qh
  refine w_ifc_t rfl (t := 29) rfl (by decide) (w_aload_n rfl (w_s1 rfl rfl (by decide)) (w_getf rfl rfl e64 f2 (w_aload_n rfl (w_s1 rfl rfl (by decide)) (w_getf rfl rfl e64 f12 (w_ld rfl e67 (by omega) tm (w_istore_n rfl (by decide) (w_iload_n rfl p_lk_s1 (w_bp 24 rfl rfl ?_))))))))
  by_cases q24 : m = 24
  · rw [if_pos q24]
    exact w_icmp_f rfl (t := 48) rfl (by rw [q24]; decide) (w_bp 6 rfl rfl (w_ireturn rfl rfl ⟨rfl, w, so, m, on, hS', fun e => absurd e (by first | decide | simp)⟩))
  rw [if_neg q24]
  have hm24 : m < 24 := by omega
  refine w_icmp_t rfl (t := 48) rfl (by simp only [p_cd, decide_eq_true_eq]; exact b_ofNat_ne (by omega) (by omega) q24) (w_iload_n rfl (w_s1 p_lk_s1 rfl (by decide)) (w_ic 2 rfl rfl (w_icmp_f rfl (t := 65) rfl (by decide) (w_aload_n rfl (w_s1 (w_s1 rfl rfl (by decide)) rfl (by decide)) (w_dup rfl rfl (w_getf rfl rfl e64 f21 (w_ic 1 rfl rfl (w_iload_n rfl (w_s1 p_lk_s1 rfl (by decide)) (w_ishl rfl (w_ior rfl ?_))))))))))
  rw [eor]
  refine w_putf rfl rfl e64 rfl rfl (w_flt f21) (w_aload_n rfl (w_s1 (w_s1 rfl rfl (by decide)) rfl (by decide)) (w_iload_n rfl (w_s1 p_lk_s1 rfl (by decide)) (w_putf rfl rfl (a_gs e64) rfl rfl (w_flt (w_fne f14 (by decide))) ?_)))
  refine w_use (X := fun h => r_S0 h b n p w 2 t0 m ((on + 2 ^ 2))) ⟨_, _, _, _, _, _, _, _, _, _, _, (a_gs (a_gs e64)), (by first | exact fl | (simp only [List.length_set]; exact fl)), (w_fne (w_fne f2 (by decide)) (by decide)), (w_fne (w_fne f3 (by decide)) (by decide)), (w_fne (w_fne f4 (by decide)) (by decide)), ⟨(w_fne (w_fne f8 (by decide)) (by decide)), ⟨t, (w_fne (w_fne f9 (by decide)) (by decide)), t256, tR⟩, ⟨_, (w_fne (w_fne f10 (by decide)) (by decide)), f10'⟩, ⟨_, (w_fne (w_fne f11 (by decide)) (by decide)), f11'⟩, a7, (w_fne (w_fne f7 (by decide)) (by decide)), a7n, a7e⟩, (w_fne (w_fne f12 (by decide)) (by decide)), (w_fne (w_fne f13 (by decide)) (by decide)), (w_fat (w_fne f14 (by decide))), (w_fne (w_fne f15 (by decide)) (by decide)), (w_fne (w_fne f16 (by decide)) (by decide)), (w_fne (w_fne f17 (by decide)) (by decide)), (w_fne (w_fne f18 (by decide)) (by decide)), (w_fne (w_fne f19 (by decide)) (by decide)), (w_fne (w_fne f20 (by decide)) (by decide)), (w_fne (w_fat f21) (by decide)), (a_ga (by decide) (a_ga (by decide) e67)), (by first | exact tl | (simp only [List.length_set]; exact tl)), tm, (a_ga (by decide) (a_ga (by decide) e68)), hb, (a_ga (by decide) (a_ga (by decide) e69)), (by first | exact pl | (simp only [List.length_set]; exact pl)), (a_ga (by decide) (a_ga (by decide) e70)), (by first | exact cl | (simp only [List.length_set]; exact cl)), (w_fne (w_fne f0 (by decide)) (by decide)), (a_ga (by decide) (a_ga (by decide) e65)), a1⟩ (fun hS1 => ?_)
  have hpn : p < n := t_cw_lt (by rw [hcw]; decide)
  have hk1 := t_cw_k (b := b) (n := n) (p := p) (by rw [hcw]; decide)
  have hx := t_x_lt (b := b) hpn
  refine w_aload_n rfl (w_s1 (w_s1 rfl rfl (by decide)) rfl (by decide)) (w_virtual (dc := dd + 12) (M' := m_X12_nextToken) rfl (g_vir (n := 1) rfl rfl (by simp [p_cat, p_bd, Value.category]) rfl rfl (a_gs (a_gs e64)) rfl) rfl rfl (Nat.le_refl _) ((r_next0 (dd := dd) hS1 hn (t_nb (b := b) (by omega))).mono (by omega) (fun _ _ q => q)) ?_)
  rintro v h3 ⟨rfl, hS3⟩
  have hS3b := hS3
  obtain ⟨fs3, tv3, tp3, pv3, cv3, y173, y183, y193, y203, av3, y13, e643, fl3, f23, f33, f43, ⟨f83, ⟨t3, f93, t2563, tR3⟩, ⟨x103, f103, f10'3⟩, ⟨z113, f113, f11'3⟩, a73, f73, a7n3, a7e3⟩, f123, f133, f143, f153, f163, f173, f183, f193, f203, f213, e673, tl3, tm3, e683, hb3, e693, pl3, e703, cl3, f03, e653, a13⟩ := hS3
  refine w_aload_n rfl (w_s1 (w_s1 rfl rfl (by decide)) rfl (by decide)) (w_getf rfl rfl e643 f123 (w_ic 1 rfl rfl (w_addN rfl (w_bp 7 rfl rfl (w_iload_n rfl p_lk_s1 (w_mulN rfl (w_addN rfl (w_istore_n rfl (by decide) (w_aload_n rfl (w_s1 (w_s1 (w_s1 rfl rfl (by decide)) rfl (by decide)) rfl (by decide)) (w_getf rfl rfl e643 f23 (w_iload_n rfl p_lk_s1 (w_iload_n rfl (w_s1 (w_s1 p_lk_s1 rfl (by decide)) rfl (by decide)) (w_st rfl e673 (by omega) (by omega) ?_)))))))))))))
  refine w_use (X := fun h => r_S0 h b n (t_x b n p) w 2 t0 m ((on + 2 ^ 2))) ⟨_, _, _, _, _, _, _, _, _, _, _, (a_ga (by decide) e643), (by first | exact fl3 | (simp only [List.length_set]; exact fl3)), f23, f33, f43, ⟨f83, ⟨t3, f93, t2563, tR3⟩, ⟨_, f103, f10'3⟩, ⟨_, f113, f11'3⟩, a73, f73, a7n3, a7e3⟩, f123, f133, f143, f153, f163, f173, f183, f193, f203, f213, (a_gs e673), (by first | exact tl3 | (simp only [List.length_set]; exact tl3)), (by rw [List.getElem?_set_ne (by omega)]; exact tm3), (a_ga (by decide) e683), hb3, (a_ga (by decide) e693), (by first | exact pl3 | (simp only [List.length_set]; exact pl3)), (a_ga (by decide) e703), (by first | exact cl3 | (simp only [List.length_set]; exact cl3)), f03, (a_ga (by decide) e653), a13⟩ (fun hS4 => ?_)
  refine w_aload_n rfl (w_s1 (w_s1 (w_s1 rfl rfl (by decide)) rfl (by decide)) rfl (by decide)) (w_iload_n rfl (w_s1 (w_s1 p_lk_s1 rfl (by decide)) rfl (by decide)) (w_iload_n rfl p_lk_s1 (w_virtual (dc := dd + 12) (M' := m_X12_body) rfl (g_vir (n := 3) rfl rfl (by simp [p_cat, p_bd, Value.category]) rfl rfl (a_ga (by decide) e643) rfl) rfl rfl (Nat.le_refl _) (r_body2 (dd := dd) hS4 (r := s) hn (by decide) ht hx.2 (by omega) (by omega) (by omega) hs) ?_)))
  rintro v h5 ⟨rfl, w5, hS5, hB5⟩
  refine w_istore rfl (by decide) (w_iload rfl p_lk_s1 ?_)
  have h100 : s.1 < 100000 := by rw [← hs]; exact Nat.lt_trans t_P_100 (by decide)
  by_cases e0 : s.1 = 0
  · rw [if_neg (fun q => q e0), e0]
    have hS6 := hS5
    have hB6 := hB5 e0
    obtain ⟨fs5, tv5, tp5, pv5, cv5, y175, y185, y195, y205, av5, y15, e645, fl5, f25, f35, f45, ⟨f85, ⟨t5, f95, t2565, tR5⟩, ⟨x105, f105, f10'5⟩, ⟨z115, f115, f11'5⟩, a75, f75, a7n5, a7e5⟩, f125, f135, f145, f155, f165, f175, f185, f195, f205, f215, e675, tl5, tm5, e685, hb5, e695, pl5, e705, cl5, f05, e655, a15⟩ := hS5
    refine w_ifc_t rfl (t := 109) rfl (by decide) (w_aload_n rfl (w_s1 (w_s1 (w_s1 (w_s1 rfl rfl (by decide)) rfl (by decide)) rfl (by decide)) rfl (by decide)) (w_getf rfl rfl e645 f25 (w_aload_n rfl (w_s1 (w_s1 (w_s1 (w_s1 rfl rfl (by decide)) rfl (by decide)) rfl (by decide)) rfl (by decide)) (w_getf rfl rfl e645 f125 (w_dup2 rfl (w_ld rfl e675 (by omega) tm5 (w_ic 1 rfl rfl (w_addN rfl (w_st rfl e675 (by omega) (by omega) (w_aload_n rfl (w_s1 (w_s1 (w_s1 (w_s1 rfl rfl (by decide)) rfl (by decide)) rfl (by decide)) rfl (by decide)) (w_getf rfl rfl (a_ga (by decide) e645) f95 (w_bp 59 rfl rfl ?_))))))))))))
    refine w_use (X := fun h => r_S0 h b n (s.2) w5 2 t0 ((m + 1)) ((on + 2 ^ 2))) ⟨_, _, _, _, _, _, _, _, _, _, _, (a_ga (by decide) e645), (by first | exact fl5 | (simp only [List.length_set]; exact fl5)), f25, f35, f45, ⟨f85, ⟨t5, f95, t2565, tR5⟩, ⟨_, f105, f10'5⟩, ⟨_, f115, f11'5⟩, a75, f75, a7n5, a7e5⟩, f125, f135, f145, f155, f165, f175, f185, f195, f205, f215, (a_gs e675), (by first | exact tl5 | (simp only [List.length_set]; exact tl5)), (List.getElem?_set_self (by omega)), (a_ga (by decide) e685), hb5, (a_ga (by decide) e695), (by first | exact pl5 | (simp only [List.length_set]; exact pl5)), (a_ga (by decide) e705), (by first | exact cl5 | (simp only [List.length_set]; exact cl5)), f05, (a_ga (by decide) e655), a15⟩ (fun hS7 => ?_)
    by_cases q59 : t_is b n s.2 59 = true
    · rw [if_pos q59]
      have et : t5 = 59 := (tR5.2.2.2 59 (by omega)).mpr (t_is_iff.mp q59)
      have hy := t_x_lt (b := b) (t_is_lt q59)
      refine w_icmp_t rfl (t := 133) rfl (by rw [et]; decide) (w_aload_n rfl (w_s1 (w_s1 (w_s1 (w_s1 rfl rfl (by decide)) rfl (by decide)) rfl (by decide)) rfl (by decide)) (w_virtual (dc := dd + 12) (M' := m_X12_nextToken) rfl (g_vir (n := 1) rfl rfl (by simp [p_cat, p_bd, Value.category]) rfl rfl (a_ga (by decide) e645) rfl) rfl rfl (Nat.le_refl _) ((r_next0 (dd := dd) hS7 hn (t_nb2 q59 (by decide) (by decide))).mono (by omega) (fun _ _ q => q)) ?_))
      rintro v h8 ⟨rfl, hS8⟩
      exact w_ic 0 rfl rfl (w_ireturn rfl rfl ⟨rfl, w5, 2, m + 1, (on + 2 ^ 2), hS8, fun _ => ⟨by show _ ≤ t_x b n s.2 + 3; omega, by show p < t_x b n s.2; omega, hy.2, rfl, hm24, by omega, by first | rw [hcw, if_pos (by decide : 2 < 3)] | rw [if_pos (by decide : 2 < 3)]⟩⟩)
    · rw [if_neg q59]
      have et : ¬ t5 = 59 := fun e => q59 (t_is_iff.mpr ((tR5.2.2.2 59 (by omega)).mp e))
      exact w_icmp_f rfl (t := 133) rfl (by simp only [p_cd, decide_eq_false_iff_not]; exact b_ofNat_ne (by omega) (by omega) et) (w_ic 1 rfl rfl (w_ireturn rfl rfl ⟨rfl, w5, 2, m + 1, (on + 2 ^ 2), hS7, fun e => absurd e (by first | decide | simp)⟩))
  · rw [if_pos e0]
    exact w_ifc_f rfl (t := 109) rfl (by simp only [p_cd, decide_eq_false_iff_not]; exact b_ofNat_ne (b := 0) h100 (by omega) e0) (w_iload rfl p_lk_s1 (w_ireturn rfl rfl ⟨rfl, w5, 2, m, (on + 2 ^ 2), hS5, fun e => absurd e e0⟩))
end RS12

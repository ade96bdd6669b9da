/-! THE CLASS READS A CLAUSE, further -/
section RS13
variable {h : p_H} {dd n p u m : Nat} {la : Int32} {sv : Bool} {ml se ro fa pl : Value} {b : Nat → Nat}
set_option maxRecDepth 100000 in
theorem c_cl7 (hS : c_S h b n p u m la false ml se ro fa pl) (hn : n ≤ 300) (hp : p ≤ n) (hm : m ≤ 24) {x y z : Bool} (hx : c_nv ml x) (hy : c_nv se y) (hz : c_nv ro z) (hcw : t_cw b n p = 7) : p_wp p_GT p_MT (dd + 40) m_X3_readClause 0 (lv_args 0 [.ref 43]) [] h (fun v h2 => v = some (.int (l_b (Nat.beq (t_cl b n m (c_b3 x y z) p).1 0))) ∧ ((t_cl b n m (c_b3 x y z) p).1 = 0 → ∃ (u2 : Nat) (la2 : Int32) (ml2 se2 ro2 : Value) (x2 y2 z2 : Bool), c_S h2 b n (t_cl b n m (c_b3 x y z) p).2 u2 (m + 1) la2 false ml2 se2 ro2 fa pl ∧ c_nv ml2 x2 ∧ c_nv se2 y2 ∧ c_nv ro2 z2 ∧ c_b3 x2 y2 z2 = (if t_cw b n p < 3 then c_b3 x y z + 2 ^ t_cw b n p else c_b3 x y z) ∧ p < (t_cl b n m (c_b3 x y z) p).2 ∧ (t_cl b n m (c_b3 x y z) p).2 ≤ n ∧ m < 24) ∧ ((t_cl b n m (c_b3 x y z) p).1 ≠ 0 → ∃ (u2 m2 : Nat) (la2 : Int32) (sv2 : Bool) (ml2 se2 ro2 : Value), c_S h2 b n (t_cl b n m (c_b3 x y z) p).2 u2 m2 la2 sv2 ml2 se2 ro2 (.int (Int32.ofNat (t_cl b n m (c_b3 x y z) p).1)) (.int (Int32.ofNat (t_cl b n m (c_b3 x y z) p).2)))) := by
  have hS' := hS
  obtain ⟨fs, tp, rw, cw, pa, e43, fl, f0, f1, f2, f3, ⟨f4, f5, f6, v7, f7, t1, t2, t3⟩, f8, f9, f10, f11, f12, f13, f14, f15, f16, f17, e44, hb, e1, e45, rl, hrI, e46, cl, hI⟩ := hS
  have hbb : ∀ k, k < n → b k < 256 := fun k hk => (hb k (by omega)).2
  have ecl : t_cl b n m (c_b3 x y z) p = (if m = 24 then (6, p) else (if (t_D b n [(0, 0, 63)] (t_x b n p)).1 ≠ 0 then t_D b n [(0, 0, 63)] (t_x b n p) else if t_is b n (t_D b n [(0, 0, 63)] (t_x b n p)).2 59 = true then (0, t_x b n (t_D b n [(0, 0, 63)] (t_x b n p)).2) else (1, (t_D b n [(0, 0, 63)] (t_x b n p)).2))) := by rw [t_cl_w hcw, if_neg (by decide : ¬ 7 = 10), if_neg (fun e => absurd e.1 (by decide)), show t_cs b n 7 p = t_D b n [(0, 0, 63)] (t_x b n p) from if_neg (by decide)]
  generalize hs : t_D b n [(0, 0, 63)] (t_x b n p) = s at ecl
  obtain ⟨-, k1, ev⟩ := (c_cw_v hp hbb t1).resolve_left (fun e => by rw [hcw] at e; exact absurd e.1 (by decide))
  rw [hcw] at ev
  subst ev
  rw [ecl, hcw]
  refine w_aload_n rfl rfl (w_getf rfl rfl e43 f7 (w_istore_n rfl (by decide) (w_aload_n rfl (w_s1 rfl rfl (by decide)) (w_getf rfl rfl e43 f6 (w_ic 1 rfl rfl (w_icmp_f rfl (t := 23) rfl (by rw [k1]; decide) (w_iload_n rfl p_lk_s1 (w_ic 0 rfl rfl (w_bp 9 rfl rfl (w_static (nn := 0) (dc := dd + 39) (M' := m_X11_within) rfl rfl rfl rfl (Nat.le_refl _) b_within ?_))))))))))
  rintro v h2 ⟨rfl, rfl⟩
  rw [if_pos (by decide)]
  refine w_ifc_t rfl (t := 29) rfl (by decide) (w_iload_n rfl p_lk_s1 (w_ifc_t rfl (t := 40) rfl (by decide) (w_iload_n rfl p_lk_s1 (w_ic 1 rfl rfl (w_icmp_t rfl (t := 52) rfl (by decide) (w_iload_n rfl p_lk_s1 (w_ic 2 rfl rfl (w_icmp_t rfl (t := 70) rfl (by decide) (w_aload_n rfl (w_s1 rfl rfl (by decide)) (w_getf rfl rfl e43 f9 (w_bp 24 rfl rfl ?_)))))))))))
  by_cases q24 : m = 24
  · rw [if_pos q24]
    refine w_icmp_f rfl (t := 86) rfl (by rw [q24]; decide) (w_aload_n rfl (w_s1 rfl rfl (by decide)) (w_bp 6 rfl rfl (w_virtual (dc := dd + 39) (M' := m_X3_wrong) rfl (g_vir (n := 2) rfl rfl (by simp [p_cat, p_bd, Value.category]) rfl rfl e43 rfl) rfl rfl (Nat.le_refl _) (c_wrong (f := Int32.ofNat 6) hS') ?_)))
    rintro v h3 ⟨rfl, hS3⟩
    exact w_ireturnb rfl rfl rfl ⟨rfl, fun e => absurd e (by first | decide | simp), fun _ => ⟨_, _, _, _, _, _, _, hS3⟩⟩
  · rw [if_neg q24]
    refine w_icmp_t rfl (t := 86) rfl (by simp only [p_cd, decide_eq_true_eq]; rw [Int32.lt_iff_toInt_lt, g_ofNat (by omega), g_ofNat (by omega)]; omega) (w_aload_n rfl (w_s1 rfl rfl (by decide)) (w_dup rfl rfl (w_getf rfl rfl e43 f9 (w_ic 1 rfl rfl (w_addN rfl (w_putf rfl rfl e43 rfl rfl (w_flt f9) (w_aload_n rfl (w_s1 rfl rfl (by decide)) (w_ic 0 rfl rfl (w_putf rfl rfl (a_gs e43) rfl rfl (w_flt (w_fne f10 (by decide))) ?_)))))))))
    refine w_use (X := fun h => c_S h b n p u ((m + 1)) la false ml se ro fa pl) ⟨_, _, _, _, _, (a_gs (a_gs e43)), (by first | exact fl | (simp only [List.length_set]; exact fl)), (w_fne (w_fne f0 (by decide)) (by decide)), (w_fne (w_fne f1 (by decide)) (by decide)), (w_fne (w_fne f2 (by decide)) (by decide)), (w_fne (w_fne f3 (by decide)) (by decide)), ⟨(w_fne (w_fne f4 (by decide)) (by decide)), (w_fne (w_fne f5 (by decide)) (by decide)), (w_fne (w_fne f6 (by decide)) (by decide)), _, (w_fne (w_fne f7 (by decide)) (by decide)), t1, t2, t3⟩, (w_fne (w_fne f8 (by decide)) (by decide)), (w_fne (w_fat f9) (by decide)), (w_fat (w_fne f10 (by decide))), (w_fne (w_fne f11 (by decide)) (by decide)), (w_fne (w_fne f12 (by decide)) (by decide)), (w_fne (w_fne f13 (by decide)) (by decide)), (w_fne (w_fne f14 (by decide)) (by decide)), (w_fne (w_fne f15 (by decide)) (by decide)), (w_fne (w_fne f16 (by decide)) (by decide)), (w_fne (w_fne f17 (by decide)) (by decide)), (a_ga (by decide) (a_ga (by decide) e44)), hb, (a_ga (by decide) (a_ga (by decide) e1)), (a_ga (by decide) (a_ga (by decide) e45)), (by first | exact rl | (simp only [List.length_set]; exact rl)), hrI, (a_ga (by decide) (a_ga (by decide) e46)), (by first | exact cl | (simp only [List.length_set]; exact cl)), hI⟩ (fun hS5 => ?_)
    have hpn : p < n := t_k_lt (by rw [k1]; decide)
    have hx1 := t_x_lt (b := b) hpn
    refine w_aload_n rfl (w_s1 rfl rfl (by decide)) (w_iload_n rfl p_lk_s1 (w_virtual (dc := dd + 39) (M' := m_X3_addPart) rfl (g_vir (n := 2) rfl rfl (by simp [p_cat, p_bd, Value.category]) rfl rfl (a_gs (a_gs e43)) rfl) rfl rfl (Nat.le_refl _) ((c_addPart (dd := dd) hS5).mono (by omega) (fun _ _ q => q)) ?_))
    rintro v h6 ⟨rfl, hS6⟩
    have hS6' := hS6
    obtain ⟨fs6, tp6, rw6, cw6, pa6, e436, fl6, f06, f16, f26, f36, ⟨f46, f56, f66, v76, f76, t16, t26, t36⟩, f86, f96, f106, f116, f126, f136, f146, f156, f166, f176, e446, hb6, e16, e456, rl6, hrI6, e466, cl6, hI6⟩ := hS6'
    refine w_aload_n rfl (w_s1 rfl rfl (by decide)) (w_virtual (dc := dd + 39) (M' := m_X3_step) rfl (g_vir (n := 1) rfl rfl (by simp [p_cat, p_bd, Value.category]) rfl rfl e436 rfl) rfl rfl (Nat.le_refl _) ((c_next (dd := dd) hS6 hn hp).mono (by omega) (fun _ _ q => q)) ?_)
    rintro v h7 ⟨rfl, hS7⟩
    have hS7' := hS7
    obtain ⟨fs7, tp7, rw7, cw7, pa7, e437, fl7, f07, f17, f27, f37, ⟨f47, f57, f67, v77, f77, t17, t27, t37⟩, f87, f97, f107, f117, f127, f137, f147, f157, f167, f177, e447, hb7, e17, e457, rl7, hrI7, e467, cl7, hI7⟩ := hS7'
    refine w_iload_n rfl p_lk_s1 (w_ic 2 rfl rfl (w_icmp_t rfl (t := 126) rfl (by decide) (w_aload_n rfl (w_s1 rfl rfl (by decide)) (w_iload_n rfl p_lk_s1 (w_virtual (dc := dd + 39) (M' := m_X3_readDeed) rfl (g_vir (n := 2) rfl rfl (by simp [p_cat, p_bd, Value.category]) rfl rfl e437 rfl) rfl rfl (Nat.le_refl _) ((c_deed7 (dd := dd) hS7 hn hx1.2).mono (by omega) (fun _ _ q => q)) ?_)))))
    rintro v h8 ⟨rfl, hY⟩
    have hle := t_D_le (b := b) (n := n) [(0, 0, 63)] (t_x b n p) hx1.2
    rw [hs] at hY hle ⊢
    by_cases e0 : s.1 = 0
    · rw [if_neg (fun q => q e0), e0]
      have hS8 := hY.1 e0
      have hB8 : p < s.2 ∧ s.2 ≤ n := by omega
      have hS8' := hS8
      obtain ⟨fs8, tp8, rw8, cw8, pa8, e438, fl8, f08, f18, f28, f38, ⟨f48, f58, f68, v78, f78, t18, t28, t38⟩, f88, f98, f108, f118, f128, f138, f148, f158, f168, f178, e448, hb8, e18, e458, rl8, hrI8, e468, cl8, hI8⟩ := hS8'
      refine w_ifc_f rfl (t := 147) rfl (by decide) (w_aload_n rfl (w_s1 rfl rfl (by decide)) (w_bp 59 rfl rfl (w_virtual (dc := dd + 39) (M' := m_X3_takeSign) rfl (g_vir (n := 2) rfl rfl (by simp [p_cat, p_bd, Value.category]) rfl rfl e438 rfl) rfl rfl (Nat.le_refl _) ((c_takeS (dd := dd) (c := 59) hS8 (by decide) hn hB8.2).mono (by omega) (fun _ _ q => q)) ?_)))
      rintro v h9 (⟨h59, rfl, hS9⟩ | ⟨h59, rfl, hS9⟩)
      · rw [if_pos h59]
        have hy1 := t_x_lt (b := b) (t_is_lt h59)
        exact w_ifc_f rfl (t := 147) rfl (by decide) (w_iconst rfl (w_goto rfl (t := 148) rfl (w_ireturnb rfl rfl rfl ⟨rfl, fun _ => ⟨_, _, ml, se, ro, x, y, z, hS9, hx, hy, hz, by rw [if_neg (by decide : ¬ 7 < 3)], by show p < t_x b n s.2; omega, hy1.2, by omega⟩, fun e => absurd rfl e⟩)))
      · rw [if_neg (by rw [h59]; decide)]
        exact w_ifc_t rfl (t := 147) rfl (by decide) (w_iconst rfl (w_ireturnb rfl rfl rfl ⟨rfl, fun e => absurd e (by first | decide | simp), fun _ => ⟨_, _, _, _, _, _, _, hS9⟩⟩))
    · rw [if_pos e0, t_beq0 e0]
      have hS8 := hY.2 e0
      exact w_ifc_t rfl (t := 147) rfl (by decide) (w_iconst rfl (w_ireturnb rfl rfl rfl ⟨rfl, fun e => absurd e e0, fun _ => ⟨_, _, _, _, _, _, _, hS8⟩⟩))
set_option maxRecDepth 100000 in
theorem c_cl8 (hS : c_S h b n p u m la false ml se ro fa pl) (hn : n ≤ 300) (hp : p ≤ n) (hm : m ≤ 24) {x y z : Bool} (hx : c_nv ml x) (hy : c_nv se y) (hz : c_nv ro z) (hcw : t_cw b n p = 8) : p_wp p_GT p_MT (dd + 40) m_X3_readClause 0 (lv_args 0 [.ref 43]) [] h (fun v h2 => v = some (.int (l_b (Nat.beq (t_cl b n m (c_b3 x y z) p).1 0))) ∧ ((t_cl b n m (c_b3 x y z) p).1 = 0 → ∃ (u2 : Nat) (la2 : Int32) (ml2 se2 ro2 : Value) (x2 y2 z2 : Bool), c_S h2 b n (t_cl b n m (c_b3 x y z) p).2 u2 (m + 1) la2 false ml2 se2 ro2 fa pl ∧ c_nv ml2 x2 ∧ c_nv se2 y2 ∧ c_nv ro2 z2 ∧ c_b3 x2 y2 z2 = (if t_cw b n p < 3 then c_b3 x y z + 2 ^ t_cw b n p else c_b3 x y z) ∧ p < (t_cl b n m (c_b3 x y z) p).2 ∧ (t_cl b n m (c_b3 x y z) p).2 ≤ n ∧ m < 24) ∧ ((t_cl b n m (c_b3 x y z) p).1 ≠ 0 → ∃ (u2 m2 : Nat) (la2 : Int32) (sv2 : Bool) (ml2 se2 ro2 : Value), c_S h2 b n (t_cl b n m (c_b3 x y z) p).2 u2 m2 la2 sv2 ml2 se2 ro2 (.int (Int32.ofNat (t_cl b n m (c_b3 x y z) p).1)) (.int (Int32.ofNat (t_cl b n m (c_b3 x y z) p).2)))) := by
  have hS' := hS
  obtain ⟨fs, tp, rw, cw, pa, e43, fl, f0, f1, f2, f3, ⟨f4, f5, f6, v7, f7, t1, t2, t3⟩, f8, f9, f10, f11, f12, f13, f14, f15, f16, f17, e44, hb, e1, e45, rl, hrI, e46, cl, hI⟩ := hS
  have hbb : ∀ k, k < n → b k < 256 := fun k hk => (hb k (by omega)).2
  have ecl : t_cl b n m (c_b3 x y z) p = (if m = 24 then (6, p) else (if (t_D b n [(0, 1, 9), (1, 19, 0), (0, 0, 63)] (t_x b n p)).1 ≠ 0 then t_D b n [(0, 1, 9), (1, 19, 0), (0, 0, 63)] (t_x b n p) else if t_is b n (t_D b n [(0, 1, 9), (1, 19, 0), (0, 0, 63)] (t_x b n p)).2 59 = true then (0, t_x b n (t_D b n [(0, 1, 9), (1, 19, 0), (0, 0, 63)] (t_x b n p)).2) else (1, (t_D b n [(0, 1, 9), (1, 19, 0), (0, 0, 63)] (t_x b n p)).2))) := by rw [t_cl_w hcw, if_neg (by decide : ¬ 8 = 10), if_neg (fun e => absurd e.1 (by decide)), show t_cs b n 8 p = t_D b n [(0, 1, 9), (1, 19, 0), (0, 0, 63)] (t_x b n p) from if_neg (by decide)]
  generalize hs : t_D b n [(0, 1, 9), (1, 19, 0), (0, 0, 63)] (t_x b n p) = s at ecl
  obtain ⟨-, k1, ev⟩ := (c_cw_v hp hbb t1).resolve_left (fun e => by rw [hcw] at e; exact absurd e.1 (by decide))
  rw [hcw] at ev
  subst ev
  rw [ecl, hcw]
  refine w_aload_n rfl rfl (w_getf rfl rfl e43 f7 (w_istore_n rfl (by decide) (w_aload_n rfl (w_s1 rfl rfl (by decide)) (w_getf rfl rfl e43 f6 (w_ic 1 rfl rfl (w_icmp_f rfl (t := 23) rfl (by rw [k1]; decide) (w_iload_n rfl p_lk_s1 (w_ic 0 rfl rfl (w_bp 9 rfl rfl (w_static (nn := 0) (dc := dd + 39) (M' := m_X11_within) rfl rfl rfl rfl (Nat.le_refl _) b_within ?_))))))))))
  rintro v h2 ⟨rfl, rfl⟩
  rw [if_pos (by decide)]
  refine w_ifc_t rfl (t := 29) rfl (by decide) (w_iload_n rfl p_lk_s1 (w_ifc_t rfl (t := 40) rfl (by decide) (w_iload_n rfl p_lk_s1 (w_ic 1 rfl rfl (w_icmp_t rfl (t := 52) rfl (by decide) (w_iload_n rfl p_lk_s1 (w_ic 2 rfl rfl (w_icmp_t rfl (t := 70) rfl (by decide) (w_aload_n rfl (w_s1 rfl rfl (by decide)) (w_getf rfl rfl e43 f9 (w_bp 24 rfl rfl ?_)))))))))))
  by_cases q24 : m = 24
  · rw [if_pos q24]
    refine w_icmp_f rfl (t := 86) rfl (by rw [q24]; decide) (w_aload_n rfl (w_s1 rfl rfl (by decide)) (w_bp 6 rfl rfl (w_virtual (dc := dd + 39) (M' := m_X3_wrong) rfl (g_vir (n := 2) rfl rfl (by simp [p_cat, p_bd, Value.category]) rfl rfl e43 rfl) rfl rfl (Nat.le_refl _) (c_wrong (f := Int32.ofNat 6) hS') ?_)))
    rintro v h3 ⟨rfl, hS3⟩
    exact w_ireturnb rfl rfl rfl ⟨rfl, fun e => absurd e (by first | decide | simp), fun _ => ⟨_, _, _, _, _, _, _, hS3⟩⟩
  · rw [if_neg q24]
    refine w_icmp_t rfl (t := 86) rfl (by simp only [p_cd, decide_eq_true_eq]; rw [Int32.lt_iff_toInt_lt, g_ofNat (by omega), g_ofNat (by omega)]; omega) (w_aload_n rfl (w_s1 rfl rfl (by decide)) (w_dup rfl rfl (w_getf rfl rfl e43 f9 (w_ic 1 rfl rfl (w_addN rfl (w_putf rfl rfl e43 rfl rfl (w_flt f9) (w_aload_n rfl (w_s1 rfl rfl (by decide)) (w_ic 0 rfl rfl (w_putf rfl rfl (a_gs e43) rfl rfl (w_flt (w_fne f10 (by decide))) ?_)))))))))
    refine w_use (X := fun h => c_S h b n p u ((m + 1)) la false ml se ro fa pl) ⟨_, _, _, _, _, (a_gs (a_gs e43)), (by first | exact fl | (simp only [List.length_set]; exact fl)), (w_fne (w_fne f0 (by decide)) (by decide)), (w_fne (w_fne f1 (by decide)) (by decide)), (w_fne (w_fne f2 (by decide)) (by decide)), (w_fne (w_fne f3 (by decide)) (by decide)), ⟨(w_fne (w_fne f4 (by decide)) (by decide)), (w_fne (w_fne f5 (by decide)) (by decide)), (w_fne (w_fne f6 (by decide)) (by decide)), _, (w_fne (w_fne f7 (by decide)) (by decide)), t1, t2, t3⟩, (w_fne (w_fne f8 (by decide)) (by decide)), (w_fne (w_fat f9) (by decide)), (w_fat (w_fne f10 (by decide))), (w_fne (w_fne f11 (by decide)) (by decide)), (w_fne (w_fne f12 (by decide)) (by decide)), (w_fne (w_fne f13 (by decide)) (by decide)), (w_fne (w_fne f14 (by decide)) (by decide)), (w_fne (w_fne f15 (by decide)) (by decide)), (w_fne (w_fne f16 (by decide)) (by decide)), (w_fne (w_fne f17 (by decide)) (by decide)), (a_ga (by decide) (a_ga (by decide) e44)), hb, (a_ga (by decide) (a_ga (by decide) e1)), (a_ga (by decide) (a_ga (by decide) e45)), (by first | exact rl | (simp only [List.length_set]; exact rl)), hrI, (a_ga (by decide) (a_ga (by decide) e46)), (by first | exact cl | (simp only [List.length_set]; exact cl)), hI⟩ (fun hS5 => ?_)
    have hpn : p < n := t_k_lt (by rw [k1]; decide)
    have hx1 := t_x_lt (b := b) hpn
    refine w_aload_n rfl (w_s1 rfl rfl (by decide)) (w_iload_n rfl p_lk_s1 (w_virtual (dc := dd + 39) (M' := m_X3_addPart) rfl (g_vir (n := 2) rfl rfl (by simp [p_cat, p_bd, Value.category]) rfl rfl (a_gs (a_gs e43)) rfl) rfl rfl (Nat.le_refl _) ((c_addPart (dd := dd) hS5).mono (by omega) (fun _ _ q => q)) ?_))
    rintro v h6 ⟨rfl, hS6⟩
    have hS6' := hS6
    obtain ⟨fs6, tp6, rw6, cw6, pa6, e436, fl6, f06, f16, f26, f36, ⟨f46, f56, f66, v76, f76, t16, t26, t36⟩, f86, f96, f106, f116, f126, f136, f146, f156, f166, f176, e446, hb6, e16, e456, rl6, hrI6, e466, cl6, hI6⟩ := hS6'
    refine w_aload_n rfl (w_s1 rfl rfl (by decide)) (w_virtual (dc := dd + 39) (M' := m_X3_step) rfl (g_vir (n := 1) rfl rfl (by simp [p_cat, p_bd, Value.category]) rfl rfl e436 rfl) rfl rfl (Nat.le_refl _) ((c_next (dd := dd) hS6 hn hp).mono (by omega) (fun _ _ q => q)) ?_)
    rintro v h7 ⟨rfl, hS7⟩
    have hS7' := hS7
    obtain ⟨fs7, tp7, rw7, cw7, pa7, e437, fl7, f07, f17, f27, f37, ⟨f47, f57, f67, v77, f77, t17, t27, t37⟩, f87, f97, f107, f117, f127, f137, f147, f157, f167, f177, e447, hb7, e17, e457, rl7, hrI7, e467, cl7, hI7⟩ := hS7'
    refine w_iload_n rfl p_lk_s1 (w_ic 2 rfl rfl (w_icmp_t rfl (t := 126) rfl (by decide) (w_aload_n rfl (w_s1 rfl rfl (by decide)) (w_iload_n rfl p_lk_s1 (w_virtual (dc := dd + 39) (M' := m_X3_readDeed) rfl (g_vir (n := 2) rfl rfl (by simp [p_cat, p_bd, Value.category]) rfl rfl e437 rfl) rfl rfl (Nat.le_refl _) ((c_deed8 (dd := dd) hS7 hn hx1.2).mono (by omega) (fun _ _ q => q)) ?_)))))
    rintro v h8 ⟨rfl, hY⟩
    have hle := t_D_le (b := b) (n := n) [(0, 1, 9), (1, 19, 0), (0, 0, 63)] (t_x b n p) hx1.2
    rw [hs] at hY hle ⊢
    by_cases e0 : s.1 = 0
    · rw [if_neg (fun q => q e0), e0]
      have hS8 := hY.1 e0
      have hB8 : p < s.2 ∧ s.2 ≤ n := by omega
      have hS8' := hS8
      obtain ⟨fs8, tp8, rw8, cw8, pa8, e438, fl8, f08, f18, f28, f38, ⟨f48, f58, f68, v78, f78, t18, t28, t38⟩, f88, f98, f108, f118, f128, f138, f148, f158, f168, f178, e448, hb8, e18, e458, rl8, hrI8, e468, cl8, hI8⟩ := hS8'
      refine w_ifc_f rfl (t := 147) rfl (by decide) (w_aload_n rfl (w_s1 rfl rfl (by decide)) (w_bp 59 rfl rfl (w_virtual (dc := dd + 39) (M' := m_X3_takeSign) rfl (g_vir (n := 2) rfl rfl (by simp [p_cat, p_bd, Value.category]) rfl rfl e438 rfl) rfl rfl (Nat.le_refl _) ((c_takeS (dd := dd) (c := 59) hS8 (by decide) hn hB8.2).mono (by omega) (fun _ _ q => q)) ?_)))
      rintro v h9 (⟨h59, rfl, hS9⟩ | ⟨h59, rfl, hS9⟩)
      · rw [if_pos h59]
        have hy1 := t_x_lt (b := b) (t_is_lt h59)
        exact w_ifc_f rfl (t := 147) rfl (by decide) (w_iconst rfl (w_goto rfl (t := 148) rfl (w_ireturnb rfl rfl rfl ⟨rfl, fun _ => ⟨_, _, ml, se, ro, x, y, z, hS9, hx, hy, hz, by rw [if_neg (by decide : ¬ 8 < 3)], by show p < t_x b n s.2; omega, hy1.2, by omega⟩, fun e => absurd rfl e⟩)))
      · rw [if_neg (by rw [h59]; decide)]
        exact w_ifc_t rfl (t := 147) rfl (by decide) (w_iconst rfl (w_ireturnb rfl rfl rfl ⟨rfl, fun e => absurd e (by first | decide | simp), fun _ => ⟨_, _, _, _, _, _, _, hS9⟩⟩))
    · rw [if_pos e0, t_beq0 e0]
      have hS8 := hY.2 e0
      exact w_ifc_t rfl (t := 147) rfl (by decide) (w_iconst rfl (w_ireturnb rfl rfl rfl ⟨rfl, fun e => absurd e e0, fun _ => ⟨_, _, _, _, _, _, _, hS8⟩⟩))
end RS13

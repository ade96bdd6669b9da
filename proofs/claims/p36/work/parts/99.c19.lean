/-! THE REFERENCE READS A TEXT -/
/-- what is known of the reference ahead of text -/
def r_Z (h : p_H) (b : Nat → Nat) (n c : Nat) : Prop := ∃ (fs tv tp pv cv av : List Value) (so : Nat) (x10 y17 y18 y19 y20 : Int32) (z11 : Int64), h[64]? = some (0, 12, fs) ∧ fs.length = 31 ∧ fs[0]? = some (.ref 65) ∧ fs[2]? = some (.ref 67) ∧ fs[3]? = some (.ref 68) ∧ fs[4]? = some (.int (Int32.ofNat n)) ∧ fs[10]? = some (.int x10) ∧ fs[11]? = some (.long z11) ∧ fs[14]? = some (.int (Int32.ofNat so)) ∧ fs[15]? = some (.ref 69) ∧ fs[16]? = some (.ref 70) ∧ fs[17]? = some (.int y17) ∧ fs[18]? = some (.int y18) ∧ fs[19]? = some (.int y19) ∧ fs[20]? = some (.int y20) ∧ h[65]? = some (1, 0, av) ∧ av[1]? = some (.int (Int32.ofNat c)) ∧ h[67]? = some (1, 0, tv) ∧ tv.length = 3108 ∧ h[68]? = some (1, 0, tp) ∧ t_B tp b ∧ h[69]? = some (1, 0, pv) ∧ pv.length = 160 ∧ h[70]? = some (1, 0, cv) ∧ cv.length = 9
section RS15
variable {dd n c : Nat} {b : Nat → Nat}
set_option maxRecDepth 100000 in
theorem r_readText {h : p_H} {r : Nat × Nat} (hZ : r_Z h b n c) (hc : c < 4) (hn : n ≤ 300) (hr : t_text b n = r) : p_wp p_GT p_MT (dd + 14) m_X12_readText 0 (lv_args 0 [.ref 64]) [] h (fun v h2 => v = some (.int (Int32.ofNat r.1)) ∧ ∃ w2 so2 t2 m2 on2 : Nat, r_S0 h2 b n r.2 w2 so2 t2 m2 on2) := by
  obtain ⟨fs, tv, tp, pv, cv, av, so, x10, y17, y18, y19, y20, z11, e64, fl, f0, f2, f3, f4, f10, f11, f14, f15, f16, f17, f18, f19, f20, e65, a1, e67, tl, e68, hb, e69, pl, e70, cl⟩ := hZ
  obtain ⟨x5, f5⟩ := c_pl (j := 5) fl (by decide)
  obtain ⟨x6, f6⟩ := c_pl (j := 6) fl (by decide)
  obtain ⟨x7, f7⟩ := c_pl (j := 7) fl (by decide)
  obtain ⟨x8, f8⟩ := c_pl (j := 8) fl (by decide)
  obtain ⟨x9, f9⟩ := c_pl (j := 9) fl (by decide)
  obtain ⟨x12, f12⟩ := c_pl (j := 12) fl (by decide)
  obtain ⟨x13, f13⟩ := c_pl (j := 13) fl (by decide)
  obtain ⟨x21, f21⟩ := c_pl (j := 21) fl (by decide)
  refine w_aload_n rfl rfl (w_sp 777 rfl rfl (w_aload_n rfl rfl (w_getf rfl rfl e64 f0 (w_ic 1 rfl rfl (w_ld rfl e65 (by omega) a1 (w_mulN rfl (w_putf rfl rfl e64 rfl rfl (w_flt f12) (w_aload_n rfl rfl (w_getf rfl rfl (a_gs e64) (w_fne f2 (by decide)) (w_aload_n rfl rfl (w_getf rfl rfl (a_gs e64) (w_fat f12) (w_ic 0 rfl rfl (w_st rfl (a_ga (by decide) e67) (by omega) (by omega) (w_aload_n rfl rfl (w_ic 0 rfl rfl (w_putf rfl rfl (a_ga (by decide) (a_gs e64)) rfl rfl (w_flt (w_fne f13 (by decide))) (w_aload_n rfl rfl (w_ic 0 rfl rfl (w_putf rfl rfl (a_gs (a_ga (by decide) (a_gs e64))) rfl rfl (w_flt (w_fne (w_fne f21 (by decide)) (by decide))) (w_aload_n rfl rfl (w_ic 0 rfl rfl (w_putf rfl rfl (a_gs (a_gs (a_ga (by decide) (a_gs e64)))) rfl rfl (w_flt (w_fne (w_fne (w_fne f7 (by decide)) (by decide)) (by decide))) (w_aload_n rfl rfl (w_virtual (dc := dd + 13) (M' := m_X12_nextToken) rfl (g_vir (n := 1) rfl rfl (by simp [p_cat, p_bd, Value.category]) rfl rfl (a_gs (a_gs (a_gs (a_ga (by decide) (a_gs e64))))) rfl) rfl rfl (Nat.le_refl _) ((r_next (d := dd) (q0 := 0) (a_gs (a_gs (a_gs (a_ga (by decide) (a_gs e64))))) (a_ga (by decide) (a_ga (by decide) (a_ga (by decide) (a_ga (by decide) (a_ga (by decide) e68))))) hb hn (w_fne (w_fne (w_fne (w_fne f3 (by decide)) (by decide)) (by decide)) (by decide)) (w_fne (w_fne (w_fne (w_fne f4 (by decide)) (by decide)) (by decide)) (by decide)) (w_fat (w_fne (w_fne (w_fne f7 (by decide)) (by decide)) (by decide))) (Nat.zero_le _) (w_fne (w_fne (w_fne (w_fne f8 (by decide)) (by decide)) (by decide)) (by decide)) (w_fne (w_fne (w_fne (w_fne f9 (by decide)) (by decide)) (by decide)) (by decide)) (w_fne (w_fne (w_fne (w_fne f10 (by decide)) (by decide)) (by decide)) (by decide)) (w_fne (w_fne (w_fne (w_fne f11 (by decide)) (by decide)) (by decide)) (by decide))).mono (by omega) (fun _ _ q => q)) ?_))))))))))))))))))))))))
  rintro v h2 ⟨rfl, gs, rfl, K, hT⟩
  have hl : gs.length = 31 := by
    have k1 := K 30 (by omega)
    have k2 := K 31 (by omega)
    rw [List.getElem?_eq_none (by simp only [List.length_set]; omega)] at k2
    rw [List.getElem?_eq_getElem (show 30 < _ by simp only [List.length_set]; omega)] at k1
    have q1 := (List.getElem?_eq_some_iff.mp k1).1
    have q2 := List.getElem?_eq_none_iff.mp k2
    omega
  refine r_textl (dd := dd) (t0 := 777 * c) hn (by omega) 26 0 0 (t_sk b n 0) 0 so _ _ r hr (by decide) (t_sk_le (Nat.zero_le n)).2 (Nat.zero_le _) (Nat.zero_le _) (by decide) ⟨gs, _, tp, pv, cv, y17, y18, y19, y20, av, _, a_gs (a_gs (a_gs (a_gs (a_ga (by decide) (a_gs e64))))), hl, ((K 2 (by omega)).trans (w_fne (w_fne (w_fne (w_fne f2 (by decide)) (by decide)) (by decide)) (by decide))), ((K 3 (by omega)).trans (w_fne (w_fne (w_fne (w_fne f3 (by decide)) (by decide)) (by decide)) (by decide))), ((K 4 (by omega)).trans (w_fne (w_fne (w_fne (w_fne f4 (by decide)) (by decide)) (by decide)) (by decide))), hT, ((K 12 (by omega)).trans (w_fne (w_fne (w_fne (w_fat f12) (by decide)) (by decide)) (by decide))), ((K 13 (by omega)).trans (w_fne (w_fne (w_fat (w_fne f13 (by decide))) (by decide)) (by decide))), ((K 14 (by omega)).trans (w_fne (w_fne (w_fne (w_fne f14 (by decide)) (by decide)) (by decide)) (by decide))), ((K 15 (by omega)).trans (w_fne (w_fne (w_fne (w_fne f15 (by decide)) (by decide)) (by decide)) (by decide))), ((K 16 (by omega)).trans (w_fne (w_fne (w_fne (w_fne f16 (by decide)) (by decide)) (by decide)) (by decide))), ((K 17 (by omega)).trans (w_fne (w_fne (w_fne (w_fne f17 (by decide)) (by decide)) (by decide)) (by decide))), ((K 18 (by omega)).trans (w_fne (w_fne (w_fne (w_fne f18 (by decide)) (by decide)) (by decide)) (by decide))), ((K 19 (by omega)).trans (w_fne (w_fne (w_fne (w_fne f19 (by decide)) (by decide)) (by decide)) (by decide))), ((K 20 (by omega)).trans (w_fne (w_fne (w_fne (w_fne f20 (by decide)) (by decide)) (by decide)) (by decide))), ((K 21 (by omega)).trans (w_fne (w_fat (w_fne (w_fne f21 (by decide)) (by decide))) (by decide))), a_ga (by decide) (a_ga (by decide) (a_ga (by decide) (a_ga (by decide) (a_gs (a_ga (by decide) e67))))), (by simp only [List.length_set]; exact tl), (List.getElem?_set_self (by omega)), a_ga (by decide) (a_ga (by decide) (a_ga (by decide) (a_ga (by decide) (a_ga (by decide) (a_ga (by decide) e68))))), hb, a_ga (by decide) (a_ga (by decide) (a_ga (by decide) (a_ga (by decide) (a_ga (by decide) (a_ga (by decide) e69))))), pl, a_ga (by decide) (a_ga (by decide) (a_ga (by decide) (a_ga (by decide) (a_ga (by decide) (a_ga (by decide) e70))))), cl, ((K 0 (by omega)).trans (w_fne (w_fne (w_fne (w_fne f0 (by decide)) (by decide)) (by decide)) (by decide))), a_ga (by decide) (a_ga (by decide) (a_ga (by decide) (a_ga (by decide) (a_ga (by decide) (a_ga (by decide) e65))))), a1⟩ rfl ?_
  rintro h5 ⟨w2, so2, m2, on2, hS5⟩
  exact ⟨rfl, w2, so2, _, m2, on2, hS5⟩
set_option maxRecDepth 100000 in
theorem r_text {h : p_H} {r : Nat × Nat} (hZ : r_Z h b n c) (hc : c < 4) (hn : n ≤ 300) (hr : t_text b n = r) (h100 : r.1 < 100000) : p_wp p_GT p_MT (dd + 15) m_X12_text 0 (lv_args 0 [.ref 64]) [] h (fun v h2 => ∃ fs2 : List Value, h2[64]? = some (0, 12, fs2) ∧ fs2[4]? = some (.int (Int32.ofNat 0)) ∧ fs2[5]? = some (.int (Int32.ofNat r.1)) ∧ fs2[6]? = some (.int (if r.1 = 0 then Int32.ofInt (-1) else Int32.ofNat r.2)) ∧ (r.1 ≠ 0 → v = some (.int (Int32.ofInt (-1))))) := by
  have hZ' := hZ
  obtain ⟨fs, tv, tp, pv, cv, av, so, x10, y17, y18, y19, y20, z11, e64, fl, f0, f2, f3, f4, f10, f11, f14, f15, f16, f17, f18, f19, f20, e65, a1, e67, tl, e68, hb, e69, pl, e70, cl⟩ := hZ
  obtain ⟨x5, f5⟩ := c_pl (j := 5) fl (by decide)
  obtain ⟨x6, f6⟩ := c_pl (j := 6) fl (by decide)
  refine w_aload_n rfl rfl (w_getf rfl rfl e64 f0 (w_ic 1 rfl rfl (w_ld rfl e65 (by omega) a1 (w_ic 4 rfl rfl (w_icmp_t rfl (t := 12) rfl (by simp only [p_cd, decide_eq_true_eq]; exact b_ofNat_ne (by omega) (by omega) (by omega)) (w_aload_n rfl rfl (w_aload_n rfl rfl (w_virtual (dc := dd + 14) (M' := m_X12_readText) rfl (g_vir (n := 1) rfl rfl (by simp [p_cat, p_bd, Value.category]) rfl rfl e64 rfl) rfl rfl (Nat.le_refl _) (r_readText (dd := dd) hZ' hc hn hr) ?_))))))))
  rintro v h2 ⟨rfl, w2, so2, t2, m2, on2, hS2⟩
  obtain ⟨fs2, tv2, tp2, pv2, cv2, y172, y182, y192, y202, av2, y12, e642, fl2, f22, f32, f42, ⟨f82, ⟨t2, f92, t2562, tR2⟩, ⟨x102, f102, f10'2⟩, ⟨z112, f112, f11'2⟩, a72, f72, a7n2, a7e2⟩, f122, f132, f142, f152, f162, f172, f182, f192, f202, f212, e672, tl2, tm2, e682, hb2, e692, pl2, e702, cl2, f02, e652, a12⟩ := hS2
  obtain ⟨x52, f52⟩ := c_pl (j := 5) fl2 (by decide)
  obtain ⟨x62, f62⟩ := c_pl (j := 6) fl2 (by decide)
  refine w_putf rfl rfl e642 rfl rfl (w_flt f52) (w_aload_n rfl rfl (w_aload_n rfl rfl (w_getf rfl rfl (a_gs e642) (w_fat f52) ?_)))
  by_cases e0 : r.1 = 0
  · rw [e0]
    exact w_ifc_f rfl (t := 32) rfl (by decide) (w_iconst rfl (w_goto rfl (t := 36) rfl (w_putf rfl rfl (a_gs e642) rfl rfl (w_flt (w_fne f62 (by decide))) (w_aload_n rfl rfl (w_ic 0 rfl rfl (w_putf rfl rfl (a_gs (a_gs e642)) rfl rfl (w_flt (w_fne (w_fne f42 (by decide)) (by decide))) (w_aload_n rfl rfl (w_getf rfl rfl (a_gs (a_gs (a_gs e642))) (w_fne (w_fne (w_fat f52) (by decide)) (by decide)) (w_ifc_t rfl (t := 53) rfl (by decide) (w_aload_n rfl rfl (w_getf rfl rfl (a_gs (a_gs (a_gs e642))) (w_fne (w_fne (w_fne f02 (by decide)) (by decide)) (by decide)) (w_ic 1 rfl rfl (w_dup2 rfl (w_ld rfl (a_ga (by decide) (a_ga (by decide) (a_ga (by decide) e652))) (by omega) a12 (w_ic 1 rfl rfl (w_iadd rfl (w_st rfl (a_ga (by decide) (a_ga (by decide) (a_ga (by decide) e652))) (by omega) (List.getElem?_eq_some_iff.mp a12).1 (w_aload_n rfl rfl (w_getf rfl rfl (a_ga (by decide) (a_gs (a_gs (a_gs e642)))) (w_fne (w_fne (w_fne f02 (by decide)) (by decide)) (by decide)) (w_ic 1 rfl rfl (w_ld rfl (a_gs (a_ga (by decide) (a_ga (by decide) (a_ga (by decide) e652)))) (by omega) (List.getElem?_set_self (List.getElem?_eq_some_iff.mp a12).1) (w_ic 1 rfl rfl (w_isub rfl (w_ireturn rfl rfl ⟨_, (a_ga (by decide) (a_gs (a_gs (a_gs e642)))), (w_fat (w_fne (w_fne f42 (by decide)) (by decide))), (w_fne (w_fne (w_fat f52) (by decide)) (by decide)), by rw [if_pos rfl]; exact (w_fne (w_fat (w_fne f62 (by decide))) (by decide)), fun e => absurd rfl e⟩))))))))))))))))))))))))
  · exact w_ifc_t rfl (t := 32) rfl (by simp only [p_cd, decide_eq_true_eq]; exact b_ofNat_ne (b := 0) h100 (by omega) e0) (w_aload_n rfl rfl (w_getf rfl rfl (a_gs e642) (w_fne f82 (by decide)) (w_putf rfl rfl (a_gs e642) rfl rfl (w_flt (w_fne f62 (by decide))) (w_aload_n rfl rfl (w_ic 0 rfl rfl (w_putf rfl rfl (a_gs (a_gs e642)) rfl rfl (w_flt (w_fne (w_fne f42 (by decide)) (by decide))) (w_aload_n rfl rfl (w_getf rfl rfl (a_gs (a_gs (a_gs e642))) (w_fne (w_fne (w_fat f52) (by decide)) (by decide)) (w_ifc_f rfl (t := 53) rfl (by simp only [p_cd, decide_eq_false_iff_not]; exact b_ofNat_ne (b := 0) h100 (by omega) e0) (w_iconst rfl (w_ireturn rfl rfl ⟨_, (a_gs (a_gs (a_gs e642))), (w_fat (w_fne (w_fne f42 (by decide)) (by decide))), (w_fne (w_fne (w_fat f52) (by decide)) (by decide)), by rw [if_neg e0]; exact (w_fne (w_fat (w_fne f62 (by decide))) (by decide)), fun _ => rfl⟩)))))))))))
theorem t_tx_100 : ∀ f m on p, (t_tx b n f m on p).1 < 100000 := by
  intro f
  induction f with
  | zero => intro m on p; exact (by decide : 99 < 100000)
  | succ f ih =>
    intro m on p
    simp only [t_tx]
    by_cases q0 : t_k b n p = 0
    · rw [if_pos q0]; decide
    · rw [if_neg q0]
      by_cases q1 : (t_cl b n m on p).1 ≠ 0
      · rw [if_pos q1]; exact t_cl_100
      · rw [if_neg q1]; exact ih _ _ _
end RS15

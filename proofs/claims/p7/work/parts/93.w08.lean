/-! THE REFERENCE READS A LAW: ofNth, nextOfNth, behindOne by what stands there -/
section WDP
variable {G : p_G} {MT : List p_M} {M : p_M} {d pc l a : Nat} {ls : p_Ls} {st : List Value} {h : p_H} {x : Int32} {Q : Option Value → p_H → Prop}
theorem w_dup2 (hat : p_at pc M.2.2.2.2.1 = some (.dup2, l)) (hk : p_wp G MT d M (pc + 1) ls (.int x :: .ref a :: .int x :: .ref a :: st) h Q) : p_wp G MT d M pc ls (.int x :: .ref a :: st) h Q :=
  p_wp.step hat (by simp only [p_step]; exact if_pos ⟨rfl, rfl⟩) hk
end WDP
section RS7
variable {h : p_H} {dd n p w so d t0 m on x : Nat} {σ κ : List Nat} {wh : Bool} {b : Nat → Nat}
theorem r_P_len {pv : List Value} : ∀ {σ : List Nat}, r_P pv σ → σ.length ≤ pv.length := by
  intro σ
  induction σ with
  | nil => intro _; exact Nat.zero_le _
  | cons x σ ih =>
    intro hp
    have := (List.getElem?_eq_some_iff.mp hp.1).1
    exact this
theorem s_se1 {x : Nat} (hx : 4 ≤ x ∧ x ≤ 7) : s_se 1 (x :: σ) = s_se 1 σ := by
  simp only [s_se]
  rw [if_pos]
  unfold s_rk
  rw [if_neg (by omega), if_neg (by omega)]
  split <;> omega
theorem r_of_no (hS : r_S h b n p σ κ w so wh d t0 m on) (hso : so < 100) (hd : d ≤ 8) (hn : n ≤ 300) (ht : t0 ≤ 2331) (ho : t_wd b n p 21 = false) : p_wp p_GT p_MT (dd + 7) m_X12_ofNth 0 (lv_args 0 [.ref 64]) [] h (fun v h2 => v = some (.int (Int32.ofNat 1)) ∧ h2 = h) := by
  have hS' := hS
  obtain ⟨fs, tv, tp, pv, cv, av, y1, e64, fl, f2, f3, f4, ⟨f8, ⟨t, f9, t256, tR⟩, ⟨x10, f10, f10'⟩, ⟨z11, f11, f11'⟩, a7, f7, a7n, a7e⟩, f12, f13, f14, f15, f16, f17, f18, f19, f20, f21, e67, tl, tm, e68, hb, e69, pl, hP, e70, cl, hK, f0, e65, a1⟩ := hS
  have hpl := r_P_len hP
  refine w_aload_n rfl rfl (w_bp 111 rfl rfl (w_bp 102 rfl rfl (w_static (nn := 0) (dc := dd + 6) (M' := m_X12_w2) rfl rfl rfl rfl (Nat.le_refl _) (r_w2 (by decide) (by decide)) ?_)))
  rintro v h2 ⟨rfl, rfl⟩
  refine w_virtual (dc := dd + 6) (M' := m_X12_isWord) rfl (g_vir (n := 2) rfl rfl (by simp [p_cat, p_bd, Value.category]) rfl rfl e64 rfl) rfl rfl (Nat.le_refl _) (r_isw (k := 21) (c := 28518) hS' (by decide) (by decide)) ?_
  rintro v h2 ⟨rfl, rfl⟩
  rw [ho]
  exact w_ifc_f rfl (t := 16) rfl (by decide) (w_ic 1 rfl rfl (w_ireturn rfl rfl ⟨rfl, rfl⟩))
theorem r_of_no2 (hS : r_S h b n p σ κ w so wh d t0 m on) (hso : so < 100) (hd : d ≤ 8) (hn : n ≤ 300) (ht : t0 ≤ 2331) (ho : t_wd b n p 21 = true) (hp : t_is b n (t_x b n p) 40 = false) : p_wp p_GT p_MT (dd + 7) m_X12_ofNth 0 (lv_args 0 [.ref 64]) [] h (fun v h2 => v = some (.int (Int32.ofNat 1)) ∧ r_S h2 b n (t_x b n p) σ κ w so wh d t0 m on) := by
  have hS' := hS
  obtain ⟨fs, tv, tp, pv, cv, av, y1, e64, fl, f2, f3, f4, ⟨f8, ⟨t, f9, t256, tR⟩, ⟨x10, f10, f10'⟩, ⟨z11, f11, f11'⟩, a7, f7, a7n, a7e⟩, f12, f13, f14, f15, f16, f17, f18, f19, f20, f21, e67, tl, tm, e68, hb, e69, pl, hP, e70, cl, hK, f0, e65, a1⟩ := hS
  have hpl := r_P_len hP
  have hk := (t_wd_iff.mp ho).1
  have nb := t_nb (b := b) (n := n) (p := p) (by omega)
  refine w_aload_n rfl rfl (w_bp 111 rfl rfl (w_bp 102 rfl rfl (w_static (nn := 0) (dc := dd + 6) (M' := m_X12_w2) rfl rfl rfl rfl (Nat.le_refl _) (r_w2 (by decide) (by decide)) ?_)))
  rintro v h2 ⟨rfl, rfl⟩
  refine w_virtual (dc := dd + 6) (M' := m_X12_isWord) rfl (g_vir (n := 2) rfl rfl (by simp [p_cat, p_bd, Value.category]) rfl rfl e64 rfl) rfl rfl (Nat.le_refl _) (r_isw (k := 21) (c := 28518) hS' (by decide) (by decide)) ?_
  rintro v h2 ⟨rfl, rfl⟩
  rw [ho]
  refine w_ifc_t rfl (t := 16) rfl (by decide) (w_aload_n rfl rfl (w_virtual (dc := dd + 6) (M' := m_X12_nextToken) rfl (g_vir (n := 1) rfl rfl (by simp [p_cat, p_bd, Value.category]) rfl rfl e64 rfl) rfl rfl (Nat.le_refl _) ((r_nextS (dd := dd) hS' hn nb).mono (by omega) (fun _ _ q => q)) ?_))
  rintro v h2 ⟨rfl, hS2⟩
  have hS2' := hS2
  obtain ⟨fs2, tv2, tp2, pv2, cv2, av2, y12, e642, fl2, f22, f32, f42, ⟨f82, ⟨t2, f92, t2562, tR2⟩, ⟨x102, f102, f10'2⟩, ⟨z112, f112, f11'2⟩, a72, f72, a7n2, a7e2⟩, f122, f132, f142, f152, f162, f172, f182, f192, f202, f212, e672, tl2, tm2, e682, hb2, e692, pl2, hP2, e702, cl2, hK2, f02, e652, a12⟩ := hS2
  refine w_aload_n rfl rfl (w_getf rfl rfl e642 f92 (w_bp 40 rfl rfl ?_))
  have et : ¬ t2 = 40 := fun e => by
    have := t_is_iff.mpr ((tR2.2.2.2 40 (by omega)).mp e)
    rw [hp] at this; cases this
  exact w_icmp_f rfl (t := 31) rfl (by simp only [p_cd, decide_eq_false_iff_not]; exact b_ofNat_ne (by omega) (by omega) et) (w_ic 1 rfl rfl (w_ireturn rfl rfl ⟨rfl, hS2'⟩))
set_option maxRecDepth 100000 in
theorem r_of_yes (hS : r_S h b n p σ κ w so wh d t0 m on) (hso : so < 100) (hd : d ≤ 8) (hn : n ≤ 300) (ht : t0 ≤ 2331) (ho : t_wd b n p 21 = true) (hp : t_is b n (t_x b n p) 40 = true) (hk8 : κ.length ≤ 8) {ρ : List Nat} (hs : σ = 41 :: ρ) : p_wp p_GT p_MT (dd + 7) m_X12_ofNth 0 (lv_args 0 [.ref 64]) [] h (fun v h2 => v = some (.int (Int32.ofNat 0)) ∧ r_S h2 b n (t_x b n (t_x b n p)) (42 :: ρ) (1 :: κ) w so false d t0 m on) := by
  have hS' := hS
  obtain ⟨fs, tv, tp, pv, cv, av, y1, e64, fl, f2, f3, f4, ⟨f8, ⟨t, f9, t256, tR⟩, ⟨x10, f10, f10'⟩, ⟨z11, f11, f11'⟩, a7, f7, a7n, a7e⟩, f12, f13, f14, f15, f16, f17, f18, f19, f20, f21, e67, tl, tm, e68, hb, e69, pl, hP, e70, cl, hK, f0, e65, a1⟩ := hS
  have hpl := r_P_len hP
  have hk := (t_wd_iff.mp ho).1
  have nb := t_nb (b := b) (n := n) (p := p) (by omega)
  refine w_aload_n rfl rfl (w_bp 111 rfl rfl (w_bp 102 rfl rfl (w_static (nn := 0) (dc := dd + 6) (M' := m_X12_w2) rfl rfl rfl rfl (Nat.le_refl _) (r_w2 (by decide) (by decide)) ?_)))
  rintro v h2 ⟨rfl, rfl⟩
  refine w_virtual (dc := dd + 6) (M' := m_X12_isWord) rfl (g_vir (n := 2) rfl rfl (by simp [p_cat, p_bd, Value.category]) rfl rfl e64 rfl) rfl rfl (Nat.le_refl _) (r_isw (k := 21) (c := 28518) hS' (by decide) (by decide)) ?_
  rintro v h2 ⟨rfl, rfl⟩
  rw [ho]
  refine w_ifc_t rfl (t := 16) rfl (by decide) (w_aload_n rfl rfl (w_virtual (dc := dd + 6) (M' := m_X12_nextToken) rfl (g_vir (n := 1) rfl rfl (by simp [p_cat, p_bd, Value.category]) rfl rfl e64 rfl) rfl rfl (Nat.le_refl _) ((r_nextS (dd := dd) hS' hn nb).mono (by omega) (fun _ _ q => q)) ?_))
  rintro v h2 ⟨rfl, hS2⟩
  have hS2' := hS2
  obtain ⟨fs2, tv2, tp2, pv2, cv2, av2, y12, e642, fl2, f22, f32, f42, ⟨f82, ⟨t2, f92, t2562, tR2⟩, ⟨x102, f102, f10'2⟩, ⟨z112, f112, f11'2⟩, a72, f72, a7n2, a7e2⟩, f122, f132, f142, f152, f162, f172, f182, f192, f202, f212, e672, tl2, tm2, e682, hb2, e692, pl2, hP2, e702, cl2, hK2, f02, e652, a12⟩ := hS2
  refine w_aload_n rfl rfl (w_getf rfl rfl e642 f92 (w_bp 40 rfl rfl ?_))
  have et : t2 = 40 := (tR2.2.2.2 40 (by omega)).mpr (t_is_iff.mp hp)
  have nb2 := t_nb2 hp (by decide) (by decide)
  subst hs
  refine w_icmp_t rfl (t := 31) rfl (by rw [et]; decide) (w_aload_n rfl rfl (w_virtual (dc := dd + 6) (M' := m_X12_nextToken) rfl (g_vir (n := 1) rfl rfl (by simp [p_cat, p_bd, Value.category]) rfl rfl e642 rfl) rfl rfl (Nat.le_refl _) ((r_nextS (dd := dd) hS2' hn nb2).mono (by omega) (fun _ _ q => q)) ?_))
  rintro v h3 ⟨rfl, hS3⟩
  obtain ⟨fs3, tv3, tp3, pv3, cv3, av3, y13, e643, fl3, f23, f33, f43, ⟨f83, ⟨t3, f93, t2563, tR3⟩, ⟨x103, f103, f10'3⟩, ⟨z113, f113, f11'3⟩, a73, f73, a7n3, a7e3⟩, f123, f133, f143, f153, f163, f173, f183, f193, f203, f213, e673, tl3, tm3, e683, hb3, e693, pl3, hP3, e703, cl3, hK3, f03, e653, a13⟩ := hS3
  have f173 : fs3[17]? = some (.int (Int32.ofNat (ρ.length + 1))) := f173
  have hpl3 : ρ.length + 1 ≤ pv3.length := r_P_len hP3
  have hpl4 : κ.length ≤ cv3.length := r_P_len hK3
  refine w_aload_n rfl rfl (w_getf rfl rfl e643 f153 (w_aload_n rfl rfl (w_getf rfl rfl e643 f173 (w_ic 1 rfl rfl (w_subN rfl (by omega) (w_bp 42 rfl rfl (w_st rfl e693 (by omega) (by rw [pl3]; omega) (w_aload_n rfl rfl (w_getf rfl rfl (a_ga (by decide) e643) f163 (w_aload_n rfl rfl (w_getf rfl rfl (a_ga (by decide) e643) f193 (w_ic 1 rfl rfl (w_st rfl (a_ga (by decide) e703) (by omega) (by rw [cl3]; omega) (w_aload_n rfl rfl (w_dup rfl rfl (w_getf rfl rfl (a_ga (by decide) (a_ga (by decide) e643)) f193 (w_ic 1 rfl rfl (w_addN rfl (w_putf rfl rfl (a_ga (by decide) (a_ga (by decide) e643)) rfl rfl (w_flt f193) (w_aload_n rfl rfl (w_ic 0 rfl rfl (w_putf rfl rfl (a_gs (a_ga (by decide) (a_ga (by decide) e643))) rfl rfl (w_flt (w_fne f203 (by decide))) (w_ic 0 rfl rfl (w_ireturn rfl rfl ⟨rfl, ?_⟩))))))))))))))))))))))))
  have hP4 := hP3.2.2
  have hpl3 : ρ.length + 1 ≤ pv3.length := r_P_len hP3
  have hpl4 : κ.length ≤ cv3.length := r_P_len hK3
  exact ⟨_, _, _, _, _, _, _, (a_gs (a_gs (a_ga (by decide) (a_ga (by decide) e643)))), (by first | exact fl3 | (simp only [List.length_set]; exact fl3)), (w_fne (w_fne f23 (by decide)) (by decide)), (w_fne (w_fne f33 (by decide)) (by decide)), (w_fne (w_fne f43 (by decide)) (by decide)), ⟨(w_fne (w_fne f83 (by decide)) (by decide)), ⟨t3, (w_fne (w_fne f93 (by decide)) (by decide)), t2563, tR3⟩, ⟨x103, (w_fne (w_fne f103 (by decide)) (by decide)), f10'3⟩, ⟨z113, (w_fne (w_fne f113 (by decide)) (by decide)), f11'3⟩, a73, (w_fne (w_fne f73 (by decide)) (by decide)), a7n3, a7e3⟩, (w_fne (w_fne f123 (by decide)) (by decide)), (w_fne (w_fne f133 (by decide)) (by decide)), (w_fne (w_fne f143 (by decide)) (by decide)), (w_fne (w_fne f153 (by decide)) (by decide)), (w_fne (w_fne f163 (by decide)) (by decide)), (w_fne (w_fne f173 (by decide)) (by decide)), (w_fne (w_fne f183 (by decide)) (by decide)), (w_fne (w_fat f193) (by decide)), (w_fat (w_fne f203 (by decide))), (w_fne (w_fne f213 (by decide)) (by decide)), (a_ga (by decide) (a_ga (by decide) (a_ga (by decide) (a_ga (by decide) e673)))), (by first | exact tl3 | (simp only [List.length_set]; exact tl3)), tm3, (a_ga (by decide) (a_ga (by decide) (a_ga (by decide) (a_ga (by decide) e683)))), hb3, (a_ga (by decide) (a_ga (by decide) (a_ga (by decide) (a_gs e693)))), (by first | exact pl3 | (simp only [List.length_set]; exact pl3)), ⟨by rw [Nat.add_sub_cancel]; exact List.getElem?_set_self (by omega), by decide, r_P_set (by omega) hP4⟩, (a_ga (by decide) (a_ga (by decide) (a_gs (a_ga (by decide) e703)))), (by first | exact cl3 | (simp only [List.length_set]; exact cl3)), ⟨List.getElem?_set_self (by omega), by decide, r_P_set (Nat.le_refl _) hK3⟩, (w_fne (w_fne f03 (by decide)) (by decide)), (a_ga (by decide) (a_ga (by decide) (a_ga (by decide) (a_ga (by decide) e653)))), a13⟩
set_option maxRecDepth 100000 in
theorem r_nx_7 (hS : r_S h b n p σ κ w so wh d t0 m on) (hso : so < 100) (hd : d ≤ 8) (hn : n ≤ 300) (ht : t0 ≤ 2331) (hs1 : w + σ.length ≤ 303) (hdo : d = s_opn σ) (hop : t_is b n p 44 = true) {ρ κ0 : List Nat} {k : Nat} (hse : s_se 1 σ = 42 :: ρ) (hk : κ = k :: κ0) (hk6 : k = 6) (hd8 : s_opn (42 :: ρ) ≤ 8) : p_wp p_GT p_MT (dd + 8) m_X12_nextOfNth 0 (lv_args 0 [.ref 64]) [] h (fun v h2 => (∃ f, v = some (.int (Int32.ofNat f)) ∧ f = (if t_F b n (Nat.beq so 1) (s_opn (42 :: ρ)) (t_x b n p) ≠ 0 then t_F b n (Nat.beq so 1) (s_opn (42 :: ρ)) (t_x b n p) else 7)) ∧ r_S h2 b n (t_x b n p) (42 :: ρ) (k :: κ0) (w + (σ.length - (42 :: ρ).length)) so false (s_opn (42 :: ρ)) t0 m on) := by
  have hS' := hS
  obtain ⟨fs, tv, tp, pv, cv, av, y1, e64, fl, f2, f3, f4, ⟨f8, ⟨t, f9, t256, tR⟩, ⟨x10, f10, f10'⟩, ⟨z11, f11, f11'⟩, a7, f7, a7n, a7e⟩, f12, f13, f14, f15, f16, f17, f18, f19, f20, f21, e67, tl, tm, e68, hb, e69, pl, hP, e70, cl, hK, f0, e65, a1⟩ := hS
  have hpl := r_P_len hP
  have nb := t_nb2 hop (by decide) (by decide)
  have hsl := s_se_len 1 σ
  subst hk
  refine w_aload_n rfl rfl (w_ic 1 rfl rfl (w_virtual (dc := dd + 7) (M' := m_X12_settle) rfl (g_vir (n := 2) rfl rfl (by simp [p_cat, p_bd, Value.category]) rfl rfl e64 rfl) rfl rfl (Nat.le_refl _) ((r_settle (dd := dd) (l := 1) (by decide) (by decide) hn ht σ w d _ (by omega) hs1 hdo hS').mono (by omega) (fun _ _ q => q)) ?_))
  rintro v h2 ⟨rfl, hS2⟩
  rw [hse] at hS2
  obtain ⟨fs2, tv2, tp2, pv2, cv2, av2, y12, e642, fl2, f22, f32, f42, ⟨f82, ⟨t2, f92, t2562, tR2⟩, ⟨x102, f102, f10'2⟩, ⟨z112, f112, f11'2⟩, a72, f72, a7n2, a7e2⟩, f122, f132, f142, f152, f162, f172, f182, f192, f202, f212, e672, tl2, tm2, e682, hb2, e692, pl2, hP2, e702, cl2, hK2, f02, e652, a12⟩ := hS2
  have f192 : fs2[19]? = some (.int (Int32.ofNat (κ0.length + 1))) := f192
  refine w_aload_n rfl rfl (w_ic 0 rfl rfl (w_putf rfl rfl e642 rfl rfl (w_flt f202) ?_))
  refine w_use (X := fun h => r_S h b n p (42 :: ρ) (k :: κ0) (w + (σ.length - (42 :: ρ).length)) so false (s_opn (42 :: ρ)) t0 m on) ⟨_, _, _, _, _, _, _, (a_gs e642), (by first | exact fl2 | (simp only [List.length_set]; exact fl2)), (w_fne f22 (by decide)), (w_fne f32 (by decide)), (w_fne f42 (by decide)), ⟨(w_fne f82 (by decide)), ⟨t2, (w_fne f92 (by decide)), t2562, tR2⟩, ⟨x102, (w_fne f102 (by decide)), f10'2⟩, ⟨z112, (w_fne f112 (by decide)), f11'2⟩, a72, (w_fne f72 (by decide)), a7n2, a7e2⟩, (w_fne f122 (by decide)), (w_fne f132 (by decide)), (w_fne f142 (by decide)), (w_fne f152 (by decide)), (w_fne f162 (by decide)), (w_fne f172 (by decide)), (w_fne f182 (by decide)), (w_fne f192 (by decide)), (w_fat f202), (w_fne f212 (by decide)), (a_ga (by decide) e672), (by first | exact tl2 | (simp only [List.length_set]; exact tl2)), tm2, (a_ga (by decide) e682), hb2, (a_ga (by decide) e692), (by first | exact pl2 | (simp only [List.length_set]; exact pl2)), hP2, (a_ga (by decide) e702), (by first | exact cl2 | (simp only [List.length_set]; exact cl2)), hK2, (w_fne f02 (by decide)), (a_ga (by decide) e652), a12⟩ (fun hS2' => ?_)
  refine w_aload_n rfl rfl (w_virtual (dc := dd + 7) (M' := m_X12_nextToken) rfl (g_vir (n := 1) rfl rfl (by simp [p_cat, p_bd, Value.category]) rfl rfl (a_gs e642) rfl) rfl rfl (Nat.le_refl _) ((r_nextS (dd := dd) hS2' hn nb).mono (by omega) (fun _ _ q => q)) ?_)
  rintro v h3 ⟨rfl, hS3⟩
  have hS3' := hS3
  obtain ⟨fs3, tv3, tp3, pv3, cv3, av3, y13, e643, fl3, f23, f33, f43, ⟨f83, ⟨t3, f93, t2563, tR3⟩, ⟨x103, f103, f10'3⟩, ⟨z113, f113, f11'3⟩, a73, f73, a7n3, a7e3⟩, f123, f133, f143, f153, f163, f173, f183, f193, f203, f213, e673, tl3, tm3, e683, hb3, e693, pl3, hP3, e703, cl3, hK3, f03, e653, a13⟩ := hS3
  have f193 : fs3[19]? = some (.int (Int32.ofNat (κ0.length + 1))) := f193
  have hpc : κ0.length + 1 ≤ cv3.length := r_P_len hK3
  refine w_aload_n rfl rfl (w_getf rfl rfl e643 f163 (w_aload_n rfl rfl (w_getf rfl rfl e643 f193 (w_ic 1 rfl rfl (w_subN rfl (by omega) (w_ld rfl e703 (by omega) (show cv3[κ0.length + 1 - 1]? = _ by rw [Nat.add_sub_cancel]; exact hK3.1) (w_bp 6 rfl rfl (w_icmp_f rfl (t := 47) rfl (by rw [hk6]; decide) (w_aload_n rfl rfl (w_virtual (dc := dd + 7) (M' := m_X12_faultOfOne) rfl (g_vir (n := 1) rfl rfl (by simp [p_cat, p_bd, Value.category]) rfl rfl e643 rfl) rfl rfl (Nat.le_refl _) ((r_F (dd := dd) hS3' hso hd8).mono (by omega) (fun _ _ q => q)) ?_))))))))))
  rintro v h2 ⟨rfl, rfl⟩
  have hF6 : t_F b n (Nat.beq so 1) (s_opn (42 :: ρ)) (t_x b n p) < 100 := by unfold t_F; (repeat' split) <;> omega
  by_cases q : t_F b n (Nat.beq so 1) (s_opn (42 :: ρ)) (t_x b n p) = 0
  · exact w_ifc_f rfl (t := 42) rfl (by rw [q]; decide) (w_bp 7 rfl rfl (w_goto rfl (t := 46) rfl (w_ireturn rfl rfl ⟨⟨7, rfl, by rw [if_neg (fun e => e q)]⟩, hS3'⟩)))
  · refine w_ifc_t rfl (t := 42) rfl (by simp only [p_cd, decide_eq_true_eq]; exact b_ofNat_ne (b := 0) (by omega) (by omega) q) (w_aload_n rfl rfl (w_virtual (dc := dd + 7) (M' := m_X12_faultOfOne) rfl (g_vir (n := 1) rfl rfl (by simp [p_cat, p_bd, Value.category]) rfl rfl e643 rfl) rfl rfl (Nat.le_refl _) ((r_F (dd := dd) hS3' hso hd8).mono (by omega) (fun _ _ q => q)) ?_))
    rintro v h2 ⟨rfl, rfl⟩
    exact w_ireturn rfl rfl ⟨⟨_, rfl, by rw [if_pos q]⟩, hS3'⟩
set_option maxRecDepth 100000 in
theorem r_nx_1 (hS : r_S h b n p σ κ w so wh d t0 m on) (hso : so < 100) (hd : d ≤ 8) (hn : n ≤ 300) (ht : t0 ≤ 2331) (hs1 : w + σ.length ≤ 303) (hdo : d = s_opn σ) (hop : t_is b n p 44 = true) {ρ κ0 : List Nat} {k : Nat} (hse : s_se 1 σ = 42 :: ρ) (hk : κ = k :: κ0) (hk6 : k < 6) : p_wp p_GT p_MT (dd + 8) m_X12_nextOfNth 0 (lv_args 0 [.ref 64]) [] h (fun v h2 => v = some (.int (Int32.ofNat 0)) ∧ r_S h2 b n (t_x b n p) (42 :: ρ) ((k + 1) :: κ0) (w + (σ.length - (42 :: ρ).length)) so false (s_opn (42 :: ρ)) t0 m on) := by
  have hS' := hS
  obtain ⟨fs, tv, tp, pv, cv, av, y1, e64, fl, f2, f3, f4, ⟨f8, ⟨t, f9, t256, tR⟩, ⟨x10, f10, f10'⟩, ⟨z11, f11, f11'⟩, a7, f7, a7n, a7e⟩, f12, f13, f14, f15, f16, f17, f18, f19, f20, f21, e67, tl, tm, e68, hb, e69, pl, hP, e70, cl, hK, f0, e65, a1⟩ := hS
  have hpl := r_P_len hP
  have nb := t_nb2 hop (by decide) (by decide)
  have hsl := s_se_len 1 σ
  subst hk
  refine w_aload_n rfl rfl (w_ic 1 rfl rfl (w_virtual (dc := dd + 7) (M' := m_X12_settle) rfl (g_vir (n := 2) rfl rfl (by simp [p_cat, p_bd, Value.category]) rfl rfl e64 rfl) rfl rfl (Nat.le_refl _) ((r_settle (dd := dd) (l := 1) (by decide) (by decide) hn ht σ w d _ (by omega) hs1 hdo hS').mono (by omega) (fun _ _ q => q)) ?_))
  rintro v h2 ⟨rfl, hS2⟩
  rw [hse] at hS2
  obtain ⟨fs2, tv2, tp2, pv2, cv2, av2, y12, e642, fl2, f22, f32, f42, ⟨f82, ⟨t2, f92, t2562, tR2⟩, ⟨x102, f102, f10'2⟩, ⟨z112, f112, f11'2⟩, a72, f72, a7n2, a7e2⟩, f122, f132, f142, f152, f162, f172, f182, f192, f202, f212, e672, tl2, tm2, e682, hb2, e692, pl2, hP2, e702, cl2, hK2, f02, e652, a12⟩ := hS2
  have f192 : fs2[19]? = some (.int (Int32.ofNat (κ0.length + 1))) := f192
  refine w_aload_n rfl rfl (w_ic 0 rfl rfl (w_putf rfl rfl e642 rfl rfl (w_flt f202) ?_))
  refine w_use (X := fun h => r_S h b n p (42 :: ρ) (k :: κ0) (w + (σ.length - (42 :: ρ).length)) so false (s_opn (42 :: ρ)) t0 m on) ⟨_, _, _, _, _, _, _, (a_gs e642), (by first | exact fl2 | (simp only [List.length_set]; exact fl2)), (w_fne f22 (by decide)), (w_fne f32 (by decide)), (w_fne f42 (by decide)), ⟨(w_fne f82 (by decide)), ⟨t2, (w_fne f92 (by decide)), t2562, tR2⟩, ⟨x102, (w_fne f102 (by decide)), f10'2⟩, ⟨z112, (w_fne f112 (by decide)), f11'2⟩, a72, (w_fne f72 (by decide)), a7n2, a7e2⟩, (w_fne f122 (by decide)), (w_fne f132 (by decide)), (w_fne f142 (by decide)), (w_fne f152 (by decide)), (w_fne f162 (by decide)), (w_fne f172 (by decide)), (w_fne f182 (by decide)), (w_fne f192 (by decide)), (w_fat f202), (w_fne f212 (by decide)), (a_ga (by decide) e672), (by first | exact tl2 | (simp only [List.length_set]; exact tl2)), tm2, (a_ga (by decide) e682), hb2, (a_ga (by decide) e692), (by first | exact pl2 | (simp only [List.length_set]; exact pl2)), hP2, (a_ga (by decide) e702), (by first | exact cl2 | (simp only [List.length_set]; exact cl2)), hK2, (w_fne f02 (by decide)), (a_ga (by decide) e652), a12⟩ (fun hS2' => ?_)
  refine w_aload_n rfl rfl (w_virtual (dc := dd + 7) (M' := m_X12_nextToken) rfl (g_vir (n := 1) rfl rfl (by simp [p_cat, p_bd, Value.category]) rfl rfl (a_gs e642) rfl) rfl rfl (Nat.le_refl _) ((r_nextS (dd := dd) hS2' hn nb).mono (by omega) (fun _ _ q => q)) ?_)
  rintro v h3 ⟨rfl, hS3⟩
  have hS3' := hS3
  obtain ⟨fs3, tv3, tp3, pv3, cv3, av3, y13, e643, fl3, f23, f33, f43, ⟨f83, ⟨t3, f93, t2563, tR3⟩, ⟨x103, f103, f10'3⟩, ⟨z113, f113, f11'3⟩, a73, f73, a7n3, a7e3⟩, f123, f133, f143, f153, f163, f173, f183, f193, f203, f213, e673, tl3, tm3, e683, hb3, e693, pl3, hP3, e703, cl3, hK3, f03, e653, a13⟩ := hS3
  have f193 : fs3[19]? = some (.int (Int32.ofNat (κ0.length + 1))) := f193
  have hpc : κ0.length + 1 ≤ cv3.length := r_P_len hK3
  refine w_aload_n rfl rfl (w_getf rfl rfl e643 f163 (w_aload_n rfl rfl (w_getf rfl rfl e643 f193 (w_ic 1 rfl rfl (w_subN rfl (by omega) (w_ld rfl e703 (by omega) (show cv3[κ0.length + 1 - 1]? = _ by rw [Nat.add_sub_cancel]; exact hK3.1) (w_bp 6 rfl rfl (w_icmp_t rfl (t := 47) rfl (by simp only [p_cd, decide_eq_true_eq]; exact b_ofNat_ne (by omega) (by omega) (by omega)) (w_aload_n rfl rfl (w_getf rfl rfl e643 f163 (w_aload_n rfl rfl (w_getf rfl rfl e643 f193 (w_ic 1 rfl rfl (w_subN rfl (by omega) (w_dup2 rfl (w_ld rfl e703 (by omega) (show cv3[κ0.length + 1 - 1]? = _ by rw [Nat.add_sub_cancel]; exact hK3.1) (w_ic 1 rfl rfl (w_addN rfl (w_st rfl e703 (by omega) (by omega) (w_ic 0 rfl rfl (w_ireturn rfl rfl ⟨rfl, ?_⟩)))))))))))))))))))))
  exact ⟨_, _, _, _, _, _, _, (a_ga (by decide) e643), (by first | exact fl3 | (simp only [List.length_set]; exact fl3)), f23, f33, f43, ⟨f83, ⟨t3, f93, t2563, tR3⟩, ⟨x103, f103, f10'3⟩, ⟨z113, f113, f11'3⟩, a73, f73, a7n3, a7e3⟩, f123, f133, f143, f153, f163, f173, f183, f193, f203, f213, (a_ga (by decide) e673), (by first | exact tl3 | (simp only [List.length_set]; exact tl3)), tm3, (a_ga (by decide) e683), hb3, (a_ga (by decide) e693), (by first | exact pl3 | (simp only [List.length_set]; exact pl3)), hP3, (a_gs e703), (by first | exact cl3 | (simp only [List.length_set]; exact cl3)), ⟨by rw [Nat.add_sub_cancel]; exact List.getElem?_set_self (by omega), by omega, r_P_set (by omega) hK3.2.2⟩, f03, (a_ga (by decide) e653), a13⟩
theorem s_se_on {l : Nat} (hl : 1 ≤ l) : ∀ {σ ρ : List Nat} {x : Nat}, s_se l σ = x :: ρ → 40 ≤ x → s_onw σ = Int32.ofNat x := by
  intro σ
  induction σ with
  | nil => intro ρ x e; cases e
  | cons y σ ih =>
    intro ρ x e hx
    simp only [s_se] at e
    simp only [s_onw]
    by_cases q : 40 ≤ y
    · rw [if_pos q]
      rw [if_neg (by unfold s_rk; rw [if_pos q]; omega)] at e
      injection e with e1 _
      rw [e1]
    · rw [if_neg q]
      by_cases q2 : l ≤ s_rk y
      · rw [if_pos q2] at e; exact ih e hx
      · rw [if_neg q2] at e
        injection e with e1 _
        omega
theorem s_se_on0 : ∀ {σ : List Nat}, s_se 1 σ = [] → s_onw σ = Int32.ofInt (-1) := by
  intro σ
  induction σ with
  | nil => intro _; rfl
  | cons y σ ih =>
    intro e
    simp only [s_se] at e
    simp only [s_onw]
    by_cases q : 1 ≤ s_rk y
    · rw [if_pos q] at e
      rw [if_neg (fun q3 => by unfold s_rk at q; rw [if_pos q3] at q; omega)]
      exact ih e
    · rw [if_neg q] at e; cases e
theorem r_bh_of (hS : r_S h b n p σ κ w so wh d t0 m on) (hs : ∃ ρ, σ = 41 :: ρ) {Q : Option Value → p_H → Prop} (H : p_wp p_GT p_MT dd m_X12_ofNth 0 (lv_args 0 [.ref 64]) [] h Q) (hQ : ∀ v h2, Q v h2 → ∃ x : Int32, v = some (.int x)) : p_wp p_GT p_MT (dd + 1) m_X12_behindOne 0 (lv_args 0 [.ref 64]) [] h Q := by
  obtain ⟨ρ, rfl⟩ := hs
  obtain ⟨fs, tv, tp, pv, cv, av, y1, e64, fl, f2, f3, f4, ⟨f8, ⟨t, f9, t256, tR⟩, ⟨x10, f10, f10'⟩, ⟨z11, f11, f11'⟩, a7, f7, a7n, a7e⟩, f12, f13, f14, f15, f16, f17, f18, f19, f20, f21, e67, tl, tm, e68, hb, e69, pl, hP, e70, cl, hK, f0, e65, a1⟩ := hS
  have hpl : ρ.length + 1 ≤ pv.length := r_P_len hP
  have f17 : fs[17]? = some (.int (Int32.ofNat (ρ.length + 1))) := f17
  refine w_aload_n rfl rfl (w_getf rfl rfl e64 f17 (w_ifc_f rfl (t := 28) rfl (by simp only [p_cd, decide_eq_false_iff_not]; rw [Int32.le_iff_toInt_le, g_ofNat (by omega)]; simp only [Int32.toInt_zero]; omega) (w_aload_n rfl rfl (w_getf rfl rfl e64 f15 (w_aload_n rfl rfl (w_getf rfl rfl e64 f17 (w_ic 1 rfl rfl (w_subN rfl (by omega) (w_ld rfl e69 (by omega) (show pv[ρ.length + 1 - 1]? = _ by rw [Nat.add_sub_cancel]; exact hP.1) (w_bp 41 rfl rfl (w_icmp_f rfl (t := 28) rfl (by decide) (w_aload_n rfl rfl (w_virtual (dc := dd) (M' := m_X12_ofNth) rfl (g_vir (n := 1) rfl rfl (by simp [p_cat, p_bd, Value.category]) rfl rfl e64 rfl) rfl rfl (Nat.le_refl _) H ?_)))))))))))))
  intro v h2 q
  obtain ⟨x, rfl⟩ := hQ v h2 q
  exact w_ireturn rfl rfl q
theorem r_bh_top (hS : r_S h b n p σ κ w so wh d t0 m on) (hs : ∀ ρ, σ ≠ 41 :: ρ) {Q : Option Value → p_H → Prop} (H : p_wp p_GT p_MT dd m_X12_behindOne 28 (lv_args 0 [.ref 64]) [] h Q) : p_wp p_GT p_MT dd m_X12_behindOne 0 (lv_args 0 [.ref 64]) [] h Q := by
  obtain ⟨fs, tv, tp, pv, cv, av, y1, e64, fl, f2, f3, f4, ⟨f8, ⟨t, f9, t256, tR⟩, ⟨x10, f10, f10'⟩, ⟨z11, f11, f11'⟩, a7, f7, a7n, a7e⟩, f12, f13, f14, f15, f16, f17, f18, f19, f20, f21, e67, tl, tm, e68, hb, e69, pl, hP, e70, cl, hK, f0, e65, a1⟩ := hS
  cases σ with
  | nil =>
    exact w_aload_n rfl rfl (w_getf rfl rfl e64 f17 (w_ifc_t rfl (t := 28) rfl (by decide) H))
  | cons x ρ =>
    have hpl : ρ.length + 1 ≤ pv.length := r_P_len hP
    have f17 : fs[17]? = some (.int (Int32.ofNat (ρ.length + 1))) := f17
    have hx100 := hP.2.1
    have hx41 : ¬ x = 41 := fun e => hs ρ (by rw [e])
    exact w_aload_n rfl rfl (w_getf rfl rfl e64 f17 (w_ifc_f rfl (t := 28) rfl (by simp only [p_cd, decide_eq_false_iff_not]; rw [Int32.le_iff_toInt_le, g_ofNat (by omega)]; simp only [Int32.toInt_zero]; omega) (w_aload_n rfl rfl (w_getf rfl rfl e64 f15 (w_aload_n rfl rfl (w_getf rfl rfl e64 f17 (w_ic 1 rfl rfl (w_subN rfl (by omega) (w_ld rfl e69 (by omega) (show pv[ρ.length + 1 - 1]? = _ by rw [Nat.add_sub_cancel]; exact hP.1) (w_bp 41 rfl rfl (w_icmp_t rfl (t := 28) rfl (by simp only [p_cd, decide_eq_true_eq]; exact b_ofNat_ne (by omega) (by omega) hx41) H)))))))))))
set_option maxRecDepth 100000 in
theorem r_bh_4 (hS : r_S h b n p σ κ w so wh d t0 m on) (hn : n ≤ 300) (ht : t0 ≤ 2331) (hs : σ.length < 160) (hs1 : w + σ.length ≤ 303) (hdo : d = s_opn σ) (hop : t_is b n p 43 = true) : p_wp p_GT p_MT (dd + 9) m_X12_behindOne 28 (lv_args 0 [.ref 64]) [] h (fun v h2 => v = some (.int (Int32.ofNat 0)) ∧ ∃ w2, w2 + (s_se 1 σ).length = w + σ.length ∧ r_S h2 b n (t_x b n p) (4 :: s_se 1 σ) κ w2 so false (s_opn (s_se 1 σ)) t0 m on) := by
  have hS' := hS
  obtain ⟨fs, tv, tp, pv, cv, av, y1, e64, fl, f2, f3, f4, ⟨f8, ⟨t, f9, t256, tR⟩, ⟨x10, f10, f10'⟩, ⟨z11, f11, f11'⟩, a7, f7, a7n, a7e⟩, f12, f13, f14, f15, f16, f17, f18, f19, f20, f21, e67, tl, tm, e68, hb, e69, pl, hP, e70, cl, hK, f0, e65, a1⟩ := hS
  have hsl := s_se_len 1 σ
  have et : t = 43 := (tR.2.2.2 43 (by omega)).mpr (t_is_iff.mp hop)
  have nb := t_nb2 hop (by decide) (by decide)
  refine w_aload_n rfl rfl (w_getf rfl rfl e64 f9 (w_bp 43 rfl rfl (w_icmp_f rfl (t := 41) rfl (by rw [et]; decide) (w_ic 4 rfl rfl (w_goto rfl (t := 83) rfl (w_istore_n rfl (by decide) (w_iload_n rfl p_lk_s1 (w_ifc_f rfl (t := 127) rfl (by decide) (w_aload_n rfl (w_s1 rfl rfl (by decide)) (w_iload_n rfl p_lk_s1 (w_static (nn := 0) (dc := dd + 8) (M' := m_X12_rank) rfl rfl rfl rfl (Nat.le_refl _) (r_rank (x := 4) (by decide)) ?_)))))))))))
  rintro v h2 ⟨rfl, rfl⟩
  rw [show s_rk 4 = 1 from rfl]
  refine w_virtual (dc := dd + 8) (M' := m_X12_settle) rfl (g_vir (n := 2) rfl rfl (by simp [p_cat, p_bd, Value.category]) rfl rfl e64 rfl) rfl rfl (Nat.le_refl _) ((r_settle (dd := dd) (l := 1) (by decide) (by decide) hn ht σ w d _ (by omega) hs1 hdo hS').mono (by omega) (fun _ _ q => q)) ?_
  rintro v h2 ⟨rfl, hS2⟩
  obtain ⟨fs2, tv2, tp2, pv2, cv2, av2, y12, e642, fl2, f22, f32, f42, ⟨f82, ⟨t2, f92, t2562, tR2⟩, ⟨x102, f102, f10'2⟩, ⟨z112, f112, f11'2⟩, a72, f72, a7n2, a7e2⟩, f122, f132, f142, f152, f162, f172, f182, f192, f202, f212, e672, tl2, tm2, e682, hb2, e692, pl2, hP2, e702, cl2, hK2, f02, e652, a12⟩ := hS2
  refine w_aload_n rfl (w_s1 rfl rfl (by decide)) (w_getf rfl rfl e642 f152 (w_aload_n rfl (w_s1 rfl rfl (by decide)) (w_getf rfl rfl e642 f172 (w_iload_n rfl p_lk_s1 (w_st rfl e692 (by omega) (by rw [pl2]; omega) (w_aload_n rfl (w_s1 rfl rfl (by decide)) (w_dup rfl rfl (w_getf rfl rfl (a_ga (by decide) e642) f172 (w_ic 1 rfl rfl (w_addN rfl (w_putf rfl rfl (a_ga (by decide) e642) rfl rfl (w_flt f172) (w_aload_n rfl (w_s1 rfl rfl (by decide)) (w_ic 0 rfl rfl (w_putf rfl rfl (a_gs (a_ga (by decide) e642)) rfl rfl (w_flt (w_fne f202 (by decide))) ?_))))))))))))))
  refine w_use (X := fun h => r_S h b n p (4 :: s_se 1 σ) κ (w + (σ.length - (s_se 1 σ).length)) so false (s_opn (s_se 1 σ)) t0 m on) ⟨_, _, _, _, _, _, _, (a_gs (a_gs (a_ga (by decide) e642))), (by first | exact fl2 | (simp only [List.length_set]; exact fl2)), (w_fne (w_fne f22 (by decide)) (by decide)), (w_fne (w_fne f32 (by decide)) (by decide)), (w_fne (w_fne f42 (by decide)) (by decide)), ⟨(w_fne (w_fne f82 (by decide)) (by decide)), ⟨t2, (w_fne (w_fne f92 (by decide)) (by decide)), t2562, tR2⟩, ⟨x102, (w_fne (w_fne f102 (by decide)) (by decide)), f10'2⟩, ⟨z112, (w_fne (w_fne f112 (by decide)) (by decide)), f11'2⟩, a72, (w_fne (w_fne f72 (by decide)) (by decide)), a7n2, a7e2⟩, (w_fne (w_fne f122 (by decide)) (by decide)), (w_fne (w_fne f132 (by decide)) (by decide)), (w_fne (w_fne f142 (by decide)) (by decide)), (w_fne (w_fne f152 (by decide)) (by decide)), (w_fne (w_fne f162 (by decide)) (by decide)), (w_fne (w_fat f172) (by decide)), (w_fne (w_fne f182 (by decide)) (by decide)), (w_fne (w_fne f192 (by decide)) (by decide)), (w_fat (w_fne f202 (by decide))), (w_fne (w_fne f212 (by decide)) (by decide)), (a_ga (by decide) (a_ga (by decide) (a_ga (by decide) e672))), (by first | exact tl2 | (simp only [List.length_set]; exact tl2)), tm2, (a_ga (by decide) (a_ga (by decide) (a_ga (by decide) e682))), hb2, (a_ga (by decide) (a_ga (by decide) (a_gs e692))), (by first | exact pl2 | (simp only [List.length_set]; exact pl2)), ⟨List.getElem?_set_self (by rw [pl2]; omega), by decide, r_P_set (Nat.le_refl _) hP2⟩, (a_ga (by decide) (a_ga (by decide) (a_ga (by decide) e702))), (by first | exact cl2 | (simp only [List.length_set]; exact cl2)), hK2, (w_fne (w_fne f02 (by decide)) (by decide)), (a_ga (by decide) (a_ga (by decide) (a_ga (by decide) e652))), a12⟩ (fun hS3 => ?_)
  refine w_aload_n rfl (w_s1 rfl rfl (by decide)) (w_virtual (dc := dd + 8) (M' := m_X12_nextToken) rfl (g_vir (n := 1) rfl rfl (by simp [p_cat, p_bd, Value.category]) rfl rfl (a_gs (a_gs (a_ga (by decide) e642))) rfl) rfl rfl (Nat.le_refl _) ((r_nextS (dd := dd) hS3 hn nb).mono (by omega) (fun _ _ q => q)) ?_)
  rintro v h4 ⟨rfl, hS4⟩
  exact w_ic 0 rfl rfl (w_ireturn rfl rfl ⟨rfl, _, by omega, hS4⟩)
set_option maxRecDepth 100000 in
theorem r_bh_5 (hS : r_S h b n p σ κ w so wh d t0 m on) (hn : n ≤ 300) (ht : t0 ≤ 2331) (hs : σ.length < 160) (hs1 : w + σ.length ≤ 303) (hdo : d = s_opn σ) (hop : t_is b n p 45 = true) : p_wp p_GT p_MT (dd + 9) m_X12_behindOne 28 (lv_args 0 [.ref 64]) [] h (fun v h2 => v = some (.int (Int32.ofNat 0)) ∧ ∃ w2, w2 + (s_se 1 σ).length = w + σ.length ∧ r_S h2 b n (t_x b n p) (5 :: s_se 1 σ) κ w2 so false (s_opn (s_se 1 σ)) t0 m on) := by
  have hS' := hS
  obtain ⟨fs, tv, tp, pv, cv, av, y1, e64, fl, f2, f3, f4, ⟨f8, ⟨t, f9, t256, tR⟩, ⟨x10, f10, f10'⟩, ⟨z11, f11, f11'⟩, a7, f7, a7n, a7e⟩, f12, f13, f14, f15, f16, f17, f18, f19, f20, f21, e67, tl, tm, e68, hb, e69, pl, hP, e70, cl, hK, f0, e65, a1⟩ := hS
  have hsl := s_se_len 1 σ
  have et : t = 45 := (tR.2.2.2 45 (by omega)).mpr (t_is_iff.mp hop)
  have nb := t_nb2 hop (by decide) (by decide)
  refine w_aload_n rfl rfl (w_getf rfl rfl e64 f9 (w_bp 43 rfl rfl (w_icmp_t rfl (t := 41) rfl (by rw [et]; decide) (w_aload_n rfl rfl (w_getf rfl rfl e64 f9 (w_bp 45 rfl rfl (w_icmp_f rfl (t := 54) rfl (by rw [et]; decide) (w_ic 5 rfl rfl (w_goto rfl (t := 83) rfl (w_istore_n rfl (by decide) (w_iload_n rfl p_lk_s1 (w_ifc_f rfl (t := 127) rfl (by decide) (w_aload_n rfl (w_s1 rfl rfl (by decide)) (w_iload_n rfl p_lk_s1 (w_static (nn := 0) (dc := dd + 8) (M' := m_X12_rank) rfl rfl rfl rfl (Nat.le_refl _) (r_rank (x := 5) (by decide)) ?_)))))))))))))))
  rintro v h2 ⟨rfl, rfl⟩
  rw [show s_rk 5 = 1 from rfl]
  refine w_virtual (dc := dd + 8) (M' := m_X12_settle) rfl (g_vir (n := 2) rfl rfl (by simp [p_cat, p_bd, Value.category]) rfl rfl e64 rfl) rfl rfl (Nat.le_refl _) ((r_settle (dd := dd) (l := 1) (by decide) (by decide) hn ht σ w d _ (by omega) hs1 hdo hS').mono (by omega) (fun _ _ q => q)) ?_
  rintro v h2 ⟨rfl, hS2⟩
  obtain ⟨fs2, tv2, tp2, pv2, cv2, av2, y12, e642, fl2, f22, f32, f42, ⟨f82, ⟨t2, f92, t2562, tR2⟩, ⟨x102, f102, f10'2⟩, ⟨z112, f112, f11'2⟩, a72, f72, a7n2, a7e2⟩, f122, f132, f142, f152, f162, f172, f182, f192, f202, f212, e672, tl2, tm2, e682, hb2, e692, pl2, hP2, e702, cl2, hK2, f02, e652, a12⟩ := hS2
  refine w_aload_n rfl (w_s1 rfl rfl (by decide)) (w_getf rfl rfl e642 f152 (w_aload_n rfl (w_s1 rfl rfl (by decide)) (w_getf rfl rfl e642 f172 (w_iload_n rfl p_lk_s1 (w_st rfl e692 (by omega) (by rw [pl2]; omega) (w_aload_n rfl (w_s1 rfl rfl (by decide)) (w_dup rfl rfl (w_getf rfl rfl (a_ga (by decide) e642) f172 (w_ic 1 rfl rfl (w_addN rfl (w_putf rfl rfl (a_ga (by decide) e642) rfl rfl (w_flt f172) (w_aload_n rfl (w_s1 rfl rfl (by decide)) (w_ic 0 rfl rfl (w_putf rfl rfl (a_gs (a_ga (by decide) e642)) rfl rfl (w_flt (w_fne f202 (by decide))) ?_))))))))))))))
  refine w_use (X := fun h => r_S h b n p (5 :: s_se 1 σ) κ (w + (σ.length - (s_se 1 σ).length)) so false (s_opn (s_se 1 σ)) t0 m on) ⟨_, _, _, _, _, _, _, (a_gs (a_gs (a_ga (by decide) e642))), (by first | exact fl2 | (simp only [List.length_set]; exact fl2)), (w_fne (w_fne f22 (by decide)) (by decide)), (w_fne (w_fne f32 (by decide)) (by decide)), (w_fne (w_fne f42 (by decide)) (by decide)), ⟨(w_fne (w_fne f82 (by decide)) (by decide)), ⟨t2, (w_fne (w_fne f92 (by decide)) (by decide)), t2562, tR2⟩, ⟨x102, (w_fne (w_fne f102 (by decide)) (by decide)), f10'2⟩, ⟨z112, (w_fne (w_fne f112 (by decide)) (by decide)), f11'2⟩, a72, (w_fne (w_fne f72 (by decide)) (by decide)), a7n2, a7e2⟩, (w_fne (w_fne f122 (by decide)) (by decide)), (w_fne (w_fne f132 (by decide)) (by decide)), (w_fne (w_fne f142 (by decide)) (by decide)), (w_fne (w_fne f152 (by decide)) (by decide)), (w_fne (w_fne f162 (by decide)) (by decide)), (w_fne (w_fat f172) (by decide)), (w_fne (w_fne f182 (by decide)) (by decide)), (w_fne (w_fne f192 (by decide)) (by decide)), (w_fat (w_fne f202 (by decide))), (w_fne (w_fne f212 (by decide)) (by decide)), (a_ga (by decide) (a_ga (by decide) (a_ga (by decide) e672))), (by first | exact tl2 | (simp only [List.length_set]; exact tl2)), tm2, (a_ga (by decide) (a_ga (by decide) (a_ga (by decide) e682))), hb2, (a_ga (by decide) (a_ga (by decide) (a_gs e692))), (by first | exact pl2 | (simp only [List.length_set]; exact pl2)), ⟨List.getElem?_set_self (by rw [pl2]; omega), by decide, r_P_set (Nat.le_refl _) hP2⟩, (a_ga (by decide) (a_ga (by decide) (a_ga (by decide) e702))), (by first | exact cl2 | (simp only [List.length_set]; exact cl2)), hK2, (w_fne (w_fne f02 (by decide)) (by decide)), (a_ga (by decide) (a_ga (by decide) (a_ga (by decide) e652))), a12⟩ (fun hS3 => ?_)
  refine w_aload_n rfl (w_s1 rfl rfl (by decide)) (w_virtual (dc := dd + 8) (M' := m_X12_nextToken) rfl (g_vir (n := 1) rfl rfl (by simp [p_cat, p_bd, Value.category]) rfl rfl (a_gs (a_gs (a_ga (by decide) e642))) rfl) rfl rfl (Nat.le_refl _) ((r_nextS (dd := dd) hS3 hn nb).mono (by omega) (fun _ _ q => q)) ?_)
  rintro v h4 ⟨rfl, hS4⟩
  exact w_ic 0 rfl rfl (w_ireturn rfl rfl ⟨rfl, _, by omega, hS4⟩)
set_option maxRecDepth 100000 in
theorem r_bh_6 (hS : r_S h b n p σ κ w so wh d t0 m on) (hn : n ≤ 300) (ht : t0 ≤ 2331) (hs : σ.length < 160) (hs1 : w + σ.length ≤ 303) (hdo : d = s_opn σ) (hop : t_is b n p 42 = true) : p_wp p_GT p_MT (dd + 9) m_X12_behindOne 28 (lv_args 0 [.ref 64]) [] h (fun v h2 => v = some (.int (Int32.ofNat 0)) ∧ ∃ w2, w2 + (s_se 2 σ).length = w + σ.length ∧ r_S h2 b n (t_x b n p) (6 :: s_se 2 σ) κ w2 so false (s_opn (s_se 2 σ)) t0 m on) := by
  have hS' := hS
  obtain ⟨fs, tv, tp, pv, cv, av, y1, e64, fl, f2, f3, f4, ⟨f8, ⟨t, f9, t256, tR⟩, ⟨x10, f10, f10'⟩, ⟨z11, f11, f11'⟩, a7, f7, a7n, a7e⟩, f12, f13, f14, f15, f16, f17, f18, f19, f20, f21, e67, tl, tm, e68, hb, e69, pl, hP, e70, cl, hK, f0, e65, a1⟩ := hS
  have hsl := s_se_len 2 σ
  have et : t = 42 := (tR.2.2.2 42 (by omega)).mpr (t_is_iff.mp hop)
  have nb := t_nb2 hop (by decide) (by decide)
  refine w_aload_n rfl rfl (w_getf rfl rfl e64 f9 (w_bp 43 rfl rfl (w_icmp_t rfl (t := 41) rfl (by rw [et]; decide) (w_aload_n rfl rfl (w_getf rfl rfl e64 f9 (w_bp 45 rfl rfl (w_icmp_t rfl (t := 54) rfl (by rw [et]; decide) (w_aload_n rfl rfl (w_getf rfl rfl e64 f9 (w_bp 42 rfl rfl (w_icmp_f rfl (t := 68) rfl (by rw [et]; decide) (w_bp 6 rfl rfl (w_goto rfl (t := 83) rfl (w_istore_n rfl (by decide) (w_iload_n rfl p_lk_s1 (w_ifc_f rfl (t := 127) rfl (by decide) (w_aload_n rfl (w_s1 rfl rfl (by decide)) (w_iload_n rfl p_lk_s1 (w_static (nn := 0) (dc := dd + 8) (M' := m_X12_rank) rfl rfl rfl rfl (Nat.le_refl _) (r_rank (x := 6) (by decide)) ?_)))))))))))))))))))
  rintro v h2 ⟨rfl, rfl⟩
  rw [show s_rk 6 = 2 from rfl]
  refine w_virtual (dc := dd + 8) (M' := m_X12_settle) rfl (g_vir (n := 2) rfl rfl (by simp [p_cat, p_bd, Value.category]) rfl rfl e64 rfl) rfl rfl (Nat.le_refl _) ((r_settle (dd := dd) (l := 2) (by decide) (by decide) hn ht σ w d _ (by omega) hs1 hdo hS').mono (by omega) (fun _ _ q => q)) ?_
  rintro v h2 ⟨rfl, hS2⟩
  obtain ⟨fs2, tv2, tp2, pv2, cv2, av2, y12, e642, fl2, f22, f32, f42, ⟨f82, ⟨t2, f92, t2562, tR2⟩, ⟨x102, f102, f10'2⟩, ⟨z112, f112, f11'2⟩, a72, f72, a7n2, a7e2⟩, f122, f132, f142, f152, f162, f172, f182, f192, f202, f212, e672, tl2, tm2, e682, hb2, e692, pl2, hP2, e702, cl2, hK2, f02, e652, a12⟩ := hS2
  refine w_aload_n rfl (w_s1 rfl rfl (by decide)) (w_getf rfl rfl e642 f152 (w_aload_n rfl (w_s1 rfl rfl (by decide)) (w_getf rfl rfl e642 f172 (w_iload_n rfl p_lk_s1 (w_st rfl e692 (by omega) (by rw [pl2]; omega) (w_aload_n rfl (w_s1 rfl rfl (by decide)) (w_dup rfl rfl (w_getf rfl rfl (a_ga (by decide) e642) f172 (w_ic 1 rfl rfl (w_addN rfl (w_putf rfl rfl (a_ga (by decide) e642) rfl rfl (w_flt f172) (w_aload_n rfl (w_s1 rfl rfl (by decide)) (w_ic 0 rfl rfl (w_putf rfl rfl (a_gs (a_ga (by decide) e642)) rfl rfl (w_flt (w_fne f202 (by decide))) ?_))))))))))))))
  refine w_use (X := fun h => r_S h b n p (6 :: s_se 2 σ) κ (w + (σ.length - (s_se 2 σ).length)) so false (s_opn (s_se 2 σ)) t0 m on) ⟨_, _, _, _, _, _, _, (a_gs (a_gs (a_ga (by decide) e642))), (by first | exact fl2 | (simp only [List.length_set]; exact fl2)), (w_fne (w_fne f22 (by decide)) (by decide)), (w_fne (w_fne f32 (by decide)) (by decide)), (w_fne (w_fne f42 (by decide)) (by decide)), ⟨(w_fne (w_fne f82 (by decide)) (by decide)), ⟨t2, (w_fne (w_fne f92 (by decide)) (by decide)), t2562, tR2⟩, ⟨x102, (w_fne (w_fne f102 (by decide)) (by decide)), f10'2⟩, ⟨z112, (w_fne (w_fne f112 (by decide)) (by decide)), f11'2⟩, a72, (w_fne (w_fne f72 (by decide)) (by decide)), a7n2, a7e2⟩, (w_fne (w_fne f122 (by decide)) (by decide)), (w_fne (w_fne f132 (by decide)) (by decide)), (w_fne (w_fne f142 (by decide)) (by decide)), (w_fne (w_fne f152 (by decide)) (by decide)), (w_fne (w_fne f162 (by decide)) (by decide)), (w_fne (w_fat f172) (by decide)), (w_fne (w_fne f182 (by decide)) (by decide)), (w_fne (w_fne f192 (by decide)) (by decide)), (w_fat (w_fne f202 (by decide))), (w_fne (w_fne f212 (by decide)) (by decide)), (a_ga (by decide) (a_ga (by decide) (a_ga (by decide) e672))), (by first | exact tl2 | (simp only [List.length_set]; exact tl2)), tm2, (a_ga (by decide) (a_ga (by decide) (a_ga (by decide) e682))), hb2, (a_ga (by decide) (a_ga (by decide) (a_gs e692))), (by first | exact pl2 | (simp only [List.length_set]; exact pl2)), ⟨List.getElem?_set_self (by rw [pl2]; omega), by decide, r_P_set (Nat.le_refl _) hP2⟩, (a_ga (by decide) (a_ga (by decide) (a_ga (by decide) e702))), (by first | exact cl2 | (simp only [List.length_set]; exact cl2)), hK2, (w_fne (w_fne f02 (by decide)) (by decide)), (a_ga (by decide) (a_ga (by decide) (a_ga (by decide) e652))), a12⟩ (fun hS3 => ?_)
  refine w_aload_n rfl (w_s1 rfl rfl (by decide)) (w_virtual (dc := dd + 8) (M' := m_X12_nextToken) rfl (g_vir (n := 1) rfl rfl (by simp [p_cat, p_bd, Value.category]) rfl rfl (a_gs (a_gs (a_ga (by decide) e642))) rfl) rfl rfl (Nat.le_refl _) ((r_nextS (dd := dd) hS3 hn nb).mono (by omega) (fun _ _ q => q)) ?_)
  rintro v h4 ⟨rfl, hS4⟩
  exact w_ic 0 rfl rfl (w_ireturn rfl rfl ⟨rfl, _, by omega, hS4⟩)
set_option maxRecDepth 100000 in
theorem r_bh_7 (hS : r_S h b n p σ κ w so wh d t0 m on) (hn : n ≤ 300) (ht : t0 ≤ 2331) (hs : σ.length < 160) (hs1 : w + σ.length ≤ 303) (hdo : d = s_opn σ) (hop : t_is b n p 47 = true) : p_wp p_GT p_MT (dd + 9) m_X12_behindOne 28 (lv_args 0 [.ref 64]) [] h (fun v h2 => v = some (.int (Int32.ofNat 0)) ∧ ∃ w2, w2 + (s_se 2 σ).length = w + σ.length ∧ r_S h2 b n (t_x b n p) (7 :: s_se 2 σ) κ w2 so false (s_opn (s_se 2 σ)) t0 m on) := by
  have hS' := hS
  obtain ⟨fs, tv, tp, pv, cv, av, y1, e64, fl, f2, f3, f4, ⟨f8, ⟨t, f9, t256, tR⟩, ⟨x10, f10, f10'⟩, ⟨z11, f11, f11'⟩, a7, f7, a7n, a7e⟩, f12, f13, f14, f15, f16, f17, f18, f19, f20, f21, e67, tl, tm, e68, hb, e69, pl, hP, e70, cl, hK, f0, e65, a1⟩ := hS
  have hsl := s_se_len 2 σ
  have et : t = 47 := (tR.2.2.2 47 (by omega)).mpr (t_is_iff.mp hop)
  have nb := t_nb2 hop (by decide) (by decide)
  refine w_aload_n rfl rfl (w_getf rfl rfl e64 f9 (w_bp 43 rfl rfl (w_icmp_t rfl (t := 41) rfl (by rw [et]; decide) (w_aload_n rfl rfl (w_getf rfl rfl e64 f9 (w_bp 45 rfl rfl (w_icmp_t rfl (t := 54) rfl (by rw [et]; decide) (w_aload_n rfl rfl (w_getf rfl rfl e64 f9 (w_bp 42 rfl rfl (w_icmp_t rfl (t := 68) rfl (by rw [et]; decide) (w_aload_n rfl rfl (w_getf rfl rfl e64 f9 (w_bp 47 rfl rfl (w_icmp_f rfl (t := 82) rfl (by rw [et]; decide) (w_bp 7 rfl rfl (w_goto rfl (t := 83) rfl (w_istore_n rfl (by decide) (w_iload_n rfl p_lk_s1 (w_ifc_f rfl (t := 127) rfl (by decide) (w_aload_n rfl (w_s1 rfl rfl (by decide)) (w_iload_n rfl p_lk_s1 (w_static (nn := 0) (dc := dd + 8) (M' := m_X12_rank) rfl rfl rfl rfl (Nat.le_refl _) (r_rank (x := 7) (by decide)) ?_)))))))))))))))))))))))
  rintro v h2 ⟨rfl, rfl⟩
  rw [show s_rk 7 = 2 from rfl]
  refine w_virtual (dc := dd + 8) (M' := m_X12_settle) rfl (g_vir (n := 2) rfl rfl (by simp [p_cat, p_bd, Value.category]) rfl rfl e64 rfl) rfl rfl (Nat.le_refl _) ((r_settle (dd := dd) (l := 2) (by decide) (by decide) hn ht σ w d _ (by omega) hs1 hdo hS').mono (by omega) (fun _ _ q => q)) ?_
  rintro v h2 ⟨rfl, hS2⟩
  obtain ⟨fs2, tv2, tp2, pv2, cv2, av2, y12, e642, fl2, f22, f32, f42, ⟨f82, ⟨t2, f92, t2562, tR2⟩, ⟨x102, f102, f10'2⟩, ⟨z112, f112, f11'2⟩, a72, f72, a7n2, a7e2⟩, f122, f132, f142, f152, f162, f172, f182, f192, f202, f212, e672, tl2, tm2, e682, hb2, e692, pl2, hP2, e702, cl2, hK2, f02, e652, a12⟩ := hS2
  refine w_aload_n rfl (w_s1 rfl rfl (by decide)) (w_getf rfl rfl e642 f152 (w_aload_n rfl (w_s1 rfl rfl (by decide)) (w_getf rfl rfl e642 f172 (w_iload_n rfl p_lk_s1 (w_st rfl e692 (by omega) (by rw [pl2]; omega) (w_aload_n rfl (w_s1 rfl rfl (by decide)) (w_dup rfl rfl (w_getf rfl rfl (a_ga (by decide) e642) f172 (w_ic 1 rfl rfl (w_addN rfl (w_putf rfl rfl (a_ga (by decide) e642) rfl rfl (w_flt f172) (w_aload_n rfl (w_s1 rfl rfl (by decide)) (w_ic 0 rfl rfl (w_putf rfl rfl (a_gs (a_ga (by decide) e642)) rfl rfl (w_flt (w_fne f202 (by decide))) ?_))))))))))))))
  refine w_use (X := fun h => r_S h b n p (7 :: s_se 2 σ) κ (w + (σ.length - (s_se 2 σ).length)) so false (s_opn (s_se 2 σ)) t0 m on) ⟨_, _, _, _, _, _, _, (a_gs (a_gs (a_ga (by decide) e642))), (by first | exact fl2 | (simp only [List.length_set]; exact fl2)), (w_fne (w_fne f22 (by decide)) (by decide)), (w_fne (w_fne f32 (by decide)) (by decide)), (w_fne (w_fne f42 (by decide)) (by decide)), ⟨(w_fne (w_fne f82 (by decide)) (by decide)), ⟨t2, (w_fne (w_fne f92 (by decide)) (by decide)), t2562, tR2⟩, ⟨x102, (w_fne (w_fne f102 (by decide)) (by decide)), f10'2⟩, ⟨z112, (w_fne (w_fne f112 (by decide)) (by decide)), f11'2⟩, a72, (w_fne (w_fne f72 (by decide)) (by decide)), a7n2, a7e2⟩, (w_fne (w_fne f122 (by decide)) (by decide)), (w_fne (w_fne f132 (by decide)) (by decide)), (w_fne (w_fne f142 (by decide)) (by decide)), (w_fne (w_fne f152 (by decide)) (by decide)), (w_fne (w_fne f162 (by decide)) (by decide)), (w_fne (w_fat f172) (by decide)), (w_fne (w_fne f182 (by decide)) (by decide)), (w_fne (w_fne f192 (by decide)) (by decide)), (w_fat (w_fne f202 (by decide))), (w_fne (w_fne f212 (by decide)) (by decide)), (a_ga (by decide) (a_ga (by decide) (a_ga (by decide) e672))), (by first | exact tl2 | (simp only [List.length_set]; exact tl2)), tm2, (a_ga (by decide) (a_ga (by decide) (a_ga (by decide) e682))), hb2, (a_ga (by decide) (a_ga (by decide) (a_gs e692))), (by first | exact pl2 | (simp only [List.length_set]; exact pl2)), ⟨List.getElem?_set_self (by rw [pl2]; omega), by decide, r_P_set (Nat.le_refl _) hP2⟩, (a_ga (by decide) (a_ga (by decide) (a_ga (by decide) e702))), (by first | exact cl2 | (simp only [List.length_set]; exact cl2)), hK2, (w_fne (w_fne f02 (by decide)) (by decide)), (a_ga (by decide) (a_ga (by decide) (a_ga (by decide) e652))), a12⟩ (fun hS3 => ?_)
  refine w_aload_n rfl (w_s1 rfl rfl (by decide)) (w_virtual (dc := dd + 8) (M' := m_X12_nextToken) rfl (g_vir (n := 1) rfl rfl (by simp [p_cat, p_bd, Value.category]) rfl rfl (a_gs (a_gs (a_ga (by decide) e642))) rfl) rfl rfl (Nat.le_refl _) ((r_nextS (dd := dd) hS3 hn nb).mono (by omega) (fun _ _ q => q)) ?_)
  rintro v h4 ⟨rfl, hS4⟩
  exact w_ic 0 rfl rfl (w_ireturn rfl rfl ⟨rfl, _, by omega, hS4⟩)
set_option maxRecDepth 100000 in
theorem r_bh_nx (hS : r_S h b n p σ κ w so wh d t0 m on) (hn : n ≤ 300) (ht : t0 ≤ 2331) (hs : σ.length < 160) (hs1 : w + σ.length ≤ 303) (hdo : d = s_opn σ) (hno : ∀ c, c = 43 ∨ c = 45 ∨ c = 42 ∨ c = 47 → t_is b n p c = false) (hop : t_is b n p 44 = true) {ρ : List Nat} (hse : s_se 1 σ = 42 :: ρ) {Q : Option Value → p_H → Prop} (H : p_wp p_GT p_MT (dd + 8) m_X12_nextOfNth 0 (lv_args 0 [.ref 64]) [] h Q) (hQ : ∀ v h2, Q v h2 → ∃ x : Int32, v = some (.int x)) : p_wp p_GT p_MT (dd + 9) m_X12_behindOne 28 (lv_args 0 [.ref 64]) [] h Q := by
  have hS' := hS
  obtain ⟨fs, tv, tp, pv, cv, av, y1, e64, fl, f2, f3, f4, ⟨f8, ⟨t, f9, t256, tR⟩, ⟨x10, f10, f10'⟩, ⟨z11, f11, f11'⟩, a7, f7, a7n, a7e⟩, f12, f13, f14, f15, f16, f17, f18, f19, f20, f21, e67, tl, tm, e68, hb, e69, pl, hP, e70, cl, hK, f0, e65, a1⟩ := hS
  have e43 : ¬ t = 43 := fun e => by
    have := t_is_iff.mpr ((tR.2.2.2 43 (by omega)).mp e)
    rw [hno 43 (by omega)] at this; cases this
  have e45 : ¬ t = 45 := fun e => by
    have := t_is_iff.mpr ((tR.2.2.2 45 (by omega)).mp e)
    rw [hno 45 (by omega)] at this; cases this
  have e42 : ¬ t = 42 := fun e => by
    have := t_is_iff.mpr ((tR.2.2.2 42 (by omega)).mp e)
    rw [hno 42 (by omega)] at this; cases this
  have e47 : ¬ t = 47 := fun e => by
    have := t_is_iff.mpr ((tR.2.2.2 47 (by omega)).mp e)
    rw [hno 47 (by omega)] at this; cases this
  refine w_aload_n rfl rfl (w_getf rfl rfl e64 f9 (w_bp 43 rfl rfl (w_icmp_t rfl (t := 41) rfl (by simp only [p_cd, decide_eq_true_eq]; exact b_ofNat_ne (by omega) (by omega) e43) (w_aload_n rfl rfl (w_getf rfl rfl e64 f9 (w_bp 45 rfl rfl (w_icmp_t rfl (t := 54) rfl (by simp only [p_cd, decide_eq_true_eq]; exact b_ofNat_ne (by omega) (by omega) e45) (w_aload_n rfl rfl (w_getf rfl rfl e64 f9 (w_bp 42 rfl rfl (w_icmp_t rfl (t := 68) rfl (by simp only [p_cd, decide_eq_true_eq]; exact b_ofNat_ne (by omega) (by omega) e42) (w_aload_n rfl rfl (w_getf rfl rfl e64 f9 (w_bp 47 rfl rfl (w_icmp_t rfl (t := 82) rfl (by simp only [p_cd, decide_eq_true_eq]; exact b_ofNat_ne (by omega) (by omega) e47) (w_iconst rfl (w_istore_n rfl (by decide) (w_iload_n rfl p_lk_s1 (w_ifc_t rfl (t := 127) rfl (by decide) (w_aload_n rfl (w_s1 rfl rfl (by decide)) (w_virtual (dc := dd + 8) (M' := m_X12_openNow) rfl (g_vir (n := 1) rfl rfl (by simp [p_cat, p_bd, Value.category]) rfl rfl e64 rfl) rfl rfl (Nat.le_refl _) (r_on (dd := dd + 8) hS' (by omega)) ?_)))))))))))))))))))))
  rintro v h2 ⟨rfl, rfl⟩
  refine w_istore_n rfl (by decide) ?_
  have et : t = 44 := (tR.2.2.2 44 (by omega)).mpr (t_is_iff.mp hop)
  rw [s_se_on (by decide) hse (by decide)]
  refine w_iload_n rfl p_lk_s1 (w_bp 42 rfl rfl (w_icmp_f rfl (t := 152) rfl (by decide) (w_aload_n rfl (w_s1 (w_s1 rfl rfl (by decide)) rfl (by decide)) (w_getf rfl rfl e64 f9 (w_bp 44 rfl rfl (w_icmp_f rfl (t := 152) rfl (by rw [et]; decide) (w_aload_n rfl (w_s1 (w_s1 rfl rfl (by decide)) rfl (by decide)) (w_virtual (dc := dd + 8) (M' := m_X12_nextOfNth) rfl (g_vir (n := 1) rfl rfl (by simp [p_cat, p_bd, Value.category]) rfl rfl e64 rfl) rfl rfl (Nat.le_refl _) H ?_))))))))
  intro v h2 q
  obtain ⟨x, rfl⟩ := hQ v h2 q
  exact w_ireturn rfl rfl q
set_option maxRecDepth 100000 in
theorem r_bh_no0 (hS : r_S h b n p σ κ w so wh d t0 m on) (hn : n ≤ 300) (ht : t0 ≤ 2331) (hs : σ.length < 160) (hs1 : w + σ.length ≤ 303) (hdo : d = s_opn σ) (hno : ∀ c, c = 43 ∨ c = 45 ∨ c = 42 ∨ c = 47 → t_is b n p c = false) (hse : s_se 1 σ = []) : p_wp p_GT p_MT (dd + 9) m_X12_behindOne 28 (lv_args 0 [.ref 64]) [] h (fun v h2 => v = some (.int (Int32.ofInt (-1))) ∧ h2 = h) := by
  have hS' := hS
  obtain ⟨fs, tv, tp, pv, cv, av, y1, e64, fl, f2, f3, f4, ⟨f8, ⟨t, f9, t256, tR⟩, ⟨x10, f10, f10'⟩, ⟨z11, f11, f11'⟩, a7, f7, a7n, a7e⟩, f12, f13, f14, f15, f16, f17, f18, f19, f20, f21, e67, tl, tm, e68, hb, e69, pl, hP, e70, cl, hK, f0, e65, a1⟩ := hS
  have e43 : ¬ t = 43 := fun e => by
    have := t_is_iff.mpr ((tR.2.2.2 43 (by omega)).mp e)
    rw [hno 43 (by omega)] at this; cases this
  have e45 : ¬ t = 45 := fun e => by
    have := t_is_iff.mpr ((tR.2.2.2 45 (by omega)).mp e)
    rw [hno 45 (by omega)] at this; cases this
  have e42 : ¬ t = 42 := fun e => by
    have := t_is_iff.mpr ((tR.2.2.2 42 (by omega)).mp e)
    rw [hno 42 (by omega)] at this; cases this
  have e47 : ¬ t = 47 := fun e => by
    have := t_is_iff.mpr ((tR.2.2.2 47 (by omega)).mp e)
    rw [hno 47 (by omega)] at this; cases this
  refine w_aload_n rfl rfl (w_getf rfl rfl e64 f9 (w_bp 43 rfl rfl (w_icmp_t rfl (t := 41) rfl (by simp only [p_cd, decide_eq_true_eq]; exact b_ofNat_ne (by omega) (by omega) e43) (w_aload_n rfl rfl (w_getf rfl rfl e64 f9 (w_bp 45 rfl rfl (w_icmp_t rfl (t := 54) rfl (by simp only [p_cd, decide_eq_true_eq]; exact b_ofNat_ne (by omega) (by omega) e45) (w_aload_n rfl rfl (w_getf rfl rfl e64 f9 (w_bp 42 rfl rfl (w_icmp_t rfl (t := 68) rfl (by simp only [p_cd, decide_eq_true_eq]; exact b_ofNat_ne (by omega) (by omega) e42) (w_aload_n rfl rfl (w_getf rfl rfl e64 f9 (w_bp 47 rfl rfl (w_icmp_t rfl (t := 82) rfl (by simp only [p_cd, decide_eq_true_eq]; exact b_ofNat_ne (by omega) (by omega) e47) (w_iconst rfl (w_istore_n rfl (by decide) (w_iload_n rfl p_lk_s1 (w_ifc_t rfl (t := 127) rfl (by decide) (w_aload_n rfl (w_s1 rfl rfl (by decide)) (w_virtual (dc := dd + 8) (M' := m_X12_openNow) rfl (g_vir (n := 1) rfl rfl (by simp [p_cat, p_bd, Value.category]) rfl rfl e64 rfl) rfl rfl (Nat.le_refl _) (r_on (dd := dd + 8) hS' (by omega)) ?_)))))))))))))))))))))
  rintro v h2 ⟨rfl, rfl⟩
  refine w_istore_n rfl (by decide) ?_
  rw [s_se_on0 hse]
  exact w_iload_n rfl p_lk_s1 (w_bp 42 rfl rfl (w_icmp_t rfl (t := 152) rfl (by decide) (w_iload_n rfl p_lk_s1 (w_iconst rfl (w_icmp_t rfl (t := 166) rfl (by decide) (w_iconst rfl (w_ireturn rfl rfl ⟨rfl, rfl⟩)))))))
set_option maxRecDepth 100000 in
theorem r_bh_no40 (hS : r_S h b n p σ κ w so wh d t0 m on) (hn : n ≤ 300) (ht : t0 ≤ 2331) (hs : σ.length < 160) (hs1 : w + σ.length ≤ 303) (hdo : d = s_opn σ) (hno : ∀ c, c = 43 ∨ c = 45 ∨ c = 42 ∨ c = 47 → t_is b n p c = false) {ρ : List Nat} (hse : s_se 1 σ = 40 :: ρ) (h41 : t_is b n p 41 = false) : p_wp p_GT p_MT (dd + 9) m_X12_behindOne 28 (lv_args 0 [.ref 64]) [] h (fun v h2 => v = some (.int (Int32.ofInt (-1))) ∧ h2 = h) := by
  have hS' := hS
  obtain ⟨fs, tv, tp, pv, cv, av, y1, e64, fl, f2, f3, f4, ⟨f8, ⟨t, f9, t256, tR⟩, ⟨x10, f10, f10'⟩, ⟨z11, f11, f11'⟩, a7, f7, a7n, a7e⟩, f12, f13, f14, f15, f16, f17, f18, f19, f20, f21, e67, tl, tm, e68, hb, e69, pl, hP, e70, cl, hK, f0, e65, a1⟩ := hS
  have e43 : ¬ t = 43 := fun e => by
    have := t_is_iff.mpr ((tR.2.2.2 43 (by omega)).mp e)
    rw [hno 43 (by omega)] at this; cases this
  have e45 : ¬ t = 45 := fun e => by
    have := t_is_iff.mpr ((tR.2.2.2 45 (by omega)).mp e)
    rw [hno 45 (by omega)] at this; cases this
  have e42 : ¬ t = 42 := fun e => by
    have := t_is_iff.mpr ((tR.2.2.2 42 (by omega)).mp e)
    rw [hno 42 (by omega)] at this; cases this
  have e47 : ¬ t = 47 := fun e => by
    have := t_is_iff.mpr ((tR.2.2.2 47 (by omega)).mp e)
    rw [hno 47 (by omega)] at this; cases this
  refine w_aload_n rfl rfl (w_getf rfl rfl e64 f9 (w_bp 43 rfl rfl (w_icmp_t rfl (t := 41) rfl (by simp only [p_cd, decide_eq_true_eq]; exact b_ofNat_ne (by omega) (by omega) e43) (w_aload_n rfl rfl (w_getf rfl rfl e64 f9 (w_bp 45 rfl rfl (w_icmp_t rfl (t := 54) rfl (by simp only [p_cd, decide_eq_true_eq]; exact b_ofNat_ne (by omega) (by omega) e45) (w_aload_n rfl rfl (w_getf rfl rfl e64 f9 (w_bp 42 rfl rfl (w_icmp_t rfl (t := 68) rfl (by simp only [p_cd, decide_eq_true_eq]; exact b_ofNat_ne (by omega) (by omega) e42) (w_aload_n rfl rfl (w_getf rfl rfl e64 f9 (w_bp 47 rfl rfl (w_icmp_t rfl (t := 82) rfl (by simp only [p_cd, decide_eq_true_eq]; exact b_ofNat_ne (by omega) (by omega) e47) (w_iconst rfl (w_istore_n rfl (by decide) (w_iload_n rfl p_lk_s1 (w_ifc_t rfl (t := 127) rfl (by decide) (w_aload_n rfl (w_s1 rfl rfl (by decide)) (w_virtual (dc := dd + 8) (M' := m_X12_openNow) rfl (g_vir (n := 1) rfl rfl (by simp [p_cat, p_bd, Value.category]) rfl rfl e64 rfl) rfl rfl (Nat.le_refl _) (r_on (dd := dd + 8) hS' (by omega)) ?_)))))))))))))))))))))
  rintro v h2 ⟨rfl, rfl⟩
  refine w_istore_n rfl (by decide) ?_
  rw [s_se_on (by decide) hse (by decide)]
  have e41 : ¬ t = 41 := fun e => by
    have := t_is_iff.mpr ((tR.2.2.2 41 (by omega)).mp e)
    rw [h41] at this; cases this
  exact w_iload_n rfl p_lk_s1 (w_bp 42 rfl rfl (w_icmp_t rfl (t := 152) rfl (by decide) (w_iload_n rfl p_lk_s1 (w_iconst rfl (w_icmp_f rfl (t := 166) rfl (by decide) (w_aload_n rfl (w_s1 (w_s1 rfl rfl (by decide)) rfl (by decide)) (w_getf rfl rfl e64 f9 (w_bp 41 rfl rfl (w_icmp_f rfl (t := 168) rfl (by simp only [p_cd, decide_eq_false_iff_not]; exact b_ofNat_ne (by omega) (by omega) e41) (w_iconst rfl (w_ireturn rfl rfl ⟨rfl, rfl⟩)))))))))))
set_option maxRecDepth 100000 in
theorem r_bh_no42 (hS : r_S h b n p σ κ w so wh d t0 m on) (hn : n ≤ 300) (ht : t0 ≤ 2331) (hs : σ.length < 160) (hs1 : w + σ.length ≤ 303) (hdo : d = s_opn σ) (hno : ∀ c, c = 43 ∨ c = 45 ∨ c = 42 ∨ c = 47 → t_is b n p c = false) {ρ : List Nat} (hse : s_se 1 σ = 42 :: ρ) (h41 : t_is b n p 41 = false) (h44 : t_is b n p 44 = false) : p_wp p_GT p_MT (dd + 9) m_X12_behindOne 28 (lv_args 0 [.ref 64]) [] h (fun v h2 => v = some (.int (Int32.ofInt (-1))) ∧ h2 = h) := by
  have hS' := hS
  obtain ⟨fs, tv, tp, pv, cv, av, y1, e64, fl, f2, f3, f4, ⟨f8, ⟨t, f9, t256, tR⟩, ⟨x10, f10, f10'⟩, ⟨z11, f11, f11'⟩, a7, f7, a7n, a7e⟩, f12, f13, f14, f15, f16, f17, f18, f19, f20, f21, e67, tl, tm, e68, hb, e69, pl, hP, e70, cl, hK, f0, e65, a1⟩ := hS
  have e43 : ¬ t = 43 := fun e => by
    have := t_is_iff.mpr ((tR.2.2.2 43 (by omega)).mp e)
    rw [hno 43 (by omega)] at this; cases this
  have e45 : ¬ t = 45 := fun e => by
    have := t_is_iff.mpr ((tR.2.2.2 45 (by omega)).mp e)
    rw [hno 45 (by omega)] at this; cases this
  have e42 : ¬ t = 42 := fun e => by
    have := t_is_iff.mpr ((tR.2.2.2 42 (by omega)).mp e)
    rw [hno 42 (by omega)] at this; cases this
  have e47 : ¬ t = 47 := fun e => by
    have := t_is_iff.mpr ((tR.2.2.2 47 (by omega)).mp e)
    rw [hno 47 (by omega)] at this; cases this
  refine w_aload_n rfl rfl (w_getf rfl rfl e64 f9 (w_bp 43 rfl rfl (w_icmp_t rfl (t := 41) rfl (by simp only [p_cd, decide_eq_true_eq]; exact b_ofNat_ne (by omega) (by omega) e43) (w_aload_n rfl rfl (w_getf rfl rfl e64 f9 (w_bp 45 rfl rfl (w_icmp_t rfl (t := 54) rfl (by simp only [p_cd, decide_eq_true_eq]; exact b_ofNat_ne (by omega) (by omega) e45) (w_aload_n rfl rfl (w_getf rfl rfl e64 f9 (w_bp 42 rfl rfl (w_icmp_t rfl (t := 68) rfl (by simp only [p_cd, decide_eq_true_eq]; exact b_ofNat_ne (by omega) (by omega) e42) (w_aload_n rfl rfl (w_getf rfl rfl e64 f9 (w_bp 47 rfl rfl (w_icmp_t rfl (t := 82) rfl (by simp only [p_cd, decide_eq_true_eq]; exact b_ofNat_ne (by omega) (by omega) e47) (w_iconst rfl (w_istore_n rfl (by decide) (w_iload_n rfl p_lk_s1 (w_ifc_t rfl (t := 127) rfl (by decide) (w_aload_n rfl (w_s1 rfl rfl (by decide)) (w_virtual (dc := dd + 8) (M' := m_X12_openNow) rfl (g_vir (n := 1) rfl rfl (by simp [p_cat, p_bd, Value.category]) rfl rfl e64 rfl) rfl rfl (Nat.le_refl _) (r_on (dd := dd + 8) hS' (by omega)) ?_)))))))))))))))))))))
  rintro v h2 ⟨rfl, rfl⟩
  refine w_istore_n rfl (by decide) ?_
  rw [s_se_on (by decide) hse (by decide)]
  have e41 : ¬ t = 41 := fun e => by
    have := t_is_iff.mpr ((tR.2.2.2 41 (by omega)).mp e)
    rw [h41] at this; cases this
  have e44 : ¬ t = 44 := fun e => by
    have := t_is_iff.mpr ((tR.2.2.2 44 (by omega)).mp e)
    rw [h44] at this; cases this
  exact w_iload_n rfl p_lk_s1 (w_bp 42 rfl rfl (w_icmp_f rfl (t := 152) rfl (by decide) (w_aload_n rfl (w_s1 (w_s1 rfl rfl (by decide)) rfl (by decide)) (w_getf rfl rfl e64 f9 (w_bp 44 rfl rfl (w_icmp_t rfl (t := 152) rfl (by simp only [p_cd, decide_eq_true_eq]; exact b_ofNat_ne (by omega) (by omega) e44) (w_iload_n rfl p_lk_s1 (w_iconst rfl (w_icmp_f rfl (t := 166) rfl (by decide) (w_aload_n rfl (w_s1 (w_s1 rfl rfl (by decide)) rfl (by decide)) (w_getf rfl rfl e64 f9 (w_bp 41 rfl rfl (w_icmp_f rfl (t := 168) rfl (by simp only [p_cd, decide_eq_false_iff_not]; exact b_ofNat_ne (by omega) (by omega) e41) (w_iconst rfl (w_ireturn rfl rfl ⟨rfl, rfl⟩)))))))))))))))
set_option maxRecDepth 100000 in
theorem r_bh_cl40 (hS : r_S h b n p σ κ w so wh d t0 m on) (hn : n ≤ 300) (ht : t0 ≤ 2331) (hs : σ.length < 160) (hs1 : w + σ.length ≤ 303) (hdo : d = s_opn σ) (hno : ∀ c, c = 43 ∨ c = 45 ∨ c = 42 ∨ c = 47 → t_is b n p c = false) {ρ : List Nat} (hse : s_se 1 σ = 40 :: ρ) (h41 : t_is b n p 41 = true) : p_wp p_GT p_MT (dd + 9) m_X12_behindOne 28 (lv_args 0 [.ref 64]) [] h (fun v h2 => v = some (.int (Int32.ofNat 0)) ∧ ∃ w2, w2 + (s_se 3 ρ).length ≤ w + σ.length ∧ r_S h2 b n (t_x b n p) (s_se 3 ρ) κ w2 so wh (s_opn (s_se 3 ρ)) t0 m on) := by
  have hS' := hS
  obtain ⟨fs, tv, tp, pv, cv, av, y1, e64, fl, f2, f3, f4, ⟨f8, ⟨t, f9, t256, tR⟩, ⟨x10, f10, f10'⟩, ⟨z11, f11, f11'⟩, a7, f7, a7n, a7e⟩, f12, f13, f14, f15, f16, f17, f18, f19, f20, f21, e67, tl, tm, e68, hb, e69, pl, hP, e70, cl, hK, f0, e65, a1⟩ := hS
  have e43 : ¬ t = 43 := fun e => by
    have := t_is_iff.mpr ((tR.2.2.2 43 (by omega)).mp e)
    rw [hno 43 (by omega)] at this; cases this
  have e45 : ¬ t = 45 := fun e => by
    have := t_is_iff.mpr ((tR.2.2.2 45 (by omega)).mp e)
    rw [hno 45 (by omega)] at this; cases this
  have e42 : ¬ t = 42 := fun e => by
    have := t_is_iff.mpr ((tR.2.2.2 42 (by omega)).mp e)
    rw [hno 42 (by omega)] at this; cases this
  have e47 : ¬ t = 47 := fun e => by
    have := t_is_iff.mpr ((tR.2.2.2 47 (by omega)).mp e)
    rw [hno 47 (by omega)] at this; cases this
  refine w_aload_n rfl rfl (w_getf rfl rfl e64 f9 (w_bp 43 rfl rfl (w_icmp_t rfl (t := 41) rfl (by simp only [p_cd, decide_eq_true_eq]; exact b_ofNat_ne (by omega) (by omega) e43) (w_aload_n rfl rfl (w_getf rfl rfl e64 f9 (w_bp 45 rfl rfl (w_icmp_t rfl (t := 54) rfl (by simp only [p_cd, decide_eq_true_eq]; exact b_ofNat_ne (by omega) (by omega) e45) (w_aload_n rfl rfl (w_getf rfl rfl e64 f9 (w_bp 42 rfl rfl (w_icmp_t rfl (t := 68) rfl (by simp only [p_cd, decide_eq_true_eq]; exact b_ofNat_ne (by omega) (by omega) e42) (w_aload_n rfl rfl (w_getf rfl rfl e64 f9 (w_bp 47 rfl rfl (w_icmp_t rfl (t := 82) rfl (by simp only [p_cd, decide_eq_true_eq]; exact b_ofNat_ne (by omega) (by omega) e47) (w_iconst rfl (w_istore_n rfl (by decide) (w_iload_n rfl p_lk_s1 (w_ifc_t rfl (t := 127) rfl (by decide) (w_aload_n rfl (w_s1 rfl rfl (by decide)) (w_virtual (dc := dd + 8) (M' := m_X12_openNow) rfl (g_vir (n := 1) rfl rfl (by simp [p_cat, p_bd, Value.category]) rfl rfl e64 rfl) rfl rfl (Nat.le_refl _) (r_on (dd := dd + 8) hS' (by omega)) ?_)))))))))))))))))))))
  rintro v h2 ⟨rfl, rfl⟩
  refine w_istore_n rfl (by decide) ?_
  have e41 : t = 41 := (tR.2.2.2 41 (by omega)).mpr (t_is_iff.mp h41)
  have nb := t_nb2 h41 (by decide) (by decide)
  have hsl := s_se_len 1 σ
  have hsl3 := s_se_len 3 ρ
  rw [hse] at hsl
  rw [List.length_cons] at hsl
  rw [s_se_on (by decide) hse (by decide)]
  refine w_iload_n rfl p_lk_s1 (w_bp 42 rfl rfl (w_icmp_t rfl (t := 152) rfl (by decide) (w_iload_n rfl p_lk_s1 (w_iconst rfl (w_icmp_f rfl (t := 166) rfl (by decide) (w_aload_n rfl (w_s1 (w_s1 rfl rfl (by decide)) rfl (by decide)) (w_getf rfl rfl e64 f9 (w_bp 41 rfl rfl (w_icmp_t rfl (t := 168) rfl (by rw [e41]; decide) (w_aload_n rfl (w_s1 (w_s1 rfl rfl (by decide)) rfl (by decide)) (w_ic 1 rfl rfl (w_virtual (dc := dd + 8) (M' := m_X12_settle) rfl (g_vir (n := 2) rfl rfl (by simp [p_cat, p_bd, Value.category]) rfl rfl e64 rfl) rfl rfl (Nat.le_refl _) ((r_settle (dd := dd) (l := 1) (by decide) (by decide) hn ht σ w d _ (by omega) hs1 hdo hS').mono (by omega) (fun _ _ q => q)) ?_))))))))))))
  rintro v h2 ⟨rfl, hS2⟩
  rw [hse] at hS2
  obtain ⟨fs2, tv2, tp2, pv2, cv2, av2, y12, e642, fl2, f22, f32, f42, ⟨f82, ⟨t2, f92, t2562, tR2⟩, ⟨x102, f102, f10'2⟩, ⟨z112, f112, f11'2⟩, a72, f72, a7n2, a7e2⟩, f122, f132, f142, f152, f162, f172, f182, f192, f202, f212, e672, tl2, tm2, e682, hb2, e692, pl2, hP2, e702, cl2, hK2, f02, e652, a12⟩ := hS2
  have f172 : fs2[17]? = some (.int (Int32.ofNat (ρ.length + 1))) := f172
  have f182 : fs2[18]? = some (.int (Int32.ofNat (s_opn ρ + 1))) := f182
  have hP2b := hP2.2.2
  refine w_aload_n rfl (w_s1 (w_s1 rfl rfl (by decide)) rfl (by decide)) (w_dup rfl rfl (w_getf rfl rfl e642 f172 (w_ic 1 rfl rfl (w_subN rfl (by omega) (w_putf rfl rfl e642 rfl rfl (w_flt f172) (w_aload_n rfl (w_s1 (w_s1 rfl rfl (by decide)) rfl (by decide)) (w_dup rfl rfl (w_getf rfl rfl (a_gs e642) (w_fne f182 (by decide)) (w_ic 1 rfl rfl (w_subN rfl (by omega) (w_putf rfl rfl (a_gs e642) rfl rfl (w_flt (w_fne f182 (by decide))) (w_iload_n rfl p_lk_s1 (w_bp 42 rfl rfl (w_icmp_t rfl (t := 223) rfl (by decide) ?_))))))))))))))
  refine w_use (X := fun h => r_S h b n p ρ κ (w + (σ.length - (ρ.length + 1))) so wh (s_opn ρ) t0 m on) ⟨_, _, _, _, _, _, _, (a_gs (a_gs e642)), (by first | exact fl2 | (simp only [List.length_set]; exact fl2)), (w_fne (w_fne f22 (by decide)) (by decide)), (w_fne (w_fne f32 (by decide)) (by decide)), (w_fne (w_fne f42 (by decide)) (by decide)), ⟨(w_fne (w_fne f82 (by decide)) (by decide)), ⟨t2, (w_fne (w_fne f92 (by decide)) (by decide)), t2562, tR2⟩, ⟨x102, (w_fne (w_fne f102 (by decide)) (by decide)), f10'2⟩, ⟨z112, (w_fne (w_fne f112 (by decide)) (by decide)), f11'2⟩, a72, (w_fne (w_fne f72 (by decide)) (by decide)), a7n2, a7e2⟩, (w_fne (w_fne f122 (by decide)) (by decide)), (w_fne (w_fne f132 (by decide)) (by decide)), (w_fne (w_fne f142 (by decide)) (by decide)), (w_fne (w_fne f152 (by decide)) (by decide)), (w_fne (w_fne f162 (by decide)) (by decide)), (w_fne (w_fat f172) (by decide)), (w_fat (w_fne f182 (by decide))), (w_fne (w_fne f192 (by decide)) (by decide)), (w_fne (w_fne f202 (by decide)) (by decide)), (w_fne (w_fne f212 (by decide)) (by decide)), (a_ga (by decide) (a_ga (by decide) e672)), (by first | exact tl2 | (simp only [List.length_set]; exact tl2)), tm2, (a_ga (by decide) (a_ga (by decide) e682)), hb2, (a_ga (by decide) (a_ga (by decide) e692)), (by first | exact pl2 | (simp only [List.length_set]; exact pl2)), hP2b, (a_ga (by decide) (a_ga (by decide) e702)), (by first | exact cl2 | (simp only [List.length_set]; exact cl2)), hK2, (w_fne (w_fne f02 (by decide)) (by decide)), (a_ga (by decide) (a_ga (by decide) e652)), a12⟩ (fun hS3 => ?_)
  refine w_aload_n rfl (w_s1 (w_s1 rfl rfl (by decide)) rfl (by decide)) (w_virtual (dc := dd + 8) (M' := m_X12_nextToken) rfl (g_vir (n := 1) rfl rfl (by simp [p_cat, p_bd, Value.category]) rfl rfl (a_gs (a_gs e642)) rfl) rfl rfl (Nat.le_refl _) ((r_nextS (dd := dd) hS3 hn nb).mono (by omega) (fun _ _ q => q)) ?_)
  rintro v h5 ⟨rfl, hS5⟩
  have hS5' := hS5
  obtain ⟨fs5, tv5, tp5, pv5, cv5, av5, y15, e645, fl5, f25, f35, f45, ⟨f85, ⟨t5, f95, t2565, tR5⟩, ⟨x105, f105, f10'5⟩, ⟨z115, f115, f11'5⟩, a75, f75, a7n5, a7e5⟩, f125, f135, f145, f155, f165, f175, f185, f195, f205, f215, e675, tl5, tm5, e685, hb5, e695, pl5, hP5, e705, cl5, hK5, f05, e655, a15⟩ := hS5
  refine w_aload_n rfl (w_s1 (w_s1 rfl rfl (by decide)) rfl (by decide)) (w_ic 3 rfl rfl (w_virtual (dc := dd + 8) (M' := m_X12_settle) rfl (g_vir (n := 2) rfl rfl (by simp [p_cat, p_bd, Value.category]) rfl rfl e645 rfl) rfl rfl (Nat.le_refl _) ((r_settle (dd := dd) (l := 3) (by decide) (by decide) hn ht ρ (w + (σ.length - (ρ.length + 1))) (s_opn ρ) _ (by omega) (by omega) rfl hS5').mono (by omega) (fun _ _ q => q)) ?_))
  rintro v h6 ⟨rfl, hS6⟩
  exact w_ic 0 rfl rfl (w_ireturn rfl rfl ⟨rfl, _, by omega, hS6⟩)
set_option maxRecDepth 100000 in
theorem r_bh_cl42 (hS : r_S h b n p σ κ w so wh d t0 m on) (hn : n ≤ 300) (ht : t0 ≤ 2331) (hs : σ.length < 160) (hs1 : w + σ.length ≤ 303) (hdo : d = s_opn σ) (hno : ∀ c, c = 43 ∨ c = 45 ∨ c = 42 ∨ c = 47 → t_is b n p c = false) {ρ : List Nat} (hse : s_se 1 σ = 42 :: ρ) (h41 : t_is b n p 41 = true) {k : Nat} {κ0 : List Nat} (hk : κ = k :: κ0) : p_wp p_GT p_MT (dd + 9) m_X12_behindOne 28 (lv_args 0 [.ref 64]) [] h (fun v h2 => v = some (.int (Int32.ofNat 0)) ∧ ∃ w2, w2 + (s_se 3 ρ).length ≤ w + σ.length ∧ r_S h2 b n (t_x b n p) (s_se 3 ρ) κ0 w2 so wh (s_opn (s_se 3 ρ)) t0 m on) := by
  have hS' := hS
  obtain ⟨fs, tv, tp, pv, cv, av, y1, e64, fl, f2, f3, f4, ⟨f8, ⟨t, f9, t256, tR⟩, ⟨x10, f10, f10'⟩, ⟨z11, f11, f11'⟩, a7, f7, a7n, a7e⟩, f12, f13, f14, f15, f16, f17, f18, f19, f20, f21, e67, tl, tm, e68, hb, e69, pl, hP, e70, cl, hK, f0, e65, a1⟩ := hS
  have e43 : ¬ t = 43 := fun e => by
    have := t_is_iff.mpr ((tR.2.2.2 43 (by omega)).mp e)
    rw [hno 43 (by omega)] at this; cases this
  have e45 : ¬ t = 45 := fun e => by
    have := t_is_iff.mpr ((tR.2.2.2 45 (by omega)).mp e)
    rw [hno 45 (by omega)] at this; cases this
  have e42 : ¬ t = 42 := fun e => by
    have := t_is_iff.mpr ((tR.2.2.2 42 (by omega)).mp e)
    rw [hno 42 (by omega)] at this; cases this
  have e47 : ¬ t = 47 := fun e => by
    have := t_is_iff.mpr ((tR.2.2.2 47 (by omega)).mp e)
    rw [hno 47 (by omega)] at this; cases this
  refine w_aload_n rfl rfl (w_getf rfl rfl e64 f9 (w_bp 43 rfl rfl (w_icmp_t rfl (t := 41) rfl (by simp only [p_cd, decide_eq_true_eq]; exact b_ofNat_ne (by omega) (by omega) e43) (w_aload_n rfl rfl (w_getf rfl rfl e64 f9 (w_bp 45 rfl rfl (w_icmp_t rfl (t := 54) rfl (by simp only [p_cd, decide_eq_true_eq]; exact b_ofNat_ne (by omega) (by omega) e45) (w_aload_n rfl rfl (w_getf rfl rfl e64 f9 (w_bp 42 rfl rfl (w_icmp_t rfl (t := 68) rfl (by simp only [p_cd, decide_eq_true_eq]; exact b_ofNat_ne (by omega) (by omega) e42) (w_aload_n rfl rfl (w_getf rfl rfl e64 f9 (w_bp 47 rfl rfl (w_icmp_t rfl (t := 82) rfl (by simp only [p_cd, decide_eq_true_eq]; exact b_ofNat_ne (by omega) (by omega) e47) (w_iconst rfl (w_istore_n rfl (by decide) (w_iload_n rfl p_lk_s1 (w_ifc_t rfl (t := 127) rfl (by decide) (w_aload_n rfl (w_s1 rfl rfl (by decide)) (w_virtual (dc := dd + 8) (M' := m_X12_openNow) rfl (g_vir (n := 1) rfl rfl (by simp [p_cat, p_bd, Value.category]) rfl rfl e64 rfl) rfl rfl (Nat.le_refl _) (r_on (dd := dd + 8) hS' (by omega)) ?_)))))))))))))))))))))
  rintro v h2 ⟨rfl, rfl⟩
  refine w_istore_n rfl (by decide) ?_
  have e41 : t = 41 := (tR.2.2.2 41 (by omega)).mpr (t_is_iff.mp h41)
  have nb := t_nb2 h41 (by decide) (by decide)
  have hsl := s_se_len 1 σ
  have hsl3 := s_se_len 3 ρ
  rw [hse] at hsl
  rw [List.length_cons] at hsl
  rw [s_se_on (by decide) hse (by decide)]
  subst hk
  have f19 : fs[19]? = some (.int (Int32.ofNat (κ0.length + 1))) := f19
  refine w_iload_n rfl p_lk_s1 (w_bp 42 rfl rfl (w_icmp_f rfl (t := 152) rfl (by decide) (w_aload_n rfl (w_s1 (w_s1 rfl rfl (by decide)) rfl (by decide)) (w_getf rfl rfl e64 f9 (w_bp 44 rfl rfl (w_icmp_t rfl (t := 152) rfl (by rw [e41]; decide) (w_iload_n rfl p_lk_s1 (w_iconst rfl (w_icmp_f rfl (t := 166) rfl (by decide) (w_aload_n rfl (w_s1 (w_s1 rfl rfl (by decide)) rfl (by decide)) (w_getf rfl rfl e64 f9 (w_bp 41 rfl rfl (w_icmp_t rfl (t := 168) rfl (by rw [e41]; decide) (w_aload_n rfl (w_s1 (w_s1 rfl rfl (by decide)) rfl (by decide)) (w_ic 1 rfl rfl (w_virtual (dc := dd + 8) (M' := m_X12_settle) rfl (g_vir (n := 2) rfl rfl (by simp [p_cat, p_bd, Value.category]) rfl rfl e64 rfl) rfl rfl (Nat.le_refl _) ((r_settle (dd := dd) (l := 1) (by decide) (by decide) hn ht σ w d _ (by omega) hs1 hdo hS').mono (by omega) (fun _ _ q => q)) ?_))))))))))))))))
  rintro v h2 ⟨rfl, hS2⟩
  rw [hse] at hS2
  obtain ⟨fs2, tv2, tp2, pv2, cv2, av2, y12, e642, fl2, f22, f32, f42, ⟨f82, ⟨t2, f92, t2562, tR2⟩, ⟨x102, f102, f10'2⟩, ⟨z112, f112, f11'2⟩, a72, f72, a7n2, a7e2⟩, f122, f132, f142, f152, f162, f172, f182, f192, f202, f212, e672, tl2, tm2, e682, hb2, e692, pl2, hP2, e702, cl2, hK2, f02, e652, a12⟩ := hS2
  have f172 : fs2[17]? = some (.int (Int32.ofNat (ρ.length + 1))) := f172
  have f182 : fs2[18]? = some (.int (Int32.ofNat (s_opn ρ + 1))) := f182
  have f192 : fs2[19]? = some (.int (Int32.ofNat (κ0.length + 1))) := f192
  have hP2b := hP2.2.2
  have hpc : κ0.length + 1 ≤ cv2.length := r_P_len hK2
  refine w_aload_n rfl (w_s1 (w_s1 rfl rfl (by decide)) rfl (by decide)) (w_dup rfl rfl (w_getf rfl rfl e642 f172 (w_ic 1 rfl rfl (w_subN rfl (by omega) (w_putf rfl rfl e642 rfl rfl (w_flt f172) (w_aload_n rfl (w_s1 (w_s1 rfl rfl (by decide)) rfl (by decide)) (w_dup rfl rfl (w_getf rfl rfl (a_gs e642) (w_fne f182 (by decide)) (w_ic 1 rfl rfl (w_subN rfl (by omega) (w_putf rfl rfl (a_gs e642) rfl rfl (w_flt (w_fne f182 (by decide))) (w_iload_n rfl p_lk_s1 (w_bp 42 rfl rfl (w_icmp_f rfl (t := 223) rfl (by decide) (w_aload_n rfl (w_s1 (w_s1 rfl rfl (by decide)) rfl (by decide)) (w_dup rfl rfl (w_getf rfl rfl (a_gs (a_gs e642)) (w_fne (w_fne f192 (by decide)) (by decide)) (w_ic 1 rfl rfl (w_subN rfl (by omega) (w_putf rfl rfl (a_gs (a_gs e642)) rfl rfl (w_flt (w_fne (w_fne f192 (by decide)) (by decide))) (w_aload_n rfl (w_s1 (w_s1 rfl rfl (by decide)) rfl (by decide)) (w_ic 2 rfl rfl (w_aload_n rfl (w_s1 (w_s1 rfl rfl (by decide)) rfl (by decide)) (w_getf rfl rfl (a_gs (a_gs (a_gs e642))) (w_fne (w_fne (w_fne f162 (by decide)) (by decide)) (by decide)) (w_aload_n rfl (w_s1 (w_s1 rfl rfl (by decide)) rfl (by decide)) (w_getf rfl rfl (a_gs (a_gs (a_gs e642))) (w_fat (w_fne (w_fne f192 (by decide)) (by decide))) (w_ld rfl (a_ga (by decide) (a_ga (by decide) (a_ga (by decide) e702))) (by omega) (show cv2[κ0.length + 1 - 1]? = _ by rw [Nat.add_sub_cancel]; exact hK2.1) ?_)))))))))))))))))))))))))))
  refine w_use (X := fun h => r_S h b n p ρ κ0 (w + (σ.length - (ρ.length + 1))) so wh (s_opn ρ) t0 m on) ⟨_, _, _, _, _, _, _, (a_gs (a_gs (a_gs e642))), (by first | exact fl2 | (simp only [List.length_set]; exact fl2)), (w_fne (w_fne (w_fne f22 (by decide)) (by decide)) (by decide)), (w_fne (w_fne (w_fne f32 (by decide)) (by decide)) (by decide)), (w_fne (w_fne (w_fne f42 (by decide)) (by decide)) (by decide)), ⟨(w_fne (w_fne (w_fne f82 (by decide)) (by decide)) (by decide)), ⟨t2, (w_fne (w_fne (w_fne f92 (by decide)) (by decide)) (by decide)), t2562, tR2⟩, ⟨x102, (w_fne (w_fne (w_fne f102 (by decide)) (by decide)) (by decide)), f10'2⟩, ⟨z112, (w_fne (w_fne (w_fne f112 (by decide)) (by decide)) (by decide)), f11'2⟩, a72, (w_fne (w_fne (w_fne f72 (by decide)) (by decide)) (by decide)), a7n2, a7e2⟩, (w_fne (w_fne (w_fne f122 (by decide)) (by decide)) (by decide)), (w_fne (w_fne (w_fne f132 (by decide)) (by decide)) (by decide)), (w_fne (w_fne (w_fne f142 (by decide)) (by decide)) (by decide)), (w_fne (w_fne (w_fne f152 (by decide)) (by decide)) (by decide)), (w_fne (w_fne (w_fne f162 (by decide)) (by decide)) (by decide)), (w_fne (w_fne (w_fat f172) (by decide)) (by decide)), (w_fne (w_fat (w_fne f182 (by decide))) (by decide)), (w_fat (w_fne (w_fne f192 (by decide)) (by decide))), (w_fne (w_fne (w_fne f202 (by decide)) (by decide)) (by decide)), (w_fne (w_fne (w_fne f212 (by decide)) (by decide)) (by decide)), (a_ga (by decide) (a_ga (by decide) (a_ga (by decide) e672))), (by first | exact tl2 | (simp only [List.length_set]; exact tl2)), tm2, (a_ga (by decide) (a_ga (by decide) (a_ga (by decide) e682))), hb2, (a_ga (by decide) (a_ga (by decide) (a_ga (by decide) e692))), (by first | exact pl2 | (simp only [List.length_set]; exact pl2)), hP2b, (a_ga (by decide) (a_ga (by decide) (a_ga (by decide) e702))), (by first | exact cl2 | (simp only [List.length_set]; exact cl2)), hK2.2.2, (w_fne (w_fne (w_fne f02 (by decide)) (by decide)) (by decide)), (a_ga (by decide) (a_ga (by decide) (a_ga (by decide) e652))), a12⟩ (fun hS3 => ?_)
  refine w_virtual (dc := dd + 8) (M' := m_X12_emit) rfl (g_vir (n := 3) rfl rfl (by simp [p_cat, p_bd, Value.category]) rfl rfl (a_gs (a_gs (a_gs e642))) rfl) rfl rfl (Nat.le_refl _) (r_emit hS3 (by omega) ht) ?_
  rintro v h3 ⟨rfl, hS4, -⟩
  have hS4' := hS4
  obtain ⟨fs4, tv4, tp4, pv4, cv4, av4, y14, e644, fl4, f24, f34, f44, ⟨f84, ⟨t4, f94, t2564, tR4⟩, ⟨x104, f104, f10'4⟩, ⟨z114, f114, f11'4⟩, a74, f74, a7n4, a7e4⟩, f124, f134, f144, f154, f164, f174, f184, f194, f204, f214, e674, tl4, tm4, e684, hb4, e694, pl4, hP4, e704, cl4, hK4, f04, e654, a14⟩ := hS4
  refine w_aload_n rfl (w_s1 (w_s1 rfl rfl (by decide)) rfl (by decide)) (w_virtual (dc := dd + 8) (M' := m_X12_nextToken) rfl (g_vir (n := 1) rfl rfl (by simp [p_cat, p_bd, Value.category]) rfl rfl e644 rfl) rfl rfl (Nat.le_refl _) ((r_nextS (dd := dd) hS4' hn nb).mono (by omega) (fun _ _ q => q)) ?_)
  rintro v h5 ⟨rfl, hS5⟩
  have hS5' := hS5
  obtain ⟨fs5, tv5, tp5, pv5, cv5, av5, y15, e645, fl5, f25, f35, f45, ⟨f85, ⟨t5, f95, t2565, tR5⟩, ⟨x105, f105, f10'5⟩, ⟨z115, f115, f11'5⟩, a75, f75, a7n5, a7e5⟩, f125, f135, f145, f155, f165, f175, f185, f195, f205, f215, e675, tl5, tm5, e685, hb5, e695, pl5, hP5, e705, cl5, hK5, f05, e655, a15⟩ := hS5
  refine w_aload_n rfl (w_s1 (w_s1 rfl rfl (by decide)) rfl (by decide)) (w_ic 3 rfl rfl (w_virtual (dc := dd + 8) (M' := m_X12_settle) rfl (g_vir (n := 2) rfl rfl (by simp [p_cat, p_bd, Value.category]) rfl rfl e645 rfl) rfl rfl (Nat.le_refl _) ((r_settle (dd := dd) (l := 3) (by decide) (by decide) hn ht ρ (w + (σ.length - (ρ.length + 1)) + 1) (s_opn ρ) _ (by omega) (by omega) rfl hS5').mono (by omega) (fun _ _ q => q)) ?_))
  rintro v h6 ⟨rfl, hS6⟩
  exact w_ic 0 rfl rfl (w_ireturn rfl rfl ⟨rfl, _, by omega, hS6⟩)
end RS7

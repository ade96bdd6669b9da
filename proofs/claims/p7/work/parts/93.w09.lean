/-- the reference outside of a law: its pile isn't known -/
def r_S0 (h : p_H) (b : Nat → Nat) (n p w so t0 m on : Nat) : Prop := ∃ (fs tv tp pv cv : List Value) (y17 y18 y19 y20 : Int32) (av : List Value) (y1 : Int32), h[64]? = some (0, 12, fs) ∧ fs.length = 31 ∧ fs[2]? = some (.ref 67) ∧ fs[3]? = some (.ref 68) ∧ fs[4]? = some (.int (Int32.ofNat n)) ∧ r_T b n p fs ∧ fs[12]? = some (.int (Int32.ofNat t0)) ∧ fs[13]? = some (.int (Int32.ofNat w)) ∧ fs[14]? = some (.int (Int32.ofNat so)) ∧ fs[15]? = some (.ref 69) ∧ fs[16]? = some (.ref 70) ∧ fs[17]? = some (.int y17) ∧ fs[18]? = some (.int y18) ∧ fs[19]? = some (.int y19) ∧ fs[20]? = some (.int y20) ∧ fs[21]? = some (.int (Int32.ofNat on)) ∧ h[67]? = some (1, 0, tv) ∧ tv.length = 3108 ∧ tv[t0]? = some (.int (Int32.ofNat m)) ∧ h[68]? = some (1, 0, tp) ∧ t_B tp b ∧ h[69]? = some (1, 0, pv) ∧ pv.length = 160 ∧ h[70]? = some (1, 0, cv) ∧ cv.length = 9 ∧ fs[0]? = some (.ref 65) ∧ h[65]? = some (1, 0, av) ∧ av[1]? = some (.int y1)
section RS0
variable {h : p_H} {dd n p w so d t0 m on : Nat} {σ κ : List Nat} {wh : Bool} {b : Nat → Nat}
theorem r_S_0 (hS : r_S h b n p σ κ w so wh d t0 m on) : r_S0 h b n p w so t0 m on := by
  obtain ⟨fs, tv, tp, pv, cv, av, y1, e64, fl, f2, f3, f4, hT, f12, f13, f14, f15, f16, f17, f18, f19, f20, f21, e67, tl, tm, e68, hb, e69, pl, hP, e70, cl, hK, f0, e65, a1⟩ := hS
  exact ⟨fs, tv, tp, pv, cv, _, _, _, _, av, y1, e64, fl, f2, f3, f4, hT, f12, f13, f14, f15, f16, f17, f18, f19, f20, f21, e67, tl, tm, e68, hb, e69, pl, e70, cl, f0, e65, a1⟩
theorem r_next0 (hS : r_S0 h b n p w so t0 m on) (hn : n ≤ 300) (hbig : t_k b n p = 3 → b p ≠ 60 ∧ b p ≠ 62) : p_wp p_GT p_MT (dd + 1) m_X12_nextToken 0 (lv_args 0 [.ref 64]) [] h (fun v h2 => v = none ∧ r_S0 h2 b n (t_x b n p) w so t0 m on) := by
  obtain ⟨fs, tv, tp, pv, cv, y17, y18, y19, y20, av, y1, e64, fl, f2, f3, f4, ⟨f8, ⟨t, f9, t256, tR⟩, ⟨x10, f10, f10'⟩, ⟨z11, f11, f11'⟩, a7, f7, a7n, a7e⟩, f12, f13, f14, f15, f16, f17, f18, f19, f20, f21, e67, tl, tm, e68, hb, e69, pl, e70, cl, f0, e65, a1⟩ := hS
  have ea : a7 = t_e b n p := by
    rcases a7e with e | ⟨e1, e2⟩
    · exact e
    · have := hbig e1
      rcases e2 with e2 | e2
      · exact absurd e2 this.1
      · exact absurd e2 this.2
  subst ea
  refine (r_next (d := dd) e64 e68 hb hn f3 f4 f7 a7n f8 f9 f10 f11).mono (Nat.le_refl _) ?_
  rintro v h2 ⟨rfl, gs, rfl, K, hT⟩
  have hl : gs.length = 31 := by
    have k1 := K 30 (by omega)
    have k2 := K 31 (by omega)
    rw [List.getElem?_eq_none (show fs.length ≤ 31 by omega)] at k2
    rw [List.getElem?_eq_getElem (show 30 < fs.length by omega)] at k1
    have q1 := (List.getElem?_eq_some_iff.mp k1).1
    have q2 := List.getElem?_eq_none_iff.mp k2
    omega
  exact ⟨rfl, gs, tv, tp, pv, cv, y17, y18, y19, y20, av, y1, a_gs e64, hl, (K 2 (by omega)).trans f2, (K 3 (by omega)).trans f3, (K 4 (by omega)).trans f4, hT, (K 12 (by omega)).trans f12, (K 13 (by omega)).trans f13, (K 14 (by omega)).trans f14, (K 15 (by omega)).trans f15, (K 16 (by omega)).trans f16, (K 17 (by omega)).trans f17, (K 18 (by omega)).trans f18, (K 19 (by omega)).trans f19, (K 20 (by omega)).trans f20, (K 21 (by omega)).trans f21, a_ga (by decide) e67, tl, tm, a_ga (by decide) e68, hb, a_ga (by decide) e69, pl, a_ga (by decide) e70, cl, (K 0 (by omega)).trans f0, a_ga (by decide) e65, a1⟩
theorem r_isw0 {k c : Nat} (hS : r_S0 h b n p w so t0 m on) (hc : c = t_Wn.getD k 0) (hk : k < 22) : p_wp p_GT p_MT dd m_X12_isWord 0 (lv_args 0 [.ref 64, .long (Int64.ofNat c)]) [] h (fun v h2 => v = some (.int (l_b (t_wd b n p k))) ∧ h2 = h) := by
  obtain ⟨fs, tv, tp, pv, cv, y17, y18, y19, y20, av, y1, e64, fl, f2, f3, f4, ⟨f8, ⟨t, f9, t256, tR⟩, ⟨x10, f10, f10'⟩, ⟨z11, f11, f11'⟩, a7, f7, a7n, a7e⟩, f12, f13, f14, f15, f16, f17, f18, f19, f20, f21, e67, tl, tm, e68, hb, e69, pl, e70, cl, f0, e65, a1⟩ := hS
  by_cases h1 : t_k b n p = 1
  · have e2 : t = 2 := tR.2.2.1.mpr h1
    refine w_aload_n rfl rfl (w_getf rfl rfl e64 f9 (w_ic 2 rfl rfl (w_icmp_f rfl (t := 21) rfl (by rw [e2]; decide) (w_aload_n rfl rfl (w_getf rfl rfl e64 f11 (w_lload_n rfl rfl (w_lcmp rfl ?_)))))))
    cases q : t_wd b n p k with
    | true =>
      exact w_ifc_f rfl (t := 21) rfl (by simp only [p_cd, decide_eq_false_iff_not]; exact fun e => e ((t_cmp h1 f11' hc hk).mpr q)) (w_iconst rfl (w_goto rfl (t := 22) rfl (w_ireturnb rfl rfl rfl ⟨rfl, rfl⟩)))
    | false =>
      exact w_ifc_t rfl (t := 21) rfl (by simp only [p_cd, decide_eq_true_eq]; exact fun e => absurd ((t_cmp h1 f11' hc hk).mp e) (by rw [q]; decide)) (w_iconst rfl (w_ireturnb rfl rfl rfl ⟨rfl, rfl⟩))
  · have e2 : ¬ t = 2 := fun e => h1 (tR.2.2.1.mp e)
    have q : t_wd b n p k = false := Bool.eq_false_iff.mpr (fun e => h1 (t_wd_iff.mp e).1)
    rw [q]
    exact w_aload_n rfl rfl (w_getf rfl rfl e64 f9 (w_ic 2 rfl rfl (w_icmp_t rfl (t := 21) rfl (by simp only [p_cd, decide_eq_true_eq]; exact b_ofNat_ne (by omega) (by omega) e2) (w_iconst rfl (w_ireturnb rfl rfl rfl ⟨rfl, rfl⟩)))))
end RS0

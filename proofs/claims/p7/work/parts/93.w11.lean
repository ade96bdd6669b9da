/-! THE CLASS READS: its reader's state -/
def t_I (cv : List Value) : Prop := ∀ k, k < cv.length → ∃ y : Int32, cv[k]? = some (.int y)
theorem t_I_set {cv : List Value} {k : Nat} {y : Int32} (h : t_I cv) : t_I (cv.set k (.int y)) := by
  intro j hj
  rw [List.length_set] at hj
  by_cases q : k = j
  · subst q; exact ⟨y, List.getElem?_set_self hj⟩
  · rw [List.getElem?_set_ne q]; exact h j hj
/-- p: where the token stands; u deeds made; m clauses; la the law's sort; sv: a seventh SUM; ml, se, ro the laws read; fa, pl fault and place -/
def c_S (h : p_H) (b : Nat → Nat) (n p u m : Nat) (la : Int32) (sv : Bool) (ml se ro fa pl : Value) : Prop := ∃ (fs tp rw cw : List Value) (pa : Int32), h[43]? = some (0, 3, fs) ∧ fs.length = 18 ∧ fs[0]? = some (.ref 44) ∧ fs[1]? = some (.int (Int32.ofNat n)) ∧ fs[2]? = some fa ∧ fs[3]? = some pl ∧ c_T b n p fs ∧ fs[8]? = some (.ref 45) ∧ fs[9]? = some (.int (Int32.ofNat m)) ∧ fs[10]? = some (.int pa) ∧ fs[11]? = some ml ∧ fs[12]? = some se ∧ fs[13]? = some ro ∧ fs[14]? = some (.ref 46) ∧ fs[15]? = some (.int (Int32.ofNat u)) ∧ fs[16]? = some (.int la) ∧ fs[17]? = some (.int (l_b sv)) ∧ h[44]? = some (1, 1, tp) ∧ t_C tp b ∧ h[1]? = some (2, 2, p_wds) ∧ h[45]? = some (1, 0, rw) ∧ rw.length = 168 ∧ t_I rw ∧ h[46]? = some (1, 0, cw) ∧ cw.length = 600 ∧ t_I cw
section WPO
variable {G : p_G} {MT : List p_M} {M : p_M} {d pc l : Nat} {ls : p_Ls} {st : List Value} {h : p_H} {x : Int32} {Q : Option Value → p_H → Prop}
theorem w_pop (hat : p_at pc M.2.2.2.2.1 = some (.pop, l)) (hk : p_wp G MT d M (pc + 1) ls st h Q) : p_wp G MT d M pc ls (.int x :: st) h Q :=
  p_wp.step hat (by simp only [p_step]; exact if_pos rfl) hk
end WPO
section RS9
variable {h : p_H} {dd n p u m : Nat} {la : Int32} {sv : Bool} {ml se ro fa pl : Value} {b : Nat → Nat}
theorem c_next (hS : c_S h b n p u m la sv ml se ro fa pl) (hn : n ≤ 300) (hp : p ≤ n) : p_wp p_GT p_MT (dd + 1) m_X3_step 0 (lv_args 0 [.ref 43]) [] h (fun v h2 => v = none ∧ c_S h2 b n (t_x b n p) u m la sv ml se ro fa pl) := by
  obtain ⟨fs, tp, rw, cw, pa, e43, fl, f0, f1, f2, f3, ⟨f4, f5, f6, v7, f7, t1, t2, t3⟩, f8, f9, f10, f11, f12, f13, f14, f15, f16, f17, e44, hb, e1, e45, rl, hrI, e46, cl, hI⟩ := hS
  have he : t_e b n p ≤ n := by
    by_cases q : p < n
    · exact (t_e_lt q).2
    · unfold t_e; rw [t_k_end q]; exact hp
  refine (c_step (d := dd) e43 e1 e44 hb hn f0 f1 f4 he f5 f6 f7).mono (Nat.le_refl _) ?_
  rintro v h2 ⟨rfl, gs, rfl, K, hT⟩
  have hl : gs.length = 18 := by
    have k1 := K 17 (by omega)
    have k2 := K 18 (by omega)
    rw [List.getElem?_eq_none (show fs.length ≤ 18 by omega)] at k2
    rw [List.getElem?_eq_getElem (show 17 < fs.length by omega)] at k1
    have q1 := (List.getElem?_eq_some_iff.mp k1).1
    have q2 := List.getElem?_eq_none_iff.mp k2
    omega
  exact ⟨rfl, gs, tp, rw, cw, pa, a_gs e43, hl, (K 0 (by omega)).trans f0, (K 1 (by omega)).trans f1, (K 2 (by omega)).trans f2, (K 3 (by omega)).trans f3, hT, (K 8 (by omega)).trans f8, (K 9 (by omega)).trans f9, (K 10 (by omega)).trans f10, (K 11 (by omega)).trans f11, (K 12 (by omega)).trans f12, (K 13 (by omega)).trans f13, (K 14 (by omega)).trans f14, (K 15 (by omega)).trans f15, (K 16 (by omega)).trans f16, (K 17 (by omega)).trans f17, a_ga (by decide) e44, hb, a_ga (by decide) e1, a_ga (by decide) e45, rl, hrI, a_ga (by decide) e46, cl, hI⟩
theorem c_wrong {f : Int32} (hS : c_S h b n p u m la sv ml se ro fa pl) : p_wp p_GT p_MT dd m_X3_wrong 0 (lv_args 0 [.ref 43, .int f]) [] h (fun v h2 => v = some (.int (l_b false)) ∧ c_S h2 b n p u m la sv ml se ro ((.int f)) ((.int (Int32.ofNat p)))) := by
  obtain ⟨fs, tp, rw, cw, pa, e43, fl, f0, f1, f2, f3, ⟨f4, f5, f6, v7, f7, t1, t2, t3⟩, f8, f9, f10, f11, f12, f13, f14, f15, f16, f17, e44, hb, e1, e45, rl, hrI, e46, cl, hI⟩ := hS
  exact w_aload_n rfl rfl (w_iload_n rfl rfl (w_putf rfl rfl e43 rfl rfl (w_flt f2) (w_aload_n rfl rfl (w_aload_n rfl rfl (w_getf rfl rfl (a_gs e43) (w_fne f5 (by decide)) (w_putf rfl rfl (a_gs e43) rfl rfl (w_flt (w_fne f3 (by decide))) (w_iconst rfl (w_ireturnb rfl rfl rfl ⟨rfl, ⟨_, _, _, _, _, (a_gs (a_gs e43)), (by first | exact fl | (simp only [List.length_set]; exact fl)), (w_fne (w_fne f0 (by decide)) (by decide)), (w_fne (w_fne f1 (by decide)) (by decide)), (w_fne (w_fat f2) (by decide)), (w_fat (w_fne f3 (by decide))), ⟨(w_fne (w_fne f4 (by decide)) (by decide)), (w_fne (w_fne f5 (by decide)) (by decide)), (w_fne (w_fne f6 (by decide)) (by decide)), v7, (w_fne (w_fne f7 (by decide)) (by decide)), t1, t2, t3⟩, (w_fne (w_fne f8 (by decide)) (by decide)), (w_fne (w_fne f9 (by decide)) (by decide)), (w_fne (w_fne f10 (by decide)) (by decide)), (w_fne (w_fne f11 (by decide)) (by decide)), (w_fne (w_fne f12 (by decide)) (by decide)), (w_fne (w_fne f13 (by decide)) (by decide)), (w_fne (w_fne f14 (by decide)) (by decide)), (w_fne (w_fne f15 (by decide)) (by decide)), (w_fne (w_fne f16 (by decide)) (by decide)), (w_fne (w_fne f17 (by decide)) (by decide)), (a_ga (by decide) (a_ga (by decide) e44)), hb, (a_ga (by decide) (a_ga (by decide) e1)), (a_ga (by decide) (a_ga (by decide) e45)), (by first | exact rl | (simp only [List.length_set]; exact rl)), hrI, (a_ga (by decide) (a_ga (by decide) e46)), (by first | exact cl | (simp only [List.length_set]; exact cl)), hI⟩⟩))))))))
theorem t_kk_lt (h : t_k b n p ≠ 0) : p < n := by
  by_cases q : p < n
  · exact q
  · exact absurd (t_k_end q) h
theorem c_isS {c : Nat} (hS : c_S h b n p u m la sv ml se ro fa pl) (hc : c < 256) (hn : n ≤ 300 := by assumption) : p_wp p_GT p_MT dd m_X3_isSign 0 (lv_args 0 [.ref 43, .int (Int32.ofNat c)]) [] h (fun v h2 => v = some (.int (l_b (t_is b n p c))) ∧ h2 = h) := by
  obtain ⟨fs, tp, rw, cw, pa, e43, fl, f0, f1, f2, f3, ⟨f4, f5, f6, v7, f7, t1, t2, t3⟩, f8, f9, f10, f11, f12, f13, f14, f15, f16, f17, e44, hb, e1, e45, rl, hrI, e46, cl, hI⟩ := hS
  have hk4 : t_k b n p < 4 := by unfold t_k; (repeat' split) <;> omega
  by_cases q0 : t_k b n p = 3
  · have ev := t3 q0
    subst ev
    have hpn : p < n := t_kk_lt (b := b) (by omega)
    have hb8 := (hb p (by omega)).2
    refine w_aload_n rfl rfl (w_getf rfl rfl e43 f6 (w_ic 3 rfl rfl (w_icmp_f rfl (t := 20) rfl (by rw [q0]; decide) (w_aload_n rfl rfl (w_getf rfl rfl e43 f7 (w_iload_n rfl rfl ?_))))))
    by_cases q1 : b p = c
    · rw [show t_is b n p c = true from t_is_iff.mpr ⟨q0, q1⟩]
      exact w_icmp_f rfl (t := 20) rfl (by rw [q1]; simp [p_cd]) (w_iconst rfl (w_goto rfl (t := 21) rfl (w_ireturnb rfl rfl rfl ⟨rfl, rfl⟩)))
    · rw [show t_is b n p c = false from Bool.eq_false_iff.mpr (fun e => q1 (t_is_iff.mp e).2)]
      exact w_icmp_t rfl (t := 20) rfl (by simp only [p_cd, decide_eq_true_eq]; exact b_ofNat_ne (by omega) (by omega) q1) (w_iconst rfl (w_ireturnb rfl rfl rfl ⟨rfl, rfl⟩))
  · rw [show t_is b n p c = false from Bool.eq_false_iff.mpr (fun e => q0 (t_is_iff.mp e).1)]
    exact w_aload_n rfl rfl (w_getf rfl rfl e43 f6 (w_ic 3 rfl rfl (w_icmp_t rfl (t := 20) rfl (by simp only [p_cd, decide_eq_true_eq]; exact b_ofNat_ne (by omega) (by omega) q0) (w_iconst rfl (w_ireturnb rfl rfl rfl ⟨rfl, rfl⟩)))))
theorem c_isW {k : Nat} (hS : c_S h b n p u m la sv ml se ro fa pl) (hk : k < 22) (hp : p ≤ n) (hn : n ≤ 300 := by assumption) : p_wp p_GT p_MT dd m_X3_isWord 0 (lv_args 0 [.ref 43, .int (Int32.ofNat k)]) [] h (fun v h2 => v = some (.int (l_b (t_wd b n p k))) ∧ h2 = h) := by
  obtain ⟨fs, tp, rw, cw, pa, e43, fl, f0, f1, f2, f3, ⟨f4, f5, f6, v7, f7, t1, t2, t3⟩, f8, f9, f10, f11, f12, f13, f14, f15, f16, f17, e44, hb, e1, e45, rl, hrI, e46, cl, hI⟩ := hS
  have hk4 : t_k b n p < 4 := by unfold t_k; (repeat' split) <;> omega
  by_cases q0 : t_k b n p = 1
  · have ev := t_IX_k (t_zl_w hp (fun k hk => (hb k (by omega)).2)) (t1 q0) hk
    refine w_aload_n rfl rfl (w_getf rfl rfl e43 f6 (w_ic 1 rfl rfl (w_icmp_f rfl (t := 20) rfl (by rw [q0]; decide) (w_aload_n rfl rfl (w_getf rfl rfl e43 f7 (w_iload_n rfl rfl ?_))))))
    by_cases q1 : v7 = Int32.ofNat k
    · rw [show t_wd b n p k = true from t_wd_iff.mpr ⟨q0, ev.mp q1⟩]
      exact w_icmp_f rfl (t := 20) rfl (by rw [q1]; simp [p_cd]) (w_iconst rfl (w_goto rfl (t := 21) rfl (w_ireturnb rfl rfl rfl ⟨rfl, rfl⟩)))
    · rw [show t_wd b n p k = false from Bool.eq_false_iff.mpr (fun e => q1 (ev.mpr (t_wd_iff.mp e).2))]
      exact w_icmp_t rfl (t := 20) rfl (by simp only [p_cd, decide_eq_true_eq]; exact q1) (w_iconst rfl (w_ireturnb rfl rfl rfl ⟨rfl, rfl⟩))
  · rw [show t_wd b n p k = false from Bool.eq_false_iff.mpr (fun e => q0 (t_wd_iff.mp e).1)]
    exact w_aload_n rfl rfl (w_getf rfl rfl e43 f6 (w_ic 1 rfl rfl (w_icmp_t rfl (t := 20) rfl (by simp only [p_cd, decide_eq_true_eq]; exact b_ofNat_ne (by omega) (by omega) q0) (w_iconst rfl (w_ireturnb rfl rfl rfl ⟨rfl, rfl⟩)))))
/-- what a step of the reader leaves: r the grammar's answer -/
def c_R (h : p_H) (b : Nat → Nat) (n p u m : Nat) (la : Int32) (ml se ro fa pl : Value) (r : Nat × Nat) : Prop := (r.1 = 0 → ∃ u2, u2 + 2 * p ≤ u + 2 * r.2 ∧ c_S h b n r.2 u2 m la false ml se ro fa pl) ∧ (r.1 ≠ 0 → ∃ u2 sv, c_S h b n r.2 u2 m la sv ml se ro (.int (Int32.ofNat r.1)) (.int (Int32.ofNat r.2)))
theorem c_takeS {c : Nat} (hS : c_S h b n p u m la sv ml se ro fa pl) (hc : c < 256) (hn : n ≤ 300) (hp : p ≤ n) : p_wp p_GT p_MT (dd + 2) m_X3_takeSign 0 (lv_args 0 [.ref 43, .int (Int32.ofNat c)]) [] h (fun v h2 => (t_is b n p c = true ∧ v = some (.int (l_b true)) ∧ c_S h2 b n (t_x b n p) u m la sv ml se ro fa pl) ∨ (t_is b n p c = false ∧ v = some (.int (l_b false)) ∧ c_S h2 b n p u m la sv ml se ro ((.int (Int32.ofNat 1))) ((.int (Int32.ofNat p))))) := by
  have hS' := hS
  obtain ⟨fs, tp, rw, cw, pa, e43, fl, f0, f1, f2, f3, ⟨f4, f5, f6, v7, f7, t1, t2, t3⟩, f8, f9, f10, f11, f12, f13, f14, f15, f16, f17, e44, hb, e1, e45, rl, hrI, e46, cl, hI⟩ := hS
  refine w_aload_n rfl rfl (w_iload_n rfl rfl (w_virtual (dc := dd + 1) (M' := m_X3_isSign) rfl (g_vir (n := 2) rfl rfl (by simp [p_cat, p_bd, Value.category]) rfl rfl e43 rfl) rfl rfl (Nat.le_refl _) (c_isS hS' hc) ?_))
  rintro v h2 ⟨rfl, rfl⟩
  cases q : t_is b n p c with
  | true =>
    refine w_ifc_t rfl (t := 14) rfl (by decide) (w_aload_n rfl rfl (w_virtual (dc := dd + 1) (M' := m_X3_step) rfl (g_vir (n := 1) rfl rfl (by simp [p_cat, p_bd, Value.category]) rfl rfl e43 rfl) rfl rfl (Nat.le_refl _) (c_next (dd := dd) hS' hn hp) ?_))
    rintro v h2 ⟨rfl, hS2⟩
    exact w_iconst rfl (w_ireturnb rfl rfl rfl (Or.inl ⟨rfl, rfl, hS2⟩))
  | false =>
    refine w_ifc_f rfl (t := 14) rfl (by decide) (w_aload_n rfl rfl (w_ic 1 rfl rfl (w_virtual (dc := dd + 1) (M' := m_X3_wrong) rfl (g_vir (n := 2) rfl rfl (by simp [p_cat, p_bd, Value.category]) rfl rfl e43 rfl) rfl rfl (Nat.le_refl _) (c_wrong (f := Int32.ofNat 1) hS') ?_)))
    rintro v h2 ⟨rfl, hS2⟩
    exact w_ireturnb rfl rfl rfl (Or.inr ⟨rfl, rfl, hS2⟩)
theorem c_takeW {k : Nat} (hS : c_S h b n p u m la sv ml se ro fa pl) (hk : k < 22) (hn : n ≤ 300) (hp : p ≤ n) : p_wp p_GT p_MT (dd + 2) m_X3_takeWord 0 (lv_args 0 [.ref 43, .int (Int32.ofNat k)]) [] h (fun v h2 => (t_wd b n p k = true ∧ v = some (.int (l_b true)) ∧ c_S h2 b n (t_x b n p) u m la sv ml se ro fa pl) ∨ (t_wd b n p k = false ∧ v = some (.int (l_b false)) ∧ c_S h2 b n p u m la sv ml se ro ((.int (Int32.ofNat 1))) ((.int (Int32.ofNat p))))) := by
  have hS' := hS
  obtain ⟨fs, tp, rw, cw, pa, e43, fl, f0, f1, f2, f3, ⟨f4, f5, f6, v7, f7, t1, t2, t3⟩, f8, f9, f10, f11, f12, f13, f14, f15, f16, f17, e44, hb, e1, e45, rl, hrI, e46, cl, hI⟩ := hS
  refine w_aload_n rfl rfl (w_iload_n rfl rfl (w_virtual (dc := dd + 1) (M' := m_X3_isWord) rfl (g_vir (n := 2) rfl rfl (by simp [p_cat, p_bd, Value.category]) rfl rfl e43 rfl) rfl rfl (Nat.le_refl _) (c_isW hS' hk hp) ?_))
  rintro v h2 ⟨rfl, rfl⟩
  cases q : t_wd b n p k with
  | true =>
    refine w_ifc_t rfl (t := 14) rfl (by decide) (w_aload_n rfl rfl (w_virtual (dc := dd + 1) (M' := m_X3_step) rfl (g_vir (n := 1) rfl rfl (by simp [p_cat, p_bd, Value.category]) rfl rfl e43 rfl) rfl rfl (Nat.le_refl _) (c_next (dd := dd) hS' hn hp) ?_))
    rintro v h2 ⟨rfl, hS2⟩
    exact w_iconst rfl (w_ireturnb rfl rfl rfl (Or.inl ⟨rfl, rfl, hS2⟩))
  | false =>
    refine w_ifc_f rfl (t := 14) rfl (by decide) (w_aload_n rfl rfl (w_ic 1 rfl rfl (w_virtual (dc := dd + 1) (M' := m_X3_wrong) rfl (g_vir (n := 2) rfl rfl (by simp [p_cat, p_bd, Value.category]) rfl rfl e43 rfl) rfl rfl (Nat.le_refl _) (c_wrong (f := Int32.ofNat 1) hS') ?_)))
    rintro v h2 ⟨rfl, hS2⟩
    exact w_ireturnb rfl rfl rfl (Or.inr ⟨rfl, rfl, hS2⟩)
theorem c_idx {vs : List Value} {x : Int32} {L : Nat} (hl : vs.length = L) (h0 : Int32.ofNat 0 ≤ x) (h1 : x ≤ Int32.ofNat vs.length - Int32.ofNat 1) (hL : 0 < L ∧ L < 100000 := by decide) : ∃ j, j < L ∧ x = Int32.ofNat j := by
  rw [hl, g_sub (by omega)] at h1
  rw [Int32.le_iff_toInt_le, g_ofNat (by omega)] at h0 h1
  exact ⟨x.toInt.toNat, by omega, g_i32 (by omega) (by omega)⟩
set_option maxRecDepth 100000 in
theorem c_addPart {x : Int32} (hS : c_S h b n p u m la sv ml se ro fa pl) : p_wp p_GT p_MT (dd + 1) m_X3_addPart 0 (lv_args 0 [.ref 43, .int x]) [] h (fun v h2 => v = none ∧ c_S h2 b n p u m la sv ml se ro fa pl) := by
  have hS' := hS
  obtain ⟨fs, tp, rw, cw, pa, e43, fl, f0, f1, f2, f3, ⟨f4, f5, f6, v7, f7, t1, t2, t3⟩, f8, f9, f10, f11, f12, f13, f14, f15, f16, f17, e44, hb, e1, e45, rl, hrI, e46, cl, hI⟩ := hS
  refine w_aload_n rfl rfl (w_getf rfl rfl e43 f9 (w_ic 1 rfl rfl (w_isub rfl (w_bp 7 rfl rfl (w_imul rfl (w_aload_n rfl rfl (w_getf rfl rfl e43 f10 (w_iadd rfl (w_istore_n rfl (by decide) (w_iload_n rfl p_lk_s1 (w_ic 0 rfl rfl (w_aload_n rfl (w_s1 rfl rfl (by decide)) (w_getf rfl rfl e43 f8 (w_alen rfl e45 (w_ic 1 rfl rfl (w_isub rfl (w_static (nn := 0) (dc := dd) (M' := m_X11_within) rfl rfl rfl rfl (Nat.le_refl _) b_within ?_)))))))))))))))))
  rintro v h2 ⟨rfl, rfl⟩
  generalize hto : ((Int32.ofNat (m) - Int32.ofNat (1)) * Int32.ofNat (7)) + (pa) = to
  by_cases q : Int32.ofNat 0 ≤ to ∧ to ≤ Int32.ofNat rw.length - Int32.ofNat 1
  · rw [if_pos q]
    obtain ⟨j, hj, rfl⟩ := c_idx rl q.1 q.2
    exact w_ifc_f rfl (t := 47) rfl (by decide) (w_aload_n rfl (w_s1 rfl rfl (by decide)) (w_getf rfl rfl e43 f8 (w_iload_n rfl p_lk_s1 (w_iload_n rfl (w_s1 rfl rfl (by decide)) (w_st rfl e45 (by omega) (by omega) (w_aload_n rfl (w_s1 rfl rfl (by decide)) (w_dup rfl rfl (w_getf rfl rfl (a_ga (by decide) e43) f10 (w_ic 1 rfl rfl (w_iadd rfl (w_putf rfl rfl (a_ga (by decide) e43) rfl rfl (w_flt f10) (w_return rfl rfl ⟨rfl, ⟨_, _, _, _, _, (a_gs (a_ga (by decide) e43)), (by first | exact fl | (simp only [List.length_set]; exact fl)), (w_fne f0 (by decide)), (w_fne f1 (by decide)), (w_fne f2 (by decide)), (w_fne f3 (by decide)), ⟨(w_fne f4 (by decide)), (w_fne f5 (by decide)), (w_fne f6 (by decide)), v7, (w_fne f7 (by decide)), t1, t2, t3⟩, (w_fne f8 (by decide)), (w_fne f9 (by decide)), (w_fat f10), (w_fne f11 (by decide)), (w_fne f12 (by decide)), (w_fne f13 (by decide)), (w_fne f14 (by decide)), (w_fne f15 (by decide)), (w_fne f16 (by decide)), (w_fne f17 (by decide)), (a_ga (by decide) (a_ga (by decide) e44)), hb, (a_ga (by decide) (a_ga (by decide) e1)), (a_ga (by decide) (a_gs e45)), (by first | exact rl | (simp only [List.length_set]; exact rl)), (t_I_set hrI), (a_ga (by decide) (a_ga (by decide) e46)), (by first | exact cl | (simp only [List.length_set]; exact cl)), hI⟩⟩))))))))))))
  · rw [if_neg q]
    exact w_ifc_t rfl (t := 47) rfl (by decide) (w_return rfl rfl ⟨rfl, hS'⟩)
theorem c_make {de wi : Int32} (hS : c_S h b n p u m la sv ml se ro fa pl) (hu : u < 600) : p_wp p_GT p_MT (dd + 1) m_X3_make 0 (lv_args 0 [.ref 43, .int de, .int wi]) [] h (fun v h2 => v = some (.int (l_b true)) ∧ c_S h2 b n p (u + 1) m la sv ml se ro fa pl) := by
  obtain ⟨fs, tp, rw, cw, pa, e43, fl, f0, f1, f2, f3, ⟨f4, f5, f6, v7, f7, t1, t2, t3⟩, f8, f9, f10, f11, f12, f13, f14, f15, f16, f17, e44, hb, e1, e45, rl, hrI, e46, cl, hI⟩ := hS
  exact w_aload_n rfl rfl (w_getf rfl rfl e43 f15 (w_aload_n rfl rfl (w_getf rfl rfl e43 f14 (w_alen rfl e46 (w_icmp_t rfl (t := 18) rfl (by simp only [p_cd, decide_eq_true_eq]; rw [Int32.lt_iff_toInt_lt, g_ofNat (by omega), g_ofNat (by omega)]; omega) (w_aload_n rfl rfl (w_getf rfl rfl e43 f14 (w_aload_n rfl rfl (w_getf rfl rfl e43 f15 (w_iload_n rfl rfl (w_ic 4 rfl rfl (w_ishl rfl (w_iload_n rfl rfl (w_ior rfl (w_st rfl e46 (by omega) (by omega) (w_aload_n rfl rfl (w_dup rfl rfl (w_getf rfl rfl (a_ga (by decide) e43) f15 (w_ic 1 rfl rfl (w_addN rfl (w_putf rfl rfl (a_ga (by decide) e43) rfl rfl (w_flt f15) (w_iconst rfl (w_ireturnb rfl rfl rfl ⟨rfl, ⟨_, _, _, _, _, (a_gs (a_ga (by decide) e43)), (by first | exact fl | (simp only [List.length_set]; exact fl)), (w_fne f0 (by decide)), (w_fne f1 (by decide)), (w_fne f2 (by decide)), (w_fne f3 (by decide)), ⟨(w_fne f4 (by decide)), (w_fne f5 (by decide)), (w_fne f6 (by decide)), v7, (w_fne f7 (by decide)), t1, t2, t3⟩, (w_fne f8 (by decide)), (w_fne f9 (by decide)), (w_fne f10 (by decide)), (w_fne f11 (by decide)), (w_fne f12 (by decide)), (w_fne f13 (by decide)), (w_fne f14 (by decide)), (w_fat f15), (w_fne f16 (by decide)), (w_fne f17 (by decide)), (a_ga (by decide) (a_ga (by decide) e44)), hb, (a_ga (by decide) (a_ga (by decide) e1)), (a_ga (by decide) (a_ga (by decide) e45)), (by first | exact rl | (simp only [List.length_set]; exact rl)), hrI, (a_ga (by decide) (a_gs e46)), (by first | exact cl | (simp only [List.length_set]; exact cl)), (t_I_set hI)⟩⟩)))))))))))))))))))))))
theorem c_idx2 {x : Int32} {L : Nat} (h0 : Int32.ofNat 0 ≤ x) (h1 : x ≤ Int32.ofNat L - Int32.ofNat 1) (hL : L < 100000) : ∃ j, j < L ∧ x = Int32.ofNat j := by
  by_cases q : L = 0
  · rw [q] at h1
    rw [Int32.le_iff_toInt_le] at h0 h1
    have e1 : (Int32.ofNat 0 - Int32.ofNat 1).toInt = -1 := by decide
    have e2 : (Int32.ofNat 0).toInt = 0 := by decide
    omega
  · exact c_idx (vs := List.replicate L (.int 0)) (L := L) (List.length_replicate) h0 (by rw [List.length_replicate]; exact h1) ⟨by omega, hL⟩
theorem c_lead {x y : Int32} (hS : c_S h b n p u m la sv ml se ro fa pl) (hu : u ≤ 600) : p_wp p_GT p_MT (dd + 1) m_X3_lead 0 (lv_args 0 [.ref 43, .int x, .int y]) [] h (fun v h2 => v = none ∧ c_S h2 b n p u m la sv ml se ro fa pl) := by
  have hS' := hS
  obtain ⟨fs, tp, rw, cw, pa, e43, fl, f0, f1, f2, f3, ⟨f4, f5, f6, v7, f7, t1, t2, t3⟩, f8, f9, f10, f11, f12, f13, f14, f15, f16, f17, e44, hb, e1, e45, rl, hrI, e46, cl, hI⟩ := hS
  refine w_iload_n rfl rfl (w_ic 0 rfl rfl (w_aload_n rfl rfl (w_getf rfl rfl e43 f15 (w_ic 1 rfl rfl (w_isub rfl (w_static (nn := 0) (dc := dd) (M' := m_X11_within) rfl rfl rfl rfl (Nat.le_refl _) b_within ?_))))))
  rintro v h2 ⟨rfl, rfl⟩
  by_cases q : Int32.ofNat 0 ≤ x ∧ x ≤ Int32.ofNat u - Int32.ofNat 1
  · rw [if_pos q]
    obtain ⟨j, hj, rfl⟩ := c_idx2 q.1 q.2 (by omega)
    obtain ⟨z, hz⟩ := hI j (by omega)
    exact w_ifc_f rfl (t := 42) rfl (by decide) (w_iload_n rfl rfl (w_aload_n rfl rfl (w_getf rfl rfl e43 f14 (w_alen rfl e46 (w_icmp_f rfl (t := 42) rfl (by simp only [p_cd, decide_eq_false_iff_not]; rw [Int32.le_iff_toInt_le, g_ofNat (by omega), g_ofNat (by omega)]; omega) (w_aload_n rfl rfl (w_getf rfl rfl e43 f14 (w_iload_n rfl rfl (w_iload_n rfl rfl (w_ic 4 rfl rfl (w_ishl rfl (w_aload_n rfl rfl (w_getf rfl rfl e43 f14 (w_iload_n rfl rfl (w_ld rfl e46 (by omega) hz (w_bp 15 rfl rfl (w_iand rfl (w_ior rfl (w_st rfl e46 (by omega) (by omega) (w_return rfl rfl ⟨rfl, ⟨_, _, _, _, _, (a_ga (by decide) e43), (by first | exact fl | (simp only [List.length_set]; exact fl)), f0, f1, f2, f3, ⟨f4, f5, f6, v7, f7, t1, t2, t3⟩, f8, f9, f10, f11, f12, f13, f14, f15, f16, f17, (a_ga (by decide) e44), hb, (a_ga (by decide) e1), (a_ga (by decide) e45), (by first | exact rl | (simp only [List.length_set]; exact rl)), hrI, (a_gs e46), (by first | exact cl | (simp only [List.length_set]; exact cl)), (t_I_set hI)⟩⟩))))))))))))))))))))
  · rw [if_neg q]
    exact w_ifc_t rfl (t := 42) rfl (by decide) (w_return rfl rfl ⟨rfl, hS'⟩)
set_option maxRecDepth 100000 in
theorem c_closel (hu : u ≤ 600) {Q : Option Value → p_H → Prop} : ∀ j i x (ls : p_Ls) (h : p_H), i + j = 6 → c_S h b n p u m la sv ml se ro fa pl → p_lk 0 ls = some (.ref 43) → p_lk 2 ls = some (.int x) → p_lk 3 ls = some (.int (Int32.ofNat i)) → (∀ h2, c_S h2 b n p u m la sv ml se ro fa pl → Q none h2) → p_wp p_GT p_MT (dd + 2) m_X3_closeJumps 4 ls [] h Q := by
  intro j
  induction j with
  | zero =>
    intro i x ls h hi hS l0 l2 l3 hQ
    have hi : i = 6 := by omega
    subst hi
    exact w_iload_n rfl l3 (w_bp 6 rfl rfl (w_icmp_t rfl (t := 63) rfl (by decide) (w_return rfl rfl (hQ _ hS))))
  | succ j ih =>
    intro i x ls h hi hS l0 l2 l3 hQ
    have hS' := hS
    obtain ⟨fs, tp, rw, cw, pa, e43, fl, f0, f1, f2, f3, ⟨f4, f5, f6, v7, f7, t1, t2, t3⟩, f8, f9, f10, f11, f12, f13, f14, f15, f16, f17, e44, hb, e1, e45, rl, hrI, e46, cl, hI⟩ := hS
    refine w_iload_n rfl l3 (w_bp 6 rfl rfl (w_icmp_f rfl (t := 63) rfl (by simp only [p_cd, decide_eq_false_iff_not]; rw [Int32.le_iff_toInt_le, g_ofNat (by omega), g_ofNat (by omega)]; omega) (w_iload_n rfl l2 (w_ic 0 rfl rfl (w_aload_n rfl l0 (w_getf rfl rfl e43 f15 (w_ic 1 rfl rfl (w_isub rfl (w_static (nn := 0) (dc := dd) (M' := m_X11_within) rfl rfl rfl rfl (by omega) b_within ?_)))))))))
    rintro v h2 ⟨rfl, rfl⟩
    by_cases q : Int32.ofNat 0 ≤ x ∧ x ≤ Int32.ofNat u - Int32.ofNat 1
    · rw [if_pos q]
      obtain ⟨k, hk, rfl⟩ := c_idx2 q.1 q.2 (by omega)
      obtain ⟨z, hz⟩ := hI k (by omega)
      refine w_ifc_f rfl (t := 63) rfl (by decide) (w_iload_n rfl l2 (w_aload_n rfl l0 (w_getf rfl rfl e43 f14 (w_alen rfl e46 (w_icmp_f rfl (t := 63) rfl (by simp only [p_cd, decide_eq_false_iff_not]; rw [Int32.le_iff_toInt_le, g_ofNat (by omega), g_ofNat (by omega)]; omega) (w_aload_n rfl l0 (w_getf rfl rfl e43 f14 (w_iload_n rfl l2 (w_ld rfl e46 (by omega) hz (w_ic 4 rfl rfl (w_ishr rfl (w_ic 1 rfl rfl (w_isub rfl (w_istore rfl (by decide) (w_aload_n rfl (w_s1 l0 rfl (by decide)) (w_iload_n rfl (w_s1 l2 rfl (by decide)) (w_aload_n rfl (w_s1 l0 rfl (by decide)) (w_getf rfl rfl e43 f15 (w_virtual (dc := dd + 1) (M' := m_X3_lead) rfl (g_vir (n := 3) rfl rfl (by simp [p_cat, p_bd, Value.category]) rfl rfl e43 rfl) rfl rfl (Nat.le_refl _) (c_lead (dd := dd) hS' hu) ?_)))))))))))))))))))
      rintro v h2 ⟨rfl, hS2⟩
      exact w_iload rfl p_lk_s1 (w_istore_n rfl (by decide) (w_iincN rfl (w_s1 (w_s1 l3 rfl (by decide)) rfl (by decide)) (by decide) (w_goto rfl (t := 4) rfl (ih _ _ _ _ (by omega) hS2 (w_s1 (w_s1 (w_s1 l0 rfl (by decide)) rfl (by decide)) rfl (by decide)) (w_s1 p_lk_s1 rfl (by decide)) p_lk_s1 hQ))))
    · rw [if_neg q]
      exact w_ifc_t rfl (t := 63) rfl (by decide) (w_return rfl rfl (hQ _ hS'))
theorem c_close {x : Int32} (hS : c_S h b n p u m la sv ml se ro fa pl) (hu : u ≤ 600) : p_wp p_GT p_MT (dd + 2) m_X3_closeJumps 0 (lv_args 0 [.ref 43, .int x]) [] h (fun v h2 => v = none ∧ c_S h2 b n p u m la sv ml se ro fa pl) := by
  exact w_iload_n rfl rfl (w_istore_n rfl (by decide) (w_ic 0 rfl rfl (w_istore_n rfl (by decide) (c_closel hu 6 0 x _ _ rfl hS (w_s1 (w_s1 rfl rfl (by decide)) rfl (by decide)) (w_s1 p_lk_s1 rfl (by decide)) p_lk_s1 (fun h2 q => ⟨rfl, q⟩)))))
/-- which word stands here -/
theorem c_wk (hp : p ≤ n) (hb : ∀ k, k < n → b k < 256) {v : Int32} (hk : t_k b n p = 1) (hv : t_IX (t_zl b n p).2 v) : (∃ k, k < 22 ∧ v = Int32.ofNat k ∧ ∀ j, j < 22 → t_wd b n p j = decide (j = k)) ∨ (v = Int32.ofInt (-1) ∧ ∀ j, j < 22 → t_wd b n p j = false) := by
  have H : ∀ j, j < 22 → (t_wd b n p j = true ↔ v = Int32.ofNat j) := fun j hj => by
    rw [t_wd_iff, t_IX_k (t_zl_w hp hb) hv hj]
    exact ⟨fun e => e.2, fun e => ⟨hk, e⟩⟩
  have hv' := hv
  rcases hv with ⟨k, hk2, -, rfl⟩ | ⟨-, rfl⟩
  · refine Or.inl ⟨k, hk2, rfl, fun j hj => ?_⟩
    by_cases q : j = k
    · rw [show decide (j = k) = true from decide_eq_true q]; exact (H j hj).mpr (by rw [q])
    · rw [show decide (j = k) = false from decide_eq_false q]
      exact Bool.eq_false_iff.mpr (fun e => b_ofNat_ne (by omega) (by omega) q ((H j hj).mp e).symm)
  · refine Or.inr ⟨rfl, fun j hj => Bool.eq_false_iff.mpr (fun e => ?_)⟩
    have := congrArg Int32.toInt ((H j hj).mp e)
    rw [g_ofNat (by omega), show (Int32.ofInt (-1)).toInt = -1 by decide] at this
    omega
def c_nm (b : Nat → Nat) (n p : Nat) : Bool := t_nm6 b n p || t_nm2 b n p
theorem t_no_w (hk : t_k b n p ≠ 1) (k : Nat) : t_wd b n p k = false := Bool.eq_false_iff.mpr (fun e => hk (t_wd_iff.mp e).1)
theorem c_nm_w (hk : t_k b n p ≠ 1) : t_nm6 b n p = false ∧ t_nm2 b n p = false := by
  unfold t_nm6 t_nm2
  refine ⟨?_, ?_⟩ <;> simp [t_no_w hk]
theorem c_nm_k : ∀ k, k < 22 → (decide (9 = k) || (decide (10 = k) || (decide (11 = k) || (decide (8 = k) || (decide (12 = k) || decide (13 = k)))))) = (Nat.ble 8 k && Nat.ble k 13) ∧ (decide (14 = k) || decide (15 = k)) = (Nat.ble 14 k && Nat.ble k 15) := by decide
theorem c_nm6k {k : Nat} (hk : k < 22) (H : ∀ j, j < 22 → t_wd b n p j = decide (j = k)) : t_nm6 b n p = (Nat.ble 8 k && Nat.ble k 13) ∧ t_nm2 b n p = (Nat.ble 14 k && Nat.ble k 15) := by
  unfold t_nm6 t_nm2
  rw [H 9 (by decide), H 10 (by decide), H 11 (by decide), H 8 (by decide), H 12 (by decide), H 13 (by decide), H 14 (by decide), H 15 (by decide)]
  exact c_nm_k k hk
theorem c_nm_0 (H : ∀ j, j < 22 → t_wd b n p j = false) : t_nm6 b n p = false ∧ t_nm2 b n p = false := by
  unfold t_nm6 t_nm2
  rw [H 9 (by decide), H 10 (by decide), H 11 (by decide), H 8 (by decide), H 12 (by decide), H 13 (by decide), H 14 (by decide), H 15 (by decide)]
  exact ⟨rfl, rfl⟩
/-- a name, as the class has it -/
theorem c_nm_v (hp : p ≤ n) (hb : ∀ k, k < n → b k < 256) {v : Int32} (hk : t_k b n p = 1) (hv : t_IX (t_zl b n p).2 v) : (if Int32.ofNat 8 ≤ v ∧ v ≤ Int32.ofNat 15 then (1 : Int32) else 0) = l_b (c_nm b n p) := by
  unfold c_nm
  rcases c_wk hp hb hk hv with ⟨k, hk2, rfl, H⟩ | ⟨rfl, H⟩
  · rw [(c_nm6k hk2 H).1, (c_nm6k hk2 H).2]
    simp only [Int32.le_iff_toInt_le, g_ofNat (show 8 < 100000 by decide), g_ofNat (show 15 < 100000 by decide), g_ofNat (show k < 100000 by omega)]
    by_cases q : 8 ≤ k ∧ k ≤ 15
    · rw [if_pos (by omega)]
      by_cases q2 : k ≤ 13
      · rw [Nat.ble_eq_true_of_le q.1, Nat.ble_eq_true_of_le q2]; rfl
      · rw [Nat.ble_eq_true_of_le (show 14 ≤ k by omega), Nat.ble_eq_true_of_le q.2, Bool.and_self, Bool.or_true]; rfl
    · rw [if_neg (by omega)]
      by_cases q2 : 8 ≤ k
      · rw [show Nat.ble k 13 = false from Bool.eq_false_iff.mpr (fun e => by have := Nat.le_of_ble_eq_true e; omega), show Nat.ble k 15 = false from Bool.eq_false_iff.mpr (fun e => by have := Nat.le_of_ble_eq_true e; omega), Bool.and_false, Bool.and_false]; rfl
      · rw [show Nat.ble 8 k = false from Bool.eq_false_iff.mpr (fun e => by have := Nat.le_of_ble_eq_true e; omega), show Nat.ble 14 k = false from Bool.eq_false_iff.mpr (fun e => by have := Nat.le_of_ble_eq_true e; omega)]; rfl
  · rw [(c_nm_0 H).1, (c_nm_0 H).2]; decide
set_option maxRecDepth 100000 in
theorem c_F {d so : Nat} (hS : c_S h b n p u m ((Int32.ofNat so)) sv ml se ro fa pl) (hn : n ≤ 300) (hp : p ≤ n) (hd : d ≤ 8) (hso : so < 100) : p_wp p_GT p_MT dd m_X3_faultOfOne 0 (lv_args 0 [.ref 43, .int (l_b (t_op b n p)), .int (l_b (c_nm b n p)), .int (Int32.ofNat d)]) [] h (fun v h2 => v = some (.int (Int32.ofNat (if t_F b n (Nat.beq so 1) d p ≠ 0 then t_F b n (Nat.beq so 1) d p else if sv = true then 7 else 0))) ∧ h2 = h) := by
  obtain ⟨fs, tp, rw, cw, pa, e43, fl, f0, f1, f2, f3, ⟨f4, f5, f6, v7, f7, t1, t2, t3⟩, f8, f9, f10, f11, f12, f13, f14, f15, f16, f17, e44, hb, e1, e45, rl, hrI, e46, cl, hI⟩ := hS
  have hk4 : t_k b n p < 4 := by unfold t_k; (repeat' split) <;> omega
  have hbb : ∀ k, k < n → b k < 256 := fun k hk => (hb k (by omega)).2
  unfold t_F
  by_cases q2 : t_k b n p = 2
  · have e1 : c_nm b n p = false := by unfold c_nm; rw [(c_nm_w (b := b) (n := n) (p := p) (by omega)).1, (c_nm_w (b := b) (n := n) (p := p) (by omega)).2]; rfl
    have e2 : t_op b n p = false := Bool.eq_false_iff.mpr (fun e => by have := s_op_k e; omega)
    rw [if_pos q2, e1, e2]
    have ev := t2 q2
    rw [t_ml_n hp] at ev
    subst ev
    have hm : min 10000 (t_n b n p) < 100000 := by omega
    refine w_iload_n rfl rfl (w_ifc_f rfl (t := 18) rfl (by decide) (w_iload_n rfl rfl (w_ifc_f rfl (t := 18) rfl (by decide) (w_aload_n rfl rfl (w_getf rfl rfl e43 f6 (w_ic 2 rfl rfl (w_icmp_t rfl (t := 18) rfl (by rw [q2]; decide) (w_aload_n rfl rfl (w_getf rfl rfl e43 f6 (w_ic 2 rfl rfl (w_icmp_f rfl (t := 38) rfl (by rw [q2]; decide) (w_aload_n rfl rfl (w_getf rfl rfl e43 f7 (w_sp 9999 rfl rfl ?_))))))))))))))
    by_cases q3 : 9999 < t_n b n p
    · rw [if_pos q3]
      exact w_icmp_f rfl (t := 38) rfl (by simp only [p_cd, decide_eq_false_iff_not]; rw [Int32.le_iff_toInt_le, g_ofNat (by omega), g_ofNat (by omega)]; omega) (w_ic 2 rfl rfl (w_ireturn rfl rfl ⟨rfl, rfl⟩))
    · rw [if_neg q3]
      refine w_icmp_t rfl (t := 38) rfl (by simp only [p_cd, decide_eq_true_eq]; rw [Int32.le_iff_toInt_le, g_ofNat (by omega), g_ofNat (by omega)]; omega) (w_iload_n rfl rfl (w_ifc_t rfl (t := 50) rfl (by decide) (w_iload_n rfl rfl (w_ifc_t rfl (t := 73) rfl (by decide) (w_aload_n rfl rfl (w_getf rfl rfl e43 f17 ?_))))))
      cases sv with
      | true =>
        exact w_ifc_f rfl (t := 85) rfl (by decide) (w_bp 7 rfl rfl (w_goto rfl (t := 86) rfl (w_ireturn rfl rfl ⟨rfl, rfl⟩)))
      | false =>
        exact w_ifc_t rfl (t := 85) rfl (by decide) (w_ic 0 rfl rfl (w_ireturn rfl rfl ⟨rfl, rfl⟩))
  · rw [if_neg q2]
    by_cases q6 : t_nm6 b n p = true
    · have e1 : c_nm b n p = true := by unfold c_nm; rw [q6]; rfl
      have e2 : t_op b n p = false := Bool.eq_false_iff.mpr (fun e => t_nm_op (Or.inl q6) e)
      rw [if_pos q6, e1, e2]
      have k1 := s_nm_k (Or.inl q6)
      obtain ⟨k, hk, rfl⟩ : ∃ k, k < 14 ∧ v7 = Int32.ofNat k := by
        rcases c_wk hp hbb k1 (t1 k1) with ⟨k, hk2, rfl, H⟩ | ⟨rfl, H⟩
        · rw [(c_nm6k hk2 H).1, Bool.and_eq_true] at q6
          have := Nat.le_of_ble_eq_true q6.2
          exact ⟨k, by omega, rfl⟩
        · rw [(c_nm_0 H).1] at q6; cases q6
      refine w_iload_n rfl rfl (w_ifc_f rfl (t := 18) rfl (by decide) (w_iload_n rfl rfl (w_ifc_t rfl (t := 18) rfl (by decide) (w_aload_n rfl rfl (w_getf rfl rfl e43 f6 (w_ic 2 rfl rfl (w_icmp_t rfl (t := 38) rfl (by simp only [p_cd, decide_eq_true_eq]; exact b_ofNat_ne (by omega) (by omega) q2) (w_iload_n rfl rfl (w_ifc_t rfl (t := 50) rfl (by decide) (w_iload_n rfl rfl (w_ifc_f rfl (t := 73) rfl (by decide) (w_aload_n rfl rfl (w_getf rfl rfl e43 f7 (w_bp 14 rfl rfl (w_icmp_t rfl (t := 73) rfl (by simp only [p_cd, decide_eq_true_eq]; rw [Int32.lt_iff_toInt_lt, g_ofNat (by omega), g_ofNat (by omega)]; omega) (w_aload_n rfl rfl (w_getf rfl rfl e43 f17 ?_)))))))))))))))))
      cases sv with
      | true =>
        exact w_ifc_f rfl (t := 85) rfl (by decide) (w_bp 7 rfl rfl (w_goto rfl (t := 86) rfl (w_ireturn rfl rfl ⟨rfl, rfl⟩)))
      | false =>
        exact w_ifc_t rfl (t := 85) rfl (by decide) (w_ic 0 rfl rfl (w_ireturn rfl rfl ⟨rfl, rfl⟩))
    · rw [if_neg q6]
      by_cases q7 : t_nm2 b n p = true
      · have e1 : c_nm b n p = true := by unfold c_nm; rw [q7, Bool.or_true]
        have e2 : t_op b n p = false := Bool.eq_false_iff.mpr (fun e => t_nm_op (Or.inr q7) e)
        rw [if_pos q7, e1, e2]
        have k1 := s_nm_k (Or.inr q7)
        obtain ⟨k, hk, hk2, rfl⟩ : ∃ k, 14 ≤ k ∧ k < 16 ∧ v7 = Int32.ofNat k := by
          rcases c_wk hp hbb k1 (t1 k1) with ⟨k, hk2, rfl, H⟩ | ⟨rfl, H⟩
          · rw [(c_nm6k hk2 H).2, Bool.and_eq_true] at q7
            have := Nat.le_of_ble_eq_true q7.1
            have := Nat.le_of_ble_eq_true q7.2
            exact ⟨k, by omega, by omega, rfl⟩
          · rw [(c_nm_0 H).2] at q7; cases q7
        refine w_iload_n rfl rfl (w_ifc_f rfl (t := 18) rfl (by decide) (w_iload_n rfl rfl (w_ifc_t rfl (t := 18) rfl (by decide) (w_aload_n rfl rfl (w_getf rfl rfl e43 f6 (w_ic 2 rfl rfl (w_icmp_t rfl (t := 38) rfl (by simp only [p_cd, decide_eq_true_eq]; exact b_ofNat_ne (by omega) (by omega) q2) (w_iload_n rfl rfl (w_ifc_t rfl (t := 50) rfl (by decide) (w_iload_n rfl rfl (w_ifc_f rfl (t := 73) rfl (by decide) (w_aload_n rfl rfl (w_getf rfl rfl e43 f7 (w_bp 14 rfl rfl (w_icmp_f rfl (t := 73) rfl (by simp only [p_cd, decide_eq_false_iff_not]; rw [Int32.lt_iff_toInt_lt, g_ofNat (by omega), g_ofNat (by omega)]; omega) (w_aload_n rfl rfl (w_getf rfl rfl e43 f16 (w_ic 1 rfl rfl ?_))))))))))))))))))
        by_cases q8 : so = 1
        · subst q8
          refine w_icmp_t rfl (t := 73) rfl (by decide) (w_aload_n rfl rfl (w_getf rfl rfl e43 f17 ?_))
          cases sv with
          | true =>
            exact w_ifc_f rfl (t := 85) rfl (by decide) (w_bp 7 rfl rfl (w_goto rfl (t := 86) rfl (w_ireturn rfl rfl ⟨rfl, rfl⟩)))
          | false =>
            exact w_ifc_t rfl (t := 85) rfl (by decide) (w_ic 0 rfl rfl (w_ireturn rfl rfl ⟨rfl, rfl⟩))
        · rw [show Nat.beq so 1 = false from Bool.eq_false_iff.mpr (fun e => q8 (Nat.eq_of_beq_eq_true e))]
          exact w_icmp_f rfl (t := 73) rfl (by simp only [p_cd, decide_eq_false_iff_not]; exact b_ofNat_ne (by omega) (by omega) q8) (w_ic 5 rfl rfl (w_ireturn rfl rfl ⟨rfl, rfl⟩))
      · have e1 : c_nm b n p = false := by unfold c_nm; rw [Bool.eq_false_iff.mpr q6, Bool.eq_false_iff.mpr q7]; rfl
        rw [if_neg q7, e1]
        by_cases q9 : t_op b n p = true
        · rw [if_pos q9, q9]
          refine w_iload_n rfl rfl (w_ifc_t rfl (t := 18) rfl (by decide) (w_aload_n rfl rfl (w_getf rfl rfl e43 f6 (w_ic 2 rfl rfl (w_icmp_t rfl (t := 38) rfl (by simp only [p_cd, decide_eq_true_eq]; exact b_ofNat_ne (by omega) (by omega) q2) (w_iload_n rfl rfl (w_ifc_f rfl (t := 50) rfl (by decide) (w_iload_n rfl rfl (w_bp 8 rfl rfl ?_)))))))))
          by_cases q10 : 8 ≤ d
          · rw [if_pos q10]
            exact w_icmp_f rfl (t := 50) rfl (by simp only [p_cd, decide_eq_false_iff_not]; rw [Int32.lt_iff_toInt_lt, g_ofNat (by omega), g_ofNat (by omega)]; omega) (w_ic 3 rfl rfl (w_ireturn rfl rfl ⟨rfl, rfl⟩))
          · rw [if_neg q10]
            refine w_icmp_t rfl (t := 50) rfl (by simp only [p_cd, decide_eq_true_eq]; rw [Int32.lt_iff_toInt_lt, g_ofNat (by omega), g_ofNat (by omega)]; omega) (w_iload_n rfl rfl (w_ifc_t rfl (t := 73) rfl (by decide) (w_aload_n rfl rfl (w_getf rfl rfl e43 f17 ?_))))
            cases sv with
            | true =>
              exact w_ifc_f rfl (t := 85) rfl (by decide) (w_bp 7 rfl rfl (w_goto rfl (t := 86) rfl (w_ireturn rfl rfl ⟨rfl, rfl⟩)))
            | false =>
              exact w_ifc_t rfl (t := 85) rfl (by decide) (w_ic 0 rfl rfl (w_ireturn rfl rfl ⟨rfl, rfl⟩))
        · rw [if_neg q9, Bool.eq_false_iff.mpr q9]
          exact w_iload_n rfl rfl (w_ifc_f rfl (t := 18) rfl (by decide) (w_iload_n rfl rfl (w_ifc_f rfl (t := 18) rfl (by decide) (w_aload_n rfl rfl (w_getf rfl rfl e43 f6 (w_ic 2 rfl rfl (w_icmp_f rfl (t := 18) rfl (by simp only [p_cd, decide_eq_false_iff_not]; exact b_ofNat_ne (by omega) (by omega) q2) (w_ic 1 rfl rfl (w_ireturn rfl rfl ⟨rfl, rfl⟩)))))))))
end RS9

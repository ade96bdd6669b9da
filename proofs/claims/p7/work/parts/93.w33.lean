/-! THE CLASS READS: numbers, deeds, laws, clauses -/
section WNN
variable {G : p_G} {MT : List p_M} {M : p_M} {d pc l a : Nat} {ls : p_Ls} {st : List Value} {h : p_H} {off : Int} {t : Nat} {Q : Option Value → p_H → Prop}
theorem w_ifnn_j (hat : p_at pc M.2.2.2.2.1 = some (.ifnonnull off, l)) (ht : p_tg pc off = some t) (hk : p_wp G MT d M t ls st h Q) : p_wp G MT d M pc ls (.ref a :: st) h Q :=
  p_wp.step hat (by simp only [p_step, p_jm, ht]; rfl) hk
theorem w_ifnn_g (hat : p_at pc M.2.2.2.2.1 = some (.ifnonnull off, l)) (hk : p_wp G MT d M (pc + 3) ls st h Q) : p_wp G MT d M pc ls (.null :: st) h Q := p_wp.step hat rfl hk
theorem w_ifn_j (hat : p_at pc M.2.2.2.2.1 = some (.ifnull off, l)) (ht : p_tg pc off = some t) (hk : p_wp G MT d M t ls st h Q) : p_wp G MT d M pc ls (.null :: st) h Q :=
  p_wp.step hat (by simp only [p_step, p_jm, ht]; rfl) hk
theorem w_ifn_g (hat : p_at pc M.2.2.2.2.1 = some (.ifnull off, l)) (hk : p_wp G MT d M (pc + 3) ls st h Q) : p_wp G MT d M pc ls (.ref a :: st) h Q := p_wp.step hat rfl hk
end WNN
section RS13
variable {h : p_H} {dd n p u m : Nat} {la : Int32} {sv : Bool} {ml se ro fa pl : Value} {b : Nat → Nat}
theorem t_app {h c : p_H} {k : Nat} {x : p_C} (e : h[k]? = some x) : (h ++ c)[k]? = some x := by rw [List.getElem?_append_left (List.getElem?_eq_some_iff.mp e).1]; exact e
theorem c_S_app {c : p_H} (hS : c_S h b n p u m la sv ml se ro fa pl) : c_S (h ++ c) b n p u m la sv ml se ro fa pl := by
  obtain ⟨fs, tp, rw, cw, pa, e43, fl, f0, f1, f2, f3, ⟨f4, f5, f6, v7, f7, t1, t2, t3⟩, f8, f9, f10, f11, f12, f13, f14, f15, f16, f17, e44, hb, e1, e45, rl, hrI, e46, cl, hI⟩ := hS
  exact ⟨fs, tp, rw, cw, pa, t_app e43, fl, f0, f1, f2, f3, ⟨f4, f5, f6, v7, f7, t1, t2, t3⟩, f8, f9, f10, f11, f12, f13, f14, f15, f16, f17, t_app e44, hb, t_app e1, t_app e45, rl, hrI, t_app e46, cl, hI⟩
/-- what a reader of a deed leaves: r the grammar's answer; nothing else is told -/
def c_Y (h : p_H) (b : Nat → Nat) (n u m : Nat) (la : Int32) (ml se ro fa pl : Value) (r : Nat × Nat) : Prop := (r.1 = 0 → c_S h b n r.2 u m la false ml se ro fa pl) ∧ (r.1 ≠ 0 → c_S h b n r.2 u m la false ml se ro (.int (Int32.ofNat r.1)) (.int (Int32.ofNat r.2)))
theorem c_takeS2 {c : Nat} (hS : c_S h b n p u m la false ml se ro fa pl) (hn : n ≤ 300) (hp : p ≤ n) (hc : c < 256) : p_wp p_GT p_MT (dd + 2) m_X3_takeSign 0 (lv_args 0 [.ref 43, .int (Int32.ofNat c)]) [] h (fun v h2 => v = some (.int (l_b (Nat.beq (t_D b n [(2, c, 0)] p).1 0))) ∧ c_Y h2 b n u m la ml se ro fa pl (t_D b n [(2, c, 0)] p)) := by
  refine (c_takeS (dd := dd) hS hc hn hp).mono (Nat.le_refl _) ?_
  have eD : t_D b n [(2, c, 0)] p = (if t_is b n p c = true then (0, t_x b n p) else (1, p)) := rfl
  rintro v h2 (⟨q, rfl, hS2⟩ | ⟨q, rfl, hS2⟩)
  · rw [eD, if_pos q]; exact ⟨rfl, fun _ => hS2, fun e => absurd rfl e⟩
  · rw [eD, if_neg (by rw [q]; decide)]; exact ⟨rfl, fun e => absurd e (by first | decide | simp), fun _ => hS2⟩
theorem c_takeW2 {k : Nat} (hS : c_S h b n p u m la false ml se ro fa pl) (hn : n ≤ 300) (hp : p ≤ n) (hk : k < 22) : p_wp p_GT p_MT (dd + 2) m_X3_takeWord 0 (lv_args 0 [.ref 43, .int (Int32.ofNat k)]) [] h (fun v h2 => v = some (.int (l_b (Nat.beq (t_D b n [(1, k, 0)] p).1 0))) ∧ c_Y h2 b n u m la ml se ro fa pl (t_D b n [(1, k, 0)] p)) := by
  refine (c_takeW (dd := dd) hS hk hn hp).mono (Nat.le_refl _) ?_
  have eD : t_D b n [(1, k, 0)] p = (if t_wd b n p k = true then (0, t_x b n p) else (1, p)) := rfl
  rintro v h2 (⟨q, rfl, hS2⟩ | ⟨q, rfl, hS2⟩)
  · rw [eD, if_pos q]; exact ⟨rfl, fun _ => hS2, fun e => absurd rfl e⟩
  · rw [eD, if_neg (by rw [q]; decide)]; exact ⟨rfl, fun e => absurd e (by first | decide | simp), fun _ => hS2⟩
set_option maxRecDepth 100000 in
theorem c_takeN {lo hi : Nat} (hS : c_S h b n p u m la false ml se ro fa pl) (hn : n ≤ 300) (hp : p ≤ n) (hlo : lo < 100) (hhi : hi < 100) : p_wp p_GT p_MT (dd + 2) m_X3_takeNumber 0 (lv_args 0 [.ref 43, .int (Int32.ofNat lo), .int (Int32.ofNat hi)]) [] h (fun v h2 => v = some (.int (l_b (Nat.beq (t_D b n [(0, lo, hi)] p).1 0))) ∧ c_Y h2 b n u m la ml se ro fa pl (t_D b n [(0, lo, hi)] p)) := by
  have hS' := hS
  obtain ⟨fs, tp, rw, cw, pa, e43, fl, f0, f1, f2, f3, ⟨f4, f5, f6, v7, f7, t1, t2, t3⟩, f8, f9, f10, f11, f12, f13, f14, f15, f16, f17, e44, hb, e1, e45, rl, hrI, e46, cl, hI⟩ := hS
  have eD : t_D b n [(0, lo, hi)] p = (if t_k b n p ≠ 2 then (1, p) else if t_n b n p < lo ∨ hi < t_n b n p then (2, p) else (0, t_x b n p)) := rfl
  have hk4 : t_k b n p < 4 := by unfold t_k; (repeat' split) <;> omega
  rw [eD]
  by_cases q0 : t_k b n p = 2
  · have ev := t2 q0
    rw [t_ml_n hp] at ev
    subst ev
    have hm : min 10000 (t_n b n p) < 100000 := by omega
    rw [if_neg (fun q => q q0)]
    refine w_aload_n rfl rfl (w_getf rfl rfl e43 f6 (w_ic 2 rfl rfl (w_icmp_t rfl (t := 14) rfl (by rw [q0]; decide) (w_aload_n rfl rfl (w_getf rfl rfl e43 f7 (w_iload_n rfl rfl (w_iload_n rfl rfl (w_static (nn := 0) (dc := dd + 1) (M' := m_X11_within) rfl rfl rfl rfl (Nat.le_refl _) b_within ?_))))))))
    rintro v h2 ⟨rfl, rfl⟩
    by_cases q1 : t_n b n p < lo ∨ hi < t_n b n p
    · rw [if_pos q1, if_neg (by rw [Int32.le_iff_toInt_le, Int32.le_iff_toInt_le, g_ofNat (by omega), g_ofNat (by omega), g_ofNat (by omega)]; omega)]
      refine w_ifc_f rfl (t := 32) rfl (by decide) (w_aload_n rfl rfl (w_ic 2 rfl rfl (w_virtual (dc := dd + 1) (M' := m_X3_wrong) rfl (g_vir (n := 2) rfl rfl (by simp [p_cat, p_bd, Value.category]) rfl rfl e43 rfl) rfl rfl (Nat.le_refl _) (c_wrong (f := Int32.ofNat 2) hS') ?_)))
      rintro v h3 ⟨rfl, hS3⟩
      exact w_ireturnb rfl rfl rfl ⟨rfl, fun e => absurd e (by first | decide | simp), fun _ => hS3⟩
    · rw [if_neg q1, if_pos (by rw [Int32.le_iff_toInt_le, Int32.le_iff_toInt_le, g_ofNat (by omega), g_ofNat (by omega), g_ofNat (by omega)]; omega)]
      refine w_ifc_t rfl (t := 32) rfl (by decide) (w_aload_n rfl rfl (w_aload_n rfl rfl (w_getf rfl rfl e43 f7 (w_virtual (dc := dd + 1) (M' := m_X3_addPart) rfl (g_vir (n := 2) rfl rfl (by simp [p_cat, p_bd, Value.category]) rfl rfl e43 rfl) rfl rfl (Nat.le_refl _) (c_addPart (dd := dd) hS') ?_))))
      rintro v h3 ⟨rfl, hS3⟩
      have hS3' := hS3
      obtain ⟨fs3, tp3, rw3, cw3, pa3, e433, fl3, f03, f13, f23, f33, ⟨f43, f53, f63, v73, f73, t13, t23, t33⟩, f83, f93, f103, f113, f123, f133, f143, f153, f163, f173, e443, hb3, e13, e453, rl3, hrI3, e463, cl3, hI3⟩ := hS3'
      refine w_aload_n rfl rfl (w_virtual (dc := dd + 1) (M' := m_X3_step) rfl (g_vir (n := 1) rfl rfl (by simp [p_cat, p_bd, Value.category]) rfl rfl e433 rfl) rfl rfl (Nat.le_refl _) (c_next (dd := dd) hS3 hn hp) ?_)
      rintro v h4 ⟨rfl, hS4⟩
      exact w_iconst rfl (w_ireturnb rfl rfl rfl ⟨rfl, fun _ => hS4, fun e => absurd rfl e⟩)
  · rw [if_pos q0]
    refine w_aload_n rfl rfl (w_getf rfl rfl e43 f6 (w_ic 2 rfl rfl (w_icmp_f rfl (t := 14) rfl (by simp only [p_cd, decide_eq_false_iff_not]; exact b_ofNat_ne (by omega) (by omega) q0) (w_aload_n rfl rfl (w_ic 1 rfl rfl (w_virtual (dc := dd + 1) (M' := m_X3_wrong) rfl (g_vir (n := 2) rfl rfl (by simp [p_cat, p_bd, Value.category]) rfl rfl e43 rfl) rfl rfl (Nat.le_refl _) (c_wrong (f := Int32.ofNat 1) hS') ?_))))))
    rintro v h3 ⟨rfl, hS3⟩
    exact w_ireturnb rfl rfl rfl ⟨rfl, fun e => absurd e (by first | decide | simp), fun _ => hS3⟩
end RS13

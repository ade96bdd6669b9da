/-! THE CLASS READS: numbers, deeds, laws, clauses -/
section WNN
variable {G : p_G} {MT : List p_M} {M : p_M} {d pc l a : Nat} {ls : p_Ls} {st : List Value} {h : p_H} {off : Int} {t : Nat} {Q : Option Value → p_H → Prop}
theorem w_ifnn_j (hat : p_at pc M.2.2.2.2.1 = some (.ifnonnull off, l)) (ht : p_tg pc off = some t) (hk : p_wp G MT d M t ls st h Q) : p_wp G MT d M pc ls (.ref a :: st) h Q :=
  p_wp.step hat (by simp only [p_step, p_jm, ht]) hk
theorem w_ifnn_g (hat : p_at pc M.2.2.2.2.1 = some (.ifnonnull off, l)) (hk : p_wp G MT d M (pc + 3) ls st h Q) : p_wp G MT d M pc ls (.null :: st) h Q := p_wp.step hat rfl hk
theorem w_ifn_j (hat : p_at pc M.2.2.2.2.1 = some (.ifnull off, l)) (ht : p_tg pc off = some t) (hk : p_wp G MT d M t ls st h Q) : p_wp G MT d M pc ls (.null :: st) h Q :=
  p_wp.step hat (by simp only [p_step, p_jm, ht]) hk
theorem w_ifn_g (hat : p_at pc M.2.2.2.2.1 = some (.ifnull off, l)) (hk : p_wp G MT d M (pc + 3) ls st h Q) : p_wp G MT d M pc ls (.ref a :: st) h Q := p_wp.step hat rfl hk
end WNN
section RS13
variable {h : p_H} {dd n p u m : Nat} {la : Int32} {sv : Bool} {ml se ro fa pl : Value} {b : Nat → Nat}
theorem t_app {h c : p_H} {k : Nat} {x : p_C} (e : h[k]? = some x) : (h ++ c)[k]? = some x := by rw [List.getElem?_append_left (List.getElem?_eq_some_iff.mp e).1]; exact e
theorem c_S_app {c : p_H} (hS : c_S h b n p u m la sv ml se ro fa pl) : c_S (h ++ c) b n p u m la sv ml se ro fa pl := by
  obtain ⟨fs, tp, rw, cw, pa, e43, fl, f0, f1, f2, f3, ⟨f4, f5, f6, v7, f7, t1, t2, t3⟩, f8, f9, f10, f11, f12, f13, f14, f15, f16, f17, e44, hb, e1, e45, rl, hrI, e46, cl, hI⟩ := hS
  exact ⟨fs, tp, rw, cw, pa, t_app e43, fl, f0, f1, f2, f3, ⟨f4, f5, f6, v7, f7, t1, t2, t3⟩, f8, f9, f10, f11, f12, f13, f14, f15, f16, f17, t_app e44, hb, t_app e1, t_app e45, rl, hrI, t_app e46, cl, hI⟩
/-- what a reader of a deed leaves: r the grammar's answer; nothing else is told -/
def c_Y (h : p_H) (b : Nat → Nat) (n u m : Nat) (la : Int32) (ml se ro fa pl : Value) (r : Nat × Nat) : Prop := (r.1 = 0 → c_S h b n r.2 u m la false ml se ro fa pl) ∧ (r.1 ≠ 0 → c_S h b n r.2 u m la false ml se ro (.int (Int32.ofNat r.1)) (.int (Int32.ofNat r.2)))
theorem c_takeS2 {c : Nat} (hS : c_S h b n p u m la false ml se ro fa pl) (hn : n ≤ 300) (hp : p ≤ n) (hc : c < 256) : p_wp p_GT p_MT (dd + 2) m_X3_takeSign 0 (lv_args 0 [.ref 43, .int (Int32.ofNat c)]) [] h (fun v h2 => v = some (.int (l_b (Nat.beq (t_D b n [(2, c, 0)] p).1 0))) ∧ c_Y h2 b n u m la ml se ro fa pl (t_D b n [(2, c, 0)] p)) := by
  refine (c_takeS (dd := dd) hS hc hn hp).mono (Nat.le_refl _) ?_
  have eD : t_D b n [(2, c, 0)] p = (if t_is b n p c = true then (0, t_x b n p) else (1, p)) := rfl
  rintro v h2 (⟨q, rfl, hS2⟩ | ⟨q, rfl, hS2⟩)
  · rw [eD, if_pos q]; exact ⟨rfl, fun _ => hS2, fun e => absurd rfl e⟩
  · rw [eD, if_neg (by rw [q]; decide)]; exact ⟨rfl, fun e => absurd e (by decide), fun _ => hS2⟩
theorem c_takeW2 {k : Nat} (hS : c_S h b n p u m la false ml se ro fa pl) (hn : n ≤ 300) (hp : p ≤ n) (hk : k < 22) : p_wp p_GT p_MT (dd + 2) m_X3_takeWord 0 (lv_args 0 [.ref 43, .int (Int32.ofNat k)]) [] h (fun v h2 => v = some (.int (l_b (Nat.beq (t_D b n [(1, k, 0)] p).1 0))) ∧ c_Y h2 b n u m la ml se ro fa pl (t_D b n [(1, k, 0)] p)) := by
  refine (c_takeW (dd := dd) hS hk hn hp).mono (Nat.le_refl _) ?_
  have eD : t_D b n [(1, k, 0)] p = (if t_wd b n p k = true then (0, t_x b n p) else (1, p)) := rfl
  rintro v h2 (⟨q, rfl, hS2⟩ | ⟨q, rfl, hS2⟩)
  · rw [eD, if_pos q]; exact ⟨rfl, fun _ => hS2, fun e => absurd rfl e⟩
  · rw [eD, if_neg (by rw [q]; decide)]; exact ⟨rfl, fun e => absurd e (by decide), fun _ => hS2⟩
set_option maxRecDepth 100000 in
theorem c_takeN {lo hi : Nat} (hS : c_S h b n p u m la false ml se ro fa pl) (hn : n ≤ 300) (hp : p ≤ n) (hlo : lo < 100) (hhi : hi < 100) : p_wp p_GT p_MT (dd + 2) m_X3_takeNumber 0 (lv_args 0 [.ref 43, .int (Int32.ofNat lo), .int (Int32.ofNat hi)]) [] h (fun v h2 => v = some (.int (l_b (Nat.beq (t_D b n [(0, lo, hi)] p).1 0))) ∧ c_Y h2 b n u m la ml se ro fa pl (t_D b n [(0, lo, hi)] p)) := by
  have hS' := hS
  obtain ⟨fs, tp, rw, cw, pa, e43, fl, f0, f1, f2, f3, ⟨f4, f5, f6, v7, f7, t1, t2, t3⟩, f8, f9, f10, f11, f12, f13, f14, f15, f16, f17, e44, hb, e1, e45, rl, hrI, e46, cl, hI⟩ := hS
  have eD : t_D b n [(0, lo, hi)] p = (if t_k b n p ≠ 2 then (1, p) else if t_n b n p < lo ∨ hi < t_n b n p then (2, p) else (0, t_x b n p)) := rfl
  have hk4 : t_k b n p < 4 := by unfold t_k; (repeat' split) <;> omega
  rw [eD]
  by_cases q0 : t_k b n p = 2
  · have ev := t2 q0
    rw [t_ml_n hp] at ev
    subst ev
    have hm : min 10000 (t_n b n p) < 100000 := by omega
    rw [if_neg (fun q => q q0)]
    refine w_aload_n rfl rfl (w_getf rfl rfl e43 f6 (w_ic 2 rfl rfl (w_icmp_t rfl (t := 14) rfl (by rw [q0]; decide) (w_aload_n rfl rfl (w_getf rfl rfl e43 f7 (w_iload_n rfl rfl (w_iload_n rfl rfl (w_static (nn := 0) (dc := dd + 1) (M' := m_X11_within) rfl rfl rfl rfl (Nat.le_refl _) b_within ?_))))))))
    rintro v h2 ⟨rfl, rfl⟩
    by_cases q1 : t_n b n p < lo ∨ hi < t_n b n p
    · rw [if_pos q1, if_neg (by rw [Int32.le_iff_toInt_le, Int32.le_iff_toInt_le, g_ofNat (by omega), g_ofNat (by omega), g_ofNat (by omega)]; omega)]
      refine w_ifc_f rfl (t := 32) rfl (by decide) (w_aload_n rfl rfl (w_ic 2 rfl rfl (w_virtual (dc := dd + 1) (M' := m_X3_wrong) rfl (g_vir (n := 2) rfl rfl (by simp [p_cat, p_bd, Value.category]) rfl rfl e43 rfl) rfl rfl (Nat.le_refl _) (c_wrong (f := Int32.ofNat 2) hS') ?_)))
      rintro v h3 ⟨rfl, hS3⟩
      exact w_ireturnb rfl rfl rfl ⟨rfl, fun e => absurd e (by decide), fun _ => hS3⟩
    · rw [if_neg q1, if_pos (by rw [Int32.le_iff_toInt_le, Int32.le_iff_toInt_le, g_ofNat (by omega), g_ofNat (by omega), g_ofNat (by omega)]; omega)]
      refine w_ifc_t rfl (t := 32) rfl (by decide) (w_aload_n rfl rfl (w_aload_n rfl rfl (w_getf rfl rfl e43 f7 (w_virtual (dc := dd + 1) (M' := m_X3_addPart) rfl (g_vir (n := 2) rfl rfl (by simp [p_cat, p_bd, Value.category]) rfl rfl e43 rfl) rfl rfl (Nat.le_refl _) (c_addPart (dd := dd) hS') ?_))))
      rintro v h3 ⟨rfl, hS3⟩
      have hS3' := hS3
      obtain ⟨fs3, tp3, rw3, cw3, pa3, e433, fl3, f03, f13, f23, f33, ⟨f43, f53, f63, v73, f73, t13, t23, t33⟩, f83, f93, f103, f113, f123, f133, f143, f153, f163, f173, e443, hb3, e13, e453, rl3, hrI3, e463, cl3, hI3⟩ := hS3'
      refine w_aload_n rfl rfl (w_virtual (dc := dd + 1) (M' := m_X3_step) rfl (g_vir (n := 1) rfl rfl (by simp [p_cat, p_bd, Value.category]) rfl rfl e433 rfl) rfl rfl (Nat.le_refl _) (c_next (dd := dd) hS3 hn hp) ?_)
      rintro v h4 ⟨rfl, hS4⟩
      exact w_iconst rfl (w_ireturnb rfl rfl rfl ⟨rfl, fun _ => hS4, fun e => absurd rfl e⟩)
  · rw [if_pos q0]
    refine w_aload_n rfl rfl (w_getf rfl rfl e43 f6 (w_ic 2 rfl rfl (w_icmp_f rfl (t := 14) rfl (by simp only [p_cd, decide_eq_false_iff_not]; exact b_ofNat_ne (by omega) (by omega) q0) (w_aload_n rfl rfl (w_ic 1 rfl rfl (w_virtual (dc := dd + 1) (M' := m_X3_wrong) rfl (g_vir (n := 2) rfl rfl (by simp [p_cat, p_bd, Value.category]) rfl rfl e43 rfl) rfl rfl (Nat.le_refl _) (c_wrong (f := Int32.ofNat 1) hS') ?_))))))
    rintro v h3 ⟨rfl, hS3⟩
    exact w_ireturnb rfl rfl rfl ⟨rfl, fun e => absurd e (by decide), fun _ => hS3⟩
set_option maxRecDepth 100000 in
theorem c_deed3 (hS : c_S h b n p u m la false ml se ro fa pl) (hn : n ≤ 300) (hp : p ≤ n) : p_wp p_GT p_MT (dd + 3) m_X3_readDeed 0 (lv_args 0 [.ref 43, .int (Int32.ofNat 3)]) [] h (fun v h2 => v = some (.int (l_b (Nat.beq (t_D b n [(0, 2, 8), (1, 16, 0), (0, 2, 8)] p).1 0))) ∧ c_Y h2 b n u m la ml se ro fa pl (t_D b n [(0, 2, 8), (1, 16, 0), (0, 2, 8)] p)) := by
  have hS' := hS
  obtain ⟨fs, tp, rw, cw, pa, e43, fl, f0, f1, f2, f3, ⟨f4, f5, f6, v7, f7, t1, t2, t3⟩, f8, f9, f10, f11, f12, f13, f14, f15, f16, f17, e44, hb, e1, e45, rl, hrI, e46, cl, hI⟩ := hS
  rw [show t_D b n [(0, 2, 8), (1, 16, 0), (0, 2, 8)] p = _ from t_D_app [(0, 2, 8)] [(1, 16, 0), (0, 2, 8)] p]
  refine w_iload_n rfl rfl (w_sw rfl (t := 44) rfl (w_aload_n rfl rfl (w_ic 2 rfl rfl (w_bp 8 rfl rfl (w_virtual (dc := dd + 2) (M' := m_X3_takeNumber) rfl (g_vir (n := 3) rfl rfl (by simp [p_cat, p_bd, Value.category]) rfl rfl e43 rfl) rfl rfl (Nat.le_refl _) (c_takeN (dd := dd) (lo := 2) (hi := 8) hS' hn hp (by decide) (by decide)) ?_)))))
  rintro v h2 ⟨rfl, hY2⟩
  by_cases e2 : (t_D b n [(0, 2, 8)] p).1 = 0
  · rw [if_neg (fun q => q e2), e2]
    have hS2 := hY2.1 e2
    have hp2 := (t_D_le (b := b) [(0, 2, 8)] p hp).2
    have hS2' := hS2
    rw [show t_D b n [(1, 16, 0), (0, 2, 8)] ((t_D b n [(0, 2, 8)] p).2) = _ from t_D_app [(1, 16, 0)] [(0, 2, 8)] ((t_D b n [(0, 2, 8)] p).2)]
    obtain ⟨fs2, tp2, rw2, cw2, pa2, e432, fl2, f02, f12, f22, f32, ⟨f42, f52, f62, v72, f72, t12, t22, t32⟩, f82, f92, f102, f112, f122, f132, f142, f152, f162, f172, e442, hb2, e12, e452, rl2, hrI2, e462, cl2, hI2⟩ := hS2'
    refine w_ifc_f rfl (t := 77) rfl (by decide) (w_aload_n rfl rfl (w_bp 16 rfl rfl (w_virtual (dc := dd + 2) (M' := m_X3_takeWord) rfl (g_vir (n := 2) rfl rfl (by simp [p_cat, p_bd, Value.category]) rfl rfl e432 rfl) rfl rfl (Nat.le_refl _) (c_takeW2 (dd := dd) (k := 16) hS2 hn hp2 (by decide)) ?_)))
    rintro v h3 ⟨rfl, hY3⟩
    by_cases e3 : (t_D b n [(1, 16, 0)] ((t_D b n [(0, 2, 8)] p).2)).1 = 0
    · rw [if_neg (fun q => q e3), e3]
      have hS3 := hY3.1 e3
      have hp3 := (t_D_le (b := b) [(1, 16, 0)] ((t_D b n [(0, 2, 8)] p).2) hp2).2
      have hS3' := hS3
      obtain ⟨fs3, tp3, rw3, cw3, pa3, e433, fl3, f03, f13, f23, f33, ⟨f43, f53, f63, v73, f73, t13, t23, t33⟩, f83, f93, f103, f113, f123, f133, f143, f153, f163, f173, e443, hb3, e13, e453, rl3, hrI3, e463, cl3, hI3⟩ := hS3'
      refine w_ifc_f rfl (t := 77) rfl (by decide) (w_aload_n rfl rfl (w_ic 2 rfl rfl (w_bp 8 rfl rfl (w_virtual (dc := dd + 2) (M' := m_X3_takeNumber) rfl (g_vir (n := 3) rfl rfl (by simp [p_cat, p_bd, Value.category]) rfl rfl e433 rfl) rfl rfl (Nat.le_refl _) (c_takeN (dd := dd) (lo := 2) (hi := 8) hS3 hn hp3 (by decide) (by decide)) ?_))))
      rintro v h4 ⟨rfl, hY4⟩
      by_cases e4 : (t_D b n [(0, 2, 8)] ((t_D b n [(1, 16, 0)] ((t_D b n [(0, 2, 8)] p).2)).2)).1 = 0
      · rw [e4]
        exact w_ifc_f rfl (t := 77) rfl (by decide) (w_iconst rfl (w_goto rfl (t := 78) rfl (w_ireturnb rfl rfl rfl ⟨rfl, hY4⟩)))
      · rw [t_beq0 e4]
        exact w_ifc_t rfl (t := 77) rfl (by decide) (w_iconst rfl (w_ireturnb rfl rfl rfl ⟨rfl, hY4⟩))
    · rw [if_pos e3, t_beq0 e3]
      exact w_ifc_t rfl (t := 77) rfl (by decide) (w_iconst rfl (w_ireturnb rfl rfl rfl ⟨rfl, hY3⟩))
  · rw [if_pos e2, t_beq0 e2]
    exact w_ifc_t rfl (t := 77) rfl (by decide) (w_iconst rfl (w_ireturnb rfl rfl rfl ⟨rfl, hY2⟩))
set_option maxRecDepth 100000 in
theorem c_deed4 (hS : c_S h b n p u m la false ml se ro fa pl) (hn : n ≤ 300) (hp : p ≤ n) : p_wp p_GT p_MT (dd + 3) m_X3_readDeed 0 (lv_args 0 [.ref 43, .int (Int32.ofNat 4)]) [] h (fun v h2 => v = some (.int (l_b (Nat.beq (t_D b n [(0, 0, 9), (1, 17, 0), (0, 0, 7), (2, 44, 0), (0, 0, 7), (2, 58, 0), (0, 1, 3), (2, 44, 0), (0, 1, 3), (1, 18, 0), (0, 0, 9)] p).1 0))) ∧ c_Y h2 b n u m la ml se ro fa pl (t_D b n [(0, 0, 9), (1, 17, 0), (0, 0, 7), (2, 44, 0), (0, 0, 7), (2, 58, 0), (0, 1, 3), (2, 44, 0), (0, 1, 3), (1, 18, 0), (0, 0, 9)] p)) := by
  have hS' := hS
  obtain ⟨fs, tp, rw, cw, pa, e43, fl, f0, f1, f2, f3, ⟨f4, f5, f6, v7, f7, t1, t2, t3⟩, f8, f9, f10, f11, f12, f13, f14, f15, f16, f17, e44, hb, e1, e45, rl, hrI, e46, cl, hI⟩ := hS
  rw [show t_D b n [(0, 0, 9), (1, 17, 0), (0, 0, 7), (2, 44, 0), (0, 0, 7), (2, 58, 0), (0, 1, 3), (2, 44, 0), (0, 1, 3), (1, 18, 0), (0, 0, 9)] p = _ from t_D_app [(0, 0, 9)] [(1, 17, 0), (0, 0, 7), (2, 44, 0), (0, 0, 7), (2, 58, 0), (0, 1, 3), (2, 44, 0), (0, 1, 3), (1, 18, 0), (0, 0, 9)] p]
  refine w_iload_n rfl rfl (w_sw rfl (t := 79) rfl (w_aload_n rfl rfl (w_ic 0 rfl rfl (w_bp 9 rfl rfl (w_virtual (dc := dd + 2) (M' := m_X3_takeNumber) rfl (g_vir (n := 3) rfl rfl (by simp [p_cat, p_bd, Value.category]) rfl rfl e43 rfl) rfl rfl (Nat.le_refl _) (c_takeN (dd := dd) (lo := 0) (hi := 9) hS' hn hp (by decide) (by decide)) ?_)))))
  rintro v h2 ⟨rfl, hY2⟩
  by_cases e2 : (t_D b n [(0, 0, 9)] p).1 = 0
  · rw [if_neg (fun q => q e2), e2]
    have hS2 := hY2.1 e2
    have hp2 := (t_D_le (b := b) [(0, 0, 9)] p hp).2
    have hS2' := hS2
    rw [show t_D b n [(1, 17, 0), (0, 0, 7), (2, 44, 0), (0, 0, 7), (2, 58, 0), (0, 1, 3), (2, 44, 0), (0, 1, 3), (1, 18, 0), (0, 0, 9)] ((t_D b n [(0, 0, 9)] p).2) = _ from t_D_app [(1, 17, 0)] [(0, 0, 7), (2, 44, 0), (0, 0, 7), (2, 58, 0), (0, 1, 3), (2, 44, 0), (0, 1, 3), (1, 18, 0), (0, 0, 9)] ((t_D b n [(0, 0, 9)] p).2)]
    obtain ⟨fs2, tp2, rw2, cw2, pa2, e432, fl2, f02, f12, f22, f32, ⟨f42, f52, f62, v72, f72, t12, t22, t32⟩, f82, f92, f102, f112, f122, f132, f142, f152, f162, f172, e442, hb2, e12, e452, rl2, hrI2, e462, cl2, hI2⟩ := hS2'
    refine w_ifc_f rfl (t := 186) rfl (by decide) (w_aload_n rfl rfl (w_bp 17 rfl rfl (w_virtual (dc := dd + 2) (M' := m_X3_takeWord) rfl (g_vir (n := 2) rfl rfl (by simp [p_cat, p_bd, Value.category]) rfl rfl e432 rfl) rfl rfl (Nat.le_refl _) (c_takeW2 (dd := dd) (k := 17) hS2 hn hp2 (by decide)) ?_)))
    rintro v h3 ⟨rfl, hY3⟩
    by_cases e3 : (t_D b n [(1, 17, 0)] ((t_D b n [(0, 0, 9)] p).2)).1 = 0
    · rw [if_neg (fun q => q e3), e3]
      have hS3 := hY3.1 e3
      have hp3 := (t_D_le (b := b) [(1, 17, 0)] ((t_D b n [(0, 0, 9)] p).2) hp2).2
      have hS3' := hS3
      rw [show t_D b n [(0, 0, 7), (2, 44, 0), (0, 0, 7), (2, 58, 0), (0, 1, 3), (2, 44, 0), (0, 1, 3), (1, 18, 0), (0, 0, 9)] ((t_D b n [(1, 17, 0)] ((t_D b n [(0, 0, 9)] p).2)).2) = _ from t_D_app [(0, 0, 7)] [(2, 44, 0), (0, 0, 7), (2, 58, 0), (0, 1, 3), (2, 44, 0), (0, 1, 3), (1, 18, 0), (0, 0, 9)] ((t_D b n [(1, 17, 0)] ((t_D b n [(0, 0, 9)] p).2)).2)]
      obtain ⟨fs3, tp3, rw3, cw3, pa3, e433, fl3, f03, f13, f23, f33, ⟨f43, f53, f63, v73, f73, t13, t23, t33⟩, f83, f93, f103, f113, f123, f133, f143, f153, f163, f173, e443, hb3, e13, e453, rl3, hrI3, e463, cl3, hI3⟩ := hS3'
      refine w_ifc_f rfl (t := 186) rfl (by decide) (w_aload_n rfl rfl (w_ic 0 rfl rfl (w_bp 7 rfl rfl (w_virtual (dc := dd + 2) (M' := m_X3_takeNumber) rfl (g_vir (n := 3) rfl rfl (by simp [p_cat, p_bd, Value.category]) rfl rfl e433 rfl) rfl rfl (Nat.le_refl _) (c_takeN (dd := dd) (lo := 0) (hi := 7) hS3 hn hp3 (by decide) (by decide)) ?_))))
      rintro v h4 ⟨rfl, hY4⟩
      by_cases e4 : (t_D b n [(0, 0, 7)] ((t_D b n [(1, 17, 0)] ((t_D b n [(0, 0, 9)] p).2)).2)).1 = 0
      · rw [if_neg (fun q => q e4), e4]
        have hS4 := hY4.1 e4
        have hp4 := (t_D_le (b := b) [(0, 0, 7)] ((t_D b n [(1, 17, 0)] ((t_D b n [(0, 0, 9)] p).2)).2) hp3).2
        have hS4' := hS4
        rw [show t_D b n [(2, 44, 0), (0, 0, 7), (2, 58, 0), (0, 1, 3), (2, 44, 0), (0, 1, 3), (1, 18, 0), (0, 0, 9)] ((t_D b n [(0, 0, 7)] ((t_D b n [(1, 17, 0)] ((t_D b n [(0, 0, 9)] p).2)).2)).2) = _ from t_D_app [(2, 44, 0)] [(0, 0, 7), (2, 58, 0), (0, 1, 3), (2, 44, 0), (0, 1, 3), (1, 18, 0), (0, 0, 9)] ((t_D b n [(0, 0, 7)] ((t_D b n [(1, 17, 0)] ((t_D b n [(0, 0, 9)] p).2)).2)).2)]
        obtain ⟨fs4, tp4, rw4, cw4, pa4, e434, fl4, f04, f14, f24, f34, ⟨f44, f54, f64, v74, f74, t14, t24, t34⟩, f84, f94, f104, f114, f124, f134, f144, f154, f164, f174, e444, hb4, e14, e454, rl4, hrI4, e464, cl4, hI4⟩ := hS4'
        refine w_ifc_f rfl (t := 186) rfl (by decide) (w_aload_n rfl rfl (w_bp 44 rfl rfl (w_virtual (dc := dd + 2) (M' := m_X3_takeSign) rfl (g_vir (n := 2) rfl rfl (by simp [p_cat, p_bd, Value.category]) rfl rfl e434 rfl) rfl rfl (Nat.le_refl _) (c_takeS2 (dd := dd) (c := 44) hS4 hn hp4 (by decide)) ?_)))
        rintro v h5 ⟨rfl, hY5⟩
        by_cases e5 : (t_D b n [(2, 44, 0)] ((t_D b n [(0, 0, 7)] ((t_D b n [(1, 17, 0)] ((t_D b n [(0, 0, 9)] p).2)).2)).2)).1 = 0
        · rw [if_neg (fun q => q e5), e5]
          have hS5 := hY5.1 e5
          have hp5 := (t_D_le (b := b) [(2, 44, 0)] ((t_D b n [(0, 0, 7)] ((t_D b n [(1, 17, 0)] ((t_D b n [(0, 0, 9)] p).2)).2)).2) hp4).2
          have hS5' := hS5
          rw [show t_D b n [(0, 0, 7), (2, 58, 0), (0, 1, 3), (2, 44, 0), (0, 1, 3), (1, 18, 0), (0, 0, 9)] ((t_D b n [(2, 44, 0)] ((t_D b n [(0, 0, 7)] ((t_D b n [(1, 17, 0)] ((t_D b n [(0, 0, 9)] p).2)).2)).2)).2) = _ from t_D_app [(0, 0, 7)] [(2, 58, 0), (0, 1, 3), (2, 44, 0), (0, 1, 3), (1, 18, 0), (0, 0, 9)] ((t_D b n [(2, 44, 0)] ((t_D b n [(0, 0, 7)] ((t_D b n [(1, 17, 0)] ((t_D b n [(0, 0, 9)] p).2)).2)).2)).2)]
          obtain ⟨fs5, tp5, rw5, cw5, pa5, e435, fl5, f05, f15, f25, f35, ⟨f45, f55, f65, v75, f75, t15, t25, t35⟩, f85, f95, f105, f115, f125, f135, f145, f155, f165, f175, e445, hb5, e15, e455, rl5, hrI5, e465, cl5, hI5⟩ := hS5'
          refine w_ifc_f rfl (t := 186) rfl (by decide) (w_aload_n rfl rfl (w_ic 0 rfl rfl (w_bp 7 rfl rfl (w_virtual (dc := dd + 2) (M' := m_X3_takeNumber) rfl (g_vir (n := 3) rfl rfl (by simp [p_cat, p_bd, Value.category]) rfl rfl e435 rfl) rfl rfl (Nat.le_refl _) (c_takeN (dd := dd) (lo := 0) (hi := 7) hS5 hn hp5 (by decide) (by decide)) ?_))))
          rintro v h6 ⟨rfl, hY6⟩
          by_cases e6 : (t_D b n [(0, 0, 7)] ((t_D b n [(2, 44, 0)] ((t_D b n [(0, 0, 7)] ((t_D b n [(1, 17, 0)] ((t_D b n [(0, 0, 9)] p).2)).2)).2)).2)).1 = 0
          · rw [if_neg (fun q => q e6), e6]
            have hS6 := hY6.1 e6
            have hp6 := (t_D_le (b := b) [(0, 0, 7)] ((t_D b n [(2, 44, 0)] ((t_D b n [(0, 0, 7)] ((t_D b n [(1, 17, 0)] ((t_D b n [(0, 0, 9)] p).2)).2)).2)).2) hp5).2
            have hS6' := hS6
            rw [show t_D b n [(2, 58, 0), (0, 1, 3), (2, 44, 0), (0, 1, 3), (1, 18, 0), (0, 0, 9)] ((t_D b n [(0, 0, 7)] ((t_D b n [(2, 44, 0)] ((t_D b n [(0, 0, 7)] ((t_D b n [(1, 17, 0)] ((t_D b n [(0, 0, 9)] p).2)).2)).2)).2)).2) = _ from t_D_app [(2, 58, 0)] [(0, 1, 3), (2, 44, 0), (0, 1, 3), (1, 18, 0), (0, 0, 9)] ((t_D b n [(0, 0, 7)] ((t_D b n [(2, 44, 0)] ((t_D b n [(0, 0, 7)] ((t_D b n [(1, 17, 0)] ((t_D b n [(0, 0, 9)] p).2)).2)).2)).2)).2)]
            obtain ⟨fs6, tp6, rw6, cw6, pa6, e436, fl6, f06, f16, f26, f36, ⟨f46, f56, f66, v76, f76, t16, t26, t36⟩, f86, f96, f106, f116, f126, f136, f146, f156, f166, f176, e446, hb6, e16, e456, rl6, hrI6, e466, cl6, hI6⟩ := hS6'
            refine w_ifc_f rfl (t := 186) rfl (by decide) (w_aload_n rfl rfl (w_bp 58 rfl rfl (w_virtual (dc := dd + 2) (M' := m_X3_takeSign) rfl (g_vir (n := 2) rfl rfl (by simp [p_cat, p_bd, Value.category]) rfl rfl e436 rfl) rfl rfl (Nat.le_refl _) (c_takeS2 (dd := dd) (c := 58) hS6 hn hp6 (by decide)) ?_)))
            rintro v h7 ⟨rfl, hY7⟩
            by_cases e7 : (t_D b n [(2, 58, 0)] ((t_D b n [(0, 0, 7)] ((t_D b n [(2, 44, 0)] ((t_D b n [(0, 0, 7)] ((t_D b n [(1, 17, 0)] ((t_D b n [(0, 0, 9)] p).2)).2)).2)).2)).2)).1 = 0
            · rw [if_neg (fun q => q e7), e7]
              have hS7 := hY7.1 e7
              have hp7 := (t_D_le (b := b) [(2, 58, 0)] ((t_D b n [(0, 0, 7)] ((t_D b n [(2, 44, 0)] ((t_D b n [(0, 0, 7)] ((t_D b n [(1, 17, 0)] ((t_D b n [(0, 0, 9)] p).2)).2)).2)).2)).2) hp6).2
              have hS7' := hS7
              rw [show t_D b n [(0, 1, 3), (2, 44, 0), (0, 1, 3), (1, 18, 0), (0, 0, 9)] ((t_D b n [(2, 58, 0)] ((t_D b n [(0, 0, 7)] ((t_D b n [(2, 44, 0)] ((t_D b n [(0, 0, 7)] ((t_D b n [(1, 17, 0)] ((t_D b n [(0, 0, 9)] p).2)).2)).2)).2)).2)).2) = _ from t_D_app [(0, 1, 3)] [(2, 44, 0), (0, 1, 3), (1, 18, 0), (0, 0, 9)] ((t_D b n [(2, 58, 0)] ((t_D b n [(0, 0, 7)] ((t_D b n [(2, 44, 0)] ((t_D b n [(0, 0, 7)] ((t_D b n [(1, 17, 0)] ((t_D b n [(0, 0, 9)] p).2)).2)).2)).2)).2)).2)]
              obtain ⟨fs7, tp7, rw7, cw7, pa7, e437, fl7, f07, f17, f27, f37, ⟨f47, f57, f67, v77, f77, t17, t27, t37⟩, f87, f97, f107, f117, f127, f137, f147, f157, f167, f177, e447, hb7, e17, e457, rl7, hrI7, e467, cl7, hI7⟩ := hS7'
              refine w_ifc_f rfl (t := 186) rfl (by decide) (w_aload_n rfl rfl (w_ic 1 rfl rfl (w_ic 3 rfl rfl (w_virtual (dc := dd + 2) (M' := m_X3_takeNumber) rfl (g_vir (n := 3) rfl rfl (by simp [p_cat, p_bd, Value.category]) rfl rfl e437 rfl) rfl rfl (Nat.le_refl _) (c_takeN (dd := dd) (lo := 1) (hi := 3) hS7 hn hp7 (by decide) (by decide)) ?_))))
              rintro v h8 ⟨rfl, hY8⟩
              by_cases e8 : (t_D b n [(0, 1, 3)] ((t_D b n [(2, 58, 0)] ((t_D b n [(0, 0, 7)] ((t_D b n [(2, 44, 0)] ((t_D b n [(0, 0, 7)] ((t_D b n [(1, 17, 0)] ((t_D b n [(0, 0, 9)] p).2)).2)).2)).2)).2)).2)).1 = 0
              · rw [if_neg (fun q => q e8), e8]
                have hS8 := hY8.1 e8
                have hp8 := (t_D_le (b := b) [(0, 1, 3)] ((t_D b n [(2, 58, 0)] ((t_D b n [(0, 0, 7)] ((t_D b n [(2, 44, 0)] ((t_D b n [(0, 0, 7)] ((t_D b n [(1, 17, 0)] ((t_D b n [(0, 0, 9)] p).2)).2)).2)).2)).2)).2) hp7).2
                have hS8' := hS8
                rw [show t_D b n [(2, 44, 0), (0, 1, 3), (1, 18, 0), (0, 0, 9)] ((t_D b n [(0, 1, 3)] ((t_D b n [(2, 58, 0)] ((t_D b n [(0, 0, 7)] ((t_D b n [(2, 44, 0)] ((t_D b n [(0, 0, 7)] ((t_D b n [(1, 17, 0)] ((t_D b n [(0, 0, 9)] p).2)).2)).2)).2)).2)).2)).2) = _ from t_D_app [(2, 44, 0)] [(0, 1, 3), (1, 18, 0), (0, 0, 9)] ((t_D b n [(0, 1, 3)] ((t_D b n [(2, 58, 0)] ((t_D b n [(0, 0, 7)] ((t_D b n [(2, 44, 0)] ((t_D b n [(0, 0, 7)] ((t_D b n [(1, 17, 0)] ((t_D b n [(0, 0, 9)] p).2)).2)).2)).2)).2)).2)).2)]
                obtain ⟨fs8, tp8, rw8, cw8, pa8, e438, fl8, f08, f18, f28, f38, ⟨f48, f58, f68, v78, f78, t18, t28, t38⟩, f88, f98, f108, f118, f128, f138, f148, f158, f168, f178, e448, hb8, e18, e458, rl8, hrI8, e468, cl8, hI8⟩ := hS8'
                refine w_ifc_f rfl (t := 186) rfl (by decide) (w_aload_n rfl rfl (w_bp 44 rfl rfl (w_virtual (dc := dd + 2) (M' := m_X3_takeSign) rfl (g_vir (n := 2) rfl rfl (by simp [p_cat, p_bd, Value.category]) rfl rfl e438 rfl) rfl rfl (Nat.le_refl _) (c_takeS2 (dd := dd) (c := 44) hS8 hn hp8 (by decide)) ?_)))
                rintro v h9 ⟨rfl, hY9⟩
                by_cases e9 : (t_D b n [(2, 44, 0)] ((t_D b n [(0, 1, 3)] ((t_D b n [(2, 58, 0)] ((t_D b n [(0, 0, 7)] ((t_D b n [(2, 44, 0)] ((t_D b n [(0, 0, 7)] ((t_D b n [(1, 17, 0)] ((t_D b n [(0, 0, 9)] p).2)).2)).2)).2)).2)).2)).2)).1 = 0
                · rw [if_neg (fun q => q e9), e9]
                  have hS9 := hY9.1 e9
                  have hp9 := (t_D_le (b := b) [(2, 44, 0)] ((t_D b n [(0, 1, 3)] ((t_D b n [(2, 58, 0)] ((t_D b n [(0, 0, 7)] ((t_D b n [(2, 44, 0)] ((t_D b n [(0, 0, 7)] ((t_D b n [(1, 17, 0)] ((t_D b n [(0, 0, 9)] p).2)).2)).2)).2)).2)).2)).2) hp8).2
                  have hS9' := hS9
                  rw [show t_D b n [(0, 1, 3), (1, 18, 0), (0, 0, 9)] ((t_D b n [(2, 44, 0)] ((t_D b n [(0, 1, 3)] ((t_D b n [(2, 58, 0)] ((t_D b n [(0, 0, 7)] ((t_D b n [(2, 44, 0)] ((t_D b n [(0, 0, 7)] ((t_D b n [(1, 17, 0)] ((t_D b n [(0, 0, 9)] p).2)).2)).2)).2)).2)).2)).2)).2) = _ from t_D_app [(0, 1, 3)] [(1, 18, 0), (0, 0, 9)] ((t_D b n [(2, 44, 0)] ((t_D b n [(0, 1, 3)] ((t_D b n [(2, 58, 0)] ((t_D b n [(0, 0, 7)] ((t_D b n [(2, 44, 0)] ((t_D b n [(0, 0, 7)] ((t_D b n [(1, 17, 0)] ((t_D b n [(0, 0, 9)] p).2)).2)).2)).2)).2)).2)).2)).2)]
                  obtain ⟨fs9, tp9, rw9, cw9, pa9, e439, fl9, f09, f19, f29, f39, ⟨f49, f59, f69, v79, f79, t19, t29, t39⟩, f89, f99, f109, f119, f129, f139, f149, f159, f169, f179, e449, hb9, e19, e459, rl9, hrI9, e469, cl9, hI9⟩ := hS9'
                  refine w_ifc_f rfl (t := 186) rfl (by decide) (w_aload_n rfl rfl (w_ic 1 rfl rfl (w_ic 3 rfl rfl (w_virtual (dc := dd + 2) (M' := m_X3_takeNumber) rfl (g_vir (n := 3) rfl rfl (by simp [p_cat, p_bd, Value.category]) rfl rfl e439 rfl) rfl rfl (Nat.le_refl _) (c_takeN (dd := dd) (lo := 1) (hi := 3) hS9 hn hp9 (by decide) (by decide)) ?_))))
                  rintro v h10 ⟨rfl, hY10⟩
                  by_cases e10 : (t_D b n [(0, 1, 3)] ((t_D b n [(2, 44, 0)] ((t_D b n [(0, 1, 3)] ((t_D b n [(2, 58, 0)] ((t_D b n [(0, 0, 7)] ((t_D b n [(2, 44, 0)] ((t_D b n [(0, 0, 7)] ((t_D b n [(1, 17, 0)] ((t_D b n [(0, 0, 9)] p).2)).2)).2)).2)).2)).2)).2)).2)).1 = 0
                  · rw [if_neg (fun q => q e10), e10]
                    have hS10 := hY10.1 e10
                    have hp10 := (t_D_le (b := b) [(0, 1, 3)] ((t_D b n [(2, 44, 0)] ((t_D b n [(0, 1, 3)] ((t_D b n [(2, 58, 0)] ((t_D b n [(0, 0, 7)] ((t_D b n [(2, 44, 0)] ((t_D b n [(0, 0, 7)] ((t_D b n [(1, 17, 0)] ((t_D b n [(0, 0, 9)] p).2)).2)).2)).2)).2)).2)).2)).2) hp9).2
                    have hS10' := hS10
                    rw [show t_D b n [(1, 18, 0), (0, 0, 9)] ((t_D b n [(0, 1, 3)] ((t_D b n [(2, 44, 0)] ((t_D b n [(0, 1, 3)] ((t_D b n [(2, 58, 0)] ((t_D b n [(0, 0, 7)] ((t_D b n [(2, 44, 0)] ((t_D b n [(0, 0, 7)] ((t_D b n [(1, 17, 0)] ((t_D b n [(0, 0, 9)] p).2)).2)).2)).2)).2)).2)).2)).2)).2) = _ from t_D_app [(1, 18, 0)] [(0, 0, 9)] ((t_D b n [(0, 1, 3)] ((t_D b n [(2, 44, 0)] ((t_D b n [(0, 1, 3)] ((t_D b n [(2, 58, 0)] ((t_D b n [(0, 0, 7)] ((t_D b n [(2, 44, 0)] ((t_D b n [(0, 0, 7)] ((t_D b n [(1, 17, 0)] ((t_D b n [(0, 0, 9)] p).2)).2)).2)).2)).2)).2)).2)).2)).2)]
                    obtain ⟨fs10, tp10, rw10, cw10, pa10, e4310, fl10, f010, f110, f210, f310, ⟨f410, f510, f610, v710, f710, t110, t210, t310⟩, f810, f910, f1010, f1110, f1210, f1310, f1410, f1510, f1610, f1710, e4410, hb10, e110, e4510, rl10, hrI10, e4610, cl10, hI10⟩ := hS10'
                    refine w_ifc_f rfl (t := 186) rfl (by decide) (w_aload_n rfl rfl (w_bp 18 rfl rfl (w_virtual (dc := dd + 2) (M' := m_X3_takeWord) rfl (g_vir (n := 2) rfl rfl (by simp [p_cat, p_bd, Value.category]) rfl rfl e4310 rfl) rfl rfl (Nat.le_refl _) (c_takeW2 (dd := dd) (k := 18) hS10 hn hp10 (by decide)) ?_)))
                    rintro v h11 ⟨rfl, hY11⟩
                    by_cases e11 : (t_D b n [(1, 18, 0)] ((t_D b n [(0, 1, 3)] ((t_D b n [(2, 44, 0)] ((t_D b n [(0, 1, 3)] ((t_D b n [(2, 58, 0)] ((t_D b n [(0, 0, 7)] ((t_D b n [(2, 44, 0)] ((t_D b n [(0, 0, 7)] ((t_D b n [(1, 17, 0)] ((t_D b n [(0, 0, 9)] p).2)).2)).2)).2)).2)).2)).2)).2)).2)).1 = 0
                    · rw [if_neg (fun q => q e11), e11]
                      have hS11 := hY11.1 e11
                      have hp11 := (t_D_le (b := b) [(1, 18, 0)] ((t_D b n [(0, 1, 3)] ((t_D b n [(2, 44, 0)] ((t_D b n [(0, 1, 3)] ((t_D b n [(2, 58, 0)] ((t_D b n [(0, 0, 7)] ((t_D b n [(2, 44, 0)] ((t_D b n [(0, 0, 7)] ((t_D b n [(1, 17, 0)] ((t_D b n [(0, 0, 9)] p).2)).2)).2)).2)).2)).2)).2)).2)).2) hp10).2
                      have hS11' := hS11
                      obtain ⟨fs11, tp11, rw11, cw11, pa11, e4311, fl11, f011, f111, f211, f311, ⟨f411, f511, f611, v711, f711, t111, t211, t311⟩, f811, f911, f1011, f1111, f1211, f1311, f1411, f1511, f1611, f1711, e4411, hb11, e111, e4511, rl11, hrI11, e4611, cl11, hI11⟩ := hS11'
                      refine w_ifc_f rfl (t := 186) rfl (by decide) (w_aload_n rfl rfl (w_ic 0 rfl rfl (w_bp 9 rfl rfl (w_virtual (dc := dd + 2) (M' := m_X3_takeNumber) rfl (g_vir (n := 3) rfl rfl (by simp [p_cat, p_bd, Value.category]) rfl rfl e4311 rfl) rfl rfl (Nat.le_refl _) (c_takeN (dd := dd) (lo := 0) (hi := 9) hS11 hn hp11 (by decide) (by decide)) ?_))))
                      rintro v h12 ⟨rfl, hY12⟩
                      by_cases e12 : (t_D b n [(0, 0, 9)] ((t_D b n [(1, 18, 0)] ((t_D b n [(0, 1, 3)] ((t_D b n [(2, 44, 0)] ((t_D b n [(0, 1, 3)] ((t_D b n [(2, 58, 0)] ((t_D b n [(0, 0, 7)] ((t_D b n [(2, 44, 0)] ((t_D b n [(0, 0, 7)] ((t_D b n [(1, 17, 0)] ((t_D b n [(0, 0, 9)] p).2)).2)).2)).2)).2)).2)).2)).2)).2)).2)).1 = 0
                      · rw [e12]
                        exact w_ifc_f rfl (t := 186) rfl (by decide) (w_iconst rfl (w_goto rfl (t := 187) rfl (w_ireturnb rfl rfl rfl ⟨rfl, hY12⟩)))
                      · rw [t_beq0 e12]
                        exact w_ifc_t rfl (t := 186) rfl (by decide) (w_iconst rfl (w_ireturnb rfl rfl rfl ⟨rfl, hY12⟩))
                    · rw [if_pos e11, t_beq0 e11]
                      exact w_ifc_t rfl (t := 186) rfl (by decide) (w_iconst rfl (w_ireturnb rfl rfl rfl ⟨rfl, hY11⟩))
                  · rw [if_pos e10, t_beq0 e10]
                    exact w_ifc_t rfl (t := 186) rfl (by decide) (w_iconst rfl (w_ireturnb rfl rfl rfl ⟨rfl, hY10⟩))
                · rw [if_pos e9, t_beq0 e9]
                  exact w_ifc_t rfl (t := 186) rfl (by decide) (w_iconst rfl (w_ireturnb rfl rfl rfl ⟨rfl, hY9⟩))
              · rw [if_pos e8, t_beq0 e8]
                exact w_ifc_t rfl (t := 186) rfl (by decide) (w_iconst rfl (w_ireturnb rfl rfl rfl ⟨rfl, hY8⟩))
            · rw [if_pos e7, t_beq0 e7]
              exact w_ifc_t rfl (t := 186) rfl (by decide) (w_iconst rfl (w_ireturnb rfl rfl rfl ⟨rfl, hY7⟩))
          · rw [if_pos e6, t_beq0 e6]
            exact w_ifc_t rfl (t := 186) rfl (by decide) (w_iconst rfl (w_ireturnb rfl rfl rfl ⟨rfl, hY6⟩))
        · rw [if_pos e5, t_beq0 e5]
          exact w_ifc_t rfl (t := 186) rfl (by decide) (w_iconst rfl (w_ireturnb rfl rfl rfl ⟨rfl, hY5⟩))
      · rw [if_pos e4, t_beq0 e4]
        exact w_ifc_t rfl (t := 186) rfl (by decide) (w_iconst rfl (w_ireturnb rfl rfl rfl ⟨rfl, hY4⟩))
    · rw [if_pos e3, t_beq0 e3]
      exact w_ifc_t rfl (t := 186) rfl (by decide) (w_iconst rfl (w_ireturnb rfl rfl rfl ⟨rfl, hY3⟩))
  · rw [if_pos e2, t_beq0 e2]
    exact w_ifc_t rfl (t := 186) rfl (by decide) (w_iconst rfl (w_ireturnb rfl rfl rfl ⟨rfl, hY2⟩))
theorem c_deed5 (hS : c_S h b n p u m la false ml se ro fa pl) (hn : n ≤ 300) (hp : p ≤ n) : p_wp p_GT p_MT (dd + 3) m_X3_readDeed 0 (lv_args 0 [.ref 43, .int (Int32.ofNat 5)]) [] h (fun v h2 => v = some (.int (l_b (Nat.beq (t_D b n [(0, 0, 6)] p).1 0))) ∧ c_Y h2 b n u m la ml se ro fa pl (t_D b n [(0, 0, 6)] p)) := by
  have hS' := hS
  obtain ⟨fs, tp, rw, cw, pa, e43, fl, f0, f1, f2, f3, ⟨f4, f5, f6, v7, f7, t1, t2, t3⟩, f8, f9, f10, f11, f12, f13, f14, f15, f16, f17, e44, hb, e1, e45, rl, hrI, e46, cl, hI⟩ := hS
  refine w_iload_n rfl rfl (w_sw rfl (t := 239) rfl (w_aload_n rfl rfl (w_ic 0 rfl rfl (w_bp 6 rfl rfl (w_virtual (dc := dd + 2) (M' := m_X3_takeNumber) rfl (g_vir (n := 3) rfl rfl (by simp [p_cat, p_bd, Value.category]) rfl rfl e43 rfl) rfl rfl (Nat.le_refl _) (c_takeN (dd := dd) (lo := 0) (hi := 6) hS' hn hp (by decide) (by decide)) ?_)))))
  rintro v h2 ⟨rfl, hY2⟩
  exact w_ireturnb rfl rfl (t_lb_n _) ⟨rfl, hY2⟩
theorem c_deed6 (hS : c_S h b n p u m la false ml se ro fa pl) (hn : n ≤ 300) (hp : p ≤ n) : p_wp p_GT p_MT (dd + 3) m_X3_readDeed 0 (lv_args 0 [.ref 43, .int (Int32.ofNat 6)]) [] h (fun v h2 => v = some (.int (l_b (Nat.beq (t_D b n [(0, 0, 6)] p).1 0))) ∧ c_Y h2 b n u m la ml se ro fa pl (t_D b n [(0, 0, 6)] p)) := by
  have hS' := hS
  obtain ⟨fs, tp, rw, cw, pa, e43, fl, f0, f1, f2, f3, ⟨f4, f5, f6, v7, f7, t1, t2, t3⟩, f8, f9, f10, f11, f12, f13, f14, f15, f16, f17, e44, hb, e1, e45, rl, hrI, e46, cl, hI⟩ := hS
  refine w_iload_n rfl rfl (w_sw rfl (t := 239) rfl (w_aload_n rfl rfl (w_ic 0 rfl rfl (w_bp 6 rfl rfl (w_virtual (dc := dd + 2) (M' := m_X3_takeNumber) rfl (g_vir (n := 3) rfl rfl (by simp [p_cat, p_bd, Value.category]) rfl rfl e43 rfl) rfl rfl (Nat.le_refl _) (c_takeN (dd := dd) (lo := 0) (hi := 6) hS' hn hp (by decide) (by decide)) ?_)))))
  rintro v h2 ⟨rfl, hY2⟩
  exact w_ireturnb rfl rfl (t_lb_n _) ⟨rfl, hY2⟩
theorem c_deed7 (hS : c_S h b n p u m la false ml se ro fa pl) (hn : n ≤ 300) (hp : p ≤ n) : p_wp p_GT p_MT (dd + 3) m_X3_readDeed 0 (lv_args 0 [.ref 43, .int (Int32.ofNat 7)]) [] h (fun v h2 => v = some (.int (l_b (Nat.beq (t_D b n [(0, 0, 63)] p).1 0))) ∧ c_Y h2 b n u m la ml se ro fa pl (t_D b n [(0, 0, 63)] p)) := by
  have hS' := hS
  obtain ⟨fs, tp, rw, cw, pa, e43, fl, f0, f1, f2, f3, ⟨f4, f5, f6, v7, f7, t1, t2, t3⟩, f8, f9, f10, f11, f12, f13, f14, f15, f16, f17, e44, hb, e1, e45, rl, hrI, e46, cl, hI⟩ := hS
  refine w_iload_n rfl rfl (w_sw rfl (t := 231) rfl (w_aload_n rfl rfl (w_ic 0 rfl rfl (w_bp 63 rfl rfl (w_virtual (dc := dd + 2) (M' := m_X3_takeNumber) rfl (g_vir (n := 3) rfl rfl (by simp [p_cat, p_bd, Value.category]) rfl rfl e43 rfl) rfl rfl (Nat.le_refl _) (c_takeN (dd := dd) (lo := 0) (hi := 63) hS' hn hp (by decide) (by decide)) ?_)))))
  rintro v h2 ⟨rfl, hY2⟩
  exact w_ireturnb rfl rfl (t_lb_n _) ⟨rfl, hY2⟩
set_option maxRecDepth 100000 in
theorem c_deed8 (hS : c_S h b n p u m la false ml se ro fa pl) (hn : n ≤ 300) (hp : p ≤ n) : p_wp p_GT p_MT (dd + 3) m_X3_readDeed 0 (lv_args 0 [.ref 43, .int (Int32.ofNat 8)]) [] h (fun v h2 => v = some (.int (l_b (Nat.beq (t_D b n [(0, 1, 9), (1, 19, 0), (0, 0, 63)] p).1 0))) ∧ c_Y h2 b n u m la ml se ro fa pl (t_D b n [(0, 1, 9), (1, 19, 0), (0, 0, 63)] p)) := by
  have hS' := hS
  obtain ⟨fs, tp, rw, cw, pa, e43, fl, f0, f1, f2, f3, ⟨f4, f5, f6, v7, f7, t1, t2, t3⟩, f8, f9, f10, f11, f12, f13, f14, f15, f16, f17, e44, hb, e1, e45, rl, hrI, e46, cl, hI⟩ := hS
  rw [show t_D b n [(0, 1, 9), (1, 19, 0), (0, 0, 63)] p = _ from t_D_app [(0, 1, 9)] [(1, 19, 0), (0, 0, 63)] p]
  refine w_iload_n rfl rfl (w_sw rfl (t := 188) rfl (w_aload_n rfl rfl (w_ic 1 rfl rfl (w_bp 9 rfl rfl (w_virtual (dc := dd + 2) (M' := m_X3_takeNumber) rfl (g_vir (n := 3) rfl rfl (by simp [p_cat, p_bd, Value.category]) rfl rfl e43 rfl) rfl rfl (Nat.le_refl _) (c_takeN (dd := dd) (lo := 1) (hi := 9) hS' hn hp (by decide) (by decide)) ?_)))))
  rintro v h2 ⟨rfl, hY2⟩
  by_cases e2 : (t_D b n [(0, 1, 9)] p).1 = 0
  · rw [if_neg (fun q => q e2), e2]
    have hS2 := hY2.1 e2
    have hp2 := (t_D_le (b := b) [(0, 1, 9)] p hp).2
    have hS2' := hS2
    rw [show t_D b n [(1, 19, 0), (0, 0, 63)] ((t_D b n [(0, 1, 9)] p).2) = _ from t_D_app [(1, 19, 0)] [(0, 0, 63)] ((t_D b n [(0, 1, 9)] p).2)]
    obtain ⟨fs2, tp2, rw2, cw2, pa2, e432, fl2, f02, f12, f22, f32, ⟨f42, f52, f62, v72, f72, t12, t22, t32⟩, f82, f92, f102, f112, f122, f132, f142, f152, f162, f172, e442, hb2, e12, e452, rl2, hrI2, e462, cl2, hI2⟩ := hS2'
    refine w_ifc_f rfl (t := 221) rfl (by decide) (w_aload_n rfl rfl (w_bp 19 rfl rfl (w_virtual (dc := dd + 2) (M' := m_X3_takeWord) rfl (g_vir (n := 2) rfl rfl (by simp [p_cat, p_bd, Value.category]) rfl rfl e432 rfl) rfl rfl (Nat.le_refl _) (c_takeW2 (dd := dd) (k := 19) hS2 hn hp2 (by decide)) ?_)))
    rintro v h3 ⟨rfl, hY3⟩
    by_cases e3 : (t_D b n [(1, 19, 0)] ((t_D b n [(0, 1, 9)] p).2)).1 = 0
    · rw [if_neg (fun q => q e3), e3]
      have hS3 := hY3.1 e3
      have hp3 := (t_D_le (b := b) [(1, 19, 0)] ((t_D b n [(0, 1, 9)] p).2) hp2).2
      have hS3' := hS3
      obtain ⟨fs3, tp3, rw3, cw3, pa3, e433, fl3, f03, f13, f23, f33, ⟨f43, f53, f63, v73, f73, t13, t23, t33⟩, f83, f93, f103, f113, f123, f133, f143, f153, f163, f173, e443, hb3, e13, e453, rl3, hrI3, e463, cl3, hI3⟩ := hS3'
      refine w_ifc_f rfl (t := 221) rfl (by decide) (w_aload_n rfl rfl (w_ic 0 rfl rfl (w_bp 63 rfl rfl (w_virtual (dc := dd + 2) (M' := m_X3_takeNumber) rfl (g_vir (n := 3) rfl rfl (by simp [p_cat, p_bd, Value.category]) rfl rfl e433 rfl) rfl rfl (Nat.le_refl _) (c_takeN (dd := dd) (lo := 0) (hi := 63) hS3 hn hp3 (by decide) (by decide)) ?_))))
      rintro v h4 ⟨rfl, hY4⟩
      by_cases e4 : (t_D b n [(0, 0, 63)] ((t_D b n [(1, 19, 0)] ((t_D b n [(0, 1, 9)] p).2)).2)).1 = 0
      · rw [e4]
        exact w_ifc_f rfl (t := 221) rfl (by decide) (w_iconst rfl (w_goto rfl (t := 222) rfl (w_ireturnb rfl rfl rfl ⟨rfl, hY4⟩)))
      · rw [t_beq0 e4]
        exact w_ifc_t rfl (t := 221) rfl (by decide) (w_iconst rfl (w_ireturnb rfl rfl rfl ⟨rfl, hY4⟩))
    · rw [if_pos e3, t_beq0 e3]
      exact w_ifc_t rfl (t := 221) rfl (by decide) (w_iconst rfl (w_ireturnb rfl rfl rfl ⟨rfl, hY3⟩))
  · rw [if_pos e2, t_beq0 e2]
    exact w_ifc_t rfl (t := 221) rfl (by decide) (w_iconst rfl (w_ireturnb rfl rfl rfl ⟨rfl, hY2⟩))
theorem c_deed9 (hS : c_S h b n p u m la false ml se ro fa pl) (hn : n ≤ 300) (hp : p ≤ n) : p_wp p_GT p_MT (dd + 3) m_X3_readDeed 0 (lv_args 0 [.ref 43, .int (Int32.ofNat 9)]) [] h (fun v h2 => v = some (.int (l_b (Nat.beq (t_D b n [(0, 1, 60)] p).1 0))) ∧ c_Y h2 b n u m la ml se ro fa pl (t_D b n [(0, 1, 60)] p)) := by
  have hS' := hS
  obtain ⟨fs, tp, rw, cw, pa, e43, fl, f0, f1, f2, f3, ⟨f4, f5, f6, v7, f7, t1, t2, t3⟩, f8, f9, f10, f11, f12, f13, f14, f15, f16, f17, e44, hb, e1, e45, rl, hrI, e46, cl, hI⟩ := hS
  refine w_iload_n rfl rfl (w_sw rfl (t := 223) rfl (w_aload_n rfl rfl (w_ic 1 rfl rfl (w_bp 60 rfl rfl (w_virtual (dc := dd + 2) (M' := m_X3_takeNumber) rfl (g_vir (n := 3) rfl rfl (by simp [p_cat, p_bd, Value.category]) rfl rfl e43 rfl) rfl rfl (Nat.le_refl _) (c_takeN (dd := dd) (lo := 1) (hi := 60) hS' hn hp (by decide) (by decide)) ?_)))))
  rintro v h2 ⟨rfl, hY2⟩
  exact w_ireturnb rfl rfl (t_lb_n _) ⟨rfl, hY2⟩
set_option maxRecDepth 100000 in
theorem c_law0 (hS : c_S h b n p u m la false ml se ro fa pl) (hn : n ≤ 300) (hp : p ≤ n) (hp1 : 1 ≤ p) {r : Nat × Nat} (hr : t_P b n (Nat.beq 0 1) 4000 2 0 0 p = r) : p_wp p_GT p_MT (dd + 39) m_X3_readLaw 0 (lv_args 0 [.ref 43, .int (Int32.ofNat 0)]) [] h (fun v h2 => v = some (.int (l_b (Nat.beq r.1 0))) ∧ (r.1 = 0 → (∃ u2 a, c_S h2 b n (r.2) u2 m ((Int32.ofNat 0)) false ((.ref a)) se ro fa pl) ∧ p < r.2 ∧ r.2 ≤ n) ∧ (r.1 ≠ 0 → ∃ u2 sv2, c_S h2 b n (r.2) u2 m ((Int32.ofNat 0)) sv2 ml se ro ((.int (Int32.ofNat r.1))) ((.int (Int32.ofNat r.2))))) := by
  obtain ⟨fs, tp, rw, cw, pa, e43, fl, f0, f1, f2, f3, ⟨f4, f5, f6, v7, f7, t1, t2, t3⟩, f8, f9, f10, f11, f12, f13, f14, f15, f16, f17, e44, hb, e1, e45, rl, hrI, e46, cl, hI⟩ := hS
  refine w_aload_n rfl rfl (w_iload_n rfl rfl (w_putf rfl rfl e43 rfl rfl (w_flt f16) (w_aload_n rfl rfl (w_ic 0 rfl rfl (w_putf rfl rfl (a_gs e43) rfl rfl (w_flt (w_fne f15 (by decide))) ?_)))))
  refine w_use (X := fun h => c_S h b n p 0 m ((Int32.ofNat 0)) false ml se ro fa pl) ⟨_, _, _, _, _, (a_gs (a_gs e43)), (by first | exact fl | (simp only [List.length_set]; exact fl)), (w_fne (w_fne f0 (by decide)) (by decide)), (w_fne (w_fne f1 (by decide)) (by decide)), (w_fne (w_fne f2 (by decide)) (by decide)), (w_fne (w_fne f3 (by decide)) (by decide)), ⟨(w_fne (w_fne f4 (by decide)) (by decide)), (w_fne (w_fne f5 (by decide)) (by decide)), (w_fne (w_fne f6 (by decide)) (by decide)), v7, (w_fne (w_fne f7 (by decide)) (by decide)), t1, t2, t3⟩, (w_fne (w_fne f8 (by decide)) (by decide)), (w_fne (w_fne f9 (by decide)) (by decide)), (w_fne (w_fne f10 (by decide)) (by decide)), (w_fne (w_fne f11 (by decide)) (by decide)), (w_fne (w_fne f12 (by decide)) (by decide)), (w_fne (w_fne f13 (by decide)) (by decide)), (w_fne (w_fne f14 (by decide)) (by decide)), (w_fat (w_fne f15 (by decide))), (w_fne (w_fat f16) (by decide)), (w_fne (w_fne f17 (by decide)) (by decide)), (a_ga (by decide) (a_ga (by decide) e44)), hb, (a_ga (by decide) (a_ga (by decide) e1)), (a_ga (by decide) (a_ga (by decide) e45)), (by first | exact rl | (simp only [List.length_set]; exact rl)), hrI, (a_ga (by decide) (a_ga (by decide) e46)), (by first | exact cl | (simp only [List.length_set]; exact cl)), hI⟩ (fun hS2 => ?_)
  refine w_aload_n rfl rfl (w_ic 0 rfl rfl (w_virtual (dc := dd + 38) (M' := m_X3_readSum) rfl (g_vir (n := 2) rfl rfl (by simp [p_cat, p_bd, Value.category]) rfl rfl (a_gs (a_gs e43)) rfl) rfl rfl (Nat.le_refl _) ((c_B_ok (dd := dd) (so := 0) hn (by decide) 4000).2.2.1 0 0 p 0 false _ r hr (by omega) hp (by omega) rfl (by omega) hS2) ?_))
  rintro v h3 ⟨rfl, hR, hB⟩
  by_cases e0 : r.1 = 0
  · obtain ⟨u3, hu3, hS3⟩ := hR.1 e0
    have hB := hB e0
    rw [e0]
    have hS3' := hS3
    obtain ⟨fs3, tp3, rw3, cw3, pa3, e433, fl3, f03, f13, f23, f33, ⟨f43, f53, f63, v73, f73, t13, t23, t33⟩, f83, f93, f103, f113, f123, f133, f143, f153, f163, f173, e443, hb3, e13, e453, rl3, hrI3, e463, cl3, hI3⟩ := hS3'
    refine w_ifc_t rfl (t := 20) rfl (by decide) (w_aload_n rfl rfl (w_getf rfl rfl e433 f143 (w_aload_n rfl rfl (w_getf rfl rfl e433 f153 (w_static (nn := 0) (dc := dd + 38) (M' := m_J7_copyOf_59c91) (Q1 := fun v h' => v = some (.ref h3.length) ∧ ∃ us : List Value, h' = h3 ++ [(1, 0, us)]) rfl rfl rfl rfl (by omega) (g_copyOf (d := dd + 37) e463 (by omega) (by omega) (fun j hj => hI3 j hj) (fun us q1 q2 => ⟨rfl, us, rfl⟩)) ?_)))))
    rintro v h4 ⟨rfl, us, rfl⟩
    have hS4 := c_S_app (c := [((1, 0, us) : p_C)]) hS3
    obtain ⟨fs4, tp4, rw4, cw4, pa4, e434, fl4, f04, f14, f24, f34, ⟨f44, f54, f64, v74, f74, t14, t24, t34⟩, f84, f94, f104, f114, f124, f134, f144, f154, f164, f174, e444, hb4, e14, e454, rl4, hrI4, e464, cl4, hI4⟩ := hS4
    exact w_astore_n rfl (by decide) (w_iload_n rfl (w_s1 rfl rfl (by decide)) (w_ifc_f rfl (t := 44) rfl (by decide) (w_aload_n rfl (w_s1 rfl rfl (by decide)) (w_aload_n rfl p_lk_s1 (w_putf rfl rfl e434 rfl rfl (w_flt f114) (w_goto rfl (t := 62) rfl (w_iconst rfl (w_ireturnb rfl rfl rfl ⟨rfl, fun _ => ⟨⟨u3, h3.length, ⟨_, _, _, _, _, (a_gs e434), (by first | exact fl4 | (simp only [List.length_set]; exact fl4)), (w_fne f04 (by decide)), (w_fne f14 (by decide)), (w_fne f24 (by decide)), (w_fne f34 (by decide)), ⟨(w_fne f44 (by decide)), (w_fne f54 (by decide)), (w_fne f64 (by decide)), v74, (w_fne f74 (by decide)), t14, t24, t34⟩, (w_fne f84 (by decide)), (w_fne f94 (by decide)), (w_fne f104 (by decide)), (w_fat f114), (w_fne f124 (by decide)), (w_fne f134 (by decide)), (w_fne f144 (by decide)), (w_fne f154 (by decide)), (w_fne f164 (by decide)), (w_fne f174 (by decide)), (a_ga (by decide) e444), hb4, (a_ga (by decide) e14), (a_ga (by decide) e454), (by first | exact rl4 | (simp only [List.length_set]; exact rl4)), hrI4, (a_ga (by decide) e464), (by first | exact cl4 | (simp only [List.length_set]; exact cl4)), hI4⟩⟩, hB⟩, fun e => absurd e0 e⟩))))))))
  · obtain ⟨u3, sv3, hS3⟩ := hR.2 e0
    rw [t_beq0 e0]
    exact w_ifc_f rfl (t := 20) rfl (by decide) (w_iconst rfl (w_ireturnb rfl rfl rfl ⟨rfl, fun e => absurd e e0, fun _ => ⟨u3, sv3, hS3⟩⟩))
set_option maxRecDepth 100000 in
theorem c_law1 (hS : c_S h b n p u m la false ml se ro fa pl) (hn : n ≤ 300) (hp : p ≤ n) (hp1 : 1 ≤ p) {r : Nat × Nat} (hr : t_P b n (Nat.beq 1 1) 4000 2 0 0 p = r) : p_wp p_GT p_MT (dd + 39) m_X3_readLaw 0 (lv_args 0 [.ref 43, .int (Int32.ofNat 1)]) [] h (fun v h2 => v = some (.int (l_b (Nat.beq r.1 0))) ∧ (r.1 = 0 → (∃ u2 a, c_S h2 b n (r.2) u2 m ((Int32.ofNat 1)) false ml ((.ref a)) ro fa pl) ∧ p < r.2 ∧ r.2 ≤ n) ∧ (r.1 ≠ 0 → ∃ u2 sv2, c_S h2 b n (r.2) u2 m ((Int32.ofNat 1)) sv2 ml se ro ((.int (Int32.ofNat r.1))) ((.int (Int32.ofNat r.2))))) := by
  obtain ⟨fs, tp, rw, cw, pa, e43, fl, f0, f1, f2, f3, ⟨f4, f5, f6, v7, f7, t1, t2, t3⟩, f8, f9, f10, f11, f12, f13, f14, f15, f16, f17, e44, hb, e1, e45, rl, hrI, e46, cl, hI⟩ := hS
  refine w_aload_n rfl rfl (w_iload_n rfl rfl (w_putf rfl rfl e43 rfl rfl (w_flt f16) (w_aload_n rfl rfl (w_ic 0 rfl rfl (w_putf rfl rfl (a_gs e43) rfl rfl (w_flt (w_fne f15 (by decide))) ?_)))))
  refine w_use (X := fun h => c_S h b n p 0 m ((Int32.ofNat 1)) false ml se ro fa pl) ⟨_, _, _, _, _, (a_gs (a_gs e43)), (by first | exact fl | (simp only [List.length_set]; exact fl)), (w_fne (w_fne f0 (by decide)) (by decide)), (w_fne (w_fne f1 (by decide)) (by decide)), (w_fne (w_fne f2 (by decide)) (by decide)), (w_fne (w_fne f3 (by decide)) (by decide)), ⟨(w_fne (w_fne f4 (by decide)) (by decide)), (w_fne (w_fne f5 (by decide)) (by decide)), (w_fne (w_fne f6 (by decide)) (by decide)), v7, (w_fne (w_fne f7 (by decide)) (by decide)), t1, t2, t3⟩, (w_fne (w_fne f8 (by decide)) (by decide)), (w_fne (w_fne f9 (by decide)) (by decide)), (w_fne (w_fne f10 (by decide)) (by decide)), (w_fne (w_fne f11 (by decide)) (by decide)), (w_fne (w_fne f12 (by decide)) (by decide)), (w_fne (w_fne f13 (by decide)) (by decide)), (w_fne (w_fne f14 (by decide)) (by decide)), (w_fat (w_fne f15 (by decide))), (w_fne (w_fat f16) (by decide)), (w_fne (w_fne f17 (by decide)) (by decide)), (a_ga (by decide) (a_ga (by decide) e44)), hb, (a_ga (by decide) (a_ga (by decide) e1)), (a_ga (by decide) (a_ga (by decide) e45)), (by first | exact rl | (simp only [List.length_set]; exact rl)), hrI, (a_ga (by decide) (a_ga (by decide) e46)), (by first | exact cl | (simp only [List.length_set]; exact cl)), hI⟩ (fun hS2 => ?_)
  refine w_aload_n rfl rfl (w_ic 0 rfl rfl (w_virtual (dc := dd + 38) (M' := m_X3_readSum) rfl (g_vir (n := 2) rfl rfl (by simp [p_cat, p_bd, Value.category]) rfl rfl (a_gs (a_gs e43)) rfl) rfl rfl (Nat.le_refl _) ((c_B_ok (dd := dd) (so := 1) hn (by decide) 4000).2.2.1 0 0 p 0 false _ r hr (by omega) hp (by omega) rfl (by omega) hS2) ?_))
  rintro v h3 ⟨rfl, hR, hB⟩
  by_cases e0 : r.1 = 0
  · obtain ⟨u3, hu3, hS3⟩ := hR.1 e0
    have hB := hB e0
    rw [e0]
    have hS3' := hS3
    obtain ⟨fs3, tp3, rw3, cw3, pa3, e433, fl3, f03, f13, f23, f33, ⟨f43, f53, f63, v73, f73, t13, t23, t33⟩, f83, f93, f103, f113, f123, f133, f143, f153, f163, f173, e443, hb3, e13, e453, rl3, hrI3, e463, cl3, hI3⟩ := hS3'
    refine w_ifc_t rfl (t := 20) rfl (by decide) (w_aload_n rfl rfl (w_getf rfl rfl e433 f143 (w_aload_n rfl rfl (w_getf rfl rfl e433 f153 (w_static (nn := 0) (dc := dd + 38) (M' := m_J7_copyOf_59c91) (Q1 := fun v h' => v = some (.ref h3.length) ∧ ∃ us : List Value, h' = h3 ++ [(1, 0, us)]) rfl rfl rfl rfl (by omega) (g_copyOf (d := dd + 37) e463 (by omega) (by omega) (fun j hj => hI3 j hj) (fun us q1 q2 => ⟨rfl, us, rfl⟩)) ?_)))))
    rintro v h4 ⟨rfl, us, rfl⟩
    have hS4 := c_S_app (c := [((1, 0, us) : p_C)]) hS3
    obtain ⟨fs4, tp4, rw4, cw4, pa4, e434, fl4, f04, f14, f24, f34, ⟨f44, f54, f64, v74, f74, t14, t24, t34⟩, f84, f94, f104, f114, f124, f134, f144, f154, f164, f174, e444, hb4, e14, e454, rl4, hrI4, e464, cl4, hI4⟩ := hS4
    exact w_astore_n rfl (by decide) (w_iload_n rfl (w_s1 rfl rfl (by decide)) (w_ifc_t rfl (t := 44) rfl (by decide) (w_iload_n rfl (w_s1 rfl rfl (by decide)) (w_ic 1 rfl rfl (w_icmp_f rfl (t := 57) rfl (by decide) (w_aload_n rfl (w_s1 rfl rfl (by decide)) (w_aload_n rfl p_lk_s1 (w_putf rfl rfl e434 rfl rfl (w_flt f124) (w_goto rfl (t := 62) rfl (w_iconst rfl (w_ireturnb rfl rfl rfl ⟨rfl, fun _ => ⟨⟨u3, h3.length, ⟨_, _, _, _, _, (a_gs e434), (by first | exact fl4 | (simp only [List.length_set]; exact fl4)), (w_fne f04 (by decide)), (w_fne f14 (by decide)), (w_fne f24 (by decide)), (w_fne f34 (by decide)), ⟨(w_fne f44 (by decide)), (w_fne f54 (by decide)), (w_fne f64 (by decide)), v74, (w_fne f74 (by decide)), t14, t24, t34⟩, (w_fne f84 (by decide)), (w_fne f94 (by decide)), (w_fne f104 (by decide)), (w_fne f114 (by decide)), (w_fat f124), (w_fne f134 (by decide)), (w_fne f144 (by decide)), (w_fne f154 (by decide)), (w_fne f164 (by decide)), (w_fne f174 (by decide)), (a_ga (by decide) e444), hb4, (a_ga (by decide) e14), (a_ga (by decide) e454), (by first | exact rl4 | (simp only [List.length_set]; exact rl4)), hrI4, (a_ga (by decide) e464), (by first | exact cl4 | (simp only [List.length_set]; exact cl4)), hI4⟩⟩, hB⟩, fun e => absurd e0 e⟩)))))))))))
  · obtain ⟨u3, sv3, hS3⟩ := hR.2 e0
    rw [t_beq0 e0]
    exact w_ifc_f rfl (t := 20) rfl (by decide) (w_iconst rfl (w_ireturnb rfl rfl rfl ⟨rfl, fun e => absurd e e0, fun _ => ⟨u3, sv3, hS3⟩⟩))
set_option maxRecDepth 100000 in
theorem c_law2 (hS : c_S h b n p u m la false ml se ro fa pl) (hn : n ≤ 300) (hp : p ≤ n) (hp1 : 1 ≤ p) {r : Nat × Nat} (hr : t_P b n (Nat.beq 2 1) 4000 2 0 0 p = r) : p_wp p_GT p_MT (dd + 39) m_X3_readLaw 0 (lv_args 0 [.ref 43, .int (Int32.ofNat 2)]) [] h (fun v h2 => v = some (.int (l_b (Nat.beq r.1 0))) ∧ (r.1 = 0 → (∃ u2 a, c_S h2 b n (r.2) u2 m ((Int32.ofNat 2)) false ml se ((.ref a)) fa pl) ∧ p < r.2 ∧ r.2 ≤ n) ∧ (r.1 ≠ 0 → ∃ u2 sv2, c_S h2 b n (r.2) u2 m ((Int32.ofNat 2)) sv2 ml se ro ((.int (Int32.ofNat r.1))) ((.int (Int32.ofNat r.2))))) := by
  obtain ⟨fs, tp, rw, cw, pa, e43, fl, f0, f1, f2, f3, ⟨f4, f5, f6, v7, f7, t1, t2, t3⟩, f8, f9, f10, f11, f12, f13, f14, f15, f16, f17, e44, hb, e1, e45, rl, hrI, e46, cl, hI⟩ := hS
  refine w_aload_n rfl rfl (w_iload_n rfl rfl (w_putf rfl rfl e43 rfl rfl (w_flt f16) (w_aload_n rfl rfl (w_ic 0 rfl rfl (w_putf rfl rfl (a_gs e43) rfl rfl (w_flt (w_fne f15 (by decide))) ?_)))))
  refine w_use (X := fun h => c_S h b n p 0 m ((Int32.ofNat 2)) false ml se ro fa pl) ⟨_, _, _, _, _, (a_gs (a_gs e43)), (by first | exact fl | (simp only [List.length_set]; exact fl)), (w_fne (w_fne f0 (by decide)) (by decide)), (w_fne (w_fne f1 (by decide)) (by decide)), (w_fne (w_fne f2 (by decide)) (by decide)), (w_fne (w_fne f3 (by decide)) (by decide)), ⟨(w_fne (w_fne f4 (by decide)) (by decide)), (w_fne (w_fne f5 (by decide)) (by decide)), (w_fne (w_fne f6 (by decide)) (by decide)), v7, (w_fne (w_fne f7 (by decide)) (by decide)), t1, t2, t3⟩, (w_fne (w_fne f8 (by decide)) (by decide)), (w_fne (w_fne f9 (by decide)) (by decide)), (w_fne (w_fne f10 (by decide)) (by decide)), (w_fne (w_fne f11 (by decide)) (by decide)), (w_fne (w_fne f12 (by decide)) (by decide)), (w_fne (w_fne f13 (by decide)) (by decide)), (w_fne (w_fne f14 (by decide)) (by decide)), (w_fat (w_fne f15 (by decide))), (w_fne (w_fat f16) (by decide)), (w_fne (w_fne f17 (by decide)) (by decide)), (a_ga (by decide) (a_ga (by decide) e44)), hb, (a_ga (by decide) (a_ga (by decide) e1)), (a_ga (by decide) (a_ga (by decide) e45)), (by first | exact rl | (simp only [List.length_set]; exact rl)), hrI, (a_ga (by decide) (a_ga (by decide) e46)), (by first | exact cl | (simp only [List.length_set]; exact cl)), hI⟩ (fun hS2 => ?_)
  refine w_aload_n rfl rfl (w_ic 0 rfl rfl (w_virtual (dc := dd + 38) (M' := m_X3_readSum) rfl (g_vir (n := 2) rfl rfl (by simp [p_cat, p_bd, Value.category]) rfl rfl (a_gs (a_gs e43)) rfl) rfl rfl (Nat.le_refl _) ((c_B_ok (dd := dd) (so := 2) hn (by decide) 4000).2.2.1 0 0 p 0 false _ r hr (by omega) hp (by omega) rfl (by omega) hS2) ?_))
  rintro v h3 ⟨rfl, hR, hB⟩
  by_cases e0 : r.1 = 0
  · obtain ⟨u3, hu3, hS3⟩ := hR.1 e0
    have hB := hB e0
    rw [e0]
    have hS3' := hS3
    obtain ⟨fs3, tp3, rw3, cw3, pa3, e433, fl3, f03, f13, f23, f33, ⟨f43, f53, f63, v73, f73, t13, t23, t33⟩, f83, f93, f103, f113, f123, f133, f143, f153, f163, f173, e443, hb3, e13, e453, rl3, hrI3, e463, cl3, hI3⟩ := hS3'
    refine w_ifc_t rfl (t := 20) rfl (by decide) (w_aload_n rfl rfl (w_getf rfl rfl e433 f143 (w_aload_n rfl rfl (w_getf rfl rfl e433 f153 (w_static (nn := 0) (dc := dd + 38) (M' := m_J7_copyOf_59c91) (Q1 := fun v h' => v = some (.ref h3.length) ∧ ∃ us : List Value, h' = h3 ++ [(1, 0, us)]) rfl rfl rfl rfl (by omega) (g_copyOf (d := dd + 37) e463 (by omega) (by omega) (fun j hj => hI3 j hj) (fun us q1 q2 => ⟨rfl, us, rfl⟩)) ?_)))))
    rintro v h4 ⟨rfl, us, rfl⟩
    have hS4 := c_S_app (c := [((1, 0, us) : p_C)]) hS3
    obtain ⟨fs4, tp4, rw4, cw4, pa4, e434, fl4, f04, f14, f24, f34, ⟨f44, f54, f64, v74, f74, t14, t24, t34⟩, f84, f94, f104, f114, f124, f134, f144, f154, f164, f174, e444, hb4, e14, e454, rl4, hrI4, e464, cl4, hI4⟩ := hS4
    exact w_astore_n rfl (by decide) (w_iload_n rfl (w_s1 rfl rfl (by decide)) (w_ifc_t rfl (t := 44) rfl (by decide) (w_iload_n rfl (w_s1 rfl rfl (by decide)) (w_ic 1 rfl rfl (w_icmp_t rfl (t := 57) rfl (by decide) (w_aload_n rfl (w_s1 rfl rfl (by decide)) (w_aload_n rfl p_lk_s1 (w_putf rfl rfl e434 rfl rfl (w_flt f134) (w_iconst rfl (w_ireturnb rfl rfl rfl ⟨rfl, fun _ => ⟨⟨u3, h3.length, ⟨_, _, _, _, _, (a_gs e434), (by first | exact fl4 | (simp only [List.length_set]; exact fl4)), (w_fne f04 (by decide)), (w_fne f14 (by decide)), (w_fne f24 (by decide)), (w_fne f34 (by decide)), ⟨(w_fne f44 (by decide)), (w_fne f54 (by decide)), (w_fne f64 (by decide)), v74, (w_fne f74 (by decide)), t14, t24, t34⟩, (w_fne f84 (by decide)), (w_fne f94 (by decide)), (w_fne f104 (by decide)), (w_fne f114 (by decide)), (w_fne f124 (by decide)), (w_fat f134), (w_fne f144 (by decide)), (w_fne f154 (by decide)), (w_fne f164 (by decide)), (w_fne f174 (by decide)), (a_ga (by decide) e444), hb4, (a_ga (by decide) e14), (a_ga (by decide) e454), (by first | exact rl4 | (simp only [List.length_set]; exact rl4)), hrI4, (a_ga (by decide) e464), (by first | exact cl4 | (simp only [List.length_set]; exact cl4)), hI4⟩⟩, hB⟩, fun e => absurd e0 e⟩))))))))))
  · obtain ⟨u3, sv3, hS3⟩ := hR.2 e0
    rw [t_beq0 e0]
    exact w_ifc_f rfl (t := 20) rfl (by decide) (w_iconst rfl (w_ireturnb rfl rfl rfl ⟨rfl, fun e => absurd e e0, fun _ => ⟨u3, sv3, hS3⟩⟩))
def c_nv (v : Value) : Bool → Prop
  | false => v = .null
  | true => ∃ a, v = .ref a
def c_b3 (x y z : Bool) : Nat := (if x then 1 else 0) + ((if y then 2 else 0) + (if z then 4 else 0))
theorem c_b3k : ∀ x y z : Bool, c_b3 x y z < 8 ∧ (c_b3 x y z / 2 ^ 0 % 2 = if x then 1 else 0) ∧ (c_b3 x y z / 2 ^ 1 % 2 = if y then 1 else 0) ∧ (c_b3 x y z / 2 ^ 2 % 2 = if z then 1 else 0) ∧ c_b3 false y z + 2 ^ 0 = c_b3 true y z ∧ c_b3 x false z + 2 ^ 1 = c_b3 x true z ∧ c_b3 x y false + 2 ^ 2 = c_b3 x y true := by decide
theorem c_cwk : ∀ k, k < 22 → (if decide (0 = k) = true then 0 else if decide (1 = k) = true then 1 else if decide (2 = k) = true then 2 else if decide (3 = k) = true then 3 else if decide (4 = k) = true then 4 else if decide (5 = k) = true then 5 else if decide (6 = k) = true then 6 else if decide (8 = k) = true then 8 else if decide (9 = k) = true then 9 else if decide (7 = k) = true then 7 else 10) = (if k ≤ 9 then k else 10) := by decide
theorem c_cw {k : Nat} (hk : k < 22) (H : ∀ j, j < 22 → t_wd b n p j = decide (j = k)) : t_cw b n p = if k ≤ 9 then k else 10 := by
  unfold t_cw
  rw [H 0 (by decide), H 1 (by decide), H 2 (by decide), H 3 (by decide), H 4 (by decide), H 5 (by decide), H 6 (by decide), H 8 (by decide), H 9 (by decide), H 7 (by decide)]
  exact c_cwk k hk
/-- what stands at a clause's begin: its word's number, or none -/
theorem c_cw_v (hp : p ≤ n) (hb : ∀ k, k < n → b k < 256) {v : Int32} (h1 : t_k b n p = 1 → t_IX (t_zl b n p).2 v) : (t_cw b n p = 10 ∧ ¬ (t_k b n p = 1 ∧ Int32.ofNat 0 ≤ v ∧ v ≤ Int32.ofNat 9)) ∨ (t_cw b n p ≤ 9 ∧ t_k b n p = 1 ∧ v = Int32.ofNat (t_cw b n p)) := by
  by_cases k1 : t_k b n p = 1
  · rcases c_wk hp hb k1 (h1 k1) with ⟨k, hk, rfl, H⟩ | ⟨rfl, H⟩
    · rw [c_cw hk H]
      by_cases q : k ≤ 9
      · rw [if_pos q]; exact Or.inr ⟨q, k1, rfl⟩
      · rw [if_neg q]
        refine Or.inl ⟨rfl, fun e => ?_⟩
        have := e.2.2
        rw [Int32.le_iff_toInt_le, g_ofNat (by omega), g_ofNat (by omega)] at this
        omega
    · refine Or.inl ⟨?_, fun e => absurd e.2.1 (by decide)⟩
      unfold t_cw
      rw [H 0 (by decide), H 1 (by decide), H 2 (by decide), H 3 (by decide), H 4 (by decide), H 5 (by decide), H 6 (by decide), H 8 (by decide), H 9 (by decide), H 7 (by decide)]
      rfl
  · refine Or.inl ⟨?_, fun e => k1 e.1⟩
    have no : ∀ k, t_wd b n p k = false := fun k => Bool.eq_false_iff.mpr (fun e => k1 (t_wd_iff.mp e).1)
    unfold t_cw
    rw [no, no, no, no, no, no, no, no, no, no]
    rfl
set_option maxRecDepth 100000 in
theorem c_clno (hS : c_S h b n p u m la false ml se ro fa pl) (hn : n ≤ 300) (hp : p ≤ n) (hm : m ≤ 24) {x y z : Bool} (hx : c_nv ml x) (hy : c_nv se y) (hz : c_nv ro z) (hcw : t_cw b n p = 10) : p_wp p_GT p_MT (dd + 40) m_X3_readClause 0 (lv_args 0 [.ref 43]) [] h (fun v h2 => v = some (.int (l_b (Nat.beq (t_cl b n m (c_b3 x y z) p).1 0))) ∧ ((t_cl b n m (c_b3 x y z) p).1 = 0 → ∃ (u2 : Nat) (la2 : Int32) (ml2 se2 ro2 : Value) (x2 y2 z2 : Bool), c_S h2 b n (t_cl b n m (c_b3 x y z) p).2 u2 (m + 1) la2 false ml2 se2 ro2 fa pl ∧ c_nv ml2 x2 ∧ c_nv se2 y2 ∧ c_nv ro2 z2 ∧ c_b3 x2 y2 z2 = (if t_cw b n p < 3 then c_b3 x y z + 2 ^ t_cw b n p else c_b3 x y z) ∧ p < (t_cl b n m (c_b3 x y z) p).2 ∧ (t_cl b n m (c_b3 x y z) p).2 ≤ n ∧ m < 24) ∧ ((t_cl b n m (c_b3 x y z) p).1 ≠ 0 → ∃ (u2 m2 : Nat) (la2 : Int32) (sv2 : Bool) (ml2 se2 ro2 : Value), c_S h2 b n (t_cl b n m (c_b3 x y z) p).2 u2 m2 la2 sv2 ml2 se2 ro2 (.int (Int32.ofNat (t_cl b n m (c_b3 x y z) p).1)) (.int (Int32.ofNat (t_cl b n m (c_b3 x y z) p).2)))) := by
  have hS' := hS
  obtain ⟨fs, tp, rw, cw, pa, e43, fl, f0, f1, f2, f3, ⟨f4, f5, f6, v7, f7, t1, t2, t3⟩, f8, f9, f10, f11, f12, f13, f14, f15, f16, f17, e44, hb, e1, e45, rl, hrI, e46, cl, hI⟩ := hS
  have hbb : ∀ k, k < n → b k < 256 := fun k hk => (hb k (by omega)).2
  have hk4 : t_k b n p < 4 := by unfold t_k; (repeat' split) <;> omega
  have ecl : t_cl b n m (c_b3 x y z) p = (1, p) := by unfold t_cl; rw [hcw]; rfl
  have hno := (c_cw_v hp hbb t1).resolve_right (fun e => by rw [hcw] at e; exact absurd e.1 (by decide))
  rw [ecl]
  by_cases k1 : t_k b n p = 1
  · refine w_aload_n rfl rfl (w_getf rfl rfl e43 f7 (w_istore_n rfl (by decide) (w_aload_n rfl (w_s1 rfl rfl (by decide)) (w_getf rfl rfl e43 f6 (w_ic 1 rfl rfl (w_icmp_f rfl (t := 23) rfl (by rw [k1]; decide) (w_iload_n rfl p_lk_s1 (w_ic 0 rfl rfl (w_bp 9 rfl rfl (w_static (nn := 0) (dc := dd + 39) (M' := m_X11_within) rfl rfl rfl rfl (Nat.le_refl _) b_within ?_))))))))))
    rintro v h2 ⟨rfl, rfl⟩
    rw [if_neg (fun e => hno.2 ⟨k1, e⟩)]
    refine w_ifc_f rfl (t := 29) rfl (by decide) (w_aload_n rfl (w_s1 rfl rfl (by decide)) (w_ic 1 rfl rfl (w_virtual (dc := dd + 39) (M' := m_X3_wrong) rfl (g_vir (n := 2) rfl rfl (by simp [p_cat, p_bd, Value.category]) rfl rfl e43 rfl) rfl rfl (Nat.le_refl _) (c_wrong (f := Int32.ofNat 1) hS') ?_)))
    rintro v h3 ⟨rfl, hS3⟩
    exact w_ireturnb rfl rfl rfl ⟨rfl, fun e => absurd e (by decide), fun _ => ⟨_, _, _, _, _, _, _, hS3⟩⟩
  · refine w_aload_n rfl rfl (w_getf rfl rfl e43 f7 (w_istore_n rfl (by decide) (w_aload_n rfl (w_s1 rfl rfl (by decide)) (w_getf rfl rfl e43 f6 (w_ic 1 rfl rfl (w_icmp_t rfl (t := 23) rfl (by simp only [p_cd, decide_eq_true_eq]; exact b_ofNat_ne (by omega) (by omega) k1) (w_aload_n rfl (w_s1 rfl rfl (by decide)) (w_ic 1 rfl rfl (w_virtual (dc := dd + 39) (M' := m_X3_wrong) rfl (g_vir (n := 2) rfl rfl (by simp [p_cat, p_bd, Value.category]) rfl rfl e43 rfl) rfl rfl (Nat.le_refl _) (c_wrong (f := Int32.ofNat 1) hS') ?_)))))))))
    rintro v h3 ⟨rfl, hS3⟩
    exact w_ireturnb rfl rfl rfl ⟨rfl, fun e => absurd e (by decide), fun _ => ⟨_, _, _, _, _, _, _, hS3⟩⟩
set_option maxRecDepth 100000 in
theorem c_cl0 (hS : c_S h b n p u m la false ml se ro fa pl) (hn : n ≤ 300) (hp : p ≤ n) (hm : m ≤ 24) {x y z : Bool} (hx : c_nv ml x) (hy : c_nv se y) (hz : c_nv ro z) (hcw : t_cw b n p = 0) : p_wp p_GT p_MT (dd + 40) m_X3_readClause 0 (lv_args 0 [.ref 43]) [] h (fun v h2 => v = some (.int (l_b (Nat.beq (t_cl b n m (c_b3 x y z) p).1 0))) ∧ ((t_cl b n m (c_b3 x y z) p).1 = 0 → ∃ (u2 : Nat) (la2 : Int32) (ml2 se2 ro2 : Value) (x2 y2 z2 : Bool), c_S h2 b n (t_cl b n m (c_b3 x y z) p).2 u2 (m + 1) la2 false ml2 se2 ro2 fa pl ∧ c_nv ml2 x2 ∧ c_nv se2 y2 ∧ c_nv ro2 z2 ∧ c_b3 x2 y2 z2 = (if t_cw b n p < 3 then c_b3 x y z + 2 ^ t_cw b n p else c_b3 x y z) ∧ p < (t_cl b n m (c_b3 x y z) p).2 ∧ (t_cl b n m (c_b3 x y z) p).2 ≤ n ∧ m < 24) ∧ ((t_cl b n m (c_b3 x y z) p).1 ≠ 0 → ∃ (u2 m2 : Nat) (la2 : Int32) (sv2 : Bool) (ml2 se2 ro2 : Value), c_S h2 b n (t_cl b n m (c_b3 x y z) p).2 u2 m2 la2 sv2 ml2 se2 ro2 (.int (Int32.ofNat (t_cl b n m (c_b3 x y z) p).1)) (.int (Int32.ofNat (t_cl b n m (c_b3 x y z) p).2)))) := by
  have hS' := hS
  obtain ⟨fs, tp, rw, cw, pa, e43, fl, f0, f1, f2, f3, ⟨f4, f5, f6, v7, f7, t1, t2, t3⟩, f8, f9, f10, f11, f12, f13, f14, f15, f16, f17, e44, hb, e1, e45, rl, hrI, e46, cl, hI⟩ := hS
  have hbb : ∀ k, k < n → b k < 256 := fun k hk => (hb k (by omega)).2
  have ecl : t_cl b n m (c_b3 x y z) p = (if 0 < 3 ∧ c_b3 x y z / 2 ^ 0 % 2 = 1 then (4, p) else if m = 24 then (6, p) else (if (t_P b n (Nat.beq 0 1) 4000 2 0 0 (t_x b n p)).1 ≠ 0 then t_P b n (Nat.beq 0 1) 4000 2 0 0 (t_x b n p) else if t_is b n (t_P b n (Nat.beq 0 1) 4000 2 0 0 (t_x b n p)).2 59 = true then (0, t_x b n (t_P b n (Nat.beq 0 1) 4000 2 0 0 (t_x b n p)).2) else (1, (t_P b n (Nat.beq 0 1) 4000 2 0 0 (t_x b n p)).2))) := by unfold t_cl; rw [hcw]; rfl
  obtain ⟨-, k1, ev⟩ := (c_cw_v hp hbb t1).resolve_left (fun e => by rw [hcw] at e; exact absurd e.1 (by decide))
  rw [hcw] at ev
  subst ev
  rw [ecl, hcw]
  refine w_aload_n rfl rfl (w_getf rfl rfl e43 f7 (w_istore_n rfl (by decide) (w_aload_n rfl (w_s1 rfl rfl (by decide)) (w_getf rfl rfl e43 f6 (w_ic 1 rfl rfl (w_icmp_f rfl (t := 23) rfl (by rw [k1]; decide) (w_iload_n rfl p_lk_s1 (w_ic 0 rfl rfl (w_bp 9 rfl rfl (w_static (nn := 0) (dc := dd + 39) (M' := m_X11_within) rfl rfl rfl rfl (Nat.le_refl _) b_within ?_))))))))))
  rintro v h2 ⟨rfl, rfl⟩
  rw [if_pos (by decide)]
  refine w_ifc_t rfl (t := 29) rfl (by decide) (w_iload_n rfl p_lk_s1 (w_ifc_f rfl (t := 40) rfl (by decide) (w_aload_n rfl (w_s1 rfl rfl (by decide)) (w_getf rfl rfl e43 f11 ?_))))
  have hbk := (c_b3k x y z).2.1
  cases x with
  | true =>
    obtain ⟨a, rfl⟩ := hx
    rw [if_pos ⟨by decide, hbk⟩]
    refine w_ifnn_j rfl (t := 64) rfl (w_aload_n rfl (w_s1 rfl rfl (by decide)) (w_ic 4 rfl rfl (w_virtual (dc := dd + 39) (M' := m_X3_wrong) rfl (g_vir (n := 2) rfl rfl (by simp [p_cat, p_bd, Value.category]) rfl rfl e43 rfl) rfl rfl (Nat.le_refl _) (c_wrong (f := Int32.ofNat 4) hS') ?_)))
    rintro v h3 ⟨rfl, hS3⟩
    exact w_ireturnb rfl rfl rfl ⟨rfl, fun e => absurd e (by decide), fun _ => ⟨_, _, _, _, _, _, _, hS3⟩⟩
  | false =>
    have hvn : ml = .null := hx
    subst hvn
    rw [if_neg (fun e => by rw [hbk] at e; exact absurd e.2 (by decide))]
    refine w_ifnn_g rfl (w_iload_n rfl p_lk_s1 (w_ic 1 rfl rfl (w_icmp_t rfl (t := 52) rfl (by decide) (w_iload_n rfl p_lk_s1 (w_ic 2 rfl rfl (w_icmp_t rfl (t := 70) rfl (by decide) (w_aload_n rfl (w_s1 rfl rfl (by decide)) (w_getf rfl rfl e43 f9 (w_bp 24 rfl rfl ?_)))))))))
    by_cases q24 : m = 24
    · rw [if_pos q24]
      refine w_icmp_f rfl (t := 86) rfl (by rw [q24]; decide) (w_aload_n rfl (w_s1 rfl rfl (by decide)) (w_bp 6 rfl rfl (w_virtual (dc := dd + 39) (M' := m_X3_wrong) rfl (g_vir (n := 2) rfl rfl (by simp [p_cat, p_bd, Value.category]) rfl rfl e43 rfl) rfl rfl (Nat.le_refl _) (c_wrong (f := Int32.ofNat 6) hS') ?_)))
      rintro v h3 ⟨rfl, hS3⟩
      exact w_ireturnb rfl rfl rfl ⟨rfl, fun e => absurd e (by decide), fun _ => ⟨_, _, _, _, _, _, _, hS3⟩⟩
    · rw [if_neg q24]
      refine w_icmp_t rfl (t := 86) rfl (by simp only [p_cd, decide_eq_true_eq]; rw [Int32.lt_iff_toInt_lt, g_ofNat (by omega), g_ofNat (by omega)]; omega) (w_aload_n rfl (w_s1 rfl rfl (by decide)) (w_dup rfl rfl (w_getf rfl rfl e43 f9 (w_ic 1 rfl rfl (w_addN rfl (w_putf rfl rfl e43 rfl rfl (w_flt f9) (w_aload_n rfl (w_s1 rfl rfl (by decide)) (w_ic 0 rfl rfl (w_putf rfl rfl (a_gs e43) rfl rfl (w_flt (w_fne f10 (by decide))) ?_)))))))))
      refine w_use (X := fun h => c_S h b n p u ((m + 1)) la false (.null) se ro fa pl) ⟨_, _, _, _, _, (a_gs (a_gs e43)), (by first | exact fl | (simp only [List.length_set]; exact fl)), (w_fne (w_fne f0 (by decide)) (by decide)), (w_fne (w_fne f1 (by decide)) (by decide)), (w_fne (w_fne f2 (by decide)) (by decide)), (w_fne (w_fne f3 (by decide)) (by decide)), ⟨(w_fne (w_fne f4 (by decide)) (by decide)), (w_fne (w_fne f5 (by decide)) (by decide)), (w_fne (w_fne f6 (by decide)) (by decide)), v7, (w_fne (w_fne f7 (by decide)) (by decide)), t1, t2, t3⟩, (w_fne (w_fne f8 (by decide)) (by decide)), (w_fne (w_fat f9) (by decide)), (w_fat (w_fne f10 (by decide))), (w_fne (w_fne f11 (by decide)) (by decide)), (w_fne (w_fne f12 (by decide)) (by decide)), (w_fne (w_fne f13 (by decide)) (by decide)), (w_fne (w_fne f14 (by decide)) (by decide)), (w_fne (w_fne f15 (by decide)) (by decide)), (w_fne (w_fne f16 (by decide)) (by decide)), (w_fne (w_fne f17 (by decide)) (by decide)), (a_ga (by decide) (a_ga (by decide) e44)), hb, (a_ga (by decide) (a_ga (by decide) e1)), (a_ga (by decide) (a_ga (by decide) e45)), (by first | exact rl | (simp only [List.length_set]; exact rl)), hrI, (a_ga (by decide) (a_ga (by decide) e46)), (by first | exact cl | (simp only [List.length_set]; exact cl)), hI⟩ (fun hS5 => ?_)
      have hpn : p < n := t_k_lt (by rw [k1]; decide)
      have hx1 := t_x_lt (b := b) hpn
      refine w_aload_n rfl (w_s1 rfl rfl (by decide)) (w_iload_n rfl p_lk_s1 (w_virtual (dc := dd + 39) (M' := m_X3_addPart) rfl (g_vir (n := 2) rfl rfl (by simp [p_cat, p_bd, Value.category]) rfl rfl (a_gs (a_gs e43)) rfl) rfl rfl (Nat.le_refl _) ((c_addPart (dd := dd) hS5).mono (by omega) (fun _ _ q => q)) ?_))
      rintro v h6 ⟨rfl, hS6⟩
      have hS6' := hS6
      obtain ⟨fs6, tp6, rw6, cw6, pa6, e436, fl6, f06, f16, f26, f36, ⟨f46, f56, f66, v76, f76, t16, t26, t36⟩, f86, f96, f106, f116, f126, f136, f146, f156, f166, f176, e446, hb6, e16, e456, rl6, hrI6, e466, cl6, hI6⟩ := hS6'
      refine w_aload_n rfl (w_s1 rfl rfl (by decide)) (w_virtual (dc := dd + 39) (M' := m_X3_step) rfl (g_vir (n := 1) rfl rfl (by simp [p_cat, p_bd, Value.category]) rfl rfl e436 rfl) rfl rfl (Nat.le_refl _) ((c_next (dd := dd) hS6 hn hp).mono (by omega) (fun _ _ q => q)) ?_)
      rintro v h7 ⟨rfl, hS7⟩
      have hS7' := hS7
      obtain ⟨fs7, tp7, rw7, cw7, pa7, e437, fl7, f07, f17, f27, f37, ⟨f47, f57, f67, v77, f77, t17, t27, t37⟩, f87, f97, f107, f117, f127, f137, f147, f157, f167, f177, e447, hb7, e17, e457, rl7, hrI7, e467, cl7, hI7⟩ := hS7'
      refine w_iload_n rfl p_lk_s1 (w_ic 2 rfl rfl (w_icmp_f rfl (t := 126) rfl (by decide) (w_aload_n rfl (w_s1 rfl rfl (by decide)) (w_iload_n rfl p_lk_s1 (w_virtual (dc := dd + 39) (M' := m_X3_readLaw) rfl (g_vir (n := 2) rfl rfl (by simp [p_cat, p_bd, Value.category]) rfl rfl e437 rfl) rfl rfl (Nat.le_refl _) (c_law0 (dd := dd) hS7 hn hx1.2 (by omega) rfl) ?_)))))
      rintro v h8 ⟨rfl, hY, hN⟩
      generalize t_P b n (Nat.beq 0 1) 4000 2 0 0 (t_x b n p) = s at hY hN
      by_cases e0 : s.1 = 0
      · rw [if_neg (fun q => q e0), e0]
        obtain ⟨⟨u8, a8, hS8⟩, hB8⟩ := hY e0
        have hS8' := hS8
        obtain ⟨fs8, tp8, rw8, cw8, pa8, e438, fl8, f08, f18, f28, f38, ⟨f48, f58, f68, v78, f78, t18, t28, t38⟩, f88, f98, f108, f118, f128, f138, f148, f158, f168, f178, e448, hb8, e18, e458, rl8, hrI8, e468, cl8, hI8⟩ := hS8'
        refine w_ifc_f rfl (t := 147) rfl (by decide) (w_goto rfl (t := 134) rfl (w_aload_n rfl (w_s1 rfl rfl (by decide)) (w_bp 59 rfl rfl (w_virtual (dc := dd + 39) (M' := m_X3_takeSign) rfl (g_vir (n := 2) rfl rfl (by simp [p_cat, p_bd, Value.category]) rfl rfl e438 rfl) rfl rfl (Nat.le_refl _) ((c_takeS (c := 59) hS8 (by decide) hn hB8.2).mono (by omega) (fun _ _ q => q)) ?_))))
        rintro v h9 (⟨h59, rfl, hS9⟩ | ⟨h59, rfl, hS9⟩)
        · rw [if_pos h59]
          have hy1 := t_x_lt (b := b) (t_is_lt h59)
          exact w_ifc_f rfl (t := 147) rfl (by decide) (w_iconst rfl (w_goto rfl (t := 148) rfl (w_ireturnb rfl rfl rfl ⟨rfl, fun _ => ⟨_, _, .ref a8, se, ro, true, y, z, hS9, ⟨_, rfl⟩, hy, hz, by rw [if_pos (by decide : 0 < 3)]; exact (c_b3k false y z).2.2.2.2.1.symm, by show p < t_x b n s.2; omega, hy1.2, by omega⟩, fun e => absurd rfl e⟩)))
        · rw [if_neg (by rw [h59]; decide)]
          exact w_ifc_t rfl (t := 147) rfl (by decide) (w_iconst rfl (w_ireturnb rfl rfl rfl ⟨rfl, fun e => absurd e (by decide), fun _ => ⟨_, _, _, _, _, _, _, hS9⟩⟩))
      · rw [if_pos e0, t_beq0 e0]
        obtain ⟨u8, sv8, hS8⟩ := hN e0
        exact w_ifc_t rfl (t := 147) rfl (by decide) (w_iconst rfl (w_ireturnb rfl rfl rfl ⟨rfl, fun e => absurd e e0, fun _ => ⟨_, _, _, _, _, _, _, hS8⟩⟩))
set_option maxRecDepth 100000 in
theorem c_cl1 (hS : c_S h b n p u m la false ml se ro fa pl) (hn : n ≤ 300) (hp : p ≤ n) (hm : m ≤ 24) {x y z : Bool} (hx : c_nv ml x) (hy : c_nv se y) (hz : c_nv ro z) (hcw : t_cw b n p = 1) : p_wp p_GT p_MT (dd + 40) m_X3_readClause 0 (lv_args 0 [.ref 43]) [] h (fun v h2 => v = some (.int (l_b (Nat.beq (t_cl b n m (c_b3 x y z) p).1 0))) ∧ ((t_cl b n m (c_b3 x y z) p).1 = 0 → ∃ (u2 : Nat) (la2 : Int32) (ml2 se2 ro2 : Value) (x2 y2 z2 : Bool), c_S h2 b n (t_cl b n m (c_b3 x y z) p).2 u2 (m + 1) la2 false ml2 se2 ro2 fa pl ∧ c_nv ml2 x2 ∧ c_nv se2 y2 ∧ c_nv ro2 z2 ∧ c_b3 x2 y2 z2 = (if t_cw b n p < 3 then c_b3 x y z + 2 ^ t_cw b n p else c_b3 x y z) ∧ p < (t_cl b n m (c_b3 x y z) p).2 ∧ (t_cl b n m (c_b3 x y z) p).2 ≤ n ∧ m < 24) ∧ ((t_cl b n m (c_b3 x y z) p).1 ≠ 0 → ∃ (u2 m2 : Nat) (la2 : Int32) (sv2 : Bool) (ml2 se2 ro2 : Value), c_S h2 b n (t_cl b n m (c_b3 x y z) p).2 u2 m2 la2 sv2 ml2 se2 ro2 (.int (Int32.ofNat (t_cl b n m (c_b3 x y z) p).1)) (.int (Int32.ofNat (t_cl b n m (c_b3 x y z) p).2)))) := by
  have hS' := hS
  obtain ⟨fs, tp, rw, cw, pa, e43, fl, f0, f1, f2, f3, ⟨f4, f5, f6, v7, f7, t1, t2, t3⟩, f8, f9, f10, f11, f12, f13, f14, f15, f16, f17, e44, hb, e1, e45, rl, hrI, e46, cl, hI⟩ := hS
  have hbb : ∀ k, k < n → b k < 256 := fun k hk => (hb k (by omega)).2
  have ecl : t_cl b n m (c_b3 x y z) p = (if 1 < 3 ∧ c_b3 x y z / 2 ^ 1 % 2 = 1 then (4, p) else if m = 24 then (6, p) else (if (t_P b n (Nat.beq 1 1) 4000 2 0 0 (t_x b n p)).1 ≠ 0 then t_P b n (Nat.beq 1 1) 4000 2 0 0 (t_x b n p) else if t_is b n (t_P b n (Nat.beq 1 1) 4000 2 0 0 (t_x b n p)).2 59 = true then (0, t_x b n (t_P b n (Nat.beq 1 1) 4000 2 0 0 (t_x b n p)).2) else (1, (t_P b n (Nat.beq 1 1) 4000 2 0 0 (t_x b n p)).2))) := by unfold t_cl; rw [hcw]; rfl
  obtain ⟨-, k1, ev⟩ := (c_cw_v hp hbb t1).resolve_left (fun e => by rw [hcw] at e; exact absurd e.1 (by decide))
  rw [hcw] at ev
  subst ev
  rw [ecl, hcw]
  refine w_aload_n rfl rfl (w_getf rfl rfl e43 f7 (w_istore_n rfl (by decide) (w_aload_n rfl (w_s1 rfl rfl (by decide)) (w_getf rfl rfl e43 f6 (w_ic 1 rfl rfl (w_icmp_f rfl (t := 23) rfl (by rw [k1]; decide) (w_iload_n rfl p_lk_s1 (w_ic 0 rfl rfl (w_bp 9 rfl rfl (w_static (nn := 0) (dc := dd + 39) (M' := m_X11_within) rfl rfl rfl rfl (Nat.le_refl _) b_within ?_))))))))))
  rintro v h2 ⟨rfl, rfl⟩
  rw [if_pos (by decide)]
  refine w_ifc_t rfl (t := 29) rfl (by decide) (w_iload_n rfl p_lk_s1 (w_ifc_t rfl (t := 40) rfl (by decide) (w_iload_n rfl p_lk_s1 (w_ic 1 rfl rfl (w_icmp_f rfl (t := 52) rfl (by decide) (w_aload_n rfl (w_s1 rfl rfl (by decide)) (w_getf rfl rfl e43 f12 ?_)))))))
  have hbk := (c_b3k x y z).2.2.1
  cases y with
  | true =>
    obtain ⟨a, rfl⟩ := hy
    rw [if_pos ⟨by decide, hbk⟩]
    refine w_ifnn_j rfl (t := 64) rfl (w_aload_n rfl (w_s1 rfl rfl (by decide)) (w_ic 4 rfl rfl (w_virtual (dc := dd + 39) (M' := m_X3_wrong) rfl (g_vir (n := 2) rfl rfl (by simp [p_cat, p_bd, Value.category]) rfl rfl e43 rfl) rfl rfl (Nat.le_refl _) (c_wrong (f := Int32.ofNat 4) hS') ?_)))
    rintro v h3 ⟨rfl, hS3⟩
    exact w_ireturnb rfl rfl rfl ⟨rfl, fun e => absurd e (by decide), fun _ => ⟨_, _, _, _, _, _, _, hS3⟩⟩
  | false =>
    have hvn : se = .null := hy
    subst hvn
    rw [if_neg (fun e => by rw [hbk] at e; exact absurd e.2 (by decide))]
    refine w_ifnn_g rfl (w_iload_n rfl p_lk_s1 (w_ic 2 rfl rfl (w_icmp_t rfl (t := 70) rfl (by decide) (w_aload_n rfl (w_s1 rfl rfl (by decide)) (w_getf rfl rfl e43 f9 (w_bp 24 rfl rfl ?_))))))
    by_cases q24 : m = 24
    · rw [if_pos q24]
      refine w_icmp_f rfl (t := 86) rfl (by rw [q24]; decide) (w_aload_n rfl (w_s1 rfl rfl (by decide)) (w_bp 6 rfl rfl (w_virtual (dc := dd + 39) (M' := m_X3_wrong) rfl (g_vir (n := 2) rfl rfl (by simp [p_cat, p_bd, Value.category]) rfl rfl e43 rfl) rfl rfl (Nat.le_refl _) (c_wrong (f := Int32.ofNat 6) hS') ?_)))
      rintro v h3 ⟨rfl, hS3⟩
      exact w_ireturnb rfl rfl rfl ⟨rfl, fun e => absurd e (by decide), fun _ => ⟨_, _, _, _, _, _, _, hS3⟩⟩
    · rw [if_neg q24]
      refine w_icmp_t rfl (t := 86) rfl (by simp only [p_cd, decide_eq_true_eq]; rw [Int32.lt_iff_toInt_lt, g_ofNat (by omega), g_ofNat (by omega)]; omega) (w_aload_n rfl (w_s1 rfl rfl (by decide)) (w_dup rfl rfl (w_getf rfl rfl e43 f9 (w_ic 1 rfl rfl (w_addN rfl (w_putf rfl rfl e43 rfl rfl (w_flt f9) (w_aload_n rfl (w_s1 rfl rfl (by decide)) (w_ic 0 rfl rfl (w_putf rfl rfl (a_gs e43) rfl rfl (w_flt (w_fne f10 (by decide))) ?_)))))))))
      refine w_use (X := fun h => c_S h b n p u ((m + 1)) la false ml (.null) ro fa pl) ⟨_, _, _, _, _, (a_gs (a_gs e43)), (by first | exact fl | (simp only [List.length_set]; exact fl)), (w_fne (w_fne f0 (by decide)) (by decide)), (w_fne (w_fne f1 (by decide)) (by decide)), (w_fne (w_fne f2 (by decide)) (by decide)), (w_fne (w_fne f3 (by decide)) (by decide)), ⟨(w_fne (w_fne f4 (by decide)) (by decide)), (w_fne (w_fne f5 (by decide)) (by decide)), (w_fne (w_fne f6 (by decide)) (by decide)), v7, (w_fne (w_fne f7 (by decide)) (by decide)), t1, t2, t3⟩, (w_fne (w_fne f8 (by decide)) (by decide)), (w_fne (w_fat f9) (by decide)), (w_fat (w_fne f10 (by decide))), (w_fne (w_fne f11 (by decide)) (by decide)), (w_fne (w_fne f12 (by decide)) (by decide)), (w_fne (w_fne f13 (by decide)) (by decide)), (w_fne (w_fne f14 (by decide)) (by decide)), (w_fne (w_fne f15 (by decide)) (by decide)), (w_fne (w_fne f16 (by decide)) (by decide)), (w_fne (w_fne f17 (by decide)) (by decide)), (a_ga (by decide) (a_ga (by decide) e44)), hb, (a_ga (by decide) (a_ga (by decide) e1)), (a_ga (by decide) (a_ga (by decide) e45)), (by first | exact rl | (simp only [List.length_set]; exact rl)), hrI, (a_ga (by decide) (a_ga (by decide) e46)), (by first | exact cl | (simp only [List.length_set]; exact cl)), hI⟩ (fun hS5 => ?_)
      have hpn : p < n := t_k_lt (by rw [k1]; decide)
      have hx1 := t_x_lt (b := b) hpn
      refine w_aload_n rfl (w_s1 rfl rfl (by decide)) (w_iload_n rfl p_lk_s1 (w_virtual (dc := dd + 39) (M' := m_X3_addPart) rfl (g_vir (n := 2) rfl rfl (by simp [p_cat, p_bd, Value.category]) rfl rfl (a_gs (a_gs e43)) rfl) rfl rfl (Nat.le_refl _) ((c_addPart (dd := dd) hS5).mono (by omega) (fun _ _ q => q)) ?_))
      rintro v h6 ⟨rfl, hS6⟩
      have hS6' := hS6
      obtain ⟨fs6, tp6, rw6, cw6, pa6, e436, fl6, f06, f16, f26, f36, ⟨f46, f56, f66, v76, f76, t16, t26, t36⟩, f86, f96, f106, f116, f126, f136, f146, f156, f166, f176, e446, hb6, e16, e456, rl6, hrI6, e466, cl6, hI6⟩ := hS6'
      refine w_aload_n rfl (w_s1 rfl rfl (by decide)) (w_virtual (dc := dd + 39) (M' := m_X3_step) rfl (g_vir (n := 1) rfl rfl (by simp [p_cat, p_bd, Value.category]) rfl rfl e436 rfl) rfl rfl (Nat.le_refl _) ((c_next (dd := dd) hS6 hn hp).mono (by omega) (fun _ _ q => q)) ?_)
      rintro v h7 ⟨rfl, hS7⟩
      have hS7' := hS7
      obtain ⟨fs7, tp7, rw7, cw7, pa7, e437, fl7, f07, f17, f27, f37, ⟨f47, f57, f67, v77, f77, t17, t27, t37⟩, f87, f97, f107, f117, f127, f137, f147, f157, f167, f177, e447, hb7, e17, e457, rl7, hrI7, e467, cl7, hI7⟩ := hS7'
      refine w_iload_n rfl p_lk_s1 (w_ic 2 rfl rfl (w_icmp_f rfl (t := 126) rfl (by decide) (w_aload_n rfl (w_s1 rfl rfl (by decide)) (w_iload_n rfl p_lk_s1 (w_virtual (dc := dd + 39) (M' := m_X3_readLaw) rfl (g_vir (n := 2) rfl rfl (by simp [p_cat, p_bd, Value.category]) rfl rfl e437 rfl) rfl rfl (Nat.le_refl _) (c_law1 (dd := dd) hS7 hn hx1.2 (by omega) rfl) ?_)))))
      rintro v h8 ⟨rfl, hY, hN⟩
      generalize t_P b n (Nat.beq 1 1) 4000 2 0 0 (t_x b n p) = s at hY hN
      by_cases e0 : s.1 = 0
      · rw [if_neg (fun q => q e0), e0]
        obtain ⟨⟨u8, a8, hS8⟩, hB8⟩ := hY e0
        have hS8' := hS8
        obtain ⟨fs8, tp8, rw8, cw8, pa8, e438, fl8, f08, f18, f28, f38, ⟨f48, f58, f68, v78, f78, t18, t28, t38⟩, f88, f98, f108, f118, f128, f138, f148, f158, f168, f178, e448, hb8, e18, e458, rl8, hrI8, e468, cl8, hI8⟩ := hS8'
        refine w_ifc_f rfl (t := 147) rfl (by decide) (w_goto rfl (t := 134) rfl (w_aload_n rfl (w_s1 rfl rfl (by decide)) (w_bp 59 rfl rfl (w_virtual (dc := dd + 39) (M' := m_X3_takeSign) rfl (g_vir (n := 2) rfl rfl (by simp [p_cat, p_bd, Value.category]) rfl rfl e438 rfl) rfl rfl (Nat.le_refl _) ((c_takeS (c := 59) hS8 (by decide) hn hB8.2).mono (by omega) (fun _ _ q => q)) ?_))))
        rintro v h9 (⟨h59, rfl, hS9⟩ | ⟨h59, rfl, hS9⟩)
        · rw [if_pos h59]
          have hy1 := t_x_lt (b := b) (t_is_lt h59)
          exact w_ifc_f rfl (t := 147) rfl (by decide) (w_iconst rfl (w_goto rfl (t := 148) rfl (w_ireturnb rfl rfl rfl ⟨rfl, fun _ => ⟨_, _, ml, .ref a8, ro, x, true, z, hS9, hx, ⟨_, rfl⟩, hz, by rw [if_pos (by decide : 1 < 3)]; exact (c_b3k x false z).2.2.2.2.2.1.symm, by show p < t_x b n s.2; omega, hy1.2, by omega⟩, fun e => absurd rfl e⟩)))
        · rw [if_neg (by rw [h59]; decide)]
          exact w_ifc_t rfl (t := 147) rfl (by decide) (w_iconst rfl (w_ireturnb rfl rfl rfl ⟨rfl, fun e => absurd e (by decide), fun _ => ⟨_, _, _, _, _, _, _, hS9⟩⟩))
      · rw [if_pos e0, t_beq0 e0]
        obtain ⟨u8, sv8, hS8⟩ := hN e0
        exact w_ifc_t rfl (t := 147) rfl (by decide) (w_iconst rfl (w_ireturnb rfl rfl rfl ⟨rfl, fun e => absurd e e0, fun _ => ⟨_, _, _, _, _, _, _, hS8⟩⟩))
set_option maxRecDepth 100000 in
theorem c_cl2 (hS : c_S h b n p u m la false ml se ro fa pl) (hn : n ≤ 300) (hp : p ≤ n) (hm : m ≤ 24) {x y z : Bool} (hx : c_nv ml x) (hy : c_nv se y) (hz : c_nv ro z) (hcw : t_cw b n p = 2) : p_wp p_GT p_MT (dd + 40) m_X3_readClause 0 (lv_args 0 [.ref 43]) [] h (fun v h2 => v = some (.int (l_b (Nat.beq (t_cl b n m (c_b3 x y z) p).1 0))) ∧ ((t_cl b n m (c_b3 x y z) p).1 = 0 → ∃ (u2 : Nat) (la2 : Int32) (ml2 se2 ro2 : Value) (x2 y2 z2 : Bool), c_S h2 b n (t_cl b n m (c_b3 x y z) p).2 u2 (m + 1) la2 false ml2 se2 ro2 fa pl ∧ c_nv ml2 x2 ∧ c_nv se2 y2 ∧ c_nv ro2 z2 ∧ c_b3 x2 y2 z2 = (if t_cw b n p < 3 then c_b3 x y z + 2 ^ t_cw b n p else c_b3 x y z) ∧ p < (t_cl b n m (c_b3 x y z) p).2 ∧ (t_cl b n m (c_b3 x y z) p).2 ≤ n ∧ m < 24) ∧ ((t_cl b n m (c_b3 x y z) p).1 ≠ 0 → ∃ (u2 m2 : Nat) (la2 : Int32) (sv2 : Bool) (ml2 se2 ro2 : Value), c_S h2 b n (t_cl b n m (c_b3 x y z) p).2 u2 m2 la2 sv2 ml2 se2 ro2 (.int (Int32.ofNat (t_cl b n m (c_b3 x y z) p).1)) (.int (Int32.ofNat (t_cl b n m (c_b3 x y z) p).2)))) := by
  have hS' := hS
  obtain ⟨fs, tp, rw, cw, pa, e43, fl, f0, f1, f2, f3, ⟨f4, f5, f6, v7, f7, t1, t2, t3⟩, f8, f9, f10, f11, f12, f13, f14, f15, f16, f17, e44, hb, e1, e45, rl, hrI, e46, cl, hI⟩ := hS
  have hbb : ∀ k, k < n → b k < 256 := fun k hk => (hb k (by omega)).2
  have ecl : t_cl b n m (c_b3 x y z) p = (if 2 < 3 ∧ c_b3 x y z / 2 ^ 2 % 2 = 1 then (4, p) else if m = 24 then (6, p) else (if (t_P b n (Nat.beq 2 1) 4000 2 0 0 (t_x b n p)).1 ≠ 0 then t_P b n (Nat.beq 2 1) 4000 2 0 0 (t_x b n p) else if t_is b n (t_P b n (Nat.beq 2 1) 4000 2 0 0 (t_x b n p)).2 59 = true then (0, t_x b n (t_P b n (Nat.beq 2 1) 4000 2 0 0 (t_x b n p)).2) else (1, (t_P b n (Nat.beq 2 1) 4000 2 0 0 (t_x b n p)).2))) := by unfold t_cl; rw [hcw]; rfl
  obtain ⟨-, k1, ev⟩ := (c_cw_v hp hbb t1).resolve_left (fun e => by rw [hcw] at e; exact absurd e.1 (by decide))
  rw [hcw] at ev
  subst ev
  rw [ecl, hcw]
  refine w_aload_n rfl rfl (w_getf rfl rfl e43 f7 (w_istore_n rfl (by decide) (w_aload_n rfl (w_s1 rfl rfl (by decide)) (w_getf rfl rfl e43 f6 (w_ic 1 rfl rfl (w_icmp_f rfl (t := 23) rfl (by rw [k1]; decide) (w_iload_n rfl p_lk_s1 (w_ic 0 rfl rfl (w_bp 9 rfl rfl (w_static (nn := 0) (dc := dd + 39) (M' := m_X11_within) rfl rfl rfl rfl (Nat.le_refl _) b_within ?_))))))))))
  rintro v h2 ⟨rfl, rfl⟩
  rw [if_pos (by decide)]
  refine w_ifc_t rfl (t := 29) rfl (by decide) (w_iload_n rfl p_lk_s1 (w_ifc_t rfl (t := 40) rfl (by decide) (w_iload_n rfl p_lk_s1 (w_ic 1 rfl rfl (w_icmp_t rfl (t := 52) rfl (by decide) (w_iload_n rfl p_lk_s1 (w_ic 2 rfl rfl (w_icmp_f rfl (t := 70) rfl (by decide) (w_aload_n rfl (w_s1 rfl rfl (by decide)) (w_getf rfl rfl e43 f13 ?_))))))))))
  have hbk := (c_b3k x y z).2.2.2.1
  cases z with
  | true =>
    obtain ⟨a, rfl⟩ := hz
    rw [if_pos ⟨by decide, hbk⟩]
    refine w_ifn_g rfl (w_aload_n rfl (w_s1 rfl rfl (by decide)) (w_ic 4 rfl rfl (w_virtual (dc := dd + 39) (M' := m_X3_wrong) rfl (g_vir (n := 2) rfl rfl (by simp [p_cat, p_bd, Value.category]) rfl rfl e43 rfl) rfl rfl (Nat.le_refl _) (c_wrong (f := Int32.ofNat 4) hS') ?_)))
    rintro v h3 ⟨rfl, hS3⟩
    exact w_ireturnb rfl rfl rfl ⟨rfl, fun e => absurd e (by decide), fun _ => ⟨_, _, _, _, _, _, _, hS3⟩⟩
  | false =>
    have hvn : ro = .null := hz
    subst hvn
    rw [if_neg (fun e => by rw [hbk] at e; exact absurd e.2 (by decide))]
    refine w_ifn_j rfl (t := 70) rfl (w_aload_n rfl (w_s1 rfl rfl (by decide)) (w_getf rfl rfl e43 f9 (w_bp 24 rfl rfl ?_)))
    by_cases q24 : m = 24
    · rw [if_pos q24]
      refine w_icmp_f rfl (t := 86) rfl (by rw [q24]; decide) (w_aload_n rfl (w_s1 rfl rfl (by decide)) (w_bp 6 rfl rfl (w_virtual (dc := dd + 39) (M' := m_X3_wrong) rfl (g_vir (n := 2) rfl rfl (by simp [p_cat, p_bd, Value.category]) rfl rfl e43 rfl) rfl rfl (Nat.le_refl _) (c_wrong (f := Int32.ofNat 6) hS') ?_)))
      rintro v h3 ⟨rfl, hS3⟩
      exact w_ireturnb rfl rfl rfl ⟨rfl, fun e => absurd e (by decide), fun _ => ⟨_, _, _, _, _, _, _, hS3⟩⟩
    · rw [if_neg q24]
      refine w_icmp_t rfl (t := 86) rfl (by simp only [p_cd, decide_eq_true_eq]; rw [Int32.lt_iff_toInt_lt, g_ofNat (by omega), g_ofNat (by omega)]; omega) (w_aload_n rfl (w_s1 rfl rfl (by decide)) (w_dup rfl rfl (w_getf rfl rfl e43 f9 (w_ic 1 rfl rfl (w_addN rfl (w_putf rfl rfl e43 rfl rfl (w_flt f9) (w_aload_n rfl (w_s1 rfl rfl (by decide)) (w_ic 0 rfl rfl (w_putf rfl rfl (a_gs e43) rfl rfl (w_flt (w_fne f10 (by decide))) ?_)))))))))
      refine w_use (X := fun h => c_S h b n p u ((m + 1)) la false ml se (.null) fa pl) ⟨_, _, _, _, _, (a_gs (a_gs e43)), (by first | exact fl | (simp only [List.length_set]; exact fl)), (w_fne (w_fne f0 (by decide)) (by decide)), (w_fne (w_fne f1 (by decide)) (by decide)), (w_fne (w_fne f2 (by decide)) (by decide)), (w_fne (w_fne f3 (by decide)) (by decide)), ⟨(w_fne (w_fne f4 (by decide)) (by decide)), (w_fne (w_fne f5 (by decide)) (by decide)), (w_fne (w_fne f6 (by decide)) (by decide)), v7, (w_fne (w_fne f7 (by decide)) (by decide)), t1, t2, t3⟩, (w_fne (w_fne f8 (by decide)) (by decide)), (w_fne (w_fat f9) (by decide)), (w_fat (w_fne f10 (by decide))), (w_fne (w_fne f11 (by decide)) (by decide)), (w_fne (w_fne f12 (by decide)) (by decide)), (w_fne (w_fne f13 (by decide)) (by decide)), (w_fne (w_fne f14 (by decide)) (by decide)), (w_fne (w_fne f15 (by decide)) (by decide)), (w_fne (w_fne f16 (by decide)) (by decide)), (w_fne (w_fne f17 (by decide)) (by decide)), (a_ga (by decide) (a_ga (by decide) e44)), hb, (a_ga (by decide) (a_ga (by decide) e1)), (a_ga (by decide) (a_ga (by decide) e45)), (by first | exact rl | (simp only [List.length_set]; exact rl)), hrI, (a_ga (by decide) (a_ga (by decide) e46)), (by first | exact cl | (simp only [List.length_set]; exact cl)), hI⟩ (fun hS5 => ?_)
      have hpn : p < n := t_k_lt (by rw [k1]; decide)
      have hx1 := t_x_lt (b := b) hpn
      refine w_aload_n rfl (w_s1 rfl rfl (by decide)) (w_iload_n rfl p_lk_s1 (w_virtual (dc := dd + 39) (M' := m_X3_addPart) rfl (g_vir (n := 2) rfl rfl (by simp [p_cat, p_bd, Value.category]) rfl rfl (a_gs (a_gs e43)) rfl) rfl rfl (Nat.le_refl _) ((c_addPart (dd := dd) hS5).mono (by omega) (fun _ _ q => q)) ?_))
      rintro v h6 ⟨rfl, hS6⟩
      have hS6' := hS6
      obtain ⟨fs6, tp6, rw6, cw6, pa6, e436, fl6, f06, f16, f26, f36, ⟨f46, f56, f66, v76, f76, t16, t26, t36⟩, f86, f96, f106, f116, f126, f136, f146, f156, f166, f176, e446, hb6, e16, e456, rl6, hrI6, e466, cl6, hI6⟩ := hS6'
      refine w_aload_n rfl (w_s1 rfl rfl (by decide)) (w_virtual (dc := dd + 39) (M' := m_X3_step) rfl (g_vir (n := 1) rfl rfl (by simp [p_cat, p_bd, Value.category]) rfl rfl e436 rfl) rfl rfl (Nat.le_refl _) ((c_next (dd := dd) hS6 hn hp).mono (by omega) (fun _ _ q => q)) ?_)
      rintro v h7 ⟨rfl, hS7⟩
      have hS7' := hS7
      obtain ⟨fs7, tp7, rw7, cw7, pa7, e437, fl7, f07, f17, f27, f37, ⟨f47, f57, f67, v77, f77, t17, t27, t37⟩, f87, f97, f107, f117, f127, f137, f147, f157, f167, f177, e447, hb7, e17, e457, rl7, hrI7, e467, cl7, hI7⟩ := hS7'
      refine w_iload_n rfl p_lk_s1 (w_ic 2 rfl rfl (w_icmp_f rfl (t := 126) rfl (by decide) (w_aload_n rfl (w_s1 rfl rfl (by decide)) (w_iload_n rfl p_lk_s1 (w_virtual (dc := dd + 39) (M' := m_X3_readLaw) rfl (g_vir (n := 2) rfl rfl (by simp [p_cat, p_bd, Value.category]) rfl rfl e437 rfl) rfl rfl (Nat.le_refl _) (c_law2 (dd := dd) hS7 hn hx1.2 (by omega) rfl) ?_)))))
      rintro v h8 ⟨rfl, hY, hN⟩
      generalize t_P b n (Nat.beq 2 1) 4000 2 0 0 (t_x b n p) = s at hY hN
      by_cases e0 : s.1 = 0
      · rw [if_neg (fun q => q e0), e0]
        obtain ⟨⟨u8, a8, hS8⟩, hB8⟩ := hY e0
        have hS8' := hS8
        obtain ⟨fs8, tp8, rw8, cw8, pa8, e438, fl8, f08, f18, f28, f38, ⟨f48, f58, f68, v78, f78, t18, t28, t38⟩, f88, f98, f108, f118, f128, f138, f148, f158, f168, f178, e448, hb8, e18, e458, rl8, hrI8, e468, cl8, hI8⟩ := hS8'
        refine w_ifc_f rfl (t := 147) rfl (by decide) (w_goto rfl (t := 134) rfl (w_aload_n rfl (w_s1 rfl rfl (by decide)) (w_bp 59 rfl rfl (w_virtual (dc := dd + 39) (M' := m_X3_takeSign) rfl (g_vir (n := 2) rfl rfl (by simp [p_cat, p_bd, Value.category]) rfl rfl e438 rfl) rfl rfl (Nat.le_refl _) ((c_takeS (c := 59) hS8 (by decide) hn hB8.2).mono (by omega) (fun _ _ q => q)) ?_))))
        rintro v h9 (⟨h59, rfl, hS9⟩ | ⟨h59, rfl, hS9⟩)
        · rw [if_pos h59]
          have hy1 := t_x_lt (b := b) (t_is_lt h59)
          exact w_ifc_f rfl (t := 147) rfl (by decide) (w_iconst rfl (w_goto rfl (t := 148) rfl (w_ireturnb rfl rfl rfl ⟨rfl, fun _ => ⟨_, _, ml, se, .ref a8, x, y, true, hS9, hx, hy, ⟨_, rfl⟩, by rw [if_pos (by decide : 2 < 3)]; exact (c_b3k x y false).2.2.2.2.2.2.symm, by show p < t_x b n s.2; omega, hy1.2, by omega⟩, fun e => absurd rfl e⟩)))
        · rw [if_neg (by rw [h59]; decide)]
          exact w_ifc_t rfl (t := 147) rfl (by decide) (w_iconst rfl (w_ireturnb rfl rfl rfl ⟨rfl, fun e => absurd e (by decide), fun _ => ⟨_, _, _, _, _, _, _, hS9⟩⟩))
      · rw [if_pos e0, t_beq0 e0]
        obtain ⟨u8, sv8, hS8⟩ := hN e0
        exact w_ifc_t rfl (t := 147) rfl (by decide) (w_iconst rfl (w_ireturnb rfl rfl rfl ⟨rfl, fun e => absurd e e0, fun _ => ⟨_, _, _, _, _, _, _, hS8⟩⟩))
set_option maxRecDepth 100000 in
theorem c_cl3 (hS : c_S h b n p u m la false ml se ro fa pl) (hn : n ≤ 300) (hp : p ≤ n) (hm : m ≤ 24) {x y z : Bool} (hx : c_nv ml x) (hy : c_nv se y) (hz : c_nv ro z) (hcw : t_cw b n p = 3) : p_wp p_GT p_MT (dd + 40) m_X3_readClause 0 (lv_args 0 [.ref 43]) [] h (fun v h2 => v = some (.int (l_b (Nat.beq (t_cl b n m (c_b3 x y z) p).1 0))) ∧ ((t_cl b n m (c_b3 x y z) p).1 = 0 → ∃ (u2 : Nat) (la2 : Int32) (ml2 se2 ro2 : Value) (x2 y2 z2 : Bool), c_S h2 b n (t_cl b n m (c_b3 x y z) p).2 u2 (m + 1) la2 false ml2 se2 ro2 fa pl ∧ c_nv ml2 x2 ∧ c_nv se2 y2 ∧ c_nv ro2 z2 ∧ c_b3 x2 y2 z2 = (if t_cw b n p < 3 then c_b3 x y z + 2 ^ t_cw b n p else c_b3 x y z) ∧ p < (t_cl b n m (c_b3 x y z) p).2 ∧ (t_cl b n m (c_b3 x y z) p).2 ≤ n ∧ m < 24) ∧ ((t_cl b n m (c_b3 x y z) p).1 ≠ 0 → ∃ (u2 m2 : Nat) (la2 : Int32) (sv2 : Bool) (ml2 se2 ro2 : Value), c_S h2 b n (t_cl b n m (c_b3 x y z) p).2 u2 m2 la2 sv2 ml2 se2 ro2 (.int (Int32.ofNat (t_cl b n m (c_b3 x y z) p).1)) (.int (Int32.ofNat (t_cl b n m (c_b3 x y z) p).2)))) := by
  have hS' := hS
  obtain ⟨fs, tp, rw, cw, pa, e43, fl, f0, f1, f2, f3, ⟨f4, f5, f6, v7, f7, t1, t2, t3⟩, f8, f9, f10, f11, f12, f13, f14, f15, f16, f17, e44, hb, e1, e45, rl, hrI, e46, cl, hI⟩ := hS
  have hbb : ∀ k, k < n → b k < 256 := fun k hk => (hb k (by omega)).2
  have ecl : t_cl b n m (c_b3 x y z) p = (if m = 24 then (6, p) else (if (t_D b n [(0, 2, 8), (1, 16, 0), (0, 2, 8)] (t_x b n p)).1 ≠ 0 then t_D b n [(0, 2, 8), (1, 16, 0), (0, 2, 8)] (t_x b n p) else if t_is b n (t_D b n [(0, 2, 8), (1, 16, 0), (0, 2, 8)] (t_x b n p)).2 59 = true then (0, t_x b n (t_D b n [(0, 2, 8), (1, 16, 0), (0, 2, 8)] (t_x b n p)).2) else (1, (t_D b n [(0, 2, 8), (1, 16, 0), (0, 2, 8)] (t_x b n p)).2))) := by unfold t_cl; rw [hcw]; rfl
  obtain ⟨-, k1, ev⟩ := (c_cw_v hp hbb t1).resolve_left (fun e => by rw [hcw] at e; exact absurd e.1 (by decide))
  rw [hcw] at ev
  subst ev
  rw [ecl, hcw]
  refine w_aload_n rfl rfl (w_getf rfl rfl e43 f7 (w_istore_n rfl (by decide) (w_aload_n rfl (w_s1 rfl rfl (by decide)) (w_getf rfl rfl e43 f6 (w_ic 1 rfl rfl (w_icmp_f rfl (t := 23) rfl (by rw [k1]; decide) (w_iload_n rfl p_lk_s1 (w_ic 0 rfl rfl (w_bp 9 rfl rfl (w_static (nn := 0) (dc := dd + 39) (M' := m_X11_within) rfl rfl rfl rfl (Nat.le_refl _) b_within ?_))))))))))
  rintro v h2 ⟨rfl, rfl⟩
  rw [if_pos (by decide)]
  refine w_ifc_t rfl (t := 29) rfl (by decide) (w_iload_n rfl p_lk_s1 (w_ifc_t rfl (t := 40) rfl (by decide) (w_iload_n rfl p_lk_s1 (w_ic 1 rfl rfl (w_icmp_t rfl (t := 52) rfl (by decide) (w_iload_n rfl p_lk_s1 (w_ic 2 rfl rfl (w_icmp_t rfl (t := 70) rfl (by decide) (w_aload_n rfl (w_s1 rfl rfl (by decide)) (w_getf rfl rfl e43 f9 (w_bp 24 rfl rfl ?_)))))))))))
  by_cases q24 : m = 24
  · rw [if_pos q24]
    refine w_icmp_f rfl (t := 86) rfl (by rw [q24]; decide) (w_aload_n rfl (w_s1 rfl rfl (by decide)) (w_bp 6 rfl rfl (w_virtual (dc := dd + 39) (M' := m_X3_wrong) rfl (g_vir (n := 2) rfl rfl (by simp [p_cat, p_bd, Value.category]) rfl rfl e43 rfl) rfl rfl (Nat.le_refl _) (c_wrong (f := Int32.ofNat 6) hS') ?_)))
    rintro v h3 ⟨rfl, hS3⟩
    exact w_ireturnb rfl rfl rfl ⟨rfl, fun e => absurd e (by decide), fun _ => ⟨_, _, _, _, _, _, _, hS3⟩⟩
  · rw [if_neg q24]
    refine w_icmp_t rfl (t := 86) rfl (by simp only [p_cd, decide_eq_true_eq]; rw [Int32.lt_iff_toInt_lt, g_ofNat (by omega), g_ofNat (by omega)]; omega) (w_aload_n rfl (w_s1 rfl rfl (by decide)) (w_dup rfl rfl (w_getf rfl rfl e43 f9 (w_ic 1 rfl rfl (w_addN rfl (w_putf rfl rfl e43 rfl rfl (w_flt f9) (w_aload_n rfl (w_s1 rfl rfl (by decide)) (w_ic 0 rfl rfl (w_putf rfl rfl (a_gs e43) rfl rfl (w_flt (w_fne f10 (by decide))) ?_)))))))))
    refine w_use (X := fun h => c_S h b n p u ((m + 1)) la false ml se ro fa pl) ⟨_, _, _, _, _, (a_gs (a_gs e43)), (by first | exact fl | (simp only [List.length_set]; exact fl)), (w_fne (w_fne f0 (by decide)) (by decide)), (w_fne (w_fne f1 (by decide)) (by decide)), (w_fne (w_fne f2 (by decide)) (by decide)), (w_fne (w_fne f3 (by decide)) (by decide)), ⟨(w_fne (w_fne f4 (by decide)) (by decide)), (w_fne (w_fne f5 (by decide)) (by decide)), (w_fne (w_fne f6 (by decide)) (by decide)), v7, (w_fne (w_fne f7 (by decide)) (by decide)), t1, t2, t3⟩, (w_fne (w_fne f8 (by decide)) (by decide)), (w_fne (w_fat f9) (by decide)), (w_fat (w_fne f10 (by decide))), (w_fne (w_fne f11 (by decide)) (by decide)), (w_fne (w_fne f12 (by decide)) (by decide)), (w_fne (w_fne f13 (by decide)) (by decide)), (w_fne (w_fne f14 (by decide)) (by decide)), (w_fne (w_fne f15 (by decide)) (by decide)), (w_fne (w_fne f16 (by decide)) (by decide)), (w_fne (w_fne f17 (by decide)) (by decide)), (a_ga (by decide) (a_ga (by decide) e44)), hb, (a_ga (by decide) (a_ga (by decide) e1)), (a_ga (by decide) (a_ga (by decide) e45)), (by first | exact rl | (simp only [List.length_set]; exact rl)), hrI, (a_ga (by decide) (a_ga (by decide) e46)), (by first | exact cl | (simp only [List.length_set]; exact cl)), hI⟩ (fun hS5 => ?_)
    have hpn : p < n := t_k_lt (by rw [k1]; decide)
    have hx1 := t_x_lt (b := b) hpn
    refine w_aload_n rfl (w_s1 rfl rfl (by decide)) (w_iload_n rfl p_lk_s1 (w_virtual (dc := dd + 39) (M' := m_X3_addPart) rfl (g_vir (n := 2) rfl rfl (by simp [p_cat, p_bd, Value.category]) rfl rfl (a_gs (a_gs e43)) rfl) rfl rfl (Nat.le_refl _) ((c_addPart (dd := dd) hS5).mono (by omega) (fun _ _ q => q)) ?_))
    rintro v h6 ⟨rfl, hS6⟩
    have hS6' := hS6
    obtain ⟨fs6, tp6, rw6, cw6, pa6, e436, fl6, f06, f16, f26, f36, ⟨f46, f56, f66, v76, f76, t16, t26, t36⟩, f86, f96, f106, f116, f126, f136, f146, f156, f166, f176, e446, hb6, e16, e456, rl6, hrI6, e466, cl6, hI6⟩ := hS6'
    refine w_aload_n rfl (w_s1 rfl rfl (by decide)) (w_virtual (dc := dd + 39) (M' := m_X3_step) rfl (g_vir (n := 1) rfl rfl (by simp [p_cat, p_bd, Value.category]) rfl rfl e436 rfl) rfl rfl (Nat.le_refl _) ((c_next (dd := dd) hS6 hn hp).mono (by omega) (fun _ _ q => q)) ?_)
    rintro v h7 ⟨rfl, hS7⟩
    have hS7' := hS7
    obtain ⟨fs7, tp7, rw7, cw7, pa7, e437, fl7, f07, f17, f27, f37, ⟨f47, f57, f67, v77, f77, t17, t27, t37⟩, f87, f97, f107, f117, f127, f137, f147, f157, f167, f177, e447, hb7, e17, e457, rl7, hrI7, e467, cl7, hI7⟩ := hS7'
    refine w_iload_n rfl p_lk_s1 (w_ic 2 rfl rfl (w_icmp_t rfl (t := 126) rfl (by decide) (w_aload_n rfl (w_s1 rfl rfl (by decide)) (w_iload_n rfl p_lk_s1 (w_virtual (dc := dd + 39) (M' := m_X3_readDeed) rfl (g_vir (n := 2) rfl rfl (by simp [p_cat, p_bd, Value.category]) rfl rfl e437 rfl) rfl rfl (Nat.le_refl _) ((c_deed3 (dd := dd) hS7 hn hx1.2).mono (by omega) (fun _ _ q => q)) ?_)))))
    rintro v h8 ⟨rfl, hY⟩
    have hle := t_D_le (b := b) (n := n) [(0, 2, 8), (1, 16, 0), (0, 2, 8)] (t_x b n p) hx1.2
    generalize t_D b n [(0, 2, 8), (1, 16, 0), (0, 2, 8)] (t_x b n p) = s at hY hle
    by_cases e0 : s.1 = 0
    · rw [if_neg (fun q => q e0), e0]
      have hS8 := hY.1 e0
      have hB8 : p < s.2 ∧ s.2 ≤ n := by omega
      have hS8' := hS8
      obtain ⟨fs8, tp8, rw8, cw8, pa8, e438, fl8, f08, f18, f28, f38, ⟨f48, f58, f68, v78, f78, t18, t28, t38⟩, f88, f98, f108, f118, f128, f138, f148, f158, f168, f178, e448, hb8, e18, e458, rl8, hrI8, e468, cl8, hI8⟩ := hS8'
      refine w_ifc_f rfl (t := 147) rfl (by decide) (w_aload_n rfl (w_s1 rfl rfl (by decide)) (w_bp 59 rfl rfl (w_virtual (dc := dd + 39) (M' := m_X3_takeSign) rfl (g_vir (n := 2) rfl rfl (by simp [p_cat, p_bd, Value.category]) rfl rfl e438 rfl) rfl rfl (Nat.le_refl _) ((c_takeS (c := 59) hS8 (by decide) hn hB8.2).mono (by omega) (fun _ _ q => q)) ?_)))
      rintro v h9 (⟨h59, rfl, hS9⟩ | ⟨h59, rfl, hS9⟩)
      · rw [if_pos h59]
        have hy1 := t_x_lt (b := b) (t_is_lt h59)
        exact w_ifc_f rfl (t := 147) rfl (by decide) (w_iconst rfl (w_goto rfl (t := 148) rfl (w_ireturnb rfl rfl rfl ⟨rfl, fun _ => ⟨_, _, ml, se, ro, x, y, z, hS9, hx, hy, hz, by rw [if_neg (by decide : ¬ 3 < 3)], by show p < t_x b n s.2; omega, hy1.2, by omega⟩, fun e => absurd rfl e⟩)))
      · rw [if_neg (by rw [h59]; decide)]
        exact w_ifc_t rfl (t := 147) rfl (by decide) (w_iconst rfl (w_ireturnb rfl rfl rfl ⟨rfl, fun e => absurd e (by decide), fun _ => ⟨_, _, _, _, _, _, _, hS9⟩⟩))
    · rw [if_pos e0, t_beq0 e0]
      have hS8 := hY.2 e0
      exact w_ifc_t rfl (t := 147) rfl (by decide) (w_iconst rfl (w_ireturnb rfl rfl rfl ⟨rfl, fun e => absurd e e0, fun _ => ⟨_, _, _, _, _, _, _, hS8⟩⟩))
set_option maxRecDepth 100000 in
theorem c_cl4 (hS : c_S h b n p u m la false ml se ro fa pl) (hn : n ≤ 300) (hp : p ≤ n) (hm : m ≤ 24) {x y z : Bool} (hx : c_nv ml x) (hy : c_nv se y) (hz : c_nv ro z) (hcw : t_cw b n p = 4) : p_wp p_GT p_MT (dd + 40) m_X3_readClause 0 (lv_args 0 [.ref 43]) [] h (fun v h2 => v = some (.int (l_b (Nat.beq (t_cl b n m (c_b3 x y z) p).1 0))) ∧ ((t_cl b n m (c_b3 x y z) p).1 = 0 → ∃ (u2 : Nat) (la2 : Int32) (ml2 se2 ro2 : Value) (x2 y2 z2 : Bool), c_S h2 b n (t_cl b n m (c_b3 x y z) p).2 u2 (m + 1) la2 false ml2 se2 ro2 fa pl ∧ c_nv ml2 x2 ∧ c_nv se2 y2 ∧ c_nv ro2 z2 ∧ c_b3 x2 y2 z2 = (if t_cw b n p < 3 then c_b3 x y z + 2 ^ t_cw b n p else c_b3 x y z) ∧ p < (t_cl b n m (c_b3 x y z) p).2 ∧ (t_cl b n m (c_b3 x y z) p).2 ≤ n ∧ m < 24) ∧ ((t_cl b n m (c_b3 x y z) p).1 ≠ 0 → ∃ (u2 m2 : Nat) (la2 : Int32) (sv2 : Bool) (ml2 se2 ro2 : Value), c_S h2 b n (t_cl b n m (c_b3 x y z) p).2 u2 m2 la2 sv2 ml2 se2 ro2 (.int (Int32.ofNat (t_cl b n m (c_b3 x y z) p).1)) (.int (Int32.ofNat (t_cl b n m (c_b3 x y z) p).2)))) := by
  have hS' := hS
  obtain ⟨fs, tp, rw, cw, pa, e43, fl, f0, f1, f2, f3, ⟨f4, f5, f6, v7, f7, t1, t2, t3⟩, f8, f9, f10, f11, f12, f13, f14, f15, f16, f17, e44, hb, e1, e45, rl, hrI, e46, cl, hI⟩ := hS
  have hbb : ∀ k, k < n → b k < 256 := fun k hk => (hb k (by omega)).2
  have ecl : t_cl b n m (c_b3 x y z) p = (if m = 24 then (6, p) else (if (t_D b n [(0, 0, 9), (1, 17, 0), (0, 0, 7), (2, 44, 0), (0, 0, 7), (2, 58, 0), (0, 1, 3), (2, 44, 0), (0, 1, 3), (1, 18, 0), (0, 0, 9)] (t_x b n p)).1 ≠ 0 then t_D b n [(0, 0, 9), (1, 17, 0), (0, 0, 7), (2, 44, 0), (0, 0, 7), (2, 58, 0), (0, 1, 3), (2, 44, 0), (0, 1, 3), (1, 18, 0), (0, 0, 9)] (t_x b n p) else if t_is b n (t_D b n [(0, 0, 9), (1, 17, 0), (0, 0, 7), (2, 44, 0), (0, 0, 7), (2, 58, 0), (0, 1, 3), (2, 44, 0), (0, 1, 3), (1, 18, 0), (0, 0, 9)] (t_x b n p)).2 59 = true then (0, t_x b n (t_D b n [(0, 0, 9), (1, 17, 0), (0, 0, 7), (2, 44, 0), (0, 0, 7), (2, 58, 0), (0, 1, 3), (2, 44, 0), (0, 1, 3), (1, 18, 0), (0, 0, 9)] (t_x b n p)).2) else (1, (t_D b n [(0, 0, 9), (1, 17, 0), (0, 0, 7), (2, 44, 0), (0, 0, 7), (2, 58, 0), (0, 1, 3), (2, 44, 0), (0, 1, 3), (1, 18, 0), (0, 0, 9)] (t_x b n p)).2))) := by unfold t_cl; rw [hcw]; rfl
  obtain ⟨-, k1, ev⟩ := (c_cw_v hp hbb t1).resolve_left (fun e => by rw [hcw] at e; exact absurd e.1 (by decide))
  rw [hcw] at ev
  subst ev
  rw [ecl, hcw]
  refine w_aload_n rfl rfl (w_getf rfl rfl e43 f7 (w_istore_n rfl (by decide) (w_aload_n rfl (w_s1 rfl rfl (by decide)) (w_getf rfl rfl e43 f6 (w_ic 1 rfl rfl (w_icmp_f rfl (t := 23) rfl (by rw [k1]; decide) (w_iload_n rfl p_lk_s1 (w_ic 0 rfl rfl (w_bp 9 rfl rfl (w_static (nn := 0) (dc := dd + 39) (M' := m_X11_within) rfl rfl rfl rfl (Nat.le_refl _) b_within ?_))))))))))
  rintro v h2 ⟨rfl, rfl⟩
  rw [if_pos (by decide)]
  refine w_ifc_t rfl (t := 29) rfl (by decide) (w_iload_n rfl p_lk_s1 (w_ifc_t rfl (t := 40) rfl (by decide) (w_iload_n rfl p_lk_s1 (w_ic 1 rfl rfl (w_icmp_t rfl (t := 52) rfl (by decide) (w_iload_n rfl p_lk_s1 (w_ic 2 rfl rfl (w_icmp_t rfl (t := 70) rfl (by decide) (w_aload_n rfl (w_s1 rfl rfl (by decide)) (w_getf rfl rfl e43 f9 (w_bp 24 rfl rfl ?_)))))))))))
  by_cases q24 : m = 24
  · rw [if_pos q24]
    refine w_icmp_f rfl (t := 86) rfl (by rw [q24]; decide) (w_aload_n rfl (w_s1 rfl rfl (by decide)) (w_bp 6 rfl rfl (w_virtual (dc := dd + 39) (M' := m_X3_wrong) rfl (g_vir (n := 2) rfl rfl (by simp [p_cat, p_bd, Value.category]) rfl rfl e43 rfl) rfl rfl (Nat.le_refl _) (c_wrong (f := Int32.ofNat 6) hS') ?_)))
    rintro v h3 ⟨rfl, hS3⟩
    exact w_ireturnb rfl rfl rfl ⟨rfl, fun e => absurd e (by decide), fun _ => ⟨_, _, _, _, _, _, _, hS3⟩⟩
  · rw [if_neg q24]
    refine w_icmp_t rfl (t := 86) rfl (by simp only [p_cd, decide_eq_true_eq]; rw [Int32.lt_iff_toInt_lt, g_ofNat (by omega), g_ofNat (by omega)]; omega) (w_aload_n rfl (w_s1 rfl rfl (by decide)) (w_dup rfl rfl (w_getf rfl rfl e43 f9 (w_ic 1 rfl rfl (w_addN rfl (w_putf rfl rfl e43 rfl rfl (w_flt f9) (w_aload_n rfl (w_s1 rfl rfl (by decide)) (w_ic 0 rfl rfl (w_putf rfl rfl (a_gs e43) rfl rfl (w_flt (w_fne f10 (by decide))) ?_)))))))))
    refine w_use (X := fun h => c_S h b n p u ((m + 1)) la false ml se ro fa pl) ⟨_, _, _, _, _, (a_gs (a_gs e43)), (by first | exact fl | (simp only [List.length_set]; exact fl)), (w_fne (w_fne f0 (by decide)) (by decide)), (w_fne (w_fne f1 (by decide)) (by decide)), (w_fne (w_fne f2 (by decide)) (by decide)), (w_fne (w_fne f3 (by decide)) (by decide)), ⟨(w_fne (w_fne f4 (by decide)) (by decide)), (w_fne (w_fne f5 (by decide)) (by decide)), (w_fne (w_fne f6 (by decide)) (by decide)), v7, (w_fne (w_fne f7 (by decide)) (by decide)), t1, t2, t3⟩, (w_fne (w_fne f8 (by decide)) (by decide)), (w_fne (w_fat f9) (by decide)), (w_fat (w_fne f10 (by decide))), (w_fne (w_fne f11 (by decide)) (by decide)), (w_fne (w_fne f12 (by decide)) (by decide)), (w_fne (w_fne f13 (by decide)) (by decide)), (w_fne (w_fne f14 (by decide)) (by decide)), (w_fne (w_fne f15 (by decide)) (by decide)), (w_fne (w_fne f16 (by decide)) (by decide)), (w_fne (w_fne f17 (by decide)) (by decide)), (a_ga (by decide) (a_ga (by decide) e44)), hb, (a_ga (by decide) (a_ga (by decide) e1)), (a_ga (by decide) (a_ga (by decide) e45)), (by first | exact rl | (simp only [List.length_set]; exact rl)), hrI, (a_ga (by decide) (a_ga (by decide) e46)), (by first | exact cl | (simp only [List.length_set]; exact cl)), hI⟩ (fun hS5 => ?_)
    have hpn : p < n := t_k_lt (by rw [k1]; decide)
    have hx1 := t_x_lt (b := b) hpn
    refine w_aload_n rfl (w_s1 rfl rfl (by decide)) (w_iload_n rfl p_lk_s1 (w_virtual (dc := dd + 39) (M' := m_X3_addPart) rfl (g_vir (n := 2) rfl rfl (by simp [p_cat, p_bd, Value.category]) rfl rfl (a_gs (a_gs e43)) rfl) rfl rfl (Nat.le_refl _) ((c_addPart (dd := dd) hS5).mono (by omega) (fun _ _ q => q)) ?_))
    rintro v h6 ⟨rfl, hS6⟩
    have hS6' := hS6
    obtain ⟨fs6, tp6, rw6, cw6, pa6, e436, fl6, f06, f16, f26, f36, ⟨f46, f56, f66, v76, f76, t16, t26, t36⟩, f86, f96, f106, f116, f126, f136, f146, f156, f166, f176, e446, hb6, e16, e456, rl6, hrI6, e466, cl6, hI6⟩ := hS6'
    refine w_aload_n rfl (w_s1 rfl rfl (by decide)) (w_virtual (dc := dd + 39) (M' := m_X3_step) rfl (g_vir (n := 1) rfl rfl (by simp [p_cat, p_bd, Value.category]) rfl rfl e436 rfl) rfl rfl (Nat.le_refl _) ((c_next (dd := dd) hS6 hn hp).mono (by omega) (fun _ _ q => q)) ?_)
    rintro v h7 ⟨rfl, hS7⟩
    have hS7' := hS7
    obtain ⟨fs7, tp7, rw7, cw7, pa7, e437, fl7, f07, f17, f27, f37, ⟨f47, f57, f67, v77, f77, t17, t27, t37⟩, f87, f97, f107, f117, f127, f137, f147, f157, f167, f177, e447, hb7, e17, e457, rl7, hrI7, e467, cl7, hI7⟩ := hS7'
    refine w_iload_n rfl p_lk_s1 (w_ic 2 rfl rfl (w_icmp_t rfl (t := 126) rfl (by decide) (w_aload_n rfl (w_s1 rfl rfl (by decide)) (w_iload_n rfl p_lk_s1 (w_virtual (dc := dd + 39) (M' := m_X3_readDeed) rfl (g_vir (n := 2) rfl rfl (by simp [p_cat, p_bd, Value.category]) rfl rfl e437 rfl) rfl rfl (Nat.le_refl _) ((c_deed4 (dd := dd) hS7 hn hx1.2).mono (by omega) (fun _ _ q => q)) ?_)))))
    rintro v h8 ⟨rfl, hY⟩
    have hle := t_D_le (b := b) (n := n) [(0, 0, 9), (1, 17, 0), (0, 0, 7), (2, 44, 0), (0, 0, 7), (2, 58, 0), (0, 1, 3), (2, 44, 0), (0, 1, 3), (1, 18, 0), (0, 0, 9)] (t_x b n p) hx1.2
    generalize t_D b n [(0, 0, 9), (1, 17, 0), (0, 0, 7), (2, 44, 0), (0, 0, 7), (2, 58, 0), (0, 1, 3), (2, 44, 0), (0, 1, 3), (1, 18, 0), (0, 0, 9)] (t_x b n p) = s at hY hle
    by_cases e0 : s.1 = 0
    · rw [if_neg (fun q => q e0), e0]
      have hS8 := hY.1 e0
      have hB8 : p < s.2 ∧ s.2 ≤ n := by omega
      have hS8' := hS8
      obtain ⟨fs8, tp8, rw8, cw8, pa8, e438, fl8, f08, f18, f28, f38, ⟨f48, f58, f68, v78, f78, t18, t28, t38⟩, f88, f98, f108, f118, f128, f138, f148, f158, f168, f178, e448, hb8, e18, e458, rl8, hrI8, e468, cl8, hI8⟩ := hS8'
      refine w_ifc_f rfl (t := 147) rfl (by decide) (w_aload_n rfl (w_s1 rfl rfl (by decide)) (w_bp 59 rfl rfl (w_virtual (dc := dd + 39) (M' := m_X3_takeSign) rfl (g_vir (n := 2) rfl rfl (by simp [p_cat, p_bd, Value.category]) rfl rfl e438 rfl) rfl rfl (Nat.le_refl _) ((c_takeS (c := 59) hS8 (by decide) hn hB8.2).mono (by omega) (fun _ _ q => q)) ?_)))
      rintro v h9 (⟨h59, rfl, hS9⟩ | ⟨h59, rfl, hS9⟩)
      · rw [if_pos h59]
        have hy1 := t_x_lt (b := b) (t_is_lt h59)
        exact w_ifc_f rfl (t := 147) rfl (by decide) (w_iconst rfl (w_goto rfl (t := 148) rfl (w_ireturnb rfl rfl rfl ⟨rfl, fun _ => ⟨_, _, ml, se, ro, x, y, z, hS9, hx, hy, hz, by rw [if_neg (by decide : ¬ 4 < 3)], by show p < t_x b n s.2; omega, hy1.2, by omega⟩, fun e => absurd rfl e⟩)))
      · rw [if_neg (by rw [h59]; decide)]
        exact w_ifc_t rfl (t := 147) rfl (by decide) (w_iconst rfl (w_ireturnb rfl rfl rfl ⟨rfl, fun e => absurd e (by decide), fun _ => ⟨_, _, _, _, _, _, _, hS9⟩⟩))
    · rw [if_pos e0, t_beq0 e0]
      have hS8 := hY.2 e0
      exact w_ifc_t rfl (t := 147) rfl (by decide) (w_iconst rfl (w_ireturnb rfl rfl rfl ⟨rfl, fun e => absurd e e0, fun _ => ⟨_, _, _, _, _, _, _, hS8⟩⟩))
set_option maxRecDepth 100000 in
theorem c_cl5 (hS : c_S h b n p u m la false ml se ro fa pl) (hn : n ≤ 300) (hp : p ≤ n) (hm : m ≤ 24) {x y z : Bool} (hx : c_nv ml x) (hy : c_nv se y) (hz : c_nv ro z) (hcw : t_cw b n p = 5) : p_wp p_GT p_MT (dd + 40) m_X3_readClause 0 (lv_args 0 [.ref 43]) [] h (fun v h2 => v = some (.int (l_b (Nat.beq (t_cl b n m (c_b3 x y z) p).1 0))) ∧ ((t_cl b n m (c_b3 x y z) p).1 = 0 → ∃ (u2 : Nat) (la2 : Int32) (ml2 se2 ro2 : Value) (x2 y2 z2 : Bool), c_S h2 b n (t_cl b n m (c_b3 x y z) p).2 u2 (m + 1) la2 false ml2 se2 ro2 fa pl ∧ c_nv ml2 x2 ∧ c_nv se2 y2 ∧ c_nv ro2 z2 ∧ c_b3 x2 y2 z2 = (if t_cw b n p < 3 then c_b3 x y z + 2 ^ t_cw b n p else c_b3 x y z) ∧ p < (t_cl b n m (c_b3 x y z) p).2 ∧ (t_cl b n m (c_b3 x y z) p).2 ≤ n ∧ m < 24) ∧ ((t_cl b n m (c_b3 x y z) p).1 ≠ 0 → ∃ (u2 m2 : Nat) (la2 : Int32) (sv2 : Bool) (ml2 se2 ro2 : Value), c_S h2 b n (t_cl b n m (c_b3 x y z) p).2 u2 m2 la2 sv2 ml2 se2 ro2 (.int (Int32.ofNat (t_cl b n m (c_b3 x y z) p).1)) (.int (Int32.ofNat (t_cl b n m (c_b3 x y z) p).2)))) := by
  have hS' := hS
  obtain ⟨fs, tp, rw, cw, pa, e43, fl, f0, f1, f2, f3, ⟨f4, f5, f6, v7, f7, t1, t2, t3⟩, f8, f9, f10, f11, f12, f13, f14, f15, f16, f17, e44, hb, e1, e45, rl, hrI, e46, cl, hI⟩ := hS
  have hbb : ∀ k, k < n → b k < 256 := fun k hk => (hb k (by omega)).2
  have ecl : t_cl b n m (c_b3 x y z) p = (if m = 24 then (6, p) else (if (t_D b n [(0, 0, 6)] (t_x b n p)).1 ≠ 0 then t_D b n [(0, 0, 6)] (t_x b n p) else if t_is b n (t_D b n [(0, 0, 6)] (t_x b n p)).2 59 = true then (0, t_x b n (t_D b n [(0, 0, 6)] (t_x b n p)).2) else (1, (t_D b n [(0, 0, 6)] (t_x b n p)).2))) := by unfold t_cl; rw [hcw]; rfl
  obtain ⟨-, k1, ev⟩ := (c_cw_v hp hbb t1).resolve_left (fun e => by rw [hcw] at e; exact absurd e.1 (by decide))
  rw [hcw] at ev
  subst ev
  rw [ecl, hcw]
  refine w_aload_n rfl rfl (w_getf rfl rfl e43 f7 (w_istore_n rfl (by decide) (w_aload_n rfl (w_s1 rfl rfl (by decide)) (w_getf rfl rfl e43 f6 (w_ic 1 rfl rfl (w_icmp_f rfl (t := 23) rfl (by rw [k1]; decide) (w_iload_n rfl p_lk_s1 (w_ic 0 rfl rfl (w_bp 9 rfl rfl (w_static (nn := 0) (dc := dd + 39) (M' := m_X11_within) rfl rfl rfl rfl (Nat.le_refl _) b_within ?_))))))))))
  rintro v h2 ⟨rfl, rfl⟩
  rw [if_pos (by decide)]
  refine w_ifc_t rfl (t := 29) rfl (by decide) (w_iload_n rfl p_lk_s1 (w_ifc_t rfl (t := 40) rfl (by decide) (w_iload_n rfl p_lk_s1 (w_ic 1 rfl rfl (w_icmp_t rfl (t := 52) rfl (by decide) (w_iload_n rfl p_lk_s1 (w_ic 2 rfl rfl (w_icmp_t rfl (t := 70) rfl (by decide) (w_aload_n rfl (w_s1 rfl rfl (by decide)) (w_getf rfl rfl e43 f9 (w_bp 24 rfl rfl ?_)))))))))))
  by_cases q24 : m = 24
  · rw [if_pos q24]
    refine w_icmp_f rfl (t := 86) rfl (by rw [q24]; decide) (w_aload_n rfl (w_s1 rfl rfl (by decide)) (w_bp 6 rfl rfl (w_virtual (dc := dd + 39) (M' := m_X3_wrong) rfl (g_vir (n := 2) rfl rfl (by simp [p_cat, p_bd, Value.category]) rfl rfl e43 rfl) rfl rfl (Nat.le_refl _) (c_wrong (f := Int32.ofNat 6) hS') ?_)))
    rintro v h3 ⟨rfl, hS3⟩
    exact w_ireturnb rfl rfl rfl ⟨rfl, fun e => absurd e (by decide), fun _ => ⟨_, _, _, _, _, _, _, hS3⟩⟩
  · rw [if_neg q24]
    refine w_icmp_t rfl (t := 86) rfl (by simp only [p_cd, decide_eq_true_eq]; rw [Int32.lt_iff_toInt_lt, g_ofNat (by omega), g_ofNat (by omega)]; omega) (w_aload_n rfl (w_s1 rfl rfl (by decide)) (w_dup rfl rfl (w_getf rfl rfl e43 f9 (w_ic 1 rfl rfl (w_addN rfl (w_putf rfl rfl e43 rfl rfl (w_flt f9) (w_aload_n rfl (w_s1 rfl rfl (by decide)) (w_ic 0 rfl rfl (w_putf rfl rfl (a_gs e43) rfl rfl (w_flt (w_fne f10 (by decide))) ?_)))))))))
    refine w_use (X := fun h => c_S h b n p u ((m + 1)) la false ml se ro fa pl) ⟨_, _, _, _, _, (a_gs (a_gs e43)), (by first | exact fl | (simp only [List.length_set]; exact fl)), (w_fne (w_fne f0 (by decide)) (by decide)), (w_fne (w_fne f1 (by decide)) (by decide)), (w_fne (w_fne f2 (by decide)) (by decide)), (w_fne (w_fne f3 (by decide)) (by decide)), ⟨(w_fne (w_fne f4 (by decide)) (by decide)), (w_fne (w_fne f5 (by decide)) (by decide)), (w_fne (w_fne f6 (by decide)) (by decide)), v7, (w_fne (w_fne f7 (by decide)) (by decide)), t1, t2, t3⟩, (w_fne (w_fne f8 (by decide)) (by decide)), (w_fne (w_fat f9) (by decide)), (w_fat (w_fne f10 (by decide))), (w_fne (w_fne f11 (by decide)) (by decide)), (w_fne (w_fne f12 (by decide)) (by decide)), (w_fne (w_fne f13 (by decide)) (by decide)), (w_fne (w_fne f14 (by decide)) (by decide)), (w_fne (w_fne f15 (by decide)) (by decide)), (w_fne (w_fne f16 (by decide)) (by decide)), (w_fne (w_fne f17 (by decide)) (by decide)), (a_ga (by decide) (a_ga (by decide) e44)), hb, (a_ga (by decide) (a_ga (by decide) e1)), (a_ga (by decide) (a_ga (by decide) e45)), (by first | exact rl | (simp only [List.length_set]; exact rl)), hrI, (a_ga (by decide) (a_ga (by decide) e46)), (by first | exact cl | (simp only [List.length_set]; exact cl)), hI⟩ (fun hS5 => ?_)
    have hpn : p < n := t_k_lt (by rw [k1]; decide)
    have hx1 := t_x_lt (b := b) hpn
    refine w_aload_n rfl (w_s1 rfl rfl (by decide)) (w_iload_n rfl p_lk_s1 (w_virtual (dc := dd + 39) (M' := m_X3_addPart) rfl (g_vir (n := 2) rfl rfl (by simp [p_cat, p_bd, Value.category]) rfl rfl (a_gs (a_gs e43)) rfl) rfl rfl (Nat.le_refl _) ((c_addPart (dd := dd) hS5).mono (by omega) (fun _ _ q => q)) ?_))
    rintro v h6 ⟨rfl, hS6⟩
    have hS6' := hS6
    obtain ⟨fs6, tp6, rw6, cw6, pa6, e436, fl6, f06, f16, f26, f36, ⟨f46, f56, f66, v76, f76, t16, t26, t36⟩, f86, f96, f106, f116, f126, f136, f146, f156, f166, f176, e446, hb6, e16, e456, rl6, hrI6, e466, cl6, hI6⟩ := hS6'
    refine w_aload_n rfl (w_s1 rfl rfl (by decide)) (w_virtual (dc := dd + 39) (M' := m_X3_step) rfl (g_vir (n := 1) rfl rfl (by simp [p_cat, p_bd, Value.category]) rfl rfl e436 rfl) rfl rfl (Nat.le_refl _) ((c_next (dd := dd) hS6 hn hp).mono (by omega) (fun _ _ q => q)) ?_)
    rintro v h7 ⟨rfl, hS7⟩
    have hS7' := hS7
    obtain ⟨fs7, tp7, rw7, cw7, pa7, e437, fl7, f07, f17, f27, f37, ⟨f47, f57, f67, v77, f77, t17, t27, t37⟩, f87, f97, f107, f117, f127, f137, f147, f157, f167, f177, e447, hb7, e17, e457, rl7, hrI7, e467, cl7, hI7⟩ := hS7'
    refine w_iload_n rfl p_lk_s1 (w_ic 2 rfl rfl (w_icmp_t rfl (t := 126) rfl (by decide) (w_aload_n rfl (w_s1 rfl rfl (by decide)) (w_iload_n rfl p_lk_s1 (w_virtual (dc := dd + 39) (M' := m_X3_readDeed) rfl (g_vir (n := 2) rfl rfl (by simp [p_cat, p_bd, Value.category]) rfl rfl e437 rfl) rfl rfl (Nat.le_refl _) ((c_deed5 (dd := dd) hS7 hn hx1.2).mono (by omega) (fun _ _ q => q)) ?_)))))
    rintro v h8 ⟨rfl, hY⟩
    have hle := t_D_le (b := b) (n := n) [(0, 0, 6)] (t_x b n p) hx1.2
    generalize t_D b n [(0, 0, 6)] (t_x b n p) = s at hY hle
    by_cases e0 : s.1 = 0
    · rw [if_neg (fun q => q e0), e0]
      have hS8 := hY.1 e0
      have hB8 : p < s.2 ∧ s.2 ≤ n := by omega
      have hS8' := hS8
      obtain ⟨fs8, tp8, rw8, cw8, pa8, e438, fl8, f08, f18, f28, f38, ⟨f48, f58, f68, v78, f78, t18, t28, t38⟩, f88, f98, f108, f118, f128, f138, f148, f158, f168, f178, e448, hb8, e18, e458, rl8, hrI8, e468, cl8, hI8⟩ := hS8'
      refine w_ifc_f rfl (t := 147) rfl (by decide) (w_aload_n rfl (w_s1 rfl rfl (by decide)) (w_bp 59 rfl rfl (w_virtual (dc := dd + 39) (M' := m_X3_takeSign) rfl (g_vir (n := 2) rfl rfl (by simp [p_cat, p_bd, Value.category]) rfl rfl e438 rfl) rfl rfl (Nat.le_refl _) ((c_takeS (c := 59) hS8 (by decide) hn hB8.2).mono (by omega) (fun _ _ q => q)) ?_)))
      rintro v h9 (⟨h59, rfl, hS9⟩ | ⟨h59, rfl, hS9⟩)
      · rw [if_pos h59]
        have hy1 := t_x_lt (b := b) (t_is_lt h59)
        exact w_ifc_f rfl (t := 147) rfl (by decide) (w_iconst rfl (w_goto rfl (t := 148) rfl (w_ireturnb rfl rfl rfl ⟨rfl, fun _ => ⟨_, _, ml, se, ro, x, y, z, hS9, hx, hy, hz, by rw [if_neg (by decide : ¬ 5 < 3)], by show p < t_x b n s.2; omega, hy1.2, by omega⟩, fun e => absurd rfl e⟩)))
      · rw [if_neg (by rw [h59]; decide)]
        exact w_ifc_t rfl (t := 147) rfl (by decide) (w_iconst rfl (w_ireturnb rfl rfl rfl ⟨rfl, fun e => absurd e (by decide), fun _ => ⟨_, _, _, _, _, _, _, hS9⟩⟩))
    · rw [if_pos e0, t_beq0 e0]
      have hS8 := hY.2 e0
      exact w_ifc_t rfl (t := 147) rfl (by decide) (w_iconst rfl (w_ireturnb rfl rfl rfl ⟨rfl, fun e => absurd e e0, fun _ => ⟨_, _, _, _, _, _, _, hS8⟩⟩))
set_option maxRecDepth 100000 in
theorem c_cl6 (hS : c_S h b n p u m la false ml se ro fa pl) (hn : n ≤ 300) (hp : p ≤ n) (hm : m ≤ 24) {x y z : Bool} (hx : c_nv ml x) (hy : c_nv se y) (hz : c_nv ro z) (hcw : t_cw b n p = 6) : p_wp p_GT p_MT (dd + 40) m_X3_readClause 0 (lv_args 0 [.ref 43]) [] h (fun v h2 => v = some (.int (l_b (Nat.beq (t_cl b n m (c_b3 x y z) p).1 0))) ∧ ((t_cl b n m (c_b3 x y z) p).1 = 0 → ∃ (u2 : Nat) (la2 : Int32) (ml2 se2 ro2 : Value) (x2 y2 z2 : Bool), c_S h2 b n (t_cl b n m (c_b3 x y z) p).2 u2 (m + 1) la2 false ml2 se2 ro2 fa pl ∧ c_nv ml2 x2 ∧ c_nv se2 y2 ∧ c_nv ro2 z2 ∧ c_b3 x2 y2 z2 = (if t_cw b n p < 3 then c_b3 x y z + 2 ^ t_cw b n p else c_b3 x y z) ∧ p < (t_cl b n m (c_b3 x y z) p).2 ∧ (t_cl b n m (c_b3 x y z) p).2 ≤ n ∧ m < 24) ∧ ((t_cl b n m (c_b3 x y z) p).1 ≠ 0 → ∃ (u2 m2 : Nat) (la2 : Int32) (sv2 : Bool) (ml2 se2 ro2 : Value), c_S h2 b n (t_cl b n m (c_b3 x y z) p).2 u2 m2 la2 sv2 ml2 se2 ro2 (.int (Int32.ofNat (t_cl b n m (c_b3 x y z) p).1)) (.int (Int32.ofNat (t_cl b n m (c_b3 x y z) p).2)))) := by
  have hS' := hS
  obtain ⟨fs, tp, rw, cw, pa, e43, fl, f0, f1, f2, f3, ⟨f4, f5, f6, v7, f7, t1, t2, t3⟩, f8, f9, f10, f11, f12, f13, f14, f15, f16, f17, e44, hb, e1, e45, rl, hrI, e46, cl, hI⟩ := hS
  have hbb : ∀ k, k < n → b k < 256 := fun k hk => (hb k (by omega)).2
  have ecl : t_cl b n m (c_b3 x y z) p = (if m = 24 then (6, p) else (if (t_D b n [(0, 0, 6)] (t_x b n p)).1 ≠ 0 then t_D b n [(0, 0, 6)] (t_x b n p) else if t_is b n (t_D b n [(0, 0, 6)] (t_x b n p)).2 59 = true then (0, t_x b n (t_D b n [(0, 0, 6)] (t_x b n p)).2) else (1, (t_D b n [(0, 0, 6)] (t_x b n p)).2))) := by unfold t_cl; rw [hcw]; rfl
  obtain ⟨-, k1, ev⟩ := (c_cw_v hp hbb t1).resolve_left (fun e => by rw [hcw] at e; exact absurd e.1 (by decide))
  rw [hcw] at ev
  subst ev
  rw [ecl, hcw]
  refine w_aload_n rfl rfl (w_getf rfl rfl e43 f7 (w_istore_n rfl (by decide) (w_aload_n rfl (w_s1 rfl rfl (by decide)) (w_getf rfl rfl e43 f6 (w_ic 1 rfl rfl (w_icmp_f rfl (t := 23) rfl (by rw [k1]; decide) (w_iload_n rfl p_lk_s1 (w_ic 0 rfl rfl (w_bp 9 rfl rfl (w_static (nn := 0) (dc := dd + 39) (M' := m_X11_within) rfl rfl rfl rfl (Nat.le_refl _) b_within ?_))))))))))
  rintro v h2 ⟨rfl, rfl⟩
  rw [if_pos (by decide)]
  refine w_ifc_t rfl (t := 29) rfl (by decide) (w_iload_n rfl p_lk_s1 (w_ifc_t rfl (t := 40) rfl (by decide) (w_iload_n rfl p_lk_s1 (w_ic 1 rfl rfl (w_icmp_t rfl (t := 52) rfl (by decide) (w_iload_n rfl p_lk_s1 (w_ic 2 rfl rfl (w_icmp_t rfl (t := 70) rfl (by decide) (w_aload_n rfl (w_s1 rfl rfl (by decide)) (w_getf rfl rfl e43 f9 (w_bp 24 rfl rfl ?_)))))))))))
  by_cases q24 : m = 24
  · rw [if_pos q24]
    refine w_icmp_f rfl (t := 86) rfl (by rw [q24]; decide) (w_aload_n rfl (w_s1 rfl rfl (by decide)) (w_bp 6 rfl rfl (w_virtual (dc := dd + 39) (M' := m_X3_wrong) rfl (g_vir (n := 2) rfl rfl (by simp [p_cat, p_bd, Value.category]) rfl rfl e43 rfl) rfl rfl (Nat.le_refl _) (c_wrong (f := Int32.ofNat 6) hS') ?_)))
    rintro v h3 ⟨rfl, hS3⟩
    exact w_ireturnb rfl rfl rfl ⟨rfl, fun e => absurd e (by decide), fun _ => ⟨_, _, _, _, _, _, _, hS3⟩⟩
  · rw [if_neg q24]
    refine w_icmp_t rfl (t := 86) rfl (by simp only [p_cd, decide_eq_true_eq]; rw [Int32.lt_iff_toInt_lt, g_ofNat (by omega), g_ofNat (by omega)]; omega) (w_aload_n rfl (w_s1 rfl rfl (by decide)) (w_dup rfl rfl (w_getf rfl rfl e43 f9 (w_ic 1 rfl rfl (w_addN rfl (w_putf rfl rfl e43 rfl rfl (w_flt f9) (w_aload_n rfl (w_s1 rfl rfl (by decide)) (w_ic 0 rfl rfl (w_putf rfl rfl (a_gs e43) rfl rfl (w_flt (w_fne f10 (by decide))) ?_)))))))))
    refine w_use (X := fun h => c_S h b n p u ((m + 1)) la false ml se ro fa pl) ⟨_, _, _, _, _, (a_gs (a_gs e43)), (by first | exact fl | (simp only [List.length_set]; exact fl)), (w_fne (w_fne f0 (by decide)) (by decide)), (w_fne (w_fne f1 (by decide)) (by decide)), (w_fne (w_fne f2 (by decide)) (by decide)), (w_fne (w_fne f3 (by decide)) (by decide)), ⟨(w_fne (w_fne f4 (by decide)) (by decide)), (w_fne (w_fne f5 (by decide)) (by decide)), (w_fne (w_fne f6 (by decide)) (by decide)), v7, (w_fne (w_fne f7 (by decide)) (by decide)), t1, t2, t3⟩, (w_fne (w_fne f8 (by decide)) (by decide)), (w_fne (w_fat f9) (by decide)), (w_fat (w_fne f10 (by decide))), (w_fne (w_fne f11 (by decide)) (by decide)), (w_fne (w_fne f12 (by decide)) (by decide)), (w_fne (w_fne f13 (by decide)) (by decide)), (w_fne (w_fne f14 (by decide)) (by decide)), (w_fne (w_fne f15 (by decide)) (by decide)), (w_fne (w_fne f16 (by decide)) (by decide)), (w_fne (w_fne f17 (by decide)) (by decide)), (a_ga (by decide) (a_ga (by decide) e44)), hb, (a_ga (by decide) (a_ga (by decide) e1)), (a_ga (by decide) (a_ga (by decide) e45)), (by first | exact rl | (simp only [List.length_set]; exact rl)), hrI, (a_ga (by decide) (a_ga (by decide) e46)), (by first | exact cl | (simp only [List.length_set]; exact cl)), hI⟩ (fun hS5 => ?_)
    have hpn : p < n := t_k_lt (by rw [k1]; decide)
    have hx1 := t_x_lt (b := b) hpn
    refine w_aload_n rfl (w_s1 rfl rfl (by decide)) (w_iload_n rfl p_lk_s1 (w_virtual (dc := dd + 39) (M' := m_X3_addPart) rfl (g_vir (n := 2) rfl rfl (by simp [p_cat, p_bd, Value.category]) rfl rfl (a_gs (a_gs e43)) rfl) rfl rfl (Nat.le_refl _) ((c_addPart (dd := dd) hS5).mono (by omega) (fun _ _ q => q)) ?_))
    rintro v h6 ⟨rfl, hS6⟩
    have hS6' := hS6
    obtain ⟨fs6, tp6, rw6, cw6, pa6, e436, fl6, f06, f16, f26, f36, ⟨f46, f56, f66, v76, f76, t16, t26, t36⟩, f86, f96, f106, f116, f126, f136, f146, f156, f166, f176, e446, hb6, e16, e456, rl6, hrI6, e466, cl6, hI6⟩ := hS6'
    refine w_aload_n rfl (w_s1 rfl rfl (by decide)) (w_virtual (dc := dd + 39) (M' := m_X3_step) rfl (g_vir (n := 1) rfl rfl (by simp [p_cat, p_bd, Value.category]) rfl rfl e436 rfl) rfl rfl (Nat.le_refl _) ((c_next (dd := dd) hS6 hn hp).mono (by omega) (fun _ _ q => q)) ?_)
    rintro v h7 ⟨rfl, hS7⟩
    have hS7' := hS7
    obtain ⟨fs7, tp7, rw7, cw7, pa7, e437, fl7, f07, f17, f27, f37, ⟨f47, f57, f67, v77, f77, t17, t27, t37⟩, f87, f97, f107, f117, f127, f137, f147, f157, f167, f177, e447, hb7, e17, e457, rl7, hrI7, e467, cl7, hI7⟩ := hS7'
    refine w_iload_n rfl p_lk_s1 (w_ic 2 rfl rfl (w_icmp_t rfl (t := 126) rfl (by decide) (w_aload_n rfl (w_s1 rfl rfl (by decide)) (w_iload_n rfl p_lk_s1 (w_virtual (dc := dd + 39) (M' := m_X3_readDeed) rfl (g_vir (n := 2) rfl rfl (by simp [p_cat, p_bd, Value.category]) rfl rfl e437 rfl) rfl rfl (Nat.le_refl _) ((c_deed6 (dd := dd) hS7 hn hx1.2).mono (by omega) (fun _ _ q => q)) ?_)))))
    rintro v h8 ⟨rfl, hY⟩
    have hle := t_D_le (b := b) (n := n) [(0, 0, 6)] (t_x b n p) hx1.2
    generalize t_D b n [(0, 0, 6)] (t_x b n p) = s at hY hle
    by_cases e0 : s.1 = 0
    · rw [if_neg (fun q => q e0), e0]
      have hS8 := hY.1 e0
      have hB8 : p < s.2 ∧ s.2 ≤ n := by omega
      have hS8' := hS8
      obtain ⟨fs8, tp8, rw8, cw8, pa8, e438, fl8, f08, f18, f28, f38, ⟨f48, f58, f68, v78, f78, t18, t28, t38⟩, f88, f98, f108, f118, f128, f138, f148, f158, f168, f178, e448, hb8, e18, e458, rl8, hrI8, e468, cl8, hI8⟩ := hS8'
      refine w_ifc_f rfl (t := 147) rfl (by decide) (w_aload_n rfl (w_s1 rfl rfl (by decide)) (w_bp 59 rfl rfl (w_virtual (dc := dd + 39) (M' := m_X3_takeSign) rfl (g_vir (n := 2) rfl rfl (by simp [p_cat, p_bd, Value.category]) rfl rfl e438 rfl) rfl rfl (Nat.le_refl _) ((c_takeS (c := 59) hS8 (by decide) hn hB8.2).mono (by omega) (fun _ _ q => q)) ?_)))
      rintro v h9 (⟨h59, rfl, hS9⟩ | ⟨h59, rfl, hS9⟩)
      · rw [if_pos h59]
        have hy1 := t_x_lt (b := b) (t_is_lt h59)
        exact w_ifc_f rfl (t := 147) rfl (by decide) (w_iconst rfl (w_goto rfl (t := 148) rfl (w_ireturnb rfl rfl rfl ⟨rfl, fun _ => ⟨_, _, ml, se, ro, x, y, z, hS9, hx, hy, hz, by rw [if_neg (by decide : ¬ 6 < 3)], by show p < t_x b n s.2; omega, hy1.2, by omega⟩, fun e => absurd rfl e⟩)))
      · rw [if_neg (by rw [h59]; decide)]
        exact w_ifc_t rfl (t := 147) rfl (by decide) (w_iconst rfl (w_ireturnb rfl rfl rfl ⟨rfl, fun e => absurd e (by decide), fun _ => ⟨_, _, _, _, _, _, _, hS9⟩⟩))
    · rw [if_pos e0, t_beq0 e0]
      have hS8 := hY.2 e0
      exact w_ifc_t rfl (t := 147) rfl (by decide) (w_iconst rfl (w_ireturnb rfl rfl rfl ⟨rfl, fun e => absurd e e0, fun _ => ⟨_, _, _, _, _, _, _, hS8⟩⟩))
set_option maxRecDepth 100000 in
theorem c_cl7 (hS : c_S h b n p u m la false ml se ro fa pl) (hn : n ≤ 300) (hp : p ≤ n) (hm : m ≤ 24) {x y z : Bool} (hx : c_nv ml x) (hy : c_nv se y) (hz : c_nv ro z) (hcw : t_cw b n p = 7) : p_wp p_GT p_MT (dd + 40) m_X3_readClause 0 (lv_args 0 [.ref 43]) [] h (fun v h2 => v = some (.int (l_b (Nat.beq (t_cl b n m (c_b3 x y z) p).1 0))) ∧ ((t_cl b n m (c_b3 x y z) p).1 = 0 → ∃ (u2 : Nat) (la2 : Int32) (ml2 se2 ro2 : Value) (x2 y2 z2 : Bool), c_S h2 b n (t_cl b n m (c_b3 x y z) p).2 u2 (m + 1) la2 false ml2 se2 ro2 fa pl ∧ c_nv ml2 x2 ∧ c_nv se2 y2 ∧ c_nv ro2 z2 ∧ c_b3 x2 y2 z2 = (if t_cw b n p < 3 then c_b3 x y z + 2 ^ t_cw b n p else c_b3 x y z) ∧ p < (t_cl b n m (c_b3 x y z) p).2 ∧ (t_cl b n m (c_b3 x y z) p).2 ≤ n ∧ m < 24) ∧ ((t_cl b n m (c_b3 x y z) p).1 ≠ 0 → ∃ (u2 m2 : Nat) (la2 : Int32) (sv2 : Bool) (ml2 se2 ro2 : Value), c_S h2 b n (t_cl b n m (c_b3 x y z) p).2 u2 m2 la2 sv2 ml2 se2 ro2 (.int (Int32.ofNat (t_cl b n m (c_b3 x y z) p).1)) (.int (Int32.ofNat (t_cl b n m (c_b3 x y z) p).2)))) := by
  have hS' := hS
  obtain ⟨fs, tp, rw, cw, pa, e43, fl, f0, f1, f2, f3, ⟨f4, f5, f6, v7, f7, t1, t2, t3⟩, f8, f9, f10, f11, f12, f13, f14, f15, f16, f17, e44, hb, e1, e45, rl, hrI, e46, cl, hI⟩ := hS
  have hbb : ∀ k, k < n → b k < 256 := fun k hk => (hb k (by omega)).2
  have ecl : t_cl b n m (c_b3 x y z) p = (if m = 24 then (6, p) else (if (t_D b n [(0, 0, 63)] (t_x b n p)).1 ≠ 0 then t_D b n [(0, 0, 63)] (t_x b n p) else if t_is b n (t_D b n [(0, 0, 63)] (t_x b n p)).2 59 = true then (0, t_x b n (t_D b n [(0, 0, 63)] (t_x b n p)).2) else (1, (t_D b n [(0, 0, 63)] (t_x b n p)).2))) := by unfold t_cl; rw [hcw]; rfl
  obtain ⟨-, k1, ev⟩ := (c_cw_v hp hbb t1).resolve_left (fun e => by rw [hcw] at e; exact absurd e.1 (by decide))
  rw [hcw] at ev
  subst ev
  rw [ecl, hcw]
  refine w_aload_n rfl rfl (w_getf rfl rfl e43 f7 (w_istore_n rfl (by decide) (w_aload_n rfl (w_s1 rfl rfl (by decide)) (w_getf rfl rfl e43 f6 (w_ic 1 rfl rfl (w_icmp_f rfl (t := 23) rfl (by rw [k1]; decide) (w_iload_n rfl p_lk_s1 (w_ic 0 rfl rfl (w_bp 9 rfl rfl (w_static (nn := 0) (dc := dd + 39) (M' := m_X11_within) rfl rfl rfl rfl (Nat.le_refl _) b_within ?_))))))))))
  rintro v h2 ⟨rfl, rfl⟩
  rw [if_pos (by decide)]
  refine w_ifc_t rfl (t := 29) rfl (by decide) (w_iload_n rfl p_lk_s1 (w_ifc_t rfl (t := 40) rfl (by decide) (w_iload_n rfl p_lk_s1 (w_ic 1 rfl rfl (w_icmp_t rfl (t := 52) rfl (by decide) (w_iload_n rfl p_lk_s1 (w_ic 2 rfl rfl (w_icmp_t rfl (t := 70) rfl (by decide) (w_aload_n rfl (w_s1 rfl rfl (by decide)) (w_getf rfl rfl e43 f9 (w_bp 24 rfl rfl ?_)))))))))))
  by_cases q24 : m = 24
  · rw [if_pos q24]
    refine w_icmp_f rfl (t := 86) rfl (by rw [q24]; decide) (w_aload_n rfl (w_s1 rfl rfl (by decide)) (w_bp 6 rfl rfl (w_virtual (dc := dd + 39) (M' := m_X3_wrong) rfl (g_vir (n := 2) rfl rfl (by simp [p_cat, p_bd, Value.category]) rfl rfl e43 rfl) rfl rfl (Nat.le_refl _) (c_wrong (f := Int32.ofNat 6) hS') ?_)))
    rintro v h3 ⟨rfl, hS3⟩
    exact w_ireturnb rfl rfl rfl ⟨rfl, fun e => absurd e (by decide), fun _ => ⟨_, _, _, _, _, _, _, hS3⟩⟩
  · rw [if_neg q24]
    refine w_icmp_t rfl (t := 86) rfl (by simp only [p_cd, decide_eq_true_eq]; rw [Int32.lt_iff_toInt_lt, g_ofNat (by omega), g_ofNat (by omega)]; omega) (w_aload_n rfl (w_s1 rfl rfl (by decide)) (w_dup rfl rfl (w_getf rfl rfl e43 f9 (w_ic 1 rfl rfl (w_addN rfl (w_putf rfl rfl e43 rfl rfl (w_flt f9) (w_aload_n rfl (w_s1 rfl rfl (by decide)) (w_ic 0 rfl rfl (w_putf rfl rfl (a_gs e43) rfl rfl (w_flt (w_fne f10 (by decide))) ?_)))))))))
    refine w_use (X := fun h => c_S h b n p u ((m + 1)) la false ml se ro fa pl) ⟨_, _, _, _, _, (a_gs (a_gs e43)), (by first | exact fl | (simp only [List.length_set]; exact fl)), (w_fne (w_fne f0 (by decide)) (by decide)), (w_fne (w_fne f1 (by decide)) (by decide)), (w_fne (w_fne f2 (by decide)) (by decide)), (w_fne (w_fne f3 (by decide)) (by decide)), ⟨(w_fne (w_fne f4 (by decide)) (by decide)), (w_fne (w_fne f5 (by decide)) (by decide)), (w_fne (w_fne f6 (by decide)) (by decide)), v7, (w_fne (w_fne f7 (by decide)) (by decide)), t1, t2, t3⟩, (w_fne (w_fne f8 (by decide)) (by decide)), (w_fne (w_fat f9) (by decide)), (w_fat (w_fne f10 (by decide))), (w_fne (w_fne f11 (by decide)) (by decide)), (w_fne (w_fne f12 (by decide)) (by decide)), (w_fne (w_fne f13 (by decide)) (by decide)), (w_fne (w_fne f14 (by decide)) (by decide)), (w_fne (w_fne f15 (by decide)) (by decide)), (w_fne (w_fne f16 (by decide)) (by decide)), (w_fne (w_fne f17 (by decide)) (by decide)), (a_ga (by decide) (a_ga (by decide) e44)), hb, (a_ga (by decide) (a_ga (by decide) e1)), (a_ga (by decide) (a_ga (by decide) e45)), (by first | exact rl | (simp only [List.length_set]; exact rl)), hrI, (a_ga (by decide) (a_ga (by decide) e46)), (by first | exact cl | (simp only [List.length_set]; exact cl)), hI⟩ (fun hS5 => ?_)
    have hpn : p < n := t_k_lt (by rw [k1]; decide)
    have hx1 := t_x_lt (b := b) hpn
    refine w_aload_n rfl (w_s1 rfl rfl (by decide)) (w_iload_n rfl p_lk_s1 (w_virtual (dc := dd + 39) (M' := m_X3_addPart) rfl (g_vir (n := 2) rfl rfl (by simp [p_cat, p_bd, Value.category]) rfl rfl (a_gs (a_gs e43)) rfl) rfl rfl (Nat.le_refl _) ((c_addPart (dd := dd) hS5).mono (by omega) (fun _ _ q => q)) ?_))
    rintro v h6 ⟨rfl, hS6⟩
    have hS6' := hS6
    obtain ⟨fs6, tp6, rw6, cw6, pa6, e436, fl6, f06, f16, f26, f36, ⟨f46, f56, f66, v76, f76, t16, t26, t36⟩, f86, f96, f106, f116, f126, f136, f146, f156, f166, f176, e446, hb6, e16, e456, rl6, hrI6, e466, cl6, hI6⟩ := hS6'
    refine w_aload_n rfl (w_s1 rfl rfl (by decide)) (w_virtual (dc := dd + 39) (M' := m_X3_step) rfl (g_vir (n := 1) rfl rfl (by simp [p_cat, p_bd, Value.category]) rfl rfl e436 rfl) rfl rfl (Nat.le_refl _) ((c_next (dd := dd) hS6 hn hp).mono (by omega) (fun _ _ q => q)) ?_)
    rintro v h7 ⟨rfl, hS7⟩
    have hS7' := hS7
    obtain ⟨fs7, tp7, rw7, cw7, pa7, e437, fl7, f07, f17, f27, f37, ⟨f47, f57, f67, v77, f77, t17, t27, t37⟩, f87, f97, f107, f117, f127, f137, f147, f157, f167, f177, e447, hb7, e17, e457, rl7, hrI7, e467, cl7, hI7⟩ := hS7'
    refine w_iload_n rfl p_lk_s1 (w_ic 2 rfl rfl (w_icmp_t rfl (t := 126) rfl (by decide) (w_aload_n rfl (w_s1 rfl rfl (by decide)) (w_iload_n rfl p_lk_s1 (w_virtual (dc := dd + 39) (M' := m_X3_readDeed) rfl (g_vir (n := 2) rfl rfl (by simp [p_cat, p_bd, Value.category]) rfl rfl e437 rfl) rfl rfl (Nat.le_refl _) ((c_deed7 (dd := dd) hS7 hn hx1.2).mono (by omega) (fun _ _ q => q)) ?_)))))
    rintro v h8 ⟨rfl, hY⟩
    have hle := t_D_le (b := b) (n := n) [(0, 0, 63)] (t_x b n p) hx1.2
    generalize t_D b n [(0, 0, 63)] (t_x b n p) = s at hY hle
    by_cases e0 : s.1 = 0
    · rw [if_neg (fun q => q e0), e0]
      have hS8 := hY.1 e0
      have hB8 : p < s.2 ∧ s.2 ≤ n := by omega
      have hS8' := hS8
      obtain ⟨fs8, tp8, rw8, cw8, pa8, e438, fl8, f08, f18, f28, f38, ⟨f48, f58, f68, v78, f78, t18, t28, t38⟩, f88, f98, f108, f118, f128, f138, f148, f158, f168, f178, e448, hb8, e18, e458, rl8, hrI8, e468, cl8, hI8⟩ := hS8'
      refine w_ifc_f rfl (t := 147) rfl (by decide) (w_aload_n rfl (w_s1 rfl rfl (by decide)) (w_bp 59 rfl rfl (w_virtual (dc := dd + 39) (M' := m_X3_takeSign) rfl (g_vir (n := 2) rfl rfl (by simp [p_cat, p_bd, Value.category]) rfl rfl e438 rfl) rfl rfl (Nat.le_refl _) ((c_takeS (c := 59) hS8 (by decide) hn hB8.2).mono (by omega) (fun _ _ q => q)) ?_)))
      rintro v h9 (⟨h59, rfl, hS9⟩ | ⟨h59, rfl, hS9⟩)
      · rw [if_pos h59]
        have hy1 := t_x_lt (b := b) (t_is_lt h59)
        exact w_ifc_f rfl (t := 147) rfl (by decide) (w_iconst rfl (w_goto rfl (t := 148) rfl (w_ireturnb rfl rfl rfl ⟨rfl, fun _ => ⟨_, _, ml, se, ro, x, y, z, hS9, hx, hy, hz, by rw [if_neg (by decide : ¬ 7 < 3)], by show p < t_x b n s.2; omega, hy1.2, by omega⟩, fun e => absurd rfl e⟩)))
      · rw [if_neg (by rw [h59]; decide)]
        exact w_ifc_t rfl (t := 147) rfl (by decide) (w_iconst rfl (w_ireturnb rfl rfl rfl ⟨rfl, fun e => absurd e (by decide), fun _ => ⟨_, _, _, _, _, _, _, hS9⟩⟩))
    · rw [if_pos e0, t_beq0 e0]
      have hS8 := hY.2 e0
      exact w_ifc_t rfl (t := 147) rfl (by decide) (w_iconst rfl (w_ireturnb rfl rfl rfl ⟨rfl, fun e => absurd e e0, fun _ => ⟨_, _, _, _, _, _, _, hS8⟩⟩))
set_option maxRecDepth 100000 in
theorem c_cl8 (hS : c_S h b n p u m la false ml se ro fa pl) (hn : n ≤ 300) (hp : p ≤ n) (hm : m ≤ 24) {x y z : Bool} (hx : c_nv ml x) (hy : c_nv se y) (hz : c_nv ro z) (hcw : t_cw b n p = 8) : p_wp p_GT p_MT (dd + 40) m_X3_readClause 0 (lv_args 0 [.ref 43]) [] h (fun v h2 => v = some (.int (l_b (Nat.beq (t_cl b n m (c_b3 x y z) p).1 0))) ∧ ((t_cl b n m (c_b3 x y z) p).1 = 0 → ∃ (u2 : Nat) (la2 : Int32) (ml2 se2 ro2 : Value) (x2 y2 z2 : Bool), c_S h2 b n (t_cl b n m (c_b3 x y z) p).2 u2 (m + 1) la2 false ml2 se2 ro2 fa pl ∧ c_nv ml2 x2 ∧ c_nv se2 y2 ∧ c_nv ro2 z2 ∧ c_b3 x2 y2 z2 = (if t_cw b n p < 3 then c_b3 x y z + 2 ^ t_cw b n p else c_b3 x y z) ∧ p < (t_cl b n m (c_b3 x y z) p).2 ∧ (t_cl b n m (c_b3 x y z) p).2 ≤ n ∧ m < 24) ∧ ((t_cl b n m (c_b3 x y z) p).1 ≠ 0 → ∃ (u2 m2 : Nat) (la2 : Int32) (sv2 : Bool) (ml2 se2 ro2 : Value), c_S h2 b n (t_cl b n m (c_b3 x y z) p).2 u2 m2 la2 sv2 ml2 se2 ro2 (.int (Int32.ofNat (t_cl b n m (c_b3 x y z) p).1)) (.int (Int32.ofNat (t_cl b n m (c_b3 x y z) p).2)))) := by
  have hS' := hS
  obtain ⟨fs, tp, rw, cw, pa, e43, fl, f0, f1, f2, f3, ⟨f4, f5, f6, v7, f7, t1, t2, t3⟩, f8, f9, f10, f11, f12, f13, f14, f15, f16, f17, e44, hb, e1, e45, rl, hrI, e46, cl, hI⟩ := hS
  have hbb : ∀ k, k < n → b k < 256 := fun k hk => (hb k (by omega)).2
  have ecl : t_cl b n m (c_b3 x y z) p = (if m = 24 then (6, p) else (if (t_D b n [(0, 1, 9), (1, 19, 0), (0, 0, 63)] (t_x b n p)).1 ≠ 0 then t_D b n [(0, 1, 9), (1, 19, 0), (0, 0, 63)] (t_x b n p) else if t_is b n (t_D b n [(0, 1, 9), (1, 19, 0), (0, 0, 63)] (t_x b n p)).2 59 = true then (0, t_x b n (t_D b n [(0, 1, 9), (1, 19, 0), (0, 0, 63)] (t_x b n p)).2) else (1, (t_D b n [(0, 1, 9), (1, 19, 0), (0, 0, 63)] (t_x b n p)).2))) := by unfold t_cl; rw [hcw]; rfl
  obtain ⟨-, k1, ev⟩ := (c_cw_v hp hbb t1).resolve_left (fun e => by rw [hcw] at e; exact absurd e.1 (by decide))
  rw [hcw] at ev
  subst ev
  rw [ecl, hcw]
  refine w_aload_n rfl rfl (w_getf rfl rfl e43 f7 (w_istore_n rfl (by decide) (w_aload_n rfl (w_s1 rfl rfl (by decide)) (w_getf rfl rfl e43 f6 (w_ic 1 rfl rfl (w_icmp_f rfl (t := 23) rfl (by rw [k1]; decide) (w_iload_n rfl p_lk_s1 (w_ic 0 rfl rfl (w_bp 9 rfl rfl (w_static (nn := 0) (dc := dd + 39) (M' := m_X11_within) rfl rfl rfl rfl (Nat.le_refl _) b_within ?_))))))))))
  rintro v h2 ⟨rfl, rfl⟩
  rw [if_pos (by decide)]
  refine w_ifc_t rfl (t := 29) rfl (by decide) (w_iload_n rfl p_lk_s1 (w_ifc_t rfl (t := 40) rfl (by decide) (w_iload_n rfl p_lk_s1 (w_ic 1 rfl rfl (w_icmp_t rfl (t := 52) rfl (by decide) (w_iload_n rfl p_lk_s1 (w_ic 2 rfl rfl (w_icmp_t rfl (t := 70) rfl (by decide) (w_aload_n rfl (w_s1 rfl rfl (by decide)) (w_getf rfl rfl e43 f9 (w_bp 24 rfl rfl ?_)))))))))))
  by_cases q24 : m = 24
  · rw [if_pos q24]
    refine w_icmp_f rfl (t := 86) rfl (by rw [q24]; decide) (w_aload_n rfl (w_s1 rfl rfl (by decide)) (w_bp 6 rfl rfl (w_virtual (dc := dd + 39) (M' := m_X3_wrong) rfl (g_vir (n := 2) rfl rfl (by simp [p_cat, p_bd, Value.category]) rfl rfl e43 rfl) rfl rfl (Nat.le_refl _) (c_wrong (f := Int32.ofNat 6) hS') ?_)))
    rintro v h3 ⟨rfl, hS3⟩
    exact w_ireturnb rfl rfl rfl ⟨rfl, fun e => absurd e (by decide), fun _ => ⟨_, _, _, _, _, _, _, hS3⟩⟩
  · rw [if_neg q24]
    refine w_icmp_t rfl (t := 86) rfl (by simp only [p_cd, decide_eq_true_eq]; rw [Int32.lt_iff_toInt_lt, g_ofNat (by omega), g_ofNat (by omega)]; omega) (w_aload_n rfl (w_s1 rfl rfl (by decide)) (w_dup rfl rfl (w_getf rfl rfl e43 f9 (w_ic 1 rfl rfl (w_addN rfl (w_putf rfl rfl e43 rfl rfl (w_flt f9) (w_aload_n rfl (w_s1 rfl rfl (by decide)) (w_ic 0 rfl rfl (w_putf rfl rfl (a_gs e43) rfl rfl (w_flt (w_fne f10 (by decide))) ?_)))))))))
    refine w_use (X := fun h => c_S h b n p u ((m + 1)) la false ml se ro fa pl) ⟨_, _, _, _, _, (a_gs (a_gs e43)), (by first | exact fl | (simp only [List.length_set]; exact fl)), (w_fne (w_fne f0 (by decide)) (by decide)), (w_fne (w_fne f1 (by decide)) (by decide)), (w_fne (w_fne f2 (by decide)) (by decide)), (w_fne (w_fne f3 (by decide)) (by decide)), ⟨(w_fne (w_fne f4 (by decide)) (by decide)), (w_fne (w_fne f5 (by decide)) (by decide)), (w_fne (w_fne f6 (by decide)) (by decide)), v7, (w_fne (w_fne f7 (by decide)) (by decide)), t1, t2, t3⟩, (w_fne (w_fne f8 (by decide)) (by decide)), (w_fne (w_fat f9) (by decide)), (w_fat (w_fne f10 (by decide))), (w_fne (w_fne f11 (by decide)) (by decide)), (w_fne (w_fne f12 (by decide)) (by decide)), (w_fne (w_fne f13 (by decide)) (by decide)), (w_fne (w_fne f14 (by decide)) (by decide)), (w_fne (w_fne f15 (by decide)) (by decide)), (w_fne (w_fne f16 (by decide)) (by decide)), (w_fne (w_fne f17 (by decide)) (by decide)), (a_ga (by decide) (a_ga (by decide) e44)), hb, (a_ga (by decide) (a_ga (by decide) e1)), (a_ga (by decide) (a_ga (by decide) e45)), (by first | exact rl | (simp only [List.length_set]; exact rl)), hrI, (a_ga (by decide) (a_ga (by decide) e46)), (by first | exact cl | (simp only [List.length_set]; exact cl)), hI⟩ (fun hS5 => ?_)
    have hpn : p < n := t_k_lt (by rw [k1]; decide)
    have hx1 := t_x_lt (b := b) hpn
    refine w_aload_n rfl (w_s1 rfl rfl (by decide)) (w_iload_n rfl p_lk_s1 (w_virtual (dc := dd + 39) (M' := m_X3_addPart) rfl (g_vir (n := 2) rfl rfl (by simp [p_cat, p_bd, Value.category]) rfl rfl (a_gs (a_gs e43)) rfl) rfl rfl (Nat.le_refl _) ((c_addPart (dd := dd) hS5).mono (by omega) (fun _ _ q => q)) ?_))
    rintro v h6 ⟨rfl, hS6⟩
    have hS6' := hS6
    obtain ⟨fs6, tp6, rw6, cw6, pa6, e436, fl6, f06, f16, f26, f36, ⟨f46, f56, f66, v76, f76, t16, t26, t36⟩, f86, f96, f106, f116, f126, f136, f146, f156, f166, f176, e446, hb6, e16, e456, rl6, hrI6, e466, cl6, hI6⟩ := hS6'
    refine w_aload_n rfl (w_s1 rfl rfl (by decide)) (w_virtual (dc := dd + 39) (M' := m_X3_step) rfl (g_vir (n := 1) rfl rfl (by simp [p_cat, p_bd, Value.category]) rfl rfl e436 rfl) rfl rfl (Nat.le_refl _) ((c_next (dd := dd) hS6 hn hp).mono (by omega) (fun _ _ q => q)) ?_)
    rintro v h7 ⟨rfl, hS7⟩
    have hS7' := hS7
    obtain ⟨fs7, tp7, rw7, cw7, pa7, e437, fl7, f07, f17, f27, f37, ⟨f47, f57, f67, v77, f77, t17, t27, t37⟩, f87, f97, f107, f117, f127, f137, f147, f157, f167, f177, e447, hb7, e17, e457, rl7, hrI7, e467, cl7, hI7⟩ := hS7'
    refine w_iload_n rfl p_lk_s1 (w_ic 2 rfl rfl (w_icmp_t rfl (t := 126) rfl (by decide) (w_aload_n rfl (w_s1 rfl rfl (by decide)) (w_iload_n rfl p_lk_s1 (w_virtual (dc := dd + 39) (M' := m_X3_readDeed) rfl (g_vir (n := 2) rfl rfl (by simp [p_cat, p_bd, Value.category]) rfl rfl e437 rfl) rfl rfl (Nat.le_refl _) ((c_deed8 (dd := dd) hS7 hn hx1.2).mono (by omega) (fun _ _ q => q)) ?_)))))
    rintro v h8 ⟨rfl, hY⟩
    have hle := t_D_le (b := b) (n := n) [(0, 1, 9), (1, 19, 0), (0, 0, 63)] (t_x b n p) hx1.2
    generalize t_D b n [(0, 1, 9), (1, 19, 0), (0, 0, 63)] (t_x b n p) = s at hY hle
    by_cases e0 : s.1 = 0
    · rw [if_neg (fun q => q e0), e0]
      have hS8 := hY.1 e0
      have hB8 : p < s.2 ∧ s.2 ≤ n := by omega
      have hS8' := hS8
      obtain ⟨fs8, tp8, rw8, cw8, pa8, e438, fl8, f08, f18, f28, f38, ⟨f48, f58, f68, v78, f78, t18, t28, t38⟩, f88, f98, f108, f118, f128, f138, f148, f158, f168, f178, e448, hb8, e18, e458, rl8, hrI8, e468, cl8, hI8⟩ := hS8'
      refine w_ifc_f rfl (t := 147) rfl (by decide) (w_aload_n rfl (w_s1 rfl rfl (by decide)) (w_bp 59 rfl rfl (w_virtual (dc := dd + 39) (M' := m_X3_takeSign) rfl (g_vir (n := 2) rfl rfl (by simp [p_cat, p_bd, Value.category]) rfl rfl e438 rfl) rfl rfl (Nat.le_refl _) ((c_takeS (c := 59) hS8 (by decide) hn hB8.2).mono (by omega) (fun _ _ q => q)) ?_)))
      rintro v h9 (⟨h59, rfl, hS9⟩ | ⟨h59, rfl, hS9⟩)
      · rw [if_pos h59]
        have hy1 := t_x_lt (b := b) (t_is_lt h59)
        exact w_ifc_f rfl (t := 147) rfl (by decide) (w_iconst rfl (w_goto rfl (t := 148) rfl (w_ireturnb rfl rfl rfl ⟨rfl, fun _ => ⟨_, _, ml, se, ro, x, y, z, hS9, hx, hy, hz, by rw [if_neg (by decide : ¬ 8 < 3)], by show p < t_x b n s.2; omega, hy1.2, by omega⟩, fun e => absurd rfl e⟩)))
      · rw [if_neg (by rw [h59]; decide)]
        exact w_ifc_t rfl (t := 147) rfl (by decide) (w_iconst rfl (w_ireturnb rfl rfl rfl ⟨rfl, fun e => absurd e (by decide), fun _ => ⟨_, _, _, _, _, _, _, hS9⟩⟩))
    · rw [if_pos e0, t_beq0 e0]
      have hS8 := hY.2 e0
      exact w_ifc_t rfl (t := 147) rfl (by decide) (w_iconst rfl (w_ireturnb rfl rfl rfl ⟨rfl, fun e => absurd e e0, fun _ => ⟨_, _, _, _, _, _, _, hS8⟩⟩))
set_option maxRecDepth 100000 in
theorem c_cl9 (hS : c_S h b n p u m la false ml se ro fa pl) (hn : n ≤ 300) (hp : p ≤ n) (hm : m ≤ 24) {x y z : Bool} (hx : c_nv ml x) (hy : c_nv se y) (hz : c_nv ro z) (hcw : t_cw b n p = 9) : p_wp p_GT p_MT (dd + 40) m_X3_readClause 0 (lv_args 0 [.ref 43]) [] h (fun v h2 => v = some (.int (l_b (Nat.beq (t_cl b n m (c_b3 x y z) p).1 0))) ∧ ((t_cl b n m (c_b3 x y z) p).1 = 0 → ∃ (u2 : Nat) (la2 : Int32) (ml2 se2 ro2 : Value) (x2 y2 z2 : Bool), c_S h2 b n (t_cl b n m (c_b3 x y z) p).2 u2 (m + 1) la2 false ml2 se2 ro2 fa pl ∧ c_nv ml2 x2 ∧ c_nv se2 y2 ∧ c_nv ro2 z2 ∧ c_b3 x2 y2 z2 = (if t_cw b n p < 3 then c_b3 x y z + 2 ^ t_cw b n p else c_b3 x y z) ∧ p < (t_cl b n m (c_b3 x y z) p).2 ∧ (t_cl b n m (c_b3 x y z) p).2 ≤ n ∧ m < 24) ∧ ((t_cl b n m (c_b3 x y z) p).1 ≠ 0 → ∃ (u2 m2 : Nat) (la2 : Int32) (sv2 : Bool) (ml2 se2 ro2 : Value), c_S h2 b n (t_cl b n m (c_b3 x y z) p).2 u2 m2 la2 sv2 ml2 se2 ro2 (.int (Int32.ofNat (t_cl b n m (c_b3 x y z) p).1)) (.int (Int32.ofNat (t_cl b n m (c_b3 x y z) p).2)))) := by
  have hS' := hS
  obtain ⟨fs, tp, rw, cw, pa, e43, fl, f0, f1, f2, f3, ⟨f4, f5, f6, v7, f7, t1, t2, t3⟩, f8, f9, f10, f11, f12, f13, f14, f15, f16, f17, e44, hb, e1, e45, rl, hrI, e46, cl, hI⟩ := hS
  have hbb : ∀ k, k < n → b k < 256 := fun k hk => (hb k (by omega)).2
  have ecl : t_cl b n m (c_b3 x y z) p = (if m = 24 then (6, p) else (if (t_D b n [(0, 1, 60)] (t_x b n p)).1 ≠ 0 then t_D b n [(0, 1, 60)] (t_x b n p) else if t_is b n (t_D b n [(0, 1, 60)] (t_x b n p)).2 59 = true then (0, t_x b n (t_D b n [(0, 1, 60)] (t_x b n p)).2) else (1, (t_D b n [(0, 1, 60)] (t_x b n p)).2))) := by unfold t_cl; rw [hcw]; rfl
  obtain ⟨-, k1, ev⟩ := (c_cw_v hp hbb t1).resolve_left (fun e => by rw [hcw] at e; exact absurd e.1 (by decide))
  rw [hcw] at ev
  subst ev
  rw [ecl, hcw]
  refine w_aload_n rfl rfl (w_getf rfl rfl e43 f7 (w_istore_n rfl (by decide) (w_aload_n rfl (w_s1 rfl rfl (by decide)) (w_getf rfl rfl e43 f6 (w_ic 1 rfl rfl (w_icmp_f rfl (t := 23) rfl (by rw [k1]; decide) (w_iload_n rfl p_lk_s1 (w_ic 0 rfl rfl (w_bp 9 rfl rfl (w_static (nn := 0) (dc := dd + 39) (M' := m_X11_within) rfl rfl rfl rfl (Nat.le_refl _) b_within ?_))))))))))
  rintro v h2 ⟨rfl, rfl⟩
  rw [if_pos (by decide)]
  refine w_ifc_t rfl (t := 29) rfl (by decide) (w_iload_n rfl p_lk_s1 (w_ifc_t rfl (t := 40) rfl (by decide) (w_iload_n rfl p_lk_s1 (w_ic 1 rfl rfl (w_icmp_t rfl (t := 52) rfl (by decide) (w_iload_n rfl p_lk_s1 (w_ic 2 rfl rfl (w_icmp_t rfl (t := 70) rfl (by decide) (w_aload_n rfl (w_s1 rfl rfl (by decide)) (w_getf rfl rfl e43 f9 (w_bp 24 rfl rfl ?_)))))))))))
  by_cases q24 : m = 24
  · rw [if_pos q24]
    refine w_icmp_f rfl (t := 86) rfl (by rw [q24]; decide) (w_aload_n rfl (w_s1 rfl rfl (by decide)) (w_bp 6 rfl rfl (w_virtual (dc := dd + 39) (M' := m_X3_wrong) rfl (g_vir (n := 2) rfl rfl (by simp [p_cat, p_bd, Value.category]) rfl rfl e43 rfl) rfl rfl (Nat.le_refl _) (c_wrong (f := Int32.ofNat 6) hS') ?_)))
    rintro v h3 ⟨rfl, hS3⟩
    exact w_ireturnb rfl rfl rfl ⟨rfl, fun e => absurd e (by decide), fun _ => ⟨_, _, _, _, _, _, _, hS3⟩⟩
  · rw [if_neg q24]
    refine w_icmp_t rfl (t := 86) rfl (by simp only [p_cd, decide_eq_true_eq]; rw [Int32.lt_iff_toInt_lt, g_ofNat (by omega), g_ofNat (by omega)]; omega) (w_aload_n rfl (w_s1 rfl rfl (by decide)) (w_dup rfl rfl (w_getf rfl rfl e43 f9 (w_ic 1 rfl rfl (w_addN rfl (w_putf rfl rfl e43 rfl rfl (w_flt f9) (w_aload_n rfl (w_s1 rfl rfl (by decide)) (w_ic 0 rfl rfl (w_putf rfl rfl (a_gs e43) rfl rfl (w_flt (w_fne f10 (by decide))) ?_)))))))))
    refine w_use (X := fun h => c_S h b n p u ((m + 1)) la false ml se ro fa pl) ⟨_, _, _, _, _, (a_gs (a_gs e43)), (by first | exact fl | (simp only [List.length_set]; exact fl)), (w_fne (w_fne f0 (by decide)) (by decide)), (w_fne (w_fne f1 (by decide)) (by decide)), (w_fne (w_fne f2 (by decide)) (by decide)), (w_fne (w_fne f3 (by decide)) (by decide)), ⟨(w_fne (w_fne f4 (by decide)) (by decide)), (w_fne (w_fne f5 (by decide)) (by decide)), (w_fne (w_fne f6 (by decide)) (by decide)), v7, (w_fne (w_fne f7 (by decide)) (by decide)), t1, t2, t3⟩, (w_fne (w_fne f8 (by decide)) (by decide)), (w_fne (w_fat f9) (by decide)), (w_fat (w_fne f10 (by decide))), (w_fne (w_fne f11 (by decide)) (by decide)), (w_fne (w_fne f12 (by decide)) (by decide)), (w_fne (w_fne f13 (by decide)) (by decide)), (w_fne (w_fne f14 (by decide)) (by decide)), (w_fne (w_fne f15 (by decide)) (by decide)), (w_fne (w_fne f16 (by decide)) (by decide)), (w_fne (w_fne f17 (by decide)) (by decide)), (a_ga (by decide) (a_ga (by decide) e44)), hb, (a_ga (by decide) (a_ga (by decide) e1)), (a_ga (by decide) (a_ga (by decide) e45)), (by first | exact rl | (simp only [List.length_set]; exact rl)), hrI, (a_ga (by decide) (a_ga (by decide) e46)), (by first | exact cl | (simp only [List.length_set]; exact cl)), hI⟩ (fun hS5 => ?_)
    have hpn : p < n := t_k_lt (by rw [k1]; decide)
    have hx1 := t_x_lt (b := b) hpn
    refine w_aload_n rfl (w_s1 rfl rfl (by decide)) (w_iload_n rfl p_lk_s1 (w_virtual (dc := dd + 39) (M' := m_X3_addPart) rfl (g_vir (n := 2) rfl rfl (by simp [p_cat, p_bd, Value.category]) rfl rfl (a_gs (a_gs e43)) rfl) rfl rfl (Nat.le_refl _) ((c_addPart (dd := dd) hS5).mono (by omega) (fun _ _ q => q)) ?_))
    rintro v h6 ⟨rfl, hS6⟩
    have hS6' := hS6
    obtain ⟨fs6, tp6, rw6, cw6, pa6, e436, fl6, f06, f16, f26, f36, ⟨f46, f56, f66, v76, f76, t16, t26, t36⟩, f86, f96, f106, f116, f126, f136, f146, f156, f166, f176, e446, hb6, e16, e456, rl6, hrI6, e466, cl6, hI6⟩ := hS6'
    refine w_aload_n rfl (w_s1 rfl rfl (by decide)) (w_virtual (dc := dd + 39) (M' := m_X3_step) rfl (g_vir (n := 1) rfl rfl (by simp [p_cat, p_bd, Value.category]) rfl rfl e436 rfl) rfl rfl (Nat.le_refl _) ((c_next (dd := dd) hS6 hn hp).mono (by omega) (fun _ _ q => q)) ?_)
    rintro v h7 ⟨rfl, hS7⟩
    have hS7' := hS7
    obtain ⟨fs7, tp7, rw7, cw7, pa7, e437, fl7, f07, f17, f27, f37, ⟨f47, f57, f67, v77, f77, t17, t27, t37⟩, f87, f97, f107, f117, f127, f137, f147, f157, f167, f177, e447, hb7, e17, e457, rl7, hrI7, e467, cl7, hI7⟩ := hS7'
    refine w_iload_n rfl p_lk_s1 (w_ic 2 rfl rfl (w_icmp_t rfl (t := 126) rfl (by decide) (w_aload_n rfl (w_s1 rfl rfl (by decide)) (w_iload_n rfl p_lk_s1 (w_virtual (dc := dd + 39) (M' := m_X3_readDeed) rfl (g_vir (n := 2) rfl rfl (by simp [p_cat, p_bd, Value.category]) rfl rfl e437 rfl) rfl rfl (Nat.le_refl _) ((c_deed9 (dd := dd) hS7 hn hx1.2).mono (by omega) (fun _ _ q => q)) ?_)))))
    rintro v h8 ⟨rfl, hY⟩
    have hle := t_D_le (b := b) (n := n) [(0, 1, 60)] (t_x b n p) hx1.2
    generalize t_D b n [(0, 1, 60)] (t_x b n p) = s at hY hle
    by_cases e0 : s.1 = 0
    · rw [if_neg (fun q => q e0), e0]
      have hS8 := hY.1 e0
      have hB8 : p < s.2 ∧ s.2 ≤ n := by omega
      have hS8' := hS8
      obtain ⟨fs8, tp8, rw8, cw8, pa8, e438, fl8, f08, f18, f28, f38, ⟨f48, f58, f68, v78, f78, t18, t28, t38⟩, f88, f98, f108, f118, f128, f138, f148, f158, f168, f178, e448, hb8, e18, e458, rl8, hrI8, e468, cl8, hI8⟩ := hS8'
      refine w_ifc_f rfl (t := 147) rfl (by decide) (w_aload_n rfl (w_s1 rfl rfl (by decide)) (w_bp 59 rfl rfl (w_virtual (dc := dd + 39) (M' := m_X3_takeSign) rfl (g_vir (n := 2) rfl rfl (by simp [p_cat, p_bd, Value.category]) rfl rfl e438 rfl) rfl rfl (Nat.le_refl _) ((c_takeS (c := 59) hS8 (by decide) hn hB8.2).mono (by omega) (fun _ _ q => q)) ?_)))
      rintro v h9 (⟨h59, rfl, hS9⟩ | ⟨h59, rfl, hS9⟩)
      · rw [if_pos h59]
        have hy1 := t_x_lt (b := b) (t_is_lt h59)
        exact w_ifc_f rfl (t := 147) rfl (by decide) (w_iconst rfl (w_goto rfl (t := 148) rfl (w_ireturnb rfl rfl rfl ⟨rfl, fun _ => ⟨_, _, ml, se, ro, x, y, z, hS9, hx, hy, hz, by rw [if_neg (by decide : ¬ 9 < 3)], by show p < t_x b n s.2; omega, hy1.2, by omega⟩, fun e => absurd rfl e⟩)))
      · rw [if_neg (by rw [h59]; decide)]
        exact w_ifc_t rfl (t := 147) rfl (by decide) (w_iconst rfl (w_ireturnb rfl rfl rfl ⟨rfl, fun e => absurd e (by decide), fun _ => ⟨_, _, _, _, _, _, _, hS9⟩⟩))
    · rw [if_pos e0, t_beq0 e0]
      have hS8 := hY.2 e0
      exact w_ifc_t rfl (t := 147) rfl (by decide) (w_iconst rfl (w_ireturnb rfl rfl rfl ⟨rfl, fun e => absurd e e0, fun _ => ⟨_, _, _, _, _, _, _, hS8⟩⟩))
theorem c_clause (hS : c_S h b n p u m la false ml se ro fa pl) (hn : n ≤ 300) (hp : p ≤ n) (hm : m ≤ 24) {x y z : Bool} (hx : c_nv ml x) (hy : c_nv se y) (hz : c_nv ro z) : p_wp p_GT p_MT (dd + 40) m_X3_readClause 0 (lv_args 0 [.ref 43]) [] h (fun v h2 => v = some (.int (l_b (Nat.beq (t_cl b n m (c_b3 x y z) p).1 0))) ∧ ((t_cl b n m (c_b3 x y z) p).1 = 0 → ∃ (u2 : Nat) (la2 : Int32) (ml2 se2 ro2 : Value) (x2 y2 z2 : Bool), c_S h2 b n (t_cl b n m (c_b3 x y z) p).2 u2 (m + 1) la2 false ml2 se2 ro2 fa pl ∧ c_nv ml2 x2 ∧ c_nv se2 y2 ∧ c_nv ro2 z2 ∧ c_b3 x2 y2 z2 = (if t_cw b n p < 3 then c_b3 x y z + 2 ^ t_cw b n p else c_b3 x y z) ∧ p < (t_cl b n m (c_b3 x y z) p).2 ∧ (t_cl b n m (c_b3 x y z) p).2 ≤ n ∧ m < 24) ∧ ((t_cl b n m (c_b3 x y z) p).1 ≠ 0 → ∃ (u2 m2 : Nat) (la2 : Int32) (sv2 : Bool) (ml2 se2 ro2 : Value), c_S h2 b n (t_cl b n m (c_b3 x y z) p).2 u2 m2 la2 sv2 ml2 se2 ro2 (.int (Int32.ofNat (t_cl b n m (c_b3 x y z) p).1)) (.int (Int32.ofNat (t_cl b n m (c_b3 x y z) p).2)))) := by
  have hc := t_cw_le (b := b) (n := n) (p := p)
  have : t_cw b n p = 0 ∨ t_cw b n p = 1 ∨ t_cw b n p = 2 ∨ t_cw b n p = 3 ∨ t_cw b n p = 4 ∨ t_cw b n p = 5 ∨ t_cw b n p = 6 ∨ t_cw b n p = 7 ∨ t_cw b n p = 8 ∨ t_cw b n p = 9 ∨ t_cw b n p = 10 := by omega
  rcases this with q | q | q | q | q | q | q | q | q | q | q
  · exact c_cl0 hS hn hp hm hx hy hz q
  · exact c_cl1 hS hn hp hm hx hy hz q
  · exact c_cl2 hS hn hp hm hx hy hz q
  · exact c_cl3 hS hn hp hm hx hy hz q
  · exact c_cl4 hS hn hp hm hx hy hz q
  · exact c_cl5 hS hn hp hm hx hy hz q
  · exact c_cl6 hS hn hp hm hx hy hz q
  · exact c_cl7 hS hn hp hm hx hy hz q
  · exact c_cl8 hS hn hp hm hx hy hz q
  · exact c_cl9 hS hn hp hm hx hy hz q
  · exact c_clno hS hn hp hm hx hy hz q
end RS13

/-! THE CLASS READS A TEXT -/
section RS14
variable {dd n : Nat} {fa pl : Value} {b : Nat → Nat} {Q : Option Value → p_H → Prop}
theorem c_nv_rf {v : Value} {x : Bool} (h : c_nv v x) : g_rf v := by
  cases x with
  | false => exact Or.inl h
  | true => exact Or.inr h
set_option maxRecDepth 100000 in
theorem c_readl (hn : n ≤ 300) : ∀ f m p u la ml se ro x y z (h : p_H) (ls : p_Ls) (r : Nat × Nat), t_tx b n f m (c_b3 x y z) p = r → 25 < f + m → p ≤ n → m ≤ 24 → c_S h b n p u m la false ml se ro fa pl → c_nv ml x → c_nv se y → c_nv ro z → p_lk 0 ls = some (.ref 43) → p_lk 1 ls = some (.int (l_b true)) → p_lk 2 ls = some (.int (Int32.ofNat m)) → (∀ (h2 : p_H) (ls2 : p_Ls), (∃ (u2 m2 : Nat) (la2 : Int32) (ml2 se2 ro2 : Value) (x2 y2 z2 : Bool), c_S h2 b n r.2 u2 m2 la2 false ml2 se2 ro2 fa pl ∧ c_nv ml2 x2 ∧ c_nv se2 y2 ∧ c_nv ro2 z2 ∧ m2 ≤ 24) → r.1 = 0 → p_lk 0 ls2 = some (.ref 43) → p_lk 1 ls2 = some (.int (l_b true)) → p_wp p_GT p_MT (dd + 41) m_X3_read 76 ls2 [] h2 Q) → (∀ (h2 : p_H) (ls2 : p_Ls), (∃ (u2 m2 : Nat) (la2 : Int32) (sv2 : Bool) (ml2 se2 ro2 : Value), c_S h2 b n r.2 u2 m2 la2 sv2 ml2 se2 ro2 (.int (Int32.ofNat r.1)) (.int (Int32.ofNat r.2))) → r.1 ≠ 0 → p_lk 0 ls2 = some (.ref 43) → p_lk 1 ls2 = some (.int (l_b false)) → p_wp p_GT p_MT (dd + 41) m_X3_read 76 ls2 [] h2 Q) → p_wp p_GT p_MT (dd + 41) m_X3_read 48 ls [] h Q := by
  intro f
  induction f with
  | zero => intro m p u la ml se ro x y z h ls r hr hf hp hm; omega
  | succ f ih =>
    intro m p u la ml se ro x y z h ls r hr hf hp hm hS hx hy hz l0 l1 l2 K0 K1
    have hS' := hS
    obtain ⟨fs, tp, rw, cw, pa, e43, fl, f0, f1, f2, f3, ⟨f4, f5, f6, v7, f7, t1, t2, t3⟩, f8, f9, f10, f11, f12, f13, f14, f15, f16, f17, e44, hb, e1, e45, rl, hrI, e46, cl, hI⟩ := hS
    have hk4 : t_k b n p < 4 := by unfold t_k; (repeat' split) <;> omega
    have etx : t_tx b n (f + 1) m (c_b3 x y z) p = (if t_k b n p = 0 then (0, p) else if (t_cl b n m (c_b3 x y z) p).1 ≠ 0 then t_cl b n m (c_b3 x y z) p else t_tx b n f (m + 1) (if t_cw b n p < 3 then c_b3 x y z + 2 ^ t_cw b n p else c_b3 x y z) (t_cl b n m (c_b3 x y z) p).2) := rfl
    rw [etx] at hr
    by_cases q0 : t_k b n p = 0
    · rw [if_pos q0] at hr
      subst hr
      exact w_iload_n rfl l2 (w_bp 24 rfl rfl (w_icmp_f rfl (t := 76) rfl (by simp only [p_cd, decide_eq_false_iff_not]; rw [Int32.lt_iff_toInt_lt, g_ofNat (by omega), g_ofNat (by omega)]; omega) (w_iload_n rfl l1 (w_ifc_f rfl (t := 76) rfl (by decide) (w_aload_n rfl l0 (w_getf rfl rfl e43 f6 (w_ifc_t rfl (t := 76) rfl (by rw [q0]; decide) (K0 _ _ ⟨_, _, _, _, _, _, _, _, _, hS', hx, hy, hz, hm⟩ rfl l0 l1))))))))
    · rw [if_neg q0] at hr
      refine w_iload_n rfl l2 (w_bp 24 rfl rfl (w_icmp_f rfl (t := 76) rfl (by simp only [p_cd, decide_eq_false_iff_not]; rw [Int32.lt_iff_toInt_lt, g_ofNat (by omega), g_ofNat (by omega)]; omega) (w_iload_n rfl l1 (w_ifc_f rfl (t := 76) rfl (by decide) (w_aload_n rfl l0 (w_getf rfl rfl e43 f6 (w_ifc_f rfl (t := 76) rfl (by simp only [p_cd, decide_eq_false_iff_not]; exact b_ofNat_ne (b := 0) (by omega) (by omega) q0) (w_aload_n rfl l0 (w_virtual (dc := dd + 40) (M' := m_X3_readClause) rfl (g_vir (n := 1) rfl rfl (by simp [p_cat, p_bd, Value.category]) rfl rfl e43 rfl) rfl rfl (Nat.le_refl _) (c_clause (dd := dd) hS' hn hp hm hx hy hz) ?_)))))))))
      rintro v h2 ⟨rfl, hY, hN⟩
      refine w_istore_n rfl (by decide) (w_iincN rfl (w_s1 l2 rfl (by decide)) (by decide) (w_goto rfl (t := 48) rfl ?_))
      by_cases e1 : (t_cl b n m (c_b3 x y z) p).1 = 0
      · rw [if_neg (fun q => q e1)] at hr
        obtain ⟨u2, la2, ml2, se2, ro2, x2, y2, z2, hS2, hx2, hy2, hz2, hb3, hp2, hpn, hm2⟩ := hY e1
        rw [← hb3] at hr
        refine ih (m + 1) _ u2 la2 ml2 se2 ro2 x2 y2 z2 h2 _ r hr (by omega) hpn (by omega) hS2 hx2 hy2 hz2 (w_s1 (w_s1 l0 rfl (by decide)) rfl (by decide)) ?_ p_lk_s1 K0 K1
        rw [e1]; exact (w_s1 p_lk_s1 rfl (by decide))
      · rw [if_pos e1] at hr
        subst hr
        obtain ⟨u2, m2, la2, sv2, ml2, se2, ro2, hS2⟩ := hN e1
        rw [t_beq0 e1]
        by_cases q25 : m + 1 ≤ 24
        · exact w_iload_n rfl p_lk_s1 (w_bp 24 rfl rfl (w_icmp_f rfl (t := 76) rfl (by simp only [p_cd, decide_eq_false_iff_not]; rw [Int32.lt_iff_toInt_lt, g_ofNat (by omega), g_ofNat (by omega)]; omega) (w_iload_n rfl (w_s1 p_lk_s1 rfl (by decide)) (w_ifc_t rfl (t := 76) rfl (by decide) (K1 _ _ ⟨_, _, _, _, _, _, _, hS2⟩ e1 (w_s1 (w_s1 l0 rfl (by decide)) rfl (by decide)) (w_s1 p_lk_s1 rfl (by decide)))))))
        · exact w_iload_n rfl p_lk_s1 (w_bp 24 rfl rfl (w_icmp_t rfl (t := 76) rfl (by simp only [p_cd, decide_eq_true_eq]; rw [Int32.lt_iff_toInt_lt, g_ofNat (by omega), g_ofNat (by omega)]; omega) (K1 _ _ ⟨_, _, _, _, _, _, _, hS2⟩ e1 (w_s1 (w_s1 l0 rfl (by decide)) rfl (by decide)) (w_s1 p_lk_s1 rfl (by decide)))))
section WNU
variable {G : p_G} {MT : List p_M} {M : p_M} {d pc l : Nat} {ls : p_Ls} {st : List Value} {h : p_H}
theorem w_nul (hat : p_at pc M.2.2.2.2.1 = some (.aconst_null, l)) (hk : p_wp G MT d M (pc + 1) ls (.null :: st) h Q) : p_wp G MT d M pc ls st h Q := p_wp.step hat rfl hk
theorem w_aretn {N : String} (hat : p_at pc M.2.2.2.2.1 = some (.areturn, l)) (hr : M.2.2.2.1 = some (.object N)) (hq : Q (some .null) h) : p_wp G MT d M pc ls [.null] h Q :=
  p_wp.ret hat (by simp only [p_step, p_ret, hr]) hq
end WNU
theorem c_read_no {h : p_H} {p u m : Nat} {la : Int32} {sv : Bool} {ml se ro : Value} {ls : p_Ls} {r : Nat × Nat} (hS : c_S h b n p u m la sv ml se ro (.int (Int32.ofNat r.1)) (.int (Int32.ofNat r.2))) (e0 : r.1 ≠ 0) (l0 : p_lk 0 ls = some (.ref 43)) (l1 : p_lk 1 ls = some (.int (l_b false))) : p_wp p_GT p_MT dd m_X3_read 76 ls [] h (fun v h2 => (if r.1 = 0 then ∃ a, v = some (.ref a) else v = some .null) ∧ ∃ fs2 : List Value, h2[43]? = some (0, 3, fs2) ∧ fs2[1]? = some (.int (Int32.ofNat 0)) ∧ fs2[2]? = some (.int (Int32.ofNat r.1)) ∧ fs2[3]? = some (.int (if r.1 = 0 then Int32.ofInt (-1) else Int32.ofNat r.2))) := by
  obtain ⟨fs, tp, rw, cw, pa, e43, fl, f0, f1, f2, f3, ⟨f4, f5, f6, v7, f7, t1, t2, t3⟩, f8, f9, f10, f11, f12, f13, f14, f15, f16, f17, e44, hb, e1, e45, rl, hrI, e46, cl, hI⟩ := hS
  simp only [if_neg e0]
  exact w_aload_n rfl l0 (w_ic 0 rfl rfl (w_putf rfl rfl e43 rfl rfl (w_flt f1) (w_iload_n rfl l1 (w_ifc_t rfl (t := 125) rfl (by decide) (w_nul rfl (w_aretn rfl rfl ⟨rfl, _, (a_gs e43), (w_fat f1), (w_fne f2 (by decide)), by first | exact (w_fne f3 (by decide)) | (rw [if_neg e0]; exact (w_fne f3 (by decide)))⟩))))))
set_option maxRecDepth 100000 in
theorem c_read_yes {h : p_H} {p u m : Nat} {la : Int32} {sv : Bool} {ml se ro : Value} {x y z : Bool} {ls : p_Ls} {r : Nat × Nat} (hS : c_S h b n p u m la sv ml se ro (.int (Int32.ofNat 0)) (.int (Int32.ofInt (-1)))) (hx : c_nv ml x) (hy : c_nv se y) (hz : c_nv ro z) (hm : m ≤ 24) (e0 : r.1 = 0) (l0 : p_lk 0 ls = some (.ref 43)) (l1 : p_lk 1 ls = some (.int (l_b true))) : p_wp p_GT p_MT (dd + 3) m_X3_read 76 ls [] h (fun v h2 => (if r.1 = 0 then ∃ a, v = some (.ref a) else v = some .null) ∧ ∃ fs2 : List Value, h2[43]? = some (0, 3, fs2) ∧ fs2[1]? = some (.int (Int32.ofNat 0)) ∧ fs2[2]? = some (.int (Int32.ofNat r.1)) ∧ fs2[3]? = some (.int (if r.1 = 0 then Int32.ofInt (-1) else Int32.ofNat r.2))) := by
  obtain ⟨fs, tp, rw, cw, pa, e43, fl, f0, f1, f2, f3, ⟨f4, f5, f6, v7, f7, t1, t2, t3⟩, f8, f9, f10, f11, f12, f13, f14, f15, f16, f17, e44, hb, e1, e45, rl, hrI, e46, cl, hI⟩ := hS
  simp only [if_pos e0]
  have g11 := c_nv_rf hx
  have g12 := c_nv_rf hy
  have g13 := c_nv_rf hz
  refine w_aload_n rfl l0 (w_ic 0 rfl rfl (w_putf rfl rfl e43 rfl rfl (w_flt f1) (w_iload_n rfl l1 (w_ifc_f rfl (t := 125) rfl (by decide) ?_))))
  generalize hg : h.set 43 (0, 3, fs.set (Int.toNat 1) (.int (Int32.ofNat 0))) = g
  have c43' : g[43]? = some (0, 3, fs.set 1 (.int (Int32.ofNat 0))) := by rw [← hg]; exact (a_gs e43)
  have c45' : g[45]? = some (1, 0, rw) := by rw [← hg]; exact (a_ga (by decide) e45)
  obtain ⟨gs, hgs⟩ : ∃ gs, gs = fs.set 1 (.int (Int32.ofNat 0)) := ⟨_, rfl⟩
  rw [← hgs] at c43'
  have v8 : gs[8]? = some (.ref 45) := by rw [hgs]; exact (w_fne f8 (by decide))
  have v9 : gs[9]? = some (.int (Int32.ofNat m)) := by rw [hgs]; exact (w_fne f9 (by decide))
  have v11 : gs[11]? = some ml := by rw [hgs]; exact (w_fne f11 (by decide))
  have v12 : gs[12]? = some se := by rw [hgs]; exact (w_fne f12 (by decide))
  have v13 : gs[13]? = some ro := by rw [hgs]; exact (w_fne f13 (by decide))
  have v1 : gs[1]? = some (.int (Int32.ofNat 0)) := by rw [hgs]; exact (w_fat f1)
  have v2 : gs[2]? = some (.int (Int32.ofNat 0)) := by rw [hgs]; exact (w_fne f2 (by decide))
  have v3 : gs[3]? = some (.int (Int32.ofInt (-1))) := by rw [hgs]; exact (w_fne f3 (by decide))
  have hlt : 43 < g.length := (List.getElem?_eq_some_iff.mp c43').1
  have hlt5 : 45 < g.length := (List.getElem?_eq_some_iff.mp c45').1
  obtain ⟨ha, hha⟩ : ∃ ha, ha = g ++ [((0, 7, [.null, .null, .null, .int 0, .null]) : p_C)] := ⟨_, rfl⟩
  have c43 : ha[43]? = some (0, 3, gs) := by rw [hha]; exact t_app c43'
  have c45 : ha[45]? = some (1, 0, rw) := by rw [hha]; exact t_app c45'
  have hal : ha.length = g.length + 1 := by rw [hha]; simp
  refine w_new rfl rfl (show p_GT[7]? = some _ from rfl) ?_
  show p_wp p_GT p_MT (dd + 3) m_X3_read 88 ls [.ref g.length] (g ++ [((0, 7, [.null, .null, .null, .int 0, .null]) : p_C)]) _
  rw [← hha]
  refine w_dup rfl rfl (w_aload_n rfl l0 (w_getf rfl rfl c43 v11 (w_aload_n rfl l0 (w_getf rfl rfl c43 v12 (w_aload_n rfl l0 (w_getf rfl rfl c43 v13 (w_aload_n rfl l0 (w_getf rfl rfl c43 v8 (w_aload_n rfl l0 (w_getf rfl rfl c43 v9 (w_bp 7 rfl rfl (w_mulN rfl ?_))))))))))))
  have hcat : p_cat [ro, se, ml, .ref g.length, .ref g.length] ≤ 8 := by
    have hr : ∀ a, (Value.ref a).category = 1 := fun _ => rfl
    simp only [p_cat, List.map_cons, List.map_nil, g11.cat, g12.cat, g13.cat, hr]
    decide
  refine w_static (nn := 0) (dc := dd + 2) (M' := m_J7_copyOf_59c91) (m := 342) (as := [.ref 45, .int (Int32.ofNat (m * 7))]) (rest := [ro, se, ml, .ref g.length, .ref g.length]) (Q1 := fun v h' => ∃ us, v = some (.ref ha.length) ∧ h' = ha ++ [((1, 0, us) : p_C)]) rfl ?_ rfl rfl (by omega) (g_copyOf (d := dd + 1) c45 (by omega) (by omega) (fun j hj => hrI j hj) (fun us q1 q2 => ⟨us, rfl, rfl⟩)) ?_
  · show (match p_inv 1 P_k4 63 [.int (Int32.ofNat (m * 7)), .ref 45, ro, se, ml, .ref g.length, .ref g.length] with
      | some o => some o
      | none => p_inv 11 P_k4 63 [.int (Int32.ofNat (m * 7)), .ref 45, ro, se, ml, .ref g.length, .ref g.length]) = _
    have : p_inv 1 P_k4 63 [.int (Int32.ofNat (m * 7)), .ref 45, ro, se, ml, .ref g.length, .ref g.length] = some (.inr (.inr (342, [.ref 45, .int (Int32.ofNat (m * 7))], [ro, se, ml, .ref g.length, .ref g.length]))) := by
      simp only [p_inv, show p_pk 63 1 P_k4 = some (342, 2) from rfl]
      rw [if_pos ⟨Nat.le_of_ble_eq_true rfl, hcat⟩]
      rfl
    rw [this]
  rintro v h' ⟨us, rfl, rfl⟩
  have d43 : (ha ++ [((1, 0, us) : p_C)])[43]? = some (0, 3, gs) := t_app c43
  refine w_aload_n rfl l0 (w_getf rfl rfl d43 v9 ?_)
  have hcat2 : p_cat [.ref g.length, ml, se, ro, .ref ha.length, .int (Int32.ofNat m)] ≤ 6 := by
    have hr : ∀ a, (Value.ref a).category = 1 := fun _ => rfl
    have hi : ∀ a, (Value.int a).category = 1 := fun _ => rfl
    simp only [p_cat, List.map_cons, List.map_nil, g11.cat, g12.cat, g13.cat, hr, hi]
    decide
  refine w_special (dc := dd + 2) (M' := m_X7_init) (m := 77) (as := [.ref g.length, ml, se, ro, .ref ha.length, .int (Int32.ofNat m)]) (rest := [.ref g.length]) (Q1 := fun v h' => v = none ∧ h' = (ha ++ [((1, 0, us) : p_C)]).set g.length (0, 7, [ml, se, ro, .int (Int32.ofNat m), .ref ha.length])) rfl ?_ rfl hcat2 (by omega) (g_textInit g11 g12 g13 (f0 := .null) (f1 := .null) (f2 := .null) (f3 := .int 0) (f4 := .null) (by rw [List.getElem?_append_left (by omega), hha]; simp) ⟨rfl, rfl⟩) ?_
  · rfl
  rintro v h' ⟨rfl, rfl⟩
  refine w_goto rfl (t := 126) rfl (w_areturno rfl rfl ⟨⟨_, rfl⟩, gs, ?_, v1, by first | exact v2 | (rw [e0]; exact v2), by first | exact v3 | (rw [if_pos e0]; exact v3)⟩)
  rw [List.getElem?_set_ne (by omega)]
  exact d43
theorem c_ofN (y : Int32) : ∃ u : Nat, y = Int32.ofNat u := ⟨y.toBitVec.toNat, by apply Int32.toBitVec_inj.mp; apply BitVec.eq_of_toNat_eq; simp⟩
/-- what is known of the reader ahead of read -/
def c_Z (h : p_H) (b : Nat → Nat) (n : Nat) : Prop := ∃ (fs tp rw cw : List Value) (y10 y15 y16 : Int32), h[43]? = some (0, 3, fs) ∧ fs.length = 18 ∧ fs[0]? = some (.ref 44) ∧ fs[1]? = some (.int (Int32.ofNat n)) ∧ fs[8]? = some (.ref 45) ∧ fs[10]? = some (.int y10) ∧ fs[14]? = some (.ref 46) ∧ fs[15]? = some (.int y15) ∧ fs[16]? = some (.int y16) ∧ h[44]? = some (1, 1, tp) ∧ t_C tp b ∧ h[1]? = some (2, 2, p_wds) ∧ h[45]? = some (1, 0, rw) ∧ rw.length = 168 ∧ t_I rw ∧ h[46]? = some (1, 0, cw) ∧ cw.length = 600 ∧ t_I cw
theorem c_pl {fs : List Value} {L j : Nat} (hl : fs.length = L) (hj : j < L) : ∃ v, fs[j]? = some v := ⟨_, List.getElem?_eq_getElem (by omega)⟩
set_option maxRecDepth 100000 in
theorem c_read {h : p_H} {r : Nat × Nat} (hZ : c_Z h b n) (hn : n ≤ 300) (hr : t_text b n = r) : p_wp p_GT p_MT (dd + 41) m_X3_read 0 (lv_args 0 [.ref 43]) [] h (fun v h2 => (if r.1 = 0 then ∃ a, v = some (.ref a) else v = some .null) ∧ ∃ fs2 : List Value, h2[43]? = some (0, 3, fs2) ∧ fs2[1]? = some (.int (Int32.ofNat 0)) ∧ fs2[2]? = some (.int (Int32.ofNat r.1)) ∧ fs2[3]? = some (.int (if r.1 = 0 then Int32.ofInt (-1) else Int32.ofNat r.2))) := by
  obtain ⟨fs, tp, rw, cw, y10, y15, y16, e43, fl, f0, f1, f8, f10, f14, f15, f16, e44, hb, e1, e45, rl, hrI, e46, cl, hI⟩ := hZ
  obtain ⟨u15, rfl⟩ := c_ofN y15
  obtain ⟨x2, f2⟩ := c_pl (j := 2) fl (by decide)
  obtain ⟨x3, f3⟩ := c_pl (j := 3) fl (by decide)
  obtain ⟨x4, f4⟩ := c_pl (j := 4) fl (by decide)
  obtain ⟨x5, f5⟩ := c_pl (j := 5) fl (by decide)
  obtain ⟨x6, f6⟩ := c_pl (j := 6) fl (by decide)
  obtain ⟨x7, f7⟩ := c_pl (j := 7) fl (by decide)
  obtain ⟨x9, f9⟩ := c_pl (j := 9) fl (by decide)
  obtain ⟨x11, f11⟩ := c_pl (j := 11) fl (by decide)
  obtain ⟨x12, f12⟩ := c_pl (j := 12) fl (by decide)
  obtain ⟨x13, f13⟩ := c_pl (j := 13) fl (by decide)
  obtain ⟨x17, f17⟩ := c_pl (j := 17) fl (by decide)
  refine w_aload_n rfl rfl (w_ic 0 rfl rfl (w_putf rfl rfl e43 rfl rfl (w_flt f4) (w_aload_n rfl rfl (w_ic 0 rfl rfl (w_putf rfl rfl (a_gs e43) rfl rfl (w_flt (w_fne f9 (by decide))) (w_aload_n rfl rfl (w_nul rfl (w_putf rfl rfl (a_gs (a_gs e43)) rfl rfl (w_flt (w_fne (w_fne f11 (by decide)) (by decide))) (w_aload_n rfl rfl (w_nul rfl (w_putf rfl rfl (a_gs (a_gs (a_gs e43))) rfl rfl (w_flt (w_fne (w_fne (w_fne f12 (by decide)) (by decide)) (by decide))) (w_aload_n rfl rfl (w_nul rfl (w_putf rfl rfl (a_gs (a_gs (a_gs (a_gs e43)))) rfl rfl (w_flt (w_fne (w_fne (w_fne (w_fne f13 (by decide)) (by decide)) (by decide)) (by decide))) (w_aload_n rfl rfl (w_ic 0 rfl rfl (w_putf rfl rfl (a_gs (a_gs (a_gs (a_gs (a_gs e43))))) rfl rfl (w_flt (w_fne (w_fne (w_fne (w_fne (w_fne f17 (by decide)) (by decide)) (by decide)) (by decide)) (by decide))) (w_aload_n rfl rfl (w_ic 0 rfl rfl (w_putf rfl rfl (a_gs (a_gs (a_gs (a_gs (a_gs (a_gs e43)))))) rfl rfl (w_flt (w_fne (w_fne (w_fne (w_fne (w_fne (w_fne f2 (by decide)) (by decide)) (by decide)) (by decide)) (by decide)) (by decide))) (w_aload_n rfl rfl (w_iconst rfl (w_putf rfl rfl (a_gs (a_gs (a_gs (a_gs (a_gs (a_gs (a_gs e43))))))) rfl rfl (w_flt (w_fne (w_fne (w_fne (w_fne (w_fne (w_fne (w_fne f3 (by decide)) (by decide)) (by decide)) (by decide)) (by decide)) (by decide)) (by decide))) (w_aload_n rfl rfl (w_virtual (dc := dd + 40) (M' := m_X3_step) rfl (g_vir (n := 1) rfl rfl (by simp [p_cat, p_bd, Value.category]) rfl rfl (a_gs (a_gs (a_gs (a_gs (a_gs (a_gs (a_gs (a_gs e43)))))))) rfl) rfl rfl (Nat.le_refl _) (c_step (d := dd + 39) (q0 := 0) (a_gs (a_gs (a_gs (a_gs (a_gs (a_gs (a_gs (a_gs e43)))))))) (a_ga (by decide) (a_ga (by decide) (a_ga (by decide) (a_ga (by decide) (a_ga (by decide) (a_ga (by decide) (a_ga (by decide) (a_ga (by decide) e1)))))))) (a_ga (by decide) (a_ga (by decide) (a_ga (by decide) (a_ga (by decide) (a_ga (by decide) (a_ga (by decide) (a_ga (by decide) (a_ga (by decide) e44)))))))) hb hn (w_fne (w_fne (w_fne (w_fne (w_fne (w_fne (w_fne (w_fne f0 (by decide)) (by decide)) (by decide)) (by decide)) (by decide)) (by decide)) (by decide)) (by decide)) (w_fne (w_fne (w_fne (w_fne (w_fne (w_fne (w_fne (w_fne f1 (by decide)) (by decide)) (by decide)) (by decide)) (by decide)) (by decide)) (by decide)) (by decide)) (w_fne (w_fne (w_fne (w_fne (w_fne (w_fne (w_fne (w_fat f4) (by decide)) (by decide)) (by decide)) (by decide)) (by decide)) (by decide)) (by decide)) (Nat.zero_le _) (w_fne (w_fne (w_fne (w_fne (w_fne (w_fne (w_fne (w_fne f5 (by decide)) (by decide)) (by decide)) (by decide)) (by decide)) (by decide)) (by decide)) (by decide)) (w_fne (w_fne (w_fne (w_fne (w_fne (w_fne (w_fne (w_fne f6 (by decide)) (by decide)) (by decide)) (by decide)) (by decide)) (by decide)) (by decide)) (by decide)) (w_fne (w_fne (w_fne (w_fne (w_fne (w_fne (w_fne (w_fne f7 (by decide)) (by decide)) (by decide)) (by decide)) (by decide)) (by decide)) (by decide)) (by decide))) ?_)))))))))))))))))))))))))
  rintro v h2 ⟨rfl, gs, rfl, K, hT⟩
  refine w_ic 1 rfl rfl (w_istore_n rfl (by decide) (w_ic 0 rfl rfl (w_istore_n rfl (by decide) ?_)))
  have hl : gs.length = 18 := by
    have q1 := (List.getElem?_eq_some_iff.mp ((K 17 (by omega)).trans (w_fne (w_fne (w_fat (w_fne (w_fne (w_fne (w_fne (w_fne f17 (by decide)) (by decide)) (by decide)) (by decide)) (by decide))) (by decide)) (by decide)))).1
    have q2 := List.getElem?_eq_none_iff.mp ((K 18 (by omega)).trans (List.getElem?_eq_none (by simp only [List.length_set]; omega)))
    omega
  refine c_readl (dd := dd) (fa := .int (Int32.ofNat 0)) (pl := .int (Int32.ofInt (-1))) hn 26 0 (t_sk b n 0) _ _ .null .null .null false false false _ _ r hr (by decide) (t_sk_le (Nat.zero_le n)).2 (Nat.zero_le _) ⟨gs, tp, rw, cw, y10, a_gs (a_gs (a_gs (a_gs (a_gs (a_gs (a_gs (a_gs (a_gs e43)))))))), hl, ((K 0 (by omega)).trans (w_fne (w_fne (w_fne (w_fne (w_fne (w_fne (w_fne (w_fne f0 (by decide)) (by decide)) (by decide)) (by decide)) (by decide)) (by decide)) (by decide)) (by decide))), ((K 1 (by omega)).trans (w_fne (w_fne (w_fne (w_fne (w_fne (w_fne (w_fne (w_fne f1 (by decide)) (by decide)) (by decide)) (by decide)) (by decide)) (by decide)) (by decide)) (by decide))), ((K 2 (by omega)).trans (w_fne (w_fat (w_fne (w_fne (w_fne (w_fne (w_fne (w_fne f2 (by decide)) (by decide)) (by decide)) (by decide)) (by decide)) (by decide))) (by decide))), ((K 3 (by omega)).trans (w_fat (w_fne (w_fne (w_fne (w_fne (w_fne (w_fne (w_fne f3 (by decide)) (by decide)) (by decide)) (by decide)) (by decide)) (by decide)) (by decide)))), hT, ((K 8 (by omega)).trans (w_fne (w_fne (w_fne (w_fne (w_fne (w_fne (w_fne (w_fne f8 (by decide)) (by decide)) (by decide)) (by decide)) (by decide)) (by decide)) (by decide)) (by decide))), ((K 9 (by omega)).trans (w_fne (w_fne (w_fne (w_fne (w_fne (w_fne (w_fat (w_fne f9 (by decide))) (by decide)) (by decide)) (by decide)) (by decide)) (by decide)) (by decide))), ((K 10 (by omega)).trans (w_fne (w_fne (w_fne (w_fne (w_fne (w_fne (w_fne (w_fne f10 (by decide)) (by decide)) (by decide)) (by decide)) (by decide)) (by decide)) (by decide)) (by decide))), ((K 11 (by omega)).trans (w_fne (w_fne (w_fne (w_fne (w_fne (w_fat (w_fne (w_fne f11 (by decide)) (by decide))) (by decide)) (by decide)) (by decide)) (by decide)) (by decide))), ((K 12 (by omega)).trans (w_fne (w_fne (w_fne (w_fne (w_fat (w_fne (w_fne (w_fne f12 (by decide)) (by decide)) (by decide))) (by decide)) (by decide)) (by decide)) (by decide))), ((K 13 (by omega)).trans (w_fne (w_fne (w_fne (w_fat (w_fne (w_fne (w_fne (w_fne f13 (by decide)) (by decide)) (by decide)) (by decide))) (by decide)) (by decide)) (by decide))), ((K 14 (by omega)).trans (w_fne (w_fne (w_fne (w_fne (w_fne (w_fne (w_fne (w_fne f14 (by decide)) (by decide)) (by decide)) (by decide)) (by decide)) (by decide)) (by decide)) (by decide))), ((K 15 (by omega)).trans (w_fne (w_fne (w_fne (w_fne (w_fne (w_fne (w_fne (w_fne f15 (by decide)) (by decide)) (by decide)) (by decide)) (by decide)) (by decide)) (by decide)) (by decide))), ((K 16 (by omega)).trans (w_fne (w_fne (w_fne (w_fne (w_fne (w_fne (w_fne (w_fne f16 (by decide)) (by decide)) (by decide)) (by decide)) (by decide)) (by decide)) (by decide)) (by decide))), ((K 17 (by omega)).trans (w_fne (w_fne (w_fat (w_fne (w_fne (w_fne (w_fne (w_fne f17 (by decide)) (by decide)) (by decide)) (by decide)) (by decide))) (by decide)) (by decide))), a_ga (by decide) (a_ga (by decide) (a_ga (by decide) (a_ga (by decide) (a_ga (by decide) (a_ga (by decide) (a_ga (by decide) (a_ga (by decide) (a_ga (by decide) e44)))))))), hb, a_ga (by decide) (a_ga (by decide) (a_ga (by decide) (a_ga (by decide) (a_ga (by decide) (a_ga (by decide) (a_ga (by decide) (a_ga (by decide) (a_ga (by decide) e1)))))))), a_ga (by decide) (a_ga (by decide) (a_ga (by decide) (a_ga (by decide) (a_ga (by decide) (a_ga (by decide) (a_ga (by decide) (a_ga (by decide) (a_ga (by decide) e45)))))))), rl, hrI, a_ga (by decide) (a_ga (by decide) (a_ga (by decide) (a_ga (by decide) (a_ga (by decide) (a_ga (by decide) (a_ga (by decide) (a_ga (by decide) (a_ga (by decide) e46)))))))), cl, hI⟩ rfl rfl rfl (w_s1 (w_s1 rfl rfl (by decide)) rfl (by decide)) (w_s1 p_lk_s1 rfl (by decide)) p_lk_s1 ?_ ?_
  · rintro h2 ls2 ⟨u2, m2, la2, ml2, se2, ro2, x2, y2, z2, hS2, hx2, hy2, hz2, hm2⟩ e0 l0 l1
    exact (c_read_yes (dd := dd) hS2 hx2 hy2 hz2 hm2 e0 l0 l1).mono (by omega) (fun _ _ q => q)
  · rintro h2 ls2 ⟨u2, m2, la2, sv2, ml2, se2, ro2, hS2⟩ e0 l0 l1
    exact c_read_no hS2 e0 l0 l1
end RS14

/-! worked, cut, says by hand -/
section GSY
variable {G : p_G} {MT : List p_M} {d : Nat} {M : p_M} {pc l : Nat} {ls : p_Ls} {st : List Value} {h : p_H} {Q : Option Value → p_H → Prop} {k a b : Nat}
theorem w_sp {v : Int} (k : Nat) (hat : p_at pc M.2.2.2.2.1 = some (.sipush v, l)) (hv : (Int16.ofInt v).toInt32 = Int32.ofNat k) (hk : p_wp G MT d M (pc + 3) ls (.int (Int32.ofNat k) :: st) h Q) : p_wp G MT d M pc ls st h Q := w_sipush hat (by rw [hv]; exact hk)
theorem w_bp {v : Int} (k : Nat) (hat : p_at pc M.2.2.2.2.1 = some (.bipush v, l)) (hv : (Int8.ofInt v).toInt32 = Int32.ofNat k) (hk : p_wp G MT d M (pc + 2) ls (.int (Int32.ofNat k) :: st) h Q) : p_wp G MT d M pc ls st h Q := w_bipush hat (by rw [hv]; exact hk)
end GSY
section GSZ
variable {QQ : Nat → Int} {d : Nat} {h0 : p_H} {vs qs us : List Value} {Q : Option Value → p_H → Prop}
set_option maxRecDepth 20000 in
theorem g_worked {t m : Nat} (hE : g_WE QQ h0 vs qs us) (hw : g_WH h0 h0) (ht : t < 4) (hm : m < 24) (hmc : (m : Int) < QQ (777 * t)) (hs0 : 0 ≤ QQ (777 * t + 1 + 7 * m)) (hs2 : QQ (777 * t + 1 + 7 * m) ≤ 2) (hW : g_TW QQ) (hP : ∀ z h', g_WH h0 h' → Q (some (.long z)) h') : p_wp p_GT p_MT (d + 2) m_X12_worked 0 (lv_args 0 [.ref 64, .int (Int32.ofNat t), .int (Int32.ofNat m)]) [] h0 Q := by
  have hE' := hE
  obtain ⟨e0, e64, e2, e22, e23, e67, eq, -⟩ := hE
  obtain ⟨b1, b2, b3, b4⟩ := hW t ht m hmc hs0 hs2
  obtain ⟨f, hf⟩ : ∃ f : Nat, QQ (777 * t + 1 + 7 * m + 1) = f := ⟨(QQ (777 * t + 1 + 7 * m + 1)).toNat, by omega⟩
  obtain ⟨to, hto⟩ : ∃ to : Nat, QQ (777 * t + 1 + 7 * m + 2) = to := ⟨(QQ (777 * t + 1 + 7 * m + 2)).toNat, by omega⟩
  rw [hf, hto] at b2 b4
  rw [hto] at b3
  rw [Int.toNat_natCast, Int.toNat_natCast] at b4
  obtain ⟨y, hy1, hy2⟩ := eq (777 * t + 1 + 7 * m + 1) (by omega)
  have ey : y = Int32.ofNat f := g_i32 (by omega) (by omega)
  subst ey
  refine w_sp 777 rfl rfl (w_iload_n rfl rfl (w_mulN rfl (w_ic 1 rfl rfl (w_addN rfl (w_bp 7 rfl rfl (w_iload_n rfl rfl (w_mulN rfl (w_addN rfl (w_istore_n rfl (by decide) ?_)))))))))
  refine w_sp 777 rfl rfl (w_iload_n rfl (w_s1 rfl rfl (by decide)) (w_mulN rfl (w_sp 169 rfl rfl (w_addN rfl (w_istore rfl (by decide) (w_ic 0 rfl rfl (w_istore rfl (by decide) ?_)))))))
  refine w_aload_n rfl (w_s1 (w_s1 (w_s1 rfl rfl (by decide)) rfl (by decide)) rfl (by decide)) (w_getf rfl rfl e64 e2 (w_iload_n rfl (w_s1 (w_s1 p_lk_s1 rfl (by decide)) rfl (by decide)) (w_ic 1 rfl rfl (w_addN rfl (w_ld rfl e67 (by omega) hy1 (w_istore rfl (by decide) ?_))))))
  refine g_wk_loop (to := to) (f := f) (T := 777 * t) (C := 777 * t + 1 + 7 * m) hE' (by omega) (by omega) hto (by omega) b4 hP (to - f) f 0 _ _ (by omega) (Nat.le_refl _) hw ⟨?_, ?_, ?_, ?_, p_lk_s1⟩ (by rw [Nat.sub_self]; rfl) (Nat.zero_le _)
  · exact w_s1 (w_s1 (w_s1 (w_s1 rfl rfl (by decide)) rfl (by decide)) rfl (by decide)) rfl (by decide)
  · exact w_s1 (w_s1 (w_s1 p_lk_s1 rfl (by decide)) rfl (by decide)) rfl (by decide)
  · exact w_s1 (w_s1 p_lk_s1 rfl (by decide)) rfl (by decide)
  · exact w_s1 p_lk_s1 rfl (by decide)
theorem g_cut {h : p_H} {z : Int64} {c : Nat} (hc9 : c ≤ 9999) : p_wp p_GT p_MT d m_X12_cut 0 (lv_args 0 [.long z, .int (Int32.ofNat c)]) [] h (fun v h2 => (∃ k : Nat, k ≤ c ∧ v = some (.int (Int32.ofNat k))) ∧ h2 = h) := by
  refine w_lload_n rfl rfl (w_lconst rfl (w_lcmp rfl ?_))
  cases hc : p_cd .ge (lg_cmp z (Int64.ofNat 0)) 0 with
  | false => exact w_ifc_f rfl (t := 10) rfl hc (w_ic 0 rfl rfl (w_goto rfl (t := 23) rfl (w_ireturn rfl rfl ⟨⟨0, Nat.zero_le _, rfl⟩, rfl⟩)))
  | true =>
    refine w_ifc_t rfl (t := 10) rfl hc (w_lload_n rfl rfl (w_iload_n rfl rfl (w_i2l rfl (w_lcmp rfl ?_))))
    cases hc2 : p_cd .le (lg_cmp z (Int32.ofNat c).toInt64) 0 with
    | false => exact w_ifc_f rfl (t := 21) rfl hc2 (w_iload_n rfl rfl (w_goto rfl (t := 23) rfl (w_ireturn rfl rfl ⟨⟨c, Nat.le_refl _, rfl⟩, rfl⟩)))
    | true =>
      have a1 : 0 ≤ z.toInt := by
        simp only [p_cd, decide_eq_true_eq] at hc
        rw [Int32.le_iff_toInt_le, Int32.toInt_zero] at hc
        have := (x_lcmp z (Int64.ofNat 0)).1
        have e : (Int64.ofNat 0).toInt = 0 := by decide
        rw [e] at this
        omega
      have a2 : z.toInt ≤ c := by
        simp only [p_cd, decide_eq_true_eq] at hc2
        rw [Int32.le_iff_toInt_le, Int32.toInt_zero] at hc2
        have q := x_lcmp z (Int32.ofNat c).toInt64
        rw [Int32.toInt_toInt64, g_ofNat (by omega)] at q
        omega
      have ez : z.toInt32 = Int32.ofNat z.toInt.toNat := by
        refine g_i32 ?_ (by omega)
        rw [Int64.toInt_toInt32, Int.bmod_eq_of_le (by omega) (by omega)]
        omega
      refine w_ifc_t rfl (t := 21) rfl hc2 (w_lload_n rfl rfl (w_l2i rfl ?_))
      rw [ez]
      exact w_ireturn rfl rfl ⟨⟨z.toInt.toNat, by omega, rfl⟩, rfl⟩
theorem g_says_end {h : p_H} {ls : p_Ls} {z : Int64} {c : Nat} (hc9 : c ≤ 9999) (l3 : p_lk 3 ls = some (.long z)) (l5 : p_lk 5 ls = some (.int (Int32.ofNat c))) (hQ : ∀ k : Nat, k ≤ c → Q (some (.int (Int32.ofNat k))) h) : p_wp p_GT p_MT (d + 1) m_X12_says 63 ls [] h Q := by
  refine w_lload_n rfl l3 (w_iload rfl l5 (w_static (nn := 0) (M' := m_X12_cut) rfl rfl rfl rfl (Nat.le_refl _) (g_cut hc9) ?_))
  rintro v h2 ⟨⟨k, hk, rfl⟩, rfl⟩
  exact w_ireturn rfl rfl (hQ k hk)
theorem w_s1l {ls : p_Ls} {i j : Nat} {v : Value} {z : Int64} (hw : p_lk j ls = some (.long z)) (hne : j ≠ i) (hn2 : j + 1 ≠ i) : p_lk j (p_s1 ls i v) = some (.long z) := by
  have e : Nat.beq i j = false := by
    cases q : Nat.beq i j with
    | false => rfl
    | true => exact absurd (Nat.eq_of_beq_eq_true q).symm hne
  simp only [p_s1, p_lk, e, Bool.false_eq_true, if_false]
  refine p_lk_fil hw ?_
  have : (j == i) = false := by simpa using hne
  have h2 : (j + 1 == i) = false := by simpa using hn2
  simp [this, h2]
theorem g_says_loop {t K c q : Nat} {z : Int64} (hE : g_WE QQ h0 vs qs us) (hw : g_WH h0 h0) (ht : t < 4) (hK : K ≤ 2) (hc9 : c ≤ 9999) (hq : QQ (777 * t) = q) (hq24 : q ≤ 24) (hW : g_TW QQ) (hP : ∀ (k : Nat) h', k ≤ c → g_WH h0 h' → Q (some (.int (Int32.ofNat k))) h') : ∀ j i ls, i + j = q → p_lk 0 ls = some (.ref 64) → p_lk 1 ls = some (.int (Int32.ofNat t)) → p_lk 2 ls = some (.int (Int32.ofNat K)) → p_lk 3 ls = some (.long z) → p_lk 5 ls = some (.int (Int32.ofNat c)) → p_lk 6 ls = some (.int (Int32.ofNat i)) → p_wp p_GT p_MT (d + 3) m_X12_says 3 ls [] h0 Q := by
  intro j
  induction j with
  | zero =>
    intro i ls hi l0 l1 l2 l3 l5 l6
    obtain ⟨e0, e64, e2, e22, e23, e67, eq, -⟩ := hE
    obtain ⟨y, hy1, hy2⟩ := eq (777 * t) (by omega)
    have ey : y = Int32.ofNat q := g_i32 (by omega) (by omega)
    have hc0 : p_cd .lt (Int32.ofNat t) 0 = false := by
      simp only [p_cd, decide_eq_false_iff_not]; exact g_nl (by omega)
    refine w_iload_n rfl l1 (w_ifc_f rfl (t := 63) rfl hc0 (w_iload rfl l6 (w_aload_n rfl l0 (w_getf rfl rfl e64 e2 (w_sp 777 rfl rfl (w_iload_n rfl l1 (w_mulN rfl (w_ld rfl e67 (by omega) hy1 (w_icmp_t rfl (t := 63) rfl ?_ (g_says_end hc9 l3 l5 (fun k hk => hP k _ hk hw)))))))))))
    simp only [p_cd, decide_eq_true_eq]
    rw [Int32.le_iff_toInt_le, ey, g_ofNat (by omega), g_ofNat (by omega)]
    omega
  | succ j ih =>
    intro i ls hi l0 l1 l2 l3 l5 l6
    have hE' := hE
    obtain ⟨e0, e64, e2, e22, e23, e67, eq, -⟩ := hE
    obtain ⟨y, hy1, hy2⟩ := eq (777 * t) (by omega)
    have ey : y = Int32.ofNat q := g_i32 (by omega) (by omega)
    have hc0 : p_cd .lt (Int32.ofNat t) 0 = false := by
      simp only [p_cd, decide_eq_false_iff_not]; exact g_nl (by omega)
    have hc1 : p_cd .ge (Int32.ofNat i) y = false := by
      simp only [p_cd, decide_eq_false_iff_not]
      rw [Int32.le_iff_toInt_le, ey, g_ofNat (by omega), g_ofNat (by omega)]
      omega
    obtain ⟨s, hs1, hs2⟩ := eq (777 * t + 1 + 7 * i) (by omega)
    refine w_iload_n rfl l1 (w_ifc_f rfl (t := 63) rfl hc0 (w_iload rfl l6 (w_aload_n rfl l0 (w_getf rfl rfl e64 e2 (w_sp 777 rfl rfl (w_iload_n rfl l1 (w_mulN rfl (w_ld rfl e67 (by omega) hy1 (w_icmp_f rfl (t := 63) rfl hc1 ?_)))))))))
    refine w_aload_n rfl l0 (w_getf rfl rfl e64 e2 (w_sp 777 rfl rfl (w_iload_n rfl l1 (w_mulN rfl (w_ic 1 rfl rfl (w_addN rfl (w_bp 7 rfl rfl (w_iload rfl l6 (w_mulN rfl (w_addN rfl (w_ld rfl e67 (by omega) hs1 (w_iload_n rfl l2 ?_))))))))))))
    cases hc2 : p_cd .ne s (Int32.ofNat K) with
    | true =>
      refine w_icmp_t rfl (t := 57) rfl hc2 (w_iinc rfl l6 (by decide) (w_goto rfl (t := 3) rfl ?_))
      rw [show Int32.ofInt 1 = Int32.ofNat 1 from rfl, g_add (by omega)]
      exact ih (i + 1) _ (by omega) (w_s1 l0 rfl (by decide)) (w_s1 l1 rfl (by decide)) (w_s1 l2 rfl (by decide)) (w_s1l l3 (by decide) (by decide)) (w_s1 l5 rfl (by decide)) p_lk_s1
    | false =>
      have es : s = Int32.ofNat K := by
        simp only [p_cd, decide_eq_false_iff_not, Decidable.not_not] at hc2
        exact hc2
      have hsK : QQ (777 * t + 1 + 7 * i) = K := by rw [hs2, es, g_ofNat (by omega)]
      refine w_icmp_f rfl (t := 57) rfl hc2 (w_aload_n rfl l0 (w_iload_n rfl l1 (w_iload rfl l6 (w_virtual (dc := d + 2) (M' := m_X12_worked) (Q1 := fun v h' => ∃ z, v = some (.long z) ∧ g_WH h0 h') rfl (g_vir (n := 3) rfl rfl (by simp [p_cat, p_bd]) rfl rfl e64 rfl) rfl rfl (Nat.le_refl _) (g_worked hE' hw ht (by omega) (by omega) (by omega) (by omega) hW (fun z h' hh => ⟨z, rfl, hh⟩)) ?_))))
      rintro v h2 ⟨z', rfl, hh⟩
      refine w_iload rfl l5 (w_static (nn := 0) (dc := d + 2) (M' := m_X12_cut) rfl rfl rfl rfl (Nat.le_refl _) (g_cut hc9) ?_)
      rintro v h3 ⟨⟨k, hk, rfl⟩, rfl⟩
      exact w_ireturn rfl rfl (hP k _ hk hh)
end GSZ
theorem g_f64b {τ : Nat → Option Nat} {h : p_H} (hH : x_H x_EE τ h) (ht : τ 64 = some 64) : ∃ vs, h[64]? = some (0, 12, vs) ∧ vs[2]? = some (.ref 67) ∧ vs[22]? = some (.ref 71) ∧ vs[23]? = some (.ref 72) ∧ τ 67 = some 67 ∧ τ 71 = some 71 ∧ τ 72 = some 72 := by
  obtain ⟨vs, hc, hl, hf⟩ := g_f64 hH ht
  obtain ⟨b, f1, f2, f3⟩ := hf 2 _ (List.getElem?_eq_getElem (show 2 < vs.length by omega))
  obtain ⟨a, e1, e2, e3⟩ := hf 22 _ (List.getElem?_eq_getElem (show 22 < vs.length by omega))
  obtain ⟨c, g1, g2, g3⟩ := hf 23 _ (List.getElem?_eq_getElem (show 23 < vs.length by omega))
  have ea : a = 71 := Int.ofNat_inj.mp (show ((a : Nat) : Int) = ((71 : Nat) : Int) from e3 (by decide))
  have eb : b = 67 := Int.ofNat_inj.mp (show ((b : Nat) : Int) = ((67 : Nat) : Int) from f3 (by decide))
  have ec : c = 72 := Int.ofNat_inj.mp (show ((c : Nat) : Int) = ((72 : Nat) : Int) from g3 (by decide))
  subst ea; subst eb; subst ec
  exact ⟨vs, hc, by rw [List.getElem?_eq_getElem (show 2 < vs.length by omega), f1], by rw [List.getElem?_eq_getElem (show 22 < vs.length by omega), e1], by rw [List.getElem?_eq_getElem (show 23 < vs.length by omega), g1], f2, e2, g2⟩
theorem ho_ch11 : x_OK p_GT p_MT x_EE ch11 := by
  refine ⟨?_, m_X12_says, rfl⟩
  intro τ r h as M hM hH hA hF hK
  cases (show some m_X12_says = some M from hM)
  obtain ⟨a, V, rfl, ha, hA⟩ := x_t3 (show x_vs τ r 4 [(3, 64, ([], ((64 : Nat) : Int))), (1, 0, ([(0, 1)], 0)), (1, 0, ([(1, 1)], 0)), (2, 0, ([(2, 1)], 0)), (1, 0, ([(3, 1)], 0))] as from hA)
  obtain ⟨x0, V, rfl, -, hx0, hA⟩ := x_t1 hA
  obtain ⟨x1, V, rfl, -, hx1, hA⟩ := x_t1 hA
  obtain ⟨z, V, rfl, -, -, hA⟩ := x_t2 hA
  obtain ⟨x3, V, rfl, -, hx3, hA⟩ := x_t1 hA
  rw [g_nil hA]
  obtain ⟨rfl, ht⟩ := g_ref ha
  rw [g_v] at hx0 hx1 hx3
  obtain ⟨h0, h1, h3⟩ : (-1 ≤ r 0 ∧ r 0 ≤ 3) ∧ (0 ≤ r 1 ∧ r 1 ≤ 2) ∧ (0 ≤ r 3 ∧ r 3 ≤ 9999) := ⟨g_get hF.1 0 rfl, g_get hF.1 1 rfl, g_get hF.1 3 rfl⟩
  obtain ⟨vs, hc, f2, f22, f23, t67, t71, t72⟩ := g_f64b hH ht
  obtain ⟨qs, hq, lq, hqv, h24, hW⟩ := g_H67 hH t67
  obtain ⟨us, hu, k1, k2, hfu, -⟩ := g_cell hH t71 (show x_KL[71]? = some _ from rfl)
  obtain ⟨ws, hw, j1, j2, hfw, -⟩ := g_cell hH t72 (show x_KL[72]? = some _ from rfl)
  have k1 : 8 ≤ us.length := k1
  have j1 : 330 ≤ ws.length := j1
  have j2 : ws.length ≤ 330 := j2
  have hlen : 72 < h.length := (List.getElem?_eq_some_iff.mp hw).1
  have hE : g_WE (g_Q h) h vs qs us := ⟨hlen, hc, f2, f22, f23, hq, hqv, hu, fun j hj => g_int rfl rfl hfu (by omega)⟩
  have hww : g_WH h h := by
    refine ⟨ws, ?_, by omega, fun j hj => ?_⟩
    · obtain ⟨hl, e⟩ := List.getElem?_eq_some_iff.mp hw
      have e : h[72] = (1, 2, ws) := e
      rw [← e, List.set_getElem_self]
    · have := hfw j _ (List.getElem?_eq_getElem (show j < ws.length by omega))
      rw [x_pt0 (t := (2, 0, 0, 0)) rfl rfl rfl] at this
      obtain ⟨z, hz⟩ := this
      exact ⟨z, by rw [List.getElem?_eq_getElem (show j < ws.length by omega), hz]⟩
  obtain ⟨K, hK1⟩ : ∃ K : Nat, r 1 = K := ⟨(r 1).toNat, by omega⟩
  obtain ⟨c, hc3⟩ : ∃ c : Nat, r 3 = c := ⟨(r 3).toNat, by omega⟩
  have e1 : x1 = Int32.ofNat K := g_i32 (by omega) (by omega)
  have e3 : x3 = Int32.ofNat c := g_i32 (by omega) (by omega)
  subst e1; subst e3
  have hP : ∀ (k : Nat) h', k ≤ c → g_WH h h' → x_Post x_EE ch11 τ r h (some (.int (Int32.ofNat k))) h' := by
    rintro k h' hk ⟨ws', rfl, l1, l2⟩
    have hJ := (g_J0 hH [(72, 0, 329)]).sets x_EE_EO (c := (1, 2, ws)) (vs' := ws') (lo := 0) (hi := 329) t72 hw (show x_KL[72]? = some _ from rfl) (by show ws'.length = ws.length; omega) (fun j hj => ?_) (fun j v hv => ?_) rfl rfl
    · exact ⟨τ, x_up r 4 k, hJ, _, List.mem_cons_self, by rw [List.length_set]; exact Nat.le_refl _, by rw [p_sl_set hw (by show ws'.length = ws.length; omega)]; exact Nat.le_refl _, fun i hi => x_up_lt i hi, ⟨g_io (by rw [x_up_at]; omega) g_io0, g_c (by simp [q_e, q_ev, x_up]; omega) g_n, g_n⟩, ⟨g_wl rfl, _, rfl, by rw [g_v, x_up_at, g_ofNat (by omega)]⟩, g_n⟩
    · show ws'[j]? = ws[j]?
      rw [List.getElem?_eq_none (by omega), List.getElem?_eq_none (by omega)]
    · rw [x_pt0 (t := (2, 0, 0, 0)) rfl rfl rfl]
      have hj : j < ws'.length := (List.getElem?_eq_some_iff.mp hv).1
      obtain ⟨z, hz⟩ := l2 j (by omega)
      rw [hz] at hv
      cases hv
      exact ⟨z, rfl⟩
  refine ⟨Nat.le_of_ble_eq_true rfl, ?_⟩
  refine w_ic 0 rfl rfl (w_istore rfl (by decide) ?_)
  rcases (show r 0 = -1 ∨ 0 ≤ r 0 by omega) with q | q
  · refine w_iload_n rfl (w_s1 rfl rfl (by decide)) (w_ifc_t rfl (t := 63) rfl ?_ (g_says_end (d := 3) (c := c) (z := z) (by omega) (w_s1l rfl (by decide) (by decide)) (w_s1 rfl rfl (by decide)) (fun k hk => hP k _ hk hww)))
    simp only [p_cd, decide_eq_true_eq]
    rw [Int32.lt_iff_toInt_lt, Int32.toInt_zero]; omega
  · obtain ⟨t, ht0⟩ : ∃ t : Nat, r 0 = t := ⟨(r 0).toNat, by omega⟩
    have e0 : x0 = Int32.ofNat t := g_i32 (by omega) (by omega)
    subst e0
    have h24t := h24 t (by omega)
    refine (g_says_loop (d := 0) (t := t) (K := K) (c := c) (q := (g_Q h (777 * t)).toNat) (z := z) hE hww (by omega) (by omega) (by omega) (by omega) (by omega) hW hP (g_Q h (777 * t)).toNat 0 _ (by omega) (w_s1 rfl rfl (by decide)) (w_s1 rfl rfl (by decide)) (w_s1 rfl rfl (by decide)) (w_s1l rfl (by decide) (by decide)) (w_s1 rfl rfl (by decide)) p_lk_s1).mono (by decide) (fun _ _ q => q)

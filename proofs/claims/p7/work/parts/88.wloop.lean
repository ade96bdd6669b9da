/-! worked by hand: the loop -/
section GWN
variable {G : p_G} {MT : List p_M} {d : Nat} {M : p_M} {pc l : Nat} {ls : p_Ls} {st : List Value} {h : p_H} {Q : Option Value → p_H → Prop} {k a b : Nat}
theorem w_ic {v : Int} (k : Nat) (hat : p_at pc M.2.2.2.2.1 = some (.iconst v, l)) (hv : Int32.ofInt v = Int32.ofNat k) (hk : p_wp G MT d M (pc + 1) ls (.int (Int32.ofNat k) :: st) h Q) : p_wp G MT d M pc ls st h Q := w_iconst hat (by rw [hv]; exact hk)
theorem w_addN (hat : p_at pc M.2.2.2.2.1 = some (.iadd, l)) (hk : p_wp G MT d M (pc + 1) ls (.int (Int32.ofNat (a + b)) :: st) h Q) : p_wp G MT d M pc ls (.int (Int32.ofNat b) :: .int (Int32.ofNat a) :: st) h Q := w_iadd hat (by rw [← Int32.ofNat_add]; exact hk)
theorem w_mulN (hat : p_at pc M.2.2.2.2.1 = some (.imul, l)) (hk : p_wp G MT d M (pc + 1) ls (.int (Int32.ofNat (a * b)) :: st) h Q) : p_wp G MT d M pc ls (.int (Int32.ofNat b) :: .int (Int32.ofNat a) :: st) h Q := w_imul hat (by rw [g_mul]; exact hk)
theorem w_subN (hat : p_at pc M.2.2.2.2.1 = some (.isub, l)) (hab : b ≤ a) (hk : p_wp G MT d M (pc + 1) ls (.int (Int32.ofNat (a - b)) :: st) h Q) : p_wp G MT d M pc ls (.int (Int32.ofNat b) :: .int (Int32.ofNat a) :: st) h Q := w_isub hat (by rw [g_sub hab]; exact hk)
end GWN
/-- all that the loop rests on -/
def g_WE (QQ : Nat → Int) (h0 : p_H) (vs qs us : List Value) : Prop := 72 < h0.length ∧ h0[64]? = some (0, 12, vs) ∧ vs[2]? = some (.ref 67) ∧ vs[22]? = some (.ref 71) ∧ vs[23]? = some (.ref 72) ∧ h0[67]? = some (1, 0, qs) ∧ (∀ j, j < 3108 → ∃ y : Int32, qs[j]? = some (.int y) ∧ QQ j = y.toInt) ∧ h0[71]? = some (1, 0, us) ∧ ∀ j, j < 8 → ∃ y : Int32, us[j]? = some (.int y)
section GWL
variable {QQ : Nat → Int} {T C f d n i o : Nat} {h0 h' : p_H} {vs qs us : List Value} {Q : Option Value → p_H → Prop} {ls : p_Ls} {v : Int32}
set_option maxRecDepth 20000 in
theorem g_wk0 (hE : g_WE QQ h0 vs qs us) (hw : g_WH h0 h') (hL : g_L5 ls C T n i) (l7 : p_lk 7 ls = some (.int (Int32.ofNat 0))) (l8 : p_lk 8 ls = some (.int v)) (hn : n < 330) (hk : ∀ ls h', g_WH h0 h' → g_L5 ls C T (n + 1) i → p_wp p_GT p_MT (d + 2) m_X12_worked 267 ls [] h' Q) : p_wp p_GT p_MT (d + 2) m_X12_worked 80 ls [] h' Q := by
  obtain ⟨e0, e64, e2, e22, e23, -⟩ := hE
  obtain ⟨L0, L3, L4, L5, L6⟩ := hL
  obtain ⟨ws, hw1, hw2, hw3, hw4⟩ := hw.ws e0
  have h64 : h'[64]? = some (0, 12, vs) := by rw [hw.get (by decide)]; exact e64
  refine w_iload rfl l7 (w_ic 1 rfl rfl (w_icmp_f rfl (t := 118) rfl (by decide) (w_aload_n rfl L0 (w_getf rfl rfl h64 e23 (w_iload rfl L5 (w_iload rfl l7 (w_ifc_f rfl (t := 103) rfl (by decide) (w_iload rfl l8 (w_i2l rfl (w_goto rfl (t := 111) rfl (w_lst rfl hw1 (by omega) (by omega) (w_iinc rfl L5 (by decide) (w_goto rfl (t := 267) rfl ?_)))))))))))))
  rw [show Int32.ofInt 1 = Int32.ofNat 1 from rfl, g_add (by omega)]
  exact hk _ _ (hw4 _ _) (g_L5.s5 (n := n) ⟨L0, L3, L4, L5, L6⟩)
set_option maxRecDepth 20000 in
theorem g_wk1 {V : Nat} (hE : g_WE QQ h0 vs qs us) (hw : g_WH h0 h') (hL : g_L5 ls C T n i) (l7 : p_lk 7 ls = some (.int (Int32.ofNat 1))) (l8 : p_lk 8 ls = some (.int (Int32.ofNat V))) (hV : V ≤ 7) (hn : n < 330) (hk : ∀ ls h', g_WH h0 h' → g_L5 ls C T (n + 1) i → p_wp p_GT p_MT (d + 2) m_X12_worked 267 ls [] h' Q) : p_wp p_GT p_MT (d + 2) m_X12_worked 80 ls [] h' Q := by
  obtain ⟨e0, e64, e2, e22, e23, -, -, e71, eu⟩ := hE
  obtain ⟨L0, L3, L4, L5, L6⟩ := hL
  obtain ⟨ws, hw1, hw2, hw3, hw4⟩ := hw.ws e0
  have h64 : h'[64]? = some (0, 12, vs) := by rw [hw.get (by decide)]; exact e64
  have h71 : h'[71]? = some (1, 0, us) := by rw [hw.get (by decide)]; exact e71
  obtain ⟨y, hy⟩ := eu V (by omega)
  refine w_iload rfl l7 (w_ic 1 rfl rfl (w_icmp_f rfl (t := 118) rfl (by decide) (w_aload_n rfl L0 (w_getf rfl rfl h64 e23 (w_iload rfl L5 (w_iload rfl l7 (w_ifc_t rfl (t := 103) rfl (by decide) (w_aload_n rfl L0 (w_getf rfl rfl h64 e22 (w_iload rfl l8 (w_ld rfl h71 (by omega) hy (w_i2l rfl (w_lst rfl hw1 (by omega) (by omega) (w_iinc rfl L5 (by decide) (w_goto rfl (t := 267) rfl ?_)))))))))))))))
  rw [show Int32.ofInt 1 = Int32.ofNat 1 from rfl, g_add (by omega)]
  exact hk _ _ (hw4 _ _) (g_L5.s5 (n := n) ⟨L0, L3, L4, L5, L6⟩)
set_option maxRecDepth 20000 in
theorem g_wk3 (hE : g_WE QQ h0 vs qs us) (hw : g_WH h0 h') (hL : g_L5 ls C T n i) (l7 : p_lk 7 ls = some (.int (Int32.ofNat 3))) (hn : n < 330) (h1 : 1 ≤ n) (hk : ∀ ls h', g_WH h0 h' → g_L5 ls C T n i → p_wp p_GT p_MT (d + 2) m_X12_worked 267 ls [] h' Q) : p_wp p_GT p_MT (d + 2) m_X12_worked 80 ls [] h' Q := by
  obtain ⟨e0, e64, e2, e22, e23, -⟩ := hE
  obtain ⟨L0, L3, L4, L5, L6⟩ := hL
  obtain ⟨ws, hw1, hw2, hw3, hw4⟩ := hw.ws e0
  have h64 : h'[64]? = some (0, 12, vs) := by rw [hw.get (by decide)]; exact e64
  obtain ⟨z, hz⟩ := hw3 (n - 1) (by omega)
  refine w_iload rfl l7 (w_ic 1 rfl rfl (w_icmp_t rfl (t := 118) rfl (by decide) (w_iload rfl l7 (w_ic 2 rfl rfl (w_icmp_t rfl (t := 206) rfl (by decide) (w_iload rfl l7 (w_ic 3 rfl rfl (w_icmp_f rfl (t := 234) rfl (by decide) ?_))))))))
  refine w_aload_n rfl L0 (w_getf rfl rfl h64 e23 (w_iload rfl L5 (w_ic 1 rfl rfl (w_subN rfl h1 (w_aload_n rfl L0 (w_getf rfl rfl h64 e23 (w_iload rfl L5 (w_ic 1 rfl rfl (w_subN rfl h1 (w_lld rfl hw1 (by omega) hz (w_lneg rfl (w_lst rfl hw1 (by omega) (by omega) (w_goto rfl (t := 267) rfl ?_)))))))))))))
  exact hk _ _ (hw4 _ _) ⟨L0, L3, L4, L5, L6⟩
set_option maxRecDepth 20000 in
theorem g_wk4 (hE : g_WE QQ h0 vs qs us) (hw : g_WH h0 h') (hL : g_L5 ls C T n i) (l7 : p_lk 7 ls = some (.int (Int32.ofNat o))) (h4 : 4 ≤ o) (h7 : o ≤ 7) (hn : n < 330) (h1 : 2 ≤ n) (hk : ∀ ls h', g_WH h0 h' → g_L5 ls C T (n - 1) i → p_wp p_GT p_MT (d + 2) m_X12_worked 267 ls [] h' Q) : p_wp p_GT p_MT (d + 2) m_X12_worked 80 ls [] h' Q := by
  obtain ⟨e0, e64, e2, e22, e23, -⟩ := hE
  obtain ⟨L0, L3, L4, L5, L6⟩ := hL
  obtain ⟨ws, hw1, hw2, hw3, hw4⟩ := hw.ws e0
  have h64 : h'[64]? = some (0, 12, vs) := by rw [hw.get (by decide)]; exact e64
  obtain ⟨z, hz⟩ := hw3 (n - 1 - 1) (by omega)
  obtain ⟨w, hw'⟩ := hw3 (n - 1) (by omega)
  have q : ∀ o, o < 8 → 4 ≤ o → p_cd .gt (Int32.ofNat o) (Int32.ofNat 1) = true ∧ p_cd .ne (Int32.ofNat o) (Int32.ofNat 2) = true ∧ p_cd .ne (Int32.ofNat o) (Int32.ofNat 3) = true := by decide +kernel
  obtain ⟨q1, q2, q3⟩ := q o (by omega) h4
  refine w_iload rfl l7 (w_ic 1 rfl rfl (w_icmp_t rfl (t := 118) rfl q1 (w_iload rfl l7 (w_ic 2 rfl rfl (w_icmp_t rfl (t := 206) rfl q2 (w_iload rfl l7 (w_ic 3 rfl rfl (w_icmp_t rfl (t := 234) rfl q3 (w_iinc rfl L5 (by decide) ?_)))))))))
  have en : Int32.ofNat n + Int32.ofInt (-1) = Int32.ofNat (n - 1) := by
    have e : Int32.ofNat n = Int32.ofNat (n - 1) + Int32.ofNat 1 := by rw [← Int32.ofNat_add, Nat.sub_add_cancel (by omega)]
    rw [e, Int32.add_assoc, show Int32.ofNat 1 + Int32.ofInt (-1) = 0 by decide, Int32.add_zero]
  rw [en]
  have hL := g_L5.s5 (n := n) (n' := n - 1) (⟨L0, L3, L4, L5, L6⟩ : g_L5 ls C T n i)
  have l7' : p_lk 7 (p_s1 ls 5 (.int (Int32.ofNat (n - 1)))) = some (.int (Int32.ofNat o)) := w_s1 l7 rfl (by decide)
  obtain ⟨K0, K3, K4, K5, K6⟩ := hL
  refine w_aload_n rfl K0 (w_getf rfl rfl h64 e23 (w_iload rfl K5 (w_ic 1 rfl rfl (w_subN rfl (by omega) (w_iload rfl l7' (w_aload_n rfl K0 (w_getf rfl rfl h64 e23 (w_iload rfl K5 (w_ic 1 rfl rfl (w_subN rfl (by omega) (w_lld rfl hw1 (by omega) hz (w_aload_n rfl K0 (w_getf rfl rfl h64 e23 (w_iload rfl K5 (w_lld rfl hw1 (by omega) hw' (w_static (nn := 0) (dc := d + 1) (M' := m_X12_two) rfl rfl rfl rfl (Nat.le_refl _) (g_two h4 h7) ?_))))))))))))))))
  rintro v h2 ⟨⟨z', rfl⟩, rfl⟩
  exact w_lst rfl hw1 (by omega) (by omega) (hk _ _ (hw4 _ _) ⟨K0, K3, K4, K5, K6⟩)
set_option maxRecDepth 20000 in
theorem g_wk2k {kk : Nat} (hE : g_WE QQ h0 vs qs us) (hw : g_WH h0 h') (hL : g_L5 ls C T n i) (h1 : 1 ≤ n) (hn : n + kk < 331) (hk : ∀ ls h', g_WH h0 h' → g_L5 ls C T n i → p_wp p_GT p_MT (d + 2) m_X12_worked 267 ls [] h' Q) : p_wp p_GT p_MT (d + 2) m_X12_worked 180 ls [.int (Int32.ofNat kk)] h' Q := by
  obtain ⟨e0, e64, e2, e22, e23, -⟩ := hE
  obtain ⟨ws, hw1, hw2, hw3, hw4⟩ := hw.ws e0
  have h64 : h'[64]? = some (0, 12, vs) := by rw [hw.get (by decide)]; exact e64
  obtain ⟨z, hz⟩ := hw3 (n - 1 + kk) (by omega)
  obtain ⟨L0, L3, L4, L5, L6⟩ := hL.s (k := 9) (x := Int32.ofNat kk) (by decide)
  refine w_istore rfl (by decide) (w_aload_n rfl L0 (w_getf rfl rfl h64 e23 (w_iload rfl L5 (w_ic 1 rfl rfl (w_subN rfl h1 (w_aload_n rfl L0 (w_getf rfl rfl h64 e23 (w_iload rfl L5 (w_ic 1 rfl rfl (w_subN rfl h1 (w_iload rfl p_lk_s1 (w_addN rfl (w_lld rfl hw1 (by omega) hz (w_lst rfl hw1 (by omega) (by omega) (w_goto rfl (t := 267) rfl ?_)))))))))))))))
  exact hk _ _ (hw4 _ _) ⟨L0, L3, L4, L5, L6⟩
set_option maxRecDepth 20000 in
theorem g_wk2 {V : Nat} (hE : g_WE QQ h0 vs qs us) (hw : g_WH h0 h') (hL : g_L5 ls C T n i) (l7 : p_lk 7 ls = some (.int (Int32.ofNat 2))) (l8 : p_lk 8 ls = some (.int (Int32.ofNat V))) (h1 : 1 ≤ V) (h2 : V + 1 ≤ n) (hn : n < 330) (hk : ∀ ls h', g_WH h0 h' → g_L5 ls C T (n - V) i → p_wp p_GT p_MT (d + 2) m_X12_worked 267 ls [] h' Q) : p_wp p_GT p_MT (d + 2) m_X12_worked 80 ls [] h' Q := by
  have hE' := hE
  obtain ⟨e0, e64, e2, e22, e23, -⟩ := hE
  obtain ⟨L0, L3, L4, L5, L6⟩ := hL
  obtain ⟨ws, hw1, hw2, hw3, hw4⟩ := hw.ws e0
  have h64 : h'[64]? = some (0, 12, vs) := by rw [hw.get (by decide)]; exact e64
  obtain ⟨z, hz⟩ := hw3 (n - V - 1) (by omega)
  have hL := g_L5.s5 (n := n) (n' := n - V) (⟨L0, L3, L4, L5, L6⟩ : g_L5 ls C T n i)
  have l8' : p_lk 8 (p_s1 ls 5 (.int (Int32.ofNat (n - V)))) = some (.int (Int32.ofNat V)) := w_s1 l8 rfl (by decide)
  obtain ⟨K0, K3, K4, K5, K6⟩ := hL
  refine w_iload rfl l7 (w_ic 1 rfl rfl (w_icmp_t rfl (t := 118) rfl (by decide) (w_iload rfl l7 (w_ic 2 rfl rfl (w_icmp_f rfl (t := 206) rfl (by decide) (w_iload rfl L5 (w_iload rfl l8 (w_subN rfl (by omega) (w_istore rfl (by decide) (w_aload_n rfl K0 (w_getf rfl rfl h64 e23 (w_iload rfl K5 (w_ic 1 rfl rfl (w_subN rfl (by omega) (w_lld rfl hw1 (by omega) hz (w_lconst rfl (w_lcmp rfl ?_)))))))))))))))))
  cases hc : p_cd .ge (lg_cmp z (Int64.ofNat 1)) 0 with
  | false => exact w_ifc_f rfl (t := 149) rfl hc (w_ic 1 rfl rfl (w_goto rfl (t := 180) rfl (g_wk2k hE' hw ⟨K0, K3, K4, K5, K6⟩ (by omega) (by omega) hk)))
  | true =>
    refine w_ifc_t rfl (t := 149) rfl hc (w_aload_n rfl K0 (w_getf rfl rfl h64 e23 (w_iload rfl K5 (w_ic 1 rfl rfl (w_subN rfl (by omega) (w_lld rfl hw1 (by omega) hz (w_iload rfl l8' (w_i2l rfl (w_lcmp rfl ?_)))))))))
    cases hc2 : p_cd .le (lg_cmp z (Int32.ofNat V).toInt64) 0 with
    | false => exact w_ifc_f rfl (t := 170) rfl hc2 (w_iload rfl l8' (w_goto rfl (t := 180) rfl (g_wk2k hE' hw ⟨K0, K3, K4, K5, K6⟩ (by omega) (by omega) hk)))
    | true =>
      have a1 : 1 ≤ z.toInt := by
        simp only [p_cd, decide_eq_true_eq] at hc
        rw [Int32.le_iff_toInt_le, Int32.toInt_zero] at hc
        have := (x_lcmp z (Int64.ofNat 1)).1
        have e : (Int64.ofNat 1).toInt = 1 := by decide
        rw [e] at this
        omega
      have a2 : z.toInt ≤ V := by
        simp only [p_cd, decide_eq_true_eq] at hc2
        rw [Int32.le_iff_toInt_le, Int32.toInt_zero] at hc2
        have q := x_lcmp z (Int32.ofNat V).toInt64
        rw [Int32.toInt_toInt64, g_ofNat (by omega)] at q
        omega
      have ez : z.toInt32 = Int32.ofNat z.toInt.toNat := by
        refine g_i32 ?_ (by omega)
        rw [Int64.toInt_toInt32, Int.bmod_eq_of_le (by omega) (by omega)]
        omega
      refine w_ifc_t rfl (t := 170) rfl hc2 (w_aload_n rfl K0 (w_getf rfl rfl h64 e23 (w_iload rfl K5 (w_ic 1 rfl rfl (w_subN rfl (by omega) (w_lld rfl hw1 (by omega) hz (w_l2i rfl ?_)))))))
      rw [ez]
      exact g_wk2k hE' hw ⟨K0, K3, K4, K5, K6⟩ (by omega) (by omega) hk
set_option maxRecDepth 20000 in
theorem g_wk_loop {to : Nat} (hE : g_WE QQ h0 vs qs us) (hT : T + 776 < 3108) (hC : C + 2 < 3108) (hto : QQ (C + 2) = to) (h3 : to ≤ 303) (hsim : 0 ≤ g_sim QQ T f (to - f)) (hP : ∀ z h', g_WH h0 h' → Q (some (.long z)) h') : ∀ j i n ls h', i + j = to → f ≤ i → g_WH h0 h' → g_L5 ls C T n i → (n : Int) = g_sim QQ T f (i - f) → n ≤ i → p_wp p_GT p_MT (d + 2) m_X12_worked 37 ls [] h' Q := by
  intro j
  induction j with
  | zero =>
    intro i n ls h' hi hf hw hL hn hni
    obtain ⟨e0, e64, e2, e22, e23, e67, eq, -⟩ := hE
    obtain ⟨L0, L3, L4, L5, L6⟩ := hL
    obtain ⟨ws, hw1, hw2, hw3, hw4⟩ := hw.ws e0
    have h64 : h'[64]? = some (0, 12, vs) := by rw [hw.get (by decide)]; exact e64
    have h67 : h'[67]? = some (1, 0, qs) := by rw [hw.get (by decide)]; exact e67
    obtain ⟨y, hy1, hy2⟩ := eq (C + 2) (by omega)
    have ey : y = Int32.ofNat to := g_i32 (by omega) (by omega)
    obtain ⟨z, hz⟩ := hw3 0 (by omega)
    refine w_iload rfl L6 (w_aload_n rfl L0 (w_getf rfl rfl h64 e2 (w_iload_n rfl L3 (w_ic 2 rfl rfl (w_addN rfl (w_ld rfl h67 (by omega) hy1 (w_icmp_t rfl (t := 273) rfl ?_ (w_aload_n rfl L0 (w_getf rfl rfl h64 e23 (w_ic 0 rfl rfl (w_lld rfl hw1 (by omega) hz (w_lreturn rfl rfl (hP _ _ hw)))))))))))))
    simp only [p_cd, decide_eq_true_eq]
    rw [Int32.le_iff_toInt_le, ey, g_ofNat (by omega), g_ofNat (by omega)]
    omega
  | succ j ih =>
    intro i n ls h' hi hf hw hL hn hni
    have hE' := hE
    obtain ⟨e0, e64, e2, e22, e23, e67, eq, -⟩ := hE
    obtain ⟨L0, L3, L4, L5, L6⟩ := hL
    have h64 : h'[64]? = some (0, 12, vs) := by rw [hw.get (by decide)]; exact e64
    have h67 : h'[67]? = some (1, 0, qs) := by rw [hw.get (by decide)]; exact e67
    obtain ⟨y, hy1, hy2⟩ := eq (C + 2) (by omega)
    have ey : y = Int32.ofNat to := g_i32 (by omega) (by omega)
    obtain ⟨op, ho1, ho2⟩ := eq (T + 169 + 2 * i) (by omega)
    obtain ⟨v, hv1, hv2⟩ := eq (T + 169 + 2 * i + 1) (by omega)
    have hs : 0 ≤ g_sim QQ T f (i - f + 1) := g_sim_mono (to - f) hsim (by omega)
    obtain ⟨-, hst⟩ := g_sim_step hs
    rw [show f + (i - f) = i by omega, ← hn, ho2, hv2] at hst
    have hnx : ∀ n' : Nat, (n' : Int) = g_sim QQ T f (i - f + 1) → n' ≤ i + 1 → ∀ ls h', g_WH h0 h' → g_L5 ls C T n' i → p_wp p_GT p_MT (d + 2) m_X12_worked 267 ls [] h' Q := by
      intro n' q1 q2 ls h' hw hL
      refine w_iinc rfl hL.2.2.2.2 (by decide) (w_goto rfl (t := 37) rfl ?_)
      rw [show Int32.ofInt 1 = Int32.ofNat 1 from rfl, g_add (by omega)]
      exact ih (i + 1) n' _ _ (by omega) (by omega) hw hL.s6 (by rw [q1]; congr 1; omega) q2
    have hc : p_cd .ge (Int32.ofNat i) y = false := by
      simp only [p_cd, decide_eq_false_iff_not]
      rw [Int32.le_iff_toInt_le, ey, g_ofNat (by omega), g_ofNat (by omega)]
      omega
    have hL : g_L5 ls C T n i := ⟨L0, L3, L4, L5, L6⟩
    have hL7 := hL.s (k := 7) (x := op) (by decide)
    have hL8 := hL7.s (k := 8) (x := v) (by decide)
    have l7 : p_lk 7 (p_s1 (p_s1 ls 7 (.int op)) 8 (.int v)) = some (.int op) := w_s1 p_lk_s1 rfl (by decide)
    have l8 : p_lk 8 (p_s1 (p_s1 ls 7 (.int op)) 8 (.int v)) = some (.int v) := p_lk_s1
    refine w_iload rfl L6 (w_aload_n rfl L0 (w_getf rfl rfl h64 e2 (w_iload_n rfl L3 (w_ic 2 rfl rfl (w_addN rfl (w_ld rfl h67 (by omega) hy1 (w_icmp_f rfl (t := 273) rfl hc ?_)))))))
    refine w_aload_n rfl L0 (w_getf rfl rfl h64 e2 (w_iload rfl L4 (w_ic 2 rfl rfl (w_iload rfl L6 (w_mulN rfl (w_addN rfl (w_ld rfl h67 (by omega) ho1 (w_istore rfl (by decide) ?_))))))))
    refine w_aload_n rfl hL7.1 (w_getf rfl rfl h64 e2 (w_iload rfl hL7.2.2.1 (w_ic 2 rfl rfl (w_iload rfl hL7.2.2.2.2 (w_mulN rfl (w_addN rfl (w_ic 1 rfl rfl (w_addN rfl (w_ld rfl h67 (by omega) hv1 (w_istore rfl (by decide) ?_))))))))))
    rcases hst with ⟨a1, a2⟩ | ⟨a1, a2, a3, a4⟩ | ⟨a1, a2, a3, a4⟩ | ⟨a1, a2, a3⟩ | ⟨a1, a2, a3, a4⟩
    · have eo : op = Int32.ofNat 0 := g_i32 a1 (by omega)
      rw [eo] at l7 hL8 l8 ⊢
      exact g_wk0 hE' hw hL8 l7 l8 (by omega) (hnx (n + 1) (by omega) (by omega))
    · have eo : op = Int32.ofNat 1 := g_i32 a1 (by omega)
      have ev : v = Int32.ofNat v.toInt.toNat := g_i32 (by omega) (by omega)
      rw [eo] at l7 hL8 l8 ⊢
      exact g_wk1 (V := v.toInt.toNat) hE' hw hL8 l7 (by rw [l8, ← ev]) (by omega) (by omega) (hnx (n + 1) (by omega) (by omega))
    · have eo : op = Int32.ofNat 2 := g_i32 a1 (by omega)
      have ev : v = Int32.ofNat v.toInt.toNat := g_i32 (by omega) (by omega)
      rw [eo] at l7 hL8 l8 ⊢
      exact g_wk2 (V := v.toInt.toNat) hE' hw hL8 l7 (by rw [l8, ← ev]) (by omega) (by omega) (by omega) (hnx (n - v.toInt.toNat) (by omega) (by omega))
    · have eo : op = Int32.ofNat 3 := g_i32 a1 (by omega)
      rw [eo] at l7 hL8 l8 ⊢
      exact g_wk3 hE' hw hL8 l7 (by omega) (by omega) (hnx n (by omega) (by omega))
    · have eo : op = Int32.ofNat op.toInt.toNat := g_i32 (by omega) (by omega)
      exact g_wk4 (o := op.toInt.toNat) hE' hw hL8 (by rw [l7, ← eo]) (by omega) (by omega) (by omega) (by omega) (hnx (n - 1) (by omega) (by omega))
end GWL

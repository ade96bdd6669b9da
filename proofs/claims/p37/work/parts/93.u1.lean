/-! The auction by hand: winner, highestBut (class), winner, paid (reference) are the same functions of the bids -/
theorem b_win_le (v : Nat → Int32) : ∀ k, b_win v k ≤ k := by
  intro k
  induction k with
  | zero => exact Nat.le_refl _
  | succ k ih => simp only [b_win]; split <;> omega
section BCL
variable {h : p_H} {d c : Nat} {f2 f3 f14 rows : List Value} {v : Nat → Int32}
/-- the class's bids -/
def b_C (h : p_H) (f2 f3 f14 rows : List Value) (c : Nat) (v : Nat → Int32) : Prop := h[2]? = some (0, 11, f2) ∧ f2[0]? = some (.ref 3) ∧ h[3]? = some (0, 9, f3) ∧ f3[12]? = some (.ref 14) ∧ h[14]? = some (0, 8, f14) ∧ f14[1]? = some (.ref 15) ∧ f14[2]? = some (.int (Int32.ofNat c)) ∧ h[15]? = some (1, 0, rows) ∧ rows.length = 32 ∧ (∀ k, k < 8 → rows[4 * k]? = some (.int (v k))) ∧ c ≤ 8
theorem b_part {k : Nat} (hC : b_C h f2 f3 f14 rows c v) (hk : k < 8) : p_wp p_GT p_MT d m_X8_part 0 (lv_args 0 [.ref 14, .int (Int32.ofNat k), .int (Int32.ofNat 0)]) [] h (fun a h2 => a = some (.int (v k)) ∧ h2 = h) := by
  obtain ⟨e2, e20, e3, e312, e14, e141, e142, e15, el, ev, ec⟩ := hC
  have hv := ev k hk
  rw [show 4 * k = k * 4 + 0 by omega] at hv
  have hc1 : p_cd .lt (Int32.ofNat (k * 4 + 0)) 0 = false := by
    simp only [p_cd, decide_eq_false_iff_not]; exact g_nl (by omega)
  have hc2 : p_cd .ge (Int32.ofNat (k * 4 + 0)) (Int32.ofNat rows.length) = false := by
    simp only [p_cd, decide_eq_false_iff_not]
    rw [Int32.le_iff_toInt_le, g_ofNat (by omega), g_ofNat (by omega)]; omega
  refine w_iload_n rfl rfl (w_ic 4 rfl rfl (w_mulN rfl (w_iload_n rfl rfl (w_addN rfl (w_istore_n rfl (by decide) (w_iload_n rfl p_lk_s1 (w_ifc_f rfl (t := 28) rfl hc1 (w_iload_n rfl p_lk_s1 (w_aload_n rfl (w_s1 rfl rfl (by decide)) (w_getf rfl rfl e14 e141 (w_alen rfl e15 (w_icmp_f rfl (t := 28) rfl hc2 (w_aload_n rfl (w_s1 rfl rfl (by decide)) (w_getf rfl rfl e14 e141 (w_iload_n rfl p_lk_s1 (w_ld rfl e15 (by omega) hv (w_goto rfl (t := 29) rfl (w_ireturn rfl rfl ⟨rfl, rfl⟩))))))))))))))))))
theorem b_winner_loop {Q : Option Value → p_H → Prop} (hC : b_C h f2 f3 f14 rows c v) (h1 : 1 ≤ c) (hQ : Q (some (.int (Int32.ofNat (b_win v (c - 1))))) h) : ∀ j i ls, i + j = c → 1 ≤ i → p_lk 0 ls = some (.ref 2) → p_lk 1 ls = some (.int (Int32.ofNat (b_win v (i - 1)))) → p_lk 2 ls = some (.int (Int32.ofNat i)) → p_wp p_GT p_MT (d + 1) m_X11_winner 4 ls [] h Q := by
  intro j
  induction j with
  | zero =>
    intro i ls hi hi1 l0 l1 l2
    have hi : i = c := hi
    subst hi
    obtain ⟨e2, e20, e3, e312, e14, e141, e142, e15, el, ev, ec⟩ := hC
    refine w_iload_n rfl l2 (w_aload_n rfl l0 (w_getf rfl rfl e2 e20 (w_getf rfl rfl e3 e312 (w_getf rfl rfl e14 e142 (w_icmp_t rfl (t := 53) rfl ?_ (w_iload_n rfl l1 (w_ireturn rfl rfl hQ)))))))
    simp [p_cd]
  | succ j ih =>
    intro i ls hi hi1 l0 l1 l2
    have hC' := hC
    obtain ⟨e2, e20, e3, e312, e14, e141, e142, e15, el, ev, ec⟩ := hC
    have hw := b_win_le v (i - 1)
    have hc : p_cd .ge (Int32.ofNat i) (Int32.ofNat c) = false := by
      simp only [p_cd, decide_eq_false_iff_not]
      rw [Int32.le_iff_toInt_le, g_ofNat (by omega), g_ofNat (by omega)]; omega
    refine w_iload_n rfl l2 (w_aload_n rfl l0 (w_getf rfl rfl e2 e20 (w_getf rfl rfl e3 e312 (w_getf rfl rfl e14 e142 (w_icmp_f rfl (t := 53) rfl hc ?_)))))
    refine w_aload_n rfl l0 (w_getf rfl rfl e2 e20 (w_getf rfl rfl e3 e312 (w_iload_n rfl l2 (w_ic 0 rfl rfl (w_virtual (dc := d) (M' := m_X8_part) rfl (g_vir (n := 3) rfl rfl (by simp [p_cat, p_bd]) rfl rfl e14 rfl) rfl rfl (Nat.le_refl _) (b_part hC' (k := i) (by omega)) ?_)))))
    rintro a h2 ⟨rfl, rfl⟩
    refine w_aload_n rfl l0 (w_getf rfl rfl e2 e20 (w_getf rfl rfl e3 e312 (w_iload_n rfl l1 (w_ic 0 rfl rfl (w_virtual (dc := d) (M' := m_X8_part) rfl (g_vir (n := 3) rfl rfl (by simp [p_cat, p_bd, Value.category]) rfl rfl e14 rfl) rfl rfl (Nat.le_refl _) (b_part hC' (k := b_win v (i - 1)) (by omega)) ?_)))))
    rintro a h2 ⟨rfl, rfl⟩
    have ei : i - 1 + 1 = i := by omega
    cases hc2 : p_cd .le (v i) (v (b_win v (i - 1))) with
    | true =>
      have hw2 : b_win v i = b_win v (i - 1) := by
        rw [← ei]; simp only [b_win]; rw [ei]
        simp only [p_cd, decide_eq_true_eq] at hc2
        rw [if_neg (by rw [Int32.lt_iff_toInt_lt]; rw [Int32.le_iff_toInt_le] at hc2; omega)]
      refine w_icmp_t rfl (t := 47) rfl hc2 (w_iinc rfl l2 (by decide) (w_goto rfl (t := 4) rfl ?_))
      rw [show Int32.ofInt 1 = Int32.ofNat 1 from rfl, g_add (by omega)]
      exact ih (i + 1) _ (by omega) (by omega) (w_s1 l0 rfl (by decide)) (by rw [Nat.add_sub_cancel, hw2]; exact w_s1 l1 rfl (by decide)) p_lk_s1
    | false =>
      have hw2 : b_win v i = i := by
        rw [← ei]; simp only [b_win]; rw [ei]
        simp only [p_cd, decide_eq_false_iff_not] at hc2
        rw [if_pos (by rw [Int32.lt_iff_toInt_lt]; rw [Int32.le_iff_toInt_le] at hc2; omega)]
      refine w_icmp_f rfl (t := 47) rfl hc2 (w_iload_n rfl l2 (w_istore_n rfl (by decide) (w_iinc rfl (w_s1 l2 rfl (by decide)) (by decide) (w_goto rfl (t := 4) rfl ?_))))
      rw [show Int32.ofInt 1 = Int32.ofNat 1 from rfl, g_add (by omega)]
      exact ih (i + 1) _ (by omega) (by omega) (w_s1 (w_s1 l0 rfl (by decide)) rfl (by decide)) (by rw [Nat.add_sub_cancel, hw2]; exact w_s1 p_lk_s1 rfl (by decide)) p_lk_s1
theorem b_winner (hC : b_C h f2 f3 f14 rows c v) (h1 : 1 ≤ c) : p_wp p_GT p_MT (d + 1) m_X11_winner 0 (lv_args 0 [.ref 2]) [] h (fun a h2 => a = some (.int (Int32.ofNat (b_win v (c - 1)))) ∧ h2 = h) := by
  refine w_ic 0 rfl rfl (w_istore_n rfl (by decide) (w_ic 1 rfl rfl (w_istore_n rfl (by decide) ?_)))
  exact b_winner_loop hC h1 ⟨rfl, rfl⟩ (c - 1) 1 _ (by omega) (by omega) (w_s1 (w_s1 rfl rfl (by decide)) rfl (by decide)) (w_s1 p_lk_s1 rfl (by decide)) p_lk_s1
end BCL
section BRF
variable {h : p_H} {d c : Nat} {vs ws : List Value} {v : Nat → Int32}
/-- the reference's bids -/
def b_R (h : p_H) (vs ws : List Value) (c : Nat) (v : Nat → Int32) : Prop := h[64]? = some (0, 12, vs) ∧ vs[0]? = some (.ref 65) ∧ h[65]? = some (1, 0, ws) ∧ ws[6]? = some (.int (Int32.ofNat c)) ∧ (∀ k, k < 8 → ws[331 + k]? = some (.int (v k))) ∧ c ≤ 8
theorem b_rwinner_loop {Q : Option Value → p_H → Prop} (hR : b_R h vs ws c v) (h1 : 1 ≤ c) (hQ : Q (some (.int (Int32.ofNat (b_win v (c - 1))))) h) : ∀ j i ls, i + j = c → 1 ≤ i → p_lk 0 ls = some (.ref 64) → p_lk 1 ls = some (.int (Int32.ofNat (b_win v (i - 1)))) → p_lk 2 ls = some (.int (Int32.ofNat i)) → p_wp p_GT p_MT d m_X12_winner 4 ls [] h Q := by
  intro j
  induction j with
  | zero =>
    intro i ls hi hi1 l0 l1 l2
    have hi : i = c := hi
    subst hi
    obtain ⟨e64, e0, e65, e6, ev, ec⟩ := hR
    refine w_iload_n rfl l2 (w_aload_n rfl l0 (w_getf rfl rfl e64 e0 (w_bp 6 rfl rfl (w_ld rfl e65 (by decide) e6 (w_icmp_t rfl (t := 46) rfl ?_ (w_iload_n rfl l1 (w_ireturn rfl rfl hQ)))))))
    simp [p_cd]
  | succ j ih =>
    intro i ls hi hi1 l0 l1 l2
    obtain ⟨e64, e0, e65, e6, ev, ec⟩ := hR
    have hw := b_win_le v (i - 1)
    have hc : p_cd .ge (Int32.ofNat i) (Int32.ofNat c) = false := by
      simp only [p_cd, decide_eq_false_iff_not]
      rw [Int32.le_iff_toInt_le, g_ofNat (by omega), g_ofNat (by omega)]; omega
    refine w_iload_n rfl l2 (w_aload_n rfl l0 (w_getf rfl rfl e64 e0 (w_bp 6 rfl rfl (w_ld rfl e65 (by decide) e6 (w_icmp_f rfl (t := 46) rfl hc ?_)))))
    refine w_aload_n rfl l0 (w_getf rfl rfl e64 e0 (w_sp 331 rfl rfl (w_iload_n rfl l2 (w_addN rfl (w_ld rfl e65 (by omega) (ev i (by omega)) (w_aload_n rfl l0 (w_getf rfl rfl e64 e0 (w_sp 331 rfl rfl (w_iload_n rfl l1 (w_addN rfl (w_ld rfl e65 (by omega) (ev (b_win v (i - 1)) (by omega)) ?_)))))))))))
    have ei : i - 1 + 1 = i := by omega
    cases hc2 : p_cd .le (v i) (v (b_win v (i - 1))) with
    | true =>
      have hw2 : b_win v i = b_win v (i - 1) := by
        rw [← ei]; simp only [b_win]; rw [ei]
        simp only [p_cd, decide_eq_true_eq] at hc2
        rw [if_neg (by rw [Int32.lt_iff_toInt_lt]; rw [Int32.le_iff_toInt_le] at hc2; omega)]
      refine w_icmp_t rfl (t := 40) rfl hc2 (w_iinc rfl l2 (by decide) (w_goto rfl (t := 4) rfl ?_))
      rw [show Int32.ofInt 1 = Int32.ofNat 1 from rfl, g_add (by omega)]
      exact ih (i + 1) _ (by omega) (by omega) (w_s1 l0 rfl (by decide)) (by rw [Nat.add_sub_cancel, hw2]; exact w_s1 l1 rfl (by decide)) p_lk_s1
    | false =>
      have hw2 : b_win v i = i := by
        rw [← ei]; simp only [b_win]; rw [ei]
        simp only [p_cd, decide_eq_false_iff_not] at hc2
        rw [if_pos (by rw [Int32.lt_iff_toInt_lt]; rw [Int32.le_iff_toInt_le] at hc2; omega)]
      refine w_icmp_f rfl (t := 40) rfl hc2 (w_iload_n rfl l2 (w_istore_n rfl (by decide) (w_iinc rfl (w_s1 l2 rfl (by decide)) (by decide) (w_goto rfl (t := 4) rfl ?_))))
      rw [show Int32.ofInt 1 = Int32.ofNat 1 from rfl, g_add (by omega)]
      exact ih (i + 1) _ (by omega) (by omega) (w_s1 (w_s1 l0 rfl (by decide)) rfl (by decide)) (by rw [Nat.add_sub_cancel, hw2]; exact w_s1 p_lk_s1 rfl (by decide)) p_lk_s1
theorem b_rwinner (hR : b_R h vs ws c v) (h1 : 1 ≤ c) : p_wp p_GT p_MT d m_X12_winner 0 (lv_args 0 [.ref 64]) [] h (fun a h2 => a = some (.int (Int32.ofNat (b_win v (c - 1)))) ∧ h2 = h) := by
  refine w_ic 0 rfl rfl (w_istore_n rfl (by decide) (w_ic 1 rfl rfl (w_istore_n rfl (by decide) ?_)))
  exact b_rwinner_loop hR h1 ⟨rfl, rfl⟩ (c - 1) 1 _ (by omega) (by omega) (w_s1 (w_s1 rfl rfl (by decide)) rfl (by decide)) (w_s1 p_lk_s1 rfl (by decide)) p_lk_s1
end BRF

/-! highestBut and paid -/
theorem b_jmax {h : p_H} {d : Nat} {x y : Int32} : p_wp p_GT p_MT d m_J9_max_7cf53 0 (lv_args 0 [.int x, .int y]) [] h (fun a h2 => a = some (.int (if x < y then y else x)) ∧ h2 = h) := by
  refine w_iload_n rfl rfl (w_iload_n rfl rfl ?_)
  cases hc : p_cd .lt x y with
  | true =>
    have q : x < y := by simpa only [p_cd, decide_eq_true_eq] using hc
    exact w_icmp_t rfl (t := 9) rfl hc (w_iload_n rfl rfl (w_ireturn rfl rfl ⟨by rw [if_pos q], rfl⟩))
  | false =>
    have q : ¬ x < y := by simpa only [p_cd, decide_eq_false_iff_not] using hc
    exact w_icmp_f rfl (t := 9) rfl hc (w_iload_n rfl rfl (w_goto rfl (t := 10) rfl (w_ireturn rfl rfl ⟨by rw [if_neg q], rfl⟩)))
theorem b_ofNat_ne {a b : Nat} (ha : a < 100000) (hb : b < 100000) (h : a ≠ b) : ¬ Int32.ofNat a = Int32.ofNat b := by
  intro q
  have := congrArg Int32.toInt q
  rw [g_ofNat ha, g_ofNat hb] at this
  omega
section BHC
variable {h : p_H} {d c one : Nat} {f2 f3 f14 rows : List Value} {v : Nat → Int32}
theorem b_high_loop {Q : Option Value → p_H → Prop} (hC : b_C h f2 f3 f14 rows c v) (ho : one < 8) (hQ : Q (some (.int (b_max v one c))) h) : ∀ j i ls, i + j = c → p_lk 0 ls = some (.ref 2) → p_lk 1 ls = some (.int (Int32.ofNat one)) → p_lk 2 ls = some (.int (b_max v one i)) → p_lk 3 ls = some (.int (Int32.ofNat i)) → p_wp p_GT p_MT (d + 1) m_X11_highestBut 4 ls [] h Q := by
  intro j
  induction j with
  | zero =>
    intro i ls hi l0 l1 l2 l3
    have hi : i = c := hi
    subst hi
    obtain ⟨e2, e20, e3, e312, e14, e141, e142, e15, el, ev, ec⟩ := hC
    refine w_iload_n rfl l3 (w_aload_n rfl l0 (w_getf rfl rfl e2 e20 (w_getf rfl rfl e3 e312 (w_getf rfl rfl e14 e142 (w_icmp_t rfl (t := 46) rfl ?_ (w_iload_n rfl l2 (w_ireturn rfl rfl hQ)))))))
    simp [p_cd]
  | succ j ih =>
    intro i ls hi l0 l1 l2 l3
    have hC' := hC
    obtain ⟨e2, e20, e3, e312, e14, e141, e142, e15, el, ev, ec⟩ := hC
    have hc : p_cd .ge (Int32.ofNat i) (Int32.ofNat c) = false := by
      simp only [p_cd, decide_eq_false_iff_not]
      rw [Int32.le_iff_toInt_le, g_ofNat (by omega), g_ofNat (by omega)]; omega
    refine w_iload_n rfl l3 (w_aload_n rfl l0 (w_getf rfl rfl e2 e20 (w_getf rfl rfl e3 e312 (w_getf rfl rfl e14 e142 (w_icmp_f rfl (t := 46) rfl hc (w_iload_n rfl l3 (w_iload_n rfl l1 ?_)))))))
    by_cases e : i = one
    · subst e
      refine w_icmp_t rfl (t := 40) rfl (by simp [p_cd]) (w_iinc rfl l3 (by decide) (w_goto rfl (t := 4) rfl ?_))
      rw [show Int32.ofInt 1 = Int32.ofNat 1 from rfl, g_add (by omega)]
      exact ih (i + 1) _ (by omega) (w_s1 l0 rfl (by decide)) (w_s1 l1 rfl (by decide)) (by simp only [b_max]; rw [if_pos trivial]; exact w_s1 l2 rfl (by decide)) p_lk_s1
    · have hne : p_cd .eq (Int32.ofNat i) (Int32.ofNat one) = false := by
        simp only [p_cd, decide_eq_false_iff_not]; exact b_ofNat_ne (by omega) (by omega) e
      refine w_icmp_f rfl (t := 40) rfl hne (w_iload_n rfl l2 (w_aload_n rfl l0 (w_getf rfl rfl e2 e20 (w_getf rfl rfl e3 e312 (w_iload_n rfl l3 (w_ic 0 rfl rfl (w_virtual (dc := d) (M' := m_X8_part) rfl (g_vir (n := 3) rfl rfl (by simp [p_cat, p_bd, Value.category]) rfl rfl e14 rfl) rfl rfl (Nat.le_refl _) (b_part hC' (k := i) (by omega)) ?_)))))))
      rintro a h2 ⟨rfl, rfl⟩
      refine w_static (nn := 0) (dc := d) (M' := m_J9_max_7cf53) rfl rfl rfl rfl (Nat.le_refl _) b_jmax ?_
      rintro a h2 ⟨rfl, rfl⟩
      refine w_istore_n rfl (by decide) (w_iinc rfl (w_s1 l3 rfl (by decide)) (by decide) (w_goto rfl (t := 4) rfl ?_))
      rw [show Int32.ofInt 1 = Int32.ofNat 1 from rfl, g_add (by omega)]
      exact ih (i + 1) _ (by omega) (w_s1 (w_s1 l0 rfl (by decide)) rfl (by decide)) (w_s1 (w_s1 l1 rfl (by decide)) rfl (by decide)) (by simp only [b_max]; rw [if_neg e]; exact w_s1 p_lk_s1 rfl (by decide)) p_lk_s1
theorem b_high (hC : b_C h f2 f3 f14 rows c v) (ho : one < 8) : p_wp p_GT p_MT (d + 1) m_X11_highestBut 0 (lv_args 0 [.ref 2, .int (Int32.ofNat one)]) [] h (fun a h2 => a = some (.int (b_max v one c)) ∧ h2 = h) := by
  refine w_ic 0 rfl rfl (w_istore_n rfl (by decide) (w_ic 0 rfl rfl (w_istore_n rfl (by decide) ?_)))
  exact b_high_loop hC ho ⟨rfl, rfl⟩ c 0 _ (by omega) (w_s1 (w_s1 rfl rfl (by decide)) rfl (by decide)) (w_s1 (w_s1 rfl rfl (by decide)) rfl (by decide)) (w_s1 p_lk_s1 rfl (by decide)) p_lk_s1
end BHC
section BPD
variable {h : p_H} {d c one : Nat} {vs ws : List Value} {v : Nat → Int32}
theorem b_paid_loop {Q : Option Value → p_H → Prop} (hR : b_R h vs ws c v) (ho : one < 8) (hQ : Q (some (.int (b_max v one c))) h) : ∀ j i ls, i + j = c → p_lk 0 ls = some (.ref 64) → p_lk 2 ls = some (.int (Int32.ofNat one)) → p_lk 1 ls = some (.int (b_max v one i)) → p_lk 3 ls = some (.int (Int32.ofNat i)) → p_wp p_GT p_MT d m_X12_paid 9 ls [] h Q := by
  intro j
  induction j with
  | zero =>
    intro i ls hi l0 l2 l1 l3
    have hi : i = c := hi
    subst hi
    obtain ⟨e64, e0, e65, e6, ev, ec⟩ := hR
    refine w_iload_n rfl l3 (w_aload_n rfl l0 (w_getf rfl rfl e64 e0 (w_bp 6 rfl rfl (w_ld rfl e65 (by decide) e6 (w_icmp_t rfl (t := 56) rfl ?_ (w_iload_n rfl l1 (w_ireturn rfl rfl hQ)))))))
    simp [p_cd]
  | succ j ih =>
    intro i ls hi l0 l2 l1 l3
    obtain ⟨e64, e0, e65, e6, ev, ec⟩ := hR
    have hc : p_cd .ge (Int32.ofNat i) (Int32.ofNat c) = false := by
      simp only [p_cd, decide_eq_false_iff_not]
      rw [Int32.le_iff_toInt_le, g_ofNat (by omega), g_ofNat (by omega)]; omega
    refine w_iload_n rfl l3 (w_aload_n rfl l0 (w_getf rfl rfl e64 e0 (w_bp 6 rfl rfl (w_ld rfl e65 (by decide) e6 (w_icmp_f rfl (t := 56) rfl hc (w_iload_n rfl l3 (w_iload_n rfl l2 ?_)))))))
    by_cases e : i = one
    · subst e
      refine w_icmp_t rfl (t := 50) rfl (by simp [p_cd]) (w_iinc rfl l3 (by decide) (w_goto rfl (t := 9) rfl ?_))
      rw [show Int32.ofInt 1 = Int32.ofNat 1 from rfl, g_add (by omega)]
      exact ih (i + 1) _ (by omega) (w_s1 l0 rfl (by decide)) (w_s1 l2 rfl (by decide)) (by simp only [b_max]; rw [if_pos trivial]; exact w_s1 l1 rfl (by decide)) p_lk_s1
    · have hne : p_cd .eq (Int32.ofNat i) (Int32.ofNat one) = false := by
        simp only [p_cd, decide_eq_false_iff_not]; exact b_ofNat_ne (by omega) (by omega) e
      refine w_icmp_f rfl (t := 50) rfl hne (w_aload_n rfl l0 (w_getf rfl rfl e64 e0 (w_sp 331 rfl rfl (w_iload_n rfl l3 (w_addN rfl (w_ld rfl e65 (by omega) (ev i (by omega)) (w_iload_n rfl l1 ?_)))))))
      cases hc2 : p_cd .le (v i) (b_max v one i) with
      | true =>
        have q : ¬ b_max v one i < v i := by
          simp only [p_cd, decide_eq_true_eq] at hc2
          rw [Int32.lt_iff_toInt_lt]; rw [Int32.le_iff_toInt_le] at hc2; omega
        refine w_icmp_t rfl (t := 50) rfl hc2 (w_iinc rfl l3 (by decide) (w_goto rfl (t := 9) rfl ?_))
        rw [show Int32.ofInt 1 = Int32.ofNat 1 from rfl, g_add (by omega)]
        exact ih (i + 1) _ (by omega) (w_s1 l0 rfl (by decide)) (w_s1 l2 rfl (by decide)) (by simp only [b_max]; rw [if_neg e, if_neg q]; exact w_s1 l1 rfl (by decide)) p_lk_s1
      | false =>
        have q : b_max v one i < v i := by
          simp only [p_cd, decide_eq_false_iff_not] at hc2
          rw [Int32.lt_iff_toInt_lt]; rw [Int32.le_iff_toInt_le] at hc2; omega
        refine w_icmp_f rfl (t := 50) rfl hc2 (w_aload_n rfl l0 (w_getf rfl rfl e64 e0 (w_sp 331 rfl rfl (w_iload_n rfl l3 (w_addN rfl (w_ld rfl e65 (by omega) (ev i (by omega)) (w_istore_n rfl (by decide) (w_iinc rfl (w_s1 l3 rfl (by decide)) (by decide) (w_goto rfl (t := 9) rfl ?_)))))))))
        rw [show Int32.ofInt 1 = Int32.ofNat 1 from rfl, g_add (by omega)]
        exact ih (i + 1) _ (by omega) (w_s1 (w_s1 l0 rfl (by decide)) rfl (by decide)) (w_s1 (w_s1 l2 rfl (by decide)) rfl (by decide)) (by simp only [b_max]; rw [if_neg e, if_pos q]; exact w_s1 p_lk_s1 rfl (by decide)) p_lk_s1
theorem b_paid (hR : b_R h vs ws c v) (h1 : 1 ≤ c) : p_wp p_GT p_MT (d + 1) m_X12_paid 0 (lv_args 0 [.ref 64]) [] h (fun a h2 => a = some (.int (b_max v (b_win v (c - 1)) c)) ∧ h2 = h) := by
  have hR' := hR
  obtain ⟨e64, e0, e65, e6, ev, ec⟩ := hR
  have hw := b_win_le v (c - 1)
  refine w_ic 0 rfl rfl (w_istore_n rfl (by decide) (w_aload_n rfl (w_s1 rfl rfl (by decide)) (w_virtual (dc := d) (M' := m_X12_winner) rfl (g_vir (n := 1) rfl rfl (by decide) rfl rfl e64 rfl) rfl rfl (Nat.le_refl _) (b_rwinner hR' h1) ?_)))
  rintro a h2 ⟨rfl, rfl⟩
  refine w_istore_n rfl (by decide) (w_ic 0 rfl rfl (w_istore_n rfl (by decide) ?_))
  exact b_paid_loop hR' (by omega) ⟨rfl, rfl⟩ c 0 _ (by omega) (w_s1 (w_s1 (w_s1 rfl rfl (by decide)) rfl (by decide)) rfl (by decide)) (w_s1 p_lk_s1 rfl (by decide)) (w_s1 (w_s1 p_lk_s1 rfl (by decide)) rfl (by decide)) p_lk_s1
end BPD

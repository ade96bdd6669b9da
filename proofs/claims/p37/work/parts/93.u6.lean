/-! The class's lies: the run -/
section BLC
variable {h : p_H} {d c k : Nat} {f2 f3 f14 rows : List Value} {v : Nat → Int32}
theorem b_within {h : p_H} {d : Nat} {x y z : Int32} : p_wp p_GT p_MT d m_X11_within 0 (lv_args 0 [.int x, .int y, .int z]) [] h (fun a h2 => a = some (.int (if y ≤ x ∧ x ≤ z then 1 else 0)) ∧ h2 = h) := by
  refine w_iload_n rfl rfl (w_iload_n rfl rfl ?_)
  cases hc : p_cd .lt x y with
  | true =>
    have q : ¬ (y ≤ x ∧ x ≤ z) := by
      simp only [p_cd, decide_eq_true_eq, Int32.lt_iff_toInt_lt] at hc
      rw [Int32.le_iff_toInt_le, Int32.le_iff_toInt_le]; omega
    exact w_icmp_t rfl (t := 14) rfl hc (w_iconst rfl (w_ireturnb rfl rfl rfl ⟨by rw [if_neg q]; rfl, rfl⟩))
  | false =>
    refine w_icmp_f rfl (t := 14) rfl hc (w_iload_n rfl rfl (w_iload_n rfl rfl ?_))
    cases hc2 : p_cd .gt x z with
    | true =>
      have q : ¬ (y ≤ x ∧ x ≤ z) := by
        simp only [p_cd, decide_eq_true_eq, Int32.lt_iff_toInt_lt] at hc2
        rw [Int32.le_iff_toInt_le, Int32.le_iff_toInt_le]; omega
      exact w_icmp_t rfl (t := 14) rfl hc2 (w_iconst rfl (w_ireturnb rfl rfl rfl ⟨by rw [if_neg q]; rfl, rfl⟩))
    | false =>
      have q : y ≤ x ∧ x ≤ z := by
        simp only [p_cd, decide_eq_false_iff_not, Int32.lt_iff_toInt_lt] at hc hc2
        rw [Int32.le_iff_toInt_le, Int32.le_iff_toInt_le]; omega
      exact w_icmp_f rfl (t := 14) rfl hc2 (w_iconst rfl (w_goto rfl (t := 15) rfl (w_ireturnb rfl rfl rfl ⟨by rw [if_pos q]; rfl, rfl⟩)))
theorem b_clies_in (hC : b_C h f2 f3 f14 rows c v) (hkc : k < c) : p_wp p_GT p_MT (d + 2) m_X11_lies 0 (lv_args 0 [.ref 2, .int (Int32.ofNat k)]) [] h (fun a h2 => a = some (.int ((if v k - b_max v k c < 0 then 0 else v k - b_max v k c) - b_get v k c (v k))) ∧ h2 = h) := by
  have hC' := hC
  obtain ⟨e2, e20, e3, e312, e14, e141, e142, e15, el, ev, ec⟩ := hC
  refine w_iload_n rfl rfl (w_iconst rfl (w_aload_n rfl rfl (w_getf rfl rfl e2 e20 (w_getf rfl rfl e3 e312 (w_getf rfl rfl e14 e142 (w_ic 1 rfl rfl (w_subN rfl (by omega) (w_static (nn := 0) (dc := d + 1) (M' := m_X11_within) rfl rfl rfl rfl (Nat.le_refl _) b_within ?_))))))))
  rintro a h2 ⟨rfl, rfl⟩
  rw [if_pos ⟨by rw [Int32.le_iff_toInt_le, g_ofNat (by omega)]; exact Int.natCast_nonneg k, by rw [Int32.le_iff_toInt_le, g_ofNat (by omega), g_ofNat (by omega)]; omega⟩]
  refine w_ifc_t rfl (t := 23) rfl (by decide) (w_aload_n rfl rfl (w_getf rfl rfl e2 e20 (w_getf rfl rfl e3 e312 (w_iload_n rfl rfl (w_ic 0 rfl rfl (w_virtual (dc := d + 1) (M' := m_X8_part) rfl (g_vir (n := 3) rfl rfl (by simp [p_cat, p_bd]) rfl rfl e14 rfl) rfl rfl (Nat.le_refl _) (b_part hC' (k := k) (by omega)) ?_))))))
  rintro a h2 ⟨rfl, rfl⟩
  refine w_aload_n rfl rfl (w_iload_n rfl rfl (w_virtual (dc := d + 1) (M' := m_X11_highestBut) rfl (g_vir (n := 2) rfl rfl (by simp [p_cat, p_bd, Value.category]) rfl rfl e2 rfl) rfl rfl (Nat.le_refl _) (b_high hC' (one := k) (by omega)) ?_))
  rintro a h2 ⟨rfl, rfl⟩
  refine w_isub rfl (w_istore_n rfl (by decide) (w_aload_n rfl (w_s1 rfl rfl (by decide)) (w_virtual (dc := d + 1) (M' := m_X11_winner) rfl (g_vir (n := 1) rfl rfl (by simp [p_cat, p_bd, Value.category]) rfl rfl e2 rfl) rfl rfl (Nat.le_refl _) (b_winner hC' (by omega)) ?_)))
  rintro a h2 ⟨rfl, rfl⟩
  have hw := b_win_le v (c - 1)
  have tail : ∀ z : Int32, z = b_get v k c (v k) → p_wp p_GT p_MT (d + 2) m_X11_lies 55 (p_s1 (lv_args 0 [.ref 2, .int (Int32.ofNat k)]) 2 (.int (v k - b_max v k c))) [.int z] h2 (fun a h3 => a = some (.int ((if v k - b_max v k c < 0 then 0 else v k - b_max v k c) - b_get v k c (v k))) ∧ h3 = h2) := by
    intro z hz
    refine w_istore_n rfl (by decide) (w_iload_n rfl (w_s1 p_lk_s1 rfl (by decide)) (w_iconst rfl (w_static (nn := 0) (dc := d + 1) (M' := m_J9_max_7cf53) rfl rfl rfl rfl (Nat.le_refl _) b_jmax ?_)))
    rintro a h3 ⟨rfl, rfl⟩
    refine w_iload_n rfl p_lk_s1 (w_isub rfl (w_ireturn rfl rfl ⟨?_, rfl⟩))
    rw [hz]; rfl
  by_cases e : b_win v (c - 1) = k
  · refine w_iload_n rfl (w_s1 rfl rfl (by decide)) (w_icmp_f rfl (t := 54) rfl (by rw [e]; simp [p_cd]) (w_iload_n rfl p_lk_s1 (w_goto rfl (t := 55) rfl (tail _ ?_))))
    unfold b_get; rw [if_pos e, e]
  · have hne : p_cd .ne (Int32.ofNat (b_win v (c - 1))) (Int32.ofNat k) = true := by
      simp only [p_cd, decide_eq_true_eq]; exact b_ofNat_ne (by omega) (by omega) e
    refine w_iload_n rfl (w_s1 rfl rfl (by decide)) (w_icmp_t rfl (t := 54) rfl hne (w_iconst rfl (tail _ ?_)))
    unfold b_get; rw [if_neg e]; rfl
end BLC

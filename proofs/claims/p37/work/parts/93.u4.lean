/-! The reference's lies: the run -/
section BLK
variable {h : p_H} {d c k : Nat} {vs ws : List Value} {v : Nat → Int32}
theorem b_getA {Q : Option Value → p_H → Prop} {ls : p_Ls} {g : Int32} (hR : b_R h vs ws c v) (h1 : 1 ≤ c) (hk : k < 8) (l0 : p_lk 0 ls = some (.ref 64)) (l1 : p_lk 1 ls = some (.int (Int32.ofNat k))) (l2 : p_lk 2 ls = some (.int g)) (hK : p_wp p_GT p_MT (d + 2) m_X12_lies 49 ls [.int (b_get v k c g)] h Q) : p_wp p_GT p_MT (d + 2) m_X12_lies 31 ls [] h Q := by
  have hR' := hR
  obtain ⟨e64, e0, e65, e6, ev, ec⟩ := hR
  have hw := b_win_le v (c - 1)
  refine w_aload_n rfl l0 (w_virtual (dc := d + 1) (M' := m_X12_winner) rfl (g_vir (n := 1) rfl rfl (by decide) rfl rfl e64 rfl) rfl rfl (Nat.le_refl _) (b_rwinner hR' h1) ?_)
  rintro a h2 ⟨rfl, rfl⟩
  by_cases e : b_win v (c - 1) = k
  · refine w_iload_n rfl l1 (w_icmp_f rfl (t := 48) rfl (by rw [e]; simp [p_cd]) (w_iload_n rfl l2 (w_aload_n rfl l0 (w_virtual (dc := d + 1) (M' := m_X12_paid) rfl (g_vir (n := 1) rfl rfl (by simp [p_cat, p_bd, Value.category]) rfl rfl e64 rfl) rfl rfl (Nat.le_refl _) (b_paid hR' h1) ?_))))
    rintro a h2 ⟨rfl, rfl⟩
    refine w_isub rfl (w_goto rfl (t := 49) rfl ?_)
    have : b_get v k c g = g - b_max v (b_win v (c - 1)) c := by unfold b_get; rw [if_pos e]
    rw [← this]; exact hK
  · have hne : p_cd .ne (Int32.ofNat (b_win v (c - 1))) (Int32.ofNat k) = true := by
      simp only [p_cd, decide_eq_true_eq]; exact b_ofNat_ne (by omega) (by omega) e
    refine w_iload_n rfl l1 (w_icmp_t rfl (t := 48) rfl hne (w_iconst rfl ?_))
    have : b_get v k c g = 0 := by unfold b_get; rw [if_neg e]
    rw [this] at hK; exact hK
theorem b_getB {Q : Option Value → p_H → Prop} {ls : p_Ls} {g : Int32} (hR : b_R h vs ws c v) (h1 : 1 ≤ c) (hk : k < 8) (l0 : p_lk 0 ls = some (.ref 64)) (l1 : p_lk 1 ls = some (.int (Int32.ofNat k))) (l2 : p_lk 2 ls = some (.int g)) (hK : p_wp p_GT p_MT (d + 2) m_X12_lies 96 ls [.int (b_get v k c g)] h Q) : p_wp p_GT p_MT (d + 2) m_X12_lies 78 ls [] h Q := by
  have hR' := hR
  obtain ⟨e64, e0, e65, e6, ev, ec⟩ := hR
  have hw := b_win_le v (c - 1)
  refine w_aload_n rfl l0 (w_virtual (dc := d + 1) (M' := m_X12_winner) rfl (g_vir (n := 1) rfl rfl (by decide) rfl rfl e64 rfl) rfl rfl (Nat.le_refl _) (b_rwinner hR' h1) ?_)
  rintro a h2 ⟨rfl, rfl⟩
  by_cases e : b_win v (c - 1) = k
  · refine w_iload_n rfl l1 (w_icmp_f rfl (t := 95) rfl (by rw [e]; simp [p_cd]) (w_iload_n rfl l2 (w_aload_n rfl l0 (w_virtual (dc := d + 1) (M' := m_X12_paid) rfl (g_vir (n := 1) rfl rfl (by simp [p_cat, p_bd, Value.category]) rfl rfl e64 rfl) rfl rfl (Nat.le_refl _) (b_paid hR' h1) ?_))))
    rintro a h2 ⟨rfl, rfl⟩
    refine w_isub rfl (w_goto rfl (t := 96) rfl ?_)
    have : b_get v k c g = g - b_max v (b_win v (c - 1)) c := by unfold b_get; rw [if_pos e]
    rw [← this]; exact hK
  · have hne : p_cd .ne (Int32.ofNat (b_win v (c - 1))) (Int32.ofNat k) = true := by
      simp only [p_cd, decide_eq_true_eq]; exact b_ofNat_ne (by omega) (by omega) e
    refine w_iload_n rfl l1 (w_icmp_t rfl (t := 95) rfl hne (w_iconst rfl ?_))
    have : b_get v k c g = 0 := by unfold b_get; rw [if_neg e]
    rw [this] at hK; exact hK
theorem b_lies_loop {Q : Option Value → p_H → Prop} {own : Int32} (hR : b_R h vs ws c v) (h1 : 1 ≤ c) (hk : k < 8) (hl : 339 ≤ ws.length) (hQ : Q (some (.int (b_best v k c (v k) 1000 - own))) h) : ∀ j n ls y, n + j = 1000 → p_lk 0 ls = some (.ref 64) → p_lk 1 ls = some (.int (Int32.ofNat k)) → p_lk 2 ls = some (.int (v k)) → p_lk 3 ls = some (.int own) → p_lk 4 ls = some (.int (b_best v k c (v k) n)) → p_lk 5 ls = some (.int (Int32.ofNat n)) → p_wp p_GT p_MT (d + 2) m_X12_lies 58 ls [] (h.set 65 (1, 0, ws.set (331 + k) (.int y))) Q := by
  have h65 : 65 < h.length := (List.getElem?_eq_some_iff.mp hR.2.2.1).1
  intro j
  induction j with
  | zero =>
    intro n ls y hn l0 l1 l2 l3 l4 l5
    have hn : n = 1000 := hn
    subst hn
    obtain ⟨f64, f0, f65, f6, fv, fc⟩ := hR.set (y := y) hk hl
    refine w_iload rfl l5 (w_sp 999 rfl rfl (w_icmp_t rfl (t := 120) rfl (by decide) (w_aload_n rfl l0 (w_getf rfl rfl f64 f0 (w_sp 331 rfl rfl (w_iload_n rfl l1 (w_addN rfl (w_iload_n rfl l2 (w_st rfl f65 (by omega) (by rw [List.length_set]; omega) (w_iload rfl l4 (w_iload_n rfl l3 (w_isub rfl (w_ireturn rfl rfl ?_)))))))))))))
    obtain ⟨e64, e0, e65, e6, ev, ec⟩ := hR
    obtain ⟨hl2, e⟩ := List.getElem?_eq_some_iff.mp (ev k hk)
    obtain ⟨hl3, e'⟩ := List.getElem?_eq_some_iff.mp e65
    rw [List.set_set, List.set_set, ← e, List.set_getElem_self, ← e', List.set_getElem_self]
    exact hQ
  | succ j ih =>
    intro n ls y hn l0 l1 l2 l3 l4 l5
    obtain ⟨f64, f0, f65, f6, fv, fc⟩ := hR.set (y := y) hk hl
    have hR2 := hR.set (y := Int32.ofNat n) hk hl
    have hc : p_cd .gt (Int32.ofNat n) (Int32.ofNat 999) = false := by
      simp only [p_cd, decide_eq_false_iff_not]
      rw [Int32.lt_iff_toInt_lt, g_ofNat (by omega), g_ofNat (by omega)]; omega
    refine w_iload rfl l5 (w_sp 999 rfl rfl (w_icmp_f rfl (t := 120) rfl hc (w_aload_n rfl l0 (w_getf rfl rfl f64 f0 (w_sp 331 rfl rfl (w_iload_n rfl l1 (w_addN rfl (w_iload rfl l5 (w_st rfl f65 (by omega) (by rw [List.length_set]; omega) ?_)))))))))
    rw [List.set_set, List.set_set]
    refine b_getB hR2 h1 hk l0 l1 l2 (w_istore rfl (by decide) (w_iload rfl p_lk_s1 (w_iload rfl (w_s1 l4 rfl (by decide)) ?_)))
    obtain ⟨z, hz⟩ : ∃ z, z = b_get (b_upd v k (Int32.ofNat n)) k c (v k) := ⟨_, rfl⟩
    rw [← hz]
    cases hc2 : p_cd .le z (b_best v k c (v k) n) with
    | true =>
      have q : z ≤ b_best v k c (v k) n := by simpa only [p_cd, decide_eq_true_eq] using hc2
      refine w_icmp_t rfl (t := 110) rfl hc2 (w_iload rfl (w_s1 l4 rfl (by decide)) (w_istore rfl (by decide) (w_iinc rfl (w_s1 (w_s1 l5 rfl (by decide)) rfl (by decide)) (by decide) (w_goto rfl (t := 58) rfl ?_))))
      rw [show Int32.ofInt 1 = Int32.ofNat 1 from rfl, g_add (by omega)]
      refine ih (n + 1) _ _ (by omega) (w_s1 (w_s1 (w_s1 l0 rfl (by decide)) rfl (by decide)) rfl (by decide)) (w_s1 (w_s1 (w_s1 l1 rfl (by decide)) rfl (by decide)) rfl (by decide)) (w_s1 (w_s1 (w_s1 l2 rfl (by decide)) rfl (by decide)) rfl (by decide)) (w_s1 (w_s1 (w_s1 l3 rfl (by decide)) rfl (by decide)) rfl (by decide)) ?_ p_lk_s1
      have e : b_best v k c (v k) (n + 1) = b_best v k c (v k) n := by simp only [b_best]; rw [← hz, if_pos q]
      rw [e]; exact w_s1 p_lk_s1 rfl (by decide)
    | false =>
      have q : ¬ z ≤ b_best v k c (v k) n := by simpa only [p_cd, decide_eq_false_iff_not] using hc2
      refine w_icmp_f rfl (t := 110) rfl hc2 (w_iload rfl p_lk_s1 (w_goto rfl (t := 112) rfl (w_istore rfl (by decide) (w_iinc rfl (w_s1 (w_s1 l5 rfl (by decide)) rfl (by decide)) (by decide) (w_goto rfl (t := 58) rfl ?_)))))
      rw [show Int32.ofInt 1 = Int32.ofNat 1 from rfl, g_add (by omega)]
      refine ih (n + 1) _ _ (by omega) (w_s1 (w_s1 (w_s1 l0 rfl (by decide)) rfl (by decide)) rfl (by decide)) (w_s1 (w_s1 (w_s1 l1 rfl (by decide)) rfl (by decide)) rfl (by decide)) (w_s1 (w_s1 (w_s1 l2 rfl (by decide)) rfl (by decide)) rfl (by decide)) (w_s1 (w_s1 (w_s1 l3 rfl (by decide)) rfl (by decide)) rfl (by decide)) ?_ p_lk_s1
      have e : b_best v k c (v k) (n + 1) = z := by simp only [b_best]; rw [← hz, if_neg q]
      rw [e]; exact w_s1 p_lk_s1 rfl (by decide)
theorem b_lies_in (hR : b_R h vs ws c v) (hkc : k < c) (hl : 339 ≤ ws.length) : p_wp p_GT p_MT (d + 2) m_X12_lies 0 (lv_args 0 [.ref 64, .int (Int32.ofNat k)]) [] h (fun a h2 => a = some (.int (b_best v k c (v k) 1000 - b_get v k c (v k))) ∧ h2 = h) := by
  have hR' := hR
  obtain ⟨e64, e0, e65, e6, ev, ec⟩ := hR
  refine w_iload_n rfl rfl (w_iconst rfl (w_aload_n rfl rfl (w_getf rfl rfl e64 e0 (w_bp 6 rfl rfl (w_ld rfl e65 (by decide) e6 (w_ic 1 rfl rfl (w_subN rfl (by omega) (w_static (nn := 0) (dc := d + 1) (M' := m_X12_isIn) rfl rfl rfl rfl (Nat.le_refl _) b_isIn ?_))))))))
  rintro a h2 ⟨rfl, rfl⟩
  rw [if_pos ⟨by rw [Int32.le_iff_toInt_le, g_ofNat (by omega)]; exact Int.natCast_nonneg k, by rw [Int32.le_iff_toInt_le, g_ofNat (by omega), g_ofNat (by omega)]; omega⟩]
  refine w_ifc_t rfl (t := 20) rfl (by decide) (w_aload_n rfl rfl (w_getf rfl rfl e64 e0 (w_sp 331 rfl rfl (w_iload_n rfl rfl (w_addN rfl (w_ld rfl e65 (by omega) (ev k (by omega)) (w_istore_n rfl (by decide) ?_)))))))
  have l0 : p_lk 0 (p_s1 (lv_args 0 [.ref 64, .int (Int32.ofNat k)]) 2 (.int (v k))) = some (.ref 64) := w_s1 rfl rfl (by decide)
  have l1 : p_lk 1 (p_s1 (lv_args 0 [.ref 64, .int (Int32.ofNat k)]) 2 (.int (v k))) = some (.int (Int32.ofNat k)) := w_s1 rfl rfl (by decide)
  have l2 : p_lk 2 (p_s1 (lv_args 0 [.ref 64, .int (Int32.ofNat k)]) 2 (.int (v k))) = some (.int (v k)) := p_lk_s1
  refine b_getA hR' (by omega) (by omega) l0 l1 l2 (w_istore_n rfl (by decide) (w_ldcw rfl rfl (w_istore rfl (by decide) (w_ic 0 rfl rfl (w_istore rfl (by decide) ?_)))))
  obtain ⟨hl2, e⟩ := List.getElem?_eq_some_iff.mp (ev k (by omega))
  obtain ⟨hl3, e'⟩ := List.getElem?_eq_some_iff.mp e65
  have eh : h2 = h2.set 65 (1, 0, ws.set (331 + k) (.int (v k))) := by
    rw [← e, List.set_getElem_self, ← e', List.set_getElem_self]
  have hq := b_lies_loop (d := d) (k := k) (own := b_get v k c (v k)) (Q := fun a h3 => a = some (.int (b_best v k c (v k) 1000 - b_get v k c (v k))) ∧ h3 = h2) hR' (by omega) (by omega) hl ⟨rfl, rfl⟩ 1000 0 (p_s1 (p_s1 (p_s1 (p_s1 (lv_args 0 [.ref 64, .int (Int32.ofNat k)]) 2 (.int (v k))) 3 (.int (b_get v k c (v k)))) 4 (.int (Int32.ofInt (-100000)))) 5 (.int (Int32.ofNat 0))) (v k) (by omega) (w_s1 (w_s1 (w_s1 l0 rfl (by decide)) rfl (by decide)) rfl (by decide)) (w_s1 (w_s1 (w_s1 l1 rfl (by decide)) rfl (by decide)) rfl (by decide)) (w_s1 (w_s1 (w_s1 l2 rfl (by decide)) rfl (by decide)) rfl (by decide)) (w_s1 (w_s1 p_lk_s1 rfl (by decide)) rfl (by decide)) (w_s1 p_lk_s1 rfl (by decide)) p_lk_s1
  rw [← eh] at hq
  exact hq
end BLK

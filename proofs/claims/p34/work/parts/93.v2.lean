/-! Layers by hand: the reference's side -/
section LRL
variable {h : p_H} {d c i : Nat} {vs ws : List Value} {v : Nat → Nat → Int32} {kind block : Int32}
/-- the reference's glasses -/
def l_R (h : p_H) (vs ws : List Value) (c : Nat) (v : Nat → Nat → Int32) : Prop := h[64]? = some (0, 12, vs) ∧ vs[0]? = some (.ref 65) ∧ h[65]? = some (1, 0, ws) ∧ ws[5]? = some (.int (Int32.ofNat c)) ∧ (∀ k, k < 8 → ∀ j, j < 4 → ws[299 + 4 * k + j]? = some (.int (v k j))) ∧ c ≤ 8
/-- layers below n are through with glass i, the others are as before -/
def l_mix (v : Nat → Nat → Int32) (kind block : Int32) (i n m : Nat) : Bool := if m < n then l_may v kind block m (i + 1) else l_may v kind block m i
theorem l_u2 {Q : Option Value → p_H → Prop} {ls : p_Ls} {s t : Bool} (hT : s = t → p_wp p_GT p_MT d m_X12_layers 130 ls [] h Q) (hF : ¬ s = t → p_wp p_GT p_MT d m_X12_layers 121 ls [] h Q) : p_wp p_GT p_MT d m_X12_layers 118 ls [.int (l_b t), .int (l_b s)] h Q := by
  cases s <;> cases t
  · exact w_icmp_t rfl (t := 130) rfl (by decide) (hT rfl)
  · exact w_icmp_f rfl (t := 130) rfl (by decide) (hF (by decide))
  · exact w_icmp_f rfl (t := 130) rfl (by decide) (hF (by decide))
  · exact w_icmp_t rfl (t := 130) rfl (by decide) (hT rfl)
theorem l_u1 {Q : Option Value → p_H → Prop} {ls : p_Ls} {s : Bool} (hR : l_R h vs ws c v) (hi : i < 8) (hb : v i 3 = Int32.ofInt 0 ∨ v i 3 = Int32.ofInt 1) (l0 : p_lk 0 ls = some (.ref 64)) (l5 : p_lk 5 ls = some (.int (Int32.ofNat (299 + 4 * i)))) (hT : s = decide (v i 3 = Int32.ofInt 1) → p_wp p_GT p_MT d m_X12_layers 130 ls [] h Q) (hF : ¬ s = decide (v i 3 = Int32.ofInt 1) → p_wp p_GT p_MT d m_X12_layers 121 ls [] h Q) : p_wp p_GT p_MT d m_X12_layers 109 ls [.int (l_b s)] h Q := by
  obtain ⟨e64, e0, e65, e5, ev, ec⟩ := hR
  refine w_aload_n rfl l0 (w_getf rfl rfl e64 e0 (w_iload rfl l5 (w_ic 3 rfl rfl (w_addN rfl (w_ld rfl e65 (by omega) (ev i hi 3 (by decide)) ?_)))))
  have e : v i 3 = l_b (decide (v i 3 = Int32.ofInt 1)) := by
    rcases hb with q | q
    · rw [q]; decide
    · rw [q]; decide
  obtain ⟨t, ht⟩ : ∃ t, t = decide (v i 3 = Int32.ofInt 1) := ⟨_, rfl⟩
  rw [← ht] at e hT hF
  rw [e]
  exact l_u2 (t := t) hT hF
theorem l_inner {Q : Option Value → p_H → Prop} (hR : l_R h vs ws c v) (hi : i < 8) (hb : v i 3 = Int32.ofInt 0 ∨ v i 3 = Int32.ofInt 1) (q0 : v i 0 = kind) (q1 : v i 1 = block) (hN : ∀ ls, p_lk 0 ls = some (.ref 64) → p_lk 1 ls = some (.int kind) → p_lk 2 ls = some (.int block) → p_lk 3 ls = some (.int (Int32.ofNat (l_bits (fun n => l_may v kind block n (i + 1)) 10))) → p_lk 4 ls = some (.int (Int32.ofNat i)) → p_wp p_GT p_MT d m_X12_layers 136 ls [] h Q) : ∀ j n ls, n + j = 10 → p_lk 0 ls = some (.ref 64) → p_lk 1 ls = some (.int kind) → p_lk 2 ls = some (.int block) → p_lk 3 ls = some (.int (Int32.ofNat (l_bits (l_mix v kind block i n) 10))) → p_lk 4 ls = some (.int (Int32.ofNat i)) → p_lk 5 ls = some (.int (Int32.ofNat (299 + 4 * i))) → p_lk 6 ls = some (.int (Int32.ofNat n)) → p_wp p_GT p_MT d m_X12_layers 80 ls [] h Q := by
  intro j
  induction j with
  | zero =>
    intro n ls hn l0 l1 l2 l3 l4 l5 l6
    have hn : n = 10 := hn
    subst hn
    rw [l_bits_c (G := fun n => l_may v kind block n (i + 1)) 10 (fun m hm => by unfold l_mix; rw [if_pos hm])] at l3
    exact w_iload rfl l6 (w_bp 10 rfl rfl (w_icmp_t rfl (t := 136) rfl (by simp [p_cd]) (hN ls l0 l1 l2 l3 l4)))
  | succ j ih =>
    intro n ls hn l0 l1 l2 l3 l4 l5 l6
    have hc : p_cd .ge (Int32.ofNat n) (Int32.ofNat 10) = false := by
      simp only [p_cd, decide_eq_false_iff_not]
      rw [Int32.le_iff_toInt_le, g_ofNat (by omega), g_ofNat (by omega)]; omega
    obtain ⟨e64, e0, e65, e5, ev, ec⟩ := hR
    have hR' : l_R h vs ws c v := ⟨e64, e0, e65, e5, ev, ec⟩
    have one : l_one v kind block n i = (decide (Int32.ofNat (n * 10) < v i 2) == decide (v i 3 = Int32.ofInt 1)) := by
      unfold l_one
      rw [decide_eq_true q0, decide_eq_true q1]
      rfl
    have go : ∀ s, s = decide (Int32.ofNat (n * 10) < v i 2) → p_wp p_GT p_MT d m_X12_layers 109 ls [.int (l_b s)] h Q := by
      intro s hs
      refine l_u1 hR' hi hb l0 l5 (fun e => ?_) (fun e => ?_)
      · have eo : l_one v kind block n i = true := by rw [one, ← hs, e]; exact beq_self_eq_true _
        refine w_iinc rfl l6 (by decide) (w_goto rfl (t := 80) rfl ?_)
        rw [show Int32.ofInt 1 = Int32.ofNat 1 from rfl, g_add (by omega)]
        refine ih (n + 1) _ (by omega) (w_s1 l0 rfl (by decide)) (w_s1 l1 rfl (by decide)) (w_s1 l2 rfl (by decide)) ?_ (w_s1 l4 rfl (by decide)) (w_s1 l5 rfl (by decide)) p_lk_s1
        rw [l_bits_c (F := l_mix v kind block i (n + 1)) (G := l_mix v kind block i n) 10 (fun m hm => by
          unfold l_mix
          by_cases q : m < n
          · rw [if_pos q, if_pos (by omega)]
          · by_cases q2 : m = n
            · subst q2
              rw [if_pos (by omega), if_neg q]
              simp only [l_may]
              rw [eo, Bool.and_true]
            · rw [if_neg q, if_neg (by omega)])]
        exact w_s1 l3 rfl (by decide)
      · have eo : l_one v kind block n i = false := by
          rw [one, ← hs]
          cases s with
          | false => cases q : decide (v i 3 = Int32.ofInt 1) with
            | false => exact absurd q.symm e
            | true => rfl
          | true => cases q : decide (v i 3 = Int32.ofInt 1) with
            | false => rfl
            | true => exact absurd q.symm e
        refine w_iload_n rfl l3 (w_iconst rfl (w_iload rfl l6 (w_ishl rfl (w_iconst rfl (w_ixor rfl (w_iand rfl ?_))))))
        rw [l_clr (F := l_mix v kind block i n) (G := l_mix v kind block i (n + 1)) (n := n) (by omega) (fun m hm => by
          unfold l_mix
          by_cases q2 : m = n
          · subst q2
            rw [if_pos rfl, if_pos (by omega)]
            simp only [l_may]
            rw [eo, Bool.and_false]
          · rw [if_neg q2]
            by_cases q : m < n
            · rw [if_pos q, if_pos (by omega)]
            · rw [if_neg q, if_neg (by omega)])]
        refine w_istore_n rfl (by decide) (w_iinc rfl (w_s1 l6 rfl (by decide)) (by decide) (w_goto rfl (t := 80) rfl ?_))
        rw [show Int32.ofInt 1 = Int32.ofNat 1 from rfl, g_add (by omega)]
        exact ih (n + 1) _ (by omega) (w_s1 (w_s1 l0 rfl (by decide)) rfl (by decide)) (w_s1 (w_s1 l1 rfl (by decide)) rfl (by decide)) (w_s1 (w_s1 l2 rfl (by decide)) rfl (by decide)) (w_s1 p_lk_s1 rfl (by decide)) (w_s1 (w_s1 l4 rfl (by decide)) rfl (by decide)) (w_s1 (w_s1 l5 rfl (by decide)) rfl (by decide)) p_lk_s1
    refine w_iload rfl l6 (w_bp 10 rfl rfl (w_icmp_f rfl (t := 136) rfl hc (w_aload_n rfl l0 (w_getf rfl rfl e64 e0 (w_iload rfl l5 (w_ic 2 rfl rfl (w_addN rfl (w_ld rfl e65 (by omega) (ev i hi 2 (by decide)) (w_bp 10 rfl rfl (w_iload rfl l6 (w_mulN rfl ?_)))))))))))
    rw [show 10 * n = n * 10 from Nat.mul_comm _ _]
    cases hc2 : p_cd .le (v i 2) (Int32.ofNat (n * 10)) with
    | true =>
      refine w_icmp_t rfl (t := 108) rfl hc2 (w_iconst rfl (go false ?_))
      simp only [p_cd, decide_eq_true_eq] at hc2
      exact (decide_eq_false (by rw [Int32.lt_iff_toInt_lt]; rw [Int32.le_iff_toInt_le] at hc2; omega)).symm
    | false =>
      refine w_icmp_f rfl (t := 108) rfl hc2 (w_iconst rfl (w_goto rfl (t := 109) rfl (go true ?_)))
      simp only [p_cd, decide_eq_false_iff_not] at hc2
      exact (decide_eq_true (by rw [Int32.lt_iff_toInt_lt]; rw [Int32.le_iff_toInt_le] at hc2; omega)).symm
theorem l_rlayers_loop {Q : Option Value → p_H → Prop} (hR : l_R h vs ws c v) (hb : ∀ k, k < 8 → v k 3 = Int32.ofInt 0 ∨ v k 3 = Int32.ofInt 1) (hQ : Q (some (.int (Int32.ofNat (l_bits (fun n => l_may v kind block n c) 10)))) h) : ∀ j i ls, i + j = c → p_lk 0 ls = some (.ref 64) → p_lk 1 ls = some (.int kind) → p_lk 2 ls = some (.int block) → p_lk 3 ls = some (.int (Int32.ofNat (l_bits (fun n => l_may v kind block n i) 10))) → p_lk 4 ls = some (.int (Int32.ofNat i)) → p_wp p_GT p_MT d m_X12_layers 29 ls [] h Q := by
  intro j
  induction j with
  | zero =>
    intro i ls hi l0 l1 l2 l3 l4
    have hi : i = c := hi
    subst hi
    obtain ⟨e64, e0, e65, e5, ev, ec⟩ := hR
    exact w_iload rfl l4 (w_aload_n rfl l0 (w_getf rfl rfl e64 e0 (w_ic 5 rfl rfl (w_ld rfl e65 (by decide) e5 (w_icmp_t rfl (t := 142) rfl (by simp [p_cd]) (w_iload_n rfl l3 (w_ireturn rfl rfl hQ)))))))
  | succ j ih =>
    intro i ls hi l0 l1 l2 l3 l4
    have hR' := hR
    obtain ⟨e64, e0, e65, e5, ev, ec⟩ := hR
    have hc : p_cd .ge (Int32.ofNat i) (Int32.ofNat c) = false := by
      simp only [p_cd, decide_eq_false_iff_not]
      rw [Int32.le_iff_toInt_le, g_ofNat (by omega), g_ofNat (by omega)]; omega
    have next : ∀ ls, p_lk 0 ls = some (.ref 64) → p_lk 1 ls = some (.int kind) → p_lk 2 ls = some (.int block) → p_lk 3 ls = some (.int (Int32.ofNat (l_bits (fun n => l_may v kind block n (i + 1)) 10))) → p_lk 4 ls = some (.int (Int32.ofNat i)) → p_wp p_GT p_MT d m_X12_layers 136 ls [] h Q := by
      intro ls l0 l1 l2 l3 l4
      refine w_iinc rfl l4 (by decide) (w_goto rfl (t := 29) rfl ?_)
      rw [show Int32.ofInt 1 = Int32.ofNat 1 from rfl, g_add (by omega)]
      exact ih (i + 1) _ (by omega) (w_s1 l0 rfl (by decide)) (w_s1 l1 rfl (by decide)) (w_s1 l2 rfl (by decide)) (w_s1 l3 rfl (by decide)) p_lk_s1
    have skip : (∀ n, l_one v kind block n i = true) → p_lk 3 (p_s1 ls 5 (.int (Int32.ofNat (299 + 4 * i)))) = some (.int (Int32.ofNat (l_bits (fun n => l_may v kind block n (i + 1)) 10))) := by
      intro q
      rw [l_bits_c (F := fun n => l_may v kind block n (i + 1)) (G := fun n => l_may v kind block n i) 10 (fun m hm => by
        show l_may v kind block m (i + 1) = l_may v kind block m i
        simp only [l_may]
        rw [q m, Bool.and_true])]
      exact w_s1 l3 rfl (by decide)
    refine w_iload rfl l4 (w_aload_n rfl l0 (w_getf rfl rfl e64 e0 (w_ic 5 rfl rfl (w_ld rfl e65 (by decide) e5 (w_icmp_f rfl (t := 142) rfl hc ?_)))))
    refine w_sp 299 rfl rfl (w_ic 4 rfl rfl (w_iload rfl l4 (w_mulN rfl (w_addN rfl (w_istore rfl (by decide) ?_)))))
    have m0 := w_s1 (i := 5) (v := .int (Int32.ofNat (299 + 4 * i))) l0 rfl (by decide)
    have m1 := w_s1 (i := 5) (v := .int (Int32.ofNat (299 + 4 * i))) l1 rfl (by decide)
    have m2 := w_s1 (i := 5) (v := .int (Int32.ofNat (299 + 4 * i))) l2 rfl (by decide)
    have m3 := w_s1 (i := 5) (v := .int (Int32.ofNat (299 + 4 * i))) l3 rfl (by decide)
    have m4 := w_s1 (i := 5) (v := .int (Int32.ofNat (299 + 4 * i))) l4 rfl (by decide)
    refine w_aload_n rfl m0 (w_getf rfl rfl e64 e0 (w_iload rfl p_lk_s1 (w_ld rfl e65 (by omega) (ev i (by omega) 0 (by decide)) (w_iload_n rfl m1 ?_))))
    by_cases q0 : v i 0 = kind
    · refine w_icmp_f rfl (t := 136) rfl (by simp only [p_cd, decide_eq_false_iff_not]; exact fun e => e q0) (w_aload_n rfl m0 (w_getf rfl rfl e64 e0 (w_iload rfl p_lk_s1 (w_ic 1 rfl rfl (w_addN rfl (w_ld rfl e65 (by omega) (ev i (by omega) 1 (by decide)) (w_iload_n rfl m2 ?_)))))))
      by_cases q1 : v i 1 = block
      · refine w_icmp_t rfl (t := 77) rfl (by simp only [p_cd, decide_eq_true_eq]; exact q1) (w_ic 0 rfl rfl (w_istore rfl (by decide) ?_))
        refine l_inner hR' (by omega) (hb i (by omega)) q0 q1 next 10 0 _ (by omega) (w_s1 m0 rfl (by decide)) (w_s1 m1 rfl (by decide)) (w_s1 m2 rfl (by decide)) ?_ (w_s1 m4 rfl (by decide)) (w_s1 p_lk_s1 rfl (by decide)) p_lk_s1
        rw [l_bits_c (F := l_mix v kind block i 0) (G := fun n => l_may v kind block n i) 10 (fun m hm => by unfold l_mix; rw [if_neg (Nat.not_lt_zero m)])]
        exact w_s1 m3 rfl (by decide)
      · refine w_icmp_f rfl (t := 77) rfl (by simp only [p_cd, decide_eq_false_iff_not]; exact q1) (w_goto rfl (t := 136) rfl (next _ m0 m1 m2 (skip (fun n => ?_)) m4))
        unfold l_one
        rw [decide_eq_false q1, Bool.and_false]
        rfl
    · refine w_icmp_t rfl (t := 136) rfl (by simp only [p_cd, decide_eq_true_eq]; exact q0) (next _ m0 m1 m2 (skip (fun n => ?_)) m4)
      unfold l_one
      rw [decide_eq_false q0, Bool.false_and]
      rfl
theorem l_bits_all : l_bits (fun _ => true) 10 = 1023 := by decide
theorem l_rlayers (hR : l_R h vs ws c v) (hb : ∀ k, k < 8 → v k 3 = Int32.ofInt 0 ∨ v k 3 = Int32.ofInt 1) (h1 : (Int32.ofInt 0 ≤ kind ∧ kind ≤ Int32.ofNat 9)) (h2 : (Int32.ofInt 0 ≤ block ∧ block ≤ Int32.ofNat 63)) : p_wp p_GT p_MT (d + 1) m_X12_layers 0 (lv_args 0 [.ref 64, .int kind, .int block]) [] h (fun a h2 => a = some (.int (Int32.ofNat (l_bits (fun n => l_may v kind block n c) 10))) ∧ h2 = h) := by
  refine w_iload_n rfl rfl (w_iconst rfl (w_bp 9 rfl rfl (w_static (nn := 0) (dc := d) (M' := m_X12_isIn) rfl rfl rfl rfl (Nat.le_refl _) b_isIn ?_)))
  rintro a h3 ⟨rfl, rfl⟩
  rw [if_pos h1]
  refine w_ifc_f rfl (t := 20) rfl (by decide) (w_iload_n rfl rfl (w_iconst rfl (w_bp 63 rfl rfl (w_static (nn := 0) (dc := d) (M' := m_X12_isIn) rfl rfl rfl rfl (Nat.le_refl _) b_isIn ?_))))
  rintro a h3 ⟨rfl, rfl⟩
  rw [if_pos h2]
  refine w_ifc_t rfl (t := 22) rfl (by decide) (w_sp 1023 rfl rfl (w_istore_n rfl (by decide) (w_ic 0 rfl rfl (w_istore rfl (by decide) ?_))))
  refine l_rlayers_loop hR hb ⟨rfl, rfl⟩ c 0 _ (by omega) (w_s1 (w_s1 rfl rfl (by decide)) rfl (by decide)) (w_s1 (w_s1 rfl rfl (by decide)) rfl (by decide)) (w_s1 (w_s1 rfl rfl (by decide)) rfl (by decide)) ?_ p_lk_s1
  rw [show l_bits (fun n => l_may v kind block n 0) 10 = 1023 from l_bits_all]
  exact w_s1 p_lk_s1 rfl (by decide)
theorem l_rlayers_no {Q : Option Value → p_H → Prop} (hq : ¬ ((Int32.ofInt 0 ≤ kind ∧ kind ≤ Int32.ofNat 9) ∧ (Int32.ofInt 0 ≤ block ∧ block ≤ Int32.ofNat 63))) (hQ : Q (some (.int (Int32.ofInt (-1)))) h) : p_wp p_GT p_MT (d + 1) m_X12_layers 0 (lv_args 0 [.ref 64, .int kind, .int block]) [] h Q := by
  refine w_iload_n rfl rfl (w_iconst rfl (w_bp 9 rfl rfl (w_static (nn := 0) (dc := d) (M' := m_X12_isIn) rfl rfl rfl rfl (Nat.le_refl _) b_isIn ?_)))
  rintro a h3 ⟨rfl, rfl⟩
  by_cases h1 : Int32.ofInt 0 ≤ kind ∧ kind ≤ Int32.ofNat 9
  · rw [if_pos h1]
    refine w_ifc_f rfl (t := 20) rfl (by decide) (w_iload_n rfl rfl (w_iconst rfl (w_bp 63 rfl rfl (w_static (nn := 0) (dc := d) (M' := m_X12_isIn) rfl rfl rfl rfl (Nat.le_refl _) b_isIn ?_))))
    rintro a h3 ⟨rfl, rfl⟩
    rw [if_neg (fun h2 => hq ⟨h1, h2⟩)]
    exact w_ifc_f rfl (t := 22) rfl (by decide) (w_iconst rfl (w_ireturn rfl rfl hQ))
  · rw [if_neg h1]
    exact w_ifc_t rfl (t := 20) rfl (by decide) (w_iconst rfl (w_ireturn rfl rfl hQ))
end LRL

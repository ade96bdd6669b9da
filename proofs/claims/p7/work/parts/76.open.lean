/-! Rule: the pile is searched for its last open one -/
section GOP
variable {M : p_M} {pc : Nat}
theorem hr_pileOpen (hat : p_at pc M.2.2.2.2.1 = some (.iaload, 1)) : x_HoldR p_GT p_MT x_EE M pc 1 cr_pileOpen := by
  intro τ r h as rest ls d Q hH hA hF hM hK
  obtain ⟨a, V, rfl, ha, hA⟩ := x_t3 (show x_vs τ r 3 [(3, 69, ([], ((69 : Nat) : Int))), (1, 0, ([(0, 1)], 0))] as from hA)
  obtain ⟨x, V', rfl, -, hx, hA⟩ := x_t1 hA
  rw [g_nil hA]
  obtain ⟨rfl, ht⟩ := g_ref ha
  rw [g_v] at hx
  obtain ⟨vs, hc, l1, l2, hf, -⟩ := g_cell hH ht (show x_KL[69]? = some _ from rfl)
  have h0 : 0 ≤ r 0 ∧ r 0 ≤ 159 := hF.1 (0, 0, 159) List.mem_cons_self
  have h1 : 0 ≤ r 1 ∧ r 1 ≤ 160 := hF.1 (1, 0, 160) (List.mem_cons_of_mem _ List.mem_cons_self)
  have hl : x.toNatClampNeg < vs.length := by
    have : 160 ≤ vs.length := l1
    rw [x_clamp]; omega
  obtain ⟨y, hy⟩ := g_int rfl rfl hf hl
  obtain ⟨h80, g2⟩ := g_gho (hM _ List.mem_cons_self) 2 rfl
  obtain ⟨-, g5⟩ := g_gho (hM _ (List.mem_cons_of_mem _ List.mem_cons_self)) 5 rfl
  have ep : q_e r ([(0, 1)], 1) = r 0 + 1 := by simp only [q_e, q_ev]; omega
  have en : (r 0 + 1).toNat = (r 0).toNat + 1 := by omega
  have g2 : (g_o (g_ms 4 h) ((r 0).toNat + 1)).1 = r 1 := by
    have e : (if 0 ≤ q_e r ([(0, 1)], 1) ∧ q_e r ([(0, 1)], 1) ≤ 160 then (g_o (g_ms 2 h) (q_e r ([(0, 1)], 1)).toNat).1 else -1) = q_e r ([(1, 1)], 0) := g2
    rw [ep, g_v, if_pos (by omega), en, g_o2] at e
    exact e
  have g5 : (g_o (g_ms 4 h) ((r 0).toNat + 1)).2.2 = r 2 := by
    have e : (if 0 ≤ q_e r ([(0, 1)], 1) ∧ q_e r ([(0, 1)], 1) ≤ 160 then (g_o (g_ms 5 h) (q_e r ([(0, 1)], 1)).toNat).2.2 else -1) = q_e r ([(2, 1)], 0) := g5
    rw [ep, g_v, if_pos (by omega), en, g_o5] at e
    exact e
  have hv : g_ms 4 h 69 (r 0).toNat = y.toInt := by
    rw [g_ms_at (by rw [g_lk69_4]; exact Nat.ble_eq_true_of_le (by omega)), g_vs_at hc]
    have : vs[(r 0).toNat]? = some (.int y) := by rw [← hx]; exact hy
    exact g_at_int this
  refine g_load hat hc (g_nn hx h0.1) hy ?_
  have hb := g_o_bd (g_ms 4 h) (r 0).toNat
  simp only [g_o, hv] at g2 g5
  by_cases c0 : (g_o (g_ms 4 h) (r 0).toNat).1 < 0
  · rw [if_pos c0] at g2; simp only at g2; omega
  rw [if_neg c0] at g2 g5
  have low : 3 ≤ y.toInt → y.toInt ≤ 7 → (g_o (g_ms 4 h) (r 0).toNat).2.2 = r 2 → p_wp p_GT p_MT d M (pc + 1) ls (Value.int y :: rest) h Q := by
    intro b1 b2 e5
    refine hK (some (.int y)) h ⟨τ, x_up (x_up r 3 y.toInt) 4 (g_o (g_ms 4 h) (r 0).toNat).1, g_J0 hH _, _, List.mem_cons_of_mem _ List.mem_cons_self, Nat.le_refl _, Nat.le_refl _, fun i hi => ?_, ⟨fun t ht => ?_, fun e he => (by cases he), fun e he => (by cases he)⟩, ⟨q_v_wl (by decide), y, rfl, ?_⟩, fun m hm => ?_⟩
    · have hi : i < 3 := hi
      rw [x_up_lt i (by omega), x_up_lt i (by omega)]
    · have ht : t ∈ [((3, 3, 7) : Nat × Int × Int), (4, 0, 160)] := ht
      simp only [List.mem_cons, List.not_mem_nil, or_false] at ht
      rcases ht with rfl | rfl
      · show (3 : Int) ≤ x_up (x_up r 3 y.toInt) 4 _ 3 ∧ x_up (x_up r 3 y.toInt) 4 _ 3 ≤ 7
        rw [x_up_lt 3 (by decide), x_up_at]; exact ⟨b1, b2⟩
      · show (0 : Int) ≤ x_up (x_up r 3 y.toInt) 4 _ 4 ∧ x_up (x_up r 3 y.toInt) 4 _ 4 ≤ 160
        rw [x_up_at]; omega
    · show y.toInt = q_e _ ([(3, 1)], 0)
      rw [g_v, x_up_lt 3 (by decide), x_up_at]
    · have hm : m ∈ [((([(0, 1)], 0), 64, 1000003, 1, 0, ([(4, 1)], 0)) : q_E × Nat × Nat × x_V), (([(0, 1)], 0), 64, 1000006, 1, 0, ([(2, 1)], 0))] := hm
      simp only [List.mem_cons, List.not_mem_nil, or_false] at hm
      rcases hm with rfl | rfl
      · refine g_mk 2 rfl (q_v_wl (by decide)) (q_v_wl (by decide)) rfl h80 ?_
        show (if 0 ≤ q_e _ ([(0, 1)], 0) ∧ q_e _ ([(0, 1)], 0) ≤ 160 then (g_o (g_ms 2 h) (q_e _ ([(0, 1)], 0)).toNat).1 else -1) = q_e _ ([(4, 1)], 0)
        rw [g_v, g_v, x_up_at, x_up_lt 0 (by decide), x_up_lt 0 (by decide), if_pos (by omega), g_o2]
      · refine g_mk 5 rfl (q_v_wl (by decide)) (q_v_wl (by decide)) rfl h80 ?_
        show (if 0 ≤ q_e _ ([(0, 1)], 0) ∧ q_e _ ([(0, 1)], 0) ≤ 160 then (g_o (g_ms 5 h) (q_e _ ([(0, 1)], 0)).toNat).2.2 else -1) = q_e _ ([(2, 1)], 0)
        rw [g_v, g_v, x_up_lt 0 (by decide), x_up_lt 0 (by decide), x_up_lt 2 (by decide), x_up_lt 2 (by decide), if_pos (by omega), g_o5]
        exact e5
  have high : 40 ≤ y.toInt → y.toInt ≤ 42 → y.toInt = r 2 → p_wp p_GT p_MT d M (pc + 1) ls (Value.int y :: rest) h Q := by
    intro b1 b2 e5
    refine hK (some (.int y)) h ⟨τ, r, g_J0 hH _, _, List.mem_cons_self, Nat.le_refl _, Nat.le_refl _, fun _ _ => rfl, ⟨fun t ht => ?_, fun e he => (by cases he), fun e he => (by cases he)⟩, ⟨q_v_wl (by decide), y, rfl, ?_⟩, fun m hm => ?_⟩
    · have ht : t ∈ [((2, 40, 42) : Nat × Int × Int)] := ht
      rw [List.mem_singleton.mp ht]
      show (40 : Int) ≤ r 2 ∧ r 2 ≤ 42
      omega
    · show y.toInt = q_e r ([(2, 1)], 0)
      rw [g_v]; exact e5
    · have hm : m ∈ [((([(0, 1)], 0), 64, 1000002, 1, 0, ([(2, 1)], 0)) : q_E × Nat × Nat × x_V)] := hm
      rw [List.mem_singleton.mp hm]
      refine g_mk 1 rfl (q_v_wl (by decide)) (q_v_wl (by decide)) rfl h80 ?_
      show g_ms 1 h 69 (q_e r ([(0, 1)], 0)).toNat = q_e r ([(2, 1)], 0)
      rw [g_v, g_v, g_ms69_1, hv]; exact e5
  by_cases c1 : 4 ≤ y.toInt ∧ y.toInt ≤ 7
  · rw [if_pos c1] at g5
    exact low (by omega) c1.2 g5
  rw [if_neg c1] at g2 g5
  by_cases c2 : y.toInt = 3
  · rw [if_pos c2] at g5
    exact low (by omega) (by omega) g5
  rw [if_neg c2] at g2 g5
  by_cases c3 : y.toInt = 40 ∨ y.toInt = 41
  · rw [if_pos c3] at g5
    exact high (by omega) (by omega) g5
  rw [if_neg c3] at g2 g5
  by_cases c4 : y.toInt = 42
  · rw [if_pos c4] at g5
    exact high (by omega) (by omega) (by rw [c4]; exact g5)
  · rw [if_neg c4] at g2
    simp only at g2
    omega
end GOP

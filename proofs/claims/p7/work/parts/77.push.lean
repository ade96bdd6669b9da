/-! Rules: pushes on the pile -/
section GPU
variable {M : p_M} {pc : Nat} {h : p_H}
theorem g_vs_set_ne {a b : Nat} {c : p_C} (hab : a ≠ b) : g_vs (h.set a c) b = g_vs h b := by
  simp only [g_vs, List.getElem?_set_ne hab]
theorem g_vs_set {a : Nat} {c : p_C} (hl : a < h.length) : g_vs (h.set a c) a = c.2.2 := by
  simp only [g_vs, List.getElem?_set, hl, if_true]
theorem g_ms_set_ne {g a b j : Nat} {c : p_C} (hab : a ≠ b) : g_ms g (h.set a c) b j = g_ms g h b j := by
  simp only [g_ms, g_vs_set_ne hab]
theorem g_ms_set_at {g a j k : Nat} {c : p_C} {vs : List Value} {y : Int32} (hc : h[a]? = some c) (hv : c.2.2 = vs) (hjk : j ≠ k) : g_ms g (h.set a (1, 0, vs.set j (.int y))) a k = g_ms g h a k := by
  have hl := (List.getElem?_eq_some_iff.mp hc).1
  simp only [g_ms, g_vs_set hl, g_vs_at hc, hv, g_at, List.getElem?_set_ne hjk]
theorem g_o_lt {R R' : Nat → Nat → Int} : ∀ k, (∀ j, j < k → R 69 j = R' 69 j) → g_o R k = g_o R' k := by
  intro k
  induction k with
  | zero => intro _; rfl
  | succ k ih => intro hR; simp only [g_o, ih (fun j hj => hR j (by omega)), hR k (by omega)]
theorem g_d_lt {R R' : Nat → Nat → Int} (h70 : ∀ j, R 70 j = R' 70 j) : ∀ k, (∀ j, j < k → R 69 j = R' 69 j) → g_d R k = g_d R' k := by
  intro k
  induction k with
  | zero => intro _; rfl
  | succ k ih => intro hR; simp only [g_d, ih (fun j hj => hR j (by omega)), hR k (by omega), h70]
theorem hr_push40 (hat : p_at pc M.2.2.2.2.1 = some (.iastore, 1)) : x_HoldR p_GT p_MT x_EE M pc 1 cr_push40 := by
  intro τ r h as rest ls d Q hH hA hF hM hK
  obtain ⟨a, V, rfl, ha, hA⟩ := x_t3 (show x_vs τ r 5 [(3, 69, ([], ((69 : Nat) : Int))), (1, 0, ([(0, 1)], 0)), (1, 0, ([], 40))] as from hA)
  obtain ⟨x, V', rfl, -, hx, hA⟩ := x_t1 hA
  obtain ⟨y, V'', rfl, -, hy, hA⟩ := x_t1 hA
  rw [g_nil hA]
  obtain ⟨rfl, ht⟩ := g_ref ha
  rw [g_v] at hx
  obtain ⟨vs, hc, l1, l2, hf, -⟩ := g_cell hH ht (show x_KL[69]? = some _ from rfl)
  have h0 : 0 ≤ r 0 ∧ r 0 ≤ 159 := hF.1 (0, 0, 159) List.mem_cons_self
  have h1 : 0 ≤ r 1 ∧ r 1 ≤ 160 := hF.1 (1, 0, 160) (List.mem_cons_of_mem _ List.mem_cons_self)
  have h3 : 0 ≤ r 3 ∧ r 3 ≤ 500 := hF.1 (3, 0, 500) (List.mem_cons_of_mem _ (List.mem_cons_of_mem _ (List.mem_cons_of_mem _ List.mem_cons_self)))
  have hy : y.toInt = 40 := by simp only [q_e, q_ev] at hy; omega
  have hl : x.toNatClampNeg < vs.length := by
    have : 160 ≤ vs.length := l1
    rw [x_clamp]; omega
  have ex : x.toNatClampNeg = (r 0).toNat := by rw [x_clamp, hx]
  obtain ⟨h80, g2⟩ := g_gho (hM _ List.mem_cons_self) 2 rfl
  obtain ⟨-, g3⟩ := g_gho (hM _ (List.mem_cons_of_mem _ List.mem_cons_self)) 3 rfl
  obtain ⟨-, g4⟩ := g_gho (hM _ (List.mem_cons_of_mem _ (List.mem_cons_of_mem _ List.mem_cons_self))) 4 rfl
  obtain ⟨-, g5⟩ := g_gho (hM _ (List.mem_cons_of_mem _ (List.mem_cons_of_mem _ (List.mem_cons_of_mem _ List.mem_cons_self)))) 5 rfl
  have g2 : (g_o (g_ms 4 h) (r 0).toNat).1 = r 1 := by
    have e : (if 0 ≤ q_e r ([(0, 1)], 0) ∧ q_e r ([(0, 1)], 0) ≤ 160 then (g_o (g_ms 2 h) (q_e r ([(0, 1)], 0)).toNat).1 else -1) = q_e r ([(1, 1)], 0) := g2
    rw [g_v, g_v, if_pos (by omega), g_o2] at e
    exact e
  have g3 : (g_o (g_ms 4 h) (r 0).toNat).2.1 = r 2 := by
    have e : (if 0 ≤ q_e r ([(0, 1)], 0) ∧ q_e r ([(0, 1)], 0) ≤ 160 then (g_o (g_ms 3 h) (q_e r ([(0, 1)], 0)).toNat).2.1 else -1) = q_e r ([(2, 1)], 0) := g3
    rw [g_v, g_v, if_pos (by omega), g_o3] at e
    exact e
  have g4 : (g_d (g_ms 4 h) (r 0).toNat).1 = r 3 := by
    have e : (if 0 ≤ q_e r ([(0, 1)], 0) ∧ q_e r ([(0, 1)], 0) ≤ 160 then (g_d (g_ms 4 h) (q_e r ([(0, 1)], 0)).toNat).1 else -1) = q_e r ([(3, 1)], 0) := g4
    rw [g_v, g_v, if_pos (by omega)] at e
    exact e
  have g5 : (g_o (g_ms 4 h) (r 0).toNat).2.2 = r 4 := by
    have e : (if 0 ≤ q_e r ([(0, 1)], 0) ∧ q_e r ([(0, 1)], 0) ≤ 160 then (g_o (g_ms 5 h) (q_e r ([(0, 1)], 0)).toNat).2.2 else -1) = q_e r ([(4, 1)], 0) := g5
    rw [g_v, g_v, if_pos (by omega), g_o5] at e
    exact e
  have c0 : ¬ (g_o (g_ms 4 h) (r 0).toNat).1 < 0 := by omega
  have c0d : ¬ (g_d (g_ms 4 h) (r 0).toNat).1 < 0 := by omega
  refine g_store hat hc (g_nn hx h0.1) hl ?_
  rw [ex]
  have hJ := (g_J0 hH [(69, 0, 159)]).put x_EE_EO (lo := 0) (hi := 159) (j := (r 0).toNat) (v := .int y) ht hc (show x_KL[69]? = some _ from rfl) (by rw [x_pt0 (t := x_any) rfl rfl rfl]; exact ⟨y, rfl, x_I32 y⟩) rfl rfl (Nat.zero_le _) (by omega)
  have hlen : 69 < h.length := by omega
  obtain ⟨h2, hh2⟩ : ∃ h2, h2 = h.set 69 (1, 0, vs.set (r 0).toNat (.int y)) := ⟨_, rfl⟩
  have hne : ∀ j, j < (r 0).toNat → g_ms 4 h2 69 j = g_ms 4 h 69 j := fun j hj => by rw [hh2]; exact g_ms_set_at hc rfl (by omega)
  have h70 : ∀ j, g_ms 4 h2 70 j = g_ms 4 h 70 j := fun j => by rw [hh2]; exact g_ms_set_ne (by decide)
  have e1 := g_o_lt (R := g_ms 4 h2) (R' := g_ms 4 h) (r 0).toNat hne
  have e2 := g_d_lt (R := g_ms 4 h2) (R' := g_ms 4 h) h70 (r 0).toNat hne
  have hv2 : g_ms 4 h2 69 (r 0).toNat = y.toInt := by
    rw [g_ms_at (by rw [g_lk69_4]; exact Nat.ble_eq_true_of_le (by omega)), hh2, g_vs_set hlen]
    exact g_at_int (List.getElem?_set_self (by rw [← ex]; exact hl))
  have c1 : ¬ (4 ≤ y.toInt ∧ y.toInt ≤ 7) := by omega
  have c2 : ¬ y.toInt = 3 := by omega
  have c3 : y.toInt = 40 ∨ y.toInt = 41 := by omega
  have c4 : y.toInt = 3 ∨ y.toInt = 40 ∨ y.toInt = 41 := by omega
  have so : g_o (g_ms 4 h2) ((r 0).toNat + 1) = (r 1 + 1, r 2, 40) := by
    simp only [g_o, e1, hv2, if_neg c0, if_neg c1, if_neg c2, if_pos c3]
    exact Prod.ext (show (g_o (g_ms 4 h) (r 0).toNat).1 + 1 = r 1 + 1 by rw [g2]) (Prod.ext g3 hy)
  have sd : (g_d (g_ms 4 h2) ((r 0).toNat + 1)).1 = r 3 := by
    simp only [g_d, e2, hv2, if_neg c0d, if_neg c1, if_pos c4]
    exact g4
  have ep : q_e r ([(0, 1)], 1) = r 0 + 1 := by simp only [q_e, q_ev]; omega
  have en : (r 0 + 1).toNat = (r 0).toNat + 1 := by omega
  refine hK none _ ⟨τ, r, hJ, _, List.mem_cons_self, by rw [List.length_set]; exact Nat.le_refl _, by rw [p_sl_set hc (by simp)]; exact Nat.le_refl _, fun _ _ => rfl, g_F0, trivial, fun m hm => ?_⟩
  have hm : m ∈ [((([(0, 1)], 1), 64, 1000003, 1, 0, ([(1, 1)], 1)) : q_E × Nat × Nat × x_V), (([(0, 1)], 1), 64, 1000004, 1, 0, ([(2, 1)], 0)), (([(0, 1)], 1), 64, 1000005, 1, 0, ([(3, 1)], 0)), (([(0, 1)], 1), 64, 1000006, 1, 0, ([], 40))] := hm
  simp only [List.mem_cons, List.not_mem_nil, or_false] at hm
  show x_m x_EE τ r _ (h.set 69 (1, 0, vs.set (r 0).toNat (.int y))) m
  rw [← hh2]
  have h80 : 80 ≤ h2.length := by rw [hh2, List.length_set]; exact h80
  rcases hm with rfl | rfl | rfl | rfl
  · refine g_mk 2 rfl (q_v_wl (by decide)) (q_v_wl (by decide)) rfl h80 ?_
    show (if 0 ≤ q_e r ([(0, 1)], 1) ∧ q_e r ([(0, 1)], 1) ≤ 160 then (g_o (g_ms 2 h2) (q_e r ([(0, 1)], 1)).toNat).1 else -1) = q_e r ([(1, 1)], 1)
    rw [ep, if_pos (by omega), en]
    rw [g_o2, so]; simp only [q_e, q_ev]; omega
  · refine g_mk 3 rfl (q_v_wl (by decide)) (q_v_wl (by decide)) rfl h80 ?_
    show (if 0 ≤ q_e r ([(0, 1)], 1) ∧ q_e r ([(0, 1)], 1) ≤ 160 then (g_o (g_ms 3 h2) (q_e r ([(0, 1)], 1)).toNat).2.1 else -1) = q_e r ([(2, 1)], 0)
    rw [ep, if_pos (by omega), en]
    rw [g_o3, so]; simp only [q_e, q_ev]; omega
  · refine g_mk 4 rfl (q_v_wl (by decide)) (q_v_wl (by decide)) rfl h80 ?_
    show (if 0 ≤ q_e r ([(0, 1)], 1) ∧ q_e r ([(0, 1)], 1) ≤ 160 then (g_d (g_ms 4 h2) (q_e r ([(0, 1)], 1)).toNat).1 else -1) = q_e r ([(3, 1)], 0)
    rw [ep, if_pos (by omega), en]
    rw [sd]; simp only [q_e, q_ev]; omega
  · refine g_mk 5 rfl (q_v_wl (by decide)) q_wl_nil rfl h80 ?_
    show (if 0 ≤ q_e r ([(0, 1)], 1) ∧ q_e r ([(0, 1)], 1) ≤ 160 then (g_o (g_ms 5 h2) (q_e r ([(0, 1)], 1)).toNat).2.2 else -1) = q_e r ([], 40)
    rw [ep, if_pos (by omega), en]
    rw [g_o5, so]; simp only [q_e, q_ev]; omega
theorem hr_push3 (hat : p_at pc M.2.2.2.2.1 = some (.iastore, 1)) : x_HoldR p_GT p_MT x_EE M pc 1 cr_push3 := by
  intro τ r h as rest ls d Q hH hA hF hM hK
  obtain ⟨a, V, rfl, ha, hA⟩ := x_t3 (show x_vs τ r 5 [(3, 69, ([], ((69 : Nat) : Int))), (1, 0, ([(0, 1)], 0)), (1, 0, ([], 3))] as from hA)
  obtain ⟨x, V', rfl, -, hx, hA⟩ := x_t1 hA
  obtain ⟨y, V'', rfl, -, hy, hA⟩ := x_t1 hA
  rw [g_nil hA]
  obtain ⟨rfl, ht⟩ := g_ref ha
  rw [g_v] at hx
  obtain ⟨vs, hc, l1, l2, hf, -⟩ := g_cell hH ht (show x_KL[69]? = some _ from rfl)
  have h0 : 0 ≤ r 0 ∧ r 0 ≤ 159 := hF.1 (0, 0, 159) List.mem_cons_self
  have h1 : 0 ≤ r 1 ∧ r 1 ≤ 160 := hF.1 (1, 0, 160) (List.mem_cons_of_mem _ List.mem_cons_self)
  have h3 : 0 ≤ r 3 ∧ r 3 ≤ 500 := hF.1 (3, 0, 500) (List.mem_cons_of_mem _ (List.mem_cons_of_mem _ (List.mem_cons_of_mem _ List.mem_cons_self)))
  have hy : y.toInt = 3 := by simp only [q_e, q_ev] at hy; omega
  have hl : x.toNatClampNeg < vs.length := by
    have : 160 ≤ vs.length := l1
    rw [x_clamp]; omega
  have ex : x.toNatClampNeg = (r 0).toNat := by rw [x_clamp, hx]
  obtain ⟨h80, g2⟩ := g_gho (hM _ List.mem_cons_self) 2 rfl
  obtain ⟨-, g3⟩ := g_gho (hM _ (List.mem_cons_of_mem _ List.mem_cons_self)) 3 rfl
  obtain ⟨-, g4⟩ := g_gho (hM _ (List.mem_cons_of_mem _ (List.mem_cons_of_mem _ List.mem_cons_self))) 4 rfl
  obtain ⟨-, g5⟩ := g_gho (hM _ (List.mem_cons_of_mem _ (List.mem_cons_of_mem _ (List.mem_cons_of_mem _ List.mem_cons_self)))) 5 rfl
  have g2 : (g_o (g_ms 4 h) (r 0).toNat).1 = r 1 := by
    have e : (if 0 ≤ q_e r ([(0, 1)], 0) ∧ q_e r ([(0, 1)], 0) ≤ 160 then (g_o (g_ms 2 h) (q_e r ([(0, 1)], 0)).toNat).1 else -1) = q_e r ([(1, 1)], 0) := g2
    rw [g_v, g_v, if_pos (by omega), g_o2] at e
    exact e
  have g3 : (g_o (g_ms 4 h) (r 0).toNat).2.1 = r 2 := by
    have e : (if 0 ≤ q_e r ([(0, 1)], 0) ∧ q_e r ([(0, 1)], 0) ≤ 160 then (g_o (g_ms 3 h) (q_e r ([(0, 1)], 0)).toNat).2.1 else -1) = q_e r ([(2, 1)], 0) := g3
    rw [g_v, g_v, if_pos (by omega), g_o3] at e
    exact e
  have g4 : (g_d (g_ms 4 h) (r 0).toNat).1 = r 3 := by
    have e : (if 0 ≤ q_e r ([(0, 1)], 0) ∧ q_e r ([(0, 1)], 0) ≤ 160 then (g_d (g_ms 4 h) (q_e r ([(0, 1)], 0)).toNat).1 else -1) = q_e r ([(3, 1)], 0) := g4
    rw [g_v, g_v, if_pos (by omega)] at e
    exact e
  have g5 : (g_o (g_ms 4 h) (r 0).toNat).2.2 = r 4 := by
    have e : (if 0 ≤ q_e r ([(0, 1)], 0) ∧ q_e r ([(0, 1)], 0) ≤ 160 then (g_o (g_ms 5 h) (q_e r ([(0, 1)], 0)).toNat).2.2 else -1) = q_e r ([(4, 1)], 0) := g5
    rw [g_v, g_v, if_pos (by omega), g_o5] at e
    exact e
  have c0 : ¬ (g_o (g_ms 4 h) (r 0).toNat).1 < 0 := by omega
  have c0d : ¬ (g_d (g_ms 4 h) (r 0).toNat).1 < 0 := by omega
  refine g_store hat hc (g_nn hx h0.1) hl ?_
  rw [ex]
  have hJ := (g_J0 hH [(69, 0, 159)]).put x_EE_EO (lo := 0) (hi := 159) (j := (r 0).toNat) (v := .int y) ht hc (show x_KL[69]? = some _ from rfl) (by rw [x_pt0 (t := x_any) rfl rfl rfl]; exact ⟨y, rfl, x_I32 y⟩) rfl rfl (Nat.zero_le _) (by omega)
  have hlen : 69 < h.length := by omega
  obtain ⟨h2, hh2⟩ : ∃ h2, h2 = h.set 69 (1, 0, vs.set (r 0).toNat (.int y)) := ⟨_, rfl⟩
  have hne : ∀ j, j < (r 0).toNat → g_ms 4 h2 69 j = g_ms 4 h 69 j := fun j hj => by rw [hh2]; exact g_ms_set_at hc rfl (by omega)
  have h70 : ∀ j, g_ms 4 h2 70 j = g_ms 4 h 70 j := fun j => by rw [hh2]; exact g_ms_set_ne (by decide)
  have e1 := g_o_lt (R := g_ms 4 h2) (R' := g_ms 4 h) (r 0).toNat hne
  have e2 := g_d_lt (R := g_ms 4 h2) (R' := g_ms 4 h) h70 (r 0).toNat hne
  have hv2 : g_ms 4 h2 69 (r 0).toNat = y.toInt := by
    rw [g_ms_at (by rw [g_lk69_4]; exact Nat.ble_eq_true_of_le (by omega)), hh2, g_vs_set hlen]
    exact g_at_int (List.getElem?_set_self (by rw [← ex]; exact hl))
  have c1 : ¬ (4 ≤ y.toInt ∧ y.toInt ≤ 7) := by omega
  have c4 : y.toInt = 3 ∨ y.toInt = 40 ∨ y.toInt = 41 := by omega
  have so : g_o (g_ms 4 h2) ((r 0).toNat + 1) = (r 1 + 1, r 2, r 4) := by
    simp only [g_o, e1, hv2, if_neg c0, if_neg c1, if_pos hy]
    exact Prod.ext (show (g_o (g_ms 4 h) (r 0).toNat).1 + 1 = r 1 + 1 by rw [g2]) (Prod.ext g3 g5)
  have sd : (g_d (g_ms 4 h2) ((r 0).toNat + 1)).1 = r 3 := by
    simp only [g_d, e2, hv2, if_neg c0d, if_neg c1, if_pos c4]
    exact g4
  have ep : q_e r ([(0, 1)], 1) = r 0 + 1 := by simp only [q_e, q_ev]; omega
  have en : (r 0 + 1).toNat = (r 0).toNat + 1 := by omega
  refine hK none _ ⟨τ, r, hJ, _, List.mem_cons_self, by rw [List.length_set]; exact Nat.le_refl _, by rw [p_sl_set hc (by simp)]; exact Nat.le_refl _, fun _ _ => rfl, g_F0, trivial, fun m hm => ?_⟩
  have hm : m ∈ [((([(0, 1)], 1), 64, 1000003, 1, 0, ([(1, 1)], 1)) : q_E × Nat × Nat × x_V), (([(0, 1)], 1), 64, 1000004, 1, 0, ([(2, 1)], 0)), (([(0, 1)], 1), 64, 1000005, 1, 0, ([(3, 1)], 0)), (([(0, 1)], 1), 64, 1000006, 1, 0, ([(4, 1)], 0))] := hm
  simp only [List.mem_cons, List.not_mem_nil, or_false] at hm
  show x_m x_EE τ r _ (h.set 69 (1, 0, vs.set (r 0).toNat (.int y))) m
  rw [← hh2]
  have h80 : 80 ≤ h2.length := by rw [hh2, List.length_set]; exact h80
  rcases hm with rfl | rfl | rfl | rfl
  · refine g_mk 2 rfl (q_v_wl (by decide)) (q_v_wl (by decide)) rfl h80 ?_
    show (if 0 ≤ q_e r ([(0, 1)], 1) ∧ q_e r ([(0, 1)], 1) ≤ 160 then (g_o (g_ms 2 h2) (q_e r ([(0, 1)], 1)).toNat).1 else -1) = q_e r ([(1, 1)], 1)
    rw [ep, if_pos (by omega), en]
    rw [g_o2, so]; simp only [q_e, q_ev]; omega
  · refine g_mk 3 rfl (q_v_wl (by decide)) (q_v_wl (by decide)) rfl h80 ?_
    show (if 0 ≤ q_e r ([(0, 1)], 1) ∧ q_e r ([(0, 1)], 1) ≤ 160 then (g_o (g_ms 3 h2) (q_e r ([(0, 1)], 1)).toNat).2.1 else -1) = q_e r ([(2, 1)], 0)
    rw [ep, if_pos (by omega), en]
    rw [g_o3, so]; simp only [q_e, q_ev]; omega
  · refine g_mk 4 rfl (q_v_wl (by decide)) (q_v_wl (by decide)) rfl h80 ?_
    show (if 0 ≤ q_e r ([(0, 1)], 1) ∧ q_e r ([(0, 1)], 1) ≤ 160 then (g_d (g_ms 4 h2) (q_e r ([(0, 1)], 1)).toNat).1 else -1) = q_e r ([(3, 1)], 0)
    rw [ep, if_pos (by omega), en]
    rw [sd]; simp only [q_e, q_ev]; omega
  · refine g_mk 5 rfl (q_v_wl (by decide)) (q_v_wl (by decide)) rfl h80 ?_
    show (if 0 ≤ q_e r ([(0, 1)], 1) ∧ q_e r ([(0, 1)], 1) ≤ 160 then (g_o (g_ms 5 h2) (q_e r ([(0, 1)], 1)).toNat).2.2 else -1) = q_e r ([(4, 1)], 0)
    rw [ep, if_pos (by omega), en]
    rw [g_o5, so]; simp only [q_e, q_ev]; omega
theorem hr_push41 (hat : p_at pc M.2.2.2.2.1 = some (.iastore, 1)) : x_HoldR p_GT p_MT x_EE M pc 1 cr_push41 := by
  intro τ r h as rest ls d Q hH hA hF hM hK
  obtain ⟨a, V, rfl, ha, hA⟩ := x_t3 (show x_vs τ r 5 [(3, 69, ([], ((69 : Nat) : Int))), (1, 0, ([(0, 1)], 0)), (1, 0, ([], 41))] as from hA)
  obtain ⟨x, V', rfl, -, hx, hA⟩ := x_t1 hA
  obtain ⟨y, V'', rfl, -, hy, hA⟩ := x_t1 hA
  rw [g_nil hA]
  obtain ⟨rfl, ht⟩ := g_ref ha
  rw [g_v] at hx
  obtain ⟨vs, hc, l1, l2, hf, -⟩ := g_cell hH ht (show x_KL[69]? = some _ from rfl)
  have h0 : 0 ≤ r 0 ∧ r 0 ≤ 159 := hF.1 (0, 0, 159) List.mem_cons_self
  have h1 : 0 ≤ r 1 ∧ r 1 ≤ 160 := hF.1 (1, 0, 160) (List.mem_cons_of_mem _ List.mem_cons_self)
  have h3 : 0 ≤ r 3 ∧ r 3 ≤ 500 := hF.1 (3, 0, 500) (List.mem_cons_of_mem _ (List.mem_cons_of_mem _ (List.mem_cons_of_mem _ List.mem_cons_self)))
  have hy : y.toInt = 41 := by simp only [q_e, q_ev] at hy; omega
  have hl : x.toNatClampNeg < vs.length := by
    have : 160 ≤ vs.length := l1
    rw [x_clamp]; omega
  have ex : x.toNatClampNeg = (r 0).toNat := by rw [x_clamp, hx]
  obtain ⟨h80, g2⟩ := g_gho (hM _ List.mem_cons_self) 2 rfl
  obtain ⟨-, g3⟩ := g_gho (hM _ (List.mem_cons_of_mem _ List.mem_cons_self)) 3 rfl
  obtain ⟨-, g4⟩ := g_gho (hM _ (List.mem_cons_of_mem _ (List.mem_cons_of_mem _ List.mem_cons_self))) 4 rfl
  obtain ⟨-, g5⟩ := g_gho (hM _ (List.mem_cons_of_mem _ (List.mem_cons_of_mem _ (List.mem_cons_of_mem _ List.mem_cons_self)))) 5 rfl
  have g2 : (g_o (g_ms 4 h) (r 0).toNat).1 = r 1 := by
    have e : (if 0 ≤ q_e r ([(0, 1)], 0) ∧ q_e r ([(0, 1)], 0) ≤ 160 then (g_o (g_ms 2 h) (q_e r ([(0, 1)], 0)).toNat).1 else -1) = q_e r ([(1, 1)], 0) := g2
    rw [g_v, g_v, if_pos (by omega), g_o2] at e
    exact e
  have g3 : (g_o (g_ms 4 h) (r 0).toNat).2.1 = r 2 := by
    have e : (if 0 ≤ q_e r ([(0, 1)], 0) ∧ q_e r ([(0, 1)], 0) ≤ 160 then (g_o (g_ms 3 h) (q_e r ([(0, 1)], 0)).toNat).2.1 else -1) = q_e r ([(2, 1)], 0) := g3
    rw [g_v, g_v, if_pos (by omega), g_o3] at e
    exact e
  have g4 : (g_d (g_ms 4 h) (r 0).toNat).1 = r 3 := by
    have e : (if 0 ≤ q_e r ([(0, 1)], 0) ∧ q_e r ([(0, 1)], 0) ≤ 160 then (g_d (g_ms 4 h) (q_e r ([(0, 1)], 0)).toNat).1 else -1) = q_e r ([(3, 1)], 0) := g4
    rw [g_v, g_v, if_pos (by omega)] at e
    exact e
  have g5 : (g_o (g_ms 4 h) (r 0).toNat).2.2 = r 4 := by
    have e : (if 0 ≤ q_e r ([(0, 1)], 0) ∧ q_e r ([(0, 1)], 0) ≤ 160 then (g_o (g_ms 5 h) (q_e r ([(0, 1)], 0)).toNat).2.2 else -1) = q_e r ([(4, 1)], 0) := g5
    rw [g_v, g_v, if_pos (by omega), g_o5] at e
    exact e
  have c0 : ¬ (g_o (g_ms 4 h) (r 0).toNat).1 < 0 := by omega
  have c0d : ¬ (g_d (g_ms 4 h) (r 0).toNat).1 < 0 := by omega
  refine g_store hat hc (g_nn hx h0.1) hl ?_
  rw [ex]
  have hJ := (g_J0 hH [(69, 0, 159)]).put x_EE_EO (lo := 0) (hi := 159) (j := (r 0).toNat) (v := .int y) ht hc (show x_KL[69]? = some _ from rfl) (by rw [x_pt0 (t := x_any) rfl rfl rfl]; exact ⟨y, rfl, x_I32 y⟩) rfl rfl (Nat.zero_le _) (by omega)
  have hlen : 69 < h.length := by omega
  obtain ⟨h2, hh2⟩ : ∃ h2, h2 = h.set 69 (1, 0, vs.set (r 0).toNat (.int y)) := ⟨_, rfl⟩
  have hne : ∀ j, j < (r 0).toNat → g_ms 4 h2 69 j = g_ms 4 h 69 j := fun j hj => by rw [hh2]; exact g_ms_set_at hc rfl (by omega)
  have h70 : ∀ j, g_ms 4 h2 70 j = g_ms 4 h 70 j := fun j => by rw [hh2]; exact g_ms_set_ne (by decide)
  have e1 := g_o_lt (R := g_ms 4 h2) (R' := g_ms 4 h) (r 0).toNat hne
  have e2 := g_d_lt (R := g_ms 4 h2) (R' := g_ms 4 h) h70 (r 0).toNat hne
  have hv2 : g_ms 4 h2 69 (r 0).toNat = y.toInt := by
    rw [g_ms_at (by rw [g_lk69_4]; exact Nat.ble_eq_true_of_le (by omega)), hh2, g_vs_set hlen]
    exact g_at_int (List.getElem?_set_self (by rw [← ex]; exact hl))
  have c1 : ¬ (4 ≤ y.toInt ∧ y.toInt ≤ 7) := by omega
  have c2 : ¬ y.toInt = 3 := by omega
  have c3 : y.toInt = 40 ∨ y.toInt = 41 := by omega
  have c4 : y.toInt = 3 ∨ y.toInt = 40 ∨ y.toInt = 41 := by omega
  have so : g_o (g_ms 4 h2) ((r 0).toNat + 1) = (r 1 + 1, r 2, 41) := by
    simp only [g_o, e1, hv2, if_neg c0, if_neg c1, if_neg c2, if_pos c3]
    exact Prod.ext (show (g_o (g_ms 4 h) (r 0).toNat).1 + 1 = r 1 + 1 by rw [g2]) (Prod.ext g3 hy)
  have sd : (g_d (g_ms 4 h2) ((r 0).toNat + 1)).1 = r 3 := by
    simp only [g_d, e2, hv2, if_neg c0d, if_neg c1, if_pos c4]
    exact g4
  have ep : q_e r ([(0, 1)], 1) = r 0 + 1 := by simp only [q_e, q_ev]; omega
  have en : (r 0 + 1).toNat = (r 0).toNat + 1 := by omega
  refine hK none _ ⟨τ, r, hJ, _, List.mem_cons_self, by rw [List.length_set]; exact Nat.le_refl _, by rw [p_sl_set hc (by simp)]; exact Nat.le_refl _, fun _ _ => rfl, g_F0, trivial, fun m hm => ?_⟩
  have hm : m ∈ [((([(0, 1)], 1), 64, 1000003, 1, 0, ([(1, 1)], 1)) : q_E × Nat × Nat × x_V), (([(0, 1)], 1), 64, 1000004, 1, 0, ([(2, 1)], 0)), (([(0, 1)], 1), 64, 1000005, 1, 0, ([(3, 1)], 0)), (([(0, 1)], 1), 64, 1000006, 1, 0, ([], 41))] := hm
  simp only [List.mem_cons, List.not_mem_nil, or_false] at hm
  show x_m x_EE τ r _ (h.set 69 (1, 0, vs.set (r 0).toNat (.int y))) m
  rw [← hh2]
  have h80 : 80 ≤ h2.length := by rw [hh2, List.length_set]; exact h80
  rcases hm with rfl | rfl | rfl | rfl
  · refine g_mk 2 rfl (q_v_wl (by decide)) (q_v_wl (by decide)) rfl h80 ?_
    show (if 0 ≤ q_e r ([(0, 1)], 1) ∧ q_e r ([(0, 1)], 1) ≤ 160 then (g_o (g_ms 2 h2) (q_e r ([(0, 1)], 1)).toNat).1 else -1) = q_e r ([(1, 1)], 1)
    rw [ep, if_pos (by omega), en]
    rw [g_o2, so]; simp only [q_e, q_ev]; omega
  · refine g_mk 3 rfl (q_v_wl (by decide)) (q_v_wl (by decide)) rfl h80 ?_
    show (if 0 ≤ q_e r ([(0, 1)], 1) ∧ q_e r ([(0, 1)], 1) ≤ 160 then (g_o (g_ms 3 h2) (q_e r ([(0, 1)], 1)).toNat).2.1 else -1) = q_e r ([(2, 1)], 0)
    rw [ep, if_pos (by omega), en]
    rw [g_o3, so]; simp only [q_e, q_ev]; omega
  · refine g_mk 4 rfl (q_v_wl (by decide)) (q_v_wl (by decide)) rfl h80 ?_
    show (if 0 ≤ q_e r ([(0, 1)], 1) ∧ q_e r ([(0, 1)], 1) ≤ 160 then (g_d (g_ms 4 h2) (q_e r ([(0, 1)], 1)).toNat).1 else -1) = q_e r ([(3, 1)], 0)
    rw [ep, if_pos (by omega), en]
    rw [sd]; simp only [q_e, q_ev]; omega
  · refine g_mk 5 rfl (q_v_wl (by decide)) q_wl_nil rfl h80 ?_
    show (if 0 ≤ q_e r ([(0, 1)], 1) ∧ q_e r ([(0, 1)], 1) ≤ 160 then (g_o (g_ms 5 h2) (q_e r ([(0, 1)], 1)).toNat).2.2 else -1) = q_e r ([], 41)
    rw [ep, if_pos (by omega), en]
    rw [g_o5, so]; simp only [q_e, q_ev]; omega
theorem hr_pushBinary (hat : p_at pc M.2.2.2.2.1 = some (.iastore, 1)) : x_HoldR p_GT p_MT x_EE M pc 1 cr_pushBinary := by
  intro τ r h as rest ls d Q hH hA hF hM hK
  obtain ⟨a, V, rfl, ha, hA⟩ := x_t3 (show x_vs τ r 6 [(3, 69, ([], ((69 : Nat) : Int))), (1, 0, ([(0, 1)], 0)), (1, 0, ([(5, 1)], 0))] as from hA)
  obtain ⟨x, V', rfl, -, hx, hA⟩ := x_t1 hA
  obtain ⟨y, V'', rfl, -, hy, hA⟩ := x_t1 hA
  rw [g_nil hA]
  obtain ⟨rfl, ht⟩ := g_ref ha
  rw [g_v] at hx
  obtain ⟨vs, hc, l1, l2, hf, -⟩ := g_cell hH ht (show x_KL[69]? = some _ from rfl)
  have h0 : 0 ≤ r 0 ∧ r 0 ≤ 159 := hF.1 (0, 0, 159) List.mem_cons_self
  have h1 : 0 ≤ r 1 ∧ r 1 ≤ 160 := hF.1 (1, 0, 160) (List.mem_cons_of_mem _ List.mem_cons_self)
  have h3 : 0 ≤ r 3 ∧ r 3 ≤ 500 := hF.1 (3, 0, 500) (List.mem_cons_of_mem _ (List.mem_cons_of_mem _ (List.mem_cons_of_mem _ List.mem_cons_self)))
  have hy : 4 ≤ y.toInt ∧ y.toInt ≤ 7 := by
    have e : 4 ≤ r 5 ∧ r 5 ≤ 7 := hF.1 (5, 4, 7) (List.mem_cons_of_mem _ (List.mem_cons_of_mem _ (List.mem_cons_of_mem _ (List.mem_cons_of_mem _ (List.mem_cons_of_mem _ List.mem_cons_self)))))
    rw [g_v] at hy
    omega
  have hl : x.toNatClampNeg < vs.length := by
    have : 160 ≤ vs.length := l1
    rw [x_clamp]; omega
  have ex : x.toNatClampNeg = (r 0).toNat := by rw [x_clamp, hx]
  obtain ⟨h80, g2⟩ := g_gho (hM _ List.mem_cons_self) 2 rfl
  obtain ⟨-, g3⟩ := g_gho (hM _ (List.mem_cons_of_mem _ List.mem_cons_self)) 3 rfl
  obtain ⟨-, g4⟩ := g_gho (hM _ (List.mem_cons_of_mem _ (List.mem_cons_of_mem _ List.mem_cons_self))) 4 rfl
  obtain ⟨-, g5⟩ := g_gho (hM _ (List.mem_cons_of_mem _ (List.mem_cons_of_mem _ (List.mem_cons_of_mem _ List.mem_cons_self)))) 5 rfl
  have g2 : (g_o (g_ms 4 h) (r 0).toNat).1 = r 1 := by
    have e : (if 0 ≤ q_e r ([(0, 1)], 0) ∧ q_e r ([(0, 1)], 0) ≤ 160 then (g_o (g_ms 2 h) (q_e r ([(0, 1)], 0)).toNat).1 else -1) = q_e r ([(1, 1)], 0) := g2
    rw [g_v, g_v, if_pos (by omega), g_o2] at e
    exact e
  have g3 : (g_o (g_ms 4 h) (r 0).toNat).2.1 = r 2 := by
    have e : (if 0 ≤ q_e r ([(0, 1)], 0) ∧ q_e r ([(0, 1)], 0) ≤ 160 then (g_o (g_ms 3 h) (q_e r ([(0, 1)], 0)).toNat).2.1 else -1) = q_e r ([(2, 1)], 0) := g3
    rw [g_v, g_v, if_pos (by omega), g_o3] at e
    exact e
  have g4 : (g_d (g_ms 4 h) (r 0).toNat).1 = r 3 := by
    have e : (if 0 ≤ q_e r ([(0, 1)], 0) ∧ q_e r ([(0, 1)], 0) ≤ 160 then (g_d (g_ms 4 h) (q_e r ([(0, 1)], 0)).toNat).1 else -1) = q_e r ([(3, 1)], 0) := g4
    rw [g_v, g_v, if_pos (by omega)] at e
    exact e
  have g5 : (g_o (g_ms 4 h) (r 0).toNat).2.2 = r 4 := by
    have e : (if 0 ≤ q_e r ([(0, 1)], 0) ∧ q_e r ([(0, 1)], 0) ≤ 160 then (g_o (g_ms 5 h) (q_e r ([(0, 1)], 0)).toNat).2.2 else -1) = q_e r ([(4, 1)], 0) := g5
    rw [g_v, g_v, if_pos (by omega), g_o5] at e
    exact e
  have c0 : ¬ (g_o (g_ms 4 h) (r 0).toNat).1 < 0 := by omega
  have c0d : ¬ (g_d (g_ms 4 h) (r 0).toNat).1 < 0 := by omega
  refine g_store hat hc (g_nn hx h0.1) hl ?_
  rw [ex]
  have hJ := (g_J0 hH [(69, 0, 159)]).put x_EE_EO (lo := 0) (hi := 159) (j := (r 0).toNat) (v := .int y) ht hc (show x_KL[69]? = some _ from rfl) (by rw [x_pt0 (t := x_any) rfl rfl rfl]; exact ⟨y, rfl, x_I32 y⟩) rfl rfl (Nat.zero_le _) (by omega)
  have hlen : 69 < h.length := by omega
  obtain ⟨h2, hh2⟩ : ∃ h2, h2 = h.set 69 (1, 0, vs.set (r 0).toNat (.int y)) := ⟨_, rfl⟩
  have hne : ∀ j, j < (r 0).toNat → g_ms 4 h2 69 j = g_ms 4 h 69 j := fun j hj => by rw [hh2]; exact g_ms_set_at hc rfl (by omega)
  have h70 : ∀ j, g_ms 4 h2 70 j = g_ms 4 h 70 j := fun j => by rw [hh2]; exact g_ms_set_ne (by decide)
  have e1 := g_o_lt (R := g_ms 4 h2) (R' := g_ms 4 h) (r 0).toNat hne
  have e2 := g_d_lt (R := g_ms 4 h2) (R' := g_ms 4 h) h70 (r 0).toNat hne
  have hv2 : g_ms 4 h2 69 (r 0).toNat = y.toInt := by
    rw [g_ms_at (by rw [g_lk69_4]; exact Nat.ble_eq_true_of_le (by omega)), hh2, g_vs_set hlen]
    exact g_at_int (List.getElem?_set_self (by rw [← ex]; exact hl))
  have c1 : 4 ≤ y.toInt ∧ y.toInt ≤ 7 := hy
  have so : g_o (g_ms 4 h2) ((r 0).toNat + 1) = (r 1, r 2, r 4) := by
    simp only [g_o, e1, hv2, if_neg c0, if_pos c1]
    exact Prod.ext g2 (Prod.ext g3 g5)
  have sd : (g_d (g_ms 4 h2) ((r 0).toNat + 1)).1 = r 3 + 1 := by
    simp only [g_d, e2, hv2, if_neg c0d, if_pos c1]
    rw [g4]
  have ep : q_e r ([(0, 1)], 1) = r 0 + 1 := by simp only [q_e, q_ev]; omega
  have en : (r 0 + 1).toNat = (r 0).toNat + 1 := by omega
  refine hK none _ ⟨τ, r, hJ, _, List.mem_cons_self, by rw [List.length_set]; exact Nat.le_refl _, by rw [p_sl_set hc (by simp)]; exact Nat.le_refl _, fun _ _ => rfl, g_F0, trivial, fun m hm => ?_⟩
  have hm : m ∈ [((([(0, 1)], 1), 64, 1000003, 1, 0, ([(1, 1)], 0)) : q_E × Nat × Nat × x_V), (([(0, 1)], 1), 64, 1000004, 1, 0, ([(2, 1)], 0)), (([(0, 1)], 1), 64, 1000005, 1, 0, ([(3, 1)], 1)), (([(0, 1)], 1), 64, 1000006, 1, 0, ([(4, 1)], 0))] := hm
  simp only [List.mem_cons, List.not_mem_nil, or_false] at hm
  show x_m x_EE τ r _ (h.set 69 (1, 0, vs.set (r 0).toNat (.int y))) m
  rw [← hh2]
  have h80 : 80 ≤ h2.length := by rw [hh2, List.length_set]; exact h80
  rcases hm with rfl | rfl | rfl | rfl
  · refine g_mk 2 rfl (q_v_wl (by decide)) (q_v_wl (by decide)) rfl h80 ?_
    show (if 0 ≤ q_e r ([(0, 1)], 1) ∧ q_e r ([(0, 1)], 1) ≤ 160 then (g_o (g_ms 2 h2) (q_e r ([(0, 1)], 1)).toNat).1 else -1) = q_e r ([(1, 1)], 0)
    rw [ep, if_pos (by omega), en]
    rw [g_o2, so]; simp only [q_e, q_ev]; omega
  · refine g_mk 3 rfl (q_v_wl (by decide)) (q_v_wl (by decide)) rfl h80 ?_
    show (if 0 ≤ q_e r ([(0, 1)], 1) ∧ q_e r ([(0, 1)], 1) ≤ 160 then (g_o (g_ms 3 h2) (q_e r ([(0, 1)], 1)).toNat).2.1 else -1) = q_e r ([(2, 1)], 0)
    rw [ep, if_pos (by omega), en]
    rw [g_o3, so]; simp only [q_e, q_ev]; omega
  · refine g_mk 4 rfl (q_v_wl (by decide)) (q_v_wl (by decide)) rfl h80 ?_
    show (if 0 ≤ q_e r ([(0, 1)], 1) ∧ q_e r ([(0, 1)], 1) ≤ 160 then (g_d (g_ms 4 h2) (q_e r ([(0, 1)], 1)).toNat).1 else -1) = q_e r ([(3, 1)], 1)
    rw [ep, if_pos (by omega), en]
    rw [sd]; simp only [q_e, q_ev]; omega
  · refine g_mk 5 rfl (q_v_wl (by decide)) (q_v_wl (by decide)) rfl h80 ?_
    show (if 0 ≤ q_e r ([(0, 1)], 1) ∧ q_e r ([(0, 1)], 1) ≤ 160 then (g_o (g_ms 5 h2) (q_e r ([(0, 1)], 1)).toNat).2.2 else -1) = q_e r ([(4, 1)], 0)
    rw [ep, if_pos (by omega), en]
    rw [g_o5, so]; simp only [q_e, q_ev]; omega
end GPU

/-! Rule: the top of the pile becomes NTH_IN -/
section GTI
variable {M : p_M} {pc : Nat}
theorem hr_topIn (hat : p_at pc M.2.2.2.2.1 = some (.iastore, 1)) : x_HoldR p_GT p_MT x_EE M pc 1 cr_topIn := by
  intro τ r h as rest ls d Q hH hA hF hM hK
  obtain ⟨a, V, rfl, ha, hA⟩ := x_t3 (show x_vs τ r 4 [(3, 69, ([], ((69 : Nat) : Int))), (1, 0, ([(0, 1)], 0)), (1, 0, ([], 42))] as from hA)
  obtain ⟨x, V', rfl, -, hx, hA⟩ := x_t1 hA
  obtain ⟨y, V'', rfl, -, hy, hA⟩ := x_t1 hA
  rw [g_nil hA]
  obtain ⟨rfl, ht⟩ := g_ref ha
  rw [g_v] at hx
  obtain ⟨vs, hc, l1, l2, hf, -⟩ := g_cell hH ht (show x_KL[69]? = some _ from rfl)
  have h0 : 0 ≤ r 0 ∧ r 0 ≤ 159 := hF.1 (0, 0, 159) List.mem_cons_self
  have hy : y.toInt = 42 := by simp only [q_e, q_ev] at hy; omega
  have hl : x.toNatClampNeg < vs.length := by
    have : 160 ≤ vs.length := l1
    rw [x_clamp]; omega
  have ex : x.toNatClampNeg = (r 0).toNat := by rw [x_clamp, hx]
  obtain ⟨h80, -⟩ := g_gho (hM _ List.mem_cons_self) 1 rfl
  obtain ⟨-, g2⟩ := g_gho (hM _ (List.mem_cons_of_mem _ List.mem_cons_self)) 2 rfl
  obtain ⟨-, g3⟩ := g_gho (hM _ (List.mem_cons_of_mem _ (List.mem_cons_of_mem _ List.mem_cons_self))) 3 rfl
  obtain ⟨-, g4⟩ := g_gho (hM _ (List.mem_cons_of_mem _ (List.mem_cons_of_mem _ (List.mem_cons_of_mem _ List.mem_cons_self)))) 4 rfl
  have g2 : (g_o (g_ms 4 h) (r 0).toNat).1 = r 1 := by
    have e : (if 0 ≤ q_e r ([(0, 1)], 0) ∧ q_e r ([(0, 1)], 0) ≤ 160 then (g_o (g_ms 2 h) (q_e r ([(0, 1)], 0)).toNat).1 else -1) = q_e r ([(1, 1)], 0) := g2
    rw [g_v, g_v, if_pos (by omega), g_o2] at e
    exact e
  have g3 : (g_o (g_ms 4 h) (r 0).toNat).2.1 = r 2 := by
    have e : (if 0 ≤ q_e r ([(0, 1)], 0) ∧ q_e r ([(0, 1)], 0) ≤ 160 then (g_o (g_ms 3 h) (q_e r ([(0, 1)], 0)).toNat).2.1 else -1) = q_e r ([(2, 1)], 0) := g3
    rw [g_v, g_v, if_pos (by omega), g_o3] at e
    exact e
  have g4 : (g_d (g_ms 4 h) (r 0).toNat).1 = r 3 := by
    have e : (if 0 ≤ q_e r ([(0, 1)], 0) ∧ q_e r ([(0, 1)], 0) ≤ 160 then (g_d (g_ms 4 h) (q_e r ([(0, 1)], 0)).toNat).1 else -1) = q_e r ([(3, 1)], 0) := g4
    rw [g_v, g_v, if_pos (by omega)] at e
    exact e
  refine g_store hat hc (g_nn hx h0.1) hl ?_
  rw [ex]
  have hJ := (g_J0 hH [(69, 0, 159)]).put x_EE_EO (lo := 0) (hi := 159) (j := (r 0).toNat) (v := .int y) ht hc (show x_KL[69]? = some _ from rfl) (by rw [x_pt0 (t := x_any) rfl rfl rfl]; exact ⟨y, rfl, x_I32 y⟩) rfl rfl (Nat.zero_le _) (by omega)
  have hlen : 69 < h.length := by omega
  obtain ⟨h2, hh2⟩ : ∃ h2, h2 = h.set 69 (1, 0, vs.set (r 0).toNat (.int y)) := ⟨_, rfl⟩
  have hne : ∀ j, j < (r 0).toNat → g_ms 4 h2 69 j = g_ms 4 h 69 j := fun j hj => by rw [hh2]; exact g_ms_set_at hc rfl (by omega)
  have h70 : ∀ j, g_ms 4 h2 70 j = g_ms 4 h 70 j := fun j => by rw [hh2]; exact g_ms_set_ne (by decide)
  have e1 := g_o_lt (R := g_ms 4 h2) (R' := g_ms 4 h) (r 0).toNat hne
  have e2 := g_d_lt (R := g_ms 4 h2) (R' := g_ms 4 h) h70 (r 0).toNat hne
  have hv2 : g_ms 4 h2 69 (r 0).toNat = y.toInt := by
    rw [g_ms_at (by rw [g_lk69_4]; exact Nat.ble_eq_true_of_le (by omega)), hh2, g_vs_set hlen]
    exact g_at_int (List.getElem?_set_self (by rw [← ex]; exact hl))
  refine hK none _ ⟨τ, r, hJ, _, List.mem_cons_self, by rw [List.length_set]; exact Nat.le_refl _, by rw [p_sl_set hc (by simp)]; exact Nat.le_refl _, fun _ _ => rfl, g_F0, trivial, fun m hm => ?_⟩
  have hm : m ∈ [((([(0, 1)], 0), 64, 1000002, 1, 0, ([], 42)) : q_E × Nat × Nat × x_V), (([(0, 1)], 0), 64, 1000003, 1, 0, ([(1, 1)], 0)), (([(0, 1)], 0), 64, 1000004, 1, 0, ([(2, 1)], 0)), (([(0, 1)], 0), 64, 1000005, 1, 0, ([(3, 1)], 0))] := hm
  simp only [List.mem_cons, List.not_mem_nil, or_false] at hm
  show x_m x_EE τ r _ (h.set 69 (1, 0, vs.set (r 0).toNat (.int y))) m
  rw [← hh2]
  have h80 : 80 ≤ h2.length := by rw [hh2, List.length_set]; exact h80
  rcases hm with rfl | rfl | rfl | rfl
  · refine g_mk 1 rfl (q_v_wl (by decide)) q_wl_nil rfl h80 ?_
    show g_ms 1 h2 69 (q_e r ([(0, 1)], 0)).toNat = q_e r ([], 42)
    rw [g_v, g_ms69_1, hv2, hy]; simp only [q_e, q_ev]; omega
  · refine g_mk 2 rfl (q_v_wl (by decide)) (q_v_wl (by decide)) rfl h80 ?_
    show (if 0 ≤ q_e r ([(0, 1)], 0) ∧ q_e r ([(0, 1)], 0) ≤ 160 then (g_o (g_ms 2 h2) (q_e r ([(0, 1)], 0)).toNat).1 else -1) = q_e r ([(1, 1)], 0)
    rw [g_v, g_v, if_pos (by omega), g_o2, e1]; exact g2
  · refine g_mk 3 rfl (q_v_wl (by decide)) (q_v_wl (by decide)) rfl h80 ?_
    show (if 0 ≤ q_e r ([(0, 1)], 0) ∧ q_e r ([(0, 1)], 0) ≤ 160 then (g_o (g_ms 3 h2) (q_e r ([(0, 1)], 0)).toNat).2.1 else -1) = q_e r ([(2, 1)], 0)
    rw [g_v, g_v, if_pos (by omega), g_o3, e1]; exact g3
  · refine g_mk 4 rfl (q_v_wl (by decide)) (q_v_wl (by decide)) rfl h80 ?_
    show (if 0 ≤ q_e r ([(0, 1)], 0) ∧ q_e r ([(0, 1)], 0) ≤ 160 then (g_d (g_ms 4 h2) (q_e r ([(0, 1)], 0)).toNat).1 else -1) = q_e r ([(3, 1)], 0)
    rw [g_v, g_v, if_pos (by omega), e2]; exact g4
end GTI

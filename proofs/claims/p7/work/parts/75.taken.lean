/-! Rules: the taken ones -/
section GTA
variable {M : p_M} {pc : Nat}
theorem g_loadB {G : p_G} {MT : List p_M} {d : Nat} {ls : p_Ls} {rest : List Value} {h : p_H} {Q : Option Value → p_H → Prop} {a : Nat} {x : Int32} {vs : List Value} {v : Value} (hat : p_at pc M.2.2.2.2.1 = some (.baload, 1)) (hc : h[a]? = some (1, 3, vs)) (hx : ¬ x < 0) (hv : vs[x.toNatClampNeg]? = some v) (hk : p_wp G MT d M (pc + 1) ls (v :: rest) h Q) : p_wp G MT d M pc ls (.int x :: .ref a :: rest) h Q := by
  refine p_wp.step hat ?_ hk
  simp only [p_step, p_al, hc, p_ix, if_neg hx, hv]
  rfl
theorem g_lk74_10 {j : Nat} : g_lk 10 74 j = Nat.ble j 63 := by
  have e : g_lk 10 74 j = (Nat.ble j 63 || (false || false)) := rfl
  rw [e]; cases Nat.ble j 63 <;> rfl
theorem g_lk74_11 {j : Nat} : g_lk 11 74 j = Nat.ble j 63 := by
  have e : g_lk 11 74 j = (false || (Nat.ble j 63 || false)) := rfl
  rw [e]; cases Nat.ble j 63 <;> rfl
theorem hr_takenRead2 (hat : p_at pc M.2.2.2.2.1 = some (.baload, 1)) : x_HoldR p_GT p_MT x_EE M pc 1 cr_takenRead2 := by
  intro τ r h as rest ls d Q hH hA hF hM hK
  obtain ⟨a, V, rfl, ha, hA⟩ := x_t3 (show x_vs τ r 1 [(3, 74, ([], ((74 : Nat) : Int))), (1, 0, ([(0, 1)], 0))] as from hA)
  obtain ⟨x, V', rfl, -, hx, hA⟩ := x_t1 hA
  rw [g_nil hA]
  obtain ⟨rfl, ht⟩ := g_ref ha
  rw [g_v] at hx
  obtain ⟨vs, hc, l1, l2, hf, -⟩ := g_cell hH ht (show x_KL[74]? = some _ from rfl)
  have h80 := g_80 (hM _ List.mem_cons_self)
  have h0 : 0 ≤ r 0 ∧ r 0 ≤ 63 := hF.1 (0, 0, 63) List.mem_cons_self
  have hl : x.toNatClampNeg < vs.length := by
    have : 64 ≤ vs.length := l1
    rw [x_clamp]; omega
  have hy := hf _ _ (List.getElem?_eq_getElem hl)
  rw [x_pt0 (t := (1, 0, 0, 1)) rfl rfl rfl] at hy
  obtain ⟨y, hy, b1, b2⟩ := hy
  have b1 : 0 ≤ y.toInt := b1
  have b2 : y.toInt ≤ 1 := b2
  have hv : vs[x.toNatClampNeg]? = some (.int y) := by rw [List.getElem?_eq_getElem hl, hy]
  rcases (show y.toInt = 0 ∨ y.toInt = 1 by omega) with e | e
  · refine g_loadB hat hc (g_nn hx h0.1) hv (hK (some (.int y)) h ⟨τ, r, g_J0 hH _, _, List.mem_cons_self, Nat.le_refl _, Nat.le_refl _, fun _ _ => rfl, g_F0, ⟨q_wl_nil, y, rfl, ?_⟩, fun m hm => ?_⟩)
    · show y.toInt = q_e r ([], 0)
      simp only [q_e, q_ev]; omega
    · have hm : m ∈ [((([(0, 1)], 0), 64, 1000011, 1, 0, ([], 0)) : q_E × Nat × Nat × x_V)] := hm
      rw [List.mem_singleton.mp hm]
      refine g_mk 10 rfl (q_v_wl (by decide)) q_wl_nil rfl h80 ?_
      show g_ms 10 h 74 (q_e r ([(0, 1)], 0)).toNat = q_e r ([], 0)
      rw [g_v, g_ms_at (by rw [g_lk74_10]; exact Nat.ble_eq_true_of_le (by omega)), g_vs_at hc]
      have : vs[(r 0).toNat]? = some (.int y) := by rw [← hx]; exact hv
      rw [show g_at _ _ = _ from g_at_int this, e]
      simp only [q_e, q_ev]; rfl
  · refine g_loadB hat hc (g_nn hx h0.1) hv (hK (some (.int y)) h ⟨τ, r, g_J0 hH _, _, List.mem_cons_of_mem _ List.mem_cons_self, Nat.le_refl _, Nat.le_refl _, fun _ _ => rfl, g_F0, ⟨q_wl_nil, y, rfl, ?_⟩, fun m hm => (by cases hm)⟩)
    show y.toInt = q_e r ([], 1)
    simp only [q_e, q_ev]; omega
end GTA

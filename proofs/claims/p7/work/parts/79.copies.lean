/-! Rules: places of arrays of one type are copied -/
section GCP
variable {M : p_M} {pc : Nat}
theorem hr_asideSet (hat : p_at pc M.2.2.2.2.1 = some (.iaload, 1)) (hat2 : p_at (pc + 1) M.2.2.2.2.1 = some (.iastore, 1)) : x_HoldR p_GT p_MT x_EE M pc 2 cr_asideSet := by
  intro τ r h as rest ls d Q hH hA hF hM hK
  obtain ⟨a, V, rfl, ha, hA⟩ := x_t3 (show x_vs τ r 1 [(3, 73, ([], ((73 : Nat) : Int))), (1, 0, ([(0, 1)], 0)), (3, 65, ([], ((65 : Nat) : Int))), (1, 0, ([(0, 1)], 0))] as from hA)
  obtain ⟨x, V1, rfl, -, hx, hA⟩ := x_t1 hA
  obtain ⟨b, V2, rfl, hb, hA⟩ := x_t3 hA
  obtain ⟨x2, V3, rfl, -, hx2, hA⟩ := x_t1 hA
  rw [g_nil hA]
  obtain ⟨rfl, ht⟩ := g_ref ha
  obtain ⟨rfl, ht2⟩ := g_ref hb
  rw [g_v] at hx
  have hx2 : x2.toInt = r 0 + 0 := by rw [hx2]; simp only [q_e, q_ev]; omega
  obtain ⟨vs, hc, l1, l2, hf, -⟩ := g_cell hH ht (show x_KL[73]? = some _ from rfl)
  obtain ⟨ws, hc2, k1, k2, hf2, -⟩ := g_cell hH ht2 (show x_KL[65]? = some _ from rfl)
  have h0 : 9 ≤ r 0 ∧ r 0 ≤ 211 := hF.1 (0, 9, 211) List.mem_cons_self
  have hl : x.toNatClampNeg < vs.length := by
    have : 212 ≤ vs.length := l1
    rw [x_clamp]; omega
  have hl2 : x2.toNatClampNeg < ws.length := by
    have : 2517 ≤ ws.length := k1
    rw [x_clamp]; omega
  obtain ⟨y, hy⟩ := g_int rfl rfl hf2 hl2
  have ex : x.toNatClampNeg = (r 0).toNat := by rw [x_clamp, hx]
  have ex2 : x2.toNatClampNeg = (r 0).toNat + 0 := by rw [x_clamp, hx2]; omega
  have hfo : ∀ K K', x_KL[73]? = some K → x_KL[65]? = some K' → x_fo τ (x_pt K' ((r 0).toNat + 0)) (.int y) → x_fo τ (x_pt K (r 0).toNat) (.int y) := by
    intro K K' e1 e2 hq
    have hall : (match x_KL[73]?, x_KL[65]? with
      | some K, some K' => (List.range 203).all (fun i => decide (x_pt K (9 + i) = x_pt K' (9 + i + 0)))
      | _, _ => false) = true := by decide +kernel
    rw [e1, e2] at hall
    have := of_decide_eq_true (List.all_eq_true.mp hall ((r 0).toNat - 9) (List.mem_range.mpr (by omega)))
    rw [show 9 + ((r 0).toNat - 9) = (r 0).toNat by omega] at this
    rw [this]; exact hq
  have hJ := (g_J0 hH [(73, 9, 211)]).put x_EE_EO (lo := 9) (hi := 211) (j := (r 0).toNat) (v := .int y) ht hc (show x_KL[73]? = some _ from rfl) (hfo _ _ rfl rfl (hf2 _ _ (by rw [← ex2]; exact hy))) rfl rfl (by omega) (by omega)
  refine g_load hat hc2 (g_nn hx2 (by omega)) hy (g_store hat2 hc (g_nn hx (by omega)) hl ?_)
  rw [ex]
  exact hK none _ ⟨τ, r, hJ, _, List.mem_cons_self, by rw [List.length_set]; exact Nat.le_refl _, by rw [p_sl_set hc (by simp)]; exact Nat.le_refl _, fun _ _ => rfl, g_F0, trivial, fun m hm => (by cases hm)⟩
theorem hr_asideBack (hat : p_at pc M.2.2.2.2.1 = some (.iaload, 1)) (hat2 : p_at (pc + 1) M.2.2.2.2.1 = some (.iastore, 1)) : x_HoldR p_GT p_MT x_EE M pc 2 cr_asideBack := by
  intro τ r h as rest ls d Q hH hA hF hM hK
  obtain ⟨a, V, rfl, ha, hA⟩ := x_t3 (show x_vs τ r 1 [(3, 65, ([], ((65 : Nat) : Int))), (1, 0, ([(0, 1)], 0)), (3, 73, ([], ((73 : Nat) : Int))), (1, 0, ([(0, 1)], 0))] as from hA)
  obtain ⟨x, V1, rfl, -, hx, hA⟩ := x_t1 hA
  obtain ⟨b, V2, rfl, hb, hA⟩ := x_t3 hA
  obtain ⟨x2, V3, rfl, -, hx2, hA⟩ := x_t1 hA
  rw [g_nil hA]
  obtain ⟨rfl, ht⟩ := g_ref ha
  obtain ⟨rfl, ht2⟩ := g_ref hb
  rw [g_v] at hx
  have hx2 : x2.toInt = r 0 + 0 := by rw [hx2]; simp only [q_e, q_ev]; omega
  obtain ⟨vs, hc, l1, l2, hf, -⟩ := g_cell hH ht (show x_KL[65]? = some _ from rfl)
  obtain ⟨ws, hc2, k1, k2, hf2, -⟩ := g_cell hH ht2 (show x_KL[73]? = some _ from rfl)
  have h0 : 9 ≤ r 0 ∧ r 0 ≤ 211 := hF.1 (0, 9, 211) List.mem_cons_self
  have hl : x.toNatClampNeg < vs.length := by
    have : 2517 ≤ vs.length := l1
    rw [x_clamp]; omega
  have hl2 : x2.toNatClampNeg < ws.length := by
    have : 212 ≤ ws.length := k1
    rw [x_clamp]; omega
  obtain ⟨y, hy⟩ := g_int rfl rfl hf2 hl2
  have ex : x.toNatClampNeg = (r 0).toNat := by rw [x_clamp, hx]
  have ex2 : x2.toNatClampNeg = (r 0).toNat + 0 := by rw [x_clamp, hx2]; omega
  have hfo : ∀ K K', x_KL[65]? = some K → x_KL[73]? = some K' → x_fo τ (x_pt K' ((r 0).toNat + 0)) (.int y) → x_fo τ (x_pt K (r 0).toNat) (.int y) := by
    intro K K' e1 e2 hq
    have hall : (match x_KL[65]?, x_KL[73]? with
      | some K, some K' => (List.range 203).all (fun i => decide (x_pt K (9 + i) = x_pt K' (9 + i + 0)))
      | _, _ => false) = true := by decide +kernel
    rw [e1, e2] at hall
    have := of_decide_eq_true (List.all_eq_true.mp hall ((r 0).toNat - 9) (List.mem_range.mpr (by omega)))
    rw [show 9 + ((r 0).toNat - 9) = (r 0).toNat by omega] at this
    rw [this]; exact hq
  have hJ := (g_J0 hH [(65, 9, 211)]).put x_EE_EO (lo := 9) (hi := 211) (j := (r 0).toNat) (v := .int y) ht hc (show x_KL[65]? = some _ from rfl) (hfo _ _ rfl rfl (hf2 _ _ (by rw [← ex2]; exact hy))) rfl rfl (by omega) (by omega)
  refine g_load hat hc2 (g_nn hx2 (by omega)) hy (g_store hat2 hc (g_nn hx (by omega)) hl ?_)
  rw [ex]
  exact hK none _ ⟨τ, r, hJ, _, List.mem_cons_self, by rw [List.length_set]; exact Nat.le_refl _, by rw [p_sl_set hc (by simp)]; exact Nat.le_refl _, fun _ _ => rfl, g_F0, trivial, fun m hm => (by cases hm)⟩
theorem hr_shift (hat : p_at pc M.2.2.2.2.1 = some (.iaload, 1)) (hat2 : p_at (pc + 1) M.2.2.2.2.1 = some (.iastore, 1)) : x_HoldR p_GT p_MT x_EE M pc 2 cr_shift := by
  intro τ r h as rest ls d Q hH hA hF hM hK
  obtain ⟨a, V, rfl, ha, hA⟩ := x_t3 (show x_vs τ r 1 [(3, 65, ([], ((65 : Nat) : Int))), (1, 0, ([(0, 1)], 0)), (3, 65, ([], ((65 : Nat) : Int))), (1, 0, ([(0, 1)], 71))] as from hA)
  obtain ⟨x, V1, rfl, -, hx, hA⟩ := x_t1 hA
  obtain ⟨b, V2, rfl, hb, hA⟩ := x_t3 hA
  obtain ⟨x2, V3, rfl, -, hx2, hA⟩ := x_t1 hA
  rw [g_nil hA]
  obtain ⟨rfl, ht⟩ := g_ref ha
  obtain ⟨rfl, ht2⟩ := g_ref hb
  rw [g_v] at hx
  have hx2 : x2.toInt = r 0 + 71 := by rw [hx2]; simp only [q_e, q_ev]; omega
  obtain ⟨vs, hc, l1, l2, hf, -⟩ := g_cell hH ht (show x_KL[65]? = some _ from rfl)
  obtain ⟨ws, hc2, k1, k2, hf2, -⟩ := g_cell hH ht2 (show x_KL[65]? = some _ from rfl)
  have h0 : 387 ≤ r 0 ∧ r 0 ≤ 2445 := hF.1 (0, 387, 2445) List.mem_cons_self
  have hl : x.toNatClampNeg < vs.length := by
    have : 2517 ≤ vs.length := l1
    rw [x_clamp]; omega
  have hl2 : x2.toNatClampNeg < ws.length := by
    have : 2517 ≤ ws.length := k1
    rw [x_clamp]; omega
  obtain ⟨y, hy⟩ := g_int rfl rfl hf2 hl2
  have ex : x.toNatClampNeg = (r 0).toNat := by rw [x_clamp, hx]
  have ex2 : x2.toNatClampNeg = (r 0).toNat + 71 := by rw [x_clamp, hx2]; omega
  have hfo : ∀ K K', x_KL[65]? = some K → x_KL[65]? = some K' → x_fo τ (x_pt K' ((r 0).toNat + 71)) (.int y) → x_fo τ (x_pt K (r 0).toNat) (.int y) := by
    intro K K' e1 e2 hq
    have hall : (match x_KL[65]?, x_KL[65]? with
      | some K, some K' => (List.range 2059).all (fun i => decide (x_pt K (387 + i) = x_pt K' (387 + i + 71)))
      | _, _ => false) = true := by decide +kernel
    have eK : K' = K := Option.some.inj (e2.symm.trans e1)
    subst eK
    rw [e1] at hall
    have := of_decide_eq_true (List.all_eq_true.mp hall ((r 0).toNat - 387) (List.mem_range.mpr (by omega)))
    rw [show 387 + ((r 0).toNat - 387) = (r 0).toNat by omega] at this
    rw [this]; exact hq
  have hJ := (g_J0 hH [(65, 387, 2445)]).put x_EE_EO (lo := 387) (hi := 2445) (j := (r 0).toNat) (v := .int y) ht hc (show x_KL[65]? = some _ from rfl) (hfo _ _ rfl rfl (hf2 _ _ (by rw [← ex2]; exact hy))) rfl rfl (by omega) (by omega)
  refine g_load hat hc2 (g_nn hx2 (by omega)) hy (g_store hat2 hc (g_nn hx (by omega)) hl ?_)
  rw [ex]
  exact hK none _ ⟨τ, r, hJ, _, List.mem_cons_self, by rw [List.length_set]; exact Nat.le_refl _, by rw [p_sl_set hc (by simp)]; exact Nat.le_refl _, fun _ _ => rfl, g_F0, trivial, fun m hm => (by cases hm)⟩
end GCP

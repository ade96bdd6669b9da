/-! Pieces of bodies by hand: loads and stores of ints, the heap's cells, what ghosts read -/
section GRU
variable {G : p_G} {MT : List p_M} {M : p_M} {pc d : Nat} {ls : p_Ls} {rest : List Value} {h : p_H} {Q : Option Value → p_H → Prop} {τ : Nat → Option Nat} {r : Nat → Int}
theorem g_load {a : Nat} {x : Int32} {vs : List Value} {v : Value} (hat : p_at pc M.2.2.2.2.1 = some (.iaload, 1)) (hc : h[a]? = some (1, 0, vs)) (hx : ¬ x < 0) (hv : vs[x.toNatClampNeg]? = some v) (hk : p_wp G MT d M (pc + 1) ls (v :: rest) h Q) : p_wp G MT d M pc ls (.int x :: .ref a :: rest) h Q := by
  refine p_wp.step hat ?_ hk
  simp only [p_step, p_al, hc, p_ix, if_neg hx, hv]
  rfl
theorem g_store {a : Nat} {x y : Int32} {vs : List Value} (hat : p_at pc M.2.2.2.2.1 = some (.iastore, 1)) (hc : h[a]? = some (1, 0, vs)) (hx : ¬ x < 0) (hl : x.toNatClampNeg < vs.length) (hk : p_wp G MT d M (pc + 1) ls rest (h.set a (1, 0, vs.set x.toNatClampNeg (.int y))) Q) : p_wp G MT d M pc ls (.int y :: .int x :: .ref a :: rest) h Q := by
  refine p_wp.step hat ?_ hk
  simp only [p_step, p_as, hc, p_ix, if_neg hx, List.getElem?_eq_getElem hl]
  rfl
theorem g_cell (hH : x_H x_EE τ h) {a k : Nat} {K : x_K} (ht : τ a = some k) (hK : x_KL[k]? = some K) : ∃ vs, h[a]? = some (K.1, K.2.1, vs) ∧ K.2.2.2.2.2.2.1 ≤ vs.length ∧ vs.length ≤ K.2.2.2.2.2.2.2 ∧ (∀ j v, vs[j]? = some v → x_fo τ (x_pt K j) v) ∧ g_ct a k vs := by
  obtain ⟨c, hc, K', hK', g1, g2, g3, g4, g5, g6⟩ := hH a k ht
  have eK : K' = K := Option.some.inj (hK'.symm.trans hK)
  subst eK
  obtain ⟨c1, c2, c3⟩ := c
  have e1 : c1 = K'.1 := g1
  have e2 : c2 = K'.2.1 := g2
  subst e1; subst e2
  exact ⟨c3, hc, g3, g4, g5, g6⟩
theorem g_J0 (hH : x_H x_EE τ h) (f : x_F) : x_J x_EE f τ h τ h := ⟨fun _ _ q => q, fun _ _ q => Or.inl q, hH, x_ef_refl⟩
theorem g_ms_at {g a j : Nat} (hl : g_lk g a j = true) : g_ms g h a j = g_at (g_vs h a) j := by
  simp only [g_ms, hl, if_true]
theorem g_vs_at {a : Nat} {c : p_C} (hc : h[a]? = some c) : g_vs h a = c.2.2 := by simp only [g_vs, hc]
theorem g_at_int {vs : List Value} {j : Nat} {x : Int32} (hv : vs[j]? = some (.int x)) : g_at vs j = x.toInt := by simp only [g_at, hv]
/-- a place of an array whose places are all ints -/
theorem g_int {K : x_K} {vs : List Value} {j : Nat} (hK : x_ints K = true) (h0 : Nat.beq K.1 0 = false) (hf : ∀ j v, vs[j]? = some v → x_fo τ (x_pt K j) v) (hj : j < vs.length) : ∃ x : Int32, vs[j]? = some (.int x) := by
  obtain ⟨x, hx, -⟩ := x_ints_ok h0 hK (hf j _ (List.getElem?_eq_getElem hj))
  exact ⟨x, by rw [List.getElem?_eq_getElem hj, hx]⟩
theorem g_nn {x : Int32} {z : Int} (hx : x.toInt = z) (h0 : 0 ≤ z) : ¬ x < 0 := by
  rw [Int32.lt_iff_toInt_lt]; simp only [Int32.toInt_zero]; omega
/-- a ghost that is known -/
theorem g_gho {m : q_E × Nat × Nat × x_V} {n : Nat} (hm : x_m x_EE τ r n h m) (g : Nat) (hg : m.2.2.1 = x_gho + g) : 80 ≤ h.length ∧ g_gh g (g_ms g h) (q_e r m.1) = q_e r m.2.2.2.2.2 := by
  have := hm.2
  rw [if_pos (by rw [hg]; omega)] at this
  refine ⟨this.2.2.1, ?_⟩
  have e := this.2.2.2
  rw [hg, Nat.add_sub_cancel_left] at e
  exact e
end GRU

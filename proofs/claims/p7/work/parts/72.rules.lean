/-! Rules: reads of places that are known -/
section GKN
variable {M : p_M} {pc : Nat}
theorem g_lk_of {g a lo hi j : Nat} {K : x_K} (hK : x_KL[a]? = some K) (hm : (g, lo, hi) ∈ K.2.2.2.2.2.1) (h1 : lo ≤ j) (h2 : j ≤ hi) : g_lk g a j = true := by
  simp only [g_lk, hK]
  refine List.any_eq_true.mpr ⟨(g, lo, hi), hm, ?_⟩
  simp only [Nat.beq_refl, Bool.true_and, Bool.and_eq_true]
  exact ⟨Nat.ble_eq_true_of_le h1, Nat.ble_eq_true_of_le h2⟩
theorem g_ref {τ : Nat → Option Nat} {r : Nat → Int} {n k a : Nat} (ha : x_v τ r n (3, k, ([], (k : Int))) (.ref a)) : a = k ∧ τ k = some k := by
  obtain ⟨-, i, e, hi, ht⟩ := ha
  cases e
  have : (a : Int) = q_e r ([], (k : Int)) := hi
  simp only [q_e, q_ev] at this
  have : a = k := by omega
  subst this
  exact ⟨rfl, ht⟩
theorem g_nil {τ : Nat → Option Nat} {r : Nat → Int} {n : Nat} {V : List Value} (h : x_vs τ r n [] V) : V = [] := by
  cases V with
  | nil => rfl
  | cons v V => exact h.elim
theorem g_v (r : Nat → Int) (x : Nat) : q_e r ([(x, 1)], 0) = r x := q_v_e r x
theorem g_F0 {r : Nat → Int} : q_FO r ([], [], []) := ⟨fun t ht => (by cases ht), fun e he => (by cases he), fun e he => (by cases he)⟩
theorem hr_known1 (hat : p_at pc M.2.2.2.2.1 = some (.iaload, 1)) : x_HoldR p_GT p_MT x_EE M pc 1 cr_known1 := by
  intro τ r h as rest ls d Q hH hA hF hM hK
  obtain ⟨a, V, rfl, ha, hA⟩ := x_t3 (show x_vs τ r 2 [(3, 69, ([], ((69 : Nat) : Int))), (1, 0, ([(0, 1)], 0))] as from hA)
  obtain ⟨x, V', rfl, -, hx, hA⟩ := x_t1 hA
  rw [g_nil hA]
  obtain ⟨rfl, ht⟩ := g_ref ha
  rw [g_v] at hx
  obtain ⟨vs, hc, l1, l2, hf, -⟩ := g_cell hH ht (show x_KL[69]? = some _ from rfl)
  have h0 : 0 ≤ r 0 ∧ r 0 ≤ 159 := hF.1 (0, 0, 159) List.mem_cons_self
  have hl : x.toNatClampNeg < vs.length := by
    have : 160 ≤ vs.length := l1
    rw [x_clamp]; omega
  obtain ⟨y, hy⟩ := g_int rfl rfl hf hl
  obtain ⟨-, hg⟩ := g_gho (hM _ List.mem_cons_self) 1 rfl
  have hg : g_ms 1 h 69 (r 0).toNat = r 1 := by
    have e := hg
    rw [show q_e r _ = r 0 from g_v r 0, show q_e r _ = r 1 from g_v r 1] at e
    exact e
  rw [g_ms_at (g_lk_of (show x_KL[69]? = some _ from rfl) (lo := 0) (hi := 159) (by decide) (Nat.zero_le _) (by omega)), g_vs_at hc] at hg
  have hy2 : y.toInt = r 1 := by
    have : vs[(r 0).toNat]? = some (.int y) := by rw [← hx]; exact hy
    rw [← hg]; exact (g_at_int this).symm
  refine g_load hat hc (g_nn hx h0.1) hy (hK (some (.int y)) h ⟨τ, r, g_J0 hH _, _, List.mem_cons_self, Nat.le_refl _, Nat.le_refl _, fun _ _ => rfl, g_F0, ⟨?_, y, rfl, ?_⟩, fun m hm => (by cases hm)⟩)
  · exact q_v_wl (by decide)
  · show y.toInt = q_e r ([(1, 1)], 0)
    rw [g_v]; exact hy2
end GKN

/-! Rules: a block is taken; a step's blocks -/
section GTS
variable {M : p_M} {pc : Nat}
theorem g_storeB {G : p_G} {MT : List p_M} {d : Nat} {ls : p_Ls} {rest : List Value} {h : p_H} {Q : Option Value → p_H → Prop} {a : Nat} {x y : Int32} {vs : List Value} (hat : p_at pc M.2.2.2.2.1 = some (.bastore, 1)) (hc : h[a]? = some (1, 3, vs)) (hx : ¬ x < 0) (hl : x.toNatClampNeg < vs.length) (hk : p_wp G MT d M (pc + 1) ls rest (h.set a (1, 3, vs.set x.toNatClampNeg (.int (y &&& 1)))) Q) : p_wp G MT d M pc ls (.int y :: .int x :: .ref a :: rest) h Q := by
  refine p_wp.step hat ?_ hk
  simp only [p_step, p_as, hc, p_ix, if_neg hx, List.getElem?_eq_getElem hl]
  rfl
theorem hr_stepSet (hat : p_at pc M.2.2.2.2.1 = some (.iastore, 1)) : x_HoldR p_GT p_MT x_EE M pc 1 cr_stepSet := by
  intro τ r h as rest ls d Q hH hA hF hM hK
  obtain ⟨a, V, rfl, ha, hA⟩ := x_t3 (show x_vs τ r 3 [(3, 65, ([], ((65 : Nat) : Int))), (1, 0, ([(1, 1)], 0)), (1, 0, ([(2, 1)], 0))] as from hA)
  obtain ⟨x, V1, rfl, -, hx, hA⟩ := x_t1 hA
  obtain ⟨y, V2, rfl, -, hy, hA⟩ := x_t1 hA
  rw [g_nil hA]
  obtain ⟨rfl, ht⟩ := g_ref ha
  rw [g_v] at hx
  obtain ⟨vs, hc, l1, l2, hf, -⟩ := g_cell hH ht (show x_KL[65]? = some _ from rfl)
  have h0 : 0 ≤ r 0 ∧ r 0 ≤ 29 := hF.1 (0, 0, 29) List.mem_cons_self
  have h1 : 394 ≤ r 1 ∧ r 1 ≤ 2516 := hF.1 (1, 394, 2516) (List.mem_cons_of_mem _ List.mem_cons_self)
  have f1 : 0 ≤ q_e r ([(0, -71), (1, 1)], -394) := hF.2.1 _ List.mem_cons_self
  have f2 : 0 ≤ q_e r ([(0, 71), (1, -1)], 457) := hF.2.1 _ (List.mem_cons_of_mem _ List.mem_cons_self)
  simp only [q_e, q_ev] at f1 f2
  have hl : x.toNatClampNeg < vs.length := by
    have : 2517 ≤ vs.length := l1
    rw [x_clamp]; omega
  have ex : x.toNatClampNeg = (r 1).toNat := by rw [x_clamp, hx]
  have hfo : ∀ K, x_KL[65]? = some K → x_fo τ (x_pt K (r 1).toNat) (.int y) := by
    intro K e1
    have hall : (match x_KL[65]? with
      | some K => (List.range 30).all (fun s => (List.range 64).all (fun b => decide (x_pt K (71 * s + 394 + b) = x_any)))
      | _ => false) = true := by decide +kernel
    rw [e1] at hall
    have h3 := List.all_eq_true.mp hall (r 0).toNat (List.mem_range.mpr (by omega))
    have h4 := of_decide_eq_true (List.all_eq_true.mp h3 ((r 1).toNat - (71 * (r 0).toNat + 394)) (List.mem_range.mpr (by omega)))
    rw [show 71 * (r 0).toNat + 394 + ((r 1).toNat - (71 * (r 0).toNat + 394)) = (r 1).toNat by omega] at h4
    rw [h4]
    exact ⟨y, rfl, x_I32 y⟩
  have hJ := (g_J0 hH [(65, 394, 2516)]).put x_EE_EO (lo := 394) (hi := 2516) (j := (r 1).toNat) (v := .int y) ht hc (show x_KL[65]? = some _ from rfl) (hfo _ rfl) rfl rfl (by omega) (by omega)
  refine g_store hat hc (g_nn hx (by omega)) hl ?_
  rw [ex]
  exact hK none _ ⟨τ, r, hJ, _, List.mem_cons_self, by rw [List.length_set]; exact Nat.le_refl _, by rw [p_sl_set hc (by simp)]; exact Nat.le_refl _, fun _ _ => rfl, g_F0, trivial, fun m hm => (by cases hm)⟩
end GTS

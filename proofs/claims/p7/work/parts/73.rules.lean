/-! Rules: more reads of known places; the empty pile; the free ones -/
section GK2
variable {M : p_M} {pc : Nat}
theorem hr_known6 (hat : p_at pc M.2.2.2.2.1 = some (.iaload, 1)) : x_HoldR p_GT p_MT x_EE M pc 1 cr_known6 := by
  intro τ r h as rest ls d Q hH hA hF hM hK
  obtain ⟨a, V, rfl, ha, hA⟩ := x_t3 (show x_vs τ r 2 [(3, 70, ([], ((70 : Nat) : Int))), (1, 0, ([(0, 1)], 0))] as from hA)
  obtain ⟨x, V', rfl, -, hx, hA⟩ := x_t1 hA
  rw [g_nil hA]
  obtain ⟨rfl, ht⟩ := g_ref ha
  rw [g_v] at hx
  obtain ⟨vs, hc, l1, l2, hf, -⟩ := g_cell hH ht (show x_KL[70]? = some _ from rfl)
  have h0 : 0 ≤ r 0 ∧ r 0 ≤ 8 := hF.1 (0, 0, 8) List.mem_cons_self
  have hl : x.toNatClampNeg < vs.length := by
    have : 9 ≤ vs.length := l1
    rw [x_clamp]; omega
  obtain ⟨y, hy⟩ := g_int rfl rfl hf hl
  obtain ⟨-, hg⟩ := g_gho (hM _ List.mem_cons_self) 6 rfl
  have hg : g_ms 6 h 70 (r 0).toNat = r 1 := by
    have e := hg
    rw [show q_e r _ = r 0 from g_v r 0, show q_e r _ = r 1 from g_v r 1] at e
    exact e
  rw [g_ms_at (g_lk_of (show x_KL[70]? = some _ from rfl) (lo := 0) (hi := 8) (by decide) (Nat.zero_le _) (by omega)), g_vs_at hc] at hg
  have hy2 : y.toInt = r 1 := by
    have : vs[(r 0).toNat]? = some (.int y) := by rw [← hx]; exact hy
    rw [← hg]; exact (g_at_int this).symm
  refine g_load hat hc (g_nn hx h0.1) hy (hK (some (.int y)) h ⟨τ, r, g_J0 hH _, _, List.mem_cons_self, Nat.le_refl _, Nat.le_refl _, fun _ _ => rfl, g_F0, ⟨?_, y, rfl, ?_⟩, fun m hm => (by cases hm)⟩)
  · exact q_v_wl (by decide)
  · show y.toInt = q_e r ([(1, 1)], 0)
    rw [g_v]; exact hy2
theorem hr_known7 (hat : p_at pc M.2.2.2.2.1 = some (.iaload, 1)) : x_HoldR p_GT p_MT x_EE M pc 1 cr_known7 := by
  intro τ r h as rest ls d Q hH hA hF hM hK
  obtain ⟨a, V, rfl, ha, hA⟩ := x_t3 (show x_vs τ r 2 [(3, 67, ([], ((67 : Nat) : Int))), (1, 0, ([(0, 1)], 0))] as from hA)
  obtain ⟨x, V', rfl, -, hx, hA⟩ := x_t1 hA
  rw [g_nil hA]
  obtain ⟨rfl, ht⟩ := g_ref ha
  rw [g_v] at hx
  obtain ⟨vs, hc, l1, l2, hf, -⟩ := g_cell hH ht (show x_KL[67]? = some _ from rfl)
  have h0 : 0 ≤ r 0 ∧ r 0 ≤ 2331 := hF.1 (0, 0, 2331) List.mem_cons_self
  have hl : x.toNatClampNeg < vs.length := by
    have : 3108 ≤ vs.length := l1
    rw [x_clamp]; omega
  obtain ⟨y, hy⟩ := g_int rfl rfl hf hl
  obtain ⟨-, hg⟩ := g_gho (hM _ List.mem_cons_self) 7 rfl
  have hg : g_ms 7 h 67 (r 0).toNat = r 1 := by
    have e : (if q_e r ([(0, 1)], 0) ≤ 3107 then g_ms 7 h 67 (q_e r ([(0, 1)], 0)).toNat else if q_e r ([(0, 1)], 0) < 8388608 then g_W (g_ms 7 h 67) ((q_e r ([(0, 1)], 0)).toNat - 10000) else ((777 * (((q_e r ([(0, 1)], 0)).toNat - 8388608) / 777) : Nat) : Int)) = q_e r ([(1, 1)], 0) := hg
    rw [g_v, g_v, if_pos (by omega)] at e
    exact e
  rw [g_ms_at (g_lk_of (show x_KL[67]? = some _ from rfl) (lo := 0) (hi := 3107) (by decide) (Nat.zero_le _) (by omega)), g_vs_at hc] at hg
  have hy2 : y.toInt = r 1 := by
    have : vs[(r 0).toNat]? = some (.int y) := by rw [← hx]; exact hy
    rw [← hg]; exact (g_at_int this).symm
  refine g_load hat hc (g_nn hx h0.1) hy (hK (some (.int y)) h ⟨τ, r, g_J0 hH _, _, List.mem_cons_self, Nat.le_refl _, Nat.le_refl _, fun _ _ => rfl, g_F0, ⟨?_, y, rfl, ?_⟩, fun m hm => (by cases hm)⟩)
  · exact q_v_wl (by decide)
  · show y.toInt = q_e r ([(1, 1)], 0)
    rw [g_v]; exact hy2
theorem g_mk {τ : Nat → Option Nat} {r : Nat → Int} {n : Nat} {h : p_H} {m : q_E × Nat × Nat × x_V} (g : Nat) (hg : m.2.2.1 = x_gho + g) (w1 : q_wl n m.1.1) (w2 : q_wl n m.2.2.2.2.2.1) (h1 : m.2.2.2.1 = 1) (h80 : 80 ≤ h.length) (e : g_gh g (g_ms g h) (q_e r m.1) = q_e r m.2.2.2.2.2) : x_m x_EE τ r n h m := by
  refine ⟨w1, ?_⟩
  rw [if_pos (by rw [hg]; omega)]
  refine ⟨w2, h1, h80, ?_⟩
  rw [hg, Nat.add_sub_cancel_left]
  exact e
theorem g_80 {τ : Nat → Option Nat} {r : Nat → Int} {n : Nat} {h : p_H} {v : x_V} (hm : x_m x_EE τ r n h (([], 79), 79, 1000000, v)) : 80 ≤ h.length := by
  obtain ⟨i, c, e1, -, e3, -⟩ := hm.plc (by show (1000000 : Nat) < x_gho; decide)
  have e1 : (i : Int) = q_e r ([], 79) := e1
  simp only [q_e, q_ev] at e1
  have : i = 79 := by omega
  subst this
  have := (List.getElem?_eq_some_iff.mp e3).1
  omega
theorem hr_noPile (hat : p_at pc M.2.2.2.2.1 = some (.iconst 0, 1)) : x_HoldR p_GT p_MT x_EE M pc 1 cr_noPile := by
  intro τ r h as rest ls d Q hH hA hF hM hK
  rw [g_nil (show x_vs τ r 0 [] as from hA)]
  have h80 := g_80 (hM _ List.mem_cons_self)
  refine p_wp.step hat rfl (hK (some (.int 0)) h ⟨τ, r, g_J0 hH _, _, List.mem_cons_self, Nat.le_refl _, Nat.le_refl _, fun _ _ => rfl, g_F0, ⟨q_wl_nil, 0, rfl, ?_⟩, fun m hm => ?_⟩)
  · show (0 : Int32).toInt = q_e r ([], 0)
    simp [q_e, q_ev]
  · have hm : m ∈ [((([], 0), 64, 1000003, 1, 0, ([], 0)) : q_E × Nat × Nat × x_V), (([], 0), 64, 1000004, 1, 0, ([], 0)), (([], 0), 64, 1000005, 1, 0, ([], 0)), (([], 0), 64, 1000006, 1, 0, ([], -1))] := hm
    simp only [List.mem_cons, List.not_mem_nil, or_false] at hm
    rcases hm with rfl | rfl | rfl | rfl
    · exact g_mk 2 rfl q_wl_nil q_wl_nil rfl h80 (by simp [g_gh, q_e, q_ev, g_o])
    · exact g_mk 3 rfl q_wl_nil q_wl_nil rfl h80 (by simp [g_gh, q_e, q_ev, g_o])
    · exact g_mk 4 rfl q_wl_nil q_wl_nil rfl h80 (by simp [g_gh, q_e, q_ev, g_d])
    · exact g_mk 5 rfl q_wl_nil q_wl_nil rfl h80 (by simp [g_gh, q_e, q_ev, g_o])
theorem g_free_bd (R : Nat → Nat → Int) : ∀ k, 0 ≤ g_free R k ∧ g_free R k ≤ k := by
  intro k
  induction k with
  | zero => simp [g_free]
  | succ k ih =>
    simp only [g_free]
    split <;> omega
theorem hr_takenCount (hat : p_at pc M.2.2.2.2.1 = some (.iconst (-1), 1)) : x_HoldR p_GT p_MT x_EE M pc 1 cr_takenCount := by
  intro τ r h as rest ls d Q hH hA hF hM hK
  rw [g_nil (show x_vs τ r 0 [] as from hA)]
  have h80 := g_80 (hM _ List.mem_cons_self)
  have hb := g_free_bd (g_ms 11 h) 64
  refine p_wp.step hat rfl (hK (some (.int (-1))) h ⟨τ, x_up r 0 (g_free (g_ms 11 h) 64), g_J0 hH _, _, List.mem_cons_self, Nat.le_refl _, Nat.le_refl _, fun i hi => absurd hi (Nat.not_lt_zero i), ⟨fun t ht => ?_, fun e he => (by cases he), fun e he => (by cases he)⟩, ⟨q_wl_nil, -1, rfl, ?_⟩, fun m hm => ?_⟩)
  · have ht : t ∈ [((0, 0, 64) : Nat × Int × Int)] := ht
    rw [List.mem_singleton.mp ht]
    show (0 : Int) ≤ x_up r 0 _ 0 ∧ x_up r 0 _ 0 ≤ 64
    rw [x_up_at]
    exact ⟨hb.1, hb.2⟩
  · show (-1 : Int32).toInt = q_e _ ([], -1)
    simp [q_e, q_ev]
  · have hm : m ∈ [((([], 0), 64, 1000012, 1, 0, ([(0, 1)], 0)) : q_E × Nat × Nat × x_V)] := hm
    rw [List.mem_singleton.mp hm]
    refine g_mk 11 rfl q_wl_nil (q_v_wl (by decide)) rfl h80 ?_
    show g_free (g_ms 11 h) 64 = q_e (x_up r 0 (g_free (g_ms 11 h) 64)) ([(0, 1)], 0)
    rw [g_v, x_up_at]
end GK2

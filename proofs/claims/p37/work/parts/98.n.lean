/-! Contracts by hand: winner, highestBut, paid, lies -/
section AL4
variable {τ : Nat → Option Nat} {r : Nat → Int} {n : Nat} {h : p_H}
theorem a_bs100 (R : Nat → Nat → Int) (k : Nat) : g_bs R ((100 + k : Nat) : Int) = ((if g_bv R k - b_max (g_bv R) k (g_bc R) < 0 then 0 else g_bv R k - b_max (g_bv R) k (g_bc R)) - b_get (g_bv R) k (g_bc R) (g_bv R k)).toInt := by
  unfold g_bs
  rw [if_neg (by omega), if_neg (by omega), if_pos (by omega), show ((100 + k : Nat) : Int).toNat - 100 = k by omega]
theorem a_rng (hH : x_H x_EE τ h) (t65 : τ 65 = some 65) (h15 : x_m x_EE τ r n h (([], 0), 64, 1000016, (1, 0, ([], 1)))) : ∀ i, i < 8 → 0 ≤ (g_bv (g_ms 20 h) i).toInt ∧ (g_bv (g_ms 20 h) i).toInt ≤ 999 := by
  obtain ⟨ws, h65, hl, h6, hv, h8⟩ := a_bR hH t65
  obtain ⟨ca, ha⟩ := a_cell (a := 15) (by decide) (g_gho h15 15 rfl).1
  intro i hi
  have := (g_bq_iff.mp (a_un15 h15 ha h65 i hi)).2
  rw [show g_at ws (331 + i) = _ from g_at_int (hv i hi)] at this
  exact this
end AL4
theorem ho_chL4 : x_OK p_GT p_MT x_EE chL4 := by
  refine ⟨?_, m_X11_lies, rfl⟩
  intro τ r h as M hM hH hA hF hK
  cases (show some m_X11_lies = some M from hM)
  obtain ⟨a, V, rfl, ha, hA⟩ := x_t3 (show x_vs τ r 2 [(3, 2, ([], ((2 : Nat) : Int))), (1, 0, ([(0, 1)], 0))] as from hA)
  obtain ⟨x, V, rfl, -, hx, hA⟩ := x_t1 hA
  rw [g_nil hA]
  obtain ⟨rfl, t2⟩ := g_ref ha
  rw [g_v] at hx
  have h80 := (g_gho (g_get hK 0 rfl) 15 rfl).1
  obtain ⟨c14, h14⟩ := a_cell (a := 14) (by decide) h80
  obtain ⟨c65, h65⟩ := a_cell (a := 65) (by decide) h80
  obtain ⟨t14, xx, b2, exx⟩ := a_plc (a := 14) (e' := ([(1, 1)], 0)) (g_get hK 1 rfl) (by decide) h14
  obtain ⟨t65, x', b6, ex'⟩ := a_plc (a := 65) (e' := ([(1, 1)], 0)) (g_get hK 2 rfl) (by decide) h65
  rw [g_v] at exx ex'
  obtain ⟨f14, hf14, -⟩ := g_cell hH t14 (show x_KL[14]? = some _ from rfl)
  have e14 : c14 = (0, 8, f14) := Option.some.inj (h14.symm.trans hf14)
  subst e14
  obtain ⟨ws, hw, hl, h6, hv, h8⟩ := a_bR hH t65
  have e65 : c65 = (1, 0, ws) := Option.some.inj (h65.symm.trans hw)
  subst e65
  have exc : x' = Int32.ofNat (g_bc (g_ms 20 h)) := by
    have := b6.symm.trans h6
    simp only [Option.some.injEq, Value.int.injEq] at this
    exact this
  have ec : r 1 = g_bc (g_ms 20 h) := by rw [← ex', exc, g_ofNat (by omega)]
  obtain ⟨f2, f3, rows, hC⟩ := a_bCC hH t2 t65 (g_get hK 0 rfl) hf14 b2 (by rw [exx, ec])
  have ez : (Int32.ofNat (g_bc (g_ms 20 h)) - Int32.ofNat 1).toInt = (g_bc (g_ms 20 h) : Int) - 1 := by
    by_cases e : g_bc (g_ms 20 h) = 0
    · rw [e]; decide
    · rw [g_sub (by omega), g_ofNat (by omega)]; omega
  by_cases q : (0 : Int32) ≤ x ∧ x ≤ Int32.ofNat (g_bc (g_ms 20 h)) - Int32.ofNat 1
  · have q1 : 0 ≤ r 0 ∧ r 0 ≤ (g_bc (g_ms 20 h) : Int) - 1 := by
      rw [Int32.le_iff_toInt_le, Int32.le_iff_toInt_le, ez, hx] at q
      simpa using q
    obtain ⟨k, hk⟩ : ∃ k : Nat, r 0 = k := ⟨(r 0).toNat, by omega⟩
    have exk : x = Int32.ofNat k := g_i32 (by rw [hx, hk]) (by omega)
    subst exk
    refine ⟨Nat.le_of_ble_eq_true rfl, (b_clies_in (d := 0) (k := k) hC (by omega)).mono (by decide) ?_⟩
    rintro v h2 ⟨rfl, rfl⟩
    have mv : ∀ z m, x_m x_EE τ r 2 h2 m → x_m x_EE τ (x_up r 2 z) 3 h2 m := fun z m hm => hm.moved (fun i hi => x_up_lt i hi) (by decide) (fun _ _ q => q)
    exact ⟨τ, x_up r 2 (g_bs (g_ms 20 h2) ((100 + k : Nat) : Int)), g_J0 hH _, _, List.mem_cons_self, Nat.le_refl _, Nat.le_refl _, fun i hi => x_up_lt i hi, ⟨g_io (by rw [x_up_at, a_bs100]; exact x_I32 _) g_io0, g_c (by simp only [q_e, q_ev]; rw [x_up_lt 0 (by decide)]; omega) (g_c (by simp only [q_e, q_ev]; rw [x_up_lt 0 (by decide), x_up_lt 1 (by decide)]; omega) g_n), g_n⟩, ⟨g_wl rfl, _, rfl, by rw [g_v, x_up_at, a_bs100]⟩, g_c (mv _ _ (g_get hK 0 rfl)) (g_c (mv _ _ (g_get hK 1 rfl)) (g_c (mv _ _ (g_get hK 2 rfl)) (g_c (a_mk20 (g_wl rfl) (g_wl rfl) h80 (by rw [show q_e (x_up r 2 (g_bs (g_ms 20 h2) ((100 + k : Nat) : Int))) ([(0, 1)], 100) = ((100 + k : Nat) : Int) by simp only [q_e, q_ev]; rw [x_up_lt 0 (by decide)]; omega, g_v, x_up_at])) g_n)))⟩
  · have q2 : r 0 < 0 ∨ (g_bc (g_ms 20 h) : Int) ≤ r 0 := by
      rw [Int32.le_iff_toInt_le, Int32.le_iff_toInt_le, ez, hx] at q
      simp only [Int32.toInt_zero] at q
      omega
    obtain ⟨e2, e20, e3, e312, e14, e141, e142, e15, el, ev, ec8⟩ := hC
    refine ⟨Nat.le_of_ble_eq_true rfl, ?_⟩
    refine w_iload_n rfl rfl (w_iconst rfl (w_aload_n rfl rfl (w_getf rfl rfl e2 e20 (w_getf rfl rfl e3 e312 (w_getf rfl rfl e14 e142 (w_ic 1 rfl rfl (w_isub rfl (w_static (nn := 0) (dc := 1) (M' := m_X11_within) rfl rfl rfl rfl (Nat.le_refl _) b_within ?_))))))))
    rintro v h2 ⟨rfl, rfl⟩
    refine w_ifc_f rfl (t := 23) rfl (by rw [if_neg (by exact q)]; rfl) (w_bipush rfl (w_ireturn rfl rfl ?_))
    rcases q2 with q2 | q2
    · exact ⟨τ, r, g_J0 hH _, _, List.mem_cons_of_mem _ List.mem_cons_self, Nat.le_refl _, Nat.le_refl _, fun _ _ => rfl, ⟨g_io0, g_c (by simp only [q_e, q_ev]; omega) g_n, g_n⟩, ⟨g_wl rfl, _, rfl, by rw [show q_e r ([], -2) = -2 by simp [q_e, q_ev]]; decide⟩, g_c (g_get hK 0 rfl) (g_c (g_get hK 1 rfl) (g_c (g_get hK 2 rfl) g_n))⟩
    · exact ⟨τ, r, g_J0 hH _, _, List.mem_cons_of_mem _ (List.mem_cons_of_mem _ List.mem_cons_self), Nat.le_refl _, Nat.le_refl _, fun _ _ => rfl, ⟨g_io0, g_c (by simp only [q_e, q_ev]; omega) g_n, g_n⟩, ⟨g_wl rfl, _, rfl, by rw [show q_e r ([], -2) = -2 by simp [q_e, q_ev]]; decide⟩, g_c (g_get hK 0 rfl) (g_c (g_get hK 1 rfl) (g_c (g_get hK 2 rfl) g_n))⟩
theorem ho_chL5 : x_OK p_GT p_MT x_EE chL5 := by
  refine ⟨?_, m_X12_lies, rfl⟩
  intro τ r h as M hM hH hA hF hK
  cases (show some m_X12_lies = some M from hM)
  obtain ⟨a, V, rfl, ha, hA⟩ := x_t3 (show x_vs τ r 2 [(3, 64, ([], ((64 : Nat) : Int))), (1, 0, ([(0, 1)], 0))] as from hA)
  obtain ⟨x, V, rfl, -, hx, hA⟩ := x_t1 hA
  rw [g_nil hA]
  obtain ⟨rfl, t64⟩ := g_ref ha
  rw [g_v] at hx
  obtain ⟨vs, ws, hR, hl, t65⟩ := a_bRR hH t64
  obtain ⟨-, x', b6, ex'⟩ := a_plc (a := 65) (e' := ([(1, 1)], 0)) (g_get hK 1 rfl) (by decide) hR.2.2.1
  rw [g_v] at ex'
  have exx : x' = Int32.ofNat (g_bc (g_ms 20 h)) := by
    have := b6.symm.trans hR.2.2.2.1
    simp only [Option.some.injEq, Value.int.injEq] at this
    exact this
  have h8 := hR.2.2.2.2.2
  have ec : r 1 = g_bc (g_ms 20 h) := by rw [← ex', exx, g_ofNat (by omega)]
  have ez : (Int32.ofNat (g_bc (g_ms 20 h)) - Int32.ofNat 1).toInt = (g_bc (g_ms 20 h) : Int) - 1 := by
    by_cases e : g_bc (g_ms 20 h) = 0
    · rw [e]; decide
    · rw [g_sub (by omega), g_ofNat (by omega)]; omega
  by_cases q : (0 : Int32) ≤ x ∧ x ≤ Int32.ofNat (g_bc (g_ms 20 h)) - Int32.ofNat 1
  · have q1 : 0 ≤ r 0 ∧ r 0 ≤ (g_bc (g_ms 20 h) : Int) - 1 := by
      rw [Int32.le_iff_toInt_le, Int32.le_iff_toInt_le, ez, hx] at q
      simpa using q
    obtain ⟨k, hk⟩ : ∃ k : Nat, r 0 = k := ⟨(r 0).toNat, by omega⟩
    have exk : x = Int32.ofNat k := g_i32 (by rw [hx, hk]) (by omega)
    subst exk
    refine ⟨Nat.le_of_ble_eq_true rfl, (b_lies_in (d := 0) (k := k) hR (by omega) (by omega)).mono (by decide) ?_⟩
    rintro v h2 ⟨rfl, rfl⟩
    have mv : ∀ z m, x_m x_EE τ r 2 h2 m → x_m x_EE τ (x_up r 2 z) 3 h2 m := fun z m hm => hm.moved (fun i hi => x_up_lt i hi) (by decide) (fun _ _ q => q)
    exact ⟨τ, x_up r 2 (b_best (g_bv (g_ms 20 h2)) k (g_bc (g_ms 20 h2)) (g_bv (g_ms 20 h2) k) 1000 - b_get (g_bv (g_ms 20 h2)) k (g_bc (g_ms 20 h2)) (g_bv (g_ms 20 h2) k)).toInt, g_J0 hH _, _, List.mem_cons_self, Nat.le_refl _, Nat.le_refl _, fun i hi => x_up_lt i hi, ⟨g_io (by rw [x_up_at]; exact x_I32 _) g_io0, g_c (by simp only [q_e, q_ev]; rw [x_up_lt 0 (by decide)]; omega) (g_c (by simp only [q_e, q_ev]; rw [x_up_lt 0 (by decide), x_up_lt 1 (by decide)]; omega) g_n), g_n⟩, ⟨g_wl rfl, _, rfl, by rw [g_v, x_up_at]⟩, g_c (mv _ _ (g_get hK 0 rfl)) (g_c (mv _ _ (g_get hK 1 rfl)) g_n)⟩
  · obtain ⟨e64, e0, e65, e6, ev, e8⟩ := hR
    have q2 : r 0 < 0 ∨ (g_bc (g_ms 20 h) : Int) ≤ r 0 := by
      rw [Int32.le_iff_toInt_le, Int32.le_iff_toInt_le, ez, hx] at q
      simp only [Int32.toInt_zero] at q
      omega
    refine ⟨Nat.le_of_ble_eq_true rfl, ?_⟩
    refine w_iload_n rfl rfl (w_iconst rfl (w_aload_n rfl rfl (w_getf rfl rfl e64 e0 (w_bp 6 rfl rfl (w_ld rfl e65 (by decide) e6 (w_ic 1 rfl rfl (w_isub rfl (w_static (nn := 0) (dc := 1) (M' := m_X12_isIn) rfl rfl rfl rfl (Nat.le_refl _) b_isIn ?_))))))))
    rintro v h2 ⟨rfl, rfl⟩
    refine w_ifc_f rfl (t := 20) rfl (by rw [if_neg (by exact q)]; rfl) (w_bipush rfl (w_ireturn rfl rfl ?_))
    rcases q2 with q2 | q2
    · exact ⟨τ, r, g_J0 hH _, _, List.mem_cons_of_mem _ List.mem_cons_self, Nat.le_refl _, Nat.le_refl _, fun _ _ => rfl, ⟨g_io0, g_c (by simp only [q_e, q_ev]; omega) g_n, g_n⟩, ⟨g_wl rfl, _, rfl, by rw [show q_e r ([], -2) = -2 by simp [q_e, q_ev]]; decide⟩, g_c (g_get hK 0 rfl) (g_c (g_get hK 1 rfl) g_n)⟩
    · exact ⟨τ, r, g_J0 hH _, _, List.mem_cons_of_mem _ (List.mem_cons_of_mem _ List.mem_cons_self), Nat.le_refl _, Nat.le_refl _, fun _ _ => rfl, ⟨g_io0, g_c (by simp only [q_e, q_ev]; omega) g_n, g_n⟩, ⟨g_wl rfl, _, rfl, by rw [show q_e r ([], -2) = -2 by simp [q_e, q_ev]]; decide⟩, g_c (g_get hK 0 rfl) (g_c (g_get hK 1 rfl) g_n)⟩
theorem ho_chL6 : x_OK p_GT p_MT x_EE chL6 := by
  refine ⟨?_, m_X12_lies, rfl⟩
  intro τ r h as M hM hH hA hF hK
  cases (show some m_X12_lies = some M from hM)
  obtain ⟨a, V, rfl, ha, hA⟩ := x_t3 (show x_vs τ r 3 [(3, 64, ([], ((64 : Nat) : Int))), (1, 0, ([(0, 1)], 0))] as from hA)
  obtain ⟨x, V, rfl, -, hx, hA⟩ := x_t1 hA
  rw [g_nil hA]
  obtain ⟨rfl, t64⟩ := g_ref ha
  rw [g_v] at hx
  obtain ⟨vs, ws, hR, hl, t65⟩ := a_bRR hH t64
  obtain ⟨-, x', b6, ex'⟩ := a_plc (a := 65) (e' := ([(1, 1)], 0)) (g_get hK 1 rfl) (by decide) hR.2.2.1
  rw [g_v] at ex'
  have exx : x' = Int32.ofNat (g_bc (g_ms 20 h)) := by
    have := b6.symm.trans hR.2.2.2.1
    simp only [Option.some.injEq, Value.int.injEq] at this
    exact this
  have h8 := hR.2.2.2.2.2
  have ec : r 1 = g_bc (g_ms 20 h) := by rw [← ex', exx, g_ofNat (by omega)]
  have f1 : 0 ≤ q_e r ([(0, 1)], 0) := g_get hF.2.1 0 rfl
  have f2 : 0 ≤ q_e r ([(0, -1), (1, 1)], -1) := g_get hF.2.1 1 rfl
  simp only [q_e, q_ev] at f1 f2
  obtain ⟨k, hk⟩ : ∃ k : Nat, r 0 = k := ⟨(r 0).toNat, by omega⟩
  have exk : x = Int32.ofNat k := g_i32 (by rw [hx, hk]) (by omega)
  subst exk
  have hb := a_rng hH t65 (g_get hK 0 rfl)
  have g0 := a_un20 (e := ([(0, 1)], 100)) (e' := ([(2, 1)], 0)) (g_get hK 2 rfl)
  rw [show q_e r ([(0, 1)], 100) = ((100 + k : Nat) : Int) by simp only [q_e, q_ev]; omega, a_bs100, g_v] at g0
  refine ⟨Nat.le_of_ble_eq_true rfl, (b_lies_in (d := 0) (k := k) hR (by omega) (by omega)).mono (by decide) ?_⟩
  rintro v h2 ⟨rfl, rfl⟩
  exact ⟨τ, r, g_J0 hH _, _, List.mem_cons_self, Nat.le_refl _, Nat.le_refl _, fun _ _ => rfl, g_F0, ⟨g_wl rfl, _, rfl, by rw [g_v, ← g0, b_lies_eq hb h8 (by omega)]⟩, g_c (g_get hK 0 rfl) (g_c (g_get hK 1 rfl) (g_c (g_get hK 2 rfl) g_n))⟩

/-! Contracts by hand: layers -/
theorem a_bsk (R : Nat → Nat → Int) (kd bl : Nat) (hb : bl < 64) : g_bs R ((64 * kd + bl : Nat) : Int) = ((l_bits (fun n => l_may (g_gv R) (Int32.ofNat kd) (Int32.ofNat bl) n (g_bc R)) 10 : Nat) : Int) := by
  unfold g_bs
  rw [Int.toNat_natCast, show (64 * kd + bl) / 64 = kd by omega, show (64 * kd + bl) % 64 = bl by omega]
theorem ho_chL4 : x_OK p_GT p_MT x_EE chL4 := by
  refine ⟨?_, m_X11_layers, rfl⟩
  intro τ r h as M hM hH hA hF hK
  cases (show some m_X11_layers = some M from hM)
  obtain ⟨a, V, rfl, ha, hA⟩ := x_t3 (show x_vs τ r 3 [(3, 2, ([], ((2 : Nat) : Int))), (1, 0, ([(0, 1)], 0)), (1, 0, ([(1, 1)], 0))] as from hA)
  obtain ⟨x, V, rfl, -, hx, hA⟩ := x_t1 hA
  obtain ⟨y, V, rfl, -, hy, hA⟩ := x_t1 hA
  rw [g_nil hA]
  obtain ⟨rfl, t2⟩ := g_ref ha
  rw [g_v] at hx hy
  have h80 := (g_gho (g_get hK 0 rfl) 15 rfl).1
  obtain ⟨cT, hT⟩ := a_cell (a := 12) (by decide) h80
  obtain ⟨c65, h65⟩ := a_cell (a := 65) (by decide) h80
  obtain ⟨tT, xx, b2, exx⟩ := a_plc (a := 12) (e' := ([(2, 1)], 0)) (g_get hK 1 rfl) (by decide) hT
  obtain ⟨t65, x', b6, ex'⟩ := a_plc (a := 65) (e' := ([(2, 1)], 0)) (g_get hK 2 rfl) (by decide) h65
  rw [g_v] at exx ex'
  obtain ⟨fT, hfT, -⟩ := g_cell hH tT (show x_KL[12]? = some _ from rfl)
  have eT : cT = (0, 8, fT) := Option.some.inj (hT.symm.trans hfT)
  subst eT
  obtain ⟨ws, hw, hl, h6, hv, h8⟩ := a_bR hH t65
  have e65 : c65 = (1, 0, ws) := Option.some.inj (h65.symm.trans hw)
  subst e65
  have exc : x' = Int32.ofNat (g_bc (g_ms 20 h)) := by
    have := b6.symm.trans h6
    simp only [Option.some.injEq, Value.int.injEq] at this
    exact this
  have ec : r 2 = g_bc (g_ms 20 h) := by rw [← ex', exc, g_ofNat (by omega)]
  obtain ⟨f2, f3, rows, hC⟩ := a_bCC hH t2 t65 (g_get hK 0 rfl) hfT b2 (by rw [exx, ec])
  have rng := a_rng hH t65 (g_get hK 0 rfl)
  have e0 : (Int32.ofInt 0).toInt = 0 := by decide
  have e9 : (Int32.ofNat 9).toInt = 9 := by decide
  have e63 : (Int32.ofNat 63).toInt = 63 := by decide
  have eq : ((Int32.ofInt 0 ≤ x ∧ x ≤ Int32.ofNat 9) ∧ (Int32.ofInt 0 ≤ y ∧ y ≤ Int32.ofNat 63)) ↔ ((0 ≤ r 0 ∧ r 0 ≤ 9) ∧ (0 ≤ r 1 ∧ r 1 ≤ 63)) := by
    rw [Int32.le_iff_toInt_le, Int32.le_iff_toInt_le, Int32.le_iff_toInt_le, Int32.le_iff_toInt_le, e0, e9, e63, hx, hy]
  by_cases q : (Int32.ofInt 0 ≤ x ∧ x ≤ Int32.ofNat 9) ∧ (Int32.ofInt 0 ≤ y ∧ y ≤ Int32.ofNat 63)
  · have q1 : (0 ≤ r 0 ∧ r 0 ≤ 9) ∧ (0 ≤ r 1 ∧ r 1 ≤ 63) := eq.mp q
    obtain ⟨kd, hk⟩ : ∃ kd : Nat, r 0 = kd := ⟨(r 0).toNat, by omega⟩
    obtain ⟨bl, hbl⟩ : ∃ bl : Nat, r 1 = bl := ⟨(r 1).toNat, by omega⟩
    have exk : x = Int32.ofNat kd := g_i32 (by rw [hx, hk]) (by omega)
    have eyk : y = Int32.ofNat bl := g_i32 (by rw [hy, hbl]) (by omega)
    subst exk; subst eyk
    have lt := l_bits_lt (fun n => l_may (g_gv (g_ms 20 h)) (Int32.ofNat kd) (Int32.ofNat bl) n (g_bc (g_ms 20 h))) 10
    refine ⟨Nat.le_of_ble_eq_true rfl, (l_clayers (d := 1) hC q.1 q.2).mono (by decide) ?_⟩
    rintro v h2 ⟨rfl, rfl⟩
    have mv : ∀ z m, x_m x_EE τ r 3 h2 m → x_m x_EE τ (x_up r 3 z) 4 h2 m := fun z m hm => hm.moved (fun i hi => x_up_lt i hi) (by decide) (fun _ _ q => q)
    exact ⟨τ, x_up r 3 ((l_bits (fun n => l_may (g_gv (g_ms 20 h2)) (Int32.ofNat kd) (Int32.ofNat bl) n (g_bc (g_ms 20 h2))) 10 : Nat) : Int), g_J0 hH _, _, List.mem_cons_self, Nat.le_refl _, Nat.le_refl _, fun i hi => x_up_lt i hi, ⟨g_io (by rw [x_up_at]; omega) g_io0, g_c (by simp only [q_e, q_ev]; rw [x_up_lt 0 (by decide)]; omega) (g_c (by simp only [q_e, q_ev]; rw [x_up_lt 0 (by decide)]; omega) (g_c (by simp only [q_e, q_ev]; rw [x_up_lt 1 (by decide)]; omega) (g_c (by simp only [q_e, q_ev]; rw [x_up_lt 1 (by decide)]; omega) (g_n)))), g_n⟩, ⟨g_wl rfl, _, rfl, by rw [g_v, x_up_at, g_ofNat (by omega)]⟩, g_c (mv _ _ (g_get hK 0 rfl)) (g_c (mv _ _ (g_get hK 1 rfl)) (g_c (mv _ _ (g_get hK 2 rfl)) (g_c (a_mk20 (g_wl rfl) (g_wl rfl) h80 (by rw [show q_e (x_up r 3 ((l_bits (fun n => l_may (g_gv (g_ms 20 h2)) (Int32.ofNat kd) (Int32.ofNat bl) n (g_bc (g_ms 20 h2))) 10 : Nat) : Int)) ([(0, 64), (1, 1)], 0) = ((64 * kd + bl : Nat) : Int) by simp only [q_e, q_ev]; rw [x_up_lt 0 (by decide), x_up_lt 1 (by decide)]; omega, a_bsk _ kd bl (by omega), g_v, x_up_at])) (g_n))))⟩
  · refine ⟨Nat.le_of_ble_eq_true rfl, (l_clayers_no (d := 2) (Q := fun v h3 => v = some (.int (Int32.ofInt (-1))) ∧ h3 = h) q ⟨rfl, rfl⟩).mono (by decide) ?_⟩
    rintro v h2 ⟨rfl, rfl⟩
    have q2 : r 0 < 0 ∨ 9 < r 0 ∨ r 1 < 0 ∨ 63 < r 1 := by
      rw [eq] at q
      omega
    rcases q2 with q2 | q2 | q2 | q2
    · exact ⟨τ, r, g_J0 hH _, _, List.mem_cons_of_mem _ (List.mem_cons_self), Nat.le_refl _, Nat.le_refl _, fun _ _ => rfl, ⟨g_io0, g_c (by simp only [q_e, q_ev]; omega) g_n, g_n⟩, ⟨g_wl rfl, _, rfl, by rw [show q_e r ([], -1) = -1 by simp [q_e, q_ev]]; decide⟩, g_c (g_get hK 0 rfl) (g_c (g_get hK 1 rfl) (g_c (g_get hK 2 rfl) (g_n)))⟩
    · exact ⟨τ, r, g_J0 hH _, _, List.mem_cons_of_mem _ (List.mem_cons_of_mem _ (List.mem_cons_self)), Nat.le_refl _, Nat.le_refl _, fun _ _ => rfl, ⟨g_io0, g_c (by simp only [q_e, q_ev]; omega) g_n, g_n⟩, ⟨g_wl rfl, _, rfl, by rw [show q_e r ([], -1) = -1 by simp [q_e, q_ev]]; decide⟩, g_c (g_get hK 0 rfl) (g_c (g_get hK 1 rfl) (g_c (g_get hK 2 rfl) (g_n)))⟩
    · exact ⟨τ, r, g_J0 hH _, _, List.mem_cons_of_mem _ (List.mem_cons_of_mem _ (List.mem_cons_of_mem _ (List.mem_cons_self))), Nat.le_refl _, Nat.le_refl _, fun _ _ => rfl, ⟨g_io0, g_c (by simp only [q_e, q_ev]; omega) g_n, g_n⟩, ⟨g_wl rfl, _, rfl, by rw [show q_e r ([], -1) = -1 by simp [q_e, q_ev]]; decide⟩, g_c (g_get hK 0 rfl) (g_c (g_get hK 1 rfl) (g_c (g_get hK 2 rfl) (g_n)))⟩
    · exact ⟨τ, r, g_J0 hH _, _, List.mem_cons_of_mem _ (List.mem_cons_of_mem _ (List.mem_cons_of_mem _ (List.mem_cons_of_mem _ (List.mem_cons_self)))), Nat.le_refl _, Nat.le_refl _, fun _ _ => rfl, ⟨g_io0, g_c (by simp only [q_e, q_ev]; omega) g_n, g_n⟩, ⟨g_wl rfl, _, rfl, by rw [show q_e r ([], -1) = -1 by simp [q_e, q_ev]]; decide⟩, g_c (g_get hK 0 rfl) (g_c (g_get hK 1 rfl) (g_c (g_get hK 2 rfl) (g_n)))⟩
theorem ho_chL5 : x_OK p_GT p_MT x_EE chL5 := by
  refine ⟨?_, m_X12_layers, rfl⟩
  intro τ r h as M hM hH hA hF hK
  cases (show some m_X12_layers = some M from hM)
  obtain ⟨a, V, rfl, ha, hA⟩ := x_t3 (show x_vs τ r 3 [(3, 64, ([], ((64 : Nat) : Int))), (1, 0, ([(0, 1)], 0)), (1, 0, ([(1, 1)], 0))] as from hA)
  obtain ⟨x, V, rfl, -, hx, hA⟩ := x_t1 hA
  obtain ⟨y, V, rfl, -, hy, hA⟩ := x_t1 hA
  rw [g_nil hA]
  obtain ⟨rfl, t64⟩ := g_ref ha
  rw [g_v] at hx hy
  obtain ⟨vs, ws, hR, hl, t65⟩ := a_bRR hH t64
  have h8 : g_bc (g_ms 20 h) ≤ 8 := hR.2.2.2.2.2
  have rng := a_rng hH t65 (g_get hK 0 rfl)
  have hb : ∀ k, k < 8 → g_gv (g_ms 20 h) k 3 = Int32.ofInt 0 ∨ g_gv (g_ms 20 h) k 3 = Int32.ofInt 1 := fun k hk => by
    have q := rng k hk 3 (by decide)
    have q2 : (g_gv (g_ms 20 h) k 3).toInt ≤ 1 := q.2
    have e : (g_gv (g_ms 20 h) k 3).toInt = 0 ∨ (g_gv (g_ms 20 h) k 3).toInt = 1 := by omega
    rcases e with e | e
    · exact Or.inl (Int32.toInt_inj.mp (by rw [e]; decide))
    · exact Or.inr (Int32.toInt_inj.mp (by rw [e]; decide))
  have e0 : (Int32.ofInt 0).toInt = 0 := by decide
  have e9 : (Int32.ofNat 9).toInt = 9 := by decide
  have e63 : (Int32.ofNat 63).toInt = 63 := by decide
  have eq : ((Int32.ofInt 0 ≤ x ∧ x ≤ Int32.ofNat 9) ∧ (Int32.ofInt 0 ≤ y ∧ y ≤ Int32.ofNat 63)) ↔ ((0 ≤ r 0 ∧ r 0 ≤ 9) ∧ (0 ≤ r 1 ∧ r 1 ≤ 63)) := by
    rw [Int32.le_iff_toInt_le, Int32.le_iff_toInt_le, Int32.le_iff_toInt_le, Int32.le_iff_toInt_le, e0, e9, e63, hx, hy]
  by_cases q : (Int32.ofInt 0 ≤ x ∧ x ≤ Int32.ofNat 9) ∧ (Int32.ofInt 0 ≤ y ∧ y ≤ Int32.ofNat 63)
  · have q1 : (0 ≤ r 0 ∧ r 0 ≤ 9) ∧ (0 ≤ r 1 ∧ r 1 ≤ 63) := eq.mp q
    obtain ⟨kd, hk⟩ : ∃ kd : Nat, r 0 = kd := ⟨(r 0).toNat, by omega⟩
    obtain ⟨bl, hbl⟩ : ∃ bl : Nat, r 1 = bl := ⟨(r 1).toNat, by omega⟩
    have exk : x = Int32.ofNat kd := g_i32 (by rw [hx, hk]) (by omega)
    have eyk : y = Int32.ofNat bl := g_i32 (by rw [hy, hbl]) (by omega)
    subst exk; subst eyk
    have lt := l_bits_lt (fun n => l_may (g_gv (g_ms 20 h)) (Int32.ofNat kd) (Int32.ofNat bl) n (g_bc (g_ms 20 h))) 10
    refine ⟨Nat.le_of_ble_eq_true rfl, (l_rlayers (d := 2) hR hb q.1 q.2).mono (by decide) ?_⟩
    rintro v h2 ⟨rfl, rfl⟩
    have mv : ∀ z m, x_m x_EE τ r 3 h2 m → x_m x_EE τ (x_up r 3 z) 4 h2 m := fun z m hm => hm.moved (fun i hi => x_up_lt i hi) (by decide) (fun _ _ q => q)
    exact ⟨τ, x_up r 3 ((l_bits (fun n => l_may (g_gv (g_ms 20 h2)) (Int32.ofNat kd) (Int32.ofNat bl) n (g_bc (g_ms 20 h2))) 10 : Nat) : Int), g_J0 hH _, _, List.mem_cons_self, Nat.le_refl _, Nat.le_refl _, fun i hi => x_up_lt i hi, ⟨g_io (by rw [x_up_at]; omega) g_io0, g_c (by simp only [q_e, q_ev]; rw [x_up_lt 0 (by decide)]; omega) (g_c (by simp only [q_e, q_ev]; rw [x_up_lt 0 (by decide)]; omega) (g_c (by simp only [q_e, q_ev]; rw [x_up_lt 1 (by decide)]; omega) (g_c (by simp only [q_e, q_ev]; rw [x_up_lt 1 (by decide)]; omega) (g_n)))), g_n⟩, ⟨g_wl rfl, _, rfl, by rw [g_v, x_up_at, g_ofNat (by omega)]⟩, g_c (mv _ _ (g_get hK 0 rfl)) (g_c (mv _ _ (g_get hK 1 rfl)) (g_n))⟩
  · refine ⟨Nat.le_of_ble_eq_true rfl, (l_rlayers_no (d := 2) (Q := fun v h3 => v = some (.int (Int32.ofInt (-1))) ∧ h3 = h) q ⟨rfl, rfl⟩).mono (by decide) ?_⟩
    rintro v h2 ⟨rfl, rfl⟩
    have q2 : r 0 < 0 ∨ 9 < r 0 ∨ r 1 < 0 ∨ 63 < r 1 := by
      rw [eq] at q
      omega
    rcases q2 with q2 | q2 | q2 | q2
    · exact ⟨τ, r, g_J0 hH _, _, List.mem_cons_of_mem _ (List.mem_cons_self), Nat.le_refl _, Nat.le_refl _, fun _ _ => rfl, ⟨g_io0, g_c (by simp only [q_e, q_ev]; omega) g_n, g_n⟩, ⟨g_wl rfl, _, rfl, by rw [show q_e r ([], -1) = -1 by simp [q_e, q_ev]]; decide⟩, g_c (g_get hK 0 rfl) (g_c (g_get hK 1 rfl) (g_n))⟩
    · exact ⟨τ, r, g_J0 hH _, _, List.mem_cons_of_mem _ (List.mem_cons_of_mem _ (List.mem_cons_self)), Nat.le_refl _, Nat.le_refl _, fun _ _ => rfl, ⟨g_io0, g_c (by simp only [q_e, q_ev]; omega) g_n, g_n⟩, ⟨g_wl rfl, _, rfl, by rw [show q_e r ([], -1) = -1 by simp [q_e, q_ev]]; decide⟩, g_c (g_get hK 0 rfl) (g_c (g_get hK 1 rfl) (g_n))⟩
    · exact ⟨τ, r, g_J0 hH _, _, List.mem_cons_of_mem _ (List.mem_cons_of_mem _ (List.mem_cons_of_mem _ (List.mem_cons_self))), Nat.le_refl _, Nat.le_refl _, fun _ _ => rfl, ⟨g_io0, g_c (by simp only [q_e, q_ev]; omega) g_n, g_n⟩, ⟨g_wl rfl, _, rfl, by rw [show q_e r ([], -1) = -1 by simp [q_e, q_ev]]; decide⟩, g_c (g_get hK 0 rfl) (g_c (g_get hK 1 rfl) (g_n))⟩
    · exact ⟨τ, r, g_J0 hH _, _, List.mem_cons_of_mem _ (List.mem_cons_of_mem _ (List.mem_cons_of_mem _ (List.mem_cons_of_mem _ (List.mem_cons_self)))), Nat.le_refl _, Nat.le_refl _, fun _ _ => rfl, ⟨g_io0, g_c (by simp only [q_e, q_ev]; omega) g_n, g_n⟩, ⟨g_wl rfl, _, rfl, by rw [show q_e r ([], -1) = -1 by simp [q_e, q_ev]]; decide⟩, g_c (g_get hK 0 rfl) (g_c (g_get hK 1 rfl) (g_n))⟩
theorem ho_chL6 : x_OK p_GT p_MT x_EE chL6 := by
  refine ⟨?_, m_X12_layers, rfl⟩
  intro τ r h as M hM hH hA hF hK
  cases (show some m_X12_layers = some M from hM)
  obtain ⟨a, V, rfl, ha, hA⟩ := x_t3 (show x_vs τ r 4 [(3, 64, ([], ((64 : Nat) : Int))), (1, 0, ([(0, 1)], 0)), (1, 0, ([(1, 1)], 0))] as from hA)
  obtain ⟨x, V, rfl, -, hx, hA⟩ := x_t1 hA
  obtain ⟨y, V, rfl, -, hy, hA⟩ := x_t1 hA
  rw [g_nil hA]
  obtain ⟨rfl, t64⟩ := g_ref ha
  rw [g_v] at hx hy
  obtain ⟨vs, ws, hR, hl, t65⟩ := a_bRR hH t64
  have h8 : g_bc (g_ms 20 h) ≤ 8 := hR.2.2.2.2.2
  have rng := a_rng hH t65 (g_get hK 0 rfl)
  have hb : ∀ k, k < 8 → g_gv (g_ms 20 h) k 3 = Int32.ofInt 0 ∨ g_gv (g_ms 20 h) k 3 = Int32.ofInt 1 := fun k hk => by
    have q := rng k hk 3 (by decide)
    have q2 : (g_gv (g_ms 20 h) k 3).toInt ≤ 1 := q.2
    have e : (g_gv (g_ms 20 h) k 3).toInt = 0 ∨ (g_gv (g_ms 20 h) k 3).toInt = 1 := by omega
    rcases e with e | e
    · exact Or.inl (Int32.toInt_inj.mp (by rw [e]; decide))
    · exact Or.inr (Int32.toInt_inj.mp (by rw [e]; decide))
  have e0 : (Int32.ofInt 0).toInt = 0 := by decide
  have e9 : (Int32.ofNat 9).toInt = 9 := by decide
  have e63 : (Int32.ofNat 63).toInt = 63 := by decide
  have eq : ((Int32.ofInt 0 ≤ x ∧ x ≤ Int32.ofNat 9) ∧ (Int32.ofInt 0 ≤ y ∧ y ≤ Int32.ofNat 63)) ↔ ((0 ≤ r 0 ∧ r 0 ≤ 9) ∧ (0 ≤ r 1 ∧ r 1 ≤ 63)) := by
    rw [Int32.le_iff_toInt_le, Int32.le_iff_toInt_le, Int32.le_iff_toInt_le, Int32.le_iff_toInt_le, e0, e9, e63, hx, hy]
  have f0 : 0 ≤ q_e r ([(0, 1)], 0) := g_get hF.2.1 0 rfl
  have f1 : 0 ≤ q_e r ([(0, -1)], 9) := g_get hF.2.1 1 rfl
  have f2 : 0 ≤ q_e r ([(1, 1)], 0) := g_get hF.2.1 2 rfl
  have f3 : 0 ≤ q_e r ([(1, -1)], 63) := g_get hF.2.1 3 rfl
  simp only [q_e, q_ev] at f0 f1 f2 f3
  have q : (Int32.ofInt 0 ≤ x ∧ x ≤ Int32.ofNat 9) ∧ (Int32.ofInt 0 ≤ y ∧ y ≤ Int32.ofNat 63) := eq.mpr (by omega)
  obtain ⟨kd, hk⟩ : ∃ kd : Nat, r 0 = kd := ⟨(r 0).toNat, by omega⟩
  obtain ⟨bl, hbl⟩ : ∃ bl : Nat, r 1 = bl := ⟨(r 1).toNat, by omega⟩
  have exk : x = Int32.ofNat kd := g_i32 (by rw [hx, hk]) (by omega)
  have eyk : y = Int32.ofNat bl := g_i32 (by rw [hy, hbl]) (by omega)
  subst exk; subst eyk
  have lt := l_bits_lt (fun n => l_may (g_gv (g_ms 20 h)) (Int32.ofNat kd) (Int32.ofNat bl) n (g_bc (g_ms 20 h))) 10
  have g0 := a_un20 (e := ([(0, 64), (1, 1)], 0)) (e' := ([(3, 1)], 0)) (g_get hK 2 rfl)
  rw [show q_e r ([(0, 64), (1, 1)], 0) = ((64 * kd + bl : Nat) : Int) by simp only [q_e, q_ev]; omega, a_bsk _ kd bl (by omega), g_v] at g0
  refine ⟨Nat.le_of_ble_eq_true rfl, (l_rlayers (d := 2) hR hb q.1 q.2).mono (by decide) ?_⟩
  rintro v h2 ⟨rfl, rfl⟩
  exact ⟨τ, r, g_J0 hH _, _, List.mem_cons_self, Nat.le_refl _, Nat.le_refl _, fun _ _ => rfl, g_F0, ⟨g_wl rfl, _, rfl, by rw [g_v, ← g0, g_ofNat (by omega)]⟩, g_c (g_get hK 0 rfl) (g_c (g_get hK 1 rfl) (g_c (g_get hK 2 rfl) (g_n)))⟩

/-! Contracts by hand: speed -/
theorem a_bsk (R : Nat → Nat → Int) (kd : Nat) : g_bs R ((kd : Nat) : Int) = (Int32.ofInt (sp_ans kd (sp_out (decide (kd < 2)) (sp_D (g_gv R)) (sp_E (g_gv R)) (g_bc R) (g_bc R)))).toInt := by
  unfold g_bs
  rw [Int.toNat_natCast]
  rfl
theorem ho_chL4 : x_OK p_GT p_MT x_EE chL4 := by
  refine ⟨?_, m_X11_speed, rfl⟩
  intro τ r h as M hM hH hA hF hK
  cases (show some m_X11_speed = some M from hM)
  obtain ⟨a, V, rfl, ha, hA⟩ := x_t3 (show x_vs τ r 2 [(3, 2, ([], ((2 : Nat) : Int))), (1, 0, ([(0, 1)], 0))] as from hA)
  obtain ⟨x, V, rfl, -, hx, hA⟩ := x_t1 hA
  rw [g_nil hA]
  obtain ⟨rfl, t2⟩ := g_ref ha
  rw [g_v] at hx
  have h80 := (g_gho (g_get hK 0 rfl) 15 rfl).1
  obtain ⟨cT, hT⟩ := a_cell (a := 16) (by decide) h80
  obtain ⟨c65, h65⟩ := a_cell (a := 65) (by decide) h80
  obtain ⟨tT, xx, b2, exx⟩ := a_plc (a := 16) (e' := ([(1, 1)], 0)) (g_get hK 1 rfl) (by decide) hT
  obtain ⟨t65, x', b6, ex'⟩ := a_plc (a := 65) (e' := ([(1, 1)], 0)) (g_get hK 2 rfl) (by decide) h65
  rw [g_v] at exx ex'
  obtain ⟨fT, hfT, -⟩ := g_cell hH tT (show x_KL[16]? = some _ from rfl)
  have eT : cT = (0, 8, fT) := Option.some.inj (hT.symm.trans hfT)
  subst eT
  obtain ⟨ws, hw, hl, h6, hv, h8⟩ := a_bR hH t65
  have e65 : c65 = (1, 0, ws) := Option.some.inj (h65.symm.trans hw)
  subst e65
  have exc : x' = Int32.ofNat (g_bc (g_ms 20 h)) := by
    have := b6.symm.trans h6
    simp only [Option.some.injEq, Value.int.injEq] at this
    exact this
  have ec : r 1 = g_bc (g_ms 20 h) := by rw [← ex', exc, g_ofNat (by omega)]
  obtain ⟨f2, f3, rows, hC⟩ := a_bCC hH t2 t65 (g_get hK 0 rfl) hfT b2 (by rw [exx, ec])
  have rng := a_rng hH t65 (g_get hK 0 rfl)
  have hD : ∀ k, k < 8 → 0 ≤ sp_D (g_gv (g_ms 20 h)) k ∧ sp_D (g_gv (g_ms 20 h)) k ≤ 999 := fun k hk => rng k hk 0 (by decide)
  have hE : ∀ k, k < 8 → 0 ≤ sp_E (g_gv (g_ms 20 h)) k ∧ sp_E (g_gv (g_ms 20 h)) k ≤ 100 := fun k hk => rng k hk 1 (by decide)
  have e0 : (Int32.ofInt 0).toInt = 0 := by decide
  have e3 : (Int32.ofInt 3).toInt = 3 := by decide
  have eq : (Int32.ofInt 0 ≤ x ∧ x ≤ Int32.ofInt 3) ↔ (0 ≤ r 0 ∧ r 0 ≤ 3) := by
    rw [Int32.le_iff_toInt_le, Int32.le_iff_toInt_le, e0, e3, hx]
  by_cases q : Int32.ofInt 0 ≤ x ∧ x ≤ Int32.ofInt 3
  · have q1 : 0 ≤ r 0 ∧ r 0 ≤ 3 := eq.mp q
    obtain ⟨kd, hk⟩ : ∃ kd : Nat, r 0 = kd := ⟨(r 0).toNat, by omega⟩
    have exk : x = Int32.ofNat kd := g_i32 (by rw [hx, hk]) (by omega)
    subst exk
    refine ⟨Nat.le_of_ble_eq_true rfl, (sp_cspeed (d := 1) (w := kd) hC hD hE (by omega)).mono (by decide) ?_⟩
    rintro v h2 ⟨rfl, rfl⟩
    have mv : ∀ z m, x_m x_EE τ r 2 h2 m → x_m x_EE τ (x_up r 2 z) 3 h2 m := fun z m hm => hm.moved (fun i hi => x_up_lt i hi) (by decide) (fun _ _ q => q)
    exact ⟨τ, x_up r 2 (Int32.ofInt (sp_ans kd (sp_out (decide (kd < 2)) (sp_D (g_gv (g_ms 20 h2))) (sp_E (g_gv (g_ms 20 h2))) (g_bc (g_ms 20 h2)) (g_bc (g_ms 20 h2))))).toInt, g_J0 hH _, _, List.mem_cons_self, Nat.le_refl _, Nat.le_refl _, fun i hi => x_up_lt i hi, ⟨g_io (by rw [x_up_at]; exact x_I32 _) g_io0, g_c (by simp only [q_e, q_ev]; rw [x_up_lt 0 (by decide)]; omega) (g_c (by simp only [q_e, q_ev]; rw [x_up_lt 0 (by decide)]; omega) (g_n)), g_n⟩, ⟨g_wl rfl, _, rfl, by rw [g_v, x_up_at]⟩, g_c (mv _ _ (g_get hK 0 rfl)) (g_c (mv _ _ (g_get hK 1 rfl)) (g_c (mv _ _ (g_get hK 2 rfl)) (g_c (a_mk20 (g_wl rfl) (g_wl rfl) h80 (by rw [show q_e (x_up r 2 (Int32.ofInt (sp_ans kd (sp_out (decide (kd < 2)) (sp_D (g_gv (g_ms 20 h2))) (sp_E (g_gv (g_ms 20 h2))) (g_bc (g_ms 20 h2)) (g_bc (g_ms 20 h2))))).toInt) ([(0, 1)], 0) = ((kd : Nat) : Int) by simp only [q_e, q_ev]; rw [x_up_lt 0 (by decide)]; omega, a_bsk _ kd, g_v, x_up_at])) (g_n))))⟩
  · refine ⟨Nat.le_of_ble_eq_true rfl, (sp_cspeed_no (d := 1) (Q := fun v h3 => v = some (.int (Int32.ofInt (-100000))) ∧ h3 = h) hC hD hE q ⟨rfl, rfl⟩).mono (by decide) ?_⟩
    rintro v h2 ⟨rfl, rfl⟩
    have q2 : r 0 < 0 ∨ 3 < r 0 := by
      rw [eq] at q
      omega
    rcases q2 with q2 | q2
    · exact ⟨τ, r, g_J0 hH _, _, List.mem_cons_of_mem _ (List.mem_cons_self), Nat.le_refl _, Nat.le_refl _, fun _ _ => rfl, ⟨g_io0, g_c (by simp only [q_e, q_ev]; omega) g_n, g_n⟩, ⟨g_wl rfl, _, rfl, by rw [show q_e r ([], -100000) = -100000 by simp [q_e, q_ev]]; decide⟩, g_c (g_get hK 0 rfl) (g_c (g_get hK 1 rfl) (g_c (g_get hK 2 rfl) (g_n)))⟩
    · exact ⟨τ, r, g_J0 hH _, _, List.mem_cons_of_mem _ (List.mem_cons_of_mem _ (List.mem_cons_self)), Nat.le_refl _, Nat.le_refl _, fun _ _ => rfl, ⟨g_io0, g_c (by simp only [q_e, q_ev]; omega) g_n, g_n⟩, ⟨g_wl rfl, _, rfl, by rw [show q_e r ([], -100000) = -100000 by simp [q_e, q_ev]]; decide⟩, g_c (g_get hK 0 rfl) (g_c (g_get hK 1 rfl) (g_c (g_get hK 2 rfl) (g_n)))⟩
theorem ho_chL5 : x_OK p_GT p_MT x_EE chL5 := by
  refine ⟨?_, m_X12_speed, rfl⟩
  intro τ r h as M hM hH hA hF hK
  cases (show some m_X12_speed = some M from hM)
  obtain ⟨a, V, rfl, ha, hA⟩ := x_t3 (show x_vs τ r 2 [(3, 64, ([], ((64 : Nat) : Int))), (1, 0, ([(0, 1)], 0))] as from hA)
  obtain ⟨x, V, rfl, -, hx, hA⟩ := x_t1 hA
  rw [g_nil hA]
  obtain ⟨rfl, t64⟩ := g_ref ha
  rw [g_v] at hx
  obtain ⟨vs, ws, hR, hl, t65⟩ := a_bRR hH t64
  have h8 : g_bc (g_ms 20 h) ≤ 8 := hR.2.2.2.2.2
  have rng := a_rng hH t65 (g_get hK 0 rfl)
  have hD : ∀ k, k < 8 → 0 ≤ sp_D (g_gv (g_ms 20 h)) k ∧ sp_D (g_gv (g_ms 20 h)) k ≤ 999 := fun k hk => rng k hk 0 (by decide)
  have hE : ∀ k, k < 8 → 0 ≤ sp_E (g_gv (g_ms 20 h)) k ∧ sp_E (g_gv (g_ms 20 h)) k ≤ 100 := fun k hk => rng k hk 1 (by decide)
  have e0 : (Int32.ofInt 0).toInt = 0 := by decide
  have e3 : (Int32.ofInt 3).toInt = 3 := by decide
  have eq : (Int32.ofInt 0 ≤ x ∧ x ≤ Int32.ofInt 3) ↔ (0 ≤ r 0 ∧ r 0 ≤ 3) := by
    rw [Int32.le_iff_toInt_le, Int32.le_iff_toInt_le, e0, e3, hx]
  by_cases q : Int32.ofInt 0 ≤ x ∧ x ≤ Int32.ofInt 3
  · have q1 : 0 ≤ r 0 ∧ r 0 ≤ 3 := eq.mp q
    obtain ⟨kd, hk⟩ : ∃ kd : Nat, r 0 = kd := ⟨(r 0).toNat, by omega⟩
    have exk : x = Int32.ofNat kd := g_i32 (by rw [hx, hk]) (by omega)
    subst exk
    refine ⟨Nat.le_of_ble_eq_true rfl, (sp_rspeed (d := 1) (w := kd) hR hD hE (by omega)).mono (by decide) ?_⟩
    rintro v h2 ⟨rfl, rfl⟩
    have mv : ∀ z m, x_m x_EE τ r 2 h2 m → x_m x_EE τ (x_up r 2 z) 3 h2 m := fun z m hm => hm.moved (fun i hi => x_up_lt i hi) (by decide) (fun _ _ q => q)
    exact ⟨τ, x_up r 2 (Int32.ofInt (sp_ans kd (sp_out (decide (kd < 2)) (sp_D (g_gv (g_ms 20 h2))) (sp_E (g_gv (g_ms 20 h2))) (g_bc (g_ms 20 h2)) (g_bc (g_ms 20 h2))))).toInt, g_J0 hH _, _, List.mem_cons_self, Nat.le_refl _, Nat.le_refl _, fun i hi => x_up_lt i hi, ⟨g_io (by rw [x_up_at]; exact x_I32 _) g_io0, g_c (by simp only [q_e, q_ev]; rw [x_up_lt 0 (by decide)]; omega) (g_c (by simp only [q_e, q_ev]; rw [x_up_lt 0 (by decide)]; omega) (g_n)), g_n⟩, ⟨g_wl rfl, _, rfl, by rw [g_v, x_up_at]⟩, g_c (mv _ _ (g_get hK 0 rfl)) (g_c (mv _ _ (g_get hK 1 rfl)) (g_n))⟩
  · refine ⟨Nat.le_of_ble_eq_true rfl, (sp_rspeed_no (d := 2) (Q := fun v h3 => v = some (.int (Int32.ofInt (-100000))) ∧ h3 = h) q ⟨rfl, rfl⟩).mono (by decide) ?_⟩
    rintro v h2 ⟨rfl, rfl⟩
    have q2 : r 0 < 0 ∨ 3 < r 0 := by
      rw [eq] at q
      omega
    rcases q2 with q2 | q2
    · exact ⟨τ, r, g_J0 hH _, _, List.mem_cons_of_mem _ (List.mem_cons_self), Nat.le_refl _, Nat.le_refl _, fun _ _ => rfl, ⟨g_io0, g_c (by simp only [q_e, q_ev]; omega) g_n, g_n⟩, ⟨g_wl rfl, _, rfl, by rw [show q_e r ([], -100000) = -100000 by simp [q_e, q_ev]]; decide⟩, g_c (g_get hK 0 rfl) (g_c (g_get hK 1 rfl) (g_n))⟩
    · exact ⟨τ, r, g_J0 hH _, _, List.mem_cons_of_mem _ (List.mem_cons_of_mem _ (List.mem_cons_self)), Nat.le_refl _, Nat.le_refl _, fun _ _ => rfl, ⟨g_io0, g_c (by simp only [q_e, q_ev]; omega) g_n, g_n⟩, ⟨g_wl rfl, _, rfl, by rw [show q_e r ([], -100000) = -100000 by simp [q_e, q_ev]]; decide⟩, g_c (g_get hK 0 rfl) (g_c (g_get hK 1 rfl) (g_n))⟩
theorem ho_chL6 : x_OK p_GT p_MT x_EE chL6 := by
  refine ⟨?_, m_X12_speed, rfl⟩
  intro τ r h as M hM hH hA hF hK
  cases (show some m_X12_speed = some M from hM)
  obtain ⟨a, V, rfl, ha, hA⟩ := x_t3 (show x_vs τ r 3 [(3, 64, ([], ((64 : Nat) : Int))), (1, 0, ([(0, 1)], 0))] as from hA)
  obtain ⟨x, V, rfl, -, hx, hA⟩ := x_t1 hA
  rw [g_nil hA]
  obtain ⟨rfl, t64⟩ := g_ref ha
  rw [g_v] at hx
  obtain ⟨vs, ws, hR, hl, t65⟩ := a_bRR hH t64
  have h8 : g_bc (g_ms 20 h) ≤ 8 := hR.2.2.2.2.2
  have rng := a_rng hH t65 (g_get hK 0 rfl)
  have hD : ∀ k, k < 8 → 0 ≤ sp_D (g_gv (g_ms 20 h)) k ∧ sp_D (g_gv (g_ms 20 h)) k ≤ 999 := fun k hk => rng k hk 0 (by decide)
  have hE : ∀ k, k < 8 → 0 ≤ sp_E (g_gv (g_ms 20 h)) k ∧ sp_E (g_gv (g_ms 20 h)) k ≤ 100 := fun k hk => rng k hk 1 (by decide)
  have e0 : (Int32.ofInt 0).toInt = 0 := by decide
  have e3 : (Int32.ofInt 3).toInt = 3 := by decide
  have eq : (Int32.ofInt 0 ≤ x ∧ x ≤ Int32.ofInt 3) ↔ (0 ≤ r 0 ∧ r 0 ≤ 3) := by
    rw [Int32.le_iff_toInt_le, Int32.le_iff_toInt_le, e0, e3, hx]
  have f0 : 0 ≤ q_e r ([(0, 1)], 0) := g_get hF.2.1 0 rfl
  have f1 : 0 ≤ q_e r ([(0, -1)], 3) := g_get hF.2.1 1 rfl
  simp only [q_e, q_ev] at f0 f1
  have q : Int32.ofInt 0 ≤ x ∧ x ≤ Int32.ofInt 3 := eq.mpr (by omega)
  obtain ⟨kd, hk⟩ : ∃ kd : Nat, r 0 = kd := ⟨(r 0).toNat, by omega⟩
  have exk : x = Int32.ofNat kd := g_i32 (by rw [hx, hk]) (by omega)
  subst exk
  have g0 := a_un20 (e := ([(0, 1)], 0)) (e' := ([(2, 1)], 0)) (g_get hK 2 rfl)
  rw [show q_e r ([(0, 1)], 0) = ((kd : Nat) : Int) by simp only [q_e, q_ev]; omega, a_bsk _ kd, g_v] at g0
  refine ⟨Nat.le_of_ble_eq_true rfl, (sp_rspeed (d := 1) (w := kd) hR hD hE (by omega)).mono (by decide) ?_⟩
  rintro v h2 ⟨rfl, rfl⟩
  exact ⟨τ, r, g_J0 hH _, _, List.mem_cons_self, Nat.le_refl _, Nat.le_refl _, fun _ _ => rfl, g_F0, ⟨g_wl rfl, _, rfl, by rw [g_v, ← g0]⟩, g_c (g_get hK 0 rfl) (g_c (g_get hK 1 rfl) (g_c (g_get hK 2 rfl) (g_n)))⟩

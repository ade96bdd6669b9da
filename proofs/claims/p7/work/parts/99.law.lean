/-! The law -/
theorem k_at {xs : List Int32} {h : p_H} (hH : s_hr (k_θ xs) k_H0 h) {a j : Nat} (h9 : Nat.ble (k_H0.1.get a).1 2 = true) (hj : (k_H0.1.get a).2.2.2.get j = .inl 0) : ∃ d, h[a]? = some d ∧ d.2.2[j]? = some (.int 0) := by
  have := Nat.le_of_ble_eq_true h9
  obtain ⟨d, hd, -, -, -, d4⟩ := hH.2.2 a (by omega)
  obtain ⟨w, h1, h2⟩ := d4 j (by rw [hj]; show (1 : Nat) ≠ 0; decide)
  rw [hj] at h2
  obtain ⟨-, rfl⟩ := (show s_I 0 ∧ w = .int (Int32.ofInt 0) from h2)
  exact ⟨d, hd, h1⟩
theorem k_len {xs : List Int32} {h : p_H} (hH : s_hr (k_θ xs) k_H0 h) {a n : Nat} (h9 : Nat.ble (k_H0.1.get a).1 2 = true) (hn : (k_H0.1.get a).2.2.1 = n) : ∃ d, h[a]? = some d ∧ d.2.2.length = n := by
  have := Nat.le_of_ble_eq_true h9
  obtain ⟨d, hd, -, -, d3, -⟩ := hH.2.2 a (by omega)
  exact ⟨d, hd, by rw [d3, hn]⟩
theorem k_τ_at {a : Nat} (ha : a < 80) : k_τ a = some a := by simp only [k_τ]; rw [if_pos ha]
/-- a place that is 0 at the start -/
theorem k_m0 {xs : List Int32} {h : p_H} (hH : s_hr (k_θ xs) k_H0 h) {r : Nat → Int} {n a j x : Nat} (ha : a < 80) (hj : j < 1000000) (h9 : Nat.ble (k_H0.1.get a).1 2 = true) (hv : (k_H0.1.get a).2.2.2.get j = .inl 0) (hx : x < n) (hr : r x = 0) : x_m x_EE k_τ r n h (([], (a : Int)), a, j, (1, 0, ([(x, 1)], 0))) := by
  obtain ⟨d, hd, h1⟩ := k_at hH h9 hv
  refine x_m.mkp q_wl_nil (show j < 1000001 by omega) ⟨a, d, by simp [q_e, q_ev], k_τ_at ha, hd, ?_⟩
  rw [if_neg (show ¬ j = x_len by unfold x_len; omega)]
  exact ⟨.int 0, h1, q_v_wl hx, 0, rfl, by rw [g_v, hr]; rfl⟩
theorem k_ml {xs : List Int32} {h : p_H} (hH : s_hr (k_θ xs) k_H0 h) {r : Nat → Int} {n a m : Nat} (ha : a < 80) (h9 : Nat.ble (k_H0.1.get a).1 2 = true) (hn : (k_H0.1.get a).2.2.1 = m) : x_m x_EE k_τ r n h (([], (a : Int)), a, 1000000, (1, 0, ([], (m : Int)))) := by
  obtain ⟨d, hd, h1⟩ := k_len hH h9 hn
  refine x_m.mkp q_wl_nil (by show 1000000 < 1000001; omega) ⟨a, d, by simp [q_e, q_ev], k_τ_at ha, hd, ?_⟩
  rw [if_pos (show 1000000 = x_len from rfl)]
  exact ⟨q_wl_nil, rfl, by simp [q_e, q_ev, h1]⟩
theorem k_z {xs : List Int32} {h : p_H} (hH : s_hr (k_θ xs) k_H0 h) {a j : Nat} {d : p_C} (hd : h[a]? = some d) (h9 : Nat.ble (k_H0.1.get a).1 2 = true) (hj : (k_H0.1.get a).2.2.2.get j = .inl 0) : g_at d.2.2 j = 0 := by
  obtain ⟨d', h1, h2⟩ := k_at hH h9 hj
  have := Option.some.inj (h1.symm.trans hd)
  subst this
  rw [g_at_int h2]; rfl
def k_zb (a m : Nat) : Bool := (List.range m).all (fun k => match (k_H0.1.get a).2.2.2.get k with | .inl z => decide (z = 0) | .inr _ => false)
theorem k_zs {a m : Nat} (h : k_zb a m = true) : ∀ k, k < m → (k_H0.1.get a).2.2.2.get k = .inl 0 := by
  intro k hk
  have := List.all_eq_true.mp h k (List.mem_range.mpr hk)
  split at this
  · next z e => rw [e, of_decide_eq_true this]
  · cases this
theorem k_z44 : k_zb 44 300 = true := by decide +kernel
theorem k_z68 : k_zb 68 300 = true := by decide +kernel
theorem k_al22 {xs : List Int32} {h : p_H} (hH : s_hr (k_θ xs) k_H0 h) {r : Nat → Int} {n : Nat} : x_m x_EE k_τ r n h (([], 0), 64, 1000023, (1, 0, ([], 1))) := by
  have h80 : 80 ≤ h.length := by rw [show h.length = 80 from hH.1]; exact Nat.le_refl _
  obtain ⟨ca, ha⟩ := a_cell (a := 44) (by decide) h80
  obtain ⟨cb, hb⟩ := a_cell (a := 68) (by decide) h80
  refine a_mk22 h80 ha hb (fun k hk => ?_)
  rw [k_z hH ha rfl (k_zs k_z44 k hk), k_z hH hb rfl (k_zs k_z68 k hk)]; rfl
/-- a word of the fresh state -/
theorem k_mw {xs : List Int32} {h : p_H} (hH : s_hr (k_θ xs) k_H0 h) {r : Nat → Int} {n j : Nat} {w : Int} (hj : j < 1000000) (hv : (k_H0.1.get 1).2.2.2.get j = .inr (2, .leaf w)) (hw : (Int64.ofInt w).toInt = w) : x_m x_EE k_τ r n h (([], ((1 : Nat) : Int)), 1, j, (2, 0, ([], w))) := by
  have h9 : Nat.ble (k_H0.1.get 1).1 2 = true := rfl
  have := Nat.le_of_ble_eq_true h9
  obtain ⟨d, hd, -, -, -, d4⟩ := hH.2.2 1 (by omega)
  obtain ⟨v, h1, h2⟩ := d4 j (by rw [hv]; show (2 : Nat) ≠ 0; decide)
  rw [hv] at h2
  obtain ⟨z, hz, rfl⟩ := (show ∃ z, (Lean.RArray.leaf w : s_E) = .leaf z ∧ v = .long (Int64.ofInt z) from h2)
  cases hz
  refine x_m.mkp q_wl_nil (show j < 1000001 by omega) ⟨1, d, by simp [q_e, q_ev], k_τ_at (by decide), hd, ?_⟩
  rw [if_neg (show ¬ j = x_len by unfold x_len; omega)]
  exact ⟨_, h1, q_wl_nil, _, rfl, by rw [hw]; simp [q_e, q_ev]⟩
/-- a place that is z at the start -/
theorem k_mz {xs : List Int32} {h : p_H} (hH : s_hr (k_θ xs) k_H0 h) {r : Nat → Int} {n a j x : Nat} {z : Int} (ha : a < 80) (hj : j < 1000000) (h9 : Nat.ble (k_H0.1.get a).1 2 = true) (hv : (k_H0.1.get a).2.2.2.get j = .inl z) (hx : x < n) (hr : r x = z) (hz : (Int32.ofInt z).toInt = z) : x_m x_EE k_τ r n h (([], (a : Int)), a, j, (1, 0, ([(x, 1)], 0))) := by
  have := Nat.le_of_ble_eq_true h9
  obtain ⟨d, hd, -, -, -, d4⟩ := hH.2.2 a (by omega)
  obtain ⟨w, h1, h2⟩ := d4 j (by rw [hv]; show (1 : Nat) ≠ 0; decide)
  rw [hv] at h2
  obtain ⟨-, rfl⟩ := (show s_I z ∧ w = .int (Int32.ofInt z) from h2)
  refine x_m.mkp q_wl_nil (show j < 1000001 by omega) ⟨a, d, by simp [q_e, q_ev], k_τ_at ha, hd, ?_⟩
  rw [if_neg (show ¬ j = x_len by unfold x_len; omega)]
  exact ⟨_, h1, q_v_wl hx, _, rfl, by rw [g_v, hr]; exact hz⟩
theorem p_law_ok : p_Law := by
  intro xs hl
  obtain ⟨ls, h, ⟨-, hH, hL, -⟩, hW⟩ := k_con_ok hl
  have hx := k_x_H hl hH
  obtain ⟨r, hr⟩ : ∃ r : Nat → Int, r = fun k => if k = 1 then (xs.length : Int) else if k = 5 ∨ k = 6 then -1 else 0 := ⟨_, rfl⟩
  have r0 : r 0 = 0 := by rw [hr]; rfl
  have r1 : r 1 = xs.length := by rw [hr]; rfl
  have r2 : r 2 = 0 := by rw [hr]; rfl
  have r3 : r 3 = 0 := by rw [hr]; rfl
  have r4 : r 4 = 0 := by rw [hr]; rfl
  have r5 : r 5 = -1 := by rw [hr]; rfl
  have r6 : r 6 = -1 := by rw [hr]; rfl
  have hO : x_O x_EE k_τ r h h ls [] (x_hd lwT0) := by
    refine ⟨x_wF_ok (show x_wF 7 lwT0.2.2.1 = true by decide +kernel), ⟨g_io (by omega) (g_io (by omega) (g_io (by omega) (g_io (by omega) (g_io (by omega) (g_io (by omega) (g_io (by omega) g_io0)))))), g_c (by simp only [q_e, q_ev]; omega) g_n, g_n⟩, ?_, trivial, ?_, g_wl rfl, ?_, g_wl rfl, ?_⟩
    · intro i a hi _
      match i, hi with
      | 0, hi =>
        cases hi
        obtain ⟨v, h1, h2⟩ := hL 0 _ rfl (by decide)
        exact ⟨v, h1, q_wl_nil, 0, h2, by simp [q_e, q_ev], k_τ_at (by decide)⟩
      | 1, hi =>
        cases hi
        obtain ⟨v, h1, h2⟩ := hL 1 _ rfl (by decide)
        exact ⟨v, h1, q_wl_nil, 2, h2, by simp [q_e, q_ev], k_τ_at (by decide)⟩
      | 2, hi =>
        cases hi
        obtain ⟨v, h1, h2⟩ := hL 2 _ rfl (by decide)
        exact ⟨v, h1, q_wl_nil, 64, h2, by simp [q_e, q_ev], k_τ_at (by decide)⟩
      | 3, hi =>
        cases hi
        obtain ⟨v, h1, h2⟩ := hL 3 _ rfl (by decide)
        obtain ⟨-, rfl⟩ := (show s_I 0 ∧ v = .int (Int32.ofInt 0) from h2)
        exact ⟨_, h1, g_wl rfl, 0, rfl, by rw [g_v, r0]; rfl⟩
      | i + 4, hi => cases hi
    · refine g_c (k_ml (a := 1) (m := 22) hH (by decide) rfl rfl) (g_c (k_ml (a := 79) (m := 272) hH (by decide) rfl rfl) (g_c ?_ (g_c (k_m0 (a := 43) (j := 1) (x := 2) hH (by decide) (by decide) rfl rfl (by decide) r2) (g_c (k_m0 (a := 64) (j := 4) (x := 2) hH (by decide) (by decide) rfl rfl (by decide) r2) (g_c (k_m0 (a := 3) (j := 5) (x := 3) hH (by decide) (by decide) rfl rfl (by decide) r3) (g_c (k_m0 (a := 65) (j := 1) (x := 3) hH (by decide) (by decide) rfl rfl (by decide) r3) (g_c (k_m0 (a := 20) (j := 5) (x := 4) hH (by decide) (by decide) rfl rfl (by decide) r4) (g_c (k_m0 (a := 66) (j := 1) (x := 4) hH (by decide) (by decide) rfl rfl (by decide) r4) (g_c (k_mz (a := 43) (j := 2) (x := 5) (z := -1) hH (by decide) (by decide) rfl rfl (by decide) r5 (by decide)) (g_c (k_mz (a := 64) (j := 5) (x := 5) (z := -1) hH (by decide) (by decide) rfl rfl (by decide) r5 (by decide)) (g_c (k_mz (a := 43) (j := 3) (x := 6) (z := -1) hH (by decide) (by decide) rfl rfl (by decide) r6 (by decide)) (g_c (k_mz (a := 64) (j := 6) (x := 6) (z := -1) hH (by decide) (by decide) rfl rfl (by decide) r6 (by decide)) (g_c (k_al22 hH) (g_c (k_mw (j := 0) (w := 469853041779) hH (by decide) rfl (by decide +kernel)) (g_c (k_mw (j := 1) (w := 495622843507) hH (by decide) rfl (by decide +kernel)) (g_c (k_mw (j := 2) (w := 1919906931) hH (by decide) rfl (by decide +kernel)) (g_c (k_mw (j := 3) (w := 1886350948) hH (by decide) rfl (by decide +kernel)) (g_c (k_mw (j := 4) (w := 495689623668) hH (by decide) rfl (by decide +kernel)) (g_c (k_mw (j := 5) (w := 7561591) hH (by decide) rfl (by decide +kernel)) (g_c (k_mw (j := 6) (w := 427121668979) hH (by decide) rfl (by decide +kernel)) (g_c (k_mw (j := 7) (w := 1936026732) hH (by decide) rfl (by decide +kernel)) (g_c (k_mw (j := 8) (w := 495874892151) hH (by decide) rfl (by decide +kernel)) (g_c (k_mw (j := 9) (w := 6578553) hH (by decide) rfl (by decide +kernel)) (g_c (k_mw (j := 10) (w := 1751474548) hH (by decide) rfl (by decide +kernel)) (g_c (k_mw (j := 11) (w := 1936292453) hH (by decide) rfl (by decide +kernel)) (g_c (k_mw (j := 12) (w := 120282378691940) hH (by decide) rfl (by decide +kernel)) (g_c (k_mw (j := 13) (w := 1701078885) hH (by decide) rfl (by decide +kernel)) (g_c (k_mw (j := 14) (w := 126896543659123) hH (by decide) rfl (by decide +kernel)) (g_c (k_mw (j := 15) (w := 461330343027) hH (by decide) rfl (by decide +kernel)) (g_c (k_mw (j := 16) (w := 25209) hH (by decide) rfl (by decide +kernel)) (g_c (k_mw (j := 17) (w := 24948) hH (by decide) rfl (by decide +kernel)) (g_c (k_mw (j := 18) (w := 1684366704) hH (by decide) rfl (by decide +kernel)) (g_c (k_mw (j := 19) (w := 29807) hH (by decide) rfl (by decide +kernel)) (g_c (k_mw (j := 20) (w := 7238760) hH (by decide) rfl (by decide +kernel)) (g_c (k_mw (j := 21) (w := 28518) hH (by decide) rfl (by decide +kernel)) (g_n))))))))))))))))))))))))))))))))))))
      refine x_m.mkp q_wl_nil (by decide) ⟨0, _, by simp [q_e, q_ev], k_τ_at (by decide), hH.2.1.2.2, ?_⟩
      rw [if_pos (show 1000000 = x_len from rfl)]
      refine ⟨g_wl rfl, rfl, ?_⟩
      show ((s_scr (k_θ xs)).length : Int) = q_e r ([(1, 1)], 0)
      rw [g_v, r1, k_scr hl, List.length_map]
    · show (h.length : Int) ≤ h.length + q_e r ([(0, 1)], 0)
      rw [g_v, r0]; omega
    · show (p_sl h : Int) ≤ p_sl h + q_e r ([(0, 282)], 0)
      simp only [q_e, q_ev, r0]; omega
  have hw := x_loop_ok (τ := k_τ) (r := r) (h := h) (C := lwC) x_EE_EO x_EE_KO lw_D lw_Y lw_U lw_G 8000 lwT0 List.mem_cons_self k_τ r h ls [] (g_J0 hx _) hO (fun _ _ => rfl) (by show 0 ≤ q_e r ([(0, -1), (1, 1)], 1); simp only [q_e, q_ev, r0, r1]; omega) (by show q_e r ([(0, -1), (1, 1)], 1) < _; simp only [q_e, q_ev, r0, r1]; omega)
  obtain ⟨n, v, h2, g1, g2⟩ := hW _ (hw.mono (show lwC.2.2.2.2.2.2.1 ≤ 100 by decide) (fun _ _ q => q))
  obtain ⟨τ', r', -, q, hq, a1, a2, -, -, a3, -⟩ := g2
  have hq : q = (0, ([], [], []), some (1, 0, ([], 1)), [], 3584, 1010688) := List.mem_singleton.mp hq
  subst hq
  have ev : v = some (.int 1) := by
    cases v with
    | none => exact a3.elim
    | some v =>
      obtain ⟨-, x, rfl, hx1⟩ := a3
      have hx1 : x.toInt = q_e r' ([], 1) := hx1
      have : x.toInt = 1 := by rw [hx1]; simp [q_e, q_ev]
      rw [show x = 1 from Int32.toInt_inj.mp this]
  subst ev
  have b1 : h.length = 80 := hH.1
  have b2 : p_sl h ≤ 21366 := hH.2.1.1
  have a1 : h2.length ≤ h.length + 3584 := a1
  have a2 : p_sl h2 ≤ p_sl h + 1010688 := a2
  exact ⟨n, 100, h2, by decide, g1, by omega, by omega⟩


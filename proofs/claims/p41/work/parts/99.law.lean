/-! The law -/
theorem k_at {xs : List Int32} {h : p_H} (hH : s_hr (k_θ xs) k_H0 h) {a j : Nat} (h9 : Nat.ble (k_H0.1.get a).1 2 = true) (hj : (k_H0.1.get a).2.2.2.get j = .inl 0) : ∃ d, h[a]? = some d ∧ d.2.2[j]? = some (.int 0) := by
  have := Nat.le_of_ble_eq_true h9
  obtain ⟨d, hd, -, -, -, d4⟩ := hH.2.2 a (by omega)
  obtain ⟨w, h1, h2⟩ := d4 j (by rw [hj]; show (1 : Nat) ≠ 0; decide)
  rw [hj] at h2
  obtain ⟨-, rfl⟩ := (show s_I 0 ∧ w = .int (Int32.ofInt 0) from h2)
  exact ⟨d, hd, h1⟩
theorem k_len {xs : List Int32} {h : p_H} (hH : s_hr (k_θ xs) k_H0 h) {a n : Nat} (h9 : Nat.ble (k_H0.1.get a).1 2 = true) (hn : (k_H0.1.get a).2.2.1 = n) : ∃ d, h[a]? = some d ∧ d.2.2.length = n := by
  have := Nat.le_of_ble_eq_true h9
  obtain ⟨d, hd, -, -, d3, -⟩ := hH.2.2 a (by omega)
  exact ⟨d, hd, by rw [d3, hn]⟩
theorem k_τ_at {a : Nat} (ha : a < 80) : k_τ a = some a := by simp only [k_τ]; rw [if_pos ha]
/-- a place that is 0 at the start -/
theorem k_m0 {xs : List Int32} {h : p_H} (hH : s_hr (k_θ xs) k_H0 h) {r : Nat → Int} {n a j x : Nat} (ha : a < 80) (hj : j < 1000000) (h9 : Nat.ble (k_H0.1.get a).1 2 = true) (hv : (k_H0.1.get a).2.2.2.get j = .inl 0) (hx : x < n) (hr : r x = 0) : x_m x_EE k_τ r n h (([], (a : Int)), a, j, (1, 0, ([(x, 1)], 0))) := by
  obtain ⟨d, hd, h1⟩ := k_at hH h9 hv
  refine x_m.mkp q_wl_nil (show j < 1000001 by omega) ⟨a, d, by simp [q_e, q_ev], k_τ_at ha, hd, ?_⟩
  rw [if_neg (show ¬ j = x_len by unfold x_len; omega)]
  exact ⟨.int 0, h1, q_v_wl hx, 0, rfl, by rw [g_v, hr]; rfl⟩
theorem k_ml {xs : List Int32} {h : p_H} (hH : s_hr (k_θ xs) k_H0 h) {r : Nat → Int} {n a m : Nat} (ha : a < 80) (h9 : Nat.ble (k_H0.1.get a).1 2 = true) (hn : (k_H0.1.get a).2.2.1 = m) : x_m x_EE k_τ r n h (([], (a : Int)), a, 1000000, (1, 0, ([], (m : Int)))) := by
  obtain ⟨d, hd, h1⟩ := k_len hH h9 hn
  refine x_m.mkp q_wl_nil (by show 1000000 < 1000001; omega) ⟨a, d, by simp [q_e, q_ev], k_τ_at ha, hd, ?_⟩
  rw [if_pos (show 1000000 = x_len from rfl)]
  exact ⟨q_wl_nil, rfl, by simp [q_e, q_ev, h1]⟩
theorem k_z {xs : List Int32} {h : p_H} (hH : s_hr (k_θ xs) k_H0 h) {a j : Nat} {d : p_C} (hd : h[a]? = some d) (h9 : Nat.ble (k_H0.1.get a).1 2 = true) (hj : (k_H0.1.get a).2.2.2.get j = .inl 0) : g_at d.2.2 j = 0 := by
  obtain ⟨d', h1, h2⟩ := k_at hH h9 hj
  have := Option.some.inj (h1.symm.trans hd)
  subst this
  rw [g_at_int h2]; rfl
theorem k_al15 {xs : List Int32} {h : p_H} (hH : s_hr (k_θ xs) k_H0 h) {r : Nat → Int} {n : Nat} : x_m x_EE k_τ r n h (([], 0), 64, 1000016, (1, 0, ([], 1))) := by
  have h80 : 80 ≤ h.length := by rw [show h.length = 80 from hH.1]; exact Nat.le_refl _
  obtain ⟨ca, ha⟩ := a_cell (a := 17) (by decide) h80
  obtain ⟨cb, hb⟩ := a_cell (a := 65) (by decide) h80
  refine a_mk15 h80 ha hb (fun k hk j hj => ?_)
  have e : k = 0 ∨ k = 1 ∨ k = 2 ∨ k = 3 ∨ k = 4 ∨ k = 5 ∨ k = 6 ∨ k = 7 := by omega
  have e2 : j = 0 ∨ j = 1 := by omega
  rcases e with rfl | rfl | rfl | rfl | rfl | rfl | rfl | rfl
  · rcases e2 with rfl | rfl
    · rw [k_z hH ha (j := 4 * 0 + 0) (by decide) rfl, k_z hH hb (j := 339 + 2 * 0 + 0) (by decide) rfl]; rfl
    · rw [k_z hH ha (j := 4 * 0 + 1) (by decide) rfl, k_z hH hb (j := 339 + 2 * 0 + 1) (by decide) rfl]; rfl
  · rcases e2 with rfl | rfl
    · rw [k_z hH ha (j := 4 * 1 + 0) (by decide) rfl, k_z hH hb (j := 339 + 2 * 1 + 0) (by decide) rfl]; rfl
    · rw [k_z hH ha (j := 4 * 1 + 1) (by decide) rfl, k_z hH hb (j := 339 + 2 * 1 + 1) (by decide) rfl]; rfl
  · rcases e2 with rfl | rfl
    · rw [k_z hH ha (j := 4 * 2 + 0) (by decide) rfl, k_z hH hb (j := 339 + 2 * 2 + 0) (by decide) rfl]; rfl
    · rw [k_z hH ha (j := 4 * 2 + 1) (by decide) rfl, k_z hH hb (j := 339 + 2 * 2 + 1) (by decide) rfl]; rfl
  · rcases e2 with rfl | rfl
    · rw [k_z hH ha (j := 4 * 3 + 0) (by decide) rfl, k_z hH hb (j := 339 + 2 * 3 + 0) (by decide) rfl]; rfl
    · rw [k_z hH ha (j := 4 * 3 + 1) (by decide) rfl, k_z hH hb (j := 339 + 2 * 3 + 1) (by decide) rfl]; rfl
  · rcases e2 with rfl | rfl
    · rw [k_z hH ha (j := 4 * 4 + 0) (by decide) rfl, k_z hH hb (j := 339 + 2 * 4 + 0) (by decide) rfl]; rfl
    · rw [k_z hH ha (j := 4 * 4 + 1) (by decide) rfl, k_z hH hb (j := 339 + 2 * 4 + 1) (by decide) rfl]; rfl
  · rcases e2 with rfl | rfl
    · rw [k_z hH ha (j := 4 * 5 + 0) (by decide) rfl, k_z hH hb (j := 339 + 2 * 5 + 0) (by decide) rfl]; rfl
    · rw [k_z hH ha (j := 4 * 5 + 1) (by decide) rfl, k_z hH hb (j := 339 + 2 * 5 + 1) (by decide) rfl]; rfl
  · rcases e2 with rfl | rfl
    · rw [k_z hH ha (j := 4 * 6 + 0) (by decide) rfl, k_z hH hb (j := 339 + 2 * 6 + 0) (by decide) rfl]; rfl
    · rw [k_z hH ha (j := 4 * 6 + 1) (by decide) rfl, k_z hH hb (j := 339 + 2 * 6 + 1) (by decide) rfl]; rfl
  · rcases e2 with rfl | rfl
    · rw [k_z hH ha (j := 4 * 7 + 0) (by decide) rfl, k_z hH hb (j := 339 + 2 * 7 + 0) (by decide) rfl]; rfl
    · rw [k_z hH ha (j := 4 * 7 + 1) (by decide) rfl, k_z hH hb (j := 339 + 2 * 7 + 1) (by decide) rfl]; rfl
theorem k_al16 {xs : List Int32} {h : p_H} (hH : s_hr (k_θ xs) k_H0 h) {r : Nat → Int} {n : Nat} : x_m x_EE k_τ r n h (([], 0), 64, 1000017, (1, 0, ([], 1))) := by
  have h80 : 80 ≤ h.length := by rw [show h.length = 80 from hH.1]; exact Nat.le_refl _
  obtain ⟨ca, ha⟩ := a_cell (a := 34) (by decide) h80
  obtain ⟨cb, hb⟩ := a_cell (a := 66) (by decide) h80
  refine a_mk16 h80 ha hb (fun k hk j hj => ?_)
  have e : k = 0 ∨ k = 1 ∨ k = 2 ∨ k = 3 ∨ k = 4 ∨ k = 5 ∨ k = 6 ∨ k = 7 := by omega
  have e2 : j = 0 ∨ j = 1 := by omega
  rcases e with rfl | rfl | rfl | rfl | rfl | rfl | rfl | rfl
  · rcases e2 with rfl | rfl
    · rw [k_z hH ha (j := 4 * 0 + 0) (by decide) rfl, k_z hH hb (j := 339 + 2 * 0 + 0) (by decide) rfl]; rfl
    · rw [k_z hH ha (j := 4 * 0 + 1) (by decide) rfl, k_z hH hb (j := 339 + 2 * 0 + 1) (by decide) rfl]; rfl
  · rcases e2 with rfl | rfl
    · rw [k_z hH ha (j := 4 * 1 + 0) (by decide) rfl, k_z hH hb (j := 339 + 2 * 1 + 0) (by decide) rfl]; rfl
    · rw [k_z hH ha (j := 4 * 1 + 1) (by decide) rfl, k_z hH hb (j := 339 + 2 * 1 + 1) (by decide) rfl]; rfl
  · rcases e2 with rfl | rfl
    · rw [k_z hH ha (j := 4 * 2 + 0) (by decide) rfl, k_z hH hb (j := 339 + 2 * 2 + 0) (by decide) rfl]; rfl
    · rw [k_z hH ha (j := 4 * 2 + 1) (by decide) rfl, k_z hH hb (j := 339 + 2 * 2 + 1) (by decide) rfl]; rfl
  · rcases e2 with rfl | rfl
    · rw [k_z hH ha (j := 4 * 3 + 0) (by decide) rfl, k_z hH hb (j := 339 + 2 * 3 + 0) (by decide) rfl]; rfl
    · rw [k_z hH ha (j := 4 * 3 + 1) (by decide) rfl, k_z hH hb (j := 339 + 2 * 3 + 1) (by decide) rfl]; rfl
  · rcases e2 with rfl | rfl
    · rw [k_z hH ha (j := 4 * 4 + 0) (by decide) rfl, k_z hH hb (j := 339 + 2 * 4 + 0) (by decide) rfl]; rfl
    · rw [k_z hH ha (j := 4 * 4 + 1) (by decide) rfl, k_z hH hb (j := 339 + 2 * 4 + 1) (by decide) rfl]; rfl
  · rcases e2 with rfl | rfl
    · rw [k_z hH ha (j := 4 * 5 + 0) (by decide) rfl, k_z hH hb (j := 339 + 2 * 5 + 0) (by decide) rfl]; rfl
    · rw [k_z hH ha (j := 4 * 5 + 1) (by decide) rfl, k_z hH hb (j := 339 + 2 * 5 + 1) (by decide) rfl]; rfl
  · rcases e2 with rfl | rfl
    · rw [k_z hH ha (j := 4 * 6 + 0) (by decide) rfl, k_z hH hb (j := 339 + 2 * 6 + 0) (by decide) rfl]; rfl
    · rw [k_z hH ha (j := 4 * 6 + 1) (by decide) rfl, k_z hH hb (j := 339 + 2 * 6 + 1) (by decide) rfl]; rfl
  · rcases e2 with rfl | rfl
    · rw [k_z hH ha (j := 4 * 7 + 0) (by decide) rfl, k_z hH hb (j := 339 + 2 * 7 + 0) (by decide) rfl]; rfl
    · rw [k_z hH ha (j := 4 * 7 + 1) (by decide) rfl, k_z hH hb (j := 339 + 2 * 7 + 1) (by decide) rfl]; rfl
theorem p_law_ok : p_Law := by
  intro xs hl
  obtain ⟨ls, h, ⟨-, hH, hL, -⟩, hW⟩ := k_con_ok hl
  have hx := k_x_H hl hH
  obtain ⟨r, hr⟩ : ∃ r : Nat → Int, r = fun k => if k = 1 then (xs.length : Int) else 0 := ⟨_, rfl⟩
  have r0 : r 0 = 0 := by rw [hr]; rfl
  have r1 : r 1 = xs.length := by rw [hr]; rfl
  have r2 : r 2 = 0 := by rw [hr]; rfl
  have r3 : r 3 = 0 := by rw [hr]; rfl
  have hO : x_O x_EE k_τ r h h ls [] (x_hd lwT0) := by
    refine ⟨x_wF_ok (show x_wF 4 lwT0.2.2.1 = true by decide +kernel), ⟨g_io (by omega) (g_io (by omega) (g_io (by omega) (g_io (by omega) g_io0))), g_c (by simp only [q_e, q_ev]; omega) g_n, g_n⟩, ?_, trivial, ?_, g_wl rfl, ?_, g_wl rfl, ?_⟩
    · intro i a hi _
      match i, hi with
      | 0, hi =>
        cases hi
        obtain ⟨v, h1, h2⟩ := hL 0 _ rfl (by decide)
        exact ⟨v, h1, q_wl_nil, 0, h2, by simp [q_e, q_ev], k_τ_at (by decide)⟩
      | 1, hi =>
        cases hi
        obtain ⟨v, h1, h2⟩ := hL 1 _ rfl (by decide)
        exact ⟨v, h1, q_wl_nil, 2, h2, by simp [q_e, q_ev], k_τ_at (by decide)⟩
      | 2, hi =>
        cases hi
        obtain ⟨v, h1, h2⟩ := hL 2 _ rfl (by decide)
        exact ⟨v, h1, q_wl_nil, 64, h2, by simp [q_e, q_ev], k_τ_at (by decide)⟩
      | 3, hi =>
        cases hi
        obtain ⟨v, h1, h2⟩ := hL 3 _ rfl (by decide)
        obtain ⟨-, rfl⟩ := (show s_I 0 ∧ v = .int (Int32.ofInt 0) from h2)
        exact ⟨_, h1, g_wl rfl, 0, rfl, by rw [g_v, r0]; rfl⟩
      | i + 4, hi => cases hi
    · refine g_c (k_ml (a := 1) (m := 22) hH (by decide) rfl rfl) (g_c (k_ml (a := 79) (m := 272) hH (by decide) rfl rfl) (g_c ?_ (g_c (k_m0 (a := 16) (j := 2) (x := 2) hH (by decide) (by decide) rfl rfl (by decide) r2) (g_c (k_m0 (a := 65) (j := 7) (x := 2) hH (by decide) (by decide) rfl rfl (by decide) r2) (g_c (k_m0 (a := 33) (j := 2) (x := 3) hH (by decide) (by decide) rfl rfl (by decide) r3) (g_c (k_m0 (a := 66) (j := 7) (x := 3) hH (by decide) (by decide) rfl rfl (by decide) r3) (g_c (k_al15 hH) (g_c (k_al16 hH) g_n))))))))
      refine x_m.mkp q_wl_nil (by decide) ⟨0, _, by simp [q_e, q_ev], k_τ_at (by decide), hH.2.1.2.2, ?_⟩
      rw [if_pos (show 1000000 = x_len from rfl)]
      refine ⟨g_wl rfl, rfl, ?_⟩
      show ((s_scr (k_θ xs)).length : Int) = q_e r ([(1, 1)], 0)
      rw [g_v, r1, k_scr hl, List.length_map]
    · show (h.length : Int) ≤ h.length + q_e r ([(0, 1)], 0)
      rw [g_v, r0]; omega
    · show (p_sl h : Int) ≤ p_sl h + q_e r ([(0, 282)], 0)
      simp only [q_e, q_ev, r0]; omega
  have hw := x_loop_ok (τ := k_τ) (r := r) (h := h) (C := lwC) x_EE_EO x_EE_KO lw_D lw_Y lw_U lw_G 8000 lwT0 List.mem_cons_self k_τ r h ls [] (g_J0 hx _) hO (fun _ _ => rfl) (by show 0 ≤ q_e r ([(0, -1), (1, 1)], 1); simp only [q_e, q_ev, r0, r1]; omega) (by show q_e r ([(0, -1), (1, 1)], 1) < _; simp only [q_e, q_ev, r0, r1]; omega)
  obtain ⟨n, v, h2, g1, g2⟩ := hW _ (hw.mono (show lwC.2.2.2.2.2.2.1 ≤ 100 by decide) (fun _ _ q => q))
  obtain ⟨τ', r', -, q, hq, a1, a2, -, -, a3, -⟩ := g2
  have hq : q = (0, ([], [], []), some (1, 0, ([], 1)), [], 3584, 1010688) := List.mem_singleton.mp hq
  subst hq
  have ev : v = some (.int 1) := by
    cases v with
    | none => exact a3.elim
    | some v =>
      obtain ⟨-, x, rfl, hx1⟩ := a3
      have hx1 : x.toInt = q_e r' ([], 1) := hx1
      have : x.toInt = 1 := by rw [hx1]; simp [q_e, q_ev]
      rw [show x = 1 from Int32.toInt_inj.mp this]
  subst ev
  have b1 : h.length = 80 := hH.1
  have b2 : p_sl h ≤ 21366 := hH.2.1.1
  have a1 : h2.length ≤ h.length + 3584 := a1
  have a2 : p_sl h2 ≤ p_sl h + 1010688 := a2
  exact ⟨n, 100, h2, by decide, g1, by omega, by omega⟩


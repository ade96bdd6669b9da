def v_pl (f : Nat → Int) (p : Nat) (l : List Int) : Nat → Int := fun j => if p ≤ j ∧ j < p + l.length then l.getD (j - p) 0 else f j
theorem v_pl_o {f : Nat → Int} {p j : Nat} {l : List Int} (h : j < p ∨ p + l.length ≤ j) : v_pl f p l j = f j := by unfold v_pl; rw [if_neg (by omega)]
theorem v_pl_i {f : Nat → Int} {p k : Nat} {l : List Int} (h : k < l.length) : v_pl f p l (p + k) = l.getD k 0 := by unfold v_pl; rw [if_pos (by omega), show p + k - p = k by omega]
theorem v_pl4 {f : Nat → Int} {p : Nat} {a b c d : Int} : d_u (d_u (d_u (d_u f p a) (p + 1) b) (p + 2) c) (p + 3) d = v_pl f p [a, b, c, d] := by
  funext j
  by_cases h3 : j = p + 3
  · subst h3; rw [d_u_t]; exact (v_pl_i (l := [a, b, c, d]) (k := 3) (by show 3 < 4; decide)).symm
  rw [d_u_n h3]
  by_cases h2 : j = p + 2
  · subst h2; rw [d_u_t]; exact (v_pl_i (l := [a, b, c, d]) (k := 2) (by show 2 < 4; decide)).symm
  rw [d_u_n h2]
  by_cases h1 : j = p + 1
  · subst h1; rw [d_u_t]; exact (v_pl_i (l := [a, b, c, d]) (k := 1) (by show 1 < 4; decide)).symm
  rw [d_u_n h1]
  by_cases h0 : j = p
  · subst h0; rw [d_u_t]; exact (v_pl_i (l := [a, b, c, d]) (k := 0) (by show 0 < 4; decide)).symm
  rw [d_u_n h0, v_pl_o (by show j < p ∨ p + 4 ≤ j; omega)]
theorem v_pl3 {f : Nat → Int} {p : Nat} {a b c : Int} : d_u (d_u (d_u f p a) (p + 1) b) (p + 2) c = v_pl f p [a, b, c] := by
  funext j
  by_cases h2 : j = p + 2
  · subst h2; rw [d_u_t]; exact (v_pl_i (l := [a, b, c]) (k := 2) (by show 2 < 3; decide)).symm
  rw [d_u_n h2]
  by_cases h1 : j = p + 1
  · subst h1; rw [d_u_t]; exact (v_pl_i (l := [a, b, c]) (k := 1) (by show 1 < 3; decide)).symm
  rw [d_u_n h1]
  by_cases h0 : j = p
  · subst h0; rw [d_u_t]; exact (v_pl_i (l := [a, b, c]) (k := 0) (by show 0 < 3; decide)).symm
  rw [d_u_n h0, v_pl_o (by show j < p ∨ p + 3 ≤ j; omega)]
theorem v_pl2 {f : Nat → Int} {p : Nat} {a b : Int} : d_u (d_u f p a) (p + 1) b = v_pl f p [a, b] := by
  funext j
  by_cases h1 : j = p + 1
  · subst h1; rw [d_u_t]; exact (v_pl_i (l := [a, b]) (k := 1) (by show 1 < 2; decide)).symm
  rw [d_u_n h1]
  by_cases h0 : j = p
  · subst h0; rw [d_u_t]; exact (v_pl_i (l := [a, b]) (k := 0) (by show 0 < 2; decide)).symm
  rw [d_u_n h0, v_pl_o (by show j < p ∨ p + 2 ≤ j; omega)]
theorem v_pl1 {f : Nat → Int} {p : Nat} {a : Int} : d_u f p a = v_pl f p [a] := by
  funext j
  by_cases h0 : j = p
  · subst h0; rw [d_u_t]; exact (v_pl_i (l := [a]) (k := 0) (by show 0 < 1; decide)).symm
  rw [d_u_n h0, v_pl_o (by show j < p ∨ p + 1 ≤ j; omega)]
theorem v_d1 {s : d_S} {a : Nat} {x0 : Int} {p : Nat} : d_si s a p x0 = d_st s a (v_pl (s.1 a) p [x0]) := by
  refine Prod.ext ?_ rfl
  funext b
  by_cases q : b = a
  · subst q; rw [d_si_i, d_st_i]; exact v_pl1
  · rw [d_si_n q, d_st_n q]
theorem v_d2 {s : d_S} {a : Nat} {x0 x1 : Int} {p : Nat} : d_si (d_si s a p x0) a (p + 1) x1 = d_st s a (v_pl (s.1 a) p [x0, x1]) := by
  refine Prod.ext ?_ rfl
  funext b
  by_cases q : b = a
  · subst q; rw [d_si_i, d_si_i, d_st_i]; exact v_pl2
  · rw [d_si_n q, d_si_n q, d_st_n q]
theorem v_d3 {s : d_S} {a : Nat} {x0 x1 x2 : Int} {p : Nat} : d_si (d_si (d_si s a p x0) a (p + 1) x1) a (p + 2) x2 = d_st s a (v_pl (s.1 a) p [x0, x1, x2]) := by
  refine Prod.ext ?_ rfl
  funext b
  by_cases q : b = a
  · subst q; rw [d_si_i, d_si_i, d_si_i, d_st_i]; exact v_pl3
  · rw [d_si_n q, d_si_n q, d_si_n q, d_st_n q]
theorem v_d4 {s : d_S} {a : Nat} {x0 x1 x2 x3 : Int} {p : Nat} : d_si (d_si (d_si (d_si s a p x0) a (p + 1) x1) a (p + 2) x2) a (p + 3) x3 = d_st s a (v_pl (s.1 a) p [x0, x1, x2, x3]) := by
  refine Prod.ext ?_ rfl
  funext b
  by_cases q : b = a
  · subst q; rw [d_si_i, d_si_i, d_si_i, d_si_i, d_st_i]; exact v_pl4
  · rw [d_si_n q, d_si_n q, d_si_n q, d_si_n q, d_st_n q]
section V18
variable {s s2 : d_S} {t : Nat → Option p_C}
theorem v_R.told (h : v_R t s) (fo : ∀ a, (a < 10 ∨ 19 < a) → a ≠ 65 → s2.1 a = s.1 a) (ep : s2.2 = s.2) (eA : ∀ k, (k < 4 ∨ 9 ≤ k ∧ k < 284 ∨ 387 ≤ k) → s2.1 65 k = s.1 65 k) (hWt : v_Wt s2.1 0 (s2.1 65)) (hIt : v_It (s2.1 65)) : v_R t s2 := by
  obtain ⟨hW, hI, hW2, hI2, h1, hQ, hX, hN, hr⟩ := h
  have ew : v_wi (s2.1 65) = v_wi (s.1 65) := by unfold v_wi; rw [eA 16 (by decide)]
  have eh : v_hi (s2.1 65) = v_hi (s.1 65) := by unfold v_hi; rw [eA 17 (by decide)]
  have eu : v_u (s2.1 65) = v_u (s.1 65) := by unfold v_u; rw [eA 14 (by decide)]
  have ev : v_v (s2.1 65) = v_v (s.1 65) := by unfold v_v; rw [eA 15 (by decide)]
  have e66 : s2.1 66 = s.1 66 := fo 66 (by decide) (by decide)
  refine ⟨⟨hW.1.fr hI.1.2.2.2.2.1.2 (fo 3 (by decide) (by decide)) (fo 4 (by decide) (by decide)) (fun j hj => eA j (by omega)), hW.2.1.fr (fo 6 (by decide) (by decide)) (fo 7 (by decide) (by decide)) (fun j hj => eA j (by omega)), hW.2.2.1.fr (fo 8 (by decide) (by decide)) (fo 9 (by decide) (by decide)) (eA 3 (by decide)) (eA 16 (by decide)) (eA 17 (by decide)) (fun j h1 h2 => eA j (by omega)), hWt⟩, ⟨hI.1.fr (fun j hj => eA j (by omega)), hI.2.1.fr (fun j h1 h2 => eA j (by omega)), hIt, ?_⟩, ?_, by rw [e66]; exact hI2, by rw [e66, eA 1 (by decide)]; exact h1, ?_, hX.fr (eA 1 (by decide)) e66 (fo 67 (by decide) (by decide)) (by rw [ep]) (by rw [ep]), ?_, hr.fr (fo 43 (by decide) (by decide)) (fo 44 (by decide) (by decide)) (fo 64 (by decide) (by decide)) (fo 68 (by decide) (by decide))⟩
  · rw [ew, eh]
    obtain ⟨b0, b1, b3, b4, u, v, b5, b6, b7⟩ := hI.2.2.2
    refine ⟨?_, ?_, ?_, ?_, u, v, ?_, ?_, b7⟩
    · show 0 ≤ s2.1 65 9 ∧ s2.1 65 9 ≤ 999; rw [eA 9 (by decide)]; exact b0
    · show 0 ≤ s2.1 65 10 ∧ s2.1 65 10 ≤ 9; rw [eA 10 (by decide)]; exact b1
    · show 0 ≤ s2.1 65 12 ∧ s2.1 65 12 ≤ 99; rw [eA 12 (by decide)]; exact b3
    · show 0 ≤ s2.1 65 13 ∧ s2.1 65 13 < 30293; rw [eA 13 (by decide)]; exact b4
    · show s2.1 65 14 = _; rw [eA 14 (by decide)]; exact b5
    · show s2.1 65 15 = _; rw [eA 15 (by decide)]; exact b6
  · rw [e66]; exact hW2.fr (fun a h1 h2 => fo a (by omega) (by omega)) hI2
  · rw [eu, ev, ew, eh]; exact hQ.fr (fun a h1 h2 => fo a (by omega) (by omega))
  · rw [fo 49 (by decide) (by decide), fo 71 (by decide) (by decide)]; exact hN
theorem R_by (h : v_R t s) {x : Int} : v_AA t (F_X11_by s x) (fun s1 => F_X12_by s1 x) := by
  have h' := h
  obtain ⟨hW, hI, hW2, hI2, h1, hQ, hX, hN, hr⟩ := h'
  have w5 : s.1 3 5 = s.1 65 1 := hW.1.1.2.2.2.2.1
  obtain ⟨t1, t2, -⟩ := hI.2.2.1
  have hD : ∀ s1 : d_S, s1.1 65 = s.1 65 → F_X12_by s1 x = if -1 ≤ x ∧ x < s.1 65 1 then some (1, d_si s1 65 2 x) else some (0, s1) := by
    intro s1 e
    unfold F_X12_by
    rw [e, d_w_id (by omega) (by omega), P_isIn, d_b_t]
    by_cases q : -1 ≤ x ∧ x < s.1 65 1
    · rw [v_bt (by omega), if_neg (by decide), if_pos q, d_l_t]
    · rw [v_bf (by omega), if_pos rfl, if_neg q]
  have hgood : (-1 ≤ x ∧ x < s.1 65 1) → F_X11_by s x = some (1, d_si s 3 6 x) := by
    intro q
    unfold F_X11_by F_X11_by_j18
    by_cases q1 : x = -1
    · rw [if_pos q1, d_l_t]
    · obtain ⟨r, hr, -⟩ := hX
      obtain ⟨-, b, hb, -⟩ := hr x.toNat (by omega)
      rw [if_neg q1, P_textAt w5 t1, if_pos (by omega), d_b_t, hb, d_l_t]
  have hbad : ¬ (-1 ≤ x ∧ x < s.1 65 1) → F_X11_by s x = some (0, s) := by
    intro q
    unfold F_X11_by
    rw [if_neg (by omega), P_textAt w5 t1, if_neg (by omega), d_b_t]
  by_cases q : -1 ≤ x ∧ x < s.1 65 1
  rotate_left
  · exact v_AA.same h 0 (hbad q) (by show F_X12_by s x = _; rw [hD s rfl, if_neg q])
  have s65 : (d_si s 3 6 x).1 65 = s.1 65 := d_si_n (by decide)
  obtain ⟨s2, hs2⟩ : ∃ z, z = d_si (d_si s 3 6 x) 65 2 x := ⟨_, rfl⟩
  have fo : ∀ a, a ≠ 3 → a ≠ 65 → s2.1 a = s.1 a := fun a h1 h2 => by rw [hs2, d_si_n h2, d_si_n h1]
  have eA : ∀ k, k ≠ 2 → s2.1 65 k = s.1 65 k := fun k hk => by rw [hs2, d_si_i, d_u_n hk, s65]
  have e2 : s2.1 65 2 = x := by rw [hs2, d_si_i, d_u_t]
  have f3 : ∀ k, k ≠ 6 → s2.1 3 k = s.1 3 k := fun k hk => by rw [hs2, d_si_n (by decide), d_si_i, d_u_n hk]
  have f36 : s2.1 3 6 = x := by rw [hs2, d_si_n (by decide), d_si_i, d_u_t]
  have ew : v_wi (s2.1 65) = v_wi (s.1 65) := by unfold v_wi; rw [eA 16 (by decide)]
  have eh : v_hi (s2.1 65) = v_hi (s.1 65) := by unfold v_hi; rw [eA 17 (by decide)]
  have eu : v_u (s2.1 65) = v_u (s.1 65) := by unfold v_u; rw [eA 14 (by decide)]
  have ev : v_v (s2.1 65) = v_v (s.1 65) := by unfold v_v; rw [eA 15 (by decide)]
  have e66 : s2.1 66 = s.1 66 := fo 66 (by decide) (by decide)
  have ep : s2.2 = s.2 := by rw [hs2]; rfl
  obtain ⟨⟨w0, w1, w2, w3, -, -⟩, w4⟩ := hW.1
  refine ⟨1, _, s2, hgood q, by show F_X12_by _ x = _; rw [hD _ s65, if_pos q, hs2], ⟨⟨⟨⟨?_, ?_, ?_, ?_, ?_, ?_⟩, fun n k hn hk => ?_⟩, hW.2.1.fr (fo 6 (by decide) (by decide)) (fo 7 (by decide) (by decide)) (fun j hj => eA j (by omega)), hW.2.2.1.fr (fo 8 (by decide) (by decide)) (fo 9 (by decide) (by decide)) (eA 3 (by decide)) (eA 16 (by decide)) (eA 17 (by decide)) (fun j h1 h2 => eA j (by omega)), hW.2.2.2.fr hI.2.2.1 (fun a h1 h2 => fo a (by omega) (by omega)) (fun j hj => eA j (by omega))⟩, ⟨hI.1.fr (fun j hj => eA j (by omega)), hI.2.1.fr (fun j h1 h2 => eA j (by omega)), ?_, ?_⟩, ?_, by rw [e66]; exact hI2, by rw [e66, eA 1 (by decide)]; exact h1, ?_, hX.fr (eA 1 (by decide)) e66 (fo 67 (by decide) (by decide)) (by rw [ep]) (by rw [ep]), ?_, hr.fr (fo 43 (by decide) (by decide)) (fo 44 (by decide) (by decide)) (fo 64 (by decide) (by decide)) (fo 68 (by decide) (by decide))⟩⟩
  · show s2.1 3 0 = _; rw [f3 0 (by decide), eA 16 (by decide)]; exact w0
  · show s2.1 3 1 = _; rw [f3 1 (by decide), eA 17 (by decide)]; exact w1
  · show s2.1 3 2 = _; rw [f3 2 (by decide), eA 18 (by decide)]; exact w2
  · show s2.1 3 3 = _; rw [f3 3 (by decide), eA 0 (by decide)]; exact w3
  · show s2.1 3 5 = _; rw [f3 5 (by decide), eA 1 (by decide)]; exact w5
  · show s2.1 3 6 = _; rw [f36, e2]
  · show s2.1 4 _ = _
    rw [eA 0 (by decide)] at hn
    rw [fo 4 (by decide) (by decide), eA _ (by omega)]; exact w4 n k hn hk
  · have h2 := hI.2.2.1
    obtain ⟨k1, k2, k4, k5, k6, k7, k8, g4, g5, g6, g7, g8⟩ := h2
    refine ⟨by rw [eA 1 (by decide)]; exact k1, by rw [eA 1 (by decide), e2]; omega, by rw [eA 4 (by decide)]; exact k4, by rw [eA 5 (by decide)]; exact k5, by rw [eA 6 (by decide)]; exact k6, by rw [eA 7 (by decide)]; exact k7, by rw [eA 8 (by decide)]; exact k8, fun j hj => ?_, fun j hj => ?_, fun j hj => ?_, fun j hj => ?_, fun j hj => ?_⟩
    · rw [eA 4 (by decide)] at hj; rw [eA _ (by omega), eA _ (by omega), eA _ (by omega)]; exact g4 j hj
    · rw [eA 5 (by decide)] at hj; rw [eA _ (by omega), eA _ (by omega), eA _ (by omega), eA _ (by omega)]; exact g5 j hj
    · rw [eA 6 (by decide)] at hj; rw [eA _ (by omega)]; exact g6 j hj
    · rw [eA 7 (by decide)] at hj; rw [eA _ (by omega), eA _ (by omega)]; exact g7 j hj
    · rw [eA 8 (by decide)] at hj; rw [eA _ (by omega), eA _ (by omega), eA _ (by omega), eA _ (by omega)]; exact g8 j hj
  · rw [ew, eh]
    obtain ⟨b0, b1, b3, b4, u, v, b5, b6, b7⟩ := hI.2.2.2
    refine ⟨?_, ?_, ?_, ?_, u, v, ?_, ?_, b7⟩
    · show 0 ≤ s2.1 65 9 ∧ s2.1 65 9 ≤ 999; rw [eA 9 (by decide)]; exact b0
    · show 0 ≤ s2.1 65 10 ∧ s2.1 65 10 ≤ 9; rw [eA 10 (by decide)]; exact b1
    · show 0 ≤ s2.1 65 12 ∧ s2.1 65 12 ≤ 99; rw [eA 12 (by decide)]; exact b3
    · show 0 ≤ s2.1 65 13 ∧ s2.1 65 13 < 30293; rw [eA 13 (by decide)]; exact b4
    · show s2.1 65 14 = _; rw [eA 14 (by decide)]; exact b5
    · show s2.1 65 15 = _; rw [eA 15 (by decide)]; exact b6
  · rw [e66]; exact hW2.fr (fun a h1 h2 => fo a (by omega) (by omega)) hI2
  · rw [eu, ev, ew, eh]; exact hQ.fr (fun a h1 h2 => fo a (by omega) (by omega))
  · rw [fo 49 (by decide) (by decide), fo 71 (by decide) (by decide)]; exact hN
theorem R_end (h : v_R t s) {x : Int} : v_AA t (F_X11_end s x) (fun s1 => F_X12_end s1 x) := by
  have h' := h
  obtain ⟨hW, hI, hW2, hI2, h1, hQ, hX, hN, hr⟩ := h'
  obtain ⟨r1, r2, r3, r4, r5⟩ := hr
  by_cases q : 0 ≤ x ∧ x ≤ s.1 64 4
  rotate_left
  · refine v_AA.same h (-1) ?_ ?_
    · unfold F_X11_end; rw [r1, P_within, d_b_t, v_bf q, if_pos rfl]
    · show F_X12_end s x = _; unfold F_X12_end; rw [P_isIn, d_b_t, v_bf q, if_pos rfl]
  obtain ⟨s2, hs2⟩ : ∃ z, z = d_si (d_si s 43 1 x) 64 4 x := ⟨_, rfl⟩
  have fo : ∀ a, a ≠ 43 → a ≠ 64 → s2.1 a = s.1 a := fun a h1 h2 => by rw [hs2, d_si_n h2, d_si_n h1]
  have ep : s2.2 = s.2 := by rw [hs2]; rfl
  have e65 : s2.1 65 = s.1 65 := fo 65 (by decide) (by decide)
  have e66 : s2.1 66 = s.1 66 := fo 66 (by decide) (by decide)
  have f43 : ∀ k, s2.1 43 k = d_u (s.1 43) 1 x k := fun k => by rw [hs2, d_si_n (by decide), d_si_i]
  have f64 : ∀ k, s2.1 64 k = d_u (s.1 64) 4 x k := fun k => by rw [hs2, d_si_i, d_si_n (by decide)]
  refine ⟨x, d_si s 43 1 x, s2, ?_, ?_, ?_⟩
  · unfold F_X11_end; rw [r1, P_within, d_b_t, v_bt q, if_neg (by decide), d_l_t]
  · show F_X12_end _ x = _; unfold F_X12_end; rw [d_si_n (by decide), P_isIn, d_b_t, v_bt q, if_neg (by decide), d_l_t, hs2]
  · unfold v_R
    rw [e65, e66]
    refine ⟨hW.fr (fun a h1 h2 => fo a (by omega) (by omega)) hI, hI, hW2.fr (fun a h1 h2 => fo a (by omega) (by omega)) hI2, hI2, h1, hQ.fr (fun a h1 h2 => fo a (by omega) (by omega)), hX.fr (by rw [e65]) e66 (fo 67 (by decide) (by decide)) (by rw [ep]) (by rw [ep]), ?_, ?_, ?_, ?_, ?_, ?_⟩
    · rw [fo 49 (by decide) (by decide), fo 71 (by decide) (by decide)]; exact hN
    · rw [f43, f64, d_u_t, d_u_t]
    · rw [f64, d_u_t]; omega
    · rw [fo 44 (by decide) (by decide), fo 68 (by decide) (by decide)]; exact r3
    · rw [f43, f64, d_u_n (by decide), d_u_n (by decide)]; exact r4
    · rw [f43, f64, d_u_n (by decide), d_u_n (by decide)]; exact r5
theorem P_add_10 {n : Nat} (hc : s.1 10 2 = n) (hm : s.1 10 0 = 5) (hn : n ≤ 5) {a b c d : Int} : F_X8_add_10 s a b c d = if n < 5 then some (((n + 1 : Nat) : Int), d_si (d_st s 11 (v_pl (s.1 11) (4 * n) [a, b, c, d])) 10 2 ((n + 1 : Nat) : Int)) else some (-2, s) := by
  unfold F_X8_add_10
  rw [hc, hm]
  by_cases q : n < 5
  · have e0 : d_w ((n : Int) * 4) = ((4 * n : Nat) : Int) := by rw [d_w_id (by omega) (by omega)]; omega
    have ek : ∀ k : Int, 0 ≤ k → k < 5 → d_w (((4 * n : Nat) : Int) + k) = ((4 * n : Nat) : Int) + k := fun k h1 h2 => d_w_id (by omega) (by omega)
    have t1 : (((4 * n : Nat) : Int) + 1).toNat = 4 * n + 1 := by omega
    have t2 : (((4 * n : Nat) : Int) + 2).toNat = 4 * n + 2 := by omega
    have t3 : (((4 * n : Nat) : Int) + 3).toNat = 4 * n + 3 := by omega
    rw [if_pos (by omega), e0, if_neg (by omega), ek 4 (by decide) (by decide), if_neg (by omega), if_pos q]
    simp (disch := first | decide | omega) only [d_si_n, hc, e0, ek, d_g_t, d_l_t, Int.toNat_natCast, t1, t2, t3]
    rw [v_d4, d_si_i, d_u_t, d_w_id (by omega) (by omega)]
    rfl
  · rw [if_neg (by omega), if_neg q]
theorem R_order (h : v_R t s) {x1 x2 x3 : Int} : v_AA t (F_X11_order s x1 x2 x3) (fun s1 => F_X12_order s1 x1 x2 x3) := by
  have h' := h
  obtain ⟨hW, hI, hW2, hI2, h1, hQ, hX, hN, hr⟩ := h'
  have hG := hI.G
  have hac := hG.ac
  obtain ⟨⟨m4, m5, m6, m7, m8⟩, ⟨a1, a2⟩, ⟨b1, b2⟩, ⟨c1, c2⟩, ⟨d1, d2⟩, e1, e2⟩ := hW.2.2.2
  have a1 : s.1 10 2 = s.1 65 4 := a1
  have b1 : s.1 12 2 = s.1 65 5 := b1
  have c1 : s.1 14 2 = s.1 65 6 := c1
  have d1 : s.1 16 2 = s.1 65 7 := d1
  have e1 : s.1 18 2 = s.1 65 8 := e1
  obtain ⟨t1, t2, k4, k5, k6, k7, k8, g4, g5, g6, g7, g8⟩ := hI.2.2.1
  obtain ⟨n, hn⟩ : ∃ n : Nat, s.1 65 4 = n := ⟨(s.1 65 4).toNat, by omega⟩
  have hend : ∀ (n' : Nat) (fC fA : Nat → Int), (∀ j, n' ≤ 5 ∧ (j < n' → ∀ i, i < 3 → fC (4 * j + i) = fA (284 + 3 * j + i))) → (∀ j, (j < 284 ∨ 284 + 3 * 5 ≤ j) → fA j = s.1 65 j) → (∀ j, j < n' → (0 ≤ fA (284 + 3 * j) ∧ fA (284 + 3 * j) ≤ 9) ∧ (0 ≤ fA (285 + 3 * j) ∧ fA (285 + 3 * j) ≤ 999) ∧ (1 ≤ fA (286 + 3 * j) ∧ fA (286 + 3 * j) ≤ 99)) → v_R t (d_si (d_st (d_si (d_st s 11 fC) 10 2 (n' : Int)) 65 fA) 65 4 (n' : Int)) := by
    intro n' fC fA hrow hA hb
    obtain ⟨z, hz⟩ : ∃ z, z = d_si (d_st (d_si (d_st s 11 fC) 10 2 (n' : Int)) 65 fA) 65 4 (n' : Int) := ⟨_, rfl⟩
    have fo : ∀ a, a ≠ 10 → a ≠ 11 → a ≠ 65 → z.1 a = s.1 a := fun a h1 h2 h3 => by rw [hz, d_si_n h3, d_st_n h3, d_si_n h1, d_st_n h2]
    have eo : z.1 65 4 = n' := by rw [hz, d_si_i, d_u_t]
    have eA : ∀ j, j ≠ 4 → z.1 65 j = fA j := fun j hj => by rw [hz, d_si_i, d_u_n hj, d_st_i]
    have eB : ∀ j, j ≠ 4 → (j < 284 ∨ 284 + 3 * 5 ≤ j) → z.1 65 j = s.1 65 j := fun j h1 h2 => (eA j h1).trans (hA j h2)
    have ek : ∀ j, z.1 10 j = d_u (s.1 10) 2 (n' : Int) j := fun j => by rw [hz, d_si_n (by decide), d_st_n (by decide), d_si_i, d_st_n (by decide)]
    have er : z.1 11 = fC := by rw [hz, d_si_n (by decide), d_st_n (by decide), d_si_n (by decide), d_st_i]
    rw [← hz]
    have h5 := (hrow 0).1
    refine h.told (fun a h1 h2 => fo a (by omega) (by omega) h2) (by rw [hz]; rfl) (fun j hj => eB j (by omega) (by omega)) ?_ ?_
    · exact ⟨⟨by show z.1 10 0 = _; rw [ek, d_u_n (by decide)]; exact m4, by show z.1 12 0 = _; rw [fo 12 (by decide) (by decide) (by decide)]; exact m5, by show z.1 14 0 = _; rw [fo 14 (by decide) (by decide) (by decide)]; exact m6, by show z.1 16 0 = _; rw [fo 16 (by decide) (by decide) (by decide)]; exact m7, by show z.1 18 0 = _; rw [fo 18 (by decide) (by decide) (by decide)]; exact m8⟩, ⟨by show z.1 10 2 = _; rw [ek, d_u_t, eo], fun j i hj hi => by show z.1 11 (4 * j + i) = _; rw [eo] at hj; rw [er, eA _ (by omega)]; exact (hrow j).2 (by omega) i hi⟩, ⟨by show z.1 12 2 = _; rw [fo 12 (by decide) (by decide) (by decide), eB 5 (by decide) (by omega)]; exact b1, fun j i hj hi => by show z.1 13 (4 * j + i) = _; rw [eB 5 (by decide) (by omega)] at hj; rw [fo 13 (by decide) (by decide) (by decide), eB _ (by omega) (by omega)]; exact b2 j i hj hi⟩, ⟨by show z.1 14 2 = _; rw [fo 14 (by decide) (by decide) (by decide), eB 6 (by decide) (by omega)]; exact c1, fun j hj => by show z.1 15 (4 * j) = _; rw [eB 6 (by decide) (by omega)] at hj; rw [fo 15 (by decide) (by decide) (by decide), eB _ (by omega) (by omega)]; exact c2 j hj⟩, ⟨by show z.1 16 2 = _; rw [fo 16 (by decide) (by decide) (by decide), eB 7 (by decide) (by omega)]; exact d1, fun j i hj hi => by show z.1 17 (4 * j + i) = _; rw [eB 7 (by decide) (by omega)] at hj; rw [fo 17 (by decide) (by decide) (by decide), eB _ (by omega) (by omega)]; exact d2 j i hj hi⟩, ⟨by show z.1 18 2 = _; rw [fo 18 (by decide) (by decide) (by decide), eB 8 (by decide) (by omega)]; exact e1, fun j i hj hi => by show z.1 19 (4 * j + i) = _; rw [eB 8 (by decide) (by omega)] at hj; rw [fo 19 (by decide) (by decide) (by decide), eB _ (by omega) (by omega)]; exact e2 j i hj hi⟩⟩
    · exact ⟨by rw [eB 1 (by decide) (by omega)]; exact t1, by rw [eB 1 (by decide) (by omega), eB 2 (by decide) (by omega)]; exact t2, by rw [eo]; omega, by rw [eB 5 (by decide) (by omega)]; exact k5, by rw [eB 6 (by decide) (by omega)]; exact k6, by rw [eB 7 (by decide) (by omega)]; exact k7, by rw [eB 8 (by decide) (by omega)]; exact k8, fun j hj => by rw [eo] at hj; rw [eA _ (by omega), eA _ (by omega), eA _ (by omega)]; exact hb j (by omega), fun j hj => by rw [eB 5 (by decide) (by omega)] at hj; rw [eB _ (by omega) (by omega), eB _ (by omega) (by omega), eB _ (by omega) (by omega), eB _ (by omega) (by omega)]; exact g5 j hj, fun j hj => by rw [eB 6 (by decide) (by omega)] at hj; rw [eB _ (by omega) (by omega)]; exact g6 j hj, fun j hj => by rw [eB 7 (by decide) (by omega)] at hj; rw [eB _ (by omega) (by omega), eB _ (by omega) (by omega)]; exact g7 j hj, fun j hj => by rw [eB 8 (by decide) (by omega)] at hj; rw [eB _ (by omega) (by omega), eB _ (by omega) (by omega), eB _ (by omega) (by omega), eB _ (by omega) (by omega)]; exact g8 j hj⟩
  by_cases q0 : x1 = -1
  · obtain ⟨s1, hs1⟩ : ∃ z, z = d_si s 10 2 0 := ⟨_, rfl⟩
    refine ⟨0, s1, d_si s1 65 4 0, ?_, ?_, ?_⟩
    · unfold F_X11_order F_X8_none_10; rw [if_pos q0, d_l_t, d_b2_t, hs1]
    · show F_X12_order s1 x1 x2 x3 = _; unfold F_X12_order; rw [if_pos q0, d_l_t]
    · have hz := hend 0 (s.1 11) (s.1 65) (fun j => ⟨by decide, fun hj => absurd hj (Nat.not_lt_zero j)⟩) (fun _ _ => rfl) (fun j hj => absurd hj (Nat.not_lt_zero j))
      have e0 : d_st s 11 (s.1 11) = s := by
        refine Prod.ext ?_ rfl
        funext a
        by_cases q : a = 11
        · subst q; rw [d_st_i]
        · rw [d_st_n q]
      have e1 : d_st (d_si s 10 2 0) 65 (s.1 65) = d_si s 10 2 0 := by
        refine Prod.ext ?_ rfl
        funext a
        by_cases q : a = 65
        · subst q; rw [d_st_i, d_si_n (by decide)]
        · rw [d_st_n q]
      rw [e0] at hz
      have hz : v_R t (d_si (d_st (d_si s 10 2 0) 65 (s.1 65)) 65 4 0) := hz
      rw [e1] at hz
      rw [hs1]; exact hz
  by_cases w0 : 0 ≤ x1 ∧ x1 ≤ 9
  rotate_left
  · refine v_AA.same h (-2) ?_ ?_
    · unfold F_X11_order; rw [if_neg q0, P_within, d_b_t, v_bf w0, if_pos rfl]
    · show F_X12_order s x1 x2 x3 = _; unfold F_X12_order; rw [if_neg q0, P_isIn, d_b_t, v_bf w0, if_pos rfl]
  by_cases w1 : 0 ≤ x2 ∧ x2 ≤ 999
  rotate_left
  · refine v_AA.same h (-2) ?_ ?_
    · unfold F_X11_order; rw [if_neg q0, P_within, d_b_t, v_bt w0, if_neg (by decide), P_within, d_b_t, v_bf w1, if_pos rfl]
    · show F_X12_order s x1 x2 x3 = _; unfold F_X12_order; rw [if_neg q0, P_isIn, d_b_t, v_bt w0, if_neg (by decide), P_isIn, d_b_t, v_bf w1, if_pos rfl]
  by_cases w2 : 1 ≤ x3 ∧ x3 ≤ 99
  rotate_left
  · refine v_AA.same h (-2) ?_ ?_
    · unfold F_X11_order; rw [if_neg q0, P_within, d_b_t, v_bt w0, if_neg (by decide), P_within, d_b_t, v_bt w1, if_neg (by decide), P_within, d_b_t, v_bf w2, if_pos rfl]
    · show F_X12_order s x1 x2 x3 = _; unfold F_X12_order; rw [if_neg q0, P_isIn, d_b_t, v_bt w0, if_neg (by decide), P_isIn, d_b_t, v_bt w1, if_neg (by decide), P_isIn, d_b_t, v_bf w2, if_pos rfl]
  have hC : F_X11_order s x1 x2 x3 = if n < 5 then some (((n + 1 : Nat) : Int), d_si (d_st s 11 (v_pl (s.1 11) (4 * n) [x1, x2, x3, 0])) 10 2 ((n + 1 : Nat) : Int)) else some (-2, s) := by
    unfold F_X11_order
    rw [if_neg q0, P_within, d_b_t, v_bt w0, if_neg (by decide), P_within, d_b_t, v_bt w1, if_neg (by decide), P_within, d_b_t, v_bt w2, if_neg (by decide), P_add_10 (show s.1 10 2 = n by rw [a1]; exact hn) (show s.1 10 0 = 5 from m4) (show n ≤ 5 by omega)]
    by_cases q : n < 5
    · simp only [if_pos q, d_b2_t]
    · simp only [if_neg q, d_b2_t]
  have hD : ∀ s1 : d_S, s1.1 65 = s.1 65 → F_X12_order s1 x1 x2 x3 = if n < 5 then some (((n + 1 : Nat) : Int), d_si (d_st s1 65 (v_pl (s.1 65) (284 + 3 * n) [x1, x2, x3])) 65 4 ((n + 1 : Nat) : Int)) else some (-2, s1) := by
    intro s1 e65
    unfold F_X12_order
    rw [if_neg q0, P_isIn, d_b_t, v_bt w0, if_neg (by decide), P_isIn, d_b_t, v_bt w1, if_neg (by decide), P_isIn, d_b_t, v_bt w2, if_neg (by decide), e65, hn]
    by_cases q : n < 5
    rotate_left
    · rw [if_pos (by omega), if_neg q]
    rw [if_pos q]
    rw [if_neg (by omega), show d_w (284 + 3 * (n : Int)) = 284 + 3 * (n : Int) from d_w_id (by omega) (by omega), d_l_t]
    have ek : ∀ k : Int, 0 ≤ k → k < 5 → d_w (284 + 3 * (n : Int) + k) = 284 + 3 * (n : Int) + k := fun k h1 h2 => d_w_id (by omega) (by omega)
    have u0 : (284 + 3 * (n : Int)).toNat = 284 + 3 * n := by omega
    have u1 : (284 + 3 * (n : Int) + 1).toNat = 284 + 3 * n + 1 := by omega
    have u2 : (284 + 3 * (n : Int) + 2).toNat = 284 + 3 * n + 2 := by omega
    simp (disch := first | decide | omega) only [ek, d_g_t, d_l_t, u0, u1, u2]
    rw [v_d3, d_si_i, d_u_t, d_st_i, v_pl_o (by show 4 < 284 + 3 * n ∨ 284 + 3 * n + 3 ≤ 4; omega), e65, hn, d_w_id (by omega) (by omega)]
    rfl
  by_cases q : n < 5
  rotate_left
  · exact v_AA.same h (-2) (by rw [hC, if_neg q]) (by show F_X12_order s x1 x2 x3 = _; rw [hD s rfl, if_neg q])
  have s65 : (d_si (d_st s 11 (v_pl (s.1 11) (4 * n) [x1, x2, x3, 0])) 10 2 ((n + 1 : Nat) : Int)).1 65 = s.1 65 := by rw [d_si_n (by decide), d_st_n (by decide)]
  refine ⟨_, _, _, by rw [hC, if_pos q], by show F_X12_order _ x1 x2 x3 = _; rw [hD _ s65, if_pos q], ?_⟩
  refine hend (n + 1) (v_pl (s.1 11) (4 * n) [x1, x2, x3, 0]) (v_pl (s.1 65) (284 + 3 * n) [x1, x2, x3]) (fun j => ⟨by omega, fun hj i hi => ?_⟩) (fun j hj => v_pl_o (by show j < 284 + 3 * n ∨ 284 + 3 * n + 3 ≤ j; omega)) (fun j hj => ?_)
  · by_cases z : j = n
    · subst z
      rw [v_pl_i (by show i < 4; omega), v_pl_i (by show i < 3; omega)]
      have : i = 0 ∨ i = 1 ∨ i = 2 := by omega
      rcases this with rfl | rfl | rfl <;> rfl
    · rw [v_pl_o (by show 4 * j + i < 4 * n ∨ 4 * n + 4 ≤ 4 * j + i; omega), v_pl_o (by show 284 + 3 * j + i < 284 + 3 * n ∨ 284 + 3 * n + 3 ≤ 284 + 3 * j + i; omega)]
      exact a2 j i (by omega) hi
  · by_cases z : j = n
    · subst z
      have p0 : v_pl (s.1 65) (284 + 3 * j) [x1, x2, x3] (284 + 3 * j) = x1 := by
        have := v_pl_i (f := s.1 65) (p := 284 + 3 * j) (l := [x1, x2, x3]) (k := 0) (by show 0 < 3; decide)
        rw [show 284 + 3 * j = 284 + 3 * j + 0 by omega]
        exact this
      have p1 : v_pl (s.1 65) (284 + 3 * j) [x1, x2, x3] (285 + 3 * j) = x2 := by
        have := v_pl_i (f := s.1 65) (p := 284 + 3 * j) (l := [x1, x2, x3]) (k := 1) (by show 1 < 3; decide)
        rw [show 285 + 3 * j = 284 + 3 * j + 1 by omega]
        exact this
      have p2 : v_pl (s.1 65) (284 + 3 * j) [x1, x2, x3] (286 + 3 * j) = x3 := by
        have := v_pl_i (f := s.1 65) (p := 284 + 3 * j) (l := [x1, x2, x3]) (k := 2) (by show 2 < 3; decide)
        rw [show 286 + 3 * j = 284 + 3 * j + 2 by omega]
        exact this
      rw [p0, p1, p2]
      exact ⟨w0, w1, w2⟩
    · rw [v_pl_o (by show 284 + 3 * j < 284 + 3 * n ∨ 284 + 3 * n + 3 ≤ 284 + 3 * j; omega), v_pl_o (by show 285 + 3 * j < 284 + 3 * n ∨ 284 + 3 * n + 3 ≤ 285 + 3 * j; omega), v_pl_o (by show 286 + 3 * j < 284 + 3 * n ∨ 284 + 3 * n + 3 ≤ 286 + 3 * j; omega)]
      exact g4 j (by omega)
theorem P_add_12 {n : Nat} (hc : s.1 12 2 = n) (hm : s.1 12 0 = 8) (hn : n ≤ 8) {a b c d : Int} : F_X8_add_12 s a b c d = if n < 8 then some (((n + 1 : Nat) : Int), d_si (d_st s 13 (v_pl (s.1 13) (4 * n) [a, b, c, d])) 12 2 ((n + 1 : Nat) : Int)) else some (-2, s) := by
  unfold F_X8_add_12
  rw [hc, hm]
  by_cases q : n < 8
  · have e0 : d_w ((n : Int) * 4) = ((4 * n : Nat) : Int) := by rw [d_w_id (by omega) (by omega)]; omega
    have ek : ∀ k : Int, 0 ≤ k → k < 5 → d_w (((4 * n : Nat) : Int) + k) = ((4 * n : Nat) : Int) + k := fun k h1 h2 => d_w_id (by omega) (by omega)
    have t1 : (((4 * n : Nat) : Int) + 1).toNat = 4 * n + 1 := by omega
    have t2 : (((4 * n : Nat) : Int) + 2).toNat = 4 * n + 2 := by omega
    have t3 : (((4 * n : Nat) : Int) + 3).toNat = 4 * n + 3 := by omega
    rw [if_pos (by omega), e0, if_neg (by omega), ek 4 (by decide) (by decide), if_neg (by omega), if_pos q]
    simp (disch := first | decide | omega) only [d_si_n, hc, e0, ek, d_g_t, d_l_t, Int.toNat_natCast, t1, t2, t3]
    rw [v_d4, d_si_i, d_u_t, d_w_id (by omega) (by omega)]
    rfl
  · rw [if_neg (by omega), if_neg q]
theorem R_glass (h : v_R t s) {x1 x2 x3 x4 : Int} : v_AA t (F_X11_glass s x1 x2 x3 x4) (fun s1 => F_X12_glass s1 x1 x2 x3 x4) := by
  have h' := h
  obtain ⟨hW, hI, hW2, hI2, h1, hQ, hX, hN, hr⟩ := h'
  have hG := hI.G
  have hac := hG.ac
  obtain ⟨⟨m4, m5, m6, m7, m8⟩, ⟨a1, a2⟩, ⟨b1, b2⟩, ⟨c1, c2⟩, ⟨d1, d2⟩, e1, e2⟩ := hW.2.2.2
  have a1 : s.1 10 2 = s.1 65 4 := a1
  have b1 : s.1 12 2 = s.1 65 5 := b1
  have c1 : s.1 14 2 = s.1 65 6 := c1
  have d1 : s.1 16 2 = s.1 65 7 := d1
  have e1 : s.1 18 2 = s.1 65 8 := e1
  obtain ⟨t1, t2, k4, k5, k6, k7, k8, g4, g5, g6, g7, g8⟩ := hI.2.2.1
  obtain ⟨n, hn⟩ : ∃ n : Nat, s.1 65 5 = n := ⟨(s.1 65 5).toNat, by omega⟩
  have hend : ∀ (n' : Nat) (fC fA : Nat → Int), (∀ j, n' ≤ 8 ∧ (j < n' → ∀ i, i < 4 → fC (4 * j + i) = fA (299 + 4 * j + i))) → (∀ j, (j < 299 ∨ 299 + 4 * 8 ≤ j) → fA j = s.1 65 j) → (∀ j, j < n' → (0 ≤ fA (299 + 4 * j) ∧ fA (299 + 4 * j) ≤ 9) ∧ (0 ≤ fA (300 + 4 * j) ∧ fA (300 + 4 * j) ≤ 63) ∧ (0 ≤ fA (301 + 4 * j) ∧ fA (301 + 4 * j) ≤ 100) ∧ (fA (302 + 4 * j) = 0 ∨ fA (302 + 4 * j) = 1)) → v_R t (d_si (d_st (d_si (d_st s 13 fC) 12 2 (n' : Int)) 65 fA) 65 5 (n' : Int)) := by
    intro n' fC fA hrow hA hb
    obtain ⟨z, hz⟩ : ∃ z, z = d_si (d_st (d_si (d_st s 13 fC) 12 2 (n' : Int)) 65 fA) 65 5 (n' : Int) := ⟨_, rfl⟩
    have fo : ∀ a, a ≠ 12 → a ≠ 13 → a ≠ 65 → z.1 a = s.1 a := fun a h1 h2 h3 => by rw [hz, d_si_n h3, d_st_n h3, d_si_n h1, d_st_n h2]
    have eo : z.1 65 5 = n' := by rw [hz, d_si_i, d_u_t]
    have eA : ∀ j, j ≠ 5 → z.1 65 j = fA j := fun j hj => by rw [hz, d_si_i, d_u_n hj, d_st_i]
    have eB : ∀ j, j ≠ 5 → (j < 299 ∨ 299 + 4 * 8 ≤ j) → z.1 65 j = s.1 65 j := fun j h1 h2 => (eA j h1).trans (hA j h2)
    have ek : ∀ j, z.1 12 j = d_u (s.1 12) 2 (n' : Int) j := fun j => by rw [hz, d_si_n (by decide), d_st_n (by decide), d_si_i, d_st_n (by decide)]
    have er : z.1 13 = fC := by rw [hz, d_si_n (by decide), d_st_n (by decide), d_si_n (by decide), d_st_i]
    rw [← hz]
    have h5 := (hrow 0).1
    refine h.told (fun a h1 h2 => fo a (by omega) (by omega) h2) (by rw [hz]; rfl) (fun j hj => eB j (by omega) (by omega)) ?_ ?_
    · exact ⟨⟨by show z.1 10 0 = _; rw [fo 10 (by decide) (by decide) (by decide)]; exact m4, by show z.1 12 0 = _; rw [ek, d_u_n (by decide)]; exact m5, by show z.1 14 0 = _; rw [fo 14 (by decide) (by decide) (by decide)]; exact m6, by show z.1 16 0 = _; rw [fo 16 (by decide) (by decide) (by decide)]; exact m7, by show z.1 18 0 = _; rw [fo 18 (by decide) (by decide) (by decide)]; exact m8⟩, ⟨by show z.1 10 2 = _; rw [fo 10 (by decide) (by decide) (by decide), eB 4 (by decide) (by omega)]; exact a1, fun j i hj hi => by show z.1 11 (4 * j + i) = _; rw [eB 4 (by decide) (by omega)] at hj; rw [fo 11 (by decide) (by decide) (by decide), eB _ (by omega) (by omega)]; exact a2 j i hj hi⟩, ⟨by show z.1 12 2 = _; rw [ek, d_u_t, eo], fun j i hj hi => by show z.1 13 (4 * j + i) = _; rw [eo] at hj; rw [er, eA _ (by omega)]; exact (hrow j).2 (by omega) i hi⟩, ⟨by show z.1 14 2 = _; rw [fo 14 (by decide) (by decide) (by decide), eB 6 (by decide) (by omega)]; exact c1, fun j hj => by show z.1 15 (4 * j) = _; rw [eB 6 (by decide) (by omega)] at hj; rw [fo 15 (by decide) (by decide) (by decide), eB _ (by omega) (by omega)]; exact c2 j hj⟩, ⟨by show z.1 16 2 = _; rw [fo 16 (by decide) (by decide) (by decide), eB 7 (by decide) (by omega)]; exact d1, fun j i hj hi => by show z.1 17 (4 * j + i) = _; rw [eB 7 (by decide) (by omega)] at hj; rw [fo 17 (by decide) (by decide) (by decide), eB _ (by omega) (by omega)]; exact d2 j i hj hi⟩, ⟨by show z.1 18 2 = _; rw [fo 18 (by decide) (by decide) (by decide), eB 8 (by decide) (by omega)]; exact e1, fun j i hj hi => by show z.1 19 (4 * j + i) = _; rw [eB 8 (by decide) (by omega)] at hj; rw [fo 19 (by decide) (by decide) (by decide), eB _ (by omega) (by omega)]; exact e2 j i hj hi⟩⟩
    · exact ⟨by rw [eB 1 (by decide) (by omega)]; exact t1, by rw [eB 1 (by decide) (by omega), eB 2 (by decide) (by omega)]; exact t2, by rw [eB 4 (by decide) (by omega)]; exact k4, by rw [eo]; omega, by rw [eB 6 (by decide) (by omega)]; exact k6, by rw [eB 7 (by decide) (by omega)]; exact k7, by rw [eB 8 (by decide) (by omega)]; exact k8, fun j hj => by rw [eB 4 (by decide) (by omega)] at hj; rw [eB _ (by omega) (by omega), eB _ (by omega) (by omega), eB _ (by omega) (by omega)]; exact g4 j hj, fun j hj => by rw [eo] at hj; rw [eA _ (by omega), eA _ (by omega), eA _ (by omega), eA _ (by omega)]; exact hb j (by omega), fun j hj => by rw [eB 6 (by decide) (by omega)] at hj; rw [eB _ (by omega) (by omega)]; exact g6 j hj, fun j hj => by rw [eB 7 (by decide) (by omega)] at hj; rw [eB _ (by omega) (by omega), eB _ (by omega) (by omega)]; exact g7 j hj, fun j hj => by rw [eB 8 (by decide) (by omega)] at hj; rw [eB _ (by omega) (by omega), eB _ (by omega) (by omega), eB _ (by omega) (by omega), eB _ (by omega) (by omega)]; exact g8 j hj⟩
  by_cases q0 : x1 = -1
  · obtain ⟨s1, hs1⟩ : ∃ z, z = d_si s 12 2 0 := ⟨_, rfl⟩
    refine ⟨0, s1, d_si s1 65 5 0, ?_, ?_, ?_⟩
    · unfold F_X11_glass F_X8_none_12; rw [if_pos q0, d_l_t, d_b2_t, hs1]
    · show F_X12_glass s1 x1 x2 x3 x4 = _; unfold F_X12_glass; rw [if_pos q0, d_l_t]
    · have hz := hend 0 (s.1 13) (s.1 65) (fun j => ⟨by decide, fun hj => absurd hj (Nat.not_lt_zero j)⟩) (fun _ _ => rfl) (fun j hj => absurd hj (Nat.not_lt_zero j))
      have e0 : d_st s 13 (s.1 13) = s := by
        refine Prod.ext ?_ rfl
        funext a
        by_cases q : a = 13
        · subst q; rw [d_st_i]
        · rw [d_st_n q]
      have e1 : d_st (d_si s 12 2 0) 65 (s.1 65) = d_si s 12 2 0 := by
        refine Prod.ext ?_ rfl
        funext a
        by_cases q : a = 65
        · subst q; rw [d_st_i, d_si_n (by decide)]
        · rw [d_st_n q]
      rw [e0] at hz
      have hz : v_R t (d_si (d_st (d_si s 12 2 0) 65 (s.1 65)) 65 5 0) := hz
      rw [e1] at hz
      rw [hs1]; exact hz
  by_cases w0 : 0 ≤ x1 ∧ x1 ≤ 9
  rotate_left
  · refine v_AA.same h (-2) ?_ ?_
    · unfold F_X11_glass; rw [if_neg q0, P_within, d_b_t, v_bf w0, if_pos rfl]
    · show F_X12_glass s x1 x2 x3 x4 = _; unfold F_X12_glass; rw [if_neg q0, P_isIn, d_b_t, v_bf w0, if_pos rfl]
  by_cases w1 : 0 ≤ x2 ∧ x2 ≤ 63
  rotate_left
  · refine v_AA.same h (-2) ?_ ?_
    · unfold F_X11_glass; rw [if_neg q0, P_within, d_b_t, v_bt w0, if_neg (by decide), P_within, d_b_t, v_bf w1, if_pos rfl]
    · show F_X12_glass s x1 x2 x3 x4 = _; unfold F_X12_glass; rw [if_neg q0, P_isIn, d_b_t, v_bt w0, if_neg (by decide), P_isIn, d_b_t, v_bf w1, if_pos rfl]
  by_cases w2 : 0 ≤ x3 ∧ x3 ≤ 100
  rotate_left
  · refine v_AA.same h (-2) ?_ ?_
    · unfold F_X11_glass; rw [if_neg q0, P_within, d_b_t, v_bt w0, if_neg (by decide), P_within, d_b_t, v_bt w1, if_neg (by decide), P_within, d_b_t, v_bf w2, if_pos rfl]
    · show F_X12_glass s x1 x2 x3 x4 = _; unfold F_X12_glass; rw [if_neg q0, P_isIn, d_b_t, v_bt w0, if_neg (by decide), P_isIn, d_b_t, v_bt w1, if_neg (by decide), P_isIn, d_b_t, v_bf w2, if_pos rfl]
  have hC : F_X11_glass s x1 x2 x3 x4 = if n < 8 then some (((n + 1 : Nat) : Int), d_si (d_st s 13 (v_pl (s.1 13) (4 * n) [x1, x2, x3, (v_b (¬ x4 = 0))])) 12 2 ((n + 1 : Nat) : Int)) else some (-2, s) := by
    unfold F_X11_glass
    rw [if_neg q0, P_within, d_b_t, v_bt w0, if_neg (by decide), P_within, d_b_t, v_bt w1, if_neg (by decide), P_within, d_b_t, v_bt w2, if_neg (by decide), P_bit, d_b_t, P_add_12 (show s.1 12 2 = n by rw [b1]; exact hn) (show s.1 12 0 = 8 from m5) (show n ≤ 8 by omega)]
    by_cases q : n < 8
    · simp only [if_pos q, d_b2_t]
    · simp only [if_neg q, d_b2_t]
  have hD : ∀ s1 : d_S, s1.1 65 = s.1 65 → F_X12_glass s1 x1 x2 x3 x4 = if n < 8 then some (((n + 1 : Nat) : Int), d_si (d_st s1 65 (v_pl (s.1 65) (299 + 4 * n) [x1, x2, x3, (v_b (¬ x4 = 0))])) 65 5 ((n + 1 : Nat) : Int)) else some (-2, s1) := by
    intro s1 e65
    unfold F_X12_glass
    rw [if_neg q0, P_isIn, d_b_t, v_bt w0, if_neg (by decide), P_isIn, d_b_t, v_bt w1, if_neg (by decide), P_isIn, d_b_t, v_bt w2, if_neg (by decide), e65, hn]
    by_cases q : n < 8
    rotate_left
    · rw [if_pos (by omega), if_neg q]
    rw [if_pos q]
    rw [if_neg (by omega), show d_w (299 + 4 * (n : Int)) = 299 + 4 * (n : Int) from d_w_id (by omega) (by omega), d_l_t]
    have ek : ∀ k : Int, 0 ≤ k → k < 5 → d_w (299 + 4 * (n : Int) + k) = 299 + 4 * (n : Int) + k := fun k h1 h2 => d_w_id (by omega) (by omega)
    have u0 : (299 + 4 * (n : Int)).toNat = 299 + 4 * n := by omega
    have u1 : (299 + 4 * (n : Int) + 1).toNat = 299 + 4 * n + 1 := by omega
    have u2 : (299 + 4 * (n : Int) + 2).toNat = 299 + 4 * n + 2 := by omega
    have u3 : (299 + 4 * (n : Int) + 3).toNat = 299 + 4 * n + 3 := by omega
    simp (disch := first | decide | omega) only [ek, d_g_t, d_l_t, u0, u1, u2, u3]
    by_cases q4 : x4 = 0
    · rw [if_pos q4, v_d4, d_si_i, d_u_t, d_st_i, v_pl_o (by show 5 < 299 + 4 * n ∨ 299 + 4 * n + 4 ≤ 5; omega), e65, hn, d_w_id (by omega) (by omega), v_bf (by omega)]
      rfl
    · rw [if_neg q4, v_d4, d_si_i, d_u_t, d_st_i, v_pl_o (by show 5 < 299 + 4 * n ∨ 299 + 4 * n + 4 ≤ 5; omega), e65, hn, d_w_id (by omega) (by omega), v_bt q4]
      rfl
  by_cases q : n < 8
  rotate_left
  · exact v_AA.same h (-2) (by rw [hC, if_neg q]) (by show F_X12_glass s x1 x2 x3 x4 = _; rw [hD s rfl, if_neg q])
  have s65 : (d_si (d_st s 13 (v_pl (s.1 13) (4 * n) [x1, x2, x3, (v_b (¬ x4 = 0))])) 12 2 ((n + 1 : Nat) : Int)).1 65 = s.1 65 := by rw [d_si_n (by decide), d_st_n (by decide)]
  refine ⟨_, _, _, by rw [hC, if_pos q], by show F_X12_glass _ x1 x2 x3 x4 = _; rw [hD _ s65, if_pos q], ?_⟩
  refine hend (n + 1) (v_pl (s.1 13) (4 * n) [x1, x2, x3, (v_b (¬ x4 = 0))]) (v_pl (s.1 65) (299 + 4 * n) [x1, x2, x3, (v_b (¬ x4 = 0))]) (fun j => ⟨by omega, fun hj i hi => ?_⟩) (fun j hj => v_pl_o (by show j < 299 + 4 * n ∨ 299 + 4 * n + 4 ≤ j; omega)) (fun j hj => ?_)
  · by_cases z : j = n
    · subst z
      rw [v_pl_i (by show i < 4; omega), v_pl_i (by show i < 4; omega)]
    · rw [v_pl_o (by show 4 * j + i < 4 * n ∨ 4 * n + 4 ≤ 4 * j + i; omega), v_pl_o (by show 299 + 4 * j + i < 299 + 4 * n ∨ 299 + 4 * n + 4 ≤ 299 + 4 * j + i; omega)]
      exact b2 j i (by omega) hi
  · by_cases z : j = n
    · subst z
      have p0 : v_pl (s.1 65) (299 + 4 * j) [x1, x2, x3, (v_b (¬ x4 = 0))] (299 + 4 * j) = x1 := by
        have := v_pl_i (f := s.1 65) (p := 299 + 4 * j) (l := [x1, x2, x3, (v_b (¬ x4 = 0))]) (k := 0) (by show 0 < 4; decide)
        rw [show 299 + 4 * j = 299 + 4 * j + 0 by omega]
        exact this
      have p1 : v_pl (s.1 65) (299 + 4 * j) [x1, x2, x3, (v_b (¬ x4 = 0))] (300 + 4 * j) = x2 := by
        have := v_pl_i (f := s.1 65) (p := 299 + 4 * j) (l := [x1, x2, x3, (v_b (¬ x4 = 0))]) (k := 1) (by show 1 < 4; decide)
        rw [show 300 + 4 * j = 299 + 4 * j + 1 by omega]
        exact this
      have p2 : v_pl (s.1 65) (299 + 4 * j) [x1, x2, x3, (v_b (¬ x4 = 0))] (301 + 4 * j) = x3 := by
        have := v_pl_i (f := s.1 65) (p := 299 + 4 * j) (l := [x1, x2, x3, (v_b (¬ x4 = 0))]) (k := 2) (by show 2 < 4; decide)
        rw [show 301 + 4 * j = 299 + 4 * j + 2 by omega]
        exact this
      have p3 : v_pl (s.1 65) (299 + 4 * j) [x1, x2, x3, (v_b (¬ x4 = 0))] (302 + 4 * j) = (v_b (¬ x4 = 0)) := by
        have := v_pl_i (f := s.1 65) (p := 299 + 4 * j) (l := [x1, x2, x3, (v_b (¬ x4 = 0))]) (k := 3) (by show 3 < 4; decide)
        rw [show 302 + 4 * j = 299 + 4 * j + 3 by omega]
        exact this
      rw [p0, p1, p2, p3]
      exact ⟨w0, w1, w2, v_bR⟩
    · rw [v_pl_o (by show 299 + 4 * j < 299 + 4 * n ∨ 299 + 4 * n + 4 ≤ 299 + 4 * j; omega), v_pl_o (by show 300 + 4 * j < 299 + 4 * n ∨ 299 + 4 * n + 4 ≤ 300 + 4 * j; omega), v_pl_o (by show 301 + 4 * j < 299 + 4 * n ∨ 299 + 4 * n + 4 ≤ 301 + 4 * j; omega), v_pl_o (by show 302 + 4 * j < 299 + 4 * n ∨ 299 + 4 * n + 4 ≤ 302 + 4 * j; omega)]
      exact g5 j (by omega)
theorem P_add_14 {n : Nat} (hc : s.1 14 2 = n) (hm : s.1 14 0 = 8) (hn : n ≤ 8) {a b c d : Int} : F_X8_add_14 s a b c d = if n < 8 then some (((n + 1 : Nat) : Int), d_si (d_st s 15 (v_pl (s.1 15) (4 * n) [a, b, c, d])) 14 2 ((n + 1 : Nat) : Int)) else some (-2, s) := by
  unfold F_X8_add_14
  rw [hc, hm]
  by_cases q : n < 8
  · have e0 : d_w ((n : Int) * 4) = ((4 * n : Nat) : Int) := by rw [d_w_id (by omega) (by omega)]; omega
    have ek : ∀ k : Int, 0 ≤ k → k < 5 → d_w (((4 * n : Nat) : Int) + k) = ((4 * n : Nat) : Int) + k := fun k h1 h2 => d_w_id (by omega) (by omega)
    have t1 : (((4 * n : Nat) : Int) + 1).toNat = 4 * n + 1 := by omega
    have t2 : (((4 * n : Nat) : Int) + 2).toNat = 4 * n + 2 := by omega
    have t3 : (((4 * n : Nat) : Int) + 3).toNat = 4 * n + 3 := by omega
    rw [if_pos (by omega), e0, if_neg (by omega), ek 4 (by decide) (by decide), if_neg (by omega), if_pos q]
    simp (disch := first | decide | omega) only [d_si_n, hc, e0, ek, d_g_t, d_l_t, Int.toNat_natCast, t1, t2, t3]
    rw [v_d4, d_si_i, d_u_t, d_w_id (by omega) (by omega)]
    rfl
  · rw [if_neg (by omega), if_neg q]
theorem R_bid (h : v_R t s) {x1 : Int} : v_AA t (F_X11_bid s x1) (fun s1 => F_X12_bid s1 x1) := by
  have h' := h
  obtain ⟨hW, hI, hW2, hI2, h1, hQ, hX, hN, hr⟩ := h'
  have hG := hI.G
  have hac := hG.ac
  obtain ⟨⟨m4, m5, m6, m7, m8⟩, ⟨a1, a2⟩, ⟨b1, b2⟩, ⟨c1, c2⟩, ⟨d1, d2⟩, e1, e2⟩ := hW.2.2.2
  have a1 : s.1 10 2 = s.1 65 4 := a1
  have b1 : s.1 12 2 = s.1 65 5 := b1
  have c1 : s.1 14 2 = s.1 65 6 := c1
  have d1 : s.1 16 2 = s.1 65 7 := d1
  have e1 : s.1 18 2 = s.1 65 8 := e1
  obtain ⟨t1, t2, k4, k5, k6, k7, k8, g4, g5, g6, g7, g8⟩ := hI.2.2.1
  obtain ⟨n, hn⟩ : ∃ n : Nat, s.1 65 6 = n := ⟨(s.1 65 6).toNat, by omega⟩
  have hend : ∀ (n' : Nat) (fC fA : Nat → Int), (∀ j, n' ≤ 8 ∧ (j < n' → ∀ i, i < 1 → fC (4 * j + i) = fA (331 + 1 * j + i))) → (∀ j, (j < 331 ∨ 331 + 1 * 8 ≤ j) → fA j = s.1 65 j) → (∀ j, j < n' → 0 ≤ fA (331 + j) ∧ fA (331 + j) ≤ 999) → v_R t (d_si (d_st (d_si (d_st s 15 fC) 14 2 (n' : Int)) 65 fA) 65 6 (n' : Int)) := by
    intro n' fC fA hrow hA hb
    obtain ⟨z, hz⟩ : ∃ z, z = d_si (d_st (d_si (d_st s 15 fC) 14 2 (n' : Int)) 65 fA) 65 6 (n' : Int) := ⟨_, rfl⟩
    have fo : ∀ a, a ≠ 14 → a ≠ 15 → a ≠ 65 → z.1 a = s.1 a := fun a h1 h2 h3 => by rw [hz, d_si_n h3, d_st_n h3, d_si_n h1, d_st_n h2]
    have eo : z.1 65 6 = n' := by rw [hz, d_si_i, d_u_t]
    have eA : ∀ j, j ≠ 6 → z.1 65 j = fA j := fun j hj => by rw [hz, d_si_i, d_u_n hj, d_st_i]
    have eB : ∀ j, j ≠ 6 → (j < 331 ∨ 331 + 1 * 8 ≤ j) → z.1 65 j = s.1 65 j := fun j h1 h2 => (eA j h1).trans (hA j h2)
    have ek : ∀ j, z.1 14 j = d_u (s.1 14) 2 (n' : Int) j := fun j => by rw [hz, d_si_n (by decide), d_st_n (by decide), d_si_i, d_st_n (by decide)]
    have er : z.1 15 = fC := by rw [hz, d_si_n (by decide), d_st_n (by decide), d_si_n (by decide), d_st_i]
    rw [← hz]
    have h5 := (hrow 0).1
    refine h.told (fun a h1 h2 => fo a (by omega) (by omega) h2) (by rw [hz]; rfl) (fun j hj => eB j (by omega) (by omega)) ?_ ?_
    · exact ⟨⟨by show z.1 10 0 = _; rw [fo 10 (by decide) (by decide) (by decide)]; exact m4, by show z.1 12 0 = _; rw [fo 12 (by decide) (by decide) (by decide)]; exact m5, by show z.1 14 0 = _; rw [ek, d_u_n (by decide)]; exact m6, by show z.1 16 0 = _; rw [fo 16 (by decide) (by decide) (by decide)]; exact m7, by show z.1 18 0 = _; rw [fo 18 (by decide) (by decide) (by decide)]; exact m8⟩, ⟨by show z.1 10 2 = _; rw [fo 10 (by decide) (by decide) (by decide), eB 4 (by decide) (by omega)]; exact a1, fun j i hj hi => by show z.1 11 (4 * j + i) = _; rw [eB 4 (by decide) (by omega)] at hj; rw [fo 11 (by decide) (by decide) (by decide), eB _ (by omega) (by omega)]; exact a2 j i hj hi⟩, ⟨by show z.1 12 2 = _; rw [fo 12 (by decide) (by decide) (by decide), eB 5 (by decide) (by omega)]; exact b1, fun j i hj hi => by show z.1 13 (4 * j + i) = _; rw [eB 5 (by decide) (by omega)] at hj; rw [fo 13 (by decide) (by decide) (by decide), eB _ (by omega) (by omega)]; exact b2 j i hj hi⟩, ⟨by show z.1 14 2 = _; rw [ek, d_u_t, eo], fun j hj => by show z.1 15 (4 * j) = _; rw [eo] at hj; rw [er, eA _ (by omega)]; have := (hrow j).2 (by omega) 0 (by decide); rw [Nat.one_mul] at this; exact this⟩, ⟨by show z.1 16 2 = _; rw [fo 16 (by decide) (by decide) (by decide), eB 7 (by decide) (by omega)]; exact d1, fun j i hj hi => by show z.1 17 (4 * j + i) = _; rw [eB 7 (by decide) (by omega)] at hj; rw [fo 17 (by decide) (by decide) (by decide), eB _ (by omega) (by omega)]; exact d2 j i hj hi⟩, ⟨by show z.1 18 2 = _; rw [fo 18 (by decide) (by decide) (by decide), eB 8 (by decide) (by omega)]; exact e1, fun j i hj hi => by show z.1 19 (4 * j + i) = _; rw [eB 8 (by decide) (by omega)] at hj; rw [fo 19 (by decide) (by decide) (by decide), eB _ (by omega) (by omega)]; exact e2 j i hj hi⟩⟩
    · exact ⟨by rw [eB 1 (by decide) (by omega)]; exact t1, by rw [eB 1 (by decide) (by omega), eB 2 (by decide) (by omega)]; exact t2, by rw [eB 4 (by decide) (by omega)]; exact k4, by rw [eB 5 (by decide) (by omega)]; exact k5, by rw [eo]; omega, by rw [eB 7 (by decide) (by omega)]; exact k7, by rw [eB 8 (by decide) (by omega)]; exact k8, fun j hj => by rw [eB 4 (by decide) (by omega)] at hj; rw [eB _ (by omega) (by omega), eB _ (by omega) (by omega), eB _ (by omega) (by omega)]; exact g4 j hj, fun j hj => by rw [eB 5 (by decide) (by omega)] at hj; rw [eB _ (by omega) (by omega), eB _ (by omega) (by omega), eB _ (by omega) (by omega), eB _ (by omega) (by omega)]; exact g5 j hj, fun j hj => by rw [eo] at hj; rw [eA _ (by omega)]; exact hb j (by omega), fun j hj => by rw [eB 7 (by decide) (by omega)] at hj; rw [eB _ (by omega) (by omega), eB _ (by omega) (by omega)]; exact g7 j hj, fun j hj => by rw [eB 8 (by decide) (by omega)] at hj; rw [eB _ (by omega) (by omega), eB _ (by omega) (by omega), eB _ (by omega) (by omega), eB _ (by omega) (by omega)]; exact g8 j hj⟩
  by_cases q0 : x1 = -1
  · obtain ⟨s1, hs1⟩ : ∃ z, z = d_si s 14 2 0 := ⟨_, rfl⟩
    refine ⟨0, s1, d_si s1 65 6 0, ?_, ?_, ?_⟩
    · unfold F_X11_bid F_X8_none_14; rw [if_pos q0, d_l_t, d_b2_t, hs1]
    · show F_X12_bid s1 x1 = _; unfold F_X12_bid; rw [if_pos q0, d_l_t]
    · have hz := hend 0 (s.1 15) (s.1 65) (fun j => ⟨by decide, fun hj => absurd hj (Nat.not_lt_zero j)⟩) (fun _ _ => rfl) (fun j hj => absurd hj (Nat.not_lt_zero j))
      have e0 : d_st s 15 (s.1 15) = s := by
        refine Prod.ext ?_ rfl
        funext a
        by_cases q : a = 15
        · subst q; rw [d_st_i]
        · rw [d_st_n q]
      have e1 : d_st (d_si s 14 2 0) 65 (s.1 65) = d_si s 14 2 0 := by
        refine Prod.ext ?_ rfl
        funext a
        by_cases q : a = 65
        · subst q; rw [d_st_i, d_si_n (by decide)]
        · rw [d_st_n q]
      rw [e0] at hz
      have hz : v_R t (d_si (d_st (d_si s 14 2 0) 65 (s.1 65)) 65 6 0) := hz
      rw [e1] at hz
      rw [hs1]; exact hz
  by_cases w0 : 0 ≤ x1 ∧ x1 ≤ 999
  rotate_left
  · refine v_AA.same h (-2) ?_ ?_
    · unfold F_X11_bid; rw [if_neg q0, P_within, d_b_t, v_bf w0, if_pos rfl]
    · show F_X12_bid s x1 = _; unfold F_X12_bid; rw [if_neg q0, P_isIn, d_b_t, v_bf w0, if_pos rfl]
  have hC : F_X11_bid s x1 = if n < 8 then some (((n + 1 : Nat) : Int), d_si (d_st s 15 (v_pl (s.1 15) (4 * n) [x1, 0, 0, 0])) 14 2 ((n + 1 : Nat) : Int)) else some (-2, s) := by
    unfold F_X11_bid
    rw [if_neg q0, P_within, d_b_t, v_bt w0, if_neg (by decide), P_add_14 (show s.1 14 2 = n by rw [c1]; exact hn) (show s.1 14 0 = 8 from m6) (show n ≤ 8 by omega)]
    by_cases q : n < 8
    · simp only [if_pos q, d_b2_t]
    · simp only [if_neg q, d_b2_t]
  have hD : ∀ s1 : d_S, s1.1 65 = s.1 65 → F_X12_bid s1 x1 = if n < 8 then some (((n + 1 : Nat) : Int), d_si (d_st s1 65 (v_pl (s.1 65) (331 + 1 * n) [x1])) 65 6 ((n + 1 : Nat) : Int)) else some (-2, s1) := by
    intro s1 e65
    unfold F_X12_bid
    rw [if_neg q0, P_isIn, d_b_t, v_bt w0, if_neg (by decide), e65, hn]
    by_cases q : n < 8
    rotate_left
    · rw [if_pos (by omega), if_neg q]
    rw [if_pos q]
    rw [if_neg (by omega), show d_w (331 + (n : Int)) = 331 + (n : Int) from d_w_id (by omega) (by omega), d_g_t (by omega), d_l_t, show (331 + (n : Int)).toNat = 331 + 1 * n by omega, v_d1 (s := s1) (a := 65) (p := 331 + 1 * n), d_l_t, d_si_i, d_u_t, d_st_i, v_pl_o (by show 6 < 331 + 1 * n ∨ 331 + 1 * n + 1 ≤ 6; omega), e65, hn, d_w_id (by omega) (by omega)]
    rfl
  by_cases q : n < 8
  rotate_left
  · exact v_AA.same h (-2) (by rw [hC, if_neg q]) (by show F_X12_bid s x1 = _; rw [hD s rfl, if_neg q])
  have s65 : (d_si (d_st s 15 (v_pl (s.1 15) (4 * n) [x1, 0, 0, 0])) 14 2 ((n + 1 : Nat) : Int)).1 65 = s.1 65 := by rw [d_si_n (by decide), d_st_n (by decide)]
  refine ⟨_, _, _, by rw [hC, if_pos q], by show F_X12_bid _ x1 = _; rw [hD _ s65, if_pos q], ?_⟩
  refine hend (n + 1) (v_pl (s.1 15) (4 * n) [x1, 0, 0, 0]) (v_pl (s.1 65) (331 + 1 * n) [x1]) (fun j => ⟨by omega, fun hj i hi => ?_⟩) (fun j hj => v_pl_o (by show j < 331 + 1 * n ∨ 331 + 1 * n + 1 ≤ j; omega)) (fun j hj => ?_)
  · by_cases z : j = n
    · subst z
      rw [v_pl_i (by show i < 4; omega), v_pl_i (by show i < 1; omega)]
      have : i = 0 := by omega
      rcases this with rfl <;> rfl
    · rw [v_pl_o (by show 4 * j + i < 4 * n ∨ 4 * n + 4 ≤ 4 * j + i; omega), v_pl_o (by show 331 + 1 * j + i < 331 + 1 * n ∨ 331 + 1 * n + 1 ≤ 331 + 1 * j + i; omega)]
      have hi0 : i = 0 := by omega
      subst hi0
      have := c2 j (by omega)
      rw [Nat.one_mul]
      exact this
  · by_cases z : j = n
    · subst z
      have p0 : v_pl (s.1 65) (331 + 1 * j) [x1] (331 + j) = x1 := by
        have := v_pl_i (f := s.1 65) (p := 331 + 1 * j) (l := [x1]) (k := 0) (by show 0 < 1; decide)
        rw [show 331 + j = 331 + 1 * j + 0 by omega]
        exact this
      rw [p0]
      exact w0
    · rw [v_pl_o (by show 331 + j < 331 + 1 * n ∨ 331 + 1 * n + 1 ≤ 331 + j; omega)]
      exact g6 j (by omega)
theorem P_add_16 {n : Nat} (hc : s.1 16 2 = n) (hm : s.1 16 0 = 8) (hn : n ≤ 8) {a b c d : Int} : F_X8_add_16 s a b c d = if n < 8 then some (((n + 1 : Nat) : Int), d_si (d_st s 17 (v_pl (s.1 17) (4 * n) [a, b, c, d])) 16 2 ((n + 1 : Nat) : Int)) else some (-2, s) := by
  unfold F_X8_add_16
  rw [hc, hm]
  by_cases q : n < 8
  · have e0 : d_w ((n : Int) * 4) = ((4 * n : Nat) : Int) := by rw [d_w_id (by omega) (by omega)]; omega
    have ek : ∀ k : Int, 0 ≤ k → k < 5 → d_w (((4 * n : Nat) : Int) + k) = ((4 * n : Nat) : Int) + k := fun k h1 h2 => d_w_id (by omega) (by omega)
    have t1 : (((4 * n : Nat) : Int) + 1).toNat = 4 * n + 1 := by omega
    have t2 : (((4 * n : Nat) : Int) + 2).toNat = 4 * n + 2 := by omega
    have t3 : (((4 * n : Nat) : Int) + 3).toNat = 4 * n + 3 := by omega
    rw [if_pos (by omega), e0, if_neg (by omega), ek 4 (by decide) (by decide), if_neg (by omega), if_pos q]
    simp (disch := first | decide | omega) only [d_si_n, hc, e0, ek, d_g_t, d_l_t, Int.toNat_natCast, t1, t2, t3]
    rw [v_d4, d_si_i, d_u_t, d_w_id (by omega) (by omega)]
    rfl
  · rw [if_neg (by omega), if_neg q]
theorem R_measure (h : v_R t s) {x1 x2 : Int} : v_AA t (F_X11_measure s x1 x2) (fun s1 => F_X12_measure s1 x1 x2) := by
  have h' := h
  obtain ⟨hW, hI, hW2, hI2, h1, hQ, hX, hN, hr⟩ := h'
  have hG := hI.G
  have hac := hG.ac
  obtain ⟨⟨m4, m5, m6, m7, m8⟩, ⟨a1, a2⟩, ⟨b1, b2⟩, ⟨c1, c2⟩, ⟨d1, d2⟩, e1, e2⟩ := hW.2.2.2
  have a1 : s.1 10 2 = s.1 65 4 := a1
  have b1 : s.1 12 2 = s.1 65 5 := b1
  have c1 : s.1 14 2 = s.1 65 6 := c1
  have d1 : s.1 16 2 = s.1 65 7 := d1
  have e1 : s.1 18 2 = s.1 65 8 := e1
  obtain ⟨t1, t2, k4, k5, k6, k7, k8, g4, g5, g6, g7, g8⟩ := hI.2.2.1
  obtain ⟨n, hn⟩ : ∃ n : Nat, s.1 65 7 = n := ⟨(s.1 65 7).toNat, by omega⟩
  have hend : ∀ (n' : Nat) (fC fA : Nat → Int), (∀ j, n' ≤ 8 ∧ (j < n' → ∀ i, i < 2 → fC (4 * j + i) = fA (339 + 2 * j + i))) → (∀ j, (j < 339 ∨ 339 + 2 * 8 ≤ j) → fA j = s.1 65 j) → (∀ j, j < n' → (0 ≤ fA (339 + 2 * j) ∧ fA (339 + 2 * j) ≤ 999) ∧ (0 ≤ fA (340 + 2 * j) ∧ fA (340 + 2 * j) ≤ 100)) → v_R t (d_si (d_st (d_si (d_st s 17 fC) 16 2 (n' : Int)) 65 fA) 65 7 (n' : Int)) := by
    intro n' fC fA hrow hA hb
    obtain ⟨z, hz⟩ : ∃ z, z = d_si (d_st (d_si (d_st s 17 fC) 16 2 (n' : Int)) 65 fA) 65 7 (n' : Int) := ⟨_, rfl⟩
    have fo : ∀ a, a ≠ 16 → a ≠ 17 → a ≠ 65 → z.1 a = s.1 a := fun a h1 h2 h3 => by rw [hz, d_si_n h3, d_st_n h3, d_si_n h1, d_st_n h2]
    have eo : z.1 65 7 = n' := by rw [hz, d_si_i, d_u_t]
    have eA : ∀ j, j ≠ 7 → z.1 65 j = fA j := fun j hj => by rw [hz, d_si_i, d_u_n hj, d_st_i]
    have eB : ∀ j, j ≠ 7 → (j < 339 ∨ 339 + 2 * 8 ≤ j) → z.1 65 j = s.1 65 j := fun j h1 h2 => (eA j h1).trans (hA j h2)
    have ek : ∀ j, z.1 16 j = d_u (s.1 16) 2 (n' : Int) j := fun j => by rw [hz, d_si_n (by decide), d_st_n (by decide), d_si_i, d_st_n (by decide)]
    have er : z.1 17 = fC := by rw [hz, d_si_n (by decide), d_st_n (by decide), d_si_n (by decide), d_st_i]
    rw [← hz]
    have h5 := (hrow 0).1
    refine h.told (fun a h1 h2 => fo a (by omega) (by omega) h2) (by rw [hz]; rfl) (fun j hj => eB j (by omega) (by omega)) ?_ ?_
    · exact ⟨⟨by show z.1 10 0 = _; rw [fo 10 (by decide) (by decide) (by decide)]; exact m4, by show z.1 12 0 = _; rw [fo 12 (by decide) (by decide) (by decide)]; exact m5, by show z.1 14 0 = _; rw [fo 14 (by decide) (by decide) (by decide)]; exact m6, by show z.1 16 0 = _; rw [ek, d_u_n (by decide)]; exact m7, by show z.1 18 0 = _; rw [fo 18 (by decide) (by decide) (by decide)]; exact m8⟩, ⟨by show z.1 10 2 = _; rw [fo 10 (by decide) (by decide) (by decide), eB 4 (by decide) (by omega)]; exact a1, fun j i hj hi => by show z.1 11 (4 * j + i) = _; rw [eB 4 (by decide) (by omega)] at hj; rw [fo 11 (by decide) (by decide) (by decide), eB _ (by omega) (by omega)]; exact a2 j i hj hi⟩, ⟨by show z.1 12 2 = _; rw [fo 12 (by decide) (by decide) (by decide), eB 5 (by decide) (by omega)]; exact b1, fun j i hj hi => by show z.1 13 (4 * j + i) = _; rw [eB 5 (by decide) (by omega)] at hj; rw [fo 13 (by decide) (by decide) (by decide), eB _ (by omega) (by omega)]; exact b2 j i hj hi⟩, ⟨by show z.1 14 2 = _; rw [fo 14 (by decide) (by decide) (by decide), eB 6 (by decide) (by omega)]; exact c1, fun j hj => by show z.1 15 (4 * j) = _; rw [eB 6 (by decide) (by omega)] at hj; rw [fo 15 (by decide) (by decide) (by decide), eB _ (by omega) (by omega)]; exact c2 j hj⟩, ⟨by show z.1 16 2 = _; rw [ek, d_u_t, eo], fun j i hj hi => by show z.1 17 (4 * j + i) = _; rw [eo] at hj; rw [er, eA _ (by omega)]; exact (hrow j).2 (by omega) i hi⟩, ⟨by show z.1 18 2 = _; rw [fo 18 (by decide) (by decide) (by decide), eB 8 (by decide) (by omega)]; exact e1, fun j i hj hi => by show z.1 19 (4 * j + i) = _; rw [eB 8 (by decide) (by omega)] at hj; rw [fo 19 (by decide) (by decide) (by decide), eB _ (by omega) (by omega)]; exact e2 j i hj hi⟩⟩
    · exact ⟨by rw [eB 1 (by decide) (by omega)]; exact t1, by rw [eB 1 (by decide) (by omega), eB 2 (by decide) (by omega)]; exact t2, by rw [eB 4 (by decide) (by omega)]; exact k4, by rw [eB 5 (by decide) (by omega)]; exact k5, by rw [eB 6 (by decide) (by omega)]; exact k6, by rw [eo]; omega, by rw [eB 8 (by decide) (by omega)]; exact k8, fun j hj => by rw [eB 4 (by decide) (by omega)] at hj; rw [eB _ (by omega) (by omega), eB _ (by omega) (by omega), eB _ (by omega) (by omega)]; exact g4 j hj, fun j hj => by rw [eB 5 (by decide) (by omega)] at hj; rw [eB _ (by omega) (by omega), eB _ (by omega) (by omega), eB _ (by omega) (by omega), eB _ (by omega) (by omega)]; exact g5 j hj, fun j hj => by rw [eB 6 (by decide) (by omega)] at hj; rw [eB _ (by omega) (by omega)]; exact g6 j hj, fun j hj => by rw [eo] at hj; rw [eA _ (by omega), eA _ (by omega)]; exact hb j (by omega), fun j hj => by rw [eB 8 (by decide) (by omega)] at hj; rw [eB _ (by omega) (by omega), eB _ (by omega) (by omega), eB _ (by omega) (by omega), eB _ (by omega) (by omega)]; exact g8 j hj⟩
  by_cases q0 : x1 = -1
  · obtain ⟨s1, hs1⟩ : ∃ z, z = d_si s 16 2 0 := ⟨_, rfl⟩
    refine ⟨0, s1, d_si s1 65 7 0, ?_, ?_, ?_⟩
    · unfold F_X11_measure F_X8_none_16; rw [if_pos q0, d_l_t, d_b2_t, hs1]
    · show F_X12_measure s1 x1 x2 = _; unfold F_X12_measure; rw [if_pos q0, d_l_t]
    · have hz := hend 0 (s.1 17) (s.1 65) (fun j => ⟨by decide, fun hj => absurd hj (Nat.not_lt_zero j)⟩) (fun _ _ => rfl) (fun j hj => absurd hj (Nat.not_lt_zero j))
      have e0 : d_st s 17 (s.1 17) = s := by
        refine Prod.ext ?_ rfl
        funext a
        by_cases q : a = 17
        · subst q; rw [d_st_i]
        · rw [d_st_n q]
      have e1 : d_st (d_si s 16 2 0) 65 (s.1 65) = d_si s 16 2 0 := by
        refine Prod.ext ?_ rfl
        funext a
        by_cases q : a = 65
        · subst q; rw [d_st_i, d_si_n (by decide)]
        · rw [d_st_n q]
      rw [e0] at hz
      have hz : v_R t (d_si (d_st (d_si s 16 2 0) 65 (s.1 65)) 65 7 0) := hz
      rw [e1] at hz
      rw [hs1]; exact hz
  by_cases w0 : 0 ≤ x1 ∧ x1 ≤ 999
  rotate_left
  · refine v_AA.same h (-2) ?_ ?_
    · unfold F_X11_measure; rw [if_neg q0, P_within, d_b_t, v_bf w0, if_pos rfl]
    · show F_X12_measure s x1 x2 = _; unfold F_X12_measure; rw [if_neg q0, P_isIn, d_b_t, v_bf w0, if_pos rfl]
  by_cases w1 : 0 ≤ x2 ∧ x2 ≤ 100
  rotate_left
  · refine v_AA.same h (-2) ?_ ?_
    · unfold F_X11_measure; rw [if_neg q0, P_within, d_b_t, v_bt w0, if_neg (by decide), P_within, d_b_t, v_bf w1, if_pos rfl]
    · show F_X12_measure s x1 x2 = _; unfold F_X12_measure; rw [if_neg q0, P_isIn, d_b_t, v_bt w0, if_neg (by decide), P_isIn, d_b_t, v_bf w1, if_pos rfl]
  have hC : F_X11_measure s x1 x2 = if n < 8 then some (((n + 1 : Nat) : Int), d_si (d_st s 17 (v_pl (s.1 17) (4 * n) [x1, x2, 0, 0])) 16 2 ((n + 1 : Nat) : Int)) else some (-2, s) := by
    unfold F_X11_measure
    rw [if_neg q0, P_within, d_b_t, v_bt w0, if_neg (by decide), P_within, d_b_t, v_bt w1, if_neg (by decide), P_add_16 (show s.1 16 2 = n by rw [d1]; exact hn) (show s.1 16 0 = 8 from m7) (show n ≤ 8 by omega)]
    by_cases q : n < 8
    · simp only [if_pos q, d_b2_t]
    · simp only [if_neg q, d_b2_t]
  have hD : ∀ s1 : d_S, s1.1 65 = s.1 65 → F_X12_measure s1 x1 x2 = if n < 8 then some (((n + 1 : Nat) : Int), d_si (d_st s1 65 (v_pl (s.1 65) (339 + 2 * n) [x1, x2])) 65 7 ((n + 1 : Nat) : Int)) else some (-2, s1) := by
    intro s1 e65
    unfold F_X12_measure
    rw [if_neg q0, P_isIn, d_b_t, v_bt w0, if_neg (by decide), P_isIn, d_b_t, v_bt w1, if_neg (by decide), e65, hn]
    by_cases q : n < 8
    rotate_left
    · rw [if_pos (by omega), if_neg q]
    rw [if_pos q]
    have z7 : (d_si s1 65 (339 + 2 * n) x1).1 65 7 = n := by rw [d_si_i, d_u_n (by omega), e65]; exact hn
    rw [if_neg (by omega), show d_w (339 + 2 * (n : Int)) = 339 + 2 * (n : Int) from d_w_id (by omega) (by omega), d_g_t (by omega), d_l_t, show (339 + 2 * (n : Int)).toNat = 339 + 2 * n by omega, z7, show d_w (339 + 2 * (n : Int) + 1) = 339 + 2 * (n : Int) + 1 from d_w_id (by omega) (by omega), d_g_t (by omega), d_l_t, show (339 + 2 * (n : Int) + 1).toNat = 339 + 2 * n + 1 by omega, v_d2, d_l_t, d_si_i, d_u_t, d_st_i, v_pl_o (by show 7 < 339 + 2 * n ∨ 339 + 2 * n + 2 ≤ 7; omega), e65, hn, d_w_id (by omega) (by omega)]
    rfl
  by_cases q : n < 8
  rotate_left
  · exact v_AA.same h (-2) (by rw [hC, if_neg q]) (by show F_X12_measure s x1 x2 = _; rw [hD s rfl, if_neg q])
  have s65 : (d_si (d_st s 17 (v_pl (s.1 17) (4 * n) [x1, x2, 0, 0])) 16 2 ((n + 1 : Nat) : Int)).1 65 = s.1 65 := by rw [d_si_n (by decide), d_st_n (by decide)]
  refine ⟨_, _, _, by rw [hC, if_pos q], by show F_X12_measure _ x1 x2 = _; rw [hD _ s65, if_pos q], ?_⟩
  refine hend (n + 1) (v_pl (s.1 17) (4 * n) [x1, x2, 0, 0]) (v_pl (s.1 65) (339 + 2 * n) [x1, x2]) (fun j => ⟨by omega, fun hj i hi => ?_⟩) (fun j hj => v_pl_o (by show j < 339 + 2 * n ∨ 339 + 2 * n + 2 ≤ j; omega)) (fun j hj => ?_)
  · by_cases z : j = n
    · subst z
      rw [v_pl_i (by show i < 4; omega), v_pl_i (by show i < 2; omega)]
      have : i = 0 ∨ i = 1 := by omega
      rcases this with rfl | rfl <;> rfl
    · rw [v_pl_o (by show 4 * j + i < 4 * n ∨ 4 * n + 4 ≤ 4 * j + i; omega), v_pl_o (by show 339 + 2 * j + i < 339 + 2 * n ∨ 339 + 2 * n + 2 ≤ 339 + 2 * j + i; omega)]
      exact d2 j i (by omega) hi
  · by_cases z : j = n
    · subst z
      have p0 : v_pl (s.1 65) (339 + 2 * j) [x1, x2] (339 + 2 * j) = x1 := by
        have := v_pl_i (f := s.1 65) (p := 339 + 2 * j) (l := [x1, x2]) (k := 0) (by show 0 < 2; decide)
        rw [show 339 + 2 * j = 339 + 2 * j + 0 by omega]
        exact this
      have p1 : v_pl (s.1 65) (339 + 2 * j) [x1, x2] (340 + 2 * j) = x2 := by
        have := v_pl_i (f := s.1 65) (p := 339 + 2 * j) (l := [x1, x2]) (k := 1) (by show 1 < 2; decide)
        rw [show 340 + 2 * j = 339 + 2 * j + 1 by omega]
        exact this
      rw [p0, p1]
      exact ⟨w0, w1⟩
    · rw [v_pl_o (by show 339 + 2 * j < 339 + 2 * n ∨ 339 + 2 * n + 2 ≤ 339 + 2 * j; omega), v_pl_o (by show 340 + 2 * j < 339 + 2 * n ∨ 339 + 2 * n + 2 ≤ 340 + 2 * j; omega)]
      exact g7 j (by omega)
theorem P_add_18 {n : Nat} (hc : s.1 18 2 = n) (hm : s.1 18 0 = 8) (hn : n ≤ 8) {a b c d : Int} : F_X8_add_18 s a b c d = if n < 8 then some (((n + 1 : Nat) : Int), d_si (d_st s 19 (v_pl (s.1 19) (4 * n) [a, b, c, d])) 18 2 ((n + 1 : Nat) : Int)) else some (-2, s) := by
  unfold F_X8_add_18
  rw [hc, hm]
  by_cases q : n < 8
  · have e0 : d_w ((n : Int) * 4) = ((4 * n : Nat) : Int) := by rw [d_w_id (by omega) (by omega)]; omega
    have ek : ∀ k : Int, 0 ≤ k → k < 5 → d_w (((4 * n : Nat) : Int) + k) = ((4 * n : Nat) : Int) + k := fun k h1 h2 => d_w_id (by omega) (by omega)
    have t1 : (((4 * n : Nat) : Int) + 1).toNat = 4 * n + 1 := by omega
    have t2 : (((4 * n : Nat) : Int) + 2).toNat = 4 * n + 2 := by omega
    have t3 : (((4 * n : Nat) : Int) + 3).toNat = 4 * n + 3 := by omega
    rw [if_pos (by omega), e0, if_neg (by omega), ek 4 (by decide) (by decide), if_neg (by omega), if_pos q]
    simp (disch := first | decide | omega) only [d_si_n, hc, e0, ek, d_g_t, d_l_t, Int.toNat_natCast, t1, t2, t3]
    rw [v_d4, d_si_i, d_u_t, d_w_id (by omega) (by omega)]
    rfl
  · rw [if_neg (by omega), if_neg q]
theorem R_melt (h : v_R t s) {x1 x2 x3 x4 : Int} : v_AA t (F_X11_melt s x1 x2 x3 x4) (fun s1 => F_X12_melt s1 x1 x2 x3 x4) := by
  have h' := h
  obtain ⟨hW, hI, hW2, hI2, h1, hQ, hX, hN, hr⟩ := h'
  have hG := hI.G
  have hac := hG.ac
  obtain ⟨⟨m4, m5, m6, m7, m8⟩, ⟨a1, a2⟩, ⟨b1, b2⟩, ⟨c1, c2⟩, ⟨d1, d2⟩, e1, e2⟩ := hW.2.2.2
  have a1 : s.1 10 2 = s.1 65 4 := a1
  have b1 : s.1 12 2 = s.1 65 5 := b1
  have c1 : s.1 14 2 = s.1 65 6 := c1
  have d1 : s.1 16 2 = s.1 65 7 := d1
  have e1 : s.1 18 2 = s.1 65 8 := e1
  obtain ⟨t1, t2, k4, k5, k6, k7, k8, g4, g5, g6, g7, g8⟩ := hI.2.2.1
  obtain ⟨n, hn⟩ : ∃ n : Nat, s.1 65 8 = n := ⟨(s.1 65 8).toNat, by omega⟩
  have hend : ∀ (n' : Nat) (fC fA : Nat → Int), (∀ j, n' ≤ 8 ∧ (j < n' → ∀ i, i < 4 → fC (4 * j + i) = fA (355 + 4 * j + i))) → (∀ j, (j < 355 ∨ 355 + 4 * 8 ≤ j) → fA j = s.1 65 j) → (∀ j, j < n' → (0 ≤ fA (355 + 4 * j) ∧ fA (355 + 4 * j) ≤ 63) ∧ (0 ≤ fA (356 + 4 * j) ∧ fA (356 + 4 * j) ≤ 9) ∧ (0 ≤ fA (357 + 4 * j) ∧ fA (357 + 4 * j) ≤ 9) ∧ (0 ≤ fA (358 + 4 * j) ∧ fA (358 + 4 * j) ≤ 100)) → v_R t (d_si (d_st (d_si (d_st s 19 fC) 18 2 (n' : Int)) 65 fA) 65 8 (n' : Int)) := by
    intro n' fC fA hrow hA hb
    obtain ⟨z, hz⟩ : ∃ z, z = d_si (d_st (d_si (d_st s 19 fC) 18 2 (n' : Int)) 65 fA) 65 8 (n' : Int) := ⟨_, rfl⟩
    have fo : ∀ a, a ≠ 18 → a ≠ 19 → a ≠ 65 → z.1 a = s.1 a := fun a h1 h2 h3 => by rw [hz, d_si_n h3, d_st_n h3, d_si_n h1, d_st_n h2]
    have eo : z.1 65 8 = n' := by rw [hz, d_si_i, d_u_t]
    have eA : ∀ j, j ≠ 8 → z.1 65 j = fA j := fun j hj => by rw [hz, d_si_i, d_u_n hj, d_st_i]
    have eB : ∀ j, j ≠ 8 → (j < 355 ∨ 355 + 4 * 8 ≤ j) → z.1 65 j = s.1 65 j := fun j h1 h2 => (eA j h1).trans (hA j h2)
    have ek : ∀ j, z.1 18 j = d_u (s.1 18) 2 (n' : Int) j := fun j => by rw [hz, d_si_n (by decide), d_st_n (by decide), d_si_i, d_st_n (by decide)]
    have er : z.1 19 = fC := by rw [hz, d_si_n (by decide), d_st_n (by decide), d_si_n (by decide), d_st_i]
    rw [← hz]
    have h5 := (hrow 0).1
    refine h.told (fun a h1 h2 => fo a (by omega) (by omega) h2) (by rw [hz]; rfl) (fun j hj => eB j (by omega) (by omega)) ?_ ?_
    · exact ⟨⟨by show z.1 10 0 = _; rw [fo 10 (by decide) (by decide) (by decide)]; exact m4, by show z.1 12 0 = _; rw [fo 12 (by decide) (by decide) (by decide)]; exact m5, by show z.1 14 0 = _; rw [fo 14 (by decide) (by decide) (by decide)]; exact m6, by show z.1 16 0 = _; rw [fo 16 (by decide) (by decide) (by decide)]; exact m7, by show z.1 18 0 = _; rw [ek, d_u_n (by decide)]; exact m8⟩, ⟨by show z.1 10 2 = _; rw [fo 10 (by decide) (by decide) (by decide), eB 4 (by decide) (by omega)]; exact a1, fun j i hj hi => by show z.1 11 (4 * j + i) = _; rw [eB 4 (by decide) (by omega)] at hj; rw [fo 11 (by decide) (by decide) (by decide), eB _ (by omega) (by omega)]; exact a2 j i hj hi⟩, ⟨by show z.1 12 2 = _; rw [fo 12 (by decide) (by decide) (by decide), eB 5 (by decide) (by omega)]; exact b1, fun j i hj hi => by show z.1 13 (4 * j + i) = _; rw [eB 5 (by decide) (by omega)] at hj; rw [fo 13 (by decide) (by decide) (by decide), eB _ (by omega) (by omega)]; exact b2 j i hj hi⟩, ⟨by show z.1 14 2 = _; rw [fo 14 (by decide) (by decide) (by decide), eB 6 (by decide) (by omega)]; exact c1, fun j hj => by show z.1 15 (4 * j) = _; rw [eB 6 (by decide) (by omega)] at hj; rw [fo 15 (by decide) (by decide) (by decide), eB _ (by omega) (by omega)]; exact c2 j hj⟩, ⟨by show z.1 16 2 = _; rw [fo 16 (by decide) (by decide) (by decide), eB 7 (by decide) (by omega)]; exact d1, fun j i hj hi => by show z.1 17 (4 * j + i) = _; rw [eB 7 (by decide) (by omega)] at hj; rw [fo 17 (by decide) (by decide) (by decide), eB _ (by omega) (by omega)]; exact d2 j i hj hi⟩, ⟨by show z.1 18 2 = _; rw [ek, d_u_t, eo], fun j i hj hi => by show z.1 19 (4 * j + i) = _; rw [eo] at hj; rw [er, eA _ (by omega)]; exact (hrow j).2 (by omega) i hi⟩⟩
    · exact ⟨by rw [eB 1 (by decide) (by omega)]; exact t1, by rw [eB 1 (by decide) (by omega), eB 2 (by decide) (by omega)]; exact t2, by rw [eB 4 (by decide) (by omega)]; exact k4, by rw [eB 5 (by decide) (by omega)]; exact k5, by rw [eB 6 (by decide) (by omega)]; exact k6, by rw [eB 7 (by decide) (by omega)]; exact k7, by rw [eo]; omega, fun j hj => by rw [eB 4 (by decide) (by omega)] at hj; rw [eB _ (by omega) (by omega), eB _ (by omega) (by omega), eB _ (by omega) (by omega)]; exact g4 j hj, fun j hj => by rw [eB 5 (by decide) (by omega)] at hj; rw [eB _ (by omega) (by omega), eB _ (by omega) (by omega), eB _ (by omega) (by omega), eB _ (by omega) (by omega)]; exact g5 j hj, fun j hj => by rw [eB 6 (by decide) (by omega)] at hj; rw [eB _ (by omega) (by omega)]; exact g6 j hj, fun j hj => by rw [eB 7 (by decide) (by omega)] at hj; rw [eB _ (by omega) (by omega), eB _ (by omega) (by omega)]; exact g7 j hj, fun j hj => by rw [eo] at hj; rw [eA _ (by omega), eA _ (by omega), eA _ (by omega), eA _ (by omega)]; exact hb j (by omega)⟩
  by_cases q0 : x1 = -1
  · obtain ⟨s1, hs1⟩ : ∃ z, z = d_si s 18 2 0 := ⟨_, rfl⟩
    refine ⟨0, s1, d_si s1 65 8 0, ?_, ?_, ?_⟩
    · unfold F_X11_melt F_X8_none_18; rw [if_pos q0, d_l_t, d_b2_t, hs1]
    · show F_X12_melt s1 x1 x2 x3 x4 = _; unfold F_X12_melt; rw [if_pos q0, d_l_t]
    · have hz := hend 0 (s.1 19) (s.1 65) (fun j => ⟨by decide, fun hj => absurd hj (Nat.not_lt_zero j)⟩) (fun _ _ => rfl) (fun j hj => absurd hj (Nat.not_lt_zero j))
      have e0 : d_st s 19 (s.1 19) = s := by
        refine Prod.ext ?_ rfl
        funext a
        by_cases q : a = 19
        · subst q; rw [d_st_i]
        · rw [d_st_n q]
      have e1 : d_st (d_si s 18 2 0) 65 (s.1 65) = d_si s 18 2 0 := by
        refine Prod.ext ?_ rfl
        funext a
        by_cases q : a = 65
        · subst q; rw [d_st_i, d_si_n (by decide)]
        · rw [d_st_n q]
      rw [e0] at hz
      have hz : v_R t (d_si (d_st (d_si s 18 2 0) 65 (s.1 65)) 65 8 0) := hz
      rw [e1] at hz
      rw [hs1]; exact hz
  by_cases w0 : 0 ≤ x1 ∧ x1 < ((v_bl (v_u (s.1 65)) (v_v (s.1 65)) : Nat) : Int)
  rotate_left
  · refine v_AA.same h (-2) ?_ ?_
    · unfold F_X11_melt F_X11_melt_j59; rw [if_neg q0, P_isBlockC hQ, d_b_t, v_bf w0, if_pos rfl]
    · show F_X12_melt s x1 x2 x3 x4 = _; unfold F_X12_melt; rw [if_neg q0, P_isBlock hG, d_b_t, v_bf w0, if_pos rfl]
  by_cases w1 : 0 ≤ x2 ∧ x2 ≤ 9
  rotate_left
  · refine v_AA.same h (-2) ?_ ?_
    · unfold F_X11_melt F_X11_melt_j59; rw [if_neg q0, P_isBlockC hQ, d_b_t, v_bt w0, if_neg (by decide), P_within, d_b_t, v_bf w1, if_pos rfl]
    · show F_X12_melt s x1 x2 x3 x4 = _; unfold F_X12_melt; rw [if_neg q0, P_isBlock hG, d_b_t, v_bt w0, if_neg (by decide), P_isIn, d_b_t, v_bf w1, if_pos rfl]
  by_cases w2 : 0 ≤ x3 ∧ x3 ≤ 9
  rotate_left
  · refine v_AA.same h (-2) ?_ ?_
    · unfold F_X11_melt F_X11_melt_j59; rw [if_neg q0, P_isBlockC hQ, d_b_t, v_bt w0, if_neg (by decide), P_within, d_b_t, v_bt w1, if_neg (by decide), P_within, d_b_t, v_bf w2, if_pos rfl]
    · show F_X12_melt s x1 x2 x3 x4 = _; unfold F_X12_melt; rw [if_neg q0, P_isBlock hG, d_b_t, v_bt w0, if_neg (by decide), P_isIn, d_b_t, v_bt w1, if_neg (by decide), P_isIn, d_b_t, v_bf w2, if_pos rfl]
  by_cases w3 : 0 ≤ x4 ∧ x4 ≤ 100
  rotate_left
  · refine v_AA.same h (-2) ?_ ?_
    · unfold F_X11_melt F_X11_melt_j59; rw [if_neg q0, P_isBlockC hQ, d_b_t, v_bt w0, if_neg (by decide), P_within, d_b_t, v_bt w1, if_neg (by decide), P_within, d_b_t, v_bt w2, if_neg (by decide), P_within, d_b_t, v_bf w3, if_pos rfl]
    · show F_X12_melt s x1 x2 x3 x4 = _; unfold F_X12_melt; rw [if_neg q0, P_isBlock hG, d_b_t, v_bt w0, if_neg (by decide), P_isIn, d_b_t, v_bt w1, if_neg (by decide), P_isIn, d_b_t, v_bt w2, if_neg (by decide), P_isIn, d_b_t, v_bf w3, if_pos rfl]
  have hC : F_X11_melt s x1 x2 x3 x4 = if n < 8 then some (((n + 1 : Nat) : Int), d_si (d_st s 19 (v_pl (s.1 19) (4 * n) [x1, x2, x3, x4])) 18 2 ((n + 1 : Nat) : Int)) else some (-2, s) := by
    unfold F_X11_melt
    rw [if_neg q0, P_isBlockC hQ, d_b_t, v_bt w0, if_neg (by decide), P_within, d_b_t, v_bt w1, if_neg (by decide), P_within, d_b_t, v_bt w2, if_neg (by decide), P_within, d_b_t, v_bt w3, if_neg (by decide), P_add_18 (show s.1 18 2 = n by rw [e1]; exact hn) (show s.1 18 0 = 8 from m8) (show n ≤ 8 by omega)]
    by_cases q : n < 8
    · simp only [if_pos q, d_b2_t]
    · simp only [if_neg q, d_b2_t]
  have hD : ∀ s1 : d_S, s1.1 65 = s.1 65 → F_X12_melt s1 x1 x2 x3 x4 = if n < 8 then some (((n + 1 : Nat) : Int), d_si (d_st s1 65 (v_pl (s.1 65) (355 + 4 * n) [x1, x2, x3, x4])) 65 8 ((n + 1 : Nat) : Int)) else some (-2, s1) := by
    intro s1 e65
    unfold F_X12_melt
    rw [if_neg q0, P_isBlock (show v_G (s1.1 65) _ _ _ _ by rw [e65]; exact hG), d_b_t, v_bt w0, if_neg (by decide), P_isIn, d_b_t, v_bt w1, if_neg (by decide), P_isIn, d_b_t, v_bt w2, if_neg (by decide), P_isIn, d_b_t, v_bt w3, if_neg (by decide), e65, hn]
    by_cases q : n < 8
    rotate_left
    · rw [if_pos (by omega), if_neg q]
    rw [if_pos q]
    rw [if_neg (by omega), show d_w (355 + 4 * (n : Int)) = 355 + 4 * (n : Int) from d_w_id (by omega) (by omega), d_l_t]
    have ek : ∀ k : Int, 0 ≤ k → k < 5 → d_w (355 + 4 * (n : Int) + k) = 355 + 4 * (n : Int) + k := fun k h1 h2 => d_w_id (by omega) (by omega)
    have u0 : (355 + 4 * (n : Int)).toNat = 355 + 4 * n := by omega
    have u1 : (355 + 4 * (n : Int) + 1).toNat = 355 + 4 * n + 1 := by omega
    have u2 : (355 + 4 * (n : Int) + 2).toNat = 355 + 4 * n + 2 := by omega
    have u3 : (355 + 4 * (n : Int) + 3).toNat = 355 + 4 * n + 3 := by omega
    simp (disch := first | decide | omega) only [ek, d_g_t, d_l_t, u0, u1, u2, u3]
    rw [v_d4, d_si_i, d_u_t, d_st_i, v_pl_o (by show 8 < 355 + 4 * n ∨ 355 + 4 * n + 4 ≤ 8; omega), e65, hn, d_w_id (by omega) (by omega)]
    rfl
  by_cases q : n < 8
  rotate_left
  · exact v_AA.same h (-2) (by rw [hC, if_neg q]) (by show F_X12_melt s x1 x2 x3 x4 = _; rw [hD s rfl, if_neg q])
  have s65 : (d_si (d_st s 19 (v_pl (s.1 19) (4 * n) [x1, x2, x3, x4])) 18 2 ((n + 1 : Nat) : Int)).1 65 = s.1 65 := by rw [d_si_n (by decide), d_st_n (by decide)]
  refine ⟨_, _, _, by rw [hC, if_pos q], by show F_X12_melt _ x1 x2 x3 x4 = _; rw [hD _ s65, if_pos q], ?_⟩
  refine hend (n + 1) (v_pl (s.1 19) (4 * n) [x1, x2, x3, x4]) (v_pl (s.1 65) (355 + 4 * n) [x1, x2, x3, x4]) (fun j => ⟨by omega, fun hj i hi => ?_⟩) (fun j hj => v_pl_o (by show j < 355 + 4 * n ∨ 355 + 4 * n + 4 ≤ j; omega)) (fun j hj => ?_)
  · by_cases z : j = n
    · subst z
      rw [v_pl_i (by show i < 4; omega), v_pl_i (by show i < 4; omega)]
    · rw [v_pl_o (by show 4 * j + i < 4 * n ∨ 4 * n + 4 ≤ 4 * j + i; omega), v_pl_o (by show 355 + 4 * j + i < 355 + 4 * n ∨ 355 + 4 * n + 4 ≤ 355 + 4 * j + i; omega)]
      exact e2 j i (by omega) hi
  · by_cases z : j = n
    · subst z
      have p0 : v_pl (s.1 65) (355 + 4 * j) [x1, x2, x3, x4] (355 + 4 * j) = x1 := by
        have := v_pl_i (f := s.1 65) (p := 355 + 4 * j) (l := [x1, x2, x3, x4]) (k := 0) (by show 0 < 4; decide)
        rw [show 355 + 4 * j = 355 + 4 * j + 0 by omega]
        exact this
      have p1 : v_pl (s.1 65) (355 + 4 * j) [x1, x2, x3, x4] (356 + 4 * j) = x2 := by
        have := v_pl_i (f := s.1 65) (p := 355 + 4 * j) (l := [x1, x2, x3, x4]) (k := 1) (by show 1 < 4; decide)
        rw [show 356 + 4 * j = 355 + 4 * j + 1 by omega]
        exact this
      have p2 : v_pl (s.1 65) (355 + 4 * j) [x1, x2, x3, x4] (357 + 4 * j) = x3 := by
        have := v_pl_i (f := s.1 65) (p := 355 + 4 * j) (l := [x1, x2, x3, x4]) (k := 2) (by show 2 < 4; decide)
        rw [show 357 + 4 * j = 355 + 4 * j + 2 by omega]
        exact this
      have p3 : v_pl (s.1 65) (355 + 4 * j) [x1, x2, x3, x4] (358 + 4 * j) = x4 := by
        have := v_pl_i (f := s.1 65) (p := 355 + 4 * j) (l := [x1, x2, x3, x4]) (k := 3) (by show 3 < 4; decide)
        rw [show 358 + 4 * j = 355 + 4 * j + 3 by omega]
        exact this
      rw [p0, p1, p2, p3]
      exact ⟨by omega, w1, w2, w3⟩
    · rw [v_pl_o (by show 355 + 4 * j < 355 + 4 * n ∨ 355 + 4 * n + 4 ≤ 355 + 4 * j; omega), v_pl_o (by show 356 + 4 * j < 355 + 4 * n ∨ 355 + 4 * n + 4 ≤ 356 + 4 * j; omega), v_pl_o (by show 357 + 4 * j < 355 + 4 * n ∨ 355 + 4 * n + 4 ≤ 357 + 4 * j; omega), v_pl_o (by show 358 + 4 * j < 355 + 4 * n ∨ 355 + 4 * n + 4 ≤ 358 + 4 * j; omega)]
      exact g8 j (by omega)
end V18

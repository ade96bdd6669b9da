section V27
variable {s s' z z' : d_S} {t : Nat → Option p_C}
def v_row (t : Nat → Option p_C) (b c : Nat) (T : Nat → Int) (p : Nat) (w : Nat) (P : Nat → Int) : Prop := w ≤ 9 ∧ (∀ s : d_S, F_X7_part t s b (c : Int) 0 = some (w : Int) ∧ ∀ i : Nat, 1 ≤ i → i < 7 → ∃ y, F_X7_part t s b (c : Int) (i : Int) = some y ∧ (i ≤ v_np w → y = P i ∧ 0 ≤ y ∧ y ≤ 99)) ∧ T p = ((v_sx w : Nat) : Int) ∧ ∀ i : Nat, 1 ≤ i → i ≤ v_np w → T (p + i) = P i
theorem v_R.r (h : 0 ≤ s.1 65 0 ∧ s.1 65 0 ≤ 99) : d_R (s.1 65 0) := ⟨by omega, by omega⟩
theorem v_perform (h : v_R t (d_mx s z)) {b c p w : Nat} {P : Nat → Int} (hr : v_row t b c (z.1 67) p w P) (hp : p + 6 < 3108) : ∃ v s' z', F_X11_perform t s (some b) (c : Int) = some (v, s') ∧ F_X12_isPlayed z (p : Int) = some (v, z') ∧ v_R t (d_mx s' z') ∧ v_fC s s' ∧ v_fR z z' := by
  obtain ⟨hw, hc, h0, hi⟩ := hr
  obtain ⟨hc0, hci⟩ := hc s
  obtain ⟨y1, e1, f1⟩ := hci 1 (by decide) (by decide)
  obtain ⟨y2, e2, f2⟩ := hci 2 (by decide) (by decide)
  obtain ⟨y3, e3, f3⟩ := hci 3 (by decide) (by decide)
  obtain ⟨y4, e4, f4⟩ := hci 4 (by decide) (by decide)
  obtain ⟨y5, e5, f5⟩ := hci 5 (by decide) (by decide)
  obtain ⟨y6, e6, f6⟩ := hci 6 (by decide) (by decide)
  have e1 : F_X7_part t s b (c : Int) 1 = some y1 := e1
  have e2 : F_X7_part t s b (c : Int) 2 = some y2 := e2
  have e3 : F_X7_part t s b (c : Int) 3 = some y3 := e3
  have e4 : F_X7_part t s b (c : Int) 4 = some y4 := e4
  have e5 : F_X7_part t s b (c : Int) 5 = some y5 := e5
  have e6 : F_X7_part t s b (c : Int) 6 = some y6 := e6
  have wp : ∀ k : Int, 0 ≤ k → k < 7 → d_w ((p : Int) + k) = (p : Int) + k := fun k h1 h2 => d_w_id (by omega) (by omega)
  have tp : ∀ k : Nat, ((p : Int) + (k : Int)).toNat = p + k := fun k => by omega
  have t1 : ((p : Int) + 1).toNat = p + 1 := by omega
  have t2 : ((p : Int) + 2).toNat = p + 2 := by omega
  have t3 : ((p : Int) + 3).toNat = p + 3 := by omega
  have t4 : ((p : Int) + 4).toNat = p + 4 := by omega
  have t5 : ((p : Int) + 5).toNat = p + 5 := by omega
  have t6 : ((p : Int) + 6).toNat = p + 6 := by omega
  show ∃ v s' z', F_X11_perform t s (some b) (c : Int) = _ ∧ F_X12_isPlayed z (p : Int) = _ ∧ _
  unfold F_X11_perform F_X12_isPlayed
  rw [d_b_t, e1, d_b_t, d_b_t, e2, d_b_t, d_b_t, hc0, d_b_t, wp 1 (by decide) (by decide), d_g_t (by omega), d_l_t, wp 2 (by decide) (by decide), d_g_t (by omega), d_l_t, d_g_t (by omega), t1, t2, Int.toNat_natCast, h0]
  have hcase : w = 0 ∨ w = 1 ∨ w = 2 ∨ w = 3 ∨ w = 4 ∨ w = 5 ∨ w = 6 ∨ w = 7 ∨ w = 8 ∨ w = 9 := by omega
  rcases hcase with rfl | rfl | rfl | rfl | rfl | rfl | rfl | rfl | rfl | rfl
  · exact ⟨1, s, z, rfl, rfl, h, v_fC.rf, v_fR.rf⟩
  · exact ⟨1, s, z, rfl, rfl, h, v_fC.rf, v_fR.rf⟩
  · exact ⟨1, s, z, rfl, rfl, h, v_fC.rf, v_fR.rf⟩
  · 
    rw [hi 1 (by decide) (by decide), hi 2 (by decide) (by decide), ← (f1 (by decide)).1, ← (f2 (by decide)).1]
    obtain ⟨v, s1, z1, g1, g2, g3, g4, g5⟩ := A2_pond (t := t) (x := y1) (y := y2) s z h
    have g1 : F_X11_pond s y1 y2 = some (v, s1) := g1
    have g2 : F_X12_pond z y1 y2 = some (v, z1) := g2
    refine ⟨v, s1, z1, ?_, ?_, g3, g4, g5⟩
    · rw [if_pos (by decide), g1, d_b2_t]
    · rw [if_pos (by decide), g2, d_b2_t]
  · 
    have n1 := f1 (by decide)
    have n2 := f2 (by decide)
    have n3 := f3 (by decide)
    have n4 := f4 (by decide)
    have n5 := f5 (by decide)
    have n6 := f6 (by decide)
    obtain ⟨v, s1, z1, g1, g2, g3, g4, g5, g6⟩ := A2_sight (t := t) (x1 := y1) (x2 := y2) (x3 := y3) (x4 := y4) (x5 := y5) (x6 := y6) ⟨by omega, by omega⟩ ⟨by omega, by omega⟩ s z h
    refine ⟨if v = -1 then 0 else 1, s1, z1, ?_, ?_, g3, g4, g5⟩
    · rw [if_neg (by decide), if_pos (by decide), d_b_t, e3, d_b_t, d_b_t, e4, d_b_t, d_b_t, e5, d_b_t, d_b_t, e6, d_b_t, g1, d_b2_t]
      by_cases q : v = -1
      · rw [if_pos q, if_pos q]
      · rw [if_neg q, if_neg q]
    · rw [if_neg (by decide), if_pos (by decide), wp 3 (by decide) (by decide), d_g_t (by omega), wp 4 (by decide) (by decide), d_g_t (by omega), wp 5 (by decide) (by decide), d_g_t (by omega), wp 6 (by decide) (by decide), d_g_t (by omega), t3, t4, t5, t6, hi 1 (by decide) (by decide), hi 2 (by decide) (by decide), hi 3 (by decide) (by decide), hi 4 (by decide) (by decide), hi 5 (by decide) (by decide), hi 6 (by decide) (by decide), ← n1.1, ← n2.1, ← n3.1, ← n4.1, ← n5.1, ← n6.1, g2, d_b2_t]
      by_cases q : v = -1
      · rw [if_pos q, if_pos (by omega)]
      · rw [if_neg q, if_neg (by omega)]
  · 
    rw [hi 1 (by decide) (by decide), ← (f1 (by decide)).1]
    rw [if_neg (by decide), if_neg (by decide), if_pos (by decide), if_neg (by decide), if_neg (by decide), if_pos (by decide), v_sC_eq, v_sR_eq]
    rcases v_saw (x := y1) h (i := if (1 : Int) = 0 then 1 else 0) (by decide) with ⟨c1, c2⟩ | ⟨s1, z1, n, c1, c2, c3, c4, c5, c6, c7⟩
    · exact ⟨0, s, z, by rw [c1, d_b2_t], by rw [c2, d_b2_t, if_pos (by decide)], h, v_fC.rf, v_fR.rf⟩
    · exact ⟨1, s1, z1, by rw [c1, d_b2_t], by rw [c2, d_b2_t, if_neg (by omega)], c5, c6, c7⟩
  · 
    rw [hi 1 (by decide) (by decide), ← (f1 (by decide)).1]
    rw [if_neg (by decide), if_neg (by decide), if_neg (by decide), if_pos (by decide), if_neg (by decide), if_neg (by decide), if_neg (by decide), if_pos (by decide), v_sC_eq, v_sR_eq]
    rcases v_saw (x := y1) h (i := if (0 : Int) = 0 then 1 else 0) (by decide) with ⟨c1, c2⟩ | ⟨s1, z1, n, c1, c2, c3, c4, c5, c6, c7⟩
    · exact ⟨0, s, z, by rw [c1, d_b2_t], by rw [c2, d_b2_t, if_pos (by decide)], h, v_fC.rf, v_fR.rf⟩
    · exact ⟨1, s1, z1, by rw [c1, d_b2_t], by rw [c2, d_b2_t, if_neg (by omega)], c5, c6, c7⟩
  · 
    rw [hi 1 (by decide) (by decide), ← (f1 (by decide)).1]
    rw [if_neg (by decide), if_neg (by decide), if_neg (by decide), if_neg (by decide), if_pos (by decide), if_neg (by decide), if_neg (by decide), if_neg (by decide), if_neg (by decide), if_neg (by decide), if_neg (by decide), if_pos (by decide)]
    rcases v_sellH (b := y1) h with ⟨c1, c2⟩ | ⟨n, s1, z1, c1, c2, c3, c4, c5, c6⟩
    · exact ⟨0, s, z, by rw [c1, d_b2_t, if_pos rfl], by rw [c2, d_b2_t, if_pos (by decide)], h, v_fC.rf, v_fR.rf⟩
    · exact ⟨1, s1, z1, by rw [c1, d_b2_t, if_neg (by omega)], by rw [c2, d_b2_t, if_neg (by omega)], c4, c5, c6⟩
  · 
    rw [hi 1 (by decide) (by decide), hi 2 (by decide) (by decide), ← (f1 (by decide)).1, ← (f2 (by decide)).1]
    rw [if_neg (by decide), if_neg (by decide), if_neg (by decide), if_neg (by decide), if_neg (by decide), if_pos (by decide), if_neg (by decide), if_neg (by decide), if_neg (by decide), if_neg (by decide), if_pos (by decide)]
    rcases v_straw (x := y1) (b := y2) h with ⟨c1, c2⟩ | ⟨s1, z1, n, c1, c2, c3, c4, c5, c6, c7⟩
    · exact ⟨0, s, z, by rw [c1, d_b2_t], by rw [c2, d_b2_t, if_pos (by decide)], h, v_fC.rf, v_fR.rf⟩
    · exact ⟨1, s1, z1, by rw [c1, d_b2_t], by rw [c2, d_b2_t, if_neg (by omega)], c5, c6, c7⟩
  · 
    have n1 := f1 (by decide)
    rw [hi 1 (by decide) (by decide), ← n1.1]
    rw [if_neg (by decide), if_neg (by decide), if_neg (by decide), if_neg (by decide), if_neg (by decide), if_neg (by decide), if_pos (by decide), if_neg (by decide), if_neg (by decide), if_neg (by decide), if_neg (by decide), if_neg (by decide), if_pos (by decide)]
    obtain ⟨n, rfl⟩ : ∃ n : Nat, y1 = n := ⟨y1.toNat, by omega⟩
    obtain ⟨v, s1, z1, r1, r2, r3, r4, r5, r6, r7⟩ := v_days (t := t) (n := n) (by omega) n 0 d_N d_N (by omega) (by rw [d_N_is]; omega) (by rw [d_N_is]; omega) s z h
    have g1 : F_X11_passDays t s (n : Int) = some (v, s1) := r1
    have g2 : F_X12_arePassed z (n : Int) = some (v, z1) := r2
    exact ⟨v, s1, z1, by rw [g1, d_b2_t], by rw [g2, d_b2_t], r5, r6, r7⟩
theorem v_playl {b k : Nat} {r : v_TR} {T : Nat → Int} (hk : k < 4) (hC : v_TC t b r) (hD : v_TD T k r) : ∀ (j c m m' : Nat), c + j = r.1 → j < m → j < m' → ∀ s z, z.1 67 = T → v_R t (d_mx s z) → ∃ v s' z', F_X11_played_l18 t m (some b) (c : Int) s = some (v, s') ∧ F_X12_played_l21 m' (k : Int) (c : Int) z = some (v, z') ∧ v_R t (d_mx s' z') ∧ v_fC s s' ∧ v_fR z z' := by
  obtain ⟨-, hn, h24, hrow, -⟩ := hC
  obtain ⟨hT0, hTr, -⟩ := hD
  have e777 : d_w (777 * (k : Int)) = 777 * (k : Int) := d_w_id (by omega) (by omega)
  have t777 : (777 * (k : Int)).toNat = 777 * k := by omega
  intro j
  induction j with
  | zero =>
    intro c m m' hc hm hm' s z hT h
    obtain ⟨m, rfl⟩ : ∃ q, m = q + 1 := ⟨m - 1, by omega⟩
    obtain ⟨m', rfl⟩ : ∃ q, m' = q + 1 := ⟨m' - 1, by omega⟩
    refine ⟨-1, s, z, ?_, ?_, h, v_fC.rf, v_fR.rf⟩
    · show F_X11_played_l18_b t (F_X11_played_l18 t m) _ _ s = _
      unfold F_X11_played_l18_b
      rw [d_b_t, hn, d_b_t, if_neg (by omega)]
    · show F_X12_played_l21_b (F_X12_played_l21 m') _ _ z = _
      unfold F_X12_played_l21_b
      rw [e777, d_g_t (by omega), t777, hT, hT0, if_neg (by omega)]
  | succ j ih =>
    intro c m m' hc hm hm' s z hT h
    obtain ⟨m, rfl⟩ : ∃ q, m = q + 1 := ⟨m - 1, by omega⟩
    obtain ⟨m', rfl⟩ : ∃ q, m' = q + 1 := ⟨m' - 1, by omega⟩
    have hc24 : c < r.1 := by omega
    have ep : d_w (777 * (k : Int) + 1 + 7 * (c : Int)) = ((777 * k + 1 + 7 * c : Nat) : Int) := by rw [d_w_id (by omega) (by omega)]; omega
    obtain ⟨g0, g1⟩ := hTr c hc24
    have hR : v_row t b c (z.1 67) (777 * k + 1 + 7 * c) (r.2.1 c) (r.2.2.1 c) := ⟨(hrow s c hc24).1, fun s => (hrow s c hc24).2, by rw [hT]; exact g0, fun i h1 h2 => by rw [hT]; exact g1 i h1 h2⟩
    obtain ⟨v, s1, z1, p1, p2, p3, p4, p5⟩ := v_perform h hR (by omega)
    show ∃ v s' z', F_X11_played_l18_b t (F_X11_played_l18 t m) _ _ s = _ ∧ F_X12_played_l21_b (F_X12_played_l21 m') _ _ z = _ ∧ _
    unfold F_X11_played_l18_b F_X12_played_l21_b
    have hcn : (c : Int) < (r.1 : Int) := by omega
    rw [d_b_t, hn, d_b_t, if_pos hcn, p1, d_b2_t, e777, d_g_t (by omega), t777, hT, hT0, if_pos hcn, ep, p2, d_b2_t]
    by_cases q : v = 0
    · rw [if_pos q, if_pos q]
      exact ⟨(c : Int), s1, z1, rfl, rfl, p3, p4, p5⟩
    rw [if_neg q, if_neg q, d_w_id (by omega) (by omega)]
    obtain ⟨v2, s2, z2, r1, r2, r3, r4, r5⟩ := ih (c + 1) m m' (by omega) (by omega) (by omega) s1 z1 (by rw [p5.1 67 (Or.inr rfl)]; exact hT) p3
    exact ⟨v2, s2, z2, r1, r2, r3, p4.tr r4, p5.tr r5⟩
theorem R_played {x1 : Int} (h : v_R t s) : v_AA t (F_X11_played t s x1) (fun s1 => F_X12_played s1 x1) := by
  refine v_A2.AA (C := fun s => F_X11_played t s x1) (fun s z h => ?_) h
  have h' := h
  obtain ⟨hW, hI, -, -, -, hQ, ⟨r, hr, -⟩, hN, -⟩ := h'
  have hI : v_I (z.1 65) := hI
  obtain ⟨⟨-, -, -, -, w5, w6⟩, -⟩ := hW.1
  have w5 : s.1 3 5 = z.1 65 1 := w5
  obtain ⟨t1, t2, -⟩ := hI.2.2.1
  show ∃ v s' z', F_X11_played t s x1 = _ ∧ F_X12_played z x1 = _ ∧ _
  unfold F_X11_played F_X12_played
  have hta : F_X9_textAt_3 s x1 = some (if 0 ≤ x1 ∧ x1 < z.1 65 1 then s.2.1 5 x1.toNat else none) := by
    unfold F_X9_textAt_3 F_X9_textAt_3_j30
    rw [w5]
    by_cases q : x1 < 0
    · rw [if_pos q, if_neg (by omega)]
    · rw [if_neg q]
      by_cases q2 : x1 < z.1 65 1
      · rw [if_pos q2, if_pos (by omega), d_g_t (by omega), if_pos (by omega)]
      · rw [if_neg q2, if_neg (by omega)]
  rw [hta, d_b_t, P_isIn, d_b_t, d_w_id (by omega) (by omega)]
  by_cases q : 0 ≤ x1 ∧ x1 < z.1 65 1
  rotate_left
  · rw [if_neg q, v_bf (by omega), if_pos rfl]
    exact ⟨-2, s, z, rfl, rfl, h, v_fC.rf, v_fR.rf⟩
  rw [if_pos q, v_bt (by omega), if_neg (by decide)]
  obtain ⟨k, rfl⟩ : ∃ k : Nat, x1 = k := ⟨x1.toNat, by omega⟩
  obtain ⟨hD, b, hb, hC⟩ := hr k q.2
  have hb : s.2.1 5 k = some b := hb
  rw [Int.toNat_natCast, hb]
  exact v_playl (T := z.1 67) (by omega) hC hD (r k).1 0 d_N d_N (by omega) (by rw [d_N_is]; have := hC.2.2.1; omega) (by rw [d_N_is]; have := hC.2.2.1; omega) s z rfl h
end V27
def v_AP (C D : Option Int) : Prop := ∃ v, C = some v ∧ D = some v
section V28
variable {s s' z z' : d_S} {t : Nat → Option p_C} {L : v_LR} {u v W H b N : Nat} {st me so : Nat → Nat} {sg : Nat → Nat → Nat} {day heat x size edge sold : Int} {q : v_T5}
theorem v_R.all (h : v_R t s) : ∃ u v W H st me so N sg, v_G (s.1 65) u v W H ∧ v_Q s u v W H ∧ v_B (s.1 65) st me so ∧ v_M s st me so ∧ v_Z (s.1 65) N sg ∧ v_S s N sg ∧ v_C s u v W H ∧ ∀ n, n < N → (1 ≤ sg n 3 ∧ sg n 3 ≤ 3) ∧ (1 ≤ sg n 4 ∧ sg n 4 ≤ 3) ∧ sg n 1 + sg n 3 ≤ W ∧ sg n 2 + sg n 4 ≤ H := by
  obtain ⟨hW, hI, -, -, -, hQ, -, hN, -⟩ := h
  have hG := hI.G
  refine ⟨_, _, _, _, _, _, _, _, _, hG, hQ, hI.B, hW.M hI, hI.Z, hW.S hI, hW.C hI, fun n hn => ?_⟩
  obtain ⟨hz, -, hz2⟩ := hI.Z
  obtain ⟨g1, g2, g3, g4, g5⟩ := hI.1.2.2.2.2.2 n (by omega)
  have a1 := (hz2 n hn 1 (by decide)).1
  have a2 := (hz2 n hn 2 (by decide)).1
  have a3 := (hz2 n hn 3 (by decide)).1
  have a4 := (hz2 n hn 4 (by decide)).1
  obtain ⟨⟨-, -, w1, w2⟩, -⟩ := hG
  rw [a3] at g2
  rw [a4] at g3
  rw [a1, a3, w1] at g4
  rw [a2, a4, w2] at g5
  exact ⟨by omega, by omega, by omega, by omega⟩
theorem R_fault (h : v_R t s) {x : Int} : v_AP (F_X11_fault s x) (F_X12_fault s x) := by
  obtain ⟨-, -, -, -, -, -, -, -, -, -, -, e2, e3⟩ := h
  unfold F_X11_fault F_X12_fault
  by_cases q0 : x = 0
  · rw [if_pos q0, if_pos q0, e2]; exact ⟨_, rfl, rfl⟩
  rw [if_neg q0, if_neg q0]
  by_cases q1 : x = 1
  · rw [if_pos q1, if_pos q1, e3]; exact ⟨_, rfl, rfl⟩
  rw [if_neg q1, if_neg q1]
  exact ⟨_, rfl, rfl⟩
theorem R_about (h : v_R t s) {x : Int} : v_AP (F_X11_about s x) (F_X12_about s x) := by
  obtain ⟨hW, -, -, -, -, -, -, -, e1, -⟩ := h
  obtain ⟨⟨⟨-, -, -, w3, w5, w6⟩, -⟩, -, ⟨n, c, -, s2, s3⟩, -, ⟨a1, -⟩, ⟨b1, -⟩, ⟨c1, -⟩, ⟨d1, -⟩, g1, -⟩ := hW
  have w3 : s.1 3 3 = s.1 65 0 := w3
  have w5 : s.1 3 5 = s.1 65 1 := w5
  have w6 : s.1 3 6 = s.1 65 2 := w6
  have s2 : s.1 8 2 = s.1 65 3 := (show s.1 8 2 = c from s2).trans s3.2.2.1.symm
  have a1 : s.1 10 2 = s.1 65 4 := a1
  have b1 : s.1 12 2 = s.1 65 5 := b1
  have c1 : s.1 14 2 = s.1 65 6 := c1
  have d1 : s.1 16 2 = s.1 65 7 := d1
  have g1 : s.1 18 2 = s.1 65 8 := g1
  unfold F_X11_about F_X12_about v_AP
  rw [w3, w5, w6, s2, a1, b1, c1, d1, g1, e1]
  repeat' split
  all_goals exact ⟨_, rfl, rfl⟩
theorem R_is (h : v_R t s) {x : Int} : v_AP (F_X11_is s x) (F_X12_is s x) := by
  have hG := h.2.1.G
  have hQ := h.2.2.2.2.2.1
  obtain ⟨hW, -, -, -, -, -, -, -, e1, -⟩ := h
  obtain ⟨⟨⟨w0, w1, -⟩, -⟩, ⟨hy, -⟩, -⟩ := hW
  have w0 : s.1 3 0 = s.1 65 16 := w0
  have w1 : s.1 3 1 = s.1 65 17 := w1
  have y0 : s.1 6 0 = s.1 65 14 := hy 0 (by decide)
  have y1 : s.1 6 1 = s.1 65 15 := hy 1 (by decide)
  have y2 : s.1 6 2 = s.1 65 12 := hy 2 (by decide)
  have y3 : s.1 6 3 = s.1 65 9 := hy 3 (by decide)
  have y4 : s.1 6 4 = s.1 65 10 := hy 4 (by decide)
  have y5 : s.1 6 5 = s.1 65 11 := hy 5 (by decide)
  have y6 : s.1 6 6 = s.1 65 13 := hy 6 (by decide)
  unfold F_X11_is F_X12_is v_AP
  rw [P_isIn, d_b_t, w0, w1, y0, y1, y2, y3, y4, y5, y6, hQ.1]
  by_cases c : 0 ≤ x ∧ x ≤ 8
  · rw [v_bt c, if_neg (show ¬ (1 : Int) = 0 by decide), d_w_id (by omega) (by omega), d_g_t (by omega)]
    have : x = 0 ∨ x = 1 ∨ x = 2 ∨ x = 3 ∨ x = 4 ∨ x = 5 ∨ x = 6 ∨ x = 7 ∨ x = 8 := by omega
    rcases this with rfl | rfl | rfl | rfl | rfl | rfl | rfl | rfl | rfl <;> exact ⟨_, rfl, rfl⟩
  · rw [v_bf c, if_pos rfl, if_neg (by omega), if_neg (by omega), if_neg (by omega), if_neg (by omega), if_neg (by omega), if_neg (by omega), if_neg (by omega), if_neg (by omega), if_neg (by omega)]
    by_cases q9 : x = 9
    · rw [if_pos q9, if_pos q9, P_blocks hG, d_b_t]; exact ⟨_, rfl, rfl⟩
    · rw [if_neg q9, if_neg q9]; exact ⟨_, rfl, rfl⟩
theorem v_d0 {x : Int} (h : d_R x) : d_w (x + 0) = x := by rw [Int.add_zero]; exact d_w_id h.1 h.2
theorem v_icel (hG : v_G (s.1 65) u v W H) (hQ : v_Q s u v W H) (hB : v_B (s.1 65) st me so) (hM : v_M s st me so) {y : Int} : ∀ (j k m m' : Nat), k + j = v_bl u v → j < m → j < m' → ∀ x, d_R x → v_AP (F_X11_ice_l4 s m y x (k : Int)) (F_X12_ice_l4 s m' y x (k : Int)) := by
  have hac := hG.ac
  intro j
  induction j with
  | zero =>
    intro k m m' hk hm hm' x hx
    obtain ⟨m, rfl⟩ : ∃ q, m = q + 1 := ⟨m - 1, by omega⟩
    obtain ⟨m', rfl⟩ : ∃ q, m' = q + 1 := ⟨m' - 1, by omega⟩
    show v_AP (F_X11_ice_l4_b s (F_X11_ice_l4 s m) _ _ _) (F_X12_ice_l4_b s (F_X12_ice_l4 s m') _ _ _)
    unfold F_X11_ice_l4_b F_X12_ice_l4_b
    rw [P_blocks hG, d_b_t, hQ.1]
    have hn : ¬ ((k : Nat) : Int) < ((v_bl u v : Nat) : Int) := by omega
    rw [if_neg hn, if_neg hn]
    exact ⟨_, rfl, rfl⟩
  | succ j ih =>
    intro k m m' hk hm hm' x hx
    obtain ⟨m, rfl⟩ : ∃ q, m = q + 1 := ⟨m - 1, by omega⟩
    obtain ⟨m', rfl⟩ : ∃ q, m' = q + 1 := ⟨m' - 1, by omega⟩
    show v_AP (F_X11_ice_l4_b s (F_X11_ice_l4 s m) _ _ _) (F_X12_ice_l4_b s (F_X12_ice_l4 s m') _ _ _)
    unfold F_X11_ice_l4_b F_X12_ice_l4_b
    have hkb : k < v_bl u v := by omega
    have hp : ((k : Nat) : Int) < ((v_bl u v : Nat) : Int) := by omega
    rw [P_blocks hG, d_b_t, hQ.1, if_pos hp, if_pos hp, P_isSoldC hM (by omega), P_isSold hB (by omega), d_b_t, d_b_t, v_d0 hx, d_w_id (x := (k : Int) + 1) (by omega) (by omega)]
    by_cases c : ((so k : Nat) : Int) = y
    · rw [if_pos c, if_pos c, P_sizeOfC hQ hkb, P_wideOf hG hkb, P_highOf hG hkb, d_b_t, d_b_t, d_b_t, ← Int.natCast_mul]
      exact ih (k + 1) m m' (by omega) (by omega) (by omega) _ d_R_w
    · rw [if_neg c, if_neg c]
      exact ih (k + 1) m m' (by omega) (by omega) (by omega) _ hx
theorem R_ice (h : v_R t s) {x : Int} : v_AP (F_X11_ice s x) (F_X12_ice s x) := by
  obtain ⟨u, v, W, H, st, me, so, N, sg, hG, hQ, hB, hM, -⟩ := h.all
  exact v_icel hG hQ hB hM (v_bl u v) 0 d_N d_N (by omega) (by rw [d_N_is]; have := hG.ac.2.2.1; omega) (by rw [d_N_is]; have := hG.ac.2.2.1; omega) 0 (d_rl rfl)
theorem v_gonel (hG : v_G (s.1 65) u v W H) (hQ : v_Q s u v W H) (hB : v_B (s.1 65) st me so) (hM : v_M s st me so) : ∀ (j k m m' : Nat), k + j = v_bl u v → j < m → j < m' → ∀ x, d_R x → v_AP (F_X11_gone_l4 s m x (k : Int)) (F_X12_gone_l4 s m' x (k : Int)) := by
  have hac := hG.ac
  intro j
  induction j with
  | zero =>
    intro k m m' hk hm hm' x hx
    obtain ⟨m, rfl⟩ : ∃ q, m = q + 1 := ⟨m - 1, by omega⟩
    obtain ⟨m', rfl⟩ : ∃ q, m' = q + 1 := ⟨m' - 1, by omega⟩
    show v_AP (F_X11_gone_l4_b s (F_X11_gone_l4 s m) _ _) (F_X12_gone_l4_b s (F_X12_gone_l4 s m') _ _)
    unfold F_X11_gone_l4_b F_X12_gone_l4_b
    rw [P_blocks hG, d_b_t, hQ.1]
    have hn : ¬ ((k : Nat) : Int) < ((v_bl u v : Nat) : Int) := by omega
    rw [if_neg hn, if_neg hn]
    exact ⟨_, rfl, rfl⟩
  | succ j ih =>
    intro k m m' hk hm hm' x hx
    obtain ⟨m, rfl⟩ : ∃ q, m = q + 1 := ⟨m - 1, by omega⟩
    obtain ⟨m', rfl⟩ : ∃ q, m' = q + 1 := ⟨m' - 1, by omega⟩
    show v_AP (F_X11_gone_l4_b s (F_X11_gone_l4 s m) _ _) (F_X12_gone_l4_b s (F_X12_gone_l4 s m') _ _)
    unfold F_X11_gone_l4_b F_X12_gone_l4_b
    have hkb : k < v_bl u v := by omega
    have hp : ((k : Nat) : Int) < ((v_bl u v : Nat) : Int) := by omega
    obtain ⟨-, m1, m2, m3⟩ := hM k (by omega)
    rw [P_blocks hG, d_b_t, hQ.1, if_pos hp, if_pos hp, P_meltedOf hM (by omega), P_isWater hB (by omega), d_b_t, d_b_t, v_bit1_, v_bit0_, d_b_t, d_b_t, d_w_id (x := (k : Int) + 1) (by omega) (by omega)]
    by_cases c : me k = 100
    · rw [v_bt c, if_neg (show ¬ (1 : Int) = 0 by decide), if_neg (by omega)]
      exact ih (k + 1) m m' (by omega) (by omega) (by omega) _ d_R_w
    · rw [v_bf c, if_pos (show (0 : Int) = 0 from rfl), if_pos (by omega)]
      exact ih (k + 1) m m' (by omega) (by omega) (by omega) _ d_R_w
theorem R_gone (h : v_R t s) : v_AP (F_X11_gone s) (F_X12_gone s) := by
  obtain ⟨u, v, W, H, st, me, so, N, sg, hG, hQ, hB, hM, -⟩ := h.all
  exact v_gonel hG hQ hB hM (v_bl u v) 0 d_N d_N (by omega) (by rw [d_N_is]; have := hG.ac.2.2.1; omega) (by rw [d_N_is]; have := hG.ac.2.2.1; omega) 0 (d_rl rfl)
theorem v_litterl (hG : v_G (s.1 65) u v W H) (hQ : v_Q s u v W H) (hB : v_B (s.1 65) st me so) (hM : v_M s st me so) : ∀ (j k m m' : Nat), k + j = v_bl u v → j < m → j < m' → ∀ x, v_AP (F_X11_litter_l4 s m x (k : Int)) (F_X12_litter_l4 s m' x (k : Int)) := by
  have hac := hG.ac
  intro j
  induction j with
  | zero =>
    intro k m m' hk hm hm' x
    obtain ⟨m, rfl⟩ : ∃ q, m = q + 1 := ⟨m - 1, by omega⟩
    obtain ⟨m', rfl⟩ : ∃ q, m' = q + 1 := ⟨m' - 1, by omega⟩
    show v_AP (F_X11_litter_l4_b s (F_X11_litter_l4 s m) _ _) (F_X12_litter_l4_b s (F_X12_litter_l4 s m') _ _)
    unfold F_X11_litter_l4_b F_X12_litter_l4_b
    rw [P_blocks hG, d_b_t, hQ.1]
    have hn : ¬ ((k : Nat) : Int) < ((v_bl u v : Nat) : Int) := by omega
    rw [if_neg hn, if_neg hn]
    exact ⟨_, rfl, rfl⟩
  | succ j ih =>
    intro k m m' hk hm hm' x
    obtain ⟨m, rfl⟩ : ∃ q, m = q + 1 := ⟨m - 1, by omega⟩
    obtain ⟨m', rfl⟩ : ∃ q, m' = q + 1 := ⟨m' - 1, by omega⟩
    show v_AP (F_X11_litter_l4_b s (F_X11_litter_l4 s m) _ _) (F_X12_litter_l4_b s (F_X12_litter_l4 s m') _ _)
    unfold F_X11_litter_l4_b F_X12_litter_l4_b
    have hkb : k < v_bl u v := by omega
    have hp : ((k : Nat) : Int) < ((v_bl u v : Nat) : Int) := by omega
    rw [P_blocks hG, d_b_t, hQ.1, if_pos hp, if_pos hp, P_strawOn hM (by omega), P_get0 hB (by omega), d_b_t, d_b_t, d_w_id (x := (k : Int) + 1) (by omega) (by omega)]
    exact ih (k + 1) m m' (by omega) (by omega) (by omega) _
theorem R_litter (h : v_R t s) : v_AP (F_X11_litter s) (F_X12_litter s) := by
  obtain ⟨u, v, W, H, st, me, so, N, sg, hG, hQ, hB, hM, -⟩ := h.all
  exact v_litterl hG hQ hB hM (v_bl u v) 0 d_N d_N (by omega) (by rw [d_N_is]; have := hG.ac.2.2.1; omega) (by rw [d_N_is]; have := hG.ac.2.2.1; omega) 0
theorem P_meltsAt (hT : v_CT t (s.2.1 47 3) L) (hK : v_K s q sold) (hb : v_tb s size edge) : ∃ s', F_X0_meltsAt t s = some (v_mel L q.1 q.2.1 size q.2.2.1 q.2.2.2.1 edge, s') ∧ (∀ a, a ≠ 49 → a ≠ 50 → s'.1 a = s.1 a) ∧ s'.2 = s.2 ∧ v_Nm (s'.1 49) := by
  obtain ⟨⟨k6, k7, k8, k9, k5, k10⟩, ⟨o1, o2, o3, o4, o5⟩, -⟩ := hK
  obtain ⟨b3, b5, hN⟩ := hb
  obtain ⟨s1, hs1⟩ : ∃ y, y = d_si (d_si (d_si (d_si s 49 1 q.1) 49 2 q.2.1) 49 0 q.2.2.1) 49 4 q.2.2.2.1 := ⟨_, rfl⟩
  have e49 : s1.1 49 = d_u (d_u (d_u (d_u (s.1 49) 1 q.1) 2 q.2.1) 0 q.2.2.1) 4 q.2.2.2.1 := by rw [hs1]; exact v_told
  have eo : ∀ a, a ≠ 49 → s1.1 a = s.1 a := fun a ha => by rw [hs1, d_si_n ha, d_si_n ha, d_si_n ha, d_si_n ha]
  have hN1 : v_Nm (s1.1 49) := by
    rw [e49]
    exact (((hN.u (k := 1) (by omega) (by omega)).u (k := 2) (by omega) (by omega)).u (k := 0) (by omega) (by omega)).u (k := 4) (by omega) (by omega)
  have ep : s1.2 = s.2 := by rw [hs1]; rfl
  obtain ⟨s2, g1, g2⟩ := P_melts (s := s1) (t := t) (e := s.2.1 47 3) (L := L) hT hN1
  refine ⟨s2, ?_, fun a h1 h2 => by rw [g2.1 a (by intro h; simp at h; exact h2 h), eo a h1], g2.2.trans ep, by rw [g2.1 49 (by decide)]; exact hN1⟩
  unfold F_X0_meltsAt F_X0_meltsUnder
  rw [k6, k7, k8, k9, P_tellDay, d_b_t, ← hs1, g1, d_b2_t, d_b2_t, e49]
  congr 1
  refine Prod.ext ?_ rfl
  show v_mel L q.1 q.2.1 (s.1 49 3) q.2.2.1 q.2.2.2.1 (s.1 49 5) = _
  rw [b3, b5]
theorem v_R.yardly (h : v_R t s) : ∃ (e : Option Nat) (L : v_LR), F_X9_ruler_3 s = some e ∧ v_CT t e L ∧ v_RT (s.1 67) (s.1 65 2) L ∧ v_Y s (s.1 65 9) (s.1 65 10) (s.1 65 13) ∧ v_Nm (s.1 49) ∧ v_Nm (s.1 71) ∧ (0 ≤ s.1 65 9 ∧ s.1 65 9 ≤ 999) ∧ (0 ≤ s.1 65 10 ∧ s.1 65 10 ≤ 9) := by
  obtain ⟨e, L, h1, h2, h3⟩ := h.rule
  obtain ⟨hW, hI, -, -, -, -, -, hN, -⟩ := h
  exact ⟨e, L, h1, h2, h3, hW.Y hI, hN.1, hN.2, hI.2.2.2.1, hI.2.2.2.2.1⟩
theorem v_R.scr2 (h : v_R t s) {s1 s2 : d_S} (h1 : ∀ a, a ≠ 47 → a ≠ 49 → a ≠ 50 → s1.1 a = s.1 a) (h2 : ∀ a, a ≠ 47 → s1.2.1 a = s.2.1 a) (h3 : v_71 s1 s2) (hN : v_Nm (s1.1 49)) : v_R t s2 := by
  refine h.scr (fun a ha => ?_) (fun a ha => by rw [h3.2.1]; exact h2 a ha) ⟨by rw [h3.1 49 (by decide)]; exact hN, h3.2.2 (by rw [h1 71 (by decide) (by decide) (by decide)]; exact h.2.2.2.2.2.2.2.1.2)⟩
  unfold v_cl at ha
  rw [h3.1 a (by omega), h1 a (by omega) (by omega) (by omega)]
theorem R_block (h : v_R t s) {x1 x2 : Int} : v_AA t (F_X11_block t s x1 x2) (fun s1 => F_X12_block s1 x1 x2) := by
  obtain ⟨u, v, W, H, st, me, so, N, sg, hG, hQ, hB, hM, hZ, hS, -⟩ := h.all
  obtain ⟨e, L, hE, hCT, hRT, hY, hN1, hN2, h9, h10⟩ := h.yardly
  have hac := hG.ac
  by_cases c : 0 ≤ x1 ∧ x1 < ((v_bl u v : Nat) : Int)
  rotate_left
  · refine v_AA.same h (-1) ?_ ?_
    · unfold F_X11_block; rw [P_isBlockC hQ, d_b_t, v_bf c, if_pos rfl]
    · show F_X12_block s x1 x2 = _; unfold F_X12_block; rw [P_isBlock hG, d_b_t, v_bf c, if_pos rfl]
  obtain ⟨b, rfl⟩ : ∃ b : Nat, x1 = b := ⟨x1.toNat, by omega⟩
  have hb : b < v_bl u v := by omega
  have hb64 : b < 64 := by omega
  have e1 : F_X12_isBlock s (b : Int) = some 1 := by rw [P_isBlock hG, v_bt c]
  have same : ∀ w, F_X11_block t s (b : Int) x2 = some (w, s) → F_X12_block s (b : Int) x2 = some (w, s) → v_AA t (F_X11_block t s (b : Int) x2) (fun s1 => F_X12_block s1 (b : Int) x2) := fun w h1 h2 => v_AA.same h w h1 h2
  obtain ⟨-, m1, m2, m3⟩ := hM b hb64
  have hC : ∀ r, F_X11_block t s (b : Int) x2 = r ↔ (if x2 = 0 then d_b (F_X4_leftOf s (b : Int)) (fun v2 => some (v2, s)) else if x2 = 1 then d_b (F_X4_topOf s (b : Int)) (fun v3 => some (v3, s)) else if x2 = 2 then d_b (F_X4_wideOf s (b : Int)) (fun v4 => some (v4, s)) else if x2 = 3 then d_b (F_X4_highOf s (b : Int)) (fun v5 => some (v5, s)) else if x2 = 4 then d_b (F_X10_strawOn_6 s (b : Int)) (fun v6 => some (v6, s)) else if x2 = 5 then d_b (F_X10_meltedOf_6 s (b : Int)) (fun v7 => some (v7, s)) else if x2 = 6 then d_b (F_X10_isSold_6 s (b : Int)) (fun v8 => d_b (F_X11_bit v8) (fun v9 => some (v9, s))) else if x2 = 7 then d_b (F_X4_edgeOf s (b : Int)) (fun v10 => some (v10, s)) else if x2 = 8 then d_b (F_X4_sightsIn_3 s (b : Int)) (fun v11 => some (v11, s)) else if x2 = 9 then d_b2 (F_X11_meltsNow t s (b : Int)) (fun v12 s13 => some (v12, s13)) else if x2 = 10 then d_b2 (F_X11_sellsNow t s (b : Int)) (fun v14 s15 => some (v14, s15)) else some ((-1), s)) = r := fun r => by
    unfold F_X11_block
    rw [P_isBlockC hQ, d_b_t, v_bt c, if_neg (show ¬ (1 : Int) = 0 by decide)]
  have hD : ∀ s1 r, F_X12_isBlock s1 (b : Int) = some 1 → (F_X12_block s1 (b : Int) x2 = r ↔ (if x2 = 0 then d_b (F_X12_leftOf s1 (b : Int)) (fun v2 => some (v2, s1)) else if x2 = 1 then d_b (F_X12_upperOf s1 (b : Int)) (fun v3 => some (v3, s1)) else if x2 = 2 then d_b (F_X12_wideOf s1 (b : Int)) (fun v4 => some (v4, s1)) else if x2 = 3 then d_b (F_X12_highOf s1 (b : Int)) (fun v5 => some (v5, s1)) else if x2 = 4 then d_b (F_X12_get s1 (b : Int) 0) (fun v6 => some (v6, s1)) else if x2 = 5 then d_b (F_X12_get s1 (b : Int) 1) (fun v7 => some (v7, s1)) else if x2 = 6 then d_b (F_X12_get s1 (b : Int) 2) (fun v8 => some (v8, s1)) else if x2 = 7 then d_b (F_X12_edgeOf s1 (b : Int)) (fun v9 => some (v9, s1)) else if x2 = 8 then d_b (F_X12_sightsIn s1 (b : Int)) (fun v10 => some (v10, s1)) else if x2 = 9 then d_b2 (F_X12_meltsOf s1 (b : Int)) (fun v11 s12 => some (v11, s12)) else if x2 = 10 then d_b2 (F_X12_sellsOf s1 (b : Int)) (fun v13 s14 => some (v13, s14)) else some ((-1), s1)) = r) := fun s1 r hh => by
    unfold F_X12_block
    rw [hh, d_b_t, if_neg (show ¬ (1 : Int) = 0 by decide)]
  by_cases q0 : x2 = 0
  · exact same _ ((hC _).2 (by rw [if_pos q0, P_leftOfC hQ hb, d_b_t])) ((hD s _ e1).2 (by rw [if_pos q0, P_leftOf hG hb, d_b_t]))
  by_cases q1 : x2 = 1
  · exact same _ ((hC _).2 (by rw [if_neg q0, if_pos q1, P_topOfC hQ hb, d_b_t])) ((hD s _ e1).2 (by rw [if_neg q0, if_pos q1, P_upperOf hG hb, d_b_t]))
  by_cases q2 : x2 = 2
  · exact same _ ((hC _).2 (by rw [if_neg q0, if_neg q1, if_pos q2, P_wideOfC hQ hb, d_b_t])) ((hD s _ e1).2 (by rw [if_neg q0, if_neg q1, if_pos q2, P_wideOf hG hb, d_b_t]))
  by_cases q3 : x2 = 3
  · exact same _ ((hC _).2 (by rw [if_neg q0, if_neg q1, if_neg q2, if_pos q3, P_highOfC hQ hb, d_b_t])) ((hD s _ e1).2 (by rw [if_neg q0, if_neg q1, if_neg q2, if_pos q3, P_highOf hG hb, d_b_t]))
  by_cases q4 : x2 = 4
  · exact same _ ((hC _).2 (by rw [if_neg q0, if_neg q1, if_neg q2, if_neg q3, if_pos q4, P_strawOn hM hb64, d_b_t])) ((hD s _ e1).2 (by rw [if_neg q0, if_neg q1, if_neg q2, if_neg q3, if_pos q4, P_get0 hB hb64, d_b_t]))
  by_cases q5 : x2 = 5
  · exact same _ ((hC _).2 (by rw [if_neg q0, if_neg q1, if_neg q2, if_neg q3, if_neg q4, if_pos q5, P_meltedOf hM hb64, d_b_t])) ((hD s _ e1).2 (by rw [if_neg q0, if_neg q1, if_neg q2, if_neg q3, if_neg q4, if_pos q5, P_get1 hB hb64, d_b_t]))
  by_cases q6 : x2 = 6
  · have e6 : v_b (¬ ((so b : Nat) : Int) = 0) = ((so b : Nat) : Int) := by
      by_cases q : so b = 0
      · rw [v_bf (by omega), q]; rfl
      · rw [v_bt (by omega), show so b = 1 by omega]; rfl
    exact same _ ((hC _).2 (by rw [if_neg q0, if_neg q1, if_neg q2, if_neg q3, if_neg q4, if_neg q5, if_pos q6, P_isSoldC hM hb64, d_b_t, P_bit, d_b_t, e6])) ((hD s _ e1).2 (by rw [if_neg q0, if_neg q1, if_neg q2, if_neg q3, if_neg q4, if_neg q5, if_pos q6, P_get2 hB hb64, d_b_t]))
  by_cases q7 : x2 = 7
  · exact same _ ((hC _).2 (by rw [if_neg q0, if_neg q1, if_neg q2, if_neg q3, if_neg q4, if_neg q5, if_neg q6, if_pos q7, P_edgeOfC hQ hb, d_b_t])) ((hD s _ e1).2 (by rw [if_neg q0, if_neg q1, if_neg q2, if_neg q3, if_neg q4, if_neg q5, if_neg q6, if_pos q7, P_edgeOf hG hb, d_b_t]))
  by_cases q8 : x2 = 8
  · exact same _ ((hC _).2 (by rw [if_neg q0, if_neg q1, if_neg q2, if_neg q3, if_neg q4, if_neg q5, if_neg q6, if_neg q7, if_pos q8, P_sightsInC hQ hS hb, d_b_t])) ((hD s _ e1).2 (by rw [if_neg q0, if_neg q1, if_neg q2, if_neg q3, if_neg q4, if_neg q5, if_neg q6, if_neg q7, if_pos q8, P_sightsIn hG hZ hb, d_b_t]))
  obtain ⟨s1, a1, a2, a3, a4, a5, a6, a7⟩ := P_start hM hQ hb hE hY hN1
  by_cases q9 : x2 = 9
  · obtain ⟨s2, b1, b2, b3, b4⟩ := P_meltsAt (L := L) (by rw [a4]; exact hCT) a2 a5
    have so' : ∀ a, a ≠ 47 → a ≠ 49 → a ≠ 50 → s2.1 a = s.1 a := fun a h1 h2 h3 => (b2 a h2 h3).trans (a6 a h1 h2)
    have k65 : s2.1 65 = s.1 65 := so' 65 (by decide) (by decide) (by decide)
    obtain ⟨s3, r1, r2⟩ := P_meltsOf (s := s2) (L := L) (day := s.1 65 9) (heat := s.1 65 10) (by rw [k65]; exact hG) hb (by rw [k65, so' 67 (by decide) (by decide) (by decide)]; exact hRT) (by rw [so' 71 (by decide) (by decide) (by decide)]; exact hN2) (by rw [k65]; exact hB) (by rw [k65]) (by rw [k65]) (by omega) (by omega)
    refine ⟨v_mel L (s.1 65 9) (s.1 65 10) ((v_sz u v W H b : Nat) : Int) ((st b : Nat) : Int) ((me b : Nat) : Int) ((v_ed u v W H b : Nat) : Int), s2, s3, (hC _).2 ?_, (hD s2 _ ?_).2 ?_, h.scr2 so' (fun a ha => by rw [b3]; exact a7 a ha) r2 b4⟩
    · rw [if_neg q0, if_neg q1, if_neg q2, if_neg q3, if_neg q4, if_neg q5, if_neg q6, if_neg q7, if_neg q8, if_pos q9]
      unfold F_X11_meltsNow
      rw [a1, d_b_t, b1, d_b2_t, d_b2_t]
    · rw [P_isBlock (by rw [k65]; exact hG), v_bt c]
    · rw [if_neg q0, if_neg q1, if_neg q2, if_neg q3, if_neg q4, if_neg q5, if_neg q6, if_neg q7, if_neg q8, if_pos q9, r1, d_b2_t]
  by_cases qa : x2 = 10
  · obtain ⟨s2, b1, b2, b3, b4⟩ := P_sellsAt (L := L) (b := b) (by rw [a4]; exact hCT) a2 a5 (hQ.fr (fun a h1 h2 => a6 a (by omega) (by omega))) (N := N) (sg := sg) (by
      unfold v_S at hS ⊢
      rw [a6 3 (by decide) (by decide), a6 4 (by decide) (by decide)]; exact hS) a3 hb
    have so' : ∀ a, a ≠ 47 → a ≠ 49 → a ≠ 50 → s2.1 a = s.1 a := fun a h1 h2 h3 => (b2 a h2 h3).trans (a6 a h1 h2)
    have k65 : s2.1 65 = s.1 65 := so' 65 (by decide) (by decide) (by decide)
    obtain ⟨s3, r1, r2⟩ := P_sellsOf (s := s2) (L := L) (day := s.1 65 9) (heat := s.1 65 10) (N := N) (sg := sg) (by rw [k65]; exact hG) (by rw [k65]; exact hZ) hb (by rw [k65, so' 67 (by decide) (by decide) (by decide)]; exact hRT) (by rw [so' 71 (by decide) (by decide) (by decide)]; exact hN2) (by rw [k65]; exact hB) (by rw [k65]) (by rw [k65]) (by omega) (by omega)
    refine ⟨v_sel L (s.1 65 9) (s.1 65 10) ((v_sz u v W H b : Nat) : Int) ((st b : Nat) : Int) ((me b : Nat) : Int) ((v_ed u v W H b : Nat) : Int) ((v_pc (v_si sg u v W H N b) 12 : Nat) : Int) ((v_ki sg u v W H N b : Nat) : Int), s2, s3, (hC _).2 ?_, (hD s2 _ ?_).2 ?_, h.scr2 so' (fun a ha => by rw [b3]; exact a7 a ha) r2 b4⟩
    · rw [if_neg q0, if_neg q1, if_neg q2, if_neg q3, if_neg q4, if_neg q5, if_neg q6, if_neg q7, if_neg q8, if_neg q9, if_pos qa]
      unfold F_X11_sellsNow
      rw [a1, d_b_t, b1, d_b2_t, d_b2_t]
    · rw [P_isBlock (by rw [k65]; exact hG), v_bt c]
    · rw [if_neg q0, if_neg q1, if_neg q2, if_neg q3, if_neg q4, if_neg q5, if_neg q6, if_neg q7, if_neg q8, if_neg q9, if_pos qa, r1, d_b2_t]
  · exact same (-1) ((hC _).2 (by rw [if_neg q0, if_neg q1, if_neg q2, if_neg q3, if_neg q4, if_neg q5, if_neg q6, if_neg q7, if_neg q8, if_neg q9, if_neg qa])) ((hD s _ e1).2 (by rw [if_neg q0, if_neg q1, if_neg q2, if_neg q3, if_neg q4, if_neg q5, if_neg q6, if_neg q7, if_neg q8, if_neg q9, if_neg qa]))
end V28
section V29
variable {s : d_S} {t : Nat → Option p_C} {u v W H b N : Nat} {st me so : Nat → Nat} {sg : Nat → Nat → Nat}
theorem v_cov1 : ∀ W, W < 9 → ∀ u, u < 128 → ∀ p, p < 8 → (u < 2 ^ (W - 1) ∧ p ≤ v_pc u 12 ∧ 1 ≤ W) → (v_bg u p + v_ln u p W ≤ W ∧ 1 ≤ v_ln u p W) := by decide +kernel
theorem v_cov2_ : ∀ W, W < 9 → ∀ u, u < 128 → ∀ y, y < 64 → (u < 2 ^ (W - 1) ∧ y / 8 ≤ v_pc u 12 ∧ y % 8 < W) → decide (v_bg u (y / 8) ≤ y % 8 ∧ y % 8 < v_bg u (y / 8) + v_ln u (y / 8) W) = decide (v_pc u (y % 8) = y / 8) := by decide +kernel
theorem v_cov2 (W : Nat) (hW : W < 9) (u : Nat) (hu : u < 128) (p : Nat) (hp : p < 8) (x : Nat) (hx : x < 8) (h : u < 2 ^ (W - 1) ∧ p ≤ v_pc u 12 ∧ x < W) : (v_bg u p ≤ x ∧ x < v_bg u p + v_ln u p W) ↔ v_pc u x = p := by
  have := v_cov2_ W hW u hu (8 * p + x) (by omega)
  rw [show (8 * p + x) / 8 = p by omega, show (8 * p + x) % 8 = x by omega] at this
  exact decide_eq_decide.1 (this h)
theorem d_w_mod {x : Int} : d_w x = if x % 4294967296 < 2147483648 then x % 4294967296 else x % 4294967296 - 4294967296 := by
  unfold d_w
  rw [Int32.toInt_ofInt, Int.bmod_def]; rfl
theorem v_pcx : ∀ u, u < 128 → ∀ x, x < 9 → v_pc u x ≤ v_pc u 12 := by decide +kernel
theorem v_in (hG : v_G (s.1 65) u v W H) (hb : b < v_bl u v) {x y : Int} : ((0 ≤ x - ((v_lf u b : Nat) : Int) ∧ x - ((v_lf u b : Nat) : Int) ≤ ((v_wd u W b : Nat) : Int) - 1) ∧ (0 ≤ y - ((v_up u v b : Nat) : Int) ∧ y - ((v_up u v b : Nat) : Int) ≤ ((v_hg u v H b : Nat) : Int) - 1)) ↔ ((0 ≤ x ∧ x < (W : Int)) ∧ (0 ≤ y ∧ y < (H : Int)) ∧ b = v_pc v y.toNat * v_ac u + v_pc u x.toNat) := by
  obtain ⟨e1, e2⟩ := v_rc hG hb
  obtain ⟨-, hu, hv, hW, hH, hu2, hv2⟩ := hG
  have ha : 1 ≤ v_ac u := Nat.le_add_left 1 _
  have hp : b % v_ac u < 8 := by have := v_pc8 W (by omega) u hu hu2 hW.1; omega
  have hq : b / v_ac u < 8 := by have := v_pc8 H (by omega) v hv hv2 hH.1; omega
  have a1 := v_cov1 W (by omega) u hu (b % v_ac u) hp ⟨hu2, e1, hW.1⟩
  have b1 := v_cov1 H (by omega) v hv (b / v_ac u) hq ⟨hv2, e2, hH.1⟩
  have hdm := Nat.div_add_mod b (v_ac u)
  rw [Nat.mul_comm] at hdm
  unfold v_lf v_wd v_up v_hg
  constructor
  · rintro ⟨h1, h2⟩
    have a2 := (v_cov2 W (by omega) u hu (b % v_ac u) hp x.toNat (by omega) ⟨hu2, e1, by omega⟩).1 (by omega)
    have b2 := (v_cov2 H (by omega) v hv (b / v_ac u) hq y.toNat (by omega) ⟨hv2, e2, by omega⟩).1 (by omega)
    refine ⟨by omega, by omega, ?_⟩
    rw [a2, b2]; omega
  · rintro ⟨h1, h2, h3⟩
    have hxu : v_pc u x.toNat < v_ac u := by have := v_pcx u hu x.toNat (by omega); show _ < v_pc u 12 + 1; omega
    have hm : b % v_ac u = v_pc u x.toNat := by rw [h3, Nat.mul_comm, Nat.mul_add_mod, Nat.mod_eq_of_lt hxu]
    have hd : b / v_ac u = v_pc v y.toNat := by rw [h3, Nat.mul_comm, Nat.mul_add_div ha, Nat.div_eq_of_lt hxu]; omega
    have a2 := (v_cov2 W (by omega) u hu (b % v_ac u) hp x.toNat (by omega) ⟨hu2, e1, by omega⟩).2 hm.symm
    have b2 := (v_cov2 H (by omega) v hv (b / v_ac u) hq y.toNat (by omega) ⟨hv2, e2, by omega⟩).2 hd.symm
    omega
theorem v_bofl (hG : v_G (s.1 65) u v W H) (hQ : v_Q s u v W H) {x y : Int} (hx : d_R x) (hy : d_R y) {r : Int} (hr : ((0 ≤ x ∧ x < (W : Int)) ∧ (0 ≤ y ∧ y < (H : Int)) ∧ r = ((v_pc v y.toNat * v_ac u + v_pc u x.toNat : Nat) : Int) ∧ r < ((v_bl u v : Nat) : Int)) ∨ (¬ ((0 ≤ x ∧ x < (W : Int)) ∧ (0 ≤ y ∧ y < (H : Int))) ∧ r = -1)) : ∀ (j k m : Nat), k + j = v_bl u v → j < m → (0 ≤ r → (k : Int) ≤ r) → F_X11_blockOf_l2 s m x y (k : Int) = some r := by
  have hac := hG.ac
  intro j
  induction j with
  | zero =>
    intro k m hk hm hkr
    obtain ⟨m, rfl⟩ : ∃ q, m = q + 1 := ⟨m - 1, by omega⟩
    show F_X11_blockOf_l2_b s (F_X11_blockOf_l2 s m) _ _ _ = _
    unfold F_X11_blockOf_l2_b
    rw [hQ.1, if_neg (by omega)]
    rcases hr with ⟨h1, h2, h3, h4⟩ | ⟨h1, h2⟩
    · exact absurd (hkr (by omega)) (by omega)
    · rw [h2]
  | succ j ih =>
    intro k m hk hm hkr
    obtain ⟨m, rfl⟩ : ∃ q, m = q + 1 := ⟨m - 1, by omega⟩
    have hkb : k < v_bl u v := by omega
    have hin := v_in hG hkb (x := x) (y := y)
    have hstep : ¬ ((k : Int) = r) → F_X11_blockOf_l2 s m x y (d_w ((k : Int) + 1)) = some r := fun q => by
      rw [d_w_id (by omega) (by omega)]
      exact ih (k + 1) m (by omega) (by omega) (fun h => by have := hkr h; omega)
    have l1 : v_lf u k ≤ 7 := v_bg_le
    have l2 : v_up u v k ≤ 7 := v_bg_le
    have l3 : v_wd u W k ≤ W := v_ln_le W
    have l4 : v_hg u v H k ≤ H := v_ln_le H
    have w1 := hQ.2.2.2.1
    have w2 := hQ.2.2.2.2
    show F_X11_blockOf_l2_b s (F_X11_blockOf_l2 s m) _ _ _ = _
    unfold F_X11_blockOf_l2_b
    rw [hQ.1, if_pos (by omega), P_leftOfC hQ hkb, d_b_t, P_topOfC hQ hkb, d_b_t, P_wideOfC hQ hkb, d_b_t, P_within, d_b_t]
    have wx : ∀ n : Nat, n ≤ 7 → ∀ x : Int, d_R x → ∀ c : Int, c ≤ 8 → ((0 ≤ d_w (x - (n : Int)) ∧ d_w (x - (n : Int)) ≤ c) ↔ (0 ≤ x - (n : Int) ∧ x - (n : Int) ≤ c)) := fun n hn x hx c hc => by
      by_cases q : -2147483648 ≤ x - (n : Int)
      · rw [d_w_id q (by have := hx.2; omega)]
      · constructor
        · intro hh
          exfalso
          have h1 := hx.1
          rw [d_w_mod, if_pos (by omega)] at hh
          have := hx.1
          omega
        · intro hh; have := hx.1; omega
    rw [d_w_id (x := ((v_wd u W k : Nat) : Int) - 1) (by omega) (by omega)]
    by_cases c1 : 0 ≤ x - ((v_lf u k : Nat) : Int) ∧ x - ((v_lf u k : Nat) : Int) ≤ ((v_wd u W k : Nat) : Int) - 1
    rotate_left
    · rw [v_bf (fun e => c1 ((wx _ l1 x hx _ (by omega)).1 e)), if_pos rfl]
      refine hstep (fun e => c1 ?_)
      rcases hr with ⟨h1, h2, h3, h4⟩ | ⟨h1, h2⟩
      · exact (hin.2 ⟨h1, h2, by omega⟩).1
      · omega
    rw [v_bt ((wx _ l1 x hx _ (by omega)).2 c1), if_neg (by decide), P_highOfC hQ hkb, d_b_t, P_within, d_b_t, d_w_id (x := ((v_hg u v H k : Nat) : Int) - 1) (by omega) (by omega)]
    by_cases c2 : 0 ≤ y - ((v_up u v k : Nat) : Int) ∧ y - ((v_up u v k : Nat) : Int) ≤ ((v_hg u v H k : Nat) : Int) - 1
    rotate_left
    · rw [v_bf (fun e => c2 ((wx _ l2 y hy _ (by omega)).1 e)), if_pos rfl]
      refine hstep (fun e => c2 ?_)
      rcases hr with ⟨h1, h2, h3, h4⟩ | ⟨h1, h2⟩
      · exact (hin.2 ⟨h1, h2, by omega⟩).2
      · omega
    rw [v_bt ((wx _ l2 y hy _ (by omega)).2 c2), if_neg (by decide)]
    obtain ⟨g1, g2, g3⟩ := hin.1 ⟨c1, c2⟩
    rcases hr with ⟨h1, h2, h3, h4⟩ | ⟨h1, h2⟩
    · rw [h3, ← g3]
    · exact absurd ⟨g1, g2⟩ h1
theorem R_blockOf (h : v_R t s) {x y : Int} (hx : d_R x) (hy : d_R y) : v_AP (F_X11_blockOf s x y) (F_X12_blockOf s x y) := by
  obtain ⟨u, v, W, H, st, me, so, N, sg, hG, hQ, hB, hM, hZ, hS, -⟩ := h.all
  have hac := hG.ac
  have hG' := hG
  obtain ⟨⟨g1, g2, g3, g4⟩, hu, hv, hW, hH, hu2, hv2⟩ := hG'
  unfold v_AP F_X11_blockOf F_X12_blockOf
  rw [P_isIn, d_b_t, g3, g4, d_w_id (x := (W : Int) - 1) (by omega) (by omega), d_w_id (x := (H : Int) - 1) (by omega) (by omega)]
  have base : ∀ r, _ → F_X11_blockOf_l2 s d_N x y 0 = some r := fun r hr => v_bofl hG hQ hx hy (r := r) hr (v_bl u v) 0 d_N (by omega) (by rw [d_N_is]; omega) (fun h => by omega)
  by_cases c1 : 0 ≤ x ∧ x ≤ (W : Int) - 1
  rotate_left
  · rw [v_bf c1, if_pos rfl]
    exact ⟨-1, base (-1) (Or.inr ⟨by omega, rfl⟩), rfl⟩
  rw [v_bt c1, if_neg (by decide), P_isIn, d_b_t]
  by_cases c2 : 0 ≤ y ∧ y ≤ (H : Int) - 1
  rotate_left
  · rw [v_bf c2, if_pos rfl]
    exact ⟨-1, base (-1) (Or.inr ⟨by omega, rfl⟩), rfl⟩
  rw [v_bt c2, if_neg (by decide), g1, g2]
  obtain ⟨x, rfl⟩ : ∃ k : Nat, x = k := ⟨x.toNat, by omega⟩
  obtain ⟨y, rfl⟩ : ∃ k : Nat, y = k := ⟨y.toNat, by omega⟩
  have p1 := v_pcx u hu x (by omega)
  have p2 := v_pcx v hv y (by omega)
  have hlt : v_pc v y * v_ac u + v_pc u x < v_bl u v := by
    have : v_pc v y * v_ac u + v_ac u ≤ v_ac v * v_ac u := by
      rw [← Nat.succ_mul]
      exact Nat.mul_le_mul_right _ (show v_pc v y + 1 ≤ v_pc v 12 + 1 by omega)
    have e : v_bl u v = v_ac v * v_ac u := Nat.mul_comm _ _
    have e2 : v_ac u = v_pc u 12 + 1 := rfl
    omega
  rw [P_partOf hv (by omega), d_b_t, P_across hG, d_b_t, P_partOf hu (by omega), d_b_t, ← Int.natCast_mul, d_w_id (by omega) (by omega)]
  exact ⟨((v_pc v y * v_ac u + v_pc u x : Nat) : Int), base _ (Or.inl ⟨by omega, by omega, rfl, by omega⟩), by rw [Int.natCast_add]⟩
end V29
def v_mk (a l : Nat) : Nat := (2 ^ (l - 1) - 1) * 2 ^ a
def v_lm (f : Nat → Nat) (S : Nat) : Nat → Nat
  | 0 => 0
  | k + 1 => if S / 2 ^ k % 2 = 1 then v_lm f S k ||| f k else v_lm f S k
abbrev v_un (sg : Nat → Nat → Nat) (u v n : Nat) : Prop := u &&& v_mk (sg n 1) (sg n 3) = 0 ∧ v &&& v_mk (sg n 2) (sg n 4) = 0
abbrev v_sw (sg : Nat → Nat → Nat) (me : Nat → Nat) (u v W H b n : Nat) : Prop := sg n 5 * 10 < me b ∧ 0 < v_ce sg u v W H n b
def v_Bd (sg : Nat → Nat → Nat) (N W H : Nat) : Prop := ∀ n, n < N → (1 ≤ sg n 3 ∧ sg n 3 ≤ 3) ∧ (1 ≤ sg n 4 ∧ sg n 4 ≤ 3) ∧ sg n 1 + sg n 3 ≤ W ∧ sg n 2 + sg n 4 ≤ H
section V30
variable {s : d_S} {t : Nat → Option p_C} {u v W H b N : Nat} {st me so : Nat → Nat} {sg : Nat → Nat → Nat}
theorem v_mk_lt {a l : Nat} (hl : 1 ≤ l ∧ l ≤ 3) (ha : a ≤ 9) : v_mk a l < 2048 := by
  have : ∀ l, l < 4 → ∀ a, a < 10 → v_mk a l < 2048 := by decide +kernel
  exact this l (by omega) a (by omega)
theorem v_mkI {a l : Nat} (hl : 1 ≤ l ∧ l ≤ 3) (ha : a ≤ 9) : d_shl (d_shl 1 (((l : Nat) : Int) - 1) - 1) ((a : Nat) : Int) = ((v_mk a l : Nat) : Int) := by
  have hm := v_mk_lt hl ha
  have e1 : ((l : Nat) : Int) - 1 = ((l - 1 : Nat) : Int) := by omega
  have hp : 1 ≤ 2 ^ (l - 1) := Nat.one_le_two_pow
  rw [e1, v_1shl (by omega), show ((2 ^ (l - 1) : Nat) : Int) - 1 = ((2 ^ (l - 1) - 1 : Nat) : Int) by omega]
  exact v_shl (by omega) (by unfold v_mk at hm; omega)
theorem v_lm_lt {f : Nat → Nat} {S : Nat} : ∀ k, (∀ j, j < k → f j < 2048) → v_lm f S k < 2048 := by
  intro k
  induction k with
  | zero => intro _; exact (by decide : 0 < 2048)
  | succ k ih =>
    intro hf
    simp only [v_lm]
    split
    · exact Nat.or_lt_two_pow (n := 11) (ih (fun j hj => hf j (by omega))) (hf k (by omega))
    · exact ih (fun j hj => hf j (by omega))
theorem v_lmb {i n : Nat} : ∀ n, n < 12 → ∀ i, i < 12 → (2 ^ n / 2 ^ i % 2 = 1 ↔ i = n) := by decide +kernel
theorem v_lm1 {f : Nat → Nat} {n : Nat} (hn : n < 12) : ∀ k, k ≤ 12 → v_lm f (2 ^ n) k = if n < k then f n else 0 := by
  intro k
  induction k with
  | zero => intro _; rfl
  | succ k ih =>
    intro hk
    simp only [v_lm]
    rw [ih (by omega)]
    by_cases q : k = n
    · rw [if_pos ((v_lmb (i := 0) (n := 0) n hn k (by omega)).2 q), if_neg (by omega), if_pos (by omega), q, Nat.zero_or]
    · rw [if_neg (fun e => q ((v_lmb (i := 0) (n := 0) n hn k (by omega)).1 e))]
      by_cases q2 : n < k
      · rw [if_pos q2, if_pos (by omega)]
      · rw [if_neg q2, if_neg (by omega)]
theorem v_linel (hS : v_S s N sg) (hBd : v_Bd sg N W H) (hWH : W ≤ 8 ∧ H ≤ 8) {S : Nat} (hSS : S < 4096) {y : Int} : ∀ (j k m : Nat), k + j = N → j < m → F_X11_linesThrough_l5 s m (S : Int) y ((v_lm (fun n => if y = 0 then v_mk (sg n 2) (sg n 4) else v_mk (sg n 1) (sg n 3)) S k : Nat) : Int) (k : Int) = some ((v_lm (fun n => if y = 0 then v_mk (sg n 2) (sg n 4) else v_mk (sg n 1) (sg n 3)) S N : Nat) : Int) := by
  have hfl : ∀ n, n < N → (if y = 0 then v_mk (sg n 2) (sg n 4) else v_mk (sg n 1) (sg n 3)) < 2048 := fun n hn => by
    have h1 := hBd n hn
    have h2 := hS.le hn (k := 1) (by decide)
    have h3 := hS.le hn (k := 2) (by decide)
    split
    · exact v_mk_lt h1.2.1 h3
    · exact v_mk_lt h1.1 h2
  intro j
  induction j with
  | zero =>
    intro k m hk hm
    obtain ⟨m, rfl⟩ : ∃ q, m = q + 1 := ⟨m - 1, by omega⟩
    have hk : k = N := by omega
    subst hk
    show F_X11_linesThrough_l5_b s (F_X11_linesThrough_l5 s m) _ _ _ _ = _
    unfold F_X11_linesThrough_l5_b
    rw [hS.1, if_neg (by omega)]
  | succ j ih =>
    intro k m hk hm
    obtain ⟨m, rfl⟩ : ∃ q, m = q + 1 := ⟨m - 1, by omega⟩
    have hkN : k < N := by omega
    have hN12 := hS.2.1
    have h1 := hBd k hkN
    have h2 := hS.le hkN (k := 1) (by decide)
    have h3 := hS.le hkN (k := 2) (by decide)
    have hl := v_lm_lt (f := fun n => if y = 0 then v_mk (sg n 2) (sg n 4) else v_mk (sg n 1) (sg n 3)) (S := S) k (fun j hj => hfl j (by omega))
    have hr := ih (k + 1) m (by omega) (by omega)
    show F_X11_linesThrough_l5_b s (F_X11_linesThrough_l5 s m) _ _ _ _ = _
    unfold F_X11_linesThrough_l5_b
    rw [hS.1, if_pos (by omega), v_bit (by omega) (by omega)]
    simp only [v_lm] at hr
    by_cases q : S / 2 ^ k % 2 = 1
    · rw [if_pos q] at hr
      rw [if_pos (by omega)]
      unfold F_X11_linesThrough_j62
      by_cases qy : y = 0
      · simp only [if_pos qy] at hr hl ⊢
        rw [P_sightPart hS hkN (by decide) (by decide), d_b_t, P_sightPart hS hkN (by decide) (by decide), d_b_t, d_l_t]
        show F_X11_linesThrough_l5 s m _ _ (d_or _ (d_shl (d_shl 1 (((sg k 4 : Nat) : Int) - 1) - 1) ((sg k 2 : Nat) : Int))) _ = _
        rw [v_mkI h1.2.1 h3, v_or (by omega) (by have := v_mk_lt h1.2.1 h3; omega), d_w_id (x := (k : Int) + 1) (by omega) (by omega)]
        exact hr
      · simp only [if_neg qy] at hr hl ⊢
        rw [P_sightPart hS hkN (by decide) (by decide), d_b_t, P_sightPart hS hkN (by decide) (by decide), d_b_t, d_l_t]
        show F_X11_linesThrough_l5 s m _ _ (d_or _ (d_shl (d_shl 1 (((sg k 3 : Nat) : Int) - 1) - 1) ((sg k 1 : Nat) : Int))) _ = _
        rw [v_mkI h1.1 h2, v_or (by omega) (by have := v_mk_lt h1.1 h2; omega), d_w_id (x := (k : Int) + 1) (by omega) (by omega)]
        exact hr
    · rw [if_neg q] at hr
      rw [if_neg (by omega), d_w_id (x := (k : Int) + 1) (by omega) (by omega)]
      exact hr
theorem P_lines (hS : v_S s N sg) (hBd : v_Bd sg N W H) (hWH : W ≤ 8 ∧ H ≤ 8) {S : Nat} (hSS : S < 4096) {y : Int} : F_X11_linesThrough s (S : Int) y = some ((v_lm (fun n => if y = 0 then v_mk (sg n 2) (sg n 4) else v_mk (sg n 1) (sg n 3)) S N : Nat) : Int) := by
  unfold F_X11_linesThrough
  exact v_linel hS hBd hWH hSS N 0 d_N (by omega) (by rw [d_N_is]; have := hS.2.1; omega)
theorem v_2p {n : Nat} (hn : n < 12) : 2 ^ n < 4096 := Nat.pow_lt_pow_right (by decide) hn
theorem v_wholel (hC : v_C s u v W H) (hS : v_S s N sg) (hBd : v_Bd sg N W H) : ∀ (j k m : Nat), k + j = N → j < m → F_X11_wholeSights_l4 s m ((v_sb (v_un sg u v) k : Nat) : Int) (k : Int) = some ((v_sb (v_un sg u v) N : Nat) : Int) := by
  obtain ⟨⟨c1, c2, -⟩, hu, hv, hW, hH, -⟩ := hC
  intro j
  induction j with
  | zero =>
    intro k m hk hm
    obtain ⟨m, rfl⟩ : ∃ q, m = q + 1 := ⟨m - 1, by omega⟩
    have hk : k = N := by omega
    subst hk
    show F_X11_wholeSights_l4_b s (F_X11_wholeSights_l4 s m) _ _ = _
    unfold F_X11_wholeSights_l4_b
    rw [hS.1, if_neg (by omega)]
  | succ j ih =>
    intro k m hk hm
    obtain ⟨m, rfl⟩ : ∃ q, m = q + 1 := ⟨m - 1, by omega⟩
    have hkN : k < N := by omega
    have hN12 := hS.2.1
    have h1 := hBd k hkN
    have h2 := hS.le hkN (k := 1) (by decide)
    have h3 := hS.le hkN (k := 2) (by decide)
    have hr := ih (k + 1) m (by omega) (by omega)
    have hlt : v_sb (v_un sg u v) k < 2 ^ k := v_sb_lt k
    have h12 := v_2p (n := k) (by omega)
    have hz : F_X11_wholeSights_j59 s (F_X11_wholeSights_l4 s m) ((v_sb (v_un sg u v) k : Nat) : Int) (k : Int) = F_X11_wholeSights_l4 s m ((v_sb (v_un sg u v) k : Nat) : Int) ((k + 1 : Nat) : Int) := by
      unfold F_X11_wholeSights_j59
      rw [v_bit0_, d_b_t, v_0shl (by omega), v_or0 ⟨by omega, by omega⟩, d_w_id (x := (k : Int) + 1) (by omega) (by omega)]; rfl
    show F_X11_wholeSights_l4_b s (F_X11_wholeSights_l4 s m) _ _ = _
    unfold F_X11_wholeSights_l4_b
    rw [hS.1, if_pos (by omega), v_1shl (by omega), P_lines hS hBd ⟨hW.2, hH.2⟩ h12, d_b_t, v_lm1 (by omega) N (by omega), if_pos hkN, if_neg (show ¬ (1 : Int) = 0 by decide), c1, v_and (by omega) (by have := v_mk_lt h1.1 h2; omega)]
    simp only [v_sb] at hr
    by_cases q1 : u &&& v_mk (sg k 1) (sg k 3) = 0
    rotate_left
    · rw [if_neg (by omega), hz]
      rw [if_neg (fun e => q1 e.1)] at hr
      exact hr
    rw [if_pos (by omega), P_lines hS hBd ⟨hW.2, hH.2⟩ h12, d_b_t, v_lm1 (by omega) N (by omega), if_pos hkN, if_pos (show (0 : Int) = 0 from rfl), c2, v_and (by omega) (by have := v_mk_lt h1.2.1 h3; omega)]
    by_cases q2 : v &&& v_mk (sg k 2) (sg k 4) = 0
    rotate_left
    · rw [if_neg (by omega), hz]
      rw [if_neg (fun e => q2 e.2)] at hr
      exact hr
    rw [if_pos ⟨q1, q2⟩] at hr
    have := v_or1 (k := k) (by omega) hlt
    rw [v_1shl (by omega)] at this
    rw [if_pos (by omega), v_bit1_, d_b_t, v_1shl (by omega), this, d_w_id (x := (k : Int) + 1) (by omega) (by omega)]
    exact hr
theorem P_whole (hC : v_C s u v W H) (hS : v_S s N sg) (hBd : v_Bd sg N W H) : F_X11_wholeSights s = some ((v_sb (v_un sg u v) N : Nat) : Int) := by
  unfold F_X11_wholeSights
  exact v_wholel hC hS hBd N 0 d_N (by omega) (by rw [d_N_is]; have := hS.2.1; omega)
theorem P_isUncut (hZ : v_Z (s.1 65) N sg) (hBd : v_Bd sg N W H) {n : Nat} (hn : n < N) {u v : Nat} (hu : u < 128) (hv : v < 128) : F_X12_isUncut s (n : Int) (u : Int) (v : Int) = some (v_b (v_un sg u v n)) := by
  have h1 := hBd n hn
  have h2 := hZ.le hn (k := 1) (by decide)
  have h3 := hZ.le hn (k := 2) (by decide)
  have s1 : F_X12_sightOf s (n : Int) 1 = _ := P_sightOf hZ hn (k := 1) (by decide)
  have s2 : F_X12_sightOf s (n : Int) 2 = _ := P_sightOf hZ hn (k := 2) (by decide)
  have s3 : F_X12_sightOf s (n : Int) 3 = _ := P_sightOf hZ hn (k := 3) (by decide)
  have s4 : F_X12_sightOf s (n : Int) 4 = _ := P_sightOf hZ hn (k := 4) (by decide)
  unfold F_X12_isUncut F_X12_through
  rw [s1, d_b_t, s3, d_b_t, d_b_t, v_mkI h1.1 h2, v_and (by omega) (by have := v_mk_lt h1.1 h2; omega)]
  by_cases q1 : u &&& v_mk (sg n 1) (sg n 3) = 0
  rotate_left
  · rw [if_neg (by omega), v_bf (fun e => q1 e.1)]
  rw [if_pos (by omega), s2, d_b_t, s4, d_b_t, d_b_t, v_mkI h1.2.1 h3, v_and (by omega) (by have := v_mk_lt h1.2.1 h3; omega)]
  by_cases q2 : v &&& v_mk (sg n 2) (sg n 4) = 0
  · rw [if_pos (by omega), v_bt ⟨q1, q2⟩]
  · rw [if_neg (by omega), v_bf (fun e => q2 e.2)]
theorem v_wbyl (hZ : v_Z (s.1 65) N sg) (hBd : v_Bd sg N W H) {u v : Nat} (hu : u < 128) (hv : v < 128) : ∀ (j k m : Nat), k + j = N → j < m → F_X12_wholeBy_l5 s m (u : Int) (v : Int) ((v_sb (v_un sg u v) k : Nat) : Int) (k : Int) = some ((v_sb (v_un sg u v) N : Nat) : Int) := by
  intro j
  induction j with
  | zero =>
    intro k m hk hm
    obtain ⟨m, rfl⟩ : ∃ q, m = q + 1 := ⟨m - 1, by omega⟩
    have hk : k = N := by omega
    subst hk
    show F_X12_wholeBy_l5_b s (F_X12_wholeBy_l5 s m) _ _ _ _ = _
    unfold F_X12_wholeBy_l5_b
    rw [hZ.1, if_neg (by omega)]
  | succ j ih =>
    intro k m hk hm
    obtain ⟨m, rfl⟩ : ∃ q, m = q + 1 := ⟨m - 1, by omega⟩
    have hkN : k < N := by omega
    have hN12 := hZ.2.1
    have hr := ih (k + 1) m (by omega) (by omega)
    have hlt : v_sb (v_un sg u v) k < 2 ^ k := v_sb_lt k
    have h12 := v_2p (n := k) (by omega)
    show F_X12_wholeBy_l5_b s (F_X12_wholeBy_l5 s m) _ _ _ _ = _
    unfold F_X12_wholeBy_l5_b
    rw [hZ.1, if_pos (by omega), P_isUncut hZ hBd hkN hu hv, d_b_t, d_w_id (x := (k : Int) + 1) (by omega) (by omega)]
    simp only [v_sb] at hr
    by_cases q : v_un sg u v k
    · rw [if_pos q] at hr
      rw [v_bt q, if_neg (by decide), v_or1 (by omega) hlt]
      exact hr
    · rw [if_neg q] at hr
      rw [v_bf q, if_pos rfl, v_or0 ⟨by omega, by omega⟩]
      exact hr
theorem P_wholeBy (hZ : v_Z (s.1 65) N sg) (hBd : v_Bd sg N W H) {u v : Nat} (hu : u < 128) (hv : v < 128) : F_X12_wholeBy s (u : Int) (v : Int) = some ((v_sb (v_un sg u v) N : Nat) : Int) := by
  unfold F_X12_wholeBy
  exact v_wbyl hZ hBd hu hv N 0 d_N (by omega) (by rw [d_N_is]; have := hZ.2.1; omega)
theorem R_whole (h : v_R t s) : v_AP (F_X11_whole s) (F_X12_whole s) := by
  obtain ⟨u, v, W, H, st, me, so, N, sg, hG, hQ, hB, hM, hZ, hS, hC, hBd⟩ := h.all
  unfold F_X11_whole F_X12_whole
  rw [hG.1.1, hG.1.2.1, P_whole hC hS hBd, P_wholeBy hZ hBd hG.2.1 hG.2.2.1]
  exact ⟨_, rfl, rfl⟩
end V30

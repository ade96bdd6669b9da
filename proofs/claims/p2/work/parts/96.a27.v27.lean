section V27
variable {s s' z z' : d_S} {t : Nat → Option p_C}
def v_row (t : Nat → Option p_C) (b c : Nat) (T : Nat → Int) (p : Nat) (w : Nat) (P : Nat → Int) : Prop := w ≤ 9 ∧ (∀ s : d_S, F_X7_part t s b (c : Int) 0 = some (w : Int) ∧ ∀ i : Nat, 1 ≤ i → i < 7 → ∃ y, F_X7_part t s b (c : Int) (i : Int) = some y ∧ (i ≤ v_np w → y = P i ∧ 0 ≤ y ∧ y ≤ 99)) ∧ T p = ((v_sx w : Nat) : Int) ∧ ∀ i : Nat, 1 ≤ i → i ≤ v_np w → T (p + i) = P i
theorem v_R.r (h : 0 ≤ s.1 65 0 ∧ s.1 65 0 ≤ 99) : d_R (s.1 65 0) := ⟨by omega, by omega⟩
theorem v_perform (h : v_R t (d_mx s z)) {b c p w : Nat} {P : Nat → Int} (hr : v_row t b c (z.1 67) p w P) (hp : p + 6 < 3108) : ∃ v s' z', F_X11_perform t s (some b) (c : Int) = some (v, s') ∧ F_X12_isPlayed z (p : Int) = some (v, z') ∧ v_R t (d_mx s' z') ∧ v_fC s s' ∧ v_fR z z' := by
  obtain ⟨hw, hc, h0, hi⟩ := hr
  obtain ⟨hc0, hci⟩ := hc s
  obtain ⟨y1, e1, f1⟩ := hci 1 (by decide) (by decide)
  obtain ⟨y2, e2, f2⟩ := hci 2 (by decide) (by decide)
  obtain ⟨y3, e3, f3⟩ := hci 3 (by decide) (by decide)
  obtain ⟨y4, e4, f4⟩ := hci 4 (by decide) (by decide)
  obtain ⟨y5, e5, f5⟩ := hci 5 (by decide) (by decide)
  obtain ⟨y6, e6, f6⟩ := hci 6 (by decide) (by decide)
  have e1 : F_X7_part t s b (c : Int) 1 = some y1 := e1
  have e2 : F_X7_part t s b (c : Int) 2 = some y2 := e2
  have e3 : F_X7_part t s b (c : Int) 3 = some y3 := e3
  have e4 : F_X7_part t s b (c : Int) 4 = some y4 := e4
  have e5 : F_X7_part t s b (c : Int) 5 = some y5 := e5
  have e6 : F_X7_part t s b (c : Int) 6 = some y6 := e6
  have wp : ∀ k : Int, 0 ≤ k → k < 7 → d_w ((p : Int) + k) = (p : Int) + k := fun k h1 h2 => d_w_id (by omega) (by omega)
  have tp : ∀ k : Nat, ((p : Int) + (k : Int)).toNat = p + k := fun k => by omega
  have t1 : ((p : Int) + 1).toNat = p + 1 := by omega
  have t2 : ((p : Int) + 2).toNat = p + 2 := by omega
  have t3 : ((p : Int) + 3).toNat = p + 3 := by omega
  have t4 : ((p : Int) + 4).toNat = p + 4 := by omega
  have t5 : ((p : Int) + 5).toNat = p + 5 := by omega
  have t6 : ((p : Int) + 6).toNat = p + 6 := by omega
  show ∃ v s' z', F_X11_perform t s (some b) (c : Int) = _ ∧ F_X12_isPlayed z (p : Int) = _ ∧ _
  unfold F_X11_perform F_X12_isPlayed
  rw [d_b_t, e1, d_b_t, d_b_t, e2, d_b_t, d_b_t, hc0, d_b_t, wp 1 (by decide) (by decide), d_g_t (by omega), d_l_t, wp 2 (by decide) (by decide), d_g_t (by omega), d_l_t, d_g_t (by omega), t1, t2, Int.toNat_natCast, h0]
  have hcase : w = 0 ∨ w = 1 ∨ w = 2 ∨ w = 3 ∨ w = 4 ∨ w = 5 ∨ w = 6 ∨ w = 7 ∨ w = 8 ∨ w = 9 := by omega
  rcases hcase with rfl | rfl | rfl | rfl | rfl | rfl | rfl | rfl | rfl | rfl
  · exact ⟨1, s, z, rfl, rfl, h, v_fC.rf, v_fR.rf⟩
  · exact ⟨1, s, z, rfl, rfl, h, v_fC.rf, v_fR.rf⟩
  · exact ⟨1, s, z, rfl, rfl, h, v_fC.rf, v_fR.rf⟩
  · 
    rw [hi 1 (by decide) (by decide), hi 2 (by decide) (by decide), ← (f1 (by decide)).1, ← (f2 (by decide)).1]
    obtain ⟨v, s1, z1, g1, g2, g3, g4, g5⟩ := A2_pond (t := t) (x := y1) (y := y2) s z h
    have g1 : F_X11_pond s y1 y2 = some (v, s1) := g1
    have g2 : F_X12_pond z y1 y2 = some (v, z1) := g2
    refine ⟨v, s1, z1, ?_, ?_, g3, g4, g5⟩
    · rw [if_pos (by decide), g1, d_b2_t]
    · rw [if_pos (by decide), g2, d_b2_t]
  · 
    have n1 := f1 (by decide)
    have n2 := f2 (by decide)
    have n3 := f3 (by decide)
    have n4 := f4 (by decide)
    have n5 := f5 (by decide)
    have n6 := f6 (by decide)
    obtain ⟨v, s1, z1, g1, g2, g3, g4, g5, g6⟩ := A2_sight (t := t) (x1 := y1) (x2 := y2) (x3 := y3) (x4 := y4) (x5 := y5) (x6 := y6) ⟨by omega, by omega⟩ ⟨by omega, by omega⟩ s z h
    refine ⟨if v = -1 then 0 else 1, s1, z1, ?_, ?_, g3, g4, g5⟩
    · rw [if_neg (by decide), if_pos (by decide), d_b_t, e3, d_b_t, d_b_t, e4, d_b_t, d_b_t, e5, d_b_t, d_b_t, e6, d_b_t, g1, d_b2_t]
      by_cases q : v = -1
      · rw [if_pos q, if_pos q]
      · rw [if_neg q, if_neg q]
    · rw [if_neg (by decide), if_pos (by decide), wp 3 (by decide) (by decide), d_g_t (by omega), wp 4 (by decide) (by decide), d_g_t (by omega), wp 5 (by decide) (by decide), d_g_t (by omega), wp 6 (by decide) (by decide), d_g_t (by omega), t3, t4, t5, t6, hi 1 (by decide) (by decide), hi 2 (by decide) (by decide), hi 3 (by decide) (by decide), hi 4 (by decide) (by decide), hi 5 (by decide) (by decide), hi 6 (by decide) (by decide), ← n1.1, ← n2.1, ← n3.1, ← n4.1, ← n5.1, ← n6.1, g2, d_b2_t]
      by_cases q : v = -1
      · rw [if_pos q, if_pos (by omega)]
      · rw [if_neg q, if_neg (by omega)]
  · 
    rw [hi 1 (by decide) (by decide), ← (f1 (by decide)).1]
    rw [if_neg (by decide), if_neg (by decide), if_pos (by decide), if_neg (by decide), if_neg (by decide), if_pos (by decide), v_sC_eq, v_sR_eq]
    rcases v_saw (x := y1) h (i := if (1 : Int) = 0 then 1 else 0) (by decide) with ⟨c1, c2⟩ | ⟨s1, z1, n, c1, c2, c3, c4, c5, c6, c7⟩
    · exact ⟨0, s, z, by rw [c1, d_b2_t], by rw [c2, d_b2_t, if_pos (by decide)], h, v_fC.rf, v_fR.rf⟩
    · exact ⟨1, s1, z1, by rw [c1, d_b2_t], by rw [c2, d_b2_t, if_neg (by omega)], c5, c6, c7⟩
  · 
    rw [hi 1 (by decide) (by decide), ← (f1 (by decide)).1]
    rw [if_neg (by decide), if_neg (by decide), if_neg (by decide), if_pos (by decide), if_neg (by decide), if_neg (by decide), if_neg (by decide), if_pos (by decide), v_sC_eq, v_sR_eq]
    rcases v_saw (x := y1) h (i := if (0 : Int) = 0 then 1 else 0) (by decide) with ⟨c1, c2⟩ | ⟨s1, z1, n, c1, c2, c3, c4, c5, c6, c7⟩
    · exact ⟨0, s, z, by rw [c1, d_b2_t], by rw [c2, d_b2_t, if_pos (by decide)], h, v_fC.rf, v_fR.rf⟩
    · exact ⟨1, s1, z1, by rw [c1, d_b2_t], by rw [c2, d_b2_t, if_neg (by omega)], c5, c6, c7⟩
  · 
    rw [hi 1 (by decide) (by decide), ← (f1 (by decide)).1]
    rw [if_neg (by decide), if_neg (by decide), if_neg (by decide), if_neg (by decide), if_pos (by decide), if_neg (by decide), if_neg (by decide), if_neg (by decide), if_neg (by decide), if_neg (by decide), if_neg (by decide), if_pos (by decide)]
    rcases v_sellH (b := y1) h with ⟨c1, c2⟩ | ⟨n, s1, z1, c1, c2, c3, c4, c5, c6⟩
    · exact ⟨0, s, z, by rw [c1, d_b2_t, if_pos rfl], by rw [c2, d_b2_t, if_pos (by decide)], h, v_fC.rf, v_fR.rf⟩
    · exact ⟨1, s1, z1, by rw [c1, d_b2_t, if_neg (by omega)], by rw [c2, d_b2_t, if_neg (by omega)], c4, c5, c6⟩
  · 
    rw [hi 1 (by decide) (by decide), hi 2 (by decide) (by decide), ← (f1 (by decide)).1, ← (f2 (by decide)).1]
    rw [if_neg (by decide), if_neg (by decide), if_neg (by decide), if_neg (by decide), if_neg (by decide), if_pos (by decide), if_neg (by decide), if_neg (by decide), if_neg (by decide), if_neg (by decide), if_pos (by decide)]
    rcases v_straw (x := y1) (b := y2) h with ⟨c1, c2⟩ | ⟨s1, z1, n, c1, c2, c3, c4, c5, c6, c7⟩
    · exact ⟨0, s, z, by rw [c1, d_b2_t], by rw [c2, d_b2_t, if_pos (by decide)], h, v_fC.rf, v_fR.rf⟩
    · exact ⟨1, s1, z1, by rw [c1, d_b2_t], by rw [c2, d_b2_t, if_neg (by omega)], c5, c6, c7⟩
  · 
    have n1 := f1 (by decide)
    rw [hi 1 (by decide) (by decide), ← n1.1]
    rw [if_neg (by decide), if_neg (by decide), if_neg (by decide), if_neg (by decide), if_neg (by decide), if_neg (by decide), if_pos (by decide), if_neg (by decide), if_neg (by decide), if_neg (by decide), if_neg (by decide), if_neg (by decide), if_pos (by decide)]
    obtain ⟨n, rfl⟩ : ∃ n : Nat, y1 = n := ⟨y1.toNat, by omega⟩
    obtain ⟨v, s1, z1, r1, r2, r3, r4, r5, r6, r7⟩ := v_days (t := t) (n := n) (by omega) n 0 d_N d_N (by omega) (by rw [d_N_is]; omega) (by rw [d_N_is]; omega) s z h
    have g1 : F_X11_passDays t s (n : Int) = some (v, s1) := r1
    have g2 : F_X12_arePassed z (n : Int) = some (v, z1) := r2
    exact ⟨v, s1, z1, by rw [g1, d_b2_t], by rw [g2, d_b2_t], r5, r6, r7⟩
theorem v_playl {b k : Nat} {r : v_TR} {T : Nat → Int} (hk : k < 4) (hC : v_TC t b r) (hD : v_TD T k r) : ∀ (j c m m' : Nat), c + j = r.1 → j < m → j < m' → ∀ s z, z.1 67 = T → v_R t (d_mx s z) → ∃ v s' z', F_X11_played_l18 t m (some b) (c : Int) s = some (v, s') ∧ F_X12_played_l21 m' (k : Int) (c : Int) z = some (v, z') ∧ v_R t (d_mx s' z') ∧ v_fC s s' ∧ v_fR z z' := by
  obtain ⟨-, hn, h24, hrow, -⟩ := hC
  obtain ⟨hT0, hTr, -⟩ := hD
  have e777 : d_w (777 * (k : Int)) = 777 * (k : Int) := d_w_id (by omega) (by omega)
  have t777 : (777 * (k : Int)).toNat = 777 * k := by omega
  intro j
  induction j with
  | zero =>
    intro c m m' hc hm hm' s z hT h
    obtain ⟨m, rfl⟩ : ∃ q, m = q + 1 := ⟨m - 1, by omega⟩
    obtain ⟨m', rfl⟩ : ∃ q, m' = q + 1 := ⟨m' - 1, by omega⟩
    refine ⟨-1, s, z, ?_, ?_, h, v_fC.rf, v_fR.rf⟩
    · show F_X11_played_l18_b t (F_X11_played_l18 t m) _ _ s = _
      unfold F_X11_played_l18_b
      rw [d_b_t, hn, d_b_t, if_neg (by omega)]
    · show F_X12_played_l21_b (F_X12_played_l21 m') _ _ z = _
      unfold F_X12_played_l21_b
      rw [e777, d_g_t (by omega), t777, hT, hT0, if_neg (by omega)]
  | succ j ih =>
    intro c m m' hc hm hm' s z hT h
    obtain ⟨m, rfl⟩ : ∃ q, m = q + 1 := ⟨m - 1, by omega⟩
    obtain ⟨m', rfl⟩ : ∃ q, m' = q + 1 := ⟨m' - 1, by omega⟩
    have hc24 : c < r.1 := by omega
    have ep : d_w (777 * (k : Int) + 1 + 7 * (c : Int)) = ((777 * k + 1 + 7 * c : Nat) : Int) := by rw [d_w_id (by omega) (by omega)]; omega
    obtain ⟨g0, g1⟩ := hTr c hc24
    have hR : v_row t b c (z.1 67) (777 * k + 1 + 7 * c) (r.2.1 c) (r.2.2.1 c) := ⟨(hrow s c hc24).1, fun s => (hrow s c hc24).2, by rw [hT]; exact g0, fun i h1 h2 => by rw [hT]; exact g1 i h1 h2⟩
    obtain ⟨v, s1, z1, p1, p2, p3, p4, p5⟩ := v_perform h hR (by omega)
    show ∃ v s' z', F_X11_played_l18_b t (F_X11_played_l18 t m) _ _ s = _ ∧ F_X12_played_l21_b (F_X12_played_l21 m') _ _ z = _ ∧ _
    unfold F_X11_played_l18_b F_X12_played_l21_b
    have hcn : (c : Int) < (r.1 : Int) := by omega
    rw [d_b_t, hn, d_b_t, if_pos hcn, p1, d_b2_t, e777, d_g_t (by omega), t777, hT, hT0, if_pos hcn, ep, p2, d_b2_t]
    by_cases q : v = 0
    · rw [if_pos q, if_pos q]
      exact ⟨(c : Int), s1, z1, rfl, rfl, p3, p4, p5⟩
    rw [if_neg q, if_neg q, d_w_id (by omega) (by omega)]
    obtain ⟨v2, s2, z2, r1, r2, r3, r4, r5⟩ := ih (c + 1) m m' (by omega) (by omega) (by omega) s1 z1 (by rw [p5.1 67 (Or.inr rfl)]; exact hT) p3
    exact ⟨v2, s2, z2, r1, r2, r3, p4.tr r4, p5.tr r5⟩
theorem R_played {x1 : Int} (h : v_R t s) : v_AA t (F_X11_played t s x1) (fun s1 => F_X12_played s1 x1) := by
  refine v_A2.AA (C := fun s => F_X11_played t s x1) (fun s z h => ?_) h
  have h' := h
  obtain ⟨hW, hI, -, -, -, hQ, ⟨r, hr, -⟩, hN, -⟩ := h'
  have hI : v_I (z.1 65) := hI
  obtain ⟨⟨-, -, -, -, w5, w6⟩, -⟩ := hW.1
  have w5 : s.1 3 5 = z.1 65 1 := w5
  obtain ⟨t1, t2, -⟩ := hI.2.2.1
  show ∃ v s' z', F_X11_played t s x1 = _ ∧ F_X12_played z x1 = _ ∧ _
  unfold F_X11_played F_X12_played
  have hta : F_X9_textAt_3 s x1 = some (if 0 ≤ x1 ∧ x1 < z.1 65 1 then s.2.1 5 x1.toNat else none) := by
    unfold F_X9_textAt_3 F_X9_textAt_3_j30
    rw [w5]
    by_cases q : x1 < 0
    · rw [if_pos q, if_neg (by omega)]
    · rw [if_neg q]
      by_cases q2 : x1 < z.1 65 1
      · rw [if_pos q2, if_pos (by omega), d_g_t (by omega), if_pos (by omega)]
      · rw [if_neg q2, if_neg (by omega)]
  rw [hta, d_b_t, P_isIn, d_b_t, d_w_id (by omega) (by omega)]
  by_cases q : 0 ≤ x1 ∧ x1 < z.1 65 1
  rotate_left
  · rw [if_neg q, v_bf (by omega), if_pos rfl]
    exact ⟨-2, s, z, rfl, rfl, h, v_fC.rf, v_fR.rf⟩
  rw [if_pos q, v_bt (by omega), if_neg (by decide)]
  obtain ⟨k, rfl⟩ : ∃ k : Nat, x1 = k := ⟨x1.toNat, by omega⟩
  obtain ⟨hD, b, hb, hC⟩ := hr k q.2
  have hb : s.2.1 5 k = some b := hb
  rw [Int.toNat_natCast, hb]
  exact v_playl (T := z.1 67) (by omega) hC hD (r k).1 0 d_N d_N (by omega) (by rw [d_N_is]; have := hC.2.2.1; omega) (by rw [d_N_is]; have := hC.2.2.1; omega) s z rfl h
end V27

section V24
variable {s s' z z' : d_S} {t : Nat → Option p_C}
theorem v_pass (h : v_R t (d_mx s z)) (h9 : z.1 65 9 < 999) : ∃ s' z', F_X11_passDay t s = some s' ∧ F_X12_pass z = some z' ∧ v_R t (d_mx s' z') ∧ z'.1 65 9 = z.1 65 9 + 1 ∧ v_fC s s' ∧ v_fR z z' := by
  obtain ⟨e, L, hE, hCT, hRT⟩ := h.sides
  have h' := h
  obtain ⟨hW, hI, -, -, -, hQ, -, hN, -⟩ := h'
  have hI : v_I (z.1 65) := hI
  have hG := hI.G
  have hB := hI.B
  have hQ : v_Q s (v_u (z.1 65)) (v_v (z.1 65)) (v_wi (z.1 65)) (v_hi (z.1 65)) := hQ.fr (fun a h1 h2 => (d_mx_lo (by omega)).symm)
  have hM : v_M s (v_st (z.1 65)) (v_me (z.1 65)) (v_so (z.1 65)) := hW.M (s := d_mx s z) hI
  have hY : v_Y s (z.1 65 9) (z.1 65 10) (z.1 65 13) := hW.Y (s := d_mx s z) hI
  obtain ⟨i9, i10, i12, i13, -⟩ := hI.2.2.2
  have i9 : 0 ≤ z.1 65 9 ∧ z.1 65 9 ≤ 999 := i9
  have i10 : 0 ≤ z.1 65 10 ∧ z.1 65 10 ≤ 9 := i10
  have i12 : 0 ≤ z.1 65 12 ∧ z.1 65 12 ≤ 99 := i12
  have i13 : 0 ≤ z.1 65 13 ∧ z.1 65 13 < 30293 := i13
  obtain ⟨s1, a1, a2, a3, a4, a5, a6, a7⟩ := P_passDay hCT hM hQ hE hY hN.1 h9
  obtain ⟨z1, b1, b2, ⟨b3, b4, b5⟩, b6, b7, b8, b9⟩ := P_pass hG hRT hN.2 hB rfl rfl rfl ⟨i9.1, h9⟩ i10 i13
  obtain ⟨⟨y3, y4, y6⟩, yb9, yb10, yb13⟩ := a6
  refine ⟨s1, z1, a1, b1, ?_, b3, fun a ha => a3 a (by omega) (by omega) (by omega) (by omega) (by omega), ⟨fun a ha => b7 a (by omega) (by omega), b8⟩⟩
  refine h.mark (fun a _ h6 h7 h47 h49 h50 => a3 a h6 h7 h47 h49 h50) (fun a ha => a4 a ha) (fun a ha h65 h71 => b7 a h65 h71) (fun j hj => b6 j (by omega) (by omega) (by omega) (by omega)) a2 b2 (fun i hi => ?_) (by rw [b3]; omega) (by rw [b4]; omega) (by rw [b6 12 (by decide) (by decide) (by decide) (by decide)]; exact i12) (by rw [b5]; omega) a5 b9
  have hh := hW.2.1.1 i hi
  have hh : s.1 6 i = z.1 65 (9 + v_mu i) := hh
  by_cases q3 : i = 3
  · subst q3
    show s1.1 6 3 = z1.1 65 9
    rw [y3, b3]
  by_cases q4 : i = 4
  · subst q4
    show s1.1 6 4 = z1.1 65 10
    rw [y4, b4]
  by_cases q6 : i = 6
  · subst q6
    show s1.1 6 6 = z1.1 65 13
    rw [y6, b5]
  have h2 : i = 0 ∨ i = 1 ∨ i = 2 ∨ i = 5 := by omega
  have : 9 + v_mu i ≠ 9 ∧ 9 + v_mu i ≠ 10 ∧ 9 + v_mu i ≠ 13 ∧ 9 + v_mu i < 20 := by rcases h2 with rfl | rfl | rfl | rfl <;> decide
  rw [a7 i q3 q4 q6, hh, b6 _ this.1 this.2.1 this.2.2.1 (Or.inl this.2.2.2)]
theorem v_days {n : Nat} (hn : n ≤ 2000) : ∀ (j k m m' : Nat), k + j = n → j < m → j < m' → ∀ s z, v_R t (d_mx s z) → ∃ v s' z', F_X11_passDays_l2 t m (n : Int) (k : Int) s = some (v, s') ∧ F_X12_arePassed_l2 m' (n : Int) (k : Int) z = some (v, z') ∧ (v = 0 ∨ v = 1) ∧ (z.1 65 9 + j ≤ 999 → v = 1) ∧ v_R t (d_mx s' z') ∧ v_fC s s' ∧ v_fR z z' := by
  intro j
  induction j with
  | zero =>
    intro k m m' hk hm hm' s z h
    obtain ⟨m, rfl⟩ : ∃ q, m = q + 1 := ⟨m - 1, by omega⟩
    obtain ⟨m', rfl⟩ : ∃ q, m' = q + 1 := ⟨m' - 1, by omega⟩
    refine ⟨1, s, z, ?_, ?_, Or.inr rfl, fun _ => rfl, h, v_fC.rf, v_fR.rf⟩
    · show F_X11_passDays_l2_b t (F_X11_passDays_l2 t m) _ _ s = _
      unfold F_X11_passDays_l2_b
      rw [if_neg (by omega)]
    · show F_X12_arePassed_l2_b (F_X12_arePassed_l2 m') _ _ z = _
      unfold F_X12_arePassed_l2_b
      rw [if_neg (by omega)]
  | succ j ih =>
    intro k m m' hk hm hm' s z h
    obtain ⟨m, rfl⟩ : ∃ q, m = q + 1 := ⟨m - 1, by omega⟩
    obtain ⟨m', rfl⟩ : ∃ q, m' = q + 1 := ⟨m' - 1, by omega⟩
    have hI : v_I (z.1 65) := h.2.1
    have i9 : 0 ≤ z.1 65 9 ∧ z.1 65 9 ≤ 999 := hI.2.2.2.1
    have e9 : s.1 6 3 = z.1 65 9 := h.1.2.1.1 3 (by decide)
    show ∃ v s' z', F_X11_passDays_l2_b t (F_X11_passDays_l2 t m) _ _ s = _ ∧ F_X12_arePassed_l2_b (F_X12_arePassed_l2 m') _ _ z = _ ∧ _
    unfold F_X11_passDays_l2_b F_X12_arePassed_l2_b
    have hkn : (k : Int) < (n : Int) := by omega
    rw [if_pos hkn, if_pos hkn, e9]
    by_cases q : z.1 65 9 = 999
    · rw [if_neg (by omega), if_pos q]
      exact ⟨0, s, z, rfl, rfl, Or.inl rfl, fun e => absurd e (by omega), h, v_fC.rf, v_fR.rf⟩
    rw [if_pos (by omega), if_neg q]
    obtain ⟨s1, z1, k1, k2, k3, k4, k5, k6, k7, hR1⟩ := h.keep
    have z19 : z1.1 65 9 = z.1 65 9 := k7 9 (by decide) (by decide)
    obtain ⟨s2, z2, p1, p2, p3, p4, p5, p6⟩ := v_pass hR1 (by omega)
    obtain ⟨v, s3, z3, r1, r2, r3, r4, r5, r6, r7⟩ := ih (k + 1) m m' (by omega) (by omega) (by omega) s2 z2 p3
    refine ⟨v, s3, z3, ?_, ?_, r3, fun e => r4 (by omega), r5, ((v_fC.of k3 k4).tr p5).tr r6, ((v_fR.of k5 k6).tr p6).tr r7⟩
    · rw [k1, d_b_t, p1, d_b_t, d_w_id (by omega) (by omega)]; exact r1
    · rw [k2, d_b_t, p2, d_b_t, d_w_id (by omega) (by omega)]; exact r2
theorem R_day {x1 : Int} (h : v_R t s) : v_AA t (F_X11_day t s x1) (fun s1 => F_X12_day s1 x1) := by
  refine v_A2.AA (C := fun s => F_X11_day t s x1) (fun s z h => ?_) h
  have hI : v_I (z.1 65) := h.2.1
  have i9 : 0 ≤ z.1 65 9 ∧ z.1 65 9 ≤ 999 := hI.2.2.2.1
  have e9 : s.1 6 3 = z.1 65 9 := h.1.2.1.1 3 (by decide)
  show ∃ v s' z', F_X11_day t s x1 = _ ∧ F_X12_day z x1 = _ ∧ _
  unfold F_X11_day F_X12_day
  rw [P_within, P_isIn, d_b_t, d_b_t]
  by_cases c1 : 1 ≤ x1 ∧ x1 ≤ 60
  rotate_left
  · rw [v_bf c1]; exact ⟨-1, s, z, rfl, rfl, h, v_fC.rf, v_fR.rf⟩
  rw [v_bt c1, if_neg (show ¬ (1 : Int) = 0 by decide), if_neg (show ¬ (1 : Int) = 0 by decide), e9, d_w_id (by omega) (by omega)]
  by_cases c2 : 999 < z.1 65 9 + x1
  · rw [if_pos c2, if_pos c2]; exact ⟨-1, s, z, rfl, rfl, h, v_fC.rf, v_fR.rf⟩
  rw [if_neg c2, if_neg c2]
  obtain ⟨n, rfl⟩ : ∃ n : Nat, x1 = n := ⟨x1.toNat, by omega⟩
  obtain ⟨v, s1, z1, r1, r2, r3, r4, r5, r6, r7⟩ := v_days (t := t) (n := n) (by omega) n 0 d_N d_N (by omega) (by rw [d_N_is]; omega) (by rw [d_N_is]; omega) s z h
  have hv : v = 1 := r4 (by omega)
  have e10 : s1.1 6 4 = z1.1 65 10 := r5.1.2.1.1 4 (by decide)
  have g1 : F_X11_passDays t s (n : Int) = some (v, s1) := r1
  have g2 : F_X12_arePassed z (n : Int) = some (v, z1) := r2
  refine ⟨z1.1 65 10, s1, z1, ?_, ?_, r5, r6, r7⟩
  · rw [g1, d_b2_t, e10]
  · rw [g2, d_b2_t, if_neg (by omega)]
theorem v_anew (h : v_R t (d_mx s z)) : ∃ s' z', F_X10_draw_6 s = some (z.1 65 13, s') ∧ F_X12_anew z = some z' ∧ v_R t (d_mx s' z') ∧ s'.1 37 = s.1 37 ∧ v_fC s s' ∧ v_fR z z' := by
  have h' := h
  obtain ⟨hW, hI, -, -, -, hQ, -, hN, -⟩ := h'
  have hI : v_I (z.1 65) := hI
  have hB := hI.B
  have hM : v_M s (v_st (z.1 65)) (v_me (z.1 65)) (v_so (z.1 65)) := hW.M (s := d_mx s z) hI
  obtain ⟨i9, i10, i12, i13, -⟩ := hI.2.2.2
  have i9 : 0 ≤ z.1 65 9 ∧ z.1 65 9 ≤ 999 := i9
  have i10 : 0 ≤ z.1 65 10 ∧ z.1 65 10 ≤ 9 := i10
  have i12 : 0 ≤ z.1 65 12 ∧ z.1 65 12 ≤ 99 := i12
  have i13 : 0 ≤ z.1 65 13 ∧ z.1 65 13 < 30293 := i13
  have e13 : s.1 6 6 = z.1 65 13 := hW.2.1.1 6 (by decide)
  obtain ⟨y, hy⟩ : ∃ y : Int, y = (z.1 65 13 * 281 + 179) % 30293 := ⟨_, rfl⟩
  have hy2 : 0 ≤ y ∧ y < 30293 := by omega
  have s6 : ∀ j, (d_si s 6 6 y).1 6 j = d_u (s.1 6) 6 y j := fun j => by rw [d_si_i]
  have z6 : ∀ j, (d_si z 65 13 y).1 65 j = d_u (z.1 65) 13 y j := fun j => by rw [d_si_i]
  have zA : ∀ j, j ≠ 13 → (d_si z 65 13 y).1 65 j = z.1 65 j := fun j hj => by rw [z6, d_u_n hj]
  refine ⟨d_si s 6 6 y, d_si z 65 13 y, ?_, ?_, ?_, d_si_n (by decide), fun a ha => d_si_n (by omega), ⟨fun a ha => d_si_n (by omega), rfl⟩⟩
  · unfold F_X10_draw_6
    rw [e13, P_behind i13, d_b_t, d_l_t, hy]
  · unfold F_X12_anew
    rw [d_l_t, v_remI (by omega) (by omega) (by decide) (by decide), hy]
  · refine h.mark (fun a _ h6 _ _ _ _ => d_si_n h6) (fun a _ => rfl) (fun a _ h65 _ => d_si_n h65) (fun j hj => zA j (by omega)) (hM.fr (d_si_n (by decide))) (st := v_st (z.1 65)) (me := v_me (z.1 65)) (so := v_so (z.1 65)) (fun b hb => ?_) (fun i hi => ?_) (by rw [zA 9 (by decide)]; exact i9) (by rw [zA 10 (by decide)]; exact i10) (by rw [zA 12 (by decide)]; exact i12) (by rw [z6, d_u_t]; exact hy2) (by rw [d_si_n (by decide)]; exact hN.1) (by rw [d_si_n (by decide)]; exact hN.2)
    · rw [zA _ (by omega), zA _ (by omega), zA _ (by omega)]; exact hB b hb
    · have hh := hW.2.1.1 i hi
      have hh : s.1 6 i = z.1 65 (9 + v_mu i) := hh
      rw [s6, z6]
      by_cases q : i = 6
      · subst q
        show d_u (s.1 6) 6 y 6 = d_u (z.1 65) 13 y 13
        rw [d_u_t, d_u_t]
      · have h2 : i = 0 ∨ i = 1 ∨ i = 2 ∨ i = 3 ∨ i = 4 ∨ i = 5 := by omega
        have : 9 + v_mu i ≠ 13 := by rcases h2 with rfl | rfl | rfl | rfl | rfl | rfl <;> decide
        rw [d_u_n q, d_u_n this, hh]
theorem v_seed (h : v_R t (d_mx s z)) {y : Int} (hy2 : 0 ≤ y ∧ y < 30293) : v_R t (d_mx (d_si s 6 6 y) (d_si z 65 13 y)) := by
  have h' := h
  obtain ⟨hW, hI, -, -, -, hQ, -, hN, -⟩ := h'
  have hI : v_I (z.1 65) := hI
  have hB := hI.B
  have hM : v_M s (v_st (z.1 65)) (v_me (z.1 65)) (v_so (z.1 65)) := hW.M (s := d_mx s z) hI
  obtain ⟨i9, i10, i12, i13, -⟩ := hI.2.2.2
  have i9 : 0 ≤ z.1 65 9 ∧ z.1 65 9 ≤ 999 := i9
  have i10 : 0 ≤ z.1 65 10 ∧ z.1 65 10 ≤ 9 := i10
  have i12 : 0 ≤ z.1 65 12 ∧ z.1 65 12 ≤ 99 := i12
  have s6 : ∀ j, (d_si s 6 6 y).1 6 j = d_u (s.1 6) 6 y j := fun j => by rw [d_si_i]
  have z6 : ∀ j, (d_si z 65 13 y).1 65 j = d_u (z.1 65) 13 y j := fun j => by rw [d_si_i]
  have zA : ∀ j, j ≠ 13 → (d_si z 65 13 y).1 65 j = z.1 65 j := fun j hj => by rw [z6, d_u_n hj]
  refine h.mark (fun a _ h6 _ _ _ _ => d_si_n h6) (fun a _ => rfl) (fun a _ h65 _ => d_si_n h65) (fun j hj => zA j (by omega)) (hM.fr (d_si_n (by decide))) (st := v_st (z.1 65)) (me := v_me (z.1 65)) (so := v_so (z.1 65)) (fun b hb => ?_) (fun i hi => ?_) (by rw [zA 9 (by decide)]; exact i9) (by rw [zA 10 (by decide)]; exact i10) (by rw [zA 12 (by decide)]; exact i12) (by rw [z6, d_u_t]; exact hy2) (by rw [d_si_n (by decide)]; exact hN.1) (by rw [d_si_n (by decide)]; exact hN.2)
  · rw [zA _ (by omega), zA _ (by omega), zA _ (by omega)]; exact hB b hb
  · have hh := hW.2.1.1 i hi
    have hh : s.1 6 i = z.1 65 (9 + v_mu i) := hh
    rw [s6, z6]
    by_cases q : i = 6
    · subst q
      show d_u (s.1 6) 6 y 6 = d_u (z.1 65) 13 y 13
      rw [d_u_t, d_u_t]
    · have h2 : i = 0 ∨ i = 1 ∨ i = 2 ∨ i = 3 ∨ i = 4 ∨ i = 5 := by omega
      have : 9 + v_mu i ≠ 13 := by rcases h2 with rfl | rfl | rfl | rfl | rfl | rfl <;> decide
      rw [d_u_n q, d_u_n this, hh]
theorem v_happens {rec : Int → Int → d_S → Option (Int × d_S)} {x2 x4 w : Int} (h : v_R t (d_mx s z)) (hw : 0 ≤ w ∧ w < 30293) : ∃ s' z', (if 0 < s.1 37 5 then d_g (¬ (s.1 37 5) = 0) (if (d_rem w 4) = 0 then d_b (F_X11_canLay s 1 (d_rem w (s.1 37 5))) (fun v8 => if v8 = 0 then F_X11_summer_j120 t rec x2 x4 w (d_rem w (s.1 37 5)) s else d_b (F_X11_layStraw s 1 (d_rem w (s.1 37 5))) (fun s13 => rec x2 (d_w (x4 + 1)) s13)) else F_X11_summer_j120 t rec x2 x4 w (d_rem w (s.1 37 5)) s) else if (d_rem w 4) = 0 then d_b (F_X11_canLay s 1 0) (fun v14 => if v14 = 0 then F_X11_summer_j120 t rec x2 x4 w 0 s else d_b (F_X11_layStraw s 1 0) (fun s15 => rec x2 (d_w (x4 + 1)) s15)) else F_X11_summer_j120 t rec x2 x4 w 0 s) = rec x2 (d_w (x4 + 1)) s' ∧ F_X12_happens z w = some z' ∧ v_R t (d_mx s' z') ∧ v_fC s s' ∧ v_fR z z' := by
  have h' := h
  obtain ⟨hW, hI, -, -, -, hQ, -, hN, -⟩ := h'
  have hI : v_I (z.1 65) := hI
  have hG := hI.G
  have hac := hG.ac
  have hQ : v_Q s (v_u (z.1 65)) (v_v (z.1 65)) (v_wi (z.1 65)) (v_hi (z.1 65)) := hQ.fr (fun a h1 h2 => (d_mx_lo (by omega)).symm)
  have i9 : 0 ≤ z.1 65 9 ∧ z.1 65 9 ≤ 999 := hI.2.2.2.1
  have e9 : s.1 6 3 = z.1 65 9 := hW.2.1.1 3 (by decide)
  obtain ⟨B, hB⟩ : ∃ B, B = v_bl (v_u (z.1 65)) (v_v (z.1 65)) := ⟨_, rfl⟩
  have h37 : s.1 37 5 = (B : Int) := by rw [hQ.1, hB]
  have hB1 : 1 ≤ B ∧ B ≤ 64 := by rw [hB]; exact ⟨hac.2.2.2, hac.2.2.1⟩
  obtain ⟨b, hb, hb2⟩ : ∃ b : Nat, w % (B : Int) = b ∧ b < B := ⟨(w % (B : Int)).toNat, by have := Int.emod_nonneg w (show (B : Int) ≠ 0 by omega); omega, by have := Int.emod_lt_of_pos w (show (0 : Int) < (B : Int) by omega); have := Int.emod_nonneg w (show (B : Int) ≠ 0 by omega); omega⟩
  have er : d_rem w (B : Int) = b := by rw [v_remI (by omega) (by omega) (by omega) (by omega), hb]
  have e4 : d_rem w 4 = w % 4 := v_remI (by omega) (by omega) (by decide) (by decide)
  unfold F_X12_happens
  rw [h37, if_pos (by omega), d_g_t (by omega), P_blocks hG, d_b_t, ← hB, d_g_t (by omega), er, e4]
  by_cases q0 : w % 4 = 0
  · rw [if_pos q0, if_pos q0, P_canLayC h, d_b_t, P_canLayR h (by decide), d_b_t]
    by_cases c : v_cl1 (z.1 65) 1 (b : Int)
    · rw [v_bt ⟨by decide, by decide, c⟩, v_bt c, if_neg (show ¬ (1 : Int) = 0 by decide), if_neg (show ¬ (1 : Int) = 0 by decide)]
      obtain ⟨s2, z2, g1, g2, g3, g4, g7, g8, g9⟩ := v_lay h (x := 1) (by decide) c
      exact ⟨s2, z2, by rw [g1, d_b_t], by rw [g2, d_b_t], g7, g8, g9⟩
    · rw [v_bf (fun e => c e.2.2), v_bf c, if_pos rfl, if_pos rfl]
      refine ⟨s, z, ?_, rfl, h, v_fC.rf, v_fR.rf⟩
      unfold F_X11_summer_j120 F_X11_summer_j147
      rw [e4, if_neg (by omega), if_neg (by omega)]
  rw [if_neg q0, if_neg q0]
  unfold F_X11_summer_j120
  rw [e4]
  by_cases q1 : w % 4 = 1
  · rw [if_pos q1, if_pos q1, P_canSellC h, d_b_t, P_canSellR h, d_b_t]
    by_cases c : v_cs1 (z.1 65) (b : Int)
    · rw [v_bt c, if_neg (show ¬ (1 : Int) = 0 by decide), if_neg (show ¬ (1 : Int) = 0 by decide)]
      obtain ⟨n, s2, z2, g1, g2, g3, g4, g5, g6⟩ := v_sell h c
      exact ⟨s2, z2, by rw [g1, d_b2_t], by rw [g2, d_b2_t], g4, g5, g6⟩
    · rw [v_bf c, if_pos rfl, if_pos rfl]
      refine ⟨s, z, ?_, rfl, h, v_fC.rf, v_fR.rf⟩
      unfold F_X11_summer_j147
      rw [e4, if_neg (by omega)]
  rw [if_neg q1, if_neg q1]
  unfold F_X11_summer_j147
  rw [e4, if_pos (by omega), e9]
  by_cases q9 : z.1 65 9 < 999
  · rw [if_pos q9, if_pos q9]
    obtain ⟨s2, z2, p1, p2, p3, p4, p5, p6⟩ := v_pass h q9
    exact ⟨s2, z2, by rw [p1, d_b_t], by rw [p2, d_b_t], p3, p5, p6⟩
  · rw [if_neg q9, if_neg q9]
    exact ⟨s, z, rfl, rfl, h, v_fC.rf, v_fR.rf⟩
theorem v_summer {n : Nat} (hn : n ≤ 40) : ∀ (j k m m' : Nat), k + j = n → j < m → j < m' → ∀ s z, v_R t (d_mx s z) → ∃ v s' z', F_X11_summer_l55 t m (n : Int) (k : Int) s = some (v, s') ∧ F_X12_summer_l42 (fun s_u7 => some ((s_u7.1 65 11), s_u7)) m' (n : Int) (k : Int) z = some (v, z') ∧ v_R t (d_mx s' z') ∧ v_fC s s' ∧ v_fR z z' := by
  intro j
  induction j with
  | zero =>
    intro k m m' hk hm hm' s z h
    obtain ⟨m, rfl⟩ : ∃ q, m = q + 1 := ⟨m - 1, by omega⟩
    obtain ⟨m', rfl⟩ : ∃ q, m' = q + 1 := ⟨m' - 1, by omega⟩
    have e11 : s.1 6 5 = z.1 65 11 := h.1.2.1.1 5 (by decide)
    refine ⟨z.1 65 11, s, z, ?_, ?_, h, v_fC.rf, v_fR.rf⟩
    · show F_X11_summer_l55_b t (F_X11_summer_l55 t m) _ _ s = _
      unfold F_X11_summer_l55_b
      rw [if_neg (by omega), e11]
    · show F_X12_summer_l42_b _ (F_X12_summer_l42 _ m') _ _ z = _
      unfold F_X12_summer_l42_b
      rw [if_neg (by omega)]
  | succ j ih =>
    intro k m m' hk hm hm' s z h
    obtain ⟨m, rfl⟩ : ∃ q, m = q + 1 := ⟨m - 1, by omega⟩
    obtain ⟨m', rfl⟩ : ∃ q, m' = q + 1 := ⟨m' - 1, by omega⟩
    have hI : v_I (z.1 65) := h.2.1
    have i13 : 0 ≤ z.1 65 13 ∧ z.1 65 13 < 30293 := hI.2.2.2.2.2.2.1
    obtain ⟨s1, z1, a1, a2, a3, a4, a5, a6⟩ := v_anew h
    obtain ⟨s2, z2, b1, b2, b3, b4, b5⟩ := v_happens (rec := F_X11_summer_l55 t m) (x2 := (n : Int)) (x4 := (k : Int)) a3 i13
    obtain ⟨v, s3, z3, r1, r2, r3, r4, r5⟩ := ih (k + 1) m m' (by omega) (by omega) (by omega) s2 z2 b3
    refine ⟨v, s3, z3, ?_, ?_, r3, (a5.tr b4).tr r4, (a6.tr b5).tr r5⟩
    · show F_X11_summer_l55_b t (F_X11_summer_l55 t m) _ _ s = _
      unfold F_X11_summer_l55_b
      rw [if_pos (by omega), a1, d_b2_t, b1, d_w_id (by omega) (by omega)]
      exact r1
    · show F_X12_summer_l42_b _ (F_X12_summer_l42 _ m') _ _ z = _
      unfold F_X12_summer_l42_b
      rw [if_pos (by omega), a2, d_b_t, b2, d_b_t, d_w_id (by omega) (by omega)]
      exact r2
theorem R_summer {x1 x2 : Int} (h : v_R t s) : v_AA t (F_X11_summer t s x1 x2) (fun s1 => F_X12_summer s1 x1 x2) := by
  refine v_A2.AA (C := fun s => F_X11_summer t s x1 x2) (fun s z h => ?_) h
  show ∃ v s' z', F_X11_summer t s x1 x2 = _ ∧ F_X12_summer z x1 x2 = _ ∧ _
  unfold F_X11_summer F_X12_summer
  rw [P_within, P_isIn, d_b_t, d_b_t]
  by_cases c1 : 0 ≤ x1 ∧ x1 ≤ 9999
  rotate_left
  · rw [v_bf c1]; exact ⟨-1, s, z, rfl, rfl, h, v_fC.rf, v_fR.rf⟩
  rw [v_bt c1, if_neg (show ¬ (1 : Int) = 0 by decide), if_neg (show ¬ (1 : Int) = 0 by decide), P_within, P_isIn, d_b_t, d_b_t]
  by_cases c2 : 1 ≤ x2 ∧ x2 ≤ 40
  rotate_left
  · rw [v_bf c2]; exact ⟨-1, s, z, rfl, rfl, h, v_fC.rf, v_fR.rf⟩
  rw [v_bt c2, if_neg (show ¬ (1 : Int) = 0 by decide), if_neg (show ¬ (1 : Int) = 0 by decide)]
  obtain ⟨s1, z1, k1, k2, k3, k4, k5, k6, k7, hR1⟩ := h.keep
  have hR2 := v_seed hR1 (y := x1 * 3 + 73) (by omega)
  obtain ⟨n, rfl⟩ : ∃ n : Nat, x2 = n := ⟨x2.toNat, by omega⟩
  obtain ⟨v, s3, z3, r1, r2, r3, r4, r5⟩ := v_summer (t := t) (n := n) (by omega) n 0 d_N d_N (by omega) (by rw [d_N_is]; omega) (by rw [d_N_is]; omega) _ _ hR2
  refine ⟨v, s3, z3, ?_, ?_, r3, (v_fC.of k3 k4).tr (v_fC.tr (fun a ha => d_si_n (by omega)) r4), (v_fR.of k5 k6).tr (v_fR.tr ⟨fun a ha => d_si_n (by omega), rfl⟩ r5)⟩
  · rw [k1, d_b_t, d_w_id (by omega) (by omega), d_l_t]; exact r1
  · rw [k2, d_b_t, d_w_id (by omega) (by omega), d_l_t]; exact r2
end V24

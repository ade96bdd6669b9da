section V24
variable {s s' z z' : d_S} {t : Nat → Option p_C}
theorem v_pass (h : v_R t (d_mx s z)) (h9 : z.1 65 9 < 999) : ∃ s' z', F_X11_passDay t s = some s' ∧ F_X12_pass z = some z' ∧ v_R t (d_mx s' z') ∧ z'.1 65 9 = z.1 65 9 + 1 ∧ v_fC s s' ∧ v_fR z z' := by
  obtain ⟨e, L, hE, hCT, hRT⟩ := h.sides
  have h' := h
  obtain ⟨hW, hI, -, -, -, hQ, -, hN, -⟩ := h'
  have hI : v_I (z.1 65) := hI
  have hG := hI.G
  have hB := hI.B
  have hQ : v_Q s (v_u (z.1 65)) (v_v (z.1 65)) (v_wi (z.1 65)) (v_hi (z.1 65)) := hQ.fr (fun a h1 h2 => (d_mx_lo (by omega)).symm)
  have hM : v_M s (v_st (z.1 65)) (v_me (z.1 65)) (v_so (z.1 65)) := hW.M (s := d_mx s z) hI
  have hY : v_Y s (z.1 65 9) (z.1 65 10) (z.1 65 13) := hW.Y (s := d_mx s z) hI
  obtain ⟨i9, i10, i12, i13, -⟩ := hI.2.2.2
  have i9 : 0 ≤ z.1 65 9 ∧ z.1 65 9 ≤ 999 := i9
  have i10 : 0 ≤ z.1 65 10 ∧ z.1 65 10 ≤ 9 := i10
  have i12 : 0 ≤ z.1 65 12 ∧ z.1 65 12 ≤ 99 := i12
  have i13 : 0 ≤ z.1 65 13 ∧ z.1 65 13 < 30293 := i13
  obtain ⟨s1, a1, a2, a3, a4, a5, a6, a7⟩ := P_passDay hCT hM hQ hE hY hN.1 h9
  obtain ⟨z1, b1, b2, ⟨b3, b4, b5⟩, b6, b7, b8, b9⟩ := P_pass hG hRT hN.2 hB rfl rfl rfl ⟨i9.1, h9⟩ i10 i13
  obtain ⟨⟨y3, y4, y6⟩, yb9, yb10, yb13⟩ := a6
  refine ⟨s1, z1, a1, b1, ?_, b3, fun a ha => a3 a (by omega) (by omega) (by omega) (by omega) (by omega), ⟨fun a ha => b7 a (by omega) (by omega), b8⟩⟩
  refine h.mark (fun a _ h6 h7 h47 h49 h50 => a3 a h6 h7 h47 h49 h50) (fun a ha => a4 a ha) (fun a ha h65 h71 => b7 a h65 h71) (fun j hj => b6 j (by omega) (by omega) (by omega) (by omega)) a2 b2 (fun i hi => ?_) (by rw [b3]; omega) (by rw [b4]; omega) (by rw [b6 12 (by decide) (by decide) (by decide) (by decide)]; exact i12) (by rw [b5]; omega) a5 b9
  have hh := hW.2.1.1 i hi
  have hh : s.1 6 i = z.1 65 (9 + v_mu i) := hh
  by_cases q3 : i = 3
  · subst q3
    show s1.1 6 3 = z1.1 65 9
    rw [y3, b3]
  by_cases q4 : i = 4
  · subst q4
    show s1.1 6 4 = z1.1 65 10
    rw [y4, b4]
  by_cases q6 : i = 6
  · subst q6
    show s1.1 6 6 = z1.1 65 13
    rw [y6, b5]
  have h2 : i = 0 ∨ i = 1 ∨ i = 2 ∨ i = 5 := by omega
  have : 9 + v_mu i ≠ 9 ∧ 9 + v_mu i ≠ 10 ∧ 9 + v_mu i ≠ 13 ∧ 9 + v_mu i < 20 := by rcases h2 with rfl | rfl | rfl | rfl <;> decide
  rw [a7 i q3 q4 q6, hh, b6 _ this.1 this.2.1 this.2.2.1 (Or.inl this.2.2.2)]
theorem v_days {n : Nat} (hn : n ≤ 2000) : ∀ (j k m m' : Nat), k + j = n → j < m → j < m' → ∀ s z, v_R t (d_mx s z) → ∃ v s' z', F_X11_passDays_l2 t m (n : Int) (k : Int) s = some (v, s') ∧ F_X12_arePassed_l2 m' (n : Int) (k : Int) z = some (v, z') ∧ (v = 0 ∨ v = 1) ∧ (z.1 65 9 + j ≤ 999 → v = 1) ∧ v_R t (d_mx s' z') ∧ v_fC s s' ∧ v_fR z z' := by
  intro j
  induction j with
  | zero =>
    intro k m m' hk hm hm' s z h
    obtain ⟨m, rfl⟩ : ∃ q, m = q + 1 := ⟨m - 1, by omega⟩
    obtain ⟨m', rfl⟩ : ∃ q, m' = q + 1 := ⟨m' - 1, by omega⟩
    refine ⟨1, s, z, ?_, ?_, Or.inr rfl, fun _ => rfl, h, v_fC.rf, v_fR.rf⟩
    · show F_X11_passDays_l2_b t (F_X11_passDays_l2 t m) _ _ s = _
      unfold F_X11_passDays_l2_b
      rw [if_neg (by omega)]
    · show F_X12_arePassed_l2_b (F_X12_arePassed_l2 m') _ _ z = _
      unfold F_X12_arePassed_l2_b
      rw [if_neg (by omega)]
  | succ j ih =>
    intro k m m' hk hm hm' s z h
    obtain ⟨m, rfl⟩ : ∃ q, m = q + 1 := ⟨m - 1, by omega⟩
    obtain ⟨m', rfl⟩ : ∃ q, m' = q + 1 := ⟨m' - 1, by omega⟩
    have hI : v_I (z.1 65) := h.2.1
    have i9 : 0 ≤ z.1 65 9 ∧ z.1 65 9 ≤ 999 := hI.2.2.2.1
    have e9 : s.1 6 3 = z.1 65 9 := h.1.2.1.1 3 (by decide)
    show ∃ v s' z', F_X11_passDays_l2_b t (F_X11_passDays_l2 t m) _ _ s = _ ∧ F_X12_arePassed_l2_b (F_X12_arePassed_l2 m') _ _ z = _ ∧ _
    unfold F_X11_passDays_l2_b F_X12_arePassed_l2_b
    have hkn : (k : Int) < (n : Int) := by omega
    rw [if_pos hkn, if_pos hkn, e9]
    by_cases q : z.1 65 9 = 999
    · rw [if_neg (by omega), if_pos q]
      exact ⟨0, s, z, rfl, rfl, Or.inl rfl, fun e => absurd e (by omega), h, v_fC.rf, v_fR.rf⟩
    rw [if_pos (by omega), if_neg q]
    obtain ⟨s1, z1, k1, k2, k3, k4, k5, k6, k7, hR1⟩ := h.keep
    have z19 : z1.1 65 9 = z.1 65 9 := k7 9 (by decide) (by decide)
    obtain ⟨s2, z2, p1, p2, p3, p4, p5, p6⟩ := v_pass hR1 (by omega)
    obtain ⟨v, s3, z3, r1, r2, r3, r4, r5, r6, r7⟩ := ih (k + 1) m m' (by omega) (by omega) (by omega) s2 z2 p3
    refine ⟨v, s3, z3, ?_, ?_, r3, fun e => r4 (by omega), r5, ((v_fC.of k3 k4).tr p5).tr r6, ((v_fR.of k5 k6).tr p6).tr r7⟩
    · rw [k1, d_b_t, p1, d_b_t, d_w_id (by omega) (by omega)]; exact r1
    · rw [k2, d_b_t, p2, d_b_t, d_w_id (by omega) (by omega)]; exact r2
theorem R_day {x1 : Int} (h : v_R t s) : v_AA t (F_X11_day t s x1) (fun s1 => F_X12_day s1 x1) := by
  refine v_A2.AA (C := fun s => F_X11_day t s x1) (fun s z h => ?_) h
  have hI : v_I (z.1 65) := h.2.1
  have i9 : 0 ≤ z.1 65 9 ∧ z.1 65 9 ≤ 999 := hI.2.2.2.1
  have e9 : s.1 6 3 = z.1 65 9 := h.1.2.1.1 3 (by decide)
  show ∃ v s' z', F_X11_day t s x1 = _ ∧ F_X12_day z x1 = _ ∧ _
  unfold F_X11_day F_X12_day
  rw [P_within, P_isIn, d_b_t, d_b_t]
  by_cases c1 : 1 ≤ x1 ∧ x1 ≤ 60
  rotate_left
  · rw [v_bf c1]; exact ⟨-1, s, z, rfl, rfl, h, v_fC.rf, v_fR.rf⟩
  rw [v_bt c1, if_neg (show ¬ (1 : Int) = 0 by decide), if_neg (show ¬ (1 : Int) = 0 by decide), e9, d_w_id (by omega) (by omega)]
  by_cases c2 : 999 < z.1 65 9 + x1
  · rw [if_pos c2, if_pos c2]; exact ⟨-1, s, z, rfl, rfl, h, v_fC.rf, v_fR.rf⟩
  rw [if_neg c2, if_neg c2]
  obtain ⟨n, rfl⟩ : ∃ n : Nat, x1 = n := ⟨x1.toNat, by omega⟩
  obtain ⟨v, s1, z1, r1, r2, r3, r4, r5, r6, r7⟩ := v_days (t := t) (n := n) (by omega) n 0 d_N d_N (by omega) (by rw [d_N_is]; omega) (by rw [d_N_is]; omega) s z h
  have hv : v = 1 := r4 (by omega)
  have e10 : s1.1 6 4 = z1.1 65 10 := r5.1.2.1.1 4 (by decide)
  have g1 : F_X11_passDays t s (n : Int) = some (v, s1) := r1
  have g2 : F_X12_arePassed z (n : Int) = some (v, z1) := r2
  refine ⟨z1.1 65 10, s1, z1, ?_, ?_, r5, r6, r7⟩
  · rw [g1, d_b2_t, e10]
  · rw [g2, d_b2_t, if_neg (by omega)]
theorem v_anew (h : v_R t (d_mx s z)) : ∃ s' z', F_X10_draw_6 s = some (z.1 65 13, s') ∧ F_X12_anew z = some z' ∧ v_R t (d_mx s' z') ∧ s'.1 37 = s.1 37 ∧ v_fC s s' ∧ v_fR z z' := by
  have h' := h
  obtain ⟨hW, hI, -, -, -, hQ, -, hN, -⟩ := h'
  have hI : v_I (z.1 65) := hI
  have hB := hI.B
  have hM : v_M s (v_st (z.1 65)) (v_me (z.1 65)) (v_so (z.1 65)) := hW.M (s := d_mx s z) hI
  obtain ⟨i9, i10, i12, i13, -⟩ := hI.2.2.2
  have i9 : 0 ≤ z.1 65 9 ∧ z.1 65 9 ≤ 999 := i9
  have i10 : 0 ≤ z.1 65 10 ∧ z.1 65 10 ≤ 9 := i10
  have i12 : 0 ≤ z.1 65 12 ∧ z.1 65 12 ≤ 99 := i12
  have i13 : 0 ≤ z.1 65 13 ∧ z.1 65 13 < 30293 := i13
  have e13 : s.1 6 6 = z.1 65 13 := hW.2.1.1 6 (by decide)
  obtain ⟨y, hy⟩ : ∃ y : Int, y = (z.1 65 13 * 281 + 179) % 30293 := ⟨_, rfl⟩
  have hy2 : 0 ≤ y ∧ y < 30293 := by omega
  have s6 : ∀ j, (d_si s 6 6 y).1 6 j = d_u (s.1 6) 6 y j := fun j => by rw [d_si_i]
  have z6 : ∀ j, (d_si z 65 13 y).1 65 j = d_u (z.1 65) 13 y j := fun j => by rw [d_si_i]
  have zA : ∀ j, j ≠ 13 → (d_si z 65 13 y).1 65 j = z.1 65 j := fun j hj => by rw [z6, d_u_n hj]
  refine ⟨d_si s 6 6 y, d_si z 65 13 y, ?_, ?_, ?_, d_si_n (by decide), fun a ha => d_si_n (by omega), ⟨fun a ha => d_si_n (by omega), rfl⟩⟩
  · unfold F_X10_draw_6
    rw [e13, P_behind i13, d_b_t, d_l_t, hy]
  · unfold F_X12_anew
    rw [d_l_t, v_remI (by omega) (by omega) (by decide) (by decide), hy]
  · refine h.mark (fun a _ h6 _ _ _ _ => d_si_n h6) (fun a _ => rfl) (fun a _ h65 _ => d_si_n h65) (fun j hj => zA j (by omega)) (hM.fr (d_si_n (by decide))) (st := v_st (z.1 65)) (me := v_me (z.1 65)) (so := v_so (z.1 65)) (fun b hb => ?_) (fun i hi => ?_) (by rw [zA 9 (by decide)]; exact i9) (by rw [zA 10 (by decide)]; exact i10) (by rw [zA 12 (by decide)]; exact i12) (by rw [z6, d_u_t]; exact hy2) (by rw [d_si_n (by decide)]; exact hN.1) (by rw [d_si_n (by decide)]; exact hN.2)
    · rw [zA _ (by omega), zA _ (by omega), zA _ (by omega)]; exact hB b hb
    · have hh := hW.2.1.1 i hi
      have hh : s.1 6 i = z.1 65 (9 + v_mu i) := hh
      rw [s6, z6]
      by_cases q : i = 6
      · subst q
        show d_u (s.1 6) 6 y 6 = d_u (z.1 65) 13 y 13
        rw [d_u_t, d_u_t]
      · have h2 : i = 0 ∨ i = 1 ∨ i = 2 ∨ i = 3 ∨ i = 4 ∨ i = 5 := by omega
        have : 9 + v_mu i ≠ 13 := by rcases h2 with rfl | rfl | rfl | rfl | rfl | rfl <;> decide
        rw [d_u_n q, d_u_n this, hh]
theorem v_seed (h : v_R t (d_mx s z)) {y : Int} (hy2 : 0 ≤ y ∧ y < 30293) : v_R t (d_mx (d_si s 6 6 y) (d_si z 65 13 y)) := by
  have h' := h
  obtain ⟨hW, hI, -, -, -, hQ, -, hN, -⟩ := h'
  have hI : v_I (z.1 65) := hI
  have hB := hI.B
  have hM : v_M s (v_st (z.1 65)) (v_me (z.1 65)) (v_so (z.1 65)) := hW.M (s := d_mx s z) hI
  obtain ⟨i9, i10, i12, i13, -⟩ := hI.2.2.2
  have i9 : 0 ≤ z.1 65 9 ∧ z.1 65 9 ≤ 999 := i9
  have i10 : 0 ≤ z.1 65 10 ∧ z.1 65 10 ≤ 9 := i10
  have i12 : 0 ≤ z.1 65 12 ∧ z.1 65 12 ≤ 99 := i12
  have s6 : ∀ j, (d_si s 6 6 y).1 6 j = d_u (s.1 6) 6 y j := fun j => by rw [d_si_i]
  have z6 : ∀ j, (d_si z 65 13 y).1 65 j = d_u (z.1 65) 13 y j := fun j => by rw [d_si_i]
  have zA : ∀ j, j ≠ 13 → (d_si z 65 13 y).1 65 j = z.1 65 j := fun j hj => by rw [z6, d_u_n hj]
  refine h.mark (fun a _ h6 _ _ _ _ => d_si_n h6) (fun a _ => rfl) (fun a _ h65 _ => d_si_n h65) (fun j hj => zA j (by omega)) (hM.fr (d_si_n (by decide))) (st := v_st (z.1 65)) (me := v_me (z.1 65)) (so := v_so (z.1 65)) (fun b hb => ?_) (fun i hi => ?_) (by rw [zA 9 (by decide)]; exact i9) (by rw [zA 10 (by decide)]; exact i10) (by rw [zA 12 (by decide)]; exact i12) (by rw [z6, d_u_t]; exact hy2) (by rw [d_si_n (by decide)]; exact hN.1) (by rw [d_si_n (by decide)]; exact hN.2)
  · rw [zA _ (by omega), zA _ (by omega), zA _ (by omega)]; exact hB b hb
  · have hh := hW.2.1.1 i hi
    have hh : s.1 6 i = z.1 65 (9 + v_mu i) := hh
    rw [s6, z6]
    by_cases q : i = 6
    · subst q
      show d_u (s.1 6) 6 y 6 = d_u (z.1 65) 13 y 13
      rw [d_u_t, d_u_t]
    · have h2 : i = 0 ∨ i = 1 ∨ i = 2 ∨ i = 3 ∨ i = 4 ∨ i = 5 := by omega
      have : 9 + v_mu i ≠ 13 := by rcases h2 with rfl | rfl | rfl | rfl | rfl | rfl <;> decide
      rw [d_u_n q, d_u_n this, hh]
theorem v_happens {rec : Int → Int → d_S → Option (Int × d_S)} {x2 x4 w : Int} (h : v_R t (d_mx s z)) (hw : 0 ≤ w ∧ w < 30293) : ∃ s' z', (if 0 < s.1 37 5 then d_g (¬ (s.1 37 5) = 0) (if (d_rem w 4) = 0 then d_b (F_X11_canLay s 1 (d_rem w (s.1 37 5))) (fun v8 => if v8 = 0 then F_X11_summer_j120 t rec x2 x4 w (d_rem w (s.1 37 5)) s else d_b (F_X11_layStraw s 1 (d_rem w (s.1 37 5))) (fun s13 => rec x2 (d_w (x4 + 1)) s13)) else F_X11_summer_j120 t rec x2 x4 w (d_rem w (s.1 37 5)) s) else if (d_rem w 4) = 0 then d_b (F_X11_canLay s 1 0) (fun v14 => if v14 = 0 then F_X11_summer_j120 t rec x2 x4 w 0 s else d_b (F_X11_layStraw s 1 0) (fun s15 => rec x2 (d_w (x4 + 1)) s15)) else F_X11_summer_j120 t rec x2 x4 w 0 s) = rec x2 (d_w (x4 + 1)) s' ∧ F_X12_happens z w = some z' ∧ v_R t (d_mx s' z') ∧ v_fC s s' ∧ v_fR z z' := by
  have h' := h
  obtain ⟨hW, hI, -, -, -, hQ, -, hN, -⟩ := h'
  have hI : v_I (z.1 65) := hI
  have hG := hI.G
  have hac := hG.ac
  have hQ : v_Q s (v_u (z.1 65)) (v_v (z.1 65)) (v_wi (z.1 65)) (v_hi (z.1 65)) := hQ.fr (fun a h1 h2 => (d_mx_lo (by omega)).symm)
  have i9 : 0 ≤ z.1 65 9 ∧ z.1 65 9 ≤ 999 := hI.2.2.2.1
  have e9 : s.1 6 3 = z.1 65 9 := hW.2.1.1 3 (by decide)
  obtain ⟨B, hB⟩ : ∃ B, B = v_bl (v_u (z.1 65)) (v_v (z.1 65)) := ⟨_, rfl⟩
  have h37 : s.1 37 5 = (B : Int) := by rw [hQ.1, hB]
  have hB1 : 1 ≤ B ∧ B ≤ 64 := by rw [hB]; exact ⟨hac.2.2.2, hac.2.2.1⟩
  obtain ⟨b, hb, hb2⟩ : ∃ b : Nat, w % (B : Int) = b ∧ b < B := ⟨(w % (B : Int)).toNat, by have := Int.emod_nonneg w (show (B : Int) ≠ 0 by omega); omega, by have := Int.emod_lt_of_pos w (show (0 : Int) < (B : Int) by omega); have := Int.emod_nonneg w (show (B : Int) ≠ 0 by omega); omega⟩
  have er : d_rem w (B : Int) = b := by rw [v_remI (by omega) (by omega) (by omega) (by omega), hb]
  have e4 : d_rem w 4 = w % 4 := v_remI (by omega) (by omega) (by decide) (by decide)
  unfold F_X12_happens
  rw [h37, if_pos (by omega), d_g_t (by omega), P_blocks hG, d_b_t, ← hB, d_g_t (by omega), er, e4]
  by_cases q0 : w % 4 = 0
  · rw [if_pos q0, if_pos q0, P_canLayC h, d_b_t, P_canLayR h (by decide), d_b_t]
    by_cases c : v_cl1 (z.1 65) 1 (b : Int)
    · rw [v_bt ⟨by decide, by decide, c⟩, v_bt c, if_neg (show ¬ (1 : Int) = 0 by decide), if_neg (show ¬ (1 : Int) = 0 by decide)]
      obtain ⟨s2, z2, g1, g2, g3, g4, g7, g8, g9⟩ := v_lay h (x := 1) (by decide) c
      exact ⟨s2, z2, by rw [g1, d_b_t], by rw [g2, d_b_t], g7, g8, g9⟩
    · rw [v_bf (fun e => c e.2.2), v_bf c, if_pos rfl, if_pos rfl]
      refine ⟨s, z, ?_, rfl, h, v_fC.rf, v_fR.rf⟩
      unfold F_X11_summer_j120 F_X11_summer_j147
      rw [e4, if_neg (by omega), if_neg (by omega)]
  rw [if_neg q0, if_neg q0]
  unfold F_X11_summer_j120
  rw [e4]
  by_cases q1 : w % 4 = 1
  · rw [if_pos q1, if_pos q1, P_canSellC h, d_b_t, P_canSellR h, d_b_t]
    by_cases c : v_cs1 (z.1 65) (b : Int)
    · rw [v_bt c, if_neg (show ¬ (1 : Int) = 0 by decide), if_neg (show ¬ (1 : Int) = 0 by decide)]
      obtain ⟨n, s2, z2, g1, g2, g3, g4, g5, g6⟩ := v_sell h c
      exact ⟨s2, z2, by rw [g1, d_b2_t], by rw [g2, d_b2_t], g4, g5, g6⟩
    · rw [v_bf c, if_pos rfl, if_pos rfl]
      refine ⟨s, z, ?_, rfl, h, v_fC.rf, v_fR.rf⟩
      unfold F_X11_summer_j147
      rw [e4, if_neg (by omega)]
  rw [if_neg q1, if_neg q1]
  unfold F_X11_summer_j147
  rw [e4, if_pos (by omega), e9]
  by_cases q9 : z.1 65 9 < 999
  · rw [if_pos q9, if_pos q9]
    obtain ⟨s2, z2, p1, p2, p3, p4, p5, p6⟩ := v_pass h q9
    exact ⟨s2, z2, by rw [p1, d_b_t], by rw [p2, d_b_t], p3, p5, p6⟩
  · rw [if_neg q9, if_neg q9]
    exact ⟨s, z, rfl, rfl, h, v_fC.rf, v_fR.rf⟩
theorem v_summer {n : Nat} (hn : n ≤ 40) : ∀ (j k m m' : Nat), k + j = n → j < m → j < m' → ∀ s z, v_R t (d_mx s z) → ∃ v s' z', F_X11_summer_l55 t m (n : Int) (k : Int) s = some (v, s') ∧ F_X12_summer_l42 (fun s_u7 => some ((s_u7.1 65 11), s_u7)) m' (n : Int) (k : Int) z = some (v, z') ∧ v_R t (d_mx s' z') ∧ v_fC s s' ∧ v_fR z z' := by
  intro j
  induction j with
  | zero =>
    intro k m m' hk hm hm' s z h
    obtain ⟨m, rfl⟩ : ∃ q, m = q + 1 := ⟨m - 1, by omega⟩
    obtain ⟨m', rfl⟩ : ∃ q, m' = q + 1 := ⟨m' - 1, by omega⟩
    have e11 : s.1 6 5 = z.1 65 11 := h.1.2.1.1 5 (by decide)
    refine ⟨z.1 65 11, s, z, ?_, ?_, h, v_fC.rf, v_fR.rf⟩
    · show F_X11_summer_l55_b t (F_X11_summer_l55 t m) _ _ s = _
      unfold F_X11_summer_l55_b
      rw [if_neg (by omega), e11]
    · show F_X12_summer_l42_b _ (F_X12_summer_l42 _ m') _ _ z = _
      unfold F_X12_summer_l42_b
      rw [if_neg (by omega)]
  | succ j ih =>
    intro k m m' hk hm hm' s z h
    obtain ⟨m, rfl⟩ : ∃ q, m = q + 1 := ⟨m - 1, by omega⟩
    obtain ⟨m', rfl⟩ : ∃ q, m' = q + 1 := ⟨m' - 1, by omega⟩
    have hI : v_I (z.1 65) := h.2.1
    have i13 : 0 ≤ z.1 65 13 ∧ z.1 65 13 < 30293 := hI.2.2.2.2.2.2.1
    obtain ⟨s1, z1, a1, a2, a3, a4, a5, a6⟩ := v_anew h
    obtain ⟨s2, z2, b1, b2, b3, b4, b5⟩ := v_happens (rec := F_X11_summer_l55 t m) (x2 := (n : Int)) (x4 := (k : Int)) a3 i13
    obtain ⟨v, s3, z3, r1, r2, r3, r4, r5⟩ := ih (k + 1) m m' (by omega) (by omega) (by omega) s2 z2 b3
    refine ⟨v, s3, z3, ?_, ?_, r3, (a5.tr b4).tr r4, (a6.tr b5).tr r5⟩
    · show F_X11_summer_l55_b t (F_X11_summer_l55 t m) _ _ s = _
      unfold F_X11_summer_l55_b
      rw [if_pos (by omega), a1, d_b2_t, b1, d_w_id (by omega) (by omega)]
      exact r1
    · show F_X12_summer_l42_b _ (F_X12_summer_l42 _ m') _ _ z = _
      unfold F_X12_summer_l42_b
      rw [if_pos (by omega), a2, d_b_t, b2, d_b_t, d_w_id (by omega) (by omega)]
      exact r2
theorem R_summer {x1 x2 : Int} (h : v_R t s) : v_AA t (F_X11_summer t s x1 x2) (fun s1 => F_X12_summer s1 x1 x2) := by
  refine v_A2.AA (C := fun s => F_X11_summer t s x1 x2) (fun s z h => ?_) h
  show ∃ v s' z', F_X11_summer t s x1 x2 = _ ∧ F_X12_summer z x1 x2 = _ ∧ _
  unfold F_X11_summer F_X12_summer
  rw [P_within, P_isIn, d_b_t, d_b_t]
  by_cases c1 : 0 ≤ x1 ∧ x1 ≤ 9999
  rotate_left
  · rw [v_bf c1]; exact ⟨-1, s, z, rfl, rfl, h, v_fC.rf, v_fR.rf⟩
  rw [v_bt c1, if_neg (show ¬ (1 : Int) = 0 by decide), if_neg (show ¬ (1 : Int) = 0 by decide), P_within, P_isIn, d_b_t, d_b_t]
  by_cases c2 : 1 ≤ x2 ∧ x2 ≤ 40
  rotate_left
  · rw [v_bf c2]; exact ⟨-1, s, z, rfl, rfl, h, v_fC.rf, v_fR.rf⟩
  rw [v_bt c2, if_neg (show ¬ (1 : Int) = 0 by decide), if_neg (show ¬ (1 : Int) = 0 by decide)]
  obtain ⟨s1, z1, k1, k2, k3, k4, k5, k6, k7, hR1⟩ := h.keep
  have hR2 := v_seed hR1 (y := x1 * 3 + 73) (by omega)
  obtain ⟨n, rfl⟩ : ∃ n : Nat, x2 = n := ⟨x2.toNat, by omega⟩
  obtain ⟨v, s3, z3, r1, r2, r3, r4, r5⟩ := v_summer (t := t) (n := n) (by omega) n 0 d_N d_N (by omega) (by rw [d_N_is]; omega) (by rw [d_N_is]; omega) _ _ hR2
  refine ⟨v, s3, z3, ?_, ?_, r3, (v_fC.of k3 k4).tr (v_fC.tr (fun a ha => d_si_n (by omega)) r4), (v_fR.of k5 k6).tr (v_fR.tr ⟨fun a ha => d_si_n (by omega), rfl⟩ r5)⟩
  · rw [k1, d_b_t, d_w_id (by omega) (by omega), d_l_t]; exact r1
  · rw [k2, d_b_t, d_w_id (by omega) (by omega), d_l_t]; exact r2
end V24
section V25
variable {s s' z z' : d_S} {t : Nat → Option p_C}
theorem R_undo (h : v_R t s) : v_AA t (F_X11_undo s) (fun s1 => F_X12_undo s1) := by
  refine v_A2.AA (C := fun s => F_X11_undo s) (fun s z h => ?_) h
  have h' := h
  obtain ⟨hW, hI, -, -, -, hQ, -, hN, -⟩ := h'
  have hI : v_I (z.1 65) := hI
  obtain ⟨n, c, a1, a2, a3⟩ := hW.2.2.1
  have a1 : s.1 8 1 = n := a1
  have a2 : s.1 8 2 = c := a2
  have a3 : v_Sx (s.1 9) n c (z.1 65) (v_wi (z.1 65)) (v_hi (z.1 65)) := a3
  show ∃ v s' z', F_X11_undo s = _ ∧ F_X12_undo z = _ ∧ _
  by_cases c0 : c = 0
  · subst c0
    refine ⟨-1, s, z, ?_, ?_, h, v_fC.rf, v_fR.rf⟩
    · unfold F_X11_undo F_X6_takeBack_8_6
      rw [a2, if_pos (show ((0 : Nat) : Int) = 0 from rfl), d_b2_t, if_pos rfl]
    · unfold F_X12_undo
      rw [a3.2.2.1, if_pos (show ((0 : Nat) : Int) = 0 from rfl)]
  have h1 : 1 ≤ c := by omega
  obtain ⟨s4, g1, g2, g3, g4, g5, g6, g7⟩ := P_takeBack a1 a2 a3.2.1 h1 a3.1
  have hd0 := a3.2.2.2 (c - 1) (by omega)
  rw [show (n + 30 - c + (c - 1)) % 30 = (n + 29) % 30 by have := a3.1; omega] at hd0
  obtain ⟨e1, e2, st, me, so, e3, e4⟩ := hd0
  obtain ⟨z4, r1, r2, r3, r4, r5, r6, r7⟩ := P_undoR a3.2.2.1 h1 a3.1 e3 (fun b hb => (e4 b hb).2)
  obtain ⟨d1, -⟩ := v_Sx.drop (A' := z4.1 65) a3 h1 r2 (fun k h1 h2 => r5 k (by omega) (by omega))
  have w16 : v_wi (z4.1 65) = v_wi (z.1 65) := by unfold v_wi; rw [r5 16 (by decide) (by decide)]
  have w17 : v_hi (z4.1 65) = v_hi (z.1 65) := by unfold v_hi; rw [r5 17 (by decide) (by decide)]
  have hWy : v_Wy s4.1 0 (z4.1 65) := by
    refine ⟨fun i hi => ?_, fun b hb => ?_⟩
    · show s4.1 6 i = _
      rw [g4 i hi, r3 _ (v_mu7 i hi)]
      exact e1 i hi
    · show s4.1 7 b = _
      obtain ⟨⟨b1, b2, b3⟩, -⟩ := r4 b hb
      rw [g5 b hb, (e4 b hb).1, b1, b2, b3]
      unfold v_pk; omega
  have hWs : v_Ws s4.1 0 (z4.1 65) := ⟨(n + 29) % 30, c - 1, g2, g3, by
    show v_Sx (s4.1 9) _ _ _ _ _
    rw [g6 9 (by decide) (by decide) (by decide), w16, w17]
    exact d1⟩
  have hIb : v_Ib (z4.1 65) := by
    intro b hb
    obtain ⟨⟨b1, b2, b3⟩, b4, b5, b6⟩ := r4 b hb
    rw [b1, b2, b3]; omega
  have hyb : v_yb (fun k => z4.1 65 (9 + k)) (v_wi (z.1 65)) (v_hi (z.1 65)) := by
    obtain ⟨b0, b1, b3, b4, u, v, b5, b6, b7⟩ := e2
    refine ⟨?_, ?_, ?_, ?_, u, v, ?_, ?_, b7⟩
    · show 0 ≤ z4.1 65 (9 + 0) ∧ z4.1 65 (9 + 0) ≤ 999; rw [r3 0 (by decide)]; exact b0
    · show 0 ≤ z4.1 65 (9 + 1) ∧ z4.1 65 (9 + 1) ≤ 9; rw [r3 1 (by decide)]; exact b1
    · show 0 ≤ z4.1 65 (9 + 3) ∧ z4.1 65 (9 + 3) ≤ 99; rw [r3 3 (by decide)]; exact b3
    · show 0 ≤ z4.1 65 (9 + 4) ∧ z4.1 65 (9 + 4) < 30293; rw [r3 4 (by decide)]; exact b4
    · show z4.1 65 (9 + 5) = _; rw [r3 5 (by decide)]; exact b5
    · show z4.1 65 (9 + 6) = _; rw [r3 6 (by decide)]; exact b6
  obtain ⟨hG, s5, p1, p2, p3, p4, p5⟩ := v_R.lay h (s4 := s4) (z4 := z4) (fun a _ h6 h7 h8 _ => g6 a h6 h7 h8) (by rw [g7]) r6 (fun j hj => r5 j (by omega) (by omega)) hWy hWs hIb hyb
  have nl : ∀ a, 64 ≤ a → a ∉ v_L6 := fun a h1 h3 => by
    unfold v_L6 at h3
    simp only [List.mem_cons, List.not_mem_nil, or_false] at h3
    omega
  refine ⟨((c - 1 : Nat) : Int), s5, z4, ?_, r1, p3, fun a ha => ?_, ⟨fun a ha => r6 a (by omega), by rw [r7]⟩⟩
  · unfold F_X11_undo
    rw [g1, d_b2_t, if_neg (by decide), p1, d_b_t, p4 8 (by decide), g3]
  · rw [p4 a (nl a ha), g6 a (by omega) (by omega) (by omega)]
end V25
section V26
variable {s : d_S} {t : Nat → Option p_C}
theorem A2_pond {x y : Int} : v_A2 t (fun s => F_X11_pond s x y) (fun s => F_X12_pond s x y) := by
  intro sc sr h0
  obtain ⟨s, hs⟩ : ∃ s, s = d_mx sc sr := ⟨_, rfl⟩
  have h : v_R t s := by rw [hs]; exact h0
  have k3 : sc.1 3 = s.1 3 := by rw [hs]; rfl
  have k4 : sc.1 4 = s.1 4 := by rw [hs]; rfl
  have k6 : sc.1 6 = s.1 6 := by rw [hs]; rfl
  have kr : sr.1 65 = s.1 65 := by rw [hs]; rfl
  have klo : ∀ a, a < 64 → sc.1 a = s.1 a := fun a ha => by rw [hs, d_mx_lo ha]
  have khi : ∀ a, 64 ≤ a → sr.1 a = s.1 a := fun a ha => by rw [hs, d_mx_hi ha]
  have kp : sc.2.1 = s.2.1 := by rw [hs]; rfl
  have same : ∀ v, F_X11_pond sc x y = some (v, sc) → F_X12_pond sr x y = some (v, sr) → ∃ v s' z', F_X11_pond sc x y = some (v, s') ∧ F_X12_pond sr x y = some (v, z') ∧ v_R t (d_mx s' z') ∧ v_fC sc s' ∧ v_fR sr z' := fun v h1 h2 => ⟨v, sc, sr, h1, h2, h0, v_fC.rf, v_fR.rf⟩
  have h' := h
  obtain ⟨hW, hI, hW2, hI2, h1, hQ, hX, hN, hr⟩ := h'
  obtain ⟨⟨w0, w1, w2, w3, w5, w6⟩, w4⟩ := hW.1
  have w0 : s.1 3 0 = s.1 65 16 := w0
  have w1 : s.1 3 1 = s.1 65 17 := w1
  have w2 : s.1 3 2 = s.1 65 18 := w2
  have y0 : s.1 6 0 = s.1 65 14 := hW.2.1.1 0 (by decide)
  have y1 : s.1 6 1 = s.1 65 15 := hW.2.1.1 1 (by decide)
  obtain ⟨i16, i17, i18, i1, i0, isg⟩ := hI.1
  have hG := hI.G
  by_cases c1 : 2 ≤ x ∧ x ≤ 8
  rotate_left
  · refine same 0 ?_ ?_
    · show F_X11_pond sc x y = _; unfold F_X11_pond; rw [P_within, d_b_t, v_bf c1, if_pos rfl]
    · show F_X12_pond sr x y = _
      unfold F_X12_pond; rw [P_isIn, d_b_t, v_bf c1, if_pos rfl]
  by_cases c2 : 2 ≤ y ∧ y ≤ 8
  rotate_left
  · refine same 0 ?_ ?_
    · show F_X11_pond sc x y = _; unfold F_X11_pond; rw [P_within, d_b_t, v_bt c1, if_neg (by decide), P_within, d_b_t, v_bf c2, if_pos rfl]
    · show F_X12_pond sr x y = _
      unfold F_X12_pond; rw [P_isIn, d_b_t, v_bt c1, if_neg (by decide), P_isIn, d_b_t, v_bf c2, if_pos rfl]
  by_cases c3 : s.1 65 18 = 0
  rotate_left
  · refine same 0 ?_ ?_
    · show F_X11_pond sc x y = _; unfold F_X11_pond; rw [P_within, d_b_t, v_bt c1, if_neg (by decide), P_within, d_b_t, v_bt c2, if_neg (by decide), k3, w2, if_neg c3]
    · show F_X12_pond sr x y = _
      unfold F_X12_pond; rw [P_isIn, d_b_t, v_bt c1, if_neg (by decide), P_isIn, d_b_t, v_bt c2, if_neg (by decide), kr, if_pos (by omega)]
  obtain ⟨j16, j17⟩ := i1 c3
  obtain ⟨b0, b1, b3, b4, u, v, b5, b6, hu, hv, hu2, hv2⟩ := hI.2.2.2
  have b5 : s.1 65 14 = u := b5
  have b6 : s.1 65 15 = v := b6
  have ew : v_wi (s.1 65) = 1 := by unfold v_wi; omega
  have eh : v_hi (s.1 65) = 1 := by unfold v_hi; omega
  rw [ew] at hu2
  rw [eh] at hv2
  have u0 : u = 0 := by simpa using hu2
  have v0 : v = 0 := by simpa using hv2
  subst u0
  subst v0
  obtain ⟨z, hz⟩ : ∃ z, z = d_si (d_si (d_si sc 3 2 1) 3 0 x) 3 1 y := ⟨_, rfl⟩
  have z3 : ∀ k, z.1 3 k = d_u (d_u (d_u (s.1 3) 2 1) 0 x) 1 y k := fun k => by rw [hz, d_si_i, d_si_i, d_si_i, k3]
  have zc : ∀ a, a ≠ 3 → z.1 a = sc.1 a := fun a ha => by rw [hz, d_si_n ha, d_si_n ha, d_si_n ha]
  have zo : ∀ a, a < 64 → a ≠ 3 → z.1 a = s.1 a := fun a h64 ha => by rw [zc a ha, klo a h64]
  have zp : z.2.1 = s.2.1 := by rw [hz]; exact kp
  have hC : v_C z 0 0 x.toNat y.toNat := by
    refine ⟨⟨by rw [zo 6 (by decide) (by decide), y0]; exact b5, by rw [zo 6 (by decide) (by decide), y1]; exact b6, ?_, ?_⟩, by decide, by decide, by omega, by omega, Nat.two_pow_pos _, Nat.two_pow_pos _⟩
    · rw [z3]; show x = _; omega
    · rw [z3]; show y = _; omega
  obtain ⟨s1, g1, g2, g3, g4⟩ := P_lay hC
  have so : ∀ a, a < 64 → a ≠ 3 → a ∉ v_L6 → s1.1 a = s.1 a := fun a h64 ha hb => (g2.1 a hb).trans (zo a h64 ha)
  have s3 : s1.1 3 = z.1 3 := g2.1 3 (by decide)
  obtain ⟨sq, hsq⟩ : ∃ q, q = d_si (d_si (d_si sr 65 16 x) 65 17 y) 65 18 1 := ⟨_, rfl⟩
  obtain ⟨s2, hs2⟩ : ∃ q, q = d_mx s1 sq := ⟨_, rfl⟩
  have e65 : ∀ k, s2.1 65 k = d_u (d_u (d_u (s.1 65) 16 x) 17 y) 18 1 k := fun k => by rw [hs2, d_mx_hi (by decide), hsq, d_si_i, d_si_i, d_si_i, kr]
  have eA : ∀ k, k ≠ 16 → k ≠ 17 → k ≠ 18 → s2.1 65 k = s.1 65 k := fun k a b c => by rw [e65, d_u_n c, d_u_n b, d_u_n a]
  have elo : ∀ a, a < 64 → s2.1 a = s1.1 a := fun a ha => by rw [hs2, d_mx_lo ha]
  have ep : s2.2.1 = s.2.1 := by rw [hs2]; show s1.2.1 = _; rw [g2.2]; exact zp
  have e16 : s2.1 65 16 = x := by rw [e65]; rfl
  have e17 : s2.1 65 17 = y := by rw [e65]; rfl
  have e18 : s2.1 65 18 = 1 := by rw [e65]; rfl
  have fo : ∀ a, a ≠ 3 → a ≠ 65 → a ∉ v_L6 → s2.1 a = s.1 a := fun a h1 h2 h3 => by
    by_cases q : a < 64
    · exact (elo a q).trans (so a q h1 h3)
    · rw [hs2, d_mx_hi (by omega), hsq, d_si_n h2, d_si_n h2, d_si_n h2, khi a (by omega)]
  have f3 : ∀ k, s2.1 3 k = d_u (d_u (d_u (s.1 3) 2 1) 0 x) 1 y k := fun k => by rw [elo 3 (by decide), s3]; exact z3 k
  have wi2 : v_wi (s2.1 65) = x.toNat := by unfold v_wi; rw [e16]
  have hi2 : v_hi (s2.1 65) = y.toNat := by unfold v_hi; rw [e17]
  have u2 : v_u (s2.1 65) = 0 := by unfold v_u; rw [eA 14 (by decide) (by decide) (by decide), b5]; rfl
  have v2 : v_v (s2.1 65) = 0 := by unfold v_v; rw [eA 15 (by decide) (by decide) (by decide), b6]; rfl
  have nl : ∀ a, 10 ≤ a → a ≤ 36 → a ∉ v_L6 := fun a h1 h2 h3 => by
    unfold v_L6 at h3
    simp only [List.mem_cons, List.not_mem_nil, or_false] at h3
    omega
  have hfin : v_R t s2 := by
   refine ⟨⟨?_, ?_, ?_, ?_⟩, ⟨?_, ?_, ?_, ?_⟩, ?_, ?_, ?_, ?_, ?_, ?_, ?_⟩
   · refine ⟨⟨?_, ?_, ?_, ?_, ?_, ?_⟩, fun n k hn hk => ?_⟩
     · show s2.1 3 0 = _; rw [f3, e16]; rfl
     · show s2.1 3 1 = _; rw [f3, e17]; rfl
     · show s2.1 3 2 = _; rw [f3, e18]; rfl
     · show s2.1 3 3 = _; rw [f3, eA 0 (by decide) (by decide) (by decide)]; exact w3
     · show s2.1 3 5 = _; rw [f3, eA 1 (by decide) (by decide) (by decide)]; exact w5
     · show s2.1 3 6 = _; rw [f3, eA 2 (by decide) (by decide) (by decide)]; exact w6
     · show s2.1 4 (6 * n + k) = _
       rw [eA 0 (by decide) (by decide) (by decide)] at hn
       rw [fo 4 (by decide) (by decide) (by decide), eA _ (by omega) (by omega) (by omega)]
       exact w4 n k hn hk
   · exact hW.2.1.fr (fo 6 (by decide) (by decide) (by decide)) (fo 7 (by decide) (by decide) (by decide)) (fun j hj => eA j (by omega) (by omega) (by omega))
   · obtain ⟨n, c, a1, a2, a3⟩ := hW.2.2.1
     refine ⟨n, c, ?_, ?_, ?_⟩
     · show s2.1 8 1 = _; rw [fo 8 (by decide) (by decide) (by decide)]; exact a1
     · show s2.1 8 2 = _; rw [fo 8 (by decide) (by decide) (by decide)]; exact a2
     · show v_Sx (s2.1 9) n c _ _ _
       rw [fo 9 (by decide) (by decide) (by decide), wi2, hi2]
       rw [ew, eh] at a3
       exact (a3.mono (by omega) (by omega)).fr (eA 3 (by decide) (by decide) (by decide)) (fun k h1 h2 => eA k (by omega) (by omega) (by omega))
   · exact hW.2.2.2.fr hI.2.2.1 (fun a h1 h2 => fo a (by omega) (by omega) (nl a (by omega) (by omega))) (fun j hj => eA j (by omega) (by omega) (by omega))
   · refine ⟨by rw [e16]; omega, by rw [e17]; omega, by rw [e18]; omega, by rw [e18]; intro q; omega, by rw [eA 0 (by decide) (by decide) (by decide)]; exact i0, fun n hn => ?_⟩
     rw [eA 0 (by decide) (by decide) (by decide)] at hn
     have hA2 : ∀ k, k < 6 → s2.1 65 (212 + 6 * n + k) = s.1 65 (212 + 6 * n + k) := fun k hk => eA _ (by omega) (by omega) (by omega)
     obtain ⟨g1, g2, g3, g4, g5⟩ := isg n hn
     rw [hA2 1 (by decide), hA2 2 (by decide), hA2 3 (by decide), hA2 4 (by decide), e16, e17]
     exact ⟨fun k hk => by rw [hA2 k hk]; exact g1 k hk, g2, g3, by omega, by omega⟩
   · exact hI.2.1.fr (fun j h1 h2 => eA j (by omega) (by omega) (by omega))
   · exact hI.2.2.1.fr (fun j hj => eA j (by omega) (by omega) (by omega))
   · rw [wi2, hi2]
     refine ⟨?_, ?_, ?_, ?_, 0, 0, ?_, ?_, by decide, by decide, Nat.two_pow_pos _, Nat.two_pow_pos _⟩
     · show 0 ≤ s2.1 65 9 ∧ s2.1 65 9 ≤ 999; rw [eA 9 (by decide) (by decide) (by decide)]; exact b0
     · show 0 ≤ s2.1 65 10 ∧ s2.1 65 10 ≤ 9; rw [eA 10 (by decide) (by decide) (by decide)]; exact b1
     · show 0 ≤ s2.1 65 12 ∧ s2.1 65 12 ≤ 99; rw [eA 12 (by decide) (by decide) (by decide)]; exact b3
     · show 0 ≤ s2.1 65 13 ∧ s2.1 65 13 < 30293; rw [eA 13 (by decide) (by decide) (by decide)]; exact b4
     · show s2.1 65 14 = _; rw [eA 14 (by decide) (by decide) (by decide)]; exact b5
     · show s2.1 65 15 = _; rw [eA 15 (by decide) (by decide) (by decide)]; exact b6
   · rw [fo 66 (by decide) (by decide) (by decide)]
     exact hW2.fr (fun a h1 h2 => fo a (by omega) (by omega) (nl a (by omega) (by omega))) hI2
   · rw [fo 66 (by decide) (by decide) (by decide)]; exact hI2
   · rw [fo 66 (by decide) (by decide) (by decide), eA 1 (by decide) (by decide) (by decide)]; exact h1
   · rw [u2, v2, wi2, hi2]
     have hQ1 : v_Q s1 0 0 x.toNat y.toNat := ⟨g3, g4, by decide, by omega, by omega⟩
     exact hQ1.fr (fun a h1 h2 => elo a (by omega))
   · exact hX.fr (eA 1 (by decide) (by decide) (by decide)) (fo 66 (by decide) (by decide) (by decide)) (fo 67 (by decide) (by decide) (by decide)) (by rw [ep]) (by rw [ep])
   · rw [fo 49 (by decide) (by decide) (by decide), fo 71 (by decide) (by decide) (by decide)]; exact hN
   · exact hr.fr (fo 43 (by decide) (by decide) (by decide)) (fo 44 (by decide) (by decide) (by decide)) (fo 64 (by decide) (by decide) (by decide)) (fo 68 (by decide) (by decide) (by decide))
  refine ⟨1, s1, sq, ?_, ?_, by rw [← hs2]; exact hfin, fun a ha => ?_, ⟨fun a ha => ?_, by rw [hsq]; rfl⟩⟩
  · show F_X11_pond sc x y = _
    unfold F_X11_pond
    rw [P_within, d_b_t, v_bt c1, if_neg (by decide), P_within, d_b_t, v_bt c2, if_neg (by decide), k3, w2, if_pos c3, k6, y0, if_pos (show s.1 65 14 = 0 from b5), y1, if_pos (show s.1 65 15 = 0 from b6), d_l_t, d_l_t, d_l_t, ← hz, g1, d_b_t]
  · show F_X12_pond sr x y = _
    unfold F_X12_pond
    rw [P_isIn, d_b_t, v_bt c1, if_neg (by decide), P_isIn, d_b_t, v_bt c2, if_neg (by decide), kr, if_neg (by omega), d_l_t, d_l_t, d_l_t, hsq]
  · rw [g2.1 a (by intro h3; unfold v_L6 at h3; simp only [List.mem_cons, List.not_mem_nil, or_false] at h3; omega)]
    exact zc a (by omega)
  · rw [hsq, d_si_n (by omega), d_si_n (by omega), d_si_n (by omega)]
theorem A2_sight {x1 x2 x3 x4 x5 x6 : Int} (r2 : d_R x2) (r3 : d_R x3) : ∀ sc sr, v_R t (d_mx sc sr) → ∃ v s' z', F_X11_sight sc x1 x2 x3 x4 x5 x6 = some (v, s') ∧ F_X12_sight sr x1 x2 x3 x4 x5 x6 = some (v, z') ∧ v_R t (d_mx s' z') ∧ v_fC sc s' ∧ v_fR sr z' ∧ (v = -1 ∨ 0 ≤ v) := by
  intro sc sr h0
  obtain ⟨s, hs⟩ : ∃ s, s = d_mx sc sr := ⟨_, rfl⟩
  have h : v_R t s := by rw [hs]; exact h0
  have k3 : sc.1 3 = s.1 3 := by rw [hs]; rfl
  have k4 : sc.1 4 = s.1 4 := by rw [hs]; rfl
  have k6 : sc.1 6 = s.1 6 := by rw [hs]; rfl
  have kr : sr.1 65 = s.1 65 := by rw [hs]; rfl
  have klo : ∀ a, a < 64 → sc.1 a = s.1 a := fun a ha => by rw [hs, d_mx_lo ha]
  have khi : ∀ a, 64 ≤ a → sr.1 a = s.1 a := fun a ha => by rw [hs, d_mx_hi ha]
  have kp : sc.2.1 = s.2.1 := by rw [hs]; rfl
  have same : ∀ v : Int, v = -1 → F_X11_sight sc x1 x2 x3 x4 x5 x6 = some (v, sc) → F_X12_sight sr x1 x2 x3 x4 x5 x6 = some (v, sr) → ∃ v s' z', F_X11_sight sc x1 x2 x3 x4 x5 x6 = some (v, s') ∧ F_X12_sight sr x1 x2 x3 x4 x5 x6 = some (v, z') ∧ v_R t (d_mx s' z') ∧ v_fC sc s' ∧ v_fR sr z' ∧ (v = -1 ∨ 0 ≤ v) := fun v h3 h1 h2 => ⟨v, sc, sr, h1, h2, h0, v_fC.rf, v_fR.rf, Or.inl h3⟩
  have h' := h
  obtain ⟨hW, hI, hW2, hI2, h1, hQ, hX, hN, hr⟩ := h'
  obtain ⟨⟨w0, w1, w2, w3, w5, w6⟩, w4⟩ := hW.1
  have w0 : s.1 3 0 = s.1 65 16 := w0
  have w1 : s.1 3 1 = s.1 65 17 := w1
  have w3 : s.1 3 3 = s.1 65 0 := w3
  obtain ⟨i16, i17, i18, i1, i0, isg⟩ := hI.1
  
  by_cases c1 : 0 ≤ x1 ∧ x1 ≤ 9
  rotate_left
  · refine same (-1) rfl ?_ ?_
    · show F_X11_sight sc x1 x2 x3 x4 x5 x6 = _; unfold F_X11_sight F_X11_sight_j81; rw [P_within, d_b_t, v_bf c1, if_pos rfl]
    · show F_X12_sight sr x1 x2 x3 x4 x5 x6 = _
      unfold F_X12_sight; rw [P_isIn, d_b_t, v_bf c1, if_pos rfl]
  by_cases c6 : 0 ≤ x6 ∧ x6 ≤ 9
  rotate_left
  · refine same (-1) rfl ?_ ?_
    · show F_X11_sight sc x1 x2 x3 x4 x5 x6 = _; unfold F_X11_sight F_X11_sight_j81; rw [P_within, d_b_t, v_bt c1, if_neg (by decide), P_within, d_b_t, v_bf c6, if_pos rfl]
    · show F_X12_sight sr x1 x2 x3 x4 x5 x6 = _
      unfold F_X12_sight
      rw [P_isIn, d_b_t]
      refine v_both ?_
      rw [P_isIn, d_b_t]
      refine v_both ?_
      rw [P_isIn, d_b_t]
      refine v_both ?_
      rw [P_isIn, d_b_t]
      refine v_both ?_
      rw [P_isIn, d_b_t]
      refine v_both ?_
      rw [P_isIn, d_b_t, v_bf c6, if_pos rfl]
  by_cases c4 : 1 ≤ x4 ∧ x4 ≤ 3
  rotate_left
  · refine same (-1) rfl ?_ ?_
    · show F_X11_sight sc x1 x2 x3 x4 x5 x6 = _; unfold F_X11_sight F_X11_sight_j81; rw [P_within, d_b_t, v_bt c1, if_neg (by decide), P_within, d_b_t, v_bt c6, if_neg (by decide), P_within, d_b_t, v_bf c4, if_pos rfl]
    · show F_X12_sight sr x1 x2 x3 x4 x5 x6 = _
      unfold F_X12_sight
      rw [P_isIn, d_b_t]
      refine v_both ?_
      rw [P_isIn, d_b_t]
      refine v_both ?_
      rw [P_isIn, d_b_t]
      refine v_both ?_
      rw [P_isIn, d_b_t, v_bf c4, if_pos rfl]
  by_cases c5 : 1 ≤ x5 ∧ x5 ≤ 3
  rotate_left
  · refine same (-1) rfl ?_ ?_
    · show F_X11_sight sc x1 x2 x3 x4 x5 x6 = _; unfold F_X11_sight F_X11_sight_j81; rw [P_within, d_b_t, v_bt c1, if_neg (by decide), P_within, d_b_t, v_bt c6, if_neg (by decide), P_within, d_b_t, v_bt c4, if_neg (by decide), P_within, d_b_t, v_bf c5, if_pos rfl]
    · show F_X12_sight sr x1 x2 x3 x4 x5 x6 = _
      unfold F_X12_sight
      rw [P_isIn, d_b_t]
      refine v_both ?_
      rw [P_isIn, d_b_t]
      refine v_both ?_
      rw [P_isIn, d_b_t]
      refine v_both ?_
      rw [P_isIn, d_b_t]
      refine v_both ?_
      rw [P_isIn, d_b_t, v_bf c5, if_pos rfl]
  have w0c : sc.1 3 0 = s.1 65 16 := by rw [k3]; exact w0
  have w1c : sc.1 3 1 = s.1 65 17 := by rw [k3]; exact w1
  have w3c : sc.1 3 3 = s.1 65 0 := by rw [k3]; exact w3
  have hC0 : F_X11_sight sc x1 x2 x3 x4 x5 x6 = d_b (F_X11_within x2 0 (d_w ((sc.1 3 0) - x4))) (fun v5 => if v5 = 0 then some ((-1), sc) else d_b (F_X11_within x3 0 (d_w ((sc.1 3 1) - x5))) (fun v6 => if v6 = 0 then some ((-1), sc) else if 72 < (d_w ((d_w ((sc.1 3 3) * 6)) + 6)) then some ((-1), sc) else some (s.1 65 0, d_si (d_st sc 4 (v_p6 (sc.1 4) (6 * (s.1 65 0).toNat) x1 x2 x3 x4 x5 x6)) 3 3 (s.1 65 0 + 1)))) := by
    unfold F_X11_sight F_X11_sight_j81
    rw [P_within, d_b_t, v_bt c1, if_neg (by decide), P_within, d_b_t, v_bt c6, if_neg (by decide), P_within, d_b_t, v_bt c4, if_neg (by decide), P_within, d_b_t, v_bt c5, if_neg (by decide)]
    congr 1
    funext v5
    by_cases q5 : v5 = 0
    · rw [if_pos q5, if_pos q5]
    rw [if_neg q5, if_neg q5]
    congr 1
    funext v6
    by_cases q6 : v6 = 0
    · rw [if_pos q6, if_pos q6]
    rw [if_neg q6, if_neg q6, w3c]
    by_cases q12 : 72 < d_w (d_w (s.1 65 0 * 6) + 6)
    · rw [if_pos q12, if_pos q12]
    rw [if_neg q12, if_neg q12]
    have e0 : d_w (s.1 65 0 * 6) = s.1 65 0 * 6 := d_w_id (by omega) (by omega)
    rw [e0, d_w_id (by omega) (by omega)] at q12
    have ek : ∀ k : Int, 0 ≤ k → k < 6 → d_w (s.1 65 0 * 6 + k) = s.1 65 0 * 6 + k := fun k h1 h2 => d_w_id (by omega) (by omega)
    have tn : ∀ k : Nat, (s.1 65 0 * 6 + (k : Int)).toNat = 6 * (s.1 65 0).toNat + k := fun k => by omega
    have t0 : (s.1 65 0 * 6 + 0).toNat = 6 * (s.1 65 0).toNat := by omega
    have t1 : (s.1 65 0 * 6 + 1).toNat = 6 * (s.1 65 0).toNat + 1 := by omega
    have t2 : (s.1 65 0 * 6 + 2).toNat = 6 * (s.1 65 0).toNat + 2 := by omega
    have t3 : (s.1 65 0 * 6 + 3).toNat = 6 * (s.1 65 0).toNat + 3 := by omega
    have t4 : (s.1 65 0 * 6 + 4).toNat = 6 * (s.1 65 0).toNat + 4 := by omega
    have t5 : (s.1 65 0 * 6 + 5).toNat = 6 * (s.1 65 0).toNat + 5 := by omega
    simp (disch := first | decide | omega) only [e0, ek, d_si_n, w3c, d_g_t, d_l_t, t0, t1, t2, t3, t4, t5]
    have hst : d_si (d_si (d_si (d_si (d_si (d_si sc 4 (6 * (s.1 65 0).toNat) x1) 4 (6 * (s.1 65 0).toNat + 1) x2) 4 (6 * (s.1 65 0).toNat + 2) x3) 4 (6 * (s.1 65 0).toNat + 3) x4) 4 (6 * (s.1 65 0).toNat + 4) x5) 4 (6 * (s.1 65 0).toNat + 5) x6 = d_st sc 4 (v_p6 (sc.1 4) (6 * (s.1 65 0).toNat) x1 x2 x3 x4 x5 x6) := by
      refine Prod.ext ?_ rfl
      funext a
      by_cases q : a = 4
      · subst q
        rw [d_si_i, d_si_i, d_si_i, d_si_i, d_si_i, d_si_i, d_st_i]; rfl
      · rw [d_si_n q, d_si_n q, d_si_n q, d_si_n q, d_si_n q, d_si_n q, d_st_n q]
    rw [hst, d_si_i, d_u_t, show d_w (s.1 65 0 + 1) = s.1 65 0 + 1 from d_w_id (by omega) (by omega), d_w_id (by omega) (by omega)]
    congr 1
    exact Prod.ext (by show s.1 65 0 + 1 - 1 = _; omega) rfl
  have hC0 : F_X11_sight sc x1 x2 x3 x4 x5 x6 = _ := hC0
  show ∃ v s' z', F_X11_sight sc x1 x2 x3 x4 x5 x6 = _ ∧ F_X12_sight sr x1 x2 x3 x4 x5 x6 = _ ∧ _
  rw [hC0, w0c, w1c, w3c, show d_w (s.1 65 0 * 6) = s.1 65 0 * 6 from d_w_id (by omega) (by omega), show d_w (s.1 65 0 * 6 + 6) = s.1 65 0 * 6 + 6 from d_w_id (by omega) (by omega), show d_w (s.1 65 16 - x4) = s.1 65 16 - x4 from d_w_id (by omega) (by omega), show d_w (s.1 65 17 - x5) = s.1 65 17 - x5 from d_w_id (by omega) (by omega), P_within, d_b_t, P_within]
  
  have hD0 : ∀ s1 : d_S, s1.1 65 = s.1 65 → (0 ≤ x2 ∧ x2 ≤ 7) → (0 ≤ x3 ∧ x3 ≤ 7) → F_X12_sight s1 x1 x2 x3 x4 x5 x6 = if s.1 65 16 < x2 + x4 then some ((-1), s1) else if s.1 65 17 < x3 + x5 then some ((-1), s1) else if s.1 65 0 = 12 then some ((-1), s1) else some (s.1 65 0, d_si (d_st s1 65 (v_p6 (s.1 65) (212 + 6 * (s.1 65 0).toNat) x1 x2 x3 x4 x5 x6)) 65 0 (s.1 65 0 + 1)) := by
    intro s1 e65 c2 c3
    unfold F_X12_sight
    rw [P_isIn, d_b_t, v_bt c1, if_neg (by decide), P_isIn, d_b_t, v_bt c2, if_neg (by decide), P_isIn, d_b_t, v_bt c3, if_neg (by decide), P_isIn, d_b_t, v_bt c4, if_neg (by decide), P_isIn, d_b_t, v_bt c5, if_neg (by decide), P_isIn, d_b_t, v_bt c6, if_neg (by decide), e65, d_w_id (by omega) (by omega), d_w_id (by omega) (by omega)]
    by_cases q1 : s.1 65 16 < x2 + x4
    · rw [if_pos q1, if_pos q1]
    rw [if_neg q1, if_neg q1]
    by_cases q2 : s.1 65 17 < x3 + x5
    · rw [if_pos q2, if_pos q2]
    rw [if_neg q2, if_neg q2]
    by_cases q3 : s.1 65 0 = 12
    · rw [if_pos q3, if_pos q3]
    rw [if_neg q3, if_neg q3, d_w_id (by omega) (by omega), d_l_t]
    have ek : ∀ k : Int, 0 ≤ k → k < 6 → d_w (212 + 6 * s.1 65 0 + k) = 212 + 6 * s.1 65 0 + k := fun k h1 h2 => d_w_id (by omega) (by omega)
    have t0 : (212 + 6 * s.1 65 0).toNat = 212 + 6 * (s.1 65 0).toNat := by omega
    have t1 : (212 + 6 * s.1 65 0 + 1).toNat = 212 + 6 * (s.1 65 0).toNat + 1 := by omega
    have t2 : (212 + 6 * s.1 65 0 + 2).toNat = 212 + 6 * (s.1 65 0).toNat + 2 := by omega
    have t3 : (212 + 6 * s.1 65 0 + 3).toNat = 212 + 6 * (s.1 65 0).toNat + 3 := by omega
    have t4 : (212 + 6 * s.1 65 0 + 4).toNat = 212 + 6 * (s.1 65 0).toNat + 4 := by omega
    have t5 : (212 + 6 * s.1 65 0 + 5).toNat = 212 + 6 * (s.1 65 0).toNat + 5 := by omega
    simp (disch := first | decide | omega) only [ek, d_g_t, d_l_t, t0, t1, t2, t3, t4, t5]
    have hst : d_si (d_si (d_si (d_si (d_si (d_si s1 65 (212 + 6 * (s.1 65 0).toNat) x1) 65 (212 + 6 * (s.1 65 0).toNat + 1) x2) 65 (212 + 6 * (s.1 65 0).toNat + 2) x3) 65 (212 + 6 * (s.1 65 0).toNat + 3) x4) 65 (212 + 6 * (s.1 65 0).toNat + 4) x5) 65 (212 + 6 * (s.1 65 0).toNat + 5) x6 = d_st s1 65 (v_p6 (s.1 65) (212 + 6 * (s.1 65 0).toNat) x1 x2 x3 x4 x5 x6) := by
      refine Prod.ext ?_ rfl
      funext a
      by_cases q : a = 65
      · subst q
        rw [d_si_i, d_si_i, d_si_i, d_si_i, d_si_i, d_si_i, d_st_i, e65]; rfl
      · rw [d_si_n q, d_si_n q, d_si_n q, d_si_n q, d_si_n q, d_si_n q, d_st_n q]
    rw [hst, d_si_i, d_u_t, d_st_i, v_p6_o (by omega), show d_w (s.1 65 0 + 1) = s.1 65 0 + 1 from d_w_id (by omega) (by omega), d_w_id (by omega) (by omega)]
    congr 1
    exact Prod.ext (by show s.1 65 0 + 1 - 1 = _; omega) rfl
  have hDn : ∀ (s1 : d_S), ¬ ((0 ≤ x2 ∧ x2 ≤ 7) ∧ (0 ≤ x3 ∧ x3 ≤ 7)) → F_X12_sight s1 x1 x2 x3 x4 x5 x6 = some (-1, s1) := by
    intro s1 hn
    unfold F_X12_sight
    rw [P_isIn, d_b_t, v_bt c1, if_neg (by decide), P_isIn, d_b_t]
    by_cases q2 : 0 ≤ x2 ∧ x2 ≤ 7
    · rw [v_bt q2, if_neg (by decide), P_isIn, d_b_t, v_bf (by omega), if_pos rfl]
    · rw [v_bf q2, if_pos rfl]
  have hS := hW.S hI
  by_cases c2 : 0 ≤ x2 ∧ x2 ≤ s.1 65 16 - x4
  rotate_left
  · refine ⟨-1, sc, sr, (by rw [v_bf c2, if_pos rfl]), ?_, h0, v_fC.rf, v_fR.rf, Or.inl rfl⟩
    show F_X12_sight sr x1 x2 x3 x4 x5 x6 = _
    by_cases q : (0 ≤ x2 ∧ x2 ≤ 7) ∧ (0 ≤ x3 ∧ x3 ≤ 7)
    · rw [hD0 sr kr q.1 q.2, if_pos (by omega)]
    · exact hDn sr q
  rw [v_bt c2, if_neg (by decide), d_b_t]
  by_cases c3 : 0 ≤ x3 ∧ x3 ≤ s.1 65 17 - x5
  rotate_left
  · refine ⟨-1, sc, sr, (by rw [v_bf c3, if_pos rfl]), ?_, h0, v_fC.rf, v_fR.rf, Or.inl rfl⟩
    show F_X12_sight sr x1 x2 x3 x4 x5 x6 = _
    by_cases q : (0 ≤ x2 ∧ x2 ≤ 7) ∧ (0 ≤ x3 ∧ x3 ≤ 7)
    · rw [hD0 sr kr q.1 q.2, if_neg (by omega), if_pos (by omega)]
    · exact hDn sr q
  rw [v_bt c3, if_neg (by decide)]
  by_cases c12 : s.1 65 0 = 12
  · refine ⟨-1, sc, sr, (by rw [if_pos (by omega)]), ?_, h0, v_fC.rf, v_fR.rf, Or.inl rfl⟩
    show F_X12_sight sr x1 x2 x3 x4 x5 x6 = _
    rw [hD0 sr kr (by omega) (by omega), if_neg (by omega), if_neg (by omega), if_pos c12]
  rw [if_neg (by omega)]
  obtain ⟨N, hNN⟩ : ∃ N : Nat, s.1 65 0 = N := ⟨(s.1 65 0).toNat, by omega⟩
  obtain ⟨s1, hs1⟩ : ∃ z, z = d_si (d_st sc 4 (v_p6 (sc.1 4) (6 * (s.1 65 0).toNat) x1 x2 x3 x4 x5 x6)) 3 3 (s.1 65 0 + 1) := ⟨_, rfl⟩
  have sc' : ∀ a, a ≠ 3 → a ≠ 4 → s1.1 a = sc.1 a := fun a h1 h2 => by rw [hs1, d_si_n h1, d_st_n h2]
  obtain ⟨sq, hsq⟩ : ∃ z, z = d_si (d_st sr 65 (v_p6 (s.1 65) (212 + 6 * (s.1 65 0).toNat) x1 x2 x3 x4 x5 x6)) 65 0 (s.1 65 0 + 1) := ⟨_, rfl⟩
  obtain ⟨s2, hs2⟩ : ∃ q, q = d_mx s1 sq := ⟨_, rfl⟩
  have elo : ∀ a, a < 64 → s2.1 a = s1.1 a := fun a ha => by rw [hs2, d_mx_lo ha]
  have ehi : s2.1 65 = sq.1 65 := by rw [hs2, d_mx_hi (by decide)]
  have fo : ∀ a, a ≠ 3 → a ≠ 4 → a ≠ 65 → s2.1 a = s.1 a := fun a h1 h2 h3 => by
    by_cases q : a < 64
    · rw [elo a q, sc' a h1 h2, klo a q]
    · rw [hs2, d_mx_hi (by omega), hsq, d_si_n h3, d_st_n h3, khi a (by omega)]
  have e65 : ∀ k, s2.1 65 k = d_u (v_p6 (s.1 65) (212 + 6 * N) x1 x2 x3 x4 x5 x6) 0 (N + 1) k := fun k => by rw [ehi, hsq, d_si_i, d_st_i, hNN]; rfl
  have e00 : s2.1 65 0 = N + 1 := by rw [e65, d_u_t]
  have eA : ∀ k, k ≠ 0 → (k < 212 + 6 * N ∨ 212 + 6 * N + 6 ≤ k) → s2.1 65 k = s.1 65 k := fun k h0 hk => by rw [e65, d_u_n h0, v_p6_o hk]
  have eN : ∀ k, s2.1 65 (212 + 6 * N + k) = v_p6 (s.1 65) (212 + 6 * N) x1 x2 x3 x4 x5 x6 (212 + 6 * N + k) := fun k => by rw [e65, d_u_n (by omega)]
  have f3 : ∀ k, s2.1 3 k = d_u (s.1 3) 3 (N + 1) k := fun k => by rw [elo 3 (by decide), hs1, d_si_i, d_st_n (by decide), hNN, k3]
  have f4 : s2.1 4 = v_p6 (s.1 4) (6 * N) x1 x2 x3 x4 x5 x6 := by rw [elo 4 (by decide), hs1, d_si_n (by decide), d_st_i, hNN, k4]; rfl
  have ep : s2.2.1 = s.2.1 := by rw [hs2, hs1]; exact kp
  have hN12 : N < 12 := by omega
  have hfin : v_R t s2 := by
   refine ⟨⟨?_, ?_, ?_, ?_⟩, ⟨?_, ?_, ?_, ?_⟩, ?_, ?_, ?_, ?_, ?_, ?_, ?_⟩
   · refine ⟨⟨?_, ?_, ?_, ?_, ?_, ?_⟩, fun n k hn hk => ?_⟩
     · show s2.1 3 0 = _; rw [f3, d_u_n (by decide), eA 16 (by decide) (by omega)]; exact w0
     · show s2.1 3 1 = _; rw [f3, d_u_n (by decide), eA 17 (by decide) (by omega)]; exact w1
     · show s2.1 3 2 = _; rw [f3, d_u_n (by decide), eA 18 (by decide) (by omega)]; exact w2
     · show s2.1 3 3 = _; rw [f3, d_u_t, e00]
     · show s2.1 3 5 = _; rw [f3, d_u_n (by decide), eA 1 (by decide) (by omega)]; exact w5
     · show s2.1 3 6 = _; rw [f3, d_u_n (by decide), eA 2 (by decide) (by omega)]; exact w6
     · show s2.1 4 (6 * n + k) = _
       rw [e00] at hn
       by_cases q : n = N
       · subst q
         rw [eN, f4]; exact v_p6_i hk
       · rw [eA _ (by omega) (by omega), f4, v_p6_o (by omega)]
         exact w4 n k (by omega) hk
   · exact hW.2.1.fr (fo 6 (by decide) (by decide) (by decide)) (fo 7 (by decide) (by decide) (by decide)) (fun j hj => eA j (by omega) (by omega))
   · exact hW.2.2.1.fr (fo 8 (by decide) (by decide) (by decide)) (fo 9 (by decide) (by decide) (by decide)) (eA 3 (by decide) (by omega)) (eA 16 (by decide) (by omega)) (eA 17 (by decide) (by omega)) (fun j h1 h2 => eA j (by omega) (by omega))
   · exact hW.2.2.2.fr hI.2.2.1 (fun a h1 h2 => fo a (by omega) (by omega) (by omega)) (fun j hj => eA j (by omega) (by omega))
   · refine ⟨by rw [eA 16 (by decide) (by omega)]; exact i16, by rw [eA 17 (by decide) (by omega)]; exact i17, by rw [eA 18 (by decide) (by omega)]; exact i18, by rw [eA 16 (by decide) (by omega), eA 17 (by decide) (by omega), eA 18 (by decide) (by omega)]; exact i1, by rw [e00]; omega, fun n hn => ?_⟩
     rw [e00] at hn
     rw [eA 16 (by decide) (by omega), eA 17 (by decide) (by omega)]
     by_cases q : n = N
     · subst q
       obtain ⟨p0, p1, p2, p3, p4, p5⟩ := v_p6_v (f := s.1 65) (p := 212 + 6 * n) (a := x1) (b := x2) (c := x3) (d := x4) (e := x5) (g := x6)
       have z0 : s2.1 65 (212 + 6 * n + 0) = x1 := (eN 0).trans p0
       have z1 : s2.1 65 (212 + 6 * n + 1) = x2 := (eN 1).trans p1
       have z2 : s2.1 65 (212 + 6 * n + 2) = x3 := (eN 2).trans p2
       have z3 : s2.1 65 (212 + 6 * n + 3) = x4 := (eN 3).trans p3
       have z4 : s2.1 65 (212 + 6 * n + 4) = x5 := (eN 4).trans p4
       have z5 : s2.1 65 (212 + 6 * n + 5) = x6 := (eN 5).trans p5
       rw [z1, z2, z3, z4]
       refine ⟨fun k hk => ?_, by omega, by omega, by omega, by omega⟩
       have : k = 0 ∨ k = 1 ∨ k = 2 ∨ k = 3 ∨ k = 4 ∨ k = 5 := by omega
       rcases this with rfl | rfl | rfl | rfl | rfl | rfl
       · rw [z0]; omega
       · rw [z1]; omega
       · rw [z2]; omega
       · rw [z3]; omega
       · rw [z4]; omega
       · rw [z5]; omega
     · have hA2 : ∀ k, k < 6 → s2.1 65 (212 + 6 * n + k) = s.1 65 (212 + 6 * n + k) := fun k hk => eA _ (by omega) (by omega)
       rw [hA2 1 (by decide), hA2 2 (by decide), hA2 3 (by decide), hA2 4 (by decide)]
       obtain ⟨g1, g2⟩ := isg n (by omega)
       exact ⟨fun k hk => by rw [hA2 k hk]; exact g1 k hk, g2⟩
   · exact hI.2.1.fr (fun j h1 h2 => eA j (by omega) (by omega))
   · exact hI.2.2.1.fr (fun j hj => eA j (by omega) (by omega))
   · have ew : v_wi (s2.1 65) = v_wi (s.1 65) := by unfold v_wi; rw [eA 16 (by decide) (by omega)]
     have eh : v_hi (s2.1 65) = v_hi (s.1 65) := by unfold v_hi; rw [eA 17 (by decide) (by omega)]
     rw [ew, eh]
     obtain ⟨b0, b1, b3, b4, u, v, b5, b6, b7⟩ := hI.2.2.2
     refine ⟨?_, ?_, ?_, ?_, u, v, ?_, ?_, b7⟩
     · show 0 ≤ s2.1 65 9 ∧ s2.1 65 9 ≤ 999; rw [eA 9 (by decide) (by omega)]; exact b0
     · show 0 ≤ s2.1 65 10 ∧ s2.1 65 10 ≤ 9; rw [eA 10 (by decide) (by omega)]; exact b1
     · show 0 ≤ s2.1 65 12 ∧ s2.1 65 12 ≤ 99; rw [eA 12 (by decide) (by omega)]; exact b3
     · show 0 ≤ s2.1 65 13 ∧ s2.1 65 13 < 30293; rw [eA 13 (by decide) (by omega)]; exact b4
     · show s2.1 65 14 = _; rw [eA 14 (by decide) (by omega)]; exact b5
     · show s2.1 65 15 = _; rw [eA 15 (by decide) (by omega)]; exact b6
   · rw [fo 66 (by decide) (by decide) (by decide)]
     exact hW2.fr (fun a h1 h2 => fo a (by omega) (by omega) (by omega)) hI2
   · rw [fo 66 (by decide) (by decide) (by decide)]; exact hI2
   · rw [fo 66 (by decide) (by decide) (by decide), eA 1 (by decide) (by omega)]; exact h1
   · have eu : v_u (s2.1 65) = v_u (s.1 65) ∧ v_v (s2.1 65) = v_v (s.1 65) ∧ v_wi (s2.1 65) = v_wi (s.1 65) ∧ v_hi (s2.1 65) = v_hi (s.1 65) := by
       unfold v_u v_v v_wi v_hi
       rw [eA 14 (by decide) (by omega), eA 15 (by decide) (by omega), eA 16 (by decide) (by omega), eA 17 (by decide) (by omega)]
       exact ⟨rfl, rfl, rfl, rfl⟩
     rw [eu.1, eu.2.1, eu.2.2.1, eu.2.2.2]
     exact hQ.fr (fun a h1 h2 => fo a (by omega) (by omega) (by omega))
   · exact hX.fr (eA 1 (by decide) (by omega)) (fo 66 (by decide) (by decide) (by decide)) (fo 67 (by decide) (by decide) (by decide)) (by rw [ep]) (by rw [ep])
   · rw [fo 49 (by decide) (by decide) (by decide), fo 71 (by decide) (by decide) (by decide)]; exact hN
   · exact hr.fr (fo 43 (by decide) (by decide) (by decide)) (fo 44 (by decide) (by decide) (by decide)) (fo 64 (by decide) (by decide) (by decide)) (fo 68 (by decide) (by decide) (by decide))
  refine ⟨s.1 65 0, s1, sq, by rw [hs1], ?_, by rw [← hs2]; exact hfin, fun a ha => sc' a (by omega) (by omega), ⟨fun a ha => by rw [hsq, d_si_n (by omega), d_st_n (by omega)], by rw [hsq]; rfl⟩, Or.inr (by omega)⟩
  rw [hD0 sr kr (by omega) (by omega), if_neg (by omega), if_neg (by omega), if_neg c12, hsq]
end V26

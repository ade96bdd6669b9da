section V21
variable {s s' z z' s4 z4 : d_S} {t : Nat → Option p_C} {a : Nat} {x : Int}
theorem v_unC {p : Bool} (hp : p = true ↔ ∀ b, b < 64 → s.1 7 b = 0) : ∀ (j k m : Nat), k + j = 64 → j < m → (∀ b, b < k → s.1 7 b = 0) → F_X10_isUntouched_6_l2 s m (k : Int) = some (if p then 1 else 0) := by
  intro j
  induction j with
  | zero =>
    intro k m hk hm h
    obtain ⟨m, rfl⟩ : ∃ q, m = q + 1 := ⟨m - 1, by omega⟩
    show F_X10_isUntouched_6_l2_b s (F_X10_isUntouched_6_l2 s m) _ = _
    unfold F_X10_isUntouched_6_l2_b
    rw [if_neg (by omega), if_pos (hp.2 (fun b hb => h b (by omega)))]
  | succ j ih =>
    intro k m hk hm h
    obtain ⟨m, rfl⟩ : ∃ q, m = q + 1 := ⟨m - 1, by omega⟩
    show F_X10_isUntouched_6_l2_b s (F_X10_isUntouched_6_l2 s m) _ = _
    unfold F_X10_isUntouched_6_l2_b
    rw [if_pos (by omega), d_g_t (by omega), Int.toNat_natCast]
    by_cases q : s.1 7 k = 0
    · rw [if_pos q, d_w_id (by omega) (by omega)]
      refine ih (k + 1) m (by omega) (by omega) (fun b hb => ?_)
      by_cases e : b = k
      · rw [e]; exact q
      · exact h b (by omega)
    · rw [if_neg q, if_neg (fun e => q (hp.1 e k (by omega)))]
theorem v_unR {K : Int → Int → d_S → Option (Int × d_S)} {x1 x3 : Int} {p : Bool} (hp : p = true ↔ ∀ i, 20 ≤ i → i < 212 → s.1 65 i = 0) : ∀ (j k m : Nat), k + j = 212 → 20 ≤ k → j < m → (∀ i, 20 ≤ i → i < k → s.1 65 i = 0) → F_X12_saw_l57 K m x1 x3 (k : Int) s = if p then K x1 x3 s else some (-1, s) := by
  intro j
  induction j with
  | zero =>
    intro k m hk h20 hm h
    obtain ⟨m, rfl⟩ : ∃ q, m = q + 1 := ⟨m - 1, by omega⟩
    show F_X12_saw_l57_b K (F_X12_saw_l57 K m) _ _ _ s = _
    unfold F_X12_saw_l57_b
    rw [if_neg (by omega), if_pos (hp.2 (fun b h1 hb => h b h1 (by omega)))]
  | succ j ih =>
    intro k m hk h20 hm h
    obtain ⟨m, rfl⟩ : ∃ q, m = q + 1 := ⟨m - 1, by omega⟩
    show F_X12_saw_l57_b K (F_X12_saw_l57 K m) _ _ _ s = _
    unfold F_X12_saw_l57_b
    rw [if_pos (by omega), d_g_t (by omega), Int.toNat_natCast]
    by_cases q : s.1 65 k = 0
    · rw [if_pos q, d_w_id (by omega) (by omega)]
      refine ih (k + 1) m (by omega) (by omega) (by omega) (fun b h1 hb => ?_)
      by_cases e : b = k
      · rw [e]; exact q
      · exact h b h1 (by omega)
    · rw [if_neg q, if_neg (fun e => q (hp.1 e k h20 (by omega)))]
noncomputable def v_sC (i : Nat) (s : d_S) (x : Int) : Option (Int × d_S) := d_b (F_X11_within x 0 (d_w (s.1 3 i - 2))) (fun v1 => if v1 = 0 then some (0, s) else if (d_and (d_shr (s.1 6 i) x) 1) = 1 then some (0, s) else d_b (F_X10_isUntouched_6 s) (fun v2 => if v2 = 0 then some (0, s) else d_b (F_X6_keep_8_6 s) (fun s3 => d_b (F_X4_lay_3 (d_si s3 6 i (d_or (s3.1 6 i) (d_shl 1 x)))) (fun s5 => some (1, s5)))))
noncomputable def v_sR (i : Nat) (s : d_S) (x : Int) : Option (Int × d_S) := d_b (F_X12_isIn x 0 (d_w (s.1 65 (16 + i) - 2))) (fun v2 => if v2 = 0 then some ((-1), s) else d_b (F_X12_has (s.1 65 (14 + i)) x) (fun v4 => if v4 = 0 then F_X12_saw_l57 (fun x1_u6 x3_u6 s_u6 => d_b (F_X12_keep s_u6) (fun s7 => d_g (0 ≤ x3_u6 ∧ x3_u6 < 2517) (d_g (0 ≤ x3_u6 ∧ x3_u6 < 2517) (d_l (d_si s7 65 ((x3_u6).toNat) (d_or (s7.1 65 (x3_u6.toNat)) (d_shl 1 x1_u6))) (fun s10 => d_b (F_X12_blocks s10) (fun v11 => some (v11, s10))))))) d_N x ((14 + i : Nat) : Int) 20 s else some ((-1), s)))
theorem v_sC_eq {y : Int} : F_X11_sawThrough s x y = v_sC (if y = 0 then 1 else 0) s x := by
  unfold F_X11_sawThrough F_X11_sawThrough_j31_0 F_X11_sawThrough_j56 F_X11_sawThrough_j127 v_sC
  by_cases q : y = 0
  · simp only [if_pos q]; rfl
  · simp only [if_neg q]; rfl
theorem v_sR_eq {y : Int} : F_X12_saw s x y = v_sR (if y = 0 then 1 else 0) s x := by
  unfold F_X12_saw F_X12_saw_j11 F_X12_saw_j29_0 v_sR
  by_cases q : y = 0
  · simp only [if_pos q]
    rw [d_g_t (by omega)]; rfl
  · simp only [if_neg q]
    rw [d_g_t (by omega)]; rfl
theorem P_has {n k : Nat} (hn : n < 2147483648) (hk : k < 31) : F_X12_has (n : Int) (k : Int) = some (v_b (n / 2 ^ k % 2 = 1)) := by
  unfold F_X12_has
  rw [v_bit hn hk]
  by_cases q : n / 2 ^ k % 2 = 1
  · rw [if_pos (by omega), v_bt q]
  · rw [if_neg (by omega), v_bf q]
theorem v_bl1 (u v : Nat) : 1 ≤ v_bl u v := Nat.mul_le_mul (Nat.le_add_left 1 _) (Nat.le_add_left 1 _)
theorem v_orl {n k : Nat} (hn : n < 128) (hk : k < 7) : d_or (n : Int) (d_shl 1 (k : Int)) = ((n ||| 2 ^ k : Nat) : Int) := by
  have : 2 ^ k ≤ 2 ^ 6 := Nat.pow_le_pow_right (by decide) (by omega)
  rw [v_1shl (by omega), v_or (by omega) (by omega)]
theorem v_orl_lt {n k W : Nat} (hn : n < 2 ^ (W - 1)) (hk : k + 2 ≤ W) : n ||| 2 ^ k < 2 ^ (W - 1) := Nat.or_lt_two_pow hn (Nat.pow_lt_pow_right (by decide) (by omega))
theorem v_saw (h : v_R t (d_mx s z)) {i : Nat} (hi : i < 2) : (v_sC i s x = some (0, s) ∧ v_sR i z x = some (-1, z)) ∨ ∃ s' z' n, v_sC i s x = some (1, s') ∧ v_sR i z x = some (n, z') ∧ 1 ≤ n ∧ s'.1 37 5 = n ∧ v_R t (d_mx s' z') ∧ v_fC s s' ∧ v_fR z z' := by
  have h' := h
  obtain ⟨hW, hI, -, -, -, hQ, -, hN, -⟩ := h'
  have hI : v_I (z.1 65) := hI
  have hW3 : s.1 3 i = z.1 65 (16 + i) := by
    obtain ⟨⟨w0, w1, -⟩, -⟩ := hW.1
    have : i = 0 ∨ i = 1 := by omega
    rcases this with rfl | rfl
    · exact w0
    · exact w1
  have hW6 : s.1 6 i = z.1 65 (14 + i) := by
    have : i = 0 ∨ i = 1 := by omega
    rcases this with rfl | rfl
    · exact hW.2.1.1 0 (by decide)
    · exact hW.2.1.1 1 (by decide)
  have hdim : 1 ≤ z.1 65 (16 + i) ∧ z.1 65 (16 + i) ≤ 8 := by
    obtain ⟨i16, i17, -⟩ := hI.1
    have : i = 0 ∨ i = 1 := by omega
    rcases this with rfl | rfl
    · exact i16
    · exact i17
  obtain ⟨b0, b1, b3, b4, u, v, b5, b6, hu, hv, hu2, hv2⟩ := hI.2.2.2
  have b5 : z.1 65 14 = u := b5
  have b6 : z.1 65 15 = v := b6
  obtain ⟨w, hw, hw2, hw3⟩ : ∃ w : Nat, z.1 65 (14 + i) = w ∧ w < 128 ∧ w < 2 ^ ((z.1 65 (16 + i)).toNat - 1) := by
    have : i = 0 ∨ i = 1 := by omega
    rcases this with rfl | rfl
    · exact ⟨u, b5, hu, hu2⟩
    · exact ⟨v, b6, hv, hv2⟩
  unfold v_sC v_sR
  rw [P_within, P_isIn, d_b_t, d_b_t, hW3, d_w_id (by omega) (by omega), hW6, hw]
  by_cases c1 : 0 ≤ x ∧ x ≤ z.1 65 (16 + i) - 2
  rotate_left
  · left; rw [v_bf c1]; exact ⟨rfl, rfl⟩
  obtain ⟨k, rfl⟩ : ∃ k : Nat, x = k := ⟨x.toNat, by omega⟩
  have hk : k < 7 := by omega
  have n10 : ¬ (1 : Int) = 0 := by decide
  rw [v_bt c1, if_neg n10, if_neg n10, v_bit (by omega) (by omega), P_has (by omega) (by omega), d_b_t]
  by_cases c2 : w / 2 ^ k % 2 = 1
  · left; rw [if_pos (by omega), v_bt c2]; exact ⟨rfl, rfl⟩
  rw [if_neg (by omega), v_bf c2, if_pos rfl]
  have hM : ∀ b, b < 64 → s.1 7 b = z.1 65 (20 + 3 * b) + 16 * z.1 65 (21 + 3 * b) + 2048 * z.1 65 (22 + 3 * b) := fun b hb => hW.2.1.2 b hb
  obtain ⟨p, hp⟩ : ∃ p : Bool, p = true ↔ ∀ b, b < 64 → s.1 7 b = 0 := ⟨@decide _ (Classical.propDecidable _), @decide_eq_true_iff _ (Classical.propDecidable _)⟩
  have hp2 : p = true ↔ ∀ j, 20 ≤ j → j < 212 → z.1 65 j = 0 := by
    rw [hp]
    constructor
    · intro hz j h1 h2
      obtain ⟨g1, g2, g3⟩ := hI.2.1 ((j - 20) / 3) (by omega)
      have e := hM ((j - 20) / 3) (by omega)
      rw [hz _ (by omega)] at e
      have : j = 20 + 3 * ((j - 20) / 3) ∨ j = 21 + 3 * ((j - 20) / 3) ∨ j = 22 + 3 * ((j - 20) / 3) := by omega
      rcases this with q | q | q <;> rw [q] <;> omega
    · intro hz b hb
      rw [hM b hb, hz _ (by omega) (by omega), hz _ (by omega) (by omega), hz _ (by omega) (by omega)]; rfl
  have eC : F_X10_isUntouched_6 s = some (if p then 1 else 0) := by
    unfold F_X10_isUntouched_6
    exact v_unC hp 64 0 d_N rfl (by rw [d_N_is]; decide) (fun b hb => absurd hb (Nat.not_lt_zero b))
  rw [eC, d_b_t]
  have eR := fun (K : Int → Int → d_S → Option (Int × d_S)) => v_unR (K := K) (x1 := (k : Int)) (x3 := ((14 + i : Nat) : Int)) hp2 192 20 d_N rfl (by decide) (by rw [d_N_is]; decide) (fun i h1 h2 => absurd h2 (by omega))
  have eR : ∀ (K : Int → Int → d_S → Option (Int × d_S)), F_X12_saw_l57 K d_N (k : Int) ((14 + i : Nat) : Int) 20 z = _ := eR
  rw [eR]
  cases hpe : p
  · left; exact ⟨rfl, rfl⟩
  right
  obtain ⟨s1, z1, k1, k2, k3, k4, k5, k6, k7, hR1⟩ := h.keep
  have h1 := hR1
  obtain ⟨hW1, hI1, -, -, -, hQ1, -, -, -⟩ := h1
  have hI1 : v_I (z1.1 65) := hI1
  have e61 : s1.1 6 i = w := by rw [k3 6 (by decide) (by decide), hW6, hw]
  have e651 : z1.1 65 (14 + i) = w := by rw [k7 _ (by omega) (by omega), hw]
  obtain ⟨s4, hs4⟩ : ∃ q, q = d_si s1 6 i ((w ||| 2 ^ k : Nat) : Int) := ⟨_, rfl⟩
  obtain ⟨z4, hz4⟩ : ∃ q, q = d_si z1 65 (14 + i) ((w ||| 2 ^ k : Nat) : Int) := ⟨_, rfl⟩
  have s6 : ∀ j, s4.1 6 j = d_u (s1.1 6) i ((w ||| 2 ^ k : Nat) : Int) j := fun j => by rw [hs4, d_si_i]
  have so : ∀ a, a ≠ 6 → s4.1 a = s1.1 a := fun a ha => by rw [hs4, d_si_n ha]
  have z6 : ∀ j, z4.1 65 j = d_u (z1.1 65) (14 + i) ((w ||| 2 ^ k : Nat) : Int) j := fun j => by rw [hz4, d_si_i]
  have zA : ∀ j, j ≠ 14 + i → z4.1 65 j = z1.1 65 j := fun j hj => by rw [z6, d_u_n hj]
  have zo : ∀ a, a ≠ 65 → z4.1 a = z1.1 a := fun a ha => by rw [hz4, d_si_n ha]
  have hor := v_orl hw2 hk
  have hlt := v_orl_lt (k := k) hw3 (by omega)
  have hlt2 : w ||| 2 ^ k < 128 := Nat.or_lt_two_pow (n := 7) hw2 (Nat.pow_lt_pow_right (by decide) hk)
  have hWy : v_Wy s4.1 0 (z4.1 65) := by
    obtain ⟨y1, y2⟩ := hW1.2.1
    refine ⟨fun j hj => ?_, fun b hb => ?_⟩
    · show s4.1 6 j = _
      rw [s6, z6]
      by_cases q : j = i
      · have : 9 + v_mu j = 14 + i := by
          have : i = 0 ∨ i = 1 := by omega
          rcases this with rfl | rfl <;> rw [q] <;> rfl
        rw [q] at this ⊢
        rw [this, d_u_t, d_u_t]
      · have : 9 + v_mu j ≠ 14 + i := by
          have h1 : i = 0 ∨ i = 1 := by omega
          have h2 : j = 0 ∨ j = 1 ∨ j = 2 ∨ j = 3 ∨ j = 4 ∨ j = 5 ∨ j = 6 := by omega
          rcases h1 with rfl | rfl <;> rcases h2 with rfl | rfl | rfl | rfl | rfl | rfl | rfl <;> first | exact absurd rfl q | decide
        rw [d_u_n q, d_u_n this]
        exact y1 j hj
    · show s4.1 7 b = _
      rw [so 7 (by decide), zA _ (by omega), zA _ (by omega), zA _ (by omega)]
      exact y2 b hb
  have hWs : v_Ws s4.1 0 (z4.1 65) := hW1.2.2.1.fr (so 8 (by decide)) (so 9 (by decide)) (zA 3 (by omega)) (zA 16 (by omega)) (zA 17 (by omega)) (fun j h1 h2 => zA j (by omega))
  have hIb : v_Ib (z4.1 65) := hI1.2.1.fr (fun j h1 h2 => zA j (by omega))
  have w16 : v_wi (z1.1 65) = v_wi (z.1 65) := by unfold v_wi; rw [k7 16 (by decide) (by decide)]
  have w17 : v_hi (z1.1 65) = v_hi (z.1 65) := by unfold v_hi; rw [k7 17 (by decide) (by decide)]
  have hyb : v_yb (fun k => z4.1 65 (9 + k)) (v_wi (z.1 65)) (v_hi (z.1 65)) := by
    refine ⟨?_, ?_, ?_, ?_, ?_⟩
    · show 0 ≤ z4.1 65 9 ∧ z4.1 65 9 ≤ 999; rw [zA 9 (by omega), k7 9 (by decide) (by decide)]; exact b0
    · show 0 ≤ z4.1 65 10 ∧ z4.1 65 10 ≤ 9; rw [zA 10 (by omega), k7 10 (by decide) (by decide)]; exact b1
    · show 0 ≤ z4.1 65 12 ∧ z4.1 65 12 ≤ 99; rw [zA 12 (by omega), k7 12 (by decide) (by decide)]; exact b3
    · show 0 ≤ z4.1 65 13 ∧ z4.1 65 13 < 30293; rw [zA 13 (by omega), k7 13 (by decide) (by decide)]; exact b4
    · have : i = 0 ∨ i = 1 := by omega
      rcases this with rfl | rfl
      · refine ⟨w ||| 2 ^ k, v, ?_, ?_, hlt2, hv, hlt, hv2⟩
        · show z4.1 65 14 = _; rw [z6]; rfl
        · show z4.1 65 15 = _; rw [zA 15 (by omega), k7 15 (by decide) (by decide)]; exact b6
      · refine ⟨u, w ||| 2 ^ k, ?_, ?_, hu, hlt2, hu2, hlt⟩
        · show z4.1 65 14 = _; rw [zA 14 (by omega), k7 14 (by decide) (by decide)]; exact b5
        · show z4.1 65 15 = _; rw [z6]; rfl
  obtain ⟨hG, s5, g1, g2, g3, g4, g5⟩ := v_R.lay hR1 (fun a _ h6 _ _ _ => so a h6) (by rw [hs4]; rfl) zo (fun j hj => zA j (by omega)) hWy hWs hIb (by rw [w16, w17]; exact hyb)
  have nl : ∀ a, 64 ≤ a → a ∉ v_L6 := fun a h1 h3 => by
    unfold v_L6 at h3
    simp only [List.mem_cons, List.not_mem_nil, or_false] at h3
    omega
  refine ⟨s5, z4, _, ?_, ?_, ?_, g2, g3, fun a ha => ?_, ⟨fun a ha => ?_, ?_⟩⟩
  · rw [if_pos rfl, if_neg (by decide), k1, d_b_t, e61, hor, ← hs4, g1, d_b_t]
  · rw [if_pos rfl, k2, d_b_t, d_g_t (by omega), d_g_t (by omega), Int.toNat_natCast, e651, hor, d_l_t, ← hz4, P_blocks hG, d_b_t]
  · have := v_bl1 (v_u (z4.1 65)) (v_v (z4.1 65)); omega
  · rw [g4 a (nl a ha), so a (by omega), k3 a (by omega) (by omega)]
  · rw [zo a (by omega), k5 a (by omega)]
  · rw [hz4]; show z1.2.1 = z.2.1; rw [k6]
theorem R_saw {x1 x2 : Int} (h : v_R t s) : v_AA t (F_X11_saw s x1 x2) (fun s1 => F_X12_saw s1 x1 x2) := by
  refine v_A2.AA (C := fun s => F_X11_saw s x1 x2) (fun s z h => ?_) h
  have hi : (if x2 = 0 then 1 else 0) < 2 := by split <;> decide
  show ∃ v s' z', F_X11_saw s x1 x2 = _ ∧ F_X12_saw z x1 x2 = _ ∧ _
  unfold F_X11_saw
  rw [v_sC_eq, v_sR_eq]
  rcases v_saw (x := x1) h hi with ⟨c1, c2⟩ | ⟨s', z', n, c1, c2, c3, c4, c5, c6, c7⟩
  · exact ⟨-1, s, z, by rw [c1]; rfl, c2, h, v_fC.rf, v_fR.rf⟩
  · refine ⟨n, s', z', ?_, c2, c5, c6, c7⟩
    rw [c1]
    show some (s'.1 37 5, s') = _
    rw [c4]
end V21
section V22
variable {s s' z z' : d_S} {t : Nat → Option p_C} {x : Int} {st me so : Nat → Nat} {b : Nat}
theorem v_R.mark (h : v_R t (d_mx s z)) (c : ∀ a, a < 64 → a ≠ 6 → a ≠ 7 → a ≠ 47 → a ≠ 49 → a ≠ 50 → s'.1 a = s.1 a) (cp : ∀ a, a ≠ 47 → s'.2.1 a = s.2.1 a) (r : ∀ a, 64 ≤ a → a ≠ 65 → a ≠ 71 → z'.1 a = z.1 a) (rA : ∀ j, (j < 9 ∨ 14 ≤ j ∧ j ≤ 19 ∨ 212 ≤ j) → z'.1 65 j = z.1 65 j) (hM : v_M s' st me so) (hB : v_B (z'.1 65) st me so) (h6 : ∀ i, i < 7 → s'.1 6 i = z'.1 65 (9 + v_mu i)) (h9 : 0 ≤ z'.1 65 9 ∧ z'.1 65 9 ≤ 999) (h10 : 0 ≤ z'.1 65 10 ∧ z'.1 65 10 ≤ 9) (h12 : 0 ≤ z'.1 65 12 ∧ z'.1 65 12 ≤ 99) (h13 : 0 ≤ z'.1 65 13 ∧ z'.1 65 13 < 30293) (hN1 : v_Nm (s'.1 49)) (hN2 : v_Nm (z'.1 71)) : v_R t (d_mx s' z') := by
  have h' := h
  obtain ⟨hW, hI, -, -, -, hQ, -, hN, -⟩ := h'
  have hI : v_I (z.1 65) := hI
  have u14 : v_u (z'.1 65) = v_u (z.1 65) := by unfold v_u; rw [rA 14 (by omega)]
  have v15 : v_v (z'.1 65) = v_v (z.1 65) := by unfold v_v; rw [rA 15 (by omega)]
  have w16 : v_wi (z'.1 65) = v_wi (z.1 65) := by unfold v_wi; rw [rA 16 (by omega)]
  have w17 : v_hi (z'.1 65) = v_hi (z.1 65) := by unfold v_hi; rw [rA 17 (by omega)]
  refine h.yard (fun a ha => ?_) (fun a ha => cp a ha) (fun j hj => rA j (by omega)) ⟨fun i hi => h6 i hi, fun b hb => ?_⟩ ?_ ?_ ?_ ?_ ⟨hN1, hN2⟩
  · by_cases q : a < 64
    · rw [d_mx_lo q, d_mx_lo q, c a q (by unfold v_cl at ha; omega) (by unfold v_cl at ha; omega) (by unfold v_cl at ha; omega) (by unfold v_cl at ha; omega) (by unfold v_cl at ha; omega)]
    · rw [d_mx_hi (by omega), d_mx_hi (by omega), r a (by omega) (by unfold v_cl at ha; omega) (by unfold v_cl at ha; omega)]
  · show s'.1 7 b = z'.1 65 (20 + 3 * b) + 16 * z'.1 65 (21 + 3 * b) + 2048 * z'.1 65 (22 + 3 * b)
    obtain ⟨⟨b1, b2, b3⟩, -⟩ := hB b hb
    rw [(hM b hb).1, b1, b2, b3]; omega
  · exact v_Ws.fr (f' := (d_mx s' z').1) hW.2.2.1 (c 8 (by decide) (by decide) (by decide) (by decide) (by decide) (by decide)) (c 9 (by decide) (by decide) (by decide) (by decide) (by decide) (by decide)) (rA 3 (by omega)) (rA 16 (by omega)) (rA 17 (by omega)) (fun j h1 h2 => rA j (by omega))
  · intro b hb
    obtain ⟨⟨b1, b2, b3⟩, b4, b5, b6⟩ := hB b hb
    show (0 ≤ z'.1 65 (20 + 3 * b) ∧ z'.1 65 (20 + 3 * b) ≤ 9) ∧ (0 ≤ z'.1 65 (21 + 3 * b) ∧ z'.1 65 (21 + 3 * b) ≤ 100) ∧ (0 ≤ z'.1 65 (22 + 3 * b) ∧ z'.1 65 (22 + 3 * b) ≤ 1)
    rw [b1, b2, b3]; omega
  · obtain ⟨b0, b1, b3, b4, u, v, b5, b6, b7⟩ := hI.2.2.2
    refine ⟨h9, h10, h12, h13, u, v, ?_, ?_, b7⟩
    · show z'.1 65 14 = _; rw [rA 14 (by omega)]; exact b5
    · show z'.1 65 15 = _; rw [rA 15 (by omega)]; exact b6
  · show v_Q (d_mx s' z') (v_u (z'.1 65)) (v_v (z'.1 65)) (v_wi (z'.1 65)) (v_hi (z'.1 65))
    rw [u14, v15, w16, w17]
    exact v_Q.fr hQ (fun a h1 h2 => by rw [d_mx_lo (by omega), d_mx_lo (by omega), c a (by omega) (by omega) (by omega) (by omega) (by omega) (by omega)])
abbrev v_cl1 (A : Nat → Int) (x : Int) (b : Int) : Prop := (0 ≤ b ∧ b < ((v_bl (v_u A) (v_v A) : Nat) : Int)) ∧ v_so A b.toNat = 0 ∧ (0 ≤ ((v_st A b.toNat : Nat) : Int) + x ∧ ((v_st A b.toNat : Nat) : Int) + x ≤ 9) ∧ (0 ≤ A 12 - x ∧ A 12 - x ≤ 99)
theorem v_A12 (hI : v_I (z.1 65)) : 0 ≤ z.1 65 12 ∧ z.1 65 12 ≤ 99 := hI.2.2.2.2.2.1
theorem P_canLayR (h : v_R t (d_mx s z)) {b : Int} (hx : -9 ≤ x ∧ x ≤ 9) : F_X12_canLay z x b = some (v_b (v_cl1 (z.1 65) x b)) := by
  obtain ⟨hW, hI, -, -, -, hQ, -, hN, -⟩ := h
  have hI : v_I (z.1 65) := hI
  have hG := hI.G
  have hB := hI.B
  have h12 := v_A12 hI
  unfold F_X12_canLay
  rw [P_isBlock hG, d_b_t]
  by_cases c1 : 0 ≤ b ∧ b < ((v_bl (v_u (z.1 65)) (v_v (z.1 65)) : Nat) : Int)
  rotate_left
  · rw [v_bf c1, if_pos rfl, v_bf (fun e => c1 e.1)]
  obtain ⟨k, rfl⟩ : ∃ k : Nat, b = k := ⟨b.toNat, by omega⟩
  have hk : k < 64 := by have := hG.ac.2.2.1; omega
  obtain ⟨-, g1, g2, g3⟩ := hB k hk
  rw [v_bt c1, if_neg (by decide), P_isSold hB hk, d_b_t]
  by_cases c2 : v_so (z.1 65) k = 0
  rotate_left
  · rw [if_neg (by omega), v_bf (fun e => c2 e.2.1)]
  rw [if_pos (by omega), P_get0 hB hk, d_b_t, d_w_id (by omega) (by omega), P_isIn, d_b_t]
  by_cases c3 : 0 ≤ ((v_st (z.1 65) k : Nat) : Int) + x ∧ ((v_st (z.1 65) k : Nat) : Int) + x ≤ 9
  rotate_left
  · rw [v_bf c3, if_pos rfl, v_bf (fun e => c3 e.2.2.1)]
  rw [v_bt c3, if_neg (by decide), d_w_id (by omega) (by omega), P_isIn, d_b_t]
  by_cases c4 : 0 ≤ z.1 65 12 - x ∧ z.1 65 12 - x ≤ 99
  · rw [v_bt c4, if_neg (by decide), v_bt ⟨c1, c2, c3, c4⟩]
  · rw [v_bf c4, if_pos rfl, v_bf (fun e => c4 e.2.2.2)]
theorem P_canLayC (h : v_R t (d_mx s z)) {b : Int} : F_X11_canLay s x b = some (v_b ((-9 ≤ x ∧ x ≤ 9) ∧ ¬ x = 0 ∧ v_cl1 (z.1 65) x b)) := by
  obtain ⟨hW, hI, -, -, -, hQ, -, hN, -⟩ := h
  have hI : v_I (z.1 65) := hI
  have hG := hI.G
  have hB := hI.B
  have h12 := v_A12 hI
  have hQ : v_Q s (v_u (z.1 65)) (v_v (z.1 65)) (v_wi (z.1 65)) (v_hi (z.1 65)) := hQ.fr (fun a h1 h2 => (d_mx_lo (by omega)).symm)
  have hM : v_M s (v_st (z.1 65)) (v_me (z.1 65)) (v_so (z.1 65)) := hW.M (s := d_mx s z) hI
  have e12 : s.1 6 2 = z.1 65 12 := hW.2.1.1 2 (by decide)
  unfold F_X11_canLay
  rw [P_isBlockC hQ, d_b_t]
  by_cases c1 : 0 ≤ b ∧ b < ((v_bl (v_u (z.1 65)) (v_v (z.1 65)) : Nat) : Int)
  rotate_left
  · rw [v_bf c1, if_pos rfl, v_bf (fun e => c1 e.2.2.1)]
  obtain ⟨k, rfl⟩ : ∃ k : Nat, b = k := ⟨b.toNat, by omega⟩
  have hk : k < 64 := by have := hG.ac.2.2.1; omega
  obtain ⟨-, g1, g2, g3⟩ := hB k hk
  rw [v_bt c1, if_neg (by decide), P_within, d_b_t]
  by_cases cx : -9 ≤ x ∧ x ≤ 9
  rotate_left
  · rw [v_bf cx, if_pos rfl, v_bf (fun e => cx e.1)]
  rw [v_bt cx, if_neg (by decide)]
  by_cases c0 : x = 0
  · rw [if_pos c0, v_bf (fun e => e.2.1 c0)]
  rw [if_neg c0, P_isSoldC hM hk, d_b_t]
  by_cases c2 : v_so (z.1 65) k = 0
  rotate_left
  · rw [if_neg (by omega), v_bf (fun e => c2 e.2.2.2.1)]
  rw [if_pos (by omega), P_strawOn hM hk, d_b_t, d_w_id (by omega) (by omega), P_within, d_b_t]
  by_cases c3 : 0 ≤ ((v_st (z.1 65) k : Nat) : Int) + x ∧ ((v_st (z.1 65) k : Nat) : Int) + x ≤ 9
  rotate_left
  · rw [v_bf c3, if_pos rfl, v_bf (fun e => c3 e.2.2.2.2.1)]
  rw [v_bt c3, if_neg (by decide), e12, d_w_id (by omega) (by omega), P_within, d_b_t]
  by_cases c4 : 0 ≤ z.1 65 12 - x ∧ z.1 65 12 - x ≤ 99
  · rw [v_bt c4, if_neg (by decide), v_bt ⟨cx, c0, c1, c2, c3, c4⟩]
  · rw [v_bf c4, if_pos rfl, v_bf (fun e => c4 e.2.2.2.2.2)]
theorem v_lay (h : v_R t (d_mx s z)) {b : Int} (hx : -9 ≤ x ∧ x ≤ 9) (hc : v_cl1 (z.1 65) x b) : ∃ s' z', F_X11_layStraw s x b = some s' ∧ F_X12_layNow z x b = some z' ∧ F_X10_strawOn_6 s' b = F_X12_get z' b 0 ∧ (∃ n, F_X12_get z' b 0 = some n ∧ 0 ≤ n ∧ n ≤ 9) ∧ v_R t (d_mx s' z') ∧ v_fC s s' ∧ v_fR z z' := by
  have h' := h
  obtain ⟨hW, hI, -, -, -, hQ, -, hN, -⟩ := h'
  have hI : v_I (z.1 65) := hI
  have hG := hI.G
  have hB := hI.B
  have h12 := v_A12 hI
  have hM : v_M s (v_st (z.1 65)) (v_me (z.1 65)) (v_so (z.1 65)) := hW.M (s := d_mx s z) hI
  have e12 : s.1 6 2 = z.1 65 12 := hW.2.1.1 2 (by decide)
  obtain ⟨c1, c2, c3, c4⟩ := hc
  obtain ⟨k, rfl⟩ : ∃ k : Nat, b = k := ⟨b.toNat, by omega⟩
  have hk : k < 64 := by have := hG.ac.2.2.1; omega
  have c2 : v_so (z.1 65) k = 0 := c2
  have c3 : 0 ≤ ((v_st (z.1 65) k : Nat) : Int) + x ∧ ((v_st (z.1 65) k : Nat) : Int) + x ≤ 9 := c3
  obtain ⟨⟨f1, f2, f3⟩, g1, g2, g3⟩ := hB k hk
  obtain ⟨y, hy, hy9⟩ : ∃ y : Nat, ((v_st (z.1 65) k : Nat) : Int) + x = y ∧ y ≤ 9 := ⟨(((v_st (z.1 65) k : Nat) : Int) + x).toNat, by omega, by omega⟩
  obtain ⟨s1, hs1⟩ : ∃ q, q = d_si s 6 2 (z.1 65 12 - x) := ⟨_, rfl⟩
  have hM1 : v_M s1 (v_st (z.1 65)) (v_me (z.1 65)) (v_so (z.1 65)) := hM.fr (by rw [hs1, d_si_n (by decide)])
  obtain ⟨s2, hs2⟩ : ∃ q, q = d_si s1 7 k ((y + 16 * v_me (z.1 65) k + 2048 * 0 : Nat) : Int) := ⟨_, rfl⟩
  have hM2 := hM1.put (b := k) hy9 g2 (show 0 ≤ 1 by decide)
  rw [← hs2] at hM2
  obtain ⟨z1, hz1⟩ : ∃ q, q = d_si z 65 (20 + 3 * k) (y : Int) := ⟨_, rfl⟩
  have hB1 := hB.set0 (b := k) (x := y) hy9
  rw [← hz1] at hB1
  obtain ⟨z2, hz2⟩ : ∃ q, q = d_si z1 65 12 (z.1 65 12 - x) := ⟨_, rfl⟩
  have zA : ∀ j, j ≠ 12 → j ≠ 20 + 3 * k → z2.1 65 j = z.1 65 j := fun j h1 h2 => by rw [hz2, d_si_i, d_u_n h1, hz1, d_si_i, d_u_n h2]
  have z12 : z2.1 65 12 = z.1 65 12 - x := by rw [hz2, d_si_i, d_u_t]
  have zo : ∀ a, a ≠ 65 → z2.1 a = z.1 a := fun a ha => by rw [hz2, d_si_n ha, hz1, d_si_n ha]
  have so' : ∀ a, a ≠ 6 → a ≠ 7 → s2.1 a = s.1 a := fun a h1 h2 => by rw [hs2, d_si_n h2, hs1, d_si_n h1]
  have hso : v_up1 (v_so (z.1 65)) k 0 = v_so (z.1 65) := by
    funext j
    unfold v_up1
    by_cases q : j = k
    · rw [if_pos q, q, c2]
    · rw [if_neg q]
  have hme : v_up1 (v_me (z.1 65)) k (v_me (z.1 65) k) = v_me (z.1 65) := by
    funext j
    unfold v_up1
    by_cases q : j = k
    · rw [if_pos q, q]
    · rw [if_neg q]
  rw [hso, hme] at hM2
  have hB2 : v_B (z2.1 65) (v_up1 (v_st (z.1 65)) k y) (v_me (z.1 65)) (v_so (z.1 65)) := by
    intro j hj
    have e : ∀ i, i ≠ 12 → z2.1 65 i = z1.1 65 i := fun i h1 => by rw [hz2, d_si_i, d_u_n h1]
    rw [e _ (by omega), e _ (by omega), e _ (by omega)]
    exact hB1 j hj
  have hup : v_up1 (v_st (z.1 65)) k y k = y := if_pos rfl
  refine ⟨s2, z2, ?_, ?_, ?_, ?_, ?_, fun a ha => so' a (by omega) (by omega), ⟨fun a ha => zo a (by omega), ?_⟩⟩
  · unfold F_X11_layStraw
    rw [e12, d_w_id (by omega) (by omega), d_l_t, ← hs1, P_strawOn hM1 hk, d_b_t, P_meltedOf hM1 hk, d_b_t, d_w_id (by omega) (by omega), hy]
    show d_b (F_X10_put_6 s1 (k : Int) (y : Int) ((v_me (z.1 65) k : Nat) : Int) ((0 : Nat) : Int)) _ = _
    rw [P_put hk hy9 g2 (by decide), d_b_t, ← hs2]
  · unfold F_X12_layNow
    rw [P_get0 hB hk, d_b_t, d_w_id (by omega) (by omega), hy, P_set0 hk, d_b_t, ← hz1, show z1.1 65 12 = z.1 65 12 by rw [hz1, d_si_i, d_u_n (by omega)], d_w_id (by omega) (by omega), d_l_t, ← hz2]
  · rw [P_strawOn hM2 hk, P_get0 hB2 hk]
  · exact ⟨_, P_get0 hB2 hk, by omega, by rw [hup]; omega⟩
  · refine h.mark (fun a _ h6 h7 _ _ _ => so' a h6 h7) (fun a _ => by rw [hs2, hs1]; rfl) (fun a _ h65 _ => zo a h65) (fun j hj => zA j (by omega) (by omega)) hM2 hB2 (fun i hi => ?_) ?_ ?_ (by rw [z12]; exact c4) ?_ ?_ ?_
    · have hh := hW.2.1.1 i hi
      have hh : s.1 6 i = z.1 65 (9 + v_mu i) := hh
      rw [show s2.1 6 i = d_u (s.1 6) 2 (z.1 65 12 - x) i by rw [hs2, d_si_n (by decide), hs1, d_si_i]]
      by_cases q : i = 2
      · subst q
        show d_u (s.1 6) 2 (z.1 65 12 - x) 2 = z2.1 65 12
        rw [d_u_t, z12]
      · have h2 : i = 0 ∨ i = 1 ∨ i = 3 ∨ i = 4 ∨ i = 5 ∨ i = 6 := by omega
        have : 9 + v_mu i ≠ 12 ∧ 9 + v_mu i < 20 := by rcases h2 with rfl | rfl | rfl | rfl | rfl | rfl <;> decide
        rw [d_u_n q, hh, zA _ this.1 (by omega)]
    · rw [zA 9 (by decide) (by omega)]; exact hI.2.2.2.1
    · rw [zA 10 (by decide) (by omega)]; exact hI.2.2.2.2.1
    · rw [zA 13 (by decide) (by omega)]; exact hI.2.2.2.2.2.2.1
    · rw [so' 49 (by decide) (by decide)]; exact hN.1
    · rw [zo 71 (by decide)]; exact hN.2
  · rw [hz2, hz1]; rfl
theorem v_fC.of (h : ∀ a, a ≠ 8 → a ≠ 9 → s'.1 a = s.1 a) (h2 : s'.2 = s.2) : v_fC s s' := fun a ha => h a (by omega) (by omega)
theorem v_fR.of (h : ∀ a, a ≠ 65 → s'.1 a = s.1 a) (h2 : s'.2 = s.2) : v_fR s s' := ⟨fun a ha => h a (by omega), by rw [h2]⟩
theorem v_cl1.k (h : v_cl1 (z.1 65) x (b : Int)) (hA : ∀ j, j ≠ 3 → j < 387 → z'.1 65 j = z.1 65 j) (hb : b < 64) : v_cl1 (z'.1 65) x (b : Int) := by
  obtain ⟨h1, h2, h3, h4⟩ := h
  have u14 : v_u (z'.1 65) = v_u (z.1 65) := by unfold v_u; rw [hA 14 (by omega) (by omega)]
  have v15 : v_v (z'.1 65) = v_v (z.1 65) := by unfold v_v; rw [hA 15 (by omega) (by omega)]
  refine ⟨by rw [u14, v15]; exact h1, ?_, ?_, by rw [hA 12 (by omega) (by omega)]; exact h4⟩
  · show v_so (z'.1 65) b = 0
    unfold v_so; rw [hA _ (by omega) (by omega)]; exact h2
  · show 0 ≤ ((v_st (z'.1 65) b : Nat) : Int) + x ∧ ((v_st (z'.1 65) b : Nat) : Int) + x ≤ 9
    unfold v_st; rw [hA _ (by omega) (by omega)]; exact h3
theorem v_straw (h : v_R t (d_mx s z)) {b : Int} : (F_X11_layByHand s x b = some (0, s) ∧ F_X12_straw z x b = some (-1, z)) ∨ ∃ s' z' n, F_X11_layByHand s x b = some (1, s') ∧ F_X12_straw z x b = some (n, z') ∧ 0 ≤ n ∧ F_X10_strawOn_6 s' b = some n ∧ v_R t (d_mx s' z') ∧ v_fC s s' ∧ v_fR z z' := by
  unfold F_X11_layByHand F_X12_straw
  rw [P_canLayC h, d_b_t]
  by_cases c0 : x = 0
  · left; rw [v_bf (fun e => e.2.1 c0), if_pos rfl, if_pos c0]; exact ⟨rfl, rfl⟩
  rw [if_neg c0, P_isIn, d_b_t]
  by_cases cx : -9 ≤ x ∧ x ≤ 9
  rotate_left
  · left; rw [v_bf (fun e => cx e.1), v_bf cx, if_pos rfl, if_pos rfl]; exact ⟨rfl, rfl⟩
  rw [v_bt cx, if_neg (show ¬ (1 : Int) = 0 by decide), P_canLayR h cx, d_b_t]
  by_cases hc : v_cl1 (z.1 65) x b
  rotate_left
  · left; rw [v_bf (fun e => hc e.2.2), v_bf hc, if_pos rfl, if_pos rfl]; exact ⟨rfl, rfl⟩
  right
  rw [v_bt ⟨cx, c0, hc⟩, v_bt hc, if_neg (show ¬ (1 : Int) = 0 by decide), if_neg (show ¬ (1 : Int) = 0 by decide)]
  obtain ⟨s1, z1, k1, k2, k3, k4, k5, k6, k7, hR1⟩ := h.keep
  have hG := (show v_I (z.1 65) from h.2.1).G
  obtain ⟨k, rfl⟩ : ∃ k : Nat, b = k := ⟨b.toNat, by have := hc.1; omega⟩
  have hk : k < 64 := by have := hG.ac.2.2.1; have := hc.1; omega
  obtain ⟨s2, z2, g1, g2, g3, ⟨n, g4, g5, g6⟩, g7, g8, g9⟩ := v_lay hR1 cx (hc.k k7 hk)
  refine ⟨s2, z2, n, ?_, ?_, g5, g3.trans g4, g7, (v_fC.of k3 k4).tr g8, (v_fR.of k5 k6).tr g9⟩
  · rw [k1, d_b_t, g1, d_b_t]
  · rw [k2, d_b_t, g2, d_b_t, g4, d_b_t]
theorem R_straw {x1 x2 : Int} (h : v_R t s) : v_AA t (F_X11_straw s x1 x2) (fun s1 => F_X12_straw s1 x1 x2) := by
  refine v_A2.AA (C := fun s => F_X11_straw s x1 x2) (fun s z h => ?_) h
  show ∃ v s' z', F_X11_straw s x1 x2 = _ ∧ F_X12_straw z x1 x2 = _ ∧ _
  unfold F_X11_straw
  rcases v_straw (x := x1) (b := x2) h with ⟨c1, c2⟩ | ⟨s', z', n, c1, c2, c3, c4, c5, c6⟩
  · exact ⟨-1, s, z, by rw [c1]; rfl, c2, h, v_fC.rf, v_fR.rf⟩
  · refine ⟨n, s', z', ?_, c2, c5, c6⟩
    rw [c1]
    show d_b (F_X10_strawOn_6 s' x2) _ = _
    rw [c4, d_b_t]
end V22
section V23
variable {s s' z z' : d_S} {t : Nat → Option p_C} {L : v_LR} {u v W H b N : Nat} {st me so : Nat → Nat} {sg : Nat → Nat → Nat} {day heat x size edge sold : Int} {q : v_T5}
theorem v_sel_n (h : L.2.1 = none) {a b c d e f x y x' y' : Int} : v_sel L a b c d e f x y = v_sel L a b c d e f x' y' := by unfold v_sel; rw [h]
theorem P_sells62 (hT : v_CT t (s.2.1 47 3) L) (hK : v_K s q sold) (hb : v_tb s size edge) (hz : size ≤ 64) : ∃ s', F_X0_sellsAt_j62 t s = some (v_sel L q.1 q.2.1 size q.2.2.1 q.2.2.2.1 edge (s.1 49 6) (s.1 49 7), s') ∧ (∀ a, a ≠ 49 → a ≠ 50 → s'.1 a = s.1 a) ∧ s'.2 = s.2 ∧ v_Nm (s'.1 49) := by
  obtain ⟨⟨k6, k7, k8, k9, k5, k10⟩, ⟨o1, o2, o3, o4, o5⟩, -⟩ := hK
  obtain ⟨b3, b5, hN⟩ := hb
  obtain ⟨s1, hs1⟩ : ∃ y, y = d_si (d_si (d_si (d_si s 49 1 q.1) 49 2 q.2.1) 49 0 q.2.2.1) 49 4 q.2.2.2.1 := ⟨_, rfl⟩
  have e49 : s1.1 49 = d_u (d_u (d_u (d_u (s.1 49) 1 q.1) 2 q.2.1) 0 q.2.2.1) 4 q.2.2.2.1 := by rw [hs1]; exact v_told
  have eo : ∀ a, a ≠ 49 → s1.1 a = s.1 a := fun a ha => by rw [hs1, d_si_n ha, d_si_n ha, d_si_n ha, d_si_n ha]
  have hN1 : v_Nm (s1.1 49) := by
    rw [e49]
    exact (((hN.u (k := 1) (by omega) (by omega)).u (k := 2) (by omega) (by omega)).u (k := 0) (by omega) (by omega)).u (k := 4) (by omega) (by omega)
  have ep : s1.2 = s.2 := by rw [hs1]; rfl
  obtain ⟨s2, g1, g2⟩ := P_sells (s := s1) (t := t) (e := s1.2.1 47 3) (L := L) (by rw [ep]; exact hT) hN1 (by rw [e49]; show s.1 49 3 ≤ 64; omega) (by rw [e49]; show q.2.2.2.1 ≤ 100; omega)
  refine ⟨s2, ?_, fun a h1 h2 => by rw [g2.1 a (by intro h; simp at h; exact h2 h), eo a h1], g2.2.trans ep, by rw [g2.1 49 (by decide)]; exact hN1⟩
  unfold F_X0_sellsAt_j62
  rw [k6, k7, k8, k9, P_tellDay, d_b_t, ← hs1, g1, d_b2_t, e49]
  congr 1
  refine Prod.ext ?_ rfl
  show v_sel L q.1 q.2.1 (s.1 49 3) q.2.2.1 q.2.2.2.1 (s.1 49 5) (s.1 49 6) (s.1 49 7) = _
  rw [b3, b5]
theorem P_sellsAt (hT : v_CT t (s.2.1 47 3) L) (hK : v_K s q sold) (hb : v_tb s ((v_sz u v W H b : Nat) : Int) edge) (hQ : v_Q s u v W H) (hS : v_S s N sg) (h4 : s.1 47 4 = (b : Int)) (hbl : b < v_bl u v) : ∃ s', F_X0_sellsAt t s = some (v_sel L q.1 q.2.1 ((v_sz u v W H b : Nat) : Int) q.2.2.1 q.2.2.2.1 edge ((v_pc (v_si sg u v W H N b) 12 : Nat) : Int) ((v_ki sg u v W H N b : Nat) : Int), s') ∧ (∀ a, a ≠ 49 → a ≠ 50 → s'.1 a = s.1 a) ∧ s'.2 = s.2 ∧ v_Nm (s'.1 49) := by
  have hsz := v_sz_le (u := u) (v := v) (W := W) (H := H) (b := b) hQ.2.2.2.1 hQ.2.2.2.2
  have hnone : L.2.1 = none → ∃ s', F_X0_sellsAt_j62 t s = some (v_sel L q.1 q.2.1 ((v_sz u v W H b : Nat) : Int) q.2.2.1 q.2.2.2.1 edge ((v_pc (v_si sg u v W H N b) 12 : Nat) : Int) ((v_ki sg u v W H N b : Nat) : Int), s') ∧ (∀ a, a ≠ 49 → a ≠ 50 → s'.1 a = s.1 a) ∧ s'.2 = s.2 ∧ v_Nm (s'.1 49) := by
    intro hL
    obtain ⟨s', g1, g2⟩ := P_sells62 hT hK hb (by omega)
    exact ⟨s', by rw [g1, v_sel_n hL], g2⟩
  unfold F_X0_sellsAt
  cases e : s.2.1 47 3 with
  | none =>
    rw [e] at hT
    have hL : L = (none, none, none) := hT
    exact hnone (by rw [hL])
  | some a =>
    have hT' := hT
    rw [e] at hT'
    obtain ⟨-, h0, -⟩ := hT'
    show ∃ s', d_b (some a) _ = _ ∧ _
    rw [d_b_t]
    rcases h0 with ⟨h1, h2⟩ | ⟨a', V, h1, h2, h3⟩
    · rw [h1, d_b_t]
      exact hnone h2
    · rw [h1, d_b_t]
      show ∃ s', d_b (F_X4_sightsIn_3 s (s.1 47 4)) _ = _ ∧ _
      have hk : v_ks (fun n => 0 < v_ce sg u v W H n b) (fun n => sg n 0) N < 1024 := v_ks_lt N (fun j hj => by have := hS.le hj (k := 0) (by decide); omega)
      rw [h4, P_sightsInC hQ hS hbl, d_b_t, P_bitCount (show v_si sg u v W H N b < 4096 from v_sb12 hS.2.1), d_b_t, P_kindsInC hQ hS hbl, d_b_t, P_bitCount (by omega), d_b_t]
      unfold F_X1_tellSights
      rw [d_l_t, d_l_t, d_b_t]
      obtain ⟨s1, hs1⟩ : ∃ y, y = d_si (d_si s 49 6 ((v_pc (v_si sg u v W H N b) 12 : Nat) : Int)) 49 7 ((v_ki sg u v W H N b : Nat) : Int) := ⟨_, rfl⟩
      have eo : ∀ a, a ≠ 49 → s1.1 a = s.1 a := fun a ha => by rw [hs1, d_si_n ha, d_si_n ha]
      have e49 : s1.1 49 = d_u (d_u (s.1 49) 6 ((v_pc (v_si sg u v W H N b) 12 : Nat) : Int)) 7 ((v_ki sg u v W H N b : Nat) : Int) := by rw [hs1, d_si_i, d_si_i]
      have ep : s1.2 = s.2 := by rw [hs1]; rfl
      obtain ⟨b3, b5, hN⟩ := hb
      have p1 := v_pc_le (n := v_si sg u v W H N b) 12
      have p2 : v_ki sg u v W H N b ≤ 12 := v_pc_le 12
      have hb1 : v_tb s1 ((v_sz u v W H b : Nat) : Int) edge := by
        refine ⟨?_, ?_, ?_⟩
        · rw [e49]; exact b3
        · rw [e49]; exact b5
        · rw [e49]; exact (hN.u (k := 6) (by omega) (by omega)).u (k := 7) (by omega) (by omega)
      obtain ⟨s', g1, g2, g3, g4⟩ := P_sells62 (s := s1) (t := t) (L := L) (q := q) (sold := sold) (by rw [ep]; exact hT) (by unfold v_K at hK ⊢; rw [eo 47 (by decide)]; exact hK) hb1 (by omega)
      show ∃ s', F_X0_sellsAt_j62 t (d_si (d_si s 49 6 ((v_pc (v_si sg u v W H N b) 12 : Nat) : Int)) 49 7 ((v_ki sg u v W H N b : Nat) : Int)) = _ ∧ _
      rw [← hs1]
      refine ⟨s', ?_, fun a h1 h2 => (g2 a h1 h2).trans (eo a h1), g3.trans ep, g4⟩
      rw [g1, e49]; rfl
theorem P_sellsOf (hG : v_G (s.1 65) u v W H) (hZ : v_Z (s.1 65) N sg) (hb : b < v_bl u v) (hT : v_RT (s.1 67) (s.1 65 2) L) (hN : v_Nm (s.1 71)) (hB : v_B (s.1 65) st me so) (h9 : s.1 65 9 = day) (h10 : s.1 65 10 = heat) (h0 : 0 ≤ day ∧ day ≤ 2000) (h1 : 0 ≤ heat ∧ heat ≤ 2000) : ∃ s', F_X12_sellsOf s (b : Int) = some (v_sel L day heat ((v_sz u v W H b : Nat) : Int) ((st b : Nat) : Int) ((me b : Nat) : Int) ((v_ed u v W H b : Nat) : Int) ((v_pc (v_si sg u v W H N b) 12 : Nat) : Int) ((v_ki sg u v W H N b : Nat) : Int), s') ∧ v_71 s s' := by
  have hac := hG.ac
  obtain ⟨-, m1, m2, m3⟩ := hB b (by omega)
  have hsz := v_sz_le (u := u) (v := v) (W := W) (H := H) (b := b) hG.2.2.2.1.2 hG.2.2.2.2.1.2
  have hed := v_ed_le (u := u) (v := v) (W := W) (H := H) (b := b)
  obtain ⟨s1, g1, g2, g3, g4⟩ := P_name (s := s) (day := day) (heat := heat) (straw := ((st b : Nat) : Int)) (melted := ((me b : Nat) : Int)) hG hb
  have hN1 : v_Nm (s1.1 71) := by rw [g2]; exact hN.nam h0 h1 (by omega) (by omega) (by omega) (by omega)
  have e65 : s1.1 65 = s.1 65 := g3 65 (by decide)
  have p1 := v_pc_le (n := v_si sg u v W H N b) 12
  have p2 : v_ki sg u v W H N b ≤ 12 := v_pc_le 12
  obtain ⟨s2, hs2⟩ : ∃ y, y = d_si s1 71 6 ((v_pc (v_si sg u v W H N b) 12 : Nat) : Int) := ⟨_, rfl⟩
  have e652 : s2.1 65 = s.1 65 := by rw [hs2, d_si_n (by decide)]; exact e65
  obtain ⟨s3, hs3⟩ : ∃ y, y = d_si s2 71 7 ((v_ki sg u v W H N b : Nat) : Int) := ⟨_, rfl⟩
  have e653 : s3.1 65 = s.1 65 := by rw [hs3, d_si_n (by decide)]; exact e652
  have e71 : s3.1 71 = d_u (d_u (v_nam (s.1 71) day heat ((v_sz u v W H b : Nat) : Int) ((st b : Nat) : Int) ((me b : Nat) : Int) ((v_ed u v W H b : Nat) : Int)) 6 ((v_pc (v_si sg u v W H N b) 12 : Nat) : Int)) 7 ((v_ki sg u v W H N b : Nat) : Int) := by rw [hs3, d_si_i, hs2, d_si_i, g2]
  have hN3 : v_Nm (s3.1 71) := by
    rw [hs3, d_si_i, hs2, d_si_i]
    exact (hN1.u (k := 6) (by omega) (by omega)).u (k := 7) (by omega) (by omega)
  have eo : ∀ a, a ≠ 71 → s3.1 a = s.1 a := fun a ha => by rw [hs3, d_si_n ha, hs2, d_si_n ha]; exact g3 a ha
  obtain ⟨c, hc, hc2⟩ : ∃ c : Nat, 100 - ((me b : Nat) : Int) = c ∧ c ≤ 100 := ⟨100 - me b, by omega, by omega⟩
  have hle : v_sz u v W H b * c ≤ 64 * 100 := Nat.mul_le_mul hsz hc2
  have hd : d_div (s3.1 71 2 * (100 - ((me b : Nat) : Int))) 10 = ((v_sz u v W H b : Nat) : Int) * (100 - ((me b : Nat) : Int)) / 10 := by
    rw [e71]
    show d_div (((v_sz u v W H b : Nat) : Int) * _) 10 = _
    rw [hc, ← Int.natCast_mul]
    exact v_div (a := v_sz u v W H b * c) (b := 10) (by omega) (by decide)
  have hle2 : 0 ≤ ((v_sz u v W H b : Nat) : Int) * (100 - ((me b : Nat) : Int)) / 10 ∧ ((v_sz u v W H b : Nat) : Int) * (100 - ((me b : Nat) : Int)) / 10 ≤ 640 := by
    rw [hc, ← Int.natCast_mul]; omega
  obtain ⟨s4, r1, r2, r3⟩ := hT.2.1 s3 (((v_sz u v W H b : Nat) : Int) * (100 - ((me b : Nat) : Int)) / 10) 9999 (fun j _ _ => congrFun (eo 67 (by decide)) j) hN3 (by decide) (by decide) ⟨by omega, by omega⟩
  unfold F_X12_sellsOf
  rw [P_get0 hB (by omega), d_b_t, P_get1 hB (by omega), d_b_t, h9, h10, g1, d_b_t, P_sightsIn (by rw [e65]; exact hG) (by rw [e65]; exact hZ) hb, d_b_t, P_bits (show v_si sg u v W H N b < 4096 from v_sb12 hZ.2.1), d_b_t, d_l_t, ← hs2, P_kindsIn (by rw [e652]; exact hG) (by rw [e652]; exact hZ) hb, d_b_t, d_l_t, ← hs3, P_get1 (by rw [e653]; exact hB) (by omega), d_b_t, hd, e653, r1, d_b2_t]
  refine ⟨s4, ?_, fun a ha => by rw [r2]; exact eo a ha, r3.trans ?_, fun _ => by rw [r2]; exact hN3⟩
  · congr 1
    refine Prod.ext ?_ rfl
    unfold v_sel v_cut
    rw [e71]
    cases L.2.1 with
    | none => rfl
    | some V => rfl
  · rw [hs3, hs2, ← g4]; rfl
theorem v_R.sides (h : v_R t (d_mx s z)) : ∃ (e : Option Nat) (L : v_LR), F_X9_ruler_3 s = some e ∧ v_CT t e L ∧ v_RT (z.1 67) (z.1 65 2) L := by
  obtain ⟨e, L, h1, h2, h3⟩ := h.rule
  exact ⟨e, L, by rw [← h1]; exact (P_ruler_fr rfl rfl).symm, h2, h3⟩
abbrev v_cs1 (A : Nat → Int) (b : Int) : Prop := (0 ≤ b ∧ b < ((v_bl (v_u A) (v_v A) : Nat) : Int)) ∧ v_so A b.toNat = 0 ∧ v_me A b.toNat < 100
theorem P_canSellR (h : v_R t (d_mx s z)) {b : Int} : F_X12_canSell z b = some (v_b (v_cs1 (z.1 65) b)) := by
  have hI : v_I (z.1 65) := h.2.1
  have hG := hI.G
  have hB := hI.B
  unfold F_X12_canSell
  rw [P_isBlock hG, d_b_t]
  by_cases c1 : 0 ≤ b ∧ b < ((v_bl (v_u (z.1 65)) (v_v (z.1 65)) : Nat) : Int)
  rotate_left
  · rw [v_bf c1, if_pos rfl, v_bf (fun e => c1 e.1)]
  obtain ⟨k, rfl⟩ : ∃ k : Nat, b = k := ⟨b.toNat, by omega⟩
  have hk : k < 64 := by have := hG.ac.2.2.1; omega
  obtain ⟨-, g1, g2, g3⟩ := hB k hk
  rw [v_bt c1, if_neg (by decide), P_isSold hB hk, d_b_t]
  by_cases c2 : v_so (z.1 65) k = 0
  rotate_left
  · rw [if_neg (by omega), v_bf (fun e => c2 e.2.1)]
  rw [if_pos (by omega), P_isWater hB hk, d_b_t]
  by_cases c3 : v_me (z.1 65) k = 100
  · rw [v_bt c3, if_neg (by decide), v_bf (fun e => by have h2 : v_me (z.1 65) k < 100 := e.2.2; omega)]
  · have c4 : v_me (z.1 65) k < 100 := by omega
    rw [v_bf c3, if_pos rfl, v_bt ⟨c1, c2, c4⟩]
theorem P_canSellC (h : v_R t (d_mx s z)) {b : Int} : F_X11_canSell s b = some (v_b (v_cs1 (z.1 65) b)) := by
  obtain ⟨hW, hI, -, -, -, hQ, -, hN, -⟩ := h
  have hI : v_I (z.1 65) := hI
  have hG := hI.G
  have hB := hI.B
  have hQ : v_Q s (v_u (z.1 65)) (v_v (z.1 65)) (v_wi (z.1 65)) (v_hi (z.1 65)) := hQ.fr (fun a h1 h2 => (d_mx_lo (by omega)).symm)
  have hM : v_M s (v_st (z.1 65)) (v_me (z.1 65)) (v_so (z.1 65)) := hW.M (s := d_mx s z) hI
  unfold F_X11_canSell
  rw [P_isBlockC hQ, d_b_t]
  by_cases c1 : 0 ≤ b ∧ b < ((v_bl (v_u (z.1 65)) (v_v (z.1 65)) : Nat) : Int)
  rotate_left
  · rw [v_bf c1, if_pos rfl, v_bf (fun e => c1 e.1)]
  obtain ⟨k, rfl⟩ : ∃ k : Nat, b = k := ⟨b.toNat, by omega⟩
  have hk : k < 64 := by have := hG.ac.2.2.1; omega
  obtain ⟨-, g1, g2, g3⟩ := hB k hk
  rw [v_bt c1, if_neg (by decide), P_isSoldC hM hk, d_b_t]
  by_cases c2 : v_so (z.1 65) k = 0
  rotate_left
  · rw [if_neg (by omega), v_bf (fun e => c2 e.2.1)]
  rw [if_pos (by omega), P_meltedOf hM hk, d_b_t]
  by_cases c3 : v_me (z.1 65) k < 100
  · rw [if_pos (by omega), v_bt ⟨c1, c2, c3⟩]
  · rw [if_neg (by omega), v_bf (fun e => c3 e.2.2)]
theorem v_sell (h : v_R t (d_mx s z)) {b : Int} (hc : v_cs1 (z.1 65) b) : ∃ n s' z', F_X11_sellOff t s b = some (n, s') ∧ F_X12_sellNow z b = some (n, z') ∧ 0 ≤ n ∧ v_R t (d_mx s' z') ∧ v_fC s s' ∧ v_fR z z' := by
  obtain ⟨e, L, hE, hCT, hRT⟩ := h.sides
  have h' := h
  obtain ⟨hW, hI, -, -, -, hQ, -, hN, -⟩ := h'
  have hI : v_I (z.1 65) := hI
  have hG := hI.G
  have hB := hI.B
  have h12 := v_A12 hI
  have hQ : v_Q s (v_u (z.1 65)) (v_v (z.1 65)) (v_wi (z.1 65)) (v_hi (z.1 65)) := hQ.fr (fun a h1 h2 => (d_mx_lo (by omega)).symm)
  have hM : v_M s (v_st (z.1 65)) (v_me (z.1 65)) (v_so (z.1 65)) := hW.M (s := d_mx s z) hI
  have hY : v_Y s (z.1 65 9) (z.1 65 10) (z.1 65 13) := hW.Y (s := d_mx s z) hI
  have hS : v_S s (v_nS (z.1 65)) (v_sg (z.1 65)) := hW.S (s := d_mx s z) hI
  have e12 : s.1 6 2 = z.1 65 12 := hW.2.1.1 2 (by decide)
  have e11 : s.1 6 5 = z.1 65 11 := hW.2.1.1 5 (by decide)
  obtain ⟨c1, c2, c3⟩ := hc
  obtain ⟨k, rfl⟩ : ∃ k : Nat, b = k := ⟨b.toNat, by omega⟩
  have hkb : k < v_bl (v_u (z.1 65)) (v_v (z.1 65)) := by omega
  have hk : k < 64 := by have := hG.ac.2.2.1; omega
  have c2 : v_so (z.1 65) k = 0 := c2
  have c3 : v_me (z.1 65) k < 100 := c3
  obtain ⟨⟨f1, f2, f3⟩, g1, g2, g3⟩ := hB k hk
  obtain ⟨i9, i10, -, i13, -⟩ := hI.2.2.2
  have i9 : 0 ≤ z.1 65 9 ∧ z.1 65 9 ≤ 999 := i9
  have i10 : 0 ≤ z.1 65 10 ∧ z.1 65 10 ≤ 9 := i10
  
  obtain ⟨s1, a1, a2, a3, a4, a5, a6, a7⟩ := P_start hM hQ hkb hE hY hN.1
  obtain ⟨s2, b1, b2, b3, b4⟩ := P_sellsAt (L := L) (b := k) (by rw [a4]; exact hCT) a2 a5 (hQ.fr (fun a h1 h2 => a6 a (by omega) (by omega))) (N := v_nS (z.1 65)) (sg := v_sg (z.1 65)) (by
    unfold v_S at hS ⊢
    rw [a6 3 (by decide) (by decide), a6 4 (by decide) (by decide)]; exact hS) a3 hkb
  obtain ⟨z1, r1, r2, r3, r4⟩ := P_sellsOf hG hI.Z hkb hRT hN.2 hB rfl rfl (by omega) (by omega)
  obtain ⟨n, hn⟩ : ∃ n, n = v_sel L (z.1 65 9) (z.1 65 10) ((v_sz (v_u (z.1 65)) (v_v (z.1 65)) (v_wi (z.1 65)) (v_hi (z.1 65)) k : Nat) : Int) ((v_st (z.1 65) k : Nat) : Int) ((v_me (z.1 65) k : Nat) : Int) ((v_ed (v_u (z.1 65)) (v_v (z.1 65)) (v_wi (z.1 65)) (v_hi (z.1 65)) k : Nat) : Int) ((v_pc (v_si (v_sg (z.1 65)) (v_u (z.1 65)) (v_v (z.1 65)) (v_wi (z.1 65)) (v_hi (z.1 65)) (v_nS (z.1 65)) k) 12 : Nat) : Int) ((v_ki (v_sg (z.1 65)) (v_u (z.1 65)) (v_v (z.1 65)) (v_wi (z.1 65)) (v_hi (z.1 65)) (v_nS (z.1 65)) k : Nat) : Int) := ⟨_, rfl⟩
  have b1 : F_X0_sellsAt t s1 = some (n, s2) := by rw [hn]; exact b1
  rw [← hn] at r1
  have hn0 : 0 ≤ n := by rw [hn]; exact v_sel_b.1
  have so' : ∀ a, a ≠ 47 → a ≠ 49 → a ≠ 50 → s2.1 a = s.1 a := fun a h1 h2 h3 => (b2 a h2 h3).trans (a6 a h1 h2)
  obtain ⟨m, hm⟩ : ∃ m : Int, m = min 99 (z.1 65 12 + ((v_st (z.1 65) k : Nat) : Int)) := ⟨_, rfl⟩
  obtain ⟨c, hcn⟩ : ∃ c : Int, c = d_w (z.1 65 11 + n) := ⟨_, rfl⟩
  obtain ⟨s3, hs3⟩ : ∃ y, y = d_si s2 6 5 c := ⟨_, rfl⟩
  have hM3 : v_M s3 (v_st (z.1 65)) (v_me (z.1 65)) (v_so (z.1 65)) := hM.fr (by rw [hs3, d_si_n (by decide), so' 7 (by decide) (by decide) (by decide)])
  obtain ⟨s4, hs4⟩ : ∃ y, y = d_si s3 6 2 m := ⟨_, rfl⟩
  have hM4 : v_M s4 (v_st (z.1 65)) (v_me (z.1 65)) (v_so (z.1 65)) := hM3.fr (by rw [hs4, d_si_n (by decide)])
  obtain ⟨s5, hs5⟩ : ∃ y, y = d_si s4 7 k ((0 + 16 * v_me (z.1 65) k + 2048 * 1 : Nat) : Int) := ⟨_, rfl⟩
  have hM5 := hM4.put (b := k) (show 0 ≤ 9 by decide) g2 (show 1 ≤ 1 by decide)
  rw [← hs5] at hM5
  have hme : v_up1 (v_me (z.1 65)) k (v_me (z.1 65) k) = v_me (z.1 65) := by
    funext j
    unfold v_up1
    by_cases q : j = k
    · rw [if_pos q, q]
    · rw [if_neg q]
  rw [hme] at hM5
  
  have y65 : z1.1 65 = z.1 65 := r2 65 (by decide)
  obtain ⟨z2, hz2⟩ : ∃ y, y = d_si z1 65 11 c := ⟨_, rfl⟩
  have yB : ∀ {w : d_S}, (∀ j, 20 ≤ j → j < 212 → w.1 65 j = z.1 65 j) → v_B (w.1 65) (v_st (z.1 65)) (v_me (z.1 65)) (v_so (z.1 65)) := fun hw j hj => by
    rw [hw _ (by omega) (by omega), hw _ (by omega) (by omega), hw _ (by omega) (by omega)]
    exact hB j hj
  have hB2 : v_B (z2.1 65) (v_st (z.1 65)) (v_me (z.1 65)) (v_so (z.1 65)) := yB (fun j h1 h2 => by rw [hz2, d_si_i, d_u_n (by omega), y65])
  obtain ⟨z3, hz3⟩ : ∃ y, y = d_si z2 65 12 m := ⟨_, rfl⟩
  have hB3 : v_B (z3.1 65) (v_st (z.1 65)) (v_me (z.1 65)) (v_so (z.1 65)) := yB (fun j h1 h2 => by rw [hz3, d_si_i, d_u_n (by omega), hz2, d_si_i, d_u_n (by omega), y65])
  obtain ⟨z4, hz4⟩ : ∃ y, y = d_si z3 65 (20 + 3 * k) ((0 : Nat) : Int) := ⟨_, rfl⟩
  have hB4 := hB3.set0 (b := k) (x := 0) (by decide)
  rw [← hz4] at hB4
  obtain ⟨z5, hz5⟩ : ∃ y, y = d_si z4 65 (22 + 3 * k) ((1 : Nat) : Int) := ⟨_, rfl⟩
  have hB5 : v_B (z5.1 65) (v_up1 (v_st (z.1 65)) k 0) (v_me (z.1 65)) (v_up1 (v_so (z.1 65)) k 1) := by
    intro j hj
    obtain ⟨⟨h1, h2, h3⟩, h4, h5, h6⟩ := hB4 j hj
    rw [hz5, d_si_i, d_u_n (show 20 + 3 * j ≠ 22 + 3 * k by omega), d_u_n (show 21 + 3 * j ≠ 22 + 3 * k by omega)]
    by_cases q : j = k
    · subst q
      rw [d_u_t]
      exact ⟨⟨h1, h2, by unfold v_up1; rw [if_pos rfl]⟩, h4, h5, by unfold v_up1; rw [if_pos rfl]; decide⟩
    · rw [d_u_n (by omega)]
      exact ⟨⟨h1, h2, by unfold v_up1; rw [if_neg q]; exact h3⟩, h4, h5, by unfold v_up1; rw [if_neg q]; exact h6⟩
  have zA : ∀ j, j ≠ 11 → j ≠ 12 → j ≠ 20 + 3 * k → j ≠ 22 + 3 * k → z5.1 65 j = z.1 65 j := fun j h1 h2 h3 h4 => by
    rw [hz5, d_si_i, d_u_n h4, hz4, d_si_i, d_u_n h3, hz3, d_si_i, d_u_n h2, hz2, d_si_i, d_u_n h1, y65]
  have z12 : z5.1 65 12 = m := by rw [hz5, d_si_i, d_u_n (by omega), hz4, d_si_i, d_u_n (by omega), hz3, d_si_i, d_u_t]
  have z11 : z5.1 65 11 = c := by rw [hz5, d_si_i, d_u_n (by omega), hz4, d_si_i, d_u_n (by omega), hz3, d_si_i, d_u_n (by decide), hz2, d_si_i, d_u_t]
  have zo : ∀ a, a ≠ 65 → z5.1 a = z1.1 a := fun a ha => by rw [hz5, d_si_n ha, hz4, d_si_n ha, hz3, d_si_n ha, hz2, d_si_n ha]
  have s5o : ∀ a, a ≠ 6 → a ≠ 7 → s5.1 a = s2.1 a := fun a h1 h2 => by rw [hs5, d_si_n h2, hs4, d_si_n h1, hs3, d_si_n h1]
  have s56 : ∀ j, s5.1 6 j = d_u (d_u (s.1 6) 5 c) 2 m j := fun j => by rw [hs5, d_si_n (by decide), hs4, d_si_i, hs3, d_si_i, so' 6 (by decide) (by decide) (by decide)]
  refine ⟨n, s5, z5, ?_, ?_, hn0, ?_, fun a ha => ?_, ⟨fun a ha => ?_, ?_⟩⟩
  · unfold F_X11_sellOff
    rw [a1, d_b_t, b1, d_b2_t, so' 6 (by decide) (by decide) (by decide), e11, ← hcn, d_l_t, ← hs3, P_strawOn hM3 hk, d_b_t, show s3.1 6 2 = z.1 65 12 by rw [hs3, d_si_i, d_u_n (by decide), so' 6 (by decide) (by decide) (by decide)]; exact e12, d_w_id (by omega) (by omega), P_min, d_b_t, ← hm, d_l_t, ← hs4, P_meltedOf hM4 hk, d_b_t]
    show d_b (F_X10_put_6 s4 (k : Int) ((0 : Nat) : Int) ((v_me (z.1 65) k : Nat) : Int) ((1 : Nat) : Int)) _ = _
    rw [P_put hk (by decide) g2 (by decide), d_b_t, ← hs5]
  · unfold F_X12_sellNow
    rw [r1, d_b2_t, y65, ← hcn, d_l_t, ← hz2, P_get0 hB2 hk, d_b_t, show z2.1 65 12 = z.1 65 12 by rw [hz2, d_si_i, d_u_n (by decide), y65], d_w_id (by omega) (by omega), P_cut (by decide) (by decide), d_b_t, show v_cut (z.1 65 12 + ((v_st (z.1 65) k : Nat) : Int)) 99 = m by rw [hm]; unfold v_cut; omega, d_l_t, ← hz3]
    show d_b (F_X12_set z3 (k : Int) 0 ((0 : Nat) : Int)) _ = _
    rw [P_set0 hk, d_b_t, ← hz4]
    show d_b (F_X12_set z4 (k : Int) 2 ((1 : Nat) : Int)) _ = _
    rw [P_set2 hk, d_b_t, ← hz5]
  · refine h.mark (fun a _ h6 h7 h47 h49 h50 => by rw [s5o a h6 h7]; exact so' a h47 h49 h50) (fun a ha => ?_) (fun a ha h65 h71 => by rw [zo a h65]; exact r2 a h71) (fun j hj => zA j (by omega) (by omega) (by omega) (by omega)) hM5 hB5 (fun i hi => ?_) ?_ ?_ (by rw [z12, hm]; omega) ?_ ?_ ?_
    · rw [hs5, hs4, hs3]
      show s2.2.1 a = _
      rw [b3]; exact a7 a ha
    · have hh := hW.2.1.1 i hi
      have hh : s.1 6 i = z.1 65 (9 + v_mu i) := hh
      rw [s56]
      by_cases q2 : i = 2
      · subst q2
        show d_u (d_u (s.1 6) 5 c) 2 m 2 = z5.1 65 12
        rw [d_u_t, z12]
      by_cases q5 : i = 5
      · subst q5
        show d_u (d_u (s.1 6) 5 c) 2 m 5 = z5.1 65 11
        rw [d_u_n (by decide), d_u_t, z11]
      have h2 : i = 0 ∨ i = 1 ∨ i = 3 ∨ i = 4 ∨ i = 6 := by omega
      have : 9 + v_mu i ≠ 12 ∧ 9 + v_mu i ≠ 11 ∧ 9 + v_mu i < 20 := by rcases h2 with rfl | rfl | rfl | rfl | rfl <;> decide
      rw [d_u_n q2, d_u_n q5, hh, zA _ this.2.1 this.1 (by omega) (by omega)]
    · rw [zA 9 (by decide) (by decide) (by omega) (by omega)]; exact i9
    · rw [zA 10 (by decide) (by decide) (by omega) (by omega)]; exact i10
    · rw [zA 13 (by decide) (by decide) (by omega) (by omega)]; exact i13
    · rw [s5o 49 (by decide) (by decide)]; exact b4
    · rw [zo 71 (by decide)]; exact r4 hN.2
  · rw [s5o a (by omega) (by omega)]; exact so' a (by omega) (by omega) (by omega)
  · rw [zo a (by omega)]; exact r2 a (by omega)
  · rw [hz5, hz4, hz3, hz2]; exact r3
theorem v_cs1.k (h : v_cs1 (z.1 65) (b : Int)) (hA : ∀ j, j ≠ 3 → j < 387 → z'.1 65 j = z.1 65 j) (hb : b < 64) : v_cs1 (z'.1 65) (b : Int) := by
  obtain ⟨h1, h2, h3⟩ := h
  have u14 : v_u (z'.1 65) = v_u (z.1 65) := by unfold v_u; rw [hA 14 (by omega) (by omega)]
  have v15 : v_v (z'.1 65) = v_v (z.1 65) := by unfold v_v; rw [hA 15 (by omega) (by omega)]
  refine ⟨by rw [u14, v15]; exact h1, ?_, ?_⟩
  · show v_so (z'.1 65) b = 0
    unfold v_so; rw [hA _ (by omega) (by omega)]; exact h2
  · show v_me (z'.1 65) b < 100
    unfold v_me; rw [hA _ (by omega) (by omega)]; exact h3
theorem v_sellH (h : v_R t (d_mx s z)) {b : Int} : (F_X11_sellByHand t s b = some (-1, s) ∧ F_X12_sell z b = some (-1, z)) ∨ ∃ n s' z', F_X11_sellByHand t s b = some (n, s') ∧ F_X12_sell z b = some (n, z') ∧ 0 ≤ n ∧ v_R t (d_mx s' z') ∧ v_fC s s' ∧ v_fR z z' := by
  unfold F_X11_sellByHand F_X12_sell
  rw [P_canSellC h, d_b_t, P_canSellR h, d_b_t]
  by_cases hc : v_cs1 (z.1 65) b
  rotate_left
  · left; rw [v_bf hc, if_pos rfl, if_pos rfl]; exact ⟨rfl, rfl⟩
  right
  rw [v_bt hc, if_neg (show ¬ (1 : Int) = 0 by decide), if_neg (show ¬ (1 : Int) = 0 by decide)]
  obtain ⟨s1, z1, k1, k2, k3, k4, k5, k6, k7, hR1⟩ := h.keep
  have hG := (show v_I (z.1 65) from h.2.1).G
  obtain ⟨k, rfl⟩ : ∃ k : Nat, b = k := ⟨b.toNat, by have := hc.1; omega⟩
  have hk : k < 64 := by have := hG.ac.2.2.1; have := hc.1; omega
  obtain ⟨n, s2, z2, g1, g2, g3, g4, g5, g6⟩ := v_sell hR1 (hc.k k7 hk)
  refine ⟨n, s2, z2, ?_, ?_, g3, g4, (v_fC.of k3 k4).tr g5, (v_fR.of k5 k6).tr g6⟩
  · rw [k1, d_b_t, g1, d_b2_t]
  · rw [k2, d_b_t, g2, d_b2_t]
theorem R_sell {x1 : Int} (h : v_R t s) : v_AA t (F_X11_sell t s x1) (fun s1 => F_X12_sell s1 x1) := by
  refine v_A2.AA (C := fun s => F_X11_sell t s x1) (fun s z h => ?_) h
  show ∃ v s' z', F_X11_sell t s x1 = _ ∧ F_X12_sell z x1 = _ ∧ _
  unfold F_X11_sell
  rcases v_sellH (b := x1) h with ⟨c1, c2⟩ | ⟨n, s', z', c1, c2, c3, c4⟩
  · exact ⟨-1, s, z, by rw [c1]; rfl, c2, h, v_fC.rf, v_fR.rf⟩
  · exact ⟨n, s', z', by rw [c1]; rfl, c2, c4⟩
end V23

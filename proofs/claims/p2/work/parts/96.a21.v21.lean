section V21
variable {s s' z z' s4 z4 : d_S} {t : Nat → Option p_C} {a : Nat} {x : Int}
theorem v_unC {p : Bool} (hp : p = true ↔ ∀ b, b < 64 → s.1 7 b = 0) : ∀ (j k m : Nat), k + j = 64 → j < m → (∀ b, b < k → s.1 7 b = 0) → F_X10_isUntouched_6_l2 s m (k : Int) = some (if p then 1 else 0) := by
  intro j
  induction j with
  | zero =>
    intro k m hk hm h
    obtain ⟨m, rfl⟩ : ∃ q, m = q + 1 := ⟨m - 1, by omega⟩
    show F_X10_isUntouched_6_l2_b s (F_X10_isUntouched_6_l2 s m) _ = _
    unfold F_X10_isUntouched_6_l2_b
    rw [if_neg (by omega), if_pos (hp.2 (fun b hb => h b (by omega)))]
  | succ j ih =>
    intro k m hk hm h
    obtain ⟨m, rfl⟩ : ∃ q, m = q + 1 := ⟨m - 1, by omega⟩
    show F_X10_isUntouched_6_l2_b s (F_X10_isUntouched_6_l2 s m) _ = _
    unfold F_X10_isUntouched_6_l2_b
    rw [if_pos (by omega), d_g_t (by omega), Int.toNat_natCast]
    by_cases q : s.1 7 k = 0
    · rw [if_pos q, d_w_id (by omega) (by omega)]
      refine ih (k + 1) m (by omega) (by omega) (fun b hb => ?_)
      by_cases e : b = k
      · rw [e]; exact q
      · exact h b (by omega)
    · rw [if_neg q, if_neg (fun e => q (hp.1 e k (by omega)))]
theorem v_unR {K : Int → Int → d_S → Option (Int × d_S)} {x1 x3 : Int} {p : Bool} (hp : p = true ↔ ∀ i, 20 ≤ i → i < 212 → s.1 65 i = 0) : ∀ (j k m : Nat), k + j = 212 → 20 ≤ k → j < m → (∀ i, 20 ≤ i → i < k → s.1 65 i = 0) → F_X12_saw_l57 K m x1 x3 (k : Int) s = if p then K x1 x3 s else some (-1, s) := by
  intro j
  induction j with
  | zero =>
    intro k m hk h20 hm h
    obtain ⟨m, rfl⟩ : ∃ q, m = q + 1 := ⟨m - 1, by omega⟩
    show F_X12_saw_l57_b K (F_X12_saw_l57 K m) _ _ _ s = _
    unfold F_X12_saw_l57_b
    rw [if_neg (by omega), if_pos (hp.2 (fun b h1 hb => h b h1 (by omega)))]
  | succ j ih =>
    intro k m hk h20 hm h
    obtain ⟨m, rfl⟩ : ∃ q, m = q + 1 := ⟨m - 1, by omega⟩
    show F_X12_saw_l57_b K (F_X12_saw_l57 K m) _ _ _ s = _
    unfold F_X12_saw_l57_b
    rw [if_pos (by omega), d_g_t (by omega), Int.toNat_natCast]
    by_cases q : s.1 65 k = 0
    · rw [if_pos q, d_w_id (by omega) (by omega)]
      refine ih (k + 1) m (by omega) (by omega) (by omega) (fun b h1 hb => ?_)
      by_cases e : b = k
      · rw [e]; exact q
      · exact h b h1 (by omega)
    · rw [if_neg q, if_neg (fun e => q (hp.1 e k h20 (by omega)))]
noncomputable def v_sC (i : Nat) (s : d_S) (x : Int) : Option (Int × d_S) := d_b (F_X11_within x 0 (d_w (s.1 3 i - 2))) (fun v1 => if v1 = 0 then some (0, s) else if (d_and (d_shr (s.1 6 i) x) 1) = 1 then some (0, s) else d_b (F_X10_isUntouched_6 s) (fun v2 => if v2 = 0 then some (0, s) else d_b (F_X6_keep_8_6 s) (fun s3 => d_b (F_X4_lay_3 (d_si s3 6 i (d_or (s3.1 6 i) (d_shl 1 x)))) (fun s5 => some (1, s5)))))
noncomputable def v_sR (i : Nat) (s : d_S) (x : Int) : Option (Int × d_S) := d_b (F_X12_isIn x 0 (d_w (s.1 65 (16 + i) - 2))) (fun v2 => if v2 = 0 then some ((-1), s) else d_b (F_X12_has (s.1 65 (14 + i)) x) (fun v4 => if v4 = 0 then F_X12_saw_l57 (fun x1_u6 x3_u6 s_u6 => d_b (F_X12_keep s_u6) (fun s7 => d_g (0 ≤ x3_u6 ∧ x3_u6 < 2517) (d_g (0 ≤ x3_u6 ∧ x3_u6 < 2517) (d_l (d_si s7 65 ((x3_u6).toNat) (d_or (s7.1 65 (x3_u6.toNat)) (d_shl 1 x1_u6))) (fun s10 => d_b (F_X12_blocks s10) (fun v11 => some (v11, s10))))))) d_N x ((14 + i : Nat) : Int) 20 s else some ((-1), s)))
theorem v_sC_eq {y : Int} : F_X11_sawThrough s x y = v_sC (if y = 0 then 1 else 0) s x := by
  unfold F_X11_sawThrough F_X11_sawThrough_j31_0 F_X11_sawThrough_j56 F_X11_sawThrough_j127 v_sC
  by_cases q : y = 0
  · simp only [if_pos q]; rfl
  · simp only [if_neg q]; rfl
theorem v_sR_eq {y : Int} : F_X12_saw s x y = v_sR (if y = 0 then 1 else 0) s x := by
  unfold F_X12_saw F_X12_saw_j11 F_X12_saw_j29_0 v_sR
  by_cases q : y = 0
  · simp only [if_pos q]
    rw [d_g_t (by omega)]; rfl
  · simp only [if_neg q]
    rw [d_g_t (by omega)]; rfl
theorem P_has {n k : Nat} (hn : n < 2147483648) (hk : k < 31) : F_X12_has (n : Int) (k : Int) = some (v_b (n / 2 ^ k % 2 = 1)) := by
  unfold F_X12_has
  rw [v_bit hn hk]
  by_cases q : n / 2 ^ k % 2 = 1
  · rw [if_pos (by omega), v_bt q]
  · rw [if_neg (by omega), v_bf q]
theorem v_bl1 (u v : Nat) : 1 ≤ v_bl u v := Nat.mul_le_mul (Nat.le_add_left 1 _) (Nat.le_add_left 1 _)
theorem v_orl {n k : Nat} (hn : n < 128) (hk : k < 7) : d_or (n : Int) (d_shl 1 (k : Int)) = ((n ||| 2 ^ k : Nat) : Int) := by
  have : 2 ^ k ≤ 2 ^ 6 := Nat.pow_le_pow_right (by decide) (by omega)
  rw [v_1shl (by omega), v_or (by omega) (by omega)]
theorem v_orl_lt {n k W : Nat} (hn : n < 2 ^ (W - 1)) (hk : k + 2 ≤ W) : n ||| 2 ^ k < 2 ^ (W - 1) := Nat.or_lt_two_pow hn (Nat.pow_lt_pow_right (by decide) (by omega))
theorem v_saw (h : v_R t (d_mx s z)) {i : Nat} (hi : i < 2) : (v_sC i s x = some (0, s) ∧ v_sR i z x = some (-1, z)) ∨ ∃ s' z' n, v_sC i s x = some (1, s') ∧ v_sR i z x = some (n, z') ∧ 1 ≤ n ∧ s'.1 37 5 = n ∧ v_R t (d_mx s' z') ∧ v_fC s s' ∧ v_fR z z' := by
  have h' := h
  obtain ⟨hW, hI, -, -, -, hQ, -, hN, -⟩ := h'
  have hI : v_I (z.1 65) := hI
  have hW3 : s.1 3 i = z.1 65 (16 + i) := by
    obtain ⟨⟨w0, w1, -⟩, -⟩ := hW.1
    have : i = 0 ∨ i = 1 := by omega
    rcases this with rfl | rfl
    · exact w0
    · exact w1
  have hW6 : s.1 6 i = z.1 65 (14 + i) := by
    have : i = 0 ∨ i = 1 := by omega
    rcases this with rfl | rfl
    · exact hW.2.1.1 0 (by decide)
    · exact hW.2.1.1 1 (by decide)
  have hdim : 1 ≤ z.1 65 (16 + i) ∧ z.1 65 (16 + i) ≤ 8 := by
    obtain ⟨i16, i17, -⟩ := hI.1
    have : i = 0 ∨ i = 1 := by omega
    rcases this with rfl | rfl
    · exact i16
    · exact i17
  obtain ⟨b0, b1, b3, b4, u, v, b5, b6, hu, hv, hu2, hv2⟩ := hI.2.2.2
  have b5 : z.1 65 14 = u := b5
  have b6 : z.1 65 15 = v := b6
  obtain ⟨w, hw, hw2, hw3⟩ : ∃ w : Nat, z.1 65 (14 + i) = w ∧ w < 128 ∧ w < 2 ^ ((z.1 65 (16 + i)).toNat - 1) := by
    have : i = 0 ∨ i = 1 := by omega
    rcases this with rfl | rfl
    · exact ⟨u, b5, hu, hu2⟩
    · exact ⟨v, b6, hv, hv2⟩
  unfold v_sC v_sR
  rw [P_within, P_isIn, d_b_t, d_b_t, hW3, d_w_id (by omega) (by omega), hW6, hw]
  by_cases c1 : 0 ≤ x ∧ x ≤ z.1 65 (16 + i) - 2
  rotate_left
  · left; rw [v_bf c1]; exact ⟨rfl, rfl⟩
  obtain ⟨k, rfl⟩ : ∃ k : Nat, x = k := ⟨x.toNat, by omega⟩
  have hk : k < 7 := by omega
  have n10 : ¬ (1 : Int) = 0 := by decide
  rw [v_bt c1, if_neg n10, if_neg n10, v_bit (by omega) (by omega), P_has (by omega) (by omega), d_b_t]
  by_cases c2 : w / 2 ^ k % 2 = 1
  · left; rw [if_pos (by omega), v_bt c2]; exact ⟨rfl, rfl⟩
  rw [if_neg (by omega), v_bf c2, if_pos rfl]
  have hM : ∀ b, b < 64 → s.1 7 b = z.1 65 (20 + 3 * b) + 16 * z.1 65 (21 + 3 * b) + 2048 * z.1 65 (22 + 3 * b) := fun b hb => hW.2.1.2 b hb
  obtain ⟨p, hp⟩ : ∃ p : Bool, p = true ↔ ∀ b, b < 64 → s.1 7 b = 0 := ⟨@decide _ (Classical.propDecidable _), @decide_eq_true_iff _ (Classical.propDecidable _)⟩
  have hp2 : p = true ↔ ∀ j, 20 ≤ j → j < 212 → z.1 65 j = 0 := by
    rw [hp]
    constructor
    · intro hz j h1 h2
      obtain ⟨g1, g2, g3⟩ := hI.2.1 ((j - 20) / 3) (by omega)
      have e := hM ((j - 20) / 3) (by omega)
      rw [hz _ (by omega)] at e
      have : j = 20 + 3 * ((j - 20) / 3) ∨ j = 21 + 3 * ((j - 20) / 3) ∨ j = 22 + 3 * ((j - 20) / 3) := by omega
      rcases this with q | q | q <;> rw [q] <;> omega
    · intro hz b hb
      rw [hM b hb, hz _ (by omega) (by omega), hz _ (by omega) (by omega), hz _ (by omega) (by omega)]; rfl
  have eC : F_X10_isUntouched_6 s = some (if p then 1 else 0) := by
    unfold F_X10_isUntouched_6
    exact v_unC hp 64 0 d_N rfl (by rw [d_N_is]; decide) (fun b hb => absurd hb (Nat.not_lt_zero b))
  rw [eC, d_b_t]
  have eR := fun (K : Int → Int → d_S → Option (Int × d_S)) => v_unR (K := K) (x1 := (k : Int)) (x3 := ((14 + i : Nat) : Int)) hp2 192 20 d_N rfl (by decide) (by rw [d_N_is]; decide) (fun i h1 h2 => absurd h2 (by omega))
  have eR : ∀ (K : Int → Int → d_S → Option (Int × d_S)), F_X12_saw_l57 K d_N (k : Int) ((14 + i : Nat) : Int) 20 z = _ := eR
  rw [eR]
  cases hpe : p
  · left; exact ⟨rfl, rfl⟩
  right
  obtain ⟨s1, z1, k1, k2, k3, k4, k5, k6, k7, hR1⟩ := h.keep
  have h1 := hR1
  obtain ⟨hW1, hI1, -, -, -, hQ1, -, -, -⟩ := h1
  have hI1 : v_I (z1.1 65) := hI1
  have e61 : s1.1 6 i = w := by rw [k3 6 (by decide) (by decide), hW6, hw]
  have e651 : z1.1 65 (14 + i) = w := by rw [k7 _ (by omega) (by omega), hw]
  obtain ⟨s4, hs4⟩ : ∃ q, q = d_si s1 6 i ((w ||| 2 ^ k : Nat) : Int) := ⟨_, rfl⟩
  obtain ⟨z4, hz4⟩ : ∃ q, q = d_si z1 65 (14 + i) ((w ||| 2 ^ k : Nat) : Int) := ⟨_, rfl⟩
  have s6 : ∀ j, s4.1 6 j = d_u (s1.1 6) i ((w ||| 2 ^ k : Nat) : Int) j := fun j => by rw [hs4, d_si_i]
  have so : ∀ a, a ≠ 6 → s4.1 a = s1.1 a := fun a ha => by rw [hs4, d_si_n ha]
  have z6 : ∀ j, z4.1 65 j = d_u (z1.1 65) (14 + i) ((w ||| 2 ^ k : Nat) : Int) j := fun j => by rw [hz4, d_si_i]
  have zA : ∀ j, j ≠ 14 + i → z4.1 65 j = z1.1 65 j := fun j hj => by rw [z6, d_u_n hj]
  have zo : ∀ a, a ≠ 65 → z4.1 a = z1.1 a := fun a ha => by rw [hz4, d_si_n ha]
  have hor := v_orl hw2 hk
  have hlt := v_orl_lt (k := k) hw3 (by omega)
  have hlt2 : w ||| 2 ^ k < 128 := Nat.or_lt_two_pow (n := 7) hw2 (Nat.pow_lt_pow_right (by decide) hk)
  have hWy : v_Wy s4.1 0 (z4.1 65) := by
    obtain ⟨y1, y2⟩ := hW1.2.1
    refine ⟨fun j hj => ?_, fun b hb => ?_⟩
    · show s4.1 6 j = _
      rw [s6, z6]
      by_cases q : j = i
      · have : 9 + v_mu j = 14 + i := by
          have : i = 0 ∨ i = 1 := by omega
          rcases this with rfl | rfl <;> rw [q] <;> rfl
        rw [q] at this ⊢
        rw [this, d_u_t, d_u_t]
      · have : 9 + v_mu j ≠ 14 + i := by
          have h1 : i = 0 ∨ i = 1 := by omega
          have h2 : j = 0 ∨ j = 1 ∨ j = 2 ∨ j = 3 ∨ j = 4 ∨ j = 5 ∨ j = 6 := by omega
          rcases h1 with rfl | rfl <;> rcases h2 with rfl | rfl | rfl | rfl | rfl | rfl | rfl <;> first | exact absurd rfl q | decide
        rw [d_u_n q, d_u_n this]
        exact y1 j hj
    · show s4.1 7 b = _
      rw [so 7 (by decide), zA _ (by omega), zA _ (by omega), zA _ (by omega)]
      exact y2 b hb
  have hWs : v_Ws s4.1 0 (z4.1 65) := hW1.2.2.1.fr (so 8 (by decide)) (so 9 (by decide)) (zA 3 (by omega)) (zA 16 (by omega)) (zA 17 (by omega)) (fun j h1 h2 => zA j (by omega))
  have hIb : v_Ib (z4.1 65) := hI1.2.1.fr (fun j h1 h2 => zA j (by omega))
  have w16 : v_wi (z1.1 65) = v_wi (z.1 65) := by unfold v_wi; rw [k7 16 (by decide) (by decide)]
  have w17 : v_hi (z1.1 65) = v_hi (z.1 65) := by unfold v_hi; rw [k7 17 (by decide) (by decide)]
  have hyb : v_yb (fun k => z4.1 65 (9 + k)) (v_wi (z.1 65)) (v_hi (z.1 65)) := by
    refine ⟨?_, ?_, ?_, ?_, ?_⟩
    · show 0 ≤ z4.1 65 9 ∧ z4.1 65 9 ≤ 999; rw [zA 9 (by omega), k7 9 (by decide) (by decide)]; exact b0
    · show 0 ≤ z4.1 65 10 ∧ z4.1 65 10 ≤ 9; rw [zA 10 (by omega), k7 10 (by decide) (by decide)]; exact b1
    · show 0 ≤ z4.1 65 12 ∧ z4.1 65 12 ≤ 99; rw [zA 12 (by omega), k7 12 (by decide) (by decide)]; exact b3
    · show 0 ≤ z4.1 65 13 ∧ z4.1 65 13 < 30293; rw [zA 13 (by omega), k7 13 (by decide) (by decide)]; exact b4
    · have : i = 0 ∨ i = 1 := by omega
      rcases this with rfl | rfl
      · refine ⟨w ||| 2 ^ k, v, ?_, ?_, hlt2, hv, hlt, hv2⟩
        · show z4.1 65 14 = _; rw [z6]; rfl
        · show z4.1 65 15 = _; rw [zA 15 (by omega), k7 15 (by decide) (by decide)]; exact b6
      · refine ⟨u, w ||| 2 ^ k, ?_, ?_, hu, hlt2, hu2, hlt⟩
        · show z4.1 65 14 = _; rw [zA 14 (by omega), k7 14 (by decide) (by decide)]; exact b5
        · show z4.1 65 15 = _; rw [z6]; rfl
  obtain ⟨hG, s5, g1, g2, g3, g4, g5⟩ := v_R.lay hR1 (fun a _ h6 _ _ _ => so a h6) (by rw [hs4]; rfl) zo (fun j hj => zA j (by omega)) hWy hWs hIb (by rw [w16, w17]; exact hyb)
  have nl : ∀ a, 64 ≤ a → a ∉ v_L6 := fun a h1 h3 => by
    unfold v_L6 at h3
    simp only [List.mem_cons, List.not_mem_nil, or_false] at h3
    omega
  refine ⟨s5, z4, _, ?_, ?_, ?_, g2, g3, fun a ha => ?_, ⟨fun a ha => ?_, ?_⟩⟩
  · rw [if_pos rfl, if_neg (by decide), k1, d_b_t, e61, hor, ← hs4, g1, d_b_t]
  · rw [if_pos rfl, k2, d_b_t, d_g_t (by omega), d_g_t (by omega), Int.toNat_natCast, e651, hor, d_l_t, ← hz4, P_blocks hG, d_b_t]
  · have := v_bl1 (v_u (z4.1 65)) (v_v (z4.1 65)); omega
  · rw [g4 a (nl a ha), so a (by omega), k3 a (by omega) (by omega)]
  · rw [zo a (by omega), k5 a (by omega)]
  · rw [hz4]; show z1.2.1 = z.2.1; rw [k6]
theorem R_saw {x1 x2 : Int} (h : v_R t s) : v_AA t (F_X11_saw s x1 x2) (fun s1 => F_X12_saw s1 x1 x2) := by
  refine v_A2.AA (C := fun s => F_X11_saw s x1 x2) (fun s z h => ?_) h
  have hi : (if x2 = 0 then 1 else 0) < 2 := by split <;> decide
  show ∃ v s' z', F_X11_saw s x1 x2 = _ ∧ F_X12_saw z x1 x2 = _ ∧ _
  unfold F_X11_saw
  rw [v_sC_eq, v_sR_eq]
  rcases v_saw (x := x1) h hi with ⟨c1, c2⟩ | ⟨s', z', n, c1, c2, c3, c4, c5, c6, c7⟩
  · exact ⟨-1, s, z, by rw [c1]; rfl, c2, h, v_fC.rf, v_fR.rf⟩
  · refine ⟨n, s', z', ?_, c2, c5, c6, c7⟩
    rw [c1]
    show some (s'.1 37 5, s') = _
    rw [c4]
end V21

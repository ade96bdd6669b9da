section V12C
variable {s : d_S}
theorem d_cp_i {a p b q n j : Nat} : (d_cp s a p b q n).1 b j = if q ≤ j ∧ j < q + n then s.1 a (p + j - q) else s.1 b j := by
  unfold d_cp; rw [d_st_i]
theorem d_cp_n {a p b q n c : Nat} (h : c ≠ b) : (d_cp s a p b q n).1 c = s.1 c := by unfold d_cp; exact d_st_n h
theorem P_writeTo {p : Nat} (hp : p + 71 ≤ 2130) : ∃ s', F_X10_writeTo_6_9 s (p : Int) = some s' ∧ (∀ i, i < 7 → s'.1 9 (p + i) = s.1 6 i) ∧ (∀ b, b < 64 → s'.1 9 (p + 7 + b) = s.1 7 b) ∧ (∀ j, j < p ∨ p + 71 ≤ j → s'.1 9 j = s.1 9 j) ∧ (∀ a, a ≠ 9 → s'.1 a = s.1 a) ∧ s'.2 = s.2 := by
  have w : ∀ k : Nat, k < 10 → d_w ((p : Int) + (k : Int)) = ((p + k : Nat) : Int) := fun k hk => by rw [d_w_id (by omega) (by omega)]; rfl
  have w71 : d_w ((p : Int) + 71) = ((p + 71 : Nat) : Int) := by rw [d_w_id (by omega) (by omega)]; rfl
  have w1 : d_w ((p : Int) + 1) = ((p + 1 : Nat) : Int) := w 1 (by decide)
  have w2 : d_w ((p : Int) + 2) = ((p + 2 : Nat) : Int) := w 2 (by decide)
  have w3 : d_w ((p : Int) + 3) = ((p + 3 : Nat) : Int) := w 3 (by decide)
  have w4 : d_w ((p : Int) + 4) = ((p + 4 : Nat) : Int) := w 4 (by decide)
  have w5 : d_w ((p : Int) + 5) = ((p + 5 : Nat) : Int) := w 5 (by decide)
  have w6 : d_w ((p : Int) + 6) = ((p + 6 : Nat) : Int) := w 6 (by decide)
  have w7 : d_w ((p : Int) + 7) = ((p + 7 : Nat) : Int) := w 7 (by decide)
  obtain ⟨z, hz⟩ : ∃ z, z = d_si (d_si (d_si (d_si (d_si (d_si (d_si s 9 p (s.1 6 0)) 9 (p + 1) (s.1 6 1)) 9 (p + 2) (s.1 6 2)) 9 (p + 3) (s.1 6 3)) 9 (p + 4) (s.1 6 4)) 9 (p + 5) (s.1 6 5)) 9 (p + 6) (s.1 6 6) := ⟨_, rfl⟩
  have hgo : F_X10_writeTo_6_9 s (p : Int) = some (d_cp z 7 0 9 (p + 7) 64) := by
    unfold F_X10_writeTo_6_9
    rw [if_neg (by omega), w71, if_neg (by omega), d_g_t (by omega), d_l_t, Int.toNat_natCast]
    simp (disch := omega) only [w1, w2, w3, w4, w5, w6, w7, d_g_t, d_l_t, Int.toNat_natCast]
    rw [hz]
    simp (disch := decide) only [d_si_n]
  have zo : ∀ a, a ≠ 9 → z.1 a = s.1 a := fun a h => by rw [hz, d_si_n h, d_si_n h, d_si_n h, d_si_n h, d_si_n h, d_si_n h, d_si_n h]
  have z9 : ∀ j, z.1 9 j = d_u (d_u (d_u (d_u (d_u (d_u (d_u (s.1 9) p (s.1 6 0)) (p + 1) (s.1 6 1)) (p + 2) (s.1 6 2)) (p + 3) (s.1 6 3)) (p + 4) (s.1 6 4)) (p + 5) (s.1 6 5)) (p + 6) (s.1 6 6) j := fun j => by rw [hz, d_si_i, d_si_i, d_si_i, d_si_i, d_si_i, d_si_i, d_si_i]
  refine ⟨_, hgo, fun i hi => ?_, fun b hb => ?_, fun j hj => ?_, fun a ha => ?_, ?_⟩
  · rw [d_cp_i, if_neg (by omega), z9]
    have : i = 0 ∨ i = 1 ∨ i = 2 ∨ i = 3 ∨ i = 4 ∨ i = 5 ∨ i = 6 := by omega
    rcases this with rfl | rfl | rfl | rfl | rfl | rfl | rfl
    · rw [d_u_n (by omega), d_u_n (by omega), d_u_n (by omega), d_u_n (by omega), d_u_n (by omega), d_u_n (by omega), Nat.add_zero, d_u_t]
    · rw [d_u_n (by omega), d_u_n (by omega), d_u_n (by omega), d_u_n (by omega), d_u_n (by omega), d_u_t]
    · rw [d_u_n (by omega), d_u_n (by omega), d_u_n (by omega), d_u_n (by omega), d_u_t]
    · rw [d_u_n (by omega), d_u_n (by omega), d_u_n (by omega), d_u_t]
    · rw [d_u_n (by omega), d_u_n (by omega), d_u_t]
    · rw [d_u_n (by omega), d_u_t]
    · rw [d_u_t]
  · rw [d_cp_i, if_pos (by omega), show 0 + (p + 7 + b) - (p + 7) = b by omega, zo 7 (by decide)]
  · rw [d_cp_i, if_neg (by omega), z9, d_u_n (by omega), d_u_n (by omega), d_u_n (by omega), d_u_n (by omega), d_u_n (by omega), d_u_n (by omega), d_u_n (by omega)]
  · rw [d_cp_n ha, zo a ha]
  · rw [show (d_cp z 7 0 9 (p + 7) 64).2 = z.2 from rfl, hz]; rfl
theorem P_keepC {n c : Nat} (hn : s.1 8 1 = n) (hc : s.1 8 2 = c) (h30 : n < 30) (hc30 : c ≤ 30) : ∃ s', F_X6_keep_8_6 s = some s' ∧ (∀ i, i < 7 → s'.1 9 (71 * n + i) = s.1 6 i) ∧ (∀ b, b < 64 → s'.1 9 (71 * n + 7 + b) = s.1 7 b) ∧ (∀ j, j < 71 * n ∨ 71 * n + 71 ≤ j → s'.1 9 j = s.1 9 j) ∧ s'.1 8 1 = (((n + 1) % 30 : Nat) : Int) ∧ s'.1 8 2 = ((min 30 (c + 1) : Nat) : Int) ∧ (∀ a, a ≠ 8 → a ≠ 9 → s'.1 a = s.1 a) ∧ s'.2 = s.2 := by
  obtain ⟨s1, g1, g2, g3, g4, g5, g6⟩ := P_writeTo (s := s) (p := 71 * n) (by omega)
  have hgo : F_X6_keep_8_6 s = some (d_si (d_si s1 8 1 (((n + 1) % 30 : Nat) : Int)) 8 2 ((min 30 (c + 1) : Nat) : Int)) := by
    unfold F_X6_keep_8_6
    rw [hn, d_w_id (by omega) (by omega), show ((n : Int) * 71) = ((71 * n : Nat) : Int) by omega, g1, d_b_t, d_l_t, g5 8 (by decide), hn]
    rw [v_remI (by omega) (by omega) (by decide) (by decide), show ((n : Int) + 1) % 30 = (((n + 1) % 30 : Nat) : Int) by omega, d_si_i, d_u_n (by decide), g5 8 (by decide), hc, d_w_id (by omega) (by omega), P_min, d_b_t, d_l_t]
    have : min (30 : Int) ((c : Int) + 1) = ((min 30 (c + 1) : Nat) : Int) := by omega
    rw [this]
  refine ⟨_, hgo, fun i hi => ?_, fun b hb => ?_, fun j hj => ?_, ?_, ?_, fun a h1 h2 => ?_, g6⟩
  · rw [d_si_n (by decide), d_si_n (by decide)]; exact g2 i hi
  · rw [d_si_n (by decide), d_si_n (by decide)]; exact g3 b hb
  · rw [d_si_n (by decide), d_si_n (by decide)]; exact g4 j hj
  · rw [d_si_i, d_u_n (by decide), d_si_i, d_u_t]
  · rw [d_si_i, d_u_t]
  · rw [d_si_n h1, d_si_n h1]; exact g5 a h2
end V12C
section V12R
variable {s : d_S} {st me so : Nat → Nat}
theorem v_k13 {K : d_S → Option d_S} {A : Nat → Int} : ∀ (j k m : Nat), k + j = 2059 → j < m → ∀ s : d_S, (∀ i, i < k → s.1 65 (387 + i) = A (458 + i)) → (∀ i, i < 387 ∨ 387 + k ≤ i → s.1 65 i = A i) → ∃ s', F_X12_keep_l13 K m (k : Int) s = K s' ∧ (∀ i, i < 2059 → s'.1 65 (387 + i) = A (458 + i)) ∧ (∀ i, i < 387 ∨ 387 + 2059 ≤ i → s'.1 65 i = A i) ∧ (∀ a, a ≠ 65 → s'.1 a = s.1 a) ∧ s'.2 = s.2 := by
  intro j
  induction j with
  | zero =>
    intro k m hk hm s h1 h2
    obtain ⟨m, rfl⟩ : ∃ q, m = q + 1 := ⟨m - 1, by omega⟩
    have hk : k = 2059 := by omega
    subst hk
    refine ⟨s, ?_, h1, h2, fun _ _ => rfl, rfl⟩
    show F_X12_keep_l13_b K (F_X12_keep_l13 K m) _ s = _
    unfold F_X12_keep_l13_b
    rw [if_neg (by omega)]
  | succ j ih =>
    intro k m hk hm s h1 h2
    obtain ⟨m, rfl⟩ : ∃ q, m = q + 1 := ⟨m - 1, by omega⟩
    obtain ⟨s', r1, r2, r3, r4, r5⟩ := ih (k + 1) m (by omega) (by omega) (d_si s 65 (387 + k) (A (458 + k))) (fun i hi => by
      rw [d_si_i]
      by_cases q : i = k
      · subst q; rw [d_u_t]
      · rw [d_u_n (by omega)]; exact h1 i (by omega)) (fun i hi => by
      rw [d_si_i, d_u_n (by omega)]; exact h2 i (by omega))
    refine ⟨s', ?_, r2, r3, fun a ha => (r4 a ha).trans (d_si_n ha), r5⟩
    show F_X12_keep_l13_b K (F_X12_keep_l13 K m) _ s = _
    unfold F_X12_keep_l13_b
    rw [if_pos (by omega), d_w_id (by omega) (by omega), d_w_id (by omega) (by omega), d_g_t (by omega), d_g_t (by omega), d_l_t, show ((387 : Int) + (k : Int)).toNat = 387 + k by omega, show ((458 : Int) + (k : Int)).toNat = 458 + k by omega, h2 (458 + k) (by omega), d_w_id (by omega) (by omega)]
    exact r1
theorem v_k72 {K : Int → d_S → Option d_S} {A : Nat → Int} {x : Nat} (hx : 387 ≤ x ∧ x + 71 ≤ 2517) : ∀ (j k m : Nat), k + j = 7 → j < m → ∀ s : d_S, (∀ i, i < k → s.1 65 (x + i) = A (9 + i)) → (∀ i, i < x ∨ x + k ≤ i → s.1 65 i = A i) → ∃ s', F_X12_keep_l72 K m (x : Int) (k : Int) s = K (x : Int) s' ∧ (∀ i, i < 7 → s'.1 65 (x + i) = A (9 + i)) ∧ (∀ i, i < x ∨ x + 7 ≤ i → s'.1 65 i = A i) ∧ (∀ a, a ≠ 65 → s'.1 a = s.1 a) ∧ s'.2 = s.2 := by
  intro j
  induction j with
  | zero =>
    intro k m hk hm s h1 h2
    obtain ⟨m, rfl⟩ : ∃ q, m = q + 1 := ⟨m - 1, by omega⟩
    have hk : k = 7 := by omega
    subst hk
    refine ⟨s, ?_, h1, h2, fun _ _ => rfl, rfl⟩
    show F_X12_keep_l72_b K (F_X12_keep_l72 K m) _ _ s = _
    unfold F_X12_keep_l72_b
    rw [if_neg (by omega)]
  | succ j ih =>
    intro k m hk hm s h1 h2
    obtain ⟨m, rfl⟩ : ∃ q, m = q + 1 := ⟨m - 1, by omega⟩
    obtain ⟨s', r1, r2, r3, r4, r5⟩ := ih (k + 1) m (by omega) (by omega) (d_si s 65 (x + k) (A (9 + k))) (fun i hi => by
      rw [d_si_i]
      by_cases q : i = k
      · subst q; rw [d_u_t]
      · rw [d_u_n (by omega)]; exact h1 i (by omega)) (fun i hi => by
      rw [d_si_i, d_u_n (by omega)]; exact h2 i (by omega))
    refine ⟨s', ?_, r2, r3, fun a ha => (r4 a ha).trans (d_si_n ha), r5⟩
    show F_X12_keep_l72_b K (F_X12_keep_l72 K m) _ _ s = _
    unfold F_X12_keep_l72_b
    rw [if_pos (by omega), d_w_id (by omega) (by omega), d_w_id (by omega) (by omega), d_g_t (by omega), d_g_t (by omega), d_l_t, show ((x : Int) + (k : Int)).toNat = x + k by omega, show ((9 : Int) + (k : Int)).toNat = 9 + k by omega, h2 (9 + k) (by omega), d_w_id (by omega) (by omega)]
    exact r1
theorem v_k103 {K : d_S → Option d_S} {A : Nat → Int} {x : Nat} (hx : 387 ≤ x ∧ x + 71 ≤ 2517) (hB : v_B A st me so) : ∀ (j k m : Nat), k + j = 64 → j < m → ∀ s : d_S, (∀ i, i < k → s.1 65 (x + 7 + i) = (((so i * 101 + me i) * 10 + st i : Nat) : Int)) → (∀ i, i < x + 7 ∨ x + 7 + k ≤ i → s.1 65 i = A i) → ∃ s', F_X12_keep_l103 K m (x : Int) (k : Int) s = K s' ∧ (∀ i, i < 64 → s'.1 65 (x + 7 + i) = (((so i * 101 + me i) * 10 + st i : Nat) : Int)) ∧ (∀ i, i < x + 7 ∨ x + 71 ≤ i → s'.1 65 i = A i) ∧ (∀ a, a ≠ 65 → s'.1 a = s.1 a) ∧ s'.2 = s.2 := by
  intro j
  induction j with
  | zero =>
    intro k m hk hm s h1 h2
    obtain ⟨m, rfl⟩ : ∃ q, m = q + 1 := ⟨m - 1, by omega⟩
    have hk : k = 64 := by omega
    subst hk
    refine ⟨s, ?_, h1, h2, fun _ _ => rfl, rfl⟩
    show F_X12_keep_l103_b K (F_X12_keep_l103 K m) _ _ s = _
    unfold F_X12_keep_l103_b
    rw [if_neg (by omega)]
  | succ j ih =>
    intro k m hk hm s h1 h2
    obtain ⟨m, rfl⟩ : ∃ q, m = q + 1 := ⟨m - 1, by omega⟩
    have hBs : v_B (s.1 65) st me so := fun i hi => by
      rw [h2 _ (by omega), h2 _ (by omega), h2 _ (by omega)]; exact hB i hi
    obtain ⟨-, m1, m2, m3⟩ := hB k (by omega)
    obtain ⟨s', r1, r2, r3, r4, r5⟩ := ih (k + 1) m (by omega) (by omega) (d_si s 65 (x + 7 + k) (((so k * 101 + me k) * 10 + st k : Nat) : Int)) (fun i hi => by
      rw [d_si_i]
      by_cases q : i = k
      · subst q; rw [d_u_t]
      · rw [d_u_n (by omega)]; exact h1 i (by omega)) (fun i hi => by
      rw [d_si_i, d_u_n (by omega)]; exact h2 i (by omega))
    refine ⟨s', ?_, r2, r3, fun a ha => (r4 a ha).trans (d_si_n ha), r5⟩
    show F_X12_keep_l103_b K (F_X12_keep_l103 K m) _ _ s = _
    unfold F_X12_keep_l103_b
    rw [if_pos (by omega), P_get2 hBs (by omega), d_b_t, P_get1 hBs (by omega), d_b_t, P_get0 hBs (by omega), d_b_t, d_w_id (by omega) (by omega), d_g_t (by omega), d_l_t, show ((x : Int) + 7 + (k : Int)).toNat = x + 7 + k by omega, d_w_id (by omega) (by omega), d_w_id (by omega) (by omega)]
    exact r1
theorem P_keepR {c : Nat} (hc : s.1 65 3 = c) (h30 : c ≤ 30) (hB : v_B (s.1 65) st me so) : ∃ s', F_X12_keep s = some s' ∧ s'.1 65 3 = ((min 30 (c + 1) : Nat) : Int) ∧ (∀ j, j ≠ 3 → j < 387 → s'.1 65 j = s.1 65 j) ∧ (∀ k, k < 7 → s'.1 65 (387 + 71 * min 29 c + k) = s.1 65 (9 + k)) ∧ (∀ b, b < 64 → s'.1 65 (387 + 71 * min 29 c + 7 + b) = (((so b * 101 + me b) * 10 + st b : Nat) : Int)) ∧ (∀ i, i < min 29 c → ∀ k, k < 71 → s'.1 65 (387 + 71 * i + k) = s.1 65 (387 + 71 * (if c = 30 then i + 1 else i) + k)) ∧ (∀ a, a ≠ 65 → s'.1 a = s.1 a) ∧ s'.2 = s.2 := by
  
  have hend : ∀ (r : Nat), r ≤ 29 → ∀ s1 : d_S, s1.1 65 3 = r → v_B (s1.1 65) st me so → ∃ s', F_X12_keep_j56 s1 = some s' ∧ s'.1 65 3 = ((r + 1 : Nat) : Int) ∧ (∀ j, j ≠ 3 → (j < 387 + 71 * r ∨ 387 + 71 * r + 71 ≤ j) → s'.1 65 j = s1.1 65 j) ∧ (∀ k, k < 7 → s'.1 65 (387 + 71 * r + k) = s1.1 65 (9 + k)) ∧ (∀ b, b < 64 → s'.1 65 (387 + 71 * r + 7 + b) = (((so b * 101 + me b) * 10 + st b : Nat) : Int)) ∧ (∀ a, a ≠ 65 → s'.1 a = s1.1 a) ∧ s'.2 = s1.2 := by
    intro r hr s1 h3 hB1
    obtain ⟨s2, a1, a2, a3, a4, a5⟩ := v_k72 (K := fun x1_u10 s_u10 => F_X12_keep_l103 (fun s_u16 => d_l (d_si s_u16 65 (3) (d_w ((s_u16.1 65 3) + 1))) (fun s17 => some s17)) d_N x1_u10 0 s_u10) (A := s1.1 65) (x := 387 + 71 * r) (by omega) 7 0 d_N rfl (by rw [d_N_is]; decide) s1 (fun i hi => absurd hi (Nat.not_lt_zero i)) (fun _ _ => rfl)
    obtain ⟨s3, b1, b2, b3, b4, b5⟩ := v_k103 (K := fun s_u16 => d_l (d_si s_u16 65 (3) (d_w ((s_u16.1 65 3) + 1))) (fun s17 => some s17)) (A := s2.1 65) (x := 387 + 71 * r) (by omega) (show v_B (s2.1 65) st me so from fun i hi => by rw [a3 _ (by omega), a3 _ (by omega), a3 _ (by omega)]; exact hB1 i hi) 64 0 d_N rfl (by rw [d_N_is]; decide) s2 (fun i hi => absurd hi (Nat.not_lt_zero i)) (fun _ _ => rfl)
    have h33 : s3.1 65 3 = r := by rw [b3 3 (by omega), a3 3 (by omega)]; exact h3
    have hgo : F_X12_keep_j56 s1 = some (d_si s3 65 3 ((r + 1 : Nat) : Int)) := by
      unfold F_X12_keep_j56
      rw [h3, d_w_id (by omega) (by omega), d_l_t, show ((387 : Int) + 71 * (r : Int)) = ((387 + 71 * r : Nat) : Int) by omega]
      refine a1.trans ?_
      refine b1.trans ?_
      show d_l (d_si s3 65 3 (d_w (s3.1 65 3 + 1))) _ = _
      rw [h33, d_w_id (by omega) (by omega), d_l_t]
      rfl
    refine ⟨_, hgo, by rw [d_si_i, d_u_t], fun j h1 h2 => ?_, fun k hk => ?_, fun b hb => ?_, fun a ha => ?_, ?_⟩
    · rw [d_si_i, d_u_n h1, b3 j (by omega), a3 j (by omega)]
    · rw [d_si_i, d_u_n (by omega), b3 _ (by omega), a2 k hk]
    · rw [d_si_i, d_u_n (by omega), b2 b hb]
    · rw [d_si_n ha, b4 a ha, a4 a ha]
    · rw [d_si_2, b5, a5]
  unfold F_X12_keep
  by_cases q : c = 30
  · subst q
    rw [hc, if_pos (by decide)]
    obtain ⟨s1, a1, a2, a3, a4, a5⟩ := v_k13 (K := fun s_u4 => d_l (d_si s_u4 65 (3) (d_w ((s_u4.1 65 3) - 1))) (fun s5 => F_X12_keep_j56 s5)) (A := s.1 65) 2059 0 d_N rfl (by rw [d_N_is]; decide) s (fun i hi => absurd hi (Nat.not_lt_zero i)) (fun _ _ => rfl)
    have h13 : s1.1 65 3 = ((30 : Nat) : Int) := by rw [a3 3 (by omega)]; exact hc
    obtain ⟨s', b1, b2, b3, b4, b5, b6, b7⟩ := hend 29 (by decide) (d_si s1 65 3 ((29 : Nat) : Int)) (by rw [d_si_i, d_u_t]) (fun i hi => by
      rw [d_si_i, d_u_n (by omega), d_u_n (by omega), d_u_n (by omega), a3 _ (by omega), a3 _ (by omega), a3 _ (by omega)]; exact hB i hi)
    refine ⟨s', ?_, b2, fun j h1 h2 => ?_, fun k hk => ?_, b5, fun i hi k hk => ?_, fun a ha => ?_, ?_⟩
    · refine a1.trans ?_
      show d_l (d_si s1 65 3 (d_w (s1.1 65 3 - 1))) _ = _
      rw [h13, d_w_id (by omega) (by omega), d_l_t]
      exact b1
    · rw [b3 j h1 (by omega), d_si_i, d_u_n h1, a3 j (by omega)]
    · rw [show 387 + 71 * min 29 30 + k = 387 + 71 * 29 + k from rfl, b4 k hk, d_si_i, d_u_n (by omega), a3 _ (by omega)]
    · have hi : i < 29 := hi
      rw [if_pos rfl, b3 _ (by omega) (by omega), d_si_i, d_u_n (by omega), show 387 + 71 * i + k = 387 + (71 * i + k) by omega, a2 (71 * i + k) (by omega)]
      exact congrArg (s.1 65) (by omega)
    · rw [b6 a ha, d_si_n ha, a4 a ha]
    · rw [b7, d_si_2, a5]
  · rw [hc, if_neg (by omega)]
    have hm : min 29 c = c := by omega
    obtain ⟨s', b1, b2, b3, b4, b5, b6, b7⟩ := hend c (by omega) s hc hB
    rw [hm]
    refine ⟨s', b1, by rw [b2]; omega, fun j h1 h2 => b3 j h1 (by omega), b4, b5, fun i hi k hk => ?_, b6, b7⟩
    rw [if_neg q, b3 _ (by omega) (by omega)]
end V12R

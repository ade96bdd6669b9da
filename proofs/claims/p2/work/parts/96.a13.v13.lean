def v_mu (i : Nat) : Nat := [5, 6, 3, 0, 1, 2, 4].getD i 0
def v_yb (f : Nat → Int) (W H : Nat) : Prop := (0 ≤ f 0 ∧ f 0 ≤ 999) ∧ (0 ≤ f 1 ∧ f 1 ≤ 9) ∧ (0 ≤ f 3 ∧ f 3 ≤ 99) ∧ (0 ≤ f 4 ∧ f 4 < 30293) ∧ ∃ u v : Nat, f 5 = u ∧ f 6 = v ∧ u < 128 ∧ v < 128 ∧ u < 2 ^ (W - 1) ∧ v < 2 ^ (H - 1)
def v_bb (st me so : Nat → Nat) : Prop := ∀ b, b < 64 → st b ≤ 9 ∧ me b ≤ 100 ∧ so b ≤ 1
def v_pk (st me so : Nat → Nat) (b : Nat) : Nat := st b + 16 * me b + 2048 * so b
def v_pr (st me so : Nat → Nat) (b : Nat) : Nat := (so b * 101 + me b) * 10 + st b
def v_St (R : Nat → Int) (p : Nat) (A : Nat → Int) (j W H : Nat) : Prop := (∀ i, i < 7 → R (71 * p + i) = A (387 + 71 * j + v_mu i)) ∧ v_yb (fun k => A (387 + 71 * j + k)) W H ∧ ∃ st me so, v_bb st me so ∧ ∀ b, b < 64 → R (71 * p + 7 + b) = ((v_pk st me so b : Nat) : Int) ∧ A (387 + 71 * j + 7 + b) = ((v_pr st me so b : Nat) : Int)
def v_Sx (R : Nat → Int) (n c : Nat) (A : Nat → Int) (W H : Nat) : Prop := c ≤ 30 ∧ n < 30 ∧ A 3 = c ∧ ∀ j, j < c → v_St R ((n + 30 - c + j) % 30) A j W H
theorem v_mu7 : ∀ i, i < 7 → v_mu i < 7 := by decide
section V13
variable {R R' A A' Y M : Nat → Int} {n c p j i W H : Nat} {st me so : Nat → Nat} {s : d_S}
theorem v_St.fr (h : v_St R p A j W H) {q i : Nat} (hR : ∀ k, k < 71 → R' (71 * q + k) = R (71 * p + k)) (hA : ∀ k, k < 71 → A' (387 + 71 * i + k) = A (387 + 71 * j + k)) : v_St R' q A' i W H := by
  obtain ⟨h1, h2, st, me, so, h3, h4⟩ := h
  refine ⟨fun i hi => ?_, ?_, st, me, so, h3, fun b hb => ⟨?_, ?_⟩⟩
  · rw [hR i (by omega), hA (v_mu i) (by have := v_mu7 i hi; omega)]; exact h1 i hi
  · obtain ⟨a0, a1, a3, a4, u, v, a5, a6, a7⟩ := h2
    refine ⟨?_, ?_, ?_, ?_, u, v, ?_, ?_, a7⟩
    · show 0 ≤ A' (387 + 71 * i + 0) ∧ A' (387 + 71 * i + 0) ≤ 999; rw [hA 0 (by decide)]; exact a0
    · show 0 ≤ A' (387 + 71 * i + 1) ∧ A' (387 + 71 * i + 1) ≤ 9; rw [hA 1 (by decide)]; exact a1
    · show 0 ≤ A' (387 + 71 * i + 3) ∧ A' (387 + 71 * i + 3) ≤ 99; rw [hA 3 (by decide)]; exact a3
    · show 0 ≤ A' (387 + 71 * i + 4) ∧ A' (387 + 71 * i + 4) < 30293; rw [hA 4 (by decide)]; exact a4
    · show A' (387 + 71 * i + 5) = _; rw [hA 5 (by decide)]; exact a5
    · show A' (387 + 71 * i + 6) = _; rw [hA 6 (by decide)]; exact a6
  · rw [show 71 * q + 7 + b = 71 * q + (7 + b) by omega, hR (7 + b) (by omega), ← Nat.add_assoc]; exact (h4 b hb).1
  · rw [show 387 + 71 * i + 7 + b = 387 + 71 * i + (7 + b) by omega, hA (7 + b) (by omega), ← Nat.add_assoc]; exact (h4 b hb).2
theorem v_Sx.fr (h : v_Sx R n c A W H) (h3 : A' 3 = A 3) (hA : ∀ k, 387 ≤ k → k < 2517 → A' k = A k) : v_Sx R n c A' W H := by
  obtain ⟨a, b, d, e⟩ := h
  exact ⟨a, b, h3.trans d, fun j hj => (e j hj).fr (fun _ _ => rfl) (fun k hk => hA _ (by omega) (by omega))⟩
theorem v_Sx.keep (hS : v_Sx R n c A W H) (r1 : ∀ i, i < 7 → R' (71 * n + i) = Y i) (r2 : ∀ b, b < 64 → R' (71 * n + 7 + b) = M b) (r3 : ∀ j, j < 71 * n ∨ 71 * n + 71 ≤ j → R' j = R j) (a3 : A' 3 = ((min 30 (c + 1) : Nat) : Int)) (a4 : ∀ k, k < 7 → A' (387 + 71 * min 29 c + k) = A (9 + k)) (a5 : ∀ b, b < 64 → A' (387 + 71 * min 29 c + 7 + b) = ((v_pr st me so b : Nat) : Int)) (a6 : ∀ i, i < min 29 c → ∀ k, k < 71 → A' (387 + 71 * i + k) = A (387 + 71 * (if c = 30 then i + 1 else i) + k)) (hY : ∀ i, i < 7 → Y i = A (9 + v_mu i)) (hb : v_yb (fun k => A (9 + k)) W H) (hM : ∀ b, b < 64 → M b = ((v_pk st me so b : Nat) : Int)) (hbb : v_bb st me so) : v_Sx R' ((n + 1) % 30) (min 30 (c + 1)) A' W H := by
  obtain ⟨hc, hn, -, hj⟩ := hS
  refine ⟨by omega, by omega, a3, fun j hjc => ?_⟩
  by_cases q : j = min 29 c
  · have hp : ((n + 1) % 30 + 30 - min 30 (c + 1) + j) % 30 = n := by omega
    rw [hp, q]
    refine ⟨fun i hi => ?_, ?_, st, me, so, hbb, fun b hb => ⟨?_, a5 b hb⟩⟩
    · rw [r1 i hi, hY i hi, a4 _ (v_mu7 i hi)]
    · obtain ⟨b0, b1, b3, b4, u, v, b5, b6, b7⟩ := hb
      refine ⟨?_, ?_, ?_, ?_, u, v, ?_, ?_, b7⟩
      · show 0 ≤ A' (387 + 71 * min 29 c + 0) ∧ A' (387 + 71 * min 29 c + 0) ≤ 999; rw [a4 0 (by decide)]; exact b0
      · show 0 ≤ A' (387 + 71 * min 29 c + 1) ∧ A' (387 + 71 * min 29 c + 1) ≤ 9; rw [a4 1 (by decide)]; exact b1
      · show 0 ≤ A' (387 + 71 * min 29 c + 3) ∧ A' (387 + 71 * min 29 c + 3) ≤ 99; rw [a4 3 (by decide)]; exact b3
      · show 0 ≤ A' (387 + 71 * min 29 c + 4) ∧ A' (387 + 71 * min 29 c + 4) < 30293; rw [a4 4 (by decide)]; exact b4
      · show A' (387 + 71 * min 29 c + 5) = _; rw [a4 5 (by decide)]; exact b5
      · show A' (387 + 71 * min 29 c + 6) = _; rw [a4 6 (by decide)]; exact b6
    · rw [r2 b hb]; exact hM b hb
  · have hjm : j < min 29 c := by omega
    have hrow := a6 j hjm
    by_cases h30 : c = 30
    · have hp : ((n + 1) % 30 + 30 - min 30 (c + 1) + j) % 30 = (n + 30 - c + (j + 1)) % 30 := by omega
      have hne : (n + 30 - c + (j + 1)) % 30 ≠ n := by omega
      rw [hp]
      refine (hj (j + 1) (by omega)).fr (fun k hk => r3 _ ?_) (fun k hk => ?_)
      · generalize (n + 30 - c + (j + 1)) % 30 = p at hne ⊢
        rcases Nat.lt_or_gt_of_ne hne with z | z
        · left; omega
        · right; omega
      · rw [hrow k hk, if_pos h30]
    · have hp : ((n + 1) % 30 + 30 - min 30 (c + 1) + j) % 30 = (n + 30 - c + j) % 30 := by omega
      have hne : (n + 30 - c + j) % 30 ≠ n := by omega
      rw [hp]
      refine (hj j (by omega)).fr (fun k hk => r3 _ ?_) (fun k hk => ?_)
      · generalize (n + 30 - c + j) % 30 = p at hne ⊢
        rcases Nat.lt_or_gt_of_ne hne with z | z
        · left; omega
        · right; omega
      · rw [hrow k hk, if_neg h30]
theorem v_Sx.drop (hS : v_Sx R n c A W H) (h1 : 1 ≤ c) (a3 : A' 3 = ((c - 1 : Nat) : Int)) (hA : ∀ k, 387 ≤ k → k < 2517 → A' k = A k) : v_Sx R ((n + 29) % 30) (c - 1) A' W H ∧ v_St R ((n + 29) % 30) A (c - 1) W H := by
  obtain ⟨hc, hn, -, hj⟩ := hS
  refine ⟨⟨by omega, by omega, a3, fun j hjc => ?_⟩, ?_⟩
  · have hp : ((n + 29) % 30 + 30 - (c - 1) + j) % 30 = (n + 30 - c + j) % 30 := by omega
    rw [hp]
    exact (hj j (by omega)).fr (fun _ _ => rfl) (fun k hk => hA _ (by omega) (by omega))
  · have := hj (c - 1) (by omega)
    rw [show (n + 30 - c + (c - 1)) % 30 = (n + 29) % 30 by omega] at this
    exact this
theorem P_readFrom {p : Nat} (hp : p + 71 ≤ 2130) : ∃ s', F_X10_readFrom_6_9 s (p : Int) = some s' ∧ (∀ i, i < 7 → s'.1 6 i = s.1 9 (p + i)) ∧ (∀ i, 7 ≤ i → s'.1 6 i = s.1 6 i) ∧ (∀ b, b < 64 → s'.1 7 b = s.1 9 (p + 7 + b)) ∧ (∀ a, a ≠ 6 → a ≠ 7 → s'.1 a = s.1 a) ∧ s'.2 = s.2 := by
  have w : ∀ k : Nat, k < 10 → d_w ((p : Int) + (k : Int)) = ((p + k : Nat) : Int) := fun k hk => by rw [d_w_id (by omega) (by omega)]; rfl
  have w71 : d_w ((p : Int) + 71) = ((p + 71 : Nat) : Int) := by rw [d_w_id (by omega) (by omega)]; rfl
  have w1 : d_w ((p : Int) + 1) = ((p + 1 : Nat) : Int) := w 1 (by decide)
  have w2 : d_w ((p : Int) + 2) = ((p + 2 : Nat) : Int) := w 2 (by decide)
  have w3 : d_w ((p : Int) + 3) = ((p + 3 : Nat) : Int) := w 3 (by decide)
  have w4 : d_w ((p : Int) + 4) = ((p + 4 : Nat) : Int) := w 4 (by decide)
  have w5 : d_w ((p : Int) + 5) = ((p + 5 : Nat) : Int) := w 5 (by decide)
  have w6 : d_w ((p : Int) + 6) = ((p + 6 : Nat) : Int) := w 6 (by decide)
  have w7 : d_w ((p : Int) + 7) = ((p + 7 : Nat) : Int) := w 7 (by decide)
  obtain ⟨z, hz⟩ : ∃ z, z = d_si (d_si (d_si (d_si (d_si (d_si (d_si s 6 0 (s.1 9 p)) 6 1 (s.1 9 (p + 1))) 6 2 (s.1 9 (p + 2))) 6 3 (s.1 9 (p + 3))) 6 4 (s.1 9 (p + 4))) 6 5 (s.1 9 (p + 5))) 6 6 (s.1 9 (p + 6)) := ⟨_, rfl⟩
  have hgo : F_X10_readFrom_6_9 s (p : Int) = some (d_cp z 9 (p + 7) 7 0 64) := by
    unfold F_X10_readFrom_6_9
    rw [if_neg (by omega), w71, if_neg (by omega), d_g_t (by omega), d_l_t, Int.toNat_natCast]
    simp (disch := omega) only [w1, w2, w3, w4, w5, w6, w7, d_g_t, d_l_t, Int.toNat_natCast]
    rw [hz]
    simp (disch := decide) only [d_si_n]
  have zo : ∀ a, a ≠ 6 → z.1 a = s.1 a := fun a h => by rw [hz, d_si_n h, d_si_n h, d_si_n h, d_si_n h, d_si_n h, d_si_n h, d_si_n h]
  have z6 : ∀ j, z.1 6 j = d_u (d_u (d_u (d_u (d_u (d_u (d_u (s.1 6) 0 (s.1 9 p)) 1 (s.1 9 (p + 1))) 2 (s.1 9 (p + 2))) 3 (s.1 9 (p + 3))) 4 (s.1 9 (p + 4))) 5 (s.1 9 (p + 5))) 6 (s.1 9 (p + 6)) j := fun j => by rw [hz, d_si_i, d_si_i, d_si_i, d_si_i, d_si_i, d_si_i, d_si_i]
  refine ⟨_, hgo, fun i hi => ?_, fun i hi => ?_, fun b hb => ?_, fun a h1 h2 => ?_, ?_⟩
  · rw [d_cp_n (by decide), z6]
    have : i = 0 ∨ i = 1 ∨ i = 2 ∨ i = 3 ∨ i = 4 ∨ i = 5 ∨ i = 6 := by omega
    rcases this with rfl | rfl | rfl | rfl | rfl | rfl | rfl <;> rfl
  · rw [d_cp_n (by decide), z6, d_u_n (by omega), d_u_n (by omega), d_u_n (by omega), d_u_n (by omega), d_u_n (by omega), d_u_n (by omega), d_u_n (by omega)]
  · rw [d_cp_i, if_pos (by omega), show p + 7 + b - 0 = p + 7 + b by omega, zo 9 (by decide)]
  · rw [d_cp_n h2, zo a h1]
  · rw [show (d_cp z 9 (p + 7) 7 0 64).2 = z.2 from rfl, hz]; rfl
theorem P_takeBack (hn : s.1 8 1 = n) (hc : s.1 8 2 = c) (h30 : n < 30) (h1 : 1 ≤ c) (hc30 : c ≤ 30) : ∃ s', F_X6_takeBack_8_6 s = some (1, s') ∧ s'.1 8 1 = (((n + 29) % 30 : Nat) : Int) ∧ s'.1 8 2 = ((c - 1 : Nat) : Int) ∧ (∀ i, i < 7 → s'.1 6 i = s.1 9 (71 * ((n + 29) % 30) + i)) ∧ (∀ b, b < 64 → s'.1 7 b = s.1 9 (71 * ((n + 29) % 30) + 7 + b)) ∧ (∀ a, a ≠ 6 → a ≠ 7 → a ≠ 8 → s'.1 a = s.1 a) ∧ s'.2 = s.2 := by
  obtain ⟨z, hz⟩ : ∃ z, z = d_si (d_si s 8 1 (((n + 29) % 30 : Nat) : Int)) 8 2 ((c - 1 : Nat) : Int) := ⟨_, rfl⟩
  have z8 : ∀ j, z.1 8 j = d_u (d_u (s.1 8) 1 (((n + 29) % 30 : Nat) : Int)) 2 ((c - 1 : Nat) : Int) j := fun j => by rw [hz, d_si_i, d_si_i]
  have zo : ∀ a, a ≠ 8 → z.1 a = s.1 a := fun a h => by rw [hz, d_si_n h, d_si_n h]
  obtain ⟨s', g1, g2, -, g3, g4, g5⟩ := P_readFrom (s := z) (p := 71 * ((n + 29) % 30)) (by omega)
  have hgo : F_X6_takeBack_8_6 s = some (1, s') := by
    unfold F_X6_takeBack_8_6
    rw [hc, if_neg (by omega), hn, v_remI (by omega) (by omega) (by decide) (by decide), show ((n : Int) + 30 - 1) % 30 = (((n + 29) % 30 : Nat) : Int) by omega, d_l_t, d_si_i, d_u_n (by decide), hc, d_w_id (by omega) (by omega), show ((c : Int) - 1) = ((c - 1 : Nat) : Int) by omega, d_l_t, ← hz, z8]
    show d_b (F_X10_readFrom_6_9 z (d_w ((((n + 29) % 30 : Nat) : Int) * 71))) _ = _
    rw [d_w_id (by omega) (by omega), show ((((n + 29) % 30 : Nat) : Int) * 71) = ((71 * ((n + 29) % 30) : Nat) : Int) by omega, g1, d_b_t]
  refine ⟨s', hgo, ?_, ?_, fun i hi => ?_, fun b hb => ?_, fun a h1 h2 h3 => ?_, ?_⟩
  · rw [g4 8 (by decide) (by decide), z8]; rfl
  · rw [g4 8 (by decide) (by decide), z8]; rfl
  · rw [g2 i hi, zo 9 (by decide)]
  · rw [g3 b hb, zo 9 (by decide)]
  · rw [g4 a h1 h2, zo a h3]
  · rw [g5, hz]; rfl
theorem v_u37 {K : Int → d_S → Option (Int × d_S)} {A : Nat → Int} {x : Nat} (hx : 387 ≤ x ∧ x + 71 ≤ 2517) : ∀ (j k m : Nat), k + j = 7 → j < m → ∀ s : d_S, (∀ i, i < k → s.1 65 (9 + i) = A (x + i)) → (∀ i, i < 9 ∨ 9 + k ≤ i → s.1 65 i = A i) → ∃ s', F_X12_undo_l37 K m (x : Int) (k : Int) s = K (x : Int) s' ∧ (∀ i, i < 7 → s'.1 65 (9 + i) = A (x + i)) ∧ (∀ i, i < 9 ∨ 16 ≤ i → s'.1 65 i = A i) ∧ (∀ a, a ≠ 65 → s'.1 a = s.1 a) ∧ s'.2 = s.2 := by
  intro j
  induction j with
  | zero =>
    intro k m hk hm s h1 h2
    obtain ⟨m, rfl⟩ : ∃ q, m = q + 1 := ⟨m - 1, by omega⟩
    have hk : k = 7 := by omega
    subst hk
    refine ⟨s, ?_, h1, h2, fun _ _ => rfl, rfl⟩
    show F_X12_undo_l37_b K (F_X12_undo_l37 K m) _ _ s = _
    unfold F_X12_undo_l37_b
    rw [if_neg (by omega)]
  | succ j ih =>
    intro k m hk hm s h1 h2
    obtain ⟨m, rfl⟩ : ∃ q, m = q + 1 := ⟨m - 1, by omega⟩
    obtain ⟨s', r1, r2, r3, r4, r5⟩ := ih (k + 1) m (by omega) (by omega) (d_si s 65 (9 + k) (A (x + k))) (fun i hi => by
      rw [d_si_i]
      by_cases q : i = k
      · subst q; rw [d_u_t]
      · rw [d_u_n (by omega)]; exact h1 i (by omega)) (fun i hi => by
      rw [d_si_i, d_u_n (by omega)]; exact h2 i (by omega))
    refine ⟨s', ?_, r2, r3, fun a ha => (r4 a ha).trans (d_si_n ha), r5⟩
    show F_X12_undo_l37_b K (F_X12_undo_l37 K m) _ _ s = _
    unfold F_X12_undo_l37_b
    rw [if_pos (by omega), d_w_id (by omega) (by omega), d_w_id (by omega) (by omega), d_g_t (by omega), d_g_t (by omega), d_l_t, show ((x : Int) + (k : Int)).toNat = x + k by omega, show ((9 : Int) + (k : Int)).toNat = 9 + k by omega, h2 (x + k) (by omega), d_w_id (by omega) (by omega)]
    exact r1
theorem v_prd {a b c : Nat} (ha : a ≤ 9) (hb : b ≤ 100) : ((c * 101 + b) * 10 + a) % 10 = a ∧ ((c * 101 + b) * 10 + a) / 10 % 101 = b ∧ ((c * 101 + b) * 10 + a) / 1010 = c := by omega
theorem v_u68 {K : d_S → Option (Int × d_S)} {A : Nat → Int} {x : Nat} (hx : 387 ≤ x ∧ x + 71 ≤ 2517) (hbb : v_bb st me so) (hA : ∀ b, b < 64 → A (x + 7 + b) = ((v_pr st me so b : Nat) : Int)) : ∀ (j k m : Nat), k + j = 64 → j < m → ∀ s : d_S, (∀ i, i < k → s.1 65 (20 + 3 * i) = st i ∧ s.1 65 (21 + 3 * i) = me i ∧ s.1 65 (22 + 3 * i) = so i) → (∀ i, i < 20 ∨ 20 + 3 * k ≤ i → s.1 65 i = A i) → ∃ s', F_X12_undo_l68 K m (x : Int) (k : Int) s = K s' ∧ (∀ i, i < 64 → s'.1 65 (20 + 3 * i) = st i ∧ s'.1 65 (21 + 3 * i) = me i ∧ s'.1 65 (22 + 3 * i) = so i) ∧ (∀ i, i < 20 ∨ 212 ≤ i → s'.1 65 i = A i) ∧ (∀ a, a ≠ 65 → s'.1 a = s.1 a) ∧ s'.2 = s.2 := by
  intro j
  induction j with
  | zero =>
    intro k m hk hm s h1 h2
    obtain ⟨m, rfl⟩ : ∃ q, m = q + 1 := ⟨m - 1, by omega⟩
    have hk : k = 64 := by omega
    subst hk
    refine ⟨s, ?_, h1, h2, fun _ _ => rfl, rfl⟩
    show F_X12_undo_l68_b K (F_X12_undo_l68 K m) _ _ s = _
    unfold F_X12_undo_l68_b
    rw [if_neg (by omega)]
  | succ j ih =>
    intro k m hk hm s h1 h2
    obtain ⟨m, rfl⟩ : ∃ q, m = q + 1 := ⟨m - 1, by omega⟩
    obtain ⟨m1, m2, m3⟩ := hbb k (by omega)
    obtain ⟨p1, p2, p3⟩ := v_prd (c := so k) m1 m2
    obtain ⟨z, hz⟩ : ∃ z, z = d_si (d_si (d_si s 65 (20 + 3 * k) (st k : Int)) 65 (21 + 3 * k) (me k : Int)) 65 (22 + 3 * k) (so k : Int) := ⟨_, rfl⟩
    have z65 : ∀ i, z.1 65 i = d_u (d_u (d_u (s.1 65) (20 + 3 * k) (st k : Int)) (21 + 3 * k) (me k : Int)) (22 + 3 * k) (so k : Int) i := fun i => by rw [hz, d_si_i, d_si_i, d_si_i]
    obtain ⟨s', r1, r2, r3, r4, r5⟩ := ih (k + 1) m (by omega) (by omega) z (fun i hi => by
      by_cases q : i = k
      · subst q
        refine ⟨?_, ?_, ?_⟩
        · rw [z65, d_u_n (by omega), d_u_n (by omega), d_u_t]
        · rw [z65, d_u_n (by omega), d_u_t]
        · rw [z65, d_u_t]
      · obtain ⟨g1, g2, g3⟩ := h1 i (by omega)
        refine ⟨?_, ?_, ?_⟩
        · rw [z65, d_u_n (by omega), d_u_n (by omega), d_u_n (by omega)]; exact g1
        · rw [z65, d_u_n (by omega), d_u_n (by omega), d_u_n (by omega)]; exact g2
        · rw [z65, d_u_n (by omega), d_u_n (by omega), d_u_n (by omega)]; exact g3) (fun i hi => by
      rw [z65, d_u_n (by omega), d_u_n (by omega), d_u_n (by omega)]; exact h2 i (by omega))
    refine ⟨s', ?_, r2, r3, fun a ha => (r4 a ha).trans (by rw [hz, d_si_n ha, d_si_n ha, d_si_n ha]), r5.trans (by rw [hz]; rfl)⟩
    show F_X12_undo_l68_b K (F_X12_undo_l68 K m) _ _ s = _
    unfold F_X12_undo_l68_b
    have hv : s.1 65 (x + 7 + k) = (((so k * 101 + me k) * 10 + st k : Nat) : Int) := (h2 _ (by omega)).trans (hA k (by omega))
    rw [if_pos (by omega), d_w_id (by omega) (by omega), d_g_t (by omega), show ((x : Int) + 7 + (k : Int)).toNat = x + 7 + k by omega, hv, d_l_t, v_remI (by omega) (by omega) (by decide) (by decide), v_divI (by omega) (by omega) (by decide) (by decide), v_divI (by omega) (by omega) (by decide) (by decide), v_remI (by omega) (by omega) (by decide) (by decide), show ((((so k * 101 + me k) * 10 + st k : Nat) : Int)) % 10 = (st k : Int) by omega, show ((((so k * 101 + me k) * 10 + st k : Nat) : Int)) / 10 % 101 = (me k : Int) by omega, show ((((so k * 101 + me k) * 10 + st k : Nat) : Int)) / 1010 = (so k : Int) by omega, P_set0 (by omega), d_b_t, P_set1 (by omega), d_b_t, P_set2 (by omega), d_b_t, ← hz, d_w_id (by omega) (by omega)]
    exact r1
theorem P_undoR (hc : s.1 65 3 = c) (h1 : 1 ≤ c) (hc30 : c ≤ 30) (hbb : v_bb st me so) (hA : ∀ b, b < 64 → s.1 65 (387 + 71 * (c - 1) + 7 + b) = ((v_pr st me so b : Nat) : Int)) : ∃ s', F_X12_undo s = some (((c - 1 : Nat) : Int), s') ∧ s'.1 65 3 = ((c - 1 : Nat) : Int) ∧ (∀ i, i < 7 → s'.1 65 (9 + i) = s.1 65 (387 + 71 * (c - 1) + i)) ∧ v_B (s'.1 65) st me so ∧ (∀ i, i ≠ 3 → (i < 9 ∨ 16 ≤ i ∧ i < 20 ∨ 212 ≤ i) → s'.1 65 i = s.1 65 i) ∧ (∀ a, a ≠ 65 → s'.1 a = s.1 a) ∧ s'.2 = s.2 := by
  obtain ⟨z, hz⟩ : ∃ z, z = d_si s 65 3 ((c - 1 : Nat) : Int) := ⟨_, rfl⟩
  have z65 : ∀ i, z.1 65 i = d_u (s.1 65) 3 ((c - 1 : Nat) : Int) i := fun i => by rw [hz, d_si_i]
  obtain ⟨s1, a1, a2, a3, a4, a5⟩ := v_u37 (K := fun x1_u6 s_u6 => F_X12_undo_l68 (fun s_u12 => some ((s_u12.1 65 3), s_u12)) d_N x1_u6 0 s_u6) (A := z.1 65) (x := 387 + 71 * (c - 1)) (by omega) 7 0 d_N rfl (by rw [d_N_is]; decide) z (fun i hi => absurd hi (Nat.not_lt_zero i)) (fun _ _ => rfl)
  obtain ⟨s2, b1, b2, b3, b4, b5⟩ := v_u68 (K := fun s_u12 => some ((s_u12.1 65 3), s_u12)) (A := s1.1 65) (x := 387 + 71 * (c - 1)) (by omega) hbb (fun b hb => by rw [a3 _ (by omega), z65, d_u_n (by omega)]; exact hA b hb) 64 0 d_N rfl (by rw [d_N_is]; decide) s1 (fun i hi => absurd hi (Nat.not_lt_zero i)) (fun _ _ => rfl)
  have h3 : s2.1 65 3 = ((c - 1 : Nat) : Int) := by rw [b3 3 (by decide), a3 3 (by decide), z65, d_u_t]
  refine ⟨s2, ?_, h3, fun i hi => ?_, fun b hb => ⟨b2 b hb, hbb b hb⟩, fun i hi hi2 => ?_, fun a ha => ?_, ?_⟩
  · unfold F_X12_undo
    rw [hc, if_neg (by omega), d_w_id (by omega) (by omega), show ((c : Int) - 1) = ((c - 1 : Nat) : Int) by omega, d_l_t, ← hz, z65, d_u_t, d_w_id (by omega) (by omega), d_l_t, show ((387 : Int) + 71 * ((c - 1 : Nat) : Int)) = ((387 + 71 * (c - 1) : Nat) : Int) by omega]
    refine a1.trans ?_
    refine b1.trans ?_
    show some (s2.1 65 3, s2) = _
    rw [h3]
  · rw [b3 _ (by omega), a2 i hi, z65, d_u_n (by omega)]
  · rw [b3 i (by omega), a3 i (by omega), z65, d_u_n hi]
  · rw [b4 a ha, a4 a ha, hz, d_si_n ha]
  · rw [b5, a5, hz]; rfl
end V13

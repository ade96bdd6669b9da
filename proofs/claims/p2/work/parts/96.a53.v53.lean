def v_pl_ (p : Nat → Int) : Nat → Nat → Int
  | 0, _ => 0
  | l + 1, i => max (p i - v_pl_ p l (i + 1)) (p (i + l) - v_pl_ p l i)
section V53
variable {s : d_S} {t : Nat → Option p_C} {p : Nat → Int} {c : Nat}
theorem v_pl_b (hp : ∀ i, 0 ≤ p i ∧ p i ≤ 9999) : ∀ (l : Nat) (i : Nat), -(9999 * (l : Int)) ≤ v_pl_ p l i ∧ v_pl_ p l i ≤ 9999 * (l : Int) := by
  intro l
  induction l with
  | zero => intro i; show -(9999 * (0 : Int)) ≤ 0 ∧ (0 : Int) ≤ 9999 * 0; omega
  | succ l ih =>
    intro i
    have h1 := ih i
    have h2 := ih (i + 1)
    have h3 := hp i
    have h4 := hp (i + l)
    show -(9999 * ((l + 1 : Nat) : Int)) ≤ max (p i - v_pl_ p l (i + 1)) (p (i + l) - v_pl_ p l i) ∧ max (p i - v_pl_ p l (i + 1)) (p (i + l) - v_pl_ p l i) ≤ 9999 * ((l + 1 : Nat) : Int)
    omega
theorem v_p45 {K : Int → Int → Int → Int → Int → d_S → Option (Int × d_S)} (hp : ∀ i, 0 ≤ p i ∧ p i ≤ 9999) (hc : c ≤ 16) {l : Nat} (hl : 1 ≤ l) (hlc : l + 1 ≤ c) {x2 : Int} : ∀ (j i m : Nat), i + j = c - l → j < m → ∀ (s : d_S) (x3 x4 : Int), (∀ k, k < c → s.1 61 k = p k) → (∀ k, k < i → s.1 62 k = v_pl_ p (l + 1) k) → (∀ k, i ≤ k → k + l ≤ c → s.1 62 k = v_pl_ p l k) → (0 < i → l + 1 = c → x3 = p 0 - v_pl_ p l 1 ∧ x4 = p l - v_pl_ p l 0) → ∃ (y3 y4 : Int) (s' : d_S), F_X11_bestPlay_l45 K m (c : Int) x2 x3 x4 ((l + 1 : Nat) : Int) (i : Int) s = K (c : Int) x2 y3 y4 ((l + 1 : Nat) : Int) s' ∧ (∀ k, k < c → s'.1 61 k = p k) ∧ (∀ k, k + (l + 1) ≤ c → s'.1 62 k = v_pl_ p (l + 1) k) ∧ (l + 1 = c → y3 = p 0 - v_pl_ p l 1 ∧ y4 = p l - v_pl_ p l 0) ∧ (∀ a, a ≠ 62 → s'.1 a = s.1 a) ∧ s'.2 = s.2 := by
  intro j
  induction j with
  | zero =>
    intro i m hi hm s x3 x4 h61 hd hn hx
    obtain ⟨m, rfl⟩ : ∃ q, m = q + 1 := ⟨m - 1, by omega⟩
    refine ⟨x3, x4, s, ?_, h61, fun k hk => hd k (by omega), fun e => hx (by omega) e, fun _ _ => rfl, rfl⟩
    show F_X11_bestPlay_l45_b K (F_X11_bestPlay_l45 K m) _ _ _ _ _ _ s = _
    unfold F_X11_bestPlay_l45_b
    rw [d_w_id (x := (i : Int) + ((l + 1 : Nat) : Int)) (by omega) (by omega), if_pos (by omega)]
  | succ j ih =>
    intro i m hi hm s x3 x4 h61 hd hn hx
    obtain ⟨m, rfl⟩ : ∃ q, m = q + 1 := ⟨m - 1, by omega⟩
    have b1 := v_pl_b hp l (i + 1)
    have b2 := v_pl_b hp l i
    have b3 := hp i
    have b4 := hp (i + l)
    have w1 : d_w ((i : Int) + ((l + 1 : Nat) : Int)) = ((i + l + 1 : Nat) : Int) := by rw [d_w_id (by omega) (by omega)]; omega
    have w2 : d_w ((i : Int) + 1) = ((i + 1 : Nat) : Int) := by rw [d_w_id (by omega) (by omega)]; rfl
    have w3 : d_w ((i : Int) + ((l + 1 : Nat) : Int) - 1) = ((i + l : Nat) : Int) := by rw [d_w_id (by omega) (by omega)]; omega
    have e1 : d_w (p i - v_pl_ p l (i + 1)) = p i - v_pl_ p l (i + 1) := d_w_id (by omega) (by omega)
    have e2 : d_w (p (i + l) - v_pl_ p l i) = p (i + l) - v_pl_ p l i := d_w_id (by omega) (by omega)
    obtain ⟨s1, hs1⟩ : ∃ q, q = d_si s 62 i (max (p i - v_pl_ p l (i + 1)) (p (i + l) - v_pl_ p l i)) := ⟨_, rfl⟩
    have f62 : ∀ k, s1.1 62 k = d_u (s.1 62) i (max (p i - v_pl_ p l (i + 1)) (p (i + l) - v_pl_ p l i)) k := fun k => by rw [hs1, d_si_i]
    have fo : ∀ a, a ≠ 62 → s1.1 a = s.1 a := fun a ha => by rw [hs1, d_si_n ha]
    have k1 : ∀ k, k < c → s1.1 61 k = p k := fun k hk => by rw [fo 61 (by decide)]; exact h61 k hk
    have k2 : ∀ k, k < i + 1 → s1.1 62 k = v_pl_ p (l + 1) k := fun k hk => by
      rw [f62]
      by_cases z : k = i
      · rw [z, d_u_t]; rfl
      · rw [d_u_n z]; exact hd k (by omega)
    have k3 : ∀ k, i + 1 ≤ k → k + l ≤ c → s1.1 62 k = v_pl_ p l k := fun k h1 h2 => by
      rw [f62, d_u_n (by omega)]; exact hn k (by omega) h2
    show ∃ (y3 y4 : Int) (s' : d_S), F_X11_bestPlay_l45_b K (F_X11_bestPlay_l45 K m) _ _ _ _ _ _ s = _ ∧ _
    unfold F_X11_bestPlay_l45_b
    rw [w1, w2, w3, if_neg (by omega), if_neg (by omega)]
    simp only [Int.toNat_natCast]
    rw [d_g_t (by omega), d_g_t (by omega), h61 i (by omega), hn (i + 1) (by omega) (by omega), e1, d_l_t, d_g_t (by omega), d_g_t (by omega), h61 (i + l) (by omega), hn i (by omega) (by omega), e2, d_l_t, P_max, d_b_t, d_g_t (by omega), d_l_t, ← hs1]
    by_cases q : l + 1 = c
    · have hi0 : i = 0 := by omega
      subst hi0
      rw [if_pos (by omega)]
      obtain ⟨y3, y4, s', r1, r2, r3, r4, r5, r6⟩ := ih (0 + 1) m (by omega) (by omega) s1 (p 0 - v_pl_ p l (0 + 1)) (p (0 + l) - v_pl_ p l 0) k1 k2 k3 (fun _ _ => ⟨rfl, by rw [Nat.zero_add]⟩)
      exact ⟨y3, y4, s', r1, r2, r3, r4, fun a ha => (r5 a ha).trans (fo a ha), r6.trans (by rw [hs1]; rfl)⟩
    · rw [if_neg (by omega)]
      obtain ⟨y3, y4, s', r1, r2, r3, r4, r5, r6⟩ := ih (i + 1) m (by omega) (by omega) s1 x3 x4 k1 k2 k3 (fun _ e => absurd e q)
      exact ⟨y3, y4, s', r1, r2, r3, r4, fun a ha => (r5 a ha).trans (fo a ha), r6.trans (by rw [hs1]; rfl)⟩
theorem v_p36 {K : Int → Int → Int → d_S → Option (Int × d_S)} (hp : ∀ i, 0 ≤ p i ∧ p i ≤ 9999) (hc : c ≤ 16) (hc1 : 1 ≤ c) {x2 : Int} : ∀ (j l m : Nat), l + j = c → 1 ≤ l → j < m → ∀ (s : d_S) (x3 x4 : Int), (∀ k, k < c → s.1 61 k = p k) → (∀ k, k + l ≤ c → s.1 62 k = v_pl_ p l k) → ((l = c → 2 ≤ c → x3 = p 0 - v_pl_ p (c - 1) 1 ∧ x4 = p (c - 1) - v_pl_ p (c - 1) 0) ∧ (c = 1 → x3 = x4)) → ∃ (y3 y4 : Int) (s' : d_S), F_X11_bestPlay_l36 K m (c : Int) x2 x3 x4 ((l + 1 : Nat) : Int) s = K x2 y3 y4 s' ∧ s'.1 62 0 = v_pl_ p c 0 ∧ ((2 ≤ c → y3 = p 0 - v_pl_ p (c - 1) 1 ∧ y4 = p (c - 1) - v_pl_ p (c - 1) 0) ∧ (c = 1 → y3 = y4)) ∧ (∀ a, a ≠ 62 → s'.1 a = s.1 a) ∧ s'.2 = s.2 := by
  intro j
  induction j with
  | zero =>
    intro l m hl hl1 hm s x3 x4 h61 h62 hx
    obtain ⟨m, rfl⟩ : ∃ q, m = q + 1 := ⟨m - 1, by omega⟩
    have e : l = c := by omega
    subst e
    refine ⟨x3, x4, s, ?_, h62 0 (by omega), ⟨fun h => hx.1 rfl h, hx.2⟩, fun _ _ => rfl, rfl⟩
    show F_X11_bestPlay_l36_b K (F_X11_bestPlay_l36 K m) _ _ _ _ _ s = _
    unfold F_X11_bestPlay_l36_b
    rw [if_pos (by omega)]
  | succ j ih =>
    intro l m hl hl1 hm s x3 x4 h61 h62 hx
    obtain ⟨m, rfl⟩ : ∃ q, m = q + 1 := ⟨m - 1, by omega⟩
    obtain ⟨y3, y4, s1, r1, r2, r3, r4, r5, r6⟩ := v_p45 (K := fun x1_u11 x2_u11 x3_u11 x4_u11 x5_u11 s_u11 => F_X11_bestPlay_l36 K m x1_u11 x2_u11 x3_u11 x4_u11 (d_w (x5_u11 + 1)) s_u11) hp hc hl1 (by omega) (x2 := x2) (c - l) 0 d_N (by omega) (by rw [d_N_is]; omega) s x3 x4 h61 (fun k hk => absurd hk (Nat.not_lt_zero k)) (fun k _ hk => h62 k hk) (fun h => absurd h (by decide))
    obtain ⟨z3, z4, s', c1, c2, c3, c4, c5⟩ := ih (l + 1) m (by omega) (by omega) (by omega) s1 y3 y4 r2 r3 ⟨fun e h => by
      have := r4 e
      rw [show c - 1 = l by omega]; exact this, fun e => by omega⟩
    refine ⟨z3, z4, s', ?_, c2, c3, fun a ha => (c4 a ha).trans (r5 a ha), c5.trans r6⟩
    show F_X11_bestPlay_l36_b K (F_X11_bestPlay_l36 K m) _ _ _ _ _ s = _
    unfold F_X11_bestPlay_l36_b
    rw [if_neg (by omega)]
    refine (show F_X11_bestPlay_l45 _ d_N (c : Int) x2 x3 x4 ((l + 1 : Nat) : Int) 0 s = _ from r1).trans ?_
    show F_X11_bestPlay_l36 K m (c : Int) x2 y3 y4 (d_w (((l + 1 : Nat) : Int) + 1)) s1 = _
    rw [show d_w (((l + 1 : Nat) : Int) + 1) = ((l + 1 + 1 : Nat) : Int) by rw [d_w_id (by omega) (by omega)]; rfl]
    exact c1
theorem v_pl_1 (i : Nat) : v_pl_ p 1 i = p i := by
  show max (p i - 0) (p (i + 0) - 0) = p i
  rw [Nat.add_zero]; omega
theorem P_bestPlay (hp : ∀ i, 0 ≤ p i ∧ p i ≤ 9999) (hc : c ≤ 16) (hc1 : 1 ≤ c) (h61 : ∀ k, k < c → s.1 61 k = p k) {f : Int} (hf : f = 0 ∨ f = 1) : ∃ s', F_X11_bestPlay s (c : Int) f = some (if f = 0 then v_pl_ p c 0 else v_b (2 ≤ c ∧ p 0 - v_pl_ p (c - 1) 1 < p (c - 1) - v_pl_ p (c - 1) 0), s') ∧ (∀ a, a ≠ 62 → s'.1 a = s.1 a) ∧ s'.2 = s.2 := by
  obtain ⟨s1, hs1⟩ : ∃ q, q = d_cp s 61 0 62 0 16 := ⟨_, rfl⟩
  have f62 : ∀ k, k < 16 → s1.1 62 k = s.1 61 k := fun k hk => by rw [hs1, d_cp_i, if_pos (by omega), show 0 + k - 0 = k by omega]
  have fo : ∀ a, a ≠ 62 → s1.1 a = s.1 a := fun a ha => by rw [hs1, d_cp_n ha]
  have h2 : s1.2 = s.2 := by rw [hs1]; rfl
  obtain ⟨y3, y4, s', r1, r2, ⟨r3, r4⟩, r5, r6⟩ := v_p36 (K := fun x2_u12 x3_u12 x4_u12 s_u12 => if x2_u12 = 0 then some ((s_u12.1 62 0), s_u12) else if x3_u12 < x4_u12 then d_b (F_X11_bit 1) (fun v13 => some (v13, s_u12)) else d_b (F_X11_bit 0) (fun v14 => some (v14, s_u12))) hp hc hc1 (x2 := f) (c - 1) 1 d_N (by omega) (by omega) (by rw [d_N_is]; omega) s1 (s1.1 61 0) (s1.1 61 0) (fun k hk => by rw [fo 61 (by decide)]; exact h61 k hk) (fun k hk => by rw [f62 k (by omega), v_pl_1]; exact h61 k (by omega)) ⟨fun e h => by omega, fun _ => rfl⟩
  refine ⟨s', ?_, fun a ha => (r5 a ha).trans (fo a ha), r6.trans h2⟩
  unfold F_X11_bestPlay
  rw [d_l_t, ← hs1]
  refine (show F_X11_bestPlay_l36 _ d_N (c : Int) f (s1.1 61 0) (s1.1 61 0) 2 s1 = _ from r1).trans ?_
  show (if f = 0 then _ else _) = _
  rcases hf with e | e
  · rw [if_pos e, if_pos e, r2]
  · have e0 : ¬ f = 0 := by omega
    rw [if_neg e0, if_neg e0, v_bit1_, v_bit0_, d_b_t, d_b_t]
    by_cases q : 2 ≤ c
    · obtain ⟨g1, g2⟩ := r3 q
      by_cases q2 : y3 < y4
      · rw [if_pos q2, v_bt ⟨q, by rw [← g1, ← g2]; exact q2⟩]
      · rw [if_neg q2, v_bf (fun e => q2 (by rw [g1, g2]; exact e.2))]
    · have := r4 (by omega)
      rw [if_neg (by omega), v_bf (fun e => q e.1)]
end V53

/-! lies: the best of all bids is what the class says -/
section BPU
variable {v : Nat → Int32} {k c : Nat}
theorem b_win_max (u : Nat → Int32) : ∀ m i, i ≤ m → (u i).toInt ≤ (u (b_win u m)).toInt := by
  intro m
  induction m with
  | zero => intro i hi; have : i = 0 := by omega
            subst this; exact Int.le_refl _
  | succ m ih =>
    intro i hi
    simp only [b_win]
    by_cases q : u (b_win u m) < u (m + 1)
    · rw [if_pos q]
      rw [Int32.lt_iff_toInt_lt] at q
      by_cases e : i = m + 1
      · subst e; exact Int.le_refl _
      · have := ih i (by omega); omega
    · rw [if_neg q]
      rw [Int32.lt_iff_toInt_lt] at q
      by_cases e : i = m + 1
      · subst e; omega
      · exact ih i (by omega)
theorem b_max_ge (v : Nat → Int32) (one : Nat) : ∀ n, 0 ≤ (b_max v one n).toInt ∧ ∀ i, i < n → i ≠ one → (v i).toInt ≤ (b_max v one n).toInt := by
  intro n
  induction n with
  | zero => exact ⟨by show 0 ≤ (0 : Int32).toInt; decide, fun i hi => absurd hi (Nat.not_lt_zero i)⟩
  | succ n ih =>
    simp only [b_max]
    by_cases e : n = one
    · rw [if_pos e]
      exact ⟨ih.1, fun i hi hne => ih.2 i (by omega) hne⟩
    · rw [if_neg e]
      by_cases q : b_max v one n < v n
      · rw [if_pos q]
        rw [Int32.lt_iff_toInt_lt] at q
        refine ⟨by have := ih.1; omega, fun i hi hne => ?_⟩
        by_cases ei : i = n
        · subst ei; exact Int.le_refl _
        · have := ih.2 i (by omega) hne; omega
      · rw [if_neg q]
        rw [Int32.lt_iff_toInt_lt] at q
        refine ⟨ih.1, fun i hi hne => ?_⟩
        by_cases ei : i = n
        · subst ei; omega
        · exact ih.2 i (by omega) hne
theorem b_max_in (v : Nat → Int32) (one : Nat) : ∀ n, b_max v one n = 0 ∨ ∃ i, i < n ∧ i ≠ one ∧ b_max v one n = v i := by
  intro n
  induction n with
  | zero => exact Or.inl rfl
  | succ n ih =>
    simp only [b_max]
    by_cases e : n = one
    · rw [if_pos e]
      rcases ih with h | ⟨i, h1, h2, h3⟩
      · exact Or.inl h
      · exact Or.inr ⟨i, by omega, h2, h3⟩
    · rw [if_neg e]
      by_cases q : b_max v one n < v n
      · rw [if_pos q]; exact Or.inr ⟨n, by omega, e, rfl⟩
      · rw [if_neg q]
        rcases ih with h | ⟨i, h1, h2, h3⟩
        · exact Or.inl h
        · exact Or.inr ⟨i, by omega, h2, h3⟩
theorem b_max_upd (x : Int32) : ∀ n, b_max (b_upd v k x) k n = b_max v k n := by
  intro n
  induction n with
  | zero => rfl
  | succ n ih =>
    simp only [b_max, ih, b_upd]
    by_cases e : n = k
    · rw [if_pos e, if_pos e]
    · rw [if_neg e, if_neg e, if_neg e]
/-- what is got by a lie -/
theorem b_get_upd {g x : Int32} : b_get (b_upd v k x) k c g = if b_win (b_upd v k x) (c - 1) = k then g - b_max v k c else 0 := by
  unfold b_get
  by_cases e : b_win (b_upd v k x) (c - 1) = k
  · rw [if_pos e, if_pos e, e, b_max_upd]
  · rw [if_neg e, if_neg e]
theorem b_best_ge {g : Int32} : ∀ n x, x < n → (b_get (b_upd v k (Int32.ofNat x)) k c g).toInt ≤ (b_best v k c g n).toInt := by
  intro n
  induction n with
  | zero => intro x hx; exact absurd hx (Nat.not_lt_zero x)
  | succ n ih =>
    intro x hx
    simp only [b_best]
    by_cases q : b_get (b_upd v k (Int32.ofNat n)) k c g ≤ b_best v k c g n
    · rw [if_pos q]
      rw [Int32.le_iff_toInt_le] at q
      by_cases e : x = n
      · subst e; exact q
      · exact ih x (by omega)
    · rw [if_neg q]
      rw [Int32.le_iff_toInt_le] at q
      by_cases e : x = n
      · subst e; exact Int.le_refl _
      · have := ih x (by omega); omega
theorem b_best_in {g : Int32} (hb : ∀ x : Nat, -100000 < (b_get (b_upd v k (Int32.ofNat x)) k c g).toInt) : ∀ n, 1 ≤ n → ∃ x, x < n ∧ b_best v k c g n = b_get (b_upd v k (Int32.ofNat x)) k c g := by
  intro n
  induction n with
  | zero => intro h; omega
  | succ n ih =>
    intro _
    simp only [b_best]
    by_cases q : b_get (b_upd v k (Int32.ofNat n)) k c g ≤ b_best v k c g n
    · rw [if_pos q]
      cases n with
      | zero =>
        exfalso
        rw [Int32.le_iff_toInt_le] at q
        have h1 := hb 0
        have h2 : (b_best v k c g 0).toInt = -100000 := by show (Int32.ofInt (-100000)).toInt = -100000; decide
        omega
      | succ n =>
        obtain ⟨x, h1, h2⟩ := ih (by omega)
        exact ⟨x, by omega, h2⟩
    · rw [if_neg q]; exact ⟨n, by omega, rfl⟩
theorem b_lies_eq (hv : ∀ i, i < 8 → 0 ≤ (v i).toInt ∧ (v i).toInt ≤ 999) (hc : c ≤ 8) (hk : k < c) : b_best v k c (v k) 1000 = if v k - b_max v k c < 0 then 0 else v k - b_max v k c := by
  have hm : 0 ≤ (b_max v k c).toInt ∧ (b_max v k c).toInt ≤ 999 := by
    refine ⟨(b_max_ge v k c).1, ?_⟩
    rcases b_max_in v k c with h | ⟨i, h1, h2, h3⟩
    · rw [h]; decide
    · rw [h3]; exact (hv i (by omega)).2
  have hvk := hv k (by omega)
  have hG : (v k - b_max v k c).toInt = (v k).toInt - (b_max v k c).toInt := by
    rw [Int32.toInt_sub, Int.bmod_eq_of_le (by omega) (by omega)]
  obtain ⟨G, eG⟩ : ∃ G, G = v k - b_max v k c := ⟨_, rfl⟩
  rw [← eG] at hG ⊢
  have hget : ∀ x : Int32, b_get (b_upd v k x) k c (v k) = if b_win (b_upd v k x) (c - 1) = k then G else 0 := fun x => by rw [b_get_upd, eG]
  have hb : ∀ x : Nat, -100000 < (b_get (b_upd v k (Int32.ofNat x)) k c (v k)).toInt := by
    intro x
    rw [hget]
    split
    · omega
    · decide
  obtain ⟨x, hx, ex⟩ := b_best_in hb 1000 (by omega)
  have hge := b_best_ge (v := v) (k := k) (c := c) (g := v k) 1000
  have z0 : ((0 : Int32)).toInt = 0 := by decide
  by_cases w0 : b_win (b_upd v k (Int32.ofNat 0)) (c - 1) = k
  · -- it wins with 0: all others are 0
    have h0 : b_max v k c = 0 := by
      rcases b_max_in v k c with h | ⟨i, h1, h2, h3⟩
      · exact h
      · have := b_win_max (b_upd v k (Int32.ofNat 0)) (c - 1) i (by omega)
        rw [w0] at this
        simp only [b_upd] at this
        rw [if_neg h2, if_pos trivial] at this
        rw [h3]
        apply Int32.toInt_inj.mp
        have a := hv i (by omega)
        have b : (Int32.ofNat 0).toInt = 0 := by decide
        rw [z0]; omega
    have hG0 : 0 ≤ G.toInt := by rw [hG, h0, z0]; omega
    have g0 := hge 0 (by omega)
    rw [hget, if_pos w0] at g0
    rw [if_neg (by rw [Int32.lt_iff_toInt_lt, z0]; omega)]
    rw [ex, hget] at g0 ⊢
    by_cases wx : b_win (b_upd v k (Int32.ofNat x)) (c - 1) = k
    · rw [if_pos wx]
    · rw [if_neg wx] at g0 ⊢
      apply Int32.toInt_inj.mp; omega
  · have g0 := hge 0 (by omega)
    rw [hget, if_neg w0] at g0
    by_cases hp : 0 < G.toInt
    · -- it wins with its own worth
      have hwin : b_win (b_upd v k (v k)) (c - 1) = k := by
        have eu : b_upd v k (v k) = v := by
          funext i; simp only [b_upd]
          by_cases e : i = k
          · rw [if_pos e, e]
          · rw [if_neg e]
        rw [eu]
        by_cases e : b_win v (c - 1) = k
        · exact e
        · exfalso
          have h1 := b_win_max v (c - 1) k (by omega)
          have hle := b_win_le v (c - 1)
          have h2 := (b_max_ge v k c).2 (b_win v (c - 1)) (by omega) e
          omega
      obtain ⟨n, hn⟩ : ∃ n : Nat, (v k).toInt = n := ⟨(v k).toInt.toNat, by omega⟩
      have en : v k = Int32.ofNat n := g_i32 hn (by omega)
      have g1 := hge n (by omega)
      rw [← en, hget, if_pos hwin] at g1
      rw [if_neg (by rw [Int32.lt_iff_toInt_lt, z0]; omega)]
      rw [ex, hget] at g1 ⊢
      by_cases wx : b_win (b_upd v k (Int32.ofNat x)) (c - 1) = k
      · rw [if_pos wx]
      · rw [if_neg wx] at g1 ⊢
        rw [z0] at g1; omega
    · rw [ex, hget] at g0 ⊢
      by_cases wx : b_win (b_upd v k (Int32.ofNat x)) (c - 1) = k
      · rw [if_pos wx] at g0 ⊢
        rw [z0] at g0
        rw [if_neg (by rw [Int32.lt_iff_toInt_lt, z0]; omega)]
      · rw [if_neg wx]
        split
        · rfl
        · next q =>
          rw [Int32.lt_iff_toInt_lt, z0] at q
          apply Int32.toInt_inj.mp; rw [z0]; omega
end BPU

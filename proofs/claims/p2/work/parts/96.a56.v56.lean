def v_lpl (u W : Nat) : Nat → Nat → Nat → Nat
  | 0, _, x => x
  | j + 1, k, x => v_lpl u W j (k + 1) (if v_ln u k W < x then v_ln u k W else x)
def v_lp (u W : Nat) : Nat := v_lpl u W (v_pc u 12 + 1) 0 W
def v_bz (P : Nat → Bool) : Nat → Option Nat
  | 0 => none
  | n + 1 => match P n with
    | false => v_bz P n
    | true => match v_bz P n with
      | none => some n
      | some y => if v_pc y 12 < v_pc n 12 then some n else some y
def v_on : Option Nat → Int
  | none => -1
  | some y => (y : Int)
def v_ud (o : Option (Nat × Nat)) (x : Nat) : Option Nat → Option (Nat × Nat)
  | none => o
  | some y => match o with
    | none => some (x, y)
    | some p => if v_bl p.1 p.2 < v_bl x y then some (x, y) else some p
def v_w1 : Option (Nat × Nat) → Int
  | none => -1
  | some p => ((v_bl p.1 p.2 : Nat) : Int)
section V56
variable {s : d_S} {t : Nat → Option p_C} {u v W H N m w : Nat} {st me so : Nat → Nat} {sg : Nat → Nat → Nat}
theorem v_lpl_le : ∀ j k x, v_lpl u W j k x ≤ x := by
  intro j
  induction j with
  | zero => intro k x; exact Nat.le_refl _
  | succ j ih =>
    intro k x
    refine Nat.le_trans (ih _ _) ?_
    split <;> omega
theorem v_lp_le : v_lp u W ≤ W := v_lpl_le _ _ _
theorem v_lpl_ (hu : u < 128) (hW : W ≤ 8) : ∀ (j k m : Nat), k + j = v_pc u 12 + 1 → j < m → ∀ x : Nat, x ≤ 8 → F_X12_leastPart_l4 m (u : Int) (W : Int) (x : Int) (k : Int) = some ((v_lpl u W j k x : Nat) : Int) := by
  have hp := v_pc_le (n := u) 12
  intro j
  induction j with
  | zero =>
    intro k m hk hm x hx
    obtain ⟨m, rfl⟩ : ∃ q, m = q + 1 := ⟨m - 1, by omega⟩
    show F_X12_leastPart_l4_b (F_X12_leastPart_l4 m) _ _ _ _ = _
    unfold F_X12_leastPart_l4_b
    rw [P_bits (by omega), d_b_t, if_pos (by omega)]
    rfl
  | succ j ih =>
    intro k m hk hm x hx
    obtain ⟨m, rfl⟩ : ∃ q, m = q + 1 := ⟨m - 1, by omega⟩
    have hl := v_ln_le (u := u) (p := k) W
    show F_X12_leastPart_l4_b (F_X12_leastPart_l4 m) _ _ _ _ = _
    unfold F_X12_leastPart_l4_b
    rw [P_bits (by omega), d_b_t, if_neg (by omega), P_lengthOf hu hW, d_b_t, d_w_id (x := (k : Int) + 1) (by omega) (by omega)]
    by_cases q : v_ln u k W < x
    · have hr := ih (k + 1) m (by omega) (by omega) (v_ln u k W) (by omega)
      rw [if_pos (by omega), d_b_t]
      simp only [v_lpl, if_pos q]
      exact hr
    · have hr := ih (k + 1) m (by omega) (by omega) x hx
      rw [if_neg (by omega)]
      simp only [v_lpl, if_neg q]
      exact hr
theorem P_leastPart (hu : u < 128) (hW : W ≤ 8) : F_X12_leastPart (u : Int) (W : Int) = some ((v_lp u W : Nat) : Int) := by
  unfold F_X12_leastPart
  have hp := v_pc_le (n := u) 12
  exact v_lpl_ hu hW (v_pc u 12 + 1) 0 d_N (by omega) (by rw [d_N_is]; omega) W hW
theorem v_nrm : ∀ (m m' : Nat) (a b c d e v : Int), F_X11_narrowest_l7 m a b c d e = some v → m ≤ m' → F_X11_narrowest_l7 m' a b c d e = some v := by
  intro m
  induction m with
  | zero => intro m' a b c d e v h; cases h
  | succ m ih =>
    intro m' a b c d e v h hm
    obtain ⟨q, rfl⟩ : ∃ q, m' = q + 1 := ⟨m' - 1, by omega⟩
    have h : F_X11_narrowest_l7_b (F_X11_narrowest_l7 m) a b c d e = some v := h
    show F_X11_narrowest_l7_b (F_X11_narrowest_l7 q) a b c d e = some v
    unfold F_X11_narrowest_l7_b at h ⊢
    by_cases q1 : e < b
    · rw [if_pos q1] at h ⊢
      by_cases q2 : d_and (d_shr a e) 1 = 1
      · rw [if_pos q2] at h ⊢
        unfold F_X11_narrowest_j34 at h ⊢
        rw [P_min, d_b_t] at h ⊢
        exact ih _ _ _ _ _ _ _ h (by omega)
      · rw [if_neg q2] at h ⊢
        by_cases q3 : e = d_w (b - 1)
        · rw [if_pos q3] at h ⊢
          unfold F_X11_narrowest_j34 at h ⊢
          rw [P_min, d_b_t] at h ⊢
          exact ih _ _ _ _ _ _ _ h (by omega)
        · rw [if_neg q3] at h ⊢
          exact ih _ _ _ _ _ _ _ h (by omega)
    · rw [if_neg q1] at h ⊢
      exact h
theorem v_nar_ : ∀ W : Nat, W < 9 → ∀ u : Nat, u < 128 → u < 2 ^ (W - 1) → 1 ≤ W → F_X11_narrowest_l7 9 (u : Int) (W : Int) (W : Int) 0 0 = some ((v_lp u W : Nat) : Int) := by decide +kernel
theorem P_narrowest (hu : u < 128) (hu2 : u < 2 ^ (W - 1)) (hW : 1 ≤ W ∧ W ≤ 8) : F_X11_narrowest (u : Int) (W : Int) = some ((v_lp u W : Nat) : Int) := by
  unfold F_X11_narrowest
  exact v_nrm 9 d_N _ _ _ _ _ _ (v_nar_ W (by omega) u hu hu2 hW.1) (by rw [d_N_is]; decide)
theorem v_bz_lt {P : Nat → Bool} {y : Nat} : ∀ n, v_bz P n = some y → y < n := by
  intro n
  induction n with
  | zero => intro h; cases h
  | succ n ih =>
    intro h
    simp only [v_bz] at h
    split at h
    · have := ih h; omega
    · split at h
      · cases h; omega
      · next q =>
        split at h
        · cases h; omega
        · have := ih (q.trans h); omega
theorem v_bz_P {P : Nat → Bool} {y : Nat} : ∀ n, v_bz P n = some y → P y = true := by
  intro n
  induction n with
  | zero => intro h; cases h
  | succ n ih =>
    intro h
    simp only [v_bz] at h
    split at h
    · exact ih h
    · next hp =>
      split at h
      · cases h; exact hp
      · next q =>
        split at h
        · cases h; exact hp
        · exact ih (q.trans h)
theorem v_bz_cg {P Q : Nat → Bool} : ∀ n, (∀ y, y < n → P y = Q y) → v_bz P n = v_bz Q n := by
  intro n
  induction n with
  | zero => intro _; rfl
  | succ n ih =>
    intro h
    simp only [v_bz]
    rw [h n (by omega), ih (fun y hy => h y (by omega))]
theorem v_bz_n {P : Nat → Bool} : ∀ n, (∀ y, y < n → P y = false) → v_bz P n = none := by
  intro n
  induction n with
  | zero => intro _; rfl
  | succ n ih =>
    intro h
    simp only [v_bz]
    rw [h n (by omega)]
    exact ih (fun y hy => h y (by omega))
theorem v_bz_f {P : Nat → Bool} {n : Nat} (h : P n = false) : v_bz P (n + 1) = v_bz P n := by
  simp only [v_bz, h]
theorem v_bz_0 {P : Nat → Bool} {n : Nat} (h : P n = true) (e : v_bz P n = none) : v_bz P (n + 1) = some n := by
  simp only [v_bz, h, e]
theorem v_bz_1 {P : Nat → Bool} {n y : Nat} (h : P n = true) (e : v_bz P n = some y) : v_bz P (n + 1) = if v_pc y 12 < v_pc n 12 then some n else some y := by
  simp only [v_bz, h, e]
theorem v_bl_lt {x y z : Nat} : v_bl x y < v_bl x z ↔ v_pc y 12 < v_pc z 12 := by
  unfold v_bl v_ac
  constructor
  · intro h
    have := Nat.lt_of_mul_lt_mul_left h
    omega
  · intro h
    exact Nat.mul_lt_mul_of_pos_left (by omega) (by omega)
theorem v_ud_s {P : Nat → Bool} {o : Option (Nat × Nat)} {x n : Nat} (h : P n = true) : v_ud o x (v_bz P (n + 1)) = if v_w1 (v_ud o x (v_bz P n)) < ((v_bl x n : Nat) : Int) then some (x, n) else v_ud o x (v_bz P n) := by
  cases e : v_bz P n with
  | none =>
    rw [v_bz_0 h e]
    cases o with
    | none =>
      show some (x, n) = _
      have : v_w1 (v_ud none x none) < ((v_bl x n : Nat) : Int) := by show (-1 : Int) < _; omega
      rw [if_pos this]
    | some p =>
      show (if v_bl p.1 p.2 < v_bl x n then some (x, n) else some p) = if ((v_bl p.1 p.2 : Nat) : Int) < ((v_bl x n : Nat) : Int) then some (x, n) else some p
      by_cases q : v_bl p.1 p.2 < v_bl x n
      · rw [if_pos q, if_pos (by omega)]
      · rw [if_neg q, if_neg (by omega)]
  | some y =>
    rw [v_bz_1 h e]
    have hb := v_bl_lt (x := x) (y := y) (z := n)
    cases o with
    | none =>
      have e2 : v_ud none x (some y) = some (x, y) := rfl
      rw [e2]
      show _ = if ((v_bl x y : Nat) : Int) < ((v_bl x n : Nat) : Int) then some (x, n) else some (x, y)
      by_cases q : v_pc y 12 < v_pc n 12
      · have := hb.2 q
        rw [if_pos q, if_pos (by omega)]; rfl
      · have := fun z => q (hb.1 z)
        rw [if_neg q, if_neg (by omega)]; rfl
    | some p =>
      have e2 : ∀ z, v_ud (some p) x (some z) = if v_bl p.1 p.2 < v_bl x z then some (x, z) else some p := fun _ => rfl
      by_cases q : v_pc y 12 < v_pc n 12
      · have q' := hb.2 q
        rw [if_pos q, e2, e2]
        by_cases q2 : v_bl p.1 p.2 < v_bl x y
        · rw [if_pos (by omega), if_pos q2]
          have : v_w1 (some (x, y)) < ((v_bl x n : Nat) : Int) := by show ((v_bl x y : Nat) : Int) < _; omega
          rw [if_pos this]
        · rw [if_neg q2]
          show _ = if ((v_bl p.1 p.2 : Nat) : Int) < _ then _ else _
          by_cases q3 : v_bl p.1 p.2 < v_bl x n
          · rw [if_pos q3, if_pos (by omega)]
          · rw [if_neg q3, if_neg (by omega)]
      · have q' := fun z => q (hb.1 z)
        rw [if_neg q, e2]
        by_cases q2 : v_bl p.1 p.2 < v_bl x y
        · rw [if_pos q2]
          have : ¬ v_w1 (some (x, y)) < ((v_bl x n : Nat) : Int) := by show ¬ ((v_bl x y : Nat) : Int) < _; omega
          rw [if_neg this]
        · rw [if_neg q2]
          have : ¬ v_w1 (some p) < ((v_bl x n : Nat) : Int) := by show ¬ ((v_bl p.1 p.2 : Nat) : Int) < _; omega
          rw [if_neg this]
theorem v_lm_0 {f : Nat → Nat} {S a : Nat} : ∀ k, a &&& v_lm f S k = 0 ↔ ∀ n, n < k → S / 2 ^ n % 2 = 1 → a &&& f n = 0 := by
  intro k
  induction k with
  | zero => exact ⟨fun _ n hn => absurd hn (by omega), fun _ => Nat.and_zero a⟩
  | succ k ih =>
    simp only [v_lm]
    by_cases q : S / 2 ^ k % 2 = 1
    · rw [if_pos q, Nat.and_or_distrib_left, Nat.or_eq_zero_iff, ih]
      constructor
      · rintro ⟨h1, h2⟩ n hn hS
        by_cases z : n = k
        · subst z; exact h2
        · exact h1 n (by omega) hS
      · intro h
        exact ⟨fun n hn hS => h n (by omega) hS, h k (by omega) q⟩
    · rw [if_neg q, ih]
      constructor
      · intro h n hn hS
        by_cases z : n = k
        · subst z; exact absurd hS q
        · exact h n (by omega) hS
      · intro h n hn hS
        exact h n (by omega) hS
theorem v_nn {a b : Nat} (ha : a < 4096) : a &&& (b ^^^ 4294967295) = 0 ↔ a &&& b = a := by
  have h32 : ∀ i, Nat.testBit 4294967295 i = decide (i < 32) := fun i => Nat.testBit_two_pow_sub_one (n := 32) (i := i)
  have h12 : ∀ i, 12 ≤ i → a.testBit i = false := fun i hi => Nat.testBit_lt_two_pow (Nat.lt_of_lt_of_le ha (Nat.pow_le_pow_right (n := 2) (by decide) hi))
  constructor
  · intro h
    refine Nat.eq_of_testBit_eq fun i => ?_
    have e := congrArg (fun z => Nat.testBit z i) h
    simp only [Nat.testBit_and, Nat.testBit_xor, h32, Nat.zero_testBit] at e
    rw [Nat.testBit_and]
    by_cases q : i < 12
    · rw [show decide (i < 32) = true from decide_eq_true (by omega)] at e
      cases h1 : a.testBit i
      · rfl
      · rw [h1] at e
        cases h2 : b.testBit i
        · rw [h2] at e; exact absurd e (by decide)
        · rfl
    · rw [h12 i (by omega)]; rfl
  · intro h
    refine Nat.eq_of_testBit_eq fun i => ?_
    have e := congrArg (fun z => Nat.testBit z i) h
    simp only [Nat.testBit_and] at e
    simp only [Nat.testBit_and, Nat.testBit_xor, h32, Nat.zero_testBit]
    by_cases q : i < 12
    · rw [show decide (i < 32) = true from decide_eq_true (by omega)]
      cases h1 : a.testBit i
      · rfl
      · rw [h1] at e
        cases h2 : b.testBit i
        · rw [h2] at e; exact absurd e (by decide)
        · rfl
    · rw [h12 i (by omega)]; rfl
theorem v_andn {a b : Nat} (ha : a < 4096) (hb : b < 4096) : d_and (a : Int) (d_xor (b : Int) (-1)) = 0 ↔ a &&& b = a := by
  rw [← v_nn ha]
  have hlt : a &&& (b ^^^ 4294967295) < 4096 := Nat.lt_of_le_of_lt Nat.and_le_left ha
  have e : d_and (a : Int) (d_xor (b : Int) (-1)) = ((a &&& (b ^^^ 4294967295) : Nat) : Int) := by
    unfold d_and d_xor
    rw [Int32.ofInt_toInt, v_oi, v_oi]
    refine v_ofb (by omega) ?_
    rw [Int32.toBitVec_and, Int32.toBitVec_xor, BitVec.toNat_and, BitVec.toNat_xor, v_bn (by omega), v_bn (by omega)]
    rfl
  rw [e]
  omega
theorem v_alw {S x y : Nat} (hS : S < 2 ^ N) : S &&& v_sb (v_un sg x y) N = S ↔ x &&& v_lm (fun n => v_mk (sg n 1) (sg n 3)) S N = 0 ∧ y &&& v_lm (fun n => v_mk (sg n 2) (sg n 4)) S N = 0 := by
  rw [v_lm_0, v_lm_0]
  have hb : ∀ n, S.testBit n = true ↔ S / 2 ^ n % 2 = 1 := fun n => by rw [Nat.testBit_eq_decide_div_mod_eq]; exact decide_eq_true_iff
  have h1 : S &&& v_sb (v_un sg x y) N = S ↔ ∀ n, n < N → S / 2 ^ n % 2 = 1 → v_un sg x y n := by
    constructor
    · intro h n hn hs
      have e := congrArg (fun z => Nat.testBit z n) h
      simp only [Nat.testBit_and, v_sb_tb] at e
      rw [(hb n).2 hs] at e
      have := of_decide_eq_true ((Bool.true_and _).symm.trans e)
      exact this.2
    · intro h
      refine Nat.eq_of_testBit_eq fun n => ?_
      rw [Nat.testBit_and, v_sb_tb]
      cases q : S.testBit n
      · rfl
      · have hn : n < N := by
          by_cases z : n < N
          · exact z
          · rw [Nat.testBit_lt_two_pow (Nat.lt_of_lt_of_le hS (Nat.pow_le_pow_right (by decide) (by omega)))] at q
            cases q
        rw [decide_eq_true (⟨hn, h n hn ((hb n).1 q)⟩ : n < N ∧ v_un sg x y n)]; rfl
  rw [h1]
  exact ⟨fun h => ⟨fun n hn hs => (h n hn hs).1, fun n hn hs => (h n hn hs).2⟩, fun h n hn hs => ⟨h.1 n hn hs, h.2 n hn hs⟩⟩
end V56

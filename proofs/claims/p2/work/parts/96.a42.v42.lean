section V42
variable {s : d_S} {t : Nat → Option p_C} {n : Nat}
theorem v_ti64 {x : Int} (h1 : -4294967296 ≤ x) (h2 : x < 4294967296) : (Int64.ofInt x).toInt = x := by
  exact d_W_id (by omega) (by omega)
theorem v_divL2 {a b : Nat} (ha : a < 2147483648) (hb : b < 2147483648) : d_divL (a : Int) (b : Int) = ((a / b : Nat) : Int) := by
  unfold d_divL
  rw [Int64.toInt_div, v_ti64 (by omega) (by omega), v_ti64 (by omega) (by omega), ← Int.ofNat_tdiv]
  have := Nat.div_le_self a b
  generalize a / b = q at *
  exact Int.bmod_eq_of_le (by omega) (by omega)
theorem v_divLn {a b : Nat} (ha : a < 2147483648) (hb : b < 2147483648) : d_divL (-(a : Int)) (b : Int) = -((a / b : Nat) : Int) := by
  unfold d_divL
  rw [Int64.toInt_div, v_ti64 (by omega) (by omega), v_ti64 (by omega) (by omega), Int.neg_tdiv, ← Int.ofNat_tdiv]
  have := Nat.div_le_self a b
  generalize a / b = q at *
  exact Int.bmod_eq_of_le (by omega) (by omega)
theorem v_divn {a b : Nat} (ha : a < 2147483648) (hb : b < 2147483648) : d_div (-(a : Int)) (b : Int) = -((a / b : Nat) : Int) := by
  unfold d_div
  have h1 : (Int32.ofInt (-(a : Int))).toInt = -(a : Int) := d_ti ⟨by omega, by omega⟩
  have h2 : (Int32.ofInt (b : Int)).toInt = b := d_ti ⟨by omega, by omega⟩
  rw [Int32.toInt_div, h1, h2, Int.neg_tdiv, ← Int.ofNat_tdiv]
  have := Nat.div_le_self a b
  generalize a / b = q at *
  exact Int.bmod_eq_of_le (by omega) (by omega)
theorem v_remL2 {a b : Nat} (ha : a < 2147483648) (hb : b < 2147483648) : d_remL (a : Int) (b : Int) = ((a % b : Nat) : Int) := by
  have hd := v_divL2 ha hb
  unfold d_divL at hd
  unfold d_remL
  have h0 : Int64.ofInt (a : Int) / Int64.ofInt (b : Int) = Int64.ofInt ((a / b : Nat) : Int) := by rw [← hd, Int64.ofInt_toInt]
  rw [h0, ← Int64.ofInt_mul, ← Int64.ofInt_sub]
  have h1 := Nat.div_add_mod a b
  have h2 : ((a : Int) - ((a / b : Nat) : Int) * (b : Int)) = ((a % b : Nat) : Int) := by
    have : (a : Int) = (b : Int) * ((a / b : Nat) : Int) + ((a % b : Nat) : Int) := by exact_mod_cast h1.symm
    rw [Int.mul_comm ((a / b : Nat) : Int)]; omega
  rw [h2]
  have := Nat.mod_le a b
  exact v_ti64 (by omega) (by omega)
theorem v_gcR2 : ∀ (b a : Nat), b < 4096 → a < 4096 → ∀ m : Nat, b + 1 < m → F_X12_gcd_l17 m (a : Int) (b : Int) = some ((Nat.gcd a b : Nat) : Int) := by
  intro b
  induction b using Nat.strongRecOn with
  | ind b ih =>
    intro a hb ha m hm
    obtain ⟨m, rfl⟩ : ∃ q, m = q + 1 := ⟨m - 1, by omega⟩
    show F_X12_gcd_l17_b (F_X12_gcd_l17 m) _ _ = _
    unfold F_X12_gcd_l17_b
    by_cases q : b = 0
    · rw [if_pos (by omega), q, Nat.gcd_zero_right]
    · have hlt := Nat.mod_lt a (show 0 < b by omega)
      rw [if_neg (by omega), d_g_t (by omega), v_remL2 (by omega) (by omega)]
      have := ih (a % b) hlt b (by omega) (by omega) m (by omega)
      rw [Nat.gcd_comm a b, Nat.gcd_rec b a, Nat.gcd_comm]
      exact this
theorem v_gcC2 {K : Int → Option Int} : ∀ (i b a : Nat), b < 2 ^ i → b < 4096 → a < 4096 → ∀ (k m : Nat), k + 2 * i < 63 → 2 * i + 1 < m → F_X11_divisor_l13 K m (a : Int) (b : Int) (k : Int) = K ((Nat.gcd a b : Nat) : Int) := by
  have z : ∀ (a k m : Nat), k < 63 → 0 < m → F_X11_divisor_l13 K m (a : Int) ((0 : Nat) : Int) (k : Int) = K ((Nat.gcd a 0 : Nat) : Int) := fun a k m hk hm => by
    obtain ⟨m, rfl⟩ : ∃ q, m = q + 1 := ⟨m - 1, by omega⟩
    show F_X11_divisor_l13_b K (F_X11_divisor_l13 K m) _ _ _ = _
    unfold F_X11_divisor_l13_b
    rw [if_pos (by omega), if_pos (by omega), Nat.gcd_zero_right]
  have st : ∀ (a b k m : Nat), ¬ b = 0 → a < 4096 → b < 4096 → k < 63 → F_X11_divisor_l13 K (m + 1) (a : Int) (b : Int) (k : Int) = F_X11_divisor_l13 K m (b : Int) ((a % b : Nat) : Int) ((k + 1 : Nat) : Int) := fun a b k m q ha hb hk => by
    show F_X11_divisor_l13_b K (F_X11_divisor_l13 K m) _ _ _ = _
    unfold F_X11_divisor_l13_b
    rw [if_pos (by omega), if_neg (by omega), d_g_t (by omega), v_rem (by omega) (by omega), d_w_id (by omega) (by omega)]; rfl
  have gc : ∀ a b : Nat, Nat.gcd a b = Nat.gcd b (a % b) := fun a b => by rw [Nat.gcd_comm a b, Nat.gcd_rec b a, Nat.gcd_comm]
  intro i
  induction i with
  | zero =>
    intro b a hb _ ha k m hk hm
    have : b = 0 := by simpa using hb
    subst this
    exact z a k m (by omega) (by omega)
  | succ i ih =>
    intro b a hb hb2 ha k m hk hm
    by_cases q : b = 0
    · subst q; exact z a k m (by omega) (by omega)
    obtain ⟨m, rfl⟩ : ∃ q, m = q + 1 := ⟨m - 1, by omega⟩
    have hlt := Nat.mod_lt a (show 0 < b by omega)
    rw [st a b k m q ha hb2 (by omega), gc a b]
    by_cases q2 : a % b = 0
    · rw [q2]; exact z b (k + 1) m (by omega) (by omega)
    obtain ⟨m, rfl⟩ : ∃ q, m = q + 1 := ⟨m - 1, by omega⟩
    rw [st b (a % b) (k + 1) m q2 hb2 (by omega) (by omega), gc b (a % b)]
    have h1 := Nat.mod_lt b (show 0 < a % b by omega)
    have h2 := Nat.div_add_mod b (a % b)
    have h3 : 1 ≤ b / (a % b) := Nat.div_pos (by omega) (by omega)
    have h4 : a % b * 1 ≤ a % b * (b / (a % b)) := Nat.mul_le_mul_left _ h3
    have hp : 2 ^ (i + 1) = 2 * 2 ^ i := by rw [Nat.pow_succ, Nat.mul_comm]
    exact ih (b % (a % b)) (a % b) (by omega) (by omega) (by omega) (k + 1 + 1) m (by omega) (by omega)
theorem P_divisor {x y : Int} (hx : -4000 ≤ x ∧ x ≤ 4000) (hy : 1 ≤ y ∧ y ≤ 4000) : F_X11_divisor x y = some ((Nat.gcd x.natAbs y.toNat : Nat) : Int) := by
  have hg : 1 ≤ Nat.gcd x.natAbs y.toNat := Nat.gcd_pos_of_pos_right _ (by omega)
  have habs : F_J9_abs_0f7a4 x = some ((x.natAbs : Nat) : Int) := by
    unfold F_J9_abs_0f7a4
    by_cases q : x < 0
    · rw [if_pos q, d_w_id (by omega) (by omega)]; congr 1; omega
    · rw [if_neg q]; congr 1; omega
  have habs2 : F_J9_abs_0f7a4 y = some ((y.toNat : Nat) : Int) := by
    unfold F_J9_abs_0f7a4
    rw [if_neg (by omega)]; congr 1; omega
  unfold F_X11_divisor
  rw [habs, d_b_t, habs2, d_b_t]
  refine (v_gcC2 12 y.toNat x.natAbs (by omega) (by omega) (by omega) 0 d_N (by omega) (by rw [d_N_is]; omega)).trans ?_
  show d_b (F_J9_max_7cf53 1 _) _ = _
  rw [P_max, d_b_t]; congr 1; omega
theorem P_gcd {x y : Int} (hx : -4000 ≤ x ∧ x ≤ 4000) (hy : 1 ≤ y ∧ y ≤ 4000) : F_X12_gcd x y = some ((Nat.gcd x.natAbs y.toNat : Nat) : Int) := by
  obtain ⟨b, rfl⟩ : ∃ b : Nat, y = b := ⟨y.toNat, by omega⟩
  unfold F_X12_gcd F_X12_gcd_j12
  by_cases q : x < 0
  · obtain ⟨a, rfl⟩ : ∃ a : Nat, x = -(a : Int) := ⟨x.natAbs, by omega⟩
    rw [if_pos q, d_W_id (by omega) (by omega), Int.neg_neg, v_gcR2 b a (by omega) (by omega) d_N (by rw [d_N_is]; omega), Int.natAbs_neg, Int.natAbs_natCast, Int.toNat_natCast]
  · obtain ⟨a, rfl⟩ : ∃ a : Nat, x = a := ⟨x.toNat, by omega⟩
    rw [if_neg q, v_gcR2 b a (by omega) (by omega) d_N (by rw [d_N_is]; omega), Int.natAbs_natCast, Int.toNat_natCast]
theorem v_dLd {y : Int} {g : Nat} (hy : -4000 ≤ y ∧ y ≤ 4000) (hg : g < 5000) : d_w (d_divL y (g : Int)) = d_div y (g : Int) := by
  by_cases q : y < 0
  · obtain ⟨a, rfl⟩ : ∃ a : Nat, y = -(a : Int) := ⟨y.natAbs, by omega⟩
    have := Nat.div_le_self a g
    rw [v_divLn (by omega) (by omega), v_divn (by omega) (by omega)]
    generalize a / g = w at this ⊢
    exact d_w_id (by omega) (by omega)
  · obtain ⟨a, rfl⟩ : ∃ a : Nat, y = a := ⟨y.toNat, by omega⟩
    have := Nat.div_le_self a g
    rw [v_divL2 (by omega) (by omega), v_div (by omega) (by omega)]
    generalize a / g = w at this ⊢
    exact d_w_id (by omega) (by omega)
def v_ms (s : d_S) (n : Nat) : Prop := s.1 16 2 = n ∧ s.1 65 7 = n ∧ n ≤ 8 ∧ ∀ j : Nat, j < n → s.1 17 (4 * j) = s.1 65 (339 + 2 * j) ∧ s.1 17 (4 * j + 1) = s.1 65 (340 + 2 * j) ∧ (0 ≤ s.1 65 (339 + 2 * j) ∧ s.1 65 (339 + 2 * j) ≤ 999) ∧ (0 ≤ s.1 65 (340 + 2 * j) ∧ s.1 65 (340 + 2 * j) ≤ 100)
theorem v_R.measures (h : v_R t s) : ∃ n, v_ms s n := by
  obtain ⟨hW, hI, -⟩ := h
  obtain ⟨-, -, -, -, ⟨c1, c2⟩, -⟩ := hW.2.2.2
  have c1 : s.1 16 2 = s.1 65 7 := c1
  obtain ⟨-, -, -, -, -, k7, -, -, -, -, q7, -⟩ := hI.2.2.1
  refine ⟨(s.1 65 7).toNat, by omega, by omega, by omega, fun j hj => ⟨c2 j 0 (by omega) (by decide), ?_, q7 j (by omega)⟩⟩
  have : s.1 17 (4 * j + 1) = s.1 65 (339 + 2 * j + 1) := c2 j 1 (by omega) (by decide)
  rw [this, show 339 + 2 * j + 1 = 340 + 2 * j by omega]
theorem P_part16 (h : v_ms s n) {j : Nat} (hj : j < n) : F_X8_part_16 s (j : Int) 0 = some (s.1 65 (339 + 2 * j)) ∧ F_X8_part_16 s (j : Int) 1 = some (s.1 65 (340 + 2 * j)) := by
  obtain ⟨h1, h2, h8, h3⟩ := h
  obtain ⟨a, b, -⟩ := h3 j hj
  unfold F_X8_part_16
  have e0 : d_w ((j : Int) * 4 + 0) = ((4 * j : Nat) : Int) := by rw [d_w_id (by omega) (by omega)]; omega
  have e1 : d_w ((j : Int) * 4 + 1) = ((4 * j + 1 : Nat) : Int) := by rw [d_w_id (by omega) (by omega)]; omega
  rw [e0, e1, if_neg (by omega), if_pos (by omega), d_g_t (by omega), Int.toNat_natCast, if_neg (by omega), if_pos (by omega), d_g_t (by omega), Int.toNat_natCast, a, b]
  exact ⟨rfl, rfl⟩
def v_sv (p q : Int) : Prop := (-100 ≤ p ∧ p ≤ 100) ∧ (0 ≤ q ∧ q ≤ 999)
theorem v_mulb {a b c d : Int} (ha : -100 ≤ a ∧ a ≤ 100) (hb : -999 ≤ b ∧ b ≤ 999) : -100000 ≤ a * b ∧ a * b ≤ 100000 := by
  have h1 : (a * b).natAbs ≤ 100 * 999 := by rw [Int.natAbs_mul]; exact Nat.mul_le_mul (by omega) (by omega)
  omega
theorem v_spi (h : v_ms s n) {x : Int} {K K' : Int → Int → Int → Int → Option Int} {p : Nat} (hp : p < n) : ∀ (j k m m' : Nat), k + j = n → j < m → j < m' → ∀ a b, v_sv a b → ∃ a' b', v_sv a' b' ∧ F_X11_speed_l25 s K m x a b (p : Int) (k : Int) = K x a' b' (p : Int) ∧ F_X12_speed_l35 s K' m' x a b (p : Int) (k : Int) = K' x a' b' (p : Int) := by
  have h' := h
  obtain ⟨h1, h2, h8, h3⟩ := h'
  intro j
  induction j with
  | zero =>
    intro k m m' hk hm hm' a b hab
    obtain ⟨m, rfl⟩ : ∃ q, m = q + 1 := ⟨m - 1, by omega⟩
    obtain ⟨m', rfl⟩ : ∃ q, m' = q + 1 := ⟨m' - 1, by omega⟩
    refine ⟨a, b, hab, ?_, ?_⟩
    · show F_X11_speed_l25_b s K (F_X11_speed_l25 s K m) _ _ _ _ _ = _
      unfold F_X11_speed_l25_b
      rw [h1, if_neg (by omega)]
    · show F_X12_speed_l35_b s K' (F_X12_speed_l35 s K' m') _ _ _ _ _ = _
      unfold F_X12_speed_l35_b
      rw [h2, if_neg (by omega)]
  | succ j ih =>
    intro k m m' hk hm hm' a b hab
    obtain ⟨m, rfl⟩ : ∃ q, m = q + 1 := ⟨m - 1, by omega⟩
    obtain ⟨m', rfl⟩ : ∃ q, m' = q + 1 := ⟨m' - 1, by omega⟩
    have hkn : k < n := by omega
    obtain ⟨-, -, k3, k4⟩ := h3 k hkn
    obtain ⟨-, -, p3, p4⟩ := h3 p hp
    obtain ⟨a1, b1⟩ := hab
    have hk1 : d_w ((k : Int) + 1) = ((k + 1 : Nat) : Int) := by rw [d_w_id (by omega) (by omega)]; rfl
    have f0 : d_w (339 + 2 * (k : Int)) = ((339 + 2 * k : Nat) : Int) := by rw [d_w_id (by omega) (by omega)]; omega
    have f1 : d_w (339 + 2 * (k : Int) + 1) = ((340 + 2 * k : Nat) : Int) := by rw [d_w_id (by omega) (by omega)]; omega
    have f2 : d_w (339 + 2 * (p : Int)) = ((339 + 2 * p : Nat) : Int) := by rw [d_w_id (by omega) (by omega)]; omega
    have f3 : d_w (339 + 2 * (p : Int) + 1) = ((340 + 2 * p : Nat) : Int) := by rw [d_w_id (by omega) (by omega)]; omega
    obtain ⟨dx, hdx⟩ : ∃ d, d = s.1 65 (339 + 2 * k) - s.1 65 (339 + 2 * p) := ⟨_, rfl⟩
    obtain ⟨dy, hdy⟩ : ∃ d, d = s.1 65 (340 + 2 * k) - s.1 65 (340 + 2 * p) := ⟨_, rfl⟩
    have u1 := v_mulb (a := dy) (b := b) (c := 0) (d := 0) (by omega) (by omega)
    have u2 := v_mulb (a := a) (b := dx) (c := 0) (d := 0) a1 (by omega)
    have hp' : (k : Int) < (n : Int) := by omega
    obtain ⟨r1, r2, r3, r4, r5⟩ := ih (k + 1) m m' (by omega) (by omega) (by omega) a b ⟨a1, b1⟩
    show ∃ a' b', v_sv a' b' ∧ F_X11_speed_l25_b s K (F_X11_speed_l25 s K m) _ _ _ _ _ = _ ∧ F_X12_speed_l35_b s K' (F_X12_speed_l35 s K' m') _ _ _ _ _ = _
    unfold F_X11_speed_l25_b F_X12_speed_l35_b
    rw [h1, h2, if_pos hp', if_pos hp', (P_part16 h hkn).1, d_b_t, (P_part16 h hp).1, d_b_t, (P_part16 h hkn).2, d_b_t, (P_part16 h hp).2, d_b_t, f0, f1, f2, f3, d_g_t (by omega), d_g_t (by omega), d_l_t, d_l_t, d_g_t (by omega), d_g_t (by omega), d_l_t, Int.toNat_natCast, Int.toNat_natCast, Int.toNat_natCast, Int.toNat_natCast, ← hdx, ← hdy, d_w_id (x := dx) (by omega) (by omega), d_w_id (x := dy) (by omega) (by omega), hk1, d_w_id (x := dy * b - a * dx) (by omega) (by omega), d_w_id (x := a * dx) (by omega) (by omega), d_w_id (x := dy * b) (by omega) (by omega)]
    by_cases q0 : 0 < dx
    rotate_left
    · rw [if_neg q0, if_neg q0]; exact ⟨r1, r2, r3, r4, r5⟩
    obtain ⟨w1, w2, w3, w4, w5⟩ := ih (k + 1) m m' (by omega) (by omega) (by omega) dy dx ⟨by omega, by omega⟩
    rw [if_pos q0, if_pos q0]
    by_cases q1 : b = 0
    · rw [if_pos q1, if_neg (by omega)]; exact ⟨w1, w2, w3, w4, w5⟩
    rw [if_neg q1, if_pos (show 0 < b by omega)]
    by_cases q2 : x < 2
    · rw [if_pos q2, if_pos q2]
      by_cases q3 : a * dx < dy * b
      · rw [if_pos (by omega), if_pos q3]; exact ⟨w1, w2, w3, w4, w5⟩
      · rw [if_neg (by omega), if_neg q3]; exact ⟨r1, r2, r3, r4, r5⟩
    · rw [if_neg q2, if_neg q2]
      by_cases q3 : dy * b < a * dx
      · rw [if_pos (by omega), if_pos q3]; exact ⟨w1, w2, w3, w4, w5⟩
      · rw [if_neg (by omega), if_neg q3]; exact ⟨r1, r2, r3, r4, r5⟩
theorem v_spo (h : v_ms s n) {x : Int} {K K' : Int → Int → Int → Option Int} : ∀ (j k m m' : Nat), k + j = n → j < m → j < m' → ∀ a b, v_sv a b → ∃ a' b', v_sv a' b' ∧ F_X11_speed_l7 s K m x a b (k : Int) = K x a' b' ∧ F_X12_speed_l20 s K' m' x a b (k : Int) = K' x a' b' := by
  have h' := h
  obtain ⟨h1, h2, h8, h3⟩ := h'
  intro j
  induction j with
  | zero =>
    intro k m m' hk hm hm' a b hab
    obtain ⟨m, rfl⟩ : ∃ q, m = q + 1 := ⟨m - 1, by omega⟩
    obtain ⟨m', rfl⟩ : ∃ q, m' = q + 1 := ⟨m' - 1, by omega⟩
    refine ⟨a, b, hab, ?_, ?_⟩
    · show F_X11_speed_l7_b s K (F_X11_speed_l7 s K m) _ _ _ _ = _
      unfold F_X11_speed_l7_b
      rw [h1, if_neg (by omega)]
    · show F_X12_speed_l20_b s K' (F_X12_speed_l20 s K' m') _ _ _ _ = _
      unfold F_X12_speed_l20_b
      rw [h2, if_neg (by omega)]
  | succ j ih =>
    intro k m m' hk hm hm' a b hab
    obtain ⟨m, rfl⟩ : ∃ q, m = q + 1 := ⟨m - 1, by omega⟩
    obtain ⟨m', rfl⟩ : ∃ q, m' = q + 1 := ⟨m' - 1, by omega⟩
    have hk1 : d_w ((k : Int) + 1) = ((k + 1 : Nat) : Int) := by rw [d_w_id (by omega) (by omega)]; rfl
    obtain ⟨a1, b1, c1, c2, c3⟩ := v_spi h (x := x) (p := k) (by omega) (K := fun x1_u6 x2_u6 x3_u6 x4_u6 => F_X11_speed_l7 s K m x1_u6 x2_u6 x3_u6 (d_w (x4_u6 + 1))) (K' := fun x1_u8 x2_u8 x3_u8 x4_u8 => F_X12_speed_l20 s K' m' x1_u8 x2_u8 x3_u8 (d_w (x4_u8 + 1))) n 0 d_N d_N (by omega) (by rw [d_N_is]; omega) (by rw [d_N_is]; omega) a b hab
    obtain ⟨a2, b2, d1, d2, d3⟩ := ih (k + 1) m m' (by omega) (by omega) (by omega) a1 b1 c1
    refine ⟨a2, b2, d1, ?_, ?_⟩
    · show F_X11_speed_l7_b s K (F_X11_speed_l7 s K m) _ _ _ _ = _
      unfold F_X11_speed_l7_b
      rw [h1, if_pos (by omega)]
      refine (show F_X11_speed_l25 s _ d_N x a b (k : Int) 0 = _ from c2).trans ?_
      show F_X11_speed_l7 s K m x a1 b1 (d_w ((k : Int) + 1)) = _
      rw [hk1]; exact d2
    · show F_X12_speed_l20_b s K' (F_X12_speed_l20 s K' m') _ _ _ _ = _
      unfold F_X12_speed_l20_b
      rw [h2, if_pos (by omega)]
      refine (show F_X12_speed_l35 s _ d_N x a b (k : Int) 0 = _ from c3).trans ?_
      show F_X12_speed_l20 s K' m' x a1 b1 (d_w ((k : Int) + 1)) = _
      rw [hk1]; exact d3
theorem R_speed (h : v_R t s) {x : Int} : v_AP (F_X11_speed s x) (F_X12_speed s x) := by
  obtain ⟨n, hn⟩ := h.measures
  have h8 := hn.2.2.1
  have n10 : ¬ (1 : Int) = 0 := by decide
  unfold v_AP F_X11_speed F_X12_speed
  obtain ⟨a, b, ⟨a1, b1⟩, c2, c3⟩ := v_spo hn (x := x) (K := fun x1_u7 x2_u7 x3_u7 => if x3_u7 = 0 then F_X11_speed_j167 s else d_b (F_X11_within x1_u7 0 3) (fun v8 => if v8 = 0 then F_X11_speed_j167 s else if (d_rem x1_u7 2) = 0 then F_X11_speed_j182 s x2_u7 x3_u7 x2_u7 else F_X11_speed_j182 s x2_u7 x3_u7 x3_u7)) (K' := fun x1_u9 x2_u9 x3_u9 => if x3_u9 = 0 then some (-100000) else if (d_rem x1_u9 2) = 1 then d_b (F_X12_part x2_u9 x3_u9 1) (fun v10 => some (d_w v10)) else d_b (F_X12_part x2_u9 x3_u9 0) (fun v11 => some (d_w v11))) n 0 d_N d_N (by omega) (by rw [d_N_is]; omega) (by rw [d_N_is]; omega) 0 0 ⟨by omega, by omega⟩
  have c2 : F_X11_speed_l7 s _ d_N x 0 0 0 = _ := c2
  have c3 : F_X12_speed_l20 s _ d_N x 0 0 0 = _ := c3
  rw [c2, P_isIn, d_b_t, c3]
  by_cases q0 : b = 0
  · refine ⟨-100000, ?_, ?_⟩
    · show (if b = 0 then _ else _) = _
      rw [if_pos q0]; rfl
    · by_cases q : 0 ≤ x ∧ x ≤ 3
      · rw [v_bt q, if_neg n10]
        show (if b = 0 then _ else _) = _
        rw [if_pos q0]
      · rw [v_bf q, if_pos rfl]
  by_cases q : 0 ≤ x ∧ x ≤ 3
  rotate_left
  · refine ⟨-100000, ?_, ?_⟩
    · show (if b = 0 then _ else _) = _
      rw [if_neg q0, P_within, d_b_t, v_bf q, if_pos rfl]; rfl
    · rw [v_bf q, if_pos rfl]
  have hg1 : 1 ≤ Nat.gcd a.natAbs b.toNat := Nat.gcd_pos_of_pos_right _ (by omega)
  have hg2 : Nat.gcd a.natAbs b.toNat ≤ b.toNat := Nat.gcd_le_right _ (by omega)
  have er : d_rem x 2 = x % 2 := v_remI (by omega) (by omega) (by decide) (by decide)
  rw [v_bt q, if_neg n10]
  by_cases q2 : x % 2 = 0
  · refine ⟨d_div a ((Nat.gcd a.natAbs b.toNat : Nat) : Int), ?_, ?_⟩
    · show (if b = 0 then _ else _) = _
      unfold F_X11_speed_j182
      rw [if_neg q0, P_within, d_b_t, v_bt q, if_neg n10, er, if_pos q2, P_divisor (by omega) (by omega), d_b_t, d_g_t (by omega)]
    · show (if b = 0 then _ else _) = _
      unfold F_X12_part F_X12_part_j10
      rw [if_neg q0, er, if_neg (by omega), if_pos (show (0 : Int) = 0 from rfl), P_gcd (by omega) (by omega), d_b_t, d_g_t (by omega), d_b_t, v_dLd (by omega) (by omega)]
  · refine ⟨d_div b ((Nat.gcd a.natAbs b.toNat : Nat) : Int), ?_, ?_⟩
    · show (if b = 0 then _ else _) = _
      unfold F_X11_speed_j182
      rw [if_neg q0, P_within, d_b_t, v_bt q, if_neg n10, er, if_neg q2, P_divisor (by omega) (by omega), d_b_t, d_g_t (by omega)]
    · show (if b = 0 then _ else _) = _
      unfold F_X12_part F_X12_part_j10
      rw [if_neg q0, er, if_pos (by omega), if_neg n10, P_gcd (by omega) (by omega), d_b_t, d_g_t (by omega), d_b_t, v_dLd (by omega) (by omega)]
end V42

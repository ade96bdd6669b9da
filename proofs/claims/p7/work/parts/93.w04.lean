/-! Numbers and words as both sides have them -/
section TBR
variable {b : Nat → Nat} {n : Nat}
/-- two loops side by side -/
theorem t_lp_two {α β : Type} {g : Nat → Bool} {s : Nat → α → α} {s' : Nat → β → β} {R : α → β → Prop} (hs : ∀ q x y, q < n → g q = true → R x y → R (s q x) (s' q y)) : ∀ (j q : Nat) (x : α) (y : β), q + j = n → R x y → R (t_lp n g s q x).2 (t_lp n g s' q y).2 := by
  intro j
  induction j with
  | zero => intro q x y h hr; rw [t_lp_no (fun e => absurd e.1 (by omega)), t_lp_no (fun e => absurd e.1 (by omega))]; exact hr
  | succ j ih =>
    intro q x y h hr
    by_cases e : q < n ∧ g q = true
    · rw [t_lp_go e.1 e.2, t_lp_go e.1 e.2]; exact ih _ _ _ (by omega) (hs q x y e.1 e.2 hr)
    · rw [t_lp_no e, t_lp_no e]; exact hr
theorem t_ml_n {p : Nat} (hp : p ≤ n) : (t_ml b n p).2 = min 10000 (t_n b n p) := by
  unfold t_ml t_n t_nl
  refine t_lp_two (R := fun (x y : Nat) => x = min 10000 y) (fun q x y h hg hr => ?_) (n - p) p 0 0 (by omega) (by rfl)
  have hg : t_fi (b q) = true := hg
  have e48 : 48 ≤ b q ∧ b q ≤ 57 := by
    unfold t_fi at hg
    rw [Bool.and_eq_true] at hg
    exact ⟨Nat.le_of_ble_eq_true hg.1, Nat.le_of_ble_eq_true hg.2⟩
  have hr : x = min 10000 y := hr
  show t_ms b q x = min 10000 (t_ns b q y)
  unfold t_ms t_ns
  by_cases c1 : 99999 < y
  · rw [if_pos c1]; omega
  · rw [if_neg c1]; omega
/-- m letters, 8 at most are seen -/
def t_Lt (z : Int64) (v : Nat) : Prop := ∃ (m x : Nat), m ≤ 8 ∧ x < 2 ^ 64 ∧ z = Int64.ofNat x ∧ (∀ i, i < m → 65 ≤ x / 256 ^ i % 256) ∧ (m ≤ 7 → v = x ∧ x < 256 ^ m) ∧ (m = 8 → v = 2 ^ 60)
theorem t_shl2 {v c : Nat} (hv : v < 2 ^ 64) (hc : c < 256) : ((Int64.ofNat v <<< ((Int32.ofNat 8).toInt64 &&& 63)) ||| (Int32.ofNat c).toInt64) = Int64.ofNat (256 * (v % 2 ^ 56) + c) := by
  have ec : (Int32.ofNat c).toInt64 = Int64.ofNat c := Int32.toInt64_ofNat' (by rw [show Int32.maxValue.toInt = 2147483647 by decide]; omega)
  rw [ec]
  apply Int64.toBitVec_inj.mp
  apply BitVec.eq_of_toNat_eq
  show ((BitVec.ofNat 64 v <<< ((((Int32.ofNat 8).toInt64 &&& 63)).toBitVec.smod 64)) ||| BitVec.ofNat 64 c).toNat = (BitVec.ofNat 64 (256 * (v % 2 ^ 56) + c)).toNat
  have e1 : v <<< 8 % 2 ^ 64 = (v % 2 ^ 56) <<< 8 := by rw [Nat.shiftLeft_eq, Nat.shiftLeft_eq]; omega
  rw [BitVec.toNat_or, BitVec.shiftLeft_eq', show ((((Int32.ofNat 8).toInt64 &&& 63)).toBitVec.smod 64).toNat = 8 by decide, BitVec.toNat_shiftLeft, BitVec.toNat_ofNat, BitVec.toNat_ofNat, BitVec.toNat_ofNat, Nat.mod_eq_of_lt (show v < 2 ^ 64 by omega), Nat.mod_eq_of_lt (show c < 2 ^ 64 by omega), Nat.mod_eq_of_lt (show 256 * (v % 2 ^ 56) + c < 2 ^ 64 by omega), e1, ← Nat.shiftLeft_add_eq_or_of_lt (show c < 2 ^ 8 by omega), Nat.shiftLeft_eq]
  omega
theorem t_byte {x c : Nat} (hc : c < 256) (i : Nat) : (256 * x + c) / 256 ^ (i + 1) % 256 = x / 256 ^ i % 256 := by
  have : (256 * x + c) / 256 ^ (i + 1) = x / 256 ^ i := by
    have e : 256 ^ (i + 1) = 256 * 256 ^ i := by rw [Nat.pow_succ, Nat.mul_comm]
    rw [e, ← Nat.div_div_eq_div_mul, show (256 * x + c) / 256 = x by omega]
  rw [this]
theorem t_zl_w {p : Nat} (hp : p ≤ n) (hb : ∀ k, k < n → b k < 256) : t_Lt (t_zl b n p).2 (t_w b n p) := by
  unfold t_zl t_w t_wl
  refine t_lp_two (R := t_Lt) (fun q z v h hg hr => ?_) (n - p) p _ _ (by omega) ⟨0, 0, by omega, by omega, rfl, fun i hi => absurd hi (Nat.not_lt_zero i), fun _ => ⟨rfl, by decide⟩, fun e => absurd e (by decide)⟩
  have hg : t_al (b q) = true := hg
  have e65 : 65 ≤ b q := by
    unfold t_al at hg
    rw [Bool.or_eq_true, Bool.and_eq_true, Bool.and_eq_true] at hg
    rcases hg with g | g
    · have := Nat.le_of_ble_eq_true g.1; omega
    · exact Nat.le_of_ble_eq_true g.1
  have c256 := hb q h
  obtain ⟨m, x, hm, hx, rfl, h1, h2, h3⟩ := hr
  show t_Lt (t_zs b q (Int64.ofNat x)) (t_wst b q v)
  unfold t_zs
  rw [t_shl2 hx c256]
  have bytes : ∀ y, (∀ i, i < m → i < 7 → 65 ≤ y / 256 ^ i % 256) → ∀ i, i < min 8 (m + 1) → 65 ≤ (256 * y + b q) / 256 ^ i % 256 := by
    intro y hy i hi
    cases i with
    | zero => rw [Nat.pow_zero, Nat.div_one]; omega
    | succ i => rw [t_byte c256]; exact hy i (by omega) (by omega)
  by_cases m6 : m ≤ 6
  · obtain ⟨ev, hl⟩ := h2 (by omega)
    subst ev
    have hl6 : v < 256 ^ 6 := Nat.lt_of_lt_of_le hl (Nat.pow_le_pow_right (by decide) m6)
    have hl6 : v < 281474976710656 := by simpa using hl6
    rw [Nat.mod_eq_of_lt (show v < 2 ^ 56 by omega)]
    refine ⟨m + 1, 256 * v + b q, by omega, by omega, rfl, fun i hi => bytes v (fun i hi _ => h1 i hi) i (by omega), fun _ => ⟨?_, ?_⟩, fun e => by omega⟩
    · unfold t_wst; rw [if_neg (by omega)]
    · rw [Nat.pow_succ]; omega
  · refine ⟨8, 256 * (x % 2 ^ 56) + b q, by omega, by omega, rfl, fun i hi => bytes (x % 2 ^ 56) (fun i hi i7 => ?_) i (by omega), fun e => by omega, fun _ => ?_⟩
    · have h65 := h1 i hi
      have : x % 2 ^ 56 / 256 ^ i % 256 = x / 256 ^ i % 256 := by
        have e : i = 0 ∨ i = 1 ∨ i = 2 ∨ i = 3 ∨ i = 4 ∨ i = 5 ∨ i = 6 := by omega
        rcases e with rfl | rfl | rfl | rfl | rfl | rfl | rfl <;> simp only [Nat.reducePow] <;> omega
      rw [this]; exact h65
    · unfold t_wst
      by_cases m7 : m = 7
      · obtain ⟨ev, hl⟩ := h2 (by omega)
        subst ev
        have := h1 6 (by omega)
        rw [if_pos]
        have h6 : 65 ≤ v / 281474976710656 % 256 := by simpa using this
        omega
      · rw [h3 (by omega), if_pos (by decide)]
theorem t_Wn_b : ∀ k, k < 22 → t_Wn.getD k 0 < 281474976710656 := by decide
theorem t_W_n : ∀ k, k < 22 → t_W[k]? = some (Int64.ofNat (t_Wn.getD k 0)) := by decide
theorem t_o64 {x y : Nat} (hx : x < 2 ^ 64) (hy : y < 2 ^ 64) : Int64.ofNat x = Int64.ofNat y ↔ x = y := by
  constructor
  · intro e
    have e := congrArg (fun z : Int64 => z.toBitVec.toNat) e
    have e : (BitVec.ofNat 64 x).toNat = (BitVec.ofNat 64 y).toNat := e
    rw [BitVec.toNat_ofNat, BitVec.toNat_ofNat] at e
    omega
  · intro e; rw [e]
/-- the class's letters are word k as the reference's are -/
theorem t_Lt_k {z : Int64} {v : Nat} (h : t_Lt z v) {k : Nat} (hk : k < 22) : t_W[k]? = some z ↔ v = t_Wn.getD k 0 := by
  have hw := t_Wn_b k hk
  rw [t_W_n k hk]
  obtain ⟨m, x, hm, hx, rfl, h1, h2, h3⟩ := h
  rw [Option.some.injEq, t_o64 (by omega) hx]
  by_cases m7 : m ≤ 7
  · obtain ⟨ev, -⟩ := h2 m7
    omega
  · have e3 := h3 (by omega)
    have h65 := h1 7 (by omega)
    have h65 : 65 ≤ x / 72057594037927936 % 256 := by simpa using h65
    omega
theorem t_Wn_i : ∀ k, k < 22 → ∀ j, j < 22 → t_Wn.getD k 0 = t_Wn.getD j 0 → k = j := by decide
/-- the number that the class has for a word -/
theorem t_IX_k {z : Int64} {w : Nat} {v : Int32} (h : t_Lt z w) (hv : t_IX z v) {k : Nat} (hk : k < 22) : v = Int32.ofNat k ↔ w = t_Wn.getD k 0 := by
  rcases hv with ⟨j, hj, h1, rfl⟩ | ⟨h1, rfl⟩
  · have e := (t_Lt_k h hj).mp h1
    constructor
    · intro q
      have := congrArg Int32.toInt q
      rw [g_ofNat (by omega), g_ofNat (by omega)] at this
      have : j = k := by omega
      rw [← this]; exact e
    · intro q
      rw [t_Wn_i k hk j hj (by rw [← q, ← e])]
  · constructor
    · intro q
      have := congrArg Int32.toInt q
      rw [g_ofNat (by omega), show (Int32.ofInt (-1)).toInt = -1 by decide] at this
      omega
    · intro q
      exact absurd ((t_Lt_k h hk).mpr q) (h1 k hk)
end TBR

/-! Numbers of 32 and 64 bits by their integers -/
theorem x_bm {a : Int} (h1 : -2147483648 ≤ a) (h2 : a ≤ 2147483647) : a.bmod (2 ^ 32) = a := Int.bmod_eq_of_le (by omega) (by omega)
theorem x_bm6 {a : Int} (h1 : -9223372036854775808 ≤ a) (h2 : a ≤ 9223372036854775807) : a.bmod (2 ^ 64) = a := Int.bmod_eq_of_le (by omega) (by omega)
theorem x_add {x y : Int32} (h1 : -2147483648 ≤ x.toInt + y.toInt) (h2 : x.toInt + y.toInt ≤ 2147483647) : (x + y).toInt = x.toInt + y.toInt := by rw [Int32.toInt_add]; exact x_bm h1 h2
theorem x_sub {x y : Int32} (h1 : -2147483648 ≤ x.toInt - y.toInt) (h2 : x.toInt - y.toInt ≤ 2147483647) : (x - y).toInt = x.toInt - y.toInt := by rw [Int32.toInt_sub]; exact x_bm h1 h2
theorem x_mul {x y : Int32} (h1 : -2147483648 ≤ x.toInt * y.toInt) (h2 : x.toInt * y.toInt ≤ 2147483647) : (x * y).toInt = x.toInt * y.toInt := by rw [Int32.toInt_mul]; exact x_bm h1 h2
theorem x_neg {x : Int32} (h2 : -x.toInt ≤ 2147483647) : (-x).toInt = -x.toInt := by rw [Int32.toInt_neg]; have := x_I32 x; exact x_bm (by omega) h2
theorem x_add6 {x y : Int64} (h1 : -9223372036854775808 ≤ x.toInt + y.toInt) (h2 : x.toInt + y.toInt ≤ 9223372036854775807) : (x + y).toInt = x.toInt + y.toInt := by rw [Int64.toInt_add]; exact x_bm6 h1 h2
theorem x_sub6 {x y : Int64} (h1 : -9223372036854775808 ≤ x.toInt - y.toInt) (h2 : x.toInt - y.toInt ≤ 9223372036854775807) : (x - y).toInt = x.toInt - y.toInt := by rw [Int64.toInt_sub]; exact x_bm6 h1 h2
theorem x_neg6 {x : Int64} (h2 : -x.toInt ≤ 9223372036854775807) : (-x).toInt = -x.toInt := by rw [Int64.toInt_neg]; have := x_I64 x; exact x_bm6 (by omega) h2
theorem x_i2l (x : Int32) : x.toInt64.toInt = x.toInt := Int32.toInt_toInt64 x
theorem x_l2i {x : Int64} (h1 : -2147483648 ≤ x.toInt) (h2 : x.toInt ≤ 2147483647) : x.toInt32.toInt = x.toInt := by rw [Int64.toInt_toInt32]; exact x_bm h1 h2
theorem x_nat {x : Int32} (h : 0 ≤ x.toInt) : x.toBitVec.toNat = x.toInt.toNat := by
  have h1 : x.toInt = x.toBitVec.toInt := rfl
  rw [h1] at h ⊢
  rw [BitVec.toInt_eq_toNat_cond] at h ⊢
  split at h <;> omega
theorem x_ofn {x : Int32} {k : Nat} (h : x.toBitVec.toNat = k) (hk : k < 2147483648) : x.toInt = k := by
  have h1 : x.toInt = x.toBitVec.toInt := rfl
  rw [h1, BitVec.toInt_eq_toNat_cond, h, if_pos (by omega)]
theorem x_and {x y : Int32} (h : 0 ≤ y.toInt) : 0 ≤ (x &&& y).toInt ∧ (x &&& y).toInt ≤ y.toInt := by
  have e : (x &&& y).toBitVec.toNat = x.toBitVec.toNat &&& y.toBitVec.toNat := by rw [Int32.toBitVec_and, BitVec.toNat_and]
  have h1 := Nat.and_le_right (n := x.toBitVec.toNat) (m := y.toBitVec.toNat)
  rw [x_nat h] at h1 e
  have h2 := x_I32 y
  rw [x_ofn e (by omega)]
  omega
theorem x_andl {x y : Int32} (h : 0 ≤ x.toInt) : 0 ≤ (x &&& y).toInt ∧ (x &&& y).toInt ≤ x.toInt := by
  rw [Int32.and_comm]; exact x_and h
theorem x_or {x y : Int32} {k : Nat} (hk : k ≤ 31) (h1 : 0 ≤ x.toInt) (h2 : x.toInt < 2 ^ k) (h3 : 0 ≤ y.toInt) (h4 : y.toInt < 2 ^ k) : 0 ≤ (x ||| y).toInt ∧ (x ||| y).toInt < 2 ^ k := by
  have e : (x ||| y).toBitVec.toNat = x.toBitVec.toNat ||| y.toBitVec.toNat := by rw [Int32.toBitVec_or, BitVec.toNat_or]
  rw [x_nat h1, x_nat h3] at e
  have c1 : x.toInt.toNat < 2 ^ k := by have : (x.toInt.toNat : Int) < ((2 ^ k : Nat) : Int) := by rw [Int.toNat_of_nonneg h1]; push_cast; exact h2
                                        exact Int.ofNat_lt.mp this
  have c2 : y.toInt.toNat < 2 ^ k := by have : (y.toInt.toNat : Int) < ((2 ^ k : Nat) : Int) := by rw [Int.toNat_of_nonneg h3]; push_cast; exact h4
                                        exact Int.ofNat_lt.mp this
  have h5 := Nat.or_lt_two_pow c1 c2
  have h6 : 2 ^ k ≤ 2 ^ 31 := Nat.pow_le_pow_right (by decide) hk
  have h7 : (2 : Nat) ^ 31 = 2147483648 := by decide
  rw [x_ofn e (by omega)]
  refine ⟨by omega, ?_⟩
  have : ((x.toInt.toNat ||| y.toInt.toNat : Nat) : Int) < ((2 ^ k : Nat) : Int) := Int.ofNat_lt.mpr h5
  push_cast at this
  exact_mod_cast this
theorem x_rem {x y : Int32} : (x - x / y * y).toInt = x.toInt.tmod y.toInt := rem_toInt x y
theorem x_rem6 {x y : Int64} : (x - x / y * y).toInt = x.toInt.tmod y.toInt := by
  have : x - x / y * y = x % y := by
    apply Int64.toInt_inj.mp
    have h1 := Int64.le_toInt (x % y)
    have h2 := Int64.toInt_lt (x % y)
    rw [Int64.toInt_sub, Int64.toInt_mul, Int64.toInt_div, Int.bmod_mul_bmod, Int.sub_bmod_bmod, Int.mul_comm (x.toInt.tdiv y.toInt), ← Int.tmod_def, ← Int64.toInt_mod]
    exact Int.bmod_eq_of_le_mul_two (by omega) (by omega)
  rw [this]; exact Int64.toInt_mod x y
theorem x_shr {x y : Int32} {k : Nat} (hk : k < 32) (hy : y.toInt = k) : (x >>> (y &&& 31)).toInt = x.toInt / 2 ^ k := by
  have e : y = Int32.ofNat k := by
    apply Int32.toInt_inj.mp
    rw [hy, Int32.toInt_ofNat_of_lt (by omega)]
  subst e
  have h31 : ∀ k : Nat, k < 32 → ((Int32.ofNat k &&& 31).toBitVec.smod 32).toNat = k := by decide
  have := pk_shr x (Int32.ofNat k &&& 31) k (h31 k hk)
  rw [this, Int.shiftRight_eq_div_pow]
  push_cast; rfl

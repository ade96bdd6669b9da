/-! The machine for the kernel is sound. Numbers -/
theorem s_and_iff {c k : Bool} : s_and c k = true ↔ c = true ∧ k = true := by cases c <;> simp [s_and]
theorem s_if_iff {c a b : Bool} : s_if c a b = true ↔ (c = true ∧ a = true) ∨ (c = false ∧ b = true) := by cases c <;> simp [s_if]
theorem s_fn_eq {k : Nat → Bool} {n : Nat} : s_fn k n = k n := by cases n <;> rfl
theorem s_fn0_eq {k : Int → Bool} {n : Nat} : s_fn0 k n = k (Int.ofNat n) := by cases n <;> rfl
theorem s_fn1_eq {k : Int → Bool} {n : Nat} : s_fn1 k n = k (Int.negSucc n) := by cases n <;> rfl
theorem s_fz_eq {k : Int → Bool} {z : Int} : s_fz z k = k z := by
  cases z with
  | ofNat n => exact s_fn0_eq
  | negSucc n => exact s_fn1_eq
def s_I (z : Int) : Prop := -2147483648 ≤ z ∧ z ≤ 2147483647
theorem s_I_eq {z : Int} (h : s_I z) : (Int32.ofInt z).toInt = z := Int32.toInt_ofInt_of_le (by have := h.1; omega) (by have := h.2; omega)
theorem s_w_aux {k : Int → Bool} (z : Int) (b x : Bool) (hx : b = true → s_I z ∧ x = k z) : ∃ z', s_I z' ∧ Int32.ofInt z' = Int32.ofInt z ∧ s_if b x (s_w2 z k) = k z' := by
  cases b with
  | true => exact ⟨z, (hx rfl).1, rfl, (hx rfl).2⟩
  | false => exact ⟨(Int32.ofInt z).toInt, x_I32 _, Int32.ofInt_toInt _, s_fz_eq⟩
theorem s_w_eq (z : Int) (k : Int → Bool) : ∃ z', s_I z' ∧ Int32.ofInt z' = Int32.ofInt z ∧ s_w z k = k z' := by
  cases z with
  | ofNat n => exact s_w_aux (Int.ofNat n) (Nat.ble n 2147483647) (s_fn0 k n) (fun hn => ⟨by have := Nat.le_of_ble_eq_true hn; exact ⟨by simp only [Int.ofNat_eq_natCast]; omega, by simp only [Int.ofNat_eq_natCast]; omega⟩, s_fn0_eq⟩)
  | negSucc n => exact s_w_aux (Int.negSucc n) (Nat.ble n 2147483647) (s_fn1 k n) (fun hn => ⟨by have := Nat.le_of_ble_eq_true hn; exact ⟨by omega, by omega⟩, s_fn1_eq⟩)
theorem s_eqz_iff {x y : Int} : s_eqz x y = true ↔ x = y := by
  cases x with
  | ofNat a => cases y with
    | ofNat b => exact ⟨fun h => by rw [Nat.eq_of_beq_eq_true h], fun h => by cases h; exact Nat.beq_refl a⟩
    | negSucc b => exact ⟨fun h => (by cases h), fun h => (by cases h)⟩
  | negSucc a => cases y with
    | ofNat b => exact ⟨fun h => (by cases h), fun h => (by cases h)⟩
    | negSucc b => exact ⟨fun h => by rw [Nat.eq_of_beq_eq_true h], fun h => by cases h; exact Nat.beq_refl a⟩
theorem s_ltz_iff {x y : Int} : s_ltz x y = true ↔ x < y := by
  cases x with
  | ofNat a => cases y with
    | ofNat b => exact ⟨fun h => by have := Nat.le_of_ble_eq_true h; simp only [Int.ofNat_eq_natCast]; omega, fun h => Nat.ble_eq_true_of_le (by simp only [Int.ofNat_eq_natCast] at h; omega)⟩
    | negSucc b => exact ⟨fun h => (by cases h), fun h => by simp only [Int.ofNat_eq_natCast] at h; omega⟩
  | negSucc a => cases y with
    | ofNat b => exact ⟨fun _ => by simp only [Int.ofNat_eq_natCast]; omega, fun _ => rfl⟩
    | negSucc b => exact ⟨fun h => by have := Nat.le_of_ble_eq_true h; omega, fun h => Nat.ble_eq_true_of_le (by omega)⟩
theorem s_b_f {a : Bool} {p : Prop} (h : a = true ↔ p) : (s_if a false true = true) ↔ ¬ p := by
  rw [← h]; cases a <;> simp [s_if]
/-- a comparison of numbers is the ints' -/
theorem s_cf_ok {c : ClassFile.Cond} {x y : Int32} : s_cf c x.toInt y.toInt = p_cd c x y := by
  have he : x = y ↔ x.toInt = y.toInt := Int32.toInt_inj.symm
  have hl : x < y ↔ x.toInt < y.toInt := Int32.lt_iff_toInt_lt
  have hl2 : y < x ↔ y.toInt < x.toInt := Int32.lt_iff_toInt_lt
  have hle : x ≤ y ↔ x.toInt ≤ y.toInt := Int32.le_iff_toInt_le
  have hle2 : y ≤ x ↔ y.toInt ≤ x.toInt := Int32.le_iff_toInt_le
  rw [Bool.eq_iff_iff]
  cases c with
  | eq => show s_eqz _ _ = true ↔ _; rw [s_eqz_iff]; simp only [p_cd, decide_eq_true_eq]; exact he.symm
  | ne => show s_if _ _ _ = true ↔ _; rw [s_b_f s_eqz_iff]; simp only [p_cd, decide_eq_true_eq]; rw [he]
  | lt => show s_ltz _ _ = true ↔ _; rw [s_ltz_iff]; simp only [p_cd, decide_eq_true_eq]; exact hl.symm
  | ge => show s_if _ _ _ = true ↔ _; rw [s_b_f s_ltz_iff]; simp only [p_cd, decide_eq_true_eq]; rw [hle2]; omega
  | gt => show s_ltz _ _ = true ↔ _; rw [s_ltz_iff]; simp only [p_cd, decide_eq_true_eq]; exact hl2.symm
  | le => show s_if _ _ _ = true ↔ _; rw [s_b_f s_ltz_iff]; simp only [p_cd, decide_eq_true_eq]; rw [hle]; omega
def s_key (e : s_E) : Nat := match e with
  | .leaf z => z.toNat
  | _ => 0
def s_ov (op : Nat) (x y : Int32) : Int32 := match op with
  | 1 => x + y
  | 2 => x - y
  | 3 => x * y
  | 4 => x &&& y
  | 5 => x ||| y
  | 6 => x ^^^ y
  | 7 => x <<< (y &&& 31)
  | 8 => x >>> (y &&& 31)
  | 9 => (x.toUInt32 >>> (y.toUInt32 &&& Int32.toUInt32 31)).toInt32
  | 10 => x / y
  | 11 => x - x / y * y
  | 12 => x.toInt8.toInt32
  | 13 => -x
  | _ => x
/-- what an expression is -/
def s_ev (θ : Nat → Int32) : s_E → Int32
  | .leaf z => Int32.ofInt z
  | .branch 0 l _ => θ (s_key l)
  | .branch (op + 1) l r => s_ov (op + 1) (s_ev θ l) (s_ev θ r)
/-- numbers reckoned are the ints' -/
def s_cok (op : Nat) (f : Int → Int → Int) : Prop := ∀ x y : Int, s_I x → s_I y → (op = 10 ∨ op = 11 → y ≠ 0) → Int32.ofInt (f x y) = s_ov op (Int32.ofInt x) (Int32.ofInt y)
theorem s_ok_add : s_cok 1 s_cadd := by
  intro x y _ _ _
  have : s_cadd x y = x + y := by cases x <;> cases y <;> rfl
  rw [this, Int32.ofInt_add]; rfl
theorem s_ok_sub : s_cok 2 s_csub := by
  intro x y _ _ _
  have : s_csub x y = x - y := by
    cases x with
    | ofNat a => cases y with
      | ofNat b =>
        show Bool.rec (motive := fun _ => Int) (Int.sub (Int.ofNat a) (Int.ofNat b)) (Int.ofNat (Nat.sub a b)) (Nat.ble b a) = _
        cases h : Nat.ble b a with
        | false => rfl
        | true =>
          have := Nat.le_of_ble_eq_true h
          show Int.ofNat (a - b) = Int.ofNat a - Int.ofNat b
          simp only [Int.ofNat_eq_natCast]; omega
      | negSucc b => rfl
    | negSucc a => rfl
  rw [this, Int32.ofInt_sub]; rfl
theorem s_cmul_eq {x y : Int} : s_cmul x y = x * y := by cases x <;> cases y <;> rfl
theorem s_ok_mul : s_cok 3 s_cmul := by
  intro x y _ _ _
  rw [s_cmul_eq, Int32.ofInt_mul]; rfl
theorem s_on {a : Nat} : Int32.ofInt (Int.ofNat a) = Int32.ofNat a := Int32.ofInt_eq_ofNat
theorem s_nn_n {f : Nat → Nat → Nat} {k : Int → Int → Int} {a b : Nat} : s_nn f k (Int.ofNat a) (Int.ofNat b) = Int.ofNat (f a b) := rfl
theorem s_nn_r {f : Nat → Nat → Nat} {k : Int → Int → Int} {a b : Nat} : s_nn f k (Int.ofNat a) (Int.negSucc b) = k (Int.ofNat a) (Int.negSucc b) := rfl
theorem s_nn_l {f : Nat → Nat → Nat} {k : Int → Int → Int} {a : Nat} {y : Int} : s_nn f k (Int.negSucc a) y = k (Int.negSucc a) y := rfl
theorem s_ok_and : s_cok 4 s_cand := by
  intro x y _ _ _
  have hk : Int32.ofInt (s_kand x y) = Int32.ofInt x &&& Int32.ofInt y := Int32.ofInt_toInt _
  show Int32.ofInt (s_nn Nat.land s_kand x y) = Int32.ofInt x &&& Int32.ofInt y
  cases x with
  | ofNat a => cases y with
    | ofNat b =>
      rw [s_nn_n, s_on, s_on, s_on, show Nat.land a b = a &&& b from rfl]
      exact Int32.toBitVec.inj (by simp)
    | negSucc b => rw [s_nn_r]; exact hk
  | negSucc a => rw [s_nn_l]; exact hk
theorem s_ok_or : s_cok 5 s_cor := by
  intro x y _ _ _
  have hk : Int32.ofInt (s_kor x y) = Int32.ofInt x ||| Int32.ofInt y := Int32.ofInt_toInt _
  show Int32.ofInt (s_nn Nat.lor s_kor x y) = Int32.ofInt x ||| Int32.ofInt y
  cases x with
  | ofNat a => cases y with
    | ofNat b =>
      rw [s_nn_n, s_on, s_on, s_on, show Nat.lor a b = a ||| b from rfl]
      exact Int32.toBitVec.inj (by simp)
    | negSucc b => rw [s_nn_r]; exact hk
  | negSucc a => rw [s_nn_l]; exact hk
theorem s_ok_xor : s_cok 6 s_cxor := fun x y _ _ _ => Int32.ofInt_toInt _
theorem s_ok_ushr : s_cok 9 s_cushr := fun x y _ _ _ => Int32.ofInt_toInt _
theorem s_ok_i2b : s_cok 12 s_ci2b := fun x y _ _ _ => Int32.ofInt_toInt _
theorem s_ok_neg : s_cok 13 s_cneg := fun x y _ _ _ => Int32.ofInt_toInt _
theorem s_I32 {z : Int} (h : s_I z) : Int32.minValue.toInt ≤ z ∧ z ≤ Int32.maxValue.toInt := ⟨h.1, h.2⟩
theorem s_ok_div : s_cok 10 s_cdiv := by
  intro x y hx hy hn
  have hk : Int32.ofInt (s_kdiv x y) = Int32.ofInt x / Int32.ofInt y := Int32.ofInt_toInt _
  show Int32.ofInt (s_nn Nat.div s_kdiv x y) = Int32.ofInt x / Int32.ofInt y
  cases x with
  | ofNat a => cases y with
    | ofNat b =>
      rw [s_nn_n, ← Int32.ofInt_tdiv (s_I32 hx).1 (s_I32 hx).2 (s_I32 hy).1 (s_I32 hy).2, show (Int.ofNat a).tdiv (Int.ofNat b) = Int.ofNat (a / b) from rfl, show Nat.div a b = a / b from rfl]
    | negSucc b => rw [s_nn_r]; exact hk
  | negSucc a => rw [s_nn_l]; exact hk
theorem s_ok_rem : s_cok 11 s_crem := by
  intro x y hx hy hn
  have hk : Int32.ofInt (s_krem x y) = Int32.ofInt x - Int32.ofInt x / Int32.ofInt y * Int32.ofInt y := Int32.ofInt_toInt _
  show Int32.ofInt (s_nn Nat.mod s_krem x y) = Int32.ofInt x - Int32.ofInt x / Int32.ofInt y * Int32.ofInt y
  cases x with
  | ofNat a => cases y with
    | ofNat b =>
      rw [s_nn_n, show Nat.mod a b = a % b from rfl]
      apply Int32.toInt_inj.mp
      rw [x_rem, s_I_eq hx, s_I_eq hy]
      have hm : (Int.ofNat a).tmod (Int.ofNat b) = Int.ofNat (a % b) := rfl
      rw [hm]
      refine s_I_eq ⟨by simp only [Int.ofNat_eq_natCast]; omega, ?_⟩
      have h1 := hx.2
      have h2 := Nat.mod_le a b
      simp only [Int.ofNat_eq_natCast] at h1 ⊢
      omega
    | negSucc b => rw [s_nn_r]; exact hk
  | negSucc a => rw [s_nn_l]; exact hk
theorem s_and31 {b : Nat} (h : b ≤ 31) : (Int32.ofNat b &&& 31) = Int32.ofNat b := by
  have : ∀ b, b < 32 → (Int32.ofNat b &&& 31) = Int32.ofNat b := by decide +kernel
  exact this b (by omega)
theorem s_shl_m (x : Int32) (b : Nat) (h : b < 32) : x <<< Int32.ofNat b = x * Int32.ofNat (2 ^ b) := by
  apply Int32.toBitVec.inj
  have hm : (Int32.ofNat b).toBitVec.smod 32 = BitVec.ofNat 32 b := by
    have : ∀ b, b < 32 → (Int32.ofNat b).toBitVec.smod 32 = BitVec.ofNat 32 b := by decide +kernel
    exact this b h
  rw [Int32.toBitVec_shiftLeft, hm, Int32.toBitVec_mul]
  apply BitVec.eq_of_toNat_eq
  rw [BitVec.toNat_mul]
  simp only [BitVec.shiftLeft_eq', BitVec.toNat_shiftLeft, Int32.toBitVec_ofNat', BitVec.toNat_ofNat, Nat.shiftLeft_eq]
  have e1 : b % 2 ^ 32 = b := Nat.mod_eq_of_lt (by omega)
  rw [e1, Nat.mul_mod_mod]
theorem s_ok_shl : s_cok 7 s_cshl := by
  intro x y hx hy _
  have hk : Int32.ofInt (s_kshl x y) = Int32.ofInt x <<< (Int32.ofInt y &&& 31) := Int32.ofInt_toInt _
  show Int32.ofInt (s_cshl x y) = Int32.ofInt x <<< (Int32.ofInt y &&& 31)
  cases y with
  | ofNat b =>
    rw [show s_cshl x (Int.ofNat b) = Bool.rec (motive := fun _ => Int) (s_kshl x (Int.ofNat b)) (s_cmul x (Int.ofNat (2 ^ b))) (Nat.ble b 31) from rfl]
    cases h : Nat.ble b 31 with
    | false => exact hk
    | true =>
      have hb := Nat.le_of_ble_eq_true h
      show Int32.ofInt (s_cmul x (Int.ofNat (2 ^ b))) = _
      rw [s_cmul_eq, Int32.ofInt_mul, s_on, s_on, s_and31 hb, s_shl_m _ _ (by omega)]
  | negSucc b => rw [show s_cshl x (Int.negSucc b) = s_kshl x (Int.negSucc b) from rfl]; exact hk
theorem s_ok_shr : s_cok 8 s_cshr := by
  intro x y hx hy _
  have hk : Int32.ofInt (s_kshr x y) = Int32.ofInt x >>> (Int32.ofInt y &&& 31) := Int32.ofInt_toInt _
  show Int32.ofInt (s_cshr x y) = Int32.ofInt x >>> (Int32.ofInt y &&& 31)
  cases x with
  | ofNat a => cases y with
    | ofNat b =>
      rw [show s_cshr (Int.ofNat a) (Int.ofNat b) = s_shr' (Int.ofNat a) (Int.ofNat b) a b from rfl]
      unfold s_shr'
      cases h : Nat.ble b 31 with
      | false => exact hk
      | true =>
        have hb := Nat.le_of_ble_eq_true h
        show Int32.ofInt (Int.ofNat (a >>> b)) = _
        apply Int32.toInt_inj.mp
        have hy2 : (Int32.ofInt (Int.ofNat b)).toInt = (b : Int) := s_I_eq hy
        rw [x_shr (k := b) (by omega) hy2, s_I_eq hx]
        have h1 := hx.2
        have h3 : a >>> b = a / 2 ^ b := Nat.shiftRight_eq_div_pow a b
        have h4 : a / 2 ^ b ≤ a := Nat.div_le_self _ _
        have h6 : (0 : Int) ≤ ((a / 2 ^ b : Nat) : Int) := Int.natCast_nonneg _
        have h7 : ((a / 2 ^ b : Nat) : Int) ≤ (a : Int) := Int.ofNat_le.mpr h4
        have h8 : s_I (Int.ofNat (a >>> b)) := by
          rw [h3]
          exact ⟨by show -2147483648 ≤ ((a / 2 ^ b : Nat) : Int); omega, by show ((a / 2 ^ b : Nat) : Int) ≤ 2147483647; have h1 : (a : Int) ≤ 2147483647 := h1; omega⟩
        rw [s_I_eq h8, h3]
        simp
    | negSucc b => rw [show s_cshr (Int.ofNat a) (Int.negSucc b) = s_kshr (Int.ofNat a) (Int.negSucc b) from rfl]; exact hk
  | negSucc a => rw [show s_cshr (Int.negSucc a) y = s_kshr (Int.negSucc a) y from rfl]; exact hk

theorem s_and_iff {c k : Bool} : s_and c k = true ↔ c = true ∧ k = true := by cases c <;> simp [s_and]
theorem s_if_iff {c a b : Bool} : s_if c a b = true ↔ (c = true ∧ a = true) ∨ (c = false ∧ b = true) := by cases c <;> simp [s_if]
theorem s_fn_eq {k : Nat → Bool} {n : Nat} : s_fn k n = k n := by cases n <;> rfl
theorem s_fn0_eq {k : Int → Bool} {n : Nat} : s_fn0 k n = k (Int.ofNat n) := by cases n <;> rfl
theorem s_fn1_eq {k : Int → Bool} {n : Nat} : s_fn1 k n = k (Int.negSucc n) := by cases n <;> rfl
theorem s_fz_eq {k : Int → Bool} {z : Int} : s_fz z k = k z := by
  cases z with
  | ofNat n => exact s_fn0_eq
  | negSucc n => exact s_fn1_eq
def s_I (z : Int) : Prop := -2147483648 ≤ z ∧ z ≤ 2147483647
theorem s_I_eq {z : Int} (h : s_I z) : (Int32.ofInt z).toInt = z := Int32.toInt_ofInt_of_le (by have := h.1; omega) (by have := h.2; omega)
theorem s_w_aux {k : Int → Bool} (z : Int) (b x : Bool) (hx : b = true → s_I z ∧ x = k z) : ∃ z', s_I z' ∧ Int32.ofInt z' = Int32.ofInt z ∧ s_if b x (s_w2 z k) = k z' := by
  cases b with
  | true => exact ⟨z, (hx rfl).1, rfl, (hx rfl).2⟩
  | false => exact ⟨(Int32.ofInt z).toInt, x_I32 _, Int32.ofInt_toInt _, s_fz_eq⟩
theorem s_w_eq (z : Int) (k : Int → Bool) : ∃ z', s_I z' ∧ Int32.ofInt z' = Int32.ofInt z ∧ s_w z k = k z' := by
  cases z with
  | ofNat n => exact s_w_aux (Int.ofNat n) (Nat.ble n 2147483647) (s_fn0 k n) (fun hn => ⟨by have := Nat.le_of_ble_eq_true hn; exact ⟨by simp only [Int.ofNat_eq_natCast]; omega, by simp only [Int.ofNat_eq_natCast]; omega⟩, s_fn0_eq⟩)
  | negSucc n => exact s_w_aux (Int.negSucc n) (Nat.ble n 2147483647) (s_fn1 k n) (fun hn => ⟨by have := Nat.le_of_ble_eq_true hn; exact ⟨by omega, by omega⟩, s_fn1_eq⟩)
theorem s_eqz_iff {x y : Int} : s_eqz x y = true ↔ x = y := by
  cases x with
  | ofNat a => cases y with
    | ofNat b => exact ⟨fun h => by rw [Nat.eq_of_beq_eq_true h], fun h => by cases h; exact Nat.beq_refl a⟩
    | negSucc b => exact ⟨fun h => (by cases h), fun h => (by cases h)⟩
  | negSucc a => cases y with
    | ofNat b => exact ⟨fun h => (by cases h), fun h => (by cases h)⟩
    | negSucc b => exact ⟨fun h => by rw [Nat.eq_of_beq_eq_true h], fun h => by cases h; exact Nat.beq_refl a⟩
theorem s_ltz_iff {x y : Int} : s_ltz x y = true ↔ x < y := by
  cases x with
  | ofNat a => cases y with
    | ofNat b => exact ⟨fun h => by have := Nat.le_of_ble_eq_true h; simp only [Int.ofNat_eq_natCast]; omega, fun h => Nat.ble_eq_true_of_le (by simp only [Int.ofNat_eq_natCast] at h; omega)⟩
    | negSucc b => exact ⟨fun h => (by cases h), fun h => by simp only [Int.ofNat_eq_natCast] at h; omega⟩
  | negSucc a => cases y with
    | ofNat b => exact ⟨fun _ => by simp only [Int.ofNat_eq_natCast]; omega, fun _ => rfl⟩
    | negSucc b => exact ⟨fun h => by have := Nat.le_of_ble_eq_true h; omega, fun h => Nat.ble_eq_true_of_le (by omega)⟩
theorem s_b_f {a : Bool} {p : Prop} (h : a = true ↔ p) : (s_if a false true = true) ↔ ¬ p := by
  rw [← h]; cases a <;> simp [s_if]
theorem s_cf_ok {c : ClassFile.Cond} {x y : Int32} : s_cf c x.toInt y.toInt = p_cd c x y := by
  have he : x = y ↔ x.toInt = y.toInt := Int32.toInt_inj.symm
  have hl : x < y ↔ x.toInt < y.toInt := Int32.lt_iff_toInt_lt
  have hl2 : y < x ↔ y.toInt < x.toInt := Int32.lt_iff_toInt_lt
  have hle : x ≤ y ↔ x.toInt ≤ y.toInt := Int32.le_iff_toInt_le
  have hle2 : y ≤ x ↔ y.toInt ≤ x.toInt := Int32.le_iff_toInt_le
  rw [Bool.eq_iff_iff]
  cases c with
  | eq => show s_eqz _ _ = true ↔ _; rw [s_eqz_iff]; simp only [p_cd, decide_eq_true_eq]; exact he.symm
  | ne => show s_if _ _ _ = true ↔ _; rw [s_b_f s_eqz_iff]; simp only [p_cd, decide_eq_true_eq]; rw [he]
  | lt => show s_ltz _ _ = true ↔ _; rw [s_ltz_iff]; simp only [p_cd, decide_eq_true_eq]; exact hl.symm
  | ge => show s_if _ _ _ = true ↔ _; rw [s_b_f s_ltz_iff]; simp only [p_cd, decide_eq_true_eq]; rw [hle2]; omega
  | gt => show s_ltz _ _ = true ↔ _; rw [s_ltz_iff]; simp only [p_cd, decide_eq_true_eq]; exact hl2.symm
  | le => show s_if _ _ _ = true ↔ _; rw [s_b_f s_ltz_iff]; simp only [p_cd, decide_eq_true_eq]; rw [hle]; omega
def s_key (e : s_E) : Nat := match e with
  | .leaf z => z.toNat
  | _ => 0
def s_ov (op : Nat) (x y : Int32) : Int32 := match op with
  | 1 => x + y
  | 2 => x - y
  | 3 => x * y
  | 4 => x &&& y
  | 5 => x ||| y
  | 6 => x ^^^ y
  | 7 => x <<< (y &&& 31)
  | 8 => x >>> (y &&& 31)
  | 9 => (x.toUInt32 >>> (y.toUInt32 &&& Int32.toUInt32 31)).toInt32
  | 10 => x / y
  | 11 => x - x / y * y
  | 12 => x.toInt8.toInt32
  | 13 => -x
  | _ => x
def s_ev (θ : Nat → Int32) : s_E → Int32
  | .leaf z => Int32.ofInt z
  | .branch 0 l _ => θ (s_key l)
  | .branch (op + 1) l r => s_ov (op + 1) (s_ev θ l) (s_ev θ r)
def s_cok (op : Nat) (f : Int → Int → Int) : Prop := ∀ x y : Int, s_I x → s_I y → (op = 10 ∨ op = 11 → y ≠ 0) → Int32.ofInt (f x y) = s_ov op (Int32.ofInt x) (Int32.ofInt y)
theorem s_ok_add : s_cok 1 s_cadd := by
  intro x y _ _ _
  have : s_cadd x y = x + y := by cases x <;> cases y <;> rfl
  rw [this, Int32.ofInt_add]; rfl
theorem s_ok_sub : s_cok 2 s_csub := by
  intro x y _ _ _
  have : s_csub x y = x - y := by
    cases x with
    | ofNat a => cases y with
      | ofNat b =>
        show Bool.rec (motive := fun _ => Int) (Int.sub (Int.ofNat a) (Int.ofNat b)) (Int.ofNat (Nat.sub a b)) (Nat.ble b a) = _
        cases h : Nat.ble b a with
        | false => rfl
        | true =>
          have := Nat.le_of_ble_eq_true h
          show Int.ofNat (a - b) = Int.ofNat a - Int.ofNat b
          simp only [Int.ofNat_eq_natCast]; omega
      | negSucc b => rfl
    | negSucc a => rfl
  rw [this, Int32.ofInt_sub]; rfl
theorem s_cmul_eq {x y : Int} : s_cmul x y = x * y := by cases x <;> cases y <;> rfl
theorem s_ok_mul : s_cok 3 s_cmul := by
  intro x y _ _ _
  rw [s_cmul_eq, Int32.ofInt_mul]; rfl
theorem s_on {a : Nat} : Int32.ofInt (Int.ofNat a) = Int32.ofNat a := Int32.ofInt_eq_ofNat
theorem s_nn_n {f : Nat → Nat → Nat} {k : Int → Int → Int} {a b : Nat} : s_nn f k (Int.ofNat a) (Int.ofNat b) = Int.ofNat (f a b) := rfl
theorem s_nn_r {f : Nat → Nat → Nat} {k : Int → Int → Int} {a b : Nat} : s_nn f k (Int.ofNat a) (Int.negSucc b) = k (Int.ofNat a) (Int.negSucc b) := rfl
theorem s_nn_l {f : Nat → Nat → Nat} {k : Int → Int → Int} {a : Nat} {y : Int} : s_nn f k (Int.negSucc a) y = k (Int.negSucc a) y := rfl
theorem s_ok_and : s_cok 4 s_cand := by
  intro x y _ _ _
  have hk : Int32.ofInt (s_kand x y) = Int32.ofInt x &&& Int32.ofInt y := Int32.ofInt_toInt _
  show Int32.ofInt (s_nn Nat.land s_kand x y) = Int32.ofInt x &&& Int32.ofInt y
  cases x with
  | ofNat a => cases y with
    | ofNat b =>
      rw [s_nn_n, s_on, s_on, s_on, show Nat.land a b = a &&& b from rfl]
      exact Int32.toBitVec.inj (by simp)
    | negSucc b => rw [s_nn_r]; exact hk
  | negSucc a => rw [s_nn_l]; exact hk
theorem s_ok_or : s_cok 5 s_cor := by
  intro x y _ _ _
  have hk : Int32.ofInt (s_kor x y) = Int32.ofInt x ||| Int32.ofInt y := Int32.ofInt_toInt _
  show Int32.ofInt (s_nn Nat.lor s_kor x y) = Int32.ofInt x ||| Int32.ofInt y
  cases x with
  | ofNat a => cases y with
    | ofNat b =>
      rw [s_nn_n, s_on, s_on, s_on, show Nat.lor a b = a ||| b from rfl]
      exact Int32.toBitVec.inj (by simp)
    | negSucc b => rw [s_nn_r]; exact hk
  | negSucc a => rw [s_nn_l]; exact hk
theorem s_ok_xor : s_cok 6 s_cxor := fun x y _ _ _ => Int32.ofInt_toInt _
theorem s_ok_ushr : s_cok 9 s_cushr := fun x y _ _ _ => Int32.ofInt_toInt _
theorem s_ok_i2b : s_cok 12 s_ci2b := fun x y _ _ _ => Int32.ofInt_toInt _
theorem s_ok_neg : s_cok 13 s_cneg := fun x y _ _ _ => Int32.ofInt_toInt _
theorem s_I32 {z : Int} (h : s_I z) : Int32.minValue.toInt ≤ z ∧ z ≤ Int32.maxValue.toInt := ⟨h.1, h.2⟩
theorem s_ok_div : s_cok 10 s_cdiv := by
  intro x y hx hy hn
  have hk : Int32.ofInt (s_kdiv x y) = Int32.ofInt x / Int32.ofInt y := Int32.ofInt_toInt _
  show Int32.ofInt (s_nn Nat.div s_kdiv x y) = Int32.ofInt x / Int32.ofInt y
  cases x with
  | ofNat a => cases y with
    | ofNat b =>
      rw [s_nn_n, ← Int32.ofInt_tdiv (s_I32 hx).1 (s_I32 hx).2 (s_I32 hy).1 (s_I32 hy).2, show (Int.ofNat a).tdiv (Int.ofNat b) = Int.ofNat (a / b) from rfl, show Nat.div a b = a / b from rfl]
    | negSucc b => rw [s_nn_r]; exact hk
  | negSucc a => rw [s_nn_l]; exact hk
theorem s_ok_rem : s_cok 11 s_crem := by
  intro x y hx hy hn
  have hk : Int32.ofInt (s_krem x y) = Int32.ofInt x - Int32.ofInt x / Int32.ofInt y * Int32.ofInt y := Int32.ofInt_toInt _
  show Int32.ofInt (s_nn Nat.mod s_krem x y) = Int32.ofInt x - Int32.ofInt x / Int32.ofInt y * Int32.ofInt y
  cases x with
  | ofNat a => cases y with
    | ofNat b =>
      rw [s_nn_n, show Nat.mod a b = a % b from rfl]
      apply Int32.toInt_inj.mp
      rw [x_rem, s_I_eq hx, s_I_eq hy]
      have hm : (Int.ofNat a).tmod (Int.ofNat b) = Int.ofNat (a % b) := rfl
      rw [hm]
      refine s_I_eq ⟨by simp only [Int.ofNat_eq_natCast]; omega, ?_⟩
      have h1 := hx.2
      have h2 := Nat.mod_le a b
      simp only [Int.ofNat_eq_natCast] at h1 ⊢
      omega
    | negSucc b => rw [s_nn_r]; exact hk
  | negSucc a => rw [s_nn_l]; exact hk
theorem s_and31 {b : Nat} (h : b ≤ 31) : (Int32.ofNat b &&& 31) = Int32.ofNat b := by
  have : ∀ b, b < 32 → (Int32.ofNat b &&& 31) = Int32.ofNat b := by decide +kernel
  exact this b (by omega)
theorem s_shl_m (x : Int32) (b : Nat) (h : b < 32) : x <<< Int32.ofNat b = x * Int32.ofNat (2 ^ b) := by
  apply Int32.toBitVec.inj
  have hm : (Int32.ofNat b).toBitVec.smod 32 = BitVec.ofNat 32 b := by
    have : ∀ b, b < 32 → (Int32.ofNat b).toBitVec.smod 32 = BitVec.ofNat 32 b := by decide +kernel
    exact this b h
  rw [Int32.toBitVec_shiftLeft, hm, Int32.toBitVec_mul]
  apply BitVec.eq_of_toNat_eq
  rw [BitVec.toNat_mul]
  simp only [BitVec.shiftLeft_eq', BitVec.toNat_shiftLeft, Int32.toBitVec_ofNat', BitVec.toNat_ofNat, Nat.shiftLeft_eq]
  have e1 : b % 2 ^ 32 = b := Nat.mod_eq_of_lt (by omega)
  rw [e1, Nat.mul_mod_mod]
theorem s_ok_shl : s_cok 7 s_cshl := by
  intro x y hx hy _
  have hk : Int32.ofInt (s_kshl x y) = Int32.ofInt x <<< (Int32.ofInt y &&& 31) := Int32.ofInt_toInt _
  show Int32.ofInt (s_cshl x y) = Int32.ofInt x <<< (Int32.ofInt y &&& 31)
  cases y with
  | ofNat b =>
    rw [show s_cshl x (Int.ofNat b) = Bool.rec (motive := fun _ => Int) (s_kshl x (Int.ofNat b)) (s_cmul x (Int.ofNat (2 ^ b))) (Nat.ble b 31) from rfl]
    cases h : Nat.ble b 31 with
    | false => exact hk
    | true =>
      have hb := Nat.le_of_ble_eq_true h
      show Int32.ofInt (s_cmul x (Int.ofNat (2 ^ b))) = _
      rw [s_cmul_eq, Int32.ofInt_mul, s_on, s_on, s_and31 hb, s_shl_m _ _ (by omega)]
  | negSucc b => rw [show s_cshl x (Int.negSucc b) = s_kshl x (Int.negSucc b) from rfl]; exact hk
theorem s_ok_shr : s_cok 8 s_cshr := by
  intro x y hx hy _
  have hk : Int32.ofInt (s_kshr x y) = Int32.ofInt x >>> (Int32.ofInt y &&& 31) := Int32.ofInt_toInt _
  show Int32.ofInt (s_cshr x y) = Int32.ofInt x >>> (Int32.ofInt y &&& 31)
  cases x with
  | ofNat a => cases y with
    | ofNat b =>
      rw [show s_cshr (Int.ofNat a) (Int.ofNat b) = s_shr' (Int.ofNat a) (Int.ofNat b) a b from rfl]
      unfold s_shr'
      cases h : Nat.ble b 31 with
      | false => exact hk
      | true =>
        have hb := Nat.le_of_ble_eq_true h
        show Int32.ofInt (Int.ofNat (a >>> b)) = _
        apply Int32.toInt_inj.mp
        have hy2 : (Int32.ofInt (Int.ofNat b)).toInt = (b : Int) := s_I_eq hy
        rw [x_shr (k := b) (by omega) hy2, s_I_eq hx]
        have h1 := hx.2
        have h3 : a >>> b = a / 2 ^ b := Nat.shiftRight_eq_div_pow a b
        have h4 : a / 2 ^ b ≤ a := Nat.div_le_self _ _
        have h6 : (0 : Int) ≤ ((a / 2 ^ b : Nat) : Int) := Int.natCast_nonneg _
        have h7 : ((a / 2 ^ b : Nat) : Int) ≤ (a : Int) := Int.ofNat_le.mpr h4
        have h8 : s_I (Int.ofNat (a >>> b)) := by
          rw [h3]
          exact ⟨by show -2147483648 ≤ ((a / 2 ^ b : Nat) : Int); omega, by show ((a / 2 ^ b : Nat) : Int) ≤ 2147483647; have h1 : (a : Int) ≤ 2147483647 := h1; omega⟩
        rw [s_I_eq h8, h3]
        simp
    | negSucc b => rw [show s_cshr (Int.ofNat a) (Int.negSucc b) = s_kshr (Int.ofNat a) (Int.negSucc b) from rfl]; exact hk
  | negSucc a => rw [show s_cshr (Int.negSucc a) y = s_kshr (Int.negSucc a) y from rfl]; exact hk
def s_v (θ : Nat → Int32) (a : s_V) (v : Value) : Prop := match a with
  | .inl z => s_I z ∧ v = .int (Int32.ofInt z)
  | .inr (0, _) => True
  | .inr (1, e) => v = .int (s_ev θ e)
  | .inr (2, e) => ∃ z, e = .leaf z ∧ v = .long (Int64.ofInt z)
  | .inr (4, _) => v = .null
  | .inr (5, e) => v = .long (s_ev θ e).toInt64
  | .inr (7, _) => ∃ x, v = .int x
  | .inr (k + 16, _) => v = .ref k
  | _ => False
def s_FO (θ : Nat → Int32) (F : s_F) : Prop := ∀ f ∈ F, f.2.1 ≤ (s_ev θ f.1).toInt ∧ (s_ev θ f.1).toInt ≤ f.2.2
section SV
variable {θ : Nat → Int32} {F : s_F}
theorem s_v_1 {a : s_V} {v : Value} (ht : Nat.beq (s_t a) 1 = true) (hv : s_v θ a v) : v = .int (s_ev θ (s_x a)) := by
  cases a with
  | inl z => exact hv.2
  | inr q =>
    obtain ⟨t, e⟩ := q
    have ht : t = 1 := Nat.eq_of_beq_eq_true ht
    subst ht; exact hv
theorem s_v_i {a : s_V} {v : Value} (ht : s_isi (s_t a) = true) (hv : s_v θ a v) : ∃ x, v = .int x := by
  cases a with
  | inl z => exact ⟨_, hv.2⟩
  | inr q =>
    obtain ⟨t, e⟩ := q
    rcases s_if_iff.mp ht with ⟨h, -⟩ | ⟨-, h⟩
    · have ht : t = 1 := Nat.eq_of_beq_eq_true h
      subst ht; exact ⟨_, hv⟩
    · have ht : t = 7 := Nat.eq_of_beq_eq_true h
      subst ht; exact hv
theorem s_v_l {a : s_V} {v : Value} (ht : s_long (s_t a) = true) (hv : s_v θ a v) : ∃ x, v = .long x := by
  cases a with
  | inl z => cases ht
  | inr q =>
    obtain ⟨t, e⟩ := q
    rcases s_if_iff.mp ht with ⟨h, -⟩ | ⟨-, h⟩
    · have ht : t = 2 := Nat.eq_of_beq_eq_true h
      subst ht; obtain ⟨z, -, h⟩ := hv; exact ⟨_, h⟩
    · have ht : t = 5 := Nat.eq_of_beq_eq_true h
      subst ht; exact ⟨_, hv⟩
theorem s_v_ref {t : Nat} {e : s_E} {v : Value} (ht : Nat.ble 16 t = true) (hv : s_v θ (.inr (t, e)) v) : v = .ref (t - 16) := by
  have h := Nat.le_of_ble_eq_true ht
  obtain ⟨k, rfl⟩ : ∃ k, t = k + 16 := ⟨t - 16, by omega⟩
  exact hv
theorem s_v_ref' {a : s_V} {v : Value} (ht : Nat.ble 16 (s_t a) = true) (hv : s_v θ a v) : v = .ref (s_t a - 16) := by
  cases a with
  | inl z => cases ht
  | inr q => exact s_v_ref ht hv
theorem s_v_null {a : s_V} {v : Value} (ht : Nat.beq (s_t a) 4 = true) (hv : s_v θ a v) : v = .null := by
  cases a with
  | inl z => cases ht
  | inr q =>
    obtain ⟨t, e⟩ := q
    have ht : t = 4 := Nat.eq_of_beq_eq_true ht
    subst ht; exact hv
theorem s_v_r {a : s_V} {v : Value} (ht : s_isr (s_t a) = true) (hv : s_v θ a v) : v = .null ∨ ∃ x, v = .ref x := by
  rcases s_if_iff.mp ht with ⟨h, -⟩ | ⟨-, h⟩
  · exact Or.inr ⟨_, s_v_ref' h hv⟩
  · exact Or.inl (s_v_null h hv)
theorem s_v_one {a : s_V} {v : Value} (ht : s_one (s_t a) = true) (hv : s_v θ a v) : v.category = 1 := by
  rcases s_if_iff.mp ht with ⟨h, -⟩ | ⟨-, h⟩
  · obtain ⟨x, rfl⟩ := s_v_i h hv; rfl
  · rcases s_v_r h hv with rfl | ⟨x, rfl⟩ <;> rfl
theorem s_v_two {a : s_V} {v : Value} (ht : s_long (s_t a) = true) (hv : s_v θ a v) : v.category = 2 := by
  obtain ⟨x, rfl⟩ := s_v_l ht hv; rfl
theorem s_eqE_ok {a b : s_E} (h : s_eqE a b = true) : a = b := by
  induction a generalizing b with
  | leaf x => cases b with
    | leaf y => rw [s_eqz_iff.mp h]
    | branch q l r => cases h
  | branch p l r il ir => cases b with
    | leaf y => cases h
    | branch q l' r' =>
      have h : s_and (Nat.beq p q) (s_and (s_eqE l l') (s_eqE r r')) = true := h
      rw [s_and_iff, s_and_iff] at h
      rw [Nat.eq_of_beq_eq_true h.1, il h.2.1, ir h.2.2]
theorem s_fnd_ok {e : s_E} {b : Int × Int} (hF : s_FO θ F) (h : s_fnd e F = some b) : b.1 ≤ (s_ev θ e).toInt ∧ (s_ev θ e).toInt ≤ b.2 := by
  unfold s_fnd at h
  cases hf : F.find? (fun f => s_eqE f.1 e) with
  | none => rw [hf] at h; cases h
  | some f =>
    rw [hf] at h
    have hm := List.mem_of_find?_eq_some hf
    have he : f.1 = e := s_eqE_ok (List.find?_some (p := fun (f : s_E × Int × Int) => s_eqE f.1 e) hf)
    have := hF f hm
    rw [he] at this
    cases h
    exact this
theorem s_full (x : Int32) : ((s_lo, s_hi) : Int × Int).1 ≤ x.toInt ∧ x.toInt ≤ ((s_lo, s_hi) : Int × Int).2 := x_I32 x
theorem s_fit_ok {x : Int32} {z : Int} {b : Int × Int} (h1 : b.1 ≤ z) (h2 : z ≤ b.2) (hx : x.toInt = z.bmod (2 ^ 32)) : (s_fit32 b).1 ≤ x.toInt ∧ x.toInt ≤ (s_fit32 b).2 := by
  unfold s_fit32
  split
  · next h =>
    have h3 : -2147483648 ≤ b.1 := h.1
    have h4 : b.2 ≤ 2147483647 := h.2
    rw [hx, x_bm (by omega) (by omega)]
    exact ⟨h1, h2⟩
  · exact s_full x
theorem s_cI {c : Int} (h0 : 0 ≤ c) (h1 : c ≤ s_hi) : s_I c := ⟨by omega, h1⟩
theorem s_ivb_ok {op : Nat} {l r : s_E} {il ir : Int × Int} (hl : il.1 ≤ (s_ev θ l).toInt ∧ (s_ev θ l).toInt ≤ il.2) (hr : ir.1 ≤ (s_ev θ r).toInt ∧ (s_ev θ r).toInt ≤ ir.2) : (s_ivb op r il ir).1 ≤ (s_ev θ (.branch op l r)).toInt ∧ (s_ev θ (.branch op l r)).toInt ≤ (s_ivb op r il ir).2 := by
  unfold s_ivb
  split
  · exact s_fit_ok (z := (s_ev θ l).toInt + (s_ev θ r).toInt) (by simp only; omega) (by simp only; omega) (Int32.toInt_add _ _)
  · exact s_fit_ok (z := (s_ev θ l).toInt - (s_ev θ r).toInt) (by simp only; omega) (by simp only; omega) (Int32.toInt_sub _ _)
  · next c =>
    split
    · next hc =>
      have hcI := s_I_eq (s_cI hc.1 hc.2)
      refine s_fit_ok (z := (s_ev θ l).toInt * c) (Int.mul_le_mul_of_nonneg_right hl.1 hc.1) (Int.mul_le_mul_of_nonneg_right hl.2 hc.1) ?_
      have := Int32.toInt_mul (s_ev θ l) (Int32.ofInt c)
      rw [hcI] at this
      exact this
    · exact s_full _
  · next c =>
    split
    · next hc =>
      have hcI : (Int32.ofInt c).toInt = c := s_I_eq (s_cI (by omega) hc.2.1)
      have hx := x_I32 (s_ev θ l)
      have h0 : 0 ≤ (s_ev θ l).toInt := by omega
      have hd : (s_ev θ (.branch 10 l (.leaf c))).toInt = (s_ev θ l).toInt / c := by
        show (s_ev θ l / Int32.ofInt c).toInt = _
        rw [Int32.toInt_div, hcI, Int.tdiv_eq_ediv_of_nonneg h0]
        have h5 : 0 ≤ (s_ev θ l).toInt / c := Int.ediv_nonneg h0 (by omega)
        have h6 : (s_ev θ l).toInt / c ≤ (s_ev θ l).toInt := Int.ediv_le_self _ h0
        exact x_bm (by omega) (by omega)
      rw [hd]
      exact ⟨Int.ediv_le_ediv (by omega) hl.1, Int.ediv_le_ediv (by omega) hl.2⟩
    · exact s_full _
  · next c =>
    split
    · next hc =>
      have hcI : (Int32.ofInt c).toInt = c := s_I_eq (s_cI (by omega) hc.2)
      have hd : (s_ev θ (.branch 11 l (.leaf c))).toInt = (s_ev θ l).toInt.tmod c := by
        show (s_ev θ l - s_ev θ l / Int32.ofInt c * Int32.ofInt c).toInt = _
        rw [x_rem, hcI]
      have h1 : (s_ev θ l).toInt.tmod c < c := Int.tmod_lt_of_pos _ hc.1
      have h2 : -c < (s_ev θ l).toInt.tmod c := by
        have := Int.lt_tmod_of_pos (s_ev θ l).toInt hc.1
        omega
      rw [hd]
      split
      · next h0 =>
        have h3 : 0 ≤ (s_ev θ l).toInt.tmod c := Int.tmod_nonneg _ (by omega)
        simp only
        omega
      · simp only
        omega
    · exact s_full _
  · exact s_full _
theorem s_iv_ok {e : s_E} (hF : s_FO θ F) : (s_iv F e).1 ≤ (s_ev θ e).toInt ∧ (s_ev θ e).toInt ≤ (s_iv F e).2 := by
  induction e with
  | leaf z =>
    show (if s_lo ≤ z ∧ z ≤ s_hi then (z, z) else (s_lo, s_hi)).1 ≤ _ ∧ _ ≤ (if s_lo ≤ z ∧ z ≤ s_hi then (z, z) else (s_lo, s_hi)).2
    split
    · next h => rw [show (s_ev θ (.leaf z)).toInt = z from s_I_eq h]; exact ⟨Int.le_refl z, Int.le_refl z⟩
    · exact s_full _
  | branch op l r il ir =>
    have e : s_iv F (.branch op l r) = (match s_fnd (.branch op l r) F with
      | some b => b
      | none => s_ivb op r (s_iv F l) (s_iv F r)) := rfl
    rw [e]
    split
    · next b hb => exact s_fnd_ok hF hb
    · exact s_ivb_ok il ir
theorem s_all_ok {K : Int → Bool} : ∀ {n : Nat} {lo z : Int}, s_all lo K n = true → lo ≤ z → z < lo + n → K z = true := by
  intro n
  induction n with
  | zero => intro lo z _ h1 h2; omega
  | succ n ih =>
    intro lo z h h1 h2
    have h : s_and (s_fz lo K) (s_all (lo + 1) K n) = true := h
    rw [s_and_iff, s_fz_eq] at h
    by_cases e : z = lo
    · rw [e]; exact h.1
    · exact ih h.2 (by omega) (by omega)
theorem s_cz'_ok {e : s_E} {K : s_V → s_F → Bool} (hF : s_FO θ F) (h : s_cz' e F K = true) : ∃ v F', K v F' = true ∧ s_FO θ F' ∧ s_v θ v (.int (s_ev θ e)) ∧ Nat.beq (s_t v) 1 = true := by
  unfold s_cz' at h
  have hb := s_iv_ok (e := e) hF
  split at h
  next lo hi hiv =>
  rw [hiv] at hb
  have hx := x_I32 (s_ev θ e)
  split at h
  · next he =>
    rw [s_fz_eq] at h
    have e1 : (s_ev θ e).toInt = lo := by simp only at hb; omega
    refine ⟨_, _, h, hF, ⟨⟨by omega, by omega⟩, ?_⟩, rfl⟩
    rw [← e1, Int32.ofInt_toInt]
  · split at h
    · next hs =>
      have h := s_all_ok (z := (s_ev θ e).toInt) h hb.1 (by simp only at hb; omega)
      refine ⟨_, _, h, fun f hf => ?_, ⟨hx, ?_⟩, rfl⟩
      · rcases List.mem_cons.mp hf with rfl | hf
        · exact ⟨Int.le_refl _, Int.le_refl _⟩
        · exact hF f hf
      · rw [Int32.ofInt_toInt]
    · exact ⟨_, _, h, hF, rfl, rfl⟩
theorem s_cz_ok {a : s_V} {v : Value} {K : s_V → s_F → Bool} (hF : s_FO θ F) (hv : s_v θ a v) (h : s_cz a F K = true) : ∃ b F', K b F' = true ∧ s_FO θ F' ∧ s_v θ b v ∧ Nat.beq (s_t b) 1 = true := by
  cases a with
  | inl z => exact ⟨_, _, h, hF, hv, rfl⟩
  | inr q =>
    have h : s_and (Nat.beq q.1 1) (s_cz' q.2 F K) = true := h
    rw [s_and_iff] at h
    have e := s_v_1 (a := .inr q) h.1 hv
    subst e
    exact s_cz'_ok hF h.2
theorem s_is_ok {z : Int} {e : s_E} (h : s_is z e = true) : e = .leaf z := by
  unfold s_is at h
  split at h
  · rw [of_decide_eq_true h]
  · cases h
theorem s_mk_ok {op : Nat} (h0 : op ≠ 0) {a b : s_E} : s_ev θ (s_mk op a b) = s_ov op (s_ev θ a) (s_ev θ b) := by
  have hz : ∀ x : Int32, x + Int32.ofInt 0 = x := fun x => Int32.add_zero x
  have hz2 : ∀ x : Int32, Int32.ofInt 0 + x = x := fun x => Int32.zero_add x
  have hz3 : ∀ x : Int32, x - Int32.ofInt 0 = x := fun x => Int32.sub_zero x
  have hz4 : ∀ x : Int32, x ||| Int32.ofInt 0 = x := fun x => Int32.or_zero
  have hz5 : ∀ x : Int32, Int32.ofInt 0 ||| x = x := fun x => Int32.zero_or
  unfold s_mk
  split
  · split
    · next h => rw [s_is_ok h]; exact (hz _).symm
    · split
      · next h => rw [s_is_ok h]; exact (hz2 _).symm
      · rfl
  · split
    · next h => rw [s_is_ok h]; exact (hz3 _).symm
    · rfl
  · split
    · next h => rw [s_is_ok h]; exact (hz4 _).symm
    · split
      · next h => rw [s_is_ok h]; exact (hz5 _).symm
      · rfl
  · cases op with
    | zero => exact absurd rfl h0
    | succ n => rfl
theorem s_forceE_eq {e : s_E} {K : s_E → Bool} : s_forceE e K = K e := by cases e <;> rfl
theorem s_op_ok {op : Nat} {f : Int → Int → Int} (hop : op ≠ 0) (hf : s_cok op f) {a b : s_V} {x y : Int32} {K : s_V → s_F → Bool} (hF : s_FO θ F) (ha : s_v θ a (.int x)) (hb : s_v θ b (.int y)) (hn : op = 10 ∨ op = 11 → y ≠ 0) (h : s_opk op f a b F K = true) : ∃ v F', K v F' = true ∧ s_FO θ F' ∧ s_v θ v (.int (s_ov op x y)) ∧ Nat.beq (s_t v) 1 = true := by
  have hcc : ∀ {x' y' : Int} {F' : s_F}, s_FO θ F' → s_v θ (.inl x') (.int x) → s_v θ (.inl y') (.int y) → s_w (f x' y') (s_kc K F') = true → ∃ v F', K v F' = true ∧ s_FO θ F' ∧ s_v θ v (.int (s_ov op x y)) ∧ Nat.beq (s_t v) 1 = true := by
    intro x' y' F' hF' hx hy hw
    obtain ⟨z', g1, g2, g3⟩ := s_w_eq (f x' y') (s_kc K F')
    rw [g3] at hw
    refine ⟨.inl z', F', hw, hF', ⟨g1, ?_⟩, rfl⟩
    obtain ⟨i1, e1⟩ := hx
    obtain ⟨i2, e2⟩ := hy
    cases e1; cases e2
    rw [g2, hf x' y' i1 i2 (fun q => ?_)]
    intro e
    subst e
    exact hn q rfl
  have hsy : s_sy op f a b F K = true → ∃ v F', K v F' = true ∧ s_FO θ F' ∧ s_v θ v (.int (s_ov op x y)) ∧ Nat.beq (s_t v) 1 = true := by
    intro h
    obtain ⟨a', F1, h1, hF1, ha1, ta⟩ := s_cz_ok hF ha h
    obtain ⟨b', F2, h2, hF2, hb1, tb⟩ := s_cz_ok hF1 hb h1
    unfold s_sy2 at h2
    split at h2
    · exact hcc hF2 ha1 hb1 h2
    · rw [s_forceE_eq] at h2
      refine ⟨_, _, h2, hF2, ?_, rfl⟩
      show Value.int _ = Value.int _
      have e1 := s_v_1 ta ha1
      have e2 := s_v_1 tb hb1
      cases e1; cases e2
      rw [s_mk_ok hop]
  cases a with
  | inl x' => cases b with
    | inl y' => exact hcc hF ha hb h
    | inr q => exact hsy h
  | inr p => exact hsy h
theorem s_ix_ok {a : s_V} {v : Value} {K : Nat → s_F → Bool} (hF : s_FO θ F) (hv : s_v θ a v) (h : s_ix a F K = true) : ∃ (j : Nat) (F' : s_F), K j F' = true ∧ s_FO θ F' ∧ v = .int (Int32.ofNat j) ∧ j ≤ 2147483647 := by
  obtain ⟨b, F', h1, hF', hb, -⟩ := s_cz_ok hF hv h
  cases b with
  | inl z => cases z with
    | ofNat j =>
      refine ⟨j, F', h1, hF', by rw [hb.2, s_on], ?_⟩
      have := hb.1.2
      simp only [Int.ofNat_eq_natCast] at this
      omega
    | negSucc j => cases h1
  | inr q => cases h1
theorem s_fork_ok {e : s_E} {K : Bool → s_F → Bool} {o : List (Bool × Int × Int)} (hF : s_FO θ F) (h : s_fork e F o K = true) {q : Bool × Int × Int} (hq : q ∈ o) (h1 : q.2.1 ≤ (s_ev θ e).toInt) (h2 : (s_ev θ e).toInt ≤ q.2.2) : ∃ F', K q.1 F' = true ∧ s_FO θ F' := by
  induction o with
  | nil => cases hq
  | cons p o ih =>
    have h : s_and (if p.2.1 ≤ p.2.2 then s_fz p.2.1 (fun lo => s_fz p.2.2 (fun hi => K p.1 ((e, lo, hi) :: F))) else true) (s_fork e F o K) = true := h
    rw [s_and_iff] at h
    rcases List.mem_cons.mp hq with rfl | hq
    · have h3 := h.1
      rw [if_pos (by omega), s_fz_eq, s_fz_eq] at h3
      refine ⟨_, h3, fun f hf => ?_⟩
      rcases List.mem_cons.mp hf with rfl | hf
      · exact ⟨h1, h2⟩
      · exact hF f hf
    · exact ih h.2 hq
theorem s_pcs_ok {c : ClassFile.Cond} {x y : Int32} {lo hi : Int} (h1 : lo ≤ x.toInt) (h2 : x.toInt ≤ hi) : ∃ q ∈ s_pcs c y.toInt lo hi, q.1 = p_cd c x y ∧ q.2.1 ≤ x.toInt ∧ x.toInt ≤ q.2.2 := by
  rw [← s_cf_ok]
  have hE := @s_eqz_iff x.toInt y.toInt
  have hL := @s_ltz_iff x.toInt y.toInt
  have hG := @s_ltz_iff y.toInt x.toInt
  have key : ∀ {b : Bool} {p : Prop}, (b = true ↔ p) → (p → b = true) ∧ (¬ p → b = false) := fun {b p} hb => ⟨hb.mpr, fun np => by cases b with | false => rfl | true => exact absurd (hb.mp rfl) np⟩
  cases c with
  | eq =>
    rcases Int.lt_trichotomy x.toInt y.toInt with g | g | g
    · exact ⟨(false, lo, min hi (y.toInt - 1)), by simp [s_pcs], ((key hE).2 (by omega)).symm, h1, by simp only; omega⟩
    · exact ⟨(true, max lo y.toInt, min hi y.toInt), by simp [s_pcs], ((key hE).1 g).symm, by simp only; omega, by simp only; omega⟩
    · exact ⟨(false, max lo (y.toInt + 1), hi), by simp [s_pcs], ((key hE).2 (by omega)).symm, by simp only; omega, h2⟩
  | ne =>
    rcases Int.lt_trichotomy x.toInt y.toInt with g | g | g
    · exact ⟨(true, lo, min hi (y.toInt - 1)), by simp [s_pcs], by show _ = s_if _ _ _; rw [(key hE).2 (by omega)]; rfl, h1, by simp only; omega⟩
    · exact ⟨(false, max lo y.toInt, min hi y.toInt), by simp [s_pcs], by show _ = s_if _ _ _; rw [(key hE).1 g]; rfl, by simp only; omega, by simp only; omega⟩
    · exact ⟨(true, max lo (y.toInt + 1), hi), by simp [s_pcs], by show _ = s_if _ _ _; rw [(key hE).2 (by omega)]; rfl, by simp only; omega, h2⟩
  | lt =>
    by_cases g : x.toInt < y.toInt
    · exact ⟨(true, lo, min hi (y.toInt - 1)), by simp [s_pcs], ((key hL).1 g).symm, h1, by simp only; omega⟩
    · exact ⟨(false, max lo y.toInt, hi), by simp [s_pcs], ((key hL).2 g).symm, by simp only; omega, h2⟩
  | ge =>
    by_cases g : x.toInt < y.toInt
    · exact ⟨(false, lo, min hi (y.toInt - 1)), by simp [s_pcs], by show _ = s_if _ _ _; rw [(key hL).1 g]; rfl, h1, by simp only; omega⟩
    · exact ⟨(true, max lo y.toInt, hi), by simp [s_pcs], by show _ = s_if _ _ _; rw [(key hL).2 g]; rfl, by simp only; omega, h2⟩
  | gt =>
    by_cases g : y.toInt < x.toInt
    · exact ⟨(true, max lo (y.toInt + 1), hi), by simp [s_pcs], ((key hG).1 g).symm, by simp only; omega, h2⟩
    · exact ⟨(false, lo, min hi y.toInt), by simp [s_pcs], ((key hG).2 g).symm, h1, by simp only; omega⟩
  | le =>
    by_cases g : y.toInt < x.toInt
    · exact ⟨(false, max lo (y.toInt + 1), hi), by simp [s_pcs], by show _ = s_if _ _ _; rw [(key hG).1 g]; rfl, by simp only; omega, h2⟩
    · exact ⟨(true, lo, min hi y.toInt), by simp [s_pcs], by show _ = s_if _ _ _; rw [(key hG).2 g]; rfl, h1, by simp only; omega⟩
theorem s_flip_ok {c : ClassFile.Cond} {x y : Int32} : p_cd (s_flip c) y x = p_cd c x y := by
  cases c with
  | eq => simp only [s_flip, p_cd, eq_comm]
  | ne => simp only [s_flip, p_cd]; rw [decide_eq_decide]; exact ⟨fun h e => h e.symm, fun h e => h e.symm⟩
  | lt => rfl
  | ge => rfl
  | gt => rfl
  | le => rfl
theorem s_lt2_ok {g k : Bool} {x y : s_E} {a b e f : Int} {K : Bool → s_F → Bool} (hF : s_FO θ F) (h1 : a ≤ (s_ev θ x).toInt ∧ (s_ev θ x).toInt ≤ b) (h2 : e ≤ (s_ev θ y).toInt ∧ (s_ev θ y).toInt ≤ f) (h : s_lt2 g k x y a b e f F K = true) : ∃ F', K (if (s_ev θ x).toInt < (s_ev θ y).toInt then g else k) F' = true ∧ s_FO θ F' := by
  unfold s_lt2 at h
  rw [s_and_iff] at h
  split
  · obtain ⟨F1, k1, k2⟩ := s_fork_ok hF h.1 (q := (g, a, min b (f - 1))) (by simp) h1.1 (by show (s_ev θ x).toInt ≤ min b (f - 1); omega)
    exact s_fork_ok k2 k1 (q := (g, max e (a + 1), f)) (by simp) (by show max e (a + 1) ≤ (s_ev θ y).toInt; omega) h2.2
  · obtain ⟨F1, k1, k2⟩ := s_fork_ok hF h.2 (q := (k, max a e, b)) (by simp) (by show max a e ≤ (s_ev θ x).toInt; omega) h1.2
    exact s_fork_ok k2 k1 (q := (k, e, min f b)) (by simp) h2.1 (by show (s_ev θ y).toInt ≤ min f b; omega)
theorem s_two_ok {c : ClassFile.Cond} {x y : s_E} {K : Bool → s_F → Bool} (hF : s_FO θ F) (h : s_two c x y F K = true) : ∃ F', K (p_cd c (s_ev θ x) (s_ev θ y)) F' = true ∧ s_FO θ F' := by
  have hx := s_iv_ok (e := x) hF
  have hy := s_iv_ok (e := y) hF
  have both : s_and (K true F) (K false F) = true → ∃ F', K (p_cd c (s_ev θ x) (s_ev θ y)) F' = true ∧ s_FO θ F' := by
    intro h
    rw [s_and_iff] at h
    cases hc : p_cd c (s_ev θ x) (s_ev θ y) with
    | true => exact ⟨F, h.1, hF⟩
    | false => exact ⟨F, h.2, hF⟩
  have hl : ∀ {u w : Int32}, u < w ↔ u.toInt < w.toInt := Int32.lt_iff_toInt_lt
  have hle : ∀ {u w : Int32}, u ≤ w ↔ ¬ w.toInt < u.toInt := fun {u w} => by rw [Int32.le_iff_toInt_le]; omega
  cases c with
  | eq => exact both h
  | ne => exact both h
  | lt =>
    have h3 := s_lt2_ok hF hx hy h
    by_cases hq : (s_ev θ x).toInt < (s_ev θ y).toInt
    · rw [if_pos hq] at h3
      have e : p_cd .lt (s_ev θ x) (s_ev θ y) = true := by exact decide_eq_true (hl.mpr hq)
      rw [e]; exact h3
    · rw [if_neg hq] at h3
      have e : p_cd .lt (s_ev θ x) (s_ev θ y) = false := by exact decide_eq_false (fun k => hq (hl.mp k))
      rw [e]; exact h3
  | ge =>
    have h3 := s_lt2_ok hF hx hy h
    by_cases hq : (s_ev θ x).toInt < (s_ev θ y).toInt
    · rw [if_pos hq] at h3
      have e : p_cd .ge (s_ev θ x) (s_ev θ y) = false := by exact decide_eq_false (fun k => (hle.mp k) hq)
      rw [e]; exact h3
    · rw [if_neg hq] at h3
      have e : p_cd .ge (s_ev θ x) (s_ev θ y) = true := by exact decide_eq_true (hle.mpr hq)
      rw [e]; exact h3
  | gt =>
    have h3 := s_lt2_ok hF hy hx h
    by_cases hq : (s_ev θ y).toInt < (s_ev θ x).toInt
    · rw [if_pos hq] at h3
      have e : p_cd .gt (s_ev θ x) (s_ev θ y) = true := by exact decide_eq_true (hl.mpr hq)
      rw [e]; exact h3
    · rw [if_neg hq] at h3
      have e : p_cd .gt (s_ev θ x) (s_ev θ y) = false := by exact decide_eq_false (fun k => hq (hl.mp k))
      rw [e]; exact h3
  | le =>
    have h3 := s_lt2_ok hF hy hx h
    by_cases hq : (s_ev θ y).toInt < (s_ev θ x).toInt
    · rw [if_pos hq] at h3
      have e : p_cd .le (s_ev θ x) (s_ev θ y) = false := by exact decide_eq_false (fun k => (hle.mp k) hq)
      rw [e]; exact h3
    · rw [if_neg hq] at h3
      have e : p_cd .le (s_ev θ x) (s_ev θ y) = true := by exact decide_eq_true (hle.mpr hq)
      rw [e]; exact h3
theorem s_cmp_ok {c : ClassFile.Cond} {a b : s_V} {x y : Int32} {K : Bool → s_F → Bool} (hF : s_FO θ F) (ha : s_v θ a (.int x)) (hb : s_v θ b (.int y)) (h : s_cmp c a b F K = true) : ∃ F', K (p_cd c x y) F' = true ∧ s_FO θ F' := by
  have hcc : ∀ {x' y' : Int}, s_v θ (.inl x') (.int x) → s_v θ (.inl y') (.int y) → K (s_cf c x' y') F = true → ∃ F', K (p_cd c x y) F' = true ∧ s_FO θ F' := by
    intro x' y' hx hy hk
    obtain ⟨i1, e1⟩ := hx
    obtain ⟨i2, e2⟩ := hy
    cases e1; cases e2
    refine ⟨F, ?_, hF⟩
    rw [← s_cf_ok, s_I_eq i1, s_I_eq i2]
    exact hk
  have hsl : s_bsl c a b F K = true → ∃ F', K (p_cd c x y) F' = true ∧ s_FO θ F' := by
    intro h
    cases a with
    | inl x' => cases b with
      | inl y' => exact hcc ha hb h
      | inr q =>
        have h : s_and (Nat.beq q.1 1) (s_fork q.2 F (s_pcs (s_flip c) x' (s_iv F q.2).1 (s_iv F q.2).2) K) = true := h
        rw [s_and_iff] at h
        have e1 := s_v_1 (a := .inr q) h.1 hb
        obtain ⟨i2, e2⟩ := ha
        cases e1; cases e2
        have hiv := s_iv_ok (e := q.2) hF
        obtain ⟨p, hp, p1, p2, p3⟩ := s_pcs_ok (c := s_flip c) (y := Int32.ofInt x') hiv.1 hiv.2
        rw [s_I_eq i2] at hp
        rw [← s_flip_ok]
        show ∃ F', K (p_cd (s_flip c) (s_ev θ q.2) (Int32.ofInt x')) F' = true ∧ s_FO θ F'
        rw [← p1]
        exact s_fork_ok hF h.2 hp p2 p3
    | inr q => cases b with
      | inl y' =>
        have h : s_and (Nat.beq q.1 1) (s_fork q.2 F (s_pcs c y' (s_iv F q.2).1 (s_iv F q.2).2) K) = true := h
        rw [s_and_iff] at h
        have e1 := s_v_1 (a := .inr q) h.1 ha
        obtain ⟨i2, e2⟩ := hb
        cases e1; cases e2
        have hiv := s_iv_ok (e := q.2) hF
        obtain ⟨p, hp, p1, p2, p3⟩ := s_pcs_ok (c := c) (y := Int32.ofInt y') hiv.1 hiv.2
        rw [s_I_eq i2] at hp
        show ∃ F', K (p_cd c (s_ev θ q.2) (Int32.ofInt y')) F' = true ∧ s_FO θ F'
        rw [← p1]
        exact s_fork_ok hF h.2 hp p2 p3
      | inr p =>
        have h : s_and (Nat.beq q.1 1) (s_and (Nat.beq p.1 1) (s_if (s_eqE q.2 p.2) (K (s_cf c 0 0) F) (s_two c q.2 p.2 F K))) = true := h
        rw [s_and_iff, s_and_iff, s_if_iff] at h
        have e1 := s_v_1 (a := .inr q) h.1 ha
        have e2 := s_v_1 (a := .inr p) h.2.1 hb
        cases e1; cases e2
        rcases h.2.2 with ⟨h4, h5⟩ | ⟨-, h5⟩
        · refine ⟨F, ?_, hF⟩
          have e3 := s_eqE_ok h4
          have : p_cd c (s_ev θ q.2) (s_ev θ p.2) = s_cf c 0 0 := by
            rw [e3]
            have hlt : ¬ (s_ev θ p.2) < (s_ev θ p.2) := fun q => Int32.lt_irrefl q
            have hle : (s_ev θ p.2) ≤ (s_ev θ p.2) := Int32.le_refl _
            cases c with
            | eq => exact decide_eq_true rfl
            | ne => exact decide_eq_false (fun q => q rfl)
            | lt => exact decide_eq_false hlt
            | ge => exact decide_eq_true hle
            | gt => exact decide_eq_false hlt
            | le => exact decide_eq_true hle
          show K (p_cd c (s_ev θ q.2) (s_ev θ p.2)) F = true
          rw [this]
          exact h5
        · exact s_two_ok hF h5
  cases a with
  | inl x' => cases b with
    | inl y' => exact hcc ha hb h
    | inr q => exact hsl h
  | inr p => exact hsl h
theorem s_bool_ok {a : s_V} {v : Value} (hF : s_FO θ F) (hv : s_v θ a v) (h : s_bool F a = true) : ∃ x : Int32, v = .int x ∧ (x = 0 ∨ x = 1) := by
  unfold s_bool at h
  split at h
  · next z =>
    obtain ⟨-, rfl⟩ := hv
    refine ⟨_, rfl, ?_⟩
    rcases of_decide_eq_true h with rfl | rfl
    · exact Or.inl rfl
    · exact Or.inr rfl
  · next q =>
    rw [Bool.and_eq_true] at h
    have e := s_v_1 (a := .inr q) h.1 hv
    subst e
    have hiv := s_iv_ok (e := q.2) hF
    have h2 := h.2
    split at h2
    next lo hi he =>
    rw [he] at hiv
    have h3 := of_decide_eq_true h2
    simp only at hiv
    refine ⟨_, rfl, ?_⟩
    have : (s_ev θ q.2).toInt = 0 ∨ (s_ev θ q.2).toInt = 1 := by omega
    rcases this with g | g
    · exact Or.inl (Int32.toInt_inj.mp g)
    · exact Or.inr (Int32.toInt_inj.mp g)
end SV
theorem s_gb {α : Type} {p n : Nat} {l r : Lean.RArray α} : (Lean.RArray.branch p l r).get n = if p ≤ n then r.get n else l.get n := by
  show Bool.rec (motive := fun _ => α) (l.get n) (r.get n) (Nat.ble p n) = _
  cases h : Nat.ble p n with
  | true => rw [if_pos (Nat.le_of_ble_eq_true h)]
  | false => rw [if_neg (fun q => by rw [Nat.ble_eq_true_of_le q] at h; cases h)]
theorem s_gl {α : Type} {n : Nat} {x : α} : (Lean.RArray.leaf x).get n = x := rfl
theorem s_leaf0_ok {α : Type} {n lo hi : Nat} {v x : α} {K : Lean.RArray α → Bool} (h1 : lo ≤ n) (h2 : hi = 0 ∨ n < hi) : ∃ t, s_leaf0 n v x lo hi K = K t ∧ ∀ m, lo ≤ m → (hi = 0 ∨ m < hi) → t.get m = if m = n then v else x := by
  unfold s_leaf0
  have e3 : ∀ m, (Lean.RArray.branch n (.leaf x) (.branch (Nat.succ n) (.leaf v) (.leaf x))).get m = if m = n then v else x := by
    intro m
    rw [s_gb, s_gb]
    split
    · split
      · rw [if_neg (by omega)]
      · rw [if_pos (by omega)]
    · rw [if_neg (by omega)]
  cases ha : Nat.beq lo n with
  | true =>
    have e1 := Nat.eq_of_beq_eq_true ha
    cases hb : Nat.beq (Nat.succ n) hi with
    | true =>
      have e2 := Nat.eq_of_beq_eq_true hb
      exact ⟨.leaf v, rfl, fun m g1 g2 => by rw [s_gl, if_pos (by omega)]⟩
    | false =>
      refine ⟨_, rfl, fun m g1 g2 => ?_⟩
      rw [s_gb]
      split
      · rw [if_neg (by omega)]
      · rw [if_pos (by omega)]
  | false =>
    cases hb : Nat.beq (Nat.succ n) hi with
    | true =>
      have e2 := Nat.eq_of_beq_eq_true hb
      refine ⟨_, rfl, fun m g1 g2 => ?_⟩
      rw [s_gb]
      split
      · rw [if_pos (by omega)]
      · rw [if_neg (by omega)]
    | false => exact ⟨_, rfl, fun m _ _ => e3 m⟩
theorem s_lfr_ok {α : Type} {n : Nat} {v x : α} : ∀ (f : Nat) {lo hi : Nat} {K : Lean.RArray α → Bool}, lo ≤ n → n < hi → ∃ t, s_lfr n v x f lo hi K = K t ∧ ∀ m, lo ≤ m → m < hi → t.get m = if m = n then v else x := by
  intro f
  induction f with
  | zero =>
    intro lo hi K h1 h2
    obtain ⟨t, g1, g2⟩ := s_leaf0_ok (v := v) (x := x) (K := K) h1 (Or.inr h2)
    exact ⟨t, g1, fun m a b => g2 m a (Or.inr b)⟩
  | succ f ih =>
    intro lo hi K h1 h2
    have e : s_lfr n v x (f + 1) lo hi K = s_if (Nat.beq hi (Nat.succ lo)) (K (.leaf v)) (s_fn (s_lf2 n x (s_lfr n v x f) lo hi K) (Nat.div (Nat.add lo hi) 2)) := rfl
    rw [e, s_fn_eq]
    cases hb : Nat.beq hi (Nat.succ lo) with
    | true =>
      have hb := Nat.eq_of_beq_eq_true hb
      refine ⟨.leaf v, rfl, fun m a b => ?_⟩
      rw [s_gl, if_pos (by omega)]
    | false =>
      have hb : ¬ hi = lo + 1 := fun h => by rw [h] at hb; exact absurd (Nat.beq_refl (lo + 1)) (by rw [hb]; decide)
      have hm : Nat.div (Nat.add lo hi) 2 = (lo + hi) / 2 := rfl
      rw [hm]
      show ∃ t, s_lf2 n x (s_lfr n v x f) lo hi K ((lo + hi) / 2) = K t ∧ _
      have e2 : s_lf2 n x (s_lfr n v x f) lo hi K ((lo + hi) / 2) = s_if (Nat.ble ((lo + hi) / 2) n) (s_lfr n v x f ((lo + hi) / 2) hi (s_brr ((lo + hi) / 2) (.leaf x) K)) (s_lfr n v x f lo ((lo + hi) / 2) (s_brl ((lo + hi) / 2) (.leaf x) K)) := rfl
      rw [e2]
      cases hc : Nat.ble ((lo + hi) / 2) n with
      | true =>
        have hc := Nat.le_of_ble_eq_true hc
        obtain ⟨t, g1, g2⟩ := ih (lo := (lo + hi) / 2) (hi := hi) (K := s_brr ((lo + hi) / 2) (.leaf x) K) hc h2
        refine ⟨.branch ((lo + hi) / 2) (.leaf x) t, g1, fun m a b => ?_⟩
        rw [s_gb]
        split
        · exact g2 m (by omega) b
        · rw [s_gl, if_neg (by omega)]
      | false =>
        have hc : ¬ (lo + hi) / 2 ≤ n := fun h => by rw [Nat.ble_eq_true_of_le h] at hc; cases hc
        obtain ⟨t, g1, g2⟩ := ih (lo := lo) (hi := (lo + hi) / 2) (K := s_brl ((lo + hi) / 2) (.leaf x) K) h1 (by omega)
        refine ⟨.branch ((lo + hi) / 2) t (.leaf x), g1, fun m a b => ?_⟩
        rw [s_gb]
        split
        · rw [s_gl, if_neg (by omega)]
        · exact g2 m a (by omega)
theorem s_leaf_ok {α : Type} {n lo hi : Nat} {v x : α} {K : Lean.RArray α → Bool} (h1 : lo ≤ n) (h2 : hi = 0 ∨ n < hi) : ∃ t, s_leaf n v x lo hi K = K t ∧ ∀ m, lo ≤ m → (hi = 0 ∨ m < hi) → t.get m = if m = n then v else x := by
  have e : s_leaf n v x lo hi K = s_if (Nat.beq hi 0) (s_leaf0 n v x lo hi K) (s_lfr n v x 40 lo hi K) := rfl
  rw [e]
  cases hb : Nat.beq hi 0 with
  | true => exact s_leaf0_ok h1 h2
  | false =>
    have h0 : hi ≠ 0 := fun h => by rw [h] at hb; cases hb
    obtain ⟨t, g1, g2⟩ := s_lfr_ok 40 (v := v) (x := x) (K := K) h1 (h2.resolve_left h0)
    exact ⟨t, g1, fun m a b => g2 m a (b.resolve_left h0)⟩
theorem s_set_ok {α : Type} {t : Lean.RArray α} {n : Nat} {v : α} {K : Lean.RArray α → Bool} : ∃ t', s_set t n v K = K t' ∧ ∀ m, t'.get m = if m = n then v else t.get m := by
  have key : ∀ (t : Lean.RArray α) (lo hi : Nat) (K : Lean.RArray α → Bool), lo ≤ n → (hi = 0 ∨ n < hi) → ∃ t', Lean.RArray.rec (motive := fun _ => Nat → Nat → (Lean.RArray α → Bool) → Bool) (s_leaf n v) (fun p l r il ir => s_set' n p l r il ir) t lo hi K = K t' ∧ ∀ m, lo ≤ m → (hi = 0 ∨ m < hi) → t'.get m = if m = n then v else t.get m := by
    intro t
    induction t with
    | leaf x =>
      intro lo hi K h1 h2
      exact s_leaf_ok h1 h2
    | branch p l r il ir =>
      intro lo hi K h1 h2
      show ∃ t', s_set' n p l r _ _ lo hi K = K t' ∧ _
      unfold s_set'
      cases hp : Nat.ble p n with
      | true =>
        have hp := Nat.le_of_ble_eq_true hp
        obtain ⟨r', g1, g2⟩ := ir p hi (s_brr p l K) hp h2
        refine ⟨.branch p l r', g1, fun m m1 m2 => ?_⟩
        rw [s_gb, s_gb]
        split
        · next hm => exact g2 m hm m2
        · rw [if_neg (by omega)]
      | false =>
        have hp : n < p := by
          rcases Nat.lt_or_ge n p with g | g
          · exact g
          · rw [Nat.ble_eq_true_of_le g] at hp; cases hp
        obtain ⟨l', g1, g2⟩ := il lo p (s_brl p r K) h1 (Or.inr hp)
        refine ⟨.branch p l' r, g1, fun m m1 m2 => ?_⟩
        rw [s_gb, s_gb]
        split
        · rw [if_neg (by omega)]
        · next hm => exact g2 m m1 (Or.inr (by omega))
  obtain ⟨t', g1, g2⟩ := key t 0 0 K (Nat.zero_le n) (Or.inl rfl)
  exact ⟨t', g1, fun m => g2 m (Nat.zero_le m) (Or.inl rfl)⟩
def s_cr (θ : Nat → Int32) (c : s_A) (d : p_C) : Prop := d.1 = c.1 ∧ d.2.1 = c.2.1 ∧ d.2.2.length = c.2.2.1 ∧ ∀ i, s_t (c.2.2.2.get i) ≠ 0 → ∃ v, d.2.2[i]? = some v ∧ s_v θ (c.2.2.2.get i) v
def s_scr (θ : Nat → Int32) : List Value := (List.range (θ 0).toNatClampNeg).map (fun i => .int (θ (i + 1)))
def s_hr (θ : Nat → Int32) (H : s_H) (h : p_H) : Prop := h.length = H.2.1 ∧ (p_sl h ≤ H.2.2 ∧ (H.1.get 0).1 = 9 ∧ h[0]? = some (2, 0, s_scr θ)) ∧ ∀ a, (H.1.get a).1 ≠ 9 → ∃ d, h[a]? = some d ∧ s_cr θ (H.1.get a) d
def s_lr (θ : Nat → Int32) (L : s_L) (ls : p_Ls) : Prop := ∀ (i : Nat) (a : s_V), L[i]? = some a → s_t a ≠ 0 → ∃ v, p_lk i ls = some v ∧ s_v θ a v
def s_sv (θ : Nat → Int32) (a : s_V) (v : Value) : Prop := s_t a ≠ 0 ∧ s_v θ a v
def s_sr (θ : Nat → Int32) : s_L → List Value → Prop
  | [], [] => True
  | a :: A, v :: V => s_sv θ a v ∧ s_sr θ A V
  | _, _ => False
section SH
variable {θ : Nat → Int32} {F : s_F} {H : s_H} {h : p_H} {L S : s_L} {ls : p_Ls} {st : List Value}
theorem s_sr_nil (h : s_sr θ [] st) : st = [] := by cases st with
  | nil => rfl
  | cons v V => exact h.elim
theorem s_sr_cons {a : s_V} {A : s_L} (h : s_sr θ (a :: A) st) : ∃ v V, st = v :: V ∧ s_sv θ a v ∧ s_sr θ A V := by cases st with
  | nil => exact h.elim
  | cons v V => exact ⟨v, V, rfl, h⟩
theorem s_p1_ok {k : s_V → s_L → Bool} (hS : s_sr θ S st) (h : s_p1 S k = true) : ∃ a A v V, S = a :: A ∧ st = v :: V ∧ s_sv θ a v ∧ s_sr θ A V ∧ k a A = true := by
  cases S with
  | nil => cases h
  | cons a A =>
    obtain ⟨v, V, rfl, h1, h2⟩ := s_sr_cons hS
    exact ⟨a, A, v, V, rfl, rfl, h1, h2, h⟩
theorem s_p2_ok {k : s_V → s_V → s_L → Bool} (hS : s_sr θ S st) (h : s_p2 S k = true) : ∃ a b A v w V, S = a :: b :: A ∧ st = v :: w :: V ∧ s_sv θ a v ∧ s_sv θ b w ∧ s_sr θ A V ∧ k a b A = true := by
  cases S with
  | nil => cases h
  | cons a A =>
    obtain ⟨v, V, rfl, h1, h2⟩ := s_sr_cons hS
    cases A with
    | nil => cases h
    | cons b A =>
      obtain ⟨w, V, rfl, h3, h4⟩ := s_sr_cons h2
      exact ⟨a, b, A, v, w, V, rfl, rfl, h1, h3, h4, h⟩
theorem s_fv_ok {v : s_V} {K : s_V → Bool} (h : s_fv v K = true) : s_t v ≠ 0 ∧ K v = true := by
  cases v with
  | inl z => exact ⟨by show (1 : Nat) ≠ 0; decide, h⟩
  | inr q =>
    obtain ⟨t, e⟩ := q
    have h : s_and (Nat.ble 1 t) (K (.inr (t, e))) = true := h
    rw [s_and_iff] at h
    have := Nat.le_of_ble_eq_true h.1
    exact ⟨by show t ≠ 0; omega, h.2⟩
theorem s_ref_ok {o : s_V} {v : Value} {K : Nat → s_A → Bool} (hv : s_v θ o v) (h : s_ref H o K = true) : ∃ a, v = .ref a ∧ K a (H.1.get a) = true := by
  cases o with
  | inl z => cases h
  | inr q =>
    obtain ⟨t, e⟩ := q
    have h : s_and (Nat.ble 16 t) (s_ref' K (t - 16) (H.1.get (t - 16))) = true := h
    rw [s_and_iff] at h
    exact ⟨t - 16, s_v_ref h.1 hv, h.2⟩
theorem s_hr.at (hH : s_hr θ H h) {a s : Nat} (hs : Nat.beq (H.1.get a).1 s = true) (h9 : s ≠ 9) : ∃ d, h[a]? = some d ∧ s_cr θ (H.1.get a) d :=
  hH.2.2 a (by rw [Nat.eq_of_beq_eq_true hs]; exact h9)
theorem s_tnz {v : s_V} (h : Nat.ble 1 (s_t v) = true) : s_t v ≠ 0 := by have := Nat.le_of_ble_eq_true h; omega
theorem s_hr.put (hH : s_hr θ H h) {a j : Nat} {d : p_C} {x : s_V} {v : Value} {K : s_H → Bool} (hd : h[a]? = some d) (hc : s_cr θ (H.1.get a) d) (hj : s_t ((H.1.get a).2.2.2.get j) ≠ 0) (hv : s_v θ x v)
    (hk : s_set (H.1.get a).2.2.2 j x (s_upd H a (H.1.get a) K) = true) : ∃ H', K H' = true ∧ s_hr θ H' (h.set a (d.1, d.2.1, d.2.2.set j v)) := by
  obtain ⟨vs, g1, g2⟩ := s_set_ok (t := (H.1.get a).2.2.2) (n := j) (v := x) (K := s_upd H a (H.1.get a) K)
  rw [g1] at hk
  obtain ⟨T, g3, g4⟩ := s_set_ok (t := H.1) (n := a) (v := ((H.1.get a).1, (H.1.get a).2.1, (H.1.get a).2.2.1, vs)) (K := s_hp H K)
  have hk : s_set H.1 a ((H.1.get a).1, (H.1.get a).2.1, (H.1.get a).2.2.1, vs) (s_hp H K) = true := hk
  rw [g3] at hk
  have hal : a < h.length := (List.getElem?_eq_some_iff.mp hd).1
  have ha0 : a ≠ 0 := by
    intro e
    subst e
    have e1 : d = (2, 0, s_scr θ) := Option.some.inj (hd.symm.trans hH.2.1.2.2)
    have e2 : d.1 = 9 := hc.1.trans hH.2.1.2.1
    rw [e1] at e2
    exact absurd e2 (show ¬ (2 : Nat) = 9 by decide)
  refine ⟨(T, H.2.1, H.2.2), hk, by simpa using hH.1, ⟨by rw [p_sl_set hd (by simp)]; exact hH.2.1.1, by show (T.get 0).1 = 9; rw [g4, if_neg (Ne.symm ha0)]; exact hH.2.1.2.1, by rw [List.getElem?_set_ne ha0]; exact hH.2.1.2.2⟩, fun b hb => ?_⟩
  · show ∃ e, (h.set a _)[b]? = some e ∧ s_cr θ (T.get b) e
    replace hb : (T.get b).1 ≠ 9 := hb
    rw [g4] at hb ⊢
    by_cases e : b = a
    · subst e
      rw [if_pos rfl]
      refine ⟨(d.1, d.2.1, d.2.2.set j v), by rw [List.getElem?_set, if_pos rfl, if_pos hal], hc.1, hc.2.1, by simpa using hc.2.2.1, fun i hi => ?_⟩
      show ∃ w, (d.2.2.set j v)[i]? = some w ∧ s_v θ (vs.get i) w
      replace hi : s_t (vs.get i) ≠ 0 := hi
      rw [g2] at hi ⊢
      by_cases ei : i = j
      · subst ei
        rw [if_pos rfl]
        obtain ⟨w, hw, -⟩ := hc.2.2.2 i hj
        exact ⟨v, List.getElem?_set_self (List.getElem?_eq_some_iff.mp hw).1, hv⟩
      · rw [if_neg ei] at hi ⊢
        obtain ⟨w, hw, hw2⟩ := hc.2.2.2 i hi
        exact ⟨w, by rw [List.getElem?_set_ne (Ne.symm ei)]; exact hw, hw2⟩
    · rw [if_neg e] at hb ⊢
      obtain ⟨e', he, he2⟩ := hH.2.2 b hb
      exact ⟨e', by rw [List.getElem?_set_ne (Ne.symm e)]; exact he, he2⟩
theorem s_hr.whole (hH : s_hr θ H h) {a : Nat} {d : p_C} {vs : Lean.RArray s_V} {ws : List Value} {K : s_H → Bool} (hd : h[a]? = some d) (hc : s_cr θ (H.1.get a) d) (hl : ws.length = d.2.2.length) (hv : ∀ i, s_t (vs.get i) ≠ 0 → ∃ v, ws[i]? = some v ∧ s_v θ (vs.get i) v)
    (hk : s_upd H a (H.1.get a) K vs = true) : ∃ H', K H' = true ∧ s_hr θ H' (h.set a (d.1, d.2.1, ws)) := by
  obtain ⟨T, g3, g4⟩ := s_set_ok (t := H.1) (n := a) (v := ((H.1.get a).1, (H.1.get a).2.1, (H.1.get a).2.2.1, vs)) (K := s_hp H K)
  have hk : s_set H.1 a ((H.1.get a).1, (H.1.get a).2.1, (H.1.get a).2.2.1, vs) (s_hp H K) = true := hk
  rw [g3] at hk
  have hal : a < h.length := (List.getElem?_eq_some_iff.mp hd).1
  have ha0 : a ≠ 0 := by
    intro e
    subst e
    have e1 : d = (2, 0, s_scr θ) := Option.some.inj (hd.symm.trans hH.2.1.2.2)
    have e2 : d.1 = 9 := hc.1.trans hH.2.1.2.1
    rw [e1] at e2
    exact absurd e2 (show ¬ (2 : Nat) = 9 by decide)
  refine ⟨(T, H.2.1, H.2.2), hk, by simpa using hH.1, ⟨by rw [p_sl_set hd hl]; exact hH.2.1.1, by show (T.get 0).1 = 9; rw [g4, if_neg (Ne.symm ha0)]; exact hH.2.1.2.1, by rw [List.getElem?_set_ne ha0]; exact hH.2.1.2.2⟩, fun b hb => ?_⟩
  · show ∃ e, (h.set a _)[b]? = some e ∧ s_cr θ (T.get b) e
    replace hb : (T.get b).1 ≠ 9 := hb
    rw [g4] at hb ⊢
    by_cases e : b = a
    · subst e
      rw [if_pos rfl]
      exact ⟨(d.1, d.2.1, ws), by rw [List.getElem?_set, if_pos rfl, if_pos hal], hc.1, hc.2.1, hl.trans hc.2.2.1, hv⟩
    · rw [if_neg e] at hb ⊢
      obtain ⟨e', he, he2⟩ := hH.2.2 b hb
      exact ⟨e', by rw [List.getElem?_set_ne (Ne.symm e)]; exact he, he2⟩
theorem s_hr.mk (hH : s_hr θ H h) {c : s_A} {d : p_C} {K : s_H → s_V → Bool} (hc : s_cr θ c d) (hk : s_mkc H c K = true) : ∃ H' r, K H' r = true ∧ s_hr θ H' (h ++ [d]) ∧ s_sv θ r (.ref h.length) := by
  unfold s_mkc at hk
  obtain ⟨T, g3, g4⟩ := s_set_ok (t := H.1) (n := H.2.1) (v := c) (K := fun t => s_fn (fun n => s_fn (fun m => s_fn (fun a => K (t, n, m) (.inr (a, .leaf 0))) (16 + H.2.1)) (H.2.2 + c.2.2.1)) (H.2.1 + 1))
  rw [g3, s_fn_eq, s_fn_eq, s_fn_eq] at hk
  have hl0 : 0 < h.length := (List.getElem?_eq_some_iff.mp hH.2.1.2.2).1
  refine ⟨_, _, hk, ⟨by simp [hH.1], ⟨by rw [p_sl_app, hc.2.2.1]; exact Nat.add_le_add_right hH.2.1.1 _, by show (T.get 0).1 = 9; rw [g4, if_neg (by rw [← hH.1]; omega)]; exact hH.2.1.2.1, by rw [List.getElem?_append_left hl0]; exact hH.2.1.2.2⟩, fun b hb => ?_⟩, ?_, ?_⟩
  · show ∃ e, (h ++ [d])[b]? = some e ∧ s_cr θ (T.get b) e
    replace hb : (T.get b).1 ≠ 9 := hb
    rw [g4] at hb ⊢
    by_cases e : b = H.2.1
    · rw [if_pos e, e, ← hH.1]
      exact ⟨d, by simp, hc⟩
    · rw [if_neg e] at hb ⊢
      obtain ⟨e', he, he2⟩ := hH.2.2 b hb
      have hlt := (List.getElem?_eq_some_iff.mp he).1
      exact ⟨e', by rw [List.getElem?_append_left hlt]; exact he, he2⟩
  · show 16 + H.2.1 ≠ 0; omega
  · rw [show 16 + H.2.1 = H.2.1 + 16 by omega, hH.1]; rfl
theorem s_nth_ok {K : s_V → Bool} : ∀ {L : s_L} {k : Nat}, s_nth L k K = true → ∃ a, L[k]? = some a ∧ K a = true := by
  intro L
  induction L with
  | nil => intro k h; cases h
  | cons a A ih =>
    intro k h
    cases k with
    | zero => exact ⟨a, rfl, h⟩
    | succ k =>
      obtain ⟨b, h1, h2⟩ := ih (k := k) h
      exact ⟨b, by simpa using h1, h2⟩
theorem s_padl_get {v : s_V} : ∀ {k i : Nat} {a : s_V}, (s_padl v k)[i]? = some a → s_t a ≠ 0 → i = k ∧ a = v := by
  intro k
  induction k with
  | zero =>
    intro i a h _
    cases i with
    | zero => cases h; exact ⟨rfl, rfl⟩
    | succ i =>
      have h : ([v] : s_L)[i + 1]? = some a := h
      simp at h
  | succ k ih =>
    intro i a h ha
    cases i with
    | zero => cases h; exact absurd rfl ha
    | succ i =>
      have h : (s_padl v k)[i]? = some a := h
      obtain ⟨e1, e2⟩ := ih h ha
      exact ⟨by omega, e2⟩
theorem s_st_ok {v : s_V} : ∀ {L : s_L} {k : Nat} {K : s_L → Bool}, s_st L k v K = true → ∃ L', K L' = true ∧ ∀ i a, L'[i]? = some a → s_t a ≠ 0 → (i = k ∧ a = v) ∨ (i ≠ k ∧ L[i]? = some a ∧ (i + 1 = k → s_long (s_t a) = false)) := by
  intro L
  induction L with
  | nil =>
    intro k K h
    exact ⟨_, h, fun i a hi ha => Or.inl (s_padl_get hi ha)⟩
  | cons b B ih =>
    intro k K h
    cases k with
    | zero =>
      refine ⟨_, h, fun i a hi ha => ?_⟩
      cases i with
      | zero => cases hi; exact Or.inl ⟨rfl, rfl⟩
      | succ i => exact Or.inr ⟨by omega, by simpa using hi, fun e => by omega⟩
    | succ k =>
      have h : s_and (s_if (Nat.ble 1 k) true (s_if (s_long (s_t b)) false true)) (s_st B k v (s_cons K b)) = true := h
      rw [s_and_iff] at h
      obtain ⟨L', g1, g2⟩ := ih h.2
      refine ⟨b :: L', g1, fun i a hi ha => ?_⟩
      cases i with
      | zero =>
        cases hi
        refine Or.inr ⟨by omega, rfl, fun e => ?_⟩
        have e : k = 0 := by omega
        subst e
        rcases s_if_iff.mp h.1 with ⟨q, -⟩ | ⟨-, q⟩
        · cases q
        · rcases s_if_iff.mp q with ⟨-, q⟩ | ⟨q, -⟩
          · cases q
          · exact q
      | succ i =>
        rcases g2 i a (by simpa using hi) ha with ⟨e1, e2⟩ | ⟨e1, e2, e3⟩
        · exact Or.inl ⟨by omega, e2⟩
        · exact Or.inr ⟨by omega, by simpa using e2, fun q => e3 (by omega)⟩
theorem s_str_ok {v : s_V} : ∀ {L : s_L} {k : Nat} {K : s_L → Bool}, s_str L k v K = true → ∃ L', K L' = true ∧ ∀ i a, L'[i]? = some a → s_t a ≠ 0 → (i = k ∧ a = v) ∨ (i ≠ k ∧ L[i]? = some a) := by
  intro L
  induction L with
  | nil =>
    intro k K h
    exact ⟨_, h, fun i a hi ha => Or.inl (s_padl_get hi ha)⟩
  | cons b B ih =>
    intro k K h
    cases k with
    | zero =>
      refine ⟨_, h, fun i a hi ha => ?_⟩
      cases i with
      | zero => cases hi; exact Or.inl ⟨rfl, rfl⟩
      | succ i => exact Or.inr ⟨by omega, by simpa using hi⟩
    | succ k =>
      have h : s_str B k v (s_cons K b) = true := h
      obtain ⟨L', g1, g2⟩ := ih h
      refine ⟨b :: L', g1, fun i a hi ha => ?_⟩
      cases i with
      | zero => cases hi; exact Or.inr ⟨by omega, rfl⟩
      | succ i =>
        rcases g2 i a (by simpa using hi) ha with ⟨e1, e2⟩ | ⟨e1, e2⟩
        · exact Or.inl ⟨by omega, e2⟩
        · exact Or.inr ⟨by omega, by simpa using e2⟩
theorem p_lk_s1' {ls : p_Ls} {i : Nat} {v : Value} : p_lk i (p_s1 ls i v) = some v := by simp [p_s1, p_lk]
theorem p_lk_s2' {ls : p_Ls} {i : Nat} {v : Value} : p_lk i (p_s2 ls i v) = some v := by simp [p_s2, p_lk]
theorem p_lk_fil' {g : Nat × Value → Bool} {j : Nat} {w : Value} : ∀ {ls : p_Ls}, p_lk j ls = some w → g (j, w) = true → p_lk j (ls.filter g) = some w := by
  intro ls
  induction ls with
  | nil => intro h _; simp [p_lk] at h
  | cons q r ih =>
    intro h hg
    simp only [p_lk] at h
    split at h
    · next e =>
      cases h
      have e1 : q.1 = j := Nat.eq_of_beq_eq_true e
      have hq : g q = true := by rw [← e1] at hg; exact hg
      rw [List.filter_cons_of_pos hq]
      simp only [p_lk, e, if_true]
    · next e =>
      by_cases hq : g q = true
      · rw [List.filter_cons_of_pos hq]
        simp only [p_lk]
        rw [if_neg e]
        exact ih h hg
      · rw [List.filter_cons_of_neg hq]
        exact ih h hg
theorem p_lk_ne {ls : p_Ls} {i j : Nat} {v : Value} (h : i ≠ j) : p_lk j ((i, v) :: ls) = p_lk j ls := by
  simp only [p_lk]
  rw [if_neg]
  intro q
  exact h (Nat.eq_of_beq_eq_true q)
theorem s_cat1 {a : s_V} {v : Value} (h0 : s_t a ≠ 0) (hl : s_long (s_t a) = false) (hv : s_v θ a v) : (v.category == 2) = false := by
  cases a with
  | inl z => rw [hv.2]; rfl
  | inr q =>
    obtain ⟨t, e⟩ := q
    match t, h0, hl, hv with
    | 0, h0, _, _ => exact absurd rfl h0
    | 1, _, _, hv => rw [show v = _ from hv]; rfl
    | 2, _, hl, _ => cases hl
    | 3, _, _, hv => exact hv.elim
    | 4, _, _, hv => rw [show v = _ from hv]; rfl
    | 5, _, hl, _ => cases hl
    | 6, _, _, hv => exact hv.elim
    | 7, _, _, hv => obtain ⟨x, rfl⟩ := hv; rfl
    | 8, _, _, hv => exact hv.elim
    | 9, _, _, hv => exact hv.elim
    | 10, _, _, hv => exact hv.elim
    | 11, _, _, hv => exact hv.elim
    | 12, _, _, hv => exact hv.elim
    | 13, _, _, hv => exact hv.elim
    | 14, _, _, hv => exact hv.elim
    | 15, _, _, hv => exact hv.elim
    | k + 16, _, _, hv => rw [show v = _ from hv]; rfl
theorem s_lr.st1 (hL : s_lr θ L ls) {k : Nat} {x : s_V} {v : Value} {K : s_L → Bool} (hv : s_v θ x v) (h : s_st L k x K = true) : ∃ L', K L' = true ∧ s_lr θ L' (p_s1 ls k v) := by
  obtain ⟨L', g1, g2⟩ := s_st_ok h
  refine ⟨L', g1, fun i a hi ha => ?_⟩
  rcases g2 i a hi ha with ⟨rfl, rfl⟩ | ⟨e1, e2, e3⟩
  · exact ⟨v, p_lk_s1', hv⟩
  · obtain ⟨w, w1, w2⟩ := hL i a e2 ha
    refine ⟨w, ?_, w2⟩
    unfold p_s1
    rw [p_lk_ne (Ne.symm e1)]
    refine p_lk_fil' w1 ?_
    have hn : (i == k) = false := by simp [e1]
    simp only [hn, Bool.not_false, Bool.true_and, Bool.not_eq_true']
    by_cases e4 : i + 1 = k
    · rw [s_cat1 ha (e3 e4) w2, Bool.and_false]
    · have : (i + 1 == k) = false := by simp [e4]
      rw [this, Bool.false_and]
theorem s_lr.st2 (hL : s_lr θ L ls) {k : Nat} {x : s_V} {v : Value} {K : s_L → Bool} (hv : s_v θ x v) (h : s_str L (k + 1) s_u (fun L => s_st L k x K) = true) : ∃ L', K L' = true ∧ s_lr θ L' (p_s2 ls k v) := by
  obtain ⟨L1, f1, f2⟩ := s_str_ok h
  obtain ⟨L', g1, g2⟩ := s_st_ok f1
  refine ⟨L', g1, fun i a hi ha => ?_⟩
  rcases g2 i a hi ha with ⟨rfl, rfl⟩ | ⟨e1, e2, e3⟩
  · exact ⟨v, p_lk_s2', hv⟩
  · rcases f2 i a e2 ha with ⟨rfl, rfl⟩ | ⟨d1, d2⟩
    · exact absurd rfl ha
    · obtain ⟨w, w1, w2⟩ := hL i a d2 ha
      refine ⟨w, ?_, w2⟩
      unfold p_s2
      rw [p_lk_ne (Ne.symm e1)]
      refine p_lk_fil' w1 ?_
      have hn : (i == k) = false := by simp [e1]
      have hn2 : (i == k + 1) = false := by simp [d1]
      simp only [hn, hn2, Bool.not_false, Bool.true_and, Bool.not_eq_true']
      by_cases e4 : i + 1 = k
      · rw [s_cat1 ha (e3 e4) w2, Bool.and_false]
      · have : (i + 1 == k) = false := by simp [e4]
        rw [this, Bool.false_and]
end SH

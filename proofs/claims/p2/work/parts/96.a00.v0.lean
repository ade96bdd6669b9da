def v_b (c : Prop) [Decidable c] : Int := if c then 1 else 0
theorem v_b0 {c : Prop} [Decidable c] : (v_b c = 0) = ¬ c := by unfold v_b; split <;> simp [*]
theorem v_b1 {c : Prop} [Decidable c] : (v_b c = 1) = c := by unfold v_b; split <;> simp [*]
theorem v_bt {c : Prop} [Decidable c] (h : c) : v_b c = 1 := if_pos h
theorem v_bf {c : Prop} [Decidable c] (h : ¬ c) : v_b c = 0 := if_neg h
theorem v_bR {c : Prop} [Decidable c] : v_b c = 0 ∨ v_b c = 1 := by unfold v_b; split <;> simp
theorem v_bc {c e : Prop} [Decidable c] [Decidable e] (h : c ↔ e) : v_b c = v_b e := by
  by_cases q : c
  · rw [v_bt q, v_bt (h.mp q)]
  · rw [v_bf q, v_bf (fun z => q (h.mpr z))]
section VS
variable {s : d_S} {a b k j : Nat} {v : Int}
theorem d_si_n (h : b ≠ a) : (d_si s a k v).1 b = s.1 b := d_u_n h
theorem d_si_i : (d_si s a k v).1 a = d_u (s.1 a) k v := d_u_t
theorem d_si_2 : (d_si s a k v).2 = s.2 := rfl
theorem d_st_n {f : Nat → Int} (h : b ≠ a) : (d_st s a f).1 b = s.1 b := d_u_n h
theorem d_st_i {f : Nat → Int} : (d_st s a f).1 a = f := d_u_t
theorem d_st_2 {f : Nat → Int} : (d_st s a f).2 = s.2 := rfl
theorem d_l_t {α β : Type} {x : α} {f : α → β} : d_l x f = f x := rfl
end VS
theorem P_within {x a b : Int} : F_X11_within x a b = some (v_b (a ≤ x ∧ x ≤ b)) := by
  unfold F_X11_within
  by_cases h1 : x < a
  · rw [if_pos h1, v_bf (by omega)]
  · rw [if_neg h1]
    by_cases h2 : b < x
    · rw [if_pos h2, v_bf (by omega)]
    · rw [if_neg h2, v_bt (by omega)]
theorem P_isIn {x a b : Int} : F_X12_isIn x a b = some (v_b (a ≤ x ∧ x ≤ b)) := by
  unfold F_X12_isIn
  by_cases h1 : x < a
  · rw [if_pos h1, v_bf (by omega)]
  · rw [if_neg h1]
    by_cases h2 : b < x
    · rw [if_pos h2, v_bf (by omega)]
    · rw [if_neg h2, v_bt (by omega)]
theorem P_bit {x : Int} : F_X11_bit x = some (v_b (¬ x = 0)) := by
  unfold F_X11_bit
  by_cases h1 : x = 0
  · rw [if_pos h1, v_bf (by omega)]
  · rw [if_neg h1, v_bt h1]
theorem P_min {x y : Int} : F_J9_min_7cf53 x y = some (min x y) := by
  unfold F_J9_min_7cf53
  split <;> congr 1 <;> omega
theorem P_max {x y : Int} : F_J9_max_7cf53 x y = some (max x y) := by
  unfold F_J9_max_7cf53
  split <;> congr 1 <;> omega
def v_pc (n : Nat) : Nat → Nat
  | 0 => 0
  | k + 1 => v_pc n k + n / 2 ^ k % 2
theorem v_pc_le {n : Nat} : ∀ k, v_pc n k ≤ k := by
  intro k
  induction k with
  | zero => exact Nat.le_refl _
  | succ k ih => simp only [v_pc]; have := Nat.mod_lt (n / 2 ^ k) (show 0 < 2 by decide); omega
theorem v_pc_s {n k : Nat} : v_pc n (k + 1) = v_pc n k + n / 2 ^ k % 2 := rfl
theorem v_oi {n : Nat} : Int32.ofInt (n : Int) = Int32.ofNat n := rfl
theorem v_tn {n : Nat} (hn : n < 2147483648) : (Int32.ofNat n).toInt = n := Int32.toInt_ofNat_of_lt hn
theorem v_bn {n : Nat} (hn : n < 2147483648) : (Int32.ofNat n).toBitVec.toNat = n := by
  show (BitVec.ofNat 32 n).toNat = n
  rw [BitVec.toNat_ofNat]; exact Nat.mod_eq_of_lt (by omega)
theorem v_ofb {x : Int32} {n : Nat} (hn : n < 2147483648) (h : x.toBitVec.toNat = n) : x.toInt = n := by
  have : x = Int32.ofNat n := by
    apply Int32.toBitVec_inj.mp
    apply BitVec.eq_of_toNat_eq
    rw [h, v_bn hn]
  rw [this, v_tn hn]
theorem v_and {a b : Nat} (ha : a < 2147483648) (hb : b < 2147483648) : d_and (a : Int) (b : Int) = ((a &&& b : Nat) : Int) := by
  unfold d_and
  rw [v_oi, v_oi]
  refine v_ofb (Nat.lt_of_le_of_lt Nat.and_le_left ha) ?_
  rw [Int32.toBitVec_and, BitVec.toNat_and, v_bn ha, v_bn hb]
theorem v_or {a b : Nat} (ha : a < 2147483648) (hb : b < 2147483648) : d_or (a : Int) (b : Int) = ((a ||| b : Nat) : Int) := by
  unfold d_or
  rw [v_oi, v_oi]
  refine v_ofb (Nat.or_lt_two_pow (n := 31) ha hb) ?_
  rw [Int32.toBitVec_or, BitVec.toNat_or, v_bn ha, v_bn hb]
theorem v_sh31 : ∀ k : Nat, k < 31 → ((Int32.ofNat k &&& 31).toBitVec.smod 32).toNat = k := by decide +kernel
theorem v_shr {n k : Nat} (hn : n < 2147483648) (hk : k < 31) : d_shr (n : Int) (k : Int) = ((n / 2 ^ k : Nat) : Int) := by
  unfold d_shr
  rw [v_oi, v_oi]
  show ((Int32.ofNat n >>> (Int32.ofNat k &&& 31)).toBitVec).toInt = _
  rw [Int32.toBitVec_shiftRight, BitVec.sshiftRight', v_sh31 k hk, BitVec.toInt_sshiftRight]
  show (Int32.ofNat n).toInt >>> k = _
  rw [v_tn hn, Int.shiftRight_eq_div_pow]
  norm_cast
theorem v_shl {x k : Nat} (hk : k < 31) (hx : x * 2 ^ k < 2147483648) : d_shl (x : Int) (k : Int) = ((x * 2 ^ k : Nat) : Int) := by
  unfold d_shl
  rw [v_oi, v_oi]
  have h2 : x ≤ x * 2 ^ k := Nat.le_mul_of_pos_right _ (Nat.two_pow_pos k)
  refine v_ofb hx ?_
  rw [Int32.toBitVec_shiftLeft, BitVec.shiftLeft_eq', v_sh31 k hk, BitVec.toNat_shiftLeft, v_bn (by omega), Nat.shiftLeft_eq]
  exact Nat.mod_eq_of_lt (by omega)
theorem v_and1 {m : Nat} (hm : m < 2147483648) : d_and (m : Int) 1 = ((m % 2 : Nat) : Int) := by
  have := v_and (a := m) (b := 1) hm (by decide)
  rw [Nat.and_one_is_mod] at this
  exact this
theorem v_bit {n k : Nat} (hn : n < 2147483648) (hk : k < 31) : d_and (d_shr (n : Int) (k : Int)) 1 = ((n / 2 ^ k % 2 : Nat) : Int) := by
  rw [v_shr hn hk, v_and1 (Nat.lt_of_le_of_lt (Nat.div_le_self _ _) hn)]
theorem v_1shl {k : Nat} (hk : k < 31) : d_shl 1 (k : Int) = ((2 ^ k : Nat) : Int) := by
  have hp : 2 ^ k < 2147483648 := Nat.pow_lt_pow_right (show 1 < 2 by decide) hk
  have := v_shl (x := 1) hk (by omega)
  rw [Nat.one_mul] at this
  exact this
theorem v_low {u c : Nat} (hu : u < 2147483648) (hc : c < 31) : d_and (u : Int) (d_shl 1 (c : Int) - 1) = ((u % 2 ^ c : Nat) : Int) := by
  have hp : 2 ^ c < 2147483648 := Nat.pow_lt_pow_right (show 1 < 2 by decide) hc
  have h1 := Nat.two_pow_pos c
  rw [v_1shl hc, show ((2 ^ c : Nat) : Int) - 1 = ((2 ^ c - 1 : Nat) : Int) by omega, v_and hu (by omega), Nat.and_two_pow_sub_one_eq_mod]
theorem v_or1 {k x : Nat} (hk : k < 31) (hx : x < 2 ^ k) : d_or (x : Int) (d_shl 1 (k : Int)) = ((x + 2 ^ k : Nat) : Int) := by
  have hp : 2 ^ k < 2147483648 := Nat.pow_lt_pow_right (show 1 < 2 by decide) hk
  have h2 := Nat.two_pow_add_eq_or_of_lt hx 1
  rw [Nat.mul_one] at h2
  rw [v_1shl hk, v_or (by omega) hp, Nat.or_comm, ← h2, Nat.add_comm]
theorem v_pcm : ∀ u, u < 128 → ∀ c, c < 9 → v_pc (u % 2 ^ c) 12 = v_pc u c := by decide +kernel
theorem v_div {a b : Nat} (ha : a < 2147483648) (hb : b < 2147483648) : d_div (a : Int) (b : Int) = ((a / b : Nat) : Int) := by
  unfold d_div
  have h1 : (Int32.ofInt (a : Int)).toInt = a := d_ti ⟨by omega, by omega⟩
  have h2 : (Int32.ofInt (b : Int)).toInt = b := d_ti ⟨by omega, by omega⟩
  rw [Int32.toInt_div, h1, h2, ← Int.ofNat_tdiv]
  have := Nat.div_le_self a b
  generalize a / b = q at *
  exact Int.bmod_eq_of_le (by omega) (by omega)
theorem v_rem {a b : Nat} (ha : a < 2147483648) (hb : b < 2147483648) : d_rem (a : Int) (b : Int) = ((a % b : Nat) : Int) := by
  have hd := v_div ha hb
  unfold d_div at hd
  unfold d_rem
  have h0 : Int32.ofInt (a : Int) / Int32.ofInt (b : Int) = Int32.ofInt ((a / b : Nat) : Int) := by rw [← hd, Int32.ofInt_toInt]
  rw [h0, ← Int32.ofInt_mul, ← Int32.ofInt_sub]
  have h1 := Nat.div_add_mod a b
  have h2 : ((a : Int) - ((a / b : Nat) : Int) * (b : Int)) = ((a % b : Nat) : Int) := by
    have : (a : Int) = (b : Int) * ((a / b : Nat) : Int) + ((a % b : Nat) : Int) := by exact_mod_cast h1.symm
    rw [Int.mul_comm ((a / b : Nat) : Int)]; omega
  rw [h2]
  have := Nat.mod_le a b
  exact d_ti ⟨by omega, by omega⟩
theorem v_or0 {x : Int} (h : d_R x) : d_or x 0 = x := by
  unfold d_or
  rw [show Int32.ofInt 0 = 0 from rfl, Int32.or_zero, d_ti h]
theorem v_bitsl {n : Nat} (hn : n < 4096) : ∀ j k m : Nat, k + j = 12 → j < m → F_X12_bits_l4 m (n : Int) (v_pc n k : Nat) (k : Nat) = some ((v_pc n 12 : Nat) : Int) := by
  intro j
  induction j with
  | zero =>
    intro k m hk hm
    obtain ⟨m, rfl⟩ : ∃ q, m = q + 1 := ⟨m - 1, by omega⟩
    have hk : k = 12 := by omega
    subst hk
    show F_X12_bits_l4_b (F_X12_bits_l4 m) _ _ _ = _
    unfold F_X12_bits_l4_b
    rw [if_neg (by omega)]
  | succ j ih =>
    intro k m hk hm
    obtain ⟨m, rfl⟩ : ∃ q, m = q + 1 := ⟨m - 1, by omega⟩
    show F_X12_bits_l4_b (F_X12_bits_l4 m) _ _ _ = _
    unfold F_X12_bits_l4_b
    have hb := v_pc_le (n := n) k
    have hm2 := Nat.mod_lt (n / 2 ^ k) (show 0 < 2 by decide)
    rw [if_pos (by omega), v_bit (show n < 2147483648 by omega) (show k < 31 by omega), d_l_t, d_w_id (by omega) (by omega), d_w_id (by omega) (by omega)]
    exact ih (k + 1) m (by omega) (by omega)
theorem P_bits {n : Nat} (hn : n < 4096) : F_X12_bits (n : Int) = some ((v_pc n 12 : Nat) : Int) :=
  v_bitsl hn 12 0 d_N rfl (by rw [d_N_is]; decide)
theorem P_partOf {u c : Nat} (hu : u < 128) (hc : c < 9) : F_X12_partOf (u : Int) (c : Int) = some ((v_pc u c : Nat) : Int) := by
  unfold F_X12_partOf
  rw [v_low (by omega) (by omega), P_bits (by have := Nat.mod_le u (2 ^ c); omega), d_b_t, v_pcm u hu c hc]
def v_bgl (u p : Nat) : Nat → Nat → Nat
  | 0, i => i
  | j + 1, i => if p ≤ v_pc u i then i else v_bgl u p j (i + 1)
def v_bg (u p : Nat) : Nat := v_bgl u p 7 0
def v_ln (u p : Nat) : Nat → Nat
  | 0 => 0
  | k + 1 => v_ln u p k + (if v_pc u k = p then 1 else 0)
theorem v_bgl_le {u p : Nat} : ∀ j i, v_bgl u p j i ≤ i + j := by
  intro j
  induction j with
  | zero => intro i; exact Nat.le_refl _
  | succ j ih =>
    intro i
    simp only [v_bgl]
    split
    · omega
    · have := ih (i + 1); omega
theorem v_bg_le {u p : Nat} : v_bg u p ≤ 7 := v_bgl_le 7 0
theorem v_ln_le {u p : Nat} : ∀ k, v_ln u p k ≤ k := by
  intro k
  induction k with
  | zero => exact Nat.le_refl _
  | succ k ih =>
    simp only [v_ln]
    split <;> omega
theorem v_pc7 : ∀ u, u < 128 → v_pc u 7 = v_pc u 12 := by decide +kernel
theorem v_beginl {u p : Nat} (hu : u < 128) (hp : p ≤ v_pc u 12) : ∀ j i m : Nat, i + j = 7 → j < m → F_X12_beginOf_l2 m (u : Int) (p : Int) (i : Int) = some ((v_bgl u p j i : Nat) : Int) := by
  intro j
  induction j with
  | zero =>
    intro i m hi hm
    obtain ⟨m, rfl⟩ : ∃ q, m = q + 1 := ⟨m - 1, by omega⟩
    have hi : i = 7 := by omega
    subst hi
    show F_X12_beginOf_l2_b (F_X12_beginOf_l2 m) _ _ _ = _
    unfold F_X12_beginOf_l2_b
    have := v_pc7 u hu
    rw [P_partOf hu (by decide), d_b_t, if_neg (by omega)]
    rfl
  | succ j ih =>
    intro i m hi hm
    obtain ⟨m, rfl⟩ : ∃ q, m = q + 1 := ⟨m - 1, by omega⟩
    show F_X12_beginOf_l2_b (F_X12_beginOf_l2 m) _ _ _ = _
    unfold F_X12_beginOf_l2_b
    rw [P_partOf hu (by omega), d_b_t]
    simp only [v_bgl]
    by_cases q : p ≤ v_pc u i
    · rw [if_neg (by omega), if_pos q]
    · rw [if_pos (by omega), if_neg q, d_w_id (by omega) (by omega)]
      exact ih (i + 1) m (by omega) (by omega)
theorem P_beginOf {u p : Nat} (hu : u < 128) (hp : p ≤ v_pc u 12) : F_X12_beginOf (u : Int) (p : Int) = some ((v_bg u p : Nat) : Int) :=
  v_beginl hu hp 7 0 d_N rfl (by rw [d_N_is]; decide)
theorem v_lenl {u p W : Nat} (hu : u < 128) (hW : W ≤ 8) : ∀ j k m : Nat, k + j = W → j < m → F_X12_lengthOf_l5 m (u : Int) (p : Int) (W : Int) (v_ln u p k : Nat) (k : Nat) = some ((v_ln u p W : Nat) : Int) := by
  intro j
  induction j with
  | zero =>
    intro k m hk hm
    obtain ⟨m, rfl⟩ : ∃ q, m = q + 1 := ⟨m - 1, by omega⟩
    have hk : k = W := by omega
    subst hk
    show F_X12_lengthOf_l5_b (F_X12_lengthOf_l5 m) _ _ _ _ _ = _
    unfold F_X12_lengthOf_l5_b
    rw [if_neg (by omega)]
  | succ j ih =>
    intro k m hk hm
    obtain ⟨m, rfl⟩ : ∃ q, m = q + 1 := ⟨m - 1, by omega⟩
    show F_X12_lengthOf_l5_b (F_X12_lengthOf_l5 m) _ _ _ _ _ = _
    unfold F_X12_lengthOf_l5_b
    have hl := v_ln_le (u := u) (p := p) k
    have h1 := ih (k + 1) m (by omega) (by omega)
    simp only [v_ln] at h1
    rw [if_pos (by omega), P_partOf hu (by omega), d_b_t]
    by_cases q : v_pc u k = p
    · rw [if_pos q] at h1
      rw [if_pos (by omega), d_w_id (by omega) (by omega), d_w_id (by omega) (by omega)]
      exact h1
    · rw [if_neg q] at h1
      rw [if_neg (by omega), d_w_id (by omega) (by omega), d_w_id (by omega) (by omega)]
      exact h1
theorem P_lengthOf {u p W : Nat} (hu : u < 128) (hW : W ≤ 8) : F_X12_lengthOf (u : Int) (p : Int) (W : Int) = some ((v_ln u p W : Nat) : Int) :=
  v_lenl hu hW W 0 d_N (Nat.zero_add W) (by rw [d_N_is]; omega)

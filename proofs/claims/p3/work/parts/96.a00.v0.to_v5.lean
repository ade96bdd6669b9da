def v_b (c : Prop) [Decidable c] : Int := if c then 1 else 0
theorem v_b0 {c : Prop} [Decidable c] : (v_b c = 0) = ¬ c := by unfold v_b; split <;> simp [*]
theorem v_b1 {c : Prop} [Decidable c] : (v_b c = 1) = c := by unfold v_b; split <;> simp [*]
theorem v_bt {c : Prop} [Decidable c] (h : c) : v_b c = 1 := if_pos h
theorem v_bf {c : Prop} [Decidable c] (h : ¬ c) : v_b c = 0 := if_neg h
theorem v_bR {c : Prop} [Decidable c] : v_b c = 0 ∨ v_b c = 1 := by unfold v_b; split <;> simp
theorem v_bc {c e : Prop} [Decidable c] [Decidable e] (h : c ↔ e) : v_b c = v_b e := by
  by_cases q : c
  · rw [v_bt q, v_bt (h.mp q)]
  · rw [v_bf q, v_bf (fun z => q (h.mpr z))]
section VS
variable {s : d_S} {a b k j : Nat} {v : Int}
theorem d_si_n (h : b ≠ a) : (d_si s a k v).1 b = s.1 b := d_u_n h
theorem d_si_i : (d_si s a k v).1 a = d_u (s.1 a) k v := d_u_t
theorem d_si_2 : (d_si s a k v).2 = s.2 := rfl
theorem d_st_n {f : Nat → Int} (h : b ≠ a) : (d_st s a f).1 b = s.1 b := d_u_n h
theorem d_st_i {f : Nat → Int} : (d_st s a f).1 a = f := d_u_t
theorem d_st_2 {f : Nat → Int} : (d_st s a f).2 = s.2 := rfl
theorem d_l_t {α β : Type} {x : α} {f : α → β} : d_l x f = f x := rfl
end VS
theorem P_within {x a b : Int} : F_X11_within x a b = some (v_b (a ≤ x ∧ x ≤ b)) := by
  unfold F_X11_within
  by_cases h1 : x < a
  · rw [if_pos h1, v_bf (by omega)]
  · rw [if_neg h1]
    by_cases h2 : b < x
    · rw [if_pos h2, v_bf (by omega)]
    · rw [if_neg h2, v_bt (by omega)]
theorem P_isIn {x a b : Int} : F_X12_isIn x a b = some (v_b (a ≤ x ∧ x ≤ b)) := by
  unfold F_X12_isIn
  by_cases h1 : x < a
  · rw [if_pos h1, v_bf (by omega)]
  · rw [if_neg h1]
    by_cases h2 : b < x
    · rw [if_pos h2, v_bf (by omega)]
    · rw [if_neg h2, v_bt (by omega)]
theorem P_bit {x : Int} : F_X11_bit x = some (v_b (¬ x = 0)) := by
  unfold F_X11_bit
  by_cases h1 : x = 0
  · rw [if_pos h1, v_bf (by omega)]
  · rw [if_neg h1, v_bt h1]
theorem P_min {x y : Int} : F_J9_min_7cf53 x y = some (min x y) := by
  unfold F_J9_min_7cf53
  split <;> congr 1 <;> omega
theorem P_max {x y : Int} : F_J9_max_7cf53 x y = some (max x y) := by
  unfold F_J9_max_7cf53
  split <;> congr 1 <;> omega
def v_pc (n : Nat) : Nat → Nat
  | 0 => 0
  | k + 1 => v_pc n k + n / 2 ^ k % 2
theorem v_pc_le {n : Nat} : ∀ k, v_pc n k ≤ k := by
  intro k
  induction k with
  | zero => exact Nat.le_refl _
  | succ k ih => simp only [v_pc]; have := Nat.mod_lt (n / 2 ^ k) (show 0 < 2 by decide); omega
theorem v_pc_s {n k : Nat} : v_pc n (k + 1) = v_pc n k + n / 2 ^ k % 2 := rfl
theorem v_oi {n : Nat} : Int32.ofInt (n : Int) = Int32.ofNat n := rfl
theorem v_tn {n : Nat} (hn : n < 2147483648) : (Int32.ofNat n).toInt = n := Int32.toInt_ofNat_of_lt hn
theorem v_bn {n : Nat} (hn : n < 2147483648) : (Int32.ofNat n).toBitVec.toNat = n := by
  show (BitVec.ofNat 32 n).toNat = n
  rw [BitVec.toNat_ofNat]; exact Nat.mod_eq_of_lt (by omega)
theorem v_ofb {x : Int32} {n : Nat} (hn : n < 2147483648) (h : x.toBitVec.toNat = n) : x.toInt = n := by
  have : x = Int32.ofNat n := by
    apply Int32.toBitVec_inj.mp
    apply BitVec.eq_of_toNat_eq
    rw [h, v_bn hn]
  rw [this, v_tn hn]
theorem v_and {a b : Nat} (ha : a < 2147483648) (hb : b < 2147483648) : d_and (a : Int) (b : Int) = ((a &&& b : Nat) : Int) := by
  unfold d_and
  rw [v_oi, v_oi]
  refine v_ofb (Nat.lt_of_le_of_lt Nat.and_le_left ha) ?_
  rw [Int32.toBitVec_and, BitVec.toNat_and, v_bn ha, v_bn hb]
theorem v_or {a b : Nat} (ha : a < 2147483648) (hb : b < 2147483648) : d_or (a : Int) (b : Int) = ((a ||| b : Nat) : Int) := by
  unfold d_or
  rw [v_oi, v_oi]
  refine v_ofb (Nat.or_lt_two_pow (n := 31) ha hb) ?_
  rw [Int32.toBitVec_or, BitVec.toNat_or, v_bn ha, v_bn hb]
theorem v_sh31 : ∀ k : Nat, k < 31 → ((Int32.ofNat k &&& 31).toBitVec.smod 32).toNat = k := by decide +kernel
theorem v_shr {n k : Nat} (hn : n < 2147483648) (hk : k < 31) : d_shr (n : Int) (k : Int) = ((n / 2 ^ k : Nat) : Int) := by
  unfold d_shr
  rw [v_oi, v_oi]
  show ((Int32.ofNat n >>> (Int32.ofNat k &&& 31)).toBitVec).toInt = _
  rw [Int32.toBitVec_shiftRight, BitVec.sshiftRight', v_sh31 k hk, BitVec.toInt_sshiftRight]
  show (Int32.ofNat n).toInt >>> k = _
  rw [v_tn hn, Int.shiftRight_eq_div_pow]
  norm_cast
theorem v_shl {x k : Nat} (hk : k < 31) (hx : x * 2 ^ k < 2147483648) : d_shl (x : Int) (k : Int) = ((x * 2 ^ k : Nat) : Int) := by
  unfold d_shl
  rw [v_oi, v_oi]
  have h2 : x ≤ x * 2 ^ k := Nat.le_mul_of_pos_right _ (Nat.two_pow_pos k)
  refine v_ofb hx ?_
  rw [Int32.toBitVec_shiftLeft, BitVec.shiftLeft_eq', v_sh31 k hk, BitVec.toNat_shiftLeft, v_bn (by omega), Nat.shiftLeft_eq]
  exact Nat.mod_eq_of_lt (by omega)
theorem v_and1 {m : Nat} (hm : m < 2147483648) : d_and (m : Int) 1 = ((m % 2 : Nat) : Int) := by
  have := v_and (a := m) (b := 1) hm (by decide)
  rw [Nat.and_one_is_mod] at this
  exact this
theorem v_bit {n k : Nat} (hn : n < 2147483648) (hk : k < 31) : d_and (d_shr (n : Int) (k : Int)) 1 = ((n / 2 ^ k % 2 : Nat) : Int) := by
  rw [v_shr hn hk, v_and1 (Nat.lt_of_le_of_lt (Nat.div_le_self _ _) hn)]
theorem v_1shl {k : Nat} (hk : k < 31) : d_shl 1 (k : Int) = ((2 ^ k : Nat) : Int) := by
  have hp : 2 ^ k < 2147483648 := Nat.pow_lt_pow_right (show 1 < 2 by decide) hk
  have := v_shl (x := 1) hk (by omega)
  rw [Nat.one_mul] at this
  exact this
theorem v_low {u c : Nat} (hu : u < 2147483648) (hc : c < 31) : d_and (u : Int) (d_shl 1 (c : Int) - 1) = ((u % 2 ^ c : Nat) : Int) := by
  have hp : 2 ^ c < 2147483648 := Nat.pow_lt_pow_right (show 1 < 2 by decide) hc
  have h1 := Nat.two_pow_pos c
  rw [v_1shl hc, show ((2 ^ c : Nat) : Int) - 1 = ((2 ^ c - 1 : Nat) : Int) by omega, v_and hu (by omega), Nat.and_two_pow_sub_one_eq_mod]
theorem v_or1 {k x : Nat} (hk : k < 31) (hx : x < 2 ^ k) : d_or (x : Int) (d_shl 1 (k : Int)) = ((x + 2 ^ k : Nat) : Int) := by
  have hp : 2 ^ k < 2147483648 := Nat.pow_lt_pow_right (show 1 < 2 by decide) hk
  have h2 := Nat.two_pow_add_eq_or_of_lt hx 1
  rw [Nat.mul_one] at h2
  rw [v_1shl hk, v_or (by omega) hp, Nat.or_comm, ← h2, Nat.add_comm]
theorem v_pcm : ∀ u, u < 128 → ∀ c, c < 9 → v_pc (u % 2 ^ c) 12 = v_pc u c := by decide +kernel
theorem v_div {a b : Nat} (ha : a < 2147483648) (hb : b < 2147483648) : d_div (a : Int) (b : Int) = ((a / b : Nat) : Int) := by
  unfold d_div
  have h1 : (Int32.ofInt (a : Int)).toInt = a := d_ti ⟨by omega, by omega⟩
  have h2 : (Int32.ofInt (b : Int)).toInt = b := d_ti ⟨by omega, by omega⟩
  rw [Int32.toInt_div, h1, h2, ← Int.ofNat_tdiv]
  have := Nat.div_le_self a b
  generalize a / b = q at *
  exact Int.bmod_eq_of_le (by omega) (by omega)
theorem v_rem {a b : Nat} (ha : a < 2147483648) (hb : b < 2147483648) : d_rem (a : Int) (b : Int) = ((a % b : Nat) : Int) := by
  have hd := v_div ha hb
  unfold d_div at hd
  unfold d_rem
  have h0 : Int32.ofInt (a : Int) / Int32.ofInt (b : Int) = Int32.ofInt ((a / b : Nat) : Int) := by rw [← hd, Int32.ofInt_toInt]
  rw [h0, ← Int32.ofInt_mul, ← Int32.ofInt_sub]
  have h1 := Nat.div_add_mod a b
  have h2 : ((a : Int) - ((a / b : Nat) : Int) * (b : Int)) = ((a % b : Nat) : Int) := by
    have : (a : Int) = (b : Int) * ((a / b : Nat) : Int) + ((a % b : Nat) : Int) := by exact_mod_cast h1.symm
    rw [Int.mul_comm ((a / b : Nat) : Int)]; omega
  rw [h2]
  have := Nat.mod_le a b
  exact d_ti ⟨by omega, by omega⟩
theorem v_or0 {x : Int} (h : d_R x) : d_or x 0 = x := by
  unfold d_or
  rw [show Int32.ofInt 0 = 0 from rfl, Int32.or_zero, d_ti h]
theorem v_bitsl {n : Nat} (hn : n < 4096) : ∀ j k m : Nat, k + j = 12 → j < m → F_X12_bits_l4 m (n : Int) (v_pc n k : Nat) (k : Nat) = some ((v_pc n 12 : Nat) : Int) := by
  intro j
  induction j with
  | zero =>
    intro k m hk hm
    obtain ⟨m, rfl⟩ : ∃ q, m = q + 1 := ⟨m - 1, by omega⟩
    have hk : k = 12 := by omega
    subst hk
    show F_X12_bits_l4_b (F_X12_bits_l4 m) _ _ _ = _
    unfold F_X12_bits_l4_b
    rw [if_neg (by omega)]
  | succ j ih =>
    intro k m hk hm
    obtain ⟨m, rfl⟩ : ∃ q, m = q + 1 := ⟨m - 1, by omega⟩
    show F_X12_bits_l4_b (F_X12_bits_l4 m) _ _ _ = _
    unfold F_X12_bits_l4_b
    have hb := v_pc_le (n := n) k
    have hm2 := Nat.mod_lt (n / 2 ^ k) (show 0 < 2 by decide)
    rw [if_pos (by omega), v_bit (show n < 2147483648 by omega) (show k < 31 by omega), d_l_t, d_w_id (by omega) (by omega), d_w_id (by omega) (by omega)]
    exact ih (k + 1) m (by omega) (by omega)
theorem P_bits {n : Nat} (hn : n < 4096) : F_X12_bits (n : Int) = some ((v_pc n 12 : Nat) : Int) :=
  v_bitsl hn 12 0 d_N rfl (by rw [d_N_is]; decide)
theorem P_partOf {u c : Nat} (hu : u < 128) (hc : c < 9) : F_X12_partOf (u : Int) (c : Int) = some ((v_pc u c : Nat) : Int) := by
  unfold F_X12_partOf
  rw [v_low (by omega) (by omega), P_bits (by have := Nat.mod_le u (2 ^ c); omega), d_b_t, v_pcm u hu c hc]
def v_bgl (u p : Nat) : Nat → Nat → Nat
  | 0, i => i
  | j + 1, i => if p ≤ v_pc u i then i else v_bgl u p j (i + 1)
def v_bg (u p : Nat) : Nat := v_bgl u p 7 0
def v_ln (u p : Nat) : Nat → Nat
  | 0 => 0
  | k + 1 => v_ln u p k + (if v_pc u k = p then 1 else 0)
theorem v_bgl_le {u p : Nat} : ∀ j i, v_bgl u p j i ≤ i + j := by
  intro j
  induction j with
  | zero => intro i; exact Nat.le_refl _
  | succ j ih =>
    intro i
    simp only [v_bgl]
    split
    · omega
    · have := ih (i + 1); omega
theorem v_bg_le {u p : Nat} : v_bg u p ≤ 7 := v_bgl_le 7 0
theorem v_ln_le {u p : Nat} : ∀ k, v_ln u p k ≤ k := by
  intro k
  induction k with
  | zero => exact Nat.le_refl _
  | succ k ih =>
    simp only [v_ln]
    split <;> omega
theorem v_pc7 : ∀ u, u < 128 → v_pc u 7 = v_pc u 12 := by decide +kernel
theorem v_beginl {u p : Nat} (hu : u < 128) (hp : p ≤ v_pc u 12) : ∀ j i m : Nat, i + j = 7 → j < m → F_X12_beginOf_l2 m (u : Int) (p : Int) (i : Int) = some ((v_bgl u p j i : Nat) : Int) := by
  intro j
  induction j with
  | zero =>
    intro i m hi hm
    obtain ⟨m, rfl⟩ : ∃ q, m = q + 1 := ⟨m - 1, by omega⟩
    have hi : i = 7 := by omega
    subst hi
    show F_X12_beginOf_l2_b (F_X12_beginOf_l2 m) _ _ _ = _
    unfold F_X12_beginOf_l2_b
    have := v_pc7 u hu
    rw [P_partOf hu (by decide), d_b_t, if_neg (by omega)]
    rfl
  | succ j ih =>
    intro i m hi hm
    obtain ⟨m, rfl⟩ : ∃ q, m = q + 1 := ⟨m - 1, by omega⟩
    show F_X12_beginOf_l2_b (F_X12_beginOf_l2 m) _ _ _ = _
    unfold F_X12_beginOf_l2_b
    rw [P_partOf hu (by omega), d_b_t]
    simp only [v_bgl]
    by_cases q : p ≤ v_pc u i
    · rw [if_neg (by omega), if_pos q]
    · rw [if_pos (by omega), if_neg q, d_w_id (by omega) (by omega)]
      exact ih (i + 1) m (by omega) (by omega)
theorem P_beginOf {u p : Nat} (hu : u < 128) (hp : p ≤ v_pc u 12) : F_X12_beginOf (u : Int) (p : Int) = some ((v_bg u p : Nat) : Int) :=
  v_beginl hu hp 7 0 d_N rfl (by rw [d_N_is]; decide)
theorem v_lenl {u p W : Nat} (hu : u < 128) (hW : W ≤ 8) : ∀ j k m : Nat, k + j = W → j < m → F_X12_lengthOf_l5 m (u : Int) (p : Int) (W : Int) (v_ln u p k : Nat) (k : Nat) = some ((v_ln u p W : Nat) : Int) := by
  intro j
  induction j with
  | zero =>
    intro k m hk hm
    obtain ⟨m, rfl⟩ : ∃ q, m = q + 1 := ⟨m - 1, by omega⟩
    have hk : k = W := by omega
    subst hk
    show F_X12_lengthOf_l5_b (F_X12_lengthOf_l5 m) _ _ _ _ _ = _
    unfold F_X12_lengthOf_l5_b
    rw [if_neg (by omega)]
  | succ j ih =>
    intro k m hk hm
    obtain ⟨m, rfl⟩ : ∃ q, m = q + 1 := ⟨m - 1, by omega⟩
    show F_X12_lengthOf_l5_b (F_X12_lengthOf_l5 m) _ _ _ _ _ = _
    unfold F_X12_lengthOf_l5_b
    have hl := v_ln_le (u := u) (p := p) k
    have h1 := ih (k + 1) m (by omega) (by omega)
    simp only [v_ln] at h1
    rw [if_pos (by omega), P_partOf hu (by omega), d_b_t]
    by_cases q : v_pc u k = p
    · rw [if_pos q] at h1
      rw [if_pos (by omega), d_w_id (by omega) (by omega), d_w_id (by omega) (by omega)]
      exact h1
    · rw [if_neg q] at h1
      rw [if_neg (by omega), d_w_id (by omega) (by omega), d_w_id (by omega) (by omega)]
      exact h1
theorem P_lengthOf {u p W : Nat} (hu : u < 128) (hW : W ≤ 8) : F_X12_lengthOf (u : Int) (p : Int) (W : Int) = some ((v_ln u p W : Nat) : Int) :=
  v_lenl hu hW W 0 d_N (Nat.zero_add W) (by rw [d_N_is]; omega)
def v_ac (u : Nat) : Nat := v_pc u 12 + 1
def v_bl (u v : Nat) : Nat := v_ac u * v_ac v
def v_lf (u b : Nat) : Nat := v_bg u (b % v_ac u)
def v_wd (u W b : Nat) : Nat := v_ln u (b % v_ac u) W
def v_up (u v b : Nat) : Nat := v_bg v (b / v_ac u)
def v_hg (u v H b : Nat) : Nat := v_ln v (b / v_ac u) H
def v_n (c : Prop) [Decidable c] : Nat := if c then 1 else 0
def v_ed (u v W H b : Nat) : Nat := v_n (v_lf u b = 0) + v_n (v_up u v b = 0) + v_n (v_lf u b + v_wd u W b = W) + v_n (v_up u v b + v_hg u v H b = H)
def v_G (A : Nat → Int) (u v W H : Nat) : Prop := (A 14 = u ∧ A 15 = v ∧ A 16 = W ∧ A 17 = H) ∧ u < 128 ∧ v < 128 ∧ (1 ≤ W ∧ W ≤ 8) ∧ (1 ≤ H ∧ H ≤ 8) ∧ u < 2 ^ (W - 1) ∧ v < 2 ^ (H - 1)
theorem v_n_le {c : Prop} [Decidable c] : v_n c ≤ 1 := by unfold v_n; split <;> decide
theorem v_nt {c : Prop} [Decidable c] (h : c) : v_n c = 1 := if_pos h
theorem v_nf {c : Prop} [Decidable c] (h : ¬ c) : v_n c = 0 := if_neg h
theorem v_nc {c e : Prop} [Decidable c] [Decidable e] (h : c ↔ e) : v_n c = v_n e := by
  by_cases q : c
  · rw [v_nt q, v_nt (h.mp q)]
  · rw [v_nf q, v_nf (fun z => q (h.mpr z))]
theorem v_pc8 : ∀ W : Nat, W < 9 → ∀ u : Nat, u < 128 → u < 2 ^ (W - 1) → 1 ≤ W → v_pc u 12 < W := by decide +kernel
theorem v_ac_le {u W : Nat} (hu : u < 128) (h1 : 1 ≤ W) (h8 : W ≤ 8) (h : u < 2 ^ (W - 1)) : v_ac u ≤ W := v_pc8 W (by omega) u hu h h1
theorem v_bl_le {u v W H : Nat} (h1 : v_ac u ≤ W) (h2 : v_ac v ≤ H) (hW : W ≤ 8) (hH : H ≤ 8) : v_bl u v ≤ 64 := Nat.mul_le_mul (Nat.le_trans h1 hW) (Nat.le_trans h2 hH)
section V1
variable {s : d_S} {u v W H b : Nat} {A : Nat → Int}
theorem v_G.ac (hG : v_G A u v W H) : v_ac u ≤ 8 ∧ v_ac v ≤ 8 ∧ v_bl u v ≤ 64 ∧ 1 ≤ v_bl u v := by
  obtain ⟨-, hu, hv, ⟨w1, w2⟩, ⟨h1, h2⟩, k1, k2⟩ := hG
  have a1 := v_ac_le hu w1 w2 k1
  have a2 := v_ac_le hv h1 h2 k2
  exact ⟨by omega, by omega, v_bl_le a1 a2 w2 h2, Nat.mul_pos (Nat.succ_pos _) (Nat.succ_pos _)⟩
theorem P_across (hG : v_G (s.1 65) u v W H) : F_X12_across s = some ((v_ac u : Nat) : Int) := by
  have ha := hG.ac
  obtain ⟨⟨e14, -⟩, hu, -⟩ := hG
  unfold F_X12_across
  have hc := v_pc_le (n := u) 12
  rw [e14, P_bits (by omega), d_b_t, d_w_id (by omega) (by omega)]
  rfl
theorem P_blocks (hG : v_G (s.1 65) u v W H) : F_X12_blocks s = some ((v_bl u v : Nat) : Int) := by
  have ha := hG.ac
  have h1 := P_across hG
  obtain ⟨⟨e14, e15, -⟩, hu, hv, -⟩ := hG
  unfold F_X12_blocks
  rw [h1, d_b_t, e15, P_bits (by omega), d_b_t]
  have hm : ((v_ac u : Nat) : Int) * (((v_pc v 12 : Nat) : Int) + 1) = ((v_bl u v : Nat) : Int) := by unfold v_bl; push_cast; rfl
  rw [hm, d_w_id (by omega) (by omega)]
theorem P_isBlock (hG : v_G (s.1 65) u v W H) {x : Int} : F_X12_isBlock s x = some (v_b (0 ≤ x ∧ x < ((v_bl u v : Nat) : Int))) := by
  have ha := hG.ac
  unfold F_X12_isBlock
  rw [P_blocks hG, d_b_t, d_w_id (by omega) (by omega), P_isIn, d_b_t]
  exact congrArg some (v_bc (by omega))
theorem v_rc (hG : v_G A u v W H) (hb : b < v_bl u v) : b % v_ac u ≤ v_pc u 12 ∧ b / v_ac u ≤ v_pc v 12 := by
  have h1 := Nat.mod_lt b (show 0 < v_ac u from Nat.succ_pos _)
  have h2 : b / v_ac u < v_ac v := Nat.div_lt_of_lt_mul hb
  unfold v_ac at h1 h2 ⊢
  omega
theorem P_leftOf (hG : v_G (s.1 65) u v W H) (hb : b < v_bl u v) : F_X12_leftOf s b = some ((v_lf u b : Nat) : Int) := by
  have ha := hG.ac
  have hr := v_rc hG hb
  have h0 : v_ac u ≠ 0 := Nat.succ_ne_zero _
  unfold F_X12_leftOf
  rw [P_across hG, d_b_t, d_g_t (by omega), v_rem (by omega) (by omega), hG.1.1, P_beginOf hG.2.1 hr.1, d_b_t]
  rfl
theorem P_upperOf (hG : v_G (s.1 65) u v W H) (hb : b < v_bl u v) : F_X12_upperOf s b = some ((v_up u v b : Nat) : Int) := by
  have ha := hG.ac
  have hr := v_rc hG hb
  have h0 : v_ac u ≠ 0 := Nat.succ_ne_zero _
  unfold F_X12_upperOf
  rw [P_across hG, d_b_t, d_g_t (by omega), v_div (by omega) (by omega), hG.1.2.1, P_beginOf hG.2.2.1 hr.2, d_b_t]
  rfl
theorem P_wideOf (hG : v_G (s.1 65) u v W H) (hb : b < v_bl u v) : F_X12_wideOf s b = some ((v_wd u W b : Nat) : Int) := by
  have ha := hG.ac
  have h0 : v_ac u ≠ 0 := Nat.succ_ne_zero _
  unfold F_X12_wideOf
  rw [P_across hG, d_b_t, d_g_t (by omega), v_rem (by omega) (by omega), hG.1.1, hG.1.2.2.1, P_lengthOf hG.2.1 hG.2.2.2.1.2, d_b_t]
  rfl
theorem P_highOf (hG : v_G (s.1 65) u v W H) (hb : b < v_bl u v) : F_X12_highOf s b = some ((v_hg u v H b : Nat) : Int) := by
  have ha := hG.ac
  have h0 : v_ac u ≠ 0 := Nat.succ_ne_zero _
  unfold F_X12_highOf
  rw [P_across hG, d_b_t, d_g_t (by omega), v_div (by omega) (by omega), hG.1.2.1, hG.1.2.2.2, P_lengthOf hG.2.2.1 hG.2.2.2.2.1.2, d_b_t]
  rfl
theorem v_ds {x y : Int} (h : x = y) : some x = some y := congrArg some h
theorem P_edgeOf (hG : v_G (s.1 65) u v W H) (hb : b < v_bl u v) : F_X12_edgeOf s b = some ((v_ed u v W H b : Nat) : Int) := by
  have k1 : v_lf u b ≤ 7 := v_bg_le
  have k2 : v_up u v b ≤ 7 := v_bg_le
  have k3 : v_wd u W b ≤ W := v_ln_le W
  have k4 : v_hg u v H b ≤ H := v_ln_le H
  have hG' := hG
  obtain ⟨-, -, -, w, h, -⟩ := hG'
  simp (disch := omega) only [F_X12_edgeOf, F_X12_edgeOf_j57_1, F_X12_edgeOf_j57_0, P_leftOf hG hb, P_upperOf hG hb, P_wideOf hG hb, P_highOf hG hb, d_b_t, hG.1.2.2.1, hG.1.2.2.2, d_w_id]
  unfold v_ed
  by_cases q1 : v_lf u b = 0 <;> by_cases q2 : v_up u v b = 0 <;> by_cases q3 : v_lf u b + v_wd u W b = W <;> by_cases q4 : v_up u v b + v_hg u v H b = H <;> first
    | rw [v_nt q1] | rw [v_nf q1]
  all_goals first
    | rw [v_nt q2] | rw [v_nf q2]
  all_goals first
    | rw [v_nt q3] | rw [v_nf q3]
  all_goals first
    | rw [v_nt q4] | rw [v_nf q4]
  all_goals
    (first | rw [if_pos (by omega)] | rw [if_neg (by omega)])
    (first | rw [if_pos (by omega)] | rw [if_neg (by omega)])
    (first | rw [if_pos (by omega)] | rw [if_neg (by omega)])
    (first | rw [if_pos (by omega)] | rw [if_neg (by omega)])
  all_goals rfl
end V1
def v_cm (a l c m : Nat) : Nat := min (a + l) (c + m) - max a c
def v_Z (A : Nat → Int) (N : Nat) (sg : Nat → Nat → Nat) : Prop := A 0 = N ∧ N ≤ 12 ∧ ∀ n, n < N → ∀ k, k < 6 → A (212 + 6 * n + k) = sg n k ∧ sg n k ≤ 9
def v_ce (sg : Nat → Nat → Nat) (u v W H n b : Nat) : Nat := v_cm (sg n 1) (sg n 3) (v_lf u b) (v_wd u W b) * v_cm (sg n 2) (sg n 4) (v_up u v b) (v_hg u v H b)
def v_sb (P : Nat → Prop) [DecidablePred P] : Nat → Nat
  | 0 => 0
  | k + 1 => if P k then v_sb P k + 2 ^ k else v_sb P k
def v_ks (P : Nat → Prop) [DecidablePred P] (g : Nat → Nat) : Nat → Nat
  | 0 => 0
  | k + 1 => if P k then v_ks P g k ||| 2 ^ g k else v_ks P g k
theorem v_sb_lt {P : Nat → Prop} [DecidablePred P] : ∀ k, v_sb P k < 2 ^ k := by
  intro k
  induction k with
  | zero => exact Nat.one_pos
  | succ k ih =>
    simp only [v_sb]
    rw [Nat.pow_succ]
    split <;> omega
theorem v_sb12 {P : Nat → Prop} [DecidablePred P] {k : Nat} (h : k ≤ 12) : v_sb P k < 4096 :=
  Nat.lt_of_lt_of_le (v_sb_lt k) (Nat.pow_le_pow_right (show 0 < 2 by decide) h)
theorem v_ks_lt {P : Nat → Prop} [DecidablePred P] {g : Nat → Nat} : ∀ k, (∀ j, j < k → g j < 10) → v_ks P g k < 1024 := by
  intro k
  induction k with
  | zero => intro _; exact Nat.lt_of_lt_of_le Nat.zero_lt_one (by decide)
  | succ k ih =>
    intro hg
    have h1 := ih (fun j hj => hg j (by omega))
    have h2 := hg k (by omega)
    simp only [v_ks]
    split
    · exact Nat.or_lt_two_pow (n := 10) h1 (Nat.pow_lt_pow_right (by decide) h2)
    · exact h1
theorem v_or2 {x g : Nat} (hx : x < 2147483648) (hg : g < 31) : d_or (x : Int) (d_shl 1 (g : Int)) = ((x ||| 2 ^ g : Nat) : Int) := by
  rw [v_1shl hg, v_or hx (Nat.pow_lt_pow_right (show 1 < 2 by decide) hg)]
section V2
variable {s : d_S} {u v W H b N n : Nat} {sg : Nat → Nat → Nat} {A : Nat → Int}
theorem P_common {a l c m : Nat} (ha : a < 100) (hl : l < 100) (hc : c < 100) (hm : m < 100) : F_X12_common (a : Int) (l : Int) (c : Int) (m : Int) = some ((v_cm a l c m : Nat) : Int) := by
  simp (disch := omega) only [F_X12_common, F_X12_common_j10, F_X12_common_j30, d_w_id]
  unfold v_cm
  split <;> split <;> split <;> congr 1 <;> omega
theorem P_sightOf (hZ : v_Z (s.1 65) N sg) (hn : n < N) {k : Nat} (hk : k < 6) : F_X12_sightOf s (n : Int) (k : Int) = some ((sg n k : Nat) : Int) := by
  obtain ⟨-, h12, h⟩ := hZ
  unfold F_X12_sightOf
  rw [d_w_id (by omega) (by omega), d_g_t (by omega), show ((212 : Int) + 6 * (n : Int) + (k : Int)).toNat = 212 + 6 * n + k by omega, (h n hn k hk).1]
theorem P_sightO {k : Int} (hZ : v_Z (s.1 65) N sg) (hn : n < N) (h0 : 0 ≤ k) (hk : k < 6) : F_X12_sightOf s (n : Int) k = some ((sg n k.toNat : Nat) : Int) := by
  have := P_sightOf hZ hn (k := k.toNat) (by omega)
  rw [show ((k.toNat : Nat) : Int) = k by omega] at this
  exact this
theorem v_Z.le (hZ : v_Z A N sg) (hn : n < N) {k : Nat} (hk : k < 6) : sg n k ≤ 9 := (hZ.2.2 n hn k hk).2
theorem P_isSight (hZ : v_Z (s.1 65) N sg) {x : Int} : F_X12_isSight s x = some (v_b (0 ≤ x ∧ x < (N : Int))) := by
  obtain ⟨h0, h12, -⟩ := hZ
  unfold F_X12_isSight
  rw [h0, d_w_id (by omega) (by omega), P_isIn, d_b_t]
  exact congrArg some (v_bc (by omega))
theorem P_areaOf (hZ : v_Z (s.1 65) N sg) (hn : n < N) : F_X12_areaOf s (n : Int) = some ((sg n 3 * sg n 4 : Nat) : Int) := by
  have h3 := hZ.le hn (k := 3) (by decide)
  have h4 := hZ.le hn (k := 4) (by decide)
  have hm : sg n 3 * sg n 4 ≤ 9 * 9 := Nat.mul_le_mul h3 h4
  unfold F_X12_areaOf
  rw [P_sightO hZ hn (by decide) (by decide), d_b_t, P_sightO hZ hn (by decide) (by decide), d_b_t]
  show some (d_w (((sg n 3 : Nat) : Int) * ((sg n 4 : Nat) : Int))) = _
  rw [← Int.natCast_mul, d_w_id (by omega) (by omega)]
theorem v_cm_le {a l c m : Nat} : v_cm a l c m ≤ l := by unfold v_cm; omega
theorem v_ce_le (hZ : v_Z A N sg) (hn : n < N) : v_ce sg u v W H n b ≤ 81 :=
  Nat.mul_le_mul (Nat.le_trans v_cm_le (hZ.le hn (k := 3) (by decide))) (Nat.le_trans v_cm_le (hZ.le hn (k := 4) (by decide)))
theorem P_cellsIn (hG : v_G (s.1 65) u v W H) (hZ : v_Z (s.1 65) N sg) (hb : b < v_bl u v) (hn : n < N) : F_X12_cellsIn s (n : Int) (b : Int) = some ((v_ce sg u v W H n b : Nat) : Int) := by
  have k1 : v_lf u b ≤ 7 := v_bg_le
  have k2 : v_up u v b ≤ 7 := v_bg_le
  have k3 : v_wd u W b ≤ W := v_ln_le W
  have k4 : v_hg u v H b ≤ H := v_ln_le H
  have s1 := hZ.le hn (k := 1) (by decide)
  have s2 := hZ.le hn (k := 2) (by decide)
  have s3 := hZ.le hn (k := 3) (by decide)
  have s4 := hZ.le hn (k := 4) (by decide)
  have hW := hG.2.2.2.1
  have hH := hG.2.2.2.2.1
  have hc := v_ce_le (u := u) (v := v) (W := W) (H := H) (b := b) hZ hn
  unfold F_X12_cellsIn
  rw [P_sightO hZ hn (by decide) (by decide), d_b_t, P_sightO hZ hn (by decide) (by decide), d_b_t, P_leftOf hG hb, d_b_t, P_wideOf hG hb, d_b_t, P_common (by show sg n 1 < 100; omega) (by show sg n 3 < 100; omega) (by omega) (by omega), d_b_t, P_sightO hZ hn (by decide) (by decide), d_b_t, P_sightO hZ hn (by decide) (by decide), d_b_t, P_upperOf hG hb, d_b_t, P_highOf hG hb, d_b_t, P_common (by show sg n 2 < 100; omega) (by show sg n 4 < 100; omega) (by omega) (by omega), d_b_t, ← Int.natCast_mul]
  show some (d_w ((v_ce sg u v W H n b : Nat) : Int)) = _
  rw [d_w_id (by omega) (by omega)]
def v_si (sg : Nat → Nat → Nat) (u v W H N b : Nat) : Nat := v_sb (fun n => 0 < v_ce sg u v W H n b) N
def v_ki (sg : Nat → Nat → Nat) (u v W H N b : Nat) : Nat := v_pc (v_ks (fun n => 0 < v_ce sg u v W H n b) (fun n => sg n 0) N) 12
theorem v_sightsl (hG : v_G (s.1 65) u v W H) (hZ : v_Z (s.1 65) N sg) (hb : b < v_bl u v) : ∀ j k m : Nat, k + j = N → j < m → F_X12_sightsIn_l4 s m (b : Int) (v_sb (fun n => 0 < v_ce sg u v W H n b) k : Nat) (k : Nat) = some ((v_si sg u v W H N b : Nat) : Int) := by
  intro j
  induction j with
  | zero =>
    intro k m hk hm
    obtain ⟨m, rfl⟩ : ∃ q, m = q + 1 := ⟨m - 1, by omega⟩
    have hk : k = N := by omega
    subst hk
    show F_X12_sightsIn_l4_b s (F_X12_sightsIn_l4 s m) _ _ _ = _
    unfold F_X12_sightsIn_l4_b
    rw [hZ.1, if_neg (by omega)]
    rfl
  | succ j ih =>
    intro k m hk hm
    obtain ⟨m, rfl⟩ : ∃ q, m = q + 1 := ⟨m - 1, by omega⟩
    have h12 := hZ.2.1
    have h1 := ih (k + 1) m (by omega) (by omega)
    have h2 := v_sb12 (P := fun n => 0 < v_ce sg u v W H n b) (k := k) (by omega)
    show F_X12_sightsIn_l4_b s (F_X12_sightsIn_l4 s m) _ _ _ = _
    unfold F_X12_sightsIn_l4_b
    rw [hZ.1, if_pos (by omega), P_cellsIn hG hZ hb (by omega), d_b_t]
    simp only [v_sb] at h1
    by_cases q : 0 < v_ce sg u v W H k b
    · rw [if_pos q] at h1
      rw [if_pos (by omega), v_or1 (by omega) (v_sb_lt k), d_w_id (by omega) (by omega)]
      exact h1
    · rw [if_neg q] at h1
      rw [if_neg (by omega), v_or0 ⟨by omega, by omega⟩, d_w_id (by omega) (by omega)]
      exact h1
theorem P_sightsIn (hG : v_G (s.1 65) u v W H) (hZ : v_Z (s.1 65) N sg) (hb : b < v_bl u v) : F_X12_sightsIn s (b : Int) = some ((v_si sg u v W H N b : Nat) : Int) :=
  v_sightsl hG hZ hb N 0 d_N (Nat.zero_add N) (by rw [d_N_is]; have := hZ.2.1; omega)
theorem v_kindsl (hG : v_G (s.1 65) u v W H) (hZ : v_Z (s.1 65) N sg) (hb : b < v_bl u v) {K : Int → Option Int} : ∀ j k m : Nat, k + j = N → j < m → F_X12_kindsIn_l4 s K m (b : Int) (v_ks (fun n => 0 < v_ce sg u v W H n b) (fun n => sg n 0) k : Nat) (k : Nat) = K ((v_ks (fun n => 0 < v_ce sg u v W H n b) (fun n => sg n 0) N : Nat) : Int) := by
  intro j
  induction j with
  | zero =>
    intro k m hk hm
    obtain ⟨m, rfl⟩ : ∃ q, m = q + 1 := ⟨m - 1, by omega⟩
    have hk : k = N := by omega
    subst hk
    show F_X12_kindsIn_l4_b s K (F_X12_kindsIn_l4 s K m) _ _ _ = _
    unfold F_X12_kindsIn_l4_b
    rw [hZ.1, if_neg (by omega)]
  | succ j ih =>
    intro k m hk hm
    obtain ⟨m, rfl⟩ : ∃ q, m = q + 1 := ⟨m - 1, by omega⟩
    have h12 := hZ.2.1
    have h1 := ih (k + 1) m (by omega) (by omega)
    have h3 := v_ks_lt (P := fun n => 0 < v_ce sg u v W H n b) (g := fun n => sg n 0) k (fun j hj => by have := hZ.le (n := j) (by omega) (k := 0) (by decide); omega)
    have h4 := hZ.le (n := k) (by omega) (k := 0) (by decide)
    show F_X12_kindsIn_l4_b s K (F_X12_kindsIn_l4 s K m) _ _ _ = _
    unfold F_X12_kindsIn_l4_b
    rw [hZ.1, if_pos (by omega), P_cellsIn hG hZ hb (by omega), d_b_t]
    simp only [v_ks] at h1
    by_cases q : 0 < v_ce sg u v W H k b
    · rw [if_pos q] at h1
      rw [if_pos (by omega), P_sightO hZ (by omega) (by decide) (by decide), d_b_t]
      show F_X12_kindsIn_l4 s K m _ (d_or _ (d_shl 1 ((sg k 0 : Nat) : Int))) _ = _
      rw [v_or2 (by omega) (by omega), d_w_id (by omega) (by omega)]
      exact h1
    · rw [if_neg q] at h1
      rw [if_neg (by omega), v_or0 ⟨by omega, by omega⟩, d_w_id (by omega) (by omega)]
      exact h1
theorem P_kindsIn (hG : v_G (s.1 65) u v W H) (hZ : v_Z (s.1 65) N sg) (hb : b < v_bl u v) : F_X12_kindsIn s (b : Int) = some ((v_ki sg u v W H N b : Nat) : Int) := by
  have h3 := v_ks_lt (P := fun n => 0 < v_ce sg u v W H n b) (g := fun n => sg n 0) N (fun j hj => by have := hZ.le hj (k := 0) (by decide); omega)
  unfold F_X12_kindsIn
  refine (v_kindsl hG hZ hb N 0 d_N (Nat.zero_add N) (by rw [d_N_is]; have := hZ.2.1; omega)).trans ?_
  rw [P_bits (by omega), d_b_t]
  rfl
end V2
def v_fr (L : List Nat) (s s' : d_S) : Prop := (∀ a, a ∉ L → s'.1 a = s.1 a) ∧ s'.2 = s.2
theorem v_fr.trans {L : List Nat} {a b c : d_S} (h1 : v_fr L a b) (h2 : v_fr L b c) : v_fr L a c := ⟨fun x hx => (h2.1 x hx).trans (h1.1 x hx), h2.2.trans h1.2⟩
theorem v_fr.rfl {L : List Nat} {a : d_S} : v_fr L a a := ⟨fun _ _ => Eq.refl _, Eq.refl _⟩
theorem v_fr.mono {L M : List Nat} {a b : d_S} (h : v_fr L a b) (hm : ∀ x, x ∈ L → x ∈ M) : v_fr M a b := ⟨fun x hx => h.1 x (fun z => hx (hm x z)), h.2⟩
theorem v_fr.si {L : List Nat} {s : d_S} {a k : Nat} {v : Int} (h : a ∈ L) : v_fr L s (d_si s a k v) := ⟨fun x hx => d_si_n (fun z => hx (z ▸ h)), Eq.refl _⟩
theorem v_fr.st {L : List Nat} {s : d_S} {a : Nat} {f : Nat → Int} (h : a ∈ L) : v_fr L s (d_st s a f) := ⟨fun x hx => d_st_n (fun z => hx (z ▸ h)), Eq.refl _⟩
def v_en (u W k : Nat) : Bool := Nat.beq k (W - 1) || Nat.beq (u / 2 ^ k % 2) 1

def v_cb (W u k : Nat) : Bool := !(decide (u < 2 ^ (W - 1)) && decide (k < W)) || ((!v_en u W k || (decide (v_bg u (v_pc u k) ≤ k) && decide (k + 1 - v_bg u (v_pc u k) = v_ln u (v_pc u k) W))) && ((!v_en u W k || !decide (k + 1 < W)) || (decide (v_pc u (k + 1) = v_pc u k + 1) && decide (v_bg u (v_pc u (k + 1)) = k + 1))) && (v_en u W k || (decide (k + 1 < W) && decide (v_pc u (k + 1) = v_pc u k))) && (!decide (k + 1 = W) || decide (v_pc u k + 1 = v_ac u)) && decide (v_pc u k < v_ac u))
theorem v_cols_ : ∀ W : Nat, W < 9 → ∀ u : Nat, u < 128 → ∀ k : Nat, k < 8 → v_cb W u k = true := by decide +kernel
theorem v_cols {W u k : Nat} (hW : W < 9) (hu : u < 128) (h : u < 2 ^ (W - 1)) (hk : k < W) : (v_en u W k = true → v_bg u (v_pc u k) ≤ k ∧ k + 1 - v_bg u (v_pc u k) = v_ln u (v_pc u k) W) ∧ (v_en u W k = true → k + 1 < W → v_pc u (k + 1) = v_pc u k + 1 ∧ v_bg u (v_pc u (k + 1)) = k + 1) ∧ (v_en u W k = false → k + 1 < W ∧ v_pc u (k + 1) = v_pc u k) ∧ (k + 1 = W → v_pc u k + 1 = v_ac u) ∧ v_pc u k < v_ac u := by
  have := v_cols_ W hW u hu k (by omega)
  unfold v_cb at this
  simp only [decide_eq_true h, decide_eq_true hk, Bool.and_self, Bool.not_true, Bool.false_or, Bool.and_eq_true, Bool.or_eq_true, Bool.not_eq_true', decide_eq_true_eq, decide_eq_false_iff_not] at this
  obtain ⟨⟨⟨⟨h1, h2⟩, h3⟩, h4⟩, h5⟩ := this
  refine ⟨fun e => ?_, fun e q => ?_, fun e => ?_, fun q => ?_, h5⟩
  · rcases h1 with z | z
    · rw [e] at z; cases z
    · exact z
  · rcases h2 with (z | z) | z
    · rw [e] at z; cases z
    · omega
    · exact z
  · rcases h3 with z | z
    · rw [e] at z; cases z
    · exact z
  · rcases h4 with z | z
    · omega
    · exact z
section V3
variable {s : d_S} {u v W H : Nat}
theorem P_lay42 {K : Int → Int → Int → Int → d_S → Option d_S} {top high left col c : Nat} (hc : s.1 37 5 = c) (h64 : c < 64) (hW : s.1 3 0 = W) (hH : s.1 3 1 = H) (ht : top < 100) (hh : high < 100) (hl : left ≤ col) (hcol : col < 100) : F_X4_layAcross_3_j42 K top high left col s = K top high (col + 1 : Nat) (col + 1 : Nat) (d_si (d_si (d_si (d_si (d_si (d_si s 38 c left) 39 c top) 40 c (col + 1 - left : Nat)) 41 c high) 42 c ((v_n (left = 0) + v_n (top = 0) + v_n (col + 1 = W) + v_n (top + high = H) : Nat) : Int)) 37 5 (c + 1 : Nat)) := by
  have e1 : d_w ((col : Int) + 1) = ((col + 1 : Nat) : Int) := by rw [d_w_id (by omega) (by omega)]; rfl
  have e2 : d_w ((top : Int) + (high : Int)) = ((top + high : Nat) : Int) := by rw [d_w_id (by omega) (by omega)]; rfl
  have e3 : d_w (((col : Int) + 1) - (left : Int)) = ((col + 1 - left : Nat) : Int) := by rw [d_w_id (by omega) (by omega)]; omega
  have e4 : d_w ((c : Int) + 1) = ((c + 1 : Nat) : Int) := by rw [d_w_id (by omega) (by omega)]; rfl
  have ec : ((c : Int)).toNat = c := Int.toNat_natCast c
  have b1 : v_b (¬ (1 : Int) = 0) = 1 := v_bt (by decide)
  have b0 : v_b (¬ (0 : Int) = 0) = 0 := v_bf (by decide)
  unfold F_X4_layAcross_3_j42
  simp (disch := decide) only [d_si_n, hc, d_l_t, P_bit, d_b_t, b1, b0]
  rw [if_pos (by omega)]
  simp only [d_g_t (show 0 ≤ (c : Int) ∧ (c : Int) < 64 by omega), ec, e3]
  unfold F_X4_layAcross_3_j140_1 F_X4_layAcross_3_j140_0 F_X4_layAcross_3_j160_1 F_X4_layAcross_3_j160_0 F_X4_layAcross_3_j179_1 F_X4_layAcross_3_j179_0
  simp (disch := decide) only [d_si_n, hc, hW, hH, d_l_t, P_bit, d_b_t, b1, b0, e1, e2, e4]
  simp only [d_g_t (show 0 ≤ (c : Int) ∧ (c : Int) < 64 by omega), ec]
  by_cases q1 : left = 0 <;> by_cases q2 : top = 0 <;> by_cases q3 : col + 1 = W <;> by_cases q4 : top + high = H
  all_goals first
    | rw [v_nt q1, if_pos (show (left : Int) = 0 by omega)] | rw [v_nf q1, if_neg (show ¬ (left : Int) = 0 by omega)]
  all_goals first
    | rw [v_nt q2, if_pos (show (top : Int) = 0 by omega)] | rw [v_nf q2, if_neg (show ¬ (top : Int) = 0 by omega)]
  all_goals first
    | rw [v_nt q3, if_pos (show ((col + 1 : Nat) : Int) = (W : Int) by omega)] | rw [v_nf q3, if_neg (show ¬ ((col + 1 : Nat) : Int) = (W : Int) by omega)]
  all_goals first
    | rw [v_nt q4, if_pos (show ((top + high : Nat) : Int) = (H : Int) by omega)] | rw [v_nf q4, if_neg (show ¬ ((top + high : Nat) : Int) = (H : Int) by omega)]
  all_goals rfl
end V3
def v_P (s : d_S) (u v W H n : Nat) : Prop := ∀ j, j < n → s.1 38 j = ((v_lf u j : Nat) : Int) ∧ s.1 39 j = ((v_up u v j : Nat) : Int) ∧ s.1 40 j = ((v_wd u W j : Nat) : Int) ∧ s.1 41 j = ((v_hg u v H j : Nat) : Int) ∧ s.1 42 j = ((v_ed u v W H j : Nat) : Int)
def v_C (s : d_S) (u v W H : Nat) : Prop := (s.1 6 0 = u ∧ s.1 6 1 = v ∧ s.1 3 0 = W ∧ s.1 3 1 = H) ∧ u < 128 ∧ v < 128 ∧ (1 ≤ W ∧ W ≤ 8) ∧ (1 ≤ H ∧ H ≤ 8) ∧ u < 2 ^ (W - 1) ∧ v < 2 ^ (H - 1)
def v_L6 : List Nat := [37, 38, 39, 40, 41, 42]
theorem v_beq {a b : Nat} (h : a = b) : Nat.beq a b = true := by subst h; exact Nat.beq_refl a
section V4
variable {s : d_S} {u v W H : Nat}
theorem v_idx {a R p : Nat} (hp : p < a) : (a * R + p) % a = p ∧ (a * R + p) / a = R := by
  have ha : 0 < a := by omega
  refine ⟨?_, ?_⟩
  · rw [Nat.mul_add_mod]; exact Nat.mod_eq_of_lt hp
  · rw [Nat.mul_add_div ha, Nat.div_eq_of_lt hp, Nat.add_zero]
theorem v_P_step {c R p : Nat} (hP : v_P s u v W H c) (hc : c = v_ac u * R + p) (hp : p < v_ac u) {E : Int} {k : Int} (hE : E = ((v_ed u v W H c : Nat) : Int)) : v_P (d_si (d_si (d_si (d_si (d_si (d_si s 38 c (v_bg u p : Nat)) 39 c (v_bg v R : Nat)) 40 c (v_ln u p W : Nat)) 41 c (v_ln v R H : Nat)) 42 c E) 37 5 k) u v W H (c + 1) := by
  intro j hj
  obtain ⟨i1, i2⟩ := v_idx (R := R) hp
  rw [← hc] at i1 i2
  by_cases q : j = c
  · subst q
    refine ⟨?_, ?_, ?_, ?_, ?_⟩
    · simp (disch := decide) only [d_si_n, d_si_i, d_u_t]
      unfold v_lf; rw [i1]
    · simp (disch := decide) only [d_si_n, d_si_i, d_u_t]
      unfold v_up; rw [i2]
    · simp (disch := decide) only [d_si_n, d_si_i, d_u_t]
      unfold v_wd; rw [i1]
    · simp (disch := decide) only [d_si_n, d_si_i, d_u_t]
      unfold v_hg; rw [i2]
    · simp (disch := decide) only [d_si_n, d_si_i, d_u_t]
      exact hE
  · obtain ⟨h1, h2, h3, h4, h5⟩ := hP j (by omega)
    refine ⟨?_, ?_, ?_, ?_, ?_⟩
    · simp (disch := decide) only [d_si_n, d_si_i]
      rw [d_u_n q]; exact h1
    · simp (disch := decide) only [d_si_n, d_si_i]
      rw [d_u_n q]; exact h2
    · simp (disch := decide) only [d_si_n, d_si_i]
      rw [d_u_n q]; exact h3
    · simp (disch := decide) only [d_si_n, d_si_i]
      rw [d_u_n q]; exact h4
    · simp (disch := decide) only [d_si_n, d_si_i]
      rw [d_u_n q]; exact h5
theorem v_enb {W k : Nat} (hu : u < 128) (hk : k < W) (hW : W ≤ 8) : v_en u W k = true ↔ ((k : Int) = d_w ((W : Int) - 1) ∨ d_and (d_shr (u : Int) (k : Int)) 1 = 1) := by
  rw [v_bit (by omega) (by omega), d_w_id (by omega) (by omega)]
  unfold v_en
  rw [Bool.or_eq_true]
  constructor
  · rintro (z | z)
    · left; have := Nat.eq_of_beq_eq_true z; omega
    · right; have := Nat.eq_of_beq_eq_true z; omega
  · rintro (z | z)
    · left; exact v_beq (by omega)
    · right; exact v_beq (by omega)
def v_eb (u W k : Nat) : Nat := if k < W then v_pc u k else v_ac u
theorem v_across (hu : u < 128) (hu2 : u < 2 ^ (W - 1)) (hW : 1 ≤ W ∧ W ≤ 8) (hH : H ≤ 8) {R : Nat} (hR : v_ac u * R + v_ac u ≤ 64) (h7 : v_ln v R H ≤ 8) : ∀ j k m : Nat, k + j = W → j < m → ∀ s : d_S, s.1 6 0 = u → s.1 3 0 = W → s.1 3 1 = H → s.1 37 5 = ((v_ac u * R + v_eb u W k : Nat) : Int) → v_P s u v W H (v_ac u * R + v_eb u W k) → ∃ s', F_X4_layAcross_3_l6 m (v_bg v R : Nat) (v_ln v R H : Nat) (v_bg u (v_pc u k) : Nat) (k : Nat) s = some s' ∧ v_fr v_L6 s s' ∧ s'.1 37 5 = ((v_ac u * R + v_ac u : Nat) : Int) ∧ v_P s' u v W H (v_ac u * R + v_ac u) := by
  intro j
  induction j with
  | zero =>
    intro k m hk hm s e1 e2 e3 e4 e5
    obtain ⟨m, rfl⟩ : ∃ q, m = q + 1 := ⟨m - 1, by omega⟩
    have hk : k = W := by omega
    subst hk
    have q : v_eb u k k = v_ac u := if_neg (by omega)
    rw [q] at e4 e5
    refine ⟨s, ?_, v_fr.rfl, e4, e5⟩
    show F_X4_layAcross_3_l6_b (F_X4_layAcross_3_l6 m) _ _ _ _ s = _
    unfold F_X4_layAcross_3_l6_b
    rw [e2, if_neg (by omega)]
  | succ j ih =>
    intro k m hk hm s e1 e2 e3 e4 e5
    obtain ⟨m, rfl⟩ : ∃ q, m = q + 1 := ⟨m - 1, by omega⟩
    have hkW : k < W := by omega
    obtain ⟨c1, c2, c3, c4, c5⟩ := v_cols (show W < 9 by omega) hu hu2 hkW
    have hen := v_enb hu hkW hW.2
    have q : v_eb u W k = v_pc u k := if_pos hkW
    rw [q] at e4 e5
    have hb7 : v_bg v R ≤ 7 := v_bg_le
    show ∃ s', F_X4_layAcross_3_l6_b (F_X4_layAcross_3_l6 m) _ _ _ _ s = _ ∧ _
    unfold F_X4_layAcross_3_l6_b
    rw [e2, e1, if_pos (show (k : Int) < (W : Int) by omega)]
    by_cases hE : v_en u W k = true
    · obtain ⟨d1, d2⟩ := c1 hE
      have hlay := P_lay42 (K := F_X4_layAcross_3_l6 m) (top := v_bg v R) (high := v_ln v R H) e4 (by omega) e2 e3 (by omega) (by omega) d1 (show k < 100 by omega)
      have hgo : (if (k : Int) = d_w ((W : Int) - 1) then F_X4_layAcross_3_j42 (F_X4_layAcross_3_l6 m) (v_bg v R : Nat) (v_ln v R H : Nat) (v_bg u (v_pc u k) : Nat) (k : Nat) s else if d_and (d_shr (u : Int) (k : Int)) 1 = 1 then F_X4_layAcross_3_j42 (F_X4_layAcross_3_l6 m) (v_bg v R : Nat) (v_ln v R H : Nat) (v_bg u (v_pc u k) : Nat) (k : Nat) s else F_X4_layAcross_3_l6 m (v_bg v R : Nat) (v_ln v R H : Nat) (v_bg u (v_pc u k) : Nat) (d_w ((k : Int) + 1)) s) = F_X4_layAcross_3_j42 (F_X4_layAcross_3_l6 m) (v_bg v R : Nat) (v_ln v R H : Nat) (v_bg u (v_pc u k) : Nat) (k : Nat) s := by
        by_cases z : (k : Int) = d_w ((W : Int) - 1)
        · rw [if_pos z]
        · rw [if_neg z, if_pos ((hen.mp hE).resolve_left z)]
      rw [hgo, hlay, d2]
      have hed : ((v_n (v_bg u (v_pc u k) = 0) + v_n (v_bg v R = 0) + v_n (k + 1 = W) + v_n (v_bg v R + v_ln v R H = H) : Nat) : Int) = ((v_ed u v W H (v_ac u * R + v_pc u k) : Nat) : Int) := by
        obtain ⟨i1, i2⟩ := v_idx (R := R) c5
        unfold v_ed v_lf v_wd v_up v_hg
        rw [i1, i2]
        have : v_n (k + 1 = W) = v_n (v_bg u (v_pc u k) + v_ln u (v_pc u k) W = W) := v_nc (by omega)
        rw [this]
      have hP := v_P_step (k := ((v_ac u * R + v_pc u k + 1 : Nat) : Int)) e5 rfl c5 hed
      have hfr : v_fr v_L6 s (d_si (d_si (d_si (d_si (d_si (d_si s 38 (v_ac u * R + v_pc u k) (v_bg u (v_pc u k) : Nat)) 39 (v_ac u * R + v_pc u k) (v_bg v R : Nat)) 40 (v_ac u * R + v_pc u k) (v_ln u (v_pc u k) W : Nat)) 41 (v_ac u * R + v_pc u k) (v_ln v R H : Nat)) 42 (v_ac u * R + v_pc u k) ((v_n (v_bg u (v_pc u k) = 0) + v_n (v_bg v R = 0) + v_n (k + 1 = W) + v_n (v_bg v R + v_ln v R H = H) : Nat) : Int)) 37 5 ((v_ac u * R + v_pc u k + 1 : Nat) : Int)) :=
        ((((((v_fr.si (by decide)).trans (v_fr.si (by decide))).trans (v_fr.si (by decide))).trans (v_fr.si (by decide))).trans (v_fr.si (by decide))).trans (v_fr.si (by decide)))
      obtain ⟨s2, hs2⟩ : ∃ z, z = d_si (d_si (d_si (d_si (d_si (d_si s 38 (v_ac u * R + v_pc u k) (v_bg u (v_pc u k) : Nat)) 39 (v_ac u * R + v_pc u k) (v_bg v R : Nat)) 40 (v_ac u * R + v_pc u k) (v_ln u (v_pc u k) W : Nat)) 41 (v_ac u * R + v_pc u k) (v_ln v R H : Nat)) 42 (v_ac u * R + v_pc u k) ((v_n (v_bg u (v_pc u k) = 0) + v_n (v_bg v R = 0) + v_n (k + 1 = W) + v_n (v_bg v R + v_ln v R H = H) : Nat) : Int)) 37 5 ((v_ac u * R + v_pc u k + 1 : Nat) : Int) := ⟨_, rfl⟩
      have hcnt : s2.1 37 5 = ((v_ac u * R + v_pc u k + 1 : Nat) : Int) := by rw [hs2, d_si_i, d_u_t]
      rw [← hs2] at hP hfr ⊢
      by_cases hlast : k + 1 = W
      · have h4 := c4 hlast
        obtain ⟨m, rfl⟩ : ∃ q, m = q + 1 := ⟨m - 1, by omega⟩
        refine ⟨s2, ?_, hfr, by rw [hcnt]; omega, by rw [show v_ac u * R + v_ac u = v_ac u * R + v_pc u k + 1 by omega]; exact hP⟩
        show F_X4_layAcross_3_l6_b (F_X4_layAcross_3_l6 m) _ _ _ _ s2 = _
        unfold F_X4_layAcross_3_l6_b
        rw [hfr.1 3 (by decide), e2, if_neg (by omega)]
      · obtain ⟨f1, f2⟩ := c2 hE (by omega)
        have q2 : v_eb u W (k + 1) = v_pc u k + 1 := by unfold v_eb; rw [if_pos (by omega), f1]
        obtain ⟨s', g1, g2, g3, g4⟩ := ih (k + 1) m (by omega) (by omega) s2 (by rw [hfr.1 6 (by decide)]; exact e1) (by rw [hfr.1 3 (by decide)]; exact e2) (by rw [hfr.1 3 (by decide)]; exact e3) (by rw [q2]; exact hcnt) (by rw [q2]; exact hP)
        rw [f2] at g1
        exact ⟨s', g1, hfr.trans g2, g3, g4⟩
    · have hE0 : v_en u W k = false := by cases z : v_en u W k with
        | true => exact absurd z hE
        | false => rfl
      obtain ⟨f1, f2⟩ := c3 hE0
      have z1 : ¬ (k : Int) = d_w ((W : Int) - 1) := fun z => hE (hen.mpr (Or.inl z))
      have z2 : ¬ d_and (d_shr (u : Int) (k : Int)) 1 = 1 := fun z => hE (hen.mpr (Or.inr z))
      rw [if_neg z1, if_neg z2, d_w_id (by omega) (by omega)]
      have q2 : v_eb u W (k + 1) = v_pc u k := by unfold v_eb; rw [if_pos (by omega), f2]
      have g := ih (k + 1) m (by omega) (by omega) s e1 e2 e3 (by rw [q2]; exact e4) (by rw [q2]; exact e5)
      rw [f2] at g
      exact g
theorem P_layAcross (hC : v_C s u v W H) {R : Nat} (hR : R < v_ac v) (hc : s.1 37 5 = ((v_ac u * R : Nat) : Int)) (hP : v_P s u v W H (v_ac u * R)) : ∃ s', F_X4_layAcross_3 s (v_bg v R : Nat) (v_ln v R H : Nat) = some s' ∧ v_fr v_L6 s s' ∧ s'.1 37 5 = ((v_ac u * (R + 1) : Nat) : Int) ∧ v_P s' u v W H (v_ac u * (R + 1)) := by
  obtain ⟨⟨c1, c2, c3, c4⟩, hu, hv, hW, hH, hu2, hv2⟩ := hC
  have a1 := v_ac_le hu hW.1 hW.2 hu2
  have a2 := v_ac_le hv hH.1 hH.2 hv2
  have hm : v_ac u * (R + 1) ≤ 8 * 8 := Nat.mul_le_mul (by omega) (by omega)
  rw [Nat.mul_succ] at hm ⊢
  have hl := v_ln_le (u := v) (p := R) H
  have e0 : v_eb u W 0 = 0 := if_pos (by omega)
  have h := v_across (v := v) (H := H) hu hu2 hW hH.2 (R := R) hm (by omega) W 0 d_N (Nat.zero_add W) (by rw [d_N_is]; omega) s c1 c3 c4 (by rw [e0]; exact hc) (by rw [e0]; exact hP)
  exact h
theorem v_down (hv : v < 128) (hv2 : v < 2 ^ (H - 1)) (hH : 1 ≤ H ∧ H ≤ 8) : ∀ j k m : Nat, k + j = H → j < m → ∀ s : d_S, v_C s u v W H → s.1 37 5 = ((v_ac u * v_eb v H k : Nat) : Int) → v_P s u v W H (v_ac u * v_eb v H k) → ∃ s', F_X4_lay_3_l9 m (v_bg v (v_pc v k) : Nat) (k : Nat) s = some s' ∧ v_fr v_L6 s s' ∧ s'.1 37 5 = ((v_bl u v : Nat) : Int) ∧ v_P s' u v W H (v_bl u v) := by
  intro j
  induction j with
  | zero =>
    intro k m hk hm s hC e4 e5
    obtain ⟨m, rfl⟩ : ∃ q, m = q + 1 := ⟨m - 1, by omega⟩
    have hk : k = H := by omega
    subst hk
    have q : v_eb v k k = v_ac v := if_neg (by omega)
    rw [q] at e4 e5
    refine ⟨s, ?_, v_fr.rfl, e4, e5⟩
    show F_X4_lay_3_l9_b (F_X4_lay_3_l9 m) _ _ s = _
    unfold F_X4_lay_3_l9_b
    rw [hC.1.2.2.2, if_neg (by omega)]
  | succ j ih =>
    intro k m hk hm s hC e4 e5
    obtain ⟨m, rfl⟩ : ∃ q, m = q + 1 := ⟨m - 1, by omega⟩
    have hkH : k < H := by omega
    obtain ⟨c1, c2, c3, c4, c5⟩ := v_cols (show H < 9 by omega) hv hv2 hkH
    have hen := v_enb hv hkH hH.2
    have q : v_eb v H k = v_pc v k := if_pos hkH
    rw [q] at e4 e5
    show ∃ s', F_X4_lay_3_l9_b (F_X4_lay_3_l9 m) _ _ s = _ ∧ _
    unfold F_X4_lay_3_l9_b
    rw [hC.1.2.2.2, hC.1.2.1, if_pos (show (k : Int) < (H : Int) by omega)]
    by_cases hE : v_en v H k = true
    · obtain ⟨d1, d2⟩ := c1 hE
      obtain ⟨s1, g1, g2, g3, g4⟩ := P_layAcross hC c5 e4 e5
      have hC1 : v_C s1 u v W H := ⟨⟨by rw [g2.1 6 (by decide)]; exact hC.1.1, by rw [g2.1 6 (by decide)]; exact hC.1.2.1, by rw [g2.1 3 (by decide)]; exact hC.1.2.2.1, by rw [g2.1 3 (by decide)]; exact hC.1.2.2.2⟩, hC.2⟩
      have hj : F_X4_lay_3_j42 (F_X4_lay_3_l9 m) (v_bg v (v_pc v k) : Nat) (k : Nat) s = F_X4_lay_3_l9 m ((k + 1 : Nat) : Int) ((k + 1 : Nat) : Int) s1 := by
        unfold F_X4_lay_3_j42
        rw [show d_w (((k : Int) + 1) - ((v_bg v (v_pc v k) : Nat) : Int)) = ((v_ln v (v_pc v k) H : Nat) : Int) by rw [← d2, d_w_id (by omega) (by omega)]; omega, g1, d_b_t, d_w_id (by omega) (by omega)]
        rfl
      have hgo : (if (k : Int) = d_w ((H : Int) - 1) then F_X4_lay_3_j42 (F_X4_lay_3_l9 m) (v_bg v (v_pc v k) : Nat) (k : Nat) s else if d_and (d_shr (v : Int) (k : Int)) 1 = 1 then F_X4_lay_3_j42 (F_X4_lay_3_l9 m) (v_bg v (v_pc v k) : Nat) (k : Nat) s else F_X4_lay_3_l9 m (v_bg v (v_pc v k) : Nat) (d_w ((k : Int) + 1)) s) = F_X4_lay_3_j42 (F_X4_lay_3_l9 m) (v_bg v (v_pc v k) : Nat) (k : Nat) s := by
        by_cases z : (k : Int) = d_w ((H : Int) - 1)
        · rw [if_pos z]
        · rw [if_neg z, if_pos ((hen.mp hE).resolve_left z)]
      rw [hgo, hj]
      by_cases hlast : k + 1 = H
      · have h4 := c4 hlast
        obtain ⟨m, rfl⟩ : ∃ q, m = q + 1 := ⟨m - 1, by omega⟩
        rw [h4] at g3 g4
        refine ⟨s1, ?_, g2, g3, g4⟩
        show F_X4_lay_3_l9_b (F_X4_lay_3_l9 m) _ _ s1 = _
        unfold F_X4_lay_3_l9_b
        rw [hC1.1.2.2.2, if_neg (by omega)]
      · obtain ⟨f1, f2⟩ := c2 hE (by omega)
        have q2 : v_eb v H (k + 1) = v_pc v k + 1 := by unfold v_eb; rw [if_pos (by omega), f1]
        obtain ⟨s', r1, r2, r3, r4⟩ := ih (k + 1) m (by omega) (by omega) s1 hC1 (by rw [q2]; exact g3) (by rw [q2]; exact g4)
        rw [f2] at r1
        exact ⟨s', r1, g2.trans r2, r3, r4⟩
    · have hE0 : v_en v H k = false := by cases z : v_en v H k with
        | true => exact absurd z hE
        | false => rfl
      obtain ⟨f1, f2⟩ := c3 hE0
      have z1 : ¬ (k : Int) = d_w ((H : Int) - 1) := fun z => hE (hen.mpr (Or.inl z))
      have z2 : ¬ d_and (d_shr (v : Int) (k : Int)) 1 = 1 := fun z => hE (hen.mpr (Or.inr z))
      rw [if_neg z1, if_neg z2, d_w_id (by omega) (by omega)]
      have q2 : v_eb v H (k + 1) = v_pc v k := by unfold v_eb; rw [if_pos (by omega), f2]
      have g := ih (k + 1) m (by omega) (by omega) s hC (by rw [q2]; exact e4) (by rw [q2]; exact e5)
      rw [f2] at g
      exact g
theorem P_lay (hC : v_C s u v W H) : ∃ s', F_X4_lay_3 s = some s' ∧ v_fr v_L6 s s' ∧ s'.1 37 5 = ((v_bl u v : Nat) : Int) ∧ v_P s' u v W H (v_bl u v) := by
  have e0 : v_eb v H 0 = 0 := if_pos (by have := hC.2.2.2.2.1; omega)
  have hC1 : v_C (d_si s 37 5 0) u v W H := hC
  obtain ⟨s', h1, h2, h3, h4⟩ := v_down (u := u) (W := W) hC.2.2.1 hC.2.2.2.2.2.2 hC.2.2.2.2.1 H 0 d_N (Nat.zero_add H) (by rw [d_N_is]; have := hC.2.2.2.2.1; omega) (d_si s 37 5 0) hC1 (by rw [d_si_i, d_u_t, e0]; rfl) (by rw [e0]; intro j hj; exact absurd hj (Nat.not_lt_zero j))
  refine ⟨s', ?_, (v_fr.si (by decide)).trans h2, h3, h4⟩
  unfold F_X4_lay_3
  exact h1
end V4
def v_S (s : d_S) (N : Nat) (sg : Nat → Nat → Nat) : Prop := s.1 3 3 = N ∧ N ≤ 12 ∧ ∀ n, n < N → ∀ k, k < 6 → s.1 4 (6 * n + k) = sg n k ∧ sg n k ≤ 9
def v_Q (s : d_S) (u v W H : Nat) : Prop := s.1 37 5 = ((v_bl u v : Nat) : Int) ∧ v_P s u v W H (v_bl u v) ∧ v_bl u v ≤ 64 ∧ W ≤ 8 ∧ H ≤ 8
theorem v_0shl {k : Nat} (hk : k < 31) : d_shl 0 (k : Int) = 0 := by
  have := v_shl (x := 0) hk (by omega)
  rw [Nat.zero_mul] at this
  exact this
theorem v_bit1_ : F_X11_bit 1 = some 1 := by rw [P_bit, v_bt (by decide)]
theorem v_bit0_ : F_X11_bit 0 = some 0 := by rw [P_bit, v_bf (by decide)]
theorem v_bcnt_ : ∀ a : Nat, a < 64 → ∀ b : Nat, b < 64 → F_J6_bitCount_0f7a4 ((64 * a + b : Nat) : Int) = some ((v_pc (64 * a + b) 12 : Nat) : Int) := by decide +kernel
theorem P_bitCount {n : Nat} (hn : n < 4096) : F_J6_bitCount_0f7a4 (n : Int) = some ((v_pc n 12 : Nat) : Int) := by
  have := v_bcnt_ (n / 64) (by omega) (n % 64) (by omega)
  rw [show 64 * (n / 64) + n % 64 = n by omega] at this
  exact this
section V5
variable {s : d_S} {u v W H b N n : Nat} {sg : Nat → Nat → Nat}
theorem P_sightPart (hS : v_S s N sg) (hn : n < N) {k : Int} (h0 : 0 ≤ k) (hk : k < 6) : F_X9_sightPart_3 s (n : Int) k = some ((sg n k.toNat : Nat) : Int) := by
  obtain ⟨-, h12, h⟩ := hS
  unfold F_X9_sightPart_3
  rw [d_w_id (by omega) (by omega), if_neg (by omega), if_pos (by omega), d_g_t (by omega), show ((n : Int) * 6 + k).toNat = 6 * n + k.toNat by omega, (h n hn k.toNat (by omega)).1]
theorem v_S.le (hS : v_S s N sg) (hn : n < N) {k : Nat} (hk : k < 6) : sg n k ≤ 9 := (hS.2.2 n hn k hk).2
theorem P_isSightC (hS : v_S s N sg) {x : Int} : F_X11_isSight s x = some (v_b (0 ≤ x ∧ x < (N : Int))) := by
  obtain ⟨h0, h12, -⟩ := hS
  unfold F_X11_isSight
  rw [h0, d_w_id (by omega) (by omega), P_within, d_b_t]
  exact congrArg some (v_bc (by omega))
theorem P_isBlockC (hQ : v_Q s u v W H) {x : Int} : F_X11_isBlock s x = some (v_b (0 ≤ x ∧ x < ((v_bl u v : Nat) : Int))) := by
  obtain ⟨h0, -, h64, -⟩ := hQ
  unfold F_X11_isBlock
  rw [h0, d_w_id (by omega) (by omega), P_within, d_b_t]
  exact congrArg some (v_bc (by omega))
theorem P_leftOfC (hQ : v_Q s u v W H) (hb : b < v_bl u v) : F_X4_leftOf s (b : Int) = some ((v_lf u b : Nat) : Int) := by
  have h64 := hQ.2.2.1
  unfold F_X4_leftOf F_X4_partOf_38
  rw [if_neg (by omega), if_pos (by omega), d_g_t (by omega), Int.toNat_natCast, (hQ.2.1 b hb).1, d_b_t]
theorem P_topOfC (hQ : v_Q s u v W H) (hb : b < v_bl u v) : F_X4_topOf s (b : Int) = some ((v_up u v b : Nat) : Int) := by
  have h64 := hQ.2.2.1
  unfold F_X4_topOf F_X4_partOf_39
  rw [if_neg (by omega), if_pos (by omega), d_g_t (by omega), Int.toNat_natCast, (hQ.2.1 b hb).2.1, d_b_t]
theorem P_part40 (hQ : v_Q s u v W H) (hb : b < v_bl u v) : F_X4_partOf_40 s (b : Int) = some ((v_wd u W b : Nat) : Int) := by
  have h64 := hQ.2.2.1
  unfold F_X4_partOf_40
  rw [if_neg (by omega), if_pos (by omega), d_g_t (by omega), Int.toNat_natCast, (hQ.2.1 b hb).2.2.1]
theorem P_part41 (hQ : v_Q s u v W H) (hb : b < v_bl u v) : F_X4_partOf_41 s (b : Int) = some ((v_hg u v H b : Nat) : Int) := by
  have h64 := hQ.2.2.1
  unfold F_X4_partOf_41
  rw [if_neg (by omega), if_pos (by omega), d_g_t (by omega), Int.toNat_natCast, (hQ.2.1 b hb).2.2.2.1]
theorem P_wideOfC (hQ : v_Q s u v W H) (hb : b < v_bl u v) : F_X4_wideOf s (b : Int) = some ((v_wd u W b : Nat) : Int) := by
  unfold F_X4_wideOf
  rw [P_part40 hQ hb, d_b_t]
theorem P_highOfC (hQ : v_Q s u v W H) (hb : b < v_bl u v) : F_X4_highOf s (b : Int) = some ((v_hg u v H b : Nat) : Int) := by
  unfold F_X4_highOf
  rw [P_part41 hQ hb, d_b_t]
theorem P_edgeOfC (hQ : v_Q s u v W H) (hb : b < v_bl u v) : F_X4_edgeOf s (b : Int) = some ((v_ed u v W H b : Nat) : Int) := by
  have h64 := hQ.2.2.1
  unfold F_X4_edgeOf F_X4_partOf_42
  rw [if_neg (by omega), if_pos (by omega), d_g_t (by omega), Int.toNat_natCast, (hQ.2.1 b hb).2.2.2.2, d_b_t]
def v_sz (u v W H b : Nat) : Nat := v_wd u W b * v_hg u v H b
theorem v_sz_le (hW : W ≤ 8) (hH : H ≤ 8) : v_sz u v W H b ≤ 64 := Nat.mul_le_mul (Nat.le_trans (v_ln_le W) hW) (Nat.le_trans (v_ln_le H) hH)
theorem P_sizeOfC (hQ : v_Q s u v W H) (hb : b < v_bl u v) : F_X4_sizeOf s (b : Int) = some ((v_sz u v W H b : Nat) : Int) := by
  have hz := v_sz_le (u := u) (v := v) (b := b) hQ.2.2.2.1 hQ.2.2.2.2
  unfold F_X4_sizeOf
  rw [P_part40 hQ hb, d_b_t, P_part41 hQ hb, d_b_t, ← Int.natCast_mul]
  show some (d_w ((v_sz u v W H b : Nat) : Int)) = _
  rw [d_w_id (by omega) (by omega)]
theorem P_cellsOfC (hQ : v_Q s u v W H) (hS : v_S s N sg) (hb : b < v_bl u v) (hn : n < N) : F_X4_cellsOf_3 s (n : Int) (b : Int) = some ((v_ce sg u v W H n b : Nat) : Int) := by
  obtain ⟨h0, hP, h64, hW, hH⟩ := hQ
  obtain ⟨p1, p2, p3, p4, -⟩ := hP b hb
  have k1 : v_lf u b ≤ 7 := v_bg_le
  have k2 : v_up u v b ≤ 7 := v_bg_le
  have k3 : v_wd u W b ≤ W := v_ln_le W
  have k4 : v_hg u v H b ≤ H := v_ln_le H
  have s1 := hS.le hn (k := 1) (by decide)
  have s2 := hS.le hn (k := 2) (by decide)
  have s3 := hS.le hn (k := 3) (by decide)
  have s4 := hS.le hn (k := 4) (by decide)
  have g1 := P_sightPart hS hn (k := 1) (by decide) (by decide)
  have g2 := P_sightPart hS hn (k := 2) (by decide) (by decide)
  have g3 := P_sightPart hS hn (k := 3) (by decide) (by decide)
  have g4 := P_sightPart hS hn (k := 4) (by decide) (by decide)
  have hg : 0 ≤ (b : Int) ∧ (b : Int) < 64 := by omega
  have e1 : (1 : Int).toNat = 1 := rfl
  have e2 : (2 : Int).toNat = 2 := rfl
  have e3 : (3 : Int).toNat = 3 := rfl
  have e4 : (4 : Int).toNat = 4 := rfl
  rw [e1] at g1
  rw [e2] at g2
  rw [e3] at g3
  rw [e4] at g4
  unfold F_X4_cellsOf_3
  rw [if_neg (by omega), if_pos (by omega)]
  simp only [g1, g2, g3, g4, d_b_t, d_g_t hg, Int.toNat_natCast, p1, p2, p3, p4, P_min, P_max]
  simp (disch := omega) only [d_w_id]
  unfold v_ce v_cm
  by_cases q1 : 0 < min ((sg n 1 : Int) + (sg n 3 : Int)) ((v_lf u b : Int) + (v_wd u W b : Int)) - max (sg n 1 : Int) (v_lf u b : Int)
  · rw [if_pos q1]
    by_cases q2 : 0 < min ((sg n 2 : Int) + (sg n 4 : Int)) ((v_up u v b : Int) + (v_hg u v H b : Int)) - max (sg n 2 : Int) (v_up u v b : Int)
    · rw [if_pos q2]
      have z1 : min ((sg n 1 : Int) + (sg n 3 : Int)) ((v_lf u b : Int) + (v_wd u W b : Int)) - max (sg n 1 : Int) (v_lf u b : Int) = ((min (sg n 1 + sg n 3) (v_lf u b + v_wd u W b) - max (sg n 1) (v_lf u b) : Nat) : Int) := by omega
      have z2 : min ((sg n 2 : Int) + (sg n 4 : Int)) ((v_up u v b : Int) + (v_hg u v H b : Int)) - max (sg n 2 : Int) (v_up u v b : Int) = ((min (sg n 2 + sg n 4) (v_up u v b + v_hg u v H b) - max (sg n 2) (v_up u v b) : Nat) : Int) := by omega
      rw [z1, z2, ← Int.natCast_mul]
      have hle : (min (sg n 1 + sg n 3) (v_lf u b + v_wd u W b) - max (sg n 1) (v_lf u b)) * (min (sg n 2 + sg n 4) (v_up u v b + v_hg u v H b) - max (sg n 2) (v_up u v b)) ≤ 9 * 9 := Nat.mul_le_mul (by omega) (by omega)
      rw [d_w_id (by omega) (by omega)]
    · rw [if_neg q2]
      have z2 : min (sg n 2 + sg n 4) (v_up u v b + v_hg u v H b) - max (sg n 2) (v_up u v b) = 0 := by omega
      rw [z2, Nat.mul_zero]; rfl
  · rw [if_neg q1]
    have z1 : min (sg n 1 + sg n 3) (v_lf u b + v_wd u W b) - max (sg n 1) (v_lf u b) = 0 := by omega
    rw [z1, Nat.zero_mul]; rfl
theorem v_ceC_le (hS : v_S s N sg) (hn : n < N) : v_ce sg u v W H n b ≤ 81 :=
  Nat.mul_le_mul (Nat.le_trans v_cm_le (hS.le hn (k := 3) (by decide))) (Nat.le_trans v_cm_le (hS.le hn (k := 4) (by decide)))
theorem v_sightsC (hQ : v_Q s u v W H) (hS : v_S s N sg) (hb : b < v_bl u v) : ∀ j k m : Nat, k + j = N → j < m → F_X4_sightsIn_3_l5 s m (b : Int) (v_sb (fun n => 0 < v_ce sg u v W H n b) k : Nat) (k : Nat) = some ((v_si sg u v W H N b : Nat) : Int) := by
  intro j
  induction j with
  | zero =>
    intro k m hk hm
    obtain ⟨m, rfl⟩ : ∃ q, m = q + 1 := ⟨m - 1, by omega⟩
    have hk : k = N := by omega
    subst hk
    show F_X4_sightsIn_3_l5_b s (F_X4_sightsIn_3_l5 s m) _ _ _ = _
    unfold F_X4_sightsIn_3_l5_b
    rw [hS.1, if_neg (by omega)]
    rfl
  | succ j ih =>
    intro k m hk hm
    obtain ⟨m, rfl⟩ : ∃ q, m = q + 1 := ⟨m - 1, by omega⟩
    have h12 := hS.2.1
    have h1 := ih (k + 1) m (by omega) (by omega)
    have h2 := v_sb12 (P := fun n => 0 < v_ce sg u v W H n b) (k := k) (by omega)
    show F_X4_sightsIn_3_l5_b s (F_X4_sightsIn_3_l5 s m) _ _ _ = _
    unfold F_X4_sightsIn_3_l5_b
    rw [hS.1, if_pos (by omega), P_cellsOfC hQ hS hb (by omega), d_b_t, v_bit1_, v_bit0_, d_b_t, d_b_t]
    simp only [v_sb] at h1
    by_cases q : 0 < v_ce sg u v W H k b
    · rw [if_pos q] at h1
      rw [if_pos (by omega), v_or1 (by omega) (v_sb_lt k), d_w_id (by omega) (by omega)]
      exact h1
    · rw [if_neg q] at h1
      rw [if_neg (by omega), v_0shl (by omega), v_or0 ⟨by omega, by omega⟩, d_w_id (by omega) (by omega)]
      exact h1
theorem P_sightsInC (hQ : v_Q s u v W H) (hS : v_S s N sg) (hb : b < v_bl u v) : F_X4_sightsIn_3 s (b : Int) = some ((v_si sg u v W H N b : Nat) : Int) :=
  v_sightsC hQ hS hb N 0 d_N (Nat.zero_add N) (by rw [d_N_is]; have := hS.2.1; omega)
theorem v_kindsC (hQ : v_Q s u v W H) (hS : v_S s N sg) (hb : b < v_bl u v) : ∀ j k m : Nat, k + j = N → j < m → F_X4_kindsIn_3_l5 s m (b : Int) (v_ks (fun n => 0 < v_ce sg u v W H n b) (fun n => sg n 0) k : Nat) (k : Nat) = some ((v_ks (fun n => 0 < v_ce sg u v W H n b) (fun n => sg n 0) N : Nat) : Int) := by
  intro j
  induction j with
  | zero =>
    intro k m hk hm
    obtain ⟨m, rfl⟩ : ∃ q, m = q + 1 := ⟨m - 1, by omega⟩
    have hk : k = N := by omega
    subst hk
    show F_X4_kindsIn_3_l5_b s (F_X4_kindsIn_3_l5 s m) _ _ _ = _
    unfold F_X4_kindsIn_3_l5_b
    rw [hS.1, if_neg (by omega)]
  | succ j ih =>
    intro k m hk hm
    obtain ⟨m, rfl⟩ : ∃ q, m = q + 1 := ⟨m - 1, by omega⟩
    have h12 := hS.2.1
    have h1 := ih (k + 1) m (by omega) (by omega)
    have h3 := v_ks_lt (P := fun n => 0 < v_ce sg u v W H n b) (g := fun n => sg n 0) k (fun j hj => by have := hS.le (n := j) (by omega) (k := 0) (by decide); omega)
    have h4 := hS.le (n := k) (by omega) (k := 0) (by decide)
    show F_X4_kindsIn_3_l5_b s (F_X4_kindsIn_3_l5 s m) _ _ _ = _
    unfold F_X4_kindsIn_3_l5_b
    rw [hS.1, if_pos (by omega), P_cellsOfC hQ hS hb (by omega), d_b_t, v_bit1_, v_bit0_, d_b_t, d_b_t, P_sightPart hS (by omega) (by decide) (by decide), d_b_t, d_b_t]
    simp only [v_ks] at h1
    by_cases q : 0 < v_ce sg u v W H k b
    · rw [if_pos q] at h1
      rw [if_pos (by omega)]
      show F_X4_kindsIn_3_l5 s m _ (d_or _ (d_shl 1 ((sg k 0 : Nat) : Int))) _ = _
      rw [v_or2 (by omega) (by omega), d_w_id (by omega) (by omega)]
      exact h1
    · rw [if_neg q] at h1
      rw [if_neg (by omega)]
      show F_X4_kindsIn_3_l5 s m _ (d_or _ (d_shl 0 ((sg k 0 : Nat) : Int))) _ = _
      rw [v_0shl (by omega), v_or0 ⟨by omega, by omega⟩, d_w_id (by omega) (by omega)]
      exact h1
theorem P_kindsInC (hQ : v_Q s u v W H) (hS : v_S s N sg) (hb : b < v_bl u v) : F_X4_kindsIn_3 s (b : Int) = some ((v_ks (fun n => 0 < v_ce sg u v W H n b) (fun n => sg n 0) N : Nat) : Int) :=
  v_kindsC hQ hS hb N 0 d_N (Nat.zero_add N) (by rw [d_N_is]; have := hS.2.1; omega)
end V5

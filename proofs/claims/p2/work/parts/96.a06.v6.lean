def v_M (s : d_S) (st me so : Nat → Nat) : Prop := ∀ b, b < 64 → s.1 7 b = ((st b + 16 * me b + 2048 * so b : Nat) : Int) ∧ st b ≤ 9 ∧ me b ≤ 100 ∧ so b ≤ 1
theorem v_pack {a b c : Nat} (ha : a < 16) (hb : b < 128) (hc : c < 2) : (a + 16 * b + 2048 * c) % 16 = a ∧ (a + 16 * b + 2048 * c) / 16 % 128 = b ∧ (a + 16 * b + 2048 * c) / 2048 = c := by omega
theorem v_sh4 {m : Nat} (hm : m < 2147483648) : d_shr (m : Int) 4 = ((m / 16 : Nat) : Int) := v_shr (k := 4) hm (by decide)
theorem v_sh11 {m : Nat} (hm : m < 2147483648) : d_shr (m : Int) 11 = ((m / 2048 : Nat) : Int) := v_shr (k := 11) hm (by decide)
theorem v_and15 {m : Nat} (hm : m < 2147483648) : d_and (m : Int) 15 = ((m % 16 : Nat) : Int) := by
  have := v_and (a := m) (b := 15) hm (by decide)
  rw [show (15 : Nat) = 2 ^ 4 - 1 from rfl, Nat.and_two_pow_sub_one_eq_mod] at this
  exact this
theorem v_and127 {m : Nat} (hm : m < 2147483648) : d_and (m : Int) 127 = ((m % 128 : Nat) : Int) := by
  have := v_and (a := m) (b := 127) hm (by decide)
  rw [show (127 : Nat) = 2 ^ 7 - 1 from rfl, Nat.and_two_pow_sub_one_eq_mod] at this
  exact this
section V6
variable {s : d_S} {st me so : Nat → Nat} {b : Nat}
theorem P_markOf (hM : v_M s st me so) (hb : b < 64) : F_X10_markOf_6 s (b : Int) = some ((st b + 16 * me b + 2048 * so b : Nat) : Int) := by
  unfold F_X10_markOf_6
  rw [if_neg (by omega), if_pos (by omega), d_g_t (by omega), Int.toNat_natCast, (hM b hb).1]
theorem P_strawOn (hM : v_M s st me so) (hb : b < 64) : F_X10_strawOn_6 s (b : Int) = some ((st b : Nat) : Int) := by
  obtain ⟨-, h1, h2, h3⟩ := hM b hb
  have hp := v_pack (a := st b) (b := me b) (c := so b) (by omega) (by omega) (by omega)
  unfold F_X10_strawOn_6
  rw [P_markOf hM hb, d_b_t, v_and15 (by omega), hp.1]
theorem P_meltedOf (hM : v_M s st me so) (hb : b < 64) : F_X10_meltedOf_6 s (b : Int) = some ((me b : Nat) : Int) := by
  obtain ⟨-, h1, h2, h3⟩ := hM b hb
  have hp := v_pack (a := st b) (b := me b) (c := so b) (by omega) (by omega) (by omega)
  unfold F_X10_meltedOf_6
  rw [P_markOf hM hb, d_b_t, v_sh4 (by omega), v_and127 (by omega), hp.2.1]
theorem P_isSoldC (hM : v_M s st me so) (hb : b < 64) : F_X10_isSold_6 s (b : Int) = some ((so b : Nat) : Int) := by
  obtain ⟨-, h1, h2, h3⟩ := hM b hb
  have hp := v_pack (a := st b) (b := me b) (c := so b) (by omega) (by omega) (by omega)
  unfold F_X10_isSold_6
  rw [P_markOf hM hb, d_b_t, v_sh11 (by omega), hp.2.2]
  by_cases q : so b = 1
  · rw [if_pos (by omega), q]; rfl
  · rw [if_neg (by omega), show so b = 0 by omega]; rfl
theorem P_put {x y z : Nat} (hb : b < 64) (hx : x ≤ 9) (hy : y ≤ 100) (hz : z ≤ 1) : F_X10_put_6 s (b : Int) (x : Int) (y : Int) (z : Int) = some (d_si s 7 b ((x + 16 * y + 2048 * z : Nat) : Int)) := by
  unfold F_X10_put_6
  rw [if_neg (by omega), if_pos (by omega), P_bit, d_b_t, d_g_t (by omega), d_l_t, Int.toNat_natCast]
  have e1 : v_b (¬ (z : Int) = 0) = (z : Int) := by
    by_cases q : z = 0
    · rw [v_bf (by omega), q]; rfl
    · rw [v_bt (by omega), show z = 1 by omega]; rfl
  have e2 : d_shl (y : Int) 4 = ((16 * y : Nat) : Int) := by
    have := v_shl (x := y) (k := 4) (by decide) (by omega)
    rw [Nat.mul_comm] at this
    exact this
  have e3 : d_shl (z : Int) 11 = ((2048 * z : Nat) : Int) := by
    have := v_shl (x := z) (k := 11) (by decide) (by omega)
    rw [Nat.mul_comm] at this
    exact this
  have o1 : x ||| 16 * y = x + 16 * y := by
    have := Nat.two_pow_add_eq_or_of_lt (show x < 2 ^ 4 by omega) y
    rw [show 2 ^ 4 = 16 from rfl] at this
    rw [Nat.or_comm]; omega
  have o2 : (x + 16 * y) ||| 2048 * z = x + 16 * y + 2048 * z := by
    have := Nat.two_pow_add_eq_or_of_lt (show x + 16 * y < 2 ^ 11 by omega) z
    rw [show 2 ^ 11 = 2048 from rfl] at this
    rw [Nat.or_comm]; omega
  rw [e1, e2, e3, v_or (by omega) (by omega), o1, v_or (by omega) (by omega), o2]
def v_up1 (f : Nat → Nat) (b x : Nat) : Nat → Nat := fun j => if j = b then x else f j
theorem v_M.put (hM : v_M s st me so) {x y z : Nat} (hx : x ≤ 9) (hy : y ≤ 100) (hz : z ≤ 1) : v_M (d_si s 7 b ((x + 16 * y + 2048 * z : Nat) : Int)) (v_up1 st b x) (v_up1 me b y) (v_up1 so b z) := by
  intro j hj
  rw [d_si_i]
  unfold v_up1
  by_cases q : j = b
  · subst q
    rw [d_u_t, if_pos rfl, if_pos rfl, if_pos rfl]
    exact ⟨rfl, hx, hy, hz⟩
  · rw [d_u_n q, if_neg q, if_neg q, if_neg q]
    exact hM j hj
theorem v_M.fr {s' : d_S} (hM : v_M s st me so) (h : s'.1 7 = s.1 7) : v_M s' st me so := by
  intro j hj
  rw [h]; exact hM j hj
end V6
def v_B (A : Nat → Int) (st me so : Nat → Nat) : Prop := ∀ b, b < 64 → (A (20 + 3 * b) = ((st b : Nat) : Int) ∧ A (21 + 3 * b) = ((me b : Nat) : Int) ∧ A (22 + 3 * b) = ((so b : Nat) : Int)) ∧ st b ≤ 9 ∧ me b ≤ 100 ∧ so b ≤ 1
section V6B
variable {s : d_S} {st me so : Nat → Nat} {b : Nat}
theorem P_get0 (hB : v_B (s.1 65) st me so) (hb : b < 64) : F_X12_get s (b : Int) 0 = some ((st b : Nat) : Int) := by
  unfold F_X12_get
  rw [d_w_id (by omega) (by omega), d_g_t (by omega), show ((20 : Int) + 3 * (b : Int) + 0).toNat = 20 + 3 * b by omega, (hB b hb).1.1]
theorem P_get1 (hB : v_B (s.1 65) st me so) (hb : b < 64) : F_X12_get s (b : Int) 1 = some ((me b : Nat) : Int) := by
  unfold F_X12_get
  rw [d_w_id (by omega) (by omega), d_g_t (by omega), show ((20 : Int) + 3 * (b : Int) + 1).toNat = 21 + 3 * b by omega, (hB b hb).1.2.1]
theorem P_get2 (hB : v_B (s.1 65) st me so) (hb : b < 64) : F_X12_get s (b : Int) 2 = some ((so b : Nat) : Int) := by
  unfold F_X12_get
  rw [d_w_id (by omega) (by omega), d_g_t (by omega), show ((20 : Int) + 3 * (b : Int) + 2).toNat = 22 + 3 * b by omega, (hB b hb).1.2.2]
theorem P_isSold (hB : v_B (s.1 65) st me so) (hb : b < 64) : F_X12_isSold s (b : Int) = some ((so b : Nat) : Int) := by
  have h3 := (hB b hb).2.2.2
  unfold F_X12_isSold
  rw [P_get2 hB hb, d_b_t]
  by_cases q : so b = 1
  · rw [if_pos (by omega), q]; rfl
  · rw [if_neg (by omega), show so b = 0 by omega]; rfl
theorem P_isWater (hB : v_B (s.1 65) st me so) (hb : b < 64) : F_X12_isWater s (b : Int) = some (v_b (me b = 100)) := by
  unfold F_X12_isWater
  rw [P_get1 hB hb, d_b_t]
  by_cases q : me b = 100
  · rw [if_pos (by omega), v_bt q]
  · rw [if_neg (by omega), v_bf q]
theorem P_set0 {x : Int} (hb : b < 64) : F_X12_set s (b : Int) 0 x = some (d_si s 65 (20 + 3 * b) x) := by
  unfold F_X12_set
  rw [d_w_id (by omega) (by omega), d_g_t (by omega), show ((20 : Int) + 3 * (b : Int) + 0).toNat = 20 + 3 * b by omega, d_l_t]
theorem P_set1 {x : Int} (hb : b < 64) : F_X12_set s (b : Int) 1 x = some (d_si s 65 (21 + 3 * b) x) := by
  unfold F_X12_set
  rw [d_w_id (by omega) (by omega), d_g_t (by omega), show ((20 : Int) + 3 * (b : Int) + 1).toNat = 21 + 3 * b by omega, d_l_t]
theorem P_set2 {x : Int} (hb : b < 64) : F_X12_set s (b : Int) 2 x = some (d_si s 65 (22 + 3 * b) x) := by
  unfold F_X12_set
  rw [d_w_id (by omega) (by omega), d_g_t (by omega), show ((20 : Int) + 3 * (b : Int) + 2).toNat = 22 + 3 * b by omega, d_l_t]
theorem v_B.set0 (hB : v_B (s.1 65) st me so) {x : Nat} (hx : x ≤ 9) : v_B ((d_si s 65 (20 + 3 * b) (x : Int)).1 65) (v_up1 st b x) me so := by
  intro j hj
  rw [d_si_i]
  obtain ⟨⟨h1, h2, h3⟩, h4⟩ := hB j hj
  unfold v_up1
  rw [d_u_n (show 21 + 3 * j ≠ 20 + 3 * b by omega), d_u_n (show 22 + 3 * j ≠ 20 + 3 * b by omega)]
  by_cases q : j = b
  · subst q
    rw [d_u_t, if_pos rfl]
    exact ⟨⟨rfl, h2, h3⟩, hx, h4.2⟩
  · rw [d_u_n (by omega), if_neg q]
    exact ⟨⟨h1, h2, h3⟩, h4⟩
theorem v_B.set1 (hB : v_B (s.1 65) st me so) {x : Nat} (hx : x ≤ 100) : v_B ((d_si s 65 (21 + 3 * b) (x : Int)).1 65) st (v_up1 me b x) so := by
  intro j hj
  rw [d_si_i]
  obtain ⟨⟨h1, h2, h3⟩, h4⟩ := hB j hj
  unfold v_up1
  rw [d_u_n (show 20 + 3 * j ≠ 21 + 3 * b by omega), d_u_n (show 22 + 3 * j ≠ 21 + 3 * b by omega)]
  by_cases q : j = b
  · subst q
    rw [d_u_t, if_pos rfl]
    exact ⟨⟨h1, rfl, h3⟩, h4.1, hx, h4.2.2⟩
  · rw [d_u_n (by omega), if_neg q]
    exact ⟨⟨h1, h2, h3⟩, h4⟩
theorem v_B.set2 (hB : v_B (s.1 65) st me so) {x : Nat} (hx : x ≤ 1) : v_B ((d_si s 65 (22 + 3 * b) (x : Int)).1 65) st me (v_up1 so b x) := by
  intro j hj
  rw [d_si_i]
  obtain ⟨⟨h1, h2, h3⟩, h4⟩ := hB j hj
  unfold v_up1
  rw [d_u_n (show 20 + 3 * j ≠ 22 + 3 * b by omega), d_u_n (show 21 + 3 * j ≠ 22 + 3 * b by omega)]
  by_cases q : j = b
  · subst q
    rw [d_u_t, if_pos rfl]
    exact ⟨⟨h1, h2, rfl⟩, h4.1, h4.2.1, hx⟩
  · rw [d_u_n (by omega), if_neg q]
    exact ⟨⟨h1, h2, h3⟩, h4⟩
end V6B

def v_M (s : d_S) (st me so : Nat → Nat) : Prop := ∀ b, b < 64 → s.1 7 b = ((st b + 16 * me b + 2048 * so b : Nat) : Int) ∧ st b ≤ 9 ∧ me b ≤ 100 ∧ so b ≤ 1
theorem v_pack {a b c : Nat} (ha : a < 16) (hb : b < 128) (hc : c < 2) : (a + 16 * b + 2048 * c) % 16 = a ∧ (a + 16 * b + 2048 * c) / 16 % 128 = b ∧ (a + 16 * b + 2048 * c) / 2048 = c := by omega
theorem v_sh4 {m : Nat} (hm : m < 2147483648) : d_shr (m : Int) 4 = ((m / 16 : Nat) : Int) := v_shr (k := 4) hm (by decide)
theorem v_sh11 {m : Nat} (hm : m < 2147483648) : d_shr (m : Int) 11 = ((m / 2048 : Nat) : Int) := v_shr (k := 11) hm (by decide)
theorem v_and15 {m : Nat} (hm : m < 2147483648) : d_and (m : Int) 15 = ((m % 16 : Nat) : Int) := by
  have := v_and (a := m) (b := 15) hm (by decide)
  rw [show (15 : Nat) = 2 ^ 4 - 1 from rfl, Nat.and_two_pow_sub_one_eq_mod] at this
  exact this
theorem v_and127 {m : Nat} (hm : m < 2147483648) : d_and (m : Int) 127 = ((m % 128 : Nat) : Int) := by
  have := v_and (a := m) (b := 127) hm (by decide)
  rw [show (127 : Nat) = 2 ^ 7 - 1 from rfl, Nat.and_two_pow_sub_one_eq_mod] at this
  exact this
section V6
variable {s : d_S} {st me so : Nat → Nat} {b : Nat}
theorem P_markOf (hM : v_M s st me so) (hb : b < 64) : F_X10_markOf_6 s (b : Int) = some ((st b + 16 * me b + 2048 * so b : Nat) : Int) := by
  unfold F_X10_markOf_6
  rw [if_neg (by omega), if_pos (by omega), d_g_t (by omega), Int.toNat_natCast, (hM b hb).1]
theorem P_strawOn (hM : v_M s st me so) (hb : b < 64) : F_X10_strawOn_6 s (b : Int) = some ((st b : Nat) : Int) := by
  obtain ⟨-, h1, h2, h3⟩ := hM b hb
  have hp := v_pack (a := st b) (b := me b) (c := so b) (by omega) (by omega) (by omega)
  unfold F_X10_strawOn_6
  rw [P_markOf hM hb, d_b_t, v_and15 (by omega), hp.1]
theorem P_meltedOf (hM : v_M s st me so) (hb : b < 64) : F_X10_meltedOf_6 s (b : Int) = some ((me b : Nat) : Int) := by
  obtain ⟨-, h1, h2, h3⟩ := hM b hb
  have hp := v_pack (a := st b) (b := me b) (c := so b) (by omega) (by omega) (by omega)
  unfold F_X10_meltedOf_6
  rw [P_markOf hM hb, d_b_t, v_sh4 (by omega), v_and127 (by omega), hp.2.1]
theorem P_isSoldC (hM : v_M s st me so) (hb : b < 64) : F_X10_isSold_6 s (b : Int) = some ((so b : Nat) : Int) := by
  obtain ⟨-, h1, h2, h3⟩ := hM b hb
  have hp := v_pack (a := st b) (b := me b) (c := so b) (by omega) (by omega) (by omega)
  unfold F_X10_isSold_6
  rw [P_markOf hM hb, d_b_t, v_sh11 (by omega), hp.2.2]
  by_cases q : so b = 1
  · rw [if_pos (by omega), q]; rfl
  · rw [if_neg (by omega), show so b = 0 by omega]; rfl
theorem P_put {x y z : Nat} (hb : b < 64) (hx : x ≤ 9) (hy : y ≤ 100) (hz : z ≤ 1) : F_X10_put_6 s (b : Int) (x : Int) (y : Int) (z : Int) = some (d_si s 7 b ((x + 16 * y + 2048 * z : Nat) : Int)) := by
  unfold F_X10_put_6
  rw [if_neg (by omega), if_pos (by omega), P_bit, d_b_t, d_g_t (by omega), d_l_t, Int.toNat_natCast]
  have e1 : v_b (¬ (z : Int) = 0) = (z : Int) := by
    by_cases q : z = 0
    · rw [v_bf (by omega), q]; rfl
    · rw [v_bt (by omega), show z = 1 by omega]; rfl
  have e2 : d_shl (y : Int) 4 = ((16 * y : Nat) : Int) := by
    have := v_shl (x := y) (k := 4) (by decide) (by omega)
    rw [Nat.mul_comm] at this
    exact this
  have e3 : d_shl (z : Int) 11 = ((2048 * z : Nat) : Int) := by
    have := v_shl (x := z) (k := 11) (by decide) (by omega)
    rw [Nat.mul_comm] at this
    exact this
  have o1 : x ||| 16 * y = x + 16 * y := by
    have := Nat.two_pow_add_eq_or_of_lt (show x < 2 ^ 4 by omega) y
    rw [show 2 ^ 4 = 16 from rfl] at this
    rw [Nat.or_comm]; omega
  have o2 : (x + 16 * y) ||| 2048 * z = x + 16 * y + 2048 * z := by
    have := Nat.two_pow_add_eq_or_of_lt (show x + 16 * y < 2 ^ 11 by omega) z
    rw [show 2 ^ 11 = 2048 from rfl] at this
    rw [Nat.or_comm]; omega
  rw [e1, e2, e3, v_or (by omega) (by omega), o1, v_or (by omega) (by omega), o2]
def v_up1 (f : Nat → Nat) (b x : Nat) : Nat → Nat := fun j => if j = b then x else f j
theorem v_M.put (hM : v_M s st me so) {x y z : Nat} (hx : x ≤ 9) (hy : y ≤ 100) (hz : z ≤ 1) : v_M (d_si s 7 b ((x + 16 * y + 2048 * z : Nat) : Int)) (v_up1 st b x) (v_up1 me b y) (v_up1 so b z) := by
  intro j hj
  rw [d_si_i]
  unfold v_up1
  by_cases q : j = b
  · subst q
    rw [d_u_t, if_pos rfl, if_pos rfl, if_pos rfl]
    exact ⟨rfl, hx, hy, hz⟩
  · rw [d_u_n q, if_neg q, if_neg q, if_neg q]
    exact hM j hj
theorem v_M.fr {s' : d_S} (hM : v_M s st me so) (h : s'.1 7 = s.1 7) : v_M s' st me so := by
  intro j hj
  rw [h]; exact hM j hj
end V6
def v_B (A : Nat → Int) (st me so : Nat → Nat) : Prop := ∀ b, b < 64 → (A (20 + 3 * b) = ((st b : Nat) : Int) ∧ A (21 + 3 * b) = ((me b : Nat) : Int) ∧ A (22 + 3 * b) = ((so b : Nat) : Int)) ∧ st b ≤ 9 ∧ me b ≤ 100 ∧ so b ≤ 1
section V6B
variable {s : d_S} {st me so : Nat → Nat} {b : Nat}
theorem P_get0 (hB : v_B (s.1 65) st me so) (hb : b < 64) : F_X12_get s (b : Int) 0 = some ((st b : Nat) : Int) := by
  unfold F_X12_get
  rw [d_w_id (by omega) (by omega), d_g_t (by omega), show ((20 : Int) + 3 * (b : Int) + 0).toNat = 20 + 3 * b by omega, (hB b hb).1.1]
theorem P_get1 (hB : v_B (s.1 65) st me so) (hb : b < 64) : F_X12_get s (b : Int) 1 = some ((me b : Nat) : Int) := by
  unfold F_X12_get
  rw [d_w_id (by omega) (by omega), d_g_t (by omega), show ((20 : Int) + 3 * (b : Int) + 1).toNat = 21 + 3 * b by omega, (hB b hb).1.2.1]
theorem P_get2 (hB : v_B (s.1 65) st me so) (hb : b < 64) : F_X12_get s (b : Int) 2 = some ((so b : Nat) : Int) := by
  unfold F_X12_get
  rw [d_w_id (by omega) (by omega), d_g_t (by omega), show ((20 : Int) + 3 * (b : Int) + 2).toNat = 22 + 3 * b by omega, (hB b hb).1.2.2]
theorem P_isSold (hB : v_B (s.1 65) st me so) (hb : b < 64) : F_X12_isSold s (b : Int) = some ((so b : Nat) : Int) := by
  have h3 := (hB b hb).2.2.2
  unfold F_X12_isSold
  rw [P_get2 hB hb, d_b_t]
  by_cases q : so b = 1
  · rw [if_pos (by omega), q]; rfl
  · rw [if_neg (by omega), show so b = 0 by omega]; rfl
theorem P_isWater (hB : v_B (s.1 65) st me so) (hb : b < 64) : F_X12_isWater s (b : Int) = some (v_b (me b = 100)) := by
  unfold F_X12_isWater
  rw [P_get1 hB hb, d_b_t]
  by_cases q : me b = 100
  · rw [if_pos (by omega), v_bt q]
  · rw [if_neg (by omega), v_bf q]
theorem P_set0 {x : Int} (hb : b < 64) : F_X12_set s (b : Int) 0 x = some (d_si s 65 (20 + 3 * b) x) := by
  unfold F_X12_set
  rw [d_w_id (by omega) (by omega), d_g_t (by omega), show ((20 : Int) + 3 * (b : Int) + 0).toNat = 20 + 3 * b by omega, d_l_t]
theorem P_set1 {x : Int} (hb : b < 64) : F_X12_set s (b : Int) 1 x = some (d_si s 65 (21 + 3 * b) x) := by
  unfold F_X12_set
  rw [d_w_id (by omega) (by omega), d_g_t (by omega), show ((20 : Int) + 3 * (b : Int) + 1).toNat = 21 + 3 * b by omega, d_l_t]
theorem P_set2 {x : Int} (hb : b < 64) : F_X12_set s (b : Int) 2 x = some (d_si s 65 (22 + 3 * b) x) := by
  unfold F_X12_set
  rw [d_w_id (by omega) (by omega), d_g_t (by omega), show ((20 : Int) + 3 * (b : Int) + 2).toNat = 22 + 3 * b by omega, d_l_t]
theorem v_B.set0 (hB : v_B (s.1 65) st me so) {x : Nat} (hx : x ≤ 9) : v_B ((d_si s 65 (20 + 3 * b) (x : Int)).1 65) (v_up1 st b x) me so := by
  intro j hj
  rw [d_si_i]
  obtain ⟨⟨h1, h2, h3⟩, h4⟩ := hB j hj
  unfold v_up1
  rw [d_u_n (show 21 + 3 * j ≠ 20 + 3 * b by omega), d_u_n (show 22 + 3 * j ≠ 20 + 3 * b by omega)]
  by_cases q : j = b
  · subst q
    rw [d_u_t, if_pos rfl]
    exact ⟨⟨rfl, h2, h3⟩, hx, h4.2⟩
  · rw [d_u_n (by omega), if_neg q]
    exact ⟨⟨h1, h2, h3⟩, h4⟩
theorem v_B.set1 (hB : v_B (s.1 65) st me so) {x : Nat} (hx : x ≤ 100) : v_B ((d_si s 65 (21 + 3 * b) (x : Int)).1 65) st (v_up1 me b x) so := by
  intro j hj
  rw [d_si_i]
  obtain ⟨⟨h1, h2, h3⟩, h4⟩ := hB j hj
  unfold v_up1
  rw [d_u_n (show 20 + 3 * j ≠ 21 + 3 * b by omega), d_u_n (show 22 + 3 * j ≠ 21 + 3 * b by omega)]
  by_cases q : j = b
  · subst q
    rw [d_u_t, if_pos rfl]
    exact ⟨⟨h1, rfl, h3⟩, h4.1, hx, h4.2.2⟩
  · rw [d_u_n (by omega), if_neg q]
    exact ⟨⟨h1, h2, h3⟩, h4⟩
theorem v_B.set2 (hB : v_B (s.1 65) st me so) {x : Nat} (hx : x ≤ 1) : v_B ((d_si s 65 (22 + 3 * b) (x : Int)).1 65) st me (v_up1 so b x) := by
  intro j hj
  rw [d_si_i]
  obtain ⟨⟨h1, h2, h3⟩, h4⟩ := hB j hj
  unfold v_up1
  rw [d_u_n (show 20 + 3 * j ≠ 22 + 3 * b by omega), d_u_n (show 21 + 3 * j ≠ 22 + 3 * b by omega)]
  by_cases q : j = b
  · subst q
    rw [d_u_t, if_pos rfl]
    exact ⟨⟨h1, h2, rfl⟩, h4.1, h4.2.1, hx⟩
  · rw [d_u_n (by omega), if_neg q]
    exact ⟨⟨h1, h2, h3⟩, h4⟩
end V6B
abbrev v_V6 : Type := Int → Int → Int → Int → Int → Int → Int
abbrev v_V8 : Type := Int → Int → Int → Int → Int → Int → Int → Int → Int
abbrev v_LR : Type := Option v_V6 × Option v_V8 × Option v_V6
def v_mel (L : v_LR) (day heat size straw melted edge : Int) : Int := max 0 (min 100 (match L.1 with
  | none => heat + edge - straw
  | some V => V day heat size straw melted edge))
def v_rot (L : v_LR) (day heat size straw melted edge : Int) : Int := match L.2.2 with
  | none => 0
  | some V => max 0 (min 9 (V day heat size straw melted edge))
def v_sel (L : v_LR) (day heat size straw melted edge sights kinds : Int) : Int := max 0 (min 9999 (match L.2.1 with
  | none => size * (100 - melted) / 10
  | some V => V day heat size straw melted edge sights kinds))
def v_Nm (f : Nat → Int) : Prop := ∀ k, k < 8 → 0 ≤ f k ∧ f k ≤ 2000
def v_fx (L : List Nat) (s s' : d_S) : Prop := (∀ a, a ∉ L → s'.1 a = s.1 a) ∧ ∀ a, a ≠ 47 → s'.2.1 a = s.2.1 a
theorem v_fx.trans {L : List Nat} {a b c : d_S} (h1 : v_fx L a b) (h2 : v_fx L b c) : v_fx L a c := ⟨fun x hx => (h2.1 x hx).trans (h1.1 x hx), fun x hx => (h2.2 x hx).trans (h1.2 x hx)⟩
theorem v_fx.rfl {L : List Nat} {a : d_S} : v_fx L a a := ⟨fun _ _ => Eq.refl _, fun _ _ => Eq.refl _⟩
theorem v_fx.mono {L M : List Nat} {a b : d_S} (h : v_fx L a b) (hm : ∀ x, x ∈ L → x ∈ M) : v_fx M a b := ⟨fun x hx => h.1 x (fun z => hx (hm x z)), h.2⟩
theorem v_fx.si {L : List Nat} {s : d_S} {a k : Nat} {v : Int} (h : a ∈ L) : v_fx L s (d_si s a k v) := ⟨fun x hx => d_si_n (fun z => hx (z ▸ h)), fun _ _ => Eq.refl _⟩
theorem v_fx.sp {L : List Nat} {s : d_S} {k : Nat} {e : Option Nat} : v_fx L s (d_sp s 47 k e) := ⟨fun _ _ => Eq.refl _, fun _ ha => d_u_n ha⟩
theorem v_fr.x {L : List Nat} {a b : d_S} (h : v_fr L a b) : v_fx L a b := ⟨h.1, fun _ _ => by rw [h.2]⟩
def v_tle (t t' : Nat → Option p_C) : Prop := ∀ i c, t i = some c → t' i = some c
def v_cd (t : Nat → Option p_C) (a : Nat) (V : (Nat → Int) → Int) : Prop := ∀ t', v_tle t t' → ∀ s : d_S, v_Nm (s.1 49) → ∃ s', F_X1_reckon t' s (some a) = some (V (s.1 49), s') ∧ v_fr [50] s s' ∧ d_R (V (s.1 49))
def v_CT (t : Nat → Option p_C) (e : Option Nat) (L : v_LR) : Prop := match e with
  | none => L = (none, none, none)
  | some b => ((d_tfq t b 0 = some none ∧ L.1 = none) ∨ ∃ a V, d_tfq t b 0 = some (some a) ∧ L.1 = some V ∧ v_cd t a (fun f => V (f 1) (f 2) (f 3) (f 0) (f 4) (f 5))) ∧
    ((d_tfq t b 1 = some none ∧ L.2.1 = none) ∨ ∃ a V, d_tfq t b 1 = some (some a) ∧ L.2.1 = some V ∧ v_cd t a (fun f => V (f 1) (f 2) (f 3) (f 0) (f 4) (f 5) (f 6) (f 7))) ∧
    ((d_tfq t b 2 = some none ∧ L.2.2 = none) ∨ ∃ a V, d_tfq t b 2 = some (some a) ∧ L.2.2 = some V ∧ v_cd t a (fun f => V (f 1) (f 2) (f 3) (f 0) (f 4) (f 5)))
theorem P_minL {x y : Int} : F_J9_min_f86c9 x y = some (min x y) := by
  unfold F_J9_min_f86c9
  split <;> congr 1 <;> omega
theorem P_maxL {x y : Int} : F_J9_max_f86c9 x y = some (max x y) := by
  unfold F_J9_max_f86c9
  split <;> congr 1 <;> omega
section V7
variable {t : Nat → Option p_C} {s : d_S} {e : Option Nat} {L : v_LR} {day heat size straw melted edge : Int}
theorem P_tellDay {a b c d : Int} : F_X1_tellDay s a b c d = some (d_si (d_si (d_si (d_si s 49 1 a) 49 2 b) 49 0 c) 49 4 d) := rfl
theorem v_told {a b c d : Int} : (d_si (d_si (d_si (d_si s 49 1 a) 49 2 b) 49 0 c) 49 4 d).1 49 = d_u (d_u (d_u (d_u (s.1 49) 1 a) 2 b) 0 c) 4 d := by
  rw [d_si_i, d_si_i, d_si_i, d_si_i]
theorem v_Nm.u {f : Nat → Int} (h : v_Nm f) {k : Nat} {x : Int} (h0 : 0 ≤ x) (h1 : x ≤ 2000) : v_Nm (d_u f k x) := by
  intro j hj
  by_cases q : j = k
  · subst q; rw [d_u_t]; exact ⟨h0, h1⟩
  · rw [d_u_n q]; exact h j hj
theorem P_melts (hT : v_CT t e L) (hN : v_Nm (s.1 49)) : ∃ s', F_X1_melts t s e = some (v_mel L (s.1 49 1) (s.1 49 2) (s.1 49 3) (s.1 49 0) (s.1 49 4) (s.1 49 5), s') ∧ v_fr [50] s s' := by
  have n0 := hN 0 (by decide)
  have n2 := hN 2 (by decide)
  have n5 := hN 5 (by decide)
  have hdef : L.1 = none → F_X1_melts_j15 t e s = some (v_mel L (s.1 49 1) (s.1 49 2) (s.1 49 3) (s.1 49 0) (s.1 49 4) (s.1 49 5), s) := by
    intro h
    unfold F_X1_melts_j15 F_X1_melts_j52 v_mel
    rw [P_min, d_b_t, P_max, d_b_t, h, d_w_id (by omega) (by omega)]
  cases e with
  | none =>
    have hL : L = (none, none, none) := hT
    exact ⟨s, hdef (by rw [hL]), v_fr.rfl⟩
  | some b =>
    obtain ⟨h0, -, -⟩ := hT
    rcases h0 with ⟨h1, h2⟩ | ⟨a, V, h1, h2, h3⟩
    · refine ⟨s, ?_, v_fr.rfl⟩
      unfold F_X1_melts
      show d_b (some b) _ = _
      rw [d_b_t, h1, d_b_t]
      exact hdef h2
    · obtain ⟨s', g1, g2, g3⟩ := h3 t (fun _ _ q => q) s hN
      refine ⟨s', ?_, g2⟩
      unfold F_X1_melts
      show d_b (some b) _ = _
      rw [d_b_t, h1, d_b_t]
      show d_b (some b) _ = _
      rw [d_b_t, h1, d_b_t, g1, d_b2_t]
      unfold F_X1_melts_j52 v_mel
      rw [P_min, d_b_t, P_max, d_b_t, h2]
theorem P_rots (hT : v_CT t e L) (hN : v_Nm (s.1 49)) : ∃ s', F_X1_rots t s e = some (v_rot L (s.1 49 1) (s.1 49 2) (s.1 49 3) (s.1 49 0) (s.1 49 4) (s.1 49 5), s') ∧ v_fr [50] s s' := by
  have hdef : L.2.2 = none → F_X1_rots_j15 t e s = some (v_rot L (s.1 49 1) (s.1 49 2) (s.1 49 3) (s.1 49 0) (s.1 49 4) (s.1 49 5), s) := by
    intro h
    unfold F_X1_rots_j15 v_rot
    rw [h]
  cases e with
  | none =>
    have hL : L = (none, none, none) := hT
    exact ⟨s, hdef (by rw [hL]), v_fr.rfl⟩
  | some b =>
    obtain ⟨-, -, h0⟩ := hT
    rcases h0 with ⟨h1, h2⟩ | ⟨a, V, h1, h2, h3⟩
    · refine ⟨s, ?_, v_fr.rfl⟩
      unfold F_X1_rots
      show d_b (some b) _ = _
      rw [d_b_t, h1, d_b_t]
      exact hdef h2
    · obtain ⟨s', g1, g2, g3⟩ := h3 t (fun _ _ q => q) s hN
      refine ⟨s', ?_, g2⟩
      unfold F_X1_rots
      show d_b (some b) _ = _
      rw [d_b_t, h1, d_b_t]
      show d_b (some b) _ = _
      rw [d_b_t, h1, d_b_t, g1, d_b2_t, P_min, d_b_t, P_max, d_b_t]
      unfold v_rot
      rw [h2]
theorem P_sells (hT : v_CT t e L) (hN : v_Nm (s.1 49)) (h3 : s.1 49 3 ≤ 64) (h4 : s.1 49 4 ≤ 100) : ∃ s', F_X1_sells t s e = some (v_sel L (s.1 49 1) (s.1 49 2) (s.1 49 3) (s.1 49 0) (s.1 49 4) (s.1 49 5) (s.1 49 6) (s.1 49 7), s') ∧ v_fr [50] s s' := by
  have n3 := hN 3 (by decide)
  have n4 := hN 4 (by decide)
  have hdef : L.2.1 = none → F_X1_sells_j15 t e s = some (v_sel L (s.1 49 1) (s.1 49 2) (s.1 49 3) (s.1 49 0) (s.1 49 4) (s.1 49 5) (s.1 49 6) (s.1 49 7), s) := by
    intro h
    unfold F_X1_sells_j15 F_X1_sells_j51 v_sel
    obtain ⟨a, ha⟩ : ∃ a : Nat, s.1 49 3 = a := ⟨(s.1 49 3).toNat, by omega⟩
    obtain ⟨c, hc⟩ : ∃ c : Nat, 100 - s.1 49 4 = c := ⟨(100 - s.1 49 4).toNat, by omega⟩
    have hle : a * c ≤ 64 * 100 := Nat.mul_le_mul (by omega) (by omega)
    have hd : d_div (s.1 49 3 * (100 - s.1 49 4)) 10 = s.1 49 3 * (100 - s.1 49 4) / 10 := by
      rw [ha, hc, ← Int.natCast_mul]
      exact v_div (a := a * c) (b := 10) (by omega) (by decide)
    rw [hd, P_min, d_b_t, P_max, d_b_t, h]
  cases e with
  | none =>
    have hL : L = (none, none, none) := hT
    exact ⟨s, hdef (by rw [hL]), v_fr.rfl⟩
  | some b =>
    obtain ⟨-, h0, -⟩ := hT
    rcases h0 with ⟨h1, h2⟩ | ⟨a, V, h1, h2, h3⟩
    · refine ⟨s, ?_, v_fr.rfl⟩
      unfold F_X1_sells
      show d_b (some b) _ = _
      rw [d_b_t, h1, d_b_t]
      exact hdef h2
    · obtain ⟨s', g1, g2, g3⟩ := h3 t (fun _ _ q => q) s hN
      refine ⟨s', ?_, g2⟩
      unfold F_X1_sells
      show d_b (some b) _ = _
      rw [d_b_t, h1, d_b_t]
      show d_b (some b) _ = _
      rw [d_b_t, h1, d_b_t, g1, d_b2_t]
      unfold F_X1_sells_j51 v_sel
      rw [P_min, d_b_t, P_max, d_b_t, h2]
theorem v_mel_b : 0 ≤ v_mel L day heat size straw melted edge ∧ v_mel L day heat size straw melted edge ≤ 100 := by unfold v_mel; omega
theorem v_rot_b : 0 ≤ v_rot L day heat size straw melted edge ∧ v_rot L day heat size straw melted edge ≤ 9 := by
  unfold v_rot
  split <;> omega
theorem v_sel_b {x y : Int} : 0 ≤ v_sel L day heat size straw melted edge x y ∧ v_sel L day heat size straw melted edge x y ≤ 9999 := by unfold v_sel; omega
def v_mf (L : v_LR) (day heat size straw melted edge : Int) : Int := if melted < 100 then min 100 (melted + v_mel L day heat size straw melted edge) else 100
def v_sf (L : v_LR) (day heat size straw melted edge : Int) : Int := if 0 < straw then max 0 (straw - v_rot L day heat size straw melted edge) else 0
def v_tb (s : d_S) (size edge : Int) : Prop := s.1 49 3 = size ∧ s.1 49 5 = edge ∧ v_Nm (s.1 49)
theorem P_meltedFrom (hT : v_CT t (s.2.1 47 3) L) (hb : v_tb s size edge) (d0 : 0 ≤ day ∧ day ≤ 2000) (d1 : 0 ≤ heat ∧ heat ≤ 2000) (d2 : 0 ≤ straw ∧ straw ≤ 2000) (d3 : 0 ≤ melted ∧ melted ≤ 2000) : ∃ s', F_X0_meltedFrom t s day heat straw melted = some (v_mf L day heat size straw melted edge, s') ∧ (∀ a, a ≠ 49 → a ≠ 50 → s'.1 a = s.1 a) ∧ s'.2 = s.2 ∧ v_tb s' size edge := by
  unfold F_X0_meltedFrom v_mf
  by_cases q : melted < 100
  · rw [if_pos q, if_pos q, P_tellDay, d_b_t]
    obtain ⟨s1, hs1⟩ : ∃ z, z = d_si (d_si (d_si (d_si s 49 1 day) 49 2 heat) 49 0 straw) 49 4 melted := ⟨_, rfl⟩
    have e49 : s1.1 49 = d_u (d_u (d_u (d_u (s.1 49) 1 day) 2 heat) 0 straw) 4 melted := by rw [hs1]; exact v_told
    have e2 : s1.2 = s.2 := by rw [hs1]; rfl
    have eo : ∀ a, a ≠ 49 → s1.1 a = s.1 a := fun a ha => by rw [hs1, d_si_n ha, d_si_n ha, d_si_n ha, d_si_n ha]
    have hN : v_Nm (s1.1 49) := by rw [e49]; exact (((hb.2.2.u d0.1 d0.2).u d1.1 d1.2).u d2.1 d2.2).u d3.1 d3.2
    rw [← hs1]
    obtain ⟨s', g1, g2⟩ := P_melts (s := s1) hT hN
    have x1 : s1.1 49 1 = day := by rw [e49]; rfl
    have x2 : s1.1 49 2 = heat := by rw [e49]; rfl
    have x0 : s1.1 49 0 = straw := by rw [e49]; rfl
    have x4 : s1.1 49 4 = melted := by rw [e49]; rfl
    have x3 : s1.1 49 3 = size := by rw [e49]; exact hb.1
    have x5 : s1.1 49 5 = edge := by rw [e49]; exact hb.2.1
    rw [x0, x1, x2, x3, x4, x5] at g1
    have hm := v_mel_b (L := L) (day := day) (heat := heat) (size := size) (straw := straw) (melted := melted) (edge := edge)
    refine ⟨s', ?_, fun a h49 h50 => (g2.1 a (by simpa using h50)).trans (eo a h49), g2.2.trans e2, ?_, ?_, ?_⟩
    · rw [e2, g1, d_b2_t, P_min, d_b_t, d_w_id (by omega) (by omega)]
    · rw [g2.1 49 (by decide)]; exact x3
    · rw [g2.1 49 (by decide)]; exact x5
    · rw [g2.1 49 (by decide)]; exact hN
  · rw [if_neg q, if_neg q]
    exact ⟨s, rfl, fun _ _ _ => rfl, rfl, hb⟩
theorem P_strawFrom (hT : v_CT t (s.2.1 47 3) L) (hb : v_tb s size edge) (d0 : 0 ≤ day ∧ day ≤ 2000) (d1 : 0 ≤ heat ∧ heat ≤ 2000) (d2 : 0 ≤ straw ∧ straw ≤ 2000) (d3 : 0 ≤ melted ∧ melted ≤ 2000) : ∃ s', F_X0_strawFrom t s day heat straw melted = some (v_sf L day heat size straw melted edge, s') ∧ (∀ a, a ≠ 49 → a ≠ 50 → s'.1 a = s.1 a) ∧ s'.2 = s.2 ∧ v_tb s' size edge := by
  unfold F_X0_strawFrom v_sf
  by_cases q : 0 < straw
  · rw [if_pos q, if_pos q, P_tellDay, d_b_t]
    obtain ⟨s1, hs1⟩ : ∃ z, z = d_si (d_si (d_si (d_si s 49 1 day) 49 2 heat) 49 0 straw) 49 4 melted := ⟨_, rfl⟩
    have e49 : s1.1 49 = d_u (d_u (d_u (d_u (s.1 49) 1 day) 2 heat) 0 straw) 4 melted := by rw [hs1]; exact v_told
    have e2 : s1.2 = s.2 := by rw [hs1]; rfl
    have eo : ∀ a, a ≠ 49 → s1.1 a = s.1 a := fun a ha => by rw [hs1, d_si_n ha, d_si_n ha, d_si_n ha, d_si_n ha]
    have hN : v_Nm (s1.1 49) := by rw [e49]; exact (((hb.2.2.u d0.1 d0.2).u d1.1 d1.2).u d2.1 d2.2).u d3.1 d3.2
    rw [← hs1]
    obtain ⟨s', g1, g2⟩ := P_rots (s := s1) hT hN
    have x1 : s1.1 49 1 = day := by rw [e49]; rfl
    have x2 : s1.1 49 2 = heat := by rw [e49]; rfl
    have x0 : s1.1 49 0 = straw := by rw [e49]; rfl
    have x4 : s1.1 49 4 = melted := by rw [e49]; rfl
    have x3 : s1.1 49 3 = size := by rw [e49]; exact hb.1
    have x5 : s1.1 49 5 = edge := by rw [e49]; exact hb.2.1
    rw [x0, x1, x2, x3, x4, x5] at g1
    have hm := v_rot_b (L := L) (day := day) (heat := heat) (size := size) (straw := straw) (melted := melted) (edge := edge)
    refine ⟨s', ?_, fun a h49 h50 => (g2.1 a (by simpa using h50)).trans (eo a h49), g2.2.trans e2, ?_, ?_, ?_⟩
    · rw [e2, g1, d_b2_t, P_max, d_b_t, d_w_id (by omega) (by omega)]
    · rw [g2.1 49 (by decide)]; exact x3
    · rw [g2.1 49 (by decide)]; exact x5
    · rw [g2.1 49 (by decide)]; exact hN
  · rw [if_neg q, if_neg q]
    exact ⟨s, rfl, fun _ _ _ => rfl, rfl, hb⟩
end V7
theorem v_remI {a b : Int} (h0 : 0 ≤ a) (h1 : a < 2147483648) (g0 : 0 < b) (g1 : b < 2147483648) : d_rem a b = a % b := by
  obtain ⟨m, rfl⟩ : ∃ m : Nat, a = m := ⟨a.toNat, by omega⟩
  obtain ⟨n, rfl⟩ : ∃ n : Nat, b = n := ⟨b.toNat, by omega⟩
  rw [v_rem (by omega) (by omega)]; rfl
theorem v_divI {a b : Int} (h0 : 0 ≤ a) (h1 : a < 2147483648) (g0 : 0 < b) (g1 : b < 2147483648) : d_div a b = a / b := by
  obtain ⟨m, rfl⟩ : ∃ m : Nat, a = m := ⟨a.toNat, by omega⟩
  obtain ⟨n, rfl⟩ : ∃ n : Nat, b = n := ⟨b.toNat, by omega⟩
  rw [v_div (by omega) (by omega)]; rfl
abbrev v_T5 : Type := Int × Int × Int × Int × Int
def v_s1 (L : v_LR) (size edge sold : Int) (q : v_T5) : v_T5 :=
  (q.1 + 1, q.2.2.2.2 % 10, (if sold = 0 then v_sf L (q.1 + 1) (q.2.2.2.2 % 10) size q.2.2.1 (if sold = 0 then v_mf L q.1 q.2.1 size q.2.2.1 q.2.2.2.1 edge else q.2.2.2.1) edge else q.2.2.1), (if sold = 0 then v_mf L q.1 q.2.1 size q.2.2.1 q.2.2.2.1 edge else q.2.2.2.1), (q.2.2.2.2 * 281 + 179) % 30293)
def v_rn (L : v_LR) (size edge sold : Int) : Nat → v_T5 → v_T5
  | 0, q => q
  | n + 1, q => if q.1 < 999 then v_rn L size edge sold n (v_s1 L size edge sold q) else q
def v_ok (q : v_T5) : Prop := (0 ≤ q.1 ∧ q.1 ≤ 999) ∧ (0 ≤ q.2.1 ∧ q.2.1 ≤ 9) ∧ (0 ≤ q.2.2.1 ∧ q.2.2.1 ≤ 9) ∧ (0 ≤ q.2.2.2.1 ∧ q.2.2.2.1 ≤ 100) ∧ (0 ≤ q.2.2.2.2 ∧ q.2.2.2.2 < 30293)
def v_K (s : d_S) (q : v_T5) (sold : Int) : Prop := (s.1 47 6 = q.1 ∧ s.1 47 7 = q.2.1 ∧ s.1 47 8 = q.2.2.1 ∧ s.1 47 9 = q.2.2.2.1 ∧ s.1 47 5 = q.2.2.2.2 ∧ s.1 47 10 = sold) ∧ v_ok q ∧ (sold = 0 ∨ sold = 1)
section V8
variable {t : Nat → Option p_C} {s : d_S} {e : Option Nat} {L : v_LR} {size edge sold : Int} {q : v_T5}
theorem v_mf_b {day heat straw melted : Int} (h : 0 ≤ melted ∧ melted ≤ 100) : 0 ≤ v_mf L day heat size straw melted edge ∧ v_mf L day heat size straw melted edge ≤ 100 := by
  have hm := v_mel_b (L := L) (day := day) (heat := heat) (size := size) (straw := straw) (melted := melted) (edge := edge)
  unfold v_mf
  split <;> omega
theorem v_sf_b {day heat straw melted : Int} (h : 0 ≤ straw ∧ straw ≤ 9) : 0 ≤ v_sf L day heat size straw melted edge ∧ v_sf L day heat size straw melted edge ≤ 9 := by
  have hm := v_rot_b (L := L) (day := day) (heat := heat) (size := size) (straw := straw) (melted := melted) (edge := edge)
  unfold v_sf
  split <;> omega
theorem v_ok.s1 (h : v_ok q) (h9 : q.1 < 999) : v_ok (v_s1 L size edge sold q) := by
  obtain ⟨a, b, c, d, e⟩ := h
  have hx : 0 ≤ q.2.2.2.2 % 10 ∧ q.2.2.2.2 % 10 ≤ 9 := by omega
  have hm : 0 ≤ (if sold = 0 then v_mf L q.1 q.2.1 size q.2.2.1 q.2.2.2.1 edge else q.2.2.2.1) ∧ (if sold = 0 then v_mf L q.1 q.2.1 size q.2.2.1 q.2.2.2.1 edge else q.2.2.2.1) ≤ 100 := by
    split
    · exact v_mf_b d
    · exact d
  refine ⟨?_, hx, ?_, hm, ?_⟩
  · show 0 ≤ q.1 + 1 ∧ q.1 + 1 ≤ 999; omega
  · show 0 ≤ (if sold = 0 then v_sf L (q.1 + 1) (q.2.2.2.2 % 10) size q.2.2.1 _ edge else q.2.2.1) ∧ (if sold = 0 then v_sf L (q.1 + 1) (q.2.2.2.2 % 10) size q.2.2.1 _ edge else q.2.2.1) ≤ 9
    split
    · exact v_sf_b c
    · exact c
  · show 0 ≤ (q.2.2.2.2 * 281 + 179) % 30293 ∧ (q.2.2.2.2 * 281 + 179) % 30293 < 30293; omega
theorem v_ok.rn : ∀ (n : Nat) (q : v_T5), v_ok q → v_ok (v_rn L size edge sold n q) := by
  intro n
  induction n with
  | zero => intro q h; exact h
  | succ n ih =>
    intro q h
    simp only [v_rn]
    split
    · next h9 => exact ih _ (h.s1 h9)
    · exact h
def v_R1 (t : Nat → Option p_C) (s s' : d_S) (q : v_T5) (size edge sold : Int) : Prop := v_K s' q sold ∧ (∀ a, a ≠ 47 → a ≠ 49 → a ≠ 50 → s'.1 a = s.1 a) ∧ s'.2 = s.2 ∧ v_tb s' size edge ∧ s'.1 47 4 = s.1 47 4
theorem P_behind {x : Int} (h : 0 ≤ x ∧ x < 30293) : F_X10_behind x = some ((x * 281 + 179) % 30293) := by
  unfold F_X10_behind
  rw [v_remI (by omega) (by omega) (by decide) (by decide)]
theorem P_run48 {K : Int → Int → d_S → Option d_S} {days past : Int} (hT : v_CT t (s.2.1 47 3) L) (hK : v_K s q sold) (hb : v_tb s size edge) (h9 : q.1 < 999) : ∃ s', F_X0_run_j48 t K days past s = K days (d_w (past + 1)) s' ∧ v_R1 t s s' (q.1 + 1, q.2.2.2.2 % 10, (if sold = 0 then v_sf L (q.1 + 1) (q.2.2.2.2 % 10) size q.2.2.1 q.2.2.2.1 edge else q.2.2.1), q.2.2.2.1, (q.2.2.2.2 * 281 + 179) % 30293) size edge sold := by
  obtain ⟨⟨k6, k7, k8, k9, k5, k10⟩, ⟨a, b, c, d, f⟩, hs⟩ := hK
  obtain ⟨s1, hs1⟩ : ∃ z, z = d_si (d_si (d_si s 47 6 (q.1 + 1)) 47 7 (q.2.2.2.2 % 10)) 47 5 ((q.2.2.2.2 * 281 + 179) % 30293) := ⟨_, rfl⟩
  have e47 : s1.1 47 = d_u (d_u (d_u (s.1 47) 6 (q.1 + 1)) 7 (q.2.2.2.2 % 10)) 5 ((q.2.2.2.2 * 281 + 179) % 30293) := by rw [hs1, d_si_i, d_si_i, d_si_i]
  have eo : ∀ x, x ≠ 47 → s1.1 x = s.1 x := fun x hx => by rw [hs1, d_si_n hx, d_si_n hx, d_si_n hx]
  have e2 : s1.2 = s.2 := by rw [hs1]; rfl
  have x6 : s1.1 47 6 = q.1 + 1 := by rw [e47]; rfl
  have x7 : s1.1 47 7 = q.2.2.2.2 % 10 := by rw [e47]; rfl
  have x5 : s1.1 47 5 = (q.2.2.2.2 * 281 + 179) % 30293 := by rw [e47]; rfl
  have x8 : s1.1 47 8 = q.2.2.1 := by rw [e47]; exact k8
  have x9 : s1.1 47 9 = q.2.2.2.1 := by rw [e47]; exact k9
  have x10 : s1.1 47 10 = sold := by rw [e47]; exact k10
  have x4 : s1.1 47 4 = s.1 47 4 := by rw [e47]; rfl
  have hgo : F_X0_run_j48 t K days past s = (if s1.1 47 10 = 0 then d_b2 (F_X0_strawFrom t s1 (s1.1 47 6) (s1.1 47 7) (s1.1 47 8) (s1.1 47 9)) (fun v8 s9 => d_l (d_si s9 47 8 v8) (fun s10 => K days (d_w (past + 1)) s10)) else K days (d_w (past + 1)) s1) := by
    unfold F_X0_run_j48
    simp only [d_l_t]
    rw [k6, d_w_id (by omega) (by omega)]
    have z1 : (d_si s 47 6 (q.1 + 1)).1 47 5 = q.2.2.2.2 := by rw [d_si_i, d_u_n (by decide)]; exact k5
    rw [z1, v_remI (by omega) (by omega) (by decide) (by decide)]
    have z2 : (d_si (d_si s 47 6 (q.1 + 1)) 47 7 (q.2.2.2.2 % 10)).1 47 5 = q.2.2.2.2 := by rw [d_si_i, d_u_n (by decide)]; exact z1
    rw [z2, P_behind f, d_b_t, hs1]
  rw [hgo, x10]
  have hq1 : 0 ≤ q.1 + 1 ∧ q.1 + 1 ≤ 999 := by omega
  have hq2 : 0 ≤ q.2.2.2.2 % 10 ∧ q.2.2.2.2 % 10 ≤ 9 := by omega
  have hq5 : 0 ≤ (q.2.2.2.2 * 281 + 179) % 30293 ∧ (q.2.2.2.2 * 281 + 179) % 30293 < 30293 := by omega
  have hb1 : v_tb s1 size edge := by unfold v_tb; rw [eo 49 (by decide)]; exact hb
  by_cases z : sold = 0
  · rw [if_pos z, if_pos z, x6, x7, x8, x9]
    obtain ⟨s2, g1, g2, g3, g4⟩ := P_strawFrom (day := q.1 + 1) (heat := q.2.2.2.2 % 10) (straw := q.2.2.1) (melted := q.2.2.2.1) (show v_CT t (s1.2.1 47 3) L by rw [e2]; exact hT) hb1 (by omega) (by omega) (by omega) (by omega)
    have hsf := v_sf_b (L := L) (size := size) (edge := edge) (day := q.1 + 1) (heat := q.2.2.2.2 % 10) (melted := q.2.2.2.1) c
    rw [g1, d_b2_t, d_l_t]
    have y47 : ∀ k, k ≠ 8 → (d_si s2 47 8 (v_sf L (q.1 + 1) (q.2.2.2.2 % 10) size q.2.2.1 q.2.2.2.1 edge)).1 47 k = s1.1 47 k := fun k hk => by rw [d_si_i, d_u_n hk, g2 47 (by decide) (by decide)]
    refine ⟨_, rfl, ⟨⟨by rw [y47 6 (by decide)]; exact x6, by rw [y47 7 (by decide)]; exact x7, by rw [d_si_i, d_u_t], by rw [y47 9 (by decide)]; exact x9, by rw [y47 5 (by decide)]; exact x5, by rw [y47 10 (by decide)]; exact x10⟩, ⟨hq1, hq2, hsf, d, hq5⟩, hs⟩, fun x h1 h2 h3 => by rw [d_si_n h1, g2 x h2 h3, eo x h1], g3.trans e2, g4, by rw [y47 4 (by decide)]; exact x4⟩
  · rw [if_neg z, if_neg z]
    exact ⟨s1, rfl, ⟨⟨x6, x7, x8, x9, x5, x10⟩, ⟨hq1, hq2, c, d, hq5⟩, hs⟩, fun x h1 h2 h3 => eo x h1, e2, hb1, x4⟩
theorem v_runl {N : Nat} (hN : N ≤ 100) : ∀ (j k m : Nat), k + j = N → j < m → ∀ (s : d_S) (q : v_T5), v_CT t (s.2.1 47 3) L → v_K s q sold → v_tb s size edge → ∃ s', F_X0_run_l2 t m (N : Int) (k : Int) s = some s' ∧ v_R1 t s s' (v_rn L size edge sold j q) size edge sold := by
  intro j
  induction j with
  | zero =>
    intro k m hk hm s q hT hK hb
    obtain ⟨m, rfl⟩ : ∃ q, m = q + 1 := ⟨m - 1, by omega⟩
    refine ⟨s, ?_, hK, fun _ _ _ _ => rfl, rfl, hb, rfl⟩
    show F_X0_run_l2_b t (F_X0_run_l2 t m) _ _ s = _
    unfold F_X0_run_l2_b
    rw [if_neg (by omega)]
  | succ j ih =>
    intro k m hk hm s q hT hK hb
    obtain ⟨m, rfl⟩ : ∃ q, m = q + 1 := ⟨m - 1, by omega⟩
    have hK' := hK
    obtain ⟨⟨k6, k7, k8, k9, k5, k10⟩, ⟨a, b, c, d, f⟩, hs⟩ := hK'
    show ∃ s', F_X0_run_l2_b t (F_X0_run_l2 t m) _ _ s = _ ∧ _
    unfold F_X0_run_l2_b
    rw [if_pos (by omega), k6]
    simp only [v_rn]
    by_cases h9 : q.1 < 999
    · rw [if_pos h9, if_pos h9, k10]
      have hend : ∀ s1 : d_S, v_CT t (s1.2.1 47 3) L → v_K s1 (q.1, q.2.1, q.2.2.1, (if sold = 0 then v_mf L q.1 q.2.1 size q.2.2.1 q.2.2.2.1 edge else q.2.2.2.1), q.2.2.2.2) sold → v_tb s1 size edge → (∀ a, a ≠ 47 → a ≠ 49 → a ≠ 50 → s1.1 a = s.1 a) → s1.2 = s.2 → s1.1 47 4 = s.1 47 4 → ∃ s', F_X0_run_j48 t (F_X0_run_l2 t m) (N : Int) (k : Int) s1 = some s' ∧ v_R1 t s s' (v_rn L size edge sold j (v_s1 L size edge sold q)) size edge sold := by
        intro s1 hT1 hK1 hb1 ho h2 h4
        obtain ⟨s2, g1, g2⟩ := P_run48 (K := F_X0_run_l2 t m) (days := (N : Int)) (past := (k : Int)) hT1 hK1 hb1 h9
        obtain ⟨s3, r1, r2, r3, r4, r5, r6⟩ := ih (k + 1) m (by omega) (by omega) s2 (v_s1 L size edge sold q) (by rw [g2.2.2.1]; exact hT1) g2.1 g2.2.2.2.1
        refine ⟨s3, ?_, r2, fun a h1 h2 h3 => (r3 a h1 h2 h3).trans ((g2.2.1 a h1 h2 h3).trans (ho a h1 h2 h3)), r4.trans (g2.2.2.1.trans h2), r5, r6.trans (g2.2.2.2.2.trans h4)⟩
        rw [g1, d_w_id (by omega) (by omega)]
        exact r1
      by_cases z : sold = 0
      · rw [if_pos z, k7, k8, k9]
        obtain ⟨s1, g1, g2, g3, g4⟩ := P_meltedFrom (day := q.1) (heat := q.2.1) (straw := q.2.2.1) (melted := q.2.2.2.1) hT hb (by omega) (by omega) (by omega) (by omega)
        have hmf := v_mf_b (L := L) (size := size) (edge := edge) (day := q.1) (heat := q.2.1) (straw := q.2.2.1) d
        rw [g1, d_b2_t, d_l_t]
        have y47 : ∀ k, k ≠ 9 → (d_si s1 47 9 (v_mf L q.1 q.2.1 size q.2.2.1 q.2.2.2.1 edge)).1 47 k = s.1 47 k := fun k hk => by rw [d_si_i, d_u_n hk, g2 47 (by decide) (by decide)]
        refine hend _ (show v_CT t (s1.2.1 47 3) L by rw [g3]; exact hT) ⟨⟨by rw [y47 6 (by decide)]; exact k6, by rw [y47 7 (by decide)]; exact k7, by rw [y47 8 (by decide)]; exact k8, by rw [d_si_i, d_u_t, if_pos z], by rw [y47 5 (by decide)]; exact k5, by rw [y47 10 (by decide)]; exact k10⟩, ⟨a, b, c, by rw [if_pos z]; exact hmf, f⟩, hs⟩ g4 (fun a h1 h2 h3 => by rw [d_si_n h1]; exact g2 a h2 h3) g3 (y47 4 (by decide))
      · rw [if_neg z]
        exact hend s hT ⟨⟨k6, k7, k8, by rw [if_neg z]; exact k9, k5, k10⟩, ⟨a, b, c, by rw [if_neg z]; exact d, f⟩, hs⟩ hb (fun _ _ _ _ => rfl) rfl rfl
    · rw [if_neg h9, if_neg h9]
      exact ⟨s, rfl, hK, fun _ _ _ _ => rfl, rfl, hb, rfl⟩
theorem P_run {n : Nat} (hn : n ≤ 100) (hT : v_CT t (s.2.1 47 3) L) (hK : v_K s q sold) (hb : v_tb s size edge) : ∃ s', F_X0_run t s (n : Int) = some s' ∧ v_R1 t s s' (v_rn L size edge sold n q) size edge sold :=
  v_runl hn n 0 d_N (Nat.zero_add n) (by rw [d_N_is]; omega) s q hT hK hb
end V8
section V9
variable {t : Nat → Option p_C} {s : d_S} {e : Option Nat} {L : v_LR} {u v W H b : Nat} {st me so : Nat → Nat} {day heat x : Int}
theorem P_ruler_fr {s' : d_S} (h3 : s'.1 3 = s.1 3) (h5 : s'.2.1 5 = s.2.1 5) : F_X9_ruler_3 s' = F_X9_ruler_3 s := by
  unfold F_X9_ruler_3 F_X9_textAt_3 F_X9_textAt_3_j30
  rw [h3, h5]
def v_47 (s s' : d_S) : Prop := (∀ a, a ≠ 47 → s'.1 a = s.1 a) ∧ ∀ a, a ≠ 47 → s'.2.1 a = s.2.1 a
theorem v_47.si {k : Nat} {y : Int} {s' : d_S} (h : v_47 s s') : v_47 s (d_si s' 47 k y) := ⟨fun a ha => (d_si_n ha).trans (h.1 a ha), h.2⟩
theorem v_47.sp {k : Nat} {y : Option Nat} {s' : d_S} (h : v_47 s s') : v_47 s (d_sp s' 47 k y) := ⟨h.1, fun a ha => (d_u_n ha).trans (h.2 a ha)⟩
theorem v_Q.fr {s' : d_S} (hQ : v_Q s u v W H) (h : ∀ a, 37 ≤ a → a ≤ 42 → s'.1 a = s.1 a) : v_Q s' u v W H := by
  obtain ⟨h0, hP, h64⟩ := hQ
  refine ⟨by rw [h 37 (by decide) (by decide)]; exact h0, fun j hj => ?_, h64⟩
  rw [h 38 (by decide) (by decide), h 39 (by decide) (by decide), h 40 (by decide) (by decide), h 41 (by decide) (by decide), h 42 (by decide) (by decide)]
  exact hP j hj
def v_Y (s : d_S) (day heat x : Int) : Prop := (s.1 6 3 = day ∧ s.1 6 4 = heat ∧ s.1 6 6 = x) ∧ (0 ≤ day ∧ day ≤ 999) ∧ (0 ≤ heat ∧ heat ≤ 9) ∧ (0 ≤ x ∧ x < 30293)
theorem v_ed_le : v_ed u v W H b ≤ 4 := by
  unfold v_ed
  have h1 := v_n_le (c := v_lf u b = 0)
  have h2 := v_n_le (c := v_up u v b = 0)
  have h3 := v_n_le (c := v_lf u b + v_wd u W b = W)
  have h4 := v_n_le (c := v_up u v b + v_hg u v H b = H)
  omega
theorem P_start (hM : v_M s st me so) (hQ : v_Q s u v W H) (hb : b < v_bl u v) (hE : F_X9_ruler_3 s = some e) (hY : v_Y s day heat x) (hN : v_Nm (s.1 49)) : ∃ s', F_X0_start s (b : Int) = some s' ∧ v_K s' (day, heat, ((st b : Nat) : Int), ((me b : Nat) : Int), x) ((so b : Nat) : Int) ∧ s'.1 47 4 = (b : Int) ∧ s'.2.1 47 3 = e ∧ v_tb s' ((v_sz u v W H b : Nat) : Int) ((v_ed u v W H b : Nat) : Int) ∧ (∀ a, a ≠ 47 → a ≠ 49 → s'.1 a = s.1 a) ∧ ∀ a, a ≠ 47 → s'.2.1 a = s.2.1 a := by
  have h64 := hQ.2.2.1
  have hb64 : b < 64 := by omega
  obtain ⟨-, m1, m2, m3⟩ := hM b hb64
  obtain ⟨⟨y3, y4, y6⟩, yd, yh, yx⟩ := hY
  have f0 : v_47 s s := ⟨fun _ _ => rfl, fun _ _ => rfl⟩
  have f1 := f0.si (k := 4) (y := (b : Int))
  have f3 := f1.sp (k := 3) (y := e)
  have f4 := f3.si (k := 5) (y := x)
  have f5 := f4.si (k := 6) (y := day)
  have f6 := f5.si (k := 7) (y := heat)
  have f8 := f6.si (k := 8) (y := ((st b : Nat) : Int))
  have f10 := f8.si (k := 9) (y := ((me b : Nat) : Int))
  have f12 := f10.si (k := 10) (y := ((so b : Nat) : Int))
  unfold F_X0_start
  rw [d_l_t, P_ruler_fr (f1.1 3 (by decide)) (f1.2 5 (by decide)), hE, d_b_t, d_l_t, f3.1 6 (by decide), y6, d_l_t, f4.1 6 (by decide), y3, d_l_t, f5.1 6 (by decide), y4, d_l_t, P_strawOn (hM.fr (f6.1 7 (by decide))) hb64, d_b_t, d_l_t, P_meltedOf (hM.fr (f8.1 7 (by decide))) hb64, d_b_t, d_l_t, P_isSoldC (hM.fr (f10.1 7 (by decide))) hb64, d_b_t, d_l_t]
  have hQ12 := hQ.fr (fun a h1 h2 => f12.1 a (by omega))
  rw [P_sizeOfC hQ12 hb, d_b_t, P_edgeOfC hQ12 hb, d_b_t]
  obtain ⟨s12, hs12⟩ : ∃ z, z = d_si (d_si (d_si (d_si (d_si (d_si (d_sp (d_si s 47 4 (b : Int)) 47 3 e) 47 5 x) 47 6 day) 47 7 heat) 47 8 ((st b : Nat) : Int)) 47 9 ((me b : Nat) : Int)) 47 10 ((so b : Nat) : Int) := ⟨_, rfl⟩
  have x47 : ∀ k, s12.1 47 k = d_u (d_u (d_u (d_u (d_u (d_u (d_u (s.1 47) 4 (b : Int)) 5 x) 6 day) 7 heat) 8 ((st b : Nat) : Int)) 9 ((me b : Nat) : Int)) 10 ((so b : Nat) : Int) k := by
    intro k; rw [hs12, d_si_i, d_si_i, d_si_i, d_si_i, d_si_i, d_si_i]
    show d_u (d_u (d_u (d_u (d_u (d_u ((d_si s 47 4 (b : Int)).1 47) 5 x) 6 day) 7 heat) 8 _) 9 _) 10 _ k = _
    rw [d_si_i]
  have x3 : s12.2.1 47 3 = e := by rw [hs12]; exact d_sp_t
  rw [← hs12] at f12 ⊢
  have hsz := v_sz_le (u := u) (v := v) (W := W) (H := H) (b := b) hQ.2.2.2.1 hQ.2.2.2.2
  have hed := v_ed_le (u := u) (v := v) (W := W) (H := H) (b := b)
  have e47 : ∀ z1 z2, (d_si (d_si s12 49 3 z1) 49 5 z2).1 47 = s12.1 47 := fun z1 z2 => by rw [d_si_n (by decide), d_si_n (by decide)]
  have e49 : ∀ z1 z2, (d_si (d_si s12 49 3 z1) 49 5 z2).1 49 = d_u (d_u (s.1 49) 3 z1) 5 z2 := fun z1 z2 => by rw [d_si_i, d_si_i, f12.1 49 (by decide)]
  refine ⟨_, rfl, ⟨⟨?_, ?_, ?_, ?_, ?_, ?_⟩, ⟨yd, yh, by show 0 ≤ ((st b : Nat) : Int) ∧ ((st b : Nat) : Int) ≤ 9; omega, by show 0 ≤ ((me b : Nat) : Int) ∧ ((me b : Nat) : Int) ≤ 100; omega, yx⟩, by omega⟩, ?_, x3, ⟨?_, ?_, ?_⟩, fun a h1 h2 => by rw [d_si_n h2, d_si_n h2]; exact f12.1 a h1, f12.2⟩
  · rw [e47, x47]; rfl
  · rw [e47, x47]; rfl
  · rw [e47, x47]; rfl
  · rw [e47, x47]; rfl
  · rw [e47, x47]; rfl
  · rw [e47, x47]; rfl
  · rw [e47, x47]; rfl
  · rw [e49]; rfl
  · rw [e49]; rfl
  · rw [e49]
    exact (hN.u (k := 3) (by omega) (by omega)).u (k := 5) (by omega) (by omega)
def v_nb (L : v_LR) (u v W H : Nat) (day heat x : Int) (st me so : Nat → Nat) (b : Nat) : v_T5 := v_s1 L ((v_sz u v W H b : Nat) : Int) ((v_ed u v W H b : Nat) : Int) ((so b : Nat) : Int) (day, heat, ((st b : Nat) : Int), ((me b : Nat) : Int), x)
def v_nst (L : v_LR) (u v W H : Nat) (day heat x : Int) (st me so : Nat → Nat) (k b : Nat) : Nat := if b < k then (v_nb L u v W H day heat x st me so b).2.2.1.toNat else st b
def v_nme (L : v_LR) (u v W H : Nat) (day heat x : Int) (st me so : Nat → Nat) (k b : Nat) : Nat := if b < k then (v_nb L u v W H day heat x st me so b).2.2.2.1.toNat else me b
def v_d7 (s s' : d_S) : Prop := (∀ a, a ≠ 7 → a ≠ 47 → a ≠ 49 → a ≠ 50 → s'.1 a = s.1 a) ∧ ∀ a, a ≠ 47 → s'.2.1 a = s.2.1 a
theorem v_dayl {K : d_S → Option d_S} (hso : ∀ b, b < 64 → st b ≤ 9 ∧ me b ≤ 100 ∧ so b ≤ 1) (hd9 : day < 999) : ∀ (j k m : Nat), k + j = v_bl u v → j < m → ∀ (s : d_S), v_CT t e L → v_M s (v_nst L u v W H day heat x st me so k) (v_nme L u v W H day heat x st me so k) so → v_Q s u v W H → F_X9_ruler_3 s = some e → v_Y s day heat x → v_Nm (s.1 49) → ∃ s', F_X11_passDay_l10 t K m (k : Int) s = K s' ∧ v_M s' (v_nst L u v W H day heat x st me so (v_bl u v)) (v_nme L u v W H day heat x st me so (v_bl u v)) so ∧ v_d7 s s' ∧ v_Nm (s'.1 49) := by
  intro j
  induction j with
  | zero =>
    intro k m hk hm s hT hM hQ hE hY hN
    obtain ⟨m, rfl⟩ : ∃ q, m = q + 1 := ⟨m - 1, by omega⟩
    have hk : k = v_bl u v := by omega
    subst hk
    refine ⟨s, ?_, hM, ⟨fun _ _ _ _ _ => rfl, fun _ _ => rfl⟩, hN⟩
    show F_X11_passDay_l10_b t K (F_X11_passDay_l10 t K m) _ s = _
    unfold F_X11_passDay_l10_b
    rw [hQ.1, if_neg (by omega)]
  | succ j ih =>
    intro k m hk hm s hT hM hQ hE hY hN
    obtain ⟨m, rfl⟩ : ∃ q, m = q + 1 := ⟨m - 1, by omega⟩
    have hkb : k < v_bl u v := by omega
    have h64 := hQ.2.2.1
    have hk64 : k < 64 := by omega
    obtain ⟨s1, a1, a2, a3, a4, a5, a6, a7⟩ := P_start hM hQ hkb hE hY hN
    have e1 : v_nst L u v W H day heat x st me so k k = st k := if_neg (by omega)
    have e2 : v_nme L u v W H day heat x st me so k k = me k := if_neg (by omega)
    rw [e1, e2] at a2
    obtain ⟨s2, b1, b2, b3, b4, b5, b6⟩ := P_run (n := 1) (by decide) (show v_CT t (s1.2.1 47 3) L by rw [a4]; exact hT) a2 a5
    have hr : v_rn L ((v_sz u v W H k : Nat) : Int) ((v_ed u v W H k : Nat) : Int) ((so k : Nat) : Int) 1 (day, heat, ((st k : Nat) : Int), ((me k : Nat) : Int), x) = v_nb L u v W H day heat x st me so k := by
      simp only [v_rn]
      rw [if_pos hd9]
      rfl
    rw [hr] at b2
    obtain ⟨⟨-, -, c8, c9, -, c10⟩, ⟨-, -, o3, o4, -⟩, -⟩ := b2
    obtain ⟨x', hx⟩ : ∃ z : Nat, (v_nb L u v W H day heat x st me so k).2.2.1 = z := ⟨(v_nb L u v W H day heat x st me so k).2.2.1.toNat, by omega⟩
    obtain ⟨y', hy⟩ : ∃ z : Nat, (v_nb L u v W H day heat x st me so k).2.2.2.1 = z := ⟨(v_nb L u v W H day heat x st me so k).2.2.2.1.toNat, by omega⟩
    have hso1 := (hso k hk64).2.2
    have hp := P_put (s := s2) (b := k) (x := x') (y := y') (z := so k) hk64 (by omega) (by omega) hso1
    have hM2 : v_M s2 (v_nst L u v W H day heat x st me so k) (v_nme L u v W H day heat x st me so k) so := hM.fr (by rw [b3 7 (by decide) (by decide) (by decide), a6 7 (by decide) (by decide)])
    have hM3 := hM2.put (b := k) (x := x') (y := y') (z := so k) (by omega) (by omega) hso1
    have u1 : v_up1 (v_nst L u v W H day heat x st me so k) k x' = v_nst L u v W H day heat x st me so (k + 1) := by
      funext i
      unfold v_up1 v_nst
      by_cases q : i = k
      · subst q; rw [if_pos rfl, if_pos (by omega), hx]; rfl
      · rw [if_neg q]
        by_cases q2 : i < k
        · rw [if_pos q2, if_pos (by omega)]
        · rw [if_neg q2, if_neg (by omega)]
    have u2 : v_up1 (v_nme L u v W H day heat x st me so k) k y' = v_nme L u v W H day heat x st me so (k + 1) := by
      funext i
      unfold v_up1 v_nme
      by_cases q : i = k
      · subst q; rw [if_pos rfl, if_pos (by omega), hy]; rfl
      · rw [if_neg q]
        by_cases q2 : i < k
        · rw [if_pos q2, if_pos (by omega)]
        · rw [if_neg q2, if_neg (by omega)]
    have u3 : v_up1 so k (so k) = so := by
      funext i
      unfold v_up1
      by_cases q : i = k
      · subst q; rw [if_pos rfl]
      · rw [if_neg q]
    rw [u1, u2, u3] at hM3
    obtain ⟨s3, hs3⟩ : ∃ z, z = d_si s2 7 k ((x' + 16 * y' + 2048 * so k : Nat) : Int) := ⟨_, rfl⟩
    rw [← hs3] at hp hM3
    have o : ∀ a, a ≠ 7 → a ≠ 47 → a ≠ 49 → a ≠ 50 → s3.1 a = s.1 a := fun a h1 h2 h3 h4 => by rw [hs3, d_si_n h1, b3 a h2 h3 h4, a6 a h2 h3]
    have o2 : ∀ a, a ≠ 47 → s3.2.1 a = s.2.1 a := fun a ha => by rw [hs3, d_si_2, b4, a7 a ha]
    have hN3 : v_Nm (s3.1 49) := by rw [hs3, d_si_n (by decide)]; exact b5.2.2
    obtain ⟨s', r1, r2, r3, r4⟩ := ih (k + 1) m (by omega) (by omega) s3 hT hM3 (hQ.fr (fun a h1 h2 => o a (by omega) (by omega) (by omega) (by omega))) ((P_ruler_fr (o 3 (by decide) (by decide) (by decide) (by decide)) (o2 5 (by decide))).trans hE) (by unfold v_Y; rw [o 6 (by decide) (by decide) (by decide) (by decide)]; exact hY) hN3
    refine ⟨s', ?_, r2, ⟨fun a h1 h2 h3 h4 => (r3.1 a h1 h2 h3 h4).trans (o a h1 h2 h3 h4), fun a ha => (r3.2 a ha).trans (o2 a ha)⟩, r4⟩
    show F_X11_passDay_l10_b t K (F_X11_passDay_l10 t K m) _ s = _
    unfold F_X11_passDay_l10_b
    rw [hQ.1, if_pos (by omega), a1, d_b_t]
    show d_b (F_X0_run t s1 (1 : Nat)) _ = _
    rw [b1, d_b_t, c8, c9, c10, hx, hy, hp, d_b_t, d_w_id (by omega) (by omega)]
    exact r1
theorem P_passDay (hT : v_CT t e L) (hM : v_M s st me so) (hQ : v_Q s u v W H) (hE : F_X9_ruler_3 s = some e) (hY : v_Y s day heat x) (hN : v_Nm (s.1 49)) (hd9 : day < 999) : ∃ s', F_X11_passDay t s = some s' ∧ v_M s' (v_nst L u v W H day heat x st me so (v_bl u v)) (v_nme L u v W H day heat x st me so (v_bl u v)) so ∧ (∀ a, a ≠ 6 → a ≠ 7 → a ≠ 47 → a ≠ 49 → a ≠ 50 → s'.1 a = s.1 a) ∧ (∀ a, a ≠ 47 → s'.2.1 a = s.2.1 a) ∧ v_Nm (s'.1 49) ∧ v_Y s' (day + 1) (x % 10) ((x * 281 + 179) % 30293) ∧ ∀ k, k ≠ 3 → k ≠ 4 → k ≠ 6 → s'.1 6 k = s.1 6 k := by
  have e1 : v_nst L u v W H day heat x st me so 0 = st := by funext i; exact if_neg (Nat.not_lt_zero i)
  have e2 : v_nme L u v W H day heat x st me so 0 = me := by funext i; exact if_neg (Nat.not_lt_zero i)
  unfold F_X11_passDay
  obtain ⟨s1, r1, r2, r3, r4⟩ := v_dayl (t := t) (e := e) (L := L) (K := fun s_u4 => d_l (d_si s_u4 6 3 (d_w ((s_u4.1 6 3) + 1))) (fun s5 => d_b2 (F_X10_draw_6 s5) (fun v6 s7 => d_l (d_si s7 6 4 (d_rem v6 10)) (fun s8 => some s8)))) (fun b hb => (hM b hb).2) hd9 (v_bl u v) 0 d_N (Nat.zero_add _) (by rw [d_N_is]; have := hQ.2.2.1; omega) s hT (by rw [e1, e2]; exact hM) hQ hE hY hN
  have h6 : s1.1 6 = s.1 6 := r3.1 6 (by decide) (by decide) (by decide) (by decide)
  obtain ⟨⟨y3, y4, y6⟩, yd, yh, yx⟩ := hY
  have hgo : F_X11_passDay_l10 t (fun s_u4 => d_l (d_si s_u4 6 3 (d_w ((s_u4.1 6 3) + 1))) (fun s5 => d_b2 (F_X10_draw_6 s5) (fun v6 s7 => d_l (d_si s7 6 4 (d_rem v6 10)) (fun s8 => some s8)))) d_N 0 s = some (d_si (d_si (d_si s1 6 3 (day + 1)) 6 6 ((x * 281 + 179) % 30293)) 6 4 (x % 10)) := by
    refine r1.trans ?_
    show d_l (d_si s1 6 3 (d_w (s1.1 6 3 + 1))) _ = _
    rw [h6, y3, d_w_id (by omega) (by omega), d_l_t]
    unfold F_X10_draw_6
    have z : (d_si s1 6 3 (day + 1)).1 6 6 = x := by rw [d_si_i, d_u_n (by decide), h6]; exact y6
    rw [z, P_behind yx, d_b_t, d_l_t, d_b2_t, d_l_t, v_remI (by omega) (by omega) (by decide) (by decide)]
  refine ⟨_, hgo, r2.fr (by rw [d_si_n (by decide), d_si_n (by decide), d_si_n (by decide)]), fun a h1 h2 h3 h4 h5 => by rw [d_si_n h1, d_si_n h1, d_si_n h1]; exact r3.1 a h2 h3 h4 h5, r3.2, by rw [d_si_n (by decide), d_si_n (by decide), d_si_n (by decide)]; exact r4, ⟨⟨?_, ?_, ?_⟩, by omega, by omega, by omega⟩, fun k h1 h2 h3 => ?_⟩
  · rw [d_si_i, d_u_n (by decide), d_si_i, d_u_n (by decide), d_si_i, d_u_t]
  · rw [d_si_i, d_u_t]
  · rw [d_si_i, d_u_n (by decide), d_si_i, d_u_t]
  · rw [d_si_i, d_u_n h2, d_si_i, d_u_n h3, d_si_i, d_u_n h1, h6]
end V9

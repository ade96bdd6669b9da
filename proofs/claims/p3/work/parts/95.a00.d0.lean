abbrev d_S : Type := (Nat → Nat → Int) × (Nat → Nat → Option Nat) × (Nat → Int)
def d_u {α : Type} (f : Nat → α) (k : Nat) (v : α) : Nat → α := fun j => if j = k then v else f j
def d_st (s : d_S) (a : Nat) (f : Nat → Int) : d_S := (d_u s.1 a f, s.2)
def d_si (s : d_S) (a k : Nat) (v : Int) : d_S := d_st s a (d_u (s.1 a) k v)
def d_sp (s : d_S) (a k : Nat) (v : Option Nat) : d_S := (s.1, d_u s.2.1 a (d_u (s.2.1 a) k v), s.2.2)
def d_sl (s : d_S) (k : Nat) (v : Int) : d_S := (s.1, s.2.1, d_u s.2.2 k v)
def d_cp (s : d_S) (a p b q n : Nat) : d_S := d_st s b (fun j => if q ≤ j ∧ j < q + n then s.1 a (p + j - q) else s.1 b j)
def d_R (x : Int) : Prop := -2147483648 ≤ x ∧ x ≤ 2147483647
def d_RL (x : Int) : Prop := -9223372036854775808 ≤ x ∧ x ≤ 9223372036854775807
def d_w (x : Int) : Int := (Int32.ofInt x).toInt
def d_W (x : Int) : Int := (Int64.ofInt x).toInt
def d_pv : Option Nat → Value
  | none => .null
  | some a => .ref a
def d_and (a b : Int) : Int := (Int32.ofInt a &&& Int32.ofInt b).toInt
def d_or (a b : Int) : Int := (Int32.ofInt a ||| Int32.ofInt b).toInt
def d_xor (a b : Int) : Int := (Int32.ofInt a ^^^ Int32.ofInt b).toInt
def d_shl (a b : Int) : Int := (Int32.ofInt a <<< (Int32.ofInt b &&& 31)).toInt
def d_shr (a b : Int) : Int := (Int32.ofInt a >>> (Int32.ofInt b &&& 31)).toInt
def d_ushr (a b : Int) : Int := (((Int32.ofInt a).toUInt32 >>> ((Int32.ofInt b).toUInt32 &&& Int32.toUInt32 31)).toInt32).toInt
def d_div (a b : Int) : Int := (Int32.ofInt a / Int32.ofInt b).toInt
def d_rem (a b : Int) : Int := (Int32.ofInt a - Int32.ofInt a / Int32.ofInt b * Int32.ofInt b).toInt
def d_divL (a b : Int) : Int := (Int64.ofInt a / Int64.ofInt b).toInt
def d_remL (a b : Int) : Int := (Int64.ofInt a - Int64.ofInt a / Int64.ofInt b * Int64.ofInt b).toInt
def d_b {α β : Type} (x : Option α) (f : α → Option β) : Option β := match x with
  | none => none
  | some a => f a
def d_b2 {β : Type} (x : Option (Int × d_S)) (f : Int → d_S → Option β) : Option β := match x with
  | none => none
  | some a => f a.1 a.2
def d_g {β : Type} (c : Prop) [Decidable c] (k : Option β) : Option β := if c then k else none
def d_l {α β : Type} (x : α) (f : α → β) : β := f x
theorem d_R_w {x : Int} : d_R (d_w x) := ⟨Int32.le_toInt _, by have := Int32.toInt_lt (Int32.ofInt x); unfold d_w; omega⟩
theorem d_R_t {x : Int32} : d_R x.toInt := ⟨Int32.le_toInt _, by have := Int32.toInt_lt x; omega⟩
theorem d_RL_t {x : Int64} : d_RL x.toInt := ⟨Int64.le_toInt _, by have := Int64.toInt_lt x; omega⟩
theorem d_RL_W {x : Int} : d_RL (d_W x) := d_RL_t
theorem d_ti {x : Int} (h : d_R x) : (Int32.ofInt x).toInt = x := Int32.toInt_ofInt_of_le h.1 (by have := h.2; omega)
theorem d_tiL {x : Int} (h : d_RL x) : (Int64.ofInt x).toInt = x := Int64.toInt_ofInt_of_le h.1 (by have := h.2; omega)
theorem d_w_id {x : Int} (h1 : -2147483648 ≤ x) (h2 : x ≤ 2147483647) : d_w x = x := d_ti ⟨h1, h2⟩
theorem d_wR {x : Int} (h : d_R x) : d_w x = x := d_ti h
theorem d_W_id {x : Int} (h1 : -9223372036854775808 ≤ x) (h2 : x ≤ 9223372036854775807) : d_W x = x := d_tiL ⟨h1, h2⟩
theorem d_oW {x : Int} : Int32.ofInt (d_w x) = Int32.ofInt x := Int32.ofInt_toInt _
theorem d_oWL {x : Int} : Int64.ofInt (d_W x) = Int64.ofInt x := Int64.ofInt_toInt _
theorem d_RL_R {x : Int} (h : d_R x) : d_RL x := by have h1 := h.1; have h2 := h.2; exact ⟨by omega, by omega⟩
theorem d_b_s {α β : Type} {x : Option α} {f : α → Option β} {r : β} (h : d_b x f = some r) : ∃ a, x = some a ∧ f a = some r := by
  cases x with
  | none => cases h
  | some a => exact ⟨a, rfl, h⟩
theorem d_b2_s {β : Type} {x : Option (Int × d_S)} {f : Int → d_S → Option β} {r : β} (h : d_b2 x f = some r) : ∃ v s, x = some (v, s) ∧ f v s = some r := by
  cases x with
  | none => cases h
  | some a => exact ⟨a.1, a.2, rfl, h⟩
theorem d_if {α : Sort _} {c : Prop} [Decidable c] {A B : α} {r : α} {P : Prop} (hF : (if c then A else B) = r) (ht : c → A = r → P) (he : ¬ c → B = r → P) : P := by
  by_cases q : c
  · rw [if_pos q] at hF; exact ht q hF
  · rw [if_neg q] at hF; exact he q hF
theorem d_gd {β : Type} {c : Prop} [Decidable c] {K : Option β} {r : β} {P : Prop} (hF : d_g c K = some r) (hk : c → K = some r → P) : P := by
  unfold d_g at hF
  by_cases q : c
  · rw [if_pos q] at hF; exact hk q hF
  · rw [if_neg q] at hF; cases hF
theorem d_g_t {β : Type} {c : Prop} [Decidable c] {K : Option β} (q : c) : d_g c K = K := if_pos q
theorem d_b_t {α β : Type} {a : α} {f : α → Option β} : d_b (some a) f = f a := rfl
theorem d_b2_t {β : Type} {v : Int} {s : d_S} {f : Int → d_S → Option β} : d_b2 (some (v, s)) f = f v s := rfl
noncomputable def d_N : Nat := Classical.choose (⟨100000, rfl⟩ : ∃ n, n = 100000)
theorem d_N_is : d_N = 100000 := Classical.choose_spec (⟨100000, rfl⟩ : ∃ n, n = 100000)
def d_TL : List (Nat × Nat × Nat × List Nat) := [(9, 9, 0, []), (2, 2, 22, [2]), (0, 11, 10, [8, 25, 42, 48, 52, 56, 61, 66, 67, 68]), (0, 9, 15, [1, 1, 1, 1, 9, 1, 1, 10, 11, 13, 15, 17, 19, 21, 23]), (1, 0, 72, [1]), (1, 4, 4, [4]), (0, 10, 8, [1, 1, 1, 1, 1, 1, 1, 12]), (1, 0, 64, [1]), (0, 6, 3, [14, 1, 1]), (1, 0, 2130, [1]), (0, 8, 3, [1, 16, 1]), (1, 0, 32, [1]), (0, 8, 3, [1, 18, 1]), (1, 0, 32, [1]), (0, 8, 3, [1, 20, 1]), (1, 0, 32, [1]), (0, 8, 3, [1, 22, 1]), (1, 0, 32, [1]), (0, 8, 3, [1, 24, 1]), (1, 0, 32, [1]), (0, 9, 15, [1, 1, 1, 1, 26, 1, 1, 27, 28, 30, 32, 34, 36, 38, 40]), (1, 0, 72, [1]), (1, 4, 4, [4]), (0, 10, 8, [1, 1, 1, 1, 1, 1, 1, 29]), (1, 0, 64, [1]), (0, 6, 3, [31, 1, 1]), (1, 0, 2130, [1]), (0, 8, 3, [1, 33, 1]), (1, 0, 32, [1]), (0, 8, 3, [1, 35, 1]), (1, 0, 32, [1]), (0, 8, 3, [1, 37, 1]), (1, 0, 32, [1]), (0, 8, 3, [1, 39, 1]), (1, 0, 32, [1]), (0, 8, 3, [1, 41, 1]), (1, 0, 32, [1]), (0, 4, 6, [43, 44, 45, 46, 47, 1]), (1, 0, 64, [1]), (1, 0, 64, [1]), (1, 0, 64, [1]), (1, 0, 64, [1]), (1, 0, 64, [1]), (0, 3, 18, [49, 1, 1, 1, 1, 1, 1, 1, 50, 1, 1, 4, 4, 4, 51, 1, 1, 1]), (1, 1, 300, [1]), (1, 0, 168, [1]), (1, 0, 600, [1]), (0, 0, 11, [8, 42, 53, 4, 1, 1, 1, 1, 1, 1, 1]), (0, 1, 2, [54, 55]), (1, 0, 8, [1]), (1, 0, 32, [1]), (0, 2, 5, [52, 57, 58, 59, 60]), (1, 0, 1000, [1]), (1, 0, 100, [1]), (1, 0, 100, [1]), (1, 0, 100, [1]), (0, 5, 8, [8, 42, 52, 62, 63, 64, 65, 1]), (1, 0, 25, [1]), (1, 0, 5, [1]), (1, 0, 5, [1]), (1, 0, 5, [1]), (1, 0, 64, [1]), (1, 0, 16, [1]), (1, 0, 9, [1]), (0, 12, 31, [70, 71, 72, 73, 1, 1, 1, 1, 1, 1, 1, 2, 1, 1, 1, 74, 75, 1, 1, 1, 1, 1, 76, 77, 78, 79, 80, 81, 82, 83, 84]), (1, 0, 2517, [1]), (1, 0, 2517, [1]), (1, 0, 3108, [1]), (1, 0, 300, [1]), (1, 0, 160, [1]), (1, 0, 9, [1]), (1, 0, 8, [1]), (1, 2, 330, [3]), (1, 0, 212, [1]), (1, 3, 64, [1]), (1, 3, 320, [1]), (1, 0, 32, [1]), (1, 0, 5, [1]), (1, 0, 16, [1]), (1, 0, 272, [1])]
def d_tab (a : Nat) : Nat × Nat × Nat × List Nat := d_TL.getD a (9, 9, 0, [])
def d_ty (a k : Nat) : Nat := if Nat.beq (d_tab a).1 0 then (d_tab a).2.2.2.getD k 0 else (d_tab a).2.2.2.getD 0 0
def d_lx (a k : Nat) : Nat := bif Nat.beq a 72 then k else 1000 + k
def d_pl (s : d_S) (a k c : Nat) (v : Value) : Prop := match c with
  | 0 => False
  | 1 => v = .int (Int32.ofInt (s.1 a k))
  | 2 => a = 64 ∧ v = .long (Int64.ofInt (s.2.2 (d_lx a k)))
  | 3 => (a = 72 ∧ k < 330) ∧ v = .long (Int64.ofInt (s.2.2 (d_lx a k)))
  | 4 => v = d_pv (s.2.1 a k)
  | b + 5 => v = .ref b
def d_V (t : Nat → Option p_C) (h : p_H) (s : d_S) : Prop := ((∀ a k, d_R (s.1 a k)) ∧ ∀ k, d_RL (s.2.2 k)) ∧ (∀ a, a ≤ 1 ∨ 80 ≤ a → h[a]? = t a) ∧ (∀ a, 2 ≤ a → a < 80 → ∃ vs, h[a]? = some ((d_tab a).1, (d_tab a).2.1, vs) ∧ vs.length = (d_tab a).2.2.1 ∧ ∀ k, k < vs.length → ∃ v, vs[k]? = some v ∧ d_pl s a k (d_ty a k) v) ∧ ∀ a k x, (a = 5 ∨ a = 22 ∨ a = 47) → s.2.1 a k = some x → 80 ≤ x ∧ ∃ vs, t x = some (0, 7, vs)
def d_ck (a ci k c : Nat) : Bool := Nat.ble 2 a && Nat.ble a 79 && Nat.beq (d_tab a).1 0 && Nat.beq (d_tab a).2.1 ci && Nat.blt k (d_tab a).2.2.1 && Nat.beq (d_ty a k) c
def d_ca (a so ty n c : Nat) : Bool := Nat.ble 2 a && Nat.ble a 79 && Nat.beq (d_tab a).1 so && Nat.beq (d_tab a).2.1 ty && Nat.beq n (d_tab a).2.2.1 && Nat.beq ((d_tab a).2.2.2.getD 0 0) c && !Nat.beq so 0
theorem d_c2_0 : d_ck 2 11 0 8 = true := rfl
theorem d_c2_1 : d_ck 2 11 1 25 = true := rfl
theorem d_c2_2 : d_ck 2 11 2 42 = true := rfl
theorem d_c2_3 : d_ck 2 11 3 48 = true := rfl
theorem d_c2_4 : d_ck 2 11 4 52 = true := rfl
theorem d_c2_5 : d_ck 2 11 5 56 = true := rfl
theorem d_c2_6 : d_ck 2 11 6 61 = true := rfl
theorem d_c2_7 : d_ck 2 11 7 66 = true := rfl
theorem d_c2_8 : d_ck 2 11 8 67 = true := rfl
theorem d_c2_9 : d_ck 2 11 9 68 = true := rfl
theorem d_c3_0 : d_ck 3 9 0 1 = true := rfl
theorem d_c3_1 : d_ck 3 9 1 1 = true := rfl
theorem d_c3_2 : d_ck 3 9 2 1 = true := rfl
theorem d_c3_3 : d_ck 3 9 3 1 = true := rfl
theorem d_c3_4 : d_ck 3 9 4 9 = true := rfl
theorem d_c3_5 : d_ck 3 9 5 1 = true := rfl
theorem d_c3_6 : d_ck 3 9 6 1 = true := rfl
theorem d_c3_7 : d_ck 3 9 7 10 = true := rfl
theorem d_c3_8 : d_ck 3 9 8 11 = true := rfl
theorem d_c3_9 : d_ck 3 9 9 13 = true := rfl
theorem d_c3_10 : d_ck 3 9 10 15 = true := rfl
theorem d_c3_11 : d_ck 3 9 11 17 = true := rfl
theorem d_c3_12 : d_ck 3 9 12 19 = true := rfl
theorem d_c3_13 : d_ck 3 9 13 21 = true := rfl
theorem d_c3_14 : d_ck 3 9 14 23 = true := rfl
theorem d_a4 : d_ca 4 1 0 72 1 = true := rfl
theorem d_a5 : d_ca 5 1 4 4 4 = true := rfl
theorem d_c6_0 : d_ck 6 10 0 1 = true := rfl
theorem d_c6_1 : d_ck 6 10 1 1 = true := rfl
theorem d_c6_2 : d_ck 6 10 2 1 = true := rfl
theorem d_c6_3 : d_ck 6 10 3 1 = true := rfl
theorem d_c6_4 : d_ck 6 10 4 1 = true := rfl
theorem d_c6_5 : d_ck 6 10 5 1 = true := rfl
theorem d_c6_6 : d_ck 6 10 6 1 = true := rfl
theorem d_c6_7 : d_ck 6 10 7 12 = true := rfl
theorem d_a7 : d_ca 7 1 0 64 1 = true := rfl
theorem d_c8_0 : d_ck 8 6 0 14 = true := rfl
theorem d_c8_1 : d_ck 8 6 1 1 = true := rfl
theorem d_c8_2 : d_ck 8 6 2 1 = true := rfl
theorem d_a9 : d_ca 9 1 0 2130 1 = true := rfl
theorem d_c10_0 : d_ck 10 8 0 1 = true := rfl
theorem d_c10_1 : d_ck 10 8 1 16 = true := rfl
theorem d_c10_2 : d_ck 10 8 2 1 = true := rfl
theorem d_a11 : d_ca 11 1 0 32 1 = true := rfl
theorem d_c12_0 : d_ck 12 8 0 1 = true := rfl
theorem d_c12_1 : d_ck 12 8 1 18 = true := rfl
theorem d_c12_2 : d_ck 12 8 2 1 = true := rfl
theorem d_a13 : d_ca 13 1 0 32 1 = true := rfl
theorem d_c14_0 : d_ck 14 8 0 1 = true := rfl
theorem d_c14_1 : d_ck 14 8 1 20 = true := rfl
theorem d_c14_2 : d_ck 14 8 2 1 = true := rfl
theorem d_a15 : d_ca 15 1 0 32 1 = true := rfl
theorem d_c16_0 : d_ck 16 8 0 1 = true := rfl
theorem d_c16_1 : d_ck 16 8 1 22 = true := rfl
theorem d_c16_2 : d_ck 16 8 2 1 = true := rfl
theorem d_a17 : d_ca 17 1 0 32 1 = true := rfl
theorem d_c18_0 : d_ck 18 8 0 1 = true := rfl
theorem d_c18_1 : d_ck 18 8 1 24 = true := rfl
theorem d_c18_2 : d_ck 18 8 2 1 = true := rfl
theorem d_a19 : d_ca 19 1 0 32 1 = true := rfl
theorem d_c20_0 : d_ck 20 9 0 1 = true := rfl
theorem d_c20_1 : d_ck 20 9 1 1 = true := rfl
theorem d_c20_2 : d_ck 20 9 2 1 = true := rfl
theorem d_c20_3 : d_ck 20 9 3 1 = true := rfl
theorem d_c20_4 : d_ck 20 9 4 26 = true := rfl
theorem d_c20_5 : d_ck 20 9 5 1 = true := rfl
theorem d_c20_6 : d_ck 20 9 6 1 = true := rfl
theorem d_c20_7 : d_ck 20 9 7 27 = true := rfl
theorem d_c20_8 : d_ck 20 9 8 28 = true := rfl
theorem d_c20_9 : d_ck 20 9 9 30 = true := rfl
theorem d_c20_10 : d_ck 20 9 10 32 = true := rfl
theorem d_c20_11 : d_ck 20 9 11 34 = true := rfl
theorem d_c20_12 : d_ck 20 9 12 36 = true := rfl
theorem d_c20_13 : d_ck 20 9 13 38 = true := rfl
theorem d_c20_14 : d_ck 20 9 14 40 = true := rfl
theorem d_a21 : d_ca 21 1 0 72 1 = true := rfl
theorem d_a22 : d_ca 22 1 4 4 4 = true := rfl
theorem d_c23_0 : d_ck 23 10 0 1 = true := rfl
theorem d_c23_1 : d_ck 23 10 1 1 = true := rfl
theorem d_c23_2 : d_ck 23 10 2 1 = true := rfl
theorem d_c23_3 : d_ck 23 10 3 1 = true := rfl
theorem d_c23_4 : d_ck 23 10 4 1 = true := rfl
theorem d_c23_5 : d_ck 23 10 5 1 = true := rfl
theorem d_c23_6 : d_ck 23 10 6 1 = true := rfl
theorem d_c23_7 : d_ck 23 10 7 29 = true := rfl
theorem d_a24 : d_ca 24 1 0 64 1 = true := rfl
theorem d_c25_0 : d_ck 25 6 0 31 = true := rfl
theorem d_c25_1 : d_ck 25 6 1 1 = true := rfl
theorem d_c25_2 : d_ck 25 6 2 1 = true := rfl
theorem d_a26 : d_ca 26 1 0 2130 1 = true := rfl
theorem d_c27_0 : d_ck 27 8 0 1 = true := rfl
theorem d_c27_1 : d_ck 27 8 1 33 = true := rfl
theorem d_c27_2 : d_ck 27 8 2 1 = true := rfl
theorem d_a28 : d_ca 28 1 0 32 1 = true := rfl
theorem d_c29_0 : d_ck 29 8 0 1 = true := rfl
theorem d_c29_1 : d_ck 29 8 1 35 = true := rfl
theorem d_c29_2 : d_ck 29 8 2 1 = true := rfl
theorem d_a30 : d_ca 30 1 0 32 1 = true := rfl
theorem d_c31_0 : d_ck 31 8 0 1 = true := rfl
theorem d_c31_1 : d_ck 31 8 1 37 = true := rfl
theorem d_c31_2 : d_ck 31 8 2 1 = true := rfl
theorem d_a32 : d_ca 32 1 0 32 1 = true := rfl
theorem d_c33_0 : d_ck 33 8 0 1 = true := rfl
theorem d_c33_1 : d_ck 33 8 1 39 = true := rfl
theorem d_c33_2 : d_ck 33 8 2 1 = true := rfl
theorem d_a34 : d_ca 34 1 0 32 1 = true := rfl
theorem d_c35_0 : d_ck 35 8 0 1 = true := rfl
theorem d_c35_1 : d_ck 35 8 1 41 = true := rfl
theorem d_c35_2 : d_ck 35 8 2 1 = true := rfl
theorem d_a36 : d_ca 36 1 0 32 1 = true := rfl
theorem d_c37_0 : d_ck 37 4 0 43 = true := rfl
theorem d_c37_1 : d_ck 37 4 1 44 = true := rfl
theorem d_c37_2 : d_ck 37 4 2 45 = true := rfl
theorem d_c37_3 : d_ck 37 4 3 46 = true := rfl
theorem d_c37_4 : d_ck 37 4 4 47 = true := rfl
theorem d_c37_5 : d_ck 37 4 5 1 = true := rfl
theorem d_a38 : d_ca 38 1 0 64 1 = true := rfl
theorem d_a39 : d_ca 39 1 0 64 1 = true := rfl
theorem d_a40 : d_ca 40 1 0 64 1 = true := rfl
theorem d_a41 : d_ca 41 1 0 64 1 = true := rfl
theorem d_a42 : d_ca 42 1 0 64 1 = true := rfl
theorem d_c43_0 : d_ck 43 3 0 49 = true := rfl
theorem d_c43_1 : d_ck 43 3 1 1 = true := rfl
theorem d_c43_2 : d_ck 43 3 2 1 = true := rfl
theorem d_c43_3 : d_ck 43 3 3 1 = true := rfl
theorem d_c43_4 : d_ck 43 3 4 1 = true := rfl
theorem d_c43_5 : d_ck 43 3 5 1 = true := rfl
theorem d_c43_6 : d_ck 43 3 6 1 = true := rfl
theorem d_c43_7 : d_ck 43 3 7 1 = true := rfl
theorem d_c43_8 : d_ck 43 3 8 50 = true := rfl
theorem d_c43_9 : d_ck 43 3 9 1 = true := rfl
theorem d_c43_10 : d_ck 43 3 10 1 = true := rfl
theorem d_c43_11 : d_ck 43 3 11 4 = true := rfl
theorem d_c43_12 : d_ck 43 3 12 4 = true := rfl
theorem d_c43_13 : d_ck 43 3 13 4 = true := rfl
theorem d_c43_14 : d_ck 43 3 14 51 = true := rfl
theorem d_c43_15 : d_ck 43 3 15 1 = true := rfl
theorem d_c43_16 : d_ck 43 3 16 1 = true := rfl
theorem d_c43_17 : d_ck 43 3 17 1 = true := rfl
theorem d_a44 : d_ca 44 1 1 300 1 = true := rfl
theorem d_a45 : d_ca 45 1 0 168 1 = true := rfl
theorem d_a46 : d_ca 46 1 0 600 1 = true := rfl
theorem d_c47_0 : d_ck 47 0 0 8 = true := rfl
theorem d_c47_1 : d_ck 47 0 1 42 = true := rfl
theorem d_c47_2 : d_ck 47 0 2 53 = true := rfl
theorem d_c47_3 : d_ck 47 0 3 4 = true := rfl
theorem d_c47_4 : d_ck 47 0 4 1 = true := rfl
theorem d_c47_5 : d_ck 47 0 5 1 = true := rfl
theorem d_c47_6 : d_ck 47 0 6 1 = true := rfl
theorem d_c47_7 : d_ck 47 0 7 1 = true := rfl
theorem d_c47_8 : d_ck 47 0 8 1 = true := rfl
theorem d_c47_9 : d_ck 47 0 9 1 = true := rfl
theorem d_c47_10 : d_ck 47 0 10 1 = true := rfl
theorem d_c48_0 : d_ck 48 1 0 54 = true := rfl
theorem d_c48_1 : d_ck 48 1 1 55 = true := rfl
theorem d_a49 : d_ca 49 1 0 8 1 = true := rfl
theorem d_a50 : d_ca 50 1 0 32 1 = true := rfl
theorem d_c51_0 : d_ck 51 2 0 52 = true := rfl
theorem d_c51_1 : d_ck 51 2 1 57 = true := rfl
theorem d_c51_2 : d_ck 51 2 2 58 = true := rfl
theorem d_c51_3 : d_ck 51 2 3 59 = true := rfl
theorem d_c51_4 : d_ck 51 2 4 60 = true := rfl
theorem d_a52 : d_ca 52 1 0 1000 1 = true := rfl
theorem d_a53 : d_ca 53 1 0 100 1 = true := rfl
theorem d_a54 : d_ca 54 1 0 100 1 = true := rfl
theorem d_a55 : d_ca 55 1 0 100 1 = true := rfl
theorem d_c56_0 : d_ck 56 5 0 8 = true := rfl
theorem d_c56_1 : d_ck 56 5 1 42 = true := rfl
theorem d_c56_2 : d_ck 56 5 2 52 = true := rfl
theorem d_c56_3 : d_ck 56 5 3 62 = true := rfl
theorem d_c56_4 : d_ck 56 5 4 63 = true := rfl
theorem d_c56_5 : d_ck 56 5 5 64 = true := rfl
theorem d_c56_6 : d_ck 56 5 6 65 = true := rfl
theorem d_c56_7 : d_ck 56 5 7 1 = true := rfl
theorem d_a57 : d_ca 57 1 0 25 1 = true := rfl
theorem d_a58 : d_ca 58 1 0 5 1 = true := rfl
theorem d_a59 : d_ca 59 1 0 5 1 = true := rfl
theorem d_a60 : d_ca 60 1 0 5 1 = true := rfl
theorem d_a61 : d_ca 61 1 0 64 1 = true := rfl
theorem d_a62 : d_ca 62 1 0 16 1 = true := rfl
theorem d_a63 : d_ca 63 1 0 9 1 = true := rfl
theorem d_c64_0 : d_ck 64 12 0 70 = true := rfl
theorem d_c64_1 : d_ck 64 12 1 71 = true := rfl
theorem d_c64_2 : d_ck 64 12 2 72 = true := rfl
theorem d_c64_3 : d_ck 64 12 3 73 = true := rfl
theorem d_c64_4 : d_ck 64 12 4 1 = true := rfl
theorem d_c64_5 : d_ck 64 12 5 1 = true := rfl
theorem d_c64_6 : d_ck 64 12 6 1 = true := rfl
theorem d_c64_7 : d_ck 64 12 7 1 = true := rfl
theorem d_c64_8 : d_ck 64 12 8 1 = true := rfl
theorem d_c64_9 : d_ck 64 12 9 1 = true := rfl
theorem d_c64_10 : d_ck 64 12 10 1 = true := rfl
theorem d_c64_11 : d_ck 64 12 11 2 = true := rfl
theorem d_c64_12 : d_ck 64 12 12 1 = true := rfl
theorem d_c64_13 : d_ck 64 12 13 1 = true := rfl
theorem d_c64_14 : d_ck 64 12 14 1 = true := rfl
theorem d_c64_15 : d_ck 64 12 15 74 = true := rfl
theorem d_c64_16 : d_ck 64 12 16 75 = true := rfl
theorem d_c64_17 : d_ck 64 12 17 1 = true := rfl
theorem d_c64_18 : d_ck 64 12 18 1 = true := rfl
theorem d_c64_19 : d_ck 64 12 19 1 = true := rfl
theorem d_c64_20 : d_ck 64 12 20 1 = true := rfl
theorem d_c64_21 : d_ck 64 12 21 1 = true := rfl
theorem d_c64_22 : d_ck 64 12 22 76 = true := rfl
theorem d_c64_23 : d_ck 64 12 23 77 = true := rfl
theorem d_c64_24 : d_ck 64 12 24 78 = true := rfl
theorem d_c64_25 : d_ck 64 12 25 79 = true := rfl
theorem d_c64_26 : d_ck 64 12 26 80 = true := rfl
theorem d_c64_27 : d_ck 64 12 27 81 = true := rfl
theorem d_c64_28 : d_ck 64 12 28 82 = true := rfl
theorem d_c64_29 : d_ck 64 12 29 83 = true := rfl
theorem d_c64_30 : d_ck 64 12 30 84 = true := rfl
theorem d_a65 : d_ca 65 1 0 2517 1 = true := rfl
theorem d_a66 : d_ca 66 1 0 2517 1 = true := rfl
theorem d_a67 : d_ca 67 1 0 3108 1 = true := rfl
theorem d_a68 : d_ca 68 1 0 300 1 = true := rfl
theorem d_a69 : d_ca 69 1 0 160 1 = true := rfl
theorem d_a70 : d_ca 70 1 0 9 1 = true := rfl
theorem d_a71 : d_ca 71 1 0 8 1 = true := rfl
theorem d_a72 : d_ca 72 1 2 330 3 = true := rfl
theorem d_a73 : d_ca 73 1 0 212 1 = true := rfl
theorem d_a74 : d_ca 74 1 3 64 1 = true := rfl
theorem d_a75 : d_ca 75 1 3 320 1 = true := rfl
theorem d_a76 : d_ca 76 1 0 32 1 = true := rfl
theorem d_a77 : d_ca 77 1 0 5 1 = true := rfl
theorem d_a78 : d_ca 78 1 0 16 1 = true := rfl
theorem d_a79 : d_ca 79 1 0 272 1 = true := rfl
section DV
variable {t : Nat → Option p_C} {h : p_H} {s : d_S} {a k ci c so ty n : Nat}
theorem d_V.r (hH : d_V t h s) {a k : Nat} : d_R (s.1 a k) := hH.1.1 a k
theorem d_V.rl (hH : d_V t h s) {k : Nat} : d_RL (s.2.2 k) := hH.1.2 k
theorem d_V.obj (hH : d_V t h s) (hc : d_ck a ci k c = true) : ∃ vs, h[a]? = some (0, ci, vs) ∧ vs.length = (d_tab a).2.2.1 ∧ k < vs.length ∧ ∃ v, vs[k]? = some v ∧ d_pl s a k c v := by
  simp only [d_ck, Bool.and_eq_true] at hc
  obtain ⟨⟨⟨⟨⟨c1, c2⟩, c3⟩, c4⟩, c5⟩, c6⟩ := hc
  have h1 := Nat.le_of_ble_eq_true c1
  have h2 := Nat.le_of_ble_eq_true c2
  have h5 : k < (d_tab a).2.2.1 := Nat.le_of_ble_eq_true c5
  obtain ⟨vs, e1, e2, e3⟩ := hH.2.2.1 a h1 (by omega)
  rw [Nat.eq_of_beq_eq_true c3, Nat.eq_of_beq_eq_true c4] at e1
  obtain ⟨v, v1, v2⟩ := e3 k (by rw [e2]; exact h5)
  rw [Nat.eq_of_beq_eq_true c6] at v2
  exact ⟨vs, e1, e2, by rw [e2]; exact h5, v, v1, v2⟩
theorem d_V.arr (hH : d_V t h s) (hc : d_ca a so ty n c = true) : ∃ vs, h[a]? = some (so, ty, vs) ∧ vs.length = n ∧ ∀ k, k < n → ∃ v, vs[k]? = some v ∧ d_pl s a k c v := by
  simp only [d_ca, Bool.and_eq_true, Bool.not_eq_true'] at hc
  obtain ⟨⟨⟨⟨⟨⟨c1, c2⟩, c3⟩, c4⟩, c5⟩, c6⟩, c7⟩ := hc
  have h1 := Nat.le_of_ble_eq_true c1
  have h2 := Nat.le_of_ble_eq_true c2
  have h3 := Nat.eq_of_beq_eq_true c3
  have h5 := Nat.eq_of_beq_eq_true c5
  obtain ⟨vs, e1, e2, e3⟩ := hH.2.2.1 a h1 (by omega)
  rw [h3, Nat.eq_of_beq_eq_true c4] at e1
  refine ⟨vs, e1, by rw [e2, h5], fun k hk => ?_⟩
  obtain ⟨v, v1, v2⟩ := e3 k (by rw [e2, ← h5]; exact hk)
  refine ⟨v, v1, ?_⟩
  have : d_ty a k = c := by
    unfold d_ty
    rw [h3, c7]
    exact Nat.eq_of_beq_eq_true c6
  rw [this] at v2
  exact v2
theorem d_u_t {α : Type} {f : Nat → α} {k : Nat} {v : α} : d_u f k v k = v := if_pos rfl
theorem d_u_n {α : Type} {f : Nat → α} {j k : Nat} {v : α} (h : j ≠ k) : d_u f k v j = f j := if_neg h
theorem d_pl_o {s' : d_S} {k' : Nat} {v : Value} (h1 : s'.1 a k' = s.1 a k') (h2 : s'.2.1 a k' = s.2.1 a k') (h3 : ((a = 72 ∧ k' < 330) ∨ a = 64) → s'.2.2 (d_lx a k') = s.2.2 (d_lx a k')) (hv : d_pl s a k' c v) : d_pl s' a k' c v := by
  match c, hv with
  | 0, hv => exact hv
  | 1, hv => simp only [d_pl] at hv ⊢; rw [h1]; exact hv
  | 2, hv => simp only [d_pl] at hv ⊢; exact ⟨hv.1, by rw [h3 (Or.inr hv.1)]; exact hv.2⟩
  | 3, hv => simp only [d_pl] at hv ⊢; exact ⟨hv.1, by rw [h3 (Or.inl hv.1)]; exact hv.2⟩
  | 4, hv => simp only [d_pl] at hv ⊢; rw [h2]; exact hv
  | c + 5, hv => exact hv
theorem d_V.set (hH : d_V t h s) {s' : d_S} {v : Value} {vs : List Value} (h1 : 2 ≤ a) (h2 : a < 80) (hc : h[a]? = some (so, ty, vs)) (hr : (∀ b j, d_R (s'.1 b j)) ∧ ∀ j, d_RL (s'.2.2 j)) (ho : ∀ b j, (b ≠ a ∨ j ≠ k) → s'.1 b j = s.1 b j ∧ s'.2.1 b j = s.2.1 b j ∧ (((b = 72 ∧ j < 330) ∨ b = 64) → s'.2.2 (d_lx b j) = s.2.2 (d_lx b j))) (hv : d_pl s' a k (d_ty a k) v) (ht : ∀ x, (a = 5 ∨ a = 22 ∨ a = 47) → s'.2.1 a k = some x → 80 ≤ x ∧ ∃ vs, t x = some (0, 7, vs)) : d_V t (h.set a (so, ty, vs.set k v)) s' := by
  obtain ⟨-, g2, g3, g4⟩ := hH
  refine ⟨hr, fun b hb => ?_, fun b b1 b2 => ?_, fun b j x hb hx => ?_⟩
  · rw [List.getElem?_set_ne (by omega)]; exact g2 b hb
  · by_cases q : b = a
    · subst q
      obtain ⟨ws, e1, e2, e3⟩ := g3 b b1 b2
      rw [hc] at e1
      obtain ⟨q1, q2, q3⟩ : so = (d_tab b).1 ∧ ty = (d_tab b).2.1 ∧ vs = ws := by
        have := Option.some.inj e1
        injection this with z1 z2
        injection z2 with z2 z3
        exact ⟨z1, z2, z3⟩
      subst q3
      refine ⟨vs.set k v, by rw [List.getElem?_set_self (List.getElem?_eq_some_iff.mp hc).1, q1, q2], by rw [List.length_set, e2], fun j hj => ?_⟩
      rw [List.length_set] at hj
      by_cases w : k = j
      · subst w
        exact ⟨v, List.getElem?_set_self hj, hv⟩
      · obtain ⟨u, u1, u2⟩ := e3 j hj
        obtain ⟨o1, o2, o3⟩ := ho b j (Or.inr (fun z => w z.symm))
        exact ⟨u, by rw [List.getElem?_set_ne w]; exact u1, d_pl_o o1 o2 o3 u2⟩
    · obtain ⟨ws, e1, e2, e3⟩ := g3 b b1 b2
      refine ⟨ws, by rw [List.getElem?_set_ne (fun z => q z.symm)]; exact e1, e2, fun j hj => ?_⟩
      obtain ⟨u, u1, u2⟩ := e3 j hj
      obtain ⟨o1, o2, o3⟩ := ho b j (Or.inl q)
      exact ⟨u, u1, d_pl_o o1 o2 o3 u2⟩
  · by_cases q : b = a ∧ j = k
    · obtain ⟨rfl, rfl⟩ := q
      exact ht x hb hx
    · obtain ⟨o1, o2, -⟩ := ho b j (by omega)
      rw [o2] at hx
      exact g4 b j x hb hx
theorem d_si_o {v : Int} {b j : Nat} (h : b ≠ a ∨ j ≠ k) : (d_si s a k v).1 b j = s.1 b j ∧ (d_si s a k v).2.1 b j = s.2.1 b j ∧ (((b = 72 ∧ j < 330) ∨ b = 64) → (d_si s a k v).2.2 (d_lx b j) = s.2.2 (d_lx b j)) := by
  refine ⟨?_, rfl, fun _ => rfl⟩
  unfold d_si d_st
  simp only
  by_cases q : b = a
  · subst q
    rw [d_u_t, d_u_n (by omega)]
  · rw [d_u_n q]
theorem d_si_t {v : Int} : (d_si s a k v).1 a k = v := by
  unfold d_si d_st
  simp only
  rw [d_u_t, d_u_t]
theorem d_si_r {v : Int} (hr : (∀ b j, d_R (s.1 b j)) ∧ ∀ j, d_RL (s.2.2 j)) (hv : d_R v) : (∀ b j, d_R ((d_si s a k v).1 b j)) ∧ ∀ j, d_RL ((d_si s a k v).2.2 j) := by
  refine ⟨fun b j => ?_, hr.2⟩
  by_cases q : b = a ∧ j = k
  · obtain ⟨rfl, rfl⟩ := q
    rw [d_si_t]; exact hv
  · rw [(d_si_o (by omega)).1]; exact hr.1 b j
theorem d_sp_o {v : Option Nat} {b j : Nat} (h : b ≠ a ∨ j ≠ k) : (d_sp s a k v).1 b j = s.1 b j ∧ (d_sp s a k v).2.1 b j = s.2.1 b j ∧ (((b = 72 ∧ j < 330) ∨ b = 64) → (d_sp s a k v).2.2 (d_lx b j) = s.2.2 (d_lx b j)) := by
  refine ⟨rfl, ?_, fun _ => rfl⟩
  unfold d_sp
  simp only
  by_cases q : b = a
  · subst q
    rw [d_u_t, d_u_n (by omega)]
  · rw [d_u_n q]
theorem d_sp_t {v : Option Nat} : (d_sp s a k v).2.1 a k = v := by
  unfold d_sp
  simp only
  rw [d_u_t, d_u_t]
end DV

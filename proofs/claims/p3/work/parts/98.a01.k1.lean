abbrev s_E : Type := Lean.RArray Int
abbrev s_V : Type := Int ⊕ (Nat × s_E)
abbrev s_F : Type := List (s_E × Int × Int)
abbrev s_A : Type := Nat × Nat × Nat × Lean.RArray s_V
abbrev s_H : Type := Lean.RArray s_A × Nat × Nat
abbrev s_L : Type := List s_V
abbrev s_T : Type := s_F → s_H → s_L → s_L → Bool
abbrev s_K : Type := s_F → s_H → s_V → Bool
abbrev s_J : Type := Nat → s_T
abbrev s_CC : Type := Nat → s_L → Nat → s_F → s_H → s_K → Bool
abbrev s_D : Type := p_M → Nat → s_T → s_J → s_CC → s_K → s_T
noncomputable def s_and (c k : Bool) : Bool := Bool.rec (motive := fun _ => Bool) false k c
noncomputable def s_if (c a b : Bool) : Bool := Bool.rec (motive := fun _ => Bool) b a c
noncomputable def s_t (v : s_V) : Nat := Sum.rec (motive := fun _ => Nat) (fun _ => 1) (fun q => q.1) v
noncomputable def s_x (v : s_V) : s_E := Sum.rec (motive := fun _ => s_E) (fun z => .leaf z) (fun q => q.2) v
def s_u : s_V := .inr (0, .leaf 0)
noncomputable def s_p1 (S : s_L) (k : s_V → s_L → Bool) : Bool := List.rec (motive := fun _ => Bool) false (fun a r _ => k a r) S
noncomputable def s_p2' (k : s_V → s_V → s_L → Bool) (a : s_V) (r : s_L) : Bool := List.rec (motive := fun _ => Bool) false (fun b r _ => k a b r) r
noncomputable def s_p2 (S : s_L) (k : s_V → s_V → s_L → Bool) : Bool := List.rec (motive := fun _ => Bool) false (fun a r _ => s_p2' k a r) S
noncomputable def s_fn (k : Nat → Bool) (n : Nat) : Bool := Nat.rec (motive := fun _ => Bool) (k 0) (fun m _ => k (Nat.succ m)) n
noncomputable def s_fn0 (k : Int → Bool) (n : Nat) : Bool := Nat.rec (motive := fun _ => Bool) (k (Int.ofNat 0)) (fun m _ => k (Int.ofNat (Nat.succ m))) n
noncomputable def s_fn1 (k : Int → Bool) (n : Nat) : Bool := Nat.rec (motive := fun _ => Bool) (k (Int.negSucc 0)) (fun m _ => k (Int.negSucc (Nat.succ m))) n
noncomputable def s_fz (z : Int) (k : Int → Bool) : Bool := Int.rec (motive := fun _ => Bool) (s_fn0 k) (s_fn1 k) z
noncomputable def s_w2 (z : Int) (k : Int → Bool) : Bool := s_fz (Int32.ofInt z).toInt k
noncomputable def s_w0 (k : Int → Bool) (n : Nat) : Bool := s_if (Nat.ble n 2147483647) (s_fn0 k n) (s_w2 (Int.ofNat n) k)
noncomputable def s_w1 (k : Int → Bool) (n : Nat) : Bool := s_if (Nat.ble n 2147483647) (s_fn1 k n) (s_w2 (Int.negSucc n) k)
noncomputable def s_w (z : Int) (k : Int → Bool) : Bool := Int.rec (motive := fun _ => Bool) (s_w0 k) (s_w1 k) z
noncomputable def s_cadd (x y : Int) : Int := Int.rec (motive := fun _ => Int) (fun a => Int.rec (motive := fun _ => Int) (fun b => Int.ofNat (Nat.add a b)) (fun _ => Int.add x y) y) (fun _ => Int.add x y) x
noncomputable def s_csub (x y : Int) : Int := Int.rec (motive := fun _ => Int) (fun a => Int.rec (motive := fun _ => Int) (fun b => Bool.rec (motive := fun _ => Int) (Int.sub x y) (Int.ofNat (Nat.sub a b)) (Nat.ble b a)) (fun _ => Int.sub x y) y) (fun _ => Int.sub x y) x
noncomputable def s_cmul (x y : Int) : Int := Int.rec (motive := fun _ => Int) (fun a => Int.rec (motive := fun _ => Int) (fun b => Int.ofNat (Nat.mul a b)) (fun _ => Int.mul x y) y) (fun _ => Int.mul x y) x
def s_kand (x y : Int) : Int := (Int32.ofInt x &&& Int32.ofInt y).toInt
def s_kor (x y : Int) : Int := (Int32.ofInt x ||| Int32.ofInt y).toInt
def s_kxor (x y : Int) : Int := (Int32.ofInt x ^^^ Int32.ofInt y).toInt
def s_kshl (x y : Int) : Int := (Int32.ofInt x <<< (Int32.ofInt y &&& 31)).toInt
def s_kshr (x y : Int) : Int := (Int32.ofInt x >>> (Int32.ofInt y &&& 31)).toInt
def s_kdiv (x y : Int) : Int := (Int32.ofInt x / Int32.ofInt y).toInt
def s_krem (x y : Int) : Int := (Int32.ofInt x - Int32.ofInt x / Int32.ofInt y * Int32.ofInt y).toInt
noncomputable def s_nn (f : Nat → Nat → Nat) (k : Int → Int → Int) (x y : Int) : Int := Int.rec (motive := fun _ => Int) (fun a => Int.rec (motive := fun _ => Int) (fun b => Int.ofNat (f a b)) (fun _ => k x y) y) (fun _ => k x y) x
noncomputable def s_cand (x y : Int) : Int := s_nn Nat.land s_kand x y
noncomputable def s_cor (x y : Int) : Int := s_nn Nat.lor s_kor x y
noncomputable def s_cxor (x y : Int) : Int := s_kxor x y
noncomputable def s_cdiv (x y : Int) : Int := s_nn Nat.div s_kdiv x y
noncomputable def s_crem (x y : Int) : Int := s_nn Nat.mod s_krem x y
noncomputable def s_cshl (x y : Int) : Int := Int.rec (motive := fun _ => Int) (fun b => Bool.rec (motive := fun _ => Int) (s_kshl x y) (s_cmul x (Int.ofNat (Nat.pow 2 b))) (Nat.ble b 31)) (fun _ => s_kshl x y) y
noncomputable def s_shr' (x y : Int) (a b : Nat) : Int := Bool.rec (motive := fun _ => Int) (s_kshr x y) (Int.ofNat (Nat.shiftRight a b)) (Nat.ble b 31)
noncomputable def s_cshr (x y : Int) : Int := Int.rec (motive := fun _ => Int) (fun a => Int.rec (motive := fun _ => Int) (fun b => s_shr' x y a b) (fun _ => s_kshr x y) y) (fun _ => s_kshr x y) x
def s_cushr (x y : Int) : Int := ((Int32.ofInt x).toUInt32 >>> ((Int32.ofInt y).toUInt32 &&& Int32.toUInt32 31)).toInt32.toInt
def s_ci2b (x _ : Int) : Int := (Int32.ofInt x).toInt8.toInt32.toInt
def s_cneg (x _ : Int) : Int := (-(Int32.ofInt x)).toInt
noncomputable def s_eqz (x y : Int) : Bool := Int.rec (motive := fun _ => Bool) (fun a => Int.rec (motive := fun _ => Bool) (fun b => Nat.beq a b) (fun _ => false) y) (fun a => Int.rec (motive := fun _ => Bool) (fun _ => false) (fun b => Nat.beq a b) y) x
noncomputable def s_ltz (x y : Int) : Bool := Int.rec (motive := fun _ => Bool) (fun a => Int.rec (motive := fun _ => Bool) (fun b => Nat.ble (Nat.succ a) b) (fun _ => false) y) (fun a => Int.rec (motive := fun _ => Bool) (fun _ => true) (fun b => Nat.ble (Nat.succ b) a) y) x
noncomputable def s_nez (x y : Int) : Bool := s_if (s_eqz x y) false true
noncomputable def s_gez (x y : Int) : Bool := s_if (s_ltz x y) false true
noncomputable def s_gtz (x y : Int) : Bool := s_ltz y x
noncomputable def s_lez (x y : Int) : Bool := s_if (s_ltz y x) false true
noncomputable def s_cf (c : ClassFile.Cond) : Int → Int → Bool := ClassFile.Cond.rec (motive := fun _ => Int → Int → Bool) s_eqz s_nez s_ltz s_gez s_gtz s_lez c
noncomputable def s_nth' (K : s_V → Bool) (a : s_V) (ih : Nat → Bool) (k : Nat) : Bool := Nat.rec (motive := fun _ => Bool) (K a) (fun k' _ => ih k') k
noncomputable def s_nth (L : s_L) (k : Nat) (K : s_V → Bool) : Bool := List.rec (motive := fun _ => Nat → Bool) (fun _ => false) (fun a _ ih => s_nth' K a ih) L k
noncomputable def s_long (t : Nat) : Bool := s_if (Nat.beq t 2) true (Nat.beq t 5)
noncomputable def s_isi (t : Nat) : Bool := s_if (Nat.beq t 1) true (Nat.beq t 7)
noncomputable def s_padl (v : s_V) (k : Nat) : s_L := Nat.rec (motive := fun _ => s_L) [v] (fun _ r => s_u :: r) k
def s_cons (K : s_L → Bool) (a : s_V) (r : s_L) : Bool := K (a :: r)
noncomputable def s_st2 (a : s_V) (ih : Nat → (s_L → Bool) → Bool) (K : s_L → Bool) (k' : Nat) : Bool := s_and (s_if (Nat.ble 1 k') true (s_if (s_long (s_t a)) false true)) (ih k' (s_cons K a))
noncomputable def s_st1 (v : s_V) (a : s_V) (r : s_L) (ih : Nat → (s_L → Bool) → Bool) (k : Nat) (K : s_L → Bool) : Bool := Nat.rec (motive := fun _ => Bool) (K (v :: r)) (fun k' _ => s_st2 a ih K k') k
noncomputable def s_st0 (v : s_V) (k : Nat) (K : s_L → Bool) : Bool := K (s_padl v k)
noncomputable def s_st (L : s_L) (k : Nat) (v : s_V) (K : s_L → Bool) : Bool := List.rec (motive := fun _ => Nat → (s_L → Bool) → Bool) (s_st0 v) (fun a r ih => s_st1 v a r ih) L k K
noncomputable def s_leaf0 {α : Type} (n : Nat) (v : α) (x : α) (lo hi : Nat) (K : Lean.RArray α → Bool) : Bool := s_if (Nat.beq lo n) (s_if (Nat.beq (Nat.succ n) hi) (K (.leaf v)) (K (.branch (Nat.succ n) (.leaf v) (.leaf x)))) (s_if (Nat.beq (Nat.succ n) hi) (K (.branch n (.leaf x) (.leaf v))) (K (.branch n (.leaf x) (.branch (Nat.succ n) (.leaf v) (.leaf x)))))
def s_brl {α : Type} (p : Nat) (r : Lean.RArray α) (K : Lean.RArray α → Bool) (l : Lean.RArray α) : Bool := K (.branch p l r)
def s_brr {α : Type} (p : Nat) (l : Lean.RArray α) (K : Lean.RArray α → Bool) (r : Lean.RArray α) : Bool := K (.branch p l r)
noncomputable def s_lf2 {α : Type} (n : Nat) (x : α) (ih : Nat → Nat → (Lean.RArray α → Bool) → Bool) (lo hi : Nat) (K : Lean.RArray α → Bool) (mid : Nat) : Bool := s_if (Nat.ble mid n) (ih mid hi (s_brr mid (.leaf x) K)) (ih lo mid (s_brl mid (.leaf x) K))
noncomputable def s_lf1 {α : Type} (n : Nat) (v x : α) (ih : Nat → Nat → (Lean.RArray α → Bool) → Bool) (lo hi : Nat) (K : Lean.RArray α → Bool) : Bool := s_if (Nat.beq hi (Nat.succ lo)) (K (.leaf v)) (s_fn (s_lf2 n x ih lo hi K) (Nat.div (Nat.add lo hi) 2))
noncomputable def s_lfr {α : Type} (n : Nat) (v x : α) (f : Nat) : Nat → Nat → (Lean.RArray α → Bool) → Bool := Nat.rec (motive := fun _ => Nat → Nat → (Lean.RArray α → Bool) → Bool) (s_leaf0 n v x) (fun _ ih => s_lf1 n v x ih) f
noncomputable def s_leaf {α : Type} (n : Nat) (v : α) (x : α) (lo hi : Nat) (K : Lean.RArray α → Bool) : Bool := s_if (Nat.beq hi 0) (s_leaf0 n v x lo hi K) (s_lfr n v x 40 lo hi K)
noncomputable def s_set' {α : Type} (n p : Nat) (l r : Lean.RArray α) (il ir : Nat → Nat → (Lean.RArray α → Bool) → Bool) (lo hi : Nat) (K : Lean.RArray α → Bool) : Bool := Bool.rec (motive := fun _ => Bool) (il lo p (s_brl p r K)) (ir p hi (s_brr p l K)) (Nat.ble p n)
noncomputable def s_set {α : Type} (t : Lean.RArray α) (n : Nat) (v : α) (K : Lean.RArray α → Bool) : Bool := Lean.RArray.rec (motive := fun _ => Nat → Nat → (Lean.RArray α → Bool) → Bool) (s_leaf n v) (fun p l r il ir => s_set' n p l r il ir) t 0 0 K
noncomputable def s_fv' (K : s_V → Bool) (q : Nat × s_E) : Bool := Prod.rec (motive := fun _ => Bool) (fun t e => s_and (Nat.ble 1 t) (K (.inr (t, e)))) q
noncomputable def s_fv (v : s_V) (K : s_V → Bool) : Bool := Sum.rec (motive := fun _ => Bool) (fun z => K (.inl z)) (s_fv' K) v
noncomputable def s_ref' (K : Nat → s_A → Bool) (a : Nat) (c : s_A) : Bool := Prod.rec (motive := fun _ => Bool) (fun s c => K a (s, c)) c
noncomputable def s_ref2 (H : s_H) (K : Nat → s_A → Bool) (q : Nat × s_E) : Bool := s_and (Nat.ble 16 q.1) (s_ref' K (Nat.sub q.1 16) (Lean.RArray.get H.1 (Nat.sub q.1 16)))
noncomputable def s_ref (H : s_H) (v : s_V) (K : Nat → s_A → Bool) : Bool := Sum.rec (motive := fun _ => Bool) (fun _ => false) (s_ref2 H K) v
def s_hp (H : s_H) (K : s_H → Bool) (t : Lean.RArray s_A) : Bool := K (t, H.2.1, H.2.2)
noncomputable def s_upd (H : s_H) (a : Nat) (c : s_A) (K : s_H → Bool) (vs : Lean.RArray s_V) : Bool := s_set H.1 a (c.1, c.2.1, c.2.2.1, vs) (s_hp H K)
noncomputable def s_eqE (a : s_E) : s_E → Bool := Lean.RArray.rec (motive := fun _ => s_E → Bool) (fun x b => Lean.RArray.rec (motive := fun _ => Bool) (fun y => s_eqz x y) (fun _ _ _ _ _ => false) b) (fun p _ _ il ir b => Lean.RArray.rec (motive := fun _ => Bool) (fun _ => false) (fun q l r _ _ => s_and (Nat.beq p q) (s_and (il l) (ir r))) b) a
def s_lo : Int := -2147483648
def s_hi : Int := 2147483647
noncomputable def s_fnd (e : s_E) (F : s_F) : Option (Int × Int) := (F.find? (fun f => s_eqE f.1 e)).map (fun f => f.2)
def s_fit32 (b : Int × Int) : Int × Int := if s_lo ≤ b.1 ∧ b.2 ≤ s_hi then b else (s_lo, s_hi)
def s_ivb (op : Nat) (r : s_E) (il ir : Int × Int) : Int × Int := match op, r with
  | 1, _ => s_fit32 (il.1 + ir.1, il.2 + ir.2)
  | 2, _ => s_fit32 (il.1 - ir.2, il.2 - ir.1)
  | 3, .leaf c => if 0 ≤ c ∧ c ≤ s_hi then s_fit32 (il.1 * c, il.2 * c) else (s_lo, s_hi)
  | 10, .leaf c => if 0 < c ∧ c ≤ s_hi ∧ 0 ≤ il.1 then (il.1 / c, il.2 / c) else (s_lo, s_hi)
  | 11, .leaf c => if 0 < c ∧ c ≤ s_hi then (if 0 ≤ il.1 then (0, c - 1) else (1 - c, c - 1)) else (s_lo, s_hi)
  | _, _ => (s_lo, s_hi)
noncomputable def s_iv (F : s_F) (e : s_E) : Int × Int := Lean.RArray.rec (motive := fun _ => Int × Int) (fun z => if s_lo ≤ z ∧ z ≤ s_hi then (z, z) else (s_lo, s_hi)) (fun op l r il ir => match s_fnd (.branch op l r) F with
  | some b => b
  | none => s_ivb op r il ir) e
noncomputable def s_all (lo : Int) (K : Int → Bool) (n : Nat) : Bool := Nat.rec (motive := fun _ => Int → Bool) (fun _ => true) (fun _ ih z => s_and (s_fz z K) (ih (z + 1))) n lo
def s_isv (e : s_E) : Bool := match e with
  | .branch 0 (.leaf k) _ => decide (0 ≤ k ∧ k < 8)
  | _ => false
noncomputable def s_cz' (e : s_E) (F : s_F) (K : s_V → s_F → Bool) : Bool := match s_iv F e with
  | (lo, hi) => if lo = hi then s_fz lo (fun z => K (.inl z) F) else if s_isv e && decide (hi - lo ≤ 200) then s_all lo (fun z => K (.inl z) ((e, z, z) :: F)) ((hi - lo).toNat + 1) else K (.inr (1, e)) F
noncomputable def s_cz (v : s_V) (F : s_F) (K : s_V → s_F → Bool) : Bool := Sum.rec (motive := fun _ => Bool) (fun z => K (.inl z) F) (fun q => s_and (Nat.beq q.1 1) (s_cz' q.2 F K)) v
def s_is (z : Int) (e : s_E) : Bool := match e with
  | .leaf x => decide (x = z)
  | _ => false
def s_mk (op : Nat) (a b : s_E) : s_E := match op with
  | 1 => if s_is 0 b then a else if s_is 0 a then b else .branch 1 a b
  | 2 => if s_is 0 b then a else .branch 2 a b
  | 5 => if s_is 0 b then a else if s_is 0 a then b else .branch 5 a b
  | _ => .branch op a b
def s_forceE (e : s_E) (K : s_E → Bool) : Bool := match e with
  | .leaf z => K (.leaf z)
  | .branch p l r => K (.branch p l r)
def s_kc (K : s_V → s_F → Bool) (F : s_F) (z : Int) : Bool := K (.inl z) F
noncomputable def s_sy2 (op : Nat) (f : Int → Int → Int) (K : s_V → s_F → Bool) (a b : s_V) (F : s_F) : Bool := match a, b with
  | .inl x, .inl y => s_w (f x y) (s_kc K F)
  | a, b => s_forceE (s_mk op (s_x a) (s_x b)) (fun e => K (.inr (1, e)) F)
noncomputable def s_sy (op : Nat) (f : Int → Int → Int) (a b : s_V) (F : s_F) (K : s_V → s_F → Bool) : Bool := s_cz a F (fun a F => s_cz b F (s_sy2 op f K a))
noncomputable def s_op2 (f : Int → Int → Int) (F : s_F) (K : s_V → s_F → Bool) (x y : Int) : Bool := s_w (f x y) (s_kc K F)
noncomputable def s_op1 (op : Nat) (f : Int → Int → Int) (b : s_V) (F : s_F) (K : s_V → s_F → Bool) (x : Int) : Bool := Sum.rec (motive := fun _ => Bool) (s_op2 f F K x) (fun _ => s_sy op f (.inl x) b F K) b
noncomputable def s_opk (op : Nat) (f : Int → Int → Int) (a b : s_V) (F : s_F) (K : s_V → s_F → Bool) : Bool := Sum.rec (motive := fun _ => Bool) (s_op1 op f b F K) (fun _ => s_sy op f a b F K) a
def s_nv (nx : s_T) (H : s_H) (L r : s_L) (v : s_V) (F : s_F) : Bool := nx F H L (v :: r)
noncomputable def s_ib1 (op : Nat) (f : Int → Int → Int) (nx : s_T) (F : s_F) (H : s_H) (L : s_L) (b a : s_V) (r : s_L) : Bool := s_opk op f a b F (s_nv nx H L r)
noncomputable def s_ib (op : Nat) (f : Int → Int → Int) : s_D := fun _ _ nx _ _ _ F H L S => s_p2 S (s_ib1 op f nx F H L)
noncomputable def s_iu (op : Nat) (f : Int → Int → Int) : s_D := fun _ _ nx _ _ _ F H L S => s_p1 S (fun a r => s_opk op f a (.inl 0) F (s_nv nx H L r))
noncomputable def s_id2 (op : Nat) (f : Int → Int → Int) (K : s_V → s_F → Bool) (a : s_V) (b : s_V) (F : s_F) : Bool := Sum.rec (motive := fun _ => Bool) (fun y => s_and (s_nez y 0) (s_opk op f a (.inl y) F K)) (fun _ => false) b
noncomputable def s_id1 (op : Nat) (f : Int → Int → Int) (nx : s_T) (F : s_F) (H : s_H) (L : s_L) (b a : s_V) (r : s_L) : Bool := s_cz b F (s_id2 op f (s_nv nx H L r) a)
noncomputable def s_id (op : Nat) (f : Int → Int → Int) : s_D := fun _ _ nx _ _ _ F H L S => s_p2 S (s_id1 op f nx F H L)
def s_nz (nx : s_T) (F : s_F) (H : s_H) (L r : s_L) (z : Int) : Bool := nx F H L (.inl z :: r)
noncomputable def s_ipush (z : Int) : s_D := fun _ _ nx _ _ _ F H L S => s_w z (s_nz nx F H L S)
noncomputable def s_bpush (b : Nat) (z : Int) : s_D := fun _ _ nx _ _ _ F H L S => s_and (decide (-(b : Int) ≤ z ∧ z < b)) (nx F H L (.inl z :: S))
noncomputable def s_vpush (v : s_V) : s_D := fun _ _ nx _ _ _ F H L S => nx F H L (v :: S)
noncomputable def s_pk (x t : Nat) (P : List p_P) (K : Nat → Int → Bool) : Bool := Option.rec (motive := fun _ => Bool) false (fun q => K q.1 q.2) (p_pk x t P)
noncomputable def s_cst (x : Nat) : s_D := fun M _ nx _ _ _ F H L S => s_pk x 3 M.2.2.2.2.2.1 (fun _ b => s_w b (s_nz nx F H L S))
noncomputable def s_cstl (x : Nat) : s_D := fun M _ nx _ _ _ F H L S => s_pk x 4 M.2.2.2.2.2.1 (fun _ b => s_fz (Int64.ofInt b).toInt (fun z => nx F H L (.inr (2, .leaf z) :: S)))
def s_nw (nx : s_T) (F : s_F) (H : s_H) (L r : s_L) (v : s_V) : Bool := nx F H L (v :: r)
noncomputable def s_nwi (nx : s_T) (F : s_F) (H : s_H) (L r : s_L) (v : s_V) : Bool := s_and (s_isi (s_t v)) (nx F H L (v :: r))
noncomputable def s_nwl (nx : s_T) (F : s_F) (H : s_H) (L r : s_L) (v : s_V) : Bool := s_and (s_long (s_t v)) (nx F H L (v :: r))
noncomputable def s_isr (t : Nat) : Bool := s_if (Nat.ble 16 t) true (Nat.beq t 4)
noncomputable def s_nwa (nx : s_T) (F : s_F) (H : s_H) (L r : s_L) (v : s_V) : Bool := s_and (s_isr (s_t v)) (nx F H L (v :: r))
noncomputable def s_ldi (k : Nat) : s_D := fun _ _ nx _ _ _ F H L S => s_nth L k (s_nwi nx F H L S)
noncomputable def s_ldl (k : Nat) : s_D := fun _ _ nx _ _ _ F H L S => s_nth L k (s_nwl nx F H L S)
noncomputable def s_lda (k : Nat) : s_D := fun _ _ nx _ _ _ F H L S => s_nth L k (s_nwa nx F H L S)
def s_nL (nx : s_T) (F : s_F) (H : s_H) (S : s_L) (L : s_L) : Bool := nx F H L S
noncomputable def s_sti1 (k : Nat) (M : p_M) (nx : s_T) (F : s_F) (H : s_H) (L : s_L) (v : s_V) (r : s_L) : Bool := s_and (s_isi (s_t v)) (s_and (Nat.ble (Nat.succ k) M.2.2.1) (s_st L k v (s_nL nx F H r)))
noncomputable def s_sti (k : Nat) : s_D := fun M _ nx _ _ _ F H L S => s_p1 S (s_sti1 k M nx F H L)
noncomputable def s_sta1 (k : Nat) (M : p_M) (nx : s_T) (F : s_F) (H : s_H) (L : s_L) (v : s_V) (r : s_L) : Bool := s_and (s_isr (s_t v)) (s_and (Nat.ble (Nat.succ k) M.2.2.1) (s_st L k v (s_nL nx F H r)))
noncomputable def s_sta (k : Nat) : s_D := fun M _ nx _ _ _ F H L S => s_p1 S (s_sta1 k M nx F H L)
noncomputable def s_str1 (v : s_V) (a : s_V) (r : s_L) (ih : Nat → (s_L → Bool) → Bool) (k : Nat) (K : s_L → Bool) : Bool := Nat.rec (motive := fun _ => Bool) (K (v :: r)) (fun k' _ => ih k' (s_cons K a)) k
noncomputable def s_str (L : s_L) (k : Nat) (v : s_V) (K : s_L → Bool) : Bool := List.rec (motive := fun _ => Nat → (s_L → Bool) → Bool) (s_st0 v) (fun a r ih => s_str1 v a r ih) L k K
noncomputable def s_stl (k : Nat) : s_D := fun M _ nx _ _ _ F H L S => s_p1 S (fun v r => s_and (s_long (s_t v)) (s_and (Nat.ble (Nat.succ (Nat.succ k)) M.2.2.1) (s_str L (Nat.succ k) s_u (fun L => s_st L k v (s_nL nx F H r)))))
noncomputable def s_inc2 (k : Nat) (nx : s_T) (H : s_H) (L S : s_L) (v : s_V) (F : s_F) : Bool := s_st L k v (s_nL nx F H S)
noncomputable def s_inc3 (k : Nat) (nx : s_T) (F : s_F) (H : s_H) (L S : s_L) (v : s_V) (d : Int) : Bool := s_opk 1 s_cadd v (.inl d) F (s_inc2 k nx H L S)
noncomputable def s_inc1 (k : Nat) (d : Int) (M : p_M) (nx : s_T) (F : s_F) (H : s_H) (L S : s_L) (v : s_V) : Bool := s_and (Nat.beq (s_t v) 1) (s_and (Nat.ble (Nat.succ k) M.2.2.1) (s_w d (s_inc3 k nx F H L S v)))
noncomputable def s_inc (k : Nat) (d : Int) : s_D := fun M _ nx _ _ _ F H L S => s_nth L k (s_inc1 k d M nx F H L S)
noncomputable def s_tgt (pc : Nat) (off : Int) (K : Nat → Bool) : Bool := Option.rec (motive := fun _ => Bool) false K (p_tg pc off)
def s_jt (J : s_J) (F : s_F) (H : s_H) (L S : s_L) (t : Nat) : Bool := J t F H L S
noncomputable def s_goto (off : Int) : s_D := fun _ pc _ J _ _ F H L S => s_tgt pc off (s_jt J F H L S)
def s_pcs (c : ClassFile.Cond) (y lo hi : Int) : List (Bool × Int × Int) := match c with
  | .eq => [(true, max lo y, min hi y), (false, lo, min hi (y - 1)), (false, max lo (y + 1), hi)]
  | .ne => [(false, max lo y, min hi y), (true, lo, min hi (y - 1)), (true, max lo (y + 1), hi)]
  | .lt => [(true, lo, min hi (y - 1)), (false, max lo y, hi)]
  | .ge => [(false, lo, min hi (y - 1)), (true, max lo y, hi)]
  | .gt => [(true, max lo (y + 1), hi), (false, lo, min hi y)]
  | .le => [(false, max lo (y + 1), hi), (true, lo, min hi y)]
def s_flip (c : ClassFile.Cond) : ClassFile.Cond := match c with
  | .eq => .eq | .ne => .ne | .lt => .gt | .ge => .le | .gt => .lt | .le => .ge
noncomputable def s_fork (e : s_E) (F : s_F) (o : List (Bool × Int × Int)) (K : Bool → s_F → Bool) : Bool := List.rec (motive := fun _ => Bool) true (fun q _ ih => s_and (if q.2.1 ≤ q.2.2 then s_fz q.2.1 (fun lo => s_fz q.2.2 (fun hi => K q.1 ((e, lo, hi) :: F))) else true) ih) o
noncomputable def s_lt2 (g k : Bool) (x y : s_E) (a b e f : Int) (F : s_F) (K : Bool → s_F → Bool) : Bool := s_and (s_fork x F [(g, a, min b (f - 1))] (fun _ F => s_fork y F [(g, max e (a + 1), f)] K)) (s_fork x F [(k, max a e, b)] (fun _ F => s_fork y F [(k, e, min f b)] K))
noncomputable def s_two (c : ClassFile.Cond) (x y : s_E) (F : s_F) (K : Bool → s_F → Bool) : Bool := match c with
  | .lt => s_lt2 true false x y (s_iv F x).1 (s_iv F x).2 (s_iv F y).1 (s_iv F y).2 F K
  | .ge => s_lt2 false true x y (s_iv F x).1 (s_iv F x).2 (s_iv F y).1 (s_iv F y).2 F K
  | .gt => s_lt2 true false y x (s_iv F y).1 (s_iv F y).2 (s_iv F x).1 (s_iv F x).2 F K
  | .le => s_lt2 false true y x (s_iv F y).1 (s_iv F y).2 (s_iv F x).1 (s_iv F x).2 F K
  | _ => s_and (K true F) (K false F)
noncomputable def s_bsl (c : ClassFile.Cond) (a b : s_V) (F : s_F) (K : Bool → s_F → Bool) : Bool := match a, b with
  | .inl x, .inl y => K (s_cf c x y) F
  | .inr q, .inl y => s_and (Nat.beq q.1 1) (match s_iv F q.2 with | (lo, hi) => s_fork q.2 F (s_pcs c y lo hi) K)
  | .inl x, .inr q => s_and (Nat.beq q.1 1) (match s_iv F q.2 with | (lo, hi) => s_fork q.2 F (s_pcs (s_flip c) x lo hi) K)
  | .inr p, .inr q => s_and (Nat.beq p.1 1) (s_and (Nat.beq q.1 1) (s_if (s_eqE p.2 q.2) (K (s_cf c 0 0) F) (s_two c p.2 q.2 F K)))
noncomputable def s_cmp2 (c : ClassFile.Cond) (F : s_F) (K : Bool → s_F → Bool) (x y : Int) : Bool := K (s_cf c x y) F
noncomputable def s_cmp1 (c : ClassFile.Cond) (b : s_V) (F : s_F) (K : Bool → s_F → Bool) (x : Int) : Bool := Sum.rec (motive := fun _ => Bool) (s_cmp2 c F K x) (fun _ => s_bsl c (.inl x) b F K) b
noncomputable def s_cmp (c : ClassFile.Cond) (a b : s_V) (F : s_F) (K : Bool → s_F → Bool) : Bool := Sum.rec (motive := fun _ => Bool) (s_cmp1 c b F K) (fun _ => s_bsl c a b F K) a
noncomputable def s_bk (nx : s_T) (J : s_J) (H : s_H) (L r : s_L) (t : Nat) (g : Bool) (F : s_F) : Bool := s_if g (J t F H L r) (nx F H L r)
noncomputable def s_br2b (c : ClassFile.Cond) (nx : s_T) (J : s_J) (F : s_F) (H : s_H) (L : s_L) (t : Nat) (b a : s_V) (r : s_L) : Bool := s_cmp c a b F (s_bk nx J H L r t)
noncomputable def s_br2a (c : ClassFile.Cond) (nx : s_T) (J : s_J) (F : s_F) (H : s_H) (L S : s_L) (t : Nat) : Bool := s_p2 S (s_br2b c nx J F H L t)
noncomputable def s_br2 (c : ClassFile.Cond) (off : Int) : s_D := fun _ pc nx J _ _ F H L S => s_tgt pc off (s_br2a c nx J F H L S)
noncomputable def s_br1b (c : ClassFile.Cond) (nx : s_T) (J : s_J) (F : s_F) (H : s_H) (L : s_L) (t : Nat) (a : s_V) (r : s_L) : Bool := s_cmp c a (.inl 0) F (s_bk nx J H L r t)
noncomputable def s_br1a (c : ClassFile.Cond) (nx : s_T) (J : s_J) (F : s_F) (H : s_H) (L S : s_L) (t : Nat) : Bool := s_p1 S (s_br1b c nx J F H L t)
noncomputable def s_br1 (c : ClassFile.Cond) (off : Int) : s_D := fun _ pc nx J _ _ F H L S => s_tgt pc off (s_br1a c nx J F H L S)
noncomputable def s_brn (w : Bool) (off : Int) : s_D := fun _ pc nx J _ _ F H L S => s_p1 S (fun a r => s_if (Nat.beq (s_t a) 4) (s_if w (s_tgt pc off (s_jt J F H L r)) (nx F H L r)) (s_and (Nat.ble 16 (s_t a)) (s_if w (nx F H L r) (s_tgt pc off (s_jt J F H L r)))))
noncomputable def s_one (t : Nat) : Bool := s_if (s_isi t) true (s_isr t)
noncomputable def s_dup : s_D := fun _ _ nx _ _ _ F H L S => s_p1 S (fun a r => s_and (s_one (s_t a)) (nx F H L (a :: a :: r)))
noncomputable def s_pop : s_D := fun _ _ nx _ _ _ F H L S => s_p1 S (fun a r => s_and (s_one (s_t a)) (nx F H L r))
noncomputable def s_pop2 : s_D := fun _ _ nx _ _ _ F H L S => s_p1 S (fun a r => s_and (s_long (s_t a)) (nx F H L r))
noncomputable def s_dup2 : s_D := fun _ _ nx _ _ _ F H L S => s_p2 S (fun a b r => s_and (s_one (s_t a)) (s_and (s_one (s_t b)) (nx F H L (a :: b :: a :: b :: r))))
noncomputable def s_ix2 (K : Nat → s_F → Bool) (F : s_F) (z : Int) : Bool := Int.rec (motive := fun _ => Bool) (fun j => K j F) (fun _ => false) z
noncomputable def s_ix1 (K : Nat → s_F → Bool) (v : s_V) (F : s_F) : Bool := Sum.rec (motive := fun _ => Bool) (s_ix2 K F) (fun _ => false) v
noncomputable def s_ix (v : s_V) (F : s_F) (K : Nat → s_F → Bool) : Bool := s_cz v F (s_ix1 K)
noncomputable def s_al3 (nx : s_T) (H : s_H) (L r : s_L) (c : s_A) (j : Nat) (F : s_F) : Bool := s_fv (Lean.RArray.get c.2.2.2 j) (s_nw nx F H L r)
noncomputable def s_al2 (t1 t2 : Nat) (nx : s_T) (F : s_F) (H : s_H) (L : s_L) (i : s_V) (r : s_L) (_ : Nat) (c : s_A) : Bool := s_and (s_if (Nat.beq c.2.1 t1) true (Nat.beq c.2.1 t2)) (s_and (s_if (Nat.beq c.1 1) true (Nat.beq c.1 2)) (s_ix i F (s_al3 nx H L r c)))
noncomputable def s_al1 (t1 t2 : Nat) (nx : s_T) (F : s_F) (H : s_H) (L : s_L) (i o : s_V) (r : s_L) : Bool := s_ref H o (s_al2 t1 t2 nx F H L i r)
noncomputable def s_al (t1 t2 : Nat) : s_D := fun _ _ nx _ _ _ F H L S => s_p2 S (s_al1 t1 t2 nx F H L)
def s_kH (K : s_F → s_H → Bool) (F : s_F) (H : s_H) : Bool := K F H
noncomputable def s_put2 (v : s_V) (H : s_H) (K : s_F → s_H → Bool) (a : Nat) (c : s_A) (j : Nat) (F : s_F) : Bool := s_and (Nat.ble 1 (s_t (Lean.RArray.get c.2.2.2 j))) (s_set c.2.2.2 j v (s_upd H a c (K F)))
noncomputable def s_put1 (t : Nat) (v i : s_V) (F : s_F) (H : s_H) (K : s_F → s_H → Bool) (a : Nat) (c : s_A) : Bool := s_and (Nat.beq c.2.1 t) (s_and (Nat.beq c.1 1) (s_ix i F (s_put2 v H K a c)))
noncomputable def s_put (t : Nat) (v i o : s_V) (F : s_F) (H : s_H) (K : s_F → s_H → Bool) : Bool := s_ref H o (s_put1 t v i F H K)
def s_nH (nx : s_T) (L r : s_L) (F : s_F) (H : s_H) : Bool := nx F H L r
noncomputable def s_as1 (t : Nat) (w : Nat → Bool) (nx : s_T) (F : s_F) (H : s_H) (L : s_L) (v i : s_V) (r : s_L) : Bool := s_p1 r (fun o r => s_and (w (s_t v)) (s_put t v i o F H (s_nH nx L r)))
noncomputable def s_as (t : Nat) (w : Nat → Bool) : s_D := fun _ _ nx _ _ _ F H L S => s_p2 S (s_as1 t w nx F H L)
noncomputable def s_asb : s_D := fun _ _ nx _ _ _ F H L S => s_p2 S (fun v i r => s_p1 r (fun o r => s_ref H o (fun _ c => s_if (Nat.beq c.2.1 1) (s_opk 12 s_ci2b v (.inl 0) F (fun e F => s_put 1 e i o F H (s_nH nx L r))) (s_opk 4 s_cand v (.inl 1) F (fun e F => s_put 3 e i o F H (s_nH nx L r))))))
noncomputable def s_aas : s_D := fun _ _ nx _ _ _ F H L S => s_p2 S (fun v i r => s_p1 r (fun o r => s_if (Nat.beq (s_t v) 4) (s_put 4 v i o F H (s_nH nx L r)) (s_ref H v (fun _ c => s_and (Nat.beq c.1 0) (s_and (Nat.beq c.2.1 7) (s_put 4 v i o F H (s_nH nx L r)))))))
noncomputable def s_alen : s_D := fun _ _ nx _ _ _ F H L S => s_p1 S (fun o r => s_ref H o (fun _ c => s_and (s_if (Nat.beq c.1 1) true (Nat.beq c.1 2)) (s_and (Nat.ble c.2.2.1 2147483647) (s_fn0 (s_nz nx F H L r) c.2.2.1))))
noncomputable def s_getf3 (nx : s_T) (F : s_F) (H : s_H) (L r : s_L) (ci k : Nat) (_ : Nat) (c : s_A) : Bool := s_and (Nat.beq c.1 0) (s_and (Nat.beq c.2.1 ci) (s_fv (Lean.RArray.get c.2.2.2 k) (s_nw nx F H L r)))
noncomputable def s_getf2 (nx : s_T) (F : s_F) (H : s_H) (L : s_L) (o : s_V) (r : s_L) (ci : Nat) (k : Int) : Bool := s_ref H o (s_getf3 nx F H L r ci k.toNat)
noncomputable def s_getf1 (x : Nat) (P : List p_P) (nx : s_T) (F : s_F) (H : s_H) (L : s_L) (o : s_V) (r : s_L) : Bool := s_pk x 0 P (s_getf2 nx F H L o r)
noncomputable def s_getf (x : Nat) : s_D := fun M _ nx _ _ _ F H L S => s_p1 S (s_getf1 x M.2.2.2.2.2.1 nx F H L)
noncomputable def s_bool (F : s_F) (v : s_V) : Bool := match v with
  | .inl z => decide (z = 0 ∨ z = 1)
  | .inr q => Nat.beq q.1 1 && (match s_iv F q.2 with | (lo, hi) => decide (0 ≤ lo ∧ hi ≤ 1))
noncomputable def s_fits (ty : FieldType) (v : s_V) (F : s_F) : Bool := match ty with
  | .boolean => s_bool F v
  | .int => s_isi (s_t v)
  | .long => s_long (s_t v)
  | .object _ => s_isr (s_t v)
  | .array _ => s_isr (s_t v)
  | _ => false
noncomputable def s_gty (G : p_G) (ci : Nat) (k : Int) (K : FieldType → Bool → Bool) : Bool := Option.rec (motive := fun _ => Bool) false (fun q => K q.1 q.2) ((G[ci]?).bind (fun r => r[k.toNat]?))
def s_nHp (nx : s_T) (F : s_F) (L r : s_L) (H : s_H) : Bool := nx F H L r
noncomputable def s_putf4 (M : p_M) (nx : s_T) (F : s_F) (H : s_H) (L : s_L) (v : s_V) (r : s_L) (ci k : Nat) (a : Nat) (c : s_A) (ty : FieldType) (fin : Bool) : Bool := s_and (s_fits ty v F) (s_and (!fin || (M.2.2.2.2.2.2.1 && Nat.beq M.2.2.2.2.2.2.2 ci)) (s_and (Nat.ble 1 (s_t (Lean.RArray.get c.2.2.2 k))) (s_set c.2.2.2 k v (s_upd H a c (s_nHp nx F L r)))))
noncomputable def s_putf3 (G : p_G) (M : p_M) (nx : s_T) (F : s_F) (H : s_H) (L : s_L) (v : s_V) (r : s_L) (ci : Nat) (k : Int) (a : Nat) (c : s_A) : Bool := s_and (Nat.beq c.1 0) (s_and (Nat.beq c.2.1 ci) (s_gty G ci k (s_putf4 M nx F H L v r ci k.toNat a c)))
noncomputable def s_putf2 (G : p_G) (M : p_M) (nx : s_T) (F : s_F) (H : s_H) (L : s_L) (v o : s_V) (r : s_L) (ci : Nat) (k : Int) : Bool := s_ref H o (s_putf3 G M nx F H L v r ci k)
noncomputable def s_putf1 (G : p_G) (x : Nat) (M : p_M) (nx : s_T) (F : s_F) (H : s_H) (L : s_L) (v o : s_V) (r : s_L) : Bool := s_pk x 0 M.2.2.2.2.2.1 (s_putf2 G M nx F H L v o r)
noncomputable def s_putf (G : p_G) (x : Nat) : s_D := fun M _ nx _ _ _ F H L S => s_p2 S (s_putf1 G x M nx F H L)
noncomputable def s_mkc (H : s_H) (c : s_A) (K : s_H → s_V → Bool) : Bool := s_set H.1 H.2.1 c (fun t => s_fn (fun n => s_fn (fun m => s_fn (fun a => K (t, n, m) (.inr (a, .leaf 0))) (16 + H.2.1)) (H.2.2 + c.2.2.1)) (H.2.1 + 1))
def s_dv (ty : FieldType) : s_V := match ty with
  | .byte | .char | .short | .boolean | .int => .inl 0
  | .long => .inr (2, .leaf 0)
  | .object _ | .array _ => .inr (4, .leaf 0)
  | _ => s_u
def s_row : Nat → List (FieldType × Bool) → Lean.RArray s_V
  | _, [] => .leaf s_u
  | k, q :: r => .branch (k + 1) (.leaf (s_dv q.1)) (s_row (k + 1) r)
noncomputable def s_new (G : p_G) (x : Nat) : s_D := fun M _ nx _ _ _ F H L S => s_pk x 2 M.2.2.2.2.2.1 (fun ci _ => Option.rec (motive := fun _ => Bool) false (fun row => s_mkc H (0, ci, row.length, s_row 0 row) (fun H v => nx F H L (v :: S))) (G[ci]?))
noncomputable def s_newn (t : Nat) (d : s_V) (n : s_V) (F : s_F) (H : s_H) (K : s_F → s_H → s_V → Bool) : Bool := s_ix n F (fun m F => s_and (Nat.ble m 1000000) (s_mkc H (1, t, m, .branch m (.leaf d) (.leaf s_u)) (fun H a => K F H a)))
noncomputable def s_newa (ty : ArrayType) : s_D := fun _ _ nx _ _ _ F H L S => s_p1 S (fun n r => match p_ty ty with
  | some t => s_newn t (s_dv (newarray.typeOf ty)) n F H (fun F H v => nx F H L (v :: r))
  | none => false)
noncomputable def s_anew (x : Nat) : s_D := fun M _ nx _ _ _ F H L S => s_p1 S (fun n r => s_pk x 5 M.2.2.2.2.2.1 (fun _ _ => s_newn 4 (.inr (4, .leaf 0)) n F H (fun F H v => nx F H L (v :: r))))
noncomputable def s_gets (x : Nat) : s_D := fun M _ nx _ _ _ F H L S => s_pk x 6 M.2.2.2.2.2.1 (fun _ _ => nx F H L (.inr (17, .leaf 0) :: S))
noncomputable def s_tk1 (acc : s_L) (c : Nat) (ih : s_L → s_L → Nat → Bool) (v : s_V) (r : s_L) : Bool := s_if (s_one (s_t v)) (ih r (v :: acc) (Nat.succ c)) (s_and (s_long (s_t v)) (ih r (v :: s_u :: acc) (Nat.succ (Nat.succ c))))
noncomputable def s_tk2 (ih : s_L → s_L → Nat → Bool) (S acc : s_L) (c : Nat) : Bool := s_p1 S (s_tk1 acc c ih)
def s_tk0 (K : s_L → Nat → s_L → Bool) (S acc : s_L) (c : Nat) : Bool := K acc c S
noncomputable def s_tk (n : Nat) (S : s_L) (K : s_L → Nat → s_L → Bool) : Bool := Nat.rec (motive := fun _ => s_L → s_L → Nat → Bool) (s_tk0 K) (fun _ ih => s_tk2 ih) n S [] 0
noncomputable def s_cat (S : s_L) : Nat := List.rec (motive := fun _ => Nat) 0 (fun v _ n => Nat.add (Bool.rec (motive := fun _ => Nat) 2 1 (s_one (s_t v))) n) S
noncomputable def s_inv2 (b m : Nat) (K : Nat → s_L → Nat → s_L → Bool) (A : s_L) (c : Nat) (r : s_L) : Bool := s_and (Nat.ble (s_cat r) b) (K m A c r)
noncomputable def s_inv1 (b : Nat) (S : s_L) (K : Nat → s_L → Nat → s_L → Bool) (q : Nat × Int) : Bool := s_tk q.2.toNat S (s_inv2 b q.1 K)
noncomputable def s_inv (t x : Nat) (M : p_M) (S : s_L) (K : Nat → s_L → Nat → s_L → Bool) (E : Bool) : Bool := Option.rec (motive := fun _ => Bool) E (s_inv1 (p_bd t) S K) (p_pk x t M.2.2.2.2.2.1)
noncomputable def s_ret1 (nx : s_T) (L r : s_L) : s_K := fun F H v => s_if (Nat.beq (s_t v) 8) (nx F H L r) (nx F H L (v :: r))
noncomputable def s_ints (t : Lean.RArray s_V) : Nat → Nat → Bool := Lean.RArray.rec (motive := fun _ => Nat → Nat → Bool) (fun v lo hi => s_if (Nat.ble hi lo) true (s_isi (s_t v))) (fun p _ _ il ir lo hi => s_and (il lo (min p hi)) (ir (max p lo) hi)) t
noncomputable def s_cpl (vs : Lean.RArray s_V) (n : Nat) (sp dp : Nat) (ws : Lean.RArray s_V) (K : Lean.RArray s_V → Bool) : Bool := Nat.rec (motive := fun _ => Nat → Nat → Lean.RArray s_V → Bool) (fun _ _ ws => K ws) (fun _ ih sp dp ws => s_fv (Lean.RArray.get vs sp) (fun v => s_and (s_isi (s_t v)) (s_and (Nat.ble 1 (s_t (Lean.RArray.get ws dp))) (s_set ws dp v (fun ws => ih (Nat.succ sp) (Nat.succ dp) ws))))) n sp dp ws
noncomputable def s_copy (n dp d sp o : s_V) (F : s_F) (H : s_H) (K : s_F → s_H → Bool) : Bool := s_ix n F (fun n F => s_ix dp F (fun dp F => s_ix sp F (fun sp F => s_ref H o (fun _ c => s_ref H d (fun a e => s_and (Nat.beq c.1 1) (s_and (Nat.beq c.2.1 0) (s_and (Nat.beq e.1 1) (s_and (Nat.beq e.2.1 0) (s_and (Nat.ble (sp + n) c.2.2.1) (s_and (Nat.ble (dp + n) e.2.2.1) (s_if (Nat.beq sp 0 && (Nat.beq dp 0 && (Nat.beq n c.2.2.1 && Nat.beq n e.2.2.1))) (s_and (s_ints c.2.2.2 0 n) (s_upd H a e (K F) c.2.2.2)) (s_cpl c.2.2.2 n sp dp e.2.2.2 (s_upd H a e (K F))))))))))))))
noncomputable def s_ci (C : s_CC) (nx : s_T) (F : s_F) (H : s_H) (L : s_L) (m : Nat) (A : s_L) (c : Nat) (r : s_L) : Bool := C m A c F H (s_ret1 nx L r)
noncomputable def s_acp (nx : s_T) (F : s_F) (H : s_H) (L S : s_L) : Bool := s_p1 S (fun n r => s_p1 r (fun dp r => s_p1 r (fun d r => s_p1 r (fun sp r => s_p1 r (fun o r => s_and (Nat.ble (s_cat r) 8) (s_copy n dp d sp o F H (s_nH nx L r)))))))
noncomputable def s_invs (x : Nat) : s_D := fun M _ nx _ C _ F H L S => Option.rec (motive := fun _ => Bool) (s_inv 1 x M S (s_ci C nx F H L) (s_inv 11 x M S (s_ci C nx F H L) false)) (fun _ => s_acp nx F H L S) (p_pk x 7 M.2.2.2.2.2.1)
noncomputable def s_invi (x : Nat) : s_D := fun M _ nx _ C _ F H L S => Option.rec (motive := fun _ => Bool) (s_inv 10 x M S (fun m A c r => s_p1 A (fun o _ => s_and (Nat.ble 16 (s_t o)) (s_ci C nx F H L m A c r))) false) (fun _ => s_p1 S (fun o r => s_and (Nat.ble 16 (s_t o)) (s_and (Nat.ble (s_cat r) 8) (nx F H L r)))) (p_pk x 8 M.2.2.2.2.2.1)
noncomputable def s_clone (o : s_V) (F : s_F) (H : s_H) (K : s_F → s_H → s_V → Bool) : Bool := s_ref H o (fun _ c => s_and (Nat.beq c.1 1) (s_and (Nat.beq c.2.1 0) (s_and (s_ints c.2.2.2 0 c.2.2.1) (s_mkc H (1, 0, c.2.2.1, c.2.2.2) (fun H a => K F H a)))))
noncomputable def s_home (MT : List p_M) (m : Nat) (K : Nat → Bool) : Bool := Option.rec (motive := fun _ => Bool) false (fun M => K M.2.2.2.2.2.2.2) (MT[m]?)
noncomputable def s_iv4 (C : s_CC) (nx : s_T) (F : s_F) (H : s_H) (L : s_L) (m : Nat) (A : s_L) (c : Nat) (r : s_L) (w : Nat) (_ : Nat) (e : s_A) : Bool := s_and (Nat.beq e.1 0) (s_and (Nat.beq w e.2.1) (C m A c F H (s_ret1 nx L r)))
noncomputable def s_iv3 (C : s_CC) (nx : s_T) (F : s_F) (H : s_H) (L : s_L) (m : Nat) (A : s_L) (c : Nat) (r : s_L) (o : s_V) (w : Nat) : Bool := s_ref H o (s_iv4 C nx F H L m A c r w)
noncomputable def s_iv2 (MT : List p_M) (C : s_CC) (nx : s_T) (F : s_F) (H : s_H) (L : s_L) (m : Nat) (A : s_L) (c : Nat) (r : s_L) (o : s_V) (_ : s_L) : Bool := s_home MT m (s_iv3 C nx F H L m A c r o)
noncomputable def s_iv1 (MT : List p_M) (C : s_CC) (nx : s_T) (F : s_F) (H : s_H) (L : s_L) (m : Nat) (A : s_L) (c : Nat) (r : s_L) : Bool := s_p1 A (s_iv2 MT C nx F H L m A c r)
noncomputable def s_invv (MT : List p_M) (x : Nat) : s_D := fun M _ nx _ C _ F H L S => Option.rec (motive := fun _ => Bool) (s_inv 9 x M S (s_iv1 MT C nx F H L) false) (fun _ => s_p1 S (fun o r => s_and (Nat.ble (s_cat r) 8) (s_clone o F H (fun F H v => nx F H L (v :: r))))) (p_pk x 12 M.2.2.2.2.2.1)
noncomputable def s_cc (x : Nat) : s_D := fun M _ nx _ _ _ F H L S => s_p1 S (fun o r => s_pk x 13 M.2.2.2.2.2.1 (fun _ _ => s_ref H o (fun _ c => s_and (Nat.beq c.1 1) (s_and (Nat.beq c.2.1 0) (nx F H L (o :: r))))))
noncomputable def s_lv (v : s_V) (K : Int → Bool) : Bool := Sum.rec (motive := fun _ => Bool) (fun _ => false) (fun q => s_and (Nat.beq q.1 2) (Lean.RArray.rec (motive := fun _ => Bool) (fun z => K z) (fun _ _ _ _ _ => false) q.2)) v
noncomputable def s_l2 (f : Int64 → Int64 → Int64) : s_D := fun _ _ nx _ _ _ F H L S => s_p2 S (fun b a r => s_lv a (fun x => s_lv b (fun y => s_fz (f (Int64.ofInt x) (Int64.ofInt y)).toInt (fun z => nx F H L (.inr (2, .leaf z) :: r)))))
noncomputable def s_ldv (f : Int64 → Int64 → Int64) : s_D := fun _ _ nx _ _ _ F H L S => s_p2 S (fun b a r => s_lv a (fun x => s_lv b (fun y => s_and (decide (¬ Int64.ofInt y = 0)) (s_fz (f (Int64.ofInt x) (Int64.ofInt y)).toInt (fun z => nx F H L (.inr (2, .leaf z) :: r))))))
noncomputable def s_lng : s_D := fun _ _ nx _ _ _ F H L S => s_p1 S (fun a r => s_lv a (fun x => s_fz (-(Int64.ofInt x)).toInt (fun z => nx F H L (.inr (2, .leaf z) :: r))))
noncomputable def s_lsh (f : Int64 → Int32 → Int64) : s_D := fun _ _ nx _ _ _ F H L S => s_p2 S (fun b a r => s_lv a (fun x => Sum.rec (motive := fun _ => Bool) (fun y => s_fz (f (Int64.ofInt x) (Int32.ofInt y)).toInt (fun z => nx F H L (.inr (2, .leaf z) :: r))) (fun _ => false) b))
noncomputable def s_lcs (e : s_E) (y : Int) (F : s_F) (u v : Int) (K : Int → s_F → Bool) : Bool := match s_iv F e with
  | (lo, hi) => s_fork e F [(true, lo, min hi (y - 1))] (fun _ F => K u F) && (s_fork e F [(true, max lo y, min hi y)] (fun _ F => K 0 F) && s_fork e F [(true, max lo (y + 1), hi)] (fun _ F => K v F))
noncomputable def s_lcm (a b : s_V) (F : s_F) (K : Int → s_F → Bool) : Bool := s_if (Nat.beq (s_t a) 2) (s_lv a (fun x => s_if (Nat.beq (s_t b) 2) (s_lv b (fun y => s_fz (lg_cmp (Int64.ofInt x) (Int64.ofInt y)).toInt (fun z => K z F))) (s_and (Nat.beq (s_t b) 5) (s_lcs (s_x b) (Int64.ofInt x).toInt F 1 (-1) K)))) (s_and (Nat.beq (s_t a) 5) (s_lv b (fun y => s_lcs (s_x a) (Int64.ofInt y).toInt F (-1) 1 K)))
noncomputable def s_lcmp : s_D := fun _ _ nx _ _ _ F H L S => s_p2 S (fun b a r => s_lcm a b F (fun z F => nx F H L (.inl z :: r)))
noncomputable def s_i2l : s_D := fun _ _ nx _ _ _ F H L S => s_p1 S (fun a r => Sum.rec (motive := fun _ => Bool) (fun z => nx F H L (.inr (2, .leaf z) :: r)) (fun q => s_and (Nat.beq q.1 1) (nx F H L (.inr (5, q.2) :: r))) a)
noncomputable def s_l2i : s_D := fun _ _ nx _ _ _ F H L S => s_p1 S (fun a r => s_if (Nat.beq (s_t a) 5) (nx F H L (.inr (1, s_x a) :: r)) (s_lv a (fun z => s_fz (Int64.ofInt z).toInt32.toInt (fun z => nx F H L (.inl z :: r)))))
noncomputable def s_num (v : s_V) (F : s_F) (K : Int → s_F → Bool) (E : s_E → s_F → Bool) : Bool := s_cz v F (fun v F => Sum.rec (motive := fun _ => Bool) (fun z => K z F) (fun q => E q.2 F) v)
noncomputable def s_swc (d lo hi : Int) (offs : Array Int) (pc : Nat) (z : Int) (J : Nat → Bool) : Bool := if z < lo ∨ hi < z then s_tgt pc d J else (match offs[(z - lo).toNat]? with
  | some off => s_tgt pc off J
  | none => false)
noncomputable def s_tsw (d lo hi : Int) (offs : Array Int) : s_D := fun _ pc _ J _ _ F H L S => s_p1 S (fun v r => s_num v F (fun z F => s_swc d lo hi offs pc z (s_jt J F H L r)) (fun e F => match s_iv F e with
  | (l, h) => s_fork e F [(true, l, min h (lo - 1))] (fun _ F => s_tgt pc d (s_jt J F H L r)) && (s_fork e F [(true, max l (hi + 1), h)] (fun _ F => s_tgt pc d (s_jt J F H L r)) && (decide (hi - lo ≤ 200) && s_all lo (fun z => if l ≤ z ∧ z ≤ h then s_swc d lo hi offs pc z (s_jt J ((e, z, z) :: F) H L r) else true) ((hi - lo + 1).toNat)))))
noncomputable def s_lsw (d : Int) (ps : Array (Int × Int)) : s_D := fun _ pc _ J _ _ F H L S => s_and ((ps.toList.zip (ps.toList.drop 1)).all (fun (a, next) => a.1 < next.1)) (s_p1 S (fun v r => s_num v F (fun z F => s_tgt pc (Op.lookupswitch.offset ps.toList d z) (s_jt J F H L r)) (fun _ _ => false)))
noncomputable def s_rv (ty : Option FieldType) (F : s_F) (v : s_V) : Bool := match ty with
  | some .int => s_isi (s_t v)
  | some .boolean => s_bool F v
  | some .long => s_long (s_t v)
  | some (.object _) => s_isr (s_t v)
  | some (.array _) => s_isr (s_t v)
  | _ => false
noncomputable def s_re1 (w : Nat → Bool) (M : p_M) (R : s_K) (F : s_F) (H : s_H) (v : s_V) (r : s_L) : Bool := s_and r.isEmpty (s_and (w (s_t v)) (s_and (s_rv M.2.2.2.1 F v) (R F H v)))
noncomputable def s_re (w : Nat → Bool) : s_D := fun M _ _ _ _ R F H _ S => s_p1 S (s_re1 w M R F H)
noncomputable def s_r0 : s_D := fun M _ _ _ _ R F H _ S => s_and (S.isEmpty) (match M.2.2.2.1 with
  | none => R F H (.inr (8, .leaf 0))
  | _ => false)
noncomputable def s_no : s_D := fun _ _ _ _ _ _ _ _ _ _ => false
noncomputable def s_hd (i : Instr) : s_D := Jvm.ClassFile.Instr.rec (motive := fun _ => s_D) (s_al 4 4) (s_aas) (s_vpush (.inr (4, .leaf 0))) (fun k => s_lda k) (fun k => s_lda k.val) (fun x => s_anew x) (s_re s_isr) (s_alen) (fun k => s_sta k) (fun k => s_sta k.val) s_no (s_al 1 3) (s_asb) (fun b => s_bpush 128 b) s_no s_no (fun x => s_cc x) s_no s_no s_no s_no s_no s_no (fun _ => s_no) (fun _ => s_no) s_no (fun _ => s_no) (fun _ => s_no) s_no s_no s_no s_no (fun _ => s_no) (fun _ => s_no) s_no (s_dup) s_no s_no (s_dup2) s_no s_no s_no s_no s_no s_no s_no s_no (fun _ => s_no) (fun _ => s_no) s_no (fun _ => s_no) (fun _ => s_no) s_no s_no s_no s_no (fun _ => s_no) (fun _ => s_no) s_no (fun x => s_getf x) (fun x => s_gets x) (fun off => s_goto off) (fun _ => s_no) (s_iu 12 s_ci2b) s_no s_no s_no (s_i2l) s_no (s_ib 1 s_cadd) (s_al 0 0) (s_ib 4 s_cand) (s_as 0 s_isi) (fun i => s_ipush i) (s_id 10 s_cdiv) (fun _ _ => s_no) (fun c off => s_br2 c off) (fun c off => s_br1 c off) (fun off => s_brn false off) (fun off => s_brn true off) (fun k d => s_inc k d) (fun k => s_ldi k) (fun k => s_ldi k.val) (s_ib 3 s_cmul) (s_iu 13 s_cneg) (fun _ => s_no) (fun _ => s_no) (fun _ _ => s_no) (fun x => s_invi x) (fun x => s_invs x) (fun x => s_invv p_MT x) (s_ib 5 s_cor) (s_id 11 s_crem) (s_re s_isi) (s_ib 7 s_cshl) (s_ib 8 s_cshr) (fun k => s_sti k) (fun k => s_sti k.val) (s_ib 2 s_csub) (s_ib 9 s_cushr) (s_ib 6 s_cxor) (fun _ => s_no) (fun _ => s_no) s_no s_no (s_l2i) (s_l2 (fun x y => x + y)) (s_al 2 2) s_no (s_as 2 s_long) (s_lcmp) (fun l => s_vpush (.inr (2, .leaf (Int.ofNat l.val)))) (fun x => s_cst x) (fun x => s_cst x) (fun x => s_cstl x) (s_ldv (fun x y => x / y)) (fun k => s_ldl k) (fun k => s_ldl k.val) (s_l2 (fun x y => x * y)) (s_lng) (fun d ps => s_lsw d ps) (s_l2 (fun x y => x ||| y)) (s_ldv (fun x y => x - x / y * y)) (s_re s_long) (s_lsh (fun x y => x <<< (y.toInt64 &&& 63))) (s_lsh (fun x y => x >>> (y.toInt64 &&& 63))) (fun k => s_stl k) (fun k => s_stl k.val) (s_l2 (fun x y => x - y)) s_no s_no s_no s_no (fun _ _ => s_no) (fun x => s_new p_GT x) (fun ty => s_newa ty) s_no (s_pop) (s_pop2) (fun x => s_putf p_GT x) (fun _ => s_no) (fun _ => s_no) (s_r0) s_no s_no (fun b => s_bpush 32768 b) s_no (fun d lo hi offs => s_tsw d lo hi offs) i
noncomputable def s_sfx (pc : Nat) (l : List p_I) : List p_I := List.rec (motive := fun _ => List p_I) [] (fun q r ih => Bool.rec (motive := fun _ => List p_I) ih (q :: r) (Nat.beq q.1 pc)) l
noncomputable def s_blk (M : p_M) (J : s_J) (C : s_CC) (R : s_K) (l : List p_I) : s_T := List.rec (motive := fun _ => s_T) (fun _ _ _ _ => false) (fun q _ ih => s_hd q.2.1 M q.1 ih J C R) l
def s_adj : List p_I → Bool
  | [] => true
  | q :: r => (match r with
    | [] => true
    | p :: _ => Nat.blt q.1 p.1 && (Nat.beq (p_ln q.2.1) 0 || Nat.beq (q.1 + p_ln q.2.1) p.1)) && s_adj r
abbrev s_X : Type := Nat → Nat → s_L → Nat → s_F → s_H → s_K → Bool → Bool
abbrev s_R : Type := Nat → s_T → Nat → p_M → s_K → Nat → s_T
def s_never : s_T := fun _ _ _ _ => false
noncomputable def s_call2 (ih : s_R) (A : s_L) (c : Nat) (F : s_F) (H : s_H) (K : s_K) (d : Nat) (M : p_M) : Bool := s_and (Nat.ble c M.2.2.1) (ih 99999 s_never d M K 0 F H A [])
noncomputable def s_call1 (X : s_X) (MT : List p_M) (ih : s_R) (m : Nat) (A : s_L) (c : Nat) (F : s_F) (H : s_H) (K : s_K) (d : Nat) : Bool := X d m A c F H K (Option.rec (motive := fun _ => Bool) false (s_call2 ih A c F H K d) (MT[m]?))
noncomputable def s_call (X : s_X) (MT : List p_M) (ih : s_R) (d : Nat) : s_CC := fun m A c F H K => Nat.rec (motive := fun _ => Bool) false (fun d _ => s_call1 X MT ih m A c F H K d) d
noncomputable def s_jmp (ih : s_R) (hd : Nat) (KS : s_T) (d : Nat) (M : p_M) (R : s_K) : s_J := fun t F H L S => s_if (Nat.beq t hd) (KS F H L S) (ih hd KS d M R t F H L S)
noncomputable def s_run1 (X : s_X) (ih : s_R) : s_R := fun hd KS d M R pc F H L S => s_and (s_adj M.2.2.2.2.1) (s_blk M (s_jmp ih hd KS d M R) (s_call X p_MT ih d) R (s_sfx pc M.2.2.2.2.1) F H L S)
noncomputable def s_run (X : s_X) (n : Nat) : s_R := Nat.rec (motive := fun _ => s_R) (fun _ _ _ _ _ _ _ _ _ _ => false) (fun _ ih => s_run1 X ih) n
def s_X0 : s_X := fun _ _ _ _ _ _ _ E => E

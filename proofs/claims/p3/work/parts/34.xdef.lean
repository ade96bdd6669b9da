/-! THE CHECKER: one step on what is known. -/
noncomputable def q_eqL : q_L → q_L → Bool
  | [], [] => true
  | a :: A, b :: B => Nat.beq a.1 b.1 && q_z (a.2 - b.2) && q_eqL A B
  | _, _ => false
noncomputable def q_eqE (a b : q_E) : Bool := q_z (a.2 - b.2) && q_eqL a.1 b.1
theorem q_eqL_ok : ∀ {A B : q_L}, q_eqL A B = true → A = B := by
  intro A
  induction A with
  | nil => intro B h; cases B with
    | nil => rfl
    | cons b B => simp [q_eqL] at h
  | cons a A ih =>
    intro B h
    cases B with
    | nil => simp [q_eqL] at h
    | cons b B =>
      simp only [q_eqL, Bool.and_eq_true] at h
      have h1 : a.1 = b.1 := Nat.eq_of_beq_eq_true h.1.1
      have h2 := q_z_iff.mp h.1.2
      rw [ih h.2]
      obtain ⟨a1, a2⟩ := a
      obtain ⟨b1, b2⟩ := b
      have h2 : a2 - b2 = 0 := h2
      have h1 : a1 = b1 := h1
      rw [h1, show a2 = b2 by omega]
theorem q_eqE_ok {a b : q_E} (h : q_eqE a b = true) : a = b := by
  simp only [q_eqE, Bool.and_eq_true] at h
  have h1 := q_z_iff.mp h.1
  have h2 := q_eqL_ok h.2
  obtain ⟨a1, a2⟩ := a
  obtain ⟨b1, b2⟩ := b
  have h1 : a2 - b2 = 0 := h1
  have h2 : a1 = b1 := h2
  rw [h2, show a2 = b2 by omega]
noncomputable def x_top : x_V := (0, 0, ([], 0))
noncomputable def x_kl (L : List x_V) (i : Nat) : List x_V := match i with
  | 0 => L
  | j + 1 => (match L[j]? with
    | some v => if Nat.beq v.1 2 then L.set j x_top else L
    | none => L)
noncomputable def x_s1 (L : List x_V) (i : Nat) (a : x_V) : List x_V := (x_kl L i).set i a
noncomputable def x_s2 (L : List x_V) (i : Nat) (a : x_V) : List x_V := ((x_kl L i).set i a).set (i + 1) x_top
/-- what is known of a place -/
noncomputable def x_mf (e : q_E) (j : Nat) : x_M → Option x_V
  | [] => none
  | m :: r => if Nat.beq m.2.2.1 j && q_eqE m.1 e then some m.2.2.2 else x_mf e j r
/-- what a place of a type may hold -/
noncomputable def x_ld (n : Nat) (F : q_F) (t : x_T) : List (Nat × q_F × x_V) := match t.1 with
  | 1 => [(n + 1, ((n, t.2.2.1, t.2.2.2) :: F.1, F.2.1, F.2.2), (1, 0, q_v n))]
  | 2 => [(n + 1, ((n, -9223372036854775808, 9223372036854775807) :: F.1, F.2.1, F.2.2), (2, 0, q_v n))]
  | 3 => if q_nn (t.2.2.1 - 1) then [(n, F, (3, t.2.1, q_c t.2.2.1))] else [(n + 1, F, (3, t.2.1, q_v n))]
  | 4 => [(n, F, (4, 0, ([], 0))), (n + 1, F, (3, t.2.1, q_v n))]
  | _ => []
noncomputable def x_fit (F : q_F) (t : x_T) (a : x_V) : Bool := match t.1, a.1 with
  | 1, 1 => q_ent F (q_pl a.2.2 (-t.2.2.1)) && q_ent F (q_sub (q_c t.2.2.2) a.2.2)
  | 2, 2 => true
  | 3, 3 => Nat.beq t.2.1 a.2.1 && (if q_nn (t.2.2.1 - 1) then q_eqF F a.2.2 (q_c t.2.2.1) else true)
  | 4, 3 => Nat.beq t.2.1 a.2.1
  | 4, 4 => true
  | _, _ => false
/-- kind, from, to: what a method may write -/
abbrev x_F : Type := List (Nat × Nat × Nat)
noncomputable def x_cov (f : x_F) (k lo hi : Nat) : Bool := f.any (fun t => Nat.beq t.1 k && Nat.ble t.2.1 lo && Nat.ble hi t.2.2)
noncomputable def x_apart (R : List (Nat × Nat)) (lo hi : Nat) : Bool := R.all (fun t => Nat.blt hi t.1 || Nat.blt t.2 lo)
/-- ghost g of a kind looks at none of lo .. hi -/
noncomputable def x_ga (K : x_K) (g lo hi : Nat) : Bool := K.2.2.2.2.2.1.all (fun t => !(Nat.beq t.1 g) || Nat.blt hi t.2.1 || Nat.blt t.2.2 lo)
/-- forget what may be written: places lo .. hi of kind k, and the ghosts that look there -/
noncomputable def x_kill (K : x_K) (k lo hi : Nat) (M : x_M) : x_M := M.filter (fun m => if Nat.ble x_gho m.2.2.1 then x_ga K (m.2.2.1 - x_gho) lo hi else (!(Nat.beq m.2.1 k) || Nat.beq m.2.2.1 x_len || (Nat.blt m.2.2.1 lo || Nat.blt hi m.2.2.1)))
noncomputable def x_out (pc n : Nat) (F : q_F) (L S : List x_V) (M : x_M) (u w : q_E) : Option (List (Nat × x_S)) := some [(pc, n, F, L, S, M, u, w)]
/-- the answer of arithmetic, as an int or a long, on the stack -/
noncomputable def x_num (t pc : Nat) (o : x_N) (L S : List x_V) (M : x_M) (u w : q_E) : Option (List (Nat × x_S)) := x_out pc o.1 o.2.1 L ((t, 0, o.2.2) :: S) M u w
noncomputable def x_get (i t pc n : Nat) (F : q_F) (L S : List x_V) (M : x_M) (u w : q_E) : Option (List (Nat × x_S)) := match L[i]? with
  | some a => if Nat.beq t a.1 || (Nat.beq t 3 && Nat.beq a.1 4) then x_out pc n F L (a :: S) M u w else none
  | none => none
/-- assume a form is 0 at least; nothing if it can't be -/
noncomputable def x_asm (F : q_F) (e : q_E) : Option q_F := if q_ent F (q_pl (q_sc (-1) e) (-1)) then none else some (q_asm F e)
noncomputable def x_asn (F : q_F) (e : q_E) : Option q_F := match q_isC e with
  | some d => if q_z d then none else some F
  | none => if q_ent F e && q_ent F (q_sc (-1) e) then none else some (q_asn F e)
noncomputable def x_as2 (F : q_F) (e : q_E) : Option q_F := match x_asm F e with
  | some F1 => x_asm F1 (q_sc (-1) e)
  | none => none
/-- the facts behind a comparison of a form with 0 that holds (b), or doesn't -/
noncomputable def x_cf (c : ClassFile.Cond) (b : Bool) (F : q_F) (e : q_E) : Option q_F := match c, b with
  | .eq, true => x_as2 F e
  | .eq, false => x_asn F e
  | .ne, true => x_asn F e
  | .ne, false => x_as2 F e
  | .lt, true => x_asm F (q_pl (q_sc (-1) e) (-1))
  | .lt, false => x_asm F e
  | .ge, true => x_asm F e
  | .ge, false => x_asm F (q_pl (q_sc (-1) e) (-1))
  | .gt, true => x_asm F (q_pl e (-1))
  | .gt, false => x_asm F (q_sc (-1) e)
  | .le, true => x_asm F (q_sc (-1) e)
  | .le, false => x_asm F (q_pl e (-1))
noncomputable def x_opt (pc n : Nat) (F : Option q_F) (L S : List x_V) (M : x_M) (u w : q_E) : List (Nat × x_S) := match F with
  | some F1 => [(pc, n, F1, L, S, M, u, w)]
  | none => []
noncomputable def x_br (c : ClassFile.Cond) (e : q_E) (pc : Nat) (off : Int) (n : Nat) (F : q_F) (L S : List x_V) (M : x_M) (u w : q_E) : Option (List (Nat × x_S)) := match p_tg pc off with
  | some t => some (x_opt t n (x_cf c true F e) L S M u w ++ x_opt (pc + 3) n (x_cf c false F e) L S M u w)
  | none => none
noncomputable def x_jm (pc : Nat) (off : Int) (n : Nat) (F : q_F) (L S : List x_V) (M : x_M) (u w : q_E) : Option (List (Nat × x_S)) := match p_tg pc off with
  | some t => x_out t n F L S M u w
  | none => none
/-- a switch: value by value -/
noncomputable def x_sw (e : q_E) (pc n : Nat) (F : q_F) (L S : List x_V) (M : x_M) (u w : q_E) : List Int → Int → Option (List (Nat × x_S))
  | [], _ => some []
  | off :: r, v => match p_tg pc off, x_sw e pc n F L S M u w r (v + 1) with
    | some t, some o => some (x_opt t n (x_as2 F (q_pl e (-v))) L S M u w ++ o)
    | _, _ => none
noncomputable def x_tab (e : q_E) (pc : Nat) (d lo hi : Int) (offs : Array Int) (n : Nat) (F : q_F) (L S : List x_V) (M : x_M) (u w : q_E) : Option (List (Nat × x_S)) := match p_tg pc d, x_sw e pc n F L S M u w offs.toList lo with
  | some t, some o => if q_z (hi - lo + 1 - offs.toList.length) then some (x_opt t n (x_asm F (q_pl (q_sc (-1) e) (lo - 1))) L S M u w ++ (x_opt t n (x_asm F (q_pl e (-hi - 1))) L S M u w ++ o)) else none
  | _, _ => none
noncomputable def x_look (e : q_E) (pc n : Nat) (F : q_F) (L S : List x_V) (M : x_M) (u w : q_E) (d : Int) : List (Int × Int) → Option (List (Nat × x_S))
  | [] => x_jm pc d n F L S M u w
  | q :: r => match p_tg pc q.2, x_look e pc n F L S M u w d r with
    | some t, some o => some (x_opt t n (x_as2 F (q_pl e (-q.1))) L S M u w ++ o)
    | _, _ => none
/-- all that a place may hold, each noted -/
noncomputable def x_lds (pc : Nat) (e : q_E) (k j : Nat) (L S : List x_V) (M : x_M) (u w : q_E) (A : List (Nat × q_F × x_V)) : List (Nat × x_S) := A.map (fun a => (pc, a.1, a.2.1, L, a.2.2 :: S, (e, k, j, a.2.2) :: M, u, w))
noncomputable def x_getf (E : List x_K) (P : List p_P) (x : Nat) (k : Nat) (e : q_E) (pc n : Nat) (F : q_F) (L S : List x_V) (M : x_M) (u w : q_E) : Option (List (Nat × x_S)) := match p_pk x 0 P, E[k]? with
  | some (ci, j), some K => if Nat.beq K.1 0 && Nat.beq K.2.1 ci && Nat.blt j.toNat K.2.2.2.2.2.2.1 then (match x_mf e j.toNat M with
      | some a => x_out pc n F L (a :: S) M u w
      | none => some (x_lds pc e k j.toNat L S M u w (x_ld n F (x_pt K j.toNat)))) else none
  | _, _ => none
/-- a value as a field of a type takes it -/
noncomputable def x_tyf (F : q_F) (ty : FieldType) (a : x_V) : Bool := match ty with
  | .boolean => x_fit F (1, 0, 0, 1) a
  | .int => Nat.beq a.1 1
  | .long => Nat.beq a.1 2
  | .object _ => Nat.beq a.1 3 || Nat.beq a.1 4
  | .array _ => Nat.beq a.1 3 || Nat.beq a.1 4
  | _ => false
noncomputable def x_putf (E : List x_K) (f : x_F) (G : p_G) (P : List p_P) (x : Nat) (a : x_V) (k : Nat) (e : q_E) (pc n : Nat) (F : q_F) (L S : List x_V) (M : x_M) (u w : q_E) : Option (List (Nat × x_S)) := match p_pk x 0 P, E[k]? with
  | some (ci, j), some K => (match (G[ci]?).bind (fun r => r[j.toNat]?) with
      | some (ty, fin) => if Nat.beq K.1 0 && Nat.beq K.2.1 ci && Nat.blt j.toNat K.2.2.2.2.2.2.1 && x_fit F (x_pt K j.toNat) a && x_cov f k j.toNat j.toNat && !fin && x_apart K.2.2.2.2.1 j.toNat j.toNat && x_tyf F ty a then x_out pc n F L S ((e, k, j.toNat, a) :: x_kill K k j.toNat j.toNat M) u w else none
      | none => none)
  | _, _ => none
/-- is the place within the array? -/
noncomputable def x_in0 (K : x_K) (F : q_F) (e i : q_E) (M : x_M) : Bool := q_ent F i && (q_ent F (q_pl (q_sub (q_c K.2.2.2.2.2.2.1) i) (-1)) || (match x_mf e x_len M with
  | some a => q_ent F (q_pl (q_sub a.2.2 i) (-1))
  | none => false))
noncomputable def x_in (K : x_K) (F : q_F) (e i : q_E) (M : x_M) : Bool := x_in0 K F e i M || x_in0 K (q_nar F) e i M
/-- the places that a form may be -/
noncomputable def x_rng (F : q_F) (i : q_E) : Option (Nat × Nat) := match x_mi F i, x_mx F i with
  | some l, some h => if q_nn l && q_nn h then some (l.toNat, h.toNat) else none
  | _, _ => none
noncomputable def x_en (K : x_K) (c d : Int) (t : x_T) : Nat → Int → Bool
  | 0, _ => true
  | m + 1, v => q_nn (c * v + d) && decide (x_pt K (c * v + d).toNat = t) && x_en K c d t m (v + 1)
/-- a type of all places that a form may be -/
noncomputable def x_it (K : x_K) (F : q_F) (i : q_E) : Option x_T := match q_isC i with
  | some d => some (x_pt K d.toNat)
  | none => if K.2.2.2.1.isEmpty then some (K.2.2.1.getD 0 (0, 0, 0, 0)) else (match i.1 with
    | [(x, c)] => (match q_lk x F.1 with
      | some b => if q_nn (64 - (b.2 - b.1)) && q_nn (b.2 - b.1) && x_en K c i.2 (x_pt K (c * b.1 + i.2).toNat) ((b.2 - b.1).toNat + 1) b.1 then some (x_pt K (c * b.1 + i.2).toNat) else none
      | none => none)
    | _ => none)
/-- every type of an array's places is an int's -/
noncomputable def x_ints (K : x_K) : Bool := (match (K.2.2.1.getD 0 (0, 0, 0, 0)).1 with
  | 1 => true
  | _ => false) && K.2.2.2.1.all (fun q => Nat.beq q.2.2.2.2.1 1)
noncomputable def x_al (E : List x_K) (t1 t2 : Nat) (i : q_E) (k : Nat) (e : q_E) (pc n : Nat) (F : q_F) (L S : List x_V) (M : x_M) (u w : q_E) : Option (List (Nat × x_S)) := match E[k]? with
  | some K => if (Nat.beq K.1 1 || Nat.beq K.1 2) && (Nat.beq K.2.1 t1 || Nat.beq K.2.1 t2) && x_in K F e i M then (match q_isC i with
      | some d => (match x_mf e d.toNat M with
        | some a => x_out pc n F L (a :: S) M u w
        | none => some (x_lds pc e k d.toNat L S M u w (x_ld n F (x_pt K d.toNat))))
      | none => (match x_it K F i with
        | some t => some ((x_ld n F t).map (fun a => (pc, a.1, a.2.1, L, a.2.2 :: S, M, u, w)))
        | none => if x_ints K then some ((x_ld n F x_any).map (fun a => (pc, a.1, a.2.1, L, a.2.2 :: S, M, u, w))) else none)) else none
  | none => none
/-- a value fits the places c * v + d, m of them from v on -/
noncomputable def x_enf (K : x_K) (F : q_F) (a : x_V) (c d : Int) : Nat → Int → Bool
  | 0, _ => true
  | m + 1, v => x_fit F (x_pt K (c * v + d).toNat) a && x_enf K F a c d m (v + 1)
noncomputable def x_fit1 (K : x_K) (F : q_F) (a : x_V) (i : q_E) : Bool := match i.1 with
  | [(x, c)] => (match q_lk x F.1 with
    | some b => q_nn (64 - (b.2 - b.1)) && q_nn (b.2 - b.1) && x_enf K F a c i.2 ((b.2 - b.1).toNat + 1) b.1
    | none => false)
  | _ => false
/-- a value fits all places lo .. hi -/
noncomputable def x_fits (K : x_K) (F : q_F) (a : x_V) (i : q_E) (lo hi : Nat) : Bool := match q_isC i with
  | some d => x_fit F (x_pt K d.toNat) a
  | none => (x_fit F (K.2.2.1.getD 0 (0, 0, 0, 0)) a && K.2.2.2.1.all (fun q => Nat.blt hi q.1 || Nat.blt q.2.1 lo || x_fit F q.2.2.2.2 a)) || x_fit1 K F a i
noncomputable def x_asA (E : List x_K) (f : x_F) (t : Nat) (a : x_V) (i : q_E) (k : Nat) (e : q_E) (pc n : Nat) (F : q_F) (L S : List x_V) (M : x_M) (u w : q_E) : Option (List (Nat × x_S)) := match E[k]?, x_rng F i with
  | some K, some (lo, hi) => if Nat.beq K.1 1 && Nat.beq K.2.1 t && x_in K F e i M && x_fits K F a i lo hi && x_cov f k lo hi && x_apart K.2.2.2.2.1 lo hi then x_out pc n F L S (match q_isC i with
      | some d => (e, k, d.toNat, a) :: x_kill K k lo hi M
      | none => x_kill K k lo hi M) u w else none
  | _, _ => none

/-- c << k for k from v on, m of them: all within lo .. hi -/
noncomputable def x_shc (c : Int) (lo hi : Int) : Nat → Int → Bool
  | 0, _ => true
  | m + 1, v => q_nn ((Int32.ofInt c <<< (Int32.ofInt v &&& 31)).toInt - lo) && q_nn (hi - (Int32.ofInt c <<< (Int32.ofInt v &&& 31)).toInt) && x_shc c lo hi m (v + 1)
noncomputable def x_shl' (n : Nat) (F : q_F) (a b : q_E) : x_N := match q_isC a, x_mi F b, x_mx F b with
  | some c, some l, some u => if q_nn l && q_nn (30 - u) && q_nn (u - l) && x_shc c (c * ((2 ^ l.toNat : Nat) : Int)) (c * ((2 ^ u.toNat : Nat) : Int)) ((u - l).toNat + 1) l then (if q_z (u - l) then (n, F, q_c (c * ((2 ^ l.toNat : Nat) : Int))) else x_fr n F (c * ((2 ^ l.toNat : Nat) : Int)) (c * ((2 ^ u.toNat : Nat) : Int))) else x_f32 n F
  | _, _, _ => x_f32 n F
noncomputable def x_lor' (n : Nat) (F : q_F) (a b : q_E) : x_N := match q_isC a, q_isC b with
  | some x, some y => (n, F, q_c (Int64.ofInt x ||| Int64.ofInt y).toInt)
  | _, _ => x_f64 n F
noncomputable def x_lsl' (n : Nat) (F : q_F) (a b : q_E) : x_N := match q_isC a, q_isC b with
  | some x, some y => (n, F, q_c (Int64.ofInt x <<< ((Int32.ofInt y).toInt64 &&& 63)).toInt)
  | _, _ => x_f64 n F
/-- a store into an array of bytes or booleans -/
noncomputable def x_asB (E : List x_K) (f : x_F) (i : q_E) (k : Nat) (e : q_E) (pc n : Nat) (F : q_F) (L S : List x_V) (M : x_M) (u w : q_E) : Option (List (Nat × x_S)) := match E[k]?, x_rng F i with
  | some K, some (lo, hi) => if Nat.beq K.1 1 && ((Nat.beq K.2.1 3 && decide (K.2.2.1 = [(1, 0, 0, 1)])) || (Nat.beq K.2.1 1 && decide (K.2.2.1 = [(1, 0, -128, 127)]))) && K.2.2.2.1.isEmpty && x_in K F e i M && x_cov f k lo hi && x_apart K.2.2.2.2.1 lo hi then x_out pc n F L S (x_kill K k lo hi M) u w else none
  | _, _ => none
/-- the words -/
noncomputable def x_gst (P : List p_P) (x : Nat) (pc n : Nat) (F : q_F) (L S : List x_V) (M : x_M) (u w : q_E) : Option (List (Nat × x_S)) := match p_pk x 6 P with
  | some _ => if M.any (fun m => Nat.beq m.2.2.1 x_len && Nat.beq m.2.1 1 && q_eqE m.1 (q_c 1)) then x_out pc n F L ((3, 1, q_c 1) :: S) M u w else none
  | none => none
/-- a piece of an array ends within it -/
noncomputable def x_up2 (K : x_K) (F : q_F) (e i : q_E) (M : x_M) : Bool := q_ent F (q_sub (q_c K.2.2.2.2.2.2.1) i) || (match x_mf e x_len M with
  | some a => q_ent F (q_sub a.2.2 i)
  | none => false)
noncomputable def x_acp (E : List x_K) (f : x_F) (nn dp : q_E) (kd : Nat) (ed : q_E) (sp : q_E) (ks : Nat) (es : q_E) (pc n : Nat) (F : q_F) (L S : List x_V) (M : x_M) (u w : q_E) : Option (List (Nat × x_S)) := match E[ks]?, E[kd]?, x_mi F dp, x_mx F (q_add dp nn) with
  | some Ks, some Kd, some lo, some hi => if Nat.beq Ks.1 1 && Nat.beq Ks.2.1 0 && Nat.beq Kd.1 1 && Nat.beq Kd.2.1 0 && decide (Ks.2.2.1 = [x_any]) && decide (Kd.2.2.1 = [x_any]) && Ks.2.2.2.1.isEmpty && Kd.2.2.2.1.isEmpty && Kd.2.2.2.2.1.isEmpty && q_ent F nn && q_ent F dp && q_ent F sp && x_up2 Ks F es (q_add sp nn) M && x_up2 Kd F ed (q_add dp nn) M && x_cov f kd lo.toNat hi.toNat && Nat.ble ((S.map (fun a => if Nat.beq a.1 2 || Nat.beq a.1 0 then 2 else 1)).sum) 8 then x_out pc n F L S (x_kill Kd kd lo.toNat hi.toNat M) u w else none
  | _, _, _, _ => none

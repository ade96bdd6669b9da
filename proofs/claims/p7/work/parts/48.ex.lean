/-! The executor itself -/
/-- a call: the method's number, its arguments, the rest of the stack -/
noncomputable def x_iv (E : List x_K) (MT : List p_M) (P : List p_P) (i : Instr) (S : List x_V) : Option (Nat × List x_V × List x_V) := match i with
  | .invokestatic x => (match p_pk x 7 P with
    | some _ => none
    | none => (match (match p_pk x 1 P with
        | some q => some q
        | none => p_pk x 11 P) with
      | some (m, c) => if Nat.ble c.toNat S.length && Nat.ble (x_catV (S.drop c.toNat)) 8 then some (m, (S.take c.toNat).reverse, S.drop c.toNat) else none
      | none => none))
  | .invokevirtual x => (match p_pk x 12 P with
    | some _ => none
    | none => (match p_pk x 9 P with
      | some (m, c) => if Nat.ble c.toNat S.length && Nat.ble (x_catV (S.drop c.toNat)) 9 then (match (S.take c.toNat).reverse, MT[m]? with
          | (3, k, e) :: A, some N => (match E[k]? with
            | some K => if Nat.beq K.1 0 && Nat.beq K.2.1 N.2.2.2.2.2.2.2 then some (m, (3, k, e) :: A, S.drop c.toNat) else none
            | none => none)
          | _, _ => none) else none
      | none => none))
  | _ => none
noncomputable def x_tagok (a : x_V) : Bool := Nat.beq a.1 1 || Nat.beq a.1 2 || Nat.beq a.1 3 || Nat.beq a.1 4
noncomputable def x_rv (rt : Option FieldType) (F : q_F) (i : Instr) (S : List x_V) : Option (Option x_V) := match i, S, rt with
  | .return_, [], none => some none
  | .ireturn, [(1, c, e)], some .int => some (some (1, c, e))
  | .ireturn, [(1, c, e)], some .boolean => if x_fit F (1, 0, 0, 1) (1, c, e) then some (some (1, c, e)) else none
  | .lreturn, [(2, c, e)], some .long => some (some (2, c, e))
  | .areturn, [(3, c, e)], some (.object _) => some (some (3, c, e))
  | .areturn, [(4, c, e)], some (.object _) => some (some (4, c, e))
  | .areturn, [(3, c, e)], some (.array _) => some (some (3, c, e))
  | .areturn, [(4, c, e)], some (.array _) => some (some (4, c, e))
  | _, _, _ => none
/-- fields of variables that are read ahead (variable, place) -/
noncomputable def x_mt (E : List x_K) (L : List x_V) : List (Nat × Nat) → Nat → q_F → x_M → Nat × q_F × x_M
  | [], n, F, Me => (n, F, Me)
  | t :: W, n, F, Me => match L[t.1]? with
    | some (3, k, e) => (match E[k]?, x_mf e t.2 Me with
      | some K, none => if Nat.beq K.1 0 && Nat.blt t.2 K.2.2.2.2.2.2.1 then (match x_ld n F (x_pt K t.2) with
          | [o] => x_mt E L W o.1 o.2.1 ((e, k, t.2, o.2.2) :: Me)
          | _ => x_mt E L W n F Me) else x_mt E L W n F Me
      | _, _ => x_mt E L W n F Me)
    | _ => x_mt E L W n F Me
/-- what is given with a body: at which places what is read ahead; pieces with contracts (place, arguments, length, contracts) -/
abbrev x_Y : Type := List (Nat × List (Nat × Nat)) × List (Nat × Nat × Nat × List x_C)
noncomputable def x_yW (pc : Nat) : List (Nat × List (Nat × Nat)) → List (Nat × Nat)
  | [] => []
  | t :: W => if Nat.beq t.1 pc then t.2 else x_yW pc W
noncomputable def x_yR (pc : Nat) : List (Nat × Nat × Nat × List x_C) → Option (Nat × Nat × List x_C)
  | [] => none
  | t :: W => if Nat.beq t.1 pc then some t.2 else x_yR pc W
noncomputable def x_ex (E : List x_K) (G : p_G) (MT : List p_M) (M : p_M) (D : List x_C) (C : x_C) (U : List x_U) (Y : x_Y) (mu : Option q_E) : Nat → Bool → Nat × x_S → Bool
  | 0, _, _ => false
  | k + 1, first, (pc, n0, F0, L, S, Me0, u, w) => match (if first then (n0, F0, Me0) else x_mt E L (x_yW pc Y.1) n0 F0 Me0) with
    | (n, F, Me) => if !first && U.any (fun T => Nat.beq T.1 pc) then S.isEmpty && U.any (fun T => Nat.beq T.1 pc && x_at C.2.1 mu T n F L Me u w)
      else match x_yR pc Y.2 with
      | some (ar, ln, Ds) => Nat.ble ar S.length && (match x_tks C 0 (S.take ar).reverse n (q_nar F) Me Ds with
        | some (d, th) => d.2.2.2.2.2.2.2.2.2.all (fun q => match x_beh E d q th n (q_nar F) L (S.drop ar) Me u w with
          | none => true
          | some s => x_ex E G MT M D C U Y mu k false (pc + ln, s))
        | none => false)
      | none => (match p_at pc M.2.2.2.2.1 with
        | none => false
        | some (i, _) => (match x_rv M.2.2.2.1 F i S with
          | some a => x_rt C a n (q_nar F) Me u w
          | none => (match x_iv E MT M.2.2.2.2.2.1 i S with
            | some (m, B, R) => B.all x_tagok && (match x_tks C m B n F Me D with
              | some (d, th) => d.2.2.2.2.2.2.2.2.2.all (fun q => match x_beh E d q th n F L R Me u w with
                | none => true
                | some s => x_ex E G MT M D C U Y mu k false (pc + 3, s))
              | none => false)
            | none => (match x_step E C.2.2.2.2.2.1 G M i pc n F L S Me u w with
              | some o => o.all (x_ex E G MT M D C U Y mu k false)
              | none => false))))

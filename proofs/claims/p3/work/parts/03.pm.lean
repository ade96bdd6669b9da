/-! THE PURE MACHINE: what the methods of the claim do, over a heap that is a list of cells. A cell: its sort (0 an object, 1 an array, 2 an array that is read alone), the number of its class or of its element type, its values. A reference is the place of a cell in the list. -/
abbrev p_C : Type := Nat × Nat × List Value
abbrev p_H : Type := List p_C
abbrev p_Ls : Type := List (Nat × Value)
/-- an entry of a constant pool: its index, what it is, a number, a number -/
abbrev p_P : Type := Nat × Nat × Nat × Int
abbrev p_I : Type := Nat × Instr × Nat
/-- a method: its name, bytes, number of variables, answer, instructions, pool; whether it is an <init>, and the number of its home -/
abbrev p_M : Type := MethodName × ByteArray × Nat × Option FieldType × List p_I × List p_P × Bool × Nat
/-- behind an instruction: it goes on; it returns; it calls -/
abbrev p_O : Type := (Nat × p_Ls × List Value × p_H) ⊕ (Option Value ⊕ (Nat × List Value × List Value))
/-- the field types of each kind of object, with whether they are final -/
abbrev p_G : Type := List (List (FieldType × Bool))
def p_lk (i : Nat) : p_Ls → Option Value
  | [] => none
  | q :: r => if Nat.beq q.1 i then some q.2 else p_lk i r
def p_s1 (ls : p_Ls) (i : Nat) (v : Value) : p_Ls := (i, v) :: ls.filter (fun q => !(q.1 == i) && !(q.1 + 1 == i && q.2.category == 2))
def p_s2 (ls : p_Ls) (i : Nat) (v : Value) : p_Ls := (i, v) :: ls.filter (fun q => !(q.1 == i) && (!(q.1 == i + 1) && !(q.1 + 1 == i && q.2.category == 2)))
def p_pk (x t : Nat) : List p_P → Option (Nat × Int)
  | [] => none
  | q :: r => if Nat.beq q.1 x && Nat.beq q.2.1 t then some q.2.2 else p_pk x t r
def p_at (pc : Nat) : List p_I → Option (Instr × Nat)
  | [] => none
  | q :: r => if Nat.beq q.1 pc then some q.2 else p_at pc r
def p_go (pc : Nat) (ls : p_Ls) (st : List Value) (h : p_H) : Option p_O := some (.inl (pc, ls, st, h))
def p_tg (pc : Nat) (off : Int) : Option Nat := match (pc : Int) + off with
  | .ofNat t => some t
  | .negSucc _ => none
def p_jm (pc : Nat) (off : Int) (ls : p_Ls) (st : List Value) (h : p_H) : Option p_O := match p_tg pc off with
  | some t => p_go t ls st h
  | none => none
def p_br (b : Bool) (pc : Nat) (off : Int) (ls : p_Ls) (st : List Value) (h : p_H) : Option p_O := match p_tg pc off with
  | some t => if b then p_go t ls st h else p_go (pc + 3) ls st h
  | none => none
def p_cd (c : ClassFile.Cond) (x y : Int32) : Bool := match c with
  | .eq => decide (x = y)
  | .ne => decide (¬ x = y)
  | .lt => decide (x < y)
  | .ge => decide (y ≤ x)
  | .gt => decide (y < x)
  | .le => decide (x ≤ y)
def p_ld (i : Nat) (t : Nat) (pc : Nat) (ls : p_Ls) (st : List Value) (h : p_H) : Option p_O := match t, p_lk i ls with
  | 0, some (.int v) => p_go pc ls (.int v :: st) h
  | 1, some (.long v) => p_go pc ls (.long v :: st) h
  | 2, some (.ref v) => p_go pc ls (.ref v :: st) h
  | 2, some .null => p_go pc ls (.null :: st) h
  | _, _ => none
/-- storing: the variables' number bounds it -/
def p_sv (nL i : Nat) (v : Value) (pc : Nat) (ls : p_Ls) (st : List Value) (h : p_H) : Option p_O := match v with
  | .int x => if i < nL then p_go pc (p_s1 ls i (.int x)) st h else none
  | .ref x => if i < nL then p_go pc (p_s1 ls i (.ref x)) st h else none
  | .null => if i < nL then p_go pc (p_s1 ls i .null) st h else none
  | .long x => if i + 1 < nL then p_go pc (p_s2 ls i (.long x)) st h else none
  | _ => none
def p_ix (i : Int32) (vs : List Value) : Option Value := if i < 0 then none else vs[i.toNatClampNeg]?
/-- reading a place of an array of element type t (t1 or t2) -/
def p_al (t1 t2 : Nat) (i : Int32) (a : Nat) (pc : Nat) (ls : p_Ls) (st : List Value) (h : p_H) : Option p_O := match h[a]? with
  | some (s, t, vs) => if (Nat.beq t t1 || Nat.beq t t2) && (Nat.beq s 1 || Nat.beq s 2) then (match p_ix i vs with
      | some v => p_go pc ls (v :: st) h
      | none => none) else none
  | none => none
/-- writing one -/
def p_as (t : Nat) (x : Value) (i : Int32) (a : Nat) (pc : Nat) (ls : p_Ls) (st : List Value) (h : p_H) : Option p_O := match h[a]? with
  | some (s, t', vs) => if Nat.beq t t' && Nat.beq s 1 then (match p_ix i vs with
      | some _ => p_go pc ls st (h.set a (1, t, vs.set i.toNatClampNeg x))
      | none => none) else none
  | none => none
def p_ty (a : ArrayType) : Option Nat := match a with
  | .int => some 0
  | .byte => some 1
  | .long => some 2
  | .boolean => some 3
  | _ => none
def p_fit (ty : FieldType) (v : Value) : Bool := fits ty v && (match ty, v with
  | .boolean, .int _ => true
  | .int, .int _ => true
  | .long, .long _ => true
  | .object _, _ => true
  | .array _, _ => true
  | _, _ => false)
def p_cpy (vs ws : List Value) (sp dp n : Nat) : List Value := ws.take dp ++ ((vs.drop sp).take n ++ ws.drop (dp + n))
def p_cat (st : List Value) : Nat := (st.map fun v => v.category).sum
def p_copy (n dp : Int32) (d : Nat) (sp : Int32) (s0 : Nat) (pc : Nat) (ls : p_Ls) (st : List Value) (h : p_H) : Option p_O := match h[s0]?, h[d]? with
  | some (1, 0, vs), some (1, 0, ws) => if ¬ sp < 0 ∧ ¬ dp < 0 ∧ ¬ n < 0 ∧ sp.toNatClampNeg + n.toNatClampNeg ≤ vs.length ∧ dp.toNatClampNeg + n.toNatClampNeg ≤ ws.length ∧ ((vs.drop sp.toNatClampNeg).take n.toNatClampNeg).all (fits .int) = true ∧ p_cat st ≤ 8
      then p_go pc ls st (h.set d (1, 0, p_cpy vs ws sp.toNatClampNeg dp.toNatClampNeg n.toNatClampNeg)) else none
  | _, _ => none
def p_getf (P : List p_P) (x a : Nat) (pc : Nat) (ls : p_Ls) (st : List Value) (h : p_H) : Option p_O := match p_pk x 0 P, h[a]? with
  | some (ci, k), some (0, ci', vs) => if Nat.beq ci ci' then (match vs[k.toNat]? with
      | some v => p_go pc ls (v :: st) h
      | none => none) else none
  | _, _ => none
def p_putf (G : p_G) (ini : Bool) (own : Nat) (P : List p_P) (x : Nat) (v : Value) (a : Nat) (pc : Nat) (ls : p_Ls) (st : List Value) (h : p_H) : Option p_O := match p_pk x 0 P, h[a]? with
  | some (ci, k), some (0, ci', vs) => if Nat.beq ci ci' then (match (G[ci]?).bind (fun r => r[k.toNat]?) with
      | some (ty, fin) => if p_fit ty v && (!fin || (ini && Nat.beq own ci)) && Nat.blt k.toNat vs.length then p_go pc ls st (h.set a (0, ci, vs.set k.toNat v)) else none
      | none => none) else none
  | _, _ => none
def p_new (G : p_G) (P : List p_P) (x : Nat) (pc : Nat) (ls : p_Ls) (st : List Value) (h : p_H) : Option p_O := match p_pk x 2 P with
  | some (ci, _) => (match G[ci]? with
      | some r => p_go pc ls (.ref h.length :: st) (h ++ [(0, ci, r.map (fun q => defaultValue q.1))])
      | none => none)
  | none => none
def p_newa (t : Nat) (v : Value) (n : Int32) (pc : Nat) (ls : p_Ls) (st : List Value) (h : p_H) : Option p_O :=
  if ¬ n < 0 ∧ n.toNatClampNeg ≤ 1000000 then p_go pc ls (.ref h.length :: st) (h ++ [(1, t, List.replicate n.toNatClampNeg v)]) else none
/-- how much may lie below the values of a call -/
def p_bd (t : Nat) : Nat := if Nat.beq t 9 then 9 else 8
def p_inv (t : Nat) (P : List p_P) (x : Nat) (st : List Value) : Option p_O := match p_pk x t P with
  | some (m, n) => if n.toNat ≤ st.length ∧ p_cat (st.drop n.toNat) ≤ p_bd t then some (.inr (.inr (m, (st.take n.toNat).reverse, st.drop n.toNat))) else none
  | none => none
/-- the receiver's kind is the method's home -/
def p_invv (MT : List p_M) (P : List p_P) (x : Nat) (st : List Value) (h : p_H) : Option p_O := match p_inv 9 P x st with
  | some (.inr (.inr (m, .ref a :: as, rest))) => (match MT[m]?, h[a]? with
      | some M, some (0, ci, _) => if Nat.beq M.2.2.2.2.2.2.2 ci then some (.inr (.inr (m, .ref a :: as, rest))) else none
      | _, _ => none)
  | _ => none
def p_clone (a : Nat) (pc : Nat) (ls : p_Ls) (st : List Value) (h : p_H) : Option p_O := match h[a]? with
  | some (1, 0, vs) => if vs.all (fits .int) = true ∧ p_cat st ≤ 8 then p_go pc ls (.ref h.length :: st) (h ++ [(1, 0, vs)]) else none
  | _ => none
def p_vir (MT : List p_M) (P : List p_P) (x : Nat) (pc : Nat) (ls : p_Ls) (st : List Value) (h : p_H) : Option p_O := match p_pk x 12 P, st with
  | some _, .ref a :: st' => p_clone a pc ls st' h
  | some _, _ => none
  | none, _ => p_invv MT P x st h
def p_cc (P : List p_P) (x a : Nat) (pc : Nat) (ls : p_Ls) (st : List Value) (h : p_H) : Option p_O := match p_pk x 13 P, h[a]? with
  | some _, some (1, 0, _) => p_go pc ls (.ref a :: st) h
  | _, _ => none
def p_invi (P : List p_P) (x : Nat) (pc : Nat) (ls : p_Ls) (st : List Value) (h : p_H) : Option p_O := match p_pk x 8 P, st with
  | some _, .ref _ :: st' => if p_cat st' ≤ 8 then p_go pc ls st' h else none
  | some _, _ => none
  | none, _ => (match p_inv 10 P x st with
      | some (.inr (.inr (m, .ref a :: as, rest))) => some (.inr (.inr (m, .ref a :: as, rest)))
      | _ => none)
def p_invs (P : List p_P) (x : Nat) (pc : Nat) (ls : p_Ls) (st : List Value) (h : p_H) : Option p_O := match p_pk x 7 P, st with
  | some _, .int n :: .int dp :: .ref d :: .int sp :: .ref s0 :: st' => p_copy n dp d sp s0 pc ls st' h
  | some _, _ => none
  | none, _ => (match p_inv 1 P x st with
      | some o => some o
      | none => p_inv 11 P x st)
def p_ret (rt : Option FieldType) (v : Option Value) : Option p_O := match rt, v with
  | none, none => some (.inr (.inl none))
  | some ty, some (.int x) => if narrow ty (.int x) = .int x then some (.inr (.inl (some (.int x)))) else none
  | some .long, some (.long x) => some (.inr (.inl (some (.long x))))
  | some (.object _), some .null => some (.inr (.inl (some .null)))
  | some (.object _), some (.ref a) => some (.inr (.inl (some (.ref a))))
  | some (.array _), some .null => some (.inr (.inl (some .null)))
  | some (.array _), some (.ref a) => some (.inr (.inl (some (.ref a))))
  | _, _ => none
def p_cst (P : List p_P) (x t pc : Nat) (ls : p_Ls) (st : List Value) (h : p_H) : Option p_O := match p_pk x t P with
  | some (_, b) => if Nat.beq t 4 then p_go pc ls (.long (Int64.ofInt b) :: st) h else p_go pc ls (.int (Int32.ofInt b) :: st) h
  | none => none
def p_sw (pc : Nat) (dflt lo hi : Int) (offs : Array Int) (x : Int32) (ls : p_Ls) (st : List Value) (h : p_H) : Option p_O :=
  if x.toInt < lo ∨ hi < x.toInt then p_jm pc dflt ls st h else (match offs[(x.toInt - lo).toNat]? with
    | some off => p_jm pc off ls st h
    | none => none)
def p_step (G : p_G) (MT : List p_M) (M : p_M) (i : Instr) (pc : Nat) (ls : p_Ls) (st : List Value) (h : p_H) : Option p_O := match i, st with
  | .iconst v, st => p_go (pc + 1) ls (.int (Int32.ofInt v) :: st) h
  | .bipush v, st => p_go (pc + 2) ls (.int (Int8.ofInt v).toInt32 :: st) h
  | .sipush v, st => p_go (pc + 3) ls (.int (Int16.ofInt v).toInt32 :: st) h
  | .lconst k, st => p_go (pc + 1) ls (.long (Int64.ofNat k) :: st) h
  | .aconst_null, st => p_go (pc + 1) ls (.null :: st) h
  | .ldc x, st => p_cst M.2.2.2.2.2.1 x 3 (pc + 2) ls st h
  | .ldc_w x, st => p_cst M.2.2.2.2.2.1 x 3 (pc + 3) ls st h
  | .ldc2_w x, st => p_cst M.2.2.2.2.2.1 x 4 (pc + 3) ls st h
  | .iload_n k, st => p_ld k 0 (pc + 1) ls st h
  | .iload k, st => p_ld k 0 (pc + 2) ls st h
  | .lload_n k, st => p_ld k 1 (pc + 1) ls st h
  | .lload k, st => p_ld k 1 (pc + 2) ls st h
  | .aload_n k, st => p_ld k 2 (pc + 1) ls st h
  | .aload k, st => p_ld k 2 (pc + 2) ls st h
  | .istore_n k, .int v :: st => p_sv M.2.2.1 k (.int v) (pc + 1) ls st h
  | .istore k, .int v :: st => p_sv M.2.2.1 k (.int v) (pc + 2) ls st h
  | .lstore_n k, .long v :: st => p_sv M.2.2.1 k (.long v) (pc + 1) ls st h
  | .lstore k, .long v :: st => p_sv M.2.2.1 k (.long v) (pc + 2) ls st h
  | .astore_n k, .ref v :: st => p_sv M.2.2.1 k (.ref v) (pc + 1) ls st h
  | .astore k, .ref v :: st => p_sv M.2.2.1 k (.ref v) (pc + 2) ls st h
  | .astore_n k, .null :: st => p_sv M.2.2.1 k .null (pc + 1) ls st h
  | .astore k, .null :: st => p_sv M.2.2.1 k .null (pc + 2) ls st h
  | .iinc k d, st => (match p_lk k ls with
      | some (.int v) => p_sv M.2.2.1 k (.int (v + Int32.ofInt d)) (pc + 3) ls st h
      | _ => none)
  | .iadd, .int y :: .int x :: st => p_go (pc + 1) ls (.int (x + y) :: st) h
  | .isub, .int y :: .int x :: st => p_go (pc + 1) ls (.int (x - y) :: st) h
  | .imul, .int y :: .int x :: st => p_go (pc + 1) ls (.int (x * y) :: st) h
  | .iand, .int y :: .int x :: st => p_go (pc + 1) ls (.int (x &&& y) :: st) h
  | .ior, .int y :: .int x :: st => p_go (pc + 1) ls (.int (x ||| y) :: st) h
  | .ixor, .int y :: .int x :: st => p_go (pc + 1) ls (.int (x ^^^ y) :: st) h
  | .ishl, .int y :: .int x :: st => p_go (pc + 1) ls (.int (x <<< (y &&& 31)) :: st) h
  | .ishr, .int y :: .int x :: st => p_go (pc + 1) ls (.int (x >>> (y &&& 31)) :: st) h
  | .iushr, .int y :: .int x :: st => p_go (pc + 1) ls (.int (x.toUInt32 >>> (y.toUInt32 &&& Int32.toUInt32 31)).toInt32 :: st) h
  | .idiv, .int y :: .int x :: st => if y = 0 then none else p_go (pc + 1) ls (.int (x / y) :: st) h
  | .irem, .int y :: .int x :: st => if y = 0 then none else p_go (pc + 1) ls (.int (x - x / y * y) :: st) h
  | .ineg, .int x :: st => p_go (pc + 1) ls (.int (-x) :: st) h
  | .ladd, .long y :: .long x :: st => p_go (pc + 1) ls (.long (x + y) :: st) h
  | .lsub, .long y :: .long x :: st => p_go (pc + 1) ls (.long (x - y) :: st) h
  | .lmul, .long y :: .long x :: st => p_go (pc + 1) ls (.long (x * y) :: st) h
  | .lor, .long y :: .long x :: st => p_go (pc + 1) ls (.long (x ||| y) :: st) h
  | .ldiv, .long y :: .long x :: st => if y = 0 then none else p_go (pc + 1) ls (.long (x / y) :: st) h
  | .lrem, .long y :: .long x :: st => if y = 0 then none else p_go (pc + 1) ls (.long (x - x / y * y) :: st) h
  | .lneg, .long x :: st => p_go (pc + 1) ls (.long (-x) :: st) h
  | .lshl, .int y :: .long x :: st => p_go (pc + 1) ls (.long (x <<< (y.toInt64 &&& 63)) :: st) h
  | .lshr, .int y :: .long x :: st => p_go (pc + 1) ls (.long (x >>> (y.toInt64 &&& 63)) :: st) h
  | .lcmp, .long y :: .long x :: st => p_go (pc + 1) ls (.int (lg_cmp x y) :: st) h
  | .i2l, .int x :: st => p_go (pc + 1) ls (.long x.toInt64 :: st) h
  | .l2i, .long x :: st => p_go (pc + 1) ls (.int x.toInt32 :: st) h
  | .i2b, .int x :: st => p_go (pc + 1) ls (.int x.toInt8.toInt32 :: st) h
  | .dup, v :: st => if v.category = 1 then p_go (pc + 1) ls (v :: v :: st) h else none
  | .pop, v :: st => if v.category = 1 then p_go (pc + 1) ls st h else none
  | .dup2, v :: w :: st => if v.category = 1 ∧ w.category = 1 then p_go (pc + 1) ls (v :: w :: v :: w :: st) h else none
  | .pop2, .long _ :: st => p_go (pc + 1) ls st h
  | .ifCond c off, .int x :: st => p_br (p_cd c x 0) pc off ls st h
  | .if_icmp c off, .int y :: .int x :: st => p_br (p_cd c x y) pc off ls st h
  | .ifnull off, .null :: st => p_jm pc off ls st h
  | .ifnull _, .ref _ :: st => p_go (pc + 3) ls st h
  | .ifnonnull off, .ref _ :: st => p_jm pc off ls st h
  | .ifnonnull _, .null :: st => p_go (pc + 3) ls st h
  | .goto off, st => p_jm pc off ls st h
  | .tableswitch dflt lo hi offs, .int x :: st => p_sw pc dflt lo hi offs x ls st h
  | .lookupswitch dflt ps, .int x :: st => if (ps.toList.zip (ps.toList.drop 1)).all (fun (a, next) => a.1 < next.1) then p_jm pc (Op.lookupswitch.offset ps.toList dflt x.toInt) ls st h else none
  | .iaload, .int i :: .ref a :: st => p_al 0 0 i a (pc + 1) ls st h
  | .laload, .int i :: .ref a :: st => p_al 2 2 i a (pc + 1) ls st h
  | .baload, .int i :: .ref a :: st => p_al 1 3 i a (pc + 1) ls st h
  | .aaload, .int i :: .ref a :: st => p_al 4 4 i a (pc + 1) ls st h
  | .iastore, .int x :: .int i :: .ref a :: st => p_as 0 (.int x) i a (pc + 1) ls st h
  | .lastore, .long x :: .int i :: .ref a :: st => p_as 2 (.long x) i a (pc + 1) ls st h
  | .bastore, .int x :: .int i :: .ref a :: st => (match p_as 1 (narrow .byte (.int x)) i a (pc + 1) ls st h with
      | some o => some o
      | none => p_as 3 (narrow .boolean (.int x)) i a (pc + 1) ls st h)
  | .aastore, .null :: .int i :: .ref a :: st => p_as 4 .null i a (pc + 1) ls st h
  | .aastore, .ref v :: .int i :: .ref a :: st => (match h[v]? with
      | some (0, 7, _) => p_as 4 (.ref v) i a (pc + 1) ls st h
      | _ => none)
  | .arraylength, .ref a :: st => (match h[a]? with
      | some (s, _, vs) => if Nat.beq s 1 || Nat.beq s 2 then p_go (pc + 1) ls (.int (Int32.ofNat vs.length) :: st) h else none
      | none => none)
  | .newarray ty, .int n :: st => (match p_ty ty with
      | some t => p_newa t (defaultValue (newarray.typeOf ty)) n (pc + 2) ls st h
      | none => none)
  | .anewarray x, .int n :: st => (match p_pk x 5 M.2.2.2.2.2.1 with
      | some _ => p_newa 4 .null n (pc + 3) ls st h
      | none => none)
  | .new x, st => p_new G M.2.2.2.2.2.1 x (pc + 3) ls st h
  | .getfield x, .ref a :: st => p_getf M.2.2.2.2.2.1 x a (pc + 3) ls st h
  | .putfield x, v :: .ref a :: st => p_putf G M.2.2.2.2.2.2.1 M.2.2.2.2.2.2.2 M.2.2.2.2.2.1 x v a (pc + 3) ls st h
  | .getstatic x, st => (match p_pk x 6 M.2.2.2.2.2.1 with
      | some _ => p_go (pc + 3) ls (.ref 1 :: st) h
      | none => none)
  | .invokestatic x, st => p_invs M.2.2.2.2.2.1 x (pc + 3) ls st h
  | .invokevirtual x, st => p_vir MT M.2.2.2.2.2.1 x (pc + 3) ls st h
  | .checkcast x, .ref a :: st => p_cc M.2.2.2.2.2.1 x a (pc + 3) ls st h
  | .invokespecial x, st => p_invi M.2.2.2.2.2.1 x (pc + 3) ls st h
  | .return_, [] => p_ret M.2.2.2.1 none
  | .ireturn, [.int x] => p_ret M.2.2.2.1 (some (.int x))
  | .lreturn, [.long x] => p_ret M.2.2.2.1 (some (.long x))
  | .areturn, [.null] => p_ret M.2.2.2.1 (some .null)
  | .areturn, [.ref a] => p_ret M.2.2.2.1 (some (.ref a))
  | _, _ => none
/-- d calls deep at most, n steps at most on the longest road -/
def p_run (G : p_G) (MT : List p_M) : Nat → Nat → p_M → Nat → p_Ls → List Value → p_H → Option (Option Value × p_H)
  | 0, _, _, _, _, _, _ => none
  | n + 1, d, M, pc, ls, st, h => match p_at pc M.2.2.2.2.1 with
    | none => none
    | some (i, _) => match p_step G MT M i pc ls st h with
      | none => none
      | some (.inl (pc', ls', st', h')) => p_run G MT n d M pc' ls' st' h'
      | some (.inr (.inl v)) => some (v, h)
      | some (.inr (.inr (m, as, rest))) => match d, MT[m]? with
        | d' + 1, some M' => if p_cat as ≤ M'.2.2.1 then (match p_run G MT n d' M' 0 (lv_args 0 as) [] h with
          | some (v, h') => p_run G MT n d M (pc + 3) ls (v.toList ++ rest) h'
          | none => none) else none
        | _, _ => none

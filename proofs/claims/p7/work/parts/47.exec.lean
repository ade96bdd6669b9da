/-! THE EXECUTOR: a body from a point on, until it returns or comes to a loop head -/
/-- a loop head: where; unknowns; facts; variables; known places; cells, places made; what falls -/
abbrev x_U : Type := Nat × Nat × q_F × List x_V × x_M × q_E × q_E × q_E
noncomputable def x_f1 (a b : x_V) (th : List (Option q_E)) : List (Option q_E) := match a.2.2 with
  | ([(x, c)], d) => if q_z (c - 1) && q_z d then (match th[x]? with
      | some none => th.set x (some b.2.2)
      | _ => th) else th
  | _ => th
noncomputable def x_fV : List x_V → List x_V → List (Option q_E) → List (Option q_E)
  | a :: A, b :: B, th => x_fV A B (x_f1 a b th)
  | _, _, th => th
noncomputable def x_un (th : List (Option q_E)) : List q_E := th.map (fun e => e.getD ([], 0))
noncomputable def x_fM (Me : x_M) : x_M → List (Option q_E) → List (Option q_E)
  | [], th => th
  | m :: T, th => x_fM Me T (match Me.find? (fun q => Nat.beq q.2.2.1 m.2.2.1 && Nat.beq q.2.1 m.2.1 && q_eqE (q_th (x_un th) m.1) q.1) with
    | some q => x_f1 m.2.2.2 q.2.2.2 th
    | none => th)
/-- the forms that are tried for a template's unknowns: the first np stay what they are -/
noncomputable def x_fd (np nT : Nat) (A B : List x_V) (T Me : x_M) : List q_E := x_un (x_fM Me T (x_fV A B ((List.range np).map (fun j => some (q_v j)) ++ List.replicate (nT - np) none)))
noncomputable def x_idp (np : Nat) (th : List q_E) : Bool := (List.range np).all (fun j => match th[j]? with
  | some e => q_eqE e (q_v j)
  | none => false)
noncomputable def x_wU (np : Nat) (T : x_U) : Bool := Nat.ble np T.2.1 && x_wF T.2.1 T.2.2.1 && T.2.2.2.1.all (x_wV T.2.1) && T.2.2.2.2.1.all (x_wM T.2.1) && x_wl T.2.1 T.2.2.2.2.2.1.1 && x_wl T.2.1 T.2.2.2.2.2.2.1.1 && x_wl T.2.1 T.2.2.2.2.2.2.2.1
/-- a state is one of a loop head -/
noncomputable def x_at (np : Nat) (mu : Option q_E) (T : x_U) (n : Nat) (F : q_F) (L : List x_V) (Me : x_M) (u w : q_E) : Bool :=
  let th := x_fd np T.2.1 T.2.2.2.1 L T.2.2.2.2.1 Me
  Nat.beq th.length T.2.1 && x_idp np th && th.all (fun e => x_wl n e.1) && x_cF F th T.2.2.1 && T.2.2.2.2.1.all (x_cM F th Me) && x_cV F th T.2.2.2.1 L && q_entd F (q_sub (q_th th T.2.2.2.2.2.1) u) && q_entd F (q_sub (q_th th T.2.2.2.2.2.2.1) w) && q_entd F (q_th th T.2.2.2.2.2.2.2) &&
  (match mu with
    | none => true
    | some e => q_entd F (q_pl (q_sub e (q_th th T.2.2.2.2.2.2.2)) (-1)))
/-- a return is one of a contract's outcomes -/
noncomputable def x_rt (C : x_C) (a : Option x_V) (n : Nat) (F : q_F) (Me : x_M) (u w : q_E) : Bool := C.2.2.2.2.2.2.2.2.2.any (fun q =>
  let th := x_fd C.2.1 q.1 q.2.2.1.toList a.toList q.2.2.2.1 Me
  x_cV F th q.2.2.1.toList a.toList && q.2.2.2.1.all (x_cM F th Me) && q_ent F (q_sub (q_c q.2.2.2.2.1) u) && q_ent F (q_sub (q_c q.2.2.2.2.2) w) && x_idp C.2.1 th && x_cF F th q.2.1 && q.2.2.2.1.all (x_wM q.1) && q.2.2.1.toList.all (x_wV q.1))
noncomputable def x_catV (S : List x_V) : Nat := (S.map (fun a => if Nat.beq a.1 2 || Nat.beq a.1 0 then 2 else 1)).sum
/-- new places ahead of the old ones, without those that are told anew -/
noncomputable def x_new (N Me : x_M) : x_M := N ++ Me.filter (fun m => !(N.any (fun q => Nat.beq q.2.2.1 m.2.2.1 && q_eqE q.1 m.1)))
theorem x_new_mem {N Me : x_M} {m : q_E × Nat × Nat × x_V} (h : m ∈ x_new N Me) : m ∈ N ∨ m ∈ Me := by
  rcases List.mem_append.mp h with h | h
  · exact Or.inl h
  · exact Or.inr (List.mem_filter.mp h).1
/-- the state behind an outcome of a call; none: it can't be -/
noncomputable def x_beh (E : List x_K) (D : x_C) (q : x_Q) (th : List q_E) (n : Nat) (F : q_F) (L S : List x_V) (Me : x_M) (u w : q_E) : Option x_S :=
  let th2 := x_th2 th n (q.1 - D.2.1)
  match x_aF D.2.1 n th2 q.2.1 F with
  | none => none
  | some G => some (n + (q.1 - D.2.1), G, L, (q.2.2.1.map (x_thv th2)).toList ++ S, x_new (q.2.2.2.1.map (fun m => (q_th th2 m.1, m.2.1, m.2.2.1, x_thv th2 m.2.2.2))) (Me.filter (x_kp E D.2.2.2.2.2.1)), q_pl u q.2.2.2.2.1, q_pl w q.2.2.2.2.2)
noncomputable def x_wQ (np : Nat) (q : x_Q) : Bool := Nat.ble np q.1 && x_wF q.1 q.2.1 && q.2.2.2.1.all (x_wM q.1) && q.2.2.1.toList.all (x_wV q.1)
/-- a contract takes a call -/
noncomputable def x_tk (C D : x_C) (m : Nat) (B : List x_V) (n : Nat) (F : q_F) (Me : x_M) : Option (List q_E) :=
  let th := x_fd 0 D.2.1 D.2.2.1 B D.2.2.2.2.1 Me
  if Nat.beq D.1 m && Nat.beq th.length D.2.1 && th.all (fun e => x_wl n e.1) && x_cV F th D.2.2.1 B && D.2.2.2.2.1.all (x_cM F th Me) && x_cF F th D.2.2.2.1 && D.2.2.1.all (x_wV D.2.1) && D.2.2.2.2.1.all (x_wM D.2.1) && D.2.2.2.2.2.1.all (fun t => x_cov C.2.2.2.2.2.1 t.1 t.2.1 t.2.2) && Nat.blt D.2.2.2.2.2.2.1 C.2.2.2.2.2.2.1 && D.2.2.2.2.2.2.2.2.2.all (x_wQ D.2.1) then some th else none
noncomputable def x_tks (C : x_C) (m : Nat) (B : List x_V) (n : Nat) (F : q_F) (Me : x_M) : List x_C → Option (x_C × List q_E)
  | [] => none
  | D :: R => match x_tk C D m B n F Me with
    | some th => some (D, th)
    | none => x_tks C m B n F Me R

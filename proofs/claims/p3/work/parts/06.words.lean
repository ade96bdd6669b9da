/-! What the tables must say of a method's pool, and that the listed instructions are those of its bytes -/
def p_big' : List Cond := p_big
def p_w1 (MT : List p_M) (M : p_M) (q : p_P) : List Cond := match q.2.1 with
  | 0 => (match vwCl[q.2.2.1]? with
      | some r => [.fieldLink M.1.cls q.1 (r.2.1 q.2.2.2.toNat).1 (r.2.1 q.2.2.2.toNat).2.1 (r.2.1 q.2.2.2.toNat).2.2.1]
      | none => [])
  | 1 => (match MT[q.2.2.1]? with
      | some N => [.methodLink M.1.cls q.1 N.1, .static N.1, .initialized N.1.cls, .code N.1 N.2.1 N.2.2.1 N.2.2.2.1]
      | none => [])
  | 11 => (match MT[q.2.2.1]? with
      | some N => [.static N.1, .initialized N.1.cls, .code N.1 N.2.1 N.2.2.1 N.2.2.2.1]
      | none => [])
  | 9 => (match MT[q.2.2.1]? with
      | some N => [.methodLink M.1.cls q.1 N.1, .instanceMethod N.1, .selects N.1.cls N.1 N.1, .initialized N.1.cls, .code N.1 N.2.1 N.2.2.1 N.2.2.2.1]
      | none => [])
  | 10 => (match MT[q.2.2.1]? with
      | some N => [.methodLink M.1.cls q.1 N.1, .instanceMethod N.1, .initialized N.1.cls, .code N.1 N.2.1 N.2.2.1 N.2.2.2.1]
      | none => [])
  | 2 => (match vwCl[q.2.2.1]? with
      | some r => [.classLink M.1.cls q.1 r.1, .instantiable r.1 r.2.2, .initialized r.1]
      | none => [])
  | 3 => [.constant M.1.cls q.1 (Int32.ofInt q.2.2.2)]
  | 4 => [.constantLong M.1.cls q.1 (Int64.ofInt q.2.2.2)]
  | 5 => [.classLink M.1.cls q.1 "CutInMay$Text"]
  | 6 => [.fieldLink M.1.cls q.1 "CutInMay$Reader" "WORDS" "[J"]
  | 7 => [.methodLink M.1.cls q.1 arraycopyName, .native arraycopyName, .static arraycopyName, .initialized "java/lang/System"]
  | 12 => [.methodLink M.1.cls q.1 ⟨"[I", "clone", "()Ljava/lang/Object;"⟩, .sameMethod "[I" "java/lang/Object" "clone" "()Ljava/lang/Object;", .native ⟨"java/lang/Object", "clone", "()Ljava/lang/Object;"⟩, .instanceMethod ⟨"java/lang/Object", "clone", "()Ljava/lang/Object;"⟩, .selects "[I" ⟨"[I", "clone", "()Ljava/lang/Object;"⟩ ⟨"java/lang/Object", "clone", "()Ljava/lang/Object;"⟩]
  | 13 => [.classLink M.1.cls q.1 "[I"]
  | 8 => [.methodLink M.1.cls q.1 objectInit, .instanceMethod objectInit, .code objectInit ⟨#[0xb1]⟩ 1 none]
  | _ => []
/-- words that a callee can't take from its caller's: they go with the state -/
def p_w2 (MT : List p_M) (M : p_M) (q : p_P) : List Cond := match q.2.1 with
  | 11 => (match MT[q.2.2.1]? with
      | some N => [.methodLinkNest M.1.cls q.1 N.1 "CutInMay"]
      | none => [])
  | _ => []
def p_N (U : State) : Prop := (∀ (a : String) (i : Nat) (x : MethodName) (h : String), Cond.methodLinkNest a i x h ∈ lw_tbl → va_Nw (.methodLinkNest a i x h) U) ∧ va_Nw (.castable "[I" "java/lang/Cloneable") U ∧ va_AO "CutInMay$Text" U
theorem p_N.moved {s U : State} (hW : s.WarmedH U.vm) (h : p_N s) : p_N U := ⟨fun a i x b hm => (h.1 a i x b hm).warmM hW, h.2.1.warmC hW, va_AO.moved hW.alike h.2.2⟩
theorem p_N.same {u U : State} (hv : u.vm = U.vm) (h : p_N u) : p_N U := ⟨fun a i x b hm => (h.1 a i x b hm).same rfl hv, h.2.1.same rfl hv, va_AO.moved (by rw [hv]; exact Vm.Alike.refl U.vm) h.2.2⟩
def p_par (y : MethodName) (n : Nat) : Bool := decide (y.cls ≠ "java/lang/invoke/MethodHandle" ∧ y.cls ≠ "java/lang/invoke/VarHandle" ∧ (parseMethodDescriptor y.desc).map (fun d => d.parameters.length) = some n)
def p_o1 (MT : List p_M) (q : p_P) : Bool := match q.2.1 with
  | 0 => (match vwCl[q.2.2.1]? with
      | some r => Nat.blt q.2.2.2.toNat r.2.2
      | none => false)
  | 1 => (match MT[q.2.2.1]? with
      | some N => p_par N.1 q.2.2.2.toNat && Nat.ble N.2.2.1 40
      | none => false)
  | 11 => (match MT[q.2.2.1]? with
      | some N => p_par N.1 q.2.2.2.toNat && Nat.ble N.2.2.1 40
      | none => false)
  | 9 => (match MT[q.2.2.1]? with
      | some N => p_par N.1 (q.2.2.2.toNat - 1) && Nat.ble 1 q.2.2.2.toNat && Nat.ble N.2.2.1 40
      | none => false)
  | 10 => (match MT[q.2.2.1]? with
      | some N => p_par N.1 (q.2.2.2.toNat - 1) && Nat.ble 1 q.2.2.2.toNat && Nat.ble N.2.2.1 40 && decide (N.1.name = "<init>") && decide (N.2.2.2.1 = none)
      | none => false)
  | 2 => (match vwCl[q.2.2.1]? with
      | some _ => true
      | none => false)
  | _ => true
theorem p_mbig {w : Cond} (h1 : w ∈ lw_tbl) (h2 : goodWord w = true) : w ∈ p_big := List.mem_filter.mpr ⟨h1, h2⟩
def p_MO (MT : List p_M) (M : p_M) : Prop :=
  plainFor M.1 = true ∧ M.2.2.1 ≤ 40 ∧ (∀ q ∈ M.2.2.2.2.1, decode M.2.1 q.1 = .ok q.2 ∧ (p_ln q.2.1 = 0 ∨ q.2.2 = p_ln q.2.1)) ∧ (∀ q ∈ M.2.2.2.2.2.1, p_o1 MT q = true ∧ ∀ w ∈ p_w1 MT M q, w ∈ p_big) ∧
  (M.2.2.2.2.2.2.1 = true → M.1.name = "<init>") ∧ (∀ r, vwCl[M.2.2.2.2.2.2.2]? = some r → r.1 = M.1.cls) ∧ ∀ q ∈ M.2.2.2.2.2.1, ∀ w ∈ p_w2 MT M q, w ∈ lw_tbl
/-- the kinds of objects -/
def p_GO (G : p_G) : Prop := ∀ (ci : Nat) (row : List (FieldType × Bool)), G[ci]? = some row → ∃ r : vw_C, vwCl[ci]? = some r ∧ row.length = r.2.2 ∧ (∀ w ∈ u_ws r.1 r.2.1 r.2.2, w ∈ p_big) ∧ (∀ a, a < r.2.2 → ∀ b, b < r.2.2 → a ≠ b → (r.2.1 a).2.1 ≠ (r.2.1 b).2.1) ∧
  ∀ (k : Nat) (x : FieldType × Bool), row[k]? = some x → parseFieldDescriptor (r.2.1 k).2.2.1 = some x.1 ∧ (r.2.1 k).2.2.2 = x.2 ∧ (r.2.1 k).1 = r.1
def p_TO (G : p_G) (MT : List p_M) : Prop := p_GO G ∧ (∀ M ∈ MT, p_MO MT M) ∧ ∀ (ci : Nat) (r : vw_C), vwCl[ci]? = some r → ∃ row, G[ci]? = some row
theorem p_at_mem {pc : Nat} {L : List p_I} {x : Instr × Nat} (h : p_at pc L = some x) : (pc, x) ∈ L := by
  induction L with
  | nil => simp [p_at] at h
  | cons q r ih =>
    simp only [p_at] at h
    split at h
    · next e =>
      cases h
      have e : q.1 = pc := Nat.eq_of_beq_eq_true e
      rw [← e]; exact List.mem_cons_self
    · exact List.mem_cons_of_mem _ (ih h)
theorem p_pk_mem {x t : Nat} {L : List p_P} {u : Nat × Int} (h : p_pk x t L = some u) : (x, t, u) ∈ L := by
  induction L with
  | nil => simp [p_pk] at h
  | cons q r ih =>
    simp only [p_pk] at h
    split at h
    · next e =>
      cases h
      rw [Bool.and_eq_true] at e
      have e1 : q.1 = x := Nat.eq_of_beq_eq_true e.1
      have e2 : q.2.1 = t := Nat.eq_of_beq_eq_true e.2
      rw [← e1, ← e2]; exact List.mem_cons_self
    · exact List.mem_cons_of_mem _ (ih h)
theorem p_lk_mem {i : Nat} {ls : p_Ls} {v : Value} (h : p_lk i ls = some v) : (i, v) ∈ ls := by
  induction ls with
  | nil => simp [p_lk] at h
  | cons q r ih =>
    simp only [p_lk] at h
    split at h
    · next e =>
      cases h
      have e : q.1 = i := Nat.eq_of_beq_eq_true e
      rw [← e]; exact List.mem_cons_self
    · exact List.mem_cons_of_mem _ (ih h)
theorem p_tg_eq {pc t : Nat} {off : Int} (h : p_tg pc off = some t) : (pc : Int) + off = (t : Int) := by
  simp only [p_tg] at h
  split at h
  · next k e => cases h; exact e
  · cases h
def p_sl (h : p_H) : Nat := (h.map (fun c => c.2.2.length)).sum
theorem p_sl_app (h : p_H) (c : p_C) : p_sl (h ++ [c]) = p_sl h + c.2.2.length := by simp [p_sl]
theorem p_sl_set {h : p_H} {i : Nat} {c c1 : p_C} (hi : h[i]? = some c) (hc : c1.2.2.length = c.2.2.length) : p_sl (h.set i c1) = p_sl h := by
  induction h generalizing i with
  | nil => rfl
  | cons x r ih =>
    cases i with
    | zero =>
      simp at hi
      subst hi
      simp [p_sl, hc]
    | succ k =>
      simp at hi
      have := ih hi
      simp only [p_sl, List.set_cons_succ, List.map_cons, List.sum_cons] at this ⊢
      omega

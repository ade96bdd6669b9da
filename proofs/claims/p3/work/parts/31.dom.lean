/-! WHAT A STATE OF THE PURE MACHINE IS KNOWN TO BE: values by forms, cells by kinds. -/
/-- 0 nothing is known; 1 an int; 2 a long; 3 a reference to a cell of a kind (the form is its place); 4 null; 6 an int with the sign of the form -/
abbrev x_V : Type := Nat × Nat × q_E
/-- the type of a place: 1 an int within bounds; 2 a long; 3 a reference to a kind; 4 that or null -/
abbrev x_T : Type := Nat × Nat × Int × Int
/-- a kind of cell: sort, number; the type of each field (of an array: of every place); places of an array with a type of their own (from, to, by, which, type); places that only proved methods write; places that a ghost looks at (which ghost, from, to); the least and greatest length -/
abbrev x_K : Type := Nat × Nat × List x_T × List (Nat × Nat × Nat × Nat × x_T) × List (Nat × Nat) × List (Nat × Nat × Nat) × Nat × Nat
/-- a known place: the cell, its kind, which place (x_len: its length, x_gho: its ghost), what is there -/
abbrev x_M : Type := List (q_E × Nat × Nat × x_V)
def x_len : Nat := 1000000
def x_gho : Nat := 1000001
/-- next unknown, facts, variables, stack, known places, cells made at most, places made at most -/
abbrev x_S : Type := Nat × q_F × List x_V × List x_V × x_M × q_E × q_E
def x_any : x_T := (1, 0, -2147483648, 2147483647)
def x_rg (j : Nat) : List (Nat × Nat × Nat × Nat × x_T) → Option x_T
  | [] => none
  | r :: k => if Nat.ble r.1 j && Nat.ble j r.2.1 && Nat.beq ((j - r.1) % r.2.2.1) r.2.2.2.1 then some r.2.2.2.2 else x_rg j k
/-- the type of place j of a kind -/
def x_pt (K : x_K) (j : Nat) : x_T := if Nat.beq K.1 0 then K.2.2.1.getD j (0, 0, 0, 0) else (match x_rg j K.2.2.2.1 with
  | some t => t
  | none => K.2.2.1.getD 0 (0, 0, 0, 0))
def x_fo (τ : Nat → Option Nat) (t : x_T) (v : Value) : Prop := match t.1 with
  | 1 => ∃ x : Int32, v = .int x ∧ t.2.2.1 ≤ x.toInt ∧ x.toInt ≤ t.2.2.2
  | 2 => ∃ x : Int64, v = .long x
  | 3 => ∃ a, v = .ref a ∧ τ a = some t.2.1 ∧ (0 < t.2.2.1 → (a : Int) = t.2.2.1)
  | 4 => v = .null ∨ ∃ a, v = .ref a ∧ τ a = some t.2.1
  | _ => False
/-- what is given with the kinds: of each cell and kind what its values are over and above, and the ghosts (which, the heap, a number) -/
abbrev x_E : Type := List x_K × (Nat → Nat → List Value → Prop) × (Nat → p_H → Int → Int)
def x_kc (E : x_E) (τ : Nat → Option Nat) (i k : Nat) (c : p_C) : Prop := ∃ K : x_K, E.1[k]? = some K ∧ c.1 = K.1 ∧ c.2.1 = K.2.1 ∧ K.2.2.2.2.2.2.1 ≤ c.2.2.length ∧ c.2.2.length ≤ K.2.2.2.2.2.2.2 ∧ (∀ (j : Nat) (v : Value), c.2.2[j]? = some v → x_fo τ (x_pt K j) v) ∧ E.2.1 i k c.2.2
def x_H (E : x_E) (τ : Nat → Option Nat) (h : p_H) : Prop := ∀ i k, τ i = some k → ∃ c, h[i]? = some c ∧ x_kc E τ i k c
def x_v (τ : Nat → Option Nat) (r : Nat → Int) (n : Nat) (a : x_V) (v : Value) : Prop := q_wl n a.2.2.1 ∧ match a.1 with
  | 1 => ∃ x : Int32, v = .int x ∧ x.toInt = q_e r a.2.2
  | 2 => ∃ x : Int64, v = .long x ∧ x.toInt = q_e r a.2.2
  | 3 => ∃ i : Nat, v = .ref i ∧ (i : Int) = q_e r a.2.2 ∧ τ i = some a.2.1
  | 4 => v = .null
  | 6 => ∃ x : Int32, v = .int x ∧ (x.toInt < 0 ↔ q_e r a.2.2 < 0) ∧ (x.toInt = 0 ↔ q_e r a.2.2 = 0)
  | 0 => True
  | _ => False
/-- a place of a cell is known, or its length, or (from x_gho on) a ghost at the number that the form is -/
def x_m (E : x_E) (τ : Nat → Option Nat) (r : Nat → Int) (n : Nat) (h : p_H) (m : q_E × Nat × Nat × x_V) : Prop := q_wl n m.1.1 ∧
  (if x_gho ≤ m.2.2.1 then q_wl n m.2.2.2.2.2.1 ∧ m.2.2.2.1 = 1 ∧ 80 ≤ h.length ∧ E.2.2 (m.2.2.1 - x_gho) h (q_e r m.1) = q_e r m.2.2.2.2.2 else
  ∃ (i : Nat) (c : p_C), (i : Int) = q_e r m.1 ∧ τ i = some m.2.1 ∧ h[i]? = some c ∧
  (if m.2.2.1 = x_len then q_wl n m.2.2.2.2.2.1 ∧ m.2.2.2.1 = 1 ∧ (c.2.2.length : Int) = q_e r m.2.2.2.2.2 else ∃ v, c.2.2[m.2.2.1]? = some v ∧ x_v τ r n m.2.2.2 v))
def x_vs (τ : Nat → Option Nat) (r : Nat → Int) (n : Nat) : List x_V → List Value → Prop
  | [], [] => True
  | a :: A, v :: V => x_v τ r n a v ∧ x_vs τ r n A V
  | _, _ => False
/-- the state s tells of this machine; h0: the heap at the method's start -/
def x_O (E : x_E) (τ : Nat → Option Nat) (r : Nat → Int) (h0 h : p_H) (ls : p_Ls) (st : List Value) (s : x_S) : Prop :=
  q_wF s.1 s.2.1 ∧ q_FO r s.2.1 ∧ (∀ (i : Nat) (a : x_V), s.2.2.1[i]? = some a → a.1 ≠ 0 → ∃ v, p_lk i ls = some v ∧ x_v τ r s.1 a v) ∧ x_vs τ r s.1 s.2.2.2.1 st ∧ (∀ m ∈ s.2.2.2.2.1, x_m E τ r s.1 h m) ∧
  q_wl s.1 s.2.2.2.2.2.1.1 ∧ (h.length : Int) ≤ h0.length + q_e r s.2.2.2.2.2.1 ∧ q_wl s.1 s.2.2.2.2.2.2.1 ∧ (p_sl h : Int) ≤ p_sl h0 + q_e r s.2.2.2.2.2.2
/-! other values of unknowns beyond n: all that was known stays -/
section XM
variable {E : x_E} {τ τ' : Nat → Option Nat} {r r' : Nat → Int} {n n' : Nat} {h h0 : p_H}
theorem x_v.moved {a : x_V} {v : Value} (hv : x_v τ r n a v) (hr : ∀ i, i < n → r' i = r i) (hn : n ≤ n') (ht : ∀ i k, τ i = some k → τ' i = some k) : x_v τ' r' n' a v := by
  obtain ⟨hw, hv⟩ := hv
  refine ⟨hw.mono hn, ?_⟩
  have he := q_e_eq (e := a.2.2) hw hr
  match h1 : a.1 with
  | 0 => trivial
  | 1 => simp only [h1] at hv ⊢; rw [he]; exact hv
  | 2 => simp only [h1] at hv ⊢; rw [he]; exact hv
  | 3 =>
    simp only [h1] at hv ⊢
    rw [he]
    obtain ⟨i, e1, e2, e3⟩ := hv
    exact ⟨i, e1, e2, ht _ _ e3⟩
  | 4 => simp only [h1] at hv ⊢; exact hv
  | 5 => simp only [h1] at hv
  | 6 => simp only [h1] at hv ⊢; rw [he]; exact hv
  | k + 7 => simp only [h1] at hv
theorem x_vs.moved : ∀ {A : List x_V} {V : List Value}, x_vs τ r n A V → (∀ i, i < n → r' i = r i) → n ≤ n' → (∀ i k, τ i = some k → τ' i = some k) → x_vs τ' r' n' A V := by
  intro A
  induction A with
  | nil => intro V hv _ _ _; cases V <;> exact hv
  | cons a A ih =>
    intro V hv hr hn ht
    cases V with
    | nil => exact hv
    | cons v V => exact ⟨hv.1.moved hr hn ht, ih hv.2 hr hn ht⟩
theorem x_m.moved {m : q_E × Nat × Nat × x_V} (hm : x_m E τ r n h m) (hr : ∀ i, i < n → r' i = r i) (hn : n ≤ n') (ht : ∀ i k, τ i = some k → τ' i = some k) : x_m E τ' r' n' h m := by
  obtain ⟨hw, hm⟩ := hm
  refine ⟨hw.mono hn, ?_⟩
  split
  · next g =>
    rw [if_pos g] at hm
    exact ⟨hm.1.mono hn, hm.2.1, hm.2.2.1, by rw [q_e_eq hm.1 hr, q_e_eq hw hr]; exact hm.2.2.2⟩
  · next g =>
    rw [if_neg g] at hm
    obtain ⟨i, c, e1, e2, e3, e4⟩ := hm
    refine ⟨i, c, by rw [q_e_eq hw hr]; exact e1, ht _ _ e2, e3, ?_⟩
    split
    · next g2 =>
      rw [if_pos g2] at e4
      exact ⟨e4.1.mono hn, e4.2.1, by rw [q_e_eq e4.1 hr]; exact e4.2.2⟩
    · next g2 =>
      rw [if_neg g2] at e4
      obtain ⟨v, e5, e6⟩ := e4
      exact ⟨v, e5, e6.moved hr hn ht⟩
theorem x_m.plc {m : q_E × Nat × Nat × x_V} (hm : x_m E τ r n h m) (g : m.2.2.1 < x_gho) : ∃ (i : Nat) (c : p_C), (i : Int) = q_e r m.1 ∧ τ i = some m.2.1 ∧ h[i]? = some c ∧
    (if m.2.2.1 = x_len then q_wl n m.2.2.2.2.2.1 ∧ m.2.2.2.1 = 1 ∧ (c.2.2.length : Int) = q_e r m.2.2.2.2.2 else ∃ v, c.2.2[m.2.2.1]? = some v ∧ x_v τ r n m.2.2.2 v) := by
  have := hm.2
  rw [if_neg (by omega)] at this
  exact this
theorem x_m.mkp {m : q_E × Nat × Nat × x_V} (hw : q_wl n m.1.1) (g : m.2.2.1 < x_gho) (hm : ∃ (i : Nat) (c : p_C), (i : Int) = q_e r m.1 ∧ τ i = some m.2.1 ∧ h[i]? = some c ∧
    (if m.2.2.1 = x_len then q_wl n m.2.2.2.2.2.1 ∧ m.2.2.2.1 = 1 ∧ (c.2.2.length : Int) = q_e r m.2.2.2.2.2 else ∃ v, c.2.2[m.2.2.1]? = some v ∧ x_v τ r n m.2.2.2 v)) : x_m E τ r n h m := by
  refine ⟨hw, ?_⟩
  rw [if_neg (by omega)]
  exact hm
end XM
/-- an unknown gets its value -/
def x_up (r : Nat → Int) (n : Nat) (x : Int) : Nat → Int := fun i => if i = n then x else r i
theorem x_up_lt {r : Nat → Int} {n : Nat} {x : Int} : ∀ i, i < n → x_up r n x i = r i := fun i hi => by simp [x_up, Nat.ne_of_lt hi]
theorem x_up_at {r : Nat → Int} {n : Nat} {x : Int} : x_up r n x n = x := by simp [x_up]
theorem x_I32 (x : Int32) : -2147483648 ≤ x.toInt ∧ x.toInt ≤ 2147483647 := by
  have h1 := Int32.le_toInt x
  have h2 := Int32.toInt_lt x
  omega
theorem x_I64 (x : Int64) : -9223372036854775808 ≤ x.toInt ∧ x.toInt ≤ 9223372036854775807 := by
  have h1 := Int64.le_toInt x
  have h2 := Int64.toInt_lt x
  omega

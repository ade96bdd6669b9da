/-! CONTRACTS for the checker. A contract: the method's number; how many unknowns stand before; the arguments; facts; known places; what may be written; the depth; cells and places made at most; the outcomes (how many unknowns then, facts, answer, known places, cells and places made at most). -/
abbrev x_Q : Type := Nat × q_F × Option x_V × x_M × Nat × Nat
abbrev x_C : Type := Nat × Nat × List x_V × q_F × x_M × x_F × Nat × Nat × Nat × List x_Q
noncomputable def x_ans (τ : Nat → Option Nat) (r : Nat → Int) (n : Nat) (a : Option x_V) (v : Option Value) : Prop := match a, v with
  | none, none => True
  | some a, some v => x_v τ r n a v
  | _, _ => False
noncomputable def x_Post (E : x_E) (C : x_C) (τ0 : Nat → Option Nat) (r0 : Nat → Int) (h0 : p_H) (v : Option Value) (h2 : p_H) : Prop := ∃ (τ : Nat → Option Nat) (r : Nat → Int), x_J E C.2.2.2.2.2.1 τ0 h0 τ h2 ∧ ∃ q ∈ C.2.2.2.2.2.2.2.2.2, h2.length ≤ h0.length + q.2.2.2.2.1 ∧ p_sl h2 ≤ p_sl h0 + q.2.2.2.2.2 ∧ (∀ i, i < C.2.1 → r i = r0 i) ∧ q_FO r q.2.1 ∧ x_ans τ r q.1 q.2.2.1 v ∧ ∀ m ∈ q.2.2.2.1, x_m E τ r q.1 h2 m
/-- the contract holds of the pure machine -/
noncomputable def x_Hold (G : p_G) (MT : List p_M) (E : x_E) (C : x_C) : Prop := ∀ (τ : Nat → Option Nat) (r : Nat → Int) (h : p_H) (as : List Value) (M : p_M), MT[C.1]? = some M → x_H E τ h → x_vs τ r C.2.1 C.2.2.1 as → q_FO r C.2.2.2.1 → (∀ m ∈ C.2.2.2.2.1, x_m E τ r C.2.1 h m) → p_cat as ≤ M.2.2.1 ∧ p_wp G MT C.2.2.2.2.2.2.1 M 0 (lv_args 0 as) [] h (x_Post E C τ r h)
/-- a contract of a piece of a body: from pc to pc + ln, its arguments on the stack -/
noncomputable def x_HoldR (G : p_G) (MT : List p_M) (E : x_E) (M : p_M) (pc ln : Nat) (C : x_C) : Prop := ∀ (τ : Nat → Option Nat) (r : Nat → Int) (h : p_H) (as rest : List Value) (ls : p_Ls) (d : Nat) (Q : Option Value → p_H → Prop), x_H E τ h → x_vs τ r C.2.1 C.2.2.1 as → q_FO r C.2.2.2.1 → (∀ m ∈ C.2.2.2.2.1, x_m E τ r C.2.1 h m) → (∀ v h2, x_Post E C τ r h v h2 → p_wp G MT d M (pc + ln) ls (v.toList ++ rest) h2 Q) → p_wp G MT d M pc ls (as.reverse ++ rest) h Q
/-! forms put for the unknowns of a contract -/
/-- the form of a value, put over into the caller's unknowns -/
noncomputable def x_thv (th : List q_E) (a : x_V) : x_V := (a.1, a.2.1, q_th th a.2.2)
section XC
variable {E : x_E} {τ : Nat → Option Nat} {r : Nat → Int} {n np : Nat} {th : List q_E} {h : p_H} {F : q_F}
theorem x_thv_ok {a : x_V} {v : Value} (hw : ∀ e ∈ th, q_wl n e.1) (hv : x_v τ (q_rt r th) np a v) : x_v τ r n (x_thv th a) v := by
  obtain ⟨-, hv⟩ := hv
  refine ⟨q_th_wl hw _, ?_⟩
  simp only [x_thv, q_th_e]
  exact hv
/-- a value of the caller's, as the contract has it -/
noncomputable def x_same (F : q_F) (th : List q_E) (a b : x_V) : Bool := match a.1 with
  | 0 => true
  | 4 => Nat.beq b.1 4
  | t => Nat.beq b.1 t && Nat.beq b.2.1 a.2.1 && q_eqF F (q_th th a.2.2) b.2.2
theorem x_same_ok {a b : x_V} {v : Value} (hF : q_FO r F) (hg : x_same F th a b = true) (ha : q_wl np a.2.2.1) (hb : x_v τ r n b v) : x_v τ (q_rt r th) np a v := by
  obtain ⟨hw, hv⟩ := hb
  refine ⟨ha, ?_⟩
  unfold x_same at hg
  split at hg
  · next e => simp only [e]
  · next e =>
    have := Nat.eq_of_beq_eq_true hg
    simp only [this] at hv
    simp only [e]; exact hv
  · simp only [Bool.and_eq_true] at hg
    have e1 := Nat.eq_of_beq_eq_true hg.1.1
    have e2 := Nat.eq_of_beq_eq_true hg.1.2
    have e3 := q_eqF_spec hF hg.2
    rw [q_th_e] at e3
    rw [e1, e2] at hv
    rw [e3]
    exact hv
end XC

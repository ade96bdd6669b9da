/-! Behind a call: what is still known, and what the outcome adds -/
/-- what is not written stays known -/
def x_kp (E : List x_K) (f : x_F) (m : q_E × Nat × Nat × x_V) : Bool := Nat.beq m.2.2.1 x_len || f.all (fun t => !(Nat.beq t.1 m.2.1) || (if Nat.beq m.2.2.1 x_gho then (match E[m.2.1]? with
    | some K => x_apart K.2.2.2.2.2.1 t.2.1 t.2.2
    | none => false) else (Nat.blt m.2.2.1 t.2.1 || Nat.blt t.2.2 m.2.2.1)))
/-- the ghost of a kind hangs on its places alone -/
def x_EG (E : x_E) : Prop := ∀ (k : Nat) (K : x_K) (vs vs' : List Value), E.1[k]? = some K → vs'.length = vs.length → (∀ j, (∃ t ∈ K.2.2.2.2.2.1, t.1 ≤ j ∧ j ≤ t.2) → vs'[j]? = vs[j]?) → E.2.2 k vs' = E.2.2 k vs
section XK
variable {E : x_E} {f : x_F} {τ τ' : Nat → Option Nat} {r r' : Nat → Int} {n n' : Nat} {h h2 : p_H}
theorem x_kp_m (hEG : x_EG E) (hH : x_H E τ h) {m : q_E × Nat × Nat × x_V} (hk : x_kp E.1 f m = true) (he : x_ef f τ h h2) (hm : x_m E τ r n h m) (hr : ∀ i, i < n → r' i = r i) (hn : n ≤ n') (ht : ∀ i k, τ i = some k → τ' i = some k) : x_m E τ' r' n' h2 m := by
  refine x_m.moved ?_ hr hn ht
  obtain ⟨hw, i, c, e1, e2, e3, e4⟩ := hm
  obtain ⟨c', g1, g2, g3⟩ := he.1 i _ c e2 e3
  refine ⟨hw, i, c', e1, e2, g1, ?_⟩
  split
  · next q =>
    rw [if_pos q] at e4
    rw [g2]; exact e4
  · next q =>
    rw [if_neg q] at e4
    have n1 : Nat.beq m.2.2.1 x_len = false := by
      cases z : Nat.beq m.2.2.1 x_len with
      | false => rfl
      | true => exact absurd (Nat.eq_of_beq_eq_true z) q
    simp only [x_kp, n1, Bool.false_or, List.all_eq_true, Bool.or_eq_true, Bool.not_eq_true'] at hk
    split
    · next q2 =>
      rw [if_pos q2] at e4
      refine ⟨e4.1, e4.2.1, ?_⟩
      rw [← e4.2.2]
      obtain ⟨_, _, K, hK, -⟩ := hH i _ e2
      refine hEG _ K _ _ hK g2 (fun j hj => g3 j (fun t htf htk hj2 => ?_))
      obtain ⟨s, hs1, hs2, hs3⟩ := hj
      rcases hk t htf with z | z
      · rw [htk] at z
        simp at z
      · rw [q2, Nat.beq_refl, if_pos rfl, hK] at z
        have := x_apart_in z hj2.1 hj2.2
        simp only [x_apart, List.all_eq_true, Bool.or_eq_true] at this
        rcases this s hs1 with y | y
        · have := Nat.le_of_ble_eq_true y; omega
        · have := Nat.le_of_ble_eq_true y; omega
    · next q2 =>
      rw [if_neg q2] at e4
      have n2 : Nat.beq m.2.2.1 x_gho = false := by
        cases z : Nat.beq m.2.2.1 x_gho with
        | false => rfl
        | true => exact absurd (Nat.eq_of_beq_eq_true z) q2
      obtain ⟨v, v1, v2⟩ := e4
      refine ⟨v, ?_, v2⟩
      rw [g3 m.2.2.1 (fun t htf htk hj => ?_)]
      · exact v1
      · rcases hk t htf with z | z
        · rw [htk] at z
          simp at z
        · rw [n2] at z
          simp only [Bool.false_eq_true, if_false, Bool.or_eq_true] at z
          rcases z with y | y
          · have := Nat.le_of_ble_eq_true y; omega
          · have := Nat.le_of_ble_eq_true y; omega
end XK

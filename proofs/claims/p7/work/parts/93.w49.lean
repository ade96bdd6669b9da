/-! Bounds of what a text answers -/
section RS17
variable {b : Nat → Nat} {n : Nat}
theorem t_x_le {p : Nat} (h : p ≤ n) : t_x b n p ≤ n := by
  by_cases q : p < n
  · exact (t_x_lt q).2
  · have e : t_k b n p = 0 := t_k_end q
    have e2 : t_e b n p = p := by unfold t_e; rw [e]; rfl
    unfold t_x
    rw [e2]
    exact (t_sk_le h).2
theorem t_P_le {S : Bool} : ∀ {f mode d k p : Nat}, p ≤ n → (t_P b n S f mode d k p).2 ≤ n := by
  intro f
  induction f with
  | zero => intro mode d k p _; exact Nat.zero_le _
  | succ f ih =>
    intro mode d k p hp
    have hx := t_x_le (b := b) hp
    simp only [t_P]
    (repeat' split) <;> first | exact hp | exact hx | exact ih hp | exact ih hx | exact t_x_le (ih hp) | exact t_x_le (ih hx) | exact ih (ih hp) | exact ih (ih hx) | exact ih (t_x_le (ih hp)) | exact ih (t_x_le (ih hx)) | exact ih (t_x_le (t_x_le (ih hx)))
theorem t_cl_le {m o p : Nat} (h : p ≤ n) : (t_cl b n m o p).2 ≤ n := by
  have h1 : ∀ (S : Bool) (q : Nat), q ≤ n → (t_P b n S 4000 2 0 0 q).2 ≤ n := fun S q hq => t_P_le hq
  have h2 : ∀ (A : List (Nat × Nat × Nat)) (q : Nat), q ≤ n → (t_D b n A q).2 ≤ n := fun A q hq => (t_D_le A q hq).2
  have hx := t_x_le (b := b) h
  unfold t_cl
  simp only
  (repeat' split) <;> first | exact h | exact h1 _ _ hx | exact h2 _ _ hx | exact t_x_le (h1 _ _ hx) | exact t_x_le (h2 _ _ hx)
theorem t_tx_le : ∀ f m o p, p ≤ n → (t_tx b n f m o p).2 ≤ n := by
  intro f
  induction f with
  | zero => intro m o p h; exact h
  | succ f ih =>
    intro m o p h
    simp only [t_tx]
    by_cases q0 : t_k b n p = 0
    · rw [if_pos q0]; exact h
    · rw [if_neg q0]
      by_cases q1 : (t_cl b n m o p).1 ≠ 0
      · rw [if_pos q1]; exact t_cl_le h
      · rw [if_neg q1]; exact ih _ _ _ (t_cl_le h)
theorem t_text_le : (t_text b n).2 ≤ n := t_tx_le _ _ _ _ (t_sk_le (Nat.zero_le n)).2
theorem t_D_99 {A : List (Nat × Nat × Nat)} : ∀ {p : Nat}, (t_D b n A p).1 ≤ 99 := by
  induction A with
  | nil => intro p; exact Nat.zero_le _
  | cons s A ih =>
    intro p
    simp only [t_D]
    (repeat' split) <;> first | exact ih | decide | simp
theorem t_cl_99 {m o p : Nat} : (t_cl b n m o p).1 ≤ 99 := by
  have h1 : ∀ (S : Bool) (q : Nat), (t_P b n S 4000 2 0 0 q).1 ≤ 99 := fun S q => Nat.le_of_lt_succ t_P_100
  have h2 : ∀ (A : List (Nat × Nat × Nat)) (q : Nat), (t_D b n A q).1 ≤ 99 := fun A q => t_D_99
  unfold t_cl
  simp only
  (repeat' split) <;> first | exact h1 _ _ | exact h2 _ _ | decide | simp
theorem t_tx_99 : ∀ f m o p, (t_tx b n f m o p).1 ≤ 99 := by
  intro f
  induction f with
  | zero => intro m o p; exact Nat.le_refl _
  | succ f ih =>
    intro m o p
    simp only [t_tx]
    by_cases q0 : t_k b n p = 0
    · rw [if_pos q0]; first | decide | simp
    · rw [if_neg q0]
      by_cases q1 : (t_cl b n m o p).1 ≠ 0
      · rw [if_pos q1]; exact t_cl_99
      · rw [if_neg q1]; exact ih _ _ _
theorem t_text_99 : (t_text b n).1 ≤ 99 := t_tx_99 _ _ _ _
end RS17

/-! Returns and calls as the executor sees them are those of the machine -/
section XRV
variable {E : x_E} {τ τ0 : Nat → Option Nat} {r r0 : Nat → Int} {n np : Nat} {th : List q_E} {h h0 : p_H} {F : q_F} {L S : List x_V} {Me : x_M} {u w : q_E} {ls : p_Ls} {st : List Value} {G : p_G} {MT : List p_M} {M : p_M} {i : Instr} {pc : Nat}
theorem x_bit {x : Int32} (h1 : 0 ≤ x.toInt) (h2 : x.toInt ≤ 1) : x &&& 1 = x := by
  have : x = 0 ∨ x = 1 := by
    by_cases h : x.toInt = 0
    · left; exact Int32.toInt_inj.mp (by rw [h]; rfl)
    · right; exact Int32.toInt_inj.mp (by rw [show x.toInt = 1 by omega]; rfl)
  rcases this with h | h <;> subst h <;> rfl
theorem x_rv_ok {a : Option x_V} (hF : q_FO r F) (hS : x_vs τ r n S st) (hg : x_rv M.2.2.2.1 F i S = some a) : ∃ v, p_step G MT M i pc ls st h = some (.inr (.inl v)) ∧ x_ans τ r n a v := by
  unfold x_rv at hg
  split at hg
  · next hr =>
    cases st with
    | cons x st => exact hS.elim
    | nil =>
      cases hg
      exact ⟨none, by simp only [p_step, p_ret, hr], trivial⟩
  · next hr =>
    cases hg
    obtain ⟨x, V, rfl, hw, hx, hv⟩ := x_t1 hS
    cases V with
    | cons y V => exact hv.elim
    | nil => exact ⟨some (.int x), by simp only [p_step, p_ret, hr, narrow, if_true], hw, x, rfl, hx⟩
  · next hr =>
    split at hg
    · next hb =>
      cases hg
      obtain ⟨x, V, rfl, hw, hx, hv⟩ := x_t1 hS
      obtain ⟨y, hy, b1, b2⟩ := x_fit_ok (τ := τ) hF hb (x_mkI hw hx)
      cases hy
      cases V with
      | cons y V => exact hv.elim
      | nil =>
        refine ⟨some (.int x), ?_, hw, x, rfl, hx⟩
        simp only [p_step, p_ret, hr, narrow, x_bit b1 b2, if_true]
    · cases hg
  · next hr =>
    cases hg
    obtain ⟨x, V, rfl, hw, hx, hv⟩ := x_t2 hS
    cases V with
    | cons y V => exact hv.elim
    | nil => exact ⟨some (.long x), by simp only [p_step, p_ret, hr], hw, x, rfl, hx⟩
  · next hr =>
    cases hg
    obtain ⟨x, V, rfl, hx, hv⟩ := x_t3 hS
    cases V with
    | cons y V => exact hv.elim
    | nil => exact ⟨some (.ref x), by simp only [p_step, p_ret, hr], hx⟩
  · next hr =>
    cases hg
    obtain ⟨V, rfl, hv, hx⟩ := x_t4 hS
    cases V with
    | cons y V => exact hv.elim
    | nil => exact ⟨some .null, by simp only [p_step, p_ret, hr], hx⟩
  · next hr =>
    cases hg
    obtain ⟨x, V, rfl, hx, hv⟩ := x_t3 hS
    cases V with
    | cons y V => exact hv.elim
    | nil => exact ⟨some (.ref x), by simp only [p_step, p_ret, hr], hx⟩
  · next hr =>
    cases hg
    obtain ⟨V, rfl, hv, hx⟩ := x_t4 hS
    cases V with
    | cons y V => exact hv.elim
    | nil => exact ⟨some .null, by simp only [p_step, p_ret, hr], hx⟩
  · cases hg
theorem x_vs_len : ∀ {A : List x_V} {V : List Value}, x_vs τ r n A V → A.length = V.length := by
  intro A
  induction A with
  | nil => intro V hv; cases V with
    | nil => rfl
    | cons v V => exact hv.elim
  | cons a A ih => intro V hv; cases V with
    | nil => exact hv.elim
    | cons v V => simp only [List.length_cons, ih hv.2]
theorem x_vs_drop : ∀ {A : List x_V} {V : List Value} (k : Nat), x_vs τ r n A V → x_vs τ r n (A.drop k) (V.drop k) := by
  intro A
  induction A with
  | nil => intro V k hv; cases V with
    | nil => simpa using hv
    | cons v V => exact hv.elim
  | cons a A ih => intro V k hv; cases V with
    | nil => exact hv.elim
    | cons v V => cases k with
      | zero => exact hv
      | succ k => exact ih k hv.2
theorem x_vs_take : ∀ {A : List x_V} {V : List Value} (k : Nat), x_vs τ r n A V → x_vs τ r n (A.take k) (V.take k) := by
  intro A
  induction A with
  | nil => intro V k hv; cases V with
    | nil => simpa using hv
    | cons v V => exact hv.elim
  | cons a A ih => intro V k hv; cases V with
    | nil => exact hv.elim
    | cons v V => cases k with
      | zero => exact trivial
      | succ k => exact ⟨hv.1, ih k hv.2⟩
theorem x_vs_app : ∀ {A B : List x_V} {V W : List Value}, x_vs τ r n A V → x_vs τ r n B W → x_vs τ r n (A ++ B) (V ++ W) := by
  intro A
  induction A with
  | nil => intro B V W hv hw; cases V with
    | nil => exact hw
    | cons v V => exact hv.elim
  | cons a A ih => intro B V W hv hw; cases V with
    | nil => exact hv.elim
    | cons v V => exact ⟨hv.1, ih hv.2 hw⟩
theorem x_vs_rev : ∀ {A : List x_V} {V : List Value}, x_vs τ r n A V → x_vs τ r n A.reverse V.reverse := by
  intro A
  induction A with
  | nil => intro V hv; cases V with
    | nil => exact trivial
    | cons v V => exact hv.elim
  | cons a A ih => intro V hv; cases V with
    | nil => exact hv.elim
    | cons v V =>
      rw [List.reverse_cons, List.reverse_cons]
      exact x_vs_app (ih hv.2) ⟨hv.1, trivial⟩
end XRV

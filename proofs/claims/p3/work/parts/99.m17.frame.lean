/-! A heap only grows; a whole body; a method -/
section PF
variable {G : p_G} {MT : List p_M} {M : p_M} {h h1 : p_H} {pc pc1 : Nat} {ls ls1 : p_Ls} {st st1 : List Value}
def p_le (h h1 : p_H) : Prop := h.length ≤ h1.length ∧ p_sl h ≤ p_sl h1
theorem p_le.rf : p_le h h := ⟨Nat.le_refl _, Nat.le_refl _⟩
theorem p_le.tr {h2 : p_H} (a : p_le h h1) (b : p_le h1 h2) : p_le h h2 := ⟨Nat.le_trans a.1 b.1, Nat.le_trans a.2 b.2⟩
theorem p_le.go {pc' : Nat} {ls' : p_Ls} {st' : List Value} (hs : p_go pc' ls' st' h = some (.inl (pc1, ls1, st1, h1))) : p_le h h1 := by
  obtain ⟨-, -, -, rfl⟩ := p_go_eq hs
  exact p_le.rf
theorem p_le.put {pc' a : Nat} {ls' : p_Ls} {st' : List Value} {c0 c1 : p_C} (ha : h[a]? = some c0) (hl : c1.2.2.length = c0.2.2.length) (hs : p_go pc' ls' st' (h.set a c1) = some (.inl (pc1, ls1, st1, h1))) : p_le h h1 := by
  obtain ⟨-, -, -, rfl⟩ := p_go_eq hs
  exact ⟨by rw [List.length_set]; exact Nat.le_refl _, by rw [p_sl_set ha hl]; exact Nat.le_refl _⟩
theorem p_le.new {pc' : Nat} {ls' : p_Ls} {st' : List Value} {c1 : p_C} (hs : p_go pc' ls' st' (h ++ [c1]) = some (.inl (pc1, ls1, st1, h1))) : p_le h h1 := by
  obtain ⟨-, -, -, rfl⟩ := p_go_eq hs
  exact ⟨by rw [List.length_append]; omega, by rw [p_sl_app]; omega⟩
theorem p_le.as {t : Nat} {x : Value} {i : Int32} {a pc' : Nat} (hs : p_as t x i a pc' ls st h = some (.inl (pc1, ls1, st1, h1))) : p_le h h1 := by
  simp only [p_as] at hs
  split at hs
  · next sort t' vs ha =>
    split at hs
    · split at hs
      · exact p_le.put ha (by simp) hs
      · cases hs
    · cases hs
  · cases hs
set_option maxHeartbeats 1000000 in
theorem p_le.step {i : Instr} (hs : p_step G MT M i pc ls st h = some (.inl (pc1, ls1, st1, h1))) : p_le h h1 := by
  unfold p_step at hs
  split at hs
  all_goals first
    | exact p_le.go hs
    | ((try simp only [p_cst, p_ld, p_sv, p_jm, p_br, p_sw, p_al, p_getf, p_ret, p_cc] at hs); (repeat' split at hs) <;> first | exact p_le.go hs | (cases hs; done))
    | exact p_le.as hs
    | (simp only [p_new, p_newa] at hs; (repeat' split at hs) <;> first | exact p_le.new hs | (cases hs; done))
    | ((repeat' split at hs) <;> first | exact p_le.as hs | (cases hs; done))
    | skip
  · split at hs
    · next o ho => cases hs; exact p_le.as ho
    · exact p_le.as hs
  · simp only [p_putf] at hs
    split at hs
    · next ci k ci' vs hp ha =>
      split at hs
      · next hci =>
        split at hs
        · split at hs
          · exact p_le.put ha (by simp) hs
          · cases hs
        · cases hs
      · cases hs
    · cases hs
  · simp only [p_invs] at hs
    split at hs
    · simp only [p_copy] at hs
      split at hs
      · next vs ws g0 g1 =>
        split at hs
        · next hc =>
          refine p_le.put g1 ?_ hs
          simp only [p_cpy, List.length_append, List.length_take, List.length_drop]; omega
        · cases hs
      · cases hs
    · cases hs
    · simp only [p_inv] at hs
      (repeat' split at hs) <;> first | (cases hs; done) | skip
      all_goals (next o ho => (repeat' split at ho) <;> (cases ho; try cases hs))
  · simp only [p_vir] at hs
    split at hs
    · simp only [p_clone] at hs
      (repeat' split at hs) <;> first | exact p_le.new hs | (cases hs; done)
    · cases hs
    · simp only [p_invv] at hs
      (repeat' split at hs) <;> cases hs
  · simp only [p_invi] at hs
    (repeat' split at hs) <;> first | exact p_le.go hs | (cases hs; done)
theorem p_le.run : ∀ (n d : Nat) (M : p_M) (pc : Nat) (ls : p_Ls) (st : List Value) (h : p_H) (v : Option Value) (h2 : p_H), p_run G MT n d M pc ls st h = some (v, h2) → p_le h h2 := by
  intro n
  induction n with
  | zero => intro d M pc ls st h v h2 hs; simp [p_run] at hs
  | succ n ih =>
    intro d M pc ls st h v h2 hs
    simp only [p_run] at hs
    split at hs
    · cases hs
    · next i len hat =>
      split at hs
      · cases hs
      · next pc1 ls1 st1 h1 hst => exact (p_le.step hst).tr (ih _ _ _ _ _ _ _ _ hs)
      · next w hst => cases hs; exact p_le.rf
      · next m' as rest hst =>
        split at hs
        · next d' M' hm =>
          split at hs
          · split at hs
            · next w h1 hc => exact (ih _ _ _ _ _ _ _ _ hc).tr (ih _ _ _ _ _ _ _ _ hs)
            · cases hs
          · cases hs
        · cases hs
end PF

/-! Runs of the pure machine that end, with more steps and more depth too -/
section PW
variable {G : p_G} {MT : List p_M}
theorem p_mono : ∀ (n d : Nat) (M : p_M) (pc : Nat) (ls : p_Ls) (st : List Value) (h : p_H) (x : Option Value × p_H), p_run G MT n d M pc ls st h = some x → ∀ n' d', n ≤ n' → d ≤ d' → p_run G MT n' d' M pc ls st h = some x := by
  intro n
  induction n with
  | zero => intro d M pc ls st h x hs; simp [p_run] at hs
  | succ n ih =>
    intro d M pc ls st h x hs n' d' hn hd
    obtain ⟨k, rfl⟩ : ∃ k, n' = k + 1 := ⟨n' - 1, by omega⟩
    simp only [p_run] at hs ⊢
    split at hs
    · cases hs
    · next i len hat =>
      split at hs
      · cases hs
      · next hst => exact ih _ _ _ _ _ _ _ hs _ _ (by omega) hd
      · next v hst => exact hs
      · next m as rest hst =>
        split at hs
        · next e M' hM' =>
          obtain ⟨e', rfl⟩ : ∃ e', d' = e' + 1 := ⟨d' - 1, by omega⟩
          simp only [hM']
          split at hs
          · next hc =>
            rw [if_pos hc]
            split at hs
            · next v h' hcal =>
              have := ih _ _ _ _ _ _ _ hcal k e' (by omega) (by omega)
              rw [this]
              exact ih _ _ _ _ _ _ _ hs _ _ (by omega) hd
            · cases hs
          · cases hs
        · cases hs
/-- the body ends, and then Q -/
def p_wp (G : p_G) (MT : List p_M) (d : Nat) (M : p_M) (pc : Nat) (ls : p_Ls) (st : List Value) (h : p_H) (Q : Option Value → p_H → Prop) : Prop := ∃ (n : Nat) (v : Option Value) (h2 : p_H), p_run G MT n d M pc ls st h = some (v, h2) ∧ Q v h2
variable {d : Nat} {M : p_M} {pc : Nat} {ls : p_Ls} {st : List Value} {h : p_H} {Q : Option Value → p_H → Prop} {i : Instr} {len : Nat}
theorem p_wp.step (hat : p_at pc M.2.2.2.2.1 = some (i, len)) {pc' : Nat} {ls' : p_Ls} {st' : List Value} {h' : p_H} (hs : p_step G MT M i pc ls st h = some (.inl (pc', ls', st', h'))) (hk : p_wp G MT d M pc' ls' st' h' Q) : p_wp G MT d M pc ls st h Q := by
  obtain ⟨n, v, h2, g1, g2⟩ := hk
  refine ⟨n + 1, v, h2, ?_, g2⟩
  simp only [p_run, hat, hs]
  exact g1
theorem p_wp.ret (hat : p_at pc M.2.2.2.2.1 = some (i, len)) {v : Option Value} (hs : p_step G MT M i pc ls st h = some (.inr (.inl v))) (hq : Q v h) : p_wp G MT d M pc ls st h Q :=
  ⟨1, v, h, by simp only [p_run, hat, hs], hq⟩
theorem p_wp.call (hat : p_at pc M.2.2.2.2.1 = some (i, len)) {m dc : Nat} {as rest : List Value} {M' : p_M} {Q1 : Option Value → p_H → Prop} (hs : p_step G MT M i pc ls st h = some (.inr (.inr (m, as, rest)))) (hM : MT[m]? = some M') (hc : p_cat as ≤ M'.2.2.1) (hd : dc + 1 ≤ d) (h1 : p_wp G MT dc M' 0 (lv_args 0 as) [] h Q1) (hk : ∀ v h', Q1 v h' → p_wp G MT d M (pc + 3) ls (v.toList ++ rest) h' Q) : p_wp G MT d M pc ls st h Q := by
  obtain ⟨n1, v1, h1', g1, g2⟩ := h1
  obtain ⟨n2, v2, h2, g3, g4⟩ := hk v1 h1' g2
  obtain ⟨d', rfl⟩ : ∃ d', d = d' + 1 := ⟨d - 1, by omega⟩
  refine ⟨max n1 n2 + 1, v2, h2, ?_, g4⟩
  simp only [p_run, hat, hs, hM]
  rw [if_pos hc, p_mono _ _ _ _ _ _ _ _ g1 (max n1 n2) d' (by omega) (by omega)]
  exact p_mono _ _ _ _ _ _ _ _ g3 (max n1 n2) (d' + 1) (by omega) (Nat.le_refl _)
theorem p_wp.mono {d' : Nat} {Q' : Option Value → p_H → Prop} (hk : p_wp G MT d M pc ls st h Q) (hd : d ≤ d') (hq : ∀ v h2, Q v h2 → Q' v h2) : p_wp G MT d' M pc ls st h Q' := by
  obtain ⟨n, v, h2, g1, g2⟩ := hk
  exact ⟨n, v, h2, p_mono _ _ _ _ _ _ _ _ g1 n d' (Nat.le_refl _) hd, hq _ _ g2⟩
end PW

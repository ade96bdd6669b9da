/-! Calls as the executor sees them are those of the machine -/
section XIV
variable {E : x_E} {τ τ0 : Nat → Option Nat} {r r0 : Nat → Int} {n np : Nat} {th : List q_E} {h h0 : p_H} {F : q_F} {L S : List x_V} {Me : x_M} {u w : q_E} {ls : p_Ls} {st : List Value} {G : p_G} {MT : List p_M} {M : p_M} {i : Instr} {pc : Nat}
theorem x_cat_v {a : x_V} {v : Value} (hv : x_v τ r n a v) : v.category ≤ (if Nat.beq a.1 2 || Nat.beq a.1 0 then 2 else 1) := by
  obtain ⟨t, k, e⟩ := a
  obtain ⟨-, hv⟩ := hv
  have h2 : v.category ≤ 2 := by cases v <;> simp [Value.category]
  simp only at hv ⊢
  split at hv
  · obtain ⟨x, rfl, -⟩ := hv; simp [Value.category]
  · exact h2
  · obtain ⟨x, rfl, -⟩ := hv; simp [Value.category]
  · subst hv; simp [Value.category]
  · obtain ⟨x, rfl, -⟩ := hv; simp [Value.category]
  · exact h2
  · exact hv.elim
theorem x_catV_ok : ∀ {A : List x_V} {V : List Value}, x_vs τ r n A V → p_cat V ≤ x_catV A := by
  intro A
  induction A with
  | nil => intro V hv; cases V with
    | nil => simp [p_cat, x_catV]
    | cons v V => exact hv.elim
  | cons a A ih => intro V hv; cases V with
    | nil => exact hv.elim
    | cons v V =>
      have h1 := x_cat_v hv.1
      have h2 := ih hv.2
      simp only [p_cat, x_catV, List.map_cons, List.sum_cons] at h2 ⊢
      omega
theorem x_inv_ok {t x m b : Nat} {c : Int} {P : List p_P} (hb : b ≤ p_bd t) (hS : x_vs τ r n S st) (hp : p_pk x t P = some (m, c)) (hc : (Nat.ble c.toNat S.length && Nat.ble (x_catV (S.drop c.toNat)) b) = true) : p_inv t P x st = some (.inr (.inr (m, (st.take c.toNat).reverse, st.drop c.toNat))) := by
  simp only [Bool.and_eq_true] at hc
  have h1 := Nat.le_of_ble_eq_true hc.1
  have h2 := Nat.le_of_ble_eq_true hc.2
  have h3 := x_catV_ok (x_vs_drop c.toNat hS)
  rw [x_vs_len hS] at h1
  simp only [p_inv, hp]
  rw [if_pos ⟨h1, by omega⟩]
theorem x_iv_ok {m : Nat} {B R : List x_V} (hH : x_H E τ h) (hS : x_vs τ r n S st) (hg : x_iv E.1 MT M.2.2.2.2.2.1 i S = some (m, B, R)) : ∃ as rest, p_step G MT M i pc ls st h = some (.inr (.inr (m, as, rest))) ∧ x_vs τ r n B as ∧ x_vs τ r n R rest := by
  unfold x_iv at hg
  split at hg
  · next x =>
    split at hg
    · cases hg
    · next h7 =>
      split at hg
      · next m' c hq =>
        split at hg
        · next hc =>
          simp only [Option.some.injEq, Prod.mk.injEq] at hg
          obtain ⟨rfl, rfl, rfl⟩ := hg
          refine ⟨(st.take c.toNat).reverse, st.drop c.toNat, ?_, x_vs_rev (x_vs_take _ hS), x_vs_drop _ hS⟩
          simp only [p_step, p_invs, h7]
          split at hq
          · next q h1 =>
            cases hq
            rw [x_inv_ok (by decide) hS h1 hc]
          · next h1 =>
            have : p_inv 1 M.2.2.2.2.2.1 x st = none := by simp only [p_inv, h1]
            rw [this]
            exact x_inv_ok (by decide) hS hq hc
        · cases hg
      · cases hg
  · next x =>
    split at hg
    · cases hg
    · next h12 =>
      split at hg
      · next m' c hq =>
        split at hg
        · next hc =>
          have hi := x_inv_ok (by decide) hS hq hc
          have hB := x_vs_rev (x_vs_take c.toNat hS)
          have hR := x_vs_drop c.toNat hS
          split at hg
          · next k e A N hA hN =>
            rw [hA] at hB
            obtain ⟨y, V, hV, hy, hv⟩ := x_t3 hB
            split at hg
            · next K hK =>
              split at hg
              · next hk =>
                simp only [Bool.and_eq_true] at hk
                simp only [Option.some.injEq, Prod.mk.injEq] at hg
                obtain ⟨rfl, rfl, rfl⟩ := hg
                obtain ⟨-, z, hz1, hz2, hz3⟩ := hy
                cases hz1
                obtain ⟨⟨c1, c2, c3⟩, g1, K', g2, g3, g4, -⟩ := hH _ _ hz3
                simp only at g2 g3 g4
                rw [hK] at g2
                cases g2
                have q1 := Nat.eq_of_beq_eq_true hk.1
                have q2 := Nat.eq_of_beq_eq_true hk.2
                refine ⟨(st.take c.toNat).reverse, st.drop c.toNat, ?_, by rw [hV]; exact hV ▸ hB, hR⟩
                simp only [p_step, p_vir, h12, p_invv, hi, hV, hN]
                rw [g1, g3, q1, g4, q2]
                simp
              · cases hg
            · cases hg
          · cases hg
        · cases hg
      · cases hg
  · cases hg
end XIV

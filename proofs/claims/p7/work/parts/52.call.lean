/-! Behind a call: the contract's outcome, told in the caller's unknowns -/
section XCL
variable {E : x_E} {τ τ0 τ1 : Nat → Option Nat} {r r0 : Nat → Int} {n np : Nat} {th : List q_E} {h h0 h1 : p_H} {F : q_F} {L S : List x_V} {Me : x_M} {u w : q_E} {ls : p_Ls} {st : List Value} {f g : x_F}
theorem x_J_trans (hJ : x_J E f τ0 h0 τ h) (hK : x_J E g τ h τ1 h1) (hc : ∀ t ∈ g, x_cov f t.1 t.2.1 t.2.2 = true) : x_J E f τ0 h0 τ1 h1 := by
  obtain ⟨a1, a2, -, a4⟩ := hJ
  obtain ⟨b1, b2, b3, b4⟩ := hK
  have hl := x_ef_len a4
  refine ⟨fun i k hi => b1 i k (a1 i k hi), ?_, b3, ?_, ?_⟩
  · intro i k hi
    rcases b2 i k hi with h' | h'
    · exact a2 i k h'
    · right; omega
  · intro i k c hi hc0
    obtain ⟨c1, g1, g2, g3⟩ := a4.1 i k c hi hc0
    obtain ⟨c2, k1, k2, k3⟩ := b4.1 i k c1 (a1 i k hi) g1
    refine ⟨c2, k1, by omega, ?_⟩
    intro j hj
    rw [k3 j, g3 j hj]
    intro t ht hk hr
    obtain ⟨t', e1, e2, e3, e4⟩ := x_cov_in (hc t ht) hr.1 hr.2
    exact hj t' e1 (by omega) ⟨e3, e4⟩
  · intro i hi hlt
    have : τ i = none := by
      cases ht : τ i with
      | none => rfl
      | some k =>
        rcases a2 i k ht with h' | h'
        · rw [hi] at h'; cases h'
        · omega
    rw [b4.2 i this (by omega), a4.2 i hi hlt]
theorem x_thm_ok {m : q_E × Nat × Nat × x_V} (hw : ∀ e ∈ th, q_wl n e.1) (hm : x_m E τ (q_rt r th) np h m) : x_m E τ r n h (q_th th m.1, m.2.1, m.2.2.1, x_thv th m.2.2.2) := by
  obtain ⟨-, hm⟩ := hm
  refine ⟨q_th_wl hw _, ?_⟩
  simp only [x_thv]
  split
  · next g =>
    rw [if_pos g] at hm
    exact ⟨q_th_wl hw _, hm.2.1, hm.2.2.1, by rw [q_th_e, q_th_e]; exact hm.2.2.2⟩
  · next g =>
    rw [if_neg g] at hm
    obtain ⟨i, c, e1, e2, e3, e4⟩ := hm
    refine ⟨i, c, by rw [q_th_e]; exact e1, e2, e3, ?_⟩
    split
    · next g1 =>
      rw [if_pos g1] at e4
      exact ⟨q_th_wl hw _, e4.2.1, by rw [q_th_e]; exact e4.2.2⟩
    · next g1 =>
      rw [if_neg g1] at e4
      obtain ⟨v, q1, q2⟩ := e4
      exact ⟨v, q1, x_thv_ok hw q2⟩
theorem x_tk_ok {C D : x_C} {m : Nat} {B : List x_V} {as : List Value} (hF : q_FO r F) (hM : ∀ q ∈ Me, x_m E τ r n h q) (hB : x_vs τ r n B as) (hg : x_tk C D m B n F Me = some th) :
    D.1 = m ∧ th.length = D.2.1 ∧ (∀ e ∈ th, q_wl n e.1) ∧ q_FO (q_rt r th) D.2.2.2.1 ∧ x_vs τ (q_rt r th) D.2.1 D.2.2.1 as ∧ (∀ q ∈ D.2.2.2.2.1, x_m E τ (q_rt r th) D.2.1 h q) ∧ (∀ t ∈ D.2.2.2.2.2.1, x_cov C.2.2.2.2.2.1 t.1 t.2.1 t.2.2 = true) ∧ D.2.2.2.2.2.2.1 + 1 ≤ C.2.2.2.2.2.2.1 ∧ ∀ q ∈ D.2.2.2.2.2.2.2.2.2, x_wQ D.2.1 q = true := by
  simp only [x_tk] at hg
  split at hg
  · next hc =>
    simp only [Bool.and_eq_true] at hc
    obtain ⟨⟨⟨⟨⟨⟨⟨⟨⟨⟨c1, c2⟩, c3⟩, c8⟩, c7⟩, c4⟩, c5⟩, c6⟩, c9⟩, c10⟩, c11⟩ := hc
    simp only [Option.some.injEq] at hg
    rw [hg] at c2 c3 c4 c7 c8
    exact ⟨Nat.eq_of_beq_eq_true c1, Nat.eq_of_beq_eq_true c2, fun e he => x_wl_ok (List.all_eq_true.mp c3 e he), x_cF_ok hF c4, x_cV_ok hF c8 c5 hB, fun q hq => x_cM_ok hF hM (List.all_eq_true.mp c6 q hq) (List.all_eq_true.mp c7 q hq), fun t ht => List.all_eq_true.mp c9 t ht, Nat.le_of_ble_eq_true c10, fun q hq => List.all_eq_true.mp c11 q hq⟩
  · cases hg
theorem x_tks_ok {C : x_C} {m : Nat} {B : List x_V} {d : x_C} : ∀ {D : List x_C}, x_tks C m B n F Me D = some (d, th) → d ∈ D ∧ x_tk C d m B n F Me = some th := by
  intro D
  induction D with
  | nil => intro hg; simp [x_tks] at hg
  | cons c D ih =>
    intro hg
    simp only [x_tks] at hg
    split at hg
    · next th' ht =>
      cases hg
      exact ⟨List.mem_cons_self, ht⟩
    · obtain ⟨g1, g2⟩ := ih hg
      exact ⟨List.mem_cons_of_mem _ g1, g2⟩
end XCL

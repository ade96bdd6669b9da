/-! The executor's pieces are sound: returns, and loop heads -/
section XRT
variable {E : x_E} {τ τ0 : Nat → Option Nat} {r r0 : Nat → Int} {n np : Nat} {th : List q_E} {h h0 : p_H} {F : q_F} {L S : List x_V} {Me : x_M} {u w : q_E} {ls : p_Ls} {st : List Value}
theorem x_idp_ok (hg : x_idp np th = true) : ∀ i, i < np → q_rt r th i = r i := by
  intro i hi
  have h1 := List.all_eq_true.mp hg i (List.mem_range.mpr hi)
  simp only [q_rt, List.getD_eq_getElem?_getD]
  split at h1
  · next e he =>
    rw [he]
    have := q_eqE_ok h1
    subst this
    simp only [Option.getD_some]
    exact q_v_e r i
  · cases h1
theorem x_ans_vs {a : Option x_V} {v : Option Value} (hv : x_vs τ r n a.toList v.toList) : x_ans τ r n a v := by
  cases a with
  | none => cases v with
    | none => trivial
    | some v => exact hv.elim
  | some a => cases v with
    | none => exact hv.elim
    | some v => exact hv.1
theorem x_vs_ans {a : Option x_V} {v : Option Value} (hv : x_ans τ r n a v) : x_vs τ r n a.toList v.toList := by
  cases a with
  | none => cases v with
    | none => trivial
    | some v => exact hv.elim
  | some a => cases v with
    | none => exact hv.elim
    | some v => exact ⟨hv, trivial⟩
theorem x_rt_ok {C : x_C} {a : Option x_V} {v : Option Value} (hJ : x_J E C.2.2.2.2.2.1 τ0 h0 τ h) (hO : x_O E τ r h0 h ls st (n, F, L, S, Me, u, w)) (hr : ∀ i, i < C.2.1 → r i = r0 i) (ha : x_ans τ r n a v) (hg : x_rt C a n F Me u w = true) : x_Post E C τ0 r0 h0 v h := by
  obtain ⟨o1, o2, o3, o4, o5, o6, o7, o8, o9⟩ := hO
  simp only at o1 o2 o3 o4 o5 o6 o7 o8 o9
  simp only [x_rt] at hg
  obtain ⟨q, hq, g4⟩ := List.any_eq_true.mp hg
  simp only [Bool.and_eq_true] at g4
  obtain ⟨⟨⟨⟨⟨⟨⟨e6, e4⟩, g1⟩, g2⟩, e1⟩, e2⟩, e3⟩, e5⟩ := g4
  have k1 := q_ent_spec o2 g1
  have k2 := q_ent_spec o2 g2
  rw [q_sub_e, q_c_e] at k1 k2
  refine ⟨τ, q_rt r (x_fd C.2.1 q.1 q.2.2.1.toList a.toList q.2.2.2.1 Me), hJ, q, hq, by omega, by omega, ?_, ?_, ?_, ?_⟩
  · intro i hi
    rw [x_idp_ok e1 i hi, hr i hi]
  · exact x_cF_ok o2 e2
  · exact x_ans_vs (x_cV_ok o2 e6 e5 (x_vs_ans ha))
  · intro m hm
    exact x_cM_ok o2 o5 (List.all_eq_true.mp e3 m hm) (List.all_eq_true.mp e4 m hm)
/-- the variables, place by place -/
theorem x_cV_at (hF : q_FO r F) : ∀ {A B : List x_V}, x_cV F th A B = true → A.all (x_wV np) = true → ∀ (i : Nat) (a : x_V), A[i]? = some a → ∃ b, B[i]? = some b ∧ x_same F th a b = true ∧ q_wl np a.2.2.1 := by
  intro A
  induction A with
  | nil => intro B hg _ i a hi; simp at hi
  | cons c A ih =>
    intro B hg hw i a hi
    cases B with
    | nil => simp [x_cV] at hg
    | cons b B =>
      simp only [x_cV, Bool.and_eq_true] at hg
      simp only [List.all_cons, Bool.and_eq_true] at hw
      cases i with
      | zero =>
        simp only [List.getElem?_cons_zero, Option.some.injEq] at hi
        subst hi
        exact ⟨b, rfl, hg.1, x_wl_ok hw.1⟩
      | succ i =>
        simp only [List.getElem?_cons_succ] at hi ⊢
        exact ih hg.2 hw.2 i a hi
theorem x_same_tag {a b : x_V} (hg : x_same F th a b = true) (ha : a.1 ≠ 0) : b.1 ≠ 0 := by
  unfold x_same at hg
  split at hg
  · next e => exact absurd e ha
  · have := Nat.eq_of_beq_eq_true hg; omega
  · simp only [Bool.and_eq_true] at hg
    have := Nat.eq_of_beq_eq_true hg.1.1
    omega
theorem x_at_ok {mu : Option q_E} {T : x_U} (hO : x_O E τ r h0 h ls st (n, F, L, [], Me, u, w)) (hw : x_wU np T = true) (hg : x_at np mu T n F L Me u w = true) : ∃ r', (∀ i, i < np → r' i = r i) ∧ x_O E τ r' h0 h ls st (T.2.1, T.2.2.1, T.2.2.2.1, [], T.2.2.2.2.1, T.2.2.2.2.2.1, T.2.2.2.2.2.2.1) ∧ 0 ≤ q_e r' T.2.2.2.2.2.2.2 ∧ ∀ e, mu = some e → q_e r' T.2.2.2.2.2.2.2 < q_e r e := by
  obtain ⟨o1, o2, o3, o4, o5, o6, o7, o8, o9⟩ := hO
  simp only at o1 o2 o3 o4 o5 o6 o7 o8 o9
  simp only [x_at, Bool.and_eq_true] at hg
  obtain ⟨⟨⟨⟨⟨⟨⟨⟨⟨g1, g2⟩, g3⟩, g4⟩, g5⟩, g6⟩, g7⟩, g8⟩, g9⟩, g10⟩ := hg
  simp only [x_wU, Bool.and_eq_true] at hw
  obtain ⟨⟨⟨⟨⟨⟨w1, w2⟩, w3⟩, w4⟩, w5⟩, w6⟩, w7⟩ := hw
  have k7 := q_entd_spec o2 g7
  have k8 := q_entd_spec o2 g8
  have k9 := q_entd_spec o2 g9
  rw [q_sub_e, q_th_e] at k7 k8
  rw [q_th_e] at k9
  refine ⟨q_rt r (x_fd np T.2.1 T.2.2.2.1 L T.2.2.2.2.1 Me), x_idp_ok g2, ⟨x_wF_ok w2, x_cF_ok o2 g4, ?_, ?_, ?_, x_wl_ok w5, ?_, x_wl_ok w6, ?_⟩, k9, ?_⟩
  · intro i a hi ha
    obtain ⟨b, hb, hs, hwa⟩ := x_cV_at o2 g6 w3 i a hi
    obtain ⟨v, hv1, hv2⟩ := o3 i b hb (x_same_tag hs ha)
    exact ⟨v, hv1, x_same_ok o2 hs hwa hv2⟩
  · cases st with
    | nil => trivial
    | cons x st => exact o4.elim
  · intro m hm
    exact x_cM_ok o2 o5 (List.all_eq_true.mp w4 m hm) (List.all_eq_true.mp g5 m hm)
  · simp only; omega
  · simp only; omega
  · intro e he
    subst he
    simp only at g10
    have := q_entd_spec o2 g10
    rw [q_pl_e, q_sub_e, q_th_e] at this
    omega
end XRT

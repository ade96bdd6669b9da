/-! Behind a call: what is still known, and what the outcome adds -/
/-- what is not written stays known -/
noncomputable def x_kp (E : List x_K) (f : x_F) (m : q_E × Nat × Nat × x_V) : Bool := if Nat.ble x_gho m.2.2.1 then f.all (fun t => match E[t.1]? with
    | some K => x_ga K (m.2.2.1 - x_gho) t.2.1 t.2.2
    | none => false) else (Nat.beq m.2.2.1 x_len || f.all (fun t => !(Nat.beq t.1 m.2.1) || (Nat.blt m.2.2.1 t.2.1 || Nat.blt t.2.2 m.2.2.1)))
section XK
variable {E : x_E} {f : x_F} {τ τ' : Nat → Option Nat} {r r' : Nat → Int} {n n' : Nat} {h h2 : p_H}
theorem x_ef_len {f : x_F} {τ0 : Nat → Option Nat} {h0 h : p_H} (he : x_ef f τ0 h0 h) : h0.length ≤ h.length := by
  by_cases hz : h0.length = 0
  · omega
  · have hl : h0.length - 1 < h0.length := by omega
    have hs : h0[h0.length - 1]? = some h0[h0.length - 1] := List.getElem?_eq_getElem hl
    have : h[h0.length - 1]? ≠ none := by
      cases ht : τ0 (h0.length - 1) with
      | none => rw [he.2 _ ht hl, hs]; simp
      | some k =>
        obtain ⟨c', hc', -⟩ := he.1 _ k _ ht hs
        rw [hc']; simp
    have := mt List.getElem?_eq_none this
    omega
theorem x_kp_m (hEO : x_EO E) (hH : x_H E τ h) {m : q_E × Nat × Nat × x_V} (hk : x_kp E.1 f m = true) (he : x_ef f τ h h2) (hm : x_m E τ r n h m) (hr : ∀ i, i < n → r' i = r i) (hn : n ≤ n') (ht : ∀ i k, τ i = some k → τ' i = some k) : x_m E τ' r' n' h2 m := by
  refine x_m.moved ?_ hr hn ht
  by_cases g : x_gho ≤ m.2.2.1
  · have e4 := hm.2
    rw [if_pos g] at e4
    simp only [x_kp] at hk
    rw [if_pos (Nat.ble_eq_true_of_le g)] at hk
    refine ⟨hm.1, ?_⟩
    rw [if_pos g]
    refine ⟨e4.1, e4.2.1, Nat.le_trans e4.2.2.1 (x_ef_len he), ?_⟩
    rw [← e4.2.2.2]
    refine hEO.2.1 _ _ _ _ e4.2.2.1 (fun a ha ca hca => ?_)
    cases hta : τ a with
    | none => exact ⟨ca, by rw [he.2 a hta (List.getElem?_eq_some_iff.mp hca).1]; exact hca, rfl, fun _ _ _ _ => rfl⟩
    | some k =>
      have hka : k = a := hH.kind hEO hta ha
      obtain ⟨c', g1, g2, g3⟩ := he.1 a k ca hta hca
      refine ⟨c', g1, g2, fun K j hK hl => g3 j (fun t htf htk hj => ?_)⟩
      have := List.all_eq_true.mp hk t htf
      rw [htk, hka, hK] at this
      exact x_ga_ne this hj.1 hj.2 hl rfl
  · have g' : m.2.2.1 < x_gho := by omega
    simp only [x_kp] at hk
    rw [if_neg (by intro q; exact g (Nat.le_of_ble_eq_true q))] at hk
    obtain ⟨i, c, e1, e2, e3, e4⟩ := hm.plc g'
    obtain ⟨c', g1, g2, g3⟩ := he.1 i _ c e2 e3
    refine x_m.mkp hm.1 g' ⟨i, c', e1, e2, g1, ?_⟩
    split
    · next q =>
      rw [if_pos q] at e4
      rw [g2]; exact e4
    · next q =>
      rw [if_neg q] at e4
      have n1 : Nat.beq m.2.2.1 x_len = false := by
        cases z : Nat.beq m.2.2.1 x_len with
        | false => rfl
        | true => exact absurd (Nat.eq_of_beq_eq_true z) q
      simp only [n1, Bool.false_or, List.all_eq_true, Bool.or_eq_true, Bool.not_eq_true'] at hk
      obtain ⟨v, v1, v2⟩ := e4
      refine ⟨v, ?_, v2⟩
      rw [g3 m.2.2.1 (fun t htf htk hj => ?_)]
      · exact v1
      · rcases hk t htf with z | z
        · rw [htk] at z
          simp at z
        · rcases z with y | y
          · have := Nat.le_of_ble_eq_true y; omega
          · have := Nat.le_of_ble_eq_true y; omega
end XK

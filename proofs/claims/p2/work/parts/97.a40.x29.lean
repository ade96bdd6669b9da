section X29
variable {t t' : Nat → Option p_C} {b k : Nat} {s : d_S} {r : v_TR} {T T' : Nat → Int}
theorem d_tf_le (h : v_tle t t') {v : Value} (e : d_tf t b k = some v) : d_tf t' b k = some v := by
  unfold d_tf at e ⊢
  by_cases q : 80 ≤ b
  · rw [if_pos q] at e ⊢
    cases hb : t b with
    | none => rw [hb] at e; cases e
    | some c => rw [h b c hb]; rw [hb] at e; exact e
  · rw [if_neg q] at e; cases e
theorem d_ta_le (h : v_tle t t') {vs : List Value} (e : d_ta t b = some vs) : d_ta t' b = some vs := by
  unfold d_ta at e ⊢
  by_cases q : 80 ≤ b
  · rw [if_pos q] at e ⊢
    cases hb : t b with
    | none => rw [hb] at e; cases e
    | some c => rw [h b c hb]; rw [hb] at e; exact e
  · rw [if_neg q] at e; cases e
theorem d_tfi_le (h : v_tle t t') {x : Int} (e : d_tfi t b k = some x) : d_tfi t' b k = some x := by
  unfold d_tfi at e ⊢
  cases hb : d_tf t b k with
  | none => rw [hb] at e; cases e
  | some v => rw [d_tf_le h hb]; rw [hb] at e; exact e
theorem d_tfq_le (h : v_tle t t') {x : Option Nat} (e : d_tfq t b k = some x) : d_tfq t' b k = some x := by
  unfold d_tfq at e ⊢
  cases hb : d_tf t b k with
  | none => rw [hb] at e; cases e
  | some v => rw [d_tf_le h hb]; rw [hb] at e; exact e
theorem d_tn_le (h : v_tle t t') {x : Int} (e : d_tn t b = some x) : d_tn t' b = some x := by
  unfold d_tn at e ⊢
  obtain ⟨vs, e1, e2⟩ := d_b_s e
  rw [d_ta_le h e1, d_b_t]
  exact e2
theorem d_tl_le (h : v_tle t t') {i x : Int} (e : d_tl t b i = some x) : d_tl t' b i = some x := by
  unfold d_tl at e ⊢
  obtain ⟨vs, e1, e2⟩ := d_b_s e
  rw [d_ta_le h e1, d_b_t]
  exact e2
theorem d_part_le (h : v_tle t t') {c i y : Int} (e : F_X7_part t s b c i = some y) : F_X7_part t' s b c i = some y := by
  unfold F_X7_part at e ⊢
  by_cases q : d_w (c * 7 + i) < 0
  · rw [if_pos q] at e ⊢; exact e
  rw [if_neg q] at e ⊢
  obtain ⟨v1, e1, e2⟩ := d_b_s e
  obtain ⟨b2, e3, e4⟩ := d_b_s e2
  obtain ⟨v3, e5, e6⟩ := d_b_s e4
  rw [d_tfq_le h e1, d_b_t, e3, d_b_t, d_tn_le h e5, d_b_t]
  by_cases q2 : d_w (c * 7 + i) < v3
  · rw [if_pos q2] at e6 ⊢
    obtain ⟨v4, f1, f2⟩ := d_b_s e6
    obtain ⟨b5, f3, f4⟩ := d_b_s f2
    obtain ⟨v6, f5, f6⟩ := d_b_s f4
    rw [e1] at f1
    have f1 := Option.some.inj f1
    subst f1
    rw [e3] at f3
    have f3 := Option.some.inj f3
    subst f3
    rw [d_b_t, d_b_t, d_tl_le h f5, d_b_t]
    exact f6
  · rw [if_neg q2] at e6 ⊢; exact e6
theorem v_cd.le (h : v_tle t t') {V : (Nat → Int) → Int} (e : v_cd t k V) : v_cd t' k V := fun t2 h2 s hs => e t2 (h.tr h2) s hs
theorem v_CT.le (h : v_tle t t') {L : v_LR} (e : v_CT t (some b) L) : v_CT t' (some b) L := by
  obtain ⟨e1, e2, e3⟩ := e
  refine ⟨?_, ?_, ?_⟩
  · rcases e1 with ⟨a1, a2⟩ | ⟨a, V, a1, a2, a3⟩
    · exact Or.inl ⟨d_tfq_le h a1, a2⟩
    · exact Or.inr ⟨a, V, d_tfq_le h a1, a2, a3.le h⟩
  · rcases e2 with ⟨a1, a2⟩ | ⟨a, V, a1, a2, a3⟩
    · exact Or.inl ⟨d_tfq_le h a1, a2⟩
    · exact Or.inr ⟨a, V, d_tfq_le h a1, a2, a3.le h⟩
  · rcases e3 with ⟨a1, a2⟩ | ⟨a, V, a1, a2, a3⟩
    · exact Or.inl ⟨d_tfq_le h a1, a2⟩
    · exact Or.inr ⟨a, V, d_tfq_le h a1, a2, a3.le h⟩
theorem v_TC.le (h : v_tle t t') (e : v_TC t b r) : v_TC t' b r := by
  obtain ⟨⟨e0, vs, e1⟩, e2, e3, e4, e5⟩ := e
  refine ⟨⟨e0, vs, h _ _ e1⟩, d_tfi_le h e2, e3, fun s c hc => ?_, e5.le h⟩
  obtain ⟨g1, g2, g3⟩ := e4 s c hc
  refine ⟨g1, d_part_le h g2, fun i i1 i2 => ?_⟩
  obtain ⟨y, y1, y2⟩ := g3 i i1 i2
  exact ⟨y, d_part_le h y1, y2⟩
theorem v_RS.keep {c : Int} {Vo : Option ((Nat → Int) → Int)} (e : v_RS T (k : Int) c Vo) (hT : ∀ j, 777 * k ≤ j → j < 777 * k + 777 → T' j = T j) : v_RS T' (k : Int) c Vo := fun s w top h1 h2 h3 h4 h5 => e s w top (fun j j1 j2 => (h1 j j1 j2).trans (hT j (by omega) (by omega))) h2 h3 h4 h5
theorem v_TD.keep (e : v_TD T k r) (hC : v_TC t b r) (hT : ∀ j, 777 * k ≤ j → j < 777 * k + 777 → T' j = T j) : v_TD T' k r := by
  obtain ⟨e1, e2, e3, e4, e5⟩ := e
  obtain ⟨-, -, c3, c4, -⟩ := hC
  refine ⟨by rw [hT _ (by omega) (by omega)]; exact e1, fun c hc => ?_, e3.keep hT, e4.keep hT, e5.keep hT⟩
  obtain ⟨g1, -⟩ := c4 (fun _ _ => 0, fun _ _ => none, fun _ => 0) c hc
  have h6 := v_np_6 (r.2.1 c) (by omega)
  obtain ⟨f1, f2⟩ := e2 c hc
  exact ⟨by rw [hT _ (by omega) (by omega)]; exact f1, fun i i1 i2 => by rw [hT _ (by omega) (by omega)]; exact f2 i i1 i2⟩
end X29

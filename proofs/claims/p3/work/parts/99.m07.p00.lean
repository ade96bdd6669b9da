/-! The tables say of each pool what the pure machine takes from it -/
theorem p_mb0 {w : Cond} (h : w ∈ k2_sels lw_privs) (hg : goodWord w = true) : w ∈ p_big := p_mbig (List.mem_append_left _ h) hg
theorem p_ml1 {w : Cond} (h : w ∈ tables_1_1) : w ∈ lw_tbl := List.mem_append_right _ (show w ∈ tables_1 from List.mem_append_left _ h)
theorem p_mb1 {w : Cond} (h : w ∈ tables_1_1) (hg : goodWord w = true) : w ∈ p_big := p_mbig (List.mem_append_right _ (show w ∈ tables_1 from List.mem_append_left _ h)) hg
theorem p_ml2 {w : Cond} (h : w ∈ tables_1_2) : w ∈ lw_tbl := List.mem_append_right _ (show w ∈ tables_1 from List.mem_append_right _ (List.mem_append_left _ h))
theorem p_mb2 {w : Cond} (h : w ∈ tables_1_2) (hg : goodWord w = true) : w ∈ p_big := p_mbig (List.mem_append_right _ (show w ∈ tables_1 from List.mem_append_right _ (List.mem_append_left _ h))) hg
theorem p_ml3 {w : Cond} (h : w ∈ tables_1_3) : w ∈ lw_tbl := List.mem_append_right _ (show w ∈ tables_1 from List.mem_append_right _ (List.mem_append_right _ (List.mem_append_left _ h)))
theorem p_mb3 {w : Cond} (h : w ∈ tables_1_3) (hg : goodWord w = true) : w ∈ p_big := p_mbig (List.mem_append_right _ (show w ∈ tables_1 from List.mem_append_right _ (List.mem_append_right _ (List.mem_append_left _ h)))) hg
theorem p_ml4 {w : Cond} (h : w ∈ tables_1_4) : w ∈ lw_tbl := List.mem_append_right _ (show w ∈ tables_1 from List.mem_append_right _ (List.mem_append_right _ (List.mem_append_right _ (List.mem_append_left _ h))))
theorem p_mb4 {w : Cond} (h : w ∈ tables_1_4) (hg : goodWord w = true) : w ∈ p_big := p_mbig (List.mem_append_right _ (show w ∈ tables_1 from List.mem_append_right _ (List.mem_append_right _ (List.mem_append_right _ (List.mem_append_left _ h))))) hg
theorem p_ml5 {w : Cond} (h : w ∈ tables_1_5) : w ∈ lw_tbl := List.mem_append_right _ (show w ∈ tables_1 from List.mem_append_right _ (List.mem_append_right _ (List.mem_append_right _ (List.mem_append_right _ (List.mem_append_left _ h)))))
theorem p_mb5 {w : Cond} (h : w ∈ tables_1_5) (hg : goodWord w = true) : w ∈ p_big := p_mbig (List.mem_append_right _ (show w ∈ tables_1 from List.mem_append_right _ (List.mem_append_right _ (List.mem_append_right _ (List.mem_append_right _ (List.mem_append_left _ h)))))) hg
theorem p_ml6 {w : Cond} (h : w ∈ tables_1_6) : w ∈ lw_tbl := List.mem_append_right _ (show w ∈ tables_1 from List.mem_append_right _ (List.mem_append_right _ (List.mem_append_right _ (List.mem_append_right _ (List.mem_append_right _ (List.mem_append_left _ h))))))
theorem p_mb6 {w : Cond} (h : w ∈ tables_1_6) (hg : goodWord w = true) : w ∈ p_big := p_mbig (List.mem_append_right _ (show w ∈ tables_1 from List.mem_append_right _ (List.mem_append_right _ (List.mem_append_right _ (List.mem_append_right _ (List.mem_append_right _ (List.mem_append_left _ h))))))) hg
theorem p_ml7 {w : Cond} (h : w ∈ tables_1_7) : w ∈ lw_tbl := List.mem_append_right _ (show w ∈ tables_1 from List.mem_append_right _ (List.mem_append_right _ (List.mem_append_right _ (List.mem_append_right _ (List.mem_append_right _ (List.mem_append_right _ (List.mem_append_left _ h)))))))
theorem p_mb7 {w : Cond} (h : w ∈ tables_1_7) (hg : goodWord w = true) : w ∈ p_big := p_mbig (List.mem_append_right _ (show w ∈ tables_1 from List.mem_append_right _ (List.mem_append_right _ (List.mem_append_right _ (List.mem_append_right _ (List.mem_append_right _ (List.mem_append_right _ (List.mem_append_left _ h)))))))) hg
theorem p_ml8 {w : Cond} (h : w ∈ tables_1_8) : w ∈ lw_tbl := List.mem_append_right _ (show w ∈ tables_1 from List.mem_append_right _ (List.mem_append_right _ (List.mem_append_right _ (List.mem_append_right _ (List.mem_append_right _ (List.mem_append_right _ (List.mem_append_right _ (h))))))))
theorem p_mb8 {w : Cond} (h : w ∈ tables_1_8) (hg : goodWord w = true) : w ∈ p_big := p_mbig (List.mem_append_right _ (show w ∈ tables_1 from List.mem_append_right _ (List.mem_append_right _ (List.mem_append_right _ (List.mem_append_right _ (List.mem_append_right _ (List.mem_append_right _ (List.mem_append_right _ (h))))))))) hg
def p_Q (MT : List p_M) (M : p_M) (q : p_P) : Prop := p_o1 MT q = true ∧ (∀ w ∈ p_w1 MT M q, w ∈ p_big) ∧ ∀ w ∈ p_w2 MT M q, w ∈ lw_tbl
theorem p_a1 {w : Cond} {L : List Cond} (h : w ∈ p_big) (hL : ∀ u ∈ L, u ∈ p_big) : ∀ u ∈ w :: L, u ∈ p_big := List.forall_mem_cons.mpr ⟨h, hL⟩
theorem p_a0 : ∀ u ∈ ([] : List Cond), u ∈ p_big := fun _ h => absurd h List.not_mem_nil
theorem p_b0 : ∀ u ∈ ([] : List Cond), u ∈ lw_tbl := fun _ h => absurd h List.not_mem_nil
/-- of a method that is called: it is static, its home is initialised, its code -/
def p_cs (N : p_M) : Prop := Cond.static N.1 ∈ p_big ∧ Cond.initialized N.1.cls ∈ p_big ∧ Cond.code N.1 N.2.1 N.2.2.1 N.2.2.2.1 ∈ p_big
def p_cv (N : p_M) : Prop := Cond.instanceMethod N.1 ∈ p_big ∧ Cond.selects N.1.cls N.1 N.1 ∈ p_big ∧ Cond.initialized N.1.cls ∈ p_big ∧ Cond.code N.1 N.2.1 N.2.2.1 N.2.2.2.1 ∈ p_big
def p_ci (N : p_M) : Prop := Cond.instanceMethod N.1 ∈ p_big ∧ Cond.initialized N.1.cls ∈ p_big ∧ Cond.code N.1 N.2.1 N.2.2.1 N.2.2.2.1 ∈ p_big
section PT
variable {MT : List p_M} {M N : p_M} {x k : Nat} {b : Int}
theorem p_t1 (hN : MT[k]? = some N) (hl : Cond.methodLink M.1.cls x N.1 ∈ p_big) (hc : p_cs N) (hp : p_par N.1 b.toNat = true) (hm : Nat.ble N.2.2.1 40 = true) : p_Q MT M (x, 1, k, b) := by
  refine ⟨?_, ?_, ?_⟩
  · simp only [p_o1, hN, hp, hm, Bool.and_self]
  · simp only [p_w1, hN]
    exact p_a1 hl (p_a1 hc.1 (p_a1 hc.2.1 (p_a1 hc.2.2 p_a0)))
  · exact p_b0
theorem p_t11 (hN : MT[k]? = some N) (hl : Cond.methodLinkNest M.1.cls x N.1 "CutInMay" ∈ lw_tbl) (hc : p_cs N) (hp : p_par N.1 b.toNat = true) (hm : Nat.ble N.2.2.1 40 = true) : p_Q MT M (x, 11, k, b) := by
  refine ⟨?_, ?_, ?_⟩
  · simp only [p_o1, hN, hp, hm, Bool.and_self]
  · simp only [p_w1, hN]
    exact p_a1 hc.1 (p_a1 hc.2.1 (p_a1 hc.2.2 p_a0))
  · simp only [p_w2, hN]
    exact List.forall_mem_cons.mpr ⟨hl, p_b0⟩
theorem p_t9 (hN : MT[k]? = some N) (hl : Cond.methodLink M.1.cls x N.1 ∈ p_big) (hc : p_cv N) (hp : p_par N.1 (b.toNat - 1) = true) (hb : Nat.ble 1 b.toNat = true) (hm : Nat.ble N.2.2.1 40 = true) : p_Q MT M (x, 9, k, b) := by
  refine ⟨?_, ?_, ?_⟩
  · simp only [p_o1, hN, hp, hb, hm, Bool.and_self]
  · simp only [p_w1, hN]
    exact p_a1 hl (p_a1 hc.1 (p_a1 hc.2.1 (p_a1 hc.2.2.1 (p_a1 hc.2.2.2 p_a0))))
  · exact p_b0
theorem p_t10 (hN : MT[k]? = some N) (hl : Cond.methodLink M.1.cls x N.1 ∈ p_big) (hc : p_ci N) (hp : p_par N.1 (b.toNat - 1) = true) (hb : Nat.ble 1 b.toNat = true) (hm : Nat.ble N.2.2.1 40 = true) (h1 : N.1.name = "<init>") (h2 : N.2.2.2.1 = none) : p_Q MT M (x, 10, k, b) := by
  refine ⟨?_, ?_, ?_⟩
  · simp only [p_o1, hN, hp, hb, hm, Bool.and_self, h1, h2, decide_true]
  · simp only [p_w1, hN]
    exact p_a1 hl (p_a1 hc.1 (p_a1 hc.2.1 (p_a1 hc.2.2 p_a0)))
  · exact p_b0
theorem p_t0 {r : vw_C} (hr : vwCl[k]? = some r) (hl : Cond.fieldLink M.1.cls x (r.2.1 b.toNat).1 (r.2.1 b.toNat).2.1 (r.2.1 b.toNat).2.2.1 ∈ p_big) (hb : Nat.blt b.toNat r.2.2 = true) : p_Q MT M (x, 0, k, b) := by
  refine ⟨?_, ?_, ?_⟩
  · simp only [p_o1, hr, hb]
  · simp only [p_w1, hr]
    exact p_a1 hl p_a0
  · exact p_b0
theorem p_t2 {r : vw_C} (hr : vwCl[k]? = some r) (h1 : Cond.classLink M.1.cls x r.1 ∈ p_big) (h2 : Cond.instantiable r.1 r.2.2 ∈ p_big) (h3 : Cond.initialized r.1 ∈ p_big) : p_Q MT M (x, 2, k, b) := by
  refine ⟨?_, ?_, ?_⟩
  · simp only [p_o1, hr]
  · simp only [p_w1, hr]
    exact p_a1 h1 (p_a1 h2 (p_a1 h3 p_a0))
  · exact p_b0
end PT
theorem p_w2_cls {MT : List p_M} {M M' : p_M} (h : M.1.cls = M'.1.cls) (q : p_P) : p_w2 MT M q = p_w2 MT M' q := by simp only [p_w2, h]
theorem p_w1_cls {MT : List p_M} {M M' : p_M} (h : M.1.cls = M'.1.cls) (q : p_P) : p_w1 MT M q = p_w1 MT M' q := by simp only [p_w1, h]
theorem p_wcl {MT : List p_M} {M : p_M} {P : List p_P} (h : ∀ q ∈ P, p_Q MT M q) {M' : p_M} (hc : M'.1.cls = M.1.cls) : ∀ q ∈ P, p_o1 MT q = true ∧ ∀ w ∈ p_w1 MT M' q, w ∈ p_big := fun q hq => ⟨(h q hq).1, fun w hw => (h q hq).2.1 w (by rw [← p_w1_cls hc]; exact hw)⟩
theorem p_wc2 {MT : List p_M} {M : p_M} {P : List p_P} (h : ∀ q ∈ P, p_Q MT M q) {M' : p_M} (hc : M'.1.cls = M.1.cls) : ∀ q ∈ P, ∀ w ∈ p_w2 MT M' q, w ∈ lw_tbl := fun q hq w hw => (h q hq).2.2 w (by rw [← p_w2_cls hc]; exact hw)

/-! One step of the pure machine that is no call and no return, over the machine -/
section PN
variable {p : Program} {l : Launch} {e : Env} {R : Room} {s : State} {m : MethodId} {args : Array Value} {below : List Frame} {meth : Method} {c : Code} {H : Heap} {locs : List Loc} {cells slots : Nat} {Q : State → Prop}
variable {G : p_G} {MT : List p_M} {M : p_M} {z : Nat × Nat × Nat} {D : va_G} {tys : List (ClassId × FieldType)} {h h1 : p_H} {pc pc1 : Nat} {rls : Array Slot} {ls ls1 : p_Ls} {st st1 : List Value}
/-- where the machine then stands -/
def p_Nx (M : p_M) (z : Nat × Nat × Nat) (D : va_G) (tys : List (ClassId × FieldType)) (p : Program) (l : Launch) (e : Env) (R : Room) (s : State) (m : MethodId) (args : Array Value) (below : List Frame) (meth : Method) (c : Code) (cells slots : Nat) (Q : State → Prop) (h : p_H) (pc1 : Nat) (ls1 : p_Ls) (st1 : List Value) (h1 : p_H) : Prop :=
  ∀ (rls1 : Array Slot) (H1 : Heap) (locs1 : List Loc), p_R s z D tys h1 H1 → va_S (fun q => z.2.2 ≤ q) s.heap H1 locs1 → lv_has rls1 M.2.2.1 (ls1.map (p_rq z)) → W p l e R s m args below meth c H1 locs1 (cells + (h1.length - h.length)) (slots + (p_sl h1 - p_sl h)) Q (F0 m pc1 rls1 (st1.map (p_rv z)))
theorem p_go_eq {pc pc1 : Nat} {ls ls1 : p_Ls} {st st1 : List Value} {h h1 : p_H} (hs : p_go pc ls st h = some (.inl (pc1, ls1, st1, h1))) : pc = pc1 ∧ ls = ls1 ∧ st = st1 ∧ h = h1 := by
  simp only [p_go, Option.some.injEq, Sum.inl.injEq, Prod.mk.injEq] at hs
  exact hs
theorem p_jm_eq {pc pc1 : Nat} {off : Int} {ls ls1 : p_Ls} {st st1 : List Value} {h h1 : p_H} (hs : p_jm pc off ls st h = some (.inl (pc1, ls1, st1, h1))) : (pc : Int) + off = (pc1 : Int) ∧ ls = ls1 ∧ st = st1 ∧ h = h1 := by
  simp only [p_jm] at hs
  split at hs
  · next t ht =>
    obtain ⟨rfl, h2⟩ := p_go_eq hs
    exact ⟨p_tg_eq ht, h2⟩
  · cases hs
/-- nothing of the heap has changed -/
theorem p_Nx.same (kk : p_Nx M z D tys p l e R s m args below meth c cells slots Q h pc1 ls1 st1 h) (hR : p_R s z D tys h H) (hS : va_S (fun q => z.2.2 ≤ q) s.heap H locs) : ∀ rls1 : Array Slot, lv_has rls1 M.2.2.1 (ls1.map (p_rq z)) → W p l e R s m args below meth c H locs cells slots Q (F0 m pc1 rls1 (st1.map (p_rv z))) := by
  intro rls1 hl
  have := kk rls1 H locs hR hS hl
  rw [Nat.sub_self, Nat.sub_self] at this
  exact this
theorem p_Nx.put {a : Nat} {c0 c1 : p_C} (kk : p_Nx M z D tys p l e R s m args below meth c cells slots Q h pc1 ls1 st1 (h.set a c1)) (ha : h[a]? = some c0) (hl0 : c1.2.2.length = c0.2.2.length) (hl : lv_has rls M.2.2.1 (ls1.map (p_rq z))) : ∀ (H1 : Heap) (locs1 : List Loc), p_R s z D tys (h.set a c1) H1 → va_S (fun q => z.2.2 ≤ q) s.heap H1 locs1 → W p l e R s m args below meth c H1 locs1 cells slots Q (F0 m pc1 rls (st1.map (p_rv z))) := by
  intro H1 locs1 hR hS
  have := kk rls H1 locs1 hR hS hl
  rw [List.length_set, Nat.sub_self, p_sl_set ha hl0, Nat.sub_self] at this
  exact this
theorem p_Nx.new {c1 : p_C} {n : Nat} (kk : p_Nx M z D tys p l e R s m args below meth c cells slots Q h pc1 ls1 st1 (h ++ [c1])) (hn : c1.2.2.length = n) (hl : lv_has rls M.2.2.1 (ls1.map (p_rq z))) : ∀ (H1 : Heap), p_R s z D tys (h ++ [c1]) H1 → va_S (fun q => z.2.2 ≤ q) s.heap H1 locs → W p l e R s m args below meth c H1 locs (cells + 1) (slots + n) Q (F0 m pc1 rls (st1.map (p_rv z))) := by
  intro H1 hR hS
  have := kk rls H1 locs hR hS hl
  rw [p_sl_app, hn] at this
  simp only [List.length_append, List.length_cons, List.length_nil, Nat.add_sub_cancel_left, Nat.zero_add] at this
  exact this
theorem p_al_ok (X : p_X M z D tys p s m args meth c) (hR : p_R s z D tys h H) {t1 t2 : Nat} {i : Int32} {a : Nat} {pc' : Nat} (hs : p_al t1 t2 i a pc' ls st h = some (.inl (pc1, ls1, st1, h1))) : pc' = pc1 ∧ ls = ls1 ∧ h = h1 ∧ ∃ (t : Nat) (v : Value), (t = t1 ∨ t = t2) ∧ st1 = v :: st ∧ ∀ ty, p_tyF[t]? = some ty → ∃ cell : Cell, H[p_ad z a]? = some cell ∧ s.isArrayOf cell ty ∧ cell.vm ≠ .unknown ∧ ¬ (i < 0 ∨ cell.slots.size ≤ i.toNatClampNeg) ∧ cell.slots[i.toNatClampNeg]? = some (p_rv z v) := by
  obtain ⟨hx, hb, hml, hown, hts, hnm, hK, hT, hz, hZ⟩ := X
  simp only [p_al] at hs
  split at hs
  · next sort t vs ha =>
    split at hs
    · next hc =>
      split at hs
      · next v hv =>
        obtain ⟨rfl, rfl, rfl, rfl⟩ := p_go_eq hs
        rw [Bool.and_eq_true, Bool.or_eq_true, Bool.or_eq_true] at hc
        obtain ⟨n1, n2, n3⟩ := p_ixT hv
        have hsort : sort = 1 ∨ sort = 2 := hc.2.elim (fun q => Or.inl (Nat.eq_of_beq_eq_true q)) (fun q => Or.inr (Nat.eq_of_beq_eq_true q))
        refine ⟨rfl, rfl, rfl, t, v, hc.1.elim (fun q => Or.inl (Nat.eq_of_beq_eq_true q)) (fun q => Or.inr (Nat.eq_of_beq_eq_true q)), rfl, fun ty hty => ?_⟩
        obtain ⟨cell, g1, g2, g3, g4, g5⟩ := hR.any hK hT ha hsort hty
        exact ⟨cell, g1, g2, g3, fun q => q.elim n1 (fun q => by omega), g5 _ _ n3⟩
      · cases hs
    · cases hs
  · cases hs
theorem p_as_ok (X : p_X M z D tys p s m args meth c) (hR : p_R s z D tys h H) (hS : va_S (fun q => z.2.2 ≤ q) s.heap H locs) (hl : lv_has rls M.2.2.1 (ls.map (p_rq z))) {t : Nat} {x : Value} {i : Int32} {a : Nat} {pc' : Nat} (hs : p_as t x i a pc' ls st h = some (.inl (pc1, ls1, st1, h1))) (kk : p_Nx M z D tys p l e R s m args below meth c cells slots Q h pc1 ls1 st1 h1) {ty : FieldType} (hty : p_tyF[t]? = some ty) :
    ∃ (cA : ClassId) (n : Nat) (f : Nat → Value), H[p_ad z a]? = some (arrV cA n f) ∧ tys[t]? = some (cA, ty) ∧ ¬ i < 0 ∧ i.toNatClampNeg < n ∧ ∀ (H1 : Heap), H1[p_ad z a]? = some ((arrV cA n f).setSlot i.toNatClampNeg (p_rv z x)) → H1.size = H.size → (∀ q, q ≠ p_ad z a → H1[q]? = H[q]?) → W p l e R s m args below meth c H1 (locs ++ [⟨p_ad z a, i.toNatClampNeg⟩]) cells slots Q (F0 m pc' rls (st.map (p_rv z))) := by
  obtain ⟨hx, hb, hml, hown, hts, hnm, hK, hT, hz, hZ⟩ := X
  simp only [p_as] at hs
  split at hs
  · next sort t' vs ha =>
    split at hs
    · next hc =>
      split at hs
      · next v hv =>
        obtain ⟨rfl, rfl, rfl, rfl⟩ := p_go_eq hs
        rw [Bool.and_eq_true] at hc
        obtain rfl : t = t' := Nat.eq_of_beq_eq_true hc.1
        obtain rfl : sort = 1 := Nat.eq_of_beq_eq_true hc.2
        obtain ⟨n1, n2, n3⟩ := p_ixT hv
        obtain ⟨hb0, q, t0, e0⟩ := hR.arr ha
        have ety := hT.is t0 hty
        refine ⟨q.1, vs.length, _, e0, by rw [t0, ← ety], n1, n2, fun H1 e1 e2 e3 => ?_⟩
        exact kk.put ha (by simp) hl H1 _ (hR.set hb0 e2 e3 (p_arr_set hb0 t0 n2 e1)) (p_put_S hS e2 e3 hb0)
      · cases hs
    · cases hs
  · cases hs
end PN

/-! How a heap of the pure machine lies in a heap of the machine: the cells that were made lie one behind the other from b0 on; the script and the one static array lie below. z: where the script is, where the static array is, b0. -/
def p_ad (z : Nat × Nat × Nat) : Nat → Nat
  | 0 => z.1
  | 1 => z.2.1
  | k + 2 => z.2.2 + k
def p_rv (z : Nat × Nat × Nat) (v : Value) : Value := match v with
  | .ref i => .ref (p_ad z i)
  | v => v
theorem p_rv_cat (z : Nat × Nat × Nat) (v : Value) : (p_rv z v).category = v.category := by cases v <;> rfl
theorem p_rv_fits (z : Nat × Nat × Nat) (ty : FieldType) (v : Value) : fits ty (p_rv z v) = fits ty v := by
  cases v <;> first | rfl | (cases ty <;> rfl)
def p_tyF : List FieldType := [.int, .byte, .long, .boolean, .object "CutInMay$Text"]
def p_cell (U : State) (z : Nat × Nat × Nat) (D : va_G) (tys : List (ClassId × FieldType)) (c : p_C) (a : Nat) (H : Heap) : Prop :=
  (c.1 = 0 ∧ z.2.2 ≤ a ∧ ∃ r : vw_C, vwCl[c.2.1]? = some r ∧ c.2.2.length = r.2.2 ∧ t_OB a (D.1 c.2.1) r.2.2 (D.2 c.2.1) H (vp_V (c.2.2.map (p_rv z)))) ∨
  (c.1 = 1 ∧ z.2.2 ≤ a ∧ ∃ q : ClassId × FieldType, tys[c.2.1]? = some q ∧ H[a]? = some (arrV q.1 c.2.2.length (fun j => p_rv z (c.2.2.getD j .null)))) ∨
  (c.1 = 2 ∧ a < z.2.2 ∧ ∃ (ty : FieldType) (cell : Cell), p_tyF[c.2.1]? = some ty ∧ H[a]? = some cell ∧ U.isArrayOf cell ty ∧ cell.vm ≠ .unknown ∧ c.2.2.length ≤ cell.slots.size ∧ cell.slots.size.toInt32 = Int32.ofNat c.2.2.length ∧ ∀ (j : Nat) (v : Value), c.2.2[j]? = some v → cell.slots[j]? = some (p_rv z v))
theorem p_cell.kept {U : State} {z : Nat × Nat × Nat} {D : va_G} {tys : List (ClassId × FieldType)} {c : p_C} {a : Nat} {H H1 : Heap} (h : p_cell U z D tys c a H) (h1 : H1[a]? = H[a]?) : p_cell U z D tys c a H1 := by
  rcases h with ⟨e, hb, r, h2, h3, h4⟩ | ⟨e, hb, q, h2, h3⟩ | ⟨e, hb, ty, cell, h2, h3, h4⟩
  · exact Or.inl ⟨e, hb, r, h2, h3, h4.kept h1⟩
  · exact Or.inr (Or.inl ⟨e, hb, q, h2, by rw [h1]; exact h3⟩)
  · exact Or.inr (Or.inr ⟨e, hb, ty, cell, h2, by rw [h1]; exact h3, h4⟩)
theorem p_cell.lt {U : State} {z : Nat × Nat × Nat} {D : va_G} {tys : List (ClassId × FieldType)} {c : p_C} {a : Nat} {H : Heap} (h : p_cell U z D tys c a H) : a < H.size := by
  rcases h with ⟨e, hb, r, h2, h3, cell, h4, -⟩ | ⟨e, hb, q, h2, h3⟩ | ⟨e, hb, ty, cell, h2, h3, h4⟩
  · exact (Array.getElem?_eq_some_iff.mp h4).1
  · exact (Array.getElem?_eq_some_iff.mp h3).1
  · exact (Array.getElem?_eq_some_iff.mp h3).1
theorem p_cell.moved {U U' : State} {z : Nat × Nat × Nat} {D : va_G} {tys : List (ClassId × FieldType)} {c : p_C} {a : Nat} {H : Heap} (hv : U.vm.Alike U'.vm) (h : p_cell U z D tys c a H) : p_cell U' z D tys c a H := by
  rcases h with h | h | ⟨e, hb, ty, cell, h2, h3, h4, h5⟩
  · exact Or.inl h
  · exact Or.inr (Or.inl h)
  · exact Or.inr (Or.inr ⟨e, hb, ty, cell, h2, h3, State.isArrayOf_alike hv h4, h5⟩)
def p_R (U : State) (z : Nat × Nat × Nat) (D : va_G) (tys : List (ClassId × FieldType)) (h : p_H) (H : Heap) : Prop :=
  z.1 < z.2.2 ∧ z.2.1 < z.2.2 ∧ 2 ≤ h.length ∧ H.size = z.2.2 + (h.length - 2) ∧ ∀ (i : Nat) (c : p_C), h[i]? = some c → p_cell U z D tys c (p_ad z i) H
theorem p_R.moved {U U' : State} {z : Nat × Nat × Nat} {D : va_G} {tys : List (ClassId × FieldType)} {h : p_H} {H : Heap} (hv : U.vm.Alike U'.vm) (hR : p_R U z D tys h H) : p_R U' z D tys h H :=
  ⟨hR.1, hR.2.1, hR.2.2.1, hR.2.2.2.1, fun i c hc => (hR.2.2.2.2 i c hc).moved hv⟩
theorem p_ad_len {z : Nat × Nat × Nat} {n : Nat} (hn : 2 ≤ n) : p_ad z n = z.2.2 + (n - 2) := by
  obtain ⟨k, rfl⟩ : ∃ k, n = k + 2 := ⟨n - 2, by omega⟩
  show z.2.2 + k = _
  omega
theorem p_ad_two {z : Nat × Nat × Nat} (h1 : z.1 < z.2.2) (h2 : z.2.1 < z.2.2) {i : Nat} (hi : z.2.2 ≤ p_ad z i) : 2 ≤ i := by
  match i, hi with
  | 0, hi => exact absurd hi (by show ¬ z.2.2 ≤ z.1; omega)
  | 1, hi => exact absurd hi (by show ¬ z.2.2 ≤ z.2.1; omega)
  | k + 2, _ => omega
theorem p_ad_inj {z : Nat × Nat × Nat} (h1 : z.1 < z.2.2) (h2 : z.2.1 < z.2.2) {i j : Nat} (hi : z.2.2 ≤ p_ad z i) (he : p_ad z j = p_ad z i) : j = i := by
  have hi2 := p_ad_two h1 h2 hi
  have hj2 := p_ad_two h1 h2 (i := j) (by rw [he]; exact hi)
  rw [p_ad_len hi2, p_ad_len hj2] at he
  omega
/-- a cell gets other values -/
theorem p_R.set {U : State} {z : Nat × Nat × Nat} {D : va_G} {tys : List (ClassId × FieldType)} {h : p_H} {H H1 : Heap} {i : Nat} {c1 : p_C} (hR : p_R U z D tys h H) (hi : z.2.2 ≤ p_ad z i) (hz : H1.size = H.size) (ho : ∀ q : Nat, q ≠ p_ad z i → H1[q]? = H[q]?) (hc : p_cell U z D tys c1 (p_ad z i) H1) : p_R U z D tys (h.set i c1) H1 := by
  obtain ⟨h1, h2, h3, h4, h5⟩ := hR
  refine ⟨h1, h2, by rw [List.length_set]; exact h3, by rw [List.length_set, hz]; exact h4, fun j c hj => ?_⟩
  by_cases e : i = j
  · subst e
    rw [List.getElem?_set] at hj
    split at hj
    · split at hj
      · cases hj; exact hc
      · cases hj
    · next hn => exact absurd rfl hn
  · rw [List.getElem?_set_ne e] at hj
    exact (h5 j c hj).kept (ho _ (fun q => e (p_ad_inj h1 h2 hi q).symm))
/-- a cell comes -/
theorem p_R.push {U : State} {z : Nat × Nat × Nat} {D : va_G} {tys : List (ClassId × FieldType)} {h : p_H} {H H1 : Heap} {c1 : p_C} (hR : p_R U z D tys h H) (hz : H1.size = H.size + 1) (ho : ∀ q : Nat, q < H.size → H1[q]? = H[q]?) (hc : p_cell U z D tys c1 (p_ad z h.length) H1) : p_R U z D tys (h ++ [c1]) H1 := by
  obtain ⟨h1, h2, h3, h4, h5⟩ := hR
  refine ⟨h1, h2, by rw [List.length_append]; omega, by rw [List.length_append, hz, h4]; simp only [List.length_cons, List.length_nil]; omega, fun j c hj => ?_⟩
  by_cases e : j < h.length
  · rw [List.getElem?_append_left e] at hj
    exact (h5 j c hj).kept (ho _ (h5 j c hj).lt)
  · rw [List.getElem?_append_right (by omega)] at hj
    have hl := (List.getElem?_eq_some_iff.mp hj).1
    simp only [List.length_cons, List.length_nil] at hl
    have ej : j = h.length := by omega
    subst ej
    simp at hj
    subst hj
    exact hc
theorem p_R.len {U : State} {z : Nat × Nat × Nat} {D : va_G} {tys : List (ClassId × FieldType)} {h : p_H} {H : Heap} (hR : p_R U z D tys h H) : p_ad z h.length = H.size := by
  rw [p_ad_len hR.2.2.1]; exact hR.2.2.2.1.symm
/-- an object -/
theorem p_R.obj {U : State} {z : Nat × Nat × Nat} {D : va_G} {tys : List (ClassId × FieldType)} {h : p_H} {H : Heap} (hR : p_R U z D tys h H) {i ci : Nat} {vs : List Value} (hi : h[i]? = some (0, ci, vs)) : z.2.2 ≤ p_ad z i ∧ ∃ r : vw_C, vwCl[ci]? = some r ∧ vs.length = r.2.2 ∧ t_OB (p_ad z i) (D.1 ci) r.2.2 (D.2 ci) H (vp_V (vs.map (p_rv z))) := by
  rcases hR.2.2.2.2 i _ hi with ⟨-, hb, h2⟩ | ⟨e, -⟩ | ⟨e, -⟩
  · exact ⟨hb, h2⟩
  · exact absurd e (by simp)
  · exact absurd e (by simp)
/-- an array that is written -/
theorem p_R.arr {U : State} {z : Nat × Nat × Nat} {D : va_G} {tys : List (ClassId × FieldType)} {h : p_H} {H : Heap} (hR : p_R U z D tys h H) {i t : Nat} {vs : List Value} (hi : h[i]? = some (1, t, vs)) : z.2.2 ≤ p_ad z i ∧ ∃ q : ClassId × FieldType, tys[t]? = some q ∧ H[p_ad z i]? = some (arrV q.1 vs.length (fun j => p_rv z (vs.getD j .null))) := by
  rcases hR.2.2.2.2 i _ hi with ⟨e, -⟩ | ⟨-, hb, h2⟩ | ⟨e, -⟩
  · exact absurd e (by simp)
  · exact ⟨hb, h2⟩
  · exact absurd e (by simp)
/-- what the tables say of the element types -/
def p_KT (tys : List (ClassId × FieldType)) : Prop := tys.map (fun q => q.2) = p_tyF
theorem p_KT.at {tys : List (ClassId × FieldType)} (h : p_KT tys) {t : Nat} {ty : FieldType} (ht : p_tyF[t]? = some ty) : ∃ cA, tys[t]? = some (cA, ty) := by
  rw [← h, List.getElem?_map] at ht
  cases hq : tys[t]? with
  | none => rw [hq] at ht; cases ht
  | some q => rw [hq] at ht; cases ht; exact ⟨q.1, rfl⟩
theorem p_KT.is {tys : List (ClassId × FieldType)} (h : p_KT tys) {t : Nat} {q : ClassId × FieldType} {ty : FieldType} (hq : tys[t]? = some q) (ht : p_tyF[t]? = some ty) : q.2 = ty := by
  rw [← h, List.getElem?_map, hq] at ht
  exact Option.some.inj ht
/-- any array is one of its element type, of its length, with its values -/
theorem p_R.any {s : State} {z : Nat × Nat × Nat} {D : va_G} {tys : List (ClassId × FieldType)} {h : p_H} {H : Heap} (hR : p_R s z D tys h H) (hK : va_K D vwCl tys s) (hT : p_KT tys) {i sort t : Nat} {vs : List Value} (hi : h[i]? = some (sort, t, vs)) (hs : sort = 1 ∨ sort = 2) {ty : FieldType} (hty : p_tyF[t]? = some ty) :
    ∃ cell : Cell, H[p_ad z i]? = some cell ∧ s.isArrayOf cell ty ∧ cell.vm ≠ .unknown ∧ vs.length ≤ cell.slots.size ∧ ∀ (j : Nat) (v : Value), vs[j]? = some v → cell.slots[j]? = some (p_rv z v) := by
  rcases hR.2.2.2.2 i _ hi with ⟨e, -⟩ | ⟨-, -, q, h2, h3⟩ | ⟨-, -, ty', cell, h2, h3, h4, h5, h6, -, h7⟩
  · rcases hs with rfl | rfl <;> exact absurd e (by simp)
  · have e := hT.is h2 hty
    refine ⟨_, h3, e ▸ (hK.2 t q h2).1 _ _, (fun h => by cases h), Nat.le_of_eq (arrV_size _ _ _).symm, fun j v hj => ?_⟩
    have hl := (List.getElem?_eq_some_iff.mp hj).1
    rw [arrV_read _ _ hl]
    simp [List.getD_eq_getElem?_getD, hj]
  · have e : ty' = ty := Option.some.inj (h2.symm.trans hty)
    subst e
    exact ⟨cell, h3, h4, h5, h6, h7⟩
def p_rq (z : Nat × Nat × Nat) (q : Nat × Value) : Nat × Value := (q.1, p_rv z q.2)
theorem p_s1_map (z : Nat × Nat × Nat) (ls : p_Ls) (i : Nat) (v : Value) : (p_s1 ls i v).map (p_rq z) = (i, p_rv z v) :: (ls.map (p_rq z)).filter (fun q => !(q.1 == i) && !(q.1 + 1 == i && q.2.category == 2)) := by
  simp only [p_s1, List.map_cons, List.filter_map]
  congr 2
  refine List.filter_congr (fun q _ => ?_)
  simp only [Function.comp, p_rq, p_rv_cat]
theorem p_s2_map (z : Nat × Nat × Nat) (ls : p_Ls) (i : Nat) (v : Value) : (p_s2 ls i v).map (p_rq z) = (i, p_rv z v) :: (ls.map (p_rq z)).filter (fun q => !(q.1 == i) && (!(q.1 == i + 1) && !(q.1 + 1 == i && q.2.category == 2))) := by
  simp only [p_s2, List.map_cons, List.filter_map]
  congr 2
  refine List.filter_congr (fun q _ => ?_)
  simp only [Function.comp, p_rq, p_rv_cat]
theorem p_lk_at {z : Nat × Nat × Nat} {rls : Array Slot} {nL : Nat} {ls : p_Ls} (h : lv_has rls nL (ls.map (p_rq z))) {i : Nat} {v : Value} (hk : p_lk i ls = some v) : rls[i]? = some (.val (p_rv z v)) :=
  h.2.2 (i, p_rv z v) (List.mem_map.mpr ⟨(i, v), p_lk_mem hk, rfl⟩)

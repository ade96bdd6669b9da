/-! The pure machine's doings on the heap, over the machine -/
/-- what stands for a whole method body -/
def p_X (M : p_M) (z : Nat × Nat × Nat) (D : va_G) (tys : List (ClassId × FieldType)) (p : Program) (s : State) (m : MethodId) (args : Array Value) (meth : Method) (c : Code) : Prop :=
  p.tables.exec = Jvm.exec ∧ c.code = M.2.1 ∧ c.maxLocals = M.2.2.1 ∧ s.vm.findClass M.1.cls = some m.cls ∧ (∀ w ∈ p_big, w.before args s = true) ∧ (M.2.2.2.2.2.2.1 = true → meth.name = M.1.name) ∧ va_K D vwCl tys s ∧ p_KT tys ∧ z.2.2 ≤ s.heap.size ∧ va_Z "CutInMay$Reader" "WORDS" "[J" (.ref z.2.1) (fun q => z.2.2 ≤ q) s s.heap ∧ p_N s
section PO
variable {p : Program} {l : Launch} {e : Env} {R : Room} {s : State} {m : MethodId} {args : Array Value} {below : List Frame} {meth : Method} {c : Code} {H : Heap} {locs : List Loc} {cells slots : Nat} {Q : State → Prop}
variable {G : p_G} {MT : List p_M} {M : p_M} {z : Nat × Nat × Nat} {D : va_G} {tys : List (ClassId × FieldType)} {h : p_H} {pc : Nat} {rls : Array Slot} {rest : List Value}
theorem p_ixT {i : Int32} {vs : List Value} {v : Value} (hi : p_ix i vs = some v) : ¬ i < 0 ∧ i.toNatClampNeg < vs.length ∧ vs[i.toNatClampNeg]? = some v := by
  simp only [p_ix] at hi
  split at hi
  · cases hi
  · next hn => exact ⟨hn, (List.getElem?_eq_some_iff.mp hi).1, hi⟩
theorem p_put_S {b0 a k : Nat} {H0 H H1 : Heap} {locs : List Loc} (hS : va_S (fun q => b0 ≤ q) H0 H locs) (hz : H1.size = H.size) (ho : ∀ q : Nat, q ≠ a → H1[q]? = H[q]?) (ha : b0 ≤ a) : va_S (fun q => b0 ≤ q) H0 H1 (locs ++ [⟨a, k⟩]) := by
  refine ⟨by rw [hz]; exact hS.1, fun q h1 h2 => ?_, fun q hq => ?_⟩
  · rw [ho q (fun e => h2 (by rw [e]; exact ha))]
    exact hS.2.1 q h1 h2
  · rcases List.mem_append.mp hq with g | g
    · exact hS.2.2 q g
    · rw [List.mem_singleton.mp g]; exact ha
theorem p_push_S {b0 : Nat} {H0 H H1 : Heap} {locs : List Loc} (hS : va_S (fun q => b0 ≤ q) H0 H locs) (hz : H1.size = H.size + 1) (ho : ∀ q : Nat, q < H.size → H1[q]? = H[q]?) : va_S (fun q => b0 ≤ q) H0 H1 locs :=
  ⟨by have := hS.1; omega, fun q h1 h2 => (ho q (Nat.lt_of_lt_of_le h1 hS.1)).trans (hS.2.1 q h1 h2), hS.2.2⟩
/-- an array's cell with a place written -/
theorem p_arr_set {U : State} {H1 : Heap} {a t k : Nat} {q : ClassId × FieldType} {vs : List Value} {x : Value} (hb : z.2.2 ≤ a) (hq : tys[t]? = some q) (hk : k < vs.length) (e : H1[a]? = some ((arrV q.1 vs.length (fun j => p_rv z (vs.getD j .null))).setSlot k (p_rv z x))) : p_cell U z D tys (1, t, vs.set k x) a H1 := by
  refine Or.inr (Or.inl ⟨rfl, hb, q, hq, ?_⟩)
  rw [e, arrV_store]
  show some (arrV q.1 vs.length _) = some (arrV q.1 (vs.set k x).length _)
  rw [List.length_set]
  congr 2
  funext j
  simp only [updV, List.getD_eq_getElem?_getD, List.getElem?_set]
  by_cases hj : j = k
  · subst hj
    simp [hk]
  · simp [hj, Ne.symm hj]
theorem p_i32_len {vs : List Value} {n : Nat} (hn : n = vs.length) : n.toInt32 = Int32.ofNat vs.length := by subst hn; rfl
/-- reading a field -/
theorem p_get_ok (hTO : p_TO G MT) (hMO : p_MO MT M) (X : p_X M z D tys p s m args meth c) (hR : p_R s z D tys h H) {x a ci : Nat} {k : Int} {vs : List Value} {v : Value} (hp : p_pk x 0 M.2.2.2.2.2.1 = some (ci, k)) (ha : h[a]? = some (0, ci, vs)) (hv : vs[k.toNat]? = some v) (hdg : decode M.2.1 pc = .ok (.getfield x, 3))
    (kk : W p l e R s m args below meth c H locs cells slots Q (F0 m (pc + 3) rls (p_rv z v :: rest))) : W p l e R s m args below meth c H locs cells slots Q (F0 m pc rls (.ref (p_ad z a) :: rest)) := by
  obtain ⟨hx, hb, hml, hown, hts, hnm, hK, hT, hz, hZ⟩ := X
  obtain ⟨hb0, r, hr, hlen, hOB⟩ := hR.obj ha
  obtain ⟨ho, hw⟩ := hMO.2.2.2.1 _ (p_pk_mem hp)
  obtain ⟨row, hrow⟩ := hTO.2.2 ci r hr
  obtain ⟨r', hr', hrl, hin, -, -⟩ := hTO.1 ci row hrow
  have er : r' = r := Option.some.inj (hr'.symm.trans hr)
  subst er
  have hk : k.toNat < r'.2.2 := by rw [← hlen]; exact (List.getElem?_eq_some_iff.mp hv).1
  have hlink : (Cond.fieldLink M.1.cls x (r'.2.1 k.toNat).1 (r'.2.1 k.toNat).2.1 (r'.2.1 k.toNat).2.2.1).before args s = true := hts _ (hw _ (by simp [p_w1, hr]))
  have hP : va_P D vwCl [(p_ad z a, .inr (ci, vs.map (p_rv z)))] H := by
    intro i q hi
    have hl : i < 1 := (List.getElem?_eq_some_iff.mp hi).1
    obtain rfl : i = 0 := by omega
    cases hi
    exact ⟨r', hr, hOB⟩
  exact va_get (D := D) (C := r'.1) (T := r'.2.1) (N := r'.2.2) hx hb hts hin hown hK hP 0 rfl hr k.toNat hk hlink (fun _ h9 => h9) (by rw [List.getElem?_map, hv]; rfl) hdg kk
theorem p_obj_set {U : State} {H1 : Heap} {a ci k : Nat} {r : vw_C} {vs : List Value} {v : Value} {cell : Cell} (hb : z.2.2 ≤ a) (hr : vwCl[ci]? = some r) (hlen : vs.length = r.2.2) (hk : k < r.2.2) (q2 : cell.cls = D.1 ci) (q3 : cell.vm = .none) (q4 : ∀ k, k < r.2.2 → cell.slots[D.2 ci k]? = some (vp_V (vs.map (p_rv z)) k)) (hap : ∀ x y, x < r.2.2 → y < r.2.2 → x ≠ y → (D.2 ci) x ≠ (D.2 ci) y)
    (e1 : H1[a]? = some (cell.setSlot (D.2 ci k) (p_rv z v))) : p_cell U z D tys (0, ci, vs.set k v) a H1 := by
  refine Or.inl ⟨rfl, hb, r, hr, by rw [List.length_set]; exact hlen, ?_⟩
  refine t_OB.to (V := updV (vp_V (vs.map (p_rv z))) k (p_rv z v)) ⟨_, e1, q2, q3, t_set q4 hap hk (p_rv z v)⟩ (fun j _ => ?_)
  rw [List.map_set]
  exact vp_updV_set (by rw [List.length_map, hlen]; exact hk) (p_rv z v) j
/-- writing one -/
theorem p_put_ok (hTO : p_TO G MT) (hMO : p_MO MT M) (X : p_X M z D tys p s m args meth c) (hR : p_R s z D tys h H) (hS : va_S (fun q => z.2.2 ≤ q) s.heap H locs) {x a ci : Nat} {k : Int} {vs : List Value} {v : Value} {ty : FieldType} {fin : Bool} (hp : p_pk x 0 M.2.2.2.2.2.1 = some (ci, k)) (ha : h[a]? = some (0, ci, vs))
    (hg : (G[ci]?).bind (fun r => r[k.toNat]?) = some (ty, fin)) (hfit : p_fit ty v = true) (hfin : fin = true → M.2.2.2.2.2.2.1 = true ∧ M.2.2.2.2.2.2.2 = ci) (hkl : k.toNat < vs.length) (hdg : decode M.2.1 pc = .ok (.putfield x, 3))
    (kk : ∀ (H1 : Heap) (locs1 : List Loc), p_R s z D tys (h.set a (0, ci, vs.set k.toNat v)) H1 → va_S (fun q => z.2.2 ≤ q) s.heap H1 locs1 → W p l e R s m args below meth c H1 locs1 cells slots Q (F0 m (pc + 3) rls rest)) : W p l e R s m args below meth c H locs cells slots Q (F0 m pc rls (p_rv z v :: .ref (p_ad z a) :: rest)) := by
  obtain ⟨hx, hb, hml, hown, hts, hnm, hK, hT, hz, hZ⟩ := X
  obtain ⟨hb0, r, hr, hlen, hOB⟩ := hR.obj ha
  obtain ⟨ho, hw⟩ := hMO.2.2.2.1 _ (p_pk_mem hp)
  cases hrow : G[ci]? with
  | none => rw [hrow] at hg; cases hg
  | some row =>
    rw [hrow] at hg
    have hg : row[k.toNat]? = some (ty, fin) := hg
    obtain ⟨r', hr', hrl, hin, hnd, hf⟩ := hTO.1 ci row hrow
    have er : r' = r := Option.some.inj (hr'.symm.trans hr)
    subst er
    have hk : k.toNat < r'.2.2 := by rw [← hlen]; exact hkl
    obtain ⟨f1, f2, f3⟩ := hf _ _ hg
    have hlink : (Cond.fieldLink M.1.cls x (r'.2.1 k.toNat).1 (r'.2.1 k.toNat).2.1 (r'.2.1 k.toNat).2.2.1).before args s = true := hts _ (hw _ (by simp [p_w1, hr]))
    have hty : ∀ j, j < r'.2.2 → parseFieldDescriptor (r'.2.1 j).2.2.1 = some ((row.getD j (.int, false)).1) := by
      intro j hj
      have hj' : j < row.length := by rw [hrl]; exact hj
      have := (hf j _ (List.getElem?_eq_getElem hj')).1
      rw [this, List.getD_eq_getElem?_getD, List.getElem?_eq_getElem hj']
      rfl
    have hap := va_apart (own := M.1.cls) hts hin (fun j => (row.getD j (.int, false)).1) hty hnd hK hr
    simp only [p_fit, Bool.and_eq_true] at hfit
    have hfits : fits ty (p_rv z v) = true := by rw [p_rv_fits]; exact hfit.1
    have hnar : narrow ty (p_rv z v) = p_rv z v := by
      have h1 := hfit.1
      have h2 := hfit.2
      cases v with
      | int x =>
        cases ty with
        | boolean =>
          simp only [fits, Bool.or_eq_true, beq_iff_eq] at h1
          rcases h1 with rfl | rfl <;> rfl
        | int => rfl
        | _ => first | rfl | (simp at h2)
      | _ => cases ty <;> first | rfl | (simp [fits] at h1)
    obtain ⟨cell, q1, q2, q3, q4⟩ := hOB
    obtain ⟨hS1, hfc, kC, hkC, hkind⟩ := hK.1 ci _ hr
    obtain ⟨cf, kf, fi, f, hi, hsl⟩ := hS1 k.toNat hk
    have hlay := hts _ (hin _ (u_in_lay hk))
    unfold u_lay at hlay
    have hst := (u_facts hfc hkC (u_lays hts hin hk) hi).1
    cases hfv : fin with
    | false =>
      rw [if_neg (by rw [f2, hfv]; simp)] at hlay
      have h6 := u_store hfc hkC hkind hlay hi f1 hnar hfits
      refine W.putK hx hb (f := f) ⟨hown, hlink, ⟨_, _, _, hi⟩, hst⟩ (by rw [q2]; exact h6) q1 q3 (by rw [hsl]; exact k2_hasslot (q4 k.toNat hk)) rfl rfl hdg fun H1 e1 e2 e3 => ?_
      rw [hsl] at e1
      exact kk H1 _ (hR.set hb0 e2 e3 (p_obj_set hb0 hr hlen hk q2 q3 q4 hap e1)) (p_put_S hS e2 e3 hb0)
    | true =>
      rw [if_pos (by rw [f2, hfv])] at hlay
      obtain ⟨g1, g2⟩ := hfin hfv
      have hcls : r'.1 = M.1.cls := hMO.2.2.2.2.2.1 r' (by rw [g2]; exact hr)
      have hcf : m.cls = cf := by
        obtain ⟨_, _, c', _, _, _, -, -, hf', -, -, -, hown2, -⟩ := Cond.laysFinal_spec hlay
        have e1 : c' = cf := by have := hi.symm.trans hf'; simp at this; exact this.1.symm
        rw [f3, hcls] at hown2
        rw [← e1]; exact Option.some.inj (hown.symm.trans hown2)
      have h6 := u_fits hfc hkC hkind (Or.inr hlay) hi f1 hnar hfits
      refine W.putFinK hx hb hown hlink hi hst hcf ((hnm g1).trans (hMO.2.2.2.2.1 g1)) (by rw [q2]; exact h6) q1 q3 (by rw [hsl]; exact k2_hasslot (q4 k.toNat hk)) rfl rfl hdg fun H1 e1 e2 e3 => ?_
      rw [hsl] at e1
      exact kk H1 _ (hR.set hb0 e2 e3 (p_obj_set hb0 hr hlen hk q2 q3 q4 hap e1)) (p_put_S hS e2 e3 hb0)
end PO

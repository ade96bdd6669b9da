/-! Arrays and new cells -/
theorem p_rv_def (z : Nat × Nat × Nat) (t : FieldType) : p_rv z (defaultValue t) = defaultValue t := by cases t <;> rfl
theorem p_acI : Cond.arrayClass .int ∈ p_big := p_mbig (by decide +kernel) (by decide +kernel)
theorem p_acB : Cond.arrayClass .byte ∈ p_big := p_mbig (by decide +kernel) (by decide +kernel)
theorem p_acL : Cond.arrayClass .long ∈ p_big := p_mbig (by decide +kernel) (by decide +kernel)
theorem p_acZ : Cond.arrayClass .boolean ∈ p_big := p_mbig (by decide +kernel) (by decide +kernel)
theorem p_ty_ok {ty : ArrayType} {t : Nat} (h : p_ty ty = some t) : p_tyF[t]? = some (newarray.typeOf ty) ∧ Cond.arrayClass (newarray.typeOf ty) ∈ p_big ∧ ∀ n : Nat, n ≤ 1000000 → n * componentBytes (newarray.typeOf ty) ≤ 536870912 := by
  cases ty <;> simp only [p_ty, reduceCtorEq, Option.some.injEq] at h <;> subst h
  · exact ⟨rfl, p_acZ, fun n hn => by show n * 1 ≤ _; omega⟩
  · exact ⟨rfl, p_acB, fun n hn => by show n * 1 ≤ _; omega⟩
  · exact ⟨rfl, p_acI, fun n hn => by show n * 4 ≤ _; omega⟩
  · exact ⟨rfl, p_acL, fun n hn => by show n * 8 ≤ _; omega⟩
section PA
variable {p : Program} {l : Launch} {e : Env} {R : Room} {s : State} {m : MethodId} {args : Array Value} {below : List Frame} {meth : Method} {c : Code} {H : Heap} {locs : List Loc} {cells slots : Nat} {Q : State → Prop}
variable {G : p_G} {MT : List p_M} {M : p_M} {z : Nat × Nat × Nat} {D : va_G} {tys : List (ClassId × FieldType)} {h : p_H} {pc : Nat} {rls : Array Slot} {rest : List Value}
theorem p_new_ok (hTO : p_TO G MT) (hMO : p_MO MT M) (X : p_X M z D tys p s m args meth c) (hR : p_R s z D tys h H) (hS : va_S (fun q => z.2.2 ≤ q) s.heap H locs) {x ci : Nat} {b : Int} {row : List (FieldType × Bool)} (hp : p_pk x 2 M.2.2.2.2.2.1 = some (ci, b)) (hrow : G[ci]? = some row) (hc : cells + 1 ≤ R.cells) (hsl : slots + row.length ≤ R.slots) (hdg : decode M.2.1 pc = .ok (.new x, 3))
    (kk : ∀ (H1 : Heap), p_R s z D tys (h ++ [(0, ci, row.map (fun q => defaultValue q.1))]) H1 → va_S (fun q => z.2.2 ≤ q) s.heap H1 locs → W p l e R s m args below meth c H1 locs (cells + 1) (slots + row.length) Q (F0 m (pc + 3) rls (.ref (p_ad z h.length) :: rest))) : W p l e R s m args below meth c H locs cells slots Q (F0 m pc rls rest) := by
  obtain ⟨hx, hb, hml, hown, hts, hnm, hK, hT, hz, hZ⟩ := X
  obtain ⟨ho, hw⟩ := hMO.2.2.2.1 _ (p_pk_mem hp)
  obtain ⟨r, hr, hrl, hin, hnd, hf⟩ := hTO.1 ci row hrow
  have h1 : (Cond.classLink M.1.cls x r.1).before args s = true := hts _ (hw _ (by simp [p_w1, hr]))
  have h2 : (Cond.instantiable r.1 r.2.2).before args s = true := hts _ (hw _ (by simp [p_w1, hr]))
  have h3 : (Cond.initialized r.1).before args s = true := hts _ (hw _ (by simp [p_w1, hr]))
  have hKn := hK.1 ci _ hr
  refine W.newcK hx hb hown h1 h2 h3 rfl hdg hc (by rw [← hrl]; exact hsl) hKn.2.1 rfl fun H1 kC hkC e1 e2 e3 => ?_
  have hty : ∀ j, j < r.2.2 → parseFieldDescriptor (r.2.1 j).2.2.1 = some ((row.getD j (.int, false)).1) := by
    intro j hj
    have hj' : j < row.length := by rw [hrl]; exact hj
    have := (hf j _ (List.getElem?_eq_getElem hj')).1
    rw [this, List.getD_eq_getElem?_getD, List.getElem?_eq_getElem hj']
    rfl
  have hOB := u_born (fun j => (row.getD j (.int, false)).1) hts hin hKn hkC e1 hty
  have hadr := hR.len
  have hb0 : z.2.2 ≤ p_ad z h.length := by rw [p_ad_len hR.2.2.1]; omega
  have hcell : p_cell s z D tys (0, ci, row.map (fun q => defaultValue q.1)) (p_ad z h.length) H1 := by
    refine Or.inl ⟨rfl, hb0, r, hr, by rw [List.length_map]; exact hrl, ?_⟩
    rw [hadr]
    refine t_OB.to hOB (fun k hk => ?_)
    have hk' : k < row.length := by rw [hrl]; exact hk
    simp [vp_V, List.getD_eq_getElem?_getD, List.getElem?_eq_getElem hk', p_rv_def]
  have := kk H1 (hR.push e2 e3 hcell) (p_push_S hS e2 e3)
  rw [hadr, hrl] at this
  exact this
theorem p_newa_ok (X : p_X M z D tys p s m args meth c) (hR : p_R s z D tys h H) (hS : va_S (fun q => z.2.2 ≤ q) s.heap H locs) {ty : ArrayType} {t : Nat} {n : Int32} (ht : p_ty ty = some t) (hn : ¬ n < 0) (hn2 : n.toNatClampNeg ≤ 1000000) (hc : cells + 1 ≤ R.cells) (hsl : slots + n.toNatClampNeg ≤ R.slots) (hdg : decode M.2.1 pc = .ok (.newarray ty, 2))
    (kk : ∀ (H1 : Heap), p_R s z D tys (h ++ [(1, t, List.replicate n.toNatClampNeg (defaultValue (newarray.typeOf ty)))]) H1 → va_S (fun q => z.2.2 ≤ q) s.heap H1 locs → W p l e R s m args below meth c H1 locs (cells + 1) (slots + n.toNatClampNeg) Q (F0 m (pc + 2) rls (.ref (p_ad z h.length) :: rest))) : W p l e R s m args below meth c H locs cells slots Q (F0 m pc rls (.int n :: rest)) := by
  obtain ⟨hx, hb, hml, hown, hts, hnm, hK, hT, hz, hZ⟩ := X
  obtain ⟨t1, t2, t3⟩ := p_ty_ok ht
  obtain ⟨cB, hcB⟩ := hT.at t1
  have hRA := (hK.2 t _ hcB).2
  refine W.newa hx hb (hts _ t2) rfl hdg rfl hn (t3 _ hn2) hc hsl fun cA kA comp f1 f2 f3 => ?_
  have ecA : cA = cB := by
    have h5 : s.vm.findClass ("[" ++ (newarray.typeOf ty).toString) = some cB := by
      cases ty <;> first | exact hRA | (simp [p_ty] at ht)
    exact Option.some.inj (f1.symm.trans h5)
  subst ecA
  have hadr := hR.len
  have hb0 : z.2.2 ≤ p_ad z h.length := by rw [p_ad_len hR.2.2.1]; omega
  generalize hH1 : H.push ({ cls := cA, slots := Array.replicate n.toNatClampNeg (defaultValue (newarray.typeOf ty)), vm := .none } : Cell) = H1
  have z1 : H1.size = H.size + 1 := by rw [← hH1, Array.size_push]
  have e1 : H1[H.size]? = some (arrV cA n.toNatClampNeg (fun _ => defaultValue (newarray.typeOf ty))) := by rw [← hH1, Array.getElem?_push_size, ← arrV_new]
  have o1 : ∀ q : Nat, q < H.size → H1[q]? = H[q]? := fun q hq => by rw [← hH1, Array.getElem?_push, if_neg (Nat.ne_of_lt hq)]
  have hcell : p_cell s z D tys (1, t, List.replicate n.toNatClampNeg (defaultValue (newarray.typeOf ty))) (p_ad z h.length) H1 := by
    refine Or.inr (Or.inl ⟨rfl, hb0, _, hcB, ?_⟩)
    rw [hadr, e1]
    show some (arrV cA n.toNatClampNeg _) = some (arrV cA (List.replicate n.toNatClampNeg _).length _)
    rw [List.length_replicate]
    congr 1
    have hgen : ∀ f g : Nat → Value, (∀ j, j < n.toNatClampNeg → f j = g j) → arrV cA n.toNatClampNeg f = arrV cA n.toNatClampNeg g := by
      intro f g hfg
      have : (Array.ofFn (n := n.toNatClampNeg) fun j => f j.val) = Array.ofFn (n := n.toNatClampNeg) fun j => g j.val := by
        congr 1
        funext j
        exact hfg j.val j.isLt
      show ({ cls := cA, slots := Array.ofFn (n := n.toNatClampNeg) fun j => f j.val, vm := .none } : Cell) = _
      rw [this]; rfl
    refine hgen _ _ (fun j hj => ?_)
    simp [List.getD_eq_getElem?_getD, hj, p_rv_def]
  have := kk H1 (hR.push z1 o1 hcell) (p_push_S hS z1 o1)
  rw [hadr] at this
  exact this
theorem p_newt_ok (hMO : p_MO MT M) (X : p_X M z D tys p s m args meth c) (hR : p_R s z D tys h H) (hS : va_S (fun q => z.2.2 ≤ q) s.heap H locs) {x : Nat} {u : Nat × Int} {n : Int32} (hp : p_pk x 5 M.2.2.2.2.2.1 = some u) (hn : ¬ n < 0) (hn2 : n.toNatClampNeg ≤ 1000000) (hc : cells + 1 ≤ R.cells) (hsl : slots + n.toNatClampNeg ≤ R.slots) (hdg : decode M.2.1 pc = .ok (.anewarray x, 3))
    (kk : ∀ (H1 : Heap), p_R s z D tys (h ++ [(1, 4, List.replicate n.toNatClampNeg .null)]) H1 → va_S (fun q => z.2.2 ≤ q) s.heap H1 locs → W p l e R s m args below meth c H1 locs (cells + 1) (slots + n.toNatClampNeg) Q (F0 m (pc + 3) rls (.ref (p_ad z h.length) :: rest))) : W p l e R s m args below meth c H locs cells slots Q (F0 m pc rls (.int n :: rest)) := by
  obtain ⟨hx, hb, hml, hown, hts, hnm, hK, hT, hz, hZ⟩ := X
  obtain ⟨ho, hw⟩ := hMO.2.2.2.1 _ (p_pk_mem hp)
  have h1 : (Cond.classLink M.1.cls x "CutInMay$Text").before args s = true := hts _ (hw _ (by simp [p_w1]))
  have h2 : (Cond.arrayOver (.object "CutInMay$Text")).before args s = true := va_AO.use hZ.2.2.2
  obtain ⟨cB, hcB⟩ := hT.at (t := 4) rfl
  have hRA := (hK.2 4 _ hcB).2
  refine W.anew hx hb hown h1 h2 rfl hdg rfl hn (by omega) hc hsl fun cA kA comp f1 f2 f3 f4 => ?_
  have ecA : cA = cB := by
    obtain ⟨_, _, -, -, -, h5⟩ := hRA
    exact Option.some.inj (f1.symm.trans h5)
  subst ecA
  have hadr := hR.len
  have hb0 : z.2.2 ≤ p_ad z h.length := by rw [p_ad_len hR.2.2.1]; omega
  generalize hH1 : H.push ({ cls := cA, slots := Array.replicate n.toNatClampNeg .null, vm := .none } : Cell) = H1
  have z1 : H1.size = H.size + 1 := by rw [← hH1, Array.size_push]
  have e1 : H1[H.size]? = some (arrV cA n.toNatClampNeg (fun _ => .null)) := by rw [← hH1, Array.getElem?_push_size, ← arrV_new]
  have o1 : ∀ q : Nat, q < H.size → H1[q]? = H[q]? := fun q hq => by rw [← hH1, Array.getElem?_push, if_neg (Nat.ne_of_lt hq)]
  have hcell : p_cell s z D tys (1, 4, List.replicate n.toNatClampNeg .null) (p_ad z h.length) H1 := by
    refine Or.inr (Or.inl ⟨rfl, hb0, _, hcB, ?_⟩)
    rw [hadr, e1]
    show some (arrV cA n.toNatClampNeg _) = some (arrV cA (List.replicate n.toNatClampNeg _).length _)
    rw [List.length_replicate]
    congr 2
    funext j
    simp only [List.getD_eq_getElem?_getD, List.getElem?_replicate]
    split <;> rfl
  have := kk H1 (hR.push z1 o1 hcell) (p_push_S hS z1 o1)
  rw [hadr] at this
  exact this
theorem p_copy_ok (hMO : p_MO MT M) (X : p_X M z D tys p s m args meth c) (hR : p_R s z D tys h H) (hS : va_S (fun q => z.2.2 ≤ q) s.heap H locs) (hl : rls.size = M.2.2.1) {x : Nat} {u : Nat × Int} (hp : p_pk x 7 M.2.2.2.2.2.1 = some u) {n dp sp : Int32} {s0 d : Nat} {vs ws : List Value} (h0 : h[s0]? = some (1, 0, vs)) (h1 : h[d]? = some (1, 0, ws))
    (c1 : ¬ sp < 0) (c2 : ¬ dp < 0) (c3 : ¬ n < 0) (c4 : sp.toNatClampNeg + n.toNatClampNeg ≤ vs.length) (c5 : dp.toNatClampNeg + n.toNatClampNeg ≤ ws.length) (c6 : ((vs.drop sp.toNatClampNeg).take n.toNatClampNeg).all (fits .int) = true) (c7 : (rest.map fun v => v.category).sum ≤ 8) (hfr : 1 ≤ R.frames) (hlo : 60 ≤ R.locals) (hdg : decode M.2.1 pc = .ok (.invokestatic x, 3))
    (kk : ∀ (H1 : Heap) (locs1 : List Loc), p_R s z D tys (h.set d (1, 0, p_cpy vs ws sp.toNatClampNeg dp.toNatClampNeg n.toNatClampNeg)) H1 → va_S (fun q => z.2.2 ≤ q) s.heap H1 locs1 → W p l e R s m args below meth c H1 locs1 cells slots Q (F0 m (pc + 3) rls rest)) : W p l e R s m args below meth c H locs cells slots Q (F0 m pc rls (.int n :: .int dp :: .ref (p_ad z d) :: .int sp :: .ref (p_ad z s0) :: rest)) := by
  obtain ⟨hx, hb, hml, hown, hts, hnm, hK, hT, hz, hZ⟩ := X
  obtain ⟨ho, hw⟩ := hMO.2.2.2.1 _ (p_pk_mem hp)
  have w1 : (Cond.methodLink M.1.cls x arraycopyName).before args s = true := hts _ (hw _ (by simp [p_w1]))
  have w2 : (Cond.native arraycopyName).before args s = true := hts _ (hw _ (by simp [p_w1]))
  have w3 : (Cond.static arraycopyName).before args s = true := hts _ (hw _ (by simp [p_w1]))
  have w4 : (Cond.initialized "java/lang/System").before args s = true := hts _ (hw _ (by simp [p_w1]))
  obtain ⟨hb0, q0, t0, e0⟩ := hR.arr h0
  obtain ⟨hb1, q1, t1, e1⟩ := hR.arr h1
  have eq : q1 = q0 := Option.some.inj (t1.symm.trans t0)
  subst eq
  have ety : q1.2 = .int := hT.is t1 rfl
  have nn : ∀ z : Int32, ¬ z < 0 → z.toInt = (z.toNatClampNeg : Int) := by
    intro z hz
    have hz0 : (0 : Int) ≤ z.toInt := by
      have := Int32.not_lt.mp hz
      simpa using Int32.le_iff_toInt_le.mp this
    show z.toInt = ((z.toInt.toNat : Nat) : Int)
    omega
  intro T hT0 X0
  obtain ⟨-, k0, hk0, cm0, hkk0⟩ := (hK.2 0 _ t1).1 vs.length (fun j => p_rv z (vs.getD j .null))
  rw [ety] at hkk0
  obtain ⟨vm', X', step⟩ := X0.arraycopy hx hown w1 w2 w3 w4 (src := p_ad z s0) (dst := p_ad z d) (cs := arrV q1.1 vs.length (fun j => p_rv z (vs.getD j .null))) (cd := arrV q1.1 ws.length (fun j => p_rv z (ws.getD j .null))) (srcPos := sp) (destPos := dp) (n := n) (by rw [hT0]; exact e0) (by rw [hT0]; exact e1)
    (fun _ h => by cases h) (fun _ h => by cases h) (fun h => by cases h) (fun h => by cases h) hk0 hk0 hkk0 hkk0 (by decide) c1 c2 c3
    (by rw [nn sp c1, nn n c3, arrV_size]; omega)
    (by rw [nn dp c2, nn n c3, arrV_size]; omega)
    (fun vm₁ _ i hi => by
      have hlt : sp.toNatClampNeg + i < vs.length := by omega
      have e2 : (arrV q1.1 vs.length (fun j => p_rv z (vs.getD j .null))).slots.getD (sp.toNatClampNeg + i) .null = p_rv z vs[sp.toNatClampNeg + i] := by
        rw [Array.getD_eq_getD_getElem?, arrV_read _ _ hlt]
        simp [List.getD_eq_getElem?_getD, hlt]
      have hf : fits .int vs[sp.toNatClampNeg + i] = true := by
        refine List.all_eq_true.mp c6 _ ?_
        refine List.mem_of_getElem? (i := i) ?_
        rw [List.getElem?_take, if_pos hi, List.getElem?_drop, List.getElem?_eq_getElem hlt]
      rw [e2]
      cases hv : vs[sp.toNatClampNeg + i] with
      | int y => exact ⟨rfl, trivial⟩
      | _ => rw [hv] at hf; simp [fits] at hf)
    (g := F0 m pc rls (.int n :: .int dp :: .ref (p_ad z d) :: .int sp :: .ref (p_ad z s0) :: rest)) rfl (by rw [hml]; exact hl) (rest := rest) rfl (by rw [hb]; exact hdg) hfr (by
      have hn : nativeFrameWords "java/lang/System" "arraycopy" 5 + 11 ≤ 52 := by decide +kernel
      show 2 * 0 + _ + _ ≤ _; omega)
  have e3 : copied (arrV q1.1 vs.length (fun j => p_rv z (vs.getD j .null))) (arrV q1.1 ws.length (fun j => p_rv z (ws.getD j .null))) sp dp n = arrV q1.1 ws.length (va_cpy (fun j => p_rv z (vs.getD j .null)) (fun j => p_rv z (ws.getD j .null)) sp.toNatClampNeg dp.toNatClampNeg n.toNatClampNeg) := va_copied (fun z => z) q1.1 q1.1 (fun j => p_rv z (vs.getD j .null)) (fun j => p_rv z (ws.getD j .null)) c4
  rw [e3] at X' step
  have hlt : p_ad z d < H.size := (Array.getElem?_eq_some_iff.mp e1).1
  generalize hcv : arrV q1.1 ws.length (va_cpy (fun j => p_rv z (vs.getD j .null)) (fun j => p_rv z (ws.getD j .null)) sp.toNatClampNeg dp.toNatClampNeg n.toNatClampNeg) = cv at X' step
  have hheap : ((T.setVm vm').setCell (p_ad z d) cv).heap = H.setIfInBounds (p_ad z d) cv := by rw [← hT0]; rfl
  have oq : ∀ q : Nat, q ≠ p_ad z d → (H.setIfInBounds (p_ad z d) cv)[q]? = H[q]? := fun q hq => by simp [Array.getElem?_setIfInBounds, Ne.symm hq]
  have hcell : p_cell s z D tys (1, 0, p_cpy vs ws sp.toNatClampNeg dp.toNatClampNeg n.toNatClampNeg) (p_ad z d) (H.setIfInBounds (p_ad z d) cv) := by
    refine Or.inr (Or.inl ⟨rfl, hb1, _, t1, ?_⟩)
    have hlen : (p_cpy vs ws sp.toNatClampNeg dp.toNatClampNeg n.toNatClampNeg).length = ws.length := by
      simp only [p_cpy, List.length_append, List.length_take, List.length_drop]; omega
    show (H.setIfInBounds (p_ad z d) cv)[p_ad z d]? = some (arrV q1.1 (p_cpy vs ws sp.toNatClampNeg dp.toNatClampNeg n.toNatClampNeg).length _)
    rw [hlen, ← hcv]
    simp only [Array.getElem?_setIfInBounds, hlt, if_true]
    congr 1
    have hgen : ∀ f g : Nat → Value, (∀ j, j < ws.length → f j = g j) → arrV q1.1 ws.length f = arrV q1.1 ws.length g := by
      intro f g hfg
      have : (Array.ofFn (n := ws.length) fun j => f j.val) = Array.ofFn (n := ws.length) fun j => g j.val := by
        congr 1
        funext j
        exact hfg j.val j.isLt
      show ({ cls := q1.1, slots := Array.ofFn (n := ws.length) fun j => f j.val, vm := .none } : Cell) = _
      rw [this]; rfl
    refine hgen _ _ (fun j hj => ?_)
    simp only [va_cpy, p_cpy, List.getD_eq_getElem?_getD]
    by_cases g1 : j < dp.toNatClampNeg
    · rw [if_neg (by omega), List.getElem?_append_left (by rw [List.length_take]; omega), List.getElem?_take, if_pos g1]
    · have hlt2 : (ws.take dp.toNatClampNeg).length = dp.toNatClampNeg := by rw [List.length_take]; omega
      have hlt3 : ((vs.drop sp.toNatClampNeg).take n.toNatClampNeg).length = n.toNatClampNeg := by rw [List.length_take, List.length_drop]; omega
      rw [List.getElem?_append_right (by omega), hlt2]
      by_cases g2 : j < dp.toNatClampNeg + n.toNatClampNeg
      · rw [if_pos ⟨by omega, g2⟩, List.getElem?_append_left (by omega), List.getElem?_take, if_pos (by omega), List.getElem?_drop]
      · rw [if_neg (by omega), List.getElem?_append_right (by omega), hlt3, List.getElem?_drop]
        congr 3
        omega
  obtain ⟨t, a1, b1⟩ := kk _ _ (hR.set hb1 (by simp) oq hcell) ⟨by simp; exact hS.1, fun q g1 g2 => by
      rw [oq q (fun e => g2 (by rw [e]; exact hb1))]
      exact hS.2.1 q g1 g2, fun q hq => by
      rcases List.mem_append.mp hq with g | g
      · exact hS.2.2 q g
      · obtain ⟨y, -, hy⟩ := List.mem_map.mp g
        rw [← hy]
        exact hb1⟩ _ hheap X'
  exact ⟨t, step t a1, b1⟩
theorem p_cast_ok (hMO : p_MO MT M) (X : p_X M z D tys p s m args meth c) (hR : p_R s z D tys h H) {x a : Nat} {u : Nat × Int} {vs : List Value} (hp : p_pk x 13 M.2.2.2.2.2.1 = some u) (ha : h[a]? = some (1, 0, vs)) (hdg : decode M.2.1 pc = .ok (.checkcast x, 3))
    (kk : W p l e R s m args below meth c H locs cells slots Q (F0 m (pc + 3) rls (.ref (p_ad z a) :: rest))) : W p l e R s m args below meth c H locs cells slots Q (F0 m pc rls (.ref (p_ad z a) :: rest)) := by
  obtain ⟨hx, hb, hml, hown, hts, hnm, hK, hT, hz, hZ⟩ := X
  obtain ⟨ho, hw⟩ := hMO.2.2.2.1 _ (p_pk_mem hp)
  have w1 : (Cond.classLink M.1.cls x "[I").before args s = true := hts _ (hw _ (by simp [p_w1]))
  obtain ⟨hb0, q0, t0, e0⟩ := hR.arr ha
  have ety : q0.2 = .int := hT.is t0 rfl
  have hRA : va_RA s q0.1 .int := ety ▸ (hK.2 0 _ t0).2
  have hfc := va_nm_int hRA
  intro T hT0 X0
  obtain ⟨vm', X', st⟩ := X0.checkcastYes hx hown w1 (by rw [hT0]; exact e0) rfl hfc (va_asg _ _) (g := F0 m pc rls (.ref (p_ad z a) :: rest)) rfl rfl (by rw [hb]; exact hdg)
  obtain ⟨t, a1, b1⟩ := kk (T.setVm vm') hT0 X'
  exact ⟨t, st t a1, b1⟩
theorem p_clone_ok (hMO : p_MO MT M) (X : p_X M z D tys p s m args meth c) (hR : p_R s z D tys h H) (hS : va_S (fun q => z.2.2 ≤ q) s.heap H locs) (hl : rls.size = M.2.2.1) {x a : Nat} {u : Nat × Int} {vs : List Value} (hp : p_pk x 12 M.2.2.2.2.2.1 = some u) (ha : h[a]? = some (1, 0, vs)) (hall : vs.all (fits .int) = true) (c7 : (rest.map fun v => v.category).sum ≤ 8) (hfr : 1 ≤ R.frames) (hlo : 60 ≤ R.locals) (hc : cells + 1 ≤ R.cells) (hsl : slots + vs.length ≤ R.slots) (hdg : decode M.2.1 pc = .ok (.invokevirtual x, 3))
    (kk : ∀ (H1 : Heap), p_R s z D tys (h ++ [(1, 0, vs)]) H1 → va_S (fun q => z.2.2 ≤ q) s.heap H1 locs → W p l e R s m args below meth c H1 locs (cells + 1) (slots + vs.length) Q (F0 m (pc + 3) rls (.ref (p_ad z h.length) :: rest))) : W p l e R s m args below meth c H locs cells slots Q (F0 m pc rls (.ref (p_ad z a) :: rest)) := by
  obtain ⟨hx, hb, hml, hown, hts, hnm, hK, hT, hz, hZ⟩ := X
  obtain ⟨ho, hw⟩ := hMO.2.2.2.1 _ (p_pk_mem hp)
  have w1 := hts (.methodLink M.1.cls x ⟨"[I", "clone", "()Ljava/lang/Object;"⟩) (hw _ (by simp [p_w1]))
  have w2 := hts (.sameMethod "[I" "java/lang/Object" "clone" "()Ljava/lang/Object;") (hw _ (by simp [p_w1]))
  have w3 := hts (.native ⟨"java/lang/Object", "clone", "()Ljava/lang/Object;"⟩) (hw _ (by simp [p_w1]))
  have w4 := hts (.instanceMethod ⟨"java/lang/Object", "clone", "()Ljava/lang/Object;"⟩) (hw _ (by simp [p_w1]))
  have w5 := hts (.selects "[I" ⟨"[I", "clone", "()Ljava/lang/Object;"⟩ ⟨"java/lang/Object", "clone", "()Ljava/lang/Object;"⟩) (hw _ (by simp [p_w1]))
  have w6 : (Cond.castable "[I" "java/lang/Cloneable").before args s = true := va_Nw.use rfl hZ.2.2.1
  obtain ⟨hb0, q0, t0, e0⟩ := hR.arr ha
  have ety : q0.2 = .int := hT.is t0 rfl
  have hRA : va_RA s q0.1 .int := ety ▸ (hK.2 0 _ t0).2
  have hfc := va_nm_int hRA
  obtain ⟨c0, t0', f1, f2, f3⟩ := Cond.castable_spec w6
  cases hfc.symm.trans f1
  have hArr : ArrOfT s q0.1 .int := ety ▸ (hK.2 0 _ t0).1
  generalize hF : (fun j => p_rv z (vs.getD j .null)) = F at e0
  have hfit : ∀ (i : Nat) (v : Value), (arrV q0.1 vs.length F).slots[i]? = some v → fits .int v = true := by
    refine va_fit (fun i hi => ?_)
    rw [← hF]
    show fits .int (p_rv z (vs.getD i .null)) = true
    rw [p_rv_fits, List.getD_eq_getElem?_getD, List.getElem?_eq_getElem hi]
    exact List.all_eq_true.mp hall _ (List.getElem_mem hi)
  intro T hT0 X0
  have hcellT : T.heap[p_ad z a]? = some (arrV q0.1 vs.length F) := by rw [hT0]; exact e0
  obtain ⟨-, kA, hkA, comp, hkind⟩ := State.isArrayOf_alike X0.warmed.alike (hArr 0 (fun _ => .null))
  obtain ⟨-, kS, hkS, compS, hkindS⟩ := hArr 0 (fun _ => .null)
  obtain ⟨vm', X', st⟩ := X0.cloneArray hx hown w1 w2 w3 w4 w5 (a := p_ad z a) (cell := arrV q0.1 vs.length F) hcellT (fun k h => by cases h) (fun h => by cases h) hfc f2 f3
    (fun i v hv => by
      have hk' : T.vm.classes[q0.1]? = some kA := hkA
      show T.fitsSlot q0.1 _ i v = true
      simpa [State.fitsSlot, State.slotType?, hk', hkind] using hfit i v hv)
    (g := F0 m pc rls (.ref (p_ad z a) :: rest)) rfl (by rw [hml]; exact hl) rfl (by rw [hb]; exact hdg) hfr (by show 2 * 0 + _ + 14 ≤ _; omega) hc (by rw [arrV_size]; exact hsl) (hloader := Vm.clonesLoader_of_array hkS hkindS)
  rw [arrV_size] at X'
  have hcellE : ({ cls := (arrV q0.1 vs.length F).cls, slots := (arrV q0.1 vs.length F).slots } : Cell) = arrV q0.1 vs.length F := rfl
  rw [hcellE] at X' st
  have hadr := hR.len
  generalize hH1 : H.push (arrV q0.1 vs.length F) = H1
  have z1 : H1.size = H.size + 1 := by rw [← hH1, Array.size_push]
  have e1 : H1[H.size]? = some (arrV q0.1 vs.length F) := by rw [← hH1, Array.getElem?_push_size]
  have o1 : ∀ q : Nat, q < H.size → H1[q]? = H[q]? := fun q hq => by rw [← hH1, Array.getElem?_push, if_neg (Nat.ne_of_lt hq)]
  have hcell : p_cell s z D tys (1, 0, vs) (p_ad z h.length) H1 := by
    refine Or.inr (Or.inl ⟨rfl, by rw [p_ad_len hR.2.2.1]; omega, _, t0, ?_⟩)
    rw [hadr, e1, ← hF]
  obtain ⟨t, b1, b2⟩ := kk H1 (hR.push z1 o1 hcell) (p_push_S hS z1 o1) ((T.setVm vm').pushCell (arrV q0.1 vs.length F)) (by rw [← hH1, ← hT0]; rfl) X'
  refine ⟨t, st t ?_, b2⟩
  rw [hT0, ← hadr]
  exact b1
end PA

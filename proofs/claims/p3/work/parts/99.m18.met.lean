/-! What the pure machine does, the machine does: of a body, and of a method at its arguments -/
def p_RI (i : Instr) (rt : Option FieldType) (v : Option Value) : Prop :=
  (i = .return_ ∧ v = none ∧ rt = none) ∨ (i = .ireturn ∧ ∃ x ty, v = some (.int x) ∧ rt = some ty ∧ narrow ty (.int x) = .int x) ∨ (i = .lreturn ∧ ∃ x, v = some (.long x) ∧ rt = some .long) ∨
  (i = .areturn ∧ ∃ w ty, v = some w ∧ rt = some ty ∧ ((∃ n, ty = .object n) ∨ ∃ t, ty = .array t) ∧ (w = .null ∨ ∃ a, w = .ref a))
set_option maxHeartbeats 1000000 in
theorem p_ret_ok {G : p_G} {MT : List p_M} {M : p_M} {i : Instr} {pc : Nat} {ls : p_Ls} {st : List Value} {h : p_H} {v : Option Value} (hs : p_step G MT M i pc ls st h = some (.inr (.inl v))) : st = v.toList ∧ p_RI i M.2.2.2.1 v := by
  unfold p_step at hs
  split at hs
  all_goals first
    | (simp only [p_go] at hs; cases hs; done)
    | ((try simp only [p_cst, p_ld, p_sv, p_jm, p_br, p_sw, p_al, p_as, p_getf, p_putf, p_new, p_newa, p_cc, p_go] at hs); (repeat' split at hs) <;> cases hs; done)
    | (simp only [p_invs, p_copy, p_inv, p_go] at hs; (repeat' split at hs) <;> first | (cases hs; done) | (next o ho => (repeat' split at ho) <;> (cases ho; try cases hs)))
    | (simp only [p_vir, p_clone, p_invv, p_invi, p_inv, p_go] at hs; (repeat' split at hs) <;> first | (cases hs; done) | (next o ho => (repeat' split at ho) <;> (cases ho; try cases hs)))
    | skip
  · split at hs
    · next o ho =>
      cases hs
      simp only [p_as, p_go] at ho
      (repeat' split at ho) <;> cases ho
    · simp only [p_as, p_go] at hs
      (repeat' split at hs) <;> cases hs
  all_goals
    generalize hrt : M.2.2.2.1 = rt at hs
    simp only [p_ret] at hs
    repeat' split at hs
  all_goals first | (cases hs; done) | skip
  all_goals (simp only [Option.some.injEq, Sum.inr.injEq, Sum.inl.injEq] at hs; subst hs; simp_all [p_RI])
theorem p_args_map (z : Nat × Nat × Nat) : ∀ (as : List Value) (i : Nat), lv_args i (as.map (p_rv z)) = (lv_args i as).map (p_rq z) := by
  intro as
  induction as with
  | nil => intro i; rfl
  | cons v vs ih =>
    intro i
    simp only [List.map_cons, lv_args, p_rv_cat, ih]
    rfl
theorem p_sl_len : ∀ vs : List Value, (lg_sl vs).length = p_cat vs := by
  intro vs
  induction vs with
  | nil => rfl
  | cons v vs ih =>
    simp only [lg_sl, List.flatMap_cons, List.length_append, p_cat, List.map_cons, List.sum_cons] at ih ⊢
    rw [ih]
    rcases lv_cat v with q | q <;> simp [q]
/-- the frame of a body -/
def p_Fr (G : p_G) (MT : List p_M) (n : Nat) : Prop := ∀ (d : Nat) (M : p_M) (pc : Nat) (ls : p_Ls) (st : List Value) (h : p_H) (v : Option Value) (h2 : p_H), p_run G MT n d M pc ls st h = some (v, h2) → p_MO MT M →
  ∀ (l : Launch) (z : Nat × Nat × Nat) (D : va_G) (tys : List (ClassId × FieldType)) (p : Program) (e : Env) (R : Room) (s : State) (m : MethodId) (args : Array Value) (below : List Frame) (meth : Method) (c : Code) (H : Heap) (locs : List Loc) (cells slots : Nat) (Q : State → Prop) (rls : Array Slot),
    p_X M z D tys p s m args meth c → p_R s z D tys h H → va_S (fun q => z.2.2 ≤ q) s.heap H locs → lv_has rls M.2.2.1 (ls.map (p_rq z)) → d + 1 ≤ R.frames → 60 * (d + 1) ≤ R.locals → cells + (h2.length - h.length) ≤ R.cells → slots + (p_sl h2 - p_sl h) ≤ R.slots →
    (∀ (pc' : Nat) (i : Instr) (rls' : Array Slot) (H' : Heap) (locs' : List Loc), decode M.2.1 pc' = .ok (i, 1) → p_RI i M.2.2.2.1 v → p_R s z D tys h2 H' → va_S (fun q => z.2.2 ≤ q) s.heap H' locs' → W p l e R s m args below meth c H' locs' (cells + (h2.length - h.length)) (slots + (p_sl h2 - p_sl h)) Q (F0 m pc' rls' (v.toList.map (p_rv z)))) →
    W p l e R s m args below meth c H locs cells slots Q (F0 m pc rls (st.map (p_rv z)))
theorem p_met {G : p_G} {MT : List p_M} {n : Nat} (hF : p_Fr G MT n) {d : Nat} {M : p_M} {as : List Value} {h : p_H} {v : Option Value} {h2 : p_H} (hrun : p_run G MT n d M 0 (lv_args 0 as) [] h = some (v, h2)) (hMO : p_MO MT M) (hcat : p_cat as ≤ M.2.2.1) {tys : List (ClassId × FieldType)} (hT : p_KT tys) (l : Launch) (z : Nat × Nat × Nat) (D : va_G) : p_Met l z D tys d M as h v h2 := by
  refine va_MetF (cc := M.2.1) (maxL := M.2.2.1) (ret := M.2.2.2.1) hMO.1 rfl ?_
  intro p e s m args below meth c s₁ B hml hv
  obtain ⟨rfl, hR, hK, hz, hZ, hN⟩ := hv
  have hx := B.exec
  have hb := B.bytes
  have hr := B.returns
  have hts := atoms_spec (ws := .code M.1 M.2.1 M.2.2.1 M.2.2.2.1 :: p_big) B.pre
  have hown : s.vm.findClass M.1.cls = some m.cls := findClass_of_methodNamed B.named
  have hlocks := B.notSynchronized
  have hnm : meth.name = M.1.name := (name_of_methodNamed B.named B.method).1
  have hcat' : p_cat (as.map (p_rv z)) ≤ M.2.2.1 := by
    have : p_cat (as.map (p_rv z)) = p_cat as := p_catm as
    rw [this]; exact hcat
  have hl := lv_entry (as.map (p_rv z)) (n := M.2.2.1) (by rw [p_sl_len]; exact hcat')
  rw [p_args_map] at hl
  rw [lg_entry_eq]
  refine hF d M 0 (lv_args 0 as) [] h v h2 hrun hMO l z D tys p e _ s m _ below meth c s.heap [] 0 0 _ _ ⟨hx, hb, hml, hown, fun w hw => hts w (List.mem_cons_of_mem _ hw), (fun _ => hnm), hK, hT, hz, hZ, hN⟩ hR va_S.rf hl (Nat.le_refl _) (Nat.le_refl _) (by show 0 + _ ≤ h2.length - h.length; omega) (by show 0 + _ ≤ p_sl h2 - p_sl h; omega) ?_
  intro pc' i rls' H' locs' hdg hRI hR' hS'
  have hq : ∀ t : State, t.heap = H' → s.WarmedH t.vm → p_Post z D tys v h2 (as.map (p_rv z)).toArray s (.returned (v.map (p_rv z))) t := by
    intro t ht hW
    exact ⟨rfl, by rw [ht]; exact hR'.moved hW.alike, hS'.F ht⟩
  simp only [Nat.zero_add]
  rcases hRI with ⟨rfl, rfl, hrt⟩ | ⟨rfl, x, ty, rfl, hrt, hnar⟩ | ⟨rfl, x, rfl, hrt⟩ | ⟨rfl, w, ty, rfl, hrt, hty, hw⟩
  · exact W.vret hx hb (hr.trans hrt) hq hS'.2.2 hdg
  · exact W.zret hx hb (hr.trans hrt) hnar hq hS'.2.2 hdg
  · exact W.lret hx hb (hr.trans hrt) hq hS'.2.2 hdg
  · refine W.aret hx hb (hr.trans hrt) hty ?_ hq hS'.2.2 hdg
    rcases hw with rfl | ⟨a, rfl⟩
    · exact Or.inl rfl
    · exact Or.inr ⟨_, rfl⟩
set_option maxHeartbeats 1000000 in
theorem p_frame {G : p_G} {MT : List p_M} (hTO : p_TO G MT) : ∀ n, p_Fr G MT n := by
  intro n
  induction n with
  | zero => intro d M pc ls st h v h2 hs; simp [p_run] at hs
  | succ n ih =>
    intro d M pc ls st h v h2 hs hMO l z D tys p e R s m args below meth c H locs cells slots Q rls X hR hS hl hfr hlo hc hsl hret
    simp only [p_run] at hs
    split at hs
    · cases hs
    · next i len hat =>
      split at hs
      · cases hs
      · next pc1 ls1 st1 h1 hst =>
        have l1 := p_le.step hst
        have l2 := p_le.run _ _ _ _ _ _ _ _ _ hs
        refine p_next hTO hMO X hat hst hR hS hl (by omega) (by omega) (by have := l1.1; have := l2.1; omega) (by have := l1.2; have := l2.2; omega) ?_
        intro rls1 H1 locs1 hR1 hS1 hl1
        have e1 : cells + (h1.length - h.length) + (h2.length - h1.length) = cells + (h2.length - h.length) := by have := l1.1; have := l2.1; omega
        have e2 : slots + (p_sl h1 - p_sl h) + (p_sl h2 - p_sl h1) = slots + (p_sl h2 - p_sl h) := by have := l1.2; have := l2.2; omega
        refine ih d M pc1 ls1 st1 h1 v h2 hs hMO l z D tys p e R s m args below meth c H1 locs1 _ _ Q rls1 X hR1 hS1 hl1 hfr hlo (by rw [e1]; exact hc) (by rw [e2]; exact hsl) ?_
        rw [e1, e2]
        exact hret
      · next w hst =>
        cases hs
        obtain ⟨rfl, hRI⟩ := p_ret_ok hst
        obtain ⟨hdg0, hln0⟩ := hMO.2.2.1 _ (p_at_mem hat)
        have hdg : decode M.2.1 pc = .ok (i, 1) := by
          have e1 : len = 1 := by
            rcases hRI with ⟨rfl, -⟩ | ⟨rfl, -⟩ | ⟨rfl, -⟩ | ⟨rfl, -⟩ <;> exact hln0.elim (fun q => by simp [p_ln] at q) (fun q => q)
          rw [← e1]; exact hdg0
        have := hret pc i rls H locs hdg hRI hR hS
        rw [Nat.sub_self, Nat.sub_self] at this
        exact this
      · next m' as rest hst =>
        split at hs
        · next d' M' hm =>
          split at hs
          · next hcat =>
            split at hs
            · next w h1 hcal =>
              have l1 := p_le.run _ _ _ _ _ _ _ _ _ hcal
              have l2 := p_le.run _ _ _ _ _ _ _ _ _ hs
              have hMet := p_met ih hcal (hTO.2.1 M' (List.mem_of_getElem? hm)) hcat X.2.2.2.2.2.2.2.1 l z D
              refine p_call hTO hMO X hat hst hm hMet hR hS hl.1 (by omega) (by omega) (by have := l1.1; have := l2.1; omega) (by have := l1.2; have := l2.2; omega) ?_
              intro H1 locs1 hR1 hS1
              have e1 : cells + (h1.length - h.length) + (h2.length - h1.length) = cells + (h2.length - h.length) := by have := l1.1; have := l2.1; omega
              have e2 : slots + (p_sl h1 - p_sl h) + (p_sl h2 - p_sl h1) = slots + (p_sl h2 - p_sl h) := by have := l1.2; have := l2.2; omega
              have e3 : (w.map (p_rv z)).toList ++ rest.map (p_rv z) = (w.toList ++ rest).map (p_rv z) := by cases w <;> simp
              rw [e3]
              refine ih _ M (pc + 3) ls (w.toList ++ rest) h1 v h2 hs hMO l z D tys p e R s m args below meth c H1 locs1 _ _ Q rls X hR1 hS1 hl hfr hlo (by rw [e1]; exact hc) (by rw [e2]; exact hsl) ?_
              rw [e1, e2]
              exact hret
            · cases hs
          · cases hs
        · cases hs

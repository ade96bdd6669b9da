/-! Calls -/
theorem p_good {w : Cond} (h : w ∈ p_big) : GoodIn p_big (w :: p_big) := by
  intro u hu
  have hm : u ∈ p_big := (List.mem_cons.mp hu).elim (fun q => by rw [q]; exact h) id
  exact ⟨hm, good_of_word (List.mem_filter.mp hm).2⟩
def p_Pre (z : Nat × Nat × Nat) (D : va_G) (tys : List (ClassId × FieldType)) (as : List Value) (h : p_H) : Array Value → State → Prop := fun a U => a = (as.map (p_rv z)).toArray ∧ p_R U z D tys h U.heap ∧ va_K D vwCl tys U ∧ z.2.2 ≤ U.heap.size ∧ va_Z "CutInMay$Reader" "WORDS" "[J" (.ref z.2.1) (fun q => z.2.2 ≤ q) U U.heap ∧ p_N U
def p_Post (z : Nat × Nat × Nat) (D : va_G) (tys : List (ClassId × FieldType)) (v : Option Value) (h2 : p_H) : Array Value → State → Outcome → State → Prop := fun _ st o t => o = .returned (v.map (p_rv z)) ∧ p_R t z D tys h2 t.heap ∧ va_F (fun q => z.2.2 ≤ q) st t
def p_rm (d mc ms : Nat) : Room := { frames := d + 1, cells := mc, slots := ms, locals := 60 * (d + 1) }
/-- a method's contract at these arguments and this heap -/
def p_Met (l : Launch) (z : Nat × Nat × Nat) (D : va_G) (tys : List (ClassId × FieldType)) (d : Nat) (M : p_M) (as : List Value) (h : p_H) (v : Option Value) (h2 : p_H) : Prop :=
  Met l M.1 (.code M.1 M.2.1 M.2.2.1 M.2.2.2.1 :: p_big) (p_rm d (h2.length - h.length) (p_sl h2 - p_sl h)) (p_Pre z D tys as h) (p_Post z D tys v h2) (h2.length - h.length) (p_sl h2 - p_sl h) (fun q => z.2.2 ≤ q)
theorem p_blind {z : Nat × Nat × Nat} {D : va_G} {tys : List (ClassId × FieldType)} {as : List Value} {h : p_H} : FrameBlind (p_Pre z D tys as h) := by
  intro a U g mk ⟨h1, h2, h3, h4, h5, h6⟩
  exact ⟨h1, p_R.moved (U := U) (U' := U.calling g mk a) (Vm.Alike.refl U.vm) h2, va_K.moved (u := U) (U := U.calling g mk a) (Vm.Alike.refl U.vm) h3, h4, va_Z.moved (u := U) (U := U.calling g mk a) (Vm.Alike.refl U.vm) h5, p_N.same (u := U) (U := U.calling g mk a) rfl h6⟩
section PC
variable {p : Program} {l : Launch} {e : Env} {R : Room} {s : State} {m : MethodId} {args : Array Value} {below : List Frame} {meth : Method} {c : Code} {H : Heap} {locs : List Loc} {cells slots : Nat} {Q : State → Prop}
variable {G : p_G} {MT : List p_M} {M : p_M} {z : Nat × Nat × Nat} {D : va_G} {tys : List (ClassId × FieldType)} {h h2 : p_H} {pc : Nat} {rls : Array Slot} {ls : p_Ls} {st : List Value}
theorem p_pre {as : List Value} (X : p_X M z D tys p s m args meth c) (hR : p_R s z D tys h H) (hS : va_S (fun q => z.2.2 ≤ q) s.heap H locs) : ∀ U : State, U.heap = H → s.WarmedH U.vm → p_Pre z D tys as h (as.map (p_rv z)).toArray U := by
  intro U hU hW
  obtain ⟨hx, hb, hml, hown, hts, hnm, hK, hT, hz, hZ⟩ := X
  refine ⟨rfl, ?_, va_K.moved hW.alike hK, by rw [hU]; exact Nat.le_trans hz hS.1, ?_, hZ.2.moved hW⟩
  · rw [hU]; exact hR.moved hW.alike
  · rw [hU]; exact (hZ.1.kept hS.2.1).moved hW.alike
/-- behind a call -/
theorem p_after {v : Option Value} {mc ms : Nat} {a : Array Value} {rest st0 : List Value} (hr : va_Run p l e R s m args below meth c H locs cells slots mc ms (F0 m pc rls st0) rest (p_Post z D tys v h2 a) (fun q => z.2.2 ≤ q)) (hS : va_S (fun q => z.2.2 ≤ q) s.heap H locs)
    (kk : ∀ (H1 : Heap) (locs1 : List Loc), p_R s z D tys h2 H1 → va_S (fun q => z.2.2 ≤ q) s.heap H1 locs1 → W p l e R s m args below meth c H1 locs1 (cells + mc) (slots + ms) Q (F0 m (pc + 3) rls ((v.map (p_rv z)).toList ++ rest))) : W p l e R s m args below meth c H locs cells slots Q (F0 m pc rls st0) := by
  intro T hT X
  obtain ⟨w, st₀, t, T', L, h0, X', hL, e1, e2, ⟨hv, hR2, hz, hk⟩, stp⟩ := hr T hT X
  obtain rfl : w = v.map (p_rv z) := Outcome.returned.inj hv
  rw [h0] at hz hk
  have hvm : s.vm.Alike t.vm := by rw [← e2]; exact X'.warmed.alike
  obtain ⟨t2, a1, b1⟩ := kk T'.heap (locs ++ L) (by rw [e1]; exact hR2.moved hvm.symm)
    ⟨Nat.le_trans hS.1 (by rw [e1]; exact hz), fun q g1 g2 => by rw [e1, hk q (Nat.lt_of_lt_of_le g1 hS.1) g2]; exact hS.2.1 q g1 g2, fun q hq => by
      rcases List.mem_append.mp hq with g | g
      · exact hS.2.2 q g
      · exact hL q g⟩ T' rfl X'
  exact ⟨t2, stp t2 a1, b1⟩
/-- a virtual call with up to nine words below it -/
theorem p_runV {y : MethodName} {bytes cc : ByteArray} {maxL nL mc ms n index : Nat} {ret : Option FieldType} {ws : List Cond} {rm : Room} {Pc : Array Value → State → Prop} {Qc : Array Value → State → Outcome → State → Prop} {free : Addr → Prop} {Ts : List Cond} {own C : String} {b : Addr} {As rest : List Value} {g : JFrame}
    (S : CallFix p m c cc nL s args Ts own) (hM : Met l y ws rm Pc Qc mc ms free) (hlo : 9 + (maxL + 11) + rm.locals ≤ R.locals) (cw : CallW R s args own C index y bytes maxL ret ws rm mc ms n) (hp : PreV s H C b Pc As) (hg : g.method = m) (hn : As.length = n) (hsize : g.locals.size = nL) (hstack : g.stack = As.reverse ++ .ref b :: rest) (hW : 2 * g.monitorRoom + (rest.map fun v => v.category).sum ≤ 9) (hdg : decode cc g.pc = .ok (.invokevirtual index, 3)) (hf : cells + mc ≤ R.cells ∧ slots + ms ≤ R.slots) :
    va_Run p l e R s m args below meth c H locs cells slots mc ms g rest (Qc (Value.ref b :: As).toArray) free := by
  obtain ⟨⟨k1, k2, k3, -, k4, k5, hcode, k6, hy, hlen, hl⟩, hin, hse⟩ := cw
  have hK : Back l R p e below s args y 3 9 (PreOf R mc ms Pc) (PostOf Qc mc ms free) := back_of (bytes := bytes) (maxL := maxL) (ret := ret) hM hp.1 k1 k2 k3 hlo k4 k5 (fun a' U hw => word_at hw (Or.inl (by first | rfl | simp [Cond.onTables, Cond.keeps, Cond.steady])) k6)
  intro T hT X
  obtain ⟨cell, c1, c2, c3⟩ := hp.2.1
  obtain ⟨v, vm₁, ⟨U', l2, q2, s2⟩, hw, X', ⟨g', mk, t, L, e1, e2, hq, h1, hL, h2, h3⟩, stp⟩ := callV X S.1 (C := C) (bytes := bytes) (maxL := maxL) (ret := ret) S.2.2.2.1 hl hin hse hcode hy hK (by rw [hT]; exact c1) c2 c3 hg (hsize.trans S.2.2.1.symm) (argsL := As) (rest := rest) (fun sig q => hn.trans (hlen sig q)) hstack hW (by rw [S.2.1]; exact hdg) (fun vm₁ hw => ⟨hf.1, hf.2, hp.2.2 (T.setVm vm₁) hT hw⟩)
  dsimp only [Pt.U, Pt.locs, Pt.cells, Pt.slots] at X' e1 e2 h1 h2 h3 stp
  subst h1; subst h2; subst h3
  exact ⟨v, (T.setVm vm₁).calling g' mk (Value.ref b :: As).toArray, t, U', L, hT, X', hL, e1, e2, hq, stp⟩
theorem p_catm (st : List Value) : ((st.map (p_rv z)).map fun v => v.category).sum = p_cat st := by
  rw [List.map_map]
  have : ((fun v => v.category) ∘ p_rv z) = fun v : Value => v.category := by funext v; exact p_rv_cat z v
  rw [this]; rfl
theorem p_inv_eq {t x m' : Nat} {P : List p_P} {as rest : List Value} (hs : p_inv t P x st = some (.inr (.inr (m', as, rest)))) : ∃ n : Int, p_pk x t P = some (m', n) ∧ as.length = n.toNat ∧ st = as.reverse ++ rest ∧ p_cat rest ≤ p_bd t := by
  simp only [p_inv] at hs
  split at hs
  · next k n hp =>
    split at hs
    · next hc =>
      simp only [Option.some.injEq, Sum.inr.injEq, Prod.mk.injEq] at hs
      obtain ⟨rfl, rfl, rfl⟩ := hs
      refine ⟨n, hp, ?_, ?_, hc.2⟩
      · rw [List.length_reverse, List.length_take]; omega
      · rw [List.reverse_reverse, List.take_append_drop]
    · cases hs
  · cases hs
theorem p_par_ok {y : MethodName} {n : Nat} (h : p_par y n = true) : y.cls ≠ "java/lang/invoke/MethodHandle" ∧ y.cls ≠ "java/lang/invoke/VarHandle" ∧ (parseMethodDescriptor y.desc).map (fun d => d.parameters.length) = some n := of_decide_eq_true h
set_option maxHeartbeats 1000000 in
theorem p_call (hTO : p_TO G MT) (hMO : p_MO MT M) (X : p_X M z D tys p s m args meth c) {i : Instr} {len m' d' : Nat} {M' : p_M} {as rest : List Value} {v : Option Value} (hat : p_at pc M.2.2.2.2.1 = some (i, len)) (hs : p_step G MT M i pc ls st h = some (.inr (.inr (m', as, rest)))) (hM' : MT[m']? = some M') (hMet : p_Met l z D tys d' M' as h v h2) (hR : p_R s z D tys h H) (hS : va_S (fun q => z.2.2 ≤ q) s.heap H locs) (hl : rls.size = M.2.2.1)
    (hfr : d' + 2 ≤ R.frames) (hlo : 60 * (d' + 2) ≤ R.locals) (hc : cells + (h2.length - h.length) ≤ R.cells) (hsl : slots + (p_sl h2 - p_sl h) ≤ R.slots)
    (kk : ∀ (H1 : Heap) (locs1 : List Loc), p_R s z D tys h2 H1 → va_S (fun q => z.2.2 ≤ q) s.heap H1 locs1 → W p l e R s m args below meth c H1 locs1 (cells + (h2.length - h.length)) (slots + (p_sl h2 - p_sl h)) Q (F0 m (pc + 3) rls ((v.map (p_rv z)).toList ++ rest.map (p_rv z)))) : W p l e R s m args below meth c H locs cells slots Q (F0 m pc rls (st.map (p_rv z))) := by
  obtain ⟨hdg0, hln0⟩ := hMO.2.2.1 _ (p_at_mem hat)
  obtain ⟨hx, hb, hml, hown, hts, hnm, hK, hT, hz, hZ⟩ := id X
  have hpre := p_pre (as := as) X hR hS
  unfold p_step at hs
  split at hs
  all_goals first
    | (simp only [p_go] at hs; cases hs; done)
    | (simp only [p_cst, p_ld, p_sv, p_jm, p_br, p_sw, p_al, p_as, p_getf, p_putf, p_new, p_newa, p_ret, p_cc, p_go] at hs; (repeat' split at hs) <;> cases hs; done)
    | skip
  · split at hs
    · next o ho =>
      cases hs
      simp only [p_as, p_go] at ho
      (repeat' split at ho) <;> cases ho
    · simp only [p_as, p_go] at hs
      (repeat' split at hs) <;> cases hs
  · next x =>
    have hdg : decode M.2.1 pc = .ok (.invokestatic x, 3) := by
      have e1 : len = 3 := hln0.elim (fun q => by simp [p_ln] at q) (fun q => q)
      rw [← e1]; exact hdg0
    simp only [p_invs] at hs
    split at hs
    · simp only [p_copy, p_go] at hs
      (repeat' split at hs) <;> cases hs
    · cases hs
    · split at hs
      · next o ho =>
        cases hs
        obtain ⟨n, hp, hn, rfl, hcat⟩ := p_inv_eq ho
        have hcat : p_cat rest ≤ 8 := hcat
        obtain ⟨h1, hw⟩ := hMO.2.2.2.1 _ (p_pk_mem hp)
        simp only [p_o1, hM', Bool.and_eq_true] at h1
        simp only [p_w1, hM'] at hw
        refine p_after (va_runS (As := as.map (p_rv z)) (rest := rest.map (p_rv z)) (own := M.1.cls) ⟨hx, hb, hml, hown, hts⟩ hMet ⟨callB_of n.toNat hts (p_good (hw _ (by simp))) rfl rfl rfl (hts _ (hw _ (by simp))) (hts _ (hw _ (by simp))) (p_par_ok h1.1) ⟨by show d' + 1 + 1 ≤ _; omega, ?_⟩, hts _ (hw _ (by simp))⟩ ⟨p_blind, hpre⟩ rfl (by rw [List.length_map]; exact hn) hl (by show List.map _ _ = _; rw [List.map_append, List.map_reverse]) (by show 2 * 0 + _ ≤ 8; rw [p_catm]; omega) hdg ⟨hc, hsl⟩) hS kk
        have := Nat.le_of_ble_eq_true h1.2
        show 8 + (M'.2.2.1 + 11) + 60 * (d' + 1) ≤ _
        omega
      · obtain ⟨n, hp, hn, rfl, hcat⟩ := p_inv_eq hs
        have hcat : p_cat rest ≤ 8 := hcat
        obtain ⟨h1, hw⟩ := hMO.2.2.2.1 _ (p_pk_mem hp)
        simp only [p_o1, hM', Bool.and_eq_true] at h1
        simp only [p_w1, hM'] at hw
        refine p_after (va_runSN (As := as.map (p_rv z)) (rest := rest.map (p_rv z)) (own := M.1.cls) (host := "CutInMay") ⟨hx, hb, hml, hown, hts⟩ hMet ⟨va_cnB n.toNat hts (p_good (hw _ (by simp))) rfl rfl rfl (hZ.2.1 _ _ _ _ (hMO.2.2.2.2.2.2 _ (p_pk_mem hp) _ (by simp [p_w2, hM']))) (hts _ (hw _ (by simp))) (p_par_ok h1.1) ⟨by show d' + 1 + 1 ≤ _; omega, ?_⟩, hts _ (hw _ (by simp)), trivial⟩ ⟨p_blind, hpre⟩ rfl (by rw [List.length_map]; exact hn) hl (by show List.map _ _ = _; rw [List.map_append, List.map_reverse]) (by show 2 * 0 + _ ≤ 8; rw [p_catm]; omega) hdg ⟨hc, hsl⟩) hS kk
        have := Nat.le_of_ble_eq_true h1.2
        show 8 + (M'.2.2.1 + 11) + 60 * (d' + 1) ≤ _
        omega
  · next x =>
    have hdg : decode M.2.1 pc = .ok (.invokevirtual x, 3) := by
      have e1 : len = 3 := hln0.elim (fun q => by simp [p_ln] at q) (fun q => q)
      rw [← e1]; exact hdg0
    simp only [p_vir] at hs
    split at hs
    · simp only [p_clone, p_go] at hs
      (repeat' split at hs) <;> cases hs
    · cases hs
    simp only [p_invv] at hs
    split at hs
    · next k a as' rest' ho =>
      split at hs
      · next N ci vs hN ha =>
        split at hs
        · next hci =>
          simp only [Option.some.injEq, Sum.inr.injEq, Prod.mk.injEq] at hs
          obtain ⟨rfl, rfl, rfl⟩ := hs
          obtain rfl : N = M' := Option.some.inj (hN.symm.trans hM')
          obtain rfl : N.2.2.2.2.2.2.2 = ci := Nat.eq_of_beq_eq_true hci
          obtain ⟨n, hp, hn, rfl, hcat⟩ := p_inv_eq ho
          have hcat : p_cat rest' ≤ 9 := hcat
          obtain ⟨h1, hw⟩ := hMO.2.2.2.1 _ (p_pk_mem hp)
          simp only [p_o1, hM', Bool.and_eq_true] at h1
          simp only [p_w1, hM'] at hw
          obtain ⟨hb0, r, hr, hlen, cellB, g1, g2, g3, -⟩ := hR.obj ha
          have hrn : r.1 = N.1.cls := (hTO.2.1 N (List.mem_of_getElem? hM')).2.2.2.2.2.1 r hr
          have hcls : s.vm.findClass N.1.cls = some cellB.cls := by rw [g2, ← hrn]; exact (hK.1 _ r hr).2.1
          have hn' : as'.length = n.toNat - 1 := by rw [List.length_cons] at hn; omega
          refine p_after (p_runV (As := as'.map (p_rv z)) (rest := rest'.map (p_rv z)) (own := M.1.cls) (C := N.1.cls) (b := p_ad z a) ⟨hx, hb, hml, hown, hts⟩ hMet ?_ ⟨callB_of (n.toNat - 1) hts (p_good (hw _ (by simp))) rfl rfl rfl (hts _ (hw _ (by simp))) (hts _ (hw _ (by simp))) (p_par_ok h1.1.1) ⟨by show d' + 1 + 1 ≤ _; omega, ?_⟩, hts _ (hw _ (by simp)), hts _ (hw _ (by simp))⟩ ⟨p_blind, ⟨cellB, g1, by rw [g3]; rfl, hcls⟩, hpre⟩ rfl (by rw [List.length_map]; exact hn') hl (by show List.map _ _ = _; rw [List.map_append, List.map_reverse, List.map_cons, List.reverse_cons, List.append_assoc]; rfl) (by show 2 * 0 + _ ≤ 9; rw [p_catm]; omega) hdg ⟨hc, hsl⟩) hS kk
          · have := Nat.le_of_ble_eq_true h1.2
            show 9 + (N.2.2.1 + 11) + 60 * (d' + 1) ≤ _
            omega
          · have := Nat.le_of_ble_eq_true h1.2
            show 8 + (N.2.2.1 + 11) + 60 * (d' + 1) ≤ _
            omega
        · cases hs
      · cases hs
    · cases hs
  · next x =>
    have hdg : decode M.2.1 pc = .ok (.invokespecial x, 3) := by
      have e1 : len = 3 := hln0.elim (fun q => by simp [p_ln] at q) (fun q => q)
      rw [← e1]; exact hdg0
    simp only [p_invi] at hs
    split at hs
    · simp only [p_go] at hs
      (repeat' split at hs) <;> cases hs
    · cases hs
    · split at hs
      · next k a as' rest' ho =>
        simp only [Option.some.injEq, Sum.inr.injEq, Prod.mk.injEq] at hs
        obtain ⟨rfl, rfl, rfl⟩ := hs
        obtain ⟨n, hp, hn, rfl, hcat⟩ := p_inv_eq ho
        have hcat : p_cat rest' ≤ 8 := hcat
        obtain ⟨h1, hw⟩ := hMO.2.2.2.1 _ (p_pk_mem hp)
        simp only [p_o1, hM', Bool.and_eq_true, decide_eq_true_eq] at h1
        simp only [p_w1, hM'] at hw
        have hn' : as'.length = n.toNat - 1 := by rw [List.length_cons] at hn; omega
        have hMet' : Met l M'.1 (.code M'.1 M'.2.1 M'.2.2.1 none :: p_big) (p_rm d' (h2.length - h.length) (p_sl h2 - p_sl h)) (p_Pre z D tys (.ref a :: as') h) (p_Post z D tys v h2) (h2.length - h.length) (p_sl h2 - p_sl h) (fun q => z.2.2 ≤ q) := by
          rw [← h1.2]; exact hMet
        refine p_after (va_runI (As := as'.map (p_rv z)) (rest := rest'.map (p_rv z)) (own := M.1.cls) (b := p_ad z a) ⟨hx, hb, hml, hown, hts⟩ hMet' ⟨callB_of (n.toNat - 1) hts (p_good (by rw [← h1.2]; exact hw _ (by simp))) rfl rfl rfl (hts _ (hw _ (by simp))) (hts _ (hw _ (by simp))) (p_par_ok h1.1.1.1.1) ⟨by show d' + 1 + 1 ≤ _; omega, ?_⟩, h1.1.2, hts _ (hw _ (by simp))⟩ ⟨p_blind, hpre⟩ rfl (by rw [List.length_map]; exact hn') hl (by show List.map _ _ = _; rw [List.map_append, List.map_reverse, List.map_cons, List.reverse_cons, List.append_assoc]; rfl) (by show 2 * 0 + _ ≤ 8; rw [p_catm]; omega) hdg ⟨hc, hsl⟩) hS kk
        have := Nat.le_of_ble_eq_true h1.1.1.2
        show 8 + (M'.2.2.1 + 11) + 60 * (d' + 1) ≤ _
        omega
      · cases hs
  · cases hs
end PC

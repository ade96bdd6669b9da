/-! The law from its entry, out of what the pure machine does -/
/-- WHAT IS LEFT, of the pure machine alone: on every script the law ends with 1, within its room -/
def p_Law : Prop := ∀ xs : List Int32, xs.length ≤ 3584 → ∃ (n d : Nat) (h2 : p_H), d ≤ 1000 ∧ p_run p_GT p_MT n d m_L_law 0 [(0, .ref 0)] [] (p_h0 xs) = some (some (.int 1), h2) ∧ h2.length ≤ 600002 ∧ p_sl h2 - p_sl (p_h0 xs) ≤ 7302249
set_option maxHeartbeats 4000000 in
set_option maxRecDepth 100000 in
theorem p_start (hPL : p_Law) {p : Program} {e : Env} {s : State} {m : MethodId} {below : List Frame} {meth : Method} {c : Code} (l : Launch) {b L : Nat} {xs : Nat → Int32} (hL : L ≤ 3584) (C0 : lw_At p s m meth c b L xs) : W p l e room_1 s m #[Value.ref b] below meth c s.heap [] 0 0 (lw_Z below #[Value.ref b] s) (entryFrame m ([Value.ref b] : List Value).toArray 4) := by
  obtain ⟨hx, hb, hr, hml, hown, hts, hX, hbl, hlocks, hgv⟩ := id C0
  obtain ⟨c0, iS0, hKn0⟩ := u_known (C := RX0) (T := TX0) (N := 11) (n := 11) hts p_iRX0 (hts (.instantiable RX0 11) (p_ml2 (List.mem_of_getElem? (i := 36) rfl)))
  obtain ⟨c1, iS1, hKn1⟩ := u_known (C := RX1) (T := TX1) (N := 2) (n := 2) hts p_iRX1 (hts (.instantiable RX1 2) (p_ml2 (List.mem_of_getElem? (i := 38) rfl)))
  obtain ⟨c2, iS2, hKn2⟩ := u_known (C := RX2) (T := TX2) (N := 5) (n := 5) hts p_iRX2 (hts (.instantiable RX2 5) (p_ml2 (List.mem_of_getElem? (i := 98) rfl)))
  obtain ⟨c3, iS3, hKn3⟩ := u_known (C := RX3) (T := TX3) (N := 18) (n := 18) hts p_iRX3 (hts (.instantiable RX3 18) (p_ml1 (List.mem_of_getElem? (i := 211) rfl)))
  obtain ⟨c4, iS4, hKn4⟩ := u_known (C := RX4) (T := TX4) (N := 6) (n := 6) hts p_iRX4 (hts (.instantiable RX4 6) (p_ml1 (List.mem_of_getElem? (i := 184) rfl)))
  obtain ⟨c5, iS5, hKn5⟩ := u_known (C := RX5) (T := TX5) (N := 8) (n := 8) hts p_iRX5 (hts (.instantiable RX5 8) (p_ml2 (List.mem_of_getElem? (i := 120) rfl)))
  obtain ⟨c6, iS6, hKn6⟩ := u_known (C := RX6) (T := TX6) (N := 3) (n := 3) hts p_iRX6 (hts (.instantiable RX6 3) (p_ml1 (List.mem_of_getElem? (i := 80) rfl)))
  obtain ⟨c7, iS7, hKn7⟩ := u_known (C := RX7) (T := TX7) (N := 5) (n := 5) hts p_iRX7 (hts (.instantiable RX7 5) (p_ml3 (List.mem_of_getElem? (i := 95) rfl)))
  obtain ⟨c8, iS8, hKn8⟩ := u_known (C := RX8) (T := TX8) (N := 3) (n := 3) hts p_iRX8 (hts (.instantiable RX8 3) (p_ml1 (List.mem_of_getElem? (i := 97) rfl)))
  obtain ⟨c9, iS9, hKn9⟩ := u_known (C := RX9) (T := TX9) (N := 15) (n := 15) hts p_iRX9 (hts (.instantiable RX9 15) (p_ml1 (List.mem_of_getElem? (i := 27) rfl)))
  obtain ⟨c10, iS10, hKn10⟩ := u_known (C := RX10) (T := TX10) (N := 8) (n := 8) hts p_iRX10 (hts (.instantiable RX10 8) (p_ml1 (List.mem_of_getElem? (i := 35) rfl)))
  obtain ⟨c11, iS11, hKn11⟩ := u_known (C := RX11) (T := TX11) (N := 10) (n := 10) hts p_iRX11 (hts (.instantiable RX11 10) (p_ml1 (List.mem_of_getElem? (i := 19) rfl)))
  obtain ⟨c12, iS12, hKn12⟩ := u_known (C := RX12) (T := TX12) (N := 31) (n := 31) hts p_iRX12 (hts (.instantiable RX12 31) (p_ml6 (List.mem_of_getElem? (i := 13) rfl)))
  obtain ⟨dC, dI, hKc⟩ : ∃ (dC : Nat → ClassId) (dI : Nat → Nat → Nat), ∀ (k : Nat) (q : vw_C), vwCl[k]? = some q → u_Kn s q.1 q.2.1 q.2.2 (dC k) (dI k) := by
    refine ⟨fun k => [c0, c1, c2, c3, c4, c5, c6, c7, c8, c9, c10, c11, c12].getD k 0, fun k => [iS0, iS1, iS2, iS3, iS4, iS5, iS6, iS7, iS8, iS9, iS10, iS11, iS12].getD k (fun _ => 0), ?_⟩
    intro k q hq
    match k, hq with
    | 0, hq => cases hq; exact hKn0
    | 1, hq => cases hq; exact hKn1
    | 2, hq => cases hq; exact hKn2
    | 3, hq => cases hq; exact hKn3
    | 4, hq => cases hq; exact hKn4
    | 5, hq => cases hq; exact hKn5
    | 6, hq => cases hq; exact hKn6
    | 7, hq => cases hq; exact hKn7
    | 8, hq => cases hq; exact hKn8
    | 9, hq => cases hq; exact hKn9
    | 10, hq => cases hq; exact hKn10
    | 11, hq => cases hq; exact hKn11
    | 12, hq => cases hq; exact hKn12
    | k + 13, hq => simp [vwCl] at hq
  obtain ⟨cI, kI, mI, fI1, fI2, fI3⟩ := Cond.arrayClass_spec (hts (.arrayClass .int) (p_ml1 (List.mem_of_getElem? (i := 78) rfl)))
  obtain ⟨cB, kB, mB, fB1, fB2, fB3⟩ := Cond.arrayClass_spec (hts (.arrayClass .byte) (p_ml2 (List.mem_of_getElem? (i := 34) rfl)))
  obtain ⟨cJ, kJ, mJ, fJ1, fJ2, fJ3⟩ := Cond.arrayClass_spec (hts (.arrayClass .long) (p_ml6 (List.mem_of_getElem? (i := 115) rfl)))
  obtain ⟨cZ, kZ, mZ, fZ1, fZ2, fZ3⟩ := Cond.arrayClass_spec (hts (.arrayClass .boolean) (p_ml6 (List.mem_of_getElem? (i := 116) rfl)))
  have hAO := hts (.arrayOver (.object "CutInMay$Text")) (p_ml1 (List.mem_of_getElem? (i := 33) rfl))
  obtain ⟨mT, cT, kT, fT1, fT2, fT3, fT4, fT5⟩ := Cond.arrayOver_spec hAO
  have hK : va_K (dC, dI) vwCl [(cI, .int), (cB, .byte), (cJ, .long), (cZ, .boolean), (cT, .object "CutInMay$Text")] s := by
    refine ⟨hKc, fun k q hq => ?_⟩
    match k, hq with
    | 0, hq => cases hq; exact ⟨fun N y => ⟨(fun k h => by cases h), kI, fI2, mI, fI3⟩, fI1⟩
    | 1, hq => cases hq; exact ⟨fun N y => ⟨(fun k h => by cases h), kB, fB2, mB, fB3⟩, fB1⟩
    | 2, hq => cases hq; exact ⟨fun N y => ⟨(fun k h => by cases h), kJ, fJ2, mJ, fJ3⟩, fJ1⟩
    | 3, hq => cases hq; exact ⟨fun N y => ⟨(fun k h => by cases h), kZ, fZ2, mZ, fZ3⟩, fZ1⟩
    | 4, hq => cases hq; exact ⟨fun N y => ⟨(fun k h => by cases h), kT, fT3, mT, fT4⟩, kT, mT, fT3, fT4, fT1, fT5⟩
    | k + 5, hq => simp at hq
  have hq := flat_of_before _ hgv
  have hA : ∀ a : Nat, a < s.heap.size → ¬ (fun q : Nat => s.heap.size ≤ q) a := fun a ha => Nat.not_le.mpr ha
  have hel : ∀ j : Nat, j < 22 → (Term.elem (.static "CutInMay$Reader" "WORDS" "[J") (.int (Int32.ofNat j))).eval #[Value.ref b] s none [] s = some (p_wds.getD j .null) := by
    intro j hj
    match j, hj with
    | 0, _ => exact va_eqtl (z := 469853041779) (hq (.eq (.elem (.static "CutInMay$Reader" "WORDS" "[J") (.int 0)) (.long 469853041779)) (by decide +kernel))
    | 1, _ => exact va_eqtl (z := 495622843507) (hq (.eq (.elem (.static "CutInMay$Reader" "WORDS" "[J") (.int 1)) (.long 495622843507)) (by decide +kernel))
    | 2, _ => exact va_eqtl (z := 1919906931) (hq (.eq (.elem (.static "CutInMay$Reader" "WORDS" "[J") (.int 2)) (.long 1919906931)) (by decide +kernel))
    | 3, _ => exact va_eqtl (z := 1886350948) (hq (.eq (.elem (.static "CutInMay$Reader" "WORDS" "[J") (.int 3)) (.long 1886350948)) (by decide +kernel))
    | 4, _ => exact va_eqtl (z := 495689623668) (hq (.eq (.elem (.static "CutInMay$Reader" "WORDS" "[J") (.int 4)) (.long 495689623668)) (by decide +kernel))
    | 5, _ => exact va_eqtl (z := 7561591) (hq (.eq (.elem (.static "CutInMay$Reader" "WORDS" "[J") (.int 5)) (.long 7561591)) (by decide +kernel))
    | 6, _ => exact va_eqtl (z := 427121668979) (hq (.eq (.elem (.static "CutInMay$Reader" "WORDS" "[J") (.int 6)) (.long 427121668979)) (by decide +kernel))
    | 7, _ => exact va_eqtl (z := 1936026732) (hq (.eq (.elem (.static "CutInMay$Reader" "WORDS" "[J") (.int 7)) (.long 1936026732)) (by decide +kernel))
    | 8, _ => exact va_eqtl (z := 495874892151) (hq (.eq (.elem (.static "CutInMay$Reader" "WORDS" "[J") (.int 8)) (.long 495874892151)) (by decide +kernel))
    | 9, _ => exact va_eqtl (z := 6578553) (hq (.eq (.elem (.static "CutInMay$Reader" "WORDS" "[J") (.int 9)) (.long 6578553)) (by decide +kernel))
    | 10, _ => exact va_eqtl (z := 1751474548) (hq (.eq (.elem (.static "CutInMay$Reader" "WORDS" "[J") (.int 10)) (.long 1751474548)) (by decide +kernel))
    | 11, _ => exact va_eqtl (z := 1936292453) (hq (.eq (.elem (.static "CutInMay$Reader" "WORDS" "[J") (.int 11)) (.long 1936292453)) (by decide +kernel))
    | 12, _ => exact va_eqtl (z := 120282378691940) (hq (.eq (.elem (.static "CutInMay$Reader" "WORDS" "[J") (.int 12)) (.long 120282378691940)) (by decide +kernel))
    | 13, _ => exact va_eqtl (z := 1701078885) (hq (.eq (.elem (.static "CutInMay$Reader" "WORDS" "[J") (.int 13)) (.long 1701078885)) (by decide +kernel))
    | 14, _ => exact va_eqtl (z := 126896543659123) (hq (.eq (.elem (.static "CutInMay$Reader" "WORDS" "[J") (.int 14)) (.long 126896543659123)) (by decide +kernel))
    | 15, _ => exact va_eqtl (z := 461330343027) (hq (.eq (.elem (.static "CutInMay$Reader" "WORDS" "[J") (.int 15)) (.long 461330343027)) (by decide +kernel))
    | 16, _ => exact va_eqtl (z := 25209) (hq (.eq (.elem (.static "CutInMay$Reader" "WORDS" "[J") (.int 16)) (.long 25209)) (by decide +kernel))
    | 17, _ => exact va_eqtl (z := 24948) (hq (.eq (.elem (.static "CutInMay$Reader" "WORDS" "[J") (.int 17)) (.long 24948)) (by decide +kernel))
    | 18, _ => exact va_eqtl (z := 1684366704) (hq (.eq (.elem (.static "CutInMay$Reader" "WORDS" "[J") (.int 18)) (.long 1684366704)) (by decide +kernel))
    | 19, _ => exact va_eqtl (z := 29807) (hq (.eq (.elem (.static "CutInMay$Reader" "WORDS" "[J") (.int 19)) (.long 29807)) (by decide +kernel))
    | 20, _ => exact va_eqtl (z := 7238760) (hq (.eq (.elem (.static "CutInMay$Reader" "WORDS" "[J") (.int 20)) (.long 7238760)) (by decide +kernel))
    | 21, _ => exact va_eqtl (z := 28518) (hq (.eq (.elem (.static "CutInMay$Reader" "WORDS" "[J") (.int 21)) (.long 28518)) (by decide +kernel))
    | k + 22, hk => omega
  obtain ⟨w, hw, hT⟩ := va_Tof (ty := .long) (N := 22) (f := fun j => p_wds.getD j .null) (A := fun q => s.heap.size ≤ q) (by decide) (hq (.arrayOf (.static "CutInMay$Reader" "WORDS" "[J") .long) (by decide +kernel)) (va_eqt (hq (.eq (.length (.static "CutInMay$Reader" "WORDS" "[J")) (.int 22)) (by decide +kernel))) hel hA
  have hZ := va_Zref (hts (.laysStatic "CutInMay$Reader" "WORDS" "[J") (p_ml3 (List.mem_of_getElem? (i := 6) rfl))) (hts (.initialized "CutInMay$Reader") (p_ml1 (List.mem_of_getElem? (i := 7) rfl))) hw hA
  obtain ⟨cellW, w1, w2, w3, w4, w5, w6, w7⟩ := hT
  have hwl : w < s.heap.size := Nat.not_le.mp w7
  obtain ⟨scr, x1, x2, x3, x4, x5⟩ := hX
  have hlen : ((List.range L).map xs).length = L := by simp
  obtain ⟨n, d, h2, hd, hrun, hcl, hsl⟩ := hPL ((List.range L).map xs) (by rw [hlen]; exact hL)
  have hR : p_R s (b, w, s.heap.size) (dC, dI) [(cI, .int), (cB, .byte), (cJ, .long), (cZ, .boolean), (cT, .object "CutInMay$Text")] (p_h0 ((List.range L).map xs)) s.heap := by
    refine ⟨hbl, hwl, Nat.le_refl _, rfl, fun i c hc => ?_⟩
    match i, hc with
    | 0, hc =>
      cases hc
      refine Or.inr (Or.inr ⟨rfl, hbl, .int, scr, rfl, x1, x2, x3, ?_, ?_, fun j v hj => ?_⟩)
      · show (((List.range L).map xs).map Value.int).length ≤ _
        rw [List.length_map, hlen, x4]; exact Nat.le_refl _
      · show _ = Int32.ofNat (((List.range L).map xs).map Value.int).length
        rw [List.length_map, hlen, x4]
      · have hj : (((List.range L).map xs).map Value.int)[j]? = some v := hj
        have hjl : j < L := by
          have := (List.getElem?_eq_some_iff.mp hj).1
          simpa using this
        simp [hjl] at hj
        rw [x5 j hjl, ← hj]; rfl
    | 1, hc =>
      cases hc
      refine Or.inr (Or.inr ⟨rfl, hwl, .long, cellW, rfl, w1, w2, w3, w4, w5, fun j v hj => ?_⟩)
      have hj : p_wds[j]? = some v := hj
      have hjl : j < 22 := (List.getElem?_eq_some_iff.mp hj).1
      rw [w6 j hjl]
      show some (p_wds.getD j Value.null) = _
      rw [List.getD_eq_getElem?_getD, hj]
      have hv : p_rv (b, w, s.heap.size) v = v := by
        have hall : ∀ u ∈ p_wds, p_rv (b, w, s.heap.size) u = u := by
          intro u hu
          simp only [p_wds, List.mem_cons, List.not_mem_nil, or_false] at hu
          rcases hu with rfl | rfl | rfl | rfl | rfl | rfl | rfl | rfl | rfl | rfl | rfl | rfl | rfl | rfl | rfl | rfl | rfl | rfl | rfl | rfl | rfl | rfl <;> rfl
        exact hall v (List.mem_of_getElem? hj)
      rw [hv]; rfl
    | k + 2, hc => simp [p_h0] at hc
  have hXX : p_X m_L_law (b, w, s.heap.size) (dC, dI) [(cI, .int), (cB, .byte), (cJ, .long), (cZ, .boolean), (cT, .object "CutInMay$Text")] p s m #[Value.ref b] meth c :=
    ⟨hx, hb, hml, hown, fun u hu => hts u (List.mem_filter.mp hu).1, (fun h => by cases h), hK, rfl, Nat.le_refl _, hZ, fun a i y g hm => va_Nw.of rfl (hts _ hm), va_Nw.of rfl (hts (.castable "[I" "java/lang/Cloneable") (p_ml3 (List.mem_of_getElem? (i := 80) rfl))), va_AO.of hAO⟩
  have hl := lv_entry ([.ref b]) (n := 4) (Nat.le_of_ble_eq_true rfl)
  rw [lg_entry_eq]
  generalize (lg_sl ([.ref b]) ++ List.replicate (4 - (lg_sl ([.ref b])).length) Slot.unset).toArray = ls at hl ⊢
  have hlen0 : (p_h0 ((List.range L).map xs)).length = 2 := rfl
  refine p_frame p_TT n d m_L_law 0 [(0, .ref 0)] [] (p_h0 ((List.range L).map xs)) (some (.int 1)) h2 hrun o_L_law l (b, w, s.heap.size) (dC, dI) _ p e room_1 s m #[Value.ref b] below meth c s.heap [] 0 0 (lw_Z below #[Value.ref b] s) ls hXX hR va_S.rf hl (by show d + 1 ≤ 2048; omega) (by show 60 * (d + 1) ≤ 84000; omega) (by show 0 + _ ≤ 600000; omega) (by show 0 + _ ≤ 7302249; omega) ?_
  intro pc' i rls' H' locs' hdg hRI hR' hS'
  rcases hRI with ⟨-, hv, -⟩ | ⟨rfl, -⟩ | ⟨-, y, hv, -⟩ | ⟨-, y, ty, hv, -, -, hy⟩
  · cases hv
  · refine W.widen (k := 600000) (n := 7302249) (by omega) (by omega) ?_
    have := W.forget (L := locs') (locs := []) (fun q hq => hS'.2.2 q hq) (lw_ret (l := l) (e := e) (below := below) (s := s) (m := m) (meth := meth) (b := b) (H := H') (ls := rls') hx hb hr hlocks hdg)
    exact this
  · cases hv
  · cases hv
    rcases hy with hy | ⟨a, hy⟩ <;> cases hy

/-! Rules: stores of a sight -/
section GSI
variable {M : p_M} {pc : Nat} {τ : Nat → Option Nat} {r : Nat → Int} {n : Nat} {h : p_H} {e e' : q_E} {k : Nat}
def g_S (h : p_H) (j : Nat) : Int := if Nat.beq j 0 || (Nat.ble 212 j && Nat.ble j 283) then g_at (g_vs h 65) j else 0
theorem g_S_in {j : Nat} (h1 : 212 ≤ j) (h2 : j ≤ 283) : g_S h j = g_at (g_vs h 65) j := by
  simp only [g_S, Nat.ble_eq_true_of_le h1, Nat.ble_eq_true_of_le h2, Bool.and_self, Bool.or_true, if_true]
theorem g_S_0 : g_S h 0 = g_at (g_vs h 65) 0 := rfl
theorem g_lk65_13 {j : Nat} : g_lk 13 65 j = (Nat.ble 212 j && Nat.ble j 283) := by
  have e : g_lk 13 65 j = (false || ((Nat.ble 212 j && Nat.ble j 283) || false)) := by
    show ((Nat.beq 0 13 && Nat.ble 14 j && Nat.ble j 15) || ((Nat.beq 13 13 && Nat.ble 212 j && Nat.ble j 283) || false)) = _
    rfl
  rw [e, Bool.or_false, Bool.false_or]
theorem g_ms65_13 (h1 : 212 ≤ k) (h2 : k ≤ 283) : g_ms 13 h 65 k = g_S h k := by
  rw [g_S_in h1 h2, g_ms_at (by rw [g_lk65_13, Nat.ble_eq_true_of_le h1, Nat.ble_eq_true_of_le h2]; rfl)]
theorem g_un13 (hm : x_m x_EE τ r n h (e, 64, 1000014, (1, 0, e'))) (hk : q_e r e = (k : Int)) (h1 : 212 ≤ k) (h2 : k ≤ 283) : g_S h k = q_e r e' := by
  have b : g_ms 13 h 65 (q_e r e).toNat = q_e r e' := (g_gho hm 13 rfl).2
  rw [hk, Int.toNat_natCast, g_ms65_13 h1 h2] at b; exact b
theorem g_mk13 (w1 : q_wl n e.1) (w2 : q_wl n e'.1) (h80 : 80 ≤ h.length) (hk : q_e r e = (k : Int)) (h1 : 212 ≤ k) (h2 : k ≤ 283) (hv : g_S h k = q_e r e') : x_m x_EE τ r n h (e, 64, 1000014, (1, 0, e')) := by
  refine g_mk 13 rfl w1 w2 rfl h80 ?_
  show g_ms 13 h 65 (q_e r e).toNat = q_e r e'
  rw [hk, Int.toNat_natCast, g_ms65_13 h1 h2]; exact hv
theorem g_fld65 {j : Nat} (hm : x_m x_EE τ r n h (([], 65), 65, j, (1, 0, e'))) (hj : j < 1000000) : g_at (g_vs h 65) j = q_e r e' := by
  obtain ⟨i, c, e1, -, e3, e4⟩ := hm.plc (show j < 1000001 by omega)
  have e1 : (i : Int) = q_e r ([], 65) := e1
  simp only [q_e, q_ev] at e1
  have : i = 65 := by omega
  subst this
  rw [if_neg (show ¬ j = x_len by unfold x_len; omega)] at e4
  obtain ⟨v, e5, -, x, e6, e7⟩ := e4
  rw [g_vs_at e3, g_at_int (show c.2.2[j]? = some (.int x) by rw [e5]; exact congrArg some e6)]
  exact e7
theorem g_H65 (hH : x_H x_EE τ h) (ht : τ 65 = some 65) : ∃ vs, h[65]? = some (1, 0, vs) ∧ vs.length = 2517 ∧ g_TS (g_S h) := by
  obtain ⟨vs, hc, l1, l2, hf, hct⟩ := g_cell hH ht (show x_KL[65]? = some _ from rfl)
  have l1 : 2517 ≤ vs.length := l1
  have l2 : vs.length ≤ 2517 := l2
  refine ⟨vs, hc, by omega, ?_⟩
  have := hct.2.2 (Or.inl rfl)
  have e : g_S h = fun j => if Nat.beq j 0 || (Nat.ble 212 j && Nat.ble j 283) then g_at vs j else 0 := by
    funext j; simp only [g_S, g_vs_at hc]
  rw [e]; exact this
theorem g_J65 {f : x_F} (hH : x_H x_EE τ h) (ht : τ 65 = some 65) {vs : List Value} (hc : h[65]? = some (1, 0, vs)) (hl : vs.length = 2517) {j lo hi : Nat} {y : Int32} (hj : j = 0 ∨ (212 ≤ j ∧ j ≤ 283)) (hcov : x_cov f 65 lo hi = true) (hlo : lo ≤ j) (hhi : j ≤ hi) (hy : j = 0 → 0 ≤ y.toInt ∧ y.toInt ≤ 12) (hW : g_TS (fun i => if i = j then y.toInt else g_S h i)) : x_J x_EE f τ h τ (h.set 65 (1, 0, vs.set j (.int y))) ∧ g_S (h.set 65 (1, 0, vs.set j (.int y))) = (fun i => if i = j then y.toInt else g_S h i) := by
  have hlen := (List.getElem?_eq_some_iff.mp hc).1
  have eQ : g_S (h.set 65 (1, 0, vs.set j (.int y))) = (fun i => if i = j then y.toInt else g_S h i) := by
    funext i
    simp only [g_S, g_vs_set hlen, g_vs_at hc]
    by_cases e : i = j
    · subst e
      rw [if_pos rfl, if_pos]
      · exact g_at_int (List.getElem?_set_self (by omega))
      · rcases hj with rfl | ⟨h1, h2⟩
        · rfl
        · rw [Nat.ble_eq_true_of_le h1, Nat.ble_eq_true_of_le h2]; simp
    · rw [if_neg e]
      simp only [g_at, List.getElem?_set_ne (Ne.symm e)]
  refine ⟨⟨fun _ _ q => q, fun _ _ q => Or.inl q, ?_, ?_⟩, eQ⟩
  · obtain ⟨vs0, hc0, -, -, hf, hct⟩ := g_cell hH ht (show x_KL[65]? = some _ from rfl)
    have : vs0 = vs := by
      have := hc0.symm.trans hc
      simp only [Option.some.injEq, Prod.mk.injEq, true_and] at this
      exact this
    subst this
    refine hH.setc (c := (1, 0, vs0)) ht hc (show x_KL[65]? = some _ from rfl) (by simp) (fun i v hv => ?_) ⟨fun _ => rfl, fun q => (by omega), fun _ => ?_⟩
    · by_cases e : j = i
      · subst e
        rw [List.getElem?_set_self (by omega)] at hv
        cases hv
        rcases hj with rfl | ⟨h1, h2⟩
        · exact ⟨y, rfl, hy rfl⟩
        · have hall : ∀ K, x_KL[65]? = some K → (List.range 72).all (fun i => decide (x_pt K (212 + i) = x_any)) = true := by
            have h0 : (match x_KL[65]? with
              | some K => (List.range 72).all (fun i => decide (x_pt K (212 + i) = x_any))
              | none => false) = true := by decide +kernel
            intro K hK
            rw [hK] at h0
            exact h0
          have := of_decide_eq_true (List.all_eq_true.mp (hall _ rfl) (j - 212) (List.mem_range.mpr (by omega)))
          rw [show 212 + (j - 212) = j by omega] at this
          rw [this]
          exact ⟨y, rfl, x_I32 y⟩
      · rw [List.getElem?_set_ne e] at hv
        exact hf i v hv
    · have e2 : (fun i => if Nat.beq i 0 || (Nat.ble 212 i && Nat.ble i 283) then g_at (vs0.set j (.int y)) i else 0) = g_S (h.set 65 (1, 0, vs0.set j (.int y))) := by
        funext i; simp only [g_S, g_vs_set hlen]
      rw [e2, eQ]; exact hW
  · exact x_ef.sets (x_ef_refl) (fun _ _ q => Or.inl q) (c := (1, 0, vs)) (lo := lo) (hi := hi) ht hc (by simp) (x_set1 hlo hhi) hcov
theorem g_TS_cl {Q : Nat → Int} {s c : Nat} {y : Int} (hS : g_TS Q) (hQ : Q 0 = s) (h1 : 212 + 6 * s ≤ c) : g_TS (fun i => if i = c then y else Q i) := by
  intro m hm hq
  simp only at hq ⊢
  rw [if_neg (by omega)] at hq
  rw [if_neg (by omega), if_neg (by omega)]
  exact hS m hm hq
theorem g_TS_ct {Q : Nat → Int} {s : Nat} {y : Int} (hS : g_TS Q) (hQ : Q 0 = s) (hy : y = s + 1) (h3 : 1 ≤ Q (212 + 6 * s + 3) ∧ Q (212 + 6 * s + 3) ≤ 3) (h4 : 1 ≤ Q (212 + 6 * s + 4) ∧ Q (212 + 6 * s + 4) ≤ 3) : g_TS (fun i => if i = 0 then y else Q i) := by
  intro m hm hq
  simp only at hq ⊢
  rw [if_pos trivial] at hq
  rw [if_neg (by omega), if_neg (by omega)]
  by_cases e : m = s
  · subst e; exact ⟨h3.1, h3.2, h4.1, h4.2⟩
  · exact hS m hm (by omega)
theorem hr_sightSet0 (hat : p_at pc M.2.2.2.2.1 = some (.iastore, 1)) : x_HoldR p_GT p_MT x_EE M pc 1 cr_sightSet0 := by
  intro τ r h as rest ls d Q hH hA hF hM hK
  obtain ⟨a, V, rfl, ha, hA⟩ := x_t3 (show x_vs τ r 2 [(3, 65, ([], ((65 : Nat) : Int))), (1, 0, ([(0, 6)], 212)), (1, 0, ([(1, 1)], 0))] as from hA)
  obtain ⟨x, V', rfl, -, hx, hA⟩ := x_t1 hA
  obtain ⟨y, V'', rfl, -, hy, hA⟩ := x_t1 hA
  rw [g_nil hA]
  obtain ⟨rfl, ht⟩ := g_ref ha
  simp only [q_e, q_ev] at hx hy
  obtain ⟨vs, hc, hl, hW⟩ := g_H65 hH ht
  have h0 : 0 ≤ r 0 ∧ r 0 ≤ 11 := g_get hF.1 0 rfl
  obtain ⟨s, hs⟩ : ∃ s : Nat, r 0 = s := ⟨(r 0).toNat, by omega⟩
  have hs0 : g_S h 0 = s := by rw [g_S_0, g_fld65 (e' := ([(0, 1)], 0)) (g_get hM 0 rfl) (by decide), g_v]; exact hs
  have hTS := g_TS_cl (c := 6 * s + 212) (y := y.toInt) hW hs0 (by omega)
  have ex : x.toNatClampNeg = 6 * s + 212 := by rw [x_clamp, hx]; omega
  obtain ⟨hJ, eQ⟩ := g_J65 (f := [(65, 212, 283)]) hH ht hc hl (j := 6 * s + 212) (lo := 212) (hi := 283) (y := y) (by omega) rfl (by omega) (by omega) (fun q => by omega) hTS
  refine g_store hat hc (g_nn hx (by omega)) (by rw [ex]; omega) ?_
  rw [ex]
  have hlen : 65 < h.length := (List.getElem?_eq_some_iff.mp hc).1
  obtain ⟨h2, hh2⟩ : ∃ h2, h2 = h.set 65 (1, 0, vs.set (6 * s + 212) (.int y)) := ⟨_, rfl⟩
  rw [← hh2] at hJ eQ ⊢
  refine hK none _ ⟨τ, r, hJ, _, List.mem_cons_self, by rw [hh2, List.length_set]; exact Nat.le_refl _, by rw [hh2, p_sl_set hc (by simp)]; exact Nat.le_refl _, fun _ _ => rfl, g_F0, trivial, ?_⟩
  exact g_n
theorem hr_sightSet1 (hat : p_at pc M.2.2.2.2.1 = some (.iastore, 1)) : x_HoldR p_GT p_MT x_EE M pc 1 cr_sightSet1 := by
  intro τ r h as rest ls d Q hH hA hF hM hK
  obtain ⟨a, V, rfl, ha, hA⟩ := x_t3 (show x_vs τ r 2 [(3, 65, ([], ((65 : Nat) : Int))), (1, 0, ([(0, 6)], 213)), (1, 0, ([(1, 1)], 0))] as from hA)
  obtain ⟨x, V', rfl, -, hx, hA⟩ := x_t1 hA
  obtain ⟨y, V'', rfl, -, hy, hA⟩ := x_t1 hA
  rw [g_nil hA]
  obtain ⟨rfl, ht⟩ := g_ref ha
  simp only [q_e, q_ev] at hx hy
  obtain ⟨vs, hc, hl, hW⟩ := g_H65 hH ht
  have h0 : 0 ≤ r 0 ∧ r 0 ≤ 11 := g_get hF.1 0 rfl
  obtain ⟨s, hs⟩ : ∃ s : Nat, r 0 = s := ⟨(r 0).toNat, by omega⟩
  have hs0 : g_S h 0 = s := by rw [g_S_0, g_fld65 (e' := ([(0, 1)], 0)) (g_get hM 0 rfl) (by decide), g_v]; exact hs
  have hTS := g_TS_cl (c := 6 * s + 213) (y := y.toInt) hW hs0 (by omega)
  have ex : x.toNatClampNeg = 6 * s + 213 := by rw [x_clamp, hx]; omega
  obtain ⟨hJ, eQ⟩ := g_J65 (f := [(65, 212, 283)]) hH ht hc hl (j := 6 * s + 213) (lo := 212) (hi := 283) (y := y) (by omega) rfl (by omega) (by omega) (fun q => by omega) hTS
  refine g_store hat hc (g_nn hx (by omega)) (by rw [ex]; omega) ?_
  rw [ex]
  have hlen : 65 < h.length := (List.getElem?_eq_some_iff.mp hc).1
  obtain ⟨h2, hh2⟩ : ∃ h2, h2 = h.set 65 (1, 0, vs.set (6 * s + 213) (.int y)) := ⟨_, rfl⟩
  rw [← hh2] at hJ eQ ⊢
  refine hK none _ ⟨τ, r, hJ, _, List.mem_cons_self, by rw [hh2, List.length_set]; exact Nat.le_refl _, by rw [hh2, p_sl_set hc (by simp)]; exact Nat.le_refl _, fun _ _ => rfl, g_F0, trivial, ?_⟩
  exact g_n
theorem hr_sightSet2 (hat : p_at pc M.2.2.2.2.1 = some (.iastore, 1)) : x_HoldR p_GT p_MT x_EE M pc 1 cr_sightSet2 := by
  intro τ r h as rest ls d Q hH hA hF hM hK
  obtain ⟨a, V, rfl, ha, hA⟩ := x_t3 (show x_vs τ r 2 [(3, 65, ([], ((65 : Nat) : Int))), (1, 0, ([(0, 6)], 214)), (1, 0, ([(1, 1)], 0))] as from hA)
  obtain ⟨x, V', rfl, -, hx, hA⟩ := x_t1 hA
  obtain ⟨y, V'', rfl, -, hy, hA⟩ := x_t1 hA
  rw [g_nil hA]
  obtain ⟨rfl, ht⟩ := g_ref ha
  simp only [q_e, q_ev] at hx hy
  obtain ⟨vs, hc, hl, hW⟩ := g_H65 hH ht
  have h0 : 0 ≤ r 0 ∧ r 0 ≤ 11 := g_get hF.1 0 rfl
  obtain ⟨s, hs⟩ : ∃ s : Nat, r 0 = s := ⟨(r 0).toNat, by omega⟩
  have hs0 : g_S h 0 = s := by rw [g_S_0, g_fld65 (e' := ([(0, 1)], 0)) (g_get hM 0 rfl) (by decide), g_v]; exact hs
  have hTS := g_TS_cl (c := 6 * s + 214) (y := y.toInt) hW hs0 (by omega)
  have ex : x.toNatClampNeg = 6 * s + 214 := by rw [x_clamp, hx]; omega
  obtain ⟨hJ, eQ⟩ := g_J65 (f := [(65, 212, 283)]) hH ht hc hl (j := 6 * s + 214) (lo := 212) (hi := 283) (y := y) (by omega) rfl (by omega) (by omega) (fun q => by omega) hTS
  refine g_store hat hc (g_nn hx (by omega)) (by rw [ex]; omega) ?_
  rw [ex]
  have hlen : 65 < h.length := (List.getElem?_eq_some_iff.mp hc).1
  obtain ⟨h2, hh2⟩ : ∃ h2, h2 = h.set 65 (1, 0, vs.set (6 * s + 214) (.int y)) := ⟨_, rfl⟩
  rw [← hh2] at hJ eQ ⊢
  refine hK none _ ⟨τ, r, hJ, _, List.mem_cons_self, by rw [hh2, List.length_set]; exact Nat.le_refl _, by rw [hh2, p_sl_set hc (by simp)]; exact Nat.le_refl _, fun _ _ => rfl, g_F0, trivial, ?_⟩
  exact g_n
theorem hr_sightSet3 (hat : p_at pc M.2.2.2.2.1 = some (.iastore, 1)) : x_HoldR p_GT p_MT x_EE M pc 1 cr_sightSet3 := by
  intro τ r h as rest ls d Q hH hA hF hM hK
  obtain ⟨a, V, rfl, ha, hA⟩ := x_t3 (show x_vs τ r 2 [(3, 65, ([], ((65 : Nat) : Int))), (1, 0, ([(0, 6)], 215)), (1, 0, ([(1, 1)], 0))] as from hA)
  obtain ⟨x, V', rfl, -, hx, hA⟩ := x_t1 hA
  obtain ⟨y, V'', rfl, -, hy, hA⟩ := x_t1 hA
  rw [g_nil hA]
  obtain ⟨rfl, ht⟩ := g_ref ha
  simp only [q_e, q_ev] at hx hy
  obtain ⟨vs, hc, hl, hW⟩ := g_H65 hH ht
  have h0 : 0 ≤ r 0 ∧ r 0 ≤ 11 := g_get hF.1 0 rfl
  obtain ⟨s, hs⟩ : ∃ s : Nat, r 0 = s := ⟨(r 0).toNat, by omega⟩
  have hs0 : g_S h 0 = s := by rw [g_S_0, g_fld65 (e' := ([(0, 1)], 0)) (g_get hM 0 rfl) (by decide), g_v]; exact hs
  have h80 := g_80 (g_get hM 1 rfl)
  have hTS := g_TS_cl (c := 6 * s + 215) (y := y.toInt) hW hs0 (by omega)
  have ex : x.toNatClampNeg = 6 * s + 215 := by rw [x_clamp, hx]; omega
  obtain ⟨hJ, eQ⟩ := g_J65 (f := [(65, 212, 283)]) hH ht hc hl (j := 6 * s + 215) (lo := 212) (hi := 283) (y := y) (by omega) rfl (by omega) (by omega) (fun q => by omega) hTS
  refine g_store hat hc (g_nn hx (by omega)) (by rw [ex]; omega) ?_
  rw [ex]
  have hlen : 65 < h.length := (List.getElem?_eq_some_iff.mp hc).1
  obtain ⟨h2, hh2⟩ : ∃ h2, h2 = h.set 65 (1, 0, vs.set (6 * s + 215) (.int y)) := ⟨_, rfl⟩
  rw [← hh2] at hJ eQ ⊢
  have h80 : 80 ≤ h2.length := by rw [hh2, List.length_set]; exact h80
  refine hK none _ ⟨τ, r, hJ, _, List.mem_cons_self, by rw [hh2, List.length_set]; exact Nat.le_refl _, by rw [hh2, p_sl_set hc (by simp)]; exact Nat.le_refl _, fun _ _ => rfl, g_F0, trivial, ?_⟩
  exact g_c (g_mk13 (k := 6 * s + 215) (g_wl rfl) (g_wl rfl) h80 (by simp only [q_e, q_ev]; omega) (by omega) (by omega) (by rw [eQ]; simp only; rw [if_pos trivial]; simp only [q_e, q_ev]; omega)) g_n
theorem hr_sightSet4 (hat : p_at pc M.2.2.2.2.1 = some (.iastore, 1)) : x_HoldR p_GT p_MT x_EE M pc 1 cr_sightSet4 := by
  intro τ r h as rest ls d Q hH hA hF hM hK
  obtain ⟨a, V, rfl, ha, hA⟩ := x_t3 (show x_vs τ r 3 [(3, 65, ([], ((65 : Nat) : Int))), (1, 0, ([(0, 6)], 216)), (1, 0, ([(1, 1)], 0))] as from hA)
  obtain ⟨x, V', rfl, -, hx, hA⟩ := x_t1 hA
  obtain ⟨y, V'', rfl, -, hy, hA⟩ := x_t1 hA
  rw [g_nil hA]
  obtain ⟨rfl, ht⟩ := g_ref ha
  simp only [q_e, q_ev] at hx hy
  obtain ⟨vs, hc, hl, hW⟩ := g_H65 hH ht
  have h0 : 0 ≤ r 0 ∧ r 0 ≤ 11 := g_get hF.1 0 rfl
  obtain ⟨s, hs⟩ : ∃ s : Nat, r 0 = s := ⟨(r 0).toNat, by omega⟩
  have hs0 : g_S h 0 = s := by rw [g_S_0, g_fld65 (e' := ([(0, 1)], 0)) (g_get hM 0 rfl) (by decide), g_v]; exact hs
  have h80 := (g_gho (g_get hM 1 rfl) 13 rfl).1
  have u215 : g_S h (6 * s + 215) = r 2 := by rw [g_un13 (e := ([(0, 6)], 215)) (e' := ([(2, 1)], 0)) (k := 6 * s + 215) (g_get hM 1 rfl) (by simp only [q_e, q_ev]; omega) (by omega) (by omega), g_v]
  have hTS := g_TS_cl (c := 6 * s + 216) (y := y.toInt) hW hs0 (by omega)
  have ex : x.toNatClampNeg = 6 * s + 216 := by rw [x_clamp, hx]; omega
  obtain ⟨hJ, eQ⟩ := g_J65 (f := [(65, 212, 283)]) hH ht hc hl (j := 6 * s + 216) (lo := 212) (hi := 283) (y := y) (by omega) rfl (by omega) (by omega) (fun q => by omega) hTS
  refine g_store hat hc (g_nn hx (by omega)) (by rw [ex]; omega) ?_
  rw [ex]
  have hlen : 65 < h.length := (List.getElem?_eq_some_iff.mp hc).1
  obtain ⟨h2, hh2⟩ : ∃ h2, h2 = h.set 65 (1, 0, vs.set (6 * s + 216) (.int y)) := ⟨_, rfl⟩
  rw [← hh2] at hJ eQ ⊢
  have h80 : 80 ≤ h2.length := by rw [hh2, List.length_set]; exact h80
  refine hK none _ ⟨τ, r, hJ, _, List.mem_cons_self, by rw [hh2, List.length_set]; exact Nat.le_refl _, by rw [hh2, p_sl_set hc (by simp)]; exact Nat.le_refl _, fun _ _ => rfl, g_F0, trivial, ?_⟩
  exact g_c (g_mk13 (k := 6 * s + 215) (g_wl rfl) (g_wl rfl) h80 (by simp only [q_e, q_ev]; omega) (by omega) (by omega) (by rw [eQ]; simp only; rw [if_neg (by omega), u215, g_v])) (g_c (g_mk13 (k := 6 * s + 216) (g_wl rfl) (g_wl rfl) h80 (by simp only [q_e, q_ev]; omega) (by omega) (by omega) (by rw [eQ]; simp only; rw [if_pos trivial]; simp only [q_e, q_ev]; omega)) g_n)
theorem hr_sightSet5 (hat : p_at pc M.2.2.2.2.1 = some (.iastore, 1)) : x_HoldR p_GT p_MT x_EE M pc 1 cr_sightSet5 := by
  intro τ r h as rest ls d Q hH hA hF hM hK
  obtain ⟨a, V, rfl, ha, hA⟩ := x_t3 (show x_vs τ r 4 [(3, 65, ([], ((65 : Nat) : Int))), (1, 0, ([(0, 6)], 217)), (1, 0, ([(1, 1)], 0))] as from hA)
  obtain ⟨x, V', rfl, -, hx, hA⟩ := x_t1 hA
  obtain ⟨y, V'', rfl, -, hy, hA⟩ := x_t1 hA
  rw [g_nil hA]
  obtain ⟨rfl, ht⟩ := g_ref ha
  simp only [q_e, q_ev] at hx hy
  obtain ⟨vs, hc, hl, hW⟩ := g_H65 hH ht
  have h0 : 0 ≤ r 0 ∧ r 0 ≤ 11 := g_get hF.1 0 rfl
  obtain ⟨s, hs⟩ : ∃ s : Nat, r 0 = s := ⟨(r 0).toNat, by omega⟩
  have hs0 : g_S h 0 = s := by rw [g_S_0, g_fld65 (e' := ([(0, 1)], 0)) (g_get hM 0 rfl) (by decide), g_v]; exact hs
  have h80 := (g_gho (g_get hM 1 rfl) 13 rfl).1
  have u215 : g_S h (6 * s + 215) = r 2 := by rw [g_un13 (e := ([(0, 6)], 215)) (e' := ([(2, 1)], 0)) (k := 6 * s + 215) (g_get hM 1 rfl) (by simp only [q_e, q_ev]; omega) (by omega) (by omega), g_v]
  have u216 : g_S h (6 * s + 216) = r 3 := by rw [g_un13 (e := ([(0, 6)], 216)) (e' := ([(3, 1)], 0)) (k := 6 * s + 216) (g_get hM 2 rfl) (by simp only [q_e, q_ev]; omega) (by omega) (by omega), g_v]
  have hTS := g_TS_cl (c := 6 * s + 217) (y := y.toInt) hW hs0 (by omega)
  have ex : x.toNatClampNeg = 6 * s + 217 := by rw [x_clamp, hx]; omega
  obtain ⟨hJ, eQ⟩ := g_J65 (f := [(65, 212, 283)]) hH ht hc hl (j := 6 * s + 217) (lo := 212) (hi := 283) (y := y) (by omega) rfl (by omega) (by omega) (fun q => by omega) hTS
  refine g_store hat hc (g_nn hx (by omega)) (by rw [ex]; omega) ?_
  rw [ex]
  have hlen : 65 < h.length := (List.getElem?_eq_some_iff.mp hc).1
  obtain ⟨h2, hh2⟩ : ∃ h2, h2 = h.set 65 (1, 0, vs.set (6 * s + 217) (.int y)) := ⟨_, rfl⟩
  rw [← hh2] at hJ eQ ⊢
  have h80 : 80 ≤ h2.length := by rw [hh2, List.length_set]; exact h80
  refine hK none _ ⟨τ, r, hJ, _, List.mem_cons_self, by rw [hh2, List.length_set]; exact Nat.le_refl _, by rw [hh2, p_sl_set hc (by simp)]; exact Nat.le_refl _, fun _ _ => rfl, g_F0, trivial, ?_⟩
  exact g_c (g_mk13 (k := 6 * s + 215) (g_wl rfl) (g_wl rfl) h80 (by simp only [q_e, q_ev]; omega) (by omega) (by omega) (by rw [eQ]; simp only; rw [if_neg (by omega), u215, g_v])) (g_c (g_mk13 (k := 6 * s + 216) (g_wl rfl) (g_wl rfl) h80 (by simp only [q_e, q_ev]; omega) (by omega) (by omega) (by rw [eQ]; simp only; rw [if_neg (by omega), u216, g_v])) g_n)
theorem hr_sightTold (hat : p_at pc M.2.2.2.2.1 = some (.iastore, 1)) : x_HoldR p_GT p_MT x_EE M pc 1 cr_sightTold := by
  intro τ r h as rest ls d Q hH hA hF hM hK
  obtain ⟨a, V, rfl, ha, hA⟩ := x_t3 (show x_vs τ r 3 [(3, 65, ([], ((65 : Nat) : Int))), (1, 0, ([], 0)), (1, 0, ([(0, 1)], 1))] as from hA)
  obtain ⟨x, V', rfl, -, hx, hA⟩ := x_t1 hA
  obtain ⟨y, V'', rfl, -, hy, hA⟩ := x_t1 hA
  rw [g_nil hA]
  obtain ⟨rfl, ht⟩ := g_ref ha
  simp only [q_e, q_ev] at hx hy
  obtain ⟨vs, hc, hl, hW⟩ := g_H65 hH ht
  have h0 : 0 ≤ r 0 ∧ r 0 ≤ 11 := g_get hF.1 0 rfl
  obtain ⟨b1, b2⟩ : (1 ≤ r 1 ∧ r 1 ≤ 3) ∧ (1 ≤ r 2 ∧ r 2 ≤ 3) := ⟨g_get hF.1 1 rfl, g_get hF.1 2 rfl⟩
  obtain ⟨s, hs⟩ : ∃ s : Nat, r 0 = s := ⟨(r 0).toNat, by omega⟩
  have hs0 : g_S h 0 = s := by rw [g_S_0, g_fld65 (e' := ([(0, 1)], 0)) (g_get hM 0 rfl) (by decide), g_v]; exact hs
  have h80 := (g_gho (g_get hM 1 rfl) 13 rfl).1
  have u215 : g_S h (6 * s + 215) = r 1 := by rw [g_un13 (e := ([(0, 6)], 215)) (e' := ([(1, 1)], 0)) (k := 6 * s + 215) (g_get hM 1 rfl) (by simp only [q_e, q_ev]; omega) (by omega) (by omega), g_v]
  have u216 : g_S h (6 * s + 216) = r 2 := by rw [g_un13 (e := ([(0, 6)], 216)) (e' := ([(2, 1)], 0)) (k := 6 * s + 216) (g_get hM 2 rfl) (by simp only [q_e, q_ev]; omega) (by omega) (by omega), g_v]
  have hTS := g_TS_ct (y := y.toInt) hW hs0 (by omega) (by rw [show 212 + 6 * s + 3 = 6 * s + 215 by omega, u215]; omega) (by rw [show 212 + 6 * s + 4 = 6 * s + 216 by omega, u216]; omega)
  have ex : x.toNatClampNeg = 0 := by rw [x_clamp, hx]; omega
  obtain ⟨hJ, eQ⟩ := g_J65 (f := [(65, 0, 0)]) hH ht hc hl (j := 0) (lo := 0) (hi := 0) (y := y) (by omega) rfl (by omega) (by omega) (fun q => by omega) hTS
  refine g_store hat hc (g_nn hx (by omega)) (by rw [ex]; omega) ?_
  rw [ex]
  have hlen : 65 < h.length := (List.getElem?_eq_some_iff.mp hc).1
  obtain ⟨h2, hh2⟩ : ∃ h2, h2 = h.set 65 (1, 0, vs.set (0) (.int y)) := ⟨_, rfl⟩
  rw [← hh2] at hJ eQ ⊢
  have h80 : 80 ≤ h2.length := by rw [hh2, List.length_set]; exact h80
  refine hK none _ ⟨τ, r, hJ, _, List.mem_cons_self, by rw [hh2, List.length_set]; exact Nat.le_refl _, by rw [hh2, p_sl_set hc (by simp)]; exact Nat.le_refl _, fun _ _ => rfl, g_F0, trivial, ?_⟩
  refine g_c (x_m.mkp (g_wl rfl) (by decide) ⟨65, _, by simp [q_e, q_ev], ht, by rw [hh2]; exact List.getElem?_set_self hlen, ?_⟩) g_n
  rw [if_neg (by decide)]
  exact ⟨.int y, List.getElem?_set_self (by omega), g_wl rfl, y, rfl, by simp only [q_e, q_ev]; omega⟩
end GSI

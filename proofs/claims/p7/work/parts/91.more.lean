/-! byteAt, areaOf, copy by hand -/
section GBY
variable {τ : Nat → Option Nat} {r : Nat → Int} {h : p_H} {d : Nat}
theorem g_byteAt (hH : x_H x_EE τ h) (ht : τ 64 = some 64) {p : Nat} (hp : p ≤ 300) : p_wp p_GT p_MT d m_X12_byteAt 0 (lv_args 0 [.ref 64, .int (Int32.ofNat p)]) [] h (fun v h2 => h2 = h ∧ ∃ y : Int32, v = some (.int y) ∧ y.toInt = g_gh 12 (g_ms 12 h) p ∧ (y.toInt = -1 ∨ (0 ≤ y.toInt ∧ y.toInt ≤ 255 ∧ p ≤ 299))) := by
  obtain ⟨vs, hc, hl, hf⟩ := g_f64 hH ht
  obtain ⟨c, f1, f2, f3⟩ := hf 4 _ (List.getElem?_eq_getElem (show 4 < vs.length by omega))
  have f2 : 0 ≤ c.toInt := f2
  have f3 : c.toInt ≤ 300 := f3
  obtain ⟨a, e1, e2, e3⟩ := hf 3 _ (List.getElem?_eq_getElem (show 3 < vs.length by omega))
  have ea : a = 68 := Int.ofNat_inj.mp (show ((a : Nat) : Int) = ((68 : Nat) : Int) from e3 (by decide))
  subst ea
  have v4 : vs[4]? = some (.int c) := by rw [List.getElem?_eq_getElem (show 4 < vs.length by omega), f1]
  have v3 : vs[3]? = some (.ref 68) := by rw [List.getElem?_eq_getElem (show 3 < vs.length by omega), e1]
  obtain ⟨ws, hw, l1, l2, hfw, -⟩ := g_cell hH e2 (show x_KL[68]? = some _ from rfl)
  have l1 : 300 ≤ ws.length := l1
  have q4 : g_ms 12 h 64 4 = c.toInt := by rw [g_ms_at rfl, g_vs_at hc]; exact g_at_int v4
  have gp : g_gh 12 (g_ms 12 h) p = if (p : Int) < c.toInt then g_ms 12 h 68 p else -1 := by
    show (if (p : Int) < g_ms 12 h 64 4 then g_ms 12 h 68 (p : Int).toNat else -1) = _
    rw [q4, Int.toNat_natCast]
  refine w_iload_n rfl rfl (w_aload_n rfl rfl (w_getf rfl rfl hc v4 ?_))
  cases hcc : p_cd .ge (Int32.ofNat p) c with
  | true =>
    have : c.toInt ≤ p := by
      simp only [p_cd, decide_eq_true_eq] at hcc
      rw [Int32.le_iff_toInt_le, g_ofNat (by omega)] at hcc
      exact hcc
    refine w_icmp_t rfl (t := 17) rfl hcc (w_iconst rfl (w_ireturn rfl rfl ⟨rfl, _, rfl, ?_, Or.inl (by decide)⟩))
    rw [gp, if_neg (by omega)]; decide
  | false =>
    have hlt : (p : Int) < c.toInt := by
      simp only [p_cd, decide_eq_false_iff_not] at hcc
      rw [Int32.le_iff_toInt_le, g_ofNat (by omega)] at hcc
      omega
    have hpl : p < ws.length := by omega
    have hy := hfw p _ (List.getElem?_eq_getElem hpl)
    rw [x_pt0 (t := (1, 0, 0, 255)) rfl rfl rfl] at hy
    obtain ⟨y, y1, y2, y3⟩ := hy
    have y2 : 0 ≤ y.toInt := y2
    have y3 : y.toInt ≤ 255 := y3
    have hv : ws[p]? = some (.int y) := by rw [List.getElem?_eq_getElem hpl, y1]
    refine w_icmp_f rfl (t := 17) rfl hcc (w_aload_n rfl rfl (w_getf rfl rfl hc v3 (w_iload_n rfl rfl (w_ld rfl hw (by omega) hv (w_goto rfl (t := 18) rfl (w_ireturn rfl rfl ⟨rfl, y, rfl, ?_, Or.inr ⟨y2, y3, by omega⟩⟩))))))
    rw [gp, if_pos hlt, g_ms_at (g_lk_of (show x_KL[68]? = some _ from rfl) (lo := 0) (hi := 299) (by decide) (Nat.zero_le _) (by omega)), g_vs_at hw]
    exact (g_at_int hv).symm
end GBY
theorem ho_ch0 : x_OK p_GT p_MT x_EE ch0 := by
  refine ⟨?_, m_X12_byteAt, rfl⟩
  intro τ r h as M hM hH hA hF hK
  cases (show some m_X12_byteAt = some M from hM)
  obtain ⟨a, V, rfl, ha, hA⟩ := x_t3 (show x_vs τ r 1 [(3, 64, ([], ((64 : Nat) : Int))), (1, 0, ([(0, 1)], 0))] as from hA)
  obtain ⟨x, V, rfl, -, hx, hA⟩ := x_t1 hA
  rw [g_nil hA]
  obtain ⟨rfl, ht⟩ := g_ref ha
  rw [g_v] at hx
  have h0 : 0 ≤ r 0 ∧ r 0 ≤ 300 := g_get hF.1 0 rfl
  have h80 := g_80 (g_get hK 0 rfl)
  obtain ⟨p, hp⟩ : ∃ p : Nat, r 0 = p := ⟨(r 0).toNat, by omega⟩
  have ex : x = Int32.ofNat p := g_i32 (by omega) (by omega)
  subst ex
  refine ⟨Nat.le_of_ble_eq_true rfl, (g_byteAt (d := 1) hH ht (by omega)).mono (Nat.le_refl _) ?_⟩
  rintro v h2 ⟨rfl, y, rfl, hy, hb⟩
  rcases hb with hb | ⟨b1, b2, b3⟩
  · refine ⟨τ, r, g_J0 hH _, _, List.mem_cons_self, Nat.le_refl _, Nat.le_refl _, fun _ _ => rfl, g_F0, ⟨g_wl rfl, _, rfl, by rw [hb]; simp [q_e, q_ev]⟩, g_c (g_mk 12 rfl (g_wl rfl) (g_wl rfl) rfl h80 ?_) g_n⟩
    show g_gh 12 (g_ms 12 h2) (q_e r ([(0, 1)], 0)) = q_e r ([], -1)
    rw [g_v, hp, ← hy, hb]; simp [q_e, q_ev]
  · refine ⟨τ, x_up r 1 y.toInt, g_J0 hH _, _, List.mem_cons_of_mem _ List.mem_cons_self, Nat.le_refl _, Nat.le_refl _, fun i hi => x_up_lt i hi, ⟨g_io (by simp [x_up]; omega) (g_io (by simp [x_up]; omega) g_io0), g_n, g_n⟩, ⟨g_wl rfl, _, rfl, by rw [g_v, x_up_at]⟩, g_c (g_mk 12 rfl (g_wl rfl) (g_wl rfl) rfl h80 ?_) g_n⟩
    show g_gh 12 (g_ms 12 h2) (q_e (x_up r 1 y.toInt) ([(0, 1)], 0)) = q_e (x_up r 1 y.toInt) ([(1, 1)], 0)
    rw [g_v, g_v, x_up_at, x_up_lt 0 (by decide), hp, ← hy]
theorem ho_ch1 : x_OK p_GT p_MT x_EE ch1 := by
  refine ⟨?_, m_X12_byteAt, rfl⟩
  intro τ r h as M hM hH hA hF hK
  cases (show some m_X12_byteAt = some M from hM)
  obtain ⟨a, V, rfl, ha, hA⟩ := x_t3 (show x_vs τ r 2 [(3, 64, ([], ((64 : Nat) : Int))), (1, 0, ([(0, 1)], 0))] as from hA)
  obtain ⟨x, V, rfl, -, hx, hA⟩ := x_t1 hA
  rw [g_nil hA]
  obtain ⟨rfl, ht⟩ := g_ref ha
  rw [g_v] at hx
  have h0 : 0 ≤ r 0 ∧ r 0 ≤ 300 := g_get hF.1 0 rfl
  obtain ⟨h80, hg⟩ := g_gho (g_get hK 0 rfl) 12 rfl
  obtain ⟨p, hp⟩ : ∃ p : Nat, r 0 = p := ⟨(r 0).toNat, by omega⟩
  have ex : x = Int32.ofNat p := g_i32 (by omega) (by omega)
  subst ex
  have hg : g_gh 12 (g_ms 12 h) p = r 1 := by
    have e : g_gh 12 (g_ms 12 h) (q_e r ([(0, 1)], 0)) = q_e r ([(1, 1)], 0) := hg
    rw [g_v, g_v, hp] at e; exact e
  refine ⟨Nat.le_of_ble_eq_true rfl, (g_byteAt (d := 1) hH ht (by omega)).mono (Nat.le_refl _) ?_⟩
  rintro v h2 ⟨rfl, y, rfl, hy, -⟩
  exact ⟨τ, r, g_J0 hH _, _, List.mem_cons_self, Nat.le_refl _, Nat.le_refl _, fun _ _ => rfl, g_F0, ⟨g_wl rfl, _, rfl, by rw [g_v, hy, hg]⟩, g_c (g_get hK 0 rfl) g_n⟩
theorem g_sightOf {h : p_H} {d s j : Nat} {vs ws : List Value} {y : Int32} (hc : h[64]? = some (0, 12, vs)) (h0 : vs[0]? = some (.ref 65)) (hw : h[65]? = some (1, 0, ws)) (hs : s < 12) (hj : j < 6) (hy : ws[212 + 6 * s + j]? = some (.int y)) : p_wp p_GT p_MT d m_X12_sightOf 0 (lv_args 0 [.ref 64, .int (Int32.ofNat s), .int (Int32.ofNat j)]) [] h (fun v h2 => v = some (.int y) ∧ h2 = h) :=
  w_aload_n rfl rfl (w_getf rfl rfl hc h0 (w_sp 212 rfl rfl (w_bp 6 rfl rfl (w_iload_n rfl rfl (w_mulN rfl (w_addN rfl (w_iload_n rfl rfl (w_addN rfl (w_ld rfl hw (by omega) hy (w_ireturn rfl rfl ⟨rfl, rfl⟩))))))))))
theorem ho_ch13 : x_OK p_GT p_MT x_EE ch13 := by
  refine ⟨?_, m_X12_areaOf, rfl⟩
  intro τ r h as M hM hH hA hF hK
  cases (show some m_X12_areaOf = some M from hM)
  obtain ⟨a, V, rfl, ha, hA⟩ := x_t3 (show x_vs τ r 2 [(3, 64, ([], ((64 : Nat) : Int))), (1, 0, ([(0, 1)], 0))] as from hA)
  obtain ⟨x, V, rfl, -, hx, hA⟩ := x_t1 hA
  rw [g_nil hA]
  obtain ⟨rfl, ht⟩ := g_ref ha
  rw [g_v] at hx
  obtain ⟨h0, h1⟩ : (0 ≤ r 0 ∧ r 0 ≤ 11) ∧ (0 ≤ r 1 ∧ r 1 ≤ 12) := ⟨g_get hF.1 0 rfl, g_get hF.1 1 rfl⟩
  have f1 : 0 ≤ q_e r ([(0, -1), (1, 1)], -1) := g_get hF.2.1 0 rfl
  simp only [q_e, q_ev] at f1
  obtain ⟨s, hs⟩ : ∃ s : Nat, r 0 = s := ⟨(r 0).toNat, by omega⟩
  have ex : x = Int32.ofNat s := g_i32 (by omega) (by omega)
  subst ex
  obtain ⟨vs, hc, f0, f2, t65, t67⟩ := g_f64a hH ht
  obtain ⟨ws, hw, lw, hS⟩ := g_H65 hH t65
  obtain ⟨ws', hw', -, -, hfw, -⟩ := g_cell hH t65 (show x_KL[65]? = some _ from rfl)
  have ew : ws' = ws := by
    have := hw'.symm.trans hw
    simp only [Option.some.injEq, Prod.mk.injEq, true_and] at this
    exact this
  subst ew
  have hs0 : g_S h 0 = r 1 := by rw [g_S_0, g_fld65 (e' := ([(1, 1)], 0)) (g_get hK 0 rfl) (by decide), g_v]
  obtain ⟨b1, b2, b3, b4⟩ := hS s (by omega) (by rw [hs0]; omega)
  obtain ⟨y3, hy3⟩ := g_int rfl rfl hfw (show 212 + 6 * s + 3 < ws'.length by omega)
  obtain ⟨y4, hy4⟩ := g_int rfl rfl hfw (show 212 + 6 * s + 4 < ws'.length by omega)
  rw [g_S_in (by omega) (by omega), g_vs_at hw, show g_at _ _ = _ from g_at_int hy3] at b1 b2
  rw [g_S_in (by omega) (by omega), g_vs_at hw, show g_at _ _ = _ from g_at_int hy4] at b3 b4
  obtain ⟨k3, e3⟩ : ∃ k : Nat, y3.toInt = k := ⟨y3.toInt.toNat, by omega⟩
  obtain ⟨k4, e4⟩ : ∃ k : Nat, y4.toInt = k := ⟨y4.toInt.toNat, by omega⟩
  have ey3 : y3 = Int32.ofNat k3 := g_i32 e3 (by omega)
  have ey4 : y4 = Int32.ofNat k4 := g_i32 e4 (by omega)
  rw [ey3] at hy3
  rw [ey4] at hy4
  refine ⟨Nat.le_of_ble_eq_true rfl, ?_⟩
  refine w_aload_n rfl rfl (w_iload_n rfl rfl (w_ic 3 rfl rfl (w_virtual (dc := 1) (M' := m_X12_sightOf) rfl (g_vir (n := 3) rfl rfl (by simp [p_cat, p_bd]) rfl rfl hc rfl) rfl rfl (Nat.le_refl _) (g_sightOf hc f0 hw (by omega) (by decide) hy3) ?_)))
  rintro v h2 ⟨rfl, rfl⟩
  refine w_aload_n rfl rfl (w_iload_n rfl rfl (w_ic 4 rfl rfl (w_virtual (dc := 1) (M' := m_X12_sightOf) rfl (g_vir (n := 3) rfl rfl (by simp [p_cat, p_bd, Value.category]) rfl rfl hc rfl) rfl rfl (Nat.le_refl _) (g_sightOf hc f0 hw (by omega) (by decide) hy4) ?_)))
  rintro v h2 ⟨rfl, rfl⟩
  have hb : 1 ≤ k3 * k4 ∧ k3 * k4 ≤ 9 := ⟨Nat.mul_pos (by omega) (by omega), Nat.mul_le_mul (show k3 ≤ 3 by omega) (show k4 ≤ 3 by omega)⟩
  exact w_mulN rfl (w_ireturn rfl rfl ⟨τ, x_up r 2 ((k3 * k4 : Nat) : Int), g_J0 hH _, _, List.mem_cons_self, Nat.le_refl _, Nat.le_refl _, fun i hi => x_up_lt i hi, ⟨g_io (by rw [x_up_at]; omega) g_io0, g_n, g_n⟩, ⟨g_wl rfl, _, rfl, by rw [g_v, x_up_at, g_ofNat (by omega)]⟩, g_n⟩)
section GCO
variable {h : p_H} {d a b : Nat} {vs : List Value} {Q : Option Value → p_H → Prop}
theorem g_copy_loop (hab : b ≠ a) (ha : h[a]? = some (1, 0, vs)) (hb : b < h.length) (hl : vs.length = 2517) (hvs : ∀ j, j < 2517 → ∃ y : Int32, vs[j]? = some (.int y)) (hQ : Q none (h.set b (1, 0, vs))) : ∀ j i ls us, i + j = 2517 → us.length = 2517 → (∀ k, k < i → us[k]? = vs[k]?) → p_lk 0 ls = some (.ref a) → p_lk 1 ls = some (.ref b) → p_lk 2 ls = some (.int (Int32.ofNat i)) → p_wp p_GT p_MT d m_X12_copy 2 ls [] (h.set b (1, 0, us)) Q := by
  intro j
  induction j with
  | zero =>
    intro i ls us hi hul hu l0 l1 l2
    have hi : i = 2517 := hi
    have eu : us = vs := by
      apply List.ext_getElem?
      intro k
      by_cases hk : k < i
      · exact hu k hk
      · rw [List.getElem?_eq_none (by omega), List.getElem?_eq_none (by omega)]
    subst eu
    refine w_iload_n rfl l2 (w_sp 2517 rfl rfl (w_icmp_t rfl (t := 21) rfl ?_ (w_return rfl rfl hQ)))
    simp only [p_cd, decide_eq_true_eq]
    rw [Int32.le_iff_toInt_le, g_ofNat (by omega), g_ofNat (by omega)]; omega
  | succ j ih =>
    intro i ls us hi hul hu l0 l1 l2
    obtain ⟨y, hy⟩ := hvs i (by omega)
    have hc : p_cd .ge (Int32.ofNat i) (Int32.ofNat 2517) = false := by
      simp only [p_cd, decide_eq_false_iff_not]
      rw [Int32.le_iff_toInt_le, g_ofNat (by omega), g_ofNat (by omega)]; omega
    refine w_iload_n rfl l2 (w_sp 2517 rfl rfl (w_icmp_f rfl (t := 21) rfl hc (w_aload_n rfl l1 (w_iload_n rfl l2 (w_aload_n rfl l0 (w_iload_n rfl l2 (w_ld rfl (by rw [List.getElem?_set_ne hab]; exact ha) (by omega) hy (w_st rfl (List.getElem?_set_self hb) (by omega) (by omega) (w_iinc rfl l2 (by decide) (w_goto rfl (t := 2) rfl ?_))))))))))
    rw [List.set_set, show Int32.ofInt 1 = Int32.ofNat 1 from rfl, g_add (by omega)]
    refine ih (i + 1) _ (us.set i (.int y)) (by omega) (by rw [List.length_set]; exact hul) (fun k hk => ?_) (w_s1 l0 rfl (by decide)) (w_s1 l1 rfl (by decide)) p_lk_s1
    by_cases e : i = k
    · subst e; rw [List.getElem?_set_self (by omega), hy]
    · rw [List.getElem?_set_ne e]; exact hu k (by omega)
theorem g_copy (hab : b ≠ a) (ha : h[a]? = some (1, 0, vs)) {us : List Value} (hb : h[b]? = some (1, 0, us)) (hul : us.length = 2517) (hl : vs.length = 2517) (hvs : ∀ j, j < 2517 → ∃ y : Int32, vs[j]? = some (.int y)) (hQ : Q none (h.set b (1, 0, vs))) : p_wp p_GT p_MT d m_X12_copy 0 (lv_args 0 [.ref a, .ref b]) [] h Q := by
  obtain ⟨hbl, eb⟩ := List.getElem?_eq_some_iff.mp hb
  have eh : h = h.set b (1, 0, us) := by rw [← eb, List.set_getElem_self]
  refine w_ic 0 rfl rfl (w_istore_n rfl (by decide) ?_)
  rw [eh]
  have hk := g_copy_loop (d := d) (Q := Q) hab ha hbl hl hvs hQ 2517 0 (p_s1 (lv_args 0 [.ref a, .ref b]) 2 (.int (Int32.ofNat 0))) us (by omega) hul (fun k hk => by omega) (w_s1 rfl rfl (by decide)) (w_s1 rfl rfl (by decide)) p_lk_s1
  exact hk
end GCO
/-- what the copy leaves: the kinds, and all known places of other cells -/
theorem g_copy_J {τ : Nat → Option Nat} {h : p_H} {vs ws : List Value} (hH : x_H x_EE τ h) (ta : τ 65 = some 65) (tb : τ 66 = some 66) (ha : h[65]? = some (1, 0, vs)) (hb : h[66]? = some (1, 0, ws)) : x_J x_EE [(66, 0, 2516)] τ h τ (h.set 66 (1, 0, vs)) := by
  obtain ⟨vs', ha', l1, l2, hf, hct⟩ := g_cell hH ta (show x_KL[65]? = some _ from rfl)
  obtain ⟨ws', hb', k1, k2, hg, -⟩ := g_cell hH tb (show x_KL[66]? = some _ from rfl)
  have ea : vs' = vs := by
    have := ha'.symm.trans ha
    simp only [Option.some.injEq, Prod.mk.injEq, true_and] at this
    exact this
  have eb : ws' = ws := by
    have := hb'.symm.trans hb
    simp only [Option.some.injEq, Prod.mk.injEq, true_and] at this
    exact this
  subst ea; subst eb
  have l1 : 2517 ≤ vs'.length := l1
  have l2 : vs'.length ≤ 2517 := l2
  have k1 : 2517 ≤ ws'.length := k1
  have k2 : ws'.length ≤ 2517 := k2
  refine ⟨fun _ _ q => q, fun _ _ q => Or.inl q, hH.setc (c := (1, 0, ws')) tb hb (show x_KL[66]? = some _ from rfl) (by show vs'.length = ws'.length; omega) (fun j v hv => hf j v hv) ⟨fun _ => rfl, fun q => (by omega), fun _ => hct.2.2 (Or.inl rfl)⟩, ?_⟩
  exact x_ef.sets x_ef_refl (fun _ _ q => Or.inl q) (c := (1, 0, ws')) (lo := 0) (hi := 2516) tb hb (by show vs'.length = ws'.length; omega) (fun j hj => by show vs'[j]? = ws'[j]?; rw [List.getElem?_eq_none (by omega), List.getElem?_eq_none (by omega)]) rfl
theorem g_copy_K {τ : Nat → Option Nat} {h : p_H} {vs ws : List Value} (hH : x_H x_EE τ h) (ta : τ 65 = some 65) (tb : τ 66 = some 66) (ha : h[65]? = some (1, 0, vs)) (hb : h[66]? = some (1, 0, ws)) : x_J x_EE [(65, 0, 2516)] τ h τ (h.set 65 (1, 0, ws)) := by
  obtain ⟨vs', ha', l1, l2, hf, -⟩ := g_cell hH ta (show x_KL[65]? = some _ from rfl)
  obtain ⟨ws', hb', k1, k2, hg, hct⟩ := g_cell hH tb (show x_KL[66]? = some _ from rfl)
  have ea : vs' = vs := by
    have := ha'.symm.trans ha
    simp only [Option.some.injEq, Prod.mk.injEq, true_and] at this
    exact this
  have eb : ws' = ws := by
    have := hb'.symm.trans hb
    simp only [Option.some.injEq, Prod.mk.injEq, true_and] at this
    exact this
  subst ea; subst eb
  have l1 : 2517 ≤ vs'.length := l1
  have l2 : vs'.length ≤ 2517 := l2
  have k1 : 2517 ≤ ws'.length := k1
  have k2 : ws'.length ≤ 2517 := k2
  refine ⟨fun _ _ q => q, fun _ _ q => Or.inl q, hH.setc (c := (1, 0, vs')) ta ha (show x_KL[65]? = some _ from rfl) (by show ws'.length = vs'.length; omega) (fun j v hv => hg j v hv) ⟨fun _ => rfl, fun q => (by omega), fun _ => hct.2.2 (Or.inr rfl)⟩, ?_⟩
  exact x_ef.sets x_ef_refl (fun _ _ q => Or.inl q) (c := (1, 0, vs')) (lo := 0) (hi := 2516) ta ha (by show ws'.length = vs'.length; omega) (fun j hj => by show ws'[j]? = vs'[j]?; rw [List.getElem?_eq_none (by omega), List.getElem?_eq_none (by omega)]) rfl
theorem ho_ch14 : x_OK p_GT p_MT x_EE ch14 := by
  refine ⟨?_, m_X12_copy, rfl⟩
  intro τ r h as M hM hH hA hF hK
  cases (show some m_X12_copy = some M from hM)
  obtain ⟨a, V, rfl, ha, hA⟩ := x_t3 (show x_vs τ r 0 [(3, 65, ([], ((65 : Nat) : Int))), (3, 66, ([], ((66 : Nat) : Int)))] as from hA)
  obtain ⟨b, V, rfl, hb, hA⟩ := x_t3 hA
  rw [g_nil hA]
  obtain ⟨rfl, ta⟩ := g_ref ha
  obtain ⟨rfl, tb⟩ := g_ref hb
  obtain ⟨vs, ca, l1, l2, hf, -⟩ := g_cell hH ta (show x_KL[65]? = some _ from rfl)
  obtain ⟨ws, cb, k1, k2, hg, -⟩ := g_cell hH tb (show x_KL[66]? = some _ from rfl)
  have l1 : 2517 ≤ vs.length := l1
  have l2 : vs.length ≤ 2517 := l2
  have k1 : 2517 ≤ ws.length := k1
  have k2 : ws.length ≤ 2517 := k2
  refine ⟨Nat.le_of_ble_eq_true rfl, g_copy (by decide) ca cb (by omega) (by omega) (fun j hj => g_int rfl rfl hf (by omega)) ?_⟩
  exact ⟨τ, r, g_copy_J hH ta tb ca cb, _, List.mem_cons_self, by rw [List.length_set]; exact Nat.le_refl _, by rw [p_sl_set cb (by show vs.length = ws.length; omega)]; exact Nat.le_refl _, fun _ _ => rfl, g_F0, trivial, g_n⟩
theorem ho_ch15 : x_OK p_GT p_MT x_EE ch15 := by
  refine ⟨?_, m_X12_copy, rfl⟩
  intro τ r h as M hM hH hA hF hK
  cases (show some m_X12_copy = some M from hM)
  obtain ⟨a, V, rfl, ha, hA⟩ := x_t3 (show x_vs τ r 0 [(3, 66, ([], ((66 : Nat) : Int))), (3, 65, ([], ((65 : Nat) : Int)))] as from hA)
  obtain ⟨b, V, rfl, hb, hA⟩ := x_t3 hA
  rw [g_nil hA]
  obtain ⟨rfl, tb⟩ := g_ref ha
  obtain ⟨rfl, ta⟩ := g_ref hb
  obtain ⟨vs, ca, l1, l2, hf, -⟩ := g_cell hH ta (show x_KL[65]? = some _ from rfl)
  obtain ⟨ws, cb, k1, k2, hg, -⟩ := g_cell hH tb (show x_KL[66]? = some _ from rfl)
  have l1 : 2517 ≤ vs.length := l1
  have l2 : vs.length ≤ 2517 := l2
  have k1 : 2517 ≤ ws.length := k1
  have k2 : ws.length ≤ 2517 := k2
  refine ⟨Nat.le_of_ble_eq_true rfl, g_copy (by decide) cb ca (by omega) (by omega) (fun j hj => g_int rfl rfl hg (by omega)) ?_⟩
  exact ⟨τ, r, g_copy_K hH ta tb ca cb, _, List.mem_cons_self, by rw [List.length_set]; exact Nat.le_refl _, by rw [p_sl_set ca (by show ws.length = vs.length; omega)]; exact Nat.le_refl _, fun _ _ => rfl, g_F0, trivial, g_n⟩
theorem hr_shl1 {M : p_M} {pc : Nat} (hat : p_at pc M.2.2.2.2.1 = some (.ishl, 1)) : x_HoldR p_GT p_MT x_EE M pc 1 cr_shl1 := by
  intro τ r h as rest ls d Q hH hA hF hM hK
  obtain ⟨x, V, rfl, -, hx, hA⟩ := x_t1 (show x_vs τ r 1 [(1, 0, ([], 1)), (1, 0, ([(0, 1)], 0))] as from hA)
  obtain ⟨y, V', rfl, -, hy, hA⟩ := x_t1 hA
  rw [g_nil hA]
  rw [g_v] at hy
  have hx : x.toInt = 1 := by rw [hx]; simp [q_e, q_ev]
  have ex : x = 1 := Int32.toInt_inj.mp hx
  subst ex
  have h0 : -1 ≤ r 0 ∧ r 0 ≤ 7 := g_get hF.1 0 rfl
  have hall : ∀ k : Nat, k < 9 → ((1 : Int32) <<< (Int32.ofInt ((k : Int) - 1) &&& 31)).toInt ≤ 128 := by decide +kernel
  have hb : ((1 : Int32) <<< (y &&& 31)).toInt ≤ 128 := by
    have e := hall (r 0 + 1).toNat (by omega)
    rw [show (((r 0 + 1).toNat : Nat) : Int) - 1 = y.toInt by omega, Int32.ofInt_toInt] at e
    exact e
  have hl := x_I32 ((1 : Int32) <<< (y &&& 31))
  refine w_ishl hat (hK (some (.int ((1 : Int32) <<< (y &&& 31)))) h ⟨τ, x_up r 1 ((1 : Int32) <<< (y &&& 31)).toInt, g_J0 hH _, _, List.mem_cons_self, Nat.le_refl _, Nat.le_refl _, fun i hi => x_up_lt i hi, ⟨g_io (by rw [x_up_at]; omega) g_io0, g_n, g_n⟩, ⟨g_wl rfl, _, rfl, by rw [g_v, x_up_at]⟩, g_n⟩)

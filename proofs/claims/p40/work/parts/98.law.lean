/-! The script is read; the loop -/
section GSC
variable {M : p_M} {pc : Nat}
theorem g_loadS {G : p_G} {MT : List p_M} {d : Nat} {ls : p_Ls} {rest : List Value} {h : p_H} {Q : Option Value → p_H → Prop} {a : Nat} {x : Int32} {vs : List Value} {v : Value} (hat : p_at pc M.2.2.2.2.1 = some (.iaload, 1)) (hc : h[a]? = some (2, 0, vs)) (hx : ¬ x < 0) (hv : vs[x.toNatClampNeg]? = some v) (hk : p_wp G MT d M (pc + 1) ls (v :: rest) h Q) : p_wp G MT d M pc ls (.int x :: .ref a :: rest) h Q := by
  refine p_wp.step hat ?_ hk
  simp only [p_step, p_al, hc, p_ix, if_neg hx, hv]
  rfl
theorem g_slen {τ : Nat → Option Nat} {r : Nat → Int} {n : Nat} {h : p_H} {e' : q_E} {vs : List Value} (hm : x_m x_EE τ r n h (([], 0), 0, 1000000, (1, 0, e'))) (hc : h[0]? = some (2, 0, vs)) : (vs.length : Int) = q_e r e' := by
  obtain ⟨i, c, e1, -, e3, e4⟩ := hm.plc (show (1000000 : Nat) < x_gho by decide)
  have e1 : (i : Int) = q_e r ([], 0) := e1
  simp only [q_e, q_ev] at e1
  have : i = 0 := by omega
  subst this
  rw [if_pos (show 1000000 = x_len from rfl)] at e4
  have ec : c = (2, 0, vs) := Option.some.inj (e3.symm.trans hc)
  subst ec
  exact e4.2.2
theorem g_lk0 {j : Nat} : g_lk 14 0 j = Nat.ble j 3583 := by
  have e : g_lk 14 0 j = (Nat.ble j 3583 || false) := rfl
  rw [e]; cases Nat.ble j 3583 <;> rfl
theorem hr_script (hat : p_at pc M.2.2.2.2.1 = some (.iaload, 1)) : x_HoldR p_GT p_MT x_EE M pc 1 cr_script := by
  intro τ r h as rest ls d Q hH hA hF hM hK
  obtain ⟨a, V, rfl, ha, hA⟩ := x_t3 (show x_vs τ r 2 [(3, 0, ([], ((0 : Nat) : Int))), (1, 0, ([(0, 1)], 0))] as from hA)
  obtain ⟨x, V', rfl, -, hx, hA⟩ := x_t1 hA
  rw [g_nil hA]
  obtain ⟨rfl, ht⟩ := g_ref ha
  rw [g_v] at hx
  obtain ⟨vs, hc, l1, l2, hf, -⟩ := g_cell hH ht (show x_KL[0]? = some _ from rfl)
  have h0 : 0 ≤ r 0 ∧ r 0 ≤ 3583 := g_get hF.1 0 rfl
  have f1 : 0 ≤ q_e r ([(0, -1), (1, 1)], -1) := g_get hF.2.1 0 rfl
  simp only [q_e, q_ev] at f1
  have hL := g_slen (e' := ([(1, 1)], 0)) (g_get hM 0 rfl) hc
  rw [g_v] at hL
  have h80 := g_80 (g_get hM 1 rfl)
  have hl : x.toNatClampNeg < vs.length := by rw [x_clamp]; omega
  obtain ⟨y, hy⟩ := g_int rfl rfl hf hl
  refine g_loadS hat hc (g_nn hx h0.1) hy (hK (some (.int y)) h ⟨τ, x_up r 2 y.toInt, g_J0 hH _, _, List.mem_cons_self, Nat.le_refl _, Nat.le_refl _, fun i hi => x_up_lt i hi, ⟨g_io (by rw [x_up_at]; exact x_I32 y) g_io0, g_n, g_n⟩, ⟨g_wl rfl, y, rfl, by rw [g_v, x_up_at]⟩, g_c (g_mk 14 rfl (g_wl rfl) (g_wl rfl) rfl h80 ?_) g_n⟩)
  show g_ms 14 h 0 (q_e (x_up r 2 y.toInt) ([(0, 1)], 0)).toNat = q_e (x_up r 2 y.toInt) ([(2, 1)], 0)
  rw [g_v, g_v, x_up_at, x_up_lt 0 (by decide), g_ms_at (by rw [g_lk0]; exact Nat.ble_eq_true_of_le (by omega)), g_vs_at hc]
  exact g_at_int (by rw [← hx]; exact hy)
theorem hr_scriptK (hat : p_at pc M.2.2.2.2.1 = some (.iaload, 1)) : x_HoldR p_GT p_MT x_EE M pc 1 cr_scriptK := by
  intro τ r h as rest ls d Q hH hA hF hM hK
  obtain ⟨a, V, rfl, ha, hA⟩ := x_t3 (show x_vs τ r 3 [(3, 0, ([], ((0 : Nat) : Int))), (1, 0, ([(0, 1)], 0))] as from hA)
  obtain ⟨x, V', rfl, -, hx, hA⟩ := x_t1 hA
  rw [g_nil hA]
  obtain ⟨rfl, ht⟩ := g_ref ha
  rw [g_v] at hx
  obtain ⟨vs, hc, l1, l2, hf, -⟩ := g_cell hH ht (show x_KL[0]? = some _ from rfl)
  have h0 : 0 ≤ r 0 ∧ r 0 ≤ 3583 := g_get hF.1 0 rfl
  have f1 : 0 ≤ q_e r ([(0, -1), (2, 1)], -1) := g_get hF.2.1 0 rfl
  simp only [q_e, q_ev] at f1
  have hL := g_slen (e' := ([(2, 1)], 0)) (g_get hM 1 rfl) hc
  rw [g_v] at hL
  have hl : x.toNatClampNeg < vs.length := by rw [x_clamp]; omega
  obtain ⟨y, hy⟩ := g_int rfl rfl hf hl
  obtain ⟨-, hg⟩ := g_gho (g_get hM 0 rfl) 14 rfl
  have hg : g_ms 14 h 0 (q_e r ([(0, 1)], 0)).toNat = q_e r ([(1, 1)], 0) := hg
  rw [g_v, g_v, g_ms_at (by rw [g_lk0]; exact Nat.ble_eq_true_of_le (by omega)), g_vs_at hc, show g_at _ _ = _ from g_at_int (x := y) (by rw [← hx]; exact hy)] at hg
  exact g_loadS hat hc (g_nn hx h0.1) hy (hK (some (.int y)) h ⟨τ, r, g_J0 hH _, _, List.mem_cons_self, Nat.le_refl _, Nat.le_refl _, fun _ _ => rfl, g_F0, ⟨g_wl rfl, y, rfl, by rw [g_v]; exact hg⟩, g_n⟩)
end GSC
section XLO
variable {E : x_E} {τ : Nat → Option Nat} {r : Nat → Int} {h : p_H} {G : p_G} {MT : List p_M} {M : p_M} {D : List x_C} {C : x_C} {U : List x_U} {Y : x_Y}
theorem x_loop_ok (hEO : x_EO E) (hKO : x_KO E) (hD : ∀ d ∈ D, x_OK G MT E d) (hY : ∀ q ∈ Y.2, ∀ d ∈ q.2.2.2, x_HoldR G MT E M q.1 q.2.2.1 d) (hU : ∀ T ∈ U, x_wU C.2.1 T = true) {k : Nat} (hg : ∀ T ∈ U, x_ex E.1 G MT M D C U Y (some T.2.2.2.2.2.2.2) k true (T.1, x_hd T) = true) : ∀ (z : Nat), ∀ T ∈ U, ∀ (τ1 : Nat → Option Nat) (r1 : Nat → Int) (h1 : p_H) (ls : p_Ls) (st : List Value), x_J E C.2.2.2.2.2.1 τ h τ1 h1 → x_O E τ1 r1 h h1 ls st (x_hd T) → (∀ i, i < C.2.1 → r1 i = r i) → 0 ≤ q_e r1 T.2.2.2.2.2.2.2 → q_e r1 T.2.2.2.2.2.2.2 < z → p_wp G MT C.2.2.2.2.2.2.1 M T.1 ls st h1 (x_Post E C τ r h) := by
  intro z
  induction z with
  | zero => intro T _ τ1 r1 h1 ls st _ _ _ a b; exact absurd b (by omega)
  | succ z ihz =>
    intro T hT τ1 r1 h1 ls st hJ hO hr hp hz
    have wT := hU T hT
    simp only [x_wU, Bool.and_eq_true] at wT
    refine x_ex_ok (mu := some T.2.2.2.2.2.2.2) (z := q_e r1 T.2.2.2.2.2.2.2) hEO hKO (fun d hd => (hD d hd).1) (fun d hd => (hD d hd).2) hY hU ?_ k true T.1 (x_hd T) τ1 r1 h1 ls st (hg T hT) hJ hO hr (Nat.le_of_ble_eq_true wT.1.1.1.1.1.1) ?_
    · intro T' hT' τ2 r2 h2 ls2 st2 a1 a2 a3 a4 a5
      have := a5 rfl
      exact ihz T' hT' τ2 r2 h2 ls2 st2 a1 a2 a3 a4 (by omega)
    · intro e he
      cases he
      exact ⟨x_wl_ok wT.2, rfl⟩
end XLO
theorem hl_0 : x_OK p_GT p_MT x_EE cl0 := x_chk_OK x_EE_EO x_EE_KO (g_n) (fun _ _ => g_n) clt0
theorem hl_1 : x_OK p_GT p_MT x_EE cl1 := x_chk_OK x_EE_EO x_EE_KO (g_c (hl_0) (g_c (ho_181) (g_c (ho_182) (g_c (ho_183) (g_c (ho_184) (g_c (ho_185) (g_c (ho_187) (g_n)))))))) (fun _ _ => g_n) clt1
theorem hl_2 : x_OK p_GT p_MT x_EE cl2 := x_chk_OK x_EE_EO x_EE_KO (g_c (hl_1) (g_c (ho_3) (g_n))) (fun _ _ => g_n) clt2
theorem ho_chL0 : x_OK p_GT p_MT x_EE chL0 := by
  refine ⟨?_, m_X12_copy, rfl⟩
  intro τ r h as M hM hH hA hF hK
  cases (show some m_X12_copy = some M from hM)
  obtain ⟨a, V, rfl, ha, hA⟩ := x_t3 (show x_vs τ r 1 [(3, 66, ([], ((66 : Nat) : Int))), (3, 65, ([], ((65 : Nat) : Int)))] as from hA)
  obtain ⟨b, V, rfl, hb, hA⟩ := x_t3 hA
  rw [g_nil hA]
  obtain ⟨rfl, tb⟩ := g_ref ha
  obtain ⟨rfl, ta⟩ := g_ref hb
  obtain ⟨vs, ca, l1, l2, hf, -⟩ := g_cell hH ta (show x_KL[65]? = some _ from rfl)
  obtain ⟨ws, cb, k1, k2, hg, -⟩ := g_cell hH tb (show x_KL[66]? = some _ from rfl)
  have l1 : 2517 ≤ vs.length := l1
  have l2 : vs.length ≤ 2517 := l2
  have k1 : 2517 ≤ ws.length := k1
  have k2 : ws.length ≤ 2517 := k2
  refine ⟨Nat.le_of_ble_eq_true rfl, g_copy (by decide) cb ca (by omega) (by omega) (fun j hj => g_int rfl rfl hg (by omega)) ?_⟩
  obtain ⟨i, c, e1, e2, e3, e4⟩ := (g_get hK 0 rfl).plc (by decide)
  have e1 : (i : Int) = q_e r ([], 66) := e1
  simp only [q_e, q_ev] at e1
  have : i = 66 := by omega
  subst this
  rw [if_neg (by decide)] at e4
  obtain ⟨v, e5, e6⟩ := e4
  have ec : c = (1, 0, ws) := Option.some.inj (e3.symm.trans cb)
  subst ec
  have hlen : 65 < h.length := (List.getElem?_eq_some_iff.mp ca).1
  refine ⟨τ, r, g_copy_K hH ta tb ca cb, _, List.mem_cons_self, by rw [List.length_set]; exact Nat.le_refl _, by rw [p_sl_set ca (by show ws.length = vs.length; omega)]; exact Nat.le_refl _, fun _ _ => rfl, g_F0, trivial, g_c ?_ (g_c ?_ g_n)⟩
  · refine x_m.mkp (g_wl rfl) (by decide) ⟨66, (1, 0, ws), by simp [q_e, q_ev], tb, by rw [List.getElem?_set_ne (by decide)]; exact cb, ?_⟩
    rw [if_neg (by decide)]
    exact ⟨v, e5, e6⟩
  · refine x_m.mkp (g_wl rfl) (by decide) ⟨65, (1, 0, ws), by simp [q_e, q_ev], ta, List.getElem?_set_self hlen, ?_⟩
    rw [if_neg (by decide)]
    exact ⟨v, e5, e6⟩
theorem hl_3 : x_OK p_GT p_MT x_EE cl3 := x_chk_OK x_EE_EO x_EE_KO (g_c (ho_chL0) (g_n)) (fun _ _ => g_n) clt3
theorem hl_4 : x_OK p_GT p_MT x_EE cl4 := x_chk_OK x_EE_EO x_EE_KO (g_n) (fun _ _ => g_n) clt4
theorem hl_5 : x_OK p_GT p_MT x_EE cl5 := x_chk_OK x_EE_EO x_EE_KO (g_c (hl_4) (g_c (ho_172) (g_c (ho_173) (g_c (ho_174) (g_c (ho_175) (g_c (ho_176) (g_c (ho_178) (g_n)))))))) (fun _ _ => g_n) clt5
theorem hl_6 : x_OK p_GT p_MT x_EE cl6 := x_chk_OK x_EE_EO x_EE_KO (g_c (hl_5) (g_n)) (fun _ _ => g_n) clt6
theorem ho_chL1 : x_OK p_GT p_MT x_EE chL1 := by
  refine ⟨?_, m_X12_copy, rfl⟩
  intro τ r h as M hM hH hA hF hK
  cases (show some m_X12_copy = some M from hM)
  obtain ⟨a, V, rfl, ha, hA⟩ := x_t3 (show x_vs τ r 1 [(3, 65, ([], ((65 : Nat) : Int))), (3, 66, ([], ((66 : Nat) : Int)))] as from hA)
  obtain ⟨b, V, rfl, hb, hA⟩ := x_t3 hA
  rw [g_nil hA]
  obtain ⟨rfl, ta⟩ := g_ref ha
  obtain ⟨rfl, tb⟩ := g_ref hb
  obtain ⟨vs, ca, l1, l2, hf, -⟩ := g_cell hH ta (show x_KL[65]? = some _ from rfl)
  obtain ⟨ws, cb, k1, k2, hg, -⟩ := g_cell hH tb (show x_KL[66]? = some _ from rfl)
  have l1 : 2517 ≤ vs.length := l1
  have l2 : vs.length ≤ 2517 := l2
  have k1 : 2517 ≤ ws.length := k1
  have k2 : ws.length ≤ 2517 := k2
  refine ⟨Nat.le_of_ble_eq_true rfl, g_copy (by decide) ca cb (by omega) (by omega) (fun j hj => g_int rfl rfl hf (by omega)) ?_⟩
  obtain ⟨i, c, e1, e2, e3, e4⟩ := (g_get hK 0 rfl).plc (by decide)
  have e1 : (i : Int) = q_e r ([], 65) := e1
  simp only [q_e, q_ev] at e1
  have : i = 65 := by omega
  subst this
  rw [if_neg (by decide)] at e4
  obtain ⟨v, e5, e6⟩ := e4
  have ec : c = (1, 0, vs) := Option.some.inj (e3.symm.trans ca)
  subst ec
  have hlen : 66 < h.length := (List.getElem?_eq_some_iff.mp cb).1
  refine ⟨τ, r, g_copy_J hH ta tb ca cb, _, List.mem_cons_self, by rw [List.length_set]; exact Nat.le_refl _, by rw [p_sl_set cb (by show vs.length = ws.length; omega)]; exact Nat.le_refl _, fun _ _ => rfl, g_F0, trivial, g_c ?_ (g_c ?_ g_n)⟩
  · refine x_m.mkp (g_wl rfl) (by decide) ⟨65, (1, 0, vs), by simp [q_e, q_ev], ta, by rw [List.getElem?_set_ne (by decide)]; exact ca, ?_⟩
    rw [if_neg (by decide)]
    exact ⟨v, e5, e6⟩
  · refine x_m.mkp (g_wl rfl) (by decide) ⟨66, (1, 0, vs), by simp [q_e, q_ev], tb, List.getElem?_set_self hlen, ?_⟩
    rw [if_neg (by decide)]
    exact ⟨v, e5, e6⟩
theorem hl_7 : x_OK p_GT p_MT x_EE cl7 := x_chk_OK x_EE_EO x_EE_KO (g_c (ho_chL1) (g_n)) (fun _ _ => g_n) clt7
theorem hl_8 : x_OK p_GT p_MT x_EE cl8 := x_chk_OK x_EE_EO x_EE_KO (g_n) (fun _ _ => g_n) clt8
theorem hl_9 : x_OK p_GT p_MT x_EE cl9 := x_chk_OK x_EE_EO x_EE_KO (g_n) (fun _ _ => g_n) clt9
theorem hl_10 : x_OK p_GT p_MT x_EE cl10 := x_chk_OK x_EE_EO x_EE_KO (g_n) (fun _ _ => g_n) clt10
theorem hl_11 : x_OK p_GT p_MT x_EE cl11 := x_chk_OK x_EE_EO x_EE_KO (g_c (hl_8) (g_c (hl_10) (g_c (hl_9) (g_n)))) (fun _ _ => g_n) clt11
theorem hl_12 : x_OK p_GT p_MT x_EE cl12 := x_chk_OK x_EE_EO x_EE_KO (g_n) (fun _ _ => g_n) clt12
theorem hl_13 : x_OK p_GT p_MT x_EE cl13 := x_chk_OK x_EE_EO x_EE_KO (g_c (hl_12) (g_n)) (fun _ _ => g_n) clt13
theorem lw_D : ∀ d ∈ lwD, x_OK p_GT p_MT x_EE d := g_c (ho_534) (g_c (ho_332) (g_c (ho_397) (g_c (ho_398) (g_c (ho_428) (g_c (ho_396) (g_c (hl_2) (g_c (hl_3) (g_c (hl_6) (g_c (hl_7) (g_c (ho_359) (g_c (ho_370) (g_c (ho_372) (g_c (ho_383) (g_c (ho_393) (g_c (ho_394) (g_c (ho_395) (g_c (ho_405) (g_c (ho_411) (g_c (ho_423) (g_c (ho_337) (g_c (ho_420) (g_c (ho_343) (g_c (ho_374) (g_c (ho_376) (g_c (ho_382) (g_c (ho_392) (g_c (ho_425) (g_c (ho_404) (g_c (ho_419) (g_c (hl_11) (g_c (hl_13) (g_c (ho_426) (g_c (ho_193) (g_c (ho_73) (g_c (ho_94) (g_c (ho_108) (g_c (ho_109) (g_c (ho_171) (g_c (ho_375) (g_c (ho_385) (g_c (ho_107) (g_c (ho_9) (g_c (ho_10) (g_c (ho_12) (g_c (ho_53) (g_c (ho_66) (g_c (ho_69) (g_c (ho_93) (g_c (ho_103) (g_c (ho_105) (g_c (ho_106) (g_c (ho_121) (g_c (ho_138) (g_c (ho_147) (g_c (ho_151) (g_c (ho_152) (g_c (ho_160) (g_c (ho_162) (g_c (ho_190) (g_c (ho_196) (g_c (ho_333) (g_c (ho_334) (g_c (ho_414) (g_c (ho_417) (g_c (ho_418) (g_c (ho_422) (g_c (ho_431) (g_c (ho_18) (g_c (ho_155) (g_c (ho_4) (g_c (ho_28) (g_c (ho_70) (g_c (ho_85) (g_c (ho_86) (g_c (ho_92) (g_c (ho_101) (g_c (ho_144) (g_c (ho_164) (g_c (ho_192) (g_c (ho_377) (g_c (ho_413) (g_c (ho_118) (g_c (ho_153) (g_c (ho_99) (g_c (ho_124) (g_c (ho_387) (g_c (ho_406) (g_c (ho_141) (g_c (ho_412) (g_c (ho_167) (g_c (ho_8) (g_c (ho_195) (g_c (ho_5) (g_n))))))))))))))))))))))))))))))))))))))))))))))))))))))))))))))))))))))))))))))))))))))))))))))
theorem lw_U : ∀ T ∈ lwU, x_wU 0 T = true := List.all_eq_true.mp (show lwU.all (x_wU 0) = true by decide +kernel)
set_option maxRecDepth 100000 in
theorem lw_Y : ∀ q ∈ lwY.2, ∀ d ∈ q.2.2.2, x_HoldR p_GT p_MT x_EE m_L_law q.1 q.2.2.1 d := g_c (g_c (hr_script rfl) (g_n)) (g_c (g_c (hr_script rfl) (g_n)) (g_c (g_c (hr_scriptK rfl) (g_n)) (g_c (g_c (hr_scriptK rfl) (g_n)) (g_n))))
theorem lw_G : ∀ T ∈ lwU, x_ex x_KL p_GT p_MT m_L_law lwD lwC lwU lwY (some T.2.2.2.2.2.2.2) 20000 true (T.1, x_hd T) = true := g_c (lw_0) (g_c (lw_1) (g_c (lw_2) (g_c (lw_3) (g_c (lw_4) (g_c (lw_5) (g_c (lw_6) (g_c (lw_7) (g_c (lw_8) (g_c (lw_9) (g_c (lw_10) (g_c (lw_11) (g_c (lw_12) (g_c (lw_13) (g_c (lw_14) (g_c (lw_15) (g_c (lw_16) (g_c (lw_17) (g_c (lw_18) (g_c (lw_19) (g_c (lw_20) (g_c (lw_21) (g_c (lw_22) (g_c (lw_23) (g_c (lw_24) (g_c (lw_25) (g_c (lw_26) (g_c (lw_27) (g_c (lw_28) (g_c (lw_29) (g_c (lw_30) (g_c (lw_31) (g_c (lw_32) (g_c (lw_33) (g_c (lw_34) (g_c (lw_35) (g_c (lw_36) (g_c (lw_37) (g_c (lw_38) (g_c (lw_39) (g_c (lw_40) (g_c (lw_41) (g_c (lw_42) (g_c (lw_43) (g_c (lw_44) (g_c (lw_45) (g_c (lw_46) (g_c (lw_47) (g_n))))))))))))))))))))))))))))))))))))))))))))))))

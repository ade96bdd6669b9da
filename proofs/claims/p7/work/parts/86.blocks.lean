/-! across, blocks, leftOf, upperOf by hand -/
section GBL
variable {τ : Nat → Option Nat} {r : Nat → Int} {h : p_H} {P : List p_P} {pc : Nat} {ls : p_Ls} {st : List Value}
theorem g_vir {X m a ci : Nat} {n : Int} {as vs : List Value} {M' : p_M} (hp12 : p_pk X 12 P = none) (hp : p_pk X 9 P = some (m, n)) (hl : n.toNat ≤ st.length ∧ p_cat (st.drop n.toNat) ≤ p_bd 9) (has : (st.take n.toNat).reverse = .ref a :: as) (hM : p_MT[m]? = some M') (hc : h[a]? = some (0, ci, vs)) (hh : M'.2.2.2.2.2.2.2 = ci) : p_vir p_MT P X pc ls st h = some (.inr (.inr (m, .ref a :: as, st.drop n.toNat))) := by
  simp only [p_vir, hp12, p_invv, p_inv, hp, if_pos hl, has, hM, hc, hh, Nat.beq_refl, if_true]
theorem g_mul {a b : Nat} : Int32.ofNat a * Int32.ofNat b = Int32.ofNat (a * b) := by rw [Int32.ofNat_mul]
theorem g_f64 (hH : x_H x_EE τ h) (ht : τ 64 = some 64) : ∃ vs, h[64]? = some (0, 12, vs) ∧ vs.length = 31 ∧ (∀ j v, vs[j]? = some v → x_fo τ ((match x_KL[64]? with | some K => K | none => (0, 0, [], [], [], [], 0, 0)).2.2.1.getD j (0, 0, 0, 0)) v) := by
  obtain ⟨vs, hc, l1, l2, hf, -⟩ := g_cell hH ht (show x_KL[64]? = some _ from rfl)
  have l1 : 31 ≤ vs.length := l1
  have l2 : vs.length ≤ 31 := l2
  exact ⟨vs, hc, by omega, hf⟩
/-- a field that is an array with a kind of its own -/
theorem g_f64a (hH : x_H x_EE τ h) (ht : τ 64 = some 64) : ∃ vs, h[64]? = some (0, 12, vs) ∧ vs[0]? = some (.ref 65) ∧ vs[2]? = some (.ref 67) ∧ τ 65 = some 65 ∧ τ 67 = some 67 := by
  obtain ⟨vs, hc, hl, hf⟩ := g_f64 hH ht
  obtain ⟨a, e1, e2, e3⟩ := hf 0 _ (List.getElem?_eq_getElem (show 0 < vs.length by omega))
  obtain ⟨b, f1, f2, f3⟩ := hf 2 _ (List.getElem?_eq_getElem (show 2 < vs.length by omega))
  have e3 : (a : Int) = 65 := e3 (by decide)
  have f3 : (b : Int) = 67 := f3 (by decide)
  have ea : a = 65 := Int.ofNat_inj.mp (show ((a : Nat) : Int) = ((65 : Nat) : Int) from e3)
  have eb : b = 67 := Int.ofNat_inj.mp (show ((b : Nat) : Int) = ((67 : Nat) : Int) from f3)
  subst ea; subst eb
  exact ⟨vs, hc, by rw [List.getElem?_eq_getElem (show 0 < vs.length by omega), e1], by rw [List.getElem?_eq_getElem (show 2 < vs.length by omega), f1], e2, f2⟩
theorem g_lk65_0 : g_lk 0 65 14 = true ∧ g_lk 0 65 15 = true := ⟨rfl, rfl⟩
theorem g_cuts (hH : x_H x_EE τ h) (ht : τ 65 = some 65) : ∃ ws, h[65]? = some (1, 0, ws) ∧ ∃ u v : Nat, u < 128 ∧ v < 128 ∧ ws[14]? = some (.int (Int32.ofNat u)) ∧ ws[15]? = some (.int (Int32.ofNat v)) ∧ g_ms 0 h 65 14 = u ∧ g_ms 0 h 65 15 = v := by
  obtain ⟨ws, hc, l1, l2, hf, -⟩ := g_cell hH ht (show x_KL[65]? = some _ from rfl)
  have l1 : 2517 ≤ ws.length := l1
  have g : ∀ j, j = 14 ∨ j = 15 → ∃ u : Nat, u < 128 ∧ ws[j]? = some (.int (Int32.ofNat u)) ∧ g_ms 0 h 65 j = u := by
    intro j hj
    have hlt : j < ws.length := by omega
    have hq := hf j _ (List.getElem?_eq_getElem hlt)
    have : ∃ y : Int32, ws[j] = .int y ∧ 0 ≤ y.toInt ∧ y.toInt ≤ 127 := by
      rcases hj with rfl | rfl
      · exact hq
      · exact hq
    obtain ⟨y, e1, e2, e3⟩ := this
    have ey : y = Int32.ofNat y.toInt.toNat := g_i32 (by omega) (by omega)
    refine ⟨y.toInt.toNat, by omega, by rw [List.getElem?_eq_getElem hlt, e1, ← ey], ?_⟩
    rw [g_ms_at (by rcases hj with rfl | rfl <;> rfl), g_vs_at hc]
    rw [show g_at _ j = y.toInt from g_at_int (by rw [List.getElem?_eq_getElem hlt, e1])]
    omega
  obtain ⟨u, a1, a2, a3⟩ := g 14 (Or.inl rfl)
  obtain ⟨v, b1, b2, b3⟩ := g 15 (Or.inr rfl)
  exact ⟨ws, hc, u, v, a1, b1, a2, b2, a3, b3⟩
theorem g_ld65 {G : p_G} {MT : List p_M} {d : Nat} {M : p_M} {Q : Option Value → p_H → Prop} {ws : List Value} {y : Int32} {x : Int32} (hat : p_at pc M.2.2.2.2.1 = some (.iaload, 1)) (hc : h[65]? = some (1, 0, ws)) (hx : ¬ x < 0) (hv : ws[x.toNatClampNeg]? = some (.int y)) (hk : p_wp G MT d M (pc + 1) ls (.int y :: st) h Q) : p_wp G MT d M pc ls (.int x :: .ref 65 :: st) h Q := g_load hat hc hx hv hk
theorem g_cb7 : ∀ n, n < 128 → g_cb n 12 ≤ 7 := by decide +kernel
theorem g_across {d u : Nat} {vs ws : List Value} (hc : h[64]? = some (0, 12, vs)) (h0 : vs[0]? = some (.ref 65)) (hw : h[65]? = some (1, 0, ws)) (hu : u < 128) (h14 : ws[14]? = some (.int (Int32.ofNat u))) : p_wp p_GT p_MT (d + 1) m_X12_across 0 (lv_args 0 [.ref 64]) [] h (fun v h2 => v = some (.int (Int32.ofNat (g_cb u 12 + 1))) ∧ h2 = h) := by
  refine w_aload_n rfl rfl (w_getf rfl rfl hc h0 (w_bipush rfl (g_load rfl hw (by decide) h14 (w_static (nn := 0) (M' := m_X12_bits) rfl rfl rfl rfl (Nat.le_refl _) (g_bits hu) ?_))))
  rintro v h2 ⟨rfl, rfl⟩
  have := g_cb7 u hu
  refine w_iconst rfl (w_iadd rfl (w_ireturn rfl rfl ⟨?_, rfl⟩))
  rw [show Int32.ofInt 1 = Int32.ofNat 1 from rfl, g_add (by omega)]
theorem g_blocks {d u v : Nat} {vs ws : List Value} (hc : h[64]? = some (0, 12, vs)) (h0 : vs[0]? = some (.ref 65)) (hw : h[65]? = some (1, 0, ws)) (hu : u < 128) (hv : v < 128) (h14 : ws[14]? = some (.int (Int32.ofNat u))) (h15 : ws[15]? = some (.int (Int32.ofNat v))) : p_wp p_GT p_MT (d + 2) m_X12_blocks 0 (lv_args 0 [.ref 64]) [] h (fun a h2 => a = some (.int (Int32.ofNat ((g_cb u 12 + 1) * (g_cb v 12 + 1)))) ∧ h2 = h) := by
  refine w_aload_n rfl rfl (w_virtual (M' := m_X12_across) rfl (g_vir (n := 1) rfl rfl (by decide) rfl rfl hc rfl) rfl rfl (Nat.le_refl _) (g_across hc h0 hw hu h14) ?_)
  rintro a h2 ⟨rfl, rfl⟩
  refine w_aload_n rfl rfl (w_getf rfl rfl hc h0 (w_bipush rfl (g_load rfl hw (by decide) h15 (w_static (nn := 0) (dc := d + 1) (M' := m_X12_bits) rfl rfl rfl rfl (Nat.le_refl _) (g_bits hv) ?_))))
  rintro a h2 ⟨rfl, rfl⟩
  have := g_cb7 v hv
  refine w_iconst rfl (w_iadd rfl (w_imul rfl (w_ireturn rfl rfl ⟨?_, rfl⟩)))
  rw [show Int32.ofInt 1 = Int32.ofNat 1 from rfl, g_add (by omega), g_mul]
theorem g_rem1 : ∀ b, b < 64 → ∀ k, k < 8 → Int32.ofNat b - Int32.ofNat b / Int32.ofNat (k + 1) * Int32.ofNat (k + 1) = Int32.ofNat (b % (k + 1)) := by decide +kernel
theorem g_div1 : ∀ b, b < 64 → ∀ k, k < 8 → Int32.ofNat b / Int32.ofNat (k + 1) = Int32.ofNat (b / (k + 1)) := by decide +kernel
theorem g_ne1 : ∀ k, k < 8 → ¬ Int32.ofNat (k + 1) = 0 := by decide +kernel
theorem g_leftOf {d u b : Nat} {vs ws : List Value} (hc : h[64]? = some (0, 12, vs)) (h0 : vs[0]? = some (.ref 65)) (hw : h[65]? = some (1, 0, ws)) (hu : u < 128) (h14 : ws[14]? = some (.int (Int32.ofNat u))) (hb : b < 64) : p_wp p_GT p_MT (d + 3) m_X12_leftOf 0 (lv_args 0 [.ref 64, .int (Int32.ofNat b)]) [] h (fun a h2 => (∃ i, i < 8 ∧ a = some (.int (Int32.ofNat i))) ∧ h2 = h) := by
  refine w_aload_n rfl rfl (w_getf rfl rfl hc h0 (w_bipush rfl (g_load rfl hw (by decide) h14 (w_iload_n rfl rfl (w_aload_n rfl rfl (w_virtual (dc := d + 1) (M' := m_X12_across) rfl (g_vir (n := 1) rfl rfl (by simp [p_cat, p_bd, Value.category]) rfl rfl hc rfl) rfl rfl (by omega) (g_across hc h0 hw hu h14) ?_))))))
  rintro a h2 ⟨rfl, rfl⟩
  have h7 := g_cb7 u hu
  refine w_irem rfl (g_ne1 _ (by omega)) ?_
  rw [g_rem1 b hb _ (by omega)]
  refine w_static (nn := 0) (dc := d + 2) (M' := m_X12_beginOf) rfl rfl rfl rfl (by omega) (g_beginOf hu ?_) ?_
  · have := Nat.mod_lt b (show 0 < g_cb u 12 + 1 by omega); omega
  · rintro a h2 ⟨⟨i, hi, rfl⟩, rfl⟩
    exact w_ireturn rfl rfl ⟨⟨i, hi, rfl⟩, rfl⟩
theorem g_upperOf {d u v b : Nat} {vs ws : List Value} (hc : h[64]? = some (0, 12, vs)) (h0 : vs[0]? = some (.ref 65)) (hw : h[65]? = some (1, 0, ws)) (hu : u < 128) (hv : v < 128) (h14 : ws[14]? = some (.int (Int32.ofNat u))) (h15 : ws[15]? = some (.int (Int32.ofNat v))) (hb : b < 64) (hb2 : b < (g_cb u 12 + 1) * (g_cb v 12 + 1)) : p_wp p_GT p_MT (d + 3) m_X12_upperOf 0 (lv_args 0 [.ref 64, .int (Int32.ofNat b)]) [] h (fun a h2 => (∃ i, i < 8 ∧ a = some (.int (Int32.ofNat i))) ∧ h2 = h) := by
  refine w_aload_n rfl rfl (w_getf rfl rfl hc h0 (w_bipush rfl (g_load rfl hw (by decide) h15 (w_iload_n rfl rfl (w_aload_n rfl rfl (w_virtual (dc := d + 1) (M' := m_X12_across) rfl (g_vir (n := 1) rfl rfl (by simp [p_cat, p_bd, Value.category]) rfl rfl hc rfl) rfl rfl (by omega) (g_across hc h0 hw hu h14) ?_))))))
  rintro a h2 ⟨rfl, rfl⟩
  have h7 := g_cb7 u hu
  refine w_idiv rfl (g_ne1 _ (by omega)) ?_
  rw [g_div1 b hb _ (by omega)]
  refine w_static (nn := 0) (dc := d + 2) (M' := m_X12_beginOf) rfl rfl rfl rfl (by omega) (g_beginOf hv ?_) ?_
  · have := Nat.div_lt_of_lt_mul hb2; omega
  · rintro a h2 ⟨⟨i, hi, rfl⟩, rfl⟩
    exact w_ireturn rfl rfl ⟨⟨i, hi, rfl⟩, rfl⟩
theorem g_gb {u v : Nat} (h1 : g_ms 0 h 65 14 = u) (h2 : g_ms 0 h 65 15 = v) (p : Int) : g_gh 0 (g_ms 0 h) p = (((g_cb u 12 + 1) * (g_cb v 12 + 1) : Nat) : Int) := by
  show (((g_pc (g_ms 0 h 65 14) + 1) * (g_pc (g_ms 0 h 65 15) + 1) : Nat) : Int) = _
  rw [h1, h2, ← g_cb_pc, ← g_cb_pc]
end GBL
theorem ho_ch8 : x_OK p_GT p_MT x_EE ch8 := by
  refine ⟨?_, m_X12_bits, rfl⟩
  intro τ r h as M hM hH hA hF hK
  cases (show some m_X12_bits = some M from hM)
  obtain ⟨x, V, rfl, -, hx, hA⟩ := x_t1 (show x_vs τ r 1 [(1, 0, ([(0, 1)], 0))] as from hA)
  rw [g_nil hA]
  rw [g_v] at hx
  have h0 : 0 ≤ r 0 ∧ r 0 ≤ 127 := g_get hF.1 0 rfl
  obtain ⟨n, hn⟩ : ∃ n : Nat, r 0 = n := ⟨(r 0).toNat, by omega⟩
  rw [hn] at hx
  have ex := g_i32 hx (by omega)
  subst ex
  refine ⟨Nat.le_of_ble_eq_true rfl, (g_bits (by omega)).mono (Nat.zero_le _) ?_⟩
  rintro v h2 ⟨rfl, rfl⟩
  have h7 := g_cb7 n (by omega)
  exact ⟨τ, x_up r 1 (g_cb n 12), g_J0 hH _, _, List.mem_cons_self, Nat.le_refl _, Nat.le_refl _, fun i hi => x_up_lt i hi, ⟨g_io (by rw [x_up_at]; omega) g_io0, g_n, g_n⟩, ⟨g_wl rfl, _, rfl, by rw [g_v, x_up_at, g_ofNat (by omega)]⟩, g_n⟩
theorem ho_ch7 : x_OK p_GT p_MT x_EE ch7 := by
  refine ⟨?_, m_X12_blocks, rfl⟩
  intro τ r h as M hM hH hA hF hK
  cases (show some m_X12_blocks = some M from hM)
  obtain ⟨a, V, rfl, ha, hA⟩ := x_t3 (show x_vs τ r 0 [(3, 64, ([], ((64 : Nat) : Int)))] as from hA)
  rw [g_nil hA]
  obtain ⟨rfl, ht⟩ := g_ref ha
  have h80 := g_80 (g_get hK 0 rfl)
  obtain ⟨vs, hc, f0, f2, t65, t67⟩ := g_f64a hH ht
  obtain ⟨ws, hw, u, v, hu, hv, h14, h15, q1, q2⟩ := g_cuts hH t65
  refine ⟨Nat.le_of_ble_eq_true rfl, (g_blocks (d := 0) hc f0 hw hu hv h14 h15).mono (Nat.le_refl _) ?_⟩
  rintro a h2 ⟨rfl, rfl⟩
  have b1 := g_cb7 u hu
  have b2 := g_cb7 v hv
  have hb : 1 ≤ (g_cb u 12 + 1) * (g_cb v 12 + 1) ∧ (g_cb u 12 + 1) * (g_cb v 12 + 1) ≤ 64 := ⟨Nat.mul_pos (by omega) (by omega), Nat.mul_le_mul (show g_cb u 12 + 1 ≤ 8 by omega) (show g_cb v 12 + 1 ≤ 8 by omega)⟩
  refine ⟨τ, x_up r 0 (((g_cb u 12 + 1) * (g_cb v 12 + 1) : Nat) : Int), g_J0 hH _, _, List.mem_cons_self, Nat.le_refl _, Nat.le_refl _, fun i hi => x_up_lt i hi, ⟨g_io (by rw [x_up_at]; omega) g_io0, g_n, g_n⟩, ⟨g_wl rfl, _, rfl, by rw [g_v, x_up_at, g_ofNat (by omega)]⟩, g_c (g_mk 0 rfl (g_wl rfl) (g_wl rfl) rfl h80 ?_) g_n⟩
  rw [g_gb q1 q2]
  show _ = q_e _ ([(0, 1)], 0)
  rw [g_v, x_up_at]
theorem ho_ch12 : x_OK p_GT p_MT x_EE ch12 := by
  refine ⟨?_, m_X12_blocks, rfl⟩
  intro τ r h as M hM hH hA hF hK
  cases (show some m_X12_blocks = some M from hM)
  obtain ⟨a, V, rfl, ha, hA⟩ := x_t3 (show x_vs τ r 1 [(3, 64, ([], ((64 : Nat) : Int)))] as from hA)
  rw [g_nil hA]
  obtain ⟨rfl, ht⟩ := g_ref ha
  obtain ⟨h80, gb⟩ := g_gho (g_get hK 0 rfl) 0 rfl
  obtain ⟨vs, hc, f0, f2, t65, t67⟩ := g_f64a hH ht
  obtain ⟨ws, hw, u, v, hu, hv, h14, h15, q1, q2⟩ := g_cuts hH t65
  rw [g_gb q1 q2] at gb
  have gb : (((g_cb u 12 + 1) * (g_cb v 12 + 1) : Nat) : Int) = r 0 := by rw [gb]; exact g_v r 0
  refine ⟨Nat.le_of_ble_eq_true rfl, (g_blocks (d := 0) hc f0 hw hu hv h14 h15).mono (Nat.le_refl _) ?_⟩
  rintro a h2 ⟨rfl, rfl⟩
  have h0 : 1 ≤ r 0 ∧ r 0 ≤ 64 := g_get hF.1 0 rfl
  exact ⟨τ, r, g_J0 hH _, _, List.mem_cons_self, Nat.le_refl _, Nat.le_refl _, fun _ _ => rfl, g_F0, ⟨g_wl rfl, _, rfl, by rw [g_v, g_ofNat (by omega)]; exact gb⟩, g_c (g_get hK 0 rfl) g_n⟩
theorem ho_ch9 : x_OK p_GT p_MT x_EE ch9 := by
  refine ⟨?_, m_X12_leftOf, rfl⟩
  intro τ r h as M hM hH hA hF hK
  cases (show some m_X12_leftOf = some M from hM)
  obtain ⟨a, V, rfl, ha, hA⟩ := x_t3 (show x_vs τ r 2 [(3, 64, ([], ((64 : Nat) : Int))), (1, 0, ([(0, 1)], 0))] as from hA)
  obtain ⟨x, V', rfl, -, hx, hA⟩ := x_t1 hA
  rw [g_nil hA]
  obtain ⟨rfl, ht⟩ := g_ref ha
  rw [g_v] at hx
  obtain ⟨vs, hc, f0, f2, t65, t67⟩ := g_f64a hH ht
  obtain ⟨ws, hw, u, v, hu, hv, h14, h15, q1, q2⟩ := g_cuts hH t65
  have h0 : 0 ≤ r 0 ∧ r 0 ≤ 63 := g_get hF.1 0 rfl
  obtain ⟨n, hn⟩ : ∃ n : Nat, r 0 = n := ⟨(r 0).toNat, by omega⟩
  rw [hn] at hx
  have ex := g_i32 hx (by omega)
  subst ex
  refine ⟨Nat.le_of_ble_eq_true rfl, (g_leftOf (d := 0) hc f0 hw hu h14 (by omega)).mono (by decide) ?_⟩
  rintro a h2 ⟨⟨i, hi, rfl⟩, rfl⟩
  exact ⟨τ, x_up r 2 i, g_J0 hH _, _, List.mem_cons_self, Nat.le_refl _, Nat.le_refl _, fun i hi => x_up_lt i hi, ⟨g_io (by rw [x_up_at]; omega) g_io0, g_n, g_n⟩, ⟨g_wl rfl, _, rfl, by rw [g_v, x_up_at, g_ofNat (by omega)]⟩, g_n⟩
theorem ho_ch10 : x_OK p_GT p_MT x_EE ch10 := by
  refine ⟨?_, m_X12_upperOf, rfl⟩
  intro τ r h as M hM hH hA hF hK
  cases (show some m_X12_upperOf = some M from hM)
  obtain ⟨a, V, rfl, ha, hA⟩ := x_t3 (show x_vs τ r 2 [(3, 64, ([], ((64 : Nat) : Int))), (1, 0, ([(0, 1)], 0))] as from hA)
  obtain ⟨x, V', rfl, -, hx, hA⟩ := x_t1 hA
  rw [g_nil hA]
  obtain ⟨rfl, ht⟩ := g_ref ha
  rw [g_v] at hx
  obtain ⟨vs, hc, f0, f2, t65, t67⟩ := g_f64a hH ht
  obtain ⟨ws, hw, u, v, hu, hv, h14, h15, q1, q2⟩ := g_cuts hH t65
  obtain ⟨h80, gb⟩ := g_gho (g_get hK 0 rfl) 0 rfl
  rw [g_gb q1 q2] at gb
  have gb : (((g_cb u 12 + 1) * (g_cb v 12 + 1) : Nat) : Int) = r 1 := by rw [gb]; exact g_v r 1
  have f1 : 0 ≤ q_e r ([(0, -1), (1, 1)], -1) := g_get hF.2.1 0 rfl
  simp only [q_e, q_ev] at f1
  have h0 : 0 ≤ r 0 ∧ r 0 ≤ 63 := g_get hF.1 0 rfl
  obtain ⟨n, hn⟩ : ∃ n : Nat, r 0 = n := ⟨(r 0).toNat, by omega⟩
  rw [hn] at hx
  have ex := g_i32 hx (by omega)
  subst ex
  refine ⟨Nat.le_of_ble_eq_true rfl, (g_upperOf (d := 0) hc f0 hw hu hv h14 h15 (by omega) (by omega)).mono (by decide) ?_⟩
  rintro a h2 ⟨⟨i, hi, rfl⟩, rfl⟩
  exact ⟨τ, x_up r 2 i, g_J0 hH _, _, List.mem_cons_self, Nat.le_refl _, Nat.le_refl _, fun i hi => x_up_lt i hi, ⟨g_io (by rw [x_up_at]; omega) g_io0, g_n, g_n⟩, ⟨g_wl rfl, _, rfl, by rw [g_v, x_up_at, g_ofNat (by omega)]⟩, g_n⟩

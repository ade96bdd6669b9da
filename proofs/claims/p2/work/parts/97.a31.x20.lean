section X20
variable {s s1 s' : d_S} {t : Nat → Option p_C} {h : p_H} {d : Nat} {M : p_M} {pc l : Nat} {ls : p_Ls} {st : List Value} {Q : Option Value → p_H → Prop} {x : Int}
theorem y_ret (hat : p_at pc M.2.2.2.2.1 = some (.ireturn, l)) (hr : M.2.2.2.1 = some .boolean) (hx : x = 0 ∨ x = 1) (hQ : Q (some (.int (Int32.ofInt x))) h) : p_wp p_GT p_MT d M pc ls [.int (Int32.ofInt x)] h Q :=
  p_wp.ret hat (by simp only [p_step, p_ret, hr]; exact if_pos (d_nar hx)) hQ
theorem y_retI (hat : p_at pc M.2.2.2.2.1 = some (.ireturn, l)) (hr : M.2.2.2.1 = some .int) (hQ : Q (some (.int (Int32.ofInt x))) h) : p_wp p_GT p_MT d M pc ls [.int (Int32.ofInt x)] h Q :=
  p_wp.ret hat (by simp only [p_step, p_ret, hr]; exact if_pos rfl) hQ
theorem y_static {X m dc : Nat} {as rest : List Value} {M' : p_M} {Q1 : Option Value → p_H → Prop} (hat : p_at pc M.2.2.2.2.1 = some (.invokestatic X, l)) (hs : p_invs M.2.2.2.2.2.1 X (pc + 3) ls st h = some (.inr (.inr (m, as, rest)))) (hM : p_MT[m]? = some M') (hc : Nat.ble (p_cat as) M'.2.2.1 = true) (hd : dc + 1 ≤ d) (h1 : p_wp p_GT p_MT dc M' 0 (lv_args 0 as) [] h Q1) (hk : ∀ v h', Q1 v h' → p_wp p_GT p_MT d M (pc + 3) ls (v.toList ++ rest) h' Q) : p_wp p_GT p_MT d M pc ls st h Q :=
  p_wp.call hat (by simp only [p_step]; exact hs) hM (Nat.le_of_ble_eq_true hc) hd h1 hk
theorem y_virt {X m dc : Nat} {as rest : List Value} {M' : p_M} {Q1 : Option Value → p_H → Prop} (hat : p_at pc M.2.2.2.2.1 = some (.invokevirtual X, l)) (hs : p_vir p_MT M.2.2.2.2.2.1 X (pc + 3) ls st h = some (.inr (.inr (m, as, rest)))) (hM : p_MT[m]? = some M') (hc : Nat.ble (p_cat as) M'.2.2.1 = true) (hd : dc + 1 ≤ d) (h1 : p_wp p_GT p_MT dc M' 0 (lv_args 0 as) [] h Q1) (hk : ∀ v h', Q1 v h' → p_wp p_GT p_MT d M (pc + 3) ls (v.toList ++ rest) h' Q) : p_wp p_GT p_MT d M pc ls st h Q :=
  p_wp.call hat (by simp only [p_step]; exact hs) hM (Nat.le_of_ble_eq_true hc) hd h1 hk
theorem y_po {X k : Nat} {f : Int} {e : Option Nat} (hat : p_at pc M.2.2.2.2.1 = some (.putfield X, l)) (hp : p_pk X 0 M.2.2.2.2.2.1 = some (3, f)) (hf : f.toNat = k) (hG : (p_GT[3]?).bind (fun r => r[f.toNat]?) = some (.array .int, false)) (hH : d_V t h s) (hc : d_ck 43 3 k 4 = true) (hk : ∀ h', d_V t h' (d_sp s 43 k e) → p_wp p_GT p_MT d M (pc + 3) ls st h' Q) : p_wp p_GT p_MT d M pc ls (d_pv e :: .ref 43 :: st) h Q :=
  dw_put (s' := d_sp s 43 k e) hat hp hf hG (by cases e <;> rfl) hH hc hH.1 (fun b j hb => d_sp_o hb) (by simp only [d_pl]; rw [d_sp_t]) (fun x h1 h2 => absurd h1 (by decide)) (fun h hV => hk h hV)
end X20
def k_q (L : List Nat) (s s' : d_S) : Prop := (∀ k, k ∉ L → s'.1 43 k = s.1 43 k) ∧ (∀ a, a ≠ 43 → a ≠ 46 → s'.1 a = s.1 a) ∧ (∀ a, a ≠ 43 → s'.2.1 a = s.2.1 a) ∧ s'.2.2 = s.2.2
def k_Lq : List Nat := [2, 3, 4, 5, 6, 7, 15, 16, 17]
section Y20
variable {s s1 s' : d_S} {t : Nat → Option p_C} {h : p_H} {b : Nat → Nat} {n p w : Nat}
theorem k_q.rf {L : List Nat} : k_q L s s := ⟨fun _ _ => rfl, fun _ _ _ => rfl, fun _ _ => rfl, rfl⟩
theorem k_q.tr {L : List Nat} (h : k_q L s s1) (h' : k_q L s1 s') : k_q L s s' := ⟨fun a z => (h'.1 a z).trans (h.1 a z), fun a y z => (h'.2.1 a y z).trans (h.2.1 a y z), fun a z => (h'.2.2.1 a z).trans (h.2.2.1 a z), h'.2.2.2.trans h.2.2.2⟩
theorem k_h.q {L M : List Nat} (h : k_h L s s1) (hm : ∀ a, a ∈ L → a ∈ M) : k_q M s s1 := ⟨fun k z => h.1 k (fun y => z (hm k y)), h.2.1, fun a _ => by rw [h.2.2], by rw [h.2.2]⟩
theorem k_q.si {L : List Nat} {k : Nat} {y : Int} (h : k ∈ L) : k_q L s (d_si s 43 k y) := (k_f.si (L := L) h).h.q (fun _ q => q)
theorem k_q.sp {L : List Nat} {k : Nat} {e : Option Nat} : k_q L s (d_sp s 43 k e) := ⟨fun _ _ => rfl, fun _ _ _ => rfl, fun a z => d_u_n z, rfl⟩
theorem k_q.T {L : List Nat} (h : k_T b n p s) (h' : k_q L s s') (h1 : 1 ∉ L ∧ 4 ∉ L ∧ 5 ∉ L ∧ 6 ∉ L ∧ 7 ∉ L) : k_T b n p s' := by
  obtain ⟨⟨a1, a2, a3, a0⟩, ⟨a4, a5, a6⟩, a7⟩ := h
  refine ⟨⟨by rw [h'.1 1 h1.1]; exact a1, a2, fun i hi => by rw [h'.2.1 44 (by decide) (by decide)]; exact a3 i hi, a0⟩, ⟨by rw [h'.1 4 h1.2.1]; exact a4, by rw [h'.1 5 h1.2.2.1]; exact a5, by rw [h'.1 6 h1.2.2.2.1]; exact a6⟩, ?_⟩
  rw [h'.1 7 h1.2.2.2.2]
  exact a7
theorem H_readLaw (hw : w < 3) (hW : k_wds t) (hH : d_V t h s) (hT : k_T b n p s) (h17 : s.1 43 17 = 0) (hp : p ≤ n) (hp1 : 1 ≤ p) : p_wp p_GT p_MT 38 m_X3_readLaw 0 (lv_args 0 [.ref 43, .int (Int32.ofInt (w : Int))]) [] h (fun v h2 => ∃ t2 s2, v = some (.int (Int32.ofInt (v_b ((t_P b n (Nat.beq w 1) 4000 2 0 0 p).1 = 0)))) ∧ d_V t2 h2 s2 ∧ v_tle t t2 ∧ k_q k_Lq s s2 ∧ h2.length ≤ h.length + 1 ∧ p_sl h2 ≤ p_sl h + 600 ∧ ((t_P b n (Nat.beq w 1) 4000 2 0 0 p).1 ≠ 0 → s2.1 43 2 = ((t_P b n (Nat.beq w 1) 4000 2 0 0 p).1 : Int) ∧ s2.1 43 3 = ((t_P b n (Nat.beq w 1) 4000 2 0 0 p).2 : Int)) ∧ ((t_P b n (Nat.beq w 1) 4000 2 0 0 p).1 = 0 → k_T b n (t_P b n (Nat.beq w 1) 4000 2 0 0 p).2 s2 ∧ s2.1 43 2 = s.1 43 2 ∧ s2.1 43 3 = s.1 43 3 ∧ s2.1 43 17 = 0 ∧ s2.2.1 43 = d_u (s.2.1 43) (11 + w) (some h.length) ∧ ∃ C len, m_C t2 h.length C len ∧ ∀ ν, t_bn ν → c_Sg ν C 0 len (t_V b n (Nat.beq w 1) ν 4000 2 0 0 p 0) 19)) := by
  have hn := hT.1.2.1
  have h80 := y_80 hH
  obtain ⟨s1, hs1⟩ : ∃ z, z = d_si s 43 16 (w : Int) := ⟨_, rfl⟩
  obtain ⟨s2, hs2⟩ : ∃ z, z = d_si s1 43 15 0 := ⟨_, rfl⟩
  have q2 : k_q k_Lq s s2 := by rw [hs2, hs1]; exact (k_q.si (by decide)).tr (k_q.si (by decide))
  have e2 : ∀ k, k ≠ 15 → k ≠ 16 → s2.1 43 k = s.1 43 k := fun k z1 z2 => by rw [hs2, d_si_i, d_u_n z1, hs1, d_si_i, d_u_n z2]
  have f2 : k_f [15, 16] s s2 := by rw [hs2, hs1]; exact (k_f.si (by decide)).tr (k_f.si (by decide))
  have hS2 : k_S b n p 0 (fun _ => (0, 0)) w false s2 := by
    refine ⟨hT.f f2 (by decide), ⟨by rw [hs2, d_si_i, d_u_t]; rfl, by rw [hs2, d_si_i, d_u_n (by decide), hs1, d_si_i, d_u_t], by rw [e2 17 (by decide) (by decide)]; exact h17⟩, by decide, fun k hk => absurd hk (Nat.not_lt_zero k)⟩
  obtain ⟨r, hr⟩ : ∃ z, z = t_P b n (Nat.beq w 1) 4000 2 0 0 p := ⟨_, rfl⟩
  obtain ⟨s3, c1, c2⟩ := (k_BB_ok (b := b) (n := n) (so := w) hW 4000).2.2.1 35 0 0 p 0 false (fun _ => (0, 0)) s2 r hr.symm (by omega) hp (by decide) rfl (by omega) (by decide) hS2
  generalize hVV : (fun ν => t_V b n (Nat.beq w 1) ν 4000 2 0 0 p 0) = VV
  have hVe : ∀ ν, t_V b n (Nat.beq w 1) ν 4000 2 0 0 p 0 = VV ν := fun ν => by rw [← hVV]
  have c2' : r.1 = 0 → ∃ (u2 : Nat) (C2 : Nat → Nat × Nat), u2 + 2 * p ≤ 0 + 2 * r.2 ∧ k_S b n r.2 u2 C2 w false s3 ∧ (∀ ν, c_Sg ν C2 0 u2 (VV ν) 19) ∧ k_h k_Lw s2 s3 := by
    intro z
    obtain ⟨u2, C2, g1, g2, g3, g4, -⟩ := c2.1 z
    refine ⟨u2, C2, g1, g2, fun ν => ?_, g4⟩
    rw [← hVe ν]
    exact g3.2.2 ν
  have c2n := c2.2
  clear c2
  rw [← hr]
  have hF : d_l (d_si s 43 16 (w : Int)) (fun s1 => d_l (d_si s1 43 15 0) (fun s2 => d_b2 ((k_F t 35).1 s2 0) (fun v s3 => some (v, s3)))) = some (v_b (r.1 = 0), s3) := by
    rw [d_l_t, ← hs1, d_l_t, ← hs2, show (k_F t 35).1 s2 0 = some (v_b (r.1 = 0), s3) from c1, d_b2_t]
  simp only [hVe]
  refine dw_aln (a := 43) rfl rfl (dw_iln (x := (w : Int)) rfl rfl (dw_pi (k := 16) rfl rfl rfl rfl hH d_c43_16 ⟨by omega, by omega⟩ (by decide) hF (fun s1' h1 hH1 hF => ?_)))
  refine dw_aln (a := 43) rfl rfl (dw_ic rfl (dw_pi (k := 15) rfl rfl rfl rfl hH1 d_c43_15 (d_rl rfl) (by decide) hF (fun s2' h2 hH2 hF => ?_)))
  refine dw_aln (a := 43) rfl rfl (dw_ic rfl (dw_vC hF rfl (d_vir (n := 2) rfl rfl rfl rfl rfl hH2 d_c43_0 rfl) rfl rfl rfl (dc := 37) (fun _ _ e => (k_F_ok 35).1 e hH2 (d_rl rfl)) (fun v s3' h3 hH3 r_v hF => ?_)))
  have ev : v = v_b (r.1 = 0) ∧ s3' = s3 := by
    have := Option.some.inj hF
    injection this with z1 z2
    exact ⟨z1, z2⟩
  obtain ⟨ev, es⟩ := ev
  subst es
  subst ev
  have hl3 := y_len hH hH3
  have hsl3 := y_sl hH hH3
  by_cases r0 : r.1 = 0
  rotate_left
  · rw [v_bf r0]
    obtain ⟨g1, g2, g3⟩ := c2n r0
    exact dw_zne_y rfl (u := 20) rfl (d_rl rfl) rfl (dw_ic rfl (y_ret rfl rfl (Or.inl rfl) ⟨t, s3', rfl, hH3, fun _ _ q => q, q2.tr (g3.q (by decide)), by omega, by omega, fun _ => ⟨g1, g2⟩, fun q => absurd q r0⟩))
  rw [v_bt r0]
  obtain ⟨u2, C2, g1, g2, g3, g4⟩ := c2' r0
  obtain ⟨gT, ⟨u15, u16, u17⟩, u600, uC⟩ := g2
  obtain ⟨vs, a1, a2, a3⟩ := hH3.arr d_a46
  have a3' : ∀ k, k < 600 → vs[k]? = some (.int (Int32.ofInt (s3'.1 46 k))) := fun k hk => by
    obtain ⟨v, b1, b2⟩ := a3 k hk
    have b2 : v = .int (Int32.ofInt (s3'.1 46 k)) := b2
    rw [b1, b2]
  refine dw_zne_n rfl (u := 20) rfl (d_rl rfl) (by decide) ?_
  refine dw_aln (a := 43) rfl rfl (dw_gr (k := 14) rfl rfl rfl hH3 d_c43_14 (dw_aln (a := 43) rfl rfl (dw_gi (k := 15) rfl rfl rfl hH3 d_c43_15 ?_)))
  rw [u15]
  refine y_static (dc := 1) (Q1 := fun v h' => v = some (.ref h3.length) ∧ h' = h3 ++ [(1, 0, vs.take u2)]) rfl rfl rfl rfl (by decide) (y_copyOf (n := u2) a1 (by omega) (by omega) (fun j hj => ⟨_, a3' j (by omega)⟩) ⟨rfl, rfl⟩) ?_
  rintro v h4 ⟨rfl, rfl⟩
  have hH4 := y_new hH3 (1, 0, vs.take u2)
  have ht4 := y_tle hH3 (1, 0, vs.take u2)
  have hlt : (vs.take u2).length = u2 := by rw [List.length_take]; omega
  have hC : m_C (d_u t h3.length (some (1, 0, vs.take u2))) h3.length C2 u2 := by
    refine ⟨by omega, u600, vs.take u2, d_u_t, hlt, fun k hk => ?_⟩
    obtain ⟨z1, z2, z3⟩ := uC k hk
    exact ⟨by rw [List.getElem?_take, if_pos hk, a3' k (by omega), z1], z2, z3⟩
  have q3 : k_q k_Lq s s3' := q2.tr (g4.q (by decide))
  have fin : ∀ h5 k, k = 11 + w → d_V (d_u t h3.length (some (1, 0, vs.take u2))) h5 (d_sp s3' 43 k (some h3.length)) → ∃ t2 s2, some (Value.int (Int32.ofInt 1)) = some (.int (Int32.ofInt 1)) ∧ d_V t2 h5 s2 ∧ v_tle t t2 ∧ k_q k_Lq s s2 ∧ h5.length ≤ h.length + 1 ∧ p_sl h5 ≤ p_sl h + 600 ∧ (r.1 ≠ 0 → s2.1 43 2 = (r.1 : Int) ∧ s2.1 43 3 = (r.2 : Int)) ∧ (r.1 = 0 → k_T b n r.2 s2 ∧ s2.1 43 2 = s.1 43 2 ∧ s2.1 43 3 = s.1 43 3 ∧ s2.1 43 17 = 0 ∧ s2.2.1 43 = d_u (s.2.1 43) (11 + w) (some h.length) ∧ ∃ C len, m_C t2 h.length C len ∧ ∀ ν, t_bn ν → c_Sg ν C 0 len (VV ν) 19) := by
    intro h5 k hk hH5
    have hl5 := y_len hH4 hH5
    have hsl5 := y_sl hH4 hH5
    have e1 : (h3 ++ [((1, 0, vs.take u2) : p_C)]).length = h3.length + 1 := by rw [List.length_append]; rfl
    have e3 : p_sl (h3 ++ [((1, 0, vs.take u2) : p_C)]) = p_sl h3 + u2 := by rw [p_sl_app]; show p_sl h3 + (vs.take u2).length = _; rw [hlt]
    refine ⟨_, _, rfl, hH5, ht4, q3.tr k_q.sp, by omega, by omega, fun q => absurd r0 q, fun _ => ⟨k_q.T (L := []) gT ⟨fun _ _ => rfl, fun _ _ _ => rfl, fun a z => d_u_n z, rfl⟩ (by decide), ?_, ?_, ?_, ?_, C2, u2, by rw [← hl3]; exact hC, fun ν _ => g3 ν⟩⟩
    · show s3'.1 43 2 = _
      rw [g4.1 2 (by decide), e2 2 (by decide) (by decide)]
    · show s3'.1 43 3 = _
      rw [g4.1 3 (by decide), e2 3 (by decide) (by decide)]
    · exact u17
    · have ez : (d_sp s3' 43 k (some h3.length)).2.1 43 = d_u (s3'.2.1 43) k (some h3.length) := by
        show d_u s3'.2.1 43 (d_u (s3'.2.1 43) k (some h3.length)) 43 = _
        exact d_u_t
      rw [ez, hk, hl3, g4.2.2, f2.2.2]
  have h43 : ∀ X, X = w → True := fun _ _ => trivial
  clear h43
  refine dw_asn (a := h3.length) rfl rfl (dw_iln (x := (w : Int)) rfl rfl ?_)
  by_cases w0 : w = 0
  · subst w0
    refine dw_zne_y rfl (u := 44) rfl (d_rl rfl) rfl (dw_aln (a := 43) rfl rfl (dw_aln (a := h3.length) rfl rfl ?_))
    exact y_po (k := 11) (e := some h3.length) rfl rfl rfl rfl hH4 d_c43_11 (fun h5 hH5 => dw_go rfl (u := 62) rfl (dw_ic rfl (y_ret rfl rfl (Or.inr rfl) (fin h5 11 rfl hH5))))
  · refine dw_zne_n rfl (u := 44) rfl ⟨by omega, by omega⟩ (by omega) (dw_iln (x := (w : Int)) rfl rfl (dw_ic rfl ?_))
    by_cases w1 : w = 1
    · subst w1
      refine dw_ne_y rfl (u := 57) rfl (d_rl rfl) (d_rl rfl) rfl (dw_aln (a := 43) rfl rfl (dw_aln (a := h3.length) rfl rfl ?_))
      exact y_po (k := 12) (e := some h3.length) rfl rfl rfl rfl hH4 d_c43_12 (fun h5 hH5 => dw_go rfl (u := 62) rfl (dw_ic rfl (y_ret rfl rfl (Or.inr rfl) (fin h5 12 rfl hH5))))
    · refine dw_ne_n rfl (u := 57) rfl ⟨by omega, by omega⟩ (d_rl rfl) (by omega) (dw_aln (a := 43) rfl rfl (dw_aln (a := h3.length) rfl rfl ?_))
      exact y_po (k := 13) (e := some h3.length) rfl rfl rfl rfl hH4 d_c43_13 (fun h5 hH5 => dw_ic rfl (y_ret rfl rfl (Or.inr rfl) (fin h5 13 (by omega) hH5)))
end Y20

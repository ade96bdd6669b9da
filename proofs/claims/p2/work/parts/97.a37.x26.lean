section X26
variable {s0 s s1 s' : d_S} {t t' : Nat → Option p_C} {h : p_H} {b : Nat → Nat} {n p q w o m : Nat} {L : List (Nat × Nat)}
def H_RQ (t : Nat → Option p_C) (s : d_S) (h : p_H) (b : Nat → Nat) (n : Nat) (v : Option Value) (h2 : p_H) : Prop := ∃ t2 s2, d_V t2 h2 s2 ∧ v_tle t t2 ∧ k_g s s2 ∧ h2.length ≤ h.length + 5 ∧ p_sl h2 ≤ p_sl h + 1973 ∧ s2.1 43 1 = 0 ∧ s2.1 43 2 = ((t_text b n).1 : Int) ∧ s2.1 43 3 = (if (t_text b n).1 = 0 then -1 else ((t_text b n).2 : Int)) ∧ ((t_text b n).1 ≠ 0 → v = some .null) ∧ ((t_text b n).1 = 0 → ∃ a, v = some (.ref a) ∧ H_new t2 b n a)
theorem H_read (hW : k_wds t) (hH : d_V t h s) (hB : k_B b n s) : p_wp p_GT p_MT 40 m_X3_read 0 (lv_args 0 [.ref 43]) [] h (H_RQ t s h b n) := by
  have hn := hB.2.1
  have h80 := y_80 hH
  refine dw_aln (a := 43) rfl rfl (dw_ic rfl (y_pi (k := 4) rfl rfl rfl rfl hH d_c43_4 (d_rl rfl) (by decide) (fun h1 hH1 => ?_)))
  refine dw_aln (a := 43) rfl rfl (dw_ic rfl (y_pi (k := 9) rfl rfl rfl rfl hH1 d_c43_9 (d_rl rfl) (by decide) (fun h2 hH2 => ?_)))
  refine dw_aln (a := 43) rfl rfl (dw_null rfl (y_po (k := 11) rfl rfl rfl rfl hH2 d_c43_11 (fun h3 hH3 => ?_)))
  refine dw_aln (a := 43) rfl rfl (dw_null rfl (y_po (k := 12) rfl rfl rfl rfl hH3 d_c43_12 (fun h4 hH4 => ?_)))
  refine dw_aln (a := 43) rfl rfl (dw_null rfl (y_po (k := 13) rfl rfl rfl rfl hH4 d_c43_13 (fun h5 hH5 => ?_)))
  refine dw_aln (a := 43) rfl rfl (dw_ic rfl (y_pb (k := 17) rfl rfl rfl rfl hH5 d_c43_17 (Or.inl rfl) (by decide) (fun h6 hH6 => ?_)))
  refine dw_aln (a := 43) rfl rfl (dw_ic rfl (y_pi (k := 2) rfl rfl rfl rfl hH6 d_c43_2 (d_rl rfl) (by decide) (fun h7 hH7 => ?_)))
  refine dw_aln (a := 43) rfl rfl (dw_ic rfl (y_pi (k := 3) rfl rfl rfl rfl hH7 d_c43_3 (d_rl rfl) (by decide) (fun h8 hH8 => ?_)))
  obtain ⟨s8, hs8⟩ : ∃ z, z = d_si (d_si (d_si (d_sp (d_sp (d_sp (d_si (d_si s 43 4 0) 43 9 0) 43 11 none) 43 12 none) 43 13 none) 43 17 0) 43 2 0) 43 3 (-1) := ⟨_, rfl⟩
  rw [← hs8] at hH8
  have i8 : ∀ k, s8.1 43 k = if k = 3 then -1 else if k = 2 then 0 else if k = 17 then 0 else if k = 9 then 0 else if k = 4 then 0 else s.1 43 k := by
    intro k
    rw [hs8, d_si_i]
    by_cases z3 : k = 3
    · rw [z3, d_u_t]; rfl
    rw [d_u_n z3, if_neg z3, d_si_i]
    by_cases z2 : k = 2
    · rw [z2, d_u_t]; rfl
    rw [d_u_n z2, if_neg z2, d_si_i]
    by_cases z17 : k = 17
    · rw [z17, d_u_t]; rfl
    rw [d_u_n z17, if_neg z17]
    show (d_si (d_si s 43 4 0) 43 9 0).1 43 k = _
    rw [d_si_i]
    by_cases z9 : k = 9
    · rw [z9, d_u_t]; rfl
    rw [d_u_n z9, if_neg z9, d_si_i]
    by_cases z4 : k = 4
    · rw [z4, d_u_t]; rfl
    rw [d_u_n z4, if_neg z4]
  have o8 : ∀ a, a ≠ 43 → s8.1 a = s.1 a := fun a z => by
    rw [hs8, d_si_n z, d_si_n z, d_si_n z]
    show (d_si (d_si s 43 4 0) 43 9 0).1 a = _
    rw [d_si_n z, d_si_n z]
  have r8 : ∀ k, s8.2.1 43 (11 + k) = if k < 3 then none else s.2.1 43 (11 + k) := by
    intro k
    have e : s8.2.1 43 = d_u (d_u (d_u (s.2.1 43) 11 none) 12 none) 13 none := by
      rw [hs8]
      show (d_sp (d_sp (d_sp (d_si (d_si s 43 4 0) 43 9 0) 43 11 none) 43 12 none) 43 13 none).2.1 43 = _
      have ez : ∀ (z : d_S) (k : Nat), (d_sp z 43 k none).2.1 43 = d_u (z.2.1 43) k none := fun z k => by
        show d_u z.2.1 43 (d_u (z.2.1 43) k none) 43 = _
        exact d_u_t
      rw [ez, ez, ez]; rfl
    rw [e]
    by_cases k2 : k = 2
    · rw [k2, d_u_t]; rfl
    rw [d_u_n (by omega)]
    by_cases k1 : k = 1
    · rw [k1, d_u_t]; rfl
    rw [d_u_n (by omega)]
    by_cases k0 : k = 0
    · rw [k0, d_u_t]; rfl
    rw [d_u_n (by omega), if_neg (by omega)]
  have ro8 : ∀ a, a ≠ 43 → s8.2.1 a = s.2.1 a := fun a z => by
    rw [hs8]
    show (d_sp (d_sp (d_sp (d_si (d_si s 43 4 0) 43 9 0) 43 11 none) 43 12 none) 43 13 none).2.1 a = _
    have ez : ∀ (y : d_S) (k : Nat), (d_sp y 43 k none).2.1 a = y.2.1 a := fun y k => d_u_n z
    rw [ez, ez, ez]; rfl
  have l8 : s8.2.2 = s.2.2 := by rw [hs8]; rfl
  have hB8 : k_B b n s8 := ⟨by rw [i8 1]; exact hB.1, hn, fun i hi => by rw [o8 44 (by decide)]; exact hB.2.2.1 i hi, hB.2.2.2⟩
  obtain ⟨s9, c1, c2, c3⟩ := k_stp (q := 0) hW hB8 (by rw [i8 4]; rfl) (Nat.zero_le n)
  have hF : d_b (F_X3_step t s8) (fun s => some s) = some s9 := by rw [c1, d_b_t]
  refine dw_aln (a := 43) rfl rfl (dw_vV hF rfl (d_vir (n := 1) rfl rfl rfl rfl rfl hH8 d_c43_0 rfl) rfl rfl rfl (dc := 1) (fun _ e => D_X3_step e hH8) (fun s9' h9 hH9 hF2 => ?_))
  have e9 : s9' = s9 := Option.some.inj hF2
  subst e9
  have hsk := t_sk_le (b := b) (Nat.zero_le n)
  have g9 : k_g s s9' := ⟨fun a z1 z2 z3 => by rw [c3.2.1 a z1, o8 a z1], fun a z => by rw [c3.2.2, ro8 a z], by rw [c3.2.2]; exact l8⟩
  have hI : k_I s b n (t_sk b n 0) 0 [] t s9' := ⟨c2, ⟨by rw [c3.1 9 (by decide), i8 9]; rfl, by rw [c3.1 17 (by decide), i8 17]; rfl, by rw [c3.1 2 (by decide), i8 2]; rfl, by rw [c3.1 3 (by decide), i8 3]; rfl⟩, fun c e hc => by simp at hc, fun k hk => ⟨fun _ => by rw [c3.2.2, r8 k, if_pos hk], fun e he => absurd he (by simp)⟩, t_LO.nil, by decide, g9⟩
  have y1 := y_len hH hH9
  have y2 := y_sl hH hH9
  have hr99 := t_text_99 (b := b) (n := n)
  refine dw_ic rfl (dw_isn rfl rfl (dw_ic rfl (dw_isn rfl rfl ?_)))
  refine H_loop (t0 := t) (H0 := h.length) (S0 := p_sl h) (L := []) (o := 0) (n := n) (b := b) (p := t_sk b n 0) (s0 := s) ?_ 26 t s9' h9 _ rfl hW hH9 (fun _ _ q => q) hI hsk.2 (by show h9.length ≤ h.length + 0; omega) (by show p_sl h9 ≤ p_sl h + 600 * 0; omega) rfl rfl rfl
  rintro r L' t2 s2 h2' ls ⟨f, o', p', er, eL, ef, rfl, rfl⟩ hH2' ht2 hg2 e1 hl2 hsl2 l0 l1 bad good
  have ef : f = 26 := ef
  subst ef
  have er : r = t_text b n := er
  have eL : L' = t_cs2 b n 26 0 0 (t_sk b n 0) := eL
  have hr' := er
  unfold H_RQ
  rw [← er] at hr99 ⊢
  refine dw_aln rfl l0 (dw_ic rfl (y_pi (k := 1) rfl rfl rfl rfl hH2' d_c43_1 (d_rl rfl) (by decide) (fun h3 hH3 => ?_)))
  have y3 := y_len hH2' hH3
  have y4 := y_sl hH2' hH3
  obtain ⟨s3, hs3⟩ : ∃ z, z = d_si s2 43 1 0 := ⟨_, rfl⟩
  rw [← hs3] at hH3
  have f3 : k_f [1] s2 s3 := by rw [hs3]; exact k_f.si (by decide)
  have e31 : s3.1 43 1 = 0 := by rw [hs3, d_si_i, d_u_t]
  have g3 : k_g s s3 := hg2.tr f3.g
  refine dw_iln rfl l1 ?_
  by_cases r0 : r.1 = 0
  rotate_left
  · rw [v_bf r0]
    obtain ⟨z1, z2⟩ := bad r0
    refine dw_zeq_y rfl (u := 125) rfl (d_rl rfl) rfl (dw_null rfl (y_areturnn rfl rfl ?_))
    exact ⟨t2, s3, hH3, ht2, g3, by omega, by omega, e31, by rw [f3.1 2 (by decide)]; exact z1, by rw [f3.1 3 (by decide), if_neg r0]; exact z2, fun _ => rfl, fun z => absurd z r0⟩
  rw [v_bt r0]
  obtain ⟨o2, gT, ⟨g9', g17, g2', g3'⟩, grow, glw, gLO, gL, -⟩ := good r0
  refine dw_zeq_n rfl (u := 125) rfl (d_rl rfl) (by decide) (y_newobj rfl rfl (show p_GT[7]? = some _ from rfl) ?_)
  show p_wp p_GT p_MT 40 m_X3_read 88 ls [.ref h3.length] (h3 ++ [((0, 7, [.null, .null, .null, .int 0, .null]) : p_C)]) _
  have hHa := y_new hH3 (0, 7, [.null, .null, .null, .int 0, .null])
  obtain ⟨ha, hha⟩ : ∃ ha, ha = h3 ++ [((0, 7, [.null, .null, .null, .int 0, .null]) : p_C)] := ⟨_, rfl⟩
  rw [← hha] at hHa ⊢
  refine dw_dupr rfl (dw_aln rfl l0 (dw_go_ (k := 11) rfl rfl rfl hHa d_c43_11 (dw_aln rfl l0 (dw_go_ (k := 12) rfl rfl rfl hHa d_c43_12 (dw_aln rfl l0 (dw_go_ (k := 13) rfl rfl rfl hHa d_c43_13 ?_))))))
  have h80' := y_80 hH3
  refine H_mk (h := h3) hha hHa gL (by rw [f3.1 9 (by decide)]; exact g9') l0 ?_
  intro rows hrl hrows
  have hn3 := y_none hH3
  obtain ⟨T1, hT1⟩ : ∃ z : p_C, z = (0, 7, [d_pv (s3.2.1 43 11), d_pv (s3.2.1 43 12), d_pv (s3.2.1 43 13), .int (Int32.ofInt (L'.length : Int)), .ref (h3.length + 1)]) := ⟨_, rfl⟩
  rw [← hT1]
  have v1 := y_new hH3 T1
  have l1' : (h3 ++ [T1]).length = h3.length + 1 := by rw [List.length_append]; rfl
  have v2 := y_new v1 (1, 0, rows)
  rw [l1'] at v2
  have tl1 := y_tle hH3 T1
  have tl2 := y_tle v1 ((1, 0, rows) : p_C)
  rw [l1'] at tl2
  obtain ⟨t3, ht3⟩ : ∃ z, z = d_u (d_u t2 h3.length (some T1)) (h3.length + 1) (some (1, 0, rows)) := ⟨_, rfl⟩
  rw [← ht3] at v2 tl2
  have tl3 : v_tle t2 t3 := tl1.tr tl2
  have eh : h3 ++ [T1, ((1, 0, rows) : p_C)] = h3 ++ [T1] ++ [(1, 0, rows)] := by rw [List.append_assoc]; rfl
  rw [eh]
  have sl2 : p_sl (h3 ++ [T1] ++ [((1, 0, rows) : p_C)]) = p_sl h3 + 5 + rows.length := by
    rw [p_sl_app, p_sl_app, hT1]; rfl
  have ln2 : (h3 ++ [T1] ++ [((1, 0, rows) : p_C)]).length = h3.length + 2 := by rw [List.length_append, l1']; rfl
  refine ⟨t3, s3, v2, ht2.tr tl3, g3, by rw [ln2]; omega, by rw [sl2]; omega, e31, by rw [f3.1 2 (by decide), r0]; exact g2', by rw [f3.1 3 (by decide), if_pos r0]; exact g3', fun z => absurd r0 z, fun _ => ⟨h3.length, rfl, ?_⟩⟩
  unfold H_new
  rw [← eL]
  refine ⟨s3.2.1 43, h3.length + 1, rows, s3.1 45, o2, by omega, by omega, ?_, by rw [ht3, d_u_t], hrl, fun j hj => ⟨hrows j hj, hH3.r⟩, gL, gLO, fun c e hc => ?_, fun k hk => ?_⟩
  · rw [ht3, d_u_n (by omega), d_u_t, hT1]
  · rw [f3.2.1 45 (by decide)]; exact grow c e hc
  · have hl := glw k hk
    rw [f3.2.2]
    refine ⟨hl.1, fun e he1 he2 => ?_⟩
    obtain ⟨a, C, len, j1, j2, j3⟩ := hl.2 e he1 he2
    exact ⟨a, C, len, j1, j2.le tl3, j3⟩
theorem H_xtext {k : Nat} (hW : k_wds t) (hH : d_V t h s) (hB : k_B b n s) (hk : s.1 3 5 = (k : Int)) (hk4 : k ≤ 4) : p_wp p_GT p_MT 41 m_X11_text 0 (lv_args 0 [.ref 2]) [] h (fun v h2 => (k = 4 → v = some (.int (Int32.ofInt (-1))) ∧ h2 = h) ∧ (k < 4 → ∃ t2 s2, d_V t2 h2 s2 ∧ v_tle t t2 ∧ h2.length ≤ h.length + 5 ∧ p_sl h2 ≤ p_sl h + 1973 ∧ (∀ a, a ≠ 3 → a ≠ 43 → a ≠ 45 → a ≠ 46 → s2.1 a = s.1 a) ∧ (∀ j, j ≠ 5 → s2.1 3 j = s.1 3 j) ∧ (∀ a, a ≠ 5 → a ≠ 43 → s2.2.1 a = s.2.1 a) ∧ (∀ j, j ≠ k → s2.2.1 5 j = s.2.1 5 j) ∧ s2.2.2 = s.2.2 ∧ s2.1 43 1 = 0 ∧ s2.1 43 2 = ((t_text b n).1 : Int) ∧ s2.1 43 3 = (if (t_text b n).1 = 0 then -1 else ((t_text b n).2 : Int)) ∧ ((t_text b n).1 ≠ 0 → v = some (.int (Int32.ofInt (-1))) ∧ s2.1 3 5 = (k : Int) ∧ s2.2.1 5 k = s.2.1 5 k) ∧ ((t_text b n).1 = 0 → v = some (.int (Int32.ofInt (k : Int))) ∧ s2.1 3 5 = (k : Int) + 1 ∧ ∃ a, s2.2.1 5 k = some a ∧ H_new t2 b n a))) := by
  have hr99 := t_text_99 (b := b) (n := n)
  refine dw_aln (a := 2) rfl rfl (dw_gr (k := 0) rfl rfl rfl hH d_c2_0 (dw_gi (k := 5) rfl rfl rfl hH d_c3_5 (dw_isn rfl rfl ?_)))
  rw [hk]
  refine dw_iln (x := (k : Int)) rfl rfl (dw_ic rfl (dw_aln (a := 2) rfl rfl (dw_gr (k := 0) rfl rfl rfl hH d_c2_0 (dw_gr (k := 7) rfl rfl rfl hH d_c3_7 (dw_len (z := 4) rfl hH d_a5 rfl rfl (dw_ic rfl (dw_sub rfl ?_)))))))
  have hF : d_b (F_X11_within (k : Int) 0 (4 - 1)) (fun v => some v) = some (v_b (0 ≤ (k : Int) ∧ (k : Int) ≤ 4 - 1)) := by rw [P_within, d_b_t]
  refine dw_sB hF rfl rfl rfl rfl rfl (dc := 0) (fun _ e => D_X11_within e ⟨by omega, by omega⟩ (d_rl rfl) (d_rl rfl)) (fun v r_v hF2 => ?_)
  have hv : v = v_b (0 ≤ (k : Int) ∧ (k : Int) ≤ 4 - 1) := Option.some.inj hF2
  subst hv
  by_cases h4 : k < 4
  rotate_left
  · rw [v_bf (by omega)]
    exact dw_zne_y rfl (u := 28) rfl (d_rl rfl) rfl (dw_ic rfl (y_retI rfl rfl ⟨fun _ => ⟨rfl, rfl⟩, fun z => absurd z h4⟩))
  rw [v_bt (by omega)]
  refine dw_zne_n rfl (u := 28) rfl (d_rl rfl) (by decide) (dw_aln (a := 2) rfl rfl (dw_gr (k := 3) rfl rfl rfl hH d_c2_3 ?_))
  refine y_virt (dc := 40) rfl (d_vir (n := 1) rfl rfl rfl rfl rfl hH d_c43_0 rfl) rfl rfl (Nat.le_refl _) (H_read hW hH hB) ?_
  rintro v h2 ⟨t2, s2, hH2, ht2, hg2, hl2, hsl2, e1, e2, e3, bad, good⟩
  by_cases r0 : (t_text b n).1 = 0
  rotate_left
  · obtain rfl := bad r0
    refine dw_asno (e := none) rfl rfl (dw_alno (e := none) rfl rfl (dw_nnn rfl rfl (dw_ic rfl (y_retI rfl rfl ⟨fun z => by omega, fun _ => ?_⟩))))
    exact ⟨t2, s2, hH2, ht2, hl2, hsl2, fun a z1 z2 z3 z4 => hg2.1 a z2 z3 z4, fun j _ => by rw [hg2.1 3 (by decide) (by decide) (by decide)], fun a z1 z2 => hg2.2.1 a z2, fun j _ => by rw [hg2.2.1 5 (by decide)], hg2.2.2, e1, e2, e3, fun _ => ⟨rfl, by rw [hg2.1 3 (by decide) (by decide) (by decide)]; exact hk, by rw [hg2.2.1 5 (by decide)]⟩, fun z => absurd z r0⟩
  obtain ⟨a, rfl, hN⟩ := good r0
  have hTx : 80 ≤ a ∧ ∃ vs, t2 a = some (0, 7, vs) := by
    obtain ⟨q, rb, rows, R, o, g1, g2, g3, -⟩ := hN
    exact ⟨g1, _, g3⟩
  refine dw_asno (e := some a) rfl rfl (dw_alno (e := some a) rfl rfl (dw_nns rfl (u := 42) rfl rfl ?_))
  refine dw_aln (a := 2) rfl rfl (dw_gr (k := 0) rfl rfl rfl hH2 d_c2_0 (dw_gr (k := 7) rfl rfl rfl hH2 d_c3_7 (dw_iln (x := (k : Int)) rfl rfl (dw_alno (e := some a) rfl rfl ?_))))
  refine dw_ost (F := fun z => z) (r := d_sp s2 5 k (some a)) (k := k) rfl hH2 d_a5 (by omega) (by omega) ⟨by omega, by omega⟩ (by omega) (fun x hx => by cases hx; exact hTx) rfl (fun s3 h3 hH3 e3' => ?_)
  subst e3'
  refine dw_aln (a := 2) rfl rfl (dw_gr (k := 0) rfl rfl rfl hH3 d_c2_0 (dw_iln (x := (k : Int)) rfl rfl (dw_ic rfl (dw_add rfl (y_pi (k := 5) rfl rfl rfl rfl hH3 d_c3_5 ⟨by omega, by omega⟩ (by decide) (fun h4' hH4 => ?_))))))
  have y1 := y_len hH2 hH3
  have y2 := y_sl hH2 hH3
  have y3 := y_len hH3 hH4
  have y4 := y_sl hH3 hH4
  refine dw_iln (x := (k : Int)) rfl rfl (y_retI rfl rfl ⟨fun z => by omega, fun _ => ?_⟩)
  have i1 : ∀ c, c ≠ 3 → (d_si (d_sp s2 5 k (some a)) 3 5 ((k : Int) + 1)).1 c = s2.1 c := fun c z => by rw [d_si_n z]; rfl
  have i2 : ∀ c, c ≠ 5 → (d_si (d_sp s2 5 k (some a)) 3 5 ((k : Int) + 1)).2.1 c = s2.2.1 c := fun c z => d_u_n z
  have i3 : (d_si (d_sp s2 5 k (some a)) 3 5 ((k : Int) + 1)).2.1 5 = d_u (s2.2.1 5) k (some a) := by
    show d_u s2.2.1 5 (d_u (s2.2.1 5) k (some a)) 5 = _
    exact d_u_t
  refine ⟨t2, _, hH4, ht2, by omega, by omega, fun c z1 z2 z3 z4 => by rw [i1 c z1]; exact hg2.1 c z2 z3 z4, fun j z => ?_, fun c z1 z2 => by rw [i2 c z1]; exact hg2.2.1 c z2, fun j z => by rw [i3, d_u_n z, hg2.2.1 5 (by decide)], hg2.2.2, by rw [i1 43 (by decide)]; exact e1, by rw [i1 43 (by decide)]; exact e2, by rw [i1 43 (by decide)]; exact e3, fun z => absurd r0 z, fun _ => ⟨rfl, by rw [d_si_i, d_u_t], a, by rw [i3, d_u_t], hN⟩⟩
  rw [d_si_i, d_u_n z]
  show s2.1 3 j = _
  rw [hg2.1 3 (by decide) (by decide) (by decide)]
end X26

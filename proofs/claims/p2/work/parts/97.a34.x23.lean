section X23
variable {s0 s s1 s' : d_S} {t t' : Nat → Option p_C} {h : p_H} {b : Nat → Nat} {n p q w o m : Nat} {L : List (Nat × Nat)} {Q : Option Value → p_H → Prop}
theorem k_wds.le (hW : k_wds t) (ht : v_tle t t') : k_wds t' := by
  unfold k_wds at hW ⊢
  rw [← hW]
  unfold d_tw
  cases h1 : t 1 with
  | none => unfold d_tw at hW; rw [h1] at hW; cases hW
  | some c => rw [ht 1 c h1]
theorem v_tle.tr {t1 t2 t3 : Nat → Option p_C} (h : v_tle t1 t2) (h' : v_tle t2 t3) : v_tle t1 t3 := fun i c q => h' i c (h i c q)
theorem H_tail {r : Nat × Nat} {t5 : Nat → Option p_C} {s5 : d_S} {h5 : p_H} {g o' : Nat} {e : Nat × Nat} {x : Int} (hW : k_wds t) (hH5 : d_V t5 h5 s5) (ht : v_tle t t5) (hg : k_g s0 s5) (hq : q ≤ n) (hT : k_T b n q s5) (h9 : s5.1 43 9 = ((L.length + 1 : Nat) : Int)) (h17 : s5.1 43 17 = 0) (h2 : s5.1 43 2 = 0) (h3 : s5.1 43 3 = -1) (hrow : ∀ c a, (L ++ [e])[c]? = some a → k_row b n (s5.1 45) c a) (hlw : k_laws t5 s5 b n (L ++ [e])) (hLO : t_LO (L ++ [e]) o') (hL : L.length < 24) (hl1 : h5.length ≤ h.length + g) (hl2 : p_sl h5 ≤ p_sl h + 600 * g) (hpo : t_po o + g ≤ 3) (hpo2 : t_po o' = t_po o + g) (hr : r = if t_is b n q 59 = true then (0, t_x b n q) else (1, q)) (he : e = (t_cw b n p, t_x b n p)) (ho' : o' = if t_cw b n p < 3 then o + 2 ^ t_cw b n p else o) : p_wp p_GT p_MT 39 m_X3_readClause 134 (H_ls x) [] h5 (H_Q s0 b n p o L t h r) := by
  have hW5 := hW.le ht
  refine dw_aln (a := 43) rfl rfl (dw_bp (c := 59) rfl rfl ?_)
  rcases P_takeSign hW5 hT hq (c := 59) with ⟨z, s6, c1, c2, c3⟩ | ⟨z, s6, c1, c2, c3, c4⟩
  · rw [if_pos z] at hr
    have hF : d_b2 (F_X3_takeSign t5 s5 59) (fun v s => some (v, s)) = some (1, s6) := by
      have c1' : F_X3_takeSign t5 s5 59 = some (1, s6) := c1
      rw [c1', d_b2_t]
    refine dw_vC hF rfl (d_vir (n := 2) rfl rfl rfl rfl rfl hH5 d_c43_0 rfl) rfl rfl rfl (dc := 2) (fun _ _ e => D_X3_takeSign e hH5 (d_rl rfl)) (fun v s7 h7 hH7 r_v hF2 => ?_)
    have e3 : v = 1 ∧ s7 = s6 := by
      have := Option.some.inj hF2
      injection this with z1 z2
      exact ⟨z1, z2⟩
    obtain ⟨e1, e2⟩ := e3
    subst e2
    subst e1
    have y1 := y_len hH5 hH7
    have y2 := y_sl hH5 hH7
    refine dw_zeq_n rfl (u := 147) rfl (d_rl rfl) (by decide) (dw_ic rfl (dw_go rfl (u := 148) rfl (y_ret rfl rfl (Or.inr rfl) ?_)))
    refine ⟨t5, s7, g, by rw [hr]; rfl, hH7, ht, hg.tr c3.g, c2.1.1, by omega, by omega, hpo, fun a => absurd (by rw [hr]) a, fun _ => ⟨hL, by rw [← ho']; exact hpo2, ?_⟩⟩
    rw [← ho', ← he, hr]
    refine ⟨c2, ⟨by rw [c3.1 9 (by decide), List.length_append]; exact h9, by rw [c3.1 17 (by decide)]; exact h17, by rw [c3.1 2 (by decide)]; exact h2, by rw [c3.1 3 (by decide)]; exact h3⟩, fun c a hc => by rw [c3.2.1 45 (by decide)]; exact hrow c a hc, hlw.le (fun _ _ q => q) (by rw [c3.2.2]), hLO, by rw [List.length_append]; show L.length + 1 ≤ 24; omega, hg.tr c3.g⟩
  · rw [if_neg (by rw [z]; decide)] at hr
    have hF : d_b2 (F_X3_takeSign t5 s5 59) (fun v s => some (v, s)) = some (0, s6) := by
      have c1' : F_X3_takeSign t5 s5 59 = some (0, s6) := c1
      rw [c1', d_b2_t]
    refine dw_vC hF rfl (d_vir (n := 2) rfl rfl rfl rfl rfl hH5 d_c43_0 rfl) rfl rfl rfl (dc := 2) (fun _ _ e => D_X3_takeSign e hH5 (d_rl rfl)) (fun v s7 h7 hH7 r_v hF2 => ?_)
    have e3 : v = 0 ∧ s7 = s6 := by
      have := Option.some.inj hF2
      injection this with z1 z2
      exact ⟨z1, z2⟩
    obtain ⟨e1, e2⟩ := e3
    subst e2
    subst e1
    have y1 := y_len hH5 hH7
    have y2 := y_sl hH5 hH7
    refine dw_zeq_y rfl (u := 147) rfl (d_rl rfl) rfl (dw_ic rfl (y_ret rfl rfl (Or.inl rfl) ?_))
    exact ⟨t5, s7, g, by rw [hr]; rfl, hH7, ht, hg.tr c4.g, by rw [c4.1 1 (by decide)]; exact hT.1.1, by omega, by omega, hpo, fun _ => by rw [hr]; exact ⟨c2, c3⟩, fun a => absurd (by rw [hr] at a; exact a) (show ¬ (1 : Nat) = 0 by decide)⟩
theorem H_bad {r : Nat × Nat} {t5 : Nat → Option p_C} {s5 : d_S} {h5 : p_H} {g : Nat} {x : Int} (hH5 : d_V t5 h5 s5) (ht : v_tle t t5) (hg : k_g s0 s5) (h1 : s5.1 43 1 = (n : Int)) (hl1 : h5.length ≤ h.length + g) (hl2 : p_sl h5 ≤ p_sl h + 600 * g) (hpo : t_po o + g ≤ 3) (hr : r.1 ≠ 0) (h2 : s5.1 43 2 = (r.1 : Int)) (h3 : s5.1 43 3 = (r.2 : Int)) : p_wp p_GT p_MT 39 m_X3_readClause 147 (H_ls x) [] h5 (H_Q s0 b n p o L t h r) :=
  dw_ic rfl (y_ret rfl rfl (Or.inl rfl) ⟨t5, s5, g, by rw [v_bf hr], hH5, ht, hg, h1, hl1, hl2, hpo, fun _ => ⟨h2, h3⟩, fun q => absurd q hr⟩)
theorem H_clause (hW : k_wds t) (hH : d_V t h s) (hI : k_I s0 b n p o L t s) (hp : p ≤ n) : p_wp p_GT p_MT 39 m_X3_readClause 0 (lv_args 0 [.ref 43]) [] h (H_Q s0 b n p o L t h (t_cl b n L.length o p)) := by
  obtain ⟨hT, ⟨h9, h17, h2, h3⟩, hrow, hlw, hLO, hL, hg⟩ := hI
  have hn := hT.1.2.1
  obtain ⟨r, hr⟩ : ∃ z, z = t_cl b n L.length o p := ⟨_, rfl⟩
  rw [← hr]
  rw [t_cl_bd] at hr
  refine dw_aln (a := 43) rfl rfl (dw_gi (k := 7) rfl rfl rfl hH d_c43_7 (dw_isn rfl rfl ?_))
  show p_wp p_GT p_MT 39 m_X3_readClause _ (H_ls (s.1 43 7)) [] h _
  refine dw_aln (a := 43) rfl rfl (dw_gi (k := 6) rfl rfl rfl hH d_c43_6 (dw_ic rfl ?_))
  by_cases k1 : t_k b n p = 1
  rotate_left
  · have h10 : t_cw b n p = 10 := by
      by_cases z : t_cw b n p = 10
      · exact z
      · exact absurd (t_cw_k z).2 k1
    rw [if_pos h10] at hr
    exact dw_ne_n rfl (u := 23) rfl hH.r (d_rl rfl) (by rw [hT.2.1.2.2]; omega) (dw_aln (a := 43) rfl rfl (dw_ic rfl (H_out (f := 1) (pc := 25) hH hT hg hr (by decide) (by decide) rfl rfl)))
  obtain ⟨C1, C2, C3⟩ := H_cw hT hp k1
  refine dw_ne_y rfl (u := 23) rfl hH.r (d_rl rfl) (by rw [hT.2.1.2.2, k1]; rfl) (dw_iln (x := s.1 43 7) rfl rfl (dw_ic rfl (dw_bp (c := 9) rfl rfl ?_)))
  have hF : d_b (F_X11_within (s.1 43 7) 0 9) (fun v => some v) = some (v_b (0 ≤ s.1 43 7 ∧ s.1 43 7 ≤ 9)) := by rw [P_within, d_b_t]
  refine dw_sB hF rfl rfl rfl rfl rfl (dc := 0) (fun _ e => D_X11_within e hH.r (d_rl rfl) (d_rl rfl)) (fun v r_v hF2 => ?_)
  have hv : v = v_b (0 ≤ s.1 43 7 ∧ s.1 43 7 ≤ 9) := Option.some.inj hF2
  subst hv
  by_cases hin : 0 ≤ s.1 43 7 ∧ s.1 43 7 ≤ 9
  rotate_left
  · have h10 : t_cw b n p = 10 := C3 (fun k hk e => hin (by omega))
    rw [if_pos h10] at hr
    rw [v_bf hin]
    exact dw_zne_y rfl (u := 29) rfl (d_rl rfl) rfl (dw_aln (a := 43) rfl rfl (dw_ic rfl (H_out (f := 1) (pc := 25) hH hT hg hr (by decide) (by decide) rfl rfl)))
  rw [v_bt hin]
  obtain ⟨w, hw⟩ : ∃ w : Nat, s.1 43 7 = (w : Int) := ⟨(s.1 43 7).toNat, by omega⟩
  have w9 : w ≤ 9 := by omega
  have hcw := C2 w w9 hw
  rw [hw]
  refine dw_zne_n rfl (u := 29) rfl (d_rl rfl) (by decide) ?_
  rw [hcw, if_neg (show ¬ w = 10 by omega)] at hr
  by_cases hset : w < 3 ∧ o / 2 ^ w % 2 = 1
  · rw [if_pos hset] at hr
    obtain ⟨e, he1, he2⟩ := (hLO.2.1 w hset.1).1 hset.2
    obtain ⟨a, C, len, ha, -⟩ := (hlw w hset.1).2 e he1 he2
    exact H_pre1 hH hset.1 ha (dw_aln (a := 43) rfl rfl (dw_ic rfl (H_out (f := 4) (pc := 66) hH hT hg hr (by decide) (by decide) rfl rfl)))
  rw [if_neg hset] at hr
  have hunset : w < 3 → ¬ o / 2 ^ w % 2 = 1 := fun a c => hset ⟨a, c⟩
  have hnoL : w < 3 → ∀ e, e ∈ L → e.1 ≠ w := fun a e he he2 => hunset a ((hLO.2.1 w a).2 ⟨e, he, he2⟩)
  refine H_pre0 hH w9 (fun a => (hlw w a).1 (hnoL a)) ?_
  refine dw_aln (a := 43) rfl rfl (dw_gi (k := 9) rfl rfl rfl hH d_c43_9 (dw_bp (c := 24) rfl rfl ?_))
  by_cases h24 : L.length = 24
  · rw [if_pos h24] at hr
    exact dw_lt_n rfl (u := 86) rfl hH.r (d_rl rfl) (by rw [h9]; omega) (dw_aln (a := 43) rfl rfl (dw_bp (c := 6) rfl rfl (H_out (f := 6) (pc := 82) hH hT hg hr (by decide) (by decide) rfl rfl)))
  rw [if_neg h24] at hr
  have hL24 : L.length < 24 := by omega
  refine dw_lt_y rfl (u := 86) rfl hH.r (d_rl rfl) (by rw [h9]; omega) ?_
  have hx := t_x_lt (b := b) (t_k_lt (b := b) (n := n) (p := p) (by omega))
  obtain ⟨s1, hs1⟩ : ∃ z, z = d_si s 43 9 (s.1 43 9 + 1) := ⟨_, rfl⟩
  obtain ⟨s2, hs2⟩ : ∃ z, z = d_si s1 43 10 0 := ⟨_, rfl⟩
  have f2 : k_f [9, 10] s s2 := by rw [hs2, hs1]; exact (k_f.si (by decide)).tr (k_f.si (by decide))
  have e29 : s2.1 43 9 = ((L.length + 1 : Nat) : Int) := by rw [hs2, d_si_i, d_u_n (by decide), hs1, d_si_i, d_u_t, h9]; rfl
  have e210 : s2.1 43 10 = ((0 : Nat) : Int) := by rw [hs2, d_si_i, d_u_t]; rfl
  obtain ⟨s3, a1, a2, a3, a4⟩ := P_addPart (v := w) e29 e210 ⟨by omega, by omega⟩ (by decide)
  have hT3 : k_T b n p s3 := k_j.T (hT.f f2 (by decide)) a4 (by decide)
  obtain ⟨s4, c1, c2, c3⟩ := P_step hW hT3 hp
  have hF : d_l (d_si s 43 9 (s.1 43 9 + 1)) (fun s1 => d_l (d_si s1 43 10 0) (fun s2 => d_b (F_X3_addPart s2 (w : Int)) (fun s3 => d_b (F_X3_step t s3) (fun s4 => some s4)))) = some s4 := by
    rw [d_l_t, ← hs1, d_l_t, ← hs2, a1, d_b_t, c1, d_b_t]
  have h9R : d_R (s.1 43 9 + 1) := by rw [h9]; exact ⟨by omega, by omega⟩
  refine dw_aln (a := 43) rfl rfl (dw_dupr rfl (dw_gi (k := 9) rfl rfl rfl hH d_c43_9 (dw_ic rfl (dw_add rfl (dw_pi (k := 9) rfl rfl rfl rfl hH d_c43_9 h9R (by decide) hF (fun s1' h1 hH1 hF => ?_))))))
  refine dw_aln (a := 43) rfl rfl (dw_ic rfl (dw_pi (k := 10) rfl rfl rfl rfl hH1 d_c43_10 (d_rl rfl) (by decide) hF (fun s2' h2' hH2 hF => ?_)))
  refine dw_aln (a := 43) rfl rfl (dw_iln (x := (w : Int)) rfl rfl (dw_vV hF rfl (d_vir (n := 2) rfl rfl rfl rfl rfl hH2 d_c43_0 rfl) rfl rfl rfl (dc := 1) (fun _ e => D_X3_addPart e hH2 ⟨by omega, by omega⟩) (fun s3' h3' hH3 hF => ?_)))
  refine dw_aln (a := 43) rfl rfl (dw_vV hF rfl (d_vir (n := 1) rfl rfl rfl rfl rfl hH3 d_c43_0 rfl) rfl rfl rfl (dc := 1) (fun _ e => D_X3_step e hH3) (fun s4' h4 hH4 hF => ?_))
  have es : s4' = s4 := Option.some.inj hF
  subst es
  clear hF
  have l4 := y_len hH hH4
  have sl4 := y_sl hH hH4
  have g4 : k_g s s4' := (f2.g.tr a4.g).tr c3.g
  have k43 : ∀ k, k ∉ [4, 5, 6, 7, 9, 10] → s4'.1 43 k = s.1 43 k := fun k hk => by
    simp only [List.mem_cons, List.not_mem_nil, or_false, not_or] at hk
    rw [c3.1 k (by simp only [List.mem_cons, List.not_mem_nil, or_false, not_or]; omega), a4.1 k (by simp only [List.mem_cons, List.not_mem_nil, or_false, not_or]; omega), f2.1 k (by simp only [List.mem_cons, List.not_mem_nil, or_false, not_or]; omega)]
  have e49 : s4'.1 43 9 = ((L.length + 1 : Nat) : Int) := by rw [c3.1 9 (by decide), a4.1 9 (by decide)]; exact e29
  have e410 : s4'.1 43 10 = ((1 : Nat) : Int) := by rw [c3.1 10 (by decide)]; exact a3
  have e445 : s4'.1 45 = d_u (s.1 45) (7 * L.length) (w : Int) := by
    rw [c3.2.1 45 (by decide), a2, f2.2.1 45 (by decide), show (L.length + 1 - 1) * 7 + 0 = 7 * L.length by omega]
  have e4r : s4'.2 = s.2 := by rw [c3.2.2, a4.2.2, f2.2.2]
  have hne : ∀ c a, (L ++ [(w, t_x b n p)])[c]? = some a → (c < L.length ∧ L[c]? = some a) ∨ (c = L.length ∧ a = (w, t_x b n p)) := by
    intro c a hc
    by_cases z : c < L.length
    · rw [List.getElem?_append_left z] at hc
      exact Or.inl ⟨z, hc⟩
    · have hc2 : c = L.length := by
        by_cases z2 : c = L.length
        · exact z2
        · rw [List.getElem?_eq_none (by rw [List.length_append]; show L.length + 1 ≤ c; omega)] at hc; cases hc
      subst hc2
      rw [List.getElem?_append_right (Nat.le_refl _), Nat.sub_self] at hc
      have : (w, t_x b n p) = a := by simpa using hc
      exact Or.inr ⟨rfl, this.symm⟩
  have hold : ∀ (R : Nat → Int), (∀ j, j < 7 * L.length → R j = s.1 45 j) → ∀ c a, c < L.length → L[c]? = some a → k_row b n R c a := by
    intro R hR c a hc ha
    exact (hrow c a ha).keep (fun j j1 j2 => hR j (by omega))
  have hLO' := hLO.snoc (e := (w, t_x b n p)) hunset
  have hble := t_bd_le (b := b) (n := n) (w := w) hx.2
  refine dw_iln (x := (w : Int)) rfl rfl (dw_ic rfl ?_)
  by_cases w3 : w < 3
  · 
    have ebd : t_bd b n w (t_x b n p) = t_P b n (Nat.beq w 1) 4000 2 0 0 (t_x b n p) := if_pos w3
    have hpl := t_po_law o hLO.1 w w3 (hunset w3)
    have hp3 := t_po_3 (o + 2 ^ w)
    refine dw_gt_n rfl (u := 126) rfl ⟨by omega, by omega⟩ (d_rl rfl) (by omega) (dw_aln (a := 43) rfl rfl (dw_iln (x := (w : Int)) rfl rfl ?_))
    refine y_virt (dc := 38) rfl (d_vir (n := 2) rfl rfl rfl rfl rfl hH4 d_c43_0 rfl) rfl rfl (Nat.le_refl _) (H_readLaw w3 hW hH4 c2 (by rw [k43 17 (by decide)]; exact h17) hx.2 (by omega)) ?_
    rintro v h5 ⟨t5, s5, rfl, hH5, ht5, q5, l5, sl5, bad, good⟩
    rw [← ebd] at bad good ⊢
    have g5 : k_g s0 s5 := (hg.tr g4).tr q5.g
    have e51 : s5.1 43 1 = (n : Int) := by rw [q5.1 1 (by decide), k43 1 (by decide)]; exact hT.1.1
    by_cases r0 : (t_bd b n w (t_x b n p)).1 = 0
    rotate_left
    · rw [if_pos r0] at hr
      rw [v_bf r0]
      obtain ⟨z1, z2⟩ := bad r0
      exact dw_zeq_y rfl (u := 147) rfl (d_rl rfl) rfl (H_bad (g := 1) hH5 ht5 g5 e51 (by omega) (by omega) (by omega) (by rw [hr]; exact r0) (by rw [hr]; exact z1) (by rw [hr]; exact z2))
    rw [if_neg (fun z => z r0)] at hr
    rw [v_bt r0]
    obtain ⟨z1, z2, z3, z4, z5, C, len, z6, z7⟩ := good r0
    refine dw_zeq_n rfl (u := 147) rfl (d_rl rfl) (by decide) (dw_go rfl (u := 134) rfl ?_)
    refine H_tail (g := 1) (o' := if w < 3 then o + 2 ^ w else o) (e := (w, t_x b n p)) hW hH5 ht5 g5 hble z1 (by rw [q5.1 9 (by decide)]; exact e49) z4 (by rw [z2, k43 2 (by decide)]; exact h2) (by rw [z3, k43 3 (by decide)]; exact h3) ?_ ?_ hLO' hL24 (by omega) (by omega) (by omega) (by rw [if_pos w3]; exact hpl) hr (by rw [hcw]) (by rw [hcw])
    · intro c a hc
      have e545 : s5.1 45 = d_u (s.1 45) (7 * L.length) (w : Int) := by rw [q5.2.1 45 (by decide) (by decide)]; exact e445
      rcases hne c a hc with ⟨i1, i2⟩ | ⟨i1, i2⟩
      · exact hold _ (fun j hj => by rw [e545, d_u_n (by omega)]) c a i1 i2
      · rw [i1, i2]
        refine ⟨w9, by rw [e545, d_u_t], fun i v hv => ?_⟩
        have e : t_cn b n (w, t_x b n p) = [] := if_pos w3
        rw [e] at hv; simp at hv
    · intro k hk
      have e43 : ∀ j, s5.2.1 43 j = d_u (s.2.1 43) (11 + w) (some h4.length) j := fun j => by rw [z5, e4r]
      by_cases kw : k = w
      · subst kw
        refine ⟨fun a => absurd rfl (a (k, t_x b n p) (List.mem_append_right _ List.mem_cons_self)), fun e he1 he2 => ⟨h4.length, C, len, by rw [e43, d_u_t], z6, ?_⟩⟩
        rcases List.mem_append.1 he1 with i | i
        · exact absurd he2 (hnoL hk e i)
        · rw [List.mem_singleton.1 i]; exact z7
      · obtain ⟨i1, i2⟩ := hlw k hk
        rw [e43, d_u_n (by omega)]
        refine ⟨fun a => i1 (fun e he => a e (List.mem_append_left _ he)), fun e he1 he2 => ?_⟩
        rcases List.mem_append.1 he1 with i | i
        · obtain ⟨a, C', len', j1, j2, j3⟩ := i2 e i he2
          exact ⟨a, C', len', j1, j2.le ht5, j3⟩
        · rw [List.mem_singleton.1 i] at he2; exact absurd he2.symm kw
  · 
    have ebd : t_bd b n w (t_x b n p) = t_D b n (t_dd w) (t_x b n p) := if_neg w3
    have hl := t_Dn_len (b := b) (n := n) (t_dd w) (t_x b n p)
    rw [t_dd_np w (by omega) (by omega)] at hl
    have h6 := v_np_6 w (by omega)
    obtain ⟨s5, d1, d2, d3, d4⟩ := P_krun (c := L.length + 1) hW (t_dd w) (t_x b n p) 1 s4' (fun e he => (t_dd_q w (by omega) e he).2) c2 hx.2 e49 e410 ⟨by omega, by omega⟩ (by omega)
    rw [← ebd] at d1 d3 d4
    have hF : d_b2 (F_X3_readDeed t s4' (w : Int)) (fun v s => some (v, s)) = some (v_b ((t_bd b n w (t_x b n p)).1 = 0), s5) := by rw [P_readDeed ⟨by omega, w9⟩, d1, d_b2_t]
    refine dw_gt_y rfl (u := 126) rfl ⟨by omega, by omega⟩ (d_rl rfl) (by omega) (dw_aln (a := 43) rfl rfl (dw_iln (x := (w : Int)) rfl rfl ?_))
    refine dw_vC hF rfl (d_vir (n := 2) rfl rfl rfl rfl rfl hH4 d_c43_0 rfl) rfl rfl rfl (dc := 3) (fun _ _ e => D_X3_readDeed e hH4 ⟨by omega, by omega⟩) (fun v s5' h5 hH5 r_v hF2 => ?_)
    have e3 : v = v_b ((t_bd b n w (t_x b n p)).1 = 0) ∧ s5' = s5 := by
      have := Option.some.inj hF2
      injection this with z1 z2
      exact ⟨z1, z2⟩
    obtain ⟨e1, e2⟩ := e3
    subst e2
    subst e1
    have l5 := y_len hH4 hH5
    have sl5 := y_sl hH4 hH5
    have g5 : k_g s0 s5' := (hg.tr g4).tr d2.g
    have e51 : s5'.1 43 1 = (n : Int) := by rw [d2.1 1 (by decide), k43 1 (by decide)]; exact hT.1.1
    by_cases r0 : (t_bd b n w (t_x b n p)).1 = 0
    rotate_left
    · rw [if_pos r0] at hr
      rw [v_bf r0]
      obtain ⟨z1, z2⟩ := d4 r0
      exact dw_zeq_y rfl (u := 147) rfl (d_rl rfl) rfl (H_bad (g := 0) hH5 (fun _ _ q => q) g5 e51 (by omega) (by omega) (t_po_3 o) (by rw [hr]; exact r0) (by rw [hr]; exact z1) (by rw [hr]; exact z2))
    rw [if_neg (fun z => z r0)] at hr
    rw [v_bt r0]
    obtain ⟨z1, z2, z3, z4⟩ := d3 r0
    refine dw_zeq_n rfl (u := 147) rfl (d_rl rfl) (by decide) ?_
    rw [show (L.length + 1 - 1) * 7 + 1 = 7 * L.length + 1 by omega, e445] at z2
    refine H_tail (g := 0) (o' := if w < 3 then o + 2 ^ w else o) (e := (w, t_x b n p)) hW hH5 (fun _ _ q => q) g5 hble z1 (by rw [d2.1 9 (by decide)]; exact e49) (by rw [d2.1 17 (by decide), k43 17 (by decide)]; exact h17) (by rw [z3, k43 2 (by decide)]; exact h2) (by rw [z4, k43 3 (by decide)]; exact h3) ?_ ?_ hLO' hL24 (by omega) (by omega) (t_po_3 o) (by rw [if_neg w3]; rfl) hr (by rw [hcw]) (by rw [hcw])
    · intro c a hc
      rw [z2]
      rcases hne c a hc with ⟨i1, i2⟩ | ⟨i1, i2⟩
      · exact hold _ (fun j hj => by rw [l_wr_out _ _ _ _ (by omega), d_u_n (by omega)]) c a i1 i2
      · rw [i1, i2]
        refine ⟨w9, by rw [l_wr_out _ _ _ _ (by omega), d_u_t], fun i v hv => ?_⟩
        have e : t_cn b n (w, t_x b n p) = t_Dn b n (t_dd w) (t_x b n p) := if_neg w3
        rw [e] at hv
        exact l_wr_in _ _ _ _ _ hv
    · intro k hk
      obtain ⟨i1, i2⟩ := hlw k hk
      rw [d2.2.2, e4r]
      refine ⟨fun a => i1 (fun e he => a e (List.mem_append_left _ he)), fun e he1 he2 => ?_⟩
      rcases List.mem_append.1 he1 with i | i
      · exact i2 e i he2
      · rw [List.mem_singleton.1 i] at he2
        exact absurd he2 (by show ¬ w = k; omega)
end X23

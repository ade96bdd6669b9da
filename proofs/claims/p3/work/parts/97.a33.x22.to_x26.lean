section X22
variable {s0 s s1 s' : d_S} {t t' : Nat → Option p_C} {h : p_H} {b : Nat → Nat} {n p w o m : Nat} {L : List (Nat × Nat)} {Q : Option Value → p_H → Prop}
def H_ls (x : Int) : p_Ls := p_s1 (lv_args 0 [.ref 43]) 1 (.int (Int32.ofInt x))
theorem H_pre0 (hH : d_V t h s) (hw : w ≤ 9) (hno : w < 3 → s.2.1 43 (11 + w) = none) (K : p_wp p_GT p_MT 39 m_X3_readClause 70 (H_ls (w : Int)) [] h Q) : p_wp p_GT p_MT 39 m_X3_readClause 29 (H_ls (w : Int)) [] h Q := by
  have hR : d_R (w : Int) := ⟨by omega, by omega⟩
  have k54 : ¬ (w = 0) → ¬ (w = 1) → p_wp p_GT p_MT 39 m_X3_readClause 52 (H_ls (w : Int)) [] h Q := by
    intro w0 w1
    refine dw_iln (x := (w : Int)) rfl rfl (dw_ic rfl ?_)
    by_cases w2 : w = 2
    · subst w2
      exact dw_ne_y rfl (u := 70) rfl hR (d_rl rfl) rfl (dw_aln (a := 43) rfl rfl (dw_go_ (k := 13) rfl rfl rfl hH d_c43_13 (dw_nn rfl (u := 70) rfl (hno (by decide)) K)))
    · exact dw_ne_n rfl (u := 70) rfl hR (d_rl rfl) (by omega) K
  have k40 : ¬ (w = 0) → p_wp p_GT p_MT 39 m_X3_readClause 40 (H_ls (w : Int)) [] h Q := by
    intro w0
    refine dw_iln (x := (w : Int)) rfl rfl (dw_ic rfl ?_)
    by_cases w1 : w = 1
    · subst w1
      refine dw_ne_y rfl (u := 52) rfl hR (d_rl rfl) rfl (dw_aln (a := 43) rfl rfl (dw_go_ (k := 12) rfl rfl rfl hH d_c43_12 (dw_nnn rfl (hno (by decide)) ?_)))
      exact dw_iln (x := ((1 : Nat) : Int)) rfl rfl (dw_ic rfl (dw_ne_n rfl (u := 70) rfl hR (d_rl rfl) (by decide) K))
    · exact dw_ne_n rfl (u := 52) rfl hR (d_rl rfl) (by omega) (k54 w0 w1)
  refine dw_iln (x := (w : Int)) rfl rfl ?_
  by_cases w0 : w = 0
  · subst w0
    refine dw_zne_y rfl (u := 40) rfl hR rfl (dw_aln (a := 43) rfl rfl (dw_go_ (k := 11) rfl rfl rfl hH d_c43_11 (dw_nnn rfl (hno (by decide)) ?_)))
    exact dw_iln (x := ((0 : Nat) : Int)) rfl rfl (dw_ic rfl (dw_ne_n rfl (u := 52) rfl hR (d_rl rfl) (by decide) (dw_iln (x := ((0 : Nat) : Int)) rfl rfl (dw_ic rfl (dw_ne_n rfl (u := 70) rfl hR (d_rl rfl) (by decide) K)))))
  · exact dw_zne_n rfl (u := 40) rfl hR (by omega) (k40 w0)
theorem H_pre1 (hH : d_V t h s) (hw : w < 3) {a : Nat} (hyes : s.2.1 43 (11 + w) = some a) (K : p_wp p_GT p_MT 39 m_X3_readClause 64 (H_ls (w : Int)) [] h Q) : p_wp p_GT p_MT 39 m_X3_readClause 29 (H_ls (w : Int)) [] h Q := by
  have hR : d_R (w : Int) := ⟨by omega, by omega⟩
  refine dw_iln (x := (w : Int)) rfl rfl ?_
  by_cases w0 : w = 0
  · subst w0
    exact dw_zne_y rfl (u := 40) rfl hR rfl (dw_aln (a := 43) rfl rfl (dw_go_ (k := 11) rfl rfl rfl hH d_c43_11 (dw_nns rfl (u := 64) rfl hyes K)))
  refine dw_zne_n rfl (u := 40) rfl hR (by omega) (dw_iln (x := (w : Int)) rfl rfl (dw_ic rfl ?_))
  by_cases w1 : w = 1
  · subst w1
    exact dw_ne_y rfl (u := 52) rfl hR (d_rl rfl) rfl (dw_aln (a := 43) rfl rfl (dw_go_ (k := 12) rfl rfl rfl hH d_c43_12 (dw_nns rfl (u := 64) rfl hyes K)))
  have w2 : w = 2 := by omega
  subst w2
  exact dw_ne_n rfl (u := 52) rfl hR (d_rl rfl) (by decide) (dw_iln (x := ((2 : Nat) : Int)) rfl rfl (dw_ic rfl (dw_ne_y rfl (u := 70) rfl hR (d_rl rfl) rfl (dw_aln (a := 43) rfl rfl (dw_go_ (k := 13) rfl rfl rfl hH d_c43_13 (dw_ns rfl hyes K))))))
theorem H_out {r : Nat × Nat} {f : Nat} (hH : d_V t h s) (hT : k_T b n p s) (hg : k_g s0 s) (hr : r = (f, p)) (hf : f ≠ 0) (hf9 : f ≤ 9) {pc : Nat} {x : Int} (hat : p_at pc m_X3_readClause.2.2.2.2.1 = some (.invokevirtual 103, 3)) (hat2 : p_at (pc + 3) m_X3_readClause.2.2.2.2.1 = some (.ireturn, 1)) : p_wp p_GT p_MT 39 m_X3_readClause pc (H_ls x) [.int (Int32.ofInt (f : Int)), .ref 43] h (H_Q s0 b n p o L t h r) := by
  obtain ⟨s2, a1, -⟩ := P_wrong (s := s) (p := p) (f := (f : Int)) hT.2.1.2.1
  have hF : d_b2 (F_X3_wrong s (f : Int)) (fun v s2 => some (v, s2)) = some (0, s2) := by rw [a1, d_b2_t]
  refine dw_vC hF hat (d_vir (n := 2) rfl rfl rfl rfl rfl hH d_c43_0 rfl) rfl rfl rfl (dc := 0) (fun _ _ e => D_X3_wrong e hH ⟨by omega, by omega⟩) (fun v s3 h3 hH3 r_v hF2 => ?_)
  have e3 : v = 0 ∧ s3 = s2 := by
    have := Option.some.inj hF2
    injection this with z1 z2
    exact ⟨z1, z2⟩
  obtain ⟨e1, e2⟩ := e3
  subst e2
  obtain ⟨z1, z2⟩ := H_wrong (o := o) (L := L) hH hT hg hr hf hH3 a1
  rw [e1]
  exact y_ret hat2 rfl (Or.inl rfl) z2
end X22
section X23
variable {s0 s s1 s' : d_S} {t t' : Nat → Option p_C} {h : p_H} {b : Nat → Nat} {n p q w o m : Nat} {L : List (Nat × Nat)} {Q : Option Value → p_H → Prop}
theorem k_wds.le (hW : k_wds t) (ht : v_tle t t') : k_wds t' := by
  unfold k_wds at hW ⊢
  rw [← hW]
  unfold d_tw
  cases h1 : t 1 with
  | none => unfold d_tw at hW; rw [h1] at hW; cases hW
  | some c => rw [ht 1 c h1]
theorem v_tle.tr {t1 t2 t3 : Nat → Option p_C} (h : v_tle t1 t2) (h' : v_tle t2 t3) : v_tle t1 t3 := fun i c q => h' i c (h i c q)
theorem H_tail {r : Nat × Nat} {t5 : Nat → Option p_C} {s5 : d_S} {h5 : p_H} {g o' : Nat} {e : Nat × Nat} {x : Int} (hW : k_wds t) (hH5 : d_V t5 h5 s5) (ht : v_tle t t5) (hg : k_g s0 s5) (hq : q ≤ n) (hT : k_T b n q s5) (h9 : s5.1 43 9 = ((L.length + 1 : Nat) : Int)) (h17 : s5.1 43 17 = 0) (h2 : s5.1 43 2 = 0) (h3 : s5.1 43 3 = -1) (hrow : ∀ c a, (L ++ [e])[c]? = some a → k_row b n (s5.1 45) c a) (hlw : k_laws t5 s5 b n (L ++ [e])) (hLO : t_LO (L ++ [e]) o') (hL : L.length < 24) (hl1 : h5.length ≤ h.length + g) (hl2 : p_sl h5 ≤ p_sl h + 600 * g) (hpo : t_po o + g ≤ 3) (hpo2 : t_po o' = t_po o + g) (hr : r = if t_is b n q 59 = true then (0, t_x b n q) else (1, q)) (he : e = (t_cw b n p, t_x b n p)) (ho' : o' = if t_cw b n p < 3 then o + 2 ^ t_cw b n p else o) : p_wp p_GT p_MT 39 m_X3_readClause 134 (H_ls x) [] h5 (H_Q s0 b n p o L t h r) := by
  have hW5 := hW.le ht
  refine dw_aln (a := 43) rfl rfl (dw_bp (c := 59) rfl rfl ?_)
  rcases P_takeSign hW5 hT hq (c := 59) with ⟨z, s6, c1, c2, c3⟩ | ⟨z, s6, c1, c2, c3, c4⟩
  · rw [if_pos z] at hr
    have hF : d_b2 (F_X3_takeSign t5 s5 59) (fun v s => some (v, s)) = some (1, s6) := by
      have c1' : F_X3_takeSign t5 s5 59 = some (1, s6) := c1
      rw [c1', d_b2_t]
    refine dw_vC hF rfl (d_vir (n := 2) rfl rfl rfl rfl rfl hH5 d_c43_0 rfl) rfl rfl rfl (dc := 2) (fun _ _ e => D_X3_takeSign e hH5 (d_rl rfl)) (fun v s7 h7 hH7 r_v hF2 => ?_)
    have e3 : v = 1 ∧ s7 = s6 := by
      have := Option.some.inj hF2
      injection this with z1 z2
      exact ⟨z1, z2⟩
    obtain ⟨e1, e2⟩ := e3
    subst e2
    subst e1
    have y1 := y_len hH5 hH7
    have y2 := y_sl hH5 hH7
    refine dw_zeq_n rfl (u := 147) rfl (d_rl rfl) (by decide) (dw_ic rfl (dw_go rfl (u := 148) rfl (y_ret rfl rfl (Or.inr rfl) ?_)))
    refine ⟨t5, s7, g, by rw [hr]; rfl, hH7, ht, hg.tr c3.g, c2.1.1, by omega, by omega, hpo, fun a => absurd (by rw [hr]) a, fun _ => ⟨hL, by rw [← ho']; exact hpo2, ?_⟩⟩
    rw [← ho', ← he, hr]
    refine ⟨c2, ⟨by rw [c3.1 9 (by decide), List.length_append]; exact h9, by rw [c3.1 17 (by decide)]; exact h17, by rw [c3.1 2 (by decide)]; exact h2, by rw [c3.1 3 (by decide)]; exact h3⟩, fun c a hc => by rw [c3.2.1 45 (by decide)]; exact hrow c a hc, hlw.le (fun _ _ q => q) (by rw [c3.2.2]), hLO, by rw [List.length_append]; show L.length + 1 ≤ 24; omega, hg.tr c3.g⟩
  · rw [if_neg (by rw [z]; decide)] at hr
    have hF : d_b2 (F_X3_takeSign t5 s5 59) (fun v s => some (v, s)) = some (0, s6) := by
      have c1' : F_X3_takeSign t5 s5 59 = some (0, s6) := c1
      rw [c1', d_b2_t]
    refine dw_vC hF rfl (d_vir (n := 2) rfl rfl rfl rfl rfl hH5 d_c43_0 rfl) rfl rfl rfl (dc := 2) (fun _ _ e => D_X3_takeSign e hH5 (d_rl rfl)) (fun v s7 h7 hH7 r_v hF2 => ?_)
    have e3 : v = 0 ∧ s7 = s6 := by
      have := Option.some.inj hF2
      injection this with z1 z2
      exact ⟨z1, z2⟩
    obtain ⟨e1, e2⟩ := e3
    subst e2
    subst e1
    have y1 := y_len hH5 hH7
    have y2 := y_sl hH5 hH7
    refine dw_zeq_y rfl (u := 147) rfl (d_rl rfl) rfl (dw_ic rfl (y_ret rfl rfl (Or.inl rfl) ?_))
    exact ⟨t5, s7, g, by rw [hr]; rfl, hH7, ht, hg.tr c4.g, by rw [c4.1 1 (by decide)]; exact hT.1.1, by omega, by omega, hpo, fun _ => by rw [hr]; exact ⟨c2, c3⟩, fun a => absurd (by rw [hr] at a; exact a) (show ¬ (1 : Nat) = 0 by decide)⟩
theorem H_bad {r : Nat × Nat} {t5 : Nat → Option p_C} {s5 : d_S} {h5 : p_H} {g : Nat} {x : Int} (hH5 : d_V t5 h5 s5) (ht : v_tle t t5) (hg : k_g s0 s5) (h1 : s5.1 43 1 = (n : Int)) (hl1 : h5.length ≤ h.length + g) (hl2 : p_sl h5 ≤ p_sl h + 600 * g) (hpo : t_po o + g ≤ 3) (hr : r.1 ≠ 0) (h2 : s5.1 43 2 = (r.1 : Int)) (h3 : s5.1 43 3 = (r.2 : Int)) : p_wp p_GT p_MT 39 m_X3_readClause 147 (H_ls x) [] h5 (H_Q s0 b n p o L t h r) :=
  dw_ic rfl (y_ret rfl rfl (Or.inl rfl) ⟨t5, s5, g, by rw [v_bf hr], hH5, ht, hg, h1, hl1, hl2, hpo, fun _ => ⟨h2, h3⟩, fun q => absurd q hr⟩)
theorem H_clause (hW : k_wds t) (hH : d_V t h s) (hI : k_I s0 b n p o L t s) (hp : p ≤ n) : p_wp p_GT p_MT 39 m_X3_readClause 0 (lv_args 0 [.ref 43]) [] h (H_Q s0 b n p o L t h (t_cl b n L.length o p)) := by
  obtain ⟨hT, ⟨h9, h17, h2, h3⟩, hrow, hlw, hLO, hL, hg⟩ := hI
  have hn := hT.1.2.1
  obtain ⟨r, hr⟩ : ∃ z, z = t_cl b n L.length o p := ⟨_, rfl⟩
  rw [← hr]
  rw [t_cl_bd] at hr
  refine dw_aln (a := 43) rfl rfl (dw_gi (k := 7) rfl rfl rfl hH d_c43_7 (dw_isn rfl rfl ?_))
  show p_wp p_GT p_MT 39 m_X3_readClause _ (H_ls (s.1 43 7)) [] h _
  refine dw_aln (a := 43) rfl rfl (dw_gi (k := 6) rfl rfl rfl hH d_c43_6 (dw_ic rfl ?_))
  by_cases k1 : t_k b n p = 1
  rotate_left
  · have h10 : t_cw b n p = 10 := by
      by_cases z : t_cw b n p = 10
      · exact z
      · exact absurd (t_cw_k z).2 k1
    rw [if_pos h10] at hr
    exact dw_ne_n rfl (u := 23) rfl hH.r (d_rl rfl) (by rw [hT.2.1.2.2]; omega) (dw_aln (a := 43) rfl rfl (dw_ic rfl (H_out (f := 1) (pc := 25) hH hT hg hr (by decide) (by decide) rfl rfl)))
  obtain ⟨C1, C2, C3⟩ := H_cw hT hp k1
  refine dw_ne_y rfl (u := 23) rfl hH.r (d_rl rfl) (by rw [hT.2.1.2.2, k1]; rfl) (dw_iln (x := s.1 43 7) rfl rfl (dw_ic rfl (dw_bp (c := 9) rfl rfl ?_)))
  have hF : d_b (F_X11_within (s.1 43 7) 0 9) (fun v => some v) = some (v_b (0 ≤ s.1 43 7 ∧ s.1 43 7 ≤ 9)) := by rw [P_within, d_b_t]
  refine dw_sB hF rfl rfl rfl rfl rfl (dc := 0) (fun _ e => D_X11_within e hH.r (d_rl rfl) (d_rl rfl)) (fun v r_v hF2 => ?_)
  have hv : v = v_b (0 ≤ s.1 43 7 ∧ s.1 43 7 ≤ 9) := Option.some.inj hF2
  subst hv
  by_cases hin : 0 ≤ s.1 43 7 ∧ s.1 43 7 ≤ 9
  rotate_left
  · have h10 : t_cw b n p = 10 := C3 (fun k hk e => hin (by omega))
    rw [if_pos h10] at hr
    rw [v_bf hin]
    exact dw_zne_y rfl (u := 29) rfl (d_rl rfl) rfl (dw_aln (a := 43) rfl rfl (dw_ic rfl (H_out (f := 1) (pc := 25) hH hT hg hr (by decide) (by decide) rfl rfl)))
  rw [v_bt hin]
  obtain ⟨w, hw⟩ : ∃ w : Nat, s.1 43 7 = (w : Int) := ⟨(s.1 43 7).toNat, by omega⟩
  have w9 : w ≤ 9 := by omega
  have hcw := C2 w w9 hw
  rw [hw]
  refine dw_zne_n rfl (u := 29) rfl (d_rl rfl) (by decide) ?_
  rw [hcw, if_neg (show ¬ w = 10 by omega)] at hr
  by_cases hset : w < 3 ∧ o / 2 ^ w % 2 = 1
  · rw [if_pos hset] at hr
    obtain ⟨e, he1, he2⟩ := (hLO.2.1 w hset.1).1 hset.2
    obtain ⟨a, C, len, ha, -⟩ := (hlw w hset.1).2 e he1 he2
    exact H_pre1 hH hset.1 ha (dw_aln (a := 43) rfl rfl (dw_ic rfl (H_out (f := 4) (pc := 66) hH hT hg hr (by decide) (by decide) rfl rfl)))
  rw [if_neg hset] at hr
  have hunset : w < 3 → ¬ o / 2 ^ w % 2 = 1 := fun a c => hset ⟨a, c⟩
  have hnoL : w < 3 → ∀ e, e ∈ L → e.1 ≠ w := fun a e he he2 => hunset a ((hLO.2.1 w a).2 ⟨e, he, he2⟩)
  refine H_pre0 hH w9 (fun a => (hlw w a).1 (hnoL a)) ?_
  refine dw_aln (a := 43) rfl rfl (dw_gi (k := 9) rfl rfl rfl hH d_c43_9 (dw_bp (c := 24) rfl rfl ?_))
  by_cases h24 : L.length = 24
  · rw [if_pos h24] at hr
    exact dw_lt_n rfl (u := 86) rfl hH.r (d_rl rfl) (by rw [h9]; omega) (dw_aln (a := 43) rfl rfl (dw_bp (c := 6) rfl rfl (H_out (f := 6) (pc := 82) hH hT hg hr (by decide) (by decide) rfl rfl)))
  rw [if_neg h24] at hr
  have hL24 : L.length < 24 := by omega
  refine dw_lt_y rfl (u := 86) rfl hH.r (d_rl rfl) (by rw [h9]; omega) ?_
  have hx := t_x_lt (b := b) (t_k_lt (b := b) (n := n) (p := p) (by omega))
  obtain ⟨s1, hs1⟩ : ∃ z, z = d_si s 43 9 (s.1 43 9 + 1) := ⟨_, rfl⟩
  obtain ⟨s2, hs2⟩ : ∃ z, z = d_si s1 43 10 0 := ⟨_, rfl⟩
  have f2 : k_f [9, 10] s s2 := by rw [hs2, hs1]; exact (k_f.si (by decide)).tr (k_f.si (by decide))
  have e29 : s2.1 43 9 = ((L.length + 1 : Nat) : Int) := by rw [hs2, d_si_i, d_u_n (by decide), hs1, d_si_i, d_u_t, h9]; rfl
  have e210 : s2.1 43 10 = ((0 : Nat) : Int) := by rw [hs2, d_si_i, d_u_t]; rfl
  obtain ⟨s3, a1, a2, a3, a4⟩ := P_addPart (v := w) e29 e210 ⟨by omega, by omega⟩ (by decide)
  have hT3 : k_T b n p s3 := k_j.T (hT.f f2 (by decide)) a4 (by decide)
  obtain ⟨s4, c1, c2, c3⟩ := P_step hW hT3 hp
  have hF : d_l (d_si s 43 9 (s.1 43 9 + 1)) (fun s1 => d_l (d_si s1 43 10 0) (fun s2 => d_b (F_X3_addPart s2 (w : Int)) (fun s3 => d_b (F_X3_step t s3) (fun s4 => some s4)))) = some s4 := by
    rw [d_l_t, ← hs1, d_l_t, ← hs2, a1, d_b_t, c1, d_b_t]
  have h9R : d_R (s.1 43 9 + 1) := by rw [h9]; exact ⟨by omega, by omega⟩
  refine dw_aln (a := 43) rfl rfl (dw_dupr rfl (dw_gi (k := 9) rfl rfl rfl hH d_c43_9 (dw_ic rfl (dw_add rfl (dw_pi (k := 9) rfl rfl rfl rfl hH d_c43_9 h9R (by decide) hF (fun s1' h1 hH1 hF => ?_))))))
  refine dw_aln (a := 43) rfl rfl (dw_ic rfl (dw_pi (k := 10) rfl rfl rfl rfl hH1 d_c43_10 (d_rl rfl) (by decide) hF (fun s2' h2' hH2 hF => ?_)))
  refine dw_aln (a := 43) rfl rfl (dw_iln (x := (w : Int)) rfl rfl (dw_vV hF rfl (d_vir (n := 2) rfl rfl rfl rfl rfl hH2 d_c43_0 rfl) rfl rfl rfl (dc := 1) (fun _ e => D_X3_addPart e hH2 ⟨by omega, by omega⟩) (fun s3' h3' hH3 hF => ?_)))
  refine dw_aln (a := 43) rfl rfl (dw_vV hF rfl (d_vir (n := 1) rfl rfl rfl rfl rfl hH3 d_c43_0 rfl) rfl rfl rfl (dc := 1) (fun _ e => D_X3_step e hH3) (fun s4' h4 hH4 hF => ?_))
  have es : s4' = s4 := Option.some.inj hF
  subst es
  clear hF
  have l4 := y_len hH hH4
  have sl4 := y_sl hH hH4
  have g4 : k_g s s4' := (f2.g.tr a4.g).tr c3.g
  have k43 : ∀ k, k ∉ [4, 5, 6, 7, 9, 10] → s4'.1 43 k = s.1 43 k := fun k hk => by
    simp only [List.mem_cons, List.not_mem_nil, or_false, not_or] at hk
    rw [c3.1 k (by simp only [List.mem_cons, List.not_mem_nil, or_false, not_or]; omega), a4.1 k (by simp only [List.mem_cons, List.not_mem_nil, or_false, not_or]; omega), f2.1 k (by simp only [List.mem_cons, List.not_mem_nil, or_false, not_or]; omega)]
  have e49 : s4'.1 43 9 = ((L.length + 1 : Nat) : Int) := by rw [c3.1 9 (by decide), a4.1 9 (by decide)]; exact e29
  have e410 : s4'.1 43 10 = ((1 : Nat) : Int) := by rw [c3.1 10 (by decide)]; exact a3
  have e445 : s4'.1 45 = d_u (s.1 45) (7 * L.length) (w : Int) := by
    rw [c3.2.1 45 (by decide), a2, f2.2.1 45 (by decide), show (L.length + 1 - 1) * 7 + 0 = 7 * L.length by omega]
  have e4r : s4'.2 = s.2 := by rw [c3.2.2, a4.2.2, f2.2.2]
  have hne : ∀ c a, (L ++ [(w, t_x b n p)])[c]? = some a → (c < L.length ∧ L[c]? = some a) ∨ (c = L.length ∧ a = (w, t_x b n p)) := by
    intro c a hc
    by_cases z : c < L.length
    · rw [List.getElem?_append_left z] at hc
      exact Or.inl ⟨z, hc⟩
    · have hc2 : c = L.length := by
        by_cases z2 : c = L.length
        · exact z2
        · rw [List.getElem?_eq_none (by rw [List.length_append]; show L.length + 1 ≤ c; omega)] at hc; cases hc
      subst hc2
      rw [List.getElem?_append_right (Nat.le_refl _), Nat.sub_self] at hc
      have : (w, t_x b n p) = a := by simpa using hc
      exact Or.inr ⟨rfl, this.symm⟩
  have hold : ∀ (R : Nat → Int), (∀ j, j < 7 * L.length → R j = s.1 45 j) → ∀ c a, c < L.length → L[c]? = some a → k_row b n R c a := by
    intro R hR c a hc ha
    exact (hrow c a ha).keep (fun j j1 j2 => hR j (by omega))
  have hLO' := hLO.snoc (e := (w, t_x b n p)) hunset
  have hble := t_bd_le (b := b) (n := n) (w := w) hx.2
  refine dw_iln (x := (w : Int)) rfl rfl (dw_ic rfl ?_)
  by_cases w3 : w < 3
  · 
    have ebd : t_bd b n w (t_x b n p) = t_P b n (Nat.beq w 1) 4000 2 0 0 (t_x b n p) := if_pos w3
    have hpl := t_po_law o hLO.1 w w3 (hunset w3)
    have hp3 := t_po_3 (o + 2 ^ w)
    refine dw_gt_n rfl (u := 126) rfl ⟨by omega, by omega⟩ (d_rl rfl) (by omega) (dw_aln (a := 43) rfl rfl (dw_iln (x := (w : Int)) rfl rfl ?_))
    refine y_virt (dc := 38) rfl (d_vir (n := 2) rfl rfl rfl rfl rfl hH4 d_c43_0 rfl) rfl rfl (Nat.le_refl _) (H_readLaw w3 hW hH4 c2 (by rw [k43 17 (by decide)]; exact h17) hx.2 (by omega)) ?_
    rintro v h5 ⟨t5, s5, rfl, hH5, ht5, q5, l5, sl5, bad, good⟩
    rw [← ebd] at bad good ⊢
    have g5 : k_g s0 s5 := (hg.tr g4).tr q5.g
    have e51 : s5.1 43 1 = (n : Int) := by rw [q5.1 1 (by decide), k43 1 (by decide)]; exact hT.1.1
    by_cases r0 : (t_bd b n w (t_x b n p)).1 = 0
    rotate_left
    · rw [if_pos r0] at hr
      rw [v_bf r0]
      obtain ⟨z1, z2⟩ := bad r0
      exact dw_zeq_y rfl (u := 147) rfl (d_rl rfl) rfl (H_bad (g := 1) hH5 ht5 g5 e51 (by omega) (by omega) (by omega) (by rw [hr]; exact r0) (by rw [hr]; exact z1) (by rw [hr]; exact z2))
    rw [if_neg (fun z => z r0)] at hr
    rw [v_bt r0]
    obtain ⟨z1, z2, z3, z4, z5, C, len, z6, z7⟩ := good r0
    refine dw_zeq_n rfl (u := 147) rfl (d_rl rfl) (by decide) (dw_go rfl (u := 134) rfl ?_)
    refine H_tail (g := 1) (o' := if w < 3 then o + 2 ^ w else o) (e := (w, t_x b n p)) hW hH5 ht5 g5 hble z1 (by rw [q5.1 9 (by decide)]; exact e49) z4 (by rw [z2, k43 2 (by decide)]; exact h2) (by rw [z3, k43 3 (by decide)]; exact h3) ?_ ?_ hLO' hL24 (by omega) (by omega) (by omega) (by rw [if_pos w3]; exact hpl) hr (by rw [hcw]) (by rw [hcw])
    · intro c a hc
      have e545 : s5.1 45 = d_u (s.1 45) (7 * L.length) (w : Int) := by rw [q5.2.1 45 (by decide) (by decide)]; exact e445
      rcases hne c a hc with ⟨i1, i2⟩ | ⟨i1, i2⟩
      · exact hold _ (fun j hj => by rw [e545, d_u_n (by omega)]) c a i1 i2
      · rw [i1, i2]
        refine ⟨w9, by rw [e545, d_u_t], fun i v hv => ?_⟩
        have e : t_cn b n (w, t_x b n p) = [] := if_pos w3
        rw [e] at hv; simp at hv
    · intro k hk
      have e43 : ∀ j, s5.2.1 43 j = d_u (s.2.1 43) (11 + w) (some h4.length) j := fun j => by rw [z5, e4r]
      by_cases kw : k = w
      · subst kw
        refine ⟨fun a => absurd rfl (a (k, t_x b n p) (List.mem_append_right _ List.mem_cons_self)), fun e he1 he2 => ⟨h4.length, C, len, by rw [e43, d_u_t], z6, ?_⟩⟩
        rcases List.mem_append.1 he1 with i | i
        · exact absurd he2 (hnoL hk e i)
        · rw [List.mem_singleton.1 i]; exact z7
      · obtain ⟨i1, i2⟩ := hlw k hk
        rw [e43, d_u_n (by omega)]
        refine ⟨fun a => i1 (fun e he => a e (List.mem_append_left _ he)), fun e he1 he2 => ?_⟩
        rcases List.mem_append.1 he1 with i | i
        · obtain ⟨a, C', len', j1, j2, j3⟩ := i2 e i he2
          exact ⟨a, C', len', j1, j2.le ht5, j3⟩
        · rw [List.mem_singleton.1 i] at he2; exact absurd he2.symm kw
  · 
    have ebd : t_bd b n w (t_x b n p) = t_D b n (t_dd w) (t_x b n p) := if_neg w3
    have hl := t_Dn_len (b := b) (n := n) (t_dd w) (t_x b n p)
    rw [t_dd_np w (by omega) (by omega)] at hl
    have h6 := v_np_6 w (by omega)
    obtain ⟨s5, d1, d2, d3, d4⟩ := P_krun (c := L.length + 1) hW (t_dd w) (t_x b n p) 1 s4' (fun e he => (t_dd_q w (by omega) e he).2) c2 hx.2 e49 e410 ⟨by omega, by omega⟩ (by omega)
    rw [← ebd] at d1 d3 d4
    have hF : d_b2 (F_X3_readDeed t s4' (w : Int)) (fun v s => some (v, s)) = some (v_b ((t_bd b n w (t_x b n p)).1 = 0), s5) := by rw [P_readDeed ⟨by omega, w9⟩, d1, d_b2_t]
    refine dw_gt_y rfl (u := 126) rfl ⟨by omega, by omega⟩ (d_rl rfl) (by omega) (dw_aln (a := 43) rfl rfl (dw_iln (x := (w : Int)) rfl rfl ?_))
    refine dw_vC hF rfl (d_vir (n := 2) rfl rfl rfl rfl rfl hH4 d_c43_0 rfl) rfl rfl rfl (dc := 3) (fun _ _ e => D_X3_readDeed e hH4 ⟨by omega, by omega⟩) (fun v s5' h5 hH5 r_v hF2 => ?_)
    have e3 : v = v_b ((t_bd b n w (t_x b n p)).1 = 0) ∧ s5' = s5 := by
      have := Option.some.inj hF2
      injection this with z1 z2
      exact ⟨z1, z2⟩
    obtain ⟨e1, e2⟩ := e3
    subst e2
    subst e1
    have l5 := y_len hH4 hH5
    have sl5 := y_sl hH4 hH5
    have g5 : k_g s0 s5' := (hg.tr g4).tr d2.g
    have e51 : s5'.1 43 1 = (n : Int) := by rw [d2.1 1 (by decide), k43 1 (by decide)]; exact hT.1.1
    by_cases r0 : (t_bd b n w (t_x b n p)).1 = 0
    rotate_left
    · rw [if_pos r0] at hr
      rw [v_bf r0]
      obtain ⟨z1, z2⟩ := d4 r0
      exact dw_zeq_y rfl (u := 147) rfl (d_rl rfl) rfl (H_bad (g := 0) hH5 (fun _ _ q => q) g5 e51 (by omega) (by omega) (t_po_3 o) (by rw [hr]; exact r0) (by rw [hr]; exact z1) (by rw [hr]; exact z2))
    rw [if_neg (fun z => z r0)] at hr
    rw [v_bt r0]
    obtain ⟨z1, z2, z3, z4⟩ := d3 r0
    refine dw_zeq_n rfl (u := 147) rfl (d_rl rfl) (by decide) ?_
    rw [show (L.length + 1 - 1) * 7 + 1 = 7 * L.length + 1 by omega, e445] at z2
    refine H_tail (g := 0) (o' := if w < 3 then o + 2 ^ w else o) (e := (w, t_x b n p)) hW hH5 (fun _ _ q => q) g5 hble z1 (by rw [d2.1 9 (by decide)]; exact e49) (by rw [d2.1 17 (by decide), k43 17 (by decide)]; exact h17) (by rw [z3, k43 2 (by decide)]; exact h2) (by rw [z4, k43 3 (by decide)]; exact h3) ?_ ?_ hLO' hL24 (by omega) (by omega) (t_po_3 o) (by rw [if_neg w3]; rfl) hr (by rw [hcw]) (by rw [hcw])
    · intro c a hc
      rw [z2]
      rcases hne c a hc with ⟨i1, i2⟩ | ⟨i1, i2⟩
      · exact hold _ (fun j hj => by rw [l_wr_out _ _ _ _ (by omega), d_u_n (by omega)]) c a i1 i2
      · rw [i1, i2]
        refine ⟨w9, by rw [l_wr_out _ _ _ _ (by omega), d_u_t], fun i v hv => ?_⟩
        have e : t_cn b n (w, t_x b n p) = t_Dn b n (t_dd w) (t_x b n p) := if_neg w3
        rw [e] at hv
        exact l_wr_in _ _ _ _ _ hv
    · intro k hk
      obtain ⟨i1, i2⟩ := hlw k hk
      rw [d2.2.2, e4r]
      refine ⟨fun a => i1 (fun e he => a e (List.mem_append_left _ he)), fun e he1 he2 => ?_⟩
      rcases List.mem_append.1 he1 with i | i
      · exact i2 e i he2
      · rw [List.mem_singleton.1 i] at he2
        exact absurd he2 (by show ¬ w = k; omega)
end X23
section X24
variable {s s1 s' : d_S} {t : Nat → Option p_C} {h : p_H} {d : Nat} {M : p_M} {pc l : Nat} {ls : p_Ls} {st : List Value} {Q : Option Value → p_H → Prop} {x : Int} {a b : Nat} {v : Value} {vs : List Value}
theorem y_pi {X a ci k : Nat} {f : Int} (hat : p_at pc M.2.2.2.2.1 = some (.putfield X, l)) (hp : p_pk X 0 M.2.2.2.2.2.1 = some (ci, f)) (hf : f.toNat = k) (hG : (p_GT[ci]?).bind (fun r => r[f.toNat]?) = some (.int, false)) (hH : d_V t h s) (hc : d_ck a ci k 1 = true) (hx : d_R x) (h47 : ¬ (a = 5 ∨ a = 22)) (hk : ∀ h', d_V t h' (d_si s a k x) → p_wp p_GT p_MT d M (pc + 3) ls st h' Q) : p_wp p_GT p_MT d M pc ls (.int (Int32.ofInt x) :: .ref a :: st) h Q :=
  dw_pi (F := fun z => z) (r := d_si s a k x) hat hp hf hG hH hc hx h47 rfl (fun z h' hV e => hk h' (e ▸ hV))
theorem y_pb {X a ci k : Nat} {f : Int} (hat : p_at pc M.2.2.2.2.1 = some (.putfield X, l)) (hp : p_pk X 0 M.2.2.2.2.2.1 = some (ci, f)) (hf : f.toNat = k) (hG : (p_GT[ci]?).bind (fun r => r[f.toNat]?) = some (.boolean, false)) (hH : d_V t h s) (hc : d_ck a ci k 1 = true) (hb : x = 0 ∨ x = 1) (h47 : ¬ (a = 5 ∨ a = 22)) (hk : ∀ h', d_V t h' (d_si s a k x) → p_wp p_GT p_MT d M (pc + 3) ls st h' Q) : p_wp p_GT p_MT d M pc ls (.int (Int32.ofInt x) :: .ref a :: st) h Q :=
  dw_pb (F := fun z => z) (r := d_si s a k x) hat hp hf hG hH hc hb h47 rfl (fun z h' hV e => hk h' (e ▸ hV))
theorem y_newobj {X ci : Nat} {z : Int} {r : List (FieldType × Bool)} (hat : p_at pc M.2.2.2.2.1 = some (.new X, l)) (hp : p_pk X 2 M.2.2.2.2.2.1 = some (ci, z)) (hG : p_GT[ci]? = some r) (hk : p_wp p_GT p_MT d M (pc + 3) ls (.ref h.length :: st) (h ++ [(0, ci, r.map (fun q => defaultValue q.1))]) Q) : p_wp p_GT p_MT d M pc ls st h Q :=
  p_wp.step hat (by simp only [p_step, p_new, hp, hG]; rfl) hk
theorem y_putfi {X ci : Nat} {f : Int} {ty : FieldType} {fin : Bool} (hat : p_at pc M.2.2.2.2.1 = some (.putfield X, l)) (hp : p_pk X 0 M.2.2.2.2.2.1 = some (ci, f)) (hc : h[a]? = some (0, ci, vs)) (hG : (p_GT[ci]?).bind (fun r => r[f.toNat]?) = some (ty, fin)) (hfit : p_fit ty v = true) (hi : M.2.2.2.2.2.2.1 = true) (ho : Nat.beq M.2.2.2.2.2.2.2 ci = true) (hl : f.toNat < vs.length) (hk : p_wp p_GT p_MT d M (pc + 3) ls st (h.set a (0, ci, vs.set f.toNat v)) Q) : p_wp p_GT p_MT d M pc ls (v :: .ref a :: st) h Q := by
  refine p_wp.step hat ?_ hk
  have hb : Nat.blt f.toNat vs.length = true := Nat.ble_eq_true_of_le hl
  simp only [p_step, p_putf, hp, hc, Nat.beq_refl, if_true, hG, hfit, hb, hi, ho, Bool.and_self, Bool.or_true]
  rfl
theorem y_obj {X : Nat} {q : Nat × Int} (hat : p_at pc M.2.2.2.2.1 = some (.invokespecial X, l)) (hp : p_pk X 8 M.2.2.2.2.2.1 = some q) (hs : p_cat st ≤ 8) (hk : p_wp p_GT p_MT d M (pc + 3) ls st h Q) : p_wp p_GT p_MT d M pc ls (.ref a :: st) h Q :=
  p_wp.step hat (by simp only [p_step, p_invi, hp, if_pos hs]; rfl) hk
theorem y_special {X m dc : Nat} {as rest : List Value} {M' : p_M} {Q1 : Option Value → p_H → Prop} (hat : p_at pc M.2.2.2.2.1 = some (.invokespecial X, l)) (hs : p_invi M.2.2.2.2.2.1 X (pc + 3) ls st h = some (.inr (.inr (m, as, rest)))) (hM : p_MT[m]? = some M') (hc : Nat.ble (p_cat as) M'.2.2.1 = true) (hd : dc + 1 ≤ d) (h1 : p_wp p_GT p_MT dc M' 0 (lv_args 0 as) [] h Q1) (hk : ∀ v h', Q1 v h' → p_wp p_GT p_MT d M (pc + 3) ls (v.toList ++ rest) h' Q) : p_wp p_GT p_MT d M pc ls st h Q :=
  p_wp.call hat (by simp only [p_step]; exact hs) hM (Nat.le_of_ble_eq_true hc) hd h1 hk
theorem y_areturno {N : String} (hat : p_at pc M.2.2.2.2.1 = some (.areturn, l)) (hr : M.2.2.2.1 = some (.object N)) (hq : Q (some (.ref a)) h) : p_wp p_GT p_MT d M pc ls [.ref a] h Q :=
  p_wp.ret hat (by simp only [p_step, p_ret, hr]) hq
theorem y_areturnn {N : String} (hat : p_at pc M.2.2.2.2.1 = some (.areturn, l)) (hr : M.2.2.2.1 = some (.object N)) (hq : Q (some .null) h) : p_wp p_GT p_MT d M pc ls [.null] h Q :=
  p_wp.ret hat (by simp only [p_step, p_ret, hr]) hq
theorem y_textInit {e1 e2 e3 : Option Nat} {c : Int32} {f0 f1 f2 f3 f4 : Value} (hc : h[a]? = some (0, 7, [f0, f1, f2, f3, f4])) (hQ : Q none (h.set a (0, 7, [d_pv e1, d_pv e2, d_pv e3, .int c, .ref b]))) : p_wp p_GT p_MT d m_X7_init 0 (lv_args 0 [.ref a, d_pv e1, d_pv e2, d_pv e3, .ref b, .int c]) [] h Q := by
  have hal : a < h.length := (List.getElem?_eq_some_iff.mp hc).1
  have e : lv_args 0 [.ref a, d_pv e1, d_pv e2, d_pv e3, .ref b, .int c] = [(0, .ref a), (1, d_pv e1), (2, d_pv e2), (3, d_pv e3), (4, .ref b), (5, .int c)] := by
    cases e1 <;> cases e2 <;> cases e3 <;> rfl
  have ft : ∀ e : Option Nat, p_fit (.array .int) (d_pv e) = true := fun e => by cases e <;> rfl
  rw [e]
  refine dw_aln (a := a) rfl rfl (y_obj rfl rfl (by decide) (dw_aln (a := a) rfl rfl (dw_alno (e := e1) rfl rfl (y_putfi rfl rfl hc rfl (ft e1) rfl rfl (Nat.le_of_ble_eq_true rfl) ?_))))
  refine dw_aln (a := a) rfl rfl (dw_alno (e := e2) rfl rfl (y_putfi rfl rfl (List.getElem?_set_self hal) rfl (ft e2) rfl rfl (Nat.le_of_ble_eq_true rfl) ?_))
  refine dw_aln (a := a) rfl rfl (dw_alno (e := e3) rfl rfl (y_putfi rfl rfl (List.getElem?_set_self (by rw [List.length_set]; exact hal)) rfl (ft e3) rfl rfl (Nat.le_of_ble_eq_true rfl) ?_))
  refine dw_aln (a := a) rfl rfl (dw_al (a := b) rfl rfl (y_putfi rfl rfl (List.getElem?_set_self (by rw [List.length_set, List.length_set]; exact hal)) rfl rfl rfl rfl (Nat.le_of_ble_eq_true rfl) ?_))
  refine dw_aln (a := a) rfl rfl (p_wp.step (show p_at 26 m_X7_init.2.2.2.2.1 = some (.iload 5, 2) from rfl) (pc' := 28) (ls' := _) (st' := [.int c, .ref a]) (h' := _) rfl (y_putfi rfl rfl (List.getElem?_set_self (by rw [List.length_set, List.length_set, List.length_set]; exact hal)) rfl rfl rfl rfl (Nat.le_of_ble_eq_true rfl) ?_))
  refine p_wp.ret (show p_at 31 m_X7_init.2.2.2.2.1 = some (.return_, 1) from rfl) (v := none) rfl ?_
  rw [List.set_set, List.set_set, List.set_set, List.set_set]
  exact hQ
theorem H_mk {h1 : p_H} {t1 : Nat → Option p_C} {e1 e2 e3 : Option Nat} {m : Nat} (hh1 : h1 = h ++ [((0, 7, [.null, .null, .null, .int 0, .null]) : p_C)]) (hH : d_V t1 h1 s) (hm : m ≤ 24) (h9 : s.1 43 9 = (m : Int)) (l0 : p_lk 0 ls = some (.ref 43)) (hQ : ∀ rows : List Value, rows.length = 7 * m → (∀ j, j < 7 * m → rows[j]? = some (.int (Int32.ofInt (s.1 45 j)))) → Q (some (.ref h.length)) (h ++ [((0, 7, [d_pv e1, d_pv e2, d_pv e3, .int (Int32.ofInt (m : Int)), .ref (h.length + 1)]) : p_C), (1, 0, rows)])) : p_wp p_GT p_MT 40 m_X3_read 101 ls [d_pv e3, d_pv e2, d_pv e1, .ref h.length, .ref h.length] h1 Q := by
  have hal : h1.length = h.length + 1 := by rw [hh1, List.length_append]; rfl
  obtain ⟨vs, a1, a2, a3⟩ := hH.arr d_a45
  have a3' : ∀ k, k < 168 → vs[k]? = some (.int (Int32.ofInt (s.1 45 k))) := fun k hk => by
    obtain ⟨v, b1, b2⟩ := a3 k hk
    have b2 : v = .int (Int32.ofInt (s.1 45 k)) := b2
    rw [b1, b2]
  have h45 : 45 < h1.length := (List.getElem?_eq_some_iff.mp a1).1
  refine dw_aln rfl l0 (dw_gr (k := 8) rfl rfl rfl hH d_c43_8 (dw_aln rfl l0 (dw_gi (k := 9) rfl rfl rfl hH d_c43_9 (dw_bp (c := 7) rfl rfl (dw_mul rfl ?_)))))
  have e7 : s.1 43 9 * 7 = ((7 * m : Nat) : Int) := by rw [h9]; omega
  rw [e7]
  have key : ∀ (w1 w2 w3 : Option Nat), w1 = e1 → w2 = e2 → w3 = e3 → p_wp p_GT p_MT 40 m_X3_read 112 ls [.int (Int32.ofInt ((7 * m : Nat) : Int)), .ref 45, d_pv w3, d_pv w2, d_pv w1, .ref h.length, .ref h.length] h1 Q := by
    intro w1 w2 w3 i1 i2 i3
    have cpy := y_copyOf (d := 0) (n := 7 * m) (h := h1) (Q := fun v h' => v = some (.ref h1.length) ∧ h' = h1 ++ [(1, 0, vs.take (7 * m))]) a1 (by omega) (by omega) (fun j hj => ⟨_, a3' j (by omega)⟩) ⟨rfl, rfl⟩
    have hHn := y_new hH (1, 0, vs.take (7 * m))
    have hc : (h1 ++ [((1, 0, vs.take (7 * m)) : p_C)])[h.length]? = some (0, 7, [.null, .null, .null, .int 0, .null]) := by rw [List.getElem?_append_left (by omega), hh1]; simp
    have eh : (h1 ++ [((1, 0, vs.take (7 * m)) : p_C)]).set h.length (0, 7, [d_pv e1, d_pv e2, d_pv e3, .int (Int32.ofInt (m : Int)), .ref h1.length]) = h ++ [(0, 7, [d_pv e1, d_pv e2, d_pv e3, .int (Int32.ofInt (m : Int)), .ref (h.length + 1)]), (1, 0, vs.take (7 * m))] := by
      rw [hal, hh1, List.append_assoc, List.set_append_right _ _ (Nat.le_refl _), Nat.sub_self]
      rfl
    have fin := hQ (vs.take (7 * m)) (by rw [List.length_take]; omega) (fun j hj => by rw [List.getElem?_take, if_pos hj]; exact a3' j (by omega))
    rw [← eh] at fin
    have ti := y_textInit (d := 0) (a := h.length) (b := h1.length) (e1 := e1) (e2 := e2) (e3 := e3) (c := Int32.ofInt (m : Int)) (Q := fun v h' => v = none ∧ h' = (h1 ++ [((1, 0, vs.take (7 * m)) : p_C)]).set h.length (0, 7, [d_pv e1, d_pv e2, d_pv e3, .int (Int32.ofInt (m : Int)), .ref h1.length])) hc ⟨rfl, rfl⟩
    subst i1
    subst i2
    subst i3
    have step2 : p_wp p_GT p_MT 40 m_X3_read 115 ls [.ref h1.length, d_pv w3, d_pv w2, d_pv w1, .ref h.length, .ref h.length] (h1 ++ [((1, 0, vs.take (7 * m)) : p_C)]) Q := by
      refine dw_aln rfl l0 (dw_gi (k := 9) rfl rfl rfl hHn d_c43_9 ?_)
      rw [h9]
      clear hQ eh cpy
      cases w1 <;> cases w2 <;> cases w3 <;> (
        refine y_special (dc := 0) rfl rfl rfl rfl (by decide) ti ?_
        rintro v h' ⟨rfl, rfl⟩
        exact dw_go rfl (u := 126) rfl (y_areturno rfl rfl fin))
    clear hQ eh ti fin
    cases w1 <;> cases w2 <;> cases w3 <;> (
      refine y_static (dc := 1) rfl rfl rfl rfl (by decide) cpy ?_
      rintro v h' ⟨rfl, rfl⟩
      exact step2)
  exact key e1 e2 e3 rfl rfl rfl
end X24
def H_new (t : Nat → Option p_C) (b : Nat → Nat) (n a : Nat) : Prop := ∃ (q : Nat → Option Nat) (rb : Nat) (rows : List Value) (R : Nat → Int) (o : Nat), 80 ≤ a ∧ 80 ≤ rb ∧ t a = some (0, 7, [d_pv (q 11), d_pv (q 12), d_pv (q 13), .int (Int32.ofInt ((t_cs2 b n 26 0 0 (t_sk b n 0)).length : Int)), .ref rb]) ∧ t rb = some (1, 0, rows) ∧ rows.length = 7 * (t_cs2 b n 26 0 0 (t_sk b n 0)).length ∧ (∀ j, j < 7 * (t_cs2 b n 26 0 0 (t_sk b n 0)).length → rows[j]? = some (.int (Int32.ofInt (R j))) ∧ d_R (R j)) ∧ (t_cs2 b n 26 0 0 (t_sk b n 0)).length ≤ 24 ∧ t_LO (t_cs2 b n 26 0 0 (t_sk b n 0)) o ∧ (∀ c e, (t_cs2 b n 26 0 0 (t_sk b n 0))[c]? = some e → k_row b n R c e) ∧ ∀ k, k < 3 → ((∀ e, e ∈ t_cs2 b n 26 0 0 (t_sk b n 0) → e.1 ≠ k) → q (11 + k) = none) ∧ ∀ e, e ∈ t_cs2 b n 26 0 0 (t_sk b n 0) → e.1 = k → ∃ a C len, q (11 + k) = some a ∧ m_C t a C len ∧ ∀ ν, t_bn ν → c_Sg ν C 0 len (t_V b n (Nat.beq k 1) ν 4000 2 0 0 e.2 0) 19
section X25
variable {s0 s s1 s' : d_S} {t t' : Nat → Option p_C} {h : p_H} {b : Nat → Nat} {n p q w o m : Nat} {L : List (Nat × Nat)} {Q : Option Value → p_H → Prop}
theorem H_loop {t0 : Nat → Option p_C} {H0 S0 : Nat} (K : ∀ (r : Nat × Nat) (L' : List (Nat × Nat)) (t2 : Nat → Option p_C) (s2 : d_S) (h2 : p_H) (ls : p_Ls), (∃ f o' p', r = t_tx b n f L.length o' p' ∧ L' = L ++ t_cs2 b n f L.length o' p' ∧ f + L.length = 26 ∧ o' = o ∧ p' = p) → d_V t2 h2 s2 → v_tle t0 t2 → k_g s0 s2 → s2.1 43 1 = (n : Int) → h2.length ≤ H0 + 3 → p_sl h2 ≤ S0 + 1800 → p_lk 0 ls = some (.ref 43) → p_lk 1 ls = some (.int (Int32.ofInt (v_b (r.1 = 0)))) → (r.1 ≠ 0 → s2.1 43 2 = (r.1 : Int) ∧ s2.1 43 3 = (r.2 : Int)) → (r.1 = 0 → ∃ o2, k_I s0 b n r.2 o2 L' t2 s2) → p_wp p_GT p_MT 40 m_X3_read 76 ls [] h2 Q) : ∀ (f : Nat) (t : Nat → Option p_C) (s : d_S) (h : p_H) (ls : p_Ls), f + L.length = 26 → k_wds t → d_V t h s → v_tle t0 t → k_I s0 b n p o L t s → p ≤ n → h.length ≤ H0 + t_po o → p_sl h ≤ S0 + 600 * t_po o → p_lk 0 ls = some (.ref 43) → p_lk 1 ls = some (.int (Int32.ofInt 1)) → p_lk 2 ls = some (.int (Int32.ofInt (L.length : Int))) → p_wp p_GT p_MT 40 m_X3_read 48 ls [] h Q := by
  intro f
  induction f generalizing L o p with
  | zero =>
    intro t s h ls hf _ _ _ hI
    have := hI.2.2.2.2.2.1
    omega
  | succ f ih =>
    intro t s h ls hf hW hH ht hI hp hl hsl l0 l1 l2
    have hT := hI.1
    have hL := hI.2.2.2.2.2.1
    have hpo := t_po_3 o
    refine dw_iln (x := (L.length : Int)) rfl l2 (dw_bp (c := 24) rfl rfl (dw_gt_n rfl (u := 76) rfl ⟨by omega, by omega⟩ (d_rl rfl) (by omega) (dw_iln (x := 1) rfl l1 (dw_zeq_n rfl (u := 76) rfl (d_rl rfl) (by decide) (dw_aln rfl l0 (dw_gi (k := 6) rfl rfl rfl hH d_c43_6 ?_))))))
    by_cases k0 : t_k b n p = 0
    · refine dw_zeq_y rfl (u := 76) rfl hH.r (by rw [hT.2.1.2.2, k0]; rfl) ?_
      refine K (0, p) L t s h ls ⟨f + 1, o, p, by rw [t_tx_s, if_pos k0], ?_, hf, rfl, rfl⟩ hH ht hI.2.2.2.2.2.2 hT.1.1 (by omega) (by omega) l0 l1 (fun z => absurd rfl z) (fun _ => ⟨o, hI⟩)
      have e : t_cs2 b n (f + 1) L.length o p = [] := if_pos k0
      rw [e, List.append_nil]
    refine dw_zeq_n rfl (u := 76) rfl hH.r (by rw [hT.2.1.2.2]; omega) (dw_aln rfl l0 ?_)
    refine y_virt (dc := 39) rfl (d_vir (n := 1) rfl rfl rfl rfl rfl hH d_c43_0 rfl) rfl rfl (Nat.le_refl _) (H_clause hW hH hI hp) ?_
    rintro v h2 ⟨t2, s2, g, rfl, hH2, ht2, hg2, e1, hl2, hsl2, hpo2, bad, good⟩
    have hle := t_cl_le (b := b) (m := L.length) (o := o) hp
    obtain ⟨r, hr⟩ : ∃ z, z = t_cl b n L.length o p := ⟨_, rfl⟩
    have hcs : t_cs2 b n (f + 1) L.length o p = (t_cw b n p, t_x b n p) :: t_cs2 b n f (L.length + 1) (if t_cw b n p < 3 then o + 2 ^ t_cw b n p else o) (t_cl b n L.length o p).2 := if_neg k0
    have htx : t_tx b n (f + 1) L.length o p = if r.1 ≠ 0 then r else t_tx b n f (L.length + 1) (if t_cw b n p < 3 then o + 2 ^ t_cw b n p else o) r.2 := by rw [t_tx_s, if_neg k0, ← hr]
    rw [← hr] at bad good hle hcs ⊢
    refine dw_isn rfl rfl (dw_ii (x := (L.length : Int)) rfl (d_s1 l2 rfl (by decide)) rfl (dw_go rfl (u := 48) rfl ?_))
    rw [d_w_id (x := (L.length : Int) + 1) (by omega) (by omega)]
    have n0 : p_lk 0 (p_s1 (p_s1 ls 1 (.int (Int32.ofInt (v_b (r.1 = 0))))) 2 (.int (Int32.ofInt ((L.length : Int) + 1)))) = some (.ref 43) := d_s1 (d_s1 l0 rfl (by decide)) rfl (by decide)
    have n1 : p_lk 1 (p_s1 (p_s1 ls 1 (.int (Int32.ofInt (v_b (r.1 = 0))))) 2 (.int (Int32.ofInt ((L.length : Int) + 1)))) = some (.int (Int32.ofInt (v_b (r.1 = 0)))) := d_s1 p_lk_s1 rfl (by decide)
    have n2 : p_lk 2 (p_s1 (p_s1 ls 1 (.int (Int32.ofInt (v_b (r.1 = 0))))) 2 (.int (Int32.ofInt ((L.length : Int) + 1)))) = some (.int (Int32.ofInt ((L.length : Int) + 1))) := p_lk_s1
    by_cases r0 : r.1 = 0
    · obtain ⟨g1, g2, g3⟩ := good r0
      rw [v_bt r0] at n0 n1 n2 ⊢
      have el : (L ++ [(t_cw b n p, t_x b n p)]).length = L.length + 1 := by rw [List.length_append]; rfl
      refine ih (L := L ++ [(t_cw b n p, t_x b n p)]) (o := if t_cw b n p < 3 then o + 2 ^ t_cw b n p else o) (p := r.2) ?_ t2 s2 h2 _ (by rw [el]; omega) (hW.le ht2) hH2 (ht.tr ht2) g3 hle (by rw [g2]; omega) (by rw [g2]; omega) n0 n1 (by rw [el]; exact n2)
      intro r' L' t3 s3 h3 ls3 hex
      obtain ⟨f', o', p', e1, e2, e3, e4, e5⟩ := hex
      refine K r' L' t3 s3 h3 ls3 ⟨f + 1, o, p, ?_, ?_, hf, rfl, rfl⟩
      · rw [htx, if_neg (fun z => z r0), e1, e4, e5, el]
        rw [el] at e3
        rw [show f' = f by omega]
      · rw [hcs, e2, e4, e5, el, List.append_assoc]
        rw [el] at e3
        rw [show f' = f by omega]; rfl
    · rw [v_bf r0] at n0 n1 n2 ⊢
      have hl9 : (L.length : Int) + 1 ≤ 25 := by omega
      
      have fin : p_wp p_GT p_MT 40 m_X3_read 76 (p_s1 (p_s1 ls 1 (.int (Int32.ofInt 0))) 2 (.int (Int32.ofInt ((L.length : Int) + 1)))) [] h2 Q := by
        refine K r (L ++ t_cs2 b n (f + 1) L.length o p) t2 s2 h2 _ ⟨f + 1, o, p, by rw [htx, if_pos r0], rfl, hf, rfl, rfl⟩ hH2 (ht.tr ht2) hg2 e1 (by omega) (by omega) n0 (by rw [v_bf r0]; exact n1) bad (fun z => absurd z r0)
      by_cases h25 : (24 : Int) < (L.length : Int) + 1
      · exact dw_iln (x := (L.length : Int) + 1) rfl n2 (dw_bp (c := 24) rfl rfl (dw_gt_y rfl (u := 76) rfl ⟨by omega, by omega⟩ (d_rl rfl) h25 fin))
      · exact dw_iln (x := (L.length : Int) + 1) rfl n2 (dw_bp (c := 24) rfl rfl (dw_gt_n rfl (u := 76) rfl ⟨by omega, by omega⟩ (d_rl rfl) h25 (dw_iln (x := 0) rfl n1 (dw_zeq_y rfl (u := 76) rfl (d_rl rfl) rfl fin))))
end X25
section X26
variable {s0 s s1 s' : d_S} {t t' : Nat → Option p_C} {h : p_H} {b : Nat → Nat} {n p q w o m : Nat} {L : List (Nat × Nat)}
def H_RQ (t : Nat → Option p_C) (s : d_S) (h : p_H) (b : Nat → Nat) (n : Nat) (v : Option Value) (h2 : p_H) : Prop := ∃ t2 s2, d_V t2 h2 s2 ∧ v_tle t t2 ∧ k_g s s2 ∧ h2.length ≤ h.length + 5 ∧ p_sl h2 ≤ p_sl h + 1973 ∧ s2.1 43 1 = 0 ∧ s2.1 43 2 = ((t_text b n).1 : Int) ∧ s2.1 43 3 = (if (t_text b n).1 = 0 then -1 else ((t_text b n).2 : Int)) ∧ ((t_text b n).1 ≠ 0 → v = some .null) ∧ ((t_text b n).1 = 0 → ∃ a, v = some (.ref a) ∧ H_new t2 b n a)
theorem H_read (hW : k_wds t) (hH : d_V t h s) (hB : k_B b n s) : p_wp p_GT p_MT 40 m_X3_read 0 (lv_args 0 [.ref 43]) [] h (H_RQ t s h b n) := by
  have hn := hB.2.1
  have h80 := y_80 hH
  refine dw_aln (a := 43) rfl rfl (dw_ic rfl (y_pi (k := 4) rfl rfl rfl rfl hH d_c43_4 (d_rl rfl) (by decide) (fun h1 hH1 => ?_)))
  refine dw_aln (a := 43) rfl rfl (dw_ic rfl (y_pi (k := 9) rfl rfl rfl rfl hH1 d_c43_9 (d_rl rfl) (by decide) (fun h2 hH2 => ?_)))
  refine dw_aln (a := 43) rfl rfl (dw_null rfl (y_po (k := 11) rfl rfl rfl rfl hH2 d_c43_11 (fun h3 hH3 => ?_)))
  refine dw_aln (a := 43) rfl rfl (dw_null rfl (y_po (k := 12) rfl rfl rfl rfl hH3 d_c43_12 (fun h4 hH4 => ?_)))
  refine dw_aln (a := 43) rfl rfl (dw_null rfl (y_po (k := 13) rfl rfl rfl rfl hH4 d_c43_13 (fun h5 hH5 => ?_)))
  refine dw_aln (a := 43) rfl rfl (dw_ic rfl (y_pb (k := 17) rfl rfl rfl rfl hH5 d_c43_17 (Or.inl rfl) (by decide) (fun h6 hH6 => ?_)))
  refine dw_aln (a := 43) rfl rfl (dw_ic rfl (y_pi (k := 2) rfl rfl rfl rfl hH6 d_c43_2 (d_rl rfl) (by decide) (fun h7 hH7 => ?_)))
  refine dw_aln (a := 43) rfl rfl (dw_ic rfl (y_pi (k := 3) rfl rfl rfl rfl hH7 d_c43_3 (d_rl rfl) (by decide) (fun h8 hH8 => ?_)))
  obtain ⟨s8, hs8⟩ : ∃ z, z = d_si (d_si (d_si (d_sp (d_sp (d_sp (d_si (d_si s 43 4 0) 43 9 0) 43 11 none) 43 12 none) 43 13 none) 43 17 0) 43 2 0) 43 3 (-1) := ⟨_, rfl⟩
  rw [← hs8] at hH8
  have i8 : ∀ k, s8.1 43 k = if k = 3 then -1 else if k = 2 then 0 else if k = 17 then 0 else if k = 9 then 0 else if k = 4 then 0 else s.1 43 k := by
    intro k
    rw [hs8, d_si_i]
    by_cases z3 : k = 3
    · rw [z3, d_u_t]; rfl
    rw [d_u_n z3, if_neg z3, d_si_i]
    by_cases z2 : k = 2
    · rw [z2, d_u_t]; rfl
    rw [d_u_n z2, if_neg z2, d_si_i]
    by_cases z17 : k = 17
    · rw [z17, d_u_t]; rfl
    rw [d_u_n z17, if_neg z17]
    show (d_si (d_si s 43 4 0) 43 9 0).1 43 k = _
    rw [d_si_i]
    by_cases z9 : k = 9
    · rw [z9, d_u_t]; rfl
    rw [d_u_n z9, if_neg z9, d_si_i]
    by_cases z4 : k = 4
    · rw [z4, d_u_t]; rfl
    rw [d_u_n z4, if_neg z4]
  have o8 : ∀ a, a ≠ 43 → s8.1 a = s.1 a := fun a z => by
    rw [hs8, d_si_n z, d_si_n z, d_si_n z]
    show (d_si (d_si s 43 4 0) 43 9 0).1 a = _
    rw [d_si_n z, d_si_n z]
  have r8 : ∀ k, s8.2.1 43 (11 + k) = if k < 3 then none else s.2.1 43 (11 + k) := by
    intro k
    have e : s8.2.1 43 = d_u (d_u (d_u (s.2.1 43) 11 none) 12 none) 13 none := by
      rw [hs8]
      show (d_sp (d_sp (d_sp (d_si (d_si s 43 4 0) 43 9 0) 43 11 none) 43 12 none) 43 13 none).2.1 43 = _
      have ez : ∀ (z : d_S) (k : Nat), (d_sp z 43 k none).2.1 43 = d_u (z.2.1 43) k none := fun z k => by
        show d_u z.2.1 43 (d_u (z.2.1 43) k none) 43 = _
        exact d_u_t
      rw [ez, ez, ez]; rfl
    rw [e]
    by_cases k2 : k = 2
    · rw [k2, d_u_t]; rfl
    rw [d_u_n (by omega)]
    by_cases k1 : k = 1
    · rw [k1, d_u_t]; rfl
    rw [d_u_n (by omega)]
    by_cases k0 : k = 0
    · rw [k0, d_u_t]; rfl
    rw [d_u_n (by omega), if_neg (by omega)]
  have ro8 : ∀ a, a ≠ 43 → s8.2.1 a = s.2.1 a := fun a z => by
    rw [hs8]
    show (d_sp (d_sp (d_sp (d_si (d_si s 43 4 0) 43 9 0) 43 11 none) 43 12 none) 43 13 none).2.1 a = _
    have ez : ∀ (y : d_S) (k : Nat), (d_sp y 43 k none).2.1 a = y.2.1 a := fun y k => d_u_n z
    rw [ez, ez, ez]; rfl
  have l8 : s8.2.2 = s.2.2 := by rw [hs8]; rfl
  have hB8 : k_B b n s8 := ⟨by rw [i8 1]; exact hB.1, hn, fun i hi => by rw [o8 44 (by decide)]; exact hB.2.2.1 i hi, hB.2.2.2⟩
  obtain ⟨s9, c1, c2, c3⟩ := k_stp (q := 0) hW hB8 (by rw [i8 4]; rfl) (Nat.zero_le n)
  have hF : d_b (F_X3_step t s8) (fun s => some s) = some s9 := by rw [c1, d_b_t]
  refine dw_aln (a := 43) rfl rfl (dw_vV hF rfl (d_vir (n := 1) rfl rfl rfl rfl rfl hH8 d_c43_0 rfl) rfl rfl rfl (dc := 1) (fun _ e => D_X3_step e hH8) (fun s9' h9 hH9 hF2 => ?_))
  have e9 : s9' = s9 := Option.some.inj hF2
  subst e9
  have hsk := t_sk_le (b := b) (Nat.zero_le n)
  have g9 : k_g s s9' := ⟨fun a z1 z2 z3 => by rw [c3.2.1 a z1, o8 a z1], fun a z => by rw [c3.2.2, ro8 a z], by rw [c3.2.2]; exact l8⟩
  have hI : k_I s b n (t_sk b n 0) 0 [] t s9' := ⟨c2, ⟨by rw [c3.1 9 (by decide), i8 9]; rfl, by rw [c3.1 17 (by decide), i8 17]; rfl, by rw [c3.1 2 (by decide), i8 2]; rfl, by rw [c3.1 3 (by decide), i8 3]; rfl⟩, fun c e hc => by simp at hc, fun k hk => ⟨fun _ => by rw [c3.2.2, r8 k, if_pos hk], fun e he => absurd he (by simp)⟩, t_LO.nil, by decide, g9⟩
  have y1 := y_len hH hH9
  have y2 := y_sl hH hH9
  have hr99 := t_text_99 (b := b) (n := n)
  refine dw_ic rfl (dw_isn rfl rfl (dw_ic rfl (dw_isn rfl rfl ?_)))
  refine H_loop (t0 := t) (H0 := h.length) (S0 := p_sl h) (L := []) (o := 0) (n := n) (b := b) (p := t_sk b n 0) (s0 := s) ?_ 26 t s9' h9 _ rfl hW hH9 (fun _ _ q => q) hI hsk.2 (by show h9.length ≤ h.length + 0; omega) (by show p_sl h9 ≤ p_sl h + 600 * 0; omega) rfl rfl rfl
  rintro r L' t2 s2 h2' ls ⟨f, o', p', er, eL, ef, rfl, rfl⟩ hH2' ht2 hg2 e1 hl2 hsl2 l0 l1 bad good
  have ef : f = 26 := ef
  subst ef
  have er : r = t_text b n := er
  have eL : L' = t_cs2 b n 26 0 0 (t_sk b n 0) := eL
  have hr' := er
  unfold H_RQ
  rw [← er] at hr99 ⊢
  refine dw_aln rfl l0 (dw_ic rfl (y_pi (k := 1) rfl rfl rfl rfl hH2' d_c43_1 (d_rl rfl) (by decide) (fun h3 hH3 => ?_)))
  have y3 := y_len hH2' hH3
  have y4 := y_sl hH2' hH3
  obtain ⟨s3, hs3⟩ : ∃ z, z = d_si s2 43 1 0 := ⟨_, rfl⟩
  rw [← hs3] at hH3
  have f3 : k_f [1] s2 s3 := by rw [hs3]; exact k_f.si (by decide)
  have e31 : s3.1 43 1 = 0 := by rw [hs3, d_si_i, d_u_t]
  have g3 : k_g s s3 := hg2.tr f3.g
  refine dw_iln rfl l1 ?_
  by_cases r0 : r.1 = 0
  rotate_left
  · rw [v_bf r0]
    obtain ⟨z1, z2⟩ := bad r0
    refine dw_zeq_y rfl (u := 125) rfl (d_rl rfl) rfl (dw_null rfl (y_areturnn rfl rfl ?_))
    exact ⟨t2, s3, hH3, ht2, g3, by omega, by omega, e31, by rw [f3.1 2 (by decide)]; exact z1, by rw [f3.1 3 (by decide), if_neg r0]; exact z2, fun _ => rfl, fun z => absurd z r0⟩
  rw [v_bt r0]
  obtain ⟨o2, gT, ⟨g9', g17, g2', g3'⟩, grow, glw, gLO, gL, -⟩ := good r0
  refine dw_zeq_n rfl (u := 125) rfl (d_rl rfl) (by decide) (y_newobj rfl rfl (show p_GT[7]? = some _ from rfl) ?_)
  show p_wp p_GT p_MT 40 m_X3_read 88 ls [.ref h3.length] (h3 ++ [((0, 7, [.null, .null, .null, .int 0, .null]) : p_C)]) _
  have hHa := y_new hH3 (0, 7, [.null, .null, .null, .int 0, .null])
  obtain ⟨ha, hha⟩ : ∃ ha, ha = h3 ++ [((0, 7, [.null, .null, .null, .int 0, .null]) : p_C)] := ⟨_, rfl⟩
  rw [← hha] at hHa ⊢
  refine dw_dupr rfl (dw_aln rfl l0 (dw_go_ (k := 11) rfl rfl rfl hHa d_c43_11 (dw_aln rfl l0 (dw_go_ (k := 12) rfl rfl rfl hHa d_c43_12 (dw_aln rfl l0 (dw_go_ (k := 13) rfl rfl rfl hHa d_c43_13 ?_))))))
  have h80' := y_80 hH3
  refine H_mk (h := h3) hha hHa gL (by rw [f3.1 9 (by decide)]; exact g9') l0 ?_
  intro rows hrl hrows
  have hn3 := y_none hH3
  obtain ⟨T1, hT1⟩ : ∃ z : p_C, z = (0, 7, [d_pv (s3.2.1 43 11), d_pv (s3.2.1 43 12), d_pv (s3.2.1 43 13), .int (Int32.ofInt (L'.length : Int)), .ref (h3.length + 1)]) := ⟨_, rfl⟩
  rw [← hT1]
  have v1 := y_new hH3 T1
  have l1' : (h3 ++ [T1]).length = h3.length + 1 := by rw [List.length_append]; rfl
  have v2 := y_new v1 (1, 0, rows)
  rw [l1'] at v2
  have tl1 := y_tle hH3 T1
  have tl2 := y_tle v1 ((1, 0, rows) : p_C)
  rw [l1'] at tl2
  obtain ⟨t3, ht3⟩ : ∃ z, z = d_u (d_u t2 h3.length (some T1)) (h3.length + 1) (some (1, 0, rows)) := ⟨_, rfl⟩
  rw [← ht3] at v2 tl2
  have tl3 : v_tle t2 t3 := tl1.tr tl2
  have eh : h3 ++ [T1, ((1, 0, rows) : p_C)] = h3 ++ [T1] ++ [(1, 0, rows)] := by rw [List.append_assoc]; rfl
  rw [eh]
  have sl2 : p_sl (h3 ++ [T1] ++ [((1, 0, rows) : p_C)]) = p_sl h3 + 5 + rows.length := by
    rw [p_sl_app, p_sl_app, hT1]; rfl
  have ln2 : (h3 ++ [T1] ++ [((1, 0, rows) : p_C)]).length = h3.length + 2 := by rw [List.length_append, l1']; rfl
  refine ⟨t3, s3, v2, ht2.tr tl3, g3, by rw [ln2]; omega, by rw [sl2]; omega, e31, by rw [f3.1 2 (by decide), r0]; exact g2', by rw [f3.1 3 (by decide), if_pos r0]; exact g3', fun z => absurd r0 z, fun _ => ⟨h3.length, rfl, ?_⟩⟩
  unfold H_new
  rw [← eL]
  refine ⟨s3.2.1 43, h3.length + 1, rows, s3.1 45, o2, by omega, by omega, ?_, by rw [ht3, d_u_t], hrl, fun j hj => ⟨hrows j hj, hH3.r⟩, gL, gLO, fun c e hc => ?_, fun k hk => ?_⟩
  · rw [ht3, d_u_n (by omega), d_u_t, hT1]
  · rw [f3.2.1 45 (by decide)]; exact grow c e hc
  · have hl := glw k hk
    rw [f3.2.2]
    refine ⟨hl.1, fun e he1 he2 => ?_⟩
    obtain ⟨a, C, len, j1, j2, j3⟩ := hl.2 e he1 he2
    exact ⟨a, C, len, j1, j2.le tl3, j3⟩
theorem H_xtext {k : Nat} (hW : k_wds t) (hH : d_V t h s) (hB : k_B b n s) (hk : s.1 3 5 = (k : Int)) (hk4 : k ≤ 4) : p_wp p_GT p_MT 41 m_X11_text 0 (lv_args 0 [.ref 2]) [] h (fun v h2 => (k = 4 → v = some (.int (Int32.ofInt (-1))) ∧ h2 = h) ∧ (k < 4 → ∃ t2 s2, d_V t2 h2 s2 ∧ v_tle t t2 ∧ h2.length ≤ h.length + 5 ∧ p_sl h2 ≤ p_sl h + 1973 ∧ (∀ a, a ≠ 3 → a ≠ 43 → a ≠ 45 → a ≠ 46 → s2.1 a = s.1 a) ∧ (∀ j, j ≠ 5 → s2.1 3 j = s.1 3 j) ∧ (∀ a, a ≠ 5 → a ≠ 43 → s2.2.1 a = s.2.1 a) ∧ (∀ j, j ≠ k → s2.2.1 5 j = s.2.1 5 j) ∧ s2.2.2 = s.2.2 ∧ s2.1 43 1 = 0 ∧ s2.1 43 2 = ((t_text b n).1 : Int) ∧ s2.1 43 3 = (if (t_text b n).1 = 0 then -1 else ((t_text b n).2 : Int)) ∧ ((t_text b n).1 ≠ 0 → v = some (.int (Int32.ofInt (-1))) ∧ s2.1 3 5 = (k : Int) ∧ s2.2.1 5 k = s.2.1 5 k) ∧ ((t_text b n).1 = 0 → v = some (.int (Int32.ofInt (k : Int))) ∧ s2.1 3 5 = (k : Int) + 1 ∧ ∃ a, s2.2.1 5 k = some a ∧ H_new t2 b n a))) := by
  have hr99 := t_text_99 (b := b) (n := n)
  refine dw_aln (a := 2) rfl rfl (dw_gr (k := 0) rfl rfl rfl hH d_c2_0 (dw_gi (k := 5) rfl rfl rfl hH d_c3_5 (dw_isn rfl rfl ?_)))
  rw [hk]
  refine dw_iln (x := (k : Int)) rfl rfl (dw_ic rfl (dw_aln (a := 2) rfl rfl (dw_gr (k := 0) rfl rfl rfl hH d_c2_0 (dw_gr (k := 7) rfl rfl rfl hH d_c3_7 (dw_len (z := 4) rfl hH d_a5 rfl rfl (dw_ic rfl (dw_sub rfl ?_)))))))
  have hF : d_b (F_X11_within (k : Int) 0 (4 - 1)) (fun v => some v) = some (v_b (0 ≤ (k : Int) ∧ (k : Int) ≤ 4 - 1)) := by rw [P_within, d_b_t]
  refine dw_sB hF rfl rfl rfl rfl rfl (dc := 0) (fun _ e => D_X11_within e ⟨by omega, by omega⟩ (d_rl rfl) (d_rl rfl)) (fun v r_v hF2 => ?_)
  have hv : v = v_b (0 ≤ (k : Int) ∧ (k : Int) ≤ 4 - 1) := Option.some.inj hF2
  subst hv
  by_cases h4 : k < 4
  rotate_left
  · rw [v_bf (by omega)]
    exact dw_zne_y rfl (u := 28) rfl (d_rl rfl) rfl (dw_ic rfl (y_retI rfl rfl ⟨fun _ => ⟨rfl, rfl⟩, fun z => absurd z h4⟩))
  rw [v_bt (by omega)]
  refine dw_zne_n rfl (u := 28) rfl (d_rl rfl) (by decide) (dw_aln (a := 2) rfl rfl (dw_gr (k := 3) rfl rfl rfl hH d_c2_3 ?_))
  refine y_virt (dc := 40) rfl (d_vir (n := 1) rfl rfl rfl rfl rfl hH d_c43_0 rfl) rfl rfl (Nat.le_refl _) (H_read hW hH hB) ?_
  rintro v h2 ⟨t2, s2, hH2, ht2, hg2, hl2, hsl2, e1, e2, e3, bad, good⟩
  by_cases r0 : (t_text b n).1 = 0
  rotate_left
  · obtain rfl := bad r0
    refine dw_asno (e := none) rfl rfl (dw_alno (e := none) rfl rfl (dw_nnn rfl rfl (dw_ic rfl (y_retI rfl rfl ⟨fun z => by omega, fun _ => ?_⟩))))
    exact ⟨t2, s2, hH2, ht2, hl2, hsl2, fun a z1 z2 z3 z4 => hg2.1 a z2 z3 z4, fun j _ => by rw [hg2.1 3 (by decide) (by decide) (by decide)], fun a z1 z2 => hg2.2.1 a z2, fun j _ => by rw [hg2.2.1 5 (by decide)], hg2.2.2, e1, e2, e3, fun _ => ⟨rfl, by rw [hg2.1 3 (by decide) (by decide) (by decide)]; exact hk, by rw [hg2.2.1 5 (by decide)]⟩, fun z => absurd z r0⟩
  obtain ⟨a, rfl, hN⟩ := good r0
  have hTx : 80 ≤ a ∧ ∃ vs, t2 a = some (0, 7, vs) := by
    obtain ⟨q, rb, rows, R, o, g1, g2, g3, -⟩ := hN
    exact ⟨g1, _, g3⟩
  refine dw_asno (e := some a) rfl rfl (dw_alno (e := some a) rfl rfl (dw_nns rfl (u := 42) rfl rfl ?_))
  refine dw_aln (a := 2) rfl rfl (dw_gr (k := 0) rfl rfl rfl hH2 d_c2_0 (dw_gr (k := 7) rfl rfl rfl hH2 d_c3_7 (dw_iln (x := (k : Int)) rfl rfl (dw_alno (e := some a) rfl rfl ?_))))
  refine dw_ost (F := fun z => z) (r := d_sp s2 5 k (some a)) (k := k) rfl hH2 d_a5 (by omega) (by omega) ⟨by omega, by omega⟩ (by omega) (fun x hx => by cases hx; exact hTx) rfl (fun s3 h3 hH3 e3' => ?_)
  subst e3'
  refine dw_aln (a := 2) rfl rfl (dw_gr (k := 0) rfl rfl rfl hH3 d_c2_0 (dw_iln (x := (k : Int)) rfl rfl (dw_ic rfl (dw_add rfl (y_pi (k := 5) rfl rfl rfl rfl hH3 d_c3_5 ⟨by omega, by omega⟩ (by decide) (fun h4' hH4 => ?_))))))
  have y1 := y_len hH2 hH3
  have y2 := y_sl hH2 hH3
  have y3 := y_len hH3 hH4
  have y4 := y_sl hH3 hH4
  refine dw_iln (x := (k : Int)) rfl rfl (y_retI rfl rfl ⟨fun z => by omega, fun _ => ?_⟩)
  have i1 : ∀ c, c ≠ 3 → (d_si (d_sp s2 5 k (some a)) 3 5 ((k : Int) + 1)).1 c = s2.1 c := fun c z => by rw [d_si_n z]; rfl
  have i2 : ∀ c, c ≠ 5 → (d_si (d_sp s2 5 k (some a)) 3 5 ((k : Int) + 1)).2.1 c = s2.2.1 c := fun c z => d_u_n z
  have i3 : (d_si (d_sp s2 5 k (some a)) 3 5 ((k : Int) + 1)).2.1 5 = d_u (s2.2.1 5) k (some a) := by
    show d_u s2.2.1 5 (d_u (s2.2.1 5) k (some a)) 5 = _
    exact d_u_t
  refine ⟨t2, _, hH4, ht2, by omega, by omega, fun c z1 z2 z3 z4 => by rw [i1 c z1]; exact hg2.1 c z2 z3 z4, fun j z => ?_, fun c z1 z2 => by rw [i2 c z1]; exact hg2.2.1 c z2, fun j z => by rw [i3, d_u_n z, hg2.2.1 5 (by decide)], hg2.2.2, by rw [i1 43 (by decide)]; exact e1, by rw [i1 43 (by decide)]; exact e2, by rw [i1 43 (by decide)]; exact e3, fun z => absurd r0 z, fun _ => ⟨rfl, by rw [d_si_i, d_u_t], a, by rw [i3, d_u_t], hN⟩⟩
  rw [d_si_i, d_u_n z]
  show s2.1 3 j = _
  rw [hg2.1 3 (by decide) (by decide) (by decide)]
end X26

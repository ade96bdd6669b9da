def v_cut (x top : Int) : Int := max 0 (min top x)
def v_RS (T : Nat → Int) (k c : Int) (Vo : Option ((Nat → Int) → Int)) : Prop := ∀ (s : d_S) (w top : Int), (∀ j : Nat, 777 * k ≤ (j : Int) → (j : Int) < 777 * k + 777 → s.1 67 j = T j) → v_Nm (s.1 71) → 0 ≤ top → top ≤ 10000 → d_RL w → ∃ s', F_X12_says s k c w top = some (v_cut (match Vo with
  | none => w
  | some V => V (s.1 71)) top, s') ∧ s'.1 = s.1 ∧ s'.2.1 = s.2.1
def v_RT (T : Nat → Int) (k : Int) (L : v_LR) : Prop := v_RS T k 0 (L.1.map (fun V f => V (f 0) (f 1) (f 2) (f 3) (f 4) (f 5))) ∧ v_RS T k 1 (L.2.1.map (fun V f => V (f 0) (f 1) (f 2) (f 3) (f 4) (f 5) (f 6) (f 7))) ∧ v_RS T k 2 (L.2.2.map (fun V f => V (f 0) (f 1) (f 2) (f 3) (f 4) (f 5)))
section V10
variable {s : d_S} {L : v_LR} {u v W H b : Nat} {st me so : Nat → Nat} {day heat x : Int} {k : Int}
theorem P_cut {x top : Int} (h0 : 0 ≤ top) (h1 : top ≤ 10000) : F_X12_cut x top = some (v_cut x top) := by
  unfold F_X12_cut v_cut
  by_cases q : x < 0
  · rw [if_pos q]; congr 1; omega
  · rw [if_neg q]
    by_cases q2 : top < x
    · rw [if_pos q2]; congr 1; omega
    · rw [if_neg q2, d_w_id (by omega) (by omega)]; congr 1; omega
theorem v_RS_m1 {T : Nat → Int} {c : Int} : v_RS T (-1) c none := by
  intro s w top h1 h2 h3 h4 h5
  refine ⟨s, ?_, rfl, rfl⟩
  unfold F_X12_says
  rw [d_N_is]
  show F_X12_says_l3_b _ _ (F_X12_says_l3 _ _ 99999) (-1) c w top 0 s = _
  unfold F_X12_says_l3_b
  rw [if_pos (by decide)]
  show d_b (F_X12_cut w top) _ = _
  rw [P_cut h3 h4, d_b_t]
theorem v_RT_m1 {T : Nat → Int} : v_RT T (-1) (none, none, none) := ⟨v_RS_m1, v_RS_m1, v_RS_m1⟩
def v_nam (f : Nat → Int) (day heat size straw melted edge : Int) : Nat → Int := d_u (d_u (d_u (d_u (d_u (d_u f 0 day) 1 heat) 2 size) 3 straw) 4 melted) 5 edge
theorem P_name (hG : v_G (s.1 65) u v W H) (hb : b < v_bl u v) {straw melted : Int} : ∃ s', F_X12_name s (b : Int) day heat straw melted = some s' ∧ s'.1 71 = v_nam (s.1 71) day heat ((v_sz u v W H b : Nat) : Int) straw melted ((v_ed u v W H b : Nat) : Int) ∧ (∀ a, a ≠ 71 → s'.1 a = s.1 a) ∧ s'.2 = s.2 := by
  have hsz := v_sz_le (u := u) (v := v) (W := W) (H := H) (b := b) hG.2.2.2.1.2 hG.2.2.2.2.1.2
  have h2 : v_G ((d_si (d_si s 71 0 day) 71 1 heat).1 65) u v W H := by rw [d_si_n (by decide), d_si_n (by decide)]; exact hG
  unfold F_X12_name
  rw [d_l_t, d_l_t, P_wideOf h2 hb, d_b_t, P_highOf h2 hb, d_b_t, d_l_t, d_l_t, d_l_t]
  have hm : ((v_wd u W b : Nat) : Int) * ((v_hg u v H b : Nat) : Int) = ((v_sz u v W H b : Nat) : Int) := by rw [← Int.natCast_mul]; rfl
  rw [hm, d_w_id (by omega) (by omega)]
  have h7 : v_G ((d_si (d_si (d_si (d_si (d_si s 71 0 day) 71 1 heat) 71 2 ((v_sz u v W H b : Nat) : Int)) 71 3 straw) 71 4 melted).1 65) u v W H := by
    rw [d_si_n (by decide), d_si_n (by decide), d_si_n (by decide)]; exact h2
  rw [P_edgeOf h7 hb, d_b_t, d_l_t]
  refine ⟨_, rfl, ?_, fun a ha => ?_, rfl⟩
  · rw [d_si_i, d_si_i, d_si_i, d_si_i, d_si_i, d_si_i]; rfl
  · rw [d_si_n ha, d_si_n ha, d_si_n ha, d_si_n ha, d_si_n ha, d_si_n ha]
theorem v_Nm.nam {f : Nat → Int} (h : v_Nm f) {day heat size straw melted edge : Int} (h0 : 0 ≤ day ∧ day ≤ 2000) (h1 : 0 ≤ heat ∧ heat ≤ 2000) (h2 : 0 ≤ size ∧ size ≤ 2000) (h3 : 0 ≤ straw ∧ straw ≤ 2000) (h4 : 0 ≤ melted ∧ melted ≤ 2000) (h5 : 0 ≤ edge ∧ edge ≤ 2000) : v_Nm (v_nam f day heat size straw melted edge) :=
  (((((h.u h0.1 h0.2).u h1.1 h1.2).u h2.1 h2.2).u h3.1 h3.2).u h4.1 h4.2).u h5.1 h5.2
def v_71 (s s' : d_S) : Prop := (∀ a, a ≠ 71 → s'.1 a = s.1 a) ∧ s'.2.1 = s.2.1 ∧ (v_Nm (s.1 71) → v_Nm (s'.1 71))
theorem P_meltsBy (hG : v_G (s.1 65) u v W H) (hb : b < v_bl u v) (hT : v_RT (s.1 67) k L) (hN : v_Nm (s.1 71)) {straw melted : Int} (h0 : 0 ≤ day ∧ day ≤ 2000) (h1 : 0 ≤ heat ∧ heat ≤ 2000) (h3 : 0 ≤ straw ∧ straw ≤ 2000) (h4 : 0 ≤ melted ∧ melted ≤ 2000) : ∃ s', F_X12_meltsBy s k (b : Int) day heat straw melted = some (v_mel L day heat ((v_sz u v W H b : Nat) : Int) straw melted ((v_ed u v W H b : Nat) : Int), s') ∧ v_71 s s' := by
  have hsz := v_sz_le (u := u) (v := v) (W := W) (H := H) (b := b) hG.2.2.2.1.2 hG.2.2.2.2.1.2
  have hed := v_ed_le (u := u) (v := v) (W := W) (H := H) (b := b)
  obtain ⟨s1, g1, g2, g3, g4⟩ := P_name (s := s) (day := day) (heat := heat) (straw := straw) (melted := melted) hG hb
  have hN1 : v_Nm (s1.1 71) := by rw [g2]; exact hN.nam h0 h1 (by omega) h3 h4 (by omega)
  have e5 : s1.1 71 5 = ((v_ed u v W H b : Nat) : Int) := by rw [g2]; rfl
  obtain ⟨s2, r1, r2, r3⟩ := hT.1 s1 (heat + ((v_ed u v W H b : Nat) : Int) - straw) 100 (fun j _ _ => congrFun (g3 67 (by decide)) j) hN1 (by decide) (by decide) ⟨by omega, by omega⟩
  unfold F_X12_meltsBy
  rw [g1, d_b_t, e5, d_w_id (by omega) (by omega), r1, d_b2_t]
  refine ⟨s2, ?_, fun a ha => by rw [r2]; exact g3 a ha, r3.trans (by rw [g4]), fun _ => by rw [r2]; exact hN1⟩
  congr 1
  refine Prod.ext ?_ rfl
  unfold v_mel v_cut
  rw [g2]
  cases L.1 with
  | none => rfl
  | some V => rfl
theorem P_rotsBy (hG : v_G (s.1 65) u v W H) (hb : b < v_bl u v) (hT : v_RT (s.1 67) (s.1 65 2) L) (hN : v_Nm (s.1 71)) {straw melted : Int} (h0 : 0 ≤ day ∧ day ≤ 2000) (h1 : 0 ≤ heat ∧ heat ≤ 2000) (h3 : 0 ≤ straw ∧ straw ≤ 2000) (h4 : 0 ≤ melted ∧ melted ≤ 2000) : ∃ s', F_X12_rotsBy s (b : Int) day heat straw melted = some (v_rot L day heat ((v_sz u v W H b : Nat) : Int) straw melted ((v_ed u v W H b : Nat) : Int), s') ∧ v_71 s s' := by
  have hsz := v_sz_le (u := u) (v := v) (W := W) (H := H) (b := b) hG.2.2.2.1.2 hG.2.2.2.2.1.2
  have hed := v_ed_le (u := u) (v := v) (W := W) (H := H) (b := b)
  obtain ⟨s1, g1, g2, g3, g4⟩ := P_name (s := s) (day := day) (heat := heat) (straw := straw) (melted := melted) hG hb
  have hN1 : v_Nm (s1.1 71) := by rw [g2]; exact hN.nam h0 h1 (by omega) h3 h4 (by omega)
  obtain ⟨s2, r1, r2, r3⟩ := hT.2.2 s1 0 9 (fun j _ _ => congrFun (g3 67 (by decide)) j) hN1 (by decide) (by decide) ⟨by decide, by decide⟩
  unfold F_X12_rotsBy
  rw [g1, d_b_t, g3 65 (by decide), r1, d_b2_t]
  refine ⟨s2, ?_, fun a ha => by rw [r2]; exact g3 a ha, r3.trans (by rw [g4]), fun _ => by rw [r2]; exact hN1⟩
  congr 1
  refine Prod.ext ?_ rfl
  unfold v_rot v_cut
  rw [g2]
  cases L.2.2 with
  | none => rfl
  | some V => rfl
theorem P_meltsOf (hG : v_G (s.1 65) u v W H) (hb : b < v_bl u v) (hT : v_RT (s.1 67) (s.1 65 2) L) (hN : v_Nm (s.1 71)) (hB : v_B (s.1 65) st me so) (h9 : s.1 65 9 = day) (h10 : s.1 65 10 = heat) (h0 : 0 ≤ day ∧ day ≤ 2000) (h1 : 0 ≤ heat ∧ heat ≤ 2000) : ∃ s', F_X12_meltsOf s (b : Int) = some (v_mel L day heat ((v_sz u v W H b : Nat) : Int) ((st b : Nat) : Int) ((me b : Nat) : Int) ((v_ed u v W H b : Nat) : Int), s') ∧ v_71 s s' := by
  have ha := hG.ac
  obtain ⟨-, m1, m2, m3⟩ := hB b (by omega)
  obtain ⟨s', g1, g2⟩ := P_meltsBy (straw := ((st b : Nat) : Int)) (melted := ((me b : Nat) : Int)) hG hb hT hN h0 h1 (by omega) (by omega)
  refine ⟨s', ?_, g2⟩
  unfold F_X12_meltsOf
  rw [P_get0 hB (by omega), d_b_t, P_get1 hB (by omega), d_b_t, h9, h10, g1, d_b2_t]
def v_fb (A A' : Nat → Int) : Prop := ∀ j, j < 20 ∨ 212 ≤ j → A' j = A j
theorem v_fb.trans {A B C : Nat → Int} (h1 : v_fb A B) (h2 : v_fb B C) : v_fb A C := fun j hj => (h2 j hj).trans (h1 j hj)
theorem v_fb.G {A A' : Nat → Int} (h : v_fb A A') (hG : v_G A u v W H) : v_G A' u v W H := by
  obtain ⟨⟨a, b, c, d⟩, r⟩ := hG
  exact ⟨⟨by rw [h 14 (by decide)]; exact a, by rw [h 15 (by decide)]; exact b, by rw [h 16 (by decide)]; exact c, by rw [h 17 (by decide)]; exact d⟩, r⟩
def v_me1 (L : v_LR) (u v W H : Nat) (day heat : Int) (st me so : Nat → Nat) (k b : Nat) : Nat := if b < k then (if so b = 0 then (v_mf L day heat ((v_sz u v W H b : Nat) : Int) ((st b : Nat) : Int) ((me b : Nat) : Int) ((v_ed u v W H b : Nat) : Int)).toNat else me b) else me b
def v_st1 (L : v_LR) (u v W H : Nat) (day heat : Int) (st me so : Nat → Nat) (k b : Nat) : Nat := if b < k then (if so b = 0 then (v_sf L day heat ((v_sz u v W H b : Nat) : Int) ((st b : Nat) : Int) ((me b : Nat) : Int) ((v_ed u v W H b : Nat) : Int)).toNat else st b) else st b
theorem v_cut_mf {m d : Int} (h0 : 0 ≤ m ∧ m ≤ 100) (hd : 0 ≤ d ∧ d ≤ 100) : v_cut (m + d) 100 = if m < 100 then min 100 (m + d) else 100 := by
  unfold v_cut; split <;> omega
theorem v_cut_sf {m d : Int} (h0 : 0 ≤ m ∧ m ≤ 9) (hd : 0 ≤ d ∧ d ≤ 9) : v_cut (m - d) 9 = if 0 < m then max 0 (m - d) else 0 := by
  unfold v_cut; split <;> omega
theorem v_pass1 {K : d_S → Option d_S} (h0 : 0 ≤ day ∧ day ≤ 2000) (h1 : 0 ≤ heat ∧ heat ≤ 2000) : ∀ (j k m : Nat), k + j = v_bl u v → j < m → ∀ (s : d_S), v_G (s.1 65) u v W H → v_RT (s.1 67) (s.1 65 2) L → v_Nm (s.1 71) → v_B (s.1 65) st (v_me1 L u v W H day heat st me so k) so → s.1 65 9 = day → s.1 65 10 = heat → ∃ s', F_X12_pass_l2 K m (k : Int) s = K s' ∧ v_B (s'.1 65) st (v_me1 L u v W H day heat st me so (v_bl u v)) so ∧ v_fb (s.1 65) (s'.1 65) ∧ (∀ a, a ≠ 65 → a ≠ 71 → s'.1 a = s.1 a) ∧ s'.2.1 = s.2.1 ∧ v_Nm (s'.1 71) := by
  intro j
  induction j with
  | zero =>
    intro k m hk hm s hG hT hN hB h9 h10
    obtain ⟨m, rfl⟩ : ∃ q, m = q + 1 := ⟨m - 1, by omega⟩
    have hk : k = v_bl u v := by omega
    subst hk
    refine ⟨s, ?_, hB, fun _ _ => rfl, fun _ _ _ => rfl, rfl, hN⟩
    show F_X12_pass_l2_b K (F_X12_pass_l2 K m) _ s = _
    unfold F_X12_pass_l2_b
    rw [P_blocks hG, d_b_t, if_neg (by omega)]
  | succ j ih =>
    intro k m hk hm s hG hT hN hB h9 h10
    obtain ⟨m, rfl⟩ : ∃ q, m = q + 1 := ⟨m - 1, by omega⟩
    have ha := hG.ac
    have hkb : k < v_bl u v := by omega
    obtain ⟨-, m1, m2, m3⟩ := hB k (by omega)
    have e1 : v_me1 L u v W H day heat st me so k k = me k := if_neg (by omega)
    rw [e1] at m2
    show ∃ s', F_X12_pass_l2_b K (F_X12_pass_l2 K m) _ s = _ ∧ _
    unfold F_X12_pass_l2_b
    rw [P_blocks hG, d_b_t, if_pos (by omega), P_isSold hB (by omega), d_b_t]
    by_cases q : so k = 0
    · rw [if_pos (by omega), P_get1 hB (by omega), d_b_t, e1]
      obtain ⟨s1, g1, g2, g3, g4⟩ := P_meltsOf hG hkb hT hN hB h9 h10 h0 h1
      rw [e1] at g1
      have hm := v_mel_b (L := L) (day := day) (heat := heat) (size := ((v_sz u v W H k : Nat) : Int)) (straw := ((st k : Nat) : Int)) (melted := ((me k : Nat) : Int)) (edge := ((v_ed u v W H k : Nat) : Int))
      have hmf := v_mf_b (L := L) (day := day) (heat := heat) (size := ((v_sz u v W H k : Nat) : Int)) (straw := ((st k : Nat) : Int)) (melted := ((me k : Nat) : Int)) (edge := ((v_ed u v W H k : Nat) : Int)) (by omega)
      rw [g1, d_b2_t, d_w_id (by omega) (by omega), P_cut (by decide) (by decide), d_b_t, v_cut_mf (by omega) hm]
      obtain ⟨y, hy⟩ : ∃ y : Nat, v_mf L day heat ((v_sz u v W H k : Nat) : Int) ((st k : Nat) : Int) ((me k : Nat) : Int) ((v_ed u v W H k : Nat) : Int) = y := ⟨_, (Int.toNat_of_nonneg hmf.1).symm⟩
      have hy' : (if ((me k : Nat) : Int) < 100 then min 100 (((me k : Nat) : Int) + v_mel L day heat ((v_sz u v W H k : Nat) : Int) ((st k : Nat) : Int) ((me k : Nat) : Int) ((v_ed u v W H k : Nat) : Int)) else 100) = (y : Int) := hy
      rw [hy', P_set1 (by omega), d_b_t, d_w_id (by omega) (by omega)]
      have hB1 : v_B (s1.1 65) st (v_me1 L u v W H day heat st me so k) so := by rw [g2 65 (by decide)]; exact hB
      have hB2 := hB1.set1 (b := k) (x := y) (by omega)
      have u1 : v_up1 (v_me1 L u v W H day heat st me so k) k y = v_me1 L u v W H day heat st me so (k + 1) := by
        funext i
        unfold v_up1 v_me1
        by_cases z : i = k
        · subst z; rw [if_pos rfl, if_pos (by omega), if_pos q, hy]; rfl
        · rw [if_neg z]
          by_cases z2 : i < k
          · rw [if_pos z2, if_pos (show i < k + 1 by omega)]
          · rw [if_neg z2, if_neg (show ¬ i < k + 1 by omega)]
      rw [u1] at hB2
      obtain ⟨s2, hs2⟩ : ∃ z, z = d_si s1 65 (21 + 3 * k) (y : Int) := ⟨_, rfl⟩
      rw [← hs2] at hB2 ⊢
      have f65 : v_fb (s.1 65) (s2.1 65) := fun i hi => by rw [hs2, d_si_i, d_u_n (by omega), g2 65 (by decide)]
      have fo : ∀ a, a ≠ 65 → a ≠ 71 → s2.1 a = s.1 a := fun a h1 h2 => by rw [hs2, d_si_n h1]; exact g2 a h2
      have hN2 : v_Nm (s2.1 71) := by rw [hs2, d_si_n (by decide)]; exact g4 hN
      obtain ⟨s', r1, r2, r3, r4, r5, r6⟩ := ih (k + 1) m (by omega) (by omega) s2 (f65.G hG) (by rw [fo 67 (by decide) (by decide), f65 2 (by decide)]; exact hT) hN2 hB2 (by rw [f65 9 (by decide)]; exact h9) (by rw [f65 10 (by decide)]; exact h10)
      exact ⟨s', r1, r2, f65.trans r3, fun a h1 h2 => (r4 a h1 h2).trans (fo a h1 h2), r5.trans (by rw [hs2, d_si_2]; exact g3), r6⟩
    · rw [if_neg (by omega), d_w_id (by omega) (by omega)]
      have u1 : v_me1 L u v W H day heat st me so k = v_me1 L u v W H day heat st me so (k + 1) := by
        funext i
        unfold v_me1
        by_cases z : i = k
        · subst z; rw [if_neg (by omega), if_pos (by omega), if_neg q]
        · by_cases z2 : i < k
          · rw [if_pos z2, if_pos (show i < k + 1 by omega)]
          · rw [if_neg z2, if_neg (show ¬ i < k + 1 by omega)]
      exact ih (k + 1) m (by omega) (by omega) s hG hT hN (by rw [← u1]; exact hB) h9 h10
theorem v_pass2 (h0 : 0 ≤ day ∧ day ≤ 2000) (h1 : 0 ≤ heat ∧ heat ≤ 2000) : ∀ (j k m : Nat), k + j = v_bl u v → j < m → ∀ (s : d_S), v_G (s.1 65) u v W H → v_RT (s.1 67) (s.1 65 2) L → v_Nm (s.1 71) → v_B (s.1 65) (v_st1 L u v W H day heat st me so k) me so → s.1 65 9 = day → s.1 65 10 = heat → ∃ s', F_X12_pass_l74 m (k : Int) s = some s' ∧ v_B (s'.1 65) (v_st1 L u v W H day heat st me so (v_bl u v)) me so ∧ v_fb (s.1 65) (s'.1 65) ∧ (∀ a, a ≠ 65 → a ≠ 71 → s'.1 a = s.1 a) ∧ s'.2.1 = s.2.1 ∧ v_Nm (s'.1 71) := by
  intro j
  induction j with
  | zero =>
    intro k m hk hm s hG hT hN hB h9 h10
    obtain ⟨m, rfl⟩ : ∃ q, m = q + 1 := ⟨m - 1, by omega⟩
    have hk : k = v_bl u v := by omega
    subst hk
    refine ⟨s, ?_, hB, fun _ _ => rfl, fun _ _ _ => rfl, rfl, hN⟩
    show F_X12_pass_l74_b (F_X12_pass_l74 m) _ s = _
    unfold F_X12_pass_l74_b
    rw [P_blocks hG, d_b_t, if_neg (by omega)]
  | succ j ih =>
    intro k m hk hm s hG hT hN hB h9 h10
    obtain ⟨m, rfl⟩ : ∃ q, m = q + 1 := ⟨m - 1, by omega⟩
    have ha := hG.ac
    have hkb : k < v_bl u v := by omega
    obtain ⟨-, m1, m2, m3⟩ := hB k (by omega)
    have e1 : v_st1 L u v W H day heat st me so k k = st k := if_neg (by omega)
    rw [e1] at m1
    show ∃ s', F_X12_pass_l74_b (F_X12_pass_l74 m) _ s = _ ∧ _
    unfold F_X12_pass_l74_b
    rw [P_blocks hG, d_b_t, if_pos (by omega), P_isSold hB (by omega), d_b_t]
    by_cases q : so k = 0
    · rw [if_pos (by omega), P_get0 hB (by omega), d_b_t, d_b_t, P_get1 hB (by omega), d_b_t, e1]
      obtain ⟨s1, g1, g2, g3, g4⟩ := P_rotsBy (straw := ((st k : Nat) : Int)) (melted := ((me k : Nat) : Int)) (day := day) (heat := heat) hG hkb hT hN h0 h1 (by omega) (by omega)
      have hm := v_rot_b (L := L) (day := day) (heat := heat) (size := ((v_sz u v W H k : Nat) : Int)) (straw := ((st k : Nat) : Int)) (melted := ((me k : Nat) : Int)) (edge := ((v_ed u v W H k : Nat) : Int))
      have hsf := v_sf_b (L := L) (day := day) (heat := heat) (size := ((v_sz u v W H k : Nat) : Int)) (straw := ((st k : Nat) : Int)) (melted := ((me k : Nat) : Int)) (edge := ((v_ed u v W H k : Nat) : Int)) (by omega)
      rw [h9, h10, g1, d_b2_t, d_w_id (by omega) (by omega), P_cut (by decide) (by decide), d_b_t, v_cut_sf (by omega) hm]
      obtain ⟨y, hy⟩ : ∃ y : Nat, v_sf L day heat ((v_sz u v W H k : Nat) : Int) ((st k : Nat) : Int) ((me k : Nat) : Int) ((v_ed u v W H k : Nat) : Int) = y := ⟨_, (Int.toNat_of_nonneg hsf.1).symm⟩
      have hy' : (if 0 < ((st k : Nat) : Int) then max 0 (((st k : Nat) : Int) - v_rot L day heat ((v_sz u v W H k : Nat) : Int) ((st k : Nat) : Int) ((me k : Nat) : Int) ((v_ed u v W H k : Nat) : Int)) else 0) = (y : Int) := hy
      rw [hy', P_set0 (by omega), d_b_t, d_w_id (by omega) (by omega)]
      have hB1 : v_B (s1.1 65) (v_st1 L u v W H day heat st me so k) me so := by rw [g2 65 (by decide)]; exact hB
      have hB2 := hB1.set0 (b := k) (x := y) (by omega)
      have u1 : v_up1 (v_st1 L u v W H day heat st me so k) k y = v_st1 L u v W H day heat st me so (k + 1) := by
        funext i
        unfold v_up1 v_st1
        by_cases z : i = k
        · subst z; rw [if_pos rfl, if_pos (by omega), if_pos q, hy]; rfl
        · rw [if_neg z]
          by_cases z2 : i < k
          · rw [if_pos z2, if_pos (show i < k + 1 by omega)]
          · rw [if_neg z2, if_neg (show ¬ i < k + 1 by omega)]
      rw [u1] at hB2
      obtain ⟨s2, hs2⟩ : ∃ z, z = d_si s1 65 (20 + 3 * k) (y : Int) := ⟨_, rfl⟩
      rw [← hs2] at hB2 ⊢
      have f65 : v_fb (s.1 65) (s2.1 65) := fun i hi => by rw [hs2, d_si_i, d_u_n (by omega), g2 65 (by decide)]
      have fo : ∀ a, a ≠ 65 → a ≠ 71 → s2.1 a = s.1 a := fun a h1 h2 => by rw [hs2, d_si_n h1]; exact g2 a h2
      have hN2 : v_Nm (s2.1 71) := by rw [hs2, d_si_n (by decide)]; exact g4 hN
      obtain ⟨s', r1, r2, r3, r4, r5, r6⟩ := ih (k + 1) m (by omega) (by omega) s2 (f65.G hG) (by rw [fo 67 (by decide) (by decide), f65 2 (by decide)]; exact hT) hN2 hB2 (by rw [f65 9 (by decide)]; exact h9) (by rw [f65 10 (by decide)]; exact h10)
      exact ⟨s', r1, r2, f65.trans r3, fun a h1 h2 => (r4 a h1 h2).trans (fo a h1 h2), r5.trans (by rw [hs2, d_si_2]; exact g3), r6⟩
    · rw [if_neg (by omega), d_w_id (by omega) (by omega)]
      have u1 : v_st1 L u v W H day heat st me so k = v_st1 L u v W H day heat st me so (k + 1) := by
        funext i
        unfold v_st1
        by_cases z : i = k
        · subst z; rw [if_neg (by omega), if_pos (by omega), if_neg q]
        · by_cases z2 : i < k
          · rw [if_pos z2, if_pos (show i < k + 1 by omega)]
          · rw [if_neg z2, if_neg (show ¬ i < k + 1 by omega)]
      exact ih (k + 1) m (by omega) (by omega) s hG hT hN (by rw [← u1]; exact hB) h9 h10
end V10

def v_cut (x top : Int) : Int := max 0 (min top x)
def v_RS (T : Nat → Int) (k c : Int) (Vo : Option ((Nat → Int) → Int)) : Prop := ∀ (s : d_S) (w top : Int), (∀ j : Nat, 777 * k ≤ (j : Int) → (j : Int) < 777 * k + 777 → s.1 67 j = T j) → v_Nm (s.1 71) → 0 ≤ top → top ≤ 10000 → d_RL w → ∃ s', F_X12_says s k c w top = some (v_cut (match Vo with
  | none => w
  | some V => V (s.1 71)) top, s') ∧ s'.1 = s.1 ∧ s'.2.1 = s.2.1
def v_RT (T : Nat → Int) (k : Int) (L : v_LR) : Prop := v_RS T k 0 (L.1.map (fun V f => V (f 0) (f 1) (f 2) (f 3) (f 4) (f 5))) ∧ v_RS T k 1 (L.2.1.map (fun V f => V (f 0) (f 1) (f 2) (f 3) (f 4) (f 5) (f 6) (f 7))) ∧ v_RS T k 2 (L.2.2.map (fun V f => V (f 0) (f 1) (f 2) (f 3) (f 4) (f 5)))
section V10
variable {s : d_S} {L : v_LR} {u v W H b : Nat} {st me so : Nat → Nat} {day heat x : Int} {k : Int}
theorem P_cut {x top : Int} (h0 : 0 ≤ top) (h1 : top ≤ 10000) : F_X12_cut x top = some (v_cut x top) := by
  unfold F_X12_cut v_cut
  by_cases q : x < 0
  · rw [if_pos q]; congr 1; omega
  · rw [if_neg q]
    by_cases q2 : top < x
    · rw [if_pos q2]; congr 1; omega
    · rw [if_neg q2, d_w_id (by omega) (by omega)]; congr 1; omega
theorem v_RS_m1 {T : Nat → Int} {c : Int} : v_RS T (-1) c none := by
  intro s w top h1 h2 h3 h4 h5
  refine ⟨s, ?_, rfl, rfl⟩
  unfold F_X12_says
  rw [d_N_is]
  show F_X12_says_l3_b _ _ (F_X12_says_l3 _ _ 99999) (-1) c w top 0 s = _
  unfold F_X12_says_l3_b
  rw [if_pos (by decide)]
  show d_b (F_X12_cut w top) _ = _
  rw [P_cut h3 h4, d_b_t]
theorem v_RT_m1 {T : Nat → Int} : v_RT T (-1) (none, none, none) := ⟨v_RS_m1, v_RS_m1, v_RS_m1⟩
def v_nam (f : Nat → Int) (day heat size straw melted edge : Int) : Nat → Int := d_u (d_u (d_u (d_u (d_u (d_u f 0 day) 1 heat) 2 size) 3 straw) 4 melted) 5 edge
theorem P_name (hG : v_G (s.1 65) u v W H) (hb : b < v_bl u v) {straw melted : Int} : ∃ s', F_X12_name s (b : Int) day heat straw melted = some s' ∧ s'.1 71 = v_nam (s.1 71) day heat ((v_sz u v W H b : Nat) : Int) straw melted ((v_ed u v W H b : Nat) : Int) ∧ (∀ a, a ≠ 71 → s'.1 a = s.1 a) ∧ s'.2 = s.2 := by
  have hsz := v_sz_le (u := u) (v := v) (W := W) (H := H) (b := b) hG.2.2.2.1.2 hG.2.2.2.2.1.2
  have h2 : v_G ((d_si (d_si s 71 0 day) 71 1 heat).1 65) u v W H := by rw [d_si_n (by decide), d_si_n (by decide)]; exact hG
  unfold F_X12_name
  rw [d_l_t, d_l_t, P_wideOf h2 hb, d_b_t, P_highOf h2 hb, d_b_t, d_l_t, d_l_t, d_l_t]
  have hm : ((v_wd u W b : Nat) : Int) * ((v_hg u v H b : Nat) : Int) = ((v_sz u v W H b : Nat) : Int) := by rw [← Int.natCast_mul]; rfl
  rw [hm, d_w_id (by omega) (by omega)]
  have h7 : v_G ((d_si (d_si (d_si (d_si (d_si s 71 0 day) 71 1 heat) 71 2 ((v_sz u v W H b : Nat) : Int)) 71 3 straw) 71 4 melted).1 65) u v W H := by
    rw [d_si_n (by decide), d_si_n (by decide), d_si_n (by decide)]; exact h2
  rw [P_edgeOf h7 hb, d_b_t, d_l_t]
  refine ⟨_, rfl, ?_, fun a ha => ?_, rfl⟩
  · rw [d_si_i, d_si_i, d_si_i, d_si_i, d_si_i, d_si_i]; rfl
  · rw [d_si_n ha, d_si_n ha, d_si_n ha, d_si_n ha, d_si_n ha, d_si_n ha]
theorem v_Nm.nam {f : Nat → Int} (h : v_Nm f) {day heat size straw melted edge : Int} (h0 : 0 ≤ day ∧ day ≤ 2000) (h1 : 0 ≤ heat ∧ heat ≤ 2000) (h2 : 0 ≤ size ∧ size ≤ 2000) (h3 : 0 ≤ straw ∧ straw ≤ 2000) (h4 : 0 ≤ melted ∧ melted ≤ 2000) (h5 : 0 ≤ edge ∧ edge ≤ 2000) : v_Nm (v_nam f day heat size straw melted edge) :=
  (((((h.u h0.1 h0.2).u h1.1 h1.2).u h2.1 h2.2).u h3.1 h3.2).u h4.1 h4.2).u h5.1 h5.2
def v_71 (s s' : d_S) : Prop := (∀ a, a ≠ 71 → s'.1 a = s.1 a) ∧ s'.2.1 = s.2.1 ∧ (v_Nm (s.1 71) → v_Nm (s'.1 71))
theorem P_meltsBy (hG : v_G (s.1 65) u v W H) (hb : b < v_bl u v) (hT : v_RT (s.1 67) k L) (hN : v_Nm (s.1 71)) {straw melted : Int} (h0 : 0 ≤ day ∧ day ≤ 2000) (h1 : 0 ≤ heat ∧ heat ≤ 2000) (h3 : 0 ≤ straw ∧ straw ≤ 2000) (h4 : 0 ≤ melted ∧ melted ≤ 2000) : ∃ s', F_X12_meltsBy s k (b : Int) day heat straw melted = some (v_mel L day heat ((v_sz u v W H b : Nat) : Int) straw melted ((v_ed u v W H b : Nat) : Int), s') ∧ v_71 s s' := by
  have hsz := v_sz_le (u := u) (v := v) (W := W) (H := H) (b := b) hG.2.2.2.1.2 hG.2.2.2.2.1.2
  have hed := v_ed_le (u := u) (v := v) (W := W) (H := H) (b := b)
  obtain ⟨s1, g1, g2, g3, g4⟩ := P_name (s := s) (day := day) (heat := heat) (straw := straw) (melted := melted) hG hb
  have hN1 : v_Nm (s1.1 71) := by rw [g2]; exact hN.nam h0 h1 (by omega) h3 h4 (by omega)
  have e5 : s1.1 71 5 = ((v_ed u v W H b : Nat) : Int) := by rw [g2]; rfl
  obtain ⟨s2, r1, r2, r3⟩ := hT.1 s1 (heat + ((v_ed u v W H b : Nat) : Int) - straw) 100 (fun j _ _ => congrFun (g3 67 (by decide)) j) hN1 (by decide) (by decide) ⟨by omega, by omega⟩
  unfold F_X12_meltsBy
  rw [g1, d_b_t, e5, d_w_id (by omega) (by omega), r1, d_b2_t]
  refine ⟨s2, ?_, fun a ha => by rw [r2]; exact g3 a ha, r3.trans (by rw [g4]), fun _ => by rw [r2]; exact hN1⟩
  congr 1
  refine Prod.ext ?_ rfl
  unfold v_mel v_cut
  rw [g2]
  cases L.1 with
  | none => rfl
  | some V => rfl
theorem P_rotsBy (hG : v_G (s.1 65) u v W H) (hb : b < v_bl u v) (hT : v_RT (s.1 67) (s.1 65 2) L) (hN : v_Nm (s.1 71)) {straw melted : Int} (h0 : 0 ≤ day ∧ day ≤ 2000) (h1 : 0 ≤ heat ∧ heat ≤ 2000) (h3 : 0 ≤ straw ∧ straw ≤ 2000) (h4 : 0 ≤ melted ∧ melted ≤ 2000) : ∃ s', F_X12_rotsBy s (b : Int) day heat straw melted = some (v_rot L day heat ((v_sz u v W H b : Nat) : Int) straw melted ((v_ed u v W H b : Nat) : Int), s') ∧ v_71 s s' := by
  have hsz := v_sz_le (u := u) (v := v) (W := W) (H := H) (b := b) hG.2.2.2.1.2 hG.2.2.2.2.1.2
  have hed := v_ed_le (u := u) (v := v) (W := W) (H := H) (b := b)
  obtain ⟨s1, g1, g2, g3, g4⟩ := P_name (s := s) (day := day) (heat := heat) (straw := straw) (melted := melted) hG hb
  have hN1 : v_Nm (s1.1 71) := by rw [g2]; exact hN.nam h0 h1 (by omega) h3 h4 (by omega)
  obtain ⟨s2, r1, r2, r3⟩ := hT.2.2 s1 0 9 (fun j _ _ => congrFun (g3 67 (by decide)) j) hN1 (by decide) (by decide) ⟨by decide, by decide⟩
  unfold F_X12_rotsBy
  rw [g1, d_b_t, g3 65 (by decide), r1, d_b2_t]
  refine ⟨s2, ?_, fun a ha => by rw [r2]; exact g3 a ha, r3.trans (by rw [g4]), fun _ => by rw [r2]; exact hN1⟩
  congr 1
  refine Prod.ext ?_ rfl
  unfold v_rot v_cut
  rw [g2]
  cases L.2.2 with
  | none => rfl
  | some V => rfl
theorem P_meltsOf (hG : v_G (s.1 65) u v W H) (hb : b < v_bl u v) (hT : v_RT (s.1 67) (s.1 65 2) L) (hN : v_Nm (s.1 71)) (hB : v_B (s.1 65) st me so) (h9 : s.1 65 9 = day) (h10 : s.1 65 10 = heat) (h0 : 0 ≤ day ∧ day ≤ 2000) (h1 : 0 ≤ heat ∧ heat ≤ 2000) : ∃ s', F_X12_meltsOf s (b : Int) = some (v_mel L day heat ((v_sz u v W H b : Nat) : Int) ((st b : Nat) : Int) ((me b : Nat) : Int) ((v_ed u v W H b : Nat) : Int), s') ∧ v_71 s s' := by
  have ha := hG.ac
  obtain ⟨-, m1, m2, m3⟩ := hB b (by omega)
  obtain ⟨s', g1, g2⟩ := P_meltsBy (straw := ((st b : Nat) : Int)) (melted := ((me b : Nat) : Int)) hG hb hT hN h0 h1 (by omega) (by omega)
  refine ⟨s', ?_, g2⟩
  unfold F_X12_meltsOf
  rw [P_get0 hB (by omega), d_b_t, P_get1 hB (by omega), d_b_t, h9, h10, g1, d_b2_t]
def v_fb (A A' : Nat → Int) : Prop := ∀ j, j < 20 ∨ 212 ≤ j → A' j = A j
theorem v_fb.trans {A B C : Nat → Int} (h1 : v_fb A B) (h2 : v_fb B C) : v_fb A C := fun j hj => (h2 j hj).trans (h1 j hj)
theorem v_fb.G {A A' : Nat → Int} (h : v_fb A A') (hG : v_G A u v W H) : v_G A' u v W H := by
  obtain ⟨⟨a, b, c, d⟩, r⟩ := hG
  exact ⟨⟨by rw [h 14 (by decide)]; exact a, by rw [h 15 (by decide)]; exact b, by rw [h 16 (by decide)]; exact c, by rw [h 17 (by decide)]; exact d⟩, r⟩
def v_me1 (L : v_LR) (u v W H : Nat) (day heat : Int) (st me so : Nat → Nat) (k b : Nat) : Nat := if b < k then (if so b = 0 then (v_mf L day heat ((v_sz u v W H b : Nat) : Int) ((st b : Nat) : Int) ((me b : Nat) : Int) ((v_ed u v W H b : Nat) : Int)).toNat else me b) else me b
def v_st1 (L : v_LR) (u v W H : Nat) (day heat : Int) (st me so : Nat → Nat) (k b : Nat) : Nat := if b < k then (if so b = 0 then (v_sf L day heat ((v_sz u v W H b : Nat) : Int) ((st b : Nat) : Int) ((me b : Nat) : Int) ((v_ed u v W H b : Nat) : Int)).toNat else st b) else st b
theorem v_cut_mf {m d : Int} (h0 : 0 ≤ m ∧ m ≤ 100) (hd : 0 ≤ d ∧ d ≤ 100) : v_cut (m + d) 100 = if m < 100 then min 100 (m + d) else 100 := by
  unfold v_cut; split <;> omega
theorem v_cut_sf {m d : Int} (h0 : 0 ≤ m ∧ m ≤ 9) (hd : 0 ≤ d ∧ d ≤ 9) : v_cut (m - d) 9 = if 0 < m then max 0 (m - d) else 0 := by
  unfold v_cut; split <;> omega
theorem v_pass1 {K : d_S → Option d_S} (h0 : 0 ≤ day ∧ day ≤ 2000) (h1 : 0 ≤ heat ∧ heat ≤ 2000) : ∀ (j k m : Nat), k + j = v_bl u v → j < m → ∀ (s : d_S), v_G (s.1 65) u v W H → v_RT (s.1 67) (s.1 65 2) L → v_Nm (s.1 71) → v_B (s.1 65) st (v_me1 L u v W H day heat st me so k) so → s.1 65 9 = day → s.1 65 10 = heat → ∃ s', F_X12_pass_l2 K m (k : Int) s = K s' ∧ v_B (s'.1 65) st (v_me1 L u v W H day heat st me so (v_bl u v)) so ∧ v_fb (s.1 65) (s'.1 65) ∧ (∀ a, a ≠ 65 → a ≠ 71 → s'.1 a = s.1 a) ∧ s'.2.1 = s.2.1 ∧ v_Nm (s'.1 71) := by
  intro j
  induction j with
  | zero =>
    intro k m hk hm s hG hT hN hB h9 h10
    obtain ⟨m, rfl⟩ : ∃ q, m = q + 1 := ⟨m - 1, by omega⟩
    have hk : k = v_bl u v := by omega
    subst hk
    refine ⟨s, ?_, hB, fun _ _ => rfl, fun _ _ _ => rfl, rfl, hN⟩
    show F_X12_pass_l2_b K (F_X12_pass_l2 K m) _ s = _
    unfold F_X12_pass_l2_b
    rw [P_blocks hG, d_b_t, if_neg (by omega)]
  | succ j ih =>
    intro k m hk hm s hG hT hN hB h9 h10
    obtain ⟨m, rfl⟩ : ∃ q, m = q + 1 := ⟨m - 1, by omega⟩
    have ha := hG.ac
    have hkb : k < v_bl u v := by omega
    obtain ⟨-, m1, m2, m3⟩ := hB k (by omega)
    have e1 : v_me1 L u v W H day heat st me so k k = me k := if_neg (by omega)
    rw [e1] at m2
    show ∃ s', F_X12_pass_l2_b K (F_X12_pass_l2 K m) _ s = _ ∧ _
    unfold F_X12_pass_l2_b
    rw [P_blocks hG, d_b_t, if_pos (by omega), P_isSold hB (by omega), d_b_t]
    by_cases q : so k = 0
    · rw [if_pos (by omega), P_get1 hB (by omega), d_b_t, e1]
      obtain ⟨s1, g1, g2, g3, g4⟩ := P_meltsOf hG hkb hT hN hB h9 h10 h0 h1
      rw [e1] at g1
      have hm := v_mel_b (L := L) (day := day) (heat := heat) (size := ((v_sz u v W H k : Nat) : Int)) (straw := ((st k : Nat) : Int)) (melted := ((me k : Nat) : Int)) (edge := ((v_ed u v W H k : Nat) : Int))
      have hmf := v_mf_b (L := L) (day := day) (heat := heat) (size := ((v_sz u v W H k : Nat) : Int)) (straw := ((st k : Nat) : Int)) (melted := ((me k : Nat) : Int)) (edge := ((v_ed u v W H k : Nat) : Int)) (by omega)
      rw [g1, d_b2_t, d_w_id (by omega) (by omega), P_cut (by decide) (by decide), d_b_t, v_cut_mf (by omega) hm]
      obtain ⟨y, hy⟩ : ∃ y : Nat, v_mf L day heat ((v_sz u v W H k : Nat) : Int) ((st k : Nat) : Int) ((me k : Nat) : Int) ((v_ed u v W H k : Nat) : Int) = y := ⟨_, (Int.toNat_of_nonneg hmf.1).symm⟩
      have hy' : (if ((me k : Nat) : Int) < 100 then min 100 (((me k : Nat) : Int) + v_mel L day heat ((v_sz u v W H k : Nat) : Int) ((st k : Nat) : Int) ((me k : Nat) : Int) ((v_ed u v W H k : Nat) : Int)) else 100) = (y : Int) := hy
      rw [hy', P_set1 (by omega), d_b_t, d_w_id (by omega) (by omega)]
      have hB1 : v_B (s1.1 65) st (v_me1 L u v W H day heat st me so k) so := by rw [g2 65 (by decide)]; exact hB
      have hB2 := hB1.set1 (b := k) (x := y) (by omega)
      have u1 : v_up1 (v_me1 L u v W H day heat st me so k) k y = v_me1 L u v W H day heat st me so (k + 1) := by
        funext i
        unfold v_up1 v_me1
        by_cases z : i = k
        · subst z; rw [if_pos rfl, if_pos (by omega), if_pos q, hy]; rfl
        · rw [if_neg z]
          by_cases z2 : i < k
          · rw [if_pos z2, if_pos (show i < k + 1 by omega)]
          · rw [if_neg z2, if_neg (show ¬ i < k + 1 by omega)]
      rw [u1] at hB2
      obtain ⟨s2, hs2⟩ : ∃ z, z = d_si s1 65 (21 + 3 * k) (y : Int) := ⟨_, rfl⟩
      rw [← hs2] at hB2 ⊢
      have f65 : v_fb (s.1 65) (s2.1 65) := fun i hi => by rw [hs2, d_si_i, d_u_n (by omega), g2 65 (by decide)]
      have fo : ∀ a, a ≠ 65 → a ≠ 71 → s2.1 a = s.1 a := fun a h1 h2 => by rw [hs2, d_si_n h1]; exact g2 a h2
      have hN2 : v_Nm (s2.1 71) := by rw [hs2, d_si_n (by decide)]; exact g4 hN
      obtain ⟨s', r1, r2, r3, r4, r5, r6⟩ := ih (k + 1) m (by omega) (by omega) s2 (f65.G hG) (by rw [fo 67 (by decide) (by decide), f65 2 (by decide)]; exact hT) hN2 hB2 (by rw [f65 9 (by decide)]; exact h9) (by rw [f65 10 (by decide)]; exact h10)
      exact ⟨s', r1, r2, f65.trans r3, fun a h1 h2 => (r4 a h1 h2).trans (fo a h1 h2), r5.trans (by rw [hs2, d_si_2]; exact g3), r6⟩
    · rw [if_neg (by omega), d_w_id (by omega) (by omega)]
      have u1 : v_me1 L u v W H day heat st me so k = v_me1 L u v W H day heat st me so (k + 1) := by
        funext i
        unfold v_me1
        by_cases z : i = k
        · subst z; rw [if_neg (by omega), if_pos (by omega), if_neg q]
        · by_cases z2 : i < k
          · rw [if_pos z2, if_pos (show i < k + 1 by omega)]
          · rw [if_neg z2, if_neg (show ¬ i < k + 1 by omega)]
      exact ih (k + 1) m (by omega) (by omega) s hG hT hN (by rw [← u1]; exact hB) h9 h10
theorem v_pass2 (h0 : 0 ≤ day ∧ day ≤ 2000) (h1 : 0 ≤ heat ∧ heat ≤ 2000) : ∀ (j k m : Nat), k + j = v_bl u v → j < m → ∀ (s : d_S), v_G (s.1 65) u v W H → v_RT (s.1 67) (s.1 65 2) L → v_Nm (s.1 71) → v_B (s.1 65) (v_st1 L u v W H day heat st me so k) me so → s.1 65 9 = day → s.1 65 10 = heat → ∃ s', F_X12_pass_l74 m (k : Int) s = some s' ∧ v_B (s'.1 65) (v_st1 L u v W H day heat st me so (v_bl u v)) me so ∧ v_fb (s.1 65) (s'.1 65) ∧ (∀ a, a ≠ 65 → a ≠ 71 → s'.1 a = s.1 a) ∧ s'.2.1 = s.2.1 ∧ v_Nm (s'.1 71) := by
  intro j
  induction j with
  | zero =>
    intro k m hk hm s hG hT hN hB h9 h10
    obtain ⟨m, rfl⟩ : ∃ q, m = q + 1 := ⟨m - 1, by omega⟩
    have hk : k = v_bl u v := by omega
    subst hk
    refine ⟨s, ?_, hB, fun _ _ => rfl, fun _ _ _ => rfl, rfl, hN⟩
    show F_X12_pass_l74_b (F_X12_pass_l74 m) _ s = _
    unfold F_X12_pass_l74_b
    rw [P_blocks hG, d_b_t, if_neg (by omega)]
  | succ j ih =>
    intro k m hk hm s hG hT hN hB h9 h10
    obtain ⟨m, rfl⟩ : ∃ q, m = q + 1 := ⟨m - 1, by omega⟩
    have ha := hG.ac
    have hkb : k < v_bl u v := by omega
    obtain ⟨-, m1, m2, m3⟩ := hB k (by omega)
    have e1 : v_st1 L u v W H day heat st me so k k = st k := if_neg (by omega)
    rw [e1] at m1
    show ∃ s', F_X12_pass_l74_b (F_X12_pass_l74 m) _ s = _ ∧ _
    unfold F_X12_pass_l74_b
    rw [P_blocks hG, d_b_t, if_pos (by omega), P_isSold hB (by omega), d_b_t]
    by_cases q : so k = 0
    · rw [if_pos (by omega), P_get0 hB (by omega), d_b_t, d_b_t, P_get1 hB (by omega), d_b_t, e1]
      obtain ⟨s1, g1, g2, g3, g4⟩ := P_rotsBy (straw := ((st k : Nat) : Int)) (melted := ((me k : Nat) : Int)) (day := day) (heat := heat) hG hkb hT hN h0 h1 (by omega) (by omega)
      have hm := v_rot_b (L := L) (day := day) (heat := heat) (size := ((v_sz u v W H k : Nat) : Int)) (straw := ((st k : Nat) : Int)) (melted := ((me k : Nat) : Int)) (edge := ((v_ed u v W H k : Nat) : Int))
      have hsf := v_sf_b (L := L) (day := day) (heat := heat) (size := ((v_sz u v W H k : Nat) : Int)) (straw := ((st k : Nat) : Int)) (melted := ((me k : Nat) : Int)) (edge := ((v_ed u v W H k : Nat) : Int)) (by omega)
      rw [h9, h10, g1, d_b2_t, d_w_id (by omega) (by omega), P_cut (by decide) (by decide), d_b_t, v_cut_sf (by omega) hm]
      obtain ⟨y, hy⟩ : ∃ y : Nat, v_sf L day heat ((v_sz u v W H k : Nat) : Int) ((st k : Nat) : Int) ((me k : Nat) : Int) ((v_ed u v W H k : Nat) : Int) = y := ⟨_, (Int.toNat_of_nonneg hsf.1).symm⟩
      have hy' : (if 0 < ((st k : Nat) : Int) then max 0 (((st k : Nat) : Int) - v_rot L day heat ((v_sz u v W H k : Nat) : Int) ((st k : Nat) : Int) ((me k : Nat) : Int) ((v_ed u v W H k : Nat) : Int)) else 0) = (y : Int) := hy
      rw [hy', P_set0 (by omega), d_b_t, d_w_id (by omega) (by omega)]
      have hB1 : v_B (s1.1 65) (v_st1 L u v W H day heat st me so k) me so := by rw [g2 65 (by decide)]; exact hB
      have hB2 := hB1.set0 (b := k) (x := y) (by omega)
      have u1 : v_up1 (v_st1 L u v W H day heat st me so k) k y = v_st1 L u v W H day heat st me so (k + 1) := by
        funext i
        unfold v_up1 v_st1
        by_cases z : i = k
        · subst z; rw [if_pos rfl, if_pos (by omega), if_pos q, hy]; rfl
        · rw [if_neg z]
          by_cases z2 : i < k
          · rw [if_pos z2, if_pos (show i < k + 1 by omega)]
          · rw [if_neg z2, if_neg (show ¬ i < k + 1 by omega)]
      rw [u1] at hB2
      obtain ⟨s2, hs2⟩ : ∃ z, z = d_si s1 65 (20 + 3 * k) (y : Int) := ⟨_, rfl⟩
      rw [← hs2] at hB2 ⊢
      have f65 : v_fb (s.1 65) (s2.1 65) := fun i hi => by rw [hs2, d_si_i, d_u_n (by omega), g2 65 (by decide)]
      have fo : ∀ a, a ≠ 65 → a ≠ 71 → s2.1 a = s.1 a := fun a h1 h2 => by rw [hs2, d_si_n h1]; exact g2 a h2
      have hN2 : v_Nm (s2.1 71) := by rw [hs2, d_si_n (by decide)]; exact g4 hN
      obtain ⟨s', r1, r2, r3, r4, r5, r6⟩ := ih (k + 1) m (by omega) (by omega) s2 (f65.G hG) (by rw [fo 67 (by decide) (by decide), f65 2 (by decide)]; exact hT) hN2 hB2 (by rw [f65 9 (by decide)]; exact h9) (by rw [f65 10 (by decide)]; exact h10)
      exact ⟨s', r1, r2, f65.trans r3, fun a h1 h2 => (r4 a h1 h2).trans (fo a h1 h2), r5.trans (by rw [hs2, d_si_2]; exact g3), r6⟩
    · rw [if_neg (by omega), d_w_id (by omega) (by omega)]
      have u1 : v_st1 L u v W H day heat st me so k = v_st1 L u v W H day heat st me so (k + 1) := by
        funext i
        unfold v_st1
        by_cases z : i = k
        · subst z; rw [if_neg (by omega), if_pos (by omega), if_neg q]
        · by_cases z2 : i < k
          · rw [if_pos z2, if_pos (show i < k + 1 by omega)]
          · rw [if_neg z2, if_neg (show ¬ i < k + 1 by omega)]
      exact ih (k + 1) m (by omega) (by omega) s hG hT hN (by rw [← u1]; exact hB) h9 h10
end V10
section V11
variable {s : d_S} {L : v_LR} {u v W H b : Nat} {st me so : Nat → Nat} {day heat x : Int}
theorem v_me1_n (hb : ∀ b, b < 64 → st b ≤ 9 ∧ me b ≤ 100 ∧ so b ≤ 1) : v_me1 L u v W H day heat st me so (v_bl u v) = v_nme L u v W H day heat x st me so (v_bl u v) := by
  funext i
  unfold v_me1 v_nme
  by_cases z : i < v_bl u v
  · rw [if_pos z, if_pos z]
    show _ = (if ((so i : Nat) : Int) = 0 then v_mf L day heat ((v_sz u v W H i : Nat) : Int) ((st i : Nat) : Int) ((me i : Nat) : Int) ((v_ed u v W H i : Nat) : Int) else ((me i : Nat) : Int)).toNat
    by_cases q : so i = 0
    · rw [if_pos q, if_pos (by omega)]
    · rw [if_neg q, if_neg (by omega), Int.toNat_natCast]
  · rw [if_neg z, if_neg z]
theorem v_st1_n (hb : ∀ b, b < 64 → st b ≤ 9 ∧ me b ≤ 100 ∧ so b ≤ 1) (h64 : v_bl u v ≤ 64) : v_st1 L u v W H (day + 1) (x % 10) st (v_nme L u v W H day heat x st me so (v_bl u v)) so (v_bl u v) = v_nst L u v W H day heat x st me so (v_bl u v) := by
  funext i
  unfold v_st1 v_nst
  by_cases z : i < v_bl u v
  · have hme := (hb i (by omega)).2.1
    rw [if_pos z, if_pos z]
    show _ = (if ((so i : Nat) : Int) = 0 then v_sf L (day + 1) (x % 10) ((v_sz u v W H i : Nat) : Int) ((st i : Nat) : Int) (if ((so i : Nat) : Int) = 0 then v_mf L day heat ((v_sz u v W H i : Nat) : Int) ((st i : Nat) : Int) ((me i : Nat) : Int) ((v_ed u v W H i : Nat) : Int) else ((me i : Nat) : Int)) ((v_ed u v W H i : Nat) : Int) else ((st i : Nat) : Int)).toNat
    by_cases q : so i = 0
    · have e : ((v_nme L u v W H day heat x st me so (v_bl u v) i : Nat) : Int) = v_mf L day heat ((v_sz u v W H i : Nat) : Int) ((st i : Nat) : Int) ((me i : Nat) : Int) ((v_ed u v W H i : Nat) : Int) := by
        rw [← v_me1_n (heat := heat) (x := x) hb]
        unfold v_me1
        rw [if_pos z, if_pos q]
        exact Int.toNat_of_nonneg (v_mf_b (by omega)).1
      rw [if_pos q, if_pos (by omega), if_pos (by omega), e]
    · rw [if_neg q, if_neg (by omega), Int.toNat_natCast]
  · rw [if_neg z, if_neg z]
theorem P_pass (hG : v_G (s.1 65) u v W H) (hT : v_RT (s.1 67) (s.1 65 2) L) (hN : v_Nm (s.1 71)) (hB : v_B (s.1 65) st me so) (h9 : s.1 65 9 = day) (h10 : s.1 65 10 = heat) (h13 : s.1 65 13 = x) (h0 : 0 ≤ day ∧ day < 999) (h1 : 0 ≤ heat ∧ heat ≤ 9) (hx : 0 ≤ x ∧ x < 30293) : ∃ s', F_X12_pass s = some s' ∧ v_B (s'.1 65) (v_nst L u v W H day heat x st me so (v_bl u v)) (v_nme L u v W H day heat x st me so (v_bl u v)) so ∧ (s'.1 65 9 = day + 1 ∧ s'.1 65 10 = x % 10 ∧ s'.1 65 13 = (x * 281 + 179) % 30293) ∧ (∀ j, j ≠ 9 → j ≠ 10 → j ≠ 13 → (j < 20 ∨ 212 ≤ j) → s'.1 65 j = s.1 65 j) ∧ (∀ a, a ≠ 65 → a ≠ 71 → s'.1 a = s.1 a) ∧ s'.2.1 = s.2.1 ∧ v_Nm (s'.1 71) := by
  have hb : ∀ b, b < 64 → st b ≤ 9 ∧ me b ≤ 100 ∧ so b ≤ 1 := fun b hb => (hB b hb).2
  have ha := hG.ac
  have e0 : v_me1 L u v W H day heat st me so 0 = me := by funext i; exact if_neg (Nat.not_lt_zero i)
  obtain ⟨s1, r1, r2, r3, r4, r5, r6⟩ := v_pass1 (L := L) (K := fun s_u8 => d_l (d_si s_u8 65 (9) (d_w ((s_u8.1 65 9) + 1))) (fun s9 => d_b2 (F_X12_drawn s9 10) (fun v10 s11 => d_l (d_si s11 65 (10) v10) (fun s12 => F_X12_pass_l74 d_N 0 s12)))) (show 0 ≤ day ∧ day ≤ 2000 by omega) (show 0 ≤ heat ∧ heat ≤ 2000 by omega) (v_bl u v) 0 d_N (Nat.zero_add _) (by rw [d_N_is]; omega) s hG hT hN (by rw [e0]; exact hB) h9 h10
  rw [v_me1_n (x := x) hb] at r2
  obtain ⟨s4, hs4⟩ : ∃ z, z = d_si (d_si (d_si s1 65 9 (day + 1)) 65 13 ((x * 281 + 179) % 30293)) 65 10 (x % 10) := ⟨_, rfl⟩
  have hgo : F_X12_pass s = F_X12_pass_l74 d_N 0 s4 := by
    unfold F_X12_pass
    refine r1.trans ?_
    show d_l (d_si s1 65 9 (d_w (s1.1 65 9 + 1))) _ = _
    rw [r3 9 (by decide), h9, d_w_id (by omega) (by omega), d_l_t]
    have z : (d_si s1 65 9 (day + 1)).1 65 13 = x := by rw [d_si_i, d_u_n (by decide), r3 13 (by decide)]; exact h13
    unfold F_X12_drawn F_X12_anew
    rw [d_g_t (by decide), z, d_l_t, d_b_t, d_b2_t, d_l_t, v_remI (by omega) (by omega) (by decide) (by decide), v_remI (by omega) (by omega) (by decide) (by decide), hs4]
  have e65 : s4.1 65 = d_u (d_u (d_u (s1.1 65) 9 (day + 1)) 13 ((x * 281 + 179) % 30293)) 10 (x % 10) := by rw [hs4, d_si_i, d_si_i, d_si_i]
  have eo : ∀ a, a ≠ 65 → s4.1 a = s1.1 a := fun a h => by rw [hs4, d_si_n h, d_si_n h, d_si_n h]
  have f65 : ∀ j, j ≠ 9 → j ≠ 10 → j ≠ 13 → s4.1 65 j = s1.1 65 j := fun j a b c => by rw [e65, d_u_n b, d_u_n c, d_u_n a]
  have hB4 : v_B (s4.1 65) st (v_nme L u v W H day heat x st me so (v_bl u v)) so := by
    intro i hi
    rw [f65 _ (by omega) (by omega) (by omega), f65 _ (by omega) (by omega) (by omega), f65 _ (by omega) (by omega) (by omega)]
    exact r2 i hi
  have hG4 : v_G (s4.1 65) u v W H := by
    have := r3.G hG
    obtain ⟨⟨a, b, c, d⟩, r⟩ := this
    exact ⟨⟨by rw [f65 14 (by decide) (by decide) (by decide)]; exact a, by rw [f65 15 (by decide) (by decide) (by decide)]; exact b, by rw [f65 16 (by decide) (by decide) (by decide)]; exact c, by rw [f65 17 (by decide) (by decide) (by decide)]; exact d⟩, r⟩
  have e1 : v_st1 L u v W H (day + 1) (x % 10) st (v_nme L u v W H day heat x st me so (v_bl u v)) so 0 = st := by funext i; exact if_neg (Nat.not_lt_zero i)
  obtain ⟨s', q1, q2, q3, q4, q5, q6⟩ := v_pass2 (L := L) (day := day + 1) (heat := x % 10) (by omega) (by omega) (v_bl u v) 0 d_N (Nat.zero_add _) (by rw [d_N_is]; omega) s4 hG4 (by rw [eo 67 (by decide), r4 67 (by decide) (by decide), f65 2 (by decide) (by decide) (by decide), r3 2 (by decide)]; exact hT) (by rw [eo 71 (by decide)]; exact r6) (by rw [e1]; exact hB4) (by rw [e65]; rfl) (by rw [e65, d_u_t])
  rw [v_st1_n hb ha.2.2.1] at q2
  refine ⟨s', hgo.trans q1, q2, ⟨?_, ?_, ?_⟩, fun j h1 h2 h3 h4 => ?_, fun a h1 h2 => ?_, ?_, q6⟩
  · rw [q3 9 (by decide), e65]; rfl
  · rw [q3 10 (by decide), e65]; rfl
  · rw [q3 13 (by decide), e65]; rfl
  · rw [q3 j h4, f65 j h1 h2 h3, r3 j h4]
  · rw [q4 a h1 h2, eo a h1, r4 a h1 h2]
  · rw [q5, hs4, d_si_2, d_si_2, d_si_2, r5]
end V11
section V12C
variable {s : d_S}
theorem d_cp_i {a p b q n j : Nat} : (d_cp s a p b q n).1 b j = if q ≤ j ∧ j < q + n then s.1 a (p + j - q) else s.1 b j := by
  unfold d_cp; rw [d_st_i]
theorem d_cp_n {a p b q n c : Nat} (h : c ≠ b) : (d_cp s a p b q n).1 c = s.1 c := by unfold d_cp; exact d_st_n h
theorem P_writeTo {p : Nat} (hp : p + 71 ≤ 2130) : ∃ s', F_X10_writeTo_6_9 s (p : Int) = some s' ∧ (∀ i, i < 7 → s'.1 9 (p + i) = s.1 6 i) ∧ (∀ b, b < 64 → s'.1 9 (p + 7 + b) = s.1 7 b) ∧ (∀ j, j < p ∨ p + 71 ≤ j → s'.1 9 j = s.1 9 j) ∧ (∀ a, a ≠ 9 → s'.1 a = s.1 a) ∧ s'.2 = s.2 := by
  have w : ∀ k : Nat, k < 10 → d_w ((p : Int) + (k : Int)) = ((p + k : Nat) : Int) := fun k hk => by rw [d_w_id (by omega) (by omega)]; rfl
  have w71 : d_w ((p : Int) + 71) = ((p + 71 : Nat) : Int) := by rw [d_w_id (by omega) (by omega)]; rfl
  have w1 : d_w ((p : Int) + 1) = ((p + 1 : Nat) : Int) := w 1 (by decide)
  have w2 : d_w ((p : Int) + 2) = ((p + 2 : Nat) : Int) := w 2 (by decide)
  have w3 : d_w ((p : Int) + 3) = ((p + 3 : Nat) : Int) := w 3 (by decide)
  have w4 : d_w ((p : Int) + 4) = ((p + 4 : Nat) : Int) := w 4 (by decide)
  have w5 : d_w ((p : Int) + 5) = ((p + 5 : Nat) : Int) := w 5 (by decide)
  have w6 : d_w ((p : Int) + 6) = ((p + 6 : Nat) : Int) := w 6 (by decide)
  have w7 : d_w ((p : Int) + 7) = ((p + 7 : Nat) : Int) := w 7 (by decide)
  obtain ⟨z, hz⟩ : ∃ z, z = d_si (d_si (d_si (d_si (d_si (d_si (d_si s 9 p (s.1 6 0)) 9 (p + 1) (s.1 6 1)) 9 (p + 2) (s.1 6 2)) 9 (p + 3) (s.1 6 3)) 9 (p + 4) (s.1 6 4)) 9 (p + 5) (s.1 6 5)) 9 (p + 6) (s.1 6 6) := ⟨_, rfl⟩
  have hgo : F_X10_writeTo_6_9 s (p : Int) = some (d_cp z 7 0 9 (p + 7) 64) := by
    unfold F_X10_writeTo_6_9
    rw [if_neg (by omega), w71, if_neg (by omega), d_g_t (by omega), d_l_t, Int.toNat_natCast]
    simp (disch := omega) only [w1, w2, w3, w4, w5, w6, w7, d_g_t, d_l_t, Int.toNat_natCast]
    rw [hz]
    simp (disch := decide) only [d_si_n]
  have zo : ∀ a, a ≠ 9 → z.1 a = s.1 a := fun a h => by rw [hz, d_si_n h, d_si_n h, d_si_n h, d_si_n h, d_si_n h, d_si_n h, d_si_n h]
  have z9 : ∀ j, z.1 9 j = d_u (d_u (d_u (d_u (d_u (d_u (d_u (s.1 9) p (s.1 6 0)) (p + 1) (s.1 6 1)) (p + 2) (s.1 6 2)) (p + 3) (s.1 6 3)) (p + 4) (s.1 6 4)) (p + 5) (s.1 6 5)) (p + 6) (s.1 6 6) j := fun j => by rw [hz, d_si_i, d_si_i, d_si_i, d_si_i, d_si_i, d_si_i, d_si_i]
  refine ⟨_, hgo, fun i hi => ?_, fun b hb => ?_, fun j hj => ?_, fun a ha => ?_, ?_⟩
  · rw [d_cp_i, if_neg (by omega), z9]
    have : i = 0 ∨ i = 1 ∨ i = 2 ∨ i = 3 ∨ i = 4 ∨ i = 5 ∨ i = 6 := by omega
    rcases this with rfl | rfl | rfl | rfl | rfl | rfl | rfl
    · rw [d_u_n (by omega), d_u_n (by omega), d_u_n (by omega), d_u_n (by omega), d_u_n (by omega), d_u_n (by omega), Nat.add_zero, d_u_t]
    · rw [d_u_n (by omega), d_u_n (by omega), d_u_n (by omega), d_u_n (by omega), d_u_n (by omega), d_u_t]
    · rw [d_u_n (by omega), d_u_n (by omega), d_u_n (by omega), d_u_n (by omega), d_u_t]
    · rw [d_u_n (by omega), d_u_n (by omega), d_u_n (by omega), d_u_t]
    · rw [d_u_n (by omega), d_u_n (by omega), d_u_t]
    · rw [d_u_n (by omega), d_u_t]
    · rw [d_u_t]
  · rw [d_cp_i, if_pos (by omega), show 0 + (p + 7 + b) - (p + 7) = b by omega, zo 7 (by decide)]
  · rw [d_cp_i, if_neg (by omega), z9, d_u_n (by omega), d_u_n (by omega), d_u_n (by omega), d_u_n (by omega), d_u_n (by omega), d_u_n (by omega), d_u_n (by omega)]
  · rw [d_cp_n ha, zo a ha]
  · rw [show (d_cp z 7 0 9 (p + 7) 64).2 = z.2 from rfl, hz]; rfl
theorem P_keepC {n c : Nat} (hn : s.1 8 1 = n) (hc : s.1 8 2 = c) (h30 : n < 30) (hc30 : c ≤ 30) : ∃ s', F_X6_keep_8_6 s = some s' ∧ (∀ i, i < 7 → s'.1 9 (71 * n + i) = s.1 6 i) ∧ (∀ b, b < 64 → s'.1 9 (71 * n + 7 + b) = s.1 7 b) ∧ (∀ j, j < 71 * n ∨ 71 * n + 71 ≤ j → s'.1 9 j = s.1 9 j) ∧ s'.1 8 1 = (((n + 1) % 30 : Nat) : Int) ∧ s'.1 8 2 = ((min 30 (c + 1) : Nat) : Int) ∧ (∀ a, a ≠ 8 → a ≠ 9 → s'.1 a = s.1 a) ∧ s'.2 = s.2 := by
  obtain ⟨s1, g1, g2, g3, g4, g5, g6⟩ := P_writeTo (s := s) (p := 71 * n) (by omega)
  have hgo : F_X6_keep_8_6 s = some (d_si (d_si s1 8 1 (((n + 1) % 30 : Nat) : Int)) 8 2 ((min 30 (c + 1) : Nat) : Int)) := by
    unfold F_X6_keep_8_6
    rw [hn, d_w_id (by omega) (by omega), show ((n : Int) * 71) = ((71 * n : Nat) : Int) by omega, g1, d_b_t, d_l_t, g5 8 (by decide), hn]
    rw [v_remI (by omega) (by omega) (by decide) (by decide), show ((n : Int) + 1) % 30 = (((n + 1) % 30 : Nat) : Int) by omega, d_si_i, d_u_n (by decide), g5 8 (by decide), hc, d_w_id (by omega) (by omega), P_min, d_b_t, d_l_t]
    have : min (30 : Int) ((c : Int) + 1) = ((min 30 (c + 1) : Nat) : Int) := by omega
    rw [this]
  refine ⟨_, hgo, fun i hi => ?_, fun b hb => ?_, fun j hj => ?_, ?_, ?_, fun a h1 h2 => ?_, g6⟩
  · rw [d_si_n (by decide), d_si_n (by decide)]; exact g2 i hi
  · rw [d_si_n (by decide), d_si_n (by decide)]; exact g3 b hb
  · rw [d_si_n (by decide), d_si_n (by decide)]; exact g4 j hj
  · rw [d_si_i, d_u_n (by decide), d_si_i, d_u_t]
  · rw [d_si_i, d_u_t]
  · rw [d_si_n h1, d_si_n h1]; exact g5 a h2
end V12C
section V12R
variable {s : d_S} {st me so : Nat → Nat}
theorem v_k13 {K : d_S → Option d_S} {A : Nat → Int} : ∀ (j k m : Nat), k + j = 2059 → j < m → ∀ s : d_S, (∀ i, i < k → s.1 65 (387 + i) = A (458 + i)) → (∀ i, i < 387 ∨ 387 + k ≤ i → s.1 65 i = A i) → ∃ s', F_X12_keep_l13 K m (k : Int) s = K s' ∧ (∀ i, i < 2059 → s'.1 65 (387 + i) = A (458 + i)) ∧ (∀ i, i < 387 ∨ 387 + 2059 ≤ i → s'.1 65 i = A i) ∧ (∀ a, a ≠ 65 → s'.1 a = s.1 a) ∧ s'.2 = s.2 := by
  intro j
  induction j with
  | zero =>
    intro k m hk hm s h1 h2
    obtain ⟨m, rfl⟩ : ∃ q, m = q + 1 := ⟨m - 1, by omega⟩
    have hk : k = 2059 := by omega
    subst hk
    refine ⟨s, ?_, h1, h2, fun _ _ => rfl, rfl⟩
    show F_X12_keep_l13_b K (F_X12_keep_l13 K m) _ s = _
    unfold F_X12_keep_l13_b
    rw [if_neg (by omega)]
  | succ j ih =>
    intro k m hk hm s h1 h2
    obtain ⟨m, rfl⟩ : ∃ q, m = q + 1 := ⟨m - 1, by omega⟩
    obtain ⟨s', r1, r2, r3, r4, r5⟩ := ih (k + 1) m (by omega) (by omega) (d_si s 65 (387 + k) (A (458 + k))) (fun i hi => by
      rw [d_si_i]
      by_cases q : i = k
      · subst q; rw [d_u_t]
      · rw [d_u_n (by omega)]; exact h1 i (by omega)) (fun i hi => by
      rw [d_si_i, d_u_n (by omega)]; exact h2 i (by omega))
    refine ⟨s', ?_, r2, r3, fun a ha => (r4 a ha).trans (d_si_n ha), r5⟩
    show F_X12_keep_l13_b K (F_X12_keep_l13 K m) _ s = _
    unfold F_X12_keep_l13_b
    rw [if_pos (by omega), d_w_id (by omega) (by omega), d_w_id (by omega) (by omega), d_g_t (by omega), d_g_t (by omega), d_l_t, show ((387 : Int) + (k : Int)).toNat = 387 + k by omega, show ((458 : Int) + (k : Int)).toNat = 458 + k by omega, h2 (458 + k) (by omega), d_w_id (by omega) (by omega)]
    exact r1
theorem v_k72 {K : Int → d_S → Option d_S} {A : Nat → Int} {x : Nat} (hx : 387 ≤ x ∧ x + 71 ≤ 2517) : ∀ (j k m : Nat), k + j = 7 → j < m → ∀ s : d_S, (∀ i, i < k → s.1 65 (x + i) = A (9 + i)) → (∀ i, i < x ∨ x + k ≤ i → s.1 65 i = A i) → ∃ s', F_X12_keep_l72 K m (x : Int) (k : Int) s = K (x : Int) s' ∧ (∀ i, i < 7 → s'.1 65 (x + i) = A (9 + i)) ∧ (∀ i, i < x ∨ x + 7 ≤ i → s'.1 65 i = A i) ∧ (∀ a, a ≠ 65 → s'.1 a = s.1 a) ∧ s'.2 = s.2 := by
  intro j
  induction j with
  | zero =>
    intro k m hk hm s h1 h2
    obtain ⟨m, rfl⟩ : ∃ q, m = q + 1 := ⟨m - 1, by omega⟩
    have hk : k = 7 := by omega
    subst hk
    refine ⟨s, ?_, h1, h2, fun _ _ => rfl, rfl⟩
    show F_X12_keep_l72_b K (F_X12_keep_l72 K m) _ _ s = _
    unfold F_X12_keep_l72_b
    rw [if_neg (by omega)]
  | succ j ih =>
    intro k m hk hm s h1 h2
    obtain ⟨m, rfl⟩ : ∃ q, m = q + 1 := ⟨m - 1, by omega⟩
    obtain ⟨s', r1, r2, r3, r4, r5⟩ := ih (k + 1) m (by omega) (by omega) (d_si s 65 (x + k) (A (9 + k))) (fun i hi => by
      rw [d_si_i]
      by_cases q : i = k
      · subst q; rw [d_u_t]
      · rw [d_u_n (by omega)]; exact h1 i (by omega)) (fun i hi => by
      rw [d_si_i, d_u_n (by omega)]; exact h2 i (by omega))
    refine ⟨s', ?_, r2, r3, fun a ha => (r4 a ha).trans (d_si_n ha), r5⟩
    show F_X12_keep_l72_b K (F_X12_keep_l72 K m) _ _ s = _
    unfold F_X12_keep_l72_b
    rw [if_pos (by omega), d_w_id (by omega) (by omega), d_w_id (by omega) (by omega), d_g_t (by omega), d_g_t (by omega), d_l_t, show ((x : Int) + (k : Int)).toNat = x + k by omega, show ((9 : Int) + (k : Int)).toNat = 9 + k by omega, h2 (9 + k) (by omega), d_w_id (by omega) (by omega)]
    exact r1
theorem v_k103 {K : d_S → Option d_S} {A : Nat → Int} {x : Nat} (hx : 387 ≤ x ∧ x + 71 ≤ 2517) (hB : v_B A st me so) : ∀ (j k m : Nat), k + j = 64 → j < m → ∀ s : d_S, (∀ i, i < k → s.1 65 (x + 7 + i) = (((so i * 101 + me i) * 10 + st i : Nat) : Int)) → (∀ i, i < x + 7 ∨ x + 7 + k ≤ i → s.1 65 i = A i) → ∃ s', F_X12_keep_l103 K m (x : Int) (k : Int) s = K s' ∧ (∀ i, i < 64 → s'.1 65 (x + 7 + i) = (((so i * 101 + me i) * 10 + st i : Nat) : Int)) ∧ (∀ i, i < x + 7 ∨ x + 71 ≤ i → s'.1 65 i = A i) ∧ (∀ a, a ≠ 65 → s'.1 a = s.1 a) ∧ s'.2 = s.2 := by
  intro j
  induction j with
  | zero =>
    intro k m hk hm s h1 h2
    obtain ⟨m, rfl⟩ : ∃ q, m = q + 1 := ⟨m - 1, by omega⟩
    have hk : k = 64 := by omega
    subst hk
    refine ⟨s, ?_, h1, h2, fun _ _ => rfl, rfl⟩
    show F_X12_keep_l103_b K (F_X12_keep_l103 K m) _ _ s = _
    unfold F_X12_keep_l103_b
    rw [if_neg (by omega)]
  | succ j ih =>
    intro k m hk hm s h1 h2
    obtain ⟨m, rfl⟩ : ∃ q, m = q + 1 := ⟨m - 1, by omega⟩
    have hBs : v_B (s.1 65) st me so := fun i hi => by
      rw [h2 _ (by omega), h2 _ (by omega), h2 _ (by omega)]; exact hB i hi
    obtain ⟨-, m1, m2, m3⟩ := hB k (by omega)
    obtain ⟨s', r1, r2, r3, r4, r5⟩ := ih (k + 1) m (by omega) (by omega) (d_si s 65 (x + 7 + k) (((so k * 101 + me k) * 10 + st k : Nat) : Int)) (fun i hi => by
      rw [d_si_i]
      by_cases q : i = k
      · subst q; rw [d_u_t]
      · rw [d_u_n (by omega)]; exact h1 i (by omega)) (fun i hi => by
      rw [d_si_i, d_u_n (by omega)]; exact h2 i (by omega))
    refine ⟨s', ?_, r2, r3, fun a ha => (r4 a ha).trans (d_si_n ha), r5⟩
    show F_X12_keep_l103_b K (F_X12_keep_l103 K m) _ _ s = _
    unfold F_X12_keep_l103_b
    rw [if_pos (by omega), P_get2 hBs (by omega), d_b_t, P_get1 hBs (by omega), d_b_t, P_get0 hBs (by omega), d_b_t, d_w_id (by omega) (by omega), d_g_t (by omega), d_l_t, show ((x : Int) + 7 + (k : Int)).toNat = x + 7 + k by omega, d_w_id (by omega) (by omega), d_w_id (by omega) (by omega)]
    exact r1
theorem P_keepR {c : Nat} (hc : s.1 65 3 = c) (h30 : c ≤ 30) (hB : v_B (s.1 65) st me so) : ∃ s', F_X12_keep s = some s' ∧ s'.1 65 3 = ((min 30 (c + 1) : Nat) : Int) ∧ (∀ j, j ≠ 3 → j < 387 → s'.1 65 j = s.1 65 j) ∧ (∀ k, k < 7 → s'.1 65 (387 + 71 * min 29 c + k) = s.1 65 (9 + k)) ∧ (∀ b, b < 64 → s'.1 65 (387 + 71 * min 29 c + 7 + b) = (((so b * 101 + me b) * 10 + st b : Nat) : Int)) ∧ (∀ i, i < min 29 c → ∀ k, k < 71 → s'.1 65 (387 + 71 * i + k) = s.1 65 (387 + 71 * (if c = 30 then i + 1 else i) + k)) ∧ (∀ a, a ≠ 65 → s'.1 a = s.1 a) ∧ s'.2 = s.2 := by
  
  have hend : ∀ (r : Nat), r ≤ 29 → ∀ s1 : d_S, s1.1 65 3 = r → v_B (s1.1 65) st me so → ∃ s', F_X12_keep_j56 s1 = some s' ∧ s'.1 65 3 = ((r + 1 : Nat) : Int) ∧ (∀ j, j ≠ 3 → (j < 387 + 71 * r ∨ 387 + 71 * r + 71 ≤ j) → s'.1 65 j = s1.1 65 j) ∧ (∀ k, k < 7 → s'.1 65 (387 + 71 * r + k) = s1.1 65 (9 + k)) ∧ (∀ b, b < 64 → s'.1 65 (387 + 71 * r + 7 + b) = (((so b * 101 + me b) * 10 + st b : Nat) : Int)) ∧ (∀ a, a ≠ 65 → s'.1 a = s1.1 a) ∧ s'.2 = s1.2 := by
    intro r hr s1 h3 hB1
    obtain ⟨s2, a1, a2, a3, a4, a5⟩ := v_k72 (K := fun x1_u10 s_u10 => F_X12_keep_l103 (fun s_u16 => d_l (d_si s_u16 65 (3) (d_w ((s_u16.1 65 3) + 1))) (fun s17 => some s17)) d_N x1_u10 0 s_u10) (A := s1.1 65) (x := 387 + 71 * r) (by omega) 7 0 d_N rfl (by rw [d_N_is]; decide) s1 (fun i hi => absurd hi (Nat.not_lt_zero i)) (fun _ _ => rfl)
    obtain ⟨s3, b1, b2, b3, b4, b5⟩ := v_k103 (K := fun s_u16 => d_l (d_si s_u16 65 (3) (d_w ((s_u16.1 65 3) + 1))) (fun s17 => some s17)) (A := s2.1 65) (x := 387 + 71 * r) (by omega) (show v_B (s2.1 65) st me so from fun i hi => by rw [a3 _ (by omega), a3 _ (by omega), a3 _ (by omega)]; exact hB1 i hi) 64 0 d_N rfl (by rw [d_N_is]; decide) s2 (fun i hi => absurd hi (Nat.not_lt_zero i)) (fun _ _ => rfl)
    have h33 : s3.1 65 3 = r := by rw [b3 3 (by omega), a3 3 (by omega)]; exact h3
    have hgo : F_X12_keep_j56 s1 = some (d_si s3 65 3 ((r + 1 : Nat) : Int)) := by
      unfold F_X12_keep_j56
      rw [h3, d_w_id (by omega) (by omega), d_l_t, show ((387 : Int) + 71 * (r : Int)) = ((387 + 71 * r : Nat) : Int) by omega]
      refine a1.trans ?_
      refine b1.trans ?_
      show d_l (d_si s3 65 3 (d_w (s3.1 65 3 + 1))) _ = _
      rw [h33, d_w_id (by omega) (by omega), d_l_t]
      rfl
    refine ⟨_, hgo, by rw [d_si_i, d_u_t], fun j h1 h2 => ?_, fun k hk => ?_, fun b hb => ?_, fun a ha => ?_, ?_⟩
    · rw [d_si_i, d_u_n h1, b3 j (by omega), a3 j (by omega)]
    · rw [d_si_i, d_u_n (by omega), b3 _ (by omega), a2 k hk]
    · rw [d_si_i, d_u_n (by omega), b2 b hb]
    · rw [d_si_n ha, b4 a ha, a4 a ha]
    · rw [d_si_2, b5, a5]
  unfold F_X12_keep
  by_cases q : c = 30
  · subst q
    rw [hc, if_pos (by decide)]
    obtain ⟨s1, a1, a2, a3, a4, a5⟩ := v_k13 (K := fun s_u4 => d_l (d_si s_u4 65 (3) (d_w ((s_u4.1 65 3) - 1))) (fun s5 => F_X12_keep_j56 s5)) (A := s.1 65) 2059 0 d_N rfl (by rw [d_N_is]; decide) s (fun i hi => absurd hi (Nat.not_lt_zero i)) (fun _ _ => rfl)
    have h13 : s1.1 65 3 = ((30 : Nat) : Int) := by rw [a3 3 (by omega)]; exact hc
    obtain ⟨s', b1, b2, b3, b4, b5, b6, b7⟩ := hend 29 (by decide) (d_si s1 65 3 ((29 : Nat) : Int)) (by rw [d_si_i, d_u_t]) (fun i hi => by
      rw [d_si_i, d_u_n (by omega), d_u_n (by omega), d_u_n (by omega), a3 _ (by omega), a3 _ (by omega), a3 _ (by omega)]; exact hB i hi)
    refine ⟨s', ?_, b2, fun j h1 h2 => ?_, fun k hk => ?_, b5, fun i hi k hk => ?_, fun a ha => ?_, ?_⟩
    · refine a1.trans ?_
      show d_l (d_si s1 65 3 (d_w (s1.1 65 3 - 1))) _ = _
      rw [h13, d_w_id (by omega) (by omega), d_l_t]
      exact b1
    · rw [b3 j h1 (by omega), d_si_i, d_u_n h1, a3 j (by omega)]
    · rw [show 387 + 71 * min 29 30 + k = 387 + 71 * 29 + k from rfl, b4 k hk, d_si_i, d_u_n (by omega), a3 _ (by omega)]
    · have hi : i < 29 := hi
      rw [if_pos rfl, b3 _ (by omega) (by omega), d_si_i, d_u_n (by omega), show 387 + 71 * i + k = 387 + (71 * i + k) by omega, a2 (71 * i + k) (by omega)]
      exact congrArg (s.1 65) (by omega)
    · rw [b6 a ha, d_si_n ha, a4 a ha]
    · rw [b7, d_si_2, a5]
  · rw [hc, if_neg (by omega)]
    have hm : min 29 c = c := by omega
    obtain ⟨s', b1, b2, b3, b4, b5, b6, b7⟩ := hend c (by omega) s hc hB
    rw [hm]
    refine ⟨s', b1, by rw [b2]; omega, fun j h1 h2 => b3 j h1 (by omega), b4, b5, fun i hi k hk => ?_, b6, b7⟩
    rw [if_neg q, b3 _ (by omega) (by omega)]
end V12R
def v_mu (i : Nat) : Nat := [5, 6, 3, 0, 1, 2, 4].getD i 0
def v_yb (f : Nat → Int) (W H : Nat) : Prop := (0 ≤ f 0 ∧ f 0 ≤ 999) ∧ (0 ≤ f 1 ∧ f 1 ≤ 9) ∧ (0 ≤ f 3 ∧ f 3 ≤ 99) ∧ (0 ≤ f 4 ∧ f 4 < 30293) ∧ ∃ u v : Nat, f 5 = u ∧ f 6 = v ∧ u < 128 ∧ v < 128 ∧ u < 2 ^ (W - 1) ∧ v < 2 ^ (H - 1)
def v_bb (st me so : Nat → Nat) : Prop := ∀ b, b < 64 → st b ≤ 9 ∧ me b ≤ 100 ∧ so b ≤ 1
def v_pk (st me so : Nat → Nat) (b : Nat) : Nat := st b + 16 * me b + 2048 * so b
def v_pr (st me so : Nat → Nat) (b : Nat) : Nat := (so b * 101 + me b) * 10 + st b
def v_St (R : Nat → Int) (p : Nat) (A : Nat → Int) (j W H : Nat) : Prop := (∀ i, i < 7 → R (71 * p + i) = A (387 + 71 * j + v_mu i)) ∧ v_yb (fun k => A (387 + 71 * j + k)) W H ∧ ∃ st me so, v_bb st me so ∧ ∀ b, b < 64 → R (71 * p + 7 + b) = ((v_pk st me so b : Nat) : Int) ∧ A (387 + 71 * j + 7 + b) = ((v_pr st me so b : Nat) : Int)
def v_Sx (R : Nat → Int) (n c : Nat) (A : Nat → Int) (W H : Nat) : Prop := c ≤ 30 ∧ n < 30 ∧ A 3 = c ∧ ∀ j, j < c → v_St R ((n + 30 - c + j) % 30) A j W H
theorem v_mu7 : ∀ i, i < 7 → v_mu i < 7 := by decide
section V13
variable {R R' A A' Y M : Nat → Int} {n c p j i W H : Nat} {st me so : Nat → Nat} {s : d_S}
theorem v_St.fr (h : v_St R p A j W H) {q i : Nat} (hR : ∀ k, k < 71 → R' (71 * q + k) = R (71 * p + k)) (hA : ∀ k, k < 71 → A' (387 + 71 * i + k) = A (387 + 71 * j + k)) : v_St R' q A' i W H := by
  obtain ⟨h1, h2, st, me, so, h3, h4⟩ := h
  refine ⟨fun i hi => ?_, ?_, st, me, so, h3, fun b hb => ⟨?_, ?_⟩⟩
  · rw [hR i (by omega), hA (v_mu i) (by have := v_mu7 i hi; omega)]; exact h1 i hi
  · obtain ⟨a0, a1, a3, a4, u, v, a5, a6, a7⟩ := h2
    refine ⟨?_, ?_, ?_, ?_, u, v, ?_, ?_, a7⟩
    · show 0 ≤ A' (387 + 71 * i + 0) ∧ A' (387 + 71 * i + 0) ≤ 999; rw [hA 0 (by decide)]; exact a0
    · show 0 ≤ A' (387 + 71 * i + 1) ∧ A' (387 + 71 * i + 1) ≤ 9; rw [hA 1 (by decide)]; exact a1
    · show 0 ≤ A' (387 + 71 * i + 3) ∧ A' (387 + 71 * i + 3) ≤ 99; rw [hA 3 (by decide)]; exact a3
    · show 0 ≤ A' (387 + 71 * i + 4) ∧ A' (387 + 71 * i + 4) < 30293; rw [hA 4 (by decide)]; exact a4
    · show A' (387 + 71 * i + 5) = _; rw [hA 5 (by decide)]; exact a5
    · show A' (387 + 71 * i + 6) = _; rw [hA 6 (by decide)]; exact a6
  · rw [show 71 * q + 7 + b = 71 * q + (7 + b) by omega, hR (7 + b) (by omega), ← Nat.add_assoc]; exact (h4 b hb).1
  · rw [show 387 + 71 * i + 7 + b = 387 + 71 * i + (7 + b) by omega, hA (7 + b) (by omega), ← Nat.add_assoc]; exact (h4 b hb).2
theorem v_Sx.fr (h : v_Sx R n c A W H) (h3 : A' 3 = A 3) (hA : ∀ k, 387 ≤ k → k < 2517 → A' k = A k) : v_Sx R n c A' W H := by
  obtain ⟨a, b, d, e⟩ := h
  exact ⟨a, b, h3.trans d, fun j hj => (e j hj).fr (fun _ _ => rfl) (fun k hk => hA _ (by omega) (by omega))⟩
theorem v_Sx.keep (hS : v_Sx R n c A W H) (r1 : ∀ i, i < 7 → R' (71 * n + i) = Y i) (r2 : ∀ b, b < 64 → R' (71 * n + 7 + b) = M b) (r3 : ∀ j, j < 71 * n ∨ 71 * n + 71 ≤ j → R' j = R j) (a3 : A' 3 = ((min 30 (c + 1) : Nat) : Int)) (a4 : ∀ k, k < 7 → A' (387 + 71 * min 29 c + k) = A (9 + k)) (a5 : ∀ b, b < 64 → A' (387 + 71 * min 29 c + 7 + b) = ((v_pr st me so b : Nat) : Int)) (a6 : ∀ i, i < min 29 c → ∀ k, k < 71 → A' (387 + 71 * i + k) = A (387 + 71 * (if c = 30 then i + 1 else i) + k)) (hY : ∀ i, i < 7 → Y i = A (9 + v_mu i)) (hb : v_yb (fun k => A (9 + k)) W H) (hM : ∀ b, b < 64 → M b = ((v_pk st me so b : Nat) : Int)) (hbb : v_bb st me so) : v_Sx R' ((n + 1) % 30) (min 30 (c + 1)) A' W H := by
  obtain ⟨hc, hn, -, hj⟩ := hS
  refine ⟨by omega, by omega, a3, fun j hjc => ?_⟩
  by_cases q : j = min 29 c
  · have hp : ((n + 1) % 30 + 30 - min 30 (c + 1) + j) % 30 = n := by omega
    rw [hp, q]
    refine ⟨fun i hi => ?_, ?_, st, me, so, hbb, fun b hb => ⟨?_, a5 b hb⟩⟩
    · rw [r1 i hi, hY i hi, a4 _ (v_mu7 i hi)]
    · obtain ⟨b0, b1, b3, b4, u, v, b5, b6, b7⟩ := hb
      refine ⟨?_, ?_, ?_, ?_, u, v, ?_, ?_, b7⟩
      · show 0 ≤ A' (387 + 71 * min 29 c + 0) ∧ A' (387 + 71 * min 29 c + 0) ≤ 999; rw [a4 0 (by decide)]; exact b0
      · show 0 ≤ A' (387 + 71 * min 29 c + 1) ∧ A' (387 + 71 * min 29 c + 1) ≤ 9; rw [a4 1 (by decide)]; exact b1
      · show 0 ≤ A' (387 + 71 * min 29 c + 3) ∧ A' (387 + 71 * min 29 c + 3) ≤ 99; rw [a4 3 (by decide)]; exact b3
      · show 0 ≤ A' (387 + 71 * min 29 c + 4) ∧ A' (387 + 71 * min 29 c + 4) < 30293; rw [a4 4 (by decide)]; exact b4
      · show A' (387 + 71 * min 29 c + 5) = _; rw [a4 5 (by decide)]; exact b5
      · show A' (387 + 71 * min 29 c + 6) = _; rw [a4 6 (by decide)]; exact b6
    · rw [r2 b hb]; exact hM b hb
  · have hjm : j < min 29 c := by omega
    have hrow := a6 j hjm
    by_cases h30 : c = 30
    · have hp : ((n + 1) % 30 + 30 - min 30 (c + 1) + j) % 30 = (n + 30 - c + (j + 1)) % 30 := by omega
      have hne : (n + 30 - c + (j + 1)) % 30 ≠ n := by omega
      rw [hp]
      refine (hj (j + 1) (by omega)).fr (fun k hk => r3 _ ?_) (fun k hk => ?_)
      · generalize (n + 30 - c + (j + 1)) % 30 = p at hne ⊢
        rcases Nat.lt_or_gt_of_ne hne with z | z
        · left; omega
        · right; omega
      · rw [hrow k hk, if_pos h30]
    · have hp : ((n + 1) % 30 + 30 - min 30 (c + 1) + j) % 30 = (n + 30 - c + j) % 30 := by omega
      have hne : (n + 30 - c + j) % 30 ≠ n := by omega
      rw [hp]
      refine (hj j (by omega)).fr (fun k hk => r3 _ ?_) (fun k hk => ?_)
      · generalize (n + 30 - c + j) % 30 = p at hne ⊢
        rcases Nat.lt_or_gt_of_ne hne with z | z
        · left; omega
        · right; omega
      · rw [hrow k hk, if_neg h30]
theorem v_Sx.drop (hS : v_Sx R n c A W H) (h1 : 1 ≤ c) (a3 : A' 3 = ((c - 1 : Nat) : Int)) (hA : ∀ k, 387 ≤ k → k < 2517 → A' k = A k) : v_Sx R ((n + 29) % 30) (c - 1) A' W H ∧ v_St R ((n + 29) % 30) A (c - 1) W H := by
  obtain ⟨hc, hn, -, hj⟩ := hS
  refine ⟨⟨by omega, by omega, a3, fun j hjc => ?_⟩, ?_⟩
  · have hp : ((n + 29) % 30 + 30 - (c - 1) + j) % 30 = (n + 30 - c + j) % 30 := by omega
    rw [hp]
    exact (hj j (by omega)).fr (fun _ _ => rfl) (fun k hk => hA _ (by omega) (by omega))
  · have := hj (c - 1) (by omega)
    rw [show (n + 30 - c + (c - 1)) % 30 = (n + 29) % 30 by omega] at this
    exact this
theorem P_readFrom {p : Nat} (hp : p + 71 ≤ 2130) : ∃ s', F_X10_readFrom_6_9 s (p : Int) = some s' ∧ (∀ i, i < 7 → s'.1 6 i = s.1 9 (p + i)) ∧ (∀ i, 7 ≤ i → s'.1 6 i = s.1 6 i) ∧ (∀ b, b < 64 → s'.1 7 b = s.1 9 (p + 7 + b)) ∧ (∀ a, a ≠ 6 → a ≠ 7 → s'.1 a = s.1 a) ∧ s'.2 = s.2 := by
  have w : ∀ k : Nat, k < 10 → d_w ((p : Int) + (k : Int)) = ((p + k : Nat) : Int) := fun k hk => by rw [d_w_id (by omega) (by omega)]; rfl
  have w71 : d_w ((p : Int) + 71) = ((p + 71 : Nat) : Int) := by rw [d_w_id (by omega) (by omega)]; rfl
  have w1 : d_w ((p : Int) + 1) = ((p + 1 : Nat) : Int) := w 1 (by decide)
  have w2 : d_w ((p : Int) + 2) = ((p + 2 : Nat) : Int) := w 2 (by decide)
  have w3 : d_w ((p : Int) + 3) = ((p + 3 : Nat) : Int) := w 3 (by decide)
  have w4 : d_w ((p : Int) + 4) = ((p + 4 : Nat) : Int) := w 4 (by decide)
  have w5 : d_w ((p : Int) + 5) = ((p + 5 : Nat) : Int) := w 5 (by decide)
  have w6 : d_w ((p : Int) + 6) = ((p + 6 : Nat) : Int) := w 6 (by decide)
  have w7 : d_w ((p : Int) + 7) = ((p + 7 : Nat) : Int) := w 7 (by decide)
  obtain ⟨z, hz⟩ : ∃ z, z = d_si (d_si (d_si (d_si (d_si (d_si (d_si s 6 0 (s.1 9 p)) 6 1 (s.1 9 (p + 1))) 6 2 (s.1 9 (p + 2))) 6 3 (s.1 9 (p + 3))) 6 4 (s.1 9 (p + 4))) 6 5 (s.1 9 (p + 5))) 6 6 (s.1 9 (p + 6)) := ⟨_, rfl⟩
  have hgo : F_X10_readFrom_6_9 s (p : Int) = some (d_cp z 9 (p + 7) 7 0 64) := by
    unfold F_X10_readFrom_6_9
    rw [if_neg (by omega), w71, if_neg (by omega), d_g_t (by omega), d_l_t, Int.toNat_natCast]
    simp (disch := omega) only [w1, w2, w3, w4, w5, w6, w7, d_g_t, d_l_t, Int.toNat_natCast]
    rw [hz]
    simp (disch := decide) only [d_si_n]
  have zo : ∀ a, a ≠ 6 → z.1 a = s.1 a := fun a h => by rw [hz, d_si_n h, d_si_n h, d_si_n h, d_si_n h, d_si_n h, d_si_n h, d_si_n h]
  have z6 : ∀ j, z.1 6 j = d_u (d_u (d_u (d_u (d_u (d_u (d_u (s.1 6) 0 (s.1 9 p)) 1 (s.1 9 (p + 1))) 2 (s.1 9 (p + 2))) 3 (s.1 9 (p + 3))) 4 (s.1 9 (p + 4))) 5 (s.1 9 (p + 5))) 6 (s.1 9 (p + 6)) j := fun j => by rw [hz, d_si_i, d_si_i, d_si_i, d_si_i, d_si_i, d_si_i, d_si_i]
  refine ⟨_, hgo, fun i hi => ?_, fun i hi => ?_, fun b hb => ?_, fun a h1 h2 => ?_, ?_⟩
  · rw [d_cp_n (by decide), z6]
    have : i = 0 ∨ i = 1 ∨ i = 2 ∨ i = 3 ∨ i = 4 ∨ i = 5 ∨ i = 6 := by omega
    rcases this with rfl | rfl | rfl | rfl | rfl | rfl | rfl <;> rfl
  · rw [d_cp_n (by decide), z6, d_u_n (by omega), d_u_n (by omega), d_u_n (by omega), d_u_n (by omega), d_u_n (by omega), d_u_n (by omega), d_u_n (by omega)]
  · rw [d_cp_i, if_pos (by omega), show p + 7 + b - 0 = p + 7 + b by omega, zo 9 (by decide)]
  · rw [d_cp_n h2, zo a h1]
  · rw [show (d_cp z 9 (p + 7) 7 0 64).2 = z.2 from rfl, hz]; rfl
theorem P_takeBack (hn : s.1 8 1 = n) (hc : s.1 8 2 = c) (h30 : n < 30) (h1 : 1 ≤ c) (hc30 : c ≤ 30) : ∃ s', F_X6_takeBack_8_6 s = some (1, s') ∧ s'.1 8 1 = (((n + 29) % 30 : Nat) : Int) ∧ s'.1 8 2 = ((c - 1 : Nat) : Int) ∧ (∀ i, i < 7 → s'.1 6 i = s.1 9 (71 * ((n + 29) % 30) + i)) ∧ (∀ b, b < 64 → s'.1 7 b = s.1 9 (71 * ((n + 29) % 30) + 7 + b)) ∧ (∀ a, a ≠ 6 → a ≠ 7 → a ≠ 8 → s'.1 a = s.1 a) ∧ s'.2 = s.2 := by
  obtain ⟨z, hz⟩ : ∃ z, z = d_si (d_si s 8 1 (((n + 29) % 30 : Nat) : Int)) 8 2 ((c - 1 : Nat) : Int) := ⟨_, rfl⟩
  have z8 : ∀ j, z.1 8 j = d_u (d_u (s.1 8) 1 (((n + 29) % 30 : Nat) : Int)) 2 ((c - 1 : Nat) : Int) j := fun j => by rw [hz, d_si_i, d_si_i]
  have zo : ∀ a, a ≠ 8 → z.1 a = s.1 a := fun a h => by rw [hz, d_si_n h, d_si_n h]
  obtain ⟨s', g1, g2, -, g3, g4, g5⟩ := P_readFrom (s := z) (p := 71 * ((n + 29) % 30)) (by omega)
  have hgo : F_X6_takeBack_8_6 s = some (1, s') := by
    unfold F_X6_takeBack_8_6
    rw [hc, if_neg (by omega), hn, v_remI (by omega) (by omega) (by decide) (by decide), show ((n : Int) + 30 - 1) % 30 = (((n + 29) % 30 : Nat) : Int) by omega, d_l_t, d_si_i, d_u_n (by decide), hc, d_w_id (by omega) (by omega), show ((c : Int) - 1) = ((c - 1 : Nat) : Int) by omega, d_l_t, ← hz, z8]
    show d_b (F_X10_readFrom_6_9 z (d_w ((((n + 29) % 30 : Nat) : Int) * 71))) _ = _
    rw [d_w_id (by omega) (by omega), show ((((n + 29) % 30 : Nat) : Int) * 71) = ((71 * ((n + 29) % 30) : Nat) : Int) by omega, g1, d_b_t]
  refine ⟨s', hgo, ?_, ?_, fun i hi => ?_, fun b hb => ?_, fun a h1 h2 h3 => ?_, ?_⟩
  · rw [g4 8 (by decide) (by decide), z8]; rfl
  · rw [g4 8 (by decide) (by decide), z8]; rfl
  · rw [g2 i hi, zo 9 (by decide)]
  · rw [g3 b hb, zo 9 (by decide)]
  · rw [g4 a h1 h2, zo a h3]
  · rw [g5, hz]; rfl
theorem v_u37 {K : Int → d_S → Option (Int × d_S)} {A : Nat → Int} {x : Nat} (hx : 387 ≤ x ∧ x + 71 ≤ 2517) : ∀ (j k m : Nat), k + j = 7 → j < m → ∀ s : d_S, (∀ i, i < k → s.1 65 (9 + i) = A (x + i)) → (∀ i, i < 9 ∨ 9 + k ≤ i → s.1 65 i = A i) → ∃ s', F_X12_undo_l37 K m (x : Int) (k : Int) s = K (x : Int) s' ∧ (∀ i, i < 7 → s'.1 65 (9 + i) = A (x + i)) ∧ (∀ i, i < 9 ∨ 16 ≤ i → s'.1 65 i = A i) ∧ (∀ a, a ≠ 65 → s'.1 a = s.1 a) ∧ s'.2 = s.2 := by
  intro j
  induction j with
  | zero =>
    intro k m hk hm s h1 h2
    obtain ⟨m, rfl⟩ : ∃ q, m = q + 1 := ⟨m - 1, by omega⟩
    have hk : k = 7 := by omega
    subst hk
    refine ⟨s, ?_, h1, h2, fun _ _ => rfl, rfl⟩
    show F_X12_undo_l37_b K (F_X12_undo_l37 K m) _ _ s = _
    unfold F_X12_undo_l37_b
    rw [if_neg (by omega)]
  | succ j ih =>
    intro k m hk hm s h1 h2
    obtain ⟨m, rfl⟩ : ∃ q, m = q + 1 := ⟨m - 1, by omega⟩
    obtain ⟨s', r1, r2, r3, r4, r5⟩ := ih (k + 1) m (by omega) (by omega) (d_si s 65 (9 + k) (A (x + k))) (fun i hi => by
      rw [d_si_i]
      by_cases q : i = k
      · subst q; rw [d_u_t]
      · rw [d_u_n (by omega)]; exact h1 i (by omega)) (fun i hi => by
      rw [d_si_i, d_u_n (by omega)]; exact h2 i (by omega))
    refine ⟨s', ?_, r2, r3, fun a ha => (r4 a ha).trans (d_si_n ha), r5⟩
    show F_X12_undo_l37_b K (F_X12_undo_l37 K m) _ _ s = _
    unfold F_X12_undo_l37_b
    rw [if_pos (by omega), d_w_id (by omega) (by omega), d_w_id (by omega) (by omega), d_g_t (by omega), d_g_t (by omega), d_l_t, show ((x : Int) + (k : Int)).toNat = x + k by omega, show ((9 : Int) + (k : Int)).toNat = 9 + k by omega, h2 (x + k) (by omega), d_w_id (by omega) (by omega)]
    exact r1
theorem v_prd {a b c : Nat} (ha : a ≤ 9) (hb : b ≤ 100) : ((c * 101 + b) * 10 + a) % 10 = a ∧ ((c * 101 + b) * 10 + a) / 10 % 101 = b ∧ ((c * 101 + b) * 10 + a) / 1010 = c := by omega
theorem v_u68 {K : d_S → Option (Int × d_S)} {A : Nat → Int} {x : Nat} (hx : 387 ≤ x ∧ x + 71 ≤ 2517) (hbb : v_bb st me so) (hA : ∀ b, b < 64 → A (x + 7 + b) = ((v_pr st me so b : Nat) : Int)) : ∀ (j k m : Nat), k + j = 64 → j < m → ∀ s : d_S, (∀ i, i < k → s.1 65 (20 + 3 * i) = st i ∧ s.1 65 (21 + 3 * i) = me i ∧ s.1 65 (22 + 3 * i) = so i) → (∀ i, i < 20 ∨ 20 + 3 * k ≤ i → s.1 65 i = A i) → ∃ s', F_X12_undo_l68 K m (x : Int) (k : Int) s = K s' ∧ (∀ i, i < 64 → s'.1 65 (20 + 3 * i) = st i ∧ s'.1 65 (21 + 3 * i) = me i ∧ s'.1 65 (22 + 3 * i) = so i) ∧ (∀ i, i < 20 ∨ 212 ≤ i → s'.1 65 i = A i) ∧ (∀ a, a ≠ 65 → s'.1 a = s.1 a) ∧ s'.2 = s.2 := by
  intro j
  induction j with
  | zero =>
    intro k m hk hm s h1 h2
    obtain ⟨m, rfl⟩ : ∃ q, m = q + 1 := ⟨m - 1, by omega⟩
    have hk : k = 64 := by omega
    subst hk
    refine ⟨s, ?_, h1, h2, fun _ _ => rfl, rfl⟩
    show F_X12_undo_l68_b K (F_X12_undo_l68 K m) _ _ s = _
    unfold F_X12_undo_l68_b
    rw [if_neg (by omega)]
  | succ j ih =>
    intro k m hk hm s h1 h2
    obtain ⟨m, rfl⟩ : ∃ q, m = q + 1 := ⟨m - 1, by omega⟩
    obtain ⟨m1, m2, m3⟩ := hbb k (by omega)
    obtain ⟨p1, p2, p3⟩ := v_prd (c := so k) m1 m2
    obtain ⟨z, hz⟩ : ∃ z, z = d_si (d_si (d_si s 65 (20 + 3 * k) (st k : Int)) 65 (21 + 3 * k) (me k : Int)) 65 (22 + 3 * k) (so k : Int) := ⟨_, rfl⟩
    have z65 : ∀ i, z.1 65 i = d_u (d_u (d_u (s.1 65) (20 + 3 * k) (st k : Int)) (21 + 3 * k) (me k : Int)) (22 + 3 * k) (so k : Int) i := fun i => by rw [hz, d_si_i, d_si_i, d_si_i]
    obtain ⟨s', r1, r2, r3, r4, r5⟩ := ih (k + 1) m (by omega) (by omega) z (fun i hi => by
      by_cases q : i = k
      · subst q
        refine ⟨?_, ?_, ?_⟩
        · rw [z65, d_u_n (by omega), d_u_n (by omega), d_u_t]
        · rw [z65, d_u_n (by omega), d_u_t]
        · rw [z65, d_u_t]
      · obtain ⟨g1, g2, g3⟩ := h1 i (by omega)
        refine ⟨?_, ?_, ?_⟩
        · rw [z65, d_u_n (by omega), d_u_n (by omega), d_u_n (by omega)]; exact g1
        · rw [z65, d_u_n (by omega), d_u_n (by omega), d_u_n (by omega)]; exact g2
        · rw [z65, d_u_n (by omega), d_u_n (by omega), d_u_n (by omega)]; exact g3) (fun i hi => by
      rw [z65, d_u_n (by omega), d_u_n (by omega), d_u_n (by omega)]; exact h2 i (by omega))
    refine ⟨s', ?_, r2, r3, fun a ha => (r4 a ha).trans (by rw [hz, d_si_n ha, d_si_n ha, d_si_n ha]), r5.trans (by rw [hz]; rfl)⟩
    show F_X12_undo_l68_b K (F_X12_undo_l68 K m) _ _ s = _
    unfold F_X12_undo_l68_b
    have hv : s.1 65 (x + 7 + k) = (((so k * 101 + me k) * 10 + st k : Nat) : Int) := (h2 _ (by omega)).trans (hA k (by omega))
    rw [if_pos (by omega), d_w_id (by omega) (by omega), d_g_t (by omega), show ((x : Int) + 7 + (k : Int)).toNat = x + 7 + k by omega, hv, d_l_t, v_remI (by omega) (by omega) (by decide) (by decide), v_divI (by omega) (by omega) (by decide) (by decide), v_divI (by omega) (by omega) (by decide) (by decide), v_remI (by omega) (by omega) (by decide) (by decide), show ((((so k * 101 + me k) * 10 + st k : Nat) : Int)) % 10 = (st k : Int) by omega, show ((((so k * 101 + me k) * 10 + st k : Nat) : Int)) / 10 % 101 = (me k : Int) by omega, show ((((so k * 101 + me k) * 10 + st k : Nat) : Int)) / 1010 = (so k : Int) by omega, P_set0 (by omega), d_b_t, P_set1 (by omega), d_b_t, P_set2 (by omega), d_b_t, ← hz, d_w_id (by omega) (by omega)]
    exact r1
theorem P_undoR (hc : s.1 65 3 = c) (h1 : 1 ≤ c) (hc30 : c ≤ 30) (hbb : v_bb st me so) (hA : ∀ b, b < 64 → s.1 65 (387 + 71 * (c - 1) + 7 + b) = ((v_pr st me so b : Nat) : Int)) : ∃ s', F_X12_undo s = some (((c - 1 : Nat) : Int), s') ∧ s'.1 65 3 = ((c - 1 : Nat) : Int) ∧ (∀ i, i < 7 → s'.1 65 (9 + i) = s.1 65 (387 + 71 * (c - 1) + i)) ∧ v_B (s'.1 65) st me so ∧ (∀ i, i ≠ 3 → (i < 9 ∨ 16 ≤ i ∧ i < 20 ∨ 212 ≤ i) → s'.1 65 i = s.1 65 i) ∧ (∀ a, a ≠ 65 → s'.1 a = s.1 a) ∧ s'.2 = s.2 := by
  obtain ⟨z, hz⟩ : ∃ z, z = d_si s 65 3 ((c - 1 : Nat) : Int) := ⟨_, rfl⟩
  have z65 : ∀ i, z.1 65 i = d_u (s.1 65) 3 ((c - 1 : Nat) : Int) i := fun i => by rw [hz, d_si_i]
  obtain ⟨s1, a1, a2, a3, a4, a5⟩ := v_u37 (K := fun x1_u6 s_u6 => F_X12_undo_l68 (fun s_u12 => some ((s_u12.1 65 3), s_u12)) d_N x1_u6 0 s_u6) (A := z.1 65) (x := 387 + 71 * (c - 1)) (by omega) 7 0 d_N rfl (by rw [d_N_is]; decide) z (fun i hi => absurd hi (Nat.not_lt_zero i)) (fun _ _ => rfl)
  obtain ⟨s2, b1, b2, b3, b4, b5⟩ := v_u68 (K := fun s_u12 => some ((s_u12.1 65 3), s_u12)) (A := s1.1 65) (x := 387 + 71 * (c - 1)) (by omega) hbb (fun b hb => by rw [a3 _ (by omega), z65, d_u_n (by omega)]; exact hA b hb) 64 0 d_N rfl (by rw [d_N_is]; decide) s1 (fun i hi => absurd hi (Nat.not_lt_zero i)) (fun _ _ => rfl)
  have h3 : s2.1 65 3 = ((c - 1 : Nat) : Int) := by rw [b3 3 (by decide), a3 3 (by decide), z65, d_u_t]
  refine ⟨s2, ?_, h3, fun i hi => ?_, fun b hb => ⟨b2 b hb, hbb b hb⟩, fun i hi hi2 => ?_, fun a ha => ?_, ?_⟩
  · unfold F_X12_undo
    rw [hc, if_neg (by omega), d_w_id (by omega) (by omega), show ((c : Int) - 1) = ((c - 1 : Nat) : Int) by omega, d_l_t, ← hz, z65, d_u_t, d_w_id (by omega) (by omega), d_l_t, show ((387 : Int) + 71 * ((c - 1 : Nat) : Int)) = ((387 + 71 * (c - 1) : Nat) : Int) by omega]
    refine a1.trans ?_
    refine b1.trans ?_
    show some (s2.1 65 3, s2) = _
    rw [h3]
  · rw [b3 _ (by omega), a2 i hi, z65, d_u_n (by omega)]
  · rw [b3 i (by omega), a3 i (by omega), z65, d_u_n hi]
  · rw [b4 a ha, a4 a ha, hz, d_si_n ha]
  · rw [b5, a5, hz]; rfl
end V13

def v_AP (C D : Option Int) : Prop := ∃ v, C = some v ∧ D = some v
section V28
variable {s s' z z' : d_S} {t : Nat → Option p_C} {L : v_LR} {u v W H b N : Nat} {st me so : Nat → Nat} {sg : Nat → Nat → Nat} {day heat x size edge sold : Int} {q : v_T5}
theorem v_R.all (h : v_R t s) : ∃ u v W H st me so N sg, v_G (s.1 65) u v W H ∧ v_Q s u v W H ∧ v_B (s.1 65) st me so ∧ v_M s st me so ∧ v_Z (s.1 65) N sg ∧ v_S s N sg ∧ v_C s u v W H ∧ ∀ n, n < N → (1 ≤ sg n 3 ∧ sg n 3 ≤ 3) ∧ (1 ≤ sg n 4 ∧ sg n 4 ≤ 3) ∧ sg n 1 + sg n 3 ≤ W ∧ sg n 2 + sg n 4 ≤ H := by
  obtain ⟨hW, hI, -, -, -, hQ, -, hN, -⟩ := h
  have hG := hI.G
  refine ⟨_, _, _, _, _, _, _, _, _, hG, hQ, hI.B, hW.M hI, hI.Z, hW.S hI, hW.C hI, fun n hn => ?_⟩
  obtain ⟨hz, -, hz2⟩ := hI.Z
  obtain ⟨g1, g2, g3, g4, g5⟩ := hI.1.2.2.2.2.2 n (by omega)
  have a1 := (hz2 n hn 1 (by decide)).1
  have a2 := (hz2 n hn 2 (by decide)).1
  have a3 := (hz2 n hn 3 (by decide)).1
  have a4 := (hz2 n hn 4 (by decide)).1
  obtain ⟨⟨-, -, w1, w2⟩, -⟩ := hG
  rw [a3] at g2
  rw [a4] at g3
  rw [a1, a3, w1] at g4
  rw [a2, a4, w2] at g5
  exact ⟨by omega, by omega, by omega, by omega⟩
theorem R_fault (h : v_R t s) {x : Int} : v_AP (F_X11_fault s x) (F_X12_fault s x) := by
  obtain ⟨-, -, -, -, -, -, -, -, -, -, -, e2, e3⟩ := h
  unfold F_X11_fault F_X12_fault
  by_cases q0 : x = 0
  · rw [if_pos q0, if_pos q0, e2]; exact ⟨_, rfl, rfl⟩
  rw [if_neg q0, if_neg q0]
  by_cases q1 : x = 1
  · rw [if_pos q1, if_pos q1, e3]; exact ⟨_, rfl, rfl⟩
  rw [if_neg q1, if_neg q1]
  exact ⟨_, rfl, rfl⟩
theorem R_about (h : v_R t s) {x : Int} : v_AP (F_X11_about s x) (F_X12_about s x) := by
  obtain ⟨hW, -, -, -, -, -, -, -, e1, -⟩ := h
  obtain ⟨⟨⟨-, -, -, w3, w5, w6⟩, -⟩, -, ⟨n, c, -, s2, s3⟩, -, ⟨a1, -⟩, ⟨b1, -⟩, ⟨c1, -⟩, ⟨d1, -⟩, g1, -⟩ := hW
  have w3 : s.1 3 3 = s.1 65 0 := w3
  have w5 : s.1 3 5 = s.1 65 1 := w5
  have w6 : s.1 3 6 = s.1 65 2 := w6
  have s2 : s.1 8 2 = s.1 65 3 := (show s.1 8 2 = c from s2).trans s3.2.2.1.symm
  have a1 : s.1 10 2 = s.1 65 4 := a1
  have b1 : s.1 12 2 = s.1 65 5 := b1
  have c1 : s.1 14 2 = s.1 65 6 := c1
  have d1 : s.1 16 2 = s.1 65 7 := d1
  have g1 : s.1 18 2 = s.1 65 8 := g1
  unfold F_X11_about F_X12_about v_AP
  rw [w3, w5, w6, s2, a1, b1, c1, d1, g1, e1]
  repeat' split
  all_goals exact ⟨_, rfl, rfl⟩
theorem R_is (h : v_R t s) {x : Int} : v_AP (F_X11_is s x) (F_X12_is s x) := by
  have hG := h.2.1.G
  have hQ := h.2.2.2.2.2.1
  obtain ⟨hW, -, -, -, -, -, -, -, e1, -⟩ := h
  obtain ⟨⟨⟨w0, w1, -⟩, -⟩, ⟨hy, -⟩, -⟩ := hW
  have w0 : s.1 3 0 = s.1 65 16 := w0
  have w1 : s.1 3 1 = s.1 65 17 := w1
  have y0 : s.1 6 0 = s.1 65 14 := hy 0 (by decide)
  have y1 : s.1 6 1 = s.1 65 15 := hy 1 (by decide)
  have y2 : s.1 6 2 = s.1 65 12 := hy 2 (by decide)
  have y3 : s.1 6 3 = s.1 65 9 := hy 3 (by decide)
  have y4 : s.1 6 4 = s.1 65 10 := hy 4 (by decide)
  have y5 : s.1 6 5 = s.1 65 11 := hy 5 (by decide)
  have y6 : s.1 6 6 = s.1 65 13 := hy 6 (by decide)
  unfold F_X11_is F_X12_is v_AP
  rw [P_isIn, d_b_t, w0, w1, y0, y1, y2, y3, y4, y5, y6, hQ.1]
  by_cases c : 0 ≤ x ∧ x ≤ 8
  · rw [v_bt c, if_neg (show ¬ (1 : Int) = 0 by decide), d_w_id (by omega) (by omega), d_g_t (by omega)]
    have : x = 0 ∨ x = 1 ∨ x = 2 ∨ x = 3 ∨ x = 4 ∨ x = 5 ∨ x = 6 ∨ x = 7 ∨ x = 8 := by omega
    rcases this with rfl | rfl | rfl | rfl | rfl | rfl | rfl | rfl | rfl <;> exact ⟨_, rfl, rfl⟩
  · rw [v_bf c, if_pos rfl, if_neg (by omega), if_neg (by omega), if_neg (by omega), if_neg (by omega), if_neg (by omega), if_neg (by omega), if_neg (by omega), if_neg (by omega), if_neg (by omega)]
    by_cases q9 : x = 9
    · rw [if_pos q9, if_pos q9, P_blocks hG, d_b_t]; exact ⟨_, rfl, rfl⟩
    · rw [if_neg q9, if_neg q9]; exact ⟨_, rfl, rfl⟩
theorem v_d0 {x : Int} (h : d_R x) : d_w (x + 0) = x := by rw [Int.add_zero]; exact d_w_id h.1 h.2
theorem v_icel (hG : v_G (s.1 65) u v W H) (hQ : v_Q s u v W H) (hB : v_B (s.1 65) st me so) (hM : v_M s st me so) {y : Int} : ∀ (j k m m' : Nat), k + j = v_bl u v → j < m → j < m' → ∀ x, d_R x → v_AP (F_X11_ice_l4 s m y x (k : Int)) (F_X12_ice_l4 s m' y x (k : Int)) := by
  have hac := hG.ac
  intro j
  induction j with
  | zero =>
    intro k m m' hk hm hm' x hx
    obtain ⟨m, rfl⟩ : ∃ q, m = q + 1 := ⟨m - 1, by omega⟩
    obtain ⟨m', rfl⟩ : ∃ q, m' = q + 1 := ⟨m' - 1, by omega⟩
    show v_AP (F_X11_ice_l4_b s (F_X11_ice_l4 s m) _ _ _) (F_X12_ice_l4_b s (F_X12_ice_l4 s m') _ _ _)
    unfold F_X11_ice_l4_b F_X12_ice_l4_b
    rw [P_blocks hG, d_b_t, hQ.1]
    have hn : ¬ ((k : Nat) : Int) < ((v_bl u v : Nat) : Int) := by omega
    rw [if_neg hn, if_neg hn]
    exact ⟨_, rfl, rfl⟩
  | succ j ih =>
    intro k m m' hk hm hm' x hx
    obtain ⟨m, rfl⟩ : ∃ q, m = q + 1 := ⟨m - 1, by omega⟩
    obtain ⟨m', rfl⟩ : ∃ q, m' = q + 1 := ⟨m' - 1, by omega⟩
    show v_AP (F_X11_ice_l4_b s (F_X11_ice_l4 s m) _ _ _) (F_X12_ice_l4_b s (F_X12_ice_l4 s m') _ _ _)
    unfold F_X11_ice_l4_b F_X12_ice_l4_b
    have hkb : k < v_bl u v := by omega
    have hp : ((k : Nat) : Int) < ((v_bl u v : Nat) : Int) := by omega
    rw [P_blocks hG, d_b_t, hQ.1, if_pos hp, if_pos hp, P_isSoldC hM (by omega), P_isSold hB (by omega), d_b_t, d_b_t, v_d0 hx, d_w_id (x := (k : Int) + 1) (by omega) (by omega)]
    by_cases c : ((so k : Nat) : Int) = y
    · rw [if_pos c, if_pos c, P_sizeOfC hQ hkb, P_wideOf hG hkb, P_highOf hG hkb, d_b_t, d_b_t, d_b_t, ← Int.natCast_mul]
      exact ih (k + 1) m m' (by omega) (by omega) (by omega) _ d_R_w
    · rw [if_neg c, if_neg c]
      exact ih (k + 1) m m' (by omega) (by omega) (by omega) _ hx
theorem R_ice (h : v_R t s) {x : Int} : v_AP (F_X11_ice s x) (F_X12_ice s x) := by
  obtain ⟨u, v, W, H, st, me, so, N, sg, hG, hQ, hB, hM, -⟩ := h.all
  exact v_icel hG hQ hB hM (v_bl u v) 0 d_N d_N (by omega) (by rw [d_N_is]; have := hG.ac.2.2.1; omega) (by rw [d_N_is]; have := hG.ac.2.2.1; omega) 0 (d_rl rfl)
theorem v_gonel (hG : v_G (s.1 65) u v W H) (hQ : v_Q s u v W H) (hB : v_B (s.1 65) st me so) (hM : v_M s st me so) : ∀ (j k m m' : Nat), k + j = v_bl u v → j < m → j < m' → ∀ x, d_R x → v_AP (F_X11_gone_l4 s m x (k : Int)) (F_X12_gone_l4 s m' x (k : Int)) := by
  have hac := hG.ac
  intro j
  induction j with
  | zero =>
    intro k m m' hk hm hm' x hx
    obtain ⟨m, rfl⟩ : ∃ q, m = q + 1 := ⟨m - 1, by omega⟩
    obtain ⟨m', rfl⟩ : ∃ q, m' = q + 1 := ⟨m' - 1, by omega⟩
    show v_AP (F_X11_gone_l4_b s (F_X11_gone_l4 s m) _ _) (F_X12_gone_l4_b s (F_X12_gone_l4 s m') _ _)
    unfold F_X11_gone_l4_b F_X12_gone_l4_b
    rw [P_blocks hG, d_b_t, hQ.1]
    have hn : ¬ ((k : Nat) : Int) < ((v_bl u v : Nat) : Int) := by omega
    rw [if_neg hn, if_neg hn]
    exact ⟨_, rfl, rfl⟩
  | succ j ih =>
    intro k m m' hk hm hm' x hx
    obtain ⟨m, rfl⟩ : ∃ q, m = q + 1 := ⟨m - 1, by omega⟩
    obtain ⟨m', rfl⟩ : ∃ q, m' = q + 1 := ⟨m' - 1, by omega⟩
    show v_AP (F_X11_gone_l4_b s (F_X11_gone_l4 s m) _ _) (F_X12_gone_l4_b s (F_X12_gone_l4 s m') _ _)
    unfold F_X11_gone_l4_b F_X12_gone_l4_b
    have hkb : k < v_bl u v := by omega
    have hp : ((k : Nat) : Int) < ((v_bl u v : Nat) : Int) := by omega
    obtain ⟨-, m1, m2, m3⟩ := hM k (by omega)
    rw [P_blocks hG, d_b_t, hQ.1, if_pos hp, if_pos hp, P_meltedOf hM (by omega), P_isWater hB (by omega), d_b_t, d_b_t, v_bit1_, v_bit0_, d_b_t, d_b_t, d_w_id (x := (k : Int) + 1) (by omega) (by omega)]
    by_cases c : me k = 100
    · rw [v_bt c, if_neg (show ¬ (1 : Int) = 0 by decide), if_neg (by omega)]
      exact ih (k + 1) m m' (by omega) (by omega) (by omega) _ d_R_w
    · rw [v_bf c, if_pos (show (0 : Int) = 0 from rfl), if_pos (by omega)]
      exact ih (k + 1) m m' (by omega) (by omega) (by omega) _ d_R_w
theorem R_gone (h : v_R t s) : v_AP (F_X11_gone s) (F_X12_gone s) := by
  obtain ⟨u, v, W, H, st, me, so, N, sg, hG, hQ, hB, hM, -⟩ := h.all
  exact v_gonel hG hQ hB hM (v_bl u v) 0 d_N d_N (by omega) (by rw [d_N_is]; have := hG.ac.2.2.1; omega) (by rw [d_N_is]; have := hG.ac.2.2.1; omega) 0 (d_rl rfl)
theorem v_litterl (hG : v_G (s.1 65) u v W H) (hQ : v_Q s u v W H) (hB : v_B (s.1 65) st me so) (hM : v_M s st me so) : ∀ (j k m m' : Nat), k + j = v_bl u v → j < m → j < m' → ∀ x, v_AP (F_X11_litter_l4 s m x (k : Int)) (F_X12_litter_l4 s m' x (k : Int)) := by
  have hac := hG.ac
  intro j
  induction j with
  | zero =>
    intro k m m' hk hm hm' x
    obtain ⟨m, rfl⟩ : ∃ q, m = q + 1 := ⟨m - 1, by omega⟩
    obtain ⟨m', rfl⟩ : ∃ q, m' = q + 1 := ⟨m' - 1, by omega⟩
    show v_AP (F_X11_litter_l4_b s (F_X11_litter_l4 s m) _ _) (F_X12_litter_l4_b s (F_X12_litter_l4 s m') _ _)
    unfold F_X11_litter_l4_b F_X12_litter_l4_b
    rw [P_blocks hG, d_b_t, hQ.1]
    have hn : ¬ ((k : Nat) : Int) < ((v_bl u v : Nat) : Int) := by omega
    rw [if_neg hn, if_neg hn]
    exact ⟨_, rfl, rfl⟩
  | succ j ih =>
    intro k m m' hk hm hm' x
    obtain ⟨m, rfl⟩ : ∃ q, m = q + 1 := ⟨m - 1, by omega⟩
    obtain ⟨m', rfl⟩ : ∃ q, m' = q + 1 := ⟨m' - 1, by omega⟩
    show v_AP (F_X11_litter_l4_b s (F_X11_litter_l4 s m) _ _) (F_X12_litter_l4_b s (F_X12_litter_l4 s m') _ _)
    unfold F_X11_litter_l4_b F_X12_litter_l4_b
    have hkb : k < v_bl u v := by omega
    have hp : ((k : Nat) : Int) < ((v_bl u v : Nat) : Int) := by omega
    rw [P_blocks hG, d_b_t, hQ.1, if_pos hp, if_pos hp, P_strawOn hM (by omega), P_get0 hB (by omega), d_b_t, d_b_t, d_w_id (x := (k : Int) + 1) (by omega) (by omega)]
    exact ih (k + 1) m m' (by omega) (by omega) (by omega) _
theorem R_litter (h : v_R t s) : v_AP (F_X11_litter s) (F_X12_litter s) := by
  obtain ⟨u, v, W, H, st, me, so, N, sg, hG, hQ, hB, hM, -⟩ := h.all
  exact v_litterl hG hQ hB hM (v_bl u v) 0 d_N d_N (by omega) (by rw [d_N_is]; have := hG.ac.2.2.1; omega) (by rw [d_N_is]; have := hG.ac.2.2.1; omega) 0
theorem P_meltsAt (hT : v_CT t (s.2.1 47 3) L) (hK : v_K s q sold) (hb : v_tb s size edge) : ∃ s', F_X0_meltsAt t s = some (v_mel L q.1 q.2.1 size q.2.2.1 q.2.2.2.1 edge, s') ∧ (∀ a, a ≠ 49 → a ≠ 50 → s'.1 a = s.1 a) ∧ s'.2 = s.2 ∧ v_Nm (s'.1 49) := by
  obtain ⟨⟨k6, k7, k8, k9, k5, k10⟩, ⟨o1, o2, o3, o4, o5⟩, -⟩ := hK
  obtain ⟨b3, b5, hN⟩ := hb
  obtain ⟨s1, hs1⟩ : ∃ y, y = d_si (d_si (d_si (d_si s 49 1 q.1) 49 2 q.2.1) 49 0 q.2.2.1) 49 4 q.2.2.2.1 := ⟨_, rfl⟩
  have e49 : s1.1 49 = d_u (d_u (d_u (d_u (s.1 49) 1 q.1) 2 q.2.1) 0 q.2.2.1) 4 q.2.2.2.1 := by rw [hs1]; exact v_told
  have eo : ∀ a, a ≠ 49 → s1.1 a = s.1 a := fun a ha => by rw [hs1, d_si_n ha, d_si_n ha, d_si_n ha, d_si_n ha]
  have hN1 : v_Nm (s1.1 49) := by
    rw [e49]
    exact (((hN.u (k := 1) (by omega) (by omega)).u (k := 2) (by omega) (by omega)).u (k := 0) (by omega) (by omega)).u (k := 4) (by omega) (by omega)
  have ep : s1.2 = s.2 := by rw [hs1]; rfl
  obtain ⟨s2, g1, g2⟩ := P_melts (s := s1) (t := t) (e := s.2.1 47 3) (L := L) hT hN1
  refine ⟨s2, ?_, fun a h1 h2 => by rw [g2.1 a (by intro h; simp at h; exact h2 h), eo a h1], g2.2.trans ep, by rw [g2.1 49 (by decide)]; exact hN1⟩
  unfold F_X0_meltsAt F_X0_meltsUnder
  rw [k6, k7, k8, k9, P_tellDay, d_b_t, ← hs1, g1, d_b2_t, d_b2_t, e49]
  congr 1
  refine Prod.ext ?_ rfl
  show v_mel L q.1 q.2.1 (s.1 49 3) q.2.2.1 q.2.2.2.1 (s.1 49 5) = _
  rw [b3, b5]
theorem v_R.yardly (h : v_R t s) : ∃ (e : Option Nat) (L : v_LR), F_X9_ruler_3 s = some e ∧ v_CT t e L ∧ v_RT (s.1 67) (s.1 65 2) L ∧ v_Y s (s.1 65 9) (s.1 65 10) (s.1 65 13) ∧ v_Nm (s.1 49) ∧ v_Nm (s.1 71) ∧ (0 ≤ s.1 65 9 ∧ s.1 65 9 ≤ 999) ∧ (0 ≤ s.1 65 10 ∧ s.1 65 10 ≤ 9) := by
  obtain ⟨e, L, h1, h2, h3⟩ := h.rule
  obtain ⟨hW, hI, -, -, -, -, -, hN, -⟩ := h
  exact ⟨e, L, h1, h2, h3, hW.Y hI, hN.1, hN.2, hI.2.2.2.1, hI.2.2.2.2.1⟩
theorem v_R.scr2 (h : v_R t s) {s1 s2 : d_S} (h1 : ∀ a, a ≠ 47 → a ≠ 49 → a ≠ 50 → s1.1 a = s.1 a) (h2 : ∀ a, a ≠ 47 → s1.2.1 a = s.2.1 a) (h3 : v_71 s1 s2) (hN : v_Nm (s1.1 49)) : v_R t s2 := by
  refine h.scr (fun a ha => ?_) (fun a ha => by rw [h3.2.1]; exact h2 a ha) ⟨by rw [h3.1 49 (by decide)]; exact hN, h3.2.2 (by rw [h1 71 (by decide) (by decide) (by decide)]; exact h.2.2.2.2.2.2.2.1.2)⟩
  unfold v_cl at ha
  rw [h3.1 a (by omega), h1 a (by omega) (by omega) (by omega)]
theorem R_block (h : v_R t s) {x1 x2 : Int} : v_AA t (F_X11_block t s x1 x2) (fun s1 => F_X12_block s1 x1 x2) := by
  obtain ⟨u, v, W, H, st, me, so, N, sg, hG, hQ, hB, hM, hZ, hS, -⟩ := h.all
  obtain ⟨e, L, hE, hCT, hRT, hY, hN1, hN2, h9, h10⟩ := h.yardly
  have hac := hG.ac
  by_cases c : 0 ≤ x1 ∧ x1 < ((v_bl u v : Nat) : Int)
  rotate_left
  · refine v_AA.same h (-1) ?_ ?_
    · unfold F_X11_block; rw [P_isBlockC hQ, d_b_t, v_bf c, if_pos rfl]
    · show F_X12_block s x1 x2 = _; unfold F_X12_block; rw [P_isBlock hG, d_b_t, v_bf c, if_pos rfl]
  obtain ⟨b, rfl⟩ : ∃ b : Nat, x1 = b := ⟨x1.toNat, by omega⟩
  have hb : b < v_bl u v := by omega
  have hb64 : b < 64 := by omega
  have e1 : F_X12_isBlock s (b : Int) = some 1 := by rw [P_isBlock hG, v_bt c]
  have same : ∀ w, F_X11_block t s (b : Int) x2 = some (w, s) → F_X12_block s (b : Int) x2 = some (w, s) → v_AA t (F_X11_block t s (b : Int) x2) (fun s1 => F_X12_block s1 (b : Int) x2) := fun w h1 h2 => v_AA.same h w h1 h2
  obtain ⟨-, m1, m2, m3⟩ := hM b hb64
  have hC : ∀ r, F_X11_block t s (b : Int) x2 = r ↔ (if x2 = 0 then d_b (F_X4_leftOf s (b : Int)) (fun v2 => some (v2, s)) else if x2 = 1 then d_b (F_X4_topOf s (b : Int)) (fun v3 => some (v3, s)) else if x2 = 2 then d_b (F_X4_wideOf s (b : Int)) (fun v4 => some (v4, s)) else if x2 = 3 then d_b (F_X4_highOf s (b : Int)) (fun v5 => some (v5, s)) else if x2 = 4 then d_b (F_X10_strawOn_6 s (b : Int)) (fun v6 => some (v6, s)) else if x2 = 5 then d_b (F_X10_meltedOf_6 s (b : Int)) (fun v7 => some (v7, s)) else if x2 = 6 then d_b (F_X10_isSold_6 s (b : Int)) (fun v8 => d_b (F_X11_bit v8) (fun v9 => some (v9, s))) else if x2 = 7 then d_b (F_X4_edgeOf s (b : Int)) (fun v10 => some (v10, s)) else if x2 = 8 then d_b (F_X4_sightsIn_3 s (b : Int)) (fun v11 => some (v11, s)) else if x2 = 9 then d_b2 (F_X11_meltsNow t s (b : Int)) (fun v12 s13 => some (v12, s13)) else if x2 = 10 then d_b2 (F_X11_sellsNow t s (b : Int)) (fun v14 s15 => some (v14, s15)) else some ((-1), s)) = r := fun r => by
    unfold F_X11_block
    rw [P_isBlockC hQ, d_b_t, v_bt c, if_neg (show ¬ (1 : Int) = 0 by decide)]
  have hD : ∀ s1 r, F_X12_isBlock s1 (b : Int) = some 1 → (F_X12_block s1 (b : Int) x2 = r ↔ (if x2 = 0 then d_b (F_X12_leftOf s1 (b : Int)) (fun v2 => some (v2, s1)) else if x2 = 1 then d_b (F_X12_upperOf s1 (b : Int)) (fun v3 => some (v3, s1)) else if x2 = 2 then d_b (F_X12_wideOf s1 (b : Int)) (fun v4 => some (v4, s1)) else if x2 = 3 then d_b (F_X12_highOf s1 (b : Int)) (fun v5 => some (v5, s1)) else if x2 = 4 then d_b (F_X12_get s1 (b : Int) 0) (fun v6 => some (v6, s1)) else if x2 = 5 then d_b (F_X12_get s1 (b : Int) 1) (fun v7 => some (v7, s1)) else if x2 = 6 then d_b (F_X12_get s1 (b : Int) 2) (fun v8 => some (v8, s1)) else if x2 = 7 then d_b (F_X12_edgeOf s1 (b : Int)) (fun v9 => some (v9, s1)) else if x2 = 8 then d_b (F_X12_sightsIn s1 (b : Int)) (fun v10 => some (v10, s1)) else if x2 = 9 then d_b2 (F_X12_meltsOf s1 (b : Int)) (fun v11 s12 => some (v11, s12)) else if x2 = 10 then d_b2 (F_X12_sellsOf s1 (b : Int)) (fun v13 s14 => some (v13, s14)) else some ((-1), s1)) = r) := fun s1 r hh => by
    unfold F_X12_block
    rw [hh, d_b_t, if_neg (show ¬ (1 : Int) = 0 by decide)]
  by_cases q0 : x2 = 0
  · exact same _ ((hC _).2 (by rw [if_pos q0, P_leftOfC hQ hb, d_b_t])) ((hD s _ e1).2 (by rw [if_pos q0, P_leftOf hG hb, d_b_t]))
  by_cases q1 : x2 = 1
  · exact same _ ((hC _).2 (by rw [if_neg q0, if_pos q1, P_topOfC hQ hb, d_b_t])) ((hD s _ e1).2 (by rw [if_neg q0, if_pos q1, P_upperOf hG hb, d_b_t]))
  by_cases q2 : x2 = 2
  · exact same _ ((hC _).2 (by rw [if_neg q0, if_neg q1, if_pos q2, P_wideOfC hQ hb, d_b_t])) ((hD s _ e1).2 (by rw [if_neg q0, if_neg q1, if_pos q2, P_wideOf hG hb, d_b_t]))
  by_cases q3 : x2 = 3
  · exact same _ ((hC _).2 (by rw [if_neg q0, if_neg q1, if_neg q2, if_pos q3, P_highOfC hQ hb, d_b_t])) ((hD s _ e1).2 (by rw [if_neg q0, if_neg q1, if_neg q2, if_pos q3, P_highOf hG hb, d_b_t]))
  by_cases q4 : x2 = 4
  · exact same _ ((hC _).2 (by rw [if_neg q0, if_neg q1, if_neg q2, if_neg q3, if_pos q4, P_strawOn hM hb64, d_b_t])) ((hD s _ e1).2 (by rw [if_neg q0, if_neg q1, if_neg q2, if_neg q3, if_pos q4, P_get0 hB hb64, d_b_t]))
  by_cases q5 : x2 = 5
  · exact same _ ((hC _).2 (by rw [if_neg q0, if_neg q1, if_neg q2, if_neg q3, if_neg q4, if_pos q5, P_meltedOf hM hb64, d_b_t])) ((hD s _ e1).2 (by rw [if_neg q0, if_neg q1, if_neg q2, if_neg q3, if_neg q4, if_pos q5, P_get1 hB hb64, d_b_t]))
  by_cases q6 : x2 = 6
  · have e6 : v_b (¬ ((so b : Nat) : Int) = 0) = ((so b : Nat) : Int) := by
      by_cases q : so b = 0
      · rw [v_bf (by omega), q]; rfl
      · rw [v_bt (by omega), show so b = 1 by omega]; rfl
    exact same _ ((hC _).2 (by rw [if_neg q0, if_neg q1, if_neg q2, if_neg q3, if_neg q4, if_neg q5, if_pos q6, P_isSoldC hM hb64, d_b_t, P_bit, d_b_t, e6])) ((hD s _ e1).2 (by rw [if_neg q0, if_neg q1, if_neg q2, if_neg q3, if_neg q4, if_neg q5, if_pos q6, P_get2 hB hb64, d_b_t]))
  by_cases q7 : x2 = 7
  · exact same _ ((hC _).2 (by rw [if_neg q0, if_neg q1, if_neg q2, if_neg q3, if_neg q4, if_neg q5, if_neg q6, if_pos q7, P_edgeOfC hQ hb, d_b_t])) ((hD s _ e1).2 (by rw [if_neg q0, if_neg q1, if_neg q2, if_neg q3, if_neg q4, if_neg q5, if_neg q6, if_pos q7, P_edgeOf hG hb, d_b_t]))
  by_cases q8 : x2 = 8
  · exact same _ ((hC _).2 (by rw [if_neg q0, if_neg q1, if_neg q2, if_neg q3, if_neg q4, if_neg q5, if_neg q6, if_neg q7, if_pos q8, P_sightsInC hQ hS hb, d_b_t])) ((hD s _ e1).2 (by rw [if_neg q0, if_neg q1, if_neg q2, if_neg q3, if_neg q4, if_neg q5, if_neg q6, if_neg q7, if_pos q8, P_sightsIn hG hZ hb, d_b_t]))
  obtain ⟨s1, a1, a2, a3, a4, a5, a6, a7⟩ := P_start hM hQ hb hE hY hN1
  by_cases q9 : x2 = 9
  · obtain ⟨s2, b1, b2, b3, b4⟩ := P_meltsAt (L := L) (by rw [a4]; exact hCT) a2 a5
    have so' : ∀ a, a ≠ 47 → a ≠ 49 → a ≠ 50 → s2.1 a = s.1 a := fun a h1 h2 h3 => (b2 a h2 h3).trans (a6 a h1 h2)
    have k65 : s2.1 65 = s.1 65 := so' 65 (by decide) (by decide) (by decide)
    obtain ⟨s3, r1, r2⟩ := P_meltsOf (s := s2) (L := L) (day := s.1 65 9) (heat := s.1 65 10) (by rw [k65]; exact hG) hb (by rw [k65, so' 67 (by decide) (by decide) (by decide)]; exact hRT) (by rw [so' 71 (by decide) (by decide) (by decide)]; exact hN2) (by rw [k65]; exact hB) (by rw [k65]) (by rw [k65]) (by omega) (by omega)
    refine ⟨v_mel L (s.1 65 9) (s.1 65 10) ((v_sz u v W H b : Nat) : Int) ((st b : Nat) : Int) ((me b : Nat) : Int) ((v_ed u v W H b : Nat) : Int), s2, s3, (hC _).2 ?_, (hD s2 _ ?_).2 ?_, h.scr2 so' (fun a ha => by rw [b3]; exact a7 a ha) r2 b4⟩
    · rw [if_neg q0, if_neg q1, if_neg q2, if_neg q3, if_neg q4, if_neg q5, if_neg q6, if_neg q7, if_neg q8, if_pos q9]
      unfold F_X11_meltsNow
      rw [a1, d_b_t, b1, d_b2_t, d_b2_t]
    · rw [P_isBlock (by rw [k65]; exact hG), v_bt c]
    · rw [if_neg q0, if_neg q1, if_neg q2, if_neg q3, if_neg q4, if_neg q5, if_neg q6, if_neg q7, if_neg q8, if_pos q9, r1, d_b2_t]
  by_cases qa : x2 = 10
  · obtain ⟨s2, b1, b2, b3, b4⟩ := P_sellsAt (L := L) (b := b) (by rw [a4]; exact hCT) a2 a5 (hQ.fr (fun a h1 h2 => a6 a (by omega) (by omega))) (N := N) (sg := sg) (by
      unfold v_S at hS ⊢
      rw [a6 3 (by decide) (by decide), a6 4 (by decide) (by decide)]; exact hS) a3 hb
    have so' : ∀ a, a ≠ 47 → a ≠ 49 → a ≠ 50 → s2.1 a = s.1 a := fun a h1 h2 h3 => (b2 a h2 h3).trans (a6 a h1 h2)
    have k65 : s2.1 65 = s.1 65 := so' 65 (by decide) (by decide) (by decide)
    obtain ⟨s3, r1, r2⟩ := P_sellsOf (s := s2) (L := L) (day := s.1 65 9) (heat := s.1 65 10) (N := N) (sg := sg) (by rw [k65]; exact hG) (by rw [k65]; exact hZ) hb (by rw [k65, so' 67 (by decide) (by decide) (by decide)]; exact hRT) (by rw [so' 71 (by decide) (by decide) (by decide)]; exact hN2) (by rw [k65]; exact hB) (by rw [k65]) (by rw [k65]) (by omega) (by omega)
    refine ⟨v_sel L (s.1 65 9) (s.1 65 10) ((v_sz u v W H b : Nat) : Int) ((st b : Nat) : Int) ((me b : Nat) : Int) ((v_ed u v W H b : Nat) : Int) ((v_pc (v_si sg u v W H N b) 12 : Nat) : Int) ((v_ki sg u v W H N b : Nat) : Int), s2, s3, (hC _).2 ?_, (hD s2 _ ?_).2 ?_, h.scr2 so' (fun a ha => by rw [b3]; exact a7 a ha) r2 b4⟩
    · rw [if_neg q0, if_neg q1, if_neg q2, if_neg q3, if_neg q4, if_neg q5, if_neg q6, if_neg q7, if_neg q8, if_neg q9, if_pos qa]
      unfold F_X11_sellsNow
      rw [a1, d_b_t, b1, d_b2_t, d_b2_t]
    · rw [P_isBlock (by rw [k65]; exact hG), v_bt c]
    · rw [if_neg q0, if_neg q1, if_neg q2, if_neg q3, if_neg q4, if_neg q5, if_neg q6, if_neg q7, if_neg q8, if_neg q9, if_pos qa, r1, d_b2_t]
  · exact same (-1) ((hC _).2 (by rw [if_neg q0, if_neg q1, if_neg q2, if_neg q3, if_neg q4, if_neg q5, if_neg q6, if_neg q7, if_neg q8, if_neg q9, if_neg qa])) ((hD s _ e1).2 (by rw [if_neg q0, if_neg q1, if_neg q2, if_neg q3, if_neg q4, if_neg q5, if_neg q6, if_neg q7, if_neg q8, if_neg q9, if_neg qa]))
end V28

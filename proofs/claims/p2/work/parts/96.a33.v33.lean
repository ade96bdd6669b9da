section V33
variable {s s1 s2 : d_S} {t : Nat → Option p_C} {L : v_LR} {u v W H b N n : Nat} {st me so : Nat → Nat} {sg : Nat → Nat → Nat} {day heat x : Int} {e : Option Nat}
theorem v_sh0 (h : v_si sg u v W H N b = 0) {n : Nat} (hn : n < N) : ¬ v_sw sg me u v W H b n := by
  rintro ⟨-, h2⟩
  have := v_sb_b (P := fun n => 0 < v_ce sg u v W H n b) hn
  rw [show v_sb (fun n => 0 < v_ce sg u v W H n b) N = 0 from h, if_pos h2] at this
  simp at this
theorem v_shbl (hM : v_M s st me so) (hQ : v_Q s u v W H) (hS : v_S s N sg) (hE : F_X9_ruler_3 s = some e) (hCT : v_CT t e L) (hY : v_Y s day heat x) (hn : n ≤ 100) : ∀ (j k m : Nat), k + j = v_bl u v → j < m → ∀ s1, v_cf s s1 → ∃ s', F_X11_showingBehind_l4 t m (n : Int) ((v_sb (v_shk sg (v_men L u v W H day heat x st me so n) u v W H k) N : Nat) : Int) (k : Int) s1 = some (((v_sb (v_shk sg (v_men L u v W H day heat x st me so n) u v W H (v_bl u v)) N : Nat) : Int), s') ∧ v_cf s s' := by
  have h64 := hQ.2.2.1
  intro j
  induction j with
  | zero =>
    intro k m hk hm s1 hc
    obtain ⟨m, rfl⟩ : ∃ q, m = q + 1 := ⟨m - 1, by omega⟩
    have hk : k = v_bl u v := by omega
    subst hk
    refine ⟨s1, ?_, hc⟩
    show F_X11_showingBehind_l4_b t (F_X11_showingBehind_l4 t m) _ _ _ s1 = _
    unfold F_X11_showingBehind_l4_b
    rw [hc.1 37 (by decide) (by decide) (by decide), hQ.1, if_neg (by omega)]
  | succ j ih =>
    intro k m hk hm s1 hc
    obtain ⟨m, rfl⟩ : ∃ q, m = q + 1 := ⟨m - 1, by omega⟩
    have hkb : k < v_bl u v := by omega
    have hQ1 : v_Q s1 u v W H := hQ.fr (fun a h1 h2 => hc.1 a (by omega) (by omega) (by omega))
    have fS : ∀ {z : d_S}, v_cf s z → v_S z N sg := fun hz => by
      unfold v_S at hS ⊢
      rw [hz.1 3 (by decide) (by decide) (by decide), hz.1 4 (by decide) (by decide) (by decide)]; exact hS
    show ∃ s', F_X11_showingBehind_l4_b t (F_X11_showingBehind_l4 t m) _ _ _ s1 = _ ∧ _
    unfold F_X11_showingBehind_l4_b
    rw [hQ1.1, if_pos (by omega), P_sightsInC hQ1 (fS hc) hkb, d_b_t, d_w_id (x := (k : Int) + 1) (by omega) (by omega)]
    by_cases q : v_si sg u v W H N k = 0
    · rw [if_pos (by omega)]
      obtain ⟨s', r1, r2⟩ := ih (k + 1) m (by omega) (by omega) s1 hc
      refine ⟨s', ?_, r2⟩
      rw [v_sb_cg (Q := v_shk sg (v_men L u v W H day heat x st me so n) u v W H (k + 1)) N (fun i hi => ⟨fun h => v_shk_s.2 (Or.inl h), fun h => by
        rcases v_shk_s.1 h with h | h
        · exact h
        · exact absurd h (v_sh0 q hi)⟩)]
      exact r1
    rw [if_neg (by omega)]
    obtain ⟨s2, s3, a1, a2, a3, a4, a5⟩ := P_course hM hQ hkb hE hCT hY hc hn
    obtain ⟨-, m1, m2, m3⟩ := hM k (by omega)
    have hok := a3.2.1
    have h9 : s3.1 47 9 = ((v_men L u v W H day heat x st me so n k : Nat) : Int) := by
      rw [a3.1.2.2.2.1]
      unfold v_men; rw [if_pos hkb]; exact (Int.toNat_of_nonneg hok.2.2.2.1.1).symm
    have l1 : v_sb (v_shk sg (v_men L u v W H day heat x st me so n) u v W H k) N < 4096 := v_sb12 hS.2.1
    have l2 : v_sb (v_sw sg (v_men L u v W H day heat x st me so n) u v W H k) N < 4096 := v_sb12 hS.2.1
    obtain ⟨s', r1, r2⟩ := ih (k + 1) m (by omega) (by omega) s3 a4
    refine ⟨s', ?_, r2⟩
    rw [a1, d_b_t, a2, d_b_t, h9, P_showingIn (hQ.fr (fun a h1 h2 => a4.1 a (by omega) (by omega) (by omega))) (fS a4) hkb, d_b_t, v_or (by omega) (by omega), v_sb_or (R := v_shk sg (v_men L u v W H day heat x st me so n) u v W H (k + 1)) (fun n _ => v_shk_s)]
    exact r1
theorem v_fol {K : Int → d_S → Option (Int × d_S)} {N' : Nat} (hN' : N' ≤ 100) {y : Int} : ∀ (j k m : Nat), k + j = N' → j < m → ∀ (s : d_S) (day heat x : Int) (st me : Nat → Nat), v_go s L u v W H day heat x st me so → ∃ s' day' heat' x', F_X12_foretold_l31 K m (N' : Int) y (k : Int) s = K y s' ∧ v_go s' L u v W H day' heat' x' (v_stn L u v W H day heat x st me so j) (v_men L u v W H day heat x st me so j) so ∧ v_rf s s' := by
  intro j
  induction j with
  | zero =>
    intro k m hk hm s day heat x st me h
    obtain ⟨m, rfl⟩ : ∃ q, m = q + 1 := ⟨m - 1, by omega⟩
    refine ⟨s, day, heat, x, ?_, by rw [v_stn_0, v_men_0]; exact h, v_rf.rf⟩
    show F_X12_foretold_l31_b K (F_X12_foretold_l31 K m) _ _ _ s = _
    unfold F_X12_foretold_l31_b
    rw [if_neg (by omega)]
  | succ j ih =>
    intro k m hk hm s day heat x st me h
    obtain ⟨m, rfl⟩ : ∃ q, m = q + 1 := ⟨m - 1, by omega⟩
    obtain ⟨s1, d1, h1, x1, st1, me1, g1, g2, g3, g4, g5⟩ := P_goOn h
    obtain ⟨s', d2, h2, x2, r1, r2, r3⟩ := ih (k + 1) m (by omega) (by omega) s1 d1 h1 x1 st1 me1 g2
    refine ⟨s', d2, h2, x2, ?_, by rw [g4, g5]; exact r2, g3.tr r3⟩
    show F_X12_foretold_l31_b K (F_X12_foretold_l31 K m) _ _ _ s = _
    unfold F_X12_foretold_l31_b
    rw [if_pos (by omega), g1, d_b_t, d_w_id (by omega) (by omega)]
    exact r1
theorem v_showl (hG : v_G (s.1 65) u v W H) (hZ : v_Z (s.1 65) N sg) (hB : v_B (s.1 65) st me so) : ∀ (j k m : Nat), k + j = N → j < m → F_X12_showing_l4 s m ((v_sb (v_shk sg me u v W H (v_bl u v)) k : Nat) : Int) (k : Int) = some ((v_sb (v_shk sg me u v W H (v_bl u v)) N : Nat) : Int) := by
  intro j
  induction j with
  | zero =>
    intro k m hk hm
    obtain ⟨m, rfl⟩ : ∃ q, m = q + 1 := ⟨m - 1, by omega⟩
    have hk : k = N := by omega
    subst hk
    show F_X12_showing_l4_b s (F_X12_showing_l4 s m) _ _ = _
    unfold F_X12_showing_l4_b
    rw [hZ.1, if_neg (by omega)]
  | succ j ih =>
    intro k m hk hm
    obtain ⟨m, rfl⟩ : ∃ q, m = q + 1 := ⟨m - 1, by omega⟩
    have hkN : k < N := by omega
    have hN12 := hZ.2.1
    have hlt : v_sb (v_shk sg me u v W H (v_bl u v)) k < 2 ^ k := v_sb_lt k
    have h12 := v_2p (n := k) (by omega)
    have hr := ih (k + 1) m (by omega) (by omega)
    show F_X12_showing_l4_b s (F_X12_showing_l4 s m) _ _ = _
    unfold F_X12_showing_l4_b
    simp only [v_sb] at hr
    rw [hZ.1, if_pos (by omega), P_isShowing hG hZ hB hkN, d_b_t, d_w_id (x := (k : Int) + 1) (by omega) (by omega)]
    by_cases q : v_shk sg me u v W H (v_bl u v) k
    · rw [if_pos q] at hr
      rw [v_bt q, if_neg (by decide), v_or1 (by omega) hlt]
      exact hr
    · rw [if_neg q] at hr
      rw [v_bf q, if_pos rfl, v_or0 ⟨by omega, by omega⟩]
      exact hr
theorem P_showing (hG : v_G (s.1 65) u v W H) (hZ : v_Z (s.1 65) N sg) (hB : v_B (s.1 65) st me so) : F_X12_showing s = some ((v_sb (v_shk sg me u v W H (v_bl u v)) N : Nat) : Int) := by
  unfold F_X12_showing
  exact v_showl hG hZ hB N 0 d_N (by omega) (by rw [d_N_is]; have := hZ.2.1; omega)
theorem v_R.come (h : v_R t s) : ∃ (e : Option Nat) (L : v_LR) (u v W H : Nat) (st me so : Nat → Nat) (N : Nat) (sg : Nat → Nat → Nat) (day heat x : Int), v_G (s.1 65) u v W H ∧ v_Q s u v W H ∧ v_B (s.1 65) st me so ∧ v_M s st me so ∧ v_Z (s.1 65) N sg ∧ v_S s N sg ∧ F_X9_ruler_3 s = some e ∧ v_CT t e L ∧ v_Y s day heat x ∧ v_Nm (s.1 49) ∧ v_go s L u v W H day heat x st me so ∧ v_C s u v W H ∧ ∀ n, n < N → (1 ≤ sg n 3 ∧ sg n 3 ≤ 3) ∧ (1 ≤ sg n 4 ∧ sg n 4 ≤ 3) ∧ sg n 1 + sg n 3 ≤ W ∧ sg n 2 + sg n 4 ≤ H := by
  obtain ⟨u, v, W, H, st, me, so, N, sg, hG, hQ, hB, hM, hZ, hS, hC, hBd⟩ := h.all
  obtain ⟨e, L, hE, hCT, hRT, hY, hN1, hN2, h9, h10⟩ := h.yardly
  have h13 : 0 ≤ s.1 65 13 ∧ s.1 65 13 < 30293 := h.2.1.2.2.2.2.2.2.1
  exact ⟨e, L, u, v, W, H, st, me, so, N, sg, _, _, _, hG, hQ, hB, hM, hZ, hS, hE, hCT, hY, hN1, ⟨hG, hRT, hN2, hB, ⟨rfl, rfl, rfl⟩, h9, h10, h13⟩, hC, hBd⟩
theorem v_cf.go (hc : v_cf s s1) (h : v_go s L u v W H day heat x st me so) : v_go s1 L u v W H day heat x st me so := by
  unfold v_go at h ⊢
  rw [hc.1 65 (by decide) (by decide) (by decide), hc.1 67 (by decide) (by decide) (by decide), hc.1 71 (by decide) (by decide) (by decide)]
  exact h
theorem v_R.came (h : v_R t s) {s3 : d_S} (hc : v_cf s s1) (hb : ∀ a, a ≠ 73 → s2.1 a = s1.1 a) (hb73 : ∀ i, 9 ≤ i → i < 212 → s2.1 73 i = s1.1 65 i) (hb2 : s2.2 = s1.2) (hr : v_rf s2 s3) (hN : v_Nm (s3.1 71)) : ∃ s', F_X12_putBack s3 = some s' ∧ v_R t s' := by
  have e65 : s1.1 65 = s.1 65 := hc.1 65 (by decide) (by decide) (by decide)
  obtain ⟨s', p1, p2, p3, p4⟩ := P_putBack (s := s3) (s0 := s) (fun i h1 h2 => by rw [hr.2.1 73 (by decide) (by decide), hb73 i h1 h2, e65]) (fun i hi => by rw [hr.1 i (by omega) (by omega) (by omega) (by omega), hb 65 (by decide), e65])
  refine ⟨s', p1, h.scr (fun a ha => ?_) (fun a ha => ?_) ⟨?_, ?_⟩⟩
  · by_cases q : a = 65
    · rw [q]; exact p2
    · unfold v_cl at ha
      rw [p3 a q, hr.2.1 a q (by omega), hb a (by omega), hc.1 a (by omega) (by omega) (by omega)]
  · rw [p4, hr.2.2, hb2]; exact hc.2.1 a ha
  · rw [p3 49 (by decide), hr.2.1 49 (by decide) (by decide), hb 49 (by decide)]; exact hc.2.2
  · rw [p3 71 (by decide)]; exact hN
theorem v_R.begun (hb : ∀ a, a ≠ 73 → s2.1 a = s1.1 a) (h : v_go s1 L u v W H day heat x st me so) : v_go s2 L u v W H day heat x st me so := by
  unfold v_go at h ⊢
  rw [hb 65 (by decide), hb 67 (by decide), hb 71 (by decide)]
  exact h
theorem R_foretold (h : v_R t s) {x1 x2 : Int} : v_AA t (F_X11_foretold t s x1 x2) (fun s1 => F_X12_foretold s1 x1 x2) := by
  obtain ⟨e, L, u, v, W, H, st, me, so, N, sg, day, heat, x, hG, hQ, hB, hM, hZ, hS, hE, hCT, hY, hN1, hgo, hC, hBd⟩ := h.come
  have hac := hG.ac
  have n10 : ¬ (1 : Int) = 0 := by decide
  by_cases c1 : 1 ≤ x1 ∧ x1 ≤ 60
  rotate_left
  · refine v_AA.same h (-1) ?_ ?_
    · unfold F_X11_foretold; rw [P_within, d_b_t, v_bf c1, if_pos rfl]
    · show F_X12_foretold s x1 x2 = _; unfold F_X12_foretold; rw [P_isIn, d_b_t, v_bf c1, if_pos rfl]
  obtain ⟨n, rfl⟩ : ∃ n : Nat, x1 = n := ⟨x1.toNat, by omega⟩
  have hcf : v_cf s s := ⟨fun _ _ _ _ => rfl, fun _ _ => rfl, hN1⟩
  
  have ref : ∀ (s1 : d_S) (y : Int), v_cf s s1 → ∃ s2 s3 s4 d1 h1 z1, F_X12_foretold_j25 (n : Int) y s1 = (if y = (-1) then d_b (F_X12_showing s3) (fun v5 => some (v5, s4)) else d_b (F_X12_get s3 y 1) (fun v7 => some (v7, s4))) ∧ v_go s3 L u v W H d1 h1 z1 (v_stn L u v W H day heat x st me so n) (v_men L u v W H day heat x st me so n) so ∧ v_Z (s3.1 65) N sg ∧ v_R t s4 ∧ v_rf s2 s3 := fun s1 y hc => by
    obtain ⟨s2, b1, b2, b3, b4⟩ := P_begin (s := s1)
    obtain ⟨s3, d1, h1, z1, r1, r2, r3⟩ := v_fol (L := L) (so := so) (K := fun x2_u4 s_u4 => if x2_u4 = (-1) then d_b (F_X12_showing s_u4) (fun v5 => F_X12_foretold_j64 v5 s_u4) else d_b (F_X12_get s_u4 x2_u4 1) (fun v7 => F_X12_foretold_j64 v7 s_u4)) (N' := n) (by omega) (y := y) n 0 d_N (by omega) (by rw [d_N_is]; omega) s2 day heat x st me (v_R.begun b3 (hc.go hgo))
    obtain ⟨s4, p1, p2⟩ := h.came hc b3 b2 b4 r3 r2.2.2.1
    refine ⟨s2, s3, s4, d1, h1, z1, ?_, r2, ?_, p2, r3⟩
    · unfold F_X12_foretold_j25
      rw [b1, d_b_t]
      refine r1.trans ?_
      unfold F_X12_foretold_j64
      rw [p1]; rfl
    · obtain ⟨z0, z12, zz⟩ := hZ
      have e65 : s2.1 65 = s.1 65 := (b3 65 (by decide)).trans (hc.1 65 (by decide) (by decide) (by decide))
      refine ⟨by rw [r3.1 0 (by decide) (by decide) (by decide) (by decide), e65]; exact z0, z12, fun n hn k hk => ?_⟩
      rw [r3.1 _ (by omega) (by omega) (by omega) (by omega), e65]
      exact zz n hn k hk
  by_cases c2 : x2 = -1
  · obtain ⟨s1, a1, a2⟩ := v_shbl (n := n) hM hQ hS hE hCT hY (by omega) (v_bl u v) 0 d_N (by omega) (by rw [d_N_is]; omega) s hcf
    rw [v_sb_no (fun n => by rintro ⟨b, h1, -⟩; omega)] at a1
    obtain ⟨s2, s3, s4, d1, h1, z1, r1, r2, r3, r4, -⟩ := ref s1 x2 a2
    refine ⟨((v_sb (v_shk sg (v_men L u v W H day heat x st me so n) u v W H (v_bl u v)) N : Nat) : Int), s1, s4, ?_, ?_, r4⟩
    · unfold F_X11_foretold F_X11_foretold_j25 F_X11_showingBehind
      rw [P_within, d_b_t, v_bt c1, if_neg n10, if_pos c2, if_pos c2]
      rw [show F_X11_showingBehind_l4 t d_N (n : Int) 0 0 s = _ from a1, d_b2_t]
    · show F_X12_foretold s1 (n : Int) x2 = _
      unfold F_X12_foretold
      rw [P_isIn, d_b_t, v_bt c1, if_neg n10, if_pos c2, r1, if_pos c2, P_showing r2.1 r3 r2.2.2.2.1, d_b_t]
  by_cases c3 : 0 ≤ x2 ∧ x2 < ((v_bl u v : Nat) : Int)
  rotate_left
  · refine v_AA.same h (-1) ?_ ?_
    · unfold F_X11_foretold; rw [P_within, d_b_t, v_bt c1, if_neg n10, if_neg c2, P_isBlockC hQ, d_b_t, v_bf c3, if_pos rfl]
    · show F_X12_foretold s (n : Int) x2 = _; unfold F_X12_foretold; rw [P_isIn, d_b_t, v_bt c1, if_neg n10, if_neg c2, P_isBlock hG, d_b_t, v_bf c3, if_pos rfl]
  obtain ⟨b, rfl⟩ : ∃ b : Nat, x2 = b := ⟨x2.toNat, by omega⟩
  have hb : b < v_bl u v := by omega
  obtain ⟨z2, s1, a1, a2, a3, a4, a5⟩ := P_course (n := n) hM hQ hb hE hCT hY hcf (by omega)
  obtain ⟨s2, s3, s4, d1, h1, z1, r1, r2, r3, r4, -⟩ := ref s1 (b : Int) a4
  have h9 : s1.1 47 9 = ((v_men L u v W H day heat x st me so n b : Nat) : Int) := by
    rw [a3.1.2.2.2.1]
    unfold v_men; rw [if_pos hb]; exact (Int.toNat_of_nonneg a3.2.1.2.2.2.1.1).symm
  refine ⟨((v_men L u v W H day heat x st me so n b : Nat) : Int), s1, s4, ?_, ?_, r4⟩
  · unfold F_X11_foretold F_X11_foretold_j25
    rw [P_within, d_b_t, v_bt c1, if_neg n10, if_neg c2, P_isBlockC hQ, d_b_t, v_bt c3, if_neg n10, if_neg c2, a1, d_b_t, a2, d_b_t, h9]
  · show F_X12_foretold s1 (n : Int) (b : Int) = _
    unfold F_X12_foretold
    rw [P_isIn, d_b_t, v_bt c1, if_neg n10, if_neg c2, P_isBlock (by rw [a4.1 65 (by decide) (by decide) (by decide)]; exact hG), d_b_t, v_bt c3, if_neg n10, r1, if_neg c2, P_get1 r2.2.2.2.1 (by omega), d_b_t]
end V33

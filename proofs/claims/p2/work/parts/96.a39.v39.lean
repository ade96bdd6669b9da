abbrev v_ks1 (sg : Nat → Nat → Nat) (me : Nat → Nat) (u v W H y k : Nat) : Prop := ∃ n, n < k ∧ sg n 0 = y ∧ v_shk sg me u v W H (v_bl u v) n
section V39
variable {s s0 s1 s2 : d_S} {t : Nat → Option p_C} {L : v_LR} {u v W H b N n : Nat} {st me so : Nat → Nat} {sg : Nat → Nat → Nat} {day heat x : Int} {e : Option Nat}
theorem v_un35 {K : Int → Int → Int → Int → Int → Int → d_S → Option (Int × d_S)} {y : Nat} {x2 x3 x4 : Int} (hG : v_G (s.1 65) u v W H) (hZ : v_Z (s.1 65) N sg) (hb : b < v_bl u v) {f : Int} (hf : (f = 1 ∧ v_hk sg u v W H N y b) ∨ (f = 0 ∧ ¬ v_hk sg u v W H N y b)) : ∀ (j k m : Nat), k + j = N → j < m → ∀ c : Int, ((c = 1 ∧ v_hk sg u v W H k y b) ∨ (c = 0 ∧ ¬ v_hk sg u v W H k y b)) → F_X12_unseen_l35 K m (y : Int) x2 x3 x4 (b : Int) c (k : Int) s = K (y : Int) x2 x3 x4 (b : Int) f s := by
  intro j
  induction j with
  | zero =>
    intro k m hk hm c hc
    obtain ⟨m, rfl⟩ : ∃ q, m = q + 1 := ⟨m - 1, by omega⟩
    have hk : k = N := by omega
    subst hk
    have e : c = f := by
      rcases hc with ⟨c1, c2⟩ | ⟨c1, c2⟩ <;> rcases hf with ⟨f1, f2⟩ | ⟨f1, f2⟩
      · rw [c1, f1]
      · exact absurd c2 f2
      · exact absurd f2 c2
      · rw [c1, f1]
    show F_X12_unseen_l35_b K (F_X12_unseen_l35 K m) _ _ _ _ _ _ _ s = _
    unfold F_X12_unseen_l35_b
    rw [hZ.1, if_neg (by omega), e]
  | succ j ih =>
    intro k m hk hm c hc
    obtain ⟨m, rfl⟩ : ∃ q, m = q + 1 := ⟨m - 1, by omega⟩
    have hkN : k < N := by omega
    have hN12 := hZ.2.1
    have e0 : F_X12_sightOf s (k : Int) 0 = _ := P_sightOf hZ hkN (k := 0) (by decide)
    have up : v_hk sg u v W H k y b → v_hk sg u v W H (k + 1) y b := by
      rintro ⟨n, h1, h2⟩
      exact ⟨n, by omega, h2⟩
    have dn : ¬ v_hk sg u v W H k y b → ¬ (sg k 0 = y ∧ 0 < v_ce sg u v W H k b) → ¬ v_hk sg u v W H (k + 1) y b := by
      rintro h1 h2 ⟨n, h3, h4⟩
      by_cases q : n = k
      · rw [q] at h4; exact h2 h4
      · exact h1 ⟨n, by omega, h4⟩
    show F_X12_unseen_l35_b K (F_X12_unseen_l35 K m) _ _ _ _ _ _ _ s = _
    unfold F_X12_unseen_l35_b
    rw [hZ.1, if_pos (by omega), d_w_id (x := (k : Int) + 1) (by omega) (by omega)]
    rcases hc with ⟨c1, c2⟩ | ⟨c1, c2⟩
    · rw [if_neg (by omega)]
      exact ih (k + 1) m (by omega) (by omega) 1 (Or.inl ⟨rfl, up c2⟩)
    rw [if_pos c1, e0, d_b_t]
    by_cases q : sg k 0 = y
    rotate_left
    · rw [if_neg (by omega)]
      exact ih (k + 1) m (by omega) (by omega) 0 (Or.inr ⟨rfl, dn c2 (fun e => q e.1)⟩)
    rw [if_pos (by omega), P_cellsIn hG hZ hb hkN, d_b_t]
    by_cases q2 : 0 < v_ce sg u v W H k b
    · rw [if_pos (by omega)]
      exact ih (k + 1) m (by omega) (by omega) 1 (Or.inl ⟨rfl, k, by omega, q, q2⟩)
    · rw [if_neg (by omega)]
      exact ih (k + 1) m (by omega) (by omega) 0 (Or.inr ⟨rfl, dn c2 (fun e => q2 e.2)⟩)
theorem v_un20 {K : Int → Int → Int → Int → d_S → Option (Int × d_S)} {y : Nat} {x2 x4 : Int} (hG : v_G (s0.1 65) u v W H) (hZ : v_Z (s0.1 65) N sg) (hB : v_B (s0.1 65) st me so) (hRT : v_RT (s0.1 67) (s0.1 65 2) L) (h9 : s0.1 65 9 = day) (h10 : s0.1 65 10 = heat) (hd : 0 ≤ day ∧ day ≤ 2000) (hh : 0 ≤ heat ∧ heat ≤ 2000) : ∀ (j k m : Nat), k + j = v_bl u v → j < m → ∀ s1, v_71 s0 s1 → v_Nm (s1.1 71) → ∃ s', F_X12_unseen_l20 K m (y : Int) x2 (v_us L sg u v W H N day heat st me so y k) x4 (k : Int) s1 = K (y : Int) x2 (v_us L sg u v W H N day heat st me so y (v_bl u v)) x4 s' ∧ v_71 s0 s' ∧ v_Nm (s'.1 71) := by
  have hac := hG.ac
  intro j
  induction j with
  | zero =>
    intro k m hk hm s1 hc hN
    obtain ⟨m, rfl⟩ : ∃ q, m = q + 1 := ⟨m - 1, by omega⟩
    have hk : k = v_bl u v := by omega
    subst hk
    refine ⟨s1, ?_, hc, hN⟩
    show F_X12_unseen_l20_b K (F_X12_unseen_l20 K m) _ _ _ _ _ s1 = _
    unfold F_X12_unseen_l20_b
    rw [P_blocks (by rw [hc.1 65 (by decide)]; exact hG), d_b_t, if_neg (by omega)]
  | succ j ih =>
    intro k m hk hm s1 hc hN
    obtain ⟨m, rfl⟩ : ∃ q, m = q + 1 := ⟨m - 1, by omega⟩
    have hkb : k < v_bl u v := by omega
    have e65 : s1.1 65 = s0.1 65 := hc.1 65 (by decide)
    have hG1 : v_G (s1.1 65) u v W H := by rw [e65]; exact hG
    have hZ1 : v_Z (s1.1 65) N sg := by rw [e65]; exact hZ
    have hB1 : v_B (s1.1 65) st me so := by rw [e65]; exact hB
    have hR := v_us_R (L := L) (sg := sg) (u := u) (v := v) (W := W) (H := H) (N := N) (day := day) (heat := heat) (st := st) (me := me) (so := so) (y := y) k
    have hk1 : d_w ((k : Int) + 1) = ((k + 1 : Nat) : Int) := by rw [d_w_id (by omega) (by omega)]; rfl
    show ∃ s', F_X12_unseen_l20_b K (F_X12_unseen_l20 K m) _ _ _ _ _ s1 = _ ∧ _
    unfold F_X12_unseen_l20_b
    rw [P_blocks hG1, d_b_t, if_pos (by omega)]
    by_cases q : v_hk sg u v W H N y k
    rotate_left
    · obtain ⟨s', r1, r2⟩ := ih (k + 1) m (by omega) (by omega) s1 hc hN
      simp only [v_us] at r1
      rw [if_neg (fun e => q e.2)] at r1
      refine ⟨s', ?_, r2⟩
      refine (v_un35 (s := s1) hG1 hZ1 hkb (f := 0) (Or.inr ⟨rfl, q⟩) N 0 d_N (by omega) (by rw [d_N_is]; have := hZ.2.1; omega) 0 (Or.inr ⟨rfl, by rintro ⟨n, h1, -⟩; omega⟩)).trans ?_
      show (if (0 : Int) = 0 then _ else _) = _
      rw [if_pos rfl, v_d0 hR, hk1]; exact r1
    by_cases q2 : so k = 0
    · obtain ⟨s2, g1, g2⟩ := P_sellsOf (s := s1) (L := L) (N := N) (sg := sg) (day := day) (heat := heat) hG1 hZ1 hkb (by rw [e65, hc.1 67 (by decide)]; exact hRT) hN hB1 (by rw [e65]; exact h9) (by rw [e65]; exact h10) hd hh
      have hc2 : v_71 s0 s2 := ⟨fun a ha => (g2.1 a ha).trans (hc.1 a ha), g2.2.1.trans hc.2.1, fun h => g2.2.2 hN⟩
      obtain ⟨s', r1, r2⟩ := ih (k + 1) m (by omega) (by omega) s2 hc2 (g2.2.2 hN)
      simp only [v_us] at r1
      rw [if_pos ⟨q2, q⟩] at r1
      refine ⟨s', ?_, r2⟩
      refine (v_un35 (s := s1) hG1 hZ1 hkb (f := 1) (Or.inl ⟨rfl, q⟩) N 0 d_N (by omega) (by rw [d_N_is]; have := hZ.2.1; omega) 0 (Or.inr ⟨rfl, by rintro ⟨n, h1, -⟩; omega⟩)).trans ?_
      show (if (1 : Int) = 0 then _ else _) = _
      rw [if_neg (by decide), P_isSold hB1 (by omega), d_b_t, if_pos (by omega), g1, d_b2_t, hk1]; exact r1
    · obtain ⟨s', r1, r2⟩ := ih (k + 1) m (by omega) (by omega) s1 hc hN
      simp only [v_us] at r1
      rw [if_neg (fun e => q2 e.1)] at r1
      refine ⟨s', ?_, r2⟩
      refine (v_un35 (s := s1) hG1 hZ1 hkb (f := 1) (Or.inl ⟨rfl, q⟩) N 0 d_N (by omega) (by rw [d_N_is]; have := hZ.2.1; omega) 0 (Or.inr ⟨rfl, by rintro ⟨n, h1, -⟩; omega⟩)).trans ?_
      show (if (1 : Int) = 0 then _ else _) = _
      rw [if_neg (by decide), P_isSold hB1 (by omega), d_b_t, if_neg (by omega), v_d0 hR, hk1]; exact r1
theorem v_un122 {K : Int → Int → Int → d_S → Option (Int × d_S)} {y : Nat} {x2 x3 : Int} (hG : v_G (s.1 65) u v W H) (hZ : v_Z (s.1 65) N sg) (hB : v_B (s.1 65) st me so) {f : Int} (hf : (f = 1 ∧ v_ks1 sg me u v W H y N) ∨ (f = 0 ∧ ¬ v_ks1 sg me u v W H y N)) : ∀ (j k m : Nat), k + j = N → j < m → ∀ c : Int, ((c = 1 ∧ v_ks1 sg me u v W H y k) ∨ (c = 0 ∧ ¬ v_ks1 sg me u v W H y k)) → F_X12_unseen_l122 K m (y : Int) x2 x3 c (k : Int) s = K x2 x3 f s := by
  intro j
  induction j with
  | zero =>
    intro k m hk hm c hc
    obtain ⟨m, rfl⟩ : ∃ q, m = q + 1 := ⟨m - 1, by omega⟩
    have hk : k = N := by omega
    subst hk
    have e : c = f := by
      rcases hc with ⟨c1, c2⟩ | ⟨c1, c2⟩ <;> rcases hf with ⟨f1, f2⟩ | ⟨f1, f2⟩
      · rw [c1, f1]
      · exact absurd c2 f2
      · exact absurd f2 c2
      · rw [c1, f1]
    show F_X12_unseen_l122_b K (F_X12_unseen_l122 K m) _ _ _ _ _ s = _
    unfold F_X12_unseen_l122_b
    rw [hZ.1, if_neg (by omega), e]
  | succ j ih =>
    intro k m hk hm c hc
    obtain ⟨m, rfl⟩ : ∃ q, m = q + 1 := ⟨m - 1, by omega⟩
    have hkN : k < N := by omega
    have hN12 := hZ.2.1
    have e0 : F_X12_sightOf s (k : Int) 0 = _ := P_sightOf hZ hkN (k := 0) (by decide)
    have stay : ¬ (sg k 0 = y ∧ v_shk sg me u v W H (v_bl u v) k) → ((c = 1 ∧ v_ks1 sg me u v W H y (k + 1)) ∨ (c = 0 ∧ ¬ v_ks1 sg me u v W H y (k + 1))) := by
      intro h
      rcases hc with ⟨c1, n, h1, h2⟩ | ⟨c1, c2⟩
      · exact Or.inl ⟨c1, n, by omega, h2⟩
      · refine Or.inr ⟨c1, ?_⟩
        rintro ⟨n, h3, h4⟩
        by_cases q : n = k
        · rw [q] at h4; exact h h4
        · exact c2 ⟨n, by omega, h4⟩
    show F_X12_unseen_l122_b K (F_X12_unseen_l122 K m) _ _ _ _ _ s = _
    unfold F_X12_unseen_l122_b
    rw [hZ.1, if_pos (by omega), e0, d_b_t, d_w_id (x := (k : Int) + 1) (by omega) (by omega)]
    by_cases q : sg k 0 = y
    rotate_left
    · rw [if_neg (by omega)]
      exact ih (k + 1) m (by omega) (by omega) c (stay (fun e => q e.1))
    rw [if_pos (by omega), P_isShowing hG hZ hB hkN, d_b_t]
    by_cases q2 : v_shk sg me u v W H (v_bl u v) k
    · rw [v_bt q2, if_neg (by decide)]
      exact ih (k + 1) m (by omega) (by omega) 1 (Or.inl ⟨rfl, k, by omega, q, q2⟩)
    · rw [v_bf q2, if_pos rfl]
      exact ih (k + 1) m (by omega) (by omega) c (stay (fun e => q2 e.2))
theorem R_unseen (h : v_R t s) {x1 x2 : Int} : v_AA t (F_X11_unseen t s x1 x2) (fun s1 => F_X12_unseen s1 x1 x2) := by
  obtain ⟨e, L, u, v, W, H, st, me, so, N, sg, day, heat, x, hG, hQ, hB, hM, hZ, hS, hE, hCT, hY, hN1, hgo, hC, hBd⟩ := h.come
  have hac := hG.ac
  have n10 : ¬ (1 : Int) = 0 := by decide
  by_cases c1 : 0 ≤ x1 ∧ x1 ≤ 9
  rotate_left
  · refine v_AA.same h (-1) ?_ ?_
    · unfold F_X11_unseen; rw [P_within, d_b_t, v_bf c1, if_pos rfl]
    · show F_X12_unseen s x1 x2 = _; unfold F_X12_unseen; rw [P_isIn, d_b_t, v_bf c1, if_pos rfl]
  obtain ⟨y, rfl⟩ : ∃ y : Nat, x1 = y := ⟨x1.toNat, by omega⟩
  have hcf : v_cf s s := ⟨fun _ _ _ _ => rfl, fun _ _ => rfl, hN1⟩
  obtain ⟨g1, g2, g3, g4, ⟨g5, g6, g7⟩, g8, g9, g10⟩ := hgo
  
  have ref : ∀ s1, v_cf s s1 → ∃ s2, F_X12_unseen s1 (y : Int) x2 = some ((if x2 = 0 then v_us L sg u v W H N day heat st me so y (v_bl u v) else v_b (v_ks1 sg me u v W H y N)), s2) ∧ v_71 s1 s2 := fun s1 hc => by
    have e65 : s1.1 65 = s.1 65 := hc.1 65 (by decide) (by decide) (by decide)
    have e67 : s1.1 67 = s.1 67 := hc.1 67 (by decide) (by decide) (by decide)
    have e71 : s1.1 71 = s.1 71 := hc.1 71 (by decide) (by decide) (by decide)
    obtain ⟨s2, r1, r2, r3⟩ := v_un20 (s0 := s1) (L := L) (K := fun x1_u9 x2_u9 x3_u9 x4_u9 s_u9 => F_X12_unseen_l122 (fun x2_u12 x3_u12 x4_u12 s_u12 => if x2_u12 = 0 then some (x3_u12, s_u12) else some (x4_u12, s_u12)) d_N x1_u9 x2_u9 x3_u9 x4_u9 0 s_u9) (day := day) (heat := heat) (st := st) (me := me) (so := so) (N := N) (sg := sg) (y := y) (x2 := x2) (x4 := 0) (by rw [e65]; exact hG) (by rw [e65]; exact hZ) (by rw [e65]; exact hB) (by rw [e65, e67]; exact g2) (by rw [e65]; exact g5) (by rw [e65]; exact g6) (by omega) (by omega) (v_bl u v) 0 d_N (by omega) (by rw [d_N_is]; omega) s1 ⟨fun _ _ => rfl, rfl, fun h => h⟩ (by rw [e71]; exact g3)
    have e652 : s2.1 65 = s.1 65 := (r2.1 65 (by decide)).trans e65
    refine ⟨s2, ?_, r2⟩
    unfold F_X12_unseen
    rw [P_isIn, d_b_t, v_bt c1, if_neg n10]
    refine (show F_X12_unseen_l20 _ d_N (y : Int) x2 0 0 0 s1 = _ from r1).trans ?_
    refine (v_un122 (s := s2) (me := me) (so := so) (st := st) (sg := sg) (N := N) (by rw [e652]; exact hG) (by rw [e652]; exact hZ) (by rw [e652]; exact hB) (f := v_b (v_ks1 sg me u v W H y N)) (by
      by_cases q : v_ks1 sg me u v W H y N
      · exact Or.inl ⟨v_bt q, q⟩
      · exact Or.inr ⟨v_bf q, q⟩) N 0 d_N (by omega) (by rw [d_N_is]; have := hZ.2.1; omega) 0 (Or.inr ⟨rfl, by rintro ⟨n, h1, -⟩; omega⟩)).trans ?_
    show (if x2 = 0 then _ else _) = _
    by_cases q : x2 = 0
    · rw [if_pos q, if_pos q]
    · rw [if_neg q, if_neg q]
  by_cases c2 : x2 = 0
  · obtain ⟨s1, a1, a2⟩ := v_unCl (L := L) (N := N) (sg := sg) (y := y) hM hQ hS hE hCT hY (v_bl u v) 0 d_N (by omega) (by rw [d_N_is]; omega) s hcf
    obtain ⟨s2, b1, b2⟩ := ref s1 a2
    refine ⟨_, s1, s2, ?_, b1, h.scr2 a2.1 a2.2.1 b2 a2.2.2⟩
    unfold F_X11_unseen
    rw [P_within, d_b_t, v_bt c1, if_neg n10, P_sightsOf hS, d_b_t, if_pos c2, if_pos c2]
    exact a1
  · obtain ⟨s2, b1, b2⟩ := ref s hcf
    refine ⟨_, s, s2, ?_, b1, h.scr2 hcf.1 hcf.2.1 b2 hN1⟩
    have l1 : v_sb (v_shk sg me u v W H (v_bl u v)) N < 4096 := v_sb12 hS.2.1
    have l2 : v_sb (fun n => sg n 0 = y) N < 4096 := v_sb12 hS.2.1
    unfold F_X11_unseen
    rw [P_within, d_b_t, v_bt c1, if_neg n10, P_sightsOf hS, d_b_t, if_neg c2, if_neg c2, P_showingNow hQ hS hM, d_b_t, v_and (by omega) (by omega)]
    have hand : v_sb (v_shk sg me u v W H (v_bl u v)) N &&& v_sb (fun n => sg n 0 = y) N = 0 ↔ ¬ v_ks1 sg me u v W H y N := by
      rw [v_sb_and]
      exact ⟨fun h => by rintro ⟨n, h1, h2, h3⟩; exact h n h1 ⟨h3, h2⟩, fun h n h1 h2 => h ⟨n, h1, h2.2, h2.1⟩⟩
    by_cases q : v_ks1 sg me u v W H y N
    · rw [v_bt q, if_neg (fun e => hand.1 (by omega) q), v_bit1_, d_b_t]
    · rw [v_bf q, if_pos (by have := hand.2 q; omega), v_bit0_, d_b_t]
end V39

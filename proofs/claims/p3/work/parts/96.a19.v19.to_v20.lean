theorem v_one {s : d_S} {a k : Nat} {x : Int} {j : Nat} : (d_si s a k x).1 a j = d_u (s.1 a) k x j := by rw [d_si_i]
section V19
variable {s : d_S} {t : Nat → Option p_C} {f f' : Nat → Nat → Int} {A A' : Nat → Int} {o o' : Nat}
theorem v_Wp.cp (h : v_Wp f o A) (h12 : A 0 ≤ 12) (e : ∀ k, k < 7 → k ≠ 4 → f' (3 + o') k = f (3 + o) k) (e4 : ∀ k, k < 72 → f' (4 + o') k = f (4 + o) k) (hA : ∀ j, j < 2517 → A' j = A j) : v_Wp f' o' A' := by
  obtain ⟨⟨a, b, c, d, g, i⟩, h2⟩ := h
  unfold v_Wp
  rw [e 0 (by decide) (by decide), e 1 (by decide) (by decide), e 2 (by decide) (by decide), e 3 (by decide) (by decide), e 5 (by decide) (by decide), e 6 (by decide) (by decide), hA 16 (by decide), hA 17 (by decide), hA 18 (by decide), hA 0 (by decide), hA 1 (by decide), hA 2 (by decide)]
  refine ⟨⟨a, b, c, d, g, i⟩, fun n k hn hk => ?_⟩
  rw [hA _ (by omega), e4 _ (by omega)]
  exact h2 n k hn hk
theorem v_Wy.cp (h : v_Wy f o A) (e6 : ∀ k, k < 7 → f' (6 + o') k = f (6 + o) k) (e7 : ∀ k, k < 64 → f' (7 + o') k = f (7 + o) k) (hA : ∀ j, j < 2517 → A' j = A j) : v_Wy f' o' A' := by
  obtain ⟨h1, h2⟩ := h
  refine ⟨fun i hi => ?_, fun b hb => ?_⟩
  · rw [hA _ (by have := v_mu7 i hi; omega), e6 i hi]; exact h1 i hi
  · rw [hA _ (by omega), hA _ (by omega), hA _ (by omega), e7 b hb]; exact h2 b hb
theorem v_Sx.R {R R' : Nat → Int} {n c W H : Nat} (h : v_Sx R n c A W H) (hR : ∀ k, k < 2130 → R' k = R k) (hA : ∀ j, j < 2517 → A' j = A j) : v_Sx R' n c A' W H := by
  obtain ⟨a, b, d, e⟩ := h
  refine ⟨a, b, (hA 3 (by decide)).trans d, fun j hj => (e j hj).fr (fun k hk => hR _ (by omega)) (fun k hk => hA _ (by omega))⟩
theorem v_Ws.cp (h : v_Ws f o A) (e1 : f' (8 + o') 1 = f (8 + o) 1) (e2 : f' (8 + o') 2 = f (8 + o) 2) (e9 : ∀ k, k < 2130 → f' (9 + o') k = f (9 + o) k) (hA : ∀ j, j < 2517 → A' j = A j) : v_Ws f' o' A' := by
  obtain ⟨n, c, a, b, d⟩ := h
  refine ⟨n, c, e1.trans a, e2.trans b, ?_⟩
  have : v_wi A' = v_wi A ∧ v_hi A' = v_hi A := by unfold v_wi v_hi; rw [hA 16 (by decide), hA 17 (by decide)]; exact ⟨rfl, rfl⟩
  rw [this.1, this.2]
  exact d.R e9 hA
theorem v_Wt.cp (h : v_Wt f o A) (hI : v_It A) (hm : f' (10 + o') 0 = 5 ∧ f' (12 + o') 0 = 8 ∧ f' (14 + o') 0 = 8 ∧ f' (16 + o') 0 = 8 ∧ f' (18 + o') 0 = 8) (hc : f' (10 + o') 2 = f (10 + o) 2 ∧ f' (12 + o') 2 = f (12 + o) 2 ∧ f' (14 + o') 2 = f (14 + o) 2 ∧ f' (16 + o') 2 = f (16 + o) 2 ∧ f' (18 + o') 2 = f (18 + o) 2) (hr : ∀ k, k < 32 → f' (11 + o') k = f (11 + o) k ∧ f' (13 + o') k = f (13 + o) k ∧ f' (15 + o') k = f (15 + o) k ∧ f' (17 + o') k = f (17 + o) k ∧ f' (19 + o') k = f (19 + o) k) (hA : ∀ j, j < 2517 → A' j = A j) : v_Wt f' o' A' := by
  obtain ⟨-, ⟨b1, b2⟩, ⟨c1, c2⟩, ⟨d1, d2⟩, ⟨e1, e2⟩, g1, g2⟩ := h
  obtain ⟨-, -, i4, i5, i6, i7, i8, -⟩ := hI
  unfold v_Wt
  rw [hc.1, hc.2.1, hc.2.2.1, hc.2.2.2.1, hc.2.2.2.2, hA 4 (by decide), hA 5 (by decide), hA 6 (by decide), hA 7 (by decide), hA 8 (by decide)]
  refine ⟨hm, ⟨b1, fun j i hj hi => ?_⟩, ⟨c1, fun j i hj hi => ?_⟩, ⟨d1, fun j hj => ?_⟩, ⟨e1, fun j i hj hi => ?_⟩, g1, fun j i hj hi => ?_⟩
  · rw [hA _ (by omega), (hr _ (by omega)).1]; exact b2 j i hj hi
  · rw [hA _ (by omega), (hr _ (by omega)).2.1]; exact c2 j i hj hi
  · rw [hA _ (by omega), (hr _ (by omega)).2.2.1]; exact d2 j hj
  · rw [hA _ (by omega), (hr _ (by omega)).2.2.2.1]; exact e2 j i hj hi
  · rw [hA _ (by omega), (hr _ (by omega)).2.2.2.2]; exact g2 j i hj hi
theorem v_I.cp (h : v_I A) (hA : ∀ j, j < 2517 → A' j = A j) : v_I A' := by
  obtain ⟨a, b, c, d⟩ := h
  have ew : v_wi A' = v_wi A := by unfold v_wi; rw [hA 16 (by decide)]
  have eh : v_hi A' = v_hi A := by unfold v_hi; rw [hA 17 (by decide)]
  refine ⟨a.fr (fun j hj => hA j (by omega)), b.fr (fun j h1 h2 => hA j (by omega)), c.fr (fun j hj => hA j (by omega)), ?_⟩
  rw [ew, eh]
  obtain ⟨b0, b1, b3, b4, u, v, b5, b6, b7⟩ := d
  refine ⟨?_, ?_, ?_, ?_, u, v, ?_, ?_, b7⟩
  · show 0 ≤ A' 9 ∧ A' 9 ≤ 999; rw [hA 9 (by decide)]; exact b0
  · show 0 ≤ A' 10 ∧ A' 10 ≤ 9; rw [hA 10 (by decide)]; exact b1
  · show 0 ≤ A' 12 ∧ A' 12 ≤ 99; rw [hA 12 (by decide)]; exact b3
  · show 0 ≤ A' 13 ∧ A' 13 < 30293; rw [hA 13 (by decide)]; exact b4
  · show A' 14 = _; rw [hA 14 (by decide)]; exact b5
  · show A' 15 = _; rw [hA 15 (by decide)]; exact b6
theorem P_bY20_3 : ∃ z, F_X10_become_23_6 s = some z ∧ (∀ k, k < 7 → z.1 23 k = s.1 6 k) ∧ (∀ k, k < 64 → z.1 24 k = s.1 7 k) ∧ (∀ a, a ≠ 23 → a ≠ 24 → z.1 a = s.1 a) ∧ z.2 = s.2 := by
  refine ⟨_, rfl, fun k hk => ?_, fun k hk => ?_, fun a h1 h2 => ?_, rfl⟩
  · have : k = 0 ∨ k = 1 ∨ k = 2 ∨ k = 3 ∨ k = 4 ∨ k = 5 ∨ k = 6 := by omega
    simp (disch := decide) only [d_cp_n, d_si_n, d_si_i]
    rcases this with rfl | rfl | rfl | rfl | rfl | rfl | rfl <;> rfl
  · rw [d_cp_i, if_pos (by omega), show 0 + k - 0 = k by omega]
    simp (disch := decide) only [d_si_n]
  · rw [d_cp_n h2, d_si_n h1, d_si_n h1, d_si_n h1, d_si_n h1, d_si_n h1, d_si_n h1, d_si_n h1]
theorem P_bS20_3 : ∃ z, F_X6_become_25_8 s = some z ∧ (z.1 25 1 = s.1 8 1 ∧ z.1 25 2 = s.1 8 2) ∧ (∀ k, k < 2130 → z.1 26 k = s.1 9 k) ∧ (∀ a, a ≠ 25 → a ≠ 26 → z.1 a = s.1 a) ∧ z.2 = s.2 := by
  refine ⟨_, rfl, ⟨?_, ?_⟩, fun k hk => ?_, fun a h1 h2 => ?_, rfl⟩
  · simp (disch := decide) only [d_cp_n, d_si_n, d_si_i]
    rfl
  · simp (disch := decide) only [d_cp_n, d_si_n, d_si_i]
    rfl
  · rw [d_cp_i, if_pos (by omega), show 0 + k - 0 = k by omega]
    simp (disch := decide) only [d_si_n]
  · rw [d_cp_n h2, d_si_n h1, d_si_n h1]
theorem P_bT10_20_3 : ∃ z, F_X8_become_27_10 s = some z ∧ (z.1 27 2 = s.1 10 2 ∧ z.1 27 0 = s.1 27 0) ∧ (∀ k, k < 32 → z.1 28 k = s.1 11 k) ∧ (∀ a, a ≠ 27 → a ≠ 28 → z.1 a = s.1 a) ∧ z.2 = s.2 := by
  refine ⟨_, rfl, ⟨?_, ?_⟩, fun k hk => ?_, fun a h1 h2 => ?_, rfl⟩
  · simp (disch := decide) only [d_cp_n, d_si_n, d_si_i]
    rfl
  · simp (disch := decide) only [d_cp_n, d_si_n, d_si_i]
    rfl
  · rw [d_cp_i, if_pos (by omega), show 0 + k - 0 = k by omega]
    simp (disch := decide) only [d_si_n]
  · rw [d_cp_n h2, d_si_n h1]
theorem P_bT12_20_3 : ∃ z, F_X8_become_29_12 s = some z ∧ (z.1 29 2 = s.1 12 2 ∧ z.1 29 0 = s.1 29 0) ∧ (∀ k, k < 32 → z.1 30 k = s.1 13 k) ∧ (∀ a, a ≠ 29 → a ≠ 30 → z.1 a = s.1 a) ∧ z.2 = s.2 := by
  refine ⟨_, rfl, ⟨?_, ?_⟩, fun k hk => ?_, fun a h1 h2 => ?_, rfl⟩
  · simp (disch := decide) only [d_cp_n, d_si_n, d_si_i]
    rfl
  · simp (disch := decide) only [d_cp_n, d_si_n, d_si_i]
    rfl
  · rw [d_cp_i, if_pos (by omega), show 0 + k - 0 = k by omega]
    simp (disch := decide) only [d_si_n]
  · rw [d_cp_n h2, d_si_n h1]
theorem P_bT14_20_3 : ∃ z, F_X8_become_31_14 s = some z ∧ (z.1 31 2 = s.1 14 2 ∧ z.1 31 0 = s.1 31 0) ∧ (∀ k, k < 32 → z.1 32 k = s.1 15 k) ∧ (∀ a, a ≠ 31 → a ≠ 32 → z.1 a = s.1 a) ∧ z.2 = s.2 := by
  refine ⟨_, rfl, ⟨?_, ?_⟩, fun k hk => ?_, fun a h1 h2 => ?_, rfl⟩
  · simp (disch := decide) only [d_cp_n, d_si_n, d_si_i]
    rfl
  · simp (disch := decide) only [d_cp_n, d_si_n, d_si_i]
    rfl
  · rw [d_cp_i, if_pos (by omega), show 0 + k - 0 = k by omega]
    simp (disch := decide) only [d_si_n]
  · rw [d_cp_n h2, d_si_n h1]
theorem P_bT16_20_3 : ∃ z, F_X8_become_33_16 s = some z ∧ (z.1 33 2 = s.1 16 2 ∧ z.1 33 0 = s.1 33 0) ∧ (∀ k, k < 32 → z.1 34 k = s.1 17 k) ∧ (∀ a, a ≠ 33 → a ≠ 34 → z.1 a = s.1 a) ∧ z.2 = s.2 := by
  refine ⟨_, rfl, ⟨?_, ?_⟩, fun k hk => ?_, fun a h1 h2 => ?_, rfl⟩
  · simp (disch := decide) only [d_cp_n, d_si_n, d_si_i]
    rfl
  · simp (disch := decide) only [d_cp_n, d_si_n, d_si_i]
    rfl
  · rw [d_cp_i, if_pos (by omega), show 0 + k - 0 = k by omega]
    simp (disch := decide) only [d_si_n]
  · rw [d_cp_n h2, d_si_n h1]
theorem P_bT18_20_3 : ∃ z, F_X8_become_35_18 s = some z ∧ (z.1 35 2 = s.1 18 2 ∧ z.1 35 0 = s.1 35 0) ∧ (∀ k, k < 32 → z.1 36 k = s.1 19 k) ∧ (∀ a, a ≠ 35 → a ≠ 36 → z.1 a = s.1 a) ∧ z.2 = s.2 := by
  refine ⟨_, rfl, ⟨?_, ?_⟩, fun k hk => ?_, fun a h1 h2 => ?_, rfl⟩
  · simp (disch := decide) only [d_cp_n, d_si_n, d_si_i]
    rfl
  · simp (disch := decide) only [d_cp_n, d_si_n, d_si_i]
    rfl
  · rw [d_cp_i, if_pos (by omega), show 0 + k - 0 = k by omega]
    simp (disch := decide) only [d_si_n]
  · rw [d_cp_n h2, d_si_n h1]
theorem v_tx20_3 {K : d_S → Option d_S} : ∃ z, F_X9_become_20_3_l68 K d_N 0 s = K z ∧ (∀ k, k < 4 → z.2.1 22 k = s.2.1 5 k) ∧ (∀ a, a ≠ 22 → z.2.1 a = s.2.1 a) ∧ z.1 = s.1 := by
  have hl : ∀ (j k m : Nat), k + j = 4 → j < m → ∀ s1 : d_S, s1.1 = s.1 → (∀ a, a ≠ 22 → s1.2.1 a = s.2.1 a) → (∀ i, i < k → s1.2.1 22 i = s.2.1 5 i) → ∃ z, F_X9_become_20_3_l68 K m (k : Int) s1 = K z ∧ (∀ k, k < 4 → z.2.1 22 k = s.2.1 5 k) ∧ (∀ a, a ≠ 22 → z.2.1 a = s.2.1 a) ∧ z.1 = s.1 := by
    intro j
    induction j with
    | zero =>
      intro k m hk hm s1 h1 h2 h3
      obtain ⟨m, rfl⟩ : ∃ q, m = q + 1 := ⟨m - 1, by omega⟩
      have hk : k = 4 := by omega
      subst hk
      refine ⟨s1, ?_, h3, h2, h1⟩
      show F_X9_become_20_3_l68_b K (F_X9_become_20_3_l68 K m) _ s1 = _
      unfold F_X9_become_20_3_l68_b
      rw [if_neg (by omega)]
    | succ j ih =>
      intro k m hk hm s1 h1 h2 h3
      obtain ⟨m, rfl⟩ : ∃ q, m = q + 1 := ⟨m - 1, by omega⟩
      obtain ⟨z, r1, r2⟩ := ih (k + 1) m (by omega) (by omega) (d_sp s1 22 k (s.2.1 5 k)) h1 (fun a ha => (d_u_n ha).trans (h2 a ha)) (fun i hi => by
        show d_u s1.2.1 22 (d_u (s1.2.1 22) k (s.2.1 5 k)) 22 i = _
        rw [d_u_t]
        by_cases q : i = k
        · subst q; rw [d_u_t]
        · rw [d_u_n q]; exact h3 i (by omega))
      refine ⟨z, ?_, r2⟩
      show F_X9_become_20_3_l68_b K (F_X9_become_20_3_l68 K m) _ s1 = _
      unfold F_X9_become_20_3_l68_b
      rw [if_pos (by omega), d_g_t (by omega), d_g_t (by omega), d_l_t, Int.toNat_natCast, h2 5 (by decide), d_w_id (by omega) (by omega)]
      exact r1
  exact hl 4 0 d_N rfl (by rw [d_N_is]; decide) s rfl (fun _ _ => rfl) (fun i hi => absurd hi (Nat.not_lt_zero i))
theorem P_become20_3 (hb : s.1 3 2 = 0 ∨ s.1 3 2 = 1) : ∃ z, F_X9_become_20_3 s = some z ∧ (∀ k, k < 7 → k ≠ 4 → z.1 20 k = s.1 3 k) ∧ (∀ k, k < 72 → z.1 21 k = s.1 4 k) ∧ (∀ k, k < 7 → z.1 23 k = s.1 6 k) ∧ (∀ k, k < 64 → z.1 24 k = s.1 7 k) ∧ (z.1 25 1 = s.1 8 1 ∧ z.1 25 2 = s.1 8 2) ∧ (∀ k, k < 2130 → z.1 26 k = s.1 9 k) ∧ (z.1 27 0 = s.1 27 0 ∧ z.1 29 0 = s.1 29 0 ∧ z.1 31 0 = s.1 31 0 ∧ z.1 33 0 = s.1 33 0 ∧ z.1 35 0 = s.1 35 0) ∧ (z.1 27 2 = s.1 10 2 ∧ z.1 29 2 = s.1 12 2 ∧ z.1 31 2 = s.1 14 2 ∧ z.1 33 2 = s.1 16 2 ∧ z.1 35 2 = s.1 18 2) ∧ (∀ k, k < 32 → z.1 28 k = s.1 11 k ∧ z.1 30 k = s.1 13 k ∧ z.1 32 k = s.1 15 k ∧ z.1 34 k = s.1 17 k ∧ z.1 36 k = s.1 19 k) ∧ (∀ a, (a < 20 ∨ 36 < a) → z.1 a = s.1 a) ∧ (∀ k, k < 4 → z.2.1 22 k = s.2.1 5 k) ∧ ∀ a, a ≠ 22 → z.2.1 a = s.2.1 a := by
  obtain ⟨z0, hz0⟩ : ∃ z, z = d_si (d_si (d_cp (d_si (d_si (d_si (d_si s 20 0 (s.1 3 0)) 20 1 (s.1 3 1)) 20 2 (s.1 3 2)) 20 3 (s.1 3 3)) 4 0 21 0 72) 20 5 (s.1 3 5)) 20 6 (s.1 3 6) := ⟨_, rfl⟩
  have a0 : ∀ a, a ≠ 20 → a ≠ 21 → z0.1 a = s.1 a := fun a h1 h2 => by rw [hz0, d_si_n h1, d_si_n h1, d_cp_n h2, d_si_n h1, d_si_n h1, d_si_n h1, d_si_n h1]
  have b0 : ∀ k, k < 7 → k ≠ 4 → z0.1 20 k = s.1 3 k := fun k hk h4 => by
    have : k = 0 ∨ k = 1 ∨ k = 2 ∨ k = 3 ∨ k = 5 ∨ k = 6 := by omega
    rw [hz0, d_si_i, d_si_i, d_cp_n (by decide), d_si_i, d_si_i, d_si_i, d_si_i]
    rcases this with rfl | rfl | rfl | rfl | rfl | rfl <;> rfl
  have c0 : ∀ k, k < 72 → z0.1 21 k = s.1 4 k := fun k hk => by
    rw [hz0, d_si_n (by decide), d_si_n (by decide), d_cp_i, if_pos (by omega), show 0 + k - 0 = k by omega]
    simp (disch := decide) only [d_si_n]
  have e0 : z0.2 = s.2 := by rw [hz0]; rfl
  obtain ⟨z1, h1, t1, t2, t3⟩ := v_tx20_3 (s := z0) (K := fun s_u12 => d_b (F_X10_become_23_6 s_u12) (fun s13 => d_b (F_X6_become_25_8 s13) (fun s14 => d_b (F_X8_become_27_10 s14) (fun s15 => d_b (F_X8_become_29_12 s15) (fun s16 => d_b (F_X8_become_31_14 s16) (fun s17 => d_b (F_X8_become_33_16 s17) (fun s18 => d_b (F_X8_become_35_18 s18) (fun s19 => some s19))))))))
  obtain ⟨z2, y1, y2, y3, y4, y5⟩ := P_bY20_3 (s := z1)
  obtain ⟨z3, p1, p2, p3, p4, p5⟩ := P_bS20_3 (s := z2)
  obtain ⟨z4, q01, q02, q03, q04, q05⟩ := P_bT10_20_3 (s := z3)
  obtain ⟨z5, q11, q12, q13, q14, q15⟩ := P_bT12_20_3 (s := z4)
  obtain ⟨z6, q21, q22, q23, q24, q25⟩ := P_bT14_20_3 (s := z5)
  obtain ⟨z7, q31, q32, q33, q34, q35⟩ := P_bT16_20_3 (s := z6)
  obtain ⟨z8, q41, q42, q43, q44, q45⟩ := P_bT18_20_3 (s := z7)
  have hgo : F_X9_become_20_3 s = some z8 := by
    unfold F_X9_become_20_3
    rw [d_l_t, d_l_t, d_si_n (show 3 ≠ 20 by decide), d_si_n (show 3 ≠ 20 by decide), d_g_t hb]
    simp (disch := decide) only [d_l_t, d_si_n, d_cp_n]
    rw [← hz0]
    refine h1.trans ?_
    show d_b (F_X10_become_23_6 z1) _ = _
    rw [y1, d_b_t, p1, d_b_t, q01, d_b_t, q11, d_b_t, q21, d_b_t, q31, d_b_t, q41, d_b_t]
  have f3 : ∀ a, a ≠ 23 → a ≠ 24 → a ≠ 25 → a ≠ 26 → z3.1 a = z0.1 a := fun a h1 h2 h3 h4 => by rw [p4 a h3 h4, y4 a h1 h2, t3]
  have f8 : ∀ a, a ≠ 27 → a ≠ 28 → a ≠ 29 → a ≠ 30 → a ≠ 31 → a ≠ 32 → a ≠ 33 → a ≠ 34 → a ≠ 35 → a ≠ 36 → z8.1 a = z3.1 a := fun a h0 h1 h2 h3 h4 h5 h6 h7 h8 h9 => by rw [q44 a h8 h9, q34 a h6 h7, q24 a h4 h5, q14 a h2 h3, q04 a h0 h1]
  refine ⟨z8, hgo, fun k hk h4 => ?_, fun k hk => ?_, fun k hk => ?_, fun k hk => ?_, ⟨?_, ?_⟩, fun k hk => ?_, ⟨?_, ?_, ?_, ?_, ?_⟩, ⟨?_, ?_, ?_, ?_, ?_⟩, fun k hk => ⟨?_, ?_, ?_, ?_, ?_⟩, fun a ha => ?_, fun k hk => ?_, fun a ha => ?_⟩
  · rw [f8 20 (by decide) (by decide) (by decide) (by decide) (by decide) (by decide) (by decide) (by decide) (by decide) (by decide), f3 20 (by decide) (by decide) (by decide) (by decide)]; exact b0 k hk h4
  · rw [f8 21 (by decide) (by decide) (by decide) (by decide) (by decide) (by decide) (by decide) (by decide) (by decide) (by decide), f3 21 (by decide) (by decide) (by decide) (by decide)]; exact c0 k hk
  · rw [f8 23 (by decide) (by decide) (by decide) (by decide) (by decide) (by decide) (by decide) (by decide) (by decide) (by decide), p4 23 (by decide) (by decide), y2 k hk, t3, a0 6 (by decide) (by decide)]
  · rw [f8 24 (by decide) (by decide) (by decide) (by decide) (by decide) (by decide) (by decide) (by decide) (by decide) (by decide), p4 24 (by decide) (by decide), y3 k hk, t3, a0 7 (by decide) (by decide)]
  · rw [f8 25 (by decide) (by decide) (by decide) (by decide) (by decide) (by decide) (by decide) (by decide) (by decide) (by decide), p2.1, y4 8 (by decide) (by decide), t3, a0 8 (by decide) (by decide)]
  · rw [f8 25 (by decide) (by decide) (by decide) (by decide) (by decide) (by decide) (by decide) (by decide) (by decide) (by decide), p2.2, y4 8 (by decide) (by decide), t3, a0 8 (by decide) (by decide)]
  · rw [f8 26 (by decide) (by decide) (by decide) (by decide) (by decide) (by decide) (by decide) (by decide) (by decide) (by decide), p3 k hk, y4 9 (by decide) (by decide), t3, a0 9 (by decide) (by decide)]
  · rw [q44 27 (by decide) (by decide), q34 27 (by decide) (by decide), q24 27 (by decide) (by decide), q14 27 (by decide) (by decide), q02.2, f3 27 (by decide) (by decide) (by decide) (by decide), a0 27 (by decide) (by decide)]
  · rw [q44 29 (by decide) (by decide), q34 29 (by decide) (by decide), q24 29 (by decide) (by decide), q12.2, q04 29 (by decide) (by decide), f3 29 (by decide) (by decide) (by decide) (by decide), a0 29 (by decide) (by decide)]
  · rw [q44 31 (by decide) (by decide), q34 31 (by decide) (by decide), q22.2, q14 31 (by decide) (by decide), q04 31 (by decide) (by decide), f3 31 (by decide) (by decide) (by decide) (by decide), a0 31 (by decide) (by decide)]
  · rw [q44 33 (by decide) (by decide), q32.2, q24 33 (by decide) (by decide), q14 33 (by decide) (by decide), q04 33 (by decide) (by decide), f3 33 (by decide) (by decide) (by decide) (by decide), a0 33 (by decide) (by decide)]
  · rw [q42.2, q34 35 (by decide) (by decide), q24 35 (by decide) (by decide), q14 35 (by decide) (by decide), q04 35 (by decide) (by decide), f3 35 (by decide) (by decide) (by decide) (by decide), a0 35 (by decide) (by decide)]
  · rw [q44 27 (by decide) (by decide), q34 27 (by decide) (by decide), q24 27 (by decide) (by decide), q14 27 (by decide) (by decide), q02.1, f3 10 (by decide) (by decide) (by decide) (by decide), a0 10 (by decide) (by decide)]
  · rw [q44 29 (by decide) (by decide), q34 29 (by decide) (by decide), q24 29 (by decide) (by decide), q12.1, q04 12 (by decide) (by decide), f3 12 (by decide) (by decide) (by decide) (by decide), a0 12 (by decide) (by decide)]
  · rw [q44 31 (by decide) (by decide), q34 31 (by decide) (by decide), q22.1, q14 14 (by decide) (by decide), q04 14 (by decide) (by decide), f3 14 (by decide) (by decide) (by decide) (by decide), a0 14 (by decide) (by decide)]
  · rw [q44 33 (by decide) (by decide), q32.1, q24 16 (by decide) (by decide), q14 16 (by decide) (by decide), q04 16 (by decide) (by decide), f3 16 (by decide) (by decide) (by decide) (by decide), a0 16 (by decide) (by decide)]
  · rw [q42.1, q34 18 (by decide) (by decide), q24 18 (by decide) (by decide), q14 18 (by decide) (by decide), q04 18 (by decide) (by decide), f3 18 (by decide) (by decide) (by decide) (by decide), a0 18 (by decide) (by decide)]
  · rw [q44 28 (by decide) (by decide), q34 28 (by decide) (by decide), q24 28 (by decide) (by decide), q14 28 (by decide) (by decide), q03 k hk, f3 11 (by decide) (by decide) (by decide) (by decide), a0 11 (by decide) (by decide)]
  · rw [q44 30 (by decide) (by decide), q34 30 (by decide) (by decide), q24 30 (by decide) (by decide), q13 k hk, q04 13 (by decide) (by decide), f3 13 (by decide) (by decide) (by decide) (by decide), a0 13 (by decide) (by decide)]
  · rw [q44 32 (by decide) (by decide), q34 32 (by decide) (by decide), q23 k hk, q14 15 (by decide) (by decide), q04 15 (by decide) (by decide), f3 15 (by decide) (by decide) (by decide) (by decide), a0 15 (by decide) (by decide)]
  · rw [q44 34 (by decide) (by decide), q33 k hk, q24 17 (by decide) (by decide), q14 17 (by decide) (by decide), q04 17 (by decide) (by decide), f3 17 (by decide) (by decide) (by decide) (by decide), a0 17 (by decide) (by decide)]
  · rw [q43 k hk, q34 19 (by decide) (by decide), q24 19 (by decide) (by decide), q14 19 (by decide) (by decide), q04 19 (by decide) (by decide), f3 19 (by decide) (by decide) (by decide) (by decide), a0 19 (by decide) (by decide)]
  · rw [f8 a (by omega) (by omega) (by omega) (by omega) (by omega) (by omega) (by omega) (by omega) (by omega) (by omega), f3 a (by omega) (by omega) (by omega) (by omega), a0 a (by omega) (by omega)]
  · rw [q45, q35, q25, q15, q05, p5, y5, t1 k hk, e0]
  · rw [q45, q35, q25, q15, q05, p5, y5, t2 a ha, e0]
theorem P_bY3_20 : ∃ z, F_X10_become_6_23 s = some z ∧ (∀ k, k < 7 → z.1 6 k = s.1 23 k) ∧ (∀ k, k < 64 → z.1 7 k = s.1 24 k) ∧ (∀ a, a ≠ 6 → a ≠ 7 → z.1 a = s.1 a) ∧ z.2 = s.2 := by
  refine ⟨_, rfl, fun k hk => ?_, fun k hk => ?_, fun a h1 h2 => ?_, rfl⟩
  · have : k = 0 ∨ k = 1 ∨ k = 2 ∨ k = 3 ∨ k = 4 ∨ k = 5 ∨ k = 6 := by omega
    simp (disch := decide) only [d_cp_n, d_si_n, d_si_i]
    rcases this with rfl | rfl | rfl | rfl | rfl | rfl | rfl <;> rfl
  · rw [d_cp_i, if_pos (by omega), show 0 + k - 0 = k by omega]
    simp (disch := decide) only [d_si_n]
  · rw [d_cp_n h2, d_si_n h1, d_si_n h1, d_si_n h1, d_si_n h1, d_si_n h1, d_si_n h1, d_si_n h1]
theorem P_bS3_20 : ∃ z, F_X6_become_8_25 s = some z ∧ (z.1 8 1 = s.1 25 1 ∧ z.1 8 2 = s.1 25 2) ∧ (∀ k, k < 2130 → z.1 9 k = s.1 26 k) ∧ (∀ a, a ≠ 8 → a ≠ 9 → z.1 a = s.1 a) ∧ z.2 = s.2 := by
  refine ⟨_, rfl, ⟨?_, ?_⟩, fun k hk => ?_, fun a h1 h2 => ?_, rfl⟩
  · simp (disch := decide) only [d_cp_n, d_si_n, d_si_i]
    rfl
  · simp (disch := decide) only [d_cp_n, d_si_n, d_si_i]
    rfl
  · rw [d_cp_i, if_pos (by omega), show 0 + k - 0 = k by omega]
    simp (disch := decide) only [d_si_n]
  · rw [d_cp_n h2, d_si_n h1, d_si_n h1]
theorem P_bT10_3_20 : ∃ z, F_X8_become_10_27 s = some z ∧ (z.1 10 2 = s.1 27 2 ∧ z.1 10 0 = s.1 10 0) ∧ (∀ k, k < 32 → z.1 11 k = s.1 28 k) ∧ (∀ a, a ≠ 10 → a ≠ 11 → z.1 a = s.1 a) ∧ z.2 = s.2 := by
  refine ⟨_, rfl, ⟨?_, ?_⟩, fun k hk => ?_, fun a h1 h2 => ?_, rfl⟩
  · simp (disch := decide) only [d_cp_n, d_si_n, d_si_i]
    rfl
  · simp (disch := decide) only [d_cp_n, d_si_n, d_si_i]
    rfl
  · rw [d_cp_i, if_pos (by omega), show 0 + k - 0 = k by omega]
    simp (disch := decide) only [d_si_n]
  · rw [d_cp_n h2, d_si_n h1]
theorem P_bT12_3_20 : ∃ z, F_X8_become_12_29 s = some z ∧ (z.1 12 2 = s.1 29 2 ∧ z.1 12 0 = s.1 12 0) ∧ (∀ k, k < 32 → z.1 13 k = s.1 30 k) ∧ (∀ a, a ≠ 12 → a ≠ 13 → z.1 a = s.1 a) ∧ z.2 = s.2 := by
  refine ⟨_, rfl, ⟨?_, ?_⟩, fun k hk => ?_, fun a h1 h2 => ?_, rfl⟩
  · simp (disch := decide) only [d_cp_n, d_si_n, d_si_i]
    rfl
  · simp (disch := decide) only [d_cp_n, d_si_n, d_si_i]
    rfl
  · rw [d_cp_i, if_pos (by omega), show 0 + k - 0 = k by omega]
    simp (disch := decide) only [d_si_n]
  · rw [d_cp_n h2, d_si_n h1]
theorem P_bT14_3_20 : ∃ z, F_X8_become_14_31 s = some z ∧ (z.1 14 2 = s.1 31 2 ∧ z.1 14 0 = s.1 14 0) ∧ (∀ k, k < 32 → z.1 15 k = s.1 32 k) ∧ (∀ a, a ≠ 14 → a ≠ 15 → z.1 a = s.1 a) ∧ z.2 = s.2 := by
  refine ⟨_, rfl, ⟨?_, ?_⟩, fun k hk => ?_, fun a h1 h2 => ?_, rfl⟩
  · simp (disch := decide) only [d_cp_n, d_si_n, d_si_i]
    rfl
  · simp (disch := decide) only [d_cp_n, d_si_n, d_si_i]
    rfl
  · rw [d_cp_i, if_pos (by omega), show 0 + k - 0 = k by omega]
    simp (disch := decide) only [d_si_n]
  · rw [d_cp_n h2, d_si_n h1]
theorem P_bT16_3_20 : ∃ z, F_X8_become_16_33 s = some z ∧ (z.1 16 2 = s.1 33 2 ∧ z.1 16 0 = s.1 16 0) ∧ (∀ k, k < 32 → z.1 17 k = s.1 34 k) ∧ (∀ a, a ≠ 16 → a ≠ 17 → z.1 a = s.1 a) ∧ z.2 = s.2 := by
  refine ⟨_, rfl, ⟨?_, ?_⟩, fun k hk => ?_, fun a h1 h2 => ?_, rfl⟩
  · simp (disch := decide) only [d_cp_n, d_si_n, d_si_i]
    rfl
  · simp (disch := decide) only [d_cp_n, d_si_n, d_si_i]
    rfl
  · rw [d_cp_i, if_pos (by omega), show 0 + k - 0 = k by omega]
    simp (disch := decide) only [d_si_n]
  · rw [d_cp_n h2, d_si_n h1]
theorem P_bT18_3_20 : ∃ z, F_X8_become_18_35 s = some z ∧ (z.1 18 2 = s.1 35 2 ∧ z.1 18 0 = s.1 18 0) ∧ (∀ k, k < 32 → z.1 19 k = s.1 36 k) ∧ (∀ a, a ≠ 18 → a ≠ 19 → z.1 a = s.1 a) ∧ z.2 = s.2 := by
  refine ⟨_, rfl, ⟨?_, ?_⟩, fun k hk => ?_, fun a h1 h2 => ?_, rfl⟩
  · simp (disch := decide) only [d_cp_n, d_si_n, d_si_i]
    rfl
  · simp (disch := decide) only [d_cp_n, d_si_n, d_si_i]
    rfl
  · rw [d_cp_i, if_pos (by omega), show 0 + k - 0 = k by omega]
    simp (disch := decide) only [d_si_n]
  · rw [d_cp_n h2, d_si_n h1]
theorem v_tx3_20 {K : d_S → Option d_S} : ∃ z, F_X9_become_3_20_l68 K d_N 0 s = K z ∧ (∀ k, k < 4 → z.2.1 5 k = s.2.1 22 k) ∧ (∀ a, a ≠ 5 → z.2.1 a = s.2.1 a) ∧ z.1 = s.1 := by
  have hl : ∀ (j k m : Nat), k + j = 4 → j < m → ∀ s1 : d_S, s1.1 = s.1 → (∀ a, a ≠ 5 → s1.2.1 a = s.2.1 a) → (∀ i, i < k → s1.2.1 5 i = s.2.1 22 i) → ∃ z, F_X9_become_3_20_l68 K m (k : Int) s1 = K z ∧ (∀ k, k < 4 → z.2.1 5 k = s.2.1 22 k) ∧ (∀ a, a ≠ 5 → z.2.1 a = s.2.1 a) ∧ z.1 = s.1 := by
    intro j
    induction j with
    | zero =>
      intro k m hk hm s1 h1 h2 h3
      obtain ⟨m, rfl⟩ : ∃ q, m = q + 1 := ⟨m - 1, by omega⟩
      have hk : k = 4 := by omega
      subst hk
      refine ⟨s1, ?_, h3, h2, h1⟩
      show F_X9_become_3_20_l68_b K (F_X9_become_3_20_l68 K m) _ s1 = _
      unfold F_X9_become_3_20_l68_b
      rw [if_neg (by omega)]
    | succ j ih =>
      intro k m hk hm s1 h1 h2 h3
      obtain ⟨m, rfl⟩ : ∃ q, m = q + 1 := ⟨m - 1, by omega⟩
      obtain ⟨z, r1, r2⟩ := ih (k + 1) m (by omega) (by omega) (d_sp s1 5 k (s.2.1 22 k)) h1 (fun a ha => (d_u_n ha).trans (h2 a ha)) (fun i hi => by
        show d_u s1.2.1 5 (d_u (s1.2.1 5) k (s.2.1 22 k)) 5 i = _
        rw [d_u_t]
        by_cases q : i = k
        · subst q; rw [d_u_t]
        · rw [d_u_n q]; exact h3 i (by omega))
      refine ⟨z, ?_, r2⟩
      show F_X9_become_3_20_l68_b K (F_X9_become_3_20_l68 K m) _ s1 = _
      unfold F_X9_become_3_20_l68_b
      rw [if_pos (by omega), d_g_t (by omega), d_g_t (by omega), d_l_t, Int.toNat_natCast, h2 22 (by decide), d_w_id (by omega) (by omega)]
      exact r1
  exact hl 4 0 d_N rfl (by rw [d_N_is]; decide) s rfl (fun _ _ => rfl) (fun i hi => absurd hi (Nat.not_lt_zero i))
theorem P_become3_20 (hb : s.1 20 2 = 0 ∨ s.1 20 2 = 1) : ∃ z, F_X9_become_3_20 s = some z ∧ (∀ k, k < 7 → k ≠ 4 → z.1 3 k = s.1 20 k) ∧ (∀ k, k < 72 → z.1 4 k = s.1 21 k) ∧ (∀ k, k < 7 → z.1 6 k = s.1 23 k) ∧ (∀ k, k < 64 → z.1 7 k = s.1 24 k) ∧ (z.1 8 1 = s.1 25 1 ∧ z.1 8 2 = s.1 25 2) ∧ (∀ k, k < 2130 → z.1 9 k = s.1 26 k) ∧ (z.1 10 0 = s.1 10 0 ∧ z.1 12 0 = s.1 12 0 ∧ z.1 14 0 = s.1 14 0 ∧ z.1 16 0 = s.1 16 0 ∧ z.1 18 0 = s.1 18 0) ∧ (z.1 10 2 = s.1 27 2 ∧ z.1 12 2 = s.1 29 2 ∧ z.1 14 2 = s.1 31 2 ∧ z.1 16 2 = s.1 33 2 ∧ z.1 18 2 = s.1 35 2) ∧ (∀ k, k < 32 → z.1 11 k = s.1 28 k ∧ z.1 13 k = s.1 30 k ∧ z.1 15 k = s.1 32 k ∧ z.1 17 k = s.1 34 k ∧ z.1 19 k = s.1 36 k) ∧ (∀ a, (a < 3 ∨ 19 < a) → z.1 a = s.1 a) ∧ (∀ k, k < 4 → z.2.1 5 k = s.2.1 22 k) ∧ ∀ a, a ≠ 5 → z.2.1 a = s.2.1 a := by
  obtain ⟨z0, hz0⟩ : ∃ z, z = d_si (d_si (d_cp (d_si (d_si (d_si (d_si s 3 0 (s.1 20 0)) 3 1 (s.1 20 1)) 3 2 (s.1 20 2)) 3 3 (s.1 20 3)) 21 0 4 0 72) 3 5 (s.1 20 5)) 3 6 (s.1 20 6) := ⟨_, rfl⟩
  have a0 : ∀ a, a ≠ 3 → a ≠ 4 → z0.1 a = s.1 a := fun a h1 h2 => by rw [hz0, d_si_n h1, d_si_n h1, d_cp_n h2, d_si_n h1, d_si_n h1, d_si_n h1, d_si_n h1]
  have b0 : ∀ k, k < 7 → k ≠ 4 → z0.1 3 k = s.1 20 k := fun k hk h4 => by
    have : k = 0 ∨ k = 1 ∨ k = 2 ∨ k = 3 ∨ k = 5 ∨ k = 6 := by omega
    rw [hz0, d_si_i, d_si_i, d_cp_n (by decide), d_si_i, d_si_i, d_si_i, d_si_i]
    rcases this with rfl | rfl | rfl | rfl | rfl | rfl <;> rfl
  have c0 : ∀ k, k < 72 → z0.1 4 k = s.1 21 k := fun k hk => by
    rw [hz0, d_si_n (by decide), d_si_n (by decide), d_cp_i, if_pos (by omega), show 0 + k - 0 = k by omega]
    simp (disch := decide) only [d_si_n]
  have e0 : z0.2 = s.2 := by rw [hz0]; rfl
  obtain ⟨z1, h1, t1, t2, t3⟩ := v_tx3_20 (s := z0) (K := fun s_u12 => d_b (F_X10_become_6_23 s_u12) (fun s13 => d_b (F_X6_become_8_25 s13) (fun s14 => d_b (F_X8_become_10_27 s14) (fun s15 => d_b (F_X8_become_12_29 s15) (fun s16 => d_b (F_X8_become_14_31 s16) (fun s17 => d_b (F_X8_become_16_33 s17) (fun s18 => d_b (F_X8_become_18_35 s18) (fun s19 => some s19))))))))
  obtain ⟨z2, y1, y2, y3, y4, y5⟩ := P_bY3_20 (s := z1)
  obtain ⟨z3, p1, p2, p3, p4, p5⟩ := P_bS3_20 (s := z2)
  obtain ⟨z4, q01, q02, q03, q04, q05⟩ := P_bT10_3_20 (s := z3)
  obtain ⟨z5, q11, q12, q13, q14, q15⟩ := P_bT12_3_20 (s := z4)
  obtain ⟨z6, q21, q22, q23, q24, q25⟩ := P_bT14_3_20 (s := z5)
  obtain ⟨z7, q31, q32, q33, q34, q35⟩ := P_bT16_3_20 (s := z6)
  obtain ⟨z8, q41, q42, q43, q44, q45⟩ := P_bT18_3_20 (s := z7)
  have hgo : F_X9_become_3_20 s = some z8 := by
    unfold F_X9_become_3_20
    rw [d_l_t, d_l_t, d_si_n (show 20 ≠ 3 by decide), d_si_n (show 20 ≠ 3 by decide), d_g_t hb]
    simp (disch := decide) only [d_l_t, d_si_n, d_cp_n]
    rw [← hz0]
    refine h1.trans ?_
    show d_b (F_X10_become_6_23 z1) _ = _
    rw [y1, d_b_t, p1, d_b_t, q01, d_b_t, q11, d_b_t, q21, d_b_t, q31, d_b_t, q41, d_b_t]
  have f3 : ∀ a, a ≠ 6 → a ≠ 7 → a ≠ 8 → a ≠ 9 → z3.1 a = z0.1 a := fun a h1 h2 h3 h4 => by rw [p4 a h3 h4, y4 a h1 h2, t3]
  have f8 : ∀ a, a ≠ 10 → a ≠ 11 → a ≠ 12 → a ≠ 13 → a ≠ 14 → a ≠ 15 → a ≠ 16 → a ≠ 17 → a ≠ 18 → a ≠ 19 → z8.1 a = z3.1 a := fun a h0 h1 h2 h3 h4 h5 h6 h7 h8 h9 => by rw [q44 a h8 h9, q34 a h6 h7, q24 a h4 h5, q14 a h2 h3, q04 a h0 h1]
  refine ⟨z8, hgo, fun k hk h4 => ?_, fun k hk => ?_, fun k hk => ?_, fun k hk => ?_, ⟨?_, ?_⟩, fun k hk => ?_, ⟨?_, ?_, ?_, ?_, ?_⟩, ⟨?_, ?_, ?_, ?_, ?_⟩, fun k hk => ⟨?_, ?_, ?_, ?_, ?_⟩, fun a ha => ?_, fun k hk => ?_, fun a ha => ?_⟩
  · rw [f8 3 (by decide) (by decide) (by decide) (by decide) (by decide) (by decide) (by decide) (by decide) (by decide) (by decide), f3 3 (by decide) (by decide) (by decide) (by decide)]; exact b0 k hk h4
  · rw [f8 4 (by decide) (by decide) (by decide) (by decide) (by decide) (by decide) (by decide) (by decide) (by decide) (by decide), f3 4 (by decide) (by decide) (by decide) (by decide)]; exact c0 k hk
  · rw [f8 6 (by decide) (by decide) (by decide) (by decide) (by decide) (by decide) (by decide) (by decide) (by decide) (by decide), p4 6 (by decide) (by decide), y2 k hk, t3, a0 23 (by decide) (by decide)]
  · rw [f8 7 (by decide) (by decide) (by decide) (by decide) (by decide) (by decide) (by decide) (by decide) (by decide) (by decide), p4 7 (by decide) (by decide), y3 k hk, t3, a0 24 (by decide) (by decide)]
  · rw [f8 8 (by decide) (by decide) (by decide) (by decide) (by decide) (by decide) (by decide) (by decide) (by decide) (by decide), p2.1, y4 25 (by decide) (by decide), t3, a0 25 (by decide) (by decide)]
  · rw [f8 8 (by decide) (by decide) (by decide) (by decide) (by decide) (by decide) (by decide) (by decide) (by decide) (by decide), p2.2, y4 25 (by decide) (by decide), t3, a0 25 (by decide) (by decide)]
  · rw [f8 9 (by decide) (by decide) (by decide) (by decide) (by decide) (by decide) (by decide) (by decide) (by decide) (by decide), p3 k hk, y4 26 (by decide) (by decide), t3, a0 26 (by decide) (by decide)]
  · rw [q44 10 (by decide) (by decide), q34 10 (by decide) (by decide), q24 10 (by decide) (by decide), q14 10 (by decide) (by decide), q02.2, f3 10 (by decide) (by decide) (by decide) (by decide), a0 10 (by decide) (by decide)]
  · rw [q44 12 (by decide) (by decide), q34 12 (by decide) (by decide), q24 12 (by decide) (by decide), q12.2, q04 12 (by decide) (by decide), f3 12 (by decide) (by decide) (by decide) (by decide), a0 12 (by decide) (by decide)]
  · rw [q44 14 (by decide) (by decide), q34 14 (by decide) (by decide), q22.2, q14 14 (by decide) (by decide), q04 14 (by decide) (by decide), f3 14 (by decide) (by decide) (by decide) (by decide), a0 14 (by decide) (by decide)]
  · rw [q44 16 (by decide) (by decide), q32.2, q24 16 (by decide) (by decide), q14 16 (by decide) (by decide), q04 16 (by decide) (by decide), f3 16 (by decide) (by decide) (by decide) (by decide), a0 16 (by decide) (by decide)]
  · rw [q42.2, q34 18 (by decide) (by decide), q24 18 (by decide) (by decide), q14 18 (by decide) (by decide), q04 18 (by decide) (by decide), f3 18 (by decide) (by decide) (by decide) (by decide), a0 18 (by decide) (by decide)]
  · rw [q44 10 (by decide) (by decide), q34 10 (by decide) (by decide), q24 10 (by decide) (by decide), q14 10 (by decide) (by decide), q02.1, f3 27 (by decide) (by decide) (by decide) (by decide), a0 27 (by decide) (by decide)]
  · rw [q44 12 (by decide) (by decide), q34 12 (by decide) (by decide), q24 12 (by decide) (by decide), q12.1, q04 29 (by decide) (by decide), f3 29 (by decide) (by decide) (by decide) (by decide), a0 29 (by decide) (by decide)]
  · rw [q44 14 (by decide) (by decide), q34 14 (by decide) (by decide), q22.1, q14 31 (by decide) (by decide), q04 31 (by decide) (by decide), f3 31 (by decide) (by decide) (by decide) (by decide), a0 31 (by decide) (by decide)]
  · rw [q44 16 (by decide) (by decide), q32.1, q24 33 (by decide) (by decide), q14 33 (by decide) (by decide), q04 33 (by decide) (by decide), f3 33 (by decide) (by decide) (by decide) (by decide), a0 33 (by decide) (by decide)]
  · rw [q42.1, q34 35 (by decide) (by decide), q24 35 (by decide) (by decide), q14 35 (by decide) (by decide), q04 35 (by decide) (by decide), f3 35 (by decide) (by decide) (by decide) (by decide), a0 35 (by decide) (by decide)]
  · rw [q44 11 (by decide) (by decide), q34 11 (by decide) (by decide), q24 11 (by decide) (by decide), q14 11 (by decide) (by decide), q03 k hk, f3 28 (by decide) (by decide) (by decide) (by decide), a0 28 (by decide) (by decide)]
  · rw [q44 13 (by decide) (by decide), q34 13 (by decide) (by decide), q24 13 (by decide) (by decide), q13 k hk, q04 30 (by decide) (by decide), f3 30 (by decide) (by decide) (by decide) (by decide), a0 30 (by decide) (by decide)]
  · rw [q44 15 (by decide) (by decide), q34 15 (by decide) (by decide), q23 k hk, q14 32 (by decide) (by decide), q04 32 (by decide) (by decide), f3 32 (by decide) (by decide) (by decide) (by decide), a0 32 (by decide) (by decide)]
  · rw [q44 17 (by decide) (by decide), q33 k hk, q24 34 (by decide) (by decide), q14 34 (by decide) (by decide), q04 34 (by decide) (by decide), f3 34 (by decide) (by decide) (by decide) (by decide), a0 34 (by decide) (by decide)]
  · rw [q43 k hk, q34 36 (by decide) (by decide), q24 36 (by decide) (by decide), q14 36 (by decide) (by decide), q04 36 (by decide) (by decide), f3 36 (by decide) (by decide) (by decide) (by decide), a0 36 (by decide) (by decide)]
  · rw [f8 a (by omega) (by omega) (by omega) (by omega) (by omega) (by omega) (by omega) (by omega) (by omega) (by omega), f3 a (by omega) (by omega) (by omega) (by omega), a0 a (by omega) (by omega)]
  · rw [q45, q35, q25, q15, q05, p5, y5, t1 k hk, e0]
  · rw [q45, q35, q25, q15, q05, p5, y5, t2 a ha, e0]
theorem P_copy66 : ∃ z, F_X12_copy_65_66 s = some z ∧ (∀ k, k < 2517 → z.1 66 k = s.1 65 k) ∧ (∀ a, a ≠ 66 → z.1 a = s.1 a) ∧ z.2 = s.2 := by
  have hl : ∀ (j k m : Nat), k + j = 2517 → j < m → ∀ s1 : d_S, (∀ a, a ≠ 66 → s1.1 a = s.1 a) → s1.2 = s.2 → (∀ i, i < k → s1.1 66 i = s.1 65 i) → ∃ z, F_X12_copy_65_66_l2 m (k : Int) s1 = some z ∧ (∀ k, k < 2517 → z.1 66 k = s.1 65 k) ∧ (∀ a, a ≠ 66 → z.1 a = s.1 a) ∧ z.2 = s.2 := by
    intro j
    induction j with
    | zero =>
      intro k m hk hm s1 h1 h2 h3
      obtain ⟨m, rfl⟩ : ∃ q, m = q + 1 := ⟨m - 1, by omega⟩
      have hk : k = 2517 := by omega
      subst hk
      refine ⟨s1, ?_, h3, h1, h2⟩
      show F_X12_copy_65_66_l2_b (F_X12_copy_65_66_l2 m) _ s1 = _
      unfold F_X12_copy_65_66_l2_b
      rw [if_neg (by omega)]
    | succ j ih =>
      intro k m hk hm s1 h1 h2 h3
      obtain ⟨m, rfl⟩ : ∃ q, m = q + 1 := ⟨m - 1, by omega⟩
      obtain ⟨z, r1, r2⟩ := ih (k + 1) m (by omega) (by omega) (d_si s1 66 k (s.1 65 k)) (fun a ha => (d_si_n ha).trans (h1 a ha)) h2 (fun i hi => by
        rw [d_si_i]
        by_cases q : i = k
        · subst q; rw [d_u_t]
        · rw [d_u_n q]; exact h3 i (by omega))
      refine ⟨z, ?_, r2⟩
      show F_X12_copy_65_66_l2_b (F_X12_copy_65_66_l2 m) _ s1 = _
      unfold F_X12_copy_65_66_l2_b
      rw [if_pos (by omega), d_g_t (by omega), d_g_t (by omega), d_l_t, Int.toNat_natCast, h1 65 (by decide), d_w_id (by omega) (by omega)]
      exact r1
  exact hl 2517 0 d_N rfl (by rw [d_N_is]; decide) s (fun _ _ => rfl) rfl (fun i hi => absurd hi (Nat.not_lt_zero i))
theorem P_copy65 : ∃ z, F_X12_copy_66_65 s = some z ∧ (∀ k, k < 2517 → z.1 65 k = s.1 66 k) ∧ (∀ a, a ≠ 65 → z.1 a = s.1 a) ∧ z.2 = s.2 := by
  have hl : ∀ (j k m : Nat), k + j = 2517 → j < m → ∀ s1 : d_S, (∀ a, a ≠ 65 → s1.1 a = s.1 a) → s1.2 = s.2 → (∀ i, i < k → s1.1 65 i = s.1 66 i) → ∃ z, F_X12_copy_66_65_l2 m (k : Int) s1 = some z ∧ (∀ k, k < 2517 → z.1 65 k = s.1 66 k) ∧ (∀ a, a ≠ 65 → z.1 a = s.1 a) ∧ z.2 = s.2 := by
    intro j
    induction j with
    | zero =>
      intro k m hk hm s1 h1 h2 h3
      obtain ⟨m, rfl⟩ : ∃ q, m = q + 1 := ⟨m - 1, by omega⟩
      have hk : k = 2517 := by omega
      subst hk
      refine ⟨s1, ?_, h3, h1, h2⟩
      show F_X12_copy_66_65_l2_b (F_X12_copy_66_65_l2 m) _ s1 = _
      unfold F_X12_copy_66_65_l2_b
      rw [if_neg (by omega)]
    | succ j ih =>
      intro k m hk hm s1 h1 h2 h3
      obtain ⟨m, rfl⟩ : ∃ q, m = q + 1 := ⟨m - 1, by omega⟩
      obtain ⟨z, r1, r2⟩ := ih (k + 1) m (by omega) (by omega) (d_si s1 65 k (s.1 66 k)) (fun a ha => (d_si_n ha).trans (h1 a ha)) h2 (fun i hi => by
        rw [d_si_i]
        by_cases q : i = k
        · subst q; rw [d_u_t]
        · rw [d_u_n q]; exact h3 i (by omega))
      refine ⟨z, ?_, r2⟩
      show F_X12_copy_66_65_l2_b (F_X12_copy_66_65_l2 m) _ s1 = _
      unfold F_X12_copy_66_65_l2_b
      rw [if_pos (by omega), d_g_t (by omega), d_g_t (by omega), d_l_t, Int.toNat_natCast, h1 66 (by decide), d_w_id (by omega) (by omega)]
      exact r1
  exact hl 2517 0 d_N rfl (by rw [d_N_is]; decide) s (fun _ _ => rfl) rfl (fun i hi => absurd hi (Nat.not_lt_zero i))
theorem R_image (h : v_R t s) : v_AA t (F_X11_image s) (fun s1 => F_X12_image s1) := by
  have h' := h
  obtain ⟨hW, hI, hW2, hI2, h1, hQ, hX, hN, hr⟩ := h'
  have w2 : s.1 3 2 = s.1 65 18 := hW.1.1.2.2.1
  have y3 : s.1 6 3 = s.1 65 9 := hW.2.1.1 3 (by decide)
  obtain ⟨z, g1, a1, a2, a3, a4, a5, a6, a7, a8, a9, b1, b2, b3⟩ := P_become20_3 (s := s) (by rw [w2]; exact hI.1.2.2.1)
  obtain ⟨s2, c1, c2, c3, c4⟩ := P_copy66 (s := z)
  have z65 : z.1 65 = s.1 65 := b1 65 (by omega)
  have hA : ∀ j, j < 2517 → s2.1 66 j = s.1 65 j := fun j hj => by rw [c2 j hj, z65]
  have fo : ∀ a, (a < 20 ∨ 36 < a) → a ≠ 66 → s2.1 a = s.1 a := fun a h1 h2 => by rw [c3 a h2, b1 a h1]
  have e65 : s2.1 65 = s.1 65 := fo 65 (by omega) (by decide)
  have zz : ∀ a, a ≠ 66 → s2.1 a = z.1 a := c3
  have m0 := hW2.2.2.2.1
  refine ⟨s.1 65 9, z, s2, ?_, ?_, ?_⟩
  · unfold F_X11_image; rw [g1, d_b_t, b1 6 (by omega), y3]
  · show F_X12_image z = _; unfold F_X12_image; rw [c1, d_b_t, e65]
  · have e1 : s2.1 66 1 = s.1 65 1 := hA 1 (by decide)
    unfold v_R
    rw [e65]
    refine ⟨hW.fr (fun a h1 h2 => fo a (by omega) (by omega)) hI, hI, ⟨hW.1.cp hI.1.2.2.2.2.1.2 (fun k hk h4 => by show s2.1 20 k = _; rw [zz 20 (by decide)]; exact a1 k hk h4) (fun k hk => by show s2.1 21 k = _; rw [zz 21 (by decide)]; exact a2 k hk) hA, hW.2.1.cp (fun k hk => by show s2.1 23 k = _; rw [zz 23 (by decide)]; exact a3 k hk) (fun k hk => by show s2.1 24 k = _; rw [zz 24 (by decide)]; exact a4 k hk) hA, hW.2.2.1.cp (by show s2.1 25 1 = _; rw [zz 25 (by decide)]; exact a5.1) (by show s2.1 25 2 = _; rw [zz 25 (by decide)]; exact a5.2) (fun k hk => by show s2.1 26 k = _; rw [zz 26 (by decide)]; exact a6 k hk) hA, hW.2.2.2.cp hI.2.2.1 ?_ ?_ (fun k hk => ?_) hA⟩, hI.cp hA, by rw [e1]; exact Int.le_refl _, hQ.fr (fun a h1 h2 => fo a (by omega) (by omega)), ?_, ?_, hr.fr (fo 43 (by omega) (by decide)) (fo 44 (by omega) (by decide)) (fo 64 (by omega) (by decide)) (fo 68 (by omega) (by decide))⟩
    · show s2.1 27 0 = _ ∧ s2.1 29 0 = _ ∧ s2.1 31 0 = _ ∧ s2.1 33 0 = _ ∧ s2.1 35 0 = _
      rw [zz 27 (by decide), zz 29 (by decide), zz 31 (by decide), zz 33 (by decide), zz 35 (by decide), a7.1, a7.2.1, a7.2.2.1, a7.2.2.2.1, a7.2.2.2.2]
      exact m0
    · show s2.1 27 2 = _ ∧ s2.1 29 2 = _ ∧ s2.1 31 2 = _ ∧ s2.1 33 2 = _ ∧ s2.1 35 2 = _
      rw [zz 27 (by decide), zz 29 (by decide), zz 31 (by decide), zz 33 (by decide), zz 35 (by decide)]
      exact a8
    · show s2.1 28 k = _ ∧ s2.1 30 k = _ ∧ s2.1 32 k = _ ∧ s2.1 34 k = _ ∧ s2.1 36 k = _
      rw [zz 28 (by decide), zz 30 (by decide), zz 32 (by decide), zz 34 (by decide), zz 36 (by decide)]
      exact a9 k hk
    · obtain ⟨r, r1, r2⟩ := hX
      refine ⟨r, fun k hk => ?_, fun k hk => ?_⟩
      · rw [e65] at hk
        rw [fo 67 (by omega) (by decide), c4, b3 5 (by decide)]; exact r1 k hk
      · rw [e1] at hk
        have h4 := hI.2.2.1.1.2
        obtain ⟨-, b, q1, q2⟩ := r1 k hk
        exact ⟨b, by rw [c4, b2 k (by omega)]; exact q1, q2⟩
    · rw [fo 49 (by omega) (by decide), fo 71 (by omega) (by decide)]; exact hN
theorem R_back (h : v_R t s) : v_AA t (F_X11_back s) (fun s1 => F_X12_back s1) := by
  have h' := h
  obtain ⟨hW, hI, hW2, hI2, h1, hQ, hX, hN, hr⟩ := h'
  have w2 : s.1 20 2 = s.1 66 18 := hW2.1.1.2.2.1
  obtain ⟨z, g1, a1, a2, a3, a4, a5, a6, a7, a8, a9, b1, b2, b3⟩ := P_become3_20 (s := s) (by rw [w2]; exact hI2.1.2.2.1)
  have y3 : z.1 6 3 = s.1 66 9 := (a3 3 (by decide)).trans (hW2.2.1.1 3 (by decide))
  have m0 := hW.2.2.2.1
  
  have hWz : v_W z.1 0 (s.1 66) := ⟨hW2.1.cp hI2.1.2.2.2.2.1.2 a1 a2 (fun _ _ => rfl), hW2.2.1.cp a3 a4 (fun _ _ => rfl), hW2.2.2.1.cp a5.1 a5.2 a6 (fun _ _ => rfl), hW2.2.2.2.cp hI2.2.2.1 (by
      show z.1 10 0 = _ ∧ z.1 12 0 = _ ∧ z.1 14 0 = _ ∧ z.1 16 0 = _ ∧ z.1 18 0 = _
      rw [a7.1, a7.2.1, a7.2.2.1, a7.2.2.2.1, a7.2.2.2.2]; exact m0) a8 (fun k hk => a9 k hk) (fun _ _ => rfl)⟩
  obtain ⟨s1, l1, l2, l3, l4⟩ := P_lay (hWz.C hI2)
  obtain ⟨s2, c1, c2, c3, c4⟩ := P_copy65 (s := s1)
  have nl : ∀ a, (a < 37 ∨ 42 < a) → a ∉ v_L6 := fun a h1 h3 => by
    unfold v_L6 at h3
    simp only [List.mem_cons, List.not_mem_nil, or_false] at h3
    omega
  have sz : ∀ a, (a < 37 ∨ 42 < a) → s1.1 a = z.1 a := fun a ha => l2.1 a (nl a ha)
  have s66 : s1.1 66 = s.1 66 := by rw [sz 66 (by omega), b1 66 (by omega)]
  have hA : ∀ j, j < 2517 → s2.1 65 j = s.1 66 j := fun j hj => by rw [c2 j hj, s66]
  have zz : ∀ a, (a < 37 ∨ 42 < a) → a ≠ 65 → s2.1 a = z.1 a := fun a h1 h2 => by rw [c3 a h2, sz a h1]
  have fo : ∀ a, (19 < a ∧ a < 37 ∨ 42 < a) → a ≠ 65 → s2.1 a = s.1 a := fun a h1 h2 => by rw [zz a (by omega) h2, b1 a (by omega)]
  have e66 : s2.1 66 = s.1 66 := fo 66 (by omega) (by decide)
  have ep : s2.2 = z.2 := c4.trans l2.2
  have e1 : s2.1 65 1 = s.1 66 1 := hA 1 (by decide)
  refine ⟨s.1 66 9, s1, s2, ?_, ?_, ?_⟩
  · unfold F_X11_back; rw [g1, d_b_t, l1, d_b_t, sz 6 (by omega), y3]
  · show F_X12_back s1 = _; unfold F_X12_back; rw [c1, d_b_t, hA 9 (by decide)]
  · have hW3 : v_W s2.1 0 (s.1 66) := hWz.fr (fun a h1 h2 => zz a (by omega) (by omega)) hI2
    have eg : v_u (s2.1 65) = v_u (s.1 66) ∧ v_v (s2.1 65) = v_v (s.1 66) ∧ v_wi (s2.1 65) = v_wi (s.1 66) ∧ v_hi (s2.1 65) = v_hi (s.1 66) := by
      unfold v_u v_v v_wi v_hi
      rw [hA 14 (by decide), hA 15 (by decide), hA 16 (by decide), hA 17 (by decide)]
      exact ⟨rfl, rfl, rfl, rfl⟩
    have hG2 := hI2.G
    have hac := hG2.ac
    unfold v_R
    rw [e66, eg.1, eg.2.1, eg.2.2.1, eg.2.2.2]
    refine ⟨⟨hW3.1.cp hI2.1.2.2.2.2.1.2 (fun _ _ _ => rfl) (fun _ _ => rfl) hA, hW3.2.1.cp (fun _ _ => rfl) (fun _ _ => rfl) hA, hW3.2.2.1.cp rfl rfl (fun _ _ => rfl) hA, hW3.2.2.2.cp hI2.2.2.1 hW3.2.2.2.1 ⟨rfl, rfl, rfl, rfl, rfl⟩ (fun _ _ => ⟨rfl, rfl, rfl, rfl, rfl⟩) hA⟩, hI2.cp hA, hW2.fr (fun a h1 h2 => fo a (by omega) (by omega)) hI2, hI2, by rw [e1]; exact Int.le_refl _, ?_, ?_, ?_, hr.fr (fo 43 (by omega) (by decide)) (fo 44 (by omega) (by decide)) (fo 64 (by omega) (by decide)) (fo 68 (by omega) (by decide))⟩
    · have hQ1 : v_Q s1 (v_u (s.1 66)) (v_v (s.1 66)) (v_wi (s.1 66)) (v_hi (s.1 66)) := ⟨l3, l4, hac.2.2.1, hG2.2.2.2.1.2, hG2.2.2.2.2.1.2⟩
      exact hQ1.fr (fun a h1 h2 => c3 a (by omega))
    · obtain ⟨r, r1, r2⟩ := hX
      have h4 := hI2.2.2.1.1.2
      refine ⟨r, fun k hk => ?_, fun k hk => ?_⟩
      · rw [e1] at hk
        obtain ⟨b, q1, q2⟩ := r2 k hk
        refine ⟨by rw [fo 67 (by omega) (by decide)]; exact (r1 k (by omega)).1, b, by rw [ep, b2 k (by omega)]; exact q1, q2⟩
      · rw [e66] at hk
        rw [ep, b3 22 (by decide)]; exact r2 k hk
    · rw [fo 49 (by omega) (by decide), fo 71 (by omega) (by decide)]; exact hN
end V19
def d_mx (s z : d_S) : d_S := (fun a => bif Nat.blt a 64 then s.1 a else z.1 a, s.2.1, z.2.2)
def v_fC (s s' : d_S) : Prop := ∀ a, 64 ≤ a → s'.1 a = s.1 a
def v_fR (z z' : d_S) : Prop := (∀ a, a < 64 ∨ a = 67 → z'.1 a = z.1 a) ∧ z'.2.1 = z.2.1
def v_A2 (t : Nat → Option p_C) (C D : d_S → Option (Int × d_S)) : Prop := ∀ s z, v_R t (d_mx s z) → ∃ v s' z', C s = some (v, s') ∧ D z = some (v, z') ∧ v_R t (d_mx s' z') ∧ v_fC s s' ∧ v_fR z z'
section V20
variable {s s' z z' s4 z4 : d_S} {t : Nat → Option p_C} {a : Nat} {x : Int}
theorem d_mx_lo (h : a < 64) : (d_mx s z).1 a = s.1 a := by
  show (bif Nat.blt a 64 then s.1 a else z.1 a) = _
  rw [show Nat.blt a 64 = true from Nat.ble_eq_true_of_le h]; rfl
theorem d_mx_hi (h : 64 ≤ a) : (d_mx s z).1 a = z.1 a := by
  show (bif Nat.blt a 64 then s.1 a else z.1 a) = _
  rw [show Nat.blt a 64 = false from by
    cases e : Nat.blt a 64
    · rfl
    · exact absurd (Nat.le_of_ble_eq_true e) (by omega)]; rfl
theorem d_mx_eq (h1 : ∀ a, a < 64 → s'.1 a = s.1 a) (h2 : ∀ a, 64 ≤ a → s'.1 a = z.1 a) (h3 : s'.2.1 = s.2.1) (h4 : s'.2.2 = z.2.2) : d_mx s z = s' := by
  refine Prod.ext (funext fun a => ?_) (Prod.ext h3.symm h4.symm)
  by_cases q : a < 64
  · rw [d_mx_lo q, h1 a q]
  · rw [d_mx_hi (by omega), h2 a (by omega)]
theorem v_fC.tr (h : v_fC s s') (h' : v_fC s' z) : v_fC s z := fun a q => (h' a q).trans (h a q)
theorem v_fR.tr (h : v_fR s s') (h' : v_fR s' z) : v_fR s z := ⟨fun a q => (h'.1 a q).trans (h.1 a q), h'.2.trans h.2⟩
theorem v_fC.rf : v_fC s s := fun _ _ => rfl
theorem v_R.e (h : v_R t s) (h1 : s'.1 = s.1) (h2 : s'.2.1 = s.2.1) : v_R t s' := h.scr (fun a _ => by rw [h1]) (fun a _ => by rw [h2]) (by rw [h1]; exact h.2.2.2.2.2.2.2.1)
theorem v_fR.rf : v_fR s s := ⟨fun _ _ => rfl, rfl⟩
theorem v_A2.AA {C D : d_S → Option (Int × d_S)} (h : v_A2 t C D) (hR : v_R t s) : v_AA t (C s) D := by
  have e0 : d_mx s s = s := d_mx_eq (fun _ _ => rfl) (fun _ _ => rfl) rfl rfl
  obtain ⟨v, s1, z1, a1, a2, a3, a4, a5⟩ := h s s (by rw [e0]; exact hR)
  have e1 : (d_mx s s1).1 = s.1 := funext fun a => by
    by_cases q : a < 64
    · exact d_mx_lo q
    · rw [d_mx_hi (by omega)]; exact a4 a (by omega)
  obtain ⟨v', s2, z2, b1, b2, b3, b4, b5⟩ := h s s1 (hR.e e1 rfl)
  have hp : (v', s2) = (v, s1) := Option.some.inj (b1.symm.trans a1)
  have hv : v' = v := congrArg Prod.fst hp
  have hs : s2 = s1 := congrArg Prod.snd hp
  clear hp
  subst hv
  subst hs
  have e2 : d_mx s2 z2 = z2 := d_mx_eq (fun a q => b5.1 a (Or.inl q)) (fun _ _ => rfl) b5.2 rfl
  exact ⟨v', s2, z2, a1, b2, by rw [← e2]; exact b3⟩
theorem v_R.lay (h : v_R t (d_mx s z)) (c : ∀ a, a < 64 → a ≠ 6 → a ≠ 7 → a ≠ 8 → a ≠ 9 → s4.1 a = s.1 a) (cp : s4.2.1 = s.2.1) (r : ∀ a, a ≠ 65 → z4.1 a = z.1 a) (fA : ∀ j, (j < 3 ∨ 4 ≤ j ∧ j ≤ 8 ∨ 16 ≤ j ∧ j ≤ 18 ∨ 212 ≤ j ∧ j < 387) → z4.1 65 j = z.1 65 j) (hWy : v_Wy s4.1 0 (z4.1 65)) (hWs : v_Ws s4.1 0 (z4.1 65)) (hIb : v_Ib (z4.1 65)) (hyb : v_yb (fun k => z4.1 65 (9 + k)) (v_wi (z.1 65)) (v_hi (z.1 65))) : v_G (z4.1 65) (v_u (z4.1 65)) (v_v (z4.1 65)) (v_wi (z4.1 65)) (v_hi (z4.1 65)) ∧ ∃ s5, F_X4_lay_3 s4 = some s5 ∧ s5.1 37 5 = ((v_bl (v_u (z4.1 65)) (v_v (z4.1 65)) : Nat) : Int) ∧ v_R t (d_mx s5 z4) ∧ (∀ a, a ∉ v_L6 → s5.1 a = s4.1 a) ∧ s5.2 = s4.2 := by
  have h' := h
  obtain ⟨hW, hI, -, -, -, -, -, hN, -⟩ := h'
  have hI : v_I (z.1 65) := hI
  have ew : v_wi (z4.1 65) = v_wi (z.1 65) := by unfold v_wi; rw [fA 16 (by decide)]
  have eh : v_hi (z4.1 65) = v_hi (z.1 65) := by unfold v_hi; rw [fA 17 (by decide)]
  have hI4 : v_I (z4.1 65) := ⟨hI.1.fr (fun j hj => fA j (by omega)), hIb, hI.2.2.1.fr (fun j hj => fA j (by omega)), by rw [ew, eh]; exact hyb⟩
  have hG := hI4.G
  have hC : v_C s4 (v_u (z4.1 65)) (v_v (z4.1 65)) (v_wi (z4.1 65)) (v_hi (z4.1 65)) := by
    obtain ⟨⟨g1, g2, g3, g4⟩, gr⟩ := hG
    obtain ⟨⟨w1, w2, -⟩, -⟩ := hW.1
    have w1 : s.1 3 0 = z.1 65 16 := w1
    have w2 : s.1 3 1 = z.1 65 17 := w2
    have c3 := c 3 (by decide) (by decide) (by decide) (by decide) (by decide)
    have y0 : s4.1 6 0 = z4.1 65 14 := hWy.1 0 (by decide)
    have y1 : s4.1 6 1 = z4.1 65 15 := hWy.1 1 (by decide)
    exact ⟨⟨y0.trans g1, y1.trans g2, by rw [c3, w1, ← fA 16 (by decide)]; exact g3, by rw [c3, w2, ← fA 17 (by decide)]; exact g4⟩, gr⟩
  obtain ⟨s5, g1, g2, g3, g4⟩ := P_lay hC
  have nl : ∀ a, a < 37 ∨ 42 < a → a ∉ v_L6 := fun a h1 h3 => by
    unfold v_L6 at h3
    simp only [List.mem_cons, List.not_mem_nil, or_false] at h3
    omega
  refine ⟨hG, s5, g1, g3, ?_, g2.1, g2.2⟩
  refine h.yard (fun a ha => ?_) (fun a ha => ?_) (fun j hj => fA j hj) ?_ ?_ hIb hyb ?_ ?_
  · by_cases q : a < 64
    · rw [d_mx_lo q, d_mx_lo q, g2.1 a (nl a (by unfold v_cl at ha; omega))]
      exact c a q (by unfold v_cl at ha; omega) (by unfold v_cl at ha; omega) (by unfold v_cl at ha; omega) (by unfold v_cl at ha; omega)
    · rw [d_mx_hi (by omega), d_mx_hi (by omega)]
      exact r a (by unfold v_cl at ha; omega)
  · show s5.2.1 a = s.2.1 a
    rw [g2.2, cp]
  · exact hWy.fr (g2.1 6 (by decide)) (g2.1 7 (by decide)) (fun _ _ => rfl)
  · exact hWs.fr (g2.1 8 (by decide)) (g2.1 9 (by decide)) rfl rfl rfl (fun _ _ _ => rfl)
  · obtain ⟨-, -, ab, -⟩ := hG.ac
    have hQ1 : v_Q s5 (v_u (z4.1 65)) (v_v (z4.1 65)) (v_wi (z4.1 65)) (v_hi (z4.1 65)) := ⟨g3, g4, hG.ac.2.2.1, hC.2.2.2.1.2, hC.2.2.2.2.1.2⟩
    exact hQ1.fr (fun a h1 h2 => d_mx_lo (by omega))
  · have e49 : s5.1 49 = s.1 49 := (g2.1 49 (by decide)).trans (c 49 (by decide) (by decide) (by decide) (by decide) (by decide))
    exact ⟨by show v_Nm (s5.1 49); rw [e49]; exact hN.1, by show v_Nm (z4.1 71); rw [r 71 (by decide)]; exact hN.2⟩
theorem v_R.keep (h : v_R t (d_mx s z)) : ∃ s' z', F_X6_keep_8_6 s = some s' ∧ F_X12_keep z = some z' ∧ (∀ a, a ≠ 8 → a ≠ 9 → s'.1 a = s.1 a) ∧ s'.2 = s.2 ∧ (∀ a, a ≠ 65 → z'.1 a = z.1 a) ∧ z'.2 = z.2 ∧ (∀ j, j ≠ 3 → j < 387 → z'.1 65 j = z.1 65 j) ∧ v_R t (d_mx s' z') := by
  have h' := h
  obtain ⟨hW, hI, -, -, -, hQ, -, hN, -⟩ := h'
  have hI : v_I (z.1 65) := hI
  obtain ⟨n, c, a1, a2, a3⟩ := hW.2.2.1
  have a1 : s.1 8 1 = n := a1
  have a2 : s.1 8 2 = c := a2
  have a3 : v_Sx (s.1 9) n c (z.1 65) (v_wi (z.1 65)) (v_hi (z.1 65)) := a3
  obtain ⟨s1, k1, k2, k3, k4, k5, k6, k7, k8⟩ := P_keepC a1 a2 a3.2.1 a3.1
  obtain ⟨z1, r1, r2, r3, r4, r5, r6, r7, r8⟩ := P_keepR a3.2.2.1 a3.1 hI.B
  refine ⟨s1, z1, k1, r1, k7, k8, r7, r8, r3, ?_⟩
  have hS : v_Sx (s1.1 9) ((n + 1) % 30) (min 30 (c + 1)) (z1.1 65) (v_wi (z.1 65)) (v_hi (z.1 65)) := by
    refine a3.keep k2 k3 k4 r2 r4 r5 r6 (fun i hi => hW.2.1.1 i hi) hI.2.2.2 (fun b hb => ?_) hI.bb
    have hM := (hW.M (s := d_mx s z) hI b hb).1
    have hM : s.1 7 b = _ := hM
    rw [hM]; rfl
  have w16 : v_wi (z1.1 65) = v_wi (z.1 65) := by unfold v_wi; rw [r3 16 (by decide) (by decide)]
  have w17 : v_hi (z1.1 65) = v_hi (z.1 65) := by unfold v_hi; rw [r3 17 (by decide) (by decide)]
  have u14 : v_u (z1.1 65) = v_u (z.1 65) := by unfold v_u; rw [r3 14 (by decide) (by decide)]
  have v15 : v_v (z1.1 65) = v_v (z.1 65) := by unfold v_v; rw [r3 15 (by decide) (by decide)]
  refine h.yard (fun a ha => ?_) (fun a ha => ?_) (fun j hj => r3 j (by omega) (by omega)) ?_ ?_ ?_ ?_ ?_ ?_
  · by_cases q : a < 64
    · rw [d_mx_lo q, d_mx_lo q, k7 a (by unfold v_cl at ha; omega) (by unfold v_cl at ha; omega)]
    · rw [d_mx_hi (by omega), d_mx_hi (by omega), r7 a (by unfold v_cl at ha; omega)]
  · show s1.2.1 a = s.2.1 a
    rw [k8]
  · exact v_Wy.fr (f' := (d_mx s1 z1).1) hW.2.1 (k7 6 (by decide) (by decide)) (k7 7 (by decide) (by decide)) (fun j hj => r3 j (by omega) (by omega))
  · exact ⟨(n + 1) % 30, min 30 (c + 1), k5, k6, by show v_Sx (s1.1 9) _ _ (z1.1 65) (v_wi (z1.1 65)) (v_hi (z1.1 65)); rw [w16, w17]; exact hS⟩
  · exact hI.2.1.fr (fun j h1 h2 => r3 j (by omega) (by omega))
  · obtain ⟨b0, b1, b3, b4, u, v, b5, b6, b7⟩ := hI.2.2.2
    refine ⟨?_, ?_, ?_, ?_, u, v, ?_, ?_, b7⟩
    · show 0 ≤ z1.1 65 9 ∧ z1.1 65 9 ≤ 999; rw [r3 9 (by decide) (by decide)]; exact b0
    · show 0 ≤ z1.1 65 10 ∧ z1.1 65 10 ≤ 9; rw [r3 10 (by decide) (by decide)]; exact b1
    · show 0 ≤ z1.1 65 12 ∧ z1.1 65 12 ≤ 99; rw [r3 12 (by decide) (by decide)]; exact b3
    · show 0 ≤ z1.1 65 13 ∧ z1.1 65 13 < 30293; rw [r3 13 (by decide) (by decide)]; exact b4
    · show z1.1 65 14 = _; rw [r3 14 (by decide) (by decide)]; exact b5
    · show z1.1 65 15 = _; rw [r3 15 (by decide) (by decide)]; exact b6
  · show v_Q (d_mx s1 z1) (v_u (z1.1 65)) (v_v (z1.1 65)) (v_wi (z1.1 65)) (v_hi (z1.1 65))
    rw [u14, v15, w16, w17]
    exact v_Q.fr hQ (fun a h1 h2 => by rw [d_mx_lo (by omega), d_mx_lo (by omega), k7 a (by omega) (by omega)])
  · exact ⟨by show v_Nm (s1.1 49); rw [k7 49 (by decide) (by decide)]; exact hN.1, by show v_Nm (z1.1 71); rw [r7 71 (by decide)]; exact hN.2⟩
end V20

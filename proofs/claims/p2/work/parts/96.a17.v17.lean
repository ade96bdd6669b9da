section V17
variable {s : d_S} {t : Nat → Option p_C}
def v_p6 (f : Nat → Int) (p : Nat) (a b c d e g : Int) : Nat → Int := d_u (d_u (d_u (d_u (d_u (d_u f p a) (p + 1) b) (p + 2) c) (p + 3) d) (p + 4) e) (p + 5) g
theorem v_p6_o {f : Nat → Int} {p j : Nat} {a b c d e g : Int} (h : j < p ∨ p + 6 ≤ j) : v_p6 f p a b c d e g j = f j := by
  unfold v_p6
  rw [d_u_n (by omega), d_u_n (by omega), d_u_n (by omega), d_u_n (by omega), d_u_n (by omega), d_u_n (by omega)]
theorem v_p6_v {f : Nat → Int} {p : Nat} {a b c d e g : Int} : v_p6 f p a b c d e g p = a ∧ v_p6 f p a b c d e g (p + 1) = b ∧ v_p6 f p a b c d e g (p + 2) = c ∧ v_p6 f p a b c d e g (p + 3) = d ∧ v_p6 f p a b c d e g (p + 4) = e ∧ v_p6 f p a b c d e g (p + 5) = g := by
  unfold v_p6
  refine ⟨?_, ?_, ?_, ?_, ?_, ?_⟩
  · rw [d_u_n (by omega), d_u_n (by omega), d_u_n (by omega), d_u_n (by omega), d_u_n (by omega), d_u_t]
  · rw [d_u_n (by omega), d_u_n (by omega), d_u_n (by omega), d_u_n (by omega), d_u_t]
  · rw [d_u_n (by omega), d_u_n (by omega), d_u_n (by omega), d_u_t]
  · rw [d_u_n (by omega), d_u_n (by omega), d_u_t]
  · rw [d_u_n (by omega), d_u_t]
  · rw [d_u_t]
theorem v_p6_i {f f' : Nat → Int} {p q k : Nat} {a b c d e g : Int} (h : k < 6) : v_p6 f p a b c d e g (p + k) = v_p6 f' q a b c d e g (q + k) := by
  obtain ⟨a0, a1, a2, a3, a4, a5⟩ := v_p6_v (f := f) (p := p) (a := a) (b := b) (c := c) (d := d) (e := e) (g := g)
  obtain ⟨b0, b1, b2, b3, b4, b5⟩ := v_p6_v (f := f') (p := q) (a := a) (b := b) (c := c) (d := d) (e := e) (g := g)
  have : k = 0 ∨ k = 1 ∨ k = 2 ∨ k = 3 ∨ k = 4 ∨ k = 5 := by omega
  rcases this with rfl | rfl | rfl | rfl | rfl | rfl
  · exact a0.trans b0.symm
  · exact a1.trans b1.symm
  · exact a2.trans b2.symm
  · exact a3.trans b3.symm
  · exact a4.trans b4.symm
  · exact a5.trans b5.symm
theorem v_both {c : Prop} [Decidable c] {α : Type} {Z Y : α} (h : Y = Z) : (if v_b c = 0 then Z else Y) = Z := by
  by_cases q : v_b c = 0
  · rw [if_pos q]
  · rw [if_neg q]; exact h
theorem R_sight (h : v_R t s) {x1 x2 x3 x4 x5 x6 : Int} (r2 : d_R x2) (r3 : d_R x3) : v_AA t (F_X11_sight s x1 x2 x3 x4 x5 x6) (fun s1 => F_X12_sight s1 x1 x2 x3 x4 x5 x6) := by
  have h' := h
  obtain ⟨hW, hI, hW2, hI2, h1, hQ, hX, hN, hr⟩ := h'
  obtain ⟨⟨w0, w1, w2, w3, w5, w6⟩, w4⟩ := hW.1
  have w0 : s.1 3 0 = s.1 65 16 := w0
  have w1 : s.1 3 1 = s.1 65 17 := w1
  have w3 : s.1 3 3 = s.1 65 0 := w3
  obtain ⟨i16, i17, i18, i1, i0, isg⟩ := hI.1
  
  by_cases c1 : 0 ≤ x1 ∧ x1 ≤ 9
  rotate_left
  · refine v_AA.same h (-1) ?_ ?_
    · unfold F_X11_sight F_X11_sight_j81; rw [P_within, d_b_t, v_bf c1, if_pos rfl]
    · show F_X12_sight s x1 x2 x3 x4 x5 x6 = _
      unfold F_X12_sight; rw [P_isIn, d_b_t, v_bf c1, if_pos rfl]
  by_cases c6 : 0 ≤ x6 ∧ x6 ≤ 9
  rotate_left
  · refine v_AA.same h (-1) ?_ ?_
    · unfold F_X11_sight F_X11_sight_j81; rw [P_within, d_b_t, v_bt c1, if_neg (by decide), P_within, d_b_t, v_bf c6, if_pos rfl]
    · show F_X12_sight s x1 x2 x3 x4 x5 x6 = _
      unfold F_X12_sight
      rw [P_isIn, d_b_t]
      refine v_both ?_
      rw [P_isIn, d_b_t]
      refine v_both ?_
      rw [P_isIn, d_b_t]
      refine v_both ?_
      rw [P_isIn, d_b_t]
      refine v_both ?_
      rw [P_isIn, d_b_t]
      refine v_both ?_
      rw [P_isIn, d_b_t, v_bf c6, if_pos rfl]
  by_cases c4 : 1 ≤ x4 ∧ x4 ≤ 3
  rotate_left
  · refine v_AA.same h (-1) ?_ ?_
    · unfold F_X11_sight F_X11_sight_j81; rw [P_within, d_b_t, v_bt c1, if_neg (by decide), P_within, d_b_t, v_bt c6, if_neg (by decide), P_within, d_b_t, v_bf c4, if_pos rfl]
    · show F_X12_sight s x1 x2 x3 x4 x5 x6 = _
      unfold F_X12_sight
      rw [P_isIn, d_b_t]
      refine v_both ?_
      rw [P_isIn, d_b_t]
      refine v_both ?_
      rw [P_isIn, d_b_t]
      refine v_both ?_
      rw [P_isIn, d_b_t, v_bf c4, if_pos rfl]
  by_cases c5 : 1 ≤ x5 ∧ x5 ≤ 3
  rotate_left
  · refine v_AA.same h (-1) ?_ ?_
    · unfold F_X11_sight F_X11_sight_j81; rw [P_within, d_b_t, v_bt c1, if_neg (by decide), P_within, d_b_t, v_bt c6, if_neg (by decide), P_within, d_b_t, v_bt c4, if_neg (by decide), P_within, d_b_t, v_bf c5, if_pos rfl]
    · show F_X12_sight s x1 x2 x3 x4 x5 x6 = _
      unfold F_X12_sight
      rw [P_isIn, d_b_t]
      refine v_both ?_
      rw [P_isIn, d_b_t]
      refine v_both ?_
      rw [P_isIn, d_b_t]
      refine v_both ?_
      rw [P_isIn, d_b_t]
      refine v_both ?_
      rw [P_isIn, d_b_t, v_bf c5, if_pos rfl]
  have hC0 : F_X11_sight s x1 x2 x3 x4 x5 x6 = d_b (F_X11_within x2 0 (d_w ((s.1 3 0) - x4))) (fun v5 => if v5 = 0 then some ((-1), s) else d_b (F_X11_within x3 0 (d_w ((s.1 3 1) - x5))) (fun v6 => if v6 = 0 then some ((-1), s) else if 72 < (d_w ((d_w ((s.1 3 3) * 6)) + 6)) then some ((-1), s) else some (s.1 65 0, d_si (d_st s 4 (v_p6 (s.1 4) (6 * (s.1 65 0).toNat) x1 x2 x3 x4 x5 x6)) 3 3 (s.1 65 0 + 1)))) := by
    unfold F_X11_sight F_X11_sight_j81
    rw [P_within, d_b_t, v_bt c1, if_neg (by decide), P_within, d_b_t, v_bt c6, if_neg (by decide), P_within, d_b_t, v_bt c4, if_neg (by decide), P_within, d_b_t, v_bt c5, if_neg (by decide)]
    congr 1
    funext v5
    by_cases q5 : v5 = 0
    · rw [if_pos q5, if_pos q5]
    rw [if_neg q5, if_neg q5]
    congr 1
    funext v6
    by_cases q6 : v6 = 0
    · rw [if_pos q6, if_pos q6]
    rw [if_neg q6, if_neg q6, w3]
    by_cases q12 : 72 < d_w (d_w (s.1 65 0 * 6) + 6)
    · rw [if_pos q12, if_pos q12]
    rw [if_neg q12, if_neg q12]
    have e0 : d_w (s.1 65 0 * 6) = s.1 65 0 * 6 := d_w_id (by omega) (by omega)
    rw [e0, d_w_id (by omega) (by omega)] at q12
    have ek : ∀ k : Int, 0 ≤ k → k < 6 → d_w (s.1 65 0 * 6 + k) = s.1 65 0 * 6 + k := fun k h1 h2 => d_w_id (by omega) (by omega)
    have tn : ∀ k : Nat, (s.1 65 0 * 6 + (k : Int)).toNat = 6 * (s.1 65 0).toNat + k := fun k => by omega
    have t0 : (s.1 65 0 * 6 + 0).toNat = 6 * (s.1 65 0).toNat := by omega
    have t1 : (s.1 65 0 * 6 + 1).toNat = 6 * (s.1 65 0).toNat + 1 := by omega
    have t2 : (s.1 65 0 * 6 + 2).toNat = 6 * (s.1 65 0).toNat + 2 := by omega
    have t3 : (s.1 65 0 * 6 + 3).toNat = 6 * (s.1 65 0).toNat + 3 := by omega
    have t4 : (s.1 65 0 * 6 + 4).toNat = 6 * (s.1 65 0).toNat + 4 := by omega
    have t5 : (s.1 65 0 * 6 + 5).toNat = 6 * (s.1 65 0).toNat + 5 := by omega
    simp (disch := first | decide | omega) only [e0, ek, d_si_n, w3, d_g_t, d_l_t, t0, t1, t2, t3, t4, t5]
    have hst : d_si (d_si (d_si (d_si (d_si (d_si s 4 (6 * (s.1 65 0).toNat) x1) 4 (6 * (s.1 65 0).toNat + 1) x2) 4 (6 * (s.1 65 0).toNat + 2) x3) 4 (6 * (s.1 65 0).toNat + 3) x4) 4 (6 * (s.1 65 0).toNat + 4) x5) 4 (6 * (s.1 65 0).toNat + 5) x6 = d_st s 4 (v_p6 (s.1 4) (6 * (s.1 65 0).toNat) x1 x2 x3 x4 x5 x6) := by
      refine Prod.ext ?_ rfl
      funext a
      by_cases q : a = 4
      · subst q
        rw [d_si_i, d_si_i, d_si_i, d_si_i, d_si_i, d_si_i, d_st_i]; rfl
      · rw [d_si_n q, d_si_n q, d_si_n q, d_si_n q, d_si_n q, d_si_n q, d_st_n q]
    rw [hst, d_si_i, d_u_t, show d_w (s.1 65 0 + 1) = s.1 65 0 + 1 from d_w_id (by omega) (by omega), d_w_id (by omega) (by omega)]
    congr 1
    exact Prod.ext (by show s.1 65 0 + 1 - 1 = _; omega) rfl
  rw [hC0, w0, w1, w3, show d_w (s.1 65 0 * 6) = s.1 65 0 * 6 from d_w_id (by omega) (by omega), show d_w (s.1 65 0 * 6 + 6) = s.1 65 0 * 6 + 6 from d_w_id (by omega) (by omega), show d_w (s.1 65 16 - x4) = s.1 65 16 - x4 from d_w_id (by omega) (by omega), show d_w (s.1 65 17 - x5) = s.1 65 17 - x5 from d_w_id (by omega) (by omega), P_within, d_b_t, P_within]
  
  have hD0 : ∀ s1 : d_S, s1.1 65 = s.1 65 → (0 ≤ x2 ∧ x2 ≤ 7) → (0 ≤ x3 ∧ x3 ≤ 7) → F_X12_sight s1 x1 x2 x3 x4 x5 x6 = if s.1 65 16 < x2 + x4 then some ((-1), s1) else if s.1 65 17 < x3 + x5 then some ((-1), s1) else if s.1 65 0 = 12 then some ((-1), s1) else some (s.1 65 0, d_si (d_st s1 65 (v_p6 (s.1 65) (212 + 6 * (s.1 65 0).toNat) x1 x2 x3 x4 x5 x6)) 65 0 (s.1 65 0 + 1)) := by
    intro s1 e65 c2 c3
    unfold F_X12_sight
    rw [P_isIn, d_b_t, v_bt c1, if_neg (by decide), P_isIn, d_b_t, v_bt c2, if_neg (by decide), P_isIn, d_b_t, v_bt c3, if_neg (by decide), P_isIn, d_b_t, v_bt c4, if_neg (by decide), P_isIn, d_b_t, v_bt c5, if_neg (by decide), P_isIn, d_b_t, v_bt c6, if_neg (by decide), e65, d_w_id (by omega) (by omega), d_w_id (by omega) (by omega)]
    by_cases q1 : s.1 65 16 < x2 + x4
    · rw [if_pos q1, if_pos q1]
    rw [if_neg q1, if_neg q1]
    by_cases q2 : s.1 65 17 < x3 + x5
    · rw [if_pos q2, if_pos q2]
    rw [if_neg q2, if_neg q2]
    by_cases q3 : s.1 65 0 = 12
    · rw [if_pos q3, if_pos q3]
    rw [if_neg q3, if_neg q3, d_w_id (by omega) (by omega), d_l_t]
    have ek : ∀ k : Int, 0 ≤ k → k < 6 → d_w (212 + 6 * s.1 65 0 + k) = 212 + 6 * s.1 65 0 + k := fun k h1 h2 => d_w_id (by omega) (by omega)
    have t0 : (212 + 6 * s.1 65 0).toNat = 212 + 6 * (s.1 65 0).toNat := by omega
    have t1 : (212 + 6 * s.1 65 0 + 1).toNat = 212 + 6 * (s.1 65 0).toNat + 1 := by omega
    have t2 : (212 + 6 * s.1 65 0 + 2).toNat = 212 + 6 * (s.1 65 0).toNat + 2 := by omega
    have t3 : (212 + 6 * s.1 65 0 + 3).toNat = 212 + 6 * (s.1 65 0).toNat + 3 := by omega
    have t4 : (212 + 6 * s.1 65 0 + 4).toNat = 212 + 6 * (s.1 65 0).toNat + 4 := by omega
    have t5 : (212 + 6 * s.1 65 0 + 5).toNat = 212 + 6 * (s.1 65 0).toNat + 5 := by omega
    simp (disch := first | decide | omega) only [ek, d_g_t, d_l_t, t0, t1, t2, t3, t4, t5]
    have hst : d_si (d_si (d_si (d_si (d_si (d_si s1 65 (212 + 6 * (s.1 65 0).toNat) x1) 65 (212 + 6 * (s.1 65 0).toNat + 1) x2) 65 (212 + 6 * (s.1 65 0).toNat + 2) x3) 65 (212 + 6 * (s.1 65 0).toNat + 3) x4) 65 (212 + 6 * (s.1 65 0).toNat + 4) x5) 65 (212 + 6 * (s.1 65 0).toNat + 5) x6 = d_st s1 65 (v_p6 (s.1 65) (212 + 6 * (s.1 65 0).toNat) x1 x2 x3 x4 x5 x6) := by
      refine Prod.ext ?_ rfl
      funext a
      by_cases q : a = 65
      · subst q
        rw [d_si_i, d_si_i, d_si_i, d_si_i, d_si_i, d_si_i, d_st_i, e65]; rfl
      · rw [d_si_n q, d_si_n q, d_si_n q, d_si_n q, d_si_n q, d_si_n q, d_st_n q]
    rw [hst, d_si_i, d_u_t, d_st_i, v_p6_o (by omega), show d_w (s.1 65 0 + 1) = s.1 65 0 + 1 from d_w_id (by omega) (by omega), d_w_id (by omega) (by omega)]
    congr 1
    exact Prod.ext (by show s.1 65 0 + 1 - 1 = _; omega) rfl
  have hDn : ∀ (s1 : d_S), ¬ ((0 ≤ x2 ∧ x2 ≤ 7) ∧ (0 ≤ x3 ∧ x3 ≤ 7)) → F_X12_sight s1 x1 x2 x3 x4 x5 x6 = some (-1, s1) := by
    intro s1 hn
    unfold F_X12_sight
    rw [P_isIn, d_b_t, v_bt c1, if_neg (by decide), P_isIn, d_b_t]
    by_cases q2 : 0 ≤ x2 ∧ x2 ≤ 7
    · rw [v_bt q2, if_neg (by decide), P_isIn, d_b_t, v_bf (by omega), if_pos rfl]
    · rw [v_bf q2, if_pos rfl]
  have hS := hW.S hI
  by_cases c2 : 0 ≤ x2 ∧ x2 ≤ s.1 65 16 - x4
  rotate_left
  · refine v_AA.same h (-1) (by rw [v_bf c2, if_pos rfl]) ?_
    show F_X12_sight s x1 x2 x3 x4 x5 x6 = _
    by_cases q : (0 ≤ x2 ∧ x2 ≤ 7) ∧ (0 ≤ x3 ∧ x3 ≤ 7)
    · rw [hD0 s rfl q.1 q.2, if_pos (by omega)]
    · exact hDn s q
  rw [v_bt c2, if_neg (by decide), d_b_t]
  by_cases c3 : 0 ≤ x3 ∧ x3 ≤ s.1 65 17 - x5
  rotate_left
  · refine v_AA.same h (-1) (by rw [v_bf c3, if_pos rfl]) ?_
    show F_X12_sight s x1 x2 x3 x4 x5 x6 = _
    by_cases q : (0 ≤ x2 ∧ x2 ≤ 7) ∧ (0 ≤ x3 ∧ x3 ≤ 7)
    · rw [hD0 s rfl q.1 q.2, if_neg (by omega), if_pos (by omega)]
    · exact hDn s q
  rw [v_bt c3, if_neg (by decide)]
  by_cases c12 : s.1 65 0 = 12
  · refine v_AA.same h (-1) (by rw [if_pos (by omega)]) ?_
    show F_X12_sight s x1 x2 x3 x4 x5 x6 = _
    rw [hD0 s rfl (by omega) (by omega), if_neg (by omega), if_neg (by omega), if_pos c12]
  rw [if_neg (by omega)]
  obtain ⟨N, hNN⟩ : ∃ N : Nat, s.1 65 0 = N := ⟨(s.1 65 0).toNat, by omega⟩
  obtain ⟨s1, hs1⟩ : ∃ z, z = d_si (d_st s 4 (v_p6 (s.1 4) (6 * (s.1 65 0).toNat) x1 x2 x3 x4 x5 x6)) 3 3 (s.1 65 0 + 1) := ⟨_, rfl⟩
  have so : ∀ a, a ≠ 3 → a ≠ 4 → s1.1 a = s.1 a := fun a h1 h2 => by rw [hs1, d_si_n h1, d_st_n h2]
  have s65 : s1.1 65 = s.1 65 := so 65 (by decide) (by decide)
  obtain ⟨s2, hs2⟩ : ∃ z, z = d_si (d_st s1 65 (v_p6 (s.1 65) (212 + 6 * (s.1 65 0).toNat) x1 x2 x3 x4 x5 x6)) 65 0 (s.1 65 0 + 1) := ⟨_, rfl⟩
  have eo : ∀ a, a ≠ 65 → s2.1 a = s1.1 a := fun a ha => by rw [hs2, d_si_n ha, d_st_n ha]
  have fo : ∀ a, a ≠ 3 → a ≠ 4 → a ≠ 65 → s2.1 a = s.1 a := fun a h1 h2 h3 => (eo a h3).trans (so a h1 h2)
  have e65 : ∀ k, s2.1 65 k = d_u (v_p6 (s.1 65) (212 + 6 * N) x1 x2 x3 x4 x5 x6) 0 (N + 1) k := fun k => by rw [hs2, d_si_i, d_st_i, hNN]; rfl
  have e00 : s2.1 65 0 = N + 1 := by rw [e65, d_u_t]
  have eA : ∀ k, k ≠ 0 → (k < 212 + 6 * N ∨ 212 + 6 * N + 6 ≤ k) → s2.1 65 k = s.1 65 k := fun k h0 hk => by rw [e65, d_u_n h0, v_p6_o hk]
  have eN : ∀ k, s2.1 65 (212 + 6 * N + k) = v_p6 (s.1 65) (212 + 6 * N) x1 x2 x3 x4 x5 x6 (212 + 6 * N + k) := fun k => by rw [e65, d_u_n (by omega)]
  have f3 : ∀ k, s2.1 3 k = d_u (s.1 3) 3 (N + 1) k := fun k => by rw [eo 3 (by decide), hs1, d_si_i, d_st_n (by decide), hNN]
  have f4 : s2.1 4 = v_p6 (s.1 4) (6 * N) x1 x2 x3 x4 x5 x6 := by rw [eo 4 (by decide), hs1, d_si_n (by decide), d_st_i, hNN]; rfl
  have ep : s2.2 = s.2 := by rw [hs2, hs1]; rfl
  have hN12 : N < 12 := by omega
  refine ⟨s.1 65 0, s1, s2, by rw [hs1], ?_, ⟨⟨?_, ?_, ?_, ?_⟩, ⟨?_, ?_, ?_, ?_⟩, ?_, ?_, ?_, ?_, ?_, ?_, ?_⟩⟩
  · show F_X12_sight s1 x1 x2 x3 x4 x5 x6 = _
    rw [hD0 s1 s65 (by omega) (by omega), if_neg (by omega), if_neg (by omega), if_neg c12, hs2]
  · refine ⟨⟨?_, ?_, ?_, ?_, ?_, ?_⟩, fun n k hn hk => ?_⟩
    · show s2.1 3 0 = _; rw [f3, d_u_n (by decide), eA 16 (by decide) (by omega)]; exact w0
    · show s2.1 3 1 = _; rw [f3, d_u_n (by decide), eA 17 (by decide) (by omega)]; exact w1
    · show s2.1 3 2 = _; rw [f3, d_u_n (by decide), eA 18 (by decide) (by omega)]; exact w2
    · show s2.1 3 3 = _; rw [f3, d_u_t, e00]
    · show s2.1 3 5 = _; rw [f3, d_u_n (by decide), eA 1 (by decide) (by omega)]; exact w5
    · show s2.1 3 6 = _; rw [f3, d_u_n (by decide), eA 2 (by decide) (by omega)]; exact w6
    · show s2.1 4 (6 * n + k) = _
      rw [e00] at hn
      by_cases q : n = N
      · subst q
        rw [eN, f4]; exact v_p6_i hk
      · rw [eA _ (by omega) (by omega), f4, v_p6_o (by omega)]
        exact w4 n k (by omega) hk
  · exact hW.2.1.fr (fo 6 (by decide) (by decide) (by decide)) (fo 7 (by decide) (by decide) (by decide)) (fun j hj => eA j (by omega) (by omega))
  · exact hW.2.2.1.fr (fo 8 (by decide) (by decide) (by decide)) (fo 9 (by decide) (by decide) (by decide)) (eA 3 (by decide) (by omega)) (eA 16 (by decide) (by omega)) (eA 17 (by decide) (by omega)) (fun j h1 h2 => eA j (by omega) (by omega))
  · exact hW.2.2.2.fr hI.2.2.1 (fun a h1 h2 => fo a (by omega) (by omega) (by omega)) (fun j hj => eA j (by omega) (by omega))
  · refine ⟨by rw [eA 16 (by decide) (by omega)]; exact i16, by rw [eA 17 (by decide) (by omega)]; exact i17, by rw [eA 18 (by decide) (by omega)]; exact i18, by rw [eA 16 (by decide) (by omega), eA 17 (by decide) (by omega), eA 18 (by decide) (by omega)]; exact i1, by rw [e00]; omega, fun n hn => ?_⟩
    rw [e00] at hn
    rw [eA 16 (by decide) (by omega), eA 17 (by decide) (by omega)]
    by_cases q : n = N
    · subst q
      obtain ⟨p0, p1, p2, p3, p4, p5⟩ := v_p6_v (f := s.1 65) (p := 212 + 6 * n) (a := x1) (b := x2) (c := x3) (d := x4) (e := x5) (g := x6)
      have z0 : s2.1 65 (212 + 6 * n + 0) = x1 := (eN 0).trans p0
      have z1 : s2.1 65 (212 + 6 * n + 1) = x2 := (eN 1).trans p1
      have z2 : s2.1 65 (212 + 6 * n + 2) = x3 := (eN 2).trans p2
      have z3 : s2.1 65 (212 + 6 * n + 3) = x4 := (eN 3).trans p3
      have z4 : s2.1 65 (212 + 6 * n + 4) = x5 := (eN 4).trans p4
      have z5 : s2.1 65 (212 + 6 * n + 5) = x6 := (eN 5).trans p5
      rw [z1, z2, z3, z4]
      refine ⟨fun k hk => ?_, by omega, by omega, by omega, by omega⟩
      have : k = 0 ∨ k = 1 ∨ k = 2 ∨ k = 3 ∨ k = 4 ∨ k = 5 := by omega
      rcases this with rfl | rfl | rfl | rfl | rfl | rfl
      · rw [z0]; omega
      · rw [z1]; omega
      · rw [z2]; omega
      · rw [z3]; omega
      · rw [z4]; omega
      · rw [z5]; omega
    · have hA2 : ∀ k, k < 6 → s2.1 65 (212 + 6 * n + k) = s.1 65 (212 + 6 * n + k) := fun k hk => eA _ (by omega) (by omega)
      rw [hA2 1 (by decide), hA2 2 (by decide), hA2 3 (by decide), hA2 4 (by decide)]
      obtain ⟨g1, g2⟩ := isg n (by omega)
      exact ⟨fun k hk => by rw [hA2 k hk]; exact g1 k hk, g2⟩
  · exact hI.2.1.fr (fun j h1 h2 => eA j (by omega) (by omega))
  · exact hI.2.2.1.fr (fun j hj => eA j (by omega) (by omega))
  · have ew : v_wi (s2.1 65) = v_wi (s.1 65) := by unfold v_wi; rw [eA 16 (by decide) (by omega)]
    have eh : v_hi (s2.1 65) = v_hi (s.1 65) := by unfold v_hi; rw [eA 17 (by decide) (by omega)]
    rw [ew, eh]
    obtain ⟨b0, b1, b3, b4, u, v, b5, b6, b7⟩ := hI.2.2.2
    refine ⟨?_, ?_, ?_, ?_, u, v, ?_, ?_, b7⟩
    · show 0 ≤ s2.1 65 9 ∧ s2.1 65 9 ≤ 999; rw [eA 9 (by decide) (by omega)]; exact b0
    · show 0 ≤ s2.1 65 10 ∧ s2.1 65 10 ≤ 9; rw [eA 10 (by decide) (by omega)]; exact b1
    · show 0 ≤ s2.1 65 12 ∧ s2.1 65 12 ≤ 99; rw [eA 12 (by decide) (by omega)]; exact b3
    · show 0 ≤ s2.1 65 13 ∧ s2.1 65 13 < 30293; rw [eA 13 (by decide) (by omega)]; exact b4
    · show s2.1 65 14 = _; rw [eA 14 (by decide) (by omega)]; exact b5
    · show s2.1 65 15 = _; rw [eA 15 (by decide) (by omega)]; exact b6
  · rw [fo 66 (by decide) (by decide) (by decide)]
    exact hW2.fr (fun a h1 h2 => fo a (by omega) (by omega) (by omega)) hI2
  · rw [fo 66 (by decide) (by decide) (by decide)]; exact hI2
  · rw [fo 66 (by decide) (by decide) (by decide), eA 1 (by decide) (by omega)]; exact h1
  · have eu : v_u (s2.1 65) = v_u (s.1 65) ∧ v_v (s2.1 65) = v_v (s.1 65) ∧ v_wi (s2.1 65) = v_wi (s.1 65) ∧ v_hi (s2.1 65) = v_hi (s.1 65) := by
      unfold v_u v_v v_wi v_hi
      rw [eA 14 (by decide) (by omega), eA 15 (by decide) (by omega), eA 16 (by decide) (by omega), eA 17 (by decide) (by omega)]
      exact ⟨rfl, rfl, rfl, rfl⟩
    rw [eu.1, eu.2.1, eu.2.2.1, eu.2.2.2]
    exact hQ.fr (fun a h1 h2 => fo a (by omega) (by omega) (by omega))
  · exact hX.fr (eA 1 (by decide) (by omega)) (fo 66 (by decide) (by decide) (by decide)) (fo 67 (by decide) (by decide) (by decide)) (by rw [ep]) (by rw [ep])
  · rw [fo 49 (by decide) (by decide) (by decide), fo 71 (by decide) (by decide) (by decide)]; exact hN
  · exact hr.fr (fo 43 (by decide) (by decide) (by decide)) (fo 44 (by decide) (by decide) (by decide)) (fo 64 (by decide) (by decide) (by decide)) (fo 68 (by decide) (by decide) (by decide))
end V17

section V36
variable {s s1 s2 : d_S} {t : Nat → Option p_C}
theorem R_whoseLaw (h : v_R t s) : v_AA t (F_X11_whoseLaw t s) (fun s1 => F_X12_whoseLaw s1) := by
  have h' := h
  obtain ⟨hW, hI, -, -, -, -, ⟨r, hr, -⟩, hN, -⟩ := h'
  have hG := hI.G
  have hB := hI.B
  have hM := hW.M hI
  have hQ := h.2.2.2.2.2.1
  obtain ⟨e0, L0, hE, -, -, hY, hN1, hN2, h9, h10⟩ := h.yardly
  obtain ⟨⟨-, -, -, -, w5, w6⟩, -⟩ := hW.1
  have w5 : s.1 3 5 = s.1 65 1 := w5
  obtain ⟨-, -, -, -, -, g1, g2⟩ := hW.2.2.2
  have g1 : s.1 18 2 = s.1 65 8 := g1
  obtain ⟨t1, t2, -, -, -, -, k8, -, -, -, -, q8⟩ := hI.2.2.1
  obtain ⟨n, hn⟩ : ∃ n : Nat, s.1 65 8 = n := ⟨(s.1 65 8).toNat, by omega⟩
  obtain ⟨N, hNt⟩ : ∃ N : Nat, s.1 65 1 = N := ⟨(s.1 65 1).toNat, by omega⟩
  have hn8 : n ≤ 8 := by omega
  have hN4 : N ≤ 4 := by omega
  have hIm : ∀ j : Nat, j < n → (0 ≤ s.1 65 (355 + 4 * j) ∧ s.1 65 (355 + 4 * j) ≤ 63) ∧ (0 ≤ s.1 65 (356 + 4 * j) ∧ s.1 65 (356 + 4 * j) ≤ 9) ∧ (0 ≤ s.1 65 (357 + 4 * j) ∧ s.1 65 (357 + 4 * j) ≤ 9) := fun j hj => by
    have := q8 j (by omega)
    exact ⟨this.1, this.2.1, this.2.2.1⟩
  have hP : ∀ k, v_laws (s.1 65) r (v_u (s.1 65)) (v_v (s.1 65)) (v_wi (s.1 65)) (v_hi (s.1 65)) (v_me (s.1 65)) k ↔ ∀ i, i < n → v_law (s.1 65) (r k).2.2.2 (v_u (s.1 65)) (v_v (s.1 65)) (v_wi (s.1 65)) (v_hi (s.1 65)) (v_me (s.1 65)) i := fun k => by
    unfold v_laws
    rw [hn]
    exact ⟨fun e i hi => e i (by omega), fun e i hi => e i (by omega)⟩
  have hcf : v_cf s s := ⟨fun _ _ _ _ => rfl, fun _ _ => rfl, hN1⟩
  
  have lC : ∀ (j k m : Nat), k + j = N → j < m → ∀ s1, v_cf s s1 → ∃ s', F_X11_whoseLaw_l4 t m ((v_sb (v_laws (s.1 65) r (v_u (s.1 65)) (v_v (s.1 65)) (v_wi (s.1 65)) (v_hi (s.1 65)) (v_me (s.1 65))) k : Nat) : Int) (k : Int) s1 = some (((v_sb (v_laws (s.1 65) r (v_u (s.1 65)) (v_v (s.1 65)) (v_wi (s.1 65)) (v_hi (s.1 65)) (v_me (s.1 65))) N : Nat) : Int), s') ∧ v_cf s s' := by
    intro j
    induction j with
    | zero =>
      intro k m hk hm s1 hc
      obtain ⟨m, rfl⟩ : ∃ q, m = q + 1 := ⟨m - 1, by omega⟩
      have hk : k = N := by omega
      subst hk
      refine ⟨s1, ?_, hc⟩
      show F_X11_whoseLaw_l4_b t (F_X11_whoseLaw_l4 t m) _ _ s1 = _
      unfold F_X11_whoseLaw_l4_b
      rw [hc.1 3 (by decide) (by decide) (by decide), w5, hNt, if_neg (by omega)]
    | succ j ih =>
      intro k m hk hm s1 hc
      obtain ⟨m, rfl⟩ : ∃ q, m = q + 1 := ⟨m - 1, by omega⟩
      have hkN : k < N := by omega
      obtain ⟨-, b, hb, hC⟩ := hr k (by omega)
      have hta : F_X9_textAt_3 s1 (k : Int) = some (some b) := by
        rw [P_textAt (A := s.1 65) (by rw [hc.1 3 (by decide) (by decide) (by decide)]; exact w5) t1, if_pos (by omega), hc.2.1 5 (by decide), Int.toNat_natCast, hb]
      obtain ⟨s2, y, a1, a2, a3⟩ := v_allC (t := t) (L := (r k).2.2.2) (e := some b) hM hQ hE (heat := s.1 65 10) (x := s.1 65 13) hY hC.2.2.2.2 hn hn8 (by rw [g1, hn]) (fun j i hj hi => g2 j i (by omega) hi) hIm n 0 d_N (by omega) (by rw [d_N_is]; omega) s1 hc (fun i hi => absurd hi (Nat.not_lt_zero i))
      obtain ⟨s', r1, r2⟩ := ih (k + 1) m (by omega) (by omega) s2 a2
      have hlt : v_sb (v_laws (s.1 65) r (v_u (s.1 65)) (v_v (s.1 65)) (v_wi (s.1 65)) (v_hi (s.1 65)) (v_me (s.1 65))) k < 2 ^ k := v_sb_lt k
      have h12 := v_2p (n := k) (by omega)
      refine ⟨s', ?_, r2⟩
      show F_X11_whoseLaw_l4_b t (F_X11_whoseLaw_l4 t m) _ _ s1 = _
      unfold F_X11_whoseLaw_l4_b
      rw [hc.1 3 (by decide) (by decide) (by decide), w5, hNt, if_pos (by omega), hta, d_b_t]
      rw [show F_X11_allSoBy t s1 (some b) = some (y, s2) from a1, d_b2_t, d_w_id (x := (k : Int) + 1) (by omega) (by omega)]
      simp only [v_sb] at r1
      rcases a3 with ⟨e1, e2⟩ | ⟨e1, e2⟩
      · rw [if_pos ((hP k).2 e2)] at r1
        rw [e1, v_bit1_, d_b_t, v_or1 (by omega) hlt]
        exact r1
      · rw [if_neg (fun e => e2 ((hP k).1 e))] at r1
        rw [e1, v_bit0_, d_b_t, v_0shl (by omega), v_or0 ⟨by omega, by omega⟩]
        exact r1
  
  have lR : ∀ (j k m : Nat), k + j = N → j < m → ∀ s0 s1, s0.1 65 = s.1 65 → s0.1 67 = s.1 67 → v_71 s0 s1 → v_Nm (s1.1 71) → ∃ s', F_X12_whoseLaw_l4 m ((v_sb (v_laws (s.1 65) r (v_u (s.1 65)) (v_v (s.1 65)) (v_wi (s.1 65)) (v_hi (s.1 65)) (v_me (s.1 65))) k : Nat) : Int) (k : Int) s1 = some (((v_sb (v_laws (s.1 65) r (v_u (s.1 65)) (v_v (s.1 65)) (v_wi (s.1 65)) (v_hi (s.1 65)) (v_me (s.1 65))) N : Nat) : Int), s') ∧ v_71 s0 s' ∧ v_Nm (s'.1 71) := by
    intro j
    induction j with
    | zero =>
      intro k m hk hm s0 s1 h65 h67 hc hN
      obtain ⟨m, rfl⟩ : ∃ q, m = q + 1 := ⟨m - 1, by omega⟩
      have hk : k = N := by omega
      subst hk
      refine ⟨s1, ?_, hc, hN⟩
      show F_X12_whoseLaw_l4_b (F_X12_whoseLaw_l4 m) _ _ s1 = _
      unfold F_X12_whoseLaw_l4_b
      rw [hc.1 65 (by decide), h65, hNt, if_neg (by omega)]
    | succ j ih =>
      intro k m hk hm s0 s1 h65 h67 hc hN
      obtain ⟨m, rfl⟩ : ∃ q, m = q + 1 := ⟨m - 1, by omega⟩
      have hkN : k < N := by omega
      obtain ⟨hD, -⟩ := hr k (by omega)
      obtain ⟨s2, y, a1, a2, a3, a4⟩ := v_allR (s := s0) (p := k) (L := (r k).2.2.2) (by rw [h65]; exact hG) (by rw [h65]; exact hB) (by rw [h67]; exact hD.2.2) (by rw [h65]; exact hn) hn8 (by rw [h65]; exact h9) (by rw [h65]; exact hIm) n 0 d_N (by omega) (by rw [d_N_is]; omega) s1 hc hN (fun i hi => absurd hi (Nat.not_lt_zero i))
      rw [h65] at a4
      obtain ⟨s', r1, r2, r3⟩ := ih (k + 1) m (by omega) (by omega) s0 s2 h65 h67 a2 a3
      have hlt : v_sb (v_laws (s.1 65) r (v_u (s.1 65)) (v_v (s.1 65)) (v_wi (s.1 65)) (v_hi (s.1 65)) (v_me (s.1 65))) k < 2 ^ k := v_sb_lt k
      have h12 := v_2p (n := k) (by omega)
      refine ⟨s', ?_, r2, r3⟩
      show F_X12_whoseLaw_l4_b (F_X12_whoseLaw_l4 m) _ _ s1 = _
      unfold F_X12_whoseLaw_l4_b
      rw [hc.1 65 (by decide), h65, hNt, if_pos (by omega), show F_X12_isLaw s1 (k : Int) = some (y, s2) from a1, d_b2_t, d_w_id (x := (k : Int) + 1) (by omega) (by omega)]
      simp only [v_sb] at r1
      rcases a4 with ⟨e1, e2⟩ | ⟨e1, e2⟩
      · rw [if_pos ((hP k).2 e2)] at r1
        rw [e1, if_neg (by decide), v_or1 (by omega) hlt]
        exact r1
      · rw [if_neg (fun e => e2 ((hP k).1 e))] at r1
        rw [e1, if_pos rfl, v_or0 ⟨by omega, by omega⟩]
        exact r1
  obtain ⟨s1, a1, a2⟩ := lC N 0 d_N (by omega) (by rw [d_N_is]; omega) s hcf
  obtain ⟨s2, b1, b2, b3⟩ := lR N 0 d_N (by omega) (by rw [d_N_is]; omega) s1 s1 (a2.1 65 (by decide) (by decide) (by decide)) (a2.1 67 (by decide) (by decide) (by decide)) ⟨fun _ _ => rfl, rfl, fun h => h⟩ (by rw [a2.1 71 (by decide) (by decide) (by decide)]; exact hN2)
  exact ⟨_, s1, s2, a1, b1, h.scr2 a2.1 a2.2.1 b2 a2.2.2⟩
end V36

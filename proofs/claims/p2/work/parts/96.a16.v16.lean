def v_AA (t : Nat → Option p_C) (C : Option (Int × d_S)) (D : d_S → Option (Int × d_S)) : Prop := ∃ v s1 s2, C = some (v, s1) ∧ D s1 = some (v, s2) ∧ v_R t s2
section V16
variable {s : d_S} {t : Nat → Option p_C}
theorem v_AA.same {C : Option (Int × d_S)} {D : d_S → Option (Int × d_S)} (h : v_R t s) (v : Int) (h1 : C = some (v, s)) (h2 : D s = some (v, s)) : v_AA t C D := ⟨v, s, s, h1, h2, h⟩
theorem R_pond (h : v_R t s) {x y : Int} : v_AA t (F_X11_pond s x y) (fun s1 => F_X12_pond s1 x y) := by
  have h' := h
  obtain ⟨hW, hI, hW2, hI2, h1, hQ, hX, hN, hr⟩ := h'
  obtain ⟨⟨w0, w1, w2, w3, w5, w6⟩, w4⟩ := hW.1
  have w0 : s.1 3 0 = s.1 65 16 := w0
  have w1 : s.1 3 1 = s.1 65 17 := w1
  have w2 : s.1 3 2 = s.1 65 18 := w2
  have y0 : s.1 6 0 = s.1 65 14 := hW.2.1.1 0 (by decide)
  have y1 : s.1 6 1 = s.1 65 15 := hW.2.1.1 1 (by decide)
  obtain ⟨i16, i17, i18, i1, i0, isg⟩ := hI.1
  have hG := hI.G
  by_cases c1 : 2 ≤ x ∧ x ≤ 8
  rotate_left
  · refine v_AA.same h 0 ?_ ?_
    · unfold F_X11_pond; rw [P_within, d_b_t, v_bf c1, if_pos rfl]
    · show F_X12_pond s x y = _
      unfold F_X12_pond; rw [P_isIn, d_b_t, v_bf c1, if_pos rfl]
  by_cases c2 : 2 ≤ y ∧ y ≤ 8
  rotate_left
  · refine v_AA.same h 0 ?_ ?_
    · unfold F_X11_pond; rw [P_within, d_b_t, v_bt c1, if_neg (by decide), P_within, d_b_t, v_bf c2, if_pos rfl]
    · show F_X12_pond s x y = _
      unfold F_X12_pond; rw [P_isIn, d_b_t, v_bt c1, if_neg (by decide), P_isIn, d_b_t, v_bf c2, if_pos rfl]
  by_cases c3 : s.1 65 18 = 0
  rotate_left
  · refine v_AA.same h 0 ?_ ?_
    · unfold F_X11_pond; rw [P_within, d_b_t, v_bt c1, if_neg (by decide), P_within, d_b_t, v_bt c2, if_neg (by decide), w2, if_neg c3]
    · show F_X12_pond s x y = _
      unfold F_X12_pond; rw [P_isIn, d_b_t, v_bt c1, if_neg (by decide), P_isIn, d_b_t, v_bt c2, if_neg (by decide), if_pos (by omega)]
  obtain ⟨j16, j17⟩ := i1 c3
  obtain ⟨b0, b1, b3, b4, u, v, b5, b6, hu, hv, hu2, hv2⟩ := hI.2.2.2
  have b5 : s.1 65 14 = u := b5
  have b6 : s.1 65 15 = v := b6
  have ew : v_wi (s.1 65) = 1 := by unfold v_wi; omega
  have eh : v_hi (s.1 65) = 1 := by unfold v_hi; omega
  rw [ew] at hu2
  rw [eh] at hv2
  have u0 : u = 0 := by simpa using hu2
  have v0 : v = 0 := by simpa using hv2
  subst u0
  subst v0
  obtain ⟨z, hz⟩ : ∃ z, z = d_si (d_si (d_si s 3 2 1) 3 0 x) 3 1 y := ⟨_, rfl⟩
  have z3 : ∀ k, z.1 3 k = d_u (d_u (d_u (s.1 3) 2 1) 0 x) 1 y k := fun k => by rw [hz, d_si_i, d_si_i, d_si_i]
  have zo : ∀ a, a ≠ 3 → z.1 a = s.1 a := fun a ha => by rw [hz, d_si_n ha, d_si_n ha, d_si_n ha]
  have zp : z.2 = s.2 := by rw [hz]; rfl
  have hC : v_C z 0 0 x.toNat y.toNat := by
    refine ⟨⟨by rw [zo 6 (by decide), y0]; exact b5, by rw [zo 6 (by decide), y1]; exact b6, ?_, ?_⟩, by decide, by decide, by omega, by omega, Nat.two_pow_pos _, Nat.two_pow_pos _⟩
    · rw [z3]; show x = _; omega
    · rw [z3]; show y = _; omega
  obtain ⟨s1, g1, g2, g3, g4⟩ := P_lay hC
  have so : ∀ a, a ≠ 3 → a ∉ v_L6 → s1.1 a = s.1 a := fun a ha hb => (g2.1 a hb).trans (zo a ha)
  have s3 : s1.1 3 = z.1 3 := g2.1 3 (by decide)
  have s65 : s1.1 65 = s.1 65 := so 65 (by decide) (by decide)
  obtain ⟨s2, hs2⟩ : ∃ q, q = d_si (d_si (d_si s1 65 16 x) 65 17 y) 65 18 1 := ⟨_, rfl⟩
  have e65 : ∀ k, s2.1 65 k = d_u (d_u (d_u (s.1 65) 16 x) 17 y) 18 1 k := fun k => by rw [hs2, d_si_i, d_si_i, d_si_i, s65]
  have eA : ∀ k, k ≠ 16 → k ≠ 17 → k ≠ 18 → s2.1 65 k = s.1 65 k := fun k a b c => by rw [e65, d_u_n c, d_u_n b, d_u_n a]
  have eo : ∀ a, a ≠ 65 → s2.1 a = s1.1 a := fun a ha => by rw [hs2, d_si_n ha, d_si_n ha, d_si_n ha]
  have ep : s2.2 = s.2 := by rw [hs2]; exact g2.2.trans zp
  have e16 : s2.1 65 16 = x := by rw [e65]; rfl
  have e17 : s2.1 65 17 = y := by rw [e65]; rfl
  have e18 : s2.1 65 18 = 1 := by rw [e65]; rfl
  have fo : ∀ a, a ≠ 3 → a ≠ 65 → a ∉ v_L6 → s2.1 a = s.1 a := fun a h1 h2 h3 => (eo a h2).trans (so a h1 h3)
  have f3 : ∀ k, s2.1 3 k = d_u (d_u (d_u (s.1 3) 2 1) 0 x) 1 y k := fun k => by rw [eo 3 (by decide), s3]; exact z3 k
  have wi2 : v_wi (s2.1 65) = x.toNat := by unfold v_wi; rw [e16]
  have hi2 : v_hi (s2.1 65) = y.toNat := by unfold v_hi; rw [e17]
  have u2 : v_u (s2.1 65) = 0 := by unfold v_u; rw [eA 14 (by decide) (by decide) (by decide), b5]; rfl
  have v2 : v_v (s2.1 65) = 0 := by unfold v_v; rw [eA 15 (by decide) (by decide) (by decide), b6]; rfl
  have nl : ∀ a, 10 ≤ a → a ≤ 36 → a ∉ v_L6 := fun a h1 h2 h3 => by
    unfold v_L6 at h3
    simp only [List.mem_cons, List.not_mem_nil, or_false] at h3
    omega
  refine ⟨1, s1, s2, ?_, ?_, ⟨⟨?_, ?_, ?_, ?_⟩, ⟨?_, ?_, ?_, ?_⟩, ?_, ?_, ?_, ?_, ?_, ?_, ?_⟩⟩
  · unfold F_X11_pond
    rw [P_within, d_b_t, v_bt c1, if_neg (by decide), P_within, d_b_t, v_bt c2, if_neg (by decide), w2, if_pos c3, y0, if_pos (show s.1 65 14 = 0 from b5), y1, if_pos (show s.1 65 15 = 0 from b6), d_l_t, d_l_t, d_l_t, ← hz, g1, d_b_t]
  · show F_X12_pond s1 x y = _
    unfold F_X12_pond
    rw [P_isIn, d_b_t, v_bt c1, if_neg (by decide), P_isIn, d_b_t, v_bt c2, if_neg (by decide), s65, if_neg (by omega), d_l_t, d_l_t, d_l_t, hs2]
  · refine ⟨⟨?_, ?_, ?_, ?_, ?_, ?_⟩, fun n k hn hk => ?_⟩
    · show s2.1 3 0 = _; rw [f3, e16]; rfl
    · show s2.1 3 1 = _; rw [f3, e17]; rfl
    · show s2.1 3 2 = _; rw [f3, e18]; rfl
    · show s2.1 3 3 = _; rw [f3, eA 0 (by decide) (by decide) (by decide)]; exact w3
    · show s2.1 3 5 = _; rw [f3, eA 1 (by decide) (by decide) (by decide)]; exact w5
    · show s2.1 3 6 = _; rw [f3, eA 2 (by decide) (by decide) (by decide)]; exact w6
    · show s2.1 4 (6 * n + k) = _
      rw [eA 0 (by decide) (by decide) (by decide)] at hn
      rw [fo 4 (by decide) (by decide) (by decide), eA _ (by omega) (by omega) (by omega)]
      exact w4 n k hn hk
  · exact hW.2.1.fr (fo 6 (by decide) (by decide) (by decide)) (fo 7 (by decide) (by decide) (by decide)) (fun j hj => eA j (by omega) (by omega) (by omega))
  · obtain ⟨n, c, a1, a2, a3⟩ := hW.2.2.1
    refine ⟨n, c, ?_, ?_, ?_⟩
    · show s2.1 8 1 = _; rw [fo 8 (by decide) (by decide) (by decide)]; exact a1
    · show s2.1 8 2 = _; rw [fo 8 (by decide) (by decide) (by decide)]; exact a2
    · show v_Sx (s2.1 9) n c _ _ _
      rw [fo 9 (by decide) (by decide) (by decide), wi2, hi2]
      rw [ew, eh] at a3
      exact (a3.mono (by omega) (by omega)).fr (eA 3 (by decide) (by decide) (by decide)) (fun k h1 h2 => eA k (by omega) (by omega) (by omega))
  · exact hW.2.2.2.fr hI.2.2.1 (fun a h1 h2 => fo a (by omega) (by omega) (nl a (by omega) (by omega))) (fun j hj => eA j (by omega) (by omega) (by omega))
  · refine ⟨by rw [e16]; omega, by rw [e17]; omega, by rw [e18]; omega, by rw [e18]; intro q; omega, by rw [eA 0 (by decide) (by decide) (by decide)]; exact i0, fun n hn => ?_⟩
    rw [eA 0 (by decide) (by decide) (by decide)] at hn
    have hA2 : ∀ k, k < 6 → s2.1 65 (212 + 6 * n + k) = s.1 65 (212 + 6 * n + k) := fun k hk => eA _ (by omega) (by omega) (by omega)
    obtain ⟨g1, g2, g3, g4, g5⟩ := isg n hn
    rw [hA2 1 (by decide), hA2 2 (by decide), hA2 3 (by decide), hA2 4 (by decide), e16, e17]
    exact ⟨fun k hk => by rw [hA2 k hk]; exact g1 k hk, g2, g3, by omega, by omega⟩
  · exact hI.2.1.fr (fun j h1 h2 => eA j (by omega) (by omega) (by omega))
  · exact hI.2.2.1.fr (fun j hj => eA j (by omega) (by omega) (by omega))
  · rw [wi2, hi2]
    refine ⟨?_, ?_, ?_, ?_, 0, 0, ?_, ?_, by decide, by decide, Nat.two_pow_pos _, Nat.two_pow_pos _⟩
    · show 0 ≤ s2.1 65 9 ∧ s2.1 65 9 ≤ 999; rw [eA 9 (by decide) (by decide) (by decide)]; exact b0
    · show 0 ≤ s2.1 65 10 ∧ s2.1 65 10 ≤ 9; rw [eA 10 (by decide) (by decide) (by decide)]; exact b1
    · show 0 ≤ s2.1 65 12 ∧ s2.1 65 12 ≤ 99; rw [eA 12 (by decide) (by decide) (by decide)]; exact b3
    · show 0 ≤ s2.1 65 13 ∧ s2.1 65 13 < 30293; rw [eA 13 (by decide) (by decide) (by decide)]; exact b4
    · show s2.1 65 14 = _; rw [eA 14 (by decide) (by decide) (by decide)]; exact b5
    · show s2.1 65 15 = _; rw [eA 15 (by decide) (by decide) (by decide)]; exact b6
  · rw [fo 66 (by decide) (by decide) (by decide)]
    exact hW2.fr (fun a h1 h2 => fo a (by omega) (by omega) (nl a (by omega) (by omega))) hI2
  · rw [fo 66 (by decide) (by decide) (by decide)]; exact hI2
  · rw [fo 66 (by decide) (by decide) (by decide), eA 1 (by decide) (by decide) (by decide)]; exact h1
  · rw [u2, v2, wi2, hi2]
    have hQ1 : v_Q s1 0 0 x.toNat y.toNat := ⟨g3, g4, by decide, by omega, by omega⟩
    exact hQ1.fr (fun a h1 h2 => eo a (by omega))
  · exact hX.fr (eA 1 (by decide) (by decide) (by decide)) (fo 66 (by decide) (by decide) (by decide)) (fo 67 (by decide) (by decide) (by decide)) (by rw [ep]) (by rw [ep])
  · rw [fo 49 (by decide) (by decide) (by decide), fo 71 (by decide) (by decide) (by decide)]; exact hN
  · exact hr.fr (fo 43 (by decide) (by decide) (by decide)) (fo 44 (by decide) (by decide) (by decide)) (fo 64 (by decide) (by decide) (by decide)) (fo 68 (by decide) (by decide) (by decide))
end V16

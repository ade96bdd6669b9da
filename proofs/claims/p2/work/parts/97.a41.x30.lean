section X30
variable {t t2 : Nat → Option p_C} {s s3 : d_S} {h : p_H}
theorem v_R.texted (H : v_R t s) (fo : ∀ a, (4 ≤ a ∧ a ≤ 42 ∨ 47 ≤ a ∧ a ≤ 63 ∨ a = 66 ∨ a = 71) → s3.1 a = s.1 a) (f3 : ∀ j, j ≠ 5 → s3.1 3 j = s.1 3 j) (eA : ∀ j, j ≠ 1 → s3.1 65 j = s.1 65 j) (e5 : s3.1 3 5 = s3.1 65 1) (e1 : s.1 65 1 ≤ s3.1 65 1) (e4 : s3.1 65 1 ≤ 4) (hX : v_Xt t2 s3) (hXr : v_Xr s3) : v_R t2 s3 := by
  obtain ⟨hW, hI, hW2, hI2, h1, hQ, -, hN, -⟩ := H
  have ew : v_wi (s3.1 65) = v_wi (s.1 65) := by unfold v_wi; rw [eA 16 (by decide)]
  have eh : v_hi (s3.1 65) = v_hi (s.1 65) := by unfold v_hi; rw [eA 17 (by decide)]
  have eu : v_u (s3.1 65) = v_u (s.1 65) := by unfold v_u; rw [eA 14 (by decide)]
  have ev : v_v (s3.1 65) = v_v (s.1 65) := by unfold v_v; rw [eA 15 (by decide)]
  have e66 : s3.1 66 = s.1 66 := fo 66 (by omega)
  have f1 : ∀ a, (4 ≤ a ∧ a ≤ 42 ∨ 47 ≤ a ∧ a ≤ 63 ∨ a = 71) → s3.1 a = s.1 a := fun a ha => fo a (by omega)
  obtain ⟨⟨w0, w1, w2, w3, w5, w6⟩, w4⟩ := hW.1
  refine ⟨⟨⟨⟨?_, ?_, ?_, ?_, ?_, ?_⟩, fun n k hn hk => ?_⟩, hW.2.1.fr (f1 6 (by omega)) (f1 7 (by omega)) (fun j hj => eA j (by omega)), hW.2.2.1.fr (f1 8 (by omega)) (f1 9 (by omega)) (eA 3 (by decide)) (eA 16 (by decide)) (eA 17 (by decide)) (fun j h1 h2 => eA j (by omega)), hW.2.2.2.fr hI.2.2.1 (fun a h1 h2 => f1 a (by omega)) (fun j hj => eA j (by omega))⟩, ⟨hI.1.fr (fun j hj => eA j (by omega)), hI.2.1.fr (fun j h1 h2 => eA j (by omega)), ?_, ?_⟩, ?_, by rw [e66]; exact hI2, by rw [e66]; omega, ?_, hX, ⟨by rw [f1 49 (by omega)]; exact hN.1, by rw [f1 71 (by omega)]; exact hN.2⟩, hXr⟩
  · show s3.1 3 0 = _; rw [f3 0 (by decide), eA 16 (by decide)]; exact w0
  · show s3.1 3 1 = _; rw [f3 1 (by decide), eA 17 (by decide)]; exact w1
  · show s3.1 3 2 = _; rw [f3 2 (by decide), eA 18 (by decide)]; exact w2
  · show s3.1 3 3 = _; rw [f3 3 (by decide), eA 0 (by decide)]; exact w3
  · exact e5
  · show s3.1 3 6 = _; rw [f3 6 (by decide), eA 2 (by decide)]; exact w6
  · show s3.1 4 _ = _
    rw [eA 0 (by decide)] at hn
    rw [f1 4 (by omega), eA _ (by omega)]; exact w4 n k hn hk
  · obtain ⟨k1, k2, k4, k5, k6, k7, k8, g4, g5, g6, g7, g8⟩ := hI.2.2.1
    refine ⟨⟨by omega, e4⟩, by rw [eA 2 (by decide)]; omega, by rw [eA 4 (by decide)]; exact k4, by rw [eA 5 (by decide)]; exact k5, by rw [eA 6 (by decide)]; exact k6, by rw [eA 7 (by decide)]; exact k7, by rw [eA 8 (by decide)]; exact k8, fun j hj => ?_, fun j hj => ?_, fun j hj => ?_, fun j hj => ?_, fun j hj => ?_⟩
    · rw [eA 4 (by decide)] at hj; rw [eA _ (by omega), eA _ (by omega), eA _ (by omega)]; exact g4 j hj
    · rw [eA 5 (by decide)] at hj; rw [eA _ (by omega), eA _ (by omega), eA _ (by omega), eA _ (by omega)]; exact g5 j hj
    · rw [eA 6 (by decide)] at hj; rw [eA _ (by omega)]; exact g6 j hj
    · rw [eA 7 (by decide)] at hj; rw [eA _ (by omega), eA _ (by omega)]; exact g7 j hj
    · rw [eA 8 (by decide)] at hj; rw [eA _ (by omega), eA _ (by omega), eA _ (by omega), eA _ (by omega)]; exact g8 j hj
  · rw [ew, eh]
    obtain ⟨b0, b1, b3, b4, u, v, b5, b6, b7⟩ := hI.2.2.2
    refine ⟨?_, ?_, ?_, ?_, u, v, ?_, ?_, b7⟩
    · show 0 ≤ s3.1 65 9 ∧ s3.1 65 9 ≤ 999; rw [eA 9 (by decide)]; exact b0
    · show 0 ≤ s3.1 65 10 ∧ s3.1 65 10 ≤ 9; rw [eA 10 (by decide)]; exact b1
    · show 0 ≤ s3.1 65 12 ∧ s3.1 65 12 ≤ 99; rw [eA 12 (by decide)]; exact b3
    · show 0 ≤ s3.1 65 13 ∧ s3.1 65 13 < 30293; rw [eA 13 (by decide)]; exact b4
    · show s3.1 65 14 = _; rw [eA 14 (by decide)]; exact b5
    · show s3.1 65 15 = _; rw [eA 15 (by decide)]; exact b6
  · rw [e66]; exact hW2.fr (fun a h1 h2 => f1 a (by omega)) hI2
  · rw [eu, ev, ew, eh]; exact hQ.fr (fun a h1 h2 => f1 a (by omega))
theorem H_text (hW : k_wds t) (hH : d_V t h s) (H : v_R t s) : p_wp p_GT p_MT 41 m_X11_text 0 (lv_args 0 [.ref 2]) [] h (fun v h2 => ∃ t2 s2 x, v = some (.int (Int32.ofInt x)) ∧ d_V t2 h2 s2 ∧ v_tle t t2 ∧ h2.length ≤ h.length + 5 ∧ p_sl h2 ≤ p_sl h + 1973 ∧ ∃ s3, F_X12_text s2 = some (x, s3) ∧ v_R t2 s3) := by
  have H' := H
  obtain ⟨hWW, hI, hW2, hI2, h1, hQ, hX, hN, ⟨x1, x2, x3, x4, x5⟩⟩ := H'
  have w5 : s.1 3 5 = s.1 65 1 := hWW.1.1.2.2.2.2.1
  obtain ⟨k1, k2, -⟩ := hI.2.2.1
  obtain ⟨k, hk⟩ : ∃ k : Nat, s.1 65 1 = (k : Int) := ⟨(s.1 65 1).toNat, by omega⟩
  obtain ⟨n, hn⟩ : ∃ n : Nat, s.1 64 4 = (n : Int) := ⟨(s.1 64 4).toNat, by omega⟩
  obtain ⟨b, hb⟩ : ∃ b : Nat → Nat, b = fun i => if i < 300 then (s.1 68 i).toNat else 0 := ⟨_, rfl⟩
  have b8 : ∀ i, i < 300 → s.1 68 i = (b i : Int) ∧ b i < 256 := by
    intro i hi
    have hm := x3 i hi
    have e : b i = (s.1 68 i).toNat := by rw [hb]; exact if_pos hi
    omega
  have b256 : ∀ i, b i < 256 := by
    intro i
    by_cases hi : i < 300
    · exact (b8 i hi).2
    · rw [hb]; show (if i < 300 then _ else 0) < 256; rw [if_neg hi]; decide
  have hB : k_B b n s := ⟨by rw [x1]; exact hn, by omega, fun i hi => by rw [x3 i hi]; exact (b8 i hi).1, b256⟩
  refine (H_xtext (k := k) hW hH hB (by rw [w5]; exact hk) (by omega)).mono (Nat.le_refl _) ?_
  rintro v h2 ⟨q4, qlt⟩
  by_cases k4 : k = 4
  · obtain ⟨rfl, rfl⟩ := q4 k4
    exact ⟨t, s, -1, rfl, hH, fun _ _ q => q, by omega, by omega, s, P_rtext4 (by rw [hk, k4]; rfl), H⟩
  have klt : k < 4 := by omega
  obtain ⟨t2, s2, hH2, ht2, hl2, hsl2, o1, o3, p1, p5, pl, c1, c2, c3, bad, good⟩ := qlt klt
  have s2o : ∀ a, 47 ≤ a → s2.1 a = s.1 a := fun a ha => o1 a (by omega) (by omega) (by omega) (by omega)
  have hlB : l_B b n s2 := ⟨by rw [s2o 64 (by decide)]; exact hn, by omega, fun i hi => by rw [s2o 68 (by decide)]; exact (b8 i hi).1, b256⟩
  obtain ⟨s3, d1, r1, r2, r3, r4, r5, r6, r7, r8, r9⟩ := P_rtext (k := k) hlB (by rw [s2o 65 (by decide)]; exact hk) klt
  refine ⟨t2, s2, if (t_text b n).1 = 0 then (k : Int) else -1, ?_, hH2, ht2, hl2, hsl2, s3, d1, ?_⟩
  · by_cases r0 : (t_text b n).1 = 0
    · rw [if_pos r0]; exact (good r0).1
    · rw [if_neg r0]; exact (bad r0).1
  have s3o : ∀ a, a ≠ 64 → a ≠ 65 → a ≠ 67 → a ≠ 69 → a ≠ 70 → s3.1 a = s2.1 a := r1
  have fo : ∀ a, a ≠ 3 → a ≠ 43 → a ≠ 45 → a ≠ 46 → a ≠ 64 → a ≠ 65 → a ≠ 67 → a ≠ 69 → a ≠ 70 → s3.1 a = s.1 a := fun a z1 z2 z3 z4 z5 z6 z7 z8 z9 => by rw [s3o a z5 z6 z7 z8 z9, o1 a z1 z2 z3 z4]
  have e33 : s3.1 3 = s2.1 3 := s3o 3 (by decide) (by decide) (by decide) (by decide) (by decide)
  have e343 : s3.1 43 = s2.1 43 := s3o 43 (by decide) (by decide) (by decide) (by decide) (by decide)
  have eA : ∀ j, j ≠ 1 → s3.1 65 j = s.1 65 j := fun j z => by rw [r2 j z, s2o 65 (by decide)]
  have hXr : v_Xr s3 := by
    refine ⟨by rw [e343, c1, r5], by rw [r5]; omega, fun i hi => ?_, by rw [e343, c2, r6], by rw [e343, c3, r7]⟩
    rw [fo 44 (by decide) (by decide) (by decide) (by decide) (by decide) (by decide) (by decide) (by decide) (by decide), fo 68 (by decide) (by decide) (by decide) (by decide) (by decide) (by decide) (by decide) (by decide) (by decide)]
    exact x3 i hi
  have e366 : s3.1 66 = s.1 66 := fo 66 (by decide) (by decide) (by decide) (by decide) (by decide) (by decide) (by decide) (by decide) (by decide)
  have hkeep : ∀ j, j < 777 * k ∨ 777 * k + 777 ≤ j → s3.1 67 j = s.1 67 j := fun j hj => by rw [r4 j hj, s2o 67 (by decide)]
  obtain ⟨r, ra, rb⟩ := hX
  by_cases r0 : (t_text b n).1 = 0
  · obtain ⟨-, g1, a, g2, g3⟩ := good r0
    obtain ⟨o', w', j1, j2, j3, j4, j5⟩ := r9 r0
    rw [if_pos r0] at r8
    refine H.texted (fun a ha => fo a (by omega) (by omega) (by omega) (by omega) (by omega) (by omega) (by omega) (by omega) (by omega)) (fun j z => by rw [e33]; exact o3 j z) eA (by rw [e33, g1, r8]) (by rw [r8, hk]; omega) (by rw [r8]; omega) ?_ hXr
    refine ⟨fun j => if j = k then t_TR b n else r j, fun j hj => ?_, fun j hj => ?_⟩
    · rw [r8] at hj
      by_cases jk : j = k
      · subst jk
        simp only [if_pos rfl]
        exact ⟨l_TD r0 klt j3 j1 j2 j4 j5, a, by rw [r3]; exact g2, g3.TC r0⟩
      · simp only [if_neg jk]
        obtain ⟨a1, b', a2, a3⟩ := ra j (by omega)
        exact ⟨a1.keep a3 (fun i i1 i2 => hkeep i (by omega)), b', by rw [r3, p5 j jk]; exact a2, a3.le ht2⟩
    · rw [e366] at hj
      have jk : ¬ j = k := by omega
      simp only [if_neg jk]
      obtain ⟨b', a2, a3⟩ := rb j hj
      exact ⟨b', by rw [r3, p1 22 (by decide) (by decide)]; exact a2, a3.le ht2⟩
  · obtain ⟨-, g1, g2⟩ := bad r0
    rw [if_neg r0] at r8
    refine H.texted (fun a ha => fo a (by omega) (by omega) (by omega) (by omega) (by omega) (by omega) (by omega) (by omega) (by omega)) (fun j z => by rw [e33]; exact o3 j z) eA (by rw [e33, g1, r8]) (by rw [r8, hk]; omega) (by rw [r8]; omega) ?_ hXr
    refine ⟨r, fun j hj => ?_, fun j hj => ?_⟩
    · rw [r8] at hj
      obtain ⟨a1, b', a2, a3⟩ := ra j (by omega)
      exact ⟨a1.keep a3 (fun i i1 i2 => hkeep i (by omega)), b', by rw [r3, p5 j (by omega)]; exact a2, a3.le ht2⟩
    · rw [e366] at hj
      obtain ⟨b', a2, a3⟩ := rb j hj
      exact ⟨b', by rw [r3, p1 22 (by decide) (by decide)]; exact a2, a3.le ht2⟩
end X30

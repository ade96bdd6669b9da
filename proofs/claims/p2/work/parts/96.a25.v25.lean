section V25
variable {s s' z z' : d_S} {t : Nat → Option p_C}
theorem R_undo (h : v_R t s) : v_AA t (F_X11_undo s) (fun s1 => F_X12_undo s1) := by
  refine v_A2.AA (C := fun s => F_X11_undo s) (fun s z h => ?_) h
  have h' := h
  obtain ⟨hW, hI, -, -, -, hQ, -, hN, -⟩ := h'
  have hI : v_I (z.1 65) := hI
  obtain ⟨n, c, a1, a2, a3⟩ := hW.2.2.1
  have a1 : s.1 8 1 = n := a1
  have a2 : s.1 8 2 = c := a2
  have a3 : v_Sx (s.1 9) n c (z.1 65) (v_wi (z.1 65)) (v_hi (z.1 65)) := a3
  show ∃ v s' z', F_X11_undo s = _ ∧ F_X12_undo z = _ ∧ _
  by_cases c0 : c = 0
  · subst c0
    refine ⟨-1, s, z, ?_, ?_, h, v_fC.rf, v_fR.rf⟩
    · unfold F_X11_undo F_X6_takeBack_8_6
      rw [a2, if_pos (show ((0 : Nat) : Int) = 0 from rfl), d_b2_t, if_pos rfl]
    · unfold F_X12_undo
      rw [a3.2.2.1, if_pos (show ((0 : Nat) : Int) = 0 from rfl)]
  have h1 : 1 ≤ c := by omega
  obtain ⟨s4, g1, g2, g3, g4, g5, g6, g7⟩ := P_takeBack a1 a2 a3.2.1 h1 a3.1
  have hd0 := a3.2.2.2 (c - 1) (by omega)
  rw [show (n + 30 - c + (c - 1)) % 30 = (n + 29) % 30 by have := a3.1; omega] at hd0
  obtain ⟨e1, e2, st, me, so, e3, e4⟩ := hd0
  obtain ⟨z4, r1, r2, r3, r4, r5, r6, r7⟩ := P_undoR a3.2.2.1 h1 a3.1 e3 (fun b hb => (e4 b hb).2)
  obtain ⟨d1, -⟩ := v_Sx.drop (A' := z4.1 65) a3 h1 r2 (fun k h1 h2 => r5 k (by omega) (by omega))
  have w16 : v_wi (z4.1 65) = v_wi (z.1 65) := by unfold v_wi; rw [r5 16 (by decide) (by decide)]
  have w17 : v_hi (z4.1 65) = v_hi (z.1 65) := by unfold v_hi; rw [r5 17 (by decide) (by decide)]
  have hWy : v_Wy s4.1 0 (z4.1 65) := by
    refine ⟨fun i hi => ?_, fun b hb => ?_⟩
    · show s4.1 6 i = _
      rw [g4 i hi, r3 _ (v_mu7 i hi)]
      exact e1 i hi
    · show s4.1 7 b = _
      obtain ⟨⟨b1, b2, b3⟩, -⟩ := r4 b hb
      rw [g5 b hb, (e4 b hb).1, b1, b2, b3]
      unfold v_pk; omega
  have hWs : v_Ws s4.1 0 (z4.1 65) := ⟨(n + 29) % 30, c - 1, g2, g3, by
    show v_Sx (s4.1 9) _ _ _ _ _
    rw [g6 9 (by decide) (by decide) (by decide), w16, w17]
    exact d1⟩
  have hIb : v_Ib (z4.1 65) := by
    intro b hb
    obtain ⟨⟨b1, b2, b3⟩, b4, b5, b6⟩ := r4 b hb
    rw [b1, b2, b3]; omega
  have hyb : v_yb (fun k => z4.1 65 (9 + k)) (v_wi (z.1 65)) (v_hi (z.1 65)) := by
    obtain ⟨b0, b1, b3, b4, u, v, b5, b6, b7⟩ := e2
    refine ⟨?_, ?_, ?_, ?_, u, v, ?_, ?_, b7⟩
    · show 0 ≤ z4.1 65 (9 + 0) ∧ z4.1 65 (9 + 0) ≤ 999; rw [r3 0 (by decide)]; exact b0
    · show 0 ≤ z4.1 65 (9 + 1) ∧ z4.1 65 (9 + 1) ≤ 9; rw [r3 1 (by decide)]; exact b1
    · show 0 ≤ z4.1 65 (9 + 3) ∧ z4.1 65 (9 + 3) ≤ 99; rw [r3 3 (by decide)]; exact b3
    · show 0 ≤ z4.1 65 (9 + 4) ∧ z4.1 65 (9 + 4) < 30293; rw [r3 4 (by decide)]; exact b4
    · show z4.1 65 (9 + 5) = _; rw [r3 5 (by decide)]; exact b5
    · show z4.1 65 (9 + 6) = _; rw [r3 6 (by decide)]; exact b6
  obtain ⟨hG, s5, p1, p2, p3, p4, p5⟩ := v_R.lay h (s4 := s4) (z4 := z4) (fun a _ h6 h7 h8 _ => g6 a h6 h7 h8) (by rw [g7]) r6 (fun j hj => r5 j (by omega) (by omega)) hWy hWs hIb hyb
  have nl : ∀ a, 64 ≤ a → a ∉ v_L6 := fun a h1 h3 => by
    unfold v_L6 at h3
    simp only [List.mem_cons, List.not_mem_nil, or_false] at h3
    omega
  refine ⟨((c - 1 : Nat) : Int), s5, z4, ?_, r1, p3, fun a ha => ?_, ⟨fun a ha => r6 a (by omega), by rw [r7]⟩⟩
  · unfold F_X11_undo
    rw [g1, d_b2_t, if_neg (by decide), p1, d_b_t, p4 8 (by decide), g3]
  · rw [p4 a (nl a ha), g6 a (by omega) (by omega) (by omega)]
end V25

def d_mx (s z : d_S) : d_S := (fun a => bif Nat.blt a 64 then s.1 a else z.1 a, s.2.1, z.2.2)
def v_fC (s s' : d_S) : Prop := ∀ a, 64 ≤ a → s'.1 a = s.1 a
def v_fR (z z' : d_S) : Prop := (∀ a, a < 64 ∨ a = 67 → z'.1 a = z.1 a) ∧ z'.2.1 = z.2.1
def v_A2 (t : Nat → Option p_C) (C D : d_S → Option (Int × d_S)) : Prop := ∀ s z, v_R t (d_mx s z) → ∃ v s' z', C s = some (v, s') ∧ D z = some (v, z') ∧ v_R t (d_mx s' z') ∧ v_fC s s' ∧ v_fR z z'
section V20
variable {s s' z z' s4 z4 : d_S} {t : Nat → Option p_C} {a : Nat} {x : Int}
theorem d_mx_lo (h : a < 64) : (d_mx s z).1 a = s.1 a := by
  show (bif Nat.blt a 64 then s.1 a else z.1 a) = _
  rw [show Nat.blt a 64 = true from Nat.ble_eq_true_of_le h]; rfl
theorem d_mx_hi (h : 64 ≤ a) : (d_mx s z).1 a = z.1 a := by
  show (bif Nat.blt a 64 then s.1 a else z.1 a) = _
  rw [show Nat.blt a 64 = false from by
    cases e : Nat.blt a 64
    · rfl
    · exact absurd (Nat.le_of_ble_eq_true e) (by omega)]; rfl
theorem d_mx_eq (h1 : ∀ a, a < 64 → s'.1 a = s.1 a) (h2 : ∀ a, 64 ≤ a → s'.1 a = z.1 a) (h3 : s'.2.1 = s.2.1) (h4 : s'.2.2 = z.2.2) : d_mx s z = s' := by
  refine Prod.ext (funext fun a => ?_) (Prod.ext h3.symm h4.symm)
  by_cases q : a < 64
  · rw [d_mx_lo q, h1 a q]
  · rw [d_mx_hi (by omega), h2 a (by omega)]
theorem v_fC.tr (h : v_fC s s') (h' : v_fC s' z) : v_fC s z := fun a q => (h' a q).trans (h a q)
theorem v_fR.tr (h : v_fR s s') (h' : v_fR s' z) : v_fR s z := ⟨fun a q => (h'.1 a q).trans (h.1 a q), h'.2.trans h.2⟩
theorem v_fC.rf : v_fC s s := fun _ _ => rfl
theorem v_R.e (h : v_R t s) (h1 : s'.1 = s.1) (h2 : s'.2.1 = s.2.1) : v_R t s' := h.scr (fun a _ => by rw [h1]) (fun a _ => by rw [h2]) (by rw [h1]; exact h.2.2.2.2.2.2.2.1)
theorem v_fR.rf : v_fR s s := ⟨fun _ _ => rfl, rfl⟩
theorem v_A2.AA {C D : d_S → Option (Int × d_S)} (h : v_A2 t C D) (hR : v_R t s) : v_AA t (C s) D := by
  have e0 : d_mx s s = s := d_mx_eq (fun _ _ => rfl) (fun _ _ => rfl) rfl rfl
  obtain ⟨v, s1, z1, a1, a2, a3, a4, a5⟩ := h s s (by rw [e0]; exact hR)
  have e1 : (d_mx s s1).1 = s.1 := funext fun a => by
    by_cases q : a < 64
    · exact d_mx_lo q
    · rw [d_mx_hi (by omega)]; exact a4 a (by omega)
  obtain ⟨v', s2, z2, b1, b2, b3, b4, b5⟩ := h s s1 (hR.e e1 rfl)
  have hp : (v', s2) = (v, s1) := Option.some.inj (b1.symm.trans a1)
  have hv : v' = v := congrArg Prod.fst hp
  have hs : s2 = s1 := congrArg Prod.snd hp
  clear hp
  subst hv
  subst hs
  have e2 : d_mx s2 z2 = z2 := d_mx_eq (fun a q => b5.1 a (Or.inl q)) (fun _ _ => rfl) b5.2 rfl
  exact ⟨v', s2, z2, a1, b2, by rw [← e2]; exact b3⟩
theorem v_R.lay (h : v_R t (d_mx s z)) (c : ∀ a, a < 64 → a ≠ 6 → a ≠ 7 → a ≠ 8 → a ≠ 9 → s4.1 a = s.1 a) (cp : s4.2.1 = s.2.1) (r : ∀ a, a ≠ 65 → z4.1 a = z.1 a) (fA : ∀ j, (j < 3 ∨ 4 ≤ j ∧ j ≤ 8 ∨ 16 ≤ j ∧ j ≤ 18 ∨ 212 ≤ j ∧ j < 387) → z4.1 65 j = z.1 65 j) (hWy : v_Wy s4.1 0 (z4.1 65)) (hWs : v_Ws s4.1 0 (z4.1 65)) (hIb : v_Ib (z4.1 65)) (hyb : v_yb (fun k => z4.1 65 (9 + k)) (v_wi (z.1 65)) (v_hi (z.1 65))) : v_G (z4.1 65) (v_u (z4.1 65)) (v_v (z4.1 65)) (v_wi (z4.1 65)) (v_hi (z4.1 65)) ∧ ∃ s5, F_X4_lay_3 s4 = some s5 ∧ s5.1 37 5 = ((v_bl (v_u (z4.1 65)) (v_v (z4.1 65)) : Nat) : Int) ∧ v_R t (d_mx s5 z4) ∧ (∀ a, a ∉ v_L6 → s5.1 a = s4.1 a) ∧ s5.2 = s4.2 := by
  have h' := h
  obtain ⟨hW, hI, -, -, -, -, -, hN, -⟩ := h'
  have hI : v_I (z.1 65) := hI
  have ew : v_wi (z4.1 65) = v_wi (z.1 65) := by unfold v_wi; rw [fA 16 (by decide)]
  have eh : v_hi (z4.1 65) = v_hi (z.1 65) := by unfold v_hi; rw [fA 17 (by decide)]
  have hI4 : v_I (z4.1 65) := ⟨hI.1.fr (fun j hj => fA j (by omega)), hIb, hI.2.2.1.fr (fun j hj => fA j (by omega)), by rw [ew, eh]; exact hyb⟩
  have hG := hI4.G
  have hC : v_C s4 (v_u (z4.1 65)) (v_v (z4.1 65)) (v_wi (z4.1 65)) (v_hi (z4.1 65)) := by
    obtain ⟨⟨g1, g2, g3, g4⟩, gr⟩ := hG
    obtain ⟨⟨w1, w2, -⟩, -⟩ := hW.1
    have w1 : s.1 3 0 = z.1 65 16 := w1
    have w2 : s.1 3 1 = z.1 65 17 := w2
    have c3 := c 3 (by decide) (by decide) (by decide) (by decide) (by decide)
    have y0 : s4.1 6 0 = z4.1 65 14 := hWy.1 0 (by decide)
    have y1 : s4.1 6 1 = z4.1 65 15 := hWy.1 1 (by decide)
    exact ⟨⟨y0.trans g1, y1.trans g2, by rw [c3, w1, ← fA 16 (by decide)]; exact g3, by rw [c3, w2, ← fA 17 (by decide)]; exact g4⟩, gr⟩
  obtain ⟨s5, g1, g2, g3, g4⟩ := P_lay hC
  have nl : ∀ a, a < 37 ∨ 42 < a → a ∉ v_L6 := fun a h1 h3 => by
    unfold v_L6 at h3
    simp only [List.mem_cons, List.not_mem_nil, or_false] at h3
    omega
  refine ⟨hG, s5, g1, g3, ?_, g2.1, g2.2⟩
  refine h.yard (fun a ha => ?_) (fun a ha => ?_) (fun j hj => fA j hj) ?_ ?_ hIb hyb ?_ ?_
  · by_cases q : a < 64
    · rw [d_mx_lo q, d_mx_lo q, g2.1 a (nl a (by unfold v_cl at ha; omega))]
      exact c a q (by unfold v_cl at ha; omega) (by unfold v_cl at ha; omega) (by unfold v_cl at ha; omega) (by unfold v_cl at ha; omega)
    · rw [d_mx_hi (by omega), d_mx_hi (by omega)]
      exact r a (by unfold v_cl at ha; omega)
  · show s5.2.1 a = s.2.1 a
    rw [g2.2, cp]
  · exact hWy.fr (g2.1 6 (by decide)) (g2.1 7 (by decide)) (fun _ _ => rfl)
  · exact hWs.fr (g2.1 8 (by decide)) (g2.1 9 (by decide)) rfl rfl rfl (fun _ _ _ => rfl)
  · obtain ⟨-, -, ab, -⟩ := hG.ac
    have hQ1 : v_Q s5 (v_u (z4.1 65)) (v_v (z4.1 65)) (v_wi (z4.1 65)) (v_hi (z4.1 65)) := ⟨g3, g4, hG.ac.2.2.1, hC.2.2.2.1.2, hC.2.2.2.2.1.2⟩
    exact hQ1.fr (fun a h1 h2 => d_mx_lo (by omega))
  · have e49 : s5.1 49 = s.1 49 := (g2.1 49 (by decide)).trans (c 49 (by decide) (by decide) (by decide) (by decide) (by decide))
    exact ⟨by show v_Nm (s5.1 49); rw [e49]; exact hN.1, by show v_Nm (z4.1 71); rw [r 71 (by decide)]; exact hN.2⟩
theorem v_R.keep (h : v_R t (d_mx s z)) : ∃ s' z', F_X6_keep_8_6 s = some s' ∧ F_X12_keep z = some z' ∧ (∀ a, a ≠ 8 → a ≠ 9 → s'.1 a = s.1 a) ∧ s'.2 = s.2 ∧ (∀ a, a ≠ 65 → z'.1 a = z.1 a) ∧ z'.2 = z.2 ∧ (∀ j, j ≠ 3 → j < 387 → z'.1 65 j = z.1 65 j) ∧ v_R t (d_mx s' z') := by
  have h' := h
  obtain ⟨hW, hI, -, -, -, hQ, -, hN, -⟩ := h'
  have hI : v_I (z.1 65) := hI
  obtain ⟨n, c, a1, a2, a3⟩ := hW.2.2.1
  have a1 : s.1 8 1 = n := a1
  have a2 : s.1 8 2 = c := a2
  have a3 : v_Sx (s.1 9) n c (z.1 65) (v_wi (z.1 65)) (v_hi (z.1 65)) := a3
  obtain ⟨s1, k1, k2, k3, k4, k5, k6, k7, k8⟩ := P_keepC a1 a2 a3.2.1 a3.1
  obtain ⟨z1, r1, r2, r3, r4, r5, r6, r7, r8⟩ := P_keepR a3.2.2.1 a3.1 hI.B
  refine ⟨s1, z1, k1, r1, k7, k8, r7, r8, r3, ?_⟩
  have hS : v_Sx (s1.1 9) ((n + 1) % 30) (min 30 (c + 1)) (z1.1 65) (v_wi (z.1 65)) (v_hi (z.1 65)) := by
    refine a3.keep k2 k3 k4 r2 r4 r5 r6 (fun i hi => hW.2.1.1 i hi) hI.2.2.2 (fun b hb => ?_) hI.bb
    have hM := (hW.M (s := d_mx s z) hI b hb).1
    have hM : s.1 7 b = _ := hM
    rw [hM]; rfl
  have w16 : v_wi (z1.1 65) = v_wi (z.1 65) := by unfold v_wi; rw [r3 16 (by decide) (by decide)]
  have w17 : v_hi (z1.1 65) = v_hi (z.1 65) := by unfold v_hi; rw [r3 17 (by decide) (by decide)]
  have u14 : v_u (z1.1 65) = v_u (z.1 65) := by unfold v_u; rw [r3 14 (by decide) (by decide)]
  have v15 : v_v (z1.1 65) = v_v (z.1 65) := by unfold v_v; rw [r3 15 (by decide) (by decide)]
  refine h.yard (fun a ha => ?_) (fun a ha => ?_) (fun j hj => r3 j (by omega) (by omega)) ?_ ?_ ?_ ?_ ?_ ?_
  · by_cases q : a < 64
    · rw [d_mx_lo q, d_mx_lo q, k7 a (by unfold v_cl at ha; omega) (by unfold v_cl at ha; omega)]
    · rw [d_mx_hi (by omega), d_mx_hi (by omega), r7 a (by unfold v_cl at ha; omega)]
  · show s1.2.1 a = s.2.1 a
    rw [k8]
  · exact v_Wy.fr (f' := (d_mx s1 z1).1) hW.2.1 (k7 6 (by decide) (by decide)) (k7 7 (by decide) (by decide)) (fun j hj => r3 j (by omega) (by omega))
  · exact ⟨(n + 1) % 30, min 30 (c + 1), k5, k6, by show v_Sx (s1.1 9) _ _ (z1.1 65) (v_wi (z1.1 65)) (v_hi (z1.1 65)); rw [w16, w17]; exact hS⟩
  · exact hI.2.1.fr (fun j h1 h2 => r3 j (by omega) (by omega))
  · obtain ⟨b0, b1, b3, b4, u, v, b5, b6, b7⟩ := hI.2.2.2
    refine ⟨?_, ?_, ?_, ?_, u, v, ?_, ?_, b7⟩
    · show 0 ≤ z1.1 65 9 ∧ z1.1 65 9 ≤ 999; rw [r3 9 (by decide) (by decide)]; exact b0
    · show 0 ≤ z1.1 65 10 ∧ z1.1 65 10 ≤ 9; rw [r3 10 (by decide) (by decide)]; exact b1
    · show 0 ≤ z1.1 65 12 ∧ z1.1 65 12 ≤ 99; rw [r3 12 (by decide) (by decide)]; exact b3
    · show 0 ≤ z1.1 65 13 ∧ z1.1 65 13 < 30293; rw [r3 13 (by decide) (by decide)]; exact b4
    · show z1.1 65 14 = _; rw [r3 14 (by decide) (by decide)]; exact b5
    · show z1.1 65 15 = _; rw [r3 15 (by decide) (by decide)]; exact b6
  · show v_Q (d_mx s1 z1) (v_u (z1.1 65)) (v_v (z1.1 65)) (v_wi (z1.1 65)) (v_hi (z1.1 65))
    rw [u14, v15, w16, w17]
    exact v_Q.fr hQ (fun a h1 h2 => by rw [d_mx_lo (by omega), d_mx_lo (by omega), k7 a (by omega) (by omega)])
  · exact ⟨by show v_Nm (s1.1 49); rw [k7 49 (by decide) (by decide)]; exact hN.1, by show v_Nm (z1.1 71); rw [r7 71 (by decide)]; exact hN.2⟩
end V20

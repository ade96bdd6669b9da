section V55
variable {s : d_S} {t : Nat → Option p_C}
theorem R_sellers (h : v_R t s) {y : Int} : v_AA t (F_X11_sellers t s y) (fun s1 => F_X12_sellers s1 y) := by
  obtain ⟨L, u, v, W, H, st, me, so, N, sg, day, heat, x, hC, hR⟩ := h.rdy
  have h64 := hC.2.1.2.2.1
  have n10 : ¬ (1 : Int) = 0 := by decide
  obtain ⟨p, hpe⟩ : ∃ p, p = v_pp (v_pr1 L sg u v W H N day heat st me) so (v_bl u v) := ⟨_, rfl⟩
  obtain ⟨c, hce⟩ : ∃ c, c = v_cn so (v_bl u v) := ⟨_, rfl⟩
  have hp : ∀ i, 0 ≤ p i ∧ p i ≤ 9999 := fun i => by rw [hpe]; exact v_pp_b (fun k => v_sel_b) _ i
  have hc : c ≤ 16 := by rw [hce]; exact v_cn_le _
  obtain ⟨s1, a1, a2, a3, a4, a5⟩ := v_slC (L := L) (N := N) (sg := sg) (so := so) (K := fun x1_u6 x2_u6 s_u6 => if x2_u6 = 0 then F_X11_sellers_j68 t s_u6 else d_b (F_X11_within x1_u6 0 1) (fun v7 => if v7 = 0 then F_X11_sellers_j68 t s_u6 else if x1_u6 = 1 then d_b2 (F_X11_bestPlay s_u6 x2_u6 1) (fun v8 s9 => some (v8, s9)) else d_b2 (F_X11_bestPlay s_u6 x2_u6 0) (fun v10 s11 => some (v10, s11)))) (y := y) (v_bl u v) 0 d_N (by omega) (by rw [d_N_is]; omega) s hC (fun i hi => absurd hi (Nat.not_lt_zero i))
  rw [← hce] at a1 a3
  rw [← hpe] at a3
  
  have ref : ∀ s2 : d_S, (∀ a, a ≠ 62 → s2.1 a = s1.1 a) → ∃ s3, F_X12_sellers s2 y = (if ((c : Nat) : Int) = 0 then some (-100000, s3) else if (0 ≤ y ∧ y ≤ 1) then some (if y = 1 then v_b (p 0 - v_pl_ p (c - 1) 1 < p (c - 1) - v_pl_ p (c - 1) 0) else v_pl_ p c 0, s3) else some (-100000, s3)) ∧ (∀ a, a ≠ 71 → a ≠ 78 → a ≠ 79 → s3.1 a = s2.1 a) ∧ s3.2.1 = s2.2.1 ∧ v_Nm (s3.1 71) := fun s2 h2 => by
    have hR1 : v_rdr s2 L u v W H st me so N sg day heat := hR.fr (by rw [h2 65 (by decide)]; exact a4 65 (by decide) (by decide) (by decide) (by decide)) (by rw [h2 67 (by decide)]; exact a4 67 (by decide) (by decide) (by decide) (by decide)) (by rw [h2 71 (by decide), a4 71 (by decide) (by decide) (by decide) (by decide)]; exact hR.2.2.2.2.1)
    obtain ⟨s3, b1, b2, b3, b4, b5⟩ := v_slR (L := L) (N := N) (sg := sg) (so := so) (day := day) (heat := heat) (K := fun x1_u7 x2_u7 s_u7 => if x2_u7 = 0 then F_X12_sellers_j62 s_u7 else d_b (F_X12_isIn x1_u7 0 1) (fun v8 => if v8 = 0 then F_X12_sellers_j62 s_u7 else F_X12_sellers_l71 (fun x1_u20 x2_u20 x3_u20 s_u20 => if x1_u20 = 1 then if x3_u20 = 0 then some (0, s_u20) else some (1, s_u20) else d_g (0 ≤ x2_u20 ∧ x2_u20 < 272) (some ((s_u20.1 79 (x2_u20.toNat)), s_u20))) d_N x1_u7 x2_u7 0 1 s_u7)) (y := y) (v_bl u v) 0 d_N (by omega) (by rw [d_N_is]; omega) s2 hR1 (fun i hi => absurd hi (Nat.not_lt_zero i))
    rw [← hce] at b1 b3
    rw [← hpe] at b3
    have b1 : F_X12_sellers s2 y = _ := b1
    by_cases q0 : c = 0
    · refine ⟨s3, ?_, fun a h1 h2 _ => b4 a h1 h2, b5, b2.2.2.2.2.1⟩
      rw [b1, if_pos (by omega), if_pos (by omega)]; rfl
    by_cases q1 : 0 ≤ y ∧ y ≤ 1
    rotate_left
    · refine ⟨s3, ?_, fun a h1 h2 _ => b4 a h1 h2, b5, b2.2.2.2.2.1⟩
      rw [b1, if_neg (by omega), if_neg (by omega), if_neg q1, P_isIn, d_b_t, v_bf q1, if_pos rfl]; rfl
    obtain ⟨s4, c1, c2, c3, c4⟩ := v_p71 (K := fun x1_u20 x2_u20 x3_u20 s_u20 => if x1_u20 = 1 then if x3_u20 = 0 then some (0, s_u20) else some (1, s_u20) else d_g (0 ≤ x2_u20 ∧ x2_u20 < 272) (some ((s_u20.1 79 (x2_u20.toNat)), s_u20))) hp hc (by omega) (x1 := y) c 0 d_N (by omega) (by rw [d_N_is]; omega) s3 0 b3 (fun l' i' h1 h2 h3 => by omega) (fun e => by omega)
    refine ⟨s4, ?_, fun a h1 h2 h3 => by rw [c3 a h3]; exact b4 a h1 h2, by rw [c4]; exact b5, by rw [c3 71 (by decide)]; exact b2.2.2.2.2.1⟩
    rw [b1, if_neg (by omega), if_neg (by omega), if_pos q1, P_isIn, d_b_t, v_bt q1, if_neg n10]
    refine (show F_X12_sellers_l71 _ d_N y (c : Int) 0 1 s3 = _ from c1).trans ?_
    show (if y = 1 then _ else _) = _
    by_cases q : y = 1
    · rw [if_pos q, if_pos q]
      by_cases q2 : p 0 - v_pl_ p (c - 1) 1 < p (c - 1) - v_pl_ p (c - 1) 0
      · rw [v_bt q2, if_neg n10]
      · rw [v_bf q2, if_pos rfl]
    · rw [if_neg q, if_neg q, d_g_t (by omega), Int.toNat_natCast, c2]
  have done : ∀ s2 s3 : d_S, (∀ a, a ≠ 62 → s2.1 a = s1.1 a) → s2.2 = s1.2 → (∀ a, a ≠ 71 → a ≠ 78 → a ≠ 79 → s3.1 a = s2.1 a) → s3.2.1 = s2.2.1 → v_Nm (s3.1 71) → v_R t s3 := fun s2 s3 h1 h2 h3 h4 h5 => h.scr (fun a ha => by
    unfold v_cl at ha
    rw [h3 a (by omega) (by omega) (by omega), h1 a (by omega), a4 a (by omega) (by omega) (by omega) (by omega)]) (fun a ha => by rw [h4, h2]; exact a5 a ha) ⟨by rw [h3 49 (by decide) (by decide) (by decide), h1 49 (by decide)]; exact a2.2.2.2.2.1, h5⟩
  have a1 : F_X11_sellers t s y = _ := a1
  by_cases q0 : c = 0
  · obtain ⟨s3, r1, r2, r3, r4⟩ := ref s1 (fun _ _ => rfl)
    refine ⟨-100000, s1, s3, ?_, ?_, done s1 s3 (fun _ _ => rfl) rfl r2 r3 r4⟩
    · rw [a1, if_pos (by omega)]; rfl
    · show F_X12_sellers s1 y = _
      rw [r1, if_pos (by omega)]
  by_cases q1 : 0 ≤ y ∧ y ≤ 1
  rotate_left
  · obtain ⟨s3, r1, r2, r3, r4⟩ := ref s1 (fun _ _ => rfl)
    refine ⟨-100000, s1, s3, ?_, ?_, done s1 s3 (fun _ _ => rfl) rfl r2 r3 r4⟩
    · rw [a1, if_neg (by omega), P_within, d_b_t, v_bf q1, if_pos rfl]; rfl
    · show F_X12_sellers s1 y = _
      rw [r1, if_neg (by omega), if_neg q1]
  by_cases q : y = 1
  · obtain ⟨s2, g1, g2, g3⟩ := P_bestPlay (s := s1) hp hc (by omega) a3 (f := 1) (Or.inr rfl)
    obtain ⟨s3, r1, r2, r3, r4⟩ := ref s2 g2
    refine ⟨v_b (p 0 - v_pl_ p (c - 1) 1 < p (c - 1) - v_pl_ p (c - 1) 0), s2, s3, ?_, ?_, done s2 s3 g2 g3 r2 r3 r4⟩
    · rw [a1, if_neg (by omega), P_within, d_b_t, v_bt q1, if_neg n10, if_pos q, g1, d_b2_t, if_neg n10]
      congr 2
      refine v_bc ⟨fun e => e.2, fun e => ⟨?_, e⟩⟩
      by_cases z : c = 1
      · subst z
        exfalso
        have e : p 0 - 0 < p 0 - 0 := e
        omega
      · omega
    · show F_X12_sellers s2 y = _
      rw [r1, if_neg (by omega), if_pos q1, if_pos q]
  · obtain ⟨s2, g1, g2, g3⟩ := P_bestPlay (s := s1) hp hc (by omega) a3 (f := 0) (Or.inl rfl)
    obtain ⟨s3, r1, r2, r3, r4⟩ := ref s2 g2
    refine ⟨v_pl_ p c 0, s2, s3, ?_, ?_, done s2 s3 g2 g3 r2 r3 r4⟩
    · rw [a1, if_neg (by omega), P_within, d_b_t, v_bt q1, if_neg n10, if_neg q, g1, d_b2_t, if_pos rfl]
    · show F_X12_sellers s2 y = _
      rw [r1, if_neg (by omega), if_pos q1, if_neg q]
end V55

section X11
variable {s0 : d_S} {n so t0 f : Nat} {b : Nat → Nat} {Q : Option (Int × d_S) → Prop} {f0 : Nat} {T : Nat → Int}
theorem l_A0_ok (hn : n ≤ 300) (ht : t0 ≤ 2331) (ih : l_A s0 b n so t0 Q f0 T f) : l_A0 s0 b n so t0 Q f0 T (f + 1) := by
  intro σ κ k p r Z hr hf hp hl hd hk hk7 K F
  rw [t_P0] at hr
  by_cases hF : t_F b n (Nat.beq so 1) (s_opn σ) p = 0
  rotate_left
  · rw [if_pos hF] at hr
    subst hr
    intro E w N s hX hw hS hN
    obtain ⟨N, rfl⟩ : ∃ m, N = m + 1 := ⟨N - 1, by omega⟩
    rw [l_hfb hS hF (P_b1_F hS hd hF)]
    exact F hF _ ⟨_, _, _, _, _, _, hS⟩
  rw [if_neg (fun q => q hF), if_neg hk7] at hr
  have hpn := t_F_lt hF
  have hx := t_x_lt (b := b) hpn
  by_cases ho : t_op b n p = false
  · rw [if_pos ho] at hr
    subst hr
    intro E w N s hX hw hS hN
    obtain ⟨N, rfl⟩ : ∃ m, N = m + 1 := ⟨N - 1, by omega⟩
    obtain ⟨s2, c1, w2, e2, hS2⟩ := P_b1_1 hS hd hp ht hF ho (by omega) (by omega) rfl
    rw [l_h0b hS c1]
    exact K rfl hx.1 hx.2 (E ++ [t_e1 b n p] ++ s_op 3 σ) w2 N s2 (fun ν hν => by dsimp only; rw [t_V0, if_pos ho]; exact r_evo_mn (r_evo_one (hX ν hν) (r_sto_e1 hF ho))) (by show w2 + _ ≤ t_x b n p + 3; omega) hS2 (by show n - t_x b n p < N; omega)
  rw [if_neg ho] at hr
  have ho : t_op b n p = true := by cases q : t_op b n p with
    | true => rfl
    | false => exact absurd q ho
  have hd8 := t_F_op hF ho
  have e41 : s_opn (41 :: σ) = s_opn σ + 1 := rfl
  have e42 : s_opn (42 :: σ) = s_opn σ + 1 := rfl
  have e40 : s_opn (40 :: σ) = s_opn σ + 1 := rfl
  have e3 : s_opn (3 :: σ) = s_opn σ + 1 := rfl
  have n41 : s_nt (41 :: σ) = s_nt σ := rfl
  have n40 : s_nt (40 :: σ) = s_nt σ := rfl
  have n3 : s_nt (3 :: σ) = s_nt σ := rfl
  have hno := s_nt_op σ
  by_cases h20 : t_wd b n p 20 = true
  · rw [if_pos h20] at hr
    have hpx : l_px b n p = 41 := by
      have no : ∀ c, ¬ t_is b n p c = true := fun c e => by have := (t_is_iff.mp e).1; have := (t_wd_iff.mp h20).1; omega
      unfold l_px; rw [if_neg (no 40), if_neg (no 45)]
    intro E w N s hX hw hS hN
    obtain ⟨N, rfl⟩ : ∃ m, N = m + 1 := ⟨N - 1, by omega⟩
    obtain ⟨s2, c1, hS2⟩ := P_b1_op hS hd hp hF ho (by omega)
    rw [hpx] at hS2
    rw [l_h0b hS c1]
    refine ih.1 (41 :: σ) κ 0 (t_x b n p) _ Z rfl (by omega) hx.2 (by rw [e41, List.length_cons]; omega) (by rw [e41]; omega) (by rw [n41]; exact hk) (by decide) ?_ ?_ E w N s2 hX (by rw [List.length_cons]; omega) (by rw [e41]; exact hS2) (by omega)
    · intro e0 hq1 hq2 E3 w3 N3 s3 hX3 hw3 hS3 hN3
      obtain ⟨N3, rfl⟩ : ∃ m, N3 = m + 1 := ⟨N3 - 1, by omega⟩
      have hX3 : l_X (fun ν => t_V b n (Nat.beq so 1) ν f 0 (s_opn σ + 1) 0 (t_x b n p) (0) :: Z ν) E3 := hX3
      have hV : ∀ ν, t_V b n (Nat.beq so 1) ν (f + 1) 0 (s_opn σ) k p 0 = t_V b n (Nat.beq so 1) ν f 6 (s_opn σ + 1) 1 (t_x b n (t_x b n (t_P b n (Nat.beq so 1) f 0 (s_opn σ + 1) 0 (t_x b n p)).2)) (t_V b n (Nat.beq so 1) ν f 0 (s_opn σ + 1) 0 (t_x b n p) (0)) := fun ν => by rw [t_V0, if_neg (by rw [ho]; decide), if_pos h20]
      rw [e41] at e0 hq1 hq2 hw3 hS3 hN3
      rw [if_neg (fun q => q e0)] at hr
      have hs41 : s_se 3 (41 :: σ) = 41 :: σ := rfl
      rw [hs41] at hw3 hS3
      rw [e41] at hS3
      generalize t_P b n (Nat.beq so 1) f 0 (s_opn σ + 1) 0 (t_x b n p) = s at hr e0 hq1 hq2 hw3 hS3 hV hN3
      rw [List.length_cons] at hw3
      by_cases h21 : t_wd b n s.2 21 = false
      · rw [if_pos h21] at hr
        subst hr
        rw [l_hft (e := 1) hS3 (by decide) ((P_bh_of hS3 (by omega)).trans (by rw [P_of_no hS3 h21, d_b2_t]; rfl))]
        exact F (show (1 : Nat) ≠ 0 by decide) _ ⟨_, _, _, _, _, _, hS3⟩
      rw [if_neg h21] at hr
      have h21 : t_wd b n s.2 21 = true := by cases q : t_wd b n s.2 21 with
        | true => rfl
        | false => exact absurd q h21
      have hy := t_x_lt (b := b) (t_wd_lt h21)
      by_cases h40 : t_is b n (t_x b n s.2) 40 = false
      · rw [if_pos h40] at hr
        subst hr
        obtain ⟨s4, d1, hS4⟩ := P_of_no2 hS3 hq2 h21 h40
        rw [l_hft (e := 1) hS3 (by decide) ((P_bh_of hS3 (by omega)).trans (by rw [d1, d_b2_t]; rfl))]
        exact F (show (1 : Nat) ≠ 0 by decide) _ ⟨_, _, _, _, _, _, hS4⟩
      rw [if_neg h40] at hr
      have h40 : t_is b n (t_x b n s.2) 40 = true := by cases q : t_is b n (t_x b n s.2) 40 with
        | true => rfl
        | false => exact absurd q h40
      have hz := t_x_lt (b := b) (t_is_lt h40)
      obtain ⟨s4, d1, hS4⟩ := P_of_yes hS3 hq2 h21 h40 (by omega) (by omega)
      rw [l_h0t hS3 ((P_bh_of hS3 (by omega)).trans (by rw [d1, d_b2_t]))]
      exact ih.2.2.2.2.2 σ κ 1 (t_x b n (t_x b n s.2)) r Z (fun ν => t_V b n (Nat.beq so 1) ν f 0 (s_opn σ + 1) 0 (t_x b n p) (0)) (fun _ => []) (fun _ => rfl) (by rw [e42]; exact hr) (by omega) hz.2 (by omega) (by omega) hk (by decide) (fun q1 q2 q3 => l_go_mono (fun E4 g ν hν => by have g2 := g ν hν; dsimp only at g2 ⊢; rw [t_sl_nil, e42] at g2; rw [hV ν]; simpa using g2) (K q1 (by omega) q3)) F E3 w3 N3 s4 hX3 (by rw [List.length_cons]; omega) (by rw [e42]; exact hS4) (by omega)
    · intro e0
      rw [e41] at e0 ⊢
      rw [if_pos e0] at hr
      subst hr
      exact F e0
  rw [if_neg h20] at hr
  by_cases h45 : t_is b n p 45 = true
  · rw [if_pos h45] at hr
    have hpx : l_px b n p = 3 := by
      unfold l_px; rw [t_is_one (e := 40) h45 (by decide), if_neg (by decide), if_pos h45]
    intro E w N s hX hw hS hN
    obtain ⟨N, rfl⟩ : ∃ m, N = m + 1 := ⟨N - 1, by omega⟩
    obtain ⟨s2, c1, hS2⟩ := P_b1_op hS hd hp hF ho (by omega)
    rw [hpx] at hS2
    rw [l_h0b hS c1]
    have es : s_se 3 (3 :: σ) = s_se 3 σ := rfl
    refine ih.1 (3 :: σ) κ 0 (t_x b n p) r Z (by rw [e3]; exact hr) (by omega) hx.2 (by rw [e3, List.length_cons]; omega) (by rw [e3]; omega) (by rw [n3]; exact hk) (by decide) ?_ F E w N s2 hX (by rw [List.length_cons]; omega) (by rw [e3]; exact hS2) (by omega)
    rw [es, e3]
    exact fun q1 q2 q3 => l_go_mono (fun E4 g ν hν => by have g2 := g ν hν; dsimp only at g2 ⊢; rw [t_mn_3] at g2; rw [t_V0, if_neg (by rw [ho]; decide), if_neg h20, if_pos h45]; exact g2) (K q1 (by omega) q3)
  rw [if_neg h45] at hr
  have h40 : t_is b n p 40 = true := by
    unfold t_op at ho
    simp only [Bool.or_eq_true] at ho
    rcases ho with e | e | e
    · exact e
    · exact absurd e h45
    · exact absurd e h20
  have hpx : l_px b n p = 40 := by unfold l_px; rw [if_pos h40]
  intro E w N s hX hw hS hN
  obtain ⟨N, rfl⟩ : ∃ m, N = m + 1 := ⟨N - 1, by omega⟩
  obtain ⟨s2, c1, hS2⟩ := P_b1_op hS hd hp hF ho (by omega)
  rw [hpx] at hS2
  rw [l_h0b hS c1]
  have es : s_se 1 (40 :: σ) = 40 :: σ := rfl
  refine ih.2.2.2.1 (40 :: σ) κ 0 (t_x b n p) _ Z rfl (by omega) hx.2 es (fun ρ e => by injection e with e1 _; omega) (by rw [e40, List.length_cons]; omega) (by rw [e40]; omega) (by rw [n40]; exact hk) (by decide) ?_ ?_ E w N s2 hX (by rw [List.length_cons]; omega) (by rw [e40]; exact hS2) (by omega)
  · intro e0 hq1 hq2 hmd hpm π hu E3 w3 N3 s3 hX3 hw3 hS3 hN3
    obtain ⟨N3, rfl⟩ : ∃ m, N3 = m + 1 := ⟨N3 - 1, by omega⟩
    rw [e40] at e0 hq1 hq2 hmd hpm hw3 hS3 hX3 hN3
    rw [if_neg (fun q => q e0)] at hr
    generalize t_P b n (Nat.beq so 1) f 2 (s_opn σ + 1) 0 (t_x b n p) = s at hr e0 hq1 hq2 hmd hpm hw3 hS3 hN3
    have htp := l_up_tp hu (fun ρ e => by injection e with e1 _; omega) (by decide)
    have hpl := hu.2.2
    rw [List.length_cons] at hpl
    have hy8 := l_y_8 hmd hpm
    by_cases h41 : t_is b n s.2 41 = true
    · rw [if_pos h41] at hr
      subst hr
      have hy := t_x_lt (b := b) (t_is_lt h41)
      obtain ⟨s4, d1, w4, e4, hS4⟩ := P_bh_cl40 hS3 hq2 ht (by omega) (by omega) rfl htp hy8 hu.1 h41
      rw [l_h0t hS3 d1]
      exact K rfl (by show p < t_x b n s.2; omega) hy.2 (E3 ++ s_op 1 π ++ s_op 3 σ) w4 N3 s4 (fun ν hν => by dsimp only; rw [t_V0, if_neg (by rw [ho]; decide), if_neg h20, if_neg h45]; exact r_evo_mn (hX3 ν hν)) (by show w4 + _ ≤ t_x b n s.2 + 3; omega) hS4 (by show n - t_x b n s.2 < N3; omega)
    · rw [if_neg h41] at hr
      subst hr
      have hon : l_on π = 40 := l_on_se (by decide) hu.1 (by decide)
      rw [l_h1t hS3 ((P_bh_n hS3 (by omega) htp hy8).trans (by rw [hon, if_neg (by decide)]; exact P_152_no hS3.1 (by decide) h41)), l_e1 hS3 (by omega) hu.1 (by decide)]
      exact F (show (1 : Nat) ≠ 0 by decide) _ ⟨_, _, _, _, _, _, hS3⟩
  · intro e0
    rw [e40] at e0 ⊢
    rw [if_pos e0] at hr
    subst hr
    exact F e0
theorem l_A1_ok (ih : l_A s0 b n so t0 Q f0 T f) : l_A1 s0 b n so t0 Q f0 T (f + 1) := by
  intro σ κ k p r Z hr hf hp hse htp hl hd hk hk7 K F
  rw [t_P1] at hr
  have h3 := s_se_ge (by decide : 2 ≤ 3) hse
  refine ih.1 σ κ k p _ Z rfl (by omega) hp (by omega) hd hk hk7 ?_ ?_
  · intro e0 hq1 hq2
    rw [if_neg (fun q => q e0)] at hr
    rw [h3]
    exact l_go_mono (fun E g ν hν => by have g2 := g ν hν; dsimp only at g2 ⊢; rw [t_mn_id (by decide : 2 ≤ 3) hse] at g2; rw [s_op_nil hse, List.append_nil]; exact g2) (ih.2.2.1 σ σ κ _ r Z (fun ν => t_V b n (Nat.beq so 1) ν f 0 (s_opn σ) k p (0)) hr (by omega) hq2 hse htp ⟨hse, rfl, by omega⟩ hl hd hk (fun q1 q2 q3 q4 π hu => l_go_mono (fun E g ν hν => by dsimp only; rw [t_V1]; exact g ν hν) (K q1 (by omega) q3 q4 π hu)) F)
  · intro e0
    rw [if_pos e0] at hr
    subst hr
    exact F e0
theorem l_A4_ok (hn : n ≤ 300) (ht : t0 ≤ 2331) (ih : l_A s0 b n so t0 Q f0 T f) : l_A4 s0 b n so t0 Q f0 T (f + 1) := by
  intro σ τ κ p r Z a hr hf hp hse htp hu hl hd hk K F
  rw [t_P4] at hr
  have hul := hu.2.2
  have hut := l_up_tp hu htp (by decide)
  by_cases q : t_is b n p 42 = true ∨ t_is b n p 47 = true
  rotate_left
  · rw [if_neg q] at hr
    subst hr
    exact l_go_mono (fun E g ν hν => by dsimp only; rw [t_V4, if_neg (fun e => q (Or.inl e)), if_neg (fun e => q (Or.inr e))]; exact g ν hν) (K rfl (Nat.le_refl _) hp ⟨Bool.eq_false_iff.mpr (fun e => q (Or.inl e)), Bool.eq_false_iff.mpr (fun e => q (Or.inr e))⟩ τ hu)
  rw [if_pos q] at hr
  have hpn : p < n := by rcases q with q | q <;> exact t_is_lt q
  have hx := t_x_lt (b := b) hpn
  intro E w N s hX hw hS hN
  obtain ⟨N, rfl⟩ : ∃ m, N = m + 1 := ⟨N - 1, by omega⟩
  have go : ∀ x, (x = 6 ∨ x = 7) → l_y b n p = x → (∀ ν, t_V b n (Nat.beq so 1) ν (f + 1) 4 (s_opn σ) 0 p (a ν) = t_V b n (Nat.beq so 1) ν f 4 (s_opn σ) 0 (t_P b n (Nat.beq so 1) f 0 (s_opn σ) 0 (t_x b n p)).2 (t_op2 (x + 1) (a ν) (t_V b n (Nat.beq so 1) ν f 0 (s_opn σ) 0 (t_x b n p) (0)))) → Q (F_X12_summed_l20 l_K (N + 1) s) := by
    intro x hx67 hyx hV
    have ex : s_opn (x :: σ) = s_opn σ := by
      show s_opn σ + (if x = 3 ∨ 40 ≤ x then 1 else 0) = s_opn σ
      rw [if_neg (by omega)]; rfl
    have nx : s_nt (x :: σ) = s_nt σ := by
      show s_nt σ + (if x = 42 then 1 else 0) = s_nt σ
      rw [if_neg (by omega)]; rfl
    have rk : s_rk x = 2 := by unfold s_rk; rw [if_neg (by omega), if_neg (by omega), if_pos (by omega)]
    have s3 : s_se 3 (x :: σ) = x :: σ := by simp only [s_se]; rw [if_neg (by omega)]
    have s2 : s_se 2 (x :: σ) = σ := by simp only [s_se]; rw [if_pos (by omega)]; exact hse
    obtain ⟨h2, d1, w2, e2, hS2⟩ := P_bh_op hS hp ht (by omega) (by omega) rfl hut hyx (by omega) rk (by decide) (by omega)
    rw [hu.1] at e2 hS2
    rw [l_h0t hS d1]
    refine ih.1 (x :: σ) κ 0 (t_x b n p) _ (fun ν => a ν :: Z ν) rfl (by omega) hx.2 (by rw [ex, List.length_cons]; omega) (by rw [ex]; exact hd) (by rw [nx]; exact hk) (by decide) ?_ ?_ (E ++ s_op 2 τ) w2 N h2 hX (by rw [List.length_cons]; omega) hS2 (by omega)
    · rw [ex, s3]
      intro e0 hq1 hq2
      rw [if_neg (fun q => q e0)] at hr
      have so2 : s_op 2 (x :: σ) = [(x, 0)] := by simp only [s_op]; rw [if_pos (by omega), s_op_nil hse]
      exact l_go_mono (fun E4 g ν hν => by have g2 := g ν hν; dsimp only at g2 ⊢; rw [t_mn_ne (by omega)] at g2; rw [so2]; exact r_evo_one g2 (r_sto_bin (by omega))) (ih.2.2.1 σ (x :: σ) κ _ r Z (fun ν => t_op2 (x + 1) (a ν) (t_V b n (Nat.beq so 1) ν f 0 (s_opn σ) 0 (t_x b n p) (0))) hr (by omega) hq2 hse htp ⟨s2, ex, Nat.le_refl _⟩ hl hd hk (fun q1 q2 q3 q4 π hu => l_go_mono (fun E4 g ν hν => by dsimp only; rw [hV ν]; exact g ν hν) (K q1 (by omega) q3 q4 π hu)) F)
    · rw [ex]
      intro e0
      rw [if_pos e0] at hr
      subst hr
      exact F e0
  by_cases q42 : t_is b n p 42 = true
  · exact go 6 (Or.inl rfl) (l_y6 q42) (fun ν => by rw [t_V4, if_pos q42])
  · exact go 7 (Or.inr rfl) (l_y7 (q.resolve_left q42)) (fun ν => by rw [t_V4, if_neg q42, if_pos (q.resolve_left q42)])
theorem l_A2_ok (ih : l_A s0 b n so t0 Q f0 T f) : l_A2 s0 b n so t0 Q f0 T (f + 1) := by
  intro σ κ k p r Z hr hf hp hse htp hl hd hk hk7 K F
  rw [t_P2] at hr
  refine ih.2.1 σ κ k p _ Z rfl (by omega) hp (s_se_ge (by decide : 1 ≤ 2) hse) htp (by omega) hd hk hk7 ?_ ?_
  · intro e0 hq1 hq2 hmd π hu
    rw [if_neg (fun q => q e0)] at hr
    have hul := hu.2.2
    have so1 : s_op 1 π = s_op 2 π := by rw [s_op_se (by decide : 1 ≤ 2) π, hu.1, s_op_nil hse, List.append_nil]
    exact l_go_mono (fun E g ν hν => by dsimp only; rw [so1]; exact g ν hν) (ih.2.2.2.2.1 σ π κ _ r Z (fun ν => t_V b n (Nat.beq so 1) ν f 1 (s_opn σ) k p (0)) hr (by omega) hq2 hmd hse htp ⟨by rw [← s_se_se (by decide : 1 ≤ 2) π, hu.1]; exact hse, hu.2.1, by omega⟩ hl hd hk (fun q1 q2 q3 q4 q5 π hu => l_go_mono (fun E g ν hν => by dsimp only; rw [t_V2]; exact g ν hν) (K q1 (by omega) q3 q4 q5 π hu)) F)
  · intro e0
    rw [if_pos e0] at hr
    subst hr
    exact F e0
theorem l_A5_ok (hn : n ≤ 300) (ht : t0 ≤ 2331) (ih : l_A s0 b n so t0 Q f0 T f) : l_A5 s0 b n so t0 Q f0 T (f + 1) := by
  intro σ τ κ p r Z a hr hf hp hmd hse htp hu hl hd hk K F
  rw [t_P5] at hr
  have hul := hu.2.2
  have hut := l_up_tp hu htp (by decide)
  by_cases q : t_is b n p 43 = true ∨ t_is b n p 45 = true
  rotate_left
  · rw [if_neg q] at hr
    subst hr
    exact l_go_mono (fun E g ν hν => by dsimp only; rw [t_V5, if_neg (fun e => q (Or.inl e)), if_neg (fun e => q (Or.inr e))]; exact g ν hν) (K rfl (Nat.le_refl _) hp hmd ⟨Bool.eq_false_iff.mpr (fun e => q (Or.inl e)), Bool.eq_false_iff.mpr (fun e => q (Or.inr e))⟩ τ hu)
  rw [if_pos q] at hr
  have hpn : p < n := by rcases q with q | q <;> exact t_is_lt q
  have hx := t_x_lt (b := b) hpn
  intro E w N s hX hw hS hN
  obtain ⟨N, rfl⟩ : ∃ m, N = m + 1 := ⟨N - 1, by omega⟩
  have go : ∀ x, (x = 4 ∨ x = 5) → l_y b n p = x → (∀ ν, t_V b n (Nat.beq so 1) ν (f + 1) 5 (s_opn σ) 0 p (a ν) = t_V b n (Nat.beq so 1) ν f 5 (s_opn σ) 0 (t_P b n (Nat.beq so 1) f 1 (s_opn σ) 0 (t_x b n p)).2 (t_op2 (x + 1) (a ν) (t_V b n (Nat.beq so 1) ν f 1 (s_opn σ) 0 (t_x b n p) (0)))) → Q (F_X12_summed_l20 l_K (N + 1) s) := by
    intro x hx45 hyx hV
    have ex : s_opn (x :: σ) = s_opn σ := by
      show s_opn σ + (if x = 3 ∨ 40 ≤ x then 1 else 0) = s_opn σ
      rw [if_neg (by omega)]; rfl
    have nx : s_nt (x :: σ) = s_nt σ := by
      show s_nt σ + (if x = 42 then 1 else 0) = s_nt σ
      rw [if_neg (by omega)]; rfl
    have rk : s_rk x = 1 := by unfold s_rk; rw [if_neg (by omega), if_neg (by omega), if_neg (by omega)]
    have s2 : s_se 2 (x :: σ) = x :: σ := by simp only [s_se]; rw [if_neg (by omega)]
    have s1 : s_se 1 (x :: σ) = σ := by simp only [s_se]; rw [if_pos (by omega)]; exact hse
    obtain ⟨h2, d1, w2, e2, hS2⟩ := P_bh_op hS hp ht (by omega) (by omega) rfl hut hyx (by omega) rk (by decide) (by omega)
    rw [hu.1] at e2 hS2
    rw [l_h0t hS d1]
    refine ih.2.1 (x :: σ) κ 0 (t_x b n p) _ (fun ν => a ν :: Z ν) rfl (by omega) hx.2 s2 (fun ρ e => by injection e with e1 _; omega) (by rw [ex, List.length_cons]; omega) (by rw [ex]; exact hd) (by rw [nx]; exact hk) (by decide) ?_ ?_ (E ++ s_op 1 τ) w2 N h2 hX (by rw [List.length_cons]; omega) hS2 (by omega)
    · rw [ex]
      intro e0 hq1 hq2 hmd2 π hu2
      rw [if_neg (fun q => q e0)] at hr
      have hul2 := hu2.2.2
      rw [List.length_cons] at hul2
      have so1 : s_op 1 (x :: σ) = [(x, 0)] := by simp only [s_op]; rw [if_pos (by omega), s_op_nil hse]
      have so2 : s_op 1 π = s_op 2 π ++ [(x, 0)] := by rw [s_op_se (by decide : 1 ≤ 2) π, hu2.1, so1]
      exact l_go_mono (fun E4 g ν hν => by dsimp only; rw [so2, ← List.append_assoc]; exact r_evo_one (g ν hν) (r_sto_bin (by omega))) (ih.2.2.2.2.1 σ π κ _ r Z (fun ν => t_op2 (x + 1) (a ν) (t_V b n (Nat.beq so 1) ν f 1 (s_opn σ) 0 (t_x b n p) (0))) hr (by omega) hq2 hmd2 hse htp ⟨by rw [← s_se_se (by decide : 1 ≤ 2) π, hu2.1]; exact s1, hu2.2.1.trans ex, by omega⟩ hl hd hk (fun q1 q2 q3 q4 q5 π hu => l_go_mono (fun E4 g ν hν => by dsimp only; rw [hV ν]; exact g ν hν) (K q1 (by omega) q3 q4 q5 π hu)) F)
    · rw [ex]
      intro e0
      rw [if_pos e0] at hr
      subst hr
      exact F e0
  by_cases q43 : t_is b n p 43 = true
  · exact go 4 (Or.inl rfl) (l_y4 q43) (fun ν => by rw [t_V5, if_pos q43])
  · exact go 5 (Or.inr rfl) (l_y5 (q.resolve_left q43)) (fun ν => by rw [t_V5, if_neg q43, if_pos (q.resolve_left q43)])
theorem l_A6_ok (hn : n ≤ 300) (ht : t0 ≤ 2331) (ih : l_A s0 b n so t0 Q f0 T f) : l_A6 s0 b n so t0 Q f0 T (f + 1) := by
  intro ρ κ k p r Z c vs hvs hr hf hp hl hd hk hk7 K F
  rw [t_P6] at hr
  have e42 : s_opn (42 :: ρ) = s_opn ρ + 1 := rfl
  have n42 : s_nt (42 :: ρ) = s_nt ρ + 1 := rfl
  have hno := s_nt_op ρ
  have es : s_se 1 (42 :: ρ) = 42 :: ρ := rfl
  have htp0 : l_tp (42 :: ρ) := fun ρ e => by injection e with e1 _; omega
  refine ih.2.2.2.1 (42 :: ρ) (k :: κ) k p _ (fun ν => (vs ν).reverse ++ c ν :: Z ν) rfl (by omega) hp es htp0 (by rw [e42, List.length_cons]; exact hl) (by rw [e42]; exact hd) (by rw [n42, List.length_cons, hk]) (by omega) ?_ ?_
  · intro e0 hq1 hq2 hmd hpm π hu E3 w3 N3 s3 hX3 hw3 hS3 hN3
    obtain ⟨N3, rfl⟩ : ∃ m, N3 = m + 1 := ⟨N3 - 1, by omega⟩
    rw [if_neg (fun q => q e0)] at hr
    have hV : ∀ ν a, t_V b n (Nat.beq so 1) ν (f + 1) 6 (s_opn (42 :: ρ)) k p a = (if t_is b n (t_P b n (Nat.beq so 1) f 2 (s_opn (42 :: ρ)) k p).2 44 = true then (if a ≤ 1 then t_V b n (Nat.beq so 1) ν f 2 (s_opn (42 :: ρ)) k p (0) else t_V b n (Nat.beq so 1) ν f 6 (s_opn (42 :: ρ)) (k + 1) (t_x b n (t_P b n (Nat.beq so 1) f 2 (s_opn (42 :: ρ)) k p).2) (a - 1)) else t_V b n (Nat.beq so 1) ν f 2 (s_opn (42 :: ρ)) k p (0)) := fun ν a => rfl
    have hX4 : l_X (fun ν => (vs ν ++ [t_V b n (Nat.beq so 1) ν f 2 (s_opn (42 :: ρ)) k p (0)]).reverse ++ c ν :: Z ν) (E3 ++ s_op 1 π) := fun ν hν => (hX3 ν hν).trans (by simp)
    generalize t_P b n (Nat.beq so 1) f 2 (s_opn (42 :: ρ)) k p = s at hr e0 hq1 hq2 hmd hpm hw3 hS3 hV hN3
    have htp := l_up_tp hu htp0 (by decide)
    have hpl := hu.2.2
    rw [List.length_cons] at hpl
    have hdo := hu.2.1
    rw [e42] at hdo
    have hsl := s_se_len 1 π
    rw [hu.1, List.length_cons] at hsl
    have hy8 := l_y_8 hmd hpm
    have hon : l_on π = 42 := l_on_se (by decide) hu.1 (by decide)
    by_cases h44 : t_is b n s.2 44 = true
    · rw [if_pos h44] at hr
      have hy := t_x_lt (b := b) (t_is_lt h44)
      by_cases h6 : k = 6
      · subst h6
        obtain ⟨g, rfl⟩ : ∃ g, f = g + 4 := ⟨f - 4, by omega⟩
        rw [show (6 + 1 : Nat) = 7 from rfl, t_P7] at hr
        subst hr
        have hne : (if t_F b n (Nat.beq so 1) (s_opn (42 :: ρ)) (t_x b n s.2) ≠ 0 then t_F b n (Nat.beq so 1) (s_opn (42 :: ρ)) (t_x b n s.2) else 7) ≠ 0 := by
          split
          · assumption
          · decide
        obtain ⟨s4, d1, hS4⟩ := P_nx_7 hS3 hq2 ht (by omega) (by omega) rfl h44 hu.1 (by omega) (by omega)
        rw [l_hft (e := if t_F b n (Nat.beq so 1) (s_opn (42 :: ρ)) (t_x b n s.2) ≠ 0 then t_F b n (Nat.beq so 1) (s_opn (42 :: ρ)) (t_x b n s.2) else 7) hS3 hne ((P_bh_n hS3 (by omega) htp hy8).trans (by rw [hon, if_pos rfl, if_pos h44, d1, d_b2_t]))]
        exact F hne _ ⟨_, _, _, _, _, _, hS4⟩
      · obtain ⟨s4, d1, hS4⟩ := P_nx_1 hS3 hq2 ht (by omega) (by omega) rfl h44 hu.1 (by omega) (by omega)
        rw [l_h0t hS3 ((P_bh_n hS3 (by omega) htp hy8).trans (by rw [hon, if_pos rfl, if_pos h44, d1, d_b2_t]))]
        exact ih.2.2.2.2.2 ρ κ (k + 1) (t_x b n s.2) r Z c (fun ν => vs ν ++ [t_V b n (Nat.beq so 1) ν f 2 (s_opn (42 :: ρ)) k p (0)]) (fun ν => by have := hvs ν; simp only [List.length_append, List.length_cons, List.length_nil]; omega) hr (by omega) hy.2 hl hd hk (by omega) (fun q1 q2 q3 => l_go_mono (fun E4 g ν hν => by
          have g2 := g ν hν
          dsimp only at g2 ⊢
          rw [t_sl_more] at g2
          rw [hV ν, if_pos h44]
          rw [show c ν - ((vs ν).length : Int) - 1 = c ν - (((vs ν ++ [t_V b n (Nat.beq so 1) ν f 2 (s_opn (42 :: ρ)) k p (0)]).length : Nat) : Int) by simp only [List.length_append, List.length_cons, List.length_nil]; omega]
          exact g2) (K q1 (by omega) q3)) F (E3 ++ s_op 1 π) _ N3 s4 hX4 (by rw [List.length_cons]; omega) hS4 (by omega)
    rw [if_neg h44] at hr
    by_cases h41 : t_is b n s.2 41 = true
    · rw [if_pos h41] at hr
      subst hr
      have hy := t_x_lt (b := b) (t_is_lt h41)
      obtain ⟨s4, d1, w4, e4, hS4⟩ := P_bh_cl42 hS3 hq2 ht (by omega) (by omega) rfl htp hy8 hu.1 h41 (by omega) (by omega)
      rw [l_h0t hS3 d1]
      exact K rfl (by show p < t_x b n s.2; omega) hy.2 (E3 ++ s_op 1 π ++ [(2, k)] ++ s_op 3 ρ) w4 N3 s4 (fun ν hν => by
        dsimp only
        refine r_evo_mn (r_evo_one (hX4 ν hν) ?_)
        have hl1 : (vs ν ++ [t_V b n (Nat.beq so 1) ν f 2 (s_opn (42 :: ρ)) k p (0)]).length = k := by have := hvs ν; simp only [List.length_append, List.length_cons, List.length_nil]; omega
        have q1 := r_sto_nth (ν := ν) (vs := vs ν ++ [t_V b n (Nat.beq so 1) ν f 2 (s_opn (42 :: ρ)) k p (0)]) (r := Z ν) (z := c ν) (by simp)
        rw [hl1, t_sl_last] at q1
        rw [hV ν, if_neg h44]
        exact q1) (by show w4 + _ ≤ t_x b n s.2 + 3; omega) hS4 (by show n - t_x b n s.2 < N3; omega)
    · rw [if_neg h41] at hr
      subst hr
      rw [l_h1t hS3 ((P_bh_n hS3 (by omega) htp hy8).trans (by rw [hon, if_pos rfl, if_neg h44]; exact P_152_no hS3.1 (by decide) h41)), l_e1 hS3 (by omega) hu.1 (by decide)]
      exact F (show (1 : Nat) ≠ 0 by decide) _ ⟨_, _, _, _, _, _, hS3⟩
  · intro e0
    rw [if_pos e0] at hr
    subst hr
    exact F e0
theorem l_A_ok (hn : n ≤ 300) (ht : t0 ≤ 2331) : ∀ f, l_A s0 b n so t0 Q f0 T f := by
  intro f
  induction f with
  | zero =>
    refine ⟨?_, ?_, ?_, ?_, ?_, ?_⟩
    · intro _ _ _ _ _ _ _ hf; omega
    · intro _ _ _ _ _ _ _ hf; omega
    · intro _ _ _ _ _ _ _ _ hf; omega
    · intro _ _ _ _ _ _ _ hf; omega
    · intro _ _ _ _ _ _ _ _ hf; omega
    · intro _ _ _ _ _ _ _ _ _ _ hf; omega
  | succ f ih => exact ⟨l_A0_ok hn ht ih, l_A1_ok ih, l_A4_ok hn ht ih, l_A2_ok ih, l_A5_ok hn ht ih, l_A6_ok hn ht ih⟩
theorem P_summed {s : d_S} {p w : Nat} {r : Nat × Nat} (hT : l_T b n p s) (ht : t0 ≤ 2331) (hp : p ≤ n) (hw : w ≤ p + 3) (h12 : s.1 64 12 = (t0 : Int)) (h13 : s.1 64 13 = (w : Int)) (h14 : s.1 64 14 = (so : Int)) (hr : t_P b n (Nat.beq so 1) 4000 2 0 0 p = r) : ∃ s', F_X12_summed s = some ((r.1 : Int), s') ∧ ∃ (w2 : Nat) (E : List (Nat × Nat)), l_T b n r.2 s' ∧ s'.1 64 13 = (w2 : Int) ∧ l_E (s'.1 67) t0 w2 (w, E, s.1 67) ∧ l_h s s' ∧ (r.1 = 0 → w2 ≤ r.2 + 3 ∧ p < r.2 ∧ r.2 ≤ n ∧ ∀ ν, t_bn ν → r_evo ν E [] = some [t_V b n (Nat.beq so 1) ν 4000 2 0 0 p 0]) := by
  have hn := hT.1.2.1
  obtain ⟨s4, hs4⟩ : ∃ z, z = d_si (d_si (d_si (d_si s 64 17 0) 64 18 0) 64 19 0) 64 20 0 := ⟨_, rfl⟩
  have g4 : ∀ k, k ≠ 17 → k ≠ 18 → k ≠ 19 → k ≠ 20 → s4.1 64 k = s.1 64 k := fun k q1 q2 q3 q4 => by rw [hs4, d_si_i, d_u_n q4, d_si_i, d_u_n q3, d_si_i, d_u_n q2, d_si_i, d_u_n q1]
  have g4o : ∀ a, a ≠ 64 → s4.1 a = s.1 a := fun a q => by rw [hs4, d_si_n q, d_si_n q, d_si_n q, d_si_n q]
  have hh : l_h s s4 := by rw [hs4]; exact (((l_h.s64 (by decide)).tr (l_h.s64 (by decide))).tr (l_h.s64 (by decide))).tr (l_h.s64 (by decide))
  have hS : l_S s b n p [] [] w so false 0 t0 (w, [], s.1 67) s4 := by
    refine ⟨hT.g (fun k hk => g4 k (by omega) (by omega) (by omega) (by omega)) (g4o 68 (by decide)) (by rw [hs4]; rfl), ⟨by rw [g4 12 (by decide) (by decide) (by decide) (by decide)]; exact h12, by rw [g4 13 (by decide) (by decide) (by decide) (by decide)]; exact h13, by rw [g4 14 (by decide) (by decide) (by decide) (by decide)]; exact h14, ?_, ?_, ?_, ?_⟩, trivial, trivial, ⟨rfl, fun i hi => absurd hi (Nat.not_lt_zero i), fun j _ => by rw [g4o 67 (by decide)]⟩, hh⟩
    · rw [hs4, d_si_i, d_u_n (by decide), d_si_i, d_u_n (by decide), d_si_i, d_u_n (by decide), d_si_i, d_u_t]; rfl
    · rw [hs4, d_si_i, d_u_n (by decide), d_si_i, d_u_n (by decide), d_si_i, d_u_t]; rfl
    · rw [hs4, d_si_i, d_u_n (by decide), d_si_i, d_u_t]; rfl
    · rw [hs4, d_si_i, d_u_t]; rfl
  have hgo : F_X12_summed s = F_X12_summed_l20 l_K d_N s4 := by
    rw [hs4]; rfl
  rw [hgo]
  refine (l_A_ok (s0 := s) (so := so) (Q := fun o => ∃ s', o = some ((r.1 : Int), s') ∧ ∃ (w2 : Nat) (E : List (Nat × Nat)), l_T b n r.2 s' ∧ s'.1 64 13 = (w2 : Int) ∧ l_E (s'.1 67) t0 w2 (w, E, s.1 67) ∧ l_h s s' ∧ (r.1 = 0 → w2 ≤ r.2 + 3 ∧ p < r.2 ∧ r.2 ≤ n ∧ ∀ ν, t_bn ν → r_evo ν E [] = some [t_V b n (Nat.beq so 1) ν 4000 2 0 0 p 0])) (f0 := w) (T := s.1 67) hn ht 4000).2.2.2.1 [] [] 0 p r (fun _ => []) hr (by omega) hp rfl (fun ρ e => by cases e) (Nat.le_refl _) (by decide) rfl (by decide) ?_ ?_ [] w d_N s4 (fun _ _ => rfl) (by simp only [List.length_nil]; omega) hS (by rw [d_N_is]; omega)
  · intro e0 hq1 hq2 hmd hpm π hu E3 w3 N3 s3 hX3 hw3 hS3 hN3
    obtain ⟨N3, rfl⟩ : ∃ m, N3 = m + 1 := ⟨N3 - 1, by omega⟩
    have hpl : π.length ≤ 2 := hu.2.2
    have hon : l_on π = -1 := l_on_nil hu.1
    obtain ⟨s5, d1, hS5⟩ := l_e0 hS3 ht (by omega) (by omega) rfl hu.1
    rw [l_h1t hS3 ((P_bh_n hS3 (by omega) (l_up_tp hu (fun ρ e => by cases e) (by decide)) (l_y_8 hmd hpm)).trans (by rw [hon, if_neg (by decide)]; exact P_152_0)), d1, e0]
    exact ⟨s5, rfl, _, _, hS5.1, hS5.2.1.2.1, hS5.2.2.2.2.1, hS5.2.2.2.2.2, fun _ => ⟨by omega, hq1, hq2, hX3⟩⟩
  · intro e0 s5 hx
    obtain ⟨σ2, κ2, w2, wh2, d2, E2, hS5⟩ := hx
    exact ⟨s5, rfl, w2, E2, hS5.1, hS5.2.1.2.1, hS5.2.2.2.2.1, hS5.2.2.2.2.2, fun q => absurd q e0⟩
end X11

section X11
variable {s0 : d_S} {n so t0 f : Nat} {b : Nat → Nat} {Q : Option (Int × d_S) → Prop} {f0 : Nat} {T : Nat → Int}
theorem l_A0_ok (hn : n ≤ 300) (ht : t0 ≤ 2331) (ih : l_A s0 b n so t0 Q f0 T f) : l_A0 s0 b n so t0 Q f0 T (f + 1) := by
  intro σ κ k p r Z hr hf hp hl hd hk hk7 K F
  rw [t_P0] at hr
  by_cases hF : t_F b n (Nat.beq so 1) (s_opn σ) p = 0
  rotate_left
  · rw [if_pos hF] at hr
    subst hr
    intro E w N s hX hw hS hN
    obtain ⟨N, rfl⟩ : ∃ m, N = m + 1 := ⟨N - 1, by omega⟩
    rw [l_hfb hS hF (P_b1_F hS hd hF)]
    exact F hF _ ⟨_, _, _, _, _, _, hS⟩
  rw [if_neg (fun q => q hF), if_neg hk7] at hr
  have hpn := t_F_lt hF
  have hx := t_x_lt (b := b) hpn
  by_cases ho : t_op b n p = false
  · rw [if_pos ho] at hr
    subst hr
    intro E w N s hX hw hS hN
    obtain ⟨N, rfl⟩ : ∃ m, N = m + 1 := ⟨N - 1, by omega⟩
    obtain ⟨s2, c1, w2, e2, hS2⟩ := P_b1_1 hS hd hp ht hF ho (by omega) (by omega) rfl
    rw [l_h0b hS c1]
    exact K rfl hx.1 hx.2 (E ++ [t_e1 b n p] ++ s_op 3 σ) w2 N s2 (fun ν hν => by dsimp only; rw [t_V0, if_pos ho]; exact r_evo_mn (r_evo_one (hX ν hν) (r_sto_e1 hF ho))) (by show w2 + _ ≤ t_x b n p + 3; omega) hS2 (by show n - t_x b n p < N; omega)
  rw [if_neg ho] at hr
  have ho : t_op b n p = true := by cases q : t_op b n p with
    | true => rfl
    | false => exact absurd q ho
  have hd8 := t_F_op hF ho
  have e41 : s_opn (41 :: σ) = s_opn σ + 1 := rfl
  have e42 : s_opn (42 :: σ) = s_opn σ + 1 := rfl
  have e40 : s_opn (40 :: σ) = s_opn σ + 1 := rfl
  have e3 : s_opn (3 :: σ) = s_opn σ + 1 := rfl
  have n41 : s_nt (41 :: σ) = s_nt σ := rfl
  have n40 : s_nt (40 :: σ) = s_nt σ := rfl
  have n3 : s_nt (3 :: σ) = s_nt σ := rfl
  have hno := s_nt_op σ
  by_cases h20 : t_wd b n p 20 = true
  · rw [if_pos h20] at hr
    have hpx : l_px b n p = 41 := by
      have no : ∀ c, ¬ t_is b n p c = true := fun c e => by have := (t_is_iff.mp e).1; have := (t_wd_iff.mp h20).1; omega
      unfold l_px; rw [if_neg (no 40), if_neg (no 45)]
    intro E w N s hX hw hS hN
    obtain ⟨N, rfl⟩ : ∃ m, N = m + 1 := ⟨N - 1, by omega⟩
    obtain ⟨s2, c1, hS2⟩ := P_b1_op hS hd hp hF ho (by omega)
    rw [hpx] at hS2
    rw [l_h0b hS c1]
    refine ih.1 (41 :: σ) κ 0 (t_x b n p) _ Z rfl (by omega) hx.2 (by rw [e41, List.length_cons]; omega) (by rw [e41]; omega) (by rw [n41]; exact hk) (by decide) ?_ ?_ E w N s2 hX (by rw [List.length_cons]; omega) (by rw [e41]; exact hS2) (by omega)
    · intro e0 hq1 hq2 E3 w3 N3 s3 hX3 hw3 hS3 hN3
      obtain ⟨N3, rfl⟩ : ∃ m, N3 = m + 1 := ⟨N3 - 1, by omega⟩
      have hX3 : l_X (fun ν => t_V b n (Nat.beq so 1) ν f 0 (s_opn σ + 1) 0 (t_x b n p) (0) :: Z ν) E3 := hX3
      have hV : ∀ ν, t_V b n (Nat.beq so 1) ν (f + 1) 0 (s_opn σ) k p 0 = t_V b n (Nat.beq so 1) ν f 6 (s_opn σ + 1) 1 (t_x b n (t_x b n (t_P b n (Nat.beq so 1) f 0 (s_opn σ + 1) 0 (t_x b n p)).2)) (t_V b n (Nat.beq so 1) ν f 0 (s_opn σ + 1) 0 (t_x b n p) (0)) := fun ν => by rw [t_V0, if_neg (by rw [ho]; decide), if_pos h20]
      rw [e41] at e0 hq1 hq2 hw3 hS3 hN3
      rw [if_neg (fun q => q e0)] at hr
      have hs41 : s_se 3 (41 :: σ) = 41 :: σ := rfl
      rw [hs41] at hw3 hS3
      rw [e41] at hS3
      generalize t_P b n (Nat.beq so 1) f 0 (s_opn σ + 1) 0 (t_x b n p) = s at hr e0 hq1 hq2 hw3 hS3 hV hN3
      rw [List.length_cons] at hw3
      by_cases h21 : t_wd b n s.2 21 = false
      · rw [if_pos h21] at hr
        subst hr
        rw [l_hft (e := 1) hS3 (by decide) ((P_bh_of hS3 (by omega)).trans (by rw [P_of_no hS3 h21, d_b2_t]; rfl))]
        exact F (show (1 : Nat) ≠ 0 by decide) _ ⟨_, _, _, _, _, _, hS3⟩
      rw [if_neg h21] at hr
      have h21 : t_wd b n s.2 21 = true := by cases q : t_wd b n s.2 21 with
        | true => rfl
        | false => exact absurd q h21
      have hy := t_x_lt (b := b) (t_wd_lt h21)
      by_cases h40 : t_is b n (t_x b n s.2) 40 = false
      · rw [if_pos h40] at hr
        subst hr
        obtain ⟨s4, d1, hS4⟩ := P_of_no2 hS3 hq2 h21 h40
        rw [l_hft (e := 1) hS3 (by decide) ((P_bh_of hS3 (by omega)).trans (by rw [d1, d_b2_t]; rfl))]
        exact F (show (1 : Nat) ≠ 0 by decide) _ ⟨_, _, _, _, _, _, hS4⟩
      rw [if_neg h40] at hr
      have h40 : t_is b n (t_x b n s.2) 40 = true := by cases q : t_is b n (t_x b n s.2) 40 with
        | true => rfl
        | false => exact absurd q h40
      have hz := t_x_lt (b := b) (t_is_lt h40)
      obtain ⟨s4, d1, hS4⟩ := P_of_yes hS3 hq2 h21 h40 (by omega) (by omega)
      rw [l_h0t hS3 ((P_bh_of hS3 (by omega)).trans (by rw [d1, d_b2_t]))]
      exact ih.2.2.2.2.2 σ κ 1 (t_x b n (t_x b n s.2)) r Z (fun ν => t_V b n (Nat.beq so 1) ν f 0 (s_opn σ + 1) 0 (t_x b n p) (0)) (fun _ => []) (fun _ => rfl) (by rw [e42]; exact hr) (by omega) hz.2 (by omega) (by omega) hk (by decide) (fun q1 q2 q3 => l_go_mono (fun E4 g ν hν => by have g2 := g ν hν; dsimp only at g2 ⊢; rw [t_sl_nil, e42] at g2; rw [hV ν]; simpa using g2) (K q1 (by omega) q3)) F E3 w3 N3 s4 hX3 (by rw [List.length_cons]; omega) (by rw [e42]; exact hS4) (by omega)
    · intro e0
      rw [e41] at e0 ⊢
      rw [if_pos e0] at hr
      subst hr
      exact F e0
  rw [if_neg h20] at hr
  by_cases h45 : t_is b n p 45 = true
  · rw [if_pos h45] at hr
    have hpx : l_px b n p = 3 := by
      unfold l_px; rw [t_is_one (e := 40) h45 (by decide), if_neg (by decide), if_pos h45]
    intro E w N s hX hw hS hN
    obtain ⟨N, rfl⟩ : ∃ m, N = m + 1 := ⟨N - 1, by omega⟩
    obtain ⟨s2, c1, hS2⟩ := P_b1_op hS hd hp hF ho (by omega)
    rw [hpx] at hS2
    rw [l_h0b hS c1]
    have es : s_se 3 (3 :: σ) = s_se 3 σ := rfl
    refine ih.1 (3 :: σ) κ 0 (t_x b n p) r Z (by rw [e3]; exact hr) (by omega) hx.2 (by rw [e3, List.length_cons]; omega) (by rw [e3]; omega) (by rw [n3]; exact hk) (by decide) ?_ F E w N s2 hX (by rw [List.length_cons]; omega) (by rw [e3]; exact hS2) (by omega)
    rw [es, e3]
    exact fun q1 q2 q3 => l_go_mono (fun E4 g ν hν => by have g2 := g ν hν; dsimp only at g2 ⊢; rw [t_mn_3] at g2; rw [t_V0, if_neg (by rw [ho]; decide), if_neg h20, if_pos h45]; exact g2) (K q1 (by omega) q3)
  rw [if_neg h45] at hr
  have h40 : t_is b n p 40 = true := by
    unfold t_op at ho
    simp only [Bool.or_eq_true] at ho
    rcases ho with e | e | e
    · exact e
    · exact absurd e h45
    · exact absurd e h20
  have hpx : l_px b n p = 40 := by unfold l_px; rw [if_pos h40]
  intro E w N s hX hw hS hN
  obtain ⟨N, rfl⟩ : ∃ m, N = m + 1 := ⟨N - 1, by omega⟩
  obtain ⟨s2, c1, hS2⟩ := P_b1_op hS hd hp hF ho (by omega)
  rw [hpx] at hS2
  rw [l_h0b hS c1]
  have es : s_se 1 (40 :: σ) = 40 :: σ := rfl
  refine ih.2.2.2.1 (40 :: σ) κ 0 (t_x b n p) _ Z rfl (by omega) hx.2 es (fun ρ e => by injection e with e1 _; omega) (by rw [e40, List.length_cons]; omega) (by rw [e40]; omega) (by rw [n40]; exact hk) (by decide) ?_ ?_ E w N s2 hX (by rw [List.length_cons]; omega) (by rw [e40]; exact hS2) (by omega)
  · intro e0 hq1 hq2 hmd hpm π hu E3 w3 N3 s3 hX3 hw3 hS3 hN3
    obtain ⟨N3, rfl⟩ : ∃ m, N3 = m + 1 := ⟨N3 - 1, by omega⟩
    rw [e40] at e0 hq1 hq2 hmd hpm hw3 hS3 hX3 hN3
    rw [if_neg (fun q => q e0)] at hr
    generalize t_P b n (Nat.beq so 1) f 2 (s_opn σ + 1) 0 (t_x b n p) = s at hr e0 hq1 hq2 hmd hpm hw3 hS3 hN3
    have htp := l_up_tp hu (fun ρ e => by injection e with e1 _; omega) (by decide)
    have hpl := hu.2.2
    rw [List.length_cons] at hpl
    have hy8 := l_y_8 hmd hpm
    by_cases h41 : t_is b n s.2 41 = true
    · rw [if_pos h41] at hr
      subst hr
      have hy := t_x_lt (b := b) (t_is_lt h41)
      obtain ⟨s4, d1, w4, e4, hS4⟩ := P_bh_cl40 hS3 hq2 ht (by omega) (by omega) rfl htp hy8 hu.1 h41
      rw [l_h0t hS3 d1]
      exact K rfl (by show p < t_x b n s.2; omega) hy.2 (E3 ++ s_op 1 π ++ s_op 3 σ) w4 N3 s4 (fun ν hν => by dsimp only; rw [t_V0, if_neg (by rw [ho]; decide), if_neg h20, if_neg h45]; exact r_evo_mn (hX3 ν hν)) (by show w4 + _ ≤ t_x b n s.2 + 3; omega) hS4 (by show n - t_x b n s.2 < N3; omega)
    · rw [if_neg h41] at hr
      subst hr
      have hon : l_on π = 40 := l_on_se (by decide) hu.1 (by decide)
      rw [l_h1t hS3 ((P_bh_n hS3 (by omega) htp hy8).trans (by rw [hon, if_neg (by decide)]; exact P_152_no hS3.1 (by decide) h41)), l_e1 hS3 (by omega) hu.1 (by decide)]
      exact F (show (1 : Nat) ≠ 0 by decide) _ ⟨_, _, _, _, _, _, hS3⟩
  · intro e0
    rw [e40] at e0 ⊢
    rw [if_pos e0] at hr
    subst hr
    exact F e0
theorem l_A1_ok (ih : l_A s0 b n so t0 Q f0 T f) : l_A1 s0 b n so t0 Q f0 T (f + 1) := by
  intro σ κ k p r Z hr hf hp hse htp hl hd hk hk7 K F
  rw [t_P1] at hr
  have h3 := s_se_ge (by decide : 2 ≤ 3) hse
  refine ih.1 σ κ k p _ Z rfl (by omega) hp (by omega) hd hk hk7 ?_ ?_
  · intro e0 hq1 hq2
    rw [if_neg (fun q => q e0)] at hr
    rw [h3]
    exact l_go_mono (fun E g ν hν => by have g2 := g ν hν; dsimp only at g2 ⊢; rw [t_mn_id (by decide : 2 ≤ 3) hse] at g2; rw [s_op_nil hse, List.append_nil]; exact g2) (ih.2.2.1 σ σ κ _ r Z (fun ν => t_V b n (Nat.beq so 1) ν f 0 (s_opn σ) k p (0)) hr (by omega) hq2 hse htp ⟨hse, rfl, by omega⟩ hl hd hk (fun q1 q2 q3 q4 π hu => l_go_mono (fun E g ν hν => by dsimp only; rw [t_V1]; exact g ν hν) (K q1 (by omega) q3 q4 π hu)) F)
  · intro e0
    rw [if_pos e0] at hr
    subst hr
    exact F e0
theorem l_A4_ok (hn : n ≤ 300) (ht : t0 ≤ 2331) (ih : l_A s0 b n so t0 Q f0 T f) : l_A4 s0 b n so t0 Q f0 T (f + 1) := by
  intro σ τ κ p r Z a hr hf hp hse htp hu hl hd hk K F
  rw [t_P4] at hr
  have hul := hu.2.2
  have hut := l_up_tp hu htp (by decide)
  by_cases q : t_is b n p 42 = true ∨ t_is b n p 47 = true
  rotate_left
  · rw [if_neg q] at hr
    subst hr
    exact l_go_mono (fun E g ν hν => by dsimp only; rw [t_V4, if_neg (fun e => q (Or.inl e)), if_neg (fun e => q (Or.inr e))]; exact g ν hν) (K rfl (Nat.le_refl _) hp ⟨Bool.eq_false_iff.mpr (fun e => q (Or.inl e)), Bool.eq_false_iff.mpr (fun e => q (Or.inr e))⟩ τ hu)
  rw [if_pos q] at hr
  have hpn : p < n := by rcases q with q | q <;> exact t_is_lt q
  have hx := t_x_lt (b := b) hpn
  intro E w N s hX hw hS hN
  obtain ⟨N, rfl⟩ : ∃ m, N = m + 1 := ⟨N - 1, by omega⟩
  have go : ∀ x, (x = 6 ∨ x = 7) → l_y b n p = x → (∀ ν, t_V b n (Nat.beq so 1) ν (f + 1) 4 (s_opn σ) 0 p (a ν) = t_V b n (Nat.beq so 1) ν f 4 (s_opn σ) 0 (t_P b n (Nat.beq so 1) f 0 (s_opn σ) 0 (t_x b n p)).2 (t_op2 (x + 1) (a ν) (t_V b n (Nat.beq so 1) ν f 0 (s_opn σ) 0 (t_x b n p) (0)))) → Q (F_X12_summed_l20 l_K (N + 1) s) := by
    intro x hx67 hyx hV
    have ex : s_opn (x :: σ) = s_opn σ := by
      show s_opn σ + (if x = 3 ∨ 40 ≤ x then 1 else 0) = s_opn σ
      rw [if_neg (by omega)]; rfl
    have nx : s_nt (x :: σ) = s_nt σ := by
      show s_nt σ + (if x = 42 then 1 else 0) = s_nt σ
      rw [if_neg (by omega)]; rfl
    have rk : s_rk x = 2 := by unfold s_rk; rw [if_neg (by omega), if_neg (by omega), if_pos (by omega)]
    have s3 : s_se 3 (x :: σ) = x :: σ := by simp only [s_se]; rw [if_neg (by omega)]
    have s2 : s_se 2 (x :: σ) = σ := by simp only [s_se]; rw [if_pos (by omega)]; exact hse
    obtain ⟨h2, d1, w2, e2, hS2⟩ := P_bh_op hS hp ht (by omega) (by omega) rfl hut hyx (by omega) rk (by decide) (by omega)
    rw [hu.1] at e2 hS2
    rw [l_h0t hS d1]
    refine ih.1 (x :: σ) κ 0 (t_x b n p) _ (fun ν => a ν :: Z ν) rfl (by omega) hx.2 (by rw [ex, List.length_cons]; omega) (by rw [ex]; exact hd) (by rw [nx]; exact hk) (by decide) ?_ ?_ (E ++ s_op 2 τ) w2 N h2 hX (by rw [List.length_cons]; omega) hS2 (by omega)
    · rw [ex, s3]
      intro e0 hq1 hq2
      rw [if_neg (fun q => q e0)] at hr
      have so2 : s_op 2 (x :: σ) = [(x, 0)] := by simp only [s_op]; rw [if_pos (by omega), s_op_nil hse]
      exact l_go_mono (fun E4 g ν hν => by have g2 := g ν hν; dsimp only at g2 ⊢; rw [t_mn_ne (by omega)] at g2; rw [so2]; exact r_evo_one g2 (r_sto_bin (by omega))) (ih.2.2.1 σ (x :: σ) κ _ r Z (fun ν => t_op2 (x + 1) (a ν) (t_V b n (Nat.beq so 1) ν f 0 (s_opn σ) 0 (t_x b n p) (0))) hr (by omega) hq2 hse htp ⟨s2, ex, Nat.le_refl _⟩ hl hd hk (fun q1 q2 q3 q4 π hu => l_go_mono (fun E4 g ν hν => by dsimp only; rw [hV ν]; exact g ν hν) (K q1 (by omega) q3 q4 π hu)) F)
    · rw [ex]
      intro e0
      rw [if_pos e0] at hr
      subst hr
      exact F e0
  by_cases q42 : t_is b n p 42 = true
  · exact go 6 (Or.inl rfl) (l_y6 q42) (fun ν => by rw [t_V4, if_pos q42])
  · exact go 7 (Or.inr rfl) (l_y7 (q.resolve_left q42)) (fun ν => by rw [t_V4, if_neg q42, if_pos (q.resolve_left q42)])
theorem l_A2_ok (ih : l_A s0 b n so t0 Q f0 T f) : l_A2 s0 b n so t0 Q f0 T (f + 1) := by
  intro σ κ k p r Z hr hf hp hse htp hl hd hk hk7 K F
  rw [t_P2] at hr
  refine ih.2.1 σ κ k p _ Z rfl (by omega) hp (s_se_ge (by decide : 1 ≤ 2) hse) htp (by omega) hd hk hk7 ?_ ?_
  · intro e0 hq1 hq2 hmd π hu
    rw [if_neg (fun q => q e0)] at hr
    have hul := hu.2.2
    have so1 : s_op 1 π = s_op 2 π := by rw [s_op_se (by decide : 1 ≤ 2) π, hu.1, s_op_nil hse, List.append_nil]
    exact l_go_mono (fun E g ν hν => by dsimp only; rw [so1]; exact g ν hν) (ih.2.2.2.2.1 σ π κ _ r Z (fun ν => t_V b n (Nat.beq so 1) ν f 1 (s_opn σ) k p (0)) hr (by omega) hq2 hmd hse htp ⟨by rw [← s_se_se (by decide : 1 ≤ 2) π, hu.1]; exact hse, hu.2.1, by omega⟩ hl hd hk (fun q1 q2 q3 q4 q5 π hu => l_go_mono (fun E g ν hν => by dsimp only; rw [t_V2]; exact g ν hν) (K q1 (by omega) q3 q4 q5 π hu)) F)
  · intro e0
    rw [if_pos e0] at hr
    subst hr
    exact F e0
theorem l_A5_ok (hn : n ≤ 300) (ht : t0 ≤ 2331) (ih : l_A s0 b n so t0 Q f0 T f) : l_A5 s0 b n so t0 Q f0 T (f + 1) := by
  intro σ τ κ p r Z a hr hf hp hmd hse htp hu hl hd hk K F
  rw [t_P5] at hr
  have hul := hu.2.2
  have hut := l_up_tp hu htp (by decide)
  by_cases q : t_is b n p 43 = true ∨ t_is b n p 45 = true
  rotate_left
  · rw [if_neg q] at hr
    subst hr
    exact l_go_mono (fun E g ν hν => by dsimp only; rw [t_V5, if_neg (fun e => q (Or.inl e)), if_neg (fun e => q (Or.inr e))]; exact g ν hν) (K rfl (Nat.le_refl _) hp hmd ⟨Bool.eq_false_iff.mpr (fun e => q (Or.inl e)), Bool.eq_false_iff.mpr (fun e => q (Or.inr e))⟩ τ hu)
  rw [if_pos q] at hr
  have hpn : p < n := by rcases q with q | q <;> exact t_is_lt q
  have hx := t_x_lt (b := b) hpn
  intro E w N s hX hw hS hN
  obtain ⟨N, rfl⟩ : ∃ m, N = m + 1 := ⟨N - 1, by omega⟩
  have go : ∀ x, (x = 4 ∨ x = 5) → l_y b n p = x → (∀ ν, t_V b n (Nat.beq so 1) ν (f + 1) 5 (s_opn σ) 0 p (a ν) = t_V b n (Nat.beq so 1) ν f 5 (s_opn σ) 0 (t_P b n (Nat.beq so 1) f 1 (s_opn σ) 0 (t_x b n p)).2 (t_op2 (x + 1) (a ν) (t_V b n (Nat.beq so 1) ν f 1 (s_opn σ) 0 (t_x b n p) (0)))) → Q (F_X12_summed_l20 l_K (N + 1) s) := by
    intro x hx45 hyx hV
    have ex : s_opn (x :: σ) = s_opn σ := by
      show s_opn σ + (if x = 3 ∨ 40 ≤ x then 1 else 0) = s_opn σ
      rw [if_neg (by omega)]; rfl
    have nx : s_nt (x :: σ) = s_nt σ := by
      show s_nt σ + (if x = 42 then 1 else 0) = s_nt σ
      rw [if_neg (by omega)]; rfl
    have rk : s_rk x = 1 := by unfold s_rk; rw [if_neg (by omega), if_neg (by omega), if_neg (by omega)]
    have s2 : s_se 2 (x :: σ) = x :: σ := by simp only [s_se]; rw [if_neg (by omega)]
    have s1 : s_se 1 (x :: σ) = σ := by simp only [s_se]; rw [if_pos (by omega)]; exact hse
    obtain ⟨h2, d1, w2, e2, hS2⟩ := P_bh_op hS hp ht (by omega) (by omega) rfl hut hyx (by omega) rk (by decide) (by omega)
    rw [hu.1] at e2 hS2
    rw [l_h0t hS d1]
    refine ih.2.1 (x :: σ) κ 0 (t_x b n p) _ (fun ν => a ν :: Z ν) rfl (by omega) hx.2 s2 (fun ρ e => by injection e with e1 _; omega) (by rw [ex, List.length_cons]; omega) (by rw [ex]; exact hd) (by rw [nx]; exact hk) (by decide) ?_ ?_ (E ++ s_op 1 τ) w2 N h2 hX (by rw [List.length_cons]; omega) hS2 (by omega)
    · rw [ex]
      intro e0 hq1 hq2 hmd2 π hu2
      rw [if_neg (fun q => q e0)] at hr
      have hul2 := hu2.2.2
      rw [List.length_cons] at hul2
      have so1 : s_op 1 (x :: σ) = [(x, 0)] := by simp only [s_op]; rw [if_pos (by omega), s_op_nil hse]
      have so2 : s_op 1 π = s_op 2 π ++ [(x, 0)] := by rw [s_op_se (by decide : 1 ≤ 2) π, hu2.1, so1]
      exact l_go_mono (fun E4 g ν hν => by dsimp only; rw [so2, ← List.append_assoc]; exact r_evo_one (g ν hν) (r_sto_bin (by omega))) (ih.2.2.2.2.1 σ π κ _ r Z (fun ν => t_op2 (x + 1) (a ν) (t_V b n (Nat.beq so 1) ν f 1 (s_opn σ) 0 (t_x b n p) (0))) hr (by omega) hq2 hmd2 hse htp ⟨by rw [← s_se_se (by decide : 1 ≤ 2) π, hu2.1]; exact s1, hu2.2.1.trans ex, by omega⟩ hl hd hk (fun q1 q2 q3 q4 q5 π hu => l_go_mono (fun E4 g ν hν => by dsimp only; rw [hV ν]; exact g ν hν) (K q1 (by omega) q3 q4 q5 π hu)) F)
    · rw [ex]
      intro e0
      rw [if_pos e0] at hr
      subst hr
      exact F e0
  by_cases q43 : t_is b n p 43 = true
  · exact go 4 (Or.inl rfl) (l_y4 q43) (fun ν => by rw [t_V5, if_pos q43])
  · exact go 5 (Or.inr rfl) (l_y5 (q.resolve_left q43)) (fun ν => by rw [t_V5, if_neg q43, if_pos (q.resolve_left q43)])
theorem l_A6_ok (hn : n ≤ 300) (ht : t0 ≤ 2331) (ih : l_A s0 b n so t0 Q f0 T f) : l_A6 s0 b n so t0 Q f0 T (f + 1) := by
  intro ρ κ k p r Z c vs hvs hr hf hp hl hd hk hk7 K F
  rw [t_P6] at hr
  have e42 : s_opn (42 :: ρ) = s_opn ρ + 1 := rfl
  have n42 : s_nt (42 :: ρ) = s_nt ρ + 1 := rfl
  have hno := s_nt_op ρ
  have es : s_se 1 (42 :: ρ) = 42 :: ρ := rfl
  have htp0 : l_tp (42 :: ρ) := fun ρ e => by injection e with e1 _; omega
  refine ih.2.2.2.1 (42 :: ρ) (k :: κ) k p _ (fun ν => (vs ν).reverse ++ c ν :: Z ν) rfl (by omega) hp es htp0 (by rw [e42, List.length_cons]; exact hl) (by rw [e42]; exact hd) (by rw [n42, List.length_cons, hk]) (by omega) ?_ ?_
  · intro e0 hq1 hq2 hmd hpm π hu E3 w3 N3 s3 hX3 hw3 hS3 hN3
    obtain ⟨N3, rfl⟩ : ∃ m, N3 = m + 1 := ⟨N3 - 1, by omega⟩
    rw [if_neg (fun q => q e0)] at hr
    have hV : ∀ ν a, t_V b n (Nat.beq so 1) ν (f + 1) 6 (s_opn (42 :: ρ)) k p a = (if t_is b n (t_P b n (Nat.beq so 1) f 2 (s_opn (42 :: ρ)) k p).2 44 = true then (if a ≤ 1 then t_V b n (Nat.beq so 1) ν f 2 (s_opn (42 :: ρ)) k p (0) else t_V b n (Nat.beq so 1) ν f 6 (s_opn (42 :: ρ)) (k + 1) (t_x b n (t_P b n (Nat.beq so 1) f 2 (s_opn (42 :: ρ)) k p).2) (a - 1)) else t_V b n (Nat.beq so 1) ν f 2 (s_opn (42 :: ρ)) k p (0)) := fun ν a => rfl
    have hX4 : l_X (fun ν => (vs ν ++ [t_V b n (Nat.beq so 1) ν f 2 (s_opn (42 :: ρ)) k p (0)]).reverse ++ c ν :: Z ν) (E3 ++ s_op 1 π) := fun ν hν => (hX3 ν hν).trans (by simp)
    generalize t_P b n (Nat.beq so 1) f 2 (s_opn (42 :: ρ)) k p = s at hr e0 hq1 hq2 hmd hpm hw3 hS3 hV hN3
    have htp := l_up_tp hu htp0 (by decide)
    have hpl := hu.2.2
    rw [List.length_cons] at hpl
    have hdo := hu.2.1
    rw [e42] at hdo
    have hsl := s_se_len 1 π
    rw [hu.1, List.length_cons] at hsl
    have hy8 := l_y_8 hmd hpm
    have hon : l_on π = 42 := l_on_se (by decide) hu.1 (by decide)
    by_cases h44 : t_is b n s.2 44 = true
    · rw [if_pos h44] at hr
      have hy := t_x_lt (b := b) (t_is_lt h44)
      by_cases h6 : k = 6
      · subst h6
        obtain ⟨g, rfl⟩ : ∃ g, f = g + 4 := ⟨f - 4, by omega⟩
        rw [show (6 + 1 : Nat) = 7 from rfl, t_P7] at hr
        subst hr
        have hne : (if t_F b n (Nat.beq so 1) (s_opn (42 :: ρ)) (t_x b n s.2) ≠ 0 then t_F b n (Nat.beq so 1) (s_opn (42 :: ρ)) (t_x b n s.2) else 7) ≠ 0 := by
          split
          · assumption
          · decide
        obtain ⟨s4, d1, hS4⟩ := P_nx_7 hS3 hq2 ht (by omega) (by omega) rfl h44 hu.1 (by omega) (by omega)
        rw [l_hft (e := if t_F b n (Nat.beq so 1) (s_opn (42 :: ρ)) (t_x b n s.2) ≠ 0 then t_F b n (Nat.beq so 1) (s_opn (42 :: ρ)) (t_x b n s.2) else 7) hS3 hne ((P_bh_n hS3 (by omega) htp hy8).trans (by rw [hon, if_pos rfl, if_pos h44, d1, d_b2_t]))]
        exact F hne _ ⟨_, _, _, _, _, _, hS4⟩
      · obtain ⟨s4, d1, hS4⟩ := P_nx_1 hS3 hq2 ht (by omega) (by omega) rfl h44 hu.1 (by omega) (by omega)
        rw [l_h0t hS3 ((P_bh_n hS3 (by omega) htp hy8).trans (by rw [hon, if_pos rfl, if_pos h44, d1, d_b2_t]))]
        exact ih.2.2.2.2.2 ρ κ (k + 1) (t_x b n s.2) r Z c (fun ν => vs ν ++ [t_V b n (Nat.beq so 1) ν f 2 (s_opn (42 :: ρ)) k p (0)]) (fun ν => by have := hvs ν; simp only [List.length_append, List.length_cons, List.length_nil]; omega) hr (by omega) hy.2 hl hd hk (by omega) (fun q1 q2 q3 => l_go_mono (fun E4 g ν hν => by
          have g2 := g ν hν
          dsimp only at g2 ⊢
          rw [t_sl_more] at g2
          rw [hV ν, if_pos h44]
          rw [show c ν - ((vs ν).length : Int) - 1 = c ν - (((vs ν ++ [t_V b n (Nat.beq so 1) ν f 2 (s_opn (42 :: ρ)) k p (0)]).length : Nat) : Int) by simp only [List.length_append, List.length_cons, List.length_nil]; omega]
          exact g2) (K q1 (by omega) q3)) F (E3 ++ s_op 1 π) _ N3 s4 hX4 (by rw [List.length_cons]; omega) hS4 (by omega)
    rw [if_neg h44] at hr
    by_cases h41 : t_is b n s.2 41 = true
    · rw [if_pos h41] at hr
      subst hr
      have hy := t_x_lt (b := b) (t_is_lt h41)
      obtain ⟨s4, d1, w4, e4, hS4⟩ := P_bh_cl42 hS3 hq2 ht (by omega) (by omega) rfl htp hy8 hu.1 h41 (by omega) (by omega)
      rw [l_h0t hS3 d1]
      exact K rfl (by show p < t_x b n s.2; omega) hy.2 (E3 ++ s_op 1 π ++ [(2, k)] ++ s_op 3 ρ) w4 N3 s4 (fun ν hν => by
        dsimp only
        refine r_evo_mn (r_evo_one (hX4 ν hν) ?_)
        have hl1 : (vs ν ++ [t_V b n (Nat.beq so 1) ν f 2 (s_opn (42 :: ρ)) k p (0)]).length = k := by have := hvs ν; simp only [List.length_append, List.length_cons, List.length_nil]; omega
        have q1 := r_sto_nth (ν := ν) (vs := vs ν ++ [t_V b n (Nat.beq so 1) ν f 2 (s_opn (42 :: ρ)) k p (0)]) (r := Z ν) (z := c ν) (by simp)
        rw [hl1, t_sl_last] at q1
        rw [hV ν, if_neg h44]
        exact q1) (by show w4 + _ ≤ t_x b n s.2 + 3; omega) hS4 (by show n - t_x b n s.2 < N3; omega)
    · rw [if_neg h41] at hr
      subst hr
      rw [l_h1t hS3 ((P_bh_n hS3 (by omega) htp hy8).trans (by rw [hon, if_pos rfl, if_neg h44]; exact P_152_no hS3.1 (by decide) h41)), l_e1 hS3 (by omega) hu.1 (by decide)]
      exact F (show (1 : Nat) ≠ 0 by decide) _ ⟨_, _, _, _, _, _, hS3⟩
  · intro e0
    rw [if_pos e0] at hr
    subst hr
    exact F e0
theorem l_A_ok (hn : n ≤ 300) (ht : t0 ≤ 2331) : ∀ f, l_A s0 b n so t0 Q f0 T f := by
  intro f
  induction f with
  | zero =>
    refine ⟨?_, ?_, ?_, ?_, ?_, ?_⟩
    · intro _ _ _ _ _ _ _ hf; omega
    · intro _ _ _ _ _ _ _ hf; omega
    · intro _ _ _ _ _ _ _ _ hf; omega
    · intro _ _ _ _ _ _ _ hf; omega
    · intro _ _ _ _ _ _ _ _ hf; omega
    · intro _ _ _ _ _ _ _ _ _ _ hf; omega
  | succ f ih => exact ⟨l_A0_ok hn ht ih, l_A1_ok ih, l_A4_ok hn ht ih, l_A2_ok ih, l_A5_ok hn ht ih, l_A6_ok hn ht ih⟩
theorem P_summed {s : d_S} {p w : Nat} {r : Nat × Nat} (hT : l_T b n p s) (ht : t0 ≤ 2331) (hp : p ≤ n) (hw : w ≤ p + 3) (h12 : s.1 64 12 = (t0 : Int)) (h13 : s.1 64 13 = (w : Int)) (h14 : s.1 64 14 = (so : Int)) (hr : t_P b n (Nat.beq so 1) 4000 2 0 0 p = r) : ∃ s', F_X12_summed s = some ((r.1 : Int), s') ∧ ∃ (w2 : Nat) (E : List (Nat × Nat)), l_T b n r.2 s' ∧ s'.1 64 13 = (w2 : Int) ∧ l_E (s'.1 67) t0 w2 (w, E, s.1 67) ∧ l_h s s' ∧ (r.1 = 0 → w2 ≤ r.2 + 3 ∧ p < r.2 ∧ r.2 ≤ n ∧ ∀ ν, t_bn ν → r_evo ν E [] = some [t_V b n (Nat.beq so 1) ν 4000 2 0 0 p 0]) := by
  have hn := hT.1.2.1
  obtain ⟨s4, hs4⟩ : ∃ z, z = d_si (d_si (d_si (d_si s 64 17 0) 64 18 0) 64 19 0) 64 20 0 := ⟨_, rfl⟩
  have g4 : ∀ k, k ≠ 17 → k ≠ 18 → k ≠ 19 → k ≠ 20 → s4.1 64 k = s.1 64 k := fun k q1 q2 q3 q4 => by rw [hs4, d_si_i, d_u_n q4, d_si_i, d_u_n q3, d_si_i, d_u_n q2, d_si_i, d_u_n q1]
  have g4o : ∀ a, a ≠ 64 → s4.1 a = s.1 a := fun a q => by rw [hs4, d_si_n q, d_si_n q, d_si_n q, d_si_n q]
  have hh : l_h s s4 := by rw [hs4]; exact (((l_h.s64 (by decide)).tr (l_h.s64 (by decide))).tr (l_h.s64 (by decide))).tr (l_h.s64 (by decide))
  have hS : l_S s b n p [] [] w so false 0 t0 (w, [], s.1 67) s4 := by
    refine ⟨hT.g (fun k hk => g4 k (by omega) (by omega) (by omega) (by omega)) (g4o 68 (by decide)) (by rw [hs4]; rfl), ⟨by rw [g4 12 (by decide) (by decide) (by decide) (by decide)]; exact h12, by rw [g4 13 (by decide) (by decide) (by decide) (by decide)]; exact h13, by rw [g4 14 (by decide) (by decide) (by decide) (by decide)]; exact h14, ?_, ?_, ?_, ?_⟩, trivial, trivial, ⟨rfl, fun i hi => absurd hi (Nat.not_lt_zero i), fun j _ => by rw [g4o 67 (by decide)]⟩, hh⟩
    · rw [hs4, d_si_i, d_u_n (by decide), d_si_i, d_u_n (by decide), d_si_i, d_u_n (by decide), d_si_i, d_u_t]; rfl
    · rw [hs4, d_si_i, d_u_n (by decide), d_si_i, d_u_n (by decide), d_si_i, d_u_t]; rfl
    · rw [hs4, d_si_i, d_u_n (by decide), d_si_i, d_u_t]; rfl
    · rw [hs4, d_si_i, d_u_t]; rfl
  have hgo : F_X12_summed s = F_X12_summed_l20 l_K d_N s4 := by
    rw [hs4]; rfl
  rw [hgo]
  refine (l_A_ok (s0 := s) (so := so) (Q := fun o => ∃ s', o = some ((r.1 : Int), s') ∧ ∃ (w2 : Nat) (E : List (Nat × Nat)), l_T b n r.2 s' ∧ s'.1 64 13 = (w2 : Int) ∧ l_E (s'.1 67) t0 w2 (w, E, s.1 67) ∧ l_h s s' ∧ (r.1 = 0 → w2 ≤ r.2 + 3 ∧ p < r.2 ∧ r.2 ≤ n ∧ ∀ ν, t_bn ν → r_evo ν E [] = some [t_V b n (Nat.beq so 1) ν 4000 2 0 0 p 0])) (f0 := w) (T := s.1 67) hn ht 4000).2.2.2.1 [] [] 0 p r (fun _ => []) hr (by omega) hp rfl (fun ρ e => by cases e) (Nat.le_refl _) (by decide) rfl (by decide) ?_ ?_ [] w d_N s4 (fun _ _ => rfl) (by simp only [List.length_nil]; omega) hS (by rw [d_N_is]; omega)
  · intro e0 hq1 hq2 hmd hpm π hu E3 w3 N3 s3 hX3 hw3 hS3 hN3
    obtain ⟨N3, rfl⟩ : ∃ m, N3 = m + 1 := ⟨N3 - 1, by omega⟩
    have hpl : π.length ≤ 2 := hu.2.2
    have hon : l_on π = -1 := l_on_nil hu.1
    obtain ⟨s5, d1, hS5⟩ := l_e0 hS3 ht (by omega) (by omega) rfl hu.1
    rw [l_h1t hS3 ((P_bh_n hS3 (by omega) (l_up_tp hu (fun ρ e => by cases e) (by decide)) (l_y_8 hmd hpm)).trans (by rw [hon, if_neg (by decide)]; exact P_152_0)), d1, e0]
    exact ⟨s5, rfl, _, _, hS5.1, hS5.2.1.2.1, hS5.2.2.2.2.1, hS5.2.2.2.2.2, fun _ => ⟨by omega, hq1, hq2, hX3⟩⟩
  · intro e0 s5 hx
    obtain ⟨σ2, κ2, w2, wh2, d2, E2, hS5⟩ := hx
    exact ⟨s5, rfl, w2, E2, hS5.1, hS5.2.1.2.1, hS5.2.2.2.2.1, hS5.2.2.2.2.2, fun q => absurd q e0⟩
end X11
def t_Dn (b : Nat → Nat) (n : Nat) : List (Nat × Nat × Nat) → Nat → List Nat
  | [], _ => []
  | e :: R, p => if e.1 = 0 then t_n b n p :: t_Dn b n R (t_x b n p) else t_Dn b n R (t_x b n p)
def l_wr (T : Nat → Int) : Nat → List Nat → Nat → Int
  | _, [] => T
  | x, v :: vs => l_wr (d_u T x (v : Int)) (x + 1) vs
theorem l_wr_out : ∀ (vs : List Nat) (T : Nat → Int) (x j : Nat), (j < x ∨ x + vs.length ≤ j) → l_wr T x vs j = T j := by
  intro vs
  induction vs with
  | nil => intro T x j _; rfl
  | cons v vs ih =>
    intro T x j h
    rw [List.length_cons] at h
    show l_wr (d_u T x (v : Int)) (x + 1) vs j = _
    rw [ih _ _ _ (by omega), d_u_n (by omega)]
theorem l_wr_in : ∀ (vs : List Nat) (T : Nat → Int) (x i v : Nat), vs[i]? = some v → l_wr T x vs (x + i) = (v : Int) := by
  intro vs
  induction vs with
  | nil => intro T x i v h; simp at h
  | cons y vs ih =>
    intro T x i v h
    show l_wr (d_u T x (y : Int)) (x + 1) vs (x + i) = _
    cases i with
    | zero =>
      have : y = v := by simpa using h
      rw [l_wr_out _ _ _ _ (by omega), Nat.add_zero, d_u_t, this]
    | succ i =>
      rw [show x + (i + 1) = x + 1 + i by omega]
      exact ih _ _ i v (by simpa using h)
noncomputable def l_run (x : Nat) : List (Nat × Nat × Nat) → Nat → d_S → Option (Int × d_S)
  | [], _, s => some (0, s)
  | e :: R, i, s => if e.1 = 0 then d_b2 (F_X12_figure s ((x + i : Nat) : Int) (e.2.1 : Int) (e.2.2 : Int)) (fun v s' => if v = 0 then l_run x R (i + 1) s' else some (v, s'))
    else if e.1 = 1 then d_b (F_X12_isWord s ((t_Wn.getD e.2.1 0 : Nat) : Int)) (fun v => if v = 0 then some (1, s) else d_b (F_X12_nextToken s) (fun s' => l_run x R i s'))
    else if s.1 64 9 = (e.2.1 : Int) then d_b (F_X12_nextToken s) (fun s' => l_run x R i s') else some (1, s)
def l_j (x y : Nat) (s s' : d_S) : Prop := (∀ k, k ∉ [7, 8, 9, 10] → s'.1 64 k = s.1 64 k) ∧ (∀ a, a ≠ 64 → a ≠ 67 → s'.1 a = s.1 a) ∧ (∀ j, j < x ∨ y ≤ j → s'.1 67 j = s.1 67 j) ∧ s'.2.1 = s.2.1 ∧ ∀ k, k ≠ 1011 → s'.2.2 k = s.2.2 k
section X12
variable {s s1 s' : d_S} {b : Nat → Nat} {n p x y : Nat}
theorem l_j.rf : l_j x y s s := ⟨fun _ _ => rfl, fun _ _ _ => rfl, fun _ _ => rfl, rfl, fun _ _ => rfl⟩
theorem l_j.tr (h : l_j x y s s1) (h' : l_j x y s1 s') : l_j x y s s' := ⟨fun a z => (h'.1 a z).trans (h.1 a z), fun a u v => (h'.2.1 a u v).trans (h.2.1 a u v), fun a z => (h'.2.2.1 a z).trans (h.2.2.1 a z), h'.2.2.2.1.trans h.2.2.2.1, fun k z => (h'.2.2.2.2 k z).trans (h.2.2.2.2 k z)⟩
theorem l_f.j (h : l_f [7, 8, 9, 10] s s') : l_j x y s s' := ⟨h.1, fun a z _ => h.2.1 a z, fun j _ => by rw [h.2.1 67 (by decide)], h.2.2.1, h.2.2.2⟩
theorem l_j.s67 {k : Nat} {v : Int} (h1 : x ≤ k) (h2 : k < y) : l_j x y s (d_si s 67 k v) := ⟨fun _ _ => by rw [d_si_n (by decide)], fun a _ z => d_si_n z, fun j hj => by rw [d_si_i, d_u_n (by omega)], rfl, fun _ _ => rfl⟩
def t_dq (e : Nat × Nat × Nat) : Prop := e.1 = 0 ∨ (e.1 = 1 ∧ e.2.1 < 22) ∨ (e.1 = 2 ∧ (e.2.1 = 44 ∨ e.2.1 = 58))
theorem P_lrun : ∀ (A : List (Nat × Nat × Nat)) (p i : Nat) (s : d_S), (∀ e ∈ A, t_dq e) → l_T b n p s → p ≤ n → x ≤ y → y ≤ 3108 → x + i + (t_Dn b n A p).length ≤ y → ∃ s', l_run x A i s = some (((t_D b n A p).1 : Int), s') ∧ l_T b n (t_D b n A p).2 s' ∧ l_j x y s s' ∧ ((t_D b n A p).1 = 0 → s'.1 67 = l_wr (s.1 67) (x + i) (t_Dn b n A p)) := by
  intro A
  induction A with
  | nil => intro p i s _ hT hp _ _ _; exact ⟨s, rfl, hT, l_j.rf, fun _ => rfl⟩
  | cons e A ih =>
    intro p i s hA hT hp hxy hy hl
    have hA' : ∀ e ∈ A, t_dq e := fun e' h => hA e' (List.mem_cons_of_mem _ h)
    have he := hA e List.mem_cons_self
    have hx := t_x_le (b := b) hp
    unfold l_run t_D t_Dn
    unfold t_Dn at hl
    by_cases e0 : e.1 = 0
    · rw [if_pos e0, if_pos e0, if_pos e0]
      rw [if_pos e0, List.length_cons] at hl
      unfold F_X12_figure
      by_cases k2 : t_k b n p = 2
      rotate_left
      · rw [if_neg (fun q => k2 (hT.2.2.2.2.2.1.2 q)), d_b2_t, if_neg (by decide), if_pos k2]
        exact ⟨s, rfl, hT, l_j.rf, fun q => absurd q (by simp)⟩
      have h10 := hT.2.2.2.2.2.2.2.1 k2
      rw [if_pos (hT.2.2.2.2.2.1.1 k2), h10, if_neg (fun q => q k2)]
      unfold F_X12_isIn
      by_cases c : t_n b n p < e.2.1 ∨ e.2.2 < t_n b n p
      · rw [if_pos c]
        refine ⟨s, ?_, hT, l_j.rf, fun q => absurd q (by simp)⟩
        by_cases c1 : t_n b n p < e.2.1
        · rw [if_pos (by omega), d_b_t, if_pos rfl, d_b2_t, if_neg (by decide)]; rfl
        · rw [if_neg (by omega), if_pos (by omega), d_b_t, if_pos rfl, d_b2_t, if_neg (by decide)]; rfl
      rw [if_neg c, if_neg (by omega), if_neg (by omega), d_b_t, if_neg (by decide), d_g_t (by omega), d_l_t, Int.toNat_natCast]
      obtain ⟨s3, hs3⟩ : ∃ z, z = d_si s 67 (x + i) ((t_n b n p : Nat) : Int) := ⟨_, rfl⟩
      rw [← hs3]
      have g64 : s3.1 64 = s.1 64 := by rw [hs3, d_si_n (by decide)]
      have hT3 : l_T b n p s3 := hT.g (fun k _ => by rw [g64]) (by rw [hs3, d_si_n (by decide)]) (by rw [hs3]; rfl)
      obtain ⟨s4, c1, c2, c3⟩ := P_next hT3 hp (fun q => by omega)
      obtain ⟨s', d1, d2, d3, d4⟩ := ih (t_x b n p) (i + 1) s4 hA' c2 hx hxy hy (by omega)
      have f3 : l_j x y s s3 := by rw [hs3]; exact l_j.s67 (by omega) (by omega)
      refine ⟨s', ?_, d2, (f3.tr c3.j).tr d3, fun q => ?_⟩
      · rw [c1, d_b_t, d_b2_t, if_pos rfl]; exact d1
      · rw [d4 q, c3.2.1 67 (by decide), hs3, d_si_i]; rfl
    rw [if_neg e0, if_neg e0, if_neg e0]
    rw [if_neg e0] at hl
    by_cases e1 : e.1 = 1
    · have h22 : e.2.1 < 22 := by
        rcases he with q | q | q
        · exact absurd q e0
        · exact q.2
        · omega
      rw [if_pos e1, if_pos e1, P_rword hT h22, d_b_t]
      by_cases c : t_wd b n p e.2.1 = true
      · obtain ⟨s4, c1, c2, c3⟩ := P_next hT hp (t_wd_nb c)
        obtain ⟨s', d1, d2, d3, d4⟩ := ih (t_x b n p) i s4 hA' c2 hx hxy hy hl
        rw [v_bt c, if_neg (by decide), if_pos c, c1, d_b_t]
        exact ⟨s', d1, d2, (c3.j).tr d3, fun q => by rw [d4 q, c3.2.1 67 (by decide)]⟩
      · rw [v_bf c, if_pos rfl, if_neg c]
        exact ⟨s, rfl, hT, l_j.rf, fun q => absurd q (by simp)⟩
    · have h2 : e.2.1 = 44 ∨ e.2.1 = 58 := by
        rcases he with q | q | q
        · exact absurd q e0
        · exact absurd q.1 e1
        · exact q.2
      have hs : s.1 64 9 = (e.2.1 : Int) ↔ t_is b n p e.2.1 = true := by
        rcases h2 with q | q
        · rw [q]; exact hT.s44
        · rw [q]; exact hT.s58
      rw [if_neg e1, if_neg e1]
      by_cases c : t_is b n p e.2.1 = true
      · obtain ⟨s4, c1, c2, c3⟩ := P_next hT hp (t_nb2 c (by omega) (by omega))
        obtain ⟨s', d1, d2, d3, d4⟩ := ih (t_x b n p) i s4 hA' c2 hx hxy hy hl
        rw [if_pos (hs.2 c), if_pos c, c1, d_b_t]
        exact ⟨s', d1, d2, (c3.j).tr d3, fun q => by rw [d4 q, c3.2.1 67 (by decide)]⟩
      · rw [if_neg (fun q => c (hs.1 q)), if_neg c]
        exact ⟨s, rfl, hT, l_j.rf, fun q => absurd q (by simp)⟩
theorem d_b2_id (o : Option (Int × d_S)) : d_b2 o (fun v s => some (v, s)) = o := by
  cases o with
  | none => rfl
  | some r => rfl
theorem d_b2_as (o : Option (Int × d_S)) (f g : Int → d_S → Option (Int × d_S)) : d_b2 (d_b2 o f) g = d_b2 o (fun v s => d_b2 (f v s) g) := by
  cases o with
  | none => rfl
  | some r => rfl
theorem d_b_as (o : Option d_S) (f : d_S → Option (Int × d_S)) (g : Int → d_S → Option (Int × d_S)) : d_b2 (d_b o f) g = d_b o (fun s => d_b2 (f s) g) := by
  cases o with
  | none => rfl
  | some r => rfl
theorem d_b_as2 (o : Option Int) (f : Int → Option (Int × d_S)) (g : Int → d_S → Option (Int × d_S)) : d_b2 (d_b o f) g = d_b o (fun s => d_b2 (f s) g) := by
  cases o with
  | none => rfl
  | some r => rfl
theorem d_b2_if {c : Prop} [Decidable c] (a e : Option (Int × d_S)) (g : Int → d_S → Option (Int × d_S)) : d_b2 (if c then a else e) g = if c then d_b2 a g else d_b2 e g := by
  by_cases q : c
  · rw [if_pos q, if_pos q]
  · rw [if_neg q, if_neg q]
theorem l_run_w {k lo hi i z : Nat} {A : List (Nat × Nat × Nat)} (hz : z = x + i) : l_run x ((1, k, z) :: (0, lo, hi) :: A) i s = l_run x ((1, k, z) :: (0, lo, hi) :: A) i s := rfl
theorem P_worded {k lo hi i z : Nat} : F_X12_worded s ((t_Wn.getD k 0 : Nat) : Int) ((x + i : Nat) : Int) (lo : Int) (hi : Int) = l_run x [(1, k, z), (0, lo, hi)] i s := by
  unfold F_X12_worded l_run l_run l_run
  rw [if_neg (show ¬ (1, k, z).1 = 0 from (by decide : ¬ (1 : Nat) = 0)), if_pos (show (1, k, z).1 = 1 from rfl)]
  congr 1
  funext v
  by_cases q : v = 0
  · rw [if_pos q, if_pos q]
  · rw [if_neg q, if_neg q]
    congr 1
    funext s2
    rw [d_b2_id, if_pos rfl]
    cases F_X12_figure s2 ((x + i : Nat) : Int) (lo : Int) (hi : Int) with
    | none => rfl
    | some r =>
      show some r = if r.1 = 0 then some (0, r.2) else some (r.1, r.2)
      by_cases c : r.1 = 0
      · rw [if_pos c, ← c]
      · rw [if_neg c]
theorem P_signed {c lo hi i z : Nat} : F_X12_signed s (c : Int) ((x + i : Nat) : Int) (lo : Int) (hi : Int) = l_run x [(2, c, z), (0, lo, hi)] i s := by
  unfold F_X12_signed l_run l_run l_run
  rw [if_neg (show ¬ (2, c, z).1 = 0 from (by decide : ¬ (2 : Nat) = 0)), if_neg (show ¬ (2, c, z).1 = 1 from (by decide : ¬ (2 : Nat) = 1))]
  by_cases q : s.1 64 9 = (c : Int)
  · rw [if_pos q, if_pos q]
    congr 1
    funext s2
    rw [d_b2_id, if_pos rfl]
    cases F_X12_figure s2 ((x + i : Nat) : Int) (lo : Int) (hi : Int) with
    | none => rfl
    | some r =>
      show some r = if r.1 = 0 then some (0, r.2) else some (r.1, r.2)
      by_cases c : r.1 = 0
      · rw [if_pos c, ← c]
      · rw [if_neg c]
  · rw [if_neg q, if_neg q]
theorem l_run_c {e : Nat × Nat × Nat} {A : List (Nat × Nat × Nat)} {i : Nat} : l_run x (e :: A) i s = if e.1 = 0 then d_b2 (F_X12_figure s ((x + i : Nat) : Int) (e.2.1 : Int) (e.2.2 : Int)) (fun v s' => if v = 0 then l_run x A (i + 1) s' else some (v, s'))
    else if e.1 = 1 then d_b (F_X12_isWord s ((t_Wn.getD e.2.1 0 : Nat) : Int)) (fun v => if v = 0 then some (1, s) else d_b (F_X12_nextToken s) (fun s' => l_run x A i s'))
    else if s.1 64 9 = (e.2.1 : Int) then d_b (F_X12_nextToken s) (fun s' => l_run x A i s') else some (1, s) := rfl
theorem l_run_app : ∀ (A B : List (Nat × Nat × Nat)) (i : Nat) (s : d_S), l_run x (A ++ B) i s = d_b2 (l_run x A i s) (fun v s' => if v = 0 then l_run x B (i + (A.filter (fun e => Nat.beq e.1 0)).length) s' else some (v, s')) := by
  intro A
  induction A with
  | nil => intro B i s; rfl
  | cons e A ih =>
    intro B i s
    show l_run x (e :: (A ++ B)) i s = _
    rw [l_run_c (A := A ++ B), l_run_c (A := A)]
    by_cases e0 : e.1 = 0
    · have hf : ((e :: A).filter (fun e => Nat.beq e.1 0)).length = (A.filter (fun e => Nat.beq e.1 0)).length + 1 := by
        rw [List.filter_cons_of_pos (by rw [e0]; rfl), List.length_cons]
      rw [if_pos e0, if_pos e0, d_b2_as, hf]
      congr 1
      funext v s'
      by_cases q : v = 0
      · rw [if_pos q, if_pos q, ih]
        congr 1
        funext v2 s2
        rw [show i + 1 + (A.filter (fun e => Nat.beq e.1 0)).length = i + ((A.filter (fun e => Nat.beq e.1 0)).length + 1) by omega]
      · rw [if_neg q, if_neg q, d_b2_t, if_neg q]
    · have hf : ((e :: A).filter (fun e => Nat.beq e.1 0)).length = (A.filter (fun e => Nat.beq e.1 0)).length := by
        rw [List.filter_cons_of_neg (by simpa using fun h => e0 (Nat.eq_of_beq_eq_true h))]
      rw [if_neg e0, if_neg e0, hf]
      by_cases e1 : e.1 = 1
      · rw [if_pos e1, if_pos e1, d_b_as2]
        congr 1
        funext v
        by_cases q : v = 0
        · rw [if_pos q, if_pos q, d_b2_t, if_neg (by decide)]
        · rw [if_neg q, if_neg q, d_b_as]
          congr 1
          funext s2
          exact ih B i s2
      · rw [if_neg e1, if_neg e1]
        by_cases q : s.1 64 9 = (e.2.1 : Int)
        · rw [if_pos q, if_pos q, d_b_as]
          congr 1
          funext s2
          exact ih B i s2
        · rw [if_neg q, if_neg q, d_b2_t, if_neg (by decide)]
theorem P_fig {lo hi i : Nat} : F_X12_figure s ((x + i : Nat) : Int) (lo : Int) (hi : Int) = l_run x [(0, lo, hi)] i s := by
  unfold l_run l_run
  rw [if_pos rfl]
  cases F_X12_figure s ((x + i : Nat) : Int) (lo : Int) (hi : Int) with
  | none => rfl
  | some r =>
    show some r = if r.1 = 0 then some (0, r.2) else some (r.1, r.2)
    by_cases c : r.1 = 0
    · rw [if_pos c, ← c]
    · rw [if_neg c]
theorem l_w16 : F_X12_w2 98 121 = some ((t_Wn.getD 16 0 : Nat) : Int) := by decide +kernel
theorem l_w17 : F_X12_w2 97 116 = some ((t_Wn.getD 17 0 : Nat) : Int) := by decide +kernel
theorem l_w18 : F_X12_w4 100 101 101 112 = some ((t_Wn.getD 18 0 : Nat) : Int) := by decide +kernel
theorem l_w19 : F_X12_w2 116 111 = some ((t_Wn.getD 19 0 : Nat) : Int) := by decide +kernel
theorem P_pondC (hx : x ≤ 3000) : F_X12_pondClause s (x : Int) = l_run x (t_dd 3) 1 s := by
  have e1 : d_w ((x : Int) + 1) = ((x + 1 : Nat) : Int) := by rw [d_w_id (by omega) (by omega)]; rfl
  have e2 : d_w ((x : Int) + 2) = ((x + 2 : Nat) : Int) := by rw [d_w_id (by omega) (by omega)]; rfl
  have hg : F_X12_figure s ((x + 1 : Nat) : Int) 2 8 = l_run x [(0, 2, 8)] 1 s := P_fig
  unfold F_X12_pondClause
  rw [e1, e2, hg]
  refine Eq.trans ?_ (l_run_app (x := x) [(0, 2, 8)] [(1, 16, 0), (0, 2, 8)] 1 s).symm
  congr 1
  funext v s2
  by_cases q : v = 0
  · have hw : F_X12_worded s2 ((t_Wn.getD 16 0 : Nat) : Int) ((x + 2 : Nat) : Int) 2 8 = l_run x [(1, 16, 0), (0, 2, 8)] 2 s2 := P_worded
    rw [if_pos q, if_pos q, l_w16, d_b_t, d_b2_id, hw]; rfl
  · rw [if_neg q, if_neg q]
theorem P_strawC (hx : x ≤ 3000) : F_X12_strawClause s (x : Int) = l_run x (t_dd 8) 1 s := by
  have e1 : d_w ((x : Int) + 1) = ((x + 1 : Nat) : Int) := by rw [d_w_id (by omega) (by omega)]; rfl
  have e2 : d_w ((x : Int) + 2) = ((x + 2 : Nat) : Int) := by rw [d_w_id (by omega) (by omega)]; rfl
  have hg : F_X12_figure s ((x + 1 : Nat) : Int) 1 9 = l_run x [(0, 1, 9)] 1 s := P_fig
  unfold F_X12_strawClause
  rw [e1, e2, hg]
  refine Eq.trans ?_ (l_run_app (x := x) [(0, 1, 9)] [(1, 19, 0), (0, 0, 63)] 1 s).symm
  congr 1
  funext v s2
  by_cases q : v = 0
  · have hw : F_X12_worded s2 ((t_Wn.getD 19 0 : Nat) : Int) ((x + 2 : Nat) : Int) 0 63 = l_run x [(1, 19, 0), (0, 0, 63)] 2 s2 := P_worded
    rw [if_pos q, if_pos q, l_w19, d_b_t, d_b2_id, hw]; rfl
  · rw [if_neg q, if_neg q]
theorem P_sightC (hx : x ≤ 3000) : F_X12_sightClause s (x : Int) = l_run x (t_dd 4) 1 s := by
  have e : ∀ i : Nat, i ≤ 6 → d_w ((x : Int) + (i : Int)) = ((x + i : Nat) : Int) := fun i hi => by rw [d_w_id (by omega) (by omega)]; rfl
  have e1 : d_w ((x : Int) + 1) = ((x + 1 : Nat) : Int) := e 1 (by decide)
  have e2 : d_w ((x : Int) + 2) = ((x + 2 : Nat) : Int) := e 2 (by decide)
  have e3 : d_w ((x : Int) + 3) = ((x + 3 : Nat) : Int) := e 3 (by decide)
  have e4 : d_w ((x : Int) + 4) = ((x + 4 : Nat) : Int) := e 4 (by decide)
  have e5 : d_w ((x : Int) + 5) = ((x + 5 : Nat) : Int) := e 5 (by decide)
  have e6 : d_w ((x : Int) + 6) = ((x + 6 : Nat) : Int) := e 6 (by decide)
  have hg : F_X12_figure s ((x + 1 : Nat) : Int) 0 9 = l_run x [(0, 0, 9)] 1 s := P_fig
  have h82 : ∀ v s, F_X12_sightClause_j82 (x : Int) v s = if v = 0 then l_run x [(1, 18, 0), (0, 0, 9)] 6 s else some (v, s) := by
    intro v s
    have hw : F_X12_worded s ((t_Wn.getD 18 0 : Nat) : Int) ((x + 6 : Nat) : Int) 0 9 = l_run x [(1, 18, 0), (0, 0, 9)] 6 s := P_worded
    unfold F_X12_sightClause_j82
    rw [e6, l_w18, d_b_t, d_b2_id, hw]
  have h66 : ∀ v s, F_X12_sightClause_j66 (x : Int) v s = if v = 0 then l_run x [(2, 44, 0), (0, 1, 3), (1, 18, 0), (0, 0, 9)] 5 s else some (v, s) := by
    intro v s
    have hw : F_X12_signed s 44 ((x + 5 : Nat) : Int) 1 3 = l_run x [(2, 44, 0), (0, 1, 3)] 5 s := P_signed
    unfold F_X12_sightClause_j66
    by_cases q : v = 0
    · rw [if_pos q, if_pos q, e5, hw]
      refine Eq.trans ?_ (l_run_app (x := x) [(2, 44, 0), (0, 1, 3)] [(1, 18, 0), (0, 0, 9)] 5 s).symm
      congr 1
      funext v s
      exact h82 v s
    · rw [if_neg q, if_neg q, h82, if_neg q]
  have h50 : ∀ v s, F_X12_sightClause_j50 (x : Int) v s = if v = 0 then l_run x [(2, 58, 0), (0, 1, 3), (2, 44, 0), (0, 1, 3), (1, 18, 0), (0, 0, 9)] 4 s else some (v, s) := by
    intro v s
    have hw : F_X12_signed s 58 ((x + 4 : Nat) : Int) 1 3 = l_run x [(2, 58, 0), (0, 1, 3)] 4 s := P_signed
    unfold F_X12_sightClause_j50
    by_cases q : v = 0
    · rw [if_pos q, if_pos q, e4, hw]
      refine Eq.trans ?_ (l_run_app (x := x) [(2, 58, 0), (0, 1, 3)] [(2, 44, 0), (0, 1, 3), (1, 18, 0), (0, 0, 9)] 4 s).symm
      congr 1
      funext v s
      exact h66 v s
    · rw [if_neg q, if_neg q, h66, if_neg q]
  have h33 : ∀ v s, F_X12_sightClause_j33 (x : Int) v s = if v = 0 then l_run x [(2, 44, 0), (0, 0, 7), (2, 58, 0), (0, 1, 3), (2, 44, 0), (0, 1, 3), (1, 18, 0), (0, 0, 9)] 3 s else some (v, s) := by
    intro v s
    have hw : F_X12_signed s 44 ((x + 3 : Nat) : Int) 0 7 = l_run x [(2, 44, 0), (0, 0, 7)] 3 s := P_signed
    unfold F_X12_sightClause_j33
    by_cases q : v = 0
    · rw [if_pos q, if_pos q, e3, hw]
      refine Eq.trans ?_ (l_run_app (x := x) [(2, 44, 0), (0, 0, 7)] [(2, 58, 0), (0, 1, 3), (2, 44, 0), (0, 1, 3), (1, 18, 0), (0, 0, 9)] 3 s).symm
      congr 1
      funext v s
      exact h50 v s
    · rw [if_neg q, if_neg q, h50, if_neg q]
  unfold F_X12_sightClause
  rw [e1, hg]
  refine Eq.trans ?_ (l_run_app (x := x) [(0, 0, 9)] [(1, 17, 0), (0, 0, 7), (2, 44, 0), (0, 0, 7), (2, 58, 0), (0, 1, 3), (2, 44, 0), (0, 1, 3), (1, 18, 0), (0, 0, 9)] 1 s).symm
  congr 1
  funext v s2
  by_cases q : v = 0
  · have hw : F_X12_worded s2 ((t_Wn.getD 17 0 : Nat) : Int) ((x + 2 : Nat) : Int) 0 7 = l_run x [(1, 17, 0), (0, 0, 7)] 2 s2 := P_worded
    rw [if_pos q, if_pos q, l_w17, d_b_t, e2, hw]
    refine Eq.trans ?_ (l_run_app (x := x) [(1, 17, 0), (0, 0, 7)] [(2, 44, 0), (0, 0, 7), (2, 58, 0), (0, 1, 3), (2, 44, 0), (0, 1, 3), (1, 18, 0), (0, 0, 9)] 2 s2).symm
    congr 1
    funext v s
    exact h33 v s
  · rw [if_neg q, if_neg q, h33, if_neg q]
end X12
noncomputable def k_run (t : Nat → Option p_C) : List (Nat × Nat × Nat) → d_S → Option (Int × d_S)
  | [], s => some (1, s)
  | e :: R, s => if e.1 = 0 then d_b2 (F_X3_takeNumber t s (e.2.1 : Int) (e.2.2 : Int)) (fun v s' => if v = 0 then some (0, s') else k_run t R s')
    else if e.1 = 1 then d_b2 (F_X3_takeWord t s (e.2.1 : Int)) (fun v s' => if v = 0 then some (0, s') else k_run t R s')
    else d_b2 (F_X3_takeSign t s (e.2.1 : Int)) (fun v s' => if v = 0 then some (0, s') else k_run t R s')
def k_j (L : List Nat) (s s' : d_S) : Prop := (∀ k, k ∉ L → s'.1 43 k = s.1 43 k) ∧ (∀ a, a ≠ 43 → a ≠ 45 → s'.1 a = s.1 a) ∧ s'.2 = s.2
def k_Lj : List Nat := [2, 3, 4, 5, 6, 7, 10]
section X13
variable {s s1 s' : d_S} {t : Nat → Option p_C} {b : Nat → Nat} {n p c i : Nat}
theorem k_j.rf {L : List Nat} : k_j L s s := ⟨fun _ _ => rfl, fun _ _ _ => rfl, rfl⟩
theorem k_j.tr {L : List Nat} (h : k_j L s s1) (h' : k_j L s1 s') : k_j L s s' := ⟨fun a z => (h'.1 a z).trans (h.1 a z), fun a y z => (h'.2.1 a y z).trans (h.2.1 a y z), h'.2.2.trans h.2.2⟩
theorem k_j.mono {L M : List Nat} (h : k_j L s s1) (hm : ∀ a, a ∈ L → a ∈ M) : k_j M s s1 := ⟨fun a z => h.1 a (fun y => z (hm a y)), h.2⟩
theorem k_f.j {L : List Nat} (h : k_f L s s1) : k_j L s s1 := ⟨h.1, fun a y _ => h.2.1 a y, h.2.2⟩
theorem P_addPart (h9 : s.1 43 9 = (c : Int)) (h10 : s.1 43 10 = (i : Int)) (hc : 1 ≤ c ∧ c ≤ 24) (hi : i < 7) {v : Nat} : ∃ s', F_X3_addPart s (v : Int) = some s' ∧ s'.1 45 = d_u (s.1 45) ((c - 1) * 7 + i) (v : Int) ∧ s'.1 43 10 = ((i + 1 : Nat) : Int) ∧ k_j [10] s s' := by
  obtain ⟨s2, hs2⟩ : ∃ z, z = d_si s 45 ((c - 1) * 7 + i) (v : Int) := ⟨_, rfl⟩
  obtain ⟨s3, hs3⟩ : ∃ z, z = d_si s2 43 10 ((i : Int) + 1) := ⟨_, rfl⟩
  refine ⟨s3, ?_, by rw [hs3, d_si_n (by decide), hs2, d_si_i], by rw [hs3, d_si_i, d_u_t]; rfl, fun k hk => by rw [hs3, d_si_i, d_u_n (fun (e : k = 10) => hk (by rw [e]; decide)), hs2, d_si_n (by decide)], fun a h1 h2 => by rw [hs3, d_si_n h1, hs2, d_si_n h2], by rw [hs3, hs2]; rfl⟩
  unfold F_X3_addPart
  have ez : d_w (((c : Int) - 1) * 7 + (i : Int)) = (((c - 1) * 7 + i : Nat) : Int) := by rw [d_w_id (by omega) (by omega)]; omega
  rw [h9, h10, ez, d_l_t, P_within, d_b_t, d_w_id (x := 168 - 1) (by decide) (by decide), v_bt (by omega), if_neg (by decide), d_g_t (by omega), d_l_t, Int.toNat_natCast, ← hs2, show s2.1 43 10 = (i : Int) by rw [hs2, d_si_n (by decide)]; exact h10, d_w_id (by omega) (by omega), d_l_t, ← hs3]
theorem k_j.T {L : List Nat} (h : k_T b n p s) (h' : k_j L s s') (h1 : 1 ∉ L ∧ 4 ∉ L ∧ 5 ∉ L ∧ 6 ∉ L ∧ 7 ∉ L) : k_T b n p s' := by
  obtain ⟨⟨a1, a2, a3, a0⟩, ⟨a4, a5, a6⟩, a7⟩ := h
  refine ⟨⟨by rw [h'.1 1 h1.1]; exact a1, a2, fun i hi => by rw [h'.2.1 44 (by decide) (by decide)]; exact a3 i hi, a0⟩, ⟨by rw [h'.1 4 h1.2.1]; exact a4, by rw [h'.1 5 h1.2.2.1]; exact a5, by rw [h'.1 6 h1.2.2.2.1]; exact a6⟩, ?_⟩
  rw [h'.1 7 h1.2.2.2.2]
  exact a7
def k_dq (e : Nat × Nat × Nat) : Prop := (e.1 = 0 ∧ e.2.2 ≤ 9998) ∨ (e.1 = 1 ∧ e.2.1 < 22) ∨ e.1 = 2
theorem P_krun (hW : k_wds t) : ∀ (A : List (Nat × Nat × Nat)) (p i : Nat) (s : d_S), (∀ e ∈ A, k_dq e) → k_T b n p s → p ≤ n → s.1 43 9 = (c : Int) → s.1 43 10 = (i : Int) → 1 ≤ c ∧ c ≤ 24 → i + (t_Dn b n A p).length ≤ 7 → ∃ s', k_run t A s = some (v_b ((t_D b n A p).1 = 0), s') ∧ k_j k_Lj s s' ∧ ((t_D b n A p).1 = 0 → k_T b n (t_D b n A p).2 s' ∧ s'.1 45 = l_wr (s.1 45) ((c - 1) * 7 + i) (t_Dn b n A p) ∧ s'.1 43 2 = s.1 43 2 ∧ s'.1 43 3 = s.1 43 3) ∧ ((t_D b n A p).1 ≠ 0 → s'.1 43 2 = ((t_D b n A p).1 : Int) ∧ s'.1 43 3 = ((t_D b n A p).2 : Int)) := by
  intro A
  induction A with
  | nil => intro p i s _ hT hp _ _ _ _; exact ⟨s, rfl, k_j.rf, fun _ => ⟨hT, rfl, rfl, rfl⟩, fun q => absurd rfl q⟩
  | cons e A ih =>
    intro p i s hA hT hp h9 h10 hc hl
    have hA' : ∀ e ∈ A, k_dq e := fun e' h => hA e' (List.mem_cons_of_mem _ h)
    have he := hA e List.mem_cons_self
    have hx := t_x_le (b := b) hp
    unfold k_run t_D t_Dn
    unfold t_Dn at hl
    by_cases e0 : e.1 = 0
    · have h98 : e.2.2 ≤ 9998 := by
        rcases he with q | q | q
        · exact q.2
        · omega
        · omega
      rw [if_pos e0, if_pos e0, if_pos e0]
      rw [if_pos e0, List.length_cons] at hl
      unfold F_X3_takeNumber
      have hw : ∀ f : Nat, ∃ s', d_b2 (F_X3_wrong s (f : Int)) (fun v s3 => some (v, s3)) = some (0, s') ∧ k_j k_Lj s s' ∧ s'.1 43 2 = (f : Int) ∧ s'.1 43 3 = (p : Int) := by
        intro f
        obtain ⟨s', a1, a2, a3, a4⟩ := P_wrong (s := s) (p := p) (f := (f : Int)) hT.2.1.2.1
        exact ⟨s', by rw [a1, d_b2_t], a4.j.mono (by decide), a2, a3⟩
      by_cases k2 : t_k b n p = 2
      rotate_left
      · have h6 : ¬ s.1 43 6 = 2 := by rw [hT.2.1.2.2]; omega
        obtain ⟨s', a1, a2, a3, a4⟩ := hw 1
        have a1' : d_b2 (F_X3_wrong s 1) (fun v s3 => some (v, s3)) = some (0, s') := a1
        rw [if_neg h6, if_pos k2, a1', d_b2_t, if_pos rfl]
        exact ⟨s', by rw [v_bf (by simp)], a2, fun q => absurd q (by simp), fun _ => ⟨a3, a4⟩⟩
      have h6 : s.1 43 6 = 2 := by rw [hT.2.1.2.2, k2]; rfl
      have h7 := hT.2.2.2.1 k2
      rw [if_pos h6, if_neg (fun q => q k2), P_within, d_b_t, h7]
      by_cases cc : t_n b n p < e.2.1 ∨ e.2.2 < t_n b n p
      · obtain ⟨s', a1, a2, a3, a4⟩ := hw 2
        have a1' : d_b2 (F_X3_wrong s 2) (fun v s3 => some (v, s3)) = some (0, s') := a1
        rw [if_pos cc, v_bf (by omega), if_pos rfl, a1', d_b2_t, if_pos rfl]
        exact ⟨s', by rw [v_bf (by simp)], a2, fun q => absurd q (by simp), fun _ => ⟨a3, a4⟩⟩
      rw [if_neg cc, v_bt (by omega), if_neg (by decide), show min 10000 (t_n b n p) = t_n b n p by omega]
      obtain ⟨s3, b1, b2, b3, b4⟩ := P_addPart h9 h10 hc (by omega) (v := t_n b n p)
      have hT3 : k_T b n p s3 := k_j.T hT b4 (by decide)
      obtain ⟨s4, c1, c2, c3⟩ := P_step hW hT3 hp
      obtain ⟨s', d1, d2, d3, d4⟩ := ih (t_x b n p) (i + 1) s4 hA' c2 hx (by rw [c3.1 9 (by decide), b4.1 9 (by decide)]; exact h9) (by rw [c3.1 10 (by decide)]; exact b3) hc (by omega)
      refine ⟨s', ?_, ((b4.mono (by decide)).tr (c3.j.mono (by decide))).tr d2, fun q => ⟨(d3 q).1, ?_, by rw [(d3 q).2.2.1, c3.1 2 (by decide), b4.1 2 (by decide)], by rw [(d3 q).2.2.2, c3.1 3 (by decide), b4.1 3 (by decide)]⟩, d4⟩
      · rw [b1, d_b_t, c1, d_b_t, d_b2_t, if_neg (by decide)]; exact d1
      · rw [(d3 q).2.1, c3.2.1 45 (by decide), b2]; rfl
    rw [if_neg e0, if_neg e0, if_neg e0]
    rw [if_neg e0] at hl
    by_cases e1 : e.1 = 1
    · have h22 : e.2.1 < 22 := by
        rcases he with q | q | q
        · omega
        · exact q.2
        · omega
      rw [if_pos e1, if_pos e1]
      rcases P_takeWord hW hT hp h22 with ⟨q, s4, c1, c2, c3⟩ | ⟨q, s4, c1, c2, c3, c4⟩
      · rw [if_pos q, c1, d_b2_t, if_neg (by decide)]
        obtain ⟨s', d1, d2, d3, d4⟩ := ih (t_x b n p) i s4 hA' c2 hx (by rw [c3.1 9 (by decide)]; exact h9) (by rw [c3.1 10 (by decide)]; exact h10) hc hl
        exact ⟨s', d1, (c3.j.mono (by decide)).tr d2, fun q => ⟨(d3 q).1, by rw [(d3 q).2.1, c3.2.1 45 (by decide)], by rw [(d3 q).2.2.1, c3.1 2 (by decide)], by rw [(d3 q).2.2.2, c3.1 3 (by decide)]⟩, d4⟩
      · rw [if_neg (by rw [q]; decide), c1, d_b2_t, if_pos rfl]
        exact ⟨s4, by rw [v_bf (by simp)], c4.j.mono (by decide), fun q => absurd q (by simp), fun _ => ⟨c2, c3⟩⟩
    · rw [if_neg e1, if_neg e1]
      rcases P_takeSign hW hT hp (c := e.2.1) with ⟨q, s4, c1, c2, c3⟩ | ⟨q, s4, c1, c2, c3, c4⟩
      · rw [if_pos q, c1, d_b2_t, if_neg (by decide)]
        obtain ⟨s', d1, d2, d3, d4⟩ := ih (t_x b n p) i s4 hA' c2 hx (by rw [c3.1 9 (by decide)]; exact h9) (by rw [c3.1 10 (by decide)]; exact h10) hc hl
        exact ⟨s', d1, (c3.j.mono (by decide)).tr d2, fun q => ⟨(d3 q).1, by rw [(d3 q).2.1, c3.2.1 45 (by decide)], by rw [(d3 q).2.2.1, c3.1 2 (by decide)], by rw [(d3 q).2.2.2, c3.1 3 (by decide)]⟩, d4⟩
      · rw [if_neg (by rw [q]; decide), c1, d_b2_t, if_pos rfl]
        exact ⟨s4, by rw [v_bf (by simp)], c4.j.mono (by decide), fun q => absurd q (by simp), fun _ => ⟨c2, c3⟩⟩
theorem k_run1 {lo hi : Nat} {v : Int} (h : F_X3_takeNumber t s (lo : Int) (hi : Int) = some (v, s')) (hv : v = 0 ∨ v = 1) : k_run t [(0, lo, hi)] s = some (v, s') := by
  unfold k_run k_run
  rw [if_pos rfl, h, d_b2_t]
  rcases hv with q | q
  · rw [q, if_pos rfl]
  · rw [q, if_neg (by decide)]
theorem k_tn {lo hi : Int} {r : Int × d_S} (h : F_X3_takeNumber t s lo hi = some r) : r.1 = 0 ∨ r.1 = 1 := by
  unfold F_X3_takeNumber F_X3_wrong at h
  split at h
  · obtain ⟨v, h1, h2⟩ := d_b_s h
    split at h2
    · exact Or.inl (by rw [← Option.some.inj h2])
    · obtain ⟨s4, g1, g2⟩ := d_b_s h2
      obtain ⟨s5, g3, g4⟩ := d_b_s g2
      exact Or.inr (by rw [← Option.some.inj g4])
  · exact Or.inl (by rw [← Option.some.inj h])
theorem k_run1e {lo hi : Nat} : d_b2 (F_X3_takeNumber t s (lo : Int) (hi : Int)) (fun v s' => some (v, s')) = k_run t [(0, lo, hi)] s := by
  rw [d_b2_id]
  unfold k_run k_run
  rw [if_pos rfl]
  cases h : F_X3_takeNumber t s (lo : Int) (hi : Int) with
  | none => rfl
  | some r =>
    show some r = if r.1 = 0 then some (0, r.2) else some (1, r.2)
    rcases k_tn h with q | q
    · rw [if_pos q, ← q]
    · rw [if_neg (by omega), ← q]
theorem P_readDeed {w : Nat} (hw : 3 ≤ w ∧ w ≤ 9) : F_X3_readDeed t s (w : Int) = k_run t (t_dd w) s := by
  have h : w = 3 ∨ w = 4 ∨ w = 5 ∨ w = 6 ∨ w = 7 ∨ w = 8 ∨ w = 9 := by omega
  have e1 : ∀ lo hi : Nat, d_b2 (F_X3_takeNumber t s (lo : Int) (hi : Int)) (fun v s' => some (v, s')) = k_run t [(0, lo, hi)] s := fun lo hi => k_run1e
  rcases h with rfl | rfl | rfl | rfl | rfl | rfl | rfl
  · rfl
  · rfl
  · exact e1 0 6
  · exact e1 0 6
  · exact e1 0 63
  · rfl
  · exact e1 1 60
end X13

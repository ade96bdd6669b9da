/-! Contracts of less depth, for calls within calls -/
def q_Ct2 (θ : Nat → Int32) (M : p_M) (G : s_F) (I : s_H) (A0 : s_L) (os : List (s_F × s_H × s_V)) : Prop := ∀ ls h, s_Rl θ G I A0 [] ls [] h → ∃ o ∈ os, ∃ v h2, s_FO θ o.1 ∧ s_hr θ o.2.1 h2 ∧ s_an θ o.2.2 v ∧ p_wp p_GT p_MT 20 M 0 ls [] h (fun v' h' => v' = v ∧ h' = h2)
noncomputable def q_Z2 (m0 c0 : Nat) (sg : s_H → s_L → List (Nat × s_E)) (G : s_F) (I : s_H) (A0 : s_L) (os : List (s_F × s_H × s_V)) (X : s_X) : s_X := fun d m A c F H K E => s_if (Nat.beq m m0) (s_if (s_mat (sg H A) F H A [] G I A0 []) (s_and (Nat.ble 20 d) (s_and (Nat.beq c c0) (q_outs (sg H A) F K os))) (X d m A c F H K E)) (X d m A c F H K E)
theorem q_Z2_ok {θ : Nat → Int32} {G : s_F} {m0 c0 : Nat} {sg : s_H → s_L → List (Nat × s_E)} {I : s_H} {A0 : s_L} {os : List (s_F × s_H × s_V)} {X : s_X} {M : p_M} (hM : p_MT[m0]? = some M) (hc0 : c0 ≤ M.2.2.1) (hX : s_XO θ X) (hC : ∀ σ, q_Ct2 (s_th θ σ) M G I A0 os) : s_XO θ (q_Z2 m0 c0 sg G I A0 os X) := by
  intro d m A c F H K E vs h hg hF hH hA hc
  have hg : s_if (Nat.beq m m0) (s_if (s_mat (sg H A) F H A [] G I A0 []) (s_and (Nat.ble 20 d) (s_and (Nat.beq c c0) (q_outs (sg H A) F K os))) (X d m A c F H K E)) (X d m A c F H K E) = true := hg
  rw [s_if_iff, s_if_iff, s_and_iff, s_and_iff] at hg
  rcases hg with ⟨h1, ⟨h2, h3, h4, h5⟩ | ⟨-, hg⟩⟩ | ⟨-, hg⟩
  · have hr := s_mat_ok (θ := θ) (S := []) (ls := lv_args 0 vs) (st := []) (h := h) ⟨hF, hH, hA, trivial⟩ h2
    obtain ⟨o, ho, v, hh, e1, e2, e3, e4⟩ := hC (sg H A) _ _ hr
    obtain ⟨F', H', a, k1, k2, k3, k4⟩ := q_outs_ok hF h5 o ho e1 e2 e3
    rw [Nat.eq_of_beq_eq_true h1]
    exact Or.inr ⟨M, 20, F', H', a, v, hh, hM, by rw [hc, Nat.eq_of_beq_eq_true h4]; exact hc0, Nat.le_of_ble_eq_true h3, k1, k2, k3, k4, e4⟩
  · exact hX d m A c F H K E vs h hg hF hH hA hc
  · exact hX d m A c F H K E vs h hg hF hH hA hc
theorem q_Ct2_run {θ : Nat → Int32} {G : s_F} {X : s_X} (hX : s_XO θ X) {n : Nat} {I : s_H} {A0 : s_L} {os : List (s_F × s_H × s_V)} {M : p_M} (hg : s_run X n 99999 s_never 20 M (q_Ro os) 0 G I A0 [] = true) : q_Ct2 θ M G I A0 os := by
  intro ls h hr
  rcases s_run_ok hX _ _ _ _ _ _ _ _ _ _ _ _ _ _ hg hr with ⟨F, H, a, v, h2, g1, g2, g3, g4, g5⟩ | ⟨F, H, L, S, ls', st', h', g1, -⟩
  · obtain ⟨o, ho, k1, k2, k3⟩ := q_Ro_ok g2 g3 g4 g1
    exact ⟨o, ho, v, h2, k1, k2, k3, g5⟩
  · cases g1

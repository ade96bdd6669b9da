/-! Out of the runs: the law at every script of a call, but for the dear ones -/
def q_Θ (xs : List Int32) (θ : Nat → Int32) : Prop := ∀ k, k < 16 → θ k = xs.getD (k % 8) 0
def q_E0 : s_E := .branch 4 (.branch 0 (.leaf (.ofNat 0)) (.leaf (.ofNat 0))) (.leaf (.ofNat 63))
def q_Ok (k : Int) : Prop := ∀ xs : List Int32, xs.length = 7 → (xs.getD 0 0 &&& 63).toInt = k → p_wp p_GT p_MT 100 m_L_law 0 [(0, .ref 0)] [] (p_h0 xs) q_Q
theorem q_start2 {xs : List Int32} {θ : Nat → Int32} {g : List Nat} (hθ : q_Θ xs θ) (hl : g.length = xs.length) (hx : xs.length ≤ 7) (hg : ∀ (j k : Nat), g[j]? = some k → k % 8 = j ∧ k < 16) : s_hr θ (q_Hs g) (p_h0 xs) := by
  have h := q_start hl hx (fun j k e => (hg j k e).1)
  obtain ⟨h1, h2, h3⟩ := h
  refine ⟨h1, h2, fun a ha => ?_⟩
  have e : (q_Hs g).1 = .branch 1 (.leaf (q_scr g)) (.branch 2 (.leaf q_wc) (.branch 1024 (.leaf (9, 0, 0, .leaf s_u)) (.leaf (9, 0, 0, .leaf s_u)))) := rfl
  match a, ha with
  | 0, _ =>
    refine ⟨_, rfl, rfl, rfl, (by show (xs.map Value.int).length = g.length; rw [List.length_map, hl]), ?_⟩
    refine q_tr (l := g.map q_var) (fun i b hb => ?_)
    rw [List.getElem?_map] at hb
    cases hk : g[i]? with
    | none => rw [hk] at hb; cases hb
    | some k =>
      rw [hk] at hb
      cases hb
      have hi : i < xs.length := by rw [← hl]; exact (List.getElem?_eq_some_iff.mp hk).1
      refine ⟨.int (θ k), ?_, rfl⟩
      rw [List.getElem?_map, List.getElem?_eq_getElem hi, hθ k (hg i k hk).2, (hg i k hk).1]
      simp [hi]
  | 1, ha =>
    obtain ⟨d, h4, h5, h6, h7, h8⟩ := h3 1 ha
    refine ⟨d, h4, h5, h6, h7, ?_⟩
    cases h4
    refine q_tr (l := q_wv) (fun i b hb => ?_)
    match i, hb with
    | 0, hb => cases hb; exact ⟨_, rfl, _, rfl, rfl⟩
    | 1, hb => cases hb; exact ⟨_, rfl, _, rfl, rfl⟩
    | 2, hb => cases hb; exact ⟨_, rfl, _, rfl, rfl⟩
    | 3, hb => cases hb; exact ⟨_, rfl, _, rfl, rfl⟩
    | 4, hb => cases hb; exact ⟨_, rfl, _, rfl, rfl⟩
    | 5, hb => cases hb; exact ⟨_, rfl, _, rfl, rfl⟩
    | 6, hb => cases hb; exact ⟨_, rfl, _, rfl, rfl⟩
    | 7, hb => cases hb; exact ⟨_, rfl, _, rfl, rfl⟩
    | 8, hb => cases hb; exact ⟨_, rfl, _, rfl, rfl⟩
    | 9, hb => cases hb; exact ⟨_, rfl, _, rfl, rfl⟩
    | 10, hb => cases hb; exact ⟨_, rfl, _, rfl, rfl⟩
    | 11, hb => cases hb; exact ⟨_, rfl, _, rfl, rfl⟩
    | 12, hb => cases hb; exact ⟨_, rfl, _, rfl, rfl⟩
    | 13, hb => cases hb; exact ⟨_, rfl, _, rfl, rfl⟩
    | 14, hb => cases hb; exact ⟨_, rfl, _, rfl, rfl⟩
    | 15, hb => cases hb; exact ⟨_, rfl, _, rfl, rfl⟩
    | 16, hb => cases hb; exact ⟨_, rfl, _, rfl, rfl⟩
    | 17, hb => cases hb; exact ⟨_, rfl, _, rfl, rfl⟩
    | 18, hb => cases hb; exact ⟨_, rfl, _, rfl, rfl⟩
    | 19, hb => cases hb; exact ⟨_, rfl, _, rfl, rfl⟩
    | 20, hb => cases hb; exact ⟨_, rfl, _, rfl, rfl⟩
    | 21, hb => cases hb; exact ⟨_, rfl, _, rfl, rfl⟩
    | k + 22, hb => simp [q_wv] at hb
  | a + 2, ha =>
    rw [e, s_gb, if_pos (by omega), s_gb, if_pos (by omega), s_gb] at ha
    split at ha <;> exact absurd rfl ha
theorem q_con_ok {xs : List Int32} {θ : Nat → Int32} (hl : xs.length = 7) (hθ : q_Θ xs θ) : ∃ ls h, s_Rl θ [] (q_H0 q_g0) q_L0 [] ls [] h ∧ ∀ Q, p_wp p_GT p_MT 100 m_L_law 18 ls [] h Q → p_wp p_GT p_MT 100 m_L_law 0 [(0, .ref 0)] [] (p_h0 xs) Q := by
  have hH : s_hr θ (q_Hs q_g0) (p_h0 xs) := q_start2 hθ (by rw [hl]; rfl) (by omega) (fun j k e => by
    match j, e with
    | 0, e => cases e; decide
    | 1, e => cases e; decide
    | 2, e => cases e; decide
    | 3, e => cases e; decide
    | 4, e => cases e; decide
    | 5, e => cases e; decide
    | 6, e => cases e; decide
    | j + 7, e => simp [q_g0] at e)
  have hr : s_Rl θ [] (q_Hs q_g0) [.inr (16, .leaf 0)] [] [(0, .ref 0)] [] (p_h0 xs) := by
    refine ⟨(fun f hf => by cases hf), hH, (fun i a h h0 => ?_), trivial⟩
    match i, h with
    | 0, h => cases h; exact ⟨.ref 0, rfl, rfl⟩
    | i + 1, h => simp at h
  rcases s_go_ok s_X0_ok _ _ _ _ _ _ _ _ _ _ _ _ _ _ q_con hr with ⟨F', H', a, v, h2, g1, -⟩ | ⟨F, H, L, S, ls, st, h, g1, g2, g3⟩
  · cases g1
  · have g4 := s_mat_ok g2 g1
    rw [s_th0] at g4
    obtain rfl := s_sr_nil g4.2.2.2
    exact ⟨ls, h, g4, g3⟩
theorem q_sth {θ : Nat → Int32} : ∀ {σ : List (Nat × s_E)}, (∀ q ∈ σ, s_ev θ q.2 = θ q.1) → s_th θ σ = θ := by
  intro σ h
  funext k
  have key : ∀ (σ : List (Nat × s_E)), (∀ q ∈ σ, s_ev θ q.2 = θ q.1) → ∀ e, s_slk σ k = some e → s_ev θ e = θ k := by
    intro σ
    induction σ with
    | nil => intro _ e he; cases he
    | cons q r ih =>
      intro h e he
      simp only [s_slk] at he
      split at he
      · next hb =>
        cases he
        rw [h q (by simp), Nat.eq_of_beq_eq_true hb]
      · exact ih (fun p hp => h p (by simp [hp])) e he
  unfold s_th
  cases he : s_slk σ k with
  | none => rfl
  | some e => exact key σ h e he
theorem q_use {xs : List Int32} {θ : Nat → Int32} (hl : xs.length = 7) (hθ : q_Θ xs θ) {X : s_X} (hX : s_XO θ X) {σ : List (Nat × s_E)} {F G : s_F} {g : List Nat} (hσ : ∀ q ∈ σ, s_ev θ q.2 = θ q.1) (hF : s_FO θ F) (hm : s_mat σ F (q_H0 q_g0) q_L0 [] G (q_H0 g) q_L0 [] = true) {n : Nat} (hg : s_run X n 99999 s_never 100 m_L_law q_R 18 G (q_H0 g) q_L0 [] = true) : p_wp p_GT p_MT 100 m_L_law 0 [(0, .ref 0)] [] (p_h0 xs) q_Q := by
  obtain ⟨ls, h, h1, h2⟩ := q_con_ok hl hθ
  have h3 : s_Rl θ F (q_H0 q_g0) q_L0 [] ls [] h := ⟨hF, h1.2⟩
  have h4 := s_mat_ok h3 hm
  rw [q_sth hσ] at h4
  exact h2 _ (q_end hX hg h4)
theorem q_Θ_th {xs : List Int32} : q_Θ xs (q_th xs) := fun _ _ => rfl
theorem q_F0 {xs : List Int32} {θ : Nat → Int32} (hθ : q_Θ xs θ) : s_ev θ q_E0 = xs.getD 0 0 &&& 63 := by
  show θ 0 &&& Int32.ofInt 63 = _
  rw [hθ 0 (by decide)]; rfl
/-- a call that is run from the fresh state -/
theorem q_simple {k : Int} {σ : List (Nat × s_E)} {g : List Nat} (hσ : ∀ q ∈ σ, ∃ j, j < 16 ∧ q.2 = .branch 0 (.leaf (.ofNat j)) (.leaf (.ofNat 0)) ∧ q.1 < 16 ∧ q.1 % 8 = j % 8) (hm : s_mat σ [(q_E0, k, k)] (q_H0 q_g0) q_L0 [] [(q_E0, k, k)] (q_H0 g) q_L0 [] = true) {n : Nat} (hg : s_run s_X0 n 99999 s_never 100 m_L_law q_R 18 [(q_E0, k, k)] (q_H0 g) q_L0 [] = true) : q_Ok k := by
  intro xs hl hk
  refine q_use hl q_Θ_th s_X0_ok (fun q hq => ?_) (fun f hf => ?_) hm hg
  · obtain ⟨j, h1, h2, h3, h4⟩ := hσ q hq
    rw [h2]
    show q_th xs j = q_th xs q.1
    unfold q_th
    rw [h4]
  · rcases List.mem_cons.mp hf with rfl | hf
    · show k ≤ (s_ev _ q_E0).toInt ∧ (s_ev _ q_E0).toInt ≤ k
      rw [q_F0 q_Θ_th, hk]
      exact ⟨Int.le_refl _, Int.le_refl _⟩
    · cases hf

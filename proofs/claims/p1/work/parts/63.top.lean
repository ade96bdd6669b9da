/-! A run that stops wherever its own frame comes to a point -/
noncomputable def s_blk3 (hd : Nat) (KS : s_T) (M : p_M) (J : s_J) (C : s_CC) (R : s_K) (l : List p_I) : s_T := List.rec (motive := fun _ => s_T) (fun _ _ _ _ => false) (fun q r _ => s_hd q.2.1 M q.1 (s_blk2 hd KS M J C R r) J C R) l
noncomputable def s_top1 (X : s_X) (n : Nat) (ih : s_R) : s_R := fun hd KS d M R pc F H L S => s_and (s_adj M.2.2.2.2.1) (s_blk3 hd KS M (s_jmp ih hd KS d M R) (s_call X p_MT (s_run X n) d) R (s_sfx pc M.2.2.2.2.1) F H L S)
noncomputable def s_top (X : s_X) (n k : Nat) : s_R := Nat.rec (motive := fun _ => s_R) (fun _ _ _ _ _ _ _ _ _ _ => false) (fun _ ih => s_top1 X n ih) k
section ST
variable {θ : Nat → Int32} {R : s_K} {KS : s_T} {hd d : Nat} {M : p_M} {J : s_J} {C : s_CC}
theorem s_blk3_ok (hJ : ∀ t, s_OK θ R KS hd d M (J t) t) (hC : s_CO θ d C) (ha : s_adj M.2.2.2.2.1 = true) {l pre : List p_I} (hpre : M.2.2.2.2.1 = pre ++ l) {q : p_I} {r : List p_I} (hl : l = q :: r) : s_OK θ R KS hd d M (s_blk3 hd KS M J C R l) q.1 := by
  subst hl
  intro F H L S ls st h hg hr
  refine s_hd_ok (i := q.2.1) (pc := q.1) (len := q.2.2) (nx := s_blk2 hd KS M J C R r) ?_ hJ hC (by rw [hpre]; exact s_at_ok (by rw [← hpre]; exact ha)) hr hg
  intro h0
  have hadj : ∀ {pre l : List p_I}, s_adj (pre ++ l) = true → s_adj l = true := by
    intro pre
    induction pre with
    | nil => intro l h; exact h
    | cons a p ih => intro l h; exact ih (s_adj_tl h)
  have ha2 : s_adj (q :: r) = true := hadj (by rw [← hpre]; exact ha)
  cases r with
  | nil => intro F H L S ls st h hg; cases hg
  | cons p r2 =>
    have h3 := (s_adj_hd ha2).2
    rw [h3.resolve_left h0]
    exact s_blk2_ok hJ hC ha (p :: r2) (pre ++ [q]) (by rw [hpre]; simp) p r2 rfl
theorem s_top_ok {X : s_X} (hX : s_XO θ X) (n : Nat) : ∀ (k hd : Nat) (KS : s_T) (d : Nat) (M : p_M) (R : s_K) (pc : Nat), s_OK θ R KS hd d M (s_top X n k hd KS d M R pc) pc := by
  intro k
  induction k with
  | zero => intro hd KS d M R pc F H L S ls st h hg; cases hg
  | succ k ih =>
    intro hd KS d M R pc F H L S ls st h hg hr
    have hg : s_and (s_adj M.2.2.2.2.1) (s_blk3 hd KS M (s_jmp (s_top X n k) hd KS d M R) (s_call X p_MT (s_run X n) d) R (s_sfx pc M.2.2.2.2.1) F H L S) = true := hg
    rw [s_and_iff] at hg
    rcases s_sfx_ok (pc := pc) (l := M.2.2.2.2.1) with e | ⟨pre, q, r, e1, e2, e3⟩
    · rw [e] at hg
      exact absurd hg.2 (fun h => by cases h)
    · rw [e3] at hg
      rw [← e2]
      refine s_blk3_ok (fun t F H L S ls st h hg hr => ?_) (s_call_ok hX (s_run_ok hX n)) hg.1 e1 rfl _ _ _ _ _ _ _ hg.2 hr
      have hg : s_if (Nat.beq t hd) (KS F H L S) (s_top X n k hd KS d M R t F H L S) = true := hg
      rw [s_if_iff] at hg
      rcases hg with ⟨h1, h2⟩ | ⟨-, h2⟩
      · obtain rfl := Nat.eq_of_beq_eq_true h1
        exact Or.inr ⟨F, H, L, S, ls, st, h, h2, hr, fun Q hq => hq⟩
      · exact ih _ _ _ _ _ _ _ _ _ _ _ _ _ h2 hr
end ST
/-- a call that comes to a loop over unknowns, and what it leaves -/
theorem q_lcall {X : s_X} (hX : ∀ θ, s_XO θ X) {n n2 k hd d : Nat} {M : p_M} {R : s_K} {F0 G : s_F} {I0 I : s_H} {A0 L' : s_L} {sg : s_H → s_L → List (Nat × s_E)} {σ0 : List (Nat × s_E)} {lo hi : Int} (hG : (q_v20, lo, hi) ∈ G) (h31 : hi ≤ 2147483646) (hlow : List.rec (motive := fun _ => Bool) true (fun q _ ih => s_and (Nat.ble 16 q.1) ih) σ0 = true)
    (hpre : s_top X n k hd (fun F H L S => s_mat σ0 F H L S G I L' []) d M (fun _ _ _ => false) 0 F0 I0 A0 [] = true) (hrun : s_run X n2 hd (q_KSl sg G I L') d M R hd G I L' [] = true) {θ : Nat → Int32} {ls : p_Ls} {h : p_H} (hr : s_Rl θ F0 I0 A0 [] ls [] h) :
    ∃ θ' F H a v h2, (∀ k, k < 16 → θ' k = θ k) ∧ R F H a = true ∧ s_FO θ' F ∧ s_hr θ' H h2 ∧ s_an θ' a v ∧ p_wp p_GT p_MT d M 0 ls [] h (fun v' h' => v' = v ∧ h' = h2) := by
  rcases s_top_ok (hX θ) _ _ _ _ _ _ _ _ _ _ _ _ _ _ _ hpre hr with ⟨F, H, a, v, h2, g1, -⟩ | ⟨F, H, L, S, ls', st', h', g1, g2, g3⟩
  · cases g1
  · have g4 := s_mat_ok g2 g1
    obtain rfl := s_sr_nil g4.2.2.2
    obtain ⟨θ', F', H', a, v, h2, a1, a2, a3, a4, a5, a6⟩ := q_loop hX hG h31 hrun (hi - (s_th θ σ0 20).toInt).toNat (s_th θ σ0) ls' h' (by omega) g4
    exact ⟨θ', F', H', a, v, h2, fun k hk => by rw [a1 k hk, q_low hlow k hk], a2, a3, a4, a5, g3 _ a6⟩

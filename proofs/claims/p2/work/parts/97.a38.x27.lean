section X27
variable {b : Nat → Nat} {n p d k f : Nat} {S : Bool} {ν ν' : Nat → Int} {a : Int} {t : Nat → Option p_C} {s : d_S}
theorem t_nu_6 (h : t_nm6 b n p = true) : t_nu b n p < 6 := by
  unfold t_nm6 at h
  simp only [Bool.or_eq_true] at h
  unfold t_nu
  by_cases q8 : t_wd b n p 8 = true
  · rw [if_pos q8]; omega
  rw [if_neg q8]
  by_cases q9 : t_wd b n p 9 = true
  · rw [if_pos q9]; omega
  rw [if_neg q9]
  by_cases q10 : t_wd b n p 10 = true
  · rw [if_pos q10]; omega
  rw [if_neg q10]
  by_cases q11 : t_wd b n p 11 = true
  · rw [if_pos q11]; omega
  rw [if_neg q11]
  by_cases q12 : t_wd b n p 12 = true
  · rw [if_pos q12]; omega
  rw [if_neg q12]
  by_cases q13 : t_wd b n p 13 = true
  · rw [if_pos q13]; omega
  rcases h with e | e | e | e | e | e
  · exact absurd e q9
  · exact absurd e q10
  · exact absurd e q11
  · exact absurd e q8
  · exact absurd e q12
  · exact absurd e q13
theorem t_nu_8 : t_nu b n p < 8 := by
  unfold t_nu
  repeat' split
  all_goals omega
theorem t_Vir (hν : ∀ j, j < (if S = true then 8 else 6) → ν j = ν' j) : ∀ (f mode d k p : Nat) (a : Int), (mode = 0 ∨ mode = 1 ∨ mode = 2 ∨ mode = 4 ∨ mode = 5 ∨ mode = 6) → (t_P b n S f mode d k p).1 = 0 → t_V b n S ν f mode d k p a = t_V b n S ν' f mode d k p a := by
  intro f
  induction f with
  | zero => intro mode d k p a _ h; exact absurd h (by show ¬ (99 : Nat) = 0; decide)
  | succ f ih =>
    intro mode d k p a hm h
    rcases hm with rfl | rfl | rfl | rfl | rfl | rfl
    · rw [t_P0] at h
      rw [t_V0, t_V0]
      by_cases hF : t_F b n S d p = 0
      rotate_left
      · rw [if_pos hF] at h; exact absurd h hF
      rw [if_neg (fun q => q hF)] at h
      by_cases k7 : k = 7
      · rw [if_pos k7] at h; exact absurd h (by show ¬ (7 : Nat) = 0; decide)
      rw [if_neg k7] at h
      by_cases ho : t_op b n p = false
      · rw [if_pos ho, if_pos ho]
        by_cases k2 : t_k b n p = 2
        · rw [if_pos k2, if_pos k2]
        · rw [if_neg k2, if_neg k2]
          apply hν
          unfold t_F at hF
          rw [if_neg k2] at hF
          by_cases q1 : t_nm6 b n p = true
          · have := t_nu_6 q1
            split <;> omega
          · rw [if_neg q1] at hF
            by_cases q2 : t_nm2 b n p = true
            · rw [if_pos q2] at hF
              by_cases hS : S = true
              · rw [if_pos hS]; exact t_nu_8
              · rw [if_neg hS] at hF; cases hF
            · rw [if_neg q2, ho, if_neg (by decide)] at hF; cases hF
      rw [if_neg ho] at h
      rw [if_neg ho, if_neg ho]
      by_cases h20 : t_wd b n p 20 = true
      · rw [if_pos h20] at h
        rw [if_pos h20, if_pos h20]
        by_cases r0 : (t_P b n S f 0 (d + 1) 0 (t_x b n p)).1 = 0
        rotate_left
        · rw [if_pos r0] at h; exact absurd h r0
        rw [if_neg (fun q => q r0)] at h
        by_cases h21 : t_wd b n (t_P b n S f 0 (d + 1) 0 (t_x b n p)).2 21 = false
        · rw [if_pos h21] at h; exact absurd h (by show ¬ (1 : Nat) = 0; decide)
        rw [if_neg h21] at h
        by_cases h40 : t_is b n (t_x b n (t_P b n S f 0 (d + 1) 0 (t_x b n p)).2) 40 = false
        · rw [if_pos h40] at h; exact absurd h (by show ¬ (1 : Nat) = 0; decide)
        rw [if_neg h40] at h
        rw [ih 0 _ _ _ _ (by omega) r0]
        exact ih 6 _ _ _ _ (by omega) h
      rw [if_neg h20] at h
      rw [if_neg h20, if_neg h20]
      by_cases h45 : t_is b n p 45 = true
      · rw [if_pos h45] at h
        rw [if_pos h45, if_pos h45, ih 0 _ _ _ _ (by omega) h]
      rw [if_neg h45] at h
      rw [if_neg h45, if_neg h45]
      by_cases r0 : (t_P b n S f 2 (d + 1) 0 (t_x b n p)).1 = 0
      rotate_left
      · rw [if_pos r0] at h; exact absurd h r0
      exact ih 2 _ _ _ _ (by omega) r0
    · rw [t_P1] at h
      rw [t_V1, t_V1]
      by_cases r0 : (t_P b n S f 0 d k p).1 = 0
      rotate_left
      · rw [if_pos r0] at h; exact absurd h r0
      rw [if_neg (fun q => q r0)] at h
      rw [ih 0 _ _ _ _ (by omega) r0]
      exact ih 4 _ _ _ _ (by omega) h
    · rw [t_P2] at h
      rw [t_V2, t_V2]
      by_cases r0 : (t_P b n S f 1 d k p).1 = 0
      rotate_left
      · rw [if_pos r0] at h; exact absurd h r0
      rw [if_neg (fun q => q r0)] at h
      rw [ih 1 _ _ _ _ (by omega) r0]
      exact ih 5 _ _ _ _ (by omega) h
    · rw [t_P4] at h
      rw [t_V4, t_V4]
      by_cases ho : t_is b n p 42 = true ∨ t_is b n p 47 = true
      · rw [if_pos ho] at h
        by_cases r0 : (t_P b n S f 0 d 0 (t_x b n p)).1 = 0
        rotate_left
        · rw [if_pos r0] at h; exact absurd h r0
        rw [if_neg (fun q => q r0)] at h
        rw [ih 0 _ _ _ _ (by omega) r0]
        by_cases q42 : t_is b n p 42 = true
        · rw [if_pos q42, if_pos q42]; exact ih 4 _ _ _ _ (by omega) h
        · rw [if_neg q42, if_neg q42, if_pos (ho.resolve_left q42), if_pos (ho.resolve_left q42)]; exact ih 4 _ _ _ _ (by omega) h
      · rw [if_neg (fun q => ho (Or.inl q)), if_neg (fun q => ho (Or.inl q)), if_neg (fun q => ho (Or.inr q)), if_neg (fun q => ho (Or.inr q))]
    · rw [t_P5] at h
      rw [t_V5, t_V5]
      by_cases ho : t_is b n p 43 = true ∨ t_is b n p 45 = true
      · rw [if_pos ho] at h
        by_cases r0 : (t_P b n S f 1 d 0 (t_x b n p)).1 = 0
        rotate_left
        · rw [if_pos r0] at h; exact absurd h r0
        rw [if_neg (fun q => q r0)] at h
        rw [ih 1 _ _ _ _ (by omega) r0]
        by_cases q42 : t_is b n p 43 = true
        · rw [if_pos q42, if_pos q42]; exact ih 5 _ _ _ _ (by omega) h
        · rw [if_neg q42, if_neg q42, if_pos (ho.resolve_left q42), if_pos (ho.resolve_left q42)]; exact ih 5 _ _ _ _ (by omega) h
      · rw [if_neg (fun q => ho (Or.inl q)), if_neg (fun q => ho (Or.inl q)), if_neg (fun q => ho (Or.inr q)), if_neg (fun q => ho (Or.inr q))]
    · rw [t_P6] at h
      rw [t_V6, t_V6]
      by_cases r0 : (t_P b n S f 2 d k p).1 = 0
      rotate_left
      · rw [if_pos r0] at h; exact absurd h r0
      rw [if_neg (fun q => q r0)] at h
      rw [ih 2 _ _ _ _ (by omega) r0]
      by_cases h44 : t_is b n (t_P b n S f 2 d k p).2 44 = true
      · rw [if_pos h44] at h
        rw [if_pos h44, if_pos h44, ih 6 _ _ _ _ (by omega) h]
      · rw [if_neg h44, if_neg h44]
theorem t_cs2_ok : ∀ (f m o p : Nat), (t_tx b n f m o p).1 = 0 → ∀ e, e ∈ t_cs2 b n f m o p → (t_bd b n e.1 e.2).1 = 0 := by
  intro f
  induction f with
  | zero => intro m o p _ e he; exact absurd he (by simp [t_cs2])
  | succ f ih =>
    intro m o p h e he
    rw [t_tx_s] at h
    by_cases k0 : t_k b n p = 0
    · have e0 : t_cs2 b n (f + 1) m o p = [] := if_pos k0
      rw [e0] at he; exact absurd he (by simp)
    rw [if_neg k0] at h
    have e1 : t_cs2 b n (f + 1) m o p = (t_cw b n p, t_x b n p) :: t_cs2 b n f (m + 1) (if t_cw b n p < 3 then o + 2 ^ t_cw b n p else o) (t_cl b n m o p).2 := if_neg k0
    rw [e1] at he
    by_cases r0 : (t_cl b n m o p).1 = 0
    rotate_left
    · rw [if_pos r0] at h; exact absurd h r0
    rw [if_neg (fun q => q r0)] at h
    rcases List.mem_cons.1 he with q | q
    · rw [q]
      show (t_bd b n (t_cw b n p) (t_x b n p)).1 = 0
      rw [t_cl_bd] at r0
      by_cases c1 : t_cw b n p = 10
      · rw [if_pos c1] at r0; exact absurd r0 (by show ¬ (1 : Nat) = 0; decide)
      rw [if_neg c1] at r0
      by_cases c2 : t_cw b n p < 3 ∧ o / 2 ^ t_cw b n p % 2 = 1
      · rw [if_pos c2] at r0; exact absurd r0 (by show ¬ (4 : Nat) = 0; decide)
      rw [if_neg c2] at r0
      by_cases c3 : m = 24
      · rw [if_pos c3] at r0; exact absurd r0 (by show ¬ (6 : Nat) = 0; decide)
      rw [if_neg c3] at r0
      by_cases c4 : (t_bd b n (t_cw b n p) (t_x b n p)).1 = 0
      · exact c4
      · rw [if_pos c4] at r0; exact absurd r0 c4
    · exact ih _ _ _ h e q
theorem t_Dn_99 : ∀ (A : List (Nat × Nat × Nat)) (p : Nat), (∀ e ∈ A, e.2.2 ≤ 99) → (t_D b n A p).1 = 0 → ∀ v, v ∈ t_Dn b n A p → v ≤ 99 := by
  intro A
  induction A with
  | nil => intro p _ _ v hv; exact absurd hv (by simp [t_Dn])
  | cons e A ih =>
    intro p hA h v hv
    have hA' : ∀ e ∈ A, e.2.2 ≤ 99 := fun e' h => hA e' (List.mem_cons_of_mem _ h)
    unfold t_D at h
    unfold t_Dn at hv
    by_cases e0 : e.1 = 0
    · rw [if_pos e0] at h hv
      by_cases k2 : t_k b n p = 2
      rotate_left
      · rw [if_pos k2] at h; cases h
      rw [if_neg (fun q => q k2)] at h
      by_cases c : t_n b n p < e.2.1 ∨ e.2.2 < t_n b n p
      · rw [if_pos c] at h; cases h
      rw [if_neg c] at h
      rcases List.mem_cons.1 hv with q | q
      · have := hA e List.mem_cons_self; omega
      · exact ih _ hA' h v q
    rw [if_neg e0] at h hv
    by_cases e1 : e.1 = 1
    · rw [if_pos e1] at h
      by_cases c : t_wd b n p e.2.1 = true
      · rw [if_pos c] at h; exact ih _ hA' h v hv
      · rw [if_neg c] at h; cases h
    · rw [if_neg e1] at h
      by_cases c : t_is b n p e.2.1 = true
      · rw [if_pos c] at h; exact ih _ hA' h v hv
      · rw [if_neg c] at h; cases h
theorem t_dd_99 : ∀ w, w < 10 → ∀ e ∈ t_dd w, e.2.2 ≤ 99 := by decide
theorem t_cn_99 {e : Nat × Nat} (he : e.1 ≤ 9) (h : (t_bd b n e.1 e.2).1 = 0) : ∀ v, v ∈ t_cn b n e → v ≤ 99 := by
  intro v hv
  unfold t_cn at hv
  by_cases q : e.1 < 3
  · rw [if_pos q] at hv; exact absurd hv (by simp)
  · rw [if_neg q] at hv
    have h' : (t_D b n (t_dd e.1) e.2).1 = 0 := by
      have e1 : t_bd b n e.1 e.2 = t_D b n (t_dd e.1) e.2 := if_neg q
      rw [← e1]; exact h
    exact t_Dn_99 _ _ (t_dd_99 e.1 (by omega)) h' v hv
end X27

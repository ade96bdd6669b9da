section X9
variable {s0 s s1 s' : d_S} {b : Nat → Nat} {n p q w so d t0 : Nat} {σ κ : List Nat} {wh : Bool} {z : l_zT} {x : Int}
def l_tp (σ : List Nat) : Prop := ∀ ρ, σ ≠ 41 :: ρ
theorem P_bh_of {ρ : List Nat} (hS : l_S s0 b n p (41 :: ρ) κ w so wh d t0 z s) (hs : ρ.length < 160) : F_X12_behindOne s = d_b2 (F_X12_ofNth s) (fun v2 s3 => some (v2, s3)) := by
  have h17 : s.1 64 17 = ((ρ.length + 1 : Nat) : Int) := hS.2.1.2.2.2.1
  unfold F_X12_behindOne
  rw [h17, if_pos (by omega), d_w_id (by omega) (by omega), show ((ρ.length + 1 : Nat) : Int) - 1 = (ρ.length : Int) by omega, d_g_t (by omega), Int.toNat_natCast, hS.2.2.1.1, if_pos (show ((41 : Nat) : Int) = 41 from rfl)]
theorem P_bh_top (hS : l_S s0 b n p σ κ w so wh d t0 z s) (hs : σ.length ≤ 160) (ht : l_tp σ) : F_X12_behindOne s = F_X12_behindOne_j28 s := by
  unfold F_X12_behindOne
  cases σ with
  | nil =>
    rw [hS.2.1.2.2.2.1, if_neg (by simp)]
  | cons x ρ =>
    rw [List.length_cons] at hs
    have h17 : s.1 64 17 = ((ρ.length + 1 : Nat) : Int) := hS.2.1.2.2.2.1
    rw [h17, if_pos (by omega), d_w_id (by omega) (by omega), show ((ρ.length + 1 : Nat) : Int) - 1 = (ρ.length : Int) by omega, d_g_t (by omega), Int.toNat_natCast, hS.2.2.1.1, if_neg (fun e => ht ρ (by rw [show x = 41 by omega]))]
def l_y (b : Nat → Nat) (n p : Nat) : Nat := if t_is b n p 43 = true then 4 else if t_is b n p 45 = true then 5 else if t_is b n p 42 = true then 6 else if t_is b n p 47 = true then 7 else 8
theorem P_bh_y (hT : l_T b n p s) : F_X12_behindOne_j28 s = F_X12_behindOne_j83 (if l_y b n p = 8 then -1 else ((l_y b n p : Nat) : Int)) s := by
  unfold F_X12_behindOne_j28 l_y
  by_cases c1 : t_is b n p 43 = true
  · rw [if_pos (hT.s43.2 c1), if_pos c1]; rfl
  rw [if_neg (fun e => c1 (hT.s43.1 e)), if_neg c1]
  by_cases c2 : t_is b n p 45 = true
  · rw [if_pos (hT.s45.2 c2), if_pos c2]; rfl
  rw [if_neg (fun e => c2 (hT.s45.1 e)), if_neg c2]
  by_cases c3 : t_is b n p 42 = true
  · rw [if_pos (hT.s42.2 c3), if_pos c3]; rfl
  rw [if_neg (fun e => c3 (hT.s42.1 e)), if_neg c3]
  by_cases c4 : t_is b n p 47 = true
  · rw [if_pos (hT.s47.2 c4), if_pos c4]; rfl
  rw [if_neg (fun e => c4 (hT.s47.1 e)), if_neg c4]; rfl
theorem l_y_nb (h : l_y b n p ≠ 8) : t_k b n p = 3 → b p ≠ 60 ∧ b p ≠ 62 := by
  unfold l_y at h
  intro _
  by_cases c1 : t_is b n p 43 = true
  · have := (t_is_iff.mp c1).2; omega
  rw [if_neg c1] at h
  by_cases c2 : t_is b n p 45 = true
  · have := (t_is_iff.mp c2).2; omega
  rw [if_neg c2] at h
  by_cases c3 : t_is b n p 42 = true
  · have := (t_is_iff.mp c3).2; omega
  rw [if_neg c3] at h
  by_cases c4 : t_is b n p 47 = true
  · have := (t_is_iff.mp c4).2; omega
  rw [if_neg c4] at h
  exact absurd rfl h
theorem P_bh_op {x l : Nat} (hS : l_S s0 b n p σ κ w so wh d t0 z s) (hp : p ≤ n) (ht : t0 ≤ 2331) (hs : σ.length < 160) (hs1 : w + σ.length ≤ 304) (hdo : d = s_opn σ) (htp : l_tp σ) (hy : l_y b n p = x) (hx : x < 8) (hl : s_rk x = l) (hl0 : 1 ≤ l) (hx3 : x ≠ 3) : ∃ s', F_X12_behindOne s = some (0, s') ∧ ∃ w2, w2 + (s_se l σ).length = w + σ.length ∧ l_S s0 b n (t_x b n p) (x :: s_se l σ) κ w2 so false (s_opn (x :: s_se l σ)) t0 (l_zE z (s_op l σ)) s' := by
  have hsl := s_se_len l σ
  rw [P_bh_top hS (by omega) htp, P_bh_y hS.1, hy, if_neg (by omega)]
  unfold F_X12_behindOne_j83
  obtain ⟨s1, c1, c2⟩ := P_settle hl0 ht (by omega) hs1 hdo hS
  obtain ⟨s18, hs18⟩ : ∃ z, z = d_si s1 69 (s_se l σ).length (x : Int) := ⟨_, rfl⟩
  obtain ⟨s19, hs19⟩ : ∃ z, z = d_si s18 64 17 (((s_se l σ).length : Int) + 1) := ⟨_, rfl⟩
  obtain ⟨s20, hs20⟩ : ∃ z, z = d_si s19 64 20 0 := ⟨_, rfl⟩
  have g18 : s18.1 64 = s1.1 64 := by rw [hs18, d_si_n (by decide)]
  have g20 : ∀ k, k ≠ 17 → k ≠ 20 → s20.1 64 k = s1.1 64 k := fun k q1 q2 => by rw [hs20, d_si_i, d_u_n q2, hs19, d_si_i, d_u_n q1, g18]
  have g20o : ∀ a, a ≠ 64 → a ≠ 69 → s20.1 a = s1.1 a := fun a q1 q2 => by rw [hs20, d_si_n q1, hs19, d_si_n q1, hs18, d_si_n q2]
  have c2' := c2
  obtain ⟨hT, ⟨a1, a2, a3, a4, a5, a6, a7⟩, a8, a9, a10, a11⟩ := c2
  have hex : s_opn (x :: s_se l σ) = s_opn (s_se l σ) := by
    show s_opn (s_se l σ) + (if x = 3 ∨ 40 ≤ x then 1 else 0) = s_opn (s_se l σ)
    rw [if_neg (by omega)]; rfl
  have hS20 : l_S s0 b n p (x :: s_se l σ) κ (w + (σ.length - (s_se l σ).length)) so false (s_opn (x :: s_se l σ)) t0 (l_zE z (s_op l σ)) s20 := by
    rw [hex]
    refine l_S.g c2' (fun k q1 _ _ q4 => g20 k q1 q4) (g20o 68 (by decide) (by decide)) (g20o 67 (by decide) (by decide)) (by rw [hs20, hs19, hs18]; rfl) (by rw [hs20, hs19, hs18]; exact ((l_h.sx (Or.inr (Or.inl rfl))).tr (l_h.s64 (by decide))).tr (l_h.s64 (by decide))) ?_ (by rw [g20 18 (by decide) (by decide)]; exact a5) (by rw [g20 19 (by decide) (by decide)]; exact a6) (by rw [hs20, d_si_i, d_u_t]; rfl) ?_ (by rw [g20o 70 (by decide) (by decide)]; exact a9)
    · rw [hs20, d_si_i, d_u_n (by decide), hs19, d_si_i, d_u_t]; rfl
    · have e69 : s20.1 69 = d_u (s1.1 69) (s_se l σ).length (x : Int) := by rw [hs20, d_si_n (by decide), hs19, d_si_n (by decide), hs18, d_si_i]
      rw [e69]
      exact ⟨d_u_t, Or.inl hx, l_P_set (Nat.le_refl _) a8⟩
  obtain ⟨s21, e1, e2, e3⟩ := P_next hS20.1 hp (l_y_nb (by omega))
  refine ⟨s21, ?_, w + (σ.length - (s_se l σ).length), by omega, hS20.T e3 e2⟩
  rw [if_neg (by omega), P_rank, hl, d_b_t, c1, d_b_t, a4, d_g_t (by omega), Int.toNat_natCast, d_l_t, ← hs18, g18, a4, d_w_id (by omega) (by omega), d_l_t, ← hs19, d_l_t, ← hs20, e1, d_b_t]
theorem P_bh_n (hS : l_S s0 b n p σ κ w so wh d t0 z s) (hs : σ.length ≤ 160) (htp : l_tp σ) (hy : l_y b n p = 8) : F_X12_behindOne s = if l_on σ = 42 then (if t_is b n p 44 = true then d_b2 (F_X12_nextOfNth s) (fun v5 s6 => some (v5, s6)) else F_X12_behindOne_j152 (l_on σ) s) else F_X12_behindOne_j152 (l_on σ) s := by
  rw [P_bh_top hS hs htp, P_bh_y hS.1, hy, if_pos rfl]
  unfold F_X12_behindOne_j83
  rw [if_pos (by decide), P_openNow hS.2.1.2.2.2.1 hS.2.2.1 hs, d_b_t]
  by_cases c : t_is b n p 44 = true
  · rw [if_pos (hS.1.s44.2 c), if_pos c]
  · rw [if_neg (fun e => c (hS.1.s44.1 e)), if_neg c]
theorem P_152_0 : F_X12_behindOne_j152 (-1) s = some (-1, s) := by
  unfold F_X12_behindOne_j152
  rw [if_pos rfl]
theorem P_152_no {v : Int} (hT : l_T b n p s) (hv : v ≠ -1) (h41 : ¬ t_is b n p 41 = true) : F_X12_behindOne_j152 v s = some (-1, s) := by
  unfold F_X12_behindOne_j152
  rw [if_neg hv, if_neg (fun e => h41 (hT.s41.1 e))]
theorem l_S.pop {y : Nat} (h : l_S s0 b n p (y :: σ) κ w so wh (s_opn (y :: σ)) t0 z s) (hy : 40 ≤ y) (h1 : s1.1 64 17 = (σ.length : Int)) (h2 : s1.1 64 18 = ((s_opn σ : Nat) : Int)) (h3 : ∀ k, k ≠ 17 → k ≠ 18 → s1.1 64 k = s.1 64 k) (h4 : ∀ a, a ≠ 64 → s1.1 a = s.1 a) (h5 : s1.2 = s.2) (h6 : l_h s s1) : l_S s0 b n p σ κ w so wh (s_opn σ) t0 z s1 := by
  have h' := h
  obtain ⟨hT, ⟨a1, a2, a3, a4, a5, a6, a7⟩, a8, a9, a10, a11⟩ := h
  exact l_S.g h' (fun k q1 q2 _ _ => h3 k q1 q2) (h4 68 (by decide)) (h4 67 (by decide)) (by rw [h5]) h6 h1 h2 (by rw [h3 19 (by decide) (by decide)]; exact a6) (by rw [h3 20 (by decide) (by decide)]; exact a7) (by rw [h4 69 (by decide)]; exact a8.2.2) (by rw [h4 70 (by decide)]; exact a9)
theorem s_opn_le : ∀ τ : List Nat, s_opn τ ≤ τ.length := by
  intro τ
  induction τ with
  | nil => exact Nat.le_refl _
  | cons y τ ih => simp only [s_opn, List.length_cons]; split <;> omega
theorem P_223 {ρ : List Nat} (hS : l_S s0 b n p ρ κ w so wh (s_opn ρ) t0 z s) (hp : p ≤ n) (ht : t0 ≤ 2331) (hs : ρ.length ≤ 160) (hs1 : w + ρ.length ≤ 304) (h41 : t_is b n p 41 = true) : ∃ s', F_X12_behindOne_j223 s = some (0, s') ∧ ∃ w2, w2 + (s_se 3 ρ).length ≤ w + ρ.length ∧ l_S s0 b n (t_x b n p) (s_se 3 ρ) κ w2 so wh (s_opn (s_se 3 ρ)) t0 (l_zE z (s_op 3 ρ)) s' := by
  obtain ⟨s13, c1, c2, c3⟩ := P_next hS.1 hp (t_nb2 h41 (by decide) (by decide))
  obtain ⟨s14, e1, e2⟩ := P_settle (l := 3) (by decide) ht hs hs1 rfl (hS.T c3 c2)
  have hsl := s_se_len 3 ρ
  refine ⟨s14, ?_, _, ?_, e2⟩
  · have e1' : F_X12_settle s13 3 = some s14 := e1
    unfold F_X12_behindOne_j223
    rw [c1, d_b_t, e1', d_b_t]
  · omega
theorem P_bh_cl40 {ρ : List Nat} (hS : l_S s0 b n p σ κ w so wh d t0 z s) (hp : p ≤ n) (ht : t0 ≤ 2331) (hs : σ.length ≤ 160) (hs1 : w + σ.length ≤ 304) (hdo : d = s_opn σ) (htp : l_tp σ) (hy : l_y b n p = 8) (hse : s_se 1 σ = 40 :: ρ) (h41 : t_is b n p 41 = true) : ∃ s', F_X12_behindOne s = some (0, s') ∧ ∃ w2, w2 + (s_se 3 ρ).length ≤ w + σ.length ∧ l_S s0 b n (t_x b n p) (s_se 3 ρ) κ w2 so wh (s_opn (s_se 3 ρ)) t0 (l_zE (l_zE z (s_op 1 σ)) (s_op 3 ρ)) s' := by
  have hsl := s_se_len 1 σ
  rw [hse, List.length_cons] at hsl
  have hon : l_on σ = 40 := l_on_se (by decide) hse (by decide)
  rw [P_bh_n hS hs htp hy, hon, if_neg (by decide)]
  unfold F_X12_behindOne_j152
  rw [if_neg (by decide), if_pos (hS.1.s41.2 h41)]
  obtain ⟨s7, c1, c2⟩ := P_settle (l := 1) (by decide) ht hs hs1 hdo hS
  rw [hse] at c2
  have c1' : F_X12_settle s 1 = some s7 := c1
  have h17 : s7.1 64 17 = ((ρ.length + 1 : Nat) : Int) := c2.2.1.2.2.2.1
  have h18 : s7.1 64 18 = ((s_opn ρ + 1 : Nat) : Int) := c2.2.1.2.2.2.2.1
  have hso := s_opn_le ρ
  obtain ⟨s8, hs8⟩ : ∃ z, z = d_si s7 64 17 (ρ.length : Int) := ⟨_, rfl⟩
  obtain ⟨s9, hs9⟩ : ∃ z, z = d_si s8 64 18 ((s_opn ρ : Nat) : Int) := ⟨_, rfl⟩
  have hS9 : l_S s0 b n p ρ κ (w + (σ.length - (40 :: ρ).length)) so wh (s_opn ρ) t0 (l_zE z (s_op 1 σ)) s9 := c2.pop (by decide) (by rw [hs9, d_si_i, d_u_n (by decide), hs8, d_si_i, d_u_t]) (by rw [hs9, d_si_i, d_u_t]) (fun k q1 q2 => by rw [hs9, d_si_i, d_u_n q2, hs8, d_si_i, d_u_n q1]) (fun a q => by rw [hs9, d_si_n q, hs8, d_si_n q]) (by rw [hs9, hs8]; rfl) (by rw [hs9, hs8]; exact (l_h.s64 (by decide)).tr (l_h.s64 (by decide)))
  obtain ⟨s', e1, w2, e2, e3⟩ := P_223 hS9 hp ht (by omega) (by rw [List.length_cons]; omega) h41
  refine ⟨s', ?_, w2, ?_, e3⟩
  · rw [c1', d_b_t, h17, d_w_id (by omega) (by omega), show ((ρ.length + 1 : Nat) : Int) - 1 = (ρ.length : Int) by omega, d_l_t, ← hs8, show s8.1 64 18 = s7.1 64 18 by rw [hs8, d_si_i, d_u_n (by decide)], h18, d_w_id (by omega) (by omega), show ((s_opn ρ + 1 : Nat) : Int) - 1 = ((s_opn ρ : Nat) : Int) by omega, d_l_t, ← hs9, if_neg (by decide)]
    exact e1
  · rw [List.length_cons] at e2; omega
theorem P_bh_cl42 {ρ κ0 : List Nat} {k : Nat} (hS : l_S s0 b n p σ (k :: κ0) w so wh d t0 z s) (hp : p ≤ n) (ht : t0 ≤ 2331) (hs : σ.length ≤ 160) (hs1 : w + σ.length ≤ 304) (hdo : d = s_opn σ) (htp : l_tp σ) (hy : l_y b n p = 8) (hse : s_se 1 σ = 42 :: ρ) (h41 : t_is b n p 41 = true) (hk8 : κ0.length ≤ 8) (hk : k < 8) : ∃ s', F_X12_behindOne s = some (0, s') ∧ ∃ w2, w2 + (s_se 3 ρ).length ≤ w + σ.length ∧ l_S s0 b n (t_x b n p) (s_se 3 ρ) κ0 w2 so wh (s_opn (s_se 3 ρ)) t0 (l_zE (l_zE (l_zE z (s_op 1 σ)) [(2, k)]) (s_op 3 ρ)) s' := by
  have hsl := s_se_len 1 σ
  rw [hse, List.length_cons] at hsl
  have hon : l_on σ = 42 := l_on_se (by decide) hse (by decide)
  have h44 : ¬ t_is b n p 44 = true := fun e => by have := (t_is_iff.mp e).2; have := (t_is_iff.mp h41).2; omega
  rw [P_bh_n hS hs htp hy, hon, if_pos rfl, if_neg h44]
  unfold F_X12_behindOne_j152
  rw [if_neg (by decide), if_pos (hS.1.s41.2 h41)]
  obtain ⟨s7, c1, c2⟩ := P_settle (l := 1) (by decide) ht hs hs1 hdo hS
  rw [hse] at c2
  have c1' : F_X12_settle s 1 = some s7 := c1
  have h17 : s7.1 64 17 = ((ρ.length + 1 : Nat) : Int) := c2.2.1.2.2.2.1
  have h18 : s7.1 64 18 = ((s_opn ρ + 1 : Nat) : Int) := c2.2.1.2.2.2.2.1
  have hso := s_opn_le ρ
  obtain ⟨s8, hs8⟩ : ∃ z, z = d_si s7 64 17 (ρ.length : Int) := ⟨_, rfl⟩
  obtain ⟨s9, hs9⟩ : ∃ z, z = d_si s8 64 18 ((s_opn ρ : Nat) : Int) := ⟨_, rfl⟩
  have hS9 : l_S s0 b n p ρ (k :: κ0) (w + (σ.length - (42 :: ρ).length)) so wh (s_opn ρ) t0 (l_zE z (s_op 1 σ)) s9 := c2.pop (by decide) (by rw [hs9, d_si_i, d_u_n (by decide), hs8, d_si_i, d_u_t]) (by rw [hs9, d_si_i, d_u_t]) (fun k q1 q2 => by rw [hs9, d_si_i, d_u_n q2, hs8, d_si_i, d_u_n q1]) (fun a q => by rw [hs9, d_si_n q, hs8, d_si_n q]) (by rw [hs9, hs8]; rfl) (by rw [hs9, hs8]; exact (l_h.s64 (by decide)).tr (l_h.s64 (by decide)))
  have h19 : s9.1 64 19 = ((κ0.length + 1 : Nat) : Int) := hS9.2.1.2.2.2.2.2.1
  have h70 : s9.1 70 κ0.length = (k : Int) := hS9.2.2.2.1.1
  obtain ⟨s10, hs10⟩ : ∃ z, z = d_si s9 64 19 (κ0.length : Int) := ⟨_, rfl⟩
  have g10 : ∀ j, j ≠ 19 → s10.1 64 j = s9.1 64 j := fun j q => by rw [hs10, d_si_i, d_u_n q]
  have g10o : ∀ a, a ≠ 64 → s10.1 a = s9.1 a := fun a q => by rw [hs10, d_si_n q]
  have hS10 : l_S s0 b n p ρ κ0 (w + (σ.length - (42 :: ρ).length)) so wh (s_opn ρ) t0 (l_zE z (s_op 1 σ)) s10 := by
    have hh := hS9
    obtain ⟨hT, ⟨a1, a2, a3, a4, a5, a6, a7⟩, a8, a9, a10, a11⟩ := hS9
    exact l_S.g hh (fun j _ _ q3 _ => g10 j q3) (g10o 68 (by decide)) (g10o 67 (by decide)) (by rw [hs10]; rfl) (by rw [hs10]; exact l_h.s64 (by decide)) (by rw [g10 17 (by decide)]; exact a4) (by rw [g10 18 (by decide)]; exact a5) (by rw [hs10, d_si_i, d_u_t]) (by rw [g10 20 (by decide)]; exact a7) (by rw [g10o 69 (by decide)]; exact a8) (by rw [g10o 70 (by decide)]; exact a9.2.2)
  obtain ⟨s12, f1, f2, -⟩ := P_emit hS10 (by rw [List.length_cons]; omega) ht (x := 2) (y := k) (by decide) (by omega)
  have f1' : F_X12_emit s10 2 (k : Int) = some s12 := f1
  obtain ⟨s', e1, w2, e2, e3⟩ := P_223 f2 hp ht (by omega) (by rw [List.length_cons]; omega) h41
  refine ⟨s', ?_, w2, ?_, e3⟩
  · rw [c1', d_b_t, h17, d_w_id (by omega) (by omega), show ((ρ.length + 1 : Nat) : Int) - 1 = (ρ.length : Int) by omega, d_l_t, ← hs8, show s8.1 64 18 = s7.1 64 18 by rw [hs8, d_si_i, d_u_n (by decide)], h18, d_w_id (by omega) (by omega), show ((s_opn ρ + 1 : Nat) : Int) - 1 = ((s_opn ρ : Nat) : Int) by omega, d_l_t, ← hs9, if_pos rfl, h19, d_w_id (by omega) (by omega), show ((κ0.length + 1 : Nat) : Int) - 1 = (κ0.length : Int) by omega, d_l_t, ← hs10, show s10.1 64 19 = (κ0.length : Int) by rw [hs10, d_si_i, d_u_t], d_g_t (by omega), Int.toNat_natCast, g10o 70 (by decide), h70, f1', d_b_t]
    exact e1
  · rw [List.length_cons] at e2; omega
end X9

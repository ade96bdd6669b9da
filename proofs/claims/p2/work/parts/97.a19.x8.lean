section X8
variable {s0 s s1 s' : d_S} {b : Nat → Nat} {n p q w so d t0 : Nat} {σ κ : List Nat} {wh : Bool} {z : l_zT} {x : Int}
theorem l_S.g {σ' κ' : List Nat} {wh' : Bool} {d' : Nat} (h : l_S s0 b n p σ κ w so wh d t0 z s) (h64 : ∀ k, k ≠ 17 → k ≠ 18 → k ≠ 19 → k ≠ 20 → s'.1 64 k = s.1 64 k) (h68 : s'.1 68 = s.1 68) (h67 : s'.1 67 = s.1 67) (h11 : s'.2.2 1011 = s.2.2 1011) (hf : l_h s s') (g17 : s'.1 64 17 = (σ'.length : Int)) (g18 : s'.1 64 18 = (d' : Int)) (g19 : s'.1 64 19 = (κ'.length : Int)) (g20 : s'.1 64 20 = (if wh' = true then 1 else 0)) (g69 : l_P (s'.1 69) σ') (g70 : l_P (s'.1 70) κ') : l_S s0 b n p σ' κ' w so wh' d' t0 z s' := by
  obtain ⟨hT, ⟨a1, a2, a3, a4, a5, a6, a7⟩, a8, a9, a10, a11⟩ := h
  exact ⟨hT.g (fun k hk => h64 k (by omega) (by omega) (by omega) (by omega)) h68 h11, ⟨by rw [h64 12 (by decide) (by decide) (by decide) (by decide)]; exact a1, by rw [h64 13 (by decide) (by decide) (by decide) (by decide)]; exact a2, by rw [h64 14 (by decide) (by decide) (by decide) (by decide)]; exact a3, g17, g18, g19, g20⟩, g69, g70, by rw [h67]; exact a10, a11.tr hf⟩
theorem l_S.whl (wh' : Bool) (h : l_S s0 b n p σ κ w so wh d t0 z s) : l_S s0 b n p σ κ w so wh' d t0 z (d_si s 64 20 (if wh' = true then 1 else 0)) := by
  have e : ∀ k, k ≠ 20 → (d_si s 64 20 (if wh' = true then 1 else 0)).1 64 k = s.1 64 k := fun k q => by rw [d_si_i, d_u_n q]
  have hh := h
  obtain ⟨hT, ⟨a1, a2, a3, a4, a5, a6, a7⟩, a8, a9, a10, a11⟩ := h
  exact hh.g (fun k _ _ _ q => e k q) (d_si_n (by decide)) (d_si_n (by decide)) rfl (l_h.s64 (by decide)) (by rw [e 17 (by decide)]; exact a4) (by rw [e 18 (by decide)]; exact a5) (by rw [e 19 (by decide)]; exact a6) (by rw [d_si_i, d_u_t]) (by rw [d_si_n (by decide)]; exact a8) (by rw [d_si_n (by decide)]; exact a9)
def t_e1 (b : Nat → Nat) (n p : Nat) : Nat × Nat := if t_k b n p = 2 then (0, t_n b n p) else (1, t_nr b n p)
theorem t_nr_nm {S : Bool} (hF : t_F b n S d p = 0) (ho : t_op b n p = false) (q : ¬ t_k b n p = 2) : t_nm6 b n p = true ∨ t_nm2 b n p = true := by
  unfold t_F at hF
  rw [if_neg q] at hF
  by_cases q1 : t_nm6 b n p = true
  · exact Or.inl q1
  · rw [if_neg q1] at hF
    by_cases q2 : t_nm2 b n p = true
    · exact Or.inr q2
    · rw [if_neg q2, ho, if_neg (by decide)] at hF; cases hF
theorem t_nr_8 (h : t_nm6 b n p = true ∨ t_nm2 b n p = true) : t_nr b n p < 8 := by
  by_cases q : t_nm6 b n p = true
  · have := t_nr_6.1 q; omega
  · exact (t_nr_2 q).1 (h.resolve_left q)
theorem t_nr_nu (h : t_nm6 b n p = true ∨ t_nm2 b n p = true) : t_rn (t_nr b n p) = t_nu b n p := by
  have ex : ∀ j k, j < 22 → k < 22 → t_wd b n p j = true → t_wd b n p k = true → j = k := fun j k hj hk e1 e2 => t_Wn_i j hj k hk (by rw [← (t_wd_iff.mp e1).2, ← (t_wd_iff.mp e2).2])
  have no : ∀ j, j < 22 → t_wd b n p j = true → ∀ k, k < 22 → k ≠ j → ¬ t_wd b n p k = true := fun j hj e k hk hne e2 => hne (ex k j hk hj e2 e)
  unfold t_nm6 t_nm2 at h
  simp only [Bool.or_eq_true] at h
  unfold t_nr t_nu t_rn
  rcases h with (e | e | e | e | e | e) | (e | e)
  · simp [e, no 9 (by decide) e 8 (by decide) (by decide)]
  · simp [e, no 10 (by decide) e 8 (by decide) (by decide), no 10 (by decide) e 9 (by decide) (by decide)]
  · simp [e, no 11 (by decide) e 8 (by decide) (by decide), no 11 (by decide) e 9 (by decide) (by decide), no 11 (by decide) e 10 (by decide) (by decide)]
  · simp [e, no 8 (by decide) e 9 (by decide) (by decide), no 8 (by decide) e 10 (by decide) (by decide), no 8 (by decide) e 11 (by decide) (by decide)]
  · simp [e, no 12 (by decide) e 8 (by decide) (by decide), no 12 (by decide) e 9 (by decide) (by decide), no 12 (by decide) e 10 (by decide) (by decide), no 12 (by decide) e 11 (by decide) (by decide)]
  · simp [e, no 13 (by decide) e 8 (by decide) (by decide), no 13 (by decide) e 9 (by decide) (by decide), no 13 (by decide) e 10 (by decide) (by decide), no 13 (by decide) e 11 (by decide) (by decide), no 13 (by decide) e 12 (by decide) (by decide)]
  · simp [e, no 14 (by decide) e 8 (by decide) (by decide), no 14 (by decide) e 9 (by decide) (by decide), no 14 (by decide) e 10 (by decide) (by decide), no 14 (by decide) e 11 (by decide) (by decide), no 14 (by decide) e 12 (by decide) (by decide), no 14 (by decide) e 13 (by decide) (by decide)]
  · simp [e, no 15 (by decide) e 8 (by decide) (by decide), no 15 (by decide) e 9 (by decide) (by decide), no 15 (by decide) e 10 (by decide) (by decide), no 15 (by decide) e 11 (by decide) (by decide), no 15 (by decide) e 12 (by decide) (by decide), no 15 (by decide) e 13 (by decide) (by decide), no 15 (by decide) e 14 (by decide) (by decide)]
theorem P_b1_F (hS : l_S s0 b n p σ κ w so wh d t0 z s) (hd : d ≤ 8) (hF : t_F b n (Nat.beq so 1) d p ≠ 0) : F_X12_beginOne s = some (((t_F b n (Nat.beq so 1) d p : Nat) : Int), s) := by
  unfold F_X12_beginOne
  rw [P_rfault hS.1 hS.2.1.2.2.1 hS.2.1.2.2.2.2.1 hd, d_b_t, if_neg (by omega)]
theorem P_b1_1 (hS : l_S s0 b n p σ κ w so wh d t0 z s) (hd : d ≤ 8) (hp : p ≤ n) (ht : t0 ≤ 2331) (hF : t_F b n (Nat.beq so 1) d p = 0) (ho : t_op b n p = false) (hw : w + σ.length + 1 ≤ 304) (hs : σ.length ≤ 160) (hdo : d = s_opn σ) : ∃ s', F_X12_beginOne s = some (0, s') ∧ ∃ w2, w2 + (s_se 3 σ).length = w + σ.length + 1 ∧ l_S s0 b n (t_x b n p) (s_se 3 σ) κ w2 so true (s_opn (s_se 3 σ)) t0 (l_zE (l_zE z [t_e1 b n p]) (s_op 3 σ)) s' := by
  have hT := hS.1
  have hsl := s_se_len 3 σ
  unfold F_X12_beginOne F_X12_beginOne_j28 F_X12_beginOne_j58_0 F_X12_beginOne_j58_1
  rw [P_rfault hT hS.2.1.2.2.1 hS.2.1.2.2.2.2.1 hd, d_b_t, if_pos (by omega), P_nameOf hT, d_b_t]
  have hk3 : t_k b n p ≠ 3 := fun e => by
    unfold t_F at hF
    have k2 : ¬ t_k b n p = 2 := by omega
    have := t_nr_nm (b := b) (n := n) (p := p) (S := Nat.beq so 1) (d := d) (by unfold t_F; exact hF) ho k2
    have := s_nm_k this
    omega
  have hgo : ∀ x y : Nat, x < 8 → y < 10000 → (x, y) = t_e1 b n p → ∃ s', d_b (F_X12_emit s (x : Int) (y : Int)) (fun s3 => d_b (F_X12_nextToken s3) (fun s4 => d_l (d_si s4 64 20 1) (fun s5 => d_b (F_X12_settle s5 3) (fun s6 => some ((0 : Int), s6))))) = some (0, s') ∧ ∃ w2, w2 + (s_se 3 σ).length = w + σ.length + 1 ∧ l_S s0 b n (t_x b n p) (s_se 3 σ) κ w2 so true (s_opn (s_se 3 σ)) t0 (l_zE (l_zE z [t_e1 b n p]) (s_op 3 σ)) s' := by
    intro x y hx hy he
    obtain ⟨s3, b1, b2, -⟩ := P_emit hS (by omega) ht hx hy
    rw [he] at b2
    obtain ⟨s4, c1, c2, c3⟩ := P_next b2.1 hp (fun e => absurd e hk3)
    have hS4 := b2.T c3 c2
    have hS5 := hS4.whl true
    rw [if_pos (by rfl)] at hS5
    obtain ⟨s6, d1, d2⟩ := P_settle (l := 3) (by decide) ht hs (by omega) hdo hS5
    refine ⟨s6, ?_, _, ?_, d2⟩
    · have d1' : F_X12_settle (d_si s4 64 20 1) 3 = some s6 := d1
      rw [b1, d_b_t, c1, d_b_t, d_l_t, d1', d_b_t]
    · omega
  obtain ⟨-, -, -, a0, a1, a2, a3, a4, a5⟩ := hT
  by_cases k2 : t_k b n p = 2
  · rw [if_pos (a2.1 k2), if_pos (a2.1 k2), if_pos (a2.1 k2), a4 k2]
    have h9 : t_n b n p ≤ 9999 := by
      unfold t_F at hF
      rw [if_pos k2] at hF
      by_cases q : 9999 < t_n b n p
      · rw [if_pos q] at hF; cases hF
      · omega
    exact hgo 0 _ (by decide) (by omega) (by unfold t_e1; rw [if_pos k2])
  · have hnm := t_nr_nm hF ho k2
    have h8 := t_nr_8 hnm
    have h9 : ¬ s.1 64 9 = 1 := fun e => k2 (a2.2 e)
    rw [if_neg h9, if_neg (show ¬ t_nr b n p = 8 by omega), if_neg (by omega), if_neg h9, if_neg h9]
    exact hgo 1 _ (by decide) (by omega) (by unfold t_e1; rw [if_neg k2])
def l_px (b : Nat → Nat) (n p : Nat) : Nat := if t_is b n p 40 = true then 40 else if t_is b n p 45 = true then 3 else 41
theorem P_b1_op (hS : l_S s0 b n p σ κ w so wh d t0 z s) (hd : d ≤ 8) (hp : p ≤ n) (hF : t_F b n (Nat.beq so 1) d p = 0) (ho : t_op b n p = true) (hs : σ.length < 160) : ∃ s', F_X12_beginOne s = some (0, s') ∧ l_S s0 b n (t_x b n p) (l_px b n p :: σ) κ w so wh (d + 1) t0 z s' := by
  have hT := hS.1
  have hk2 : ¬ t_k b n p = 2 := fun e => by have := s_op_k ho; omega
  have hnm : ¬ (t_nm6 b n p = true ∨ t_nm2 b n p = true) := fun e => t_nm_op e ho
  have h8 : t_nr b n p = 8 := by
    have h6 : ¬ t_nm6 b n p = true := fun e => hnm (Or.inl e)
    have : ¬ t_nr b n p < 8 := fun e => hnm (Or.inr ((t_nr_2 h6).2 e))
    have := t_nr_le (b := b) (n := n) (p := p)
    omega
  unfold F_X12_beginOne F_X12_beginOne_j124
  have hd' := hS.2.1.2.2.2.2.1
  have h17 := hS.2.1.2.2.2.1
  rw [P_rfault hT hS.2.1.2.2.1 hd' hd, d_b_t, if_pos (by omega), P_nameOf hT, d_b_t, if_pos h8, if_neg (fun e => hk2 (hT.2.2.2.2.2.1.2 e)), if_pos (by decide), hd', d_w_id (by omega) (by omega), d_l_t]
  obtain ⟨s2, hs2⟩ : ∃ z, z = d_si s 64 18 ((d : Int) + 1) := ⟨_, rfl⟩
  rw [← hs2]
  have e2 : ∀ k, k ≠ 18 → s2.1 64 k = s.1 64 k := fun k q => by rw [hs2, d_si_i, d_u_n q]
  have hgo : ∀ x : Nat, (x < 8 ∨ (40 ≤ x ∧ x < 43)) → x = l_px b n p → ∃ s', d_g (0 ≤ s2.1 64 17 ∧ s2.1 64 17 < 160) (d_l (d_si s2 69 (s2.1 64 17).toNat (x : Int)) (fun s13 => d_l (d_si s13 64 17 (d_w ((s13.1 64 17) + 1))) (fun s14 => d_b (F_X12_nextToken s14) (fun s15 => some ((0 : Int), s15))))) = some (0, s') ∧ l_S s0 b n (t_x b n p) (l_px b n p :: σ) κ w so wh (d + 1) t0 z s' := by
    intro x hx hxe
    obtain ⟨s3, hs3⟩ : ∃ z, z = d_si s2 69 σ.length (x : Int) := ⟨_, rfl⟩
    obtain ⟨s4, hs4⟩ : ∃ z, z = d_si s3 64 17 ((σ.length : Int) + 1) := ⟨_, rfl⟩
    have e3 : s3.1 64 = s2.1 64 := by rw [hs3, d_si_n (by decide)]
    have e4 : ∀ k, k ≠ 17 → s4.1 64 k = s2.1 64 k := fun k q => by rw [hs4, d_si_i, d_u_n q, e3]
    have e4o : ∀ a, a ≠ 64 → a ≠ 69 → s4.1 a = s.1 a := fun a q1 q2 => by rw [hs4, d_si_n q1, hs3, d_si_n q2, hs2, d_si_n q1]
    have hS4 : l_S s0 b n p (x :: σ) κ w so wh (d + 1) t0 z s4 := by
      refine hS.g (fun k q1 q2 _ _ => by rw [e4 k q1, e2 k q2]) (e4o 68 (by decide) (by decide)) (e4o 67 (by decide) (by decide)) (by rw [hs4, hs3, hs2]; rfl) (by rw [hs4, hs3, hs2]; exact ((l_h.s64 (by decide)).tr (l_h.sx (Or.inr (Or.inl rfl)))).tr (l_h.s64 (by decide))) ?_ ?_ ?_ ?_ ?_ ?_
      · rw [hs4, d_si_i, d_u_t]; rfl
      · rw [e4 18 (by decide), hs2, d_si_i, d_u_t]; rfl
      · rw [e4 19 (by decide), e2 19 (by decide)]; exact hS.2.1.2.2.2.2.2.1
      · rw [e4 20 (by decide), e2 20 (by decide)]; exact hS.2.1.2.2.2.2.2.2
      · have e69 : s4.1 69 = d_u (s.1 69) σ.length (x : Int) := by rw [hs4, d_si_n (by decide), hs3, d_si_i, hs2, d_si_n (by decide)]
        rw [e69]
        exact ⟨d_u_t, hx, l_P_set (Nat.le_refl _) hS.2.2.1⟩
      · rw [e4o 70 (by decide) (by decide)]; exact hS.2.2.2.1
    have hb : t_k b n p = 3 → b p ≠ 60 ∧ b p ≠ 62 := by
      intro k3
      unfold t_op at ho
      simp only [Bool.or_eq_true] at ho
      rcases ho with e | e | e
      · have := (t_is_iff.mp e).2; omega
      · have := (t_is_iff.mp e).2; omega
      · have := (t_wd_iff.mp e).1; omega
    obtain ⟨s', c1, c2, c3⟩ := P_next hS4.1 hp hb
    refine ⟨s', ?_, hxe ▸ hS4.T c3 c2⟩
    rw [e2 17 (by decide), h17, d_g_t (by omega), Int.toNat_natCast, d_l_t, ← hs3, e3, e2 17 (by decide), h17, d_w_id (by omega) (by omega), d_l_t, ← hs4, c1, d_b_t]
  rw [e2 9 (by decide)]
  by_cases c1 : t_is b n p 40 = true
  · rw [if_pos (hT.s40.2 c1)]
    exact hgo 40 (by decide) (by unfold l_px; rw [if_pos c1])
  · rw [if_neg (fun e => c1 (hT.s40.1 e))]
    by_cases c2 : t_is b n p 45 = true
    · rw [if_pos (hT.s45.2 c2)]
      exact hgo 3 (by decide) (by unfold l_px; rw [if_neg c1, if_pos c2])
    · rw [if_neg (fun e => c2 (hT.s45.1 e))]
      exact hgo 41 (by decide) (by unfold l_px; rw [if_neg c1, if_neg c2])
theorem P_of_no (hS : l_S s0 b n p σ κ w so wh d t0 z s) (ho : t_wd b n p 21 = false) : F_X12_ofNth s = some (1, s) := by
  unfold F_X12_ofNth
  rw [l_w21, d_b_t, P_rword hS.1 (by decide), d_b_t, v_bf (by rw [ho]; decide), if_pos rfl]
theorem t_wd_nb {k : Nat} (h : t_wd b n p k = true) : t_k b n p = 3 → b p ≠ 60 ∧ b p ≠ 62 := fun e => by have := (t_wd_iff.mp h).1; omega
theorem P_of_no2 (hS : l_S s0 b n p σ κ w so wh d t0 z s) (hp : p ≤ n) (ho : t_wd b n p 21 = true) (h40 : t_is b n (t_x b n p) 40 = false) : ∃ s', F_X12_ofNth s = some (1, s') ∧ l_S s0 b n (t_x b n p) σ κ w so wh d t0 z s' := by
  obtain ⟨s3, c1, c2, c3⟩ := P_next hS.1 hp (t_wd_nb ho)
  refine ⟨s3, ?_, hS.T c3 c2⟩
  unfold F_X12_ofNth
  rw [l_w21, d_b_t, P_rword hS.1 (by decide), d_b_t, v_bt ho, if_neg (by decide), c1, d_b_t, if_neg (fun e => by rw [c2.s40.1 e] at h40; cases h40)]
theorem P_of_yes {ρ : List Nat} (hS : l_S s0 b n p (41 :: ρ) κ w so wh d t0 z s) (hp : p ≤ n) (ho : t_wd b n p 21 = true) (h40 : t_is b n (t_x b n p) 40 = true) (hk8 : κ.length ≤ 8) (hs : ρ.length < 160) : ∃ s', F_X12_ofNth s = some (0, s') ∧ l_S s0 b n (t_x b n (t_x b n p)) (42 :: ρ) (1 :: κ) w so false d t0 z s' := by
  obtain ⟨s3, c1, c2, c3⟩ := P_next hS.1 hp (t_wd_nb ho)
  have hS3 := hS.T c3 c2
  obtain ⟨s4, e1, e2, e3⟩ := P_next c2 (t_x_le hp) (t_nb2 h40 (by decide) (by decide))
  have hS4 := hS3.T e3 e2
  have h17 : s4.1 64 17 = ((ρ.length + 1 : Nat) : Int) := hS4.2.1.2.2.2.1
  have h19 := hS4.2.1.2.2.2.2.2.1
  have h18 := hS4.2.1.2.2.2.2.1
  obtain ⟨s6, hs6⟩ : ∃ z, z = d_si s4 69 ρ.length 42 := ⟨_, rfl⟩
  obtain ⟨s8, hs8⟩ : ∃ z, z = d_si s6 70 κ.length 1 := ⟨_, rfl⟩
  obtain ⟨s9, hs9⟩ : ∃ z, z = d_si s8 64 19 ((κ.length : Int) + 1) := ⟨_, rfl⟩
  obtain ⟨s10, hs10⟩ : ∃ z, z = d_si s9 64 20 0 := ⟨_, rfl⟩
  have g6 : s6.1 64 = s4.1 64 := by rw [hs6, d_si_n (by decide)]
  have g8 : s8.1 64 = s4.1 64 := by rw [hs8, d_si_n (by decide), g6]
  have g10 : ∀ k, k ≠ 19 → k ≠ 20 → s10.1 64 k = s4.1 64 k := fun k q1 q2 => by rw [hs10, d_si_i, d_u_n q2, hs9, d_si_i, d_u_n q1, g8]
  have g10o : ∀ a, a ≠ 64 → a ≠ 69 → a ≠ 70 → s10.1 a = s4.1 a := fun a q1 q2 q3 => by rw [hs10, d_si_n q1, hs9, d_si_n q1, hs8, d_si_n q3, hs6, d_si_n q2]
  refine ⟨s10, ?_, hS4.g (fun k _ _ q3 q4 => g10 k q3 q4) (g10o 68 (by decide) (by decide) (by decide)) (g10o 67 (by decide) (by decide) (by decide)) (by rw [hs10, hs9, hs8, hs6]; rfl) (by rw [hs10, hs9, hs8, hs6]; exact (((l_h.sx (Or.inr (Or.inl rfl))).tr (l_h.sx (Or.inr (Or.inr rfl)))).tr (l_h.s64 (by decide))).tr (l_h.s64 (by decide))) ?_ ?_ ?_ ?_ ?_ ?_⟩
  · unfold F_X12_ofNth
    rw [l_w21, d_b_t, P_rword hS.1 (by decide), d_b_t, v_bt ho, if_neg (by decide), c1, d_b_t, if_pos (c2.s40.2 h40), e1, d_b_t, h17, d_w_id (by omega) (by omega), show ((ρ.length + 1 : Nat) : Int) - 1 = (ρ.length : Int) by omega, d_g_t (by omega), Int.toNat_natCast, d_l_t, ← hs6, g6, h19, d_g_t (by omega), Int.toNat_natCast, d_l_t, ← hs8, g8, h19, d_w_id (by omega) (by omega), d_l_t, ← hs9, d_l_t, ← hs10]
  · rw [g10 17 (by decide) (by decide)]; exact h17
  · rw [g10 18 (by decide) (by decide)]; exact h18
  · rw [hs10, d_si_i, d_u_n (by decide), hs9, d_si_i, d_u_t]; rfl
  · rw [hs10, d_si_i, d_u_t]; rfl
  · have e69 : s10.1 69 = d_u (s4.1 69) ρ.length 42 := by rw [hs10, d_si_n (by decide), hs9, d_si_n (by decide), hs8, d_si_n (by decide), hs6, d_si_i]
    rw [e69]
    exact ⟨d_u_t, by decide, l_P_set (Nat.le_refl _) hS4.2.2.1.2.2⟩
  · have e70 : s10.1 70 = d_u (s4.1 70) κ.length 1 := by rw [hs10, d_si_n (by decide), hs9, d_si_n (by decide), hs8, d_si_i, hs6, d_si_n (by decide)]
    rw [e70]
    exact ⟨d_u_t, by decide, l_P_set (Nat.le_refl _) hS4.2.2.2.1⟩
theorem P_nx_7 {ρ κ0 : List Nat} (hS : l_S s0 b n p σ (6 :: κ0) w so wh d t0 z s) (hp : p ≤ n) (ht : t0 ≤ 2331) (hs : σ.length ≤ 160) (hs1 : w + σ.length ≤ 304) (hdo : d = s_opn σ) (hop : t_is b n p 44 = true) (hse : s_se 1 σ = 42 :: ρ) (hk8 : κ0.length ≤ 8) (hd8 : s_opn (42 :: ρ) ≤ 8) : ∃ s', F_X12_nextOfNth s = some (((if t_F b n (Nat.beq so 1) (s_opn (42 :: ρ)) (t_x b n p) ≠ 0 then t_F b n (Nat.beq so 1) (s_opn (42 :: ρ)) (t_x b n p) else 7 : Nat) : Int), s') ∧ l_S s0 b n (t_x b n p) (42 :: ρ) (6 :: κ0) (w + (σ.length - (42 :: ρ).length)) so false (s_opn (42 :: ρ)) t0 (l_zE z (s_op 1 σ)) s' := by
  obtain ⟨s1, c1, c2⟩ := P_settle (l := 1) (by decide) ht hs hs1 hdo hS
  rw [hse] at c2
  have hS2 := c2.whl false
  rw [if_neg (by decide)] at hS2
  obtain ⟨s3, e1, e2, e3⟩ := P_next hS2.1 hp (t_nb2 hop (by decide) (by decide))
  have hS3 := hS2.T e3 e2
  have h19 : s3.1 64 19 = ((κ0.length + 1 : Nat) : Int) := hS3.2.1.2.2.2.2.2.1
  have h70 : s3.1 70 κ0.length = 6 := hS3.2.2.2.1.1
  have hFF := P_rfault hS3.1 hS3.2.1.2.2.1 hS3.2.1.2.2.2.2.1 hd8
  refine ⟨s3, ?_, hS3⟩
  have c1' : F_X12_settle s 1 = some s1 := c1
  unfold F_X12_nextOfNth
  rw [c1', d_b_t, d_l_t, e1, d_b_t, h19, d_w_id (by omega) (by omega), show ((κ0.length + 1 : Nat) : Int) - 1 = (κ0.length : Int) by omega, d_g_t (by omega), Int.toNat_natCast, h70, if_pos rfl, hFF, d_b_t, d_b_t]
  by_cases q : t_F b n (Nat.beq so 1) (s_opn (42 :: ρ)) (t_x b n p) = 0
  · rw [if_pos (by omega), if_neg (fun e => e q)]; rfl
  · rw [if_neg (by omega), if_pos q]
theorem P_nx_1 {ρ κ0 : List Nat} {k : Nat} (hS : l_S s0 b n p σ (k :: κ0) w so wh d t0 z s) (hp : p ≤ n) (ht : t0 ≤ 2331) (hs : σ.length ≤ 160) (hs1 : w + σ.length ≤ 304) (hdo : d = s_opn σ) (hop : t_is b n p 44 = true) (hse : s_se 1 σ = 42 :: ρ) (hk8 : κ0.length ≤ 8) (hk6 : k < 6) : ∃ s', F_X12_nextOfNth s = some (0, s') ∧ l_S s0 b n (t_x b n p) (42 :: ρ) ((k + 1) :: κ0) (w + (σ.length - (42 :: ρ).length)) so false (s_opn (42 :: ρ)) t0 (l_zE z (s_op 1 σ)) s' := by
  obtain ⟨s1, c1, c2⟩ := P_settle (l := 1) (by decide) ht hs hs1 hdo hS
  rw [hse] at c2
  have hS2 := c2.whl false
  rw [if_neg (by decide)] at hS2
  obtain ⟨s3, e1, e2, e3⟩ := P_next hS2.1 hp (t_nb2 hop (by decide) (by decide))
  have hS3 := hS2.T e3 e2
  have h19 : s3.1 64 19 = ((κ0.length + 1 : Nat) : Int) := hS3.2.1.2.2.2.2.2.1
  have h70 : s3.1 70 κ0.length = (k : Int) := hS3.2.2.2.1.1
  obtain ⟨s9, hs9⟩ : ∃ z, z = d_si s3 70 κ0.length ((k : Int) + 1) := ⟨_, rfl⟩
  have c1' : F_X12_settle s 1 = some s1 := c1
  have g9 : s9.1 64 = s3.1 64 := by rw [hs9, d_si_n (by decide)]
  have hS3' := hS3
  obtain ⟨hT, ⟨a1, a2, a3, a4, a5, a6, a7⟩, a8, a9, a10, a11⟩ := hS3
  refine ⟨s9, ?_, l_S.g hS3' (fun k _ _ _ _ => by rw [g9]) (by rw [hs9, d_si_n (by decide)]) (by rw [hs9, d_si_n (by decide)]) (by rw [hs9]; rfl) (by rw [hs9]; exact l_h.sx (Or.inr (Or.inr rfl))) (by rw [g9]; exact a4) (by rw [g9]; exact a5) (by rw [g9]; exact a6) (by rw [g9]; exact a7) (by rw [hs9, d_si_n (by decide)]; exact a8) ?_⟩
  · unfold F_X12_nextOfNth
    rw [c1', d_b_t, d_l_t, e1, d_b_t, h19, d_w_id (by omega) (by omega), show ((κ0.length + 1 : Nat) : Int) - 1 = (κ0.length : Int) by omega, d_g_t (by omega), Int.toNat_natCast, h70, if_neg (by omega), d_g_t (by omega), d_g_t (by omega), d_w_id (by omega) (by omega), d_l_t, ← hs9]
  · have e70 : s9.1 70 = d_u (s3.1 70) κ0.length ((k : Int) + 1) := by rw [hs9, d_si_i]
    rw [e70]
    exact ⟨by rw [d_u_t]; rfl, Or.inl (by omega), l_P_set (Nat.le_refl _) a9.2.2⟩
end X8

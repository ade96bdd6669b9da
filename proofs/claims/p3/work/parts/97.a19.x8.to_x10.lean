section X8
variable {s0 s s1 s' : d_S} {b : Nat → Nat} {n p q w so d t0 : Nat} {σ κ : List Nat} {wh : Bool} {z : l_zT} {x : Int}
theorem l_S.g {σ' κ' : List Nat} {wh' : Bool} {d' : Nat} (h : l_S s0 b n p σ κ w so wh d t0 z s) (h64 : ∀ k, k ≠ 17 → k ≠ 18 → k ≠ 19 → k ≠ 20 → s'.1 64 k = s.1 64 k) (h68 : s'.1 68 = s.1 68) (h67 : s'.1 67 = s.1 67) (h11 : s'.2.2 1011 = s.2.2 1011) (hf : l_h s s') (g17 : s'.1 64 17 = (σ'.length : Int)) (g18 : s'.1 64 18 = (d' : Int)) (g19 : s'.1 64 19 = (κ'.length : Int)) (g20 : s'.1 64 20 = (if wh' = true then 1 else 0)) (g69 : l_P (s'.1 69) σ') (g70 : l_P (s'.1 70) κ') : l_S s0 b n p σ' κ' w so wh' d' t0 z s' := by
  obtain ⟨hT, ⟨a1, a2, a3, a4, a5, a6, a7⟩, a8, a9, a10, a11⟩ := h
  exact ⟨hT.g (fun k hk => h64 k (by omega) (by omega) (by omega) (by omega)) h68 h11, ⟨by rw [h64 12 (by decide) (by decide) (by decide) (by decide)]; exact a1, by rw [h64 13 (by decide) (by decide) (by decide) (by decide)]; exact a2, by rw [h64 14 (by decide) (by decide) (by decide) (by decide)]; exact a3, g17, g18, g19, g20⟩, g69, g70, by rw [h67]; exact a10, a11.tr hf⟩
theorem l_S.whl (wh' : Bool) (h : l_S s0 b n p σ κ w so wh d t0 z s) : l_S s0 b n p σ κ w so wh' d t0 z (d_si s 64 20 (if wh' = true then 1 else 0)) := by
  have e : ∀ k, k ≠ 20 → (d_si s 64 20 (if wh' = true then 1 else 0)).1 64 k = s.1 64 k := fun k q => by rw [d_si_i, d_u_n q]
  have hh := h
  obtain ⟨hT, ⟨a1, a2, a3, a4, a5, a6, a7⟩, a8, a9, a10, a11⟩ := h
  exact hh.g (fun k _ _ _ q => e k q) (d_si_n (by decide)) (d_si_n (by decide)) rfl (l_h.s64 (by decide)) (by rw [e 17 (by decide)]; exact a4) (by rw [e 18 (by decide)]; exact a5) (by rw [e 19 (by decide)]; exact a6) (by rw [d_si_i, d_u_t]) (by rw [d_si_n (by decide)]; exact a8) (by rw [d_si_n (by decide)]; exact a9)
def t_e1 (b : Nat → Nat) (n p : Nat) : Nat × Nat := if t_k b n p = 2 then (0, t_n b n p) else (1, t_nr b n p)
theorem t_nr_nm {S : Bool} (hF : t_F b n S d p = 0) (ho : t_op b n p = false) (q : ¬ t_k b n p = 2) : t_nm6 b n p = true ∨ t_nm2 b n p = true := by
  unfold t_F at hF
  rw [if_neg q] at hF
  by_cases q1 : t_nm6 b n p = true
  · exact Or.inl q1
  · rw [if_neg q1] at hF
    by_cases q2 : t_nm2 b n p = true
    · exact Or.inr q2
    · rw [if_neg q2, ho, if_neg (by decide)] at hF; cases hF
theorem t_nr_8 (h : t_nm6 b n p = true ∨ t_nm2 b n p = true) : t_nr b n p < 8 := by
  by_cases q : t_nm6 b n p = true
  · have := t_nr_6.1 q; omega
  · exact (t_nr_2 q).1 (h.resolve_left q)
theorem t_nr_nu (h : t_nm6 b n p = true ∨ t_nm2 b n p = true) : t_rn (t_nr b n p) = t_nu b n p := by
  have ex : ∀ j k, j < 22 → k < 22 → t_wd b n p j = true → t_wd b n p k = true → j = k := fun j k hj hk e1 e2 => t_Wn_i j hj k hk (by rw [← (t_wd_iff.mp e1).2, ← (t_wd_iff.mp e2).2])
  have no : ∀ j, j < 22 → t_wd b n p j = true → ∀ k, k < 22 → k ≠ j → ¬ t_wd b n p k = true := fun j hj e k hk hne e2 => hne (ex k j hk hj e2 e)
  unfold t_nm6 t_nm2 at h
  simp only [Bool.or_eq_true] at h
  unfold t_nr t_nu t_rn
  rcases h with (e | e | e | e | e | e) | (e | e)
  · simp [e, no 9 (by decide) e 8 (by decide) (by decide)]
  · simp [e, no 10 (by decide) e 8 (by decide) (by decide), no 10 (by decide) e 9 (by decide) (by decide)]
  · simp [e, no 11 (by decide) e 8 (by decide) (by decide), no 11 (by decide) e 9 (by decide) (by decide), no 11 (by decide) e 10 (by decide) (by decide)]
  · simp [e, no 8 (by decide) e 9 (by decide) (by decide), no 8 (by decide) e 10 (by decide) (by decide), no 8 (by decide) e 11 (by decide) (by decide)]
  · simp [e, no 12 (by decide) e 8 (by decide) (by decide), no 12 (by decide) e 9 (by decide) (by decide), no 12 (by decide) e 10 (by decide) (by decide), no 12 (by decide) e 11 (by decide) (by decide)]
  · simp [e, no 13 (by decide) e 8 (by decide) (by decide), no 13 (by decide) e 9 (by decide) (by decide), no 13 (by decide) e 10 (by decide) (by decide), no 13 (by decide) e 11 (by decide) (by decide), no 13 (by decide) e 12 (by decide) (by decide)]
  · simp [e, no 14 (by decide) e 8 (by decide) (by decide), no 14 (by decide) e 9 (by decide) (by decide), no 14 (by decide) e 10 (by decide) (by decide), no 14 (by decide) e 11 (by decide) (by decide), no 14 (by decide) e 12 (by decide) (by decide), no 14 (by decide) e 13 (by decide) (by decide)]
  · simp [e, no 15 (by decide) e 8 (by decide) (by decide), no 15 (by decide) e 9 (by decide) (by decide), no 15 (by decide) e 10 (by decide) (by decide), no 15 (by decide) e 11 (by decide) (by decide), no 15 (by decide) e 12 (by decide) (by decide), no 15 (by decide) e 13 (by decide) (by decide), no 15 (by decide) e 14 (by decide) (by decide)]
theorem P_b1_F (hS : l_S s0 b n p σ κ w so wh d t0 z s) (hd : d ≤ 8) (hF : t_F b n (Nat.beq so 1) d p ≠ 0) : F_X12_beginOne s = some (((t_F b n (Nat.beq so 1) d p : Nat) : Int), s) := by
  unfold F_X12_beginOne
  rw [P_rfault hS.1 hS.2.1.2.2.1 hS.2.1.2.2.2.2.1 hd, d_b_t, if_neg (by omega)]
theorem P_b1_1 (hS : l_S s0 b n p σ κ w so wh d t0 z s) (hd : d ≤ 8) (hp : p ≤ n) (ht : t0 ≤ 2331) (hF : t_F b n (Nat.beq so 1) d p = 0) (ho : t_op b n p = false) (hw : w + σ.length + 1 ≤ 304) (hs : σ.length ≤ 160) (hdo : d = s_opn σ) : ∃ s', F_X12_beginOne s = some (0, s') ∧ ∃ w2, w2 + (s_se 3 σ).length = w + σ.length + 1 ∧ l_S s0 b n (t_x b n p) (s_se 3 σ) κ w2 so true (s_opn (s_se 3 σ)) t0 (l_zE (l_zE z [t_e1 b n p]) (s_op 3 σ)) s' := by
  have hT := hS.1
  have hsl := s_se_len 3 σ
  unfold F_X12_beginOne F_X12_beginOne_j28 F_X12_beginOne_j58_0 F_X12_beginOne_j58_1
  rw [P_rfault hT hS.2.1.2.2.1 hS.2.1.2.2.2.2.1 hd, d_b_t, if_pos (by omega), P_nameOf hT, d_b_t]
  have hk3 : t_k b n p ≠ 3 := fun e => by
    unfold t_F at hF
    have k2 : ¬ t_k b n p = 2 := by omega
    have := t_nr_nm (b := b) (n := n) (p := p) (S := Nat.beq so 1) (d := d) (by unfold t_F; exact hF) ho k2
    have := s_nm_k this
    omega
  have hgo : ∀ x y : Nat, x < 8 → y < 10000 → (x, y) = t_e1 b n p → ∃ s', d_b (F_X12_emit s (x : Int) (y : Int)) (fun s3 => d_b (F_X12_nextToken s3) (fun s4 => d_l (d_si s4 64 20 1) (fun s5 => d_b (F_X12_settle s5 3) (fun s6 => some ((0 : Int), s6))))) = some (0, s') ∧ ∃ w2, w2 + (s_se 3 σ).length = w + σ.length + 1 ∧ l_S s0 b n (t_x b n p) (s_se 3 σ) κ w2 so true (s_opn (s_se 3 σ)) t0 (l_zE (l_zE z [t_e1 b n p]) (s_op 3 σ)) s' := by
    intro x y hx hy he
    obtain ⟨s3, b1, b2, -⟩ := P_emit hS (by omega) ht hx hy
    rw [he] at b2
    obtain ⟨s4, c1, c2, c3⟩ := P_next b2.1 hp (fun e => absurd e hk3)
    have hS4 := b2.T c3 c2
    have hS5 := hS4.whl true
    rw [if_pos (by rfl)] at hS5
    obtain ⟨s6, d1, d2⟩ := P_settle (l := 3) (by decide) ht hs (by omega) hdo hS5
    refine ⟨s6, ?_, _, ?_, d2⟩
    · have d1' : F_X12_settle (d_si s4 64 20 1) 3 = some s6 := d1
      rw [b1, d_b_t, c1, d_b_t, d_l_t, d1', d_b_t]
    · omega
  obtain ⟨-, -, -, a0, a1, a2, a3, a4, a5⟩ := hT
  by_cases k2 : t_k b n p = 2
  · rw [if_pos (a2.1 k2), if_pos (a2.1 k2), if_pos (a2.1 k2), a4 k2]
    have h9 : t_n b n p ≤ 9999 := by
      unfold t_F at hF
      rw [if_pos k2] at hF
      by_cases q : 9999 < t_n b n p
      · rw [if_pos q] at hF; cases hF
      · omega
    exact hgo 0 _ (by decide) (by omega) (by unfold t_e1; rw [if_pos k2])
  · have hnm := t_nr_nm hF ho k2
    have h8 := t_nr_8 hnm
    have h9 : ¬ s.1 64 9 = 1 := fun e => k2 (a2.2 e)
    rw [if_neg h9, if_neg (show ¬ t_nr b n p = 8 by omega), if_neg (by omega), if_neg h9, if_neg h9]
    exact hgo 1 _ (by decide) (by omega) (by unfold t_e1; rw [if_neg k2])
def l_px (b : Nat → Nat) (n p : Nat) : Nat := if t_is b n p 40 = true then 40 else if t_is b n p 45 = true then 3 else 41
theorem P_b1_op (hS : l_S s0 b n p σ κ w so wh d t0 z s) (hd : d ≤ 8) (hp : p ≤ n) (hF : t_F b n (Nat.beq so 1) d p = 0) (ho : t_op b n p = true) (hs : σ.length < 160) : ∃ s', F_X12_beginOne s = some (0, s') ∧ l_S s0 b n (t_x b n p) (l_px b n p :: σ) κ w so wh (d + 1) t0 z s' := by
  have hT := hS.1
  have hk2 : ¬ t_k b n p = 2 := fun e => by have := s_op_k ho; omega
  have hnm : ¬ (t_nm6 b n p = true ∨ t_nm2 b n p = true) := fun e => t_nm_op e ho
  have h8 : t_nr b n p = 8 := by
    have h6 : ¬ t_nm6 b n p = true := fun e => hnm (Or.inl e)
    have : ¬ t_nr b n p < 8 := fun e => hnm (Or.inr ((t_nr_2 h6).2 e))
    have := t_nr_le (b := b) (n := n) (p := p)
    omega
  unfold F_X12_beginOne F_X12_beginOne_j124
  have hd' := hS.2.1.2.2.2.2.1
  have h17 := hS.2.1.2.2.2.1
  rw [P_rfault hT hS.2.1.2.2.1 hd' hd, d_b_t, if_pos (by omega), P_nameOf hT, d_b_t, if_pos h8, if_neg (fun e => hk2 (hT.2.2.2.2.2.1.2 e)), if_pos (by decide), hd', d_w_id (by omega) (by omega), d_l_t]
  obtain ⟨s2, hs2⟩ : ∃ z, z = d_si s 64 18 ((d : Int) + 1) := ⟨_, rfl⟩
  rw [← hs2]
  have e2 : ∀ k, k ≠ 18 → s2.1 64 k = s.1 64 k := fun k q => by rw [hs2, d_si_i, d_u_n q]
  have hgo : ∀ x : Nat, (x < 8 ∨ (40 ≤ x ∧ x < 43)) → x = l_px b n p → ∃ s', d_g (0 ≤ s2.1 64 17 ∧ s2.1 64 17 < 160) (d_l (d_si s2 69 (s2.1 64 17).toNat (x : Int)) (fun s13 => d_l (d_si s13 64 17 (d_w ((s13.1 64 17) + 1))) (fun s14 => d_b (F_X12_nextToken s14) (fun s15 => some ((0 : Int), s15))))) = some (0, s') ∧ l_S s0 b n (t_x b n p) (l_px b n p :: σ) κ w so wh (d + 1) t0 z s' := by
    intro x hx hxe
    obtain ⟨s3, hs3⟩ : ∃ z, z = d_si s2 69 σ.length (x : Int) := ⟨_, rfl⟩
    obtain ⟨s4, hs4⟩ : ∃ z, z = d_si s3 64 17 ((σ.length : Int) + 1) := ⟨_, rfl⟩
    have e3 : s3.1 64 = s2.1 64 := by rw [hs3, d_si_n (by decide)]
    have e4 : ∀ k, k ≠ 17 → s4.1 64 k = s2.1 64 k := fun k q => by rw [hs4, d_si_i, d_u_n q, e3]
    have e4o : ∀ a, a ≠ 64 → a ≠ 69 → s4.1 a = s.1 a := fun a q1 q2 => by rw [hs4, d_si_n q1, hs3, d_si_n q2, hs2, d_si_n q1]
    have hS4 : l_S s0 b n p (x :: σ) κ w so wh (d + 1) t0 z s4 := by
      refine hS.g (fun k q1 q2 _ _ => by rw [e4 k q1, e2 k q2]) (e4o 68 (by decide) (by decide)) (e4o 67 (by decide) (by decide)) (by rw [hs4, hs3, hs2]; rfl) (by rw [hs4, hs3, hs2]; exact ((l_h.s64 (by decide)).tr (l_h.sx (Or.inr (Or.inl rfl)))).tr (l_h.s64 (by decide))) ?_ ?_ ?_ ?_ ?_ ?_
      · rw [hs4, d_si_i, d_u_t]; rfl
      · rw [e4 18 (by decide), hs2, d_si_i, d_u_t]; rfl
      · rw [e4 19 (by decide), e2 19 (by decide)]; exact hS.2.1.2.2.2.2.2.1
      · rw [e4 20 (by decide), e2 20 (by decide)]; exact hS.2.1.2.2.2.2.2.2
      · have e69 : s4.1 69 = d_u (s.1 69) σ.length (x : Int) := by rw [hs4, d_si_n (by decide), hs3, d_si_i, hs2, d_si_n (by decide)]
        rw [e69]
        exact ⟨d_u_t, hx, l_P_set (Nat.le_refl _) hS.2.2.1⟩
      · rw [e4o 70 (by decide) (by decide)]; exact hS.2.2.2.1
    have hb : t_k b n p = 3 → b p ≠ 60 ∧ b p ≠ 62 := by
      intro k3
      unfold t_op at ho
      simp only [Bool.or_eq_true] at ho
      rcases ho with e | e | e
      · have := (t_is_iff.mp e).2; omega
      · have := (t_is_iff.mp e).2; omega
      · have := (t_wd_iff.mp e).1; omega
    obtain ⟨s', c1, c2, c3⟩ := P_next hS4.1 hp hb
    refine ⟨s', ?_, hxe ▸ hS4.T c3 c2⟩
    rw [e2 17 (by decide), h17, d_g_t (by omega), Int.toNat_natCast, d_l_t, ← hs3, e3, e2 17 (by decide), h17, d_w_id (by omega) (by omega), d_l_t, ← hs4, c1, d_b_t]
  rw [e2 9 (by decide)]
  by_cases c1 : t_is b n p 40 = true
  · rw [if_pos (hT.s40.2 c1)]
    exact hgo 40 (by decide) (by unfold l_px; rw [if_pos c1])
  · rw [if_neg (fun e => c1 (hT.s40.1 e))]
    by_cases c2 : t_is b n p 45 = true
    · rw [if_pos (hT.s45.2 c2)]
      exact hgo 3 (by decide) (by unfold l_px; rw [if_neg c1, if_pos c2])
    · rw [if_neg (fun e => c2 (hT.s45.1 e))]
      exact hgo 41 (by decide) (by unfold l_px; rw [if_neg c1, if_neg c2])
theorem P_of_no (hS : l_S s0 b n p σ κ w so wh d t0 z s) (ho : t_wd b n p 21 = false) : F_X12_ofNth s = some (1, s) := by
  unfold F_X12_ofNth
  rw [l_w21, d_b_t, P_rword hS.1 (by decide), d_b_t, v_bf (by rw [ho]; decide), if_pos rfl]
theorem t_wd_nb {k : Nat} (h : t_wd b n p k = true) : t_k b n p = 3 → b p ≠ 60 ∧ b p ≠ 62 := fun e => by have := (t_wd_iff.mp h).1; omega
theorem P_of_no2 (hS : l_S s0 b n p σ κ w so wh d t0 z s) (hp : p ≤ n) (ho : t_wd b n p 21 = true) (h40 : t_is b n (t_x b n p) 40 = false) : ∃ s', F_X12_ofNth s = some (1, s') ∧ l_S s0 b n (t_x b n p) σ κ w so wh d t0 z s' := by
  obtain ⟨s3, c1, c2, c3⟩ := P_next hS.1 hp (t_wd_nb ho)
  refine ⟨s3, ?_, hS.T c3 c2⟩
  unfold F_X12_ofNth
  rw [l_w21, d_b_t, P_rword hS.1 (by decide), d_b_t, v_bt ho, if_neg (by decide), c1, d_b_t, if_neg (fun e => by rw [c2.s40.1 e] at h40; cases h40)]
theorem P_of_yes {ρ : List Nat} (hS : l_S s0 b n p (41 :: ρ) κ w so wh d t0 z s) (hp : p ≤ n) (ho : t_wd b n p 21 = true) (h40 : t_is b n (t_x b n p) 40 = true) (hk8 : κ.length ≤ 8) (hs : ρ.length < 160) : ∃ s', F_X12_ofNth s = some (0, s') ∧ l_S s0 b n (t_x b n (t_x b n p)) (42 :: ρ) (1 :: κ) w so false d t0 z s' := by
  obtain ⟨s3, c1, c2, c3⟩ := P_next hS.1 hp (t_wd_nb ho)
  have hS3 := hS.T c3 c2
  obtain ⟨s4, e1, e2, e3⟩ := P_next c2 (t_x_le hp) (t_nb2 h40 (by decide) (by decide))
  have hS4 := hS3.T e3 e2
  have h17 : s4.1 64 17 = ((ρ.length + 1 : Nat) : Int) := hS4.2.1.2.2.2.1
  have h19 := hS4.2.1.2.2.2.2.2.1
  have h18 := hS4.2.1.2.2.2.2.1
  obtain ⟨s6, hs6⟩ : ∃ z, z = d_si s4 69 ρ.length 42 := ⟨_, rfl⟩
  obtain ⟨s8, hs8⟩ : ∃ z, z = d_si s6 70 κ.length 1 := ⟨_, rfl⟩
  obtain ⟨s9, hs9⟩ : ∃ z, z = d_si s8 64 19 ((κ.length : Int) + 1) := ⟨_, rfl⟩
  obtain ⟨s10, hs10⟩ : ∃ z, z = d_si s9 64 20 0 := ⟨_, rfl⟩
  have g6 : s6.1 64 = s4.1 64 := by rw [hs6, d_si_n (by decide)]
  have g8 : s8.1 64 = s4.1 64 := by rw [hs8, d_si_n (by decide), g6]
  have g10 : ∀ k, k ≠ 19 → k ≠ 20 → s10.1 64 k = s4.1 64 k := fun k q1 q2 => by rw [hs10, d_si_i, d_u_n q2, hs9, d_si_i, d_u_n q1, g8]
  have g10o : ∀ a, a ≠ 64 → a ≠ 69 → a ≠ 70 → s10.1 a = s4.1 a := fun a q1 q2 q3 => by rw [hs10, d_si_n q1, hs9, d_si_n q1, hs8, d_si_n q3, hs6, d_si_n q2]
  refine ⟨s10, ?_, hS4.g (fun k _ _ q3 q4 => g10 k q3 q4) (g10o 68 (by decide) (by decide) (by decide)) (g10o 67 (by decide) (by decide) (by decide)) (by rw [hs10, hs9, hs8, hs6]; rfl) (by rw [hs10, hs9, hs8, hs6]; exact (((l_h.sx (Or.inr (Or.inl rfl))).tr (l_h.sx (Or.inr (Or.inr rfl)))).tr (l_h.s64 (by decide))).tr (l_h.s64 (by decide))) ?_ ?_ ?_ ?_ ?_ ?_⟩
  · unfold F_X12_ofNth
    rw [l_w21, d_b_t, P_rword hS.1 (by decide), d_b_t, v_bt ho, if_neg (by decide), c1, d_b_t, if_pos (c2.s40.2 h40), e1, d_b_t, h17, d_w_id (by omega) (by omega), show ((ρ.length + 1 : Nat) : Int) - 1 = (ρ.length : Int) by omega, d_g_t (by omega), Int.toNat_natCast, d_l_t, ← hs6, g6, h19, d_g_t (by omega), Int.toNat_natCast, d_l_t, ← hs8, g8, h19, d_w_id (by omega) (by omega), d_l_t, ← hs9, d_l_t, ← hs10]
  · rw [g10 17 (by decide) (by decide)]; exact h17
  · rw [g10 18 (by decide) (by decide)]; exact h18
  · rw [hs10, d_si_i, d_u_n (by decide), hs9, d_si_i, d_u_t]; rfl
  · rw [hs10, d_si_i, d_u_t]; rfl
  · have e69 : s10.1 69 = d_u (s4.1 69) ρ.length 42 := by rw [hs10, d_si_n (by decide), hs9, d_si_n (by decide), hs8, d_si_n (by decide), hs6, d_si_i]
    rw [e69]
    exact ⟨d_u_t, by decide, l_P_set (Nat.le_refl _) hS4.2.2.1.2.2⟩
  · have e70 : s10.1 70 = d_u (s4.1 70) κ.length 1 := by rw [hs10, d_si_n (by decide), hs9, d_si_n (by decide), hs8, d_si_i, hs6, d_si_n (by decide)]
    rw [e70]
    exact ⟨d_u_t, by decide, l_P_set (Nat.le_refl _) hS4.2.2.2.1⟩
theorem P_nx_7 {ρ κ0 : List Nat} (hS : l_S s0 b n p σ (6 :: κ0) w so wh d t0 z s) (hp : p ≤ n) (ht : t0 ≤ 2331) (hs : σ.length ≤ 160) (hs1 : w + σ.length ≤ 304) (hdo : d = s_opn σ) (hop : t_is b n p 44 = true) (hse : s_se 1 σ = 42 :: ρ) (hk8 : κ0.length ≤ 8) (hd8 : s_opn (42 :: ρ) ≤ 8) : ∃ s', F_X12_nextOfNth s = some (((if t_F b n (Nat.beq so 1) (s_opn (42 :: ρ)) (t_x b n p) ≠ 0 then t_F b n (Nat.beq so 1) (s_opn (42 :: ρ)) (t_x b n p) else 7 : Nat) : Int), s') ∧ l_S s0 b n (t_x b n p) (42 :: ρ) (6 :: κ0) (w + (σ.length - (42 :: ρ).length)) so false (s_opn (42 :: ρ)) t0 (l_zE z (s_op 1 σ)) s' := by
  obtain ⟨s1, c1, c2⟩ := P_settle (l := 1) (by decide) ht hs hs1 hdo hS
  rw [hse] at c2
  have hS2 := c2.whl false
  rw [if_neg (by decide)] at hS2
  obtain ⟨s3, e1, e2, e3⟩ := P_next hS2.1 hp (t_nb2 hop (by decide) (by decide))
  have hS3 := hS2.T e3 e2
  have h19 : s3.1 64 19 = ((κ0.length + 1 : Nat) : Int) := hS3.2.1.2.2.2.2.2.1
  have h70 : s3.1 70 κ0.length = 6 := hS3.2.2.2.1.1
  have hFF := P_rfault hS3.1 hS3.2.1.2.2.1 hS3.2.1.2.2.2.2.1 hd8
  refine ⟨s3, ?_, hS3⟩
  have c1' : F_X12_settle s 1 = some s1 := c1
  unfold F_X12_nextOfNth
  rw [c1', d_b_t, d_l_t, e1, d_b_t, h19, d_w_id (by omega) (by omega), show ((κ0.length + 1 : Nat) : Int) - 1 = (κ0.length : Int) by omega, d_g_t (by omega), Int.toNat_natCast, h70, if_pos rfl, hFF, d_b_t, d_b_t]
  by_cases q : t_F b n (Nat.beq so 1) (s_opn (42 :: ρ)) (t_x b n p) = 0
  · rw [if_pos (by omega), if_neg (fun e => e q)]; rfl
  · rw [if_neg (by omega), if_pos q]
theorem P_nx_1 {ρ κ0 : List Nat} {k : Nat} (hS : l_S s0 b n p σ (k :: κ0) w so wh d t0 z s) (hp : p ≤ n) (ht : t0 ≤ 2331) (hs : σ.length ≤ 160) (hs1 : w + σ.length ≤ 304) (hdo : d = s_opn σ) (hop : t_is b n p 44 = true) (hse : s_se 1 σ = 42 :: ρ) (hk8 : κ0.length ≤ 8) (hk6 : k < 6) : ∃ s', F_X12_nextOfNth s = some (0, s') ∧ l_S s0 b n (t_x b n p) (42 :: ρ) ((k + 1) :: κ0) (w + (σ.length - (42 :: ρ).length)) so false (s_opn (42 :: ρ)) t0 (l_zE z (s_op 1 σ)) s' := by
  obtain ⟨s1, c1, c2⟩ := P_settle (l := 1) (by decide) ht hs hs1 hdo hS
  rw [hse] at c2
  have hS2 := c2.whl false
  rw [if_neg (by decide)] at hS2
  obtain ⟨s3, e1, e2, e3⟩ := P_next hS2.1 hp (t_nb2 hop (by decide) (by decide))
  have hS3 := hS2.T e3 e2
  have h19 : s3.1 64 19 = ((κ0.length + 1 : Nat) : Int) := hS3.2.1.2.2.2.2.2.1
  have h70 : s3.1 70 κ0.length = (k : Int) := hS3.2.2.2.1.1
  obtain ⟨s9, hs9⟩ : ∃ z, z = d_si s3 70 κ0.length ((k : Int) + 1) := ⟨_, rfl⟩
  have c1' : F_X12_settle s 1 = some s1 := c1
  have g9 : s9.1 64 = s3.1 64 := by rw [hs9, d_si_n (by decide)]
  have hS3' := hS3
  obtain ⟨hT, ⟨a1, a2, a3, a4, a5, a6, a7⟩, a8, a9, a10, a11⟩ := hS3
  refine ⟨s9, ?_, l_S.g hS3' (fun k _ _ _ _ => by rw [g9]) (by rw [hs9, d_si_n (by decide)]) (by rw [hs9, d_si_n (by decide)]) (by rw [hs9]; rfl) (by rw [hs9]; exact l_h.sx (Or.inr (Or.inr rfl))) (by rw [g9]; exact a4) (by rw [g9]; exact a5) (by rw [g9]; exact a6) (by rw [g9]; exact a7) (by rw [hs9, d_si_n (by decide)]; exact a8) ?_⟩
  · unfold F_X12_nextOfNth
    rw [c1', d_b_t, d_l_t, e1, d_b_t, h19, d_w_id (by omega) (by omega), show ((κ0.length + 1 : Nat) : Int) - 1 = (κ0.length : Int) by omega, d_g_t (by omega), Int.toNat_natCast, h70, if_neg (by omega), d_g_t (by omega), d_g_t (by omega), d_w_id (by omega) (by omega), d_l_t, ← hs9]
  · have e70 : s9.1 70 = d_u (s3.1 70) κ0.length ((k : Int) + 1) := by rw [hs9, d_si_i]
    rw [e70]
    exact ⟨by rw [d_u_t]; rfl, Or.inl (by omega), l_P_set (Nat.le_refl _) a9.2.2⟩
end X8
section X9
variable {s0 s s1 s' : d_S} {b : Nat → Nat} {n p q w so d t0 : Nat} {σ κ : List Nat} {wh : Bool} {z : l_zT} {x : Int}
def l_tp (σ : List Nat) : Prop := ∀ ρ, σ ≠ 41 :: ρ
theorem P_bh_of {ρ : List Nat} (hS : l_S s0 b n p (41 :: ρ) κ w so wh d t0 z s) (hs : ρ.length < 160) : F_X12_behindOne s = d_b2 (F_X12_ofNth s) (fun v2 s3 => some (v2, s3)) := by
  have h17 : s.1 64 17 = ((ρ.length + 1 : Nat) : Int) := hS.2.1.2.2.2.1
  unfold F_X12_behindOne
  rw [h17, if_pos (by omega), d_w_id (by omega) (by omega), show ((ρ.length + 1 : Nat) : Int) - 1 = (ρ.length : Int) by omega, d_g_t (by omega), Int.toNat_natCast, hS.2.2.1.1, if_pos (show ((41 : Nat) : Int) = 41 from rfl)]
theorem P_bh_top (hS : l_S s0 b n p σ κ w so wh d t0 z s) (hs : σ.length ≤ 160) (ht : l_tp σ) : F_X12_behindOne s = F_X12_behindOne_j28 s := by
  unfold F_X12_behindOne
  cases σ with
  | nil =>
    rw [hS.2.1.2.2.2.1, if_neg (by simp)]
  | cons x ρ =>
    rw [List.length_cons] at hs
    have h17 : s.1 64 17 = ((ρ.length + 1 : Nat) : Int) := hS.2.1.2.2.2.1
    rw [h17, if_pos (by omega), d_w_id (by omega) (by omega), show ((ρ.length + 1 : Nat) : Int) - 1 = (ρ.length : Int) by omega, d_g_t (by omega), Int.toNat_natCast, hS.2.2.1.1, if_neg (fun e => ht ρ (by rw [show x = 41 by omega]))]
def l_y (b : Nat → Nat) (n p : Nat) : Nat := if t_is b n p 43 = true then 4 else if t_is b n p 45 = true then 5 else if t_is b n p 42 = true then 6 else if t_is b n p 47 = true then 7 else 8
theorem P_bh_y (hT : l_T b n p s) : F_X12_behindOne_j28 s = F_X12_behindOne_j83 (if l_y b n p = 8 then -1 else ((l_y b n p : Nat) : Int)) s := by
  unfold F_X12_behindOne_j28 l_y
  by_cases c1 : t_is b n p 43 = true
  · rw [if_pos (hT.s43.2 c1), if_pos c1]; rfl
  rw [if_neg (fun e => c1 (hT.s43.1 e)), if_neg c1]
  by_cases c2 : t_is b n p 45 = true
  · rw [if_pos (hT.s45.2 c2), if_pos c2]; rfl
  rw [if_neg (fun e => c2 (hT.s45.1 e)), if_neg c2]
  by_cases c3 : t_is b n p 42 = true
  · rw [if_pos (hT.s42.2 c3), if_pos c3]; rfl
  rw [if_neg (fun e => c3 (hT.s42.1 e)), if_neg c3]
  by_cases c4 : t_is b n p 47 = true
  · rw [if_pos (hT.s47.2 c4), if_pos c4]; rfl
  rw [if_neg (fun e => c4 (hT.s47.1 e)), if_neg c4]; rfl
theorem l_y_nb (h : l_y b n p ≠ 8) : t_k b n p = 3 → b p ≠ 60 ∧ b p ≠ 62 := by
  unfold l_y at h
  intro _
  by_cases c1 : t_is b n p 43 = true
  · have := (t_is_iff.mp c1).2; omega
  rw [if_neg c1] at h
  by_cases c2 : t_is b n p 45 = true
  · have := (t_is_iff.mp c2).2; omega
  rw [if_neg c2] at h
  by_cases c3 : t_is b n p 42 = true
  · have := (t_is_iff.mp c3).2; omega
  rw [if_neg c3] at h
  by_cases c4 : t_is b n p 47 = true
  · have := (t_is_iff.mp c4).2; omega
  rw [if_neg c4] at h
  exact absurd rfl h
theorem P_bh_op {x l : Nat} (hS : l_S s0 b n p σ κ w so wh d t0 z s) (hp : p ≤ n) (ht : t0 ≤ 2331) (hs : σ.length < 160) (hs1 : w + σ.length ≤ 304) (hdo : d = s_opn σ) (htp : l_tp σ) (hy : l_y b n p = x) (hx : x < 8) (hl : s_rk x = l) (hl0 : 1 ≤ l) (hx3 : x ≠ 3) : ∃ s', F_X12_behindOne s = some (0, s') ∧ ∃ w2, w2 + (s_se l σ).length = w + σ.length ∧ l_S s0 b n (t_x b n p) (x :: s_se l σ) κ w2 so false (s_opn (x :: s_se l σ)) t0 (l_zE z (s_op l σ)) s' := by
  have hsl := s_se_len l σ
  rw [P_bh_top hS (by omega) htp, P_bh_y hS.1, hy, if_neg (by omega)]
  unfold F_X12_behindOne_j83
  obtain ⟨s1, c1, c2⟩ := P_settle hl0 ht (by omega) hs1 hdo hS
  obtain ⟨s18, hs18⟩ : ∃ z, z = d_si s1 69 (s_se l σ).length (x : Int) := ⟨_, rfl⟩
  obtain ⟨s19, hs19⟩ : ∃ z, z = d_si s18 64 17 (((s_se l σ).length : Int) + 1) := ⟨_, rfl⟩
  obtain ⟨s20, hs20⟩ : ∃ z, z = d_si s19 64 20 0 := ⟨_, rfl⟩
  have g18 : s18.1 64 = s1.1 64 := by rw [hs18, d_si_n (by decide)]
  have g20 : ∀ k, k ≠ 17 → k ≠ 20 → s20.1 64 k = s1.1 64 k := fun k q1 q2 => by rw [hs20, d_si_i, d_u_n q2, hs19, d_si_i, d_u_n q1, g18]
  have g20o : ∀ a, a ≠ 64 → a ≠ 69 → s20.1 a = s1.1 a := fun a q1 q2 => by rw [hs20, d_si_n q1, hs19, d_si_n q1, hs18, d_si_n q2]
  have c2' := c2
  obtain ⟨hT, ⟨a1, a2, a3, a4, a5, a6, a7⟩, a8, a9, a10, a11⟩ := c2
  have hex : s_opn (x :: s_se l σ) = s_opn (s_se l σ) := by
    show s_opn (s_se l σ) + (if x = 3 ∨ 40 ≤ x then 1 else 0) = s_opn (s_se l σ)
    rw [if_neg (by omega)]; rfl
  have hS20 : l_S s0 b n p (x :: s_se l σ) κ (w + (σ.length - (s_se l σ).length)) so false (s_opn (x :: s_se l σ)) t0 (l_zE z (s_op l σ)) s20 := by
    rw [hex]
    refine l_S.g c2' (fun k q1 _ _ q4 => g20 k q1 q4) (g20o 68 (by decide) (by decide)) (g20o 67 (by decide) (by decide)) (by rw [hs20, hs19, hs18]; rfl) (by rw [hs20, hs19, hs18]; exact ((l_h.sx (Or.inr (Or.inl rfl))).tr (l_h.s64 (by decide))).tr (l_h.s64 (by decide))) ?_ (by rw [g20 18 (by decide) (by decide)]; exact a5) (by rw [g20 19 (by decide) (by decide)]; exact a6) (by rw [hs20, d_si_i, d_u_t]; rfl) ?_ (by rw [g20o 70 (by decide) (by decide)]; exact a9)
    · rw [hs20, d_si_i, d_u_n (by decide), hs19, d_si_i, d_u_t]; rfl
    · have e69 : s20.1 69 = d_u (s1.1 69) (s_se l σ).length (x : Int) := by rw [hs20, d_si_n (by decide), hs19, d_si_n (by decide), hs18, d_si_i]
      rw [e69]
      exact ⟨d_u_t, Or.inl hx, l_P_set (Nat.le_refl _) a8⟩
  obtain ⟨s21, e1, e2, e3⟩ := P_next hS20.1 hp (l_y_nb (by omega))
  refine ⟨s21, ?_, w + (σ.length - (s_se l σ).length), by omega, hS20.T e3 e2⟩
  rw [if_neg (by omega), P_rank, hl, d_b_t, c1, d_b_t, a4, d_g_t (by omega), Int.toNat_natCast, d_l_t, ← hs18, g18, a4, d_w_id (by omega) (by omega), d_l_t, ← hs19, d_l_t, ← hs20, e1, d_b_t]
theorem P_bh_n (hS : l_S s0 b n p σ κ w so wh d t0 z s) (hs : σ.length ≤ 160) (htp : l_tp σ) (hy : l_y b n p = 8) : F_X12_behindOne s = if l_on σ = 42 then (if t_is b n p 44 = true then d_b2 (F_X12_nextOfNth s) (fun v5 s6 => some (v5, s6)) else F_X12_behindOne_j152 (l_on σ) s) else F_X12_behindOne_j152 (l_on σ) s := by
  rw [P_bh_top hS hs htp, P_bh_y hS.1, hy, if_pos rfl]
  unfold F_X12_behindOne_j83
  rw [if_pos (by decide), P_openNow hS.2.1.2.2.2.1 hS.2.2.1 hs, d_b_t]
  by_cases c : t_is b n p 44 = true
  · rw [if_pos (hS.1.s44.2 c), if_pos c]
  · rw [if_neg (fun e => c (hS.1.s44.1 e)), if_neg c]
theorem P_152_0 : F_X12_behindOne_j152 (-1) s = some (-1, s) := by
  unfold F_X12_behindOne_j152
  rw [if_pos rfl]
theorem P_152_no {v : Int} (hT : l_T b n p s) (hv : v ≠ -1) (h41 : ¬ t_is b n p 41 = true) : F_X12_behindOne_j152 v s = some (-1, s) := by
  unfold F_X12_behindOne_j152
  rw [if_neg hv, if_neg (fun e => h41 (hT.s41.1 e))]
theorem l_S.pop {y : Nat} (h : l_S s0 b n p (y :: σ) κ w so wh (s_opn (y :: σ)) t0 z s) (hy : 40 ≤ y) (h1 : s1.1 64 17 = (σ.length : Int)) (h2 : s1.1 64 18 = ((s_opn σ : Nat) : Int)) (h3 : ∀ k, k ≠ 17 → k ≠ 18 → s1.1 64 k = s.1 64 k) (h4 : ∀ a, a ≠ 64 → s1.1 a = s.1 a) (h5 : s1.2 = s.2) (h6 : l_h s s1) : l_S s0 b n p σ κ w so wh (s_opn σ) t0 z s1 := by
  have h' := h
  obtain ⟨hT, ⟨a1, a2, a3, a4, a5, a6, a7⟩, a8, a9, a10, a11⟩ := h
  exact l_S.g h' (fun k q1 q2 _ _ => h3 k q1 q2) (h4 68 (by decide)) (h4 67 (by decide)) (by rw [h5]) h6 h1 h2 (by rw [h3 19 (by decide) (by decide)]; exact a6) (by rw [h3 20 (by decide) (by decide)]; exact a7) (by rw [h4 69 (by decide)]; exact a8.2.2) (by rw [h4 70 (by decide)]; exact a9)
theorem s_opn_le : ∀ τ : List Nat, s_opn τ ≤ τ.length := by
  intro τ
  induction τ with
  | nil => exact Nat.le_refl _
  | cons y τ ih => simp only [s_opn, List.length_cons]; split <;> omega
theorem P_223 {ρ : List Nat} (hS : l_S s0 b n p ρ κ w so wh (s_opn ρ) t0 z s) (hp : p ≤ n) (ht : t0 ≤ 2331) (hs : ρ.length ≤ 160) (hs1 : w + ρ.length ≤ 304) (h41 : t_is b n p 41 = true) : ∃ s', F_X12_behindOne_j223 s = some (0, s') ∧ ∃ w2, w2 + (s_se 3 ρ).length ≤ w + ρ.length ∧ l_S s0 b n (t_x b n p) (s_se 3 ρ) κ w2 so wh (s_opn (s_se 3 ρ)) t0 (l_zE z (s_op 3 ρ)) s' := by
  obtain ⟨s13, c1, c2, c3⟩ := P_next hS.1 hp (t_nb2 h41 (by decide) (by decide))
  obtain ⟨s14, e1, e2⟩ := P_settle (l := 3) (by decide) ht hs hs1 rfl (hS.T c3 c2)
  have hsl := s_se_len 3 ρ
  refine ⟨s14, ?_, _, ?_, e2⟩
  · have e1' : F_X12_settle s13 3 = some s14 := e1
    unfold F_X12_behindOne_j223
    rw [c1, d_b_t, e1', d_b_t]
  · omega
theorem P_bh_cl40 {ρ : List Nat} (hS : l_S s0 b n p σ κ w so wh d t0 z s) (hp : p ≤ n) (ht : t0 ≤ 2331) (hs : σ.length ≤ 160) (hs1 : w + σ.length ≤ 304) (hdo : d = s_opn σ) (htp : l_tp σ) (hy : l_y b n p = 8) (hse : s_se 1 σ = 40 :: ρ) (h41 : t_is b n p 41 = true) : ∃ s', F_X12_behindOne s = some (0, s') ∧ ∃ w2, w2 + (s_se 3 ρ).length ≤ w + σ.length ∧ l_S s0 b n (t_x b n p) (s_se 3 ρ) κ w2 so wh (s_opn (s_se 3 ρ)) t0 (l_zE (l_zE z (s_op 1 σ)) (s_op 3 ρ)) s' := by
  have hsl := s_se_len 1 σ
  rw [hse, List.length_cons] at hsl
  have hon : l_on σ = 40 := l_on_se (by decide) hse (by decide)
  rw [P_bh_n hS hs htp hy, hon, if_neg (by decide)]
  unfold F_X12_behindOne_j152
  rw [if_neg (by decide), if_pos (hS.1.s41.2 h41)]
  obtain ⟨s7, c1, c2⟩ := P_settle (l := 1) (by decide) ht hs hs1 hdo hS
  rw [hse] at c2
  have c1' : F_X12_settle s 1 = some s7 := c1
  have h17 : s7.1 64 17 = ((ρ.length + 1 : Nat) : Int) := c2.2.1.2.2.2.1
  have h18 : s7.1 64 18 = ((s_opn ρ + 1 : Nat) : Int) := c2.2.1.2.2.2.2.1
  have hso := s_opn_le ρ
  obtain ⟨s8, hs8⟩ : ∃ z, z = d_si s7 64 17 (ρ.length : Int) := ⟨_, rfl⟩
  obtain ⟨s9, hs9⟩ : ∃ z, z = d_si s8 64 18 ((s_opn ρ : Nat) : Int) := ⟨_, rfl⟩
  have hS9 : l_S s0 b n p ρ κ (w + (σ.length - (40 :: ρ).length)) so wh (s_opn ρ) t0 (l_zE z (s_op 1 σ)) s9 := c2.pop (by decide) (by rw [hs9, d_si_i, d_u_n (by decide), hs8, d_si_i, d_u_t]) (by rw [hs9, d_si_i, d_u_t]) (fun k q1 q2 => by rw [hs9, d_si_i, d_u_n q2, hs8, d_si_i, d_u_n q1]) (fun a q => by rw [hs9, d_si_n q, hs8, d_si_n q]) (by rw [hs9, hs8]; rfl) (by rw [hs9, hs8]; exact (l_h.s64 (by decide)).tr (l_h.s64 (by decide)))
  obtain ⟨s', e1, w2, e2, e3⟩ := P_223 hS9 hp ht (by omega) (by rw [List.length_cons]; omega) h41
  refine ⟨s', ?_, w2, ?_, e3⟩
  · rw [c1', d_b_t, h17, d_w_id (by omega) (by omega), show ((ρ.length + 1 : Nat) : Int) - 1 = (ρ.length : Int) by omega, d_l_t, ← hs8, show s8.1 64 18 = s7.1 64 18 by rw [hs8, d_si_i, d_u_n (by decide)], h18, d_w_id (by omega) (by omega), show ((s_opn ρ + 1 : Nat) : Int) - 1 = ((s_opn ρ : Nat) : Int) by omega, d_l_t, ← hs9, if_neg (by decide)]
    exact e1
  · rw [List.length_cons] at e2; omega
theorem P_bh_cl42 {ρ κ0 : List Nat} {k : Nat} (hS : l_S s0 b n p σ (k :: κ0) w so wh d t0 z s) (hp : p ≤ n) (ht : t0 ≤ 2331) (hs : σ.length ≤ 160) (hs1 : w + σ.length ≤ 304) (hdo : d = s_opn σ) (htp : l_tp σ) (hy : l_y b n p = 8) (hse : s_se 1 σ = 42 :: ρ) (h41 : t_is b n p 41 = true) (hk8 : κ0.length ≤ 8) (hk : k < 8) : ∃ s', F_X12_behindOne s = some (0, s') ∧ ∃ w2, w2 + (s_se 3 ρ).length ≤ w + σ.length ∧ l_S s0 b n (t_x b n p) (s_se 3 ρ) κ0 w2 so wh (s_opn (s_se 3 ρ)) t0 (l_zE (l_zE (l_zE z (s_op 1 σ)) [(2, k)]) (s_op 3 ρ)) s' := by
  have hsl := s_se_len 1 σ
  rw [hse, List.length_cons] at hsl
  have hon : l_on σ = 42 := l_on_se (by decide) hse (by decide)
  have h44 : ¬ t_is b n p 44 = true := fun e => by have := (t_is_iff.mp e).2; have := (t_is_iff.mp h41).2; omega
  rw [P_bh_n hS hs htp hy, hon, if_pos rfl, if_neg h44]
  unfold F_X12_behindOne_j152
  rw [if_neg (by decide), if_pos (hS.1.s41.2 h41)]
  obtain ⟨s7, c1, c2⟩ := P_settle (l := 1) (by decide) ht hs hs1 hdo hS
  rw [hse] at c2
  have c1' : F_X12_settle s 1 = some s7 := c1
  have h17 : s7.1 64 17 = ((ρ.length + 1 : Nat) : Int) := c2.2.1.2.2.2.1
  have h18 : s7.1 64 18 = ((s_opn ρ + 1 : Nat) : Int) := c2.2.1.2.2.2.2.1
  have hso := s_opn_le ρ
  obtain ⟨s8, hs8⟩ : ∃ z, z = d_si s7 64 17 (ρ.length : Int) := ⟨_, rfl⟩
  obtain ⟨s9, hs9⟩ : ∃ z, z = d_si s8 64 18 ((s_opn ρ : Nat) : Int) := ⟨_, rfl⟩
  have hS9 : l_S s0 b n p ρ (k :: κ0) (w + (σ.length - (42 :: ρ).length)) so wh (s_opn ρ) t0 (l_zE z (s_op 1 σ)) s9 := c2.pop (by decide) (by rw [hs9, d_si_i, d_u_n (by decide), hs8, d_si_i, d_u_t]) (by rw [hs9, d_si_i, d_u_t]) (fun k q1 q2 => by rw [hs9, d_si_i, d_u_n q2, hs8, d_si_i, d_u_n q1]) (fun a q => by rw [hs9, d_si_n q, hs8, d_si_n q]) (by rw [hs9, hs8]; rfl) (by rw [hs9, hs8]; exact (l_h.s64 (by decide)).tr (l_h.s64 (by decide)))
  have h19 : s9.1 64 19 = ((κ0.length + 1 : Nat) : Int) := hS9.2.1.2.2.2.2.2.1
  have h70 : s9.1 70 κ0.length = (k : Int) := hS9.2.2.2.1.1
  obtain ⟨s10, hs10⟩ : ∃ z, z = d_si s9 64 19 (κ0.length : Int) := ⟨_, rfl⟩
  have g10 : ∀ j, j ≠ 19 → s10.1 64 j = s9.1 64 j := fun j q => by rw [hs10, d_si_i, d_u_n q]
  have g10o : ∀ a, a ≠ 64 → s10.1 a = s9.1 a := fun a q => by rw [hs10, d_si_n q]
  have hS10 : l_S s0 b n p ρ κ0 (w + (σ.length - (42 :: ρ).length)) so wh (s_opn ρ) t0 (l_zE z (s_op 1 σ)) s10 := by
    have hh := hS9
    obtain ⟨hT, ⟨a1, a2, a3, a4, a5, a6, a7⟩, a8, a9, a10, a11⟩ := hS9
    exact l_S.g hh (fun j _ _ q3 _ => g10 j q3) (g10o 68 (by decide)) (g10o 67 (by decide)) (by rw [hs10]; rfl) (by rw [hs10]; exact l_h.s64 (by decide)) (by rw [g10 17 (by decide)]; exact a4) (by rw [g10 18 (by decide)]; exact a5) (by rw [hs10, d_si_i, d_u_t]) (by rw [g10 20 (by decide)]; exact a7) (by rw [g10o 69 (by decide)]; exact a8) (by rw [g10o 70 (by decide)]; exact a9.2.2)
  obtain ⟨s12, f1, f2, -⟩ := P_emit hS10 (by rw [List.length_cons]; omega) ht (x := 2) (y := k) (by decide) (by omega)
  have f1' : F_X12_emit s10 2 (k : Int) = some s12 := f1
  obtain ⟨s', e1, w2, e2, e3⟩ := P_223 f2 hp ht (by omega) (by rw [List.length_cons]; omega) h41
  refine ⟨s', ?_, w2, ?_, e3⟩
  · rw [c1', d_b_t, h17, d_w_id (by omega) (by omega), show ((ρ.length + 1 : Nat) : Int) - 1 = (ρ.length : Int) by omega, d_l_t, ← hs8, show s8.1 64 18 = s7.1 64 18 by rw [hs8, d_si_i, d_u_n (by decide)], h18, d_w_id (by omega) (by omega), show ((s_opn ρ + 1 : Nat) : Int) - 1 = ((s_opn ρ : Nat) : Int) by omega, d_l_t, ← hs9, if_pos rfl, h19, d_w_id (by omega) (by omega), show ((κ0.length + 1 : Nat) : Int) - 1 = (κ0.length : Int) by omega, d_l_t, ← hs10, show s10.1 64 19 = (κ0.length : Int) by rw [hs10, d_si_i, d_u_t], d_g_t (by omega), Int.toNat_natCast, g10o 70 (by decide), h70, f1', d_b_t]
    exact e1
  · rw [List.length_cons] at e2; omega
end X9
noncomputable def l_K : d_S → Option (Int × d_S) := fun s_u9 => d_b (F_X12_openNow s_u9) (fun v10 => if v10 < 0 then d_b (F_X12_settle s_u9 1) (fun s11 => some (0, s11)) else some (1, s_u9))
def l_go (s0 : d_S) (b : Nat → Nat) (n so t0 : Nat) (Q : Option (Int × d_S) → Prop) (f0 : Nat) (T : Nat → Int) (p : Nat) (σ κ : List Nat) (wh : Bool) (X : List (Nat × Nat) → Prop) : Prop := ∀ (E : List (Nat × Nat)) (w N : Nat) (s : d_S), X E → w + σ.length ≤ p + 3 → l_S s0 b n p σ κ w so wh (s_opn σ) t0 (f0, E, T) s → n - p < N → Q (F_X12_summed_l20 l_K N s)
def l_X (Z : (Nat → Int) → List Int) (E : List (Nat × Nat)) : Prop := ∀ ν, t_bn ν → r_evo ν E [] = some (Z ν)
def l_Xp (l : Nat) (π : List Nat) (Z : (Nat → Int) → List Int) (E : List (Nat × Nat)) : Prop := ∀ ν, t_bn ν → r_evo ν (E ++ s_op l π) [] = some (Z ν)
def t_mn : List Nat → Int → Int
  | [], v => v
  | x :: σ, v => if x = 3 then t_mn σ (-v) else v
def l_fl (s0 : d_S) (b : Nat → Nat) (n so t0 : Nat) (Q : Option (Int × d_S) → Prop) (f0 : Nat) (T : Nat → Int) (r : Nat × Nat) : Prop := ∀ s : d_S, (∃ (σ κ : List Nat) (w : Nat) (wh : Bool) (d : Nat) (E : List (Nat × Nat)), l_S s0 b n r.2 σ κ w so wh d t0 (f0, E, T) s) → Q (some ((r.1 : Int), s))
def l_md (b : Nat → Nat) (n p : Nat) : Prop := t_is b n p 42 = false ∧ t_is b n p 47 = false
def l_pm (b : Nat → Nat) (n p : Nat) : Prop := t_is b n p 43 = false ∧ t_is b n p 45 = false
def l_up (l c : Nat) (π σ : List Nat) : Prop := s_se l π = σ ∧ s_opn π = s_opn σ ∧ π.length ≤ σ.length + c
section X10
variable {s0 s s1 s' : d_S} {b : Nat → Nat} {n p q w so d t0 N : Nat} {σ κ : List Nat} {wh : Bool} {z : l_zT} {x : Int} {K : d_S → Option (Int × d_S)}
theorem l_go_mono {Q : Option (Int × d_S) → Prop} {f0 : Nat} {T : Nat → Int} {X X' : List (Nat × Nat) → Prop} (hX : ∀ E, X' E → X E) (g : l_go s0 b n so t0 Q f0 T p σ κ wh X) : l_go s0 b n so t0 Q f0 T p σ κ wh X' := fun E w N s hE => g E w N s (hX E hE)
theorem t_mn_ne {x : Nat} {σ : List Nat} {v : Int} (h : x ≠ 3) : t_mn (x :: σ) v = v := by simp only [t_mn]; rw [if_neg h]
theorem t_mn_3 {σ : List Nat} {v : Int} : t_mn (3 :: σ) v = t_mn σ (-v) := by simp only [t_mn]; rw [if_pos trivial]
theorem s_op_nil {l : Nat} : ∀ {σ : List Nat}, s_se l σ = σ → s_op l σ = [] := by
  intro σ e
  have h := s_op_len l σ
  rw [e, Nat.sub_self] at h
  exact List.length_eq_zero_iff.mp h
theorem t_mn_id {l : Nat} {v : Int} (hl : l ≤ 3) : ∀ {σ : List Nat}, s_se l σ = σ → t_mn σ v = v := by
  intro σ e
  cases σ with
  | nil => rfl
  | cons x σ =>
    refine t_mn_ne (fun q => ?_)
    subst q
    have hs := s_se_len l σ
    have e2 : s_se l (3 :: σ) = s_se l σ := by simp only [s_se]; rw [if_pos (by show l ≤ 3; exact hl)]
    rw [e2] at e
    rw [e, List.length_cons] at hs
    omega
theorem s_op_se {l l2 : Nat} (hl : l ≤ l2) : ∀ σ : List Nat, s_op l σ = s_op l2 σ ++ s_op l (s_se l2 σ) := by
  intro σ
  induction σ with
  | nil => rfl
  | cons x σ ih =>
    by_cases q : l2 ≤ s_rk x
    · have e1 : s_op l (x :: σ) = (x, 0) :: s_op l σ := by simp only [s_op]; rw [if_pos (by omega)]
      have e2 : s_op l2 (x :: σ) = (x, 0) :: s_op l2 σ := by simp only [s_op]; rw [if_pos q]
      have e3 : s_se l2 (x :: σ) = s_se l2 σ := by simp only [s_se]; rw [if_pos q]
      rw [e1, e2, e3, ih]; rfl
    · have e2 : s_op l2 (x :: σ) = [] := by simp only [s_op]; rw [if_neg q]
      have e3 : s_se l2 (x :: σ) = x :: σ := by simp only [s_se]; rw [if_neg q]
      rw [e2, e3]; rfl
theorem r_evo_mn {ν : Nat → Int} {s : List Int} : ∀ {σ : List Nat} {E : List (Nat × Nat)} {v : Int}, r_evo ν E [] = some (v :: s) → r_evo ν (E ++ s_op 3 σ) [] = some (t_mn σ v :: s) := by
  intro σ
  induction σ with
  | nil => intro E v h; rw [show s_op 3 [] = [] from rfl, List.append_nil]; exact h
  | cons x σ ih =>
    intro E v h
    by_cases q : x = 3
    · subst q
      have e1 : s_op 3 (3 :: σ) = [(3, 0)] ++ s_op 3 σ := rfl
      rw [e1, ← List.append_assoc, t_mn_3]
      exact ih (r_evo_one h (by simp [r_sto]))
    · have e1 : s_op 3 (x :: σ) = [] := by
        simp only [s_op]
        rw [if_neg]
        unfold s_rk
        split
        · omega
        · split <;> omega
      rw [e1, List.append_nil, t_mn_ne q]; exact h
theorem r_sto_e1 {S : Bool} {ν : Nat → Int} {s : List Int} (hF : t_F b n S d p = 0) (ho : t_op b n p = false) : r_sto ν s (t_e1 b n p) = some ((if t_k b n p = 2 then (t_n b n p : Int) else ν (t_nu b n p)) :: s) := by
  by_cases q : t_k b n p = 2
  · rw [if_pos q, show t_e1 b n p = (0, t_n b n p) from if_pos q]
    simp [r_sto]
  · have hnm := t_nr_nm hF ho q
    rw [if_neg q, show t_e1 b n p = (1, t_nr b n p) from if_neg q]
    have h8 : t_nr b n p < 8 := t_nr_8 hnm
    simp [r_sto, h8, t_nr_nu hnm]
theorem l_up_tp {l c : Nat} {π : List Nat} (hu : l_up l c π σ) (ht : l_tp σ) (hl : 1 ≤ l) : l_tp π := by
  rintro ρ rfl
  refine ht ρ ?_
  rw [← hu.1]
  simp only [s_se]
  rw [if_neg (fun e => absurd (Nat.le_trans hl e) (by decide))]
theorem l_y_8 (h1 : l_md b n p) (h2 : l_pm b n p) : l_y b n p = 8 := by
  unfold l_y
  rw [h2.1, h2.2, h1.1, h1.2]
  rfl
theorem l_y4 (h : t_is b n p 43 = true) : l_y b n p = 4 := by unfold l_y; rw [if_pos h]
theorem l_y5 (h : t_is b n p 45 = true) : l_y b n p = 5 := by unfold l_y; rw [t_is_one h (by decide), if_neg (by decide), if_pos h]
theorem l_y6 (h : t_is b n p 42 = true) : l_y b n p = 6 := by unfold l_y; rw [t_is_one (e := 43) h (by decide), t_is_one (e := 45) h (by decide), if_neg (by decide), if_neg (by decide), if_pos h]
theorem l_y7 (h : t_is b n p 47 = true) : l_y b n p = 7 := by unfold l_y; rw [t_is_one (e := 43) h (by decide), t_is_one (e := 45) h (by decide), t_is_one (e := 42) h (by decide), if_neg (by decide), if_neg (by decide), if_neg (by decide), if_pos h]
theorem l_h0b (hS : l_S s0 b n p σ κ w so false d t0 z s) (h : F_X12_beginOne s = some (0, s1)) : F_X12_summed_l20 K (N + 1) s = F_X12_summed_l20 K N s1 := by
  show F_X12_summed_l20_b K (F_X12_summed_l20 K N) s = _
  unfold F_X12_summed_l20_b F_X12_summed_j38
  rw [hS.2.1.2.2.2.2.2.2, if_pos (by decide), h, d_b2_t, if_neg (by decide), if_pos rfl]
theorem l_hfb {e : Nat} (hS : l_S s0 b n p σ κ w so false d t0 z s) (he : e ≠ 0) (h : F_X12_beginOne s = some ((e : Int), s1)) : F_X12_summed_l20 K (N + 1) s = some ((e : Int), s1) := by
  show F_X12_summed_l20_b K (F_X12_summed_l20 K N) s = _
  unfold F_X12_summed_l20_b F_X12_summed_j38
  rw [hS.2.1.2.2.2.2.2.2, if_pos (by decide), h, d_b2_t, if_pos (by omega)]
theorem l_h0t (hS : l_S s0 b n p σ κ w so true d t0 z s) (h : F_X12_behindOne s = some (0, s1)) : F_X12_summed_l20 K (N + 1) s = F_X12_summed_l20 K N s1 := by
  show F_X12_summed_l20_b K (F_X12_summed_l20 K N) s = _
  unfold F_X12_summed_l20_b F_X12_summed_j38
  rw [hS.2.1.2.2.2.2.2.2, if_pos rfl, if_neg (by decide), h, d_b2_t, if_neg (by decide), if_pos rfl]
theorem l_hft {e : Nat} (hS : l_S s0 b n p σ κ w so true d t0 z s) (he : e ≠ 0) (h : F_X12_behindOne s = some ((e : Int), s1)) : F_X12_summed_l20 K (N + 1) s = some ((e : Int), s1) := by
  show F_X12_summed_l20_b K (F_X12_summed_l20 K N) s = _
  unfold F_X12_summed_l20_b F_X12_summed_j38
  rw [hS.2.1.2.2.2.2.2.2, if_pos rfl, if_neg (by decide), h, d_b2_t, if_pos (by omega)]
theorem l_h1t (hS : l_S s0 b n p σ κ w so true d t0 z s) (h : F_X12_behindOne s = some (-1, s1)) : F_X12_summed_l20 K (N + 1) s = K s1 := by
  show F_X12_summed_l20_b K (F_X12_summed_l20 K N) s = _
  unfold F_X12_summed_l20_b F_X12_summed_j38
  rw [hS.2.1.2.2.2.2.2.2, if_pos rfl, if_neg (by decide), h, d_b2_t, if_neg (by decide), if_neg (by decide)]
theorem l_e1 {x : Nat} {ρ : List Nat} (hS : l_S s0 b n p σ κ w so wh d t0 z s) (hs : σ.length ≤ 160) (hse : s_se 1 σ = x :: ρ) (hx : 40 ≤ x) : l_K s = some (((1 : Nat) : Int), s) := by
  unfold l_K
  rw [P_openNow hS.2.1.2.2.2.1 hS.2.2.1 hs, d_b_t, l_on_se (by decide) hse hx, if_neg (by omega)]; rfl
theorem l_e0 (hS : l_S s0 b n p σ κ w so wh d t0 z s) (ht : t0 ≤ 2331) (hs : σ.length ≤ 160) (hs1 : w + σ.length ≤ 304) (hdo : d = s_opn σ) (hse : s_se 1 σ = []) : ∃ s', l_K s = some (((0 : Nat) : Int), s') ∧ l_S s0 b n p [] κ (w + σ.length) so wh 0 t0 (l_zE z (s_op 1 σ)) s' := by
  obtain ⟨s', c1, c2⟩ := P_settle (l := 1) (by decide) ht hs hs1 hdo hS
  rw [hse] at c2
  have c1' : F_X12_settle s 1 = some s' := c1
  refine ⟨s', ?_, c2⟩
  unfold l_K
  rw [P_openNow hS.2.1.2.2.2.1 hS.2.2.1 hs, d_b_t, l_on_nil hse, if_pos (by decide), c1', d_b_t]; rfl
end X10
def l_A0 (s0 : d_S) (b : Nat → Nat) (n so t0 : Nat) (Q : Option (Int × d_S) → Prop) (f0 : Nat) (T : Nat → Int) (f : Nat) : Prop := ∀ (σ κ : List Nat) (k p : Nat) (r : Nat × Nat) (Z : (Nat → Int) → List Int), t_P b n (Nat.beq so 1) f 0 (s_opn σ) k p = r → 4 * (n - p) + 1 ≤ f → p ≤ n → σ.length ≤ 3 * s_opn σ + 2 → s_opn σ ≤ 8 → κ.length = s_nt σ → k ≠ 7 → (r.1 = 0 → p < r.2 → r.2 ≤ n → l_go s0 b n so t0 Q f0 T r.2 (s_se 3 σ) κ true (l_X (fun ν => t_mn σ (t_V b n (Nat.beq so 1) ν f 0 (s_opn σ) k p (0)) :: Z ν))) → (r.1 ≠ 0 → l_fl s0 b n so t0 Q f0 T r) → l_go s0 b n so t0 Q f0 T p σ κ false (l_X Z)
def l_A1 (s0 : d_S) (b : Nat → Nat) (n so t0 : Nat) (Q : Option (Int × d_S) → Prop) (f0 : Nat) (T : Nat → Int) (f : Nat) : Prop := ∀ (σ κ : List Nat) (k p : Nat) (r : Nat × Nat) (Z : (Nat → Int) → List Int), t_P b n (Nat.beq so 1) f 1 (s_opn σ) k p = r → 4 * (n - p) + 2 ≤ f → p ≤ n → s_se 2 σ = σ → l_tp σ → σ.length ≤ 3 * s_opn σ + 1 → s_opn σ ≤ 8 → κ.length = s_nt σ → k ≠ 7 → (r.1 = 0 → p < r.2 → r.2 ≤ n → l_md b n r.2 → ∀ π, l_up 2 1 π σ → l_go s0 b n so t0 Q f0 T r.2 π κ true (l_Xp 2 π (fun ν => t_V b n (Nat.beq so 1) ν f 1 (s_opn σ) k p (0) :: Z ν))) → (r.1 ≠ 0 → l_fl s0 b n so t0 Q f0 T r) → l_go s0 b n so t0 Q f0 T p σ κ false (l_X Z)
def l_A4 (s0 : d_S) (b : Nat → Nat) (n so t0 : Nat) (Q : Option (Int × d_S) → Prop) (f0 : Nat) (T : Nat → Int) (f : Nat) : Prop := ∀ (σ τ κ : List Nat) (p : Nat) (r : Nat × Nat) (Z : (Nat → Int) → List Int) (a : (Nat → Int) → Int), t_P b n (Nat.beq so 1) f 4 (s_opn σ) 0 p = r → 4 * (n - p) + 1 ≤ f → p ≤ n → s_se 2 σ = σ → l_tp σ → l_up 2 1 τ σ → σ.length ≤ 3 * s_opn σ + 1 → s_opn σ ≤ 8 → κ.length = s_nt σ → (r.1 = 0 → p ≤ r.2 → r.2 ≤ n → l_md b n r.2 → ∀ π, l_up 2 1 π σ → l_go s0 b n so t0 Q f0 T r.2 π κ true (l_Xp 2 π (fun ν => t_V b n (Nat.beq so 1) ν f 4 (s_opn σ) 0 p (a ν) :: Z ν))) → (r.1 ≠ 0 → l_fl s0 b n so t0 Q f0 T r) → l_go s0 b n so t0 Q f0 T p τ κ true (l_Xp 2 τ (fun ν => a ν :: Z ν))
def l_A2 (s0 : d_S) (b : Nat → Nat) (n so t0 : Nat) (Q : Option (Int × d_S) → Prop) (f0 : Nat) (T : Nat → Int) (f : Nat) : Prop := ∀ (σ κ : List Nat) (k p : Nat) (r : Nat × Nat) (Z : (Nat → Int) → List Int), t_P b n (Nat.beq so 1) f 2 (s_opn σ) k p = r → 4 * (n - p) + 3 ≤ f → p ≤ n → s_se 1 σ = σ → l_tp σ → σ.length ≤ 3 * s_opn σ → s_opn σ ≤ 8 → κ.length = s_nt σ → k ≠ 7 → (r.1 = 0 → p < r.2 → r.2 ≤ n → l_md b n r.2 → l_pm b n r.2 → ∀ π, l_up 1 2 π σ → l_go s0 b n so t0 Q f0 T r.2 π κ true (l_Xp 1 π (fun ν => t_V b n (Nat.beq so 1) ν f 2 (s_opn σ) k p (0) :: Z ν))) → (r.1 ≠ 0 → l_fl s0 b n so t0 Q f0 T r) → l_go s0 b n so t0 Q f0 T p σ κ false (l_X Z)
def l_A5 (s0 : d_S) (b : Nat → Nat) (n so t0 : Nat) (Q : Option (Int × d_S) → Prop) (f0 : Nat) (T : Nat → Int) (f : Nat) : Prop := ∀ (σ τ κ : List Nat) (p : Nat) (r : Nat × Nat) (Z : (Nat → Int) → List Int) (a : (Nat → Int) → Int), t_P b n (Nat.beq so 1) f 5 (s_opn σ) 0 p = r → 4 * (n - p) + 1 ≤ f → p ≤ n → l_md b n p → s_se 1 σ = σ → l_tp σ → l_up 1 2 τ σ → σ.length ≤ 3 * s_opn σ → s_opn σ ≤ 8 → κ.length = s_nt σ → (r.1 = 0 → p ≤ r.2 → r.2 ≤ n → l_md b n r.2 → l_pm b n r.2 → ∀ π, l_up 1 2 π σ → l_go s0 b n so t0 Q f0 T r.2 π κ true (l_Xp 1 π (fun ν => t_V b n (Nat.beq so 1) ν f 5 (s_opn σ) 0 p (a ν) :: Z ν))) → (r.1 ≠ 0 → l_fl s0 b n so t0 Q f0 T r) → l_go s0 b n so t0 Q f0 T p τ κ true (l_Xp 1 τ (fun ν => a ν :: Z ν))
def l_A6 (s0 : d_S) (b : Nat → Nat) (n so t0 : Nat) (Q : Option (Int × d_S) → Prop) (f0 : Nat) (T : Nat → Int) (f : Nat) : Prop := ∀ (ρ κ : List Nat) (k p : Nat) (r : Nat × Nat) (Z : (Nat → Int) → List Int) (c : (Nat → Int) → Int) (vs : (Nat → Int) → List Int), (∀ ν, (vs ν).length + 1 = k) → t_P b n (Nat.beq so 1) f 6 (s_opn (42 :: ρ)) k p = r → 4 * (n - p) + 4 ≤ f → p ≤ n → ρ.length + 1 ≤ 3 * (s_opn ρ + 1) → s_opn ρ + 1 ≤ 8 → κ.length = s_nt ρ → k < 7 → (r.1 = 0 → p < r.2 → r.2 ≤ n → l_go s0 b n so t0 Q f0 T r.2 (s_se 3 ρ) κ true (l_X (fun ν => t_mn ρ (t_sl (c ν) (vs ν) (t_V b n (Nat.beq so 1) ν f 6 (s_opn (42 :: ρ)) k p (c ν - ((vs ν).length : Int)))) :: Z ν))) → (r.1 ≠ 0 → l_fl s0 b n so t0 Q f0 T r) → l_go s0 b n so t0 Q f0 T p (42 :: ρ) (k :: κ) false (l_X (fun ν => (vs ν).reverse ++ c ν :: Z ν))
def l_A (s0 : d_S) (b : Nat → Nat) (n so t0 : Nat) (Q : Option (Int × d_S) → Prop) (f0 : Nat) (T : Nat → Int) (f : Nat) : Prop := l_A0 s0 b n so t0 Q f0 T f ∧ l_A1 s0 b n so t0 Q f0 T f ∧ l_A4 s0 b n so t0 Q f0 T f ∧ l_A2 s0 b n so t0 Q f0 T f ∧ l_A5 s0 b n so t0 Q f0 T f ∧ l_A6 s0 b n so t0 Q f0 T f

def v_S (s : d_S) (N : Nat) (sg : Nat → Nat → Nat) : Prop := s.1 3 3 = N ∧ N ≤ 12 ∧ ∀ n, n < N → ∀ k, k < 6 → s.1 4 (6 * n + k) = sg n k ∧ sg n k ≤ 9
def v_Q (s : d_S) (u v W H : Nat) : Prop := s.1 37 5 = ((v_bl u v : Nat) : Int) ∧ v_P s u v W H (v_bl u v) ∧ v_bl u v ≤ 64 ∧ W ≤ 8 ∧ H ≤ 8
theorem v_0shl {k : Nat} (hk : k < 31) : d_shl 0 (k : Int) = 0 := by
  have := v_shl (x := 0) hk (by omega)
  rw [Nat.zero_mul] at this
  exact this
theorem v_bit1_ : F_X11_bit 1 = some 1 := by rw [P_bit, v_bt (by decide)]
theorem v_bit0_ : F_X11_bit 0 = some 0 := by rw [P_bit, v_bf (by decide)]
theorem v_bcnt_ : ∀ a : Nat, a < 64 → ∀ b : Nat, b < 64 → F_J6_bitCount_0f7a4 ((64 * a + b : Nat) : Int) = some ((v_pc (64 * a + b) 12 : Nat) : Int) := by decide +kernel
theorem P_bitCount {n : Nat} (hn : n < 4096) : F_J6_bitCount_0f7a4 (n : Int) = some ((v_pc n 12 : Nat) : Int) := by
  have := v_bcnt_ (n / 64) (by omega) (n % 64) (by omega)
  rw [show 64 * (n / 64) + n % 64 = n by omega] at this
  exact this
section V5
variable {s : d_S} {u v W H b N n : Nat} {sg : Nat → Nat → Nat}
theorem P_sightPart (hS : v_S s N sg) (hn : n < N) {k : Int} (h0 : 0 ≤ k) (hk : k < 6) : F_X9_sightPart_3 s (n : Int) k = some ((sg n k.toNat : Nat) : Int) := by
  obtain ⟨-, h12, h⟩ := hS
  unfold F_X9_sightPart_3
  rw [d_w_id (by omega) (by omega), if_neg (by omega), if_pos (by omega), d_g_t (by omega), show ((n : Int) * 6 + k).toNat = 6 * n + k.toNat by omega, (h n hn k.toNat (by omega)).1]
theorem v_S.le (hS : v_S s N sg) (hn : n < N) {k : Nat} (hk : k < 6) : sg n k ≤ 9 := (hS.2.2 n hn k hk).2
theorem P_isSightC (hS : v_S s N sg) {x : Int} : F_X11_isSight s x = some (v_b (0 ≤ x ∧ x < (N : Int))) := by
  obtain ⟨h0, h12, -⟩ := hS
  unfold F_X11_isSight
  rw [h0, d_w_id (by omega) (by omega), P_within, d_b_t]
  exact congrArg some (v_bc (by omega))
theorem P_isBlockC (hQ : v_Q s u v W H) {x : Int} : F_X11_isBlock s x = some (v_b (0 ≤ x ∧ x < ((v_bl u v : Nat) : Int))) := by
  obtain ⟨h0, -, h64, -⟩ := hQ
  unfold F_X11_isBlock
  rw [h0, d_w_id (by omega) (by omega), P_within, d_b_t]
  exact congrArg some (v_bc (by omega))
theorem P_leftOfC (hQ : v_Q s u v W H) (hb : b < v_bl u v) : F_X4_leftOf s (b : Int) = some ((v_lf u b : Nat) : Int) := by
  have h64 := hQ.2.2.1
  unfold F_X4_leftOf F_X4_partOf_38
  rw [if_neg (by omega), if_pos (by omega), d_g_t (by omega), Int.toNat_natCast, (hQ.2.1 b hb).1, d_b_t]
theorem P_topOfC (hQ : v_Q s u v W H) (hb : b < v_bl u v) : F_X4_topOf s (b : Int) = some ((v_up u v b : Nat) : Int) := by
  have h64 := hQ.2.2.1
  unfold F_X4_topOf F_X4_partOf_39
  rw [if_neg (by omega), if_pos (by omega), d_g_t (by omega), Int.toNat_natCast, (hQ.2.1 b hb).2.1, d_b_t]
theorem P_part40 (hQ : v_Q s u v W H) (hb : b < v_bl u v) : F_X4_partOf_40 s (b : Int) = some ((v_wd u W b : Nat) : Int) := by
  have h64 := hQ.2.2.1
  unfold F_X4_partOf_40
  rw [if_neg (by omega), if_pos (by omega), d_g_t (by omega), Int.toNat_natCast, (hQ.2.1 b hb).2.2.1]
theorem P_part41 (hQ : v_Q s u v W H) (hb : b < v_bl u v) : F_X4_partOf_41 s (b : Int) = some ((v_hg u v H b : Nat) : Int) := by
  have h64 := hQ.2.2.1
  unfold F_X4_partOf_41
  rw [if_neg (by omega), if_pos (by omega), d_g_t (by omega), Int.toNat_natCast, (hQ.2.1 b hb).2.2.2.1]
theorem P_wideOfC (hQ : v_Q s u v W H) (hb : b < v_bl u v) : F_X4_wideOf s (b : Int) = some ((v_wd u W b : Nat) : Int) := by
  unfold F_X4_wideOf
  rw [P_part40 hQ hb, d_b_t]
theorem P_highOfC (hQ : v_Q s u v W H) (hb : b < v_bl u v) : F_X4_highOf s (b : Int) = some ((v_hg u v H b : Nat) : Int) := by
  unfold F_X4_highOf
  rw [P_part41 hQ hb, d_b_t]
theorem P_edgeOfC (hQ : v_Q s u v W H) (hb : b < v_bl u v) : F_X4_edgeOf s (b : Int) = some ((v_ed u v W H b : Nat) : Int) := by
  have h64 := hQ.2.2.1
  unfold F_X4_edgeOf F_X4_partOf_42
  rw [if_neg (by omega), if_pos (by omega), d_g_t (by omega), Int.toNat_natCast, (hQ.2.1 b hb).2.2.2.2, d_b_t]
def v_sz (u v W H b : Nat) : Nat := v_wd u W b * v_hg u v H b
theorem v_sz_le (hW : W ≤ 8) (hH : H ≤ 8) : v_sz u v W H b ≤ 64 := Nat.mul_le_mul (Nat.le_trans (v_ln_le W) hW) (Nat.le_trans (v_ln_le H) hH)
theorem P_sizeOfC (hQ : v_Q s u v W H) (hb : b < v_bl u v) : F_X4_sizeOf s (b : Int) = some ((v_sz u v W H b : Nat) : Int) := by
  have hz := v_sz_le (u := u) (v := v) (b := b) hQ.2.2.2.1 hQ.2.2.2.2
  unfold F_X4_sizeOf
  rw [P_part40 hQ hb, d_b_t, P_part41 hQ hb, d_b_t, ← Int.natCast_mul]
  show some (d_w ((v_sz u v W H b : Nat) : Int)) = _
  rw [d_w_id (by omega) (by omega)]
theorem P_cellsOfC (hQ : v_Q s u v W H) (hS : v_S s N sg) (hb : b < v_bl u v) (hn : n < N) : F_X4_cellsOf_3 s (n : Int) (b : Int) = some ((v_ce sg u v W H n b : Nat) : Int) := by
  obtain ⟨h0, hP, h64, hW, hH⟩ := hQ
  obtain ⟨p1, p2, p3, p4, -⟩ := hP b hb
  have k1 : v_lf u b ≤ 7 := v_bg_le
  have k2 : v_up u v b ≤ 7 := v_bg_le
  have k3 : v_wd u W b ≤ W := v_ln_le W
  have k4 : v_hg u v H b ≤ H := v_ln_le H
  have s1 := hS.le hn (k := 1) (by decide)
  have s2 := hS.le hn (k := 2) (by decide)
  have s3 := hS.le hn (k := 3) (by decide)
  have s4 := hS.le hn (k := 4) (by decide)
  have g1 := P_sightPart hS hn (k := 1) (by decide) (by decide)
  have g2 := P_sightPart hS hn (k := 2) (by decide) (by decide)
  have g3 := P_sightPart hS hn (k := 3) (by decide) (by decide)
  have g4 := P_sightPart hS hn (k := 4) (by decide) (by decide)
  have hg : 0 ≤ (b : Int) ∧ (b : Int) < 64 := by omega
  have e1 : (1 : Int).toNat = 1 := rfl
  have e2 : (2 : Int).toNat = 2 := rfl
  have e3 : (3 : Int).toNat = 3 := rfl
  have e4 : (4 : Int).toNat = 4 := rfl
  rw [e1] at g1
  rw [e2] at g2
  rw [e3] at g3
  rw [e4] at g4
  unfold F_X4_cellsOf_3
  rw [if_neg (by omega), if_pos (by omega)]
  simp only [g1, g2, g3, g4, d_b_t, d_g_t hg, Int.toNat_natCast, p1, p2, p3, p4, P_min, P_max]
  simp (disch := omega) only [d_w_id]
  unfold v_ce v_cm
  by_cases q1 : 0 < min ((sg n 1 : Int) + (sg n 3 : Int)) ((v_lf u b : Int) + (v_wd u W b : Int)) - max (sg n 1 : Int) (v_lf u b : Int)
  · rw [if_pos q1]
    by_cases q2 : 0 < min ((sg n 2 : Int) + (sg n 4 : Int)) ((v_up u v b : Int) + (v_hg u v H b : Int)) - max (sg n 2 : Int) (v_up u v b : Int)
    · rw [if_pos q2]
      have z1 : min ((sg n 1 : Int) + (sg n 3 : Int)) ((v_lf u b : Int) + (v_wd u W b : Int)) - max (sg n 1 : Int) (v_lf u b : Int) = ((min (sg n 1 + sg n 3) (v_lf u b + v_wd u W b) - max (sg n 1) (v_lf u b) : Nat) : Int) := by omega
      have z2 : min ((sg n 2 : Int) + (sg n 4 : Int)) ((v_up u v b : Int) + (v_hg u v H b : Int)) - max (sg n 2 : Int) (v_up u v b : Int) = ((min (sg n 2 + sg n 4) (v_up u v b + v_hg u v H b) - max (sg n 2) (v_up u v b) : Nat) : Int) := by omega
      rw [z1, z2, ← Int.natCast_mul]
      have hle : (min (sg n 1 + sg n 3) (v_lf u b + v_wd u W b) - max (sg n 1) (v_lf u b)) * (min (sg n 2 + sg n 4) (v_up u v b + v_hg u v H b) - max (sg n 2) (v_up u v b)) ≤ 9 * 9 := Nat.mul_le_mul (by omega) (by omega)
      rw [d_w_id (by omega) (by omega)]
    · rw [if_neg q2]
      have z2 : min (sg n 2 + sg n 4) (v_up u v b + v_hg u v H b) - max (sg n 2) (v_up u v b) = 0 := by omega
      rw [z2, Nat.mul_zero]; rfl
  · rw [if_neg q1]
    have z1 : min (sg n 1 + sg n 3) (v_lf u b + v_wd u W b) - max (sg n 1) (v_lf u b) = 0 := by omega
    rw [z1, Nat.zero_mul]; rfl
theorem v_ceC_le (hS : v_S s N sg) (hn : n < N) : v_ce sg u v W H n b ≤ 81 :=
  Nat.mul_le_mul (Nat.le_trans v_cm_le (hS.le hn (k := 3) (by decide))) (Nat.le_trans v_cm_le (hS.le hn (k := 4) (by decide)))
theorem v_sightsC (hQ : v_Q s u v W H) (hS : v_S s N sg) (hb : b < v_bl u v) : ∀ j k m : Nat, k + j = N → j < m → F_X4_sightsIn_3_l5 s m (b : Int) (v_sb (fun n => 0 < v_ce sg u v W H n b) k : Nat) (k : Nat) = some ((v_si sg u v W H N b : Nat) : Int) := by
  intro j
  induction j with
  | zero =>
    intro k m hk hm
    obtain ⟨m, rfl⟩ : ∃ q, m = q + 1 := ⟨m - 1, by omega⟩
    have hk : k = N := by omega
    subst hk
    show F_X4_sightsIn_3_l5_b s (F_X4_sightsIn_3_l5 s m) _ _ _ = _
    unfold F_X4_sightsIn_3_l5_b
    rw [hS.1, if_neg (by omega)]
    rfl
  | succ j ih =>
    intro k m hk hm
    obtain ⟨m, rfl⟩ : ∃ q, m = q + 1 := ⟨m - 1, by omega⟩
    have h12 := hS.2.1
    have h1 := ih (k + 1) m (by omega) (by omega)
    have h2 := v_sb12 (P := fun n => 0 < v_ce sg u v W H n b) (k := k) (by omega)
    show F_X4_sightsIn_3_l5_b s (F_X4_sightsIn_3_l5 s m) _ _ _ = _
    unfold F_X4_sightsIn_3_l5_b
    rw [hS.1, if_pos (by omega), P_cellsOfC hQ hS hb (by omega), d_b_t, v_bit1_, v_bit0_, d_b_t, d_b_t]
    simp only [v_sb] at h1
    by_cases q : 0 < v_ce sg u v W H k b
    · rw [if_pos q] at h1
      rw [if_pos (by omega), v_or1 (by omega) (v_sb_lt k), d_w_id (by omega) (by omega)]
      exact h1
    · rw [if_neg q] at h1
      rw [if_neg (by omega), v_0shl (by omega), v_or0 ⟨by omega, by omega⟩, d_w_id (by omega) (by omega)]
      exact h1
theorem P_sightsInC (hQ : v_Q s u v W H) (hS : v_S s N sg) (hb : b < v_bl u v) : F_X4_sightsIn_3 s (b : Int) = some ((v_si sg u v W H N b : Nat) : Int) :=
  v_sightsC hQ hS hb N 0 d_N (Nat.zero_add N) (by rw [d_N_is]; have := hS.2.1; omega)
theorem v_kindsC (hQ : v_Q s u v W H) (hS : v_S s N sg) (hb : b < v_bl u v) : ∀ j k m : Nat, k + j = N → j < m → F_X4_kindsIn_3_l5 s m (b : Int) (v_ks (fun n => 0 < v_ce sg u v W H n b) (fun n => sg n 0) k : Nat) (k : Nat) = some ((v_ks (fun n => 0 < v_ce sg u v W H n b) (fun n => sg n 0) N : Nat) : Int) := by
  intro j
  induction j with
  | zero =>
    intro k m hk hm
    obtain ⟨m, rfl⟩ : ∃ q, m = q + 1 := ⟨m - 1, by omega⟩
    have hk : k = N := by omega
    subst hk
    show F_X4_kindsIn_3_l5_b s (F_X4_kindsIn_3_l5 s m) _ _ _ = _
    unfold F_X4_kindsIn_3_l5_b
    rw [hS.1, if_neg (by omega)]
  | succ j ih =>
    intro k m hk hm
    obtain ⟨m, rfl⟩ : ∃ q, m = q + 1 := ⟨m - 1, by omega⟩
    have h12 := hS.2.1
    have h1 := ih (k + 1) m (by omega) (by omega)
    have h3 := v_ks_lt (P := fun n => 0 < v_ce sg u v W H n b) (g := fun n => sg n 0) k (fun j hj => by have := hS.le (n := j) (by omega) (k := 0) (by decide); omega)
    have h4 := hS.le (n := k) (by omega) (k := 0) (by decide)
    show F_X4_kindsIn_3_l5_b s (F_X4_kindsIn_3_l5 s m) _ _ _ = _
    unfold F_X4_kindsIn_3_l5_b
    rw [hS.1, if_pos (by omega), P_cellsOfC hQ hS hb (by omega), d_b_t, v_bit1_, v_bit0_, d_b_t, d_b_t, P_sightPart hS (by omega) (by decide) (by decide), d_b_t, d_b_t]
    simp only [v_ks] at h1
    by_cases q : 0 < v_ce sg u v W H k b
    · rw [if_pos q] at h1
      rw [if_pos (by omega)]
      show F_X4_kindsIn_3_l5 s m _ (d_or _ (d_shl 1 ((sg k 0 : Nat) : Int))) _ = _
      rw [v_or2 (by omega) (by omega), d_w_id (by omega) (by omega)]
      exact h1
    · rw [if_neg q] at h1
      rw [if_neg (by omega)]
      show F_X4_kindsIn_3_l5 s m _ (d_or _ (d_shl 0 ((sg k 0 : Nat) : Int))) _ = _
      rw [v_0shl (by omega), v_or0 ⟨by omega, by omega⟩, d_w_id (by omega) (by omega)]
      exact h1
theorem P_kindsInC (hQ : v_Q s u v W H) (hS : v_S s N sg) (hb : b < v_bl u v) : F_X4_kindsIn_3 s (b : Int) = some ((v_ks (fun n => 0 < v_ce sg u v W H n b) (fun n => sg n 0) N : Nat) : Int) :=
  v_kindsC hQ hS hb N 0 d_N (Nat.zero_add N) (by rw [d_N_is]; have := hS.2.1; omega)
end V5

def v_cm (a l c m : Nat) : Nat := min (a + l) (c + m) - max a c
def v_Z (A : Nat → Int) (N : Nat) (sg : Nat → Nat → Nat) : Prop := A 0 = N ∧ N ≤ 12 ∧ ∀ n, n < N → ∀ k, k < 6 → A (212 + 6 * n + k) = sg n k ∧ sg n k ≤ 9
def v_ce (sg : Nat → Nat → Nat) (u v W H n b : Nat) : Nat := v_cm (sg n 1) (sg n 3) (v_lf u b) (v_wd u W b) * v_cm (sg n 2) (sg n 4) (v_up u v b) (v_hg u v H b)
def v_sb (P : Nat → Prop) [DecidablePred P] : Nat → Nat
  | 0 => 0
  | k + 1 => if P k then v_sb P k + 2 ^ k else v_sb P k
def v_ks (P : Nat → Prop) [DecidablePred P] (g : Nat → Nat) : Nat → Nat
  | 0 => 0
  | k + 1 => if P k then v_ks P g k ||| 2 ^ g k else v_ks P g k
theorem v_sb_lt {P : Nat → Prop} [DecidablePred P] : ∀ k, v_sb P k < 2 ^ k := by
  intro k
  induction k with
  | zero => exact Nat.one_pos
  | succ k ih =>
    simp only [v_sb]
    rw [Nat.pow_succ]
    split <;> omega
theorem v_sb12 {P : Nat → Prop} [DecidablePred P] {k : Nat} (h : k ≤ 12) : v_sb P k < 4096 :=
  Nat.lt_of_lt_of_le (v_sb_lt k) (Nat.pow_le_pow_right (show 0 < 2 by decide) h)
theorem v_ks_lt {P : Nat → Prop} [DecidablePred P] {g : Nat → Nat} : ∀ k, (∀ j, j < k → g j < 10) → v_ks P g k < 1024 := by
  intro k
  induction k with
  | zero => intro _; exact Nat.lt_of_lt_of_le Nat.zero_lt_one (by decide)
  | succ k ih =>
    intro hg
    have h1 := ih (fun j hj => hg j (by omega))
    have h2 := hg k (by omega)
    simp only [v_ks]
    split
    · exact Nat.or_lt_two_pow (n := 10) h1 (Nat.pow_lt_pow_right (by decide) h2)
    · exact h1
theorem v_or2 {x g : Nat} (hx : x < 2147483648) (hg : g < 31) : d_or (x : Int) (d_shl 1 (g : Int)) = ((x ||| 2 ^ g : Nat) : Int) := by
  rw [v_1shl hg, v_or hx (Nat.pow_lt_pow_right (show 1 < 2 by decide) hg)]
section V2
variable {s : d_S} {u v W H b N n : Nat} {sg : Nat → Nat → Nat} {A : Nat → Int}
theorem P_common {a l c m : Nat} (ha : a < 100) (hl : l < 100) (hc : c < 100) (hm : m < 100) : F_X12_common (a : Int) (l : Int) (c : Int) (m : Int) = some ((v_cm a l c m : Nat) : Int) := by
  simp (disch := omega) only [F_X12_common, F_X12_common_j10, F_X12_common_j30, d_w_id]
  unfold v_cm
  split <;> split <;> split <;> congr 1 <;> omega
theorem P_sightOf (hZ : v_Z (s.1 65) N sg) (hn : n < N) {k : Nat} (hk : k < 6) : F_X12_sightOf s (n : Int) (k : Int) = some ((sg n k : Nat) : Int) := by
  obtain ⟨-, h12, h⟩ := hZ
  unfold F_X12_sightOf
  rw [d_w_id (by omega) (by omega), d_g_t (by omega), show ((212 : Int) + 6 * (n : Int) + (k : Int)).toNat = 212 + 6 * n + k by omega, (h n hn k hk).1]
theorem P_sightO {k : Int} (hZ : v_Z (s.1 65) N sg) (hn : n < N) (h0 : 0 ≤ k) (hk : k < 6) : F_X12_sightOf s (n : Int) k = some ((sg n k.toNat : Nat) : Int) := by
  have := P_sightOf hZ hn (k := k.toNat) (by omega)
  rw [show ((k.toNat : Nat) : Int) = k by omega] at this
  exact this
theorem v_Z.le (hZ : v_Z A N sg) (hn : n < N) {k : Nat} (hk : k < 6) : sg n k ≤ 9 := (hZ.2.2 n hn k hk).2
theorem P_isSight (hZ : v_Z (s.1 65) N sg) {x : Int} : F_X12_isSight s x = some (v_b (0 ≤ x ∧ x < (N : Int))) := by
  obtain ⟨h0, h12, -⟩ := hZ
  unfold F_X12_isSight
  rw [h0, d_w_id (by omega) (by omega), P_isIn, d_b_t]
  exact congrArg some (v_bc (by omega))
theorem P_areaOf (hZ : v_Z (s.1 65) N sg) (hn : n < N) : F_X12_areaOf s (n : Int) = some ((sg n 3 * sg n 4 : Nat) : Int) := by
  have h3 := hZ.le hn (k := 3) (by decide)
  have h4 := hZ.le hn (k := 4) (by decide)
  have hm : sg n 3 * sg n 4 ≤ 9 * 9 := Nat.mul_le_mul h3 h4
  unfold F_X12_areaOf
  rw [P_sightO hZ hn (by decide) (by decide), d_b_t, P_sightO hZ hn (by decide) (by decide), d_b_t]
  show some (d_w (((sg n 3 : Nat) : Int) * ((sg n 4 : Nat) : Int))) = _
  rw [← Int.natCast_mul, d_w_id (by omega) (by omega)]
theorem v_cm_le {a l c m : Nat} : v_cm a l c m ≤ l := by unfold v_cm; omega
theorem v_ce_le (hZ : v_Z A N sg) (hn : n < N) : v_ce sg u v W H n b ≤ 81 :=
  Nat.mul_le_mul (Nat.le_trans v_cm_le (hZ.le hn (k := 3) (by decide))) (Nat.le_trans v_cm_le (hZ.le hn (k := 4) (by decide)))
theorem P_cellsIn (hG : v_G (s.1 65) u v W H) (hZ : v_Z (s.1 65) N sg) (hb : b < v_bl u v) (hn : n < N) : F_X12_cellsIn s (n : Int) (b : Int) = some ((v_ce sg u v W H n b : Nat) : Int) := by
  have k1 : v_lf u b ≤ 7 := v_bg_le
  have k2 : v_up u v b ≤ 7 := v_bg_le
  have k3 : v_wd u W b ≤ W := v_ln_le W
  have k4 : v_hg u v H b ≤ H := v_ln_le H
  have s1 := hZ.le hn (k := 1) (by decide)
  have s2 := hZ.le hn (k := 2) (by decide)
  have s3 := hZ.le hn (k := 3) (by decide)
  have s4 := hZ.le hn (k := 4) (by decide)
  have hW := hG.2.2.2.1
  have hH := hG.2.2.2.2.1
  have hc := v_ce_le (u := u) (v := v) (W := W) (H := H) (b := b) hZ hn
  unfold F_X12_cellsIn
  rw [P_sightO hZ hn (by decide) (by decide), d_b_t, P_sightO hZ hn (by decide) (by decide), d_b_t, P_leftOf hG hb, d_b_t, P_wideOf hG hb, d_b_t, P_common (by show sg n 1 < 100; omega) (by show sg n 3 < 100; omega) (by omega) (by omega), d_b_t, P_sightO hZ hn (by decide) (by decide), d_b_t, P_sightO hZ hn (by decide) (by decide), d_b_t, P_upperOf hG hb, d_b_t, P_highOf hG hb, d_b_t, P_common (by show sg n 2 < 100; omega) (by show sg n 4 < 100; omega) (by omega) (by omega), d_b_t, ← Int.natCast_mul]
  show some (d_w ((v_ce sg u v W H n b : Nat) : Int)) = _
  rw [d_w_id (by omega) (by omega)]
def v_si (sg : Nat → Nat → Nat) (u v W H N b : Nat) : Nat := v_sb (fun n => 0 < v_ce sg u v W H n b) N
def v_ki (sg : Nat → Nat → Nat) (u v W H N b : Nat) : Nat := v_pc (v_ks (fun n => 0 < v_ce sg u v W H n b) (fun n => sg n 0) N) 12
theorem v_sightsl (hG : v_G (s.1 65) u v W H) (hZ : v_Z (s.1 65) N sg) (hb : b < v_bl u v) : ∀ j k m : Nat, k + j = N → j < m → F_X12_sightsIn_l4 s m (b : Int) (v_sb (fun n => 0 < v_ce sg u v W H n b) k : Nat) (k : Nat) = some ((v_si sg u v W H N b : Nat) : Int) := by
  intro j
  induction j with
  | zero =>
    intro k m hk hm
    obtain ⟨m, rfl⟩ : ∃ q, m = q + 1 := ⟨m - 1, by omega⟩
    have hk : k = N := by omega
    subst hk
    show F_X12_sightsIn_l4_b s (F_X12_sightsIn_l4 s m) _ _ _ = _
    unfold F_X12_sightsIn_l4_b
    rw [hZ.1, if_neg (by omega)]
    rfl
  | succ j ih =>
    intro k m hk hm
    obtain ⟨m, rfl⟩ : ∃ q, m = q + 1 := ⟨m - 1, by omega⟩
    have h12 := hZ.2.1
    have h1 := ih (k + 1) m (by omega) (by omega)
    have h2 := v_sb12 (P := fun n => 0 < v_ce sg u v W H n b) (k := k) (by omega)
    show F_X12_sightsIn_l4_b s (F_X12_sightsIn_l4 s m) _ _ _ = _
    unfold F_X12_sightsIn_l4_b
    rw [hZ.1, if_pos (by omega), P_cellsIn hG hZ hb (by omega), d_b_t]
    simp only [v_sb] at h1
    by_cases q : 0 < v_ce sg u v W H k b
    · rw [if_pos q] at h1
      rw [if_pos (by omega), v_or1 (by omega) (v_sb_lt k), d_w_id (by omega) (by omega)]
      exact h1
    · rw [if_neg q] at h1
      rw [if_neg (by omega), v_or0 ⟨by omega, by omega⟩, d_w_id (by omega) (by omega)]
      exact h1
theorem P_sightsIn (hG : v_G (s.1 65) u v W H) (hZ : v_Z (s.1 65) N sg) (hb : b < v_bl u v) : F_X12_sightsIn s (b : Int) = some ((v_si sg u v W H N b : Nat) : Int) :=
  v_sightsl hG hZ hb N 0 d_N (Nat.zero_add N) (by rw [d_N_is]; have := hZ.2.1; omega)
theorem v_kindsl (hG : v_G (s.1 65) u v W H) (hZ : v_Z (s.1 65) N sg) (hb : b < v_bl u v) {K : Int → Option Int} : ∀ j k m : Nat, k + j = N → j < m → F_X12_kindsIn_l4 s K m (b : Int) (v_ks (fun n => 0 < v_ce sg u v W H n b) (fun n => sg n 0) k : Nat) (k : Nat) = K ((v_ks (fun n => 0 < v_ce sg u v W H n b) (fun n => sg n 0) N : Nat) : Int) := by
  intro j
  induction j with
  | zero =>
    intro k m hk hm
    obtain ⟨m, rfl⟩ : ∃ q, m = q + 1 := ⟨m - 1, by omega⟩
    have hk : k = N := by omega
    subst hk
    show F_X12_kindsIn_l4_b s K (F_X12_kindsIn_l4 s K m) _ _ _ = _
    unfold F_X12_kindsIn_l4_b
    rw [hZ.1, if_neg (by omega)]
  | succ j ih =>
    intro k m hk hm
    obtain ⟨m, rfl⟩ : ∃ q, m = q + 1 := ⟨m - 1, by omega⟩
    have h12 := hZ.2.1
    have h1 := ih (k + 1) m (by omega) (by omega)
    have h3 := v_ks_lt (P := fun n => 0 < v_ce sg u v W H n b) (g := fun n => sg n 0) k (fun j hj => by have := hZ.le (n := j) (by omega) (k := 0) (by decide); omega)
    have h4 := hZ.le (n := k) (by omega) (k := 0) (by decide)
    show F_X12_kindsIn_l4_b s K (F_X12_kindsIn_l4 s K m) _ _ _ = _
    unfold F_X12_kindsIn_l4_b
    rw [hZ.1, if_pos (by omega), P_cellsIn hG hZ hb (by omega), d_b_t]
    simp only [v_ks] at h1
    by_cases q : 0 < v_ce sg u v W H k b
    · rw [if_pos q] at h1
      rw [if_pos (by omega), P_sightO hZ (by omega) (by decide) (by decide), d_b_t]
      show F_X12_kindsIn_l4 s K m _ (d_or _ (d_shl 1 ((sg k 0 : Nat) : Int))) _ = _
      rw [v_or2 (by omega) (by omega), d_w_id (by omega) (by omega)]
      exact h1
    · rw [if_neg q] at h1
      rw [if_neg (by omega), v_or0 ⟨by omega, by omega⟩, d_w_id (by omega) (by omega)]
      exact h1
theorem P_kindsIn (hG : v_G (s.1 65) u v W H) (hZ : v_Z (s.1 65) N sg) (hb : b < v_bl u v) : F_X12_kindsIn s (b : Int) = some ((v_ki sg u v W H N b : Nat) : Int) := by
  have h3 := v_ks_lt (P := fun n => 0 < v_ce sg u v W H n b) (g := fun n => sg n 0) N (fun j hj => by have := hZ.le hj (k := 0) (by decide); omega)
  unfold F_X12_kindsIn
  refine (v_kindsl hG hZ hb N 0 d_N (Nat.zero_add N) (by rw [d_N_is]; have := hZ.2.1; omega)).trans ?_
  rw [P_bits (by omega), d_b_t]
  rfl
end V2

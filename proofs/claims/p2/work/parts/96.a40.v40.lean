section V40
variable {s : d_S} {t : Nat → Option p_C} {n : Nat} {B : Nat → Int}
def v_bd (s : d_S) (n : Nat) (B : Nat → Int) : Prop := s.1 14 2 = n ∧ s.1 65 6 = n ∧ n ≤ 8 ∧ (∀ j, j < n → s.1 15 (4 * j) = B j ∧ s.1 65 (331 + j) = B j ∧ 0 ≤ B j ∧ B j ≤ 999)
theorem v_R.bids (h : v_R t s) : ∃ n B, v_bd s n B := by
  obtain ⟨hW, hI, -⟩ := h
  obtain ⟨-, -, -, ⟨c1, c2⟩, -⟩ := hW.2.2.2
  have c1 : s.1 14 2 = s.1 65 6 := c1
  obtain ⟨-, -, -, -, k6, -, -, -, -, q6, -⟩ := hI.2.2.1
  refine ⟨(s.1 65 6).toNat, fun j => s.1 65 (331 + j), by omega, by omega, by omega, fun j hj => ⟨c2 j (by omega), rfl, q6 j (by omega)⟩⟩
theorem P_part14 (h : v_bd s n B) {j : Nat} (hj : j < n) : F_X8_part_14 s (j : Int) 0 = some (B j) := by
  obtain ⟨h1, h2, h8, h3⟩ := h
  unfold F_X8_part_14
  have e : d_w ((j : Int) * 4 + 0) = ((4 * j : Nat) : Int) := by rw [d_w_id (by omega) (by omega)]; omega
  rw [e, if_neg (by omega), if_pos (by omega), d_g_t (by omega), Int.toNat_natCast, (h3 j hj).1]
theorem v_winl (h : v_bd s n B) : ∀ (j k m m' : Nat), (k + j = n ∨ n ≤ k ∧ j = 0) → j < m → j < m' → ∀ b, b < n → ∃ r, r < n ∧ F_X11_winner_l4 s m (b : Int) (k : Int) = some (r : Int) ∧ F_X12_winner_l4 s m' (b : Int) (k : Int) = some (r : Int) := by
  have h' := h
  obtain ⟨h1, h2, h8, h3⟩ := h'
  intro j
  induction j with
  | zero =>
    intro k m m' hk hm hm' b hb
    obtain ⟨m, rfl⟩ : ∃ q, m = q + 1 := ⟨m - 1, by omega⟩
    obtain ⟨m', rfl⟩ : ∃ q, m' = q + 1 := ⟨m' - 1, by omega⟩
    refine ⟨b, hb, ?_, ?_⟩
    · show F_X11_winner_l4_b s (F_X11_winner_l4 s m) _ _ = _
      unfold F_X11_winner_l4_b
      rw [h1, if_neg (by omega)]
    · show F_X12_winner_l4_b s (F_X12_winner_l4 s m') _ _ = _
      unfold F_X12_winner_l4_b
      rw [h2, if_neg (by omega)]
  | succ j ih =>
    intro k m m' hk hm hm' b hb
    obtain ⟨m, rfl⟩ : ∃ q, m = q + 1 := ⟨m - 1, by omega⟩
    obtain ⟨m', rfl⟩ : ∃ q, m' = q + 1 := ⟨m' - 1, by omega⟩
    have hkn : k < n := by omega
    have hk1 : d_w ((k : Int) + 1) = ((k + 1 : Nat) : Int) := by rw [d_w_id (by omega) (by omega)]; rfl
    have eb : d_w (331 + (b : Int)) = ((331 + b : Nat) : Int) := by rw [d_w_id (by omega) (by omega)]; omega
    have ek : d_w (331 + (k : Int)) = ((331 + k : Nat) : Int) := by rw [d_w_id (by omega) (by omega)]; omega
    show ∃ r, r < n ∧ F_X11_winner_l4_b s (F_X11_winner_l4 s m) _ _ = _ ∧ F_X12_winner_l4_b s (F_X12_winner_l4 s m') _ _ = _
    unfold F_X11_winner_l4_b F_X12_winner_l4_b
    have hp : (k : Int) < (n : Int) := by omega
    rw [h1, h2, if_pos hp, if_pos hp, P_part14 h hkn, d_b_t, P_part14 h hb, d_b_t, eb, ek, d_g_t (by omega), d_g_t (by omega), Int.toNat_natCast, Int.toNat_natCast, (h3 k hkn).2.1, (h3 b hb).2.1, hk1]
    by_cases q : B b < B k
    · rw [if_pos q, if_pos q]
      exact ih (k + 1) m m' (by omega) (by omega) (by omega) k hkn
    · rw [if_neg q, if_neg q]
      exact ih (k + 1) m m' (by omega) (by omega) (by omega) b hb
theorem P_win (h : v_bd s n B) (hn : 1 ≤ n) : ∃ r, r < n ∧ F_X11_winner s = some ((r : Nat) : Int) ∧ F_X12_winner s = some ((r : Nat) : Int) := by
  unfold F_X11_winner F_X12_winner
  have h8 := h.2.2.1
  exact v_winl h (n - 1) 1 d_N d_N (by omega) (by rw [d_N_is]; omega) (by rw [d_N_is]; omega) 0 (by omega)
theorem v_paidl (h : v_bd s n B) {w : Nat} : ∀ (j k m m' : Nat), k + j = n → j < m → j < m' → ∀ x : Int, ∃ y, F_X11_highestBut_l4 s m (w : Int) x (k : Int) = some y ∧ F_X12_paid_l9 s m' x (w : Int) (k : Int) = some y := by
  have h' := h
  obtain ⟨h1, h2, h8, h3⟩ := h'
  intro j
  induction j with
  | zero =>
    intro k m m' hk hm hm' x
    obtain ⟨m, rfl⟩ : ∃ q, m = q + 1 := ⟨m - 1, by omega⟩
    obtain ⟨m', rfl⟩ : ∃ q, m' = q + 1 := ⟨m' - 1, by omega⟩
    refine ⟨x, ?_, ?_⟩
    · show F_X11_highestBut_l4_b s (F_X11_highestBut_l4 s m) _ _ _ = _
      unfold F_X11_highestBut_l4_b
      rw [h1, if_neg (by omega)]
    · show F_X12_paid_l9_b s (F_X12_paid_l9 s m') _ _ _ = _
      unfold F_X12_paid_l9_b
      rw [h2, if_neg (by omega)]
  | succ j ih =>
    intro k m m' hk hm hm' x
    obtain ⟨m, rfl⟩ : ∃ q, m = q + 1 := ⟨m - 1, by omega⟩
    obtain ⟨m', rfl⟩ : ∃ q, m' = q + 1 := ⟨m' - 1, by omega⟩
    have hkn : k < n := by omega
    have hk1 : d_w ((k : Int) + 1) = ((k + 1 : Nat) : Int) := by rw [d_w_id (by omega) (by omega)]; rfl
    have ek : d_w (331 + (k : Int)) = ((331 + k : Nat) : Int) := by rw [d_w_id (by omega) (by omega)]; omega
    have hp : (k : Int) < (n : Int) := by omega
    show ∃ y, F_X11_highestBut_l4_b s (F_X11_highestBut_l4 s m) _ _ _ = _ ∧ F_X12_paid_l9_b s (F_X12_paid_l9 s m') _ _ _ = _
    unfold F_X11_highestBut_l4_b F_X12_paid_l9_b
    rw [h1, h2, if_pos hp, if_pos hp, hk1]
    by_cases q : (k : Int) = (w : Int)
    · rw [if_pos q, if_pos q]
      exact ih (k + 1) m m' (by omega) (by omega) (by omega) x
    rw [if_neg q, if_neg q, P_part14 h hkn, d_b_t, P_max, d_b_t, ek, d_g_t (by omega), d_g_t (by omega), Int.toNat_natCast, (h3 k hkn).2.1, d_l_t]
    obtain ⟨y, y1, y2⟩ := ih (k + 1) m m' (by omega) (by omega) (by omega) (max x (B k))
    refine ⟨y, y1, ?_⟩
    by_cases q2 : x < B k
    · rw [if_pos q2]
      rw [show max x (B k) = B k by omega] at y2
      exact y2
    · rw [if_neg q2]
      rw [show max x (B k) = x by omega] at y2
      exact y2
theorem R_auction (h : v_R t s) {x : Int} : v_AP (F_X11_auction s x) (F_X12_auction s x) := by
  obtain ⟨n, B, hb⟩ := h.bids
  have hb' := hb
  obtain ⟨h1, h2, h8, h3⟩ := hb'
  unfold v_AP F_X11_auction F_X12_auction
  rw [h1, h2]
  by_cases q : (n : Int) = 0
  · rw [if_pos q, if_pos q]; exact ⟨_, rfl, rfl⟩
  rw [if_neg q, if_neg q, P_within, P_isIn, d_b_t, d_b_t]
  by_cases c : 0 ≤ x ∧ x ≤ 1
  rotate_left
  · rw [v_bf c]; exact ⟨-1, rfl, rfl⟩
  obtain ⟨r, r1, r2, r3⟩ := P_win hb (by omega)
  rw [v_bt c, if_neg (show ¬ (1 : Int) = 0 by decide), if_neg (show ¬ (1 : Int) = 0 by decide), r2, d_b_t]
  by_cases q0 : x = 0
  · rw [if_pos q0, if_pos q0, r3, d_b_t]; exact ⟨_, rfl, rfl⟩
  rw [if_neg q0, if_neg q0]
  obtain ⟨y, y1, y2⟩ := v_paidl hb (w := r) n 0 d_N d_N (by omega) (by rw [d_N_is]; omega) (by rw [d_N_is]; omega) 0
  unfold F_X11_highestBut F_X12_paid
  rw [r3, d_b_t]
  rw [show F_X11_highestBut_l4 s d_N (r : Int) 0 0 = some y from y1, show F_X12_paid_l9 s d_N 0 (r : Int) 0 = some y from y2]
  exact ⟨y, rfl, rfl⟩
end V40

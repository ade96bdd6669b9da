section V37
variable {s s1 s2 : d_S} {t : Nat → Option p_C} {L : v_LR} {u v W H b N n : Nat} {st me so : Nat → Nat} {sg : Nat → Nat → Nat} {day heat x : Int} {e : Option Nat}
theorem v_remL_ : ∀ a : Nat, a < 82 → ∀ b : Nat, b < 82 → ¬ b = 0 → d_remL (a : Int) (b : Int) = ((a % b : Nat) : Int) := by decide +kernel
theorem v_divL_ : ∀ a : Nat, a < 82 → ∀ b : Nat, b < 82 → ¬ b = 0 → d_divL (a : Int) (b : Int) = ((a / b : Nat) : Int) := by decide +kernel
theorem v_gcC {K : Int → Option Int} : ∀ (b a : Nat), b < 82 → a < 82 → ∀ (k m : Nat), k + b < 63 → b + 1 < m → F_X11_divisor_l13 K m (a : Int) (b : Int) (k : Int) = K ((Nat.gcd a b : Nat) : Int) := by
  intro b
  induction b using Nat.strongRecOn with
  | ind b ih =>
    intro a hb ha k m hk hm
    obtain ⟨m, rfl⟩ : ∃ q, m = q + 1 := ⟨m - 1, by omega⟩
    show F_X11_divisor_l13_b K (F_X11_divisor_l13 K m) _ _ _ = _
    unfold F_X11_divisor_l13_b
    rw [if_pos (by omega)]
    by_cases q : b = 0
    · rw [if_pos (by omega), q, Nat.gcd_zero_right]
    · have hlt := Nat.mod_lt a (show 0 < b by omega)
      rw [if_neg (by omega), d_g_t (by omega), v_rem (by omega) (by omega), d_w_id (by omega) (by omega)]
      have := ih (a % b) hlt b (by omega) (by omega) (k + 1) m (by omega) (by omega)
      rw [Nat.gcd_comm a b, Nat.gcd_rec b a, Nat.gcd_comm]
      exact this
theorem v_gcR : ∀ (b a : Nat), b < 82 → a < 82 → ∀ m : Nat, b + 1 < m → F_X12_gcd_l17 m (a : Int) (b : Int) = some ((Nat.gcd a b : Nat) : Int) := by
  intro b
  induction b using Nat.strongRecOn with
  | ind b ih =>
    intro a hb ha m hm
    obtain ⟨m, rfl⟩ : ∃ q, m = q + 1 := ⟨m - 1, by omega⟩
    show F_X12_gcd_l17_b (F_X12_gcd_l17 m) _ _ = _
    unfold F_X12_gcd_l17_b
    by_cases q : b = 0
    · rw [if_pos (by omega), q, Nat.gcd_zero_right]
    · have hlt := Nat.mod_lt a (show 0 < b by omega)
      rw [if_neg (by omega), d_g_t (by omega), v_remL_ a ha b hb q]
      have := ih (a % b) hlt b (by omega) (by omega) m (by omega)
      rw [Nat.gcd_comm a b, Nat.gcd_rec b a, Nat.gcd_comm]
      exact this
theorem v_cm_le2 {a l c m : Nat} : v_cm a l c m ≤ l := by unfold v_cm; omega
theorem R_kiss (h : v_R t s) {x1 x2 x3 : Int} : v_AP (F_X11_kiss s x1 x2 x3) (F_X12_kiss s x1 x2 x3) := by
  obtain ⟨u, v, W, H, st, me, so, N, sg, hG, hQ, hB, hM, hZ, hS, hC, hBd⟩ := h.all
  have n10 : ¬ (1 : Int) = 0 := by decide
  unfold v_AP F_X11_kiss F_X12_kiss
  rw [P_isSightC hS, d_b_t, P_isSight hZ, d_b_t]
  by_cases c1 : 0 ≤ x1 ∧ x1 < (N : Int)
  rotate_left
  · rw [v_bf c1]; exact ⟨-1, rfl, rfl⟩
  rw [v_bt c1, if_neg n10, if_neg n10, P_isBlockC hQ, P_isBlock hG, d_b_t, d_b_t]
  by_cases c2 : 0 ≤ x2 ∧ x2 < ((v_bl u v : Nat) : Int)
  rotate_left
  · rw [v_bf c2]; exact ⟨-1, rfl, rfl⟩
  obtain ⟨n, rfl⟩ : ∃ n : Nat, x1 = n := ⟨x1.toNat, by omega⟩
  obtain ⟨b, rfl⟩ : ∃ b : Nat, x2 = b := ⟨x2.toNat, by omega⟩
  have hn : n < N := by omega
  have hb : b < v_bl u v := by omega
  obtain ⟨g3, g4, -⟩ := hBd n hn
  have hA : sg n 3 * sg n 4 ≤ 3 * 3 := Nat.mul_le_mul g3.2 g4.2
  have hA1 : 1 * 1 ≤ sg n 3 * sg n 4 := Nat.mul_le_mul g3.1 g4.1
  have hce : v_ce sg u v W H n b ≤ 3 * 3 := Nat.mul_le_mul (Nat.le_trans v_cm_le2 g3.2) (Nat.le_trans v_cm_le2 g4.2)
  have ar : F_X12_areaOf s (n : Int) = some ((sg n 3 * sg n 4 : Nat) : Int) := by
    have e3 : F_X12_sightOf s (n : Int) 3 = _ := P_sightOf hZ hn (k := 3) (by decide)
    have e4 : F_X12_sightOf s (n : Int) 4 = _ := P_sightOf hZ hn (k := 4) (by decide)
    unfold F_X12_areaOf
    rw [e3, d_b_t, e4, d_b_t, ← Int.natCast_mul, d_w_id (by omega) (by omega)]
  obtain ⟨A, hAe⟩ : ∃ A, A = sg n 3 * sg n 4 := ⟨_, rfl⟩
  obtain ⟨C, hCe⟩ : ∃ C, C = v_ce sg u v W H n b := ⟨_, rfl⟩
  rw [v_bt c2, if_neg n10, if_neg n10, P_cellsOfC hQ hS hb hn, d_b_t, P_cellsIn hG hZ hb hn, d_b_t, P_sightPart hS hn (by decide) (by decide), d_b_t, P_sightPart hS hn (by decide) (by decide), d_b_t, show (3 : Int).toNat = 3 from rfl, show (4 : Int).toNat = 4 from rfl, ← Int.natCast_mul, ar, d_b_t, d_w_id (x := ((sg n 3 * sg n 4 : Nat) : Int)) (by omega) (by omega), ← hAe, ← hCe]
  have hg1 : 1 ≤ Nat.gcd C A := Nat.gcd_pos_of_pos_right C (by omega)
  have hg2 : Nat.gcd C A ≤ A := Nat.gcd_le_right C (by omega)
  have hdv : F_X11_divisor (C : Int) (A : Int) = some ((Nat.gcd C A : Nat) : Int) := by
    unfold F_X11_divisor F_J9_abs_0f7a4
    rw [if_neg (by omega), d_b_t, if_neg (by omega), d_b_t]
    refine (v_gcC A C (by omega) (by omega) 0 d_N (by omega) (by rw [d_N_is]; omega)).trans ?_
    show d_b (F_J9_max_7cf53 1 ((Nat.gcd C A : Nat) : Int)) _ = _
    rw [P_max, d_b_t, show max (1 : Int) ((Nat.gcd C A : Nat) : Int) = ((Nat.gcd C A : Nat) : Int) by omega]
  have hgc : F_X12_gcd (C : Int) (A : Int) = some ((Nat.gcd C A : Nat) : Int) := by
    unfold F_X12_gcd F_X12_gcd_j12
    rw [if_neg (by omega), v_gcR A C (by omega) (by omega) d_N (by rw [d_N_is]; omega)]
  unfold F_X11_kiss_j65 F_X12_part F_X12_part_j10
  rw [hdv, hgc, d_b_t]
  have hq : ∀ y : Nat, y < 82 → d_w (d_divL (y : Int) ((Nat.gcd C A : Nat) : Int)) = d_div (y : Int) ((Nat.gcd C A : Nat) : Int) := fun y hy => by
    have := Nat.div_le_self y (Nat.gcd C A)
    rw [v_divL_ y hy _ (by omega) (by omega), v_div (by omega) (by omega)]
    generalize y / Nat.gcd C A = w at this ⊢
    exact d_w_id (by omega) (by omega)
  by_cases q : x3 = 0
  · rw [if_pos q, if_pos q, d_b_t, d_g_t (by omega), d_g_t (by omega), d_b_t, hq C (by omega)]; exact ⟨_, rfl, rfl⟩
  · rw [if_neg q, if_neg q, d_b_t, d_g_t (by omega), d_b_t, d_g_t (by omega), d_b_t, hq A (by omega)]; exact ⟨_, rfl, rfl⟩
end V37

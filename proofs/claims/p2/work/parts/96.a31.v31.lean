section V31A
theorem v_sb_cg {P Q : Nat → Prop} [DecidablePred P] [DecidablePred Q] : ∀ k, (∀ n, n < k → (P n ↔ Q n)) → v_sb P k = v_sb Q k := by
  intro k
  induction k with
  | zero => intro _; rfl
  | succ k ih =>
    intro h
    simp only [v_sb]
    rw [ih (fun n hn => h n (by omega))]
    by_cases q : P k
    · rw [if_pos q, if_pos ((h k (by omega)).1 q)]
    · rw [if_neg q, if_neg (fun e => q ((h k (by omega)).2 e))]
theorem v_sb_tb {P : Nat → Prop} [DecidablePred P] : ∀ k n, (v_sb P k).testBit n = decide (n < k ∧ P n) := by
  intro k
  induction k with
  | zero => intro n; rw [show v_sb P 0 = 0 from rfl, Nat.zero_testBit]; simp
  | succ k ih =>
    intro n
    simp only [v_sb]
    have hlt : v_sb P k < 2 ^ k := v_sb_lt k
    by_cases q : P k
    · rw [if_pos q, Nat.add_comm]
      by_cases e : n = k
      · subst e
        rw [Nat.testBit_two_pow_add_eq, ih]
        simp [q]
      · rw [Nat.add_comm, show v_sb P k + 2 ^ k = 2 ^ k ||| v_sb P k by
          have := Nat.two_pow_add_eq_or_of_lt hlt 1
          rw [Nat.mul_one] at this
          rw [Nat.add_comm]; exact this]
        rw [Nat.testBit_or, ih, Nat.testBit_two_pow]
        have : (k = n) = False := by simp; omega
        simp only [this, decide_false, Bool.false_or]
        congr 1
        apply propext
        constructor
        · rintro ⟨h1, h2⟩; exact ⟨by omega, h2⟩
        · rintro ⟨h1, h2⟩; exact ⟨by omega, h2⟩
    · rw [if_neg q, ih]
      congr 1
      apply propext
      constructor
      · rintro ⟨h1, h2⟩; exact ⟨by omega, h2⟩
      · rintro ⟨h1, h2⟩
        refine ⟨?_, h2⟩
        by_cases e : n = k
        · rw [e] at h2; exact absurd h2 q
        · omega
theorem v_sb_or {P Q R : Nat → Prop} [DecidablePred P] [DecidablePred Q] [DecidablePred R] {k : Nat} (h : ∀ n, n < k → (R n ↔ P n ∨ Q n)) : v_sb P k ||| v_sb Q k = v_sb R k := by
  refine Nat.eq_of_testBit_eq (fun i => ?_)
  rw [Nat.testBit_or, v_sb_tb, v_sb_tb, v_sb_tb]
  by_cases q : i < k
  · have := h i q
    by_cases p1 : P i <;> by_cases p2 : Q i <;> simp [q, p1, p2, this]
  · simp [q]
theorem v_sb_b {P : Nat → Prop} [DecidablePred P] {k n : Nat} (hn : n < k) : v_sb P k / 2 ^ n % 2 = if P n then 1 else 0 := by
  have h := v_sb_tb (P := P) k n
  rw [Nat.testBit_eq_decide_div_mod_eq] at h
  have h2 : v_sb P k / 2 ^ n % 2 = 0 ∨ v_sb P k / 2 ^ n % 2 = 1 := by omega
  by_cases q : P n
  · rw [if_pos q]
    rcases h2 with h2 | h2
    · rw [h2] at h; simp [hn, q] at h
    · exact h2
  · rw [if_neg q]
    rcases h2 with h2 | h2
    · exact h2
    · rw [h2] at h; simp [q] at h
end V31A
abbrev v_shk (sg : Nat → Nat → Nat) (me : Nat → Nat) (u v W H k n : Nat) : Prop := ∃ b, b < k ∧ v_sw sg me u v W H b n
section V31
variable {s : d_S} {t : Nat → Option p_C} {u v W H b N : Nat} {st me so : Nat → Nat} {sg : Nat → Nat → Nat}
theorem v_shinl (hQ : v_Q s u v W H) (hS : v_S s N sg) (hb : b < v_bl u v) : ∀ (j k m : Nat), k + j = N → j < m → F_X4_showingIn_3_l6 s m (b : Int) ((me b : Nat) : Int) ((v_sb (v_sw sg me u v W H b) k : Nat) : Int) (k : Int) = some ((v_sb (v_sw sg me u v W H b) N : Nat) : Int) := by
  intro j
  induction j with
  | zero =>
    intro k m hk hm
    obtain ⟨m, rfl⟩ : ∃ q, m = q + 1 := ⟨m - 1, by omega⟩
    have hk : k = N := by omega
    subst hk
    show F_X4_showingIn_3_l6_b s (F_X4_showingIn_3_l6 s m) _ _ _ _ = _
    unfold F_X4_showingIn_3_l6_b
    rw [hS.1, if_neg (by omega)]
  | succ j ih =>
    intro k m hk hm
    obtain ⟨m, rfl⟩ : ∃ q, m = q + 1 := ⟨m - 1, by omega⟩
    have hkN : k < N := by omega
    have hN12 := hS.2.1
    have h5 := hS.le hkN (k := 5) (by decide)
    have hr := ih (k + 1) m (by omega) (by omega)
    have hlt : v_sb (v_sw sg me u v W H b) k < 2 ^ k := v_sb_lt k
    have h12 := v_2p (n := k) (by omega)
    have hz : F_X4_showingIn_3_j58 s (F_X4_showingIn_3_l6 s m) (b : Int) ((me b : Nat) : Int) (k : Int) ((v_sb (v_sw sg me u v W H b) k : Nat) : Int) = F_X4_showingIn_3_l6 s m (b : Int) ((me b : Nat) : Int) ((v_sb (v_sw sg me u v W H b) k : Nat) : Int) ((k + 1 : Nat) : Int) := by
      unfold F_X4_showingIn_3_j58
      rw [v_bit0_, d_b_t, v_0shl (by omega), v_or0 ⟨by omega, by omega⟩, d_w_id (x := (k : Int) + 1) (by omega) (by omega)]; rfl
    show F_X4_showingIn_3_l6_b s (F_X4_showingIn_3_l6 s m) _ _ _ _ = _
    unfold F_X4_showingIn_3_l6_b
    simp only [v_sb] at hr
    rw [hS.1, if_pos (by omega), P_sightPart hS hkN (by decide) (by decide), d_b_t, show (5 : Int).toNat = 5 from rfl, d_w_id (x := ((sg k 5 : Nat) : Int) * 10) (by omega) (by omega)]
    by_cases q1 : sg k 5 * 10 < me b
    rotate_left
    · rw [if_neg (fun e => q1 e.1)] at hr
      rw [if_neg (by omega), hz]
      exact hr
    rw [if_pos (by omega), P_cellsOfC hQ hS hb hkN, d_b_t]
    by_cases q2 : 0 < v_ce sg u v W H k b
    rotate_left
    · rw [if_neg (fun e => q2 e.2)] at hr
      rw [if_neg (by omega), hz]
      exact hr
    rw [if_pos ⟨q1, q2⟩] at hr
    rw [if_pos (by omega), v_bit1_, d_b_t, v_or1 (by omega) hlt, d_w_id (x := (k : Int) + 1) (by omega) (by omega)]
    exact hr
theorem P_showingIn (hQ : v_Q s u v W H) (hS : v_S s N sg) (hb : b < v_bl u v) : F_X4_showingIn_3 s (b : Int) ((me b : Nat) : Int) = some ((v_sb (v_sw sg me u v W H b) N : Nat) : Int) := by
  unfold F_X4_showingIn_3
  exact v_shinl hQ hS hb N 0 d_N (by omega) (by rw [d_N_is]; have := hS.2.1; omega)
theorem v_shk_s {k n : Nat} : v_shk sg me u v W H (k + 1) n ↔ v_shk sg me u v W H k n ∨ v_sw sg me u v W H k n := by
  constructor
  · rintro ⟨b, h1, h2⟩
    by_cases e : b = k
    · right; rw [← e]; exact h2
    · left; exact ⟨b, by omega, h2⟩
  · rintro (⟨b, h1, h2⟩ | h)
    · exact ⟨b, by omega, h2⟩
    · exact ⟨k, by omega, h⟩
theorem v_shnowl (hQ : v_Q s u v W H) (hS : v_S s N sg) (hM : v_M s st me so) : ∀ (j k m : Nat), k + j = v_bl u v → j < m → F_X11_showingNow_l4 s m ((v_sb (v_shk sg me u v W H k) N : Nat) : Int) (k : Int) = some ((v_sb (v_shk sg me u v W H (v_bl u v)) N : Nat) : Int) := by
  have h64 := hQ.2.2.1
  intro j
  induction j with
  | zero =>
    intro k m hk hm
    obtain ⟨m, rfl⟩ : ∃ q, m = q + 1 := ⟨m - 1, by omega⟩
    have hk : k = v_bl u v := by omega
    subst hk
    show F_X11_showingNow_l4_b s (F_X11_showingNow_l4 s m) _ _ = _
    unfold F_X11_showingNow_l4_b
    rw [hQ.1, if_neg (by omega)]
  | succ j ih =>
    intro k m hk hm
    obtain ⟨m, rfl⟩ : ∃ q, m = q + 1 := ⟨m - 1, by omega⟩
    have hkb : k < v_bl u v := by omega
    have hr := ih (k + 1) m (by omega) (by omega)
    have l1 : v_sb (v_shk sg me u v W H k) N < 4096 := v_sb12 hS.2.1
    have l2 : v_sb (v_sw sg me u v W H k) N < 4096 := v_sb12 hS.2.1
    show F_X11_showingNow_l4_b s (F_X11_showingNow_l4 s m) _ _ = _
    unfold F_X11_showingNow_l4_b
    rw [hQ.1, if_pos (by omega), P_meltedOf hM (by omega), d_b_t, P_showingIn hQ hS hkb, d_b_t, v_or (by omega) (by omega), v_sb_or (R := v_shk sg me u v W H (k + 1)) (fun n _ => v_shk_s), d_w_id (x := (k : Int) + 1) (by omega) (by omega)]
    exact hr
theorem v_sb_no {P : Nat → Prop} [DecidablePred P] {k : Nat} (h : ∀ n, ¬ P n) : v_sb P k = 0 := by
  induction k with
  | zero => rfl
  | succ k ih => simp only [v_sb]; rw [if_neg (h k), ih]
theorem P_showingNow (hQ : v_Q s u v W H) (hS : v_S s N sg) (hM : v_M s st me so) : F_X11_showingNow s = some ((v_sb (v_shk sg me u v W H (v_bl u v)) N : Nat) : Int) := by
  have := v_shnowl hQ hS hM (v_bl u v) 0 d_N (by omega) (by rw [d_N_is]; have := hQ.2.2.1; omega)
  rw [v_sb_no (fun n => by rintro ⟨b, h1, -⟩; omega)] at this
  exact this
theorem v_isSl (hG : v_G (s.1 65) u v W H) (hZ : v_Z (s.1 65) N sg) (hB : v_B (s.1 65) st me so) {n : Nat} (hn : n < N) : ∀ (j k m : Nat), k + j = v_bl u v → j < m → ¬ v_shk sg me u v W H k n → F_X12_isShowing_l2 s m (n : Int) (k : Int) = some (v_b (v_shk sg me u v W H (v_bl u v) n)) := by
  have hac := hG.ac
  have h5 := hZ.le hn (k := 5) (by decide)
  intro j
  induction j with
  | zero =>
    intro k m hk hm h
    obtain ⟨m, rfl⟩ : ∃ q, m = q + 1 := ⟨m - 1, by omega⟩
    have hk : k = v_bl u v := by omega
    subst hk
    show F_X12_isShowing_l2_b s (F_X12_isShowing_l2 s m) _ _ = _
    unfold F_X12_isShowing_l2_b
    rw [P_blocks hG, d_b_t, if_neg (by omega), v_bf h]
  | succ j ih =>
    intro k m hk hm h
    obtain ⟨m, rfl⟩ : ∃ q, m = q + 1 := ⟨m - 1, by omega⟩
    have hkb : k < v_bl u v := by omega
    show F_X12_isShowing_l2_b s (F_X12_isShowing_l2 s m) _ _ = _
    unfold F_X12_isShowing_l2_b
    have e5 : F_X12_sightOf s (n : Int) 5 = _ := P_sightOf hZ hn (k := 5) (by decide)
    rw [P_blocks hG, d_b_t, if_pos (by omega), P_cellsIn hG hZ hkb hn, d_b_t, d_w_id (x := (k : Int) + 1) (by omega) (by omega)]
    by_cases q2 : 0 < v_ce sg u v W H n k
    rotate_left
    · rw [if_neg (by omega)]
      refine ih (k + 1) m (by omega) (by omega) (fun e => ?_)
      rcases v_shk_s.1 e with e | e
      · exact h e
      · exact q2 e.2
    rw [if_pos (by omega), P_get1 hB (by omega), d_b_t, e5, d_b_t, d_w_id (by omega) (by omega)]
    by_cases q1 : sg n 5 * 10 < me k
    · rw [if_pos (by omega), v_bt ⟨k, hkb, q1, q2⟩]
    · rw [if_neg (by omega)]
      refine ih (k + 1) m (by omega) (by omega) (fun e => ?_)
      rcases v_shk_s.1 e with e | e
      · exact h e
      · exact q1 e.1
theorem P_isShowing (hG : v_G (s.1 65) u v W H) (hZ : v_Z (s.1 65) N sg) (hB : v_B (s.1 65) st me so) {n : Nat} (hn : n < N) : F_X12_isShowing s (n : Int) = some (v_b (v_shk sg me u v W H (v_bl u v) n)) := by
  unfold F_X12_isShowing
  exact v_isSl hG hZ hB hn (v_bl u v) 0 d_N (by omega) (by rw [d_N_is]; have := hG.ac.2.2.1; omega) (by rintro ⟨b, h1, -⟩; omega)
theorem R_ofSight (h : v_R t s) {x y : Int} : v_AP (F_X11_ofSight s x y) (F_X12_ofSight s x y) := by
  obtain ⟨u, v, W, H, st, me, so, N, sg, hG, hQ, hB, hM, hZ, hS, hC, hBd⟩ := h.all
  have hN12 := hS.2.1
  unfold v_AP F_X11_ofSight F_X12_ofSight
  rw [P_isSightC hS, d_b_t, P_isSight hZ, d_b_t, P_within, d_b_t, P_isIn, d_b_t]
  by_cases c1 : 0 ≤ x ∧ x < (N : Int)
  rotate_left
  · rw [v_bf c1]; exact ⟨-1, rfl, rfl⟩
  have n10 : ¬ (1 : Int) = 0 := by decide
  obtain ⟨n, rfl⟩ : ∃ n : Nat, x = n := ⟨x.toNat, by omega⟩
  have hn : n < N := by omega
  rw [v_bt c1, if_neg n10, if_neg n10]
  by_cases c2 : 0 ≤ y ∧ y ≤ 5
  · rw [v_bt c2, if_neg n10, v_bt (show 0 ≤ y ∧ y ≤ 7 by omega), if_neg n10, if_neg (by omega), if_neg (by omega), P_sightPart hS hn c2.1 (by omega), d_b_t, P_sightO hZ hn c2.1 (by omega), d_b_t]
    exact ⟨_, rfl, rfl⟩
  rw [v_bf c2, if_pos rfl]
  by_cases c6 : y = 6
  · have hl : v_sb (v_un sg u v) N < 4096 := v_sb12 hN12
    rw [if_pos c6, v_bt (show 0 ≤ y ∧ y ≤ 7 by omega), if_neg n10, if_pos c6, P_whole hC hS hBd, d_b_t, v_bit (by omega) (by omega), v_sb_b hn, hG.1.1, hG.1.2.1, P_isUncut hZ hBd hn hG.2.1 hG.2.2.1, d_b_t]
    by_cases q : v_un sg u v n
    · rw [v_bt q, if_neg n10, if_pos q]; exact ⟨1, rfl, rfl⟩
    · rw [v_bf q, if_pos rfl, if_neg q]; exact ⟨0, rfl, rfl⟩
  rw [if_neg c6]
  by_cases c7 : y = 7
  · have hl : v_sb (v_shk sg me u v W H (v_bl u v)) N < 4096 := v_sb12 hN12
    rw [if_pos c7, v_bt (show 0 ≤ y ∧ y ≤ 7 by omega), if_neg n10, if_neg c6, if_pos c7, P_showingNow hQ hS hM, d_b_t, v_bit (by omega) (by omega), v_sb_b hn, P_isShowing hG hZ hB hn, d_b_t]
    by_cases q : v_shk sg me u v W H (v_bl u v) n
    · rw [v_bt q, if_neg n10, if_pos q]; exact ⟨1, rfl, rfl⟩
    · rw [v_bf q, if_pos rfl, if_neg q]; exact ⟨0, rfl, rfl⟩
  rw [if_neg c7, v_bf (show ¬ (0 ≤ y ∧ y ≤ 7) by omega), if_pos rfl]
  exact ⟨-1, rfl, rfl⟩
end V31

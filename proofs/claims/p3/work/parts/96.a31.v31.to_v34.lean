section V31A
theorem v_sb_cg {P Q : Nat → Prop} [DecidablePred P] [DecidablePred Q] : ∀ k, (∀ n, n < k → (P n ↔ Q n)) → v_sb P k = v_sb Q k := by
  intro k
  induction k with
  | zero => intro _; rfl
  | succ k ih =>
    intro h
    simp only [v_sb]
    rw [ih (fun n hn => h n (by omega))]
    by_cases q : P k
    · rw [if_pos q, if_pos ((h k (by omega)).1 q)]
    · rw [if_neg q, if_neg (fun e => q ((h k (by omega)).2 e))]
theorem v_sb_tb {P : Nat → Prop} [DecidablePred P] : ∀ k n, (v_sb P k).testBit n = decide (n < k ∧ P n) := by
  intro k
  induction k with
  | zero => intro n; rw [show v_sb P 0 = 0 from rfl, Nat.zero_testBit]; simp
  | succ k ih =>
    intro n
    simp only [v_sb]
    have hlt : v_sb P k < 2 ^ k := v_sb_lt k
    by_cases q : P k
    · rw [if_pos q, Nat.add_comm]
      by_cases e : n = k
      · subst e
        rw [Nat.testBit_two_pow_add_eq, ih]
        simp [q]
      · rw [Nat.add_comm, show v_sb P k + 2 ^ k = 2 ^ k ||| v_sb P k by
          have := Nat.two_pow_add_eq_or_of_lt hlt 1
          rw [Nat.mul_one] at this
          rw [Nat.add_comm]; exact this]
        rw [Nat.testBit_or, ih, Nat.testBit_two_pow]
        have : (k = n) = False := by simp; omega
        simp only [this, decide_false, Bool.false_or]
        congr 1
        apply propext
        constructor
        · rintro ⟨h1, h2⟩; exact ⟨by omega, h2⟩
        · rintro ⟨h1, h2⟩; exact ⟨by omega, h2⟩
    · rw [if_neg q, ih]
      congr 1
      apply propext
      constructor
      · rintro ⟨h1, h2⟩; exact ⟨by omega, h2⟩
      · rintro ⟨h1, h2⟩
        refine ⟨?_, h2⟩
        by_cases e : n = k
        · rw [e] at h2; exact absurd h2 q
        · omega
theorem v_sb_or {P Q R : Nat → Prop} [DecidablePred P] [DecidablePred Q] [DecidablePred R] {k : Nat} (h : ∀ n, n < k → (R n ↔ P n ∨ Q n)) : v_sb P k ||| v_sb Q k = v_sb R k := by
  refine Nat.eq_of_testBit_eq (fun i => ?_)
  rw [Nat.testBit_or, v_sb_tb, v_sb_tb, v_sb_tb]
  by_cases q : i < k
  · have := h i q
    by_cases p1 : P i <;> by_cases p2 : Q i <;> simp [q, p1, p2, this]
  · simp [q]
theorem v_sb_b {P : Nat → Prop} [DecidablePred P] {k n : Nat} (hn : n < k) : v_sb P k / 2 ^ n % 2 = if P n then 1 else 0 := by
  have h := v_sb_tb (P := P) k n
  rw [Nat.testBit_eq_decide_div_mod_eq] at h
  have h2 : v_sb P k / 2 ^ n % 2 = 0 ∨ v_sb P k / 2 ^ n % 2 = 1 := by omega
  by_cases q : P n
  · rw [if_pos q]
    rcases h2 with h2 | h2
    · rw [h2] at h; simp [hn, q] at h
    · exact h2
  · rw [if_neg q]
    rcases h2 with h2 | h2
    · exact h2
    · rw [h2] at h; simp [q] at h
end V31A
abbrev v_shk (sg : Nat → Nat → Nat) (me : Nat → Nat) (u v W H k n : Nat) : Prop := ∃ b, b < k ∧ v_sw sg me u v W H b n
section V31
variable {s : d_S} {t : Nat → Option p_C} {u v W H b N : Nat} {st me so : Nat → Nat} {sg : Nat → Nat → Nat}
theorem v_shinl (hQ : v_Q s u v W H) (hS : v_S s N sg) (hb : b < v_bl u v) : ∀ (j k m : Nat), k + j = N → j < m → F_X4_showingIn_3_l6 s m (b : Int) ((me b : Nat) : Int) ((v_sb (v_sw sg me u v W H b) k : Nat) : Int) (k : Int) = some ((v_sb (v_sw sg me u v W H b) N : Nat) : Int) := by
  intro j
  induction j with
  | zero =>
    intro k m hk hm
    obtain ⟨m, rfl⟩ : ∃ q, m = q + 1 := ⟨m - 1, by omega⟩
    have hk : k = N := by omega
    subst hk
    show F_X4_showingIn_3_l6_b s (F_X4_showingIn_3_l6 s m) _ _ _ _ = _
    unfold F_X4_showingIn_3_l6_b
    rw [hS.1, if_neg (by omega)]
  | succ j ih =>
    intro k m hk hm
    obtain ⟨m, rfl⟩ : ∃ q, m = q + 1 := ⟨m - 1, by omega⟩
    have hkN : k < N := by omega
    have hN12 := hS.2.1
    have h5 := hS.le hkN (k := 5) (by decide)
    have hr := ih (k + 1) m (by omega) (by omega)
    have hlt : v_sb (v_sw sg me u v W H b) k < 2 ^ k := v_sb_lt k
    have h12 := v_2p (n := k) (by omega)
    have hz : F_X4_showingIn_3_j58 s (F_X4_showingIn_3_l6 s m) (b : Int) ((me b : Nat) : Int) (k : Int) ((v_sb (v_sw sg me u v W H b) k : Nat) : Int) = F_X4_showingIn_3_l6 s m (b : Int) ((me b : Nat) : Int) ((v_sb (v_sw sg me u v W H b) k : Nat) : Int) ((k + 1 : Nat) : Int) := by
      unfold F_X4_showingIn_3_j58
      rw [v_bit0_, d_b_t, v_0shl (by omega), v_or0 ⟨by omega, by omega⟩, d_w_id (x := (k : Int) + 1) (by omega) (by omega)]; rfl
    show F_X4_showingIn_3_l6_b s (F_X4_showingIn_3_l6 s m) _ _ _ _ = _
    unfold F_X4_showingIn_3_l6_b
    simp only [v_sb] at hr
    rw [hS.1, if_pos (by omega), P_sightPart hS hkN (by decide) (by decide), d_b_t, show (5 : Int).toNat = 5 from rfl, d_w_id (x := ((sg k 5 : Nat) : Int) * 10) (by omega) (by omega)]
    by_cases q1 : sg k 5 * 10 < me b
    rotate_left
    · rw [if_neg (fun e => q1 e.1)] at hr
      rw [if_neg (by omega), hz]
      exact hr
    rw [if_pos (by omega), P_cellsOfC hQ hS hb hkN, d_b_t]
    by_cases q2 : 0 < v_ce sg u v W H k b
    rotate_left
    · rw [if_neg (fun e => q2 e.2)] at hr
      rw [if_neg (by omega), hz]
      exact hr
    rw [if_pos ⟨q1, q2⟩] at hr
    rw [if_pos (by omega), v_bit1_, d_b_t, v_or1 (by omega) hlt, d_w_id (x := (k : Int) + 1) (by omega) (by omega)]
    exact hr
theorem P_showingIn (hQ : v_Q s u v W H) (hS : v_S s N sg) (hb : b < v_bl u v) : F_X4_showingIn_3 s (b : Int) ((me b : Nat) : Int) = some ((v_sb (v_sw sg me u v W H b) N : Nat) : Int) := by
  unfold F_X4_showingIn_3
  exact v_shinl hQ hS hb N 0 d_N (by omega) (by rw [d_N_is]; have := hS.2.1; omega)
theorem v_shk_s {k n : Nat} : v_shk sg me u v W H (k + 1) n ↔ v_shk sg me u v W H k n ∨ v_sw sg me u v W H k n := by
  constructor
  · rintro ⟨b, h1, h2⟩
    by_cases e : b = k
    · right; rw [← e]; exact h2
    · left; exact ⟨b, by omega, h2⟩
  · rintro (⟨b, h1, h2⟩ | h)
    · exact ⟨b, by omega, h2⟩
    · exact ⟨k, by omega, h⟩
theorem v_shnowl (hQ : v_Q s u v W H) (hS : v_S s N sg) (hM : v_M s st me so) : ∀ (j k m : Nat), k + j = v_bl u v → j < m → F_X11_showingNow_l4 s m ((v_sb (v_shk sg me u v W H k) N : Nat) : Int) (k : Int) = some ((v_sb (v_shk sg me u v W H (v_bl u v)) N : Nat) : Int) := by
  have h64 := hQ.2.2.1
  intro j
  induction j with
  | zero =>
    intro k m hk hm
    obtain ⟨m, rfl⟩ : ∃ q, m = q + 1 := ⟨m - 1, by omega⟩
    have hk : k = v_bl u v := by omega
    subst hk
    show F_X11_showingNow_l4_b s (F_X11_showingNow_l4 s m) _ _ = _
    unfold F_X11_showingNow_l4_b
    rw [hQ.1, if_neg (by omega)]
  | succ j ih =>
    intro k m hk hm
    obtain ⟨m, rfl⟩ : ∃ q, m = q + 1 := ⟨m - 1, by omega⟩
    have hkb : k < v_bl u v := by omega
    have hr := ih (k + 1) m (by omega) (by omega)
    have l1 : v_sb (v_shk sg me u v W H k) N < 4096 := v_sb12 hS.2.1
    have l2 : v_sb (v_sw sg me u v W H k) N < 4096 := v_sb12 hS.2.1
    show F_X11_showingNow_l4_b s (F_X11_showingNow_l4 s m) _ _ = _
    unfold F_X11_showingNow_l4_b
    rw [hQ.1, if_pos (by omega), P_meltedOf hM (by omega), d_b_t, P_showingIn hQ hS hkb, d_b_t, v_or (by omega) (by omega), v_sb_or (R := v_shk sg me u v W H (k + 1)) (fun n _ => v_shk_s), d_w_id (x := (k : Int) + 1) (by omega) (by omega)]
    exact hr
theorem v_sb_no {P : Nat → Prop} [DecidablePred P] {k : Nat} (h : ∀ n, ¬ P n) : v_sb P k = 0 := by
  induction k with
  | zero => rfl
  | succ k ih => simp only [v_sb]; rw [if_neg (h k), ih]
theorem P_showingNow (hQ : v_Q s u v W H) (hS : v_S s N sg) (hM : v_M s st me so) : F_X11_showingNow s = some ((v_sb (v_shk sg me u v W H (v_bl u v)) N : Nat) : Int) := by
  have := v_shnowl hQ hS hM (v_bl u v) 0 d_N (by omega) (by rw [d_N_is]; have := hQ.2.2.1; omega)
  rw [v_sb_no (fun n => by rintro ⟨b, h1, -⟩; omega)] at this
  exact this
theorem v_isSl (hG : v_G (s.1 65) u v W H) (hZ : v_Z (s.1 65) N sg) (hB : v_B (s.1 65) st me so) {n : Nat} (hn : n < N) : ∀ (j k m : Nat), k + j = v_bl u v → j < m → ¬ v_shk sg me u v W H k n → F_X12_isShowing_l2 s m (n : Int) (k : Int) = some (v_b (v_shk sg me u v W H (v_bl u v) n)) := by
  have hac := hG.ac
  have h5 := hZ.le hn (k := 5) (by decide)
  intro j
  induction j with
  | zero =>
    intro k m hk hm h
    obtain ⟨m, rfl⟩ : ∃ q, m = q + 1 := ⟨m - 1, by omega⟩
    have hk : k = v_bl u v := by omega
    subst hk
    show F_X12_isShowing_l2_b s (F_X12_isShowing_l2 s m) _ _ = _
    unfold F_X12_isShowing_l2_b
    rw [P_blocks hG, d_b_t, if_neg (by omega), v_bf h]
  | succ j ih =>
    intro k m hk hm h
    obtain ⟨m, rfl⟩ : ∃ q, m = q + 1 := ⟨m - 1, by omega⟩
    have hkb : k < v_bl u v := by omega
    show F_X12_isShowing_l2_b s (F_X12_isShowing_l2 s m) _ _ = _
    unfold F_X12_isShowing_l2_b
    have e5 : F_X12_sightOf s (n : Int) 5 = _ := P_sightOf hZ hn (k := 5) (by decide)
    rw [P_blocks hG, d_b_t, if_pos (by omega), P_cellsIn hG hZ hkb hn, d_b_t, d_w_id (x := (k : Int) + 1) (by omega) (by omega)]
    by_cases q2 : 0 < v_ce sg u v W H n k
    rotate_left
    · rw [if_neg (by omega)]
      refine ih (k + 1) m (by omega) (by omega) (fun e => ?_)
      rcases v_shk_s.1 e with e | e
      · exact h e
      · exact q2 e.2
    rw [if_pos (by omega), P_get1 hB (by omega), d_b_t, e5, d_b_t, d_w_id (by omega) (by omega)]
    by_cases q1 : sg n 5 * 10 < me k
    · rw [if_pos (by omega), v_bt ⟨k, hkb, q1, q2⟩]
    · rw [if_neg (by omega)]
      refine ih (k + 1) m (by omega) (by omega) (fun e => ?_)
      rcases v_shk_s.1 e with e | e
      · exact h e
      · exact q1 e.1
theorem P_isShowing (hG : v_G (s.1 65) u v W H) (hZ : v_Z (s.1 65) N sg) (hB : v_B (s.1 65) st me so) {n : Nat} (hn : n < N) : F_X12_isShowing s (n : Int) = some (v_b (v_shk sg me u v W H (v_bl u v) n)) := by
  unfold F_X12_isShowing
  exact v_isSl hG hZ hB hn (v_bl u v) 0 d_N (by omega) (by rw [d_N_is]; have := hG.ac.2.2.1; omega) (by rintro ⟨b, h1, -⟩; omega)
theorem R_ofSight (h : v_R t s) {x y : Int} : v_AP (F_X11_ofSight s x y) (F_X12_ofSight s x y) := by
  obtain ⟨u, v, W, H, st, me, so, N, sg, hG, hQ, hB, hM, hZ, hS, hC, hBd⟩ := h.all
  have hN12 := hS.2.1
  unfold v_AP F_X11_ofSight F_X12_ofSight
  rw [P_isSightC hS, d_b_t, P_isSight hZ, d_b_t, P_within, d_b_t, P_isIn, d_b_t]
  by_cases c1 : 0 ≤ x ∧ x < (N : Int)
  rotate_left
  · rw [v_bf c1]; exact ⟨-1, rfl, rfl⟩
  have n10 : ¬ (1 : Int) = 0 := by decide
  obtain ⟨n, rfl⟩ : ∃ n : Nat, x = n := ⟨x.toNat, by omega⟩
  have hn : n < N := by omega
  rw [v_bt c1, if_neg n10, if_neg n10]
  by_cases c2 : 0 ≤ y ∧ y ≤ 5
  · rw [v_bt c2, if_neg n10, v_bt (show 0 ≤ y ∧ y ≤ 7 by omega), if_neg n10, if_neg (by omega), if_neg (by omega), P_sightPart hS hn c2.1 (by omega), d_b_t, P_sightO hZ hn c2.1 (by omega), d_b_t]
    exact ⟨_, rfl, rfl⟩
  rw [v_bf c2, if_pos rfl]
  by_cases c6 : y = 6
  · have hl : v_sb (v_un sg u v) N < 4096 := v_sb12 hN12
    rw [if_pos c6, v_bt (show 0 ≤ y ∧ y ≤ 7 by omega), if_neg n10, if_pos c6, P_whole hC hS hBd, d_b_t, v_bit (by omega) (by omega), v_sb_b hn, hG.1.1, hG.1.2.1, P_isUncut hZ hBd hn hG.2.1 hG.2.2.1, d_b_t]
    by_cases q : v_un sg u v n
    · rw [v_bt q, if_neg n10, if_pos q]; exact ⟨1, rfl, rfl⟩
    · rw [v_bf q, if_pos rfl, if_neg q]; exact ⟨0, rfl, rfl⟩
  rw [if_neg c6]
  by_cases c7 : y = 7
  · have hl : v_sb (v_shk sg me u v W H (v_bl u v)) N < 4096 := v_sb12 hN12
    rw [if_pos c7, v_bt (show 0 ≤ y ∧ y ≤ 7 by omega), if_neg n10, if_neg c6, if_pos c7, P_showingNow hQ hS hM, d_b_t, v_bit (by omega) (by omega), v_sb_b hn, P_isShowing hG hZ hB hn, d_b_t]
    by_cases q : v_shk sg me u v W H (v_bl u v) n
    · rw [v_bt q, if_neg n10, if_pos q]; exact ⟨1, rfl, rfl⟩
    · rw [v_bf q, if_pos rfl, if_neg q]; exact ⟨0, rfl, rfl⟩
  rw [if_neg c7, v_bf (show ¬ (0 ≤ y ∧ y ≤ 7) by omega), if_pos rfl]
  exact ⟨-1, rfl, rfl⟩
end V31
def v_qn (L : v_LR) (u v W H : Nat) (day heat x : Int) (st me so : Nat → Nat) (n b : Nat) : v_T5 := v_rn L ((v_sz u v W H b : Nat) : Int) ((v_ed u v W H b : Nat) : Int) ((so b : Nat) : Int) n (day, heat, ((st b : Nat) : Int), ((me b : Nat) : Int), x)
def v_stn (L : v_LR) (u v W H : Nat) (day heat x : Int) (st me so : Nat → Nat) (n b : Nat) : Nat := if b < v_bl u v then (v_qn L u v W H day heat x st me so n b).2.2.1.toNat else st b
def v_men (L : v_LR) (u v W H : Nat) (day heat x : Int) (st me so : Nat → Nat) (n b : Nat) : Nat := if b < v_bl u v then (v_qn L u v W H day heat x st me so n b).2.2.2.1.toNat else me b
def v_rf (s s' : d_S) : Prop := (∀ j, j ≠ 9 → j ≠ 10 → j ≠ 13 → (j < 20 ∨ 212 ≤ j) → s'.1 65 j = s.1 65 j) ∧ (∀ a, a ≠ 65 → a ≠ 71 → s'.1 a = s.1 a) ∧ s'.2.1 = s.2.1
def v_cf (s s' : d_S) : Prop := (∀ a, a ≠ 47 → a ≠ 49 → a ≠ 50 → s'.1 a = s.1 a) ∧ (∀ a, a ≠ 47 → s'.2.1 a = s.2.1 a) ∧ v_Nm (s'.1 49)
section V32
variable {s s1 s2 : d_S} {t : Nat → Option p_C} {L : v_LR} {u v W H b N n : Nat} {st me so : Nat → Nat} {sg : Nat → Nat → Nat} {day heat x : Int} {e : Option Nat} {q : v_T5} {size edge sold : Int}
theorem v_rf.rf : v_rf s s := ⟨fun _ _ _ _ _ => rfl, fun _ _ _ => rfl, rfl⟩
theorem v_rf.tr (h : v_rf s s1) (h' : v_rf s1 s2) : v_rf s s2 := ⟨fun j a b c d => (h'.1 j a b c d).trans (h.1 j a b c d), fun a b c => (h'.2.1 a b c).trans (h.2.1 a b c), h'.2.2.trans h.2.2⟩
theorem v_cf.tr (h : v_cf s s1) (h' : v_cf s1 s2) : v_cf s s2 := ⟨fun a b c d => (h'.1 a b c d).trans (h.1 a b c d), fun a b => (h'.2.1 a b).trans (h.2.1 a b), h'.2.2⟩
theorem v_rn_e (h : ¬ q.1 < 999) : ∀ n, v_rn L size edge sold n q = q
  | 0 => rfl
  | n + 1 => by simp only [v_rn]; rw [if_neg h]
theorem v_rn_1 : ∀ (n : Nat) (q : v_T5), v_rn L size edge sold 1 (v_rn L size edge sold n q) = v_rn L size edge sold (n + 1) q := by
  intro n
  induction n with
  | zero => intro q; rfl
  | succ n ih =>
    intro q
    by_cases h : q.1 < 999
    · have e1 : v_rn L size edge sold (n + 1) q = v_rn L size edge sold n (v_s1 L size edge sold q) := if_pos h
      have e2 : v_rn L size edge sold (n + 1 + 1) q = v_rn L size edge sold (n + 1) (v_s1 L size edge sold q) := if_pos h
      rw [e1, e2]; exact ih _
    · rw [v_rn_e h, v_rn_e h, v_rn_e h]
theorem v_qn_ok (h9 : 0 ≤ day ∧ day ≤ 999) (h10 : 0 ≤ heat ∧ heat ≤ 9) (hx : 0 ≤ x ∧ x < 30293) (hs : st b ≤ 9) (hm : me b ≤ 100) : v_ok (v_qn L u v W H day heat x st me so n b) :=
  v_ok.rn n _ ⟨h9, h10, by show 0 ≤ ((st b : Nat) : Int) ∧ ((st b : Nat) : Int) ≤ 9; omega, by show 0 ≤ ((me b : Nat) : Int) ∧ ((me b : Nat) : Int) ≤ 100; omega, hx⟩
theorem v_qn_s (h9 : 0 ≤ day ∧ day < 999) (h10 : 0 ≤ heat ∧ heat ≤ 9) (hx : 0 ≤ x ∧ x < 30293) (hb : ∀ b, b < 64 → st b ≤ 9 ∧ me b ≤ 100 ∧ so b ≤ 1) (h64 : v_bl u v ≤ 64) (hbl : b < v_bl u v) : v_qn L u v W H day heat x st me so (n + 1) b = v_qn L u v W H (day + 1) (x % 10) ((x * 281 + 179) % 30293) (v_nst L u v W H day heat x st me so (v_bl u v)) (v_nme L u v W H day heat x st me so (v_bl u v)) so n b := by
  obtain ⟨h1, h2, -⟩ := hb b (by omega)
  have hok : v_ok (v_nb L u v W H day heat x st me so b) := v_ok.s1 (q := (day, heat, ((st b : Nat) : Int), ((me b : Nat) : Int), x)) ⟨⟨h9.1, by show day ≤ 999; omega⟩, h10, by show 0 ≤ ((st b : Nat) : Int) ∧ ((st b : Nat) : Int) ≤ 9; omega, by show 0 ≤ ((me b : Nat) : Int) ∧ ((me b : Nat) : Int) ≤ 100; omega, hx⟩ h9.2
  have e1 : ((v_nst L u v W H day heat x st me so (v_bl u v) b : Nat) : Int) = (v_nb L u v W H day heat x st me so b).2.2.1 := by
    unfold v_nst; rw [if_pos hbl]; exact Int.toNat_of_nonneg hok.2.2.1.1
  have e2 : ((v_nme L u v W H day heat x st me so (v_bl u v) b : Nat) : Int) = (v_nb L u v W H day heat x st me so b).2.2.2.1 := by
    unfold v_nme; rw [if_pos hbl]; exact Int.toNat_of_nonneg hok.2.2.2.1.1
  unfold v_qn
  rw [e1, e2]
  show (if day < 999 then _ else _) = _
  rw [if_pos h9.2]; rfl
theorem v_stn_s (h9 : 0 ≤ day ∧ day < 999) (h10 : 0 ≤ heat ∧ heat ≤ 9) (hx : 0 ≤ x ∧ x < 30293) (hb : ∀ b, b < 64 → st b ≤ 9 ∧ me b ≤ 100 ∧ so b ≤ 1) (h64 : v_bl u v ≤ 64) : v_stn L u v W H day heat x st me so (n + 1) = v_stn L u v W H (day + 1) (x % 10) ((x * 281 + 179) % 30293) (v_nst L u v W H day heat x st me so (v_bl u v)) (v_nme L u v W H day heat x st me so (v_bl u v)) so n := by
  funext b
  unfold v_stn
  by_cases q : b < v_bl u v
  · rw [if_pos q, if_pos q, v_qn_s h9 h10 hx hb h64 q]
  · rw [if_neg q, if_neg q]; unfold v_nst; rw [if_neg q]
theorem v_men_s (h9 : 0 ≤ day ∧ day < 999) (h10 : 0 ≤ heat ∧ heat ≤ 9) (hx : 0 ≤ x ∧ x < 30293) (hb : ∀ b, b < 64 → st b ≤ 9 ∧ me b ≤ 100 ∧ so b ≤ 1) (h64 : v_bl u v ≤ 64) : v_men L u v W H day heat x st me so (n + 1) = v_men L u v W H (day + 1) (x % 10) ((x * 281 + 179) % 30293) (v_nst L u v W H day heat x st me so (v_bl u v)) (v_nme L u v W H day heat x st me so (v_bl u v)) so n := by
  funext b
  unfold v_men
  by_cases q : b < v_bl u v
  · rw [if_pos q, if_pos q, v_qn_s h9 h10 hx hb h64 q]
  · rw [if_neg q, if_neg q]; unfold v_nme; rw [if_neg q]
theorem v_stn_e (h9 : ¬ day < 999) : v_stn L u v W H day heat x st me so n = st := by
  funext b
  unfold v_stn v_qn
  rw [v_rn_e (q := (day, heat, ((st b : Nat) : Int), ((me b : Nat) : Int), x)) h9]
  split
  · exact Int.toNat_natCast _
  · rfl
theorem v_men_e (h9 : ¬ day < 999) : v_men L u v W H day heat x st me so n = me := by
  funext b
  unfold v_men v_qn
  rw [v_rn_e (q := (day, heat, ((st b : Nat) : Int), ((me b : Nat) : Int), x)) h9]
  split
  · exact Int.toNat_natCast _
  · rfl
theorem v_stn_0 : v_stn L u v W H day heat x st me so 0 = st := by
  funext b
  unfold v_stn v_qn
  split
  · exact Int.toNat_natCast _
  · rfl
theorem v_men_0 : v_men L u v W H day heat x st me so 0 = me := by
  funext b
  unfold v_men v_qn
  split
  · exact Int.toNat_natCast _
  · rfl
def v_go (s : d_S) (L : v_LR) (u v W H : Nat) (day heat x : Int) (st me so : Nat → Nat) : Prop := v_G (s.1 65) u v W H ∧ v_RT (s.1 67) (s.1 65 2) L ∧ v_Nm (s.1 71) ∧ v_B (s.1 65) st me so ∧ (s.1 65 9 = day ∧ s.1 65 10 = heat ∧ s.1 65 13 = x) ∧ (0 ≤ day ∧ day ≤ 999) ∧ (0 ≤ heat ∧ heat ≤ 9) ∧ (0 ≤ x ∧ x < 30293)
theorem P_goOn (h : v_go s L u v W H day heat x st me so) : ∃ s' day' heat' x' st' me', F_X12_goOn s = some s' ∧ v_go s' L u v W H day' heat' x' st' me' so ∧ v_rf s s' ∧ (∀ n, v_stn L u v W H day heat x st me so (n + 1) = v_stn L u v W H day' heat' x' st' me' so n) ∧ ∀ n, v_men L u v W H day heat x st me so (n + 1) = v_men L u v W H day' heat' x' st' me' so n := by
  obtain ⟨hG, hT, hN, hB, ⟨e9, e10, e13⟩, h9, h10, hx⟩ := h
  have hac := hG.ac
  unfold F_X12_goOn
  rw [e9]
  by_cases c : day < 999
  · rw [if_pos c]
    obtain ⟨s1, g1, g2, ⟨g3, g4, g5⟩, g6, g7, g8, g9⟩ := P_pass hG hT hN hB e9 e10 e13 ⟨h9.1, c⟩ h10 hx
    refine ⟨s1, day + 1, x % 10, (x * 281 + 179) % 30293, _, _, by rw [g1, d_b_t], ⟨?_, ?_, g9, g2, ⟨g3, g4, g5⟩, by omega, by omega, by omega⟩, ⟨g6, g7, g8⟩, fun n => v_stn_s ⟨h9.1, c⟩ h10 hx (fun b hb => (hB b hb).2) hac.2.2.1, fun n => v_men_s ⟨h9.1, c⟩ h10 hx (fun b hb => (hB b hb).2) hac.2.2.1⟩
    · obtain ⟨⟨a1, a2, a3, a4⟩, ar⟩ := hG
      exact ⟨⟨by rw [g6 14 (by decide) (by decide) (by decide) (by decide)]; exact a1, by rw [g6 15 (by decide) (by decide) (by decide) (by decide)]; exact a2, by rw [g6 16 (by decide) (by decide) (by decide) (by decide)]; exact a3, by rw [g6 17 (by decide) (by decide) (by decide) (by decide)]; exact a4⟩, ar⟩
    · rw [g7 67 (by decide) (by decide), g6 2 (by decide) (by decide) (by decide) (by decide)]; exact hT
  · rw [if_neg c]
    exact ⟨s, day, heat, x, st, me, rfl, ⟨hG, hT, hN, hB, ⟨e9, e10, e13⟩, h9, h10, hx⟩, v_rf.rf, fun n => by rw [v_stn_e c, v_stn_e c], fun n => by rw [v_men_e c, v_men_e c]⟩
theorem v_begl : ∀ (j k m : Nat), k + j = 212 → j < m → ∀ s : d_S, ∃ s', F_X12_begin_l3 m (k : Int) s = some s' ∧ (∀ i, k ≤ i → i < 212 → s'.1 73 i = s.1 65 i) ∧ (∀ i, i < k → s'.1 73 i = s.1 73 i) ∧ (∀ a, a ≠ 73 → s'.1 a = s.1 a) ∧ s'.2 = s.2 := by
  intro j
  induction j with
  | zero =>
    intro k m hk hm s
    obtain ⟨m, rfl⟩ : ∃ q, m = q + 1 := ⟨m - 1, by omega⟩
    refine ⟨s, ?_, fun i h1 h2 => by omega, fun _ _ => rfl, fun _ _ => rfl, rfl⟩
    show F_X12_begin_l3_b (F_X12_begin_l3 m) _ s = _
    unfold F_X12_begin_l3_b
    rw [if_neg (by omega)]
  | succ j ih =>
    intro k m hk hm s
    obtain ⟨m, rfl⟩ : ∃ q, m = q + 1 := ⟨m - 1, by omega⟩
    obtain ⟨s', r1, r2, r3, r4, r5⟩ := ih (k + 1) m (by omega) (by omega) (d_si s 73 k (s.1 65 k))
    refine ⟨s', ?_, fun i h1 h2 => ?_, fun i h1 => ?_, fun a ha => by rw [r4 a ha, d_si_n ha], by rw [r5]; rfl⟩
    · show F_X12_begin_l3_b (F_X12_begin_l3 m) _ s = _
      unfold F_X12_begin_l3_b
      rw [if_pos (by omega), d_g_t (by omega), d_g_t (by omega), Int.toNat_natCast, d_l_t, d_w_id (by omega) (by omega)]
      exact r1
    · by_cases q : i = k
      · subst q; rw [r3 i (by omega), d_si_i, d_u_t]
      · rw [r2 i (by omega) h2, d_si_n (by decide)]
    · rw [r3 i (by omega), d_si_i, d_u_n (by omega)]
theorem P_begin : ∃ s', F_X12_begin s = some s' ∧ (∀ i, 9 ≤ i → i < 212 → s'.1 73 i = s.1 65 i) ∧ (∀ a, a ≠ 73 → s'.1 a = s.1 a) ∧ s'.2 = s.2 := by
  obtain ⟨s', r1, r2, r3, r4, r5⟩ := v_begl 203 9 d_N rfl (by rw [d_N_is]; decide) s
  exact ⟨s', r1, r2, r4, r5⟩
theorem v_putl : ∀ (j k m : Nat), k + j = 212 → j < m → ∀ s : d_S, ∃ s', F_X12_putBack_l3 m (k : Int) s = some s' ∧ (∀ i, k ≤ i → i < 212 → s'.1 65 i = s.1 73 i) ∧ (∀ i, i < k ∨ 212 ≤ i → s'.1 65 i = s.1 65 i) ∧ (∀ a, a ≠ 65 → s'.1 a = s.1 a) ∧ s'.2 = s.2 := by
  intro j
  induction j with
  | zero =>
    intro k m hk hm s
    obtain ⟨m, rfl⟩ : ∃ q, m = q + 1 := ⟨m - 1, by omega⟩
    refine ⟨s, ?_, fun i h1 h2 => by omega, fun _ _ => rfl, fun _ _ => rfl, rfl⟩
    show F_X12_putBack_l3_b (F_X12_putBack_l3 m) _ s = _
    unfold F_X12_putBack_l3_b
    rw [if_neg (by omega)]
  | succ j ih =>
    intro k m hk hm s
    obtain ⟨m, rfl⟩ : ∃ q, m = q + 1 := ⟨m - 1, by omega⟩
    obtain ⟨s', r1, r2, r3, r4, r5⟩ := ih (k + 1) m (by omega) (by omega) (d_si s 65 k (s.1 73 k))
    refine ⟨s', ?_, fun i h1 h2 => ?_, fun i h1 => ?_, fun a ha => by rw [r4 a ha, d_si_n ha], by rw [r5]; rfl⟩
    · show F_X12_putBack_l3_b (F_X12_putBack_l3 m) _ s = _
      unfold F_X12_putBack_l3_b
      rw [if_pos (by omega), d_g_t (by omega), d_g_t (by omega), Int.toNat_natCast, d_l_t, d_w_id (by omega) (by omega)]
      exact r1
    · by_cases q : i = k
      · subst q; rw [r3 i (by omega), d_si_i, d_u_t]
      · rw [r2 i (by omega) h2, d_si_n (by decide)]
    · rw [r3 i (by omega), d_si_i, d_u_n (by omega)]
theorem P_putBack {s0 : d_S} (h73 : ∀ i, 9 ≤ i → i < 212 → s.1 73 i = s0.1 65 i) (h65 : ∀ i, i < 9 ∨ 212 ≤ i → s.1 65 i = s0.1 65 i) : ∃ s', F_X12_putBack s = some s' ∧ s'.1 65 = s0.1 65 ∧ (∀ a, a ≠ 65 → s'.1 a = s.1 a) ∧ s'.2 = s.2 := by
  obtain ⟨s', r1, r2, r3, r4, r5⟩ := v_putl 203 9 d_N rfl (by rw [d_N_is]; decide) s
  refine ⟨s', r1, funext fun i => ?_, r4, r5⟩
  by_cases q : 9 ≤ i ∧ i < 212
  · rw [r2 i q.1 q.2, h73 i q.1 q.2]
  · rw [r3 i (by omega), h65 i (by omega)]
theorem P_course (hM : v_M s st me so) (hQ : v_Q s u v W H) (hb : b < v_bl u v) (hE : F_X9_ruler_3 s = some e) (hCT : v_CT t e L) (hY : v_Y s day heat x) (hc : v_cf s s1) (hn : n ≤ 100) : ∃ s2 s3, F_X0_start s1 (b : Int) = some s2 ∧ F_X0_run t s2 (n : Int) = some s3 ∧ v_K s3 (v_qn L u v W H day heat x st me so n b) ((so b : Nat) : Int) ∧ v_cf s s3 ∧ s3.1 47 4 = (b : Int) := by
  have hY1 : v_Y s1 day heat x := by
    obtain ⟨⟨a, b, c⟩, d⟩ := hY
    exact ⟨by rw [hc.1 6 (by decide) (by decide) (by decide)]; exact ⟨a, b, c⟩, d⟩
  have hE1 : F_X9_ruler_3 s1 = some e := by rw [P_ruler_fr (hc.1 3 (by decide) (by decide) (by decide)) (hc.2.1 5 (by decide))]; exact hE
  obtain ⟨s2, a1, a2, a3, a4, a5, a6, a7⟩ := P_start (hM.fr (hc.1 7 (by decide) (by decide) (by decide))) (hQ.fr (fun a h1 h2 => hc.1 a (by omega) (by omega) (by omega))) hb hE1 hY1 hc.2.2
  obtain ⟨s3, b1, b2, b3, b4, b5, b6⟩ := P_run (t := t) (L := L) hn (by rw [a4]; exact hCT) a2 a5
  exact ⟨s2, s3, a1, b1, b2, ⟨fun a h1 h2 h3 => by rw [b3 a h1 h2 h3, a6 a h1 h2, hc.1 a h1 h2 h3], fun a ha => by rw [b4, a7 a ha, hc.2.1 a ha], b5.2.2⟩, b6.trans a3⟩
end V32
section V33
variable {s s1 s2 : d_S} {t : Nat → Option p_C} {L : v_LR} {u v W H b N n : Nat} {st me so : Nat → Nat} {sg : Nat → Nat → Nat} {day heat x : Int} {e : Option Nat}
theorem v_sh0 (h : v_si sg u v W H N b = 0) {n : Nat} (hn : n < N) : ¬ v_sw sg me u v W H b n := by
  rintro ⟨-, h2⟩
  have := v_sb_b (P := fun n => 0 < v_ce sg u v W H n b) hn
  rw [show v_sb (fun n => 0 < v_ce sg u v W H n b) N = 0 from h, if_pos h2] at this
  simp at this
theorem v_shbl (hM : v_M s st me so) (hQ : v_Q s u v W H) (hS : v_S s N sg) (hE : F_X9_ruler_3 s = some e) (hCT : v_CT t e L) (hY : v_Y s day heat x) (hn : n ≤ 100) : ∀ (j k m : Nat), k + j = v_bl u v → j < m → ∀ s1, v_cf s s1 → ∃ s', F_X11_showingBehind_l4 t m (n : Int) ((v_sb (v_shk sg (v_men L u v W H day heat x st me so n) u v W H k) N : Nat) : Int) (k : Int) s1 = some (((v_sb (v_shk sg (v_men L u v W H day heat x st me so n) u v W H (v_bl u v)) N : Nat) : Int), s') ∧ v_cf s s' := by
  have h64 := hQ.2.2.1
  intro j
  induction j with
  | zero =>
    intro k m hk hm s1 hc
    obtain ⟨m, rfl⟩ : ∃ q, m = q + 1 := ⟨m - 1, by omega⟩
    have hk : k = v_bl u v := by omega
    subst hk
    refine ⟨s1, ?_, hc⟩
    show F_X11_showingBehind_l4_b t (F_X11_showingBehind_l4 t m) _ _ _ s1 = _
    unfold F_X11_showingBehind_l4_b
    rw [hc.1 37 (by decide) (by decide) (by decide), hQ.1, if_neg (by omega)]
  | succ j ih =>
    intro k m hk hm s1 hc
    obtain ⟨m, rfl⟩ : ∃ q, m = q + 1 := ⟨m - 1, by omega⟩
    have hkb : k < v_bl u v := by omega
    have hQ1 : v_Q s1 u v W H := hQ.fr (fun a h1 h2 => hc.1 a (by omega) (by omega) (by omega))
    have fS : ∀ {z : d_S}, v_cf s z → v_S z N sg := fun hz => by
      unfold v_S at hS ⊢
      rw [hz.1 3 (by decide) (by decide) (by decide), hz.1 4 (by decide) (by decide) (by decide)]; exact hS
    show ∃ s', F_X11_showingBehind_l4_b t (F_X11_showingBehind_l4 t m) _ _ _ s1 = _ ∧ _
    unfold F_X11_showingBehind_l4_b
    rw [hQ1.1, if_pos (by omega), P_sightsInC hQ1 (fS hc) hkb, d_b_t, d_w_id (x := (k : Int) + 1) (by omega) (by omega)]
    by_cases q : v_si sg u v W H N k = 0
    · rw [if_pos (by omega)]
      obtain ⟨s', r1, r2⟩ := ih (k + 1) m (by omega) (by omega) s1 hc
      refine ⟨s', ?_, r2⟩
      rw [v_sb_cg (Q := v_shk sg (v_men L u v W H day heat x st me so n) u v W H (k + 1)) N (fun i hi => ⟨fun h => v_shk_s.2 (Or.inl h), fun h => by
        rcases v_shk_s.1 h with h | h
        · exact h
        · exact absurd h (v_sh0 q hi)⟩)]
      exact r1
    rw [if_neg (by omega)]
    obtain ⟨s2, s3, a1, a2, a3, a4, a5⟩ := P_course hM hQ hkb hE hCT hY hc hn
    obtain ⟨-, m1, m2, m3⟩ := hM k (by omega)
    have hok := a3.2.1
    have h9 : s3.1 47 9 = ((v_men L u v W H day heat x st me so n k : Nat) : Int) := by
      rw [a3.1.2.2.2.1]
      unfold v_men; rw [if_pos hkb]; exact (Int.toNat_of_nonneg hok.2.2.2.1.1).symm
    have l1 : v_sb (v_shk sg (v_men L u v W H day heat x st me so n) u v W H k) N < 4096 := v_sb12 hS.2.1
    have l2 : v_sb (v_sw sg (v_men L u v W H day heat x st me so n) u v W H k) N < 4096 := v_sb12 hS.2.1
    obtain ⟨s', r1, r2⟩ := ih (k + 1) m (by omega) (by omega) s3 a4
    refine ⟨s', ?_, r2⟩
    rw [a1, d_b_t, a2, d_b_t, h9, P_showingIn (hQ.fr (fun a h1 h2 => a4.1 a (by omega) (by omega) (by omega))) (fS a4) hkb, d_b_t, v_or (by omega) (by omega), v_sb_or (R := v_shk sg (v_men L u v W H day heat x st me so n) u v W H (k + 1)) (fun n _ => v_shk_s)]
    exact r1
theorem v_fol {K : Int → d_S → Option (Int × d_S)} {N' : Nat} (hN' : N' ≤ 100) {y : Int} : ∀ (j k m : Nat), k + j = N' → j < m → ∀ (s : d_S) (day heat x : Int) (st me : Nat → Nat), v_go s L u v W H day heat x st me so → ∃ s' day' heat' x', F_X12_foretold_l31 K m (N' : Int) y (k : Int) s = K y s' ∧ v_go s' L u v W H day' heat' x' (v_stn L u v W H day heat x st me so j) (v_men L u v W H day heat x st me so j) so ∧ v_rf s s' := by
  intro j
  induction j with
  | zero =>
    intro k m hk hm s day heat x st me h
    obtain ⟨m, rfl⟩ : ∃ q, m = q + 1 := ⟨m - 1, by omega⟩
    refine ⟨s, day, heat, x, ?_, by rw [v_stn_0, v_men_0]; exact h, v_rf.rf⟩
    show F_X12_foretold_l31_b K (F_X12_foretold_l31 K m) _ _ _ s = _
    unfold F_X12_foretold_l31_b
    rw [if_neg (by omega)]
  | succ j ih =>
    intro k m hk hm s day heat x st me h
    obtain ⟨m, rfl⟩ : ∃ q, m = q + 1 := ⟨m - 1, by omega⟩
    obtain ⟨s1, d1, h1, x1, st1, me1, g1, g2, g3, g4, g5⟩ := P_goOn h
    obtain ⟨s', d2, h2, x2, r1, r2, r3⟩ := ih (k + 1) m (by omega) (by omega) s1 d1 h1 x1 st1 me1 g2
    refine ⟨s', d2, h2, x2, ?_, by rw [g4, g5]; exact r2, g3.tr r3⟩
    show F_X12_foretold_l31_b K (F_X12_foretold_l31 K m) _ _ _ s = _
    unfold F_X12_foretold_l31_b
    rw [if_pos (by omega), g1, d_b_t, d_w_id (by omega) (by omega)]
    exact r1
theorem v_showl (hG : v_G (s.1 65) u v W H) (hZ : v_Z (s.1 65) N sg) (hB : v_B (s.1 65) st me so) : ∀ (j k m : Nat), k + j = N → j < m → F_X12_showing_l4 s m ((v_sb (v_shk sg me u v W H (v_bl u v)) k : Nat) : Int) (k : Int) = some ((v_sb (v_shk sg me u v W H (v_bl u v)) N : Nat) : Int) := by
  intro j
  induction j with
  | zero =>
    intro k m hk hm
    obtain ⟨m, rfl⟩ : ∃ q, m = q + 1 := ⟨m - 1, by omega⟩
    have hk : k = N := by omega
    subst hk
    show F_X12_showing_l4_b s (F_X12_showing_l4 s m) _ _ = _
    unfold F_X12_showing_l4_b
    rw [hZ.1, if_neg (by omega)]
  | succ j ih =>
    intro k m hk hm
    obtain ⟨m, rfl⟩ : ∃ q, m = q + 1 := ⟨m - 1, by omega⟩
    have hkN : k < N := by omega
    have hN12 := hZ.2.1
    have hlt : v_sb (v_shk sg me u v W H (v_bl u v)) k < 2 ^ k := v_sb_lt k
    have h12 := v_2p (n := k) (by omega)
    have hr := ih (k + 1) m (by omega) (by omega)
    show F_X12_showing_l4_b s (F_X12_showing_l4 s m) _ _ = _
    unfold F_X12_showing_l4_b
    simp only [v_sb] at hr
    rw [hZ.1, if_pos (by omega), P_isShowing hG hZ hB hkN, d_b_t, d_w_id (x := (k : Int) + 1) (by omega) (by omega)]
    by_cases q : v_shk sg me u v W H (v_bl u v) k
    · rw [if_pos q] at hr
      rw [v_bt q, if_neg (by decide), v_or1 (by omega) hlt]
      exact hr
    · rw [if_neg q] at hr
      rw [v_bf q, if_pos rfl, v_or0 ⟨by omega, by omega⟩]
      exact hr
theorem P_showing (hG : v_G (s.1 65) u v W H) (hZ : v_Z (s.1 65) N sg) (hB : v_B (s.1 65) st me so) : F_X12_showing s = some ((v_sb (v_shk sg me u v W H (v_bl u v)) N : Nat) : Int) := by
  unfold F_X12_showing
  exact v_showl hG hZ hB N 0 d_N (by omega) (by rw [d_N_is]; have := hZ.2.1; omega)
theorem v_R.come (h : v_R t s) : ∃ (e : Option Nat) (L : v_LR) (u v W H : Nat) (st me so : Nat → Nat) (N : Nat) (sg : Nat → Nat → Nat) (day heat x : Int), v_G (s.1 65) u v W H ∧ v_Q s u v W H ∧ v_B (s.1 65) st me so ∧ v_M s st me so ∧ v_Z (s.1 65) N sg ∧ v_S s N sg ∧ F_X9_ruler_3 s = some e ∧ v_CT t e L ∧ v_Y s day heat x ∧ v_Nm (s.1 49) ∧ v_go s L u v W H day heat x st me so ∧ v_C s u v W H ∧ ∀ n, n < N → (1 ≤ sg n 3 ∧ sg n 3 ≤ 3) ∧ (1 ≤ sg n 4 ∧ sg n 4 ≤ 3) ∧ sg n 1 + sg n 3 ≤ W ∧ sg n 2 + sg n 4 ≤ H := by
  obtain ⟨u, v, W, H, st, me, so, N, sg, hG, hQ, hB, hM, hZ, hS, hC, hBd⟩ := h.all
  obtain ⟨e, L, hE, hCT, hRT, hY, hN1, hN2, h9, h10⟩ := h.yardly
  have h13 : 0 ≤ s.1 65 13 ∧ s.1 65 13 < 30293 := h.2.1.2.2.2.2.2.2.1
  exact ⟨e, L, u, v, W, H, st, me, so, N, sg, _, _, _, hG, hQ, hB, hM, hZ, hS, hE, hCT, hY, hN1, ⟨hG, hRT, hN2, hB, ⟨rfl, rfl, rfl⟩, h9, h10, h13⟩, hC, hBd⟩
theorem v_cf.go (hc : v_cf s s1) (h : v_go s L u v W H day heat x st me so) : v_go s1 L u v W H day heat x st me so := by
  unfold v_go at h ⊢
  rw [hc.1 65 (by decide) (by decide) (by decide), hc.1 67 (by decide) (by decide) (by decide), hc.1 71 (by decide) (by decide) (by decide)]
  exact h
theorem v_R.came (h : v_R t s) {s3 : d_S} (hc : v_cf s s1) (hb : ∀ a, a ≠ 73 → s2.1 a = s1.1 a) (hb73 : ∀ i, 9 ≤ i → i < 212 → s2.1 73 i = s1.1 65 i) (hb2 : s2.2 = s1.2) (hr : v_rf s2 s3) (hN : v_Nm (s3.1 71)) : ∃ s', F_X12_putBack s3 = some s' ∧ v_R t s' := by
  have e65 : s1.1 65 = s.1 65 := hc.1 65 (by decide) (by decide) (by decide)
  obtain ⟨s', p1, p2, p3, p4⟩ := P_putBack (s := s3) (s0 := s) (fun i h1 h2 => by rw [hr.2.1 73 (by decide) (by decide), hb73 i h1 h2, e65]) (fun i hi => by rw [hr.1 i (by omega) (by omega) (by omega) (by omega), hb 65 (by decide), e65])
  refine ⟨s', p1, h.scr (fun a ha => ?_) (fun a ha => ?_) ⟨?_, ?_⟩⟩
  · by_cases q : a = 65
    · rw [q]; exact p2
    · unfold v_cl at ha
      rw [p3 a q, hr.2.1 a q (by omega), hb a (by omega), hc.1 a (by omega) (by omega) (by omega)]
  · rw [p4, hr.2.2, hb2]; exact hc.2.1 a ha
  · rw [p3 49 (by decide), hr.2.1 49 (by decide) (by decide), hb 49 (by decide)]; exact hc.2.2
  · rw [p3 71 (by decide)]; exact hN
theorem v_R.begun (hb : ∀ a, a ≠ 73 → s2.1 a = s1.1 a) (h : v_go s1 L u v W H day heat x st me so) : v_go s2 L u v W H day heat x st me so := by
  unfold v_go at h ⊢
  rw [hb 65 (by decide), hb 67 (by decide), hb 71 (by decide)]
  exact h
theorem R_foretold (h : v_R t s) {x1 x2 : Int} : v_AA t (F_X11_foretold t s x1 x2) (fun s1 => F_X12_foretold s1 x1 x2) := by
  obtain ⟨e, L, u, v, W, H, st, me, so, N, sg, day, heat, x, hG, hQ, hB, hM, hZ, hS, hE, hCT, hY, hN1, hgo, hC, hBd⟩ := h.come
  have hac := hG.ac
  have n10 : ¬ (1 : Int) = 0 := by decide
  by_cases c1 : 1 ≤ x1 ∧ x1 ≤ 60
  rotate_left
  · refine v_AA.same h (-1) ?_ ?_
    · unfold F_X11_foretold; rw [P_within, d_b_t, v_bf c1, if_pos rfl]
    · show F_X12_foretold s x1 x2 = _; unfold F_X12_foretold; rw [P_isIn, d_b_t, v_bf c1, if_pos rfl]
  obtain ⟨n, rfl⟩ : ∃ n : Nat, x1 = n := ⟨x1.toNat, by omega⟩
  have hcf : v_cf s s := ⟨fun _ _ _ _ => rfl, fun _ _ => rfl, hN1⟩
  
  have ref : ∀ (s1 : d_S) (y : Int), v_cf s s1 → ∃ s2 s3 s4 d1 h1 z1, F_X12_foretold_j25 (n : Int) y s1 = (if y = (-1) then d_b (F_X12_showing s3) (fun v5 => some (v5, s4)) else d_b (F_X12_get s3 y 1) (fun v7 => some (v7, s4))) ∧ v_go s3 L u v W H d1 h1 z1 (v_stn L u v W H day heat x st me so n) (v_men L u v W H day heat x st me so n) so ∧ v_Z (s3.1 65) N sg ∧ v_R t s4 ∧ v_rf s2 s3 := fun s1 y hc => by
    obtain ⟨s2, b1, b2, b3, b4⟩ := P_begin (s := s1)
    obtain ⟨s3, d1, h1, z1, r1, r2, r3⟩ := v_fol (L := L) (so := so) (K := fun x2_u4 s_u4 => if x2_u4 = (-1) then d_b (F_X12_showing s_u4) (fun v5 => F_X12_foretold_j64 v5 s_u4) else d_b (F_X12_get s_u4 x2_u4 1) (fun v7 => F_X12_foretold_j64 v7 s_u4)) (N' := n) (by omega) (y := y) n 0 d_N (by omega) (by rw [d_N_is]; omega) s2 day heat x st me (v_R.begun b3 (hc.go hgo))
    obtain ⟨s4, p1, p2⟩ := h.came hc b3 b2 b4 r3 r2.2.2.1
    refine ⟨s2, s3, s4, d1, h1, z1, ?_, r2, ?_, p2, r3⟩
    · unfold F_X12_foretold_j25
      rw [b1, d_b_t]
      refine r1.trans ?_
      unfold F_X12_foretold_j64
      rw [p1]; rfl
    · obtain ⟨z0, z12, zz⟩ := hZ
      have e65 : s2.1 65 = s.1 65 := (b3 65 (by decide)).trans (hc.1 65 (by decide) (by decide) (by decide))
      refine ⟨by rw [r3.1 0 (by decide) (by decide) (by decide) (by decide), e65]; exact z0, z12, fun n hn k hk => ?_⟩
      rw [r3.1 _ (by omega) (by omega) (by omega) (by omega), e65]
      exact zz n hn k hk
  by_cases c2 : x2 = -1
  · obtain ⟨s1, a1, a2⟩ := v_shbl (n := n) hM hQ hS hE hCT hY (by omega) (v_bl u v) 0 d_N (by omega) (by rw [d_N_is]; omega) s hcf
    rw [v_sb_no (fun n => by rintro ⟨b, h1, -⟩; omega)] at a1
    obtain ⟨s2, s3, s4, d1, h1, z1, r1, r2, r3, r4, -⟩ := ref s1 x2 a2
    refine ⟨((v_sb (v_shk sg (v_men L u v W H day heat x st me so n) u v W H (v_bl u v)) N : Nat) : Int), s1, s4, ?_, ?_, r4⟩
    · unfold F_X11_foretold F_X11_foretold_j25 F_X11_showingBehind
      rw [P_within, d_b_t, v_bt c1, if_neg n10, if_pos c2, if_pos c2]
      rw [show F_X11_showingBehind_l4 t d_N (n : Int) 0 0 s = _ from a1, d_b2_t]
    · show F_X12_foretold s1 (n : Int) x2 = _
      unfold F_X12_foretold
      rw [P_isIn, d_b_t, v_bt c1, if_neg n10, if_pos c2, r1, if_pos c2, P_showing r2.1 r3 r2.2.2.2.1, d_b_t]
  by_cases c3 : 0 ≤ x2 ∧ x2 < ((v_bl u v : Nat) : Int)
  rotate_left
  · refine v_AA.same h (-1) ?_ ?_
    · unfold F_X11_foretold; rw [P_within, d_b_t, v_bt c1, if_neg n10, if_neg c2, P_isBlockC hQ, d_b_t, v_bf c3, if_pos rfl]
    · show F_X12_foretold s (n : Int) x2 = _; unfold F_X12_foretold; rw [P_isIn, d_b_t, v_bt c1, if_neg n10, if_neg c2, P_isBlock hG, d_b_t, v_bf c3, if_pos rfl]
  obtain ⟨b, rfl⟩ : ∃ b : Nat, x2 = b := ⟨x2.toNat, by omega⟩
  have hb : b < v_bl u v := by omega
  obtain ⟨z2, s1, a1, a2, a3, a4, a5⟩ := P_course (n := n) hM hQ hb hE hCT hY hcf (by omega)
  obtain ⟨s2, s3, s4, d1, h1, z1, r1, r2, r3, r4, -⟩ := ref s1 (b : Int) a4
  have h9 : s1.1 47 9 = ((v_men L u v W H day heat x st me so n b : Nat) : Int) := by
    rw [a3.1.2.2.2.1]
    unfold v_men; rw [if_pos hb]; exact (Int.toNat_of_nonneg a3.2.1.2.2.2.1.1).symm
  refine ⟨((v_men L u v W H day heat x st me so n b : Nat) : Int), s1, s4, ?_, ?_, r4⟩
  · unfold F_X11_foretold F_X11_foretold_j25
    rw [P_within, d_b_t, v_bt c1, if_neg n10, if_neg c2, P_isBlockC hQ, d_b_t, v_bt c3, if_neg n10, if_neg c2, a1, d_b_t, a2, d_b_t, h9]
  · show F_X12_foretold s1 (n : Int) (b : Int) = _
    unfold F_X12_foretold
    rw [P_isIn, d_b_t, v_bt c1, if_neg n10, if_neg c2, P_isBlock (by rw [a4.1 65 (by decide) (by decide) (by decide)]; exact hG), d_b_t, v_bt c3, if_neg n10, r1, if_neg c2, P_get1 r2.2.2.2.1 (by omega), d_b_t]
end V33
def v_fst (P : Nat → Prop) (r : Nat) : Prop := r ≤ 61 ∧ (∀ d, d < r → ¬ P d) ∧ (r ≤ 60 → P r)
section V34
variable {s s1 s2 : d_S} {t : Nat → Option p_C} {L : v_LR} {u v W H b N n : Nat} {st me so : Nat → Nat} {sg : Nat → Nat → Nat} {day heat x : Int} {e : Option Nat}
theorem v_fst.uq {P : Nat → Prop} {r r' : Nat} (h : v_fst P r) (h' : v_fst P r') : r = r' := by
  obtain ⟨a1, a2, a3⟩ := h
  obtain ⟨b1, b2, b3⟩ := h'
  by_cases q1 : r < r'
  · exact absurd (a3 (by omega)) (b2 r q1)
  by_cases q2 : r' < r
  · exact absurd (b3 (by omega)) (a2 r' q2)
  omega
theorem v_fst.min {P Q R : Nat → Prop} {a b : Nat} (h : v_fst P a) (h' : v_fst Q b) (hR : ∀ d, R d ↔ P d ∨ Q d) : v_fst R (min a b) := by
  obtain ⟨a1, a2, a3⟩ := h
  obtain ⟨b1, b2, b3⟩ := h'
  refine ⟨by omega, fun d hd e => ?_, fun hm => ?_⟩
  · rcases (hR d).1 e with e | e
    · exact a2 d (by omega) e
    · exact b2 d (by omega) e
  · by_cases q : a ≤ b
    · rw [show Min.min a b = a by omega]
      exact (hR a).2 (Or.inl (a3 (by omega)))
    · rw [show Min.min a b = b by omega]
      exact (hR b).2 (Or.inr (b3 (by omega)))
theorem v_fst.cg {P Q : Nat → Prop} {r : Nat} (h : v_fst P r) (hPQ : ∀ d, Q d ↔ P d) : v_fst Q r :=
  ⟨h.1, fun d hd e => h.2.1 d hd ((hPQ d).1 e), fun hr => (hPQ r).2 (h.2.2 hr)⟩
theorem v_dual {T : Nat} (hT : T ≤ 2000) (hbl : b < v_bl u v) (hok : ∀ d, v_ok (v_qn L u v W H day heat x st me so d b)) (hCT : v_CT t e L) : ∀ (j d m : Nat), d + j = 61 → j < m → ∀ s1, v_K s1 (v_qn L u v W H day heat x st me so d b) ((so b : Nat) : Int) → s1.2.1 47 3 = e → v_tb s1 ((v_sz u v W H b : Nat) : Int) ((v_ed u v W H b : Nat) : Int) → v_cf s s1 → (∀ i, i < d → ¬ T < v_men L u v W H day heat x st me so i b) → ∃ (r : Nat) (s' : d_S), F_X0_daysUntilAbove_l7 t m (T : Int) (d : Int) s1 = some ((r : Int), s') ∧ v_fst (fun i => T < v_men L u v W H day heat x st me so i b) r ∧ v_cf s s' := by
  intro j
  induction j with
  | zero =>
    intro d m hd hm s1 hK he hb hc hi
    obtain ⟨m, rfl⟩ : ∃ q, m = q + 1 := ⟨m - 1, by omega⟩
    have hd : d = 61 := by omega
    subst hd
    refine ⟨61, s1, ?_, ⟨by omega, hi, fun h => by omega⟩, hc⟩
    show F_X0_daysUntilAbove_l7_b t (F_X0_daysUntilAbove_l7 t m) _ _ s1 = _
    unfold F_X0_daysUntilAbove_l7_b
    rw [if_pos (by omega)]; rfl
  | succ j ih =>
    intro d m hd hm s1 hK he hb hc hi
    obtain ⟨m, rfl⟩ : ∃ q, m = q + 1 := ⟨m - 1, by omega⟩
    have h9 : s1.1 47 9 = ((v_men L u v W H day heat x st me so d b : Nat) : Int) := by
      rw [hK.1.2.2.2.1]
      unfold v_men; rw [if_pos hbl]; exact (Int.toNat_of_nonneg (hok d).2.2.2.1.1).symm
    show ∃ (r : Nat) (s' : d_S), F_X0_daysUntilAbove_l7_b t (F_X0_daysUntilAbove_l7 t m) _ _ s1 = _ ∧ _
    unfold F_X0_daysUntilAbove_l7_b
    rw [if_neg (by omega), h9]
    by_cases q : T < v_men L u v W H day heat x st me so d b
    · rw [if_pos (by omega)]
      exact ⟨d, s1, rfl, ⟨by omega, hi, fun _ => q⟩, hc⟩
    rw [if_neg (by omega)]
    obtain ⟨s2, b1, b2, b3, b4, b5, b6⟩ := P_run (t := t) (L := L) (n := 1) (by decide) (by rw [he]; exact hCT) hK hb
    have hc2 : v_cf s s2 := ⟨fun a h1 h2 h3 => by rw [b3 a h1 h2 h3, hc.1 a h1 h2 h3], fun a ha => by rw [b4, hc.2.1 a ha], b5.2.2⟩
    obtain ⟨r, s', r1, r2, r3⟩ := ih (d + 1) m (by omega) (by omega) s2 (by
      unfold v_qn at b2 ⊢
      rw [← v_rn_1]; exact b2) (by rw [b4]; exact he) b5 hc2 (fun i h1 => by
      by_cases z : i = d
      · rw [z]; exact q
      · exact hi i (by omega))
    refine ⟨r, s', ?_, r2, r3⟩
    rw [show F_X0_run t s1 1 = some s2 from b1, d_b_t, d_w_id (by omega) (by omega)]
    exact r1
theorem P_until {T : Nat} (hT : T ≤ 2000) (hM : v_M s st me so) (hQ : v_Q s u v W H) (hb : b < v_bl u v) (hE : F_X9_ruler_3 s = some e) (hCT : v_CT t e L) (hY : v_Y s day heat x) (hc : v_cf s s1) : ∃ (r : Nat) (s' : d_S), F_X0_daysUntilAbove t s1 (b : Int) (T : Int) = some ((r : Int), s') ∧ v_fst (fun i => T < v_men L u v W H day heat x st me so i b) r ∧ v_cf s s' := by
  have hY' := hY
  obtain ⟨⟨a, b', c⟩, d1, d2, d3⟩ := hY'
  have hY1 : v_Y s1 day heat x := ⟨by rw [hc.1 6 (by decide) (by decide) (by decide)]; exact ⟨a, b', c⟩, d1, d2, d3⟩
  have hE1 : F_X9_ruler_3 s1 = some e := by rw [P_ruler_fr (hc.1 3 (by decide) (by decide) (by decide)) (hc.2.1 5 (by decide))]; exact hE
  obtain ⟨-, m1, m2, m3⟩ := hM b (by have := hQ.2.2.1; omega)
  obtain ⟨s2, a1, a2, a3, a4, a5, a6, a7⟩ := P_start (hM.fr (hc.1 7 (by decide) (by decide) (by decide))) (hQ.fr (fun a h1 h2 => hc.1 a (by omega) (by omega) (by omega))) hb hE1 hY1 hc.2.2
  have hc2 : v_cf s s2 := ⟨fun a h1 h2 h3 => by rw [a6 a h1 h2, hc.1 a h1 h2 h3], fun a ha => by rw [a7 a ha, hc.2.1 a ha], a5.2.2⟩
  obtain ⟨r, s', r1, r2, r3⟩ := v_dual (s := s) (L := L) (T := T) (day := day) (heat := heat) (x := x) (st := st) (me := me) (so := so) hT hb (fun d => v_qn_ok d1 d2 d3 m1 m2) hCT 61 0 d_N rfl (by rw [d_N_is]; decide) s2 a2 a4 a5 hc2 (fun i hi => absurd hi (Nat.not_lt_zero i))
  refine ⟨r, s', ?_, r2, r3⟩
  unfold F_X0_daysUntilAbove
  rw [a1, d_b_t]
  exact r1
theorem v_siCl {K : Int → d_S → Option (Int × d_S)} (hM : v_M s st me so) (hQ : v_Q s u v W H) (hS : v_S s N sg) (hE : F_X9_ruler_3 s = some e) (hCT : v_CT t e L) (hY : v_Y s day heat x) (hn : n < N) : ∀ (j k m : Nat), k + j = v_bl u v → j < m → ∀ (s1 : d_S) (r : Nat), v_cf s s1 → v_fst (fun d => v_shk sg (v_men L u v W H day heat x st me so d) u v W H k n) r → ∃ (r' : Nat) (s' : d_S), F_X11_showsIn_l15 t K m (n : Int) (r : Int) (k : Int) s1 = K (r' : Int) s' ∧ v_fst (fun d => v_shk sg (v_men L u v W H day heat x st me so d) u v W H (v_bl u v) n) r' ∧ v_cf s s' := by
  have h64 := hQ.2.2.1
  intro j
  induction j with
  | zero =>
    intro k m hk hm s1 r hc hr
    obtain ⟨m, rfl⟩ : ∃ q, m = q + 1 := ⟨m - 1, by omega⟩
    have hk : k = v_bl u v := by omega
    subst hk
    refine ⟨r, s1, ?_, hr, hc⟩
    show F_X11_showsIn_l15_b t K (F_X11_showsIn_l15 t K m) _ _ _ s1 = _
    unfold F_X11_showsIn_l15_b
    rw [hc.1 37 (by decide) (by decide) (by decide), hQ.1, if_neg (by omega)]
  | succ j ih =>
    intro k m hk hm s1 r hc hr
    obtain ⟨m, rfl⟩ : ∃ q, m = q + 1 := ⟨m - 1, by omega⟩
    have hkb : k < v_bl u v := by omega
    have hQ1 : v_Q s1 u v W H := hQ.fr (fun a h1 h2 => hc.1 a (by omega) (by omega) (by omega))
    have hS1 : v_S s1 N sg := by
      unfold v_S at hS ⊢
      rw [hc.1 3 (by decide) (by decide) (by decide), hc.1 4 (by decide) (by decide) (by decide)]; exact hS
    have h5 := hS.le hn (k := 5) (by decide)
    show ∃ (r' : Nat) (s' : d_S), F_X11_showsIn_l15_b t K (F_X11_showsIn_l15 t K m) _ _ _ s1 = _ ∧ _
    unfold F_X11_showsIn_l15_b
    rw [hQ1.1, if_pos (by omega), P_cellsOfC hQ1 hS1 hkb hn, d_b_t, d_w_id (x := (k : Int) + 1) (by omega) (by omega)]
    by_cases q : 0 < v_ce sg u v W H n k
    rotate_left
    · rw [if_neg (by omega)]
      exact ih (k + 1) m (by omega) (by omega) s1 r hc (hr.cg (fun d => ⟨fun h => by
        rcases v_shk_s.1 h with h | h
        · exact h
        · exact absurd h.2 q, fun h => v_shk_s.2 (Or.inl h)⟩))
    rw [if_pos (by omega), P_sightPart hS1 hn (by decide) (by decide), d_b_t, show (5 : Int).toNat = 5 from rfl, d_w_id (x := ((sg n 5 : Nat) : Int) * 10) (by omega) (by omega), show ((sg n 5 : Nat) : Int) * 10 = ((sg n 5 * 10 : Nat) : Int) by omega]
    obtain ⟨r2, s2, a1, a2, a3⟩ := P_until (T := sg n 5 * 10) (L := L) (by omega) hM hQ hkb hE hCT hY hc
    obtain ⟨r', s', c1, c2, c3⟩ := ih (k + 1) m (by omega) (by omega) s2 (min r r2) a3 (hr.min a2 (fun d => ⟨fun h => by
      rcases v_shk_s.1 h with h | h
      · exact Or.inl h
      · exact Or.inr h.1, fun h => by
      rcases h with h | h
      · exact v_shk_s.2 (Or.inl h)
      · exact v_shk_s.2 (Or.inr ⟨h, q⟩)⟩))
    refine ⟨r', s', ?_, c2, c3⟩
    rw [a1, d_b2_t, P_min, d_b_t, show min (r : Int) (r2 : Int) = ((min r r2 : Nat) : Int) by omega]
    exact c1
theorem v_siRl {K : Int → d_S → Option (Int × d_S)} (hn : n < N) {P : Nat → Prop} : ∀ (j d m : Nat), d + j = 61 → j + 1 < m → ∀ (s : d_S) (day heat x : Int) (st me : Nat → Nat), v_go s L u v W H day heat x st me so → v_Z (s.1 65) N sg → (∀ i, P (d + i) ↔ v_shk sg (v_men L u v W H day heat x st me so i) u v W H (v_bl u v) n) → (∀ i, i < d → ¬ P i) → ∃ (r : Nat) (s' : d_S), F_X12_showsIn_l18 K m (n : Int) (-1) (d : Int) s = K (if r ≤ 60 then (r : Int) else -1) s' ∧ v_fst P r ∧ v_rf s s' ∧ v_Nm (s'.1 71) := by
  intro j
  induction j with
  | zero =>
    intro d m hd hm s day heat x st me h hZ hP hi
    obtain ⟨m, rfl⟩ : ∃ q, m = q + 1 := ⟨m - 1, by omega⟩
    have hd : d = 61 := by omega
    subst hd
    refine ⟨61, s, ?_, ⟨by omega, hi, fun h => by omega⟩, v_rf.rf, h.2.2.1⟩
    show F_X12_showsIn_l18_b K (F_X12_showsIn_l18 K m) _ _ _ s = _
    unfold F_X12_showsIn_l18_b
    rw [if_pos (by omega)]; rfl
  | succ j ih =>
    intro d m hd hm s day heat x st me h hZ hP hi
    obtain ⟨m, rfl⟩ : ∃ q, m = q + 1 := ⟨m - 1, by omega⟩
    obtain ⟨s1, d1, h1, x1, st1, me1, g1, g2, g3, g4, g5⟩ := P_goOn h
    have h0 := hP 0
    rw [v_men_0, Nat.add_zero] at h0
    show ∃ (r : Nat) (s' : d_S), F_X12_showsIn_l18_b K (F_X12_showsIn_l18 K m) _ _ _ s = _ ∧ _
    unfold F_X12_showsIn_l18_b
    rw [if_neg (by omega), if_pos rfl, P_isShowing h.1 hZ h.2.2.2.1 hn, d_b_t]
    unfold F_X12_showsIn_j39
    rw [g1, d_b_t, d_b_t, d_w_id (by omega) (by omega)]
    by_cases q : v_shk sg me u v W H (v_bl u v) n
    · rw [v_bt q, if_neg (show ¬ (1 : Int) = 0 by decide)]
      refine ⟨d, s1, ?_, ⟨by omega, hi, fun _ => h0.2 q⟩, g3, g2.2.2.1⟩
      obtain ⟨m, rfl⟩ : ∃ q, m = q + 1 := ⟨m - 1, by omega⟩
      show F_X12_showsIn_l18_b K (F_X12_showsIn_l18 K m) _ _ _ s1 = _
      unfold F_X12_showsIn_l18_b
      rw [if_pos (show d ≤ 60 by omega)]
      by_cases q6 : (60 : Int) < (d : Int) + 1
      · rw [if_pos q6]
      · rw [if_neg q6, if_neg (by omega)]
    · rw [v_bf q, if_pos rfl]
      have hZ1 : v_Z (s1.1 65) N sg := by
        obtain ⟨z0, z12, zz⟩ := hZ
        refine ⟨by rw [g3.1 0 (by decide) (by decide) (by decide) (by decide)]; exact z0, z12, fun n hn k hk => ?_⟩
        rw [g3.1 _ (by omega) (by omega) (by omega) (by omega)]
        exact zz n hn k hk
      obtain ⟨r, s', r1, r2, r3, r4⟩ := ih (d + 1) m (by omega) (by omega) s1 d1 h1 x1 st1 me1 g2 hZ1 (fun i => by rw [← g5, ← hP (i + 1), show d + 1 + i = d + (i + 1) by omega]) (fun i hi2 => by
        by_cases z : i = d
        · rw [z]; exact fun e => q (h0.1 e)
        · exact hi i (by omega))
      exact ⟨r, s', r1, r2, g3.tr r3, r4⟩
theorem R_showsIn (h : v_R t s) {x1 : Int} : v_AA t (F_X11_showsIn t s x1) (fun s1 => F_X12_showsIn s1 x1) := by
  obtain ⟨e, L, u, v, W, H, st, me, so, N, sg, day, heat, x, hG, hQ, hB, hM, hZ, hS, hE, hCT, hY, hN1, hgo, hC, hBd⟩ := h.come
  have hac := hG.ac
  have n10 : ¬ (1 : Int) = 0 := by decide
  by_cases c1 : 0 ≤ x1 ∧ x1 < (N : Int)
  rotate_left
  · refine v_AA.same h (-1) ?_ ?_
    · unfold F_X11_showsIn; rw [P_isSightC hS, d_b_t, v_bf c1, if_pos rfl]
    · show F_X12_showsIn s x1 = _; unfold F_X12_showsIn; rw [P_isSight hZ, d_b_t, v_bf c1, if_pos rfl]
  obtain ⟨n, rfl⟩ : ∃ n : Nat, x1 = n := ⟨x1.toNat, by omega⟩
  have hn : n < N := by omega
  have hcf : v_cf s s := ⟨fun _ _ _ _ => rfl, fun _ _ => rfl, hN1⟩
  obtain ⟨r, s1, a1, a2, a3⟩ := v_siCl (K := fun x2_u7 s_u7 => if 60 < x2_u7 then some ((-1), s_u7) else some (x2_u7, s_u7)) hM hQ hS hE hCT hY hn (v_bl u v) 0 d_N (by omega) (by rw [d_N_is]; omega) s 61 hcf ⟨by omega, fun d _ => by rintro ⟨b, h1, -⟩; omega, fun h => by omega⟩
  obtain ⟨s2, b1, b2, b3, b4⟩ := P_begin (s := s1)
  have hZ2 : v_Z (s2.1 65) N sg := by rw [b3 65 (by decide), a3.1 65 (by decide) (by decide) (by decide)]; exact hZ
  obtain ⟨r', s3, c1', c2, c3, c4⟩ := v_siRl (K := fun x2_u5 s_u5 => d_b (F_X12_putBack s_u5) (fun s6 => some (x2_u5, s6))) (sg := sg) hn (P := fun d => v_shk sg (v_men L u v W H day heat x st me so d) u v W H (v_bl u v) n) 61 0 d_N rfl (by rw [d_N_is]; decide) s2 day heat x st me (v_R.begun b3 (a3.go hgo)) hZ2 (fun i => by rw [Nat.zero_add]) (fun i hi => absurd hi (Nat.not_lt_zero i))
  have e := a2.uq c2
  subst e
  obtain ⟨s4, p1, p2⟩ := h.came a3 b3 b2 b4 c3 c4
  refine ⟨if r ≤ 60 then (r : Int) else -1, s1, s4, ?_, ?_, p2⟩
  · unfold F_X11_showsIn
    rw [P_isSightC hS, d_b_t, v_bt c1, if_neg n10]
    refine (show F_X11_showsIn_l15 t _ d_N (n : Int) 61 0 s = _ from a1).trans ?_
    by_cases q : r ≤ 60
    · rw [if_pos q]; show (if (60 : Int) < (r : Int) then _ else _) = _; rw [if_neg (by omega)]
    · rw [if_neg q]; show (if (60 : Int) < (r : Int) then _ else _) = _; rw [if_pos (by omega)]
  · show F_X12_showsIn s1 (n : Int) = _
    unfold F_X12_showsIn
    rw [P_isSight (by rw [a3.1 65 (by decide) (by decide) (by decide)]; exact hZ), d_b_t, v_bt c1, if_neg n10, b1, d_b_t]
    refine (show F_X12_showsIn_l18 _ d_N (n : Int) (-1) 0 s2 = _ from c1').trans ?_
    show d_b (F_X12_putBack s3) _ = _
    rw [p1, d_b_t]
end V34

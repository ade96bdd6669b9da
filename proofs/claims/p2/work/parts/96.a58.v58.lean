section V58
variable {s : d_S} {t : Nat → Option p_C} {u v W H N : Nat} {st me so : Nat → Nat} {sg : Nat → Nat → Nat}
theorem v_sawR1 {K : Int → Int → Int → Int → Int → Int → Int → Option Int} {S m x shU shL : Nat} {y : Int} {o : Option (Nat × Nat)} (hZ : v_Z (s.1 65) N sg) (hBd : v_Bd sg N W H) (hS : S < 2 ^ N) (hW : 1 ≤ W ∧ W ≤ 8) (hH : 1 ≤ H ∧ H ≤ 8) (hx : x < 128) (hm : 1 ≤ m ∧ m ≤ 64) (h17 : s.1 65 17 = (H : Int)) (eU : shU = v_lm (fun n => v_mk (sg n 1) (sg n 3)) S N) (eL : shL = v_lm (fun n => v_mk (sg n 2) (sg n 4)) S N) : ∀ (j n f : Nat), n + j = 2 ^ (H - 1) → j < f → F_X12_sawing_l84 s K f (S : Int) (m : Int) y (v_w1 (v_ud o x (v_nn2 shU shL W H m x n))) (v_r2 (v_ud o x (v_nn2 shU shL W H m x n))) (v_r3 (v_ud o x (v_nn2 shU shL W H m x n))) (x : Int) ((v_lp x W : Nat) : Int) (n : Int) = K (S : Int) (m : Int) y (v_w1 (v_ud o x (v_nn2 shU shL W H m x (2 ^ (H - 1))))) (v_r2 (v_ud o x (v_nn2 shU shL W H m x (2 ^ (H - 1))))) (v_r3 (v_ud o x (v_nn2 shU shL W H m x (2 ^ (H - 1))))) (x : Int) := by
  have hpH := v_2pH hH
  have hN := hZ.2.1
  have hS4 : S < 4096 := Nat.lt_of_lt_of_le hS (Nat.pow_le_pow_right (n := 2) (j := 12) (by decide) hN)
  have hlpx := v_lp_le (u := x) (W := W)
  intro j
  induction j with
  | zero =>
    intro n f hn hf
    obtain ⟨f, rfl⟩ : ∃ q, f = q + 1 := ⟨f - 1, by omega⟩
    have hn : n = 2 ^ (H - 1) := by omega
    subst hn
    show F_X12_sawing_l84_b s K (F_X12_sawing_l84 s K f) _ _ _ _ _ _ _ _ _ = _
    unfold F_X12_sawing_l84_b
    rw [h17, v_1shH hH, if_neg (by omega)]
  | succ j ih =>
    intro n f hn hf
    obtain ⟨f, rfl⟩ : ∃ q, f = q + 1 := ⟨f - 1, by omega⟩
    have hr := ih (n + 1) f (by omega) (by omega)
    have hlpn := v_lp_le (u := n) (W := H)
    have hb1 := v_blb (x := x) (y := n)
    have e1 : ((v_pc x 12 : Nat) : Int) + 1 = ((v_ac x : Nat) : Int) := rfl
    have e2 : ((v_pc n 12 : Nat) : Int) + 1 = ((v_ac n : Nat) : Int) := rfl
    have e3 : ((v_ac x : Nat) : Int) * ((v_ac n : Nat) : Int) = ((v_bl x n : Nat) : Int) := by rw [← Int.natCast_mul]; rfl
    have e4 : ((v_lp x W : Nat) : Int) * ((v_lp n H : Nat) : Int) = ((v_lp x W * v_lp n H : Nat) : Int) := by rw [← Int.natCast_mul]
    have hm64 : v_lp x W * v_lp n H ≤ 64 := Nat.mul_le_mul (show v_lp x W ≤ 8 by omega) (show v_lp n H ≤ 8 by omega)
    have stay : ¬ (x &&& shU = 0 ∧ v_pq shL H m (v_lp x W) n = true) → v_nn2 shU shL W H m x (n + 1) = v_nn2 shU shL W H m x n := fun hh => by
      unfold v_nn2
      by_cases z : x &&& shU = 0
      · rw [if_pos z, if_pos z]
        refine v_bz_f ?_
        cases e : v_pq shL H m (v_lp x W) n
        · rfl
        · exact absurd ⟨z, e⟩ hh
      · rw [if_neg z, if_neg z]
    show F_X12_sawing_l84_b s K (F_X12_sawing_l84 s K f) _ _ _ _ _ _ _ _ _ = _
    unfold F_X12_sawing_l84_b
    rw [h17, v_1shH hH, if_pos (by omega), P_bits (by omega), d_b_t, P_bits (by omega), d_b_t, d_l_t, e1, e2, e3, d_w_id (x := ((v_bl x n : Nat) : Int)) (by omega) (by omega), d_w_id (x := (n : Int) + 1) (by omega) (by omega)]
    by_cases q : x &&& shU = 0 ∧ v_pq shL H m (v_lp x W) n = true
    · have e5 : v_ud o x (v_nn2 shU shL W H m x (n + 1)) = if v_w1 (v_ud o x (v_nn2 shU shL W H m x n)) < ((v_bl x n : Nat) : Int) then some (x, n) else v_ud o x (v_nn2 shU shL W H m x n) := by
        unfold v_nn2
        rw [if_pos q.1, if_pos q.1]
        exact v_ud_s q.2
      rw [e5] at hr
      by_cases q1 : v_w1 (v_ud o x (v_nn2 shU shL W H m x n)) < ((v_bl x n : Nat) : Int)
      · rw [if_pos q1] at hr
        have q2 := q.2
        unfold v_pq at q2
        rw [Bool.and_eq_true] at q2
        have q3 := Nat.eq_of_beq_eq_true q2.1
        have q4 := Nat.le_of_ble_eq_true q2.2
        have q5 : S &&& v_sb (v_un sg x n) N = S := (v_alw hS).2 ⟨by rw [← eU]; exact q.1, by rw [← eL]; exact q3⟩
        rw [if_pos q1, P_leastPart (by omega) hH.2, d_b_t, e4, d_w_id (by omega) (by omega), if_neg (by omega), P_wholeBy hZ hBd hx (by omega), d_b_t, if_pos ((v_andn hS4 (v_sb12 hN)).2 q5)]
        exact hr
      · rw [if_neg q1] at hr
        rw [if_neg q1]
        exact hr
    · rw [stay q] at hr
      by_cases q1 : v_w1 (v_ud o x (v_nn2 shU shL W H m x n)) < ((v_bl x n : Nat) : Int)
      · rw [if_pos q1, P_leastPart (by omega) hH.2, d_b_t, e4, d_w_id (by omega) (by omega)]
        by_cases q2 : v_lp x W * v_lp n H < m
        · rw [if_pos (by omega)]
          exact hr
        · rw [if_neg (by omega), P_wholeBy hZ hBd hx (by omega), d_b_t]
          by_cases q3 : S &&& v_sb (v_un sg x n) N = S
          · have q4 := (v_alw hS).1 q3
            rw [← eU, ← eL] at q4
            exact absurd ⟨q4.1, v_pq_t q4.2 (by omega)⟩ q
          · rw [if_neg (fun e => q3 ((v_andn hS4 (v_sb12 hN)).1 e))]
            exact hr
      · rw [if_neg q1]
        exact hr
theorem v_nn2_0 {shU shL m x : Nat} : v_nn2 shU shL W H m x 0 = none := by
  unfold v_nn2
  split <;> rfl
theorem v_sawR2 {K : Int → Int → Int → Int → Option Int} {S m shU shL : Nat} {y : Int} (hZ : v_Z (s.1 65) N sg) (hBd : v_Bd sg N W H) (hS : S < 2 ^ N) (hW : 1 ≤ W ∧ W ≤ 8) (hH : 1 ≤ H ∧ H ≤ 8) (hm : 1 ≤ m ∧ m ≤ 64) (h16 : s.1 65 16 = (W : Int)) (h17 : s.1 65 17 = (H : Int)) (eU : shU = v_lm (fun n => v_mk (sg n 1) (sg n 3)) S N) (eL : shL = v_lm (fun n => v_mk (sg n 2) (sg n 4)) S N) : ∀ (j n f : Nat), n + j = 2 ^ (W - 1) → j < f → F_X12_sawing_l51 s K f (S : Int) (m : Int) y (v_w1 (v_wsz shU shL W H m n)) (v_r2 (v_wsz shU shL W H m n)) (v_r3 (v_wsz shU shL W H m n)) (n : Int) = K y (v_w1 (v_wsz shU shL W H m (2 ^ (W - 1)))) (v_r2 (v_wsz shU shL W H m (2 ^ (W - 1)))) (v_r3 (v_wsz shU shL W H m (2 ^ (W - 1)))) := by
  have hpW := v_2pH hW
  have hpH := v_2pH hH
  intro j
  induction j with
  | zero =>
    intro n f hn hf
    obtain ⟨f, rfl⟩ : ∃ q, f = q + 1 := ⟨f - 1, by omega⟩
    have hn : n = 2 ^ (W - 1) := by omega
    subst hn
    show F_X12_sawing_l51_b s K (F_X12_sawing_l51 s K f) _ _ _ _ _ _ _ = _
    unfold F_X12_sawing_l51_b
    rw [h16, v_1shH hW, if_neg (by omega)]
  | succ j ih =>
    intro n f hn hf
    obtain ⟨f, rfl⟩ : ∃ q, f = q + 1 := ⟨f - 1, by omega⟩
    have hr := ih (n + 1) f (by omega) (by omega)
    have h1 := v_sawR1 (K := fun x1 x2 x3 x4 x5 x6 x7 => F_X12_sawing_l51 s K f x1 x2 x3 x4 x5 x6 (d_w (x7 + 1))) (y := y) (o := v_wsz shU shL W H m n) hZ hBd hS hW hH (show n < 128 by omega) hm h17 eU eL (2 ^ (H - 1)) 0 d_N (by omega) (by rw [d_N_is]; omega)
    rw [v_nn2_0] at h1
    show F_X12_sawing_l51_b s K (F_X12_sawing_l51 s K f) _ _ _ _ _ _ _ = _
    unfold F_X12_sawing_l51_b
    rw [h16, v_1shH hW, if_pos (by omega), P_leastPart (by omega) hW.2, d_b_t]
    refine h1.trans ?_
    show F_X12_sawing_l51 s K f _ _ _ _ _ _ (d_w ((n : Int) + 1)) = _
    rw [d_w_id (x := (n : Int) + 1) (by omega) (by omega)]
    exact hr
theorem R_sawing (h : v_R t s) {x1 x2 x3 : Int} : v_AA t (F_X11_sawing s x1 x2 x3) (fun s1 => d_b (F_X12_sawing s1 x1 x2 x3) (fun v => some (v, s1))) := by
  obtain ⟨u, v, W, H, st, me, so, N, sg, hG, hQ, hB, hM, hZ, hS, hC, hBd⟩ := h.all
  have hN := hZ.2.1
  have h30 : s.1 3 0 = (W : Int) := hC.1.2.2.1
  have h31 : s.1 3 1 = (H : Int) := hC.1.2.2.2
  have hW := hG.2.2.2.1
  have hH := hG.2.2.2.2.1
  have hp : 1 ≤ 2 ^ N := Nat.one_le_two_pow
  have hp2 : 2 ^ N ≤ 4096 := Nat.pow_le_pow_right (n := 2) (j := 12) (by decide) hN
  have eN : d_w (d_shl 1 (N : Int) - 1) = ((2 ^ N - 1 : Nat) : Int) := by rw [v_1shl (by omega), d_w_id (by omega) (by omega)]; omega
  have no : ¬ ((0 ≤ x1 ∧ x1 ≤ ((2 ^ N - 1 : Nat) : Int)) ∧ (1 ≤ x2 ∧ x2 ≤ 64) ∧ (0 ≤ x3 ∧ x3 ≤ 2)) → v_AA t (F_X11_sawing s x1 x2 x3) (fun s1 => d_b (F_X12_sawing s1 x1 x2 x3) (fun v => some (v, s1))) := fun hh => by
    refine v_AA.same h (-1) ?_ ?_
    · unfold F_X11_sawing F_X11_sawing_j42
      rw [hS.1, eN, P_within, d_b_t]
      by_cases c1 : 0 ≤ x1 ∧ x1 ≤ ((2 ^ N - 1 : Nat) : Int)
      · rw [v_bt c1, if_neg (by decide), P_within, d_b_t]
        by_cases c2 : 1 ≤ x2 ∧ x2 ≤ 64
        · rw [v_bt c2, if_neg (by decide), P_within, d_b_t, v_bf (fun e => hh ⟨c1, c2, e⟩), if_pos rfl]
        · rw [v_bf c2, if_pos rfl]
      · rw [v_bf c1, if_pos rfl]
    · show d_b (F_X12_sawing s x1 x2 x3) _ = _
      have : F_X12_sawing s x1 x2 x3 = some (-1) := by
        unfold F_X12_sawing
        rw [hZ.1, eN, P_isIn, d_b_t]
        by_cases c1 : 0 ≤ x1 ∧ x1 ≤ ((2 ^ N - 1 : Nat) : Int)
        · rw [v_bt c1, if_neg (by decide), P_isIn, d_b_t]
          by_cases c2 : 1 ≤ x2 ∧ x2 ≤ 64
          · rw [v_bt c2, if_neg (by decide), P_isIn, d_b_t, v_bf (fun e => hh ⟨c1, c2, e⟩), if_pos rfl]
          · rw [v_bf c2, if_pos rfl]
        · rw [v_bf c1, if_pos rfl]
      rw [this, d_b_t]
  by_cases hc : (0 ≤ x1 ∧ x1 ≤ ((2 ^ N - 1 : Nat) : Int)) ∧ (1 ≤ x2 ∧ x2 ≤ 64) ∧ (0 ≤ x3 ∧ x3 ≤ 2)
  rotate_left
  · exact no hc
  clear no
  obtain ⟨c1, c2, c3⟩ := hc
  obtain ⟨S, rfl⟩ : ∃ S : Nat, x1 = S := ⟨x1.toNat, by omega⟩
  obtain ⟨m, rfl⟩ : ∃ m : Nat, x2 = m := ⟨x2.toNat, by omega⟩
  have hS2 : S < 2 ^ N := by omega
  have hm : 1 ≤ m ∧ m ≤ 64 := by omega
  obtain ⟨shU, eU⟩ : ∃ z, z = v_lm (fun n => v_mk (sg n 1) (sg n 3)) S N := ⟨_, rfl⟩
  obtain ⟨shL, eL⟩ : ∃ z, z = v_lm (fun n => v_mk (sg n 2) (sg n 4)) S N := ⟨_, rfl⟩
  have hU : shU < 4096 := by
    rw [eU]
    have := v_lm_lt (f := fun n => v_mk (sg n 1) (sg n 3)) (S := S) N (fun j hj => v_mk_lt (hBd j hj).1 (hS.le hj (k := 1) (by decide)))
    omega
  have hL : shL < 4096 := by
    rw [eL]
    have := v_lm_lt (f := fun n => v_mk (sg n 2) (sg n 4)) (S := S) N (fun j hj => v_mk_lt (hBd j hj).2.1 (hS.le hj (k := 2) (by decide)))
    omega
  have l1 : F_X11_linesThrough s (S : Int) 1 = some (shU : Int) := by
    rw [P_lines hS hBd ⟨hW.2, hH.2⟩ (by omega), eU]; rfl
  have l0 : F_X11_linesThrough s (S : Int) 0 = some (shL : Int) := by
    rw [P_lines hS hBd ⟨hW.2, hH.2⟩ (by omega), eL]; rfl
  obtain ⟨s1, a1, a2, a3⟩ := P_findLevel (s := s) (sh := shL) hH hL h31
  have hpW := v_2pH hW
  have e30 : s1.1 3 0 = (W : Int) := by rw [a2.1 3 (by decide)]; exact h30
  have cl := v_sawC (K := fun x3_u11 x6_u11 x7_u11 x8_u11 s_u11 => if x3_u11 = 0 then some (x6_u11, s_u11) else if x3_u11 = 1 then some (x7_u11, s_u11) else some (x8_u11, s_u11)) (shU := shU) (shL := shL) (m := m) (y := x3) hW hH hU hm e30 a3 (2 ^ (W - 1)) 0 d_N (by omega) (by rw [d_N_is]; omega)
  have e65 : s1.1 65 = s.1 65 := a2.1 65 (by decide)
  have rf := v_sawR2 (s := s1) (K := fun x3_u11 x4_u11 x5_u11 x6_u11 => if x4_u11 = (-1) then some (-1) else if x3_u11 = 0 then some x4_u11 else if x3_u11 = 1 then some x5_u11 else some x6_u11) (shU := shU) (shL := shL) (m := m) (y := x3) (by rw [e65]; exact hZ) hBd hS2 hW hH hm (by rw [e65]; exact hG.1.2.2.1) (by rw [e65]; exact hG.1.2.2.2) eU eL (2 ^ (W - 1)) 0 d_N (by omega) (by rw [d_N_is]; omega)
  have hR1 : v_R t s1 := h.scr (fun a ha => a2.1 a (by simp only [List.mem_cons, List.not_mem_nil, or_false]; unfold v_cl at ha; omega)) (fun a _ => by rw [a2.2]) ⟨by rw [a2.1 49 (by decide)]; exact h.2.2.2.2.2.2.2.1.1, by rw [a2.1 71 (by decide)]; exact h.2.2.2.2.2.2.2.1.2⟩
  have fin : ∀ r : Int, (fun (x3_u11 x6_u11 x7_u11 x8_u11 : Int) (s_u11 : d_S) => if x3_u11 = 0 then some (x6_u11, s_u11) else if x3_u11 = 1 then some (x7_u11, s_u11) else some (x8_u11, s_u11)) x3 (v_w1 (v_wsz shU shL W H m (2 ^ (W - 1)))) (v_w2 (v_wsz shU shL W H m (2 ^ (W - 1)))) (v_w3 (v_wsz shU shL W H m (2 ^ (W - 1)))) s1 = some (r, s1) → (fun (x3_u11 x4_u11 x5_u11 x6_u11 : Int) => if x4_u11 = (-1) then some (-1) else if x3_u11 = 0 then some x4_u11 else if x3_u11 = 1 then some x5_u11 else some x6_u11) x3 (v_w1 (v_wsz shU shL W H m (2 ^ (W - 1)))) (v_r2 (v_wsz shU shL W H m (2 ^ (W - 1)))) (v_r3 (v_wsz shU shL W H m (2 ^ (W - 1)))) = some r → v_AA t (F_X11_sawing s (S : Int) (m : Int) x3) (fun s1 => d_b (F_X12_sawing s1 (S : Int) (m : Int) x3) (fun v => some (v, s1))) := fun r g1 g2 => by
    refine ⟨r, s1, s1, ?_, ?_, hR1⟩
    · unfold F_X11_sawing
      rw [hS.1, eN, P_within, d_b_t, v_bt c1, if_neg (by decide), P_within, d_b_t, v_bt c2, if_neg (by decide), P_within, d_b_t, v_bt c3, if_neg (by decide), l1, d_b_t, l0, d_b_t, a1, d_b_t]
      exact cl.trans g1
    · show d_b (F_X12_sawing s1 (S : Int) (m : Int) x3) _ = _
      have : F_X12_sawing s1 (S : Int) (m : Int) x3 = some r := by
        unfold F_X12_sawing
        rw [e65, hZ.1, eN, P_isIn, d_b_t, v_bt c1, if_neg (by decide), P_isIn, d_b_t, v_bt c2, if_neg (by decide), P_isIn, d_b_t, v_bt c3, if_neg (by decide)]
        exact rf.trans g2
      rw [this, d_b_t]
  cases e : v_wsz shU shL W H m (2 ^ (W - 1)) with
  | none =>
    rw [e] at fin
    refine fin (-1) ?_ (if_pos rfl)
    show (if x3 = 0 then some ((-1 : Int), s1) else if x3 = 1 then some ((-1 : Int), s1) else some ((-1 : Int), s1)) = _
    split
    · rfl
    · split <;> rfl
  | some p =>
    rw [e] at fin
    have hb := v_blb (x := p.1) (y := p.2)
    have h1 : ¬ v_w1 (some p) = -1 := by show ¬ ((v_bl p.1 p.2 : Nat) : Int) = -1; omega
    by_cases q0 : x3 = 0
    · exact fin (v_w1 (some p)) (if_pos q0) ((if_neg h1).trans (if_pos q0))
    · by_cases q1 : x3 = 1
      · exact fin (p.1 : Int) ((if_neg q0).trans (if_pos q1)) ((if_neg h1).trans ((if_neg q0).trans (if_pos q1)))
      · exact fin (p.2 : Int) ((if_neg q0).trans (if_neg q1)) ((if_neg h1).trans ((if_neg q0).trans (if_neg q1)))
end V58

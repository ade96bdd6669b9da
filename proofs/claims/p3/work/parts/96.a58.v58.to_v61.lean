section V58
variable {s : d_S} {t : Nat → Option p_C} {u v W H N : Nat} {st me so : Nat → Nat} {sg : Nat → Nat → Nat}
theorem v_sawR1 {K : Int → Int → Int → Int → Int → Int → Int → Option Int} {S m x shU shL : Nat} {y : Int} {o : Option (Nat × Nat)} (hZ : v_Z (s.1 65) N sg) (hBd : v_Bd sg N W H) (hS : S < 2 ^ N) (hW : 1 ≤ W ∧ W ≤ 8) (hH : 1 ≤ H ∧ H ≤ 8) (hx : x < 128) (hm : 1 ≤ m ∧ m ≤ 64) (h17 : s.1 65 17 = (H : Int)) (eU : shU = v_lm (fun n => v_mk (sg n 1) (sg n 3)) S N) (eL : shL = v_lm (fun n => v_mk (sg n 2) (sg n 4)) S N) : ∀ (j n f : Nat), n + j = 2 ^ (H - 1) → j < f → F_X12_sawing_l84 s K f (S : Int) (m : Int) y (v_w1 (v_ud o x (v_nn2 shU shL W H m x n))) (v_r2 (v_ud o x (v_nn2 shU shL W H m x n))) (v_r3 (v_ud o x (v_nn2 shU shL W H m x n))) (x : Int) ((v_lp x W : Nat) : Int) (n : Int) = K (S : Int) (m : Int) y (v_w1 (v_ud o x (v_nn2 shU shL W H m x (2 ^ (H - 1))))) (v_r2 (v_ud o x (v_nn2 shU shL W H m x (2 ^ (H - 1))))) (v_r3 (v_ud o x (v_nn2 shU shL W H m x (2 ^ (H - 1))))) (x : Int) := by
  have hpH := v_2pH hH
  have hN := hZ.2.1
  have hS4 : S < 4096 := Nat.lt_of_lt_of_le hS (Nat.pow_le_pow_right (n := 2) (j := 12) (by decide) hN)
  have hlpx := v_lp_le (u := x) (W := W)
  intro j
  induction j with
  | zero =>
    intro n f hn hf
    obtain ⟨f, rfl⟩ : ∃ q, f = q + 1 := ⟨f - 1, by omega⟩
    have hn : n = 2 ^ (H - 1) := by omega
    subst hn
    show F_X12_sawing_l84_b s K (F_X12_sawing_l84 s K f) _ _ _ _ _ _ _ _ _ = _
    unfold F_X12_sawing_l84_b
    rw [h17, v_1shH hH, if_neg (by omega)]
  | succ j ih =>
    intro n f hn hf
    obtain ⟨f, rfl⟩ : ∃ q, f = q + 1 := ⟨f - 1, by omega⟩
    have hr := ih (n + 1) f (by omega) (by omega)
    have hlpn := v_lp_le (u := n) (W := H)
    have hb1 := v_blb (x := x) (y := n)
    have e1 : ((v_pc x 12 : Nat) : Int) + 1 = ((v_ac x : Nat) : Int) := rfl
    have e2 : ((v_pc n 12 : Nat) : Int) + 1 = ((v_ac n : Nat) : Int) := rfl
    have e3 : ((v_ac x : Nat) : Int) * ((v_ac n : Nat) : Int) = ((v_bl x n : Nat) : Int) := by rw [← Int.natCast_mul]; rfl
    have e4 : ((v_lp x W : Nat) : Int) * ((v_lp n H : Nat) : Int) = ((v_lp x W * v_lp n H : Nat) : Int) := by rw [← Int.natCast_mul]
    have hm64 : v_lp x W * v_lp n H ≤ 64 := Nat.mul_le_mul (show v_lp x W ≤ 8 by omega) (show v_lp n H ≤ 8 by omega)
    have stay : ¬ (x &&& shU = 0 ∧ v_pq shL H m (v_lp x W) n = true) → v_nn2 shU shL W H m x (n + 1) = v_nn2 shU shL W H m x n := fun hh => by
      unfold v_nn2
      by_cases z : x &&& shU = 0
      · rw [if_pos z, if_pos z]
        refine v_bz_f ?_
        cases e : v_pq shL H m (v_lp x W) n
        · rfl
        · exact absurd ⟨z, e⟩ hh
      · rw [if_neg z, if_neg z]
    show F_X12_sawing_l84_b s K (F_X12_sawing_l84 s K f) _ _ _ _ _ _ _ _ _ = _
    unfold F_X12_sawing_l84_b
    rw [h17, v_1shH hH, if_pos (by omega), P_bits (by omega), d_b_t, P_bits (by omega), d_b_t, d_l_t, e1, e2, e3, d_w_id (x := ((v_bl x n : Nat) : Int)) (by omega) (by omega), d_w_id (x := (n : Int) + 1) (by omega) (by omega)]
    by_cases q : x &&& shU = 0 ∧ v_pq shL H m (v_lp x W) n = true
    · have e5 : v_ud o x (v_nn2 shU shL W H m x (n + 1)) = if v_w1 (v_ud o x (v_nn2 shU shL W H m x n)) < ((v_bl x n : Nat) : Int) then some (x, n) else v_ud o x (v_nn2 shU shL W H m x n) := by
        unfold v_nn2
        rw [if_pos q.1, if_pos q.1]
        exact v_ud_s q.2
      rw [e5] at hr
      by_cases q1 : v_w1 (v_ud o x (v_nn2 shU shL W H m x n)) < ((v_bl x n : Nat) : Int)
      · rw [if_pos q1] at hr
        have q2 := q.2
        unfold v_pq at q2
        rw [Bool.and_eq_true] at q2
        have q3 := Nat.eq_of_beq_eq_true q2.1
        have q4 := Nat.le_of_ble_eq_true q2.2
        have q5 : S &&& v_sb (v_un sg x n) N = S := (v_alw hS).2 ⟨by rw [← eU]; exact q.1, by rw [← eL]; exact q3⟩
        rw [if_pos q1, P_leastPart (by omega) hH.2, d_b_t, e4, d_w_id (by omega) (by omega), if_neg (by omega), P_wholeBy hZ hBd hx (by omega), d_b_t, if_pos ((v_andn hS4 (v_sb12 hN)).2 q5)]
        exact hr
      · rw [if_neg q1] at hr
        rw [if_neg q1]
        exact hr
    · rw [stay q] at hr
      by_cases q1 : v_w1 (v_ud o x (v_nn2 shU shL W H m x n)) < ((v_bl x n : Nat) : Int)
      · rw [if_pos q1, P_leastPart (by omega) hH.2, d_b_t, e4, d_w_id (by omega) (by omega)]
        by_cases q2 : v_lp x W * v_lp n H < m
        · rw [if_pos (by omega)]
          exact hr
        · rw [if_neg (by omega), P_wholeBy hZ hBd hx (by omega), d_b_t]
          by_cases q3 : S &&& v_sb (v_un sg x n) N = S
          · have q4 := (v_alw hS).1 q3
            rw [← eU, ← eL] at q4
            exact absurd ⟨q4.1, v_pq_t q4.2 (by omega)⟩ q
          · rw [if_neg (fun e => q3 ((v_andn hS4 (v_sb12 hN)).1 e))]
            exact hr
      · rw [if_neg q1]
        exact hr
theorem v_nn2_0 {shU shL m x : Nat} : v_nn2 shU shL W H m x 0 = none := by
  unfold v_nn2
  split <;> rfl
theorem v_sawR2 {K : Int → Int → Int → Int → Option Int} {S m shU shL : Nat} {y : Int} (hZ : v_Z (s.1 65) N sg) (hBd : v_Bd sg N W H) (hS : S < 2 ^ N) (hW : 1 ≤ W ∧ W ≤ 8) (hH : 1 ≤ H ∧ H ≤ 8) (hm : 1 ≤ m ∧ m ≤ 64) (h16 : s.1 65 16 = (W : Int)) (h17 : s.1 65 17 = (H : Int)) (eU : shU = v_lm (fun n => v_mk (sg n 1) (sg n 3)) S N) (eL : shL = v_lm (fun n => v_mk (sg n 2) (sg n 4)) S N) : ∀ (j n f : Nat), n + j = 2 ^ (W - 1) → j < f → F_X12_sawing_l51 s K f (S : Int) (m : Int) y (v_w1 (v_wsz shU shL W H m n)) (v_r2 (v_wsz shU shL W H m n)) (v_r3 (v_wsz shU shL W H m n)) (n : Int) = K y (v_w1 (v_wsz shU shL W H m (2 ^ (W - 1)))) (v_r2 (v_wsz shU shL W H m (2 ^ (W - 1)))) (v_r3 (v_wsz shU shL W H m (2 ^ (W - 1)))) := by
  have hpW := v_2pH hW
  have hpH := v_2pH hH
  intro j
  induction j with
  | zero =>
    intro n f hn hf
    obtain ⟨f, rfl⟩ : ∃ q, f = q + 1 := ⟨f - 1, by omega⟩
    have hn : n = 2 ^ (W - 1) := by omega
    subst hn
    show F_X12_sawing_l51_b s K (F_X12_sawing_l51 s K f) _ _ _ _ _ _ _ = _
    unfold F_X12_sawing_l51_b
    rw [h16, v_1shH hW, if_neg (by omega)]
  | succ j ih =>
    intro n f hn hf
    obtain ⟨f, rfl⟩ : ∃ q, f = q + 1 := ⟨f - 1, by omega⟩
    have hr := ih (n + 1) f (by omega) (by omega)
    have h1 := v_sawR1 (K := fun x1 x2 x3 x4 x5 x6 x7 => F_X12_sawing_l51 s K f x1 x2 x3 x4 x5 x6 (d_w (x7 + 1))) (y := y) (o := v_wsz shU shL W H m n) hZ hBd hS hW hH (show n < 128 by omega) hm h17 eU eL (2 ^ (H - 1)) 0 d_N (by omega) (by rw [d_N_is]; omega)
    rw [v_nn2_0] at h1
    show F_X12_sawing_l51_b s K (F_X12_sawing_l51 s K f) _ _ _ _ _ _ _ = _
    unfold F_X12_sawing_l51_b
    rw [h16, v_1shH hW, if_pos (by omega), P_leastPart (by omega) hW.2, d_b_t]
    refine h1.trans ?_
    show F_X12_sawing_l51 s K f _ _ _ _ _ _ (d_w ((n : Int) + 1)) = _
    rw [d_w_id (x := (n : Int) + 1) (by omega) (by omega)]
    exact hr
theorem R_sawing (h : v_R t s) {x1 x2 x3 : Int} : v_AA t (F_X11_sawing s x1 x2 x3) (fun s1 => d_b (F_X12_sawing s1 x1 x2 x3) (fun v => some (v, s1))) := by
  obtain ⟨u, v, W, H, st, me, so, N, sg, hG, hQ, hB, hM, hZ, hS, hC, hBd⟩ := h.all
  have hN := hZ.2.1
  have h30 : s.1 3 0 = (W : Int) := hC.1.2.2.1
  have h31 : s.1 3 1 = (H : Int) := hC.1.2.2.2
  have hW := hG.2.2.2.1
  have hH := hG.2.2.2.2.1
  have hp : 1 ≤ 2 ^ N := Nat.one_le_two_pow
  have hp2 : 2 ^ N ≤ 4096 := Nat.pow_le_pow_right (n := 2) (j := 12) (by decide) hN
  have eN : d_w (d_shl 1 (N : Int) - 1) = ((2 ^ N - 1 : Nat) : Int) := by rw [v_1shl (by omega), d_w_id (by omega) (by omega)]; omega
  have no : ¬ ((0 ≤ x1 ∧ x1 ≤ ((2 ^ N - 1 : Nat) : Int)) ∧ (1 ≤ x2 ∧ x2 ≤ 64) ∧ (0 ≤ x3 ∧ x3 ≤ 2)) → v_AA t (F_X11_sawing s x1 x2 x3) (fun s1 => d_b (F_X12_sawing s1 x1 x2 x3) (fun v => some (v, s1))) := fun hh => by
    refine v_AA.same h (-1) ?_ ?_
    · unfold F_X11_sawing F_X11_sawing_j42
      rw [hS.1, eN, P_within, d_b_t]
      by_cases c1 : 0 ≤ x1 ∧ x1 ≤ ((2 ^ N - 1 : Nat) : Int)
      · rw [v_bt c1, if_neg (by decide), P_within, d_b_t]
        by_cases c2 : 1 ≤ x2 ∧ x2 ≤ 64
        · rw [v_bt c2, if_neg (by decide), P_within, d_b_t, v_bf (fun e => hh ⟨c1, c2, e⟩), if_pos rfl]
        · rw [v_bf c2, if_pos rfl]
      · rw [v_bf c1, if_pos rfl]
    · show d_b (F_X12_sawing s x1 x2 x3) _ = _
      have : F_X12_sawing s x1 x2 x3 = some (-1) := by
        unfold F_X12_sawing
        rw [hZ.1, eN, P_isIn, d_b_t]
        by_cases c1 : 0 ≤ x1 ∧ x1 ≤ ((2 ^ N - 1 : Nat) : Int)
        · rw [v_bt c1, if_neg (by decide), P_isIn, d_b_t]
          by_cases c2 : 1 ≤ x2 ∧ x2 ≤ 64
          · rw [v_bt c2, if_neg (by decide), P_isIn, d_b_t, v_bf (fun e => hh ⟨c1, c2, e⟩), if_pos rfl]
          · rw [v_bf c2, if_pos rfl]
        · rw [v_bf c1, if_pos rfl]
      rw [this, d_b_t]
  by_cases hc : (0 ≤ x1 ∧ x1 ≤ ((2 ^ N - 1 : Nat) : Int)) ∧ (1 ≤ x2 ∧ x2 ≤ 64) ∧ (0 ≤ x3 ∧ x3 ≤ 2)
  rotate_left
  · exact no hc
  clear no
  obtain ⟨c1, c2, c3⟩ := hc
  obtain ⟨S, rfl⟩ : ∃ S : Nat, x1 = S := ⟨x1.toNat, by omega⟩
  obtain ⟨m, rfl⟩ : ∃ m : Nat, x2 = m := ⟨x2.toNat, by omega⟩
  have hS2 : S < 2 ^ N := by omega
  have hm : 1 ≤ m ∧ m ≤ 64 := by omega
  obtain ⟨shU, eU⟩ : ∃ z, z = v_lm (fun n => v_mk (sg n 1) (sg n 3)) S N := ⟨_, rfl⟩
  obtain ⟨shL, eL⟩ : ∃ z, z = v_lm (fun n => v_mk (sg n 2) (sg n 4)) S N := ⟨_, rfl⟩
  have hU : shU < 4096 := by
    rw [eU]
    have := v_lm_lt (f := fun n => v_mk (sg n 1) (sg n 3)) (S := S) N (fun j hj => v_mk_lt (hBd j hj).1 (hS.le hj (k := 1) (by decide)))
    omega
  have hL : shL < 4096 := by
    rw [eL]
    have := v_lm_lt (f := fun n => v_mk (sg n 2) (sg n 4)) (S := S) N (fun j hj => v_mk_lt (hBd j hj).2.1 (hS.le hj (k := 2) (by decide)))
    omega
  have l1 : F_X11_linesThrough s (S : Int) 1 = some (shU : Int) := by
    rw [P_lines hS hBd ⟨hW.2, hH.2⟩ (by omega), eU]; rfl
  have l0 : F_X11_linesThrough s (S : Int) 0 = some (shL : Int) := by
    rw [P_lines hS hBd ⟨hW.2, hH.2⟩ (by omega), eL]; rfl
  obtain ⟨s1, a1, a2, a3⟩ := P_findLevel (s := s) (sh := shL) hH hL h31
  have hpW := v_2pH hW
  have e30 : s1.1 3 0 = (W : Int) := by rw [a2.1 3 (by decide)]; exact h30
  have cl := v_sawC (K := fun x3_u11 x6_u11 x7_u11 x8_u11 s_u11 => if x3_u11 = 0 then some (x6_u11, s_u11) else if x3_u11 = 1 then some (x7_u11, s_u11) else some (x8_u11, s_u11)) (shU := shU) (shL := shL) (m := m) (y := x3) hW hH hU hm e30 a3 (2 ^ (W - 1)) 0 d_N (by omega) (by rw [d_N_is]; omega)
  have e65 : s1.1 65 = s.1 65 := a2.1 65 (by decide)
  have rf := v_sawR2 (s := s1) (K := fun x3_u11 x4_u11 x5_u11 x6_u11 => if x4_u11 = (-1) then some (-1) else if x3_u11 = 0 then some x4_u11 else if x3_u11 = 1 then some x5_u11 else some x6_u11) (shU := shU) (shL := shL) (m := m) (y := x3) (by rw [e65]; exact hZ) hBd hS2 hW hH hm (by rw [e65]; exact hG.1.2.2.1) (by rw [e65]; exact hG.1.2.2.2) eU eL (2 ^ (W - 1)) 0 d_N (by omega) (by rw [d_N_is]; omega)
  have hR1 : v_R t s1 := h.scr (fun a ha => a2.1 a (by simp only [List.mem_cons, List.not_mem_nil, or_false]; unfold v_cl at ha; omega)) (fun a _ => by rw [a2.2]) ⟨by rw [a2.1 49 (by decide)]; exact h.2.2.2.2.2.2.2.1.1, by rw [a2.1 71 (by decide)]; exact h.2.2.2.2.2.2.2.1.2⟩
  have fin : ∀ r : Int, (fun (x3_u11 x6_u11 x7_u11 x8_u11 : Int) (s_u11 : d_S) => if x3_u11 = 0 then some (x6_u11, s_u11) else if x3_u11 = 1 then some (x7_u11, s_u11) else some (x8_u11, s_u11)) x3 (v_w1 (v_wsz shU shL W H m (2 ^ (W - 1)))) (v_w2 (v_wsz shU shL W H m (2 ^ (W - 1)))) (v_w3 (v_wsz shU shL W H m (2 ^ (W - 1)))) s1 = some (r, s1) → (fun (x3_u11 x4_u11 x5_u11 x6_u11 : Int) => if x4_u11 = (-1) then some (-1) else if x3_u11 = 0 then some x4_u11 else if x3_u11 = 1 then some x5_u11 else some x6_u11) x3 (v_w1 (v_wsz shU shL W H m (2 ^ (W - 1)))) (v_r2 (v_wsz shU shL W H m (2 ^ (W - 1)))) (v_r3 (v_wsz shU shL W H m (2 ^ (W - 1)))) = some r → v_AA t (F_X11_sawing s (S : Int) (m : Int) x3) (fun s1 => d_b (F_X12_sawing s1 (S : Int) (m : Int) x3) (fun v => some (v, s1))) := fun r g1 g2 => by
    refine ⟨r, s1, s1, ?_, ?_, hR1⟩
    · unfold F_X11_sawing
      rw [hS.1, eN, P_within, d_b_t, v_bt c1, if_neg (by decide), P_within, d_b_t, v_bt c2, if_neg (by decide), P_within, d_b_t, v_bt c3, if_neg (by decide), l1, d_b_t, l0, d_b_t, a1, d_b_t]
      exact cl.trans g1
    · show d_b (F_X12_sawing s1 (S : Int) (m : Int) x3) _ = _
      have : F_X12_sawing s1 (S : Int) (m : Int) x3 = some r := by
        unfold F_X12_sawing
        rw [e65, hZ.1, eN, P_isIn, d_b_t, v_bt c1, if_neg (by decide), P_isIn, d_b_t, v_bt c2, if_neg (by decide), P_isIn, d_b_t, v_bt c3, if_neg (by decide)]
        exact rf.trans g2
      rw [this, d_b_t]
  cases e : v_wsz shU shL W H m (2 ^ (W - 1)) with
  | none =>
    rw [e] at fin
    refine fin (-1) ?_ (if_pos rfl)
    show (if x3 = 0 then some ((-1 : Int), s1) else if x3 = 1 then some ((-1 : Int), s1) else some ((-1 : Int), s1)) = _
    split
    · rfl
    · split <;> rfl
  | some p =>
    rw [e] at fin
    have hb := v_blb (x := p.1) (y := p.2)
    have h1 : ¬ v_w1 (some p) = -1 := by show ¬ ((v_bl p.1 p.2 : Nat) : Int) = -1; omega
    by_cases q0 : x3 = 0
    · exact fin (v_w1 (some p)) (if_pos q0) ((if_neg h1).trans (if_pos q0))
    · by_cases q1 : x3 = 1
      · exact fin (p.1 : Int) ((if_neg q0).trans (if_pos q1)) ((if_neg h1).trans ((if_neg q0).trans (if_pos q1)))
      · exact fin (p.2 : Int) ((if_neg q0).trans (if_neg q1)) ((if_neg h1).trans ((if_neg q0).trans (if_neg q1)))
end V58
def v_beh (L : v_LR) (size edge day heat : Int) (x : Int) : Int := v_mf L day heat size (v_sf L day heat size (x % 10) (x / 10) edge) (x / 10) edge * 10 + v_sf L day heat size (x % 10) (x / 10) edge
def v_oc (L : List Nat) (s s' : d_S) : Prop := (∀ a, a ∉ L → s'.1 a = s.1 a) ∧ s'.2 = s.2
section V59
variable {s s1 s2 : d_S} {t : Nat → Option p_C} {L : v_LR} {u v W H N n b : Nat} {st me so : Nat → Nat} {sg : Nat → Nat → Nat} {day heat x size edge : Int} {e : Option Nat}
theorem v_oc.rf {M : List Nat} : v_oc M s s := ⟨fun _ _ => rfl, rfl⟩
theorem v_oc.tr {M : List Nat} (h : v_oc M s s1) (h' : v_oc M s1 s2) : v_oc M s s2 := ⟨fun a ha => (h'.1 a ha).trans (h.1 a ha), h'.2.trans h.2⟩
theorem v_oc.mono {M M' : List Nat} (h : v_oc M s s1) (hm : ∀ a, a ∈ M → a ∈ M') : v_oc M' s s1 := ⟨fun a ha => h.1 a (fun z => ha (hm a z)), h.2⟩
theorem v_oc.si {M : List Nat} {a k : Nat} {y : Int} (h : a ∈ M) : v_oc M s (d_si s a k y) := ⟨fun c hc => d_si_n (fun z => hc (z ▸ h)), rfl⟩
theorem v_beh_b (hx : 0 ≤ x ∧ x < 1000) : 0 ≤ v_beh L size edge day heat x ∧ v_beh L size edge day heat x ≤ 1009 := by
  unfold v_beh
  have h1 := v_sf_b (L := L) (size := size) (edge := edge) (day := day) (heat := heat) (straw := x % 10) (melted := x / 10) (by omega)
  have h2 := v_mf_b (L := L) (size := size) (edge := edge) (day := day) (heat := heat) (straw := v_sf L day heat size (x % 10) (x / 10) edge) (melted := x / 10) (by omega)
  omega
theorem P_behind2 (hT : v_CT t (s.2.1 47 3) L) (hb : v_tb s size edge) (hx : 0 ≤ x ∧ x < 1000) (hd : 0 ≤ day ∧ day ≤ 2000) (hh : 0 ≤ heat ∧ heat ≤ 9) : ∃ s', F_X2_behind t s x day heat = some (v_beh L size edge day heat x, s') ∧ v_oc [49, 50] s s' ∧ v_tb s' size edge := by
  have e1 : d_rem x 10 = x % 10 := v_remI hx.1 (by omega) (by decide) (by decide)
  have e2 : d_div x 10 = x / 10 := v_divI hx.1 (by omega) (by decide) (by decide)
  have b1 := v_sf_b (L := L) (size := size) (edge := edge) (day := day) (heat := heat) (straw := x % 10) (melted := x / 10) (by omega)
  have b2 := v_mf_b (L := L) (size := size) (edge := edge) (day := day) (heat := heat) (straw := v_sf L day heat size (x % 10) (x / 10) edge) (melted := x / 10) (by omega)
  obtain ⟨s1, a1, a2, a3, a4⟩ := P_strawFrom (day := day) (heat := heat) (straw := x % 10) (melted := x / 10) hT hb hd (by omega) (by omega) (by omega)
  obtain ⟨s2, c1, c2, c3, c4⟩ := P_meltedFrom (L := L) (day := day) (heat := heat) (straw := v_sf L day heat size (x % 10) (x / 10) edge) (melted := x / 10) (by rw [a3]; exact hT) a4 hd (by omega) (by omega) (by omega)
  refine ⟨s2, ?_, ⟨fun a ha => ?_, c3.trans a3⟩, c4⟩
  · unfold F_X2_behind
    rw [e1, e2, a1, d_b2_t, c1, d_b2_t, d_w_id (by omega) (by omega)]
    rfl
  · simp only [List.mem_cons, List.not_mem_nil, or_false, not_or] at ha
    exact (c2 a ha.1 ha.2).trans (a2 a ha.1 ha.2)
def v_sts (s : d_S) (a m : Nat) : Prop := ∀ i, i < m → 0 ≤ s.1 a i ∧ s.1 a i < 1000
theorem v_sts.eq {a m : Nat} (h : v_sts s a m) (h1 : s1.1 a = s.1 a) : v_sts s1 a m := fun i hi => by rw [h1]; exact h i hi
theorem v_sp24 {K : Int → Int → Int → Int → d_S → Option (Int × d_S)} {x1 : Int} {i many : Nat} (hd : 0 ≤ day ∧ day ≤ 2000) (hi : i < many) (hm : many ≤ 100) : ∀ (j k m : Nat), k + j = 10 → j < m → ∀ (more : Nat) (s : d_S), more ≤ 100 → v_CT t (s.2.1 47 3) L → v_tb s size edge → v_sts s 53 more → v_sts s 54 many → ∃ (more' : Nat) (s' : d_S), F_X2_spread_l24 t K m x1 day (more : Int) (i : Int) (k : Int) s = K x1 day (more' : Int) (i : Int) s' ∧ more' ≤ 100 ∧ v_tb s' size edge ∧ v_sts s' 53 more' ∧ v_oc [49, 50, 52, 53] s s' := by
  intro j
  induction j with
  | zero =>
    intro k m hk hf more s h1 h2 h3 h4 h5
    obtain ⟨m, rfl⟩ : ∃ q, m = q + 1 := ⟨m - 1, by omega⟩
    refine ⟨more, s, ?_, h1, h3, h4, v_oc.rf⟩
    show F_X2_spread_l24_b t K (F_X2_spread_l24 t K m) _ _ _ _ _ _ = _
    unfold F_X2_spread_l24_b
    rw [if_neg (by omega)]
  | succ j ih =>
    intro k m hk hf more s h1 h2 h3 h4 h5
    obtain ⟨m, rfl⟩ : ∃ q, m = q + 1 := ⟨m - 1, by omega⟩
    obtain ⟨s1, a1, a2, a3⟩ := P_behind2 (x := s.1 54 i) (day := day) (heat := (k : Int)) h2 h3 (h5 i hi) hd (by omega)
    have hv := v_beh_b (L := L) (size := size) (edge := edge) (day := day) (heat := (k : Int)) (h5 i hi)
    have hT1 : v_CT t (s1.2.1 47 3) L := by rw [a2.2]; exact h2
    have e53 : s1.1 53 = s.1 53 := a2.1 53 (by decide)
    have e54 : s1.1 54 = s.1 54 := a2.1 54 (by decide)
    have ek : d_w ((k : Int) + 1) = ((k + 1 : Nat) : Int) := d_w_id (by omega) (by omega)
    show ∃ more' s', F_X2_spread_l24_b t K (F_X2_spread_l24 t K m) _ _ _ _ _ _ = _ ∧ _
    unfold F_X2_spread_l24_b
    rw [if_pos (by omega), d_g_t (by omega), Int.toNat_natCast, a1, d_b2_t, if_neg (by omega), ek]
    generalize v_beh L size edge day (k : Int) (s.1 54 i) = w at hv
    have m4 : ∀ {a b : d_S}, v_oc [49, 50] a b → v_oc [49, 50, 52, 53] a b := fun h => h.mono (by decide)
    by_cases q : w < 1000
    · rw [if_pos q, d_g_t (by omega)]
      have go : ∀ (more2 : Nat) (s2 : d_S), more2 ≤ 100 → v_oc [53] s1 s2 → v_sts s2 53 more2 → ∃ (more' : Nat) (s' : d_S), F_X2_spread_j90 t (F_X2_spread_l24 t K m) x1 day (more2 : Int) (i : Int) (k : Int) w s2 = K x1 day (more' : Int) (i : Int) s' ∧ more' ≤ 100 ∧ v_tb s' size edge ∧ v_sts s' 53 more' ∧ v_oc [49, 50, 52, 53] s s' := fun more2 s2 g1 g2 g3 => by
        obtain ⟨s3, hs3⟩ : ∃ z, z = d_si s2 52 w.toNat (d_w (s2.1 52 w.toNat + s2.1 55 i)) := ⟨_, rfl⟩
        have f : v_oc [52, 53] s1 s3 := by
          rw [hs3]
          exact (g2.mono (by decide)).tr (v_oc.si (by decide))
        obtain ⟨more', s', b1, b2, b3, b4, b5⟩ := ih (k + 1) m (by omega) (by omega) more2 s3 g1 (by rw [f.2]; exact hT1) (by unfold v_tb at a3 ⊢; rw [f.1 49 (by decide)]; exact a3) (g3.eq (by rw [hs3, d_si_n (by decide)])) (h5.eq ((f.1 54 (by decide)).trans e54))
        refine ⟨more', s', ?_, b2, b3, b4, ((m4 a2).tr (f.mono (by decide))).tr b5⟩
        unfold F_X2_spread_j90
        rw [d_g_t (by omega), d_g_t (by omega), d_g_t (by omega), d_l_t, Int.toNat_natCast, ← hs3, ek]
        exact b1
      by_cases q2 : s1.1 52 w.toNat = 0
      · rw [if_pos q2]
        by_cases q3 : more < 100
        · rw [if_pos (by omega), d_g_t (by omega), d_l_t, Int.toNat_natCast, d_w_id (x := (more : Int) + 1) (by omega) (by omega)]
          refine go (more + 1) _ (by omega) (v_oc.si (by decide)) (fun c hc => ?_)
          rw [d_si_i]
          by_cases z : c = more
          · subst z; rw [d_u_t]; omega
          · rw [d_u_n z, e53]; exact h4 c (by omega)
        · rw [if_neg (by omega)]
          exact go more s1 h1 v_oc.rf (h4.eq e53)
      · rw [if_neg q2]
        exact go more s1 h1 v_oc.rf (h4.eq e53)
    · rw [if_neg q]
      obtain ⟨more', s', b1, b2, b3, b4, b5⟩ := ih (k + 1) m (by omega) (by omega) more s1 h1 hT1 a3 (h4.eq e53) (h5.eq e54)
      exact ⟨more', s', b1, b2, b3, b4, (m4 a2).tr b5⟩
theorem v_sp5 {K : Int → d_S → Option (Int × d_S)} {many : Nat} (hd : 0 ≤ day ∧ day ≤ 2000) (hm : many ≤ 100) : ∀ (j k m : Nat), k + j = many → j < m → ∀ (more : Nat) (s : d_S), more ≤ 100 → v_CT t (s.2.1 47 3) L → v_tb s size edge → v_sts s 53 more → v_sts s 54 many → ∃ (more' : Nat) (s' : d_S), F_X2_spread_l5 t K m (many : Int) day (more : Int) (k : Int) s = K (more' : Int) s' ∧ more' ≤ 100 ∧ v_tb s' size edge ∧ v_sts s' 53 more' ∧ v_oc [49, 50, 52, 53] s s' := by
  intro j
  induction j with
  | zero =>
    intro k m hk hf more s h1 h2 h3 h4 h5
    obtain ⟨m, rfl⟩ : ∃ q, m = q + 1 := ⟨m - 1, by omega⟩
    refine ⟨more, s, ?_, h1, h3, h4, v_oc.rf⟩
    show F_X2_spread_l5_b t K (F_X2_spread_l5 t K m) _ _ _ _ _ = _
    unfold F_X2_spread_l5_b
    rw [if_neg (by omega)]
  | succ j ih =>
    intro k m hk hf more s h1 h2 h3 h4 h5
    obtain ⟨m, rfl⟩ : ∃ q, m = q + 1 := ⟨m - 1, by omega⟩
    obtain ⟨more1, s1, a1, a2, a3, a4, a5⟩ := v_sp24 (t := t) (L := L) (size := size) (edge := edge) (K := fun x1_u11 x2_u11 x3_u11 x4_u11 s_u11 => F_X2_spread_l5 t K m x1_u11 x2_u11 x3_u11 (d_w (x4_u11 + 1)) s_u11) (x1 := (many : Int)) (i := k) (many := many) hd (by omega) hm 10 0 d_N rfl (by rw [d_N_is]; decide) more s h1 h2 h3 h4 h5
    obtain ⟨more', s', b1, b2, b3, b4, b5⟩ := ih (k + 1) m (by omega) (by omega) more1 s1 a2 (by rw [a5.2]; exact h2) a3 a4 (h5.eq (a5.1 54 (by decide)))
    refine ⟨more', s', ?_, b2, b3, b4, a5.tr b5⟩
    show F_X2_spread_l5_b t K (F_X2_spread_l5 t K m) _ _ _ _ _ = _
    unfold F_X2_spread_l5_b
    rw [if_pos (by omega), if_pos (by omega)]
    refine a1.trans ?_
    show F_X2_spread_l5 t K m _ _ _ (d_w ((k : Int) + 1)) s1 = _
    rw [d_w_id (x := (k : Int) + 1) (by omega) (by omega)]
    exact b1
theorem v_gth {more : Nat} (hm : more ≤ 100) : ∀ (j k m : Nat), k + j = more → j < m → ∀ s : d_S, v_sts s 53 more → v_sts s 54 k → ∃ s', F_X2_gather_l2 m (more : Int) (k : Int) s = some s' ∧ v_sts s' 54 more ∧ v_oc [52, 54, 55] s s' := by
  intro j
  induction j with
  | zero =>
    intro k m hk hf s h1 h2
    obtain ⟨m, rfl⟩ : ∃ q, m = q + 1 := ⟨m - 1, by omega⟩
    have hk : k = more := by omega
    subst hk
    refine ⟨s, ?_, h2, v_oc.rf⟩
    show F_X2_gather_l2_b (F_X2_gather_l2 m) _ _ _ = _
    unfold F_X2_gather_l2_b
    rw [if_neg (by omega)]
  | succ j ih =>
    intro k m hk hf s h1 h2
    obtain ⟨m, rfl⟩ : ∃ q, m = q + 1 := ⟨m - 1, by omega⟩
    have h0 := h1 k (by omega)
    obtain ⟨w, hw⟩ : ∃ w, w = s.1 53 k := ⟨_, rfl⟩
    obtain ⟨s3, hs3⟩ : ∃ z, z = d_si s 54 k w := ⟨_, rfl⟩
    obtain ⟨s6, hs6⟩ : ∃ z, z = d_si s3 55 k (s3.1 52 w.toNat) := ⟨_, rfl⟩
    obtain ⟨s8, hs8⟩ : ∃ z, z = d_si s6 52 w.toNat 0 := ⟨_, rfl⟩
    have f8 : v_oc [52, 54, 55] s s8 := by
      rw [hs8, hs6, hs3]
      exact ((v_oc.si (by decide)).tr (v_oc.si (by decide))).tr (v_oc.si (by decide))
    have e54 : s8.1 54 = d_u (s.1 54) k w := by rw [hs8, d_si_n (by decide), hs6, d_si_n (by decide), hs3, d_si_i]
    obtain ⟨s', b1, b2, b3⟩ := ih (k + 1) m (by omega) (by omega) s8 (h1.eq (f8.1 53 (by decide))) (fun c hc => by
      rw [e54]
      by_cases z : c = k
      · subst z; rw [d_u_t, hw]; exact h0
      · rw [d_u_n z]; exact h2 c (by omega))
    refine ⟨s', ?_, b2, f8.tr b3⟩
    show F_X2_gather_l2_b (F_X2_gather_l2 m) _ _ _ = _
    unfold F_X2_gather_l2_b
    rw [if_pos (by omega), if_pos (by omega), d_g_t (by omega), Int.toNat_natCast, ← hw, if_neg (by omega), if_pos (by omega), d_g_t (by omega), d_l_t, ← hs3, d_g_t (by omega), d_g_t (by omega), d_l_t, ← hs6, d_g_t (by omega), d_l_t, ← hs8, d_w_id (x := (k : Int) + 1) (by omega) (by omega)]
    exact b1
theorem P_spread_t {many : Nat} (hd : 0 ≤ day ∧ day ≤ 2000) (hm : many ≤ 100) (h2 : v_CT t (s.2.1 47 3) L) (h3 : v_tb s size edge) (h5 : v_sts s 54 many) : ∃ (more : Nat) (s' : d_S), F_X2_spread t s (many : Int) day = some ((more : Int), s') ∧ more ≤ 100 ∧ v_tb s' size edge ∧ v_sts s' 54 more ∧ v_oc [49, 50, 52, 53, 54, 55] s s' := by
  obtain ⟨more, s1, a1, a2, a3, a4, a5⟩ := v_sp5 (t := t) (L := L) (size := size) (edge := edge) (K := fun x3_u12 s_u12 => d_b (F_X2_gather s_u12 x3_u12) (fun s13 => some (x3_u12, s13))) hd hm many 0 d_N (by omega) (by rw [d_N_is]; omega) 0 s (by omega) h2 h3 (fun i hi => absurd hi (Nat.not_lt_zero i)) h5
  obtain ⟨s2, b1, b2, b3⟩ := v_gth a2 more 0 d_N (by omega) (by rw [d_N_is]; omega) s1 a4 (fun i hi => absurd hi (Nat.not_lt_zero i))
  refine ⟨more, s2, ?_, a2, ?_, b2, (a5.mono (by decide)).tr (b3.mono (by decide))⟩
  · unfold F_X2_spread
    refine a1.trans ?_
    show d_b (F_X2_gather_l2 d_N (more : Int) 0 s1) _ = _
    have b1' : F_X2_gather_l2 d_N (more : Int) 0 s1 = some s2 := b1
    rw [b1', d_b_t]
  · unfold v_tb at a3 ⊢
    rw [b3.1 49 (by decide)]; exact a3
theorem v_lo24 {K : Int → Int → Int → Int → d_S → Option (Int × d_S)} {x1 : Int} {i many : Nat} (hd : 0 ≤ day ∧ day ≤ 2000) (hi : i < many) (hm : many ≤ 100) : ∀ (j k m : Nat), k + j = 10 → j < m → ∀ (y : Int) (s : d_S), v_CT t (s.2.1 47 3) L → v_tb s size edge → v_sts s 54 many → ∃ (y' : Int) (s' : d_S), F_X2_leftOver_l24 t K m x1 day y (i : Int) (k : Int) s = K x1 day y' (i : Int) s' ∧ v_tb s' size edge ∧ v_oc [49, 50] s s' := by
  intro j
  induction j with
  | zero =>
    intro k m hk hf y s h2 h3 h5
    obtain ⟨m, rfl⟩ : ∃ q, m = q + 1 := ⟨m - 1, by omega⟩
    refine ⟨y, s, ?_, h3, v_oc.rf⟩
    show F_X2_leftOver_l24_b t K (F_X2_leftOver_l24 t K m) _ _ _ _ _ _ = _
    unfold F_X2_leftOver_l24_b
    rw [if_neg (by omega)]
  | succ j ih =>
    intro k m hk hf y s h2 h3 h5
    obtain ⟨m, rfl⟩ : ∃ q, m = q + 1 := ⟨m - 1, by omega⟩
    obtain ⟨s1, a1, a2, a3⟩ := P_behind2 (x := s.1 54 i) (day := day) (heat := (k : Int)) h2 h3 (h5 i hi) hd (by omega)
    have ek : d_w ((k : Int) + 1) = ((k + 1 : Nat) : Int) := d_w_id (by omega) (by omega)
    have go : ∀ y2 : Int, ∃ (y' : Int) (s' : d_S), F_X2_leftOver_l24 t K m x1 day y2 (i : Int) ((k + 1 : Nat) : Int) s1 = K x1 day y' (i : Int) s' ∧ v_tb s' size edge ∧ v_oc [49, 50] s s' := fun y2 => by
      obtain ⟨y', s', b1, b2, b3⟩ := ih (k + 1) m (by omega) (by omega) y2 s1 (by rw [a2.2]; exact h2) a3 (h5.eq (a2.1 54 (by decide)))
      exact ⟨y', s', b1, b2, a2.tr b3⟩
    show ∃ y' s', F_X2_leftOver_l24_b t K (F_X2_leftOver_l24 t K m) _ _ _ _ _ _ = _ ∧ _
    unfold F_X2_leftOver_l24_b
    rw [if_pos (by omega), d_g_t (by omega), Int.toNat_natCast, a1, d_b2_t, ek]
    by_cases q : v_beh L size edge day (k : Int) (s.1 54 i) < 1000
    · rw [if_pos q, d_g_t (by omega), d_l_t]
      exact go _
    · rw [if_neg q]
      exact go _
theorem v_lo5 {many : Nat} (hd : 0 ≤ day ∧ day ≤ 2000) (hm : many ≤ 100) : ∀ (j k m : Nat), k + j = many → j < m → ∀ (y : Int) (s : d_S), v_CT t (s.2.1 47 3) L → v_tb s size edge → v_sts s 54 many → ∃ (y' : Int) (s' : d_S), F_X2_leftOver_l5 t m (many : Int) day y (k : Int) s = some (y', s') ∧ v_tb s' size edge ∧ v_oc [49, 50] s s' := by
  intro j
  induction j with
  | zero =>
    intro k m hk hf y s h2 h3 h5
    obtain ⟨m, rfl⟩ : ∃ q, m = q + 1 := ⟨m - 1, by omega⟩
    refine ⟨y, s, ?_, h3, v_oc.rf⟩
    show F_X2_leftOver_l5_b t (F_X2_leftOver_l5 t m) _ _ _ _ _ = _
    unfold F_X2_leftOver_l5_b
    rw [if_neg (by omega)]
  | succ j ih =>
    intro k m hk hf y s h2 h3 h5
    obtain ⟨m, rfl⟩ : ∃ q, m = q + 1 := ⟨m - 1, by omega⟩
    obtain ⟨y1, s1, a1, a2, a3⟩ := v_lo24 (t := t) (L := L) (size := size) (edge := edge) (K := fun x1_u6 x2_u6 x3_u6 x4_u6 s_u6 => F_X2_leftOver_l5 t m x1_u6 x2_u6 x3_u6 (d_w (x4_u6 + 1)) s_u6) (x1 := (many : Int)) (i := k) (many := many) hd (by omega) hm 10 0 d_N rfl (by rw [d_N_is]; decide) y s h2 h3 h5
    obtain ⟨y', s', b1, b2, b3⟩ := ih (k + 1) m (by omega) (by omega) y1 s1 (by rw [a3.2]; exact h2) a2 (h5.eq (a3.1 54 (by decide)))
    refine ⟨y', s', ?_, b2, a3.tr b3⟩
    show F_X2_leftOver_l5_b t (F_X2_leftOver_l5 t m) _ _ _ _ _ = _
    unfold F_X2_leftOver_l5_b
    rw [if_pos (by omega), if_pos (by omega)]
    refine a1.trans ?_
    show F_X2_leftOver_l5 t m _ _ _ (d_w ((k : Int) + 1)) s1 = _
    rw [d_w_id (x := (k : Int) + 1) (by omega) (by omega)]
    exact b1
end V59
def v_oq (s s' : d_S) : Prop := (∀ a, a ≠ 47 → a ≠ 49 → a ≠ 50 → (a < 52 ∨ 55 < a) → s'.1 a = s.1 a) ∧ (∀ a, a ≠ 47 → s'.2.1 a = s.2.1 a) ∧ v_Nm (s'.1 49)
section V60
variable {s s1 s2 : d_S} {t : Nat → Option p_C} {L : v_LR} {u v W H N b : Nat} {st me so : Nat → Nat} {sg : Nat → Nat → Nat} {day heat x size edge : Int} {e : Option Nat}
theorem v_oq.tr (h : v_oq s s1) (h' : v_oq s1 s2) : v_oq s s2 := ⟨fun a b c d e => (h'.1 a b c d e).trans (h.1 a b c d e), fun a b => (h'.2.1 a b).trans (h.2.1 a b), h'.2.2⟩
theorem v_oq.oc (h : v_oq s s1) (h' : v_oc [49, 50, 52, 53, 54, 55] s1 s2) (hb : v_tb s2 size edge) : v_oq s s2 := ⟨fun a b c d e => (h'.1 a (by simp only [List.mem_cons, List.not_mem_nil, or_false, not_or]; omega)).trans (h.1 a b c d e), fun a b => by rw [h'.2]; exact h.2.1 a b, hb.2.2⟩
theorem v_rdy.oq (h : v_rdy t s L u v W H st me so N sg day heat x) (h' : v_oq s s1) : v_rdy t s1 L u v W H st me so N sg day heat x := h.fr (fun a ha => h'.1 a (by omega) (by omega) (by omega) (by omega)) (h'.2.1 5 (by decide)) h'.2.2
theorem v_l123 {K : Int → Int → d_S → Option (Int × d_S)} {n : Nat} (hn : n ≤ 4) (hd : 0 ≤ day ∧ day ≤ 999) : ∀ (j k m : Nat), k + j = 5 → j < m → ∀ (many : Nat) (s : d_S), many ≤ 100 → v_CT t (s.2.1 47 3) L → v_tb s size edge → v_sts s 54 many → s.1 47 6 = day → ∃ (many' : Nat) (s' : d_S), F_X2_lasting_l123 t K m (n : Int) (many : Int) (k : Int) s = K (n : Int) (many' : Int) s' ∧ many' ≤ 100 ∧ v_tb s' size edge ∧ v_sts s' 54 many' ∧ v_oc [49, 50, 52, 53, 54, 55] s s' := by
  intro j
  induction j with
  | zero =>
    intro k m hk hf many s h1 h2 h3 h4 h5
    obtain ⟨m, rfl⟩ : ∃ q, m = q + 1 := ⟨m - 1, by omega⟩
    refine ⟨many, s, ?_, h1, h3, h4, v_oc.rf⟩
    show F_X2_lasting_l123_b t K (F_X2_lasting_l123 t K m) _ _ _ _ = _
    unfold F_X2_lasting_l123_b
    rw [d_w_id (x := (n : Int) - 1) (by omega) (by omega), if_neg (by omega)]
  | succ j ih =>
    intro k m hk hf many s h1 h2 h3 h4 h5
    obtain ⟨m, rfl⟩ : ∃ q, m = q + 1 := ⟨m - 1, by omega⟩
    show ∃ many' s', F_X2_lasting_l123_b t K (F_X2_lasting_l123 t K m) _ _ _ _ = _ ∧ _
    unfold F_X2_lasting_l123_b
    rw [d_w_id (x := (n : Int) - 1) (by omega) (by omega)]
    by_cases q : (k : Int) < (n : Int) - 1
    · rw [if_pos q, if_pos (by omega), h5, d_w_id (x := day + (k : Int)) (by omega) (by omega), d_w_id (x := (k : Int) + 1) (by omega) (by omega)]
      obtain ⟨more, s1, a1, a2, a3, a4, a5⟩ := P_spread_t (t := t) (L := L) (size := size) (edge := edge) (day := day + (k : Int)) (by omega) h1 h2 h3 h4
      obtain ⟨many', s', b1, b2, b3, b4, b5⟩ := ih (k + 1) m (by omega) (by omega) more s1 a2 (by rw [a5.2]; exact h2) a3 a4 (by rw [a5.1 47 (by decide)]; exact h5)
      refine ⟨many', s', ?_, b2, b3, b4, a5.tr b5⟩
      rw [a1, d_b2_t]
      exact b1
    · rw [if_neg q]
      exact ⟨many, s, rfl, h1, h3, h4, v_oc.rf⟩
theorem v_ofl {n : Nat} : ∀ (j k m : Nat), k + j = 4 → j < m → ∀ y : Int, ∃ v, F_X2_ofAll_l4 m (n : Int) y (k : Int) = some v := by
  intro j
  induction j with
  | zero =>
    intro k m hk hf y
    obtain ⟨m, rfl⟩ : ∃ q, m = q + 1 := ⟨m - 1, by omega⟩
    show ∃ v, F_X2_ofAll_l4_b (F_X2_ofAll_l4 m) _ _ _ = _
    unfold F_X2_ofAll_l4_b
    split
    · exact ⟨y, if_neg (by omega)⟩
    · exact ⟨y, rfl⟩
  | succ j ih =>
    intro k m hk hf y
    obtain ⟨m, rfl⟩ : ∃ q, m = q + 1 := ⟨m - 1, by omega⟩
    obtain ⟨v, hv⟩ := ih (k + 1) m (by omega) (by omega) (d_w (y * 10))
    show ∃ v, F_X2_ofAll_l4_b (F_X2_ofAll_l4 m) _ _ _ = _
    unfold F_X2_ofAll_l4_b
    split
    · refine ⟨v, ?_⟩
      rw [if_pos (by omega), d_w_id (x := (k : Int) + 1) (by omega) (by omega)]
      exact hv
    · exact ⟨y, rfl⟩
theorem P_ofAll_t {n : Nat} : ∃ v, F_X2_ofAll (n : Int) = some v := v_ofl 3 1 d_N rfl (by rw [d_N_is]; decide) 1
theorem v_j77 {y : Int} : ∃ v, F_X2_lasting_j77 t y s = some (v, s) := by
  unfold F_X2_lasting_j77
  split
  · exact ⟨1, by rw [v_bit1_, d_b_t]⟩
  · exact ⟨0, by rw [v_bit0_, d_b_t]⟩
theorem v_j66 {n : Nat} (hn : n ≤ 4) (hd : 0 ≤ day ∧ day ≤ 999) {y z : Int} (hy : 0 ≤ y) (hz : 0 ≤ z ∧ z ≤ 9) (h2 : v_CT t (s.2.1 47 3) L) (h3 : v_tb s size edge) (h5 : s.1 47 6 = day) (h8 : s.1 47 8 = z) : ∃ v s', F_X2_lasting_j66 t (n : Int) y s = some (v, s') ∧ v_tb s' size edge ∧ v_oc [49, 50, 52, 53, 54, 55] s s' := by
  have j77 : ∃ v s', F_X2_lasting_j77 t y s = some (v, s') ∧ v_tb s' size edge ∧ v_oc [49, 50, 52, 53, 54, 55] s s' := by
    obtain ⟨v, hv⟩ := v_j77 (s := s) (t := t) (y := y)
    exact ⟨v, s, hv, h3, v_oc.rf⟩
  unfold F_X2_lasting_j66
  by_cases q : y < 100
  rotate_left
  · rw [if_neg q]; exact j77
  rw [if_pos q]
  by_cases q2 : (n : Int) < 2
  · rw [if_pos q2]; exact j77
  rw [if_neg q2, d_l_t, d_l_t, h8, d_w_id (x := y * 10 + z) (by omega) (by omega)]
  obtain ⟨s7, hs7⟩ : ∃ w, w = d_si (d_si s 54 0 (y * 10 + z)) 55 0 1 := ⟨_, rfl⟩
  have f7 : v_oc [49, 50, 52, 53, 54, 55] s s7 := by
    rw [hs7]
    exact (v_oc.si (by decide)).tr (v_oc.si (by decide))
  have e54 : s7.1 54 0 = y * 10 + z := by rw [hs7, d_si_n (by decide), d_si_i, d_u_t]
  rw [← hs7]
  obtain ⟨many, s8, a1, a2, a3, a4, a5⟩ := v_l123 (t := t) (L := L) (size := size) (edge := edge) (K := fun x2_u10 x4_u10 s_u10 => d_b2 (F_X2_leftOver t s_u10 x4_u10 (d_w (((s_u10.1 47 6) + x2_u10) - 1))) (fun v11 s12 => some (v11, s12))) hn hd 4 1 d_N rfl (by rw [d_N_is]; decide) 1 s7 (by decide) (by rw [f7.2]; exact h2) (by unfold v_tb at h3 ⊢; rw [hs7, d_si_n (by decide), d_si_n (by decide)]; exact h3) (fun i hi => by
    obtain rfl : i = 0 := by omega
    rw [e54]; omega) (by rw [f7.1 47 (by decide)]; exact h5)
  have e47 : s8.1 47 6 = day := by rw [a5.1 47 (by decide), f7.1 47 (by decide)]; exact h5
  obtain ⟨w, s9, b1, b2, b3⟩ := v_lo5 (t := t) (L := L) (size := size) (edge := edge) (day := day + (n : Int) - 1) (many := many) (by omega) a2 many 0 d_N (by omega) (by rw [d_N_is]; omega) 0 s8 (by rw [a5.2, f7.2]; exact h2) a3 a4
  refine ⟨w, s9, ?_, b2, (f7.tr a5).tr (b3.mono (by decide))⟩
  refine a1.trans ?_
  show d_b2 (F_X2_leftOver_l5 t d_N (many : Int) (d_w ((s8.1 47 6 + (n : Int)) - 1)) 0 0 s8) _ = _
  rw [e47, d_w_id (by omega) (by omega)]
  have b1' : F_X2_leftOver_l5 t d_N (many : Int) (day + (n : Int) - 1) 0 0 s8 = some (w, s9) := b1
  rw [b1', d_b2_t]
theorem v_rdy.last (h : v_rdy t s L u v W H st me so N sg day heat x) (hb : b < v_bl u v) {n : Nat} (hn : n ≤ 4) : ∃ y s', F_X2_lasting t s (b : Int) (n : Int) = some (y, s') ∧ v_oq s s' := by
  obtain ⟨hM, hQ, hS, hY, hN, e, hE, hCT⟩ := id h
  have h64 := hQ.2.2.1
  obtain ⟨-, m1, m2, m3⟩ := hM b (by omega)
  obtain ⟨s1, a1, a2, a3, a4, a5, a6, a7⟩ := P_start hM hQ hb hE hY hN
  obtain ⟨⟨k6, k7, k8, k9, k5, k10⟩, ⟨o1, o2, o3, o4, o5⟩, hso⟩ := id a2
  have k6 : s1.1 47 6 = day := k6
  have k7 : s1.1 47 7 = heat := k7
  have k8 : s1.1 47 8 = ((st b : Nat) : Int) := k8
  have k9 : s1.1 47 9 = ((me b : Nat) : Int) := k9
  have o1 : 0 ≤ day ∧ day ≤ 999 := o1
  have o2 : 0 ≤ heat ∧ heat ≤ 9 := o2
  have f1 : v_oq s s1 := ⟨fun a h1 h2 h3 _ => a6 a h1 h2, a7, a5.2.2⟩
  unfold F_X2_lasting
  rw [a1, d_b_t, k10]
  by_cases q : ((so b : Nat) : Int) = 0
  rotate_left
  · rw [if_neg q]
    obtain ⟨y, hy⟩ := P_ofAll_t (n := n)
    exact ⟨y, s1, by rw [hy, d_b_t], f1⟩
  rw [if_pos q]
  by_cases q2 : 0 < (n : Int)
  · rw [if_pos q2, k6, k7, k8, k9]
    obtain ⟨s3, b1, b2, b3, b4⟩ := P_meltedFrom (t := t) (L := L) (day := day) (heat := heat) (straw := ((st b : Nat) : Int)) (melted := ((me b : Nat) : Int)) (s := s1) (by rw [a4]; exact hCT) a5 (by omega) (by omega) (by omega) (by omega)
    have hmf := v_mf_b (L := L) (day := day) (heat := heat) (straw := ((st b : Nat) : Int)) (melted := ((me b : Nat) : Int)) (size := ((v_sz u v W H b : Nat) : Int)) (edge := ((v_ed u v W H b : Nat) : Int)) (by omega)
    have f3 : v_oq s s3 := ⟨fun a h1 h2 h3 h4 => (b2 a h2 h3).trans (f1.1 a h1 h2 h3 h4), fun a ha => by rw [b3]; exact f1.2.1 a ha, b4.2.2⟩
    obtain ⟨y, s4, c1, c2, c3⟩ := v_j66 (t := t) (L := L) (s := s3) (n := n) hn o1 (y := v_mf L day heat ((v_sz u v W H b : Nat) : Int) ((st b : Nat) : Int) ((me b : Nat) : Int) ((v_ed u v W H b : Nat) : Int)) (z := ((st b : Nat) : Int)) hmf.1 (by omega) (by rw [b3, a4]; exact hCT) b4 (by rw [b2 47 (by decide) (by decide)]; exact k6) (by rw [b2 47 (by decide) (by decide)]; exact k8)
    exact ⟨y, s4, by rw [b1, d_b2_t]; exact c1, f3.oc c3 c2⟩
  · rw [if_neg q2, k9]
    obtain ⟨y, s4, c1, c2, c3⟩ := v_j66 (t := t) (L := L) (s := s1) (n := n) hn o1 (y := ((me b : Nat) : Int)) (z := ((st b : Nat) : Int)) (by omega) (by omega) (by rw [a4]; exact hCT) a5 k6 k8
    exact ⟨y, s4, c1, f1.oc c3 c2⟩
theorem v_dvl {K : Int → Option Int} : ∀ (j k m : Nat), k + j = 64 → j < m → ∀ a b : Int, ∃ z, F_X11_divisor_l13 K m a b (k : Int) = K z := by
  intro j
  induction j with
  | zero =>
    intro k m hk hf a b
    obtain ⟨m, rfl⟩ : ∃ q, m = q + 1 := ⟨m - 1, by omega⟩
    refine ⟨a, ?_⟩
    show F_X11_divisor_l13_b K (F_X11_divisor_l13 K m) _ _ _ = _
    unfold F_X11_divisor_l13_b
    rw [if_neg (by omega)]
  | succ j ih =>
    intro k m hk hf a b
    obtain ⟨m, rfl⟩ : ∃ q, m = q + 1 := ⟨m - 1, by omega⟩
    show ∃ z, F_X11_divisor_l13_b K (F_X11_divisor_l13 K m) _ _ _ = _
    unfold F_X11_divisor_l13_b
    rw [if_pos (by omega)]
    by_cases q : b = 0
    · exact ⟨a, if_pos q⟩
    · obtain ⟨z, hz⟩ := ih (k + 1) m (by omega) (by omega) b (d_rem a b)
      refine ⟨z, ?_⟩
      rw [if_neg q, d_g_t q, d_w_id (x := (k : Int) + 1) (by omega) (by omega)]
      exact hz
theorem P_divisor_t {a b : Int} : ∃ z, F_X11_divisor a b = some z ∧ 1 ≤ z := by
  have ab : ∀ y : Int, ∃ z, F_J9_abs_0f7a4 y = some z := fun y => by
    unfold F_J9_abs_0f7a4
    split <;> exact ⟨_, rfl⟩
  obtain ⟨p, hp⟩ := ab a
  obtain ⟨q, hq⟩ := ab b
  obtain ⟨z, hz⟩ := v_dvl (K := fun x2_u4 => d_b (F_J9_max_7cf53 1 x2_u4) (fun v5 => some v5)) 64 0 d_N rfl (by rw [d_N_is]; decide) p q
  refine ⟨max 1 z, ?_, by omega⟩
  unfold F_X11_divisor
  rw [hp, d_b_t, hq, d_b_t]
  refine hz.trans ?_
  show d_b (F_J9_max_7cf53 1 z) _ = _
  rw [P_max, d_b_t]
theorem v_rdy.lasts (h : v_rdy t s L u v W H st me so N sg day heat x) {x1 x2 x3 : Int} : ∃ y s', F_X11_lasts t s x1 x2 x3 = some (y, s') ∧ (s' = s ∨ v_oq s s') := by
  obtain ⟨hM, hQ, hS, hY, hN, e, hE, hCT⟩ := id h
  unfold F_X11_lasts
  rw [P_isBlockC hQ, d_b_t]
  by_cases c1 : 0 ≤ x1 ∧ x1 < ((v_bl u v : Nat) : Int)
  rotate_left
  · rw [v_bf c1, if_pos rfl]; exact ⟨-1, s, rfl, Or.inl rfl⟩
  rw [v_bt c1, if_neg (by decide), P_within, d_b_t]
  by_cases c2 : 0 ≤ x2 ∧ x2 ≤ 4
  rotate_left
  · rw [v_bf c2, if_pos rfl]; exact ⟨-1, s, rfl, Or.inl rfl⟩
  obtain ⟨b, rfl⟩ : ∃ b : Nat, x1 = b := ⟨x1.toNat, by omega⟩
  obtain ⟨n, rfl⟩ : ∃ n : Nat, x2 = n := ⟨x2.toNat, by omega⟩
  obtain ⟨y, s1, a1, a2⟩ := h.last (b := b) (by omega) (n := n) (by omega)
  obtain ⟨z, hz⟩ := P_ofAll_t (n := n)
  obtain ⟨d, hd, hd1⟩ := P_divisor_t (a := y) (b := z)
  rw [v_bt c2, if_neg (by decide), a1, d_b2_t, hz, d_b_t]
  unfold F_X11_lasts_j53
  rw [hd, d_b_t, d_g_t (by omega), d_b_t, d_g_t (by omega)]
  by_cases q : x3 = 0
  · rw [if_pos q]; exact ⟨_, s1, rfl, Or.inr a2⟩
  · rw [if_neg q]; exact ⟨_, s1, rfl, Or.inr a2⟩
theorem v_hlb (hM : v_M s st me so) (hQ : v_Q s u v W H) (hb : b < v_bl u v) : ∀ (j k m : Nat), k + j = b → j < m → ∃ y, F_X11_hasLikeBefore_l2 s m (b : Int) (k : Int) = some y := by
  have h64 := hQ.2.2.1
  intro j
  induction j with
  | zero =>
    intro k m hk hf
    obtain ⟨m, rfl⟩ : ∃ q, m = q + 1 := ⟨m - 1, by omega⟩
    refine ⟨0, ?_⟩
    show F_X11_hasLikeBefore_l2_b s (F_X11_hasLikeBefore_l2 s m) _ _ = _
    unfold F_X11_hasLikeBefore_l2_b
    rw [if_neg (by omega)]
  | succ j ih =>
    intro k m hk hf
    obtain ⟨m, rfl⟩ : ∃ q, m = q + 1 := ⟨m - 1, by omega⟩
    obtain ⟨y, hy⟩ := ih (k + 1) m (by omega) (by omega)
    show ∃ y, F_X11_hasLikeBefore_l2_b s (F_X11_hasLikeBefore_l2 s m) _ _ = _
    unfold F_X11_hasLikeBefore_l2_b F_X10_isLike_6
    rw [if_pos (by omega), P_markOf hM (by omega), d_b_t, P_markOf hM (by omega), d_b_t, P_sizeOfC hQ (by omega), d_b_t, P_sizeOfC hQ (by omega), d_b_t, P_edgeOfC hQ (by omega), d_b_t, P_edgeOfC hQ (by omega), d_b_t, d_w_id (x := (k : Int) + 1) (by omega) (by omega)]
    have hy' : F_X11_hasLikeBefore_l2 s m (b : Int) ((k : Int) + 1) = some y := hy
    rw [hy']
    split
    · rw [d_b_t, if_neg (by decide)]
      split
      · split
        · exact ⟨1, rfl⟩
        · exact ⟨y, rfl⟩
      · exact ⟨y, rfl⟩
    · rw [d_b_t, if_pos rfl]; exact ⟨y, rfl⟩
theorem v_sfl {n : Nat} (hn : n ≤ 4) : ∀ (j k m : Nat), k + j = v_bl u v → j < m → ∀ (y z : Int) (s : d_S), v_rdy t s L u v W H st me so N sg day heat x → ∃ r s', F_X11_sellFirst_l18 t m (n : Int) y z (k : Int) s = some (r, s') ∧ (s' = s ∨ v_oq s s') := by
  intro j
  induction j with
  | zero =>
    intro k m hk hf y z s h
    obtain ⟨m, rfl⟩ : ∃ q, m = q + 1 := ⟨m - 1, by omega⟩
    refine ⟨y, s, ?_, Or.inl rfl⟩
    show F_X11_sellFirst_l18_b t (F_X11_sellFirst_l18 t m) _ _ _ _ _ = _
    unfold F_X11_sellFirst_l18_b
    rw [h.2.1.1, if_neg (by omega)]
  | succ j ih =>
    intro k m hk hf y z s h
    obtain ⟨m, rfl⟩ : ∃ q, m = q + 1 := ⟨m - 1, by omega⟩
    have h64 := h.2.1.2.2.1
    have ek : d_w ((k : Int) + 1) = ((k + 1 : Nat) : Int) := d_w_id (by omega) (by omega)
    have skip : ∃ r s', F_X11_sellFirst_l18 t m (n : Int) y z ((k + 1 : Nat) : Int) s = some (r, s') ∧ (s' = s ∨ v_oq s s') := ih (k + 1) m (by omega) (by omega) y z s h
    show ∃ r s', F_X11_sellFirst_l18_b t (F_X11_sellFirst_l18 t m) _ _ _ _ _ = _ ∧ _
    unfold F_X11_sellFirst_l18_b
    rw [h.2.1.1, if_pos (by omega), P_csC h.1 h.2.1, d_b_t, ek]
    by_cases c : v_csb u v so me k
    rotate_left
    · rw [v_bf c, if_pos rfl]; exact skip
    obtain ⟨w, hw⟩ := v_hlb h.1 h.2.1 (b := k) (by omega) k 0 d_N (by omega) (by rw [d_N_is]; omega)
    have hw' : F_X11_hasLikeBefore s (k : Int) = some w := hw
    rw [v_bt c, if_neg (by decide), hw', d_b_t]
    by_cases q : w = 0
    rotate_left
    · rw [if_neg q]; exact skip
    obtain ⟨p, s1, a1, a2⟩ := h.last (b := k) (by omega) hn
    rw [if_pos q, a1, d_b2_t]
    have go : ∀ y2 z2 : Int, ∃ r s', F_X11_sellFirst_l18 t m (n : Int) y2 z2 ((k + 1 : Nat) : Int) s1 = some (r, s') ∧ (s' = s ∨ v_oq s s') := fun y2 z2 => by
      obtain ⟨r, s', b1, b2⟩ := ih (k + 1) m (by omega) (by omega) y2 z2 s1 (h.oq a2)
      refine ⟨r, s', b1, Or.inr ?_⟩
      rcases b2 with rfl | b2
      · exact a2
      · exact a2.tr b2
    split
    · exact go _ _
    · split
      · exact go _ _
      · exact go _ _
theorem v_rdy.sellFirst (h : v_rdy t s L u v W H st me so N sg day heat x) {x1 : Int} : ∃ y s', F_X11_sellFirst t s x1 = some (y, s') ∧ (s' = s ∨ v_oq s s') := by
  have h64 := h.2.1.2.2.1
  unfold F_X11_sellFirst
  rw [P_within, d_b_t]
  by_cases c2 : 0 ≤ x1 ∧ x1 ≤ 4
  rotate_left
  · rw [v_bf c2, if_pos rfl]; exact ⟨-1, s, rfl, Or.inl rfl⟩
  obtain ⟨n, rfl⟩ : ∃ n : Nat, x1 = n := ⟨x1.toNat, by omega⟩
  rw [v_bt c2, if_neg (by decide)]
  exact v_sfl (n := n) (by omega) (v_bl u v) 0 d_N (by omega) (by rw [d_N_is]; omega) (-1) 0 s h
end V60
def v_TT (t : Nat → Option p_C) (C : Option (Int × d_S)) (D : d_S → Option (Int × d_S)) : Prop := ∃ v v' s1 s2, C = some (v, s1) ∧ D s1 = some (v', s2) ∧ v_R t s2
section V61
variable {s s1 s2 : d_S} {t : Nat → Option p_C} {L : v_LR} {u v W H N b : Nat} {st me so : Nat → Nat} {sg : Nat → Nat → Nat} {day heat x size edge : Int} {e : Option Nat}
theorem v_AA.TT {C : Option (Int × d_S)} {D : d_S → Option (Int × d_S)} (h : v_AA t C D) : v_TT t C D := by
  obtain ⟨v, s1, s2, a, b, c⟩ := h
  exact ⟨v, v, s1, s2, a, b, c⟩
theorem v_71rf : v_71 s s := ⟨fun _ _ => rfl, rfl, fun h => h⟩
theorem v_71tr (h : v_71 s s1) (h' : v_71 s1 s2) : v_71 s s2 := ⟨fun a ha => (h'.1 a ha).trans (h.1 a ha), h'.2.1.trans h.2.1, fun z => h'.2.2 (h.2.2 z)⟩
theorem v_rdr.g71 (h : v_rdr s L u v W H st me so N sg day heat) (h' : v_71 s s1) : v_rdr s1 L u v W H st me so N sg day heat := h.fr (h'.1 65 (by decide)) (h'.1 67 (by decide)) (h'.2.2 h.2.2.2.2.1)
theorem v_divLp {a b : Nat} (ha : a < 2147483648) (hb : b < 2147483648) : d_divL (a : Int) (b : Int) = ((a / b : Nat) : Int) := by
  unfold d_divL
  have h1 : (Int64.ofInt (a : Int)).toInt = a := d_tiL ⟨by omega, by omega⟩
  have h2 : (Int64.ofInt (b : Int)).toInt = b := d_tiL ⟨by omega, by omega⟩
  rw [Int64.toInt_div, h1, h2, ← Int.ofNat_tdiv]
  have := Nat.div_le_self a b
  generalize a / b = q at *
  exact Int.bmod_eq_of_le (by omega) (by omega)
theorem v_remLp {a b : Nat} (ha : a < 2147483648) (hb : b < 2147483648) : d_remL (a : Int) (b : Int) = ((a % b : Nat) : Int) := by
  have hd := v_divLp ha hb
  unfold d_divL at hd
  unfold d_remL
  have h0 : Int64.ofInt (a : Int) / Int64.ofInt (b : Int) = Int64.ofInt ((a / b : Nat) : Int) := by rw [← hd, Int64.ofInt_toInt]
  rw [h0, ← Int64.ofInt_mul, ← Int64.ofInt_sub]
  have h1 := Nat.div_add_mod a b
  have h2 : ((a : Int) - ((a / b : Nat) : Int) * (b : Int)) = ((a % b : Nat) : Int) := by
    have : (a : Int) = (b : Int) * ((a / b : Nat) : Int) + ((a % b : Nat) : Int) := by exact_mod_cast h1.symm
    rw [Int.mul_comm ((a / b : Nat) : Int)]; omega
  rw [h2]
  have := Nat.mod_le a b
  exact d_tiL ⟨by omega, by omega⟩
theorem P_part_t {a c : Nat} (ha : a < 2000) (hc : 1 ≤ c ∧ c < 2000) {y : Int} : ∃ z, F_X12_part (a : Int) (c : Int) y = some z := by
  have g : F_X12_gcd (a : Int) (c : Int) = some ((Nat.gcd a c : Nat) : Int) := by
    unfold F_X12_gcd F_X12_gcd_j12
    rw [if_neg (by omega)]
    exact v_gcR2 c a (by omega) (by omega) d_N (by rw [d_N_is]; omega)
  have g1 : 1 ≤ Nat.gcd a c := Nat.gcd_pos_of_pos_right a (by omega)
  unfold F_X12_part F_X12_part_j10
  rw [g, d_b_t, d_g_t (by omega), d_b_t, d_g_t (by omega)]
  split <;> exact ⟨_, rfl⟩
theorem v_cut_b {y top : Int} (h : 0 ≤ top) : 0 ≤ v_cut y top ∧ v_cut y top ≤ top := by
  unfold v_cut; omega
theorem v_pol {n : Nat} (hn : n ≤ 4) : ∀ (j k m : Nat), k + j = n → j < m → ∀ a : Nat, a * 10 ^ j ≤ 1000 → F_X12_pathsOf_l4 m (n : Int) (a : Int) (k : Int) = some ((a * 10 ^ j : Nat) : Int) := by
  intro j
  induction j with
  | zero =>
    intro k m hk hf a ha
    obtain ⟨m, rfl⟩ : ∃ q, m = q + 1 := ⟨m - 1, by omega⟩
    show F_X12_pathsOf_l4_b (F_X12_pathsOf_l4 m) _ _ _ = _
    unfold F_X12_pathsOf_l4_b
    rw [if_neg (by omega), Nat.pow_zero, Nat.mul_one]
  | succ j ih =>
    intro k m hk hf a ha
    obtain ⟨m, rfl⟩ : ∃ q, m = q + 1 := ⟨m - 1, by omega⟩
    have e1 : a * 10 ^ (j + 1) = a * 10 * 10 ^ j := by rw [Nat.pow_succ, Nat.mul_assoc, Nat.mul_comm (10 ^ j) 10]
    rw [e1] at ha ⊢
    have h1 : a * 10 ≤ 1000 := Nat.le_trans (Nat.le_mul_of_pos_right _ (Nat.pow_pos (by decide))) ha
    have hr := ih (k + 1) m (by omega) (by omega) (a * 10) ha
    show F_X12_pathsOf_l4_b (F_X12_pathsOf_l4 m) _ _ _ = _
    unfold F_X12_pathsOf_l4_b
    rw [if_pos (by omega), d_w_id (x := (a : Int) * 10) (by omega) (by omega), d_w_id (x := (k : Int) + 1) (by omega) (by omega)]
    exact hr
theorem P_pathsOf {n : Nat} (hn : n ≤ 4) : ∃ c : Nat, F_X12_pathsOf (n : Int) = some (c : Int) ∧ 1 ≤ c ∧ c ≤ 1000 := by
  unfold F_X12_pathsOf
  by_cases q : n = 0
  · subst q
    refine ⟨1, ?_, by decide, by decide⟩
    rw [d_N_is]
    show F_X12_pathsOf_l4_b (F_X12_pathsOf_l4 99999) _ _ _ = _
    unfold F_X12_pathsOf_l4_b
    rw [if_neg (by omega)]; rfl
  · have h1 : 10 ^ (n - 1) ≤ 10 ^ 3 := Nat.pow_le_pow_right (by decide) (by omega)
    have h2 : 1 ≤ 10 ^ (n - 1) := Nat.one_le_pow _ _ (by decide)
    have := v_pol hn (n - 1) 1 d_N (by omega) (by rw [d_N_is]; omega) 1 (by omega)
    exact ⟨1 * 10 ^ (n - 1), this, by omega, by omega⟩
theorem v_isll {K : Int → d_S → Option (Int × d_S)} {n : Nat} (hn : n ≤ 4) (hb : b < v_bl u v) : ∀ (j k m : Nat), k + j = n → j < m → ∀ (left ht sw ml : Int) (s : d_S), v_rdr s L u v W H st me so N sg day heat → (0 ≤ left ∧ left < 10000) → (0 ≤ ht ∧ ht ≤ 9) → (0 ≤ sw ∧ sw ≤ 9) → (0 ≤ ml ∧ ml ≤ 100) → ∃ w s', F_X12_isLasting_l31 K m (b : Int) (n : Int) left ht sw ml (k : Int) s = K w s' ∧ v_71 s s' := by
  intro j
  induction j with
  | zero =>
    intro k m hk hf left ht sw ml s h h1 h2 h3 h4
    obtain ⟨m, rfl⟩ : ∃ q, m = q + 1 := ⟨m - 1, by omega⟩
    refine ⟨ml, s, ?_, v_71rf⟩
    show F_X12_isLasting_l31_b K (F_X12_isLasting_l31 K m) _ _ _ _ _ _ _ _ = _
    unfold F_X12_isLasting_l31_b
    rw [if_neg (by omega)]
  | succ j ih =>
    intro k m hk hf left ht sw ml s h h1 h2 h3 h4
    obtain ⟨m, rfl⟩ : ∃ q, m = q + 1 := ⟨m - 1, by omega⟩
    obtain ⟨hG, hZ, hB, hT, hN, ⟨e9, e10⟩, d1, d2⟩ := id h
    obtain ⟨s1, a1, a2⟩ := P_meltsBy (day := day + (k : Int)) (heat := ht) (straw := sw) (melted := ml) hG hb hT hN (by omega) (by omega) (by omega) (by omega)
    have hm := v_mel_b (L := L) (day := day + (k : Int)) (heat := ht) (size := ((v_sz u v W H b : Nat) : Int)) (straw := sw) (melted := ml) (edge := ((v_ed u v W H b : Nat) : Int))
    obtain ⟨m1, hm1⟩ : ∃ z, z = v_mel L (day + (k : Int)) ht ((v_sz u v W H b : Nat) : Int) sw ml ((v_ed u v W H b : Nat) : Int) := ⟨_, rfl⟩
    rw [← hm1] at a1 hm
    have hc := v_cut_b (y := ml + m1) (top := 100) (by decide)
    obtain ⟨hG1, hZ1, hB1, hT1, hN1, ⟨f9, f10⟩, -⟩ := h.g71 a2
    have el : d_rem left 10 = left % 10 := v_remI h1.1 (by omega) (by decide) (by decide)
    have ed : d_div left 10 = left / 10 := v_divI h1.1 (by omega) (by decide) (by decide)
    obtain ⟨s2, b1, b2⟩ := P_rotsBy (day := day + (k : Int) + 1) (heat := left % 10) (straw := sw) (melted := v_cut (ml + m1) 100) hG1 hb hT1 hN1 (by omega) (by omega) (by omega) (by omega)
    have hr := v_rot_b (L := L) (day := day + (k : Int) + 1) (heat := left % 10) (size := ((v_sz u v W H b : Nat) : Int)) (straw := sw) (melted := v_cut (ml + m1) 100) (edge := ((v_ed u v W H b : Nat) : Int))
    obtain ⟨r1, hr1⟩ : ∃ z, z = v_rot L (day + (k : Int) + 1) (left % 10) ((v_sz u v W H b : Nat) : Int) sw (v_cut (ml + m1) 100) ((v_ed u v W H b : Nat) : Int) := ⟨_, rfl⟩
    rw [← hr1] at b1 hr
    have hc2 := v_cut_b (y := sw - r1) (top := 9) (by decide)
    obtain ⟨w, s', c1, c2⟩ := ih (k + 1) m (by omega) (by omega) (left / 10) (left % 10) (v_cut (sw - r1) 9) (v_cut (ml + m1) 100) s2 ((h.g71 a2).g71 b2) (by omega) (by omega) hc2 hc
    refine ⟨w, s', ?_, v_71tr (v_71tr a2 b2) c2⟩
    show F_X12_isLasting_l31_b K (F_X12_isLasting_l31 K m) _ _ _ _ _ _ _ _ = _
    unfold F_X12_isLasting_l31_b
    rw [if_pos (by omega), e9, d_w_id (x := day + (k : Int)) (by omega) (by omega), a1, d_b2_t, d_w_id (x := ml + m1) (by omega) (by omega), P_cut (by decide) (by decide), d_b_t, f9, d_w_id (x := day + (k : Int) + 1) (by omega) (by omega), el, ed, b1, d_b2_t, d_w_id (x := sw - r1) (by omega) (by omega), P_cut (by decide) (by decide), d_b_t, d_w_id (x := (k : Int) + 1) (by omega) (by omega)]
    exact c1
theorem v_rdr.isl (h : v_rdr s L u v W H st me so N sg day heat) (hb : b < v_bl u v) {n : Nat} (hn : n ≤ 4) {y : Int} (hy : 0 ≤ y ∧ y < 10000) : ∃ (w : Nat) (s' : d_S), F_X12_isLasting s (b : Int) (n : Int) y = some ((w : Int), s') ∧ w ≤ 1 ∧ v_71 s s' := by
  obtain ⟨hG, hZ, hB, hT, hN, ⟨e9, e10⟩, d1, d2⟩ := id h
  have h64 := hG.ac
  obtain ⟨-, m1, m2, m3⟩ := hB b (by omega)
  obtain ⟨w, s1, a1, a2⟩ := v_isll (K := fun x7_u9 s_u9 => if x7_u9 < 100 then some (1, s_u9) else some (0, s_u9)) hn hb n 0 d_N (by omega) (by rw [d_N_is]; omega) y heat ((st b : Nat) : Int) ((me b : Nat) : Int) s h hy d2 (by omega) (by omega)
  have hgo : F_X12_isLasting s (b : Int) (n : Int) y = if w < 100 then some (1, s1) else some (0, s1) := by
    unfold F_X12_isLasting
    rw [P_get0 hB (by omega), d_b_t, P_get1 hB (by omega), d_b_t, e10]
    exact a1
  rw [hgo]
  by_cases q : w < 100
  · exact ⟨1, s1, by rw [if_pos q]; rfl, by decide, a2⟩
  · exact ⟨0, s1, by rw [if_neg q]; rfl, by decide, a2⟩
theorem v_lal {n : Nat} (hn : n ≤ 4) (hb : b < v_bl u v) {c : Nat} (hc : F_X12_pathsOf (n : Int) = some (c : Int)) (hc1 : c ≤ 1000) : ∀ (j k m : Nat), k + j = c → j < m → ∀ (y : Nat) (s : d_S), y ≤ k → v_rdr s L u v W H st me so N sg day heat → ∃ (w : Nat) (s' : d_S), F_X12_lasting_l5 m (b : Int) (n : Int) (y : Int) (k : Int) s = some ((w : Int), s') ∧ w ≤ 1000 ∧ v_71 s s' := by
  intro j
  induction j with
  | zero =>
    intro k m hk hf y s hy h
    obtain ⟨m, rfl⟩ : ∃ q, m = q + 1 := ⟨m - 1, by omega⟩
    refine ⟨y, s, ?_, by omega, v_71rf⟩
    show F_X12_lasting_l5_b (F_X12_lasting_l5 m) _ _ _ _ _ = _
    unfold F_X12_lasting_l5_b
    rw [hc, d_b_t, if_neg (by omega)]
  | succ j ih =>
    intro k m hk hf y s hy h
    obtain ⟨m, rfl⟩ : ∃ q, m = q + 1 := ⟨m - 1, by omega⟩
    obtain ⟨w, s1, a1, a2, a3⟩ := h.isl hb hn (y := (k : Int)) (by omega)
    have ek : d_w ((k : Int) + 1) = ((k + 1 : Nat) : Int) := d_w_id (by omega) (by omega)
    show ∃ w s', F_X12_lasting_l5_b (F_X12_lasting_l5 m) _ _ _ _ _ = _ ∧ _
    unfold F_X12_lasting_l5_b
    rw [hc, d_b_t, if_pos (by omega), a1, d_b2_t, ek]
    by_cases q : (w : Int) = 0
    · obtain ⟨w', s', b1, b2, b3⟩ := ih (k + 1) m (by omega) (by omega) y s1 (by omega) (h.g71 a3)
      refine ⟨w', s', ?_, b2, v_71tr a3 b3⟩
      rw [if_pos q, d_w_id (x := (y : Int) + 0) (by omega) (by omega), Int.add_zero]
      exact b1
    · obtain ⟨w', s', b1, b2, b3⟩ := ih (k + 1) m (by omega) (by omega) (y + 1) s1 (by omega) (h.g71 a3)
      refine ⟨w', s', ?_, b2, v_71tr a3 b3⟩
      rw [if_neg q, d_w_id (x := (y : Int) + 1) (by omega) (by omega)]
      exact b1
theorem v_rdr.last (h : v_rdr s L u v W H st me so N sg day heat) (hb : b < v_bl u v) {n : Nat} (hn : n ≤ 4) : ∃ (w : Nat) (s' : d_S), F_X12_lasting s (b : Int) (n : Int) = some ((w : Int), s') ∧ w ≤ 1000 ∧ v_71 s s' := by
  obtain ⟨c, hc, -, hc2⟩ := P_pathsOf hn
  exact v_lal hn hb hc hc2 c 0 d_N (by omega) (by rw [d_N_is]; omega) 0 s (by omega) h
theorem v_rdr.lasts (h : v_rdr s L u v W H st me so N sg day heat) {x1 x2 x3 : Int} : ∃ y s', F_X12_lasts s x1 x2 x3 = some (y, s') ∧ v_71 s s' := by
  unfold F_X12_lasts
  rw [P_isBlock h.1, d_b_t]
  by_cases c1 : 0 ≤ x1 ∧ x1 < ((v_bl u v : Nat) : Int)
  rotate_left
  · rw [v_bf c1, if_pos rfl]; exact ⟨-1, s, rfl, v_71rf⟩
  rw [v_bt c1, if_neg (by decide), P_isIn, d_b_t]
  by_cases c2 : 0 ≤ x2 ∧ x2 ≤ 4
  rotate_left
  · rw [v_bf c2, if_pos rfl]; exact ⟨-1, s, rfl, v_71rf⟩
  obtain ⟨b, rfl⟩ : ∃ b : Nat, x1 = b := ⟨x1.toNat, by omega⟩
  obtain ⟨n, rfl⟩ : ∃ n : Nat, x2 = n := ⟨x2.toNat, by omega⟩
  obtain ⟨w, s1, a1, a2, a3⟩ := h.last (b := b) (by omega) (n := n) (by omega)
  obtain ⟨c, hc, hc1, hc2⟩ := P_pathsOf (n := n) (by omega)
  obtain ⟨z, hz⟩ := P_part_t (a := w) (c := c) (by omega) (by omega) (y := x3)
  refine ⟨z, s1, ?_, a3⟩
  rw [v_bt c2, if_neg (by decide), a1, d_b2_t, hc, d_b_t, hz, d_b_t]
theorem v_sfR {n : Nat} (hn : n ≤ 4) : ∀ (j k m : Nat), k + j = v_bl u v → j < m → ∀ (y z : Int) (s : d_S), v_rdr s L u v W H st me so N sg day heat → ∃ r s', F_X12_sellFirst_l18 m (n : Int) y z (k : Int) s = some (r, s') ∧ v_71 s s' := by
  intro j
  induction j with
  | zero =>
    intro k m hk hf y z s h
    obtain ⟨m, rfl⟩ : ∃ q, m = q + 1 := ⟨m - 1, by omega⟩
    refine ⟨y, s, ?_, v_71rf⟩
    show F_X12_sellFirst_l18_b (F_X12_sellFirst_l18 m) _ _ _ _ _ = _
    unfold F_X12_sellFirst_l18_b
    rw [P_blocks h.1, d_b_t, if_neg (by omega)]
  | succ j ih =>
    intro k m hk hf y z s h
    obtain ⟨m, rfl⟩ : ∃ q, m = q + 1 := ⟨m - 1, by omega⟩
    have h64 := h.1.ac
    have ek : d_w ((k : Int) + 1) = ((k + 1 : Nat) : Int) := d_w_id (by omega) (by omega)
    show ∃ r s', F_X12_sellFirst_l18_b (F_X12_sellFirst_l18 m) _ _ _ _ _ = _ ∧ _
    unfold F_X12_sellFirst_l18_b
    rw [P_blocks h.1, d_b_t, if_pos (by omega), P_csR h.1 h.2.2.1, d_b_t, ek]
    by_cases c : v_csb u v so me k
    rotate_left
    · rw [v_bf c, if_pos rfl]; exact ih (k + 1) m (by omega) (by omega) y z s h
    obtain ⟨w, s1, a1, a2, a3⟩ := h.last (b := k) (by omega) hn
    rw [v_bt c, if_neg (by decide), a1, d_b2_t]
    have go : ∀ y2 z2 : Int, ∃ r s', F_X12_sellFirst_l18 m (n : Int) y2 z2 ((k + 1 : Nat) : Int) s1 = some (r, s') ∧ v_71 s s' := fun y2 z2 => by
      obtain ⟨r, s', b1, b2⟩ := ih (k + 1) m (by omega) (by omega) y2 z2 s1 (h.g71 a3)
      exact ⟨r, s', b1, v_71tr a3 b2⟩
    split
    · exact go _ _
    · split
      · exact go _ _
      · exact go _ _
theorem v_rdr.sellFirst (h : v_rdr s L u v W H st me so N sg day heat) {x1 : Int} : ∃ y s', F_X12_sellFirst s x1 = some (y, s') ∧ v_71 s s' := by
  have h64 := h.1.ac
  unfold F_X12_sellFirst
  rw [P_isIn, d_b_t]
  by_cases c2 : 0 ≤ x1 ∧ x1 ≤ 4
  rotate_left
  · rw [v_bf c2, if_pos rfl]; exact ⟨-1, s, rfl, v_71rf⟩
  obtain ⟨n, rfl⟩ : ∃ n : Nat, x1 = n := ⟨x1.toNat, by omega⟩
  rw [v_bt c2, if_neg (by decide)]
  exact v_sfR (n := n) (by omega) (v_bl u v) 0 d_N (by omega) (by rw [d_N_is]; omega) (-1) 0 s h
theorem v_R.oq (h : v_R t s) (h' : v_oq s s1) : v_R t s1 := h.scr (fun a ha => h'.1 a (by unfold v_cl at ha; omega) (by unfold v_cl at ha; omega) (by unfold v_cl at ha; omega) (by unfold v_cl at ha; omega)) (fun a ha => h'.2.1 a ha) ⟨h'.2.2, by rw [h'.1 71 (by decide) (by decide) (by decide) (by decide)]; exact h.2.2.2.2.2.2.2.1.2⟩
theorem v_R.g71 (h : v_R t s) (h' : v_71 s s1) : v_R t s1 := h.scr (fun a ha => h'.1 a (by unfold v_cl at ha; omega)) (fun a _ => by rw [h'.2.1]) ⟨by rw [h'.1 49 (by decide)]; exact h.2.2.2.2.2.2.2.1.1, h'.2.2 h.2.2.2.2.2.2.2.1.2⟩
theorem R_lasts (h : v_R t s) {x1 x2 x3 : Int} : v_TT t (F_X11_lasts t s x1 x2 x3) (fun s1 => F_X12_lasts s1 x1 x2 x3) := by
  obtain ⟨L, u, v, W, H, st, me, so, N, sg, day, heat, x, hC, hR⟩ := h.rdy
  obtain ⟨y, s1, a1, a2⟩ := hC.lasts (x1 := x1) (x2 := x2) (x3 := x3)
  have hR1 : v_R t s1 := by
    rcases a2 with rfl | a2
    · exact h
    · exact h.oq a2
  obtain ⟨L, u, v, W, H, st, me, so, N, sg, day, heat, x, -, hR2⟩ := hR1.rdy
  obtain ⟨z, s2, b1, b2⟩ := hR2.lasts (x1 := x1) (x2 := x2) (x3 := x3)
  exact ⟨y, z, s1, s2, a1, b1, hR1.g71 b2⟩
theorem T_sellFirst (h : v_R t s) {x1 : Int} : v_TT t (F_X11_sellFirst t s x1) (fun s1 => F_X12_sellFirst s1 x1) := by
  obtain ⟨L, u, v, W, H, st, me, so, N, sg, day, heat, x, hC, hR⟩ := h.rdy
  obtain ⟨y, s1, a1, a2⟩ := hC.sellFirst (x1 := x1)
  have hR1 : v_R t s1 := by
    rcases a2 with rfl | a2
    · exact h
    · exact h.oq a2
  obtain ⟨L, u, v, W, H, st, me, so, N, sg, day, heat, x, -, hR2⟩ := hR1.rdy
  obtain ⟨z, s2, b1, b2⟩ := hR2.sellFirst (x1 := x1)
  exact ⟨y, z, s1, s2, a1, b1, hR1.g71 b2⟩
end V61

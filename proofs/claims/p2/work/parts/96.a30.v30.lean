def v_mk (a l : Nat) : Nat := (2 ^ (l - 1) - 1) * 2 ^ a
def v_lm (f : Nat → Nat) (S : Nat) : Nat → Nat
  | 0 => 0
  | k + 1 => if S / 2 ^ k % 2 = 1 then v_lm f S k ||| f k else v_lm f S k
abbrev v_un (sg : Nat → Nat → Nat) (u v n : Nat) : Prop := u &&& v_mk (sg n 1) (sg n 3) = 0 ∧ v &&& v_mk (sg n 2) (sg n 4) = 0
abbrev v_sw (sg : Nat → Nat → Nat) (me : Nat → Nat) (u v W H b n : Nat) : Prop := sg n 5 * 10 < me b ∧ 0 < v_ce sg u v W H n b
def v_Bd (sg : Nat → Nat → Nat) (N W H : Nat) : Prop := ∀ n, n < N → (1 ≤ sg n 3 ∧ sg n 3 ≤ 3) ∧ (1 ≤ sg n 4 ∧ sg n 4 ≤ 3) ∧ sg n 1 + sg n 3 ≤ W ∧ sg n 2 + sg n 4 ≤ H
section V30
variable {s : d_S} {t : Nat → Option p_C} {u v W H b N : Nat} {st me so : Nat → Nat} {sg : Nat → Nat → Nat}
theorem v_mk_lt {a l : Nat} (hl : 1 ≤ l ∧ l ≤ 3) (ha : a ≤ 9) : v_mk a l < 2048 := by
  have : ∀ l, l < 4 → ∀ a, a < 10 → v_mk a l < 2048 := by decide +kernel
  exact this l (by omega) a (by omega)
theorem v_mkI {a l : Nat} (hl : 1 ≤ l ∧ l ≤ 3) (ha : a ≤ 9) : d_shl (d_shl 1 (((l : Nat) : Int) - 1) - 1) ((a : Nat) : Int) = ((v_mk a l : Nat) : Int) := by
  have hm := v_mk_lt hl ha
  have e1 : ((l : Nat) : Int) - 1 = ((l - 1 : Nat) : Int) := by omega
  have hp : 1 ≤ 2 ^ (l - 1) := Nat.one_le_two_pow
  rw [e1, v_1shl (by omega), show ((2 ^ (l - 1) : Nat) : Int) - 1 = ((2 ^ (l - 1) - 1 : Nat) : Int) by omega]
  exact v_shl (by omega) (by unfold v_mk at hm; omega)
theorem v_lm_lt {f : Nat → Nat} {S : Nat} : ∀ k, (∀ j, j < k → f j < 2048) → v_lm f S k < 2048 := by
  intro k
  induction k with
  | zero => intro _; exact (by decide : 0 < 2048)
  | succ k ih =>
    intro hf
    simp only [v_lm]
    split
    · exact Nat.or_lt_two_pow (n := 11) (ih (fun j hj => hf j (by omega))) (hf k (by omega))
    · exact ih (fun j hj => hf j (by omega))
theorem v_lmb {i n : Nat} : ∀ n, n < 12 → ∀ i, i < 12 → (2 ^ n / 2 ^ i % 2 = 1 ↔ i = n) := by decide +kernel
theorem v_lm1 {f : Nat → Nat} {n : Nat} (hn : n < 12) : ∀ k, k ≤ 12 → v_lm f (2 ^ n) k = if n < k then f n else 0 := by
  intro k
  induction k with
  | zero => intro _; rfl
  | succ k ih =>
    intro hk
    simp only [v_lm]
    rw [ih (by omega)]
    by_cases q : k = n
    · rw [if_pos ((v_lmb (i := 0) (n := 0) n hn k (by omega)).2 q), if_neg (by omega), if_pos (by omega), q, Nat.zero_or]
    · rw [if_neg (fun e => q ((v_lmb (i := 0) (n := 0) n hn k (by omega)).1 e))]
      by_cases q2 : n < k
      · rw [if_pos q2, if_pos (by omega)]
      · rw [if_neg q2, if_neg (by omega)]
theorem v_linel (hS : v_S s N sg) (hBd : v_Bd sg N W H) (hWH : W ≤ 8 ∧ H ≤ 8) {S : Nat} (hSS : S < 4096) {y : Int} : ∀ (j k m : Nat), k + j = N → j < m → F_X11_linesThrough_l5 s m (S : Int) y ((v_lm (fun n => if y = 0 then v_mk (sg n 2) (sg n 4) else v_mk (sg n 1) (sg n 3)) S k : Nat) : Int) (k : Int) = some ((v_lm (fun n => if y = 0 then v_mk (sg n 2) (sg n 4) else v_mk (sg n 1) (sg n 3)) S N : Nat) : Int) := by
  have hfl : ∀ n, n < N → (if y = 0 then v_mk (sg n 2) (sg n 4) else v_mk (sg n 1) (sg n 3)) < 2048 := fun n hn => by
    have h1 := hBd n hn
    have h2 := hS.le hn (k := 1) (by decide)
    have h3 := hS.le hn (k := 2) (by decide)
    split
    · exact v_mk_lt h1.2.1 h3
    · exact v_mk_lt h1.1 h2
  intro j
  induction j with
  | zero =>
    intro k m hk hm
    obtain ⟨m, rfl⟩ : ∃ q, m = q + 1 := ⟨m - 1, by omega⟩
    have hk : k = N := by omega
    subst hk
    show F_X11_linesThrough_l5_b s (F_X11_linesThrough_l5 s m) _ _ _ _ = _
    unfold F_X11_linesThrough_l5_b
    rw [hS.1, if_neg (by omega)]
  | succ j ih =>
    intro k m hk hm
    obtain ⟨m, rfl⟩ : ∃ q, m = q + 1 := ⟨m - 1, by omega⟩
    have hkN : k < N := by omega
    have hN12 := hS.2.1
    have h1 := hBd k hkN
    have h2 := hS.le hkN (k := 1) (by decide)
    have h3 := hS.le hkN (k := 2) (by decide)
    have hl := v_lm_lt (f := fun n => if y = 0 then v_mk (sg n 2) (sg n 4) else v_mk (sg n 1) (sg n 3)) (S := S) k (fun j hj => hfl j (by omega))
    have hr := ih (k + 1) m (by omega) (by omega)
    show F_X11_linesThrough_l5_b s (F_X11_linesThrough_l5 s m) _ _ _ _ = _
    unfold F_X11_linesThrough_l5_b
    rw [hS.1, if_pos (by omega), v_bit (by omega) (by omega)]
    simp only [v_lm] at hr
    by_cases q : S / 2 ^ k % 2 = 1
    · rw [if_pos q] at hr
      rw [if_pos (by omega)]
      unfold F_X11_linesThrough_j62
      by_cases qy : y = 0
      · simp only [if_pos qy] at hr hl ⊢
        rw [P_sightPart hS hkN (by decide) (by decide), d_b_t, P_sightPart hS hkN (by decide) (by decide), d_b_t, d_l_t]
        show F_X11_linesThrough_l5 s m _ _ (d_or _ (d_shl (d_shl 1 (((sg k 4 : Nat) : Int) - 1) - 1) ((sg k 2 : Nat) : Int))) _ = _
        rw [v_mkI h1.2.1 h3, v_or (by omega) (by have := v_mk_lt h1.2.1 h3; omega), d_w_id (x := (k : Int) + 1) (by omega) (by omega)]
        exact hr
      · simp only [if_neg qy] at hr hl ⊢
        rw [P_sightPart hS hkN (by decide) (by decide), d_b_t, P_sightPart hS hkN (by decide) (by decide), d_b_t, d_l_t]
        show F_X11_linesThrough_l5 s m _ _ (d_or _ (d_shl (d_shl 1 (((sg k 3 : Nat) : Int) - 1) - 1) ((sg k 1 : Nat) : Int))) _ = _
        rw [v_mkI h1.1 h2, v_or (by omega) (by have := v_mk_lt h1.1 h2; omega), d_w_id (x := (k : Int) + 1) (by omega) (by omega)]
        exact hr
    · rw [if_neg q] at hr
      rw [if_neg (by omega), d_w_id (x := (k : Int) + 1) (by omega) (by omega)]
      exact hr
theorem P_lines (hS : v_S s N sg) (hBd : v_Bd sg N W H) (hWH : W ≤ 8 ∧ H ≤ 8) {S : Nat} (hSS : S < 4096) {y : Int} : F_X11_linesThrough s (S : Int) y = some ((v_lm (fun n => if y = 0 then v_mk (sg n 2) (sg n 4) else v_mk (sg n 1) (sg n 3)) S N : Nat) : Int) := by
  unfold F_X11_linesThrough
  exact v_linel hS hBd hWH hSS N 0 d_N (by omega) (by rw [d_N_is]; have := hS.2.1; omega)
theorem v_2p {n : Nat} (hn : n < 12) : 2 ^ n < 4096 := Nat.pow_lt_pow_right (by decide) hn
theorem v_wholel (hC : v_C s u v W H) (hS : v_S s N sg) (hBd : v_Bd sg N W H) : ∀ (j k m : Nat), k + j = N → j < m → F_X11_wholeSights_l4 s m ((v_sb (v_un sg u v) k : Nat) : Int) (k : Int) = some ((v_sb (v_un sg u v) N : Nat) : Int) := by
  obtain ⟨⟨c1, c2, -⟩, hu, hv, hW, hH, -⟩ := hC
  intro j
  induction j with
  | zero =>
    intro k m hk hm
    obtain ⟨m, rfl⟩ : ∃ q, m = q + 1 := ⟨m - 1, by omega⟩
    have hk : k = N := by omega
    subst hk
    show F_X11_wholeSights_l4_b s (F_X11_wholeSights_l4 s m) _ _ = _
    unfold F_X11_wholeSights_l4_b
    rw [hS.1, if_neg (by omega)]
  | succ j ih =>
    intro k m hk hm
    obtain ⟨m, rfl⟩ : ∃ q, m = q + 1 := ⟨m - 1, by omega⟩
    have hkN : k < N := by omega
    have hN12 := hS.2.1
    have h1 := hBd k hkN
    have h2 := hS.le hkN (k := 1) (by decide)
    have h3 := hS.le hkN (k := 2) (by decide)
    have hr := ih (k + 1) m (by omega) (by omega)
    have hlt : v_sb (v_un sg u v) k < 2 ^ k := v_sb_lt k
    have h12 := v_2p (n := k) (by omega)
    have hz : F_X11_wholeSights_j59 s (F_X11_wholeSights_l4 s m) ((v_sb (v_un sg u v) k : Nat) : Int) (k : Int) = F_X11_wholeSights_l4 s m ((v_sb (v_un sg u v) k : Nat) : Int) ((k + 1 : Nat) : Int) := by
      unfold F_X11_wholeSights_j59
      rw [v_bit0_, d_b_t, v_0shl (by omega), v_or0 ⟨by omega, by omega⟩, d_w_id (x := (k : Int) + 1) (by omega) (by omega)]; rfl
    show F_X11_wholeSights_l4_b s (F_X11_wholeSights_l4 s m) _ _ = _
    unfold F_X11_wholeSights_l4_b
    rw [hS.1, if_pos (by omega), v_1shl (by omega), P_lines hS hBd ⟨hW.2, hH.2⟩ h12, d_b_t, v_lm1 (by omega) N (by omega), if_pos hkN, if_neg (show ¬ (1 : Int) = 0 by decide), c1, v_and (by omega) (by have := v_mk_lt h1.1 h2; omega)]
    simp only [v_sb] at hr
    by_cases q1 : u &&& v_mk (sg k 1) (sg k 3) = 0
    rotate_left
    · rw [if_neg (by omega), hz]
      rw [if_neg (fun e => q1 e.1)] at hr
      exact hr
    rw [if_pos (by omega), P_lines hS hBd ⟨hW.2, hH.2⟩ h12, d_b_t, v_lm1 (by omega) N (by omega), if_pos hkN, if_pos (show (0 : Int) = 0 from rfl), c2, v_and (by omega) (by have := v_mk_lt h1.2.1 h3; omega)]
    by_cases q2 : v &&& v_mk (sg k 2) (sg k 4) = 0
    rotate_left
    · rw [if_neg (by omega), hz]
      rw [if_neg (fun e => q2 e.2)] at hr
      exact hr
    rw [if_pos ⟨q1, q2⟩] at hr
    have := v_or1 (k := k) (by omega) hlt
    rw [v_1shl (by omega)] at this
    rw [if_pos (by omega), v_bit1_, d_b_t, v_1shl (by omega), this, d_w_id (x := (k : Int) + 1) (by omega) (by omega)]
    exact hr
theorem P_whole (hC : v_C s u v W H) (hS : v_S s N sg) (hBd : v_Bd sg N W H) : F_X11_wholeSights s = some ((v_sb (v_un sg u v) N : Nat) : Int) := by
  unfold F_X11_wholeSights
  exact v_wholel hC hS hBd N 0 d_N (by omega) (by rw [d_N_is]; have := hS.2.1; omega)
theorem P_isUncut (hZ : v_Z (s.1 65) N sg) (hBd : v_Bd sg N W H) {n : Nat} (hn : n < N) {u v : Nat} (hu : u < 128) (hv : v < 128) : F_X12_isUncut s (n : Int) (u : Int) (v : Int) = some (v_b (v_un sg u v n)) := by
  have h1 := hBd n hn
  have h2 := hZ.le hn (k := 1) (by decide)
  have h3 := hZ.le hn (k := 2) (by decide)
  have s1 : F_X12_sightOf s (n : Int) 1 = _ := P_sightOf hZ hn (k := 1) (by decide)
  have s2 : F_X12_sightOf s (n : Int) 2 = _ := P_sightOf hZ hn (k := 2) (by decide)
  have s3 : F_X12_sightOf s (n : Int) 3 = _ := P_sightOf hZ hn (k := 3) (by decide)
  have s4 : F_X12_sightOf s (n : Int) 4 = _ := P_sightOf hZ hn (k := 4) (by decide)
  unfold F_X12_isUncut F_X12_through
  rw [s1, d_b_t, s3, d_b_t, d_b_t, v_mkI h1.1 h2, v_and (by omega) (by have := v_mk_lt h1.1 h2; omega)]
  by_cases q1 : u &&& v_mk (sg n 1) (sg n 3) = 0
  rotate_left
  · rw [if_neg (by omega), v_bf (fun e => q1 e.1)]
  rw [if_pos (by omega), s2, d_b_t, s4, d_b_t, d_b_t, v_mkI h1.2.1 h3, v_and (by omega) (by have := v_mk_lt h1.2.1 h3; omega)]
  by_cases q2 : v &&& v_mk (sg n 2) (sg n 4) = 0
  · rw [if_pos (by omega), v_bt ⟨q1, q2⟩]
  · rw [if_neg (by omega), v_bf (fun e => q2 e.2)]
theorem v_wbyl (hZ : v_Z (s.1 65) N sg) (hBd : v_Bd sg N W H) {u v : Nat} (hu : u < 128) (hv : v < 128) : ∀ (j k m : Nat), k + j = N → j < m → F_X12_wholeBy_l5 s m (u : Int) (v : Int) ((v_sb (v_un sg u v) k : Nat) : Int) (k : Int) = some ((v_sb (v_un sg u v) N : Nat) : Int) := by
  intro j
  induction j with
  | zero =>
    intro k m hk hm
    obtain ⟨m, rfl⟩ : ∃ q, m = q + 1 := ⟨m - 1, by omega⟩
    have hk : k = N := by omega
    subst hk
    show F_X12_wholeBy_l5_b s (F_X12_wholeBy_l5 s m) _ _ _ _ = _
    unfold F_X12_wholeBy_l5_b
    rw [hZ.1, if_neg (by omega)]
  | succ j ih =>
    intro k m hk hm
    obtain ⟨m, rfl⟩ : ∃ q, m = q + 1 := ⟨m - 1, by omega⟩
    have hkN : k < N := by omega
    have hN12 := hZ.2.1
    have hr := ih (k + 1) m (by omega) (by omega)
    have hlt : v_sb (v_un sg u v) k < 2 ^ k := v_sb_lt k
    have h12 := v_2p (n := k) (by omega)
    show F_X12_wholeBy_l5_b s (F_X12_wholeBy_l5 s m) _ _ _ _ = _
    unfold F_X12_wholeBy_l5_b
    rw [hZ.1, if_pos (by omega), P_isUncut hZ hBd hkN hu hv, d_b_t, d_w_id (x := (k : Int) + 1) (by omega) (by omega)]
    simp only [v_sb] at hr
    by_cases q : v_un sg u v k
    · rw [if_pos q] at hr
      rw [v_bt q, if_neg (by decide), v_or1 (by omega) hlt]
      exact hr
    · rw [if_neg q] at hr
      rw [v_bf q, if_pos rfl, v_or0 ⟨by omega, by omega⟩]
      exact hr
theorem P_wholeBy (hZ : v_Z (s.1 65) N sg) (hBd : v_Bd sg N W H) {u v : Nat} (hu : u < 128) (hv : v < 128) : F_X12_wholeBy s (u : Int) (v : Int) = some ((v_sb (v_un sg u v) N : Nat) : Int) := by
  unfold F_X12_wholeBy
  exact v_wbyl hZ hBd hu hv N 0 d_N (by omega) (by rw [d_N_is]; have := hZ.2.1; omega)
theorem R_whole (h : v_R t s) : v_AP (F_X11_whole s) (F_X12_whole s) := by
  obtain ⟨u, v, W, H, st, me, so, N, sg, hG, hQ, hB, hM, hZ, hS, hC, hBd⟩ := h.all
  unfold F_X11_whole F_X12_whole
  rw [hG.1.1, hG.1.2.1, P_whole hC hS hBd, P_wholeBy hZ hBd hG.2.1 hG.2.2.1]
  exact ⟨_, rfl, rfl⟩
end V30

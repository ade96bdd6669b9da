abbrev v_ml (A : Nat → Int) (x y : Int) (k g : Nat) : Prop := ∀ j, j < k → A (299 + 4 * j) = x → A (300 + 4 * j) = y → (((g * 10 : Nat) : Int) < A (301 + 4 * j) ↔ A (302 + 4 * j) = 1)
abbrev v_mr (A : Nat → Int) (x y : Int) (k g0 : Nat) (g : Nat) : Prop := v_ml A x y k g ∧ (g < g0 → (((g * 10 : Nat) : Int) < A (301 + 4 * k) ↔ A (302 + 4 * k) = 1))
section V41
variable {s : d_S} {t : Nat → Option p_C} {n : Nat} {x y : Int}
theorem v_rmb : ∀ a : Nat, a < 1024 → ∀ g : Nat, g < 10 → d_and (a : Int) (d_xor (d_shl 1 (g : Int)) (-1)) = ((a ^^^ (a &&& 2 ^ g) : Nat) : Int) := by decide +kernel
theorem v_sb_rm {P Q : Nat → Prop} [DecidablePred P] [DecidablePred Q] {k g : Nat} (h : ∀ i, i < k → (Q i ↔ P i ∧ ¬ i = g)) : v_sb P k ^^^ (v_sb P k &&& 2 ^ g) = v_sb Q k := by
  refine Nat.eq_of_testBit_eq (fun i => ?_)
  rw [Nat.testBit_xor, Nat.testBit_and, Nat.testBit_two_pow, v_sb_tb, v_sb_tb]
  by_cases q : i < k
  · have := h i q
    by_cases p1 : P i
    · by_cases p2 : i = g
      · subst p2; simp [q, p1, this]
      · have p3 : ¬ g = i := fun e => p2 e.symm
        simp [q, p1, p2, p3, this]
    · simp [q, p1, this]
  · simp [q]
def v_gl (s : d_S) (n : Nat) : Prop := s.1 12 2 = n ∧ s.1 65 5 = n ∧ n ≤ 8 ∧ (∀ j i : Nat, j < n → i < 4 → s.1 13 (4 * j + i) = s.1 65 (299 + 4 * j + i)) ∧ ∀ j : Nat, j < n → (0 ≤ s.1 65 (301 + 4 * j) ∧ s.1 65 (301 + 4 * j) ≤ 100) ∧ (s.1 65 (302 + 4 * j) = 0 ∨ s.1 65 (302 + 4 * j) = 1)
theorem v_R.glasses (h : v_R t s) : ∃ n, v_gl s n := by
  obtain ⟨hW, hI, -⟩ := h
  obtain ⟨-, -, ⟨c1, c2⟩, -⟩ := hW.2.2.2
  have c1 : s.1 12 2 = s.1 65 5 := c1
  obtain ⟨-, -, -, k5, -, -, -, -, q5, -⟩ := hI.2.2.1
  exact ⟨(s.1 65 5).toNat, by omega, by omega, by omega, fun j i hj hi => c2 j i (by omega) hi, fun j hj => (q5 j (by omega)).2.2⟩
theorem P_part12 (h : v_gl s n) {j i : Nat} (hj : j < n) (hi : i < 4) : F_X8_part_12 s (j : Int) (i : Int) = some (s.1 65 (299 + 4 * j + i)) := by
  obtain ⟨h1, h2, h8, h3, -⟩ := h
  unfold F_X8_part_12
  have e : d_w ((j : Int) * 4 + (i : Int)) = ((4 * j + i : Nat) : Int) := by rw [d_w_id (by omega) (by omega)]; omega
  rw [e, if_neg (by omega), if_pos (by omega), d_g_t (by omega), Int.toNat_natCast, h3 j i hj hi]
theorem v_ml_s {A : Nat → Int} {k g : Nat} (h : v_ml A x y k g) (h2 : A (299 + 4 * k) = x → A (300 + 4 * k) = y → (((g * 10 : Nat) : Int) < A (301 + 4 * k) ↔ A (302 + 4 * k) = 1)) : v_ml A x y (k + 1) g := fun j hj => by
  by_cases q : j = k
  · rw [q]; exact h2
  · exact h j (by omega)
theorem v_mlC (h : v_gl s n) {g : Nat} (hg : g < 10) : ∀ (j k m : Nat), k + j = n → j < m → v_ml (s.1 65) x y k g → F_X11_mayLie_l3 s m x y (g : Int) (k : Int) = some (v_b (v_ml (s.1 65) x y n g)) := by
  have h' := h
  obtain ⟨h1, h2, h8, h3, h4⟩ := h'
  intro j
  induction j with
  | zero =>
    intro k m hk hm hl
    obtain ⟨m, rfl⟩ : ∃ q, m = q + 1 := ⟨m - 1, by omega⟩
    have hk : k = n := by omega
    subst hk
    show F_X11_mayLie_l3_b s (F_X11_mayLie_l3 s m) _ _ _ _ = _
    unfold F_X11_mayLie_l3_b
    rw [h1, if_neg (by omega), v_bt hl]
  | succ j ih =>
    intro k m hk hm hl
    obtain ⟨m, rfl⟩ : ∃ q, m = q + 1 := ⟨m - 1, by omega⟩
    have hkn : k < n := by omega
    obtain ⟨h5, h6⟩ := h4 k hkn
    have p0 : F_X8_part_12 s (k : Int) 0 = some (s.1 65 (299 + 4 * k)) := P_part12 h hkn (i := 0) (by decide)
    have p1 : F_X8_part_12 s (k : Int) 1 = some (s.1 65 (300 + 4 * k)) := by rw [show 300 + 4 * k = 299 + 4 * k + 1 by omega]; exact P_part12 h hkn (i := 1) (by decide)
    have p2 : F_X8_part_12 s (k : Int) 2 = some (s.1 65 (301 + 4 * k)) := by rw [show 301 + 4 * k = 299 + 4 * k + 2 by omega]; exact P_part12 h hkn (i := 2) (by decide)
    have p3 : F_X8_part_12 s (k : Int) 3 = some (s.1 65 (302 + 4 * k)) := by rw [show 302 + 4 * k = 299 + 4 * k + 3 by omega]; exact P_part12 h hkn (i := 3) (by decide)
    have hk1 : d_w ((k : Int) + 1) = ((k + 1 : Nat) : Int) := by rw [d_w_id (by omega) (by omega)]; rfl
    have hg10 : d_w ((g : Int) * 10) = ((g * 10 : Nat) : Int) := by rw [d_w_id (by omega) (by omega)]; omega
    have hskip : ¬ (s.1 65 (299 + 4 * k) = x ∧ s.1 65 (300 + 4 * k) = y) → F_X11_mayLie_j56 s (F_X11_mayLie_l3 s m) x y (g : Int) (k : Int) = some (v_b (v_ml (s.1 65) x y n g)) := fun hne => by
      have := ih (k + 1) m (by omega) (by omega) (v_ml_s hl (fun a b => absurd ⟨a, b⟩ hne))
      unfold F_X11_mayLie_j56 F_X11_mayLie_j84_1 F_X11_mayLie_j84_0
      rw [p2, d_b_t, if_pos rfl, if_pos rfl, hk1]
      split <;> exact this
    show F_X11_mayLie_l3_b s (F_X11_mayLie_l3 s m) _ _ _ _ = _
    unfold F_X11_mayLie_l3_b
    rw [h1, if_pos (by omega), p0, d_b_t]
    by_cases q0 : s.1 65 (299 + 4 * k) = x
    rotate_left
    · rw [if_neg q0]; exact hskip (fun e => q0 e.1)
    rw [if_pos q0, p1, d_b_t]
    by_cases q1 : s.1 65 (300 + 4 * k) = y
    rotate_left
    · rw [if_neg q1]; exact hskip (fun e => q1 e.2)
    rw [if_pos q1, p2, d_b_t, hg10]
    unfold F_X11_mayLie_j84_1 F_X11_mayLie_j84_0
    rw [if_neg (show ¬ (1 : Int) = 0 by decide), if_neg (show ¬ (1 : Int) = 0 by decide), p3, d_b_t, d_b_t, hk1]
    by_cases q2 : ((g * 10 : Nat) : Int) < s.1 65 (301 + 4 * k)
    · rw [if_pos q2]
      by_cases q3 : s.1 65 (302 + 4 * k) = 1
      · rw [if_pos q3]
        exact ih (k + 1) m (by omega) (by omega) (v_ml_s hl (fun _ _ => ⟨fun _ => q3, fun _ => q2⟩))
      · rw [if_neg q3, v_bf (fun e => q3 ((e k hkn q0 q1).1 q2))]
    · rw [if_neg q2]
      by_cases q3 : s.1 65 (302 + 4 * k) = 1
      · rw [if_pos q3, v_bf (fun e => q2 ((e k hkn q0 q1).2 q3))]
      · rw [if_neg q3]
        exact ih (k + 1) m (by omega) (by omega) (v_ml_s hl (fun _ _ => ⟨fun e => absurd e q2, fun e => absurd e q3⟩))
theorem v_lyC (h : v_gl s n) : ∀ (j k m : Nat), k + j = 10 → j < m → F_X11_layers_l27 s m x y ((v_sb (v_ml (s.1 65) x y n) k : Nat) : Int) (k : Int) = some ((v_sb (v_ml (s.1 65) x y n) 10 : Nat) : Int) := by
  have h8 := h.2.2.1
  intro j
  induction j with
  | zero =>
    intro k m hk hm
    obtain ⟨m, rfl⟩ : ∃ q, m = q + 1 := ⟨m - 1, by omega⟩
    have hk : k = 10 := by omega
    subst hk
    show F_X11_layers_l27_b s (F_X11_layers_l27 s m) _ _ _ _ = _
    unfold F_X11_layers_l27_b
    rw [if_neg (by omega)]
  | succ j ih =>
    intro k m hk hm
    obtain ⟨m, rfl⟩ : ∃ q, m = q + 1 := ⟨m - 1, by omega⟩
    have hlt : v_sb (v_ml (s.1 65) x y n) k < 2 ^ k := v_sb_lt k
    have h12 := v_2p (n := k) (by omega)
    have hr := ih (k + 1) m (by omega) (by omega)
    have hml : F_X11_mayLie s x y (k : Int) = some (v_b (v_ml (s.1 65) x y n k)) := v_mlC h (by omega) n 0 d_N (by omega) (by rw [d_N_is]; omega) (fun j hj => absurd hj (Nat.not_lt_zero j))
    show F_X11_layers_l27_b s (F_X11_layers_l27 s m) _ _ _ _ = _
    unfold F_X11_layers_l27_b
    simp only [v_sb] at hr
    rw [if_pos (by omega), hml, d_b_t, d_w_id (x := (k : Int) + 1) (by omega) (by omega)]
    by_cases q : v_ml (s.1 65) x y n k
    · rw [if_pos q] at hr
      rw [v_bt q, v_bit1_, d_b_t, v_or1 (by omega) hlt]
      exact hr
    · rw [if_neg q] at hr
      rw [v_bf q, v_bit0_, d_b_t, v_0shl (by omega), v_or0 ⟨by omega, by omega⟩]
      exact hr
theorem v_ly80 (h : v_gl s n) {K : Int → Int → Int → Int → Option Int} {k : Nat} (hk : k < n) : ∀ (j g m : Nat), g + j = 10 → j < m → F_X12_layers_l80 s K m x y ((v_sb (v_mr (s.1 65) x y k g) 10 : Nat) : Int) (k : Int) (299 + 4 * (k : Int)) (g : Int) = K x y ((v_sb (v_mr (s.1 65) x y k 10) 10 : Nat) : Int) (k : Int) := by
  obtain ⟨h1, h2, h8, h3, h4⟩ := h
  obtain ⟨h5, h6⟩ := h4 k hk
  intro j
  induction j with
  | zero =>
    intro g m hg hm
    obtain ⟨m, rfl⟩ : ∃ q, m = q + 1 := ⟨m - 1, by omega⟩
    have hg : g = 10 := by omega
    subst hg
    show F_X12_layers_l80_b s K (F_X12_layers_l80 s K m) _ _ _ _ _ _ = _
    unfold F_X12_layers_l80_b
    rw [if_neg (by omega)]
  | succ j ih =>
    intro g m hg hm
    obtain ⟨m, rfl⟩ : ∃ q, m = q + 1 := ⟨m - 1, by omega⟩
    have hr := ih (g + 1) m (by omega) (by omega)
    have hlt : v_sb (v_mr (s.1 65) x y k g) 10 < 1024 := v_sb_lt (P := v_mr (s.1 65) x y k g) 10
    have hg1 : d_w ((g : Int) + 1) = ((g + 1 : Nat) : Int) := by rw [d_w_id (by omega) (by omega)]; rfl
    have e2 : d_w (299 + 4 * (k : Int) + 2) = ((301 + 4 * k : Nat) : Int) := by rw [d_w_id (by omega) (by omega)]; omega
    have e3 : d_w (299 + 4 * (k : Int) + 3) = ((302 + 4 * k : Nat) : Int) := by rw [d_w_id (by omega) (by omega)]; omega
    have e10 : d_w (10 * (g : Int)) = ((g * 10 : Nat) : Int) := by rw [d_w_id (by omega) (by omega)]; omega
    have keep : (((g * 10 : Nat) : Int) < s.1 65 (301 + 4 * k) ↔ s.1 65 (302 + 4 * k) = 1) → v_sb (v_mr (s.1 65) x y k g) 10 = v_sb (v_mr (s.1 65) x y k (g + 1)) 10 := fun hh => v_sb_cg 10 (fun i _ => ⟨fun e => ⟨e.1, fun hi => by
      by_cases q : i = g
      · rw [q]; exact hh
      · exact e.2 (by omega)⟩, fun e => ⟨e.1, fun hi => e.2 (by omega)⟩⟩)
    have drop : ¬ (((g * 10 : Nat) : Int) < s.1 65 (301 + 4 * k) ↔ s.1 65 (302 + 4 * k) = 1) → d_and ((v_sb (v_mr (s.1 65) x y k g) 10 : Nat) : Int) (d_xor (d_shl 1 (g : Int)) (-1)) = ((v_sb (v_mr (s.1 65) x y k (g + 1)) 10 : Nat) : Int) := fun hh => by
      rw [v_rmb _ hlt g (by omega), v_sb_rm (Q := v_mr (s.1 65) x y k (g + 1)) (fun i _ => ⟨fun e => ⟨⟨e.1, fun hi => e.2 (by omega)⟩, fun q => hh (by have := e.2 (by omega); rw [q] at this; exact this)⟩, fun e => ⟨e.1.1, fun hi => e.1.2 (by have := e.2; omega)⟩⟩)]
    show F_X12_layers_l80_b s K (F_X12_layers_l80 s K m) _ _ _ _ _ _ = _
    unfold F_X12_layers_l80_b
    rw [if_pos (by omega), e2, e3, e10, d_g_t (by omega), d_g_t (by omega), d_g_t (by omega), Int.toNat_natCast, Int.toNat_natCast, hg1]
    by_cases q2 : ((g * 10 : Nat) : Int) < s.1 65 (301 + 4 * k)
    · rw [if_pos q2]
      by_cases q3 : s.1 65 (302 + 4 * k) = 1
      · rw [if_pos (by omega), keep ⟨fun _ => q3, fun _ => q2⟩]; exact hr
      · rw [if_neg (by omega), d_l_t, drop (fun e => q3 (e.1 q2))]; exact hr
    · rw [if_neg q2]
      by_cases q3 : s.1 65 (302 + 4 * k) = 1
      · rw [if_neg (by omega), d_l_t, drop (fun e => q2 (e.2 q3))]; exact hr
      · rw [if_pos (by omega), keep ⟨fun e => absurd e q2, fun e => absurd e q3⟩]; exact hr
theorem v_lyR (h : v_gl s n) : ∀ (j k m : Nat), k + j = n → j < m → F_X12_layers_l29 s m x y ((v_sb (v_ml (s.1 65) x y k) 10 : Nat) : Int) (k : Int) = some ((v_sb (v_ml (s.1 65) x y n) 10 : Nat) : Int) := by
  have h' := h
  obtain ⟨h1, h2, h8, h3, h4⟩ := h'
  intro j
  induction j with
  | zero =>
    intro k m hk hm
    obtain ⟨m, rfl⟩ : ∃ q, m = q + 1 := ⟨m - 1, by omega⟩
    have hk : k = n := by omega
    subst hk
    show F_X12_layers_l29_b s (F_X12_layers_l29 s m) _ _ _ _ = _
    unfold F_X12_layers_l29_b
    rw [h2, if_neg (by omega)]
  | succ j ih =>
    intro k m hk hm
    obtain ⟨m, rfl⟩ : ∃ q, m = q + 1 := ⟨m - 1, by omega⟩
    have hkn : k < n := by omega
    have hr := ih (k + 1) m (by omega) (by omega)
    have hk1 : d_w ((k : Int) + 1) = ((k + 1 : Nat) : Int) := by rw [d_w_id (by omega) (by omega)]; rfl
    have e0 : d_w (299 + 4 * (k : Int)) = 299 + 4 * (k : Int) := d_w_id (by omega) (by omega)
    have e1 : d_w (299 + 4 * (k : Int) + 1) = 299 + 4 * (k : Int) + 1 := d_w_id (by omega) (by omega)
    have skip : ¬ (s.1 65 (299 + 4 * k) = x ∧ s.1 65 (300 + 4 * k) = y) → v_sb (v_ml (s.1 65) x y k) 10 = v_sb (v_ml (s.1 65) x y (k + 1)) 10 := fun hh => v_sb_cg 10 (fun i _ => ⟨fun e => v_ml_s e (fun a b => absurd ⟨a, b⟩ hh), fun e j hj => e j (by omega)⟩)
    show F_X12_layers_l29_b s (F_X12_layers_l29 s m) _ _ _ _ = _
    unfold F_X12_layers_l29_b
    rw [h2, if_pos (by omega), e0, e1, d_g_t (by omega), d_g_t (by omega), show (299 + 4 * (k : Int)).toNat = 299 + 4 * k by omega, show (299 + 4 * (k : Int) + 1).toNat = 300 + 4 * k by omega, hk1]
    by_cases q0 : s.1 65 (299 + 4 * k) = x
    rotate_left
    · rw [if_neg q0, skip (fun e => q0 e.1)]; exact hr
    rw [if_pos q0]
    by_cases q1 : s.1 65 (300 + 4 * k) = y
    rotate_left
    · rw [if_neg q1, skip (fun e => q1 e.2)]; exact hr
    rw [if_pos q1, show v_sb (v_ml (s.1 65) x y k) 10 = v_sb (v_mr (s.1 65) x y k 0) 10 from v_sb_cg 10 (fun i _ => ⟨fun e => ⟨e, fun hi => absurd hi (Nat.not_lt_zero i)⟩, fun e => e.1⟩)]
    refine (v_ly80 h hkn 10 0 d_N rfl (by rw [d_N_is]; decide)).trans ?_
    show F_X12_layers_l29 s m x y _ (d_w ((k : Int) + 1)) = _
    rw [hk1, show v_sb (v_mr (s.1 65) x y k 10) 10 = v_sb (v_ml (s.1 65) x y (k + 1)) 10 from v_sb_cg 10 (fun i hi => ⟨fun e => v_ml_s e.1 (fun _ _ => e.2 hi), fun e => ⟨fun j hj => e j (by omega), fun _ => e k (by omega) q0 q1⟩⟩)]
    exact hr
theorem R_layers (h : v_R t s) {x y : Int} : v_AP (F_X11_layers s x y) (F_X12_layers s x y) := by
  obtain ⟨n, hn⟩ := h.glasses
  have h8 := hn.2.2.1
  unfold v_AP F_X11_layers F_X12_layers
  rw [P_within, P_isIn, d_b_t, d_b_t]
  by_cases c : 0 ≤ x ∧ x ≤ 9
  rotate_left
  · rw [v_bf c]; exact ⟨-1, rfl, rfl⟩
  rw [v_bt c, if_neg (show ¬ (1 : Int) = 0 by decide), if_neg (show ¬ (1 : Int) = 0 by decide), P_within, P_isIn, d_b_t, d_b_t]
  by_cases c2 : 0 ≤ y ∧ y ≤ 63
  rotate_left
  · rw [v_bf c2]; exact ⟨-1, rfl, rfl⟩
  rw [v_bt c2, if_neg (show ¬ (1 : Int) = 0 by decide), if_neg (show ¬ (1 : Int) = 0 by decide)]
  have a1 := v_lyC (x := x) (y := y) hn 10 0 d_N rfl (by rw [d_N_is]; decide)
  have a2 := v_lyR (x := x) (y := y) hn n 0 d_N (by omega) (by rw [d_N_is]; omega)
  rw [show v_sb (v_ml (s.1 65) x y 0) 10 = 1023 from (v_sb_cg (Q := fun _ => True) 10 (fun i _ => ⟨fun _ => trivial, fun _ j hj => absurd hj (Nat.not_lt_zero j)⟩)).trans (by decide)] at a2
  exact ⟨_, a1, a2⟩
end V41
section V42
variable {s : d_S} {t : Nat → Option p_C} {n : Nat}
theorem v_ti64 {x : Int} (h1 : -4294967296 ≤ x) (h2 : x < 4294967296) : (Int64.ofInt x).toInt = x := by
  exact d_W_id (by omega) (by omega)
theorem v_divL2 {a b : Nat} (ha : a < 2147483648) (hb : b < 2147483648) : d_divL (a : Int) (b : Int) = ((a / b : Nat) : Int) := by
  unfold d_divL
  rw [Int64.toInt_div, v_ti64 (by omega) (by omega), v_ti64 (by omega) (by omega), ← Int.ofNat_tdiv]
  have := Nat.div_le_self a b
  generalize a / b = q at *
  exact Int.bmod_eq_of_le (by omega) (by omega)
theorem v_divLn {a b : Nat} (ha : a < 2147483648) (hb : b < 2147483648) : d_divL (-(a : Int)) (b : Int) = -((a / b : Nat) : Int) := by
  unfold d_divL
  rw [Int64.toInt_div, v_ti64 (by omega) (by omega), v_ti64 (by omega) (by omega), Int.neg_tdiv, ← Int.ofNat_tdiv]
  have := Nat.div_le_self a b
  generalize a / b = q at *
  exact Int.bmod_eq_of_le (by omega) (by omega)
theorem v_divn {a b : Nat} (ha : a < 2147483648) (hb : b < 2147483648) : d_div (-(a : Int)) (b : Int) = -((a / b : Nat) : Int) := by
  unfold d_div
  have h1 : (Int32.ofInt (-(a : Int))).toInt = -(a : Int) := d_ti ⟨by omega, by omega⟩
  have h2 : (Int32.ofInt (b : Int)).toInt = b := d_ti ⟨by omega, by omega⟩
  rw [Int32.toInt_div, h1, h2, Int.neg_tdiv, ← Int.ofNat_tdiv]
  have := Nat.div_le_self a b
  generalize a / b = q at *
  exact Int.bmod_eq_of_le (by omega) (by omega)
theorem v_remL2 {a b : Nat} (ha : a < 2147483648) (hb : b < 2147483648) : d_remL (a : Int) (b : Int) = ((a % b : Nat) : Int) := by
  have hd := v_divL2 ha hb
  unfold d_divL at hd
  unfold d_remL
  have h0 : Int64.ofInt (a : Int) / Int64.ofInt (b : Int) = Int64.ofInt ((a / b : Nat) : Int) := by rw [← hd, Int64.ofInt_toInt]
  rw [h0, ← Int64.ofInt_mul, ← Int64.ofInt_sub]
  have h1 := Nat.div_add_mod a b
  have h2 : ((a : Int) - ((a / b : Nat) : Int) * (b : Int)) = ((a % b : Nat) : Int) := by
    have : (a : Int) = (b : Int) * ((a / b : Nat) : Int) + ((a % b : Nat) : Int) := by exact_mod_cast h1.symm
    rw [Int.mul_comm ((a / b : Nat) : Int)]; omega
  rw [h2]
  have := Nat.mod_le a b
  exact v_ti64 (by omega) (by omega)
theorem v_gcR2 : ∀ (b a : Nat), b < 4096 → a < 4096 → ∀ m : Nat, b + 1 < m → F_X12_gcd_l17 m (a : Int) (b : Int) = some ((Nat.gcd a b : Nat) : Int) := by
  intro b
  induction b using Nat.strongRecOn with
  | ind b ih =>
    intro a hb ha m hm
    obtain ⟨m, rfl⟩ : ∃ q, m = q + 1 := ⟨m - 1, by omega⟩
    show F_X12_gcd_l17_b (F_X12_gcd_l17 m) _ _ = _
    unfold F_X12_gcd_l17_b
    by_cases q : b = 0
    · rw [if_pos (by omega), q, Nat.gcd_zero_right]
    · have hlt := Nat.mod_lt a (show 0 < b by omega)
      rw [if_neg (by omega), d_g_t (by omega), v_remL2 (by omega) (by omega)]
      have := ih (a % b) hlt b (by omega) (by omega) m (by omega)
      rw [Nat.gcd_comm a b, Nat.gcd_rec b a, Nat.gcd_comm]
      exact this
theorem v_gcC2 {K : Int → Option Int} : ∀ (i b a : Nat), b < 2 ^ i → b < 4096 → a < 4096 → ∀ (k m : Nat), k + 2 * i < 63 → 2 * i + 1 < m → F_X11_divisor_l13 K m (a : Int) (b : Int) (k : Int) = K ((Nat.gcd a b : Nat) : Int) := by
  have z : ∀ (a k m : Nat), k < 63 → 0 < m → F_X11_divisor_l13 K m (a : Int) ((0 : Nat) : Int) (k : Int) = K ((Nat.gcd a 0 : Nat) : Int) := fun a k m hk hm => by
    obtain ⟨m, rfl⟩ : ∃ q, m = q + 1 := ⟨m - 1, by omega⟩
    show F_X11_divisor_l13_b K (F_X11_divisor_l13 K m) _ _ _ = _
    unfold F_X11_divisor_l13_b
    rw [if_pos (by omega), if_pos (by omega), Nat.gcd_zero_right]
  have st : ∀ (a b k m : Nat), ¬ b = 0 → a < 4096 → b < 4096 → k < 63 → F_X11_divisor_l13 K (m + 1) (a : Int) (b : Int) (k : Int) = F_X11_divisor_l13 K m (b : Int) ((a % b : Nat) : Int) ((k + 1 : Nat) : Int) := fun a b k m q ha hb hk => by
    show F_X11_divisor_l13_b K (F_X11_divisor_l13 K m) _ _ _ = _
    unfold F_X11_divisor_l13_b
    rw [if_pos (by omega), if_neg (by omega), d_g_t (by omega), v_rem (by omega) (by omega), d_w_id (by omega) (by omega)]; rfl
  have gc : ∀ a b : Nat, Nat.gcd a b = Nat.gcd b (a % b) := fun a b => by rw [Nat.gcd_comm a b, Nat.gcd_rec b a, Nat.gcd_comm]
  intro i
  induction i with
  | zero =>
    intro b a hb _ ha k m hk hm
    have : b = 0 := by simpa using hb
    subst this
    exact z a k m (by omega) (by omega)
  | succ i ih =>
    intro b a hb hb2 ha k m hk hm
    by_cases q : b = 0
    · subst q; exact z a k m (by omega) (by omega)
    obtain ⟨m, rfl⟩ : ∃ q, m = q + 1 := ⟨m - 1, by omega⟩
    have hlt := Nat.mod_lt a (show 0 < b by omega)
    rw [st a b k m q ha hb2 (by omega), gc a b]
    by_cases q2 : a % b = 0
    · rw [q2]; exact z b (k + 1) m (by omega) (by omega)
    obtain ⟨m, rfl⟩ : ∃ q, m = q + 1 := ⟨m - 1, by omega⟩
    rw [st b (a % b) (k + 1) m q2 hb2 (by omega) (by omega), gc b (a % b)]
    have h1 := Nat.mod_lt b (show 0 < a % b by omega)
    have h2 := Nat.div_add_mod b (a % b)
    have h3 : 1 ≤ b / (a % b) := Nat.div_pos (by omega) (by omega)
    have h4 : a % b * 1 ≤ a % b * (b / (a % b)) := Nat.mul_le_mul_left _ h3
    have hp : 2 ^ (i + 1) = 2 * 2 ^ i := by rw [Nat.pow_succ, Nat.mul_comm]
    exact ih (b % (a % b)) (a % b) (by omega) (by omega) (by omega) (k + 1 + 1) m (by omega) (by omega)
theorem P_divisor {x y : Int} (hx : -4000 ≤ x ∧ x ≤ 4000) (hy : 1 ≤ y ∧ y ≤ 4000) : F_X11_divisor x y = some ((Nat.gcd x.natAbs y.toNat : Nat) : Int) := by
  have hg : 1 ≤ Nat.gcd x.natAbs y.toNat := Nat.gcd_pos_of_pos_right _ (by omega)
  have habs : F_J9_abs_0f7a4 x = some ((x.natAbs : Nat) : Int) := by
    unfold F_J9_abs_0f7a4
    by_cases q : x < 0
    · rw [if_pos q, d_w_id (by omega) (by omega)]; congr 1; omega
    · rw [if_neg q]; congr 1; omega
  have habs2 : F_J9_abs_0f7a4 y = some ((y.toNat : Nat) : Int) := by
    unfold F_J9_abs_0f7a4
    rw [if_neg (by omega)]; congr 1; omega
  unfold F_X11_divisor
  rw [habs, d_b_t, habs2, d_b_t]
  refine (v_gcC2 12 y.toNat x.natAbs (by omega) (by omega) (by omega) 0 d_N (by omega) (by rw [d_N_is]; omega)).trans ?_
  show d_b (F_J9_max_7cf53 1 _) _ = _
  rw [P_max, d_b_t]; congr 1; omega
theorem P_gcd {x y : Int} (hx : -4000 ≤ x ∧ x ≤ 4000) (hy : 1 ≤ y ∧ y ≤ 4000) : F_X12_gcd x y = some ((Nat.gcd x.natAbs y.toNat : Nat) : Int) := by
  obtain ⟨b, rfl⟩ : ∃ b : Nat, y = b := ⟨y.toNat, by omega⟩
  unfold F_X12_gcd F_X12_gcd_j12
  by_cases q : x < 0
  · obtain ⟨a, rfl⟩ : ∃ a : Nat, x = -(a : Int) := ⟨x.natAbs, by omega⟩
    rw [if_pos q, d_W_id (by omega) (by omega), Int.neg_neg, v_gcR2 b a (by omega) (by omega) d_N (by rw [d_N_is]; omega), Int.natAbs_neg, Int.natAbs_natCast, Int.toNat_natCast]
  · obtain ⟨a, rfl⟩ : ∃ a : Nat, x = a := ⟨x.toNat, by omega⟩
    rw [if_neg q, v_gcR2 b a (by omega) (by omega) d_N (by rw [d_N_is]; omega), Int.natAbs_natCast, Int.toNat_natCast]
theorem v_dLd {y : Int} {g : Nat} (hy : -4000 ≤ y ∧ y ≤ 4000) (hg : g < 5000) : d_w (d_divL y (g : Int)) = d_div y (g : Int) := by
  by_cases q : y < 0
  · obtain ⟨a, rfl⟩ : ∃ a : Nat, y = -(a : Int) := ⟨y.natAbs, by omega⟩
    have := Nat.div_le_self a g
    rw [v_divLn (by omega) (by omega), v_divn (by omega) (by omega)]
    generalize a / g = w at this ⊢
    exact d_w_id (by omega) (by omega)
  · obtain ⟨a, rfl⟩ : ∃ a : Nat, y = a := ⟨y.toNat, by omega⟩
    have := Nat.div_le_self a g
    rw [v_divL2 (by omega) (by omega), v_div (by omega) (by omega)]
    generalize a / g = w at this ⊢
    exact d_w_id (by omega) (by omega)
def v_ms (s : d_S) (n : Nat) : Prop := s.1 16 2 = n ∧ s.1 65 7 = n ∧ n ≤ 8 ∧ ∀ j : Nat, j < n → s.1 17 (4 * j) = s.1 65 (339 + 2 * j) ∧ s.1 17 (4 * j + 1) = s.1 65 (340 + 2 * j) ∧ (0 ≤ s.1 65 (339 + 2 * j) ∧ s.1 65 (339 + 2 * j) ≤ 999) ∧ (0 ≤ s.1 65 (340 + 2 * j) ∧ s.1 65 (340 + 2 * j) ≤ 100)
theorem v_R.measures (h : v_R t s) : ∃ n, v_ms s n := by
  obtain ⟨hW, hI, -⟩ := h
  obtain ⟨-, -, -, -, ⟨c1, c2⟩, -⟩ := hW.2.2.2
  have c1 : s.1 16 2 = s.1 65 7 := c1
  obtain ⟨-, -, -, -, -, k7, -, -, -, -, q7, -⟩ := hI.2.2.1
  refine ⟨(s.1 65 7).toNat, by omega, by omega, by omega, fun j hj => ⟨c2 j 0 (by omega) (by decide), ?_, q7 j (by omega)⟩⟩
  have : s.1 17 (4 * j + 1) = s.1 65 (339 + 2 * j + 1) := c2 j 1 (by omega) (by decide)
  rw [this, show 339 + 2 * j + 1 = 340 + 2 * j by omega]
theorem P_part16 (h : v_ms s n) {j : Nat} (hj : j < n) : F_X8_part_16 s (j : Int) 0 = some (s.1 65 (339 + 2 * j)) ∧ F_X8_part_16 s (j : Int) 1 = some (s.1 65 (340 + 2 * j)) := by
  obtain ⟨h1, h2, h8, h3⟩ := h
  obtain ⟨a, b, -⟩ := h3 j hj
  unfold F_X8_part_16
  have e0 : d_w ((j : Int) * 4 + 0) = ((4 * j : Nat) : Int) := by rw [d_w_id (by omega) (by omega)]; omega
  have e1 : d_w ((j : Int) * 4 + 1) = ((4 * j + 1 : Nat) : Int) := by rw [d_w_id (by omega) (by omega)]; omega
  rw [e0, e1, if_neg (by omega), if_pos (by omega), d_g_t (by omega), Int.toNat_natCast, if_neg (by omega), if_pos (by omega), d_g_t (by omega), Int.toNat_natCast, a, b]
  exact ⟨rfl, rfl⟩
def v_sv (p q : Int) : Prop := (-100 ≤ p ∧ p ≤ 100) ∧ (0 ≤ q ∧ q ≤ 999)
theorem v_mulb {a b c d : Int} (ha : -100 ≤ a ∧ a ≤ 100) (hb : -999 ≤ b ∧ b ≤ 999) : -100000 ≤ a * b ∧ a * b ≤ 100000 := by
  have h1 : (a * b).natAbs ≤ 100 * 999 := by rw [Int.natAbs_mul]; exact Nat.mul_le_mul (by omega) (by omega)
  omega
theorem v_spi (h : v_ms s n) {x : Int} {K K' : Int → Int → Int → Int → Option Int} {p : Nat} (hp : p < n) : ∀ (j k m m' : Nat), k + j = n → j < m → j < m' → ∀ a b, v_sv a b → ∃ a' b', v_sv a' b' ∧ F_X11_speed_l25 s K m x a b (p : Int) (k : Int) = K x a' b' (p : Int) ∧ F_X12_speed_l35 s K' m' x a b (p : Int) (k : Int) = K' x a' b' (p : Int) := by
  have h' := h
  obtain ⟨h1, h2, h8, h3⟩ := h'
  intro j
  induction j with
  | zero =>
    intro k m m' hk hm hm' a b hab
    obtain ⟨m, rfl⟩ : ∃ q, m = q + 1 := ⟨m - 1, by omega⟩
    obtain ⟨m', rfl⟩ : ∃ q, m' = q + 1 := ⟨m' - 1, by omega⟩
    refine ⟨a, b, hab, ?_, ?_⟩
    · show F_X11_speed_l25_b s K (F_X11_speed_l25 s K m) _ _ _ _ _ = _
      unfold F_X11_speed_l25_b
      rw [h1, if_neg (by omega)]
    · show F_X12_speed_l35_b s K' (F_X12_speed_l35 s K' m') _ _ _ _ _ = _
      unfold F_X12_speed_l35_b
      rw [h2, if_neg (by omega)]
  | succ j ih =>
    intro k m m' hk hm hm' a b hab
    obtain ⟨m, rfl⟩ : ∃ q, m = q + 1 := ⟨m - 1, by omega⟩
    obtain ⟨m', rfl⟩ : ∃ q, m' = q + 1 := ⟨m' - 1, by omega⟩
    have hkn : k < n := by omega
    obtain ⟨-, -, k3, k4⟩ := h3 k hkn
    obtain ⟨-, -, p3, p4⟩ := h3 p hp
    obtain ⟨a1, b1⟩ := hab
    have hk1 : d_w ((k : Int) + 1) = ((k + 1 : Nat) : Int) := by rw [d_w_id (by omega) (by omega)]; rfl
    have f0 : d_w (339 + 2 * (k : Int)) = ((339 + 2 * k : Nat) : Int) := by rw [d_w_id (by omega) (by omega)]; omega
    have f1 : d_w (339 + 2 * (k : Int) + 1) = ((340 + 2 * k : Nat) : Int) := by rw [d_w_id (by omega) (by omega)]; omega
    have f2 : d_w (339 + 2 * (p : Int)) = ((339 + 2 * p : Nat) : Int) := by rw [d_w_id (by omega) (by omega)]; omega
    have f3 : d_w (339 + 2 * (p : Int) + 1) = ((340 + 2 * p : Nat) : Int) := by rw [d_w_id (by omega) (by omega)]; omega
    obtain ⟨dx, hdx⟩ : ∃ d, d = s.1 65 (339 + 2 * k) - s.1 65 (339 + 2 * p) := ⟨_, rfl⟩
    obtain ⟨dy, hdy⟩ : ∃ d, d = s.1 65 (340 + 2 * k) - s.1 65 (340 + 2 * p) := ⟨_, rfl⟩
    have u1 := v_mulb (a := dy) (b := b) (c := 0) (d := 0) (by omega) (by omega)
    have u2 := v_mulb (a := a) (b := dx) (c := 0) (d := 0) a1 (by omega)
    have hp' : (k : Int) < (n : Int) := by omega
    obtain ⟨r1, r2, r3, r4, r5⟩ := ih (k + 1) m m' (by omega) (by omega) (by omega) a b ⟨a1, b1⟩
    show ∃ a' b', v_sv a' b' ∧ F_X11_speed_l25_b s K (F_X11_speed_l25 s K m) _ _ _ _ _ = _ ∧ F_X12_speed_l35_b s K' (F_X12_speed_l35 s K' m') _ _ _ _ _ = _
    unfold F_X11_speed_l25_b F_X12_speed_l35_b
    rw [h1, h2, if_pos hp', if_pos hp', (P_part16 h hkn).1, d_b_t, (P_part16 h hp).1, d_b_t, (P_part16 h hkn).2, d_b_t, (P_part16 h hp).2, d_b_t, f0, f1, f2, f3, d_g_t (by omega), d_g_t (by omega), d_l_t, d_l_t, d_g_t (by omega), d_g_t (by omega), d_l_t, Int.toNat_natCast, Int.toNat_natCast, Int.toNat_natCast, Int.toNat_natCast, ← hdx, ← hdy, d_w_id (x := dx) (by omega) (by omega), d_w_id (x := dy) (by omega) (by omega), hk1, d_w_id (x := dy * b - a * dx) (by omega) (by omega), d_w_id (x := a * dx) (by omega) (by omega), d_w_id (x := dy * b) (by omega) (by omega)]
    by_cases q0 : 0 < dx
    rotate_left
    · rw [if_neg q0, if_neg q0]; exact ⟨r1, r2, r3, r4, r5⟩
    obtain ⟨w1, w2, w3, w4, w5⟩ := ih (k + 1) m m' (by omega) (by omega) (by omega) dy dx ⟨by omega, by omega⟩
    rw [if_pos q0, if_pos q0]
    by_cases q1 : b = 0
    · rw [if_pos q1, if_neg (by omega)]; exact ⟨w1, w2, w3, w4, w5⟩
    rw [if_neg q1, if_pos (show 0 < b by omega)]
    by_cases q2 : x < 2
    · rw [if_pos q2, if_pos q2]
      by_cases q3 : a * dx < dy * b
      · rw [if_pos (by omega), if_pos q3]; exact ⟨w1, w2, w3, w4, w5⟩
      · rw [if_neg (by omega), if_neg q3]; exact ⟨r1, r2, r3, r4, r5⟩
    · rw [if_neg q2, if_neg q2]
      by_cases q3 : dy * b < a * dx
      · rw [if_pos (by omega), if_pos q3]; exact ⟨w1, w2, w3, w4, w5⟩
      · rw [if_neg (by omega), if_neg q3]; exact ⟨r1, r2, r3, r4, r5⟩
theorem v_spo (h : v_ms s n) {x : Int} {K K' : Int → Int → Int → Option Int} : ∀ (j k m m' : Nat), k + j = n → j < m → j < m' → ∀ a b, v_sv a b → ∃ a' b', v_sv a' b' ∧ F_X11_speed_l7 s K m x a b (k : Int) = K x a' b' ∧ F_X12_speed_l20 s K' m' x a b (k : Int) = K' x a' b' := by
  have h' := h
  obtain ⟨h1, h2, h8, h3⟩ := h'
  intro j
  induction j with
  | zero =>
    intro k m m' hk hm hm' a b hab
    obtain ⟨m, rfl⟩ : ∃ q, m = q + 1 := ⟨m - 1, by omega⟩
    obtain ⟨m', rfl⟩ : ∃ q, m' = q + 1 := ⟨m' - 1, by omega⟩
    refine ⟨a, b, hab, ?_, ?_⟩
    · show F_X11_speed_l7_b s K (F_X11_speed_l7 s K m) _ _ _ _ = _
      unfold F_X11_speed_l7_b
      rw [h1, if_neg (by omega)]
    · show F_X12_speed_l20_b s K' (F_X12_speed_l20 s K' m') _ _ _ _ = _
      unfold F_X12_speed_l20_b
      rw [h2, if_neg (by omega)]
  | succ j ih =>
    intro k m m' hk hm hm' a b hab
    obtain ⟨m, rfl⟩ : ∃ q, m = q + 1 := ⟨m - 1, by omega⟩
    obtain ⟨m', rfl⟩ : ∃ q, m' = q + 1 := ⟨m' - 1, by omega⟩
    have hk1 : d_w ((k : Int) + 1) = ((k + 1 : Nat) : Int) := by rw [d_w_id (by omega) (by omega)]; rfl
    obtain ⟨a1, b1, c1, c2, c3⟩ := v_spi h (x := x) (p := k) (by omega) (K := fun x1_u6 x2_u6 x3_u6 x4_u6 => F_X11_speed_l7 s K m x1_u6 x2_u6 x3_u6 (d_w (x4_u6 + 1))) (K' := fun x1_u8 x2_u8 x3_u8 x4_u8 => F_X12_speed_l20 s K' m' x1_u8 x2_u8 x3_u8 (d_w (x4_u8 + 1))) n 0 d_N d_N (by omega) (by rw [d_N_is]; omega) (by rw [d_N_is]; omega) a b hab
    obtain ⟨a2, b2, d1, d2, d3⟩ := ih (k + 1) m m' (by omega) (by omega) (by omega) a1 b1 c1
    refine ⟨a2, b2, d1, ?_, ?_⟩
    · show F_X11_speed_l7_b s K (F_X11_speed_l7 s K m) _ _ _ _ = _
      unfold F_X11_speed_l7_b
      rw [h1, if_pos (by omega)]
      refine (show F_X11_speed_l25 s _ d_N x a b (k : Int) 0 = _ from c2).trans ?_
      show F_X11_speed_l7 s K m x a1 b1 (d_w ((k : Int) + 1)) = _
      rw [hk1]; exact d2
    · show F_X12_speed_l20_b s K' (F_X12_speed_l20 s K' m') _ _ _ _ = _
      unfold F_X12_speed_l20_b
      rw [h2, if_pos (by omega)]
      refine (show F_X12_speed_l35 s _ d_N x a b (k : Int) 0 = _ from c3).trans ?_
      show F_X12_speed_l20 s K' m' x a1 b1 (d_w ((k : Int) + 1)) = _
      rw [hk1]; exact d3
theorem R_speed (h : v_R t s) {x : Int} : v_AP (F_X11_speed s x) (F_X12_speed s x) := by
  obtain ⟨n, hn⟩ := h.measures
  have h8 := hn.2.2.1
  have n10 : ¬ (1 : Int) = 0 := by decide
  unfold v_AP F_X11_speed F_X12_speed
  obtain ⟨a, b, ⟨a1, b1⟩, c2, c3⟩ := v_spo hn (x := x) (K := fun x1_u7 x2_u7 x3_u7 => if x3_u7 = 0 then F_X11_speed_j167 s else d_b (F_X11_within x1_u7 0 3) (fun v8 => if v8 = 0 then F_X11_speed_j167 s else if (d_rem x1_u7 2) = 0 then F_X11_speed_j182 s x2_u7 x3_u7 x2_u7 else F_X11_speed_j182 s x2_u7 x3_u7 x3_u7)) (K' := fun x1_u9 x2_u9 x3_u9 => if x3_u9 = 0 then some (-100000) else if (d_rem x1_u9 2) = 1 then d_b (F_X12_part x2_u9 x3_u9 1) (fun v10 => some (d_w v10)) else d_b (F_X12_part x2_u9 x3_u9 0) (fun v11 => some (d_w v11))) n 0 d_N d_N (by omega) (by rw [d_N_is]; omega) (by rw [d_N_is]; omega) 0 0 ⟨by omega, by omega⟩
  have c2 : F_X11_speed_l7 s _ d_N x 0 0 0 = _ := c2
  have c3 : F_X12_speed_l20 s _ d_N x 0 0 0 = _ := c3
  rw [c2, P_isIn, d_b_t, c3]
  by_cases q0 : b = 0
  · refine ⟨-100000, ?_, ?_⟩
    · show (if b = 0 then _ else _) = _
      rw [if_pos q0]; rfl
    · by_cases q : 0 ≤ x ∧ x ≤ 3
      · rw [v_bt q, if_neg n10]
        show (if b = 0 then _ else _) = _
        rw [if_pos q0]
      · rw [v_bf q, if_pos rfl]
  by_cases q : 0 ≤ x ∧ x ≤ 3
  rotate_left
  · refine ⟨-100000, ?_, ?_⟩
    · show (if b = 0 then _ else _) = _
      rw [if_neg q0, P_within, d_b_t, v_bf q, if_pos rfl]; rfl
    · rw [v_bf q, if_pos rfl]
  have hg1 : 1 ≤ Nat.gcd a.natAbs b.toNat := Nat.gcd_pos_of_pos_right _ (by omega)
  have hg2 : Nat.gcd a.natAbs b.toNat ≤ b.toNat := Nat.gcd_le_right _ (by omega)
  have er : d_rem x 2 = x % 2 := v_remI (by omega) (by omega) (by decide) (by decide)
  rw [v_bt q, if_neg n10]
  by_cases q2 : x % 2 = 0
  · refine ⟨d_div a ((Nat.gcd a.natAbs b.toNat : Nat) : Int), ?_, ?_⟩
    · show (if b = 0 then _ else _) = _
      unfold F_X11_speed_j182
      rw [if_neg q0, P_within, d_b_t, v_bt q, if_neg n10, er, if_pos q2, P_divisor (by omega) (by omega), d_b_t, d_g_t (by omega)]
    · show (if b = 0 then _ else _) = _
      unfold F_X12_part F_X12_part_j10
      rw [if_neg q0, er, if_neg (by omega), if_pos (show (0 : Int) = 0 from rfl), P_gcd (by omega) (by omega), d_b_t, d_g_t (by omega), d_b_t, v_dLd (by omega) (by omega)]
  · refine ⟨d_div b ((Nat.gcd a.natAbs b.toNat : Nat) : Int), ?_, ?_⟩
    · show (if b = 0 then _ else _) = _
      unfold F_X11_speed_j182
      rw [if_neg q0, P_within, d_b_t, v_bt q, if_neg n10, er, if_neg q2, P_divisor (by omega) (by omega), d_b_t, d_g_t (by omega)]
    · show (if b = 0 then _ else _) = _
      unfold F_X12_part F_X12_part_j10
      rw [if_neg q0, er, if_pos (by omega), if_neg n10, P_gcd (by omega) (by omega), d_b_t, d_g_t (by omega), d_b_t, v_dLd (by omega) (by omega)]
end V42
def v_hb (B : Nat → Int) (w : Nat) : Nat → Int
  | 0 => 0
  | k + 1 => if k = w then v_hb B w k else max (v_hb B w k) (B k)
def v_wn (B : Nat → Int) (n r : Nat) : Prop := r < n ∧ (∀ j, j < n → B j ≤ B r) ∧ ∀ j, j < r → B j < B r
section V43
variable {s : d_S} {t : Nat → Option p_C} {n : Nat} {B : Nat → Int}
theorem v_hb_up {w : Nat} : ∀ k j, j < k → ¬ j = w → B j ≤ v_hb B w k := by
  intro k
  induction k with
  | zero => intro j hj; exact absurd hj (Nat.not_lt_zero j)
  | succ k ih =>
    intro j hj hw
    simp only [v_hb]
    by_cases q : j = k
    · rw [q] at hw ⊢
      rw [if_neg hw]; omega
    · have := ih j (by omega) hw
      split <;> omega
theorem v_hb_0 {w : Nat} : ∀ k, 0 ≤ v_hb B w k := by
  intro k
  induction k with
  | zero => exact Int.le_refl 0
  | succ k ih => simp only [v_hb]; split <;> omega
theorem v_hb_at {w : Nat} : ∀ k, v_hb B w k = 0 ∨ ∃ j, j < k ∧ ¬ j = w ∧ v_hb B w k = B j := by
  intro k
  induction k with
  | zero => exact Or.inl rfl
  | succ k ih =>
    simp only [v_hb]
    by_cases q : k = w
    · rw [if_pos q]
      rcases ih with h | ⟨j, h1, h2, h3⟩
      · exact Or.inl h
      · exact Or.inr ⟨j, by omega, h2, h3⟩
    · rw [if_neg q]
      by_cases q2 : v_hb B w k ≤ B k
      · right; exact ⟨k, by omega, q, by omega⟩
      · rcases ih with h | ⟨j, h1, h2, h3⟩
        · left; omega
        · right; exact ⟨j, by omega, h2, by omega⟩
theorem v_hb_cg {B' : Nat → Int} {w : Nat} (h : ∀ j, ¬ j = w → B' j = B j) : ∀ k, v_hb B' w k = v_hb B w k := by
  intro k
  induction k with
  | zero => rfl
  | succ k ih =>
    simp only [v_hb]
    rw [ih]
    by_cases q : k = w
    · rw [if_pos q, if_pos q]
    · rw [if_neg q, if_neg q, h k q]
theorem v_hbC (h : v_bd s n B) {w : Nat} : ∀ (j k m : Nat), k + j = n → j < m → F_X11_highestBut_l4 s m (w : Int) (v_hb B w k) (k : Int) = some (v_hb B w n) := by
  obtain ⟨h1, h2, h8, h3⟩ := id h
  intro j
  induction j with
  | zero =>
    intro k m hk hm
    obtain ⟨m, rfl⟩ : ∃ q, m = q + 1 := ⟨m - 1, by omega⟩
    have hk : k = n := by omega
    subst hk
    show F_X11_highestBut_l4_b s (F_X11_highestBut_l4 s m) _ _ _ = _
    unfold F_X11_highestBut_l4_b
    rw [h1, if_neg (by omega)]
  | succ j ih =>
    intro k m hk hm
    obtain ⟨m, rfl⟩ : ∃ q, m = q + 1 := ⟨m - 1, by omega⟩
    have hkn : k < n := by omega
    have hk1 : d_w ((k : Int) + 1) = ((k + 1 : Nat) : Int) := by rw [d_w_id (by omega) (by omega)]; rfl
    have hr := ih (k + 1) m (by omega) (by omega)
    simp only [v_hb] at hr
    show F_X11_highestBut_l4_b s (F_X11_highestBut_l4 s m) _ _ _ = _
    unfold F_X11_highestBut_l4_b
    rw [h1, if_pos (by omega), hk1]
    by_cases q : k = w
    · rw [if_pos q] at hr
      rw [if_pos (by omega)]; exact hr
    · rw [if_neg q] at hr
      rw [if_neg (by omega), P_part14 h hkn, d_b_t, P_max, d_b_t]; exact hr
def v_rb (s : d_S) (n : Nat) (B : Nat → Int) : Prop := s.1 65 6 = n ∧ n ≤ 8 ∧ ∀ j, j < n → s.1 65 (331 + j) = B j ∧ 0 ≤ B j ∧ B j ≤ 999
theorem v_hbR (h : v_rb s n B) {w : Nat} : ∀ (j k m : Nat), k + j = n → j < m → F_X12_paid_l9 s m (v_hb B w k) (w : Int) (k : Int) = some (v_hb B w n) := by
  obtain ⟨h2, h8, h3⟩ := h
  intro j
  induction j with
  | zero =>
    intro k m hk hm
    obtain ⟨m, rfl⟩ : ∃ q, m = q + 1 := ⟨m - 1, by omega⟩
    have hk : k = n := by omega
    subst hk
    show F_X12_paid_l9_b s (F_X12_paid_l9 s m) _ _ _ = _
    unfold F_X12_paid_l9_b
    rw [h2, if_neg (by omega)]
  | succ j ih =>
    intro k m hk hm
    obtain ⟨m, rfl⟩ : ∃ q, m = q + 1 := ⟨m - 1, by omega⟩
    have hkn : k < n := by omega
    have hk1 : d_w ((k : Int) + 1) = ((k + 1 : Nat) : Int) := by rw [d_w_id (by omega) (by omega)]; rfl
    have ek : d_w (331 + (k : Int)) = ((331 + k : Nat) : Int) := by rw [d_w_id (by omega) (by omega)]; omega
    have hr := ih (k + 1) m (by omega) (by omega)
    simp only [v_hb] at hr
    show F_X12_paid_l9_b s (F_X12_paid_l9 s m) _ _ _ = _
    unfold F_X12_paid_l9_b
    rw [h2, if_pos (by omega), hk1]
    by_cases q : k = w
    · rw [if_pos q] at hr
      rw [if_pos (by omega)]; exact hr
    · rw [if_neg q] at hr
      rw [if_neg (by omega), ek, d_g_t (by omega), d_g_t (by omega), Int.toNat_natCast, (h3 k hkn).1, d_l_t]
      by_cases q2 : v_hb B w k < B k
      · rw [if_pos q2]
        rw [show max (v_hb B w k) (B k) = B k by omega] at hr
        exact hr
      · rw [if_neg q2]
        rw [show max (v_hb B w k) (B k) = v_hb B w k by omega] at hr
        exact hr
theorem v_wnR (h : v_rb s n B) : ∀ (j k m : Nat), k + j = n → j < m → ∀ b, v_wn B k b → ∃ r, v_wn B n r ∧ F_X12_winner_l4 s m (b : Int) (k : Int) = some (r : Int) := by
  obtain ⟨h2, h8, h3⟩ := h
  intro j
  induction j with
  | zero =>
    intro k m hk hm b hb
    obtain ⟨m, rfl⟩ : ∃ q, m = q + 1 := ⟨m - 1, by omega⟩
    have hk : k = n := by omega
    subst hk
    refine ⟨b, hb, ?_⟩
    show F_X12_winner_l4_b s (F_X12_winner_l4 s m) _ _ = _
    unfold F_X12_winner_l4_b
    rw [h2, if_neg (by omega)]
  | succ j ih =>
    intro k m hk hm b hb
    obtain ⟨m, rfl⟩ : ∃ q, m = q + 1 := ⟨m - 1, by omega⟩
    obtain ⟨b1, b2, b3⟩ := hb
    have hkn : k < n := by omega
    have hk1 : d_w ((k : Int) + 1) = ((k + 1 : Nat) : Int) := by rw [d_w_id (by omega) (by omega)]; rfl
    have eb : d_w (331 + (b : Int)) = ((331 + b : Nat) : Int) := by rw [d_w_id (by omega) (by omega)]; omega
    have ek : d_w (331 + (k : Int)) = ((331 + k : Nat) : Int) := by rw [d_w_id (by omega) (by omega)]; omega
    show ∃ r, v_wn B n r ∧ F_X12_winner_l4_b s (F_X12_winner_l4 s m) _ _ = _
    unfold F_X12_winner_l4_b
    rw [h2, if_pos (by omega), eb, ek, d_g_t (by omega), d_g_t (by omega), Int.toNat_natCast, Int.toNat_natCast, (h3 k hkn).1, (h3 b (by omega)).1, hk1]
    by_cases q : B b < B k
    · rw [if_pos q]
      refine ih (k + 1) m (by omega) (by omega) k ⟨by omega, fun j hj => ?_, fun j hj => ?_⟩
      · by_cases z : j = k
        · rw [z]; exact Int.le_refl _
        · have := b2 j (by omega); omega
      · have := b2 j (by omega); omega
    · rw [if_neg q]
      refine ih (k + 1) m (by omega) (by omega) b ⟨by omega, fun j hj => ?_, b3⟩
      by_cases z : j = k
      · rw [z]; omega
      · exact b2 j (by omega)
theorem P_wnR (h : v_rb s n B) (hn : 1 ≤ n) : ∃ r, v_wn B n r ∧ F_X12_winner s = some ((r : Nat) : Int) := by
  unfold F_X12_winner
  have h8 := h.2.1
  exact v_wnR h (n - 1) 1 d_N (by omega) (by rw [d_N_is]; omega) 0 ⟨by omega, fun j hj => by rw [show j = 0 by omega]; exact Int.le_refl _, fun j hj => absurd hj (Nat.not_lt_zero j)⟩
theorem v_wn_u {r r' : Nat} (h : v_wn B n r) (h' : v_wn B n r') : r = r' := by
  obtain ⟨a1, a2, a3⟩ := h
  obtain ⟨b1, b2, b3⟩ := h'
  by_cases q1 : r < r'
  · have := b3 r q1; have := a2 r' b1; omega
  by_cases q2 : r' < r
  · have := a3 r' q2; have := b2 r a1; omega
  omega
theorem P_paidR (h : v_rb s n B) {r : Nat} (hw : F_X12_winner s = some ((r : Nat) : Int)) : F_X12_paid s = some (v_hb B r n) := by
  unfold F_X12_paid
  rw [hw, d_b_t]
  exact v_hbR h n 0 d_N (by omega) (by rw [d_N_is]; have := h.2.1; omega)
def v_bp (B : Nat → Int) (p : Nat) (x : Int) : Nat → Int := fun j => if j = p then x else B j
def v_vl (B : Nat → Int) (n p : Nat) (zz x : Int) : Int → Prop := fun y => (v_wn (v_bp B p x) n p ∧ y = zz - v_hb B p n) ∨ (¬ v_wn (v_bp B p x) n p ∧ y = 0)
theorem v_liel {K : Int → Int → Int → Int → d_S → Option (Int × d_S)} {p : Nat} {zz x3 : Int} (hp : p < n) (hz : 0 ≤ zz ∧ zz ≤ 999) (hB : ∀ j, j < n → 0 ≤ B j ∧ B j ≤ 999) (hn8 : n ≤ 8) {A : Nat → Int} (hA6 : A 6 = n) (hA : ∀ j, j < n → A (331 + j) = B j) : ∀ (j k m : Nat), k + j = 1000 → j < m → ∀ (s : d_S) (b : Int), (∀ i, ¬ i = 331 + p → s.1 65 i = A i) → (k = 0 ∧ b = -100000 ∨ (∃ x y : Int, v_vl B n p zz x y ∧ b = y ∧ 0 ≤ x ∧ x < k) ∧ ∀ x y : Int, 0 ≤ x → x < k → v_vl B n p zz x y → y ≤ b) → ∃ (b' : Int) (s' : d_S), F_X12_lies_l58 K m (p : Int) zz x3 b (k : Int) s = K (p : Int) zz x3 b' s' ∧ (∀ i, ¬ i = 331 + p → s'.1 65 i = A i) ∧ (∀ a, a ≠ 65 → s'.1 a = s.1 a) ∧ s'.2 = s.2 ∧ (∃ x y : Int, v_vl B n p zz x y ∧ b' = y ∧ 0 ≤ x ∧ x < 1000) ∧ ∀ x y : Int, 0 ≤ x → x < 1000 → v_vl B n p zz x y → y ≤ b' := by
  have hM0 := v_hb_0 (B := B) (w := p) n
  have hM9 : v_hb B p n ≤ 999 := by
    rcases v_hb_at (B := B) (w := p) n with h | ⟨j, h1, h2, h3⟩
    · omega
    · rw [h3]; exact (hB j h1).2
  intro j
  induction j with
  | zero =>
    intro k m hk hm s b hs hb
    obtain ⟨m, rfl⟩ : ∃ q, m = q + 1 := ⟨m - 1, by omega⟩
    have hk : k = 1000 := by omega
    subst hk
    rcases hb with ⟨hb, -⟩ | ⟨hb1, hb2⟩
    · omega
    refine ⟨b, s, ?_, hs, fun _ _ => rfl, rfl, hb1, hb2⟩
    show F_X12_lies_l58_b K (F_X12_lies_l58 K m) _ _ _ _ _ s = _
    unfold F_X12_lies_l58_b
    rw [if_pos (by omega)]
  | succ j ih =>
    intro k m hk hm s b hs hb
    obtain ⟨m, rfl⟩ : ∃ q, m = q + 1 := ⟨m - 1, by omega⟩
    have ep : d_w (331 + (p : Int)) = ((331 + p : Nat) : Int) := by rw [d_w_id (by omega) (by omega)]; omega
    have hk1 : d_w ((k : Int) + 1) = ((k + 1 : Nat) : Int) := by rw [d_w_id (by omega) (by omega)]; rfl
    obtain ⟨s7, hs7⟩ : ∃ q, q = d_si s 65 (331 + p) (k : Int) := ⟨_, rfl⟩
    have h7 : ∀ i, ¬ i = 331 + p → s7.1 65 i = A i := fun i hi => by rw [hs7, d_si_i, d_u_n hi]; exact hs i hi
    have h7o : ∀ a, a ≠ 65 → s7.1 a = s.1 a := fun a ha => by rw [hs7, d_si_n ha]
    have hrb : v_rb s7 n (v_bp B p (k : Int)) := ⟨by rw [h7 6 (by omega)]; exact hA6, hn8, fun j hj => by
      unfold v_bp
      by_cases q : j = p
      · rw [if_pos q, q, hs7, d_si_i, d_u_t]; omega
      · rw [if_neg q, h7 _ (by omega), hA j hj]; exact ⟨rfl, hB j hj⟩⟩
    obtain ⟨r, r1, r2⟩ := P_wnR hrb (by omega)
    have hcg := v_hb_cg (B := B) (B' := v_bp B p (k : Int)) (w := p) (fun j hj => if_neg hj) n
    
    have next : ∀ y, v_vl B n p zz (k : Int) y → (∃ x y' : Int, v_vl B n p zz x y' ∧ max b y = y' ∧ 0 ≤ x ∧ x < ((k + 1 : Nat) : Int)) ∧ ∀ x y' : Int, 0 ≤ x → x < ((k + 1 : Nat) : Int) → v_vl B n p zz x y' → y' ≤ max b y := fun y hy => by
      have hy2 : -1000 ≤ y := by
        rcases hy with ⟨-, e⟩ | ⟨-, e⟩ <;> omega
      have hu : ∀ y', v_vl B n p zz (k : Int) y' → y' = y := fun y' hy' => by
        rcases hy with ⟨e1, e⟩ | ⟨e1, e⟩ <;> rcases hy' with ⟨f1, f⟩ | ⟨f1, f⟩
        · omega
        · exact absurd e1 f1
        · exact absurd f1 e1
        · omega
      refine ⟨?_, fun x y' h1 h2 h3 => ?_⟩
      · rcases hb with ⟨hb1, hb2⟩ | ⟨⟨x, y', g1, g2, g3, g4⟩, -⟩
        · exact ⟨(k : Int), y, hy, by omega, by omega, by omega⟩
        · by_cases q : b ≤ y
          · exact ⟨(k : Int), y, hy, by omega, by omega, by omega⟩
          · exact ⟨x, y', g1, by omega, g3, by omega⟩
      · by_cases q : x = (k : Int)
        · rw [q] at h3
          have := hu y' h3; omega
        · rcases hb with ⟨hb1, hb2⟩ | ⟨-, hb2⟩
          · omega
          · have := hb2 x y' h1 (by omega) h3; omega
    have go : ∀ y, v_vl B n p zz (k : Int) y → ∃ (b' : Int) (s' : d_S), F_X12_lies_l58 K m (p : Int) zz x3 (max b y) ((k + 1 : Nat) : Int) s7 = K (p : Int) zz x3 b' s' ∧ (∀ i, ¬ i = 331 + p → s'.1 65 i = A i) ∧ (∀ a, a ≠ 65 → s'.1 a = s.1 a) ∧ s'.2 = s.2 ∧ (∃ x y : Int, v_vl B n p zz x y ∧ b' = y ∧ 0 ≤ x ∧ x < 1000) ∧ ∀ x y : Int, 0 ≤ x → x < 1000 → v_vl B n p zz x y → y ≤ b' := fun y hy => by
      obtain ⟨n1, n2⟩ := next y hy
      obtain ⟨b', s', c1, c2, c3, c4, c5, c6⟩ := ih (k + 1) m (by omega) (by omega) s7 (max b y) h7 (Or.inr ⟨n1, n2⟩)
      exact ⟨b', s', c1, c2, fun a ha => (c3 a ha).trans (h7o a ha), c4.trans (by rw [hs7]; rfl), c5, c6⟩
    show ∃ (b' : Int) (s' : d_S), F_X12_lies_l58_b K (F_X12_lies_l58 K m) _ _ _ _ _ s = _ ∧ _
    unfold F_X12_lies_l58_b
    rw [if_neg (by omega), ep, d_g_t (by omega), Int.toNat_natCast, d_l_t, ← hs7, r2, d_b_t, hk1]
    by_cases q : r = p
    · subst q
      rw [if_pos rfl, P_paidR hrb r2, d_b_t, hcg, d_w_id (by omega) (by omega)]
      obtain ⟨b', s', c1, c2⟩ := go (zz - v_hb B r n) (Or.inl ⟨r1, rfl⟩)
      refine ⟨b', s', ?_, c2⟩
      by_cases q2 : b < zz - v_hb B r n
      · rw [if_pos q2]
        rw [show max b (zz - v_hb B r n) = zz - v_hb B r n by omega] at c1
        exact c1
      · rw [if_neg q2]
        rw [show max b (zz - v_hb B r n) = b by omega] at c1
        exact c1
    · rw [if_neg (by omega)]
      obtain ⟨b', s', c1, c2⟩ := go 0 (Or.inr ⟨fun e => q (v_wn_u r1 e), rfl⟩)
      refine ⟨b', s', ?_, c2⟩
      by_cases q2 : b < 0
      · rw [if_pos q2]
        rw [show max b 0 = 0 by omega] at c1
        exact c1
      · rw [if_neg q2]
        rw [show max b 0 = b by omega] at c1
        exact c1
end V43
section V44
variable {s : d_S} {t : Nat → Option p_C} {n : Nat} {B : Nat → Int}
theorem v_bd.rb (h : v_bd s n B) : v_rb s n B := ⟨h.2.1, h.2.2.1, fun j hj => ⟨(h.2.2.2 j hj).2.1, (h.2.2.2 j hj).2.2⟩⟩
theorem v_best (hB : ∀ j, j < n → 0 ≤ B j ∧ B j ≤ 999) {p : Nat} (hp : p < n) {b : Int} (h1 : ∃ x y : Int, v_vl B n p (B p) x y ∧ b = y ∧ 0 ≤ x ∧ x < 1000) (h2 : ∀ x y : Int, 0 ≤ x → x < 1000 → v_vl B n p (B p) x y → y ≤ b) : b = max (B p - v_hb B p n) 0 := by
  have hM0 := v_hb_0 (B := B) (w := p) n
  have hbp := hB p hp
  have dec : ∀ x, v_wn (v_bp B p x) n p ∨ ¬ v_wn (v_bp B p x) n p := fun x => Classical.em _
  obtain ⟨x, y, e1, e2, -, -⟩ := h1
  have hle : b ≤ max (B p - v_hb B p n) 0 := by
    rcases e1 with ⟨-, e⟩ | ⟨-, e⟩ <;> omega
  by_cases q : 0 < B p - v_hb B p n
  · have hw : v_wn (v_bp B p 999) n p := by
      unfold v_wn v_bp
      refine ⟨hp, fun j hj => ?_, fun j hj => ?_⟩
      · rw [if_pos rfl]
        by_cases z : j = p
        · rw [if_pos z]; omega
        · rw [if_neg z]; exact (hB j hj).2
      · rw [if_pos rfl, if_neg (by omega)]
        have := v_hb_up (B := B) (w := p) n j (by omega) (by omega)
        omega
    have := h2 999 _ (by decide) (by decide) (Or.inl ⟨hw, rfl⟩)
    omega
  · rcases dec 0 with hw | hw
    · have hz : v_hb B p n = 0 := by
        rcases v_hb_at (B := B) (w := p) n with h | ⟨j, g1, g2, g3⟩
        · exact h
        · have := hw.2.1 j g1
          unfold v_bp at this
          rw [if_neg g2, if_pos rfl] at this
          have := (hB j g1).1
          omega
      have := h2 0 _ (by decide) (by decide) (Or.inl ⟨hw, rfl⟩)
      omega
    · have := h2 0 0 (by decide) (by decide) (Or.inr ⟨hw, rfl⟩)
      omega
theorem R_lies (h : v_R t s) {x : Int} : v_AA t (d_b (F_X11_lies s x) (fun v => some (v, s))) (fun s1 => F_X12_lies s1 x) := by
  obtain ⟨n, B, hb⟩ := h.bids
  have hrb := hb.rb
  obtain ⟨h1, h2, h8, h3⟩ := id hb
  have n10 : ¬ (1 : Int) = 0 := by decide
  by_cases c : 0 ≤ x ∧ x ≤ (n : Int) - 1
  rotate_left
  · refine v_AA.same h (-2) ?_ ?_
    · unfold F_X11_lies; rw [h1, d_w_id (by omega) (by omega), P_within, d_b_t, v_bf c, if_pos rfl, d_b_t]
    · show F_X12_lies s x = _; unfold F_X12_lies; rw [h2, d_w_id (by omega) (by omega), P_isIn, d_b_t, v_bf c, if_pos rfl]
  obtain ⟨p, rfl⟩ : ∃ p : Nat, x = p := ⟨x.toNat, by omega⟩
  have hp : p < n := by omega
  have hB : ∀ j, j < n → 0 ≤ B j ∧ B j ≤ 999 := fun j hj => (h3 j hj).2.2
  have hbp := hB p hp
  have hM0 := v_hb_0 (B := B) (w := p) n
  have hM9 : v_hb B p n ≤ 999 := by
    rcases v_hb_at (B := B) (w := p) n with h | ⟨j, h1, h2, h3⟩
    · omega
    · rw [h3]; exact (hB j h1).2
  obtain ⟨r, hr, hwC, hwR⟩ := P_win hb (by omega)
  obtain ⟨r2, w1, w2⟩ := P_wnR hrb (by omega)
  have er : r2 = r := by
    have := Option.some.inj (w2.symm.trans hwR); omega
  subst er
  have hhb : F_X11_highestBut s (p : Int) = some (v_hb B p n) := v_hbC hb n 0 d_N (by omega) (by rw [d_N_is]; omega)
  have ep : d_w (331 + (p : Int)) = ((331 + p : Nat) : Int) := by rw [d_w_id (by omega) (by omega)]; omega
  have lie : ∀ x3 : Int, ∃ s', F_X12_lies_l58 (fun x1_u10 x2_u10 x3_u10 x4_u10 s_u10 => d_g (0 ≤ (d_w (331 + x1_u10)) ∧ (d_w (331 + x1_u10)) < 2517) (d_l (d_si s_u10 65 (((d_w (331 + x1_u10))).toNat) x2_u10) (fun s12 => some ((d_w (x4_u10 - x3_u10)), s12)))) d_N (p : Int) (B p) x3 (-100000) 0 s = some (d_w (max (B p - v_hb B p n) 0 - x3), s') ∧ v_R t s' := fun x3 => by
    obtain ⟨b', s', c1, c2, c3, c4, c5, c6⟩ := v_liel (K := fun x1_u10 x2_u10 x3_u10 x4_u10 s_u10 => d_g (0 ≤ (d_w (331 + x1_u10)) ∧ (d_w (331 + x1_u10)) < 2517) (d_l (d_si s_u10 65 (((d_w (331 + x1_u10))).toNat) x2_u10) (fun s12 => some ((d_w (x4_u10 - x3_u10)), s12)))) (x3 := x3) hp hbp hB h8 (A := s.1 65) h2 (fun j hj => (h3 j hj).2.1) 1000 0 d_N rfl (by rw [d_N_is]; decide) s (-100000) (fun i hi => rfl) (Or.inl ⟨rfl, rfl⟩)
    have hbest := v_best hB hp c5 c6
    have e65 : (d_si s' 65 (331 + p) (B p)).1 65 = s.1 65 := by
      rw [d_si_i]
      funext i
      by_cases q : i = 331 + p
      · rw [q, d_u_t]; exact (h3 p hp).2.1.symm
      · rw [d_u_n q]; exact c2 i q
    have eo : ∀ a, (d_si s' 65 (331 + p) (B p)).1 a = s.1 a := fun a => by
      by_cases q : a = 65
      · rw [q]; exact e65
      · rw [d_si_n q]; exact c3 a q
    refine ⟨d_si s' 65 (331 + p) (B p), ?_, h.e (funext eo) (by show s'.2.1 = s.2.1; rw [c4])⟩
    refine (show F_X12_lies_l58 _ d_N (p : Int) (B p) x3 (-100000) 0 s = _ from c1).trans ?_
    show d_g (0 ≤ d_w (331 + (p : Int)) ∧ d_w (331 + (p : Int)) < 2517) _ = _
    rw [ep, d_g_t (by omega), Int.toNat_natCast, d_l_t, hbest]
  by_cases q : r2 = p
  · subst q
    obtain ⟨s', g1, g2⟩ := lie (B r2 - v_hb B r2 n)
    refine ⟨d_w (max (B r2 - v_hb B r2 n) 0 - (B r2 - v_hb B r2 n)), s, s', ?_, ?_, g2⟩
    · unfold F_X11_lies
      rw [h1, d_w_id (x := (n : Int) - 1) (by omega) (by omega), P_within, d_b_t, v_bt c, if_neg n10, P_part14 hb hp, d_b_t, hhb, d_b_t, hwC, d_b_t, if_pos rfl, d_w_id (x := B r2 - v_hb B r2 n) (by omega) (by omega), P_max, d_b_t, d_b_t]
    · show F_X12_lies s (r2 : Int) = _
      unfold F_X12_lies
      rw [h2, d_w_id (x := (n : Int) - 1) (by omega) (by omega), P_isIn, d_b_t, v_bt c, if_neg n10, ep, d_g_t (by omega), Int.toNat_natCast, (h3 r2 hp).2.1, d_l_t, hwR, d_b_t, if_pos rfl, P_paidR hrb hwR, d_b_t, d_w_id (x := B r2 - v_hb B r2 n) (by omega) (by omega)]
      exact g1
  · obtain ⟨s', g1, g2⟩ := lie 0
    refine ⟨d_w (max (B p - v_hb B p n) 0 - 0), s, s', ?_, ?_, g2⟩
    · unfold F_X11_lies
      rw [h1, d_w_id (x := (n : Int) - 1) (by omega) (by omega), P_within, d_b_t, v_bt c, if_neg n10, P_part14 hb hp, d_b_t, hhb, d_b_t, hwC, d_b_t, if_neg (by omega), d_w_id (x := B p - v_hb B p n) (by omega) (by omega), P_max, d_b_t, d_b_t]
    · show F_X12_lies s (p : Int) = _
      unfold F_X12_lies
      rw [h2, d_w_id (x := (n : Int) - 1) (by omega) (by omega), P_isIn, d_b_t, v_bt c, if_neg n10, ep, d_g_t (by omega), Int.toNat_natCast, (h3 p hp).2.1, d_l_t, hwR, d_b_t, if_neg (by omega)]
      exact g1
end V44
def v_rdy (t : Nat → Option p_C) (s : d_S) (L : v_LR) (u v W H : Nat) (st me so : Nat → Nat) (N : Nat) (sg : Nat → Nat → Nat) (day heat x : Int) : Prop := v_M s st me so ∧ v_Q s u v W H ∧ v_S s N sg ∧ v_Y s day heat x ∧ v_Nm (s.1 49) ∧ ∃ e, F_X9_ruler_3 s = some e ∧ v_CT t e L
def v_rdr (s : d_S) (L : v_LR) (u v W H : Nat) (st me so : Nat → Nat) (N : Nat) (sg : Nat → Nat → Nat) (day heat : Int) : Prop := v_G (s.1 65) u v W H ∧ v_Z (s.1 65) N sg ∧ v_B (s.1 65) st me so ∧ v_RT (s.1 67) (s.1 65 2) L ∧ v_Nm (s.1 71) ∧ (s.1 65 9 = day ∧ s.1 65 10 = heat) ∧ (0 ≤ day ∧ day ≤ 999) ∧ (0 ≤ heat ∧ heat ≤ 9)
abbrev v_csb (u v : Nat) (so me : Nat → Nat) (b : Nat) : Prop := b < v_bl u v ∧ so b = 0 ∧ me b < 100
section V45
variable {s s1 s2 : d_S} {t : Nat → Option p_C} {L : v_LR} {u v W H b N n : Nat} {st me so : Nat → Nat} {sg : Nat → Nat → Nat} {day heat x : Int} {e : Option Nat}
theorem v_rdy.fr (h : v_rdy t s L u v W H st me so N sg day heat x) (h1 : ∀ a, (a = 3 ∨ a = 4 ∨ a = 6 ∨ a = 7 ∨ 37 ≤ a ∧ a ≤ 42) → s1.1 a = s.1 a) (h2 : s1.2.1 5 = s.2.1 5) (hN : v_Nm (s1.1 49)) : v_rdy t s1 L u v W H st me so N sg day heat x := by
  obtain ⟨a, b, c, ⟨⟨d1, d2, d3⟩, d⟩, -, e, g1, g2⟩ := h
  refine ⟨a.fr (h1 7 (by omega)), b.fr (fun a h3 h4 => h1 a (by omega)), ?_, ⟨by rw [h1 6 (by omega)]; exact ⟨d1, d2, d3⟩, d⟩, hN, e, by rw [P_ruler_fr (h1 3 (by omega)) h2]; exact g1, g2⟩
  unfold v_S at c ⊢
  rw [h1 3 (by omega), h1 4 (by omega)]; exact c
theorem v_rdy.ask (h : v_rdy t s L u v W H st me so N sg day heat x) (hb : b < v_bl u v) : ∃ s2, F_X11_sellsNow t s (b : Int) = some (v_pr1 L sg u v W H N day heat st me b, s2) ∧ v_cf s s2 ∧ v_rdy t s2 L u v W H st me so N sg day heat x := by
  obtain ⟨a, b', c, d, e', e, g1, g2⟩ := id h
  obtain ⟨s2, r1, r2⟩ := P_sellsNow (N := N) (sg := sg) (L := L) a b' c g1 g2 d ⟨fun _ _ _ _ => rfl, fun _ _ => rfl, e'⟩ hb
  exact ⟨s2, r1, r2, h.fr (fun a ha => r2.1 a (by omega) (by omega) (by omega)) (r2.2.1 5 (by decide)) r2.2.2⟩
theorem v_rdr.fr (h : v_rdr s L u v W H st me so N sg day heat) (h1 : s1.1 65 = s.1 65) (h2 : s1.1 67 = s.1 67) (hN : v_Nm (s1.1 71)) : v_rdr s1 L u v W H st me so N sg day heat := by
  unfold v_rdr at h ⊢
  rw [h1, h2]
  exact ⟨h.1, h.2.1, h.2.2.1, h.2.2.2.1, hN, h.2.2.2.2.2⟩
theorem v_rdr.ask (h : v_rdr s L u v W H st me so N sg day heat) (hb : b < v_bl u v) : ∃ s2, F_X12_sellsOf s (b : Int) = some (v_pr1 L sg u v W H N day heat st me b, s2) ∧ v_71 s s2 ∧ v_rdr s2 L u v W H st me so N sg day heat := by
  obtain ⟨a, b', c, d, e, ⟨f1, f2⟩, g1, g2⟩ := id h
  obtain ⟨s2, r1, r2⟩ := P_sellsOf (L := L) (N := N) (sg := sg) (day := day) (heat := heat) a b' hb d e c f1 f2 (by omega) (by omega)
  exact ⟨s2, r1, r2, h.fr (r2.1 65 (by decide)) (r2.1 67 (by decide)) (r2.2.2 e)⟩
theorem P_csC (hM : v_M s st me so) (hQ : v_Q s u v W H) {b : Nat} : F_X11_canSell s (b : Int) = some (v_b (v_csb u v so me b)) := by
  have h64 := hQ.2.2.1
  unfold F_X11_canSell
  rw [P_isBlockC hQ, d_b_t]
  by_cases c1 : b < v_bl u v
  rotate_left
  · rw [v_bf (fun e => c1 (by omega)), if_pos rfl, v_bf (fun e => c1 e.1)]
  obtain ⟨-, m1, m2, m3⟩ := hM b (by omega)
  rw [v_bt ⟨by omega, by omega⟩, if_neg (by decide), P_isSoldC hM (by omega), d_b_t]
  by_cases c2 : so b = 0
  rotate_left
  · rw [if_neg (by omega), v_bf (fun e => c2 e.2.1)]
  rw [if_pos (by omega), P_meltedOf hM (by omega), d_b_t]
  by_cases c3 : me b < 100
  · rw [if_pos (by omega), v_bt ⟨c1, c2, c3⟩]
  · rw [if_neg (by omega), v_bf (fun e => c3 e.2.2)]
theorem P_csR (hG : v_G (s.1 65) u v W H) (hB : v_B (s.1 65) st me so) {b : Nat} : F_X12_canSell s (b : Int) = some (v_b (v_csb u v so me b)) := by
  have hac := hG.ac
  unfold F_X12_canSell
  rw [P_isBlock hG, d_b_t]
  by_cases c1 : b < v_bl u v
  rotate_left
  · rw [v_bf (fun e => c1 (by omega)), if_pos rfl, v_bf (fun e => c1 e.1)]
  obtain ⟨-, m1, m2, m3⟩ := hB b (by omega)
  rw [v_bt ⟨by omega, by omega⟩, if_neg (by decide), P_isSold hB (by omega), d_b_t]
  by_cases c2 : so b = 0
  rotate_left
  · rw [if_neg (by omega), v_bf (fun e => c2 e.2.1)]
  rw [if_pos (by omega), P_isWater hB (by omega), d_b_t]
  by_cases c3 : me b = 100
  · rw [v_bt c3, if_neg (by decide), v_bf (fun e => by have := e.2.2; omega)]
  · rw [v_bf c3, if_pos rfl, v_bt ⟨c1, c2, by omega⟩]
def v_p61 (L : v_LR) (sg : Nat → Nat → Nat) (u v W H N : Nat) (day heat : Int) (st me so : Nat → Nat) (b : Nat) : Int := if v_csb u v so me b then v_pr1 L sg u v W H N day heat st me b else -1
theorem v_deal {K : Int → d_S → Option (Int × d_S)} {y : Int} : ∀ (j k m : Nat), k + j = v_bl u v → j < m → ∀ s, v_rdy t s L u v W H st me so N sg day heat x → (∀ b, b < k → s.1 61 b = v_p61 L sg u v W H N day heat st me so b) → ∃ s', F_X11_dearest_l2 t K m y (k : Int) s = K y s' ∧ v_rdy t s' L u v W H st me so N sg day heat x ∧ (∀ b, b < v_bl u v → s'.1 61 b = v_p61 L sg u v W H N day heat st me so b) ∧ (∀ a, a ≠ 47 → a ≠ 49 → a ≠ 50 → a ≠ 61 → s'.1 a = s.1 a) ∧ ∀ a, a ≠ 47 → s'.2.1 a = s.2.1 a := by
  intro j
  induction j with
  | zero =>
    intro k m hk hm s h hp
    obtain ⟨m, rfl⟩ : ∃ q, m = q + 1 := ⟨m - 1, by omega⟩
    have hk : k = v_bl u v := by omega
    subst hk
    refine ⟨s, ?_, h, hp, fun _ _ _ _ _ => rfl, fun _ _ => rfl⟩
    show F_X11_dearest_l2_b t K (F_X11_dearest_l2 t K m) _ _ s = _
    unfold F_X11_dearest_l2_b
    rw [h.2.1.1, if_neg (by omega)]
  | succ j ih =>
    intro k m hk hm s h hp
    obtain ⟨m, rfl⟩ : ∃ q, m = q + 1 := ⟨m - 1, by omega⟩
    have hkb : k < v_bl u v := by omega
    have h64 := h.2.1.2.2.1
    have put : ∀ (s2 : d_S) (y2 : Int), v_rdy t s2 L u v W H st me so N sg day heat x → (∀ a, a ≠ 47 → a ≠ 49 → a ≠ 50 → s2.1 a = s.1 a) → (∀ a, a ≠ 47 → s2.2.1 a = s.2.1 a) → y2 = v_p61 L sg u v W H N day heat st me so k → ∃ s', F_X11_dearest_j44 t (F_X11_dearest_l2 t K m) y (k : Int) (k : Int) y2 s2 = K y s' ∧ v_rdy t s' L u v W H st me so N sg day heat x ∧ (∀ b, b < v_bl u v → s'.1 61 b = v_p61 L sg u v W H N day heat st me so b) ∧ (∀ a, a ≠ 47 → a ≠ 49 → a ≠ 50 → a ≠ 61 → s'.1 a = s.1 a) ∧ ∀ a, a ≠ 47 → s'.2.1 a = s.2.1 a := fun s2 y2 h2 f1 f2 hy => by
      obtain ⟨s', r1, r2, r3, r4, r5⟩ := ih (k + 1) m (by omega) (by omega) (d_si s2 61 k y2) (h2.fr (fun a ha => d_si_n (by omega)) rfl (by rw [d_si_n (by decide)]; exact h2.2.2.2.2.1)) (fun b hb => by
        rw [d_si_i]
        by_cases q : b = k
        · rw [q, d_u_t]; exact hy
        · rw [d_u_n q, f1 61 (by decide) (by decide) (by decide)]; exact hp b (by omega))
      refine ⟨s', ?_, r2, r3, fun a h1 h2 h3 h4 => by rw [r4 a h1 h2 h3 h4, d_si_n h4]; exact f1 a h1 h2 h3, fun a ha => (r5 a ha).trans (f2 a ha)⟩
      unfold F_X11_dearest_j44
      rw [d_g_t (by omega), Int.toNat_natCast, d_l_t, d_w_id (by omega) (by omega)]
      exact r1
    show ∃ s', F_X11_dearest_l2_b t K (F_X11_dearest_l2 t K m) _ _ s = _ ∧ _
    unfold F_X11_dearest_l2_b
    rw [h.2.1.1, if_pos (by omega), if_pos (by omega), P_csC h.1 h.2.1, d_b_t]
    by_cases q : v_csb u v so me k
    · rw [v_bt q, if_neg (by decide)]
      obtain ⟨s2, r1, r2, r3⟩ := h.ask hkb
      rw [r1, d_b2_t]
      exact put s2 _ r3 r2.1 r2.2.1 (by unfold v_p61; rw [if_pos q])
    · rw [v_bf q, if_pos rfl]
      exact put s _ h (fun _ _ _ _ => rfl) (fun _ _ => rfl) (by unfold v_p61; rw [if_neg q])
end V45

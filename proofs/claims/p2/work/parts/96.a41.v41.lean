abbrev v_ml (A : Nat → Int) (x y : Int) (k g : Nat) : Prop := ∀ j, j < k → A (299 + 4 * j) = x → A (300 + 4 * j) = y → (((g * 10 : Nat) : Int) < A (301 + 4 * j) ↔ A (302 + 4 * j) = 1)
abbrev v_mr (A : Nat → Int) (x y : Int) (k g0 : Nat) (g : Nat) : Prop := v_ml A x y k g ∧ (g < g0 → (((g * 10 : Nat) : Int) < A (301 + 4 * k) ↔ A (302 + 4 * k) = 1))
section V41
variable {s : d_S} {t : Nat → Option p_C} {n : Nat} {x y : Int}
theorem v_rmb : ∀ a : Nat, a < 1024 → ∀ g : Nat, g < 10 → d_and (a : Int) (d_xor (d_shl 1 (g : Int)) (-1)) = ((a ^^^ (a &&& 2 ^ g) : Nat) : Int) := by decide +kernel
theorem v_sb_rm {P Q : Nat → Prop} [DecidablePred P] [DecidablePred Q] {k g : Nat} (h : ∀ i, i < k → (Q i ↔ P i ∧ ¬ i = g)) : v_sb P k ^^^ (v_sb P k &&& 2 ^ g) = v_sb Q k := by
  refine Nat.eq_of_testBit_eq (fun i => ?_)
  rw [Nat.testBit_xor, Nat.testBit_and, Nat.testBit_two_pow, v_sb_tb, v_sb_tb]
  by_cases q : i < k
  · have := h i q
    by_cases p1 : P i
    · by_cases p2 : i = g
      · subst p2; simp [q, p1, this]
      · have p3 : ¬ g = i := fun e => p2 e.symm
        simp [q, p1, p2, p3, this]
    · simp [q, p1, this]
  · simp [q]
def v_gl (s : d_S) (n : Nat) : Prop := s.1 12 2 = n ∧ s.1 65 5 = n ∧ n ≤ 8 ∧ (∀ j i : Nat, j < n → i < 4 → s.1 13 (4 * j + i) = s.1 65 (299 + 4 * j + i)) ∧ ∀ j : Nat, j < n → (0 ≤ s.1 65 (301 + 4 * j) ∧ s.1 65 (301 + 4 * j) ≤ 100) ∧ (s.1 65 (302 + 4 * j) = 0 ∨ s.1 65 (302 + 4 * j) = 1)
theorem v_R.glasses (h : v_R t s) : ∃ n, v_gl s n := by
  obtain ⟨hW, hI, -⟩ := h
  obtain ⟨-, -, ⟨c1, c2⟩, -⟩ := hW.2.2.2
  have c1 : s.1 12 2 = s.1 65 5 := c1
  obtain ⟨-, -, -, k5, -, -, -, -, q5, -⟩ := hI.2.2.1
  exact ⟨(s.1 65 5).toNat, by omega, by omega, by omega, fun j i hj hi => c2 j i (by omega) hi, fun j hj => (q5 j (by omega)).2.2⟩
theorem P_part12 (h : v_gl s n) {j i : Nat} (hj : j < n) (hi : i < 4) : F_X8_part_12 s (j : Int) (i : Int) = some (s.1 65 (299 + 4 * j + i)) := by
  obtain ⟨h1, h2, h8, h3, -⟩ := h
  unfold F_X8_part_12
  have e : d_w ((j : Int) * 4 + (i : Int)) = ((4 * j + i : Nat) : Int) := by rw [d_w_id (by omega) (by omega)]; omega
  rw [e, if_neg (by omega), if_pos (by omega), d_g_t (by omega), Int.toNat_natCast, h3 j i hj hi]
theorem v_ml_s {A : Nat → Int} {k g : Nat} (h : v_ml A x y k g) (h2 : A (299 + 4 * k) = x → A (300 + 4 * k) = y → (((g * 10 : Nat) : Int) < A (301 + 4 * k) ↔ A (302 + 4 * k) = 1)) : v_ml A x y (k + 1) g := fun j hj => by
  by_cases q : j = k
  · rw [q]; exact h2
  · exact h j (by omega)
theorem v_mlC (h : v_gl s n) {g : Nat} (hg : g < 10) : ∀ (j k m : Nat), k + j = n → j < m → v_ml (s.1 65) x y k g → F_X11_mayLie_l3 s m x y (g : Int) (k : Int) = some (v_b (v_ml (s.1 65) x y n g)) := by
  have h' := h
  obtain ⟨h1, h2, h8, h3, h4⟩ := h'
  intro j
  induction j with
  | zero =>
    intro k m hk hm hl
    obtain ⟨m, rfl⟩ : ∃ q, m = q + 1 := ⟨m - 1, by omega⟩
    have hk : k = n := by omega
    subst hk
    show F_X11_mayLie_l3_b s (F_X11_mayLie_l3 s m) _ _ _ _ = _
    unfold F_X11_mayLie_l3_b
    rw [h1, if_neg (by omega), v_bt hl]
  | succ j ih =>
    intro k m hk hm hl
    obtain ⟨m, rfl⟩ : ∃ q, m = q + 1 := ⟨m - 1, by omega⟩
    have hkn : k < n := by omega
    obtain ⟨h5, h6⟩ := h4 k hkn
    have p0 : F_X8_part_12 s (k : Int) 0 = some (s.1 65 (299 + 4 * k)) := P_part12 h hkn (i := 0) (by decide)
    have p1 : F_X8_part_12 s (k : Int) 1 = some (s.1 65 (300 + 4 * k)) := by rw [show 300 + 4 * k = 299 + 4 * k + 1 by omega]; exact P_part12 h hkn (i := 1) (by decide)
    have p2 : F_X8_part_12 s (k : Int) 2 = some (s.1 65 (301 + 4 * k)) := by rw [show 301 + 4 * k = 299 + 4 * k + 2 by omega]; exact P_part12 h hkn (i := 2) (by decide)
    have p3 : F_X8_part_12 s (k : Int) 3 = some (s.1 65 (302 + 4 * k)) := by rw [show 302 + 4 * k = 299 + 4 * k + 3 by omega]; exact P_part12 h hkn (i := 3) (by decide)
    have hk1 : d_w ((k : Int) + 1) = ((k + 1 : Nat) : Int) := by rw [d_w_id (by omega) (by omega)]; rfl
    have hg10 : d_w ((g : Int) * 10) = ((g * 10 : Nat) : Int) := by rw [d_w_id (by omega) (by omega)]; omega
    have hskip : ¬ (s.1 65 (299 + 4 * k) = x ∧ s.1 65 (300 + 4 * k) = y) → F_X11_mayLie_j56 s (F_X11_mayLie_l3 s m) x y (g : Int) (k : Int) = some (v_b (v_ml (s.1 65) x y n g)) := fun hne => by
      have := ih (k + 1) m (by omega) (by omega) (v_ml_s hl (fun a b => absurd ⟨a, b⟩ hne))
      unfold F_X11_mayLie_j56 F_X11_mayLie_j84_1 F_X11_mayLie_j84_0
      rw [p2, d_b_t, if_pos rfl, if_pos rfl, hk1]
      split <;> exact this
    show F_X11_mayLie_l3_b s (F_X11_mayLie_l3 s m) _ _ _ _ = _
    unfold F_X11_mayLie_l3_b
    rw [h1, if_pos (by omega), p0, d_b_t]
    by_cases q0 : s.1 65 (299 + 4 * k) = x
    rotate_left
    · rw [if_neg q0]; exact hskip (fun e => q0 e.1)
    rw [if_pos q0, p1, d_b_t]
    by_cases q1 : s.1 65 (300 + 4 * k) = y
    rotate_left
    · rw [if_neg q1]; exact hskip (fun e => q1 e.2)
    rw [if_pos q1, p2, d_b_t, hg10]
    unfold F_X11_mayLie_j84_1 F_X11_mayLie_j84_0
    rw [if_neg (show ¬ (1 : Int) = 0 by decide), if_neg (show ¬ (1 : Int) = 0 by decide), p3, d_b_t, d_b_t, hk1]
    by_cases q2 : ((g * 10 : Nat) : Int) < s.1 65 (301 + 4 * k)
    · rw [if_pos q2]
      by_cases q3 : s.1 65 (302 + 4 * k) = 1
      · rw [if_pos q3]
        exact ih (k + 1) m (by omega) (by omega) (v_ml_s hl (fun _ _ => ⟨fun _ => q3, fun _ => q2⟩))
      · rw [if_neg q3, v_bf (fun e => q3 ((e k hkn q0 q1).1 q2))]
    · rw [if_neg q2]
      by_cases q3 : s.1 65 (302 + 4 * k) = 1
      · rw [if_pos q3, v_bf (fun e => q2 ((e k hkn q0 q1).2 q3))]
      · rw [if_neg q3]
        exact ih (k + 1) m (by omega) (by omega) (v_ml_s hl (fun _ _ => ⟨fun e => absurd e q2, fun e => absurd e q3⟩))
theorem v_lyC (h : v_gl s n) : ∀ (j k m : Nat), k + j = 10 → j < m → F_X11_layers_l27 s m x y ((v_sb (v_ml (s.1 65) x y n) k : Nat) : Int) (k : Int) = some ((v_sb (v_ml (s.1 65) x y n) 10 : Nat) : Int) := by
  have h8 := h.2.2.1
  intro j
  induction j with
  | zero =>
    intro k m hk hm
    obtain ⟨m, rfl⟩ : ∃ q, m = q + 1 := ⟨m - 1, by omega⟩
    have hk : k = 10 := by omega
    subst hk
    show F_X11_layers_l27_b s (F_X11_layers_l27 s m) _ _ _ _ = _
    unfold F_X11_layers_l27_b
    rw [if_neg (by omega)]
  | succ j ih =>
    intro k m hk hm
    obtain ⟨m, rfl⟩ : ∃ q, m = q + 1 := ⟨m - 1, by omega⟩
    have hlt : v_sb (v_ml (s.1 65) x y n) k < 2 ^ k := v_sb_lt k
    have h12 := v_2p (n := k) (by omega)
    have hr := ih (k + 1) m (by omega) (by omega)
    have hml : F_X11_mayLie s x y (k : Int) = some (v_b (v_ml (s.1 65) x y n k)) := v_mlC h (by omega) n 0 d_N (by omega) (by rw [d_N_is]; omega) (fun j hj => absurd hj (Nat.not_lt_zero j))
    show F_X11_layers_l27_b s (F_X11_layers_l27 s m) _ _ _ _ = _
    unfold F_X11_layers_l27_b
    simp only [v_sb] at hr
    rw [if_pos (by omega), hml, d_b_t, d_w_id (x := (k : Int) + 1) (by omega) (by omega)]
    by_cases q : v_ml (s.1 65) x y n k
    · rw [if_pos q] at hr
      rw [v_bt q, v_bit1_, d_b_t, v_or1 (by omega) hlt]
      exact hr
    · rw [if_neg q] at hr
      rw [v_bf q, v_bit0_, d_b_t, v_0shl (by omega), v_or0 ⟨by omega, by omega⟩]
      exact hr
theorem v_ly80 (h : v_gl s n) {K : Int → Int → Int → Int → Option Int} {k : Nat} (hk : k < n) : ∀ (j g m : Nat), g + j = 10 → j < m → F_X12_layers_l80 s K m x y ((v_sb (v_mr (s.1 65) x y k g) 10 : Nat) : Int) (k : Int) (299 + 4 * (k : Int)) (g : Int) = K x y ((v_sb (v_mr (s.1 65) x y k 10) 10 : Nat) : Int) (k : Int) := by
  obtain ⟨h1, h2, h8, h3, h4⟩ := h
  obtain ⟨h5, h6⟩ := h4 k hk
  intro j
  induction j with
  | zero =>
    intro g m hg hm
    obtain ⟨m, rfl⟩ : ∃ q, m = q + 1 := ⟨m - 1, by omega⟩
    have hg : g = 10 := by omega
    subst hg
    show F_X12_layers_l80_b s K (F_X12_layers_l80 s K m) _ _ _ _ _ _ = _
    unfold F_X12_layers_l80_b
    rw [if_neg (by omega)]
  | succ j ih =>
    intro g m hg hm
    obtain ⟨m, rfl⟩ : ∃ q, m = q + 1 := ⟨m - 1, by omega⟩
    have hr := ih (g + 1) m (by omega) (by omega)
    have hlt : v_sb (v_mr (s.1 65) x y k g) 10 < 1024 := v_sb_lt (P := v_mr (s.1 65) x y k g) 10
    have hg1 : d_w ((g : Int) + 1) = ((g + 1 : Nat) : Int) := by rw [d_w_id (by omega) (by omega)]; rfl
    have e2 : d_w (299 + 4 * (k : Int) + 2) = ((301 + 4 * k : Nat) : Int) := by rw [d_w_id (by omega) (by omega)]; omega
    have e3 : d_w (299 + 4 * (k : Int) + 3) = ((302 + 4 * k : Nat) : Int) := by rw [d_w_id (by omega) (by omega)]; omega
    have e10 : d_w (10 * (g : Int)) = ((g * 10 : Nat) : Int) := by rw [d_w_id (by omega) (by omega)]; omega
    have keep : (((g * 10 : Nat) : Int) < s.1 65 (301 + 4 * k) ↔ s.1 65 (302 + 4 * k) = 1) → v_sb (v_mr (s.1 65) x y k g) 10 = v_sb (v_mr (s.1 65) x y k (g + 1)) 10 := fun hh => v_sb_cg 10 (fun i _ => ⟨fun e => ⟨e.1, fun hi => by
      by_cases q : i = g
      · rw [q]; exact hh
      · exact e.2 (by omega)⟩, fun e => ⟨e.1, fun hi => e.2 (by omega)⟩⟩)
    have drop : ¬ (((g * 10 : Nat) : Int) < s.1 65 (301 + 4 * k) ↔ s.1 65 (302 + 4 * k) = 1) → d_and ((v_sb (v_mr (s.1 65) x y k g) 10 : Nat) : Int) (d_xor (d_shl 1 (g : Int)) (-1)) = ((v_sb (v_mr (s.1 65) x y k (g + 1)) 10 : Nat) : Int) := fun hh => by
      rw [v_rmb _ hlt g (by omega), v_sb_rm (Q := v_mr (s.1 65) x y k (g + 1)) (fun i _ => ⟨fun e => ⟨⟨e.1, fun hi => e.2 (by omega)⟩, fun q => hh (by have := e.2 (by omega); rw [q] at this; exact this)⟩, fun e => ⟨e.1.1, fun hi => e.1.2 (by have := e.2; omega)⟩⟩)]
    show F_X12_layers_l80_b s K (F_X12_layers_l80 s K m) _ _ _ _ _ _ = _
    unfold F_X12_layers_l80_b
    rw [if_pos (by omega), e2, e3, e10, d_g_t (by omega), d_g_t (by omega), d_g_t (by omega), Int.toNat_natCast, Int.toNat_natCast, hg1]
    by_cases q2 : ((g * 10 : Nat) : Int) < s.1 65 (301 + 4 * k)
    · rw [if_pos q2]
      by_cases q3 : s.1 65 (302 + 4 * k) = 1
      · rw [if_pos (by omega), keep ⟨fun _ => q3, fun _ => q2⟩]; exact hr
      · rw [if_neg (by omega), d_l_t, drop (fun e => q3 (e.1 q2))]; exact hr
    · rw [if_neg q2]
      by_cases q3 : s.1 65 (302 + 4 * k) = 1
      · rw [if_neg (by omega), d_l_t, drop (fun e => q2 (e.2 q3))]; exact hr
      · rw [if_pos (by omega), keep ⟨fun e => absurd e q2, fun e => absurd e q3⟩]; exact hr
theorem v_lyR (h : v_gl s n) : ∀ (j k m : Nat), k + j = n → j < m → F_X12_layers_l29 s m x y ((v_sb (v_ml (s.1 65) x y k) 10 : Nat) : Int) (k : Int) = some ((v_sb (v_ml (s.1 65) x y n) 10 : Nat) : Int) := by
  have h' := h
  obtain ⟨h1, h2, h8, h3, h4⟩ := h'
  intro j
  induction j with
  | zero =>
    intro k m hk hm
    obtain ⟨m, rfl⟩ : ∃ q, m = q + 1 := ⟨m - 1, by omega⟩
    have hk : k = n := by omega
    subst hk
    show F_X12_layers_l29_b s (F_X12_layers_l29 s m) _ _ _ _ = _
    unfold F_X12_layers_l29_b
    rw [h2, if_neg (by omega)]
  | succ j ih =>
    intro k m hk hm
    obtain ⟨m, rfl⟩ : ∃ q, m = q + 1 := ⟨m - 1, by omega⟩
    have hkn : k < n := by omega
    have hr := ih (k + 1) m (by omega) (by omega)
    have hk1 : d_w ((k : Int) + 1) = ((k + 1 : Nat) : Int) := by rw [d_w_id (by omega) (by omega)]; rfl
    have e0 : d_w (299 + 4 * (k : Int)) = 299 + 4 * (k : Int) := d_w_id (by omega) (by omega)
    have e1 : d_w (299 + 4 * (k : Int) + 1) = 299 + 4 * (k : Int) + 1 := d_w_id (by omega) (by omega)
    have skip : ¬ (s.1 65 (299 + 4 * k) = x ∧ s.1 65 (300 + 4 * k) = y) → v_sb (v_ml (s.1 65) x y k) 10 = v_sb (v_ml (s.1 65) x y (k + 1)) 10 := fun hh => v_sb_cg 10 (fun i _ => ⟨fun e => v_ml_s e (fun a b => absurd ⟨a, b⟩ hh), fun e j hj => e j (by omega)⟩)
    show F_X12_layers_l29_b s (F_X12_layers_l29 s m) _ _ _ _ = _
    unfold F_X12_layers_l29_b
    rw [h2, if_pos (by omega), e0, e1, d_g_t (by omega), d_g_t (by omega), show (299 + 4 * (k : Int)).toNat = 299 + 4 * k by omega, show (299 + 4 * (k : Int) + 1).toNat = 300 + 4 * k by omega, hk1]
    by_cases q0 : s.1 65 (299 + 4 * k) = x
    rotate_left
    · rw [if_neg q0, skip (fun e => q0 e.1)]; exact hr
    rw [if_pos q0]
    by_cases q1 : s.1 65 (300 + 4 * k) = y
    rotate_left
    · rw [if_neg q1, skip (fun e => q1 e.2)]; exact hr
    rw [if_pos q1, show v_sb (v_ml (s.1 65) x y k) 10 = v_sb (v_mr (s.1 65) x y k 0) 10 from v_sb_cg 10 (fun i _ => ⟨fun e => ⟨e, fun hi => absurd hi (Nat.not_lt_zero i)⟩, fun e => e.1⟩)]
    refine (v_ly80 h hkn 10 0 d_N rfl (by rw [d_N_is]; decide)).trans ?_
    show F_X12_layers_l29 s m x y _ (d_w ((k : Int) + 1)) = _
    rw [hk1, show v_sb (v_mr (s.1 65) x y k 10) 10 = v_sb (v_ml (s.1 65) x y (k + 1)) 10 from v_sb_cg 10 (fun i hi => ⟨fun e => v_ml_s e.1 (fun _ _ => e.2 hi), fun e => ⟨fun j hj => e j (by omega), fun _ => e k (by omega) q0 q1⟩⟩)]
    exact hr
theorem R_layers (h : v_R t s) {x y : Int} : v_AP (F_X11_layers s x y) (F_X12_layers s x y) := by
  obtain ⟨n, hn⟩ := h.glasses
  have h8 := hn.2.2.1
  unfold v_AP F_X11_layers F_X12_layers
  rw [P_within, P_isIn, d_b_t, d_b_t]
  by_cases c : 0 ≤ x ∧ x ≤ 9
  rotate_left
  · rw [v_bf c]; exact ⟨-1, rfl, rfl⟩
  rw [v_bt c, if_neg (show ¬ (1 : Int) = 0 by decide), if_neg (show ¬ (1 : Int) = 0 by decide), P_within, P_isIn, d_b_t, d_b_t]
  by_cases c2 : 0 ≤ y ∧ y ≤ 63
  rotate_left
  · rw [v_bf c2]; exact ⟨-1, rfl, rfl⟩
  rw [v_bt c2, if_neg (show ¬ (1 : Int) = 0 by decide), if_neg (show ¬ (1 : Int) = 0 by decide)]
  have a1 := v_lyC (x := x) (y := y) hn 10 0 d_N rfl (by rw [d_N_is]; decide)
  have a2 := v_lyR (x := x) (y := y) hn n 0 d_N (by omega) (by rw [d_N_is]; omega)
  rw [show v_sb (v_ml (s.1 65) x y 0) 10 = 1023 from (v_sb_cg (Q := fun _ => True) 10 (fun i _ => ⟨fun _ => trivial, fun _ j hj => absurd hj (Nat.not_lt_zero j)⟩)).trans (by decide)] at a2
  exact ⟨_, a1, a2⟩
end V41

def v_hb (B : Nat → Int) (w : Nat) : Nat → Int
  | 0 => 0
  | k + 1 => if k = w then v_hb B w k else max (v_hb B w k) (B k)
def v_wn (B : Nat → Int) (n r : Nat) : Prop := r < n ∧ (∀ j, j < n → B j ≤ B r) ∧ ∀ j, j < r → B j < B r
section V43
variable {s : d_S} {t : Nat → Option p_C} {n : Nat} {B : Nat → Int}
theorem v_hb_up {w : Nat} : ∀ k j, j < k → ¬ j = w → B j ≤ v_hb B w k := by
  intro k
  induction k with
  | zero => intro j hj; exact absurd hj (Nat.not_lt_zero j)
  | succ k ih =>
    intro j hj hw
    simp only [v_hb]
    by_cases q : j = k
    · rw [q] at hw ⊢
      rw [if_neg hw]; omega
    · have := ih j (by omega) hw
      split <;> omega
theorem v_hb_0 {w : Nat} : ∀ k, 0 ≤ v_hb B w k := by
  intro k
  induction k with
  | zero => exact Int.le_refl 0
  | succ k ih => simp only [v_hb]; split <;> omega
theorem v_hb_at {w : Nat} : ∀ k, v_hb B w k = 0 ∨ ∃ j, j < k ∧ ¬ j = w ∧ v_hb B w k = B j := by
  intro k
  induction k with
  | zero => exact Or.inl rfl
  | succ k ih =>
    simp only [v_hb]
    by_cases q : k = w
    · rw [if_pos q]
      rcases ih with h | ⟨j, h1, h2, h3⟩
      · exact Or.inl h
      · exact Or.inr ⟨j, by omega, h2, h3⟩
    · rw [if_neg q]
      by_cases q2 : v_hb B w k ≤ B k
      · right; exact ⟨k, by omega, q, by omega⟩
      · rcases ih with h | ⟨j, h1, h2, h3⟩
        · left; omega
        · right; exact ⟨j, by omega, h2, by omega⟩
theorem v_hb_cg {B' : Nat → Int} {w : Nat} (h : ∀ j, ¬ j = w → B' j = B j) : ∀ k, v_hb B' w k = v_hb B w k := by
  intro k
  induction k with
  | zero => rfl
  | succ k ih =>
    simp only [v_hb]
    rw [ih]
    by_cases q : k = w
    · rw [if_pos q, if_pos q]
    · rw [if_neg q, if_neg q, h k q]
theorem v_hbC (h : v_bd s n B) {w : Nat} : ∀ (j k m : Nat), k + j = n → j < m → F_X11_highestBut_l4 s m (w : Int) (v_hb B w k) (k : Int) = some (v_hb B w n) := by
  obtain ⟨h1, h2, h8, h3⟩ := id h
  intro j
  induction j with
  | zero =>
    intro k m hk hm
    obtain ⟨m, rfl⟩ : ∃ q, m = q + 1 := ⟨m - 1, by omega⟩
    have hk : k = n := by omega
    subst hk
    show F_X11_highestBut_l4_b s (F_X11_highestBut_l4 s m) _ _ _ = _
    unfold F_X11_highestBut_l4_b
    rw [h1, if_neg (by omega)]
  | succ j ih =>
    intro k m hk hm
    obtain ⟨m, rfl⟩ : ∃ q, m = q + 1 := ⟨m - 1, by omega⟩
    have hkn : k < n := by omega
    have hk1 : d_w ((k : Int) + 1) = ((k + 1 : Nat) : Int) := by rw [d_w_id (by omega) (by omega)]; rfl
    have hr := ih (k + 1) m (by omega) (by omega)
    simp only [v_hb] at hr
    show F_X11_highestBut_l4_b s (F_X11_highestBut_l4 s m) _ _ _ = _
    unfold F_X11_highestBut_l4_b
    rw [h1, if_pos (by omega), hk1]
    by_cases q : k = w
    · rw [if_pos q] at hr
      rw [if_pos (by omega)]; exact hr
    · rw [if_neg q] at hr
      rw [if_neg (by omega), P_part14 h hkn, d_b_t, P_max, d_b_t]; exact hr
def v_rb (s : d_S) (n : Nat) (B : Nat → Int) : Prop := s.1 65 6 = n ∧ n ≤ 8 ∧ ∀ j, j < n → s.1 65 (331 + j) = B j ∧ 0 ≤ B j ∧ B j ≤ 999
theorem v_hbR (h : v_rb s n B) {w : Nat} : ∀ (j k m : Nat), k + j = n → j < m → F_X12_paid_l9 s m (v_hb B w k) (w : Int) (k : Int) = some (v_hb B w n) := by
  obtain ⟨h2, h8, h3⟩ := h
  intro j
  induction j with
  | zero =>
    intro k m hk hm
    obtain ⟨m, rfl⟩ : ∃ q, m = q + 1 := ⟨m - 1, by omega⟩
    have hk : k = n := by omega
    subst hk
    show F_X12_paid_l9_b s (F_X12_paid_l9 s m) _ _ _ = _
    unfold F_X12_paid_l9_b
    rw [h2, if_neg (by omega)]
  | succ j ih =>
    intro k m hk hm
    obtain ⟨m, rfl⟩ : ∃ q, m = q + 1 := ⟨m - 1, by omega⟩
    have hkn : k < n := by omega
    have hk1 : d_w ((k : Int) + 1) = ((k + 1 : Nat) : Int) := by rw [d_w_id (by omega) (by omega)]; rfl
    have ek : d_w (331 + (k : Int)) = ((331 + k : Nat) : Int) := by rw [d_w_id (by omega) (by omega)]; omega
    have hr := ih (k + 1) m (by omega) (by omega)
    simp only [v_hb] at hr
    show F_X12_paid_l9_b s (F_X12_paid_l9 s m) _ _ _ = _
    unfold F_X12_paid_l9_b
    rw [h2, if_pos (by omega), hk1]
    by_cases q : k = w
    · rw [if_pos q] at hr
      rw [if_pos (by omega)]; exact hr
    · rw [if_neg q] at hr
      rw [if_neg (by omega), ek, d_g_t (by omega), d_g_t (by omega), Int.toNat_natCast, (h3 k hkn).1, d_l_t]
      by_cases q2 : v_hb B w k < B k
      · rw [if_pos q2]
        rw [show max (v_hb B w k) (B k) = B k by omega] at hr
        exact hr
      · rw [if_neg q2]
        rw [show max (v_hb B w k) (B k) = v_hb B w k by omega] at hr
        exact hr
theorem v_wnR (h : v_rb s n B) : ∀ (j k m : Nat), k + j = n → j < m → ∀ b, v_wn B k b → ∃ r, v_wn B n r ∧ F_X12_winner_l4 s m (b : Int) (k : Int) = some (r : Int) := by
  obtain ⟨h2, h8, h3⟩ := h
  intro j
  induction j with
  | zero =>
    intro k m hk hm b hb
    obtain ⟨m, rfl⟩ : ∃ q, m = q + 1 := ⟨m - 1, by omega⟩
    have hk : k = n := by omega
    subst hk
    refine ⟨b, hb, ?_⟩
    show F_X12_winner_l4_b s (F_X12_winner_l4 s m) _ _ = _
    unfold F_X12_winner_l4_b
    rw [h2, if_neg (by omega)]
  | succ j ih =>
    intro k m hk hm b hb
    obtain ⟨m, rfl⟩ : ∃ q, m = q + 1 := ⟨m - 1, by omega⟩
    obtain ⟨b1, b2, b3⟩ := hb
    have hkn : k < n := by omega
    have hk1 : d_w ((k : Int) + 1) = ((k + 1 : Nat) : Int) := by rw [d_w_id (by omega) (by omega)]; rfl
    have eb : d_w (331 + (b : Int)) = ((331 + b : Nat) : Int) := by rw [d_w_id (by omega) (by omega)]; omega
    have ek : d_w (331 + (k : Int)) = ((331 + k : Nat) : Int) := by rw [d_w_id (by omega) (by omega)]; omega
    show ∃ r, v_wn B n r ∧ F_X12_winner_l4_b s (F_X12_winner_l4 s m) _ _ = _
    unfold F_X12_winner_l4_b
    rw [h2, if_pos (by omega), eb, ek, d_g_t (by omega), d_g_t (by omega), Int.toNat_natCast, Int.toNat_natCast, (h3 k hkn).1, (h3 b (by omega)).1, hk1]
    by_cases q : B b < B k
    · rw [if_pos q]
      refine ih (k + 1) m (by omega) (by omega) k ⟨by omega, fun j hj => ?_, fun j hj => ?_⟩
      · by_cases z : j = k
        · rw [z]; exact Int.le_refl _
        · have := b2 j (by omega); omega
      · have := b2 j (by omega); omega
    · rw [if_neg q]
      refine ih (k + 1) m (by omega) (by omega) b ⟨by omega, fun j hj => ?_, b3⟩
      by_cases z : j = k
      · rw [z]; omega
      · exact b2 j (by omega)
theorem P_wnR (h : v_rb s n B) (hn : 1 ≤ n) : ∃ r, v_wn B n r ∧ F_X12_winner s = some ((r : Nat) : Int) := by
  unfold F_X12_winner
  have h8 := h.2.1
  exact v_wnR h (n - 1) 1 d_N (by omega) (by rw [d_N_is]; omega) 0 ⟨by omega, fun j hj => by rw [show j = 0 by omega]; exact Int.le_refl _, fun j hj => absurd hj (Nat.not_lt_zero j)⟩
theorem v_wn_u {r r' : Nat} (h : v_wn B n r) (h' : v_wn B n r') : r = r' := by
  obtain ⟨a1, a2, a3⟩ := h
  obtain ⟨b1, b2, b3⟩ := h'
  by_cases q1 : r < r'
  · have := b3 r q1; have := a2 r' b1; omega
  by_cases q2 : r' < r
  · have := a3 r' q2; have := b2 r a1; omega
  omega
theorem P_paidR (h : v_rb s n B) {r : Nat} (hw : F_X12_winner s = some ((r : Nat) : Int)) : F_X12_paid s = some (v_hb B r n) := by
  unfold F_X12_paid
  rw [hw, d_b_t]
  exact v_hbR h n 0 d_N (by omega) (by rw [d_N_is]; have := h.2.1; omega)
def v_bp (B : Nat → Int) (p : Nat) (x : Int) : Nat → Int := fun j => if j = p then x else B j
def v_vl (B : Nat → Int) (n p : Nat) (zz x : Int) : Int → Prop := fun y => (v_wn (v_bp B p x) n p ∧ y = zz - v_hb B p n) ∨ (¬ v_wn (v_bp B p x) n p ∧ y = 0)
theorem v_liel {K : Int → Int → Int → Int → d_S → Option (Int × d_S)} {p : Nat} {zz x3 : Int} (hp : p < n) (hz : 0 ≤ zz ∧ zz ≤ 999) (hB : ∀ j, j < n → 0 ≤ B j ∧ B j ≤ 999) (hn8 : n ≤ 8) {A : Nat → Int} (hA6 : A 6 = n) (hA : ∀ j, j < n → A (331 + j) = B j) : ∀ (j k m : Nat), k + j = 1000 → j < m → ∀ (s : d_S) (b : Int), (∀ i, ¬ i = 331 + p → s.1 65 i = A i) → (k = 0 ∧ b = -100000 ∨ (∃ x y : Int, v_vl B n p zz x y ∧ b = y ∧ 0 ≤ x ∧ x < k) ∧ ∀ x y : Int, 0 ≤ x → x < k → v_vl B n p zz x y → y ≤ b) → ∃ (b' : Int) (s' : d_S), F_X12_lies_l58 K m (p : Int) zz x3 b (k : Int) s = K (p : Int) zz x3 b' s' ∧ (∀ i, ¬ i = 331 + p → s'.1 65 i = A i) ∧ (∀ a, a ≠ 65 → s'.1 a = s.1 a) ∧ s'.2 = s.2 ∧ (∃ x y : Int, v_vl B n p zz x y ∧ b' = y ∧ 0 ≤ x ∧ x < 1000) ∧ ∀ x y : Int, 0 ≤ x → x < 1000 → v_vl B n p zz x y → y ≤ b' := by
  have hM0 := v_hb_0 (B := B) (w := p) n
  have hM9 : v_hb B p n ≤ 999 := by
    rcases v_hb_at (B := B) (w := p) n with h | ⟨j, h1, h2, h3⟩
    · omega
    · rw [h3]; exact (hB j h1).2
  intro j
  induction j with
  | zero =>
    intro k m hk hm s b hs hb
    obtain ⟨m, rfl⟩ : ∃ q, m = q + 1 := ⟨m - 1, by omega⟩
    have hk : k = 1000 := by omega
    subst hk
    rcases hb with ⟨hb, -⟩ | ⟨hb1, hb2⟩
    · omega
    refine ⟨b, s, ?_, hs, fun _ _ => rfl, rfl, hb1, hb2⟩
    show F_X12_lies_l58_b K (F_X12_lies_l58 K m) _ _ _ _ _ s = _
    unfold F_X12_lies_l58_b
    rw [if_pos (by omega)]
  | succ j ih =>
    intro k m hk hm s b hs hb
    obtain ⟨m, rfl⟩ : ∃ q, m = q + 1 := ⟨m - 1, by omega⟩
    have ep : d_w (331 + (p : Int)) = ((331 + p : Nat) : Int) := by rw [d_w_id (by omega) (by omega)]; omega
    have hk1 : d_w ((k : Int) + 1) = ((k + 1 : Nat) : Int) := by rw [d_w_id (by omega) (by omega)]; rfl
    obtain ⟨s7, hs7⟩ : ∃ q, q = d_si s 65 (331 + p) (k : Int) := ⟨_, rfl⟩
    have h7 : ∀ i, ¬ i = 331 + p → s7.1 65 i = A i := fun i hi => by rw [hs7, d_si_i, d_u_n hi]; exact hs i hi
    have h7o : ∀ a, a ≠ 65 → s7.1 a = s.1 a := fun a ha => by rw [hs7, d_si_n ha]
    have hrb : v_rb s7 n (v_bp B p (k : Int)) := ⟨by rw [h7 6 (by omega)]; exact hA6, hn8, fun j hj => by
      unfold v_bp
      by_cases q : j = p
      · rw [if_pos q, q, hs7, d_si_i, d_u_t]; omega
      · rw [if_neg q, h7 _ (by omega), hA j hj]; exact ⟨rfl, hB j hj⟩⟩
    obtain ⟨r, r1, r2⟩ := P_wnR hrb (by omega)
    have hcg := v_hb_cg (B := B) (B' := v_bp B p (k : Int)) (w := p) (fun j hj => if_neg hj) n
    
    have next : ∀ y, v_vl B n p zz (k : Int) y → (∃ x y' : Int, v_vl B n p zz x y' ∧ max b y = y' ∧ 0 ≤ x ∧ x < ((k + 1 : Nat) : Int)) ∧ ∀ x y' : Int, 0 ≤ x → x < ((k + 1 : Nat) : Int) → v_vl B n p zz x y' → y' ≤ max b y := fun y hy => by
      have hy2 : -1000 ≤ y := by
        rcases hy with ⟨-, e⟩ | ⟨-, e⟩ <;> omega
      have hu : ∀ y', v_vl B n p zz (k : Int) y' → y' = y := fun y' hy' => by
        rcases hy with ⟨e1, e⟩ | ⟨e1, e⟩ <;> rcases hy' with ⟨f1, f⟩ | ⟨f1, f⟩
        · omega
        · exact absurd e1 f1
        · exact absurd f1 e1
        · omega
      refine ⟨?_, fun x y' h1 h2 h3 => ?_⟩
      · rcases hb with ⟨hb1, hb2⟩ | ⟨⟨x, y', g1, g2, g3, g4⟩, -⟩
        · exact ⟨(k : Int), y, hy, by omega, by omega, by omega⟩
        · by_cases q : b ≤ y
          · exact ⟨(k : Int), y, hy, by omega, by omega, by omega⟩
          · exact ⟨x, y', g1, by omega, g3, by omega⟩
      · by_cases q : x = (k : Int)
        · rw [q] at h3
          have := hu y' h3; omega
        · rcases hb with ⟨hb1, hb2⟩ | ⟨-, hb2⟩
          · omega
          · have := hb2 x y' h1 (by omega) h3; omega
    have go : ∀ y, v_vl B n p zz (k : Int) y → ∃ (b' : Int) (s' : d_S), F_X12_lies_l58 K m (p : Int) zz x3 (max b y) ((k + 1 : Nat) : Int) s7 = K (p : Int) zz x3 b' s' ∧ (∀ i, ¬ i = 331 + p → s'.1 65 i = A i) ∧ (∀ a, a ≠ 65 → s'.1 a = s.1 a) ∧ s'.2 = s.2 ∧ (∃ x y : Int, v_vl B n p zz x y ∧ b' = y ∧ 0 ≤ x ∧ x < 1000) ∧ ∀ x y : Int, 0 ≤ x → x < 1000 → v_vl B n p zz x y → y ≤ b' := fun y hy => by
      obtain ⟨n1, n2⟩ := next y hy
      obtain ⟨b', s', c1, c2, c3, c4, c5, c6⟩ := ih (k + 1) m (by omega) (by omega) s7 (max b y) h7 (Or.inr ⟨n1, n2⟩)
      exact ⟨b', s', c1, c2, fun a ha => (c3 a ha).trans (h7o a ha), c4.trans (by rw [hs7]; rfl), c5, c6⟩
    show ∃ (b' : Int) (s' : d_S), F_X12_lies_l58_b K (F_X12_lies_l58 K m) _ _ _ _ _ s = _ ∧ _
    unfold F_X12_lies_l58_b
    rw [if_neg (by omega), ep, d_g_t (by omega), Int.toNat_natCast, d_l_t, ← hs7, r2, d_b_t, hk1]
    by_cases q : r = p
    · subst q
      rw [if_pos rfl, P_paidR hrb r2, d_b_t, hcg, d_w_id (by omega) (by omega)]
      obtain ⟨b', s', c1, c2⟩ := go (zz - v_hb B r n) (Or.inl ⟨r1, rfl⟩)
      refine ⟨b', s', ?_, c2⟩
      by_cases q2 : b < zz - v_hb B r n
      · rw [if_pos q2]
        rw [show max b (zz - v_hb B r n) = zz - v_hb B r n by omega] at c1
        exact c1
      · rw [if_neg q2]
        rw [show max b (zz - v_hb B r n) = b by omega] at c1
        exact c1
    · rw [if_neg (by omega)]
      obtain ⟨b', s', c1, c2⟩ := go 0 (Or.inr ⟨fun e => q (v_wn_u r1 e), rfl⟩)
      refine ⟨b', s', ?_, c2⟩
      by_cases q2 : b < 0
      · rw [if_pos q2]
        rw [show max b 0 = 0 by omega] at c1
        exact c1
      · rw [if_neg q2]
        rw [show max b 0 = b by omega] at c1
        exact c1
end V43

def v_u (A : Nat → Int) : Nat := (A 14).toNat
def v_v (A : Nat → Int) : Nat := (A 15).toNat
def v_wi (A : Nat → Int) : Nat := (A 16).toNat
def v_hi (A : Nat → Int) : Nat := (A 17).toNat
def v_nS (A : Nat → Int) : Nat := (A 0).toNat
def v_sg (A : Nat → Int) (n k : Nat) : Nat := (A (212 + 6 * n + k)).toNat
def v_st (A : Nat → Int) (b : Nat) : Nat := (A (20 + 3 * b)).toNat
def v_me (A : Nat → Int) (b : Nat) : Nat := (A (21 + 3 * b)).toNat
def v_so (A : Nat → Int) (b : Nat) : Nat := (A (22 + 3 * b)).toNat
def v_Ip (A : Nat → Int) : Prop := (1 ≤ A 16 ∧ A 16 ≤ 8) ∧ (1 ≤ A 17 ∧ A 17 ≤ 8) ∧ (A 18 = 0 ∨ A 18 = 1) ∧ (A 18 = 0 → A 16 = 1 ∧ A 17 = 1) ∧ (0 ≤ A 0 ∧ A 0 ≤ 12) ∧ ∀ n : Nat, (n : Int) < A 0 → (∀ k, k < 6 → 0 ≤ A (212 + 6 * n + k) ∧ A (212 + 6 * n + k) ≤ 9) ∧ (1 ≤ A (212 + 6 * n + 3) ∧ A (212 + 6 * n + 3) ≤ 3) ∧ (1 ≤ A (212 + 6 * n + 4) ∧ A (212 + 6 * n + 4) ≤ 3) ∧ A (212 + 6 * n + 1) + A (212 + 6 * n + 3) ≤ A 16 ∧ A (212 + 6 * n + 2) + A (212 + 6 * n + 4) ≤ A 17
def v_Ib (A : Nat → Int) : Prop := ∀ b, b < 64 → (0 ≤ A (20 + 3 * b) ∧ A (20 + 3 * b) ≤ 9) ∧ (0 ≤ A (21 + 3 * b) ∧ A (21 + 3 * b) ≤ 100) ∧ (0 ≤ A (22 + 3 * b) ∧ A (22 + 3 * b) ≤ 1)
def v_It (A : Nat → Int) : Prop := (0 ≤ A 1 ∧ A 1 ≤ 4) ∧ (-1 ≤ A 2 ∧ A 2 < A 1) ∧ (0 ≤ A 4 ∧ A 4 ≤ 5) ∧ (0 ≤ A 5 ∧ A 5 ≤ 8) ∧ (0 ≤ A 6 ∧ A 6 ≤ 8) ∧ (0 ≤ A 7 ∧ A 7 ≤ 8) ∧ (0 ≤ A 8 ∧ A 8 ≤ 8) ∧
  (∀ j : Nat, (j : Int) < A 4 → (0 ≤ A (284 + 3 * j) ∧ A (284 + 3 * j) ≤ 9) ∧ (0 ≤ A (285 + 3 * j) ∧ A (285 + 3 * j) ≤ 999) ∧ (1 ≤ A (286 + 3 * j) ∧ A (286 + 3 * j) ≤ 99)) ∧
  (∀ j : Nat, (j : Int) < A 5 → (0 ≤ A (299 + 4 * j) ∧ A (299 + 4 * j) ≤ 9) ∧ (0 ≤ A (300 + 4 * j) ∧ A (300 + 4 * j) ≤ 63) ∧ (0 ≤ A (301 + 4 * j) ∧ A (301 + 4 * j) ≤ 100) ∧ (A (302 + 4 * j) = 0 ∨ A (302 + 4 * j) = 1)) ∧
  (∀ j : Nat, (j : Int) < A 6 → 0 ≤ A (331 + j) ∧ A (331 + j) ≤ 999) ∧
  (∀ j : Nat, (j : Int) < A 7 → (0 ≤ A (339 + 2 * j) ∧ A (339 + 2 * j) ≤ 999) ∧ (0 ≤ A (340 + 2 * j) ∧ A (340 + 2 * j) ≤ 100)) ∧
  ∀ j : Nat, (j : Int) < A 8 → (0 ≤ A (355 + 4 * j) ∧ A (355 + 4 * j) ≤ 63) ∧ (0 ≤ A (356 + 4 * j) ∧ A (356 + 4 * j) ≤ 9) ∧ (0 ≤ A (357 + 4 * j) ∧ A (357 + 4 * j) ≤ 9) ∧ (0 ≤ A (358 + 4 * j) ∧ A (358 + 4 * j) ≤ 100)
def v_I (A : Nat → Int) : Prop := v_Ip A ∧ v_Ib A ∧ v_It A ∧ v_yb (fun k => A (9 + k)) (v_wi A) (v_hi A)
def v_Wp (f : Nat → Nat → Int) (o : Nat) (A : Nat → Int) : Prop := (f (3 + o) 0 = A 16 ∧ f (3 + o) 1 = A 17 ∧ f (3 + o) 2 = A 18 ∧ f (3 + o) 3 = A 0 ∧ f (3 + o) 5 = A 1 ∧ f (3 + o) 6 = A 2) ∧ ∀ n k : Nat, (n : Int) < A 0 → k < 6 → f (4 + o) (6 * n + k) = A (212 + 6 * n + k)
def v_Wy (f : Nat → Nat → Int) (o : Nat) (A : Nat → Int) : Prop := (∀ i, i < 7 → f (6 + o) i = A (9 + v_mu i)) ∧ ∀ b, b < 64 → f (7 + o) b = A (20 + 3 * b) + 16 * A (21 + 3 * b) + 2048 * A (22 + 3 * b)
def v_Ws (f : Nat → Nat → Int) (o : Nat) (A : Nat → Int) : Prop := ∃ n c : Nat, f (8 + o) 1 = n ∧ f (8 + o) 2 = c ∧ v_Sx (f (9 + o)) n c A (v_wi A) (v_hi A)
def v_Wt (f : Nat → Nat → Int) (o : Nat) (A : Nat → Int) : Prop := (f (10 + o) 0 = 5 ∧ f (12 + o) 0 = 8 ∧ f (14 + o) 0 = 8 ∧ f (16 + o) 0 = 8 ∧ f (18 + o) 0 = 8) ∧ (f (10 + o) 2 = A 4 ∧ ∀ j i : Nat, (j : Int) < A 4 → i < 3 → f (11 + o) (4 * j + i) = A (284 + 3 * j + i)) ∧ (f (12 + o) 2 = A 5 ∧ ∀ j i : Nat, (j : Int) < A 5 → i < 4 → f (13 + o) (4 * j + i) = A (299 + 4 * j + i)) ∧ (f (14 + o) 2 = A 6 ∧ ∀ j : Nat, (j : Int) < A 6 → f (15 + o) (4 * j) = A (331 + j)) ∧ (f (16 + o) 2 = A 7 ∧ ∀ j i : Nat, (j : Int) < A 7 → i < 2 → f (17 + o) (4 * j + i) = A (339 + 2 * j + i)) ∧ (f (18 + o) 2 = A 8 ∧ ∀ j i : Nat, (j : Int) < A 8 → i < 4 → f (19 + o) (4 * j + i) = A (355 + 4 * j + i))
def v_W (f : Nat → Nat → Int) (o : Nat) (A : Nat → Int) : Prop := v_Wp f o A ∧ v_Wy f o A ∧ v_Ws f o A ∧ v_Wt f o A
def v_sx (w : Nat) : Nat := [0, 1, 2, 3, 4, 5, 6, 9, 7, 8].getD w 0
def v_np (w : Nat) : Nat := [0, 0, 0, 2, 6, 1, 1, 1, 2, 1].getD w 0
abbrev v_TR : Type := Nat × (Nat → Nat) × (Nat → Nat → Int) × v_LR
def v_TC (t : Nat → Option p_C) (b : Nat) (r : v_TR) : Prop := d_Tx t b ∧ d_tfi t b 3 = some (r.1 : Int) ∧ r.1 ≤ 24 ∧ (∀ s : d_S, ∀ c, c < r.1 → r.2.1 c ≤ 9 ∧ F_X7_part t s b (c : Int) 0 = some ((r.2.1 c : Nat) : Int) ∧ ∀ i : Nat, 1 ≤ i → i < 7 → ∃ y, F_X7_part t s b (c : Int) (i : Int) = some y ∧ (i ≤ v_np (r.2.1 c) → y = r.2.2.1 c i ∧ 0 ≤ y ∧ y ≤ 99)) ∧ v_CT t (some b) r.2.2.2
def v_TD (T : Nat → Int) (k : Nat) (r : v_TR) : Prop := T (777 * k) = (r.1 : Int) ∧ (∀ c, c < r.1 → T (777 * k + 1 + 7 * c) = ((v_sx (r.2.1 c) : Nat) : Int) ∧ ∀ i : Nat, 1 ≤ i → i ≤ v_np (r.2.1 c) → T (777 * k + 1 + 7 * c + i) = r.2.2.1 c i) ∧ v_RT T (k : Int) r.2.2.2
def v_Xt (t : Nat → Option p_C) (s : d_S) : Prop := ∃ r : Nat → v_TR, (∀ k : Nat, (k : Int) < s.1 65 1 → v_TD (s.1 67) k (r k) ∧ ∃ b, s.2.1 5 k = some b ∧ v_TC t b (r k)) ∧ ∀ k : Nat, (k : Int) < s.1 66 1 → ∃ b, s.2.1 22 k = some b ∧ v_TC t b (r k)
def v_Xr (s : d_S) : Prop := s.1 43 1 = s.1 64 4 ∧ (0 ≤ s.1 64 4 ∧ s.1 64 4 ≤ 300) ∧ (∀ i, i < 300 → s.1 44 i % 256 = s.1 68 i) ∧ s.1 43 2 = s.1 64 5 ∧ s.1 43 3 = s.1 64 6
def v_R (t : Nat → Option p_C) (s : d_S) : Prop := v_W s.1 0 (s.1 65) ∧ v_I (s.1 65) ∧ v_W s.1 17 (s.1 66) ∧ v_I (s.1 66) ∧ s.1 66 1 ≤ s.1 65 1 ∧ v_Q s (v_u (s.1 65)) (v_v (s.1 65)) (v_wi (s.1 65)) (v_hi (s.1 65)) ∧ v_Xt t s ∧ (v_Nm (s.1 49) ∧ v_Nm (s.1 71)) ∧ v_Xr s
section V14
variable {A : Nat → Int} {f : Nat → Nat → Int} {s : d_S} {t : Nat → Option p_C}
theorem v_I.G (h : v_I A) : v_G A (v_u A) (v_v A) (v_wi A) (v_hi A) := by
  obtain ⟨⟨h1, h2, -⟩, -, -, -, -, -, -, u, v, e5, e6, hu, hv, hu2, hv2⟩ := h
  have e5 : A 14 = u := e5
  have e6 : A 15 = v := e6
  have z5 : v_u A = u := by unfold v_u; rw [e5]; rfl
  have z6 : v_v A = v := by unfold v_v; rw [e6]; rfl
  refine ⟨⟨by rw [z5]; exact e5, by rw [z6]; exact e6, by unfold v_wi; omega, by unfold v_hi; omega⟩, by rw [z5]; exact hu, by rw [z6]; exact hv, by unfold v_wi; omega, by unfold v_hi; omega, by rw [z5]; exact hu2, by rw [z6]; exact hv2⟩
theorem v_I.Z (h : v_I A) : v_Z A (v_nS A) (v_sg A) := by
  obtain ⟨⟨-, -, -, -, h0, h1⟩, -⟩ := h
  refine ⟨by unfold v_nS; omega, by unfold v_nS; omega, fun n hn k hk => ?_⟩
  have := (h1 n (by unfold v_nS at hn; omega)).1 k hk
  exact ⟨by unfold v_sg; omega, by unfold v_sg; omega⟩
theorem v_I.B (h : v_I A) : v_B A (v_st A) (v_me A) (v_so A) := by
  intro b hb
  obtain ⟨h1, h2, h3⟩ := h.2.1 b hb
  exact ⟨⟨by unfold v_st; omega, by unfold v_me; omega, by unfold v_so; omega⟩, by unfold v_st; omega, by unfold v_me; omega, by unfold v_so; omega⟩
theorem v_I.bb (h : v_I A) : v_bb (v_st A) (v_me A) (v_so A) := fun b hb => (h.B b hb).2
theorem v_W.M (h : v_W s.1 0 A) (hI : v_I A) : v_M s (v_st A) (v_me A) (v_so A) := by
  intro b hb
  obtain ⟨⟨b1, b2, b3⟩, b4⟩ := hI.B b hb
  refine ⟨?_, b4⟩
  have := h.2.1.2 b hb
  rw [b1, b2, b3] at this
  have e : s.1 7 b = _ := this
  rw [e]; omega
theorem v_W.S (h : v_W s.1 0 A) (hI : v_I A) : v_S s (v_nS A) (v_sg A) := by
  obtain ⟨z0, z1, z2⟩ := hI.Z
  obtain ⟨⟨-, -, -, h3, -⟩, h4⟩ := h.1
  refine ⟨(show s.1 3 3 = A 0 from h3).trans z0, z1, fun n hn k hk => ?_⟩
  obtain ⟨y1, y2⟩ := z2 n hn k hk
  exact ⟨(show s.1 4 (6 * n + k) = A (212 + 6 * n + k) from h4 n k (by omega) hk).trans y1, y2⟩
theorem v_W.C (h : v_W s.1 0 A) (hI : v_I A) : v_C s (v_u A) (v_v A) (v_wi A) (v_hi A) := by
  obtain ⟨⟨a, b, c, d⟩, r⟩ := hI.G
  obtain ⟨⟨w1, w2, -⟩, -⟩ := h.1
  have y0 : s.1 6 0 = A 14 := h.2.1.1 0 (by decide)
  have y1 : s.1 6 1 = A 15 := h.2.1.1 1 (by decide)
  exact ⟨⟨y0.trans a, y1.trans b, (show s.1 3 0 = A 16 from w1).trans c, (show s.1 3 1 = A 17 from w2).trans d⟩, r⟩
theorem v_W.Y (h : v_W s.1 0 A) (hI : v_I A) : v_Y s (A 9) (A 10) (A 13) := by
  have y3 : s.1 6 3 = A 9 := h.2.1.1 3 (by decide)
  have y4 : s.1 6 4 = A 10 := h.2.1.1 4 (by decide)
  have y6 : s.1 6 6 = A 13 := h.2.1.1 6 (by decide)
  obtain ⟨b0, b1, b3, b4, -⟩ := hI.2.2.2
  exact ⟨⟨y3, y4, y6⟩, b0, b1, b4⟩
theorem P_textAt {x : Int} (h5 : s.1 3 5 = A 1) (h1 : 0 ≤ A 1 ∧ A 1 ≤ 4) : F_X9_textAt_3 s x = some (if 0 ≤ x ∧ x < A 1 then s.2.1 5 x.toNat else none) := by
  unfold F_X9_textAt_3 F_X9_textAt_3_j30
  rw [h5]
  by_cases q : x < 0
  · rw [if_pos q, if_neg (by omega)]
  · rw [if_neg q]
    by_cases q2 : x < A 1
    · rw [if_pos q2, if_pos (by omega), d_g_t (by omega), if_pos (by omega)]
    · rw [if_neg q2, if_neg (by omega)]
theorem v_R.rule (h : v_R t s) : ∃ (e : Option Nat) (L : v_LR), F_X9_ruler_3 s = some e ∧ v_CT t e L ∧ v_RT (s.1 67) (s.1 65 2) L := by
  obtain ⟨hW, hI, -, -, -, -, ⟨r, hr, -⟩, -⟩ := h
  obtain ⟨⟨-, -, -, -, w5, w6⟩, -⟩ := hW.1
  have w5 : s.1 3 5 = s.1 65 1 := w5
  have w6 : s.1 3 6 = s.1 65 2 := w6
  obtain ⟨t1, t2, -⟩ := hI.2.2.1
  unfold F_X9_ruler_3
  rw [w6, P_textAt w5 t1, d_b_t]
  by_cases q : 0 ≤ s.1 65 2
  · rw [if_pos (by omega)]
    obtain ⟨h1, b, h2, h3⟩ := hr (s.1 65 2).toNat (by omega)
    refine ⟨some b, (r (s.1 65 2).toNat).2.2.2, by rw [h2], h3.2.2.2.2, ?_⟩
    have := h1.2.2
    rw [show (((s.1 65 2).toNat : Nat) : Int) = s.1 65 2 by omega] at this
    exact this
  · rw [if_neg (by omega)]
    refine ⟨none, (none, none, none), rfl, rfl, ?_⟩
    rw [show s.1 65 2 = -1 by omega]
    exact v_RT_m1
end V14

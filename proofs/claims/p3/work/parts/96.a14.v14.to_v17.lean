def v_u (A : Nat → Int) : Nat := (A 14).toNat
def v_v (A : Nat → Int) : Nat := (A 15).toNat
def v_wi (A : Nat → Int) : Nat := (A 16).toNat
def v_hi (A : Nat → Int) : Nat := (A 17).toNat
def v_nS (A : Nat → Int) : Nat := (A 0).toNat
def v_sg (A : Nat → Int) (n k : Nat) : Nat := (A (212 + 6 * n + k)).toNat
def v_st (A : Nat → Int) (b : Nat) : Nat := (A (20 + 3 * b)).toNat
def v_me (A : Nat → Int) (b : Nat) : Nat := (A (21 + 3 * b)).toNat
def v_so (A : Nat → Int) (b : Nat) : Nat := (A (22 + 3 * b)).toNat
def v_Ip (A : Nat → Int) : Prop := (1 ≤ A 16 ∧ A 16 ≤ 8) ∧ (1 ≤ A 17 ∧ A 17 ≤ 8) ∧ (A 18 = 0 ∨ A 18 = 1) ∧ (A 18 = 0 → A 16 = 1 ∧ A 17 = 1) ∧ (0 ≤ A 0 ∧ A 0 ≤ 12) ∧ ∀ n : Nat, (n : Int) < A 0 → (∀ k, k < 6 → 0 ≤ A (212 + 6 * n + k) ∧ A (212 + 6 * n + k) ≤ 9) ∧ (1 ≤ A (212 + 6 * n + 3) ∧ A (212 + 6 * n + 3) ≤ 3) ∧ (1 ≤ A (212 + 6 * n + 4) ∧ A (212 + 6 * n + 4) ≤ 3) ∧ A (212 + 6 * n + 1) + A (212 + 6 * n + 3) ≤ A 16 ∧ A (212 + 6 * n + 2) + A (212 + 6 * n + 4) ≤ A 17
def v_Ib (A : Nat → Int) : Prop := ∀ b, b < 64 → (0 ≤ A (20 + 3 * b) ∧ A (20 + 3 * b) ≤ 9) ∧ (0 ≤ A (21 + 3 * b) ∧ A (21 + 3 * b) ≤ 100) ∧ (0 ≤ A (22 + 3 * b) ∧ A (22 + 3 * b) ≤ 1)
def v_It (A : Nat → Int) : Prop := (0 ≤ A 1 ∧ A 1 ≤ 4) ∧ (-1 ≤ A 2 ∧ A 2 < A 1) ∧ (0 ≤ A 4 ∧ A 4 ≤ 5) ∧ (0 ≤ A 5 ∧ A 5 ≤ 8) ∧ (0 ≤ A 6 ∧ A 6 ≤ 8) ∧ (0 ≤ A 7 ∧ A 7 ≤ 8) ∧ (0 ≤ A 8 ∧ A 8 ≤ 8) ∧
  (∀ j : Nat, (j : Int) < A 4 → (0 ≤ A (284 + 3 * j) ∧ A (284 + 3 * j) ≤ 9) ∧ (0 ≤ A (285 + 3 * j) ∧ A (285 + 3 * j) ≤ 999) ∧ (1 ≤ A (286 + 3 * j) ∧ A (286 + 3 * j) ≤ 99)) ∧
  (∀ j : Nat, (j : Int) < A 5 → (0 ≤ A (299 + 4 * j) ∧ A (299 + 4 * j) ≤ 9) ∧ (0 ≤ A (300 + 4 * j) ∧ A (300 + 4 * j) ≤ 63) ∧ (0 ≤ A (301 + 4 * j) ∧ A (301 + 4 * j) ≤ 100) ∧ (A (302 + 4 * j) = 0 ∨ A (302 + 4 * j) = 1)) ∧
  (∀ j : Nat, (j : Int) < A 6 → 0 ≤ A (331 + j) ∧ A (331 + j) ≤ 999) ∧
  (∀ j : Nat, (j : Int) < A 7 → (0 ≤ A (339 + 2 * j) ∧ A (339 + 2 * j) ≤ 999) ∧ (0 ≤ A (340 + 2 * j) ∧ A (340 + 2 * j) ≤ 100)) ∧
  ∀ j : Nat, (j : Int) < A 8 → (0 ≤ A (355 + 4 * j) ∧ A (355 + 4 * j) ≤ 63) ∧ (0 ≤ A (356 + 4 * j) ∧ A (356 + 4 * j) ≤ 9) ∧ (0 ≤ A (357 + 4 * j) ∧ A (357 + 4 * j) ≤ 9) ∧ (0 ≤ A (358 + 4 * j) ∧ A (358 + 4 * j) ≤ 100)
def v_I (A : Nat → Int) : Prop := v_Ip A ∧ v_Ib A ∧ v_It A ∧ v_yb (fun k => A (9 + k)) (v_wi A) (v_hi A)
def v_Wp (f : Nat → Nat → Int) (o : Nat) (A : Nat → Int) : Prop := (f (3 + o) 0 = A 16 ∧ f (3 + o) 1 = A 17 ∧ f (3 + o) 2 = A 18 ∧ f (3 + o) 3 = A 0 ∧ f (3 + o) 5 = A 1 ∧ f (3 + o) 6 = A 2) ∧ ∀ n k : Nat, (n : Int) < A 0 → k < 6 → f (4 + o) (6 * n + k) = A (212 + 6 * n + k)
def v_Wy (f : Nat → Nat → Int) (o : Nat) (A : Nat → Int) : Prop := (∀ i, i < 7 → f (6 + o) i = A (9 + v_mu i)) ∧ ∀ b, b < 64 → f (7 + o) b = A (20 + 3 * b) + 16 * A (21 + 3 * b) + 2048 * A (22 + 3 * b)
def v_Ws (f : Nat → Nat → Int) (o : Nat) (A : Nat → Int) : Prop := ∃ n c : Nat, f (8 + o) 1 = n ∧ f (8 + o) 2 = c ∧ v_Sx (f (9 + o)) n c A (v_wi A) (v_hi A)
def v_Wt (f : Nat → Nat → Int) (o : Nat) (A : Nat → Int) : Prop := (f (10 + o) 0 = 5 ∧ f (12 + o) 0 = 8 ∧ f (14 + o) 0 = 8 ∧ f (16 + o) 0 = 8 ∧ f (18 + o) 0 = 8) ∧ (f (10 + o) 2 = A 4 ∧ ∀ j i : Nat, (j : Int) < A 4 → i < 3 → f (11 + o) (4 * j + i) = A (284 + 3 * j + i)) ∧ (f (12 + o) 2 = A 5 ∧ ∀ j i : Nat, (j : Int) < A 5 → i < 4 → f (13 + o) (4 * j + i) = A (299 + 4 * j + i)) ∧ (f (14 + o) 2 = A 6 ∧ ∀ j : Nat, (j : Int) < A 6 → f (15 + o) (4 * j) = A (331 + j)) ∧ (f (16 + o) 2 = A 7 ∧ ∀ j i : Nat, (j : Int) < A 7 → i < 2 → f (17 + o) (4 * j + i) = A (339 + 2 * j + i)) ∧ (f (18 + o) 2 = A 8 ∧ ∀ j i : Nat, (j : Int) < A 8 → i < 4 → f (19 + o) (4 * j + i) = A (355 + 4 * j + i))
def v_W (f : Nat → Nat → Int) (o : Nat) (A : Nat → Int) : Prop := v_Wp f o A ∧ v_Wy f o A ∧ v_Ws f o A ∧ v_Wt f o A
def v_sx (w : Nat) : Nat := [0, 1, 2, 3, 4, 5, 6, 9, 7, 8].getD w 0
def v_np (w : Nat) : Nat := [0, 0, 0, 2, 6, 1, 1, 1, 2, 1].getD w 0
abbrev v_TR : Type := Nat × (Nat → Nat) × (Nat → Nat → Int) × v_LR
def v_TC (t : Nat → Option p_C) (b : Nat) (r : v_TR) : Prop := d_Tx t b ∧ d_tfi t b 3 = some (r.1 : Int) ∧ r.1 ≤ 24 ∧ (∀ s : d_S, ∀ c, c < r.1 → r.2.1 c ≤ 9 ∧ F_X7_part t s b (c : Int) 0 = some ((r.2.1 c : Nat) : Int) ∧ ∀ i : Nat, 1 ≤ i → i < 7 → ∃ y, F_X7_part t s b (c : Int) (i : Int) = some y ∧ (i ≤ v_np (r.2.1 c) → y = r.2.2.1 c i ∧ 0 ≤ y ∧ y ≤ 99)) ∧ v_CT t (some b) r.2.2.2
def v_TD (T : Nat → Int) (k : Nat) (r : v_TR) : Prop := T (777 * k) = (r.1 : Int) ∧ (∀ c, c < r.1 → T (777 * k + 1 + 7 * c) = ((v_sx (r.2.1 c) : Nat) : Int) ∧ ∀ i : Nat, 1 ≤ i → i ≤ v_np (r.2.1 c) → T (777 * k + 1 + 7 * c + i) = r.2.2.1 c i) ∧ v_RT T (k : Int) r.2.2.2
def v_Xt (t : Nat → Option p_C) (s : d_S) : Prop := ∃ r : Nat → v_TR, (∀ k : Nat, (k : Int) < s.1 65 1 → v_TD (s.1 67) k (r k) ∧ ∃ b, s.2.1 5 k = some b ∧ v_TC t b (r k)) ∧ ∀ k : Nat, (k : Int) < s.1 66 1 → ∃ b, s.2.1 22 k = some b ∧ v_TC t b (r k)
def v_Xr (s : d_S) : Prop := s.1 43 1 = s.1 64 4 ∧ (0 ≤ s.1 64 4 ∧ s.1 64 4 ≤ 300) ∧ (∀ i, i < 300 → s.1 44 i % 256 = s.1 68 i) ∧ s.1 43 2 = s.1 64 5 ∧ s.1 43 3 = s.1 64 6
def v_R (t : Nat → Option p_C) (s : d_S) : Prop := v_W s.1 0 (s.1 65) ∧ v_I (s.1 65) ∧ v_W s.1 17 (s.1 66) ∧ v_I (s.1 66) ∧ s.1 66 1 ≤ s.1 65 1 ∧ v_Q s (v_u (s.1 65)) (v_v (s.1 65)) (v_wi (s.1 65)) (v_hi (s.1 65)) ∧ v_Xt t s ∧ (v_Nm (s.1 49) ∧ v_Nm (s.1 71)) ∧ v_Xr s
section V14
variable {A : Nat → Int} {f : Nat → Nat → Int} {s : d_S} {t : Nat → Option p_C}
theorem v_I.G (h : v_I A) : v_G A (v_u A) (v_v A) (v_wi A) (v_hi A) := by
  obtain ⟨⟨h1, h2, -⟩, -, -, -, -, -, -, u, v, e5, e6, hu, hv, hu2, hv2⟩ := h
  have e5 : A 14 = u := e5
  have e6 : A 15 = v := e6
  have z5 : v_u A = u := by unfold v_u; rw [e5]; rfl
  have z6 : v_v A = v := by unfold v_v; rw [e6]; rfl
  refine ⟨⟨by rw [z5]; exact e5, by rw [z6]; exact e6, by unfold v_wi; omega, by unfold v_hi; omega⟩, by rw [z5]; exact hu, by rw [z6]; exact hv, by unfold v_wi; omega, by unfold v_hi; omega, by rw [z5]; exact hu2, by rw [z6]; exact hv2⟩
theorem v_I.Z (h : v_I A) : v_Z A (v_nS A) (v_sg A) := by
  obtain ⟨⟨-, -, -, -, h0, h1⟩, -⟩ := h
  refine ⟨by unfold v_nS; omega, by unfold v_nS; omega, fun n hn k hk => ?_⟩
  have := (h1 n (by unfold v_nS at hn; omega)).1 k hk
  exact ⟨by unfold v_sg; omega, by unfold v_sg; omega⟩
theorem v_I.B (h : v_I A) : v_B A (v_st A) (v_me A) (v_so A) := by
  intro b hb
  obtain ⟨h1, h2, h3⟩ := h.2.1 b hb
  exact ⟨⟨by unfold v_st; omega, by unfold v_me; omega, by unfold v_so; omega⟩, by unfold v_st; omega, by unfold v_me; omega, by unfold v_so; omega⟩
theorem v_I.bb (h : v_I A) : v_bb (v_st A) (v_me A) (v_so A) := fun b hb => (h.B b hb).2
theorem v_W.M (h : v_W s.1 0 A) (hI : v_I A) : v_M s (v_st A) (v_me A) (v_so A) := by
  intro b hb
  obtain ⟨⟨b1, b2, b3⟩, b4⟩ := hI.B b hb
  refine ⟨?_, b4⟩
  have := h.2.1.2 b hb
  rw [b1, b2, b3] at this
  have e : s.1 7 b = _ := this
  rw [e]; omega
theorem v_W.S (h : v_W s.1 0 A) (hI : v_I A) : v_S s (v_nS A) (v_sg A) := by
  obtain ⟨z0, z1, z2⟩ := hI.Z
  obtain ⟨⟨-, -, -, h3, -⟩, h4⟩ := h.1
  refine ⟨(show s.1 3 3 = A 0 from h3).trans z0, z1, fun n hn k hk => ?_⟩
  obtain ⟨y1, y2⟩ := z2 n hn k hk
  exact ⟨(show s.1 4 (6 * n + k) = A (212 + 6 * n + k) from h4 n k (by omega) hk).trans y1, y2⟩
theorem v_W.C (h : v_W s.1 0 A) (hI : v_I A) : v_C s (v_u A) (v_v A) (v_wi A) (v_hi A) := by
  obtain ⟨⟨a, b, c, d⟩, r⟩ := hI.G
  obtain ⟨⟨w1, w2, -⟩, -⟩ := h.1
  have y0 : s.1 6 0 = A 14 := h.2.1.1 0 (by decide)
  have y1 : s.1 6 1 = A 15 := h.2.1.1 1 (by decide)
  exact ⟨⟨y0.trans a, y1.trans b, (show s.1 3 0 = A 16 from w1).trans c, (show s.1 3 1 = A 17 from w2).trans d⟩, r⟩
theorem v_W.Y (h : v_W s.1 0 A) (hI : v_I A) : v_Y s (A 9) (A 10) (A 13) := by
  have y3 : s.1 6 3 = A 9 := h.2.1.1 3 (by decide)
  have y4 : s.1 6 4 = A 10 := h.2.1.1 4 (by decide)
  have y6 : s.1 6 6 = A 13 := h.2.1.1 6 (by decide)
  obtain ⟨b0, b1, b3, b4, -⟩ := hI.2.2.2
  exact ⟨⟨y3, y4, y6⟩, b0, b1, b4⟩
theorem P_textAt {x : Int} (h5 : s.1 3 5 = A 1) (h1 : 0 ≤ A 1 ∧ A 1 ≤ 4) : F_X9_textAt_3 s x = some (if 0 ≤ x ∧ x < A 1 then s.2.1 5 x.toNat else none) := by
  unfold F_X9_textAt_3 F_X9_textAt_3_j30
  rw [h5]
  by_cases q : x < 0
  · rw [if_pos q, if_neg (by omega)]
  · rw [if_neg q]
    by_cases q2 : x < A 1
    · rw [if_pos q2, if_pos (by omega), d_g_t (by omega), if_pos (by omega)]
    · rw [if_neg q2, if_neg (by omega)]
theorem v_R.rule (h : v_R t s) : ∃ (e : Option Nat) (L : v_LR), F_X9_ruler_3 s = some e ∧ v_CT t e L ∧ v_RT (s.1 67) (s.1 65 2) L := by
  obtain ⟨hW, hI, -, -, -, -, ⟨r, hr, -⟩, -⟩ := h
  obtain ⟨⟨-, -, -, -, w5, w6⟩, -⟩ := hW.1
  have w5 : s.1 3 5 = s.1 65 1 := w5
  have w6 : s.1 3 6 = s.1 65 2 := w6
  obtain ⟨t1, t2, -⟩ := hI.2.2.1
  unfold F_X9_ruler_3
  rw [w6, P_textAt w5 t1, d_b_t]
  by_cases q : 0 ≤ s.1 65 2
  · rw [if_pos (by omega)]
    obtain ⟨h1, b, h2, h3⟩ := hr (s.1 65 2).toNat (by omega)
    refine ⟨some b, (r (s.1 65 2).toNat).2.2.2, by rw [h2], h3.2.2.2.2, ?_⟩
    have := h1.2.2
    rw [show (((s.1 65 2).toNat : Nat) : Int) = s.1 65 2 by omega] at this
    exact this
  · rw [if_neg (by omega)]
    refine ⟨none, (none, none, none), rfl, rfl, ?_⟩
    rw [show s.1 65 2 = -1 by omega]
    exact v_RT_m1
end V14
section V15
variable {A A' : Nat → Int} {f f' : Nat → Nat → Int} {o W H W' H' n c p j : Nat} {s s2 : d_S} {t : Nat → Option p_C} {R : Nat → Int}
theorem v_Wp.fr (h : v_Wp f o A) (h12 : A 0 ≤ 12) (e3 : f' (3 + o) = f (3 + o)) (e4 : f' (4 + o) = f (4 + o)) (hA : ∀ j, (j < 3 ∨ 16 ≤ j ∧ j ≤ 18 ∨ 212 ≤ j ∧ j < 284) → A' j = A j) : v_Wp f' o A' := by
  obtain ⟨⟨a, b, c, d, e, g⟩, h2⟩ := h
  unfold v_Wp
  rw [e3, e4, hA 16 (by decide), hA 17 (by decide), hA 18 (by decide), hA 0 (by decide), hA 1 (by decide), hA 2 (by decide)]
  refine ⟨⟨a, b, c, d, e, g⟩, fun n k hn hk => ?_⟩
  rw [hA _ (by omega)]
  exact h2 n k hn hk
theorem v_Wy.fr (h : v_Wy f o A) (e6 : f' (6 + o) = f (6 + o)) (e7 : f' (7 + o) = f (7 + o)) (hA : ∀ j, (9 ≤ j ∧ j ≤ 15 ∨ 20 ≤ j ∧ j < 212) → A' j = A j) : v_Wy f' o A' := by
  obtain ⟨h1, h2⟩ := h
  unfold v_Wy
  rw [e6, e7]
  refine ⟨fun i hi => ?_, fun b hb => ?_⟩
  · rw [hA _ (by have := v_mu7 i hi; omega)]; exact h1 i hi
  · rw [hA _ (by omega), hA _ (by omega), hA _ (by omega)]; exact h2 b hb
theorem v_yb.mono {g : Nat → Int} (h : v_yb g W H) (hW : W ≤ W') (hH : H ≤ H') : v_yb g W' H' := by
  obtain ⟨a, b, c, d, u, v, e1, e2, hu, hv, hu2, hv2⟩ := h
  exact ⟨a, b, c, d, u, v, e1, e2, hu, hv, Nat.lt_of_lt_of_le hu2 (Nat.pow_le_pow_right (by decide) (by omega)), Nat.lt_of_lt_of_le hv2 (Nat.pow_le_pow_right (by decide) (by omega))⟩
theorem v_Sx.mono (h : v_Sx R n c A W H) (hW : W ≤ W') (hH : H ≤ H') : v_Sx R n c A W' H' := by
  obtain ⟨a, b, d, e⟩ := h
  refine ⟨a, b, d, fun j hj => ?_⟩
  obtain ⟨e1, e2, e3⟩ := e j hj
  exact ⟨e1, e2.mono hW hH, e3⟩
theorem v_Ws.fr (h : v_Ws f o A) (e8 : f' (8 + o) = f (8 + o)) (e9 : f' (9 + o) = f (9 + o)) (h3 : A' 3 = A 3) (h16 : A' 16 = A 16) (h17 : A' 17 = A 17) (hA : ∀ j, 387 ≤ j → j < 2517 → A' j = A j) : v_Ws f' o A' := by
  obtain ⟨n, c, a, b, d⟩ := h
  unfold v_Ws
  rw [e8, e9]
  refine ⟨n, c, a, b, ?_⟩
  have : v_wi A' = v_wi A ∧ v_hi A' = v_hi A := by unfold v_wi v_hi; rw [h16, h17]; exact ⟨rfl, rfl⟩
  rw [this.1, this.2]
  exact d.fr h3 hA
theorem v_Wt.fr (h : v_Wt f o A) (hI : v_It A) (hf : ∀ a, 10 + o ≤ a → a ≤ 19 + o → f' a = f a) (hA : ∀ j, (4 ≤ j ∧ j ≤ 8 ∨ 284 ≤ j ∧ j < 387) → A' j = A j) : v_Wt f' o A' := by
  obtain ⟨a, ⟨b1, b2⟩, ⟨c1, c2⟩, ⟨d1, d2⟩, ⟨e1, e2⟩, g1, g2⟩ := h
  obtain ⟨-, -, i4, i5, i6, i7, i8, -⟩ := hI
  unfold v_Wt
  rw [hf _ (by omega) (by omega), hf (11 + o) (by omega) (by omega), hf (12 + o) (by omega) (by omega), hf (13 + o) (by omega) (by omega), hf (14 + o) (by omega) (by omega), hf (15 + o) (by omega) (by omega), hf (16 + o) (by omega) (by omega), hf (17 + o) (by omega) (by omega), hf (18 + o) (by omega) (by omega), hf (19 + o) (by omega) (by omega), hA 4 (by decide), hA 5 (by decide), hA 6 (by decide), hA 7 (by decide), hA 8 (by decide)]
  refine ⟨a, ⟨b1, fun j i hj hi => ?_⟩, ⟨c1, fun j i hj hi => ?_⟩, ⟨d1, fun j hj => ?_⟩, ⟨e1, fun j i hj hi => ?_⟩, g1, fun j i hj hi => ?_⟩
  · rw [hA _ (by omega)]; exact b2 j i hj hi
  · rw [hA _ (by omega)]; exact c2 j i hj hi
  · rw [hA _ (by omega)]; exact d2 j hj
  · rw [hA _ (by omega)]; exact e2 j i hj hi
  · rw [hA _ (by omega)]; exact g2 j i hj hi
theorem v_Ip.fr (h : v_Ip A) (hA : ∀ j, (j = 0 ∨ 16 ≤ j ∧ j ≤ 18 ∨ 212 ≤ j ∧ j < 284) → A' j = A j) : v_Ip A' := by
  obtain ⟨a, b, c, d, e, g⟩ := h
  unfold v_Ip
  rw [hA 0 (by decide), hA 16 (by decide), hA 17 (by decide), hA 18 (by decide)]
  refine ⟨a, b, c, d, e, fun n hn => ?_⟩
  have hA2 : ∀ k, k < 6 → A' (212 + 6 * n + k) = A (212 + 6 * n + k) := fun k hk => hA _ (by omega)
  rw [hA2 1 (by decide), hA2 2 (by decide), hA2 3 (by decide), hA2 4 (by decide)]
  obtain ⟨g1, g2⟩ := g n hn
  exact ⟨fun k hk => by rw [hA2 k hk]; exact g1 k hk, g2⟩
theorem v_Ib.fr (h : v_Ib A) (hA : ∀ j, 20 ≤ j → j < 212 → A' j = A j) : v_Ib A' := by
  intro b hb
  rw [hA _ (by omega) (by omega), hA _ (by omega) (by omega), hA _ (by omega) (by omega)]
  exact h b hb
theorem v_It.fr (h : v_It A) (hA : ∀ j, (j = 1 ∨ j = 2 ∨ 4 ≤ j ∧ j ≤ 8 ∨ 284 ≤ j ∧ j < 387) → A' j = A j) : v_It A' := by
  obtain ⟨a, b, i4, i5, i6, i7, i8, k4, k5, k6, k7, k8⟩ := h
  unfold v_It
  rw [hA 1 (by decide), hA 2 (by decide), hA 4 (by decide), hA 5 (by decide), hA 6 (by decide), hA 7 (by decide), hA 8 (by decide)]
  refine ⟨a, b, i4, i5, i6, i7, i8, fun j hj => ?_, fun j hj => ?_, fun j hj => ?_, fun j hj => ?_, fun j hj => ?_⟩
  · rw [hA _ (by omega), hA _ (by omega), hA _ (by omega)]; exact k4 j hj
  · rw [hA _ (by omega), hA _ (by omega), hA _ (by omega), hA _ (by omega)]; exact k5 j hj
  · rw [hA _ (by omega)]; exact k6 j hj
  · rw [hA _ (by omega), hA _ (by omega)]; exact k7 j hj
  · rw [hA _ (by omega), hA _ (by omega), hA _ (by omega), hA _ (by omega)]; exact k8 j hj
theorem v_W.fr (h : v_W f o A) (hf : ∀ a, 3 + o ≤ a → a ≤ 19 + o → f' a = f a) (hI : v_I A) : v_W f' o A := by
  obtain ⟨h1, h2, h3, h4⟩ := h
  exact ⟨h1.fr hI.1.2.2.2.2.1.2 (hf _ (by omega) (by omega)) (hf _ (by omega) (by omega)) (fun _ _ => rfl), h2.fr (hf _ (by omega) (by omega)) (hf _ (by omega) (by omega)) (fun _ _ => rfl), h3.fr (hf _ (by omega) (by omega)) (hf _ (by omega) (by omega)) rfl rfl rfl (fun _ _ _ => rfl), h4.fr hI.2.2.1 (fun a h1 h2 => hf a (by omega) (by omega)) (fun _ _ => rfl)⟩
theorem v_Xt.fr (h : v_Xt t s) (h1 : s2.1 65 1 = s.1 65 1) (h2 : s2.1 66 = s.1 66) (h3 : s2.1 67 = s.1 67) (h4 : s2.2.1 5 = s.2.1 5) (h5 : s2.2.1 22 = s.2.1 22) : v_Xt t s2 := by
  obtain ⟨r, a, b⟩ := h
  refine ⟨r, fun k hk => ?_, fun k hk => ?_⟩
  · rw [h1] at hk; rw [h3, h4]; exact a k hk
  · rw [h2] at hk; rw [h5]; exact b k hk
theorem v_Xr.fr (h : v_Xr s) (h43 : s2.1 43 = s.1 43) (h44 : s2.1 44 = s.1 44) (h64 : s2.1 64 = s.1 64) (h68 : s2.1 68 = s.1 68) : v_Xr s2 := by
  unfold v_Xr
  rw [h43, h44, h64, h68]; exact h
def v_cl (a : Nat) : Prop := (3 ≤ a ∧ a ≤ 5) ∨ (10 ≤ a ∧ a ≤ 36) ∨ a = 43 ∨ a = 44 ∨ a = 64 ∨ a = 66 ∨ a = 67 ∨ a = 68
theorem v_R.yard (h : v_R t s) (fc : ∀ a, v_cl a → s2.1 a = s.1 a) (fp : ∀ a, a ≠ 47 → s2.2.1 a = s.2.1 a) (fA : ∀ j, (j < 3 ∨ 4 ≤ j ∧ j ≤ 8 ∨ 16 ≤ j ∧ j ≤ 18 ∨ 212 ≤ j ∧ j < 387) → s2.1 65 j = s.1 65 j) (hWy : v_Wy s2.1 0 (s2.1 65)) (hWs : v_Ws s2.1 0 (s2.1 65)) (hIb : v_Ib (s2.1 65)) (hyb : v_yb (fun k => s2.1 65 (9 + k)) (v_wi (s.1 65)) (v_hi (s.1 65))) (hQ : v_Q s2 (v_u (s2.1 65)) (v_v (s2.1 65)) (v_wi (s2.1 65)) (v_hi (s2.1 65))) (hN : v_Nm (s2.1 49) ∧ v_Nm (s2.1 71)) : v_R t s2 := by
  obtain ⟨hW, hI, hW2, hI2, h1, -, hX, -, hr⟩ := h
  have e66 : s2.1 66 = s.1 66 := fc 66 (by unfold v_cl; omega)
  have ew : v_wi (s2.1 65) = v_wi (s.1 65) := by unfold v_wi; rw [fA 16 (by decide)]
  have eh : v_hi (s2.1 65) = v_hi (s.1 65) := by unfold v_hi; rw [fA 17 (by decide)]
  refine ⟨⟨hW.1.fr hI.1.2.2.2.2.1.2 (fc 3 (by unfold v_cl; omega)) (fc 4 (by unfold v_cl; omega)) (fun j hj => fA j (by omega)), hWy, hWs, hW.2.2.2.fr hI.2.2.1 (fun a h1 h2 => fc a (by unfold v_cl; omega)) (fun j hj => fA j (by omega))⟩, ⟨hI.1.fr (fun j hj => fA j (by omega)), hIb, hI.2.2.1.fr (fun j hj => fA j (by omega)), by rw [ew, eh]; exact hyb⟩, ?_, by rw [e66]; exact hI2, by rw [e66, fA 1 (by decide)]; exact h1, hQ, hX.fr (fA 1 (by decide)) e66 (fc 67 (by unfold v_cl; omega)) (fp 5 (by decide)) (fp 22 (by decide)), hN, hr.fr (fc 43 (by unfold v_cl; omega)) (fc 44 (by unfold v_cl; omega)) (fc 64 (by unfold v_cl; omega)) (fc 68 (by unfold v_cl; omega))⟩
  rw [e66]
  exact hW2.fr (fun a h1 h2 => fc a (by unfold v_cl; omega)) hI2
theorem v_R.scr (h : v_R t s) (fc : ∀ a, v_cl a ∨ 6 ≤ a ∧ a ≤ 9 ∨ 37 ≤ a ∧ a ≤ 42 ∨ a = 65 → s2.1 a = s.1 a) (fp : ∀ a, a ≠ 47 → s2.2.1 a = s.2.1 a) (hN : v_Nm (s2.1 49) ∧ v_Nm (s2.1 71)) : v_R t s2 := by
  have e65 : s2.1 65 = s.1 65 := fc 65 (by omega)
  have h' := h
  obtain ⟨hW, hI, -, -, -, hQ, -⟩ := h'
  refine h.yard (fun a ha => fc a (Or.inl ha)) fp (fun j _ => by rw [e65]) ?_ ?_ ?_ ?_ ?_ hN
  · rw [e65]; exact hW.2.1.fr (fc 6 (by omega)) (fc 7 (by omega)) (fun _ _ => rfl)
  · rw [e65]; exact hW.2.2.1.fr (fc 8 (by omega)) (fc 9 (by omega)) rfl rfl rfl (fun _ _ _ => rfl)
  · rw [e65]; exact hI.2.1
  · rw [e65]; exact hI.2.2.2
  · rw [e65]; exact hQ.fr (fun a h1 h2 => fc a (by omega))
end V15
def v_AA (t : Nat → Option p_C) (C : Option (Int × d_S)) (D : d_S → Option (Int × d_S)) : Prop := ∃ v s1 s2, C = some (v, s1) ∧ D s1 = some (v, s2) ∧ v_R t s2
section V16
variable {s : d_S} {t : Nat → Option p_C}
theorem v_AA.same {C : Option (Int × d_S)} {D : d_S → Option (Int × d_S)} (h : v_R t s) (v : Int) (h1 : C = some (v, s)) (h2 : D s = some (v, s)) : v_AA t C D := ⟨v, s, s, h1, h2, h⟩
theorem R_pond (h : v_R t s) {x y : Int} : v_AA t (F_X11_pond s x y) (fun s1 => F_X12_pond s1 x y) := by
  have h' := h
  obtain ⟨hW, hI, hW2, hI2, h1, hQ, hX, hN, hr⟩ := h'
  obtain ⟨⟨w0, w1, w2, w3, w5, w6⟩, w4⟩ := hW.1
  have w0 : s.1 3 0 = s.1 65 16 := w0
  have w1 : s.1 3 1 = s.1 65 17 := w1
  have w2 : s.1 3 2 = s.1 65 18 := w2
  have y0 : s.1 6 0 = s.1 65 14 := hW.2.1.1 0 (by decide)
  have y1 : s.1 6 1 = s.1 65 15 := hW.2.1.1 1 (by decide)
  obtain ⟨i16, i17, i18, i1, i0, isg⟩ := hI.1
  have hG := hI.G
  by_cases c1 : 2 ≤ x ∧ x ≤ 8
  rotate_left
  · refine v_AA.same h 0 ?_ ?_
    · unfold F_X11_pond; rw [P_within, d_b_t, v_bf c1, if_pos rfl]
    · show F_X12_pond s x y = _
      unfold F_X12_pond; rw [P_isIn, d_b_t, v_bf c1, if_pos rfl]
  by_cases c2 : 2 ≤ y ∧ y ≤ 8
  rotate_left
  · refine v_AA.same h 0 ?_ ?_
    · unfold F_X11_pond; rw [P_within, d_b_t, v_bt c1, if_neg (by decide), P_within, d_b_t, v_bf c2, if_pos rfl]
    · show F_X12_pond s x y = _
      unfold F_X12_pond; rw [P_isIn, d_b_t, v_bt c1, if_neg (by decide), P_isIn, d_b_t, v_bf c2, if_pos rfl]
  by_cases c3 : s.1 65 18 = 0
  rotate_left
  · refine v_AA.same h 0 ?_ ?_
    · unfold F_X11_pond; rw [P_within, d_b_t, v_bt c1, if_neg (by decide), P_within, d_b_t, v_bt c2, if_neg (by decide), w2, if_neg c3]
    · show F_X12_pond s x y = _
      unfold F_X12_pond; rw [P_isIn, d_b_t, v_bt c1, if_neg (by decide), P_isIn, d_b_t, v_bt c2, if_neg (by decide), if_pos (by omega)]
  obtain ⟨j16, j17⟩ := i1 c3
  obtain ⟨b0, b1, b3, b4, u, v, b5, b6, hu, hv, hu2, hv2⟩ := hI.2.2.2
  have b5 : s.1 65 14 = u := b5
  have b6 : s.1 65 15 = v := b6
  have ew : v_wi (s.1 65) = 1 := by unfold v_wi; omega
  have eh : v_hi (s.1 65) = 1 := by unfold v_hi; omega
  rw [ew] at hu2
  rw [eh] at hv2
  have u0 : u = 0 := by simpa using hu2
  have v0 : v = 0 := by simpa using hv2
  subst u0
  subst v0
  obtain ⟨z, hz⟩ : ∃ z, z = d_si (d_si (d_si s 3 2 1) 3 0 x) 3 1 y := ⟨_, rfl⟩
  have z3 : ∀ k, z.1 3 k = d_u (d_u (d_u (s.1 3) 2 1) 0 x) 1 y k := fun k => by rw [hz, d_si_i, d_si_i, d_si_i]
  have zo : ∀ a, a ≠ 3 → z.1 a = s.1 a := fun a ha => by rw [hz, d_si_n ha, d_si_n ha, d_si_n ha]
  have zp : z.2 = s.2 := by rw [hz]; rfl
  have hC : v_C z 0 0 x.toNat y.toNat := by
    refine ⟨⟨by rw [zo 6 (by decide), y0]; exact b5, by rw [zo 6 (by decide), y1]; exact b6, ?_, ?_⟩, by decide, by decide, by omega, by omega, Nat.two_pow_pos _, Nat.two_pow_pos _⟩
    · rw [z3]; show x = _; omega
    · rw [z3]; show y = _; omega
  obtain ⟨s1, g1, g2, g3, g4⟩ := P_lay hC
  have so : ∀ a, a ≠ 3 → a ∉ v_L6 → s1.1 a = s.1 a := fun a ha hb => (g2.1 a hb).trans (zo a ha)
  have s3 : s1.1 3 = z.1 3 := g2.1 3 (by decide)
  have s65 : s1.1 65 = s.1 65 := so 65 (by decide) (by decide)
  obtain ⟨s2, hs2⟩ : ∃ q, q = d_si (d_si (d_si s1 65 16 x) 65 17 y) 65 18 1 := ⟨_, rfl⟩
  have e65 : ∀ k, s2.1 65 k = d_u (d_u (d_u (s.1 65) 16 x) 17 y) 18 1 k := fun k => by rw [hs2, d_si_i, d_si_i, d_si_i, s65]
  have eA : ∀ k, k ≠ 16 → k ≠ 17 → k ≠ 18 → s2.1 65 k = s.1 65 k := fun k a b c => by rw [e65, d_u_n c, d_u_n b, d_u_n a]
  have eo : ∀ a, a ≠ 65 → s2.1 a = s1.1 a := fun a ha => by rw [hs2, d_si_n ha, d_si_n ha, d_si_n ha]
  have ep : s2.2 = s.2 := by rw [hs2]; exact g2.2.trans zp
  have e16 : s2.1 65 16 = x := by rw [e65]; rfl
  have e17 : s2.1 65 17 = y := by rw [e65]; rfl
  have e18 : s2.1 65 18 = 1 := by rw [e65]; rfl
  have fo : ∀ a, a ≠ 3 → a ≠ 65 → a ∉ v_L6 → s2.1 a = s.1 a := fun a h1 h2 h3 => (eo a h2).trans (so a h1 h3)
  have f3 : ∀ k, s2.1 3 k = d_u (d_u (d_u (s.1 3) 2 1) 0 x) 1 y k := fun k => by rw [eo 3 (by decide), s3]; exact z3 k
  have wi2 : v_wi (s2.1 65) = x.toNat := by unfold v_wi; rw [e16]
  have hi2 : v_hi (s2.1 65) = y.toNat := by unfold v_hi; rw [e17]
  have u2 : v_u (s2.1 65) = 0 := by unfold v_u; rw [eA 14 (by decide) (by decide) (by decide), b5]; rfl
  have v2 : v_v (s2.1 65) = 0 := by unfold v_v; rw [eA 15 (by decide) (by decide) (by decide), b6]; rfl
  have nl : ∀ a, 10 ≤ a → a ≤ 36 → a ∉ v_L6 := fun a h1 h2 h3 => by
    unfold v_L6 at h3
    simp only [List.mem_cons, List.not_mem_nil, or_false] at h3
    omega
  refine ⟨1, s1, s2, ?_, ?_, ⟨⟨?_, ?_, ?_, ?_⟩, ⟨?_, ?_, ?_, ?_⟩, ?_, ?_, ?_, ?_, ?_, ?_, ?_⟩⟩
  · unfold F_X11_pond
    rw [P_within, d_b_t, v_bt c1, if_neg (by decide), P_within, d_b_t, v_bt c2, if_neg (by decide), w2, if_pos c3, y0, if_pos (show s.1 65 14 = 0 from b5), y1, if_pos (show s.1 65 15 = 0 from b6), d_l_t, d_l_t, d_l_t, ← hz, g1, d_b_t]
  · show F_X12_pond s1 x y = _
    unfold F_X12_pond
    rw [P_isIn, d_b_t, v_bt c1, if_neg (by decide), P_isIn, d_b_t, v_bt c2, if_neg (by decide), s65, if_neg (by omega), d_l_t, d_l_t, d_l_t, hs2]
  · refine ⟨⟨?_, ?_, ?_, ?_, ?_, ?_⟩, fun n k hn hk => ?_⟩
    · show s2.1 3 0 = _; rw [f3, e16]; rfl
    · show s2.1 3 1 = _; rw [f3, e17]; rfl
    · show s2.1 3 2 = _; rw [f3, e18]; rfl
    · show s2.1 3 3 = _; rw [f3, eA 0 (by decide) (by decide) (by decide)]; exact w3
    · show s2.1 3 5 = _; rw [f3, eA 1 (by decide) (by decide) (by decide)]; exact w5
    · show s2.1 3 6 = _; rw [f3, eA 2 (by decide) (by decide) (by decide)]; exact w6
    · show s2.1 4 (6 * n + k) = _
      rw [eA 0 (by decide) (by decide) (by decide)] at hn
      rw [fo 4 (by decide) (by decide) (by decide), eA _ (by omega) (by omega) (by omega)]
      exact w4 n k hn hk
  · exact hW.2.1.fr (fo 6 (by decide) (by decide) (by decide)) (fo 7 (by decide) (by decide) (by decide)) (fun j hj => eA j (by omega) (by omega) (by omega))
  · obtain ⟨n, c, a1, a2, a3⟩ := hW.2.2.1
    refine ⟨n, c, ?_, ?_, ?_⟩
    · show s2.1 8 1 = _; rw [fo 8 (by decide) (by decide) (by decide)]; exact a1
    · show s2.1 8 2 = _; rw [fo 8 (by decide) (by decide) (by decide)]; exact a2
    · show v_Sx (s2.1 9) n c _ _ _
      rw [fo 9 (by decide) (by decide) (by decide), wi2, hi2]
      rw [ew, eh] at a3
      exact (a3.mono (by omega) (by omega)).fr (eA 3 (by decide) (by decide) (by decide)) (fun k h1 h2 => eA k (by omega) (by omega) (by omega))
  · exact hW.2.2.2.fr hI.2.2.1 (fun a h1 h2 => fo a (by omega) (by omega) (nl a (by omega) (by omega))) (fun j hj => eA j (by omega) (by omega) (by omega))
  · refine ⟨by rw [e16]; omega, by rw [e17]; omega, by rw [e18]; omega, by rw [e18]; intro q; omega, by rw [eA 0 (by decide) (by decide) (by decide)]; exact i0, fun n hn => ?_⟩
    rw [eA 0 (by decide) (by decide) (by decide)] at hn
    have hA2 : ∀ k, k < 6 → s2.1 65 (212 + 6 * n + k) = s.1 65 (212 + 6 * n + k) := fun k hk => eA _ (by omega) (by omega) (by omega)
    obtain ⟨g1, g2, g3, g4, g5⟩ := isg n hn
    rw [hA2 1 (by decide), hA2 2 (by decide), hA2 3 (by decide), hA2 4 (by decide), e16, e17]
    exact ⟨fun k hk => by rw [hA2 k hk]; exact g1 k hk, g2, g3, by omega, by omega⟩
  · exact hI.2.1.fr (fun j h1 h2 => eA j (by omega) (by omega) (by omega))
  · exact hI.2.2.1.fr (fun j hj => eA j (by omega) (by omega) (by omega))
  · rw [wi2, hi2]
    refine ⟨?_, ?_, ?_, ?_, 0, 0, ?_, ?_, by decide, by decide, Nat.two_pow_pos _, Nat.two_pow_pos _⟩
    · show 0 ≤ s2.1 65 9 ∧ s2.1 65 9 ≤ 999; rw [eA 9 (by decide) (by decide) (by decide)]; exact b0
    · show 0 ≤ s2.1 65 10 ∧ s2.1 65 10 ≤ 9; rw [eA 10 (by decide) (by decide) (by decide)]; exact b1
    · show 0 ≤ s2.1 65 12 ∧ s2.1 65 12 ≤ 99; rw [eA 12 (by decide) (by decide) (by decide)]; exact b3
    · show 0 ≤ s2.1 65 13 ∧ s2.1 65 13 < 30293; rw [eA 13 (by decide) (by decide) (by decide)]; exact b4
    · show s2.1 65 14 = _; rw [eA 14 (by decide) (by decide) (by decide)]; exact b5
    · show s2.1 65 15 = _; rw [eA 15 (by decide) (by decide) (by decide)]; exact b6
  · rw [fo 66 (by decide) (by decide) (by decide)]
    exact hW2.fr (fun a h1 h2 => fo a (by omega) (by omega) (nl a (by omega) (by omega))) hI2
  · rw [fo 66 (by decide) (by decide) (by decide)]; exact hI2
  · rw [fo 66 (by decide) (by decide) (by decide), eA 1 (by decide) (by decide) (by decide)]; exact h1
  · rw [u2, v2, wi2, hi2]
    have hQ1 : v_Q s1 0 0 x.toNat y.toNat := ⟨g3, g4, by decide, by omega, by omega⟩
    exact hQ1.fr (fun a h1 h2 => eo a (by omega))
  · exact hX.fr (eA 1 (by decide) (by decide) (by decide)) (fo 66 (by decide) (by decide) (by decide)) (fo 67 (by decide) (by decide) (by decide)) (by rw [ep]) (by rw [ep])
  · rw [fo 49 (by decide) (by decide) (by decide), fo 71 (by decide) (by decide) (by decide)]; exact hN
  · exact hr.fr (fo 43 (by decide) (by decide) (by decide)) (fo 44 (by decide) (by decide) (by decide)) (fo 64 (by decide) (by decide) (by decide)) (fo 68 (by decide) (by decide) (by decide))
end V16
section V17
variable {s : d_S} {t : Nat → Option p_C}
def v_p6 (f : Nat → Int) (p : Nat) (a b c d e g : Int) : Nat → Int := d_u (d_u (d_u (d_u (d_u (d_u f p a) (p + 1) b) (p + 2) c) (p + 3) d) (p + 4) e) (p + 5) g
theorem v_p6_o {f : Nat → Int} {p j : Nat} {a b c d e g : Int} (h : j < p ∨ p + 6 ≤ j) : v_p6 f p a b c d e g j = f j := by
  unfold v_p6
  rw [d_u_n (by omega), d_u_n (by omega), d_u_n (by omega), d_u_n (by omega), d_u_n (by omega), d_u_n (by omega)]
theorem v_p6_v {f : Nat → Int} {p : Nat} {a b c d e g : Int} : v_p6 f p a b c d e g p = a ∧ v_p6 f p a b c d e g (p + 1) = b ∧ v_p6 f p a b c d e g (p + 2) = c ∧ v_p6 f p a b c d e g (p + 3) = d ∧ v_p6 f p a b c d e g (p + 4) = e ∧ v_p6 f p a b c d e g (p + 5) = g := by
  unfold v_p6
  refine ⟨?_, ?_, ?_, ?_, ?_, ?_⟩
  · rw [d_u_n (by omega), d_u_n (by omega), d_u_n (by omega), d_u_n (by omega), d_u_n (by omega), d_u_t]
  · rw [d_u_n (by omega), d_u_n (by omega), d_u_n (by omega), d_u_n (by omega), d_u_t]
  · rw [d_u_n (by omega), d_u_n (by omega), d_u_n (by omega), d_u_t]
  · rw [d_u_n (by omega), d_u_n (by omega), d_u_t]
  · rw [d_u_n (by omega), d_u_t]
  · rw [d_u_t]
theorem v_p6_i {f f' : Nat → Int} {p q k : Nat} {a b c d e g : Int} (h : k < 6) : v_p6 f p a b c d e g (p + k) = v_p6 f' q a b c d e g (q + k) := by
  obtain ⟨a0, a1, a2, a3, a4, a5⟩ := v_p6_v (f := f) (p := p) (a := a) (b := b) (c := c) (d := d) (e := e) (g := g)
  obtain ⟨b0, b1, b2, b3, b4, b5⟩ := v_p6_v (f := f') (p := q) (a := a) (b := b) (c := c) (d := d) (e := e) (g := g)
  have : k = 0 ∨ k = 1 ∨ k = 2 ∨ k = 3 ∨ k = 4 ∨ k = 5 := by omega
  rcases this with rfl | rfl | rfl | rfl | rfl | rfl
  · exact a0.trans b0.symm
  · exact a1.trans b1.symm
  · exact a2.trans b2.symm
  · exact a3.trans b3.symm
  · exact a4.trans b4.symm
  · exact a5.trans b5.symm
theorem v_both {c : Prop} [Decidable c] {α : Type} {Z Y : α} (h : Y = Z) : (if v_b c = 0 then Z else Y) = Z := by
  by_cases q : v_b c = 0
  · rw [if_pos q]
  · rw [if_neg q]; exact h
theorem R_sight (h : v_R t s) {x1 x2 x3 x4 x5 x6 : Int} (r2 : d_R x2) (r3 : d_R x3) : v_AA t (F_X11_sight s x1 x2 x3 x4 x5 x6) (fun s1 => F_X12_sight s1 x1 x2 x3 x4 x5 x6) := by
  have h' := h
  obtain ⟨hW, hI, hW2, hI2, h1, hQ, hX, hN, hr⟩ := h'
  obtain ⟨⟨w0, w1, w2, w3, w5, w6⟩, w4⟩ := hW.1
  have w0 : s.1 3 0 = s.1 65 16 := w0
  have w1 : s.1 3 1 = s.1 65 17 := w1
  have w3 : s.1 3 3 = s.1 65 0 := w3
  obtain ⟨i16, i17, i18, i1, i0, isg⟩ := hI.1
  
  by_cases c1 : 0 ≤ x1 ∧ x1 ≤ 9
  rotate_left
  · refine v_AA.same h (-1) ?_ ?_
    · unfold F_X11_sight F_X11_sight_j81; rw [P_within, d_b_t, v_bf c1, if_pos rfl]
    · show F_X12_sight s x1 x2 x3 x4 x5 x6 = _
      unfold F_X12_sight; rw [P_isIn, d_b_t, v_bf c1, if_pos rfl]
  by_cases c6 : 0 ≤ x6 ∧ x6 ≤ 9
  rotate_left
  · refine v_AA.same h (-1) ?_ ?_
    · unfold F_X11_sight F_X11_sight_j81; rw [P_within, d_b_t, v_bt c1, if_neg (by decide), P_within, d_b_t, v_bf c6, if_pos rfl]
    · show F_X12_sight s x1 x2 x3 x4 x5 x6 = _
      unfold F_X12_sight
      rw [P_isIn, d_b_t]
      refine v_both ?_
      rw [P_isIn, d_b_t]
      refine v_both ?_
      rw [P_isIn, d_b_t]
      refine v_both ?_
      rw [P_isIn, d_b_t]
      refine v_both ?_
      rw [P_isIn, d_b_t]
      refine v_both ?_
      rw [P_isIn, d_b_t, v_bf c6, if_pos rfl]
  by_cases c4 : 1 ≤ x4 ∧ x4 ≤ 3
  rotate_left
  · refine v_AA.same h (-1) ?_ ?_
    · unfold F_X11_sight F_X11_sight_j81; rw [P_within, d_b_t, v_bt c1, if_neg (by decide), P_within, d_b_t, v_bt c6, if_neg (by decide), P_within, d_b_t, v_bf c4, if_pos rfl]
    · show F_X12_sight s x1 x2 x3 x4 x5 x6 = _
      unfold F_X12_sight
      rw [P_isIn, d_b_t]
      refine v_both ?_
      rw [P_isIn, d_b_t]
      refine v_both ?_
      rw [P_isIn, d_b_t]
      refine v_both ?_
      rw [P_isIn, d_b_t, v_bf c4, if_pos rfl]
  by_cases c5 : 1 ≤ x5 ∧ x5 ≤ 3
  rotate_left
  · refine v_AA.same h (-1) ?_ ?_
    · unfold F_X11_sight F_X11_sight_j81; rw [P_within, d_b_t, v_bt c1, if_neg (by decide), P_within, d_b_t, v_bt c6, if_neg (by decide), P_within, d_b_t, v_bt c4, if_neg (by decide), P_within, d_b_t, v_bf c5, if_pos rfl]
    · show F_X12_sight s x1 x2 x3 x4 x5 x6 = _
      unfold F_X12_sight
      rw [P_isIn, d_b_t]
      refine v_both ?_
      rw [P_isIn, d_b_t]
      refine v_both ?_
      rw [P_isIn, d_b_t]
      refine v_both ?_
      rw [P_isIn, d_b_t]
      refine v_both ?_
      rw [P_isIn, d_b_t, v_bf c5, if_pos rfl]
  have hC0 : F_X11_sight s x1 x2 x3 x4 x5 x6 = d_b (F_X11_within x2 0 (d_w ((s.1 3 0) - x4))) (fun v5 => if v5 = 0 then some ((-1), s) else d_b (F_X11_within x3 0 (d_w ((s.1 3 1) - x5))) (fun v6 => if v6 = 0 then some ((-1), s) else if 72 < (d_w ((d_w ((s.1 3 3) * 6)) + 6)) then some ((-1), s) else some (s.1 65 0, d_si (d_st s 4 (v_p6 (s.1 4) (6 * (s.1 65 0).toNat) x1 x2 x3 x4 x5 x6)) 3 3 (s.1 65 0 + 1)))) := by
    unfold F_X11_sight F_X11_sight_j81
    rw [P_within, d_b_t, v_bt c1, if_neg (by decide), P_within, d_b_t, v_bt c6, if_neg (by decide), P_within, d_b_t, v_bt c4, if_neg (by decide), P_within, d_b_t, v_bt c5, if_neg (by decide)]
    congr 1
    funext v5
    by_cases q5 : v5 = 0
    · rw [if_pos q5, if_pos q5]
    rw [if_neg q5, if_neg q5]
    congr 1
    funext v6
    by_cases q6 : v6 = 0
    · rw [if_pos q6, if_pos q6]
    rw [if_neg q6, if_neg q6, w3]
    by_cases q12 : 72 < d_w (d_w (s.1 65 0 * 6) + 6)
    · rw [if_pos q12, if_pos q12]
    rw [if_neg q12, if_neg q12]
    have e0 : d_w (s.1 65 0 * 6) = s.1 65 0 * 6 := d_w_id (by omega) (by omega)
    rw [e0, d_w_id (by omega) (by omega)] at q12
    have ek : ∀ k : Int, 0 ≤ k → k < 6 → d_w (s.1 65 0 * 6 + k) = s.1 65 0 * 6 + k := fun k h1 h2 => d_w_id (by omega) (by omega)
    have tn : ∀ k : Nat, (s.1 65 0 * 6 + (k : Int)).toNat = 6 * (s.1 65 0).toNat + k := fun k => by omega
    have t0 : (s.1 65 0 * 6 + 0).toNat = 6 * (s.1 65 0).toNat := by omega
    have t1 : (s.1 65 0 * 6 + 1).toNat = 6 * (s.1 65 0).toNat + 1 := by omega
    have t2 : (s.1 65 0 * 6 + 2).toNat = 6 * (s.1 65 0).toNat + 2 := by omega
    have t3 : (s.1 65 0 * 6 + 3).toNat = 6 * (s.1 65 0).toNat + 3 := by omega
    have t4 : (s.1 65 0 * 6 + 4).toNat = 6 * (s.1 65 0).toNat + 4 := by omega
    have t5 : (s.1 65 0 * 6 + 5).toNat = 6 * (s.1 65 0).toNat + 5 := by omega
    simp (disch := first | decide | omega) only [e0, ek, d_si_n, w3, d_g_t, d_l_t, t0, t1, t2, t3, t4, t5]
    have hst : d_si (d_si (d_si (d_si (d_si (d_si s 4 (6 * (s.1 65 0).toNat) x1) 4 (6 * (s.1 65 0).toNat + 1) x2) 4 (6 * (s.1 65 0).toNat + 2) x3) 4 (6 * (s.1 65 0).toNat + 3) x4) 4 (6 * (s.1 65 0).toNat + 4) x5) 4 (6 * (s.1 65 0).toNat + 5) x6 = d_st s 4 (v_p6 (s.1 4) (6 * (s.1 65 0).toNat) x1 x2 x3 x4 x5 x6) := by
      refine Prod.ext ?_ rfl
      funext a
      by_cases q : a = 4
      · subst q
        rw [d_si_i, d_si_i, d_si_i, d_si_i, d_si_i, d_si_i, d_st_i]; rfl
      · rw [d_si_n q, d_si_n q, d_si_n q, d_si_n q, d_si_n q, d_si_n q, d_st_n q]
    rw [hst, d_si_i, d_u_t, show d_w (s.1 65 0 + 1) = s.1 65 0 + 1 from d_w_id (by omega) (by omega), d_w_id (by omega) (by omega)]
    congr 1
    exact Prod.ext (by show s.1 65 0 + 1 - 1 = _; omega) rfl
  rw [hC0, w0, w1, w3, show d_w (s.1 65 0 * 6) = s.1 65 0 * 6 from d_w_id (by omega) (by omega), show d_w (s.1 65 0 * 6 + 6) = s.1 65 0 * 6 + 6 from d_w_id (by omega) (by omega), show d_w (s.1 65 16 - x4) = s.1 65 16 - x4 from d_w_id (by omega) (by omega), show d_w (s.1 65 17 - x5) = s.1 65 17 - x5 from d_w_id (by omega) (by omega), P_within, d_b_t, P_within]
  
  have hD0 : ∀ s1 : d_S, s1.1 65 = s.1 65 → (0 ≤ x2 ∧ x2 ≤ 7) → (0 ≤ x3 ∧ x3 ≤ 7) → F_X12_sight s1 x1 x2 x3 x4 x5 x6 = if s.1 65 16 < x2 + x4 then some ((-1), s1) else if s.1 65 17 < x3 + x5 then some ((-1), s1) else if s.1 65 0 = 12 then some ((-1), s1) else some (s.1 65 0, d_si (d_st s1 65 (v_p6 (s.1 65) (212 + 6 * (s.1 65 0).toNat) x1 x2 x3 x4 x5 x6)) 65 0 (s.1 65 0 + 1)) := by
    intro s1 e65 c2 c3
    unfold F_X12_sight
    rw [P_isIn, d_b_t, v_bt c1, if_neg (by decide), P_isIn, d_b_t, v_bt c2, if_neg (by decide), P_isIn, d_b_t, v_bt c3, if_neg (by decide), P_isIn, d_b_t, v_bt c4, if_neg (by decide), P_isIn, d_b_t, v_bt c5, if_neg (by decide), P_isIn, d_b_t, v_bt c6, if_neg (by decide), e65, d_w_id (by omega) (by omega), d_w_id (by omega) (by omega)]
    by_cases q1 : s.1 65 16 < x2 + x4
    · rw [if_pos q1, if_pos q1]
    rw [if_neg q1, if_neg q1]
    by_cases q2 : s.1 65 17 < x3 + x5
    · rw [if_pos q2, if_pos q2]
    rw [if_neg q2, if_neg q2]
    by_cases q3 : s.1 65 0 = 12
    · rw [if_pos q3, if_pos q3]
    rw [if_neg q3, if_neg q3, d_w_id (by omega) (by omega), d_l_t]
    have ek : ∀ k : Int, 0 ≤ k → k < 6 → d_w (212 + 6 * s.1 65 0 + k) = 212 + 6 * s.1 65 0 + k := fun k h1 h2 => d_w_id (by omega) (by omega)
    have t0 : (212 + 6 * s.1 65 0).toNat = 212 + 6 * (s.1 65 0).toNat := by omega
    have t1 : (212 + 6 * s.1 65 0 + 1).toNat = 212 + 6 * (s.1 65 0).toNat + 1 := by omega
    have t2 : (212 + 6 * s.1 65 0 + 2).toNat = 212 + 6 * (s.1 65 0).toNat + 2 := by omega
    have t3 : (212 + 6 * s.1 65 0 + 3).toNat = 212 + 6 * (s.1 65 0).toNat + 3 := by omega
    have t4 : (212 + 6 * s.1 65 0 + 4).toNat = 212 + 6 * (s.1 65 0).toNat + 4 := by omega
    have t5 : (212 + 6 * s.1 65 0 + 5).toNat = 212 + 6 * (s.1 65 0).toNat + 5 := by omega
    simp (disch := first | decide | omega) only [ek, d_g_t, d_l_t, t0, t1, t2, t3, t4, t5]
    have hst : d_si (d_si (d_si (d_si (d_si (d_si s1 65 (212 + 6 * (s.1 65 0).toNat) x1) 65 (212 + 6 * (s.1 65 0).toNat + 1) x2) 65 (212 + 6 * (s.1 65 0).toNat + 2) x3) 65 (212 + 6 * (s.1 65 0).toNat + 3) x4) 65 (212 + 6 * (s.1 65 0).toNat + 4) x5) 65 (212 + 6 * (s.1 65 0).toNat + 5) x6 = d_st s1 65 (v_p6 (s.1 65) (212 + 6 * (s.1 65 0).toNat) x1 x2 x3 x4 x5 x6) := by
      refine Prod.ext ?_ rfl
      funext a
      by_cases q : a = 65
      · subst q
        rw [d_si_i, d_si_i, d_si_i, d_si_i, d_si_i, d_si_i, d_st_i, e65]; rfl
      · rw [d_si_n q, d_si_n q, d_si_n q, d_si_n q, d_si_n q, d_si_n q, d_st_n q]
    rw [hst, d_si_i, d_u_t, d_st_i, v_p6_o (by omega), show d_w (s.1 65 0 + 1) = s.1 65 0 + 1 from d_w_id (by omega) (by omega), d_w_id (by omega) (by omega)]
    congr 1
    exact Prod.ext (by show s.1 65 0 + 1 - 1 = _; omega) rfl
  have hDn : ∀ (s1 : d_S), ¬ ((0 ≤ x2 ∧ x2 ≤ 7) ∧ (0 ≤ x3 ∧ x3 ≤ 7)) → F_X12_sight s1 x1 x2 x3 x4 x5 x6 = some (-1, s1) := by
    intro s1 hn
    unfold F_X12_sight
    rw [P_isIn, d_b_t, v_bt c1, if_neg (by decide), P_isIn, d_b_t]
    by_cases q2 : 0 ≤ x2 ∧ x2 ≤ 7
    · rw [v_bt q2, if_neg (by decide), P_isIn, d_b_t, v_bf (by omega), if_pos rfl]
    · rw [v_bf q2, if_pos rfl]
  have hS := hW.S hI
  by_cases c2 : 0 ≤ x2 ∧ x2 ≤ s.1 65 16 - x4
  rotate_left
  · refine v_AA.same h (-1) (by rw [v_bf c2, if_pos rfl]) ?_
    show F_X12_sight s x1 x2 x3 x4 x5 x6 = _
    by_cases q : (0 ≤ x2 ∧ x2 ≤ 7) ∧ (0 ≤ x3 ∧ x3 ≤ 7)
    · rw [hD0 s rfl q.1 q.2, if_pos (by omega)]
    · exact hDn s q
  rw [v_bt c2, if_neg (by decide), d_b_t]
  by_cases c3 : 0 ≤ x3 ∧ x3 ≤ s.1 65 17 - x5
  rotate_left
  · refine v_AA.same h (-1) (by rw [v_bf c3, if_pos rfl]) ?_
    show F_X12_sight s x1 x2 x3 x4 x5 x6 = _
    by_cases q : (0 ≤ x2 ∧ x2 ≤ 7) ∧ (0 ≤ x3 ∧ x3 ≤ 7)
    · rw [hD0 s rfl q.1 q.2, if_neg (by omega), if_pos (by omega)]
    · exact hDn s q
  rw [v_bt c3, if_neg (by decide)]
  by_cases c12 : s.1 65 0 = 12
  · refine v_AA.same h (-1) (by rw [if_pos (by omega)]) ?_
    show F_X12_sight s x1 x2 x3 x4 x5 x6 = _
    rw [hD0 s rfl (by omega) (by omega), if_neg (by omega), if_neg (by omega), if_pos c12]
  rw [if_neg (by omega)]
  obtain ⟨N, hNN⟩ : ∃ N : Nat, s.1 65 0 = N := ⟨(s.1 65 0).toNat, by omega⟩
  obtain ⟨s1, hs1⟩ : ∃ z, z = d_si (d_st s 4 (v_p6 (s.1 4) (6 * (s.1 65 0).toNat) x1 x2 x3 x4 x5 x6)) 3 3 (s.1 65 0 + 1) := ⟨_, rfl⟩
  have so : ∀ a, a ≠ 3 → a ≠ 4 → s1.1 a = s.1 a := fun a h1 h2 => by rw [hs1, d_si_n h1, d_st_n h2]
  have s65 : s1.1 65 = s.1 65 := so 65 (by decide) (by decide)
  obtain ⟨s2, hs2⟩ : ∃ z, z = d_si (d_st s1 65 (v_p6 (s.1 65) (212 + 6 * (s.1 65 0).toNat) x1 x2 x3 x4 x5 x6)) 65 0 (s.1 65 0 + 1) := ⟨_, rfl⟩
  have eo : ∀ a, a ≠ 65 → s2.1 a = s1.1 a := fun a ha => by rw [hs2, d_si_n ha, d_st_n ha]
  have fo : ∀ a, a ≠ 3 → a ≠ 4 → a ≠ 65 → s2.1 a = s.1 a := fun a h1 h2 h3 => (eo a h3).trans (so a h1 h2)
  have e65 : ∀ k, s2.1 65 k = d_u (v_p6 (s.1 65) (212 + 6 * N) x1 x2 x3 x4 x5 x6) 0 (N + 1) k := fun k => by rw [hs2, d_si_i, d_st_i, hNN]; rfl
  have e00 : s2.1 65 0 = N + 1 := by rw [e65, d_u_t]
  have eA : ∀ k, k ≠ 0 → (k < 212 + 6 * N ∨ 212 + 6 * N + 6 ≤ k) → s2.1 65 k = s.1 65 k := fun k h0 hk => by rw [e65, d_u_n h0, v_p6_o hk]
  have eN : ∀ k, s2.1 65 (212 + 6 * N + k) = v_p6 (s.1 65) (212 + 6 * N) x1 x2 x3 x4 x5 x6 (212 + 6 * N + k) := fun k => by rw [e65, d_u_n (by omega)]
  have f3 : ∀ k, s2.1 3 k = d_u (s.1 3) 3 (N + 1) k := fun k => by rw [eo 3 (by decide), hs1, d_si_i, d_st_n (by decide), hNN]
  have f4 : s2.1 4 = v_p6 (s.1 4) (6 * N) x1 x2 x3 x4 x5 x6 := by rw [eo 4 (by decide), hs1, d_si_n (by decide), d_st_i, hNN]; rfl
  have ep : s2.2 = s.2 := by rw [hs2, hs1]; rfl
  have hN12 : N < 12 := by omega
  refine ⟨s.1 65 0, s1, s2, by rw [hs1], ?_, ⟨⟨?_, ?_, ?_, ?_⟩, ⟨?_, ?_, ?_, ?_⟩, ?_, ?_, ?_, ?_, ?_, ?_, ?_⟩⟩
  · show F_X12_sight s1 x1 x2 x3 x4 x5 x6 = _
    rw [hD0 s1 s65 (by omega) (by omega), if_neg (by omega), if_neg (by omega), if_neg c12, hs2]
  · refine ⟨⟨?_, ?_, ?_, ?_, ?_, ?_⟩, fun n k hn hk => ?_⟩
    · show s2.1 3 0 = _; rw [f3, d_u_n (by decide), eA 16 (by decide) (by omega)]; exact w0
    · show s2.1 3 1 = _; rw [f3, d_u_n (by decide), eA 17 (by decide) (by omega)]; exact w1
    · show s2.1 3 2 = _; rw [f3, d_u_n (by decide), eA 18 (by decide) (by omega)]; exact w2
    · show s2.1 3 3 = _; rw [f3, d_u_t, e00]
    · show s2.1 3 5 = _; rw [f3, d_u_n (by decide), eA 1 (by decide) (by omega)]; exact w5
    · show s2.1 3 6 = _; rw [f3, d_u_n (by decide), eA 2 (by decide) (by omega)]; exact w6
    · show s2.1 4 (6 * n + k) = _
      rw [e00] at hn
      by_cases q : n = N
      · subst q
        rw [eN, f4]; exact v_p6_i hk
      · rw [eA _ (by omega) (by omega), f4, v_p6_o (by omega)]
        exact w4 n k (by omega) hk
  · exact hW.2.1.fr (fo 6 (by decide) (by decide) (by decide)) (fo 7 (by decide) (by decide) (by decide)) (fun j hj => eA j (by omega) (by omega))
  · exact hW.2.2.1.fr (fo 8 (by decide) (by decide) (by decide)) (fo 9 (by decide) (by decide) (by decide)) (eA 3 (by decide) (by omega)) (eA 16 (by decide) (by omega)) (eA 17 (by decide) (by omega)) (fun j h1 h2 => eA j (by omega) (by omega))
  · exact hW.2.2.2.fr hI.2.2.1 (fun a h1 h2 => fo a (by omega) (by omega) (by omega)) (fun j hj => eA j (by omega) (by omega))
  · refine ⟨by rw [eA 16 (by decide) (by omega)]; exact i16, by rw [eA 17 (by decide) (by omega)]; exact i17, by rw [eA 18 (by decide) (by omega)]; exact i18, by rw [eA 16 (by decide) (by omega), eA 17 (by decide) (by omega), eA 18 (by decide) (by omega)]; exact i1, by rw [e00]; omega, fun n hn => ?_⟩
    rw [e00] at hn
    rw [eA 16 (by decide) (by omega), eA 17 (by decide) (by omega)]
    by_cases q : n = N
    · subst q
      obtain ⟨p0, p1, p2, p3, p4, p5⟩ := v_p6_v (f := s.1 65) (p := 212 + 6 * n) (a := x1) (b := x2) (c := x3) (d := x4) (e := x5) (g := x6)
      have z0 : s2.1 65 (212 + 6 * n + 0) = x1 := (eN 0).trans p0
      have z1 : s2.1 65 (212 + 6 * n + 1) = x2 := (eN 1).trans p1
      have z2 : s2.1 65 (212 + 6 * n + 2) = x3 := (eN 2).trans p2
      have z3 : s2.1 65 (212 + 6 * n + 3) = x4 := (eN 3).trans p3
      have z4 : s2.1 65 (212 + 6 * n + 4) = x5 := (eN 4).trans p4
      have z5 : s2.1 65 (212 + 6 * n + 5) = x6 := (eN 5).trans p5
      rw [z1, z2, z3, z4]
      refine ⟨fun k hk => ?_, by omega, by omega, by omega, by omega⟩
      have : k = 0 ∨ k = 1 ∨ k = 2 ∨ k = 3 ∨ k = 4 ∨ k = 5 := by omega
      rcases this with rfl | rfl | rfl | rfl | rfl | rfl
      · rw [z0]; omega
      · rw [z1]; omega
      · rw [z2]; omega
      · rw [z3]; omega
      · rw [z4]; omega
      · rw [z5]; omega
    · have hA2 : ∀ k, k < 6 → s2.1 65 (212 + 6 * n + k) = s.1 65 (212 + 6 * n + k) := fun k hk => eA _ (by omega) (by omega)
      rw [hA2 1 (by decide), hA2 2 (by decide), hA2 3 (by decide), hA2 4 (by decide)]
      obtain ⟨g1, g2⟩ := isg n (by omega)
      exact ⟨fun k hk => by rw [hA2 k hk]; exact g1 k hk, g2⟩
  · exact hI.2.1.fr (fun j h1 h2 => eA j (by omega) (by omega))
  · exact hI.2.2.1.fr (fun j hj => eA j (by omega) (by omega))
  · have ew : v_wi (s2.1 65) = v_wi (s.1 65) := by unfold v_wi; rw [eA 16 (by decide) (by omega)]
    have eh : v_hi (s2.1 65) = v_hi (s.1 65) := by unfold v_hi; rw [eA 17 (by decide) (by omega)]
    rw [ew, eh]
    obtain ⟨b0, b1, b3, b4, u, v, b5, b6, b7⟩ := hI.2.2.2
    refine ⟨?_, ?_, ?_, ?_, u, v, ?_, ?_, b7⟩
    · show 0 ≤ s2.1 65 9 ∧ s2.1 65 9 ≤ 999; rw [eA 9 (by decide) (by omega)]; exact b0
    · show 0 ≤ s2.1 65 10 ∧ s2.1 65 10 ≤ 9; rw [eA 10 (by decide) (by omega)]; exact b1
    · show 0 ≤ s2.1 65 12 ∧ s2.1 65 12 ≤ 99; rw [eA 12 (by decide) (by omega)]; exact b3
    · show 0 ≤ s2.1 65 13 ∧ s2.1 65 13 < 30293; rw [eA 13 (by decide) (by omega)]; exact b4
    · show s2.1 65 14 = _; rw [eA 14 (by decide) (by omega)]; exact b5
    · show s2.1 65 15 = _; rw [eA 15 (by decide) (by omega)]; exact b6
  · rw [fo 66 (by decide) (by decide) (by decide)]
    exact hW2.fr (fun a h1 h2 => fo a (by omega) (by omega) (by omega)) hI2
  · rw [fo 66 (by decide) (by decide) (by decide)]; exact hI2
  · rw [fo 66 (by decide) (by decide) (by decide), eA 1 (by decide) (by omega)]; exact h1
  · have eu : v_u (s2.1 65) = v_u (s.1 65) ∧ v_v (s2.1 65) = v_v (s.1 65) ∧ v_wi (s2.1 65) = v_wi (s.1 65) ∧ v_hi (s2.1 65) = v_hi (s.1 65) := by
      unfold v_u v_v v_wi v_hi
      rw [eA 14 (by decide) (by omega), eA 15 (by decide) (by omega), eA 16 (by decide) (by omega), eA 17 (by decide) (by omega)]
      exact ⟨rfl, rfl, rfl, rfl⟩
    rw [eu.1, eu.2.1, eu.2.2.1, eu.2.2.2]
    exact hQ.fr (fun a h1 h2 => fo a (by omega) (by omega) (by omega))
  · exact hX.fr (eA 1 (by decide) (by omega)) (fo 66 (by decide) (by decide) (by decide)) (fo 67 (by decide) (by decide) (by decide)) (by rw [ep]) (by rw [ep])
  · rw [fo 49 (by decide) (by decide) (by decide), fo 71 (by decide) (by decide) (by decide)]; exact hN
  · exact hr.fr (fo 43 (by decide) (by decide) (by decide)) (fo 44 (by decide) (by decide) (by decide)) (fo 64 (by decide) (by decide) (by decide)) (fo 68 (by decide) (by decide) (by decide))
end V17

abbrev v_law (A : Nat → Int) (L : v_LR) (u v W H : Nat) (me : Nat → Nat) (i : Nat) : Prop := A (355 + 4 * i) < ((v_bl u v : Nat) : Int) ∧ v_mel L (A 9) (A (356 + 4 * i)) ((v_sz u v W H (A (355 + 4 * i)).toNat : Nat) : Int) (A (357 + 4 * i)) ((me (A (355 + 4 * i)).toNat : Nat) : Int) ((v_ed u v W H (A (355 + 4 * i)).toNat : Nat) : Int) = A (358 + 4 * i)
abbrev v_laws (A : Nat → Int) (r : Nat → v_TR) (u v W H : Nat) (me : Nat → Nat) (k : Nat) : Prop := ∀ i : Nat, i < (A 8).toNat → v_law A (r k).2.2.2 u v W H me i
section V35
variable {s s1 s2 : d_S} {t : Nat → Option p_C} {L : v_LR} {u v W H b N n : Nat} {st me so : Nat → Nat} {sg : Nat → Nat → Nat} {day heat x : Int} {e : Option Nat}
theorem v_togi (hZ : v_Z (s.1 65) N sg) (hS : v_S s N sg) {S p : Nat} (hSS : S < 4096) (hp : p < N) {K K' : Int → Int → Int → Option Int} : ∀ (j k m m' : Nat), k + j = N → j < m → j < m' → ∀ x, d_R x → ∃ y, d_R y ∧ F_X11_together_l46 s K m (S : Int) x (p : Int) (k : Int) = K (S : Int) y (p : Int) ∧ F_X12_together_l38 s K' m' (S : Int) x (p : Int) (k : Int) = K' (S : Int) y (p : Int) := by
  have hN12 := hS.2.1
  intro j
  induction j with
  | zero =>
    intro k m m' hk hm hm' x hx
    obtain ⟨m, rfl⟩ : ∃ q, m = q + 1 := ⟨m - 1, by omega⟩
    obtain ⟨m', rfl⟩ : ∃ q, m' = q + 1 := ⟨m' - 1, by omega⟩
    refine ⟨x, hx, ?_, ?_⟩
    · show F_X11_together_l46_b s K (F_X11_together_l46 s K m) _ _ _ _ = _
      unfold F_X11_together_l46_b
      rw [hS.1, if_neg (by omega)]
    · show F_X12_together_l38_b s K' (F_X12_together_l38 s K' m') _ _ _ _ = _
      unfold F_X12_together_l38_b
      rw [hZ.1, if_neg (by omega)]
  | succ j ih =>
    intro k m m' hk hm hm' x hx
    obtain ⟨m, rfl⟩ : ∃ q, m = q + 1 := ⟨m - 1, by omega⟩
    obtain ⟨m', rfl⟩ : ∃ q, m' = q + 1 := ⟨m' - 1, by omega⟩
    have hkN : k < N := by omega
    have n10 : ¬ (1 : Int) = 0 := by decide
    have e0 : F_X12_sightOf s (p : Int) 0 = _ := P_sightOf hZ hp (k := 0) (by decide)
    have e1 : F_X12_sightOf s (k : Int) 0 = _ := P_sightOf hZ hkN (k := 0) (by decide)
    have e2 : F_X12_sightOf s (p : Int) 5 = _ := P_sightOf hZ hp (k := 5) (by decide)
    have e3 : F_X12_sightOf s (k : Int) 5 = _ := P_sightOf hZ hkN (k := 5) (by decide)
    obtain ⟨y, y1, y2, y3⟩ := ih (k + 1) m m' (by omega) (by omega) (by omega) x hx
    obtain ⟨w, w1, w2, w3⟩ := ih (k + 1) m m' (by omega) (by omega) (by omega) (d_w (x + 1)) d_R_w
    have hk1 : d_w ((k : Int) + 1) = ((k + 1 : Nat) : Int) := by rw [d_w_id (by omega) (by omega)]; rfl
    show ∃ y, d_R y ∧ F_X11_together_l46_b s K (F_X11_together_l46 s K m) _ _ _ _ = _ ∧ F_X12_together_l38_b s K' (F_X12_together_l38 s K' m') _ _ _ _ = _
    unfold F_X11_together_l46_b F_X12_together_l38_b F_X11_together_j82
    have hcS : (k : Int) < (N : Int) := by omega
    rw [hS.1, hZ.1, if_pos hcS, if_pos hcS, v_bit (by omega) (by omega), v_bit (by omega) (by omega), P_has (by omega) (by omega), P_has (by omega) (by omega), d_b_t, d_b_t, v_d0 hx, hk1]
    by_cases q1 : S / 2 ^ p % 2 = 1
    rotate_left
    · rw [if_neg (by omega), v_bf q1, if_pos rfl]
      exact ⟨y, y1, y2, y3⟩
    rw [if_pos (by omega), v_bt q1, if_neg n10]
    by_cases q2 : S / 2 ^ k % 2 = 1
    rotate_left
    · rw [if_neg (by omega), v_bf q2, if_pos rfl]
      exact ⟨y, y1, y2, y3⟩
    rw [if_pos (by omega), v_bt q2, if_neg n10, P_sightPart hS hp (by decide) (by decide), d_b_t, P_sightPart hS hkN (by decide) (by decide), d_b_t, e0, d_b_t, e1, d_b_t, show (0 : Int).toNat = 0 from rfl]
    by_cases q3 : ((sg p 0 : Nat) : Int) = ((sg k 0 : Nat) : Int)
    · rw [if_pos q3, if_pos q3]
      exact ⟨y, y1, y2, y3⟩
    rw [if_neg q3, if_neg q3, P_sightPart hS hp (by decide) (by decide), d_b_t, P_sightPart hS hkN (by decide) (by decide), d_b_t, e2, d_b_t, e3, d_b_t, show (5 : Int).toNat = 5 from rfl]
    by_cases q4 : ((sg p 5 : Nat) : Int) = ((sg k 5 : Nat) : Int)
    · rw [if_pos q4, if_pos q4]
      exact ⟨w, w1, w2, w3⟩
    · rw [if_neg q4, if_neg q4]
      exact ⟨y, y1, y2, y3⟩
theorem v_togo (hZ : v_Z (s.1 65) N sg) (hS : v_S s N sg) {S : Nat} (hSS : S < 4096) : ∀ (j k m m' : Nat), k + j = N → j < m → j < m' → ∀ x, d_R x → v_AP (F_X11_together_l28 s m (S : Int) x (k : Int)) (F_X12_together_l21 s m' (S : Int) x (k : Int)) := by
  have hN12 := hS.2.1
  intro j
  induction j with
  | zero =>
    intro k m m' hk hm hm' x hx
    obtain ⟨m, rfl⟩ : ∃ q, m = q + 1 := ⟨m - 1, by omega⟩
    obtain ⟨m', rfl⟩ : ∃ q, m' = q + 1 := ⟨m' - 1, by omega⟩
    refine ⟨x, ?_, ?_⟩
    · show F_X11_together_l28_b s (F_X11_together_l28 s m) _ _ _ = _
      unfold F_X11_together_l28_b
      rw [hS.1, if_neg (by omega)]
    · show F_X12_together_l21_b s (F_X12_together_l21 s m') _ _ _ = _
      unfold F_X12_together_l21_b
      rw [hZ.1, if_neg (by omega)]
  | succ j ih =>
    intro k m m' hk hm hm' x hx
    obtain ⟨m, rfl⟩ : ∃ q, m = q + 1 := ⟨m - 1, by omega⟩
    obtain ⟨m', rfl⟩ : ∃ q, m' = q + 1 := ⟨m' - 1, by omega⟩
    have hkN : k < N := by omega
    have hk1 : d_w ((k : Int) + 1) = ((k + 1 : Nat) : Int) := by rw [d_w_id (by omega) (by omega)]; rfl
    obtain ⟨y, y1, y2, y3⟩ := v_togi hZ hS hSS hkN (K := fun x2_u7 x3_u7 x4_u7 => F_X11_together_l28 s m x2_u7 x3_u7 (d_w (x4_u7 + 1))) (K' := fun x2_u9 x3_u9 x4_u9 => F_X12_together_l21 s m' x2_u9 x3_u9 (d_w (x4_u9 + 1))) j (k + 1) d_N d_N (by omega) (by rw [d_N_is]; omega) (by rw [d_N_is]; omega) x hx
    obtain ⟨w, w1, w2⟩ := ih (k + 1) m m' (by omega) (by omega) (by omega) y y1
    refine ⟨w, ?_, ?_⟩
    · show F_X11_together_l28_b s (F_X11_together_l28 s m) _ _ _ = _
      unfold F_X11_together_l28_b
      rw [hS.1, if_pos (by omega), hk1]
      refine y2.trans ?_
      show F_X11_together_l28 s m (S : Int) y (d_w ((k : Int) + 1)) = _
      rw [hk1]; exact w1
    · show F_X12_together_l21_b s (F_X12_together_l21 s m') _ _ _ = _
      unfold F_X12_together_l21_b
      rw [hZ.1, if_pos (by omega), hk1]
      refine y3.trans ?_
      show F_X12_together_l21 s m' (S : Int) y (d_w ((k : Int) + 1)) = _
      rw [hk1]; exact w2
theorem R_together (h : v_R t s) {x : Int} : v_AP (F_X11_together s x) (F_X12_together s x) := by
  obtain ⟨u, v, W, H, st, me, so, N, sg, hG, hQ, hB, hM, hZ, hS, hC, hBd⟩ := h.all
  have n10 : ¬ (1 : Int) = 0 := by decide
  unfold F_X11_together F_X12_together
  rw [P_isBlockC hQ, P_isBlock hG, d_b_t, d_b_t]
  by_cases c : 0 ≤ x ∧ x < ((v_bl u v : Nat) : Int)
  rotate_left
  · rw [v_bf c]; exact ⟨-1, rfl, rfl⟩
  obtain ⟨b, rfl⟩ : ∃ b : Nat, x = b := ⟨x.toNat, by omega⟩
  have hb : b < v_bl u v := by omega
  rw [v_bt c, if_neg n10, if_neg n10, P_sightsInC hQ hS hb, d_b_t, P_sightsIn hG hZ hb, d_b_t]
  exact v_togo hZ hS (show v_si sg u v W H N b < 4096 from v_sb12 hS.2.1) N 0 d_N d_N (by omega) (by rw [d_N_is]; have := hS.2.1; omega) (by rw [d_N_is]; have := hS.2.1; omega) 0 (d_rl rfl)
theorem P_meltsUnder (hT : v_CT t e L) (hK : v_K s (day, heat, ((st b : Nat) : Int), ((me b : Nat) : Int), x) ((so b : Nat) : Int)) {size edge : Int} (hb : v_tb s size edge) {y w : Int} (hy : 0 ≤ y ∧ y ≤ 2000) (hw : 0 ≤ w ∧ w ≤ 2000) : ∃ s', F_X0_meltsUnder t s e y w = some (v_mel L day y size w ((me b : Nat) : Int) edge, s') ∧ (∀ a, a ≠ 49 → a ≠ 50 → s'.1 a = s.1 a) ∧ s'.2 = s.2 ∧ v_Nm (s'.1 49) := by
  obtain ⟨⟨k6, k7, k8, k9, k5, k10⟩, ⟨o1, o2, o3, o4, o5⟩, -⟩ := hK
  have o1 : 0 ≤ day ∧ day ≤ 999 := o1
  have o4 : 0 ≤ ((me b : Nat) : Int) ∧ ((me b : Nat) : Int) ≤ 100 := o4
  obtain ⟨b3, b5, hN⟩ := hb
  obtain ⟨s1, hs1⟩ : ∃ q, q = d_si (d_si (d_si (d_si s 49 1 day) 49 2 y) 49 0 w) 49 4 ((me b : Nat) : Int) := ⟨_, rfl⟩
  have e49 : s1.1 49 = d_u (d_u (d_u (d_u (s.1 49) 1 day) 2 y) 0 w) 4 ((me b : Nat) : Int) := by rw [hs1]; exact v_told
  have eo : ∀ a, a ≠ 49 → s1.1 a = s.1 a := fun a ha => by rw [hs1, d_si_n ha, d_si_n ha, d_si_n ha, d_si_n ha]
  have hN1 : v_Nm (s1.1 49) := by
    rw [e49]
    exact (((hN.u (k := 1) (by omega) (by omega)).u (k := 2) (by omega) (by omega)).u (k := 0) (by omega) (by omega)).u (k := 4) (by omega) (by omega)
  have ep : s1.2 = s.2 := by rw [hs1]; rfl
  obtain ⟨s2, g1, g2⟩ := P_melts (s := s1) (t := t) (e := e) (L := L) hT hN1
  refine ⟨s2, ?_, fun a h1 h2 => by rw [g2.1 a (by intro h; simp at h; exact h2 h), eo a h1], g2.2.trans ep, by rw [g2.1 49 (by decide)]; exact hN1⟩
  unfold F_X0_meltsUnder
  rw [k6, k9]
  show d_b (F_X1_tellDay s day y w ((me b : Nat) : Int)) _ = _
  rw [P_tellDay, d_b_t, ← hs1, g1, d_b2_t, e49]
  congr 1
  refine Prod.ext ?_ rfl
  show v_mel L day y (s.1 49 3) w ((me b : Nat) : Int) (s.1 49 5) = _
  rw [b3, b5]
theorem P_part18 {n i : Nat} (hn : n < 8) (hi : i < 4) : F_X8_part_18 s (n : Int) (i : Int) = some (s.1 19 (4 * n + i)) := by
  unfold F_X8_part_18
  have e : d_w ((n : Int) * 4 + (i : Int)) = ((4 * n + i : Nat) : Int) := by rw [d_w_id (by omega) (by omega)]; omega
  rw [e, if_neg (by omega), if_pos (by omega), d_g_t (by omega), Int.toNat_natCast]
theorem v_allC (hM : v_M s st me so) (hQ : v_Q s u v W H) {e0 : Option Nat} (hE : F_X9_ruler_3 s = some e0) (hY : v_Y s (s.1 65 9) heat x) (hCT : v_CT t e L) {n : Nat} (hn : s.1 65 8 = n) (hn8 : n ≤ 8) (h18 : s.1 18 2 = n) (h19 : ∀ j i : Nat, j < n → i < 4 → s.1 19 (4 * j + i) = s.1 65 (355 + 4 * j + i)) (hI : ∀ j : Nat, j < n → (0 ≤ s.1 65 (355 + 4 * j) ∧ s.1 65 (355 + 4 * j) ≤ 63) ∧ (0 ≤ s.1 65 (356 + 4 * j) ∧ s.1 65 (356 + 4 * j) ≤ 9) ∧ (0 ≤ s.1 65 (357 + 4 * j) ∧ s.1 65 (357 + 4 * j) ≤ 9)) : ∀ (j k m : Nat), k + j = n → j < m → ∀ s1, v_cf s s1 → (∀ i, i < k → v_law (s.1 65) L u v W H me i) → ∃ s' r, F_X11_allSoBy_l2 t m e (k : Int) s1 = some (r, s') ∧ v_cf s s' ∧ ((r = 1 ∧ ∀ i, i < n → v_law (s.1 65) L u v W H me i) ∨ (r = 0 ∧ ¬ ∀ i, i < n → v_law (s.1 65) L u v W H me i)) := by
  intro j
  induction j with
  | zero =>
    intro k m hk hm s1 hc hl
    obtain ⟨m, rfl⟩ : ∃ q, m = q + 1 := ⟨m - 1, by omega⟩
    refine ⟨s1, 1, ?_, hc, Or.inl ⟨rfl, fun i hi => hl i (by omega)⟩⟩
    show F_X11_allSoBy_l2_b t (F_X11_allSoBy_l2 t m) _ _ s1 = _
    unfold F_X11_allSoBy_l2_b
    rw [hc.1 18 (by decide) (by decide) (by decide), h18, if_neg (by omega)]
  | succ j ih =>
    intro k m hk hm s1 hc hl
    obtain ⟨m, rfl⟩ : ∃ q, m = q + 1 := ⟨m - 1, by omega⟩
    have hkn : k < n := by omega
    obtain ⟨i1, i2, i3⟩ := hI k hkn
    have pt : ∀ {z : d_S}, v_cf s z → ∀ i : Nat, i < 4 → F_X8_part_18 z (k : Int) (i : Int) = some (s.1 65 (355 + 4 * k + i)) := fun hz i hi => by
      rw [P_part18 (by omega) hi, hz.1 19 (by decide) (by decide) (by decide), h19 k i hkn hi]
    have p0 : ∀ {z : d_S}, v_cf s z → F_X8_part_18 z (k : Int) 0 = some (s.1 65 (355 + 4 * k)) := fun hz => pt hz 0 (by decide)
    have p1 : ∀ {z : d_S}, v_cf s z → F_X8_part_18 z (k : Int) 1 = some (s.1 65 (356 + 4 * k)) := fun hz => by rw [show 356 + 4 * k = 355 + 4 * k + 1 by omega]; exact pt hz 1 (by decide)
    have p2 : ∀ {z : d_S}, v_cf s z → F_X8_part_18 z (k : Int) 2 = some (s.1 65 (357 + 4 * k)) := fun hz => by rw [show 357 + 4 * k = 355 + 4 * k + 2 by omega]; exact pt hz 2 (by decide)
    have p3 : ∀ {z : d_S}, v_cf s z → F_X8_part_18 z (k : Int) 3 = some (s.1 65 (358 + 4 * k)) := fun hz => by rw [show 358 + 4 * k = 355 + 4 * k + 3 by omega]; exact pt hz 3 (by decide)
    have hQ1 : v_Q s1 u v W H := hQ.fr (fun a h1 h2 => hc.1 a (by omega) (by omega) (by omega))
    show ∃ s' r, F_X11_allSoBy_l2_b t (F_X11_allSoBy_l2 t m) _ _ s1 = _ ∧ _
    unfold F_X11_allSoBy_l2_b
    rw [hc.1 18 (by decide) (by decide) (by decide), h18, if_pos (by omega), p0 hc, d_b_t, P_isBlockC hQ1, d_b_t]
    by_cases q : s.1 65 (355 + 4 * k) < ((v_bl u v : Nat) : Int)
    rotate_left
    · rw [v_bf (fun e => q e.2), if_pos rfl]
      exact ⟨s1, 0, rfl, hc, Or.inr ⟨rfl, fun e => q (e k hkn).1⟩⟩
    rw [v_bt ⟨i1.1, q⟩, if_neg (show ¬ (1 : Int) = 0 by decide)]
    obtain ⟨b, hb⟩ : ∃ b : Nat, s.1 65 (355 + 4 * k) = b := ⟨(s.1 65 (355 + 4 * k)).toNat, by omega⟩
    have hbl : b < v_bl u v := by omega
    have hY' := hY
    obtain ⟨⟨y1, y2, y3⟩, y4⟩ := hY'
    obtain ⟨s2, a1, a2, a3, a4, a5, a6, a7⟩ := P_start (s := s1) (hM.fr (hc.1 7 (by decide) (by decide) (by decide))) hQ1 hbl (e := e0) (by rw [P_ruler_fr (hc.1 3 (by decide) (by decide) (by decide)) (hc.2.1 5 (by decide))]; exact hE) (day := s.1 65 9) (heat := heat) (x := x) ⟨by rw [hc.1 6 (by decide) (by decide) (by decide)]; exact ⟨y1, y2, y3⟩, y4⟩ hc.2.2
    have hc2 : v_cf s s2 := ⟨fun a h1 h2 h3 => by rw [a6 a h1 h2, hc.1 a h1 h2 h3], fun a ha => by rw [a7 a ha, hc.2.1 a ha], a5.2.2⟩
    obtain ⟨s3, g1, g2, g3, g4⟩ := P_meltsUnder (t := t) (L := L) (e := e) hCT a2 a5 (y := s.1 65 (356 + 4 * k)) (w := s.1 65 (357 + 4 * k)) (by omega) (by omega)
    have hc3 : v_cf s s3 := ⟨fun a h1 h2 h3 => by rw [g2 a h2 h3, hc2.1 a h1 h2 h3], fun a ha => by rw [g3, hc2.2.1 a ha], g4⟩
    rw [hb, a1, d_b_t, p1 hc2, d_b_t, p2 hc2, d_b_t, g1, d_b2_t, p3 hc3, d_b_t]
    have hlaw : v_law (s.1 65) L u v W H me k ↔ v_mel L (s.1 65 9) (s.1 65 (356 + 4 * k)) ((v_sz u v W H b : Nat) : Int) (s.1 65 (357 + 4 * k)) ((me b : Nat) : Int) ((v_ed u v W H b : Nat) : Int) = s.1 65 (358 + 4 * k) := by
      unfold v_law
      rw [hb, Int.toNat_natCast]
      exact ⟨fun e => e.2, fun e => ⟨by omega, e⟩⟩
    by_cases q2 : v_mel L (s.1 65 9) (s.1 65 (356 + 4 * k)) ((v_sz u v W H b : Nat) : Int) (s.1 65 (357 + 4 * k)) ((me b : Nat) : Int) ((v_ed u v W H b : Nat) : Int) = s.1 65 (358 + 4 * k)
    · rw [if_pos q2, d_w_id (by omega) (by omega)]
      exact ih (k + 1) m (by omega) (by omega) s3 hc3 (fun i hi => by
        by_cases z : i = k
        · rw [z]; exact hlaw.2 q2
        · exact hl i (by omega))
    · rw [if_neg q2]
      exact ⟨s3, 0, rfl, hc3, Or.inr ⟨rfl, fun e => q2 (hlaw.1 (e k hkn))⟩⟩
theorem v_allR (hG : v_G (s.1 65) u v W H) (hB : v_B (s.1 65) st me so) {p : Nat} (hRT : v_RT (s.1 67) (p : Int) L) {n : Nat} (hn : s.1 65 8 = n) (hn8 : n ≤ 8) (h9 : 0 ≤ s.1 65 9 ∧ s.1 65 9 ≤ 999) (hI : ∀ j : Nat, j < n → (0 ≤ s.1 65 (355 + 4 * j) ∧ s.1 65 (355 + 4 * j) ≤ 63) ∧ (0 ≤ s.1 65 (356 + 4 * j) ∧ s.1 65 (356 + 4 * j) ≤ 9) ∧ (0 ≤ s.1 65 (357 + 4 * j) ∧ s.1 65 (357 + 4 * j) ≤ 9)) : ∀ (j k m : Nat), k + j = n → j < m → ∀ s1, v_71 s s1 → v_Nm (s1.1 71) → (∀ i, i < k → v_law (s.1 65) L u v W H me i) → ∃ s' r, F_X12_isLaw_l2 m (p : Int) (k : Int) s1 = some (r, s') ∧ v_71 s s' ∧ v_Nm (s'.1 71) ∧ ((r = 1 ∧ ∀ i, i < n → v_law (s.1 65) L u v W H me i) ∨ (r = 0 ∧ ¬ ∀ i, i < n → v_law (s.1 65) L u v W H me i)) := by
  intro j
  induction j with
  | zero =>
    intro k m hk hm s1 hc hN hl
    obtain ⟨m, rfl⟩ : ∃ q, m = q + 1 := ⟨m - 1, by omega⟩
    refine ⟨s1, 1, ?_, hc, hN, Or.inl ⟨rfl, fun i hi => hl i (by omega)⟩⟩
    show F_X12_isLaw_l2_b (F_X12_isLaw_l2 m) _ _ s1 = _
    unfold F_X12_isLaw_l2_b
    rw [hc.1 65 (by decide), hn, if_neg (by omega)]
  | succ j ih =>
    intro k m hk hm s1 hc hN hl
    obtain ⟨m, rfl⟩ : ∃ q, m = q + 1 := ⟨m - 1, by omega⟩
    have hkn : k < n := by omega
    obtain ⟨i1, i2, i3⟩ := hI k hkn
    have e65 : s1.1 65 = s.1 65 := hc.1 65 (by decide)
    have w0 : d_w (355 + 4 * (k : Int)) = 355 + 4 * (k : Int) := d_w_id (by omega) (by omega)
    have w1 : d_w (355 + 4 * (k : Int) + 1) = 355 + 4 * (k : Int) + 1 := d_w_id (by omega) (by omega)
    have w2 : d_w (355 + 4 * (k : Int) + 2) = 355 + 4 * (k : Int) + 2 := d_w_id (by omega) (by omega)
    have w3 : d_w (355 + 4 * (k : Int) + 3) = 355 + 4 * (k : Int) + 3 := d_w_id (by omega) (by omega)
    have t0 : (355 + 4 * (k : Int)).toNat = 355 + 4 * k := by omega
    have t1 : (355 + 4 * (k : Int) + 1).toNat = 356 + 4 * k := by omega
    have t2 : (355 + 4 * (k : Int) + 2).toNat = 357 + 4 * k := by omega
    have t3 : (355 + 4 * (k : Int) + 3).toNat = 358 + 4 * k := by omega
    have hG1 : v_G (s1.1 65) u v W H := by rw [e65]; exact hG
    have hB1 : v_B (s1.1 65) st me so := by rw [e65]; exact hB
    show ∃ s' r, F_X12_isLaw_l2_b (F_X12_isLaw_l2 m) _ _ s1 = _ ∧ _
    unfold F_X12_isLaw_l2_b
    rw [e65, hn, if_pos (by omega), w0, d_g_t (by omega), t0, P_isBlock hG1, d_b_t]
    by_cases q : s.1 65 (355 + 4 * k) < ((v_bl u v : Nat) : Int)
    rotate_left
    · rw [v_bf (fun e => q e.2), if_pos rfl]
      exact ⟨s1, 0, rfl, hc, hN, Or.inr ⟨rfl, fun e => q (e k hkn).1⟩⟩
    obtain ⟨b, hb⟩ : ∃ b : Nat, s.1 65 (355 + 4 * k) = b := ⟨(s.1 65 (355 + 4 * k)).toNat, by omega⟩
    have hbl : b < v_bl u v := by omega
    have hb64 : b < 64 := by omega
    obtain ⟨-, m1, m2, m3⟩ := hB b hb64
    obtain ⟨s2, g1, g2⟩ := P_meltsBy (s := s1) (k := (p : Int)) (L := L) hG1 hbl (by rw [hc.1 67 (by decide)]; exact hRT) hN (day := s.1 65 9) (heat := s.1 65 (356 + 4 * k)) (straw := s.1 65 (357 + 4 * k)) (melted := ((me b : Nat) : Int)) (by omega) (by omega) (by omega) (by omega)
    have hc2 : v_71 s s2 := ⟨fun a ha => (g2.1 a ha).trans (hc.1 a ha), g2.2.1.trans hc.2.1, fun h => g2.2.2 hN⟩
    rw [v_bt ⟨i1.1, q⟩, if_neg (show ¬ (1 : Int) = 0 by decide), d_g_t (by omega), w1, w2, w3, d_g_t (by omega), d_g_t (by omega), d_g_t (by omega), t1, t2, t3, hb, P_get1 hB1 hb64, d_b_t, g1, d_b2_t, d_g_t (by omega), g2.1 65 (by decide), e65]
    have hlaw : v_law (s.1 65) L u v W H me k ↔ v_mel L (s.1 65 9) (s.1 65 (356 + 4 * k)) ((v_sz u v W H b : Nat) : Int) (s.1 65 (357 + 4 * k)) ((me b : Nat) : Int) ((v_ed u v W H b : Nat) : Int) = s.1 65 (358 + 4 * k) := by
      unfold v_law
      rw [hb, Int.toNat_natCast]
      exact ⟨fun e => e.2, fun e => ⟨by omega, e⟩⟩
    by_cases q2 : v_mel L (s.1 65 9) (s.1 65 (356 + 4 * k)) ((v_sz u v W H b : Nat) : Int) (s.1 65 (357 + 4 * k)) ((me b : Nat) : Int) ((v_ed u v W H b : Nat) : Int) = s.1 65 (358 + 4 * k)
    · rw [if_pos q2, d_w_id (by omega) (by omega)]
      exact ih (k + 1) m (by omega) (by omega) s2 hc2 (g2.2.2 hN) (fun i hi => by
        by_cases z : i = k
        · rw [z]; exact hlaw.2 q2
        · exact hl i (by omega))
    · rw [if_neg q2]
      exact ⟨s2, 0, rfl, hc2, g2.2.2 hN, Or.inr ⟨rfl, fun e => q2 (hlaw.1 (e k hkn))⟩⟩
end V35

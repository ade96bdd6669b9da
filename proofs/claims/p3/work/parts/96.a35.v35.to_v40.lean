abbrev v_law (A : Nat → Int) (L : v_LR) (u v W H : Nat) (me : Nat → Nat) (i : Nat) : Prop := A (355 + 4 * i) < ((v_bl u v : Nat) : Int) ∧ v_mel L (A 9) (A (356 + 4 * i)) ((v_sz u v W H (A (355 + 4 * i)).toNat : Nat) : Int) (A (357 + 4 * i)) ((me (A (355 + 4 * i)).toNat : Nat) : Int) ((v_ed u v W H (A (355 + 4 * i)).toNat : Nat) : Int) = A (358 + 4 * i)
abbrev v_laws (A : Nat → Int) (r : Nat → v_TR) (u v W H : Nat) (me : Nat → Nat) (k : Nat) : Prop := ∀ i : Nat, i < (A 8).toNat → v_law A (r k).2.2.2 u v W H me i
section V35
variable {s s1 s2 : d_S} {t : Nat → Option p_C} {L : v_LR} {u v W H b N n : Nat} {st me so : Nat → Nat} {sg : Nat → Nat → Nat} {day heat x : Int} {e : Option Nat}
theorem v_togi (hZ : v_Z (s.1 65) N sg) (hS : v_S s N sg) {S p : Nat} (hSS : S < 4096) (hp : p < N) {K K' : Int → Int → Int → Option Int} : ∀ (j k m m' : Nat), k + j = N → j < m → j < m' → ∀ x, d_R x → ∃ y, d_R y ∧ F_X11_together_l46 s K m (S : Int) x (p : Int) (k : Int) = K (S : Int) y (p : Int) ∧ F_X12_together_l38 s K' m' (S : Int) x (p : Int) (k : Int) = K' (S : Int) y (p : Int) := by
  have hN12 := hS.2.1
  intro j
  induction j with
  | zero =>
    intro k m m' hk hm hm' x hx
    obtain ⟨m, rfl⟩ : ∃ q, m = q + 1 := ⟨m - 1, by omega⟩
    obtain ⟨m', rfl⟩ : ∃ q, m' = q + 1 := ⟨m' - 1, by omega⟩
    refine ⟨x, hx, ?_, ?_⟩
    · show F_X11_together_l46_b s K (F_X11_together_l46 s K m) _ _ _ _ = _
      unfold F_X11_together_l46_b
      rw [hS.1, if_neg (by omega)]
    · show F_X12_together_l38_b s K' (F_X12_together_l38 s K' m') _ _ _ _ = _
      unfold F_X12_together_l38_b
      rw [hZ.1, if_neg (by omega)]
  | succ j ih =>
    intro k m m' hk hm hm' x hx
    obtain ⟨m, rfl⟩ : ∃ q, m = q + 1 := ⟨m - 1, by omega⟩
    obtain ⟨m', rfl⟩ : ∃ q, m' = q + 1 := ⟨m' - 1, by omega⟩
    have hkN : k < N := by omega
    have n10 : ¬ (1 : Int) = 0 := by decide
    have e0 : F_X12_sightOf s (p : Int) 0 = _ := P_sightOf hZ hp (k := 0) (by decide)
    have e1 : F_X12_sightOf s (k : Int) 0 = _ := P_sightOf hZ hkN (k := 0) (by decide)
    have e2 : F_X12_sightOf s (p : Int) 5 = _ := P_sightOf hZ hp (k := 5) (by decide)
    have e3 : F_X12_sightOf s (k : Int) 5 = _ := P_sightOf hZ hkN (k := 5) (by decide)
    obtain ⟨y, y1, y2, y3⟩ := ih (k + 1) m m' (by omega) (by omega) (by omega) x hx
    obtain ⟨w, w1, w2, w3⟩ := ih (k + 1) m m' (by omega) (by omega) (by omega) (d_w (x + 1)) d_R_w
    have hk1 : d_w ((k : Int) + 1) = ((k + 1 : Nat) : Int) := by rw [d_w_id (by omega) (by omega)]; rfl
    show ∃ y, d_R y ∧ F_X11_together_l46_b s K (F_X11_together_l46 s K m) _ _ _ _ = _ ∧ F_X12_together_l38_b s K' (F_X12_together_l38 s K' m') _ _ _ _ = _
    unfold F_X11_together_l46_b F_X12_together_l38_b F_X11_together_j82
    have hcS : (k : Int) < (N : Int) := by omega
    rw [hS.1, hZ.1, if_pos hcS, if_pos hcS, v_bit (by omega) (by omega), v_bit (by omega) (by omega), P_has (by omega) (by omega), P_has (by omega) (by omega), d_b_t, d_b_t, v_d0 hx, hk1]
    by_cases q1 : S / 2 ^ p % 2 = 1
    rotate_left
    · rw [if_neg (by omega), v_bf q1, if_pos rfl]
      exact ⟨y, y1, y2, y3⟩
    rw [if_pos (by omega), v_bt q1, if_neg n10]
    by_cases q2 : S / 2 ^ k % 2 = 1
    rotate_left
    · rw [if_neg (by omega), v_bf q2, if_pos rfl]
      exact ⟨y, y1, y2, y3⟩
    rw [if_pos (by omega), v_bt q2, if_neg n10, P_sightPart hS hp (by decide) (by decide), d_b_t, P_sightPart hS hkN (by decide) (by decide), d_b_t, e0, d_b_t, e1, d_b_t, show (0 : Int).toNat = 0 from rfl]
    by_cases q3 : ((sg p 0 : Nat) : Int) = ((sg k 0 : Nat) : Int)
    · rw [if_pos q3, if_pos q3]
      exact ⟨y, y1, y2, y3⟩
    rw [if_neg q3, if_neg q3, P_sightPart hS hp (by decide) (by decide), d_b_t, P_sightPart hS hkN (by decide) (by decide), d_b_t, e2, d_b_t, e3, d_b_t, show (5 : Int).toNat = 5 from rfl]
    by_cases q4 : ((sg p 5 : Nat) : Int) = ((sg k 5 : Nat) : Int)
    · rw [if_pos q4, if_pos q4]
      exact ⟨w, w1, w2, w3⟩
    · rw [if_neg q4, if_neg q4]
      exact ⟨y, y1, y2, y3⟩
theorem v_togo (hZ : v_Z (s.1 65) N sg) (hS : v_S s N sg) {S : Nat} (hSS : S < 4096) : ∀ (j k m m' : Nat), k + j = N → j < m → j < m' → ∀ x, d_R x → v_AP (F_X11_together_l28 s m (S : Int) x (k : Int)) (F_X12_together_l21 s m' (S : Int) x (k : Int)) := by
  have hN12 := hS.2.1
  intro j
  induction j with
  | zero =>
    intro k m m' hk hm hm' x hx
    obtain ⟨m, rfl⟩ : ∃ q, m = q + 1 := ⟨m - 1, by omega⟩
    obtain ⟨m', rfl⟩ : ∃ q, m' = q + 1 := ⟨m' - 1, by omega⟩
    refine ⟨x, ?_, ?_⟩
    · show F_X11_together_l28_b s (F_X11_together_l28 s m) _ _ _ = _
      unfold F_X11_together_l28_b
      rw [hS.1, if_neg (by omega)]
    · show F_X12_together_l21_b s (F_X12_together_l21 s m') _ _ _ = _
      unfold F_X12_together_l21_b
      rw [hZ.1, if_neg (by omega)]
  | succ j ih =>
    intro k m m' hk hm hm' x hx
    obtain ⟨m, rfl⟩ : ∃ q, m = q + 1 := ⟨m - 1, by omega⟩
    obtain ⟨m', rfl⟩ : ∃ q, m' = q + 1 := ⟨m' - 1, by omega⟩
    have hkN : k < N := by omega
    have hk1 : d_w ((k : Int) + 1) = ((k + 1 : Nat) : Int) := by rw [d_w_id (by omega) (by omega)]; rfl
    obtain ⟨y, y1, y2, y3⟩ := v_togi hZ hS hSS hkN (K := fun x2_u7 x3_u7 x4_u7 => F_X11_together_l28 s m x2_u7 x3_u7 (d_w (x4_u7 + 1))) (K' := fun x2_u9 x3_u9 x4_u9 => F_X12_together_l21 s m' x2_u9 x3_u9 (d_w (x4_u9 + 1))) j (k + 1) d_N d_N (by omega) (by rw [d_N_is]; omega) (by rw [d_N_is]; omega) x hx
    obtain ⟨w, w1, w2⟩ := ih (k + 1) m m' (by omega) (by omega) (by omega) y y1
    refine ⟨w, ?_, ?_⟩
    · show F_X11_together_l28_b s (F_X11_together_l28 s m) _ _ _ = _
      unfold F_X11_together_l28_b
      rw [hS.1, if_pos (by omega), hk1]
      refine y2.trans ?_
      show F_X11_together_l28 s m (S : Int) y (d_w ((k : Int) + 1)) = _
      rw [hk1]; exact w1
    · show F_X12_together_l21_b s (F_X12_together_l21 s m') _ _ _ = _
      unfold F_X12_together_l21_b
      rw [hZ.1, if_pos (by omega), hk1]
      refine y3.trans ?_
      show F_X12_together_l21 s m' (S : Int) y (d_w ((k : Int) + 1)) = _
      rw [hk1]; exact w2
theorem R_together (h : v_R t s) {x : Int} : v_AP (F_X11_together s x) (F_X12_together s x) := by
  obtain ⟨u, v, W, H, st, me, so, N, sg, hG, hQ, hB, hM, hZ, hS, hC, hBd⟩ := h.all
  have n10 : ¬ (1 : Int) = 0 := by decide
  unfold F_X11_together F_X12_together
  rw [P_isBlockC hQ, P_isBlock hG, d_b_t, d_b_t]
  by_cases c : 0 ≤ x ∧ x < ((v_bl u v : Nat) : Int)
  rotate_left
  · rw [v_bf c]; exact ⟨-1, rfl, rfl⟩
  obtain ⟨b, rfl⟩ : ∃ b : Nat, x = b := ⟨x.toNat, by omega⟩
  have hb : b < v_bl u v := by omega
  rw [v_bt c, if_neg n10, if_neg n10, P_sightsInC hQ hS hb, d_b_t, P_sightsIn hG hZ hb, d_b_t]
  exact v_togo hZ hS (show v_si sg u v W H N b < 4096 from v_sb12 hS.2.1) N 0 d_N d_N (by omega) (by rw [d_N_is]; have := hS.2.1; omega) (by rw [d_N_is]; have := hS.2.1; omega) 0 (d_rl rfl)
theorem P_meltsUnder (hT : v_CT t e L) (hK : v_K s (day, heat, ((st b : Nat) : Int), ((me b : Nat) : Int), x) ((so b : Nat) : Int)) {size edge : Int} (hb : v_tb s size edge) {y w : Int} (hy : 0 ≤ y ∧ y ≤ 2000) (hw : 0 ≤ w ∧ w ≤ 2000) : ∃ s', F_X0_meltsUnder t s e y w = some (v_mel L day y size w ((me b : Nat) : Int) edge, s') ∧ (∀ a, a ≠ 49 → a ≠ 50 → s'.1 a = s.1 a) ∧ s'.2 = s.2 ∧ v_Nm (s'.1 49) := by
  obtain ⟨⟨k6, k7, k8, k9, k5, k10⟩, ⟨o1, o2, o3, o4, o5⟩, -⟩ := hK
  have o1 : 0 ≤ day ∧ day ≤ 999 := o1
  have o4 : 0 ≤ ((me b : Nat) : Int) ∧ ((me b : Nat) : Int) ≤ 100 := o4
  obtain ⟨b3, b5, hN⟩ := hb
  obtain ⟨s1, hs1⟩ : ∃ q, q = d_si (d_si (d_si (d_si s 49 1 day) 49 2 y) 49 0 w) 49 4 ((me b : Nat) : Int) := ⟨_, rfl⟩
  have e49 : s1.1 49 = d_u (d_u (d_u (d_u (s.1 49) 1 day) 2 y) 0 w) 4 ((me b : Nat) : Int) := by rw [hs1]; exact v_told
  have eo : ∀ a, a ≠ 49 → s1.1 a = s.1 a := fun a ha => by rw [hs1, d_si_n ha, d_si_n ha, d_si_n ha, d_si_n ha]
  have hN1 : v_Nm (s1.1 49) := by
    rw [e49]
    exact (((hN.u (k := 1) (by omega) (by omega)).u (k := 2) (by omega) (by omega)).u (k := 0) (by omega) (by omega)).u (k := 4) (by omega) (by omega)
  have ep : s1.2 = s.2 := by rw [hs1]; rfl
  obtain ⟨s2, g1, g2⟩ := P_melts (s := s1) (t := t) (e := e) (L := L) hT hN1
  refine ⟨s2, ?_, fun a h1 h2 => by rw [g2.1 a (by intro h; simp at h; exact h2 h), eo a h1], g2.2.trans ep, by rw [g2.1 49 (by decide)]; exact hN1⟩
  unfold F_X0_meltsUnder
  rw [k6, k9]
  show d_b (F_X1_tellDay s day y w ((me b : Nat) : Int)) _ = _
  rw [P_tellDay, d_b_t, ← hs1, g1, d_b2_t, e49]
  congr 1
  refine Prod.ext ?_ rfl
  show v_mel L day y (s.1 49 3) w ((me b : Nat) : Int) (s.1 49 5) = _
  rw [b3, b5]
theorem P_part18 {n i : Nat} (hn : n < 8) (hi : i < 4) : F_X8_part_18 s (n : Int) (i : Int) = some (s.1 19 (4 * n + i)) := by
  unfold F_X8_part_18
  have e : d_w ((n : Int) * 4 + (i : Int)) = ((4 * n + i : Nat) : Int) := by rw [d_w_id (by omega) (by omega)]; omega
  rw [e, if_neg (by omega), if_pos (by omega), d_g_t (by omega), Int.toNat_natCast]
theorem v_allC (hM : v_M s st me so) (hQ : v_Q s u v W H) {e0 : Option Nat} (hE : F_X9_ruler_3 s = some e0) (hY : v_Y s (s.1 65 9) heat x) (hCT : v_CT t e L) {n : Nat} (hn : s.1 65 8 = n) (hn8 : n ≤ 8) (h18 : s.1 18 2 = n) (h19 : ∀ j i : Nat, j < n → i < 4 → s.1 19 (4 * j + i) = s.1 65 (355 + 4 * j + i)) (hI : ∀ j : Nat, j < n → (0 ≤ s.1 65 (355 + 4 * j) ∧ s.1 65 (355 + 4 * j) ≤ 63) ∧ (0 ≤ s.1 65 (356 + 4 * j) ∧ s.1 65 (356 + 4 * j) ≤ 9) ∧ (0 ≤ s.1 65 (357 + 4 * j) ∧ s.1 65 (357 + 4 * j) ≤ 9)) : ∀ (j k m : Nat), k + j = n → j < m → ∀ s1, v_cf s s1 → (∀ i, i < k → v_law (s.1 65) L u v W H me i) → ∃ s' r, F_X11_allSoBy_l2 t m e (k : Int) s1 = some (r, s') ∧ v_cf s s' ∧ ((r = 1 ∧ ∀ i, i < n → v_law (s.1 65) L u v W H me i) ∨ (r = 0 ∧ ¬ ∀ i, i < n → v_law (s.1 65) L u v W H me i)) := by
  intro j
  induction j with
  | zero =>
    intro k m hk hm s1 hc hl
    obtain ⟨m, rfl⟩ : ∃ q, m = q + 1 := ⟨m - 1, by omega⟩
    refine ⟨s1, 1, ?_, hc, Or.inl ⟨rfl, fun i hi => hl i (by omega)⟩⟩
    show F_X11_allSoBy_l2_b t (F_X11_allSoBy_l2 t m) _ _ s1 = _
    unfold F_X11_allSoBy_l2_b
    rw [hc.1 18 (by decide) (by decide) (by decide), h18, if_neg (by omega)]
  | succ j ih =>
    intro k m hk hm s1 hc hl
    obtain ⟨m, rfl⟩ : ∃ q, m = q + 1 := ⟨m - 1, by omega⟩
    have hkn : k < n := by omega
    obtain ⟨i1, i2, i3⟩ := hI k hkn
    have pt : ∀ {z : d_S}, v_cf s z → ∀ i : Nat, i < 4 → F_X8_part_18 z (k : Int) (i : Int) = some (s.1 65 (355 + 4 * k + i)) := fun hz i hi => by
      rw [P_part18 (by omega) hi, hz.1 19 (by decide) (by decide) (by decide), h19 k i hkn hi]
    have p0 : ∀ {z : d_S}, v_cf s z → F_X8_part_18 z (k : Int) 0 = some (s.1 65 (355 + 4 * k)) := fun hz => pt hz 0 (by decide)
    have p1 : ∀ {z : d_S}, v_cf s z → F_X8_part_18 z (k : Int) 1 = some (s.1 65 (356 + 4 * k)) := fun hz => by rw [show 356 + 4 * k = 355 + 4 * k + 1 by omega]; exact pt hz 1 (by decide)
    have p2 : ∀ {z : d_S}, v_cf s z → F_X8_part_18 z (k : Int) 2 = some (s.1 65 (357 + 4 * k)) := fun hz => by rw [show 357 + 4 * k = 355 + 4 * k + 2 by omega]; exact pt hz 2 (by decide)
    have p3 : ∀ {z : d_S}, v_cf s z → F_X8_part_18 z (k : Int) 3 = some (s.1 65 (358 + 4 * k)) := fun hz => by rw [show 358 + 4 * k = 355 + 4 * k + 3 by omega]; exact pt hz 3 (by decide)
    have hQ1 : v_Q s1 u v W H := hQ.fr (fun a h1 h2 => hc.1 a (by omega) (by omega) (by omega))
    show ∃ s' r, F_X11_allSoBy_l2_b t (F_X11_allSoBy_l2 t m) _ _ s1 = _ ∧ _
    unfold F_X11_allSoBy_l2_b
    rw [hc.1 18 (by decide) (by decide) (by decide), h18, if_pos (by omega), p0 hc, d_b_t, P_isBlockC hQ1, d_b_t]
    by_cases q : s.1 65 (355 + 4 * k) < ((v_bl u v : Nat) : Int)
    rotate_left
    · rw [v_bf (fun e => q e.2), if_pos rfl]
      exact ⟨s1, 0, rfl, hc, Or.inr ⟨rfl, fun e => q (e k hkn).1⟩⟩
    rw [v_bt ⟨i1.1, q⟩, if_neg (show ¬ (1 : Int) = 0 by decide)]
    obtain ⟨b, hb⟩ : ∃ b : Nat, s.1 65 (355 + 4 * k) = b := ⟨(s.1 65 (355 + 4 * k)).toNat, by omega⟩
    have hbl : b < v_bl u v := by omega
    have hY' := hY
    obtain ⟨⟨y1, y2, y3⟩, y4⟩ := hY'
    obtain ⟨s2, a1, a2, a3, a4, a5, a6, a7⟩ := P_start (s := s1) (hM.fr (hc.1 7 (by decide) (by decide) (by decide))) hQ1 hbl (e := e0) (by rw [P_ruler_fr (hc.1 3 (by decide) (by decide) (by decide)) (hc.2.1 5 (by decide))]; exact hE) (day := s.1 65 9) (heat := heat) (x := x) ⟨by rw [hc.1 6 (by decide) (by decide) (by decide)]; exact ⟨y1, y2, y3⟩, y4⟩ hc.2.2
    have hc2 : v_cf s s2 := ⟨fun a h1 h2 h3 => by rw [a6 a h1 h2, hc.1 a h1 h2 h3], fun a ha => by rw [a7 a ha, hc.2.1 a ha], a5.2.2⟩
    obtain ⟨s3, g1, g2, g3, g4⟩ := P_meltsUnder (t := t) (L := L) (e := e) hCT a2 a5 (y := s.1 65 (356 + 4 * k)) (w := s.1 65 (357 + 4 * k)) (by omega) (by omega)
    have hc3 : v_cf s s3 := ⟨fun a h1 h2 h3 => by rw [g2 a h2 h3, hc2.1 a h1 h2 h3], fun a ha => by rw [g3, hc2.2.1 a ha], g4⟩
    rw [hb, a1, d_b_t, p1 hc2, d_b_t, p2 hc2, d_b_t, g1, d_b2_t, p3 hc3, d_b_t]
    have hlaw : v_law (s.1 65) L u v W H me k ↔ v_mel L (s.1 65 9) (s.1 65 (356 + 4 * k)) ((v_sz u v W H b : Nat) : Int) (s.1 65 (357 + 4 * k)) ((me b : Nat) : Int) ((v_ed u v W H b : Nat) : Int) = s.1 65 (358 + 4 * k) := by
      unfold v_law
      rw [hb, Int.toNat_natCast]
      exact ⟨fun e => e.2, fun e => ⟨by omega, e⟩⟩
    by_cases q2 : v_mel L (s.1 65 9) (s.1 65 (356 + 4 * k)) ((v_sz u v W H b : Nat) : Int) (s.1 65 (357 + 4 * k)) ((me b : Nat) : Int) ((v_ed u v W H b : Nat) : Int) = s.1 65 (358 + 4 * k)
    · rw [if_pos q2, d_w_id (by omega) (by omega)]
      exact ih (k + 1) m (by omega) (by omega) s3 hc3 (fun i hi => by
        by_cases z : i = k
        · rw [z]; exact hlaw.2 q2
        · exact hl i (by omega))
    · rw [if_neg q2]
      exact ⟨s3, 0, rfl, hc3, Or.inr ⟨rfl, fun e => q2 (hlaw.1 (e k hkn))⟩⟩
theorem v_allR (hG : v_G (s.1 65) u v W H) (hB : v_B (s.1 65) st me so) {p : Nat} (hRT : v_RT (s.1 67) (p : Int) L) {n : Nat} (hn : s.1 65 8 = n) (hn8 : n ≤ 8) (h9 : 0 ≤ s.1 65 9 ∧ s.1 65 9 ≤ 999) (hI : ∀ j : Nat, j < n → (0 ≤ s.1 65 (355 + 4 * j) ∧ s.1 65 (355 + 4 * j) ≤ 63) ∧ (0 ≤ s.1 65 (356 + 4 * j) ∧ s.1 65 (356 + 4 * j) ≤ 9) ∧ (0 ≤ s.1 65 (357 + 4 * j) ∧ s.1 65 (357 + 4 * j) ≤ 9)) : ∀ (j k m : Nat), k + j = n → j < m → ∀ s1, v_71 s s1 → v_Nm (s1.1 71) → (∀ i, i < k → v_law (s.1 65) L u v W H me i) → ∃ s' r, F_X12_isLaw_l2 m (p : Int) (k : Int) s1 = some (r, s') ∧ v_71 s s' ∧ v_Nm (s'.1 71) ∧ ((r = 1 ∧ ∀ i, i < n → v_law (s.1 65) L u v W H me i) ∨ (r = 0 ∧ ¬ ∀ i, i < n → v_law (s.1 65) L u v W H me i)) := by
  intro j
  induction j with
  | zero =>
    intro k m hk hm s1 hc hN hl
    obtain ⟨m, rfl⟩ : ∃ q, m = q + 1 := ⟨m - 1, by omega⟩
    refine ⟨s1, 1, ?_, hc, hN, Or.inl ⟨rfl, fun i hi => hl i (by omega)⟩⟩
    show F_X12_isLaw_l2_b (F_X12_isLaw_l2 m) _ _ s1 = _
    unfold F_X12_isLaw_l2_b
    rw [hc.1 65 (by decide), hn, if_neg (by omega)]
  | succ j ih =>
    intro k m hk hm s1 hc hN hl
    obtain ⟨m, rfl⟩ : ∃ q, m = q + 1 := ⟨m - 1, by omega⟩
    have hkn : k < n := by omega
    obtain ⟨i1, i2, i3⟩ := hI k hkn
    have e65 : s1.1 65 = s.1 65 := hc.1 65 (by decide)
    have w0 : d_w (355 + 4 * (k : Int)) = 355 + 4 * (k : Int) := d_w_id (by omega) (by omega)
    have w1 : d_w (355 + 4 * (k : Int) + 1) = 355 + 4 * (k : Int) + 1 := d_w_id (by omega) (by omega)
    have w2 : d_w (355 + 4 * (k : Int) + 2) = 355 + 4 * (k : Int) + 2 := d_w_id (by omega) (by omega)
    have w3 : d_w (355 + 4 * (k : Int) + 3) = 355 + 4 * (k : Int) + 3 := d_w_id (by omega) (by omega)
    have t0 : (355 + 4 * (k : Int)).toNat = 355 + 4 * k := by omega
    have t1 : (355 + 4 * (k : Int) + 1).toNat = 356 + 4 * k := by omega
    have t2 : (355 + 4 * (k : Int) + 2).toNat = 357 + 4 * k := by omega
    have t3 : (355 + 4 * (k : Int) + 3).toNat = 358 + 4 * k := by omega
    have hG1 : v_G (s1.1 65) u v W H := by rw [e65]; exact hG
    have hB1 : v_B (s1.1 65) st me so := by rw [e65]; exact hB
    show ∃ s' r, F_X12_isLaw_l2_b (F_X12_isLaw_l2 m) _ _ s1 = _ ∧ _
    unfold F_X12_isLaw_l2_b
    rw [e65, hn, if_pos (by omega), w0, d_g_t (by omega), t0, P_isBlock hG1, d_b_t]
    by_cases q : s.1 65 (355 + 4 * k) < ((v_bl u v : Nat) : Int)
    rotate_left
    · rw [v_bf (fun e => q e.2), if_pos rfl]
      exact ⟨s1, 0, rfl, hc, hN, Or.inr ⟨rfl, fun e => q (e k hkn).1⟩⟩
    obtain ⟨b, hb⟩ : ∃ b : Nat, s.1 65 (355 + 4 * k) = b := ⟨(s.1 65 (355 + 4 * k)).toNat, by omega⟩
    have hbl : b < v_bl u v := by omega
    have hb64 : b < 64 := by omega
    obtain ⟨-, m1, m2, m3⟩ := hB b hb64
    obtain ⟨s2, g1, g2⟩ := P_meltsBy (s := s1) (k := (p : Int)) (L := L) hG1 hbl (by rw [hc.1 67 (by decide)]; exact hRT) hN (day := s.1 65 9) (heat := s.1 65 (356 + 4 * k)) (straw := s.1 65 (357 + 4 * k)) (melted := ((me b : Nat) : Int)) (by omega) (by omega) (by omega) (by omega)
    have hc2 : v_71 s s2 := ⟨fun a ha => (g2.1 a ha).trans (hc.1 a ha), g2.2.1.trans hc.2.1, fun h => g2.2.2 hN⟩
    rw [v_bt ⟨i1.1, q⟩, if_neg (show ¬ (1 : Int) = 0 by decide), d_g_t (by omega), w1, w2, w3, d_g_t (by omega), d_g_t (by omega), d_g_t (by omega), t1, t2, t3, hb, P_get1 hB1 hb64, d_b_t, g1, d_b2_t, d_g_t (by omega), g2.1 65 (by decide), e65]
    have hlaw : v_law (s.1 65) L u v W H me k ↔ v_mel L (s.1 65 9) (s.1 65 (356 + 4 * k)) ((v_sz u v W H b : Nat) : Int) (s.1 65 (357 + 4 * k)) ((me b : Nat) : Int) ((v_ed u v W H b : Nat) : Int) = s.1 65 (358 + 4 * k) := by
      unfold v_law
      rw [hb, Int.toNat_natCast]
      exact ⟨fun e => e.2, fun e => ⟨by omega, e⟩⟩
    by_cases q2 : v_mel L (s.1 65 9) (s.1 65 (356 + 4 * k)) ((v_sz u v W H b : Nat) : Int) (s.1 65 (357 + 4 * k)) ((me b : Nat) : Int) ((v_ed u v W H b : Nat) : Int) = s.1 65 (358 + 4 * k)
    · rw [if_pos q2, d_w_id (by omega) (by omega)]
      exact ih (k + 1) m (by omega) (by omega) s2 hc2 (g2.2.2 hN) (fun i hi => by
        by_cases z : i = k
        · rw [z]; exact hlaw.2 q2
        · exact hl i (by omega))
    · rw [if_neg q2]
      exact ⟨s2, 0, rfl, hc2, g2.2.2 hN, Or.inr ⟨rfl, fun e => q2 (hlaw.1 (e k hkn))⟩⟩
end V35
section V36
variable {s s1 s2 : d_S} {t : Nat → Option p_C}
theorem R_whoseLaw (h : v_R t s) : v_AA t (F_X11_whoseLaw t s) (fun s1 => F_X12_whoseLaw s1) := by
  have h' := h
  obtain ⟨hW, hI, -, -, -, -, ⟨r, hr, -⟩, hN, -⟩ := h'
  have hG := hI.G
  have hB := hI.B
  have hM := hW.M hI
  have hQ := h.2.2.2.2.2.1
  obtain ⟨e0, L0, hE, -, -, hY, hN1, hN2, h9, h10⟩ := h.yardly
  obtain ⟨⟨-, -, -, -, w5, w6⟩, -⟩ := hW.1
  have w5 : s.1 3 5 = s.1 65 1 := w5
  obtain ⟨-, -, -, -, -, g1, g2⟩ := hW.2.2.2
  have g1 : s.1 18 2 = s.1 65 8 := g1
  obtain ⟨t1, t2, -, -, -, -, k8, -, -, -, -, q8⟩ := hI.2.2.1
  obtain ⟨n, hn⟩ : ∃ n : Nat, s.1 65 8 = n := ⟨(s.1 65 8).toNat, by omega⟩
  obtain ⟨N, hNt⟩ : ∃ N : Nat, s.1 65 1 = N := ⟨(s.1 65 1).toNat, by omega⟩
  have hn8 : n ≤ 8 := by omega
  have hN4 : N ≤ 4 := by omega
  have hIm : ∀ j : Nat, j < n → (0 ≤ s.1 65 (355 + 4 * j) ∧ s.1 65 (355 + 4 * j) ≤ 63) ∧ (0 ≤ s.1 65 (356 + 4 * j) ∧ s.1 65 (356 + 4 * j) ≤ 9) ∧ (0 ≤ s.1 65 (357 + 4 * j) ∧ s.1 65 (357 + 4 * j) ≤ 9) := fun j hj => by
    have := q8 j (by omega)
    exact ⟨this.1, this.2.1, this.2.2.1⟩
  have hP : ∀ k, v_laws (s.1 65) r (v_u (s.1 65)) (v_v (s.1 65)) (v_wi (s.1 65)) (v_hi (s.1 65)) (v_me (s.1 65)) k ↔ ∀ i, i < n → v_law (s.1 65) (r k).2.2.2 (v_u (s.1 65)) (v_v (s.1 65)) (v_wi (s.1 65)) (v_hi (s.1 65)) (v_me (s.1 65)) i := fun k => by
    unfold v_laws
    rw [hn]
    exact ⟨fun e i hi => e i (by omega), fun e i hi => e i (by omega)⟩
  have hcf : v_cf s s := ⟨fun _ _ _ _ => rfl, fun _ _ => rfl, hN1⟩
  
  have lC : ∀ (j k m : Nat), k + j = N → j < m → ∀ s1, v_cf s s1 → ∃ s', F_X11_whoseLaw_l4 t m ((v_sb (v_laws (s.1 65) r (v_u (s.1 65)) (v_v (s.1 65)) (v_wi (s.1 65)) (v_hi (s.1 65)) (v_me (s.1 65))) k : Nat) : Int) (k : Int) s1 = some (((v_sb (v_laws (s.1 65) r (v_u (s.1 65)) (v_v (s.1 65)) (v_wi (s.1 65)) (v_hi (s.1 65)) (v_me (s.1 65))) N : Nat) : Int), s') ∧ v_cf s s' := by
    intro j
    induction j with
    | zero =>
      intro k m hk hm s1 hc
      obtain ⟨m, rfl⟩ : ∃ q, m = q + 1 := ⟨m - 1, by omega⟩
      have hk : k = N := by omega
      subst hk
      refine ⟨s1, ?_, hc⟩
      show F_X11_whoseLaw_l4_b t (F_X11_whoseLaw_l4 t m) _ _ s1 = _
      unfold F_X11_whoseLaw_l4_b
      rw [hc.1 3 (by decide) (by decide) (by decide), w5, hNt, if_neg (by omega)]
    | succ j ih =>
      intro k m hk hm s1 hc
      obtain ⟨m, rfl⟩ : ∃ q, m = q + 1 := ⟨m - 1, by omega⟩
      have hkN : k < N := by omega
      obtain ⟨-, b, hb, hC⟩ := hr k (by omega)
      have hta : F_X9_textAt_3 s1 (k : Int) = some (some b) := by
        rw [P_textAt (A := s.1 65) (by rw [hc.1 3 (by decide) (by decide) (by decide)]; exact w5) t1, if_pos (by omega), hc.2.1 5 (by decide), Int.toNat_natCast, hb]
      obtain ⟨s2, y, a1, a2, a3⟩ := v_allC (t := t) (L := (r k).2.2.2) (e := some b) hM hQ hE (heat := s.1 65 10) (x := s.1 65 13) hY hC.2.2.2.2 hn hn8 (by rw [g1, hn]) (fun j i hj hi => g2 j i (by omega) hi) hIm n 0 d_N (by omega) (by rw [d_N_is]; omega) s1 hc (fun i hi => absurd hi (Nat.not_lt_zero i))
      obtain ⟨s', r1, r2⟩ := ih (k + 1) m (by omega) (by omega) s2 a2
      have hlt : v_sb (v_laws (s.1 65) r (v_u (s.1 65)) (v_v (s.1 65)) (v_wi (s.1 65)) (v_hi (s.1 65)) (v_me (s.1 65))) k < 2 ^ k := v_sb_lt k
      have h12 := v_2p (n := k) (by omega)
      refine ⟨s', ?_, r2⟩
      show F_X11_whoseLaw_l4_b t (F_X11_whoseLaw_l4 t m) _ _ s1 = _
      unfold F_X11_whoseLaw_l4_b
      rw [hc.1 3 (by decide) (by decide) (by decide), w5, hNt, if_pos (by omega), hta, d_b_t]
      rw [show F_X11_allSoBy t s1 (some b) = some (y, s2) from a1, d_b2_t, d_w_id (x := (k : Int) + 1) (by omega) (by omega)]
      simp only [v_sb] at r1
      rcases a3 with ⟨e1, e2⟩ | ⟨e1, e2⟩
      · rw [if_pos ((hP k).2 e2)] at r1
        rw [e1, v_bit1_, d_b_t, v_or1 (by omega) hlt]
        exact r1
      · rw [if_neg (fun e => e2 ((hP k).1 e))] at r1
        rw [e1, v_bit0_, d_b_t, v_0shl (by omega), v_or0 ⟨by omega, by omega⟩]
        exact r1
  
  have lR : ∀ (j k m : Nat), k + j = N → j < m → ∀ s0 s1, s0.1 65 = s.1 65 → s0.1 67 = s.1 67 → v_71 s0 s1 → v_Nm (s1.1 71) → ∃ s', F_X12_whoseLaw_l4 m ((v_sb (v_laws (s.1 65) r (v_u (s.1 65)) (v_v (s.1 65)) (v_wi (s.1 65)) (v_hi (s.1 65)) (v_me (s.1 65))) k : Nat) : Int) (k : Int) s1 = some (((v_sb (v_laws (s.1 65) r (v_u (s.1 65)) (v_v (s.1 65)) (v_wi (s.1 65)) (v_hi (s.1 65)) (v_me (s.1 65))) N : Nat) : Int), s') ∧ v_71 s0 s' ∧ v_Nm (s'.1 71) := by
    intro j
    induction j with
    | zero =>
      intro k m hk hm s0 s1 h65 h67 hc hN
      obtain ⟨m, rfl⟩ : ∃ q, m = q + 1 := ⟨m - 1, by omega⟩
      have hk : k = N := by omega
      subst hk
      refine ⟨s1, ?_, hc, hN⟩
      show F_X12_whoseLaw_l4_b (F_X12_whoseLaw_l4 m) _ _ s1 = _
      unfold F_X12_whoseLaw_l4_b
      rw [hc.1 65 (by decide), h65, hNt, if_neg (by omega)]
    | succ j ih =>
      intro k m hk hm s0 s1 h65 h67 hc hN
      obtain ⟨m, rfl⟩ : ∃ q, m = q + 1 := ⟨m - 1, by omega⟩
      have hkN : k < N := by omega
      obtain ⟨hD, -⟩ := hr k (by omega)
      obtain ⟨s2, y, a1, a2, a3, a4⟩ := v_allR (s := s0) (p := k) (L := (r k).2.2.2) (by rw [h65]; exact hG) (by rw [h65]; exact hB) (by rw [h67]; exact hD.2.2) (by rw [h65]; exact hn) hn8 (by rw [h65]; exact h9) (by rw [h65]; exact hIm) n 0 d_N (by omega) (by rw [d_N_is]; omega) s1 hc hN (fun i hi => absurd hi (Nat.not_lt_zero i))
      rw [h65] at a4
      obtain ⟨s', r1, r2, r3⟩ := ih (k + 1) m (by omega) (by omega) s0 s2 h65 h67 a2 a3
      have hlt : v_sb (v_laws (s.1 65) r (v_u (s.1 65)) (v_v (s.1 65)) (v_wi (s.1 65)) (v_hi (s.1 65)) (v_me (s.1 65))) k < 2 ^ k := v_sb_lt k
      have h12 := v_2p (n := k) (by omega)
      refine ⟨s', ?_, r2, r3⟩
      show F_X12_whoseLaw_l4_b (F_X12_whoseLaw_l4 m) _ _ s1 = _
      unfold F_X12_whoseLaw_l4_b
      rw [hc.1 65 (by decide), h65, hNt, if_pos (by omega), show F_X12_isLaw s1 (k : Int) = some (y, s2) from a1, d_b2_t, d_w_id (x := (k : Int) + 1) (by omega) (by omega)]
      simp only [v_sb] at r1
      rcases a4 with ⟨e1, e2⟩ | ⟨e1, e2⟩
      · rw [if_pos ((hP k).2 e2)] at r1
        rw [e1, if_neg (by decide), v_or1 (by omega) hlt]
        exact r1
      · rw [if_neg (fun e => e2 ((hP k).1 e))] at r1
        rw [e1, if_pos rfl, v_or0 ⟨by omega, by omega⟩]
        exact r1
  obtain ⟨s1, a1, a2⟩ := lC N 0 d_N (by omega) (by rw [d_N_is]; omega) s hcf
  obtain ⟨s2, b1, b2, b3⟩ := lR N 0 d_N (by omega) (by rw [d_N_is]; omega) s1 s1 (a2.1 65 (by decide) (by decide) (by decide)) (a2.1 67 (by decide) (by decide) (by decide)) ⟨fun _ _ => rfl, rfl, fun h => h⟩ (by rw [a2.1 71 (by decide) (by decide) (by decide)]; exact hN2)
  exact ⟨_, s1, s2, a1, b1, h.scr2 a2.1 a2.2.1 b2 a2.2.2⟩
end V36
section V37
variable {s s1 s2 : d_S} {t : Nat → Option p_C} {L : v_LR} {u v W H b N n : Nat} {st me so : Nat → Nat} {sg : Nat → Nat → Nat} {day heat x : Int} {e : Option Nat}
theorem v_remL_ : ∀ a : Nat, a < 82 → ∀ b : Nat, b < 82 → ¬ b = 0 → d_remL (a : Int) (b : Int) = ((a % b : Nat) : Int) := by decide +kernel
theorem v_divL_ : ∀ a : Nat, a < 82 → ∀ b : Nat, b < 82 → ¬ b = 0 → d_divL (a : Int) (b : Int) = ((a / b : Nat) : Int) := by decide +kernel
theorem v_gcC {K : Int → Option Int} : ∀ (b a : Nat), b < 82 → a < 82 → ∀ (k m : Nat), k + b < 63 → b + 1 < m → F_X11_divisor_l13 K m (a : Int) (b : Int) (k : Int) = K ((Nat.gcd a b : Nat) : Int) := by
  intro b
  induction b using Nat.strongRecOn with
  | ind b ih =>
    intro a hb ha k m hk hm
    obtain ⟨m, rfl⟩ : ∃ q, m = q + 1 := ⟨m - 1, by omega⟩
    show F_X11_divisor_l13_b K (F_X11_divisor_l13 K m) _ _ _ = _
    unfold F_X11_divisor_l13_b
    rw [if_pos (by omega)]
    by_cases q : b = 0
    · rw [if_pos (by omega), q, Nat.gcd_zero_right]
    · have hlt := Nat.mod_lt a (show 0 < b by omega)
      rw [if_neg (by omega), d_g_t (by omega), v_rem (by omega) (by omega), d_w_id (by omega) (by omega)]
      have := ih (a % b) hlt b (by omega) (by omega) (k + 1) m (by omega) (by omega)
      rw [Nat.gcd_comm a b, Nat.gcd_rec b a, Nat.gcd_comm]
      exact this
theorem v_gcR : ∀ (b a : Nat), b < 82 → a < 82 → ∀ m : Nat, b + 1 < m → F_X12_gcd_l17 m (a : Int) (b : Int) = some ((Nat.gcd a b : Nat) : Int) := by
  intro b
  induction b using Nat.strongRecOn with
  | ind b ih =>
    intro a hb ha m hm
    obtain ⟨m, rfl⟩ : ∃ q, m = q + 1 := ⟨m - 1, by omega⟩
    show F_X12_gcd_l17_b (F_X12_gcd_l17 m) _ _ = _
    unfold F_X12_gcd_l17_b
    by_cases q : b = 0
    · rw [if_pos (by omega), q, Nat.gcd_zero_right]
    · have hlt := Nat.mod_lt a (show 0 < b by omega)
      rw [if_neg (by omega), d_g_t (by omega), v_remL_ a ha b hb q]
      have := ih (a % b) hlt b (by omega) (by omega) m (by omega)
      rw [Nat.gcd_comm a b, Nat.gcd_rec b a, Nat.gcd_comm]
      exact this
theorem v_cm_le2 {a l c m : Nat} : v_cm a l c m ≤ l := by unfold v_cm; omega
theorem R_kiss (h : v_R t s) {x1 x2 x3 : Int} : v_AP (F_X11_kiss s x1 x2 x3) (F_X12_kiss s x1 x2 x3) := by
  obtain ⟨u, v, W, H, st, me, so, N, sg, hG, hQ, hB, hM, hZ, hS, hC, hBd⟩ := h.all
  have n10 : ¬ (1 : Int) = 0 := by decide
  unfold v_AP F_X11_kiss F_X12_kiss
  rw [P_isSightC hS, d_b_t, P_isSight hZ, d_b_t]
  by_cases c1 : 0 ≤ x1 ∧ x1 < (N : Int)
  rotate_left
  · rw [v_bf c1]; exact ⟨-1, rfl, rfl⟩
  rw [v_bt c1, if_neg n10, if_neg n10, P_isBlockC hQ, P_isBlock hG, d_b_t, d_b_t]
  by_cases c2 : 0 ≤ x2 ∧ x2 < ((v_bl u v : Nat) : Int)
  rotate_left
  · rw [v_bf c2]; exact ⟨-1, rfl, rfl⟩
  obtain ⟨n, rfl⟩ : ∃ n : Nat, x1 = n := ⟨x1.toNat, by omega⟩
  obtain ⟨b, rfl⟩ : ∃ b : Nat, x2 = b := ⟨x2.toNat, by omega⟩
  have hn : n < N := by omega
  have hb : b < v_bl u v := by omega
  obtain ⟨g3, g4, -⟩ := hBd n hn
  have hA : sg n 3 * sg n 4 ≤ 3 * 3 := Nat.mul_le_mul g3.2 g4.2
  have hA1 : 1 * 1 ≤ sg n 3 * sg n 4 := Nat.mul_le_mul g3.1 g4.1
  have hce : v_ce sg u v W H n b ≤ 3 * 3 := Nat.mul_le_mul (Nat.le_trans v_cm_le2 g3.2) (Nat.le_trans v_cm_le2 g4.2)
  have ar : F_X12_areaOf s (n : Int) = some ((sg n 3 * sg n 4 : Nat) : Int) := by
    have e3 : F_X12_sightOf s (n : Int) 3 = _ := P_sightOf hZ hn (k := 3) (by decide)
    have e4 : F_X12_sightOf s (n : Int) 4 = _ := P_sightOf hZ hn (k := 4) (by decide)
    unfold F_X12_areaOf
    rw [e3, d_b_t, e4, d_b_t, ← Int.natCast_mul, d_w_id (by omega) (by omega)]
  obtain ⟨A, hAe⟩ : ∃ A, A = sg n 3 * sg n 4 := ⟨_, rfl⟩
  obtain ⟨C, hCe⟩ : ∃ C, C = v_ce sg u v W H n b := ⟨_, rfl⟩
  rw [v_bt c2, if_neg n10, if_neg n10, P_cellsOfC hQ hS hb hn, d_b_t, P_cellsIn hG hZ hb hn, d_b_t, P_sightPart hS hn (by decide) (by decide), d_b_t, P_sightPart hS hn (by decide) (by decide), d_b_t, show (3 : Int).toNat = 3 from rfl, show (4 : Int).toNat = 4 from rfl, ← Int.natCast_mul, ar, d_b_t, d_w_id (x := ((sg n 3 * sg n 4 : Nat) : Int)) (by omega) (by omega), ← hAe, ← hCe]
  have hg1 : 1 ≤ Nat.gcd C A := Nat.gcd_pos_of_pos_right C (by omega)
  have hg2 : Nat.gcd C A ≤ A := Nat.gcd_le_right C (by omega)
  have hdv : F_X11_divisor (C : Int) (A : Int) = some ((Nat.gcd C A : Nat) : Int) := by
    unfold F_X11_divisor F_J9_abs_0f7a4
    rw [if_neg (by omega), d_b_t, if_neg (by omega), d_b_t]
    refine (v_gcC A C (by omega) (by omega) 0 d_N (by omega) (by rw [d_N_is]; omega)).trans ?_
    show d_b (F_J9_max_7cf53 1 ((Nat.gcd C A : Nat) : Int)) _ = _
    rw [P_max, d_b_t, show max (1 : Int) ((Nat.gcd C A : Nat) : Int) = ((Nat.gcd C A : Nat) : Int) by omega]
  have hgc : F_X12_gcd (C : Int) (A : Int) = some ((Nat.gcd C A : Nat) : Int) := by
    unfold F_X12_gcd F_X12_gcd_j12
    rw [if_neg (by omega), v_gcR A C (by omega) (by omega) d_N (by rw [d_N_is]; omega)]
  unfold F_X11_kiss_j65 F_X12_part F_X12_part_j10
  rw [hdv, hgc, d_b_t]
  have hq : ∀ y : Nat, y < 82 → d_w (d_divL (y : Int) ((Nat.gcd C A : Nat) : Int)) = d_div (y : Int) ((Nat.gcd C A : Nat) : Int) := fun y hy => by
    have := Nat.div_le_self y (Nat.gcd C A)
    rw [v_divL_ y hy _ (by omega) (by omega), v_div (by omega) (by omega)]
    generalize y / Nat.gcd C A = w at this ⊢
    exact d_w_id (by omega) (by omega)
  by_cases q : x3 = 0
  · rw [if_pos q, if_pos q, d_b_t, d_g_t (by omega), d_g_t (by omega), d_b_t, hq C (by omega)]; exact ⟨_, rfl, rfl⟩
  · rw [if_neg q, if_neg q, d_b_t, d_g_t (by omega), d_b_t, d_g_t (by omega), d_b_t, hq A (by omega)]; exact ⟨_, rfl, rfl⟩
end V37
section V38
variable {s s1 s2 : d_S} {t : Nat → Option p_C} {L : v_LR} {u v W H b N n : Nat} {st me so : Nat → Nat} {sg : Nat → Nat → Nat} {day heat x : Int} {e : Option Nat}
def v_pr1 (L : v_LR) (sg : Nat → Nat → Nat) (u v W H N : Nat) (day heat : Int) (st me : Nat → Nat) (b : Nat) : Int := v_sel L day heat ((v_sz u v W H b : Nat) : Int) ((st b : Nat) : Int) ((me b : Nat) : Int) ((v_ed u v W H b : Nat) : Int) ((v_pc (v_si sg u v W H N b) 12 : Nat) : Int) ((v_ki sg u v W H N b : Nat) : Int)
theorem P_sellsNow (hM : v_M s st me so) (hQ : v_Q s u v W H) (hS : v_S s N sg) (hE : F_X9_ruler_3 s = some e) (hCT : v_CT t e L) (hY : v_Y s day heat x) (hc : v_cf s s1) (hb : b < v_bl u v) : ∃ s2, F_X11_sellsNow t s1 (b : Int) = some (v_pr1 L sg u v W H N day heat st me b, s2) ∧ v_cf s s2 := by
  have hY' := hY
  obtain ⟨⟨y1, y2, y3⟩, y4⟩ := hY'
  obtain ⟨z1, a1, a2, a3, a4, a5, a6, a7⟩ := P_start (s := s1) (hM.fr (hc.1 7 (by decide) (by decide) (by decide))) (hQ.fr (fun a h1 h2 => hc.1 a (by omega) (by omega) (by omega))) hb (e := e) (by rw [P_ruler_fr (hc.1 3 (by decide) (by decide) (by decide)) (hc.2.1 5 (by decide))]; exact hE) (day := day) (heat := heat) (x := x) ⟨by rw [hc.1 6 (by decide) (by decide) (by decide)]; exact ⟨y1, y2, y3⟩, y4⟩ hc.2.2
  have hc2 : v_cf s z1 := ⟨fun a h1 h2 h3 => by rw [a6 a h1 h2, hc.1 a h1 h2 h3], fun a ha => by rw [a7 a ha, hc.2.1 a ha], a5.2.2⟩
  obtain ⟨z2, b1, b2, b3, b4⟩ := P_sellsAt (L := L) (b := b) (by rw [a4]; exact hCT) a2 a5 (hQ.fr (fun a h1 h2 => hc2.1 a (by omega) (by omega) (by omega))) (N := N) (sg := sg) (by
      unfold v_S at hS ⊢
      rw [hc2.1 3 (by decide) (by decide) (by decide), hc2.1 4 (by decide) (by decide) (by decide)]; exact hS) a3 hb
  refine ⟨z2, ?_, ⟨fun a h1 h2 h3 => by rw [b2 a h2 h3, hc2.1 a h1 h2 h3], fun a ha => by rw [b3, hc2.2.1 a ha], b4⟩⟩
  unfold F_X11_sellsNow
  rw [a1, d_b_t, b1, d_b2_t]; rfl
abbrev v_hk (sg : Nat → Nat → Nat) (u v W H N y b : Nat) : Prop := ∃ n, n < N ∧ sg n 0 = y ∧ 0 < v_ce sg u v W H n b
theorem v_sofl {y : Nat} (hS : v_S s N sg) : ∀ (j k m : Nat), k + j = N → j < m → F_X11_sightsOf_l4 s m (y : Int) ((v_sb (fun n => sg n 0 = y) k : Nat) : Int) (k : Int) = some ((v_sb (fun n => sg n 0 = y) N : Nat) : Int) := by
  intro j
  induction j with
  | zero =>
    intro k m hk hm
    obtain ⟨m, rfl⟩ : ∃ q, m = q + 1 := ⟨m - 1, by omega⟩
    have hk : k = N := by omega
    subst hk
    show F_X11_sightsOf_l4_b s (F_X11_sightsOf_l4 s m) _ _ _ = _
    unfold F_X11_sightsOf_l4_b
    rw [hS.1, if_neg (by omega)]
  | succ j ih =>
    intro k m hk hm
    obtain ⟨m, rfl⟩ : ∃ q, m = q + 1 := ⟨m - 1, by omega⟩
    have hkN : k < N := by omega
    have hN12 := hS.2.1
    have hr := ih (k + 1) m (by omega) (by omega)
    have hlt : v_sb (fun n => sg n 0 = y) k < 2 ^ k := v_sb_lt k
    have h12 := v_2p (n := k) (by omega)
    show F_X11_sightsOf_l4_b s (F_X11_sightsOf_l4 s m) _ _ _ = _
    unfold F_X11_sightsOf_l4_b
    simp only [v_sb] at hr
    rw [hS.1, if_pos (by omega), P_sightPart hS hkN (by decide) (by decide), d_b_t, show (0 : Int).toNat = 0 from rfl, d_w_id (x := (k : Int) + 1) (by omega) (by omega), v_bit1_, v_bit0_, d_b_t, d_b_t]
    by_cases q : sg k 0 = y
    · rw [if_pos q] at hr
      rw [if_pos (by omega), v_or1 (by omega) hlt]
      exact hr
    · rw [if_neg q] at hr
      rw [if_neg (by omega), v_0shl (by omega), v_or0 ⟨by omega, by omega⟩]
      exact hr
theorem P_sightsOf {y : Nat} (hS : v_S s N sg) : F_X11_sightsOf s (y : Int) = some ((v_sb (fun n => sg n 0 = y) N : Nat) : Int) := by
  unfold F_X11_sightsOf
  exact v_sofl hS N 0 d_N (by omega) (by rw [d_N_is]; have := hS.2.1; omega)
theorem v_sb_and {P Q : Nat → Prop} [DecidablePred P] [DecidablePred Q] {k : Nat} : v_sb P k &&& v_sb Q k = 0 ↔ ∀ n, n < k → ¬ (P n ∧ Q n) := by
  constructor
  · intro h n hn hpq
    have := congrArg (fun z => Nat.testBit z n) h
    simp only [Nat.testBit_and, v_sb_tb, Nat.zero_testBit] at this
    simp [hn, hpq.1, hpq.2] at this
  · intro h
    refine Nat.eq_of_testBit_eq (fun i => ?_)
    rw [Nat.testBit_and, v_sb_tb, v_sb_tb, Nat.zero_testBit]
    by_cases q : i < k
    · have := h i q
      by_cases p1 : P i <;> by_cases p2 : Q i <;> simp [q, p1, p2] at this ⊢
    · simp [q]
noncomputable def v_us (L : v_LR) (sg : Nat → Nat → Nat) (u v W H N : Nat) (day heat : Int) (st me so : Nat → Nat) (y : Nat) : Nat → Int
  | 0 => 0
  | k + 1 => if so k = 0 ∧ v_hk sg u v W H N y k then d_w (v_us L sg u v W H N day heat st me so y k + v_pr1 L sg u v W H N day heat st me k) else v_us L sg u v W H N day heat st me so y k
theorem v_us_R {y : Nat} : ∀ k, d_R (v_us L sg u v W H N day heat st me so y k)
  | 0 => d_rl rfl
  | k + 1 => by
    simp only [v_us]
    split
    · exact d_R_w
    · exact v_us_R k
theorem v_unCl {y : Nat} (hM : v_M s st me so) (hQ : v_Q s u v W H) (hS : v_S s N sg) (hE : F_X9_ruler_3 s = some e) (hCT : v_CT t e L) (hY : v_Y s day heat x) : ∀ (j k m : Nat), k + j = v_bl u v → j < m → ∀ s1, v_cf s s1 → ∃ s', F_X11_unseen_l46 t m ((v_sb (fun n => sg n 0 = y) N : Nat) : Int) (v_us L sg u v W H N day heat st me so y k) (k : Int) s1 = some (v_us L sg u v W H N day heat st me so y (v_bl u v), s') ∧ v_cf s s' := by
  have h64 := hQ.2.2.1
  intro j
  induction j with
  | zero =>
    intro k m hk hm s1 hc
    obtain ⟨m, rfl⟩ : ∃ q, m = q + 1 := ⟨m - 1, by omega⟩
    have hk : k = v_bl u v := by omega
    subst hk
    refine ⟨s1, ?_, hc⟩
    show F_X11_unseen_l46_b t (F_X11_unseen_l46 t m) _ _ _ s1 = _
    unfold F_X11_unseen_l46_b
    rw [hc.1 37 (by decide) (by decide) (by decide), hQ.1, if_neg (by omega)]
  | succ j ih =>
    intro k m hk hm s1 hc
    obtain ⟨m, rfl⟩ : ∃ q, m = q + 1 := ⟨m - 1, by omega⟩
    have hkb : k < v_bl u v := by omega
    have hQ1 : v_Q s1 u v W H := hQ.fr (fun a h1 h2 => hc.1 a (by omega) (by omega) (by omega))
    have hS1 : v_S s1 N sg := by
      unfold v_S at hS ⊢
      rw [hc.1 3 (by decide) (by decide) (by decide), hc.1 4 (by decide) (by decide) (by decide)]; exact hS
    have hM1 : v_M s1 st me so := hM.fr (hc.1 7 (by decide) (by decide) (by decide))
    have l1 : v_si sg u v W H N k < 4096 := v_sb12 hS.2.1
    have l2 : v_sb (fun n => sg n 0 = y) N < 4096 := v_sb12 hS.2.1
    have hand : v_si sg u v W H N k &&& v_sb (fun n => sg n 0 = y) N = 0 ↔ ¬ v_hk sg u v W H N y k := by
      unfold v_si
      rw [v_sb_and]
      exact ⟨fun h => by rintro ⟨n, h1, h2, h3⟩; exact h n h1 ⟨h3, h2⟩, fun h n h1 h2 => h ⟨n, h1, h2.2, h2.1⟩⟩
    show ∃ s', F_X11_unseen_l46_b t (F_X11_unseen_l46 t m) _ _ _ s1 = _ ∧ _
    unfold F_X11_unseen_l46_b
    rw [hQ1.1, if_pos (by omega), P_isSoldC hM1 (by omega), d_b_t, d_w_id (x := (k : Int) + 1) (by omega) (by omega)]
    by_cases q : so k = 0
    rotate_left
    · rw [if_neg (by omega)]
      obtain ⟨s', r1, r2⟩ := ih (k + 1) m (by omega) (by omega) s1 hc
      simp only [v_us] at r1
      rw [if_neg (fun e => q e.1)] at r1
      exact ⟨s', r1, r2⟩
    rw [if_pos (by omega), P_sightsInC hQ1 hS1 hkb, d_b_t, v_and (by omega) (by omega)]
    by_cases q2 : v_hk sg u v W H N y k
    rotate_left
    · rw [if_pos (by have := hand.2 q2; omega)]
      obtain ⟨s', r1, r2⟩ := ih (k + 1) m (by omega) (by omega) s1 hc
      simp only [v_us] at r1
      rw [if_neg (fun e => q2 e.2)] at r1
      exact ⟨s', r1, r2⟩
    rw [if_neg (fun e => hand.1 (by omega) q2)]
    obtain ⟨s2, a1, a2⟩ := P_sellsNow (L := L) (N := N) (sg := sg) hM hQ hS hE hCT hY hc hkb
    obtain ⟨s', r1, r2⟩ := ih (k + 1) m (by omega) (by omega) s2 a2
    simp only [v_us] at r1
    rw [if_pos ⟨q, q2⟩] at r1
    exact ⟨s', by rw [a1, d_b2_t]; exact r1, r2⟩
end V38
abbrev v_ks1 (sg : Nat → Nat → Nat) (me : Nat → Nat) (u v W H y k : Nat) : Prop := ∃ n, n < k ∧ sg n 0 = y ∧ v_shk sg me u v W H (v_bl u v) n
section V39
variable {s s0 s1 s2 : d_S} {t : Nat → Option p_C} {L : v_LR} {u v W H b N n : Nat} {st me so : Nat → Nat} {sg : Nat → Nat → Nat} {day heat x : Int} {e : Option Nat}
theorem v_un35 {K : Int → Int → Int → Int → Int → Int → d_S → Option (Int × d_S)} {y : Nat} {x2 x3 x4 : Int} (hG : v_G (s.1 65) u v W H) (hZ : v_Z (s.1 65) N sg) (hb : b < v_bl u v) {f : Int} (hf : (f = 1 ∧ v_hk sg u v W H N y b) ∨ (f = 0 ∧ ¬ v_hk sg u v W H N y b)) : ∀ (j k m : Nat), k + j = N → j < m → ∀ c : Int, ((c = 1 ∧ v_hk sg u v W H k y b) ∨ (c = 0 ∧ ¬ v_hk sg u v W H k y b)) → F_X12_unseen_l35 K m (y : Int) x2 x3 x4 (b : Int) c (k : Int) s = K (y : Int) x2 x3 x4 (b : Int) f s := by
  intro j
  induction j with
  | zero =>
    intro k m hk hm c hc
    obtain ⟨m, rfl⟩ : ∃ q, m = q + 1 := ⟨m - 1, by omega⟩
    have hk : k = N := by omega
    subst hk
    have e : c = f := by
      rcases hc with ⟨c1, c2⟩ | ⟨c1, c2⟩ <;> rcases hf with ⟨f1, f2⟩ | ⟨f1, f2⟩
      · rw [c1, f1]
      · exact absurd c2 f2
      · exact absurd f2 c2
      · rw [c1, f1]
    show F_X12_unseen_l35_b K (F_X12_unseen_l35 K m) _ _ _ _ _ _ _ s = _
    unfold F_X12_unseen_l35_b
    rw [hZ.1, if_neg (by omega), e]
  | succ j ih =>
    intro k m hk hm c hc
    obtain ⟨m, rfl⟩ : ∃ q, m = q + 1 := ⟨m - 1, by omega⟩
    have hkN : k < N := by omega
    have hN12 := hZ.2.1
    have e0 : F_X12_sightOf s (k : Int) 0 = _ := P_sightOf hZ hkN (k := 0) (by decide)
    have up : v_hk sg u v W H k y b → v_hk sg u v W H (k + 1) y b := by
      rintro ⟨n, h1, h2⟩
      exact ⟨n, by omega, h2⟩
    have dn : ¬ v_hk sg u v W H k y b → ¬ (sg k 0 = y ∧ 0 < v_ce sg u v W H k b) → ¬ v_hk sg u v W H (k + 1) y b := by
      rintro h1 h2 ⟨n, h3, h4⟩
      by_cases q : n = k
      · rw [q] at h4; exact h2 h4
      · exact h1 ⟨n, by omega, h4⟩
    show F_X12_unseen_l35_b K (F_X12_unseen_l35 K m) _ _ _ _ _ _ _ s = _
    unfold F_X12_unseen_l35_b
    rw [hZ.1, if_pos (by omega), d_w_id (x := (k : Int) + 1) (by omega) (by omega)]
    rcases hc with ⟨c1, c2⟩ | ⟨c1, c2⟩
    · rw [if_neg (by omega)]
      exact ih (k + 1) m (by omega) (by omega) 1 (Or.inl ⟨rfl, up c2⟩)
    rw [if_pos c1, e0, d_b_t]
    by_cases q : sg k 0 = y
    rotate_left
    · rw [if_neg (by omega)]
      exact ih (k + 1) m (by omega) (by omega) 0 (Or.inr ⟨rfl, dn c2 (fun e => q e.1)⟩)
    rw [if_pos (by omega), P_cellsIn hG hZ hb hkN, d_b_t]
    by_cases q2 : 0 < v_ce sg u v W H k b
    · rw [if_pos (by omega)]
      exact ih (k + 1) m (by omega) (by omega) 1 (Or.inl ⟨rfl, k, by omega, q, q2⟩)
    · rw [if_neg (by omega)]
      exact ih (k + 1) m (by omega) (by omega) 0 (Or.inr ⟨rfl, dn c2 (fun e => q2 e.2)⟩)
theorem v_un20 {K : Int → Int → Int → Int → d_S → Option (Int × d_S)} {y : Nat} {x2 x4 : Int} (hG : v_G (s0.1 65) u v W H) (hZ : v_Z (s0.1 65) N sg) (hB : v_B (s0.1 65) st me so) (hRT : v_RT (s0.1 67) (s0.1 65 2) L) (h9 : s0.1 65 9 = day) (h10 : s0.1 65 10 = heat) (hd : 0 ≤ day ∧ day ≤ 2000) (hh : 0 ≤ heat ∧ heat ≤ 2000) : ∀ (j k m : Nat), k + j = v_bl u v → j < m → ∀ s1, v_71 s0 s1 → v_Nm (s1.1 71) → ∃ s', F_X12_unseen_l20 K m (y : Int) x2 (v_us L sg u v W H N day heat st me so y k) x4 (k : Int) s1 = K (y : Int) x2 (v_us L sg u v W H N day heat st me so y (v_bl u v)) x4 s' ∧ v_71 s0 s' ∧ v_Nm (s'.1 71) := by
  have hac := hG.ac
  intro j
  induction j with
  | zero =>
    intro k m hk hm s1 hc hN
    obtain ⟨m, rfl⟩ : ∃ q, m = q + 1 := ⟨m - 1, by omega⟩
    have hk : k = v_bl u v := by omega
    subst hk
    refine ⟨s1, ?_, hc, hN⟩
    show F_X12_unseen_l20_b K (F_X12_unseen_l20 K m) _ _ _ _ _ s1 = _
    unfold F_X12_unseen_l20_b
    rw [P_blocks (by rw [hc.1 65 (by decide)]; exact hG), d_b_t, if_neg (by omega)]
  | succ j ih =>
    intro k m hk hm s1 hc hN
    obtain ⟨m, rfl⟩ : ∃ q, m = q + 1 := ⟨m - 1, by omega⟩
    have hkb : k < v_bl u v := by omega
    have e65 : s1.1 65 = s0.1 65 := hc.1 65 (by decide)
    have hG1 : v_G (s1.1 65) u v W H := by rw [e65]; exact hG
    have hZ1 : v_Z (s1.1 65) N sg := by rw [e65]; exact hZ
    have hB1 : v_B (s1.1 65) st me so := by rw [e65]; exact hB
    have hR := v_us_R (L := L) (sg := sg) (u := u) (v := v) (W := W) (H := H) (N := N) (day := day) (heat := heat) (st := st) (me := me) (so := so) (y := y) k
    have hk1 : d_w ((k : Int) + 1) = ((k + 1 : Nat) : Int) := by rw [d_w_id (by omega) (by omega)]; rfl
    show ∃ s', F_X12_unseen_l20_b K (F_X12_unseen_l20 K m) _ _ _ _ _ s1 = _ ∧ _
    unfold F_X12_unseen_l20_b
    rw [P_blocks hG1, d_b_t, if_pos (by omega)]
    by_cases q : v_hk sg u v W H N y k
    rotate_left
    · obtain ⟨s', r1, r2⟩ := ih (k + 1) m (by omega) (by omega) s1 hc hN
      simp only [v_us] at r1
      rw [if_neg (fun e => q e.2)] at r1
      refine ⟨s', ?_, r2⟩
      refine (v_un35 (s := s1) hG1 hZ1 hkb (f := 0) (Or.inr ⟨rfl, q⟩) N 0 d_N (by omega) (by rw [d_N_is]; have := hZ.2.1; omega) 0 (Or.inr ⟨rfl, by rintro ⟨n, h1, -⟩; omega⟩)).trans ?_
      show (if (0 : Int) = 0 then _ else _) = _
      rw [if_pos rfl, v_d0 hR, hk1]; exact r1
    by_cases q2 : so k = 0
    · obtain ⟨s2, g1, g2⟩ := P_sellsOf (s := s1) (L := L) (N := N) (sg := sg) (day := day) (heat := heat) hG1 hZ1 hkb (by rw [e65, hc.1 67 (by decide)]; exact hRT) hN hB1 (by rw [e65]; exact h9) (by rw [e65]; exact h10) hd hh
      have hc2 : v_71 s0 s2 := ⟨fun a ha => (g2.1 a ha).trans (hc.1 a ha), g2.2.1.trans hc.2.1, fun h => g2.2.2 hN⟩
      obtain ⟨s', r1, r2⟩ := ih (k + 1) m (by omega) (by omega) s2 hc2 (g2.2.2 hN)
      simp only [v_us] at r1
      rw [if_pos ⟨q2, q⟩] at r1
      refine ⟨s', ?_, r2⟩
      refine (v_un35 (s := s1) hG1 hZ1 hkb (f := 1) (Or.inl ⟨rfl, q⟩) N 0 d_N (by omega) (by rw [d_N_is]; have := hZ.2.1; omega) 0 (Or.inr ⟨rfl, by rintro ⟨n, h1, -⟩; omega⟩)).trans ?_
      show (if (1 : Int) = 0 then _ else _) = _
      rw [if_neg (by decide), P_isSold hB1 (by omega), d_b_t, if_pos (by omega), g1, d_b2_t, hk1]; exact r1
    · obtain ⟨s', r1, r2⟩ := ih (k + 1) m (by omega) (by omega) s1 hc hN
      simp only [v_us] at r1
      rw [if_neg (fun e => q2 e.1)] at r1
      refine ⟨s', ?_, r2⟩
      refine (v_un35 (s := s1) hG1 hZ1 hkb (f := 1) (Or.inl ⟨rfl, q⟩) N 0 d_N (by omega) (by rw [d_N_is]; have := hZ.2.1; omega) 0 (Or.inr ⟨rfl, by rintro ⟨n, h1, -⟩; omega⟩)).trans ?_
      show (if (1 : Int) = 0 then _ else _) = _
      rw [if_neg (by decide), P_isSold hB1 (by omega), d_b_t, if_neg (by omega), v_d0 hR, hk1]; exact r1
theorem v_un122 {K : Int → Int → Int → d_S → Option (Int × d_S)} {y : Nat} {x2 x3 : Int} (hG : v_G (s.1 65) u v W H) (hZ : v_Z (s.1 65) N sg) (hB : v_B (s.1 65) st me so) {f : Int} (hf : (f = 1 ∧ v_ks1 sg me u v W H y N) ∨ (f = 0 ∧ ¬ v_ks1 sg me u v W H y N)) : ∀ (j k m : Nat), k + j = N → j < m → ∀ c : Int, ((c = 1 ∧ v_ks1 sg me u v W H y k) ∨ (c = 0 ∧ ¬ v_ks1 sg me u v W H y k)) → F_X12_unseen_l122 K m (y : Int) x2 x3 c (k : Int) s = K x2 x3 f s := by
  intro j
  induction j with
  | zero =>
    intro k m hk hm c hc
    obtain ⟨m, rfl⟩ : ∃ q, m = q + 1 := ⟨m - 1, by omega⟩
    have hk : k = N := by omega
    subst hk
    have e : c = f := by
      rcases hc with ⟨c1, c2⟩ | ⟨c1, c2⟩ <;> rcases hf with ⟨f1, f2⟩ | ⟨f1, f2⟩
      · rw [c1, f1]
      · exact absurd c2 f2
      · exact absurd f2 c2
      · rw [c1, f1]
    show F_X12_unseen_l122_b K (F_X12_unseen_l122 K m) _ _ _ _ _ s = _
    unfold F_X12_unseen_l122_b
    rw [hZ.1, if_neg (by omega), e]
  | succ j ih =>
    intro k m hk hm c hc
    obtain ⟨m, rfl⟩ : ∃ q, m = q + 1 := ⟨m - 1, by omega⟩
    have hkN : k < N := by omega
    have hN12 := hZ.2.1
    have e0 : F_X12_sightOf s (k : Int) 0 = _ := P_sightOf hZ hkN (k := 0) (by decide)
    have stay : ¬ (sg k 0 = y ∧ v_shk sg me u v W H (v_bl u v) k) → ((c = 1 ∧ v_ks1 sg me u v W H y (k + 1)) ∨ (c = 0 ∧ ¬ v_ks1 sg me u v W H y (k + 1))) := by
      intro h
      rcases hc with ⟨c1, n, h1, h2⟩ | ⟨c1, c2⟩
      · exact Or.inl ⟨c1, n, by omega, h2⟩
      · refine Or.inr ⟨c1, ?_⟩
        rintro ⟨n, h3, h4⟩
        by_cases q : n = k
        · rw [q] at h4; exact h h4
        · exact c2 ⟨n, by omega, h4⟩
    show F_X12_unseen_l122_b K (F_X12_unseen_l122 K m) _ _ _ _ _ s = _
    unfold F_X12_unseen_l122_b
    rw [hZ.1, if_pos (by omega), e0, d_b_t, d_w_id (x := (k : Int) + 1) (by omega) (by omega)]
    by_cases q : sg k 0 = y
    rotate_left
    · rw [if_neg (by omega)]
      exact ih (k + 1) m (by omega) (by omega) c (stay (fun e => q e.1))
    rw [if_pos (by omega), P_isShowing hG hZ hB hkN, d_b_t]
    by_cases q2 : v_shk sg me u v W H (v_bl u v) k
    · rw [v_bt q2, if_neg (by decide)]
      exact ih (k + 1) m (by omega) (by omega) 1 (Or.inl ⟨rfl, k, by omega, q, q2⟩)
    · rw [v_bf q2, if_pos rfl]
      exact ih (k + 1) m (by omega) (by omega) c (stay (fun e => q2 e.2))
theorem R_unseen (h : v_R t s) {x1 x2 : Int} : v_AA t (F_X11_unseen t s x1 x2) (fun s1 => F_X12_unseen s1 x1 x2) := by
  obtain ⟨e, L, u, v, W, H, st, me, so, N, sg, day, heat, x, hG, hQ, hB, hM, hZ, hS, hE, hCT, hY, hN1, hgo, hC, hBd⟩ := h.come
  have hac := hG.ac
  have n10 : ¬ (1 : Int) = 0 := by decide
  by_cases c1 : 0 ≤ x1 ∧ x1 ≤ 9
  rotate_left
  · refine v_AA.same h (-1) ?_ ?_
    · unfold F_X11_unseen; rw [P_within, d_b_t, v_bf c1, if_pos rfl]
    · show F_X12_unseen s x1 x2 = _; unfold F_X12_unseen; rw [P_isIn, d_b_t, v_bf c1, if_pos rfl]
  obtain ⟨y, rfl⟩ : ∃ y : Nat, x1 = y := ⟨x1.toNat, by omega⟩
  have hcf : v_cf s s := ⟨fun _ _ _ _ => rfl, fun _ _ => rfl, hN1⟩
  obtain ⟨g1, g2, g3, g4, ⟨g5, g6, g7⟩, g8, g9, g10⟩ := hgo
  
  have ref : ∀ s1, v_cf s s1 → ∃ s2, F_X12_unseen s1 (y : Int) x2 = some ((if x2 = 0 then v_us L sg u v W H N day heat st me so y (v_bl u v) else v_b (v_ks1 sg me u v W H y N)), s2) ∧ v_71 s1 s2 := fun s1 hc => by
    have e65 : s1.1 65 = s.1 65 := hc.1 65 (by decide) (by decide) (by decide)
    have e67 : s1.1 67 = s.1 67 := hc.1 67 (by decide) (by decide) (by decide)
    have e71 : s1.1 71 = s.1 71 := hc.1 71 (by decide) (by decide) (by decide)
    obtain ⟨s2, r1, r2, r3⟩ := v_un20 (s0 := s1) (L := L) (K := fun x1_u9 x2_u9 x3_u9 x4_u9 s_u9 => F_X12_unseen_l122 (fun x2_u12 x3_u12 x4_u12 s_u12 => if x2_u12 = 0 then some (x3_u12, s_u12) else some (x4_u12, s_u12)) d_N x1_u9 x2_u9 x3_u9 x4_u9 0 s_u9) (day := day) (heat := heat) (st := st) (me := me) (so := so) (N := N) (sg := sg) (y := y) (x2 := x2) (x4 := 0) (by rw [e65]; exact hG) (by rw [e65]; exact hZ) (by rw [e65]; exact hB) (by rw [e65, e67]; exact g2) (by rw [e65]; exact g5) (by rw [e65]; exact g6) (by omega) (by omega) (v_bl u v) 0 d_N (by omega) (by rw [d_N_is]; omega) s1 ⟨fun _ _ => rfl, rfl, fun h => h⟩ (by rw [e71]; exact g3)
    have e652 : s2.1 65 = s.1 65 := (r2.1 65 (by decide)).trans e65
    refine ⟨s2, ?_, r2⟩
    unfold F_X12_unseen
    rw [P_isIn, d_b_t, v_bt c1, if_neg n10]
    refine (show F_X12_unseen_l20 _ d_N (y : Int) x2 0 0 0 s1 = _ from r1).trans ?_
    refine (v_un122 (s := s2) (me := me) (so := so) (st := st) (sg := sg) (N := N) (by rw [e652]; exact hG) (by rw [e652]; exact hZ) (by rw [e652]; exact hB) (f := v_b (v_ks1 sg me u v W H y N)) (by
      by_cases q : v_ks1 sg me u v W H y N
      · exact Or.inl ⟨v_bt q, q⟩
      · exact Or.inr ⟨v_bf q, q⟩) N 0 d_N (by omega) (by rw [d_N_is]; have := hZ.2.1; omega) 0 (Or.inr ⟨rfl, by rintro ⟨n, h1, -⟩; omega⟩)).trans ?_
    show (if x2 = 0 then _ else _) = _
    by_cases q : x2 = 0
    · rw [if_pos q, if_pos q]
    · rw [if_neg q, if_neg q]
  by_cases c2 : x2 = 0
  · obtain ⟨s1, a1, a2⟩ := v_unCl (L := L) (N := N) (sg := sg) (y := y) hM hQ hS hE hCT hY (v_bl u v) 0 d_N (by omega) (by rw [d_N_is]; omega) s hcf
    obtain ⟨s2, b1, b2⟩ := ref s1 a2
    refine ⟨_, s1, s2, ?_, b1, h.scr2 a2.1 a2.2.1 b2 a2.2.2⟩
    unfold F_X11_unseen
    rw [P_within, d_b_t, v_bt c1, if_neg n10, P_sightsOf hS, d_b_t, if_pos c2, if_pos c2]
    exact a1
  · obtain ⟨s2, b1, b2⟩ := ref s hcf
    refine ⟨_, s, s2, ?_, b1, h.scr2 hcf.1 hcf.2.1 b2 hN1⟩
    have l1 : v_sb (v_shk sg me u v W H (v_bl u v)) N < 4096 := v_sb12 hS.2.1
    have l2 : v_sb (fun n => sg n 0 = y) N < 4096 := v_sb12 hS.2.1
    unfold F_X11_unseen
    rw [P_within, d_b_t, v_bt c1, if_neg n10, P_sightsOf hS, d_b_t, if_neg c2, if_neg c2, P_showingNow hQ hS hM, d_b_t, v_and (by omega) (by omega)]
    have hand : v_sb (v_shk sg me u v W H (v_bl u v)) N &&& v_sb (fun n => sg n 0 = y) N = 0 ↔ ¬ v_ks1 sg me u v W H y N := by
      rw [v_sb_and]
      exact ⟨fun h => by rintro ⟨n, h1, h2, h3⟩; exact h n h1 ⟨h3, h2⟩, fun h n h1 h2 => h ⟨n, h1, h2.2, h2.1⟩⟩
    by_cases q : v_ks1 sg me u v W H y N
    · rw [v_bt q, if_neg (fun e => hand.1 (by omega) q), v_bit1_, d_b_t]
    · rw [v_bf q, if_pos (by have := hand.2 q; omega), v_bit0_, d_b_t]
end V39
section V40
variable {s : d_S} {t : Nat → Option p_C} {n : Nat} {B : Nat → Int}
def v_bd (s : d_S) (n : Nat) (B : Nat → Int) : Prop := s.1 14 2 = n ∧ s.1 65 6 = n ∧ n ≤ 8 ∧ (∀ j, j < n → s.1 15 (4 * j) = B j ∧ s.1 65 (331 + j) = B j ∧ 0 ≤ B j ∧ B j ≤ 999)
theorem v_R.bids (h : v_R t s) : ∃ n B, v_bd s n B := by
  obtain ⟨hW, hI, -⟩ := h
  obtain ⟨-, -, -, ⟨c1, c2⟩, -⟩ := hW.2.2.2
  have c1 : s.1 14 2 = s.1 65 6 := c1
  obtain ⟨-, -, -, -, k6, -, -, -, -, q6, -⟩ := hI.2.2.1
  refine ⟨(s.1 65 6).toNat, fun j => s.1 65 (331 + j), by omega, by omega, by omega, fun j hj => ⟨c2 j (by omega), rfl, q6 j (by omega)⟩⟩
theorem P_part14 (h : v_bd s n B) {j : Nat} (hj : j < n) : F_X8_part_14 s (j : Int) 0 = some (B j) := by
  obtain ⟨h1, h2, h8, h3⟩ := h
  unfold F_X8_part_14
  have e : d_w ((j : Int) * 4 + 0) = ((4 * j : Nat) : Int) := by rw [d_w_id (by omega) (by omega)]; omega
  rw [e, if_neg (by omega), if_pos (by omega), d_g_t (by omega), Int.toNat_natCast, (h3 j hj).1]
theorem v_winl (h : v_bd s n B) : ∀ (j k m m' : Nat), (k + j = n ∨ n ≤ k ∧ j = 0) → j < m → j < m' → ∀ b, b < n → ∃ r, r < n ∧ F_X11_winner_l4 s m (b : Int) (k : Int) = some (r : Int) ∧ F_X12_winner_l4 s m' (b : Int) (k : Int) = some (r : Int) := by
  have h' := h
  obtain ⟨h1, h2, h8, h3⟩ := h'
  intro j
  induction j with
  | zero =>
    intro k m m' hk hm hm' b hb
    obtain ⟨m, rfl⟩ : ∃ q, m = q + 1 := ⟨m - 1, by omega⟩
    obtain ⟨m', rfl⟩ : ∃ q, m' = q + 1 := ⟨m' - 1, by omega⟩
    refine ⟨b, hb, ?_, ?_⟩
    · show F_X11_winner_l4_b s (F_X11_winner_l4 s m) _ _ = _
      unfold F_X11_winner_l4_b
      rw [h1, if_neg (by omega)]
    · show F_X12_winner_l4_b s (F_X12_winner_l4 s m') _ _ = _
      unfold F_X12_winner_l4_b
      rw [h2, if_neg (by omega)]
  | succ j ih =>
    intro k m m' hk hm hm' b hb
    obtain ⟨m, rfl⟩ : ∃ q, m = q + 1 := ⟨m - 1, by omega⟩
    obtain ⟨m', rfl⟩ : ∃ q, m' = q + 1 := ⟨m' - 1, by omega⟩
    have hkn : k < n := by omega
    have hk1 : d_w ((k : Int) + 1) = ((k + 1 : Nat) : Int) := by rw [d_w_id (by omega) (by omega)]; rfl
    have eb : d_w (331 + (b : Int)) = ((331 + b : Nat) : Int) := by rw [d_w_id (by omega) (by omega)]; omega
    have ek : d_w (331 + (k : Int)) = ((331 + k : Nat) : Int) := by rw [d_w_id (by omega) (by omega)]; omega
    show ∃ r, r < n ∧ F_X11_winner_l4_b s (F_X11_winner_l4 s m) _ _ = _ ∧ F_X12_winner_l4_b s (F_X12_winner_l4 s m') _ _ = _
    unfold F_X11_winner_l4_b F_X12_winner_l4_b
    have hp : (k : Int) < (n : Int) := by omega
    rw [h1, h2, if_pos hp, if_pos hp, P_part14 h hkn, d_b_t, P_part14 h hb, d_b_t, eb, ek, d_g_t (by omega), d_g_t (by omega), Int.toNat_natCast, Int.toNat_natCast, (h3 k hkn).2.1, (h3 b hb).2.1, hk1]
    by_cases q : B b < B k
    · rw [if_pos q, if_pos q]
      exact ih (k + 1) m m' (by omega) (by omega) (by omega) k hkn
    · rw [if_neg q, if_neg q]
      exact ih (k + 1) m m' (by omega) (by omega) (by omega) b hb
theorem P_win (h : v_bd s n B) (hn : 1 ≤ n) : ∃ r, r < n ∧ F_X11_winner s = some ((r : Nat) : Int) ∧ F_X12_winner s = some ((r : Nat) : Int) := by
  unfold F_X11_winner F_X12_winner
  have h8 := h.2.2.1
  exact v_winl h (n - 1) 1 d_N d_N (by omega) (by rw [d_N_is]; omega) (by rw [d_N_is]; omega) 0 (by omega)
theorem v_paidl (h : v_bd s n B) {w : Nat} : ∀ (j k m m' : Nat), k + j = n → j < m → j < m' → ∀ x : Int, ∃ y, F_X11_highestBut_l4 s m (w : Int) x (k : Int) = some y ∧ F_X12_paid_l9 s m' x (w : Int) (k : Int) = some y := by
  have h' := h
  obtain ⟨h1, h2, h8, h3⟩ := h'
  intro j
  induction j with
  | zero =>
    intro k m m' hk hm hm' x
    obtain ⟨m, rfl⟩ : ∃ q, m = q + 1 := ⟨m - 1, by omega⟩
    obtain ⟨m', rfl⟩ : ∃ q, m' = q + 1 := ⟨m' - 1, by omega⟩
    refine ⟨x, ?_, ?_⟩
    · show F_X11_highestBut_l4_b s (F_X11_highestBut_l4 s m) _ _ _ = _
      unfold F_X11_highestBut_l4_b
      rw [h1, if_neg (by omega)]
    · show F_X12_paid_l9_b s (F_X12_paid_l9 s m') _ _ _ = _
      unfold F_X12_paid_l9_b
      rw [h2, if_neg (by omega)]
  | succ j ih =>
    intro k m m' hk hm hm' x
    obtain ⟨m, rfl⟩ : ∃ q, m = q + 1 := ⟨m - 1, by omega⟩
    obtain ⟨m', rfl⟩ : ∃ q, m' = q + 1 := ⟨m' - 1, by omega⟩
    have hkn : k < n := by omega
    have hk1 : d_w ((k : Int) + 1) = ((k + 1 : Nat) : Int) := by rw [d_w_id (by omega) (by omega)]; rfl
    have ek : d_w (331 + (k : Int)) = ((331 + k : Nat) : Int) := by rw [d_w_id (by omega) (by omega)]; omega
    have hp : (k : Int) < (n : Int) := by omega
    show ∃ y, F_X11_highestBut_l4_b s (F_X11_highestBut_l4 s m) _ _ _ = _ ∧ F_X12_paid_l9_b s (F_X12_paid_l9 s m') _ _ _ = _
    unfold F_X11_highestBut_l4_b F_X12_paid_l9_b
    rw [h1, h2, if_pos hp, if_pos hp, hk1]
    by_cases q : (k : Int) = (w : Int)
    · rw [if_pos q, if_pos q]
      exact ih (k + 1) m m' (by omega) (by omega) (by omega) x
    rw [if_neg q, if_neg q, P_part14 h hkn, d_b_t, P_max, d_b_t, ek, d_g_t (by omega), d_g_t (by omega), Int.toNat_natCast, (h3 k hkn).2.1, d_l_t]
    obtain ⟨y, y1, y2⟩ := ih (k + 1) m m' (by omega) (by omega) (by omega) (max x (B k))
    refine ⟨y, y1, ?_⟩
    by_cases q2 : x < B k
    · rw [if_pos q2]
      rw [show max x (B k) = B k by omega] at y2
      exact y2
    · rw [if_neg q2]
      rw [show max x (B k) = x by omega] at y2
      exact y2
theorem R_auction (h : v_R t s) {x : Int} : v_AP (F_X11_auction s x) (F_X12_auction s x) := by
  obtain ⟨n, B, hb⟩ := h.bids
  have hb' := hb
  obtain ⟨h1, h2, h8, h3⟩ := hb'
  unfold v_AP F_X11_auction F_X12_auction
  rw [h1, h2]
  by_cases q : (n : Int) = 0
  · rw [if_pos q, if_pos q]; exact ⟨_, rfl, rfl⟩
  rw [if_neg q, if_neg q, P_within, P_isIn, d_b_t, d_b_t]
  by_cases c : 0 ≤ x ∧ x ≤ 1
  rotate_left
  · rw [v_bf c]; exact ⟨-1, rfl, rfl⟩
  obtain ⟨r, r1, r2, r3⟩ := P_win hb (by omega)
  rw [v_bt c, if_neg (show ¬ (1 : Int) = 0 by decide), if_neg (show ¬ (1 : Int) = 0 by decide), r2, d_b_t]
  by_cases q0 : x = 0
  · rw [if_pos q0, if_pos q0, r3, d_b_t]; exact ⟨_, rfl, rfl⟩
  rw [if_neg q0, if_neg q0]
  obtain ⟨y, y1, y2⟩ := v_paidl hb (w := r) n 0 d_N d_N (by omega) (by rw [d_N_is]; omega) (by rw [d_N_is]; omega) 0
  unfold F_X11_highestBut F_X12_paid
  rw [r3, d_b_t]
  rw [show F_X11_highestBut_l4 s d_N (r : Int) 0 0 = some y from y1, show F_X12_paid_l9 s d_N 0 (r : Int) 0 = some y from y2]
  exact ⟨y, rfl, rfl⟩
end V40

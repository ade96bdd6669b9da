section X6
variable {s s1 s' : d_S} {b : Nat → Nat} {n p q : Nat} {x : Int}
theorem l_stp (hB : l_B b n s) (h4 : s.1 64 7 = (q : Int)) (hq : q ≤ n) : ∃ s', F_X12_nextToken s = some s' ∧ l_T b n (t_sk b n q) s' ∧ l_f [7, 8, 9, 10] s s' := by
  obtain ⟨K, hK⟩ : ∃ K : d_S → Option d_S, K = fun s_u4 => d_l (d_si s_u4 64 8 (s_u4.1 64 7)) (fun s5 => d_b (F_X12_byteAt s5 (s5.1 64 7)) (fun v6 => if v6 < 0 then d_l (d_si s5 64 9 0) (fun s7 => some s7) else d_b (F_X12_isFigure v6) (fun v8 => if v8 = 0 then d_b (F_X12_isLetterByte v6) (fun v9 => if v9 = 0 then d_b (F_X12_isSign v6) (fun v10 => if v10 = 0 then F_X12_nextToken_j247 v6 3 s5 else F_X12_nextToken_j247 v6 v6 s5) else d_l (d_si s5 64 9 2) (fun s16 => d_l (d_sl s16 1011 0) (fun s17 => F_X12_nextToken_l168 d_N s17))) else d_l (d_si s5 64 9 1) (fun s23 => d_l (d_si s23 64 10 0) (fun s24 => F_X12_nextToken_l85 d_N s24))))) := ⟨_, rfl⟩
  have hgo : F_X12_nextToken s = F_X12_nextToken_l0 K d_N s := by rw [hK]; rfl
  obtain ⟨s1, a1, a2, a3⟩ := l_skl (b := b) (n := n) (K := K) (n - q) q d_N (by omega) (by rw [d_N_is]; have := hB.2.1; omega) s hB h4
  have hp := t_sk_le (b := b) hq
  obtain ⟨p, hpe⟩ : ∃ p, p = t_sk b n q := ⟨_, rfl⟩
  rw [← hpe] at a2 hp ⊢
  have hn := hB.2.1
  have hB1 : l_B b n s1 := hB.f a3 (by decide)
  obtain ⟨s5, hs5⟩ : ∃ z, z = d_si s1 64 8 (p : Int) := ⟨_, rfl⟩
  have f5 : l_f [8] s1 s5 := by rw [hs5]; exact l_f.si (by decide)
  have e57 : s5.1 64 7 = (p : Int) := by rw [f5.1 7 (by decide)]; exact a2
  have e58 : s5.1 64 8 = (p : Int) := by rw [hs5, d_si_i, d_u_t]
  have hB5 : l_B b n s5 := hB1.f f5 (by decide)
  have f15 : l_f [7, 8, 9, 10] s s5 := (a3.mono (by decide)).tr (f5.mono (by decide))
  rw [hgo, a1, hK]
  show ∃ s', d_l (d_si s1 64 8 (s1.1 64 7)) _ = _ ∧ _
  rw [d_l_t, a2, ← hs5, e57]
  by_cases c : p < n
  rotate_left
  · have hk : t_k b n p = 0 := t_k_end c
    have he : t_e b n p = p := by unfold t_e; rw [hk]; rfl
    have f6 : l_f [9] s5 (d_si s5 64 9 0) := l_f.si (by decide)
    rw [l_byte0 hB5 c, d_b_t, if_pos (by decide), d_l_t]
    refine ⟨d_si s5 64 9 0, rfl, ⟨hB5.f f6 (by decide), by rw [f6.1 8 (by decide)]; exact e58, fun _ => by rw [f6.1 7 (by decide), he]; exact e57, ?_⟩, f15.tr (f6.mono (by decide))⟩
    rw [d_si_i, d_u_t, hk]
    refine ⟨⟨fun _ => rfl, fun _ => rfl⟩, ⟨fun e => absurd e (by decide), fun e => absurd e (by decide)⟩, ⟨fun e => absurd e (by decide), fun e => absurd e (by decide)⟩, fun e => absurd e (by decide), fun e => absurd e (by decide), fun cc hc => ⟨fun e => by omega, fun e => absurd e (l_e_no hk (by decide))⟩⟩
  have hbp := hB.2.2.2 p
  rw [l_byte hB5 c, d_b_t, if_neg (by omega), l_fi_ _ hbp, d_b_t]
  by_cases cf : t_fi (b p) = true
  · have ca := t_al_fi cf
    have hk : t_k b n p = 2 := t_k_n c ca cf
    obtain ⟨s6, hs6⟩ : ∃ z, z = d_si (d_si s5 64 9 1) 64 10 0 := ⟨_, rfl⟩
    have f6 : l_f [9, 10] s5 s6 := by rw [hs6]; exact (l_f.si (by decide)).tr (l_f.si (by decide))
    have e69 : s6.1 64 9 = 1 := by rw [hs6, d_si_i, d_u_n (by decide), d_si_i, d_u_t]
    obtain ⟨s7, g1, g2, g3, g4⟩ := l_ln (b := b) (n := n) (n - p) p d_N (by omega) (by rw [d_N_is]; omega) s6 0 (hB5.f f6 (by decide)) (by rw [f6.1 7 (by decide)]; exact e57) (by decide) (by rw [hs6, d_si_i, d_u_t]; rfl)
    rw [v_bt cf, if_neg (by decide), d_l_t, d_l_t, ← hs6]
    have f7 := f6.mono (M := [7, 8, 9, 10]) (by decide)
    have f8 := g4.mono (M := [7, 8, 9, 10]) (by decide)
    have he : t_e b n p = (t_nl b n p).1 := by unfold t_e; rw [hk]; rfl
    refine ⟨s7, g1, ⟨(hB5.f f6 (by decide)).f g4 (by decide), by rw [g4.1 8 (by decide), f6.1 8 (by decide)]; exact e58, fun _ => by rw [he]; exact g2, ?_⟩, (f15.tr f7).tr f8⟩
    rw [g4.1 9 (by decide), e69, hk]
    refine ⟨⟨fun e => absurd e (by decide), fun e => absurd e (by decide)⟩, ⟨fun e => absurd e (by decide), fun e => absurd e (by decide)⟩, ⟨fun _ => rfl, fun _ => rfl⟩, fun e => absurd e (by decide), fun _ => g3, fun cc hc => ⟨fun e => by omega, fun e => absurd e (l_e_no hk (by decide))⟩⟩
  rw [v_bf cf, if_pos rfl, l_al_ _ hbp, d_b_t]
  by_cases ca : t_al (b p) = true
  · have hk : t_k b n p = 1 := t_k_w c ca
    obtain ⟨s6, hs6⟩ : ∃ z, z = d_sl (d_si s5 64 9 2) 1011 0 := ⟨_, rfl⟩
    have f6 : l_f [9] s5 s6 := by rw [hs6]; exact (l_f.si (by decide)).tr l_f.sl
    have e69 : s6.1 64 9 = 2 := by rw [hs6, l_sl_1, d_si_i, d_u_t]
    obtain ⟨s7, g1, g2, g3, g4⟩ := l_lw (b := b) (n := n) (n - p) p d_N (by omega) (by rw [d_N_is]; omega) s6 0 (hB5.f f6 (by decide)) (by rw [f6.1 7 (by decide)]; exact e57) (by decide) (by rw [hs6]; exact l_sl_t)
    rw [v_bt ca, if_neg (by decide), d_l_t, d_l_t, ← hs6]
    have f7 := f6.mono (M := [7, 8, 9, 10]) (by decide)
    have f8 := g4.mono (M := [7, 8, 9, 10]) (by decide)
    have he : t_e b n p = (t_wl b n p).1 := by unfold t_e; rw [hk]; rfl
    refine ⟨s7, g1, ⟨(hB5.f f6 (by decide)).f g4 (by decide), by rw [g4.1 8 (by decide), f6.1 8 (by decide)]; exact e58, fun _ => by rw [he]; exact g2, ?_⟩, (f15.tr f7).tr f8⟩
    rw [g4.1 9 (by decide), e69, hk]
    refine ⟨⟨fun e => absurd e (by decide), fun e => absurd e (by decide)⟩, ⟨fun _ => rfl, fun _ => rfl⟩, ⟨fun e => absurd e (by decide), fun e => absurd e (by decide)⟩, fun _ => g3, fun e => absurd e (by decide), fun cc hc => ⟨fun e => by omega, fun e => absurd e (l_e_no hk (by decide))⟩⟩
  have hk : t_k b n p = 3 := t_k_s c (Bool.eq_false_iff.mpr ca) (Bool.eq_false_iff.mpr cf)
  have he : t_e b n p = p + 1 := by unfold t_e; rw [hk]; rfl
  rw [v_bf ca, if_pos rfl, l_sg_ _ hbp, d_b_t]
  have hj : ∀ y : Int, y = (if t_sg (b p) = true then ((b p : Nat) : Int) else 3) → ∃ s', F_X12_nextToken_j247 ((b p : Nat) : Int) y s5 = some s' ∧ l_T b n p s' ∧ l_f [7, 8, 9, 10] s s' := by
    intro y hy
    have hs60 : 60 ≤ b p → b p ≤ 62 → t_sg (b p) = true := fun g1 g2 => by
      have : ∀ c : Nat, c < 256 → 60 ≤ c → c ≤ 62 → t_sg c = true := by decide +kernel
      exact this _ hbp g1 g2
    have hy3 : (y = ((b p : Nat) : Int) ∧ t_sg (b p) = true) ∨ (y = 3 ∧ t_sg (b p) = false) := by
      by_cases q : t_sg (b p) = true
      · rw [if_pos q] at hy; exact Or.inl ⟨hy, q⟩
      · rw [if_neg q] at hy; exact Or.inr ⟨hy, Bool.eq_false_iff.mpr q⟩
    have hsg1 : t_sg (b p) = true → 35 ≤ b p := fun e => by
      by_cases q : 35 ≤ b p
      · exact q
      · rw [t_sg_out _ hbp (by omega)] at e; cases e
    obtain ⟨s6, hs6⟩ : ∃ z, z = d_si (d_si s5 64 9 y) 64 7 ((p : Int) + 1) := ⟨_, rfl⟩
    have f6 : l_f [7, 9] s5 s6 := by rw [hs6]; exact (l_f.si (by decide)).tr (l_f.si (by decide))
    have e69 : s6.1 64 9 = y := by rw [hs6, d_si_i, d_u_n (by decide), d_si_i, d_u_t]
    have e67 : s6.1 64 7 = (p : Int) + 1 := by rw [hs6, d_si_i, d_u_t]
    have hB6 := hB5.f f6 (by decide)
    have f7 := f15.tr (f6.mono (M := [7, 8, 9, 10]) (by decide))
    have hT : ∀ (s7 : d_S) (y2 : Int), l_f [7, 9] s6 s7 → s7.1 64 9 = y2 → (¬ (b p = 60 ∨ b p = 62) → s7 = s6) → (y2 = y ∨ ((b p = 60 ∨ b p = 62) ∧ (y2 = 4 ∨ y2 = 5))) → l_T b n p s7 := by
      intro s7 y2 g1 g2 g3 g4
      refine ⟨hB6.f g1 (by decide), by rw [g1.1 8 (by decide), f6.1 8 (by decide)]; exact e58, fun q => ?_, ?_⟩
      · rw [g3 (fun e => q ⟨hk, e⟩), he]; exact e67
      have hyr : y2 = 3 ∨ 4 ≤ y2 := by
        rcases g4 with g4 | ⟨-, g4⟩
        · rcases hy3 with ⟨h1, h2⟩ | ⟨h1, -⟩
          · have := hsg1 h2; omega
          · omega
        · omega
      rw [g2, hk]
      refine ⟨⟨fun e => absurd e (by decide), fun e => by omega⟩, ⟨fun e => absurd e (by decide), fun e => by omega⟩, ⟨fun e => absurd e (by decide), fun e => by omega⟩, fun e => absurd e (by decide), fun e => absurd e (by decide), fun cc hc => ?_⟩
      rw [t_is_iff]
      have hin := t_sg_in cc hc
      constructor
      · intro e
        refine ⟨hk, ?_⟩
        rcases g4 with g4 | ⟨g4, g5⟩
        · rcases hy3 with ⟨h1, h2⟩ | ⟨h1, h2⟩
          · omega
          · omega
        · omega
      · rintro ⟨-, e⟩
        subst e
        rcases g4 with g4 | ⟨g4, g5⟩
        · rcases hy3 with ⟨h1, h2⟩ | ⟨h1, h2⟩
          · omega
          · rw [hin] at h2; cases h2
        · omega
    unfold F_X12_nextToken_j247
    rw [d_l_t, show (d_si s5 64 9 y).1 64 7 = (p : Int) by rw [d_si_i, d_u_n (by decide)]; exact e57, d_w_id (x := (p : Int) + 1) (by omega) (by omega), d_l_t, ← hs6]
    unfold F_X12_nextToken_j272 F_X12_nextToken_j297
    have hnext : (b p = 60 ∨ b p = 62) → ∃ s', d_b (F_X12_byteAt s6 (s6.1 64 7)) (fun v13 => if v13 = 61 then if ((b p : Nat) : Int) = 60 then d_l (d_si s6 64 9 4) (fun s14 => d_l (d_si s14 64 7 (d_w ((s14.1 64 7) + 1))) (fun s15 => some s15)) else d_l (d_si s6 64 9 5) (fun s14 => d_l (d_si s14 64 7 (d_w ((s14.1 64 7) + 1))) (fun s15 => some s15)) else some s6) = some s' ∧ l_T b n p s' ∧ l_f [7, 8, 9, 10] s s' := by
      intro h60
      obtain ⟨v, hv⟩ : ∃ v, F_X12_byteAt s6 (s6.1 64 7) = some v := by
        rw [e67, show (p : Int) + 1 = ((p + 1 : Nat) : Int) by omega]
        by_cases q : p + 1 < n
        · exact ⟨_, l_byte hB6 q⟩
        · exact ⟨_, l_byte0 hB6 q⟩
      rw [hv, d_b_t]
      have hd : ∀ y2 : Int, (y2 = 4 ∨ y2 = 5) → ∃ s', d_l (d_si s6 64 9 y2) (fun s14 => d_l (d_si s14 64 7 (d_w ((s14.1 64 7) + 1))) (fun s15 => some s15)) = some s' ∧ l_T b n p s' ∧ l_f [7, 8, 9, 10] s s' := by
        intro y2 hy2
        rw [d_l_t, d_l_t]
        have fz : l_f [7, 9] s6 (d_si (d_si s6 64 9 y2) 64 7 (d_w (((d_si s6 64 9 y2).1 64 7) + 1))) := (l_f.si (by decide)).tr (l_f.si (by decide))
        exact ⟨_, rfl, hT _ y2 fz (by rw [d_si_i, d_u_n (by decide), d_si_i, d_u_t]) (fun e => absurd h60 e) (Or.inr ⟨h60, hy2⟩), f7.tr (fz.mono (by decide))⟩
      by_cases q : v = 61
      · rw [if_pos q]
        split
        · exact hd 4 (Or.inl rfl)
        · exact hd 5 (Or.inr rfl)
      · rw [if_neg q]
        exact ⟨s6, rfl, hT s6 y l_f.rf e69 (fun _ => rfl) (Or.inl rfl), f7⟩
    by_cases q1 : b p = 60
    · rw [if_pos (by omega)]; exact hnext (Or.inl q1)
    · rw [if_neg (by omega)]
      by_cases q2 : b p = 62
      · rw [if_pos (by omega)]; exact hnext (Or.inr q2)
      · rw [if_neg (by omega)]
        exact ⟨s6, rfl, hT s6 y l_f.rf e69 (fun _ => rfl) (Or.inl rfl), f7⟩
  by_cases q : t_sg (b p) = true
  · rw [v_bt q, if_neg (by decide)]
    exact hj _ (by rw [if_pos q])
  · rw [v_bf q, if_pos rfl]
    exact hj _ (by rw [if_neg q])
theorem P_next (h : l_T b n p s) (hp : p ≤ n) (hb : t_k b n p = 3 → b p ≠ 60 ∧ b p ≠ 62) : ∃ s', F_X12_nextToken s = some s' ∧ l_T b n (t_x b n p) s' ∧ l_f [7, 8, 9, 10] s s' := l_stp h.1 (h.2.2.1 (fun e => by have := hb e.1; omega)) (t_e_le hp).2
theorem l_T.s40 (h : l_T b n p s) : s.1 64 9 = 40 ↔ t_is b n p 40 = true := h.2.2.2.2.2.2.2.2 40 (by simp)
theorem l_T.s41 (h : l_T b n p s) : s.1 64 9 = 41 ↔ t_is b n p 41 = true := h.2.2.2.2.2.2.2.2 41 (by simp)
theorem l_T.s42 (h : l_T b n p s) : s.1 64 9 = 42 ↔ t_is b n p 42 = true := h.2.2.2.2.2.2.2.2 42 (by simp)
theorem l_T.s43 (h : l_T b n p s) : s.1 64 9 = 43 ↔ t_is b n p 43 = true := h.2.2.2.2.2.2.2.2 43 (by simp)
theorem l_T.s44 (h : l_T b n p s) : s.1 64 9 = 44 ↔ t_is b n p 44 = true := h.2.2.2.2.2.2.2.2 44 (by simp)
theorem l_T.s45 (h : l_T b n p s) : s.1 64 9 = 45 ↔ t_is b n p 45 = true := h.2.2.2.2.2.2.2.2 45 (by simp)
theorem l_T.s47 (h : l_T b n p s) : s.1 64 9 = 47 ↔ t_is b n p 47 = true := h.2.2.2.2.2.2.2.2 47 (by simp)
theorem l_T.s58 (h : l_T b n p s) : s.1 64 9 = 58 ↔ t_is b n p 58 = true := h.2.2.2.2.2.2.2.2 58 (by simp)
theorem l_T.s59 (h : l_T b n p s) : s.1 64 9 = 59 ↔ t_is b n p 59 = true := h.2.2.2.2.2.2.2.2 59 (by simp)
theorem P_rword (h : l_T b n p s) {k : Nat} (hk : k < 22) : F_X12_isWord s ((t_Wn.getD k 0 : Nat) : Int) = some (v_b (t_wd b n p k = true)) := by
  obtain ⟨-, -, -, a0, a1, a2, a3, -⟩ := h
  unfold F_X12_isWord
  by_cases c : t_k b n p = 1
  · rw [if_pos (a1.1 c), a3 c]
    by_cases c2 : t_wd b n p k = true
    · rw [if_pos (by rw [(t_wd_iff.mp c2).2]), v_bt c2]
    · rw [if_neg (fun e => c2 (t_wd_iff.mpr ⟨c, by omega⟩)), v_bf c2]
  · rw [if_neg (fun e => c (a1.2 e)), v_bf (fun e => c (t_wd_iff.mp e).1)]
theorem l_w9 : F_X12_w3 100 97 121 = some ((t_Wn.getD 9 0 : Nat) : Int) := by decide +kernel
theorem l_w10 : F_X12_w4 104 101 97 116 = some ((t_Wn.getD 10 0 : Nat) : Int) := by decide +kernel
theorem l_w11 : F_X12_w4 115 105 122 101 = some ((t_Wn.getD 11 0 : Nat) : Int) := by decide +kernel
theorem l_w8 : F_X12_w5 115 116 114 97 119 = some ((t_Wn.getD 8 0 : Nat) : Int) := by decide +kernel
theorem l_w12 : F_X12_w6 109 101 108 116 101 100 = some ((t_Wn.getD 12 0 : Nat) : Int) := by decide +kernel
theorem l_w13 : F_X12_w4 101 100 103 101 = some ((t_Wn.getD 13 0 : Nat) : Int) := by decide +kernel
theorem l_w14 : F_X12_w6 115 105 103 104 116 115 = some ((t_Wn.getD 14 0 : Nat) : Int) := by decide +kernel
theorem l_w15 : F_X12_w5 107 105 110 100 115 = some ((t_Wn.getD 15 0 : Nat) : Int) := by decide +kernel
theorem l_w20 : F_X12_w3 110 116 104 = some ((t_Wn.getD 20 0 : Nat) : Int) := by decide +kernel
theorem l_w21 : F_X12_w2 111 102 = some ((t_Wn.getD 21 0 : Nat) : Int) := by decide +kernel
def t_nr (b : Nat → Nat) (n p : Nat) : Nat := if t_wd b n p 9 = true then 0 else if t_wd b n p 10 = true then 1 else if t_wd b n p 11 = true then 2 else if t_wd b n p 8 = true then 3 else if t_wd b n p 12 = true then 4 else if t_wd b n p 13 = true then 5 else if t_wd b n p 14 = true then 6 else if t_wd b n p 15 = true then 7 else 8
theorem P_nameOf (h : l_T b n p s) : F_X12_nameOf s = some (if t_nr b n p = 8 then -1 else ((t_nr b n p : Nat) : Int)) := by
  obtain ⟨-, -, -, a0, a1, a2, a3, -⟩ := h
  unfold F_X12_nameOf
  by_cases c : t_k b n p = 1
  · have hw : ∀ k, k < 22 → ((s.2.2 1011 = ((t_Wn.getD k 0 : Nat) : Int)) ↔ t_wd b n p k = true) := fun k hk => by
      rw [a3 c, t_wd_iff]
      exact ⟨fun e => ⟨c, by omega⟩, fun e => by rw [e.2]⟩
    rw [if_pos (a1.1 c), l_w9, d_b_t, l_w10, d_b_t, l_w11, d_b_t, l_w8, d_b_t, l_w12, d_b_t, l_w13, d_b_t, l_w14, d_b_t, l_w15, d_b_t]
    unfold t_nr
    by_cases q9 : t_wd b n p 9 = true
    · rw [if_pos ((hw 9 (by decide)).2 q9), if_pos q9]; rfl
    rw [if_neg (fun e => q9 ((hw 9 (by decide)).1 e)), if_neg q9]
    by_cases q10 : t_wd b n p 10 = true
    · rw [if_pos ((hw 10 (by decide)).2 q10), if_pos q10]; rfl
    rw [if_neg (fun e => q10 ((hw 10 (by decide)).1 e)), if_neg q10]
    by_cases q11 : t_wd b n p 11 = true
    · rw [if_pos ((hw 11 (by decide)).2 q11), if_pos q11]; rfl
    rw [if_neg (fun e => q11 ((hw 11 (by decide)).1 e)), if_neg q11]
    by_cases q8 : t_wd b n p 8 = true
    · rw [if_pos ((hw 8 (by decide)).2 q8), if_pos q8]; rfl
    rw [if_neg (fun e => q8 ((hw 8 (by decide)).1 e)), if_neg q8]
    by_cases q12 : t_wd b n p 12 = true
    · rw [if_pos ((hw 12 (by decide)).2 q12), if_pos q12]; rfl
    rw [if_neg (fun e => q12 ((hw 12 (by decide)).1 e)), if_neg q12]
    by_cases q13 : t_wd b n p 13 = true
    · rw [if_pos ((hw 13 (by decide)).2 q13), if_pos q13]; rfl
    rw [if_neg (fun e => q13 ((hw 13 (by decide)).1 e)), if_neg q13]
    by_cases q14 : t_wd b n p 14 = true
    · rw [if_pos ((hw 14 (by decide)).2 q14), if_pos q14]; rfl
    rw [if_neg (fun e => q14 ((hw 14 (by decide)).1 e)), if_neg q14]
    by_cases q15 : t_wd b n p 15 = true
    · rw [if_pos ((hw 15 (by decide)).2 q15), if_pos q15]; rfl
    rw [if_neg (fun e => q15 ((hw 15 (by decide)).1 e)), if_neg q15]; rfl
  · have no : ∀ k, ¬ t_wd b n p k = true := fun k e => c (t_wd_iff.mp e).1
    rw [if_neg (fun e => c (a1.2 e))]
    unfold t_nr
    rw [if_neg (no 9), if_neg (no 10), if_neg (no 11), if_neg (no 8), if_neg (no 12), if_neg (no 13), if_neg (no 14), if_neg (no 15)]; rfl
theorem t_nr_6 : t_nm6 b n p = true ↔ t_nr b n p < 6 := by
  unfold t_nm6 t_nr
  simp only [Bool.or_eq_true]
  by_cases q9 : t_wd b n p 9 = true
  · simp [q9]
  by_cases q10 : t_wd b n p 10 = true
  · simp [q9, q10]
  by_cases q11 : t_wd b n p 11 = true
  · simp [q9, q10, q11]
  by_cases q8 : t_wd b n p 8 = true
  · simp [q9, q10, q11, q8]
  by_cases q12 : t_wd b n p 12 = true
  · simp [q9, q10, q11, q8, q12]
  by_cases q13 : t_wd b n p 13 = true
  · simp [q9, q10, q11, q8, q12, q13]
  by_cases q14 : t_wd b n p 14 = true
  · simp [q9, q10, q11, q8, q12, q13, q14]
  by_cases q15 : t_wd b n p 15 = true
  · simp [q9, q10, q11, q8, q12, q13, q14, q15]
  · simp [q9, q10, q11, q8, q12, q13, q14, q15]
theorem t_nr_2 (h6 : ¬ t_nm6 b n p = true) : t_nm2 b n p = true ↔ t_nr b n p < 8 := by
  unfold t_nm6 at h6
  unfold t_nm2 t_nr
  simp only [Bool.or_eq_true, not_or] at h6 ⊢
  obtain ⟨q9, q10, q11, q8, q12, q13⟩ := h6
  by_cases q14 : t_wd b n p 14 = true
  · simp [q9, q10, q11, q8, q12, q13, q14]
  by_cases q15 : t_wd b n p 15 = true
  · simp [q9, q10, q11, q8, q12, q13, q14, q15]
  · simp [q9, q10, q11, q8, q12, q13, q14, q15]
theorem t_nr_le : t_nr b n p ≤ 8 := by unfold t_nr; (repeat' split) <;> omega
theorem P_isOf {k so : Nat} (h14 : s.1 64 14 = (so : Int)) : F_X12_isOf s (k : Int) = some (v_b (k < 6 ∨ so = 1)) := by
  unfold F_X12_isOf
  rw [h14]
  by_cases q : k < 6
  · rw [if_pos (by omega), v_bt (Or.inl q)]
  · rw [if_neg (by omega)]
    by_cases c : so = 1
    · rw [if_pos (by omega), v_bt (Or.inr c)]
    · rw [if_neg (by omega), v_bf (fun e => e.elim q c)]
theorem P_isNth (h : l_T b n p s) : F_X12_isNth s = some (v_b (t_wd b n p 20 = true)) := by
  unfold F_X12_isNth
  rw [l_w20, d_b_t, P_rword h (by decide), d_b_t]
theorem P_rfault {so d : Nat} (h : l_T b n p s) (h14 : s.1 64 14 = (so : Int)) (h18 : s.1 64 18 = (d : Int)) (hd : d ≤ 8) : F_X12_faultOfOne s = some ((t_F b n (Nat.beq so 1) d p : Nat) : Int) := by
  have hN := P_nameOf h
  have h20 := P_isNth h
  have g40 := h.s40
  have g45 := h.s45
  obtain ⟨-, -, -, a0, a1, a2, a3, a4, a5⟩ := h
  unfold F_X12_faultOfOne F_X12_faultOfOne_j74 t_F
  rw [h18]
  by_cases k2 : t_k b n p = 2
  · rw [if_pos (a2.1 k2), if_pos k2, a4 k2]
    by_cases c : 9999 < t_n b n p
    · rw [if_pos (by omega), if_pos c]; rfl
    · rw [if_neg (by omega), if_neg c]; rfl
  rw [if_neg (fun e => k2 (a2.2 e)), if_neg k2, hN, d_b_t]
  have hle := t_nr_le (b := b) (n := n) (p := p)
  by_cases m6 : t_nm6 b n p = true
  · have := t_nr_6.1 m6
    rw [if_neg (show ¬ t_nr b n p = 8 by omega), if_neg (by omega), P_isOf h14, d_b_t, v_bt (Or.inl this), if_neg (by decide), if_pos m6]; rfl
  rw [if_neg m6]
  have n6 : ¬ t_nr b n p < 6 := fun e => m6 (t_nr_6.2 e)
  by_cases m2 : t_nm2 b n p = true
  · have := (t_nr_2 m6).1 m2
    rw [if_neg (show ¬ t_nr b n p = 8 by omega), if_neg (by omega), P_isOf h14, d_b_t, if_pos m2]
    by_cases c : so = 1
    · rw [v_bt (Or.inr c), if_neg (by decide), if_pos (v_beq c)]; rfl
    · rw [v_bf (fun e => e.elim n6 c), if_pos rfl, if_neg (fun e => c (Nat.eq_of_beq_eq_true e))]; rfl
  have e8 : t_nr b n p = 8 := by
    have : ¬ t_nr b n p < 8 := fun e => m2 ((t_nr_2 m6).2 e)
    omega
  rw [if_neg m2, if_pos e8, if_pos (by decide)]
  have hd8 : (if ((d : Nat) : Int) = 8 then some (3 : Int) else some 0) = some (((if 8 ≤ d then 3 else 0 : Nat)) : Int) := by
    by_cases q : 8 ≤ d
    · rw [if_pos (by omega), if_pos q]; rfl
    · rw [if_neg (by omega), if_neg q]; rfl
  by_cases c1 : t_is b n p 40 = true
  · rw [if_pos (g40.2 c1), hd8, if_pos (show t_op b n p = true by unfold t_op; rw [c1]; simp)]
  rw [if_neg (fun e => c1 (g40.1 e))]
  by_cases c2 : t_is b n p 45 = true
  · rw [if_pos (g45.2 c2), hd8, if_pos (show t_op b n p = true by unfold t_op; rw [c2]; simp)]
  rw [if_neg (fun e => c2 (g45.1 e)), h20, d_b_t]
  by_cases c3 : t_wd b n p 20 = true
  · rw [v_bt c3, if_neg (by decide), hd8, if_pos (show t_op b n p = true by unfold t_op; rw [c3]; simp)]
  · rw [v_bf c3, if_pos rfl, if_neg (show ¬ t_op b n p = true by
      unfold t_op
      rw [Bool.or_eq_true, Bool.or_eq_true]
      rintro (e | e | e)
      · exact c1 e
      · exact c2 e
      · exact c3 e)]; rfl
end X6

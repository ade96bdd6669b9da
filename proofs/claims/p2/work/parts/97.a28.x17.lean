def t_bd (b : Nat → Nat) (n w p : Nat) : Nat × Nat := if w < 3 then t_P b n (Nat.beq w 1) 4000 2 0 0 p else t_D b n (t_dd w) p
theorem t_cl_bd {b : Nat → Nat} {n m o p : Nat} : t_cl b n m o p = if t_cw b n p = 10 then (1, p) else if t_cw b n p < 3 ∧ o / 2 ^ t_cw b n p % 2 = 1 then (4, p) else if m = 24 then (6, p) else if (t_bd b n (t_cw b n p) (t_x b n p)).1 ≠ 0 then t_bd b n (t_cw b n p) (t_x b n p) else if t_is b n (t_bd b n (t_cw b n p) (t_x b n p)).2 59 = true then (0, t_x b n (t_bd b n (t_cw b n p) (t_x b n p)).2) else (1, (t_bd b n (t_cw b n p) (t_x b n p)).2) := rfl
section X17
variable {s0 s s1 s' : d_S} {b : Nat → Nat} {n p q w w0 so t0 m o x c : Nat} {L : List (Nat × Nat)}
theorem t_bd_le (h : p ≤ n) : (t_bd b n w p).2 ≤ n := by
  unfold t_bd
  split
  · exact t_P_le h
  · exact (t_D_le _ _ h).2
theorem l_h.g (h : l_h s s1) (h67 : ∀ j, j < t0 ∨ t0 + 777 ≤ j → s1.1 67 j = s.1 67 j) : l_g t0 s s1 := ⟨fun k z => h.1 k (fun y => z (by
  have : ∀ a, a ∈ l_Lw → a ∈ l_Lg := by decide
  exact this k y)), h.2.1, h67, h.2.2.1, h.2.2.2⟩
theorem v_sx_law : ∀ w, w < 3 → v_sx w = w := by decide
theorem v_sx_big : ∀ w, w < 10 → 3 ≤ w → 3 ≤ v_sx w := by decide
theorem v_sx_9 : ∀ w, w < 10 → v_sx w ≤ 9 := by decide
theorem P_rbody (hT : l_T b n p s) (hp : p ≤ n) (ht : t0 ≤ 2331) (h12 : s.1 64 12 = (t0 : Int)) (h13 : s.1 64 13 = (w0 : Int)) (h14 : s.1 64 14 = ((v_sx w : Nat) : Int)) (hw : w ≤ 9) (hw0 : w0 ≤ p + 3) (hm : m < 24) (hx : x = t0 + 1 + 7 * m) (hsx : s.1 67 x = ((v_sx w : Nat) : Int)) : ∃ s', F_X12_body s ((v_sx w : Nat) : Int) (x : Int) = some (((t_bd b n w p).1 : Int), s') ∧ l_T b n (t_bd b n w p).2 s' ∧ l_g t0 s s' ∧ ((t_bd b n w p).1 = 0 → s'.1 64 21 = s.1 64 21 ∧ (∀ j, (j < x ∨ x + 7 ≤ j) → j < t0 + 169 + 2 * w0 → s'.1 67 j = s.1 67 j) ∧ ∃ w2 : Nat, s'.1 64 13 = (w2 : Int) ∧ w0 ≤ w2 ∧ w2 ≤ (t_bd b n w p).2 + 3 ∧ l_row b n (s'.1 67) t0 w2 m (w, p)) := by
  have hn := hT.1.2.1
  by_cases h3 : w < 3
  rotate_left
  · have hl := t_Dn_len (b := b) (n := n) (t_dd w) p
    rw [t_dd_np w (by omega) (by omega)] at hl
    have h6 := v_np_6 w (by omega)
    obtain ⟨s', c1, c2, c3, c4⟩ := P_lrun (x := x) (y := x + 7) (t_dd w) p 1 s (fun e he => (t_dd_q w (by omega) e he).1) hT hp (by omega) (by omega) (by omega)
    have e1 : t_bd b n w p = t_D b n (t_dd w) p := if_neg h3
    rw [P_bodyD ⟨by omega, hw⟩ (by omega), e1]
    refine ⟨s', c1, c2, c3.g (by omega) (by omega), fun h0 => ⟨c3.1 21 (by decide), fun j hj _ => c3.2.2.1 j hj, w0, by rw [c3.1 13 (by decide)]; exact h13, Nat.le_refl _, ?_, hw, ?_, ?_, fun h => absurd h h3⟩⟩
    · have := (t_D_le (b := b) (n := n) (t_dd w) p hp).1; omega
    · rw [c4 h0, l_wr_out _ _ _ _ (by omega), ← hx]; exact hsx
    · intro i v hv
      have hv : (t_Dn b n (t_dd w) p)[i]? = some v := by
        have e : t_cn b n (w, p) = t_Dn b n (t_dd w) p := if_neg h3
        rw [e] at hv; exact hv
      rw [c4 h0, show t0 + 2 + 7 * m + i = x + 1 + i by omega]
      exact l_wr_in _ _ _ _ _ hv
  · have e1 : t_bd b n w p = t_P b n (Nat.beq w 1) 4000 2 0 0 p := if_pos h3
    rw [P_bodyL h3, e1]
    unfold F_X12_lawClause
    have ea : d_w ((x : Int) + 1) = ((x + 1 : Nat) : Int) := by rw [d_w_id (by omega) (by omega)]; rfl
    have eb : d_w ((x : Int) + 2) = ((x + 2 : Nat) : Int) := by rw [d_w_id (by omega) (by omega)]; rfl
    rw [ea, eb, d_g_t (by omega), Int.toNat_natCast, h13, d_l_t]
    obtain ⟨s2, hs2⟩ : ∃ z, z = d_si s 67 (x + 1) (w0 : Int) := ⟨_, rfl⟩
    rw [← hs2]
    have g64 : s2.1 64 = s.1 64 := by rw [hs2, d_si_n (by decide)]
    have hT2 : l_T b n p s2 := hT.g (fun k _ => by rw [g64]) (by rw [hs2, d_si_n (by decide)]) (by rw [hs2]; rfl)
    obtain ⟨s4, c1, w2, E, c2, c3, c4, c5, c6⟩ := P_summed (so := w) (t0 := t0) (w := w0) hT2 ht hp hw0 (by rw [g64]; exact h12) (by rw [g64]; exact h13) (by rw [g64, h14, v_sx_law w h3]) rfl
    obtain ⟨r, hr⟩ : ∃ z, z = t_P b n (Nat.beq w 1) 4000 2 0 0 p := ⟨_, rfl⟩
    rw [← hr] at c1 c2 c6 ⊢
    rw [c1, d_b2_t, d_g_t (by omega), Int.toNat_natCast, c3, d_l_t]
    obtain ⟨s6, hs6⟩ : ∃ z, z = d_si s4 67 (x + 2) (w2 : Int) := ⟨_, rfl⟩
    rw [← hs6]
    have g66 : s6.1 64 = s4.1 64 := by rw [hs6, d_si_n (by decide)]
    have hT6 : l_T b n r.2 s6 := c2.g (fun k _ => by rw [g66]) (by rw [hs6, d_si_n (by decide)]) (by rw [hs6]; rfl)
    obtain ⟨d1, d2, d3⟩ := c4
    have d1 : w2 = w0 + E.length := d1
    have hg2 : l_g t0 s s2 := by rw [hs2]; exact l_g.s67 (by omega) (by omega)
    have hg4 : l_g t0 s2 s4 := c5.g (fun j hj => d3 j (by show j < t0 + 169 + 2 * w0 ∨ t0 + 777 ≤ j; omega))
    have hg6 : l_g t0 s4 s6 := by rw [hs6]; exact l_g.s67 (by omega) (by omega)
    have hT6' : ∀ j, j ≠ x + 2 → s6.1 67 j = s4.1 67 j := fun j hj => by rw [hs6, d_si_i, d_u_n hj]
    have hT4' : ∀ j, j < t0 + 169 + 2 * w0 → s4.1 67 j = s2.1 67 j := fun j hj => d3 j (Or.inl hj)
    have hT2' : ∀ j, j ≠ x + 1 → s2.1 67 j = s.1 67 j := fun j hj => by rw [hs2, d_si_i, d_u_n hj]
    refine ⟨s6, rfl, hT6, (hg2.tr hg4).tr hg6, fun h0 => ?_⟩
    obtain ⟨y1, y2, y3, y4⟩ := c6 h0
    refine ⟨by rw [g66, c5.1 21 (by decide), g64], fun j hj hj2 => by rw [hT6' j (by omega), hT4' j hj2, hT2' j (by omega)], w2, by rw [g66]; exact c3, by omega, y1, hw, ?_, ?_, fun _ => ⟨w0, E, ?_, ?_, by omega, ?_, y4⟩⟩
    · rw [← hx, hT6' x (by omega), hT4' x (by omega), hT2' x (by omega)]; exact hsx
    · intro i v hv
      have e : t_cn b n (w, p) = [] := if_pos h3
      rw [e] at hv; simp at hv
    · rw [show t0 + 2 + 7 * m = x + 1 by omega, hT6' _ (by omega), hT4' _ (by omega), hs2, d_si_i, d_u_t]
    · rw [show t0 + 3 + 7 * m = x + 2 by omega, hs6, d_si_i, d_u_t, d1]
    · intro i hi
      obtain ⟨a, q1, q2, q3, q4⟩ := d2 i hi
      have q2 : s4.1 67 (t0 + 169 + 2 * (w0 + i)) = ((a.1 : Nat) : Int) := q2
      have q3 : s4.1 67 (t0 + 169 + 2 * (w0 + i) + 1) = ((a.2 : Nat) : Int) := q3
      exact ⟨a, q1, by rw [hT6' _ (by omega)]; exact q2, by rw [hT6' _ (by omega)]; exact q3, q4⟩
def t_LO (L : List (Nat × Nat)) (o : Nat) : Prop := o < 8 ∧ (∀ k, k < 3 → (o / 2 ^ k % 2 = 1 ↔ ∃ e, e ∈ L ∧ e.1 = k)) ∧ ∀ (i j : Nat) (e e' : Nat × Nat), L[i]? = some e → L[j]? = some e' → e.1 = e'.1 → e.1 < 3 → i = j
theorem t_LO.nil : t_LO [] 0 := by
  refine ⟨by decide, fun k hk => ?_, fun i j e e' h => by simp at h⟩
  rw [Nat.zero_div]
  constructor
  · intro h; cases h
  · rintro ⟨e, h, -⟩
    cases h
theorem t_bit1 : ∀ o, o < 8 → ∀ w, w < 3 → ¬ o / 2 ^ w % 2 = 1 → (o + 2 ^ w < 8 ∧ (o ||| 2 ^ w) = o + 2 ^ w) := by decide
theorem t_bit2 : ∀ o, o < 8 → ∀ w, w < 3 → ¬ o / 2 ^ w % 2 = 1 → ∀ k, k < 3 → (decide ((o + 2 ^ w) / 2 ^ k % 2 = 1) = (decide (o / 2 ^ k % 2 = 1) || decide (w = k))) := by decide
theorem t_bit (o : Nat) (ho : o < 8) (w : Nat) (hw : w < 3) (h : ¬ o / 2 ^ w % 2 = 1) : o + 2 ^ w < 8 ∧ (o ||| 2 ^ w) = o + 2 ^ w ∧ ∀ k, k < 3 → ((o + 2 ^ w) / 2 ^ k % 2 = 1 ↔ (o / 2 ^ k % 2 = 1 ∨ w = k)) := by
  obtain ⟨h1, h2⟩ := t_bit1 o ho w hw h
  refine ⟨h1, h2, fun k hk => ?_⟩
  have := t_bit2 o ho w hw h k hk
  constructor
  · intro h
    have h' := decide_eq_true h
    rw [this, Bool.or_eq_true] at h'
    exact h'.imp of_decide_eq_true of_decide_eq_true
  · intro h
    refine of_decide_eq_true ?_
    rw [this, Bool.or_eq_true]
    exact h.imp decide_eq_true decide_eq_true
theorem t_LO.snoc (h : t_LO L o) {e : Nat × Nat} (he : e.1 < 3 → ¬ o / 2 ^ e.1 % 2 = 1) : t_LO (L ++ [e]) (if e.1 < 3 then o + 2 ^ e.1 else o) := by
  obtain ⟨h1, h2, h3⟩ := h
  have hu : ∀ (i j : Nat) (a a' : Nat × Nat), (L ++ [e])[i]? = some a → (L ++ [e])[j]? = some a' → a.1 = a'.1 → a.1 < 3 → i = j := by
    have hg : ∀ (i : Nat) (a : Nat × Nat), (L ++ [e])[i]? = some a → (i < L.length ∧ L[i]? = some a) ∨ (i = L.length ∧ a = e) := by
      intro i a ha
      by_cases q : i < L.length
      · rw [List.getElem?_append_left q] at ha
        exact Or.inl ⟨q, ha⟩
      · rw [List.getElem?_append_right (by omega)] at ha
        have hi : i - L.length = 0 := by
          by_cases z : i - L.length = 0
          · exact z
          · rw [List.getElem?_eq_none (by simp only [List.length_cons, List.length_nil]; omega)] at ha; cases ha
        rw [hi] at ha
        have : e = a := by simpa using ha
        exact Or.inr ⟨by omega, this.symm⟩
    intro i j a a' ha ha' haa h3a
    rcases hg i a ha with ⟨i1, i2⟩ | ⟨i1, i2⟩
    · rcases hg j a' ha' with ⟨j1, j2⟩ | ⟨j1, j2⟩
      · exact h3 i j a a' i2 j2 haa h3a
      · subst j2
        exact absurd ((h2 a'.1 (by omega)).2 ⟨a, List.mem_of_getElem? i2, haa⟩) (he (by omega))
    · rcases hg j a' ha' with ⟨j1, j2⟩ | ⟨j1, j2⟩
      · subst i2
        exact absurd ((h2 a.1 h3a).2 ⟨a', List.mem_of_getElem? j2, haa.symm⟩) (he h3a)
      · omega
  by_cases q : e.1 < 3
  · rw [if_pos q]
    obtain ⟨b1, b2, b3⟩ := t_bit o h1 e.1 q (he q)
    refine ⟨b1, fun k hk => ?_, hu⟩
    rw [b3 k hk, h2 k hk]
    constructor
    · rintro (⟨a, a1, a2⟩ | a1)
      · exact ⟨a, List.mem_append_left _ a1, a2⟩
      · exact ⟨e, List.mem_append_right _ List.mem_cons_self, a1⟩
    · rintro ⟨a, a1, a2⟩
      rcases List.mem_append.1 a1 with a3 | a3
      · exact Or.inl ⟨a, a3, a2⟩
      · rw [List.mem_singleton.1 a3] at a2; exact Or.inr a2
  · rw [if_neg q]
    refine ⟨h1, fun k hk => ?_, hu⟩
    rw [h2 k hk]
    constructor
    · rintro ⟨a, a1, a2⟩
      exact ⟨a, List.mem_append_left _ a1, a2⟩
    · rintro ⟨a, a1, a2⟩
      rcases List.mem_append.1 a1 with a3 | a3
      · exact ⟨a, a3, a2⟩
      · rw [List.mem_singleton.1 a3] at a2; omega
def l_I (s0 : d_S) (b : Nat → Nat) (n p t0 w o : Nat) (L : List (Nat × Nat)) (s : d_S) : Prop := l_T b n p s ∧ (s.1 64 12 = (t0 : Int) ∧ s.1 64 13 = (w : Int) ∧ s.1 64 21 = (o : Int)) ∧ s.1 67 t0 = (L.length : Int) ∧ (∀ c e, L[c]? = some e → l_row b n (s.1 67) t0 w c e) ∧ l_g t0 s0 s ∧ t_LO L o ∧ w ≤ p + 3 ∧ t0 ≤ 2331 ∧ L.length ≤ 24
theorem P_clause (h : l_I s0 b n p t0 w o L s) (hp : p ≤ n) : ∃ s', F_X12_clause s = some (((t_cl b n L.length o p).1 : Int), s') ∧ l_T b n (t_cl b n L.length o p).2 s' ∧ l_g t0 s0 s' ∧ ((t_cl b n L.length o p).1 = 0 → L.length < 24 ∧ ∃ w2, l_I s0 b n (t_cl b n L.length o p).2 t0 w2 (if t_cw b n p < 3 then o + 2 ^ t_cw b n p else o) (L ++ [(t_cw b n p, t_x b n p)]) s') := by
  obtain ⟨hT, ⟨h12, h13, h21⟩, hm, hrow, hg, hLO, hw0, ht, hL⟩ := h
  have hn := hT.1.2.1
  obtain ⟨r, hr⟩ : ∃ z, z = t_cl b n L.length o p := ⟨_, rfl⟩
  rw [← hr]
  rw [t_cl_bd] at hr
  obtain ⟨wd, hwd⟩ : ∃ z, z = t_cw b n p := ⟨_, rfl⟩
  unfold F_X12_clause
  rw [P_sortOf hT, d_b_t]
  rw [← hwd] at hr ⊢
  by_cases w10 : wd = 10
  · rw [if_pos w10] at hr
    rw [if_pos w10, if_pos (by decide), hr]
    exact ⟨s, rfl, hT, hg, fun q => absurd q (by simp)⟩
  rw [if_neg w10] at hr
  obtain ⟨w9, k1⟩ := t_cw_k (b := b) (n := n) (p := p) (by rw [← hwd]; exact w10)
  rw [← hwd] at w9
  rw [if_neg w10, if_neg (by omega)]
  have hlt : ∀ s1 : d_S, s1 = s ∨ s1 = d_si s 64 21 ((if wd < 3 then o + 2 ^ wd else o : Nat) : Int) → (wd < 3 → ¬ o / 2 ^ wd % 2 = 1) → s1.1 64 21 = ((if wd < 3 then o + 2 ^ wd else o : Nat) : Int) → L.length < 24 → (r = if (t_bd b n wd (t_x b n p)).1 ≠ 0 then t_bd b n wd (t_x b n p) else if t_is b n (t_bd b n wd (t_x b n p)).2 59 = true then (0, t_x b n (t_bd b n wd (t_x b n p)).2) else (1, (t_bd b n wd (t_x b n p)).2)) → ∃ s', F_X12_clause_j65 ((v_sx wd : Nat) : Int) (L.length : Int) s1 = some ((r.1 : Int), s') ∧ l_T b n r.2 s' ∧ l_g t0 s0 s' ∧ (r.1 = 0 → L.length < 24 ∧ ∃ w2, l_I s0 b n r.2 t0 w2 (if wd < 3 then o + 2 ^ wd else o) (L ++ [(wd, t_x b n p)]) s') := by
    intro s1 hs1 hno h211 hL24 hr
    have e1 : (∀ k, k ≠ 21 → s1.1 64 k = s.1 64 k) ∧ (∀ a, a ≠ 64 → s1.1 a = s.1 a) ∧ s1.2 = s.2 ∧ l_g t0 s s1 := by
      rcases hs1 with q | q
      · rw [q]; exact ⟨fun _ _ => rfl, fun _ _ => rfl, rfl, l_g.rf⟩
      · rw [q]; exact ⟨fun k z => by rw [d_si_i, d_u_n z], fun a z => d_si_n z, rfl, l_g.s64 (by decide)⟩
    obtain ⟨f64, fo, f2, fg⟩ := e1
    obtain ⟨o', ho'⟩ : ∃ z, z = (if wd < 3 then o + 2 ^ wd else o) := ⟨_, rfl⟩
    rw [← ho'] at h211 ⊢
    have hT1 : l_T b n p s1 := hT.g (fun k hk => f64 k (by omega)) (fo 68 (by decide)) (by rw [f2])
    obtain ⟨s4, hs4⟩ : ∃ z, z = d_si s1 64 14 ((v_sx wd : Nat) : Int) := ⟨_, rfl⟩
    have g4 : ∀ k, k ≠ 14 → s4.1 64 k = s1.1 64 k := fun k z => by rw [hs4, d_si_i, d_u_n z]
    have g4o : ∀ a, a ≠ 64 → s4.1 a = s1.1 a := fun a z => by rw [hs4, d_si_n z]
    have hT4 : l_T b n p s4 := hT1.g (fun k hk => g4 k (by omega)) (g4o 68 (by decide)) (by rw [hs4]; rfl)
    obtain ⟨s5, c1, c2, c3⟩ := P_next hT4 hp (fun e => by omega)
    have hx := t_x_lt (b := b) (t_k_lt (b := b) (n := n) (p := p) (by omega))
    obtain ⟨x, hxe⟩ : ∃ z, z = t0 + 1 + 7 * L.length := ⟨_, rfl⟩
    obtain ⟨s8, hs8⟩ : ∃ z, z = d_si s5 67 x ((v_sx wd : Nat) : Int) := ⟨_, rfl⟩
    have g8 : s8.1 64 = s5.1 64 := by rw [hs8, d_si_n (by decide)]
    have hT8 : l_T b n (t_x b n p) s8 := c2.g (fun k _ => by rw [g8]) (by rw [hs8, d_si_n (by decide)]) (by rw [hs8]; rfl)
    have k12 : s8.1 64 12 = (t0 : Int) := by rw [g8, c3.1 12 (by decide), g4 12 (by decide), f64 12 (by decide)]; exact h12
    have k13 : s8.1 64 13 = (w : Int) := by rw [g8, c3.1 13 (by decide), g4 13 (by decide), f64 13 (by decide)]; exact h13
    have k14 : s8.1 64 14 = ((v_sx wd : Nat) : Int) := by rw [g8, c3.1 14 (by decide), hs4, d_si_i, d_u_t]
    have k21 : s8.1 64 21 = (o' : Int) := by rw [g8, c3.1 21 (by decide), g4 21 (by decide)]; exact h211
    have hw304 : w ≤ 303 := by omega
    have t8 : ∀ j, j ≠ x → s8.1 67 j = s.1 67 j := fun j hj => by rw [hs8, d_si_i, d_u_n hj, c3.2.1 67 (by decide), g4o 67 (by decide), fo 67 (by decide)]
    have g80 : l_g t0 s0 s8 := by
      refine (((hg.tr fg).tr ?_).tr c3.g).tr ?_
      · rw [hs4]; exact l_g.s64 (by decide)
      · rw [hs8]; exact l_g.s67 (by omega) (by omega)
    obtain ⟨s10, d1, d2, d3, d4⟩ := P_rbody (w := wd) (w0 := w) (m := L.length) (x := x) hT8 hx.2 ht k12 k13 k14 w9 (by omega) hL24 hxe (by rw [hs8, d_si_i, d_u_t])
    have hble := t_bd_le (b := b) (n := n) (w := wd) hx.2
    obtain ⟨r2, hr2⟩ : ∃ z, z = t_bd b n wd (t_x b n p) := ⟨_, rfl⟩
    rw [← hr2] at hr d1 d2 d4 hble
    unfold F_X12_clause_j65
    have ez : d_w ((s5.1 64 12) + 1 + 7 * (L.length : Int)) = (x : Int) := by
      rw [← g8, k12, d_w_id (by omega) (by omega)]; omega
    rw [d_l_t, ← hs4, c1, d_b_t, ez, d_l_t, d_g_t (by omega), Int.toNat_natCast, d_l_t, ← hs8, d1, d_b2_t]
    by_cases r0 : r2.1 = 0
    rotate_left
    · rw [if_pos r0] at hr
      rw [if_neg (by omega), hr]
      exact ⟨s10, rfl, d2, g80.tr d3, fun q => absurd q r0⟩
    rw [if_neg (fun q => q r0)] at hr
    obtain ⟨b1, b2, w2, b3, b4, b5, b6⟩ := d4 r0
    have k12' : s10.1 64 12 = (t0 : Int) := by rw [d3.1 12 (by decide)]; exact k12
    have hc10 : s10.1 67 t0 = (L.length : Int) := by rw [b2 t0 (by omega) (by omega), t8 t0 (by omega)]; exact hm
    obtain ⟨s13, hs13⟩ : ∃ z, z = d_si s10 67 t0 ((L.length : Int) + 1) := ⟨_, rfl⟩
    have g13 : s13.1 64 = s10.1 64 := by rw [hs13, d_si_n (by decide)]
    have hT13 : l_T b n r2.2 s13 := d2.g (fun k _ => by rw [g13]) (by rw [hs13, d_si_n (by decide)]) (by rw [hs13]; rfl)
    have g130 : l_g t0 s0 s13 := (g80.tr d3).tr (by rw [hs13]; exact l_g.s67 (by omega) (by omega))
    rw [if_pos (by omega), k12', d_g_t (by omega), d_g_t (by omega), Int.toNat_natCast, hc10, d_w_id (by omega) (by omega), d_l_t, ← hs13]
    have t13 : ∀ j, j ≠ t0 → s13.1 67 j = s10.1 67 j := fun j hj => by rw [hs13, d_si_i, d_u_n hj]
    have hI : ∀ (s' : d_S) (q' : Nat), l_T b n q' s' → l_f [7, 8, 9, 10] s13 s' → r2.2 ≤ q' → l_I s0 b n q' t0 w2 o' (L ++ [(wd, t_x b n p)]) s' := by
      intro s' q' hTq hf hq
      have e67 : s'.1 67 = s13.1 67 := hf.2.1 67 (by decide)
      refine ⟨hTq, ⟨by rw [hf.1 12 (by decide), g13]; exact k12', by rw [hf.1 13 (by decide), g13]; exact b3, by rw [hf.1 21 (by decide), g13, b1]; exact k21⟩, by rw [e67, hs13, d_si_i, d_u_t, List.length_append, List.length_cons, List.length_nil]; rfl, fun c e hce => ?_, g130.tr hf.g, ?_, by omega, ht, by rw [List.length_append, List.length_cons, List.length_nil]; omega⟩
      · rw [e67]
        by_cases q : c < L.length
        · rw [List.getElem?_append_left q] at hce
          refine (hrow c e hce).keep (fun j j1 j2 => ?_) (fun j j1 j2 => ?_) b4
          · rw [t13 j (by omega), b2 j (by omega) (by omega), t8 j (by omega)]
          · rw [t13 j (by omega), b2 j (by omega) (by omega), t8 j (by omega)]
        · have hc : c = L.length := by
            by_cases z : c = L.length
            · exact z
            · rw [List.getElem?_eq_none (by rw [List.length_append, List.length_cons, List.length_nil]; omega)] at hce; cases hce
          subst hc
          rw [List.getElem?_append_right (Nat.le_refl _), Nat.sub_self] at hce
          have he : (wd, t_x b n p) = e := by simpa using hce
          rw [← he]
          exact b6.keep (fun j j1 j2 => t13 j (by omega)) (fun j j1 j2 => t13 j (by omega)) (Nat.le_refl _)
      · rw [ho']
        exact hLO.snoc (e := (wd, t_x b n p)) hno
    by_cases h59 : t_is b n r2.2 59 = true
    · rw [if_pos h59] at hr
      obtain ⟨s14, a1, a2, a3⟩ := P_next hT13 hble (t_nb2 h59 (by decide) (by decide))
      have hq := t_x_lt (b := b) (t_is_lt h59)
      rw [if_pos (hT13.s59.2 h59), a1, d_b_t, hr]
      exact ⟨s14, rfl, a2, g130.tr a3.g, fun _ => ⟨hL24, w2, hI s14 _ a2 a3 (by omega)⟩⟩
    · rw [if_neg h59] at hr
      rw [if_neg (fun q => h59 (hT13.s59.1 q)), hr]
      exact ⟨s13, rfl, hT13, g130, fun q => absurd q (by simp)⟩
  have h29 : (wd < 3 → ¬ o / 2 ^ wd % 2 = 1) → (r = if L.length = 24 then (6, p) else if (t_bd b n wd (t_x b n p)).1 ≠ 0 then t_bd b n wd (t_x b n p) else if t_is b n (t_bd b n wd (t_x b n p)).2 59 = true then (0, t_x b n (t_bd b n wd (t_x b n p)).2) else (1, (t_bd b n wd (t_x b n p)).2)) → ∃ s', F_X12_clause_j29 ((v_sx wd : Nat) : Int) s = some ((r.1 : Int), s') ∧ l_T b n r.2 s' ∧ l_g t0 s0 s' ∧ (r.1 = 0 → L.length < 24 ∧ ∃ w2, l_I s0 b n r.2 t0 w2 (if wd < 3 then o + 2 ^ wd else o) (L ++ [(wd, t_x b n p)]) s') := by
    intro hno hr
    unfold F_X12_clause_j29
    rw [h12, d_g_t (by omega), Int.toNat_natCast, hm, d_l_t]
    by_cases h24 : L.length = 24
    · rw [if_pos h24] at hr
      rw [if_pos (by omega), hr]
      exact ⟨s, rfl, hT, hg, fun q => absurd q (by simp)⟩
    rw [if_neg h24] at hr
    rw [if_neg (by omega)]
    by_cases h3 : wd < 3
    · have e3 := v_sx_law wd h3
      have e2 : d_shl 1 ((v_sx wd : Nat) : Int) = ((2 ^ wd : Nat) : Int) := by
        rw [e3]
        have := v_shl (x := 1) (k := wd) (by omega) (by have : 2 ^ wd ≤ 2 ^ 2 := Nat.pow_le_pow_right (by decide) (by omega); omega)
        rw [Nat.one_mul] at this
        exact this
      have hp2 : 2 ^ wd ≤ 4 := Nat.pow_le_pow_right (n := 2) (by decide) (show wd ≤ 2 by omega)
      have ho8 := hLO.1
      rw [if_neg (by omega), h21, e2, v_or (by omega) (by omega), (t_bit o hLO.1 wd h3 (hno h3)).2.1, d_l_t]
      refine hlt _ (Or.inr ?_) hno ?_ (by omega) hr
      · rw [if_pos h3]
      · rw [if_pos h3, d_si_i, d_u_t]
    · have := v_sx_big wd (by omega) (by omega)
      rw [if_pos (by omega)]
      exact hlt s (Or.inl rfl) hno (by rw [if_neg h3]; exact h21) (by omega) hr
  by_cases h3 : wd < 3
  · have e3 := v_sx_law wd h3
    have ho8 := hLO.1
    rw [if_neg (by omega), h21, P_has (by omega) (by omega), d_b_t, e3]
    by_cases hb : o / 2 ^ wd % 2 = 1
    · rw [if_pos ⟨h3, hb⟩] at hr
      rw [v_bt hb, if_neg (by decide), hr]
      exact ⟨s, rfl, hT, hg, fun q => absurd q (by simp)⟩
    · rw [if_neg (fun q => hb q.2)] at hr
      rw [v_bf hb, if_pos rfl]
      have := h29 (fun _ => hb) hr
      rw [e3] at this
      exact this
  · have := v_sx_big wd (by omega) (by omega)
    rw [if_neg (fun q => h3 q.1)] at hr
    rw [if_pos (by omega)]
    exact h29 (fun q => absurd q h3) hr
end X17

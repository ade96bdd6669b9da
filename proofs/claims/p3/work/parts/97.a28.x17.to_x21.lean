def t_bd (b : Nat → Nat) (n w p : Nat) : Nat × Nat := if w < 3 then t_P b n (Nat.beq w 1) 4000 2 0 0 p else t_D b n (t_dd w) p
theorem t_cl_bd {b : Nat → Nat} {n m o p : Nat} : t_cl b n m o p = if t_cw b n p = 10 then (1, p) else if t_cw b n p < 3 ∧ o / 2 ^ t_cw b n p % 2 = 1 then (4, p) else if m = 24 then (6, p) else if (t_bd b n (t_cw b n p) (t_x b n p)).1 ≠ 0 then t_bd b n (t_cw b n p) (t_x b n p) else if t_is b n (t_bd b n (t_cw b n p) (t_x b n p)).2 59 = true then (0, t_x b n (t_bd b n (t_cw b n p) (t_x b n p)).2) else (1, (t_bd b n (t_cw b n p) (t_x b n p)).2) := rfl
section X17
variable {s0 s s1 s' : d_S} {b : Nat → Nat} {n p q w w0 so t0 m o x c : Nat} {L : List (Nat × Nat)}
theorem t_bd_le (h : p ≤ n) : (t_bd b n w p).2 ≤ n := by
  unfold t_bd
  split
  · exact t_P_le h
  · exact (t_D_le _ _ h).2
theorem l_h.g (h : l_h s s1) (h67 : ∀ j, j < t0 ∨ t0 + 777 ≤ j → s1.1 67 j = s.1 67 j) : l_g t0 s s1 := ⟨fun k z => h.1 k (fun y => z (by
  have : ∀ a, a ∈ l_Lw → a ∈ l_Lg := by decide
  exact this k y)), h.2.1, h67, h.2.2.1, h.2.2.2⟩
theorem v_sx_law : ∀ w, w < 3 → v_sx w = w := by decide
theorem v_sx_big : ∀ w, w < 10 → 3 ≤ w → 3 ≤ v_sx w := by decide
theorem v_sx_9 : ∀ w, w < 10 → v_sx w ≤ 9 := by decide
theorem P_rbody (hT : l_T b n p s) (hp : p ≤ n) (ht : t0 ≤ 2331) (h12 : s.1 64 12 = (t0 : Int)) (h13 : s.1 64 13 = (w0 : Int)) (h14 : s.1 64 14 = ((v_sx w : Nat) : Int)) (hw : w ≤ 9) (hw0 : w0 ≤ p + 3) (hm : m < 24) (hx : x = t0 + 1 + 7 * m) (hsx : s.1 67 x = ((v_sx w : Nat) : Int)) : ∃ s', F_X12_body s ((v_sx w : Nat) : Int) (x : Int) = some (((t_bd b n w p).1 : Int), s') ∧ l_T b n (t_bd b n w p).2 s' ∧ l_g t0 s s' ∧ ((t_bd b n w p).1 = 0 → s'.1 64 21 = s.1 64 21 ∧ (∀ j, (j < x ∨ x + 7 ≤ j) → j < t0 + 169 + 2 * w0 → s'.1 67 j = s.1 67 j) ∧ ∃ w2 : Nat, s'.1 64 13 = (w2 : Int) ∧ w0 ≤ w2 ∧ w2 ≤ (t_bd b n w p).2 + 3 ∧ l_row b n (s'.1 67) t0 w2 m (w, p)) := by
  have hn := hT.1.2.1
  by_cases h3 : w < 3
  rotate_left
  · have hl := t_Dn_len (b := b) (n := n) (t_dd w) p
    rw [t_dd_np w (by omega) (by omega)] at hl
    have h6 := v_np_6 w (by omega)
    obtain ⟨s', c1, c2, c3, c4⟩ := P_lrun (x := x) (y := x + 7) (t_dd w) p 1 s (fun e he => (t_dd_q w (by omega) e he).1) hT hp (by omega) (by omega) (by omega)
    have e1 : t_bd b n w p = t_D b n (t_dd w) p := if_neg h3
    rw [P_bodyD ⟨by omega, hw⟩ (by omega), e1]
    refine ⟨s', c1, c2, c3.g (by omega) (by omega), fun h0 => ⟨c3.1 21 (by decide), fun j hj _ => c3.2.2.1 j hj, w0, by rw [c3.1 13 (by decide)]; exact h13, Nat.le_refl _, ?_, hw, ?_, ?_, fun h => absurd h h3⟩⟩
    · have := (t_D_le (b := b) (n := n) (t_dd w) p hp).1; omega
    · rw [c4 h0, l_wr_out _ _ _ _ (by omega), ← hx]; exact hsx
    · intro i v hv
      have hv : (t_Dn b n (t_dd w) p)[i]? = some v := by
        have e : t_cn b n (w, p) = t_Dn b n (t_dd w) p := if_neg h3
        rw [e] at hv; exact hv
      rw [c4 h0, show t0 + 2 + 7 * m + i = x + 1 + i by omega]
      exact l_wr_in _ _ _ _ _ hv
  · have e1 : t_bd b n w p = t_P b n (Nat.beq w 1) 4000 2 0 0 p := if_pos h3
    rw [P_bodyL h3, e1]
    unfold F_X12_lawClause
    have ea : d_w ((x : Int) + 1) = ((x + 1 : Nat) : Int) := by rw [d_w_id (by omega) (by omega)]; rfl
    have eb : d_w ((x : Int) + 2) = ((x + 2 : Nat) : Int) := by rw [d_w_id (by omega) (by omega)]; rfl
    rw [ea, eb, d_g_t (by omega), Int.toNat_natCast, h13, d_l_t]
    obtain ⟨s2, hs2⟩ : ∃ z, z = d_si s 67 (x + 1) (w0 : Int) := ⟨_, rfl⟩
    rw [← hs2]
    have g64 : s2.1 64 = s.1 64 := by rw [hs2, d_si_n (by decide)]
    have hT2 : l_T b n p s2 := hT.g (fun k _ => by rw [g64]) (by rw [hs2, d_si_n (by decide)]) (by rw [hs2]; rfl)
    obtain ⟨s4, c1, w2, E, c2, c3, c4, c5, c6⟩ := P_summed (so := w) (t0 := t0) (w := w0) hT2 ht hp hw0 (by rw [g64]; exact h12) (by rw [g64]; exact h13) (by rw [g64, h14, v_sx_law w h3]) rfl
    obtain ⟨r, hr⟩ : ∃ z, z = t_P b n (Nat.beq w 1) 4000 2 0 0 p := ⟨_, rfl⟩
    rw [← hr] at c1 c2 c6 ⊢
    rw [c1, d_b2_t, d_g_t (by omega), Int.toNat_natCast, c3, d_l_t]
    obtain ⟨s6, hs6⟩ : ∃ z, z = d_si s4 67 (x + 2) (w2 : Int) := ⟨_, rfl⟩
    rw [← hs6]
    have g66 : s6.1 64 = s4.1 64 := by rw [hs6, d_si_n (by decide)]
    have hT6 : l_T b n r.2 s6 := c2.g (fun k _ => by rw [g66]) (by rw [hs6, d_si_n (by decide)]) (by rw [hs6]; rfl)
    obtain ⟨d1, d2, d3⟩ := c4
    have d1 : w2 = w0 + E.length := d1
    have hg2 : l_g t0 s s2 := by rw [hs2]; exact l_g.s67 (by omega) (by omega)
    have hg4 : l_g t0 s2 s4 := c5.g (fun j hj => d3 j (by show j < t0 + 169 + 2 * w0 ∨ t0 + 777 ≤ j; omega))
    have hg6 : l_g t0 s4 s6 := by rw [hs6]; exact l_g.s67 (by omega) (by omega)
    have hT6' : ∀ j, j ≠ x + 2 → s6.1 67 j = s4.1 67 j := fun j hj => by rw [hs6, d_si_i, d_u_n hj]
    have hT4' : ∀ j, j < t0 + 169 + 2 * w0 → s4.1 67 j = s2.1 67 j := fun j hj => d3 j (Or.inl hj)
    have hT2' : ∀ j, j ≠ x + 1 → s2.1 67 j = s.1 67 j := fun j hj => by rw [hs2, d_si_i, d_u_n hj]
    refine ⟨s6, rfl, hT6, (hg2.tr hg4).tr hg6, fun h0 => ?_⟩
    obtain ⟨y1, y2, y3, y4⟩ := c6 h0
    refine ⟨by rw [g66, c5.1 21 (by decide), g64], fun j hj hj2 => by rw [hT6' j (by omega), hT4' j hj2, hT2' j (by omega)], w2, by rw [g66]; exact c3, by omega, y1, hw, ?_, ?_, fun _ => ⟨w0, E, ?_, ?_, by omega, ?_, y4⟩⟩
    · rw [← hx, hT6' x (by omega), hT4' x (by omega), hT2' x (by omega)]; exact hsx
    · intro i v hv
      have e : t_cn b n (w, p) = [] := if_pos h3
      rw [e] at hv; simp at hv
    · rw [show t0 + 2 + 7 * m = x + 1 by omega, hT6' _ (by omega), hT4' _ (by omega), hs2, d_si_i, d_u_t]
    · rw [show t0 + 3 + 7 * m = x + 2 by omega, hs6, d_si_i, d_u_t, d1]
    · intro i hi
      obtain ⟨a, q1, q2, q3, q4⟩ := d2 i hi
      have q2 : s4.1 67 (t0 + 169 + 2 * (w0 + i)) = ((a.1 : Nat) : Int) := q2
      have q3 : s4.1 67 (t0 + 169 + 2 * (w0 + i) + 1) = ((a.2 : Nat) : Int) := q3
      exact ⟨a, q1, by rw [hT6' _ (by omega)]; exact q2, by rw [hT6' _ (by omega)]; exact q3, q4⟩
def t_LO (L : List (Nat × Nat)) (o : Nat) : Prop := o < 8 ∧ (∀ k, k < 3 → (o / 2 ^ k % 2 = 1 ↔ ∃ e, e ∈ L ∧ e.1 = k)) ∧ ∀ (i j : Nat) (e e' : Nat × Nat), L[i]? = some e → L[j]? = some e' → e.1 = e'.1 → e.1 < 3 → i = j
theorem t_LO.nil : t_LO [] 0 := by
  refine ⟨by decide, fun k hk => ?_, fun i j e e' h => by simp at h⟩
  rw [Nat.zero_div]
  constructor
  · intro h; cases h
  · rintro ⟨e, h, -⟩
    cases h
theorem t_bit1 : ∀ o, o < 8 → ∀ w, w < 3 → ¬ o / 2 ^ w % 2 = 1 → (o + 2 ^ w < 8 ∧ (o ||| 2 ^ w) = o + 2 ^ w) := by decide
theorem t_bit2 : ∀ o, o < 8 → ∀ w, w < 3 → ¬ o / 2 ^ w % 2 = 1 → ∀ k, k < 3 → (decide ((o + 2 ^ w) / 2 ^ k % 2 = 1) = (decide (o / 2 ^ k % 2 = 1) || decide (w = k))) := by decide
theorem t_bit (o : Nat) (ho : o < 8) (w : Nat) (hw : w < 3) (h : ¬ o / 2 ^ w % 2 = 1) : o + 2 ^ w < 8 ∧ (o ||| 2 ^ w) = o + 2 ^ w ∧ ∀ k, k < 3 → ((o + 2 ^ w) / 2 ^ k % 2 = 1 ↔ (o / 2 ^ k % 2 = 1 ∨ w = k)) := by
  obtain ⟨h1, h2⟩ := t_bit1 o ho w hw h
  refine ⟨h1, h2, fun k hk => ?_⟩
  have := t_bit2 o ho w hw h k hk
  constructor
  · intro h
    have h' := decide_eq_true h
    rw [this, Bool.or_eq_true] at h'
    exact h'.imp of_decide_eq_true of_decide_eq_true
  · intro h
    refine of_decide_eq_true ?_
    rw [this, Bool.or_eq_true]
    exact h.imp decide_eq_true decide_eq_true
theorem t_LO.snoc (h : t_LO L o) {e : Nat × Nat} (he : e.1 < 3 → ¬ o / 2 ^ e.1 % 2 = 1) : t_LO (L ++ [e]) (if e.1 < 3 then o + 2 ^ e.1 else o) := by
  obtain ⟨h1, h2, h3⟩ := h
  have hu : ∀ (i j : Nat) (a a' : Nat × Nat), (L ++ [e])[i]? = some a → (L ++ [e])[j]? = some a' → a.1 = a'.1 → a.1 < 3 → i = j := by
    have hg : ∀ (i : Nat) (a : Nat × Nat), (L ++ [e])[i]? = some a → (i < L.length ∧ L[i]? = some a) ∨ (i = L.length ∧ a = e) := by
      intro i a ha
      by_cases q : i < L.length
      · rw [List.getElem?_append_left q] at ha
        exact Or.inl ⟨q, ha⟩
      · rw [List.getElem?_append_right (by omega)] at ha
        have hi : i - L.length = 0 := by
          by_cases z : i - L.length = 0
          · exact z
          · rw [List.getElem?_eq_none (by simp only [List.length_cons, List.length_nil]; omega)] at ha; cases ha
        rw [hi] at ha
        have : e = a := by simpa using ha
        exact Or.inr ⟨by omega, this.symm⟩
    intro i j a a' ha ha' haa h3a
    rcases hg i a ha with ⟨i1, i2⟩ | ⟨i1, i2⟩
    · rcases hg j a' ha' with ⟨j1, j2⟩ | ⟨j1, j2⟩
      · exact h3 i j a a' i2 j2 haa h3a
      · subst j2
        exact absurd ((h2 a'.1 (by omega)).2 ⟨a, List.mem_of_getElem? i2, haa⟩) (he (by omega))
    · rcases hg j a' ha' with ⟨j1, j2⟩ | ⟨j1, j2⟩
      · subst i2
        exact absurd ((h2 a.1 h3a).2 ⟨a', List.mem_of_getElem? j2, haa.symm⟩) (he h3a)
      · omega
  by_cases q : e.1 < 3
  · rw [if_pos q]
    obtain ⟨b1, b2, b3⟩ := t_bit o h1 e.1 q (he q)
    refine ⟨b1, fun k hk => ?_, hu⟩
    rw [b3 k hk, h2 k hk]
    constructor
    · rintro (⟨a, a1, a2⟩ | a1)
      · exact ⟨a, List.mem_append_left _ a1, a2⟩
      · exact ⟨e, List.mem_append_right _ List.mem_cons_self, a1⟩
    · rintro ⟨a, a1, a2⟩
      rcases List.mem_append.1 a1 with a3 | a3
      · exact Or.inl ⟨a, a3, a2⟩
      · rw [List.mem_singleton.1 a3] at a2; exact Or.inr a2
  · rw [if_neg q]
    refine ⟨h1, fun k hk => ?_, hu⟩
    rw [h2 k hk]
    constructor
    · rintro ⟨a, a1, a2⟩
      exact ⟨a, List.mem_append_left _ a1, a2⟩
    · rintro ⟨a, a1, a2⟩
      rcases List.mem_append.1 a1 with a3 | a3
      · exact ⟨a, a3, a2⟩
      · rw [List.mem_singleton.1 a3] at a2; omega
def l_I (s0 : d_S) (b : Nat → Nat) (n p t0 w o : Nat) (L : List (Nat × Nat)) (s : d_S) : Prop := l_T b n p s ∧ (s.1 64 12 = (t0 : Int) ∧ s.1 64 13 = (w : Int) ∧ s.1 64 21 = (o : Int)) ∧ s.1 67 t0 = (L.length : Int) ∧ (∀ c e, L[c]? = some e → l_row b n (s.1 67) t0 w c e) ∧ l_g t0 s0 s ∧ t_LO L o ∧ w ≤ p + 3 ∧ t0 ≤ 2331 ∧ L.length ≤ 24
theorem P_clause (h : l_I s0 b n p t0 w o L s) (hp : p ≤ n) : ∃ s', F_X12_clause s = some (((t_cl b n L.length o p).1 : Int), s') ∧ l_T b n (t_cl b n L.length o p).2 s' ∧ l_g t0 s0 s' ∧ ((t_cl b n L.length o p).1 = 0 → L.length < 24 ∧ ∃ w2, l_I s0 b n (t_cl b n L.length o p).2 t0 w2 (if t_cw b n p < 3 then o + 2 ^ t_cw b n p else o) (L ++ [(t_cw b n p, t_x b n p)]) s') := by
  obtain ⟨hT, ⟨h12, h13, h21⟩, hm, hrow, hg, hLO, hw0, ht, hL⟩ := h
  have hn := hT.1.2.1
  obtain ⟨r, hr⟩ : ∃ z, z = t_cl b n L.length o p := ⟨_, rfl⟩
  rw [← hr]
  rw [t_cl_bd] at hr
  obtain ⟨wd, hwd⟩ : ∃ z, z = t_cw b n p := ⟨_, rfl⟩
  unfold F_X12_clause
  rw [P_sortOf hT, d_b_t]
  rw [← hwd] at hr ⊢
  by_cases w10 : wd = 10
  · rw [if_pos w10] at hr
    rw [if_pos w10, if_pos (by decide), hr]
    exact ⟨s, rfl, hT, hg, fun q => absurd q (by simp)⟩
  rw [if_neg w10] at hr
  obtain ⟨w9, k1⟩ := t_cw_k (b := b) (n := n) (p := p) (by rw [← hwd]; exact w10)
  rw [← hwd] at w9
  rw [if_neg w10, if_neg (by omega)]
  have hlt : ∀ s1 : d_S, s1 = s ∨ s1 = d_si s 64 21 ((if wd < 3 then o + 2 ^ wd else o : Nat) : Int) → (wd < 3 → ¬ o / 2 ^ wd % 2 = 1) → s1.1 64 21 = ((if wd < 3 then o + 2 ^ wd else o : Nat) : Int) → L.length < 24 → (r = if (t_bd b n wd (t_x b n p)).1 ≠ 0 then t_bd b n wd (t_x b n p) else if t_is b n (t_bd b n wd (t_x b n p)).2 59 = true then (0, t_x b n (t_bd b n wd (t_x b n p)).2) else (1, (t_bd b n wd (t_x b n p)).2)) → ∃ s', F_X12_clause_j65 ((v_sx wd : Nat) : Int) (L.length : Int) s1 = some ((r.1 : Int), s') ∧ l_T b n r.2 s' ∧ l_g t0 s0 s' ∧ (r.1 = 0 → L.length < 24 ∧ ∃ w2, l_I s0 b n r.2 t0 w2 (if wd < 3 then o + 2 ^ wd else o) (L ++ [(wd, t_x b n p)]) s') := by
    intro s1 hs1 hno h211 hL24 hr
    have e1 : (∀ k, k ≠ 21 → s1.1 64 k = s.1 64 k) ∧ (∀ a, a ≠ 64 → s1.1 a = s.1 a) ∧ s1.2 = s.2 ∧ l_g t0 s s1 := by
      rcases hs1 with q | q
      · rw [q]; exact ⟨fun _ _ => rfl, fun _ _ => rfl, rfl, l_g.rf⟩
      · rw [q]; exact ⟨fun k z => by rw [d_si_i, d_u_n z], fun a z => d_si_n z, rfl, l_g.s64 (by decide)⟩
    obtain ⟨f64, fo, f2, fg⟩ := e1
    obtain ⟨o', ho'⟩ : ∃ z, z = (if wd < 3 then o + 2 ^ wd else o) := ⟨_, rfl⟩
    rw [← ho'] at h211 ⊢
    have hT1 : l_T b n p s1 := hT.g (fun k hk => f64 k (by omega)) (fo 68 (by decide)) (by rw [f2])
    obtain ⟨s4, hs4⟩ : ∃ z, z = d_si s1 64 14 ((v_sx wd : Nat) : Int) := ⟨_, rfl⟩
    have g4 : ∀ k, k ≠ 14 → s4.1 64 k = s1.1 64 k := fun k z => by rw [hs4, d_si_i, d_u_n z]
    have g4o : ∀ a, a ≠ 64 → s4.1 a = s1.1 a := fun a z => by rw [hs4, d_si_n z]
    have hT4 : l_T b n p s4 := hT1.g (fun k hk => g4 k (by omega)) (g4o 68 (by decide)) (by rw [hs4]; rfl)
    obtain ⟨s5, c1, c2, c3⟩ := P_next hT4 hp (fun e => by omega)
    have hx := t_x_lt (b := b) (t_k_lt (b := b) (n := n) (p := p) (by omega))
    obtain ⟨x, hxe⟩ : ∃ z, z = t0 + 1 + 7 * L.length := ⟨_, rfl⟩
    obtain ⟨s8, hs8⟩ : ∃ z, z = d_si s5 67 x ((v_sx wd : Nat) : Int) := ⟨_, rfl⟩
    have g8 : s8.1 64 = s5.1 64 := by rw [hs8, d_si_n (by decide)]
    have hT8 : l_T b n (t_x b n p) s8 := c2.g (fun k _ => by rw [g8]) (by rw [hs8, d_si_n (by decide)]) (by rw [hs8]; rfl)
    have k12 : s8.1 64 12 = (t0 : Int) := by rw [g8, c3.1 12 (by decide), g4 12 (by decide), f64 12 (by decide)]; exact h12
    have k13 : s8.1 64 13 = (w : Int) := by rw [g8, c3.1 13 (by decide), g4 13 (by decide), f64 13 (by decide)]; exact h13
    have k14 : s8.1 64 14 = ((v_sx wd : Nat) : Int) := by rw [g8, c3.1 14 (by decide), hs4, d_si_i, d_u_t]
    have k21 : s8.1 64 21 = (o' : Int) := by rw [g8, c3.1 21 (by decide), g4 21 (by decide)]; exact h211
    have hw304 : w ≤ 303 := by omega
    have t8 : ∀ j, j ≠ x → s8.1 67 j = s.1 67 j := fun j hj => by rw [hs8, d_si_i, d_u_n hj, c3.2.1 67 (by decide), g4o 67 (by decide), fo 67 (by decide)]
    have g80 : l_g t0 s0 s8 := by
      refine (((hg.tr fg).tr ?_).tr c3.g).tr ?_
      · rw [hs4]; exact l_g.s64 (by decide)
      · rw [hs8]; exact l_g.s67 (by omega) (by omega)
    obtain ⟨s10, d1, d2, d3, d4⟩ := P_rbody (w := wd) (w0 := w) (m := L.length) (x := x) hT8 hx.2 ht k12 k13 k14 w9 (by omega) hL24 hxe (by rw [hs8, d_si_i, d_u_t])
    have hble := t_bd_le (b := b) (n := n) (w := wd) hx.2
    obtain ⟨r2, hr2⟩ : ∃ z, z = t_bd b n wd (t_x b n p) := ⟨_, rfl⟩
    rw [← hr2] at hr d1 d2 d4 hble
    unfold F_X12_clause_j65
    have ez : d_w ((s5.1 64 12) + 1 + 7 * (L.length : Int)) = (x : Int) := by
      rw [← g8, k12, d_w_id (by omega) (by omega)]; omega
    rw [d_l_t, ← hs4, c1, d_b_t, ez, d_l_t, d_g_t (by omega), Int.toNat_natCast, d_l_t, ← hs8, d1, d_b2_t]
    by_cases r0 : r2.1 = 0
    rotate_left
    · rw [if_pos r0] at hr
      rw [if_neg (by omega), hr]
      exact ⟨s10, rfl, d2, g80.tr d3, fun q => absurd q r0⟩
    rw [if_neg (fun q => q r0)] at hr
    obtain ⟨b1, b2, w2, b3, b4, b5, b6⟩ := d4 r0
    have k12' : s10.1 64 12 = (t0 : Int) := by rw [d3.1 12 (by decide)]; exact k12
    have hc10 : s10.1 67 t0 = (L.length : Int) := by rw [b2 t0 (by omega) (by omega), t8 t0 (by omega)]; exact hm
    obtain ⟨s13, hs13⟩ : ∃ z, z = d_si s10 67 t0 ((L.length : Int) + 1) := ⟨_, rfl⟩
    have g13 : s13.1 64 = s10.1 64 := by rw [hs13, d_si_n (by decide)]
    have hT13 : l_T b n r2.2 s13 := d2.g (fun k _ => by rw [g13]) (by rw [hs13, d_si_n (by decide)]) (by rw [hs13]; rfl)
    have g130 : l_g t0 s0 s13 := (g80.tr d3).tr (by rw [hs13]; exact l_g.s67 (by omega) (by omega))
    rw [if_pos (by omega), k12', d_g_t (by omega), d_g_t (by omega), Int.toNat_natCast, hc10, d_w_id (by omega) (by omega), d_l_t, ← hs13]
    have t13 : ∀ j, j ≠ t0 → s13.1 67 j = s10.1 67 j := fun j hj => by rw [hs13, d_si_i, d_u_n hj]
    have hI : ∀ (s' : d_S) (q' : Nat), l_T b n q' s' → l_f [7, 8, 9, 10] s13 s' → r2.2 ≤ q' → l_I s0 b n q' t0 w2 o' (L ++ [(wd, t_x b n p)]) s' := by
      intro s' q' hTq hf hq
      have e67 : s'.1 67 = s13.1 67 := hf.2.1 67 (by decide)
      refine ⟨hTq, ⟨by rw [hf.1 12 (by decide), g13]; exact k12', by rw [hf.1 13 (by decide), g13]; exact b3, by rw [hf.1 21 (by decide), g13, b1]; exact k21⟩, by rw [e67, hs13, d_si_i, d_u_t, List.length_append, List.length_cons, List.length_nil]; rfl, fun c e hce => ?_, g130.tr hf.g, ?_, by omega, ht, by rw [List.length_append, List.length_cons, List.length_nil]; omega⟩
      · rw [e67]
        by_cases q : c < L.length
        · rw [List.getElem?_append_left q] at hce
          refine (hrow c e hce).keep (fun j j1 j2 => ?_) (fun j j1 j2 => ?_) b4
          · rw [t13 j (by omega), b2 j (by omega) (by omega), t8 j (by omega)]
          · rw [t13 j (by omega), b2 j (by omega) (by omega), t8 j (by omega)]
        · have hc : c = L.length := by
            by_cases z : c = L.length
            · exact z
            · rw [List.getElem?_eq_none (by rw [List.length_append, List.length_cons, List.length_nil]; omega)] at hce; cases hce
          subst hc
          rw [List.getElem?_append_right (Nat.le_refl _), Nat.sub_self] at hce
          have he : (wd, t_x b n p) = e := by simpa using hce
          rw [← he]
          exact b6.keep (fun j j1 j2 => t13 j (by omega)) (fun j j1 j2 => t13 j (by omega)) (Nat.le_refl _)
      · rw [ho']
        exact hLO.snoc (e := (wd, t_x b n p)) hno
    by_cases h59 : t_is b n r2.2 59 = true
    · rw [if_pos h59] at hr
      obtain ⟨s14, a1, a2, a3⟩ := P_next hT13 hble (t_nb2 h59 (by decide) (by decide))
      have hq := t_x_lt (b := b) (t_is_lt h59)
      rw [if_pos (hT13.s59.2 h59), a1, d_b_t, hr]
      exact ⟨s14, rfl, a2, g130.tr a3.g, fun _ => ⟨hL24, w2, hI s14 _ a2 a3 (by omega)⟩⟩
    · rw [if_neg h59] at hr
      rw [if_neg (fun q => h59 (hT13.s59.1 q)), hr]
      exact ⟨s13, rfl, hT13, g130, fun q => absurd q (by simp)⟩
  have h29 : (wd < 3 → ¬ o / 2 ^ wd % 2 = 1) → (r = if L.length = 24 then (6, p) else if (t_bd b n wd (t_x b n p)).1 ≠ 0 then t_bd b n wd (t_x b n p) else if t_is b n (t_bd b n wd (t_x b n p)).2 59 = true then (0, t_x b n (t_bd b n wd (t_x b n p)).2) else (1, (t_bd b n wd (t_x b n p)).2)) → ∃ s', F_X12_clause_j29 ((v_sx wd : Nat) : Int) s = some ((r.1 : Int), s') ∧ l_T b n r.2 s' ∧ l_g t0 s0 s' ∧ (r.1 = 0 → L.length < 24 ∧ ∃ w2, l_I s0 b n r.2 t0 w2 (if wd < 3 then o + 2 ^ wd else o) (L ++ [(wd, t_x b n p)]) s') := by
    intro hno hr
    unfold F_X12_clause_j29
    rw [h12, d_g_t (by omega), Int.toNat_natCast, hm, d_l_t]
    by_cases h24 : L.length = 24
    · rw [if_pos h24] at hr
      rw [if_pos (by omega), hr]
      exact ⟨s, rfl, hT, hg, fun q => absurd q (by simp)⟩
    rw [if_neg h24] at hr
    rw [if_neg (by omega)]
    by_cases h3 : wd < 3
    · have e3 := v_sx_law wd h3
      have e2 : d_shl 1 ((v_sx wd : Nat) : Int) = ((2 ^ wd : Nat) : Int) := by
        rw [e3]
        have := v_shl (x := 1) (k := wd) (by omega) (by have : 2 ^ wd ≤ 2 ^ 2 := Nat.pow_le_pow_right (by decide) (by omega); omega)
        rw [Nat.one_mul] at this
        exact this
      have hp2 : 2 ^ wd ≤ 4 := Nat.pow_le_pow_right (n := 2) (by decide) (show wd ≤ 2 by omega)
      have ho8 := hLO.1
      rw [if_neg (by omega), h21, e2, v_or (by omega) (by omega), (t_bit o hLO.1 wd h3 (hno h3)).2.1, d_l_t]
      refine hlt _ (Or.inr ?_) hno ?_ (by omega) hr
      · rw [if_pos h3]
      · rw [if_pos h3, d_si_i, d_u_t]
    · have := v_sx_big wd (by omega) (by omega)
      rw [if_pos (by omega)]
      exact hlt s (Or.inl rfl) hno (by rw [if_neg h3]; exact h21) (by omega) hr
  by_cases h3 : wd < 3
  · have e3 := v_sx_law wd h3
    have ho8 := hLO.1
    rw [if_neg (by omega), h21, P_has (by omega) (by omega), d_b_t, e3]
    by_cases hb : o / 2 ^ wd % 2 = 1
    · rw [if_pos ⟨h3, hb⟩] at hr
      rw [v_bt hb, if_neg (by decide), hr]
      exact ⟨s, rfl, hT, hg, fun q => absurd q (by simp)⟩
    · rw [if_neg (fun q => hb q.2)] at hr
      rw [v_bf hb, if_pos rfl]
      have := h29 (fun _ => hb) hr
      rw [e3] at this
      exact this
  · have := v_sx_big wd (by omega) (by omega)
    rw [if_neg (fun q => h3 q.1)] at hr
    rw [if_pos (by omega)]
    exact h29 (fun q => absurd q h3) hr
end X17
section X18
variable {s0 s s1 s' : d_S} {b : Nat → Nat} {n p q w w0 so t0 m o x c : Nat} {L : List (Nat × Nat)}
theorem t_tx_s {f : Nat} : t_tx b n (f + 1) m o p = if t_k b n p = 0 then (0, p) else if (t_cl b n m o p).1 ≠ 0 then t_cl b n m o p else t_tx b n f (m + 1) (if t_cw b n p < 3 then o + 2 ^ t_cw b n p else o) (t_cl b n m o p).2 := rfl
theorem P_rloop : ∀ (f N : Nat) (L : List (Nat × Nat)) (o p w : Nat) (s : d_S), l_I s0 b n p t0 w o L s → p ≤ n → f + L.length = 26 → f < N → ∃ s', F_X12_readText_l43 N s = some (((t_tx b n f L.length o p).1 : Int), s') ∧ l_T b n (t_tx b n f L.length o p).2 s' ∧ l_g t0 s0 s' ∧ ((t_tx b n f L.length o p).1 = 0 → ∃ o' w', l_I s0 b n (t_tx b n f L.length o p).2 t0 w' o' (L ++ t_cs2 b n f L.length o p) s') := by
  intro f
  induction f with
  | zero =>
    intro N L o p w s hI hp hf hN
    have := hI.2.2.2.2.2.2.2.2
    omega
  | succ f ih =>
    intro N L o p w s hI hp hf hN
    obtain ⟨N, rfl⟩ : ∃ z, N = z + 1 := ⟨N - 1, by omega⟩
    have hT := hI.1
    rw [t_tx_s]
    show ∃ s', F_X12_readText_l43_b (F_X12_readText_l43 N) s = _ ∧ _
    unfold F_X12_readText_l43_b
    by_cases k0 : t_k b n p = 0
    · rw [if_pos (hT.2.2.2.1.1 k0), if_pos k0]
      refine ⟨s, rfl, hT, hI.2.2.2.2.1, fun _ => ⟨o, w, ?_⟩⟩
      have e : t_cs2 b n (f + 1) L.length o p = [] := if_pos k0
      rw [e, List.append_nil]
      exact hI
    rw [if_neg (fun q => k0 (hT.2.2.2.1.2 q)), if_neg k0]
    obtain ⟨s1, c1, c2, c3, c4⟩ := P_clause hI hp
    have hle := t_cl_le (b := b) (m := L.length) (o := o) hp
    have e : t_cs2 b n (f + 1) L.length o p = (t_cw b n p, t_x b n p) :: t_cs2 b n f (L.length + 1) (if t_cw b n p < 3 then o + 2 ^ t_cw b n p else o) (t_cl b n L.length o p).2 := if_neg k0
    rw [e]
    obtain ⟨r, hr⟩ : ∃ z, z = t_cl b n L.length o p := ⟨_, rfl⟩
    rw [← hr] at c1 c2 c4 hle ⊢
    rw [c1, d_b2_t]
    by_cases r0 : r.1 = 0
    rotate_left
    · rw [if_neg (by omega), if_pos r0]
      exact ⟨s1, rfl, c2, c3, fun q => absurd q r0⟩
    rw [if_pos (by omega), if_neg (fun q => q r0)]
    obtain ⟨g1, w2, g2⟩ := c4 r0
    have := ih N _ _ r.2 w2 s1 g2 hle (by rw [List.length_append, List.length_cons, List.length_nil]; omega) (by omega)
    rw [List.length_append, List.length_cons, List.length_nil, List.append_assoc] at this
    exact this
def l_tt (s s' : d_S) (k : Nat) (b : Nat → Nat) (n : Nat) : Prop := (∀ a, a ≠ 64 → a ≠ 65 → a ≠ 67 → a ≠ 69 → a ≠ 70 → s'.1 a = s.1 a) ∧ (∀ j, j ≠ 1 → s'.1 65 j = s.1 65 j) ∧ s'.2.1 = s.2.1 ∧ (∀ j, j < 777 * k ∨ 777 * k + 777 ≤ j → s'.1 67 j = s.1 67 j) ∧ s'.1 64 4 = 0 ∧ s'.1 64 5 = ((t_text b n).1 : Int) ∧ s'.1 64 6 = (if (t_text b n).1 = 0 then -1 else ((t_text b n).2 : Int)) ∧ s'.1 65 1 = (if (t_text b n).1 = 0 then (k : Int) + 1 else (k : Int)) ∧ ((t_text b n).1 = 0 → ∃ o w, (t_cs2 b n 26 0 0 (t_sk b n 0)).length ≤ 24 ∧ s'.1 67 (777 * k) = ((t_cs2 b n 26 0 0 (t_sk b n 0)).length : Int) ∧ w ≤ 303 ∧ t_LO (t_cs2 b n 26 0 0 (t_sk b n 0)) o ∧ ∀ c e, (t_cs2 b n 26 0 0 (t_sk b n 0))[c]? = some e → l_row b n (s'.1 67) (777 * k) w c e)
theorem P_rtext {k : Nat} (hB : l_B b n s) (hk : s.1 65 1 = (k : Int)) (hk4 : k < 4) : ∃ s', F_X12_text s = some ((if (t_text b n).1 = 0 then (k : Int) else -1), s') ∧ l_tt s s' k b n := by
  have hn := hB.2.1
  obtain ⟨t0, ht0⟩ : ∃ z, z = 777 * k := ⟨_, rfl⟩
  obtain ⟨s1, hs1⟩ : ∃ z, z = d_si s 64 12 (t0 : Int) := ⟨_, rfl⟩
  obtain ⟨s3, hs3⟩ : ∃ z, z = d_si s1 67 t0 0 := ⟨_, rfl⟩
  obtain ⟨s4, hs4⟩ : ∃ z, z = d_si s3 64 13 0 := ⟨_, rfl⟩
  obtain ⟨s5, hs5⟩ : ∃ z, z = d_si s4 64 21 0 := ⟨_, rfl⟩
  obtain ⟨s6, hs6⟩ : ∃ z, z = d_si s5 64 7 0 := ⟨_, rfl⟩
  have e64 : ∀ j, j ≠ 12 → j ≠ 13 → j ≠ 21 → j ≠ 7 → s6.1 64 j = s.1 64 j := fun j q1 q2 q3 q4 => by rw [hs6, d_si_i, d_u_n q4, hs5, d_si_i, d_u_n q3, hs4, d_si_i, d_u_n q2, hs3, d_si_n (by decide), hs1, d_si_i, d_u_n q1]
  have eo : ∀ a, a ≠ 64 → a ≠ 67 → s6.1 a = s.1 a := fun a q1 q2 => by rw [hs6, d_si_n q1, hs5, d_si_n q1, hs4, d_si_n q1, hs3, d_si_n q2, hs1, d_si_n q1]
  have e67 : s6.1 67 = d_u (s.1 67) t0 0 := by rw [hs6, d_si_n (by decide), hs5, d_si_n (by decide), hs4, d_si_n (by decide), hs3, d_si_i, hs1, d_si_n (by decide)]
  have e12 : s6.1 64 12 = (t0 : Int) := by rw [hs6, d_si_i, d_u_n (by decide), hs5, d_si_i, d_u_n (by decide), hs4, d_si_i, d_u_n (by decide), hs3, d_si_n (by decide), hs1, d_si_i, d_u_t]
  have e13 : s6.1 64 13 = ((0 : Nat) : Int) := by rw [hs6, d_si_i, d_u_n (by decide), hs5, d_si_i, d_u_n (by decide), hs4, d_si_i, d_u_t]; rfl
  have e21 : s6.1 64 21 = ((0 : Nat) : Int) := by rw [hs6, d_si_i, d_u_n (by decide), hs5, d_si_i, d_u_t]; rfl
  have e7 : s6.1 64 7 = ((0 : Nat) : Int) := by rw [hs6, d_si_i, d_u_t]; rfl
  have hB6 : l_B b n s6 := ⟨by rw [e64 4 (by decide) (by decide) (by decide) (by decide)]; exact hB.1, hn, fun i hi => by rw [eo 68 (by decide) (by decide)]; exact hB.2.2.1 i hi, hB.2.2.2⟩
  obtain ⟨s7, a1, a2, a3⟩ := l_stp hB6 e7 (Nat.zero_le n)
  have hsk := t_sk_le (b := b) (Nat.zero_le n)
  have hI : l_I s7 b n (t_sk b n 0) t0 0 0 [] s7 := ⟨a2, ⟨by rw [a3.1 12 (by decide)]; exact e12, by rw [a3.1 13 (by decide)]; exact e13, by rw [a3.1 21 (by decide)]; exact e21⟩, by rw [a3.2.1 67 (by decide), e67, d_u_t]; rfl, fun c e h => by simp at h, l_g.rf, t_LO.nil, by omega, by omega, by decide⟩
  obtain ⟨s8, b1, b2, b3, b4⟩ := P_rloop 26 d_N [] 0 (t_sk b n 0) 0 s7 hI hsk.2 rfl (by rw [d_N_is]; decide)
  have hr99 := t_text_99 (b := b) (n := n)
  have hrn := t_text_le (b := b) (n := n)
  have b4 : (t_text b n).1 = 0 → ∃ o' w', l_I s7 b n (t_text b n).2 t0 w' o' (t_cs2 b n 26 0 0 (t_sk b n 0)) s8 := b4
  have b2 : l_T b n (t_text b n).2 s8 := b2
  have b1 : F_X12_readText_l43 d_N s7 = some (((t_text b n).1 : Int), s8) := b1
  obtain ⟨r, hr⟩ : ∃ z, z = t_text b n := ⟨_, rfl⟩
  unfold l_tt
  rw [← hr] at b1 b2 b4 hr99 hrn ⊢
  have hgo : F_X12_readText s = some ((r.1 : Int), s8) := by
    unfold F_X12_readText
    rw [hk, show d_w (777 * (k : Int)) = (t0 : Int) by rw [d_w_id (by omega) (by omega)]; omega, d_l_t, ← hs1, show s1.1 64 12 = (t0 : Int) by rw [hs1, d_si_i, d_u_t], d_g_t (by omega), Int.toNat_natCast, d_l_t, ← hs3, d_l_t, ← hs4, d_l_t, ← hs5, d_l_t, ← hs6, a1, d_b_t]
    exact b1
  obtain ⟨s9, hs9⟩ : ∃ z, z = d_si s8 64 5 (r.1 : Int) := ⟨_, rfl⟩
  have h659 : s8.1 65 = s.1 65 := by rw [b3.2.1 65 (by decide) (by decide) (by decide) (by decide), a3.2.1 65 (by decide), eo 65 (by decide) (by decide)]
  have fr8 : ∀ a, a ≠ 64 → a ≠ 65 → a ≠ 67 → a ≠ 69 → a ≠ 70 → s8.1 a = s.1 a := fun a q1 q2 q3 q4 q5 => by rw [b3.2.1 a q1 q3 q4 q5, a3.2.1 a q1, eo a q1 q3]
  have fr82 : s8.2.1 = s.2.1 := by rw [b3.2.2.2.1, a3.2.2.1, hs6, hs5, hs4, hs3, hs1]; rfl
  have fr67 : ∀ j, j < t0 ∨ t0 + 777 ≤ j → s8.1 67 j = s.1 67 j := fun j hj => by rw [b3.2.2.1 j hj, a3.2.1 67 (by decide), e67, d_u_n (by omega)]
  unfold F_X12_text
  rw [hk, if_neg (by omega), hgo, d_b2_t, d_l_t, ← hs9, show s9.1 64 5 = (r.1 : Int) by rw [hs9, d_si_i, d_u_t], show s9.1 64 8 = (r.2 : Int) by rw [hs9, d_si_i, d_u_n (by decide)]; exact b2.2.1]
  unfold F_X12_text_j36
  by_cases r0 : r.1 = 0
  · rw [if_pos (by omega), if_pos r0, if_pos r0, if_pos r0, d_l_t, d_l_t]
    obtain ⟨s5', hs5'⟩ : ∃ z, z = d_si (d_si s9 64 6 (-1)) 64 4 0 := ⟨_, rfl⟩
    have o5 : ∀ a, a ≠ 64 → s5'.1 a = s8.1 a := fun a q => by rw [hs5', d_si_n q, d_si_n q, hs9, d_si_n q]
    obtain ⟨s6', hs6'⟩ : ∃ z, z = d_si s5' 65 1 ((k : Int) + 1) := ⟨_, rfl⟩
    have o6 : s6'.1 64 = s5'.1 64 := by rw [hs6', d_si_n (by decide)]
    rw [← hs5', show s5'.1 64 5 = (r.1 : Int) by rw [hs5', d_si_i, d_u_n (by decide), d_si_i, d_u_n (by decide), hs9, d_si_i, d_u_t], if_pos (by omega), o5 65 (by decide), h659, hk, d_w_id (by omega) (by omega), d_l_t, ← hs6', show s6'.1 65 1 = (k : Int) + 1 by rw [hs6', d_si_i, d_u_t], d_w_id (by omega) (by omega), show (k : Int) + 1 - 1 = (k : Int) by omega]
    refine ⟨s6', rfl, fun a q1 q2 q3 q4 q5 => by rw [hs6', d_si_n q2, o5 a q1, fr8 a q1 q2 q3 q4 q5], fun j hj => by rw [hs6', d_si_i, d_u_n hj, o5 65 (by decide), h659], by rw [hs6', hs5', hs9]; exact fr82, fun j hj => by rw [hs6', d_si_n (by decide), o5 67 (by decide)]; exact fr67 j (by omega), by rw [o6, hs5', d_si_i, d_u_t], by rw [o6, hs5', d_si_i, d_u_n (by decide), d_si_i, d_u_n (by decide), hs9, d_si_i, d_u_t], by rw [o6, hs5', d_si_i, d_u_n (by decide), d_si_i, d_u_t], by rw [hs6', d_si_i, d_u_t], fun _ => ?_⟩
    obtain ⟨o', w', -, -, hm, hrow, -, hLO, hw', -, hL⟩ := b4 r0
    refine ⟨o', w', hL, ?_, by omega, hLO, fun c e hce => ?_⟩
    · rw [hs6', d_si_n (by decide), o5 67 (by decide), ← ht0]; exact hm
    · rw [hs6', d_si_n (by decide), o5 67 (by decide), ← ht0]; exact hrow c e hce
  · rw [if_neg (by omega), if_neg r0, if_neg r0, if_neg r0, d_l_t, d_l_t]
    obtain ⟨s5', hs5'⟩ : ∃ z, z = d_si (d_si s9 64 6 (r.2 : Int)) 64 4 0 := ⟨_, rfl⟩
    have o5 : ∀ a, a ≠ 64 → s5'.1 a = s8.1 a := fun a q => by rw [hs5', d_si_n q, d_si_n q, hs9, d_si_n q]
    rw [← hs5', show s5'.1 64 5 = (r.1 : Int) by rw [hs5', d_si_i, d_u_n (by decide), d_si_i, d_u_n (by decide), hs9, d_si_i, d_u_t], if_neg (by omega)]
    exact ⟨s5', rfl, fun a q1 q2 q3 q4 q5 => by rw [o5 a q1, fr8 a q1 q2 q3 q4 q5], fun j hj => by rw [o5 65 (by decide), h659], by rw [hs5', hs9]; exact fr82, fun j hj => by rw [o5 67 (by decide)]; exact fr67 j (by omega), by rw [hs5', d_si_i, d_u_t], by rw [hs5', d_si_i, d_u_n (by decide), d_si_i, d_u_n (by decide), hs9, d_si_i, d_u_t], by rw [hs5', d_si_i, d_u_n (by decide), d_si_i, d_u_t], by rw [o5 65 (by decide), h659]; exact hk, fun q => absurd q r0⟩
theorem P_rtext4 (hk : s.1 65 1 = 4) : F_X12_text s = some (-1, s) := by
  unfold F_X12_text
  rw [hk, if_pos rfl]
end X18
section X19
variable {s s1 s' : d_S} {t : Nat → Option p_C} {h h2 : p_H} {c : p_C}
theorem y_80 (hH : d_V t h s) : 80 ≤ h.length := by
  obtain ⟨vs, hc, -⟩ := hH.2.2.1 79 (by decide) (by decide)
  have := (List.getElem?_eq_some_iff.mp hc).1
  omega
theorem y_len (hH : d_V t h s) (hH2 : d_V t h2 s1) : h2.length = h.length := by
  have a1 := y_80 hH
  have a2 := y_80 hH2
  have e1 : t h.length = none := by rw [← hH.2.1 h.length (Or.inr a1)]; exact List.getElem?_eq_none (Nat.le_refl _)
  have e2 : t h2.length = none := by rw [← hH2.2.1 h2.length (Or.inr a2)]; exact List.getElem?_eq_none (Nat.le_refl _)
  have b1 : ¬ h.length < h2.length := fun q => by
    have := hH2.2.1 h.length (Or.inr a1)
    rw [e1, List.getElem?_eq_getElem q] at this
    cases this
  have b2 : ¬ h2.length < h.length := fun q => by
    have := hH.2.1 h2.length (Or.inr a2)
    rw [e2, List.getElem?_eq_getElem q] at this
    cases this
  omega
theorem y_sl (hH : d_V t h s) (hH2 : d_V t h2 s1) : p_sl h2 = p_sl h := by
  have hl := y_len hH hH2
  unfold p_sl
  congr 1
  refine List.ext_getElem? (fun i => ?_)
  rw [List.getElem?_map, List.getElem?_map]
  by_cases q : i ≤ 1 ∨ 80 ≤ i
  · rw [hH.2.1 i q, hH2.2.1 i q]
  · obtain ⟨vs, g1, g2, -⟩ := hH.2.2.1 i (by omega) (by omega)
    obtain ⟨ws, k1, k2, -⟩ := hH2.2.2.1 i (by omega) (by omega)
    rw [g1, k1]
    show some ws.length = some vs.length
    rw [g2, k2]
theorem y_none (hH : d_V t h s) : t h.length = none := by
  rw [← hH.2.1 h.length (Or.inr (y_80 hH))]
  exact List.getElem?_eq_none (Nat.le_refl _)
theorem y_new (hH : d_V t h s) (c : p_C) : d_V (d_u t h.length (some c)) (h ++ [c]) s := by
  have h80 := y_80 hH
  have hn := y_none hH
  obtain ⟨a1, a2, a3, a4⟩ := hH
  refine ⟨a1, fun a ha => ?_, fun a g1 g2 => ?_, fun a k x hx hs => ?_⟩
  · by_cases q : a = h.length
    · subst q
      rw [d_u_t, List.getElem?_append_right (Nat.le_refl _), Nat.sub_self]; rfl
    · rw [d_u_n q, ← a2 a ha]
      by_cases z : a < h.length
      · rw [List.getElem?_append_left z]
      · have hl : (h ++ [c]).length = h.length + 1 := by rw [List.length_append]; rfl
        exact (List.getElem?_eq_none (show (h ++ [c]).length ≤ a by omega)).trans (List.getElem?_eq_none (show h.length ≤ a by omega)).symm
  · obtain ⟨vs, g3, g4⟩ := a3 a g1 g2
    exact ⟨vs, by rw [List.getElem?_append_left (by omega)]; exact g3, g4⟩
  · obtain ⟨g1, vs, g2⟩ := a4 a k x hx hs
    refine ⟨g1, vs, ?_⟩
    rw [d_u_n (fun e => by rw [e, hn] at g2; cases g2)]
    exact g2
theorem y_tle (hH : d_V t h s) (c : p_C) : v_tle t (d_u t h.length (some c)) := by
  intro i c' hi
  rw [d_u_n (fun e => by rw [e, y_none hH] at hi; cases hi)]
  exact hi
end X19
section Y19
variable {d : Nat} {M : p_M} {pc l : Nat} {ls : p_Ls} {st : List Value} {h : p_H} {Q : Option Value → p_H → Prop} {a b n : Nat} {vs ws : List Value}
theorem y_oi {n : Nat} : Int32.ofInt (n : Int) = Int32.ofNat n := rfl
theorem y_ti (hn : n < 100000) : (Int32.ofNat n).toInt = (n : Int) := Int32.toInt_ofNat_of_lt (by omega)
theorem y_nl (hn : n < 100000) : ¬ Int32.ofNat n < 0 := by
  rw [Int32.lt_iff_toInt_lt, y_ti hn, Int32.toInt_zero]
  omega
theorem y_ncl (hn : n < 100000) : (Int32.ofNat n).toNatClampNeg = n := by
  show (Int32.ofNat n).toInt.toNat = n
  rw [y_ti hn, Int.toNat_natCast]
theorem y_alen (hat : p_at pc M.2.2.2.2.1 = some (.arraylength, l)) (hc : h[a]? = some (1, 0, vs)) (hk : p_wp p_GT p_MT d M (pc + 1) ls (.int (Int32.ofNat vs.length) :: st) h Q) : p_wp p_GT p_MT d M pc ls (.ref a :: st) h Q :=
  p_wp.step hat (by simp only [p_step, hc]; rfl) hk
theorem y_clone {X : Nat} {q : Nat × Int} (hat : p_at pc M.2.2.2.2.1 = some (.invokevirtual X, l)) (hp : p_pk X 12 M.2.2.2.2.2.1 = some q) (hc : h[a]? = some (1, 0, vs)) (hi : vs.all (fits .int) = true) (hs : p_cat st ≤ 8) (hk : p_wp p_GT p_MT d M (pc + 3) ls (.ref h.length :: st) (h ++ [(1, 0, vs)]) Q) : p_wp p_GT p_MT d M pc ls (.ref a :: st) h Q :=
  p_wp.step hat (by simp only [p_step, p_vir, hp, p_clone, hc, hi, hs, and_self, if_true]; rfl) hk
theorem y_cc {X : Nat} {q : Nat × Int} (hat : p_at pc M.2.2.2.2.1 = some (.checkcast X, l)) (hp : p_pk X 13 M.2.2.2.2.2.1 = some q) (hc : h[a]? = some (1, 0, vs)) (hk : p_wp p_GT p_MT d M (pc + 3) ls (.ref a :: st) h Q) : p_wp p_GT p_MT d M pc ls (.ref a :: st) h Q :=
  p_wp.step hat (by simp only [p_step, p_cc, hp, hc]; rfl) hk
theorem y_newa (hat : p_at pc M.2.2.2.2.1 = some (.newarray .int, l)) (hn : n < 100000) (hk : p_wp p_GT p_MT d M (pc + 2) ls (.ref h.length :: st) (h ++ [(1, 0, List.replicate n (.int 0))]) Q) : p_wp p_GT p_MT d M pc ls (.int (Int32.ofNat n) :: st) h Q := by
  refine p_wp.step hat ?_ hk
  have h1 : ¬ Int32.ofNat n < 0 ∧ (Int32.ofNat n).toNatClampNeg ≤ 1000000 := ⟨y_nl hn, by rw [y_ncl hn]; omega⟩
  simp only [p_step, p_ty, p_newa]
  rw [if_pos h1, y_ncl hn]
  rfl
theorem y_acopy {X : Nat} {q : Nat × Int} (hat : p_at pc M.2.2.2.2.1 = some (.invokestatic X, l)) (hp : p_pk X 7 M.2.2.2.2.2.1 = some q) (hs : h[a]? = some (1, 0, vs)) (hd : h[b]? = some (1, 0, ws)) (hn : n < 100000) (h1 : n ≤ vs.length) (h2 : n ≤ ws.length) (hi : (vs.take n).all (fits .int) = true) (hst : p_cat st ≤ 8) (hk : p_wp p_GT p_MT d M (pc + 3) ls st (h.set b (1, 0, p_cpy vs ws 0 0 n)) Q) : p_wp p_GT p_MT d M pc ls (.int (Int32.ofNat n) :: .int (Int32.ofNat 0) :: .ref b :: .int (Int32.ofNat 0) :: .ref a :: st) h Q := by
  refine p_wp.step hat ?_ hk
  have hz : (Int32.ofNat 0).toNatClampNeg = 0 := y_ncl (by decide)
  have hc : ¬ Int32.ofNat 0 < 0 ∧ ¬ Int32.ofNat 0 < 0 ∧ ¬ Int32.ofNat n < 0 ∧ (Int32.ofNat 0).toNatClampNeg + (Int32.ofNat n).toNatClampNeg ≤ vs.length ∧ (Int32.ofNat 0).toNatClampNeg + (Int32.ofNat n).toNatClampNeg ≤ ws.length ∧ ((vs.drop (Int32.ofNat 0).toNatClampNeg).take (Int32.ofNat n).toNatClampNeg).all (fits .int) = true ∧ p_cat st ≤ 8 := by
    rw [hz, y_ncl hn, Nat.zero_add, List.drop_zero]
    exact ⟨by decide, by decide, y_nl hn, h1, h2, hi, hst⟩
  simp only [p_step, p_invs, hp, p_copy, hs, hd]
  rw [if_pos hc, hz, y_ncl hn]
  rfl
theorem y_areturn {E : FieldType} (hat : p_at pc M.2.2.2.2.1 = some (.areturn, l)) (hr : M.2.2.2.1 = some (.array E)) (hq : Q (some (.ref a)) h) : p_wp p_GT p_MT d M pc ls [.ref a] h Q :=
  p_wp.ret hat (by simp only [p_step, p_ret, hr]) hq
theorem y_all : ∀ {vs : List Value}, (∀ j, j < vs.length → ∃ y : Int32, vs[j]? = some (.int y)) → vs.all (fits .int) = true := by
  intro vs hv
  refine List.all_eq_true.mpr (fun v hm => ?_)
  obtain ⟨j, hj⟩ := List.getElem?_of_mem hm
  obtain ⟨y, hy⟩ := hv j (List.getElem?_eq_some_iff.mp hj).1
  rw [hj] at hy
  cases hy
  rfl
theorem y_copyOf (hc : h[a]? = some (1, 0, vs)) (hl : vs.length < 1000) (hn : n ≤ vs.length) (hv : ∀ j, j < vs.length → ∃ y : Int32, vs[j]? = some (.int y)) (hQ : Q (some (.ref h.length)) (h ++ [(1, 0, vs.take n)])) : p_wp p_GT p_MT (d + 1) m_J7_copyOf_59c91 0 (lv_args 0 [.ref a, .int (Int32.ofInt (n : Int))]) [] h Q := by
  have hal : a < h.length := (List.getElem?_eq_some_iff.mp hc).1
  refine dw_iln (x := (n : Int)) rfl rfl (dw_aln rfl rfl (y_alen rfl hc ?_))
  by_cases e : n = vs.length
  · have et : vs.take n = vs := by rw [e, List.take_length]
    rw [et] at hQ
    refine dw_ne_y (x := (n : Int)) (y := (vs.length : Int)) rfl rfl ⟨by omega, by omega⟩ ⟨by omega, by omega⟩ (by omega) ?_
    exact dw_aln rfl rfl (y_clone rfl rfl hc (y_all hv) (by decide) (y_cc rfl rfl (vs := vs) (by simp) (y_areturn rfl rfl hQ)))
  · refine dw_ne_n (x := (n : Int)) (y := (vs.length : Int)) rfl rfl ⟨by omega, by omega⟩ ⟨by omega, by omega⟩ (by omega) ?_
    refine dw_iln (x := (n : Int)) rfl rfl (y_newa (n := n) rfl (by omega) (dw_asn rfl rfl ?_))
    have hc' : (h ++ [(1, 0, List.replicate n (.int 0))])[a]? = some (1, 0, vs) := by rw [List.getElem?_append_left hal]; exact hc
    have hd' : (h ++ [(1, 0, List.replicate n (.int 0))])[h.length]? = some (1, 0, List.replicate n (.int 0)) := by simp
    refine dw_aln (a := a) rfl rfl (dw_ic rfl (dw_aln (a := h.length) rfl rfl (dw_ic rfl (dw_aln (a := a) rfl rfl (y_alen rfl hc' (dw_iln (x := (n : Int)) rfl rfl ?_))))))
    have hmin : F_J9_min_7cf53 (vs.length : Int) (n : Int) = some (n : Int) := by rw [P_min]; congr 1; omega
    have hF : d_b (F_J9_min_7cf53 (vs.length : Int) (n : Int)) (fun v => some v) = some (n : Int) := by rw [hmin, d_b_t]
    refine dw_sP hF rfl rfl rfl rfl (dc := 0) (Nat.ble_eq_true_of_le (by omega)) (fun _ e => D_J9_min_7cf53 e ⟨by omega, by omega⟩ ⟨by omega, by omega⟩) (fun v hv1 hF => ?_)
    have hve : v = (n : Int) := Option.some.inj hF
    subst hve
    have htk : (vs.take n).all (fits .int) = true := by
      refine List.all_eq_true.mpr (fun v hm => List.all_eq_true.mp (y_all hv) v (List.mem_of_mem_take hm))
    refine y_acopy (n := n) rfl rfl hc' hd' (by omega) hn (by simp) htk (by decide) (dw_aln (a := h.length) rfl rfl (y_areturn rfl rfl ?_))
    have ecp : p_cpy vs (List.replicate n (.int 0)) 0 0 n = vs.take n := by
      simp only [p_cpy, List.take_zero, List.nil_append, List.drop_zero, Nat.zero_add]
      rw [List.drop_eq_nil_of_le (by simp), List.append_nil]
    have est : (h ++ [((1, 0, List.replicate n (Value.int 0)) : p_C)]).set h.length (1, 0, vs.take n) = h ++ [((1, 0, vs.take n) : p_C)] := by
      rw [List.set_append_right _ _ (Nat.le_refl _), Nat.sub_self]; rfl
    rw [ecp, est]
    exact hQ
end Y19
section X20
variable {s s1 s' : d_S} {t : Nat → Option p_C} {h : p_H} {d : Nat} {M : p_M} {pc l : Nat} {ls : p_Ls} {st : List Value} {Q : Option Value → p_H → Prop} {x : Int}
theorem y_ret (hat : p_at pc M.2.2.2.2.1 = some (.ireturn, l)) (hr : M.2.2.2.1 = some .boolean) (hx : x = 0 ∨ x = 1) (hQ : Q (some (.int (Int32.ofInt x))) h) : p_wp p_GT p_MT d M pc ls [.int (Int32.ofInt x)] h Q :=
  p_wp.ret hat (by simp only [p_step, p_ret, hr]; exact if_pos (d_nar hx)) hQ
theorem y_retI (hat : p_at pc M.2.2.2.2.1 = some (.ireturn, l)) (hr : M.2.2.2.1 = some .int) (hQ : Q (some (.int (Int32.ofInt x))) h) : p_wp p_GT p_MT d M pc ls [.int (Int32.ofInt x)] h Q :=
  p_wp.ret hat (by simp only [p_step, p_ret, hr]; exact if_pos rfl) hQ
theorem y_static {X m dc : Nat} {as rest : List Value} {M' : p_M} {Q1 : Option Value → p_H → Prop} (hat : p_at pc M.2.2.2.2.1 = some (.invokestatic X, l)) (hs : p_invs M.2.2.2.2.2.1 X (pc + 3) ls st h = some (.inr (.inr (m, as, rest)))) (hM : p_MT[m]? = some M') (hc : Nat.ble (p_cat as) M'.2.2.1 = true) (hd : dc + 1 ≤ d) (h1 : p_wp p_GT p_MT dc M' 0 (lv_args 0 as) [] h Q1) (hk : ∀ v h', Q1 v h' → p_wp p_GT p_MT d M (pc + 3) ls (v.toList ++ rest) h' Q) : p_wp p_GT p_MT d M pc ls st h Q :=
  p_wp.call hat (by simp only [p_step]; exact hs) hM (Nat.le_of_ble_eq_true hc) hd h1 hk
theorem y_virt {X m dc : Nat} {as rest : List Value} {M' : p_M} {Q1 : Option Value → p_H → Prop} (hat : p_at pc M.2.2.2.2.1 = some (.invokevirtual X, l)) (hs : p_vir p_MT M.2.2.2.2.2.1 X (pc + 3) ls st h = some (.inr (.inr (m, as, rest)))) (hM : p_MT[m]? = some M') (hc : Nat.ble (p_cat as) M'.2.2.1 = true) (hd : dc + 1 ≤ d) (h1 : p_wp p_GT p_MT dc M' 0 (lv_args 0 as) [] h Q1) (hk : ∀ v h', Q1 v h' → p_wp p_GT p_MT d M (pc + 3) ls (v.toList ++ rest) h' Q) : p_wp p_GT p_MT d M pc ls st h Q :=
  p_wp.call hat (by simp only [p_step]; exact hs) hM (Nat.le_of_ble_eq_true hc) hd h1 hk
theorem y_po {X k : Nat} {f : Int} {e : Option Nat} (hat : p_at pc M.2.2.2.2.1 = some (.putfield X, l)) (hp : p_pk X 0 M.2.2.2.2.2.1 = some (3, f)) (hf : f.toNat = k) (hG : (p_GT[3]?).bind (fun r => r[f.toNat]?) = some (.array .int, false)) (hH : d_V t h s) (hc : d_ck 43 3 k 4 = true) (hk : ∀ h', d_V t h' (d_sp s 43 k e) → p_wp p_GT p_MT d M (pc + 3) ls st h' Q) : p_wp p_GT p_MT d M pc ls (d_pv e :: .ref 43 :: st) h Q :=
  dw_put (s' := d_sp s 43 k e) hat hp hf hG (by cases e <;> rfl) hH hc hH.1 (fun b j hb => d_sp_o hb) (by simp only [d_pl]; rw [d_sp_t]) (fun x h1 h2 => absurd h1 (by decide)) (fun h hV => hk h hV)
end X20
def k_q (L : List Nat) (s s' : d_S) : Prop := (∀ k, k ∉ L → s'.1 43 k = s.1 43 k) ∧ (∀ a, a ≠ 43 → a ≠ 46 → s'.1 a = s.1 a) ∧ (∀ a, a ≠ 43 → s'.2.1 a = s.2.1 a) ∧ s'.2.2 = s.2.2
def k_Lq : List Nat := [2, 3, 4, 5, 6, 7, 15, 16, 17]
section Y20
variable {s s1 s' : d_S} {t : Nat → Option p_C} {h : p_H} {b : Nat → Nat} {n p w : Nat}
theorem k_q.rf {L : List Nat} : k_q L s s := ⟨fun _ _ => rfl, fun _ _ _ => rfl, fun _ _ => rfl, rfl⟩
theorem k_q.tr {L : List Nat} (h : k_q L s s1) (h' : k_q L s1 s') : k_q L s s' := ⟨fun a z => (h'.1 a z).trans (h.1 a z), fun a y z => (h'.2.1 a y z).trans (h.2.1 a y z), fun a z => (h'.2.2.1 a z).trans (h.2.2.1 a z), h'.2.2.2.trans h.2.2.2⟩
theorem k_h.q {L M : List Nat} (h : k_h L s s1) (hm : ∀ a, a ∈ L → a ∈ M) : k_q M s s1 := ⟨fun k z => h.1 k (fun y => z (hm k y)), h.2.1, fun a _ => by rw [h.2.2], by rw [h.2.2]⟩
theorem k_q.si {L : List Nat} {k : Nat} {y : Int} (h : k ∈ L) : k_q L s (d_si s 43 k y) := (k_f.si (L := L) h).h.q (fun _ q => q)
theorem k_q.sp {L : List Nat} {k : Nat} {e : Option Nat} : k_q L s (d_sp s 43 k e) := ⟨fun _ _ => rfl, fun _ _ _ => rfl, fun a z => d_u_n z, rfl⟩
theorem k_q.T {L : List Nat} (h : k_T b n p s) (h' : k_q L s s') (h1 : 1 ∉ L ∧ 4 ∉ L ∧ 5 ∉ L ∧ 6 ∉ L ∧ 7 ∉ L) : k_T b n p s' := by
  obtain ⟨⟨a1, a2, a3, a0⟩, ⟨a4, a5, a6⟩, a7⟩ := h
  refine ⟨⟨by rw [h'.1 1 h1.1]; exact a1, a2, fun i hi => by rw [h'.2.1 44 (by decide) (by decide)]; exact a3 i hi, a0⟩, ⟨by rw [h'.1 4 h1.2.1]; exact a4, by rw [h'.1 5 h1.2.2.1]; exact a5, by rw [h'.1 6 h1.2.2.2.1]; exact a6⟩, ?_⟩
  rw [h'.1 7 h1.2.2.2.2]
  exact a7
theorem H_readLaw (hw : w < 3) (hW : k_wds t) (hH : d_V t h s) (hT : k_T b n p s) (h17 : s.1 43 17 = 0) (hp : p ≤ n) (hp1 : 1 ≤ p) : p_wp p_GT p_MT 38 m_X3_readLaw 0 (lv_args 0 [.ref 43, .int (Int32.ofInt (w : Int))]) [] h (fun v h2 => ∃ t2 s2, v = some (.int (Int32.ofInt (v_b ((t_P b n (Nat.beq w 1) 4000 2 0 0 p).1 = 0)))) ∧ d_V t2 h2 s2 ∧ v_tle t t2 ∧ k_q k_Lq s s2 ∧ h2.length ≤ h.length + 1 ∧ p_sl h2 ≤ p_sl h + 600 ∧ ((t_P b n (Nat.beq w 1) 4000 2 0 0 p).1 ≠ 0 → s2.1 43 2 = ((t_P b n (Nat.beq w 1) 4000 2 0 0 p).1 : Int) ∧ s2.1 43 3 = ((t_P b n (Nat.beq w 1) 4000 2 0 0 p).2 : Int)) ∧ ((t_P b n (Nat.beq w 1) 4000 2 0 0 p).1 = 0 → k_T b n (t_P b n (Nat.beq w 1) 4000 2 0 0 p).2 s2 ∧ s2.1 43 2 = s.1 43 2 ∧ s2.1 43 3 = s.1 43 3 ∧ s2.1 43 17 = 0 ∧ s2.2.1 43 = d_u (s.2.1 43) (11 + w) (some h.length) ∧ ∃ C len, m_C t2 h.length C len ∧ ∀ ν, t_bn ν → c_Sg ν C 0 len (t_V b n (Nat.beq w 1) ν 4000 2 0 0 p 0) 19)) := by
  have hn := hT.1.2.1
  have h80 := y_80 hH
  obtain ⟨s1, hs1⟩ : ∃ z, z = d_si s 43 16 (w : Int) := ⟨_, rfl⟩
  obtain ⟨s2, hs2⟩ : ∃ z, z = d_si s1 43 15 0 := ⟨_, rfl⟩
  have q2 : k_q k_Lq s s2 := by rw [hs2, hs1]; exact (k_q.si (by decide)).tr (k_q.si (by decide))
  have e2 : ∀ k, k ≠ 15 → k ≠ 16 → s2.1 43 k = s.1 43 k := fun k z1 z2 => by rw [hs2, d_si_i, d_u_n z1, hs1, d_si_i, d_u_n z2]
  have f2 : k_f [15, 16] s s2 := by rw [hs2, hs1]; exact (k_f.si (by decide)).tr (k_f.si (by decide))
  have hS2 : k_S b n p 0 (fun _ => (0, 0)) w false s2 := by
    refine ⟨hT.f f2 (by decide), ⟨by rw [hs2, d_si_i, d_u_t]; rfl, by rw [hs2, d_si_i, d_u_n (by decide), hs1, d_si_i, d_u_t], by rw [e2 17 (by decide) (by decide)]; exact h17⟩, by decide, fun k hk => absurd hk (Nat.not_lt_zero k)⟩
  obtain ⟨r, hr⟩ : ∃ z, z = t_P b n (Nat.beq w 1) 4000 2 0 0 p := ⟨_, rfl⟩
  obtain ⟨s3, c1, c2⟩ := (k_BB_ok (b := b) (n := n) (so := w) hW 4000).2.2.1 35 0 0 p 0 false (fun _ => (0, 0)) s2 r hr.symm (by omega) hp (by decide) rfl (by omega) (by decide) hS2
  generalize hVV : (fun ν => t_V b n (Nat.beq w 1) ν 4000 2 0 0 p 0) = VV
  have hVe : ∀ ν, t_V b n (Nat.beq w 1) ν 4000 2 0 0 p 0 = VV ν := fun ν => by rw [← hVV]
  have c2' : r.1 = 0 → ∃ (u2 : Nat) (C2 : Nat → Nat × Nat), u2 + 2 * p ≤ 0 + 2 * r.2 ∧ k_S b n r.2 u2 C2 w false s3 ∧ (∀ ν, c_Sg ν C2 0 u2 (VV ν) 19) ∧ k_h k_Lw s2 s3 := by
    intro z
    obtain ⟨u2, C2, g1, g2, g3, g4, -⟩ := c2.1 z
    refine ⟨u2, C2, g1, g2, fun ν => ?_, g4⟩
    rw [← hVe ν]
    exact g3.2.2 ν
  have c2n := c2.2
  clear c2
  rw [← hr]
  have hF : d_l (d_si s 43 16 (w : Int)) (fun s1 => d_l (d_si s1 43 15 0) (fun s2 => d_b2 ((k_F t 35).1 s2 0) (fun v s3 => some (v, s3)))) = some (v_b (r.1 = 0), s3) := by
    rw [d_l_t, ← hs1, d_l_t, ← hs2, show (k_F t 35).1 s2 0 = some (v_b (r.1 = 0), s3) from c1, d_b2_t]
  simp only [hVe]
  refine dw_aln (a := 43) rfl rfl (dw_iln (x := (w : Int)) rfl rfl (dw_pi (k := 16) rfl rfl rfl rfl hH d_c43_16 ⟨by omega, by omega⟩ (by decide) hF (fun s1' h1 hH1 hF => ?_)))
  refine dw_aln (a := 43) rfl rfl (dw_ic rfl (dw_pi (k := 15) rfl rfl rfl rfl hH1 d_c43_15 (d_rl rfl) (by decide) hF (fun s2' h2 hH2 hF => ?_)))
  refine dw_aln (a := 43) rfl rfl (dw_ic rfl (dw_vC hF rfl (d_vir (n := 2) rfl rfl rfl rfl rfl hH2 d_c43_0 rfl) rfl rfl rfl (dc := 37) (fun _ _ e => (k_F_ok 35).1 e hH2 (d_rl rfl)) (fun v s3' h3 hH3 r_v hF => ?_)))
  have ev : v = v_b (r.1 = 0) ∧ s3' = s3 := by
    have := Option.some.inj hF
    injection this with z1 z2
    exact ⟨z1, z2⟩
  obtain ⟨ev, es⟩ := ev
  subst es
  subst ev
  have hl3 := y_len hH hH3
  have hsl3 := y_sl hH hH3
  by_cases r0 : r.1 = 0
  rotate_left
  · rw [v_bf r0]
    obtain ⟨g1, g2, g3⟩ := c2n r0
    exact dw_zne_y rfl (u := 20) rfl (d_rl rfl) rfl (dw_ic rfl (y_ret rfl rfl (Or.inl rfl) ⟨t, s3', rfl, hH3, fun _ _ q => q, q2.tr (g3.q (by decide)), by omega, by omega, fun _ => ⟨g1, g2⟩, fun q => absurd q r0⟩))
  rw [v_bt r0]
  obtain ⟨u2, C2, g1, g2, g3, g4⟩ := c2' r0
  obtain ⟨gT, ⟨u15, u16, u17⟩, u600, uC⟩ := g2
  obtain ⟨vs, a1, a2, a3⟩ := hH3.arr d_a46
  have a3' : ∀ k, k < 600 → vs[k]? = some (.int (Int32.ofInt (s3'.1 46 k))) := fun k hk => by
    obtain ⟨v, b1, b2⟩ := a3 k hk
    have b2 : v = .int (Int32.ofInt (s3'.1 46 k)) := b2
    rw [b1, b2]
  refine dw_zne_n rfl (u := 20) rfl (d_rl rfl) (by decide) ?_
  refine dw_aln (a := 43) rfl rfl (dw_gr (k := 14) rfl rfl rfl hH3 d_c43_14 (dw_aln (a := 43) rfl rfl (dw_gi (k := 15) rfl rfl rfl hH3 d_c43_15 ?_)))
  rw [u15]
  refine y_static (dc := 1) (Q1 := fun v h' => v = some (.ref h3.length) ∧ h' = h3 ++ [(1, 0, vs.take u2)]) rfl rfl rfl rfl (by decide) (y_copyOf (n := u2) a1 (by omega) (by omega) (fun j hj => ⟨_, a3' j (by omega)⟩) ⟨rfl, rfl⟩) ?_
  rintro v h4 ⟨rfl, rfl⟩
  have hH4 := y_new hH3 (1, 0, vs.take u2)
  have ht4 := y_tle hH3 (1, 0, vs.take u2)
  have hlt : (vs.take u2).length = u2 := by rw [List.length_take]; omega
  have hC : m_C (d_u t h3.length (some (1, 0, vs.take u2))) h3.length C2 u2 := by
    refine ⟨by omega, u600, vs.take u2, d_u_t, hlt, fun k hk => ?_⟩
    obtain ⟨z1, z2, z3⟩ := uC k hk
    exact ⟨by rw [List.getElem?_take, if_pos hk, a3' k (by omega), z1], z2, z3⟩
  have q3 : k_q k_Lq s s3' := q2.tr (g4.q (by decide))
  have fin : ∀ h5 k, k = 11 + w → d_V (d_u t h3.length (some (1, 0, vs.take u2))) h5 (d_sp s3' 43 k (some h3.length)) → ∃ t2 s2, some (Value.int (Int32.ofInt 1)) = some (.int (Int32.ofInt 1)) ∧ d_V t2 h5 s2 ∧ v_tle t t2 ∧ k_q k_Lq s s2 ∧ h5.length ≤ h.length + 1 ∧ p_sl h5 ≤ p_sl h + 600 ∧ (r.1 ≠ 0 → s2.1 43 2 = (r.1 : Int) ∧ s2.1 43 3 = (r.2 : Int)) ∧ (r.1 = 0 → k_T b n r.2 s2 ∧ s2.1 43 2 = s.1 43 2 ∧ s2.1 43 3 = s.1 43 3 ∧ s2.1 43 17 = 0 ∧ s2.2.1 43 = d_u (s.2.1 43) (11 + w) (some h.length) ∧ ∃ C len, m_C t2 h.length C len ∧ ∀ ν, t_bn ν → c_Sg ν C 0 len (VV ν) 19) := by
    intro h5 k hk hH5
    have hl5 := y_len hH4 hH5
    have hsl5 := y_sl hH4 hH5
    have e1 : (h3 ++ [((1, 0, vs.take u2) : p_C)]).length = h3.length + 1 := by rw [List.length_append]; rfl
    have e3 : p_sl (h3 ++ [((1, 0, vs.take u2) : p_C)]) = p_sl h3 + u2 := by rw [p_sl_app]; show p_sl h3 + (vs.take u2).length = _; rw [hlt]
    refine ⟨_, _, rfl, hH5, ht4, q3.tr k_q.sp, by omega, by omega, fun q => absurd r0 q, fun _ => ⟨k_q.T (L := []) gT ⟨fun _ _ => rfl, fun _ _ _ => rfl, fun a z => d_u_n z, rfl⟩ (by decide), ?_, ?_, ?_, ?_, C2, u2, by rw [← hl3]; exact hC, fun ν _ => g3 ν⟩⟩
    · show s3'.1 43 2 = _
      rw [g4.1 2 (by decide), e2 2 (by decide) (by decide)]
    · show s3'.1 43 3 = _
      rw [g4.1 3 (by decide), e2 3 (by decide) (by decide)]
    · exact u17
    · have ez : (d_sp s3' 43 k (some h3.length)).2.1 43 = d_u (s3'.2.1 43) k (some h3.length) := by
        show d_u s3'.2.1 43 (d_u (s3'.2.1 43) k (some h3.length)) 43 = _
        exact d_u_t
      rw [ez, hk, hl3, g4.2.2, f2.2.2]
  have h43 : ∀ X, X = w → True := fun _ _ => trivial
  clear h43
  refine dw_asn (a := h3.length) rfl rfl (dw_iln (x := (w : Int)) rfl rfl ?_)
  by_cases w0 : w = 0
  · subst w0
    refine dw_zne_y rfl (u := 44) rfl (d_rl rfl) rfl (dw_aln (a := 43) rfl rfl (dw_aln (a := h3.length) rfl rfl ?_))
    exact y_po (k := 11) (e := some h3.length) rfl rfl rfl rfl hH4 d_c43_11 (fun h5 hH5 => dw_go rfl (u := 62) rfl (dw_ic rfl (y_ret rfl rfl (Or.inr rfl) (fin h5 11 rfl hH5))))
  · refine dw_zne_n rfl (u := 44) rfl ⟨by omega, by omega⟩ (by omega) (dw_iln (x := (w : Int)) rfl rfl (dw_ic rfl ?_))
    by_cases w1 : w = 1
    · subst w1
      refine dw_ne_y rfl (u := 57) rfl (d_rl rfl) (d_rl rfl) rfl (dw_aln (a := 43) rfl rfl (dw_aln (a := h3.length) rfl rfl ?_))
      exact y_po (k := 12) (e := some h3.length) rfl rfl rfl rfl hH4 d_c43_12 (fun h5 hH5 => dw_go rfl (u := 62) rfl (dw_ic rfl (y_ret rfl rfl (Or.inr rfl) (fin h5 12 rfl hH5))))
    · refine dw_ne_n rfl (u := 57) rfl ⟨by omega, by omega⟩ (d_rl rfl) (by omega) (dw_aln (a := 43) rfl rfl (dw_aln (a := h3.length) rfl rfl ?_))
      exact y_po (k := 13) (e := some h3.length) rfl rfl rfl rfl hH4 d_c43_13 (fun h5 hH5 => dw_ic rfl (y_ret rfl rfl (Or.inr rfl) (fin h5 13 (by omega) hH5)))
end Y20
def k_row (b : Nat → Nat) (n : Nat) (R : Nat → Int) (c : Nat) (e : Nat × Nat) : Prop := e.1 ≤ 9 ∧ R (7 * c) = (e.1 : Int) ∧ ∀ i v : Nat, (t_cn b n e)[i]? = some v → R (7 * c + 1 + i) = (v : Int)
def k_laws (t : Nat → Option p_C) (s : d_S) (b : Nat → Nat) (n : Nat) (L : List (Nat × Nat)) : Prop := ∀ k, k < 3 → ((∀ e, e ∈ L → e.1 ≠ k) → s.2.1 43 (11 + k) = none) ∧ ∀ e, e ∈ L → e.1 = k → ∃ a C len, s.2.1 43 (11 + k) = some a ∧ m_C t a C len ∧ ∀ ν, t_bn ν → c_Sg ν C 0 len (t_V b n (Nat.beq k 1) ν 4000 2 0 0 e.2 0) 19
def k_g (s s' : d_S) : Prop := (∀ a, a ≠ 43 → a ≠ 45 → a ≠ 46 → s'.1 a = s.1 a) ∧ (∀ a, a ≠ 43 → s'.2.1 a = s.2.1 a) ∧ s'.2.2 = s.2.2
def k_I (s0 : d_S) (b : Nat → Nat) (n p o : Nat) (L : List (Nat × Nat)) (t : Nat → Option p_C) (s : d_S) : Prop := k_T b n p s ∧ (s.1 43 9 = (L.length : Int) ∧ s.1 43 17 = 0 ∧ s.1 43 2 = 0 ∧ s.1 43 3 = -1) ∧ (∀ c e, L[c]? = some e → k_row b n (s.1 45) c e) ∧ k_laws t s b n L ∧ t_LO L o ∧ L.length ≤ 24 ∧ k_g s0 s
def t_po (o : Nat) : Nat := o % 2 + o / 2 % 2 + o / 4 % 2
theorem t_po_3 (o : Nat) : t_po o ≤ 3 := by unfold t_po; omega
theorem t_po_law : ∀ o, o < 8 → ∀ w, w < 3 → ¬ o / 2 ^ w % 2 = 1 → t_po (o + 2 ^ w) = t_po o + 1 := by decide
section X21
variable {s0 s s1 s' : d_S} {t t' : Nat → Option p_C} {h : p_H} {b : Nat → Nat} {n p w o m : Nat} {L : List (Nat × Nat)}
theorem k_g.rf : k_g s s := ⟨fun _ _ _ _ => rfl, fun _ _ => rfl, rfl⟩
theorem k_g.tr (h : k_g s s1) (h' : k_g s1 s') : k_g s s' := ⟨fun a x y z => (h'.1 a x y z).trans (h.1 a x y z), fun a z => (h'.2.1 a z).trans (h.2.1 a z), h'.2.2.trans h.2.2⟩
theorem k_q.g {L : List Nat} (h : k_q L s s') : k_g s s' := ⟨fun a x _ z => h.2.1 a x z, h.2.2.1, h.2.2.2⟩
theorem k_j.g {L : List Nat} (h : k_j L s s') : k_g s s' := ⟨fun a x y _ => h.2.1 a x y, fun a _ => by rw [h.2.2], by rw [h.2.2]⟩
theorem k_f.g {L : List Nat} (h : k_f L s s') : k_g s s' := h.j.g
theorem m_C.le {a len : Nat} {C : Nat → Nat × Nat} (h : m_C t a C len) (ht : v_tle t t') : m_C t' a C len := by
  obtain ⟨h1, h2, vs, h3, h4⟩ := h
  exact ⟨h1, h2, vs, ht _ _ h3, h4⟩
theorem k_laws.le (h : k_laws t s b n L) (ht : v_tle t t') (he : s'.2.1 43 = s.2.1 43) : k_laws t' s' b n L := by
  intro k hk
  obtain ⟨h1, h2⟩ := h k hk
  rw [he]
  refine ⟨h1, fun e he1 he2 => ?_⟩
  obtain ⟨a, C, len, g1, g2, g3⟩ := h2 e he1 he2
  exact ⟨a, C, len, g1, g2.le ht, g3⟩
theorem k_row.keep {R R' : Nat → Int} {c : Nat} {e : Nat × Nat} (h : k_row b n R c e) (h1 : ∀ j, 7 * c ≤ j → j < 7 * c + 7 → R' j = R j) : k_row b n R' c e := by
  obtain ⟨a0, a1, a2⟩ := h
  have hl := t_cn_len (b := b) (n := n) a0
  have h6 := v_np_6 e.1 (by omega)
  refine ⟨a0, by rw [h1 _ (by omega) (by omega)]; exact a1, fun i v hv => ?_⟩
  have : i < (t_cn b n e).length := by
    by_cases q : i < (t_cn b n e).length
    · exact q
    · rw [List.getElem?_eq_none (by omega)] at hv; cases hv
  rw [h1 _ (by omega) (by omega)]
  exact a2 i v hv
theorem H_cw (hT : k_T b n p s) (hp : p ≤ n) (k1 : t_k b n p = 1) : (s.1 43 7 = -1 ∨ ∃ k : Nat, k < 22 ∧ s.1 43 7 = (k : Int)) ∧ (∀ k : Nat, k ≤ 9 → s.1 43 7 = (k : Int) → t_cw b n p = k) ∧ ((∀ k : Nat, k ≤ 9 → s.1 43 7 ≠ (k : Int)) → t_cw b n p = 10) := by
  have e6 : s.1 43 6 = 1 := by rw [hT.2.1.2.2, k1]; rfl
  obtain ⟨x, hx⟩ : ∃ x, x = s.1 43 7 := ⟨_, rfl⟩
  have H : ∀ j : Nat, j < 22 → (t_wd b n p j = true ↔ x = (j : Int)) := fun j hj => by
    rw [← k_wd hT hp hj, hx]
    exact ⟨fun z => z.2, fun z => ⟨e6, z⟩⟩
  rw [← hx]
  refine ⟨?_, ?_, ?_⟩
  · rcases hT.2.2.1 k1 with ⟨k, a1, a2, a3⟩ | ⟨a2, a3⟩
    · exact Or.inr ⟨k, a1, by rw [hx]; exact a3⟩
    · exact Or.inl (by rw [hx]; exact a3)
  · intro k hk hxk
    have H' : ∀ j : Nat, j < 22 → (t_wd b n p j = true ↔ k = j) := fun j hj => by rw [H j hj, hxk]; omega
    unfold t_cw
    simp only [H' 0 (by decide), H' 1 (by decide), H' 2 (by decide), H' 3 (by decide), H' 4 (by decide), H' 5 (by decide), H' 6 (by decide), H' 8 (by decide), H' 9 (by decide), H' 7 (by decide)]
    repeat' split
    all_goals omega
  · intro hno
    have no : ∀ j : Nat, j ≤ 9 → ¬ t_wd b n p j = true := fun j hj e => hno j hj ((H j (by omega)).1 e)
    unfold t_cw
    rw [if_neg (no 0 (by decide)), if_neg (no 1 (by decide)), if_neg (no 2 (by decide)), if_neg (no 3 (by decide)), if_neg (no 4 (by decide)), if_neg (no 5 (by decide)), if_neg (no 6 (by decide)), if_neg (no 8 (by decide)), if_neg (no 9 (by decide)), if_neg (no 7 (by decide))]
def H_Q (s0 : d_S) (b : Nat → Nat) (n p o : Nat) (L : List (Nat × Nat)) (t : Nat → Option p_C) (h : p_H) (r : Nat × Nat) (v : Option Value) (h2 : p_H) : Prop := ∃ t2 s2 g, v = some (.int (Int32.ofInt (v_b (r.1 = 0)))) ∧ d_V t2 h2 s2 ∧ v_tle t t2 ∧ k_g s0 s2 ∧ s2.1 43 1 = (n : Int) ∧ h2.length ≤ h.length + g ∧ p_sl h2 ≤ p_sl h + 600 * g ∧ t_po o + g ≤ 3 ∧ (r.1 ≠ 0 → s2.1 43 2 = (r.1 : Int) ∧ s2.1 43 3 = (r.2 : Int)) ∧ (r.1 = 0 → L.length < 24 ∧ t_po (if t_cw b n p < 3 then o + 2 ^ t_cw b n p else o) = t_po o + g ∧ k_I s0 b n r.2 (if t_cw b n p < 3 then o + 2 ^ t_cw b n p else o) (L ++ [(t_cw b n p, t_x b n p)]) t2 s2)
theorem H_wrong {r : Nat × Nat} {f : Nat} (hH : d_V t h s) (hT : k_T b n p s) (hg : k_g s0 s) (hr : r = (f, p)) (hf : f ≠ 0) {v : Int} {s2 : d_S} {h2 : p_H} (hH2 : d_V t h2 s2) (hF : F_X3_wrong s (f : Int) = some (v, s2)) : v = 0 ∧ H_Q s0 b n p o L t h r (some (.int (Int32.ofInt v))) h2 := by
  obtain ⟨s', a1, a2, a3, a4⟩ := P_wrong (s := s) (p := p) (f := (f : Int)) hT.2.1.2.1
  rw [hF] at a1
  have := Option.some.inj a1
  injection this with z1 z2
  subst z1
  subst z2
  have h1 := y_len hH hH2
  have h2 := y_sl hH hH2
  refine ⟨rfl, t, _, 0, by rw [hr, v_bf hf], hH2, fun _ _ q => q, hg.tr a4.g, by rw [a4.1 1 (by decide)]; exact hT.1.1, by omega, by omega, t_po_3 o, fun _ => by rw [hr]; exact ⟨a2, a3⟩, fun q => absurd (by rw [hr] at q; exact q) hf⟩
end X21

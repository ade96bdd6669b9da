section V44
variable {s : d_S} {t : Nat → Option p_C} {n : Nat} {B : Nat → Int}
theorem v_bd.rb (h : v_bd s n B) : v_rb s n B := ⟨h.2.1, h.2.2.1, fun j hj => ⟨(h.2.2.2 j hj).2.1, (h.2.2.2 j hj).2.2⟩⟩
theorem v_best (hB : ∀ j, j < n → 0 ≤ B j ∧ B j ≤ 999) {p : Nat} (hp : p < n) {b : Int} (h1 : ∃ x y : Int, v_vl B n p (B p) x y ∧ b = y ∧ 0 ≤ x ∧ x < 1000) (h2 : ∀ x y : Int, 0 ≤ x → x < 1000 → v_vl B n p (B p) x y → y ≤ b) : b = max (B p - v_hb B p n) 0 := by
  have hM0 := v_hb_0 (B := B) (w := p) n
  have hbp := hB p hp
  have dec : ∀ x, v_wn (v_bp B p x) n p ∨ ¬ v_wn (v_bp B p x) n p := fun x => Classical.em _
  obtain ⟨x, y, e1, e2, -, -⟩ := h1
  have hle : b ≤ max (B p - v_hb B p n) 0 := by
    rcases e1 with ⟨-, e⟩ | ⟨-, e⟩ <;> omega
  by_cases q : 0 < B p - v_hb B p n
  · have hw : v_wn (v_bp B p 999) n p := by
      unfold v_wn v_bp
      refine ⟨hp, fun j hj => ?_, fun j hj => ?_⟩
      · rw [if_pos rfl]
        by_cases z : j = p
        · rw [if_pos z]; omega
        · rw [if_neg z]; exact (hB j hj).2
      · rw [if_pos rfl, if_neg (by omega)]
        have := v_hb_up (B := B) (w := p) n j (by omega) (by omega)
        omega
    have := h2 999 _ (by decide) (by decide) (Or.inl ⟨hw, rfl⟩)
    omega
  · rcases dec 0 with hw | hw
    · have hz : v_hb B p n = 0 := by
        rcases v_hb_at (B := B) (w := p) n with h | ⟨j, g1, g2, g3⟩
        · exact h
        · have := hw.2.1 j g1
          unfold v_bp at this
          rw [if_neg g2, if_pos rfl] at this
          have := (hB j g1).1
          omega
      have := h2 0 _ (by decide) (by decide) (Or.inl ⟨hw, rfl⟩)
      omega
    · have := h2 0 0 (by decide) (by decide) (Or.inr ⟨hw, rfl⟩)
      omega
theorem R_lies (h : v_R t s) {x : Int} : v_AA t (d_b (F_X11_lies s x) (fun v => some (v, s))) (fun s1 => F_X12_lies s1 x) := by
  obtain ⟨n, B, hb⟩ := h.bids
  have hrb := hb.rb
  obtain ⟨h1, h2, h8, h3⟩ := id hb
  have n10 : ¬ (1 : Int) = 0 := by decide
  by_cases c : 0 ≤ x ∧ x ≤ (n : Int) - 1
  rotate_left
  · refine v_AA.same h (-2) ?_ ?_
    · unfold F_X11_lies; rw [h1, d_w_id (by omega) (by omega), P_within, d_b_t, v_bf c, if_pos rfl, d_b_t]
    · show F_X12_lies s x = _; unfold F_X12_lies; rw [h2, d_w_id (by omega) (by omega), P_isIn, d_b_t, v_bf c, if_pos rfl]
  obtain ⟨p, rfl⟩ : ∃ p : Nat, x = p := ⟨x.toNat, by omega⟩
  have hp : p < n := by omega
  have hB : ∀ j, j < n → 0 ≤ B j ∧ B j ≤ 999 := fun j hj => (h3 j hj).2.2
  have hbp := hB p hp
  have hM0 := v_hb_0 (B := B) (w := p) n
  have hM9 : v_hb B p n ≤ 999 := by
    rcases v_hb_at (B := B) (w := p) n with h | ⟨j, h1, h2, h3⟩
    · omega
    · rw [h3]; exact (hB j h1).2
  obtain ⟨r, hr, hwC, hwR⟩ := P_win hb (by omega)
  obtain ⟨r2, w1, w2⟩ := P_wnR hrb (by omega)
  have er : r2 = r := by
    have := Option.some.inj (w2.symm.trans hwR); omega
  subst er
  have hhb : F_X11_highestBut s (p : Int) = some (v_hb B p n) := v_hbC hb n 0 d_N (by omega) (by rw [d_N_is]; omega)
  have ep : d_w (331 + (p : Int)) = ((331 + p : Nat) : Int) := by rw [d_w_id (by omega) (by omega)]; omega
  have lie : ∀ x3 : Int, ∃ s', F_X12_lies_l58 (fun x1_u10 x2_u10 x3_u10 x4_u10 s_u10 => d_g (0 ≤ (d_w (331 + x1_u10)) ∧ (d_w (331 + x1_u10)) < 2517) (d_l (d_si s_u10 65 (((d_w (331 + x1_u10))).toNat) x2_u10) (fun s12 => some ((d_w (x4_u10 - x3_u10)), s12)))) d_N (p : Int) (B p) x3 (-100000) 0 s = some (d_w (max (B p - v_hb B p n) 0 - x3), s') ∧ v_R t s' := fun x3 => by
    obtain ⟨b', s', c1, c2, c3, c4, c5, c6⟩ := v_liel (K := fun x1_u10 x2_u10 x3_u10 x4_u10 s_u10 => d_g (0 ≤ (d_w (331 + x1_u10)) ∧ (d_w (331 + x1_u10)) < 2517) (d_l (d_si s_u10 65 (((d_w (331 + x1_u10))).toNat) x2_u10) (fun s12 => some ((d_w (x4_u10 - x3_u10)), s12)))) (x3 := x3) hp hbp hB h8 (A := s.1 65) h2 (fun j hj => (h3 j hj).2.1) 1000 0 d_N rfl (by rw [d_N_is]; decide) s (-100000) (fun i hi => rfl) (Or.inl ⟨rfl, rfl⟩)
    have hbest := v_best hB hp c5 c6
    have e65 : (d_si s' 65 (331 + p) (B p)).1 65 = s.1 65 := by
      rw [d_si_i]
      funext i
      by_cases q : i = 331 + p
      · rw [q, d_u_t]; exact (h3 p hp).2.1.symm
      · rw [d_u_n q]; exact c2 i q
    have eo : ∀ a, (d_si s' 65 (331 + p) (B p)).1 a = s.1 a := fun a => by
      by_cases q : a = 65
      · rw [q]; exact e65
      · rw [d_si_n q]; exact c3 a q
    refine ⟨d_si s' 65 (331 + p) (B p), ?_, h.e (funext eo) (by show s'.2.1 = s.2.1; rw [c4])⟩
    refine (show F_X12_lies_l58 _ d_N (p : Int) (B p) x3 (-100000) 0 s = _ from c1).trans ?_
    show d_g (0 ≤ d_w (331 + (p : Int)) ∧ d_w (331 + (p : Int)) < 2517) _ = _
    rw [ep, d_g_t (by omega), Int.toNat_natCast, d_l_t, hbest]
  by_cases q : r2 = p
  · subst q
    obtain ⟨s', g1, g2⟩ := lie (B r2 - v_hb B r2 n)
    refine ⟨d_w (max (B r2 - v_hb B r2 n) 0 - (B r2 - v_hb B r2 n)), s, s', ?_, ?_, g2⟩
    · unfold F_X11_lies
      rw [h1, d_w_id (x := (n : Int) - 1) (by omega) (by omega), P_within, d_b_t, v_bt c, if_neg n10, P_part14 hb hp, d_b_t, hhb, d_b_t, hwC, d_b_t, if_pos rfl, d_w_id (x := B r2 - v_hb B r2 n) (by omega) (by omega), P_max, d_b_t, d_b_t]
    · show F_X12_lies s (r2 : Int) = _
      unfold F_X12_lies
      rw [h2, d_w_id (x := (n : Int) - 1) (by omega) (by omega), P_isIn, d_b_t, v_bt c, if_neg n10, ep, d_g_t (by omega), Int.toNat_natCast, (h3 r2 hp).2.1, d_l_t, hwR, d_b_t, if_pos rfl, P_paidR hrb hwR, d_b_t, d_w_id (x := B r2 - v_hb B r2 n) (by omega) (by omega)]
      exact g1
  · obtain ⟨s', g1, g2⟩ := lie 0
    refine ⟨d_w (max (B p - v_hb B p n) 0 - 0), s, s', ?_, ?_, g2⟩
    · unfold F_X11_lies
      rw [h1, d_w_id (x := (n : Int) - 1) (by omega) (by omega), P_within, d_b_t, v_bt c, if_neg n10, P_part14 hb hp, d_b_t, hhb, d_b_t, hwC, d_b_t, if_neg (by omega), d_w_id (x := B p - v_hb B p n) (by omega) (by omega), P_max, d_b_t, d_b_t]
    · show F_X12_lies s (p : Int) = _
      unfold F_X12_lies
      rw [h2, d_w_id (x := (n : Int) - 1) (by omega) (by omega), P_isIn, d_b_t, v_bt c, if_neg n10, ep, d_g_t (by omega), Int.toNat_natCast, (h3 p hp).2.1, d_l_t, hwR, d_b_t, if_neg (by omega)]
      exact g1
end V44

def v_fr (L : List Nat) (s s' : d_S) : Prop := (∀ a, a ∉ L → s'.1 a = s.1 a) ∧ s'.2 = s.2
theorem v_fr.trans {L : List Nat} {a b c : d_S} (h1 : v_fr L a b) (h2 : v_fr L b c) : v_fr L a c := ⟨fun x hx => (h2.1 x hx).trans (h1.1 x hx), h2.2.trans h1.2⟩
theorem v_fr.rfl {L : List Nat} {a : d_S} : v_fr L a a := ⟨fun _ _ => Eq.refl _, Eq.refl _⟩
theorem v_fr.mono {L M : List Nat} {a b : d_S} (h : v_fr L a b) (hm : ∀ x, x ∈ L → x ∈ M) : v_fr M a b := ⟨fun x hx => h.1 x (fun z => hx (hm x z)), h.2⟩
theorem v_fr.si {L : List Nat} {s : d_S} {a k : Nat} {v : Int} (h : a ∈ L) : v_fr L s (d_si s a k v) := ⟨fun x hx => d_si_n (fun z => hx (z ▸ h)), Eq.refl _⟩
theorem v_fr.st {L : List Nat} {s : d_S} {a : Nat} {f : Nat → Int} (h : a ∈ L) : v_fr L s (d_st s a f) := ⟨fun x hx => d_st_n (fun z => hx (z ▸ h)), Eq.refl _⟩
def v_en (u W k : Nat) : Bool := Nat.beq k (W - 1) || Nat.beq (u / 2 ^ k % 2) 1

def v_cb (W u k : Nat) : Bool := !(decide (u < 2 ^ (W - 1)) && decide (k < W)) || ((!v_en u W k || (decide (v_bg u (v_pc u k) ≤ k) && decide (k + 1 - v_bg u (v_pc u k) = v_ln u (v_pc u k) W))) && ((!v_en u W k || !decide (k + 1 < W)) || (decide (v_pc u (k + 1) = v_pc u k + 1) && decide (v_bg u (v_pc u (k + 1)) = k + 1))) && (v_en u W k || (decide (k + 1 < W) && decide (v_pc u (k + 1) = v_pc u k))) && (!decide (k + 1 = W) || decide (v_pc u k + 1 = v_ac u)) && decide (v_pc u k < v_ac u))
theorem v_cols_ : ∀ W : Nat, W < 9 → ∀ u : Nat, u < 128 → ∀ k : Nat, k < 8 → v_cb W u k = true := by decide +kernel
theorem v_cols {W u k : Nat} (hW : W < 9) (hu : u < 128) (h : u < 2 ^ (W - 1)) (hk : k < W) : (v_en u W k = true → v_bg u (v_pc u k) ≤ k ∧ k + 1 - v_bg u (v_pc u k) = v_ln u (v_pc u k) W) ∧ (v_en u W k = true → k + 1 < W → v_pc u (k + 1) = v_pc u k + 1 ∧ v_bg u (v_pc u (k + 1)) = k + 1) ∧ (v_en u W k = false → k + 1 < W ∧ v_pc u (k + 1) = v_pc u k) ∧ (k + 1 = W → v_pc u k + 1 = v_ac u) ∧ v_pc u k < v_ac u := by
  have := v_cols_ W hW u hu k (by omega)
  unfold v_cb at this
  simp only [decide_eq_true h, decide_eq_true hk, Bool.and_self, Bool.not_true, Bool.false_or, Bool.and_eq_true, Bool.or_eq_true, Bool.not_eq_true', decide_eq_true_eq, decide_eq_false_iff_not] at this
  obtain ⟨⟨⟨⟨h1, h2⟩, h3⟩, h4⟩, h5⟩ := this
  refine ⟨fun e => ?_, fun e q => ?_, fun e => ?_, fun q => ?_, h5⟩
  · rcases h1 with z | z
    · rw [e] at z; cases z
    · exact z
  · rcases h2 with (z | z) | z
    · rw [e] at z; cases z
    · omega
    · exact z
  · rcases h3 with z | z
    · rw [e] at z; cases z
    · exact z
  · rcases h4 with z | z
    · omega
    · exact z
section V3
variable {s : d_S} {u v W H : Nat}
theorem P_lay42 {K : Int → Int → Int → Int → d_S → Option d_S} {top high left col c : Nat} (hc : s.1 37 5 = c) (h64 : c < 64) (hW : s.1 3 0 = W) (hH : s.1 3 1 = H) (ht : top < 100) (hh : high < 100) (hl : left ≤ col) (hcol : col < 100) : F_X4_layAcross_3_j42 K top high left col s = K top high (col + 1 : Nat) (col + 1 : Nat) (d_si (d_si (d_si (d_si (d_si (d_si s 38 c left) 39 c top) 40 c (col + 1 - left : Nat)) 41 c high) 42 c ((v_n (left = 0) + v_n (top = 0) + v_n (col + 1 = W) + v_n (top + high = H) : Nat) : Int)) 37 5 (c + 1 : Nat)) := by
  have e1 : d_w ((col : Int) + 1) = ((col + 1 : Nat) : Int) := by rw [d_w_id (by omega) (by omega)]; rfl
  have e2 : d_w ((top : Int) + (high : Int)) = ((top + high : Nat) : Int) := by rw [d_w_id (by omega) (by omega)]; rfl
  have e3 : d_w (((col : Int) + 1) - (left : Int)) = ((col + 1 - left : Nat) : Int) := by rw [d_w_id (by omega) (by omega)]; omega
  have e4 : d_w ((c : Int) + 1) = ((c + 1 : Nat) : Int) := by rw [d_w_id (by omega) (by omega)]; rfl
  have ec : ((c : Int)).toNat = c := Int.toNat_natCast c
  have b1 : v_b (¬ (1 : Int) = 0) = 1 := v_bt (by decide)
  have b0 : v_b (¬ (0 : Int) = 0) = 0 := v_bf (by decide)
  unfold F_X4_layAcross_3_j42
  simp (disch := decide) only [d_si_n, hc, d_l_t, P_bit, d_b_t, b1, b0]
  rw [if_pos (by omega)]
  simp only [d_g_t (show 0 ≤ (c : Int) ∧ (c : Int) < 64 by omega), ec, e3]
  unfold F_X4_layAcross_3_j140_1 F_X4_layAcross_3_j140_0 F_X4_layAcross_3_j160_1 F_X4_layAcross_3_j160_0 F_X4_layAcross_3_j179_1 F_X4_layAcross_3_j179_0
  simp (disch := decide) only [d_si_n, hc, hW, hH, d_l_t, P_bit, d_b_t, b1, b0, e1, e2, e4]
  simp only [d_g_t (show 0 ≤ (c : Int) ∧ (c : Int) < 64 by omega), ec]
  by_cases q1 : left = 0 <;> by_cases q2 : top = 0 <;> by_cases q3 : col + 1 = W <;> by_cases q4 : top + high = H
  all_goals first
    | rw [v_nt q1, if_pos (show (left : Int) = 0 by omega)] | rw [v_nf q1, if_neg (show ¬ (left : Int) = 0 by omega)]
  all_goals first
    | rw [v_nt q2, if_pos (show (top : Int) = 0 by omega)] | rw [v_nf q2, if_neg (show ¬ (top : Int) = 0 by omega)]
  all_goals first
    | rw [v_nt q3, if_pos (show ((col + 1 : Nat) : Int) = (W : Int) by omega)] | rw [v_nf q3, if_neg (show ¬ ((col + 1 : Nat) : Int) = (W : Int) by omega)]
  all_goals first
    | rw [v_nt q4, if_pos (show ((top + high : Nat) : Int) = (H : Int) by omega)] | rw [v_nf q4, if_neg (show ¬ ((top + high : Nat) : Int) = (H : Int) by omega)]
  all_goals rfl
end V3

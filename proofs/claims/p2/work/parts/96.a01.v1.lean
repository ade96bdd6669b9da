def v_ac (u : Nat) : Nat := v_pc u 12 + 1
def v_bl (u v : Nat) : Nat := v_ac u * v_ac v
def v_lf (u b : Nat) : Nat := v_bg u (b % v_ac u)
def v_wd (u W b : Nat) : Nat := v_ln u (b % v_ac u) W
def v_up (u v b : Nat) : Nat := v_bg v (b / v_ac u)
def v_hg (u v H b : Nat) : Nat := v_ln v (b / v_ac u) H
def v_n (c : Prop) [Decidable c] : Nat := if c then 1 else 0
def v_ed (u v W H b : Nat) : Nat := v_n (v_lf u b = 0) + v_n (v_up u v b = 0) + v_n (v_lf u b + v_wd u W b = W) + v_n (v_up u v b + v_hg u v H b = H)
def v_G (A : Nat → Int) (u v W H : Nat) : Prop := (A 14 = u ∧ A 15 = v ∧ A 16 = W ∧ A 17 = H) ∧ u < 128 ∧ v < 128 ∧ (1 ≤ W ∧ W ≤ 8) ∧ (1 ≤ H ∧ H ≤ 8) ∧ u < 2 ^ (W - 1) ∧ v < 2 ^ (H - 1)
theorem v_n_le {c : Prop} [Decidable c] : v_n c ≤ 1 := by unfold v_n; split <;> decide
theorem v_nt {c : Prop} [Decidable c] (h : c) : v_n c = 1 := if_pos h
theorem v_nf {c : Prop} [Decidable c] (h : ¬ c) : v_n c = 0 := if_neg h
theorem v_nc {c e : Prop} [Decidable c] [Decidable e] (h : c ↔ e) : v_n c = v_n e := by
  by_cases q : c
  · rw [v_nt q, v_nt (h.mp q)]
  · rw [v_nf q, v_nf (fun z => q (h.mpr z))]
theorem v_pc8 : ∀ W : Nat, W < 9 → ∀ u : Nat, u < 128 → u < 2 ^ (W - 1) → 1 ≤ W → v_pc u 12 < W := by decide +kernel
theorem v_ac_le {u W : Nat} (hu : u < 128) (h1 : 1 ≤ W) (h8 : W ≤ 8) (h : u < 2 ^ (W - 1)) : v_ac u ≤ W := v_pc8 W (by omega) u hu h h1
theorem v_bl_le {u v W H : Nat} (h1 : v_ac u ≤ W) (h2 : v_ac v ≤ H) (hW : W ≤ 8) (hH : H ≤ 8) : v_bl u v ≤ 64 := Nat.mul_le_mul (Nat.le_trans h1 hW) (Nat.le_trans h2 hH)
section V1
variable {s : d_S} {u v W H b : Nat} {A : Nat → Int}
theorem v_G.ac (hG : v_G A u v W H) : v_ac u ≤ 8 ∧ v_ac v ≤ 8 ∧ v_bl u v ≤ 64 ∧ 1 ≤ v_bl u v := by
  obtain ⟨-, hu, hv, ⟨w1, w2⟩, ⟨h1, h2⟩, k1, k2⟩ := hG
  have a1 := v_ac_le hu w1 w2 k1
  have a2 := v_ac_le hv h1 h2 k2
  exact ⟨by omega, by omega, v_bl_le a1 a2 w2 h2, Nat.mul_pos (Nat.succ_pos _) (Nat.succ_pos _)⟩
theorem P_across (hG : v_G (s.1 65) u v W H) : F_X12_across s = some ((v_ac u : Nat) : Int) := by
  have ha := hG.ac
  obtain ⟨⟨e14, -⟩, hu, -⟩ := hG
  unfold F_X12_across
  have hc := v_pc_le (n := u) 12
  rw [e14, P_bits (by omega), d_b_t, d_w_id (by omega) (by omega)]
  rfl
theorem P_blocks (hG : v_G (s.1 65) u v W H) : F_X12_blocks s = some ((v_bl u v : Nat) : Int) := by
  have ha := hG.ac
  have h1 := P_across hG
  obtain ⟨⟨e14, e15, -⟩, hu, hv, -⟩ := hG
  unfold F_X12_blocks
  rw [h1, d_b_t, e15, P_bits (by omega), d_b_t]
  have hm : ((v_ac u : Nat) : Int) * (((v_pc v 12 : Nat) : Int) + 1) = ((v_bl u v : Nat) : Int) := by unfold v_bl; push_cast; rfl
  rw [hm, d_w_id (by omega) (by omega)]
theorem P_isBlock (hG : v_G (s.1 65) u v W H) {x : Int} : F_X12_isBlock s x = some (v_b (0 ≤ x ∧ x < ((v_bl u v : Nat) : Int))) := by
  have ha := hG.ac
  unfold F_X12_isBlock
  rw [P_blocks hG, d_b_t, d_w_id (by omega) (by omega), P_isIn, d_b_t]
  exact congrArg some (v_bc (by omega))
theorem v_rc (hG : v_G A u v W H) (hb : b < v_bl u v) : b % v_ac u ≤ v_pc u 12 ∧ b / v_ac u ≤ v_pc v 12 := by
  have h1 := Nat.mod_lt b (show 0 < v_ac u from Nat.succ_pos _)
  have h2 : b / v_ac u < v_ac v := Nat.div_lt_of_lt_mul hb
  unfold v_ac at h1 h2 ⊢
  omega
theorem P_leftOf (hG : v_G (s.1 65) u v W H) (hb : b < v_bl u v) : F_X12_leftOf s b = some ((v_lf u b : Nat) : Int) := by
  have ha := hG.ac
  have hr := v_rc hG hb
  have h0 : v_ac u ≠ 0 := Nat.succ_ne_zero _
  unfold F_X12_leftOf
  rw [P_across hG, d_b_t, d_g_t (by omega), v_rem (by omega) (by omega), hG.1.1, P_beginOf hG.2.1 hr.1, d_b_t]
  rfl
theorem P_upperOf (hG : v_G (s.1 65) u v W H) (hb : b < v_bl u v) : F_X12_upperOf s b = some ((v_up u v b : Nat) : Int) := by
  have ha := hG.ac
  have hr := v_rc hG hb
  have h0 : v_ac u ≠ 0 := Nat.succ_ne_zero _
  unfold F_X12_upperOf
  rw [P_across hG, d_b_t, d_g_t (by omega), v_div (by omega) (by omega), hG.1.2.1, P_beginOf hG.2.2.1 hr.2, d_b_t]
  rfl
theorem P_wideOf (hG : v_G (s.1 65) u v W H) (hb : b < v_bl u v) : F_X12_wideOf s b = some ((v_wd u W b : Nat) : Int) := by
  have ha := hG.ac
  have h0 : v_ac u ≠ 0 := Nat.succ_ne_zero _
  unfold F_X12_wideOf
  rw [P_across hG, d_b_t, d_g_t (by omega), v_rem (by omega) (by omega), hG.1.1, hG.1.2.2.1, P_lengthOf hG.2.1 hG.2.2.2.1.2, d_b_t]
  rfl
theorem P_highOf (hG : v_G (s.1 65) u v W H) (hb : b < v_bl u v) : F_X12_highOf s b = some ((v_hg u v H b : Nat) : Int) := by
  have ha := hG.ac
  have h0 : v_ac u ≠ 0 := Nat.succ_ne_zero _
  unfold F_X12_highOf
  rw [P_across hG, d_b_t, d_g_t (by omega), v_div (by omega) (by omega), hG.1.2.1, hG.1.2.2.2, P_lengthOf hG.2.2.1 hG.2.2.2.2.1.2, d_b_t]
  rfl
theorem v_ds {x y : Int} (h : x = y) : some x = some y := congrArg some h
theorem P_edgeOf (hG : v_G (s.1 65) u v W H) (hb : b < v_bl u v) : F_X12_edgeOf s b = some ((v_ed u v W H b : Nat) : Int) := by
  have k1 : v_lf u b ≤ 7 := v_bg_le
  have k2 : v_up u v b ≤ 7 := v_bg_le
  have k3 : v_wd u W b ≤ W := v_ln_le W
  have k4 : v_hg u v H b ≤ H := v_ln_le H
  have hG' := hG
  obtain ⟨-, -, -, w, h, -⟩ := hG'
  simp (disch := omega) only [F_X12_edgeOf, F_X12_edgeOf_j57_1, F_X12_edgeOf_j57_0, P_leftOf hG hb, P_upperOf hG hb, P_wideOf hG hb, P_highOf hG hb, d_b_t, hG.1.2.2.1, hG.1.2.2.2, d_w_id]
  unfold v_ed
  by_cases q1 : v_lf u b = 0 <;> by_cases q2 : v_up u v b = 0 <;> by_cases q3 : v_lf u b + v_wd u W b = W <;> by_cases q4 : v_up u v b + v_hg u v H b = H <;> first
    | rw [v_nt q1] | rw [v_nf q1]
  all_goals first
    | rw [v_nt q2] | rw [v_nf q2]
  all_goals first
    | rw [v_nt q3] | rw [v_nf q3]
  all_goals first
    | rw [v_nt q4] | rw [v_nf q4]
  all_goals
    (first | rw [if_pos (by omega)] | rw [if_neg (by omega)])
    (first | rw [if_pos (by omega)] | rw [if_neg (by omega)])
    (first | rw [if_pos (by omega)] | rw [if_neg (by omega)])
    (first | rw [if_pos (by omega)] | rw [if_neg (by omega)])
  all_goals rfl
end V1

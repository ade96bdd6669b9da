def v_P (s : d_S) (u v W H n : Nat) : Prop := ∀ j, j < n → s.1 38 j = ((v_lf u j : Nat) : Int) ∧ s.1 39 j = ((v_up u v j : Nat) : Int) ∧ s.1 40 j = ((v_wd u W j : Nat) : Int) ∧ s.1 41 j = ((v_hg u v H j : Nat) : Int) ∧ s.1 42 j = ((v_ed u v W H j : Nat) : Int)
def v_C (s : d_S) (u v W H : Nat) : Prop := (s.1 6 0 = u ∧ s.1 6 1 = v ∧ s.1 3 0 = W ∧ s.1 3 1 = H) ∧ u < 128 ∧ v < 128 ∧ (1 ≤ W ∧ W ≤ 8) ∧ (1 ≤ H ∧ H ≤ 8) ∧ u < 2 ^ (W - 1) ∧ v < 2 ^ (H - 1)
def v_L6 : List Nat := [37, 38, 39, 40, 41, 42]
theorem v_beq {a b : Nat} (h : a = b) : Nat.beq a b = true := by subst h; exact Nat.beq_refl a
section V4
variable {s : d_S} {u v W H : Nat}
theorem v_idx {a R p : Nat} (hp : p < a) : (a * R + p) % a = p ∧ (a * R + p) / a = R := by
  have ha : 0 < a := by omega
  refine ⟨?_, ?_⟩
  · rw [Nat.mul_add_mod]; exact Nat.mod_eq_of_lt hp
  · rw [Nat.mul_add_div ha, Nat.div_eq_of_lt hp, Nat.add_zero]
theorem v_P_step {c R p : Nat} (hP : v_P s u v W H c) (hc : c = v_ac u * R + p) (hp : p < v_ac u) {E : Int} {k : Int} (hE : E = ((v_ed u v W H c : Nat) : Int)) : v_P (d_si (d_si (d_si (d_si (d_si (d_si s 38 c (v_bg u p : Nat)) 39 c (v_bg v R : Nat)) 40 c (v_ln u p W : Nat)) 41 c (v_ln v R H : Nat)) 42 c E) 37 5 k) u v W H (c + 1) := by
  intro j hj
  obtain ⟨i1, i2⟩ := v_idx (R := R) hp
  rw [← hc] at i1 i2
  by_cases q : j = c
  · subst q
    refine ⟨?_, ?_, ?_, ?_, ?_⟩
    · simp (disch := decide) only [d_si_n, d_si_i, d_u_t]
      unfold v_lf; rw [i1]
    · simp (disch := decide) only [d_si_n, d_si_i, d_u_t]
      unfold v_up; rw [i2]
    · simp (disch := decide) only [d_si_n, d_si_i, d_u_t]
      unfold v_wd; rw [i1]
    · simp (disch := decide) only [d_si_n, d_si_i, d_u_t]
      unfold v_hg; rw [i2]
    · simp (disch := decide) only [d_si_n, d_si_i, d_u_t]
      exact hE
  · obtain ⟨h1, h2, h3, h4, h5⟩ := hP j (by omega)
    refine ⟨?_, ?_, ?_, ?_, ?_⟩
    · simp (disch := decide) only [d_si_n, d_si_i]
      rw [d_u_n q]; exact h1
    · simp (disch := decide) only [d_si_n, d_si_i]
      rw [d_u_n q]; exact h2
    · simp (disch := decide) only [d_si_n, d_si_i]
      rw [d_u_n q]; exact h3
    · simp (disch := decide) only [d_si_n, d_si_i]
      rw [d_u_n q]; exact h4
    · simp (disch := decide) only [d_si_n, d_si_i]
      rw [d_u_n q]; exact h5
theorem v_enb {W k : Nat} (hu : u < 128) (hk : k < W) (hW : W ≤ 8) : v_en u W k = true ↔ ((k : Int) = d_w ((W : Int) - 1) ∨ d_and (d_shr (u : Int) (k : Int)) 1 = 1) := by
  rw [v_bit (by omega) (by omega), d_w_id (by omega) (by omega)]
  unfold v_en
  rw [Bool.or_eq_true]
  constructor
  · rintro (z | z)
    · left; have := Nat.eq_of_beq_eq_true z; omega
    · right; have := Nat.eq_of_beq_eq_true z; omega
  · rintro (z | z)
    · left; exact v_beq (by omega)
    · right; exact v_beq (by omega)
def v_eb (u W k : Nat) : Nat := if k < W then v_pc u k else v_ac u
theorem v_across (hu : u < 128) (hu2 : u < 2 ^ (W - 1)) (hW : 1 ≤ W ∧ W ≤ 8) (hH : H ≤ 8) {R : Nat} (hR : v_ac u * R + v_ac u ≤ 64) (h7 : v_ln v R H ≤ 8) : ∀ j k m : Nat, k + j = W → j < m → ∀ s : d_S, s.1 6 0 = u → s.1 3 0 = W → s.1 3 1 = H → s.1 37 5 = ((v_ac u * R + v_eb u W k : Nat) : Int) → v_P s u v W H (v_ac u * R + v_eb u W k) → ∃ s', F_X4_layAcross_3_l6 m (v_bg v R : Nat) (v_ln v R H : Nat) (v_bg u (v_pc u k) : Nat) (k : Nat) s = some s' ∧ v_fr v_L6 s s' ∧ s'.1 37 5 = ((v_ac u * R + v_ac u : Nat) : Int) ∧ v_P s' u v W H (v_ac u * R + v_ac u) := by
  intro j
  induction j with
  | zero =>
    intro k m hk hm s e1 e2 e3 e4 e5
    obtain ⟨m, rfl⟩ : ∃ q, m = q + 1 := ⟨m - 1, by omega⟩
    have hk : k = W := by omega
    subst hk
    have q : v_eb u k k = v_ac u := if_neg (by omega)
    rw [q] at e4 e5
    refine ⟨s, ?_, v_fr.rfl, e4, e5⟩
    show F_X4_layAcross_3_l6_b (F_X4_layAcross_3_l6 m) _ _ _ _ s = _
    unfold F_X4_layAcross_3_l6_b
    rw [e2, if_neg (by omega)]
  | succ j ih =>
    intro k m hk hm s e1 e2 e3 e4 e5
    obtain ⟨m, rfl⟩ : ∃ q, m = q + 1 := ⟨m - 1, by omega⟩
    have hkW : k < W := by omega
    obtain ⟨c1, c2, c3, c4, c5⟩ := v_cols (show W < 9 by omega) hu hu2 hkW
    have hen := v_enb hu hkW hW.2
    have q : v_eb u W k = v_pc u k := if_pos hkW
    rw [q] at e4 e5
    have hb7 : v_bg v R ≤ 7 := v_bg_le
    show ∃ s', F_X4_layAcross_3_l6_b (F_X4_layAcross_3_l6 m) _ _ _ _ s = _ ∧ _
    unfold F_X4_layAcross_3_l6_b
    rw [e2, e1, if_pos (show (k : Int) < (W : Int) by omega)]
    by_cases hE : v_en u W k = true
    · obtain ⟨d1, d2⟩ := c1 hE
      have hlay := P_lay42 (K := F_X4_layAcross_3_l6 m) (top := v_bg v R) (high := v_ln v R H) e4 (by omega) e2 e3 (by omega) (by omega) d1 (show k < 100 by omega)
      have hgo : (if (k : Int) = d_w ((W : Int) - 1) then F_X4_layAcross_3_j42 (F_X4_layAcross_3_l6 m) (v_bg v R : Nat) (v_ln v R H : Nat) (v_bg u (v_pc u k) : Nat) (k : Nat) s else if d_and (d_shr (u : Int) (k : Int)) 1 = 1 then F_X4_layAcross_3_j42 (F_X4_layAcross_3_l6 m) (v_bg v R : Nat) (v_ln v R H : Nat) (v_bg u (v_pc u k) : Nat) (k : Nat) s else F_X4_layAcross_3_l6 m (v_bg v R : Nat) (v_ln v R H : Nat) (v_bg u (v_pc u k) : Nat) (d_w ((k : Int) + 1)) s) = F_X4_layAcross_3_j42 (F_X4_layAcross_3_l6 m) (v_bg v R : Nat) (v_ln v R H : Nat) (v_bg u (v_pc u k) : Nat) (k : Nat) s := by
        by_cases z : (k : Int) = d_w ((W : Int) - 1)
        · rw [if_pos z]
        · rw [if_neg z, if_pos ((hen.mp hE).resolve_left z)]
      rw [hgo, hlay, d2]
      have hed : ((v_n (v_bg u (v_pc u k) = 0) + v_n (v_bg v R = 0) + v_n (k + 1 = W) + v_n (v_bg v R + v_ln v R H = H) : Nat) : Int) = ((v_ed u v W H (v_ac u * R + v_pc u k) : Nat) : Int) := by
        obtain ⟨i1, i2⟩ := v_idx (R := R) c5
        unfold v_ed v_lf v_wd v_up v_hg
        rw [i1, i2]
        have : v_n (k + 1 = W) = v_n (v_bg u (v_pc u k) + v_ln u (v_pc u k) W = W) := v_nc (by omega)
        rw [this]
      have hP := v_P_step (k := ((v_ac u * R + v_pc u k + 1 : Nat) : Int)) e5 rfl c5 hed
      have hfr : v_fr v_L6 s (d_si (d_si (d_si (d_si (d_si (d_si s 38 (v_ac u * R + v_pc u k) (v_bg u (v_pc u k) : Nat)) 39 (v_ac u * R + v_pc u k) (v_bg v R : Nat)) 40 (v_ac u * R + v_pc u k) (v_ln u (v_pc u k) W : Nat)) 41 (v_ac u * R + v_pc u k) (v_ln v R H : Nat)) 42 (v_ac u * R + v_pc u k) ((v_n (v_bg u (v_pc u k) = 0) + v_n (v_bg v R = 0) + v_n (k + 1 = W) + v_n (v_bg v R + v_ln v R H = H) : Nat) : Int)) 37 5 ((v_ac u * R + v_pc u k + 1 : Nat) : Int)) :=
        ((((((v_fr.si (by decide)).trans (v_fr.si (by decide))).trans (v_fr.si (by decide))).trans (v_fr.si (by decide))).trans (v_fr.si (by decide))).trans (v_fr.si (by decide)))
      obtain ⟨s2, hs2⟩ : ∃ z, z = d_si (d_si (d_si (d_si (d_si (d_si s 38 (v_ac u * R + v_pc u k) (v_bg u (v_pc u k) : Nat)) 39 (v_ac u * R + v_pc u k) (v_bg v R : Nat)) 40 (v_ac u * R + v_pc u k) (v_ln u (v_pc u k) W : Nat)) 41 (v_ac u * R + v_pc u k) (v_ln v R H : Nat)) 42 (v_ac u * R + v_pc u k) ((v_n (v_bg u (v_pc u k) = 0) + v_n (v_bg v R = 0) + v_n (k + 1 = W) + v_n (v_bg v R + v_ln v R H = H) : Nat) : Int)) 37 5 ((v_ac u * R + v_pc u k + 1 : Nat) : Int) := ⟨_, rfl⟩
      have hcnt : s2.1 37 5 = ((v_ac u * R + v_pc u k + 1 : Nat) : Int) := by rw [hs2, d_si_i, d_u_t]
      rw [← hs2] at hP hfr ⊢
      by_cases hlast : k + 1 = W
      · have h4 := c4 hlast
        obtain ⟨m, rfl⟩ : ∃ q, m = q + 1 := ⟨m - 1, by omega⟩
        refine ⟨s2, ?_, hfr, by rw [hcnt]; omega, by rw [show v_ac u * R + v_ac u = v_ac u * R + v_pc u k + 1 by omega]; exact hP⟩
        show F_X4_layAcross_3_l6_b (F_X4_layAcross_3_l6 m) _ _ _ _ s2 = _
        unfold F_X4_layAcross_3_l6_b
        rw [hfr.1 3 (by decide), e2, if_neg (by omega)]
      · obtain ⟨f1, f2⟩ := c2 hE (by omega)
        have q2 : v_eb u W (k + 1) = v_pc u k + 1 := by unfold v_eb; rw [if_pos (by omega), f1]
        obtain ⟨s', g1, g2, g3, g4⟩ := ih (k + 1) m (by omega) (by omega) s2 (by rw [hfr.1 6 (by decide)]; exact e1) (by rw [hfr.1 3 (by decide)]; exact e2) (by rw [hfr.1 3 (by decide)]; exact e3) (by rw [q2]; exact hcnt) (by rw [q2]; exact hP)
        rw [f2] at g1
        exact ⟨s', g1, hfr.trans g2, g3, g4⟩
    · have hE0 : v_en u W k = false := by cases z : v_en u W k with
        | true => exact absurd z hE
        | false => rfl
      obtain ⟨f1, f2⟩ := c3 hE0
      have z1 : ¬ (k : Int) = d_w ((W : Int) - 1) := fun z => hE (hen.mpr (Or.inl z))
      have z2 : ¬ d_and (d_shr (u : Int) (k : Int)) 1 = 1 := fun z => hE (hen.mpr (Or.inr z))
      rw [if_neg z1, if_neg z2, d_w_id (by omega) (by omega)]
      have q2 : v_eb u W (k + 1) = v_pc u k := by unfold v_eb; rw [if_pos (by omega), f2]
      have g := ih (k + 1) m (by omega) (by omega) s e1 e2 e3 (by rw [q2]; exact e4) (by rw [q2]; exact e5)
      rw [f2] at g
      exact g
theorem P_layAcross (hC : v_C s u v W H) {R : Nat} (hR : R < v_ac v) (hc : s.1 37 5 = ((v_ac u * R : Nat) : Int)) (hP : v_P s u v W H (v_ac u * R)) : ∃ s', F_X4_layAcross_3 s (v_bg v R : Nat) (v_ln v R H : Nat) = some s' ∧ v_fr v_L6 s s' ∧ s'.1 37 5 = ((v_ac u * (R + 1) : Nat) : Int) ∧ v_P s' u v W H (v_ac u * (R + 1)) := by
  obtain ⟨⟨c1, c2, c3, c4⟩, hu, hv, hW, hH, hu2, hv2⟩ := hC
  have a1 := v_ac_le hu hW.1 hW.2 hu2
  have a2 := v_ac_le hv hH.1 hH.2 hv2
  have hm : v_ac u * (R + 1) ≤ 8 * 8 := Nat.mul_le_mul (by omega) (by omega)
  rw [Nat.mul_succ] at hm ⊢
  have hl := v_ln_le (u := v) (p := R) H
  have e0 : v_eb u W 0 = 0 := if_pos (by omega)
  have h := v_across (v := v) (H := H) hu hu2 hW hH.2 (R := R) hm (by omega) W 0 d_N (Nat.zero_add W) (by rw [d_N_is]; omega) s c1 c3 c4 (by rw [e0]; exact hc) (by rw [e0]; exact hP)
  exact h
theorem v_down (hv : v < 128) (hv2 : v < 2 ^ (H - 1)) (hH : 1 ≤ H ∧ H ≤ 8) : ∀ j k m : Nat, k + j = H → j < m → ∀ s : d_S, v_C s u v W H → s.1 37 5 = ((v_ac u * v_eb v H k : Nat) : Int) → v_P s u v W H (v_ac u * v_eb v H k) → ∃ s', F_X4_lay_3_l9 m (v_bg v (v_pc v k) : Nat) (k : Nat) s = some s' ∧ v_fr v_L6 s s' ∧ s'.1 37 5 = ((v_bl u v : Nat) : Int) ∧ v_P s' u v W H (v_bl u v) := by
  intro j
  induction j with
  | zero =>
    intro k m hk hm s hC e4 e5
    obtain ⟨m, rfl⟩ : ∃ q, m = q + 1 := ⟨m - 1, by omega⟩
    have hk : k = H := by omega
    subst hk
    have q : v_eb v k k = v_ac v := if_neg (by omega)
    rw [q] at e4 e5
    refine ⟨s, ?_, v_fr.rfl, e4, e5⟩
    show F_X4_lay_3_l9_b (F_X4_lay_3_l9 m) _ _ s = _
    unfold F_X4_lay_3_l9_b
    rw [hC.1.2.2.2, if_neg (by omega)]
  | succ j ih =>
    intro k m hk hm s hC e4 e5
    obtain ⟨m, rfl⟩ : ∃ q, m = q + 1 := ⟨m - 1, by omega⟩
    have hkH : k < H := by omega
    obtain ⟨c1, c2, c3, c4, c5⟩ := v_cols (show H < 9 by omega) hv hv2 hkH
    have hen := v_enb hv hkH hH.2
    have q : v_eb v H k = v_pc v k := if_pos hkH
    rw [q] at e4 e5
    show ∃ s', F_X4_lay_3_l9_b (F_X4_lay_3_l9 m) _ _ s = _ ∧ _
    unfold F_X4_lay_3_l9_b
    rw [hC.1.2.2.2, hC.1.2.1, if_pos (show (k : Int) < (H : Int) by omega)]
    by_cases hE : v_en v H k = true
    · obtain ⟨d1, d2⟩ := c1 hE
      obtain ⟨s1, g1, g2, g3, g4⟩ := P_layAcross hC c5 e4 e5
      have hC1 : v_C s1 u v W H := ⟨⟨by rw [g2.1 6 (by decide)]; exact hC.1.1, by rw [g2.1 6 (by decide)]; exact hC.1.2.1, by rw [g2.1 3 (by decide)]; exact hC.1.2.2.1, by rw [g2.1 3 (by decide)]; exact hC.1.2.2.2⟩, hC.2⟩
      have hj : F_X4_lay_3_j42 (F_X4_lay_3_l9 m) (v_bg v (v_pc v k) : Nat) (k : Nat) s = F_X4_lay_3_l9 m ((k + 1 : Nat) : Int) ((k + 1 : Nat) : Int) s1 := by
        unfold F_X4_lay_3_j42
        rw [show d_w (((k : Int) + 1) - ((v_bg v (v_pc v k) : Nat) : Int)) = ((v_ln v (v_pc v k) H : Nat) : Int) by rw [← d2, d_w_id (by omega) (by omega)]; omega, g1, d_b_t, d_w_id (by omega) (by omega)]
        rfl
      have hgo : (if (k : Int) = d_w ((H : Int) - 1) then F_X4_lay_3_j42 (F_X4_lay_3_l9 m) (v_bg v (v_pc v k) : Nat) (k : Nat) s else if d_and (d_shr (v : Int) (k : Int)) 1 = 1 then F_X4_lay_3_j42 (F_X4_lay_3_l9 m) (v_bg v (v_pc v k) : Nat) (k : Nat) s else F_X4_lay_3_l9 m (v_bg v (v_pc v k) : Nat) (d_w ((k : Int) + 1)) s) = F_X4_lay_3_j42 (F_X4_lay_3_l9 m) (v_bg v (v_pc v k) : Nat) (k : Nat) s := by
        by_cases z : (k : Int) = d_w ((H : Int) - 1)
        · rw [if_pos z]
        · rw [if_neg z, if_pos ((hen.mp hE).resolve_left z)]
      rw [hgo, hj]
      by_cases hlast : k + 1 = H
      · have h4 := c4 hlast
        obtain ⟨m, rfl⟩ : ∃ q, m = q + 1 := ⟨m - 1, by omega⟩
        rw [h4] at g3 g4
        refine ⟨s1, ?_, g2, g3, g4⟩
        show F_X4_lay_3_l9_b (F_X4_lay_3_l9 m) _ _ s1 = _
        unfold F_X4_lay_3_l9_b
        rw [hC1.1.2.2.2, if_neg (by omega)]
      · obtain ⟨f1, f2⟩ := c2 hE (by omega)
        have q2 : v_eb v H (k + 1) = v_pc v k + 1 := by unfold v_eb; rw [if_pos (by omega), f1]
        obtain ⟨s', r1, r2, r3, r4⟩ := ih (k + 1) m (by omega) (by omega) s1 hC1 (by rw [q2]; exact g3) (by rw [q2]; exact g4)
        rw [f2] at r1
        exact ⟨s', r1, g2.trans r2, r3, r4⟩
    · have hE0 : v_en v H k = false := by cases z : v_en v H k with
        | true => exact absurd z hE
        | false => rfl
      obtain ⟨f1, f2⟩ := c3 hE0
      have z1 : ¬ (k : Int) = d_w ((H : Int) - 1) := fun z => hE (hen.mpr (Or.inl z))
      have z2 : ¬ d_and (d_shr (v : Int) (k : Int)) 1 = 1 := fun z => hE (hen.mpr (Or.inr z))
      rw [if_neg z1, if_neg z2, d_w_id (by omega) (by omega)]
      have q2 : v_eb v H (k + 1) = v_pc v k := by unfold v_eb; rw [if_pos (by omega), f2]
      have g := ih (k + 1) m (by omega) (by omega) s hC (by rw [q2]; exact e4) (by rw [q2]; exact e5)
      rw [f2] at g
      exact g
theorem P_lay (hC : v_C s u v W H) : ∃ s', F_X4_lay_3 s = some s' ∧ v_fr v_L6 s s' ∧ s'.1 37 5 = ((v_bl u v : Nat) : Int) ∧ v_P s' u v W H (v_bl u v) := by
  have e0 : v_eb v H 0 = 0 := if_pos (by have := hC.2.2.2.2.1; omega)
  have hC1 : v_C (d_si s 37 5 0) u v W H := hC
  obtain ⟨s', h1, h2, h3, h4⟩ := v_down (u := u) (W := W) hC.2.2.1 hC.2.2.2.2.2.2 hC.2.2.2.2.1 H 0 d_N (Nat.zero_add H) (by rw [d_N_is]; have := hC.2.2.2.2.1; omega) (d_si s 37 5 0) hC1 (by rw [d_si_i, d_u_t, e0]; rfl) (by rw [e0]; intro j hj; exact absurd hj (Nat.not_lt_zero j))
  refine ⟨s', ?_, (v_fr.si (by decide)).trans h2, h3, h4⟩
  unfold F_X4_lay_3
  exact h1
end V4

section V22
variable {s s' z z' : d_S} {t : Nat → Option p_C} {x : Int} {st me so : Nat → Nat} {b : Nat}
theorem v_R.mark (h : v_R t (d_mx s z)) (c : ∀ a, a < 64 → a ≠ 6 → a ≠ 7 → a ≠ 47 → a ≠ 49 → a ≠ 50 → s'.1 a = s.1 a) (cp : ∀ a, a ≠ 47 → s'.2.1 a = s.2.1 a) (r : ∀ a, 64 ≤ a → a ≠ 65 → a ≠ 71 → z'.1 a = z.1 a) (rA : ∀ j, (j < 9 ∨ 14 ≤ j ∧ j ≤ 19 ∨ 212 ≤ j) → z'.1 65 j = z.1 65 j) (hM : v_M s' st me so) (hB : v_B (z'.1 65) st me so) (h6 : ∀ i, i < 7 → s'.1 6 i = z'.1 65 (9 + v_mu i)) (h9 : 0 ≤ z'.1 65 9 ∧ z'.1 65 9 ≤ 999) (h10 : 0 ≤ z'.1 65 10 ∧ z'.1 65 10 ≤ 9) (h12 : 0 ≤ z'.1 65 12 ∧ z'.1 65 12 ≤ 99) (h13 : 0 ≤ z'.1 65 13 ∧ z'.1 65 13 < 30293) (hN1 : v_Nm (s'.1 49)) (hN2 : v_Nm (z'.1 71)) : v_R t (d_mx s' z') := by
  have h' := h
  obtain ⟨hW, hI, -, -, -, hQ, -, hN, -⟩ := h'
  have hI : v_I (z.1 65) := hI
  have u14 : v_u (z'.1 65) = v_u (z.1 65) := by unfold v_u; rw [rA 14 (by omega)]
  have v15 : v_v (z'.1 65) = v_v (z.1 65) := by unfold v_v; rw [rA 15 (by omega)]
  have w16 : v_wi (z'.1 65) = v_wi (z.1 65) := by unfold v_wi; rw [rA 16 (by omega)]
  have w17 : v_hi (z'.1 65) = v_hi (z.1 65) := by unfold v_hi; rw [rA 17 (by omega)]
  refine h.yard (fun a ha => ?_) (fun a ha => cp a ha) (fun j hj => rA j (by omega)) ⟨fun i hi => h6 i hi, fun b hb => ?_⟩ ?_ ?_ ?_ ?_ ⟨hN1, hN2⟩
  · by_cases q : a < 64
    · rw [d_mx_lo q, d_mx_lo q, c a q (by unfold v_cl at ha; omega) (by unfold v_cl at ha; omega) (by unfold v_cl at ha; omega) (by unfold v_cl at ha; omega) (by unfold v_cl at ha; omega)]
    · rw [d_mx_hi (by omega), d_mx_hi (by omega), r a (by omega) (by unfold v_cl at ha; omega) (by unfold v_cl at ha; omega)]
  · show s'.1 7 b = z'.1 65 (20 + 3 * b) + 16 * z'.1 65 (21 + 3 * b) + 2048 * z'.1 65 (22 + 3 * b)
    obtain ⟨⟨b1, b2, b3⟩, -⟩ := hB b hb
    rw [(hM b hb).1, b1, b2, b3]; omega
  · exact v_Ws.fr (f' := (d_mx s' z').1) hW.2.2.1 (c 8 (by decide) (by decide) (by decide) (by decide) (by decide) (by decide)) (c 9 (by decide) (by decide) (by decide) (by decide) (by decide) (by decide)) (rA 3 (by omega)) (rA 16 (by omega)) (rA 17 (by omega)) (fun j h1 h2 => rA j (by omega))
  · intro b hb
    obtain ⟨⟨b1, b2, b3⟩, b4, b5, b6⟩ := hB b hb
    show (0 ≤ z'.1 65 (20 + 3 * b) ∧ z'.1 65 (20 + 3 * b) ≤ 9) ∧ (0 ≤ z'.1 65 (21 + 3 * b) ∧ z'.1 65 (21 + 3 * b) ≤ 100) ∧ (0 ≤ z'.1 65 (22 + 3 * b) ∧ z'.1 65 (22 + 3 * b) ≤ 1)
    rw [b1, b2, b3]; omega
  · obtain ⟨b0, b1, b3, b4, u, v, b5, b6, b7⟩ := hI.2.2.2
    refine ⟨h9, h10, h12, h13, u, v, ?_, ?_, b7⟩
    · show z'.1 65 14 = _; rw [rA 14 (by omega)]; exact b5
    · show z'.1 65 15 = _; rw [rA 15 (by omega)]; exact b6
  · show v_Q (d_mx s' z') (v_u (z'.1 65)) (v_v (z'.1 65)) (v_wi (z'.1 65)) (v_hi (z'.1 65))
    rw [u14, v15, w16, w17]
    exact v_Q.fr hQ (fun a h1 h2 => by rw [d_mx_lo (by omega), d_mx_lo (by omega), c a (by omega) (by omega) (by omega) (by omega) (by omega) (by omega)])
abbrev v_cl1 (A : Nat → Int) (x : Int) (b : Int) : Prop := (0 ≤ b ∧ b < ((v_bl (v_u A) (v_v A) : Nat) : Int)) ∧ v_so A b.toNat = 0 ∧ (0 ≤ ((v_st A b.toNat : Nat) : Int) + x ∧ ((v_st A b.toNat : Nat) : Int) + x ≤ 9) ∧ (0 ≤ A 12 - x ∧ A 12 - x ≤ 99)
theorem v_A12 (hI : v_I (z.1 65)) : 0 ≤ z.1 65 12 ∧ z.1 65 12 ≤ 99 := hI.2.2.2.2.2.1
theorem P_canLayR (h : v_R t (d_mx s z)) {b : Int} (hx : -9 ≤ x ∧ x ≤ 9) : F_X12_canLay z x b = some (v_b (v_cl1 (z.1 65) x b)) := by
  obtain ⟨hW, hI, -, -, -, hQ, -, hN, -⟩ := h
  have hI : v_I (z.1 65) := hI
  have hG := hI.G
  have hB := hI.B
  have h12 := v_A12 hI
  unfold F_X12_canLay
  rw [P_isBlock hG, d_b_t]
  by_cases c1 : 0 ≤ b ∧ b < ((v_bl (v_u (z.1 65)) (v_v (z.1 65)) : Nat) : Int)
  rotate_left
  · rw [v_bf c1, if_pos rfl, v_bf (fun e => c1 e.1)]
  obtain ⟨k, rfl⟩ : ∃ k : Nat, b = k := ⟨b.toNat, by omega⟩
  have hk : k < 64 := by have := hG.ac.2.2.1; omega
  obtain ⟨-, g1, g2, g3⟩ := hB k hk
  rw [v_bt c1, if_neg (by decide), P_isSold hB hk, d_b_t]
  by_cases c2 : v_so (z.1 65) k = 0
  rotate_left
  · rw [if_neg (by omega), v_bf (fun e => c2 e.2.1)]
  rw [if_pos (by omega), P_get0 hB hk, d_b_t, d_w_id (by omega) (by omega), P_isIn, d_b_t]
  by_cases c3 : 0 ≤ ((v_st (z.1 65) k : Nat) : Int) + x ∧ ((v_st (z.1 65) k : Nat) : Int) + x ≤ 9
  rotate_left
  · rw [v_bf c3, if_pos rfl, v_bf (fun e => c3 e.2.2.1)]
  rw [v_bt c3, if_neg (by decide), d_w_id (by omega) (by omega), P_isIn, d_b_t]
  by_cases c4 : 0 ≤ z.1 65 12 - x ∧ z.1 65 12 - x ≤ 99
  · rw [v_bt c4, if_neg (by decide), v_bt ⟨c1, c2, c3, c4⟩]
  · rw [v_bf c4, if_pos rfl, v_bf (fun e => c4 e.2.2.2)]
theorem P_canLayC (h : v_R t (d_mx s z)) {b : Int} : F_X11_canLay s x b = some (v_b ((-9 ≤ x ∧ x ≤ 9) ∧ ¬ x = 0 ∧ v_cl1 (z.1 65) x b)) := by
  obtain ⟨hW, hI, -, -, -, hQ, -, hN, -⟩ := h
  have hI : v_I (z.1 65) := hI
  have hG := hI.G
  have hB := hI.B
  have h12 := v_A12 hI
  have hQ : v_Q s (v_u (z.1 65)) (v_v (z.1 65)) (v_wi (z.1 65)) (v_hi (z.1 65)) := hQ.fr (fun a h1 h2 => (d_mx_lo (by omega)).symm)
  have hM : v_M s (v_st (z.1 65)) (v_me (z.1 65)) (v_so (z.1 65)) := hW.M (s := d_mx s z) hI
  have e12 : s.1 6 2 = z.1 65 12 := hW.2.1.1 2 (by decide)
  unfold F_X11_canLay
  rw [P_isBlockC hQ, d_b_t]
  by_cases c1 : 0 ≤ b ∧ b < ((v_bl (v_u (z.1 65)) (v_v (z.1 65)) : Nat) : Int)
  rotate_left
  · rw [v_bf c1, if_pos rfl, v_bf (fun e => c1 e.2.2.1)]
  obtain ⟨k, rfl⟩ : ∃ k : Nat, b = k := ⟨b.toNat, by omega⟩
  have hk : k < 64 := by have := hG.ac.2.2.1; omega
  obtain ⟨-, g1, g2, g3⟩ := hB k hk
  rw [v_bt c1, if_neg (by decide), P_within, d_b_t]
  by_cases cx : -9 ≤ x ∧ x ≤ 9
  rotate_left
  · rw [v_bf cx, if_pos rfl, v_bf (fun e => cx e.1)]
  rw [v_bt cx, if_neg (by decide)]
  by_cases c0 : x = 0
  · rw [if_pos c0, v_bf (fun e => e.2.1 c0)]
  rw [if_neg c0, P_isSoldC hM hk, d_b_t]
  by_cases c2 : v_so (z.1 65) k = 0
  rotate_left
  · rw [if_neg (by omega), v_bf (fun e => c2 e.2.2.2.1)]
  rw [if_pos (by omega), P_strawOn hM hk, d_b_t, d_w_id (by omega) (by omega), P_within, d_b_t]
  by_cases c3 : 0 ≤ ((v_st (z.1 65) k : Nat) : Int) + x ∧ ((v_st (z.1 65) k : Nat) : Int) + x ≤ 9
  rotate_left
  · rw [v_bf c3, if_pos rfl, v_bf (fun e => c3 e.2.2.2.2.1)]
  rw [v_bt c3, if_neg (by decide), e12, d_w_id (by omega) (by omega), P_within, d_b_t]
  by_cases c4 : 0 ≤ z.1 65 12 - x ∧ z.1 65 12 - x ≤ 99
  · rw [v_bt c4, if_neg (by decide), v_bt ⟨cx, c0, c1, c2, c3, c4⟩]
  · rw [v_bf c4, if_pos rfl, v_bf (fun e => c4 e.2.2.2.2.2)]
theorem v_lay (h : v_R t (d_mx s z)) {b : Int} (hx : -9 ≤ x ∧ x ≤ 9) (hc : v_cl1 (z.1 65) x b) : ∃ s' z', F_X11_layStraw s x b = some s' ∧ F_X12_layNow z x b = some z' ∧ F_X10_strawOn_6 s' b = F_X12_get z' b 0 ∧ (∃ n, F_X12_get z' b 0 = some n ∧ 0 ≤ n ∧ n ≤ 9) ∧ v_R t (d_mx s' z') ∧ v_fC s s' ∧ v_fR z z' := by
  have h' := h
  obtain ⟨hW, hI, -, -, -, hQ, -, hN, -⟩ := h'
  have hI : v_I (z.1 65) := hI
  have hG := hI.G
  have hB := hI.B
  have h12 := v_A12 hI
  have hM : v_M s (v_st (z.1 65)) (v_me (z.1 65)) (v_so (z.1 65)) := hW.M (s := d_mx s z) hI
  have e12 : s.1 6 2 = z.1 65 12 := hW.2.1.1 2 (by decide)
  obtain ⟨c1, c2, c3, c4⟩ := hc
  obtain ⟨k, rfl⟩ : ∃ k : Nat, b = k := ⟨b.toNat, by omega⟩
  have hk : k < 64 := by have := hG.ac.2.2.1; omega
  have c2 : v_so (z.1 65) k = 0 := c2
  have c3 : 0 ≤ ((v_st (z.1 65) k : Nat) : Int) + x ∧ ((v_st (z.1 65) k : Nat) : Int) + x ≤ 9 := c3
  obtain ⟨⟨f1, f2, f3⟩, g1, g2, g3⟩ := hB k hk
  obtain ⟨y, hy, hy9⟩ : ∃ y : Nat, ((v_st (z.1 65) k : Nat) : Int) + x = y ∧ y ≤ 9 := ⟨(((v_st (z.1 65) k : Nat) : Int) + x).toNat, by omega, by omega⟩
  obtain ⟨s1, hs1⟩ : ∃ q, q = d_si s 6 2 (z.1 65 12 - x) := ⟨_, rfl⟩
  have hM1 : v_M s1 (v_st (z.1 65)) (v_me (z.1 65)) (v_so (z.1 65)) := hM.fr (by rw [hs1, d_si_n (by decide)])
  obtain ⟨s2, hs2⟩ : ∃ q, q = d_si s1 7 k ((y + 16 * v_me (z.1 65) k + 2048 * 0 : Nat) : Int) := ⟨_, rfl⟩
  have hM2 := hM1.put (b := k) hy9 g2 (show 0 ≤ 1 by decide)
  rw [← hs2] at hM2
  obtain ⟨z1, hz1⟩ : ∃ q, q = d_si z 65 (20 + 3 * k) (y : Int) := ⟨_, rfl⟩
  have hB1 := hB.set0 (b := k) (x := y) hy9
  rw [← hz1] at hB1
  obtain ⟨z2, hz2⟩ : ∃ q, q = d_si z1 65 12 (z.1 65 12 - x) := ⟨_, rfl⟩
  have zA : ∀ j, j ≠ 12 → j ≠ 20 + 3 * k → z2.1 65 j = z.1 65 j := fun j h1 h2 => by rw [hz2, d_si_i, d_u_n h1, hz1, d_si_i, d_u_n h2]
  have z12 : z2.1 65 12 = z.1 65 12 - x := by rw [hz2, d_si_i, d_u_t]
  have zo : ∀ a, a ≠ 65 → z2.1 a = z.1 a := fun a ha => by rw [hz2, d_si_n ha, hz1, d_si_n ha]
  have so' : ∀ a, a ≠ 6 → a ≠ 7 → s2.1 a = s.1 a := fun a h1 h2 => by rw [hs2, d_si_n h2, hs1, d_si_n h1]
  have hso : v_up1 (v_so (z.1 65)) k 0 = v_so (z.1 65) := by
    funext j
    unfold v_up1
    by_cases q : j = k
    · rw [if_pos q, q, c2]
    · rw [if_neg q]
  have hme : v_up1 (v_me (z.1 65)) k (v_me (z.1 65) k) = v_me (z.1 65) := by
    funext j
    unfold v_up1
    by_cases q : j = k
    · rw [if_pos q, q]
    · rw [if_neg q]
  rw [hso, hme] at hM2
  have hB2 : v_B (z2.1 65) (v_up1 (v_st (z.1 65)) k y) (v_me (z.1 65)) (v_so (z.1 65)) := by
    intro j hj
    have e : ∀ i, i ≠ 12 → z2.1 65 i = z1.1 65 i := fun i h1 => by rw [hz2, d_si_i, d_u_n h1]
    rw [e _ (by omega), e _ (by omega), e _ (by omega)]
    exact hB1 j hj
  have hup : v_up1 (v_st (z.1 65)) k y k = y := if_pos rfl
  refine ⟨s2, z2, ?_, ?_, ?_, ?_, ?_, fun a ha => so' a (by omega) (by omega), ⟨fun a ha => zo a (by omega), ?_⟩⟩
  · unfold F_X11_layStraw
    rw [e12, d_w_id (by omega) (by omega), d_l_t, ← hs1, P_strawOn hM1 hk, d_b_t, P_meltedOf hM1 hk, d_b_t, d_w_id (by omega) (by omega), hy]
    show d_b (F_X10_put_6 s1 (k : Int) (y : Int) ((v_me (z.1 65) k : Nat) : Int) ((0 : Nat) : Int)) _ = _
    rw [P_put hk hy9 g2 (by decide), d_b_t, ← hs2]
  · unfold F_X12_layNow
    rw [P_get0 hB hk, d_b_t, d_w_id (by omega) (by omega), hy, P_set0 hk, d_b_t, ← hz1, show z1.1 65 12 = z.1 65 12 by rw [hz1, d_si_i, d_u_n (by omega)], d_w_id (by omega) (by omega), d_l_t, ← hz2]
  · rw [P_strawOn hM2 hk, P_get0 hB2 hk]
  · exact ⟨_, P_get0 hB2 hk, by omega, by rw [hup]; omega⟩
  · refine h.mark (fun a _ h6 h7 _ _ _ => so' a h6 h7) (fun a _ => by rw [hs2, hs1]; rfl) (fun a _ h65 _ => zo a h65) (fun j hj => zA j (by omega) (by omega)) hM2 hB2 (fun i hi => ?_) ?_ ?_ (by rw [z12]; exact c4) ?_ ?_ ?_
    · have hh := hW.2.1.1 i hi
      have hh : s.1 6 i = z.1 65 (9 + v_mu i) := hh
      rw [show s2.1 6 i = d_u (s.1 6) 2 (z.1 65 12 - x) i by rw [hs2, d_si_n (by decide), hs1, d_si_i]]
      by_cases q : i = 2
      · subst q
        show d_u (s.1 6) 2 (z.1 65 12 - x) 2 = z2.1 65 12
        rw [d_u_t, z12]
      · have h2 : i = 0 ∨ i = 1 ∨ i = 3 ∨ i = 4 ∨ i = 5 ∨ i = 6 := by omega
        have : 9 + v_mu i ≠ 12 ∧ 9 + v_mu i < 20 := by rcases h2 with rfl | rfl | rfl | rfl | rfl | rfl <;> decide
        rw [d_u_n q, hh, zA _ this.1 (by omega)]
    · rw [zA 9 (by decide) (by omega)]; exact hI.2.2.2.1
    · rw [zA 10 (by decide) (by omega)]; exact hI.2.2.2.2.1
    · rw [zA 13 (by decide) (by omega)]; exact hI.2.2.2.2.2.2.1
    · rw [so' 49 (by decide) (by decide)]; exact hN.1
    · rw [zo 71 (by decide)]; exact hN.2
  · rw [hz2, hz1]; rfl
theorem v_fC.of (h : ∀ a, a ≠ 8 → a ≠ 9 → s'.1 a = s.1 a) (h2 : s'.2 = s.2) : v_fC s s' := fun a ha => h a (by omega) (by omega)
theorem v_fR.of (h : ∀ a, a ≠ 65 → s'.1 a = s.1 a) (h2 : s'.2 = s.2) : v_fR s s' := ⟨fun a ha => h a (by omega), by rw [h2]⟩
theorem v_cl1.k (h : v_cl1 (z.1 65) x (b : Int)) (hA : ∀ j, j ≠ 3 → j < 387 → z'.1 65 j = z.1 65 j) (hb : b < 64) : v_cl1 (z'.1 65) x (b : Int) := by
  obtain ⟨h1, h2, h3, h4⟩ := h
  have u14 : v_u (z'.1 65) = v_u (z.1 65) := by unfold v_u; rw [hA 14 (by omega) (by omega)]
  have v15 : v_v (z'.1 65) = v_v (z.1 65) := by unfold v_v; rw [hA 15 (by omega) (by omega)]
  refine ⟨by rw [u14, v15]; exact h1, ?_, ?_, by rw [hA 12 (by omega) (by omega)]; exact h4⟩
  · show v_so (z'.1 65) b = 0
    unfold v_so; rw [hA _ (by omega) (by omega)]; exact h2
  · show 0 ≤ ((v_st (z'.1 65) b : Nat) : Int) + x ∧ ((v_st (z'.1 65) b : Nat) : Int) + x ≤ 9
    unfold v_st; rw [hA _ (by omega) (by omega)]; exact h3
theorem v_straw (h : v_R t (d_mx s z)) {b : Int} : (F_X11_layByHand s x b = some (0, s) ∧ F_X12_straw z x b = some (-1, z)) ∨ ∃ s' z' n, F_X11_layByHand s x b = some (1, s') ∧ F_X12_straw z x b = some (n, z') ∧ 0 ≤ n ∧ F_X10_strawOn_6 s' b = some n ∧ v_R t (d_mx s' z') ∧ v_fC s s' ∧ v_fR z z' := by
  unfold F_X11_layByHand F_X12_straw
  rw [P_canLayC h, d_b_t]
  by_cases c0 : x = 0
  · left; rw [v_bf (fun e => e.2.1 c0), if_pos rfl, if_pos c0]; exact ⟨rfl, rfl⟩
  rw [if_neg c0, P_isIn, d_b_t]
  by_cases cx : -9 ≤ x ∧ x ≤ 9
  rotate_left
  · left; rw [v_bf (fun e => cx e.1), v_bf cx, if_pos rfl, if_pos rfl]; exact ⟨rfl, rfl⟩
  rw [v_bt cx, if_neg (show ¬ (1 : Int) = 0 by decide), P_canLayR h cx, d_b_t]
  by_cases hc : v_cl1 (z.1 65) x b
  rotate_left
  · left; rw [v_bf (fun e => hc e.2.2), v_bf hc, if_pos rfl, if_pos rfl]; exact ⟨rfl, rfl⟩
  right
  rw [v_bt ⟨cx, c0, hc⟩, v_bt hc, if_neg (show ¬ (1 : Int) = 0 by decide), if_neg (show ¬ (1 : Int) = 0 by decide)]
  obtain ⟨s1, z1, k1, k2, k3, k4, k5, k6, k7, hR1⟩ := h.keep
  have hG := (show v_I (z.1 65) from h.2.1).G
  obtain ⟨k, rfl⟩ : ∃ k : Nat, b = k := ⟨b.toNat, by have := hc.1; omega⟩
  have hk : k < 64 := by have := hG.ac.2.2.1; have := hc.1; omega
  obtain ⟨s2, z2, g1, g2, g3, ⟨n, g4, g5, g6⟩, g7, g8, g9⟩ := v_lay hR1 cx (hc.k k7 hk)
  refine ⟨s2, z2, n, ?_, ?_, g5, g3.trans g4, g7, (v_fC.of k3 k4).tr g8, (v_fR.of k5 k6).tr g9⟩
  · rw [k1, d_b_t, g1, d_b_t]
  · rw [k2, d_b_t, g2, d_b_t, g4, d_b_t]
theorem R_straw {x1 x2 : Int} (h : v_R t s) : v_AA t (F_X11_straw s x1 x2) (fun s1 => F_X12_straw s1 x1 x2) := by
  refine v_A2.AA (C := fun s => F_X11_straw s x1 x2) (fun s z h => ?_) h
  show ∃ v s' z', F_X11_straw s x1 x2 = _ ∧ F_X12_straw z x1 x2 = _ ∧ _
  unfold F_X11_straw
  rcases v_straw (x := x1) (b := x2) h with ⟨c1, c2⟩ | ⟨s', z', n, c1, c2, c3, c4, c5, c6⟩
  · exact ⟨-1, s, z, by rw [c1]; rfl, c2, h, v_fC.rf, v_fR.rf⟩
  · refine ⟨n, s', z', ?_, c2, c5, c6⟩
    rw [c1]
    show d_b (F_X10_strawOn_6 s' x2) _ = _
    rw [c4, d_b_t]
end V22

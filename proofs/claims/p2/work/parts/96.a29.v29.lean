section V29
variable {s : d_S} {t : Nat → Option p_C} {u v W H b N : Nat} {st me so : Nat → Nat} {sg : Nat → Nat → Nat}
theorem v_cov1 : ∀ W, W < 9 → ∀ u, u < 128 → ∀ p, p < 8 → (u < 2 ^ (W - 1) ∧ p ≤ v_pc u 12 ∧ 1 ≤ W) → (v_bg u p + v_ln u p W ≤ W ∧ 1 ≤ v_ln u p W) := by decide +kernel
theorem v_cov2_ : ∀ W, W < 9 → ∀ u, u < 128 → ∀ y, y < 64 → (u < 2 ^ (W - 1) ∧ y / 8 ≤ v_pc u 12 ∧ y % 8 < W) → decide (v_bg u (y / 8) ≤ y % 8 ∧ y % 8 < v_bg u (y / 8) + v_ln u (y / 8) W) = decide (v_pc u (y % 8) = y / 8) := by decide +kernel
theorem v_cov2 (W : Nat) (hW : W < 9) (u : Nat) (hu : u < 128) (p : Nat) (hp : p < 8) (x : Nat) (hx : x < 8) (h : u < 2 ^ (W - 1) ∧ p ≤ v_pc u 12 ∧ x < W) : (v_bg u p ≤ x ∧ x < v_bg u p + v_ln u p W) ↔ v_pc u x = p := by
  have := v_cov2_ W hW u hu (8 * p + x) (by omega)
  rw [show (8 * p + x) / 8 = p by omega, show (8 * p + x) % 8 = x by omega] at this
  exact decide_eq_decide.1 (this h)
theorem d_w_mod {x : Int} : d_w x = if x % 4294967296 < 2147483648 then x % 4294967296 else x % 4294967296 - 4294967296 := by
  unfold d_w
  rw [Int32.toInt_ofInt, Int.bmod_def]; rfl
theorem v_pcx : ∀ u, u < 128 → ∀ x, x < 9 → v_pc u x ≤ v_pc u 12 := by decide +kernel
theorem v_in (hG : v_G (s.1 65) u v W H) (hb : b < v_bl u v) {x y : Int} : ((0 ≤ x - ((v_lf u b : Nat) : Int) ∧ x - ((v_lf u b : Nat) : Int) ≤ ((v_wd u W b : Nat) : Int) - 1) ∧ (0 ≤ y - ((v_up u v b : Nat) : Int) ∧ y - ((v_up u v b : Nat) : Int) ≤ ((v_hg u v H b : Nat) : Int) - 1)) ↔ ((0 ≤ x ∧ x < (W : Int)) ∧ (0 ≤ y ∧ y < (H : Int)) ∧ b = v_pc v y.toNat * v_ac u + v_pc u x.toNat) := by
  obtain ⟨e1, e2⟩ := v_rc hG hb
  obtain ⟨-, hu, hv, hW, hH, hu2, hv2⟩ := hG
  have ha : 1 ≤ v_ac u := Nat.le_add_left 1 _
  have hp : b % v_ac u < 8 := by have := v_pc8 W (by omega) u hu hu2 hW.1; omega
  have hq : b / v_ac u < 8 := by have := v_pc8 H (by omega) v hv hv2 hH.1; omega
  have a1 := v_cov1 W (by omega) u hu (b % v_ac u) hp ⟨hu2, e1, hW.1⟩
  have b1 := v_cov1 H (by omega) v hv (b / v_ac u) hq ⟨hv2, e2, hH.1⟩
  have hdm := Nat.div_add_mod b (v_ac u)
  rw [Nat.mul_comm] at hdm
  unfold v_lf v_wd v_up v_hg
  constructor
  · rintro ⟨h1, h2⟩
    have a2 := (v_cov2 W (by omega) u hu (b % v_ac u) hp x.toNat (by omega) ⟨hu2, e1, by omega⟩).1 (by omega)
    have b2 := (v_cov2 H (by omega) v hv (b / v_ac u) hq y.toNat (by omega) ⟨hv2, e2, by omega⟩).1 (by omega)
    refine ⟨by omega, by omega, ?_⟩
    rw [a2, b2]; omega
  · rintro ⟨h1, h2, h3⟩
    have hxu : v_pc u x.toNat < v_ac u := by have := v_pcx u hu x.toNat (by omega); show _ < v_pc u 12 + 1; omega
    have hm : b % v_ac u = v_pc u x.toNat := by rw [h3, Nat.mul_comm, Nat.mul_add_mod, Nat.mod_eq_of_lt hxu]
    have hd : b / v_ac u = v_pc v y.toNat := by rw [h3, Nat.mul_comm, Nat.mul_add_div ha, Nat.div_eq_of_lt hxu]; omega
    have a2 := (v_cov2 W (by omega) u hu (b % v_ac u) hp x.toNat (by omega) ⟨hu2, e1, by omega⟩).2 hm.symm
    have b2 := (v_cov2 H (by omega) v hv (b / v_ac u) hq y.toNat (by omega) ⟨hv2, e2, by omega⟩).2 hd.symm
    omega
theorem v_bofl (hG : v_G (s.1 65) u v W H) (hQ : v_Q s u v W H) {x y : Int} (hx : d_R x) (hy : d_R y) {r : Int} (hr : ((0 ≤ x ∧ x < (W : Int)) ∧ (0 ≤ y ∧ y < (H : Int)) ∧ r = ((v_pc v y.toNat * v_ac u + v_pc u x.toNat : Nat) : Int) ∧ r < ((v_bl u v : Nat) : Int)) ∨ (¬ ((0 ≤ x ∧ x < (W : Int)) ∧ (0 ≤ y ∧ y < (H : Int))) ∧ r = -1)) : ∀ (j k m : Nat), k + j = v_bl u v → j < m → (0 ≤ r → (k : Int) ≤ r) → F_X11_blockOf_l2 s m x y (k : Int) = some r := by
  have hac := hG.ac
  intro j
  induction j with
  | zero =>
    intro k m hk hm hkr
    obtain ⟨m, rfl⟩ : ∃ q, m = q + 1 := ⟨m - 1, by omega⟩
    show F_X11_blockOf_l2_b s (F_X11_blockOf_l2 s m) _ _ _ = _
    unfold F_X11_blockOf_l2_b
    rw [hQ.1, if_neg (by omega)]
    rcases hr with ⟨h1, h2, h3, h4⟩ | ⟨h1, h2⟩
    · exact absurd (hkr (by omega)) (by omega)
    · rw [h2]
  | succ j ih =>
    intro k m hk hm hkr
    obtain ⟨m, rfl⟩ : ∃ q, m = q + 1 := ⟨m - 1, by omega⟩
    have hkb : k < v_bl u v := by omega
    have hin := v_in hG hkb (x := x) (y := y)
    have hstep : ¬ ((k : Int) = r) → F_X11_blockOf_l2 s m x y (d_w ((k : Int) + 1)) = some r := fun q => by
      rw [d_w_id (by omega) (by omega)]
      exact ih (k + 1) m (by omega) (by omega) (fun h => by have := hkr h; omega)
    have l1 : v_lf u k ≤ 7 := v_bg_le
    have l2 : v_up u v k ≤ 7 := v_bg_le
    have l3 : v_wd u W k ≤ W := v_ln_le W
    have l4 : v_hg u v H k ≤ H := v_ln_le H
    have w1 := hQ.2.2.2.1
    have w2 := hQ.2.2.2.2
    show F_X11_blockOf_l2_b s (F_X11_blockOf_l2 s m) _ _ _ = _
    unfold F_X11_blockOf_l2_b
    rw [hQ.1, if_pos (by omega), P_leftOfC hQ hkb, d_b_t, P_topOfC hQ hkb, d_b_t, P_wideOfC hQ hkb, d_b_t, P_within, d_b_t]
    have wx : ∀ n : Nat, n ≤ 7 → ∀ x : Int, d_R x → ∀ c : Int, c ≤ 8 → ((0 ≤ d_w (x - (n : Int)) ∧ d_w (x - (n : Int)) ≤ c) ↔ (0 ≤ x - (n : Int) ∧ x - (n : Int) ≤ c)) := fun n hn x hx c hc => by
      by_cases q : -2147483648 ≤ x - (n : Int)
      · rw [d_w_id q (by have := hx.2; omega)]
      · constructor
        · intro hh
          exfalso
          have h1 := hx.1
          rw [d_w_mod, if_pos (by omega)] at hh
          have := hx.1
          omega
        · intro hh; have := hx.1; omega
    rw [d_w_id (x := ((v_wd u W k : Nat) : Int) - 1) (by omega) (by omega)]
    by_cases c1 : 0 ≤ x - ((v_lf u k : Nat) : Int) ∧ x - ((v_lf u k : Nat) : Int) ≤ ((v_wd u W k : Nat) : Int) - 1
    rotate_left
    · rw [v_bf (fun e => c1 ((wx _ l1 x hx _ (by omega)).1 e)), if_pos rfl]
      refine hstep (fun e => c1 ?_)
      rcases hr with ⟨h1, h2, h3, h4⟩ | ⟨h1, h2⟩
      · exact (hin.2 ⟨h1, h2, by omega⟩).1
      · omega
    rw [v_bt ((wx _ l1 x hx _ (by omega)).2 c1), if_neg (by decide), P_highOfC hQ hkb, d_b_t, P_within, d_b_t, d_w_id (x := ((v_hg u v H k : Nat) : Int) - 1) (by omega) (by omega)]
    by_cases c2 : 0 ≤ y - ((v_up u v k : Nat) : Int) ∧ y - ((v_up u v k : Nat) : Int) ≤ ((v_hg u v H k : Nat) : Int) - 1
    rotate_left
    · rw [v_bf (fun e => c2 ((wx _ l2 y hy _ (by omega)).1 e)), if_pos rfl]
      refine hstep (fun e => c2 ?_)
      rcases hr with ⟨h1, h2, h3, h4⟩ | ⟨h1, h2⟩
      · exact (hin.2 ⟨h1, h2, by omega⟩).2
      · omega
    rw [v_bt ((wx _ l2 y hy _ (by omega)).2 c2), if_neg (by decide)]
    obtain ⟨g1, g2, g3⟩ := hin.1 ⟨c1, c2⟩
    rcases hr with ⟨h1, h2, h3, h4⟩ | ⟨h1, h2⟩
    · rw [h3, ← g3]
    · exact absurd ⟨g1, g2⟩ h1
theorem R_blockOf (h : v_R t s) {x y : Int} (hx : d_R x) (hy : d_R y) : v_AP (F_X11_blockOf s x y) (F_X12_blockOf s x y) := by
  obtain ⟨u, v, W, H, st, me, so, N, sg, hG, hQ, hB, hM, hZ, hS, -⟩ := h.all
  have hac := hG.ac
  have hG' := hG
  obtain ⟨⟨g1, g2, g3, g4⟩, hu, hv, hW, hH, hu2, hv2⟩ := hG'
  unfold v_AP F_X11_blockOf F_X12_blockOf
  rw [P_isIn, d_b_t, g3, g4, d_w_id (x := (W : Int) - 1) (by omega) (by omega), d_w_id (x := (H : Int) - 1) (by omega) (by omega)]
  have base : ∀ r, _ → F_X11_blockOf_l2 s d_N x y 0 = some r := fun r hr => v_bofl hG hQ hx hy (r := r) hr (v_bl u v) 0 d_N (by omega) (by rw [d_N_is]; omega) (fun h => by omega)
  by_cases c1 : 0 ≤ x ∧ x ≤ (W : Int) - 1
  rotate_left
  · rw [v_bf c1, if_pos rfl]
    exact ⟨-1, base (-1) (Or.inr ⟨by omega, rfl⟩), rfl⟩
  rw [v_bt c1, if_neg (by decide), P_isIn, d_b_t]
  by_cases c2 : 0 ≤ y ∧ y ≤ (H : Int) - 1
  rotate_left
  · rw [v_bf c2, if_pos rfl]
    exact ⟨-1, base (-1) (Or.inr ⟨by omega, rfl⟩), rfl⟩
  rw [v_bt c2, if_neg (by decide), g1, g2]
  obtain ⟨x, rfl⟩ : ∃ k : Nat, x = k := ⟨x.toNat, by omega⟩
  obtain ⟨y, rfl⟩ : ∃ k : Nat, y = k := ⟨y.toNat, by omega⟩
  have p1 := v_pcx u hu x (by omega)
  have p2 := v_pcx v hv y (by omega)
  have hlt : v_pc v y * v_ac u + v_pc u x < v_bl u v := by
    have : v_pc v y * v_ac u + v_ac u ≤ v_ac v * v_ac u := by
      rw [← Nat.succ_mul]
      exact Nat.mul_le_mul_right _ (show v_pc v y + 1 ≤ v_pc v 12 + 1 by omega)
    have e : v_bl u v = v_ac v * v_ac u := Nat.mul_comm _ _
    have e2 : v_ac u = v_pc u 12 + 1 := rfl
    omega
  rw [P_partOf hv (by omega), d_b_t, P_across hG, d_b_t, P_partOf hu (by omega), d_b_t, ← Int.natCast_mul, d_w_id (by omega) (by omega)]
  exact ⟨((v_pc v y * v_ac u + v_pc u x : Nat) : Int), base _ (Or.inl ⟨by omega, by omega, rfl, by omega⟩), by rw [Int.natCast_add]⟩
end V29

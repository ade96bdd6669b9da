section V54
variable {s : d_S} {t : Nat → Option p_C} {p : Nat → Int} {c : Nat}
def v_tab (s : d_S) (p : Nat → Int) (c l i : Nat) : Prop := ∀ l' i', 1 ≤ l' → i' + l' ≤ c → (l' ≤ l ∨ l' = l + 1 ∧ i' < i) → s.1 79 (17 * i' + l') = v_pl_ p l' i'
theorem v_p80 {K : Int → Int → Int → Int → d_S → Option (Int × d_S)} (hp : ∀ i, 0 ≤ p i ∧ p i ≤ 9999) (hc : c ≤ 16) {l : Nat} (hlc : l + 1 ≤ c) {x1 : Int} : ∀ (j i m : Nat), i + j = c - l → j < m → ∀ (s : d_S) (x3 : Int), (∀ k, k < c → s.1 78 k = p k) → v_tab s p c l i → (0 < i → x3 = v_b (p (i - 1) - v_pl_ p l i < p (i - 1 + l) - v_pl_ p l (i - 1))) → ∃ (s' : d_S), F_X12_sellers_l80 K m x1 (c : Int) x3 ((l + 1 : Nat) : Int) (i : Int) s = K x1 (c : Int) (v_b (p (c - l - 1) - v_pl_ p l (c - l) < p (c - 1) - v_pl_ p l (c - l - 1))) ((l + 1 : Nat) : Int) s' ∧ (∀ k, k < c → s'.1 78 k = p k) ∧ v_tab s' p c (l + 1) 0 ∧ (∀ a, a ≠ 79 → s'.1 a = s.1 a) ∧ s'.2 = s.2 := by
  intro j
  induction j with
  | zero =>
    intro i m hi hm s x3 h78 ht hx
    obtain ⟨m, rfl⟩ : ∃ q, m = q + 1 := ⟨m - 1, by omega⟩
    have e := hx (by omega)
    rw [show i = c - l by omega, show c - l - 1 + l = c - 1 by omega] at e
    refine ⟨s, ?_, h78, fun l' i' h1 h2 h3 => ht l' i' h1 h2 (by omega), fun _ _ => rfl, rfl⟩
    show F_X12_sellers_l80_b K (F_X12_sellers_l80 K m) _ _ _ _ _ s = _
    unfold F_X12_sellers_l80_b
    rw [d_w_id (x := (i : Int) + ((l + 1 : Nat) : Int)) (by omega) (by omega), if_pos (by omega), e]
  | succ j ih =>
    intro i m hi hm s x3 h78 ht hx
    obtain ⟨m, rfl⟩ : ∃ q, m = q + 1 := ⟨m - 1, by omega⟩
    have b1 := v_pl_b hp l (i + 1)
    have b2 := v_pl_b hp l i
    have b3 := hp i
    have b4 := hp (i + l)
    obtain ⟨A, hA⟩ : ∃ A, A = p i - v_pl_ p l (i + 1) := ⟨_, rfl⟩
    obtain ⟨B, hB⟩ : ∃ B, B = p (i + l) - v_pl_ p l i := ⟨_, rfl⟩
    have w1 : d_w ((i : Int) + ((l + 1 : Nat) : Int)) = ((i + l + 1 : Nat) : Int) := by rw [d_w_id (by omega) (by omega)]; omega
    have w3 : d_w ((i : Int) + ((l + 1 : Nat) : Int) - 1) = ((i + l : Nat) : Int) := by rw [d_w_id (by omega) (by omega)]; omega
    have w4 : d_w (17 * ((i : Int) + 1) + ((l + 1 : Nat) : Int) - 1) = ((17 * (i + 1) + l : Nat) : Int) := by rw [d_w_id (by omega) (by omega)]; omega
    have w5 : d_w (17 * (i : Int) + ((l + 1 : Nat) : Int) - 1) = ((17 * i + l : Nat) : Int) := by rw [d_w_id (by omega) (by omega)]; omega
    have w6 : d_w (17 * (i : Int) + ((l + 1 : Nat) : Int)) = ((17 * i + (l + 1) : Nat) : Int) := by rw [d_w_id (by omega) (by omega)]; omega
    have w2 : d_w ((i : Int) + 1) = ((i + 1 : Nat) : Int) := by rw [d_w_id (by omega) (by omega)]; rfl
    obtain ⟨s1, hs1⟩ : ∃ q, q = d_si s 79 (17 * i + (l + 1)) (max A B) := ⟨_, rfl⟩
    have ht1 : v_tab s1 p c l (i + 1) := fun l' i' h1 h2 h3 => by
      rw [hs1, d_si_i]
      by_cases z : 17 * i' + l' = 17 * i + (l + 1)
      · have z1 : l' = l + 1 := by omega
        have z2 : i' = i := by omega
        rw [z, d_u_t, z1, z2, hA, hB]; rfl
      · rw [d_u_n z]
        refine ht l' i' h1 h2 ?_
        rcases h3 with h3 | ⟨h3, h4⟩
        · exact Or.inl h3
        · refine Or.inr ⟨h3, ?_⟩
          by_cases e : i' = i
          · exfalso; apply z; rw [e, h3]
          · omega
    obtain ⟨s', r1, r2, r3, r4, r5⟩ := ih (i + 1) m (by omega) (by omega) s1 (v_b (A < B)) (fun k hk => by rw [hs1, d_si_n (by decide)]; exact h78 k hk) ht1 (fun _ => by rw [show i + 1 - 1 = i by omega, ← hA, ← hB])
    have j192 : ∀ y, y = max A B → F_X12_sellers_j192 (F_X12_sellers_l80 K m) x1 (c : Int) ((l + 1 : Nat) : Int) (i : Int) A B ((17 * i + (l + 1) : Nat) : Int) y s = F_X12_sellers_l80 K m x1 (c : Int) (v_b (A < B)) ((l + 1 : Nat) : Int) ((i + 1 : Nat) : Int) s1 := fun y hy => by
      unfold F_X12_sellers_j192
      rw [d_g_t (by omega), Int.toNat_natCast, hy, d_l_t, ← hs1, w2]
      by_cases q : A < B
      · rw [if_pos q, v_bt q]
      · rw [if_neg q, v_bf q]
    refine ⟨s', ?_, r2, r3, fun a ha => by rw [r4 a ha, hs1, d_si_n ha], r5.trans (by rw [hs1]; rfl)⟩
    refine Eq.trans ?_ r1
    show F_X12_sellers_l80_b K (F_X12_sellers_l80 K m) _ _ _ _ _ s = _
    unfold F_X12_sellers_l80_b
    rw [w1, w3, w4, w5, if_neg (by omega), d_g_t (by omega)]
    simp only [Int.toNat_natCast]
    by_cases q : l = 0
    · subst q
      rw [if_neg (by omega), h78 i (by omega), show d_w (p i - 0) = A by rw [d_w_id (by omega) (by omega), hA]; rfl, d_l_t, d_g_t (by omega), if_neg (by omega), h78 (i + 0) (by omega)]
      unfold F_X12_sellers_j163_0
      rw [show d_w (p (i + 0) - 0) = B by rw [d_w_id (by omega) (by omega), hB]; rfl, w6]
      by_cases q2 : A < B
      · rw [if_pos q2]; exact j192 B (by omega)
      · rw [if_neg q2]; exact j192 A (by omega)
    · have t1 : s.1 79 (17 * (i + 1) + l) = v_pl_ p l (i + 1) := ht l (i + 1) (by omega) (by omega) (Or.inl (Nat.le_refl l))
      have t2 : s.1 79 (17 * i + l) = v_pl_ p l i := ht l i (by omega) (by omega) (Or.inl (Nat.le_refl l))
      rw [if_pos (by omega), d_g_t (by omega), h78 i (by omega), t1, show d_w (p i - v_pl_ p l (i + 1)) = A by rw [d_w_id (by omega) (by omega), hA], d_l_t, d_g_t (by omega), if_pos (by omega), d_g_t (by omega), h78 (i + l) (by omega), t2]
      unfold F_X12_sellers_j163
      rw [show d_w (p (i + l) - v_pl_ p l i) = B by rw [d_w_id (by omega) (by omega), hB], w6]
      by_cases q2 : A < B
      · rw [if_pos q2]; exact j192 B (by omega)
      · rw [if_neg q2]; exact j192 A (by omega)
theorem v_p71 {K : Int → Int → Int → d_S → Option (Int × d_S)} (hp : ∀ i, 0 ≤ p i ∧ p i ≤ 9999) (hc : c ≤ 16) (hc1 : 1 ≤ c) {x1 : Int} : ∀ (j l m : Nat), l + j = c → j < m → ∀ (s : d_S) (x3 : Int), (∀ k, k < c → s.1 78 k = p k) → v_tab s p c l 0 → (l = c → x3 = v_b (p 0 - v_pl_ p (c - 1) 1 < p (c - 1) - v_pl_ p (c - 1) 0)) → ∃ (s' : d_S), F_X12_sellers_l71 K m x1 (c : Int) x3 ((l + 1 : Nat) : Int) s = K x1 (c : Int) (v_b (p 0 - v_pl_ p (c - 1) 1 < p (c - 1) - v_pl_ p (c - 1) 0)) s' ∧ s'.1 79 c = v_pl_ p c 0 ∧ (∀ a, a ≠ 79 → s'.1 a = s.1 a) ∧ s'.2 = s.2 := by
  intro j
  induction j with
  | zero =>
    intro l m hl hm s x3 h78 ht hx
    obtain ⟨m, rfl⟩ : ∃ q, m = q + 1 := ⟨m - 1, by omega⟩
    have e : l = c := by omega
    subst e
    have := ht l 0 hc1 (by omega) (Or.inl (Nat.le_refl l))
    rw [show 17 * 0 + l = l by omega] at this
    refine ⟨s, ?_, this, fun _ _ => rfl, rfl⟩
    show F_X12_sellers_l71_b K (F_X12_sellers_l71 K m) _ _ _ _ s = _
    unfold F_X12_sellers_l71_b
    rw [if_pos (by omega), hx rfl]
  | succ j ih =>
    intro l m hl hm s x3 h78 ht hx
    obtain ⟨m, rfl⟩ : ∃ q, m = q + 1 := ⟨m - 1, by omega⟩
    obtain ⟨s1, r1, r2, r3, r4, r5⟩ := v_p80 (K := fun x1_u19 x2_u19 x3_u19 x4_u19 s_u19 => F_X12_sellers_l71 K m x1_u19 x2_u19 x3_u19 (d_w (x4_u19 + 1)) s_u19) hp hc (l := l) (by omega) (x1 := x1) (c - l) 0 d_N (by omega) (by rw [d_N_is]; omega) s x3 h78 ht (fun h => absurd h (by decide))
    obtain ⟨s', c1, c2, c3, c4⟩ := ih (l + 1) m (by omega) (by omega) s1 (v_b (p (c - l - 1) - v_pl_ p l (c - l) < p (c - 1) - v_pl_ p l (c - l - 1))) r2 r3 (fun e => by
      have e' : l = c - 1 := by omega
      rw [show c - l - 1 = 0 by omega, show c - l = 1 by omega, e'])
    refine ⟨s', ?_, c2, fun a ha => (c3 a ha).trans (r4 a ha), c4.trans r5⟩
    show F_X12_sellers_l71_b K (F_X12_sellers_l71 K m) _ _ _ _ s = _
    unfold F_X12_sellers_l71_b
    rw [if_neg (by omega)]
    refine (show F_X12_sellers_l80 _ d_N x1 (c : Int) x3 ((l + 1 : Nat) : Int) 0 s = _ from r1).trans ?_
    show F_X12_sellers_l71 K m x1 (c : Int) _ (d_w (((l + 1 : Nat) : Int) + 1)) s1 = _
    rw [show d_w (((l + 1 : Nat) : Int) + 1) = ((l + 1 + 1 : Nat) : Int) by rw [d_w_id (by omega) (by omega)]; rfl]
    exact c1
end V54

def v_cn (so : Nat → Nat) : Nat → Nat
  | 0 => 0
  | k + 1 => if v_cn so k < 16 ∧ so k = 0 then v_cn so k + 1 else v_cn so k
def v_pp (g : Nat → Int) (so : Nat → Nat) : Nat → Nat → Int
  | 0 => fun _ => 0
  | k + 1 => if v_cn so k < 16 ∧ so k = 0 then d_u (v_pp g so k) (v_cn so k) (g k) else v_pp g so k
section V52
variable {s s1 s2 : d_S} {t : Nat → Option p_C} {L : v_LR} {u v W H b N n : Nat} {st me so : Nat → Nat} {sg : Nat → Nat → Nat} {day heat x : Int} {g : Nat → Int}
theorem v_cn_le : ∀ k, v_cn so k ≤ 16 := by
  intro k
  induction k with
  | zero => exact Nat.zero_le 16
  | succ k ih => simp only [v_cn]; split <;> omega
theorem v_cn_16 {k : Nat} (h : ¬ v_cn so k < 16) : ∀ j, v_cn so (k + j) = v_cn so k ∧ v_pp g so (k + j) = v_pp g so k := by
  intro j
  induction j with
  | zero => exact ⟨rfl, rfl⟩
  | succ j ih =>
    rw [← Nat.add_assoc]
    simp only [v_cn, v_pp]
    rw [ih.1, if_neg (fun e => h e.1), if_neg (fun e => h e.1)]
    exact ⟨rfl, ih.2⟩
theorem v_pp_b (hg : ∀ k, 0 ≤ g k ∧ g k ≤ 9999) : ∀ k i, 0 ≤ v_pp g so k i ∧ v_pp g so k i ≤ 9999 := by
  intro k
  induction k with
  | zero => intro i; show (0 : Int) ≤ 0 ∧ (0 : Int) ≤ 9999; omega
  | succ k ih =>
    intro i
    simp only [v_pp]
    split
    · by_cases q : i = v_cn so k
      · rw [q, d_u_t]; exact hg k
      · rw [d_u_n q]; exact ih i
    · exact ih i
theorem v_slC {K : Int → Int → d_S → Option (Int × d_S)} {y : Int} : ∀ (j k m : Nat), k + j = v_bl u v → j < m → ∀ s, v_rdy t s L u v W H st me so N sg day heat x → (∀ i, i < v_cn so k → s.1 61 i = v_pp (v_pr1 L sg u v W H N day heat st me) so k i) → ∃ s', F_X11_sellers_l4 t K m y ((v_cn so k : Nat) : Int) (k : Int) s = K y ((v_cn so (v_bl u v) : Nat) : Int) s' ∧ v_rdy t s' L u v W H st me so N sg day heat x ∧ (∀ i, i < v_cn so (v_bl u v) → s'.1 61 i = v_pp (v_pr1 L sg u v W H N day heat st me) so (v_bl u v) i) ∧ (∀ a, a ≠ 47 → a ≠ 49 → a ≠ 50 → a ≠ 61 → s'.1 a = s.1 a) ∧ ∀ a, a ≠ 47 → s'.2.1 a = s.2.1 a := by
  intro j
  induction j with
  | zero =>
    intro k m hk hm s h hp
    obtain ⟨m, rfl⟩ : ∃ q, m = q + 1 := ⟨m - 1, by omega⟩
    have hk : k = v_bl u v := by omega
    subst hk
    refine ⟨s, ?_, h, hp, fun _ _ _ _ _ => rfl, fun _ _ => rfl⟩
    show F_X11_sellers_l4_b t K (F_X11_sellers_l4 t K m) _ _ _ s = _
    unfold F_X11_sellers_l4_b
    rw [h.2.1.1, if_neg (by omega)]
  | succ j ih =>
    intro k m hk hm s h hp
    obtain ⟨m, rfl⟩ : ∃ q, m = q + 1 := ⟨m - 1, by omega⟩
    have hkb : k < v_bl u v := by omega
    have h64 := h.2.1.2.2.1
    have hle := v_cn_le (so := so) k
    show ∃ s', F_X11_sellers_l4_b t K (F_X11_sellers_l4 t K m) _ _ _ s = _ ∧ _
    unfold F_X11_sellers_l4_b
    rw [h.2.1.1, if_pos (by omega)]
    by_cases q : v_cn so k < 16
    rotate_left
    · have e := v_cn_16 (g := v_pr1 L sg u v W H N day heat st me) q (v_bl u v - k)
      rw [show k + (v_bl u v - k) = v_bl u v by omega] at e
      rw [if_neg (by omega), e.1, e.2]
      exact ⟨s, rfl, h, hp, fun _ _ _ _ _ => rfl, fun _ _ => rfl⟩
    rw [if_pos (by omega), P_isSoldC h.1 (by omega), d_b_t, d_w_id (x := (k : Int) + 1) (by omega) (by omega)]
    by_cases q2 : so k = 0
    rotate_left
    · rw [if_neg (by omega)]
      have e1 : v_cn so (k + 1) = v_cn so k := by simp only [v_cn]; rw [if_neg (fun e => q2 e.2)]
      have e2 : v_pp (v_pr1 L sg u v W H N day heat st me) so (k + 1) = v_pp (v_pr1 L sg u v W H N day heat st me) so k := by simp only [v_pp]; rw [if_neg (fun e => q2 e.2)]
      have := ih (k + 1) m (by omega) (by omega) s h (by rw [e1, e2]; exact hp)
      rw [e1] at this
      exact this
    have e1 : v_cn so (k + 1) = v_cn so k + 1 := by simp only [v_cn]; rw [if_pos ⟨q, q2⟩]
    have e2 : v_pp (v_pr1 L sg u v W H N day heat st me) so (k + 1) = d_u (v_pp (v_pr1 L sg u v W H N day heat st me) so k) (v_cn so k) (v_pr1 L sg u v W H N day heat st me k) := by simp only [v_pp]; rw [if_pos ⟨q, q2⟩]
    obtain ⟨s2, r1, r2, r3⟩ := h.ask hkb
    obtain ⟨s', c1, c2, c3, c4, c5⟩ := ih (k + 1) m (by omega) (by omega) (d_si s2 61 (v_cn so k) (v_pr1 L sg u v W H N day heat st me k)) (r3.fr (fun a ha => d_si_n (by omega)) rfl (by rw [d_si_n (by decide)]; exact r3.2.2.2.2.1)) (fun i hi => by
      rw [e2, d_si_i]
      by_cases z : i = v_cn so k
      · rw [z, d_u_t, d_u_t]
      · rw [d_u_n z, d_u_n z, r2.1 61 (by decide) (by decide) (by decide)]; exact hp i (by omega))
    refine ⟨s', ?_, c2, c3, fun a h1 h2 h3 h4 => by rw [c4 a h1 h2 h3 h4, d_si_n h4]; exact r2.1 a h1 h2 h3, fun a ha => (c5 a ha).trans (r2.2.1 a ha)⟩
    rw [e1] at c1
    rw [if_pos (by omega), r1, d_b2_t, d_g_t (by omega), Int.toNat_natCast, d_l_t, d_w_id (by omega) (by omega)]
    exact c1
def v_78 (s s' : d_S) : Prop := (∀ a, a ≠ 71 → a ≠ 78 → s'.1 a = s.1 a) ∧ s'.2.1 = s.2.1
theorem v_slR {K : Int → Int → d_S → Option (Int × d_S)} {y : Int} : ∀ (j k m : Nat), k + j = v_bl u v → j < m → ∀ s, v_rdr s L u v W H st me so N sg day heat → (∀ i, i < v_cn so k → s.1 78 i = v_pp (v_pr1 L sg u v W H N day heat st me) so k i) → ∃ s', F_X12_sellers_l4 K m y ((v_cn so k : Nat) : Int) (k : Int) s = K y ((v_cn so (v_bl u v) : Nat) : Int) s' ∧ v_rdr s' L u v W H st me so N sg day heat ∧ (∀ i, i < v_cn so (v_bl u v) → s'.1 78 i = v_pp (v_pr1 L sg u v W H N day heat st me) so (v_bl u v) i) ∧ v_78 s s' := by
  intro j
  induction j with
  | zero =>
    intro k m hk hm s h hp
    obtain ⟨m, rfl⟩ : ∃ q, m = q + 1 := ⟨m - 1, by omega⟩
    have hk : k = v_bl u v := by omega
    subst hk
    refine ⟨s, ?_, h, hp, fun _ _ _ => rfl, rfl⟩
    show F_X12_sellers_l4_b K (F_X12_sellers_l4 K m) _ _ _ s = _
    unfold F_X12_sellers_l4_b
    rw [P_blocks h.1, d_b_t, if_neg (by omega)]
  | succ j ih =>
    intro k m hk hm s h hp
    obtain ⟨m, rfl⟩ : ∃ q, m = q + 1 := ⟨m - 1, by omega⟩
    have hkb : k < v_bl u v := by omega
    have h64 := h.1.ac.2.2.1
    have hle := v_cn_le (so := so) k
    show ∃ s', F_X12_sellers_l4_b K (F_X12_sellers_l4 K m) _ _ _ s = _ ∧ _
    unfold F_X12_sellers_l4_b
    rw [P_blocks h.1, d_b_t, if_pos (by omega)]
    by_cases q : v_cn so k < 16
    rotate_left
    · have e := v_cn_16 (g := v_pr1 L sg u v W H N day heat st me) q (v_bl u v - k)
      rw [show k + (v_bl u v - k) = v_bl u v by omega] at e
      rw [if_neg (by omega), e.1, e.2]
      exact ⟨s, rfl, h, hp, fun _ _ _ => rfl, rfl⟩
    rw [if_pos (by omega), P_isSold h.2.2.1 (by omega), d_b_t, d_w_id (x := (k : Int) + 1) (by omega) (by omega)]
    by_cases q2 : so k = 0
    rotate_left
    · rw [if_neg (by omega)]
      have e1 : v_cn so (k + 1) = v_cn so k := by simp only [v_cn]; rw [if_neg (fun e => q2 e.2)]
      have e2 : v_pp (v_pr1 L sg u v W H N day heat st me) so (k + 1) = v_pp (v_pr1 L sg u v W H N day heat st me) so k := by simp only [v_pp]; rw [if_neg (fun e => q2 e.2)]
      have := ih (k + 1) m (by omega) (by omega) s h (by rw [e1, e2]; exact hp)
      rw [e1] at this
      exact this
    have e1 : v_cn so (k + 1) = v_cn so k + 1 := by simp only [v_cn]; rw [if_pos ⟨q, q2⟩]
    have e2 : v_pp (v_pr1 L sg u v W H N day heat st me) so (k + 1) = d_u (v_pp (v_pr1 L sg u v W H N day heat st me) so k) (v_cn so k) (v_pr1 L sg u v W H N day heat st me k) := by simp only [v_pp]; rw [if_pos ⟨q, q2⟩]
    obtain ⟨s2, r1, r2, r3⟩ := h.ask hkb
    obtain ⟨s', c1, c2, c3, c4, c5⟩ := ih (k + 1) m (by omega) (by omega) (d_si s2 78 (v_cn so k) (v_pr1 L sg u v W H N day heat st me k)) (r3.fr (d_si_n (by decide)) (d_si_n (by decide)) (by rw [d_si_n (by decide)]; exact r3.2.2.2.2.1)) (fun i hi => by
      rw [e2, d_si_i]
      by_cases z : i = v_cn so k
      · rw [z, d_u_t, d_u_t]
      · rw [d_u_n z, d_u_n z, r2.1 78 (by decide)]; exact hp i (by omega))
    refine ⟨s', ?_, c2, c3, fun a h1 h2 => by rw [c4 a h1 h2, d_si_n h2]; exact r2.1 a h1, c5.trans r2.2.1⟩
    rw [e1] at c1
    rw [if_pos (by omega), r1, d_b2_t, d_g_t (by omega), Int.toNat_natCast, d_l_t, d_w_id (by omega) (by omega)]
    exact c1
end V52
def v_pl_ (p : Nat → Int) : Nat → Nat → Int
  | 0, _ => 0
  | l + 1, i => max (p i - v_pl_ p l (i + 1)) (p (i + l) - v_pl_ p l i)
section V53
variable {s : d_S} {t : Nat → Option p_C} {p : Nat → Int} {c : Nat}
theorem v_pl_b (hp : ∀ i, 0 ≤ p i ∧ p i ≤ 9999) : ∀ (l : Nat) (i : Nat), -(9999 * (l : Int)) ≤ v_pl_ p l i ∧ v_pl_ p l i ≤ 9999 * (l : Int) := by
  intro l
  induction l with
  | zero => intro i; show -(9999 * (0 : Int)) ≤ 0 ∧ (0 : Int) ≤ 9999 * 0; omega
  | succ l ih =>
    intro i
    have h1 := ih i
    have h2 := ih (i + 1)
    have h3 := hp i
    have h4 := hp (i + l)
    show -(9999 * ((l + 1 : Nat) : Int)) ≤ max (p i - v_pl_ p l (i + 1)) (p (i + l) - v_pl_ p l i) ∧ max (p i - v_pl_ p l (i + 1)) (p (i + l) - v_pl_ p l i) ≤ 9999 * ((l + 1 : Nat) : Int)
    omega
theorem v_p45 {K : Int → Int → Int → Int → Int → d_S → Option (Int × d_S)} (hp : ∀ i, 0 ≤ p i ∧ p i ≤ 9999) (hc : c ≤ 16) {l : Nat} (hl : 1 ≤ l) (hlc : l + 1 ≤ c) {x2 : Int} : ∀ (j i m : Nat), i + j = c - l → j < m → ∀ (s : d_S) (x3 x4 : Int), (∀ k, k < c → s.1 61 k = p k) → (∀ k, k < i → s.1 62 k = v_pl_ p (l + 1) k) → (∀ k, i ≤ k → k + l ≤ c → s.1 62 k = v_pl_ p l k) → (0 < i → l + 1 = c → x3 = p 0 - v_pl_ p l 1 ∧ x4 = p l - v_pl_ p l 0) → ∃ (y3 y4 : Int) (s' : d_S), F_X11_bestPlay_l45 K m (c : Int) x2 x3 x4 ((l + 1 : Nat) : Int) (i : Int) s = K (c : Int) x2 y3 y4 ((l + 1 : Nat) : Int) s' ∧ (∀ k, k < c → s'.1 61 k = p k) ∧ (∀ k, k + (l + 1) ≤ c → s'.1 62 k = v_pl_ p (l + 1) k) ∧ (l + 1 = c → y3 = p 0 - v_pl_ p l 1 ∧ y4 = p l - v_pl_ p l 0) ∧ (∀ a, a ≠ 62 → s'.1 a = s.1 a) ∧ s'.2 = s.2 := by
  intro j
  induction j with
  | zero =>
    intro i m hi hm s x3 x4 h61 hd hn hx
    obtain ⟨m, rfl⟩ : ∃ q, m = q + 1 := ⟨m - 1, by omega⟩
    refine ⟨x3, x4, s, ?_, h61, fun k hk => hd k (by omega), fun e => hx (by omega) e, fun _ _ => rfl, rfl⟩
    show F_X11_bestPlay_l45_b K (F_X11_bestPlay_l45 K m) _ _ _ _ _ _ s = _
    unfold F_X11_bestPlay_l45_b
    rw [d_w_id (x := (i : Int) + ((l + 1 : Nat) : Int)) (by omega) (by omega), if_pos (by omega)]
  | succ j ih =>
    intro i m hi hm s x3 x4 h61 hd hn hx
    obtain ⟨m, rfl⟩ : ∃ q, m = q + 1 := ⟨m - 1, by omega⟩
    have b1 := v_pl_b hp l (i + 1)
    have b2 := v_pl_b hp l i
    have b3 := hp i
    have b4 := hp (i + l)
    have w1 : d_w ((i : Int) + ((l + 1 : Nat) : Int)) = ((i + l + 1 : Nat) : Int) := by rw [d_w_id (by omega) (by omega)]; omega
    have w2 : d_w ((i : Int) + 1) = ((i + 1 : Nat) : Int) := by rw [d_w_id (by omega) (by omega)]; rfl
    have w3 : d_w ((i : Int) + ((l + 1 : Nat) : Int) - 1) = ((i + l : Nat) : Int) := by rw [d_w_id (by omega) (by omega)]; omega
    have e1 : d_w (p i - v_pl_ p l (i + 1)) = p i - v_pl_ p l (i + 1) := d_w_id (by omega) (by omega)
    have e2 : d_w (p (i + l) - v_pl_ p l i) = p (i + l) - v_pl_ p l i := d_w_id (by omega) (by omega)
    obtain ⟨s1, hs1⟩ : ∃ q, q = d_si s 62 i (max (p i - v_pl_ p l (i + 1)) (p (i + l) - v_pl_ p l i)) := ⟨_, rfl⟩
    have f62 : ∀ k, s1.1 62 k = d_u (s.1 62) i (max (p i - v_pl_ p l (i + 1)) (p (i + l) - v_pl_ p l i)) k := fun k => by rw [hs1, d_si_i]
    have fo : ∀ a, a ≠ 62 → s1.1 a = s.1 a := fun a ha => by rw [hs1, d_si_n ha]
    have k1 : ∀ k, k < c → s1.1 61 k = p k := fun k hk => by rw [fo 61 (by decide)]; exact h61 k hk
    have k2 : ∀ k, k < i + 1 → s1.1 62 k = v_pl_ p (l + 1) k := fun k hk => by
      rw [f62]
      by_cases z : k = i
      · rw [z, d_u_t]; rfl
      · rw [d_u_n z]; exact hd k (by omega)
    have k3 : ∀ k, i + 1 ≤ k → k + l ≤ c → s1.1 62 k = v_pl_ p l k := fun k h1 h2 => by
      rw [f62, d_u_n (by omega)]; exact hn k (by omega) h2
    show ∃ (y3 y4 : Int) (s' : d_S), F_X11_bestPlay_l45_b K (F_X11_bestPlay_l45 K m) _ _ _ _ _ _ s = _ ∧ _
    unfold F_X11_bestPlay_l45_b
    rw [w1, w2, w3, if_neg (by omega), if_neg (by omega)]
    simp only [Int.toNat_natCast]
    rw [d_g_t (by omega), d_g_t (by omega), h61 i (by omega), hn (i + 1) (by omega) (by omega), e1, d_l_t, d_g_t (by omega), d_g_t (by omega), h61 (i + l) (by omega), hn i (by omega) (by omega), e2, d_l_t, P_max, d_b_t, d_g_t (by omega), d_l_t, ← hs1]
    by_cases q : l + 1 = c
    · have hi0 : i = 0 := by omega
      subst hi0
      rw [if_pos (by omega)]
      obtain ⟨y3, y4, s', r1, r2, r3, r4, r5, r6⟩ := ih (0 + 1) m (by omega) (by omega) s1 (p 0 - v_pl_ p l (0 + 1)) (p (0 + l) - v_pl_ p l 0) k1 k2 k3 (fun _ _ => ⟨rfl, by rw [Nat.zero_add]⟩)
      exact ⟨y3, y4, s', r1, r2, r3, r4, fun a ha => (r5 a ha).trans (fo a ha), r6.trans (by rw [hs1]; rfl)⟩
    · rw [if_neg (by omega)]
      obtain ⟨y3, y4, s', r1, r2, r3, r4, r5, r6⟩ := ih (i + 1) m (by omega) (by omega) s1 x3 x4 k1 k2 k3 (fun _ e => absurd e q)
      exact ⟨y3, y4, s', r1, r2, r3, r4, fun a ha => (r5 a ha).trans (fo a ha), r6.trans (by rw [hs1]; rfl)⟩
theorem v_p36 {K : Int → Int → Int → d_S → Option (Int × d_S)} (hp : ∀ i, 0 ≤ p i ∧ p i ≤ 9999) (hc : c ≤ 16) (hc1 : 1 ≤ c) {x2 : Int} : ∀ (j l m : Nat), l + j = c → 1 ≤ l → j < m → ∀ (s : d_S) (x3 x4 : Int), (∀ k, k < c → s.1 61 k = p k) → (∀ k, k + l ≤ c → s.1 62 k = v_pl_ p l k) → ((l = c → 2 ≤ c → x3 = p 0 - v_pl_ p (c - 1) 1 ∧ x4 = p (c - 1) - v_pl_ p (c - 1) 0) ∧ (c = 1 → x3 = x4)) → ∃ (y3 y4 : Int) (s' : d_S), F_X11_bestPlay_l36 K m (c : Int) x2 x3 x4 ((l + 1 : Nat) : Int) s = K x2 y3 y4 s' ∧ s'.1 62 0 = v_pl_ p c 0 ∧ ((2 ≤ c → y3 = p 0 - v_pl_ p (c - 1) 1 ∧ y4 = p (c - 1) - v_pl_ p (c - 1) 0) ∧ (c = 1 → y3 = y4)) ∧ (∀ a, a ≠ 62 → s'.1 a = s.1 a) ∧ s'.2 = s.2 := by
  intro j
  induction j with
  | zero =>
    intro l m hl hl1 hm s x3 x4 h61 h62 hx
    obtain ⟨m, rfl⟩ : ∃ q, m = q + 1 := ⟨m - 1, by omega⟩
    have e : l = c := by omega
    subst e
    refine ⟨x3, x4, s, ?_, h62 0 (by omega), ⟨fun h => hx.1 rfl h, hx.2⟩, fun _ _ => rfl, rfl⟩
    show F_X11_bestPlay_l36_b K (F_X11_bestPlay_l36 K m) _ _ _ _ _ s = _
    unfold F_X11_bestPlay_l36_b
    rw [if_pos (by omega)]
  | succ j ih =>
    intro l m hl hl1 hm s x3 x4 h61 h62 hx
    obtain ⟨m, rfl⟩ : ∃ q, m = q + 1 := ⟨m - 1, by omega⟩
    obtain ⟨y3, y4, s1, r1, r2, r3, r4, r5, r6⟩ := v_p45 (K := fun x1_u11 x2_u11 x3_u11 x4_u11 x5_u11 s_u11 => F_X11_bestPlay_l36 K m x1_u11 x2_u11 x3_u11 x4_u11 (d_w (x5_u11 + 1)) s_u11) hp hc hl1 (by omega) (x2 := x2) (c - l) 0 d_N (by omega) (by rw [d_N_is]; omega) s x3 x4 h61 (fun k hk => absurd hk (Nat.not_lt_zero k)) (fun k _ hk => h62 k hk) (fun h => absurd h (by decide))
    obtain ⟨z3, z4, s', c1, c2, c3, c4, c5⟩ := ih (l + 1) m (by omega) (by omega) (by omega) s1 y3 y4 r2 r3 ⟨fun e h => by
      have := r4 e
      rw [show c - 1 = l by omega]; exact this, fun e => by omega⟩
    refine ⟨z3, z4, s', ?_, c2, c3, fun a ha => (c4 a ha).trans (r5 a ha), c5.trans r6⟩
    show F_X11_bestPlay_l36_b K (F_X11_bestPlay_l36 K m) _ _ _ _ _ s = _
    unfold F_X11_bestPlay_l36_b
    rw [if_neg (by omega)]
    refine (show F_X11_bestPlay_l45 _ d_N (c : Int) x2 x3 x4 ((l + 1 : Nat) : Int) 0 s = _ from r1).trans ?_
    show F_X11_bestPlay_l36 K m (c : Int) x2 y3 y4 (d_w (((l + 1 : Nat) : Int) + 1)) s1 = _
    rw [show d_w (((l + 1 : Nat) : Int) + 1) = ((l + 1 + 1 : Nat) : Int) by rw [d_w_id (by omega) (by omega)]; rfl]
    exact c1
theorem v_pl_1 (i : Nat) : v_pl_ p 1 i = p i := by
  show max (p i - 0) (p (i + 0) - 0) = p i
  rw [Nat.add_zero]; omega
theorem P_bestPlay (hp : ∀ i, 0 ≤ p i ∧ p i ≤ 9999) (hc : c ≤ 16) (hc1 : 1 ≤ c) (h61 : ∀ k, k < c → s.1 61 k = p k) {f : Int} (hf : f = 0 ∨ f = 1) : ∃ s', F_X11_bestPlay s (c : Int) f = some (if f = 0 then v_pl_ p c 0 else v_b (2 ≤ c ∧ p 0 - v_pl_ p (c - 1) 1 < p (c - 1) - v_pl_ p (c - 1) 0), s') ∧ (∀ a, a ≠ 62 → s'.1 a = s.1 a) ∧ s'.2 = s.2 := by
  obtain ⟨s1, hs1⟩ : ∃ q, q = d_cp s 61 0 62 0 16 := ⟨_, rfl⟩
  have f62 : ∀ k, k < 16 → s1.1 62 k = s.1 61 k := fun k hk => by rw [hs1, d_cp_i, if_pos (by omega), show 0 + k - 0 = k by omega]
  have fo : ∀ a, a ≠ 62 → s1.1 a = s.1 a := fun a ha => by rw [hs1, d_cp_n ha]
  have h2 : s1.2 = s.2 := by rw [hs1]; rfl
  obtain ⟨y3, y4, s', r1, r2, ⟨r3, r4⟩, r5, r6⟩ := v_p36 (K := fun x2_u12 x3_u12 x4_u12 s_u12 => if x2_u12 = 0 then some ((s_u12.1 62 0), s_u12) else if x3_u12 < x4_u12 then d_b (F_X11_bit 1) (fun v13 => some (v13, s_u12)) else d_b (F_X11_bit 0) (fun v14 => some (v14, s_u12))) hp hc hc1 (x2 := f) (c - 1) 1 d_N (by omega) (by omega) (by rw [d_N_is]; omega) s1 (s1.1 61 0) (s1.1 61 0) (fun k hk => by rw [fo 61 (by decide)]; exact h61 k hk) (fun k hk => by rw [f62 k (by omega), v_pl_1]; exact h61 k (by omega)) ⟨fun e h => by omega, fun _ => rfl⟩
  refine ⟨s', ?_, fun a ha => (r5 a ha).trans (fo a ha), r6.trans h2⟩
  unfold F_X11_bestPlay
  rw [d_l_t, ← hs1]
  refine (show F_X11_bestPlay_l36 _ d_N (c : Int) f (s1.1 61 0) (s1.1 61 0) 2 s1 = _ from r1).trans ?_
  show (if f = 0 then _ else _) = _
  rcases hf with e | e
  · rw [if_pos e, if_pos e, r2]
  · have e0 : ¬ f = 0 := by omega
    rw [if_neg e0, if_neg e0, v_bit1_, v_bit0_, d_b_t, d_b_t]
    by_cases q : 2 ≤ c
    · obtain ⟨g1, g2⟩ := r3 q
      by_cases q2 : y3 < y4
      · rw [if_pos q2, v_bt ⟨q, by rw [← g1, ← g2]; exact q2⟩]
      · rw [if_neg q2, v_bf (fun e => q2 (by rw [g1, g2]; exact e.2))]
    · have := r4 (by omega)
      rw [if_neg (by omega), v_bf (fun e => q e.1)]
end V53
section V54
variable {s : d_S} {t : Nat → Option p_C} {p : Nat → Int} {c : Nat}
def v_tab (s : d_S) (p : Nat → Int) (c l i : Nat) : Prop := ∀ l' i', 1 ≤ l' → i' + l' ≤ c → (l' ≤ l ∨ l' = l + 1 ∧ i' < i) → s.1 79 (17 * i' + l') = v_pl_ p l' i'
theorem v_p80 {K : Int → Int → Int → Int → d_S → Option (Int × d_S)} (hp : ∀ i, 0 ≤ p i ∧ p i ≤ 9999) (hc : c ≤ 16) {l : Nat} (hlc : l + 1 ≤ c) {x1 : Int} : ∀ (j i m : Nat), i + j = c - l → j < m → ∀ (s : d_S) (x3 : Int), (∀ k, k < c → s.1 78 k = p k) → v_tab s p c l i → (0 < i → x3 = v_b (p (i - 1) - v_pl_ p l i < p (i - 1 + l) - v_pl_ p l (i - 1))) → ∃ (s' : d_S), F_X12_sellers_l80 K m x1 (c : Int) x3 ((l + 1 : Nat) : Int) (i : Int) s = K x1 (c : Int) (v_b (p (c - l - 1) - v_pl_ p l (c - l) < p (c - 1) - v_pl_ p l (c - l - 1))) ((l + 1 : Nat) : Int) s' ∧ (∀ k, k < c → s'.1 78 k = p k) ∧ v_tab s' p c (l + 1) 0 ∧ (∀ a, a ≠ 79 → s'.1 a = s.1 a) ∧ s'.2 = s.2 := by
  intro j
  induction j with
  | zero =>
    intro i m hi hm s x3 h78 ht hx
    obtain ⟨m, rfl⟩ : ∃ q, m = q + 1 := ⟨m - 1, by omega⟩
    have e := hx (by omega)
    rw [show i = c - l by omega, show c - l - 1 + l = c - 1 by omega] at e
    refine ⟨s, ?_, h78, fun l' i' h1 h2 h3 => ht l' i' h1 h2 (by omega), fun _ _ => rfl, rfl⟩
    show F_X12_sellers_l80_b K (F_X12_sellers_l80 K m) _ _ _ _ _ s = _
    unfold F_X12_sellers_l80_b
    rw [d_w_id (x := (i : Int) + ((l + 1 : Nat) : Int)) (by omega) (by omega), if_pos (by omega), e]
  | succ j ih =>
    intro i m hi hm s x3 h78 ht hx
    obtain ⟨m, rfl⟩ : ∃ q, m = q + 1 := ⟨m - 1, by omega⟩
    have b1 := v_pl_b hp l (i + 1)
    have b2 := v_pl_b hp l i
    have b3 := hp i
    have b4 := hp (i + l)
    obtain ⟨A, hA⟩ : ∃ A, A = p i - v_pl_ p l (i + 1) := ⟨_, rfl⟩
    obtain ⟨B, hB⟩ : ∃ B, B = p (i + l) - v_pl_ p l i := ⟨_, rfl⟩
    have w1 : d_w ((i : Int) + ((l + 1 : Nat) : Int)) = ((i + l + 1 : Nat) : Int) := by rw [d_w_id (by omega) (by omega)]; omega
    have w3 : d_w ((i : Int) + ((l + 1 : Nat) : Int) - 1) = ((i + l : Nat) : Int) := by rw [d_w_id (by omega) (by omega)]; omega
    have w4 : d_w (17 * ((i : Int) + 1) + ((l + 1 : Nat) : Int) - 1) = ((17 * (i + 1) + l : Nat) : Int) := by rw [d_w_id (by omega) (by omega)]; omega
    have w5 : d_w (17 * (i : Int) + ((l + 1 : Nat) : Int) - 1) = ((17 * i + l : Nat) : Int) := by rw [d_w_id (by omega) (by omega)]; omega
    have w6 : d_w (17 * (i : Int) + ((l + 1 : Nat) : Int)) = ((17 * i + (l + 1) : Nat) : Int) := by rw [d_w_id (by omega) (by omega)]; omega
    have w2 : d_w ((i : Int) + 1) = ((i + 1 : Nat) : Int) := by rw [d_w_id (by omega) (by omega)]; rfl
    obtain ⟨s1, hs1⟩ : ∃ q, q = d_si s 79 (17 * i + (l + 1)) (max A B) := ⟨_, rfl⟩
    have ht1 : v_tab s1 p c l (i + 1) := fun l' i' h1 h2 h3 => by
      rw [hs1, d_si_i]
      by_cases z : 17 * i' + l' = 17 * i + (l + 1)
      · have z1 : l' = l + 1 := by omega
        have z2 : i' = i := by omega
        rw [z, d_u_t, z1, z2, hA, hB]; rfl
      · rw [d_u_n z]
        refine ht l' i' h1 h2 ?_
        rcases h3 with h3 | ⟨h3, h4⟩
        · exact Or.inl h3
        · refine Or.inr ⟨h3, ?_⟩
          by_cases e : i' = i
          · exfalso; apply z; rw [e, h3]
          · omega
    obtain ⟨s', r1, r2, r3, r4, r5⟩ := ih (i + 1) m (by omega) (by omega) s1 (v_b (A < B)) (fun k hk => by rw [hs1, d_si_n (by decide)]; exact h78 k hk) ht1 (fun _ => by rw [show i + 1 - 1 = i by omega, ← hA, ← hB])
    have j192 : ∀ y, y = max A B → F_X12_sellers_j192 (F_X12_sellers_l80 K m) x1 (c : Int) ((l + 1 : Nat) : Int) (i : Int) A B ((17 * i + (l + 1) : Nat) : Int) y s = F_X12_sellers_l80 K m x1 (c : Int) (v_b (A < B)) ((l + 1 : Nat) : Int) ((i + 1 : Nat) : Int) s1 := fun y hy => by
      unfold F_X12_sellers_j192
      rw [d_g_t (by omega), Int.toNat_natCast, hy, d_l_t, ← hs1, w2]
      by_cases q : A < B
      · rw [if_pos q, v_bt q]
      · rw [if_neg q, v_bf q]
    refine ⟨s', ?_, r2, r3, fun a ha => by rw [r4 a ha, hs1, d_si_n ha], r5.trans (by rw [hs1]; rfl)⟩
    refine Eq.trans ?_ r1
    show F_X12_sellers_l80_b K (F_X12_sellers_l80 K m) _ _ _ _ _ s = _
    unfold F_X12_sellers_l80_b
    rw [w1, w3, w4, w5, if_neg (by omega), d_g_t (by omega)]
    simp only [Int.toNat_natCast]
    by_cases q : l = 0
    · subst q
      rw [if_neg (by omega), h78 i (by omega), show d_w (p i - 0) = A by rw [d_w_id (by omega) (by omega), hA]; rfl, d_l_t, d_g_t (by omega), if_neg (by omega), h78 (i + 0) (by omega)]
      unfold F_X12_sellers_j163_0
      rw [show d_w (p (i + 0) - 0) = B by rw [d_w_id (by omega) (by omega), hB]; rfl, w6]
      by_cases q2 : A < B
      · rw [if_pos q2]; exact j192 B (by omega)
      · rw [if_neg q2]; exact j192 A (by omega)
    · have t1 : s.1 79 (17 * (i + 1) + l) = v_pl_ p l (i + 1) := ht l (i + 1) (by omega) (by omega) (Or.inl (Nat.le_refl l))
      have t2 : s.1 79 (17 * i + l) = v_pl_ p l i := ht l i (by omega) (by omega) (Or.inl (Nat.le_refl l))
      rw [if_pos (by omega), d_g_t (by omega), h78 i (by omega), t1, show d_w (p i - v_pl_ p l (i + 1)) = A by rw [d_w_id (by omega) (by omega), hA], d_l_t, d_g_t (by omega), if_pos (by omega), d_g_t (by omega), h78 (i + l) (by omega), t2]
      unfold F_X12_sellers_j163
      rw [show d_w (p (i + l) - v_pl_ p l i) = B by rw [d_w_id (by omega) (by omega), hB], w6]
      by_cases q2 : A < B
      · rw [if_pos q2]; exact j192 B (by omega)
      · rw [if_neg q2]; exact j192 A (by omega)
theorem v_p71 {K : Int → Int → Int → d_S → Option (Int × d_S)} (hp : ∀ i, 0 ≤ p i ∧ p i ≤ 9999) (hc : c ≤ 16) (hc1 : 1 ≤ c) {x1 : Int} : ∀ (j l m : Nat), l + j = c → j < m → ∀ (s : d_S) (x3 : Int), (∀ k, k < c → s.1 78 k = p k) → v_tab s p c l 0 → (l = c → x3 = v_b (p 0 - v_pl_ p (c - 1) 1 < p (c - 1) - v_pl_ p (c - 1) 0)) → ∃ (s' : d_S), F_X12_sellers_l71 K m x1 (c : Int) x3 ((l + 1 : Nat) : Int) s = K x1 (c : Int) (v_b (p 0 - v_pl_ p (c - 1) 1 < p (c - 1) - v_pl_ p (c - 1) 0)) s' ∧ s'.1 79 c = v_pl_ p c 0 ∧ (∀ a, a ≠ 79 → s'.1 a = s.1 a) ∧ s'.2 = s.2 := by
  intro j
  induction j with
  | zero =>
    intro l m hl hm s x3 h78 ht hx
    obtain ⟨m, rfl⟩ : ∃ q, m = q + 1 := ⟨m - 1, by omega⟩
    have e : l = c := by omega
    subst e
    have := ht l 0 hc1 (by omega) (Or.inl (Nat.le_refl l))
    rw [show 17 * 0 + l = l by omega] at this
    refine ⟨s, ?_, this, fun _ _ => rfl, rfl⟩
    show F_X12_sellers_l71_b K (F_X12_sellers_l71 K m) _ _ _ _ s = _
    unfold F_X12_sellers_l71_b
    rw [if_pos (by omega), hx rfl]
  | succ j ih =>
    intro l m hl hm s x3 h78 ht hx
    obtain ⟨m, rfl⟩ : ∃ q, m = q + 1 := ⟨m - 1, by omega⟩
    obtain ⟨s1, r1, r2, r3, r4, r5⟩ := v_p80 (K := fun x1_u19 x2_u19 x3_u19 x4_u19 s_u19 => F_X12_sellers_l71 K m x1_u19 x2_u19 x3_u19 (d_w (x4_u19 + 1)) s_u19) hp hc (l := l) (by omega) (x1 := x1) (c - l) 0 d_N (by omega) (by rw [d_N_is]; omega) s x3 h78 ht (fun h => absurd h (by decide))
    obtain ⟨s', c1, c2, c3, c4⟩ := ih (l + 1) m (by omega) (by omega) s1 (v_b (p (c - l - 1) - v_pl_ p l (c - l) < p (c - 1) - v_pl_ p l (c - l - 1))) r2 r3 (fun e => by
      have e' : l = c - 1 := by omega
      rw [show c - l - 1 = 0 by omega, show c - l = 1 by omega, e'])
    refine ⟨s', ?_, c2, fun a ha => (c3 a ha).trans (r4 a ha), c4.trans r5⟩
    show F_X12_sellers_l71_b K (F_X12_sellers_l71 K m) _ _ _ _ s = _
    unfold F_X12_sellers_l71_b
    rw [if_neg (by omega)]
    refine (show F_X12_sellers_l80 _ d_N x1 (c : Int) x3 ((l + 1 : Nat) : Int) 0 s = _ from r1).trans ?_
    show F_X12_sellers_l71 K m x1 (c : Int) _ (d_w (((l + 1 : Nat) : Int) + 1)) s1 = _
    rw [show d_w (((l + 1 : Nat) : Int) + 1) = ((l + 1 + 1 : Nat) : Int) by rw [d_w_id (by omega) (by omega)]; rfl]
    exact c1
end V54
section V55
variable {s : d_S} {t : Nat → Option p_C}
theorem R_sellers (h : v_R t s) {y : Int} : v_AA t (F_X11_sellers t s y) (fun s1 => F_X12_sellers s1 y) := by
  obtain ⟨L, u, v, W, H, st, me, so, N, sg, day, heat, x, hC, hR⟩ := h.rdy
  have h64 := hC.2.1.2.2.1
  have n10 : ¬ (1 : Int) = 0 := by decide
  obtain ⟨p, hpe⟩ : ∃ p, p = v_pp (v_pr1 L sg u v W H N day heat st me) so (v_bl u v) := ⟨_, rfl⟩
  obtain ⟨c, hce⟩ : ∃ c, c = v_cn so (v_bl u v) := ⟨_, rfl⟩
  have hp : ∀ i, 0 ≤ p i ∧ p i ≤ 9999 := fun i => by rw [hpe]; exact v_pp_b (fun k => v_sel_b) _ i
  have hc : c ≤ 16 := by rw [hce]; exact v_cn_le _
  obtain ⟨s1, a1, a2, a3, a4, a5⟩ := v_slC (L := L) (N := N) (sg := sg) (so := so) (K := fun x1_u6 x2_u6 s_u6 => if x2_u6 = 0 then F_X11_sellers_j68 t s_u6 else d_b (F_X11_within x1_u6 0 1) (fun v7 => if v7 = 0 then F_X11_sellers_j68 t s_u6 else if x1_u6 = 1 then d_b2 (F_X11_bestPlay s_u6 x2_u6 1) (fun v8 s9 => some (v8, s9)) else d_b2 (F_X11_bestPlay s_u6 x2_u6 0) (fun v10 s11 => some (v10, s11)))) (y := y) (v_bl u v) 0 d_N (by omega) (by rw [d_N_is]; omega) s hC (fun i hi => absurd hi (Nat.not_lt_zero i))
  rw [← hce] at a1 a3
  rw [← hpe] at a3
  
  have ref : ∀ s2 : d_S, (∀ a, a ≠ 62 → s2.1 a = s1.1 a) → ∃ s3, F_X12_sellers s2 y = (if ((c : Nat) : Int) = 0 then some (-100000, s3) else if (0 ≤ y ∧ y ≤ 1) then some (if y = 1 then v_b (p 0 - v_pl_ p (c - 1) 1 < p (c - 1) - v_pl_ p (c - 1) 0) else v_pl_ p c 0, s3) else some (-100000, s3)) ∧ (∀ a, a ≠ 71 → a ≠ 78 → a ≠ 79 → s3.1 a = s2.1 a) ∧ s3.2.1 = s2.2.1 ∧ v_Nm (s3.1 71) := fun s2 h2 => by
    have hR1 : v_rdr s2 L u v W H st me so N sg day heat := hR.fr (by rw [h2 65 (by decide)]; exact a4 65 (by decide) (by decide) (by decide) (by decide)) (by rw [h2 67 (by decide)]; exact a4 67 (by decide) (by decide) (by decide) (by decide)) (by rw [h2 71 (by decide), a4 71 (by decide) (by decide) (by decide) (by decide)]; exact hR.2.2.2.2.1)
    obtain ⟨s3, b1, b2, b3, b4, b5⟩ := v_slR (L := L) (N := N) (sg := sg) (so := so) (day := day) (heat := heat) (K := fun x1_u7 x2_u7 s_u7 => if x2_u7 = 0 then F_X12_sellers_j62 s_u7 else d_b (F_X12_isIn x1_u7 0 1) (fun v8 => if v8 = 0 then F_X12_sellers_j62 s_u7 else F_X12_sellers_l71 (fun x1_u20 x2_u20 x3_u20 s_u20 => if x1_u20 = 1 then if x3_u20 = 0 then some (0, s_u20) else some (1, s_u20) else d_g (0 ≤ x2_u20 ∧ x2_u20 < 272) (some ((s_u20.1 79 (x2_u20.toNat)), s_u20))) d_N x1_u7 x2_u7 0 1 s_u7)) (y := y) (v_bl u v) 0 d_N (by omega) (by rw [d_N_is]; omega) s2 hR1 (fun i hi => absurd hi (Nat.not_lt_zero i))
    rw [← hce] at b1 b3
    rw [← hpe] at b3
    have b1 : F_X12_sellers s2 y = _ := b1
    by_cases q0 : c = 0
    · refine ⟨s3, ?_, fun a h1 h2 _ => b4 a h1 h2, b5, b2.2.2.2.2.1⟩
      rw [b1, if_pos (by omega), if_pos (by omega)]; rfl
    by_cases q1 : 0 ≤ y ∧ y ≤ 1
    rotate_left
    · refine ⟨s3, ?_, fun a h1 h2 _ => b4 a h1 h2, b5, b2.2.2.2.2.1⟩
      rw [b1, if_neg (by omega), if_neg (by omega), if_neg q1, P_isIn, d_b_t, v_bf q1, if_pos rfl]; rfl
    obtain ⟨s4, c1, c2, c3, c4⟩ := v_p71 (K := fun x1_u20 x2_u20 x3_u20 s_u20 => if x1_u20 = 1 then if x3_u20 = 0 then some (0, s_u20) else some (1, s_u20) else d_g (0 ≤ x2_u20 ∧ x2_u20 < 272) (some ((s_u20.1 79 (x2_u20.toNat)), s_u20))) hp hc (by omega) (x1 := y) c 0 d_N (by omega) (by rw [d_N_is]; omega) s3 0 b3 (fun l' i' h1 h2 h3 => by omega) (fun e => by omega)
    refine ⟨s4, ?_, fun a h1 h2 h3 => by rw [c3 a h3]; exact b4 a h1 h2, by rw [c4]; exact b5, by rw [c3 71 (by decide)]; exact b2.2.2.2.2.1⟩
    rw [b1, if_neg (by omega), if_neg (by omega), if_pos q1, P_isIn, d_b_t, v_bt q1, if_neg n10]
    refine (show F_X12_sellers_l71 _ d_N y (c : Int) 0 1 s3 = _ from c1).trans ?_
    show (if y = 1 then _ else _) = _
    by_cases q : y = 1
    · rw [if_pos q, if_pos q]
      by_cases q2 : p 0 - v_pl_ p (c - 1) 1 < p (c - 1) - v_pl_ p (c - 1) 0
      · rw [v_bt q2, if_neg n10]
      · rw [v_bf q2, if_pos rfl]
    · rw [if_neg q, if_neg q, d_g_t (by omega), Int.toNat_natCast, c2]
  have done : ∀ s2 s3 : d_S, (∀ a, a ≠ 62 → s2.1 a = s1.1 a) → s2.2 = s1.2 → (∀ a, a ≠ 71 → a ≠ 78 → a ≠ 79 → s3.1 a = s2.1 a) → s3.2.1 = s2.2.1 → v_Nm (s3.1 71) → v_R t s3 := fun s2 s3 h1 h2 h3 h4 h5 => h.scr (fun a ha => by
    unfold v_cl at ha
    rw [h3 a (by omega) (by omega) (by omega), h1 a (by omega), a4 a (by omega) (by omega) (by omega) (by omega)]) (fun a ha => by rw [h4, h2]; exact a5 a ha) ⟨by rw [h3 49 (by decide) (by decide) (by decide), h1 49 (by decide)]; exact a2.2.2.2.2.1, h5⟩
  have a1 : F_X11_sellers t s y = _ := a1
  by_cases q0 : c = 0
  · obtain ⟨s3, r1, r2, r3, r4⟩ := ref s1 (fun _ _ => rfl)
    refine ⟨-100000, s1, s3, ?_, ?_, done s1 s3 (fun _ _ => rfl) rfl r2 r3 r4⟩
    · rw [a1, if_pos (by omega)]; rfl
    · show F_X12_sellers s1 y = _
      rw [r1, if_pos (by omega)]
  by_cases q1 : 0 ≤ y ∧ y ≤ 1
  rotate_left
  · obtain ⟨s3, r1, r2, r3, r4⟩ := ref s1 (fun _ _ => rfl)
    refine ⟨-100000, s1, s3, ?_, ?_, done s1 s3 (fun _ _ => rfl) rfl r2 r3 r4⟩
    · rw [a1, if_neg (by omega), P_within, d_b_t, v_bf q1, if_pos rfl]; rfl
    · show F_X12_sellers s1 y = _
      rw [r1, if_neg (by omega), if_neg q1]
  by_cases q : y = 1
  · obtain ⟨s2, g1, g2, g3⟩ := P_bestPlay (s := s1) hp hc (by omega) a3 (f := 1) (Or.inr rfl)
    obtain ⟨s3, r1, r2, r3, r4⟩ := ref s2 g2
    refine ⟨v_b (p 0 - v_pl_ p (c - 1) 1 < p (c - 1) - v_pl_ p (c - 1) 0), s2, s3, ?_, ?_, done s2 s3 g2 g3 r2 r3 r4⟩
    · rw [a1, if_neg (by omega), P_within, d_b_t, v_bt q1, if_neg n10, if_pos q, g1, d_b2_t, if_neg n10]
      congr 2
      refine v_bc ⟨fun e => e.2, fun e => ⟨?_, e⟩⟩
      by_cases z : c = 1
      · subst z
        exfalso
        have e : p 0 - 0 < p 0 - 0 := e
        omega
      · omega
    · show F_X12_sellers s2 y = _
      rw [r1, if_neg (by omega), if_pos q1, if_pos q]
  · obtain ⟨s2, g1, g2, g3⟩ := P_bestPlay (s := s1) hp hc (by omega) a3 (f := 0) (Or.inl rfl)
    obtain ⟨s3, r1, r2, r3, r4⟩ := ref s2 g2
    refine ⟨v_pl_ p c 0, s2, s3, ?_, ?_, done s2 s3 g2 g3 r2 r3 r4⟩
    · rw [a1, if_neg (by omega), P_within, d_b_t, v_bt q1, if_neg n10, if_neg q, g1, d_b2_t, if_pos rfl]
    · show F_X12_sellers s2 y = _
      rw [r1, if_neg (by omega), if_pos q1, if_neg q]
end V55
def v_lpl (u W : Nat) : Nat → Nat → Nat → Nat
  | 0, _, x => x
  | j + 1, k, x => v_lpl u W j (k + 1) (if v_ln u k W < x then v_ln u k W else x)
def v_lp (u W : Nat) : Nat := v_lpl u W (v_pc u 12 + 1) 0 W
def v_bz (P : Nat → Bool) : Nat → Option Nat
  | 0 => none
  | n + 1 => match P n with
    | false => v_bz P n
    | true => match v_bz P n with
      | none => some n
      | some y => if v_pc y 12 < v_pc n 12 then some n else some y
def v_on : Option Nat → Int
  | none => -1
  | some y => (y : Int)
def v_ud (o : Option (Nat × Nat)) (x : Nat) : Option Nat → Option (Nat × Nat)
  | none => o
  | some y => match o with
    | none => some (x, y)
    | some p => if v_bl p.1 p.2 < v_bl x y then some (x, y) else some p
def v_w1 : Option (Nat × Nat) → Int
  | none => -1
  | some p => ((v_bl p.1 p.2 : Nat) : Int)
section V56
variable {s : d_S} {t : Nat → Option p_C} {u v W H N m w : Nat} {st me so : Nat → Nat} {sg : Nat → Nat → Nat}
theorem v_lpl_le : ∀ j k x, v_lpl u W j k x ≤ x := by
  intro j
  induction j with
  | zero => intro k x; exact Nat.le_refl _
  | succ j ih =>
    intro k x
    refine Nat.le_trans (ih _ _) ?_
    split <;> omega
theorem v_lp_le : v_lp u W ≤ W := v_lpl_le _ _ _
theorem v_lpl_ (hu : u < 128) (hW : W ≤ 8) : ∀ (j k m : Nat), k + j = v_pc u 12 + 1 → j < m → ∀ x : Nat, x ≤ 8 → F_X12_leastPart_l4 m (u : Int) (W : Int) (x : Int) (k : Int) = some ((v_lpl u W j k x : Nat) : Int) := by
  have hp := v_pc_le (n := u) 12
  intro j
  induction j with
  | zero =>
    intro k m hk hm x hx
    obtain ⟨m, rfl⟩ : ∃ q, m = q + 1 := ⟨m - 1, by omega⟩
    show F_X12_leastPart_l4_b (F_X12_leastPart_l4 m) _ _ _ _ = _
    unfold F_X12_leastPart_l4_b
    rw [P_bits (by omega), d_b_t, if_pos (by omega)]
    rfl
  | succ j ih =>
    intro k m hk hm x hx
    obtain ⟨m, rfl⟩ : ∃ q, m = q + 1 := ⟨m - 1, by omega⟩
    have hl := v_ln_le (u := u) (p := k) W
    show F_X12_leastPart_l4_b (F_X12_leastPart_l4 m) _ _ _ _ = _
    unfold F_X12_leastPart_l4_b
    rw [P_bits (by omega), d_b_t, if_neg (by omega), P_lengthOf hu hW, d_b_t, d_w_id (x := (k : Int) + 1) (by omega) (by omega)]
    by_cases q : v_ln u k W < x
    · have hr := ih (k + 1) m (by omega) (by omega) (v_ln u k W) (by omega)
      rw [if_pos (by omega), d_b_t]
      simp only [v_lpl, if_pos q]
      exact hr
    · have hr := ih (k + 1) m (by omega) (by omega) x hx
      rw [if_neg (by omega)]
      simp only [v_lpl, if_neg q]
      exact hr
theorem P_leastPart (hu : u < 128) (hW : W ≤ 8) : F_X12_leastPart (u : Int) (W : Int) = some ((v_lp u W : Nat) : Int) := by
  unfold F_X12_leastPart
  have hp := v_pc_le (n := u) 12
  exact v_lpl_ hu hW (v_pc u 12 + 1) 0 d_N (by omega) (by rw [d_N_is]; omega) W hW
theorem v_nrm : ∀ (m m' : Nat) (a b c d e v : Int), F_X11_narrowest_l7 m a b c d e = some v → m ≤ m' → F_X11_narrowest_l7 m' a b c d e = some v := by
  intro m
  induction m with
  | zero => intro m' a b c d e v h; cases h
  | succ m ih =>
    intro m' a b c d e v h hm
    obtain ⟨q, rfl⟩ : ∃ q, m' = q + 1 := ⟨m' - 1, by omega⟩
    have h : F_X11_narrowest_l7_b (F_X11_narrowest_l7 m) a b c d e = some v := h
    show F_X11_narrowest_l7_b (F_X11_narrowest_l7 q) a b c d e = some v
    unfold F_X11_narrowest_l7_b at h ⊢
    by_cases q1 : e < b
    · rw [if_pos q1] at h ⊢
      by_cases q2 : d_and (d_shr a e) 1 = 1
      · rw [if_pos q2] at h ⊢
        unfold F_X11_narrowest_j34 at h ⊢
        rw [P_min, d_b_t] at h ⊢
        exact ih _ _ _ _ _ _ _ h (by omega)
      · rw [if_neg q2] at h ⊢
        by_cases q3 : e = d_w (b - 1)
        · rw [if_pos q3] at h ⊢
          unfold F_X11_narrowest_j34 at h ⊢
          rw [P_min, d_b_t] at h ⊢
          exact ih _ _ _ _ _ _ _ h (by omega)
        · rw [if_neg q3] at h ⊢
          exact ih _ _ _ _ _ _ _ h (by omega)
    · rw [if_neg q1] at h ⊢
      exact h
theorem v_nar_ : ∀ W : Nat, W < 9 → ∀ u : Nat, u < 128 → u < 2 ^ (W - 1) → 1 ≤ W → F_X11_narrowest_l7 9 (u : Int) (W : Int) (W : Int) 0 0 = some ((v_lp u W : Nat) : Int) := by decide +kernel
theorem P_narrowest (hu : u < 128) (hu2 : u < 2 ^ (W - 1)) (hW : 1 ≤ W ∧ W ≤ 8) : F_X11_narrowest (u : Int) (W : Int) = some ((v_lp u W : Nat) : Int) := by
  unfold F_X11_narrowest
  exact v_nrm 9 d_N _ _ _ _ _ _ (v_nar_ W (by omega) u hu hu2 hW.1) (by rw [d_N_is]; decide)
theorem v_bz_lt {P : Nat → Bool} {y : Nat} : ∀ n, v_bz P n = some y → y < n := by
  intro n
  induction n with
  | zero => intro h; cases h
  | succ n ih =>
    intro h
    simp only [v_bz] at h
    split at h
    · have := ih h; omega
    · split at h
      · cases h; omega
      · next q =>
        split at h
        · cases h; omega
        · have := ih (q.trans h); omega
theorem v_bz_P {P : Nat → Bool} {y : Nat} : ∀ n, v_bz P n = some y → P y = true := by
  intro n
  induction n with
  | zero => intro h; cases h
  | succ n ih =>
    intro h
    simp only [v_bz] at h
    split at h
    · exact ih h
    · next hp =>
      split at h
      · cases h; exact hp
      · next q =>
        split at h
        · cases h; exact hp
        · exact ih (q.trans h)
theorem v_bz_cg {P Q : Nat → Bool} : ∀ n, (∀ y, y < n → P y = Q y) → v_bz P n = v_bz Q n := by
  intro n
  induction n with
  | zero => intro _; rfl
  | succ n ih =>
    intro h
    simp only [v_bz]
    rw [h n (by omega), ih (fun y hy => h y (by omega))]
theorem v_bz_n {P : Nat → Bool} : ∀ n, (∀ y, y < n → P y = false) → v_bz P n = none := by
  intro n
  induction n with
  | zero => intro _; rfl
  | succ n ih =>
    intro h
    simp only [v_bz]
    rw [h n (by omega)]
    exact ih (fun y hy => h y (by omega))
theorem v_bz_f {P : Nat → Bool} {n : Nat} (h : P n = false) : v_bz P (n + 1) = v_bz P n := by
  simp only [v_bz, h]
theorem v_bz_0 {P : Nat → Bool} {n : Nat} (h : P n = true) (e : v_bz P n = none) : v_bz P (n + 1) = some n := by
  simp only [v_bz, h, e]
theorem v_bz_1 {P : Nat → Bool} {n y : Nat} (h : P n = true) (e : v_bz P n = some y) : v_bz P (n + 1) = if v_pc y 12 < v_pc n 12 then some n else some y := by
  simp only [v_bz, h, e]
theorem v_bl_lt {x y z : Nat} : v_bl x y < v_bl x z ↔ v_pc y 12 < v_pc z 12 := by
  unfold v_bl v_ac
  constructor
  · intro h
    have := Nat.lt_of_mul_lt_mul_left h
    omega
  · intro h
    exact Nat.mul_lt_mul_of_pos_left (by omega) (by omega)
theorem v_ud_s {P : Nat → Bool} {o : Option (Nat × Nat)} {x n : Nat} (h : P n = true) : v_ud o x (v_bz P (n + 1)) = if v_w1 (v_ud o x (v_bz P n)) < ((v_bl x n : Nat) : Int) then some (x, n) else v_ud o x (v_bz P n) := by
  cases e : v_bz P n with
  | none =>
    rw [v_bz_0 h e]
    cases o with
    | none =>
      show some (x, n) = _
      have : v_w1 (v_ud none x none) < ((v_bl x n : Nat) : Int) := by show (-1 : Int) < _; omega
      rw [if_pos this]
    | some p =>
      show (if v_bl p.1 p.2 < v_bl x n then some (x, n) else some p) = if ((v_bl p.1 p.2 : Nat) : Int) < ((v_bl x n : Nat) : Int) then some (x, n) else some p
      by_cases q : v_bl p.1 p.2 < v_bl x n
      · rw [if_pos q, if_pos (by omega)]
      · rw [if_neg q, if_neg (by omega)]
  | some y =>
    rw [v_bz_1 h e]
    have hb := v_bl_lt (x := x) (y := y) (z := n)
    cases o with
    | none =>
      have e2 : v_ud none x (some y) = some (x, y) := rfl
      rw [e2]
      show _ = if ((v_bl x y : Nat) : Int) < ((v_bl x n : Nat) : Int) then some (x, n) else some (x, y)
      by_cases q : v_pc y 12 < v_pc n 12
      · have := hb.2 q
        rw [if_pos q, if_pos (by omega)]; rfl
      · have := fun z => q (hb.1 z)
        rw [if_neg q, if_neg (by omega)]; rfl
    | some p =>
      have e2 : ∀ z, v_ud (some p) x (some z) = if v_bl p.1 p.2 < v_bl x z then some (x, z) else some p := fun _ => rfl
      by_cases q : v_pc y 12 < v_pc n 12
      · have q' := hb.2 q
        rw [if_pos q, e2, e2]
        by_cases q2 : v_bl p.1 p.2 < v_bl x y
        · rw [if_pos (by omega), if_pos q2]
          have : v_w1 (some (x, y)) < ((v_bl x n : Nat) : Int) := by show ((v_bl x y : Nat) : Int) < _; omega
          rw [if_pos this]
        · rw [if_neg q2]
          show _ = if ((v_bl p.1 p.2 : Nat) : Int) < _ then _ else _
          by_cases q3 : v_bl p.1 p.2 < v_bl x n
          · rw [if_pos q3, if_pos (by omega)]
          · rw [if_neg q3, if_neg (by omega)]
      · have q' := fun z => q (hb.1 z)
        rw [if_neg q, e2]
        by_cases q2 : v_bl p.1 p.2 < v_bl x y
        · rw [if_pos q2]
          have : ¬ v_w1 (some (x, y)) < ((v_bl x n : Nat) : Int) := by show ¬ ((v_bl x y : Nat) : Int) < _; omega
          rw [if_neg this]
        · rw [if_neg q2]
          have : ¬ v_w1 (some p) < ((v_bl x n : Nat) : Int) := by show ¬ ((v_bl p.1 p.2 : Nat) : Int) < _; omega
          rw [if_neg this]
theorem v_lm_0 {f : Nat → Nat} {S a : Nat} : ∀ k, a &&& v_lm f S k = 0 ↔ ∀ n, n < k → S / 2 ^ n % 2 = 1 → a &&& f n = 0 := by
  intro k
  induction k with
  | zero => exact ⟨fun _ n hn => absurd hn (by omega), fun _ => Nat.and_zero a⟩
  | succ k ih =>
    simp only [v_lm]
    by_cases q : S / 2 ^ k % 2 = 1
    · rw [if_pos q, Nat.and_or_distrib_left, Nat.or_eq_zero_iff, ih]
      constructor
      · rintro ⟨h1, h2⟩ n hn hS
        by_cases z : n = k
        · subst z; exact h2
        · exact h1 n (by omega) hS
      · intro h
        exact ⟨fun n hn hS => h n (by omega) hS, h k (by omega) q⟩
    · rw [if_neg q, ih]
      constructor
      · intro h n hn hS
        by_cases z : n = k
        · subst z; exact absurd hS q
        · exact h n (by omega) hS
      · intro h n hn hS
        exact h n (by omega) hS
theorem v_nn {a b : Nat} (ha : a < 4096) : a &&& (b ^^^ 4294967295) = 0 ↔ a &&& b = a := by
  have h32 : ∀ i, Nat.testBit 4294967295 i = decide (i < 32) := fun i => Nat.testBit_two_pow_sub_one (n := 32) (i := i)
  have h12 : ∀ i, 12 ≤ i → a.testBit i = false := fun i hi => Nat.testBit_lt_two_pow (Nat.lt_of_lt_of_le ha (Nat.pow_le_pow_right (n := 2) (by decide) hi))
  constructor
  · intro h
    refine Nat.eq_of_testBit_eq fun i => ?_
    have e := congrArg (fun z => Nat.testBit z i) h
    simp only [Nat.testBit_and, Nat.testBit_xor, h32, Nat.zero_testBit] at e
    rw [Nat.testBit_and]
    by_cases q : i < 12
    · rw [show decide (i < 32) = true from decide_eq_true (by omega)] at e
      cases h1 : a.testBit i
      · rfl
      · rw [h1] at e
        cases h2 : b.testBit i
        · rw [h2] at e; exact absurd e (by decide)
        · rfl
    · rw [h12 i (by omega)]; rfl
  · intro h
    refine Nat.eq_of_testBit_eq fun i => ?_
    have e := congrArg (fun z => Nat.testBit z i) h
    simp only [Nat.testBit_and] at e
    simp only [Nat.testBit_and, Nat.testBit_xor, h32, Nat.zero_testBit]
    by_cases q : i < 12
    · rw [show decide (i < 32) = true from decide_eq_true (by omega)]
      cases h1 : a.testBit i
      · rfl
      · rw [h1] at e
        cases h2 : b.testBit i
        · rw [h2] at e; exact absurd e (by decide)
        · rfl
    · rw [h12 i (by omega)]; rfl
theorem v_andn {a b : Nat} (ha : a < 4096) (hb : b < 4096) : d_and (a : Int) (d_xor (b : Int) (-1)) = 0 ↔ a &&& b = a := by
  rw [← v_nn ha]
  have hlt : a &&& (b ^^^ 4294967295) < 4096 := Nat.lt_of_le_of_lt Nat.and_le_left ha
  have e : d_and (a : Int) (d_xor (b : Int) (-1)) = ((a &&& (b ^^^ 4294967295) : Nat) : Int) := by
    unfold d_and d_xor
    rw [Int32.ofInt_toInt, v_oi, v_oi]
    refine v_ofb (by omega) ?_
    rw [Int32.toBitVec_and, Int32.toBitVec_xor, BitVec.toNat_and, BitVec.toNat_xor, v_bn (by omega), v_bn (by omega)]
    rfl
  rw [e]
  omega
theorem v_alw {S x y : Nat} (hS : S < 2 ^ N) : S &&& v_sb (v_un sg x y) N = S ↔ x &&& v_lm (fun n => v_mk (sg n 1) (sg n 3)) S N = 0 ∧ y &&& v_lm (fun n => v_mk (sg n 2) (sg n 4)) S N = 0 := by
  rw [v_lm_0, v_lm_0]
  have hb : ∀ n, S.testBit n = true ↔ S / 2 ^ n % 2 = 1 := fun n => by rw [Nat.testBit_eq_decide_div_mod_eq]; exact decide_eq_true_iff
  have h1 : S &&& v_sb (v_un sg x y) N = S ↔ ∀ n, n < N → S / 2 ^ n % 2 = 1 → v_un sg x y n := by
    constructor
    · intro h n hn hs
      have e := congrArg (fun z => Nat.testBit z n) h
      simp only [Nat.testBit_and, v_sb_tb] at e
      rw [(hb n).2 hs] at e
      have := of_decide_eq_true ((Bool.true_and _).symm.trans e)
      exact this.2
    · intro h
      refine Nat.eq_of_testBit_eq fun n => ?_
      rw [Nat.testBit_and, v_sb_tb]
      cases q : S.testBit n
      · rfl
      · have hn : n < N := by
          by_cases z : n < N
          · exact z
          · rw [Nat.testBit_lt_two_pow (Nat.lt_of_lt_of_le hS (Nat.pow_le_pow_right (by decide) (by omega)))] at q
            cases q
        rw [decide_eq_true (⟨hn, h n hn ((hb n).1 q)⟩ : n < N ∧ v_un sg x y n)]; rfl
  rw [h1]
  exact ⟨fun h => ⟨fun n hn hs => (h n hn hs).1, fun n hn hs => (h n hn hs).2⟩, fun h n hn hs => ⟨h.1 n hn hs, h.2 n hn hs⟩⟩
end V56
def v_pkz (sh H k y : Nat) : Bool := Nat.beq (y &&& sh) 0 && Nat.ble k (v_lp y H)
def v_pq (sh H m w y : Nat) : Bool := Nat.beq (y &&& sh) 0 && Nat.ble m (w * v_lp y H)
def v_nn2 (shU shL W H m x n : Nat) : Option Nat := if x &&& shU = 0 then v_bz (v_pq shL H m (v_lp x W)) n else none
def v_wsz (shU shL W H m : Nat) : Nat → Option (Nat × Nat)
  | 0 => none
  | n + 1 => v_ud (v_wsz shU shL W H m n) n (v_nn2 shU shL W H m n (2 ^ (H - 1)))
def v_w2 : Option (Nat × Nat) → Int
  | none => -1
  | some p => (p.1 : Int)
def v_w3 : Option (Nat × Nat) → Int
  | none => -1
  | some p => (p.2 : Int)
def v_r2 : Option (Nat × Nat) → Int
  | none => 0
  | some p => (p.1 : Int)
def v_r3 : Option (Nat × Nat) → Int
  | none => 0
  | some p => (p.2 : Int)
section V57
variable {s : d_S} {t : Nat → Option p_C} {u v W H N : Nat} {st me so : Nat → Nat} {sg : Nat → Nat → Nat}
theorem v_pkz_t {sh k y : Nat} (h1 : y &&& sh = 0) (h2 : k ≤ v_lp y H) : v_pkz sh H k y = true := by
  unfold v_pkz
  rw [v_beq h1, Nat.ble_eq_true_of_le h2]; rfl
theorem v_pkz_f {sh k y : Nat} (h : ¬ (y &&& sh = 0 ∧ k ≤ v_lp y H)) : v_pkz sh H k y = false := by
  cases e : v_pkz sh H k y
  · rfl
  · unfold v_pkz at e
    rw [Bool.and_eq_true] at e
    exact absurd ⟨Nat.eq_of_beq_eq_true e.1, Nat.le_of_ble_eq_true e.2⟩ h
theorem v_pq_t {sh m w y : Nat} (h1 : y &&& sh = 0) (h2 : m ≤ w * v_lp y H) : v_pq sh H m w y = true := by
  unfold v_pq
  rw [v_beq h1, Nat.ble_eq_true_of_le h2]; rfl
theorem v_pq_f {sh m w y : Nat} (h : ¬ (y &&& sh = 0 ∧ m ≤ w * v_lp y H)) : v_pq sh H m w y = false := by
  cases e : v_pq sh H m w y
  · rfl
  · unfold v_pq at e
    rw [Bool.and_eq_true] at e
    exact absurd ⟨Nat.eq_of_beq_eq_true e.1, Nat.le_of_ble_eq_true e.2⟩ h
theorem v_fill63 : ∀ (j k m : Nat), k + j = 9 → j < m → ∀ s : d_S, (∀ i, i < k → s.1 63 i = -1) → ∃ s', F_J7_fill_53178_63_l5 m (-1) (k : Int) 9 s = some s' ∧ v_fr [63] s s' ∧ ∀ i, i < 9 → s'.1 63 i = -1 := by
  intro j
  induction j with
  | zero =>
    intro k m hk hm s h
    obtain ⟨m, rfl⟩ : ∃ q, m = q + 1 := ⟨m - 1, by omega⟩
    refine ⟨s, ?_, v_fr.rfl, fun i hi => h i (by omega)⟩
    show F_J7_fill_53178_63_l5_b (F_J7_fill_53178_63_l5 m) _ _ _ _ = _
    unfold F_J7_fill_53178_63_l5_b
    rw [if_neg (by omega)]
  | succ j ih =>
    intro k m hk hm s h
    obtain ⟨m, rfl⟩ : ∃ q, m = q + 1 := ⟨m - 1, by omega⟩
    obtain ⟨s', g1, g2, g3⟩ := ih (k + 1) m (by omega) (by omega) (d_si s 63 k (-1)) (fun i hi => by
      rw [d_si_i]
      by_cases q : i = k
      · subst q; exact d_u_t
      · rw [d_u_n q]; exact h i (by omega))
    refine ⟨s', ?_, (v_fr.si (by decide)).trans g2, g3⟩
    show F_J7_fill_53178_63_l5_b (F_J7_fill_53178_63_l5 m) _ _ _ _ = _
    unfold F_J7_fill_53178_63_l5_b
    rw [if_pos (by omega), d_g_t (by omega), d_l_t, Int.toNat_natCast, d_w_id (x := (k : Int) + 1) (by omega) (by omega)]
    exact g1
theorem v_lev1 {K : Int → Int → d_S → Option d_S} {sh n low : Nat} (hn : n < 128) (hl : low = if n &&& sh = 0 then v_lp n H else 0) : ∀ (j k m : Nat), 1 ≤ k → k + j = 9 → j < m → ∀ s : d_S, (∀ i, 1 ≤ i → i < 9 → s.1 63 i = v_on (v_bz (v_pkz sh H i) (if i < k then n + 1 else n))) → ∃ s', F_X11_findLevelSets_l50 K m (sh : Int) (n : Int) (low : Int) (k : Int) s = K (sh : Int) (n : Int) s' ∧ v_fr [63] s s' ∧ ∀ i, 1 ≤ i → i < 9 → s'.1 63 i = v_on (v_bz (v_pkz sh H i) (n + 1)) := by
  intro j
  induction j with
  | zero =>
    intro k m h1 hk hm s h
    obtain ⟨m, rfl⟩ : ∃ q, m = q + 1 := ⟨m - 1, by omega⟩
    refine ⟨s, ?_, v_fr.rfl, fun i i1 i2 => by rw [h i i1 i2, if_pos (by omega)]⟩
    show F_X11_findLevelSets_l50_b K (F_X11_findLevelSets_l50 K m) _ _ _ _ _ = _
    unfold F_X11_findLevelSets_l50_b
    by_cases q : low < k
    · rw [if_pos (by omega)]
    · rw [if_neg (by omega), if_neg (by omega)]
  | succ j ih =>
    intro k m h1 hk hm s h
    obtain ⟨m, rfl⟩ : ∃ q, m = q + 1 := ⟨m - 1, by omega⟩
    by_cases q : low < k
    · refine ⟨s, ?_, v_fr.rfl, fun i i1 i2 => ?_⟩
      · show F_X11_findLevelSets_l50_b K (F_X11_findLevelSets_l50 K m) _ _ _ _ _ = _
        unfold F_X11_findLevelSets_l50_b
        rw [if_pos (by omega)]
      · rw [h i i1 i2]
        by_cases z : i < k
        · rw [if_pos z]
        · rw [if_neg z, v_bz_f]
          refine v_pkz_f fun hh => ?_
          rw [if_pos hh.1] at hl
          omega
    · have hz : n &&& sh = 0 := by
        by_cases e : n &&& sh = 0
        · exact e
        · rw [if_neg e] at hl; omega
      rw [if_pos hz] at hl
      have ht : v_pkz sh H k n = true := v_pkz_t hz (by omega)
      have hk0 := h k h1 (by omega)
      rw [if_neg (by omega)] at hk0
      have go : v_on (v_bz (v_pkz sh H k) (n + 1)) = (n : Int) → ∃ s', F_X11_findLevelSets_j94 (F_X11_findLevelSets_l50 K m) (sh : Int) (n : Int) (low : Int) (k : Int) s = K (sh : Int) (n : Int) s' ∧ v_fr [63] s s' ∧ ∀ i, 1 ≤ i → i < 9 → s'.1 63 i = v_on (v_bz (v_pkz sh H i) (n + 1)) := fun e => by
        obtain ⟨s', g1, g2, g3⟩ := ih (k + 1) m (by omega) (by omega) (by omega) (d_si s 63 k (n : Int)) (fun i i1 i2 => by
          rw [d_si_i]
          by_cases z : i = k
          · subst z; rw [d_u_t, if_pos (by omega), e]
          · rw [d_u_n z, h i i1 i2]
            by_cases z2 : i < k
            · rw [if_pos z2, if_pos (by omega)]
            · rw [if_neg z2, if_neg (by omega)])
        refine ⟨s', ?_, (v_fr.si (by decide)).trans g2, g3⟩
        unfold F_X11_findLevelSets_j94
        rw [d_g_t (by omega), d_l_t, Int.toNat_natCast, d_w_id (x := (k : Int) + 1) (by omega) (by omega)]
        exact g1
      have no : v_on (v_bz (v_pkz sh H k) (n + 1)) = s.1 63 k → ∃ s', F_X11_findLevelSets_l50 K m (sh : Int) (n : Int) (low : Int) ((k + 1 : Nat) : Int) s = K (sh : Int) (n : Int) s' ∧ v_fr [63] s s' ∧ ∀ i, 1 ≤ i → i < 9 → s'.1 63 i = v_on (v_bz (v_pkz sh H i) (n + 1)) := fun e => by
        refine ih (k + 1) m (by omega) (by omega) (by omega) s (fun i i1 i2 => ?_)
        by_cases z : i = k
        · subst z; rw [if_pos (by omega), e]
        · rw [h i i1 i2]
          by_cases z2 : i < k
          · rw [if_pos z2, if_pos (by omega)]
          · rw [if_neg z2, if_neg (by omega)]
      show ∃ s', F_X11_findLevelSets_l50_b K (F_X11_findLevelSets_l50 K m) _ _ _ _ _ = _ ∧ _
      unfold F_X11_findLevelSets_l50_b
      rw [if_neg (by omega), if_pos (by omega), d_g_t (by omega), Int.toNat_natCast]
      cases e : v_bz (v_pkz sh H k) n with
      | none =>
        rw [e] at hk0
        have hk1 : s.1 63 k = -1 := hk0
        rw [if_pos hk1]
        exact go (by rw [v_bz_0 ht e]; rfl)
      | some y =>
        have hy := v_bz_lt n e
        rw [e] at hk0
        have hk1 : s.1 63 k = (y : Int) := hk0
        rw [if_neg (by omega), P_bitCount (by omega), d_b_t, d_g_t (by omega), hk1, P_bitCount (by omega), d_b_t]
        by_cases z : v_pc y 12 < v_pc n 12
        · rw [if_pos (by omega)]
          exact go (by rw [v_bz_1 ht e, if_pos z]; rfl)
        · rw [if_neg (by omega), d_w_id (x := (k : Int) + 1) (by omega) (by omega)]
          exact no (by rw [v_bz_1 ht e, if_neg z, hk1]; rfl)
theorem v_2pH (hH : 1 ≤ H ∧ H ≤ 8) : 2 ^ (H - 1) ≤ 128 := Nat.pow_le_pow_right (n := 2) (i := H - 1) (j := 7) (by decide) (by omega)
theorem v_1shH (hH : 1 ≤ H ∧ H ≤ 8) : d_shl 1 ((H : Int) - 1) = ((2 ^ (H - 1) : Nat) : Int) := by
  rw [show (H : Int) - 1 = ((H - 1 : Nat) : Int) by omega]
  exact v_1shl (by omega)
theorem v_lev2 {sh : Nat} (hH : 1 ≤ H ∧ H ≤ 8) (hsh : sh < 4096) : ∀ (j n m : Nat), n + j = 2 ^ (H - 1) → j < m → ∀ s : d_S, s.1 3 1 = (H : Int) → (∀ i, 1 ≤ i → i < 9 → s.1 63 i = v_on (v_bz (v_pkz sh H i) n)) → ∃ s', F_X11_findLevelSets_l10 m (sh : Int) (n : Int) s = some s' ∧ v_fr [63] s s' ∧ ∀ i, 1 ≤ i → i < 9 → s'.1 63 i = v_on (v_bz (v_pkz sh H i) (2 ^ (H - 1))) := by
  have hp := v_2pH hH
  intro j
  induction j with
  | zero =>
    intro n m hn hm s h3 h
    obtain ⟨m, rfl⟩ : ∃ q, m = q + 1 := ⟨m - 1, by omega⟩
    have hn : n = 2 ^ (H - 1) := by omega
    subst hn
    refine ⟨s, ?_, v_fr.rfl, h⟩
    show F_X11_findLevelSets_l10_b (F_X11_findLevelSets_l10 m) _ _ _ = _
    unfold F_X11_findLevelSets_l10_b
    rw [h3, v_1shH hH, if_neg (by omega)]
  | succ j ih =>
    intro n m hn hm s h3 h
    obtain ⟨m, rfl⟩ : ∃ q, m = q + 1 := ⟨m - 1, by omega⟩
    have hlp := v_lp_le (u := n) (W := H)
    have one : ∀ low : Nat, (low = if n &&& sh = 0 then v_lp n H else 0) → ∃ s', F_X11_findLevelSets_l50 (fun x1 x2 s => F_X11_findLevelSets_l10 m x1 (d_w (x2 + 1)) s) d_N (sh : Int) (n : Int) (low : Int) 1 s = some s' ∧ v_fr [63] s s' ∧ ∀ i, 1 ≤ i → i < 9 → s'.1 63 i = v_on (v_bz (v_pkz sh H i) (2 ^ (H - 1))) := fun low hl => by
      obtain ⟨s1, a1, a2, a3⟩ := v_lev1 (K := fun x1 x2 s => F_X11_findLevelSets_l10 m x1 (d_w (x2 + 1)) s) (H := H) (by omega) hl 8 1 d_N (by decide) rfl (by rw [d_N_is]; decide) s (fun i i1 i2 => by rw [if_neg (by omega)]; exact h i i1 i2)
      obtain ⟨s2, b1, b2, b3⟩ := ih (n + 1) m (by omega) (by omega) s1 (by rw [a2.1 3 (by decide)]; exact h3) a3
      refine ⟨s2, ?_, a2.trans b2, b3⟩
      refine a1.trans ?_
      show F_X11_findLevelSets_l10 m (sh : Int) (d_w ((n : Int) + 1)) s1 = _
      rw [d_w_id (by omega) (by omega)]
      exact b1
    show ∃ s', F_X11_findLevelSets_l10_b (F_X11_findLevelSets_l10 m) _ _ _ = _ ∧ _
    unfold F_X11_findLevelSets_l10_b
    rw [h3, v_1shH hH, if_pos (by omega), v_and (by omega) (by omega)]
    by_cases q : n &&& sh = 0
    · rw [if_pos (by omega), P_narrowest (by omega) (by omega) hH, d_b_t]
      exact one _ (by rw [if_pos q])
    · rw [if_neg (by omega)]
      exact one 0 (by rw [if_neg q])
theorem P_findLevel {sh : Nat} (hH : 1 ≤ H ∧ H ≤ 8) (hsh : sh < 4096) (h3 : s.1 3 1 = (H : Int)) : ∃ s', F_X11_findLevelSets s (sh : Int) = some s' ∧ v_fr [63] s s' ∧ ∀ i, 1 ≤ i → i < 9 → s'.1 63 i = v_on (v_bz (v_pkz sh H i) (2 ^ (H - 1))) := by
  have hp := v_2pH hH
  obtain ⟨s1, a1, a2, a3⟩ := v_fill63 9 0 d_N rfl (by rw [d_N_is]; decide) s (fun i hi => absurd hi (Nat.not_lt_zero i))
  obtain ⟨s2, b1, b2, b3⟩ := v_lev2 (sh := sh) hH hsh (2 ^ (H - 1)) 0 d_N (by omega) (by rw [d_N_is]; omega) s1 (by rw [a2.1 3 (by decide)]; exact h3) (fun i i1 i2 => a3 i i2)
  refine ⟨s2, ?_, a2.trans b2, b3⟩
  unfold F_X11_findLevelSets
  have a1' : F_J7_fill_53178_63 s (-1) = some s1 := a1
  rw [a1', d_b_t]
  exact b1
theorem P_levelFor {sh m w : Nat} (hT : ∀ i, 1 ≤ i → i < 9 → s.1 63 i = v_on (v_bz (v_pkz sh H i) (2 ^ (H - 1)))) (hH : H ≤ 8) (hm : 1 ≤ m ∧ m ≤ 64) (hw : w ≤ 8) : F_X11_levelSetFor s (w : Int) (m : Int) = some (v_on (v_bz (v_pq sh H m w) (2 ^ (H - 1)))) := by
  unfold F_X11_levelSetFor
  rw [show d_w (9 - 1) = 8 from rfl]
  by_cases q : w = 0
  · subst q
    rw [if_neg (by omega), P_within, d_b_t, v_bf (by omega), if_pos rfl, v_bz_n _ (fun y _ => v_pq_f (fun hh => by have := hh.2; rw [Nat.zero_mul] at this; omega))]
    rfl
  · have e : (((m : Int) + (w : Int)) - 1) = ((m + w - 1 : Nat) : Int) := by omega
    have hk : ∀ l : Nat, (m + w - 1) / w ≤ l ↔ m ≤ w * l := fun l => by
      rw [Nat.div_le_iff_le_mul_add_pred (by omega)]
      omega
    have h1 : 1 ≤ (m + w - 1) / w := (Nat.le_div_iff_mul_le (by omega)).2 (by omega)
    rw [if_pos (by omega), d_g_t (by omega), d_l_t, e, v_div (by omega) (by omega), P_within, d_b_t]
    by_cases q2 : (m + w - 1) / w ≤ 8
    · rw [v_bt (by omega), if_neg (by decide), d_g_t (by omega), Int.toNat_natCast, hT _ h1 (by omega), v_bz_cg (Q := v_pq sh H m w)]
      intro y _
      by_cases z : y &&& sh = 0 ∧ (m + w - 1) / w ≤ v_lp y H
      · rw [v_pkz_t z.1 z.2, v_pq_t z.1 ((hk _).1 z.2)]
      · rw [v_pkz_f z, v_pq_f (fun hh => z ⟨hh.1, (hk _).2 hh.2⟩)]
    · rw [v_bf (by omega), if_pos rfl, v_bz_n _ (fun y _ => v_pq_f (fun hh => q2 ((hk 8).2 (Nat.le_trans hh.2 (Nat.mul_le_mul_left w (Nat.le_trans v_lp_le hH))))))]
      rfl
theorem v_w1_ge (o : Option (Nat × Nat)) : -1 ≤ v_w1 o := by
  cases o with
  | none => exact Int.le_refl _
  | some p => show -1 ≤ ((v_bl p.1 p.2 : Nat) : Int); omega
theorem v_blb {x y : Nat} : v_bl x y ≤ 169 := Nat.mul_le_mul (Nat.succ_le_succ (v_pc_le 12)) (Nat.succ_le_succ (v_pc_le 12))
theorem v_sawC {K : Int → Int → Int → Int → d_S → Option (Int × d_S)} {shU shL m : Nat} {y : Int} (hW : 1 ≤ W ∧ W ≤ 8) (hH : 1 ≤ H ∧ H ≤ 8) (hU : shU < 4096) (hm : 1 ≤ m ∧ m ≤ 64) (h30 : s.1 3 0 = (W : Int)) (hT : ∀ i, 1 ≤ i → i < 9 → s.1 63 i = v_on (v_bz (v_pkz shL H i) (2 ^ (H - 1)))) : ∀ (j n f : Nat), n + j = 2 ^ (W - 1) → j < f → F_X11_sawing_l82 K f (m : Int) y (shU : Int) (v_w1 (v_wsz shU shL W H m n)) (v_w2 (v_wsz shU shL W H m n)) (v_w3 (v_wsz shU shL W H m n)) (n : Int) s = K y (v_w1 (v_wsz shU shL W H m (2 ^ (W - 1)))) (v_w2 (v_wsz shU shL W H m (2 ^ (W - 1)))) (v_w3 (v_wsz shU shL W H m (2 ^ (W - 1)))) s := by
  have hpW := v_2pH hW
  have hpH := v_2pH hH
  intro j
  induction j with
  | zero =>
    intro n f hn hf
    obtain ⟨f, rfl⟩ : ∃ q, f = q + 1 := ⟨f - 1, by omega⟩
    have hn : n = 2 ^ (W - 1) := by omega
    subst hn
    show F_X11_sawing_l82_b K (F_X11_sawing_l82 K f) _ _ _ _ _ _ _ _ = _
    unfold F_X11_sawing_l82_b
    rw [h30, v_1shH hW, if_neg (by omega)]
  | succ j ih =>
    intro n f hn hf
    obtain ⟨f, rfl⟩ : ∃ q, f = q + 1 := ⟨f - 1, by omega⟩
    have hr := ih (n + 1) f (by omega) (by omega)
    have hlp := v_lp_le (u := n) (W := W)
    have h1 := v_w1_ge (v_wsz shU shL W H m n)
    have fin : ∀ b : Option Nat, b = v_nn2 shU shL W H m n (2 ^ (H - 1)) → F_X11_sawing_j127 (F_X11_sawing_l82 K f) (m : Int) y (shU : Int) (v_w1 (v_wsz shU shL W H m n)) (v_w2 (v_wsz shU shL W H m n)) (v_w3 (v_wsz shU shL W H m n)) (n : Int) (v_on b) s = K y (v_w1 (v_wsz shU shL W H m (2 ^ (W - 1)))) (v_w2 (v_wsz shU shL W H m (2 ^ (W - 1)))) (v_w3 (v_wsz shU shL W H m (2 ^ (W - 1)))) s := fun b hb => by
      have hr2 := hr
      simp only [v_wsz] at hr2
      rw [← hb] at hr2
      unfold F_X11_sawing_j127 F_X11_sawing_j154
      cases b with
      | none =>
        rw [if_pos (show v_on none = -1 from rfl), if_neg (by omega), d_w_id (x := (n : Int) + 1) (by omega) (by omega)]
        exact hr2
      | some z =>
        have hz : z < 128 := by
          unfold v_nn2 at hb
          split at hb
          · have := v_bz_lt _ hb.symm; omega
          · cases hb
        have e0 : v_on (some z) = (z : Int) := rfl
        have hb1 := v_blb (x := n) (y := z)
        have e1 : ((v_pc n 12 : Nat) : Int) + 1 = ((v_ac n : Nat) : Int) := rfl
        have e2 : ((v_pc z 12 : Nat) : Int) + 1 = ((v_ac z : Nat) : Int) := rfl
        have e3 : ((v_ac n : Nat) : Int) * ((v_ac z : Nat) : Int) = ((v_bl n z : Nat) : Int) := by rw [← Int.natCast_mul]; rfl
        rw [e0, if_neg (by omega), P_bitCount (by omega), d_b_t, P_bitCount (by omega), d_b_t, e1, e2, e3, d_w_id (x := ((v_bl n z : Nat) : Int)) (by omega) (by omega), d_w_id (x := (n : Int) + 1) (by omega) (by omega)]
        cases e : v_wsz shU shL W H m n with
        | none =>
          rw [e] at hr2
          have : v_w1 none < ((v_bl n z : Nat) : Int) := by show (-1 : Int) < _; omega
          rw [if_pos this]
          exact hr2
        | some p =>
          rw [e] at hr2
          have e4 : v_ud (some p) n (some z) = if v_bl p.1 p.2 < v_bl n z then some (n, z) else some p := rfl
          rw [e4] at hr2
          by_cases q : v_bl p.1 p.2 < v_bl n z
          · rw [if_pos q] at hr2
            have : v_w1 (some p) < ((v_bl n z : Nat) : Int) := by show ((v_bl p.1 p.2 : Nat) : Int) < _; omega
            rw [if_pos this]
            exact hr2
          · rw [if_neg q] at hr2
            have : ¬ v_w1 (some p) < ((v_bl n z : Nat) : Int) := by show ¬ ((v_bl p.1 p.2 : Nat) : Int) < _; omega
            rw [if_neg this]
            exact hr2
    show F_X11_sawing_l82_b K (F_X11_sawing_l82 K f) _ _ _ _ _ _ _ _ = _
    unfold F_X11_sawing_l82_b
    rw [h30, v_1shH hW, if_pos (by omega), v_and (by omega) (by omega)]
    by_cases q : n &&& shU = 0
    · rw [if_pos (by omega), P_narrowest (by omega) (by omega) hW, d_b_t, P_levelFor hT hH.2 hm (by omega), d_b_t]
      exact fin _ (by unfold v_nn2; rw [if_pos q])
    · rw [if_neg (by omega)]
      exact fin none (by unfold v_nn2; rw [if_neg q])
end V57

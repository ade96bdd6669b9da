def v_cn (so : Nat → Nat) : Nat → Nat
  | 0 => 0
  | k + 1 => if v_cn so k < 16 ∧ so k = 0 then v_cn so k + 1 else v_cn so k
def v_pp (g : Nat → Int) (so : Nat → Nat) : Nat → Nat → Int
  | 0 => fun _ => 0
  | k + 1 => if v_cn so k < 16 ∧ so k = 0 then d_u (v_pp g so k) (v_cn so k) (g k) else v_pp g so k
section V52
variable {s s1 s2 : d_S} {t : Nat → Option p_C} {L : v_LR} {u v W H b N n : Nat} {st me so : Nat → Nat} {sg : Nat → Nat → Nat} {day heat x : Int} {g : Nat → Int}
theorem v_cn_le : ∀ k, v_cn so k ≤ 16 := by
  intro k
  induction k with
  | zero => exact Nat.zero_le 16
  | succ k ih => simp only [v_cn]; split <;> omega
theorem v_cn_16 {k : Nat} (h : ¬ v_cn so k < 16) : ∀ j, v_cn so (k + j) = v_cn so k ∧ v_pp g so (k + j) = v_pp g so k := by
  intro j
  induction j with
  | zero => exact ⟨rfl, rfl⟩
  | succ j ih =>
    rw [← Nat.add_assoc]
    simp only [v_cn, v_pp]
    rw [ih.1, if_neg (fun e => h e.1), if_neg (fun e => h e.1)]
    exact ⟨rfl, ih.2⟩
theorem v_pp_b (hg : ∀ k, 0 ≤ g k ∧ g k ≤ 9999) : ∀ k i, 0 ≤ v_pp g so k i ∧ v_pp g so k i ≤ 9999 := by
  intro k
  induction k with
  | zero => intro i; show (0 : Int) ≤ 0 ∧ (0 : Int) ≤ 9999; omega
  | succ k ih =>
    intro i
    simp only [v_pp]
    split
    · by_cases q : i = v_cn so k
      · rw [q, d_u_t]; exact hg k
      · rw [d_u_n q]; exact ih i
    · exact ih i
theorem v_slC {K : Int → Int → d_S → Option (Int × d_S)} {y : Int} : ∀ (j k m : Nat), k + j = v_bl u v → j < m → ∀ s, v_rdy t s L u v W H st me so N sg day heat x → (∀ i, i < v_cn so k → s.1 61 i = v_pp (v_pr1 L sg u v W H N day heat st me) so k i) → ∃ s', F_X11_sellers_l4 t K m y ((v_cn so k : Nat) : Int) (k : Int) s = K y ((v_cn so (v_bl u v) : Nat) : Int) s' ∧ v_rdy t s' L u v W H st me so N sg day heat x ∧ (∀ i, i < v_cn so (v_bl u v) → s'.1 61 i = v_pp (v_pr1 L sg u v W H N day heat st me) so (v_bl u v) i) ∧ (∀ a, a ≠ 47 → a ≠ 49 → a ≠ 50 → a ≠ 61 → s'.1 a = s.1 a) ∧ ∀ a, a ≠ 47 → s'.2.1 a = s.2.1 a := by
  intro j
  induction j with
  | zero =>
    intro k m hk hm s h hp
    obtain ⟨m, rfl⟩ : ∃ q, m = q + 1 := ⟨m - 1, by omega⟩
    have hk : k = v_bl u v := by omega
    subst hk
    refine ⟨s, ?_, h, hp, fun _ _ _ _ _ => rfl, fun _ _ => rfl⟩
    show F_X11_sellers_l4_b t K (F_X11_sellers_l4 t K m) _ _ _ s = _
    unfold F_X11_sellers_l4_b
    rw [h.2.1.1, if_neg (by omega)]
  | succ j ih =>
    intro k m hk hm s h hp
    obtain ⟨m, rfl⟩ : ∃ q, m = q + 1 := ⟨m - 1, by omega⟩
    have hkb : k < v_bl u v := by omega
    have h64 := h.2.1.2.2.1
    have hle := v_cn_le (so := so) k
    show ∃ s', F_X11_sellers_l4_b t K (F_X11_sellers_l4 t K m) _ _ _ s = _ ∧ _
    unfold F_X11_sellers_l4_b
    rw [h.2.1.1, if_pos (by omega)]
    by_cases q : v_cn so k < 16
    rotate_left
    · have e := v_cn_16 (g := v_pr1 L sg u v W H N day heat st me) q (v_bl u v - k)
      rw [show k + (v_bl u v - k) = v_bl u v by omega] at e
      rw [if_neg (by omega), e.1, e.2]
      exact ⟨s, rfl, h, hp, fun _ _ _ _ _ => rfl, fun _ _ => rfl⟩
    rw [if_pos (by omega), P_isSoldC h.1 (by omega), d_b_t, d_w_id (x := (k : Int) + 1) (by omega) (by omega)]
    by_cases q2 : so k = 0
    rotate_left
    · rw [if_neg (by omega)]
      have e1 : v_cn so (k + 1) = v_cn so k := by simp only [v_cn]; rw [if_neg (fun e => q2 e.2)]
      have e2 : v_pp (v_pr1 L sg u v W H N day heat st me) so (k + 1) = v_pp (v_pr1 L sg u v W H N day heat st me) so k := by simp only [v_pp]; rw [if_neg (fun e => q2 e.2)]
      have := ih (k + 1) m (by omega) (by omega) s h (by rw [e1, e2]; exact hp)
      rw [e1] at this
      exact this
    have e1 : v_cn so (k + 1) = v_cn so k + 1 := by simp only [v_cn]; rw [if_pos ⟨q, q2⟩]
    have e2 : v_pp (v_pr1 L sg u v W H N day heat st me) so (k + 1) = d_u (v_pp (v_pr1 L sg u v W H N day heat st me) so k) (v_cn so k) (v_pr1 L sg u v W H N day heat st me k) := by simp only [v_pp]; rw [if_pos ⟨q, q2⟩]
    obtain ⟨s2, r1, r2, r3⟩ := h.ask hkb
    obtain ⟨s', c1, c2, c3, c4, c5⟩ := ih (k + 1) m (by omega) (by omega) (d_si s2 61 (v_cn so k) (v_pr1 L sg u v W H N day heat st me k)) (r3.fr (fun a ha => d_si_n (by omega)) rfl (by rw [d_si_n (by decide)]; exact r3.2.2.2.2.1)) (fun i hi => by
      rw [e2, d_si_i]
      by_cases z : i = v_cn so k
      · rw [z, d_u_t, d_u_t]
      · rw [d_u_n z, d_u_n z, r2.1 61 (by decide) (by decide) (by decide)]; exact hp i (by omega))
    refine ⟨s', ?_, c2, c3, fun a h1 h2 h3 h4 => by rw [c4 a h1 h2 h3 h4, d_si_n h4]; exact r2.1 a h1 h2 h3, fun a ha => (c5 a ha).trans (r2.2.1 a ha)⟩
    rw [e1] at c1
    rw [if_pos (by omega), r1, d_b2_t, d_g_t (by omega), Int.toNat_natCast, d_l_t, d_w_id (by omega) (by omega)]
    exact c1
def v_78 (s s' : d_S) : Prop := (∀ a, a ≠ 71 → a ≠ 78 → s'.1 a = s.1 a) ∧ s'.2.1 = s.2.1
theorem v_slR {K : Int → Int → d_S → Option (Int × d_S)} {y : Int} : ∀ (j k m : Nat), k + j = v_bl u v → j < m → ∀ s, v_rdr s L u v W H st me so N sg day heat → (∀ i, i < v_cn so k → s.1 78 i = v_pp (v_pr1 L sg u v W H N day heat st me) so k i) → ∃ s', F_X12_sellers_l4 K m y ((v_cn so k : Nat) : Int) (k : Int) s = K y ((v_cn so (v_bl u v) : Nat) : Int) s' ∧ v_rdr s' L u v W H st me so N sg day heat ∧ (∀ i, i < v_cn so (v_bl u v) → s'.1 78 i = v_pp (v_pr1 L sg u v W H N day heat st me) so (v_bl u v) i) ∧ v_78 s s' := by
  intro j
  induction j with
  | zero =>
    intro k m hk hm s h hp
    obtain ⟨m, rfl⟩ : ∃ q, m = q + 1 := ⟨m - 1, by omega⟩
    have hk : k = v_bl u v := by omega
    subst hk
    refine ⟨s, ?_, h, hp, fun _ _ _ => rfl, rfl⟩
    show F_X12_sellers_l4_b K (F_X12_sellers_l4 K m) _ _ _ s = _
    unfold F_X12_sellers_l4_b
    rw [P_blocks h.1, d_b_t, if_neg (by omega)]
  | succ j ih =>
    intro k m hk hm s h hp
    obtain ⟨m, rfl⟩ : ∃ q, m = q + 1 := ⟨m - 1, by omega⟩
    have hkb : k < v_bl u v := by omega
    have h64 := h.1.ac.2.2.1
    have hle := v_cn_le (so := so) k
    show ∃ s', F_X12_sellers_l4_b K (F_X12_sellers_l4 K m) _ _ _ s = _ ∧ _
    unfold F_X12_sellers_l4_b
    rw [P_blocks h.1, d_b_t, if_pos (by omega)]
    by_cases q : v_cn so k < 16
    rotate_left
    · have e := v_cn_16 (g := v_pr1 L sg u v W H N day heat st me) q (v_bl u v - k)
      rw [show k + (v_bl u v - k) = v_bl u v by omega] at e
      rw [if_neg (by omega), e.1, e.2]
      exact ⟨s, rfl, h, hp, fun _ _ _ => rfl, rfl⟩
    rw [if_pos (by omega), P_isSold h.2.2.1 (by omega), d_b_t, d_w_id (x := (k : Int) + 1) (by omega) (by omega)]
    by_cases q2 : so k = 0
    rotate_left
    · rw [if_neg (by omega)]
      have e1 : v_cn so (k + 1) = v_cn so k := by simp only [v_cn]; rw [if_neg (fun e => q2 e.2)]
      have e2 : v_pp (v_pr1 L sg u v W H N day heat st me) so (k + 1) = v_pp (v_pr1 L sg u v W H N day heat st me) so k := by simp only [v_pp]; rw [if_neg (fun e => q2 e.2)]
      have := ih (k + 1) m (by omega) (by omega) s h (by rw [e1, e2]; exact hp)
      rw [e1] at this
      exact this
    have e1 : v_cn so (k + 1) = v_cn so k + 1 := by simp only [v_cn]; rw [if_pos ⟨q, q2⟩]
    have e2 : v_pp (v_pr1 L sg u v W H N day heat st me) so (k + 1) = d_u (v_pp (v_pr1 L sg u v W H N day heat st me) so k) (v_cn so k) (v_pr1 L sg u v W H N day heat st me k) := by simp only [v_pp]; rw [if_pos ⟨q, q2⟩]
    obtain ⟨s2, r1, r2, r3⟩ := h.ask hkb
    obtain ⟨s', c1, c2, c3, c4, c5⟩ := ih (k + 1) m (by omega) (by omega) (d_si s2 78 (v_cn so k) (v_pr1 L sg u v W H N day heat st me k)) (r3.fr (d_si_n (by decide)) (d_si_n (by decide)) (by rw [d_si_n (by decide)]; exact r3.2.2.2.2.1)) (fun i hi => by
      rw [e2, d_si_i]
      by_cases z : i = v_cn so k
      · rw [z, d_u_t, d_u_t]
      · rw [d_u_n z, d_u_n z, r2.1 78 (by decide)]; exact hp i (by omega))
    refine ⟨s', ?_, c2, c3, fun a h1 h2 => by rw [c4 a h1 h2, d_si_n h2]; exact r2.1 a h1, c5.trans r2.2.1⟩
    rw [e1] at c1
    rw [if_pos (by omega), r1, d_b2_t, d_g_t (by omega), Int.toNat_natCast, d_l_t, d_w_id (by omega) (by omega)]
    exact c1
end V52

def v_rdy (t : Nat → Option p_C) (s : d_S) (L : v_LR) (u v W H : Nat) (st me so : Nat → Nat) (N : Nat) (sg : Nat → Nat → Nat) (day heat x : Int) : Prop := v_M s st me so ∧ v_Q s u v W H ∧ v_S s N sg ∧ v_Y s day heat x ∧ v_Nm (s.1 49) ∧ ∃ e, F_X9_ruler_3 s = some e ∧ v_CT t e L
def v_rdr (s : d_S) (L : v_LR) (u v W H : Nat) (st me so : Nat → Nat) (N : Nat) (sg : Nat → Nat → Nat) (day heat : Int) : Prop := v_G (s.1 65) u v W H ∧ v_Z (s.1 65) N sg ∧ v_B (s.1 65) st me so ∧ v_RT (s.1 67) (s.1 65 2) L ∧ v_Nm (s.1 71) ∧ (s.1 65 9 = day ∧ s.1 65 10 = heat) ∧ (0 ≤ day ∧ day ≤ 999) ∧ (0 ≤ heat ∧ heat ≤ 9)
abbrev v_csb (u v : Nat) (so me : Nat → Nat) (b : Nat) : Prop := b < v_bl u v ∧ so b = 0 ∧ me b < 100
section V45
variable {s s1 s2 : d_S} {t : Nat → Option p_C} {L : v_LR} {u v W H b N n : Nat} {st me so : Nat → Nat} {sg : Nat → Nat → Nat} {day heat x : Int} {e : Option Nat}
theorem v_rdy.fr (h : v_rdy t s L u v W H st me so N sg day heat x) (h1 : ∀ a, (a = 3 ∨ a = 4 ∨ a = 6 ∨ a = 7 ∨ 37 ≤ a ∧ a ≤ 42) → s1.1 a = s.1 a) (h2 : s1.2.1 5 = s.2.1 5) (hN : v_Nm (s1.1 49)) : v_rdy t s1 L u v W H st me so N sg day heat x := by
  obtain ⟨a, b, c, ⟨⟨d1, d2, d3⟩, d⟩, -, e, g1, g2⟩ := h
  refine ⟨a.fr (h1 7 (by omega)), b.fr (fun a h3 h4 => h1 a (by omega)), ?_, ⟨by rw [h1 6 (by omega)]; exact ⟨d1, d2, d3⟩, d⟩, hN, e, by rw [P_ruler_fr (h1 3 (by omega)) h2]; exact g1, g2⟩
  unfold v_S at c ⊢
  rw [h1 3 (by omega), h1 4 (by omega)]; exact c
theorem v_rdy.ask (h : v_rdy t s L u v W H st me so N sg day heat x) (hb : b < v_bl u v) : ∃ s2, F_X11_sellsNow t s (b : Int) = some (v_pr1 L sg u v W H N day heat st me b, s2) ∧ v_cf s s2 ∧ v_rdy t s2 L u v W H st me so N sg day heat x := by
  obtain ⟨a, b', c, d, e', e, g1, g2⟩ := id h
  obtain ⟨s2, r1, r2⟩ := P_sellsNow (N := N) (sg := sg) (L := L) a b' c g1 g2 d ⟨fun _ _ _ _ => rfl, fun _ _ => rfl, e'⟩ hb
  exact ⟨s2, r1, r2, h.fr (fun a ha => r2.1 a (by omega) (by omega) (by omega)) (r2.2.1 5 (by decide)) r2.2.2⟩
theorem v_rdr.fr (h : v_rdr s L u v W H st me so N sg day heat) (h1 : s1.1 65 = s.1 65) (h2 : s1.1 67 = s.1 67) (hN : v_Nm (s1.1 71)) : v_rdr s1 L u v W H st me so N sg day heat := by
  unfold v_rdr at h ⊢
  rw [h1, h2]
  exact ⟨h.1, h.2.1, h.2.2.1, h.2.2.2.1, hN, h.2.2.2.2.2⟩
theorem v_rdr.ask (h : v_rdr s L u v W H st me so N sg day heat) (hb : b < v_bl u v) : ∃ s2, F_X12_sellsOf s (b : Int) = some (v_pr1 L sg u v W H N day heat st me b, s2) ∧ v_71 s s2 ∧ v_rdr s2 L u v W H st me so N sg day heat := by
  obtain ⟨a, b', c, d, e, ⟨f1, f2⟩, g1, g2⟩ := id h
  obtain ⟨s2, r1, r2⟩ := P_sellsOf (L := L) (N := N) (sg := sg) (day := day) (heat := heat) a b' hb d e c f1 f2 (by omega) (by omega)
  exact ⟨s2, r1, r2, h.fr (r2.1 65 (by decide)) (r2.1 67 (by decide)) (r2.2.2 e)⟩
theorem P_csC (hM : v_M s st me so) (hQ : v_Q s u v W H) {b : Nat} : F_X11_canSell s (b : Int) = some (v_b (v_csb u v so me b)) := by
  have h64 := hQ.2.2.1
  unfold F_X11_canSell
  rw [P_isBlockC hQ, d_b_t]
  by_cases c1 : b < v_bl u v
  rotate_left
  · rw [v_bf (fun e => c1 (by omega)), if_pos rfl, v_bf (fun e => c1 e.1)]
  obtain ⟨-, m1, m2, m3⟩ := hM b (by omega)
  rw [v_bt ⟨by omega, by omega⟩, if_neg (by decide), P_isSoldC hM (by omega), d_b_t]
  by_cases c2 : so b = 0
  rotate_left
  · rw [if_neg (by omega), v_bf (fun e => c2 e.2.1)]
  rw [if_pos (by omega), P_meltedOf hM (by omega), d_b_t]
  by_cases c3 : me b < 100
  · rw [if_pos (by omega), v_bt ⟨c1, c2, c3⟩]
  · rw [if_neg (by omega), v_bf (fun e => c3 e.2.2)]
theorem P_csR (hG : v_G (s.1 65) u v W H) (hB : v_B (s.1 65) st me so) {b : Nat} : F_X12_canSell s (b : Int) = some (v_b (v_csb u v so me b)) := by
  have hac := hG.ac
  unfold F_X12_canSell
  rw [P_isBlock hG, d_b_t]
  by_cases c1 : b < v_bl u v
  rotate_left
  · rw [v_bf (fun e => c1 (by omega)), if_pos rfl, v_bf (fun e => c1 e.1)]
  obtain ⟨-, m1, m2, m3⟩ := hB b (by omega)
  rw [v_bt ⟨by omega, by omega⟩, if_neg (by decide), P_isSold hB (by omega), d_b_t]
  by_cases c2 : so b = 0
  rotate_left
  · rw [if_neg (by omega), v_bf (fun e => c2 e.2.1)]
  rw [if_pos (by omega), P_isWater hB (by omega), d_b_t]
  by_cases c3 : me b = 100
  · rw [v_bt c3, if_neg (by decide), v_bf (fun e => by have := e.2.2; omega)]
  · rw [v_bf c3, if_pos rfl, v_bt ⟨c1, c2, by omega⟩]
def v_p61 (L : v_LR) (sg : Nat → Nat → Nat) (u v W H N : Nat) (day heat : Int) (st me so : Nat → Nat) (b : Nat) : Int := if v_csb u v so me b then v_pr1 L sg u v W H N day heat st me b else -1
theorem v_deal {K : Int → d_S → Option (Int × d_S)} {y : Int} : ∀ (j k m : Nat), k + j = v_bl u v → j < m → ∀ s, v_rdy t s L u v W H st me so N sg day heat x → (∀ b, b < k → s.1 61 b = v_p61 L sg u v W H N day heat st me so b) → ∃ s', F_X11_dearest_l2 t K m y (k : Int) s = K y s' ∧ v_rdy t s' L u v W H st me so N sg day heat x ∧ (∀ b, b < v_bl u v → s'.1 61 b = v_p61 L sg u v W H N day heat st me so b) ∧ (∀ a, a ≠ 47 → a ≠ 49 → a ≠ 50 → a ≠ 61 → s'.1 a = s.1 a) ∧ ∀ a, a ≠ 47 → s'.2.1 a = s.2.1 a := by
  intro j
  induction j with
  | zero =>
    intro k m hk hm s h hp
    obtain ⟨m, rfl⟩ : ∃ q, m = q + 1 := ⟨m - 1, by omega⟩
    have hk : k = v_bl u v := by omega
    subst hk
    refine ⟨s, ?_, h, hp, fun _ _ _ _ _ => rfl, fun _ _ => rfl⟩
    show F_X11_dearest_l2_b t K (F_X11_dearest_l2 t K m) _ _ s = _
    unfold F_X11_dearest_l2_b
    rw [h.2.1.1, if_neg (by omega)]
  | succ j ih =>
    intro k m hk hm s h hp
    obtain ⟨m, rfl⟩ : ∃ q, m = q + 1 := ⟨m - 1, by omega⟩
    have hkb : k < v_bl u v := by omega
    have h64 := h.2.1.2.2.1
    have put : ∀ (s2 : d_S) (y2 : Int), v_rdy t s2 L u v W H st me so N sg day heat x → (∀ a, a ≠ 47 → a ≠ 49 → a ≠ 50 → s2.1 a = s.1 a) → (∀ a, a ≠ 47 → s2.2.1 a = s.2.1 a) → y2 = v_p61 L sg u v W H N day heat st me so k → ∃ s', F_X11_dearest_j44 t (F_X11_dearest_l2 t K m) y (k : Int) (k : Int) y2 s2 = K y s' ∧ v_rdy t s' L u v W H st me so N sg day heat x ∧ (∀ b, b < v_bl u v → s'.1 61 b = v_p61 L sg u v W H N day heat st me so b) ∧ (∀ a, a ≠ 47 → a ≠ 49 → a ≠ 50 → a ≠ 61 → s'.1 a = s.1 a) ∧ ∀ a, a ≠ 47 → s'.2.1 a = s.2.1 a := fun s2 y2 h2 f1 f2 hy => by
      obtain ⟨s', r1, r2, r3, r4, r5⟩ := ih (k + 1) m (by omega) (by omega) (d_si s2 61 k y2) (h2.fr (fun a ha => d_si_n (by omega)) rfl (by rw [d_si_n (by decide)]; exact h2.2.2.2.2.1)) (fun b hb => by
        rw [d_si_i]
        by_cases q : b = k
        · rw [q, d_u_t]; exact hy
        · rw [d_u_n q, f1 61 (by decide) (by decide) (by decide)]; exact hp b (by omega))
      refine ⟨s', ?_, r2, r3, fun a h1 h2 h3 h4 => by rw [r4 a h1 h2 h3 h4, d_si_n h4]; exact f1 a h1 h2 h3, fun a ha => (r5 a ha).trans (f2 a ha)⟩
      unfold F_X11_dearest_j44
      rw [d_g_t (by omega), Int.toNat_natCast, d_l_t, d_w_id (by omega) (by omega)]
      exact r1
    show ∃ s', F_X11_dearest_l2_b t K (F_X11_dearest_l2 t K m) _ _ s = _ ∧ _
    unfold F_X11_dearest_l2_b
    rw [h.2.1.1, if_pos (by omega), if_pos (by omega), P_csC h.1 h.2.1, d_b_t]
    by_cases q : v_csb u v so me k
    · rw [v_bt q, if_neg (by decide)]
      obtain ⟨s2, r1, r2, r3⟩ := h.ask hkb
      rw [r1, d_b2_t]
      exact put s2 _ r3 r2.1 r2.2.1 (by unfold v_p61; rw [if_pos q])
    · rw [v_bf q, if_pos rfl]
      exact put s _ h (fun _ _ _ _ => rfl) (fun _ _ => rfl) (by unfold v_p61; rw [if_neg q])
end V45

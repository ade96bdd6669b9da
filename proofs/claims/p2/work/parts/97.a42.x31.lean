section X31
variable {s s' z z' : d_S} {t : Nat → Option p_C} {x : Int} {n : Nat}
theorem f_b8 {y : Int} : d_b8 y % 256 = y % 256 := by
  unfold d_b8
  rw [Int32.toInt_toInt8, Int32.toInt_ofInt, show Int32.size = 4294967296 from rfl]
  unfold Int.bmod
  rw [show (2 : Nat) ^ 8 = 256 from rfl]
  simp only
  split <;> split <;> omega
theorem f_appl : ∀ (j n m : Nat) (s : d_S), n + j ≤ 300 → j ≤ 4 → j < m → s.1 43 1 = (n : Int) → ∃ s', F_X3_append_l3 m x (8 * (j : Int) - 8) s = some s' ∧ s'.1 43 1 = ((n + j : Nat) : Int) ∧ (∀ k, k ≠ 1 → s'.1 43 k = s.1 43 k) ∧ (∀ a, a ≠ 43 → a ≠ 44 → s'.1 a = s.1 a) ∧ s'.2 = s.2 ∧ ∀ i, s'.1 44 i = if n ≤ i ∧ i < n + j then d_b8 (d_shr x (8 * (j : Int) - 8 - 8 * ((i : Int) - (n : Int)))) else s.1 44 i := by
  intro j
  induction j with
  | zero =>
    intro n m s hn hj hm h1
    obtain ⟨m, rfl⟩ : ∃ w, m = w + 1 := ⟨m - 1, by omega⟩
    refine ⟨s, ?_, h1, fun _ _ => rfl, fun _ _ _ => rfl, rfl, fun i => by rw [if_neg (by omega)]⟩
    show F_X3_append_l3_b (F_X3_append_l3 m) _ _ s = _
    unfold F_X3_append_l3_b
    rw [if_pos (by omega)]
  | succ j ih =>
    intro n m s hn hj hm h1
    obtain ⟨m, rfl⟩ : ∃ w, m = w + 1 := ⟨m - 1, by omega⟩
    obtain ⟨s3, hs3⟩ : ∃ w, w = d_si (d_si s 44 n (d_b8 (d_shr x (8 * ((j + 1 : Nat) : Int) - 8)))) 43 1 ((n : Int) + 1) := ⟨_, rfl⟩
    have g1 : s3.1 43 1 = ((n + 1 : Nat) : Int) := by rw [hs3, d_si_i, d_u_t]; rfl
    obtain ⟨s', a1, a2, a3, a4, a5, a6⟩ := ih (n + 1) m s3 (by omega) (by omega) (by omega) g1
    refine ⟨s', ?_, by rw [a2]; congr 1; omega, fun k hk => by rw [a3 k hk, hs3, d_si_i, d_u_n hk, d_si_n (by decide)], fun a q1 q2 => by rw [a4 a q1 q2, hs3, d_si_n q1, d_si_n q2], by rw [a5, hs3]; rfl, fun i => ?_⟩
    · show F_X3_append_l3_b (F_X3_append_l3 m) _ _ s = _
      unfold F_X3_append_l3_b
      rw [if_neg (by omega), h1, if_pos (by omega), d_g_t (by omega), Int.toNat_natCast, d_l_t, show (d_si s 44 n (d_b8 (d_shr x (8 * ((j + 1 : Nat) : Int) - 8)))).1 43 1 = (n : Int) by rw [d_si_n (by decide)]; exact h1, d_w_id (x := (n : Int) + 1) (by omega) (by omega), d_l_t, ← hs3, d_w_id (by omega) (by omega), show 8 * ((j + 1 : Nat) : Int) - 8 + (-8) = 8 * (j : Int) - 8 by omega]
      exact a1
    · have e44 : s3.1 44 i = d_u (s.1 44) n (d_b8 (d_shr x (8 * ((j + 1 : Nat) : Int) - 8))) i := by rw [hs3, d_si_n (by decide), d_si_i]
      rw [a6 i]
      by_cases q : i = n
      · subst q
        rw [if_neg (by omega), if_pos (by omega), e44, d_u_t, Int.sub_self, Int.mul_zero, Int.sub_zero]
      · by_cases q2 : n + 1 ≤ i ∧ i < n + 1 + j
        · rw [if_pos q2, if_pos (by omega)]
          congr 2
          omega
        · rw [if_neg q2, if_neg (by omega), e44, d_u_n q]
theorem f_fourl : ∀ (j n m : Nat) (s : d_S), n + j ≤ 300 → j ≤ 4 → j < m → s.1 64 4 = (n : Int) → ∃ s', F_X12_four_l3 m x (8 * (j : Int) - 8) s = some s' ∧ s'.1 64 4 = ((n + j : Nat) : Int) ∧ (∀ k, k ≠ 4 → s'.1 64 k = s.1 64 k) ∧ (∀ a, a ≠ 64 → a ≠ 68 → s'.1 a = s.1 a) ∧ s'.2 = s.2 ∧ ∀ i, s'.1 68 i = if n ≤ i ∧ i < n + j then d_and (d_shr x (8 * (j : Int) - 8 - 8 * ((i : Int) - (n : Int)))) 255 else s.1 68 i := by
  intro j
  induction j with
  | zero =>
    intro n m s hn hj hm h1
    obtain ⟨m, rfl⟩ : ∃ w, m = w + 1 := ⟨m - 1, by omega⟩
    refine ⟨s, ?_, h1, fun _ _ => rfl, fun _ _ _ => rfl, rfl, fun i => by rw [if_neg (by omega)]⟩
    show F_X12_four_l3_b (F_X12_four_l3 m) _ _ s = _
    unfold F_X12_four_l3_b
    rw [if_pos (by omega)]
  | succ j ih =>
    intro n m s hn hj hm h1
    obtain ⟨m, rfl⟩ : ∃ w, m = w + 1 := ⟨m - 1, by omega⟩
    obtain ⟨s3, hs3⟩ : ∃ w, w = d_si (d_si s 68 n (d_and (d_shr x (8 * ((j + 1 : Nat) : Int) - 8)) 255)) 64 4 ((n : Int) + 1) := ⟨_, rfl⟩
    have g1 : s3.1 64 4 = ((n + 1 : Nat) : Int) := by rw [hs3, d_si_i, d_u_t]; rfl
    obtain ⟨s', a1, a2, a3, a4, a5, a6⟩ := ih (n + 1) m s3 (by omega) (by omega) (by omega) g1
    refine ⟨s', ?_, by rw [a2]; congr 1; omega, fun k hk => by rw [a3 k hk, hs3, d_si_i, d_u_n hk, d_si_n (by decide)], fun a q1 q2 => by rw [a4 a q1 q2, hs3, d_si_n q1, d_si_n q2], by rw [a5, hs3]; rfl, fun i => ?_⟩
    · show F_X12_four_l3_b (F_X12_four_l3 m) _ _ s = _
      unfold F_X12_four_l3_b
      rw [if_neg (by omega), h1, d_g_t (by omega), Int.toNat_natCast, d_l_t, show (d_si s 68 n (d_and (d_shr x (8 * ((j + 1 : Nat) : Int) - 8)) 255)).1 64 4 = (n : Int) by rw [d_si_n (by decide)]; exact h1, d_w_id (x := (n : Int) + 1) (by omega) (by omega), d_l_t, ← hs3, d_w_id (by omega) (by omega), show 8 * ((j + 1 : Nat) : Int) - 8 + (-8) = 8 * (j : Int) - 8 by omega]
      exact a1
    · have e44 : s3.1 68 i = d_u (s.1 68) n (d_and (d_shr x (8 * ((j + 1 : Nat) : Int) - 8)) 255) i := by rw [hs3, d_si_n (by decide), d_si_i]
      rw [a6 i]
      by_cases q : i = n
      · subst q
        rw [if_neg (by omega), if_pos (by omega), e44, d_u_t, Int.sub_self, Int.mul_zero, Int.sub_zero]
      · by_cases q2 : n + 1 ≤ i ∧ i < n + 1 + j
        · rw [if_pos q2, if_pos (by omega)]
          congr 2
          omega
        · rw [if_neg q2, if_neg (by omega), e44, d_u_n q]
def f_E (n : Nat) (s z : d_S) : Prop := s.1 43 1 = (n : Int) ∧ z.1 64 4 = (n : Int) ∧ ∀ i, i < 300 → s.1 44 i % 256 = z.1 68 i
def f_c (s s' : d_S) : Prop := (∀ k, k ≠ 1 → s'.1 43 k = s.1 43 k) ∧ (∀ a, a ≠ 43 → a ≠ 44 → s'.1 a = s.1 a) ∧ s'.2 = s.2
def f_r (s s' : d_S) : Prop := (∀ k, k ≠ 4 → s'.1 64 k = s.1 64 k) ∧ (∀ a, a ≠ 64 → a ≠ 68 → s'.1 a = s.1 a) ∧ s'.2 = s.2
theorem f_c.tr {s1 : d_S} (h : f_c s s1) (h' : f_c s1 s') : f_c s s' := ⟨fun a y => (h'.1 a y).trans (h.1 a y), fun a y u => (h'.2.1 a y u).trans (h.2.1 a y u), h'.2.2.trans h.2.2⟩
theorem f_r.tr {s1 : d_S} (h : f_r s s1) (h' : f_r s1 s') : f_r s s' := ⟨fun a y => (h'.1 a y).trans (h.1 a y), fun a y u => (h'.2.1 a y u).trans (h.2.1 a y u), h'.2.2.trans h.2.2⟩
theorem f_one (x : Int) (hE : f_E n s z) (hn : n + 4 ≤ 300) : ∃ s' z', F_X3_append s x = some s' ∧ F_X12_four z x = some z' ∧ f_E (n + 4) s' z' ∧ f_c s s' ∧ f_r z z' := by
  obtain ⟨s', a1, a2, a3, a4, a5, a6⟩ := f_appl (x := x) 4 n d_N s hn (Nat.le_refl _) (by rw [d_N_is]; decide) hE.1
  obtain ⟨z', b1, b2, b3, b4, b5, b6⟩ := f_fourl (x := x) 4 n d_N z hn (Nat.le_refl _) (by rw [d_N_is]; decide) hE.2.1
  refine ⟨s', z', a1, b1, ⟨a2, b2, fun i hi => ?_⟩, ⟨a3, a4, a5⟩, ⟨b3, b4, b5⟩⟩
  rw [a6 i, b6 i]
  by_cases q : n ≤ i ∧ i < n + 4
  · rw [if_pos q, if_pos q, f_b8, k_and255]
  · rw [if_neg q, if_neg q]; exact hE.2.2 i hi
theorem R_feed (H : v_R t s) {x1 x2 x3 x4 x5 : Int} : v_AA t (F_X11_feed s x1 x2 x3 x4 x5) (fun s1 => F_X12_feed s1 x1 x2 x3 x4 x5) := by
  have H' := H
  obtain ⟨hWW, hI, hW2, hI2, h1, hQ, hX, hN, ⟨q1, q2, q3, q4, q5⟩⟩ := H'
  obtain ⟨n, hn⟩ : ∃ n : Nat, s.1 64 4 = (n : Int) := ⟨(s.1 64 4).toNat, by omega⟩
  have h43 : s.1 43 1 = (n : Int) := by rw [q1]; exact hn
  unfold F_X11_feed F_X3_hasRoom
  rw [h43, d_w_id (by omega) (by omega)]
  by_cases c : (300 : Int) < (n : Int) + 20
  · rw [if_pos c, d_b_t, if_pos rfl]
    refine ⟨-1, s, s, rfl, ?_, H⟩
    show F_X12_feed s x1 x2 x3 x4 x5 = _
    unfold F_X12_feed
    rw [hn, d_w_id (by omega) (by omega), if_pos c]
  rw [if_neg c, d_b_t, if_neg (by decide)]
  obtain ⟨sa, za, a1, -, aE, ac, ar⟩ := f_one (n := n) (s := s) (z := s) x1 ⟨h43, hn, q3⟩ (by omega)
  obtain ⟨sb, zb, b1, -, bE, bc, br⟩ := f_one (n := n + 4) x2 aE (by omega)
  obtain ⟨sc, zc, c1, -, cE, cc, cr⟩ := f_one (n := n + 4 + 4) x3 bE (by omega)
  obtain ⟨sd, zd, d1, -, dE, dc, dr⟩ := f_one (n := n + 4 + 4 + 4) x4 cE (by omega)
  obtain ⟨se, ze, e1, -, eE, ec, er⟩ := f_one (n := n + 4 + 4 + 4 + 4) x5 dE (by omega)
  have hc : f_c s se := (((ac.tr bc).tr cc).tr dc).tr ec
  have E0 : f_E n s se := ⟨h43, by rw [hc.2.1 64 (by decide) (by decide)]; exact hn, fun i hi => by rw [hc.2.1 68 (by decide) (by decide)]; exact q3 i hi⟩
  have un : ∀ (u v v' : d_S) (y : Int), F_X3_append u y = some v → F_X3_append u y = some v' → v = v' := fun u v v' y p q => Option.some.inj (p.symm.trans q)
  obtain ⟨sa', ya, a1', a2', aE', -, ar'⟩ := f_one (n := n) x1 E0 (by omega)
  obtain rfl := un _ _ _ _ a1 a1'
  obtain ⟨sb', yb, b1', b2', bE', -, br'⟩ := f_one (n := n + 4) x2 aE' (by omega)
  obtain rfl := un _ _ _ _ b1 b1'
  obtain ⟨sc', yc, c1', c2', cE', -, cr'⟩ := f_one (n := n + 4 + 4) x3 bE' (by omega)
  obtain rfl := un _ _ _ _ c1 c1'
  obtain ⟨sd', yd, d1', d2', dE', -, dr'⟩ := f_one (n := n + 4 + 4 + 4) x4 cE' (by omega)
  obtain rfl := un _ _ _ _ d1 d1'
  obtain ⟨se', ye, e1', e2', eE', -, er'⟩ := f_one (n := n + 4 + 4 + 4 + 4) x5 dE' (by omega)
  obtain rfl := un _ _ _ _ e1 e1'
  have hr : f_r se ye := (((ar'.tr br').tr cr').tr dr').tr er'
  rw [a1, d_b_t, b1, d_b_t, c1, d_b_t, d1, d_b_t, e1, d_b_t]
  refine ⟨((n + 20 : Nat) : Int), se, ye, by rw [eE'.1], ?_, ?_⟩
  · show F_X12_feed se x1 x2 x3 x4 x5 = _
    unfold F_X12_feed
    rw [E0.2.1, d_w_id (by omega) (by omega), if_neg c, a2', d_b_t, b2', d_b_t, c2', d_b_t, d2', d_b_t, e2', d_b_t, eE'.2.1]
  · have fo : ∀ a, a ≠ 43 → a ≠ 44 → a ≠ 64 → a ≠ 68 → ye.1 a = s.1 a := fun a z1 z2 z3 z4 => by rw [hr.2.1 a z3 z4, hc.2.1 a z1 z2]
    have ep : ye.2 = s.2 := by rw [hr.2.2, hc.2.2]
    have e43 : ∀ k, ye.1 43 k = se.1 43 k := fun k => by rw [hr.2.1 43 (by decide) (by decide)]
    have hXr : v_Xr ye := by
      refine ⟨by rw [e43, eE'.1, eE'.2.1], by rw [eE'.2.1]; omega, fun i hi => by rw [hr.2.1 44 (by decide) (by decide)]; exact eE'.2.2 i hi, ?_, ?_⟩
      · rw [e43, hc.1 2 (by decide), hr.1 5 (by decide), hc.2.1 64 (by decide) (by decide)]; exact q4
      · rw [e43, hc.1 3 (by decide), hr.1 6 (by decide), hc.2.1 64 (by decide) (by decide)]; exact q5
    exact H.texted (fun a ha => fo a (by omega) (by omega) (by omega) (by omega)) (fun j _ => by rw [fo 3 (by decide) (by decide) (by decide) (by decide)]) (fun j _ => by rw [fo 65 (by decide) (by decide) (by decide) (by decide)]) (by rw [fo 3 (by decide) (by decide) (by decide) (by decide), fo 65 (by decide) (by decide) (by decide) (by decide)]; exact hWW.1.1.2.2.2.2.1) (by rw [fo 65 (by decide) (by decide) (by decide) (by decide)]; omega) (by rw [fo 65 (by decide) (by decide) (by decide) (by decide)]; exact hI.2.2.1.1.2) (hX.fr (by rw [fo 65 (by decide) (by decide) (by decide) (by decide)]) (fo 66 (by decide) (by decide) (by decide) (by decide)) (fo 67 (by decide) (by decide) (by decide) (by decide)) (by rw [ep]) (by rw [ep])) hXr
end X31

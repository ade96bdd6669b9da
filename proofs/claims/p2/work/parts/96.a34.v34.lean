def v_fst (P : Nat → Prop) (r : Nat) : Prop := r ≤ 61 ∧ (∀ d, d < r → ¬ P d) ∧ (r ≤ 60 → P r)
section V34
variable {s s1 s2 : d_S} {t : Nat → Option p_C} {L : v_LR} {u v W H b N n : Nat} {st me so : Nat → Nat} {sg : Nat → Nat → Nat} {day heat x : Int} {e : Option Nat}
theorem v_fst.uq {P : Nat → Prop} {r r' : Nat} (h : v_fst P r) (h' : v_fst P r') : r = r' := by
  obtain ⟨a1, a2, a3⟩ := h
  obtain ⟨b1, b2, b3⟩ := h'
  by_cases q1 : r < r'
  · exact absurd (a3 (by omega)) (b2 r q1)
  by_cases q2 : r' < r
  · exact absurd (b3 (by omega)) (a2 r' q2)
  omega
theorem v_fst.min {P Q R : Nat → Prop} {a b : Nat} (h : v_fst P a) (h' : v_fst Q b) (hR : ∀ d, R d ↔ P d ∨ Q d) : v_fst R (min a b) := by
  obtain ⟨a1, a2, a3⟩ := h
  obtain ⟨b1, b2, b3⟩ := h'
  refine ⟨by omega, fun d hd e => ?_, fun hm => ?_⟩
  · rcases (hR d).1 e with e | e
    · exact a2 d (by omega) e
    · exact b2 d (by omega) e
  · by_cases q : a ≤ b
    · rw [show Min.min a b = a by omega]
      exact (hR a).2 (Or.inl (a3 (by omega)))
    · rw [show Min.min a b = b by omega]
      exact (hR b).2 (Or.inr (b3 (by omega)))
theorem v_fst.cg {P Q : Nat → Prop} {r : Nat} (h : v_fst P r) (hPQ : ∀ d, Q d ↔ P d) : v_fst Q r :=
  ⟨h.1, fun d hd e => h.2.1 d hd ((hPQ d).1 e), fun hr => (hPQ r).2 (h.2.2 hr)⟩
theorem v_dual {T : Nat} (hT : T ≤ 2000) (hbl : b < v_bl u v) (hok : ∀ d, v_ok (v_qn L u v W H day heat x st me so d b)) (hCT : v_CT t e L) : ∀ (j d m : Nat), d + j = 61 → j < m → ∀ s1, v_K s1 (v_qn L u v W H day heat x st me so d b) ((so b : Nat) : Int) → s1.2.1 47 3 = e → v_tb s1 ((v_sz u v W H b : Nat) : Int) ((v_ed u v W H b : Nat) : Int) → v_cf s s1 → (∀ i, i < d → ¬ T < v_men L u v W H day heat x st me so i b) → ∃ (r : Nat) (s' : d_S), F_X0_daysUntilAbove_l7 t m (T : Int) (d : Int) s1 = some ((r : Int), s') ∧ v_fst (fun i => T < v_men L u v W H day heat x st me so i b) r ∧ v_cf s s' := by
  intro j
  induction j with
  | zero =>
    intro d m hd hm s1 hK he hb hc hi
    obtain ⟨m, rfl⟩ : ∃ q, m = q + 1 := ⟨m - 1, by omega⟩
    have hd : d = 61 := by omega
    subst hd
    refine ⟨61, s1, ?_, ⟨by omega, hi, fun h => by omega⟩, hc⟩
    show F_X0_daysUntilAbove_l7_b t (F_X0_daysUntilAbove_l7 t m) _ _ s1 = _
    unfold F_X0_daysUntilAbove_l7_b
    rw [if_pos (by omega)]; rfl
  | succ j ih =>
    intro d m hd hm s1 hK he hb hc hi
    obtain ⟨m, rfl⟩ : ∃ q, m = q + 1 := ⟨m - 1, by omega⟩
    have h9 : s1.1 47 9 = ((v_men L u v W H day heat x st me so d b : Nat) : Int) := by
      rw [hK.1.2.2.2.1]
      unfold v_men; rw [if_pos hbl]; exact (Int.toNat_of_nonneg (hok d).2.2.2.1.1).symm
    show ∃ (r : Nat) (s' : d_S), F_X0_daysUntilAbove_l7_b t (F_X0_daysUntilAbove_l7 t m) _ _ s1 = _ ∧ _
    unfold F_X0_daysUntilAbove_l7_b
    rw [if_neg (by omega), h9]
    by_cases q : T < v_men L u v W H day heat x st me so d b
    · rw [if_pos (by omega)]
      exact ⟨d, s1, rfl, ⟨by omega, hi, fun _ => q⟩, hc⟩
    rw [if_neg (by omega)]
    obtain ⟨s2, b1, b2, b3, b4, b5, b6⟩ := P_run (t := t) (L := L) (n := 1) (by decide) (by rw [he]; exact hCT) hK hb
    have hc2 : v_cf s s2 := ⟨fun a h1 h2 h3 => by rw [b3 a h1 h2 h3, hc.1 a h1 h2 h3], fun a ha => by rw [b4, hc.2.1 a ha], b5.2.2⟩
    obtain ⟨r, s', r1, r2, r3⟩ := ih (d + 1) m (by omega) (by omega) s2 (by
      unfold v_qn at b2 ⊢
      rw [← v_rn_1]; exact b2) (by rw [b4]; exact he) b5 hc2 (fun i h1 => by
      by_cases z : i = d
      · rw [z]; exact q
      · exact hi i (by omega))
    refine ⟨r, s', ?_, r2, r3⟩
    rw [show F_X0_run t s1 1 = some s2 from b1, d_b_t, d_w_id (by omega) (by omega)]
    exact r1
theorem P_until {T : Nat} (hT : T ≤ 2000) (hM : v_M s st me so) (hQ : v_Q s u v W H) (hb : b < v_bl u v) (hE : F_X9_ruler_3 s = some e) (hCT : v_CT t e L) (hY : v_Y s day heat x) (hc : v_cf s s1) : ∃ (r : Nat) (s' : d_S), F_X0_daysUntilAbove t s1 (b : Int) (T : Int) = some ((r : Int), s') ∧ v_fst (fun i => T < v_men L u v W H day heat x st me so i b) r ∧ v_cf s s' := by
  have hY' := hY
  obtain ⟨⟨a, b', c⟩, d1, d2, d3⟩ := hY'
  have hY1 : v_Y s1 day heat x := ⟨by rw [hc.1 6 (by decide) (by decide) (by decide)]; exact ⟨a, b', c⟩, d1, d2, d3⟩
  have hE1 : F_X9_ruler_3 s1 = some e := by rw [P_ruler_fr (hc.1 3 (by decide) (by decide) (by decide)) (hc.2.1 5 (by decide))]; exact hE
  obtain ⟨-, m1, m2, m3⟩ := hM b (by have := hQ.2.2.1; omega)
  obtain ⟨s2, a1, a2, a3, a4, a5, a6, a7⟩ := P_start (hM.fr (hc.1 7 (by decide) (by decide) (by decide))) (hQ.fr (fun a h1 h2 => hc.1 a (by omega) (by omega) (by omega))) hb hE1 hY1 hc.2.2
  have hc2 : v_cf s s2 := ⟨fun a h1 h2 h3 => by rw [a6 a h1 h2, hc.1 a h1 h2 h3], fun a ha => by rw [a7 a ha, hc.2.1 a ha], a5.2.2⟩
  obtain ⟨r, s', r1, r2, r3⟩ := v_dual (s := s) (L := L) (T := T) (day := day) (heat := heat) (x := x) (st := st) (me := me) (so := so) hT hb (fun d => v_qn_ok d1 d2 d3 m1 m2) hCT 61 0 d_N rfl (by rw [d_N_is]; decide) s2 a2 a4 a5 hc2 (fun i hi => absurd hi (Nat.not_lt_zero i))
  refine ⟨r, s', ?_, r2, r3⟩
  unfold F_X0_daysUntilAbove
  rw [a1, d_b_t]
  exact r1
theorem v_siCl {K : Int → d_S → Option (Int × d_S)} (hM : v_M s st me so) (hQ : v_Q s u v W H) (hS : v_S s N sg) (hE : F_X9_ruler_3 s = some e) (hCT : v_CT t e L) (hY : v_Y s day heat x) (hn : n < N) : ∀ (j k m : Nat), k + j = v_bl u v → j < m → ∀ (s1 : d_S) (r : Nat), v_cf s s1 → v_fst (fun d => v_shk sg (v_men L u v W H day heat x st me so d) u v W H k n) r → ∃ (r' : Nat) (s' : d_S), F_X11_showsIn_l15 t K m (n : Int) (r : Int) (k : Int) s1 = K (r' : Int) s' ∧ v_fst (fun d => v_shk sg (v_men L u v W H day heat x st me so d) u v W H (v_bl u v) n) r' ∧ v_cf s s' := by
  have h64 := hQ.2.2.1
  intro j
  induction j with
  | zero =>
    intro k m hk hm s1 r hc hr
    obtain ⟨m, rfl⟩ : ∃ q, m = q + 1 := ⟨m - 1, by omega⟩
    have hk : k = v_bl u v := by omega
    subst hk
    refine ⟨r, s1, ?_, hr, hc⟩
    show F_X11_showsIn_l15_b t K (F_X11_showsIn_l15 t K m) _ _ _ s1 = _
    unfold F_X11_showsIn_l15_b
    rw [hc.1 37 (by decide) (by decide) (by decide), hQ.1, if_neg (by omega)]
  | succ j ih =>
    intro k m hk hm s1 r hc hr
    obtain ⟨m, rfl⟩ : ∃ q, m = q + 1 := ⟨m - 1, by omega⟩
    have hkb : k < v_bl u v := by omega
    have hQ1 : v_Q s1 u v W H := hQ.fr (fun a h1 h2 => hc.1 a (by omega) (by omega) (by omega))
    have hS1 : v_S s1 N sg := by
      unfold v_S at hS ⊢
      rw [hc.1 3 (by decide) (by decide) (by decide), hc.1 4 (by decide) (by decide) (by decide)]; exact hS
    have h5 := hS.le hn (k := 5) (by decide)
    show ∃ (r' : Nat) (s' : d_S), F_X11_showsIn_l15_b t K (F_X11_showsIn_l15 t K m) _ _ _ s1 = _ ∧ _
    unfold F_X11_showsIn_l15_b
    rw [hQ1.1, if_pos (by omega), P_cellsOfC hQ1 hS1 hkb hn, d_b_t, d_w_id (x := (k : Int) + 1) (by omega) (by omega)]
    by_cases q : 0 < v_ce sg u v W H n k
    rotate_left
    · rw [if_neg (by omega)]
      exact ih (k + 1) m (by omega) (by omega) s1 r hc (hr.cg (fun d => ⟨fun h => by
        rcases v_shk_s.1 h with h | h
        · exact h
        · exact absurd h.2 q, fun h => v_shk_s.2 (Or.inl h)⟩))
    rw [if_pos (by omega), P_sightPart hS1 hn (by decide) (by decide), d_b_t, show (5 : Int).toNat = 5 from rfl, d_w_id (x := ((sg n 5 : Nat) : Int) * 10) (by omega) (by omega), show ((sg n 5 : Nat) : Int) * 10 = ((sg n 5 * 10 : Nat) : Int) by omega]
    obtain ⟨r2, s2, a1, a2, a3⟩ := P_until (T := sg n 5 * 10) (L := L) (by omega) hM hQ hkb hE hCT hY hc
    obtain ⟨r', s', c1, c2, c3⟩ := ih (k + 1) m (by omega) (by omega) s2 (min r r2) a3 (hr.min a2 (fun d => ⟨fun h => by
      rcases v_shk_s.1 h with h | h
      · exact Or.inl h
      · exact Or.inr h.1, fun h => by
      rcases h with h | h
      · exact v_shk_s.2 (Or.inl h)
      · exact v_shk_s.2 (Or.inr ⟨h, q⟩)⟩))
    refine ⟨r', s', ?_, c2, c3⟩
    rw [a1, d_b2_t, P_min, d_b_t, show min (r : Int) (r2 : Int) = ((min r r2 : Nat) : Int) by omega]
    exact c1
theorem v_siRl {K : Int → d_S → Option (Int × d_S)} (hn : n < N) {P : Nat → Prop} : ∀ (j d m : Nat), d + j = 61 → j + 1 < m → ∀ (s : d_S) (day heat x : Int) (st me : Nat → Nat), v_go s L u v W H day heat x st me so → v_Z (s.1 65) N sg → (∀ i, P (d + i) ↔ v_shk sg (v_men L u v W H day heat x st me so i) u v W H (v_bl u v) n) → (∀ i, i < d → ¬ P i) → ∃ (r : Nat) (s' : d_S), F_X12_showsIn_l18 K m (n : Int) (-1) (d : Int) s = K (if r ≤ 60 then (r : Int) else -1) s' ∧ v_fst P r ∧ v_rf s s' ∧ v_Nm (s'.1 71) := by
  intro j
  induction j with
  | zero =>
    intro d m hd hm s day heat x st me h hZ hP hi
    obtain ⟨m, rfl⟩ : ∃ q, m = q + 1 := ⟨m - 1, by omega⟩
    have hd : d = 61 := by omega
    subst hd
    refine ⟨61, s, ?_, ⟨by omega, hi, fun h => by omega⟩, v_rf.rf, h.2.2.1⟩
    show F_X12_showsIn_l18_b K (F_X12_showsIn_l18 K m) _ _ _ s = _
    unfold F_X12_showsIn_l18_b
    rw [if_pos (by omega)]; rfl
  | succ j ih =>
    intro d m hd hm s day heat x st me h hZ hP hi
    obtain ⟨m, rfl⟩ : ∃ q, m = q + 1 := ⟨m - 1, by omega⟩
    obtain ⟨s1, d1, h1, x1, st1, me1, g1, g2, g3, g4, g5⟩ := P_goOn h
    have h0 := hP 0
    rw [v_men_0, Nat.add_zero] at h0
    show ∃ (r : Nat) (s' : d_S), F_X12_showsIn_l18_b K (F_X12_showsIn_l18 K m) _ _ _ s = _ ∧ _
    unfold F_X12_showsIn_l18_b
    rw [if_neg (by omega), if_pos rfl, P_isShowing h.1 hZ h.2.2.2.1 hn, d_b_t]
    unfold F_X12_showsIn_j39
    rw [g1, d_b_t, d_b_t, d_w_id (by omega) (by omega)]
    by_cases q : v_shk sg me u v W H (v_bl u v) n
    · rw [v_bt q, if_neg (show ¬ (1 : Int) = 0 by decide)]
      refine ⟨d, s1, ?_, ⟨by omega, hi, fun _ => h0.2 q⟩, g3, g2.2.2.1⟩
      obtain ⟨m, rfl⟩ : ∃ q, m = q + 1 := ⟨m - 1, by omega⟩
      show F_X12_showsIn_l18_b K (F_X12_showsIn_l18 K m) _ _ _ s1 = _
      unfold F_X12_showsIn_l18_b
      rw [if_pos (show d ≤ 60 by omega)]
      by_cases q6 : (60 : Int) < (d : Int) + 1
      · rw [if_pos q6]
      · rw [if_neg q6, if_neg (by omega)]
    · rw [v_bf q, if_pos rfl]
      have hZ1 : v_Z (s1.1 65) N sg := by
        obtain ⟨z0, z12, zz⟩ := hZ
        refine ⟨by rw [g3.1 0 (by decide) (by decide) (by decide) (by decide)]; exact z0, z12, fun n hn k hk => ?_⟩
        rw [g3.1 _ (by omega) (by omega) (by omega) (by omega)]
        exact zz n hn k hk
      obtain ⟨r, s', r1, r2, r3, r4⟩ := ih (d + 1) m (by omega) (by omega) s1 d1 h1 x1 st1 me1 g2 hZ1 (fun i => by rw [← g5, ← hP (i + 1), show d + 1 + i = d + (i + 1) by omega]) (fun i hi2 => by
        by_cases z : i = d
        · rw [z]; exact fun e => q (h0.1 e)
        · exact hi i (by omega))
      exact ⟨r, s', r1, r2, g3.tr r3, r4⟩
theorem R_showsIn (h : v_R t s) {x1 : Int} : v_AA t (F_X11_showsIn t s x1) (fun s1 => F_X12_showsIn s1 x1) := by
  obtain ⟨e, L, u, v, W, H, st, me, so, N, sg, day, heat, x, hG, hQ, hB, hM, hZ, hS, hE, hCT, hY, hN1, hgo, hC, hBd⟩ := h.come
  have hac := hG.ac
  have n10 : ¬ (1 : Int) = 0 := by decide
  by_cases c1 : 0 ≤ x1 ∧ x1 < (N : Int)
  rotate_left
  · refine v_AA.same h (-1) ?_ ?_
    · unfold F_X11_showsIn; rw [P_isSightC hS, d_b_t, v_bf c1, if_pos rfl]
    · show F_X12_showsIn s x1 = _; unfold F_X12_showsIn; rw [P_isSight hZ, d_b_t, v_bf c1, if_pos rfl]
  obtain ⟨n, rfl⟩ : ∃ n : Nat, x1 = n := ⟨x1.toNat, by omega⟩
  have hn : n < N := by omega
  have hcf : v_cf s s := ⟨fun _ _ _ _ => rfl, fun _ _ => rfl, hN1⟩
  obtain ⟨r, s1, a1, a2, a3⟩ := v_siCl (K := fun x2_u7 s_u7 => if 60 < x2_u7 then some ((-1), s_u7) else some (x2_u7, s_u7)) hM hQ hS hE hCT hY hn (v_bl u v) 0 d_N (by omega) (by rw [d_N_is]; omega) s 61 hcf ⟨by omega, fun d _ => by rintro ⟨b, h1, -⟩; omega, fun h => by omega⟩
  obtain ⟨s2, b1, b2, b3, b4⟩ := P_begin (s := s1)
  have hZ2 : v_Z (s2.1 65) N sg := by rw [b3 65 (by decide), a3.1 65 (by decide) (by decide) (by decide)]; exact hZ
  obtain ⟨r', s3, c1', c2, c3, c4⟩ := v_siRl (K := fun x2_u5 s_u5 => d_b (F_X12_putBack s_u5) (fun s6 => some (x2_u5, s6))) (sg := sg) hn (P := fun d => v_shk sg (v_men L u v W H day heat x st me so d) u v W H (v_bl u v) n) 61 0 d_N rfl (by rw [d_N_is]; decide) s2 day heat x st me (v_R.begun b3 (a3.go hgo)) hZ2 (fun i => by rw [Nat.zero_add]) (fun i hi => absurd hi (Nat.not_lt_zero i))
  have e := a2.uq c2
  subst e
  obtain ⟨s4, p1, p2⟩ := h.came a3 b3 b2 b4 c3 c4
  refine ⟨if r ≤ 60 then (r : Int) else -1, s1, s4, ?_, ?_, p2⟩
  · unfold F_X11_showsIn
    rw [P_isSightC hS, d_b_t, v_bt c1, if_neg n10]
    refine (show F_X11_showsIn_l15 t _ d_N (n : Int) 61 0 s = _ from a1).trans ?_
    by_cases q : r ≤ 60
    · rw [if_pos q]; show (if (60 : Int) < (r : Int) then _ else _) = _; rw [if_neg (by omega)]
    · rw [if_neg q]; show (if (60 : Int) < (r : Int) then _ else _) = _; rw [if_pos (by omega)]
  · show F_X12_showsIn s1 (n : Int) = _
    unfold F_X12_showsIn
    rw [P_isSight (by rw [a3.1 65 (by decide) (by decide) (by decide)]; exact hZ), d_b_t, v_bt c1, if_neg n10, b1, d_b_t]
    refine (show F_X12_showsIn_l18 _ d_N (n : Int) (-1) 0 s2 = _ from c1').trans ?_
    show d_b (F_X12_putBack s3) _ = _
    rw [p1, d_b_t]
end V34

def v_bs (g : Nat → Int) (so : Nat → Nat) : Nat → Int × Int
  | 0 => (-1, 0)
  | k + 1 => if so k = 0 then (if (v_bs g so k).1 = -1 ∨ (v_bs g so k).2 < g k then ((k : Int), g k) else v_bs g so k) else v_bs g so k
def v_rv (p : Int × Int) (w : Int) : Int := if p.1 = -1 then 0 else p.2 + w
section V51
variable {s s0 s1 s2 : d_S} {t : Nat → Option p_C} {L : v_LR} {u v W H b N n a c : Nat} {st me so : Nat → Nat} {sg : Nat → Nat → Nat} {day heat x : Int} {e : Option Nat}
def v_gn (L : v_LR) (sg : Nat → Nat → Nat) (u v W H N : Nat) (day heat x : Int) (st me so : Nat → Nat) (n a b : Nat) : Int := v_pn L sg u v W H N day heat x st me so n a b - v_pn L sg u v W H N day heat x st me so n 0 b
theorem v_sbC (ha : a ≤ 9) (hn : n ≤ 100) : ∀ (j k m : Nat), k + j = v_bl u v → j < m → ∀ s, v_rdy t s L u v W H st me so N sg day heat x → ∃ s', F_X11_strawBest_l30 t m (a : Int) (n : Int) (v_bs (v_gn L sg u v W H N day heat x st me so n a) so k).1 (v_bs (v_gn L sg u v W H N day heat x st me so n a) so k).2 (k : Int) s = some ((v_bs (v_gn L sg u v W H N day heat x st me so n a) so (v_bl u v)).1, s') ∧ v_cf s s' := by
  intro j
  induction j with
  | zero =>
    intro k m hk hm s h
    obtain ⟨m, rfl⟩ : ∃ q, m = q + 1 := ⟨m - 1, by omega⟩
    have hk : k = v_bl u v := by omega
    subst hk
    refine ⟨s, ?_, ⟨fun _ _ _ _ => rfl, fun _ _ => rfl, h.2.2.2.2.1⟩⟩
    show F_X11_strawBest_l30_b t (F_X11_strawBest_l30 t m) _ _ _ _ _ s = _
    unfold F_X11_strawBest_l30_b
    rw [h.2.1.1, if_neg (by omega)]
  | succ j ih =>
    intro k m hk hm s h
    obtain ⟨m, rfl⟩ : ∃ q, m = q + 1 := ⟨m - 1, by omega⟩
    have hkb : k < v_bl u v := by omega
    have h64 := h.2.1.2.2.1
    show ∃ s', F_X11_strawBest_l30_b t (F_X11_strawBest_l30 t m) _ _ _ _ _ s = _ ∧ _
    unfold F_X11_strawBest_l30_b
    rw [h.2.1.1, if_pos (by omega), P_isSoldC h.1 (by omega), d_b_t, d_w_id (x := (k : Int) + 1) (by omega) (by omega)]
    by_cases q : so k = 0
    rotate_left
    · rw [if_neg (by omega)]
      obtain ⟨s', r1, r2⟩ := ih (k + 1) m (by omega) (by omega) s h
      simp only [v_bs] at r1
      rw [if_neg q] at r1
      exact ⟨s', r1, r2⟩
    rw [if_pos (by omega)]
    obtain ⟨s1, a1, a2, a3⟩ := P_pence h hkb ha hn
    obtain ⟨s2, b1, b2, b3⟩ := P_pence a2 hkb (a := 0) (by decide) hn
    have g1 := v_pn_b (L := L) (sg := sg) (u := u) (v := v) (W := W) (H := H) (N := N) (day := day) (heat := heat) (x := x) (st := st) (me := me) (so := so) (n := n) (a := a) (c := k)
    have g2 := v_pn_b (L := L) (sg := sg) (u := u) (v := v) (W := W) (H := H) (N := N) (day := day) (heat := heat) (x := x) (st := st) (me := me) (so := so) (n := n) (a := 0) (c := k)
    have b1 : F_X0_penceBehind t s1 (k : Int) 0 (n : Int) = _ := b1
    have eg : d_w (v_pn L sg u v W H N day heat x st me so n a k - v_pn L sg u v W H N day heat x st me so n 0 k) = v_gn L sg u v W H N day heat x st me so n a k := d_w_id (by omega) (by omega)
    obtain ⟨s', r1, r2⟩ := ih (k + 1) m (by omega) (by omega) s2 b2
    refine ⟨s', ?_, (a3.tr b3).tr r2⟩
    rw [a1, d_b2_t, b1, d_b2_t, eg]
    simp only [v_bs] at r1
    rw [if_pos q] at r1
    by_cases q1 : (v_bs (v_gn L sg u v W H N day heat x st me so n a) so k).1 = -1
    · rw [if_pos (Or.inl q1)] at r1
      rw [if_pos q1]; exact r1
    rw [if_neg q1]
    by_cases q2 : (v_bs (v_gn L sg u v W H N day heat x st me so n a) so k).2 < v_gn L sg u v W H N day heat x st me so n a k
    · rw [if_pos (Or.inr q2)] at r1
      rw [if_pos q2]; exact r1
    · rw [if_neg (fun e => e.elim q1 q2)] at r1
      rw [if_neg q2]; exact r1
def v_7x (s s' : d_S) : Prop := (∀ a, a ≠ 71 → a ≠ 73 → s'.1 a = s.1 a) ∧ s'.2.1 = s.2.1 ∧ v_Nm (s'.1 71)
theorem v_one_b (ha : a ≤ 9) (hn : n ≤ 100) (hb : b < v_bl u v) (h : v_go s L u v W H day heat x st me so) (hZ : v_Z (s.1 65) N sg) {K : Int → d_S → Option (Int × d_S)} : ∃ s', d_b (F_X12_begin s) (fun s5 => d_b (F_X12_get s5 (b : Int) 0) (fun v6 => d_b (F_X12_cut (d_w (v6 + (a : Int))) 9) (fun v7 => d_b (F_X12_set s5 (b : Int) 0 v7) (fun s8 => d_b2 (F_X12_worthLater s8 (n : Int)) (fun v9 s10 => d_b (F_X12_putBack s10) (fun s11 => K v9 s11)))))) = K (v_ws L sg u v W H N day heat x st me so n a b (v_bl u v)) s' ∧ v_7x s s' := by
  obtain ⟨hG, hT, hN, hB, ⟨e9, e10, e13⟩, h9, h10, hx⟩ := id h
  have h64 := hG.ac.2.2.1
  obtain ⟨⟨f1, f2, f3⟩, m1, m2, m3⟩ := hB b (by omega)
  obtain ⟨s5, b1, b2, b3, b4⟩ := P_begin (s := s)
  have hB5 : v_B (s5.1 65) st me so := by rw [b3 65 (by decide)]; exact hB
  obtain ⟨y, hy, hy9⟩ : ∃ y : Nat, y = min 9 (st b + a) ∧ y ≤ 9 := ⟨_, rfl, by omega⟩
  obtain ⟨s8, hs8⟩ : ∃ q, q = d_si s5 65 (20 + 3 * b) (y : Int) := ⟨_, rfl⟩
  have hsa : v_up1 st b y = v_sa st b a := by
    funext j
    unfold v_up1 v_sa
    by_cases q : j = b
    · rw [if_pos q, if_pos q, hy, q]
    · rw [if_neg q, if_neg q]
  have A8 : ∀ j, j ≠ 20 + 3 * b → s8.1 65 j = s.1 65 j := fun j hj => by rw [hs8, d_si_i, d_u_n hj, b3 65 (by decide)]
  have o8 : ∀ a, a ≠ 65 → s8.1 a = s5.1 a := fun a ha => by rw [hs8, d_si_n ha]
  have hgo8 : v_go s8 L u v W H day heat x (v_sa st b a) me so := by
    refine ⟨?_, ?_, ?_, ?_, ⟨?_, ?_, ?_⟩, h9, h10, hx⟩
    · obtain ⟨⟨a1, a2, a3, a4⟩, ar⟩ := hG
      exact ⟨⟨by rw [A8 14 (by omega)]; exact a1, by rw [A8 15 (by omega)]; exact a2, by rw [A8 16 (by omega)]; exact a3, by rw [A8 17 (by omega)]; exact a4⟩, ar⟩
    · rw [o8 67 (by decide), b3 67 (by decide), A8 2 (by omega)]; exact hT
    · rw [o8 71 (by decide), b3 71 (by decide)]; exact hN
    · rw [← hsa, hs8]; exact hB5.set0 hy9
    · rw [A8 9 (by omega)]; exact e9
    · rw [A8 10 (by omega)]; exact e10
    · rw [A8 13 (by omega)]; exact e13
  obtain ⟨s9, c1, c2, c3⟩ := v_wl2 (L := L) (so := so) (K := fun s_u2 => F_X12_worthLater_l21 d_N 0 0 s_u2) hn n 0 d_N (by omega) (by rw [d_N_is]; omega) s8 day heat x (v_sa st b a) me hgo8
  have hZ9 : v_Z (s9.1 65) N sg := by
    obtain ⟨z0, z12, zz⟩ := hZ
    refine ⟨by rw [c3.1 0 (by decide) (by decide) (by decide) (by decide), A8 0 (by omega)]; exact z0, z12, fun n hn k hk => ?_⟩
    rw [c3.1 _ (by omega) (by omega) (by omega) (by omega), A8 _ (by omega)]
    exact zz n hn k hk
  obtain ⟨d1, d2, d3, d4, ⟨d5, d6, d7⟩, d8, d9, d10⟩ := id c2
  obtain ⟨s10, g1, g2, g3⟩ := v_w21 (L := L) (sg := sg) (N := N) (n := n) (a := a) (b := b) (st := st) (me := me) (so := so) (day := day) (heat := heat) (x := x) (p := v_dn n (day, heat, x)) (st' := v_stn L u v W H day heat x (v_sa st b a) me so n) (me' := v_men L u v W H day heat x (v_sa st b a) me so n) (u := u) (v := v) (W := W) (H := H) (fun c hc => v_tm_r (fun c hc => (hB c hc).2) h9 h10 hx hc h64 ha) (v_bl u v) 0 d_N (by omega) (by rw [d_N_is]; omega) s9 ⟨d1, hZ9, d4, d2, d3, ⟨d5, d6⟩, d8, d9⟩
  have k10 : ∀ a, a ≠ 65 → a ≠ 71 → s10.1 a = s5.1 a := fun a h1 h2 => by rw [g2.1 a h2, c3.2.1 a h1 h2, o8 a h1]
  obtain ⟨s11, p1, p2, p3, p4⟩ := P_putBack (s := s10) (s0 := s) (fun i h1 h2 => by rw [k10 73 (by decide) (by decide)]; exact b2 i h1 h2) (fun i hi => by rw [g2.1 65 (by decide), c3.1 i (by omega) (by omega) (by omega) (by omega), A8 i (by omega)])
  have hw : F_X12_worthLater s8 (n : Int) = some (v_ws L sg u v W H N day heat x st me so n a b (v_bl u v), s10) := by
    unfold F_X12_worthLater
    refine (show F_X12_worthLater_l2 _ d_N (n : Int) 0 s8 = _ from c1).trans ?_
    exact g1
  refine ⟨s11, ?_, fun a h1 h2 => ?_, ?_, by rw [p3 71 (by decide)]; exact g3⟩
  · rw [b1, d_b_t, P_get0 hB5 (by omega), d_b_t, d_w_id (by omega) (by omega), P_cut (by decide) (by decide), d_b_t, show v_cut (((st b : Nat) : Int) + (a : Int)) 9 = (y : Int) by unfold v_cut; omega, P_set0 (by omega), d_b_t, ← hs8, hw, d_b2_t, p1, d_b_t]
  · by_cases q : a = 65
    · rw [q]; exact p2
    · rw [p3 a q, k10 a q h1, b3 a h2]
  · rw [p4, g2.2.1, c3.2.2, hs8]
    show s5.2.1 = s.2.1
    rw [b4]
theorem v_sbR (ha : a ≤ 9) (hn : n ≤ 100) : ∀ (j k m : Nat), k + j = v_bl u v → j < m → ∀ s, v_go s L u v W H day heat x st me so → v_Z (s.1 65) N sg → ∃ s', F_X12_strawBest_l30 m (a : Int) (n : Int) (v_bs (v_gn L sg u v W H N day heat x st me so n a) so k).1 (v_rv (v_bs (v_gn L sg u v W H N day heat x st me so n a) so k) (v_ws L sg u v W H N day heat x st me so n 0 0 (v_bl u v))) (k : Int) s = some ((v_bs (v_gn L sg u v W H N day heat x st me so n a) so (v_bl u v)).1, s') ∧ v_7x s s' := by
  intro j
  induction j with
  | zero =>
    intro k m hk hm s h hZ
    obtain ⟨m, rfl⟩ : ∃ q, m = q + 1 := ⟨m - 1, by omega⟩
    have hk : k = v_bl u v := by omega
    subst hk
    refine ⟨s, ?_, fun _ _ _ => rfl, rfl, h.2.2.1⟩
    show F_X12_strawBest_l30_b (F_X12_strawBest_l30 m) _ _ _ _ _ s = _
    unfold F_X12_strawBest_l30_b
    rw [P_blocks h.1, d_b_t, if_neg (by omega)]
  | succ j ih =>
    intro k m hk hm s h hZ
    obtain ⟨m, rfl⟩ : ∃ q, m = q + 1 := ⟨m - 1, by omega⟩
    have hkb : k < v_bl u v := by omega
    have h64 := h.1.ac.2.2.1
    show ∃ s', F_X12_strawBest_l30_b (F_X12_strawBest_l30 m) _ _ _ _ _ s = _ ∧ _
    unfold F_X12_strawBest_l30_b
    rw [P_blocks h.1, d_b_t, if_pos (by omega), P_isSold h.2.2.2.1 (by omega), d_b_t, d_w_id (x := (k : Int) + 1) (by omega) (by omega)]
    by_cases q : so k = 0
    rotate_left
    · rw [if_neg (by omega)]
      obtain ⟨s', r1, r2⟩ := ih (k + 1) m (by omega) (by omega) s h hZ
      simp only [v_bs] at r1
      rw [if_neg q] at r1
      exact ⟨s', r1, r2⟩
    rw [if_pos (by omega)]
    obtain ⟨s1, a1, a2⟩ := v_one_b (N := N) (sg := sg) ha hn hkb h hZ (K := fun v9 s11 => if (v_bs (v_gn L sg u v W H N day heat x st me so n a) so k).1 = (-1) then F_X12_strawBest_l30 m (a : Int) (n : Int) (k : Int) v9 ((k : Int) + 1) s11 else if (v_rv (v_bs (v_gn L sg u v W H N day heat x st me so n a) so k) (v_ws L sg u v W H N day heat x st me so n 0 0 (v_bl u v))) < v9 then F_X12_strawBest_l30 m (a : Int) (n : Int) (k : Int) v9 ((k : Int) + 1) s11 else F_X12_strawBest_l30 m (a : Int) (n : Int) (v_bs (v_gn L sg u v W H N day heat x st me so n a) so k).1 (v_rv (v_bs (v_gn L sg u v W H N day heat x st me so n a) so k) (v_ws L sg u v W H N day heat x st me so n 0 0 (v_bl u v))) ((k : Int) + 1) s11)
    have hw : v_ws L sg u v W H N day heat x st me so n a k (v_bl u v) = v_gn L sg u v W H N day heat x st me so n a k + v_ws L sg u v W H N day heat x st me so n 0 0 (v_bl u v) := by
      rw [v_ws_d, if_pos hkb, v_ws_0 (b' := 0)]
      unfold v_tm v_gn
      rw [if_pos q, if_pos q]; omega
    have h1 : v_go s1 L u v W H day heat x st me so := by
      unfold v_go at h ⊢
      rw [a2.1 65 (by decide) (by decide), a2.1 67 (by decide) (by decide)]
      exact ⟨h.1, h.2.1, a2.2.2, h.2.2.2⟩
    have hZ1 : v_Z (s1.1 65) N sg := by rw [a2.1 65 (by decide) (by decide)]; exact hZ
    obtain ⟨s', r1, r2⟩ := ih (k + 1) m (by omega) (by omega) s1 h1 hZ1
    refine ⟨s', ?_, fun a h1 h2 => (r2.1 a h1 h2).trans (a2.1 a h1 h2), r2.2.1.trans a2.2.1, r2.2.2⟩
    refine a1.trans ?_
    show (if _ then _ else _) = _
    simp only [v_bs] at r1
    rw [if_pos q] at r1
    by_cases q1 : (v_bs (v_gn L sg u v W H N day heat x st me so n a) so k).1 = -1
    · rw [if_pos (Or.inl q1)] at r1
      rw [if_pos q1, hw]
      unfold v_rv at r1
      rw [if_neg (show ¬ ((k : Int), v_gn L sg u v W H N day heat x st me so n a k).1 = -1 by show ¬ (k : Int) = -1; omega)] at r1
      exact r1
    have hv : v_rv (v_bs (v_gn L sg u v W H N day heat x st me so n a) so k) (v_ws L sg u v W H N day heat x st me so n 0 0 (v_bl u v)) = (v_bs (v_gn L sg u v W H N day heat x st me so n a) so k).2 + v_ws L sg u v W H N day heat x st me so n 0 0 (v_bl u v) := if_neg q1
    rw [if_neg q1, hv, hw]
    by_cases q2 : (v_bs (v_gn L sg u v W H N day heat x st me so n a) so k).2 < v_gn L sg u v W H N day heat x st me so n a k
    · rw [if_pos (Or.inr q2)] at r1
      rw [if_pos (by omega)]
      unfold v_rv at r1
      rw [if_neg (show ¬ ((k : Int), v_gn L sg u v W H N day heat x st me so n a k).1 = -1 by show ¬ (k : Int) = -1; omega)] at r1
      exact r1
    · rw [if_neg (fun e => e.elim q1 q2), hv] at r1
      rw [if_neg (by omega)]
      exact r1
theorem R_strawBest (h : v_R t s) {x1 x2 : Int} : v_AA t (F_X11_strawBest t s x1 x2) (fun s1 => F_X12_strawBest s1 x1 x2) := by
  obtain ⟨e, L, u, v, W, H, st, me, so, N, sg, day, heat, x, hG, hQ, hB, hM, hZ, hS, hE, hCT, hY, hN1, hgo, hC, hBd⟩ := h.come
  have h64 := hG.ac.2.2.1
  have n10 : ¬ (1 : Int) = 0 := by decide
  by_cases c1 : 0 ≤ x1 ∧ x1 ≤ 9
  rotate_left
  · refine v_AA.same h (-1) ?_ ?_
    · unfold F_X11_strawBest; rw [P_within, d_b_t, v_bf c1, if_pos rfl]
    · show F_X12_strawBest s x1 x2 = _; unfold F_X12_strawBest; rw [P_isIn, d_b_t, v_bf c1, if_pos rfl]
  by_cases c2 : 1 ≤ x2 ∧ x2 ≤ 20
  rotate_left
  · refine v_AA.same h (-1) ?_ ?_
    · unfold F_X11_strawBest; rw [P_within, d_b_t, v_bt c1, if_neg n10, P_within, d_b_t, v_bf c2, if_pos rfl]
    · show F_X12_strawBest s x1 x2 = _; unfold F_X12_strawBest; rw [P_isIn, d_b_t, v_bt c1, if_neg n10, P_isIn, d_b_t, v_bf c2, if_pos rfl]
  obtain ⟨a, rfl⟩ : ∃ a : Nat, x1 = a := ⟨x1.toNat, by omega⟩
  obtain ⟨n, rfl⟩ : ∃ n : Nat, x2 = n := ⟨x2.toNat, by omega⟩
  obtain ⟨s1, a1, a2⟩ := v_sbC (t := t) (a := a) (n := n) (by omega) (by omega) (v_bl u v) 0 d_N (by omega) (by rw [d_N_is]; omega) s ⟨hM, hQ, hS, hY, hN1, e, hE, hCT⟩
  obtain ⟨s2, b1, b2⟩ := v_sbR (a := a) (n := n) (N := N) (sg := sg) (by omega) (by omega) (v_bl u v) 0 d_N (by omega) (by rw [d_N_is]; omega) s1 (a2.go hgo) (by rw [a2.1 65 (by decide) (by decide) (by decide)]; exact hZ)
  refine ⟨(v_bs (v_gn L sg u v W H N day heat x st me so n a) so (v_bl u v)).1, s1, s2, ?_, ?_, h.scr (fun a ha => ?_) (fun a ha => by rw [b2.2.1]; exact a2.2.1 a ha) ⟨by rw [b2.1 49 (by decide) (by decide)]; exact a2.2.2, b2.2.2⟩⟩
  · unfold F_X11_strawBest
    rw [P_within, d_b_t, v_bt c1, if_neg n10, P_within, d_b_t, v_bt c2, if_neg n10]
    exact a1
  · show F_X12_strawBest s1 _ _ = _
    unfold F_X12_strawBest
    rw [P_isIn, d_b_t, v_bt c1, if_neg n10, P_isIn, d_b_t, v_bt c2, if_neg n10]
    exact b1
  · unfold v_cl at ha
    rw [b2.1 a (by omega) (by omega), a2.1 a (by omega) (by omega) (by omega)]
end V51

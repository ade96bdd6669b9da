def v_dn1 (p : Int × Int × Int) : Int × Int × Int := if p.1 < 999 then (p.1 + 1, p.2.2 % 10, (p.2.2 * 281 + 179) % 30293) else p
def v_dn : Nat → Int × Int × Int → Int × Int × Int
  | 0, p => p
  | n + 1, p => v_dn n (v_dn1 p)
def v_sa (st : Nat → Nat) (b a : Nat) : Nat → Nat := fun j => if j = b then min 9 (st j + a) else st j
def v_pn (L : v_LR) (sg : Nat → Nat → Nat) (u v W H N : Nat) (day heat x : Int) (st me so : Nat → Nat) (n a b : Nat) : Int :=
  let q := v_rn L ((v_sz u v W H b : Nat) : Int) ((v_ed u v W H b : Nat) : Int) ((so b : Nat) : Int) n (day, heat, ((min 9 (st b + a) : Nat) : Int), ((me b : Nat) : Int), x)
  if q.2.2.2.1 < 100 then v_sel L q.1 q.2.1 ((v_sz u v W H b : Nat) : Int) q.2.2.1 q.2.2.2.1 ((v_ed u v W H b : Nat) : Int) ((v_pc (v_si sg u v W H N b) 12 : Nat) : Int) ((v_ki sg u v W H N b : Nat) : Int) else 0
section V49
variable {s s1 s2 : d_S} {t : Nat → Option p_C} {L : v_LR} {u v W H b N n : Nat} {st me so : Nat → Nat} {sg : Nat → Nat → Nat} {day heat x : Int} {e : Option Nat} {q : v_T5} {size edge sold : Int}
theorem v_rn_dn : ∀ (n : Nat) (q : v_T5), ((v_rn L size edge sold n q).1, (v_rn L size edge sold n q).2.1, (v_rn L size edge sold n q).2.2.2.2) = v_dn n (q.1, q.2.1, q.2.2.2.2) := by
  intro n
  induction n with
  | zero => intro q; rfl
  | succ n ih =>
    intro q
    by_cases h : q.1 < 999
    · have e1 : v_rn L size edge sold (n + 1) q = v_rn L size edge sold n (v_s1 L size edge sold q) := if_pos h
      have e2 : v_dn (n + 1) (q.1, q.2.1, q.2.2.2.2) = v_dn n (q.1 + 1, q.2.2.2.2 % 10, (q.2.2.2.2 * 281 + 179) % 30293) := by
        show v_dn n (v_dn1 _) = _
        unfold v_dn1
        rw [if_pos h]
      rw [e1, e2]; exact ih _
    · have e2 : v_dn (n + 1) (q.1, q.2.1, q.2.2.2.2) = v_dn n (q.1, q.2.1, q.2.2.2.2) := by
        show v_dn n (v_dn1 _) = _
        unfold v_dn1
        rw [if_neg h]
      rw [e2, ← ih, v_rn_e h, v_rn_e h]
theorem P_goOn2 (h : v_go s L u v W H day heat x st me so) : ∃ s' st' me', F_X12_goOn s = some s' ∧ v_go s' L u v W H (v_dn1 (day, heat, x)).1 (v_dn1 (day, heat, x)).2.1 (v_dn1 (day, heat, x)).2.2 st' me' so ∧ v_rf s s' ∧ (∀ n, v_stn L u v W H day heat x st me so (n + 1) = v_stn L u v W H (v_dn1 (day, heat, x)).1 (v_dn1 (day, heat, x)).2.1 (v_dn1 (day, heat, x)).2.2 st' me' so n) ∧ ∀ n, v_men L u v W H day heat x st me so (n + 1) = v_men L u v W H (v_dn1 (day, heat, x)).1 (v_dn1 (day, heat, x)).2.1 (v_dn1 (day, heat, x)).2.2 st' me' so n := by
  obtain ⟨hG, hT, hN, hB, ⟨e9, e10, e13⟩, h9, h10, hx⟩ := h
  have hac := hG.ac
  unfold F_X12_goOn v_dn1
  rw [e9]
  by_cases c : day < 999
  · rw [if_pos c]
    have c' : (day, heat, x).1 < 999 := c
    rw [if_pos c']
    obtain ⟨s1, g1, g2, ⟨g3, g4, g5⟩, g6, g7, g8, g9⟩ := P_pass hG hT hN hB e9 e10 e13 ⟨h9.1, c⟩ h10 hx
    refine ⟨s1, _, _, by rw [g1, d_b_t], ⟨?_, ?_, g9, g2, ⟨g3, g4, g5⟩, by show 0 ≤ day + 1 ∧ day + 1 ≤ 999; omega, by show 0 ≤ x % 10 ∧ x % 10 ≤ 9; omega, by show 0 ≤ (x * 281 + 179) % 30293 ∧ (x * 281 + 179) % 30293 < 30293; omega⟩, ⟨g6, g7, g8⟩, fun n => v_stn_s ⟨h9.1, c⟩ h10 hx (fun b hb => (hB b hb).2) hac.2.2.1, fun n => v_men_s ⟨h9.1, c⟩ h10 hx (fun b hb => (hB b hb).2) hac.2.2.1⟩
    · obtain ⟨⟨a1, a2, a3, a4⟩, ar⟩ := hG
      exact ⟨⟨by rw [g6 14 (by decide) (by decide) (by decide) (by decide)]; exact a1, by rw [g6 15 (by decide) (by decide) (by decide) (by decide)]; exact a2, by rw [g6 16 (by decide) (by decide) (by decide) (by decide)]; exact a3, by rw [g6 17 (by decide) (by decide) (by decide) (by decide)]; exact a4⟩, ar⟩
    · rw [g7 67 (by decide) (by decide), g6 2 (by decide) (by decide) (by decide) (by decide)]; exact hT
  · rw [if_neg c]
    have c' : ¬ (day, heat, x).1 < 999 := c
    rw [if_neg c']
    exact ⟨s, st, me, rfl, ⟨hG, hT, hN, hB, ⟨e9, e10, e13⟩, h9, h10, hx⟩, v_rf.rf, fun n => by rw [v_stn_e c, v_stn_e c], fun n => by rw [v_men_e c, v_men_e c]⟩
theorem v_wl2 {K : d_S → Option (Int × d_S)} {N' : Nat} (hN' : N' ≤ 100) : ∀ (j k m : Nat), k + j = N' → j < m → ∀ (s : d_S) (day heat x : Int) (st me : Nat → Nat), v_go s L u v W H day heat x st me so → ∃ s', F_X12_worthLater_l2 K m (N' : Int) (k : Int) s = K s' ∧ v_go s' L u v W H (v_dn j (day, heat, x)).1 (v_dn j (day, heat, x)).2.1 (v_dn j (day, heat, x)).2.2 (v_stn L u v W H day heat x st me so j) (v_men L u v W H day heat x st me so j) so ∧ v_rf s s' := by
  intro j
  induction j with
  | zero =>
    intro k m hk hm s day heat x st me h
    obtain ⟨m, rfl⟩ : ∃ q, m = q + 1 := ⟨m - 1, by omega⟩
    refine ⟨s, ?_, by rw [v_stn_0, v_men_0]; exact h, v_rf.rf⟩
    show F_X12_worthLater_l2_b K (F_X12_worthLater_l2 K m) _ _ s = _
    unfold F_X12_worthLater_l2_b
    rw [if_neg (by omega)]
  | succ j ih =>
    intro k m hk hm s day heat x st me h
    obtain ⟨m, rfl⟩ : ∃ q, m = q + 1 := ⟨m - 1, by omega⟩
    obtain ⟨s1, st1, me1, g1, g2, g3, g4, g5⟩ := P_goOn2 h
    obtain ⟨s', r1, r2, r3⟩ := ih (k + 1) m (by omega) (by omega) s1 _ _ _ st1 me1 g2
    refine ⟨s', ?_, by rw [g4, g5]; exact r2, g3.tr r3⟩
    show F_X12_worthLater_l2_b K (F_X12_worthLater_l2 K m) _ _ s = _
    unfold F_X12_worthLater_l2_b
    rw [if_pos (by omega), g1, d_b_t, d_w_id (by omega) (by omega)]
    exact r1
theorem P_pence (h : v_rdy t s L u v W H st me so N sg day heat x) (hb : b < v_bl u v) {a : Nat} (ha : a ≤ 9) (hn : n ≤ 100) : ∃ s2, F_X0_penceBehind t s (b : Int) (a : Int) (n : Int) = some (v_pn L sg u v W H N day heat x st me so n a b, s2) ∧ v_rdy t s2 L u v W H st me so N sg day heat x ∧ v_cf s s2 := by
  obtain ⟨hM, hQ, hS, hY, hN, e, hE, hCT⟩ := id h
  have h64 := hQ.2.2.1
  obtain ⟨-, m1, m2, m3⟩ := hM b (by omega)
  obtain ⟨s1, a1, a2, a3, a4, a5, a6, a7⟩ := P_start hM hQ hb hE hY hN
  obtain ⟨⟨k6, k7, k8, k9, k5, k10⟩, ⟨o1, o2, o3, o4, o5⟩, hso⟩ := id a2
  have k8 : s1.1 47 8 = ((st b : Nat) : Int) := k8
  obtain ⟨y, hy, hy9⟩ : ∃ y : Nat, y = min 9 (st b + a) ∧ y ≤ 9 := ⟨_, rfl, by omega⟩
  obtain ⟨s3, hs3⟩ : ∃ q, q = d_si s1 47 8 (y : Int) := ⟨_, rfl⟩
  have f47 : ∀ k, s3.1 47 k = d_u (s1.1 47) 8 (y : Int) k := fun k => by rw [hs3, d_si_i]
  have fo : ∀ a, a ≠ 47 → s3.1 a = s1.1 a := fun a ha => by rw [hs3, d_si_n ha]
  have f2 : s3.2 = s1.2 := by rw [hs3]; rfl
  have hK3 : v_K s3 (day, heat, (y : Int), ((me b : Nat) : Int), x) ((so b : Nat) : Int) := by
    refine ⟨⟨?_, ?_, ?_, ?_, ?_, ?_⟩, ⟨o1, o2, by show 0 ≤ (y : Int) ∧ (y : Int) ≤ 9; omega, o4, o5⟩, hso⟩
    · rw [f47, d_u_n (by decide)]; exact k6
    · rw [f47, d_u_n (by decide)]; exact k7
    · rw [f47, d_u_t]
    · rw [f47, d_u_n (by decide)]; exact k9
    · rw [f47, d_u_n (by decide)]; exact k5
    · rw [f47, d_u_n (by decide)]; exact k10
  have hb3 : v_tb s3 ((v_sz u v W H b : Nat) : Int) ((v_ed u v W H b : Nat) : Int) := by
    unfold v_tb at a5 ⊢
    rw [fo 49 (by decide)]; exact a5
  obtain ⟨s4, b1, b2, b3, b4, b5, b6⟩ := P_run (t := t) (L := L) (n := n) hn (by rw [f2, a4]; exact hCT) hK3 hb3
  have c4 : v_cf s s4 := ⟨fun a h1 h2 h3 => by rw [b3 a h1 h2 h3, fo a h1, a6 a h1 h2], fun a ha => by rw [b4, f2, a7 a ha], b5.2.2⟩
  have e1 : F_J9_min_7cf53 9 (d_w (s1.1 47 8 + (a : Int))) = some (y : Int) := by
    rw [k8, d_w_id (by omega) (by omega), P_min]; congr 1; omega
  have hgo : F_X0_penceBehind t s (b : Int) (a : Int) (n : Int) = if s4.1 47 9 < 100 then d_b2 (F_X0_sellsAt t s4) (fun v5 s6 => some (v5, s6)) else some (0, s4) := by
    unfold F_X0_penceBehind
    rw [a1, d_b_t, e1, d_b_t, d_l_t, ← hs3, b1, d_b_t]
  have h9 := b2.1.2.2.2.1
  have fr : ∀ {z : d_S}, v_cf s z → v_rdy t z L u v W H st me so N sg day heat x := fun hz => h.fr (fun a ha => hz.1 a (by omega) (by omega) (by omega)) (hz.2.1 5 (by decide)) hz.2.2
  rw [hgo, h9]
  unfold v_pn
  rw [← hy]
  by_cases q : (v_rn L ((v_sz u v W H b : Nat) : Int) ((v_ed u v W H b : Nat) : Int) ((so b : Nat) : Int) n (day, heat, (y : Int), ((me b : Nat) : Int), x)).2.2.2.1 < 100
  · obtain ⟨s5, d1, d2, d3, d4⟩ := P_sellsAt (L := L) (b := b) (N := N) (sg := sg) (by rw [b4, f2, a4]; exact hCT) b2 b5 (hQ.fr (fun a h1 h2 => c4.1 a (by omega) (by omega) (by omega))) (fr c4).2.2.1 (b6.trans (by rw [f47, d_u_n (by decide)]; exact a3)) hb
    have c5 : v_cf s s5 := ⟨fun a h1 h2 h3 => by rw [d2 a h2 h3, c4.1 a h1 h2 h3], fun a ha => by rw [d3, c4.2.1 a ha], d4⟩
    refine ⟨s5, ?_, fr c5, c5⟩
    rw [if_pos q, if_pos q, d1, d_b2_t]
  · refine ⟨s4, ?_, fr c4, c4⟩
    rw [if_neg q, if_neg q]
end V49

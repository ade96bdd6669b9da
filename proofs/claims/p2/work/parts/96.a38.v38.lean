section V38
variable {s s1 s2 : d_S} {t : Nat → Option p_C} {L : v_LR} {u v W H b N n : Nat} {st me so : Nat → Nat} {sg : Nat → Nat → Nat} {day heat x : Int} {e : Option Nat}
def v_pr1 (L : v_LR) (sg : Nat → Nat → Nat) (u v W H N : Nat) (day heat : Int) (st me : Nat → Nat) (b : Nat) : Int := v_sel L day heat ((v_sz u v W H b : Nat) : Int) ((st b : Nat) : Int) ((me b : Nat) : Int) ((v_ed u v W H b : Nat) : Int) ((v_pc (v_si sg u v W H N b) 12 : Nat) : Int) ((v_ki sg u v W H N b : Nat) : Int)
theorem P_sellsNow (hM : v_M s st me so) (hQ : v_Q s u v W H) (hS : v_S s N sg) (hE : F_X9_ruler_3 s = some e) (hCT : v_CT t e L) (hY : v_Y s day heat x) (hc : v_cf s s1) (hb : b < v_bl u v) : ∃ s2, F_X11_sellsNow t s1 (b : Int) = some (v_pr1 L sg u v W H N day heat st me b, s2) ∧ v_cf s s2 := by
  have hY' := hY
  obtain ⟨⟨y1, y2, y3⟩, y4⟩ := hY'
  obtain ⟨z1, a1, a2, a3, a4, a5, a6, a7⟩ := P_start (s := s1) (hM.fr (hc.1 7 (by decide) (by decide) (by decide))) (hQ.fr (fun a h1 h2 => hc.1 a (by omega) (by omega) (by omega))) hb (e := e) (by rw [P_ruler_fr (hc.1 3 (by decide) (by decide) (by decide)) (hc.2.1 5 (by decide))]; exact hE) (day := day) (heat := heat) (x := x) ⟨by rw [hc.1 6 (by decide) (by decide) (by decide)]; exact ⟨y1, y2, y3⟩, y4⟩ hc.2.2
  have hc2 : v_cf s z1 := ⟨fun a h1 h2 h3 => by rw [a6 a h1 h2, hc.1 a h1 h2 h3], fun a ha => by rw [a7 a ha, hc.2.1 a ha], a5.2.2⟩
  obtain ⟨z2, b1, b2, b3, b4⟩ := P_sellsAt (L := L) (b := b) (by rw [a4]; exact hCT) a2 a5 (hQ.fr (fun a h1 h2 => hc2.1 a (by omega) (by omega) (by omega))) (N := N) (sg := sg) (by
      unfold v_S at hS ⊢
      rw [hc2.1 3 (by decide) (by decide) (by decide), hc2.1 4 (by decide) (by decide) (by decide)]; exact hS) a3 hb
  refine ⟨z2, ?_, ⟨fun a h1 h2 h3 => by rw [b2 a h2 h3, hc2.1 a h1 h2 h3], fun a ha => by rw [b3, hc2.2.1 a ha], b4⟩⟩
  unfold F_X11_sellsNow
  rw [a1, d_b_t, b1, d_b2_t]; rfl
abbrev v_hk (sg : Nat → Nat → Nat) (u v W H N y b : Nat) : Prop := ∃ n, n < N ∧ sg n 0 = y ∧ 0 < v_ce sg u v W H n b
theorem v_sofl {y : Nat} (hS : v_S s N sg) : ∀ (j k m : Nat), k + j = N → j < m → F_X11_sightsOf_l4 s m (y : Int) ((v_sb (fun n => sg n 0 = y) k : Nat) : Int) (k : Int) = some ((v_sb (fun n => sg n 0 = y) N : Nat) : Int) := by
  intro j
  induction j with
  | zero =>
    intro k m hk hm
    obtain ⟨m, rfl⟩ : ∃ q, m = q + 1 := ⟨m - 1, by omega⟩
    have hk : k = N := by omega
    subst hk
    show F_X11_sightsOf_l4_b s (F_X11_sightsOf_l4 s m) _ _ _ = _
    unfold F_X11_sightsOf_l4_b
    rw [hS.1, if_neg (by omega)]
  | succ j ih =>
    intro k m hk hm
    obtain ⟨m, rfl⟩ : ∃ q, m = q + 1 := ⟨m - 1, by omega⟩
    have hkN : k < N := by omega
    have hN12 := hS.2.1
    have hr := ih (k + 1) m (by omega) (by omega)
    have hlt : v_sb (fun n => sg n 0 = y) k < 2 ^ k := v_sb_lt k
    have h12 := v_2p (n := k) (by omega)
    show F_X11_sightsOf_l4_b s (F_X11_sightsOf_l4 s m) _ _ _ = _
    unfold F_X11_sightsOf_l4_b
    simp only [v_sb] at hr
    rw [hS.1, if_pos (by omega), P_sightPart hS hkN (by decide) (by decide), d_b_t, show (0 : Int).toNat = 0 from rfl, d_w_id (x := (k : Int) + 1) (by omega) (by omega), v_bit1_, v_bit0_, d_b_t, d_b_t]
    by_cases q : sg k 0 = y
    · rw [if_pos q] at hr
      rw [if_pos (by omega), v_or1 (by omega) hlt]
      exact hr
    · rw [if_neg q] at hr
      rw [if_neg (by omega), v_0shl (by omega), v_or0 ⟨by omega, by omega⟩]
      exact hr
theorem P_sightsOf {y : Nat} (hS : v_S s N sg) : F_X11_sightsOf s (y : Int) = some ((v_sb (fun n => sg n 0 = y) N : Nat) : Int) := by
  unfold F_X11_sightsOf
  exact v_sofl hS N 0 d_N (by omega) (by rw [d_N_is]; have := hS.2.1; omega)
theorem v_sb_and {P Q : Nat → Prop} [DecidablePred P] [DecidablePred Q] {k : Nat} : v_sb P k &&& v_sb Q k = 0 ↔ ∀ n, n < k → ¬ (P n ∧ Q n) := by
  constructor
  · intro h n hn hpq
    have := congrArg (fun z => Nat.testBit z n) h
    simp only [Nat.testBit_and, v_sb_tb, Nat.zero_testBit] at this
    simp [hn, hpq.1, hpq.2] at this
  · intro h
    refine Nat.eq_of_testBit_eq (fun i => ?_)
    rw [Nat.testBit_and, v_sb_tb, v_sb_tb, Nat.zero_testBit]
    by_cases q : i < k
    · have := h i q
      by_cases p1 : P i <;> by_cases p2 : Q i <;> simp [q, p1, p2] at this ⊢
    · simp [q]
noncomputable def v_us (L : v_LR) (sg : Nat → Nat → Nat) (u v W H N : Nat) (day heat : Int) (st me so : Nat → Nat) (y : Nat) : Nat → Int
  | 0 => 0
  | k + 1 => if so k = 0 ∧ v_hk sg u v W H N y k then d_w (v_us L sg u v W H N day heat st me so y k + v_pr1 L sg u v W H N day heat st me k) else v_us L sg u v W H N day heat st me so y k
theorem v_us_R {y : Nat} : ∀ k, d_R (v_us L sg u v W H N day heat st me so y k)
  | 0 => d_rl rfl
  | k + 1 => by
    simp only [v_us]
    split
    · exact d_R_w
    · exact v_us_R k
theorem v_unCl {y : Nat} (hM : v_M s st me so) (hQ : v_Q s u v W H) (hS : v_S s N sg) (hE : F_X9_ruler_3 s = some e) (hCT : v_CT t e L) (hY : v_Y s day heat x) : ∀ (j k m : Nat), k + j = v_bl u v → j < m → ∀ s1, v_cf s s1 → ∃ s', F_X11_unseen_l46 t m ((v_sb (fun n => sg n 0 = y) N : Nat) : Int) (v_us L sg u v W H N day heat st me so y k) (k : Int) s1 = some (v_us L sg u v W H N day heat st me so y (v_bl u v), s') ∧ v_cf s s' := by
  have h64 := hQ.2.2.1
  intro j
  induction j with
  | zero =>
    intro k m hk hm s1 hc
    obtain ⟨m, rfl⟩ : ∃ q, m = q + 1 := ⟨m - 1, by omega⟩
    have hk : k = v_bl u v := by omega
    subst hk
    refine ⟨s1, ?_, hc⟩
    show F_X11_unseen_l46_b t (F_X11_unseen_l46 t m) _ _ _ s1 = _
    unfold F_X11_unseen_l46_b
    rw [hc.1 37 (by decide) (by decide) (by decide), hQ.1, if_neg (by omega)]
  | succ j ih =>
    intro k m hk hm s1 hc
    obtain ⟨m, rfl⟩ : ∃ q, m = q + 1 := ⟨m - 1, by omega⟩
    have hkb : k < v_bl u v := by omega
    have hQ1 : v_Q s1 u v W H := hQ.fr (fun a h1 h2 => hc.1 a (by omega) (by omega) (by omega))
    have hS1 : v_S s1 N sg := by
      unfold v_S at hS ⊢
      rw [hc.1 3 (by decide) (by decide) (by decide), hc.1 4 (by decide) (by decide) (by decide)]; exact hS
    have hM1 : v_M s1 st me so := hM.fr (hc.1 7 (by decide) (by decide) (by decide))
    have l1 : v_si sg u v W H N k < 4096 := v_sb12 hS.2.1
    have l2 : v_sb (fun n => sg n 0 = y) N < 4096 := v_sb12 hS.2.1
    have hand : v_si sg u v W H N k &&& v_sb (fun n => sg n 0 = y) N = 0 ↔ ¬ v_hk sg u v W H N y k := by
      unfold v_si
      rw [v_sb_and]
      exact ⟨fun h => by rintro ⟨n, h1, h2, h3⟩; exact h n h1 ⟨h3, h2⟩, fun h n h1 h2 => h ⟨n, h1, h2.2, h2.1⟩⟩
    show ∃ s', F_X11_unseen_l46_b t (F_X11_unseen_l46 t m) _ _ _ s1 = _ ∧ _
    unfold F_X11_unseen_l46_b
    rw [hQ1.1, if_pos (by omega), P_isSoldC hM1 (by omega), d_b_t, d_w_id (x := (k : Int) + 1) (by omega) (by omega)]
    by_cases q : so k = 0
    rotate_left
    · rw [if_neg (by omega)]
      obtain ⟨s', r1, r2⟩ := ih (k + 1) m (by omega) (by omega) s1 hc
      simp only [v_us] at r1
      rw [if_neg (fun e => q e.1)] at r1
      exact ⟨s', r1, r2⟩
    rw [if_pos (by omega), P_sightsInC hQ1 hS1 hkb, d_b_t, v_and (by omega) (by omega)]
    by_cases q2 : v_hk sg u v W H N y k
    rotate_left
    · rw [if_pos (by have := hand.2 q2; omega)]
      obtain ⟨s', r1, r2⟩ := ih (k + 1) m (by omega) (by omega) s1 hc
      simp only [v_us] at r1
      rw [if_neg (fun e => q2 e.2)] at r1
      exact ⟨s', r1, r2⟩
    rw [if_neg (fun e => hand.1 (by omega) q2)]
    obtain ⟨s2, a1, a2⟩ := P_sellsNow (L := L) (N := N) (sg := sg) hM hQ hS hE hCT hY hc hkb
    obtain ⟨s', r1, r2⟩ := ih (k + 1) m (by omega) (by omega) s2 a2
    simp only [v_us] at r1
    rw [if_pos ⟨q, q2⟩] at r1
    exact ⟨s', by rw [a1, d_b2_t]; exact r1, r2⟩
end V38

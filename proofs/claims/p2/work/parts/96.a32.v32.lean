def v_qn (L : v_LR) (u v W H : Nat) (day heat x : Int) (st me so : Nat → Nat) (n b : Nat) : v_T5 := v_rn L ((v_sz u v W H b : Nat) : Int) ((v_ed u v W H b : Nat) : Int) ((so b : Nat) : Int) n (day, heat, ((st b : Nat) : Int), ((me b : Nat) : Int), x)
def v_stn (L : v_LR) (u v W H : Nat) (day heat x : Int) (st me so : Nat → Nat) (n b : Nat) : Nat := if b < v_bl u v then (v_qn L u v W H day heat x st me so n b).2.2.1.toNat else st b
def v_men (L : v_LR) (u v W H : Nat) (day heat x : Int) (st me so : Nat → Nat) (n b : Nat) : Nat := if b < v_bl u v then (v_qn L u v W H day heat x st me so n b).2.2.2.1.toNat else me b
def v_rf (s s' : d_S) : Prop := (∀ j, j ≠ 9 → j ≠ 10 → j ≠ 13 → (j < 20 ∨ 212 ≤ j) → s'.1 65 j = s.1 65 j) ∧ (∀ a, a ≠ 65 → a ≠ 71 → s'.1 a = s.1 a) ∧ s'.2.1 = s.2.1
def v_cf (s s' : d_S) : Prop := (∀ a, a ≠ 47 → a ≠ 49 → a ≠ 50 → s'.1 a = s.1 a) ∧ (∀ a, a ≠ 47 → s'.2.1 a = s.2.1 a) ∧ v_Nm (s'.1 49)
section V32
variable {s s1 s2 : d_S} {t : Nat → Option p_C} {L : v_LR} {u v W H b N n : Nat} {st me so : Nat → Nat} {sg : Nat → Nat → Nat} {day heat x : Int} {e : Option Nat} {q : v_T5} {size edge sold : Int}
theorem v_rf.rf : v_rf s s := ⟨fun _ _ _ _ _ => rfl, fun _ _ _ => rfl, rfl⟩
theorem v_rf.tr (h : v_rf s s1) (h' : v_rf s1 s2) : v_rf s s2 := ⟨fun j a b c d => (h'.1 j a b c d).trans (h.1 j a b c d), fun a b c => (h'.2.1 a b c).trans (h.2.1 a b c), h'.2.2.trans h.2.2⟩
theorem v_cf.tr (h : v_cf s s1) (h' : v_cf s1 s2) : v_cf s s2 := ⟨fun a b c d => (h'.1 a b c d).trans (h.1 a b c d), fun a b => (h'.2.1 a b).trans (h.2.1 a b), h'.2.2⟩
theorem v_rn_e (h : ¬ q.1 < 999) : ∀ n, v_rn L size edge sold n q = q
  | 0 => rfl
  | n + 1 => by simp only [v_rn]; rw [if_neg h]
theorem v_rn_1 : ∀ (n : Nat) (q : v_T5), v_rn L size edge sold 1 (v_rn L size edge sold n q) = v_rn L size edge sold (n + 1) q := by
  intro n
  induction n with
  | zero => intro q; rfl
  | succ n ih =>
    intro q
    by_cases h : q.1 < 999
    · have e1 : v_rn L size edge sold (n + 1) q = v_rn L size edge sold n (v_s1 L size edge sold q) := if_pos h
      have e2 : v_rn L size edge sold (n + 1 + 1) q = v_rn L size edge sold (n + 1) (v_s1 L size edge sold q) := if_pos h
      rw [e1, e2]; exact ih _
    · rw [v_rn_e h, v_rn_e h, v_rn_e h]
theorem v_qn_ok (h9 : 0 ≤ day ∧ day ≤ 999) (h10 : 0 ≤ heat ∧ heat ≤ 9) (hx : 0 ≤ x ∧ x < 30293) (hs : st b ≤ 9) (hm : me b ≤ 100) : v_ok (v_qn L u v W H day heat x st me so n b) :=
  v_ok.rn n _ ⟨h9, h10, by show 0 ≤ ((st b : Nat) : Int) ∧ ((st b : Nat) : Int) ≤ 9; omega, by show 0 ≤ ((me b : Nat) : Int) ∧ ((me b : Nat) : Int) ≤ 100; omega, hx⟩
theorem v_qn_s (h9 : 0 ≤ day ∧ day < 999) (h10 : 0 ≤ heat ∧ heat ≤ 9) (hx : 0 ≤ x ∧ x < 30293) (hb : ∀ b, b < 64 → st b ≤ 9 ∧ me b ≤ 100 ∧ so b ≤ 1) (h64 : v_bl u v ≤ 64) (hbl : b < v_bl u v) : v_qn L u v W H day heat x st me so (n + 1) b = v_qn L u v W H (day + 1) (x % 10) ((x * 281 + 179) % 30293) (v_nst L u v W H day heat x st me so (v_bl u v)) (v_nme L u v W H day heat x st me so (v_bl u v)) so n b := by
  obtain ⟨h1, h2, -⟩ := hb b (by omega)
  have hok : v_ok (v_nb L u v W H day heat x st me so b) := v_ok.s1 (q := (day, heat, ((st b : Nat) : Int), ((me b : Nat) : Int), x)) ⟨⟨h9.1, by show day ≤ 999; omega⟩, h10, by show 0 ≤ ((st b : Nat) : Int) ∧ ((st b : Nat) : Int) ≤ 9; omega, by show 0 ≤ ((me b : Nat) : Int) ∧ ((me b : Nat) : Int) ≤ 100; omega, hx⟩ h9.2
  have e1 : ((v_nst L u v W H day heat x st me so (v_bl u v) b : Nat) : Int) = (v_nb L u v W H day heat x st me so b).2.2.1 := by
    unfold v_nst; rw [if_pos hbl]; exact Int.toNat_of_nonneg hok.2.2.1.1
  have e2 : ((v_nme L u v W H day heat x st me so (v_bl u v) b : Nat) : Int) = (v_nb L u v W H day heat x st me so b).2.2.2.1 := by
    unfold v_nme; rw [if_pos hbl]; exact Int.toNat_of_nonneg hok.2.2.2.1.1
  unfold v_qn
  rw [e1, e2]
  show (if day < 999 then _ else _) = _
  rw [if_pos h9.2]; rfl
theorem v_stn_s (h9 : 0 ≤ day ∧ day < 999) (h10 : 0 ≤ heat ∧ heat ≤ 9) (hx : 0 ≤ x ∧ x < 30293) (hb : ∀ b, b < 64 → st b ≤ 9 ∧ me b ≤ 100 ∧ so b ≤ 1) (h64 : v_bl u v ≤ 64) : v_stn L u v W H day heat x st me so (n + 1) = v_stn L u v W H (day + 1) (x % 10) ((x * 281 + 179) % 30293) (v_nst L u v W H day heat x st me so (v_bl u v)) (v_nme L u v W H day heat x st me so (v_bl u v)) so n := by
  funext b
  unfold v_stn
  by_cases q : b < v_bl u v
  · rw [if_pos q, if_pos q, v_qn_s h9 h10 hx hb h64 q]
  · rw [if_neg q, if_neg q]; unfold v_nst; rw [if_neg q]
theorem v_men_s (h9 : 0 ≤ day ∧ day < 999) (h10 : 0 ≤ heat ∧ heat ≤ 9) (hx : 0 ≤ x ∧ x < 30293) (hb : ∀ b, b < 64 → st b ≤ 9 ∧ me b ≤ 100 ∧ so b ≤ 1) (h64 : v_bl u v ≤ 64) : v_men L u v W H day heat x st me so (n + 1) = v_men L u v W H (day + 1) (x % 10) ((x * 281 + 179) % 30293) (v_nst L u v W H day heat x st me so (v_bl u v)) (v_nme L u v W H day heat x st me so (v_bl u v)) so n := by
  funext b
  unfold v_men
  by_cases q : b < v_bl u v
  · rw [if_pos q, if_pos q, v_qn_s h9 h10 hx hb h64 q]
  · rw [if_neg q, if_neg q]; unfold v_nme; rw [if_neg q]
theorem v_stn_e (h9 : ¬ day < 999) : v_stn L u v W H day heat x st me so n = st := by
  funext b
  unfold v_stn v_qn
  rw [v_rn_e (q := (day, heat, ((st b : Nat) : Int), ((me b : Nat) : Int), x)) h9]
  split
  · exact Int.toNat_natCast _
  · rfl
theorem v_men_e (h9 : ¬ day < 999) : v_men L u v W H day heat x st me so n = me := by
  funext b
  unfold v_men v_qn
  rw [v_rn_e (q := (day, heat, ((st b : Nat) : Int), ((me b : Nat) : Int), x)) h9]
  split
  · exact Int.toNat_natCast _
  · rfl
theorem v_stn_0 : v_stn L u v W H day heat x st me so 0 = st := by
  funext b
  unfold v_stn v_qn
  split
  · exact Int.toNat_natCast _
  · rfl
theorem v_men_0 : v_men L u v W H day heat x st me so 0 = me := by
  funext b
  unfold v_men v_qn
  split
  · exact Int.toNat_natCast _
  · rfl
def v_go (s : d_S) (L : v_LR) (u v W H : Nat) (day heat x : Int) (st me so : Nat → Nat) : Prop := v_G (s.1 65) u v W H ∧ v_RT (s.1 67) (s.1 65 2) L ∧ v_Nm (s.1 71) ∧ v_B (s.1 65) st me so ∧ (s.1 65 9 = day ∧ s.1 65 10 = heat ∧ s.1 65 13 = x) ∧ (0 ≤ day ∧ day ≤ 999) ∧ (0 ≤ heat ∧ heat ≤ 9) ∧ (0 ≤ x ∧ x < 30293)
theorem P_goOn (h : v_go s L u v W H day heat x st me so) : ∃ s' day' heat' x' st' me', F_X12_goOn s = some s' ∧ v_go s' L u v W H day' heat' x' st' me' so ∧ v_rf s s' ∧ (∀ n, v_stn L u v W H day heat x st me so (n + 1) = v_stn L u v W H day' heat' x' st' me' so n) ∧ ∀ n, v_men L u v W H day heat x st me so (n + 1) = v_men L u v W H day' heat' x' st' me' so n := by
  obtain ⟨hG, hT, hN, hB, ⟨e9, e10, e13⟩, h9, h10, hx⟩ := h
  have hac := hG.ac
  unfold F_X12_goOn
  rw [e9]
  by_cases c : day < 999
  · rw [if_pos c]
    obtain ⟨s1, g1, g2, ⟨g3, g4, g5⟩, g6, g7, g8, g9⟩ := P_pass hG hT hN hB e9 e10 e13 ⟨h9.1, c⟩ h10 hx
    refine ⟨s1, day + 1, x % 10, (x * 281 + 179) % 30293, _, _, by rw [g1, d_b_t], ⟨?_, ?_, g9, g2, ⟨g3, g4, g5⟩, by omega, by omega, by omega⟩, ⟨g6, g7, g8⟩, fun n => v_stn_s ⟨h9.1, c⟩ h10 hx (fun b hb => (hB b hb).2) hac.2.2.1, fun n => v_men_s ⟨h9.1, c⟩ h10 hx (fun b hb => (hB b hb).2) hac.2.2.1⟩
    · obtain ⟨⟨a1, a2, a3, a4⟩, ar⟩ := hG
      exact ⟨⟨by rw [g6 14 (by decide) (by decide) (by decide) (by decide)]; exact a1, by rw [g6 15 (by decide) (by decide) (by decide) (by decide)]; exact a2, by rw [g6 16 (by decide) (by decide) (by decide) (by decide)]; exact a3, by rw [g6 17 (by decide) (by decide) (by decide) (by decide)]; exact a4⟩, ar⟩
    · rw [g7 67 (by decide) (by decide), g6 2 (by decide) (by decide) (by decide) (by decide)]; exact hT
  · rw [if_neg c]
    exact ⟨s, day, heat, x, st, me, rfl, ⟨hG, hT, hN, hB, ⟨e9, e10, e13⟩, h9, h10, hx⟩, v_rf.rf, fun n => by rw [v_stn_e c, v_stn_e c], fun n => by rw [v_men_e c, v_men_e c]⟩
theorem v_begl : ∀ (j k m : Nat), k + j = 212 → j < m → ∀ s : d_S, ∃ s', F_X12_begin_l3 m (k : Int) s = some s' ∧ (∀ i, k ≤ i → i < 212 → s'.1 73 i = s.1 65 i) ∧ (∀ i, i < k → s'.1 73 i = s.1 73 i) ∧ (∀ a, a ≠ 73 → s'.1 a = s.1 a) ∧ s'.2 = s.2 := by
  intro j
  induction j with
  | zero =>
    intro k m hk hm s
    obtain ⟨m, rfl⟩ : ∃ q, m = q + 1 := ⟨m - 1, by omega⟩
    refine ⟨s, ?_, fun i h1 h2 => by omega, fun _ _ => rfl, fun _ _ => rfl, rfl⟩
    show F_X12_begin_l3_b (F_X12_begin_l3 m) _ s = _
    unfold F_X12_begin_l3_b
    rw [if_neg (by omega)]
  | succ j ih =>
    intro k m hk hm s
    obtain ⟨m, rfl⟩ : ∃ q, m = q + 1 := ⟨m - 1, by omega⟩
    obtain ⟨s', r1, r2, r3, r4, r5⟩ := ih (k + 1) m (by omega) (by omega) (d_si s 73 k (s.1 65 k))
    refine ⟨s', ?_, fun i h1 h2 => ?_, fun i h1 => ?_, fun a ha => by rw [r4 a ha, d_si_n ha], by rw [r5]; rfl⟩
    · show F_X12_begin_l3_b (F_X12_begin_l3 m) _ s = _
      unfold F_X12_begin_l3_b
      rw [if_pos (by omega), d_g_t (by omega), d_g_t (by omega), Int.toNat_natCast, d_l_t, d_w_id (by omega) (by omega)]
      exact r1
    · by_cases q : i = k
      · subst q; rw [r3 i (by omega), d_si_i, d_u_t]
      · rw [r2 i (by omega) h2, d_si_n (by decide)]
    · rw [r3 i (by omega), d_si_i, d_u_n (by omega)]
theorem P_begin : ∃ s', F_X12_begin s = some s' ∧ (∀ i, 9 ≤ i → i < 212 → s'.1 73 i = s.1 65 i) ∧ (∀ a, a ≠ 73 → s'.1 a = s.1 a) ∧ s'.2 = s.2 := by
  obtain ⟨s', r1, r2, r3, r4, r5⟩ := v_begl 203 9 d_N rfl (by rw [d_N_is]; decide) s
  exact ⟨s', r1, r2, r4, r5⟩
theorem v_putl : ∀ (j k m : Nat), k + j = 212 → j < m → ∀ s : d_S, ∃ s', F_X12_putBack_l3 m (k : Int) s = some s' ∧ (∀ i, k ≤ i → i < 212 → s'.1 65 i = s.1 73 i) ∧ (∀ i, i < k ∨ 212 ≤ i → s'.1 65 i = s.1 65 i) ∧ (∀ a, a ≠ 65 → s'.1 a = s.1 a) ∧ s'.2 = s.2 := by
  intro j
  induction j with
  | zero =>
    intro k m hk hm s
    obtain ⟨m, rfl⟩ : ∃ q, m = q + 1 := ⟨m - 1, by omega⟩
    refine ⟨s, ?_, fun i h1 h2 => by omega, fun _ _ => rfl, fun _ _ => rfl, rfl⟩
    show F_X12_putBack_l3_b (F_X12_putBack_l3 m) _ s = _
    unfold F_X12_putBack_l3_b
    rw [if_neg (by omega)]
  | succ j ih =>
    intro k m hk hm s
    obtain ⟨m, rfl⟩ : ∃ q, m = q + 1 := ⟨m - 1, by omega⟩
    obtain ⟨s', r1, r2, r3, r4, r5⟩ := ih (k + 1) m (by omega) (by omega) (d_si s 65 k (s.1 73 k))
    refine ⟨s', ?_, fun i h1 h2 => ?_, fun i h1 => ?_, fun a ha => by rw [r4 a ha, d_si_n ha], by rw [r5]; rfl⟩
    · show F_X12_putBack_l3_b (F_X12_putBack_l3 m) _ s = _
      unfold F_X12_putBack_l3_b
      rw [if_pos (by omega), d_g_t (by omega), d_g_t (by omega), Int.toNat_natCast, d_l_t, d_w_id (by omega) (by omega)]
      exact r1
    · by_cases q : i = k
      · subst q; rw [r3 i (by omega), d_si_i, d_u_t]
      · rw [r2 i (by omega) h2, d_si_n (by decide)]
    · rw [r3 i (by omega), d_si_i, d_u_n (by omega)]
theorem P_putBack {s0 : d_S} (h73 : ∀ i, 9 ≤ i → i < 212 → s.1 73 i = s0.1 65 i) (h65 : ∀ i, i < 9 ∨ 212 ≤ i → s.1 65 i = s0.1 65 i) : ∃ s', F_X12_putBack s = some s' ∧ s'.1 65 = s0.1 65 ∧ (∀ a, a ≠ 65 → s'.1 a = s.1 a) ∧ s'.2 = s.2 := by
  obtain ⟨s', r1, r2, r3, r4, r5⟩ := v_putl 203 9 d_N rfl (by rw [d_N_is]; decide) s
  refine ⟨s', r1, funext fun i => ?_, r4, r5⟩
  by_cases q : 9 ≤ i ∧ i < 212
  · rw [r2 i q.1 q.2, h73 i q.1 q.2]
  · rw [r3 i (by omega), h65 i (by omega)]
theorem P_course (hM : v_M s st me so) (hQ : v_Q s u v W H) (hb : b < v_bl u v) (hE : F_X9_ruler_3 s = some e) (hCT : v_CT t e L) (hY : v_Y s day heat x) (hc : v_cf s s1) (hn : n ≤ 100) : ∃ s2 s3, F_X0_start s1 (b : Int) = some s2 ∧ F_X0_run t s2 (n : Int) = some s3 ∧ v_K s3 (v_qn L u v W H day heat x st me so n b) ((so b : Nat) : Int) ∧ v_cf s s3 ∧ s3.1 47 4 = (b : Int) := by
  have hY1 : v_Y s1 day heat x := by
    obtain ⟨⟨a, b, c⟩, d⟩ := hY
    exact ⟨by rw [hc.1 6 (by decide) (by decide) (by decide)]; exact ⟨a, b, c⟩, d⟩
  have hE1 : F_X9_ruler_3 s1 = some e := by rw [P_ruler_fr (hc.1 3 (by decide) (by decide) (by decide)) (hc.2.1 5 (by decide))]; exact hE
  obtain ⟨s2, a1, a2, a3, a4, a5, a6, a7⟩ := P_start (hM.fr (hc.1 7 (by decide) (by decide) (by decide))) (hQ.fr (fun a h1 h2 => hc.1 a (by omega) (by omega) (by omega))) hb hE1 hY1 hc.2.2
  obtain ⟨s3, b1, b2, b3, b4, b5, b6⟩ := P_run (t := t) (L := L) hn (by rw [a4]; exact hCT) a2 a5
  exact ⟨s2, s3, a1, b1, b2, ⟨fun a h1 h2 h3 => by rw [b3 a h1 h2 h3, a6 a h1 h2, hc.1 a h1 h2 h3], fun a ha => by rw [b4, a7 a ha, hc.2.1 a ha], b5.2.2⟩, b6.trans a3⟩
end V32

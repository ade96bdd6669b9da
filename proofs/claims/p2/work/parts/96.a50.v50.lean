def v_tm (L : v_LR) (sg : Nat → Nat → Nat) (u v W H N : Nat) (day heat x : Int) (st me so : Nat → Nat) (n a c : Nat) : Int := if so c = 0 then v_pn L sg u v W H N day heat x st me so n a c else 0
def v_ws (L : v_LR) (sg : Nat → Nat → Nat) (u v W H N : Nat) (day heat x : Int) (st me so : Nat → Nat) (n a b : Nat) : Nat → Int
  | 0 => 0
  | k + 1 => v_ws L sg u v W H N day heat x st me so n a b k + v_tm L sg u v W H N day heat x st me so n (if k = b then a else 0) k
section V50
variable {s s0 s1 s2 : d_S} {t : Nat → Option p_C} {L : v_LR} {u v W H b N n a c : Nat} {st me so : Nat → Nat} {sg : Nat → Nat → Nat} {day heat x : Int} {e : Option Nat}
theorem v_pn_b : 0 ≤ v_pn L sg u v W H N day heat x st me so n a c ∧ v_pn L sg u v W H N day heat x st me so n a c ≤ 9999 := by
  unfold v_pn
  by_cases q : (v_rn L ((v_sz u v W H c : Nat) : Int) ((v_ed u v W H c : Nat) : Int) ((so c : Nat) : Int) n (day, heat, ((min 9 (st c + a) : Nat) : Int), ((me c : Nat) : Int), x)).2.2.2.1 < 100
  · simp only [if_pos q]; exact v_sel_b
  · simp only [if_neg q]; omega
theorem v_tm_b : 0 ≤ v_tm L sg u v W H N day heat x st me so n a c ∧ v_tm L sg u v W H N day heat x st me so n a c ≤ 9999 := by
  unfold v_tm
  split
  · exact v_pn_b
  · omega
theorem v_ws_b : ∀ k : Nat, 0 ≤ v_ws L sg u v W H N day heat x st me so n a b k ∧ v_ws L sg u v W H N day heat x st me so n a b k ≤ 9999 * k := by
  intro k
  induction k with
  | zero => exact ⟨Int.le_refl 0, Int.le_refl 0⟩
  | succ k ih =>
    have := v_tm_b (L := L) (sg := sg) (u := u) (v := v) (W := W) (H := H) (N := N) (day := day) (heat := heat) (x := x) (st := st) (me := me) (so := so) (n := n) (a := if k = b then a else 0) (c := k)
    simp only [v_ws]
    omega
theorem v_ws_d : ∀ k : Nat, v_ws L sg u v W H N day heat x st me so n a b k = v_ws L sg u v W H N day heat x st me so n 0 b k + (if b < k then v_tm L sg u v W H N day heat x st me so n a b - v_tm L sg u v W H N day heat x st me so n 0 b else 0) := by
  intro k
  induction k with
  | zero => rfl
  | succ k ih =>
    simp only [v_ws]
    rw [ih]
    by_cases q : k = b
    · rw [if_pos q, if_pos q, if_neg (by omega), if_pos (by omega), q]; omega
    · rw [if_neg q, if_neg q]
      by_cases q2 : b < k
      · rw [if_pos q2, if_pos (by omega)]; omega
      · rw [if_neg q2, if_neg (by omega)]; omega
theorem v_ws_0 {b' : Nat} : ∀ k : Nat, v_ws L sg u v W H N day heat x st me so n 0 b k = v_ws L sg u v W H N day heat x st me so n 0 b' k := by
  intro k
  induction k with
  | zero => rfl
  | succ k ih =>
    simp only [v_ws]
    rw [ih]
    congr 2
    by_cases q : k = b <;> by_cases q' : k = b' <;> simp [q, q']
theorem v_tm_r (hso : ∀ c, c < 64 → st c ≤ 9 ∧ me c ≤ 100 ∧ so c ≤ 1) (h9 : 0 ≤ day ∧ day ≤ 999) (h10 : 0 ≤ heat ∧ heat ≤ 9) (hx : 0 ≤ x ∧ x < 30293) (hc : c < v_bl u v) (h64 : v_bl u v ≤ 64) (ha : a ≤ 9) : v_tm L sg u v W H N day heat x st me so n (if c = b then a else 0) c = if v_csb u v so (v_men L u v W H day heat x (v_sa st b a) me so n) c then v_pr1 L sg u v W H N (v_dn n (day, heat, x)).1 (v_dn n (day, heat, x)).2.1 (v_stn L u v W H day heat x (v_sa st b a) me so n) (v_men L u v W H day heat x (v_sa st b a) me so n) c else 0 := by
  obtain ⟨m1, m2, m3⟩ := hso c (by omega)
  have hst : v_sa st b a c = min 9 (st c + (if c = b then a else 0)) := by
    unfold v_sa
    by_cases q : c = b
    · rw [if_pos q, if_pos q]
    · rw [if_neg q, if_neg q]; omega
  have h9' : v_sa st b a c ≤ 9 := by rw [hst]; omega
  have hok := v_qn_ok (L := L) (u := u) (v := v) (W := W) (H := H) (so := so) (n := n) (st := v_sa st b a) (me := me) (b := c) h9 h10 hx h9' m2
  have hdn := v_rn_dn (L := L) (size := ((v_sz u v W H c : Nat) : Int)) (edge := ((v_ed u v W H c : Nat) : Int)) (sold := ((so c : Nat) : Int)) n (day, heat, ((v_sa st b a c : Nat) : Int), ((me c : Nat) : Int), x)
  have d1 : (v_qn L u v W H day heat x (v_sa st b a) me so n c).1 = (v_dn n (day, heat, x)).1 := congrArg Prod.fst hdn
  have d2 : (v_qn L u v W H day heat x (v_sa st b a) me so n c).2.1 = (v_dn n (day, heat, x)).2.1 := congrArg (fun p => p.2.1) hdn
  have em : ((v_men L u v W H day heat x (v_sa st b a) me so n c : Nat) : Int) = (v_qn L u v W H day heat x (v_sa st b a) me so n c).2.2.2.1 := by
    unfold v_men; rw [if_pos hc]; exact Int.toNat_of_nonneg hok.2.2.2.1.1
  have es : ((v_stn L u v W H day heat x (v_sa st b a) me so n c : Nat) : Int) = (v_qn L u v W H day heat x (v_sa st b a) me so n c).2.2.1 := by
    unfold v_stn; rw [if_pos hc]; exact Int.toNat_of_nonneg hok.2.2.1.1
  have hq : v_rn L ((v_sz u v W H c : Nat) : Int) ((v_ed u v W H c : Nat) : Int) ((so c : Nat) : Int) n (day, heat, ((min 9 (st c + (if c = b then a else 0)) : Nat) : Int), ((me c : Nat) : Int), x) = v_qn L u v W H day heat x (v_sa st b a) me so n c := by
    unfold v_qn; rw [hst]
  unfold v_tm v_pn
  simp only [hq]
  by_cases q : so c = 0
  rotate_left
  · rw [if_neg q, if_neg (fun e => q e.2.1)]
  rw [if_pos q]
  by_cases q2 : (v_qn L u v W H day heat x (v_sa st b a) me so n c).2.2.2.1 < 100
  · rw [if_pos q2, if_pos ⟨hc, q, by omega⟩]
    unfold v_pr1
    rw [em, es, d1, d2]
  · rw [if_neg q2, if_neg (fun e => q2 (by have := e.2.2; omega))]
theorem v_w21 {p : Int × Int × Int} {st' me' : Nat → Nat} (hp : ∀ c, c < v_bl u v → v_tm L sg u v W H N day heat x st me so n (if c = b then a else 0) c = if v_csb u v so me' c then v_pr1 L sg u v W H N p.1 p.2.1 st' me' c else 0) : ∀ (j k m : Nat), k + j = v_bl u v → j < m → ∀ s, v_rdr s L u v W H st' me' so N sg p.1 p.2.1 → ∃ s', F_X12_worthLater_l21 m (v_ws L sg u v W H N day heat x st me so n a b k) (k : Int) s = some (v_ws L sg u v W H N day heat x st me so n a b (v_bl u v), s') ∧ v_71 s s' ∧ v_Nm (s'.1 71) := by
  intro j
  induction j with
  | zero =>
    intro k m hk hm s h
    obtain ⟨m, rfl⟩ : ∃ q, m = q + 1 := ⟨m - 1, by omega⟩
    have hk : k = v_bl u v := by omega
    subst hk
    refine ⟨s, ?_, ⟨fun _ _ => rfl, rfl, fun h => h⟩, h.2.2.2.2.1⟩
    show F_X12_worthLater_l21_b (F_X12_worthLater_l21 m) _ _ s = _
    unfold F_X12_worthLater_l21_b
    rw [P_blocks h.1, d_b_t, if_neg (by omega)]
  | succ j ih =>
    intro k m hk hm s h
    obtain ⟨m, rfl⟩ : ∃ q, m = q + 1 := ⟨m - 1, by omega⟩
    have hkb : k < v_bl u v := by omega
    have h64 := h.1.ac.2.2.1
    have hb := v_ws_b (L := L) (sg := sg) (u := u) (v := v) (W := W) (H := H) (N := N) (day := day) (heat := heat) (x := x) (st := st) (me := me) (so := so) (n := n) (a := a) (b := b) k
    have ht := v_tm_b (L := L) (sg := sg) (u := u) (v := v) (W := W) (H := H) (N := N) (day := day) (heat := heat) (x := x) (st := st) (me := me) (so := so) (n := n) (a := if k = b then a else 0) (c := k)
    have hpk := hp k hkb
    show ∃ s', F_X12_worthLater_l21_b (F_X12_worthLater_l21 m) _ _ s = _ ∧ _
    unfold F_X12_worthLater_l21_b
    rw [P_blocks h.1, d_b_t, if_pos (by omega), P_csR h.1 h.2.2.1, d_b_t, d_w_id (x := (k : Int) + 1) (by omega) (by omega)]
    by_cases q : v_csb u v so me' k
    · rw [if_pos q] at hpk
      rw [v_bt q, if_neg (by decide)]
      obtain ⟨s2, r1, r2, r3⟩ := h.ask hkb
      obtain ⟨s', c1, c2, c3⟩ := ih (k + 1) m (by omega) (by omega) s2 r3
      refine ⟨s', ?_, ⟨fun a ha => (c2.1 a ha).trans (r2.1 a ha), c2.2.1.trans r2.2.1, fun hh => c2.2.2 (r2.2.2 hh)⟩, c3⟩
      simp only [v_ws] at c1
      rw [r1, d_b2_t, ← hpk, d_w_id (by omega) (by omega)]
      exact c1
    · rw [if_neg q] at hpk
      rw [v_bf q, if_pos rfl]
      obtain ⟨s', c1, c2, c3⟩ := ih (k + 1) m (by omega) (by omega) s h
      refine ⟨s', ?_, c2, c3⟩
      simp only [v_ws] at c1
      rw [hpk] at c1
      rw [d_w_id (by omega) (by omega)]
      exact c1
end V50

/-! Rules: the pile's top; counts of nths; a block is taken -/
section GPT
variable {M : p_M} {pc : Nat} {τ : Nat → Option Nat} {r : Nat → Int} {n : Nat} {h : p_H} {e e' : q_E} {k : Nat}
theorem g_wl {n : Nat} {L : q_L} (h : L.all (fun t => Nat.blt t.1 n) = true) : q_wl n L := fun t ht => Nat.le_of_ble_eq_true (List.all_eq_true.mp h t ht)
theorem g_c {α : Type} {P : α → Prop} {a : α} {L : List α} (h : P a) (t : ∀ m ∈ L, P m) : ∀ m ∈ a :: L, P m := List.forall_mem_cons.mpr ⟨h, t⟩
theorem g_n {α : Type} {P : α → Prop} : ∀ m ∈ ([] : List α), P m := fun m hm => by cases hm
theorem g_un1 (hm : x_m x_EE τ r n h (e, 64, 1000002, (1, 0, e'))) (hk : q_e r e = (k : Int)) : g_ms 4 h 69 k = q_e r e' := by
  have b : g_ms 1 h 69 (q_e r e).toNat = q_e r e' := (g_gho hm 1 rfl).2
  rw [hk, Int.toNat_natCast, g_ms69_1] at b; exact b
theorem g_un2 (hm : x_m x_EE τ r n h (e, 64, 1000003, (1, 0, e'))) (hk : q_e r e = (k : Int)) (h1 : k ≤ 160) : (g_o (g_ms 4 h) k).1 = q_e r e' := by
  have b : (if 0 ≤ q_e r e ∧ q_e r e ≤ 160 then (g_o (g_ms 2 h) (q_e r e).toNat).1 else -1) = q_e r e' := (g_gho hm 2 rfl).2
  rw [hk, if_pos (by omega), Int.toNat_natCast, g_o2] at b; exact b
theorem g_un3 (hm : x_m x_EE τ r n h (e, 64, 1000004, (1, 0, e'))) (hk : q_e r e = (k : Int)) (h1 : k ≤ 160) : (g_o (g_ms 4 h) k).2.1 = q_e r e' := by
  have b : (if 0 ≤ q_e r e ∧ q_e r e ≤ 160 then (g_o (g_ms 3 h) (q_e r e).toNat).2.1 else -1) = q_e r e' := (g_gho hm 3 rfl).2
  rw [hk, if_pos (by omega), Int.toNat_natCast, g_o3] at b; exact b
theorem g_un4 (hm : x_m x_EE τ r n h (e, 64, 1000005, (1, 0, e'))) (hk : q_e r e = (k : Int)) (h1 : k ≤ 160) : (g_d (g_ms 4 h) k).1 = q_e r e' := by
  have b : (if 0 ≤ q_e r e ∧ q_e r e ≤ 160 then (g_d (g_ms 4 h) (q_e r e).toNat).1 else -1) = q_e r e' := (g_gho hm 4 rfl).2
  rw [hk, if_pos (by omega), Int.toNat_natCast] at b; exact b
theorem g_un5 (hm : x_m x_EE τ r n h (e, 64, 1000006, (1, 0, e'))) (hk : q_e r e = (k : Int)) (h1 : k ≤ 160) : (g_o (g_ms 4 h) k).2.2 = q_e r e' := by
  have b : (if 0 ≤ q_e r e ∧ q_e r e ≤ 160 then (g_o (g_ms 5 h) (q_e r e).toNat).2.2 else -1) = q_e r e' := (g_gho hm 5 rfl).2
  rw [hk, if_pos (by omega), Int.toNat_natCast, g_o5] at b; exact b
theorem g_mk1 (w1 : q_wl n e.1) (w2 : q_wl n e'.1) (h80 : 80 ≤ h.length) (hk : q_e r e = (k : Int)) (hv : g_ms 4 h 69 k = q_e r e') : x_m x_EE τ r n h (e, 64, 1000002, (1, 0, e')) := by
  refine g_mk 1 rfl w1 w2 rfl h80 ?_
  show g_ms 1 h 69 (q_e r e).toNat = q_e r e'
  rw [hk, Int.toNat_natCast, g_ms69_1]; exact hv
theorem g_mk2 (w1 : q_wl n e.1) (w2 : q_wl n e'.1) (h80 : 80 ≤ h.length) (hk : q_e r e = (k : Int)) (h1 : k ≤ 160) (hv : (g_o (g_ms 4 h) k).1 = q_e r e') : x_m x_EE τ r n h (e, 64, 1000003, (1, 0, e')) := by
  refine g_mk 2 rfl w1 w2 rfl h80 ?_
  show (if 0 ≤ q_e r e ∧ q_e r e ≤ 160 then (g_o (g_ms 2 h) (q_e r e).toNat).1 else -1) = q_e r e'
  rw [hk, if_pos (by omega), Int.toNat_natCast, g_o2]; exact hv
theorem g_mk3 (w1 : q_wl n e.1) (w2 : q_wl n e'.1) (h80 : 80 ≤ h.length) (hk : q_e r e = (k : Int)) (h1 : k ≤ 160) (hv : (g_o (g_ms 4 h) k).2.1 = q_e r e') : x_m x_EE τ r n h (e, 64, 1000004, (1, 0, e')) := by
  refine g_mk 3 rfl w1 w2 rfl h80 ?_
  show (if 0 ≤ q_e r e ∧ q_e r e ≤ 160 then (g_o (g_ms 3 h) (q_e r e).toNat).2.1 else -1) = q_e r e'
  rw [hk, if_pos (by omega), Int.toNat_natCast, g_o3]; exact hv
theorem g_mk4 (w1 : q_wl n e.1) (w2 : q_wl n e'.1) (h80 : 80 ≤ h.length) (hk : q_e r e = (k : Int)) (h1 : k ≤ 160) (hv : (g_d (g_ms 4 h) k).1 = q_e r e') : x_m x_EE τ r n h (e, 64, 1000005, (1, 0, e')) := by
  refine g_mk 4 rfl w1 w2 rfl h80 ?_
  show (if 0 ≤ q_e r e ∧ q_e r e ≤ 160 then (g_d (g_ms 4 h) (q_e r e).toNat).1 else -1) = q_e r e'
  rw [hk, if_pos (by omega), Int.toNat_natCast]; exact hv
theorem g_mk5 (w1 : q_wl n e.1) (w2 : q_wl n e'.1) (h80 : 80 ≤ h.length) (hk : q_e r e = (k : Int)) (h1 : k ≤ 160) (hv : (g_o (g_ms 4 h) k).2.2 = q_e r e') : x_m x_EE τ r n h (e, 64, 1000006, (1, 0, e')) := by
  refine g_mk 5 rfl w1 w2 rfl h80 ?_
  show (if 0 ≤ q_e r e ∧ q_e r e ≤ 160 then (g_o (g_ms 5 h) (q_e r e).toNat).2.2 else -1) = q_e r e'
  rw [hk, if_pos (by omega), Int.toNat_natCast, g_o5]; exact hv
theorem g_mk6 (w1 : q_wl n e.1) (w2 : q_wl n e'.1) (h80 : 80 ≤ h.length) (hk : q_e r e = (k : Int)) (hv : g_ms 4 h 70 k = q_e r e') : x_m x_EE τ r n h (e, 64, 1000007, (1, 0, e')) := by
  refine g_mk 6 rfl w1 w2 rfl h80 ?_
  show g_ms 6 h 70 (q_e r e).toNat = q_e r e'
  rw [hk, Int.toNat_natCast, g_ms70_6]; exact hv
theorem g_top (R : Nat → Nat → Int) (k : Nat) (ho : 0 ≤ (g_o R (k + 1)).1) (hd : 0 ≤ (g_d R (k + 1)).1) : 0 ≤ (g_o R k).1 ∧ 0 ≤ (g_d R k).1 ∧
    ((4 ≤ R 69 k ∧ R 69 k ≤ 7 ∧ g_o R (k + 1) = g_o R k ∧ (g_d R (k + 1)).1 = (g_d R k).1 + 1) ∨
     (R 69 k = 3 ∧ g_o R (k + 1) = ((g_o R k).1 + 1, (g_o R k).2.1, (g_o R k).2.2) ∧ (g_d R (k + 1)).1 = (g_d R k).1) ∨
     ((R 69 k = 40 ∨ R 69 k = 41) ∧ g_o R (k + 1) = ((g_o R k).1 + 1, (g_o R k).2.1, R 69 k) ∧ (g_d R (k + 1)).1 = (g_d R k).1) ∨
     (R 69 k = 42 ∧ g_o R (k + 1) = ((g_o R k).1 + 1, (g_o R k).2.1 + 1, 42) ∧ 1 ≤ R 70 (g_o R k).2.1.toNat ∧ R 70 (g_o R k).2.1.toNat ≤ 6 ∧ (g_d R (k + 1)).1 = (g_d R k).1 + R 70 (g_o R k).2.1.toNat)) := by
  have hn := g_d_nth R k
  simp only [g_o, g_d] at ho hd ⊢
  by_cases a1 : (g_o R k).1 < 0
  · rw [if_pos a1] at ho; simp at ho
  by_cases a2 : (g_d R k).1 < 0
  · rw [if_pos a2] at hd; simp at hd
  have hn := hn (by omega) (by omega)
  rw [if_neg a1] at ho ⊢
  rw [if_neg a2] at hd ⊢
  refine ⟨by omega, by omega, ?_⟩
  by_cases c1 : 4 ≤ R 69 k ∧ R 69 k ≤ 7
  · rw [if_pos c1, if_pos c1]
    exact Or.inl ⟨c1.1, c1.2, rfl, rfl⟩
  rw [if_neg c1] at ho hd ⊢
  rw [if_neg c1]
  by_cases c2 : R 69 k = 3
  · rw [if_pos c2, if_pos (Or.inl c2)]
    exact Or.inr (Or.inl ⟨c2, rfl, rfl⟩)
  by_cases c3 : R 69 k = 40 ∨ R 69 k = 41
  · rw [if_neg c2, if_pos c3, if_pos (Or.inr c3)]
    exact Or.inr (Or.inr (Or.inl ⟨c3, rfl, rfl⟩))
  have c4 : ¬ (R 69 k = 3 ∨ R 69 k = 40 ∨ R 69 k = 41) := by omega
  rw [if_neg c4] at hd ⊢
  rw [if_neg c2, if_neg c3] at ho ⊢
  by_cases c5 : R 69 k = 42
  · rw [if_pos c5]
    by_cases c6 : R 69 k = 42 ∧ 1 ≤ R 70 (g_d R k).2 ∧ R 70 (g_d R k).2 ≤ 6
    · rw [if_pos c6]
      have en : (g_o R k).2.1.toNat = (g_d R k).2 := by omega
      rw [en]
      exact Or.inr (Or.inr (Or.inr ⟨c5, rfl, c6.2.1, c6.2.2, rfl⟩))
    · rw [if_neg c6] at hd; simp at hd
  · rw [if_neg c5] at ho; simp at ho
theorem g_io {r : Nat → Int} {x : Nat} {lo hi : Int} {I : q_I} (h : lo ≤ r x ∧ r x ≤ hi) (t : q_IO r I) : q_IO r ((x, lo, hi) :: I) := by
  intro u hu
  rcases List.mem_cons.mp hu with rfl | hu
  · exact h
  · exact t u hu
theorem g_io0 {r : Nat → Int} : q_IO r [] := fun t ht => by cases ht
theorem g_get {α : Type} {P : α → Prop} {L : List α} (h : ∀ m ∈ L, P m) (i : Nat) {a : α} (hi : L[i]? = some a) : P a := h a (List.mem_of_getElem? hi)
/-- the counts of the nths below k are those below its number of nths -/
theorem g_d_upd {R R' : Nat → Nat → Int} (h69 : ∀ j, R 69 j = R' 69 j) {q : Nat} (h70 : ∀ j, j ≠ q → R 70 j = R' 70 j) : ∀ k, 0 ≤ (g_d R' k).1 → (g_d R' k).2 ≤ q → g_d R k = g_d R' k := by
  intro k
  induction k with
  | zero => intro _ _; rfl
  | succ k ih =>
    intro hd hq
    have a : 0 ≤ (g_d R' k).1 ∧ (g_d R' k).2 ≤ (g_d R' (k + 1)).2 ∧ (R' 69 k = 42 → (g_d R' k).2 < (g_d R' (k + 1)).2) := by
      simp only [g_d] at hd ⊢
      by_cases a2 : (g_d R' k).1 < 0
      · rw [if_pos a2] at hd; simp at hd
      rw [if_neg a2] at hd ⊢
      refine ⟨by omega, ?_⟩
      by_cases c1 : 4 ≤ R' 69 k ∧ R' 69 k ≤ 7
      · rw [if_pos c1]; exact ⟨Nat.le_refl _, fun e => by omega⟩
      rw [if_neg c1] at hd ⊢
      by_cases c2 : R' 69 k = 3 ∨ R' 69 k = 40 ∨ R' 69 k = 41
      · rw [if_pos c2]; exact ⟨Nat.le_refl _, fun e => by omega⟩
      rw [if_neg c2] at hd ⊢
      by_cases c6 : R' 69 k = 42 ∧ 1 ≤ R' 70 (g_d R' k).2 ∧ R' 70 (g_d R' k).2 ≤ 6
      · rw [if_pos c6]; exact ⟨Nat.le_succ _, fun _ => Nat.lt_succ_self _⟩
      · rw [if_neg c6] at hd; simp at hd
    have ih := ih a.1 (by omega)
    simp only [g_d, ih, h69]
    by_cases e : R' 69 k = 42
    · rw [h70 _ (show (g_d R' k).2 ≠ q by have := a.2.2 e; omega)]
    · simp [e]
theorem hr_pileTop (hat : p_at pc M.2.2.2.2.1 = some (.iaload, 1)) : x_HoldR p_GT p_MT x_EE M pc 1 cr_pileTop := by
  intro τ r h as rest ls d Q hH hA hF hM hK
  obtain ⟨a, V, rfl, ha, hA⟩ := x_t3 (show x_vs τ r 5 [(3, 69, ([], ((69 : Nat) : Int))), (1, 0, ([(0, 1)], 0))] as from hA)
  obtain ⟨x, V', rfl, -, hx, hA⟩ := x_t1 hA
  rw [g_nil hA]
  obtain ⟨rfl, ht⟩ := g_ref ha
  rw [g_v] at hx
  obtain ⟨vs, hc, l1, l2, hf, -⟩ := g_cell hH ht (show x_KL[69]? = some _ from rfl)
  obtain ⟨h0, h1, h2, h3, h4⟩ : (0 ≤ r 0 ∧ r 0 ≤ 159) ∧ (0 ≤ r 1 ∧ r 1 ≤ 8) ∧ (0 ≤ r 2 ∧ r 2 ≤ 8) ∧ (0 ≤ r 3 ∧ r 3 ≤ 400) ∧ (-1 ≤ r 4 ∧ r 4 ≤ 42) := ⟨g_get hF.1 0 rfl, g_get hF.1 1 rfl, g_get hF.1 2 rfl, g_get hF.1 3 rfl, g_get hF.1 4 rfl⟩
  obtain ⟨k, hk⟩ : ∃ k : Nat, r 0 = k := ⟨(r 0).toNat, by omega⟩
  have hl : x.toNatClampNeg < vs.length := by
    have : 160 ≤ vs.length := l1
    rw [x_clamp]; omega
  obtain ⟨y, hy⟩ := g_int rfl rfl hf hl
  have h80 := (g_gho (g_get hM 0 rfl) 2 rfl).1
  have ep : q_e r ([(0, 1)], 1) = ((k + 1 : Nat) : Int) := by simp only [q_e, q_ev]; push_cast; omega
  have g2 := g_un2 (e := ([(0, 1)], 1)) (e' := ([(1, 1)], 0)) (g_get hM 0 rfl) ep (by omega)
  have g3 := g_un3 (e := ([(0, 1)], 1)) (e' := ([(2, 1)], 0)) (g_get hM 1 rfl) ep (by omega)
  have g4 := g_un4 (e := ([(0, 1)], 1)) (e' := ([(3, 1)], 0)) (g_get hM 2 rfl) ep (by omega)
  have g5 := g_un5 (e := ([(0, 1)], 1)) (e' := ([(4, 1)], 0)) (g_get hM 3 rfl) ep (by omega)
  rw [g_v] at g2 g3 g4 g5
  have hv : g_ms 4 h 69 k = y.toInt := by
    rw [g_ms_at (by rw [g_lk69_4]; exact Nat.ble_eq_true_of_le (by omega)), g_vs_at hc]
    have : vs[k]? = some (.int y) := by rw [show k = x.toNatClampNeg by rw [x_clamp]; omega]; exact hy
    exact g_at_int this
  refine g_load hat hc (g_nn hx h0.1) hy ?_
  obtain ⟨t1, t2, t3⟩ := g_top (g_ms 4 h) k (by omega) (by omega)
  have hb := g_o_bd (g_ms 4 h) k
  rw [hv] at t3
  have hk160 : k ≤ 160 := by omega
  rcases t3 with ⟨b1, b2, e1, e2⟩ | ⟨b1, e1, e2⟩ | ⟨b1, e1, e2⟩ | ⟨b1, e1, c1, c2, e2⟩
  · rw [e1] at g2 g3 g5
    refine hK (some (.int y)) h ⟨τ, x_up r 5 y.toInt, g_J0 hH _, _, List.mem_cons_self, Nat.le_refl _, Nat.le_refl _, fun i hi => x_up_lt i hi, ⟨g_io (by simp [x_up]; omega) (g_io (by simp [x_up]; omega) (g_io (by simp [x_up]; omega) g_io0)), g_c (by simp [q_e, q_ev, x_up]; omega) g_n, g_n⟩, ⟨g_wl rfl, y, rfl, by simp [q_e, q_ev, x_up]⟩, ?_⟩
    have ek : q_e (x_up r 5 y.toInt) ([(0, 1)], 0) = (k : Int) := by simp [q_e, q_ev, x_up]; omega
    exact g_c (g_mk1 (g_wl rfl) (g_wl rfl) h80 ek (by simp [q_e, q_ev, x_up]; omega)) (g_c (g_mk2 (g_wl rfl) (g_wl rfl) h80 ek hk160 (by simp [q_e, q_ev, x_up]; omega)) (g_c (g_mk3 (g_wl rfl) (g_wl rfl) h80 ek hk160 (by simp [q_e, q_ev, x_up]; omega)) (g_c (g_mk4 (g_wl rfl) (g_wl rfl) h80 ek hk160 (by simp [q_e, q_ev, x_up]; omega)) (g_c (g_mk5 (g_wl rfl) (g_wl rfl) h80 ek hk160 (by simp [q_e, q_ev, x_up]; omega)) g_n))))
  · rw [e1] at g2 g3 g5
    simp only at g2 g3 g5
    have ek : q_e r ([(0, 1)], 0) = (k : Int) := by simp [q_e, q_ev]; omega
    refine hK (some (.int y)) h ⟨τ, r, g_J0 hH _, _, List.mem_cons_of_mem _ List.mem_cons_self, Nat.le_refl _, Nat.le_refl _, fun _ _ => rfl, ⟨g_io (by omega) g_io0, g_c (by simp [q_e, q_ev]; omega) g_n, g_n⟩, ⟨g_wl rfl, y, rfl, by simp [q_e, q_ev]; omega⟩, ?_⟩
    exact g_c (g_mk1 (g_wl rfl) (g_wl rfl) h80 ek (by simp [q_e, q_ev]; omega)) (g_c (g_mk2 (g_wl rfl) (g_wl rfl) h80 ek hk160 (by simp [q_e, q_ev]; omega)) (g_c (g_mk3 (g_wl rfl) (g_wl rfl) h80 ek hk160 (by simp [q_e, q_ev]; omega)) (g_c (g_mk4 (g_wl rfl) (g_wl rfl) h80 ek hk160 (by simp [q_e, q_ev]; omega)) (g_c (g_mk5 (g_wl rfl) (g_wl rfl) h80 ek hk160 (by simp [q_e, q_ev]; omega)) g_n))))
  · rw [e1] at g2 g3 g5
    simp only at g2 g3 g5
    have ek : q_e (x_up r 5 (g_o (g_ms 4 h) k).2.2) ([(0, 1)], 0) = (k : Int) := by simp [q_e, q_ev, x_up]; omega
    rcases b1 with b1 | b1
    · refine hK (some (.int y)) h ⟨τ, x_up r 5 (g_o (g_ms 4 h) k).2.2, g_J0 hH _, _, List.mem_cons_of_mem _ (List.mem_cons_of_mem _ List.mem_cons_self), Nat.le_refl _, Nat.le_refl _, fun i hi => x_up_lt i hi, ⟨g_io (by simp [x_up]; omega) (g_io (by simp [x_up]; omega) (g_io (by simp [x_up]; omega) g_io0)), g_c (by simp [q_e, q_ev, x_up]; omega) g_n, g_n⟩, ⟨g_wl rfl, y, rfl, by simp [q_e, q_ev]; omega⟩, ?_⟩
      exact g_c (g_mk1 (g_wl rfl) (g_wl rfl) h80 ek (by simp [q_e, q_ev, x_up]; omega)) (g_c (g_mk2 (g_wl rfl) (g_wl rfl) h80 ek hk160 (by simp [q_e, q_ev, x_up]; omega)) (g_c (g_mk3 (g_wl rfl) (g_wl rfl) h80 ek hk160 (by simp [q_e, q_ev, x_up]; omega)) (g_c (g_mk4 (g_wl rfl) (g_wl rfl) h80 ek hk160 (by simp [q_e, q_ev, x_up]; omega)) (g_c (g_mk5 (g_wl rfl) (g_wl rfl) h80 ek hk160 (by simp [q_e, q_ev, x_up])) g_n))))
    · refine hK (some (.int y)) h ⟨τ, x_up r 5 (g_o (g_ms 4 h) k).2.2, g_J0 hH _, _, List.mem_cons_of_mem _ (List.mem_cons_of_mem _ (List.mem_cons_of_mem _ List.mem_cons_self)), Nat.le_refl _, Nat.le_refl _, fun i hi => x_up_lt i hi, ⟨g_io (by simp [x_up]; omega) (g_io (by simp [x_up]; omega) (g_io (by simp [x_up]; omega) g_io0)), g_c (by simp [q_e, q_ev, x_up]; omega) g_n, g_n⟩, ⟨g_wl rfl, y, rfl, by simp [q_e, q_ev]; omega⟩, ?_⟩
      exact g_c (g_mk1 (g_wl rfl) (g_wl rfl) h80 ek (by simp [q_e, q_ev, x_up]; omega)) (g_c (g_mk2 (g_wl rfl) (g_wl rfl) h80 ek hk160 (by simp [q_e, q_ev, x_up]; omega)) (g_c (g_mk3 (g_wl rfl) (g_wl rfl) h80 ek hk160 (by simp [q_e, q_ev, x_up]; omega)) (g_c (g_mk4 (g_wl rfl) (g_wl rfl) h80 ek hk160 (by simp [q_e, q_ev, x_up]; omega)) (g_c (g_mk5 (g_wl rfl) (g_wl rfl) h80 ek hk160 (by simp [q_e, q_ev, x_up])) g_n))))
  · rw [e1] at g2 g3 g5
    simp only at g2 g3 g5
    obtain ⟨z, hz⟩ : ∃ z, z = g_ms 4 h 70 (g_o (g_ms 4 h) k).2.1.toNat := ⟨_, rfl⟩
    rw [← hz] at c1 c2 e2
    have ek : q_e (x_up (x_up r 5 z) 6 (g_o (g_ms 4 h) k).2.2) ([(0, 1)], 0) = (k : Int) := by simp [q_e, q_ev, x_up]; omega
    have en : q_e (x_up (x_up r 5 z) 6 (g_o (g_ms 4 h) k).2.2) ([(2, 1)], -1) = ((g_o (g_ms 4 h) k).2.1.toNat : Int) := by simp [q_e, q_ev, x_up]; omega
    refine hK (some (.int y)) h ⟨τ, x_up (x_up r 5 z) 6 (g_o (g_ms 4 h) k).2.2, g_J0 hH _, _, List.mem_cons_of_mem _ (List.mem_cons_of_mem _ (List.mem_cons_of_mem _ (List.mem_cons_of_mem _ List.mem_cons_self))), Nat.le_refl _, Nat.le_refl _, fun i hi => (by have hi : i < 5 := hi; rw [x_up_lt i (by omega), x_up_lt i hi]), ⟨g_io (by simp [x_up]; omega) (g_io (by simp [x_up]; omega) (g_io (by simp [x_up]; omega) (g_io (by simp [x_up]; omega) (g_io (by simp [x_up]; omega) g_io0)))), g_c (by simp [q_e, q_ev, x_up]; omega) (g_c (by simp [q_e, q_ev, x_up]; omega) g_n), g_n⟩, ⟨g_wl rfl, y, rfl, by simp [q_e, q_ev]; omega⟩, ?_⟩
    exact g_c (g_mk1 (g_wl rfl) (g_wl rfl) h80 ek (by simp [q_e, q_ev, x_up]; omega)) (g_c (g_mk2 (g_wl rfl) (g_wl rfl) h80 ek hk160 (by simp [q_e, q_ev, x_up]; omega)) (g_c (g_mk3 (g_wl rfl) (g_wl rfl) h80 ek hk160 (by simp [q_e, q_ev, x_up]; omega)) (g_c (g_mk4 (g_wl rfl) (g_wl rfl) h80 ek hk160 (by simp [q_e, q_ev, x_up]; omega)) (g_c (g_mk6 (g_wl rfl) (g_wl rfl) h80 en (by simp [q_e, q_ev, x_up]; omega)) (g_c (g_mk5 (g_wl rfl) (g_wl rfl) h80 ek hk160 (by simp [q_e, q_ev, x_up])) g_n)))))
theorem hr_pileTopIn (hat : p_at pc M.2.2.2.2.1 = some (.iaload, 1)) : x_HoldR p_GT p_MT x_EE M pc 1 cr_pileTopIn := by
  intro τ r h as rest ls d Q hH hA hF hM hK
  obtain ⟨a, V, rfl, ha, hA⟩ := x_t3 (show x_vs τ r 5 [(3, 69, ([], ((69 : Nat) : Int))), (1, 0, ([(0, 1)], 0))] as from hA)
  obtain ⟨x, V', rfl, -, hx, hA⟩ := x_t1 hA
  rw [g_nil hA]
  obtain ⟨rfl, ht⟩ := g_ref ha
  rw [g_v] at hx
  obtain ⟨vs, hc, l1, l2, hf, -⟩ := g_cell hH ht (show x_KL[69]? = some _ from rfl)
  obtain ⟨h0, h1, h2, h3, h4⟩ : (0 ≤ r 0 ∧ r 0 ≤ 159) ∧ (0 ≤ r 1 ∧ r 1 ≤ 8) ∧ (0 ≤ r 2 ∧ r 2 ≤ 8) ∧ (0 ≤ r 3 ∧ r 3 ≤ 400) ∧ (40 ≤ r 4 ∧ r 4 ≤ 42) := ⟨g_get hF.1 0 rfl, g_get hF.1 1 rfl, g_get hF.1 2 rfl, g_get hF.1 3 rfl, g_get hF.1 4 rfl⟩
  obtain ⟨k, hk⟩ : ∃ k : Nat, r 0 = k := ⟨(r 0).toNat, by omega⟩
  have hl : x.toNatClampNeg < vs.length := by
    have : 160 ≤ vs.length := l1
    rw [x_clamp]; omega
  obtain ⟨y, hy⟩ := g_int rfl rfl hf hl
  have h80 := (g_gho (g_get hM 0 rfl) 2 rfl).1
  have ep : q_e r ([(0, 1)], 1) = ((k + 1 : Nat) : Int) := by simp only [q_e, q_ev]; push_cast; omega
  have g2 := g_un2 (e := ([(0, 1)], 1)) (e' := ([(1, 1)], 0)) (g_get hM 0 rfl) ep (by omega)
  have g3 := g_un3 (e := ([(0, 1)], 1)) (e' := ([(2, 1)], 0)) (g_get hM 1 rfl) ep (by omega)
  have g4 := g_un4 (e := ([(0, 1)], 1)) (e' := ([(3, 1)], 0)) (g_get hM 2 rfl) ep (by omega)
  have g5 := g_un5 (e := ([(0, 1)], 1)) (e' := ([(4, 1)], 0)) (g_get hM 3 rfl) ep (by omega)
  rw [g_v] at g2 g3 g4 g5
  have hv : g_ms 4 h 69 k = y.toInt := by
    rw [g_ms_at (by rw [g_lk69_4]; exact Nat.ble_eq_true_of_le (by omega)), g_vs_at hc]
    have : vs[k]? = some (.int y) := by rw [show k = x.toNatClampNeg by rw [x_clamp]; omega]; exact hy
    exact g_at_int this
  refine g_load hat hc (g_nn hx h0.1) hy ?_
  obtain ⟨t1, t2, t3⟩ := g_top (g_ms 4 h) k (by omega) (by omega)
  have hb := g_o_bd (g_ms 4 h) k
  rw [hv] at t3
  have hk160 : k ≤ 160 := by omega
  rcases t3 with ⟨b1, b2, e1, e2⟩ | ⟨b1, e1, e2⟩ | ⟨b1, e1, e2⟩ | ⟨b1, e1, c1, c2, e2⟩
  · rw [e1] at g2 g3 g5
    refine hK (some (.int y)) h ⟨τ, x_up r 5 y.toInt, g_J0 hH _, _, List.mem_cons_self, Nat.le_refl _, Nat.le_refl _, fun i hi => x_up_lt i hi, ⟨g_io (by simp [x_up]; omega) (g_io (by simp [x_up]; omega) (g_io (by simp [x_up]; omega) (g_io (by simp [x_up]; omega) g_io0))), g_c (by simp [q_e, q_ev, x_up]; omega) g_n, g_n⟩, ⟨g_wl rfl, y, rfl, by simp [q_e, q_ev, x_up]⟩, ?_⟩
    have ek : q_e (x_up r 5 y.toInt) ([(0, 1)], 0) = (k : Int) := by simp [q_e, q_ev, x_up]; omega
    exact g_c (g_mk1 (g_wl rfl) (g_wl rfl) h80 ek (by simp [q_e, q_ev, x_up]; omega)) (g_c (g_mk2 (g_wl rfl) (g_wl rfl) h80 ek hk160 (by simp [q_e, q_ev, x_up]; omega)) (g_c (g_mk3 (g_wl rfl) (g_wl rfl) h80 ek hk160 (by simp [q_e, q_ev, x_up]; omega)) (g_c (g_mk4 (g_wl rfl) (g_wl rfl) h80 ek hk160 (by simp [q_e, q_ev, x_up]; omega)) (g_c (g_mk5 (g_wl rfl) (g_wl rfl) h80 ek hk160 (by simp [q_e, q_ev, x_up]; omega)) g_n))))
  · rw [e1] at g2 g3 g5
    simp only at g2 g3 g5
    have ek : q_e r ([(0, 1)], 0) = (k : Int) := by simp [q_e, q_ev]; omega
    refine hK (some (.int y)) h ⟨τ, r, g_J0 hH _, _, List.mem_cons_of_mem _ List.mem_cons_self, Nat.le_refl _, Nat.le_refl _, fun _ _ => rfl, ⟨g_io (by omega) (g_io (by omega) g_io0), g_c (by simp [q_e, q_ev]; omega) g_n, g_n⟩, ⟨g_wl rfl, y, rfl, by simp [q_e, q_ev]; omega⟩, ?_⟩
    exact g_c (g_mk1 (g_wl rfl) (g_wl rfl) h80 ek (by simp [q_e, q_ev]; omega)) (g_c (g_mk2 (g_wl rfl) (g_wl rfl) h80 ek hk160 (by simp [q_e, q_ev]; omega)) (g_c (g_mk3 (g_wl rfl) (g_wl rfl) h80 ek hk160 (by simp [q_e, q_ev]; omega)) (g_c (g_mk4 (g_wl rfl) (g_wl rfl) h80 ek hk160 (by simp [q_e, q_ev]; omega)) (g_c (g_mk5 (g_wl rfl) (g_wl rfl) h80 ek hk160 (by simp [q_e, q_ev]; omega)) g_n))))
  · rw [e1] at g2 g3 g5
    simp only at g2 g3 g5
    have ek : q_e (x_up r 5 (g_o (g_ms 4 h) k).2.2) ([(0, 1)], 0) = (k : Int) := by simp [q_e, q_ev, x_up]; omega
    rcases b1 with b1 | b1
    · refine hK (some (.int y)) h ⟨τ, x_up r 5 (g_o (g_ms 4 h) k).2.2, g_J0 hH _, _, List.mem_cons_of_mem _ (List.mem_cons_of_mem _ List.mem_cons_self), Nat.le_refl _, Nat.le_refl _, fun i hi => x_up_lt i hi, ⟨g_io (by simp [x_up]; omega) (g_io (by simp [x_up]; omega) (g_io (by simp [x_up]; omega) g_io0)), g_c (by simp [q_e, q_ev, x_up]; omega) g_n, g_n⟩, ⟨g_wl rfl, y, rfl, by simp [q_e, q_ev]; omega⟩, ?_⟩
      exact g_c (g_mk1 (g_wl rfl) (g_wl rfl) h80 ek (by simp [q_e, q_ev, x_up]; omega)) (g_c (g_mk2 (g_wl rfl) (g_wl rfl) h80 ek hk160 (by simp [q_e, q_ev, x_up]; omega)) (g_c (g_mk3 (g_wl rfl) (g_wl rfl) h80 ek hk160 (by simp [q_e, q_ev, x_up]; omega)) (g_c (g_mk4 (g_wl rfl) (g_wl rfl) h80 ek hk160 (by simp [q_e, q_ev, x_up]; omega)) (g_c (g_mk5 (g_wl rfl) (g_wl rfl) h80 ek hk160 (by simp [q_e, q_ev, x_up])) g_n))))
    · refine hK (some (.int y)) h ⟨τ, x_up r 5 (g_o (g_ms 4 h) k).2.2, g_J0 hH _, _, List.mem_cons_of_mem _ (List.mem_cons_of_mem _ (List.mem_cons_of_mem _ List.mem_cons_self)), Nat.le_refl _, Nat.le_refl _, fun i hi => x_up_lt i hi, ⟨g_io (by simp [x_up]; omega) (g_io (by simp [x_up]; omega) (g_io (by simp [x_up]; omega) g_io0)), g_c (by simp [q_e, q_ev, x_up]; omega) g_n, g_n⟩, ⟨g_wl rfl, y, rfl, by simp [q_e, q_ev]; omega⟩, ?_⟩
      exact g_c (g_mk1 (g_wl rfl) (g_wl rfl) h80 ek (by simp [q_e, q_ev, x_up]; omega)) (g_c (g_mk2 (g_wl rfl) (g_wl rfl) h80 ek hk160 (by simp [q_e, q_ev, x_up]; omega)) (g_c (g_mk3 (g_wl rfl) (g_wl rfl) h80 ek hk160 (by simp [q_e, q_ev, x_up]; omega)) (g_c (g_mk4 (g_wl rfl) (g_wl rfl) h80 ek hk160 (by simp [q_e, q_ev, x_up]; omega)) (g_c (g_mk5 (g_wl rfl) (g_wl rfl) h80 ek hk160 (by simp [q_e, q_ev, x_up])) g_n))))
  · rw [e1] at g2 g3 g5
    simp only at g2 g3 g5
    obtain ⟨z, hz⟩ : ∃ z, z = g_ms 4 h 70 (g_o (g_ms 4 h) k).2.1.toNat := ⟨_, rfl⟩
    rw [← hz] at c1 c2 e2
    have ek : q_e (x_up (x_up r 5 z) 6 (g_o (g_ms 4 h) k).2.2) ([(0, 1)], 0) = (k : Int) := by simp [q_e, q_ev, x_up]; omega
    have en : q_e (x_up (x_up r 5 z) 6 (g_o (g_ms 4 h) k).2.2) ([(2, 1)], -1) = ((g_o (g_ms 4 h) k).2.1.toNat : Int) := by simp [q_e, q_ev, x_up]; omega
    refine hK (some (.int y)) h ⟨τ, x_up (x_up r 5 z) 6 (g_o (g_ms 4 h) k).2.2, g_J0 hH _, _, List.mem_cons_of_mem _ (List.mem_cons_of_mem _ (List.mem_cons_of_mem _ (List.mem_cons_of_mem _ List.mem_cons_self))), Nat.le_refl _, Nat.le_refl _, fun i hi => (by have hi : i < 5 := hi; rw [x_up_lt i (by omega), x_up_lt i hi]), ⟨g_io (by simp [x_up]; omega) (g_io (by simp [x_up]; omega) (g_io (by simp [x_up]; omega) (g_io (by simp [x_up]; omega) (g_io (by simp [x_up]; omega) g_io0)))), g_c (by simp [q_e, q_ev, x_up]; omega) (g_c (by simp [q_e, q_ev, x_up]; omega) g_n), g_n⟩, ⟨g_wl rfl, y, rfl, by simp [q_e, q_ev]; omega⟩, ?_⟩
    exact g_c (g_mk1 (g_wl rfl) (g_wl rfl) h80 ek (by simp [q_e, q_ev, x_up]; omega)) (g_c (g_mk2 (g_wl rfl) (g_wl rfl) h80 ek hk160 (by simp [q_e, q_ev, x_up]; omega)) (g_c (g_mk3 (g_wl rfl) (g_wl rfl) h80 ek hk160 (by simp [q_e, q_ev, x_up]; omega)) (g_c (g_mk4 (g_wl rfl) (g_wl rfl) h80 ek hk160 (by simp [q_e, q_ev, x_up]; omega)) (g_c (g_mk6 (g_wl rfl) (g_wl rfl) h80 en (by simp [q_e, q_ev, x_up]; omega)) (g_c (g_mk5 (g_wl rfl) (g_wl rfl) h80 ek hk160 (by simp [q_e, q_ev, x_up])) g_n)))))
theorem hr_count (hat : p_at pc M.2.2.2.2.1 = some (.iastore, 1)) : x_HoldR p_GT p_MT x_EE M pc 1 cr_count := by
  intro τ r h as rest ls d Q hH hA hF hM hK
  obtain ⟨a, V, rfl, ha, hA⟩ := x_t3 (show x_vs τ r 5 [(3, 70, ([], ((70 : Nat) : Int))), (1, 0, ([(0, 1)], 0)), (1, 0, ([(4, 1)], 0))] as from hA)
  obtain ⟨x, V', rfl, -, hx, hA⟩ := x_t1 hA
  obtain ⟨y, V'', rfl, -, hy, hA⟩ := x_t1 hA
  rw [g_nil hA]
  obtain ⟨rfl, ht⟩ := g_ref ha
  rw [g_v] at hx
  obtain ⟨vs, hc, l1, l2, hf, -⟩ := g_cell hH ht (show x_KL[70]? = some _ from rfl)
  obtain ⟨h0, h1, h2, h3⟩ : (0 ≤ r 0 ∧ r 0 ≤ 8) ∧ (1 ≤ r 1 ∧ r 1 ≤ 160) ∧ (0 ≤ r 2 ∧ r 2 ≤ 160) ∧ (0 ≤ r 3 ∧ r 3 ≤ 500) := ⟨g_get hF.1 0 rfl, g_get hF.1 1 rfl, g_get hF.1 2 rfl, g_get hF.1 3 rfl⟩
  have h4 : 1 ≤ r 4 ∧ r 4 ≤ 6 := g_get hF.1 4 rfl
  have hy : y.toInt = r 4 := by simp only [q_e, q_ev] at hy; omega
  obtain ⟨k, hk⟩ : ∃ k : Nat, r 1 = k + 1 := ⟨(r 1).toNat - 1, by omega⟩
  have hl : x.toNatClampNeg < vs.length := by
    have : 9 ≤ vs.length := l1
    rw [x_clamp]; omega
  have ex : x.toNatClampNeg = (r 0).toNat := by rw [x_clamp, hx]
  have h80 := (g_gho (g_get hM 1 rfl) 1 rfl).1
  have ep : q_e r ([(1, 1)], -1) = (k : Int) := by simp only [q_e, q_ev]; omega
  have g1 := g_un1 (e := ([(1, 1)], -1)) (e' := ([], 42)) (g_get hM 1 rfl) ep
  have g2 := g_un2 (e := ([(1, 1)], -1)) (e' := ([(2, 1)], 0)) (g_get hM 2 rfl) ep (by omega)
  have g3 := g_un3 (e := ([(1, 1)], -1)) (e' := ([(0, 1)], 0)) (g_get hM 3 rfl) ep (by omega)
  have g4 := g_un4 (e := ([(1, 1)], -1)) (e' := ([(3, 1)], 0)) (g_get hM 4 rfl) ep (by omega)
  rw [g_v] at g2 g3 g4
  have g1 : g_ms 4 h 69 k = 42 := by rw [g1]; simp [q_e, q_ev]
  refine g_store hat hc (g_nn hx h0.1) hl ?_
  rw [ex]
  have hJ := (g_J0 hH [(70, 0, 8)]).put x_EE_EO (lo := 0) (hi := 8) (j := (r 0).toNat) (v := .int y) ht hc (show x_KL[70]? = some _ from rfl) (by rw [x_pt0 (t := x_any) rfl rfl rfl]; exact ⟨y, rfl, x_I32 y⟩) rfl rfl (Nat.zero_le _) (by omega)
  have hlen : 70 < h.length := by omega
  obtain ⟨h2', hh2⟩ : ∃ h2, h2 = h.set 70 (1, 0, vs.set (r 0).toNat (.int y)) := ⟨_, rfl⟩
  have h69 : ∀ j, g_ms 4 h2' 69 j = g_ms 4 h 69 j := fun j => by rw [hh2]; exact g_ms_set_ne (by decide)
  have h70 : ∀ j, j ≠ (r 0).toNat → g_ms 4 h2' 70 j = g_ms 4 h 70 j := fun j hj => by rw [hh2]; exact g_ms_set_at hc rfl (Ne.symm hj)
  have hv2 : g_ms 4 h2' 70 (r 0).toNat = y.toInt := by
    rw [g_ms_at (by rw [g_lk70_4]; exact Nat.ble_eq_true_of_le (by omega)), hh2, g_vs_set hlen]
    exact g_at_int (List.getElem?_set_self (by rw [← ex]; exact hl))
  have e1 := g_o_congr (R := g_ms 4 h2') (R' := g_ms 4 h) h69
  have hn := g_d_nth (g_ms 4 h) k (by omega) (by omega)
  have e2 := g_d_upd (R := g_ms 4 h2') (R' := g_ms 4 h) h69 (q := (r 0).toNat) h70 k (by omega) (by omega)
  have eo : g_o (g_ms 4 h2') (k + 1) = (r 2 + 1, r 0 + 1, 42) := by
    rw [e1]
    simp only [g_o, g1]
    rw [if_neg (by omega), if_neg (by omega), if_neg (by omega), if_neg (by omega), if_pos trivial, g2, g3]
  have ed : (g_d (g_ms 4 h2') (k + 1)).1 = r 3 + r 4 := by
    have en : (g_d (g_ms 4 h) k).2 = (r 0).toNat := by omega
    simp only [g_d]
    rw [e2, h69, g1, en, hv2, hy, if_neg (by omega), if_neg (by omega), if_neg (by omega), if_pos ⟨rfl, by omega, by omega⟩]
    simp only
    omega
  refine hK none _ ⟨τ, r, hJ, _, List.mem_cons_self, by rw [List.length_set]; exact Nat.le_refl _, by rw [p_sl_set hc (by simp)]; exact Nat.le_refl _, fun _ _ => rfl, g_F0, trivial, ?_⟩
  have h80 : 80 ≤ h2'.length := by rw [hh2, List.length_set]; exact h80
  have ek : q_e r ([(1, 1)], 0) = ((k + 1 : Nat) : Int) := by simp only [q_e, q_ev]; push_cast; omega
  show ∀ m ∈ _, x_m x_EE τ r _ (h.set 70 (1, 0, vs.set (r 0).toNat (.int y))) m
  rw [← hh2]
  exact g_c (g_mk2 (g_wl rfl) (g_wl rfl) h80 ek (by omega) (by rw [eo]; simp [q_e, q_ev])) (g_c (g_mk3 (g_wl rfl) (g_wl rfl) h80 ek (by omega) (by rw [eo]; simp [q_e, q_ev])) (g_c (g_mk4 (g_wl rfl) (g_wl rfl) h80 ek (by omega) (by rw [ed]; simp [q_e, q_ev])) (g_c (g_mk5 (g_wl rfl) (g_wl rfl) h80 ek (by omega) (by rw [eo]; simp [q_e, q_ev])) g_n)))
theorem hr_count1 (hat : p_at pc M.2.2.2.2.1 = some (.iastore, 1)) : x_HoldR p_GT p_MT x_EE M pc 1 cr_count1 := by
  intro τ r h as rest ls d Q hH hA hF hM hK
  obtain ⟨a, V, rfl, ha, hA⟩ := x_t3 (show x_vs τ r 4 [(3, 70, ([], ((70 : Nat) : Int))), (1, 0, ([(0, 1)], 0)), (1, 0, ([], 1))] as from hA)
  obtain ⟨x, V', rfl, -, hx, hA⟩ := x_t1 hA
  obtain ⟨y, V'', rfl, -, hy, hA⟩ := x_t1 hA
  rw [g_nil hA]
  obtain ⟨rfl, ht⟩ := g_ref ha
  rw [g_v] at hx
  obtain ⟨vs, hc, l1, l2, hf, -⟩ := g_cell hH ht (show x_KL[70]? = some _ from rfl)
  obtain ⟨h0, h1, h2, h3⟩ : (0 ≤ r 0 ∧ r 0 ≤ 8) ∧ (1 ≤ r 1 ∧ r 1 ≤ 160) ∧ (0 ≤ r 2 ∧ r 2 ≤ 160) ∧ (0 ≤ r 3 ∧ r 3 ≤ 500) := ⟨g_get hF.1 0 rfl, g_get hF.1 1 rfl, g_get hF.1 2 rfl, g_get hF.1 3 rfl⟩
  have hy : y.toInt = 1 := by simp only [q_e, q_ev] at hy; omega
  obtain ⟨k, hk⟩ : ∃ k : Nat, r 1 = k + 1 := ⟨(r 1).toNat - 1, by omega⟩
  have hl : x.toNatClampNeg < vs.length := by
    have : 9 ≤ vs.length := l1
    rw [x_clamp]; omega
  have ex : x.toNatClampNeg = (r 0).toNat := by rw [x_clamp, hx]
  have h80 := (g_gho (g_get hM 1 rfl) 1 rfl).1
  have ep : q_e r ([(1, 1)], -1) = (k : Int) := by simp only [q_e, q_ev]; omega
  have g1 := g_un1 (e := ([(1, 1)], -1)) (e' := ([], 42)) (g_get hM 1 rfl) ep
  have g2 := g_un2 (e := ([(1, 1)], -1)) (e' := ([(2, 1)], 0)) (g_get hM 2 rfl) ep (by omega)
  have g3 := g_un3 (e := ([(1, 1)], -1)) (e' := ([(0, 1)], 0)) (g_get hM 3 rfl) ep (by omega)
  have g4 := g_un4 (e := ([(1, 1)], -1)) (e' := ([(3, 1)], 0)) (g_get hM 4 rfl) ep (by omega)
  rw [g_v] at g2 g3 g4
  have g1 : g_ms 4 h 69 k = 42 := by rw [g1]; simp [q_e, q_ev]
  refine g_store hat hc (g_nn hx h0.1) hl ?_
  rw [ex]
  have hJ := (g_J0 hH [(70, 0, 8)]).put x_EE_EO (lo := 0) (hi := 8) (j := (r 0).toNat) (v := .int y) ht hc (show x_KL[70]? = some _ from rfl) (by rw [x_pt0 (t := x_any) rfl rfl rfl]; exact ⟨y, rfl, x_I32 y⟩) rfl rfl (Nat.zero_le _) (by omega)
  have hlen : 70 < h.length := by omega
  obtain ⟨h2', hh2⟩ : ∃ h2, h2 = h.set 70 (1, 0, vs.set (r 0).toNat (.int y)) := ⟨_, rfl⟩
  have h69 : ∀ j, g_ms 4 h2' 69 j = g_ms 4 h 69 j := fun j => by rw [hh2]; exact g_ms_set_ne (by decide)
  have h70 : ∀ j, j ≠ (r 0).toNat → g_ms 4 h2' 70 j = g_ms 4 h 70 j := fun j hj => by rw [hh2]; exact g_ms_set_at hc rfl (Ne.symm hj)
  have hv2 : g_ms 4 h2' 70 (r 0).toNat = y.toInt := by
    rw [g_ms_at (by rw [g_lk70_4]; exact Nat.ble_eq_true_of_le (by omega)), hh2, g_vs_set hlen]
    exact g_at_int (List.getElem?_set_self (by rw [← ex]; exact hl))
  have e1 := g_o_congr (R := g_ms 4 h2') (R' := g_ms 4 h) h69
  have hn := g_d_nth (g_ms 4 h) k (by omega) (by omega)
  have e2 := g_d_upd (R := g_ms 4 h2') (R' := g_ms 4 h) h69 (q := (r 0).toNat) h70 k (by omega) (by omega)
  have eo : g_o (g_ms 4 h2') (k + 1) = (r 2 + 1, r 0 + 1, 42) := by
    rw [e1]
    simp only [g_o, g1]
    rw [if_neg (by omega), if_neg (by omega), if_neg (by omega), if_neg (by omega), if_pos trivial, g2, g3]
  have ed : (g_d (g_ms 4 h2') (k + 1)).1 = r 3 + 1 := by
    have en : (g_d (g_ms 4 h) k).2 = (r 0).toNat := by omega
    simp only [g_d]
    rw [e2, h69, g1, en, hv2, hy, if_neg (by omega), if_neg (by omega), if_neg (by omega), if_pos ⟨rfl, by omega, by omega⟩]
    simp only
    omega
  refine hK none _ ⟨τ, r, hJ, _, List.mem_cons_self, by rw [List.length_set]; exact Nat.le_refl _, by rw [p_sl_set hc (by simp)]; exact Nat.le_refl _, fun _ _ => rfl, g_F0, trivial, ?_⟩
  have h80 : 80 ≤ h2'.length := by rw [hh2, List.length_set]; exact h80
  have ek : q_e r ([(1, 1)], 0) = ((k + 1 : Nat) : Int) := by simp only [q_e, q_ev]; push_cast; omega
  show ∀ m ∈ _, x_m x_EE τ r _ (h.set 70 (1, 0, vs.set (r 0).toNat (.int y))) m
  rw [← hh2]
  exact g_c (g_mk2 (g_wl rfl) (g_wl rfl) h80 ek (by omega) (by rw [eo]; simp [q_e, q_ev])) (g_c (g_mk3 (g_wl rfl) (g_wl rfl) h80 ek (by omega) (by rw [eo]; simp [q_e, q_ev])) (g_c (g_mk4 (g_wl rfl) (g_wl rfl) h80 ek (by omega) (by rw [ed]; simp [q_e, q_ev])) (g_c (g_mk5 (g_wl rfl) (g_wl rfl) h80 ek (by omega) (by rw [eo]; simp [q_e, q_ev])) g_n)))
theorem g_free_upd {R R' : Nat → Nat → Int} {q : Nat} (h74 : ∀ j, j ≠ q → R' 74 j = R 74 j) (h0 : R 74 q = 0) (h1 : R' 74 q = 1) : ∀ k, g_free R' k = g_free R k - (if q < k then 1 else 0) := by
  intro k
  induction k with
  | zero => simp [g_free]
  | succ k ih =>
    simp only [g_free, ih]
    by_cases e : k = q
    · subst e
      rw [h0, h1, if_neg (by omega), if_neg (by omega), if_pos rfl, if_pos (by omega)]
      omega
    · rw [h74 k e]
      by_cases c : q < k
      · rw [if_pos c, if_pos (show q < k + 1 by omega)]; omega
      · rw [if_neg c, if_neg (show ¬ q < k + 1 by omega)]; omega
theorem hr_takenSet (hat : p_at pc M.2.2.2.2.1 = some (.bastore, 1)) : x_HoldR p_GT p_MT x_EE M pc 1 cr_takenSet := by
  intro τ r h as rest ls d Q hH hA hF hM hK
  obtain ⟨a, V, rfl, ha, hA⟩ := x_t3 (show x_vs τ r 2 [(3, 74, ([], ((74 : Nat) : Int))), (1, 0, ([(0, 1)], 0)), (1, 0, ([], 1))] as from hA)
  obtain ⟨x, V', rfl, -, hx, hA⟩ := x_t1 hA
  obtain ⟨y, V'', rfl, -, hy, hA⟩ := x_t1 hA
  rw [g_nil hA]
  obtain ⟨rfl, ht⟩ := g_ref ha
  rw [g_v] at hx
  obtain ⟨vs, hc, l1, l2, hf, -⟩ := g_cell hH ht (show x_KL[74]? = some _ from rfl)
  obtain ⟨h0, h1⟩ : (0 ≤ r 0 ∧ r 0 ≤ 63) ∧ (0 ≤ r 1 ∧ r 1 ≤ 64) := ⟨g_get hF.1 0 rfl, g_get hF.1 1 rfl⟩
  have hy : y = 1 := by
    have : y.toInt = 1 := by simp only [q_e, q_ev] at hy; omega
    exact Int32.toInt_inj.mp this
  subst hy
  obtain ⟨k, hk⟩ : ∃ k : Nat, r 0 = k := ⟨(r 0).toNat, by omega⟩
  have hl : x.toNatClampNeg < vs.length := by
    have : 64 ≤ vs.length := l1
    rw [x_clamp]; omega
  have ex : x.toNatClampNeg = k := by rw [x_clamp, hx]; omega
  obtain ⟨h80, q0⟩ := g_gho (g_get hM 0 rfl) 10 rfl
  obtain ⟨-, q1⟩ := g_gho (g_get hM 1 rfl) 11 rfl
  have q0 : g_ms 10 h 74 k = 0 := by
    have e : g_ms 10 h 74 (q_e r ([(0, 1)], 0)).toNat = q_e r ([], 0) := q0
    rw [g_v, hk, Int.toNat_natCast] at e
    rw [e]; simp [q_e, q_ev]
  have q1 : g_free (g_ms 11 h) 64 = r 1 := by
    have e : g_free (g_ms 11 h) 64 = q_e r ([(1, 1)], 0) := q1
    rw [g_v] at e; exact e
  have q0 : g_ms 11 h 74 k = 0 := by
    rw [← q0]; simp only [g_ms, g_lk74_10, g_lk74_11]
  refine g_storeB hat hc (g_nn hx h0.1) hl ?_
  rw [ex, show (1 : Int32) &&& 1 = 1 from rfl]
  have hJ := (g_J0 hH [(74, 0, 63)]).put x_EE_EO (lo := 0) (hi := 63) (j := k) (v := .int 1) ht hc (show x_KL[74]? = some _ from rfl) (by rw [x_pt0 (t := (1, 0, 0, 1)) rfl rfl rfl]; exact ⟨1, rfl, by decide, by decide⟩) rfl rfl (Nat.zero_le _) (by omega)
  have hlen : 74 < h.length := by omega
  obtain ⟨h2', hh2⟩ : ∃ h2, h2 = h.set 74 (1, 3, vs.set k (.int 1)) := ⟨_, rfl⟩
  have h74 : ∀ j, j ≠ k → g_ms 11 h2' 74 j = g_ms 11 h 74 j := fun j hj => by
    rw [hh2]
    simp only [g_ms, g_vs_set hlen, g_vs_at hc, g_at, List.getElem?_set_ne (Ne.symm hj)]
  have hv2 : g_ms 11 h2' 74 k = 1 := by
    rw [g_ms_at (by rw [g_lk74_11]; exact Nat.ble_eq_true_of_le (by omega)), hh2, g_vs_set hlen]
    exact g_at_int (List.getElem?_set_self (by rw [← ex]; exact hl))
  have e1 := g_free_upd h74 q0 hv2 64
  rw [if_pos (by omega), q1] at e1
  have hb := g_free_bd (g_ms 11 h2') 64
  refine hK none _ ⟨τ, r, hJ, _, List.mem_cons_self, by rw [List.length_set]; exact Nat.le_refl _, by rw [p_sl_set hc (by simp)]; exact Nat.le_refl _, fun _ _ => rfl, ⟨g_io (by omega) g_io0, g_n, g_n⟩, trivial, ?_⟩
  have h80 : 80 ≤ h2'.length := by rw [hh2, List.length_set]; exact h80
  show ∀ m ∈ _, x_m x_EE τ r _ (h.set 74 (1, 3, vs.set k (.int 1))) m
  rw [← hh2]
  refine g_c (g_mk 11 rfl (g_wl rfl) (g_wl rfl) rfl h80 ?_) g_n
  show g_free (g_ms 11 h2') 64 = q_e r ([(1, 1)], -1)
  rw [e1]; simp only [q_e, q_ev]; omega
end GPT

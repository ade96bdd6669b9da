/-! Rules: stores into a text -/
section GTR
variable {M : p_M} {pc : Nat} {Q Q' : Nat → Int} {T : Nat}
theorem g_sim_congr {f : Nat} : ∀ m, (∀ i, i < m → Q' (T + 169 + 2 * (f + i)) = Q (T + 169 + 2 * (f + i)) ∧ Q' (T + 169 + 2 * (f + i) + 1) = Q (T + 169 + 2 * (f + i) + 1)) → g_sim Q' T f m = g_sim Q T f m := by
  intro m
  induction m with
  | zero => intro _; rfl
  | succ m ih => intro hq; simp only [g_sim, ih (fun i hi => hq i (by omega)), (hq m (by omega)).1, (hq m (by omega)).2]
theorem g_end_congr : ∀ n, (∀ m, m < n → Q' (T + 1 + 7 * m) = Q (T + 1 + 7 * m) ∧ Q' (T + 1 + 7 * m + 2) = Q (T + 1 + 7 * m + 2)) → g_end Q' T n = g_end Q T n := by
  intro n
  induction n with
  | zero => intro _; rfl
  | succ m ih => intro hq; simp only [g_end, ih (fun i hi => hq i (by omega)), (hq m (by omega)).1, (hq m (by omega)).2]
theorem g_end_0 : ∀ n, 0 ≤ g_end Q T n := by
  intro n
  induction n with
  | zero => exact Int.le_refl _
  | succ m ih => simp only [g_end]; split <;> omega
theorem g_end_ge {m : Nat} (h0 : 0 ≤ Q (T + 1 + 7 * m)) (h1 : Q (T + 1 + 7 * m) ≤ 2) : ∀ n, m < n → Q (T + 1 + 7 * m + 2) ≤ g_end Q T n := by
  intro n
  induction n with
  | zero => intro h; omega
  | succ k ih =>
    intro h
    simp only [g_end]
    by_cases e : m = k
    · subst e; rw [if_pos ⟨h0, h1⟩]; omega
    · have := ih (by omega)
      split <;> omega
theorem g_law_congr {m : Nat} (h3 : ∀ i, i ≤ 2 → Q' (T + 1 + 7 * m + i) = Q (T + 1 + 7 * m + i)) (hc : 0 ≤ Q (T + 1 + 7 * m) → Q (T + 1 + 7 * m) ≤ 2 → Q (T + 1 + 7 * m + 2) ≤ 303 → ∀ i : Nat, 169 ≤ i → (i : Int) < 169 + 2 * Q (T + 1 + 7 * m + 2) → Q' (T + i) = Q (T + i)) (hl : g_law Q T m) : g_law Q' T m := by
  have e0 : Q' (T + 1 + 7 * m) = Q (T + 1 + 7 * m) := h3 0 (by omega)
  have e1 := h3 1 (by omega)
  have e2 := h3 2 (by omega)
  unfold g_law at hl ⊢
  rw [e0, e1, e2]
  intro a b
  obtain ⟨p1, p2, p3, p4⟩ := hl a b
  refine ⟨p1, p2, p3, ?_⟩
  rw [g_sim_congr]
  · exact p4
  · intro i hi
    have hcc := hc a b p3
    have q1 := hcc (169 + 2 * ((Q (T + 1 + 7 * m + 1)).toNat + i)) (by omega) (by omega)
    have q2 := hcc (169 + 2 * ((Q (T + 1 + 7 * m + 1)).toNat + i) + 1) (by omega) (by omega)
    rw [← Nat.add_assoc] at q1
    rw [← Nat.add_assoc, ← Nat.add_assoc] at q2
    exact ⟨q1, q2⟩
theorem g_TW_upd (hT : g_T4 T) (hW : g_TW Q) (h24 : ∀ t, t < 4 → 0 ≤ Q (777 * t) ∧ Q (777 * t) ≤ 24) (ho : ∀ i, i < T ∨ T + 776 < i → Q' i = Q i) (hin : ∀ m : Nat, (m : Int) < Q' T → g_law Q' T m) : g_TW Q' := by
  obtain ⟨t0, ht0, rfl⟩ := g_T4_ex hT
  intro t ht m hm
  by_cases e : t = t0
  · subst e; exact hin m hm
  · have q : ∀ i, i ≤ 776 → Q' (777 * t + i) = Q (777 * t + i) := fun i hi => ho _ (by omega)
    have q0 : Q' (777 * t) = Q (777 * t) := q 0 (by omega)
    rw [q0] at hm
    have := (h24 t ht).2
    refine g_law_congr (fun i hi => ?_) (fun _ _ a i b c => ?_) (hW t ht m hm)
    · rw [show 777 * t + 1 + 7 * m + i = 777 * t + (1 + 7 * m + i) by omega]; exact q _ (by omega)
    · exact q i (by omega)
theorem g_TW_cl {m c : Nat} {y : Int} (hT : g_T4 T) (hW : g_TW Q) (h24 : ∀ t, t < 4 → 0 ≤ Q (777 * t) ∧ Q (777 * t) ≤ 24) (hQ : Q T = m) (hm : m ≤ 23) (h1 : 7 * m + 1 ≤ c) (h2 : c ≤ 168) : g_TW (fun i => if i = T + c then y else Q i) := by
  refine g_TW_upd hT hW h24 (fun i hi => if_neg (by omega)) (fun k hk => ?_)
  obtain ⟨t0, ht0, rfl⟩ := g_T4_ex hT
  simp only [if_neg (show ¬ 777 * t0 = 777 * t0 + c by omega)] at hk
  have : (k : Int) < m := by omega
  exact g_law_congr (fun i hi => if_neg (by omega)) (fun _ _ a i b c => if_neg (by omega)) (hW t0 ht0 k hk)
theorem g_end_cl {m c : Nat} {y : Int} (h1 : 7 * m + 1 ≤ c) : g_end (fun i => if i = T + c then y else Q i) T m = g_end Q T m :=
  g_end_congr m (fun k hk => ⟨if_neg (by omega), if_neg (by omega)⟩)
theorem g_TW_ct {m : Nat} (hT : g_T4 T) (hW : g_TW Q) (h24 : ∀ t, t < 4 → 0 ≤ Q (777 * t) ∧ Q (777 * t) ≤ 24) (hQ : Q T = m) (hm : m ≤ 23) (hl : g_law Q T m) {y : Int} (hy : y = m + 1) : g_TW (fun i => if i = T + 0 then y else Q i) := by
  refine g_TW_upd hT hW h24 (fun i hi => if_neg (by omega)) (fun k hk => ?_)
  obtain ⟨t0, ht0, rfl⟩ := g_T4_ex hT
  rw [if_pos (by omega)] at hk
  have : g_law Q (777 * t0) k := by
    by_cases e : k = m
    · subst e; exact hl
    · exact hW t0 ht0 k (by omega)
  exact g_law_congr (fun i hi => if_neg (by omega)) (fun _ _ a i b c => if_neg (by omega)) this
theorem g_end_ct {m : Nat} {y : Int} : g_end (fun i => if i = T + 0 then y else Q i) T m = g_end Q T m :=
  g_end_congr m (fun k hk => ⟨if_neg (by omega), if_neg (by omega)⟩)
theorem g_TW_z (hT : g_T4 T) (hW : g_TW Q) (h24 : ∀ t, t < 4 → 0 ≤ Q (777 * t) ∧ Q (777 * t) ≤ 24) {y : Int} (hy : y = 0) : g_TW (fun i => if i = T + 0 then y else Q i) := by
  refine g_TW_upd hT hW h24 (fun i hi => if_neg (by omega)) (fun k hk => ?_)
  rw [if_pos (by omega)] at hk
  omega
theorem hr_countRead (hat : p_at pc M.2.2.2.2.1 = some (.iaload, 1)) : x_HoldR p_GT p_MT x_EE M pc 1 cr_countRead := by
  intro τ r h as rest ls d Q hH hA hF hM hK
  obtain ⟨a, V, rfl, ha, hA⟩ := x_t3 (show x_vs τ r 2 [(3, 67, ([], ((67 : Nat) : Int))), (1, 0, ([(0, 1)], 0))] as from hA)
  obtain ⟨x, V', rfl, -, hx, hA⟩ := x_t1 hA
  rw [g_nil hA]
  obtain ⟨rfl, ht⟩ := g_ref ha
  rw [g_v] at hx
  obtain ⟨vs, hc, hl, hv, h24, hW⟩ := g_H67 hH ht
  obtain ⟨h0, h1⟩ : (0 ≤ r 0 ∧ r 0 ≤ 2331) ∧ (0 ≤ r 1 ∧ r 1 ≤ 303) := ⟨g_get hF.1 0 rfl, g_get hF.1 1 rfl⟩
  obtain ⟨T, hT⟩ : ∃ T : Nat, r 0 = T := ⟨(r 0).toNat, by omega⟩
  have h80 := (g_gho (g_get hM 1 rfl) 8 rfl).1
  have m8 := g_un8 (e := ([(0, 1)], 0)) (e' := ([(1, 1)], 0)) (k := T) (g_get hM 1 rfl) (by rw [g_v]; exact hT) (by rw [g_v]; omega)
  obtain ⟨t, ht0, rfl⟩ := g_T4_ex m8.1
  have ex : x.toNatClampNeg = 777 * t := by rw [x_clamp, hx]; omega
  obtain ⟨y, hy, hyq⟩ := hv (777 * t) (by omega)
  have b := h24 t ht0
  refine g_load hat hc (g_nn hx h0.1) (by rw [ex]; exact hy) (hK (some (.int y)) h ⟨τ, x_up r 2 y.toInt, g_J0 hH _, _, List.mem_cons_self, Nat.le_refl _, Nat.le_refl _, fun i hi => x_up_lt i hi, ⟨g_io (by simp only [x_up_at]; omega) g_io0, g_n, g_n⟩, ⟨g_wl rfl, y, rfl, by simp [q_e, q_ev, x_up]⟩, g_c (g_mk7 (k := 777 * t) (g_wl rfl) (g_wl rfl) h80 (by simp [q_e, q_ev, x_up]; omega) (by omega) (by simp [q_e, q_ev, x_up]; omega)) g_n⟩)
theorem hr_sortSet (hat : p_at pc M.2.2.2.2.1 = some (.iastore, 1)) : x_HoldR p_GT p_MT x_EE M pc 1 cr_sortSet := by
  intro τ r h as rest ls d Q hH hA hF hM hK
  obtain ⟨a, V, rfl, ha, hA⟩ := x_t3 (show x_vs τ r 4 [(3, 67, ([], ((67 : Nat) : Int))), (1, 0, ([(0, 1), (1, 7)], 1)), (1, 0, ([(3, 1)], 0))] as from hA)
  obtain ⟨x, V', rfl, -, hx, hA⟩ := x_t1 hA
  obtain ⟨y, V'', rfl, -, hy, hA⟩ := x_t1 hA
  rw [g_nil hA]
  obtain ⟨rfl, ht⟩ := g_ref ha
  simp only [q_e, q_ev] at hx hy
  obtain ⟨vs, hc, hl, hv, h24, hW⟩ := g_H67 hH ht
  obtain ⟨h0, h1, h2, h3⟩ : (0 ≤ r 0 ∧ r 0 ≤ 2331) ∧ (0 ≤ r 1 ∧ r 1 ≤ 23) ∧ (0 ≤ r 2 ∧ r 2 ≤ 303) ∧ (0 ≤ r 3 ∧ r 3 ≤ 9) := ⟨g_get hF.1 0 rfl, g_get hF.1 1 rfl, g_get hF.1 2 rfl, g_get hF.1 3 rfl⟩
  obtain ⟨T, hT⟩ : ∃ T : Nat, r 0 = T := ⟨(r 0).toNat, by omega⟩
  have eT : q_e r ([(0, 1)], 0) = (T : Int) := by rw [g_v]; exact hT
  obtain ⟨m, hm⟩ : ∃ m : Nat, r 1 = m := ⟨(r 1).toNat, by omega⟩
  have h80 := (g_gho (g_get hM 1 rfl) 7 rfl).1
  have m7 : g_Q h (T) = m := by rw [g_un7 (e := ([(0, 1)], 0)) (k := T) (g_get hM 1 rfl) (by simp only [q_e, q_ev]; omega) (by omega)]; simp only [q_e, q_ev]; omega
  obtain ⟨hT4, m8⟩ := g_un8 (e := ([(0, 1)], 0)) (e' := ([(2, 1)], 0)) (k := T) (g_get hM 2 rfl) eT (by rw [g_v]; omega)
  rw [m7, g_v, Int.toNat_natCast] at m8
  have hTW := g_TW_cl (c := 7 * m + 1) (y := y.toInt) hT4 hW h24 m7 (by omega) (by omega) (by omega)
  have ex : x.toNatClampNeg = T + (7 * m + 1) := by rw [x_clamp, hx]; omega
  have hT3 : T ≤ 2331 := by unfold g_T4 at hT4; omega
  obtain ⟨hJ, eQ⟩ := g_J67 hH ht hc hl (j := T + (7 * m + 1)) (y := y) (by omega) (fun q => by unfold g_T4 at hT4; omega) hTW
  refine g_store hat hc (g_nn hx (by omega)) (by rw [ex]; omega) ?_
  rw [ex]
  obtain ⟨h2, hh2⟩ : ∃ h2, h2 = h.set 67 (1, 0, vs.set (T + (7 * m + 1)) (.int y)) := ⟨_, rfl⟩
  have e64 : g_vs h2 64 = g_vs h 64 := by rw [hh2]; exact g_vs_set_ne (by decide)
  rw [← hh2] at hJ eQ ⊢
  have h80 : 80 ≤ h2.length := by rw [hh2, List.length_set]; exact h80
  refine hK none _ ⟨τ, r, hJ, _, List.mem_cons_self, by rw [hh2, List.length_set]; exact Nat.le_refl _, by rw [hh2, p_sl_set hc (by simp)]; exact Nat.le_refl _, fun _ _ => rfl, g_F0, trivial, ?_⟩
  have k0 : g_Q h2 T = m := by rw [eQ]; simp only; rw [if_neg (by omega)]; exact m7
  have k1 : g_end (g_Q h2) T m = r 2 := by rw [eQ, g_end_cl (by omega)]; exact m8
  have k2 : g_Q h2 (T + (7 * m + 1)) = r 3 := by rw [eQ]; simp only; rw [if_pos trivial]; omega
  exact g_c (g_mk7 (k := T) (g_wl rfl) (g_wl rfl) h80 eT (by omega) (by rw [k0, g_v]; omega)) (g_c (g_mk8 (k := T) (g_wl rfl) (g_wl rfl) h80 eT hT4 (by rw [k0, Int.toNat_natCast, k1, g_v])) (g_c (g_mk7 (k := T + (7 * m + 1)) (g_wl rfl) (g_wl rfl) h80 (by simp only [q_e, q_ev]; push_cast; omega) (by omega) (by rw [k2, g_v])) g_n))
theorem hr_partSet1 (hat : p_at pc M.2.2.2.2.1 = some (.iastore, 1)) : x_HoldR p_GT p_MT x_EE M pc 1 cr_partSet1 := by
  intro τ r h as rest ls d Q hH hA hF hM hK
  obtain ⟨a, V, rfl, ha, hA⟩ := x_t3 (show x_vs τ r 5 [(3, 67, ([], ((67 : Nat) : Int))), (1, 0, ([(0, 1), (1, 7)], 2)), (1, 0, ([(4, 1)], 0))] as from hA)
  obtain ⟨x, V', rfl, -, hx, hA⟩ := x_t1 hA
  obtain ⟨y, V'', rfl, -, hy, hA⟩ := x_t1 hA
  rw [g_nil hA]
  obtain ⟨rfl, ht⟩ := g_ref ha
  simp only [q_e, q_ev] at hx hy
  obtain ⟨vs, hc, hl, hv, h24, hW⟩ := g_H67 hH ht
  obtain ⟨h0, h1, h2, h3⟩ : (0 ≤ r 0 ∧ r 0 ≤ 2331) ∧ (0 ≤ r 1 ∧ r 1 ≤ 23) ∧ (0 ≤ r 2 ∧ r 2 ≤ 303) ∧ (3 ≤ r 3 ∧ r 3 ≤ 9) := ⟨g_get hF.1 0 rfl, g_get hF.1 1 rfl, g_get hF.1 2 rfl, g_get hF.1 3 rfl⟩
  obtain ⟨T, hT⟩ : ∃ T : Nat, r 0 = T := ⟨(r 0).toNat, by omega⟩
  have eT : q_e r ([(0, 1)], 0) = (T : Int) := by rw [g_v]; exact hT
  obtain ⟨m, hm⟩ : ∃ m : Nat, r 1 = m := ⟨(r 1).toNat, by omega⟩
  have h80 := (g_gho (g_get hM 1 rfl) 7 rfl).1
  have m7 : g_Q h (T) = m := by rw [g_un7 (e := ([(0, 1)], 0)) (k := T) (g_get hM 1 rfl) (by simp only [q_e, q_ev]; omega) (by omega)]; simp only [q_e, q_ev]; omega
  have m73 : g_Q h (T + (7 * m + 1)) = r 3 := by rw [g_un7 (e := ([(0, 1), (1, 7)], 1)) (k := T + (7 * m + 1)) (g_get hM 3 rfl) (by simp only [q_e, q_ev]; omega) (by omega)]; simp only [q_e, q_ev]; omega
  obtain ⟨hT4, m8⟩ := g_un8 (e := ([(0, 1)], 0)) (e' := ([(2, 1)], 0)) (k := T) (g_get hM 2 rfl) eT (by rw [g_v]; omega)
  rw [m7, g_v, Int.toNat_natCast] at m8
  have hTW := g_TW_cl (c := 7 * m + 2) (y := y.toInt) hT4 hW h24 m7 (by omega) (by omega) (by omega)
  have ex : x.toNatClampNeg = T + (7 * m + 2) := by rw [x_clamp, hx]; omega
  have hT3 : T ≤ 2331 := by unfold g_T4 at hT4; omega
  obtain ⟨hJ, eQ⟩ := g_J67 hH ht hc hl (j := T + (7 * m + 2)) (y := y) (by omega) (fun q => by unfold g_T4 at hT4; omega) hTW
  refine g_store hat hc (g_nn hx (by omega)) (by rw [ex]; omega) ?_
  rw [ex]
  obtain ⟨h2, hh2⟩ : ∃ h2, h2 = h.set 67 (1, 0, vs.set (T + (7 * m + 2)) (.int y)) := ⟨_, rfl⟩
  have e64 : g_vs h2 64 = g_vs h 64 := by rw [hh2]; exact g_vs_set_ne (by decide)
  rw [← hh2] at hJ eQ ⊢
  have h80 : 80 ≤ h2.length := by rw [hh2, List.length_set]; exact h80
  refine hK none _ ⟨τ, r, hJ, _, List.mem_cons_self, by rw [hh2, List.length_set]; exact Nat.le_refl _, by rw [hh2, p_sl_set hc (by simp)]; exact Nat.le_refl _, fun _ _ => rfl, g_F0, trivial, ?_⟩
  have k0 : g_Q h2 T = m := by rw [eQ]; simp only; rw [if_neg (by omega)]; exact m7
  have k1 : g_end (g_Q h2) T m = r 2 := by rw [eQ, g_end_cl (by omega)]; exact m8
  have k2 : g_Q h2 (T + (7 * m + 1)) = r 3 := by rw [eQ]; simp only; rw [if_neg (by omega)]; exact m73
  exact g_c (g_mk7 (k := T) (g_wl rfl) (g_wl rfl) h80 eT (by omega) (by rw [k0, g_v]; omega)) (g_c (g_mk8 (k := T) (g_wl rfl) (g_wl rfl) h80 eT hT4 (by rw [k0, Int.toNat_natCast, k1, g_v])) (g_c (g_mk7 (k := T + (7 * m + 1)) (g_wl rfl) (g_wl rfl) h80 (by simp only [q_e, q_ev]; push_cast; omega) (by omega) (by rw [k2, g_v])) g_n))
theorem hr_partSet2 (hat : p_at pc M.2.2.2.2.1 = some (.iastore, 1)) : x_HoldR p_GT p_MT x_EE M pc 1 cr_partSet2 := by
  intro τ r h as rest ls d Q hH hA hF hM hK
  obtain ⟨a, V, rfl, ha, hA⟩ := x_t3 (show x_vs τ r 5 [(3, 67, ([], ((67 : Nat) : Int))), (1, 0, ([(0, 1), (1, 7)], 3)), (1, 0, ([(4, 1)], 0))] as from hA)
  obtain ⟨x, V', rfl, -, hx, hA⟩ := x_t1 hA
  obtain ⟨y, V'', rfl, -, hy, hA⟩ := x_t1 hA
  rw [g_nil hA]
  obtain ⟨rfl, ht⟩ := g_ref ha
  simp only [q_e, q_ev] at hx hy
  obtain ⟨vs, hc, hl, hv, h24, hW⟩ := g_H67 hH ht
  obtain ⟨h0, h1, h2, h3⟩ : (0 ≤ r 0 ∧ r 0 ≤ 2331) ∧ (0 ≤ r 1 ∧ r 1 ≤ 23) ∧ (0 ≤ r 2 ∧ r 2 ≤ 303) ∧ (3 ≤ r 3 ∧ r 3 ≤ 9) := ⟨g_get hF.1 0 rfl, g_get hF.1 1 rfl, g_get hF.1 2 rfl, g_get hF.1 3 rfl⟩
  obtain ⟨T, hT⟩ : ∃ T : Nat, r 0 = T := ⟨(r 0).toNat, by omega⟩
  have eT : q_e r ([(0, 1)], 0) = (T : Int) := by rw [g_v]; exact hT
  obtain ⟨m, hm⟩ : ∃ m : Nat, r 1 = m := ⟨(r 1).toNat, by omega⟩
  have h80 := (g_gho (g_get hM 1 rfl) 7 rfl).1
  have m7 : g_Q h (T) = m := by rw [g_un7 (e := ([(0, 1)], 0)) (k := T) (g_get hM 1 rfl) (by simp only [q_e, q_ev]; omega) (by omega)]; simp only [q_e, q_ev]; omega
  have m73 : g_Q h (T + (7 * m + 1)) = r 3 := by rw [g_un7 (e := ([(0, 1), (1, 7)], 1)) (k := T + (7 * m + 1)) (g_get hM 3 rfl) (by simp only [q_e, q_ev]; omega) (by omega)]; simp only [q_e, q_ev]; omega
  obtain ⟨hT4, m8⟩ := g_un8 (e := ([(0, 1)], 0)) (e' := ([(2, 1)], 0)) (k := T) (g_get hM 2 rfl) eT (by rw [g_v]; omega)
  rw [m7, g_v, Int.toNat_natCast] at m8
  have hTW := g_TW_cl (c := 7 * m + 3) (y := y.toInt) hT4 hW h24 m7 (by omega) (by omega) (by omega)
  have ex : x.toNatClampNeg = T + (7 * m + 3) := by rw [x_clamp, hx]; omega
  have hT3 : T ≤ 2331 := by unfold g_T4 at hT4; omega
  obtain ⟨hJ, eQ⟩ := g_J67 hH ht hc hl (j := T + (7 * m + 3)) (y := y) (by omega) (fun q => by unfold g_T4 at hT4; omega) hTW
  refine g_store hat hc (g_nn hx (by omega)) (by rw [ex]; omega) ?_
  rw [ex]
  obtain ⟨h2, hh2⟩ : ∃ h2, h2 = h.set 67 (1, 0, vs.set (T + (7 * m + 3)) (.int y)) := ⟨_, rfl⟩
  have e64 : g_vs h2 64 = g_vs h 64 := by rw [hh2]; exact g_vs_set_ne (by decide)
  rw [← hh2] at hJ eQ ⊢
  have h80 : 80 ≤ h2.length := by rw [hh2, List.length_set]; exact h80
  refine hK none _ ⟨τ, r, hJ, _, List.mem_cons_self, by rw [hh2, List.length_set]; exact Nat.le_refl _, by rw [hh2, p_sl_set hc (by simp)]; exact Nat.le_refl _, fun _ _ => rfl, g_F0, trivial, ?_⟩
  have k0 : g_Q h2 T = m := by rw [eQ]; simp only; rw [if_neg (by omega)]; exact m7
  have k1 : g_end (g_Q h2) T m = r 2 := by rw [eQ, g_end_cl (by omega)]; exact m8
  have k2 : g_Q h2 (T + (7 * m + 1)) = r 3 := by rw [eQ]; simp only; rw [if_neg (by omega)]; exact m73
  exact g_c (g_mk7 (k := T) (g_wl rfl) (g_wl rfl) h80 eT (by omega) (by rw [k0, g_v]; omega)) (g_c (g_mk8 (k := T) (g_wl rfl) (g_wl rfl) h80 eT hT4 (by rw [k0, Int.toNat_natCast, k1, g_v])) (g_c (g_mk7 (k := T + (7 * m + 1)) (g_wl rfl) (g_wl rfl) h80 (by simp only [q_e, q_ev]; push_cast; omega) (by omega) (by rw [k2, g_v])) g_n))
theorem hr_partSet3 (hat : p_at pc M.2.2.2.2.1 = some (.iastore, 1)) : x_HoldR p_GT p_MT x_EE M pc 1 cr_partSet3 := by
  intro τ r h as rest ls d Q hH hA hF hM hK
  obtain ⟨a, V, rfl, ha, hA⟩ := x_t3 (show x_vs τ r 5 [(3, 67, ([], ((67 : Nat) : Int))), (1, 0, ([(0, 1), (1, 7)], 4)), (1, 0, ([(4, 1)], 0))] as from hA)
  obtain ⟨x, V', rfl, -, hx, hA⟩ := x_t1 hA
  obtain ⟨y, V'', rfl, -, hy, hA⟩ := x_t1 hA
  rw [g_nil hA]
  obtain ⟨rfl, ht⟩ := g_ref ha
  simp only [q_e, q_ev] at hx hy
  obtain ⟨vs, hc, hl, hv, h24, hW⟩ := g_H67 hH ht
  obtain ⟨h0, h1, h2, h3⟩ : (0 ≤ r 0 ∧ r 0 ≤ 2331) ∧ (0 ≤ r 1 ∧ r 1 ≤ 23) ∧ (0 ≤ r 2 ∧ r 2 ≤ 303) ∧ (3 ≤ r 3 ∧ r 3 ≤ 9) := ⟨g_get hF.1 0 rfl, g_get hF.1 1 rfl, g_get hF.1 2 rfl, g_get hF.1 3 rfl⟩
  obtain ⟨T, hT⟩ : ∃ T : Nat, r 0 = T := ⟨(r 0).toNat, by omega⟩
  have eT : q_e r ([(0, 1)], 0) = (T : Int) := by rw [g_v]; exact hT
  obtain ⟨m, hm⟩ : ∃ m : Nat, r 1 = m := ⟨(r 1).toNat, by omega⟩
  have h80 := (g_gho (g_get hM 1 rfl) 7 rfl).1
  have m7 : g_Q h (T) = m := by rw [g_un7 (e := ([(0, 1)], 0)) (k := T) (g_get hM 1 rfl) (by simp only [q_e, q_ev]; omega) (by omega)]; simp only [q_e, q_ev]; omega
  have m73 : g_Q h (T + (7 * m + 1)) = r 3 := by rw [g_un7 (e := ([(0, 1), (1, 7)], 1)) (k := T + (7 * m + 1)) (g_get hM 3 rfl) (by simp only [q_e, q_ev]; omega) (by omega)]; simp only [q_e, q_ev]; omega
  obtain ⟨hT4, m8⟩ := g_un8 (e := ([(0, 1)], 0)) (e' := ([(2, 1)], 0)) (k := T) (g_get hM 2 rfl) eT (by rw [g_v]; omega)
  rw [m7, g_v, Int.toNat_natCast] at m8
  have hTW := g_TW_cl (c := 7 * m + 4) (y := y.toInt) hT4 hW h24 m7 (by omega) (by omega) (by omega)
  have ex : x.toNatClampNeg = T + (7 * m + 4) := by rw [x_clamp, hx]; omega
  have hT3 : T ≤ 2331 := by unfold g_T4 at hT4; omega
  obtain ⟨hJ, eQ⟩ := g_J67 hH ht hc hl (j := T + (7 * m + 4)) (y := y) (by omega) (fun q => by unfold g_T4 at hT4; omega) hTW
  refine g_store hat hc (g_nn hx (by omega)) (by rw [ex]; omega) ?_
  rw [ex]
  obtain ⟨h2, hh2⟩ : ∃ h2, h2 = h.set 67 (1, 0, vs.set (T + (7 * m + 4)) (.int y)) := ⟨_, rfl⟩
  have e64 : g_vs h2 64 = g_vs h 64 := by rw [hh2]; exact g_vs_set_ne (by decide)
  rw [← hh2] at hJ eQ ⊢
  have h80 : 80 ≤ h2.length := by rw [hh2, List.length_set]; exact h80
  refine hK none _ ⟨τ, r, hJ, _, List.mem_cons_self, by rw [hh2, List.length_set]; exact Nat.le_refl _, by rw [hh2, p_sl_set hc (by simp)]; exact Nat.le_refl _, fun _ _ => rfl, g_F0, trivial, ?_⟩
  have k0 : g_Q h2 T = m := by rw [eQ]; simp only; rw [if_neg (by omega)]; exact m7
  have k1 : g_end (g_Q h2) T m = r 2 := by rw [eQ, g_end_cl (by omega)]; exact m8
  have k2 : g_Q h2 (T + (7 * m + 1)) = r 3 := by rw [eQ]; simp only; rw [if_neg (by omega)]; exact m73
  exact g_c (g_mk7 (k := T) (g_wl rfl) (g_wl rfl) h80 eT (by omega) (by rw [k0, g_v]; omega)) (g_c (g_mk8 (k := T) (g_wl rfl) (g_wl rfl) h80 eT hT4 (by rw [k0, Int.toNat_natCast, k1, g_v])) (g_c (g_mk7 (k := T + (7 * m + 1)) (g_wl rfl) (g_wl rfl) h80 (by simp only [q_e, q_ev]; push_cast; omega) (by omega) (by rw [k2, g_v])) g_n))
theorem hr_partSet4 (hat : p_at pc M.2.2.2.2.1 = some (.iastore, 1)) : x_HoldR p_GT p_MT x_EE M pc 1 cr_partSet4 := by
  intro τ r h as rest ls d Q hH hA hF hM hK
  obtain ⟨a, V, rfl, ha, hA⟩ := x_t3 (show x_vs τ r 5 [(3, 67, ([], ((67 : Nat) : Int))), (1, 0, ([(0, 1), (1, 7)], 5)), (1, 0, ([(4, 1)], 0))] as from hA)
  obtain ⟨x, V', rfl, -, hx, hA⟩ := x_t1 hA
  obtain ⟨y, V'', rfl, -, hy, hA⟩ := x_t1 hA
  rw [g_nil hA]
  obtain ⟨rfl, ht⟩ := g_ref ha
  simp only [q_e, q_ev] at hx hy
  obtain ⟨vs, hc, hl, hv, h24, hW⟩ := g_H67 hH ht
  obtain ⟨h0, h1, h2, h3⟩ : (0 ≤ r 0 ∧ r 0 ≤ 2331) ∧ (0 ≤ r 1 ∧ r 1 ≤ 23) ∧ (0 ≤ r 2 ∧ r 2 ≤ 303) ∧ (3 ≤ r 3 ∧ r 3 ≤ 9) := ⟨g_get hF.1 0 rfl, g_get hF.1 1 rfl, g_get hF.1 2 rfl, g_get hF.1 3 rfl⟩
  obtain ⟨T, hT⟩ : ∃ T : Nat, r 0 = T := ⟨(r 0).toNat, by omega⟩
  have eT : q_e r ([(0, 1)], 0) = (T : Int) := by rw [g_v]; exact hT
  obtain ⟨m, hm⟩ : ∃ m : Nat, r 1 = m := ⟨(r 1).toNat, by omega⟩
  have h80 := (g_gho (g_get hM 1 rfl) 7 rfl).1
  have m7 : g_Q h (T) = m := by rw [g_un7 (e := ([(0, 1)], 0)) (k := T) (g_get hM 1 rfl) (by simp only [q_e, q_ev]; omega) (by omega)]; simp only [q_e, q_ev]; omega
  have m73 : g_Q h (T + (7 * m + 1)) = r 3 := by rw [g_un7 (e := ([(0, 1), (1, 7)], 1)) (k := T + (7 * m + 1)) (g_get hM 3 rfl) (by simp only [q_e, q_ev]; omega) (by omega)]; simp only [q_e, q_ev]; omega
  obtain ⟨hT4, m8⟩ := g_un8 (e := ([(0, 1)], 0)) (e' := ([(2, 1)], 0)) (k := T) (g_get hM 2 rfl) eT (by rw [g_v]; omega)
  rw [m7, g_v, Int.toNat_natCast] at m8
  have hTW := g_TW_cl (c := 7 * m + 5) (y := y.toInt) hT4 hW h24 m7 (by omega) (by omega) (by omega)
  have ex : x.toNatClampNeg = T + (7 * m + 5) := by rw [x_clamp, hx]; omega
  have hT3 : T ≤ 2331 := by unfold g_T4 at hT4; omega
  obtain ⟨hJ, eQ⟩ := g_J67 hH ht hc hl (j := T + (7 * m + 5)) (y := y) (by omega) (fun q => by unfold g_T4 at hT4; omega) hTW
  refine g_store hat hc (g_nn hx (by omega)) (by rw [ex]; omega) ?_
  rw [ex]
  obtain ⟨h2, hh2⟩ : ∃ h2, h2 = h.set 67 (1, 0, vs.set (T + (7 * m + 5)) (.int y)) := ⟨_, rfl⟩
  have e64 : g_vs h2 64 = g_vs h 64 := by rw [hh2]; exact g_vs_set_ne (by decide)
  rw [← hh2] at hJ eQ ⊢
  have h80 : 80 ≤ h2.length := by rw [hh2, List.length_set]; exact h80
  refine hK none _ ⟨τ, r, hJ, _, List.mem_cons_self, by rw [hh2, List.length_set]; exact Nat.le_refl _, by rw [hh2, p_sl_set hc (by simp)]; exact Nat.le_refl _, fun _ _ => rfl, g_F0, trivial, ?_⟩
  have k0 : g_Q h2 T = m := by rw [eQ]; simp only; rw [if_neg (by omega)]; exact m7
  have k1 : g_end (g_Q h2) T m = r 2 := by rw [eQ, g_end_cl (by omega)]; exact m8
  have k2 : g_Q h2 (T + (7 * m + 1)) = r 3 := by rw [eQ]; simp only; rw [if_neg (by omega)]; exact m73
  exact g_c (g_mk7 (k := T) (g_wl rfl) (g_wl rfl) h80 eT (by omega) (by rw [k0, g_v]; omega)) (g_c (g_mk8 (k := T) (g_wl rfl) (g_wl rfl) h80 eT hT4 (by rw [k0, Int.toNat_natCast, k1, g_v])) (g_c (g_mk7 (k := T + (7 * m + 1)) (g_wl rfl) (g_wl rfl) h80 (by simp only [q_e, q_ev]; push_cast; omega) (by omega) (by rw [k2, g_v])) g_n))
theorem hr_partSet5 (hat : p_at pc M.2.2.2.2.1 = some (.iastore, 1)) : x_HoldR p_GT p_MT x_EE M pc 1 cr_partSet5 := by
  intro τ r h as rest ls d Q hH hA hF hM hK
  obtain ⟨a, V, rfl, ha, hA⟩ := x_t3 (show x_vs τ r 5 [(3, 67, ([], ((67 : Nat) : Int))), (1, 0, ([(0, 1), (1, 7)], 6)), (1, 0, ([(4, 1)], 0))] as from hA)
  obtain ⟨x, V', rfl, -, hx, hA⟩ := x_t1 hA
  obtain ⟨y, V'', rfl, -, hy, hA⟩ := x_t1 hA
  rw [g_nil hA]
  obtain ⟨rfl, ht⟩ := g_ref ha
  simp only [q_e, q_ev] at hx hy
  obtain ⟨vs, hc, hl, hv, h24, hW⟩ := g_H67 hH ht
  obtain ⟨h0, h1, h2, h3⟩ : (0 ≤ r 0 ∧ r 0 ≤ 2331) ∧ (0 ≤ r 1 ∧ r 1 ≤ 23) ∧ (0 ≤ r 2 ∧ r 2 ≤ 303) ∧ (3 ≤ r 3 ∧ r 3 ≤ 9) := ⟨g_get hF.1 0 rfl, g_get hF.1 1 rfl, g_get hF.1 2 rfl, g_get hF.1 3 rfl⟩
  obtain ⟨T, hT⟩ : ∃ T : Nat, r 0 = T := ⟨(r 0).toNat, by omega⟩
  have eT : q_e r ([(0, 1)], 0) = (T : Int) := by rw [g_v]; exact hT
  obtain ⟨m, hm⟩ : ∃ m : Nat, r 1 = m := ⟨(r 1).toNat, by omega⟩
  have h80 := (g_gho (g_get hM 1 rfl) 7 rfl).1
  have m7 : g_Q h (T) = m := by rw [g_un7 (e := ([(0, 1)], 0)) (k := T) (g_get hM 1 rfl) (by simp only [q_e, q_ev]; omega) (by omega)]; simp only [q_e, q_ev]; omega
  have m73 : g_Q h (T + (7 * m + 1)) = r 3 := by rw [g_un7 (e := ([(0, 1), (1, 7)], 1)) (k := T + (7 * m + 1)) (g_get hM 3 rfl) (by simp only [q_e, q_ev]; omega) (by omega)]; simp only [q_e, q_ev]; omega
  obtain ⟨hT4, m8⟩ := g_un8 (e := ([(0, 1)], 0)) (e' := ([(2, 1)], 0)) (k := T) (g_get hM 2 rfl) eT (by rw [g_v]; omega)
  rw [m7, g_v, Int.toNat_natCast] at m8
  have hTW := g_TW_cl (c := 7 * m + 6) (y := y.toInt) hT4 hW h24 m7 (by omega) (by omega) (by omega)
  have ex : x.toNatClampNeg = T + (7 * m + 6) := by rw [x_clamp, hx]; omega
  have hT3 : T ≤ 2331 := by unfold g_T4 at hT4; omega
  obtain ⟨hJ, eQ⟩ := g_J67 hH ht hc hl (j := T + (7 * m + 6)) (y := y) (by omega) (fun q => by unfold g_T4 at hT4; omega) hTW
  refine g_store hat hc (g_nn hx (by omega)) (by rw [ex]; omega) ?_
  rw [ex]
  obtain ⟨h2, hh2⟩ : ∃ h2, h2 = h.set 67 (1, 0, vs.set (T + (7 * m + 6)) (.int y)) := ⟨_, rfl⟩
  have e64 : g_vs h2 64 = g_vs h 64 := by rw [hh2]; exact g_vs_set_ne (by decide)
  rw [← hh2] at hJ eQ ⊢
  have h80 : 80 ≤ h2.length := by rw [hh2, List.length_set]; exact h80
  refine hK none _ ⟨τ, r, hJ, _, List.mem_cons_self, by rw [hh2, List.length_set]; exact Nat.le_refl _, by rw [hh2, p_sl_set hc (by simp)]; exact Nat.le_refl _, fun _ _ => rfl, g_F0, trivial, ?_⟩
  have k0 : g_Q h2 T = m := by rw [eQ]; simp only; rw [if_neg (by omega)]; exact m7
  have k1 : g_end (g_Q h2) T m = r 2 := by rw [eQ, g_end_cl (by omega)]; exact m8
  have k2 : g_Q h2 (T + (7 * m + 1)) = r 3 := by rw [eQ]; simp only; rw [if_neg (by omega)]; exact m73
  exact g_c (g_mk7 (k := T) (g_wl rfl) (g_wl rfl) h80 eT (by omega) (by rw [k0, g_v]; omega)) (g_c (g_mk8 (k := T) (g_wl rfl) (g_wl rfl) h80 eT hT4 (by rw [k0, Int.toNat_natCast, k1, g_v])) (g_c (g_mk7 (k := T + (7 * m + 1)) (g_wl rfl) (g_wl rfl) h80 (by simp only [q_e, q_ev]; push_cast; omega) (by omega) (by rw [k2, g_v])) g_n))
theorem hr_partSet6 (hat : p_at pc M.2.2.2.2.1 = some (.iastore, 1)) : x_HoldR p_GT p_MT x_EE M pc 1 cr_partSet6 := by
  intro τ r h as rest ls d Q hH hA hF hM hK
  obtain ⟨a, V, rfl, ha, hA⟩ := x_t3 (show x_vs τ r 5 [(3, 67, ([], ((67 : Nat) : Int))), (1, 0, ([(0, 1), (1, 7)], 7)), (1, 0, ([(4, 1)], 0))] as from hA)
  obtain ⟨x, V', rfl, -, hx, hA⟩ := x_t1 hA
  obtain ⟨y, V'', rfl, -, hy, hA⟩ := x_t1 hA
  rw [g_nil hA]
  obtain ⟨rfl, ht⟩ := g_ref ha
  simp only [q_e, q_ev] at hx hy
  obtain ⟨vs, hc, hl, hv, h24, hW⟩ := g_H67 hH ht
  obtain ⟨h0, h1, h2, h3⟩ : (0 ≤ r 0 ∧ r 0 ≤ 2331) ∧ (0 ≤ r 1 ∧ r 1 ≤ 23) ∧ (0 ≤ r 2 ∧ r 2 ≤ 303) ∧ (3 ≤ r 3 ∧ r 3 ≤ 9) := ⟨g_get hF.1 0 rfl, g_get hF.1 1 rfl, g_get hF.1 2 rfl, g_get hF.1 3 rfl⟩
  obtain ⟨T, hT⟩ : ∃ T : Nat, r 0 = T := ⟨(r 0).toNat, by omega⟩
  have eT : q_e r ([(0, 1)], 0) = (T : Int) := by rw [g_v]; exact hT
  obtain ⟨m, hm⟩ : ∃ m : Nat, r 1 = m := ⟨(r 1).toNat, by omega⟩
  have h80 := (g_gho (g_get hM 1 rfl) 7 rfl).1
  have m7 : g_Q h (T) = m := by rw [g_un7 (e := ([(0, 1)], 0)) (k := T) (g_get hM 1 rfl) (by simp only [q_e, q_ev]; omega) (by omega)]; simp only [q_e, q_ev]; omega
  have m73 : g_Q h (T + (7 * m + 1)) = r 3 := by rw [g_un7 (e := ([(0, 1), (1, 7)], 1)) (k := T + (7 * m + 1)) (g_get hM 3 rfl) (by simp only [q_e, q_ev]; omega) (by omega)]; simp only [q_e, q_ev]; omega
  obtain ⟨hT4, m8⟩ := g_un8 (e := ([(0, 1)], 0)) (e' := ([(2, 1)], 0)) (k := T) (g_get hM 2 rfl) eT (by rw [g_v]; omega)
  rw [m7, g_v, Int.toNat_natCast] at m8
  have hTW := g_TW_cl (c := 7 * m + 7) (y := y.toInt) hT4 hW h24 m7 (by omega) (by omega) (by omega)
  have ex : x.toNatClampNeg = T + (7 * m + 7) := by rw [x_clamp, hx]; omega
  have hT3 : T ≤ 2331 := by unfold g_T4 at hT4; omega
  obtain ⟨hJ, eQ⟩ := g_J67 hH ht hc hl (j := T + (7 * m + 7)) (y := y) (by omega) (fun q => by unfold g_T4 at hT4; omega) hTW
  refine g_store hat hc (g_nn hx (by omega)) (by rw [ex]; omega) ?_
  rw [ex]
  obtain ⟨h2, hh2⟩ : ∃ h2, h2 = h.set 67 (1, 0, vs.set (T + (7 * m + 7)) (.int y)) := ⟨_, rfl⟩
  have e64 : g_vs h2 64 = g_vs h 64 := by rw [hh2]; exact g_vs_set_ne (by decide)
  rw [← hh2] at hJ eQ ⊢
  have h80 : 80 ≤ h2.length := by rw [hh2, List.length_set]; exact h80
  refine hK none _ ⟨τ, r, hJ, _, List.mem_cons_self, by rw [hh2, List.length_set]; exact Nat.le_refl _, by rw [hh2, p_sl_set hc (by simp)]; exact Nat.le_refl _, fun _ _ => rfl, g_F0, trivial, ?_⟩
  have k0 : g_Q h2 T = m := by rw [eQ]; simp only; rw [if_neg (by omega)]; exact m7
  have k1 : g_end (g_Q h2) T m = r 2 := by rw [eQ, g_end_cl (by omega)]; exact m8
  have k2 : g_Q h2 (T + (7 * m + 1)) = r 3 := by rw [eQ]; simp only; rw [if_neg (by omega)]; exact m73
  exact g_c (g_mk7 (k := T) (g_wl rfl) (g_wl rfl) h80 eT (by omega) (by rw [k0, g_v]; omega)) (g_c (g_mk8 (k := T) (g_wl rfl) (g_wl rfl) h80 eT hT4 (by rw [k0, Int.toNat_natCast, k1, g_v])) (g_c (g_mk7 (k := T + (7 * m + 1)) (g_wl rfl) (g_wl rfl) h80 (by simp only [q_e, q_ev]; push_cast; omega) (by omega) (by rw [k2, g_v])) g_n))
theorem hr_fromSet (hat : p_at pc M.2.2.2.2.1 = some (.iastore, 1)) : x_HoldR p_GT p_MT x_EE M pc 1 cr_fromSet := by
  intro τ r h as rest ls d Q hH hA hF hM hK
  obtain ⟨a, V, rfl, ha, hA⟩ := x_t3 (show x_vs τ r 4 [(3, 67, ([], ((67 : Nat) : Int))), (1, 0, ([(0, 1), (1, 7)], 2)), (1, 0, ([(3, 1)], 0))] as from hA)
  obtain ⟨x, V', rfl, -, hx, hA⟩ := x_t1 hA
  obtain ⟨y, V'', rfl, -, hy, hA⟩ := x_t1 hA
  rw [g_nil hA]
  obtain ⟨rfl, ht⟩ := g_ref ha
  simp only [q_e, q_ev] at hx hy
  obtain ⟨vs, hc, hl, hv, h24, hW⟩ := g_H67 hH ht
  obtain ⟨h0, h1, h2, h3⟩ : (0 ≤ r 0 ∧ r 0 ≤ 2331) ∧ (0 ≤ r 1 ∧ r 1 ≤ 23) ∧ (0 ≤ r 2 ∧ r 2 ≤ 303) ∧ (0 ≤ r 3 ∧ r 3 ≤ 303) := ⟨g_get hF.1 0 rfl, g_get hF.1 1 rfl, g_get hF.1 2 rfl, g_get hF.1 3 rfl⟩
  obtain ⟨T, hT⟩ : ∃ T : Nat, r 0 = T := ⟨(r 0).toNat, by omega⟩
  have eT : q_e r ([(0, 1)], 0) = (T : Int) := by rw [g_v]; exact hT
  obtain ⟨m, hm⟩ : ∃ m : Nat, r 1 = m := ⟨(r 1).toNat, by omega⟩
  have f1 : 0 ≤ q_e r ([(2, -1), (3, 1)], 0) := g_get hF.2.1 0 rfl
  simp only [q_e, q_ev] at f1
  have h80 := (g_gho (g_get hM 2 rfl) 7 rfl).1
  have hf12 : g_at (g_vs h 64) 12 = (T : Int) := by rw [g_fld (e' := ([(0, 1)], 0)) (g_get hM 0 rfl) (by decide), g_v]; exact hT
  have m7 : g_Q h (T) = m := by rw [g_un7 (e := ([(0, 1)], 0)) (k := T) (g_get hM 2 rfl) (by simp only [q_e, q_ev]; omega) (by omega)]; simp only [q_e, q_ev]; omega
  obtain ⟨hT4, m8⟩ := g_un8 (e := ([(0, 1)], 0)) (e' := ([(2, 1)], 0)) (k := T) (g_get hM 3 rfl) eT (by rw [g_v]; omega)
  rw [m7, g_v, Int.toNat_natCast] at m8
  have hTW := g_TW_cl (c := 7 * m + 2) (y := y.toInt) hT4 hW h24 m7 (by omega) (by omega) (by omega)
  have ex : x.toNatClampNeg = T + (7 * m + 2) := by rw [x_clamp, hx]; omega
  have hT3 : T ≤ 2331 := by unfold g_T4 at hT4; omega
  obtain ⟨hJ, eQ⟩ := g_J67 hH ht hc hl (j := T + (7 * m + 2)) (y := y) (by omega) (fun q => by unfold g_T4 at hT4; omega) hTW
  refine g_store hat hc (g_nn hx (by omega)) (by rw [ex]; omega) ?_
  rw [ex]
  obtain ⟨h2, hh2⟩ : ∃ h2, h2 = h.set 67 (1, 0, vs.set (T + (7 * m + 2)) (.int y)) := ⟨_, rfl⟩
  have e64 : g_vs h2 64 = g_vs h 64 := by rw [hh2]; exact g_vs_set_ne (by decide)
  rw [← hh2] at hJ eQ ⊢
  have h80 : 80 ≤ h2.length := by rw [hh2, List.length_set]; exact h80
  refine hK none _ ⟨τ, r, hJ, _, List.mem_cons_self, by rw [hh2, List.length_set]; exact Nat.le_refl _, by rw [hh2, p_sl_set hc (by simp)]; exact Nat.le_refl _, fun _ _ => rfl, g_F0, trivial, ?_⟩
  have k0 : g_Q h2 T = m := by rw [eQ]; simp only; rw [if_neg (by omega)]; exact m7
  have k1 : g_end (g_Q h2) T m = r 2 := by rw [eQ, g_end_cl (by omega)]; exact m8
  have k2 : g_Q h2 (T + 7 * m + 2) = r 3 := by rw [eQ]; simp only; rw [if_pos (by omega)]; omega
  obtain ⟨w, hw⟩ : ∃ w : Nat, r 3 = w := ⟨(r 3).toNat, by omega⟩
  have k3 : g_CT (g_Q h2) T w = 0 := by
    simp only [g_CT, k0, Int.toNat_natCast, k1, k2, hw]
    rw [if_pos ⟨hT4, by omega, by omega, by omega, by omega, by omega⟩, Nat.sub_self]
    rfl
  exact g_c (g_mk7 (k := T) (g_wl rfl) (g_wl rfl) h80 eT (by omega) (by rw [k0, g_v]; omega)) (g_c (g_mk9 (k := w) (T := T) (g_wl rfl) (g_wl rfl) h80 (by rw [g_v]; exact hw) (by rw [e64]; exact hf12) (by rw [k3]; simp [q_e, q_ev])) g_n)
theorem g_CT_in {w : Int} (h : 0 ≤ g_CT Q T w) : g_T4 T ∧ 0 ≤ Q T ∧ Q T ≤ 23 ∧ g_end Q T (Q T).toNat ≤ Q (T + 7 * (Q T).toNat + 2) ∧ Q (T + 7 * (Q T).toNat + 2) ≤ w ∧ w ≤ 303 ∧ g_CT Q T w = g_sim Q T (Q (T + 7 * (Q T).toNat + 2)).toNat (w.toNat - (Q (T + 7 * (Q T).toNat + 2)).toNat) := by
  simp only [g_CT] at h ⊢
  split at h
  · next g => exact ⟨g.1, g.2.1, g.2.2.1, g.2.2.2.1, g.2.2.2.2.1, g.2.2.2.2.2, by rw [if_pos g]⟩
  · omega
theorem hr_toSet (hat : p_at pc M.2.2.2.2.1 = some (.iastore, 1)) : x_HoldR p_GT p_MT x_EE M pc 1 cr_toSet := by
  intro τ r h as rest ls d Q hH hA hF hM hK
  obtain ⟨a, V, rfl, ha, hA⟩ := x_t3 (show x_vs τ r 4 [(3, 67, ([], ((67 : Nat) : Int))), (1, 0, ([(0, 1), (1, 7)], 3)), (1, 0, ([(3, 1)], 0))] as from hA)
  obtain ⟨x, V', rfl, -, hx, hA⟩ := x_t1 hA
  obtain ⟨y, V'', rfl, -, hy, hA⟩ := x_t1 hA
  rw [g_nil hA]
  obtain ⟨rfl, ht⟩ := g_ref ha
  simp only [q_e, q_ev] at hx hy
  obtain ⟨vs, hc, hl, hv, h24, hW⟩ := g_H67 hH ht
  obtain ⟨h0, h1, h2, h3⟩ : (0 ≤ r 0 ∧ r 0 ≤ 2331) ∧ (0 ≤ r 1 ∧ r 1 ≤ 23) ∧ (0 ≤ r 2 ∧ r 2 ≤ 500) ∧ (0 ≤ r 3 ∧ r 3 ≤ 303) := ⟨g_get hF.1 0 rfl, g_get hF.1 1 rfl, g_get hF.1 2 rfl, g_get hF.1 3 rfl⟩
  obtain ⟨T, hT⟩ : ∃ T : Nat, r 0 = T := ⟨(r 0).toNat, by omega⟩
  have eT : q_e r ([(0, 1)], 0) = (T : Int) := by rw [g_v]; exact hT
  obtain ⟨m, hm⟩ : ∃ m : Nat, r 1 = m := ⟨(r 1).toNat, by omega⟩
  have h80 := (g_gho (g_get hM 1 rfl) 7 rfl).1
  have hf12 : g_at (g_vs h 64) 12 = (T : Int) := by rw [g_fld (e' := ([(0, 1)], 0)) (g_get hM 0 rfl) (by decide), g_v]; exact hT
  have m7 : g_Q h (T) = m := by rw [g_un7 (e := ([(0, 1)], 0)) (k := T) (g_get hM 1 rfl) (by simp only [q_e, q_ev]; omega) (by omega)]; simp only [q_e, q_ev]; omega
  obtain ⟨w, hw⟩ : ∃ w : Nat, r 3 = w := ⟨(r 3).toNat, by omega⟩
  have m9 := g_un9 (e := ([(3, 1)], 0)) (e' := ([(2, 1)], 0)) (k := w) (g_get hM 2 rfl) (by rw [g_v]; exact hw) hf12
  rw [g_v] at m9
  obtain ⟨hT4, c1, c2, c3, c4, c5, c6⟩ := g_CT_in (show 0 ≤ g_CT (g_Q h) T w by omega)
  rw [m7, Int.toNat_natCast] at c3 c4 c6
  have hTW := g_TW_cl (c := 7 * m + 3) (y := y.toInt) hT4 hW h24 m7 (by omega) (by omega) (by omega)
  have ex : x.toNatClampNeg = T + (7 * m + 3) := by rw [x_clamp, hx]; omega
  have hT3 : T ≤ 2331 := by unfold g_T4 at hT4; omega
  obtain ⟨hJ, eQ⟩ := g_J67 hH ht hc hl (j := T + (7 * m + 3)) (y := y) (by omega) (fun q => by unfold g_T4 at hT4; omega) hTW
  refine g_store hat hc (g_nn hx (by omega)) (by rw [ex]; omega) ?_
  rw [ex]
  obtain ⟨h2, hh2⟩ : ∃ h2, h2 = h.set 67 (1, 0, vs.set (T + (7 * m + 3)) (.int y)) := ⟨_, rfl⟩
  have e64 : g_vs h2 64 = g_vs h 64 := by rw [hh2]; exact g_vs_set_ne (by decide)
  rw [← hh2] at hJ eQ ⊢
  have h80 : 80 ≤ h2.length := by rw [hh2, List.length_set]; exact h80
  refine hK none _ ⟨τ, r, hJ, _, List.mem_cons_self, by rw [hh2, List.length_set]; exact Nat.le_refl _, by rw [hh2, p_sl_set hc (by simp)]; exact Nat.le_refl _, fun _ _ => rfl, g_F0, trivial, ?_⟩
  have k0 : g_Q h2 T = m := by rw [eQ]; simp only; rw [if_neg (by omega)]; exact m7
  have k1 : g_end (g_Q h2) T m = g_end (g_Q h) T m := by rw [eQ, g_end_cl (by omega)]
  have k2 : g_Q h2 (T + 7 * m + 2) = g_Q h (T + 7 * m + 2) := by rw [eQ]; simp only; rw [if_neg (by omega)]
  have k4 : g_Q h2 (T + (7 * m + 3)) = r 3 := by rw [eQ]; simp only; rw [if_pos trivial]; omega
  have e0 := g_end_0 (Q := g_Q h) (T := T) m
  have k3 : g_CT (g_Q h2) T w = r 2 := by
    simp only [g_CT, k0, Int.toNat_natCast, k1, k2]
    rw [if_pos ⟨hT4, by omega, by omega, c3, c4, c5⟩, ← m9, c6, Int.toNat_natCast]
    refine g_sim_congr _ (fun i hi => ?_)
    rw [eQ]
    exact ⟨if_neg (by omega), if_neg (by omega)⟩
  exact g_c (g_mk7 (k := T) (g_wl rfl) (g_wl rfl) h80 eT (by omega) (by rw [k0, g_v]; omega)) (g_c (g_mk9 (k := w) (T := T) (g_wl rfl) (g_wl rfl) h80 (by rw [g_v]; exact hw) (by rw [e64]; exact hf12) (by rw [k3, g_v])) (g_c (g_mk7 (k := T + (7 * m + 3)) (g_wl rfl) (g_wl rfl) h80 (by simp only [q_e, q_ev]; push_cast; omega) (by omega) (by rw [k4, g_v])) g_n))
theorem hr_counted (hat : p_at pc M.2.2.2.2.1 = some (.iastore, 1)) : x_HoldR p_GT p_MT x_EE M pc 1 cr_counted := by
  intro τ r h as rest ls d Q hH hA hF hM hK
  obtain ⟨a, V, rfl, ha, hA⟩ := x_t3 (show x_vs τ r 4 [(3, 67, ([], ((67 : Nat) : Int))), (1, 0, ([(0, 1)], 0)), (1, 0, ([(1, 1)], 1))] as from hA)
  obtain ⟨x, V', rfl, -, hx, hA⟩ := x_t1 hA
  obtain ⟨y, V'', rfl, -, hy, hA⟩ := x_t1 hA
  rw [g_nil hA]
  obtain ⟨rfl, ht⟩ := g_ref ha
  simp only [q_e, q_ev] at hx hy
  obtain ⟨vs, hc, hl, hv, h24, hW⟩ := g_H67 hH ht
  obtain ⟨h0, h1, h2, h3⟩ : (0 ≤ r 0 ∧ r 0 ≤ 2331) ∧ (0 ≤ r 1 ∧ r 1 ≤ 23) ∧ (0 ≤ r 2 ∧ r 2 ≤ 500) ∧ (0 ≤ r 3 ∧ r 3 ≤ 303) := ⟨g_get hF.1 0 rfl, g_get hF.1 1 rfl, g_get hF.1 2 rfl, g_get hF.1 3 rfl⟩
  obtain ⟨T, hT⟩ : ∃ T : Nat, r 0 = T := ⟨(r 0).toNat, by omega⟩
  have eT : q_e r ([(0, 1)], 0) = (T : Int) := by rw [g_v]; exact hT
  obtain ⟨m, hm⟩ : ∃ m : Nat, r 1 = m := ⟨(r 1).toNat, by omega⟩
  have h80 := (g_gho (g_get hM 1 rfl) 7 rfl).1
  have hf12 : g_at (g_vs h 64) 12 = (T : Int) := by rw [g_fld (e' := ([(0, 1)], 0)) (g_get hM 0 rfl) (by decide), g_v]; exact hT
  have m7 : g_Q h (T) = m := by rw [g_un7 (e := ([(0, 1)], 0)) (k := T) (g_get hM 1 rfl) (by simp only [q_e, q_ev]; omega) (by omega)]; simp only [q_e, q_ev]; omega
  have m72 : g_Q h (T + (7 * m + 3)) = r 3 := by rw [g_un7 (e := ([(0, 1), (1, 7)], 3)) (k := T + (7 * m + 3)) (g_get hM 2 rfl) (by simp only [q_e, q_ev]; omega) (by omega)]; simp only [q_e, q_ev]; omega
  obtain ⟨w, hw⟩ : ∃ w : Nat, r 3 = w := ⟨(r 3).toNat, by omega⟩
  have m9 := g_un9 (e := ([(3, 1)], 0)) (e' := ([(2, 1)], 0)) (k := w) (g_get hM 3 rfl) (by rw [g_v]; exact hw) hf12
  rw [g_v] at m9
  obtain ⟨hT4, c1, c2, c3, c4, c5, c6⟩ := g_CT_in (show 0 ≤ g_CT (g_Q h) T w by omega)
  rw [m7, Int.toNat_natCast] at c3 c4 c6
  have e0 := g_end_0 (Q := g_Q h) (T := T) m
  have a1 : T + 1 + 7 * m + 1 = T + 7 * m + 2 := by omega
  have a2 : T + 1 + 7 * m + 2 = T + (7 * m + 3) := by omega
  have hlaw : g_law (g_Q h) T m := by
    intro _ _
    rw [a1, a2, m72]
    refine ⟨by omega, by omega, by omega, ?_⟩
    rw [hw, ← c6]; omega
  have hTW := g_TW_ct (y := y.toInt) hT4 hW h24 m7 (by omega) hlaw (by omega)
  obtain ⟨z, hz⟩ : ∃ z, z = g_end (g_Q h) T (m + 1) := ⟨_, rfl⟩
  have hzb : 0 ≤ z ∧ z ≤ r 3 := by
    rw [hz]
    refine ⟨g_end_0 _, ?_⟩
    simp only [g_end, a2, m72]
    split <;> omega
  have ex : x.toNatClampNeg = T + 0 := by rw [x_clamp, hx]; omega
  have hT3 : T ≤ 2331 := by unfold g_T4 at hT4; omega
  obtain ⟨hJ, eQ⟩ := g_J67 hH ht hc hl (j := T + 0) (y := y) (by omega) (fun q => by unfold g_T4 at hT4; omega) hTW
  refine g_store hat hc (g_nn hx (by omega)) (by rw [ex]; omega) ?_
  rw [ex]
  obtain ⟨h2, hh2⟩ : ∃ h2, h2 = h.set 67 (1, 0, vs.set (T + 0) (.int y)) := ⟨_, rfl⟩
  have e64 : g_vs h2 64 = g_vs h 64 := by rw [hh2]; exact g_vs_set_ne (by decide)
  rw [← hh2] at hJ eQ ⊢
  have h80 : 80 ≤ h2.length := by rw [hh2, List.length_set]; exact h80
  refine hK none _ ⟨τ, x_up r 4 z, hJ, _, List.mem_cons_self, by rw [hh2, List.length_set]; exact Nat.le_refl _, by rw [hh2, p_sl_set hc (by simp)]; exact Nat.le_refl _, fun i hi => x_up_lt i hi, ⟨g_io (by simp only [x_up_at]; omega) g_io0, g_c (by simp [q_e, q_ev, x_up]; omega) g_n, g_n⟩, trivial, ?_⟩
  have k0 : g_Q h2 T = ((m + 1 : Nat) : Int) := by rw [eQ]; simp only; rw [if_pos (by omega)]; push_cast; omega
  have k1 : g_end (g_Q h2) T (m + 1) = z := by rw [eQ, g_end_ct]; exact hz.symm
  exact g_c (g_mk8 (k := T) (g_wl rfl) (g_wl rfl) h80 (by simp [q_e, q_ev, x_up]; omega) hT4 (by rw [k0, Int.toNat_natCast, k1, g_v, x_up_at])) g_n
theorem hr_countedOther (hat : p_at pc M.2.2.2.2.1 = some (.iastore, 1)) : x_HoldR p_GT p_MT x_EE M pc 1 cr_countedOther := by
  intro τ r h as rest ls d Q hH hA hF hM hK
  obtain ⟨a, V, rfl, ha, hA⟩ := x_t3 (show x_vs τ r 4 [(3, 67, ([], ((67 : Nat) : Int))), (1, 0, ([(0, 1)], 0)), (1, 0, ([(1, 1)], 1))] as from hA)
  obtain ⟨x, V', rfl, -, hx, hA⟩ := x_t1 hA
  obtain ⟨y, V'', rfl, -, hy, hA⟩ := x_t1 hA
  rw [g_nil hA]
  obtain ⟨rfl, ht⟩ := g_ref ha
  simp only [q_e, q_ev] at hx hy
  obtain ⟨vs, hc, hl, hv, h24, hW⟩ := g_H67 hH ht
  obtain ⟨h0, h1, h2, h3⟩ : (0 ≤ r 0 ∧ r 0 ≤ 2331) ∧ (0 ≤ r 1 ∧ r 1 ≤ 23) ∧ (0 ≤ r 2 ∧ r 2 ≤ 303) ∧ (3 ≤ r 3 ∧ r 3 ≤ 9) := ⟨g_get hF.1 0 rfl, g_get hF.1 1 rfl, g_get hF.1 2 rfl, g_get hF.1 3 rfl⟩
  obtain ⟨T, hT⟩ : ∃ T : Nat, r 0 = T := ⟨(r 0).toNat, by omega⟩
  have eT : q_e r ([(0, 1)], 0) = (T : Int) := by rw [g_v]; exact hT
  obtain ⟨m, hm⟩ : ∃ m : Nat, r 1 = m := ⟨(r 1).toNat, by omega⟩
  have h80 := (g_gho (g_get hM 1 rfl) 7 rfl).1
  have m7 : g_Q h (T) = m := by rw [g_un7 (e := ([(0, 1)], 0)) (k := T) (g_get hM 1 rfl) (by simp only [q_e, q_ev]; omega) (by omega)]; simp only [q_e, q_ev]; omega
  have m73 : g_Q h (T + 1 + 7 * m) = r 3 := by rw [g_un7 (e := ([(0, 1), (1, 7)], 1)) (k := T + 1 + 7 * m) (g_get hM 3 rfl) (by simp only [q_e, q_ev]; omega) (by omega)]; simp only [q_e, q_ev]; omega
  obtain ⟨hT4, m8⟩ := g_un8 (e := ([(0, 1)], 0)) (e' := ([(2, 1)], 0)) (k := T) (g_get hM 2 rfl) eT (by rw [g_v]; omega)
  rw [m7, g_v, Int.toNat_natCast] at m8
  have hlaw : g_law (g_Q h) T m := by
    intro _ q
    rw [m73] at q; omega
  have hTW := g_TW_ct (y := y.toInt) hT4 hW h24 m7 (by omega) hlaw (by omega)
  have ex : x.toNatClampNeg = T + 0 := by rw [x_clamp, hx]; omega
  have hT3 : T ≤ 2331 := by unfold g_T4 at hT4; omega
  obtain ⟨hJ, eQ⟩ := g_J67 hH ht hc hl (j := T + 0) (y := y) (by omega) (fun q => by unfold g_T4 at hT4; omega) hTW
  refine g_store hat hc (g_nn hx (by omega)) (by rw [ex]; omega) ?_
  rw [ex]
  obtain ⟨h2, hh2⟩ : ∃ h2, h2 = h.set 67 (1, 0, vs.set (T + 0) (.int y)) := ⟨_, rfl⟩
  have e64 : g_vs h2 64 = g_vs h 64 := by rw [hh2]; exact g_vs_set_ne (by decide)
  rw [← hh2] at hJ eQ ⊢
  have h80 : 80 ≤ h2.length := by rw [hh2, List.length_set]; exact h80
  refine hK none _ ⟨τ, r, hJ, _, List.mem_cons_self, by rw [hh2, List.length_set]; exact Nat.le_refl _, by rw [hh2, p_sl_set hc (by simp)]; exact Nat.le_refl _, fun _ _ => rfl, g_F0, trivial, ?_⟩
  have k0 : g_Q h2 T = ((m + 1 : Nat) : Int) := by rw [eQ]; simp only; rw [if_pos (by omega)]; push_cast; omega
  have k1 : g_end (g_Q h2) T (m + 1) = r 2 := by
    rw [eQ, g_end_ct]
    simp only [g_end, m73]
    rw [if_neg (by omega)]; exact m8
  exact g_c (g_mk8 (k := T) (g_wl rfl) (g_wl rfl) h80 eT hT4 (by rw [k0, Int.toNat_natCast, k1, g_v])) g_n
theorem hr_noClause (hat : p_at pc M.2.2.2.2.1 = some (.iastore, 1)) : x_HoldR p_GT p_MT x_EE M pc 1 cr_noClause := by
  intro τ r h as rest ls d Q hH hA hF hM hK
  obtain ⟨a, V, rfl, ha, hA⟩ := x_t3 (show x_vs τ r 1 [(3, 67, ([], ((67 : Nat) : Int))), (1, 0, ([(0, 777)], 0)), (1, 0, ([], 0))] as from hA)
  obtain ⟨x, V', rfl, -, hx, hA⟩ := x_t1 hA
  obtain ⟨y, V'', rfl, -, hy, hA⟩ := x_t1 hA
  rw [g_nil hA]
  obtain ⟨rfl, ht⟩ := g_ref ha
  simp only [q_e, q_ev] at hx hy
  obtain ⟨vs, hc, hl, hv, h24, hW⟩ := g_H67 hH ht
  obtain h0 : (0 ≤ r 0 ∧ r 0 ≤ 3) := g_get hF.1 0 rfl
  obtain ⟨t, hT⟩ : ∃ t : Nat, r 0 = t := ⟨(r 0).toNat, by omega⟩
  obtain ⟨T, eTt⟩ : ∃ T, T = 777 * t := ⟨_, rfl⟩
  have hT4 : g_T4 T := by rw [eTt]; exact g_T4_of (by omega)
  have h80 := g_80 (g_get hM 2 rfl)
  have hTW := g_TW_z (y := y.toInt) hT4 hW h24 (by omega)
  have ex : x.toNatClampNeg = T + 0 := by rw [x_clamp, hx]; omega
  have hT3 : T ≤ 2331 := by unfold g_T4 at hT4; omega
  obtain ⟨hJ, eQ⟩ := g_J67 hH ht hc hl (j := T + 0) (y := y) (by omega) (fun q => by unfold g_T4 at hT4; omega) hTW
  refine g_store hat hc (g_nn hx (by omega)) (by rw [ex]; omega) ?_
  rw [ex]
  obtain ⟨h2, hh2⟩ : ∃ h2, h2 = h.set 67 (1, 0, vs.set (T + 0) (.int y)) := ⟨_, rfl⟩
  have e64 : g_vs h2 64 = g_vs h 64 := by rw [hh2]; exact g_vs_set_ne (by decide)
  rw [← hh2] at hJ eQ ⊢
  have h80 : 80 ≤ h2.length := by rw [hh2, List.length_set]; exact h80
  refine hK none _ ⟨τ, r, hJ, _, List.mem_cons_self, by rw [hh2, List.length_set]; exact Nat.le_refl _, by rw [hh2, p_sl_set hc (by simp)]; exact Nat.le_refl _, fun _ _ => rfl, g_F0, trivial, ?_⟩
  have k0 : g_Q h2 T = 0 := by rw [eQ]; simp only; rw [if_pos (by omega)]; omega
  exact g_c (g_mk8 (k := T) (g_wl rfl) (g_wl rfl) h80 (by simp only [q_e, q_ev]; omega) hT4 (by rw [k0]; simp [q_e, q_ev, g_end])) g_n
end GTR

/-! The texts as the ghosts read them -/
section GTX
variable {M : p_M} {pc : Nat} {τ : Nat → Option Nat} {r : Nat → Int} {n : Nat} {h : p_H} {e e' : q_E} {k : Nat}
def g_Q (h : p_H) (j : Nat) : Int := if Nat.ble j 3107 then g_at (g_vs h 67) j else 0
theorem g_lk67_7 {j : Nat} : g_lk 7 67 j = Nat.ble j 3107 := by
  have e : g_lk 7 67 j = (Nat.ble j 3107 || (false || (false || false))) := rfl
  rw [e]; cases Nat.ble j 3107 <;> rfl
theorem g_lk67_8 {j : Nat} : g_lk 8 67 j = Nat.ble j 3107 := by
  have e : g_lk 8 67 j = (false || (Nat.ble j 3107 || (false || false))) := rfl
  rw [e]; cases Nat.ble j 3107 <;> rfl
theorem g_lk67_9 {j : Nat} : g_lk 9 67 j = Nat.ble j 3107 := by
  have e : g_lk 9 67 j = (false || (false || (Nat.ble j 3107 || false))) := rfl
  rw [e]; cases Nat.ble j 3107 <;> rfl
theorem g_ms67_7 : g_ms 7 h 67 = g_Q h := by funext j; simp only [g_ms, g_Q, g_lk67_7]
theorem g_ms67_8 : g_ms 8 h 67 = g_Q h := by funext j; simp only [g_ms, g_Q, g_lk67_8]
theorem g_ms67_9 : g_ms 9 h 67 = g_Q h := by funext j; simp only [g_ms, g_Q, g_lk67_9]
theorem g_ms64_9 : g_ms 9 h 64 12 = g_at (g_vs h 64) 12 := g_ms_at rfl
/-- where a text begins -/
def g_T4 (T : Nat) : Prop := T = 0 ∨ T = 777 ∨ T = 1554 ∨ T = 2331
theorem g_T4_ex {T : Nat} (h : g_T4 T) : ∃ t, t < 4 ∧ T = 777 * t := by
  rcases h with rfl | rfl | rfl | rfl
  · exact ⟨0, by omega, by omega⟩
  · exact ⟨1, by omega, by omega⟩
  · exact ⟨2, by omega, by omega⟩
  · exact ⟨3, by omega, by omega⟩
theorem g_T4_of {t : Nat} (h : t < 4) : g_T4 (777 * t) := by unfold g_T4; omega
theorem g_T4_i {T : Nat} : ((T : Int) = 0 ∨ (T : Int) = 777 ∨ (T : Int) = 1554 ∨ (T : Int) = 2331) ↔ g_T4 T := by unfold g_T4; omega
/-- values of the law that is being read, T its text -/
def g_CT (Q : Nat → Int) (T : Nat) (w : Int) : Int :=
  let f := Q (T + 7 * (Q T).toNat + 2)
  if (T = 0 ∨ T = 777 ∨ T = 1554 ∨ T = 2331) ∧ 0 ≤ Q T ∧ Q T ≤ 23 ∧ g_end Q T (Q T).toNat ≤ f ∧ f ≤ w ∧ w ≤ 303 then g_sim Q T f.toNat (w.toNat - f.toNat) else -1
theorem g_C_CT {R : Nat → Nat → Int} {T : Nat} {w : Int} (hT : R 64 12 = T) : g_C R w = g_CT (R 67) T w := by
  unfold g_C g_CT
  rw [hT]
  simp only [Int.toNat_natCast]
  by_cases c : (T = 0 ∨ T = 777 ∨ T = 1554 ∨ T = 2331) ∧ 0 ≤ R 67 T ∧ R 67 T ≤ 23 ∧ g_end (R 67) T (R 67 T).toNat ≤ R 67 (T + 7 * (R 67 T).toNat + 2) ∧ R 67 (T + 7 * (R 67 T).toNat + 2) ≤ w ∧ w ≤ 303
  · rw [if_pos c, if_pos ⟨g_T4_i.mpr c.1, c.2⟩]
  · rw [if_neg c, if_neg (fun q => c ⟨g_T4_i.mp q.1, q.2⟩)]
/-- ghost 7: a place of the texts, how far a law is done, where a clause's text begins -/
def g_svn (Q : Nat → Int) (p : Int) : Int := if p ≤ 3107 then Q p.toNat else if p < 8388608 then g_W Q (p.toNat - 10000) else ((777 * ((p.toNat - 8388608) / 777) : Nat) : Int)
theorem g_u7 (hm : x_m x_EE τ r n h (e, 64, 1000008, (1, 0, e'))) : g_svn (g_Q h) (q_e r e) = q_e r e' := by
  have b : g_svn (g_ms 7 h 67) (q_e r e) = q_e r e' := (g_gho hm 7 rfl).2
  rw [g_ms67_7] at b; exact b
theorem g_m7 (w1 : q_wl n e.1) (w2 : q_wl n e'.1) (h80 : 80 ≤ h.length) (hv : g_svn (g_Q h) (q_e r e) = q_e r e') : x_m x_EE τ r n h (e, 64, 1000008, (1, 0, e')) := by
  refine g_mk 7 rfl w1 w2 rfl h80 ?_
  show g_svn (g_ms 7 h 67) (q_e r e) = q_e r e'
  rw [g_ms67_7]; exact hv
theorem g_un7 (hm : x_m x_EE τ r n h (e, 64, 1000008, (1, 0, e'))) (hk : q_e r e = (k : Int)) (h1 : k ≤ 3107) : g_Q h k = q_e r e' := by
  have b := g_u7 hm
  rw [hk, g_svn, if_pos (by omega), Int.toNat_natCast] at b; exact b
theorem g_un8 (hm : x_m x_EE τ r n h (e, 64, 1000009, (1, 0, e'))) (hk : q_e r e = (k : Int)) (h0 : 0 ≤ q_e r e') : g_T4 k ∧ g_end (g_Q h) k (g_Q h k).toNat = q_e r e' := by
  have b : (if q_e r e = 0 ∨ q_e r e = 777 ∨ q_e r e = 1554 ∨ q_e r e = 2331 then g_end (g_ms 8 h 67) (q_e r e).toNat (g_ms 8 h 67 (q_e r e).toNat).toNat else -1) = q_e r e' := (g_gho hm 8 rfl).2
  rw [hk, Int.toNat_natCast, g_ms67_8] at b
  split at b
  · next g => exact ⟨g_T4_i.mp g, b⟩
  · omega
theorem g_un9 {T : Nat} (hm : x_m x_EE τ r n h (e, 64, 1000010, (1, 0, e'))) (hk : q_e r e = (k : Int)) (hT : g_at (g_vs h 64) 12 = (T : Int)) : g_CT (g_Q h) T k = q_e r e' := by
  have b : g_C (g_ms 9 h) (q_e r e) = q_e r e' := (g_gho hm 9 rfl).2
  rw [hk, g_C_CT (T := T) (by rw [g_ms64_9]; exact hT), g_ms67_9] at b; exact b
theorem g_fld {j : Nat} (hm : x_m x_EE τ r n h (([], 64), 64, j, (1, 0, e'))) (hj : j < 1000000) : g_at (g_vs h 64) j = q_e r e' := by
  obtain ⟨i, c, e1, -, e3, e4⟩ := hm.plc (show j < 1000001 by omega)
  have e1 : (i : Int) = q_e r ([], 64) := e1
  simp only [q_e, q_ev] at e1
  have : i = 64 := by omega
  subst this
  rw [if_neg (show ¬ j = x_len by unfold x_len; omega)] at e4
  obtain ⟨v, e5, -, x, e6, e7⟩ := e4
  rw [g_vs_at e3, g_at_int (show c.2.2[j]? = some (.int x) by rw [e5]; exact congrArg some e6)]
  exact e7
theorem g_mk7 (w1 : q_wl n e.1) (w2 : q_wl n e'.1) (h80 : 80 ≤ h.length) (hk : q_e r e = (k : Int)) (h1 : k ≤ 3107) (hv : g_Q h k = q_e r e') : x_m x_EE τ r n h (e, 64, 1000008, (1, 0, e')) := by
  refine g_m7 w1 w2 h80 ?_
  rw [hk, g_svn, if_pos (by omega), Int.toNat_natCast]; exact hv
theorem g_mk8 (w1 : q_wl n e.1) (w2 : q_wl n e'.1) (h80 : 80 ≤ h.length) (hk : q_e r e = (k : Int)) (hT : g_T4 k) (hv : g_end (g_Q h) k (g_Q h k).toNat = q_e r e') : x_m x_EE τ r n h (e, 64, 1000009, (1, 0, e')) := by
  refine g_mk 8 rfl w1 w2 rfl h80 ?_
  show (if q_e r e = 0 ∨ q_e r e = 777 ∨ q_e r e = 1554 ∨ q_e r e = 2331 then g_end (g_ms 8 h 67) (q_e r e).toNat (g_ms 8 h 67 (q_e r e).toNat).toNat else -1) = q_e r e'
  rw [hk, Int.toNat_natCast, g_ms67_8, if_pos (g_T4_i.mpr hT)]; exact hv
theorem g_mk9 {T : Nat} (w1 : q_wl n e.1) (w2 : q_wl n e'.1) (h80 : 80 ≤ h.length) (hk : q_e r e = (k : Int)) (hT : g_at (g_vs h 64) 12 = (T : Int)) (hv : g_CT (g_Q h) T k = q_e r e') : x_m x_EE τ r n h (e, 64, 1000010, (1, 0, e')) := by
  refine g_mk 9 rfl w1 w2 rfl h80 ?_
  show g_C (g_ms 9 h) (q_e r e) = q_e r e'
  rw [hk, g_C_CT (T := T) (by rw [g_ms64_9]; exact hT), g_ms67_9]; exact hv
theorem g_H67 (hH : x_H x_EE τ h) (ht : τ 67 = some 67) : ∃ vs, h[67]? = some (1, 0, vs) ∧ vs.length = 3108 ∧ (∀ j, j < 3108 → ∃ y : Int32, vs[j]? = some (.int y) ∧ g_Q h j = y.toInt) ∧ (∀ t, t < 4 → 0 ≤ g_Q h (777 * t) ∧ g_Q h (777 * t) ≤ 24) ∧ g_TW (g_Q h) := by
  obtain ⟨vs, hc, l1, l2, hf, hct⟩ := g_cell hH ht (show x_KL[67]? = some _ from rfl)
  have l1 : 3108 ≤ vs.length := l1
  have l2 : vs.length ≤ 3108 := l2
  have hv : ∀ j, j < 3108 → ∃ y : Int32, vs[j]? = some (.int y) ∧ g_Q h j = y.toInt := by
    intro j hj
    obtain ⟨y, hy⟩ := g_int rfl rfl hf (show j < vs.length by omega)
    refine ⟨y, hy, ?_⟩
    simp only [g_Q]
    rw [if_pos (Nat.ble_eq_true_of_le (by omega)), g_vs_at hc]
    exact g_at_int hy
  refine ⟨vs, hc, by omega, hv, fun t ht => ?_, ?_⟩
  · obtain ⟨y, h1, h2⟩ := hv (777 * t) (by omega)
    have := hf _ _ h1
    rw [h2]
    rcases (show t = 0 ∨ t = 1 ∨ t = 2 ∨ t = 3 by omega) with rfl | rfl | rfl | rfl
    · obtain ⟨z, e1, e2, e3⟩ := this; cases e1; exact ⟨e2, e3⟩
    · obtain ⟨z, e1, e2, e3⟩ := this; cases e1; exact ⟨e2, e3⟩
    · obtain ⟨z, e1, e2, e3⟩ := this; cases e1; exact ⟨e2, e3⟩
    · obtain ⟨z, e1, e2, e3⟩ := this; cases e1; exact ⟨e2, e3⟩
  · have := hct.2.1 rfl
    have e : g_Q h = fun j => if Nat.ble j 3107 then g_at vs j else 0 := by
      funext j; simp only [g_Q, g_vs_at hc]
    rw [e]; exact this
/-- a cell's values, with what is given over and above shown anew -/
theorem x_H.setc {E : x_E} (hH : x_H E τ h) {i k : Nat} {K : x_K} {c : p_C} {vs' : List Value} (ht : τ i = some k) (hc : h[i]? = some c) (hK : E.1[k]? = some K) (hl : vs'.length = c.2.2.length) (hv : ∀ j v, vs'[j]? = some v → x_fo τ (x_pt K j) v) (hq : E.2.1 i k vs') : x_H E τ (h.set i (c.1, c.2.1, vs')) := by
  intro a q ha
  by_cases e : i = a
  · subst e
    have hq : q = k := Option.some.inj (ha.symm.trans ht)
    subst hq
    obtain ⟨c', hc', K', hK', g1, g2, g3, g4, g5, g6⟩ := hH i q ha
    have ec : c' = c := Option.some.inj (hc'.symm.trans hc)
    have eK : K' = K := Option.some.inj (hK'.symm.trans hK)
    subst ec; subst eK
    have hlt : i < h.length := (List.getElem?_eq_some_iff.mp hc).1
    exact ⟨(c'.1, c'.2.1, vs'), by rw [List.getElem?_set, if_pos rfl, if_pos hlt], K', hK', g1, g2, by show _ ≤ vs'.length; omega, by show vs'.length ≤ _; omega, hv, by assumption⟩
  · obtain ⟨c', hc', g⟩ := hH a q ha
    exact ⟨c', by rw [List.getElem?_set_ne e]; exact hc', g⟩
theorem g_J67 (hH : x_H x_EE τ h) (ht : τ 67 = some 67) {vs : List Value} (hc : h[67]? = some (1, 0, vs)) (hl : vs.length = 3108) {j : Nat} {y : Int32} (hj : j < 3108) (hy : j % 777 = 0 → 0 ≤ y.toInt ∧ y.toInt ≤ 24) (hW : g_TW (fun i => if i = j then y.toInt else g_Q h i)) : x_J x_EE [(67, 0, 3107)] τ h τ (h.set 67 (1, 0, vs.set j (.int y))) ∧ g_Q (h.set 67 (1, 0, vs.set j (.int y))) = (fun i => if i = j then y.toInt else g_Q h i) := by
  have hlen := (List.getElem?_eq_some_iff.mp hc).1
  have eQ : g_Q (h.set 67 (1, 0, vs.set j (.int y))) = (fun i => if i = j then y.toInt else g_Q h i) := by
    funext i
    simp only [g_Q, g_vs_set hlen, g_vs_at hc]
    by_cases e : i = j
    · subst e
      rw [if_pos rfl, if_pos (Nat.ble_eq_true_of_le (by omega))]
      exact g_at_int (List.getElem?_set_self (by omega))
    · rw [if_neg e]
      simp only [g_at, List.getElem?_set_ne (Ne.symm e)]
  refine ⟨⟨fun _ _ q => q, fun _ _ q => Or.inl q, ?_, ?_⟩, eQ⟩
  · obtain ⟨vs0, hc0, -, -, hf, hct⟩ := g_cell hH ht (show x_KL[67]? = some _ from rfl)
    have : vs0 = vs := by
      have := hc0.symm.trans hc
      simp only [Option.some.injEq, Prod.mk.injEq, true_and] at this
      exact this
    subst this
    refine hH.setc (c := (1, 0, vs0)) ht hc (show x_KL[67]? = some _ from rfl) (by simp) (fun i v hv => ?_) ⟨fun _ => rfl, fun _ => ?_, fun q => (by omega)⟩
    · by_cases e : j = i
      · subst e
        rw [List.getElem?_set_self (by omega)] at hv
        cases hv
        simp only [x_pt, x_rg]
        by_cases c : Nat.ble 0 j && Nat.ble j 2331 && Nat.beq ((j - 0) % 777) 0
        · simp only [Nat.beq, Bool.false_eq_true, if_false]
          rw [if_pos c]
          rw [Bool.and_eq_true] at c
          have := Nat.eq_of_beq_eq_true c.2
          exact ⟨y, rfl, hy (by omega)⟩
        · simp only [Nat.beq, Bool.false_eq_true, if_false]
          rw [if_neg c]
          exact ⟨y, rfl, x_I32 y⟩
      · rw [List.getElem?_set_ne e] at hv
        exact hf i v hv
    · have e2 : (fun i => if Nat.ble i 3107 then g_at (vs0.set j (.int y)) i else 0) = g_Q (h.set 67 (1, 0, vs0.set j (.int y))) := by
        funext i; simp only [g_Q, g_vs_set hlen]
      rw [e2, eQ]; exact hW
  · exact x_ef.sets (x_ef_refl) (fun _ _ q => Or.inl q) (c := (1, 0, vs)) (lo := 0) (hi := 3107) ht hc (by simp) (x_set1 (Nat.zero_le _) (by omega)) rfl
end GTX

/-! Told rows that are alike: what the ghosts say of the cells; rules and contracts by hand -/
section AL1
variable {M : p_M} {pc : Nat} {τ : Nat → Option Nat} {r : Nat → Int} {n : Nat} {h : p_H} {e e' : q_E}
theorem a_l15a : ∀ j, j ≤ 31 → g_lk 15 17 j = true := fun j hj => g_lk_of (show x_KL[17]? = some _ from rfl) (lo := 0) (hi := 31) (by decide) (Nat.zero_le _) hj
theorem a_l15b : ∀ j, 339 ≤ j → j ≤ 354 → g_lk 15 65 j = true := fun j h1 h2 => g_lk_of (show x_KL[65]? = some _ from rfl) (lo := 339) (hi := 354) (by decide) h1 h2
theorem a_l16a : ∀ j, j ≤ 31 → g_lk 16 34 j = true := fun j hj => g_lk_of (show x_KL[34]? = some _ from rfl) (lo := 0) (hi := 31) (by decide) (Nat.zero_le _) hj
theorem a_l16b : ∀ j, 339 ≤ j → j ≤ 354 → g_lk 16 66 j = true := fun j h1 h2 => g_lk_of (show x_KL[66]? = some _ from rfl) (lo := 339) (hi := 354) (by decide) h1 h2
theorem a_l17a : ∀ j, j ≤ 31 → g_lk 17 34 j = true := fun j hj => g_lk_of (show x_KL[34]? = some _ from rfl) (lo := 0) (hi := 31) (by decide) (Nat.zero_le _) hj
theorem a_l17b : ∀ j, 339 ≤ j → j ≤ 354 → g_lk 17 65 j = true := fun j h1 h2 => g_lk_of (show x_KL[65]? = some _ from rfl) (lo := 339) (hi := 354) (by decide) h1 h2
theorem a_l18a : ∀ j, j ≤ 31 → g_lk 18 17 j = true := fun j hj => g_lk_of (show x_KL[17]? = some _ from rfl) (lo := 0) (hi := 31) (by decide) (Nat.zero_le _) hj
theorem a_l18b : ∀ j, 339 ≤ j → j ≤ 354 → g_lk 18 66 j = true := fun j h1 h2 => g_lk_of (show x_KL[66]? = some _ from rfl) (lo := 339) (hi := 354) (by decide) h1 h2
theorem a_l19a : ∀ j, j ≤ 31 → g_lk 19 17 j = true := fun j hj => g_lk_of (show x_KL[17]? = some _ from rfl) (lo := 0) (hi := 31) (by decide) (Nat.zero_le _) hj
theorem a_l19b : ∀ j, 339 ≤ j → j ≤ 354 → g_lk 19 65 j = true := fun j h1 h2 => g_lk_of (show x_KL[65]? = some _ from rfl) (lo := 339) (hi := 354) (by decide) h1 h2
theorem a_l21a : ∀ j, j ≤ 31 → g_lk 21 17 j = true := fun j hj => g_lk_of (show x_KL[17]? = some _ from rfl) (lo := 0) (hi := 31) (by decide) (Nat.zero_le _) hj
theorem a_l21b : ∀ j, 339 ≤ j → j ≤ 354 → g_lk 21 65 j = true := fun j h1 h2 => g_lk_of (show x_KL[65]? = some _ from rfl) (lo := 339) (hi := 354) (by decide) h1 h2
theorem a_l20 : ∀ j, 339 ≤ j → j ≤ 354 → g_lk 20 65 j = true := fun j h1 h2 => g_lk_of (show x_KL[65]? = some _ from rfl) (lo := 339) (hi := 354) (by decide) h1 h2
theorem a_l20c : g_lk 20 65 7 = true := g_lk_of (show x_KL[65]? = some _ from rfl) (lo := 7) (hi := 7) (by decide) (Nat.le_refl _) (Nat.le_refl _)
theorem a_al {g a b : Nat} {ca cb : p_C} (la : ∀ j, j ≤ 31 → g_lk g a j = true) (lb : ∀ j, 339 ≤ j → j ≤ 354 → g_lk g b j = true) (ha : h[a]? = some ca) (hb : h[b]? = some cb) : g_al (g_ms g h) a b = 1 ↔ ∀ k, k < 8 → ∀ j, j < 2 → g_bq j (g_at ca.2.2 (4 * k + j)) (g_at cb.2.2 (339 + 2 * k + j)) = true := by
  rw [g_al_iff]
  constructor
  · intro q k hk j hj
    have := q k hk j hj
    rw [g_ms_at (la _ (by omega)), g_ms_at (lb _ (by omega) (by omega)), g_vs_at ha, g_vs_at hb] at this
    exact this
  · intro q k hk j hj
    rw [g_ms_at (la _ (by omega)), g_ms_at (lb _ (by omega) (by omega)), g_vs_at ha, g_vs_at hb]
    exact q k hk j hj
theorem a_one : q_e r ([], 1) = 1 := by simp [q_e, q_ev]
theorem a_cell {a : Nat} (ha : a < 80) (h80 : 80 ≤ h.length) : ∃ c, h[a]? = some c := ⟨_, List.getElem?_eq_getElem (by omega)⟩
theorem a_un15 (hm : x_m x_EE τ r n h (([], 0), 64, 1000016, (1, 0, ([], 1)))) {ca cb : p_C} (ha : h[17]? = some ca) (hb : h[65]? = some cb) : ∀ k, k < 8 → ∀ j, j < 2 → g_bq j (g_at ca.2.2 (4 * k + j)) (g_at cb.2.2 (339 + 2 * k + j)) = true := by
  have q : g_al (g_ms 15 h) 17 65 = q_e r ([], 1) := (g_gho hm 15 rfl).2
  rw [a_one] at q
  exact (a_al a_l15a a_l15b ha hb).mp q
theorem a_mk15 (h80 : 80 ≤ h.length) {ca cb : p_C} (ha : h[17]? = some ca) (hb : h[65]? = some cb) (q : ∀ k, k < 8 → ∀ j, j < 2 → g_bq j (g_at ca.2.2 (4 * k + j)) (g_at cb.2.2 (339 + 2 * k + j)) = true) : x_m x_EE τ r n h (([], 0), 64, 1000016, (1, 0, ([], 1))) := by
  refine g_mk 15 rfl q_wl_nil q_wl_nil rfl h80 ?_
  show g_al (g_ms 15 h) 17 65 = q_e r ([], 1)
  rw [a_one]
  exact (a_al a_l15a a_l15b ha hb).mpr q
theorem a_un16 (hm : x_m x_EE τ r n h (([], 0), 64, 1000017, (1, 0, ([], 1)))) {ca cb : p_C} (ha : h[34]? = some ca) (hb : h[66]? = some cb) : ∀ k, k < 8 → ∀ j, j < 2 → g_bq j (g_at ca.2.2 (4 * k + j)) (g_at cb.2.2 (339 + 2 * k + j)) = true := by
  have q : g_al (g_ms 16 h) 34 66 = q_e r ([], 1) := (g_gho hm 16 rfl).2
  rw [a_one] at q
  exact (a_al a_l16a a_l16b ha hb).mp q
theorem a_mk16 (h80 : 80 ≤ h.length) {ca cb : p_C} (ha : h[34]? = some ca) (hb : h[66]? = some cb) (q : ∀ k, k < 8 → ∀ j, j < 2 → g_bq j (g_at ca.2.2 (4 * k + j)) (g_at cb.2.2 (339 + 2 * k + j)) = true) : x_m x_EE τ r n h (([], 0), 64, 1000017, (1, 0, ([], 1))) := by
  refine g_mk 16 rfl q_wl_nil q_wl_nil rfl h80 ?_
  show g_al (g_ms 16 h) 34 66 = q_e r ([], 1)
  rw [a_one]
  exact (a_al a_l16a a_l16b ha hb).mpr q
theorem a_un17 (hm : x_m x_EE τ r n h (([], 0), 64, 1000018, (1, 0, ([], 1)))) {ca cb : p_C} (ha : h[34]? = some ca) (hb : h[65]? = some cb) : ∀ k, k < 8 → ∀ j, j < 2 → g_bq j (g_at ca.2.2 (4 * k + j)) (g_at cb.2.2 (339 + 2 * k + j)) = true := by
  have q : g_al (g_ms 17 h) 34 65 = q_e r ([], 1) := (g_gho hm 17 rfl).2
  rw [a_one] at q
  exact (a_al a_l17a a_l17b ha hb).mp q
theorem a_mk17 (h80 : 80 ≤ h.length) {ca cb : p_C} (ha : h[34]? = some ca) (hb : h[65]? = some cb) (q : ∀ k, k < 8 → ∀ j, j < 2 → g_bq j (g_at ca.2.2 (4 * k + j)) (g_at cb.2.2 (339 + 2 * k + j)) = true) : x_m x_EE τ r n h (([], 0), 64, 1000018, (1, 0, ([], 1))) := by
  refine g_mk 17 rfl q_wl_nil q_wl_nil rfl h80 ?_
  show g_al (g_ms 17 h) 34 65 = q_e r ([], 1)
  rw [a_one]
  exact (a_al a_l17a a_l17b ha hb).mpr q
theorem a_un18 (hm : x_m x_EE τ r n h (([], 0), 64, 1000019, (1, 0, ([], 1)))) {ca cb : p_C} (ha : h[17]? = some ca) (hb : h[66]? = some cb) : ∀ k, k < 8 → ∀ j, j < 2 → g_bq j (g_at ca.2.2 (4 * k + j)) (g_at cb.2.2 (339 + 2 * k + j)) = true := by
  have q : g_al (g_ms 18 h) 17 66 = q_e r ([], 1) := (g_gho hm 18 rfl).2
  rw [a_one] at q
  exact (a_al a_l18a a_l18b ha hb).mp q
theorem a_mk18 (h80 : 80 ≤ h.length) {ca cb : p_C} (ha : h[17]? = some ca) (hb : h[66]? = some cb) (q : ∀ k, k < 8 → ∀ j, j < 2 → g_bq j (g_at ca.2.2 (4 * k + j)) (g_at cb.2.2 (339 + 2 * k + j)) = true) : x_m x_EE τ r n h (([], 0), 64, 1000019, (1, 0, ([], 1))) := by
  refine g_mk 18 rfl q_wl_nil q_wl_nil rfl h80 ?_
  show g_al (g_ms 18 h) 17 66 = q_e r ([], 1)
  rw [a_one]
  exact (a_al a_l18a a_l18b ha hb).mpr q
theorem a_mk19 {c j : Nat} (w1 : q_wl n e.1) (w2 : q_wl n e'.1) (h80 : 80 ≤ h.length) (he : q_e r e = ((8 * c + j : Nat) : Int)) (hj : j < 4) (hc : c < 8) {ca cb : p_C} (ha : h[17]? = some ca) (hb : h[65]? = some cb) (q : ∀ k, k < 8 → k ≠ c → ∀ j, j < 2 → g_bq j (g_at ca.2.2 (4 * k + j)) (g_at cb.2.2 (339 + 2 * k + j)) = true) (hv : g_at ca.2.2 (4 * c + j) = q_e r e') : x_m x_EE τ r n h (e, 64, 1000020, (1, 0, e')) := by
  refine g_mk 19 rfl w1 w2 rfl h80 ?_
  show g_ax (g_ms 19 h) (q_e r e) = q_e r e'
  rw [he, g_ax_mk (by omega) (fun k hk hne i hi => by
    rw [g_ms_at (a_l19a _ (by omega)), g_ms_at (a_l19b _ (by omega) (by omega)), g_vs_at ha, g_vs_at hb]
    exact q k hk hne i hi), g_ms_at (a_l19a _ (by omega)), g_vs_at ha]
  exact hv
theorem a_un19 {c j : Nat} (hm : x_m x_EE τ r n h (e, 64, 1000020, (1, 0, e'))) (he : q_e r e = ((8 * c + j : Nat) : Int)) (hj : j < 4) (hc : c < 8) (hx : q_e r e' < 1099511627776) {ca cb : p_C} (ha : h[17]? = some ca) (hb : h[65]? = some cb) : g_at ca.2.2 (4 * c + j) = q_e r e' ∧ ∀ k, k < 8 → k ≠ c → ∀ j, j < 2 → g_bq j (g_at ca.2.2 (4 * k + j)) (g_at cb.2.2 (339 + 2 * k + j)) = true := by
  have q : g_ax (g_ms 19 h) (q_e r e) = q_e r e' := (g_gho hm 19 rfl).2
  rw [he] at q
  obtain ⟨q1, q2⟩ := g_ax_un (by omega) hx q
  rw [g_ms_at (a_l19a _ (by omega)), g_vs_at ha] at q1
  refine ⟨q1, fun k hk hne i hi => ?_⟩
  have := q2 k hk hne i hi
  rw [g_ms_at (a_l19a _ (by omega)), g_ms_at (a_l19b _ (by omega) (by omega)), g_vs_at ha, g_vs_at hb] at this
  exact this
theorem a_mk21 {c i : Nat} (w1 : q_wl n e.1) (h80 : 80 ≤ h.length) (he : q_e r e = ((8 * c + i : Nat) : Int)) (hi : i < 4) (hc : c < 8) {ca cb : p_C} (ha : h[17]? = some ca) (hb : h[65]? = some cb) (q : ∀ k, k < 8 → ∀ j, j < 2 → (k ≠ c ∨ j < i) → g_bq j (g_at ca.2.2 (4 * k + j)) (g_at cb.2.2 (339 + 2 * k + j)) = true) : x_m x_EE τ r n h (e, 64, 1000022, (1, 0, ([], 1))) := by
  refine g_mk 21 rfl w1 q_wl_nil rfl h80 ?_
  show g_ay (g_ms 21 h) (q_e r e) = q_e r ([], 1)
  rw [a_one, he]
  refine (g_ay_iff (by omega)).mpr (fun k hk j hj hq => ?_)
  rw [g_ms_at (a_l21a _ (by omega)), g_ms_at (a_l21b _ (by omega) (by omega)), g_vs_at ha, g_vs_at hb]
  exact q k hk j hj hq
theorem a_un21 {c i : Nat} (hm : x_m x_EE τ r n h (e, 64, 1000022, (1, 0, ([], 1)))) (he : q_e r e = ((8 * c + i : Nat) : Int)) (hi : i < 4) (hc : c < 8) {ca cb : p_C} (ha : h[17]? = some ca) (hb : h[65]? = some cb) : ∀ k, k < 8 → ∀ j, j < 2 → (k ≠ c ∨ j < i) → g_bq j (g_at ca.2.2 (4 * k + j)) (g_at cb.2.2 (339 + 2 * k + j)) = true := by
  have q : g_ay (g_ms 21 h) (q_e r e) = q_e r ([], 1) := (g_gho hm 21 rfl).2
  rw [a_one, he] at q
  intro k hk j hj hq
  have := (g_ay_iff (by omega)).mp q k hk j hj hq
  rw [g_ms_at (a_l21a _ (by omega)), g_ms_at (a_l21b _ (by omega) (by omega)), g_vs_at ha, g_vs_at hb] at this
  exact this
theorem a_at_set {vs : List Value} {j : Nat} {y : Int32} (hj : j < vs.length) : g_at (vs.set j (.int y)) j = y.toInt := g_at_int (List.getElem?_set_self hj)
theorem a_at_ne {vs : List Value} {j k : Nat} {v : Value} (hj : j ≠ k) : g_at (vs.set j v) k = g_at vs k := by simp only [g_at, List.getElem?_set_ne hj]
theorem a_ga {a b : Nat} {c c1 : p_C} (hab : a ≠ b) (hb : h[b]? = some c) : (h.set a c1)[b]? = some c := by rw [List.getElem?_set_ne hab]; exact hb
theorem a_gs {a : Nat} {c c1 : p_C} (ha : h[a]? = some c) : (h.set a c1)[a]? = some c1 := List.getElem?_set_self (List.getElem?_eq_some_iff.mp ha).1
theorem a_80 {a : Nat} {c1 : p_C} (h80 : 80 ≤ h.length) : 80 ≤ (h.set a c1).length := by rw [List.length_set]; exact h80
theorem a_rf {j b : Nat} {K : x_K} {fs : List Value} (hf : ∀ j v, fs[j]? = some v → x_fo τ (x_pt K j) v) (hl : j < fs.length) (ht : x_pt K j = (3, b, (b : Int), 0)) (hb : 0 < b) : fs[j]? = some (.ref b) ∧ τ b = some b := by
  have q := hf j _ (List.getElem?_eq_getElem hl)
  rw [ht] at q
  obtain ⟨a, e1, e2, e3⟩ := (show ∃ a, fs[j] = .ref a ∧ τ a = some b ∧ (0 < (b : Int) → (a : Int) = b) from q)
  have : a = b := Int.ofNat.inj (e3 (by omega))
  subst this
  exact ⟨by rw [List.getElem?_eq_getElem hl, e1], e2⟩
theorem a_it {j : Nat} {lo hi : Int} {K : x_K} {fs : List Value} (hf : ∀ j v, fs[j]? = some v → x_fo τ (x_pt K j) v) (hl : j < fs.length) (ht : x_pt K j = (1, 0, lo, hi)) : ∃ x : Int32, fs[j]? = some (.int x) ∧ lo ≤ x.toInt ∧ x.toInt ≤ hi := by
  have q := hf j _ (List.getElem?_eq_getElem hl)
  rw [ht] at q
  obtain ⟨x, e1, e2⟩ := (show ∃ x : Int32, fs[j] = .int x ∧ lo ≤ x.toInt ∧ x.toInt ≤ hi from q)
  exact ⟨x, by rw [List.getElem?_eq_getElem hl, e1], e2⟩
/-- a known int place -/
theorem a_plc {a k j : Nat} {c : p_C} (hm : x_m x_EE τ r n h (([], (a : Int)), k, j, (1, 0, e'))) (hj : j < 1000000) (hc : h[a]? = some c) : τ a = some k ∧ ∃ x : Int32, c.2.2[j]? = some (.int x) ∧ x.toInt = q_e r e' := by
  obtain ⟨i, c', e1, e2, e3, e4⟩ := hm.plc (show j < 1000001 by omega)
  have e1 : (i : Int) = q_e r ([], (a : Int)) := e1
  simp only [q_e, q_ev] at e1
  have : i = a := by omega
  subst this
  rw [if_neg (show ¬ j = x_len by unfold x_len; omega)] at e4
  obtain ⟨v, e5, -, x, e6, e7⟩ := e4
  have ec : c' = c := Option.some.inj (e3.symm.trans hc)
  subst ec
  exact ⟨e2, x, by rw [e5]; exact congrArg some e6, e7⟩
theorem a_mkp {a k j : Nat} {c : p_C} {x : Int32} (w : q_wl n e'.1) (hj : j < 1000000) (ht : τ a = some k) (hc : h[a]? = some c) (hv : c.2.2[j]? = some (.int x)) (hx : x.toInt = q_e r e') : x_m x_EE τ r n h (([], (a : Int)), k, j, (1, 0, e')) := by
  refine x_m.mkp q_wl_nil (show j < 1000001 by omega) ⟨a, c, by simp [q_e, q_ev], ht, hc, ?_⟩
  rw [if_neg (show ¬ j = x_len by unfold x_len; omega)]
  exact ⟨_, hv, w, x, rfl, hx⟩
theorem a_pt65 : ∀ c, c < 16 → ∀ K, x_KL[65]? = some K → x_pt K (339 + c) = x_any := by
  have h0 : (match x_KL[65]? with
    | some K => (List.range 16).all (fun c => decide (x_pt K (339 + c) = x_any))
    | none => false) = true := by decide +kernel
  intro c hc K hK
  rw [hK] at h0
  exact of_decide_eq_true (List.all_eq_true.mp h0 c (List.mem_range.mpr hc))
end AL1
section AL2
variable {M : p_M} {pc : Nat}
theorem hr_toldRow0 (hat : p_at pc M.2.2.2.2.1 = some (.iastore, 1)) : x_HoldR p_GT p_MT x_EE M pc 1 cr_toldRow0 := by
  intro τ r h as rest ls d Q hH hA hF hM hK
  obtain ⟨a, V, rfl, ha, hA⟩ := x_t3 (show x_vs τ r 2 [(3, 17, ([], ((17 : Nat) : Int))), (1, 0, ([(0, 4)], 0)), (1, 0, ([(1, 1)], 0))] as from hA)
  obtain ⟨x, V', rfl, -, hx, hA⟩ := x_t1 hA
  obtain ⟨y, V'', rfl, -, hy, hA⟩ := x_t1 hA
  rw [g_nil hA]
  obtain ⟨rfl, ht⟩ := g_ref ha
  rw [g_v] at hy
  simp only [q_e, q_ev] at hx
  obtain ⟨vs, hc, l1, l2, hf, -⟩ := g_cell hH ht (show x_KL[17]? = some _ from rfl)
  have l1 : 32 ≤ vs.length := l1
  have h0 : 0 ≤ r 0 ∧ r 0 ≤ 7 := g_get hF.1 0 rfl
  obtain ⟨c, hc0⟩ : ∃ c : Nat, r 0 = c := ⟨(r 0).toNat, by omega⟩
  have ex : x.toNatClampNeg = 4 * c + 0 := by rw [x_clamp]; omega
  have h80 := (g_gho (g_get hM 1 rfl) 15 rfl).1
  obtain ⟨cb, hb⟩ := a_cell (a := 65) (by decide) h80
  have hq := a_un15 (g_get hM 1 rfl) hc hb
  have hall : ∀ k, k < 8 → k ≠ c → ∀ j, j < 2 → g_bq j (g_at vs (4 * k + j)) (g_at cb.2.2 (339 + 2 * k + j)) = true := fun k hk _ j hj => hq k hk j hj
  refine g_store hat hc (g_nn hx (by omega)) (by rw [ex]; omega) ?_
  rw [ex]
  have hJ := (g_J0 hH [(17, 0, 28)]).put x_EE_EO (lo := 0) (hi := 28) (j := 4 * c + 0) (v := .int y) ht hc (show x_KL[17]? = some _ from rfl) (by rw [x_pt0 (t := x_any) rfl rfl rfl]; exact ⟨y, rfl, x_I32 y⟩) rfl rfl (by omega) (by omega)
  have hall2 : ∀ k, k < 8 → k ≠ c → ∀ i, i < 2 → g_bq i (g_at (vs.set (4 * c + 0) (.int y)) (4 * k + i)) (g_at cb.2.2 (339 + 2 * k + i)) = true := fun k hk hne i hi => by rw [a_at_ne (by omega)]; exact hall k hk hne i hi
  refine hK none _ ⟨τ, r, hJ, _, List.mem_cons_self, by rw [List.length_set]; exact Nat.le_refl _, by rw [p_sl_set hc (by simp)]; exact Nat.le_refl _, fun _ _ => rfl, g_F0, trivial, g_c ?_ (g_n)⟩
  · refine a_mk19 (c := c) (j := 0) (g_wl rfl) (g_wl rfl) (a_80 h80) (by simp only [q_e, q_ev]; omega) (by decide) (by omega) (a_gs hc) (a_ga (by decide) hb) hall2 ?_
    rw [g_v, ← hy]; exact a_at_set (by omega)
theorem hr_toldRow1 (hat : p_at pc M.2.2.2.2.1 = some (.iastore, 1)) : x_HoldR p_GT p_MT x_EE M pc 1 cr_toldRow1 := by
  intro τ r h as rest ls d Q hH hA hF hM hK
  obtain ⟨a, V, rfl, ha, hA⟩ := x_t3 (show x_vs τ r 3 [(3, 17, ([], ((17 : Nat) : Int))), (1, 0, ([(0, 4)], 1)), (1, 0, ([(2, 1)], 0))] as from hA)
  obtain ⟨x, V', rfl, -, hx, hA⟩ := x_t1 hA
  obtain ⟨y, V'', rfl, -, hy, hA⟩ := x_t1 hA
  rw [g_nil hA]
  obtain ⟨rfl, ht⟩ := g_ref ha
  rw [g_v] at hy
  simp only [q_e, q_ev] at hx
  obtain ⟨vs, hc, l1, l2, hf, -⟩ := g_cell hH ht (show x_KL[17]? = some _ from rfl)
  have l1 : 32 ≤ vs.length := l1
  have h0 : 0 ≤ r 0 ∧ r 0 ≤ 7 := g_get hF.1 0 rfl
  have b0 : -2147483648 ≤ r 1 ∧ r 1 ≤ 2147483647 := g_get hF.1 1 rfl
  obtain ⟨c, hc0⟩ : ∃ c : Nat, r 0 = c := ⟨(r 0).toNat, by omega⟩
  have ex : x.toNatClampNeg = 4 * c + 1 := by rw [x_clamp]; omega
  have h80 := (g_gho (g_get hM 1 rfl) 19 rfl).1
  obtain ⟨cb, hb⟩ := a_cell (a := 65) (by decide) h80
  obtain ⟨q0, hall⟩ := a_un19 (c := c) (j := 0) (e := ([(0, 8)], 0)) (e' := ([(1, 1)], 0)) (g_get hM 1 rfl) (by simp only [q_e, q_ev]; omega) (by decide) (by omega) (by rw [g_v]; omega) hc hb
  refine g_store hat hc (g_nn hx (by omega)) (by rw [ex]; omega) ?_
  rw [ex]
  have hJ := (g_J0 hH [(17, 1, 29)]).put x_EE_EO (lo := 1) (hi := 29) (j := 4 * c + 1) (v := .int y) ht hc (show x_KL[17]? = some _ from rfl) (by rw [x_pt0 (t := x_any) rfl rfl rfl]; exact ⟨y, rfl, x_I32 y⟩) rfl rfl (by omega) (by omega)
  have hall2 : ∀ k, k < 8 → k ≠ c → ∀ i, i < 2 → g_bq i (g_at (vs.set (4 * c + 1) (.int y)) (4 * k + i)) (g_at cb.2.2 (339 + 2 * k + i)) = true := fun k hk hne i hi => by rw [a_at_ne (by omega)]; exact hall k hk hne i hi
  refine hK none _ ⟨τ, r, hJ, _, List.mem_cons_self, by rw [List.length_set]; exact Nat.le_refl _, by rw [p_sl_set hc (by simp)]; exact Nat.le_refl _, fun _ _ => rfl, g_F0, trivial, g_c ?_ (g_c ?_ (g_n))⟩
  · refine a_mk19 (c := c) (j := 0) (g_wl rfl) (g_wl rfl) (a_80 h80) (by simp only [q_e, q_ev]; omega) (by decide) (by omega) (a_gs hc) (a_ga (by decide) hb) hall2 ?_
    rw [show g_at _ (4 * c + 0) = g_at vs (4 * c + 0) from a_at_ne (by omega)]; exact q0
  · refine a_mk19 (c := c) (j := 1) (g_wl rfl) (g_wl rfl) (a_80 h80) (by simp only [q_e, q_ev]; omega) (by decide) (by omega) (a_gs hc) (a_ga (by decide) hb) hall2 ?_
    rw [g_v, ← hy]; exact a_at_set (by omega)
theorem hr_toldRow2 (hat : p_at pc M.2.2.2.2.1 = some (.iastore, 1)) : x_HoldR p_GT p_MT x_EE M pc 1 cr_toldRow2 := by
  intro τ r h as rest ls d Q hH hA hF hM hK
  obtain ⟨a, V, rfl, ha, hA⟩ := x_t3 (show x_vs τ r 4 [(3, 17, ([], ((17 : Nat) : Int))), (1, 0, ([(0, 4)], 2)), (1, 0, ([(3, 1)], 0))] as from hA)
  obtain ⟨x, V', rfl, -, hx, hA⟩ := x_t1 hA
  obtain ⟨y, V'', rfl, -, hy, hA⟩ := x_t1 hA
  rw [g_nil hA]
  obtain ⟨rfl, ht⟩ := g_ref ha
  rw [g_v] at hy
  simp only [q_e, q_ev] at hx
  obtain ⟨vs, hc, l1, l2, hf, -⟩ := g_cell hH ht (show x_KL[17]? = some _ from rfl)
  have l1 : 32 ≤ vs.length := l1
  have h0 : 0 ≤ r 0 ∧ r 0 ≤ 7 := g_get hF.1 0 rfl
  have b0 : -2147483648 ≤ r 1 ∧ r 1 ≤ 2147483647 := g_get hF.1 1 rfl
  have b1 : -2147483648 ≤ r 2 ∧ r 2 ≤ 2147483647 := g_get hF.1 2 rfl
  obtain ⟨c, hc0⟩ : ∃ c : Nat, r 0 = c := ⟨(r 0).toNat, by omega⟩
  have ex : x.toNatClampNeg = 4 * c + 2 := by rw [x_clamp]; omega
  have h80 := (g_gho (g_get hM 1 rfl) 19 rfl).1
  obtain ⟨cb, hb⟩ := a_cell (a := 65) (by decide) h80
  obtain ⟨q0, hall⟩ := a_un19 (c := c) (j := 0) (e := ([(0, 8)], 0)) (e' := ([(1, 1)], 0)) (g_get hM 1 rfl) (by simp only [q_e, q_ev]; omega) (by decide) (by omega) (by rw [g_v]; omega) hc hb
  obtain ⟨q1, -⟩ := a_un19 (c := c) (j := 1) (e := ([(0, 8)], 1)) (e' := ([(2, 1)], 0)) (g_get hM 2 rfl) (by simp only [q_e, q_ev]; omega) (by decide) (by omega) (by rw [g_v]; omega) hc hb
  refine g_store hat hc (g_nn hx (by omega)) (by rw [ex]; omega) ?_
  rw [ex]
  have hJ := (g_J0 hH [(17, 2, 30)]).put x_EE_EO (lo := 2) (hi := 30) (j := 4 * c + 2) (v := .int y) ht hc (show x_KL[17]? = some _ from rfl) (by rw [x_pt0 (t := x_any) rfl rfl rfl]; exact ⟨y, rfl, x_I32 y⟩) rfl rfl (by omega) (by omega)
  have hall2 : ∀ k, k < 8 → k ≠ c → ∀ i, i < 2 → g_bq i (g_at (vs.set (4 * c + 2) (.int y)) (4 * k + i)) (g_at cb.2.2 (339 + 2 * k + i)) = true := fun k hk hne i hi => by rw [a_at_ne (by omega)]; exact hall k hk hne i hi
  refine hK none _ ⟨τ, r, hJ, _, List.mem_cons_self, by rw [List.length_set]; exact Nat.le_refl _, by rw [p_sl_set hc (by simp)]; exact Nat.le_refl _, fun _ _ => rfl, g_F0, trivial, g_c ?_ (g_c ?_ (g_n))⟩
  · refine a_mk19 (c := c) (j := 0) (g_wl rfl) (g_wl rfl) (a_80 h80) (by simp only [q_e, q_ev]; omega) (by decide) (by omega) (a_gs hc) (a_ga (by decide) hb) hall2 ?_
    rw [show g_at _ (4 * c + 0) = g_at vs (4 * c + 0) from a_at_ne (by omega)]; exact q0
  · refine a_mk19 (c := c) (j := 1) (g_wl rfl) (g_wl rfl) (a_80 h80) (by simp only [q_e, q_ev]; omega) (by decide) (by omega) (a_gs hc) (a_ga (by decide) hb) hall2 ?_
    rw [show g_at _ (4 * c + 1) = g_at vs (4 * c + 1) from a_at_ne (by omega)]; exact q1
theorem hr_toldRow3 (hat : p_at pc M.2.2.2.2.1 = some (.iastore, 1)) : x_HoldR p_GT p_MT x_EE M pc 1 cr_toldRow3 := by
  intro τ r h as rest ls d Q hH hA hF hM hK
  obtain ⟨a, V, rfl, ha, hA⟩ := x_t3 (show x_vs τ r 4 [(3, 17, ([], ((17 : Nat) : Int))), (1, 0, ([(0, 4)], 3)), (1, 0, ([(3, 1)], 0))] as from hA)
  obtain ⟨x, V', rfl, -, hx, hA⟩ := x_t1 hA
  obtain ⟨y, V'', rfl, -, hy, hA⟩ := x_t1 hA
  rw [g_nil hA]
  obtain ⟨rfl, ht⟩ := g_ref ha
  rw [g_v] at hy
  simp only [q_e, q_ev] at hx
  obtain ⟨vs, hc, l1, l2, hf, -⟩ := g_cell hH ht (show x_KL[17]? = some _ from rfl)
  have l1 : 32 ≤ vs.length := l1
  have h0 : 0 ≤ r 0 ∧ r 0 ≤ 7 := g_get hF.1 0 rfl
  have b0 : -2147483648 ≤ r 1 ∧ r 1 ≤ 2147483647 := g_get hF.1 1 rfl
  have b1 : -2147483648 ≤ r 2 ∧ r 2 ≤ 2147483647 := g_get hF.1 2 rfl
  obtain ⟨c, hc0⟩ : ∃ c : Nat, r 0 = c := ⟨(r 0).toNat, by omega⟩
  have ex : x.toNatClampNeg = 4 * c + 3 := by rw [x_clamp]; omega
  have h80 := (g_gho (g_get hM 1 rfl) 19 rfl).1
  obtain ⟨cb, hb⟩ := a_cell (a := 65) (by decide) h80
  obtain ⟨q0, hall⟩ := a_un19 (c := c) (j := 0) (e := ([(0, 8)], 0)) (e' := ([(1, 1)], 0)) (g_get hM 1 rfl) (by simp only [q_e, q_ev]; omega) (by decide) (by omega) (by rw [g_v]; omega) hc hb
  obtain ⟨q1, -⟩ := a_un19 (c := c) (j := 1) (e := ([(0, 8)], 1)) (e' := ([(2, 1)], 0)) (g_get hM 2 rfl) (by simp only [q_e, q_ev]; omega) (by decide) (by omega) (by rw [g_v]; omega) hc hb
  refine g_store hat hc (g_nn hx (by omega)) (by rw [ex]; omega) ?_
  rw [ex]
  have hJ := (g_J0 hH [(17, 3, 31)]).put x_EE_EO (lo := 3) (hi := 31) (j := 4 * c + 3) (v := .int y) ht hc (show x_KL[17]? = some _ from rfl) (by rw [x_pt0 (t := x_any) rfl rfl rfl]; exact ⟨y, rfl, x_I32 y⟩) rfl rfl (by omega) (by omega)
  have hall2 : ∀ k, k < 8 → k ≠ c → ∀ i, i < 2 → g_bq i (g_at (vs.set (4 * c + 3) (.int y)) (4 * k + i)) (g_at cb.2.2 (339 + 2 * k + i)) = true := fun k hk hne i hi => by rw [a_at_ne (by omega)]; exact hall k hk hne i hi
  refine hK none _ ⟨τ, r, hJ, _, List.mem_cons_self, by rw [List.length_set]; exact Nat.le_refl _, by rw [p_sl_set hc (by simp)]; exact Nat.le_refl _, fun _ _ => rfl, g_F0, trivial, g_c ?_ (g_c ?_ (g_n))⟩
  · refine a_mk19 (c := c) (j := 0) (g_wl rfl) (g_wl rfl) (a_80 h80) (by simp only [q_e, q_ev]; omega) (by decide) (by omega) (a_gs hc) (a_ga (by decide) hb) hall2 ?_
    rw [show g_at _ (4 * c + 0) = g_at vs (4 * c + 0) from a_at_ne (by omega)]; exact q0
  · refine a_mk19 (c := c) (j := 1) (g_wl rfl) (g_wl rfl) (a_80 h80) (by simp only [q_e, q_ev]; omega) (by decide) (by omega) (a_gs hc) (a_ga (by decide) hb) hall2 ?_
    rw [show g_at _ (4 * c + 1) = g_at vs (4 * c + 1) from a_at_ne (by omega)]; exact q1
theorem hr_alikeRow0 (hat : p_at pc M.2.2.2.2.1 = some (.iastore, 1)) : x_HoldR p_GT p_MT x_EE M pc 1 cr_alikeRow0 := by
  intro τ r h as rest ls d Q hH hA hF hM hK
  obtain ⟨a, V, rfl, ha, hA⟩ := x_t3 (show x_vs τ r 3 [(3, 65, ([], ((65 : Nat) : Int))), (1, 0, ([(0, 2)], 339)), (1, 0, ([(1, 1)], 0))] as from hA)
  obtain ⟨x, V', rfl, -, hx, hA⟩ := x_t1 hA
  obtain ⟨y, V'', rfl, -, hy, hA⟩ := x_t1 hA
  rw [g_nil hA]
  obtain ⟨rfl, ht⟩ := g_ref ha
  rw [g_v] at hy
  simp only [q_e, q_ev] at hx
  obtain ⟨vs, hc, l1, l2, hf, -⟩ := g_cell hH ht (show x_KL[65]? = some _ from rfl)
  have l1 : 2517 ≤ vs.length := l1
  have h0 : 0 ≤ r 0 ∧ r 0 ≤ 7 := g_get hF.1 0 rfl
  have h1 : 0 ≤ r 1 ∧ r 1 ≤ 999 := g_get hF.1 1 rfl
  have b1 : -2147483648 ≤ r 2 ∧ r 2 ≤ 2147483647 := g_get hF.1 2 rfl
  obtain ⟨c, hc0⟩ : ∃ c : Nat, r 0 = c := ⟨(r 0).toNat, by omega⟩
  have ex : x.toNatClampNeg = 339 + 2 * c + 0 := by rw [x_clamp]; omega
  have h80 := (g_gho (g_get hM 1 rfl) 19 rfl).1
  obtain ⟨ca, hr⟩ := a_cell (a := 17) (by decide) h80
  obtain ⟨q0, hall⟩ := a_un19 (c := c) (j := 0) (e := ([(0, 8)], 0)) (e' := ([(1, 1)], 0)) (g_get hM 1 rfl) (by simp only [q_e, q_ev]; omega) (by decide) (by omega) (by rw [g_v]; omega) hr hc
  rw [g_v] at q0
  obtain ⟨q1, -⟩ := a_un19 (c := c) (j := 1) (e := ([(0, 8)], 1)) (e' := ([(2, 1)], 0)) (g_get hM 2 rfl) (by simp only [q_e, q_ev]; omega) (by decide) (by omega) (by rw [g_v]; omega) hr hc
  rw [g_v] at q1
  have hb : ∀ k, k < 8 → ∀ i, i < 2 → (k ≠ c ∨ i < 0) → g_bq i (g_at ca.2.2 (4 * k + i)) (g_at vs (339 + 2 * k + i)) = true := fun k hk i hi hne => hall k hk (by omega) i hi
  refine g_store hat hc (g_nn hx (by omega)) (by rw [ex]; omega) ?_
  rw [ex]
  have hfo : ∀ K, x_KL[65]? = some K → x_fo τ (x_pt K (339 + 2 * c + 0)) (.int y) := fun K eK => by rw [Nat.add_assoc, a_pt65 (2 * c + 0) (by omega) K eK]; exact ⟨y, rfl, x_I32 y⟩
  have hJ := (g_J0 hH [(65, 339, 353)]).put x_EE_EO (lo := 339) (hi := 353) (j := 339 + 2 * c + 0) (v := .int y) ht hc (show x_KL[65]? = some _ from rfl) (hfo _ rfl) rfl rfl (by omega) (by omega)
  have hn : ∀ k, k < 8 → ∀ i, i < 2 → (k ≠ c ∨ i < 1) → g_bq i (g_at ca.2.2 (4 * k + i)) (g_at (vs.set (339 + 2 * c + 0) (.int y)) (339 + 2 * k + i)) = true := fun k hk i hi hq => by
    by_cases e : k = c ∧ i = 0
    · obtain ⟨e1, e2⟩ := e
      subst e1; subst e2
      rw [a_at_set (by omega), hy]
      exact g_bq_iff.mpr ⟨q0, h1.1, h1.2⟩
    · rw [a_at_ne (by omega)]
      exact hb k hk i hi (by omega)
  refine hK none _ ⟨τ, r, hJ, _, List.mem_cons_self, by rw [List.length_set]; exact Nat.le_refl _, by rw [p_sl_set hc (by simp)]; exact Nat.le_refl _, fun _ _ => rfl, g_F0, trivial, g_c ?_ (g_c ?_ (g_n))⟩
  · exact a_mk21 (c := c) (i := 1) (g_wl rfl) (a_80 h80) (by simp only [q_e, q_ev]; omega) (by decide) (by omega) (a_ga (by decide) hr) (a_gs hc) hn
  · exact a_mk19 (c := c) (j := 1) (g_wl rfl) (g_wl rfl) (a_80 h80) (by simp only [q_e, q_ev]; omega) (by decide) (by omega) (a_ga (by decide) hr) (a_gs hc) (fun k hk hne i hi => hn k hk i hi (Or.inl hne)) (by rw [g_v]; exact q1)
theorem hr_alikeRow1 (hat : p_at pc M.2.2.2.2.1 = some (.iastore, 1)) : x_HoldR p_GT p_MT x_EE M pc 1 cr_alikeRow1 := by
  intro τ r h as rest ls d Q hH hA hF hM hK
  obtain ⟨a, V, rfl, ha, hA⟩ := x_t3 (show x_vs τ r 2 [(3, 65, ([], ((65 : Nat) : Int))), (1, 0, ([(0, 2)], 340)), (1, 0, ([(1, 1)], 0))] as from hA)
  obtain ⟨x, V', rfl, -, hx, hA⟩ := x_t1 hA
  obtain ⟨y, V'', rfl, -, hy, hA⟩ := x_t1 hA
  rw [g_nil hA]
  obtain ⟨rfl, ht⟩ := g_ref ha
  rw [g_v] at hy
  simp only [q_e, q_ev] at hx
  obtain ⟨vs, hc, l1, l2, hf, -⟩ := g_cell hH ht (show x_KL[65]? = some _ from rfl)
  have l1 : 2517 ≤ vs.length := l1
  have h0 : 0 ≤ r 0 ∧ r 0 ≤ 7 := g_get hF.1 0 rfl
  have h1 : 0 ≤ r 1 ∧ r 1 ≤ 100 := g_get hF.1 1 rfl
  obtain ⟨c, hc0⟩ : ∃ c : Nat, r 0 = c := ⟨(r 0).toNat, by omega⟩
  have ex : x.toNatClampNeg = 339 + 2 * c + 1 := by rw [x_clamp]; omega
  have h80 := (g_gho (g_get hM 2 rfl) 19 rfl).1
  obtain ⟨ca, hr⟩ := a_cell (a := 17) (by decide) h80
  obtain ⟨q1, hall⟩ := a_un19 (c := c) (j := 1) (e := ([(0, 8)], 1)) (e' := ([(1, 1)], 0)) (g_get hM 2 rfl) (by simp only [q_e, q_ev]; omega) (by decide) (by omega) (by rw [g_v]; omega) hr hc
  rw [g_v] at q1
  have hb := a_un21 (c := c) (i := 1) (e := ([(0, 8)], 1)) (g_get hM 1 rfl) (by simp only [q_e, q_ev]; omega) (by decide) (by omega) hr hc
  refine g_store hat hc (g_nn hx (by omega)) (by rw [ex]; omega) ?_
  rw [ex]
  have hfo : ∀ K, x_KL[65]? = some K → x_fo τ (x_pt K (339 + 2 * c + 1)) (.int y) := fun K eK => by rw [Nat.add_assoc, a_pt65 (2 * c + 1) (by omega) K eK]; exact ⟨y, rfl, x_I32 y⟩
  have hJ := (g_J0 hH [(65, 340, 354)]).put x_EE_EO (lo := 340) (hi := 354) (j := 339 + 2 * c + 1) (v := .int y) ht hc (show x_KL[65]? = some _ from rfl) (hfo _ rfl) rfl rfl (by omega) (by omega)
  have hn : ∀ k, k < 8 → ∀ i, i < 2 → (k ≠ c ∨ i < 2) → g_bq i (g_at ca.2.2 (4 * k + i)) (g_at (vs.set (339 + 2 * c + 1) (.int y)) (339 + 2 * k + i)) = true := fun k hk i hi hq => by
    by_cases e : k = c ∧ i = 1
    · obtain ⟨e1, e2⟩ := e
      subst e1; subst e2
      rw [a_at_set (by omega), hy]
      exact g_bq_iff.mpr ⟨q1, h1.1, h1.2⟩
    · rw [a_at_ne (by omega)]
      exact hb k hk i hi (by omega)
  refine hK none _ ⟨τ, r, hJ, _, List.mem_cons_self, by rw [List.length_set]; exact Nat.le_refl _, by rw [p_sl_set hc (by simp)]; exact Nat.le_refl _, fun _ _ => rfl, g_F0, trivial, g_c ?_ (g_n)⟩
  · exact a_mk15 (a_80 h80) (a_ga (by decide) hr) (a_gs hc) (fun k hk i hi => hn k hk i hi (by omega))
end AL2
theorem a_cpy_all {vs ws : List Value} {n : Nat} (h1 : vs.length = n) (h2 : ws.length = n) : p_cpy vs ws 0 0 n = vs := by
  simp only [p_cpy, List.take_zero, List.nil_append, List.drop_zero, Nat.zero_add]
  rw [List.take_of_length_le (by omega), List.drop_of_length_le (by omega), List.append_nil]
theorem ho_chL0 : x_OK p_GT p_MT x_EE chL0 := by
  refine ⟨?_, m_X8_become, rfl⟩
  intro τ r h as M hM hH hA hF hK
  cases (show some m_X8_become = some M from hM)
  obtain ⟨a, V, rfl, ha, hA⟩ := x_t3 (show x_vs τ r 1 [(3, 16, ([], ((16 : Nat) : Int))), (3, 33, ([], ((33 : Nat) : Int)))] as from hA)
  obtain ⟨b, V, rfl, hb, hA⟩ := x_t3 hA
  rw [g_nil hA]
  obtain ⟨rfl, ta⟩ := g_ref ha
  obtain ⟨rfl, tb⟩ := g_ref hb
  obtain ⟨fa, ca, l1, l2, hfa, -⟩ := g_cell hH ta (show x_KL[16]? = some _ from rfl)
  obtain ⟨fb, cb, k1, k2, hfb, -⟩ := g_cell hH tb (show x_KL[33]? = some _ from rfl)
  have l1 : 3 ≤ fa.length := l1
  have k1 : 3 ≤ fb.length := k1
  obtain ⟨a1, tra⟩ := a_rf (b := 17) hfa (show 1 < fa.length by omega) rfl (by decide)
  obtain ⟨b1, trb⟩ := a_rf (b := 34) hfb (show 1 < fb.length by omega) rfl (by decide)
  obtain ⟨x, b2, bx1, bx2⟩ := a_it (lo := 0) (hi := 8) hfb (show 2 < fb.length by omega) rfl
  obtain ⟨va, cra, p1, p2, hva, -⟩ := g_cell hH tra (show x_KL[17]? = some _ from rfl)
  obtain ⟨vb, crb, q1, q2, hvb, -⟩ := g_cell hH trb (show x_KL[34]? = some _ from rfl)
  have p1 : 32 ≤ va.length := p1
  have p2 : va.length ≤ 32 := p2
  have q1 : 32 ≤ vb.length := q1
  have q2 : vb.length ≤ 32 := q2
  have eva : va.length = 32 := by omega
  have evb : vb.length = 32 := by omega
  have h80 := (g_gho (g_get hK 1 rfl) 16 rfl).1
  obtain ⟨ci, hi⟩ := a_cell (a := 66) (by decide) h80
  have hq := a_un16 (g_get hK 1 rfl) crb hi
  obtain ⟨-, x', b2', ex'⟩ := a_plc (a := 33) (e' := ([(0, 1)], 0)) (g_get hK 0 rfl) (by decide) cb
  have exx : x' = x := by
    have := b2'.symm.trans b2
    simp only [Option.some.injEq, Value.int.injEq] at this
    exact this
  subst exx
  rw [g_v] at ex'
  have hJ1 := (g_J0 hH [(16, 2, 2), (17, 0, 31)]).put x_EE_EO (lo := 2) (hi := 2) (j := 2) (v := .int x') ta ca (show x_KL[16]? = some _ from rfl) (show x_fo τ (1, 0, 0, 8) (.int x') from ⟨x', rfl, bx1, bx2⟩) rfl rfl (Nat.le_refl _) (Nat.le_refl _)
  have cb1 : (h.set 16 (0, 8, fa.set 2 (.int x')))[33]? = some (0, 8, fb) := a_ga (by decide) cb
  have ca1 : (h.set 16 (0, 8, fa.set 2 (.int x')))[16]? = some (0, 8, fa.set 2 (.int x')) := a_gs ca
  have cra1 : (h.set 16 (0, 8, fa.set 2 (.int x')))[17]? = some (1, 0, va) := a_ga (by decide) cra
  have crb1 : (h.set 16 (0, 8, fa.set 2 (.int x')))[34]? = some (1, 0, vb) := a_ga (by decide) crb
  have hJ2 := hJ1.sets (vs' := vb) (c := (1, 0, va)) (lo := 0) (hi := 31) x_EE_EO tra cra1 (show x_KL[17]? = some _ from rfl) (by show vb.length = va.length; omega) (fun j hj => by show vb[j]? = va[j]?; rw [List.getElem?_eq_none (by omega), List.getElem?_eq_none (by omega)]) (fun j v hj => by
    rw [x_pt0 (t := x_any) rfl rfl rfl]
    have e := hvb j v hj
    rw [x_pt0 (t := x_any) rfl rfl rfl] at e
    exact e) rfl rfl
  refine ⟨Nat.le_of_ble_eq_true rfl, ?_⟩
  refine w_aload_n rfl rfl (w_aload_n rfl rfl (w_getf rfl rfl cb b2 (w_putf rfl rfl ca rfl rfl (by show 2 < fa.length; omega) ?_)))
  refine w_aload_n rfl rfl (w_getf rfl rfl cb1 b1 (w_ic 0 rfl rfl (w_aload_n rfl rfl (w_getf rfl rfl ca1 (by show (fa.set 2 _)[1]? = _; rw [List.getElem?_set_ne (by decide)]; exact a1) (w_ic 0 rfl rfl (w_aload_n rfl rfl (w_getf rfl rfl ca1 (by show (fa.set 2 _)[1]? = _; rw [List.getElem?_set_ne (by decide)]; exact a1) (w_alen rfl cra1 ?_))))))))
  rw [eva]
  refine w_acopy rfl rfl crb1 cra1 (by decide) (by omega) (by omega) (List.all_eq_true.mpr (fun v hv => List.all_eq_true.mp (g_ints_all (vs := vb) (fun j hj => g_int rfl rfl hvb hj)) v (List.mem_of_mem_take hv))) (by decide) ?_
  rw [a_cpy_all evb eva]
  have b80 : 80 ≤ ((h.set 16 (0, 8, fa.set 2 (.int x'))).set 17 (1, 0, vb)).length := a_80 (a_80 h80)
  refine w_return rfl rfl ⟨τ, r, hJ2, _, List.mem_cons_self, by rw [List.length_set, List.length_set]; exact Nat.le_refl _, Nat.le_of_eq ((p_sl_set cra1 (show vb.length = va.length by omega)).trans (p_sl_set ca (by simp))), fun _ _ => rfl, g_F0, trivial, g_c ?_ (g_c ?_ (g_c ?_ (g_c ?_ g_n)))⟩
  · exact a_mkp (a := 33) (g_wl rfl) (by decide) tb (a_ga (by decide) cb1) b2 (by rw [g_v]; exact ex')
  · exact a_mk16 b80 (a_ga (by decide) crb1) (a_ga (by decide) (a_ga (by decide) hi)) hq
  · exact a_mkp (a := 16) (g_wl rfl) (by decide) ta (a_ga (by decide) ca1) (by show (fa.set 2 _)[2]? = _; exact List.getElem?_set_self (by omega)) (by rw [g_v]; exact ex')
  · exact a_mk18 b80 (a_gs cra1) (a_ga (by decide) (a_ga (by decide) hi)) hq
theorem ho_chL1 : x_OK p_GT p_MT x_EE chL1 := by
  refine ⟨?_, m_X12_copy, rfl⟩
  intro τ r h as M hM hH hA hF hK
  cases (show some m_X12_copy = some M from hM)
  obtain ⟨a, V, rfl, ha, hA⟩ := x_t3 (show x_vs τ r 1 [(3, 66, ([], ((66 : Nat) : Int))), (3, 65, ([], ((65 : Nat) : Int)))] as from hA)
  obtain ⟨b, V, rfl, hb, hA⟩ := x_t3 hA
  rw [g_nil hA]
  obtain ⟨rfl, tb⟩ := g_ref ha
  obtain ⟨rfl, ta⟩ := g_ref hb
  obtain ⟨vs, ca, l1, l2, hf, -⟩ := g_cell hH ta (show x_KL[65]? = some _ from rfl)
  obtain ⟨ws, cb, k1, k2, hg, -⟩ := g_cell hH tb (show x_KL[66]? = some _ from rfl)
  have l1 : 2517 ≤ vs.length := l1
  have l2 : vs.length ≤ 2517 := l2
  have k1 : 2517 ≤ ws.length := k1
  have k2 : ws.length ≤ 2517 := k2
  have h80 := (g_gho (g_get hK 1 rfl) 18 rfl).1
  obtain ⟨cr, hr⟩ := a_cell (a := 17) (by decide) h80
  have hq := a_un18 (g_get hK 1 rfl) hr cb
  obtain ⟨-, x, b2, ex⟩ := a_plc (a := 66) (e' := ([(0, 1)], 0)) (g_get hK 0 rfl) (by decide) cb
  refine ⟨Nat.le_of_ble_eq_true rfl, g_copy (by decide) cb ca (by omega) (by omega) (fun j hj => g_int rfl rfl hg (by omega)) ?_⟩
  refine ⟨τ, r, g_copy_K hH ta tb ca cb, _, List.mem_cons_self, by rw [List.length_set]; exact Nat.le_refl _, by rw [p_sl_set ca (by show ws.length = vs.length; omega)]; exact Nat.le_refl _, fun _ _ => rfl, g_F0, trivial, g_c ?_ (g_c ?_ (g_c ?_ (g_c ?_ g_n)))⟩
  · exact a_mkp (a := 66) (g_wl rfl) (by decide) tb (a_ga (by decide) cb) b2 ex
  · exact a_mk18 (a_80 h80) (a_ga (by decide) hr) (a_ga (by decide) cb) hq
  · exact a_mkp (a := 65) (g_wl rfl) (by decide) ta (a_gs ca) b2 ex
  · exact a_mk15 (a_80 h80) (a_ga (by decide) hr) (a_gs ca) hq
theorem ho_chL2 : x_OK p_GT p_MT x_EE chL2 := by
  refine ⟨?_, m_X8_become, rfl⟩
  intro τ r h as M hM hH hA hF hK
  cases (show some m_X8_become = some M from hM)
  obtain ⟨a, V, rfl, ha, hA⟩ := x_t3 (show x_vs τ r 1 [(3, 33, ([], ((33 : Nat) : Int))), (3, 16, ([], ((16 : Nat) : Int)))] as from hA)
  obtain ⟨b, V, rfl, hb, hA⟩ := x_t3 hA
  rw [g_nil hA]
  obtain ⟨rfl, ta⟩ := g_ref ha
  obtain ⟨rfl, tb⟩ := g_ref hb
  obtain ⟨fa, ca, l1, l2, hfa, -⟩ := g_cell hH ta (show x_KL[33]? = some _ from rfl)
  obtain ⟨fb, cb, k1, k2, hfb, -⟩ := g_cell hH tb (show x_KL[16]? = some _ from rfl)
  have l1 : 3 ≤ fa.length := l1
  have k1 : 3 ≤ fb.length := k1
  obtain ⟨a1, tra⟩ := a_rf (b := 34) hfa (show 1 < fa.length by omega) rfl (by decide)
  obtain ⟨b1, trb⟩ := a_rf (b := 17) hfb (show 1 < fb.length by omega) rfl (by decide)
  obtain ⟨x, b2, bx1, bx2⟩ := a_it (lo := 0) (hi := 8) hfb (show 2 < fb.length by omega) rfl
  obtain ⟨va, cra, p1, p2, hva, -⟩ := g_cell hH tra (show x_KL[34]? = some _ from rfl)
  obtain ⟨vb, crb, q1, q2, hvb, -⟩ := g_cell hH trb (show x_KL[17]? = some _ from rfl)
  have p1 : 32 ≤ va.length := p1
  have p2 : va.length ≤ 32 := p2
  have q1 : 32 ≤ vb.length := q1
  have q2 : vb.length ≤ 32 := q2
  have eva : va.length = 32 := by omega
  have evb : vb.length = 32 := by omega
  have h80 := (g_gho (g_get hK 1 rfl) 15 rfl).1
  obtain ⟨ci, hi⟩ := a_cell (a := 65) (by decide) h80
  have hq := a_un15 (g_get hK 1 rfl) crb hi
  obtain ⟨-, x', b2', ex'⟩ := a_plc (a := 16) (e' := ([(0, 1)], 0)) (g_get hK 0 rfl) (by decide) cb
  have exx : x' = x := by
    have := b2'.symm.trans b2
    simp only [Option.some.injEq, Value.int.injEq] at this
    exact this
  subst exx
  rw [g_v] at ex'
  have hJ1 := (g_J0 hH [(33, 2, 2), (34, 0, 31)]).put x_EE_EO (lo := 2) (hi := 2) (j := 2) (v := .int x') ta ca (show x_KL[33]? = some _ from rfl) (show x_fo τ (1, 0, 0, 8) (.int x') from ⟨x', rfl, bx1, bx2⟩) rfl rfl (Nat.le_refl _) (Nat.le_refl _)
  have cb1 : (h.set 33 (0, 8, fa.set 2 (.int x')))[16]? = some (0, 8, fb) := a_ga (by decide) cb
  have ca1 : (h.set 33 (0, 8, fa.set 2 (.int x')))[33]? = some (0, 8, fa.set 2 (.int x')) := a_gs ca
  have cra1 : (h.set 33 (0, 8, fa.set 2 (.int x')))[34]? = some (1, 0, va) := a_ga (by decide) cra
  have crb1 : (h.set 33 (0, 8, fa.set 2 (.int x')))[17]? = some (1, 0, vb) := a_ga (by decide) crb
  have hJ2 := hJ1.sets (vs' := vb) (c := (1, 0, va)) (lo := 0) (hi := 31) x_EE_EO tra cra1 (show x_KL[34]? = some _ from rfl) (by show vb.length = va.length; omega) (fun j hj => by show vb[j]? = va[j]?; rw [List.getElem?_eq_none (by omega), List.getElem?_eq_none (by omega)]) (fun j v hj => by
    rw [x_pt0 (t := x_any) rfl rfl rfl]
    have e := hvb j v hj
    rw [x_pt0 (t := x_any) rfl rfl rfl] at e
    exact e) rfl rfl
  refine ⟨Nat.le_of_ble_eq_true rfl, ?_⟩
  refine w_aload_n rfl rfl (w_aload_n rfl rfl (w_getf rfl rfl cb b2 (w_putf rfl rfl ca rfl rfl (by show 2 < fa.length; omega) ?_)))
  refine w_aload_n rfl rfl (w_getf rfl rfl cb1 b1 (w_ic 0 rfl rfl (w_aload_n rfl rfl (w_getf rfl rfl ca1 (by show (fa.set 2 _)[1]? = _; rw [List.getElem?_set_ne (by decide)]; exact a1) (w_ic 0 rfl rfl (w_aload_n rfl rfl (w_getf rfl rfl ca1 (by show (fa.set 2 _)[1]? = _; rw [List.getElem?_set_ne (by decide)]; exact a1) (w_alen rfl cra1 ?_))))))))
  rw [eva]
  refine w_acopy rfl rfl crb1 cra1 (by decide) (by omega) (by omega) (List.all_eq_true.mpr (fun v hv => List.all_eq_true.mp (g_ints_all (vs := vb) (fun j hj => g_int rfl rfl hvb hj)) v (List.mem_of_mem_take hv))) (by decide) ?_
  rw [a_cpy_all evb eva]
  have b80 : 80 ≤ ((h.set 33 (0, 8, fa.set 2 (.int x'))).set 34 (1, 0, vb)).length := a_80 (a_80 h80)
  refine w_return rfl rfl ⟨τ, r, hJ2, _, List.mem_cons_self, by rw [List.length_set, List.length_set]; exact Nat.le_refl _, Nat.le_of_eq ((p_sl_set cra1 (show vb.length = va.length by omega)).trans (p_sl_set ca (by simp))), fun _ _ => rfl, g_F0, trivial, g_c ?_ (g_c ?_ (g_c ?_ (g_c ?_ g_n)))⟩
  · exact a_mkp (a := 16) (g_wl rfl) (by decide) tb (a_ga (by decide) cb1) b2 (by rw [g_v]; exact ex')
  · exact a_mk15 b80 (a_ga (by decide) crb1) (a_ga (by decide) (a_ga (by decide) hi)) hq
  · exact a_mkp (a := 33) (g_wl rfl) (by decide) ta (a_ga (by decide) ca1) (by show (fa.set 2 _)[2]? = _; exact List.getElem?_set_self (by omega)) (by rw [g_v]; exact ex')
  · exact a_mk17 b80 (a_gs cra1) (a_ga (by decide) (a_ga (by decide) hi)) hq
theorem ho_chL3 : x_OK p_GT p_MT x_EE chL3 := by
  refine ⟨?_, m_X12_copy, rfl⟩
  intro τ r h as M hM hH hA hF hK
  cases (show some m_X12_copy = some M from hM)
  obtain ⟨a, V, rfl, ha, hA⟩ := x_t3 (show x_vs τ r 1 [(3, 65, ([], ((65 : Nat) : Int))), (3, 66, ([], ((66 : Nat) : Int)))] as from hA)
  obtain ⟨b, V, rfl, hb, hA⟩ := x_t3 hA
  rw [g_nil hA]
  obtain ⟨rfl, ta⟩ := g_ref ha
  obtain ⟨rfl, tb⟩ := g_ref hb
  obtain ⟨vs, ca, l1, l2, hf, -⟩ := g_cell hH ta (show x_KL[65]? = some _ from rfl)
  obtain ⟨ws, cb, k1, k2, hg, -⟩ := g_cell hH tb (show x_KL[66]? = some _ from rfl)
  have l1 : 2517 ≤ vs.length := l1
  have l2 : vs.length ≤ 2517 := l2
  have k1 : 2517 ≤ ws.length := k1
  have k2 : ws.length ≤ 2517 := k2
  have h80 := (g_gho (g_get hK 1 rfl) 17 rfl).1
  obtain ⟨cr, hr⟩ := a_cell (a := 34) (by decide) h80
  have hq := a_un17 (g_get hK 1 rfl) hr ca
  obtain ⟨-, x, b2, ex⟩ := a_plc (a := 65) (e' := ([(0, 1)], 0)) (g_get hK 0 rfl) (by decide) ca
  refine ⟨Nat.le_of_ble_eq_true rfl, g_copy (by decide) ca cb (by omega) (by omega) (fun j hj => g_int rfl rfl hf (by omega)) ?_⟩
  refine ⟨τ, r, g_copy_J hH ta tb ca cb, _, List.mem_cons_self, by rw [List.length_set]; exact Nat.le_refl _, by rw [p_sl_set cb (by show vs.length = ws.length; omega)]; exact Nat.le_refl _, fun _ _ => rfl, g_F0, trivial, g_c ?_ (g_c ?_ (g_c ?_ (g_c ?_ g_n)))⟩
  · exact a_mkp (a := 65) (g_wl rfl) (by decide) ta (a_ga (by decide) ca) b2 ex
  · exact a_mk17 (a_80 h80) (a_ga (by decide) hr) (a_ga (by decide) ca) hq
  · exact a_mkp (a := 66) (g_wl rfl) (by decide) tb (a_gs cb) b2 ex
  · exact a_mk16 (a_80 h80) (a_ga (by decide) hr) (a_gs cb) hq
section AL3
variable {τ : Nat → Option Nat} {r : Nat → Int} {n : Nat} {h : p_H}
/-- the reference's list -/
theorem a_bR (hH : x_H x_EE τ h) (t65 : τ 65 = some 65) : ∃ ws, h[65]? = some (1, 0, ws) ∧ ws.length = 2517 ∧ ws[7]? = some (.int (Int32.ofNat (g_bc (g_ms 20 h)))) ∧ (∀ k, k < 8 → ∀ j, j < 2 → ws[339 + 2 * k + j]? = some (.int (g_gv (g_ms 20 h) k j))) ∧ g_bc (g_ms 20 h) ≤ 8 := by
  obtain ⟨ws, hc, l1, l2, hf, -⟩ := g_cell hH t65 (show x_KL[65]? = some _ from rfl)
  have l1 : 2517 ≤ ws.length := l1
  have l2 : ws.length ≤ 2517 := l2
  obtain ⟨x, h6, x1, x2⟩ := a_it (j := 7) (lo := 0) (hi := 8) hf (show 7 < ws.length by omega) rfl
  have ec : g_bc (g_ms 20 h) = x.toInt.toNat := by
    unfold g_bc
    rw [g_ms_at a_l20c, g_vs_at hc, show g_at _ 7 = x.toInt from g_at_int h6]
  refine ⟨ws, hc, by omega, ?_, fun k hk j hj => ?_, by omega⟩
  · rw [ec, ← g_i32 (x := x) (n := x.toInt.toNat) (by omega) (by omega)]; exact h6
  · obtain ⟨y, hy⟩ := g_int rfl rfl hf (show 339 + 2 * k + j < ws.length by omega)
    unfold g_gv
    rw [g_ms_at (a_l20 _ (by omega) (by omega)), g_vs_at hc, show g_at _ (339 + 2 * k + j) = y.toInt from g_at_int hy, Int32.ofInt_toInt]
    exact hy
theorem a_bRR (hH : x_H x_EE τ h) (t64 : τ 64 = some 64) : ∃ vs ws, sp_R h vs ws (g_bc (g_ms 20 h)) (g_gv (g_ms 20 h)) ∧ ws.length = 2517 ∧ τ 65 = some 65 := by
  obtain ⟨vs, hc, f0, -, t65, -⟩ := g_f64a hH t64
  obtain ⟨ws, h65, hl, h6, hv, h8⟩ := a_bR hH t65
  exact ⟨vs, ws, ⟨hc, f0, h65, h6, hv, h8⟩, hl, t65⟩
theorem a_bCC (hH : x_H x_EE τ h) (t2 : τ 2 = some 2) (t65 : τ 65 = some 65) (h15 : x_m x_EE τ r n h (([], 0), 64, 1000016, (1, 0, ([], 1)))) {x : Int32} {fT : List Value} (cT : h[16]? = some (0, 8, fT)) (e2 : fT[2]? = some (.int x)) (ex : x.toInt = g_bc (g_ms 20 h)) : ∃ f2 f3 rows, sp_C h f2 f3 fT rows (g_bc (g_ms 20 h)) (g_gv (g_ms 20 h)) := by
  obtain ⟨ws, h65, hl, h6, hv, h8⟩ := a_bR hH t65
  obtain ⟨f2, c2, l1, l2, hf2, -⟩ := g_cell hH t2 (show x_KL[2]? = some _ from rfl)
  have l1 : 10 ≤ f2.length := l1
  obtain ⟨a0, t3⟩ := a_rf (b := 3) hf2 (show 0 < f2.length by omega) rfl (by decide)
  obtain ⟨f3, c3, k1, k2, hf3, -⟩ := g_cell hH t3 (show x_KL[3]? = some _ from rfl)
  have k1 : 15 ≤ f3.length := k1
  obtain ⟨a12, tT⟩ := a_rf (b := 16) hf3 (show 13 < f3.length by omega) rfl (by decide)
  obtain ⟨gT, cT', m1, m2, hfT, -⟩ := g_cell hH tT (show x_KL[16]? = some _ from rfl)
  have eT : gT = fT := by
    have := cT'.symm.trans cT
    simp only [Option.some.injEq, Prod.mk.injEq, true_and] at this
    exact this
  subst eT
  have m1 : 3 ≤ gT.length := m1
  obtain ⟨a1, tR⟩ := a_rf (b := 17) hfT (show 1 < gT.length by omega) rfl (by decide)
  obtain ⟨rows, cR, p1, p2, hr, -⟩ := g_cell hH tR (show x_KL[17]? = some _ from rfl)
  have p1 : 32 ≤ rows.length := p1
  have p2 : rows.length ≤ 32 := p2
  have hq := a_un15 h15 cR h65
  refine ⟨f2, f3, rows, c2, a0, c3, a12, cT, a1, ?_, cR, by omega, fun k hk j hj => ?_, h8⟩
  · rw [← g_i32 (x := x) (n := g_bc (g_ms 20 h)) ex (by omega)]; exact e2
  · obtain ⟨y, hy⟩ := g_int rfl rfl hr (show 4 * k + j < rows.length by omega)
    have := (g_bq_iff.mp (hq k hk j hj)).1
    rw [show g_at rows (4 * k + j) = y.toInt from g_at_int hy, show g_at ws (339 + 2 * k + j) = _ from g_at_int (hv k hk j hj)] at this
    rw [hy, Int32.toInt_inj.mp this]
theorem a_rng (hH : x_H x_EE τ h) (t65 : τ 65 = some 65) (h15 : x_m x_EE τ r n h (([], 0), 64, 1000016, (1, 0, ([], 1)))) : ∀ k, k < 8 → ∀ j, j < 2 → 0 ≤ (g_gv (g_ms 20 h) k j).toInt ∧ (g_gv (g_ms 20 h) k j).toInt ≤ g_hi j := by
  obtain ⟨ws, h65, hl, h6, hv, h8⟩ := a_bR hH t65
  obtain ⟨ca, ha⟩ := a_cell (a := 17) (by decide) (g_gho h15 15 rfl).1
  intro k hk j hj
  have := (g_bq_iff.mp (a_un15 h15 ha h65 k hk j hj)).2
  rw [show g_at ws (339 + 2 * k + j) = _ from g_at_int (hv k hk j hj)] at this
  exact this
theorem a_un20 {e e' : q_E} (hm : x_m x_EE τ r n h (e, 64, 1000021, (1, 0, e'))) : g_bs (g_ms 20 h) (q_e r e) = q_e r e' := (g_gho hm 20 rfl).2
theorem a_mk20 {e e' : q_E} (w1 : q_wl n e.1) (w2 : q_wl n e'.1) (h80 : 80 ≤ h.length) (q : g_bs (g_ms 20 h) (q_e r e) = q_e r e') : x_m x_EE τ r n h (e, 64, 1000021, (1, 0, e')) := g_mk 20 rfl w1 w2 rfl h80 q
end AL3

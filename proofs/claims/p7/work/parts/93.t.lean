/-! Small walks by hand -/
theorem b_jmax {h : p_H} {d : Nat} {x y : Int32} : p_wp p_GT p_MT d m_J9_max_7cf53 0 (lv_args 0 [.int x, .int y]) [] h (fun a h2 => a = some (.int (if x < y then y else x)) ∧ h2 = h) := by
  refine w_iload_n rfl rfl (w_iload_n rfl rfl ?_)
  cases hc : p_cd .lt x y with
  | true =>
    have q : x < y := by simpa only [p_cd, decide_eq_true_eq] using hc
    exact w_icmp_t rfl (t := 9) rfl hc (w_iload_n rfl rfl (w_ireturn rfl rfl ⟨by rw [if_pos q], rfl⟩))
  | false =>
    have q : ¬ x < y := by simpa only [p_cd, decide_eq_false_iff_not] using hc
    exact w_icmp_f rfl (t := 9) rfl hc (w_iload_n rfl rfl (w_goto rfl (t := 10) rfl (w_ireturn rfl rfl ⟨by rw [if_neg q], rfl⟩)))
theorem b_ofNat_ne {a b : Nat} (ha : a < 100000) (hb : b < 100000) (h : a ≠ b) : ¬ Int32.ofNat a = Int32.ofNat b := by
  intro q
  have := congrArg Int32.toInt q
  rw [g_ofNat ha, g_ofNat hb] at this
  omega
section BLI
variable {G : p_G} {MT : List p_M} {d : Nat} {M : p_M} {pc l : Nat} {ls : p_Ls} {st : List Value} {h : p_H} {Q : Option Value → p_H → Prop} {x : Int32} {k : Nat}
theorem w_ireturnb (hat : p_at pc M.2.2.2.2.1 = some (.ireturn, l)) (hr : M.2.2.2.1 = some .boolean) (hn : narrow .boolean (.int x) = .int x) (hq : Q (some (.int x)) h) : p_wp G MT d M pc ls [.int x] h Q :=
  p_wp.ret hat (by simp only [p_step, p_ret, hr]; exact if_pos hn) hq
theorem w_ldcw {c : Nat} {b : Int} (hat : p_at pc M.2.2.2.2.1 = some (.ldc_w k, l)) (hp : p_pk k 3 M.2.2.2.2.2.1 = some (c, b)) (hk : p_wp G MT d M (pc + 3) ls (.int (Int32.ofInt b) :: st) h Q) : p_wp G MT d M pc ls st h Q :=
  p_wp.step hat (by simp only [p_step, p_cst, hp]; rfl) hk
theorem b_isIn {h : p_H} {d : Nat} {x y z : Int32} : p_wp p_GT p_MT d m_X12_isIn 0 (lv_args 0 [.int x, .int y, .int z]) [] h (fun a h2 => a = some (.int (if y ≤ x ∧ x ≤ z then 1 else 0)) ∧ h2 = h) := by
  refine w_iload_n rfl rfl (w_iload_n rfl rfl ?_)
  cases hc : p_cd .lt x y with
  | true =>
    have q : ¬ (y ≤ x ∧ x ≤ z) := by
      simp only [p_cd, decide_eq_true_eq, Int32.lt_iff_toInt_lt] at hc
      rw [Int32.le_iff_toInt_le, Int32.le_iff_toInt_le]; omega
    exact w_icmp_t rfl (t := 14) rfl hc (w_iconst rfl (w_ireturnb rfl rfl rfl ⟨by rw [if_neg q]; rfl, rfl⟩))
  | false =>
    refine w_icmp_f rfl (t := 14) rfl hc (w_iload_n rfl rfl (w_iload_n rfl rfl ?_))
    cases hc2 : p_cd .gt x z with
    | true =>
      have q : ¬ (y ≤ x ∧ x ≤ z) := by
        simp only [p_cd, decide_eq_true_eq, Int32.lt_iff_toInt_lt] at hc2
        rw [Int32.le_iff_toInt_le, Int32.le_iff_toInt_le]; omega
      exact w_icmp_t rfl (t := 14) rfl hc2 (w_iconst rfl (w_ireturnb rfl rfl rfl ⟨by rw [if_neg q]; rfl, rfl⟩))
    | false =>
      have q : y ≤ x ∧ x ≤ z := by
        simp only [p_cd, decide_eq_false_iff_not, Int32.lt_iff_toInt_lt] at hc hc2
        rw [Int32.le_iff_toInt_le, Int32.le_iff_toInt_le]; omega
      exact w_icmp_f rfl (t := 14) rfl hc2 (w_iconst rfl (w_goto rfl (t := 15) rfl (w_ireturnb rfl rfl rfl ⟨by rw [if_pos q]; rfl, rfl⟩)))
end BLI
section BLC
variable {h : p_H} {d c k : Nat} {f2 f3 f14 rows : List Value} {v : Nat → Int32}
theorem b_within {h : p_H} {d : Nat} {x y z : Int32} : p_wp p_GT p_MT d m_X11_within 0 (lv_args 0 [.int x, .int y, .int z]) [] h (fun a h2 => a = some (.int (if y ≤ x ∧ x ≤ z then 1 else 0)) ∧ h2 = h) := by
  refine w_iload_n rfl rfl (w_iload_n rfl rfl ?_)
  cases hc : p_cd .lt x y with
  | true =>
    have q : ¬ (y ≤ x ∧ x ≤ z) := by
      simp only [p_cd, decide_eq_true_eq, Int32.lt_iff_toInt_lt] at hc
      rw [Int32.le_iff_toInt_le, Int32.le_iff_toInt_le]; omega
    exact w_icmp_t rfl (t := 14) rfl hc (w_iconst rfl (w_ireturnb rfl rfl rfl ⟨by rw [if_neg q]; rfl, rfl⟩))
  | false =>
    refine w_icmp_f rfl (t := 14) rfl hc (w_iload_n rfl rfl (w_iload_n rfl rfl ?_))
    cases hc2 : p_cd .gt x z with
    | true =>
      have q : ¬ (y ≤ x ∧ x ≤ z) := by
        simp only [p_cd, decide_eq_true_eq, Int32.lt_iff_toInt_lt] at hc2
        rw [Int32.le_iff_toInt_le, Int32.le_iff_toInt_le]; omega
      exact w_icmp_t rfl (t := 14) rfl hc2 (w_iconst rfl (w_ireturnb rfl rfl rfl ⟨by rw [if_neg q]; rfl, rfl⟩))
    | false =>
      have q : y ≤ x ∧ x ≤ z := by
        simp only [p_cd, decide_eq_false_iff_not, Int32.lt_iff_toInt_lt] at hc hc2
        rw [Int32.le_iff_toInt_le, Int32.le_iff_toInt_le]; omega
      exact w_icmp_f rfl (t := 14) rfl hc2 (w_iconst rfl (w_goto rfl (t := 15) rfl (w_ireturnb rfl rfl rfl ⟨by rw [if_pos q]; rfl, rfl⟩)))
end BLC
section AB0
variable {τ : Nat → Option Nat} {r : Nat → Int} {n : Nat} {h : p_H} {e e' : q_E}
theorem a_at_set {vs : List Value} {j : Nat} {y : Int32} (hj : j < vs.length) : g_at (vs.set j (.int y)) j = y.toInt := g_at_int (List.getElem?_set_self hj)
theorem a_at_ne {vs : List Value} {j k : Nat} {v : Value} (hj : j ≠ k) : g_at (vs.set j v) k = g_at vs k := by simp only [g_at, List.getElem?_set_ne hj]
theorem a_ga {a b : Nat} {c c1 : p_C} (hab : a ≠ b) (hb : h[b]? = some c) : (h.set a c1)[b]? = some c := by rw [List.getElem?_set_ne hab]; exact hb
theorem a_gs {a : Nat} {c c1 : p_C} (ha : h[a]? = some c) : (h.set a c1)[a]? = some c1 := List.getElem?_set_self (List.getElem?_eq_some_iff.mp ha).1
theorem a_80 {a : Nat} {c1 : p_C} (h80 : 80 ≤ h.length) : 80 ≤ (h.set a c1).length := by rw [List.length_set]; exact h80
theorem a_rf {j b : Nat} {K : x_K} {fs : List Value} (hf : ∀ j v, fs[j]? = some v → x_fo τ (x_pt K j) v) (hl : j < fs.length) (ht : x_pt K j = (3, b, (b : Int), 0)) (hb : 0 < b) : fs[j]? = some (.ref b) ∧ τ b = some b := by
  have q := hf j _ (List.getElem?_eq_getElem hl)
  rw [ht] at q
  obtain ⟨a, e1, e2, e3⟩ := (show ∃ a, fs[j] = .ref a ∧ τ a = some b ∧ (0 < (b : Int) → (a : Int) = b) from q)
  have : a = b := Int.ofNat.inj (e3 (by omega))
  subst this
  exact ⟨by rw [List.getElem?_eq_getElem hl, e1], e2⟩
theorem a_it {j : Nat} {lo hi : Int} {K : x_K} {fs : List Value} (hf : ∀ j v, fs[j]? = some v → x_fo τ (x_pt K j) v) (hl : j < fs.length) (ht : x_pt K j = (1, 0, lo, hi)) : ∃ x : Int32, fs[j]? = some (.int x) ∧ lo ≤ x.toInt ∧ x.toInt ≤ hi := by
  have q := hf j _ (List.getElem?_eq_getElem hl)
  rw [ht] at q
  obtain ⟨x, e1, e2⟩ := (show ∃ x : Int32, fs[j] = .int x ∧ lo ≤ x.toInt ∧ x.toInt ≤ hi from q)
  exact ⟨x, by rw [List.getElem?_eq_getElem hl, e1], e2⟩
/-- a known int place -/
theorem a_plc {a k j : Nat} {c : p_C} (hm : x_m x_EE τ r n h (([], (a : Int)), k, j, (1, 0, e'))) (hj : j < 1000000) (hc : h[a]? = some c) : τ a = some k ∧ ∃ x : Int32, c.2.2[j]? = some (.int x) ∧ x.toInt = q_e r e' := by
  obtain ⟨i, c', e1, e2, e3, e4⟩ := hm.plc (show j < 1000001 by omega)
  have e1 : (i : Int) = q_e r ([], (a : Int)) := e1
  simp only [q_e, q_ev] at e1
  have : i = a := by omega
  subst this
  rw [if_neg (show ¬ j = x_len by unfold x_len; omega)] at e4
  obtain ⟨v, e5, -, x, e6, e7⟩ := e4
  have ec : c' = c := Option.some.inj (e3.symm.trans hc)
  subst ec
  exact ⟨e2, x, by rw [e5]; exact congrArg some e6, e7⟩
theorem a_mkp {a k j : Nat} {c : p_C} {x : Int32} (w : q_wl n e'.1) (hj : j < 1000000) (ht : τ a = some k) (hc : h[a]? = some c) (hv : c.2.2[j]? = some (.int x)) (hx : x.toInt = q_e r e') : x_m x_EE τ r n h (([], (a : Int)), k, j, (1, 0, e')) := by
  refine x_m.mkp q_wl_nil (show j < 1000001 by omega) ⟨a, c, by simp [q_e, q_ev], ht, hc, ?_⟩
  rw [if_neg (show ¬ j = x_len by unfold x_len; omega)]
  exact ⟨_, hv, w, x, rfl, hx⟩
end AB0

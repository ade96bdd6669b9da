/-! Small walks by hand -/
theorem b_jmax {h : p_H} {d : Nat} {x y : Int32} : p_wp p_GT p_MT d m_J9_max_7cf53 0 (lv_args 0 [.int x, .int y]) [] h (fun a h2 => a = some (.int (if x < y then y else x)) ∧ h2 = h) := by
  refine w_iload_n rfl rfl (w_iload_n rfl rfl ?_)
  cases hc : p_cd .lt x y with
  | true =>
    have q : x < y := by simpa only [p_cd, decide_eq_true_eq] using hc
    exact w_icmp_t rfl (t := 9) rfl hc (w_iload_n rfl rfl (w_ireturn rfl rfl ⟨by rw [if_pos q], rfl⟩))
  | false =>
    have q : ¬ x < y := by simpa only [p_cd, decide_eq_false_iff_not] using hc
    exact w_icmp_f rfl (t := 9) rfl hc (w_iload_n rfl rfl (w_goto rfl (t := 10) rfl (w_ireturn rfl rfl ⟨by rw [if_neg q], rfl⟩)))
theorem b_ofNat_ne {a b : Nat} (ha : a < 100000) (hb : b < 100000) (h : a ≠ b) : ¬ Int32.ofNat a = Int32.ofNat b := by
  intro q
  have := congrArg Int32.toInt q
  rw [g_ofNat ha, g_ofNat hb] at this
  omega
section BLI
variable {G : p_G} {MT : List p_M} {d : Nat} {M : p_M} {pc l : Nat} {ls : p_Ls} {st : List Value} {h : p_H} {Q : Option Value → p_H → Prop} {x : Int32} {k : Nat}
theorem w_ireturnb (hat : p_at pc M.2.2.2.2.1 = some (.ireturn, l)) (hr : M.2.2.2.1 = some .boolean) (hn : narrow .boolean (.int x) = .int x) (hq : Q (some (.int x)) h) : p_wp G MT d M pc ls [.int x] h Q :=
  p_wp.ret hat (by simp only [p_step, p_ret, hr]; exact if_pos hn) hq
theorem w_ldcw {c : Nat} {b : Int} (hat : p_at pc M.2.2.2.2.1 = some (.ldc_w k, l)) (hp : p_pk k 3 M.2.2.2.2.2.1 = some (c, b)) (hk : p_wp G MT d M (pc + 3) ls (.int (Int32.ofInt b) :: st) h Q) : p_wp G MT d M pc ls st h Q :=
  p_wp.step hat (by simp only [p_step, p_cst, hp]; rfl) hk
theorem b_isIn {h : p_H} {d : Nat} {x y z : Int32} : p_wp p_GT p_MT d m_X12_isIn 0 (lv_args 0 [.int x, .int y, .int z]) [] h (fun a h2 => a = some (.int (if y ≤ x ∧ x ≤ z then 1 else 0)) ∧ h2 = h) := by
  refine w_iload_n rfl rfl (w_iload_n rfl rfl ?_)
  cases hc : p_cd .lt x y with
  | true =>
    have q : ¬ (y ≤ x ∧ x ≤ z) := by
      simp only [p_cd, decide_eq_true_eq, Int32.lt_iff_toInt_lt] at hc
      rw [Int32.le_iff_toInt_le, Int32.le_iff_toInt_le]; omega
    exact w_icmp_t rfl (t := 14) rfl hc (w_iconst rfl (w_ireturnb rfl rfl rfl ⟨by rw [if_neg q]; rfl, rfl⟩))
  | false =>
    refine w_icmp_f rfl (t := 14) rfl hc (w_iload_n rfl rfl (w_iload_n rfl rfl ?_))
    cases hc2 : p_cd .gt x z with
    | true =>
      have q : ¬ (y ≤ x ∧ x ≤ z) := by
        simp only [p_cd, decide_eq_true_eq, Int32.lt_iff_toInt_lt] at hc2
        rw [Int32.le_iff_toInt_le, Int32.le_iff_toInt_le]; omega
      exact w_icmp_t rfl (t := 14) rfl hc2 (w_iconst rfl (w_ireturnb rfl rfl rfl ⟨by rw [if_neg q]; rfl, rfl⟩))
    | false =>
      have q : y ≤ x ∧ x ≤ z := by
        simp only [p_cd, decide_eq_false_iff_not, Int32.lt_iff_toInt_lt] at hc hc2
        rw [Int32.le_iff_toInt_le, Int32.le_iff_toInt_le]; omega
      exact w_icmp_f rfl (t := 14) rfl hc2 (w_iconst rfl (w_goto rfl (t := 15) rfl (w_ireturnb rfl rfl rfl ⟨by rw [if_pos q]; rfl, rfl⟩)))
end BLI
theorem b_within {h : p_H} {d : Nat} {x y z : Int32} : p_wp p_GT p_MT d m_X11_within 0 (lv_args 0 [.int x, .int y, .int z]) [] h (fun a h2 => a = some (.int (if y ≤ x ∧ x ≤ z then 1 else 0)) ∧ h2 = h) := by
  refine w_iload_n rfl rfl (w_iload_n rfl rfl ?_)
  cases hc : p_cd .lt x y with
  | true =>
    have q : ¬ (y ≤ x ∧ x ≤ z) := by
      simp only [p_cd, decide_eq_true_eq, Int32.lt_iff_toInt_lt] at hc
      rw [Int32.le_iff_toInt_le, Int32.le_iff_toInt_le]; omega
    exact w_icmp_t rfl (t := 14) rfl hc (w_iconst rfl (w_ireturnb rfl rfl rfl ⟨by rw [if_neg q]; rfl, rfl⟩))
  | false =>
    refine w_icmp_f rfl (t := 14) rfl hc (w_iload_n rfl rfl (w_iload_n rfl rfl ?_))
    cases hc2 : p_cd .gt x z with
    | true =>
      have q : ¬ (y ≤ x ∧ x ≤ z) := by
        simp only [p_cd, decide_eq_true_eq, Int32.lt_iff_toInt_lt] at hc2
        rw [Int32.le_iff_toInt_le, Int32.le_iff_toInt_le]; omega
      exact w_icmp_t rfl (t := 14) rfl hc2 (w_iconst rfl (w_ireturnb rfl rfl rfl ⟨by rw [if_neg q]; rfl, rfl⟩))
    | false =>
      have q : y ≤ x ∧ x ≤ z := by
        simp only [p_cd, decide_eq_false_iff_not, Int32.lt_iff_toInt_lt] at hc hc2
        rw [Int32.le_iff_toInt_le, Int32.le_iff_toInt_le]; omega
      exact w_icmp_f rfl (t := 14) rfl hc2 (w_iconst rfl (w_goto rfl (t := 15) rfl (w_ireturnb rfl rfl rfl ⟨by rw [if_pos q]; rfl, rfl⟩)))

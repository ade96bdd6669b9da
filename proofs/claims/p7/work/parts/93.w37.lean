/-! THE CLASS READS A CLAUSE, further -/
section RS13
variable {h : p_H} {dd n p u m : Nat} {la : Int32} {sv : Bool} {ml se ro fa pl : Value} {b : Nat → Nat}
def c_nv (v : Value) : Bool → Prop
  | false => v = .null
  | true => ∃ a, v = .ref a
def c_b3 (x y z : Bool) : Nat := (if x then 1 else 0) + ((if y then 2 else 0) + (if z then 4 else 0))
theorem c_b3k : ∀ x y z : Bool, c_b3 x y z < 8 ∧ (c_b3 x y z / 2 ^ 0 % 2 = if x then 1 else 0) ∧ (c_b3 x y z / 2 ^ 1 % 2 = if y then 1 else 0) ∧ (c_b3 x y z / 2 ^ 2 % 2 = if z then 1 else 0) ∧ c_b3 false y z + 2 ^ 0 = c_b3 true y z ∧ c_b3 x false z + 2 ^ 1 = c_b3 x true z ∧ c_b3 x y false + 2 ^ 2 = c_b3 x y true := by decide
theorem c_cwk : ∀ k, k < 22 → (if decide (0 = k) = true then 0 else if decide (1 = k) = true then 1 else if decide (2 = k) = true then 2 else if decide (3 = k) = true then 3 else if decide (4 = k) = true then 4 else if decide (5 = k) = true then 5 else if decide (6 = k) = true then 6 else if decide (8 = k) = true then 8 else if decide (9 = k) = true then 9 else if decide (7 = k) = true then 7 else 10) = (if k ≤ 9 then k else 10) := by decide
theorem c_cw {k : Nat} (hk : k < 22) (H : ∀ j, j < 22 → t_wd b n p j = decide (j = k)) : t_cw b n p = if k ≤ 9 then k else 10 := by
  unfold t_cw
  rw [H 0 (by decide), H 1 (by decide), H 2 (by decide), H 3 (by decide), H 4 (by decide), H 5 (by decide), H 6 (by decide), H 8 (by decide), H 9 (by decide), H 7 (by decide)]
  exact c_cwk k hk
/-- what stands at a clause's begin: its word's number, or none -/
theorem c_cw_v (hp : p ≤ n) (hb : ∀ k, k < n → b k < 256) {v : Int32} (h1 : t_k b n p = 1 → t_IX (t_zl b n p).2 v) : (t_cw b n p = 10 ∧ ¬ (t_k b n p = 1 ∧ Int32.ofNat 0 ≤ v ∧ v ≤ Int32.ofNat 9)) ∨ (t_cw b n p ≤ 9 ∧ t_k b n p = 1 ∧ v = Int32.ofNat (t_cw b n p)) := by
  by_cases k1 : t_k b n p = 1
  · rcases c_wk hp hb k1 (h1 k1) with ⟨k, hk, rfl, H⟩ | ⟨rfl, H⟩
    · rw [c_cw hk H]
      by_cases q : k ≤ 9
      · rw [if_pos q]; exact Or.inr ⟨q, k1, rfl⟩
      · rw [if_neg q]
        refine Or.inl ⟨rfl, fun e => ?_⟩
        have := e.2.2
        rw [Int32.le_iff_toInt_le, g_ofNat (by omega), g_ofNat (by omega)] at this
        omega
    · refine Or.inl ⟨?_, fun e => absurd e.2.1 (by decide)⟩
      unfold t_cw
      rw [H 0 (by decide), H 1 (by decide), H 2 (by decide), H 3 (by decide), H 4 (by decide), H 5 (by decide), H 6 (by decide), H 8 (by decide), H 9 (by decide), H 7 (by decide)]
      rfl
  · refine Or.inl ⟨?_, fun e => k1 e.1⟩
    have no : ∀ k, t_wd b n p k = false := fun k => Bool.eq_false_iff.mpr (fun e => k1 (t_wd_iff.mp e).1)
    unfold t_cw
    rw [no, no, no, no, no, no, no, no, no, no]
    rfl
set_option maxRecDepth 100000 in
theorem c_clno (hS : c_S h b n p u m la false ml se ro fa pl) (hn : n ≤ 300) (hp : p ≤ n) (hm : m ≤ 24) {x y z : Bool} (hx : c_nv ml x) (hy : c_nv se y) (hz : c_nv ro z) (hcw : t_cw b n p = 10) : p_wp p_GT p_MT (dd + 40) m_X3_readClause 0 (lv_args 0 [.ref 43]) [] h (fun v h2 => v = some (.int (l_b (Nat.beq (t_cl b n m (c_b3 x y z) p).1 0))) ∧ ((t_cl b n m (c_b3 x y z) p).1 = 0 → ∃ (u2 : Nat) (la2 : Int32) (ml2 se2 ro2 : Value) (x2 y2 z2 : Bool), c_S h2 b n (t_cl b n m (c_b3 x y z) p).2 u2 (m + 1) la2 false ml2 se2 ro2 fa pl ∧ c_nv ml2 x2 ∧ c_nv se2 y2 ∧ c_nv ro2 z2 ∧ c_b3 x2 y2 z2 = (if t_cw b n p < 3 then c_b3 x y z + 2 ^ t_cw b n p else c_b3 x y z) ∧ p < (t_cl b n m (c_b3 x y z) p).2 ∧ (t_cl b n m (c_b3 x y z) p).2 ≤ n ∧ m < 24) ∧ ((t_cl b n m (c_b3 x y z) p).1 ≠ 0 → ∃ (u2 m2 : Nat) (la2 : Int32) (sv2 : Bool) (ml2 se2 ro2 : Value), c_S h2 b n (t_cl b n m (c_b3 x y z) p).2 u2 m2 la2 sv2 ml2 se2 ro2 (.int (Int32.ofNat (t_cl b n m (c_b3 x y z) p).1)) (.int (Int32.ofNat (t_cl b n m (c_b3 x y z) p).2)))) := by
  have hS' := hS
  obtain ⟨fs, tp, rw, cw, pa, e43, fl, f0, f1, f2, f3, ⟨f4, f5, f6, v7, f7, t1, t2, t3⟩, f8, f9, f10, f11, f12, f13, f14, f15, f16, f17, e44, hb, e1, e45, rl, hrI, e46, cl, hI⟩ := hS
  have hbb : ∀ k, k < n → b k < 256 := fun k hk => (hb k (by omega)).2
  have hk4 : t_k b n p < 4 := by unfold t_k; (repeat' split) <;> omega
  have ecl : t_cl b n m (c_b3 x y z) p = (1, p) := by rw [t_cl_w hcw, if_pos rfl]
  have hno := (c_cw_v hp hbb t1).resolve_right (fun e => by rw [hcw] at e; exact absurd e.1 (by decide))
  rw [ecl]
  by_cases k1 : t_k b n p = 1
  · refine w_aload_n rfl rfl (w_getf rfl rfl e43 f7 (w_istore_n rfl (by decide) (w_aload_n rfl (w_s1 rfl rfl (by decide)) (w_getf rfl rfl e43 f6 (w_ic 1 rfl rfl (w_icmp_f rfl (t := 23) rfl (by rw [k1]; decide) (w_iload_n rfl p_lk_s1 (w_ic 0 rfl rfl (w_bp 9 rfl rfl (w_static (nn := 0) (dc := dd + 39) (M' := m_X11_within) rfl rfl rfl rfl (Nat.le_refl _) b_within ?_))))))))))
    rintro v h2 ⟨rfl, rfl⟩
    rw [if_neg (fun e => hno.2 ⟨k1, e⟩)]
    refine w_ifc_f rfl (t := 29) rfl (by decide) (w_aload_n rfl (w_s1 rfl rfl (by decide)) (w_ic 1 rfl rfl (w_virtual (dc := dd + 39) (M' := m_X3_wrong) rfl (g_vir (n := 2) rfl rfl (by simp [p_cat, p_bd, Value.category]) rfl rfl e43 rfl) rfl rfl (Nat.le_refl _) (c_wrong (f := Int32.ofNat 1) hS') ?_)))
    rintro v h3 ⟨rfl, hS3⟩
    exact w_ireturnb rfl rfl rfl ⟨rfl, fun e => absurd e (by first | decide | simp), fun _ => ⟨_, _, _, _, _, _, _, hS3⟩⟩
  · refine w_aload_n rfl rfl (w_getf rfl rfl e43 f7 (w_istore_n rfl (by decide) (w_aload_n rfl (w_s1 rfl rfl (by decide)) (w_getf rfl rfl e43 f6 (w_ic 1 rfl rfl (w_icmp_t rfl (t := 23) rfl (by simp only [p_cd, decide_eq_true_eq]; exact b_ofNat_ne (by omega) (by omega) k1) (w_aload_n rfl (w_s1 rfl rfl (by decide)) (w_ic 1 rfl rfl (w_virtual (dc := dd + 39) (M' := m_X3_wrong) rfl (g_vir (n := 2) rfl rfl (by simp [p_cat, p_bd, Value.category]) rfl rfl e43 rfl) rfl rfl (Nat.le_refl _) (c_wrong (f := Int32.ofNat 1) hS') ?_)))))))))
    rintro v h3 ⟨rfl, hS3⟩
    exact w_ireturnb rfl rfl rfl ⟨rfl, fun e => absurd e (by first | decide | simp), fun _ => ⟨_, _, _, _, _, _, _, hS3⟩⟩
end RS13

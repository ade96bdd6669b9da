/-! THE REFERENCE READS A LAW: the loop of summed goes as the grammar says -/
section RS8
theorem s_nt_se {l : Nat} (hl : 1 ≤ l) : ∀ σ : List Nat, s_nt (s_se l σ) = s_nt σ := by
  intro σ
  induction σ with
  | nil => rfl
  | cons x σ ih =>
    simp only [s_se]
    by_cases q : l ≤ s_rk x
    · rw [if_pos q, ih]
      simp only [s_nt]
      rw [if_neg (fun e => by rw [e] at q; exact absurd (Nat.le_trans hl q) (by decide))]
      rfl
    · rw [if_neg q]
theorem s_nt_op : ∀ σ : List Nat, s_nt σ ≤ s_opn σ := by
  intro σ
  induction σ with
  | nil => exact Nat.le_refl _
  | cons x σ ih =>
    simp only [s_nt, s_opn]
    by_cases q : x = 42
    · rw [if_pos q, if_pos (by omega)]; omega
    · rw [if_neg q]; split <;> omega
theorem s_se_ge {l l2 : Nat} (hl : l ≤ l2) : ∀ {σ : List Nat}, s_se l σ = σ → s_se l2 σ = σ := by
  intro σ
  cases σ with
  | nil => intro _; rfl
  | cons x σ =>
    intro e
    simp only [s_se] at e ⊢
    by_cases q : l ≤ s_rk x
    · rw [if_pos q] at e
      have := s_se_len l σ
      rw [e, List.length_cons] at this
      omega
    · rw [if_neg (by omega)]
theorem s_se_id {l : Nat} : ∀ σ : List Nat, s_se l (s_se l σ) = s_se l σ := by
  intro σ
  induction σ with
  | nil => rfl
  | cons x σ ih =>
    by_cases q : l ≤ s_rk x
    · simp only [s_se]; rw [if_pos q]; exact ih
    · have : s_se l (x :: σ) = x :: σ := by simp only [s_se]; rw [if_neg q]
      rw [this, this]
theorem s_se_se {l l2 : Nat} (hl : l ≤ l2) : ∀ σ : List Nat, s_se l (s_se l2 σ) = s_se l σ := by
  intro σ
  induction σ with
  | nil => rfl
  | cons x σ ih =>
    by_cases q : l2 ≤ s_rk x
    · have e1 : s_se l2 (x :: σ) = s_se l2 σ := by simp only [s_se]; rw [if_pos q]
      have e2 : s_se l (x :: σ) = s_se l σ := by simp only [s_se]; rw [if_pos (by omega)]
      rw [e1, e2]; exact ih
    · have : s_se l2 (x :: σ) = x :: σ := by simp only [s_se]; rw [if_neg q]
      rw [this]
theorem t_k_lt {b : Nat → Nat} {n p : Nat} (h : t_k b n p ≠ 0) : p < n := by
  by_cases q : p < n
  · exact q
  · exact absurd (t_k_end q) h
theorem t_is_lt {b : Nat → Nat} {n p c : Nat} (h : t_is b n p c = true) : p < n := t_k_lt (by rw [(t_is_iff.mp h).1]; decide)
theorem t_wd_lt {b : Nat → Nat} {n p k : Nat} (h : t_wd b n p k = true) : p < n := t_k_lt (by rw [(t_wd_iff.mp h).1]; decide)
theorem t_F_lt {b : Nat → Nat} {n p d : Nat} {S : Bool} (h : t_F b n S d p = 0) : p < n := by
  unfold t_F at h
  by_cases q : t_k b n p = 2
  · exact t_k_lt (by rw [q]; decide)
  · rw [if_neg q] at h
    by_cases q1 : t_nm6 b n p = true
    · exact t_k_lt (by rw [s_nm_k (Or.inl q1)]; decide)
    · rw [if_neg q1] at h
      by_cases q2 : t_nm2 b n p = true
      · exact t_k_lt (by rw [s_nm_k (Or.inr q2)]; decide)
      · rw [if_neg q2] at h
        by_cases q3 : t_op b n p = true
        · exact t_k_lt (by rcases s_op_k q3 with e | e <;> rw [e] <;> decide)
        · rw [if_neg q3] at h; cases h
theorem t_F_100 {b : Nat → Nat} {n p d : Nat} {S : Bool} : t_F b n S d p < 100 := by unfold t_F; (repeat' split) <;> omega
theorem t_nm_op {b : Nat → Nat} {n p : Nat} (h : t_nm6 b n p = true ∨ t_nm2 b n p = true) : ¬ t_op b n p = true := by
  intro ho
  have hk := s_nm_k h
  unfold t_op at ho
  simp only [Bool.or_eq_true] at ho
  have h20 : t_wd b n p 20 = true := by
    rcases ho with e | e | e
    · have := (t_is_iff.mp e).1; omega
    · have := (t_is_iff.mp e).1; omega
    · exact e
  have w20 := (t_wd_iff.mp h20).2
  have no : ∀ k, k < 20 → ¬ t_wd b n p k = true := fun k hk e => by
    have := (t_wd_iff.mp e).2
    rw [w20] at this
    have := t_Wn_i 20 (by decide) k (by omega) this
    omega
  unfold t_nm6 t_nm2 at h
  simp only [Bool.or_eq_true] at h
  rcases h with (e | e | e | e | e | e) | (e | e)
  · exact no 9 (by decide) e
  · exact no 10 (by decide) e
  · exact no 11 (by decide) e
  · exact no 8 (by decide) e
  · exact no 12 (by decide) e
  · exact no 13 (by decide) e
  · exact no 14 (by decide) e
  · exact no 15 (by decide) e
/-- where something opens, less than 8 are open -/
theorem t_F_op {b : Nat → Nat} {n p d : Nat} {S : Bool} (h : t_F b n S d p = 0) (ho : t_op b n p = true) : d < 8 := by
  unfold t_F at h
  have k := s_op_k ho
  by_cases q1 : t_nm6 b n p = true
  · -- a name opens nothing
    exact absurd ho (t_nm_op (Or.inl q1))
  · by_cases q2 : t_nm2 b n p = true
    · exact absurd ho (t_nm_op (Or.inr q2))
    · rw [if_neg (by omega), if_neg q1, if_neg q2, if_pos ho] at h
      by_cases q : 8 ≤ d
      · rw [if_pos q] at h; cases h
      · omega
theorem t_P0 {b : Nat → Nat} {n f d k p : Nat} {S : Bool} : t_P b n S (f + 1) 0 d k p = (if t_F b n S d p ≠ 0 then (t_F b n S d p, p) else if k = 7 then (7, p) else if t_op b n p = false then (0, t_x b n p) else if t_wd b n p 20 = true then (if (t_P b n S f 0 (d + 1) 0 (t_x b n p)).1 ≠ 0 then t_P b n S f 0 (d + 1) 0 (t_x b n p) else if t_wd b n (t_P b n S f 0 (d + 1) 0 (t_x b n p)).2 21 = false then (1, (t_P b n S f 0 (d + 1) 0 (t_x b n p)).2) else if t_is b n (t_x b n (t_P b n S f 0 (d + 1) 0 (t_x b n p)).2) 40 = false then (1, t_x b n (t_P b n S f 0 (d + 1) 0 (t_x b n p)).2) else t_P b n S f 6 (d + 1) 1 (t_x b n (t_x b n (t_P b n S f 0 (d + 1) 0 (t_x b n p)).2))) else if t_is b n p 45 = true then t_P b n S f 0 (d + 1) 0 (t_x b n p) else (if (t_P b n S f 2 (d + 1) 0 (t_x b n p)).1 ≠ 0 then t_P b n S f 2 (d + 1) 0 (t_x b n p) else if t_is b n (t_P b n S f 2 (d + 1) 0 (t_x b n p)).2 41 = true then (0, t_x b n (t_P b n S f 2 (d + 1) 0 (t_x b n p)).2) else (1, (t_P b n S f 2 (d + 1) 0 (t_x b n p)).2))) := rfl
theorem t_P1 {b : Nat → Nat} {n f d k p : Nat} {S : Bool} : t_P b n S (f + 1) 1 d k p = ((if (t_P b n S f 0 d k p).1 ≠ 0 then t_P b n S f 0 d k p else t_P b n S f 4 d 0 (t_P b n S f 0 d k p).2)) := rfl
theorem t_P2 {b : Nat → Nat} {n f d k p : Nat} {S : Bool} : t_P b n S (f + 1) 2 d k p = ((if (t_P b n S f 1 d k p).1 ≠ 0 then t_P b n S f 1 d k p else t_P b n S f 5 d 0 (t_P b n S f 1 d k p).2)) := rfl
theorem t_P4 {b : Nat → Nat} {n f d k p : Nat} {S : Bool} : t_P b n S (f + 1) 4 d k p = (if t_is b n p 42 = true ∨ t_is b n p 47 = true then (if (t_P b n S f 0 d 0 (t_x b n p)).1 ≠ 0 then t_P b n S f 0 d 0 (t_x b n p) else t_P b n S f 4 d 0 (t_P b n S f 0 d 0 (t_x b n p)).2) else (0, p)) := rfl
theorem t_P5 {b : Nat → Nat} {n f d k p : Nat} {S : Bool} : t_P b n S (f + 1) 5 d k p = (if t_is b n p 43 = true ∨ t_is b n p 45 = true then (if (t_P b n S f 1 d 0 (t_x b n p)).1 ≠ 0 then t_P b n S f 1 d 0 (t_x b n p) else t_P b n S f 5 d 0 (t_P b n S f 1 d 0 (t_x b n p)).2) else (0, p)) := rfl
theorem t_P6 {b : Nat → Nat} {n f d k p : Nat} {S : Bool} : t_P b n S (f + 1) 6 d k p = ((if (t_P b n S f 2 d k p).1 ≠ 0 then t_P b n S f 2 d k p else if t_is b n (t_P b n S f 2 d k p).2 44 = true then t_P b n S f 6 d (k + 1) (t_x b n (t_P b n S f 2 d k p).2) else if t_is b n (t_P b n S f 2 d k p).2 41 = true then (0, t_x b n (t_P b n S f 2 d k p).2) else (1, (t_P b n S f 2 d k p).2))) := rfl
/-- a seventh SUM -/
theorem t_P7 {b : Nat → Nat} {n f d p : Nat} {S : Bool} : t_P b n S (f + 4) 6 d 7 p = (if t_F b n S d p ≠ 0 then t_F b n S d p else 7, p) := by
  have e0 : t_P b n S (f + 1) 0 d 7 p = (if t_F b n S d p ≠ 0 then t_F b n S d p else 7, p) := by
    rw [t_P0]
    by_cases q : t_F b n S d p ≠ 0
    · rw [if_pos q, if_pos q]
    · rw [if_neg q, if_pos rfl, if_neg q]
  have e : (if t_F b n S d p ≠ 0 then t_F b n S d p else 7, p).1 ≠ 0 := by
    simp only
    by_cases q : t_F b n S d p ≠ 0
    · rw [if_pos q]; exact q
    · rw [if_neg q]; decide
  have e1 : t_P b n S (f + 2) 1 d 7 p = (if t_F b n S d p ≠ 0 then t_F b n S d p else 7, p) := by rw [t_P1, e0, if_pos e]
  have e2 : t_P b n S (f + 3) 2 d 7 p = (if t_F b n S d p ≠ 0 then t_F b n S d p else 7, p) := by rw [t_P2, e1, if_pos e]
  rw [t_P6, e2, if_pos e]
variable {h : p_H} {dd n p w so d t0 m on : Nat} {σ κ : List Nat} {wh : Bool} {b : Nat → Nat} {ls : p_Ls} {Q : Option Value → p_H → Prop} {R : p_H → Prop}
theorem r_h0b (hS : r_S h b n p σ κ w so false d t0 m on) (l0 : p_lk 0 ls = some (.ref 64)) (H : p_wp p_GT p_MT dd m_X12_beginOne 0 (lv_args 0 [.ref 64]) [] h (fun v h2 => v = some (.int (Int32.ofNat 0)) ∧ R h2)) (K : ∀ h2 ls2, R h2 → p_lk 0 ls2 = some (.ref 64) → p_wp p_GT p_MT (dd + 1) m_X12_summed 20 ls2 [] h2 Q) : p_wp p_GT p_MT (dd + 1) m_X12_summed 20 ls [] h Q := by
  obtain ⟨fs, tv, tp, pv, cv, av, y1, e64, fl, f2, f3, f4, ⟨f8, ⟨t, f9, t256, tR⟩, ⟨x10, f10, f10'⟩, ⟨z11, f11, f11'⟩, a7, f7, a7n, a7e⟩, f12, f13, f14, f15, f16, f17, f18, f19, f20, f21, e67, tl, tm, e68, hb, e69, pl, hP, e70, cl, hK, f0, e65, a1⟩ := hS
  refine w_aload_n rfl l0 (w_getf rfl rfl e64 f20 (w_ifc_t rfl (t := 34) rfl (by decide) (w_aload_n rfl l0 (w_virtual (dc := dd) (M' := m_X12_beginOne) rfl (g_vir (n := 1) rfl rfl (by simp [p_cat, p_bd, Value.category]) rfl rfl e64 rfl) rfl rfl (Nat.le_refl _) H ?_))))
  rintro v h2 ⟨rfl, hR⟩
  exact w_istore_n rfl (by decide) (w_iload_n rfl p_lk_s1 (w_ifc_t rfl (t := 45) rfl (by decide) (w_iload_n rfl p_lk_s1 (w_ifc_f rfl (t := 52) rfl (by decide) (w_goto rfl (t := 20) rfl (K _ _ hR (w_s1 l0 rfl (by decide))))))))
theorem r_hfb (hS : r_S h b n p σ κ w so false d t0 m on) (l0 : p_lk 0 ls = some (.ref 64)) {e : Nat} (he : 0 < e) (he2 : e < 100) (H : p_wp p_GT p_MT dd m_X12_beginOne 0 (lv_args 0 [.ref 64]) [] h (fun v h2 => v = some (.int (Int32.ofNat e)) ∧ R h2)) (K : ∀ h2, R h2 → Q (some (.int (Int32.ofNat e))) h2) : p_wp p_GT p_MT (dd + 1) m_X12_summed 20 ls [] h Q := by
  obtain ⟨fs, tv, tp, pv, cv, av, y1, e64, fl, f2, f3, f4, ⟨f8, ⟨t, f9, t256, tR⟩, ⟨x10, f10, f10'⟩, ⟨z11, f11, f11'⟩, a7, f7, a7n, a7e⟩, f12, f13, f14, f15, f16, f17, f18, f19, f20, f21, e67, tl, tm, e68, hb, e69, pl, hP, e70, cl, hK, f0, e65, a1⟩ := hS
  refine w_aload_n rfl l0 (w_getf rfl rfl e64 f20 (w_ifc_t rfl (t := 34) rfl (by decide) (w_aload_n rfl l0 (w_virtual (dc := dd) (M' := m_X12_beginOne) rfl (g_vir (n := 1) rfl rfl (by simp [p_cat, p_bd, Value.category]) rfl rfl e64 rfl) rfl rfl (Nat.le_refl _) H ?_))))
  rintro v h2 ⟨rfl, hR⟩
  exact w_istore_n rfl (by decide) (w_iload_n rfl p_lk_s1 (w_ifc_f rfl (t := 45) rfl (by simp only [p_cd, decide_eq_false_iff_not]; rw [Int32.le_iff_toInt_le, g_ofNat (by omega)]; simp only [Int32.toInt_zero]; omega) (w_iload_n rfl p_lk_s1 (w_ireturn rfl rfl (K _ hR)))))
theorem r_h0t (hS : r_S h b n p σ κ w so true d t0 m on) (l0 : p_lk 0 ls = some (.ref 64)) (H : p_wp p_GT p_MT dd m_X12_behindOne 0 (lv_args 0 [.ref 64]) [] h (fun v h2 => v = some (.int (Int32.ofNat 0)) ∧ R h2)) (K : ∀ h2 ls2, R h2 → p_lk 0 ls2 = some (.ref 64) → p_wp p_GT p_MT (dd + 1) m_X12_summed 20 ls2 [] h2 Q) : p_wp p_GT p_MT (dd + 1) m_X12_summed 20 ls [] h Q := by
  obtain ⟨fs, tv, tp, pv, cv, av, y1, e64, fl, f2, f3, f4, ⟨f8, ⟨t, f9, t256, tR⟩, ⟨x10, f10, f10'⟩, ⟨z11, f11, f11'⟩, a7, f7, a7n, a7e⟩, f12, f13, f14, f15, f16, f17, f18, f19, f20, f21, e67, tl, tm, e68, hb, e69, pl, hP, e70, cl, hK, f0, e65, a1⟩ := hS
  refine w_aload_n rfl l0 (w_getf rfl rfl e64 f20 (w_ifc_f rfl (t := 34) rfl (by decide) (w_aload_n rfl l0 (w_virtual (dc := dd) (M' := m_X12_behindOne) rfl (g_vir (n := 1) rfl rfl (by simp [p_cat, p_bd, Value.category]) rfl rfl e64 rfl) rfl rfl (Nat.le_refl _) H ?_))))
  rintro v h2 ⟨rfl, hR⟩
  exact w_goto rfl (t := 38) rfl (w_istore_n rfl (by decide) (w_iload_n rfl p_lk_s1 (w_ifc_t rfl (t := 45) rfl (by decide) (w_iload_n rfl p_lk_s1 (w_ifc_f rfl (t := 52) rfl (by decide) (w_goto rfl (t := 20) rfl (K _ _ hR (w_s1 l0 rfl (by decide)))))))))
theorem r_hft (hS : r_S h b n p σ κ w so true d t0 m on) (l0 : p_lk 0 ls = some (.ref 64)) {e : Nat} (he : 0 < e) (he2 : e < 100) (H : p_wp p_GT p_MT dd m_X12_behindOne 0 (lv_args 0 [.ref 64]) [] h (fun v h2 => v = some (.int (Int32.ofNat e)) ∧ R h2)) (K : ∀ h2, R h2 → Q (some (.int (Int32.ofNat e))) h2) : p_wp p_GT p_MT (dd + 1) m_X12_summed 20 ls [] h Q := by
  obtain ⟨fs, tv, tp, pv, cv, av, y1, e64, fl, f2, f3, f4, ⟨f8, ⟨t, f9, t256, tR⟩, ⟨x10, f10, f10'⟩, ⟨z11, f11, f11'⟩, a7, f7, a7n, a7e⟩, f12, f13, f14, f15, f16, f17, f18, f19, f20, f21, e67, tl, tm, e68, hb, e69, pl, hP, e70, cl, hK, f0, e65, a1⟩ := hS
  refine w_aload_n rfl l0 (w_getf rfl rfl e64 f20 (w_ifc_f rfl (t := 34) rfl (by decide) (w_aload_n rfl l0 (w_virtual (dc := dd) (M' := m_X12_behindOne) rfl (g_vir (n := 1) rfl rfl (by simp [p_cat, p_bd, Value.category]) rfl rfl e64 rfl) rfl rfl (Nat.le_refl _) H ?_))))
  rintro v h2 ⟨rfl, hR⟩
  exact w_goto rfl (t := 38) rfl (w_istore_n rfl (by decide) (w_iload_n rfl p_lk_s1 (w_ifc_f rfl (t := 45) rfl (by simp only [p_cd, decide_eq_false_iff_not]; rw [Int32.le_iff_toInt_le, g_ofNat (by omega)]; simp only [Int32.toInt_zero]; omega) (w_iload_n rfl p_lk_s1 (w_ireturn rfl rfl (K _ hR))))))
theorem r_h1t (hS : r_S h b n p σ κ w so true d t0 m on) (l0 : p_lk 0 ls = some (.ref 64)) (H : p_wp p_GT p_MT dd m_X12_behindOne 0 (lv_args 0 [.ref 64]) [] h (fun v h2 => v = some (.int (Int32.ofInt (-1))) ∧ R h2)) (K : ∀ h2 ls2, R h2 → p_lk 0 ls2 = some (.ref 64) → p_wp p_GT p_MT (dd + 1) m_X12_summed 52 ls2 [] h2 Q) : p_wp p_GT p_MT (dd + 1) m_X12_summed 20 ls [] h Q := by
  obtain ⟨fs, tv, tp, pv, cv, av, y1, e64, fl, f2, f3, f4, ⟨f8, ⟨t, f9, t256, tR⟩, ⟨x10, f10, f10'⟩, ⟨z11, f11, f11'⟩, a7, f7, a7n, a7e⟩, f12, f13, f14, f15, f16, f17, f18, f19, f20, f21, e67, tl, tm, e68, hb, e69, pl, hP, e70, cl, hK, f0, e65, a1⟩ := hS
  refine w_aload_n rfl l0 (w_getf rfl rfl e64 f20 (w_ifc_f rfl (t := 34) rfl (by decide) (w_aload_n rfl l0 (w_virtual (dc := dd) (M' := m_X12_behindOne) rfl (g_vir (n := 1) rfl rfl (by simp [p_cat, p_bd, Value.category]) rfl rfl e64 rfl) rfl rfl (Nat.le_refl _) H ?_))))
  rintro v h2 ⟨rfl, hR⟩
  exact w_goto rfl (t := 38) rfl (w_istore_n rfl (by decide) (w_iload_n rfl p_lk_s1 (w_ifc_t rfl (t := 45) rfl (by decide) (w_iload_n rfl p_lk_s1 (w_ifc_t rfl (t := 52) rfl (by decide) (K _ _ hR (w_s1 l0 rfl (by decide))))))))
theorem r_e1 (hS : r_S h b n p σ κ w so wh d t0 m on) (l0 : p_lk 0 ls = some (.ref 64)) {x : Nat} {ρ : List Nat} (hse : s_se 1 σ = x :: ρ) (hx : 40 ≤ x) (hx2 : x < 100) (hs : σ.length ≤ 160) (K : Q (some (.int (Int32.ofNat 1))) h) : p_wp p_GT p_MT (dd + 1) m_X12_summed 52 ls [] h Q := by
  have hS' := hS
  obtain ⟨fs, tv, tp, pv, cv, av, y1, e64, fl, f2, f3, f4, ⟨f8, ⟨t, f9, t256, tR⟩, ⟨x10, f10, f10'⟩, ⟨z11, f11, f11'⟩, a7, f7, a7n, a7e⟩, f12, f13, f14, f15, f16, f17, f18, f19, f20, f21, e67, tl, tm, e68, hb, e69, pl, hP, e70, cl, hK, f0, e65, a1⟩ := hS
  refine w_aload_n rfl l0 (w_virtual (dc := dd) (M' := m_X12_openNow) rfl (g_vir (n := 1) rfl rfl (by simp [p_cat, p_bd, Value.category]) rfl rfl e64 rfl) rfl rfl (Nat.le_refl _) (r_on (dd := dd) hS' hs) ?_)
  rintro v h2 ⟨rfl, rfl⟩
  rw [s_se_on (by decide) hse hx]
  exact w_ifc_f rfl (t := 61) rfl (by simp only [p_cd, decide_eq_false_iff_not]; exact g_nl (by omega)) (w_ic 1 rfl rfl (w_ireturn rfl rfl K))
theorem r_e0 (hS : r_S h b n p σ κ w so wh d t0 m on) (l0 : p_lk 0 ls = some (.ref 64)) (hn : n ≤ 300) (ht : t0 ≤ 2331) (hse : s_se 1 σ = []) (hs : σ.length ≤ 160) (hs1 : w + σ.length ≤ 303) (hdo : d = s_opn σ) (K : ∀ h2, r_S h2 b n p ([]) κ (w + σ.length) so wh 0 t0 m on → Q (some (.int (Int32.ofNat 0))) h2) : p_wp p_GT p_MT (dd + 2) m_X12_summed 52 ls [] h Q := by
  have hS' := hS
  obtain ⟨fs, tv, tp, pv, cv, av, y1, e64, fl, f2, f3, f4, ⟨f8, ⟨t, f9, t256, tR⟩, ⟨x10, f10, f10'⟩, ⟨z11, f11, f11'⟩, a7, f7, a7n, a7e⟩, f12, f13, f14, f15, f16, f17, f18, f19, f20, f21, e67, tl, tm, e68, hb, e69, pl, hP, e70, cl, hK, f0, e65, a1⟩ := hS
  refine w_aload_n rfl l0 (w_virtual (dc := dd + 1) (M' := m_X12_openNow) rfl (g_vir (n := 1) rfl rfl (by simp [p_cat, p_bd, Value.category]) rfl rfl e64 rfl) rfl rfl (Nat.le_refl _) (r_on (dd := dd + 1) hS' hs) ?_)
  rintro v h2 ⟨rfl, rfl⟩
  rw [s_se_on0 hse]
  refine w_ifc_t rfl (t := 61) rfl (by decide) (w_aload_n rfl l0 (w_ic 1 rfl rfl (w_virtual (dc := dd + 1) (M' := m_X12_settle) rfl (g_vir (n := 2) rfl rfl (by simp [p_cat, p_bd, Value.category]) rfl rfl e64 rfl) rfl rfl (Nat.le_refl _) (r_settle (dd := dd) (l := 1) (by decide) (by decide) hn ht σ w d _ hs hs1 hdo hS') ?_)))
  rintro v h2 ⟨rfl, hS2⟩
  rw [hse] at hS2
  exact w_ic 0 rfl rfl (w_ireturn rfl rfl (K _ hS2))
end RS8
/-- from the loop's head with this pile, where the token stands at p, all goes well -/
def r_go (b : Nat → Nat) (n so t0 m on dd : Nat) (Q : Option Value → p_H → Prop) (p : Nat) (σ κ : List Nat) (wh : Bool) : Prop := ∀ (w : Nat) (ls : p_Ls) (h : p_H), w + σ.length ≤ p + 3 → r_S h b n p σ κ w so wh (s_opn σ) t0 m on → p_lk 0 ls = some (.ref 64) → p_wp p_GT p_MT (dd + 10) m_X12_summed 20 ls [] h Q
def r_fl (b : Nat → Nat) (n so t0 m on : Nat) (Q : Option Value → p_H → Prop) (r : Nat × Nat) : Prop := ∀ h : p_H, (∃ (σ κ : List Nat) (w : Nat) (wh : Bool) (d : Nat), r_S h b n r.2 σ κ w so wh d t0 m on) → Q (some (.int (Int32.ofNat r.1))) h
def r_md (b : Nat → Nat) (n p : Nat) : Prop := t_is b n p 42 = false ∧ t_is b n p 47 = false
def r_pm (b : Nat → Nat) (n p : Nat) : Prop := t_is b n p 43 = false ∧ t_is b n p 45 = false
def r_tp (σ : List Nat) : Prop := ∀ ρ, σ ≠ 41 :: ρ
def r_up (l c : Nat) (π σ : List Nat) : Prop := s_se l π = σ ∧ s_opn π = s_opn σ ∧ π.length ≤ σ.length + c
theorem r_up_tp {l c : Nat} {π σ : List Nat} (hu : r_up l c π σ) (ht : r_tp σ) (hl : 1 ≤ l) : r_tp π := by
  rintro ρ rfl
  refine ht ρ ?_
  rw [← hu.1]
  simp only [s_se]
  rw [if_neg (fun e => absurd (Nat.le_trans hl e) (by decide))]
theorem r_up_nt {l c : Nat} {π σ : List Nat} (hu : r_up l c π σ) (hl : 1 ≤ l) : s_nt π = s_nt σ := by rw [← hu.1, s_nt_se hl]
def r_A0 (b : Nat → Nat) (n so t0 m on dd : Nat) (Q : Option Value → p_H → Prop) (f : Nat) : Prop := ∀ (σ κ : List Nat) (k p : Nat) (r : Nat × Nat), t_P b n (Nat.beq so 1) f 0 (s_opn σ) k p = r → 4 * (n - p) + 1 ≤ f → p ≤ n → σ.length ≤ 3 * s_opn σ + 2 → s_opn σ ≤ 8 → κ.length = s_nt σ → k ≠ 7 → (r.1 = 0 → p < r.2 → r.2 ≤ n → r_go b n so t0 m on dd Q r.2 (s_se 3 σ) κ true) → (r.1 ≠ 0 → r_fl b n so t0 m on Q r) → r_go b n so t0 m on dd Q p σ κ false
def r_A1 (b : Nat → Nat) (n so t0 m on dd : Nat) (Q : Option Value → p_H → Prop) (f : Nat) : Prop := ∀ (σ κ : List Nat) (k p : Nat) (r : Nat × Nat), t_P b n (Nat.beq so 1) f 1 (s_opn σ) k p = r → 4 * (n - p) + 2 ≤ f → p ≤ n → s_se 2 σ = σ → r_tp σ → σ.length ≤ 3 * s_opn σ + 1 → s_opn σ ≤ 8 → κ.length = s_nt σ → k ≠ 7 → (r.1 = 0 → p < r.2 → r.2 ≤ n → r_md b n r.2 → ∀ π, r_up 2 1 π σ → r_go b n so t0 m on dd Q r.2 π κ true) → (r.1 ≠ 0 → r_fl b n so t0 m on Q r) → r_go b n so t0 m on dd Q p σ κ false
def r_A4 (b : Nat → Nat) (n so t0 m on dd : Nat) (Q : Option Value → p_H → Prop) (f : Nat) : Prop := ∀ (σ τ κ : List Nat) (p : Nat) (r : Nat × Nat), t_P b n (Nat.beq so 1) f 4 (s_opn σ) 0 p = r → 4 * (n - p) + 1 ≤ f → p ≤ n → s_se 2 σ = σ → r_tp σ → r_up 2 1 τ σ → σ.length ≤ 3 * s_opn σ + 1 → s_opn σ ≤ 8 → κ.length = s_nt σ → (r.1 = 0 → p ≤ r.2 → r.2 ≤ n → r_md b n r.2 → ∀ π, r_up 2 1 π σ → r_go b n so t0 m on dd Q r.2 π κ true) → (r.1 ≠ 0 → r_fl b n so t0 m on Q r) → r_go b n so t0 m on dd Q p τ κ true
def r_A2 (b : Nat → Nat) (n so t0 m on dd : Nat) (Q : Option Value → p_H → Prop) (f : Nat) : Prop := ∀ (σ κ : List Nat) (k p : Nat) (r : Nat × Nat), t_P b n (Nat.beq so 1) f 2 (s_opn σ) k p = r → 4 * (n - p) + 3 ≤ f → p ≤ n → s_se 1 σ = σ → r_tp σ → σ.length ≤ 3 * s_opn σ → s_opn σ ≤ 8 → κ.length = s_nt σ → k ≠ 7 → (r.1 = 0 → p < r.2 → r.2 ≤ n → r_md b n r.2 → r_pm b n r.2 → ∀ π, r_up 1 2 π σ → r_go b n so t0 m on dd Q r.2 π κ true) → (r.1 ≠ 0 → r_fl b n so t0 m on Q r) → r_go b n so t0 m on dd Q p σ κ false
def r_A5 (b : Nat → Nat) (n so t0 m on dd : Nat) (Q : Option Value → p_H → Prop) (f : Nat) : Prop := ∀ (σ τ κ : List Nat) (p : Nat) (r : Nat × Nat), t_P b n (Nat.beq so 1) f 5 (s_opn σ) 0 p = r → 4 * (n - p) + 1 ≤ f → p ≤ n → r_md b n p → s_se 1 σ = σ → r_tp σ → r_up 1 2 τ σ → σ.length ≤ 3 * s_opn σ → s_opn σ ≤ 8 → κ.length = s_nt σ → (r.1 = 0 → p ≤ r.2 → r.2 ≤ n → r_md b n r.2 → r_pm b n r.2 → ∀ π, r_up 1 2 π σ → r_go b n so t0 m on dd Q r.2 π κ true) → (r.1 ≠ 0 → r_fl b n so t0 m on Q r) → r_go b n so t0 m on dd Q p τ κ true
def r_A6 (b : Nat → Nat) (n so t0 m on dd : Nat) (Q : Option Value → p_H → Prop) (f : Nat) : Prop := ∀ (ρ κ : List Nat) (k p : Nat) (r : Nat × Nat), t_P b n (Nat.beq so 1) f 6 (s_opn (42 :: ρ)) k p = r → 4 * (n - p) + 4 ≤ f → p ≤ n → ρ.length + 1 ≤ 3 * (s_opn ρ + 1) → s_opn ρ + 1 ≤ 8 → κ.length = s_nt ρ → k < 7 → (r.1 = 0 → p < r.2 → r.2 ≤ n → r_go b n so t0 m on dd Q r.2 (s_se 3 ρ) κ true) → (r.1 ≠ 0 → r_fl b n so t0 m on Q r) → r_go b n so t0 m on dd Q p (42 :: ρ) (k :: κ) false
def r_A (b : Nat → Nat) (n so t0 m on dd : Nat) (Q : Option Value → p_H → Prop) (f : Nat) : Prop := r_A0 b n so t0 m on dd Q f ∧ r_A1 b n so t0 m on dd Q f ∧ r_A4 b n so t0 m on dd Q f ∧ r_A2 b n so t0 m on dd Q f ∧ r_A5 b n so t0 m on dd Q f ∧ r_A6 b n so t0 m on dd Q f
section RI8
variable {dd n so t0 m on f : Nat} {b : Nat → Nat} {Q : Option Value → p_H → Prop}
set_option maxRecDepth 100000 in
theorem r_A0_ok (hn : n ≤ 300) (hso : so < 100) (ht : t0 ≤ 2331) (ih : r_A b n so t0 m on dd Q f) : r_A0 b n so t0 m on dd Q (f + 1) := by
  intro σ κ k p r hr hf hp hl hd hk hk7 K F
  rw [t_P0] at hr
  have h100 := t_F_100 (b := b) (n := n) (p := p) (d := s_opn σ) (S := Nat.beq so 1)
  by_cases hF : t_F b n (Nat.beq so 1) (s_opn σ) p = 0
  · rw [if_neg (fun q => q hF), if_neg hk7] at hr
    have hpn := t_F_lt hF
    have hx := t_x_lt (b := b) hpn
    by_cases ho : t_op b n p = false
    · rw [if_pos ho] at hr
      subst hr
      intro w ls h hw hS l0
      refine r_h0b hS l0 ((r_b1_1 (dd := dd) hS hso hd hn ht hF ho (by omega) (by omega) rfl).mono (by omega) (fun _ _ q => q)) ?_
      rintro h2 ls2 ⟨w2, e2, hS2⟩ l02
      exact K rfl hx.1 hx.2 w2 ls2 h2 (by show w2 + _ ≤ t_x b n p + 3; omega) hS2 l02
    · rw [if_neg ho] at hr
      have ho : t_op b n p = true := by cases q : t_op b n p with
        | true => rfl
        | false => exact absurd q ho
      have hd8 := t_F_op hF ho
      have e41 : s_opn (41 :: σ) = s_opn σ + 1 := rfl
      have e42 : s_opn (42 :: σ) = s_opn σ + 1 := rfl
      have e40 : s_opn (40 :: σ) = s_opn σ + 1 := rfl
      have e3 : s_opn (3 :: σ) = s_opn σ + 1 := rfl
      have n41 : s_nt (41 :: σ) = s_nt σ := rfl
      have n40 : s_nt (40 :: σ) = s_nt σ := rfl
      have n3 : s_nt (3 :: σ) = s_nt σ := rfl
      have hno := s_nt_op σ
      by_cases h20 : t_wd b n p 20 = true
      · rw [if_pos h20] at hr
        intro w ls h hw hS l0
        refine r_h0b hS l0 ((r_b1_nth (dd := dd) hS hso hd hn ht hF h20 (by omega)).mono (by omega) (fun _ _ q => q)) ?_
        intro h2 ls2 hS2 l02
        refine ih.1 (41 :: σ) κ 0 (t_x b n p) _ rfl (by omega) hx.2 (by rw [e41, List.length_cons]; omega) (by rw [e41]; omega) (by rw [n41]; exact hk) (by decide) ?_ ?_ w ls2 h2 (by rw [List.length_cons]; omega) (by rw [e41]; exact hS2) l02
        · intro e0 hq1 hq2 w3 ls3 h3 hw3 hS3 l03
          rw [e41] at e0 hq1 hq2 hw3 hS3
          rw [if_neg (fun q => q e0)] at hr
          have hs41 : s_se 3 (41 :: σ) = 41 :: σ := rfl
          rw [hs41] at hw3 hS3
          rw [e41] at hS3
          generalize t_P b n (Nat.beq so 1) f 0 (s_opn σ + 1) 0 (t_x b n p) = s at hr e0 hq1 hq2 hw3 hS3
          rw [List.length_cons] at hw3
          by_cases h21 : t_wd b n s.2 21 = false
          · rw [if_pos h21] at hr
            subst hr
            refine r_hft (e := 1) hS3 l03 (by decide) (by decide) ((r_bh_of hS3 ⟨σ, rfl⟩ (r_of_no (dd := dd) hS3 hso (by omega) hn ht h21) (fun v h2 q => ⟨_, q.1⟩)).mono (by omega) (fun _ _ q => q)) ?_
            rintro h4 rfl
            exact F (show (1 : Nat) ≠ 0 by decide) _ ⟨_, _, _, _, _, hS3⟩
          · rw [if_neg h21] at hr
            have h21 : t_wd b n s.2 21 = true := by cases q : t_wd b n s.2 21 with
              | true => rfl
              | false => exact absurd q h21
            have hy := t_x_lt (b := b) (t_wd_lt h21)
            by_cases h40 : t_is b n (t_x b n s.2) 40 = false
            · rw [if_pos h40] at hr
              subst hr
              refine r_hft (e := 1) hS3 l03 (by decide) (by decide) ((r_bh_of hS3 ⟨σ, rfl⟩ (r_of_no2 (dd := dd) hS3 hso (by omega) hn ht h21 h40) (fun v h2 q => ⟨_, q.1⟩)).mono (by omega) (fun _ _ q => q)) ?_
              intro h4 hS4
              exact F (show (1 : Nat) ≠ 0 by decide) _ ⟨_, _, _, _, _, hS4⟩
            · rw [if_neg h40] at hr
              have h40 : t_is b n (t_x b n s.2) 40 = true := by cases q : t_is b n (t_x b n s.2) 40 with
                | true => rfl
                | false => exact absurd q h40
              have hz := t_x_lt (b := b) (t_is_lt h40)
              refine r_h0t hS3 l03 ((r_bh_of hS3 ⟨σ, rfl⟩ (r_of_yes (dd := dd) hS3 hso (by omega) hn ht h21 h40 (by omega) rfl) (fun v h2 q => ⟨_, q.1⟩)).mono (by omega) (fun _ _ q => q)) ?_
              intro h4 ls4 hS4 l04
              exact ih.2.2.2.2.2 σ κ 1 (t_x b n (t_x b n s.2)) r (by rw [e42]; exact hr) (by omega) hz.2 (by omega) (by omega) hk (by decide) (fun q1 q2 q3 => K q1 (by omega) q3) F w3 ls4 h4 (by rw [List.length_cons]; omega) (by rw [e42]; exact hS4) l04
        · intro e0
          rw [e41] at e0 ⊢
          rw [if_pos e0] at hr
          subst hr
          exact F e0
      · rw [if_neg h20] at hr
        by_cases h45 : t_is b n p 45 = true
        · rw [if_pos h45] at hr
          intro w ls h hw hS l0
          refine r_h0b hS l0 ((r_b1_min (dd := dd) hS hso hd hn ht hF h45 (by omega)).mono (by omega) (fun _ _ q => q)) ?_
          intro h2 ls2 hS2 l02
          have es : s_se 3 (3 :: σ) = s_se 3 σ := rfl
          refine ih.1 (3 :: σ) κ 0 (t_x b n p) r (by rw [e3]; exact hr) (by omega) hx.2 (by rw [e3, List.length_cons]; omega) (by rw [e3]; omega) (by rw [n3]; exact hk) (by decide) ?_ F w ls2 h2 (by rw [List.length_cons]; omega) (by rw [e3]; exact hS2) l02
          rw [es]
          exact fun q1 q2 q3 => K q1 (by omega) q3
        · rw [if_neg h45] at hr
          have h40 : t_is b n p 40 = true := by
            unfold t_op at ho
            simp only [Bool.or_eq_true] at ho
            rcases ho with e | e | e
            · exact e
            · exact absurd e h45
            · exact absurd e h20
          intro w ls h hw hS l0
          refine r_h0b hS l0 ((r_b1_par (dd := dd) hS hso hd hn ht hF h40 (by omega)).mono (by omega) (fun _ _ q => q)) ?_
          intro h2 ls2 hS2 l02
          have es : s_se 1 (40 :: σ) = 40 :: σ := rfl
          refine ih.2.2.2.1 (40 :: σ) κ 0 (t_x b n p) _ rfl (by omega) hx.2 es (fun ρ e => by injection e with e1 _; omega) (by rw [e40, List.length_cons]; omega) (by rw [e40]; omega) (by rw [n40]; exact hk) (by decide) ?_ ?_ w ls2 h2 (by rw [List.length_cons]; omega) (by rw [e40]; exact hS2) l02
          · intro e0 hq1 hq2 hmd hpm π hu w3 ls3 h3 hw3 hS3 l03
            rw [e40] at e0 hq1 hq2 hmd hpm hw3 hS3
            rw [if_neg (fun q => q e0)] at hr
            generalize t_P b n (Nat.beq so 1) f 2 (s_opn σ + 1) 0 (t_x b n p) = s at hr e0 hq1 hq2 hmd hpm hw3 hS3
            have htp := r_up_tp hu (fun ρ e => by injection e with e1 _; omega) (by decide)
            have hpl := hu.2.2
            rw [List.length_cons] at hpl
            have hop : ∀ c, c = 43 ∨ c = 45 ∨ c = 42 ∨ c = 47 → t_is b n s.2 c = false := by
              rintro c (rfl | rfl | rfl | rfl)
              · exact hpm.1
              · exact hpm.2
              · exact hmd.1
              · exact hmd.2
            by_cases h41 : t_is b n s.2 41 = true
            · rw [if_pos h41] at hr
              subst hr
              have hy := t_x_lt (b := b) (t_is_lt h41)
              refine r_h0t hS3 l03 ((r_bh_top hS3 htp (r_bh_cl40 (dd := dd) hS3 hn ht (by omega) (by omega) rfl hop hu.1 h41)).mono (by omega) (fun _ _ q => q)) ?_
              rintro h4 ls4 ⟨w4, e4, hS4⟩ l04
              exact K rfl (by show p < t_x b n s.2; omega) hy.2 w4 ls4 h4 (by show w4 + _ ≤ t_x b n s.2 + 3; omega) hS4 l04
            · rw [if_neg h41] at hr
              subst hr
              have h41 : t_is b n s.2 41 = false := by cases q : t_is b n s.2 41 with
                | false => rfl
                | true => exact absurd q h41
              refine r_h1t hS3 l03 ((r_bh_top hS3 htp (r_bh_no40 (dd := dd) hS3 hn ht (by omega) (by omega) rfl hop hu.1 h41)).mono (by omega) (fun _ _ q => q)) ?_
              rintro h4 ls4 rfl l04
              exact r_e1 (dd := dd + 9) hS3 l04 hu.1 (by decide) (by decide) (by omega) (F (show (1 : Nat) ≠ 0 by decide) _ ⟨_, _, _, _, _, hS3⟩)
          · intro e0
            rw [e40] at e0 ⊢
            rw [if_pos e0] at hr
            subst hr
            exact F e0
  · rw [if_pos hF] at hr
    subst hr
    intro w ls h hw hS l0
    refine r_hfb (e := t_F b n (Nat.beq so 1) (s_opn σ) p) hS l0 (by omega) h100 ((r_b1_F (dd := dd) hS hso hd hn ht hF).mono (by omega) (fun _ _ q => q)) ?_
    rintro h2 rfl
    exact F hF _ ⟨_, _, _, _, _, hS⟩
theorem r_A1_ok (hn : n ≤ 300) (hso : so < 100) (ht : t0 ≤ 2331) (ih : r_A b n so t0 m on dd Q f) : r_A1 b n so t0 m on dd Q (f + 1) := by
  intro σ κ k p r hr hf hp hse htp hl hd hk hk7 K F
  rw [t_P1] at hr
  have h3 := s_se_ge (by decide : 2 ≤ 3) hse
  refine ih.1 σ κ k p _ rfl (by omega) hp (by omega) hd hk hk7 ?_ ?_
  · intro e0 hq1 hq2
    rw [if_neg (fun q => q e0)] at hr
    rw [h3]
    exact ih.2.2.1 σ σ κ _ r hr (by omega) hq2 hse htp ⟨hse, rfl, by omega⟩ hl hd hk (fun q1 q2 q3 => K q1 (by omega) q3) F
  · intro e0
    rw [if_pos e0] at hr
    subst hr
    exact F e0
set_option maxRecDepth 100000 in
theorem r_A4_ok (hn : n ≤ 300) (hso : so < 100) (ht : t0 ≤ 2331) (ih : r_A b n so t0 m on dd Q f) : r_A4 b n so t0 m on dd Q (f + 1) := by
  intro σ τ κ p r hr hf hp hse htp hu hl hd hk K F
  rw [t_P4] at hr
  have hul := hu.2.2
  have hut := r_up_tp hu htp (by decide)
  by_cases q : t_is b n p 42 = true ∨ t_is b n p 47 = true
  · rw [if_pos q] at hr
    have hpn : p < n := by rcases q with q | q <;> exact t_is_lt q
    have hx := t_x_lt (b := b) hpn
    intro w ls h hw hS l0
    have go : ∀ x, (x = 6 ∨ x = 7) → ∀ (w2 : Nat) (ls2 : p_Ls) (h2 : p_H), w2 + σ.length = w + τ.length → r_S h2 b n (t_x b n p) (x :: σ) κ w2 so false (s_opn σ) t0 m on → p_lk 0 ls2 = some (.ref 64) → p_wp p_GT p_MT (dd + 10) m_X12_summed 20 ls2 [] h2 Q := by
      intro x hx67 w2 ls2 h2 hw2 hS2 l02
      have ex : s_opn (x :: σ) = s_opn σ := by
        show s_opn σ + (if x = 3 ∨ 40 ≤ x then 1 else 0) = s_opn σ
        rw [if_neg (by omega)]; rfl
      have nx : s_nt (x :: σ) = s_nt σ := by
        show s_nt σ + (if x = 42 then 1 else 0) = s_nt σ
        rw [if_neg (by omega)]; rfl
      have rk : s_rk x = 2 := by unfold s_rk; rw [if_neg (by omega), if_neg (by omega), if_pos (by omega)]
      have s3 : s_se 3 (x :: σ) = x :: σ := by simp only [s_se]; rw [if_neg (by omega)]
      have s2 : s_se 2 (x :: σ) = σ := by simp only [s_se]; rw [if_pos (by omega)]; exact hse
      refine ih.1 (x :: σ) κ 0 (t_x b n p) _ rfl (by omega) hx.2 (by rw [ex, List.length_cons]; omega) (by rw [ex]; exact hd) (by rw [nx]; exact hk) (by decide) ?_ ?_ w2 ls2 h2 (by rw [List.length_cons]; omega) (by rw [ex]; exact hS2) l02
      · rw [ex, s3]
        intro e0 hq1 hq2
        rw [if_neg (fun q => q e0)] at hr
        exact ih.2.2.1 σ (x :: σ) κ _ r hr (by omega) hq2 hse htp ⟨s2, ex, Nat.le_refl _⟩ hl hd hk (fun q1 q2 q3 => K q1 (by omega) q3) F
      · rw [ex]
        intro e0
        rw [if_pos e0] at hr
        subst hr
        exact F e0
    by_cases q42 : t_is b n p 42 = true
    · refine r_h0t hS l0 ((r_bh_top hS hut (r_bh_6 (dd := dd) hS hn ht (by omega) (by omega) rfl q42)).mono (by omega) (fun _ _ q => q)) ?_
      rw [hu.1]
      rintro h2 ls2 ⟨w2, e2, hS2⟩ l02
      exact go 6 (Or.inl rfl) w2 ls2 h2 e2 hS2 l02
    · refine r_h0t hS l0 ((r_bh_top hS hut (r_bh_7 (dd := dd) hS hn ht (by omega) (by omega) rfl (q.resolve_left q42))).mono (by omega) (fun _ _ q => q)) ?_
      rw [hu.1]
      rintro h2 ls2 ⟨w2, e2, hS2⟩ l02
      exact go 7 (Or.inr rfl) w2 ls2 h2 e2 hS2 l02
  · rw [if_neg q] at hr
    subst hr
    exact K rfl (Nat.le_refl _) hp ⟨Bool.eq_false_iff.mpr (fun e => q (Or.inl e)), Bool.eq_false_iff.mpr (fun e => q (Or.inr e))⟩ τ hu
theorem r_A2_ok (hn : n ≤ 300) (hso : so < 100) (ht : t0 ≤ 2331) (ih : r_A b n so t0 m on dd Q f) : r_A2 b n so t0 m on dd Q (f + 1) := by
  intro σ κ k p r hr hf hp hse htp hl hd hk hk7 K F
  rw [t_P2] at hr
  refine ih.2.1 σ κ k p _ rfl (by omega) hp (s_se_ge (by decide : 1 ≤ 2) hse) htp (by omega) hd hk hk7 ?_ ?_
  · intro e0 hq1 hq2 hmd π hu
    rw [if_neg (fun q => q e0)] at hr
    have hul := hu.2.2
    exact ih.2.2.2.2.1 σ π κ _ r hr (by omega) hq2 hmd hse htp ⟨by rw [← s_se_se (by decide : 1 ≤ 2) π, hu.1]; exact hse, hu.2.1, by omega⟩ hl hd hk (fun q1 q2 q3 => K q1 (by omega) q3) F
  · intro e0
    rw [if_pos e0] at hr
    subst hr
    exact F e0
set_option maxRecDepth 100000 in
theorem r_A5_ok (hn : n ≤ 300) (hso : so < 100) (ht : t0 ≤ 2331) (ih : r_A b n so t0 m on dd Q f) : r_A5 b n so t0 m on dd Q (f + 1) := by
  intro σ τ κ p r hr hf hp hmd hse htp hu hl hd hk K F
  rw [t_P5] at hr
  have hul := hu.2.2
  have hut := r_up_tp hu htp (by decide)
  by_cases q : t_is b n p 43 = true ∨ t_is b n p 45 = true
  · rw [if_pos q] at hr
    have hpn : p < n := by rcases q with q | q <;> exact t_is_lt q
    have hx := t_x_lt (b := b) hpn
    intro w ls h hw hS l0
    have go : ∀ x, (x = 4 ∨ x = 5) → ∀ (w2 : Nat) (ls2 : p_Ls) (h2 : p_H), w2 + σ.length = w + τ.length → r_S h2 b n (t_x b n p) (x :: σ) κ w2 so false (s_opn σ) t0 m on → p_lk 0 ls2 = some (.ref 64) → p_wp p_GT p_MT (dd + 10) m_X12_summed 20 ls2 [] h2 Q := by
      intro x hx45 w2 ls2 h2 hw2 hS2 l02
      have ex : s_opn (x :: σ) = s_opn σ := by
        show s_opn σ + (if x = 3 ∨ 40 ≤ x then 1 else 0) = s_opn σ
        rw [if_neg (by omega)]; rfl
      have nx : s_nt (x :: σ) = s_nt σ := by
        show s_nt σ + (if x = 42 then 1 else 0) = s_nt σ
        rw [if_neg (by omega)]; rfl
      have rk : s_rk x = 1 := by unfold s_rk; rw [if_neg (by omega), if_neg (by omega), if_neg (by omega)]
      have s2 : s_se 2 (x :: σ) = x :: σ := by simp only [s_se]; rw [if_neg (by omega)]
      have s1 : s_se 1 (x :: σ) = σ := by simp only [s_se]; rw [if_pos (by omega)]; exact hse
      refine ih.2.1 (x :: σ) κ 0 (t_x b n p) _ rfl (by omega) hx.2 s2 (fun ρ e => by injection e with e1 _; omega) (by rw [ex, List.length_cons]; omega) (by rw [ex]; exact hd) (by rw [nx]; exact hk) (by decide) ?_ ?_ w2 ls2 h2 (by rw [List.length_cons]; omega) (by rw [ex]; exact hS2) l02
      · rw [ex]
        intro e0 hq1 hq2 hmd2 π hu2
        rw [if_neg (fun q => q e0)] at hr
        have hul2 := hu2.2.2
        rw [List.length_cons] at hul2
        exact ih.2.2.2.2.1 σ π κ _ r hr (by omega) hq2 hmd2 hse htp ⟨by rw [← s_se_se (by decide : 1 ≤ 2) π, hu2.1]; exact s1, hu2.2.1.trans ex, by omega⟩ hl hd hk (fun q1 q2 q3 => K q1 (by omega) q3) F
      · rw [ex]
        intro e0
        rw [if_pos e0] at hr
        subst hr
        exact F e0
    by_cases q43 : t_is b n p 43 = true
    · refine r_h0t hS l0 ((r_bh_top hS hut (r_bh_4 (dd := dd) hS hn ht (by omega) (by omega) rfl q43)).mono (by omega) (fun _ _ q => q)) ?_
      rw [hu.1]
      rintro h2 ls2 ⟨w2, e2, hS2⟩ l02
      exact go 4 (Or.inl rfl) w2 ls2 h2 e2 hS2 l02
    · refine r_h0t hS l0 ((r_bh_top hS hut (r_bh_5 (dd := dd) hS hn ht (by omega) (by omega) rfl (q.resolve_left q43))).mono (by omega) (fun _ _ q => q)) ?_
      rw [hu.1]
      rintro h2 ls2 ⟨w2, e2, hS2⟩ l02
      exact go 5 (Or.inr rfl) w2 ls2 h2 e2 hS2 l02
  · rw [if_neg q] at hr
    subst hr
    exact K rfl (Nat.le_refl _) hp hmd ⟨Bool.eq_false_iff.mpr (fun e => q (Or.inl e)), Bool.eq_false_iff.mpr (fun e => q (Or.inr e))⟩ τ hu
set_option maxRecDepth 100000 in
theorem r_A6_ok (hn : n ≤ 300) (hso : so < 100) (ht : t0 ≤ 2331) (ih : r_A b n so t0 m on dd Q f) : r_A6 b n so t0 m on dd Q (f + 1) := by
  intro ρ κ k p r hr hf hp hl hd hk hk7 K F
  rw [t_P6] at hr
  have e42 : s_opn (42 :: ρ) = s_opn ρ + 1 := rfl
  have n42 : s_nt (42 :: ρ) = s_nt ρ + 1 := rfl
  have es : s_se 1 (42 :: ρ) = 42 :: ρ := rfl
  have htp0 : r_tp (42 :: ρ) := fun ρ e => by injection e with e1 _; omega
  refine ih.2.2.2.1 (42 :: ρ) (k :: κ) k p _ rfl (by omega) hp es htp0 (by rw [e42, List.length_cons]; exact hl) (by rw [e42]; exact hd) (by rw [n42, List.length_cons, hk]) (by omega) ?_ ?_
  · intro e0 hq1 hq2 hmd hpm π hu w3 ls3 h3 hw3 hS3 l03
    rw [if_neg (fun q => q e0)] at hr
    generalize t_P b n (Nat.beq so 1) f 2 (s_opn (42 :: ρ)) k p = s at hr e0 hq1 hq2 hmd hpm hw3 hS3
    have htp := r_up_tp hu htp0 (by decide)
    have hpl := hu.2.2
    rw [List.length_cons] at hpl
    have hdo := hu.2.1
    rw [e42] at hdo
    have hsl := s_se_len 1 π
    rw [hu.1, List.length_cons] at hsl
    have hop : ∀ c, c = 43 ∨ c = 45 ∨ c = 42 ∨ c = 47 → t_is b n s.2 c = false := by
      rintro c (rfl | rfl | rfl | rfl)
      · exact hpm.1
      · exact hpm.2
      · exact hmd.1
      · exact hmd.2
    by_cases h44 : t_is b n s.2 44 = true
    · rw [if_pos h44] at hr
      have hy := t_x_lt (b := b) (t_is_lt h44)
      by_cases h6 : k = 6
      · subst h6
        obtain ⟨g, rfl⟩ : ∃ g, f = g + 4 := ⟨f - 4, by omega⟩
        rw [show (6 + 1 : Nat) = 7 from rfl, t_P7] at hr
        subst hr
        have h100 := t_F_100 (b := b) (n := n) (p := t_x b n s.2) (d := s_opn (42 :: ρ)) (S := Nat.beq so 1)
        have hne : (if t_F b n (Nat.beq so 1) (s_opn (42 :: ρ)) (t_x b n s.2) ≠ 0 then t_F b n (Nat.beq so 1) (s_opn (42 :: ρ)) (t_x b n s.2) else 7) ≠ 0 := by
          split
          · assumption
          · decide
        have hlt : (if t_F b n (Nat.beq so 1) (s_opn (42 :: ρ)) (t_x b n s.2) ≠ 0 then t_F b n (Nat.beq so 1) (s_opn (42 :: ρ)) (t_x b n s.2) else 7) < 100 := by
          split
          · exact h100
          · decide
        refine r_hft (e := if t_F b n (Nat.beq so 1) (s_opn (42 :: ρ)) (t_x b n s.2) ≠ 0 then t_F b n (Nat.beq so 1) (s_opn (42 :: ρ)) (t_x b n s.2) else 7) hS3 l03 (by omega) hlt ((r_bh_top hS3 htp (r_bh_nx (dd := dd) hS3 hn ht (by omega) (by omega) rfl hop h44 hu.1 (r_nx_7 (dd := dd) hS3 hso (by omega) hn ht (by omega) rfl h44 hu.1 rfl rfl (by omega)) (fun v h2 q => by obtain ⟨⟨g1, g2, -⟩, -⟩ := q; exact ⟨_, g2⟩))).mono (by omega) (fun v h2 q => by obtain ⟨⟨g1, g2, g3⟩, g4⟩ := q; exact ⟨by rw [g2, g3], g4⟩)) ?_
        intro h4 hS4
        exact F hne _ ⟨_, _, _, _, _, hS4⟩
      · refine r_h0t hS3 l03 ((r_bh_top hS3 htp (r_bh_nx (dd := dd) hS3 hn ht (by omega) (by omega) rfl hop h44 hu.1 (r_nx_1 (dd := dd) hS3 hso (by omega) hn ht (by omega) rfl h44 hu.1 rfl (by omega)) (fun v h2 q => ⟨_, q.1⟩))).mono (by omega) (fun _ _ q => q)) ?_
        intro h4 ls4 hS4 l04
        exact ih.2.2.2.2.2 ρ κ (k + 1) (t_x b n s.2) r hr (by omega) hy.2 hl hd hk (by omega) (fun q1 q2 q3 => K q1 (by omega) q3) F _ ls4 h4 (by rw [List.length_cons]; omega) hS4 l04
    · rw [if_neg h44] at hr
      by_cases h41 : t_is b n s.2 41 = true
      · rw [if_pos h41] at hr
        subst hr
        have hy := t_x_lt (b := b) (t_is_lt h41)
        refine r_h0t hS3 l03 ((r_bh_top hS3 htp (r_bh_cl42 (dd := dd) hS3 hn ht (by omega) (by omega) rfl hop hu.1 h41 rfl)).mono (by omega) (fun _ _ q => q)) ?_
        rintro h4 ls4 ⟨w4, e4, hS4⟩ l04
        exact K rfl (by show p < t_x b n s.2; omega) hy.2 w4 ls4 h4 (by show w4 + _ ≤ t_x b n s.2 + 3; omega) hS4 l04
      · rw [if_neg h41] at hr
        subst hr
        have h41 : t_is b n s.2 41 = false := Bool.eq_false_iff.mpr h41
        have h44 : t_is b n s.2 44 = false := Bool.eq_false_iff.mpr h44
        refine r_h1t hS3 l03 ((r_bh_top hS3 htp (r_bh_no42 (dd := dd) hS3 hn ht (by omega) (by omega) rfl hop hu.1 h41 h44)).mono (by omega) (fun _ _ q => q)) ?_
        rintro h4 ls4 rfl l04
        exact r_e1 (dd := dd + 9) hS3 l04 hu.1 (by decide) (by decide) (by omega) (F (show (1 : Nat) ≠ 0 by decide) _ ⟨_, _, _, _, _, hS3⟩)
  · intro e0
    rw [if_pos e0] at hr
    subst hr
    exact F e0
theorem r_A_ok (hn : n ≤ 300) (hso : so < 100) (ht : t0 ≤ 2331) : ∀ f, r_A b n so t0 m on dd Q f := by
  intro f
  induction f with
  | zero =>
    refine ⟨?_, ?_, ?_, ?_, ?_, ?_⟩
    · intro _ _ _ _ _ _ hf; omega
    · intro _ _ _ _ _ _ hf; omega
    · intro _ _ _ _ _ _ hf; omega
    · intro _ _ _ _ _ _ hf; omega
    · intro _ _ _ _ _ _ hf; omega
    · intro _ _ _ _ _ _ hf; omega
  | succ f ih => exact ⟨r_A0_ok hn hso ht ih, r_A1_ok hn hso ht ih, r_A4_ok hn hso ht ih, r_A2_ok hn hso ht ih, r_A5_ok hn hso ht ih, r_A6_ok hn hso ht ih⟩
set_option maxRecDepth 100000 in
/-- summed reads a SUM as the grammar says -/
theorem r_summed {h : p_H} {p w : Nat} {r : Nat × Nat} (hn : n ≤ 300) (hso : so < 100) (ht : t0 ≤ 2331) (hp : p ≤ n) (hw : w ≤ p + 3) (hS : r_S0 h b n p w so t0 m on) (hr : t_P b n (Nat.beq so 1) 4000 2 0 0 p = r) : p_wp p_GT p_MT (dd + 10) m_X12_summed 0 (lv_args 0 [.ref 64]) [] h (fun v h2 => v = some (.int (Int32.ofNat r.1)) ∧ ∃ w2 : Nat, r_S0 h2 b n r.2 w2 so t0 m on ∧ (r.1 = 0 → w2 ≤ r.2 + 3 ∧ p < r.2 ∧ r.2 ≤ n)) := by
  have hS' := hS
  obtain ⟨fs, tv, tp, pv, cv, y17, y18, y19, y20, av, y1, e64, fl, f2, f3, f4, ⟨f8, ⟨t, f9, t256, tR⟩, ⟨x10, f10, f10'⟩, ⟨z11, f11, f11'⟩, a7, f7, a7n, a7e⟩, f12, f13, f14, f15, f16, f17, f18, f19, f20, f21, e67, tl, tm, e68, hb, e69, pl, e70, cl, f0, e65, a1⟩ := hS
  refine w_aload_n rfl rfl (w_ic 0 rfl rfl (w_putf rfl rfl e64 rfl rfl (w_flt f17) (w_aload_n rfl rfl (w_ic 0 rfl rfl (w_putf rfl rfl (a_gs e64) rfl rfl (w_flt (w_fne f18 (by decide))) (w_aload_n rfl rfl (w_ic 0 rfl rfl (w_putf rfl rfl (a_gs (a_gs e64)) rfl rfl (w_flt (w_fne (w_fne f19 (by decide)) (by decide))) (w_aload_n rfl rfl (w_ic 0 rfl rfl (w_putf rfl rfl (a_gs (a_gs (a_gs e64))) rfl rfl (w_flt (w_fne (w_fne (w_fne f20 (by decide)) (by decide)) (by decide))) ?_)))))))))))
  refine w_use (X := fun h => r_S h b n p ([]) ([]) w so false 0 t0 m on) ⟨_, _, _, _, _, _, _, (a_gs (a_gs (a_gs (a_gs e64)))), (by first | exact fl | (simp only [List.length_set]; exact fl)), (w_fne (w_fne (w_fne (w_fne f2 (by decide)) (by decide)) (by decide)) (by decide)), (w_fne (w_fne (w_fne (w_fne f3 (by decide)) (by decide)) (by decide)) (by decide)), (w_fne (w_fne (w_fne (w_fne f4 (by decide)) (by decide)) (by decide)) (by decide)), ⟨(w_fne (w_fne (w_fne (w_fne f8 (by decide)) (by decide)) (by decide)) (by decide)), ⟨t, (w_fne (w_fne (w_fne (w_fne f9 (by decide)) (by decide)) (by decide)) (by decide)), t256, tR⟩, ⟨x10, (w_fne (w_fne (w_fne (w_fne f10 (by decide)) (by decide)) (by decide)) (by decide)), f10'⟩, ⟨z11, (w_fne (w_fne (w_fne (w_fne f11 (by decide)) (by decide)) (by decide)) (by decide)), f11'⟩, a7, (w_fne (w_fne (w_fne (w_fne f7 (by decide)) (by decide)) (by decide)) (by decide)), a7n, a7e⟩, (w_fne (w_fne (w_fne (w_fne f12 (by decide)) (by decide)) (by decide)) (by decide)), (w_fne (w_fne (w_fne (w_fne f13 (by decide)) (by decide)) (by decide)) (by decide)), (w_fne (w_fne (w_fne (w_fne f14 (by decide)) (by decide)) (by decide)) (by decide)), (w_fne (w_fne (w_fne (w_fne f15 (by decide)) (by decide)) (by decide)) (by decide)), (w_fne (w_fne (w_fne (w_fne f16 (by decide)) (by decide)) (by decide)) (by decide)), (w_fne (w_fne (w_fne (w_fat f17) (by decide)) (by decide)) (by decide)), (w_fne (w_fne (w_fat (w_fne f18 (by decide))) (by decide)) (by decide)), (w_fne (w_fat (w_fne (w_fne f19 (by decide)) (by decide))) (by decide)), (w_fat (w_fne (w_fne (w_fne f20 (by decide)) (by decide)) (by decide))), (w_fne (w_fne (w_fne (w_fne f21 (by decide)) (by decide)) (by decide)) (by decide)), (a_ga (by decide) (a_ga (by decide) (a_ga (by decide) (a_ga (by decide) e67)))), (by first | exact tl | (simp only [List.length_set]; exact tl)), tm, (a_ga (by decide) (a_ga (by decide) (a_ga (by decide) (a_ga (by decide) e68)))), hb, (a_ga (by decide) (a_ga (by decide) (a_ga (by decide) (a_ga (by decide) e69)))), (by first | exact pl | (simp only [List.length_set]; exact pl)), trivial, (a_ga (by decide) (a_ga (by decide) (a_ga (by decide) (a_ga (by decide) e70)))), (by first | exact cl | (simp only [List.length_set]; exact cl)), trivial, (w_fne (w_fne (w_fne (w_fne f0 (by decide)) (by decide)) (by decide)) (by decide)), (a_ga (by decide) (a_ga (by decide) (a_ga (by decide) (a_ga (by decide) e65)))), a1⟩ (fun hS2 => ?_)
  refine (r_A_ok (dd := dd) hn hso ht 4000).2.2.2.1 [] [] 0 p r hr (by omega) hp rfl (fun ρ e => by cases e) (Nat.le_refl _) (by decide) rfl (by decide) ?_ ?_ w _ _ (by simp only [List.length_nil]; omega) hS2 rfl
  · intro e0 hq1 hq2 hmd hpm π hu w3 ls3 h3 hw3 hS3 l03
    have hop : ∀ c, c = 43 ∨ c = 45 ∨ c = 42 ∨ c = 47 → t_is b n r.2 c = false := by
      rintro c (rfl | rfl | rfl | rfl)
      · exact hpm.1
      · exact hpm.2
      · exact hmd.1
      · exact hmd.2
    have hpl : π.length ≤ 2 := hu.2.2
    refine r_h1t hS3 l03 ((r_bh_top hS3 (r_up_tp hu (fun ρ e => by cases e) (by decide)) (r_bh_no0 (dd := dd) hS3 hn ht (by omega) (by omega) rfl hop hu.1)).mono (by omega) (fun _ _ q => q)) ?_
    rintro h4 ls4 rfl l04
    refine r_e0 (dd := dd + 8) hS3 l04 hn ht hu.1 (by omega) (by omega) rfl ?_
    intro h5 hS5
    rw [e0]
    exact ⟨rfl, _, r_S_0 hS5, fun _ => ⟨by omega, hq1, hq2⟩⟩
  · intro e0 h5 hx
    obtain ⟨σ2, κ2, w2, wh2, d2, hS5⟩ := hx
    exact ⟨rfl, w2, r_S_0 hS5, fun q => absurd q e0⟩
end RI8

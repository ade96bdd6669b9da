/-! THE REFERENCE READS A CLAUSE, further -/
section RS12
variable {h : p_H} {dd n p w so t0 m on at_ : Nat} {b : Nat → Nat}
theorem r_clause (hS : r_S0 h b n p w so t0 m on) (hn : n ≤ 300) (ht : t0 ≤ 2331) (hp : p ≤ n) (hw : w ≤ p + 3) (hm : m ≤ 24) (hon : on < 8) : p_wp p_GT p_MT (dd + 13) m_X12_clause 0 (lv_args 0 [.ref 64]) [] h (fun v h2 => v = some (.int (Int32.ofNat (t_cl b n m on p).1)) ∧ ∃ w2 so2 m2 on2 : Nat, r_S0 h2 b n (t_cl b n m on p).2 w2 so2 t0 m2 on2 ∧ ((t_cl b n m on p).1 = 0 → w2 ≤ (t_cl b n m on p).2 + 3 ∧ p < (t_cl b n m on p).2 ∧ (t_cl b n m on p).2 ≤ n ∧ m2 = m + 1 ∧ m < 24 ∧ on2 < 8 ∧ on2 = (if t_cw b n p < 3 then on + 2 ^ t_cw b n p else on))) := by
  have hc := t_cw_le (b := b) (n := n) (p := p)
  have : t_cw b n p = 0 ∨ t_cw b n p = 1 ∨ t_cw b n p = 2 ∨ t_cw b n p = 3 ∨ t_cw b n p = 4 ∨ t_cw b n p = 5 ∨ t_cw b n p = 6 ∨ t_cw b n p = 7 ∨ t_cw b n p = 8 ∨ t_cw b n p = 9 ∨ t_cw b n p = 10 := by omega
  rcases this with q | q | q | q | q | q | q | q | q | q | q
  · exact r_cl0 hS hn ht hp hw hm hon q
  · exact r_cl1 hS hn ht hp hw hm hon q
  · exact r_cl2 hS hn ht hp hw hm hon q
  · exact r_cl3 hS hn ht hp hw hm hon q
  · exact r_cl4 hS hn ht hp hw hm hon q
  · exact r_cl5 hS hn ht hp hw hm hon q
  · exact r_cl6 hS hn ht hp hw hm hon q
  · exact r_cl7 hS hn ht hp hw hm hon q
  · exact r_cl8 hS hn ht hp hw hm hon q
  · exact r_cl9 hS hn ht hp hw hm hon q
  · exact r_cl10 hS hn ht hp hw hm hon q
theorem t_cl_100 : (t_cl b n m on p).1 < 100000 := by
  have h1 : ∀ (S : Bool) (q : Nat), (t_P b n S 4000 2 0 0 q).1 < 100000 := fun S q => Nat.lt_trans t_P_100 (by decide)
  have h2 : ∀ (A : List (Nat × Nat × Nat)) (q : Nat), (t_D b n A q).1 < 100000 := fun A q => t_D_100
  unfold t_cl
  simp only
  (repeat' split) <;> first | exact h1 _ _ | exact h2 _ _ | decide | simp
set_option maxRecDepth 100000 in
theorem r_textl (hn : n ≤ 300) (ht : t0 ≤ 2331) {Q : Option Value → p_H → Prop} : ∀ f m on p w so (h : p_H) (ls : p_Ls) (r : Nat × Nat), t_tx b n f m on p = r → 25 < f + m → p ≤ n → w ≤ p + 3 → m ≤ 24 → on < 8 → r_S0 h b n p w so t0 m on → p_lk 0 ls = some (.ref 64) → (∀ h2 : p_H, (∃ w2 so2 m2 on2 : Nat, r_S0 h2 b n r.2 w2 so2 t0 m2 on2) → Q (some (.int (Int32.ofNat r.1))) h2) → p_wp p_GT p_MT (dd + 14) m_X12_readText 43 ls [] h Q := by
  intro f
  induction f with
  | zero => intro m on p w so h ls r hr hf hp hw hm; omega
  | succ f ih =>
    intro m on p w so h ls r hr hf hp hw hm hon hS l0 hQ
    have hS' := hS
    obtain ⟨fs, tv, tp, pv, cv, y17, y18, y19, y20, av, y1, e64, fl, f2, f3, f4, ⟨f8, ⟨t, f9, t256, tR⟩, ⟨x10, f10, f10'⟩, ⟨z11, f11, f11'⟩, a7, f7, a7n, a7e⟩, f12, f13, f14, f15, f16, f17, f18, f19, f20, f21, e67, tl, tm, e68, hb, e69, pl, e70, cl, f0, e65, a1⟩ := hS
    have etx : t_tx b n (f + 1) m on p = (if t_k b n p = 0 then (0, p) else if (t_cl b n m on p).1 ≠ 0 then t_cl b n m on p else t_tx b n f (m + 1) (if t_cw b n p < 3 then on + 2 ^ t_cw b n p else on) (t_cl b n m on p).2) := rfl
    rw [etx] at hr
    by_cases q0 : t_k b n p = 0
    · rw [if_pos q0] at hr
      subst hr
      have e0 : t = 0 := tR.1.mpr q0
      exact w_aload_n rfl l0 (w_getf rfl rfl e64 f9 (w_ifc_t rfl (t := 64) rfl (by rw [e0]; decide) (w_ic 0 rfl rfl (w_ireturn rfl rfl (hQ _ ⟨_, _, _, _, hS'⟩)))))
    · rw [if_neg q0] at hr
      have e0 : ¬ t = 0 := fun e => q0 (tR.1.mp e)
      refine w_aload_n rfl l0 (w_getf rfl rfl e64 f9 (w_ifc_f rfl (t := 64) rfl (by simp only [p_cd, decide_eq_false_iff_not]; exact b_ofNat_ne (b := 0) (by omega) (by omega) e0) (w_aload_n rfl l0 (w_virtual (dc := dd + 13) (M' := m_X12_clause) rfl (g_vir (n := 1) rfl rfl (by simp [p_cat, p_bd, Value.category]) rfl rfl e64 rfl) rfl rfl (Nat.le_refl _) (r_clause (dd := dd) hS' hn ht hp hw hm hon) ?_))))
      rintro v h2 ⟨rfl, w2, so2, m2, on2, hS2, hB⟩
      refine w_istore_n rfl (by decide) (w_iload_n rfl p_lk_s1 ?_)
      by_cases e1 : (t_cl b n m on p).1 = 0
      · rw [if_neg (fun q => q e1)] at hr
        rw [e1]
        obtain ⟨b1, b2, b3, rfl, b5, b6, b7⟩ := hB e1
        rw [← b7] at hr
        exact w_ifc_t rfl (t := 61) rfl (by decide) (w_goto rfl (t := 43) rfl (ih (m + 1) on2 _ w2 so2 h2 _ r hr (by omega) b3 b1 (by omega) b6 hS2 (w_s1 l0 rfl (by decide)) hQ))
      · rw [if_pos e1] at hr
        subst hr
        exact w_ifc_f rfl (t := 61) rfl (by simp only [p_cd, decide_eq_false_iff_not]; exact b_ofNat_ne (b := 0) t_cl_100 (by omega) e1) (w_iload_n rfl p_lk_s1 (w_ireturn rfl rfl (hQ _ ⟨_, _, _, _, hS2⟩)))
end RS12

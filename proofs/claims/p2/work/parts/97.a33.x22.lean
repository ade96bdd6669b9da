section X22
variable {s0 s s1 s' : d_S} {t t' : Nat → Option p_C} {h : p_H} {b : Nat → Nat} {n p w o m : Nat} {L : List (Nat × Nat)} {Q : Option Value → p_H → Prop}
def H_ls (x : Int) : p_Ls := p_s1 (lv_args 0 [.ref 43]) 1 (.int (Int32.ofInt x))
theorem H_pre0 (hH : d_V t h s) (hw : w ≤ 9) (hno : w < 3 → s.2.1 43 (11 + w) = none) (K : p_wp p_GT p_MT 39 m_X3_readClause 70 (H_ls (w : Int)) [] h Q) : p_wp p_GT p_MT 39 m_X3_readClause 29 (H_ls (w : Int)) [] h Q := by
  have hR : d_R (w : Int) := ⟨by omega, by omega⟩
  have k54 : ¬ (w = 0) → ¬ (w = 1) → p_wp p_GT p_MT 39 m_X3_readClause 52 (H_ls (w : Int)) [] h Q := by
    intro w0 w1
    refine dw_iln (x := (w : Int)) rfl rfl (dw_ic rfl ?_)
    by_cases w2 : w = 2
    · subst w2
      exact dw_ne_y rfl (u := 70) rfl hR (d_rl rfl) rfl (dw_aln (a := 43) rfl rfl (dw_go_ (k := 13) rfl rfl rfl hH d_c43_13 (dw_nn rfl (u := 70) rfl (hno (by decide)) K)))
    · exact dw_ne_n rfl (u := 70) rfl hR (d_rl rfl) (by omega) K
  have k40 : ¬ (w = 0) → p_wp p_GT p_MT 39 m_X3_readClause 40 (H_ls (w : Int)) [] h Q := by
    intro w0
    refine dw_iln (x := (w : Int)) rfl rfl (dw_ic rfl ?_)
    by_cases w1 : w = 1
    · subst w1
      refine dw_ne_y rfl (u := 52) rfl hR (d_rl rfl) rfl (dw_aln (a := 43) rfl rfl (dw_go_ (k := 12) rfl rfl rfl hH d_c43_12 (dw_nnn rfl (hno (by decide)) ?_)))
      exact dw_iln (x := ((1 : Nat) : Int)) rfl rfl (dw_ic rfl (dw_ne_n rfl (u := 70) rfl hR (d_rl rfl) (by decide) K))
    · exact dw_ne_n rfl (u := 52) rfl hR (d_rl rfl) (by omega) (k54 w0 w1)
  refine dw_iln (x := (w : Int)) rfl rfl ?_
  by_cases w0 : w = 0
  · subst w0
    refine dw_zne_y rfl (u := 40) rfl hR rfl (dw_aln (a := 43) rfl rfl (dw_go_ (k := 11) rfl rfl rfl hH d_c43_11 (dw_nnn rfl (hno (by decide)) ?_)))
    exact dw_iln (x := ((0 : Nat) : Int)) rfl rfl (dw_ic rfl (dw_ne_n rfl (u := 52) rfl hR (d_rl rfl) (by decide) (dw_iln (x := ((0 : Nat) : Int)) rfl rfl (dw_ic rfl (dw_ne_n rfl (u := 70) rfl hR (d_rl rfl) (by decide) K)))))
  · exact dw_zne_n rfl (u := 40) rfl hR (by omega) (k40 w0)
theorem H_pre1 (hH : d_V t h s) (hw : w < 3) {a : Nat} (hyes : s.2.1 43 (11 + w) = some a) (K : p_wp p_GT p_MT 39 m_X3_readClause 64 (H_ls (w : Int)) [] h Q) : p_wp p_GT p_MT 39 m_X3_readClause 29 (H_ls (w : Int)) [] h Q := by
  have hR : d_R (w : Int) := ⟨by omega, by omega⟩
  refine dw_iln (x := (w : Int)) rfl rfl ?_
  by_cases w0 : w = 0
  · subst w0
    exact dw_zne_y rfl (u := 40) rfl hR rfl (dw_aln (a := 43) rfl rfl (dw_go_ (k := 11) rfl rfl rfl hH d_c43_11 (dw_nns rfl (u := 64) rfl hyes K)))
  refine dw_zne_n rfl (u := 40) rfl hR (by omega) (dw_iln (x := (w : Int)) rfl rfl (dw_ic rfl ?_))
  by_cases w1 : w = 1
  · subst w1
    exact dw_ne_y rfl (u := 52) rfl hR (d_rl rfl) rfl (dw_aln (a := 43) rfl rfl (dw_go_ (k := 12) rfl rfl rfl hH d_c43_12 (dw_nns rfl (u := 64) rfl hyes K)))
  have w2 : w = 2 := by omega
  subst w2
  exact dw_ne_n rfl (u := 52) rfl hR (d_rl rfl) (by decide) (dw_iln (x := ((2 : Nat) : Int)) rfl rfl (dw_ic rfl (dw_ne_y rfl (u := 70) rfl hR (d_rl rfl) rfl (dw_aln (a := 43) rfl rfl (dw_go_ (k := 13) rfl rfl rfl hH d_c43_13 (dw_ns rfl hyes K))))))
theorem H_out {r : Nat × Nat} {f : Nat} (hH : d_V t h s) (hT : k_T b n p s) (hg : k_g s0 s) (hr : r = (f, p)) (hf : f ≠ 0) (hf9 : f ≤ 9) {pc : Nat} {x : Int} (hat : p_at pc m_X3_readClause.2.2.2.2.1 = some (.invokevirtual 103, 3)) (hat2 : p_at (pc + 3) m_X3_readClause.2.2.2.2.1 = some (.ireturn, 1)) : p_wp p_GT p_MT 39 m_X3_readClause pc (H_ls x) [.int (Int32.ofInt (f : Int)), .ref 43] h (H_Q s0 b n p o L t h r) := by
  obtain ⟨s2, a1, -⟩ := P_wrong (s := s) (p := p) (f := (f : Int)) hT.2.1.2.1
  have hF : d_b2 (F_X3_wrong s (f : Int)) (fun v s2 => some (v, s2)) = some (0, s2) := by rw [a1, d_b2_t]
  refine dw_vC hF hat (d_vir (n := 2) rfl rfl rfl rfl rfl hH d_c43_0 rfl) rfl rfl rfl (dc := 0) (fun _ _ e => D_X3_wrong e hH ⟨by omega, by omega⟩) (fun v s3 h3 hH3 r_v hF2 => ?_)
  have e3 : v = 0 ∧ s3 = s2 := by
    have := Option.some.inj hF2
    injection this with z1 z2
    exact ⟨z1, z2⟩
  obtain ⟨e1, e2⟩ := e3
  subst e2
  obtain ⟨z1, z2⟩ := H_wrong (o := o) (L := L) hH hT hg hr hf hH3 a1
  rw [e1]
  exact y_ret hat2 rfl (Or.inl rfl) z2
end X22

/-! THE REFERENCE READS A LAW: its pile (top first), counts, and what is known of its fields -/
theorem w_use {G : p_G} {MT : List p_M} {M : p_M} {d pc : Nat} {ls : p_Ls} {st : List Value} {h : p_H} {Q : Option Value → p_H → Prop} {X : p_H → Prop} (hX : X h) (k : X h → p_wp G MT d M pc ls st h Q) : p_wp G MT d M pc ls st h Q := k hX
def s_rk (x : Nat) : Nat := if 40 ≤ x then 0 else if x = 3 then 3 else if 6 ≤ x then 2 else 1
/-- things open: ( nth and - -/
def s_opn : List Nat → Nat
  | [] => 0
  | x :: σ => s_opn σ + (if x = 3 ∨ 40 ≤ x then 1 else 0)
def s_nt : List Nat → Nat
  | [] => 0
  | x :: σ => s_nt σ + (if x = 42 then 1 else 0)
/-- an array holds a list, its top first -/
def r_P (pv : List Value) : List Nat → Prop
  | [] => True
  | x :: σ => pv[σ.length]? = some (.int (Int32.ofNat x)) ∧ x < 100 ∧ r_P pv σ
theorem r_P_set {pv : List Value} {v : Value} : ∀ {σ : List Nat} {k : Nat}, σ.length ≤ k → r_P pv σ → r_P (pv.set k v) σ := by
  intro σ
  induction σ with
  | nil => intro k _ _; trivial
  | cons x σ ih =>
    intro k hk hp
    have hk : σ.length + 1 ≤ k := hk
    exact ⟨by rw [List.getElem?_set_ne (by omega)]; exact hp.1, hp.2.1, ih (by omega) hp.2.2⟩
/-- p: where the token stands; σ the pile; κ the counts of the nths that are open; w written; so the sort; wh: a ONE is whole; d open things; t0 the text; m clauses; on laws that are told -/
def r_S (h : p_H) (b : Nat → Nat) (n p : Nat) (σ κ : List Nat) (w so : Nat) (wh : Bool) (d t0 m on : Nat) : Prop := ∃ (fs tv tp pv cv av : List Value) (y1 : Int32), h[64]? = some (0, 12, fs) ∧ fs.length = 31 ∧ fs[2]? = some (.ref 67) ∧ fs[3]? = some (.ref 68) ∧ fs[4]? = some (.int (Int32.ofNat n)) ∧ r_T b n p fs ∧ fs[12]? = some (.int (Int32.ofNat t0)) ∧ fs[13]? = some (.int (Int32.ofNat w)) ∧ fs[14]? = some (.int (Int32.ofNat so)) ∧ fs[15]? = some (.ref 69) ∧ fs[16]? = some (.ref 70) ∧ fs[17]? = some (.int (Int32.ofNat σ.length)) ∧ fs[18]? = some (.int (Int32.ofNat d)) ∧ fs[19]? = some (.int (Int32.ofNat κ.length)) ∧ fs[20]? = some (.int (l_b wh)) ∧ fs[21]? = some (.int (Int32.ofNat on)) ∧ h[67]? = some (1, 0, tv) ∧ tv.length = 3108 ∧ tv[t0]? = some (.int (Int32.ofNat m)) ∧ h[68]? = some (1, 0, tp) ∧ t_B tp b ∧ h[69]? = some (1, 0, pv) ∧ pv.length = 160 ∧ r_P pv σ ∧ h[70]? = some (1, 0, cv) ∧ cv.length = 9 ∧ r_P cv κ ∧ fs[0]? = some (.ref 65) ∧ h[65]? = some (1, 0, av) ∧ av[1]? = some (.int y1)
section RSS
variable {h : p_H} {dd n p w so d t0 m on : Nat} {σ κ : List Nat} {wh : Bool} {b : Nat → Nat}
theorem r_nextS (hS : r_S h b n p σ κ w so wh d t0 m on) (hn : n ≤ 300) (hbig : t_k b n p = 3 → b p ≠ 60 ∧ b p ≠ 62) : p_wp p_GT p_MT (dd + 1) m_X12_nextToken 0 (lv_args 0 [.ref 64]) [] h (fun v h2 => v = none ∧ r_S h2 b n (t_x b n p) σ κ w so wh d t0 m on) := by
  obtain ⟨fs, tv, tp, pv, cv, av, y1, e64, fl, f2, f3, f4, ⟨f8, ⟨t, f9, t256, tR⟩, ⟨x10, f10, f10'⟩, ⟨z11, f11, f11'⟩, a7, f7, a7n, a7e⟩, f12, f13, f14, f15, f16, f17, f18, f19, f20, f21, e67, tl, tm, e68, hb, e69, pl, hP, e70, cl, hK, f0, e65, a1⟩ := hS
  have ea : a7 = t_e b n p := by
    rcases a7e with e | ⟨e1, e2⟩
    · exact e
    · have := hbig e1
      rcases e2 with e2 | e2
      · exact absurd e2 this.1
      · exact absurd e2 this.2
  subst ea
  refine (r_next (d := dd) e64 e68 hb hn f3 f4 f7 a7n f8 f9 f10 f11).mono (Nat.le_refl _) ?_
  rintro v h2 ⟨rfl, gs, rfl, K, hT⟩
  have hl : gs.length = 31 := by
    have k1 := K 30 (by omega)
    have k2 := K 31 (by omega)
    rw [List.getElem?_eq_none (show fs.length ≤ 31 by omega)] at k2
    rw [List.getElem?_eq_getElem (show 30 < fs.length by omega)] at k1
    have q1 := (List.getElem?_eq_some_iff.mp k1).1
    have q2 := List.getElem?_eq_none_iff.mp k2
    omega
  exact ⟨rfl, gs, tv, tp, pv, cv, av, y1, a_gs e64, hl, (K 2 (by omega)).trans f2, (K 3 (by omega)).trans f3, (K 4 (by omega)).trans f4, hT, (K 12 (by omega)).trans f12, (K 13 (by omega)).trans f13, (K 14 (by omega)).trans f14, (K 15 (by omega)).trans f15, (K 16 (by omega)).trans f16, (K 17 (by omega)).trans f17, (K 18 (by omega)).trans f18, (K 19 (by omega)).trans f19, (K 20 (by omega)).trans f20, (K 21 (by omega)).trans f21, a_ga (by decide) e67, tl, tm, a_ga (by decide) e68, hb, a_ga (by decide) e69, pl, hP, a_ga (by decide) e70, cl, hK, (K 0 (by omega)).trans f0, a_ga (by decide) e65, a1⟩
set_option maxRecDepth 100000 in
theorem r_emit {x y : Int32} (hS : r_S h b n p σ κ w so wh d t0 m on) (hw : w ≤ 303) (ht : t0 ≤ 2331) : p_wp p_GT p_MT dd m_X12_emit 0 (lv_args 0 [.ref 64, .int x, .int y]) [] h (fun v h2 => v = none ∧ r_S h2 b n p σ κ (w + 1) so wh d t0 m on ∧ h2[69]? = h[69]?) := by
  obtain ⟨fs, tv, tp, pv, cv, av, y1, e64, fl, f2, f3, f4, ⟨f8, ⟨t, f9, t256, tR⟩, ⟨x10, f10, f10'⟩, ⟨z11, f11, f11'⟩, a7, f7, a7n, a7e⟩, f12, f13, f14, f15, f16, f17, f18, f19, f20, f21, e67, tl, tm, e68, hb, e69, pl, hP, e70, cl, hK, f0, e65, a1⟩ := hS
  refine w_aload_n rfl rfl (w_getf rfl rfl e64 f2 (w_aload_n rfl rfl (w_getf rfl rfl e64 f12 (w_sp 169 rfl rfl (w_addN rfl (w_ic 2 rfl rfl (w_aload_n rfl rfl (w_getf rfl rfl e64 f13 (w_mulN rfl (w_addN rfl (w_iload_n rfl rfl (w_st rfl e67 (by omega) (by omega) (w_aload_n rfl rfl (w_getf rfl rfl (a_ga (by decide) e64) f2 (w_aload_n rfl rfl (w_getf rfl rfl (a_ga (by decide) e64) f12 (w_sp 169 rfl rfl (w_addN rfl (w_ic 2 rfl rfl (w_aload_n rfl rfl (w_getf rfl rfl (a_ga (by decide) e64) f13 (w_mulN rfl (w_addN rfl (w_ic 1 rfl rfl (w_addN rfl (w_iload_n rfl rfl (w_st rfl (a_gs e67) (by omega) (by simp only [List.length_set]; omega) (w_aload_n rfl rfl (w_dup rfl rfl (w_getf rfl rfl (a_ga (by decide) (a_ga (by decide) e64)) f13 (w_ic 1 rfl rfl (w_addN rfl (w_putf rfl rfl (a_ga (by decide) (a_ga (by decide) e64)) rfl rfl (w_flt f13) (w_return rfl rfl ⟨rfl, ?_, ?_⟩))))))))))))))))))))))))))))))))))
  · exact ⟨_, _, _, _, _, _, _, (a_gs (a_ga (by decide) (a_ga (by decide) e64))), (by first | exact fl | (simp only [List.length_set]; exact fl)), (w_fne f2 (by decide)), (w_fne f3 (by decide)), (w_fne f4 (by decide)), ⟨(w_fne f8 (by decide)), ⟨t, (w_fne f9 (by decide)), t256, tR⟩, ⟨x10, (w_fne f10 (by decide)), f10'⟩, ⟨z11, (w_fne f11 (by decide)), f11'⟩, a7, (w_fne f7 (by decide)), a7n, a7e⟩, (w_fne f12 (by decide)), (w_fat f13), (w_fne f14 (by decide)), (w_fne f15 (by decide)), (w_fne f16 (by decide)), (w_fne f17 (by decide)), (w_fne f18 (by decide)), (w_fne f19 (by decide)), (w_fne f20 (by decide)), (w_fne f21 (by decide)), (a_ga (by decide) (a_gs (a_gs e67))), (by first | exact tl | (simp only [List.length_set]; exact tl)), by rw [List.getElem?_set_ne (by omega), List.getElem?_set_ne (by omega)]; exact tm, (a_ga (by decide) (a_ga (by decide) (a_ga (by decide) e68))), hb, (a_ga (by decide) (a_ga (by decide) (a_ga (by decide) e69))), (by first | exact pl | (simp only [List.length_set]; exact pl)), hP, (a_ga (by decide) (a_ga (by decide) (a_ga (by decide) e70))), (by first | exact cl | (simp only [List.length_set]; exact cl)), hK, (w_fne f0 (by decide)), (a_ga (by decide) (a_ga (by decide) (a_ga (by decide) e65))), a1⟩
  · rw [List.getElem?_set_ne (by decide), List.getElem?_set_ne (by decide), List.getElem?_set_ne (by decide)]
theorem r_rank {x : Nat} (hx : x < 100) : p_wp p_GT p_MT dd m_X12_rank 0 (lv_args 0 [.int (Int32.ofNat x)]) [] h (fun v h2 => v = some (.int (Int32.ofNat (s_rk x))) ∧ h2 = h) := by
  unfold s_rk
  refine w_iload_n rfl rfl (w_bp 40 rfl rfl ?_)
  by_cases q : 40 ≤ x
  · rw [if_pos q]
    exact w_icmp_f rfl (t := 10) rfl (by rw [t_clt (by omega) (by decide), Nat.ble_eq_true_of_le q]; rfl) (w_ic 0 rfl rfl (w_goto rfl (t := 30) rfl (w_ireturn rfl rfl ⟨rfl, rfl⟩)))
  · rw [if_neg q]
    refine w_icmp_t rfl (t := 10) rfl (by rw [t_clt (by omega) (by decide), show Nat.ble 40 x = false from Bool.eq_false_iff.mpr (fun k => q (Nat.le_of_ble_eq_true k))]; rfl) (w_iload_n rfl rfl (w_ic 3 rfl rfl ?_))
    by_cases q : x = 3
    · rw [if_pos q]
      exact w_icmp_f rfl (t := 19) rfl (by rw [q]; decide) (w_ic 3 rfl rfl (w_goto rfl (t := 30) rfl (w_ireturn rfl rfl ⟨rfl, rfl⟩)))
    · rw [if_neg q]
      refine w_icmp_t rfl (t := 19) rfl (by rw [t_cne (by omega) (by decide), show Nat.beq x 3 = false from Bool.eq_false_iff.mpr (fun k => q (Nat.eq_of_beq_eq_true k))]; rfl) (w_iload_n rfl rfl (w_bp 6 rfl rfl ?_))
      by_cases q : 6 ≤ x
      · rw [if_pos q]
        exact w_icmp_f rfl (t := 29) rfl (by rw [t_clt (by omega) (by decide), Nat.ble_eq_true_of_le q]; rfl) (w_ic 2 rfl rfl (w_goto rfl (t := 30) rfl (w_ireturn rfl rfl ⟨rfl, rfl⟩)))
      · rw [if_neg q]
        exact w_icmp_t rfl (t := 29) rfl (by rw [t_clt (by omega) (by decide), show Nat.ble 6 x = false from Bool.eq_false_iff.mpr (fun k => q (Nat.le_of_ble_eq_true k))]; rfl) (w_ic 1 rfl rfl (w_ireturn rfl rfl ⟨rfl, rfl⟩))
/-- what settling leaves of the pile -/
def s_se (l : Nat) : List Nat → List Nat
  | [] => []
  | x :: σ => if l ≤ s_rk x then s_se l σ else x :: σ
theorem s_se_len (l : Nat) : ∀ σ, (s_se l σ).length ≤ σ.length := by
  intro σ
  induction σ with
  | nil => exact Nat.le_refl _
  | cons x σ ih =>
    simp only [s_se]
    split
    · exact Nat.le_succ_of_le ih
    · exact Nat.le_refl _
set_option maxRecDepth 100000 in
theorem r_settle {l : Nat} (hl0 : ¬ l = 0) (hl : l < 10) (hn : n ≤ 300) (ht : t0 ≤ 2331) : ∀ σ w d h, σ.length ≤ 160 → w + σ.length ≤ 303 → d = s_opn σ → r_S h b n p σ κ w so wh d t0 m on → p_wp p_GT p_MT (dd + 1) m_X12_settle 0 (lv_args 0 [.ref 64, .int (Int32.ofNat l)]) [] h (fun v h2 => v = none ∧ r_S h2 b n p (s_se l σ) κ (w + (σ.length - (s_se l σ).length)) so wh (s_opn (s_se l σ)) t0 m on) := by
  intro σ
  induction σ with
  | nil =>
    intro w d h hs hw hd hS
    have hS' := hS
    obtain ⟨fs, tv, tp, pv, cv, av, y1, e64, fl, f2, f3, f4, ⟨f8, ⟨t, f9, t256, tR⟩, ⟨x10, f10, f10'⟩, ⟨z11, f11, f11'⟩, a7, f7, a7n, a7e⟩, f12, f13, f14, f15, f16, f17, f18, f19, f20, f21, e67, tl, tm, e68, hb, e69, pl, hP, e70, cl, hK, f0, e65, a1⟩ := hS
    subst hd
    exact w_aload_n rfl rfl (w_getf rfl rfl e64 f17 (w_ifc_t rfl (t := 75) rfl (by decide) (w_return rfl rfl ⟨rfl, hS'⟩)))
  | cons x σ ih =>
    intro w d h hs hw hd hS
    have hS' := hS
    obtain ⟨fs, tv, tp, pv, cv, av, y1, e64, fl, f2, f3, f4, ⟨f8, ⟨t, f9, t256, tR⟩, ⟨x10, f10, f10'⟩, ⟨z11, f11, f11'⟩, a7, f7, a7n, a7e⟩, f12, f13, f14, f15, f16, f17, f18, f19, f20, f21, e67, tl, tm, e68, hb, e69, pl, hP, e70, cl, hK, f0, e65, a1⟩ := hS
    have hlen2 : σ.length + 1 ≤ 160 := hs
    have hw : w + (σ.length + 1) ≤ 303 := hw
    have hx : pv[σ.length]? = some (.int (Int32.ofNat x)) := hP.1
    have hx100 := hP.2.1
    have f17 : fs[17]? = some (.int (Int32.ofNat (σ.length + 1))) := f17
    have rk4 : s_rk x < 4 := by unfold s_rk; split <;> (try split) <;> (try split) <;> omega
    refine w_aload_n rfl rfl (w_getf rfl rfl e64 f17 (w_ifc_f rfl (t := 75) rfl (by simp only [p_cd, decide_eq_false_iff_not]; rw [Int32.le_iff_toInt_le, g_ofNat (by omega)]; simp only [Int32.toInt_zero]; omega) (w_aload_n rfl rfl (w_getf rfl rfl e64 f15 (w_aload_n rfl rfl (w_getf rfl rfl e64 f17 (w_ic 1 rfl rfl (w_subN rfl (by omega) (w_ld rfl e69 (by omega) (show pv[σ.length + 1 - 1]? = _ by rw [Nat.add_sub_cancel]; exact hx) (w_static (nn := 0) (dc := dd) (M' := m_X12_rank) rfl rfl rfl rfl (Nat.le_refl _) (r_rank hx100) ?_))))))))))
    rintro v h2 ⟨rfl, rfl⟩
    refine w_iload_n rfl rfl ?_
    by_cases q : l ≤ s_rk x
    · have es : s_se l (x :: σ) = s_se l σ := by simp only [s_se]; rw [if_pos q]
      have hsl := s_se_len l σ
      rw [es]
      refine w_icmp_f rfl (t := 75) rfl (by simp only [p_cd, decide_eq_false_iff_not]; rw [Int32.lt_iff_toInt_lt, g_ofNat (by omega), g_ofNat (by omega)]; omega) (w_aload_n rfl rfl (w_dup rfl rfl (w_getf rfl rfl e64 f17 (w_ic 1 rfl rfl (w_subN rfl (by omega) (w_putf rfl rfl e64 rfl rfl (w_flt f17) (w_aload_n rfl rfl (w_aload_n rfl rfl (w_getf rfl rfl (a_gs e64) (w_fne f15 (by decide)) (w_aload_n rfl rfl (w_getf rfl rfl (a_gs e64) (w_fat f17) (w_ld rfl (a_ga (by decide) e69) (by omega) (show pv[σ.length + 1 - 1]? = _ by rw [Nat.add_sub_cancel]; exact hx) (w_ic 0 rfl rfl ?_)))))))))))))
      have hS1 : r_S _ b n p σ κ w so wh d t0 m on := ⟨_, _, _, _, _, _, _, (a_gs e64), (by first | exact fl | (simp only [List.length_set]; exact fl)), (w_fne f2 (by decide)), (w_fne f3 (by decide)), (w_fne f4 (by decide)), ⟨(w_fne f8 (by decide)), ⟨t, (w_fne f9 (by decide)), t256, tR⟩, ⟨x10, (w_fne f10 (by decide)), f10'⟩, ⟨z11, (w_fne f11 (by decide)), f11'⟩, a7, (w_fne f7 (by decide)), a7n, a7e⟩, (w_fne f12 (by decide)), (w_fne f13 (by decide)), (w_fne f14 (by decide)), (w_fne f15 (by decide)), (w_fne f16 (by decide)), (w_fat f17), (w_fne f18 (by decide)), (w_fne f19 (by decide)), (w_fne f20 (by decide)), (w_fne f21 (by decide)), (a_ga (by decide) e67), (by first | exact tl | (simp only [List.length_set]; exact tl)), tm, (a_ga (by decide) e68), hb, (a_ga (by decide) e69), (by first | exact pl | (simp only [List.length_set]; exact pl)), hP.2.2, (a_ga (by decide) e70), (by first | exact cl | (simp only [List.length_set]; exact cl)), hK, (w_fne f0 (by decide)), (a_ga (by decide) e65), a1⟩
      refine w_virtual (dc := dd) (M' := m_X12_emit) rfl (g_vir (n := 3) rfl rfl (by simp [p_cat, p_bd, Value.category]) rfl rfl (a_gs e64) rfl) rfl rfl (Nat.le_refl _) (r_emit (σ := σ) hS1 (by omega) ht) ?_
      rintro v h2 ⟨rfl, hS2, h69⟩
      have hS2' := hS2
      obtain ⟨fs2, tv2, tp2, pv2, cv2, av2, y12, e642, fl2, f22, f32, f42, ⟨f82, ⟨t2, f92, t2562, tR2⟩, ⟨x102, f102, f10'2⟩, ⟨z112, f112, f11'2⟩, a72, f72, a7n2, a7e2⟩, f122, f132, f142, f152, f162, f172, f182, f192, f202, f212, e672, tl2, tm2, e682, hb2, e692, pl2, hP2, e702, cl2, hK2, f02, e652, a12⟩ := hS2
      have ep : pv2 = pv := by
        have := e692.symm.trans (h69.trans (a_ga (by decide) e69))
        simp only [Option.some.injEq, Prod.mk.injEq, true_and] at this
        exact this
      have hx2 : pv2[σ.length]? = some (.int (Int32.ofNat x)) := by rw [ep]; exact hx
      refine w_aload_n rfl rfl (w_getf rfl rfl e642 f152 (w_aload_n rfl rfl (w_getf rfl rfl e642 f172 (w_ld rfl e692 (by omega) hx2 (w_ic 3 rfl rfl ?_)))))
      by_cases q3 : x = 3
      · refine w_icmp_f rfl (t := 0) rfl (by rw [q3]; decide) (w_aload_n rfl rfl (w_dup rfl rfl (w_getf rfl rfl e642 f182 (w_ic 1 rfl rfl (w_subN rfl (by rw [hd]; simp only [s_opn]; rw [if_pos (Or.inl q3)]; omega) (w_putf rfl rfl e642 rfl rfl (w_flt f182) (w_goto rfl (t := 0) rfl ?_)))))))
        have := ih (w + 1) (d - 1) _ (by omega) (by omega) (by rw [hd]; simp only [s_opn]; rw [if_pos (Or.inl q3)]; omega) ⟨_, _, _, _, _, _, _, (a_gs e642), (by first | exact fl2 | (simp only [List.length_set]; exact fl2)), (w_fne f22 (by decide)), (w_fne f32 (by decide)), (w_fne f42 (by decide)), ⟨(w_fne f82 (by decide)), ⟨t2, (w_fne f92 (by decide)), t2562, tR2⟩, ⟨x102, (w_fne f102 (by decide)), f10'2⟩, ⟨z112, (w_fne f112 (by decide)), f11'2⟩, a72, (w_fne f72 (by decide)), a7n2, a7e2⟩, (w_fne f122 (by decide)), (w_fne f132 (by decide)), (w_fne f142 (by decide)), (w_fne f152 (by decide)), (w_fne f162 (by decide)), (w_fne f172 (by decide)), (w_fat f182), (w_fne f192 (by decide)), (w_fne f202 (by decide)), (w_fne f212 (by decide)), (a_ga (by decide) e672), (by first | exact tl2 | (simp only [List.length_set]; exact tl2)), tm2, (a_ga (by decide) e682), hb2, (a_ga (by decide) e692), (by first | exact pl2 | (simp only [List.length_set]; exact pl2)), hP2, (a_ga (by decide) e702), (by first | exact cl2 | (simp only [List.length_set]; exact cl2)), hK2, (w_fne f02 (by decide)), (a_ga (by decide) e652), a12⟩
        rw [show w + ((x :: σ).length - (s_se l σ).length) = w + 1 + (σ.length - (s_se l σ).length) by rw [List.length_cons]; omega]
        exact this
      · by_cases q40 : 40 ≤ x
        · exact absurd q (by unfold s_rk; rw [if_pos q40]; exact fun e => hl0 (by omega))
        · refine w_icmp_t rfl (t := 0) rfl (by rw [show (Int32.ofNat 3) = Int32.ofNat 3 from rfl]; simp only [p_cd, decide_eq_true_eq]; exact b_ofNat_ne (by omega) (by omega) q3) ?_
          have := ih (w + 1) d _ (by omega) (by omega) (by rw [hd]; simp only [s_opn]; rw [if_neg (by omega)]; rfl) hS2'
          rw [show w + ((x :: σ).length - (s_se l σ).length) = w + 1 + (σ.length - (s_se l σ).length) by rw [List.length_cons]; omega]
          exact this
    · have es : s_se l (x :: σ) = x :: σ := by simp only [s_se]; rw [if_neg q]
      rw [es, Nat.sub_self, Nat.add_zero]
      subst hd
      exact w_icmp_t rfl (t := 75) rfl (by simp only [p_cd, decide_eq_true_eq]; rw [Int32.lt_iff_toInt_lt, g_ofNat (by omega), g_ofNat (by omega)]; omega) (w_return rfl rfl ⟨rfl, hS'⟩)
/-! constants of letters -/
theorem t_i2lN {x : Nat} (hx : x < 100000) : (Int32.ofNat x).toInt64 = Int64.ofNat x := Int32.toInt64_ofNat' (by rw [show Int32.maxValue.toInt = 2147483647 by decide]; omega)
theorem r_w2 {x y : Nat} (hx : x < 256) (hy : y < 256) : p_wp p_GT p_MT dd m_X12_w2 0 (lv_args 0 [.int (Int32.ofNat x), .int (Int32.ofNat y)]) [] h (fun v h2 => v = some (.long (Int64.ofNat (256 * x + y))) ∧ h2 = h) := by
  refine w_iload_n rfl rfl (w_i2l rfl (w_bp 8 rfl rfl (w_lshl rfl (w_iload_n rfl rfl (w_i2l rfl (w_lor rfl ?_))))))
  rw [t_i2lN (x := x) (by omega), t_shl (by omega) hy]
  exact w_lreturn rfl rfl ⟨rfl, rfl⟩
theorem r_w3 {x y z : Nat} (hx : x < 256) (hy : y < 256) (hz : z < 256) : p_wp p_GT p_MT (dd + 1) m_X12_w3 0 (lv_args 0 [.int (Int32.ofNat x), .int (Int32.ofNat y), .int (Int32.ofNat z)]) [] h (fun v h2 => v = some (.long (Int64.ofNat (256 * (256 * x + y) + z))) ∧ h2 = h) := by
  refine w_iload_n rfl rfl (w_iload_n rfl rfl (w_static (nn := 0) (dc := dd + 0) (M' := m_X12_w2) rfl rfl rfl rfl (Nat.le_refl _) (r_w2 hx hy) ?_))
  rintro v h2 ⟨rfl, rfl⟩
  refine w_bp 8 rfl rfl (w_lshl rfl (w_iload_n rfl rfl (w_i2l rfl (w_lor rfl ?_))))
  rw [t_shl (by omega) hz]
  exact w_lreturn rfl rfl ⟨rfl, rfl⟩
theorem r_w4 {x y z u : Nat} (hx : x < 256) (hy : y < 256) (hz : z < 256) (hu : u < 256) : p_wp p_GT p_MT (dd + 2) m_X12_w4 0 (lv_args 0 [.int (Int32.ofNat x), .int (Int32.ofNat y), .int (Int32.ofNat z), .int (Int32.ofNat u)]) [] h (fun v h2 => v = some (.long (Int64.ofNat (256 * (256 * (256 * x + y) + z) + u))) ∧ h2 = h) := by
  refine w_iload_n rfl rfl (w_iload_n rfl rfl (w_iload_n rfl rfl (w_static (nn := 0) (dc := dd + 1) (M' := m_X12_w3) rfl rfl rfl rfl (Nat.le_refl _) (r_w3 hx hy hz) ?_)))
  rintro v h2 ⟨rfl, rfl⟩
  refine w_bp 8 rfl rfl (w_lshl rfl (w_iload_n rfl rfl (w_i2l rfl (w_lor rfl ?_))))
  rw [t_shl (by omega) hu]
  exact w_lreturn rfl rfl ⟨rfl, rfl⟩
theorem r_w5 {x y z u s : Nat} (hx : x < 256) (hy : y < 256) (hz : z < 256) (hu : u < 256) (hs : s < 256) : p_wp p_GT p_MT (dd + 3) m_X12_w5 0 (lv_args 0 [.int (Int32.ofNat x), .int (Int32.ofNat y), .int (Int32.ofNat z), .int (Int32.ofNat u), .int (Int32.ofNat s)]) [] h (fun v h2 => v = some (.long (Int64.ofNat (256 * (256 * (256 * (256 * x + y) + z) + u) + s))) ∧ h2 = h) := by
  refine w_iload_n rfl rfl (w_iload_n rfl rfl (w_iload_n rfl rfl (w_iload_n rfl rfl (w_static (nn := 0) (dc := dd + 2) (M' := m_X12_w4) rfl rfl rfl rfl (Nat.le_refl _) (r_w4 hx hy hz hu) ?_))))
  rintro v h2 ⟨rfl, rfl⟩
  refine w_bp 8 rfl rfl (w_lshl rfl (w_iload rfl rfl (w_i2l rfl (w_lor rfl ?_))))
  rw [t_shl (by omega) hs]
  exact w_lreturn rfl rfl ⟨rfl, rfl⟩
theorem r_w6 {x y z u s t : Nat} (hx : x < 256) (hy : y < 256) (hz : z < 256) (hu : u < 256) (hs : s < 256) (ht : t < 256) : p_wp p_GT p_MT (dd + 4) m_X12_w6 0 (lv_args 0 [.int (Int32.ofNat x), .int (Int32.ofNat y), .int (Int32.ofNat z), .int (Int32.ofNat u), .int (Int32.ofNat s), .int (Int32.ofNat t)]) [] h (fun v h2 => v = some (.long (Int64.ofNat (256 * (256 * (256 * (256 * (256 * x + y) + z) + u) + s) + t))) ∧ h2 = h) := by
  refine w_iload_n rfl rfl (w_iload_n rfl rfl (w_iload_n rfl rfl (w_iload_n rfl rfl (w_iload rfl rfl (w_static (nn := 0) (dc := dd + 3) (M' := m_X12_w5) rfl rfl rfl rfl (Nat.le_refl _) (r_w5 hx hy hz hu hs) ?_)))))
  rintro v h2 ⟨rfl, rfl⟩
  refine w_bp 8 rfl rfl (w_lshl rfl (w_iload rfl rfl (w_i2l rfl (w_lor rfl ?_))))
  rw [t_shl (by omega) ht]
  exact w_lreturn rfl rfl ⟨rfl, rfl⟩
theorem t_wd_iff {k : Nat} : t_wd b n p k = true ↔ t_k b n p = 1 ∧ t_w b n p = t_Wn.getD k 0 := by
  unfold t_wd
  rw [Bool.and_eq_true]
  exact ⟨fun e => ⟨Nat.eq_of_beq_eq_true e.1, Nat.eq_of_beq_eq_true e.2⟩, fun e => ⟨by rw [e.1]; rfl, by rw [e.2, Nat.beq_refl]⟩⟩
theorem t_is_iff {c : Nat} : t_is b n p c = true ↔ t_k b n p = 3 ∧ b p = c := by
  unfold t_is
  rw [Bool.and_eq_true]
  exact ⟨fun e => ⟨Nat.eq_of_beq_eq_true e.1, Nat.eq_of_beq_eq_true e.2⟩, fun e => ⟨by rw [e.1]; rfl, by rw [e.2, Nat.beq_refl]⟩⟩
theorem t_w_le : t_w b n p ≤ 2 ^ 60 := by
  have : ∀ (j q v : Nat), q + j = n → v ≤ 2 ^ 60 → (t_lp n (fun q => t_al (b q)) (t_wst b) q v).2 ≤ 2 ^ 60 := by
    intro j
    induction j with
    | zero => intro q v hq hv; rw [t_lp_no (fun e => absurd e.1 (by omega))]; exact hv
    | succ j ih =>
      intro q v hq hv
      by_cases e : q < n ∧ t_al (b q) = true
      · rw [t_lp_go e.1 e.2]
        have e97 : b q < 256 := by
          have e2 := e.2
          unfold t_al at e2
          rw [Bool.or_eq_true, Bool.and_eq_true, Bool.and_eq_true] at e2
          rcases e2 with g | g
          · have := Nat.le_of_ble_eq_true g.2; omega
          · have := Nat.le_of_ble_eq_true g.2; omega
        refine ih _ _ (by omega) ?_
        unfold t_wst
        split <;> omega
      · rw [t_lp_no e]; exact hv
  unfold t_w t_wl
  by_cases q : p ≤ n
  · exact this (n - p) p 0 (by omega) (by decide)
  · rw [t_lp_no (fun e => absurd e.1 (by omega))]; exact Nat.zero_le _
/-- a compared word: from the state, at the sign of lcmp -/
theorem t_cmp {z : Int64} {k c : Nat} (h1 : t_k b n p = 1) (hz : t_k b n p = 1 → z = Int64.ofNat (t_w b n p)) (hc : c = t_Wn.getD k 0) (hk : k < 22) : lg_cmp z (Int64.ofNat c) = 0 ↔ t_wd b n p k = true := by
  have hw := t_Wn_b k hk
  have hl := t_w_le (b := b) (n := n) (p := p)
  rw [lg_cmp_eq, hz h1, hc, t_o64 (by omega) (by omega), t_wd_iff]
  exact ⟨fun e => ⟨h1, e⟩, fun e => e.2⟩
theorem r_isw {k c : Nat} (hS : r_S h b n p σ κ w so wh d t0 m on) (hc : c = t_Wn.getD k 0) (hk : k < 22) : p_wp p_GT p_MT dd m_X12_isWord 0 (lv_args 0 [.ref 64, .long (Int64.ofNat c)]) [] h (fun v h2 => v = some (.int (l_b (t_wd b n p k))) ∧ h2 = h) := by
  obtain ⟨fs, tv, tp, pv, cv, av, y1, e64, fl, f2, f3, f4, ⟨f8, ⟨t, f9, t256, tR⟩, ⟨x10, f10, f10'⟩, ⟨z11, f11, f11'⟩, a7, f7, a7n, a7e⟩, f12, f13, f14, f15, f16, f17, f18, f19, f20, f21, e67, tl, tm, e68, hb, e69, pl, hP, e70, cl, hK, f0, e65, a1⟩ := hS
  by_cases h1 : t_k b n p = 1
  · have e2 : t = 2 := tR.2.2.1.mpr h1
    refine w_aload_n rfl rfl (w_getf rfl rfl e64 f9 (w_ic 2 rfl rfl (w_icmp_f rfl (t := 21) rfl (by rw [e2]; decide) (w_aload_n rfl rfl (w_getf rfl rfl e64 f11 (w_lload_n rfl rfl (w_lcmp rfl ?_)))))))
    cases q : t_wd b n p k with
    | true =>
      exact w_ifc_f rfl (t := 21) rfl (by simp only [p_cd, decide_eq_false_iff_not]; exact fun e => e ((t_cmp h1 f11' hc hk).mpr q)) (w_iconst rfl (w_goto rfl (t := 22) rfl (w_ireturnb rfl rfl rfl ⟨rfl, rfl⟩)))
    | false =>
      exact w_ifc_t rfl (t := 21) rfl (by simp only [p_cd, decide_eq_true_eq]; exact fun e => absurd ((t_cmp h1 f11' hc hk).mp e) (by rw [q]; decide)) (w_iconst rfl (w_ireturnb rfl rfl rfl ⟨rfl, rfl⟩))
  · have e2 : ¬ t = 2 := fun e => h1 (tR.2.2.1.mp e)
    have q : t_wd b n p k = false := Bool.eq_false_iff.mpr (fun e => h1 (t_wd_iff.mp e).1)
    rw [q]
    exact w_aload_n rfl rfl (w_getf rfl rfl e64 f9 (w_ic 2 rfl rfl (w_icmp_t rfl (t := 21) rfl (by simp only [p_cd, decide_eq_true_eq]; exact b_ofNat_ne (by omega) (by omega) e2) (w_iconst rfl (w_ireturnb rfl rfl rfl ⟨rfl, rfl⟩)))))
/-- the number of a name -/
def s_na (b : Nat → Nat) (n p : Nat) : Int32 := if t_wd b n p 9 = true then Int32.ofNat 0 else if t_wd b n p 10 = true then Int32.ofNat 1 else if t_wd b n p 11 = true then Int32.ofNat 2 else if t_wd b n p 8 = true then Int32.ofNat 3 else if t_wd b n p 12 = true then Int32.ofNat 4 else if t_wd b n p 13 = true then Int32.ofNat 5 else if t_wd b n p 14 = true then Int32.ofNat 6 else if t_wd b n p 15 = true then Int32.ofNat 7 else Int32.ofInt (-1)
set_option maxRecDepth 100000 in
theorem r_name (hS : r_S h b n p σ κ w so wh d t0 m on) : p_wp p_GT p_MT (dd + 5) m_X12_nameOf 0 (lv_args 0 [.ref 64]) [] h (fun v h2 => v = some (.int (s_na b n p)) ∧ h2 = h) := by
  obtain ⟨fs, tv, tp, pv, cv, av, y1, e64, fl, f2, f3, f4, ⟨f8, ⟨t, f9, t256, tR⟩, ⟨x10, f10, f10'⟩, ⟨z11, f11, f11'⟩, a7, f7, a7n, a7e⟩, f12, f13, f14, f15, f16, f17, f18, f19, f20, f21, e67, tl, tm, e68, hb, e69, pl, hP, e70, cl, hK, f0, e65, a1⟩ := hS
  unfold s_na
  by_cases h1 : t_k b n p = 1
  · have e2 : t = 2 := tR.2.2.1.mpr h1
    refine w_aload_n rfl rfl (w_getf rfl rfl e64 f9 (w_ic 2 rfl rfl (w_icmp_t rfl (t := 10) rfl (by rw [e2]; decide) (w_aload_n rfl rfl (w_getf rfl rfl e64 f11 (w_bp 100 rfl rfl (w_bp 97 rfl rfl (w_bp 121 rfl rfl (w_static (nn := 0) (dc := dd + 4) (M' := m_X12_w3) rfl rfl rfl rfl (Nat.le_refl _) ((r_w3 (dd := dd) (by decide) (by decide) (by decide)).mono (by omega) (fun _ _ q => q)) ?_)))))))))
    rintro v h2 ⟨rfl, rfl⟩
    refine w_lcmp rfl ?_
    by_cases q0 : t_wd b n p 9 = true
    · rw [if_pos q0]
      exact w_ifc_f rfl (t := 29) rfl (by simp only [p_cd, decide_eq_false_iff_not]; exact fun e => e ((t_cmp (k := 9) h1 f11' (by decide) (by decide)).mpr q0)) (w_ic 0 rfl rfl (w_ireturn rfl rfl ⟨rfl, rfl⟩))
    · rw [if_neg q0]
      refine w_ifc_t rfl (t := 29) rfl (by simp only [p_cd, decide_eq_true_eq]; exact fun e => q0 ((t_cmp (k := 9) h1 f11' (by decide) (by decide)).mp e)) (w_aload_n rfl rfl (w_getf rfl rfl e64 f11 (w_bp 104 rfl rfl (w_bp 101 rfl rfl (w_bp 97 rfl rfl (w_bp 116 rfl rfl (w_static (nn := 0) (dc := dd + 4) (M' := m_X12_w4) rfl rfl rfl rfl (Nat.le_refl _) ((r_w4 (dd := dd) (by decide) (by decide) (by decide) (by decide)).mono (by omega) (fun _ _ q => q)) ?_)))))))
      rintro v h2 ⟨rfl, rfl⟩
      refine w_lcmp rfl ?_
      by_cases q1 : t_wd b n p 10 = true
      · rw [if_pos q1]
        exact w_ifc_f rfl (t := 50) rfl (by simp only [p_cd, decide_eq_false_iff_not]; exact fun e => e ((t_cmp (k := 10) h1 f11' (by decide) (by decide)).mpr q1)) (w_ic 1 rfl rfl (w_ireturn rfl rfl ⟨rfl, rfl⟩))
      · rw [if_neg q1]
        refine w_ifc_t rfl (t := 50) rfl (by simp only [p_cd, decide_eq_true_eq]; exact fun e => q1 ((t_cmp (k := 10) h1 f11' (by decide) (by decide)).mp e)) (w_aload_n rfl rfl (w_getf rfl rfl e64 f11 (w_bp 115 rfl rfl (w_bp 105 rfl rfl (w_bp 122 rfl rfl (w_bp 101 rfl rfl (w_static (nn := 0) (dc := dd + 4) (M' := m_X12_w4) rfl rfl rfl rfl (Nat.le_refl _) ((r_w4 (dd := dd) (by decide) (by decide) (by decide) (by decide)).mono (by omega) (fun _ _ q => q)) ?_)))))))
        rintro v h2 ⟨rfl, rfl⟩
        refine w_lcmp rfl ?_
        by_cases q2 : t_wd b n p 11 = true
        · rw [if_pos q2]
          exact w_ifc_f rfl (t := 71) rfl (by simp only [p_cd, decide_eq_false_iff_not]; exact fun e => e ((t_cmp (k := 11) h1 f11' (by decide) (by decide)).mpr q2)) (w_ic 2 rfl rfl (w_ireturn rfl rfl ⟨rfl, rfl⟩))
        · rw [if_neg q2]
          refine w_ifc_t rfl (t := 71) rfl (by simp only [p_cd, decide_eq_true_eq]; exact fun e => q2 ((t_cmp (k := 11) h1 f11' (by decide) (by decide)).mp e)) (w_aload_n rfl rfl (w_getf rfl rfl e64 f11 (w_bp 115 rfl rfl (w_bp 116 rfl rfl (w_bp 114 rfl rfl (w_bp 97 rfl rfl (w_bp 119 rfl rfl (w_static (nn := 0) (dc := dd + 4) (M' := m_X12_w5) rfl rfl rfl rfl (Nat.le_refl _) ((r_w5 (dd := dd) (by decide) (by decide) (by decide) (by decide) (by decide)).mono (by omega) (fun _ _ q => q)) ?_))))))))
          rintro v h2 ⟨rfl, rfl⟩
          refine w_lcmp rfl ?_
          by_cases q3 : t_wd b n p 8 = true
          · rw [if_pos q3]
            exact w_ifc_f rfl (t := 94) rfl (by simp only [p_cd, decide_eq_false_iff_not]; exact fun e => e ((t_cmp (k := 8) h1 f11' (by decide) (by decide)).mpr q3)) (w_ic 3 rfl rfl (w_ireturn rfl rfl ⟨rfl, rfl⟩))
          · rw [if_neg q3]
            refine w_ifc_t rfl (t := 94) rfl (by simp only [p_cd, decide_eq_true_eq]; exact fun e => q3 ((t_cmp (k := 8) h1 f11' (by decide) (by decide)).mp e)) (w_aload_n rfl rfl (w_getf rfl rfl e64 f11 (w_bp 109 rfl rfl (w_bp 101 rfl rfl (w_bp 108 rfl rfl (w_bp 116 rfl rfl (w_bp 101 rfl rfl (w_bp 100 rfl rfl (w_static (nn := 0) (dc := dd + 4) (M' := m_X12_w6) rfl rfl rfl rfl (Nat.le_refl _) ((r_w6 (dd := dd) (by decide) (by decide) (by decide) (by decide) (by decide) (by decide)).mono (by omega) (fun _ _ q => q)) ?_)))))))))
            rintro v h2 ⟨rfl, rfl⟩
            refine w_lcmp rfl ?_
            by_cases q4 : t_wd b n p 12 = true
            · rw [if_pos q4]
              exact w_ifc_f rfl (t := 119) rfl (by simp only [p_cd, decide_eq_false_iff_not]; exact fun e => e ((t_cmp (k := 12) h1 f11' (by decide) (by decide)).mpr q4)) (w_ic 4 rfl rfl (w_ireturn rfl rfl ⟨rfl, rfl⟩))
            · rw [if_neg q4]
              refine w_ifc_t rfl (t := 119) rfl (by simp only [p_cd, decide_eq_true_eq]; exact fun e => q4 ((t_cmp (k := 12) h1 f11' (by decide) (by decide)).mp e)) (w_aload_n rfl rfl (w_getf rfl rfl e64 f11 (w_bp 101 rfl rfl (w_bp 100 rfl rfl (w_bp 103 rfl rfl (w_bp 101 rfl rfl (w_static (nn := 0) (dc := dd + 4) (M' := m_X12_w4) rfl rfl rfl rfl (Nat.le_refl _) ((r_w4 (dd := dd) (by decide) (by decide) (by decide) (by decide)).mono (by omega) (fun _ _ q => q)) ?_)))))))
              rintro v h2 ⟨rfl, rfl⟩
              refine w_lcmp rfl ?_
              by_cases q5 : t_wd b n p 13 = true
              · rw [if_pos q5]
                exact w_ifc_f rfl (t := 140) rfl (by simp only [p_cd, decide_eq_false_iff_not]; exact fun e => e ((t_cmp (k := 13) h1 f11' (by decide) (by decide)).mpr q5)) (w_ic 5 rfl rfl (w_ireturn rfl rfl ⟨rfl, rfl⟩))
              · rw [if_neg q5]
                refine w_ifc_t rfl (t := 140) rfl (by simp only [p_cd, decide_eq_true_eq]; exact fun e => q5 ((t_cmp (k := 13) h1 f11' (by decide) (by decide)).mp e)) (w_aload_n rfl rfl (w_getf rfl rfl e64 f11 (w_bp 115 rfl rfl (w_bp 105 rfl rfl (w_bp 103 rfl rfl (w_bp 104 rfl rfl (w_bp 116 rfl rfl (w_bp 115 rfl rfl (w_static (nn := 0) (dc := dd + 4) (M' := m_X12_w6) rfl rfl rfl rfl (Nat.le_refl _) ((r_w6 (dd := dd) (by decide) (by decide) (by decide) (by decide) (by decide) (by decide)).mono (by omega) (fun _ _ q => q)) ?_)))))))))
                rintro v h2 ⟨rfl, rfl⟩
                refine w_lcmp rfl ?_
                by_cases q6 : t_wd b n p 14 = true
                · rw [if_pos q6]
                  exact w_ifc_f rfl (t := 168) rfl (by simp only [p_cd, decide_eq_false_iff_not]; exact fun e => e ((t_cmp (k := 14) h1 f11' (by decide) (by decide)).mpr q6)) (w_bp 6 rfl rfl (w_goto rfl (t := 195) rfl (w_ireturn rfl rfl ⟨rfl, rfl⟩)))
                · rw [if_neg q6]
                  refine w_ifc_t rfl (t := 168) rfl (by simp only [p_cd, decide_eq_true_eq]; exact fun e => q6 ((t_cmp (k := 14) h1 f11' (by decide) (by decide)).mp e)) (w_aload_n rfl rfl (w_getf rfl rfl e64 f11 (w_bp 107 rfl rfl (w_bp 105 rfl rfl (w_bp 110 rfl rfl (w_bp 100 rfl rfl (w_bp 115 rfl rfl (w_static (nn := 0) (dc := dd + 4) (M' := m_X12_w5) rfl rfl rfl rfl (Nat.le_refl _) ((r_w5 (dd := dd) (by decide) (by decide) (by decide) (by decide) (by decide)).mono (by omega) (fun _ _ q => q)) ?_))))))))
                  rintro v h2 ⟨rfl, rfl⟩
                  refine w_lcmp rfl ?_
                  by_cases q7 : t_wd b n p 15 = true
                  · rw [if_pos q7]
                    exact w_ifc_f rfl (t := 194) rfl (by simp only [p_cd, decide_eq_false_iff_not]; exact fun e => e ((t_cmp (k := 15) h1 f11' (by decide) (by decide)).mpr q7)) (w_bp 7 rfl rfl (w_goto rfl (t := 195) rfl (w_ireturn rfl rfl ⟨rfl, rfl⟩)))
                  · rw [if_neg q7]
                    exact w_ifc_t rfl (t := 194) rfl (by simp only [p_cd, decide_eq_true_eq]; exact fun e => q7 ((t_cmp (k := 15) h1 f11' (by decide) (by decide)).mp e)) (w_iconst rfl (w_ireturn rfl rfl ⟨rfl, rfl⟩))
  · have e2 : ¬ t = 2 := fun e => h1 (tR.2.2.1.mp e)
    have q : ∀ k, ¬ t_wd b n p k = true := fun k e => h1 (t_wd_iff.mp e).1
    rw [if_neg (q _), if_neg (q _), if_neg (q _), if_neg (q _), if_neg (q _), if_neg (q _), if_neg (q _), if_neg (q _)]
    exact w_aload_n rfl rfl (w_getf rfl rfl e64 f9 (w_ic 2 rfl rfl (w_icmp_f rfl (t := 10) rfl (by simp only [p_cd, decide_eq_false_iff_not]; exact b_ofNat_ne (by omega) (by omega) e2) (w_iconst rfl (w_ireturn rfl rfl ⟨rfl, rfl⟩)))))
end RSS

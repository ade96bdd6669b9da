/-! The script is read; the loop -/
section GSC
variable {M : p_M} {pc : Nat}
theorem g_loadS {G : p_G} {MT : List p_M} {d : Nat} {ls : p_Ls} {rest : List Value} {h : p_H} {Q : Option Value → p_H → Prop} {a : Nat} {x : Int32} {vs : List Value} {v : Value} (hat : p_at pc M.2.2.2.2.1 = some (.iaload, 1)) (hc : h[a]? = some (2, 0, vs)) (hx : ¬ x < 0) (hv : vs[x.toNatClampNeg]? = some v) (hk : p_wp G MT d M (pc + 1) ls (v :: rest) h Q) : p_wp G MT d M pc ls (.int x :: .ref a :: rest) h Q := by
  refine p_wp.step hat ?_ hk
  simp only [p_step, p_al, hc, p_ix, if_neg hx, hv]
  rfl
theorem g_slen {τ : Nat → Option Nat} {r : Nat → Int} {n : Nat} {h : p_H} {e' : q_E} {vs : List Value} (hm : x_m x_EE τ r n h (([], 0), 0, 1000000, (1, 0, e'))) (hc : h[0]? = some (2, 0, vs)) : (vs.length : Int) = q_e r e' := by
  obtain ⟨i, c, e1, -, e3, e4⟩ := hm.plc (show (1000000 : Nat) < x_gho by decide)
  have e1 : (i : Int) = q_e r ([], 0) := e1
  simp only [q_e, q_ev] at e1
  have : i = 0 := by omega
  subst this
  rw [if_pos (show 1000000 = x_len from rfl)] at e4
  have ec : c = (2, 0, vs) := Option.some.inj (e3.symm.trans hc)
  subst ec
  exact e4.2.2
theorem g_lk0 {j : Nat} : g_lk 14 0 j = Nat.ble j 3583 := by
  have e : g_lk 14 0 j = (Nat.ble j 3583 || false) := rfl
  rw [e]; cases Nat.ble j 3583 <;> rfl
theorem hr_script (hat : p_at pc M.2.2.2.2.1 = some (.iaload, 1)) : x_HoldR p_GT p_MT x_EE M pc 1 cr_script := by
  intro τ r h as rest ls d Q hH hA hF hM hK
  obtain ⟨a, V, rfl, ha, hA⟩ := x_t3 (show x_vs τ r 2 [(3, 0, ([], ((0 : Nat) : Int))), (1, 0, ([(0, 1)], 0))] as from hA)
  obtain ⟨x, V', rfl, -, hx, hA⟩ := x_t1 hA
  rw [g_nil hA]
  obtain ⟨rfl, ht⟩ := g_ref ha
  rw [g_v] at hx
  obtain ⟨vs, hc, l1, l2, hf, -⟩ := g_cell hH ht (show x_KL[0]? = some _ from rfl)
  have h0 : 0 ≤ r 0 ∧ r 0 ≤ 3583 := g_get hF.1 0 rfl
  have f1 : 0 ≤ q_e r ([(0, -1), (1, 1)], -1) := g_get hF.2.1 0 rfl
  simp only [q_e, q_ev] at f1
  have hL := g_slen (e' := ([(1, 1)], 0)) (g_get hM 0 rfl) hc
  rw [g_v] at hL
  have h80 := g_80 (g_get hM 1 rfl)
  have hl : x.toNatClampNeg < vs.length := by rw [x_clamp]; omega
  obtain ⟨y, hy⟩ := g_int rfl rfl hf hl
  refine g_loadS hat hc (g_nn hx h0.1) hy (hK (some (.int y)) h ⟨τ, x_up r 2 y.toInt, g_J0 hH _, _, List.mem_cons_self, Nat.le_refl _, Nat.le_refl _, fun i hi => x_up_lt i hi, ⟨g_io (by rw [x_up_at]; exact x_I32 y) g_io0, g_n, g_n⟩, ⟨g_wl rfl, y, rfl, by rw [g_v, x_up_at]⟩, g_c (g_mk 14 rfl (g_wl rfl) (g_wl rfl) rfl h80 ?_) g_n⟩)
  show g_ms 14 h 0 (q_e (x_up r 2 y.toInt) ([(0, 1)], 0)).toNat = q_e (x_up r 2 y.toInt) ([(2, 1)], 0)
  rw [g_v, g_v, x_up_at, x_up_lt 0 (by decide), g_ms_at (by rw [g_lk0]; exact Nat.ble_eq_true_of_le (by omega)), g_vs_at hc]
  exact g_at_int (by rw [← hx]; exact hy)
theorem hr_scriptK (hat : p_at pc M.2.2.2.2.1 = some (.iaload, 1)) : x_HoldR p_GT p_MT x_EE M pc 1 cr_scriptK := by
  intro τ r h as rest ls d Q hH hA hF hM hK
  obtain ⟨a, V, rfl, ha, hA⟩ := x_t3 (show x_vs τ r 3 [(3, 0, ([], ((0 : Nat) : Int))), (1, 0, ([(0, 1)], 0))] as from hA)
  obtain ⟨x, V', rfl, -, hx, hA⟩ := x_t1 hA
  rw [g_nil hA]
  obtain ⟨rfl, ht⟩ := g_ref ha
  rw [g_v] at hx
  obtain ⟨vs, hc, l1, l2, hf, -⟩ := g_cell hH ht (show x_KL[0]? = some _ from rfl)
  have h0 : 0 ≤ r 0 ∧ r 0 ≤ 3583 := g_get hF.1 0 rfl
  have f1 : 0 ≤ q_e r ([(0, -1), (2, 1)], -1) := g_get hF.2.1 0 rfl
  simp only [q_e, q_ev] at f1
  have hL := g_slen (e' := ([(2, 1)], 0)) (g_get hM 1 rfl) hc
  rw [g_v] at hL
  have hl : x.toNatClampNeg < vs.length := by rw [x_clamp]; omega
  obtain ⟨y, hy⟩ := g_int rfl rfl hf hl
  obtain ⟨-, hg⟩ := g_gho (g_get hM 0 rfl) 14 rfl
  have hg : g_ms 14 h 0 (q_e r ([(0, 1)], 0)).toNat = q_e r ([(1, 1)], 0) := hg
  rw [g_v, g_v, g_ms_at (by rw [g_lk0]; exact Nat.ble_eq_true_of_le (by omega)), g_vs_at hc, show g_at _ _ = _ from g_at_int (x := y) (by rw [← hx]; exact hy)] at hg
  exact g_loadS hat hc (g_nn hx h0.1) hy (hK (some (.int y)) h ⟨τ, r, g_J0 hH _, _, List.mem_cons_self, Nat.le_refl _, Nat.le_refl _, fun _ _ => rfl, g_F0, ⟨g_wl rfl, y, rfl, by rw [g_v]; exact hg⟩, g_n⟩)
end GSC
section XLO
variable {E : x_E} {τ : Nat → Option Nat} {r : Nat → Int} {h : p_H} {G : p_G} {MT : List p_M} {M : p_M} {D : List x_C} {C : x_C} {U : List x_U} {Y : x_Y}
theorem x_loop_ok (hEO : x_EO E) (hKO : x_KO E) (hD : ∀ d ∈ D, x_OK G MT E d) (hY : ∀ q ∈ Y.2, ∀ d ∈ q.2.2.2, x_HoldR G MT E M q.1 q.2.2.1 d) (hU : ∀ T ∈ U, x_wU C.2.1 T = true) {k : Nat} (hg : ∀ T ∈ U, x_ex E.1 G MT M D C U Y (some T.2.2.2.2.2.2.2) k true (T.1, x_hd T) = true) : ∀ (z : Nat), ∀ T ∈ U, ∀ (τ1 : Nat → Option Nat) (r1 : Nat → Int) (h1 : p_H) (ls : p_Ls) (st : List Value), x_J E C.2.2.2.2.2.1 τ h τ1 h1 → x_O E τ1 r1 h h1 ls st (x_hd T) → (∀ i, i < C.2.1 → r1 i = r i) → 0 ≤ q_e r1 T.2.2.2.2.2.2.2 → q_e r1 T.2.2.2.2.2.2.2 < z → p_wp G MT C.2.2.2.2.2.2.1 M T.1 ls st h1 (x_Post E C τ r h) := by
  intro z
  induction z with
  | zero => intro T _ τ1 r1 h1 ls st _ _ _ a b; exact absurd b (by omega)
  | succ z ihz =>
    intro T hT τ1 r1 h1 ls st hJ hO hr hp hz
    have wT := hU T hT
    simp only [x_wU, Bool.and_eq_true] at wT
    refine x_ex_ok (mu := some T.2.2.2.2.2.2.2) (z := q_e r1 T.2.2.2.2.2.2.2) hEO hKO (fun d hd => (hD d hd).1) (fun d hd => (hD d hd).2) hY hU ?_ k true T.1 (x_hd T) τ1 r1 h1 ls st (hg T hT) hJ hO hr (Nat.le_of_ble_eq_true wT.1.1.1.1.1.1) ?_
    · intro T' hT' τ2 r2 h2 ls2 st2 a1 a2 a3 a4 a5
      have := a5 rfl
      exact ihz T' hT' τ2 r2 h2 ls2 st2 a1 a2 a3 a4 (by omega)
    · intro e he
      cases he
      exact ⟨x_wl_ok wT.2, rfl⟩
end XLO

/-! emit by hand -/
section GEM
variable {G : p_G} {MT : List p_M} {d : Nat} {M : p_M} {pc l : Nat} {ls : p_Ls} {st : List Value} {h : p_H} {Q : Option Value → p_H → Prop} {k a b : Nat} {τ : Nat → Option Nat} {r : Nat → Int} {vs : List Value}
theorem w_dup {v : Value} (hat : p_at pc M.2.2.2.2.1 = some (.dup, l)) (hv : v.category = 1) (hk : p_wp G MT d M (pc + 1) ls (v :: v :: st) h Q) : p_wp G MT d M pc ls (v :: st) h Q :=
  p_wp.step hat (by simp only [p_step, if_pos hv]; rfl) hk
theorem w_st {n : Nat} {y : Int32} (hat : p_at pc M.2.2.2.2.1 = some (.iastore, 1)) (hc : h[a]? = some (1, 0, vs)) (hn : n < 100000) (hl : n < vs.length) (hk : p_wp G MT d M (pc + 1) ls st (h.set a (1, 0, vs.set n (.int y))) Q) : p_wp G MT d M pc ls (.int y :: .int (Int32.ofNat n) :: .ref a :: st) h Q :=
  g_store hat hc (g_nl hn) (by rw [g_ncl hn]; exact hl) (by rw [g_ncl hn]; exact hk)
theorem w_putf {X ci : Nat} {f : Int} {v : Value} {ty : FieldType} (hat : p_at pc M.2.2.2.2.1 = some (.putfield X, l)) (hp : p_pk X 0 M.2.2.2.2.2.1 = some (ci, f)) (hc : h[a]? = some (0, ci, vs)) (hG : (G[ci]?).bind (fun r => r[f.toNat]?) = some (ty, false)) (hfit : p_fit ty v = true) (hl : f.toNat < vs.length) (hk : p_wp G MT d M (pc + 3) ls st (h.set a (0, ci, vs.set f.toNat v)) Q) : p_wp G MT d M pc ls (v :: .ref a :: st) h Q := by
  refine p_wp.step hat ?_ hk
  have hb : Nat.blt f.toNat vs.length = true := Nat.ble_eq_true_of_le hl
  simp only [p_step, p_putf, hp, hc, Nat.beq_refl, if_true, hG, hfit, hb, Bool.not_false, Bool.true_or, Bool.and_self]
  rfl
theorem g_fldv {n j : Nat} {e' : q_E} (hm : x_m x_EE τ r n h (([], 64), 64, j, (1, 0, e'))) (hj : j < 1000000) (hc : h[64]? = some (0, 12, vs)) : ∃ x : Int32, vs[j]? = some (.int x) ∧ x.toInt = q_e r e' := by
  obtain ⟨i, c, e1, -, e3, e4⟩ := hm.plc (show j < 1000001 by omega)
  have e1 : (i : Int) = q_e r ([], 64) := e1
  simp only [q_e, q_ev] at e1
  have : i = 64 := by omega
  subst this
  rw [if_neg (show ¬ j = x_len by unfold x_len; omega)] at e4
  obtain ⟨v, e5, -, x, e6, e7⟩ := e4
  have ec : c = (0, 12, vs) := Option.some.inj (e3.symm.trans hc)
  subst ec
  exact ⟨x, by rw [show vs[j]? = some v from e5]; exact congrArg some e6, e7⟩
theorem g_mkf {n j : Nat} {e' : q_E} {x : Int32} (ht : τ 64 = some 64) (hj : j < 1000000) (hc : h[64]? = some (0, 12, vs)) (hx : vs[j]? = some (.int x)) (w2 : q_wl n e'.1) (he : x.toInt = q_e r e') : x_m x_EE τ r n h (([], 64), 64, j, (1, 0, e')) := by
  refine x_m.mkp q_wl_nil (show j < 1000001 by omega) ⟨64, _, by simp [q_e, q_ev], ht, hc, ?_⟩
  rw [if_neg (show ¬ j = x_len by unfold x_len; omega)]
  exact ⟨.int x, hx, w2, x, rfl, he⟩
theorem g_J67e {f : x_F} (hH : x_H x_EE τ h) (ht : τ 67 = some 67) {vs : List Value} (hc : h[67]? = some (1, 0, vs)) (hl : vs.length = 3108) {j lo hi : Nat} {y : Int32} (hj : j < 3108) (hcov : x_cov f 67 lo hi = true) (hlo : lo ≤ j) (hhi : j ≤ hi) (hy : j % 777 = 0 → 0 ≤ y.toInt ∧ y.toInt ≤ 24) (hW : g_TW (fun i => if i = j then y.toInt else g_Q h i)) : x_J x_EE f τ h τ (h.set 67 (1, 0, vs.set j (.int y))) ∧ g_Q (h.set 67 (1, 0, vs.set j (.int y))) = (fun i => if i = j then y.toInt else g_Q h i) := by
  obtain ⟨hJ, eQ⟩ := g_J67 hH ht hc hl hj hy hW
  exact ⟨⟨hJ.1, hJ.2.1, hJ.2.2.1, x_ef.sets x_ef_refl (fun _ _ q => Or.inl q) (c := (1, 0, vs)) (lo := lo) (hi := hi) ht hc (by simp) (x_set1 hlo hhi) hcov⟩, eQ⟩
theorem g_sim_le {QQ : Nat → Int} {T f : Nat} : ∀ k, g_sim QQ T f k ≤ k := by
  intro k
  induction k with
  | zero => exact Int.le_refl _
  | succ k ih =>
    simp only [g_sim]
    have : ((k + 1 : Nat) : Int) = k + 1 := by push_cast; rfl
    split
    · omega
    · split
      · omega
      · split
        · omega
        · split
          · omega
          · split
            · omega
            · split <;> omega
theorem g_TW_em {QQ : Nat → Int} {T w c : Nat} {y : Int} (hT : g_T4 T) (hW : g_TW QQ) (h24 : ∀ t, t < 4 → 0 ≤ QQ (777 * t) ∧ QQ (777 * t) ≤ 24) (hge : g_end QQ T (QQ T).toNat ≤ w) (h1 : 169 + 2 * w ≤ c) (h2 : c ≤ 776) : g_TW (fun i => if i = T + c then y else QQ i) := by
  refine g_TW_upd hT hW h24 (fun i hi => if_neg (by omega)) (fun m hm => ?_)
  obtain ⟨t0, ht0, rfl⟩ := g_T4_ex hT
  simp only [if_neg (show ¬ 777 * t0 = 777 * t0 + c by omega)] at hm
  have b := h24 t0 ht0
  refine g_law_congr (fun i hi => if_neg (by omega)) (fun a1 a2 a3 i b1 b2 => if_neg ?_) (hW t0 ht0 m hm)
  have := g_end_ge (Q := QQ) (T := 777 * t0) (m := m) a1 a2 (QQ (777 * t0)).toNat (by omega)
  omega
theorem g_emit (hH : x_H x_EE τ h) (ht : τ 64 = some 64) {T w : Nat} {vs : List Value} (hc : h[64]? = some (0, 12, vs)) (h12 : vs[12]? = some (.int (Int32.ofNat T))) (h13 : vs[13]? = some (.int (Int32.ofNat w))) (hw : w ≤ 302) {N N' : Int} (hC : g_CT (g_Q h) T w = N) (hN : 0 ≤ N) {op v : Int32} (hN' : 0 ≤ N')
    (hst : (op.toInt = 0 ∧ N' = N + 1) ∨ (op.toInt = 1 ∧ 0 ≤ v.toInt ∧ v.toInt ≤ 7 ∧ N' = N + 1) ∨ (op.toInt = 2 ∧ 1 ≤ v.toInt ∧ v.toInt + 1 ≤ N ∧ N' = N - v.toInt) ∨ (op.toInt = 3 ∧ 1 ≤ N ∧ N' = N) ∨ (4 ≤ op.toInt ∧ op.toInt ≤ 7 ∧ 2 ≤ N ∧ N' = N - 1))
    (hP : ∀ h' vs', x_J x_EE [(67, 169, 3107), (64, 13, 13)] τ h τ h' → h'.length = h.length → p_sl h' = p_sl h → h'[64]? = some (0, 12, vs') → vs'[12]? = some (.int (Int32.ofNat T)) → vs'[13]? = some (.int (Int32.ofNat (w + 1))) → g_Q h' T = g_Q h T → g_CT (g_Q h') T ((w + 1 : Nat) : Int) = N' → N ≤ w → Q none h') : p_wp p_GT p_MT d m_X12_emit 0 (lv_args 0 [.ref 64, .int op, .int v]) [] h Q := by
  obtain ⟨vs0, hc0, f0, f2, t65, t67⟩ := g_f64a hH ht
  have ev : vs0 = vs := by
    have := hc0.symm.trans hc
    simp only [Option.some.injEq, Prod.mk.injEq, true_and] at this
    exact this
  subst ev
  obtain ⟨vsl, hcl, hl31, -⟩ := g_f64 hH ht
  have evl : vsl = vs0 := by
    have := hcl.symm.trans hc
    simp only [Option.some.injEq, Prod.mk.injEq, true_and] at this
    exact this
  subst evl
  obtain ⟨qs, hq, lq, hqv, h24, hW⟩ := g_H67 hH t67
  obtain ⟨hT4, c1, c2, c3, c4, c5, c6⟩ := g_CT_in (show 0 ≤ g_CT (g_Q h) T w by omega)
  have hT3 : T ≤ 2331 := by unfold g_T4 at hT4; omega
  have e0 := g_end_0 (Q := g_Q h) (T := T) (g_Q h T).toNat
  have hlen67 : 67 < h.length := (List.getElem?_eq_some_iff.mp hq).1
  have hlen64 : 64 < h.length := (List.getElem?_eq_some_iff.mp hc).1
  obtain ⟨hJ1, eQ1⟩ := g_J67e (f := [(67, 169, 3107), (64, 13, 13)]) hH t67 hq lq (j := T + (169 + 2 * w)) (lo := 169) (hi := 3107) (y := op) (by omega) rfl (by omega) (by omega) (fun q => by unfold g_T4 at hT4; omega) (g_TW_em hT4 hW h24 (w := w) (by omega) (Nat.le_refl _) (by omega))
  obtain ⟨h1, hh1⟩ : ∃ h1, h1 = h.set 67 (1, 0, qs.set (T + (169 + 2 * w)) (.int op)) := ⟨_, rfl⟩
  rw [← hh1] at hJ1 eQ1
  obtain ⟨qs1, hq1, lq1, hqv1, h241, hW1⟩ := g_H67 hJ1.2.2.1 t67
  have hqs1 : qs1 = qs.set (T + (169 + 2 * w)) (.int op) := by
    rw [hh1, List.getElem?_set_self hlen67] at hq1
    simp only [Option.some.injEq, Prod.mk.injEq, true_and] at hq1
    exact hq1.symm
  have k0 : g_Q h1 T = g_Q h T := by rw [eQ1]; simp only; rw [if_neg (by omega)]
  have kend : g_end (g_Q h1) T (g_Q h T).toNat = g_end (g_Q h) T (g_Q h T).toNat := by
    rw [eQ1]; exact g_end_congr _ (fun m hm => ⟨if_neg (by omega), if_neg (by omega)⟩)
  obtain ⟨hJ2, eQ2⟩ := g_J67e (f := [(67, 169, 3107), (64, 13, 13)]) hJ1.2.2.1 t67 hq1 lq1 (j := T + (169 + 2 * w + 1)) (lo := 169) (hi := 3107) (y := v) (by omega) rfl (by omega) (by omega) (fun q => by unfold g_T4 at hT4; omega) (g_TW_em hT4 hW1 h241 (w := w) (by rw [k0, kend]; omega) (by omega) (by omega))
  obtain ⟨h2, hh2⟩ : ∃ h2, h2 = h1.set 67 (1, 0, qs1.set (T + (169 + 2 * w + 1)) (.int v)) := ⟨_, rfl⟩
  rw [← hh2] at hJ2 eQ2
  have c64 : h1[64]? = some (0, 12, vsl) := by rw [hh1, List.getElem?_set_ne (by decide)]; exact hc
  have c642 : h2[64]? = some (0, 12, vsl) := by rw [hh2, List.getElem?_set_ne (by decide)]; exact c64
  have hJ12 := x_J_trans hJ1 hJ2 (by decide)
  have hJ3 := hJ12.put x_EE_EO (i := 64) (k := 64) (j := 13) (lo := 13) (hi := 13) (v := .int (Int32.ofNat (w + 1))) ht c642 (show x_KL[64]? = some _ from rfl) (show x_fo τ (1, 0, 0, 303) _ from ⟨_, rfl, by rw [g_ofNat (by omega)]; show (0 : Int) ≤ _; omega, by rw [g_ofNat (by omega)]; show _ ≤ (303 : Int); push_cast; omega⟩) rfl rfl (Nat.le_refl _) (Nat.le_refl _)
  obtain ⟨h3, hh3⟩ : ∃ h3, h3 = h2.set 64 (0, 12, vsl.set 13 (.int (Int32.ofNat (w + 1)))) := ⟨_, rfl⟩
  have hlen2 : 64 < h2.length := (List.getElem?_eq_some_iff.mp c642).1
  have eQ3 : g_Q h3 = g_Q h2 := by
    funext j; simp only [g_Q]; rw [hh3, g_vs_set_ne (by decide)]
  -- the step
  have s0 : g_Q h3 T = g_Q h T := by rw [eQ3, eQ2]; simp only; rw [if_neg (by omega)]; exact k0
  have s1 : g_Q h3 (T + 169 + 2 * w) = op.toInt := by
    rw [eQ3, eQ2]; simp only; rw [if_neg (by omega), eQ1]; simp only; rw [if_pos (by omega)]
  have s2 : g_Q h3 (T + 169 + 2 * w + 1) = v.toInt := by
    rw [eQ3, eQ2]; simp only; rw [if_pos (by omega)]
  have s3 : ∀ i, i < T + 169 + 2 * w → g_Q h3 i = g_Q h i := by
    intro i hi
    rw [eQ3, eQ2]; simp only; rw [if_neg (by omega), eQ1]; simp only; rw [if_neg (by omega)]
  obtain ⟨f, hf⟩ : ∃ f : Nat, g_Q h (T + 7 * (g_Q h T).toNat + 2) = f := ⟨(g_Q h (T + 7 * (g_Q h T).toNat + 2)).toNat, by omega⟩
  rw [hf] at c3 c4 c6
  rw [Int.toNat_natCast, Int.toNat_natCast] at c6
  have sf : g_Q h3 (T + 7 * (g_Q h T).toNat + 2) = f := by rw [s3 _ (by omega)]; exact hf
  have ss : g_sim (g_Q h3) T f (w - f) = N := by
    rw [g_sim_congr (Q := g_Q h)]
    · rw [← c6]; exact hC
    · intro i hi; exact ⟨s3 _ (by omega), s3 _ (by omega)⟩
  have hNw := g_sim_le (QQ := g_Q h3) (T := T) (f := f) (w - f)
  have send : g_end (g_Q h3) T (g_Q h T).toNat = g_end (g_Q h) T (g_Q h T).toNat := g_end_congr _ (fun m hm => ⟨s3 _ (by omega), s3 _ (by omega)⟩)
  have sC : g_CT (g_Q h3) T ((w + 1 : Nat) : Int) = N' := by
    simp only [g_CT, s0, sf, send]
    rw [if_pos ⟨hT4, c1, c2, c3, by push_cast; omega, by push_cast; omega⟩, Int.toNat_natCast, Int.toNat_natCast, show w + 1 - f = (w - f) + 1 by omega]
    simp only [g_sim, ss]
    rw [show f + (w - f) = w by omega, s1, s2, if_neg (by omega)]
    rcases hst with ⟨a1, a2⟩ | ⟨a1, a2, a3, a4⟩ | ⟨a1, a2, a3, a4⟩ | ⟨a1, a2, a3⟩ | ⟨a1, a2, a3, a4⟩
    · rw [if_pos a1]; omega
    · rw [if_neg (by omega), if_pos ⟨a1, a2, a3⟩]; omega
    · rw [if_neg (by omega), if_neg (by omega), if_pos ⟨a1, a2, a3⟩]; omega
    · rw [if_neg (by omega), if_neg (by omega), if_neg (by omega), if_pos ⟨a1, a2⟩]; omega
    · rw [if_neg (by omega), if_neg (by omega), if_neg (by omega), if_neg (by omega), if_pos ⟨a1, a2, a3⟩]; omega
  -- the run
  refine w_aload_n rfl rfl (w_getf rfl rfl hc f2 (w_aload_n rfl rfl (w_getf rfl rfl hc h12 (w_sp 169 rfl rfl (w_addN rfl (w_ic 2 rfl rfl (w_aload_n rfl rfl (w_getf rfl rfl hc h13 (w_mulN rfl (w_addN rfl (w_iload_n rfl rfl (w_st rfl hq (by omega) (by omega) ?_))))))))))))
  rw [show T + 169 + 2 * w = T + (169 + 2 * w) by omega, ← hh1]
  refine w_aload_n rfl rfl (w_getf rfl rfl c64 f2 (w_aload_n rfl rfl (w_getf rfl rfl c64 h12 (w_sp 169 rfl rfl (w_addN rfl (w_ic 2 rfl rfl (w_aload_n rfl rfl (w_getf rfl rfl c64 h13 (w_mulN rfl (w_addN rfl (w_ic 1 rfl rfl (w_addN rfl (w_iload_n rfl rfl (w_st rfl hq1 (by omega) (by omega) ?_))))))))))))))
  rw [show T + 169 + 2 * w + 1 = T + (169 + 2 * w + 1) by omega, ← hh2]
  refine w_aload_n rfl rfl (w_dup rfl rfl (w_getf rfl rfl c642 h13 (w_ic 1 rfl rfl (w_addN rfl (w_putf rfl rfl c642 rfl rfl (by show 13 < vsl.length; omega) ?_)))))
  refine w_return rfl rfl ?_
  show Q none (h2.set 64 (0, 12, vsl.set 13 (.int (Int32.ofNat (w + 1)))))
  rw [← hh3]
  refine hP h3 (vsl.set 13 (.int (Int32.ofNat (w + 1)))) (by rw [hh3]; exact hJ3) ?_ ?_ (by rw [hh3]; exact List.getElem?_set_self hlen2) (by rw [List.getElem?_set_ne (by decide)]; exact h12) (List.getElem?_set_self (by omega)) s0 sC (by omega)
  · rw [hh3, hh2, hh1, List.length_set, List.length_set, List.length_set]
  · rw [hh3, p_sl_set c642 (by simp), hh2, p_sl_set hq1 (by simp), hh1, p_sl_set hq (by simp)]
end GEM
theorem ho_ch2 : x_OK p_GT p_MT x_EE ch2 := by
  refine ⟨?_, m_X12_emit, rfl⟩
  intro τ r h as M hM hH hA hF hK
  cases (show some m_X12_emit = some M from hM)
  obtain ⟨a, V, rfl, ha, hA⟩ := x_t3 (show x_vs τ r 5 [(3, 64, ([], ((64 : Nat) : Int))), (1, 0, ([], 1)), (1, 0, ([(4, 1)], 0))] as from hA)
  obtain ⟨op, V, rfl, -, hop, hA⟩ := x_t1 hA
  obtain ⟨v, V, rfl, -, hv, hA⟩ := x_t1 hA
  rw [g_nil hA]
  obtain ⟨rfl, ht⟩ := g_ref ha
  simp only [q_e, q_ev] at hop hv
  obtain ⟨b0, b1, b2, b3, b4⟩ : (0 ≤ r 0 ∧ r 0 ≤ 2331) ∧ (0 ≤ r 1 ∧ r 1 ≤ 302) ∧ (0 ≤ r 2 ∧ r 2 ≤ 23) ∧ (0 ≤ r 3 ∧ r 3 ≤ 500) ∧ (0 ≤ r 4 ∧ r 4 ≤ 7) := ⟨g_get hF.1 0 rfl, g_get hF.1 1 rfl, g_get hF.1 2 rfl, g_get hF.1 3 rfl, g_get hF.1 4 rfl⟩
  have h80 := (g_gho (g_get hK 2 rfl) 7 rfl).1
  obtain ⟨vs, hc, -⟩ := g_f64a hH ht
  obtain ⟨x12, v12, e12⟩ := g_fldv (e' := ([(0, 1)], 0)) (g_get hK 0 rfl) (by decide) hc
  obtain ⟨x13, v13, e13⟩ := g_fldv (e' := ([(1, 1)], 0)) (g_get hK 1 rfl) (by decide) hc
  rw [g_v] at e12 e13
  obtain ⟨T, hT⟩ : ∃ T : Nat, r 0 = T := ⟨(r 0).toNat, by omega⟩
  obtain ⟨w, hw⟩ : ∃ w : Nat, r 1 = w := ⟨(r 1).toNat, by omega⟩
  have ex12 : x12 = Int32.ofNat T := g_i32 (by omega) (by omega)
  have ex13 : x13 = Int32.ofNat w := g_i32 (by omega) (by omega)
  subst ex12; subst ex13
  have eT : q_e r ([(0, 1)], 0) = (T : Int) := by rw [g_v]; exact hT
  have hf12 : g_at (g_vs h 64) 12 = (T : Int) := by rw [g_vs_at hc, g_at_int v12, g_ofNat (by omega)]
  have m7 := g_un7 (e := ([(0, 1)], 0)) (e' := ([(2, 1)], 0)) (k := T) (g_get hK 2 rfl) eT (by omega)
  have m9 := g_un9 (e := ([(1, 1)], 0)) (e' := ([(3, 1)], 0)) (k := w) (g_get hK 3 rfl) (by rw [g_v]; exact hw) hf12
  rw [g_v] at m7 m9
  refine ⟨Nat.le_of_ble_eq_true rfl, g_emit (N := r 3) (N' := r 3 + 1) hH ht hc v12 v13 (by omega) m9 (by omega) (by omega) (Or.inr (Or.inl ⟨by omega, by omega, by omega, rfl⟩)) ?_⟩
  intro h' vs' hJ l1 l2 c64 w12 w13 k0 kC hle
  have h80 : 80 ≤ h'.length := by omega
  have hf12' : g_at (g_vs h' 64) 12 = (T : Int) := by rw [g_vs_at c64, g_at_int w12, g_ofNat (by omega)]
  refine ⟨τ, r, hJ, _, List.mem_cons_self, Nat.le_of_eq l1, Nat.le_of_eq l2, fun _ _ => rfl, ⟨g_io0, g_c (by simp [q_e, q_ev]; omega) g_n, g_n⟩, trivial, ?_⟩
  refine g_c (g_mkf ht (by decide) c64 w12 (g_wl rfl) (by rw [g_v, g_ofNat (by omega)]; exact hT.symm)) (g_c (g_mkf ht (by decide) c64 w13 (g_wl rfl) (by rw [g_ofNat (by omega)]; simp only [q_e, q_ev]; push_cast; omega)) (g_c (g_mk7 (k := T) (g_wl rfl) (g_wl rfl) h80 eT (by omega) (by rw [k0, g_v]; exact m7)) (g_c (g_mk9 (k := w + 1) (T := T) (g_wl rfl) (g_wl rfl) h80 (by simp only [q_e, q_ev]; push_cast; omega) hf12' (by rw [kC]; simp only [q_e, q_ev]; omega)) g_n)))
theorem ho_ch3 : x_OK p_GT p_MT x_EE ch3 := by
  refine ⟨?_, m_X12_emit, rfl⟩
  intro τ r h as M hM hH hA hF hK
  cases (show some m_X12_emit = some M from hM)
  obtain ⟨a, V, rfl, ha, hA⟩ := x_t3 (show x_vs τ r 5 [(3, 64, ([], ((64 : Nat) : Int))), (1, 0, ([], 0)), (1, 0, ([(4, 1)], 0))] as from hA)
  obtain ⟨op, V, rfl, -, hop, hA⟩ := x_t1 hA
  obtain ⟨v, V, rfl, -, hv, hA⟩ := x_t1 hA
  rw [g_nil hA]
  obtain ⟨rfl, ht⟩ := g_ref ha
  simp only [q_e, q_ev] at hop hv
  obtain ⟨b0, b1, b2, b3⟩ : (0 ≤ r 0 ∧ r 0 ≤ 2331) ∧ (0 ≤ r 1 ∧ r 1 ≤ 302) ∧ (0 ≤ r 2 ∧ r 2 ≤ 23) ∧ (0 ≤ r 3 ∧ r 3 ≤ 500) := ⟨g_get hF.1 0 rfl, g_get hF.1 1 rfl, g_get hF.1 2 rfl, g_get hF.1 3 rfl⟩
  have h80 := (g_gho (g_get hK 2 rfl) 7 rfl).1
  obtain ⟨vs, hc, -⟩ := g_f64a hH ht
  obtain ⟨x12, v12, e12⟩ := g_fldv (e' := ([(0, 1)], 0)) (g_get hK 0 rfl) (by decide) hc
  obtain ⟨x13, v13, e13⟩ := g_fldv (e' := ([(1, 1)], 0)) (g_get hK 1 rfl) (by decide) hc
  rw [g_v] at e12 e13
  obtain ⟨T, hT⟩ : ∃ T : Nat, r 0 = T := ⟨(r 0).toNat, by omega⟩
  obtain ⟨w, hw⟩ : ∃ w : Nat, r 1 = w := ⟨(r 1).toNat, by omega⟩
  have ex12 : x12 = Int32.ofNat T := g_i32 (by omega) (by omega)
  have ex13 : x13 = Int32.ofNat w := g_i32 (by omega) (by omega)
  subst ex12; subst ex13
  have eT : q_e r ([(0, 1)], 0) = (T : Int) := by rw [g_v]; exact hT
  have hf12 : g_at (g_vs h 64) 12 = (T : Int) := by rw [g_vs_at hc, g_at_int v12, g_ofNat (by omega)]
  have m7 := g_un7 (e := ([(0, 1)], 0)) (e' := ([(2, 1)], 0)) (k := T) (g_get hK 2 rfl) eT (by omega)
  have m9 := g_un9 (e := ([(1, 1)], 0)) (e' := ([(3, 1)], 0)) (k := w) (g_get hK 3 rfl) (by rw [g_v]; exact hw) hf12
  rw [g_v] at m7 m9
  refine ⟨Nat.le_of_ble_eq_true rfl, g_emit (N := r 3) (N' := r 3 + 1) hH ht hc v12 v13 (by omega) m9 (by omega) (by omega) (Or.inl ⟨by omega, rfl⟩) ?_⟩
  intro h' vs' hJ l1 l2 c64 w12 w13 k0 kC hle
  have h80 : 80 ≤ h'.length := by omega
  have hf12' : g_at (g_vs h' 64) 12 = (T : Int) := by rw [g_vs_at c64, g_at_int w12, g_ofNat (by omega)]
  refine ⟨τ, r, hJ, _, List.mem_cons_self, Nat.le_of_eq l1, Nat.le_of_eq l2, fun _ _ => rfl, ⟨g_io0, g_c (by simp [q_e, q_ev]; omega) g_n, g_n⟩, trivial, ?_⟩
  refine g_c (g_mkf ht (by decide) c64 w12 (g_wl rfl) (by rw [g_v, g_ofNat (by omega)]; exact hT.symm)) (g_c (g_mkf ht (by decide) c64 w13 (g_wl rfl) (by rw [g_ofNat (by omega)]; simp only [q_e, q_ev]; push_cast; omega)) (g_c (g_mk7 (k := T) (g_wl rfl) (g_wl rfl) h80 eT (by omega) (by rw [k0, g_v]; exact m7)) (g_c (g_mk9 (k := w + 1) (T := T) (g_wl rfl) (g_wl rfl) h80 (by simp only [q_e, q_ev]; push_cast; omega) hf12' (by rw [kC]; simp only [q_e, q_ev]; omega)) g_n)))
theorem ho_ch4 : x_OK p_GT p_MT x_EE ch4 := by
  refine ⟨?_, m_X12_emit, rfl⟩
  intro τ r h as M hM hH hA hF hK
  cases (show some m_X12_emit = some M from hM)
  obtain ⟨a, V, rfl, ha, hA⟩ := x_t3 (show x_vs τ r 5 [(3, 64, ([], ((64 : Nat) : Int))), (1, 0, ([], 3)), (1, 0, ([(4, 1)], 0))] as from hA)
  obtain ⟨op, V, rfl, -, hop, hA⟩ := x_t1 hA
  obtain ⟨v, V, rfl, -, hv, hA⟩ := x_t1 hA
  rw [g_nil hA]
  obtain ⟨rfl, ht⟩ := g_ref ha
  simp only [q_e, q_ev] at hop hv
  obtain ⟨b0, b1, b2, b3⟩ : (0 ≤ r 0 ∧ r 0 ≤ 2331) ∧ (0 ≤ r 1 ∧ r 1 ≤ 302) ∧ (0 ≤ r 2 ∧ r 2 ≤ 23) ∧ (1 ≤ r 3 ∧ r 3 ≤ 500) := ⟨g_get hF.1 0 rfl, g_get hF.1 1 rfl, g_get hF.1 2 rfl, g_get hF.1 3 rfl⟩
  have h80 := (g_gho (g_get hK 2 rfl) 7 rfl).1
  obtain ⟨vs, hc, -⟩ := g_f64a hH ht
  obtain ⟨x12, v12, e12⟩ := g_fldv (e' := ([(0, 1)], 0)) (g_get hK 0 rfl) (by decide) hc
  obtain ⟨x13, v13, e13⟩ := g_fldv (e' := ([(1, 1)], 0)) (g_get hK 1 rfl) (by decide) hc
  rw [g_v] at e12 e13
  obtain ⟨T, hT⟩ : ∃ T : Nat, r 0 = T := ⟨(r 0).toNat, by omega⟩
  obtain ⟨w, hw⟩ : ∃ w : Nat, r 1 = w := ⟨(r 1).toNat, by omega⟩
  have ex12 : x12 = Int32.ofNat T := g_i32 (by omega) (by omega)
  have ex13 : x13 = Int32.ofNat w := g_i32 (by omega) (by omega)
  subst ex12; subst ex13
  have eT : q_e r ([(0, 1)], 0) = (T : Int) := by rw [g_v]; exact hT
  have hf12 : g_at (g_vs h 64) 12 = (T : Int) := by rw [g_vs_at hc, g_at_int v12, g_ofNat (by omega)]
  have m7 := g_un7 (e := ([(0, 1)], 0)) (e' := ([(2, 1)], 0)) (k := T) (g_get hK 2 rfl) eT (by omega)
  have m9 := g_un9 (e := ([(1, 1)], 0)) (e' := ([(3, 1)], 0)) (k := w) (g_get hK 3 rfl) (by rw [g_v]; exact hw) hf12
  rw [g_v] at m7 m9
  refine ⟨Nat.le_of_ble_eq_true rfl, g_emit (N := r 3) (N' := r 3) hH ht hc v12 v13 (by omega) m9 (by omega) (by omega) (Or.inr (Or.inr (Or.inr (Or.inl ⟨by omega, by omega, rfl⟩)))) ?_⟩
  intro h' vs' hJ l1 l2 c64 w12 w13 k0 kC hle
  have h80 : 80 ≤ h'.length := by omega
  have hf12' : g_at (g_vs h' 64) 12 = (T : Int) := by rw [g_vs_at c64, g_at_int w12, g_ofNat (by omega)]
  refine ⟨τ, r, hJ, _, List.mem_cons_self, Nat.le_of_eq l1, Nat.le_of_eq l2, fun _ _ => rfl, ⟨g_io0, g_c (by simp [q_e, q_ev]; omega) g_n, g_n⟩, trivial, ?_⟩
  refine g_c (g_mkf ht (by decide) c64 w12 (g_wl rfl) (by rw [g_v, g_ofNat (by omega)]; exact hT.symm)) (g_c (g_mkf ht (by decide) c64 w13 (g_wl rfl) (by rw [g_ofNat (by omega)]; simp only [q_e, q_ev]; push_cast; omega)) (g_c (g_mk7 (k := T) (g_wl rfl) (g_wl rfl) h80 eT (by omega) (by rw [k0, g_v]; exact m7)) (g_c (g_mk9 (k := w + 1) (T := T) (g_wl rfl) (g_wl rfl) h80 (by simp only [q_e, q_ev]; push_cast; omega) hf12' (by rw [kC]; simp only [q_e, q_ev]; omega)) g_n)))
theorem ho_ch5 : x_OK p_GT p_MT x_EE ch5 := by
  refine ⟨?_, m_X12_emit, rfl⟩
  intro τ r h as M hM hH hA hF hK
  cases (show some m_X12_emit = some M from hM)
  obtain ⟨a, V, rfl, ha, hA⟩ := x_t3 (show x_vs τ r 6 [(3, 64, ([], ((64 : Nat) : Int))), (1, 0, ([(4, 1)], 0)), (1, 0, ([(5, 1)], 0))] as from hA)
  obtain ⟨op, V, rfl, -, hop, hA⟩ := x_t1 hA
  obtain ⟨v, V, rfl, -, hv, hA⟩ := x_t1 hA
  rw [g_nil hA]
  obtain ⟨rfl, ht⟩ := g_ref ha
  simp only [q_e, q_ev] at hop hv
  obtain ⟨b0, b1, b2, b3, b4⟩ : (0 ≤ r 0 ∧ r 0 ≤ 2331) ∧ (0 ≤ r 1 ∧ r 1 ≤ 302) ∧ (0 ≤ r 2 ∧ r 2 ≤ 23) ∧ (2 ≤ r 3 ∧ r 3 ≤ 500) ∧ (4 ≤ r 4 ∧ r 4 ≤ 7) := ⟨g_get hF.1 0 rfl, g_get hF.1 1 rfl, g_get hF.1 2 rfl, g_get hF.1 3 rfl, g_get hF.1 4 rfl⟩
  have h80 := (g_gho (g_get hK 2 rfl) 7 rfl).1
  obtain ⟨vs, hc, -⟩ := g_f64a hH ht
  obtain ⟨x12, v12, e12⟩ := g_fldv (e' := ([(0, 1)], 0)) (g_get hK 0 rfl) (by decide) hc
  obtain ⟨x13, v13, e13⟩ := g_fldv (e' := ([(1, 1)], 0)) (g_get hK 1 rfl) (by decide) hc
  rw [g_v] at e12 e13
  obtain ⟨T, hT⟩ : ∃ T : Nat, r 0 = T := ⟨(r 0).toNat, by omega⟩
  obtain ⟨w, hw⟩ : ∃ w : Nat, r 1 = w := ⟨(r 1).toNat, by omega⟩
  have ex12 : x12 = Int32.ofNat T := g_i32 (by omega) (by omega)
  have ex13 : x13 = Int32.ofNat w := g_i32 (by omega) (by omega)
  subst ex12; subst ex13
  have eT : q_e r ([(0, 1)], 0) = (T : Int) := by rw [g_v]; exact hT
  have hf12 : g_at (g_vs h 64) 12 = (T : Int) := by rw [g_vs_at hc, g_at_int v12, g_ofNat (by omega)]
  have m7 := g_un7 (e := ([(0, 1)], 0)) (e' := ([(2, 1)], 0)) (k := T) (g_get hK 2 rfl) eT (by omega)
  have m9 := g_un9 (e := ([(1, 1)], 0)) (e' := ([(3, 1)], 0)) (k := w) (g_get hK 3 rfl) (by rw [g_v]; exact hw) hf12
  rw [g_v] at m7 m9
  refine ⟨Nat.le_of_ble_eq_true rfl, g_emit (N := r 3) (N' := r 3 - 1) hH ht hc v12 v13 (by omega) m9 (by omega) (by omega) (Or.inr (Or.inr (Or.inr (Or.inr ⟨by omega, by omega, by omega, rfl⟩)))) ?_⟩
  intro h' vs' hJ l1 l2 c64 w12 w13 k0 kC hle
  have h80 : 80 ≤ h'.length := by omega
  have hf12' : g_at (g_vs h' 64) 12 = (T : Int) := by rw [g_vs_at c64, g_at_int w12, g_ofNat (by omega)]
  refine ⟨τ, r, hJ, _, List.mem_cons_self, Nat.le_of_eq l1, Nat.le_of_eq l2, fun _ _ => rfl, ⟨g_io0, g_c (by simp [q_e, q_ev]; omega) g_n, g_n⟩, trivial, ?_⟩
  refine g_c (g_mkf ht (by decide) c64 w12 (g_wl rfl) (by rw [g_v, g_ofNat (by omega)]; exact hT.symm)) (g_c (g_mkf ht (by decide) c64 w13 (g_wl rfl) (by rw [g_ofNat (by omega)]; simp only [q_e, q_ev]; push_cast; omega)) (g_c (g_mk7 (k := T) (g_wl rfl) (g_wl rfl) h80 eT (by omega) (by rw [k0, g_v]; exact m7)) (g_c (g_mk9 (k := w + 1) (T := T) (g_wl rfl) (g_wl rfl) h80 (by simp only [q_e, q_ev]; push_cast; omega) hf12' (by rw [kC]; simp only [q_e, q_ev]; omega)) g_n)))
theorem ho_ch6 : x_OK p_GT p_MT x_EE ch6 := by
  refine ⟨?_, m_X12_emit, rfl⟩
  intro τ r h as M hM hH hA hF hK
  cases (show some m_X12_emit = some M from hM)
  obtain ⟨a, V, rfl, ha, hA⟩ := x_t3 (show x_vs τ r 5 [(3, 64, ([], ((64 : Nat) : Int))), (1, 0, ([], 2)), (1, 0, ([(4, 1)], 0))] as from hA)
  obtain ⟨op, V, rfl, -, hop, hA⟩ := x_t1 hA
  obtain ⟨v, V, rfl, -, hv, hA⟩ := x_t1 hA
  rw [g_nil hA]
  obtain ⟨rfl, ht⟩ := g_ref ha
  simp only [q_e, q_ev] at hop hv
  obtain ⟨b0, b1, b2, b3, b4⟩ : (0 ≤ r 0 ∧ r 0 ≤ 2331) ∧ (0 ≤ r 1 ∧ r 1 ≤ 302) ∧ (0 ≤ r 2 ∧ r 2 ≤ 23) ∧ (0 ≤ r 3 ∧ r 3 ≤ 500) ∧ (1 ≤ r 4 ∧ r 4 ≤ 6) := ⟨g_get hF.1 0 rfl, g_get hF.1 1 rfl, g_get hF.1 2 rfl, g_get hF.1 3 rfl, g_get hF.1 4 rfl⟩
  have f6 : 0 ≤ q_e r ([(3, 1), (4, -1)], -1) := g_get hF.2.1 0 rfl
  simp only [q_e, q_ev] at f6
  have h80 := (g_gho (g_get hK 2 rfl) 7 rfl).1
  obtain ⟨vs, hc, -⟩ := g_f64a hH ht
  obtain ⟨x12, v12, e12⟩ := g_fldv (e' := ([(0, 1)], 0)) (g_get hK 0 rfl) (by decide) hc
  obtain ⟨x13, v13, e13⟩ := g_fldv (e' := ([(1, 1)], 0)) (g_get hK 1 rfl) (by decide) hc
  rw [g_v] at e12 e13
  obtain ⟨T, hT⟩ : ∃ T : Nat, r 0 = T := ⟨(r 0).toNat, by omega⟩
  obtain ⟨w, hw⟩ : ∃ w : Nat, r 1 = w := ⟨(r 1).toNat, by omega⟩
  have ex12 : x12 = Int32.ofNat T := g_i32 (by omega) (by omega)
  have ex13 : x13 = Int32.ofNat w := g_i32 (by omega) (by omega)
  subst ex12; subst ex13
  have eT : q_e r ([(0, 1)], 0) = (T : Int) := by rw [g_v]; exact hT
  have hf12 : g_at (g_vs h 64) 12 = (T : Int) := by rw [g_vs_at hc, g_at_int v12, g_ofNat (by omega)]
  have m7 := g_un7 (e := ([(0, 1)], 0)) (e' := ([(2, 1)], 0)) (k := T) (g_get hK 2 rfl) eT (by omega)
  have m9 := g_un9 (e := ([(1, 1)], 0)) (e' := ([(3, 1)], 0)) (k := w) (g_get hK 3 rfl) (by rw [g_v]; exact hw) hf12
  rw [g_v] at m7 m9
  refine ⟨Nat.le_of_ble_eq_true rfl, g_emit (N := r 3) (N' := r 3 - r 4) hH ht hc v12 v13 (by omega) m9 (by omega) (by omega) (Or.inr (Or.inr (Or.inl ⟨by omega, by omega, by omega, by omega⟩))) ?_⟩
  intro h' vs' hJ l1 l2 c64 w12 w13 k0 kC hle
  have h80 : 80 ≤ h'.length := by omega
  have hf12' : g_at (g_vs h' 64) 12 = (T : Int) := by rw [g_vs_at c64, g_at_int w12, g_ofNat (by omega)]
  refine ⟨τ, r, hJ, _, List.mem_cons_self, Nat.le_of_eq l1, Nat.le_of_eq l2, fun _ _ => rfl, ⟨g_io0, g_c (by simp [q_e, q_ev]; omega) g_n, g_n⟩, trivial, ?_⟩
  refine g_c (g_mkf ht (by decide) c64 w12 (g_wl rfl) (by rw [g_v, g_ofNat (by omega)]; exact hT.symm)) (g_c (g_mkf ht (by decide) c64 w13 (g_wl rfl) (by rw [g_ofNat (by omega)]; simp only [q_e, q_ev]; push_cast; omega)) (g_c (g_mk7 (k := T) (g_wl rfl) (g_wl rfl) h80 eT (by omega) (by rw [k0, g_v]; exact m7)) (g_c (g_mk9 (k := w + 1) (T := T) (g_wl rfl) (g_wl rfl) h80 (by simp only [q_e, q_ev]; push_cast; omega) hf12' (by rw [kC]; simp only [q_e, q_ev]; omega)) g_n)))

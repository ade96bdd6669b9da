/-! The tapes are alike: what the ghosts say; contracts by hand -/
section TA1
variable {τ : Nat → Option Nat} {r : Nat → Int} {n : Nat} {h : p_H} {e e' : q_E}
theorem a_one : q_e r ([], 1) = 1 := by simp [q_e, q_ev]
theorem a_k0 (z : Int) : q_e r ([], z) = z := by simp [q_e, q_ev]
theorem a_cell {a : Nat} (ha : a < 80) (h80 : 80 ≤ h.length) : ∃ c, h[a]? = some c := ⟨_, List.getElem?_eq_getElem (by omega)⟩
theorem a_l22_44 : ∀ j, j ≤ 299 → g_lk 22 44 j = true := fun j hj => g_lk_of (show x_KL[44]? = some _ from rfl) (lo := 0) (hi := 299) (by decide) (Nat.zero_le _) hj
theorem a_l22_68 : ∀ j, j ≤ 299 → g_lk 22 68 j = true := fun j hj => g_lk_of (show x_KL[68]? = some _ from rfl) (lo := 0) (hi := 299) (by decide) (Nat.zero_le _) hj
theorem a_l26_44 : ∀ j, j ≤ 299 → g_lk 26 44 j = true := fun j hj => g_lk_of (show x_KL[44]? = some _ from rfl) (lo := 0) (hi := 299) (by decide) (Nat.zero_le _) hj
theorem a_l26_68 : ∀ j, j ≤ 299 → g_lk 26 68 j = true := fun j hj => g_lk_of (show x_KL[68]? = some _ from rfl) (lo := 0) (hi := 299) (by decide) (Nat.zero_le _) hj
theorem a_l25_44 : ∀ j, j ≤ 299 → g_lk 25 44 j = true := fun j hj => g_lk_of (show x_KL[44]? = some _ from rfl) (lo := 0) (hi := 299) (by decide) (Nat.zero_le _) hj
theorem a_l23_68 : ∀ j, j ≤ 299 → g_lk 23 68 j = true := fun j hj => g_lk_of (show x_KL[68]? = some _ from rfl) (lo := 0) (hi := 299) (by decide) (Nat.zero_le _) hj
theorem a_l23_64 : g_lk 23 64 4 = true := g_lk_of (show x_KL[64]? = some _ from rfl) (lo := 4) (hi := 4) (by decide) (Nat.le_refl _) (Nat.le_refl _)
theorem a_t44 (hH : x_H x_EE τ h) (t43 : τ 43 = some 43) : ∃ fs tp, h[43]? = some (0, 3, fs) ∧ fs.length = 18 ∧ fs[0]? = some (.ref 44) ∧ τ 44 = some 44 ∧ h[44]? = some (1, 1, tp) ∧ tp.length = 300 ∧ ∀ k, k < 300 → ∃ y : Int32, tp[k]? = some (.int y) := by
  obtain ⟨fs, c43, l1, l2, hf, -⟩ := g_cell hH t43 (show x_KL[43]? = some _ from rfl)
  have l1 : 18 ≤ fs.length := l1
  have l2 : fs.length ≤ 18 := l2
  obtain ⟨f0, t44⟩ := a_rf (b := 44) hf (show 0 < fs.length by omega) rfl (by decide)
  obtain ⟨tp, c44, m1, m2, hg, -⟩ := g_cell hH t44 (show x_KL[44]? = some _ from rfl)
  have m1 : 300 ≤ tp.length := m1
  have m2 : tp.length ≤ 300 := m2
  refine ⟨fs, tp, c43, by omega, f0, t44, c44, by omega, fun k hk => ?_⟩
  obtain ⟨y, hy, -⟩ := a_it (lo := -128) (hi := 127) hg (show k < tp.length by omega) rfl
  exact ⟨y, hy⟩
theorem a_t68 (hH : x_H x_EE τ h) (t64 : τ 64 = some 64) : ∃ vs ws, h[64]? = some (0, 12, vs) ∧ vs.length = 31 ∧ vs[3]? = some (.ref 68) ∧ τ 68 = some 68 ∧ h[68]? = some (1, 0, ws) ∧ ws.length = 300 ∧ ∀ k, k < 300 → ∃ y : Int32, ws[k]? = some (.int y) ∧ 0 ≤ y.toInt ∧ y.toInt ≤ 255 := by
  obtain ⟨vs, c64, l1, l2, hf, -⟩ := g_cell hH t64 (show x_KL[64]? = some _ from rfl)
  have l1 : 31 ≤ vs.length := l1
  have l2 : vs.length ≤ 31 := l2
  obtain ⟨f3, t68⟩ := a_rf (b := 68) hf (show 3 < vs.length by omega) rfl (by decide)
  obtain ⟨ws, c68, m1, m2, hg, -⟩ := g_cell hH t68 (show x_KL[68]? = some _ from rfl)
  have m1 : 300 ≤ ws.length := m1
  have m2 : ws.length ≤ 300 := m2
  exact ⟨vs, ws, c64, by omega, f3, t68, c68, by omega, fun k hk => a_it (lo := 0) (hi := 255) hg (show k < ws.length by omega) rfl⟩
theorem a_un22 (hm : x_m x_EE τ r n h (([], 0), 64, 1000023, (1, 0, ([], 1)))) {ca cb : p_C} (ha : h[44]? = some ca) (hb : h[68]? = some cb) : ∀ k, k < 300 → g_at ca.2.2 k % 256 = g_at cb.2.2 k := by
  have q : g_tp (g_ms 22 h) = q_e r ([], 1) := (g_gho hm 22 rfl).2
  rw [a_one] at q
  intro k hk
  have := g_tp_iff.mp q k hk
  rw [g_ms_at (a_l22_44 _ (by omega)), g_ms_at (a_l22_68 _ (by omega)), g_vs_at ha, g_vs_at hb] at this
  exact this
theorem a_mk22 (h80 : 80 ≤ h.length) {ca cb : p_C} (ha : h[44]? = some ca) (hb : h[68]? = some cb) (q : ∀ k, k < 300 → g_at ca.2.2 k % 256 = g_at cb.2.2 k) : x_m x_EE τ r n h (([], 0), 64, 1000023, (1, 0, ([], 1))) := by
  refine g_mk 22 rfl q_wl_nil q_wl_nil rfl h80 ?_
  show g_tp (g_ms 22 h) = q_e r ([], 1)
  rw [a_one]
  refine g_tp_iff.mpr (fun k hk => ?_)
  rw [g_ms_at (a_l22_44 _ (by omega)), g_ms_at (a_l22_68 _ (by omega)), g_vs_at ha, g_vs_at hb]
  exact q k hk
theorem a_un26 {p : Nat} (hm : x_m x_EE τ r n h (e, 64, 1000027, (1, 0, ([], 1)))) (he : q_e r e = (p : Int)) {ca cb : p_C} (ha : h[44]? = some ca) (hb : h[68]? = some cb) : ∀ k, k < 300 → (k < p ∨ p + 20 ≤ k) → g_at ca.2.2 k % 256 = g_at cb.2.2 k := by
  have q : g_tq (g_ms 26 h) (q_e r e) = q_e r ([], 1) := (g_gho hm 26 rfl).2
  rw [a_one, he] at q
  intro k hk ho
  have := g_tq_iff.mp q k hk ho
  rw [g_ms_at (a_l26_44 _ (by omega)), g_ms_at (a_l26_68 _ (by omega)), g_vs_at ha, g_vs_at hb] at this
  exact this
theorem a_mk26 {p : Nat} (w1 : q_wl n e.1) (h80 : 80 ≤ h.length) (he : q_e r e = (p : Int)) {ca cb : p_C} (ha : h[44]? = some ca) (hb : h[68]? = some cb) (q : ∀ k, k < 300 → (k < p ∨ p + 20 ≤ k) → g_at ca.2.2 k % 256 = g_at cb.2.2 k) : x_m x_EE τ r n h (e, 64, 1000027, (1, 0, ([], 1))) := by
  refine g_mk 26 rfl w1 q_wl_nil rfl h80 ?_
  show g_tq (g_ms 26 h) (q_e r e) = q_e r ([], 1)
  rw [a_one, he]
  refine g_tq_iff.mpr (fun k hk ho => ?_)
  rw [g_ms_at (a_l26_44 _ (by omega)), g_ms_at (a_l26_68 _ (by omega)), g_vs_at ha, g_vs_at hb]
  exact q k hk ho
theorem a_un25 {p : Nat} (hm : x_m x_EE τ r n h (e, 64, 1000026, (1, 0, e'))) (he : q_e r e = (p : Int)) (hp : p + 4 ≤ 300) {ca : p_C} (ha : h[44]? = some ca) : g_v4 (g_at ca.2.2 p % 256) (g_at ca.2.2 (p + 1) % 256) (g_at ca.2.2 (p + 2) % 256) (g_at ca.2.2 (p + 3) % 256) = q_e r e' := by
  have q : g_i4 (g_ms 25 h) (q_e r e) = q_e r e' := (g_gho hm 25 rfl).2
  rw [he] at q
  unfold g_i4 at q
  rw [Int.toNat_natCast, g_ms_at (a_l25_44 _ (by omega)), g_ms_at (a_l25_44 _ (by omega)), g_ms_at (a_l25_44 _ (by omega)), g_ms_at (a_l25_44 _ (by omega)), g_vs_at ha] at q
  exact q
theorem a_mk25 {p : Nat} (w1 : q_wl n e.1) (w2 : q_wl n e'.1) (h80 : 80 ≤ h.length) (he : q_e r e = (p : Int)) (hp : p + 4 ≤ 300) {ca : p_C} (ha : h[44]? = some ca) (q : g_v4 (g_at ca.2.2 p % 256) (g_at ca.2.2 (p + 1) % 256) (g_at ca.2.2 (p + 2) % 256) (g_at ca.2.2 (p + 3) % 256) = q_e r e') : x_m x_EE τ r n h (e, 64, 1000026, (1, 0, e')) := by
  refine g_mk 25 rfl w1 w2 rfl h80 ?_
  show g_i4 (g_ms 25 h) (q_e r e) = q_e r e'
  rw [he]
  unfold g_i4
  rw [Int.toNat_natCast, g_ms_at (a_l25_44 _ (by omega)), g_ms_at (a_l25_44 _ (by omega)), g_ms_at (a_l25_44 _ (by omega)), g_ms_at (a_l25_44 _ (by omega)), g_vs_at ha]
  exact q
theorem a_un23 {p : Nat} (hm : x_m x_EE τ r n h (([], (p : Int)), 64, 1000024, (1, 0, e'))) : g_fp (g_ms 23 h) (p : Int) = q_e r e' := by
  have q : g_fp (g_ms 23 h) (q_e r ([], (p : Int))) = q_e r e' := (g_gho hm 23 rfl).2
  rw [a_k0] at q
  exact q
theorem a_mk23 {p : Nat} (w2 : q_wl n e'.1) (h80 : 80 ≤ h.length) (q : g_fp (g_ms 23 h) (p : Int) = q_e r e') : x_m x_EE τ r n h (([], (p : Int)), 64, 1000024, (1, 0, e')) := by
  refine g_mk 23 rfl q_wl_nil w2 rfl h80 ?_
  show g_fp (g_ms 23 h) (q_e r ([], (p : Int))) = q_e r e'
  rw [a_k0]
  exact q
/-- a length or an own place that is known hangs on no unknown -/
theorem a_len0 {a k m : Nat} {z : Int} (hm : x_m x_EE τ r n h (([], (a : Int)), k, 1000000, (1, 0, ([], z)))) : x_m x_EE τ r m h (([], (a : Int)), k, 1000000, (1, 0, ([], z))) := by
  obtain ⟨i, c, e1, e2, e3, e4⟩ := hm.plc (show 1000000 < 1000001 by omega)
  refine x_m.mkp q_wl_nil (show 1000000 < 1000001 by omega) ⟨i, c, e1, e2, e3, ?_⟩
  rw [if_pos (show 1000000 = x_len from rfl)] at e4 ⊢
  exact ⟨q_wl_nil, e4.2⟩
theorem a_plcl {a k j : Nat} {z : Int} {c : p_C} (hm : x_m x_EE τ r n h (([], (a : Int)), k, j, (2, 0, ([], z)))) (hj : j < 1000000) (hc : h[a]? = some c) : τ a = some k ∧ ∃ x : Int64, c.2.2[j]? = some (.long x) ∧ x.toInt = z := by
  obtain ⟨i, c', e1, e2, e3, e4⟩ := hm.plc (show j < 1000001 by omega)
  have e1 : (i : Int) = q_e r ([], (a : Int)) := e1
  rw [a_k0] at e1
  have : i = a := by omega
  subst this
  rw [if_neg (show ¬ j = x_len by unfold x_len; omega)] at e4
  obtain ⟨v, e5, -, x, e6, e7⟩ := e4
  have ec : c' = c := Option.some.inj (e3.symm.trans hc)
  subst ec
  have e7 : x.toInt = q_e r ([], z) := e7
  rw [a_k0] at e7
  exact ⟨e2, x, by rw [e5]; exact congrArg some e6, e7⟩
end TA1
/-- two runs of one body are one -/
theorem p_both {d d' : Nat} {M : p_M} {pc : Nat} {ls : p_Ls} {st : List Value} {h : p_H} {Q1 Q2 : Option Value → p_H → Prop} (h1 : p_wp p_GT p_MT d M pc ls st h Q1) (h2 : p_wp p_GT p_MT d' M pc ls st h Q2) : p_wp p_GT p_MT (max d d') M pc ls st h (fun v g => Q1 v g ∧ Q2 v g) := by
  obtain ⟨n1, v1, g1, e1, q1⟩ := h1
  obtain ⟨n2, v2, g2, e2, q2⟩ := h2
  have a := p_mono _ _ _ _ _ _ _ _ e1 (max n1 n2) (max d d') (Nat.le_max_left _ _) (Nat.le_max_left _ _)
  have b := p_mono _ _ _ _ _ _ _ _ e2 (max n1 n2) (max d d') (Nat.le_max_right _ _) (Nat.le_max_right _ _)
  rw [a] at b
  cases b
  exact ⟨_, _, _, a, q1, q2⟩
/-! the four bytes of an int -/
theorem t_v4 {x : Int} (h1 : -2147483648 ≤ x) (h2 : x ≤ 2147483647) : g_v4 (t_by4 x 0) (t_by4 x 1) (t_by4 x 2) (t_by4 x 3) = x := by
  have e0 : t_by4 x 0 = x / 16777216 % 256 := rfl
  have e1 : t_by4 x 1 = x / 65536 % 256 := rfl
  have e2 : t_by4 x 2 = x / 256 % 256 := rfl
  have e3 : t_by4 x 3 = x % 256 := rfl
  rw [e0, e1, e2, e3]
  unfold g_v4
  split <;> omega
theorem t_v4_un {a b c d x : Int} (ha : 0 ≤ a ∧ a < 256) (hb : 0 ≤ b ∧ b < 256) (hc : 0 ≤ c ∧ c < 256) (hd : 0 ≤ d ∧ d < 256) (h : g_v4 a b c d = x) : t_by4 x 0 = a ∧ t_by4 x 1 = b ∧ t_by4 x 2 = c ∧ t_by4 x 3 = d := by
  have e0 : t_by4 x 0 = x / 16777216 % 256 := rfl
  have e1 : t_by4 x 1 = x / 65536 % 256 := rfl
  have e2 : t_by4 x 2 = x / 256 % 256 := rfl
  have e3 : t_by4 x 3 = x % 256 := rfl
  rw [e0, e1, e2, e3]
  unfold g_v4 at h
  split at h <;> omega
def t_pt (f : Nat → Int) (v : Nat) (x : Int) : Nat → Int := fun k => if v ≤ k ∧ k < v + 4 then t_by4 x (k - v) else f k
theorem t_pt_out {f : Nat → Int} {v k : Nat} {x : Int} (h : k < v ∨ v + 4 ≤ k) : t_pt f v x k = f k := by
  simp only [t_pt]; rw [if_neg (by omega)]
theorem t_pt_in {f : Nat → Int} {v k j : Nat} {x : Int} (h : k = v + j) (hj : j < 4) : t_pt f v x k = t_by4 x j := by
  simp only [t_pt]; rw [if_pos (by omega), show k - v = j by omega]
def t_f5 (f : Nat → Int) (v : Nat) (X : Nat → Int) : Nat → Int := t_pt (t_pt (t_pt (t_pt (t_pt f v (X 0)) (v + 4) (X 1)) (v + 8) (X 2)) (v + 12) (X 3)) (v + 16) (X 4)
theorem t_f5_out {f : Nat → Int} {v k : Nat} {X : Nat → Int} (h : k < v ∨ v + 20 ≤ k) : t_f5 f v X k = f k := by
  unfold t_f5
  rw [t_pt_out (by omega), t_pt_out (by omega), t_pt_out (by omega), t_pt_out (by omega), t_pt_out (by omega)]
theorem t_f5_in {f : Nat → Int} {v k i j : Nat} {X : Nat → Int} (hk : k = v + 4 * i + j) (hi : i < 5) (hj : j < 4) : t_f5 f v X k = t_by4 (X i) j := by
  have e : i = 0 ∨ i = 1 ∨ i = 2 ∨ i = 3 ∨ i = 4 := by omega
  unfold t_f5
  rcases e with rfl | rfl | rfl | rfl | rfl
  · rw [t_pt_out (by omega), t_pt_out (by omega), t_pt_out (by omega), t_pt_out (by omega)]; exact t_pt_in (by omega) hj
  · rw [t_pt_out (by omega), t_pt_out (by omega), t_pt_out (by omega)]; exact t_pt_in (by omega) hj
  · rw [t_pt_out (by omega), t_pt_out (by omega)]; exact t_pt_in (by omega) hj
  · rw [t_pt_out (by omega)]; exact t_pt_in (by omega) hj
  · exact t_pt_in (by omega) hj
def c_TF (h : p_H) (v : Nat) (f : Nat → Int) : Prop := ∃ fs tp : List Value, h[43]? = some (0, 3, fs) ∧ fs[0]? = some (.ref 44) ∧ fs[1]? = some (.int (Int32.ofNat v)) ∧ h[44]? = some (1, 1, tp) ∧ tp.length = 300 ∧ ∀ k, k < 300 → ∃ y : Int32, tp[k]? = some (.int y) ∧ y.toInt % 256 = f k
theorem c_TF_app {h : p_H} {v dd : Nat} {x : Int32} {f : Nat → Int} (hF : c_TF h v f) (hv : v + 4 ≤ 300) : p_wp p_GT p_MT dd m_X3_append 0 (lv_args 0 [.ref 43, .int x]) [] h (fun a h2 => a = none ∧ c_TF h2 (v + 4) (t_pt f v x.toInt) ∧ ∀ a, a ≠ 43 → a ≠ 44 → h2[a]? = h[a]?) := by
  obtain ⟨fs, tp, e1, f0, f1, e2, tl, hb⟩ := hF
  refine (c_append e1 f0 f1 e2 tl hv).mono (Nat.le_refl _) ?_
  rintro a h2 ⟨rfl, ⟨fs2, tp2, d1, d0, d2, d3, dl, ho, hi⟩, hx⟩
  refine ⟨rfl, ⟨fs2, tp2, d1, d0, d2, d3, dl, fun k hk => ?_⟩, hx⟩
  by_cases q : v ≤ k ∧ k < v + 4
  · obtain ⟨y, y1, y2⟩ := hi (k - v) (by omega)
    rw [show v + (k - v) = k by omega] at y1
    exact ⟨y, y1, by rw [t_pt_in (j := k - v) (by omega) (by omega)]; exact y2⟩
  · obtain ⟨y, y1, y2⟩ := hb k hk
    exact ⟨y, by rw [ho k (by omega)]; exact y1, by rw [t_pt_out (by omega)]; exact y2⟩
theorem c_hasRoom {h : p_H} {d v m : Nat} {fs : List Value} (e43 : h[43]? = some (0, 3, fs)) (f1 : fs[1]? = some (.int (Int32.ofNat v))) (hv : v ≤ 300) (hm : m ≤ 300) : p_wp p_GT p_MT d m_X3_hasRoom 0 (lv_args 0 [.ref 43, .int (Int32.ofNat m)]) [] h (fun a h2 => a = some (.int (l_b (decide (v + m ≤ 300)))) ∧ h2 = h) := by
  refine w_aload_n rfl rfl (w_getf rfl rfl e43 f1 (w_iload_n rfl rfl (w_addN rfl (w_sp 300 rfl rfl ?_))))
  by_cases q : v + m ≤ 300
  · exact w_icmp_f rfl (t := 16) rfl (by simp only [p_cd, decide_eq_false_iff_not]; rw [Int32.lt_iff_toInt_lt, g_ofNat (by omega), g_ofNat (by omega)]; omega) (w_iconst rfl (w_goto rfl (t := 17) rfl (w_ireturnb rfl rfl rfl ⟨by rw [decide_eq_true q]; rfl, rfl⟩)))
  · exact w_icmp_t rfl (t := 16) rfl (by simp only [p_cd, decide_eq_true_eq]; rw [Int32.lt_iff_toInt_lt, g_ofNat (by omega), g_ofNat (by omega)]; omega) (w_iconst rfl (w_ireturnb rfl rfl rfl ⟨by rw [decide_eq_false q]; rfl, rfl⟩))
theorem c_feed {h : p_H} {v dd : Nat} {f2 : List Value} {x1 x2 x3 x4 x5 : Int32} {f : Nat → Int} (e2 : h[2]? = some (0, 11, f2)) (g3 : f2[3]? = some (.ref 43)) (hF : c_TF h v f) (hv : v + 20 ≤ 300) : p_wp p_GT p_MT (dd + 1) m_X11_feed 0 (lv_args 0 [.ref 2, .int x1, .int x2, .int x3, .int x4, .int x5]) [] h (fun a h2 => a = some (.int (Int32.ofNat (v + 20))) ∧ c_TF h2 (v + 20) (t_pt (t_pt (t_pt (t_pt (t_pt f v x1.toInt) (v + 4) x2.toInt) (v + 8) x3.toInt) (v + 12) x4.toInt) (v + 16) x5.toInt) ∧ ∀ a, a ≠ 43 → a ≠ 44 → h2[a]? = h[a]?) := by
  have hF0 := hF
  obtain ⟨fs0, tp0, e0, f0, f1, -, -, -⟩ := hF
  refine w_aload_n rfl rfl (w_getf rfl rfl e2 g3 (w_bp 20 rfl rfl (w_virtual (dc := dd) (M' := m_X3_hasRoom) rfl (g_vir (n := 2) rfl rfl (by simp [p_cat, p_bd, Value.category]) rfl rfl e0 rfl) rfl rfl (Nat.le_refl _) (c_hasRoom e0 f1 (by omega) (by omega)) ?_)))
  rintro a g0 ⟨rfl, rfl⟩
  rw [decide_eq_true (show v + 20 ≤ 300 by omega)]
  refine w_ifc_t rfl (t := 14) rfl (by decide) ?_
  have e2_0 := e2
  refine w_aload_n rfl rfl (w_getf rfl rfl e2_0 g3 (w_iload_n rfl rfl (w_virtual (dc := dd) (M' := m_X3_append) rfl (g_vir (n := 2) rfl rfl (by simp [p_cat, p_bd, Value.category]) rfl rfl e0 rfl) rfl rfl (Nat.le_refl _) (c_TF_app hF0 (by omega)) ?_)))
  rintro a h1 ⟨rfl, hF1, hx1⟩
  have hF1 : c_TF h1 (v + 4) _ := hF1
  obtain ⟨fs1, tp1, e0_1, -, k1_1, -, -, -⟩ := id hF1
  have e2_1 := (hx1 2 (by decide) (by decide)).trans e2_0
  refine w_aload_n rfl rfl (w_getf rfl rfl e2_1 g3 (w_iload_n rfl rfl (w_virtual (dc := dd) (M' := m_X3_append) rfl (g_vir (n := 2) rfl rfl (by simp [p_cat, p_bd, Value.category]) rfl rfl e0_1 rfl) rfl rfl (Nat.le_refl _) (c_TF_app hF1 (by omega)) ?_)))
  rintro a h2 ⟨rfl, hF2, hx2⟩
  have hF2 : c_TF h2 (v + 8) _ := hF2
  obtain ⟨fs2, tp2, e0_2, -, k1_2, -, -, -⟩ := id hF2
  have e2_2 := (hx2 2 (by decide) (by decide)).trans e2_1
  refine w_aload_n rfl rfl (w_getf rfl rfl e2_2 g3 (w_iload_n rfl rfl (w_virtual (dc := dd) (M' := m_X3_append) rfl (g_vir (n := 2) rfl rfl (by simp [p_cat, p_bd, Value.category]) rfl rfl e0_2 rfl) rfl rfl (Nat.le_refl _) (c_TF_app hF2 (by omega)) ?_)))
  rintro a h3 ⟨rfl, hF3, hx3⟩
  have hF3 : c_TF h3 (v + 12) _ := hF3
  obtain ⟨fs3, tp3, e0_3, -, k1_3, -, -, -⟩ := id hF3
  have e2_3 := (hx3 2 (by decide) (by decide)).trans e2_2
  refine w_aload_n rfl rfl (w_getf rfl rfl e2_3 g3 (w_iload rfl rfl (w_virtual (dc := dd) (M' := m_X3_append) rfl (g_vir (n := 2) rfl rfl (by simp [p_cat, p_bd, Value.category]) rfl rfl e0_3 rfl) rfl rfl (Nat.le_refl _) (c_TF_app hF3 (by omega)) ?_)))
  rintro a h4 ⟨rfl, hF4, hx4⟩
  have hF4 : c_TF h4 (v + 16) _ := hF4
  obtain ⟨fs4, tp4, e0_4, -, k1_4, -, -, -⟩ := id hF4
  have e2_4 := (hx4 2 (by decide) (by decide)).trans e2_3
  refine w_aload_n rfl rfl (w_getf rfl rfl e2_4 g3 (w_iload rfl rfl (w_virtual (dc := dd) (M' := m_X3_append) rfl (g_vir (n := 2) rfl rfl (by simp [p_cat, p_bd, Value.category]) rfl rfl e0_4 rfl) rfl rfl (Nat.le_refl _) (c_TF_app hF4 (by omega)) ?_)))
  rintro a h5 ⟨rfl, hF5, hx5⟩
  have hF5 : c_TF h5 (v + 20) _ := hF5
  obtain ⟨fs5, tp5, e0_5, -, k1_5, -, -, -⟩ := id hF5
  have e2_5 := (hx5 2 (by decide) (by decide)).trans e2_4
  refine w_aload_n rfl rfl (w_getf rfl rfl e2_5 g3 (w_getf rfl rfl e0_5 k1_5 (w_ireturn rfl rfl ⟨rfl, hF5, fun a q1 q2 => ?_⟩)))
  rw [hx5 a q1 q2, hx4 a q1 q2, hx3 a q1 q2, hx2 a q1 q2, hx1 a q1 q2]
theorem c_feed_no {h : p_H} {v dd : Nat} {f2 : List Value} {x1 x2 x3 x4 x5 : Int32} {f : Nat → Int} (e2 : h[2]? = some (0, 11, f2)) (g3 : f2[3]? = some (.ref 43)) (hF : c_TF h v f) (hv : ¬ v + 20 ≤ 300) (hv3 : v ≤ 300) : p_wp p_GT p_MT (dd + 1) m_X11_feed 0 (lv_args 0 [.ref 2, .int x1, .int x2, .int x3, .int x4, .int x5]) [] h (fun a h2 => a = some (.int (Int32.ofInt (-1))) ∧ h2 = h) := by
  obtain ⟨fs0, tp0, e0, f0, f1, -, -, -⟩ := hF
  refine w_aload_n rfl rfl (w_getf rfl rfl e2 g3 (w_bp 20 rfl rfl (w_virtual (dc := dd) (M' := m_X3_hasRoom) rfl (g_vir (n := 2) rfl rfl (by simp [p_cat, p_bd, Value.category]) rfl rfl e0 rfl) rfl rfl (Nat.le_refl _) (c_hasRoom e0 f1 hv3 (by omega)) ?_)))
  rintro a g0 ⟨rfl, rfl⟩
  rw [decide_eq_false hv]
  exact w_ifc_f rfl (t := 14) rfl (by decide) (w_iconst rfl (w_ireturn rfl rfl ⟨rfl, rfl⟩))
def r_TF (h : p_H) (v : Nat) (f : Nat → Int) : Prop := ∃ fs tp : List Value, h[64]? = some (0, 12, fs) ∧ fs[3]? = some (.ref 68) ∧ fs[4]? = some (.int (Int32.ofNat v)) ∧ h[68]? = some (1, 0, tp) ∧ tp.length = 300 ∧ ∀ k, k < 300 → ∃ y : Int32, tp[k]? = some (.int y) ∧ y.toInt = f k
theorem r_TF_app {h : p_H} {v dd : Nat} {x : Int32} {f : Nat → Int} (hF : r_TF h v f) (hv : v + 4 ≤ 300) : p_wp p_GT p_MT dd m_X12_four 0 (lv_args 0 [.ref 64, .int x]) [] h (fun a h2 => a = none ∧ r_TF h2 (v + 4) (t_pt f v x.toInt) ∧ ∀ a, a ≠ 64 → a ≠ 68 → h2[a]? = h[a]?) := by
  obtain ⟨fs, tp, e1, f0, f1, e2, tl, hb⟩ := hF
  refine (r_four e1 f0 f1 e2 tl hv).mono (Nat.le_refl _) ?_
  rintro a h2 ⟨rfl, ⟨fs2, tp2, d1, d0, d2, d3, dl, ho, hi⟩, hx⟩
  refine ⟨rfl, ⟨fs2, tp2, d1, d0, d2, d3, dl, fun k hk => ?_⟩, hx⟩
  by_cases q : v ≤ k ∧ k < v + 4
  · obtain ⟨y, y1, y2⟩ := hi (k - v) (by omega)
    rw [show v + (k - v) = k by omega] at y1
    exact ⟨y, y1, by rw [t_pt_in (j := k - v) (by omega) (by omega)]; exact y2⟩
  · obtain ⟨y, y1, y2⟩ := hb k hk
    exact ⟨y, by rw [ho k (by omega)]; exact y1, by rw [t_pt_out (by omega)]; exact y2⟩
theorem r_feed {h : p_H} {v dd : Nat} {f2 : List Value} {x1 x2 x3 x4 x5 : Int32} {f : Nat → Int} (hF : r_TF h v f) (hv : v + 20 ≤ 300) : p_wp p_GT p_MT (dd + 1) m_X12_feed 0 (lv_args 0 [.ref 64, .int x1, .int x2, .int x3, .int x4, .int x5]) [] h (fun a h2 => a = some (.int (Int32.ofNat (v + 20))) ∧ r_TF h2 (v + 20) (t_pt (t_pt (t_pt (t_pt (t_pt f v x1.toInt) (v + 4) x2.toInt) (v + 8) x3.toInt) (v + 12) x4.toInt) (v + 16) x5.toInt) ∧ ∀ a, a ≠ 64 → a ≠ 68 → h2[a]? = h[a]?) := by
  have hF0 := hF
  obtain ⟨fs0, tp0, e0, f0, f1, -, -, -⟩ := hF
  refine w_aload_n rfl rfl (w_getf rfl rfl e0 f1 (w_bp 20 rfl rfl (w_addN rfl (w_sp 300 rfl rfl (w_icmp_t rfl (t := 15) rfl (by simp only [p_cd, decide_eq_true_eq]; rw [Int32.le_iff_toInt_le, g_ofNat (by omega), g_ofNat (by omega)]; omega) ?_)))))
  refine w_aload_n rfl rfl (w_iload_n rfl rfl (w_virtual (dc := dd) (M' := m_X12_four) rfl (g_vir (n := 2) rfl rfl (by simp [p_cat, p_bd, Value.category]) rfl rfl e0 rfl) rfl rfl (Nat.le_refl _) (r_TF_app hF0 (by omega)) ?_))
  rintro a h1 ⟨rfl, hF1, hx1⟩
  have hF1 : r_TF h1 (v + 4) _ := hF1
  obtain ⟨fs1, tp1, e0_1, -, k1_1, -, -, -⟩ := id hF1
  refine w_aload_n rfl rfl (w_iload_n rfl rfl (w_virtual (dc := dd) (M' := m_X12_four) rfl (g_vir (n := 2) rfl rfl (by simp [p_cat, p_bd, Value.category]) rfl rfl e0_1 rfl) rfl rfl (Nat.le_refl _) (r_TF_app hF1 (by omega)) ?_))
  rintro a h2 ⟨rfl, hF2, hx2⟩
  have hF2 : r_TF h2 (v + 8) _ := hF2
  obtain ⟨fs2, tp2, e0_2, -, k1_2, -, -, -⟩ := id hF2
  refine w_aload_n rfl rfl (w_iload_n rfl rfl (w_virtual (dc := dd) (M' := m_X12_four) rfl (g_vir (n := 2) rfl rfl (by simp [p_cat, p_bd, Value.category]) rfl rfl e0_2 rfl) rfl rfl (Nat.le_refl _) (r_TF_app hF2 (by omega)) ?_))
  rintro a h3 ⟨rfl, hF3, hx3⟩
  have hF3 : r_TF h3 (v + 12) _ := hF3
  obtain ⟨fs3, tp3, e0_3, -, k1_3, -, -, -⟩ := id hF3
  refine w_aload_n rfl rfl (w_iload rfl rfl (w_virtual (dc := dd) (M' := m_X12_four) rfl (g_vir (n := 2) rfl rfl (by simp [p_cat, p_bd, Value.category]) rfl rfl e0_3 rfl) rfl rfl (Nat.le_refl _) (r_TF_app hF3 (by omega)) ?_))
  rintro a h4 ⟨rfl, hF4, hx4⟩
  have hF4 : r_TF h4 (v + 16) _ := hF4
  obtain ⟨fs4, tp4, e0_4, -, k1_4, -, -, -⟩ := id hF4
  refine w_aload_n rfl rfl (w_iload rfl rfl (w_virtual (dc := dd) (M' := m_X12_four) rfl (g_vir (n := 2) rfl rfl (by simp [p_cat, p_bd, Value.category]) rfl rfl e0_4 rfl) rfl rfl (Nat.le_refl _) (r_TF_app hF4 (by omega)) ?_))
  rintro a h5 ⟨rfl, hF5, hx5⟩
  have hF5 : r_TF h5 (v + 20) _ := hF5
  obtain ⟨fs5, tp5, e0_5, -, k1_5, -, -, -⟩ := id hF5
  refine w_aload_n rfl rfl (w_getf rfl rfl e0_5 k1_5 (w_ireturn rfl rfl ⟨rfl, hF5, fun a q1 q2 => ?_⟩))
  rw [hx5 a q1 q2, hx4 a q1 q2, hx3 a q1 q2, hx2 a q1 q2, hx1 a q1 q2]
theorem r_feed_no0 {h : p_H} {v d : Nat} {f2 : List Value} {x1 x2 x3 x4 x5 : Int32} {f : Nat → Int} (hF : r_TF h v f) (hv : ¬ v + 20 ≤ 300) (hv3 : v ≤ 300) : p_wp p_GT p_MT d m_X12_feed 0 (lv_args 0 [.ref 64, .int x1, .int x2, .int x3, .int x4, .int x5]) [] h (fun a h2 => a = some (.int (Int32.ofInt (-1))) ∧ h2 = h) := by
  obtain ⟨fs0, tp0, e0, f0, f1, -, -, -⟩ := hF
  exact w_aload_n rfl rfl (w_getf rfl rfl e0 f1 (w_bp 20 rfl rfl (w_addN rfl (w_sp 300 rfl rfl (w_icmp_f rfl (t := 15) rfl (by simp only [p_cd, decide_eq_false_iff_not]; rw [Int32.le_iff_toInt_le, g_ofNat (by omega), g_ofNat (by omega)]; omega) (w_iconst rfl (w_ireturn rfl rfl ⟨rfl, rfl⟩)))))))
theorem ho_chL0 : x_OK p_GT p_MT x_EE chL0 := by
  refine ⟨?_, m_X12_copy, rfl⟩
  intro τ r h as M hM hH hA hF hK
  cases (show some m_X12_copy = some M from hM)
  obtain ⟨a, V, rfl, ha, hA⟩ := x_t3 (show x_vs τ r 1 [(3, 66, ([], ((66 : Nat) : Int))), (3, 65, ([], ((65 : Nat) : Int)))] as from hA)
  obtain ⟨b, V, rfl, hb, hA⟩ := x_t3 hA
  rw [g_nil hA]
  obtain ⟨rfl, tb⟩ := g_ref ha
  obtain ⟨rfl, ta⟩ := g_ref hb
  obtain ⟨vs, ca, l1, l2, hf, -⟩ := g_cell hH ta (show x_KL[65]? = some _ from rfl)
  obtain ⟨ws, cb, k1, k2, hg, -⟩ := g_cell hH tb (show x_KL[66]? = some _ from rfl)
  have l1 : 2517 ≤ vs.length := l1
  have l2 : vs.length ≤ 2517 := l2
  have k1 : 2517 ≤ ws.length := k1
  have k2 : ws.length ≤ 2517 := k2
  obtain ⟨-, x, b2, ex⟩ := a_plc (a := 66) (e' := ([(0, 1)], 0)) (g_get hK 0 rfl) (by decide) cb
  refine ⟨Nat.le_of_ble_eq_true rfl, g_copy (by decide) cb ca (by omega) (by omega) (fun j hj => g_int rfl rfl hg (by omega)) ?_⟩
  refine ⟨τ, r, g_copy_K hH ta tb ca cb, _, List.mem_cons_self, by rw [List.length_set]; exact Nat.le_refl _, by rw [p_sl_set ca (by show ws.length = vs.length; omega)]; exact Nat.le_refl _, fun _ _ => rfl, g_F0, trivial, g_c ?_ (g_c ?_ g_n)⟩
  · exact a_mkp (a := 66) (g_wl rfl) (by decide) tb (a_ga (by decide) cb) b2 ex
  · exact a_mkp (a := 65) (g_wl rfl) (by decide) ta (a_gs ca) b2 ex
theorem ho_chL1 : x_OK p_GT p_MT x_EE chL1 := by
  refine ⟨?_, m_X12_copy, rfl⟩
  intro τ r h as M hM hH hA hF hK
  cases (show some m_X12_copy = some M from hM)
  obtain ⟨a, V, rfl, ha, hA⟩ := x_t3 (show x_vs τ r 1 [(3, 65, ([], ((65 : Nat) : Int))), (3, 66, ([], ((66 : Nat) : Int)))] as from hA)
  obtain ⟨b, V, rfl, hb, hA⟩ := x_t3 hA
  rw [g_nil hA]
  obtain ⟨rfl, ta⟩ := g_ref ha
  obtain ⟨rfl, tb⟩ := g_ref hb
  obtain ⟨vs, ca, l1, l2, hf, -⟩ := g_cell hH ta (show x_KL[65]? = some _ from rfl)
  obtain ⟨ws, cb, k1, k2, hg, -⟩ := g_cell hH tb (show x_KL[66]? = some _ from rfl)
  have l1 : 2517 ≤ vs.length := l1
  have l2 : vs.length ≤ 2517 := l2
  have k1 : 2517 ≤ ws.length := k1
  have k2 : ws.length ≤ 2517 := k2
  obtain ⟨-, x, b2, ex⟩ := a_plc (a := 65) (e' := ([(0, 1)], 0)) (g_get hK 0 rfl) (by decide) ca
  refine ⟨Nat.le_of_ble_eq_true rfl, g_copy (by decide) ca cb (by omega) (by omega) (fun j hj => g_int rfl rfl hf (by omega)) ?_⟩
  refine ⟨τ, r, g_copy_J hH ta tb ca cb, _, List.mem_cons_self, by rw [List.length_set]; exact Nat.le_refl _, by rw [p_sl_set cb (by show vs.length = ws.length; omega)]; exact Nat.le_refl _, fun _ _ => rfl, g_F0, trivial, g_c ?_ (g_c ?_ g_n)⟩
  · exact a_mkp (a := 65) (g_wl rfl) (by decide) ta (a_ga (by decide) ca) b2 ex
  · exact a_mkp (a := 66) (g_wl rfl) (by decide) tb (a_gs cb) b2 ex
section TA2
variable {τ : Nat → Option Nat} {r : Nat → Int} {n : Nat} {h : p_H}
/-- the class's reader ahead of read -/
theorem a_Z {N : Nat} {fs : List Value} (hH : x_H x_EE τ h) (t43 : τ 43 = some 43) (t64 : τ 64 = some 64) (h22 : x_m x_EE τ r n h (([], 0), 64, 1000023, (1, 0, ([], 1)))) (e43 : h[43]? = some (0, 3, fs)) (f1 : fs[1]? = some (.int (Int32.ofNat N))) (hW : h[1]? = some (2, 2, p_wds)) : c_Z h (g_by (g_ms 23 h)) N := by
  obtain ⟨fs', tp, c43, fl, f0, t44, e44, tl, hb⟩ := a_t44 hH t43
  have ef : fs' = fs := by
    have := c43.symm.trans e43
    simp only [Option.some.injEq, Prod.mk.injEq, true_and] at this
    exact this
  subst ef
  obtain ⟨vs, ws, e64, vl, v3, t68, e68, wl, hw⟩ := a_t68 hH t64
  obtain ⟨gs, c43', -, -, hf, -⟩ := g_cell hH t43 (show x_KL[43]? = some _ from rfl)
  have eg : gs = fs' := by
    have := c43'.symm.trans e43
    simp only [Option.some.injEq, Prod.mk.injEq, true_and] at this
    exact this
  subst eg
  obtain ⟨f8, t45⟩ := a_rf (b := 45) hf (show 8 < gs.length by omega) rfl (by decide)
  obtain ⟨f14, t46⟩ := a_rf (b := 46) hf (show 14 < gs.length by omega) rfl (by decide)
  obtain ⟨y10, f10, -⟩ := a_it (lo := -2147483648) (hi := 2147483647) hf (show 10 < gs.length by omega) rfl
  obtain ⟨y15, f15, -⟩ := a_it (lo := 0) (hi := 600) hf (show 15 < gs.length by omega) rfl
  obtain ⟨y16, f16, -⟩ := a_it (lo := -2147483648) (hi := 2147483647) hf (show 16 < gs.length by omega) rfl
  obtain ⟨rw_, e45, p1, p2, hr, -⟩ := g_cell hH t45 (show x_KL[45]? = some _ from rfl)
  have p1 : 168 ≤ rw_.length := p1
  have p2 : rw_.length ≤ 168 := p2
  obtain ⟨cw, e46, q1, q2, hc, -⟩ := g_cell hH t46 (show x_KL[46]? = some _ from rfl)
  have q1 : 600 ≤ cw.length := q1
  have q2 : cw.length ≤ 600 := q2
  refine ⟨gs, tp, rw_, cw, y10, y15, y16, e43, fl, f0, f1, f8, f10, f14, f15, f16, e44, fun k hk => ?_, hW, e45, by omega, fun k hk => g_int rfl rfl hr hk, e46, by omega, fun k hk => g_int rfl rfl hc hk⟩
  obtain ⟨y, hy⟩ := hb k hk
  obtain ⟨z, hz, z0, z1⟩ := hw k hk
  have ez : g_ms 23 h 68 k = z.toInt := by rw [g_ms_at (a_l23_68 _ (by omega)), g_vs_at e68]; exact g_at_int hz
  have hq := a_un22 h22 e44 e68 k hk
  rw [show g_at tp k = y.toInt from g_at_int hy, show g_at ws k = z.toInt from g_at_int hz] at hq
  have eb : ((g_by (g_ms 23 h) k : Nat) : Int) = z.toInt := by unfold g_by; rw [ez]; omega
  refine ⟨⟨y, hy, ?_⟩, by omega⟩
  exact Int32.toInt_inj.mp (by rw [t_a8_i, g_ofNat (by omega), hq, eb])
/-- the reference ahead of readText -/
theorem a_so (y : Int32) : ∃ so : Nat, y = Int32.ofNat so := ⟨y.toBitVec.toNat, Int32.toBitVec_inj.mp (by simp)⟩
theorem a_rZ {N c : Nat} {vs av : List Value} (hH : x_H x_EE τ h) (t64 : τ 64 = some 64) (e64 : h[64]? = some (0, 12, vs)) (v4 : vs[4]? = some (.int (Int32.ofNat N))) (e65 : h[65]? = some (1, 0, av)) (a1 : av[1]? = some (.int (Int32.ofNat c))) : r_Z h (g_by (g_ms 23 h)) N c := by
  obtain ⟨vs', ws, c64, vl, v3, t68, e68, wl, hw⟩ := a_t68 hH t64
  obtain ⟨gs, c64', -, -, hf, -⟩ := g_cell hH t64 (show x_KL[64]? = some _ from rfl)
  have ev : vs' = vs := by
    have := c64.symm.trans e64
    simp only [Option.some.injEq, Prod.mk.injEq, true_and] at this
    exact this
  subst ev
  have eg : gs = vs' := by
    have := c64'.symm.trans e64
    simp only [Option.some.injEq, Prod.mk.injEq, true_and] at this
    exact this
  subst eg
  obtain ⟨f0, t65⟩ := a_rf (b := 65) hf (show 0 < gs.length by omega) rfl (by decide)
  obtain ⟨f2, t67⟩ := a_rf (b := 67) hf (show 2 < gs.length by omega) rfl (by decide)
  obtain ⟨f15, t69⟩ := a_rf (b := 69) hf (show 15 < gs.length by omega) rfl (by decide)
  obtain ⟨f16, t70⟩ := a_rf (b := 70) hf (show 16 < gs.length by omega) rfl (by decide)
  obtain ⟨x10, f10, -⟩ := a_it (lo := -2147483648) (hi := 2147483647) hf (show 10 < gs.length by omega) rfl
  obtain ⟨x14, f14, -⟩ := a_it (lo := -2147483648) (hi := 2147483647) hf (show 14 < gs.length by omega) rfl
  obtain ⟨y17, f17, -⟩ := a_it (lo := 0) (hi := 160) hf (show 17 < gs.length by omega) rfl
  obtain ⟨y18, f18, -⟩ := a_it (lo := -2147483648) (hi := 2147483647) hf (show 18 < gs.length by omega) rfl
  obtain ⟨y19, f19, -⟩ := a_it (lo := -2147483648) (hi := 2147483647) hf (show 19 < gs.length by omega) rfl
  obtain ⟨y20, f20, -⟩ := a_it (lo := 0) (hi := 1) hf (show 20 < gs.length by omega) rfl
  have q11 := hf 11 _ (List.getElem?_eq_getElem (show 11 < gs.length by omega))
  obtain ⟨z11, g11⟩ := (show ∃ x : Int64, gs[11] = .long x from q11)
  have f11 : gs[11]? = some (.long z11) := by rw [List.getElem?_eq_getElem (show 11 < gs.length by omega), g11]
  obtain ⟨so, eso⟩ := a_so x14
  rw [eso] at f14
  obtain ⟨tv, e67, p1, p2, -, -⟩ := g_cell hH t67 (show x_KL[67]? = some _ from rfl)
  have p1 : 3108 ≤ tv.length := p1
  have p2 : tv.length ≤ 3108 := p2
  obtain ⟨pv, e69, q1, q2, -, -⟩ := g_cell hH t69 (show x_KL[69]? = some _ from rfl)
  have q1 : 160 ≤ pv.length := q1
  have q2 : pv.length ≤ 160 := q2
  obtain ⟨cv, e70, s1, s2, -, -⟩ := g_cell hH t70 (show x_KL[70]? = some _ from rfl)
  have s1 : 9 ≤ cv.length := s1
  have s2 : cv.length ≤ 9 := s2
  refine ⟨gs, tv, ws, pv, cv, av, so, x10, y17, y18, y19, y20, z11, e64, vl, f0, f2, v3, v4, f10, f11, f14, f15, f16, f17, f18, f19, f20, e65, a1, e67, by omega, e68, fun k hk => ?_, e69, by omega, e70, by omega⟩
  obtain ⟨z, hz, z0, z1⟩ := hw k hk
  have ez : g_ms 23 h 68 k = z.toInt := by rw [g_ms_at (a_l23_68 _ (by omega)), g_vs_at e68]; exact g_at_int hz
  have eb : ((g_by (g_ms 23 h) k : Nat) : Int) = z.toInt := by unfold g_by; rw [ez]; omega
  refine ⟨?_, by omega⟩
  rw [hz]
  exact congrArg (fun q => some (Value.int q)) (Int32.toInt_inj.mp (by rw [g_ofNat (by omega), eb]))
/-- the ghost of what the tape answers -/
theorem a_tr {N : Nat} (h4 : g_ms 23 h 64 4 = (N : Int)) : g_tr (g_ms 23 h) = t_text (g_by (g_ms 23 h)) N := by
  unfold g_tr; rw [h4, Int.toNat_natCast]
theorem a_64 {vs : List Value} {x : Int32} (e64 : h[64]? = some (0, 12, vs)) (v4 : vs[4]? = some (.int x)) : g_ms 23 h 64 4 = x.toInt := by
  rw [g_ms_at a_l23_64, g_vs_at e64]; exact g_at_int v4
end TA2
theorem a_out2 {q a b : x_Q} (h : q ∈ [a, b]) : q = a ∨ q = b := by
  rcases List.mem_cons.mp h with e | e
  · exact Or.inl e
  · exact Or.inr (List.mem_singleton.mp e)
theorem ho_chL2 : x_OK p_GT p_MT x_EE chL2 := by
  refine ⟨?_, m_X3_read, rfl⟩
  intro τ r h as M hM hH hA hF hK
  cases (show some m_X3_read = some M from hM)
  obtain ⟨a, V, rfl, ha, hA⟩ := x_t3 (show x_vs τ r 1 [(3, 43, ([], ((43 : Nat) : Int)))] as from hA)
  rw [g_nil hA]
  obtain ⟨rfl, t43⟩ := g_ref ha
  have h0 : 0 ≤ r 0 ∧ r 0 ≤ 300 := g_get hF.1 0 rfl
  obtain ⟨hb1, hb2⟩ := ho_533.1 τ r h [.ref 43] m_X3_read rfl hH ⟨⟨q_wl_nil, 43, rfl, by simp [q_e, q_ev], t43⟩, trivial⟩ g_F0 (g_c (a_len0 (a := 1) (g_get hK 0 rfl)) (g_c (a_len0 (a := 79) (g_get hK 1 rfl)) g_n))
  have h80 := g_80 (g_get hK 1 rfl)
  obtain ⟨c43, h43⟩ := a_cell (a := 43) (by decide) h80
  obtain ⟨c64, h64⟩ := a_cell (a := 64) (by decide) h80
  obtain ⟨c1, h1⟩ := a_cell (a := 1) (by decide) h80
  obtain ⟨-, x1, f1, ex1⟩ := a_plc (a := 43) (e' := ([(0, 1)], 0)) (g_get hK 2 rfl) (by decide) h43
  obtain ⟨t64, x4, f4, ex4⟩ := a_plc (a := 64) (e' := ([(0, 1)], 0)) (g_get hK 3 rfl) (by decide) h64
  rw [g_v] at ex1 ex4
  obtain ⟨N, hN⟩ : ∃ N : Nat, r 0 = N := ⟨(r 0).toNat, by omega⟩
  have e1 : x1 = Int32.ofNat N := g_i32 (by omega) (by omega)
  have e4 : x4 = Int32.ofNat N := g_i32 (by omega) (by omega)
  subst e1; subst e4
  obtain ⟨fs, g43, -⟩ := g_cell hH t43 (show x_KL[43]? = some _ from rfl)
  have q43 : c43 = (0, 3, fs) := Option.some.inj (h43.symm.trans g43)
  subst q43
  obtain ⟨vs, g64, -⟩ := g_cell hH t64 (show x_KL[64]? = some _ from rfl)
  have q64 : c64 = (0, 12, vs) := Option.some.inj (h64.symm.trans g64)
  subst q64
  obtain ⟨t1, y0, w0, z0⟩ := a_plcl (a := 1) (z := 469853041779) (g_get hK 5 rfl) (by decide) h1
  rw [show y0 = 469853041779 from Int64.toInt_inj.mp (by rw [z0]; decide +kernel)] at w0
  obtain ⟨t1, y1, w1, z1⟩ := a_plcl (a := 1) (z := 495622843507) (g_get hK 6 rfl) (by decide) h1
  rw [show y1 = 495622843507 from Int64.toInt_inj.mp (by rw [z1]; decide +kernel)] at w1
  obtain ⟨t1, y2, w2, z2⟩ := a_plcl (a := 1) (z := 1919906931) (g_get hK 7 rfl) (by decide) h1
  rw [show y2 = 1919906931 from Int64.toInt_inj.mp (by rw [z2]; decide +kernel)] at w2
  obtain ⟨t1, y3, w3, z3⟩ := a_plcl (a := 1) (z := 1886350948) (g_get hK 8 rfl) (by decide) h1
  rw [show y3 = 1886350948 from Int64.toInt_inj.mp (by rw [z3]; decide +kernel)] at w3
  obtain ⟨t1, y4, w4, z4⟩ := a_plcl (a := 1) (z := 495689623668) (g_get hK 9 rfl) (by decide) h1
  rw [show y4 = 495689623668 from Int64.toInt_inj.mp (by rw [z4]; decide +kernel)] at w4
  obtain ⟨t1, y5, w5, z5⟩ := a_plcl (a := 1) (z := 7561591) (g_get hK 10 rfl) (by decide) h1
  rw [show y5 = 7561591 from Int64.toInt_inj.mp (by rw [z5]; decide +kernel)] at w5
  obtain ⟨t1, y6, w6, z6⟩ := a_plcl (a := 1) (z := 427121668979) (g_get hK 11 rfl) (by decide) h1
  rw [show y6 = 427121668979 from Int64.toInt_inj.mp (by rw [z6]; decide +kernel)] at w6
  obtain ⟨t1, y7, w7, z7⟩ := a_plcl (a := 1) (z := 1936026732) (g_get hK 12 rfl) (by decide) h1
  rw [show y7 = 1936026732 from Int64.toInt_inj.mp (by rw [z7]; decide +kernel)] at w7
  obtain ⟨t1, y8, w8, z8⟩ := a_plcl (a := 1) (z := 495874892151) (g_get hK 13 rfl) (by decide) h1
  rw [show y8 = 495874892151 from Int64.toInt_inj.mp (by rw [z8]; decide +kernel)] at w8
  obtain ⟨t1, y9, w9, z9⟩ := a_plcl (a := 1) (z := 6578553) (g_get hK 14 rfl) (by decide) h1
  rw [show y9 = 6578553 from Int64.toInt_inj.mp (by rw [z9]; decide +kernel)] at w9
  obtain ⟨t1, y10, w10, z10⟩ := a_plcl (a := 1) (z := 1751474548) (g_get hK 15 rfl) (by decide) h1
  rw [show y10 = 1751474548 from Int64.toInt_inj.mp (by rw [z10]; decide +kernel)] at w10
  obtain ⟨t1, y11, w11, z11⟩ := a_plcl (a := 1) (z := 1936292453) (g_get hK 16 rfl) (by decide) h1
  rw [show y11 = 1936292453 from Int64.toInt_inj.mp (by rw [z11]; decide +kernel)] at w11
  obtain ⟨t1, y12, w12, z12⟩ := a_plcl (a := 1) (z := 120282378691940) (g_get hK 17 rfl) (by decide) h1
  rw [show y12 = 120282378691940 from Int64.toInt_inj.mp (by rw [z12]; decide +kernel)] at w12
  obtain ⟨t1, y13, w13, z13⟩ := a_plcl (a := 1) (z := 1701078885) (g_get hK 18 rfl) (by decide) h1
  rw [show y13 = 1701078885 from Int64.toInt_inj.mp (by rw [z13]; decide +kernel)] at w13
  obtain ⟨t1, y14, w14, z14⟩ := a_plcl (a := 1) (z := 126896543659123) (g_get hK 19 rfl) (by decide) h1
  rw [show y14 = 126896543659123 from Int64.toInt_inj.mp (by rw [z14]; decide +kernel)] at w14
  obtain ⟨t1, y15, w15, z15⟩ := a_plcl (a := 1) (z := 461330343027) (g_get hK 20 rfl) (by decide) h1
  rw [show y15 = 461330343027 from Int64.toInt_inj.mp (by rw [z15]; decide +kernel)] at w15
  obtain ⟨t1, y16, w16, z16⟩ := a_plcl (a := 1) (z := 25209) (g_get hK 21 rfl) (by decide) h1
  rw [show y16 = 25209 from Int64.toInt_inj.mp (by rw [z16]; decide +kernel)] at w16
  obtain ⟨t1, y17, w17, z17⟩ := a_plcl (a := 1) (z := 24948) (g_get hK 22 rfl) (by decide) h1
  rw [show y17 = 24948 from Int64.toInt_inj.mp (by rw [z17]; decide +kernel)] at w17
  obtain ⟨t1, y18, w18, z18⟩ := a_plcl (a := 1) (z := 1684366704) (g_get hK 23 rfl) (by decide) h1
  rw [show y18 = 1684366704 from Int64.toInt_inj.mp (by rw [z18]; decide +kernel)] at w18
  obtain ⟨t1, y19, w19, z19⟩ := a_plcl (a := 1) (z := 29807) (g_get hK 24 rfl) (by decide) h1
  rw [show y19 = 29807 from Int64.toInt_inj.mp (by rw [z19]; decide +kernel)] at w19
  obtain ⟨t1, y20, w20, z20⟩ := a_plcl (a := 1) (z := 7238760) (g_get hK 25 rfl) (by decide) h1
  rw [show y20 = 7238760 from Int64.toInt_inj.mp (by rw [z20]; decide +kernel)] at w20
  obtain ⟨t1, y21, w21, z21⟩ := a_plcl (a := 1) (z := 28518) (g_get hK 26 rfl) (by decide) h1
  rw [show y21 = 28518 from Int64.toInt_inj.mp (by rw [z21]; decide +kernel)] at w21
  obtain ⟨ys, g1, l1, l2, -, -⟩ := g_cell hH t1 (show x_KL[1]? = some _ from rfl)
  have l1 : 22 ≤ ys.length := l1
  have l2 : ys.length ≤ 22 := l2
  have q1 : c1 = (2, 2, ys) := Option.some.inj (h1.symm.trans g1)
  subst q1
  have ew : ys = p_wds := by
    apply List.ext_getElem?
    intro j
    by_cases hj : j < 22
    · have e : j = 0 ∨ j = 1 ∨ j = 2 ∨ j = 3 ∨ j = 4 ∨ j = 5 ∨ j = 6 ∨ j = 7 ∨ j = 8 ∨ j = 9 ∨ j = 10 ∨ j = 11 ∨ j = 12 ∨ j = 13 ∨ j = 14 ∨ j = 15 ∨ j = 16 ∨ j = 17 ∨ j = 18 ∨ j = 19 ∨ j = 20 ∨ j = 21 := by omega
      rcases e with rfl | rfl | rfl | rfl | rfl | rfl | rfl | rfl | rfl | rfl | rfl | rfl | rfl | rfl | rfl | rfl | rfl | rfl | rfl | rfl | rfl | rfl
      · exact w0
      · exact w1
      · exact w2
      · exact w3
      · exact w4
      · exact w5
      · exact w6
      · exact w7
      · exact w8
      · exact w9
      · exact w10
      · exact w11
      · exact w12
      · exact w13
      · exact w14
      · exact w15
      · exact w16
      · exact w17
      · exact w18
      · exact w19
      · exact w20
      · exact w21
    · rw [List.getElem?_eq_none (show ys.length ≤ j by omega), List.getElem?_eq_none (show p_wds.length ≤ j by show 22 ≤ j; omega)]
  subst ew
  have hZ := a_Z hH t43 t64 (g_get hK 4 rfl) g43 f1 g1
  have e23 : g_ms 23 h 64 4 = (N : Int) := by rw [a_64 g64 f4, g_ofNat (by omega)]
  have etr := a_tr e23
  obtain ⟨rr, hrr⟩ : ∃ rr, t_text (g_by (g_ms 23 h)) N = rr := ⟨_, rfl⟩
  rw [hrr] at etr
  have b99 : rr.1 ≤ 99 := by rw [← hrr]; exact t_text_99
  have b300 : rr.2 ≤ 300 := by rw [← hrr]; exact Nat.le_trans t_text_le (by omega)
  refine ⟨Nat.le_of_ble_eq_true rfl, (p_both hb2 (c_read (dd := 0) hZ (by omega) hrr)).mono (Nat.le_of_ble_eq_true rfl) ?_⟩
  rintro v h2 ⟨⟨τ2, r2, hJ, q, hq, o1, o2, o3, o4, o5, o6⟩, hv, fs2, d43, d1, d2, d3⟩
  have t43b : τ2 43 = some 43 := hJ.1 _ _ t43
  by_cases e0 : rr.1 = 0
  · rw [if_pos e0] at hv d3
    rw [e0] at d2
    rcases a_out2 hq with rfl | rfl
    · have ev : ∃ i : Nat, v = some (.ref i) ∧ (i : Int) = r2 0 ∧ τ2 i = some 80 := by
        cases v with
        | none => exact o5.elim
        | some v =>
          obtain ⟨-, i, u1, u2, u3⟩ := o5
          exact ⟨i, congrArg some u1, u2.trans (g_v r2 0), u3⟩
      obtain ⟨i, rfl, u2, u3⟩ := ev
      have kp : ∀ m, x_kp x_EE.1 chL2.2.2.2.2.2.1 m = true → x_m x_EE τ r 1 h m → x_m x_EE τ2 (x_up r 1 (r2 0)) 2 h2 m := fun m k1 k2 => x_kp_m x_EE_EO hH k1 hJ.2.2.2 k2 (fun i hi => x_up_lt i hi) (by decide) hJ.1
      refine ⟨τ2, x_up r 1 (r2 0), hJ, _, List.mem_cons_self, o1, o2, fun i hi => x_up_lt i hi, g_F0, ⟨g_wl rfl, i, rfl, by rw [g_v, x_up_at]; exact u2, u3⟩, g_c ?_ (g_c ?_ (g_c ?_ (g_c ?_ (g_c ?_ (g_c ?_ g_n)))))⟩
      · exact kp _ (by decide +kernel) (g_get hK 3 rfl)
      · exact kp _ (by decide +kernel) (g_get hK 4 rfl)
      · exact a_mkp (a := 43) (g_wl rfl) (by decide) t43b d43 d1 (by rw [a_k0]; decide)
      · exact a_mkp (a := 43) (g_wl rfl) (by decide) t43b d43 d2 (by rw [a_k0]; decide)
      · exact a_mkp (a := 43) (g_wl rfl) (by decide) t43b d43 d3 (by rw [a_k0]; decide)
      · exact kp _ (by decide +kernel) (a_mk23 (p := 0) (g_wl rfl) h80 (by unfold g_fp; rw [if_pos (show ((0 : Nat) : Int) = 0 from rfl), etr, e0, a_k0]; rfl))
    · exfalso
      obtain ⟨i, rfl⟩ := hv
      have := o5.2
      exact absurd (show Value.ref i = Value.null from this) (by simp)
  · rw [if_neg e0] at hv d3
    subst hv
    rcases a_out2 hq with rfl | rfl
    · exfalso
      obtain ⟨-, i, u1, -⟩ := o5
      exact absurd (show Value.null = Value.ref i from u1) (by simp)
    · obtain ⟨r3, er⟩ : ∃ r3, r3 = x_up (x_up r 1 (rr.1 : Int)) 2 (rr.2 : Int) := ⟨_, rfl⟩
      have r31 : r3 1 = rr.1 := by rw [er]; rw [x_up_lt 1 (by decide), x_up_at]
      have r32 : r3 2 = rr.2 := by rw [er, x_up_at]
      have rlt : ∀ i, i < 1 → r3 i = r i := fun i hi => by rw [er, x_up_lt i (by omega), x_up_lt i hi]
      have kp : ∀ m, x_kp x_EE.1 chL2.2.2.2.2.2.1 m = true → x_m x_EE τ r 1 h m → x_m x_EE τ2 r3 3 h2 m := fun m k1 k2 => x_kp_m x_EE_EO hH k1 hJ.2.2.2 k2 rlt (by decide) hJ.1
      have kp3 : ∀ m, x_kp x_EE.1 chL2.2.2.2.2.2.1 m = true → x_m x_EE τ r3 3 h m → x_m x_EE τ2 r3 3 h2 m := fun m k1 k2 => x_kp_m x_EE_EO hH k1 hJ.2.2.2 k2 (fun _ _ => rfl) (Nat.le_refl _) hJ.1
      refine ⟨τ2, r3, hJ, _, List.mem_cons_of_mem _ List.mem_cons_self, o1, o2, rlt, ⟨g_io (by omega) (g_io (by omega) g_io0), g_n, g_n⟩, ⟨q_wl_nil, rfl⟩, g_c ?_ (g_c ?_ (g_c ?_ (g_c ?_ (g_c ?_ (g_c ?_ (g_c ?_ g_n))))))⟩
      · exact kp _ (by decide +kernel) (g_get hK 3 rfl)
      · exact kp _ (by decide +kernel) (g_get hK 4 rfl)
      · exact a_mkp (a := 43) (g_wl rfl) (by decide) t43b d43 d1 (by rw [a_k0]; decide)
      · exact a_mkp (a := 43) (g_wl rfl) (by decide) t43b d43 d2 (by rw [g_v, r31, g_ofNat (by omega)])
      · exact a_mkp (a := 43) (g_wl rfl) (by decide) t43b d43 d3 (by rw [g_v, r32, g_ofNat (by omega)])
      · exact kp3 _ (by decide +kernel) (a_mk23 (p := 0) (g_wl rfl) h80 (by unfold g_fp; rw [if_pos (show ((0 : Nat) : Int) = 0 from rfl), etr, g_v, r31]))
      · exact kp3 _ (by decide +kernel) (a_mk23 (p := 1) (g_wl rfl) h80 (by unfold g_fp; rw [if_neg (by decide), etr, g_v, r32]))
theorem ho_chL3 : x_OK p_GT p_MT x_EE chL3 := by
  refine ⟨?_, m_X12_readText, rfl⟩
  intro τ r h as M hM hH hA hF hK
  cases (show some m_X12_readText = some M from hM)
  obtain ⟨a, V, rfl, ha, hA⟩ := x_t3 (show x_vs τ r 2 [(3, 64, ([], ((64 : Nat) : Int)))] as from hA)
  rw [g_nil hA]
  obtain ⟨rfl, t64⟩ := g_ref ha
  have h0 : 0 ≤ r 0 ∧ r 0 ≤ 3 := g_get hF.1 0 rfl
  have h1 : 0 ≤ r 1 ∧ r 1 ≤ 300 := g_get hF.1 1 rfl
  have h80 := g_80 (g_get hK 1 rfl)
  obtain ⟨c64, h64⟩ := a_cell (a := 64) (by decide) h80
  obtain ⟨c65, h65⟩ := a_cell (a := 65) (by decide) h80
  obtain ⟨t65, x0, a1, ex0⟩ := a_plc (a := 65) (e' := ([(0, 1)], 0)) (g_get hK 0 rfl) (by decide) h65
  obtain ⟨-, x4, f4, ex4⟩ := a_plc (a := 64) (e' := ([(1, 1)], 0)) (g_get hK 2 rfl) (by decide) h64
  rw [g_v] at ex0 ex4
  obtain ⟨c, hc⟩ : ∃ c : Nat, r 0 = c := ⟨(r 0).toNat, by omega⟩
  obtain ⟨N, hN⟩ : ∃ N : Nat, r 1 = N := ⟨(r 1).toNat, by omega⟩
  have e0 : x0 = Int32.ofNat c := g_i32 (by omega) (by omega)
  have e4 : x4 = Int32.ofNat N := g_i32 (by omega) (by omega)
  subst e0; subst e4
  obtain ⟨vs, g64, -⟩ := g_cell hH t64 (show x_KL[64]? = some _ from rfl)
  have q64 : c64 = (0, 12, vs) := Option.some.inj (h64.symm.trans g64)
  subst q64
  obtain ⟨av, g65, -⟩ := g_cell hH t65 (show x_KL[65]? = some _ from rfl)
  have q65 : c65 = (1, 0, av) := Option.some.inj (h65.symm.trans g65)
  subst q65
  obtain ⟨hb1, hb2⟩ := ho_331.1 τ r h [.ref 64] m_X12_readText rfl hH ⟨⟨q_wl_nil, 64, rfl, by simp [q_e, q_ev], t64⟩, trivial⟩ ⟨g_io h0 g_io0, g_n, g_n⟩ (g_c (a_mkp (a := 65) (g_wl rfl) (by decide) t65 h65 a1 (by rw [g_v]; exact ex0)) (g_c (a_len0 (a := 79) (g_get hK 1 rfl)) g_n))
  have e23 : g_ms 23 h 64 4 = (N : Int) := by rw [a_64 g64 f4, g_ofNat (by omega)]
  have etr := a_tr e23
  obtain ⟨rr, hrr⟩ : ∃ rr, t_text (g_by (g_ms 23 h)) N = rr := ⟨_, rfl⟩
  rw [hrr] at etr
  have g0 := a_un23 (p := 0) (g_get hK 3 rfl)
  unfold g_fp at g0
  rw [if_pos (show ((0 : Nat) : Int) = 0 from rfl), etr] at g0
  rw [a_k0] at g0
  have e00 : rr.1 = 0 := by omega
  refine ⟨Nat.le_of_ble_eq_true rfl, (p_both hb2 (r_readText (dd := 0) (a_rZ hH t64 g64 f4 g65 a1) (by omega) (by omega) hrr)).mono (Nat.le_of_ble_eq_true rfl) ?_⟩
  rintro v h2 ⟨⟨τ2, r2, hJ, q, hq, o1, o2, -, -, -, -⟩, rfl, w2, so2, t2, m2, on2, hS2⟩
  have oo : ∀ q ∈ cc331.2.2.2.2.2.2.2.2.2, q.2.2.2.2.1 = 0 ∧ q.2.2.2.2.2 = 0 := by decide +kernel
  obtain ⟨z1, z2⟩ := oo q hq
  rw [z1] at o1
  rw [z2] at o2
  have kp : ∀ m, x_kp x_EE.1 chL3.2.2.2.2.2.1 m = true → x_m x_EE τ r 2 h m → x_m x_EE τ2 r 2 h2 m := fun m k1 k2 => x_kp_m x_EE_EO hH k1 hJ.2.2.2 k2 (fun _ _ => rfl) (Nat.le_refl _) hJ.1
  exact ⟨τ2, r, hJ, _, List.mem_cons_self, o1, o2, fun _ _ => rfl, g_F0, ⟨g_wl rfl, _, rfl, by rw [e00, a_k0]; decide⟩, g_c (kp _ (by decide +kernel) (g_get hK 0 rfl)) (g_c (kp _ (by decide +kernel) (g_get hK 1 rfl)) (g_c (kp _ (by decide +kernel) (g_get hK 2 rfl)) (g_c (kp _ (by decide +kernel) (g_get hK 3 rfl)) (g_n))))⟩
theorem ho_chL4 : x_OK p_GT p_MT x_EE chL4 := by
  refine ⟨?_, m_X12_readText, rfl⟩
  intro τ r h as M hM hH hA hF hK
  cases (show some m_X12_readText = some M from hM)
  obtain ⟨a, V, rfl, ha, hA⟩ := x_t3 (show x_vs τ r 4 [(3, 64, ([], ((64 : Nat) : Int)))] as from hA)
  rw [g_nil hA]
  obtain ⟨rfl, t64⟩ := g_ref ha
  have h0 : 0 ≤ r 0 ∧ r 0 ≤ 3 := g_get hF.1 0 rfl
  have h1 : 0 ≤ r 1 ∧ r 1 ≤ 300 := g_get hF.1 1 rfl
  have b2 : 1 ≤ r 2 ∧ r 2 ≤ 99 := g_get hF.1 2 rfl
  have b3 : 0 ≤ r 3 ∧ r 3 ≤ 300 := g_get hF.1 3 rfl
  have h80 := g_80 (g_get hK 1 rfl)
  obtain ⟨c64, h64⟩ := a_cell (a := 64) (by decide) h80
  obtain ⟨c65, h65⟩ := a_cell (a := 65) (by decide) h80
  obtain ⟨t65, x0, a1, ex0⟩ := a_plc (a := 65) (e' := ([(0, 1)], 0)) (g_get hK 0 rfl) (by decide) h65
  obtain ⟨-, x4, f4, ex4⟩ := a_plc (a := 64) (e' := ([(1, 1)], 0)) (g_get hK 2 rfl) (by decide) h64
  rw [g_v] at ex0 ex4
  obtain ⟨c, hc⟩ : ∃ c : Nat, r 0 = c := ⟨(r 0).toNat, by omega⟩
  obtain ⟨N, hN⟩ : ∃ N : Nat, r 1 = N := ⟨(r 1).toNat, by omega⟩
  have e0 : x0 = Int32.ofNat c := g_i32 (by omega) (by omega)
  have e4 : x4 = Int32.ofNat N := g_i32 (by omega) (by omega)
  subst e0; subst e4
  obtain ⟨vs, g64, -⟩ := g_cell hH t64 (show x_KL[64]? = some _ from rfl)
  have q64 : c64 = (0, 12, vs) := Option.some.inj (h64.symm.trans g64)
  subst q64
  obtain ⟨av, g65, -⟩ := g_cell hH t65 (show x_KL[65]? = some _ from rfl)
  have q65 : c65 = (1, 0, av) := Option.some.inj (h65.symm.trans g65)
  subst q65
  obtain ⟨hb1, hb2⟩ := ho_331.1 τ r h [.ref 64] m_X12_readText rfl hH ⟨⟨q_wl_nil, 64, rfl, by simp [q_e, q_ev], t64⟩, trivial⟩ ⟨g_io h0 g_io0, g_n, g_n⟩ (g_c (a_mkp (a := 65) (g_wl rfl) (by decide) t65 h65 a1 (by rw [g_v]; exact ex0)) (g_c (a_len0 (a := 79) (g_get hK 1 rfl)) g_n))
  have e23 : g_ms 23 h 64 4 = (N : Int) := by rw [a_64 g64 f4, g_ofNat (by omega)]
  have etr := a_tr e23
  obtain ⟨rr, hrr⟩ : ∃ rr, t_text (g_by (g_ms 23 h)) N = rr := ⟨_, rfl⟩
  rw [hrr] at etr
  have g0 := a_un23 (p := 0) (g_get hK 3 rfl)
  unfold g_fp at g0
  rw [if_pos (show ((0 : Nat) : Int) = 0 from rfl), etr] at g0
  rw [g_v] at g0
  have g1 := a_un23 (p := 1) (g_get hK 4 rfl)
  unfold g_fp at g1
  rw [if_neg (by decide), etr, g_v] at g1
  refine ⟨Nat.le_of_ble_eq_true rfl, (p_both hb2 (r_readText (dd := 0) (a_rZ hH t64 g64 f4 g65 a1) (by omega) (by omega) hrr)).mono (Nat.le_of_ble_eq_true rfl) ?_⟩
  rintro v h2 ⟨⟨τ2, r2, hJ, q, hq, o1, o2, -, -, -, -⟩, rfl, w2, so2, t2, m2, on2, hS2⟩
  have oo : ∀ q ∈ cc331.2.2.2.2.2.2.2.2.2, q.2.2.2.2.1 = 0 ∧ q.2.2.2.2.2 = 0 := by decide +kernel
  obtain ⟨z1, z2⟩ := oo q hq
  rw [z1] at o1
  rw [z2] at o2
  have kp : ∀ m, x_kp x_EE.1 chL4.2.2.2.2.2.1 m = true → x_m x_EE τ r 4 h m → x_m x_EE τ2 r 4 h2 m := fun m k1 k2 => x_kp_m x_EE_EO hH k1 hJ.2.2.2 k2 (fun _ _ => rfl) (Nat.le_refl _) hJ.1
  obtain ⟨fs2, tv2, tp2, pv2, cv2, y172, y182, y192, y202, av2, y12, e642, fl2, f22, f32, f42, ⟨f82, -⟩, -⟩ := hS2
  exact ⟨τ2, r, hJ, _, List.mem_cons_self, o1, o2, fun _ _ => rfl, g_F0, ⟨g_wl rfl, _, rfl, by rw [g_v, ← g0, g_ofNat (by omega)]⟩, g_c (kp _ (by decide +kernel) (g_get hK 0 rfl)) (g_c (kp _ (by decide +kernel) (g_get hK 1 rfl)) (g_c (kp _ (by decide +kernel) (g_get hK 2 rfl)) (g_c (kp _ (by decide +kernel) (g_get hK 3 rfl)) (g_c (kp _ (by decide +kernel) (g_get hK 4 rfl)) (g_c (a_mkp (a := 64) (g_wl rfl) (by decide) (hJ.1 _ _ t64) e642 f82 (by rw [g_v, ← g1, g_ofNat (by omega)])) (g_n))))))⟩
theorem ho_chL5 : x_OK p_GT p_MT x_EE chL5 := by
  refine ⟨?_, m_X11_feed, rfl⟩
  intro τ r h as M hM hH hA hF hK
  cases (show some m_X11_feed = some M from hM)
  obtain ⟨a, V, rfl, ha, hA⟩ := x_t3 (show x_vs τ r 6 [(3, 2, ([], ((2 : Nat) : Int))), (1, 0, ([(0, 1)], 0)), (1, 0, ([(1, 1)], 0)), (1, 0, ([(2, 1)], 0)), (1, 0, ([(3, 1)], 0)), (1, 0, ([(4, 1)], 0))] as from hA)
  obtain ⟨x1, V, rfl, -, hx1, hA⟩ := x_t1 hA
  obtain ⟨x2, V, rfl, -, hx2, hA⟩ := x_t1 hA
  obtain ⟨x3, V, rfl, -, hx3, hA⟩ := x_t1 hA
  obtain ⟨x4, V, rfl, -, hx4, hA⟩ := x_t1 hA
  obtain ⟨x5, V, rfl, -, hx5, hA⟩ := x_t1 hA
  rw [g_nil hA]
  obtain ⟨rfl, t2⟩ := g_ref ha
  rw [g_v] at hx1 hx2 hx3 hx4 hx5
  have h5 : 0 ≤ r 5 ∧ r 5 ≤ 300 := g_get hF.1 5 rfl
  obtain ⟨N, hN⟩ : ∃ N : Nat, r 5 = N := ⟨(r 5).toNat, by omega⟩
  obtain ⟨hb1, hb2⟩ := ho_8.1 τ r h [.ref 2, .int x1, .int x2, .int x3, .int x4, .int x5] m_X11_feed rfl hH ⟨⟨q_wl_nil, 2, rfl, by simp [q_e, q_ev], t2⟩, ⟨g_wl rfl, x1, rfl, by rw [g_v]; exact hx1⟩, ⟨g_wl rfl, x2, rfl, by rw [g_v]; exact hx2⟩, ⟨g_wl rfl, x3, rfl, by rw [g_v]; exact hx3⟩, ⟨g_wl rfl, x4, rfl, by rw [g_v]; exact hx4⟩, ⟨g_wl rfl, x5, rfl, by rw [g_v]; exact hx5⟩, trivial⟩ ⟨g_io (g_get hF.1 0 rfl) (g_io (g_get hF.1 1 rfl) (g_io (g_get hF.1 2 rfl) (g_io (g_get hF.1 3 rfl) (g_io (g_get hF.1 4 rfl) (g_io0))))), g_n, g_n⟩ g_n
  have oo : ∀ q ∈ cc8.2.2.2.2.2.2.2.2.2, q.2.2.2.2.1 = 0 ∧ q.2.2.2.2.2 = 0 := by decide +kernel
  have h80 := (g_gho (g_get hK 0 rfl) 22 rfl).1
  obtain ⟨c43, h43⟩ := a_cell (a := 43) (by decide) h80
  obtain ⟨c68, h68⟩ := a_cell (a := 68) (by decide) h80
  obtain ⟨t43, x, f1, ex⟩ := a_plc (a := 43) (e' := ([(5, 1)], 0)) (g_get hK 1 rfl) (by decide) h43
  rw [g_v] at ex
  have e1 : x = Int32.ofNat N := g_i32 (by omega) (by omega)
  subst e1
  obtain ⟨f2, g2, l1, l2, hf, -⟩ := g_cell hH t2 (show x_KL[2]? = some _ from rfl)
  have l1 : 10 ≤ f2.length := l1
  obtain ⟨g3, -⟩ := a_rf (b := 43) hf (show 3 < f2.length by omega) rfl (by decide)
  obtain ⟨fs, tp, g43, fl, f0, t44, e44, tl, hb⟩ := a_t44 hH t43
  have q43 : c43 = (0, 3, fs) := Option.some.inj (h43.symm.trans g43)
  subst q43
  have hq := a_un22 (g_get hK 0 rfl) e44 h68
  have hC : c_TF h N (fun k => g_at tp k % 256) := ⟨fs, tp, g43, f0, f1, e44, tl, fun k hk => by
    obtain ⟨y, hy⟩ := hb k hk
    exact ⟨y, hy, by simp only; rw [show g_at tp k = y.toInt from g_at_int hy]⟩⟩
  by_cases hv : N + 20 ≤ 300
  · refine ⟨Nat.le_of_ble_eq_true rfl, (p_both hb2 (c_feed (dd := 0) g2 g3 hC hv)).mono (Nat.le_of_ble_eq_true rfl) ?_⟩
    rintro v h2 ⟨⟨τ2, r2, hJ, q, hq2, o1, o2, -, -, -, -⟩, rfl, hF2, hx⟩
    obtain ⟨z1, z2⟩ := oo q hq2
    rw [z1] at o1
    rw [z2] at o2
    rw [hx1, hx2, hx3, hx4, hx5] at hF2
    have hF2 : c_TF h2 (N + 20) (t_f5 (fun k => g_at tp k % 256) N r) := hF2
    obtain ⟨fs2, tp2, d43, d0, d1, d44, dl, hd⟩ := hF2
    have d68 : h2[68]? = some c68 := (hx 68 (by decide) (by decide)).trans h68
    have hat : ∀ k, k < 300 → g_at tp2 k % 256 = t_f5 (fun k => g_at tp k % 256) N r k := fun k hk => by
      obtain ⟨y, y1, y2⟩ := hd k hk
      rw [show g_at tp2 k = y.toInt from g_at_int y1, y2]
    have b80 : 80 ≤ h2.length := Nat.le_trans h80 (x_ef_len hJ.2.2.2)
    have hv4 : ∀ i, i < 5 → -2147483648 ≤ r i ∧ r i ≤ 2147483647 → g_v4 (g_at tp2 (N + 4 * i) % 256) (g_at tp2 (N + 4 * i + 1) % 256) (g_at tp2 (N + 4 * i + 2) % 256) (g_at tp2 (N + 4 * i + 3) % 256) = r i := fun i hi hr => by
      rw [hat _ (by omega), hat _ (by omega), hat _ (by omega), hat _ (by omega), t_f5_in (i := i) (j := 0) (by omega) hi (by decide), t_f5_in (i := i) (j := 1) (by omega) hi (by decide), t_f5_in (i := i) (j := 2) (by omega) hi (by decide), t_f5_in (i := i) (j := 3) (by omega) hi (by decide)]
      exact t_v4 hr.1 hr.2
    refine ⟨τ2, r, hJ, _, List.mem_cons_of_mem _ List.mem_cons_self, o1, o2, fun _ _ => rfl, ⟨g_io0, g_c (by simp only [q_e, q_ev]; omega) g_n, g_n⟩, ⟨g_wl rfl, _, rfl, by simp only [q_e, q_ev]; rw [g_ofNat (by omega)]; omega⟩, g_c ?_ (g_c ?_ (g_c ?_ (g_c ?_ (g_c ?_ (g_c ?_ (g_c ?_ g_n))))))⟩
    · exact a_mkp (a := 43) (g_wl rfl) (by decide) (hJ.1 _ _ t43) d43 d1 (by simp only [q_e, q_ev]; rw [g_ofNat (by omega)]; omega)
    · refine a_mk26 (p := N) (g_wl rfl) b80 (by simp only [q_e, q_ev]; omega) d44 d68 (fun k hk ho => ?_)
      rw [show g_at _ k % 256 = _ from hat k hk, t_f5_out (by omega)]
      exact hq k hk
    · exact a_mk25 (p := N + 4 * 0) (g_wl rfl) (g_wl rfl) b80 (by simp only [q_e, q_ev]; omega) (by omega) d44 (by rw [g_v]; exact hv4 0 (by decide) (g_get hF.1 0 rfl))
    · exact a_mk25 (p := N + 4 * 1) (g_wl rfl) (g_wl rfl) b80 (by simp only [q_e, q_ev]; omega) (by omega) d44 (by rw [g_v]; exact hv4 1 (by decide) (g_get hF.1 1 rfl))
    · exact a_mk25 (p := N + 4 * 2) (g_wl rfl) (g_wl rfl) b80 (by simp only [q_e, q_ev]; omega) (by omega) d44 (by rw [g_v]; exact hv4 2 (by decide) (g_get hF.1 2 rfl))
    · exact a_mk25 (p := N + 4 * 3) (g_wl rfl) (g_wl rfl) b80 (by simp only [q_e, q_ev]; omega) (by omega) d44 (by rw [g_v]; exact hv4 3 (by decide) (g_get hF.1 3 rfl))
    · exact a_mk25 (p := N + 4 * 4) (g_wl rfl) (g_wl rfl) b80 (by simp only [q_e, q_ev]; omega) (by omega) d44 (by rw [g_v]; exact hv4 4 (by decide) (g_get hF.1 4 rfl))
  · refine ⟨Nat.le_of_ble_eq_true rfl, (c_feed_no (dd := 0) g2 g3 hC hv (by omega)).mono (Nat.le_refl _) ?_⟩
    rintro v h2 ⟨rfl, rfl⟩
    exact ⟨τ, r, g_J0 hH _, _, List.mem_cons_self, Nat.le_refl _, Nat.le_refl _, fun _ _ => rfl, ⟨g_io0, g_c (by simp only [q_e, q_ev]; omega) g_n, g_n⟩, ⟨g_wl rfl, _, rfl, by rw [a_k0]; decide⟩, g_c (g_get hK 0 rfl) (g_c (g_get hK 1 rfl) g_n)⟩
theorem ho_chL6 : x_OK p_GT p_MT x_EE chL6 := by
  refine ⟨?_, m_X12_feed, rfl⟩
  intro τ r h as M hM hH hA hF hK
  cases (show some m_X12_feed = some M from hM)
  obtain ⟨a, V, rfl, ha, hA⟩ := x_t3 (show x_vs τ r 6 [(3, 64, ([], ((64 : Nat) : Int))), (1, 0, ([(0, 1)], 0)), (1, 0, ([(1, 1)], 0)), (1, 0, ([(2, 1)], 0)), (1, 0, ([(3, 1)], 0)), (1, 0, ([(4, 1)], 0))] as from hA)
  obtain ⟨x1, V, rfl, -, hx1, hA⟩ := x_t1 hA
  obtain ⟨x2, V, rfl, -, hx2, hA⟩ := x_t1 hA
  obtain ⟨x3, V, rfl, -, hx3, hA⟩ := x_t1 hA
  obtain ⟨x4, V, rfl, -, hx4, hA⟩ := x_t1 hA
  obtain ⟨x5, V, rfl, -, hx5, hA⟩ := x_t1 hA
  rw [g_nil hA]
  obtain ⟨rfl, t64⟩ := g_ref ha
  rw [g_v] at hx1 hx2 hx3 hx4 hx5
  have h5 : 0 ≤ r 5 ∧ r 5 ≤ 300 := g_get hF.1 5 rfl
  obtain ⟨N, hN⟩ : ∃ N : Nat, r 5 = N := ⟨(r 5).toNat, by omega⟩
  obtain ⟨hb1, hb2⟩ := ho_195.1 τ r h [.ref 64, .int x1, .int x2, .int x3, .int x4, .int x5] m_X12_feed rfl hH ⟨⟨q_wl_nil, 64, rfl, by simp [q_e, q_ev], t64⟩, ⟨g_wl rfl, x1, rfl, by rw [g_v]; exact hx1⟩, ⟨g_wl rfl, x2, rfl, by rw [g_v]; exact hx2⟩, ⟨g_wl rfl, x3, rfl, by rw [g_v]; exact hx3⟩, ⟨g_wl rfl, x4, rfl, by rw [g_v]; exact hx4⟩, ⟨g_wl rfl, x5, rfl, by rw [g_v]; exact hx5⟩, trivial⟩ ⟨g_io (g_get hF.1 0 rfl) (g_io (g_get hF.1 1 rfl) (g_io (g_get hF.1 2 rfl) (g_io (g_get hF.1 3 rfl) (g_io (g_get hF.1 4 rfl) (g_io0))))), g_n, g_n⟩ g_n
  have oo : ∀ q ∈ cc195.2.2.2.2.2.2.2.2.2, q.2.2.2.2.1 = 0 ∧ q.2.2.2.2.2 = 0 := by decide +kernel
  have h80 := (g_gho (g_get hK 1 rfl) 26 rfl).1
  obtain ⟨c64, h64⟩ := a_cell (a := 64) (by decide) h80
  obtain ⟨c44, h44⟩ := a_cell (a := 44) (by decide) h80
  obtain ⟨-, x, f4, ex⟩ := a_plc (a := 64) (e' := ([(5, 1)], 0)) (g_get hK 0 rfl) (by decide) h64
  rw [g_v] at ex
  have e1 : x = Int32.ofNat N := g_i32 (by omega) (by omega)
  subst e1
  obtain ⟨vs, ws, g64, vl, f3, t68, e68, wl, hw⟩ := a_t68 hH t64
  have q64 : c64 = (0, 12, vs) := Option.some.inj (h64.symm.trans g64)
  subst q64
  have hC : r_TF h N (fun k => g_at ws k) := ⟨vs, ws, g64, f3, f4, e68, wl, fun k hk => by
    obtain ⟨y, hy, -⟩ := hw k hk
    exact ⟨y, hy, by simp only; rw [show g_at ws k = y.toInt from g_at_int hy]⟩⟩
  have f0 := g_get hF.2.1 0 rfl
  have hv : N + 20 ≤ 300 := by
    have f0 : 0 ≤ q_e r ([(5, -1)], 280) := f0
    simp only [q_e, q_ev] at f0
    omega
  have hq := a_un26 (p := N) (g_get hK 1 rfl) (by simp only [q_e, q_ev]; omega) h44 e68
  have u0 := a_un25 (p := N + 4 * 0) (g_get hK 2 rfl) (by simp only [q_e, q_ev]; omega) (by omega) h44
  rw [g_v] at u0
  have u1 := a_un25 (p := N + 4 * 1) (g_get hK 3 rfl) (by simp only [q_e, q_ev]; omega) (by omega) h44
  rw [g_v] at u1
  have u2 := a_un25 (p := N + 4 * 2) (g_get hK 4 rfl) (by simp only [q_e, q_ev]; omega) (by omega) h44
  rw [g_v] at u2
  have u3 := a_un25 (p := N + 4 * 3) (g_get hK 5 rfl) (by simp only [q_e, q_ev]; omega) (by omega) h44
  rw [g_v] at u3
  have u4 := a_un25 (p := N + 4 * 4) (g_get hK 6 rfl) (by simp only [q_e, q_ev]; omega) (by omega) h44
  rw [g_v] at u4
  have hby : ∀ i j, i < 5 → j < 4 → t_by4 (r i) j = g_at c44.2.2 (N + 4 * i + j) % 256 := fun i j hi hj => by
    have m : ∀ z : Int, 0 ≤ z % 256 ∧ z % 256 < 256 := fun z => ⟨Int.emod_nonneg _ (by decide), Int.emod_lt_of_pos _ (by decide)⟩
    have e : i = 0 ∨ i = 1 ∨ i = 2 ∨ i = 3 ∨ i = 4 := by omega
    have ej : j = 0 ∨ j = 1 ∨ j = 2 ∨ j = 3 := by omega
    rcases e with rfl | rfl | rfl | rfl | rfl
    · obtain ⟨s0, s1, s2, s3⟩ := t_v4_un (m _) (m _) (m _) (m _) u0
      rcases ej with rfl | rfl | rfl | rfl
      · exact s0
      · exact s1
      · exact s2
      · exact s3
    · obtain ⟨s0, s1, s2, s3⟩ := t_v4_un (m _) (m _) (m _) (m _) u1
      rcases ej with rfl | rfl | rfl | rfl
      · exact s0
      · exact s1
      · exact s2
      · exact s3
    · obtain ⟨s0, s1, s2, s3⟩ := t_v4_un (m _) (m _) (m _) (m _) u2
      rcases ej with rfl | rfl | rfl | rfl
      · exact s0
      · exact s1
      · exact s2
      · exact s3
    · obtain ⟨s0, s1, s2, s3⟩ := t_v4_un (m _) (m _) (m _) (m _) u3
      rcases ej with rfl | rfl | rfl | rfl
      · exact s0
      · exact s1
      · exact s2
      · exact s3
    · obtain ⟨s0, s1, s2, s3⟩ := t_v4_un (m _) (m _) (m _) (m _) u4
      rcases ej with rfl | rfl | rfl | rfl
      · exact s0
      · exact s1
      · exact s2
      · exact s3
  refine ⟨Nat.le_of_ble_eq_true rfl, (p_both hb2 (r_feed (dd := 0) (f2 := []) hC hv)).mono (Nat.le_of_ble_eq_true rfl) ?_⟩
  rintro v h2 ⟨⟨τ2, r2, hJ, q, hq2, o1, o2, -, -, -, -⟩, rfl, hF2, hx⟩
  obtain ⟨z1, z2⟩ := oo q hq2
  rw [z1] at o1
  rw [z2] at o2
  rw [hx1, hx2, hx3, hx4, hx5] at hF2
  have hF2 : r_TF h2 (N + 20) (t_f5 (fun k => g_at ws k) N r) := hF2
  obtain ⟨vs2, ws2, d64, d0, d1, d68, dl, hd⟩ := hF2
  have d44 : h2[44]? = some c44 := (hx 44 (by decide) (by decide)).trans h44
  have b80 : 80 ≤ h2.length := Nat.le_trans h80 (x_ef_len hJ.2.2.2)
  refine ⟨τ2, r, hJ, _, List.mem_cons_self, o1, o2, fun _ _ => rfl, g_F0, ⟨g_wl rfl, _, rfl, by simp only [q_e, q_ev]; rw [g_ofNat (by omega)]; omega⟩, g_c ?_ (g_c ?_ g_n)⟩
  · exact a_mkp (a := 64) (g_wl rfl) (by decide) (hJ.1 _ _ t64) d64 d1 (by simp only [q_e, q_ev]; rw [g_ofNat (by omega)]; omega)
  · refine a_mk22 b80 d44 d68 (fun k hk => ?_)
    obtain ⟨y, y1, y2⟩ := hd k hk
    rw [show g_at _ k = y.toInt from g_at_int y1, y2]
    by_cases ho : k < N ∨ N + 20 ≤ k
    · rw [t_f5_out ho]; exact hq k hk ho
    · have ek : k = N + 4 * ((k - N) / 4) + (k - N) % 4 := by omega
      rw [t_f5_in (i := (k - N) / 4) (j := (k - N) % 4) ek (by omega) (by omega), hby _ _ (by omega) (by omega), ← ek]
theorem ho_chL7 : x_OK p_GT p_MT x_EE chL7 := by
  refine ⟨?_, m_X12_feed, rfl⟩
  intro τ r h as M hM hH hA hF hK
  cases (show some m_X12_feed = some M from hM)
  obtain ⟨a, V, rfl, ha, hA⟩ := x_t3 (show x_vs τ r 6 [(3, 64, ([], ((64 : Nat) : Int))), (1, 0, ([(0, 1)], 0)), (1, 0, ([(1, 1)], 0)), (1, 0, ([(2, 1)], 0)), (1, 0, ([(3, 1)], 0)), (1, 0, ([(4, 1)], 0))] as from hA)
  obtain ⟨x1, V, rfl, -, hx1, hA⟩ := x_t1 hA
  obtain ⟨x2, V, rfl, -, hx2, hA⟩ := x_t1 hA
  obtain ⟨x3, V, rfl, -, hx3, hA⟩ := x_t1 hA
  obtain ⟨x4, V, rfl, -, hx4, hA⟩ := x_t1 hA
  obtain ⟨x5, V, rfl, -, hx5, hA⟩ := x_t1 hA
  rw [g_nil hA]
  obtain ⟨rfl, t64⟩ := g_ref ha
  rw [g_v] at hx1 hx2 hx3 hx4 hx5
  have h5 : 0 ≤ r 5 ∧ r 5 ≤ 300 := g_get hF.1 5 rfl
  obtain ⟨N, hN⟩ : ∃ N : Nat, r 5 = N := ⟨(r 5).toNat, by omega⟩
  have h80 := (g_gho (g_get hK 0 rfl) 22 rfl).1
  obtain ⟨c64, h64⟩ := a_cell (a := 64) (by decide) h80
  obtain ⟨c44, h44⟩ := a_cell (a := 44) (by decide) h80
  obtain ⟨-, x, f4, ex⟩ := a_plc (a := 64) (e' := ([(5, 1)], 0)) (g_get hK 1 rfl) (by decide) h64
  rw [g_v] at ex
  have e1 : x = Int32.ofNat N := g_i32 (by omega) (by omega)
  subst e1
  obtain ⟨vs, ws, g64, vl, f3, t68, e68, wl, hw⟩ := a_t68 hH t64
  have q64 : c64 = (0, 12, vs) := Option.some.inj (h64.symm.trans g64)
  subst q64
  have hC : r_TF h N (fun k => g_at ws k) := ⟨vs, ws, g64, f3, f4, e68, wl, fun k hk => by
    obtain ⟨y, hy, -⟩ := hw k hk
    exact ⟨y, hy, by simp only; rw [show g_at ws k = y.toInt from g_at_int hy]⟩⟩
  have f0 := g_get hF.2.1 0 rfl
  have hv : ¬ N + 20 ≤ 300 := by
    have f0 : 0 ≤ q_e r ([(5, 1)], -281) := f0
    simp only [q_e, q_ev] at f0
    omega
  refine ⟨Nat.le_of_ble_eq_true rfl, (r_feed_no0 (f2 := []) hC hv (by omega)).mono (Nat.le_refl _) ?_⟩
  rintro v h2 ⟨rfl, rfl⟩
  exact ⟨τ, r, g_J0 hH _, _, List.mem_cons_self, Nat.le_refl _, Nat.le_refl _, fun _ _ => rfl, g_F0, ⟨g_wl rfl, _, rfl, by rw [a_k0]; decide⟩, g_c (g_get hK 0 rfl) (g_c (g_get hK 1 rfl) g_n)⟩

/-! Walks: an object whose cell is written again and again -/
section WPS
variable {G : p_G} {MT : List p_M} {d : Nat} {M : p_M} {pc l : Nat} {ls : p_Ls} {st : List Value} {h : p_H} {Q : Option Value → p_H → Prop} {x y : Int32} {z w : Int64} {k a : Nat} {v : Value}
theorem w_putfS {X ci : Nat} {f : Int} {vs : List Value} {ty : FieldType} (hat : p_at pc M.2.2.2.2.1 = some (.putfield X, l)) (hp : p_pk X 0 M.2.2.2.2.2.1 = some (ci, f)) (hl : a < h.length) (hG : (G[ci]?).bind (fun r => r[f.toNat]?) = some (ty, false)) (hfit : p_fit ty v = true) (hlt : f.toNat < vs.length) (hk : p_wp G MT d M (pc + 3) ls st (h.set a (0, ci, vs.set f.toNat v)) Q) : p_wp G MT d M pc ls (v :: .ref a :: st) (h.set a (0, ci, vs)) Q := by
  refine w_putf hat hp (List.getElem?_set_self hl) hG hfit hlt ?_
  rw [List.set_set]
  exact hk
theorem w_iincN {n : Nat} (hat : p_at pc M.2.2.2.2.1 = some (.iinc k 1, l)) (hl : p_lk k ls = some (.int (Int32.ofNat n))) (hn : k < M.2.2.1) (hk : p_wp G MT d M (pc + 3) (p_s1 ls k (.int (Int32.ofNat (n + 1)))) st h Q) : p_wp G MT d M pc ls st h Q :=
  w_iinc hat hl hn (by rw [show Int32.ofInt 1 = Int32.ofNat 1 from rfl, ← Int32.ofNat_add]; exact hk)
theorem w_flt {vs : List Value} {j : Nat} {w : Value} (h : vs[j]? = some w) : j < vs.length := (List.getElem?_eq_some_iff.mp h).1
theorem w_fat {vs : List Value} {j : Nat} {w v : Value} (h : vs[j]? = some w) : (vs.set j v)[j]? = some v := List.getElem?_set_self (w_flt h)
theorem w_fne {vs : List Value} {i j : Nat} {w v : Value} (h : vs[j]? = some w) (hne : i ≠ j) : (vs.set i v)[j]? = some w := by rw [List.getElem?_set_ne hne]; exact h
theorem w_at {c : p_C} (hl : a < h.length) : (h.set a c)[a]? = some c := List.getElem?_set_self hl
theorem w_aldc {c : Nat} {b : Int} (hat : p_at pc M.2.2.2.2.1 = some (.ldc k, l)) (hp : p_pk k 3 M.2.2.2.2.2.1 = some (c, b)) (hk : p_wp G MT d M (pc + 2) ls (.int (Int32.ofInt b) :: st) h Q) : p_wp G MT d M pc ls st h Q :=
  p_wp.step hat (by simp only [p_step, p_cst, hp]; rfl) hk
end WPS
theorem t_n256 : ∀ c, c < 256 → ∀ e, e < 128 → ((p_cd .eq (Int32.ofNat c) (Int32.ofNat e) = Nat.beq c e) ∧ (p_cd .ne (Int32.ofNat c) (Int32.ofNat e) = !Nat.beq c e) ∧ (p_cd .lt (Int32.ofNat c) (Int32.ofNat e) = !Nat.ble e c) ∧ (p_cd .gt (Int32.ofNat c) (Int32.ofNat e) = !Nat.ble c e) ∧ (p_cd .le (Int32.ofNat c) (Int32.ofNat e) = Nat.ble c e) ∧ (p_cd .ge (Int32.ofNat c) (Int32.ofNat e) = Nat.ble e c)) := by
  intro c hc e he
  have h1 := g_ofNat (n := c) (by omega)
  have h2 := g_ofNat (n := e) (by omega)
  refine ⟨?_, ?_, ?_, ?_, ?_, ?_⟩ <;> simp only [p_cd]
  · by_cases q : c = e
    · subst q; rw [Nat.beq_refl, decide_eq_true rfl]
    · rw [decide_eq_false (b_ofNat_ne (by omega) (by omega) q), show Nat.beq c e = false from Bool.eq_false_iff.mpr (fun k => q (Nat.eq_of_beq_eq_true k))]
  · by_cases q : c = e
    · subst q; rw [Nat.beq_refl]; simp
    · rw [decide_eq_true (b_ofNat_ne (by omega) (by omega) q), show Nat.beq c e = false from Bool.eq_false_iff.mpr (fun k => q (Nat.eq_of_beq_eq_true k))]; rfl
  · by_cases q : e ≤ c
    · rw [Nat.ble_eq_true_of_le q]; exact decide_eq_false (by rw [Int32.lt_iff_toInt_lt, h1, h2]; omega)
    · rw [show Nat.ble e c = false from Bool.eq_false_iff.mpr (fun k => q (Nat.le_of_ble_eq_true k))]; exact decide_eq_true (by rw [Int32.lt_iff_toInt_lt, h1, h2]; omega)
  · by_cases q : c ≤ e
    · rw [Nat.ble_eq_true_of_le q]; exact decide_eq_false (by rw [Int32.lt_iff_toInt_lt, h1, h2]; omega)
    · rw [show Nat.ble c e = false from Bool.eq_false_iff.mpr (fun k => q (Nat.le_of_ble_eq_true k))]; exact decide_eq_true (by rw [Int32.lt_iff_toInt_lt, h1, h2]; omega)
  · by_cases q : c ≤ e
    · rw [Nat.ble_eq_true_of_le q]; exact decide_eq_true (by rw [Int32.le_iff_toInt_le, h1, h2]; omega)
    · rw [show Nat.ble c e = false from Bool.eq_false_iff.mpr (fun k => q (Nat.le_of_ble_eq_true k))]; exact decide_eq_false (by rw [Int32.le_iff_toInt_le, h1, h2]; omega)
  · by_cases q : e ≤ c
    · rw [Nat.ble_eq_true_of_le q]; exact decide_eq_true (by rw [Int32.le_iff_toInt_le, h1, h2]; omega)
    · rw [show Nat.ble e c = false from Bool.eq_false_iff.mpr (fun k => q (Nat.le_of_ble_eq_true k))]; exact decide_eq_false (by rw [Int32.le_iff_toInt_le, h1, h2]; omega)
theorem t_ceq {c e : Nat} (hc : c < 256) (he : e < 128) : p_cd .eq (Int32.ofNat c) (Int32.ofNat e) = Nat.beq c e := (t_n256 c hc e he).1
theorem t_cne {c e : Nat} (hc : c < 256) (he : e < 128) : p_cd .ne (Int32.ofNat c) (Int32.ofNat e) = !Nat.beq c e := (t_n256 c hc e he).2.1
theorem t_clt {c e : Nat} (hc : c < 256) (he : e < 128) : p_cd .lt (Int32.ofNat c) (Int32.ofNat e) = !Nat.ble e c := (t_n256 c hc e he).2.2.1
theorem t_cgt {c e : Nat} (hc : c < 256) (he : e < 128) : p_cd .gt (Int32.ofNat c) (Int32.ofNat e) = !Nat.ble c e := (t_n256 c hc e he).2.2.2.1
theorem t_cle {c e : Nat} (hc : c < 256) (he : e < 128) : p_cd .le (Int32.ofNat c) (Int32.ofNat e) = Nat.ble c e := (t_n256 c hc e he).2.2.2.2.1
/-- a byte, or none at the end -/
def t_by (b : Nat → Nat) (n q : Nat) : Int32 := if q < n then Int32.ofNat (b q) else Int32.ofInt (-1)
def t_B (tp : List Value) (b : Nat → Nat) : Prop := ∀ k, k < 300 → tp[k]? = some (.int (Int32.ofNat (b k))) ∧ b k < 256
/-! The reference's tokens -/
section RTK
variable {h : p_H} {d n : Nat} {fs tp : List Value} {b : Nat → Nat} {Q : Option Value → p_H → Prop}
theorem r_byte {q : Nat} (e64 : h[64]? = some (0, 12, fs)) (f3 : fs[3]? = some (.ref 68)) (f4 : fs[4]? = some (.int (Int32.ofNat n))) (e68 : h[68]? = some (1, 0, tp)) (hb : t_B tp b) (hn : n ≤ 300) (hq : q ≤ n) : p_wp p_GT p_MT d m_X12_byteAt 0 (lv_args 0 [.ref 64, .int (Int32.ofNat q)]) [] h (fun v h2 => v = some (.int (t_by b n q)) ∧ h2 = h) := by
  unfold t_by
  by_cases q1 : q < n
  · rw [if_pos q1]
    exact w_iload_n rfl rfl (w_aload_n rfl rfl (w_getf rfl rfl e64 f4 (w_icmp_f rfl (t := 17) rfl (by simp only [p_cd, decide_eq_false_iff_not]; rw [Int32.le_iff_toInt_le, g_ofNat (by omega), g_ofNat (by omega)]; omega) (w_aload_n rfl rfl (w_getf rfl rfl e64 f3 (w_iload_n rfl rfl (w_ld rfl e68 (by omega) (hb q (by omega)).1 (w_goto rfl (t := 18) rfl (w_ireturn rfl rfl ⟨rfl, rfl⟩)))))))))
  · rw [if_neg q1]
    exact w_iload_n rfl rfl (w_aload_n rfl rfl (w_getf rfl rfl e64 f4 (w_icmp_t rfl (t := 17) rfl (by simp only [p_cd, decide_eq_true_eq]; rw [Int32.le_iff_toInt_le, g_ofNat (by omega), g_ofNat (by omega)]; omega) (w_iconst rfl (w_ireturn rfl rfl ⟨rfl, rfl⟩)))))
theorem r_fig {c : Nat} (hc : c < 256) : p_wp p_GT p_MT d m_X12_isFigure 0 (lv_args 0 [.int (Int32.ofNat c)]) [] h (fun v h2 => v = some (.int (l_b (t_fi c))) ∧ h2 = h) := by
  unfold t_fi
  refine w_iload_n rfl rfl (w_bp 48 rfl rfl ?_)
  cases q3 : Nat.ble 48 c with
  | true =>
    refine w_icmp_f rfl (t := 16) rfl (by rw [t_clt hc (by decide), q3]; rfl) (w_iload_n rfl rfl (w_bp 57 rfl rfl ?_))
    cases q9 : Nat.ble c 57 with
    | true =>
      exact w_icmp_f rfl (t := 16) rfl (by rw [t_cgt hc (by decide), q9]; rfl) (w_ic 1 rfl rfl (w_goto rfl (t := 17) rfl (w_ireturnb rfl rfl rfl ⟨rfl, rfl⟩)))
    | false =>
      exact w_icmp_t rfl (t := 16) rfl (by rw [t_cgt hc (by decide), q9]; rfl) (w_ic 0 rfl rfl (w_ireturnb rfl rfl rfl ⟨rfl, rfl⟩))
  | false =>
    exact w_icmp_t rfl (t := 16) rfl (by rw [t_clt hc (by decide), q3]; rfl) (w_ic 0 rfl rfl (w_ireturnb rfl rfl rfl ⟨rfl, rfl⟩))
theorem r_let {c : Nat} (hc : c < 256) : p_wp p_GT p_MT d m_X12_isLetterByte 0 (lv_args 0 [.int (Int32.ofNat c)]) [] h (fun v h2 => v = some (.int (l_b (t_al c))) ∧ h2 = h) := by
  unfold t_al
  refine w_iload_n rfl rfl (w_bp 97 rfl rfl ?_)
  cases q3 : Nat.ble 97 c with
  | true =>
    refine w_icmp_f rfl (t := 12) rfl (by rw [t_clt hc (by decide), q3]; rfl) (w_iload_n rfl rfl (w_bp 122 rfl rfl ?_))
    cases q9 : Nat.ble c 122 with
    | true =>
      exact w_icmp_t rfl (t := 24) rfl (by rw [t_cle hc (by decide), q9]) (w_ic 1 rfl rfl (w_goto rfl (t := 29) rfl (w_ireturnb rfl rfl rfl ⟨rfl, rfl⟩)))
    | false =>
      refine w_icmp_f rfl (t := 24) rfl (by rw [t_cle hc (by decide), q9]) (w_iload_n rfl rfl (w_bp 65 rfl rfl ?_))
      cases q15 : Nat.ble 65 c with
      | true =>
        refine w_icmp_f rfl (t := 28) rfl (by rw [t_clt hc (by decide), q15]; rfl) (w_iload_n rfl rfl (w_bp 90 rfl rfl ?_))
        cases q21 : Nat.ble c 90 with
        | true =>
          exact w_icmp_f rfl (t := 28) rfl (by rw [t_cgt hc (by decide), q21]; rfl) (w_ic 1 rfl rfl (w_goto rfl (t := 29) rfl (w_ireturnb rfl rfl rfl ⟨rfl, rfl⟩)))
        | false =>
          exact w_icmp_t rfl (t := 28) rfl (by rw [t_cgt hc (by decide), q21]; rfl) (w_ic 0 rfl rfl (w_ireturnb rfl rfl rfl ⟨rfl, rfl⟩))
      | false =>
        exact w_icmp_t rfl (t := 28) rfl (by rw [t_clt hc (by decide), q15]; rfl) (w_ic 0 rfl rfl (w_ireturnb rfl rfl rfl ⟨rfl, rfl⟩))
  | false =>
    refine w_icmp_t rfl (t := 12) rfl (by rw [t_clt hc (by decide), q3]; rfl) (w_iload_n rfl rfl (w_bp 65 rfl rfl ?_))
    cases q15 : Nat.ble 65 c with
    | true =>
      refine w_icmp_f rfl (t := 28) rfl (by rw [t_clt hc (by decide), q15]; rfl) (w_iload_n rfl rfl (w_bp 90 rfl rfl ?_))
      cases q21 : Nat.ble c 90 with
      | true =>
        exact w_icmp_f rfl (t := 28) rfl (by rw [t_cgt hc (by decide), q21]; rfl) (w_ic 1 rfl rfl (w_goto rfl (t := 29) rfl (w_ireturnb rfl rfl rfl ⟨rfl, rfl⟩)))
      | false =>
        exact w_icmp_t rfl (t := 28) rfl (by rw [t_cgt hc (by decide), q21]; rfl) (w_ic 0 rfl rfl (w_ireturnb rfl rfl rfl ⟨rfl, rfl⟩))
    | false =>
      exact w_icmp_t rfl (t := 28) rfl (by rw [t_clt hc (by decide), q15]; rfl) (w_ic 0 rfl rfl (w_ireturnb rfl rfl rfl ⟨rfl, rfl⟩))
theorem r_fig_no : p_wp p_GT p_MT d m_X12_isFigure 0 (lv_args 0 [.int (Int32.ofInt (-1))]) [] h (fun v h2 => v = some (.int (l_b false)) ∧ h2 = h) :=
  w_iload_n rfl rfl (w_bp 48 rfl rfl (w_icmp_t rfl (t := 16) rfl (by decide) (w_iconst rfl (w_ireturnb rfl rfl rfl ⟨rfl, rfl⟩))))
theorem r_let_no : p_wp p_GT p_MT d m_X12_isLetterByte 0 (lv_args 0 [.int (Int32.ofInt (-1))]) [] h (fun v h2 => v = some (.int (l_b false)) ∧ h2 = h) :=
  w_iload_n rfl rfl (w_bp 97 rfl rfl (w_icmp_t rfl (t := 12) rfl (by decide) (w_iload_n rfl rfl (w_bp 65 rfl rfl (w_icmp_t rfl (t := 28) rfl (by decide) (w_iconst rfl (w_ireturnb rfl rfl rfl ⟨rfl, rfl⟩)))))))
theorem r_byte1 {q : Nat} (e64 : h[64]? = some (0, 12, fs)) (f3 : fs[3]? = some (.ref 68)) (f4 : fs[4]? = some (.int (Int32.ofNat n))) (e68 : h[68]? = some (1, 0, tp)) (hb : t_B tp b) (hn : n ≤ 300) (hq : q < n) : p_wp p_GT p_MT d m_X12_byteAt 0 (lv_args 0 [.ref 64, .int (Int32.ofNat q)]) [] h (fun v h2 => v = some (.int (Int32.ofNat (b q))) ∧ h2 = h) := by
  have := r_byte (d := d) e64 f3 f4 e68 hb hn (Nat.le_of_lt hq)
  unfold t_by at this
  rw [if_pos hq] at this
  exact this
theorem r_byte0 {q : Nat} (e64 : h[64]? = some (0, 12, fs)) (f3 : fs[3]? = some (.ref 68)) (f4 : fs[4]? = some (.int (Int32.ofNat n))) (e68 : h[68]? = some (1, 0, tp)) (hb : t_B tp b) (hn : n ≤ 300) (hq : q ≤ n) (hq2 : ¬ q < n) : p_wp p_GT p_MT d m_X12_byteAt 0 (lv_args 0 [.ref 64, .int (Int32.ofNat q)]) [] h (fun v h2 => v = some (.int (Int32.ofInt (-1))) ∧ h2 = h) := by
  have := r_byte (d := d) e64 f3 f4 e68 hb hn hq
  unfold t_by at this
  rw [if_neg hq2] at this
  exact this
theorem w_K {gs : List Value} {P : Nat → Prop} {i : Nat} {v : Value} (hi : ¬ P i) (K : ∀ k, P k → gs[k]? = fs[k]?) : ∀ k, P k → (gs.set i v)[k]? = fs[k]? := fun k hk => by
  rw [List.getElem?_set_ne (fun e => hi (by rw [e]; exact hk))]; exact K k hk
theorem t_sk_go {q : Nat} (h1 : q < n) (h2 : t_bl (b q) = true) : t_sk b n q = t_sk b n (q + 1) := by unfold t_sk; rw [t_lp_go h1 h2]
theorem t_sk_no {q : Nat} (h1 : ¬ (q < n ∧ t_bl (b q) = true)) : t_sk b n q = q := by unfold t_sk; rw [t_lp_no h1]
set_option maxRecDepth 100000 in
theorem r_skl {q0 : Nat} (hl : 64 < h.length) (e68 : h[68]? = some (1, 0, tp)) (hb : t_B tp b) (hn : n ≤ 300) (f3 : fs[3]? = some (.ref 68)) (f4 : fs[4]? = some (.int (Int32.ofNat n))) (hN : ∀ gs, (∀ k, k ≠ 7 → gs[k]? = fs[k]?) → gs[7]? = some (.int (Int32.ofNat (t_sk b n q0))) → p_wp p_GT p_MT (d + 1) m_X12_nextToken 39 (lv_args 0 [.ref 64]) [] (h.set 64 (0, 12, gs)) Q) : ∀ j q gs, q + j = n → t_sk b n q = t_sk b n q0 → (∀ k, k ≠ 7 → gs[k]? = fs[k]?) → gs[7]? = some (.int (Int32.ofNat q)) → p_wp p_GT p_MT (d + 1) m_X12_nextToken 0 (lv_args 0 [.ref 64]) [] (h.set 64 (0, 12, gs)) Q := by
  intro j
  induction j with
  | zero =>
    intro q gs hq hs K g7
    have q1 : ¬ q < n := by omega
    rw [t_sk_no (fun e => absurd e.1 (by omega))] at hs
    refine w_aload_n rfl rfl (w_aload_n rfl rfl (w_getf rfl rfl (w_at hl) g7 (w_virtual (dc := d) (M' := m_X12_byteAt) rfl (g_vir (n := 2) rfl rfl (by simp [p_cat, p_bd, Value.category]) rfl rfl (w_at hl) rfl) rfl rfl (Nat.le_refl _) (r_byte0 (q := q) (w_at hl) ((K 3 (by decide)).trans f3) ((K 4 (by decide)).trans f4) (a_ga (by decide) e68) hb hn (by omega) q1) ?_)))
    rintro v h2 ⟨rfl, rfl⟩
    refine w_bp 32 rfl rfl (w_icmp_f rfl (t := 26) rfl (by decide) (w_aload_n rfl rfl (w_aload_n rfl rfl (w_getf rfl rfl (w_at hl) g7 (w_virtual (dc := d) (M' := m_X12_byteAt) rfl (g_vir (n := 2) rfl rfl (by simp [p_cat, p_bd, Value.category]) rfl rfl (w_at hl) rfl) rfl rfl (Nat.le_refl _) (r_byte0 (q := q) (w_at hl) ((K 3 (by decide)).trans f3) ((K 4 (by decide)).trans f4) (a_ga (by decide) e68) hb hn (by omega) q1) ?_)))))
    rintro v h2 ⟨rfl, rfl⟩
    exact w_bp 10 rfl rfl (w_icmp_t rfl (t := 39) rfl (by decide) (hN gs K (by rw [← hs]; exact g7)))
  | succ j ih =>
    intro q gs hq hs K g7
    have q1 : q < n := by omega
    have b256 := (hb q (by omega)).2
    refine w_aload_n rfl rfl (w_aload_n rfl rfl (w_getf rfl rfl (w_at hl) g7 (w_virtual (dc := d) (M' := m_X12_byteAt) rfl (g_vir (n := 2) rfl rfl (by simp [p_cat, p_bd, Value.category]) rfl rfl (w_at hl) rfl) rfl rfl (Nat.le_refl _) (r_byte1 (q := q) (w_at hl) ((K 3 (by decide)).trans f3) ((K 4 (by decide)).trans f4) (a_ga (by decide) e68) hb hn q1) ?_)))
    rintro v h2 ⟨rfl, rfl⟩
    refine w_bp 32 rfl rfl ?_
    cases e1 : Nat.beq (b q) 32 with
    | true =>
      refine w_icmp_t rfl (t := 26) rfl (by rw [t_ceq b256 (by decide), e1]) (w_aload_n rfl rfl (w_dup rfl rfl (w_getf rfl rfl (w_at hl) g7 (w_ic 1 rfl rfl (w_addN rfl (w_putfS rfl rfl hl rfl rfl (w_flt g7) (w_goto rfl (t := 0) rfl ?_)))))))
      exact ih (q + 1) _ (by omega) (by rw [← t_sk_go q1 (by unfold t_bl; rw [e1, Bool.true_or])]; exact hs) (w_K (fun e => e rfl) K) (w_fat g7)
    | false =>
      refine w_icmp_f rfl (t := 26) rfl (by rw [t_ceq b256 (by decide), e1]) (w_aload_n rfl rfl (w_aload_n rfl rfl (w_getf rfl rfl (w_at hl) g7 (w_virtual (dc := d) (M' := m_X12_byteAt) rfl (g_vir (n := 2) rfl rfl (by simp [p_cat, p_bd, Value.category]) rfl rfl (w_at hl) rfl) rfl rfl (Nat.le_refl _) (r_byte1 (q := q) (w_at hl) ((K 3 (by decide)).trans f3) ((K 4 (by decide)).trans f4) (a_ga (by decide) e68) hb hn q1) ?_))))
      rintro v h2 ⟨rfl, rfl⟩
      refine w_bp 10 rfl rfl ?_
      cases e2 : Nat.beq (b q) 10 with
      | true =>
        refine w_icmp_f rfl (t := 39) rfl (by rw [t_cne b256 (by decide), e2]; rfl) (w_aload_n rfl rfl (w_dup rfl rfl (w_getf rfl rfl (w_at hl) g7 (w_ic 1 rfl rfl (w_addN rfl (w_putfS rfl rfl hl rfl rfl (w_flt g7) (w_goto rfl (t := 0) rfl ?_)))))))
        exact ih (q + 1) _ (by omega) (by rw [← t_sk_go q1 (by unfold t_bl; rw [e2, Bool.or_true])]; exact hs) (w_K (fun e => e rfl) K) (w_fat g7)
      | false =>
        rw [t_sk_no (by unfold t_bl; rw [e1, e2]; simp)] at hs
        exact w_icmp_t rfl (t := 39) rfl (by rw [t_cne b256 (by decide), e2]; rfl) (hN gs K (by rw [← hs]; exact g7))
set_option maxRecDepth 100000 in
theorem r_numl {p : Nat} (hl : 64 < h.length) (e68 : h[68]? = some (1, 0, tp)) (hb : t_B tp b) (hn : n ≤ 300) (f3 : fs[3]? = some (.ref 68)) (f4 : fs[4]? = some (.int (Int32.ofNat n))) {x0 : Value} (f10 : fs[10]? = some x0) (hN : ∀ gs, (∀ k, k ≠ 7 ∧ k ≠ 10 → gs[k]? = fs[k]?) → gs[7]? = some (.int (Int32.ofNat (t_nl b n p).1)) → gs[10]? = some (.int (Int32.ofNat (t_nl b n p).2)) → Q none (h.set 64 (0, 12, gs))) {ls : p_Ls} (l0 : p_lk 0 ls = some (.ref 64)) : ∀ j q v gs, q + j = n → v ≤ 1000000 → t_lp n (fun q => t_fi (b q)) (t_ns b) q v = t_nl b n p → (∀ k, k ≠ 7 ∧ k ≠ 10 → gs[k]? = fs[k]?) → gs[7]? = some (.int (Int32.ofNat q)) → gs[10]? = some (.int (Int32.ofNat v)) → p_wp p_GT p_MT (d + 1) m_X12_nextToken 85 ls [] (h.set 64 (0, 12, gs)) Q := by
  intro j
  induction j with
  | zero =>
    intro q v gs hq hv hs K g7 g10
    have q1 : ¬ q < n := by omega
    rw [t_lp_no (fun e => absurd e.1 (by omega))] at hs
    refine w_aload_n rfl l0 (w_aload_n rfl l0 (w_getf rfl rfl (w_at hl) g7 (w_virtual (dc := d) (M' := m_X12_byteAt) rfl (g_vir (n := 2) rfl rfl (by simp [p_cat, p_bd, Value.category]) rfl rfl (w_at hl) rfl) rfl rfl (Nat.le_refl _) (r_byte0 (q := q) (w_at hl) ((K 3 (by decide)).trans f3) ((K 4 (by decide)).trans f4) (a_ga (by decide) e68) hb hn (by omega) q1) ?_)))
    rintro v h2 ⟨rfl, rfl⟩
    refine w_static (nn := 0) (dc := d) (M' := m_X12_isFigure) rfl rfl rfl rfl (Nat.le_refl _) r_fig_no ?_
    rintro v h2 ⟨rfl, rfl⟩
    exact w_ifc_t rfl (t := 310) rfl (by decide) (w_return rfl rfl (hN gs K (by rw [← hs]; exact g7) (by rw [← hs]; exact g10)))
  | succ j ih =>
    intro q v gs hq hv hs K g7 g10
    have q1 : q < n := by omega
    have b256 := (hb q (by omega)).2
    refine w_aload_n rfl l0 (w_aload_n rfl l0 (w_getf rfl rfl (w_at hl) g7 (w_virtual (dc := d) (M' := m_X12_byteAt) rfl (g_vir (n := 2) rfl rfl (by simp [p_cat, p_bd, Value.category]) rfl rfl (w_at hl) rfl) rfl rfl (Nat.le_refl _) (r_byte1 (q := q) (w_at hl) ((K 3 (by decide)).trans f3) ((K 4 (by decide)).trans f4) (a_ga (by decide) e68) hb hn q1) ?_)))
    rintro v h2 ⟨rfl, rfl⟩
    refine w_static (nn := 0) (dc := d) (M' := m_X12_isFigure) rfl rfl rfl rfl (Nat.le_refl _) (r_fig b256) ?_
    rintro v h2 ⟨rfl, rfl⟩
    cases e1 : t_fi (b q) with
    | false =>
      rw [t_lp_no (fun e => by rw [e1] at e; exact absurd e.2 (by decide))] at hs
      exact w_ifc_t rfl (t := 310) rfl (by decide) (w_return rfl rfl (hN gs K (by rw [← hs]; exact g7) (by rw [← hs]; exact g10)))
    | true =>
      have e48 : 48 ≤ b q ∧ b q ≤ 57 := by
        unfold t_fi at e1
        rw [Bool.and_eq_true] at e1
        exact ⟨Nat.le_of_ble_eq_true e1.1, Nat.le_of_ble_eq_true e1.2⟩
      rw [t_lp_go q1 e1] at hs
      by_cases e2 : 99999 < v
      · have ev : t_ns b q v = v := by unfold t_ns; rw [if_pos e2]
        rw [ev] at hs
        refine w_ifc_f rfl (t := 310) rfl (by decide) (w_aload_n rfl l0 (w_aload_n rfl l0 (w_getf rfl rfl (w_at hl) g10 (w_aldc rfl rfl (w_icmp_f rfl (t := 116) rfl (by simp only [p_cd, decide_eq_false_iff_not]; rw [Int32.le_iff_toInt_le, Int32.toInt_ofNat_of_lt (show v < 2 ^ 31 by omega), show (Int32.ofInt 99999).toInt = 99999 by decide]; omega) (w_aload_n rfl l0 (w_getf rfl rfl (w_at hl) g10 (w_goto rfl (t := 135) rfl (w_putfS rfl rfl hl rfl rfl (w_flt g10) (w_aload_n rfl l0 (w_dup rfl rfl (w_getf rfl rfl (w_at hl) (w_fne g7 (by decide)) (w_ic 1 rfl rfl (w_addN rfl (w_putfS rfl rfl hl rfl rfl (w_flt (w_fne g7 (by decide))) (w_goto rfl (t := 85) rfl ?_))))))))))))))))
        exact ih (q + 1) v _ (by omega) (by omega) hs (w_K (fun e => e.1 rfl) (w_K (fun e => e.2 rfl) K)) (w_fat (w_fne g7 (by decide))) (w_fne (w_fat g10) (by decide))
      · have ev : t_ns b q v = 10 * v + b q - 48 := by unfold t_ns; rw [if_neg e2]
        rw [ev] at hs
        refine w_ifc_f rfl (t := 310) rfl (by decide) (w_aload_n rfl l0 (w_aload_n rfl l0 (w_getf rfl rfl (w_at hl) g10 (w_aldc rfl rfl (w_icmp_t rfl (t := 116) rfl (by simp only [p_cd, decide_eq_true_eq]; rw [Int32.le_iff_toInt_le, Int32.toInt_ofNat_of_lt (show v < 2 ^ 31 by omega), show (Int32.ofInt 99999).toInt = 99999 by decide]; omega) (w_bp 10 rfl rfl (w_aload_n rfl l0 (w_getf rfl rfl (w_at hl) g10 (w_mulN rfl (w_aload_n rfl l0 (w_aload_n rfl l0 (w_getf rfl rfl (w_at hl) g7 (w_virtual (dc := d) (M' := m_X12_byteAt) rfl (g_vir (n := 2) rfl rfl (by simp [p_cat, p_bd, Value.category]) rfl rfl (w_at hl) rfl) rfl rfl (Nat.le_refl _) (r_byte1 (q := q) (w_at hl) ((K 3 (by decide)).trans f3) ((K 4 (by decide)).trans f4) (a_ga (by decide) e68) hb hn q1) ?_)))))))))))))
        rintro v h2 ⟨rfl, rfl⟩
        refine w_addN rfl (w_bp 48 rfl rfl (w_subN rfl (by omega) (w_putfS rfl rfl hl rfl rfl (w_flt g10) (w_aload_n rfl l0 (w_dup rfl rfl (w_getf rfl rfl (w_at hl) (w_fne g7 (by decide)) (w_ic 1 rfl rfl (w_addN rfl (w_putfS rfl rfl hl rfl rfl (w_flt (w_fne g7 (by decide))) (w_goto rfl (t := 85) rfl ?_))))))))))
        exact ih (q + 1) (10 * v + b q - 48) _ (by omega) (by omega) hs (w_K (fun e => e.1 rfl) (w_K (fun e => e.2 rfl) K)) (w_fat (w_fne g7 (by decide))) (w_fne (w_fat g10) (by decide))
end RTK

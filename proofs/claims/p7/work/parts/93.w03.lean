/-! The class's tokens -/
def t_so (c : Nat) : Nat := if t_al c then 1 else if t_fi c then 2 else 3
def t_zs (b : Nat → Nat) (q : Nat) (z : Int64) : Int64 := (z <<< ((Int32.ofNat 8).toInt64 &&& 63)) ||| (Int32.ofNat (b q)).toInt64
def t_zl (b : Nat → Nat) (n p : Nat) : Nat × Int64 := t_lp n (fun q => t_al (b q)) (t_zs b) p (Int64.ofNat 0)
def t_ms (b : Nat → Nat) (q v : Nat) : Nat := min 10000 (v * 10 + b q - 48)
def t_ml (b : Nat → Nat) (n p : Nat) : Nat × Nat := t_lp n (fun q => t_fi (b q)) (t_ms b) p 0
/-- the tape's bytes -/
def t_C (tp : List Value) (b : Nat → Nat) : Prop := ∀ k, k < 300 → (∃ y : Int32, tp[k]? = some (.int y) ∧ (y &&& Int32.ofNat 255) = Int32.ofNat (b k)) ∧ b k < 256
/-- the first of the words that it is, or -1 -/
def t_ix (W : List Int64) (z : Int64) : Nat → Int32
  | 0 => Int32.ofInt (-1)
  | k + 1 => if (W.drop (W.length - (k + 1))).head? = some z then Int32.ofNat (W.length - (k + 1)) else t_ix W z k
section CTK
variable {h : p_H} {d n : Nat} {fs tp : List Value} {b : Nat → Nat} {Q : Option Value → p_H → Prop}
section CTW
variable {G : p_G} {MT : List p_M} {M : p_M} {pc l : Nat} {ls : p_Ls} {st : List Value} {vs : List Value} {a k : Nat}
theorem w_bald {v : Value} (hat : p_at pc M.2.2.2.2.1 = some (.baload, 1)) (hc : h[a]? = some (1, 1, vs)) (hn : k < 100000) (hv : vs[k]? = some v) (hk : p_wp G MT d M (pc + 1) ls (v :: st) h Q) : p_wp G MT d M pc ls (.int (Int32.ofNat k) :: .ref a :: st) h Q := by
  refine p_wp.step hat ?_ hk
  simp only [p_step, p_al, hc, p_ix, if_neg (g_nl hn), g_ncl hn, hv]
  rfl
theorem w_lstore_n {z : Int64} {k : Fin 4} (hat : p_at pc M.2.2.2.2.1 = some (.lstore_n k, l)) (hn : k.val + 1 < M.2.2.1) (hk : p_wp G MT d M (pc + 1) (p_s2 ls k.val (.long z)) st h Q) : p_wp G MT d M pc ls (.long z :: st) h Q :=
  p_wp.step hat (by simp only [p_step, p_sv]; exact if_pos hn) hk
end CTW
theorem c_jmin {x y : Int32} : p_wp p_GT p_MT d m_J9_min_7cf53 0 (lv_args 0 [.int x, .int y]) [] h (fun a h2 => a = some (.int (if x ≤ y then x else y)) ∧ h2 = h) := by
  refine w_iload_n rfl rfl (w_iload_n rfl rfl ?_)
  cases hc : p_cd .gt x y with
  | true =>
    have q : ¬ x ≤ y := by
      simp only [p_cd, decide_eq_true_eq] at hc
      rw [Int32.lt_iff_toInt_lt] at hc; rw [Int32.le_iff_toInt_le]; omega
    exact w_icmp_t rfl (t := 9) rfl hc (w_iload_n rfl rfl (w_ireturn rfl rfl ⟨by rw [if_neg q], rfl⟩))
  | false =>
    have q : x ≤ y := by
      simp only [p_cd, decide_eq_false_iff_not] at hc
      rw [Int32.lt_iff_toInt_lt] at hc; rw [Int32.le_iff_toInt_le]; omega
    exact w_icmp_f rfl (t := 9) rfl hc (w_iload_n rfl rfl (w_goto rfl (t := 10) rfl (w_ireturn rfl rfl ⟨by rw [if_pos q], rfl⟩)))
theorem c_byte1 {q : Nat} (e43 : h[43]? = some (0, 3, fs)) (f0 : fs[0]? = some (.ref 44)) (f1 : fs[1]? = some (.int (Int32.ofNat n))) (e44 : h[44]? = some (1, 1, tp)) (hb : t_C tp b) (hn : n ≤ 300) (hq : q < n) : p_wp p_GT p_MT d m_X3_byteAt 0 (lv_args 0 [.ref 43, .int (Int32.ofNat q)]) [] h (fun v h2 => v = some (.int (Int32.ofNat (b q))) ∧ h2 = h) := by
  obtain ⟨⟨y, ey, eb⟩, -⟩ := hb q (by omega)
  refine w_iload_n rfl rfl (w_ifc_f rfl (t := 32) rfl (by simp only [p_cd, decide_eq_false_iff_not]; exact g_nl (by omega)) (w_iload_n rfl rfl (w_aload_n rfl rfl (w_getf rfl rfl e43 f1 (w_icmp_f rfl (t := 32) rfl (by simp only [p_cd, decide_eq_false_iff_not]; rw [Int32.le_iff_toInt_le, g_ofNat (by omega), g_ofNat (by omega)]; omega) (w_iload_n rfl rfl (w_sp 300 rfl rfl (w_icmp_f rfl (t := 32) rfl (by simp only [p_cd, decide_eq_false_iff_not]; rw [Int32.le_iff_toInt_le, g_ofNat (by omega), g_ofNat (by omega)]; omega) (w_aload_n rfl rfl (w_getf rfl rfl e43 f0 (w_iload_n rfl rfl (w_bald rfl e44 (by omega) ey (w_sp 255 rfl rfl (w_iand rfl (w_goto rfl (t := 33) rfl ?_)))))))))))))))
  rw [eb]
  exact w_ireturn rfl rfl ⟨rfl, rfl⟩
theorem c_byte0 {q : Nat} (e43 : h[43]? = some (0, 3, fs)) (f0 : fs[0]? = some (.ref 44)) (f1 : fs[1]? = some (.int (Int32.ofNat n))) (e44 : h[44]? = some (1, 1, tp)) (hb : t_C tp b) (hn : n ≤ 300) (hq : ¬ q < n) (hq3 : q ≤ 300) : p_wp p_GT p_MT d m_X3_byteAt 0 (lv_args 0 [.ref 43, .int (Int32.ofNat q)]) [] h (fun v h2 => v = some (.int (Int32.ofInt 0)) ∧ h2 = h) := by
  exact w_iload_n rfl rfl (w_ifc_f rfl (t := 32) rfl (by simp only [p_cd, decide_eq_false_iff_not]; exact g_nl (by omega)) (w_iload_n rfl rfl (w_aload_n rfl rfl (w_getf rfl rfl e43 f1 (w_icmp_t rfl (t := 32) rfl (by simp only [p_cd, decide_eq_true_eq]; rw [Int32.le_iff_toInt_le, g_ofNat (by omega), g_ofNat (by omega)]; omega) (w_iconst rfl (w_ireturn rfl rfl ⟨rfl, rfl⟩)))))))
set_option maxRecDepth 100000 in
theorem c_sort {c : Nat} (hc : c < 256) : p_wp p_GT p_MT d m_X3_sortOf 0 (lv_args 0 [.int (Int32.ofNat c)]) [] h (fun v h2 => v = some (.int (Int32.ofNat (t_so c))) ∧ h2 = h) := by
  unfold t_so t_al t_fi
  refine w_iload_n rfl rfl (w_bp 97 rfl rfl ?_)
  cases q3 : Nat.ble 97 c with
  | true =>
    refine w_icmp_f rfl (t := 12) rfl (by rw [t_clt hc (by decide), q3]; rfl) (w_iload_n rfl rfl (w_bp 122 rfl rfl ?_))
    cases q9 : Nat.ble c 122 with
    | true =>
      exact w_icmp_t rfl (t := 24) rfl (by rw [t_cle hc (by decide), q9]) (w_ic 1 rfl rfl (w_ireturn rfl rfl ⟨rfl, rfl⟩))
    | false =>
      refine w_icmp_f rfl (t := 24) rfl (by rw [t_cle hc (by decide), q9]) (w_iload_n rfl rfl (w_bp 65 rfl rfl ?_))
      cases q15 : Nat.ble 65 c with
      | true =>
        refine w_icmp_f rfl (t := 26) rfl (by rw [t_clt hc (by decide), q15]; rfl) (w_iload_n rfl rfl (w_bp 90 rfl rfl ?_))
        cases q21 : Nat.ble c 90 with
        | true =>
          exact w_icmp_f rfl (t := 26) rfl (by rw [t_cgt hc (by decide), q21]; rfl) (w_ic 1 rfl rfl (w_ireturn rfl rfl ⟨rfl, rfl⟩))
        | false =>
          refine w_icmp_t rfl (t := 26) rfl (by rw [t_cgt hc (by decide), q21]; rfl) (w_iload_n rfl rfl (w_bp 48 rfl rfl ?_))
          cases q29 : Nat.ble 48 c with
          | true =>
            refine w_icmp_f rfl (t := 42) rfl (by rw [t_clt hc (by decide), q29]; rfl) (w_iload_n rfl rfl (w_bp 57 rfl rfl ?_))
            cases q35 : Nat.ble c 57 with
            | true =>
              exact w_icmp_f rfl (t := 42) rfl (by rw [t_cgt hc (by decide), q35]; rfl) (w_ic 2 rfl rfl (w_goto rfl (t := 43) rfl (w_ireturn rfl rfl ⟨rfl, rfl⟩)))
            | false =>
              exact w_icmp_t rfl (t := 42) rfl (by rw [t_cgt hc (by decide), q35]; rfl) (w_ic 3 rfl rfl (w_ireturn rfl rfl ⟨rfl, rfl⟩))
          | false =>
            exact w_icmp_t rfl (t := 42) rfl (by rw [t_clt hc (by decide), q29]; rfl) (w_ic 3 rfl rfl (w_ireturn rfl rfl ⟨rfl, rfl⟩))
      | false =>
        refine w_icmp_t rfl (t := 26) rfl (by rw [t_clt hc (by decide), q15]; rfl) (w_iload_n rfl rfl (w_bp 48 rfl rfl ?_))
        cases q29 : Nat.ble 48 c with
        | true =>
          refine w_icmp_f rfl (t := 42) rfl (by rw [t_clt hc (by decide), q29]; rfl) (w_iload_n rfl rfl (w_bp 57 rfl rfl ?_))
          cases q35 : Nat.ble c 57 with
          | true =>
            exact w_icmp_f rfl (t := 42) rfl (by rw [t_cgt hc (by decide), q35]; rfl) (w_ic 2 rfl rfl (w_goto rfl (t := 43) rfl (w_ireturn rfl rfl ⟨rfl, rfl⟩)))
          | false =>
            exact w_icmp_t rfl (t := 42) rfl (by rw [t_cgt hc (by decide), q35]; rfl) (w_ic 3 rfl rfl (w_ireturn rfl rfl ⟨rfl, rfl⟩))
        | false =>
          exact w_icmp_t rfl (t := 42) rfl (by rw [t_clt hc (by decide), q29]; rfl) (w_ic 3 rfl rfl (w_ireturn rfl rfl ⟨rfl, rfl⟩))
  | false =>
    refine w_icmp_t rfl (t := 12) rfl (by rw [t_clt hc (by decide), q3]; rfl) (w_iload_n rfl rfl (w_bp 65 rfl rfl ?_))
    cases q15 : Nat.ble 65 c with
    | true =>
      refine w_icmp_f rfl (t := 26) rfl (by rw [t_clt hc (by decide), q15]; rfl) (w_iload_n rfl rfl (w_bp 90 rfl rfl ?_))
      cases q21 : Nat.ble c 90 with
      | true =>
        exact w_icmp_f rfl (t := 26) rfl (by rw [t_cgt hc (by decide), q21]; rfl) (w_ic 1 rfl rfl (w_ireturn rfl rfl ⟨rfl, rfl⟩))
      | false =>
        refine w_icmp_t rfl (t := 26) rfl (by rw [t_cgt hc (by decide), q21]; rfl) (w_iload_n rfl rfl (w_bp 48 rfl rfl ?_))
        cases q29 : Nat.ble 48 c with
        | true =>
          refine w_icmp_f rfl (t := 42) rfl (by rw [t_clt hc (by decide), q29]; rfl) (w_iload_n rfl rfl (w_bp 57 rfl rfl ?_))
          cases q35 : Nat.ble c 57 with
          | true =>
            exact w_icmp_f rfl (t := 42) rfl (by rw [t_cgt hc (by decide), q35]; rfl) (w_ic 2 rfl rfl (w_goto rfl (t := 43) rfl (w_ireturn rfl rfl ⟨rfl, rfl⟩)))
          | false =>
            exact w_icmp_t rfl (t := 42) rfl (by rw [t_cgt hc (by decide), q35]; rfl) (w_ic 3 rfl rfl (w_ireturn rfl rfl ⟨rfl, rfl⟩))
        | false =>
          exact w_icmp_t rfl (t := 42) rfl (by rw [t_clt hc (by decide), q29]; rfl) (w_ic 3 rfl rfl (w_ireturn rfl rfl ⟨rfl, rfl⟩))
    | false =>
      refine w_icmp_t rfl (t := 26) rfl (by rw [t_clt hc (by decide), q15]; rfl) (w_iload_n rfl rfl (w_bp 48 rfl rfl ?_))
      cases q29 : Nat.ble 48 c with
      | true =>
        refine w_icmp_f rfl (t := 42) rfl (by rw [t_clt hc (by decide), q29]; rfl) (w_iload_n rfl rfl (w_bp 57 rfl rfl ?_))
        cases q35 : Nat.ble c 57 with
        | true =>
          exact w_icmp_f rfl (t := 42) rfl (by rw [t_cgt hc (by decide), q35]; rfl) (w_ic 2 rfl rfl (w_goto rfl (t := 43) rfl (w_ireturn rfl rfl ⟨rfl, rfl⟩)))
        | false =>
          exact w_icmp_t rfl (t := 42) rfl (by rw [t_cgt hc (by decide), q35]; rfl) (w_ic 3 rfl rfl (w_ireturn rfl rfl ⟨rfl, rfl⟩))
      | false =>
        exact w_icmp_t rfl (t := 42) rfl (by rw [t_clt hc (by decide), q29]; rfl) (w_ic 3 rfl rfl (w_ireturn rfl rfl ⟨rfl, rfl⟩))
set_option maxRecDepth 100000 in
theorem c_skl {q0 : Nat} (hl : 43 < h.length) (e44 : h[44]? = some (1, 1, tp)) (hb : t_C tp b) (hn : n ≤ 300) (f0 : fs[0]? = some (.ref 44)) (f1 : fs[1]? = some (.int (Int32.ofNat n))) (hN : ∀ gs, (∀ k, k ≠ 4 → gs[k]? = fs[k]?) → gs[4]? = some (.int (Int32.ofNat (t_sk b n q0))) → p_wp p_GT p_MT (d + 1) m_X3_step 50 (lv_args 0 [.ref 43]) [] (h.set 43 (0, 3, gs)) Q) : ∀ j q gs, q + j = n → t_sk b n q = t_sk b n q0 → (∀ k, k ≠ 4 → gs[k]? = fs[k]?) → gs[4]? = some (.int (Int32.ofNat q)) → p_wp p_GT p_MT (d + 1) m_X3_step 0 (lv_args 0 [.ref 43]) [] (h.set 43 (0, 3, gs)) Q := by
  intro j
  induction j with
  | zero =>
    intro q gs hq hs K g4
    rw [t_sk_no (fun e => absurd e.1 (by omega))] at hs
    exact w_aload_n rfl rfl (w_getf rfl rfl (w_at hl) g4 (w_aload_n rfl rfl (w_getf rfl rfl (w_at hl) ((K 1 (by decide)).trans f1) (w_icmp_t rfl (t := 50) rfl (by simp only [p_cd, decide_eq_true_eq]; rw [Int32.le_iff_toInt_le, g_ofNat (by omega), g_ofNat (by omega)]; omega) (hN gs K (by rw [← hs]; exact g4))))))
  | succ j ih =>
    intro q gs hq hs K g4
    have q1 : q < n := by omega
    have b256 := (hb q (by omega)).2
    refine w_aload_n rfl rfl (w_getf rfl rfl (w_at hl) g4 (w_aload_n rfl rfl (w_getf rfl rfl (w_at hl) ((K 1 (by decide)).trans f1) (w_icmp_f rfl (t := 50) rfl (by simp only [p_cd, decide_eq_false_iff_not]; rw [Int32.le_iff_toInt_le, g_ofNat (by omega), g_ofNat (by omega)]; omega) (w_aload_n rfl rfl (w_aload_n rfl rfl (w_getf rfl rfl (w_at hl) g4 (w_virtual (dc := d) (M' := m_X3_byteAt) rfl (g_vir (n := 2) rfl rfl (by simp [p_cat, p_bd, Value.category]) rfl rfl (w_at hl) rfl) rfl rfl (Nat.le_refl _) (c_byte1 (q := q) (w_at hl) ((K 0 (by decide)).trans f0) ((K 1 (by decide)).trans f1) (a_ga (by decide) e44) hb hn q1) ?_))))))))
    rintro v h2 ⟨rfl, rfl⟩
    refine w_bp 32 rfl rfl ?_
    cases e1 : Nat.beq (b q) 32 with
    | true =>
      refine w_icmp_t rfl (t := 37) rfl (by rw [t_ceq b256 (by decide), e1]) (w_aload_n rfl rfl (w_dup rfl rfl (w_getf rfl rfl (w_at hl) g4 (w_ic 1 rfl rfl (w_addN rfl (w_putfS rfl rfl hl rfl rfl (w_flt g4) (w_goto rfl (t := 0) rfl ?_)))))))
      exact ih (q + 1) _ (by omega) (by rw [← t_sk_go q1 (by unfold t_bl; rw [e1, Bool.true_or])]; exact hs) (w_K (fun e => e rfl) K) (w_fat g4)
    | false =>
      refine w_icmp_f rfl (t := 37) rfl (by rw [t_ceq b256 (by decide), e1]) (w_aload_n rfl rfl (w_aload_n rfl rfl (w_getf rfl rfl (w_at hl) g4 (w_virtual (dc := d) (M' := m_X3_byteAt) rfl (g_vir (n := 2) rfl rfl (by simp [p_cat, p_bd, Value.category]) rfl rfl (w_at hl) rfl) rfl rfl (Nat.le_refl _) (c_byte1 (q := q) (w_at hl) ((K 0 (by decide)).trans f0) ((K 1 (by decide)).trans f1) (a_ga (by decide) e44) hb hn q1) ?_))))
      rintro v h2 ⟨rfl, rfl⟩
      refine w_bp 10 rfl rfl ?_
      cases e2 : Nat.beq (b q) 10 with
      | true =>
        refine w_icmp_f rfl (t := 50) rfl (by rw [t_cne b256 (by decide), e2]; rfl) (w_aload_n rfl rfl (w_dup rfl rfl (w_getf rfl rfl (w_at hl) g4 (w_ic 1 rfl rfl (w_addN rfl (w_putfS rfl rfl hl rfl rfl (w_flt g4) (w_goto rfl (t := 0) rfl ?_)))))))
        exact ih (q + 1) _ (by omega) (by rw [← t_sk_go q1 (by unfold t_bl; rw [e2, Bool.or_true])]; exact hs) (w_K (fun e => e rfl) K) (w_fat g4)
      | false =>
        rw [t_sk_no (by unfold t_bl; rw [e1, e2]; simp)] at hs
        exact w_icmp_t rfl (t := 50) rfl (by rw [t_cne b256 (by decide), e2]; rfl) (hN gs K (by rw [← hs]; exact g4))
theorem t_mse {x : Nat} (hx : x < 1000000) {m : Nat} (hm : m = min 10000 x := by rfl) : (if Int32.ofNat 10000 ≤ Int32.ofNat x then Int32.ofNat 10000 else Int32.ofNat x) = Int32.ofNat m := by
  by_cases q : 10000 ≤ x
  · rw [if_pos (by rw [Int32.le_iff_toInt_le, g_ofNat (by decide), Int32.toInt_ofNat_of_lt (show x < 2 ^ 31 by omega)]; omega), hm, Nat.min_eq_left q]
  · rw [if_neg (by rw [Int32.le_iff_toInt_le, g_ofNat (by decide), Int32.toInt_ofNat_of_lt (show x < 2 ^ 31 by omega)]; omega), hm, Nat.min_eq_right (by omega)]
theorem w_s2 {ls : p_Ls} {i j : Nat} {v w : Value} (hw : p_lk j ls = some w) (hc : w.category = 1) (hne : j ≠ i) (hn1 : j ≠ i + 1) : p_lk j (p_s2 ls i v) = some w := by
  have e : Nat.beq i j = false := by
    cases q : Nat.beq i j with
    | false => rfl
    | true => exact absurd (Nat.eq_of_beq_eq_true q).symm hne
  simp only [p_s2, p_lk, e, Bool.false_eq_true, if_false]
  refine p_lk_fil hw ?_
  have h0 : (j == i) = false := by simpa using hne
  have h1 : (j == i + 1) = false := by simpa using hn1
  simp [h0, h1, hc]
set_option maxRecDepth 100000 in
theorem c_lw {p : Nat} (hl : 43 < h.length) (e44 : h[44]? = some (1, 1, tp)) (hb : t_C tp b) (hn : n ≤ 300) (f0 : fs[0]? = some (.ref 44)) (f1 : fs[1]? = some (.int (Int32.ofNat n))) (f5 : fs[5]? = some (.int (Int32.ofNat p))) (f6 : fs[6]? = some (.int (Int32.ofNat 1))) (hN : ∀ gs ls (y : Int32), (∀ k, k ≠ 4 → gs[k]? = fs[k]?) → gs[4]? = some (.int (Int32.ofNat (t_zl b n p).1)) → p_lk 0 ls = some (.ref 43) → p_lk 1 ls = some (.long (t_zl b n p).2) → p_lk 3 ls = some (.int y) → p_wp p_GT p_MT (d + 1) m_X3_step 191 ls [] (h.set 43 (0, 3, gs)) Q) : ∀ j q z gs ls (y : Int32), q + j = n → t_lp n (fun q => t_al (b q)) (t_zs b) q z = t_zl b n p → (∀ k, k ≠ 4 → gs[k]? = fs[k]?) → gs[4]? = some (.int (Int32.ofNat q)) → p_lk 0 ls = some (.ref 43) → p_lk 1 ls = some (.long z) → p_lk 3 ls = some (.int y) → p_wp p_GT p_MT (d + 1) m_X3_step 92 ls [] (h.set 43 (0, 3, gs)) Q := by
  intro j
  induction j with
  | zero =>
    intro q z gs ls y hq hs K g4 l0 l1 l3
    rw [t_lp_no (fun e => absurd e.1 (by omega))] at hs
    exact w_aload_n rfl l0 (w_getf rfl rfl (w_at hl) g4 (w_aload_n rfl l0 (w_getf rfl rfl (w_at hl) ((K 1 (by decide)).trans f1) (w_icmp_t rfl (t := 191) rfl (by simp only [p_cd, decide_eq_true_eq]; rw [Int32.le_iff_toInt_le, g_ofNat (by omega), g_ofNat (by omega)]; omega) (hN gs ls y K (by rw [← hs]; exact g4) l0 (by rw [← hs]; exact l1) l3)))))
  | succ j ih =>
    intro q z gs ls y hq hs K g4 l0 l1 l3
    have q1 : q < n := by omega
    have b256 := (hb q (by omega)).2
    refine w_aload_n rfl l0 (w_getf rfl rfl (w_at hl) g4 (w_aload_n rfl l0 (w_getf rfl rfl (w_at hl) ((K 1 (by decide)).trans f1) (w_icmp_f rfl (t := 191) rfl (by simp only [p_cd, decide_eq_false_iff_not]; rw [Int32.le_iff_toInt_le, g_ofNat (by omega), g_ofNat (by omega)]; omega) (w_aload_n rfl l0 (w_aload_n rfl l0 (w_getf rfl rfl (w_at hl) g4 (w_virtual (dc := d) (M' := m_X3_byteAt) rfl (g_vir (n := 2) rfl rfl (by simp [p_cat, p_bd, Value.category]) rfl rfl (w_at hl) rfl) rfl rfl (Nat.le_refl _) (c_byte1 (q := q) (w_at hl) ((K 0 (by decide)).trans f0) ((K 1 (by decide)).trans f1) (a_ga (by decide) e44) hb hn q1) ?_))))))))
    rintro v h2 ⟨rfl, rfl⟩
    refine w_static (nn := 0) (dc := d) (M' := m_X3_sortOf) rfl rfl rfl rfl (Nat.le_refl _) (c_sort b256) ?_
    rintro v h2 ⟨rfl, rfl⟩
    refine w_aload_n rfl l0 (w_getf rfl rfl (w_at hl) ((K 6 (by decide)).trans f6) ?_)
    cases e1 : t_al (b q) with
    | false =>
      rw [t_lp_no (fun e => by rw [e1] at e; exact absurd e.2 (by decide))] at hs
      exact w_icmp_t rfl (t := 191) rfl (by simp only [p_cd, decide_eq_true_eq]; exact b_ofNat_ne (by unfold t_so; split <;> (try split) <;> omega) (by decide) (by unfold t_so; rw [e1, if_neg (by decide)]; split <;> decide)) (hN gs ls y K (by rw [← hs]; exact g4) l0 (by rw [← hs]; exact l1) l3)
    | true =>
      rw [t_lp_go q1 e1] at hs
      have es : t_so (b q) = 1 := by unfold t_so; rw [e1, if_pos rfl]
      rw [es]
      refine w_icmp_f rfl (t := 191) rfl (by decide) (w_aload_n rfl l0 (w_getf rfl rfl (w_at hl) ((K 6 (by decide)).trans f6) (w_ic 3 rfl rfl (w_icmp_t rfl (t := 140) rfl (by decide) (w_lload_n rfl l1 (w_bp 8 rfl rfl (w_lshl rfl (w_aload_n rfl l0 (w_aload_n rfl l0 (w_getf rfl rfl (w_at hl) g4 (w_virtual (dc := d) (M' := m_X3_byteAt) rfl (g_vir (n := 2) rfl rfl (by simp [p_cat, p_bd, Value.category]) rfl rfl (w_at hl) rfl) rfl rfl (Nat.le_refl _) (c_byte1 (q := q) (w_at hl) ((K 0 (by decide)).trans f0) ((K 1 (by decide)).trans f1) (a_ga (by decide) e44) hb hn q1) ?_)))))))))))
      rintro v h2 ⟨rfl, rfl⟩
      refine w_i2l rfl (w_lor rfl (w_lstore_n rfl (by decide) (w_sp 10000 rfl rfl (w_iload_n rfl (w_s2 l3 rfl (by decide) (by decide)) (w_bp 10 rfl rfl (w_imul rfl (w_aload_n rfl (w_s2 l0 rfl (by decide) (by decide)) (w_aload_n rfl (w_s2 l0 rfl (by decide) (by decide)) (w_getf rfl rfl (w_at hl) g4 (w_virtual (dc := d) (M' := m_X3_byteAt) rfl (g_vir (n := 2) rfl rfl (by simp [p_cat, p_bd, Value.category]) rfl rfl (w_at hl) rfl) rfl rfl (Nat.le_refl _) (c_byte1 (q := q) (w_at hl) ((K 0 (by decide)).trans f0) ((K 1 (by decide)).trans f1) (a_ga (by decide) e44) hb hn q1) ?_))))))))))
      rintro v h2 ⟨rfl, rfl⟩
      refine w_iadd rfl (w_bp 48 rfl rfl (w_isub rfl (w_static (nn := 0) (dc := d) (M' := m_J9_min_7cf53) rfl rfl rfl rfl (Nat.le_refl _) c_jmin ?_)))
      rintro u h2 ⟨rfl, rfl⟩
      obtain ⟨y2, ey2⟩ : ∃ y2, y2 = (if Int32.ofNat 10000 ≤ y * Int32.ofNat 10 + Int32.ofNat (b q) - Int32.ofNat 48 then Int32.ofNat 10000 else y * Int32.ofNat 10 + Int32.ofNat (b q) - Int32.ofNat 48) := ⟨_, rfl⟩
      rw [← ey2]
      refine w_istore_n rfl (by decide) (w_aload_n rfl (w_s1 (w_s2 l0 rfl (by decide) (by decide)) rfl (by decide)) (w_dup rfl rfl (w_getf rfl rfl (w_at hl) g4 (w_ic 1 rfl rfl (w_addN rfl (w_putfS rfl rfl hl rfl rfl (w_flt g4) (w_goto rfl (t := 92) rfl ?_)))))))
      exact ih (q + 1) (t_zs b q z) _ _ y2 (by omega) hs (w_K (fun e => e rfl) K) (w_fat g4) (w_s1 (w_s2 l0 rfl (by decide) (by decide)) rfl (by decide)) (w_s1l p_lk_s2 (by decide) (by decide)) p_lk_s1
set_option maxRecDepth 100000 in
theorem c_ln {p : Nat} (hl : 43 < h.length) (e44 : h[44]? = some (1, 1, tp)) (hb : t_C tp b) (hn : n ≤ 300) (f0 : fs[0]? = some (.ref 44)) (f1 : fs[1]? = some (.int (Int32.ofNat n))) (f5 : fs[5]? = some (.int (Int32.ofNat p))) (f6 : fs[6]? = some (.int (Int32.ofNat 2))) (hN : ∀ gs ls (z : Int64), (∀ k, k ≠ 4 → gs[k]? = fs[k]?) → gs[4]? = some (.int (Int32.ofNat (t_ml b n p).1)) → p_lk 0 ls = some (.ref 43) → p_lk 1 ls = some (.long z) → p_lk 3 ls = some (.int (Int32.ofNat (t_ml b n p).2)) → p_wp p_GT p_MT (d + 1) m_X3_step 191 ls [] (h.set 43 (0, 3, gs)) Q) : ∀ j q v gs ls (z : Int64), q + j = n → v ≤ 10000 → t_lp n (fun q => t_fi (b q)) (t_ms b) q v = t_ml b n p → (∀ k, k ≠ 4 → gs[k]? = fs[k]?) → gs[4]? = some (.int (Int32.ofNat q)) → p_lk 0 ls = some (.ref 43) → p_lk 1 ls = some (.long z) → p_lk 3 ls = some (.int (Int32.ofNat v)) → p_wp p_GT p_MT (d + 1) m_X3_step 92 ls [] (h.set 43 (0, 3, gs)) Q := by
  intro j
  induction j with
  | zero =>
    intro q v gs ls z hq hv hs K g4 l0 l1 l3
    rw [t_lp_no (fun e => absurd e.1 (by omega))] at hs
    exact w_aload_n rfl l0 (w_getf rfl rfl (w_at hl) g4 (w_aload_n rfl l0 (w_getf rfl rfl (w_at hl) ((K 1 (by decide)).trans f1) (w_icmp_t rfl (t := 191) rfl (by simp only [p_cd, decide_eq_true_eq]; rw [Int32.le_iff_toInt_le, g_ofNat (by omega), g_ofNat (by omega)]; omega) (hN gs ls z K (by rw [← hs]; exact g4) l0 l1 (by rw [← hs]; exact l3))))))
  | succ j ih =>
    intro q v gs ls z hq hv hs K g4 l0 l1 l3
    have q1 : q < n := by omega
    have b256 := (hb q (by omega)).2
    refine w_aload_n rfl l0 (w_getf rfl rfl (w_at hl) g4 (w_aload_n rfl l0 (w_getf rfl rfl (w_at hl) ((K 1 (by decide)).trans f1) (w_icmp_f rfl (t := 191) rfl (by simp only [p_cd, decide_eq_false_iff_not]; rw [Int32.le_iff_toInt_le, g_ofNat (by omega), g_ofNat (by omega)]; omega) (w_aload_n rfl l0 (w_aload_n rfl l0 (w_getf rfl rfl (w_at hl) g4 (w_virtual (dc := d) (M' := m_X3_byteAt) rfl (g_vir (n := 2) rfl rfl (by simp [p_cat, p_bd, Value.category]) rfl rfl (w_at hl) rfl) rfl rfl (Nat.le_refl _) (c_byte1 (q := q) (w_at hl) ((K 0 (by decide)).trans f0) ((K 1 (by decide)).trans f1) (a_ga (by decide) e44) hb hn q1) ?_))))))))
    rintro v h2 ⟨rfl, rfl⟩
    refine w_static (nn := 0) (dc := d) (M' := m_X3_sortOf) rfl rfl rfl rfl (Nat.le_refl _) (c_sort b256) ?_
    rintro v h2 ⟨rfl, rfl⟩
    refine w_aload_n rfl l0 (w_getf rfl rfl (w_at hl) ((K 6 (by decide)).trans f6) ?_)
    cases e1 : t_fi (b q) with
    | false =>
      rw [t_lp_no (fun e => by rw [e1] at e; exact absurd e.2 (by decide))] at hs
      exact w_icmp_t rfl (t := 191) rfl (by simp only [p_cd, decide_eq_true_eq]; exact b_ofNat_ne (by unfold t_so; split <;> (try split) <;> omega) (by decide) (by unfold t_so; rw [e1]; split <;> decide)) (hN gs ls z K (by rw [← hs]; exact g4) l0 l1 (by rw [← hs]; exact l3))
    | true =>
      rw [t_lp_go q1 e1] at hs
      have es : t_so (b q) = 2 := by unfold t_so; rw [t_al_fi e1, e1, if_neg (by decide), if_pos rfl]
      have e48 : 48 ≤ b q ∧ b q ≤ 57 := by
        unfold t_fi at e1
        rw [Bool.and_eq_true] at e1
        exact ⟨Nat.le_of_ble_eq_true e1.1, Nat.le_of_ble_eq_true e1.2⟩
      rw [es]
      refine w_icmp_f rfl (t := 191) rfl (by decide) (w_aload_n rfl l0 (w_getf rfl rfl (w_at hl) ((K 6 (by decide)).trans f6) (w_ic 3 rfl rfl (w_icmp_t rfl (t := 140) rfl (by decide) (w_lload_n rfl l1 (w_bp 8 rfl rfl (w_lshl rfl (w_aload_n rfl l0 (w_aload_n rfl l0 (w_getf rfl rfl (w_at hl) g4 (w_virtual (dc := d) (M' := m_X3_byteAt) rfl (g_vir (n := 2) rfl rfl (by simp [p_cat, p_bd, Value.category]) rfl rfl (w_at hl) rfl) rfl rfl (Nat.le_refl _) (c_byte1 (q := q) (w_at hl) ((K 0 (by decide)).trans f0) ((K 1 (by decide)).trans f1) (a_ga (by decide) e44) hb hn q1) ?_)))))))))))
      rintro v h2 ⟨rfl, rfl⟩
      refine w_i2l rfl (w_lor rfl (w_lstore_n rfl (by decide) (w_sp 10000 rfl rfl (w_iload_n rfl (w_s2 l3 rfl (by decide) (by decide)) (w_bp 10 rfl rfl (w_mulN rfl (w_aload_n rfl (w_s2 l0 rfl (by decide) (by decide)) (w_aload_n rfl (w_s2 l0 rfl (by decide) (by decide)) (w_getf rfl rfl (w_at hl) g4 (w_virtual (dc := d) (M' := m_X3_byteAt) rfl (g_vir (n := 2) rfl rfl (by simp [p_cat, p_bd, Value.category]) rfl rfl (w_at hl) rfl) rfl rfl (Nat.le_refl _) (c_byte1 (q := q) (w_at hl) ((K 0 (by decide)).trans f0) ((K 1 (by decide)).trans f1) (a_ga (by decide) e44) hb hn q1) ?_))))))))))
      rintro v h2 ⟨rfl, rfl⟩
      refine w_addN rfl (w_bp 48 rfl rfl (w_subN rfl (by omega) (w_static (nn := 0) (dc := d) (M' := m_J9_min_7cf53) rfl rfl rfl rfl (Nat.le_refl _) c_jmin ?_)))
      rintro u h2 ⟨rfl, rfl⟩
      rw [show (if Int32.ofNat 10000 ≤ Int32.ofNat (v * 10 + b q - 48) then Int32.ofNat 10000 else Int32.ofNat (v * 10 + b q - 48)) = Int32.ofNat (t_ms b q v) from t_mse (by omega)]
      refine w_istore_n rfl (by decide) (w_aload_n rfl (w_s1 (w_s2 l0 rfl (by decide) (by decide)) rfl (by decide)) (w_dup rfl rfl (w_getf rfl rfl (w_at hl) g4 (w_ic 1 rfl rfl (w_addN rfl (w_putfS rfl rfl hl rfl rfl (w_flt g4) (w_goto rfl (t := 92) rfl ?_)))))))
      exact ih (q + 1) (t_ms b q v) _ _ (t_zs b q z) (by omega) (by unfold t_ms; omega) hs (w_K (fun e => e rfl) K) (w_fat g4) (w_s1 (w_s2 l0 rfl (by decide) (by decide)) rfl (by decide)) (w_s1l p_lk_s2 (by decide) (by decide)) p_lk_s1
def t_W : List Int64 := [469853041779, 495622843507, 1919906931, 1886350948, 495689623668, 7561591, 427121668979, 1936026732, 495874892151, 6578553, 1751474548, 1936292453, 120282378691940, 1701078885, 126896543659123, 461330343027, 25209, 24948, 1684366704, 29807, 7238760, 28518]
theorem t_W_eq : p_wds = t_W.map Value.long := by rfl
/-- which of the words it is, or -1 -/
def t_IX (z : Int64) (v : Int32) : Prop := (∃ k, k < 22 ∧ t_W[k]? = some z ∧ v = Int32.ofNat k) ∨ ((∀ k, k < 22 → t_W[k]? ≠ some z) ∧ v = Int32.ofInt (-1))
section CTV
variable {G : p_G} {MT : List p_M} {M : p_M} {pc l : Nat} {ls : p_Ls} {st : List Value} {vs : List Value} {a k : Nat}
theorem w_gets {X : Nat} {q : Nat × Int} (hat : p_at pc M.2.2.2.2.1 = some (.getstatic X, l)) (hp : p_pk X 6 M.2.2.2.2.2.1 = some q) (hk : p_wp G MT d M (pc + 3) ls (.ref 1 :: st) h Q) : p_wp G MT d M pc ls st h Q :=
  p_wp.step hat (by simp only [p_step, hp]; rfl) hk
theorem w_alen2 {t : Nat} (hat : p_at pc M.2.2.2.2.1 = some (.arraylength, l)) (hc : h[a]? = some (2, t, vs)) (hk : p_wp G MT d M (pc + 1) ls (.int (Int32.ofNat vs.length) :: st) h Q) : p_wp G MT d M pc ls (.ref a :: st) h Q :=
  p_wp.step hat (by simp only [p_step, hc]; rfl) hk
theorem w_lld2 {v : Value} (hat : p_at pc M.2.2.2.2.1 = some (.laload, 1)) (hc : h[a]? = some (2, 2, vs)) (hn : k < 100000) (hv : vs[k]? = some v) (hk : p_wp G MT d M (pc + 1) ls (v :: st) h Q) : p_wp G MT d M pc ls (.int (Int32.ofNat k) :: .ref a :: st) h Q := by
  refine p_wp.step hat ?_ hk
  simp only [p_step, p_al, hc, p_ix, if_neg (g_nl hn), g_ncl hn, hv]
  rfl
end CTV
theorem c_wordl {z : Int64} (e1 : h[1]? = some (2, 2, p_wds)) (hQ : ∀ v, t_IX z v → Q (some (.int v)) h) : ∀ j i ls, i + j = 22 → (∀ k, k < i → t_W[k]? ≠ some z) → p_lk 0 ls = some (.long z) → p_lk 2 ls = some (.int (Int32.ofNat i)) → p_wp p_GT p_MT d m_X3_wordOf 2 ls [] h Q := by
  intro j
  induction j with
  | zero =>
    intro i ls hi hk l0 l2
    have hi : i = 22 := hi
    subst hi
    exact w_iload_n rfl l2 (w_gets rfl rfl (w_alen2 rfl e1 (w_icmp_t rfl (t := 28) rfl (by decide) (w_iconst rfl (w_ireturn rfl rfl (hQ _ (Or.inr ⟨hk, rfl⟩)))))))
  | succ j ih =>
    intro i ls hi hk l0 l2
    obtain ⟨w, hw⟩ : ∃ w, t_W[i]? = some w := ⟨_, List.getElem?_eq_getElem (show i < t_W.length by show i < 22; omega)⟩
    have hv : p_wds[i]? = some (.long w) := by rw [t_W_eq, List.getElem?_map, hw]; rfl
    have hc : p_cd .ge (Int32.ofNat i) (Int32.ofNat p_wds.length) = false := by
      simp only [p_cd, decide_eq_false_iff_not]
      rw [show p_wds.length = 22 from rfl, Int32.le_iff_toInt_le, g_ofNat (by omega), g_ofNat (by omega)]; omega
    refine w_iload_n rfl l2 (w_gets rfl rfl (w_alen2 rfl e1 (w_icmp_f rfl (t := 28) rfl hc (w_gets rfl rfl (w_iload_n rfl l2 (w_lld2 rfl e1 (by omega) hv (w_lload_n rfl l0 (w_lcmp rfl ?_))))))))
    by_cases q : w = z
    · subst q
      exact w_ifc_f rfl (t := 22) rfl (by simp only [p_cd, decide_eq_false_iff_not]; exact fun e => e ((lg_cmp_eq _ _).mpr rfl)) (w_iload_n rfl l2 (w_ireturn rfl rfl (hQ _ (Or.inl ⟨i, by omega, hw, rfl⟩))))
    · refine w_ifc_t rfl (t := 22) rfl (by simp only [p_cd, decide_eq_true_eq]; exact fun e => q ((lg_cmp_eq _ _).mp e)) (w_iincN rfl l2 (by decide) (w_goto rfl (t := 2) rfl ?_))
      refine ih (i + 1) _ (by omega) (fun k hk2 => ?_) (w_s1l l0 (by decide) (by decide)) p_lk_s1
      by_cases e : k = i
      · subst e; rw [hw]; exact fun e => q (Option.some.inj e)
      · exact hk k (by omega)
theorem c_word {z : Int64} (e1 : h[1]? = some (2, 2, p_wds)) : p_wp p_GT p_MT d m_X3_wordOf 0 (lv_args 0 [.long z]) [] h (fun a h2 => (∃ v, a = some (.int v) ∧ t_IX z v) ∧ h2 = h) := by
  refine w_ic 0 rfl rfl (w_istore_n rfl (by decide) ?_)
  exact c_wordl e1 (fun v hv => ⟨⟨v, rfl, hv⟩, rfl⟩) 22 0 _ rfl (fun k hk => absurd hk (Nat.not_lt_zero k)) (w_s1l rfl (by decide) (by decide)) p_lk_s1
/-- what the fields of the class's reader say of the token at p -/
def c_T (b : Nat → Nat) (n p : Nat) (gs : List Value) : Prop := gs[4]? = some (.int (Int32.ofNat (t_e b n p))) ∧ gs[5]? = some (.int (Int32.ofNat p)) ∧ gs[6]? = some (.int (Int32.ofNat (t_k b n p))) ∧ ∃ v, gs[7]? = some (.int v) ∧ (t_k b n p = 1 → t_IX (t_zl b n p).2 v) ∧ (t_k b n p = 2 → v = Int32.ofNat (t_ml b n p).2) ∧ (t_k b n p = 3 → v = Int32.ofNat (b p))
theorem t_k_so {p : Nat} (h : p < n) : t_k b n p = t_so (b p) := by unfold t_k t_so; rw [if_pos h]
set_option maxRecDepth 100000 in
theorem c_step {q0 : Nat} {x5 x6 x7 : Value} (e43 : h[43]? = some (0, 3, fs)) (e1' : h[1]? = some (2, 2, p_wds)) (e44 : h[44]? = some (1, 1, tp)) (hb : t_C tp b) (hn : n ≤ 300) (f0 : fs[0]? = some (.ref 44)) (f1 : fs[1]? = some (.int (Int32.ofNat n))) (f4 : fs[4]? = some (.int (Int32.ofNat q0))) (hq0 : q0 ≤ n) (f5 : fs[5]? = some x5) (f6 : fs[6]? = some x6) (f7 : fs[7]? = some x7) : p_wp p_GT p_MT (d + 1) m_X3_step 0 (lv_args 0 [.ref 43]) [] h (fun v h2 => v = none ∧ ∃ gs, h2 = h.set 43 (0, 3, gs) ∧ (∀ k, k < 4 ∨ 7 < k → gs[k]? = fs[k]?) ∧ c_T b n (t_sk b n q0) gs) := by
  have hl : 43 < h.length := (List.getElem?_eq_some_iff.mp e43).1
  obtain ⟨p, hp⟩ : ∃ p, p = t_sk b n q0 := ⟨_, rfl⟩
  have pn : p ≤ n := by rw [hp]; exact (t_sk_le hq0).2
  rw [← hp]
  suffices hgo : ∀ gs, (∀ k, k ≠ 4 → gs[k]? = fs[k]?) → gs[4]? = some (.int (Int32.ofNat p)) → p_wp p_GT p_MT (d + 1) m_X3_step 50 (lv_args 0 [.ref 43]) [] (h.set 43 (0, 3, gs)) (fun v h2 => v = none ∧ ∃ gs, h2 = h.set 43 (0, 3, gs) ∧ (∀ k, k < 4 ∨ 7 < k → gs[k]? = fs[k]?) ∧ c_T b n p gs) by
    have := c_skl (q0 := q0) hl e44 hb hn f0 f1 (by rw [← hp]; exact hgo) (n - q0) q0 fs (by omega) rfl (fun _ _ => rfl) f4
    rw [w_self e43] at this
    exact this
  intro gs K g4
  have K4 : ∀ k, k < 4 ∨ 7 < k → gs[k]? = fs[k]? := fun k hk => K k (by omega)
  by_cases q1 : p < n
  · have b256 := (hb p (by omega)).2
    have ek := t_k_so (b := b) q1
    refine w_aload_n rfl rfl (w_aload_n rfl rfl (w_getf rfl rfl (w_at hl) g4 (w_putfS rfl rfl hl rfl rfl (w_flt ((K 5 (by decide)).trans f5)) (w_aload_n rfl rfl (w_aload_n rfl rfl (w_getf rfl rfl (w_at hl) (w_fne g4 (by decide)) (w_aload_n rfl rfl (w_getf rfl rfl (w_at hl) (w_fne ((K 1 (by decide)).trans f1) (by decide)) (w_icmp_f rfl (t := 84) rfl (by simp only [p_cd, decide_eq_false_iff_not]; rw [Int32.le_iff_toInt_le, g_ofNat (by omega), g_ofNat (by omega)]; omega) (w_aload_n rfl rfl (w_aload_n rfl rfl (w_getf rfl rfl (w_at hl) (w_fne g4 (by decide)) (w_virtual (dc := d) (M' := m_X3_byteAt) rfl (g_vir (n := 2) rfl rfl (by simp [p_cat, p_bd, Value.category]) rfl rfl (w_at hl) rfl) rfl rfl (Nat.le_refl _) (c_byte1 (q := p) (w_at hl) (w_fne ((K 0 (by decide)).trans f0) (by decide)) (w_fne ((K 1 (by decide)).trans f1) (by decide)) (a_ga (by decide) e44) hb hn q1) ?_)))))))))))))
    rintro v h2 ⟨rfl, rfl⟩
    refine w_static (nn := 0) (dc := d) (M' := m_X3_sortOf) rfl rfl rfl rfl (Nat.le_refl _) (c_sort b256) ?_
    rintro v h2 ⟨rfl, rfl⟩
    refine w_goto rfl (t := 85) rfl (w_putfS rfl rfl hl rfl rfl (w_flt (w_fne ((K 6 (by decide)).trans f6) (by decide))) (w_lconst rfl (w_lstore_n rfl (by decide) (w_ic 0 rfl rfl (w_istore_n rfl (by decide) ?_)))))
    cases e1 : t_al (b p) with
    | true =>
      have k1 := t_k_w q1 e1
      have es : t_so (b p) = 1 := by rw [← ek]; exact k1
      rw [es]
      refine c_lw (p := p) (fs := (((gs.set 5 (.int (Int32.ofNat p))).set 6 (.int (Int32.ofNat 1))))) hl e44 hb hn (w_fne (w_fne ((K 0 (by decide)).trans f0) (by decide)) (by decide)) (w_fne (w_fne ((K 1 (by decide)).trans f1) (by decide)) (by decide)) (w_fne (w_fat ((K 5 (by decide)).trans f5)) (by decide)) (w_fat (w_fne ((K 6 (by decide)).trans f6) (by decide))) (fun gs2 ls y K2 n4 m0 m1 m3 => ?_) (n - p) p (Int64.ofNat 0) _ _ (Int32.ofNat 0) (by omega) rfl (fun _ _ => rfl) (w_fne (w_fne g4 (by decide)) (by decide)) (w_s1 (w_s2 rfl rfl (by decide) (by decide)) rfl (by decide)) (w_s1l p_lk_s2 (by decide) (by decide)) p_lk_s1
      refine w_aload_n rfl m0 (w_getf rfl rfl (w_at hl) ((K2 6 (by decide)).trans (w_fat (w_fne ((K 6 (by decide)).trans f6) (by decide)))) (w_ic 1 rfl rfl (w_icmp_f rfl (t := 210) rfl (by decide) (w_aload_n rfl m0 (w_lload_n rfl m1 (w_static (nn := 0) (dc := d) (M' := m_X3_wordOf) rfl rfl rfl rfl (Nat.le_refl _) (c_word (a_ga (by decide) e1')) ?_))))))
      rintro v h2 ⟨⟨v, rfl, hv⟩, rfl⟩
      refine w_putfS rfl rfl hl rfl rfl (w_flt ((K2 7 (by decide)).trans (w_fne (w_fne ((K 7 (by decide)).trans f7) (by decide)) (by decide)))) (w_goto rfl (t := 228) rfl (w_return rfl rfl ⟨rfl, _, rfl, fun k hk => ?_, ?_⟩))
      · rw [List.getElem?_set_ne (by omega), K2 k (by omega), List.getElem?_set_ne (by omega), List.getElem?_set_ne (by omega)]; exact K4 k hk
      · refine ⟨?_, w_fne ((K2 5 (by decide)).trans (w_fne (w_fat ((K 5 (by decide)).trans f5)) (by decide))) (by decide), ?_, v, (w_fat ((K2 7 (by decide)).trans (w_fne (w_fne ((K 7 (by decide)).trans f7) (by decide)) (by decide)))), fun _ => hv, fun e => absurd (k1.symm.trans e) (by decide), fun e => absurd (k1.symm.trans e) (by decide)⟩
        · have e4 : t_e b n p = (t_zl b n p).1 := by unfold t_e; rw [k1]; exact t_lp_fst (n - p) p _ _ (by omega)
          rw [e4]; exact (w_fne n4 (by decide))
        · rw [k1]; exact (w_fne ((K2 6 (by decide)).trans (w_fat (w_fne ((K 6 (by decide)).trans f6) (by decide)))) (by decide))
    | false => cases e2 : t_fi (b p) with
      | true =>
        have k2 := t_k_n q1 e1 e2
        have es : t_so (b p) = 2 := by rw [← ek]; exact k2
        rw [es]
        refine c_ln (p := p) (fs := (((gs.set 5 (.int (Int32.ofNat p))).set 6 (.int (Int32.ofNat 2))))) hl e44 hb hn (w_fne (w_fne ((K 0 (by decide)).trans f0) (by decide)) (by decide)) (w_fne (w_fne ((K 1 (by decide)).trans f1) (by decide)) (by decide)) (w_fne (w_fat ((K 5 (by decide)).trans f5)) (by decide)) (w_fat (w_fne ((K 6 (by decide)).trans f6) (by decide))) (fun gs2 ls z K2 n4 m0 m1 m3 => ?_) (n - p) p 0 _ _ (Int64.ofNat 0) (by omega) (by decide) rfl (fun _ _ => rfl) (w_fne (w_fne g4 (by decide)) (by decide)) (w_s1 (w_s2 rfl rfl (by decide) (by decide)) rfl (by decide)) (w_s1l p_lk_s2 (by decide) (by decide)) p_lk_s1
        refine w_aload_n rfl m0 (w_getf rfl rfl (w_at hl) ((K2 6 (by decide)).trans (w_fat (w_fne ((K 6 (by decide)).trans f6) (by decide)))) (w_ic 1 rfl rfl (w_icmp_t rfl (t := 210) rfl (by decide) (w_aload_n rfl m0 (w_aload_n rfl m0 (w_getf rfl rfl (w_at hl) ((K2 6 (by decide)).trans (w_fat (w_fne ((K 6 (by decide)).trans f6) (by decide)))) (w_ic 2 rfl rfl (w_icmp_f rfl (t := 223) rfl (by decide) (w_iload_n rfl m3 (w_goto rfl (t := 225) rfl (w_putfS rfl rfl hl rfl rfl (w_flt ((K2 7 (by decide)).trans (w_fne (w_fne ((K 7 (by decide)).trans f7) (by decide)) (by decide)))) (w_return rfl rfl ⟨rfl, _, rfl, fun k hk => ?_, ?_⟩))))))))))))
        · rw [List.getElem?_set_ne (by omega), K2 k (by omega), List.getElem?_set_ne (by omega), List.getElem?_set_ne (by omega)]; exact K4 k hk
        · refine ⟨?_, w_fne ((K2 5 (by decide)).trans (w_fne (w_fat ((K 5 (by decide)).trans f5)) (by decide))) (by decide), ?_, _, (w_fat ((K2 7 (by decide)).trans (w_fne (w_fne ((K 7 (by decide)).trans f7) (by decide)) (by decide)))), fun e => absurd (k2.symm.trans e) (by decide), fun _ => rfl, fun e => absurd (k2.symm.trans e) (by decide)⟩
          · have e4 : t_e b n p = (t_ml b n p).1 := by unfold t_e; rw [k2]; exact t_lp_fst (n - p) p _ _ (by omega)
            rw [e4]; exact (w_fne n4 (by decide))
          · rw [k2]; exact (w_fne ((K2 6 (by decide)).trans (w_fat (w_fne ((K 6 (by decide)).trans f6) (by decide)))) (by decide))
      | false =>
        have k3 := t_k_s q1 e1 e2
        have es : t_so (b p) = 3 := by rw [← ek]; exact k3
        rw [es]
        have te : t_e b n p = p + 1 := by unfold t_e; rw [k3]; rfl
        refine w_aload_n rfl (w_s1 (w_s2 rfl rfl (by decide) (by decide)) rfl (by decide)) (w_getf rfl rfl (w_at hl) (w_fne (w_fne g4 (by decide)) (by decide)) (w_aload_n rfl (w_s1 (w_s2 rfl rfl (by decide) (by decide)) rfl (by decide)) (w_getf rfl rfl (w_at hl) (w_fne (w_fne ((K 1 (by decide)).trans f1) (by decide)) (by decide)) (w_icmp_f rfl (t := 191) rfl (by simp only [p_cd, decide_eq_false_iff_not]; rw [Int32.le_iff_toInt_le, g_ofNat (by omega), g_ofNat (by omega)]; omega) (w_aload_n rfl (w_s1 (w_s2 rfl rfl (by decide) (by decide)) rfl (by decide)) (w_aload_n rfl (w_s1 (w_s2 rfl rfl (by decide) (by decide)) rfl (by decide)) (w_getf rfl rfl (w_at hl) (w_fne (w_fne g4 (by decide)) (by decide)) (w_virtual (dc := d) (M' := m_X3_byteAt) rfl (g_vir (n := 2) rfl rfl (by simp [p_cat, p_bd, Value.category]) rfl rfl (w_at hl) rfl) rfl rfl (Nat.le_refl _) (c_byte1 (q := p) (w_at hl) (w_fne (w_fne ((K 0 (by decide)).trans f0) (by decide)) (by decide)) (w_fne (w_fne ((K 1 (by decide)).trans f1) (by decide)) (by decide)) (a_ga (by decide) e44) hb hn q1) ?_))))))))
        rintro v h2 ⟨rfl, rfl⟩
        refine w_static (nn := 0) (dc := d) (M' := m_X3_sortOf) rfl rfl rfl rfl (Nat.le_refl _) (c_sort b256) ?_
        rintro v h2 ⟨rfl, rfl⟩
        rw [es]
        refine w_aload_n rfl (w_s1 (w_s2 rfl rfl (by decide) (by decide)) rfl (by decide)) (w_getf rfl rfl (w_at hl) (w_fat (w_fne ((K 6 (by decide)).trans f6) (by decide))) (w_icmp_f rfl (t := 191) rfl (by decide) (w_aload_n rfl (w_s1 (w_s2 rfl rfl (by decide) (by decide)) rfl (by decide)) (w_getf rfl rfl (w_at hl) (w_fat (w_fne ((K 6 (by decide)).trans f6) (by decide))) (w_ic 3 rfl rfl (w_icmp_f rfl (t := 140) rfl (by decide) (w_aload_n rfl (w_s1 (w_s2 rfl rfl (by decide) (by decide)) rfl (by decide)) (w_getf rfl rfl (w_at hl) (w_fne (w_fne g4 (by decide)) (by decide)) (w_aload_n rfl (w_s1 (w_s2 rfl rfl (by decide) (by decide)) rfl (by decide)) (w_getf rfl rfl (w_at hl) (w_fne (w_fat ((K 5 (by decide)).trans f5)) (by decide)) (w_icmp_f rfl (t := 191) rfl (by simp [p_cd]) (w_lload_n rfl (w_s1l p_lk_s2 (by decide) (by decide)) (w_bp 8 rfl rfl (w_lshl rfl (w_aload_n rfl (w_s1 (w_s2 rfl rfl (by decide) (by decide)) rfl (by decide)) (w_aload_n rfl (w_s1 (w_s2 rfl rfl (by decide) (by decide)) rfl (by decide)) (w_getf rfl rfl (w_at hl) (w_fne (w_fne g4 (by decide)) (by decide)) (w_virtual (dc := d) (M' := m_X3_byteAt) rfl (g_vir (n := 2) rfl rfl (by simp [p_cat, p_bd, Value.category]) rfl rfl (w_at hl) rfl) rfl rfl (Nat.le_refl _) (c_byte1 (q := p) (w_at hl) (w_fne (w_fne ((K 0 (by decide)).trans f0) (by decide)) (by decide)) (w_fne (w_fne ((K 1 (by decide)).trans f1) (by decide)) (by decide)) (a_ga (by decide) e44) hb hn q1) ?_))))))))))))))))))
        rintro v h2 ⟨rfl, rfl⟩
        refine w_i2l rfl (w_lor rfl ?_)
        rw [show (Int64.ofNat (Fin.val (0 : Fin 2)) <<< ((Int32.ofNat 8).toInt64 &&& 63) ||| (Int32.ofNat (b p)).toInt64) = Int64.ofNat (256 * 0 + b p) from t_shl (v := 0) (by decide) b256, Nat.mul_zero, Nat.zero_add]
        refine w_lstore_n rfl (by decide) (w_sp 10000 rfl rfl (w_iload_n rfl (w_s2 p_lk_s1 rfl (by decide) (by decide)) (w_bp 10 rfl rfl (w_mulN rfl (w_aload_n rfl (w_s2 (w_s1 (w_s2 rfl rfl (by decide) (by decide)) rfl (by decide)) rfl (by decide) (by decide)) (w_aload_n rfl (w_s2 (w_s1 (w_s2 rfl rfl (by decide) (by decide)) rfl (by decide)) rfl (by decide) (by decide)) (w_getf rfl rfl (w_at hl) (w_fne (w_fne g4 (by decide)) (by decide)) (w_virtual (dc := d) (M' := m_X3_byteAt) rfl (g_vir (n := 2) rfl rfl (by simp [p_cat, p_bd, Value.category]) rfl rfl (w_at hl) rfl) rfl rfl (Nat.le_refl _) (c_byte1 (q := p) (w_at hl) (w_fne (w_fne ((K 0 (by decide)).trans f0) (by decide)) (by decide)) (w_fne (w_fne ((K 1 (by decide)).trans f1) (by decide)) (by decide)) (a_ga (by decide) e44) hb hn q1) ?_))))))))
        rintro v h2 ⟨rfl, rfl⟩
        refine w_addN rfl (w_bp 48 rfl rfl (w_isub rfl (w_static (nn := 0) (dc := d) (M' := m_J9_min_7cf53) rfl rfl rfl rfl (Nat.le_refl _) c_jmin ?_)))
        rintro u h2 ⟨rfl, rfl⟩
        obtain ⟨y2, ey2⟩ : ∃ y2 : Int32, some (Value.int y2) = some (.int (if Int32.ofNat 10000 ≤ Int32.ofNat (0 * 10 + b p) - Int32.ofNat 48 then Int32.ofNat 10000 else Int32.ofNat (0 * 10 + b p) - Int32.ofNat 48)) := ⟨_, rfl⟩
        rw [← ey2]
        refine w_istore_n rfl (by decide) (w_aload_n rfl (w_s1 (w_s2 (w_s1 (w_s2 rfl rfl (by decide) (by decide)) rfl (by decide)) rfl (by decide) (by decide)) rfl (by decide)) (w_dup rfl rfl (w_getf rfl rfl (w_at hl) (w_fne (w_fne g4 (by decide)) (by decide)) (w_ic 1 rfl rfl (w_addN rfl (w_putfS rfl rfl hl rfl rfl (w_flt (w_fne (w_fne g4 (by decide)) (by decide))) (w_goto rfl (t := 92) rfl ?_)))))))
        by_cases q2 : p + 1 < n
        · have c256 := (hb (p + 1) (by omega)).2
          refine w_aload_n rfl (w_s1 (w_s2 (w_s1 (w_s2 rfl rfl (by decide) (by decide)) rfl (by decide)) rfl (by decide) (by decide)) rfl (by decide)) (w_getf rfl rfl (w_at hl) (w_fat (w_fne (w_fne g4 (by decide)) (by decide))) (w_aload_n rfl (w_s1 (w_s2 (w_s1 (w_s2 rfl rfl (by decide) (by decide)) rfl (by decide)) rfl (by decide) (by decide)) rfl (by decide)) (w_getf rfl rfl (w_at hl) (w_fne (w_fne (w_fne ((K 1 (by decide)).trans f1) (by decide)) (by decide)) (by decide)) (w_icmp_f rfl (t := 191) rfl (by simp only [p_cd, decide_eq_false_iff_not]; rw [Int32.le_iff_toInt_le, g_ofNat (by omega), g_ofNat (by omega)]; omega) (w_aload_n rfl (w_s1 (w_s2 (w_s1 (w_s2 rfl rfl (by decide) (by decide)) rfl (by decide)) rfl (by decide) (by decide)) rfl (by decide)) (w_aload_n rfl (w_s1 (w_s2 (w_s1 (w_s2 rfl rfl (by decide) (by decide)) rfl (by decide)) rfl (by decide) (by decide)) rfl (by decide)) (w_getf rfl rfl (w_at hl) (w_fat (w_fne (w_fne g4 (by decide)) (by decide))) (w_virtual (dc := d) (M' := m_X3_byteAt) rfl (g_vir (n := 2) rfl rfl (by simp [p_cat, p_bd, Value.category]) rfl rfl (w_at hl) rfl) rfl rfl (Nat.le_refl _) (c_byte1 (q := p + 1) (w_at hl) (w_fne (w_fne (w_fne ((K 0 (by decide)).trans f0) (by decide)) (by decide)) (by decide)) (w_fne (w_fne (w_fne ((K 1 (by decide)).trans f1) (by decide)) (by decide)) (by decide)) (a_ga (by decide) e44) hb hn q2) ?_))))))))
          rintro v h2 ⟨rfl, rfl⟩
          refine w_static (nn := 0) (dc := d) (M' := m_X3_sortOf) rfl rfl rfl rfl (Nat.le_refl _) (c_sort c256) ?_
          rintro v h2 ⟨rfl, rfl⟩
          refine w_aload_n rfl (w_s1 (w_s2 (w_s1 (w_s2 rfl rfl (by decide) (by decide)) rfl (by decide)) rfl (by decide) (by decide)) rfl (by decide)) (w_getf rfl rfl (w_at hl) (w_fne (w_fat (w_fne ((K 6 (by decide)).trans f6) (by decide))) (by decide)) ?_)
          by_cases e6 : t_so (b (p + 1)) = 3
          · rw [e6]
            refine w_icmp_f rfl (t := 191) rfl (by decide) (w_aload_n rfl (w_s1 (w_s2 (w_s1 (w_s2 rfl rfl (by decide) (by decide)) rfl (by decide)) rfl (by decide) (by decide)) rfl (by decide)) (w_getf rfl rfl (w_at hl) (w_fne (w_fat (w_fne ((K 6 (by decide)).trans f6) (by decide))) (by decide)) (w_ic 3 rfl rfl (w_icmp_f rfl (t := 140) rfl (by decide) (w_aload_n rfl (w_s1 (w_s2 (w_s1 (w_s2 rfl rfl (by decide) (by decide)) rfl (by decide)) rfl (by decide) (by decide)) rfl (by decide)) (w_getf rfl rfl (w_at hl) (w_fat (w_fne (w_fne g4 (by decide)) (by decide))) (w_aload_n rfl (w_s1 (w_s2 (w_s1 (w_s2 rfl rfl (by decide) (by decide)) rfl (by decide)) rfl (by decide) (by decide)) rfl (by decide)) (w_getf rfl rfl (w_at hl) (w_fne (w_fne (w_fat ((K 5 (by decide)).trans f5)) (by decide)) (by decide)) (w_icmp_t rfl (t := 191) rfl (by simp only [p_cd, decide_eq_true_eq]; exact b_ofNat_ne (by omega) (by omega) (by omega)) (w_aload_n rfl (w_s1 (w_s2 (w_s1 (w_s2 rfl rfl (by decide) (by decide)) rfl (by decide)) rfl (by decide) (by decide)) rfl (by decide)) (w_getf rfl rfl (w_at hl) (w_fne (w_fat (w_fne ((K 6 (by decide)).trans f6) (by decide))) (by decide)) (w_ic 1 rfl rfl (w_icmp_t rfl (t := 210) rfl (by decide) (w_aload_n rfl (w_s1 (w_s2 (w_s1 (w_s2 rfl rfl (by decide) (by decide)) rfl (by decide)) rfl (by decide) (by decide)) rfl (by decide)) (w_aload_n rfl (w_s1 (w_s2 (w_s1 (w_s2 rfl rfl (by decide) (by decide)) rfl (by decide)) rfl (by decide) (by decide)) rfl (by decide)) (w_getf rfl rfl (w_at hl) (w_fne (w_fat (w_fne ((K 6 (by decide)).trans f6) (by decide))) (by decide)) (w_ic 2 rfl rfl (w_icmp_t rfl (t := 223) rfl (by decide) (w_lload_n rfl (w_s1l p_lk_s2 (by decide) (by decide)) (w_l2i rfl ?_))))))))))))))))))))
            rw [show (Int64.ofNat (b p)).toInt32 = Int32.ofNat (b p) from Int64.toInt32_ofNat']
            refine w_putfS rfl rfl hl rfl rfl (w_flt (w_fne (w_fne (w_fne ((K 7 (by decide)).trans f7) (by decide)) (by decide)) (by decide))) (w_return rfl rfl ⟨rfl, _, rfl, fun k hk => ?_, ?_⟩)
            · rw [List.getElem?_set_ne (by omega), List.getElem?_set_ne (by omega), List.getElem?_set_ne (by omega), List.getElem?_set_ne (by omega)]; exact K4 k hk
            · refine ⟨by rw [te]; exact (w_fne (w_fat (w_fne (w_fne g4 (by decide)) (by decide))) (by decide)), (w_fne (w_fne (w_fne (w_fat ((K 5 (by decide)).trans f5)) (by decide)) (by decide)) (by decide)), by rw [k3]; exact (w_fne (w_fne (w_fat (w_fne ((K 6 (by decide)).trans f6) (by decide))) (by decide)) (by decide)), _, (w_fat (w_fne (w_fne (w_fne ((K 7 (by decide)).trans f7) (by decide)) (by decide)) (by decide))), fun e => absurd (k3.symm.trans e) (by decide), fun e => absurd (k3.symm.trans e) (by decide), fun _ => rfl⟩
          · refine w_icmp_t rfl (t := 191) rfl (by simp only [p_cd, decide_eq_true_eq]; exact b_ofNat_ne (by unfold t_so; split <;> (try split) <;> omega) (by decide) e6) (w_aload_n rfl (w_s1 (w_s2 (w_s1 (w_s2 rfl rfl (by decide) (by decide)) rfl (by decide)) rfl (by decide) (by decide)) rfl (by decide)) (w_getf rfl rfl (w_at hl) (w_fne (w_fat (w_fne ((K 6 (by decide)).trans f6) (by decide))) (by decide)) (w_ic 1 rfl rfl (w_icmp_t rfl (t := 210) rfl (by decide) (w_aload_n rfl (w_s1 (w_s2 (w_s1 (w_s2 rfl rfl (by decide) (by decide)) rfl (by decide)) rfl (by decide) (by decide)) rfl (by decide)) (w_aload_n rfl (w_s1 (w_s2 (w_s1 (w_s2 rfl rfl (by decide) (by decide)) rfl (by decide)) rfl (by decide) (by decide)) rfl (by decide)) (w_getf rfl rfl (w_at hl) (w_fne (w_fat (w_fne ((K 6 (by decide)).trans f6) (by decide))) (by decide)) (w_ic 2 rfl rfl (w_icmp_t rfl (t := 223) rfl (by decide) (w_lload_n rfl (w_s1l p_lk_s2 (by decide) (by decide)) (w_l2i rfl ?_)))))))))))
            rw [show (Int64.ofNat (b p)).toInt32 = Int32.ofNat (b p) from Int64.toInt32_ofNat']
            refine w_putfS rfl rfl hl rfl rfl (w_flt (w_fne (w_fne (w_fne ((K 7 (by decide)).trans f7) (by decide)) (by decide)) (by decide))) (w_return rfl rfl ⟨rfl, _, rfl, fun k hk => ?_, ?_⟩)
            · rw [List.getElem?_set_ne (by omega), List.getElem?_set_ne (by omega), List.getElem?_set_ne (by omega), List.getElem?_set_ne (by omega)]; exact K4 k hk
            · refine ⟨by rw [te]; exact (w_fne (w_fat (w_fne (w_fne g4 (by decide)) (by decide))) (by decide)), (w_fne (w_fne (w_fne (w_fat ((K 5 (by decide)).trans f5)) (by decide)) (by decide)) (by decide)), by rw [k3]; exact (w_fne (w_fne (w_fat (w_fne ((K 6 (by decide)).trans f6) (by decide))) (by decide)) (by decide)), _, (w_fat (w_fne (w_fne (w_fne ((K 7 (by decide)).trans f7) (by decide)) (by decide)) (by decide))), fun e => absurd (k3.symm.trans e) (by decide), fun e => absurd (k3.symm.trans e) (by decide), fun _ => rfl⟩
        · refine w_aload_n rfl (w_s1 (w_s2 (w_s1 (w_s2 rfl rfl (by decide) (by decide)) rfl (by decide)) rfl (by decide) (by decide)) rfl (by decide)) (w_getf rfl rfl (w_at hl) (w_fat (w_fne (w_fne g4 (by decide)) (by decide))) (w_aload_n rfl (w_s1 (w_s2 (w_s1 (w_s2 rfl rfl (by decide) (by decide)) rfl (by decide)) rfl (by decide) (by decide)) rfl (by decide)) (w_getf rfl rfl (w_at hl) (w_fne (w_fne (w_fne ((K 1 (by decide)).trans f1) (by decide)) (by decide)) (by decide)) (w_icmp_t rfl (t := 191) rfl (by simp only [p_cd, decide_eq_true_eq]; rw [Int32.le_iff_toInt_le, g_ofNat (by omega), g_ofNat (by omega)]; omega) (w_aload_n rfl (w_s1 (w_s2 (w_s1 (w_s2 rfl rfl (by decide) (by decide)) rfl (by decide)) rfl (by decide) (by decide)) rfl (by decide)) (w_getf rfl rfl (w_at hl) (w_fne (w_fat (w_fne ((K 6 (by decide)).trans f6) (by decide))) (by decide)) (w_ic 1 rfl rfl (w_icmp_t rfl (t := 210) rfl (by decide) (w_aload_n rfl (w_s1 (w_s2 (w_s1 (w_s2 rfl rfl (by decide) (by decide)) rfl (by decide)) rfl (by decide) (by decide)) rfl (by decide)) (w_aload_n rfl (w_s1 (w_s2 (w_s1 (w_s2 rfl rfl (by decide) (by decide)) rfl (by decide)) rfl (by decide) (by decide)) rfl (by decide)) (w_getf rfl rfl (w_at hl) (w_fne (w_fat (w_fne ((K 6 (by decide)).trans f6) (by decide))) (by decide)) (w_ic 2 rfl rfl (w_icmp_t rfl (t := 223) rfl (by decide) (w_lload_n rfl (w_s1l p_lk_s2 (by decide) (by decide)) (w_l2i rfl ?_)))))))))))))))
          rw [show (Int64.ofNat (b p)).toInt32 = Int32.ofNat (b p) from Int64.toInt32_ofNat']
          refine w_putfS rfl rfl hl rfl rfl (w_flt (w_fne (w_fne (w_fne ((K 7 (by decide)).trans f7) (by decide)) (by decide)) (by decide))) (w_return rfl rfl ⟨rfl, _, rfl, fun k hk => ?_, ?_⟩)
          · rw [List.getElem?_set_ne (by omega), List.getElem?_set_ne (by omega), List.getElem?_set_ne (by omega), List.getElem?_set_ne (by omega)]; exact K4 k hk
          · refine ⟨by rw [te]; exact (w_fne (w_fat (w_fne (w_fne g4 (by decide)) (by decide))) (by decide)), (w_fne (w_fne (w_fne (w_fat ((K 5 (by decide)).trans f5)) (by decide)) (by decide)) (by decide)), by rw [k3]; exact (w_fne (w_fne (w_fat (w_fne ((K 6 (by decide)).trans f6) (by decide))) (by decide)) (by decide)), _, (w_fat (w_fne (w_fne (w_fne ((K 7 (by decide)).trans f7) (by decide)) (by decide)) (by decide))), fun e => absurd (k3.symm.trans e) (by decide), fun e => absurd (k3.symm.trans e) (by decide), fun _ => rfl⟩
  · refine w_aload_n rfl rfl (w_aload_n rfl rfl (w_getf rfl rfl (w_at hl) g4 (w_putfS rfl rfl hl rfl rfl (w_flt ((K 5 (by decide)).trans f5)) (w_aload_n rfl rfl (w_aload_n rfl rfl (w_getf rfl rfl (w_at hl) (w_fne g4 (by decide)) (w_aload_n rfl rfl (w_getf rfl rfl (w_at hl) (w_fne ((K 1 (by decide)).trans f1) (by decide)) (w_icmp_t rfl (t := 84) rfl (by simp only [p_cd, decide_eq_true_eq]; rw [Int32.le_iff_toInt_le, g_ofNat (by omega), g_ofNat (by omega)]; omega) (w_ic 0 rfl rfl (w_putfS rfl rfl hl rfl rfl (w_flt (w_fne ((K 6 (by decide)).trans f6) (by decide))) (w_lconst rfl (w_lstore_n rfl (by decide) (w_ic 0 rfl rfl (w_istore_n rfl (by decide) (w_aload_n rfl (w_s1 (w_s2 rfl rfl (by decide) (by decide)) rfl (by decide)) (w_getf rfl rfl (w_at hl) (w_fne (w_fne g4 (by decide)) (by decide)) (w_aload_n rfl (w_s1 (w_s2 rfl rfl (by decide) (by decide)) rfl (by decide)) (w_getf rfl rfl (w_at hl) (w_fne (w_fne ((K 1 (by decide)).trans f1) (by decide)) (by decide)) (w_icmp_t rfl (t := 191) rfl (by simp only [p_cd, decide_eq_true_eq]; rw [Int32.le_iff_toInt_le, g_ofNat (by omega), g_ofNat (by omega)]; omega) (w_aload_n rfl (w_s1 (w_s2 rfl rfl (by decide) (by decide)) rfl (by decide)) (w_getf rfl rfl (w_at hl) (w_fat (w_fne ((K 6 (by decide)).trans f6) (by decide))) (w_ic 1 rfl rfl (w_icmp_t rfl (t := 210) rfl (by decide) (w_aload_n rfl (w_s1 (w_s2 rfl rfl (by decide) (by decide)) rfl (by decide)) (w_aload_n rfl (w_s1 (w_s2 rfl rfl (by decide) (by decide)) rfl (by decide)) (w_getf rfl rfl (w_at hl) (w_fat (w_fne ((K 6 (by decide)).trans f6) (by decide))) (w_ic 2 rfl rfl (w_icmp_t rfl (t := 223) rfl (by decide) (w_lload_n rfl (w_s1l p_lk_s2 (by decide) (by decide)) (w_l2i rfl (w_putfS rfl rfl hl rfl rfl (w_flt (w_fne (w_fne ((K 7 (by decide)).trans f7) (by decide)) (by decide))) (w_return rfl rfl ⟨rfl, _, rfl, fun k hk => ?_, ?_⟩)))))))))))))))))))))))))))))))))
    · rw [List.getElem?_set_ne (by omega), List.getElem?_set_ne (by omega), List.getElem?_set_ne (by omega)]; exact K4 k hk
    · have k0 := t_k_end (b := b) q1
      refine ⟨by unfold t_e; rw [k0]; exact (w_fne (w_fne (w_fne g4 (by decide)) (by decide)) (by decide)), (w_fne (w_fne (w_fat ((K 5 (by decide)).trans f5)) (by decide)) (by decide)), by rw [k0]; exact (w_fne (w_fat (w_fne ((K 6 (by decide)).trans f6) (by decide))) (by decide)), _, (w_fat (w_fne (w_fne ((K 7 (by decide)).trans f7) (by decide)) (by decide))), fun e => absurd (k0.symm.trans e) (by decide), fun e => absurd (k0.symm.trans e) (by decide), fun e => absurd (k0.symm.trans e) (by decide)⟩
end CTK

/-! The reference's tokens: words, signs, all of nextToken -/
theorem t_shr {v : Nat} (hv : v < 2 ^ 62) : lg_cmp (Int64.ofNat v >>> ((Int32.ofNat 48).toInt64 &&& 63)) (Int64.ofNat 0) = 0 ↔ v < 2 ^ 48 := by
  have e : (Int64.ofNat v >>> ((Int32.ofNat 48).toInt64 &&& 63)).toInt = ((v / 2 ^ 48 : Nat) : Int) := by
    show (BitVec.sshiftRight' (Int64.ofNat v).toBitVec ((((Int32.ofNat 48).toInt64 &&& 63)).toBitVec.smod 64)).toInt = _
    rw [BitVec.toInt_sshiftRight', show ((((Int32.ofNat 48).toInt64 &&& 63)).toBitVec.smod 64).toNat = 48 by decide]
    show (Int64.ofNat v).toInt >>> 48 = _
    rw [Int64.toInt_ofNat_of_lt (by omega), Int.shiftRight_eq_div_pow]
    rfl
  rw [lg_cmp_eq, ← Int64.toInt_inj, e, Int64.toInt_ofNat_of_lt (by decide)]
  constructor
  · intro q
    have : v / 2 ^ 48 = 0 := by omega
    exact (Nat.div_eq_zero_iff_lt (by decide)).mp this
  · intro q
    rw [Nat.div_eq_of_lt q]
theorem t_shl {v c : Nat} (hv : v < 2 ^ 48) (hc : c < 256) : ((Int64.ofNat v <<< ((Int32.ofNat 8).toInt64 &&& 63)) ||| (Int32.ofNat c).toInt64) = Int64.ofNat (256 * v + c) := by
  have ec : (Int32.ofNat c).toInt64 = Int64.ofNat c := Int32.toInt64_ofNat' (by rw [show Int32.maxValue.toInt = 2147483647 by decide]; omega)
  rw [ec]
  apply Int64.toBitVec_inj.mp
  apply BitVec.eq_of_toNat_eq
  show ((BitVec.ofNat 64 v <<< ((((Int32.ofNat 8).toInt64 &&& 63)).toBitVec.smod 64)) ||| BitVec.ofNat 64 c).toNat = (BitVec.ofNat 64 (256 * v + c)).toNat
  rw [BitVec.toNat_or, BitVec.shiftLeft_eq', show ((((Int32.ofNat 8).toInt64 &&& 63)).toBitVec.smod 64).toNat = 8 by decide, BitVec.toNat_shiftLeft, BitVec.toNat_ofNat, BitVec.toNat_ofNat, BitVec.toNat_ofNat, Nat.mod_eq_of_lt (show v < 2 ^ 64 by omega), Nat.mod_eq_of_lt (show c < 2 ^ 64 by omega), Nat.mod_eq_of_lt (show 256 * v + c < 2 ^ 64 by omega), Nat.mod_eq_of_lt (show v <<< 8 < 2 ^ 64 by rw [Nat.shiftLeft_eq]; omega), ← Nat.shiftLeft_add_eq_or_of_lt (show c < 2 ^ 8 by omega), Nat.shiftLeft_eq]
  omega
def t_sg (c : Nat) : Bool := Nat.beq c 35 || ((Nat.ble 40 c && Nat.ble c 45) || (Nat.beq c 47 || (Nat.ble 58 c && Nat.ble c 62)))
theorem t_sg_out : ∀ c, c < 256 → (c < 35 ∨ 62 < c) → t_sg c = false := by decide +kernel
section RT2
variable {h : p_H} {d n : Nat} {fs tp : List Value} {b : Nat → Nat} {Q : Option Value → p_H → Prop}
set_option maxRecDepth 100000 in
theorem r_sgn {c : Nat} (hc : c < 256) : p_wp p_GT p_MT d m_X12_isSign 0 (lv_args 0 [.int (Int32.ofNat c)]) [] h (fun v h2 => v = some (.int (l_b (t_sg c))) ∧ h2 = h) := by
  by_cases q : c < 35 ∨ 62 < c
  · rw [t_sg_out c hc q]
    have e := g_ofNat (n := c) (by omega)
    refine w_iload_n rfl rfl (w_sw rfl (t := 130) (by unfold p_sw; rw [if_pos (by rw [e]; omega)]; rfl) (w_iconst rfl (w_ireturnb rfl rfl rfl ⟨rfl, rfl⟩)))
  · have e : c = 35 ∨ c = 36 ∨ c = 37 ∨ c = 38 ∨ c = 39 ∨ c = 40 ∨ c = 41 ∨ c = 42 ∨ c = 43 ∨ c = 44 ∨ c = 45 ∨ c = 46 ∨ c = 47 ∨ c = 48 ∨ c = 49 ∨ c = 50 ∨ c = 51 ∨ c = 52 ∨ c = 53 ∨ c = 54 ∨ c = 55 ∨ c = 56 ∨ c = 57 ∨ c = 58 ∨ c = 59 ∨ c = 60 ∨ c = 61 ∨ c = 62 := by omega
    rcases e with rfl | rfl | rfl | rfl | rfl | rfl | rfl | rfl | rfl | rfl | rfl | rfl | rfl | rfl | rfl | rfl | rfl | rfl | rfl | rfl | rfl | rfl | rfl | rfl | rfl | rfl | rfl | rfl
    · exact w_iload_n rfl rfl (w_sw rfl (t := 128) rfl (w_iconst rfl (w_ireturnb rfl rfl rfl ⟨rfl, rfl⟩)))
    · exact w_iload_n rfl rfl (w_sw rfl (t := 130) rfl (w_iconst rfl (w_ireturnb rfl rfl rfl ⟨rfl, rfl⟩)))
    · exact w_iload_n rfl rfl (w_sw rfl (t := 130) rfl (w_iconst rfl (w_ireturnb rfl rfl rfl ⟨rfl, rfl⟩)))
    · exact w_iload_n rfl rfl (w_sw rfl (t := 130) rfl (w_iconst rfl (w_ireturnb rfl rfl rfl ⟨rfl, rfl⟩)))
    · exact w_iload_n rfl rfl (w_sw rfl (t := 130) rfl (w_iconst rfl (w_ireturnb rfl rfl rfl ⟨rfl, rfl⟩)))
    · exact w_iload_n rfl rfl (w_sw rfl (t := 128) rfl (w_iconst rfl (w_ireturnb rfl rfl rfl ⟨rfl, rfl⟩)))
    · exact w_iload_n rfl rfl (w_sw rfl (t := 128) rfl (w_iconst rfl (w_ireturnb rfl rfl rfl ⟨rfl, rfl⟩)))
    · exact w_iload_n rfl rfl (w_sw rfl (t := 128) rfl (w_iconst rfl (w_ireturnb rfl rfl rfl ⟨rfl, rfl⟩)))
    · exact w_iload_n rfl rfl (w_sw rfl (t := 128) rfl (w_iconst rfl (w_ireturnb rfl rfl rfl ⟨rfl, rfl⟩)))
    · exact w_iload_n rfl rfl (w_sw rfl (t := 128) rfl (w_iconst rfl (w_ireturnb rfl rfl rfl ⟨rfl, rfl⟩)))
    · exact w_iload_n rfl rfl (w_sw rfl (t := 128) rfl (w_iconst rfl (w_ireturnb rfl rfl rfl ⟨rfl, rfl⟩)))
    · exact w_iload_n rfl rfl (w_sw rfl (t := 130) rfl (w_iconst rfl (w_ireturnb rfl rfl rfl ⟨rfl, rfl⟩)))
    · exact w_iload_n rfl rfl (w_sw rfl (t := 128) rfl (w_iconst rfl (w_ireturnb rfl rfl rfl ⟨rfl, rfl⟩)))
    · exact w_iload_n rfl rfl (w_sw rfl (t := 130) rfl (w_iconst rfl (w_ireturnb rfl rfl rfl ⟨rfl, rfl⟩)))
    · exact w_iload_n rfl rfl (w_sw rfl (t := 130) rfl (w_iconst rfl (w_ireturnb rfl rfl rfl ⟨rfl, rfl⟩)))
    · exact w_iload_n rfl rfl (w_sw rfl (t := 130) rfl (w_iconst rfl (w_ireturnb rfl rfl rfl ⟨rfl, rfl⟩)))
    · exact w_iload_n rfl rfl (w_sw rfl (t := 130) rfl (w_iconst rfl (w_ireturnb rfl rfl rfl ⟨rfl, rfl⟩)))
    · exact w_iload_n rfl rfl (w_sw rfl (t := 130) rfl (w_iconst rfl (w_ireturnb rfl rfl rfl ⟨rfl, rfl⟩)))
    · exact w_iload_n rfl rfl (w_sw rfl (t := 130) rfl (w_iconst rfl (w_ireturnb rfl rfl rfl ⟨rfl, rfl⟩)))
    · exact w_iload_n rfl rfl (w_sw rfl (t := 130) rfl (w_iconst rfl (w_ireturnb rfl rfl rfl ⟨rfl, rfl⟩)))
    · exact w_iload_n rfl rfl (w_sw rfl (t := 130) rfl (w_iconst rfl (w_ireturnb rfl rfl rfl ⟨rfl, rfl⟩)))
    · exact w_iload_n rfl rfl (w_sw rfl (t := 130) rfl (w_iconst rfl (w_ireturnb rfl rfl rfl ⟨rfl, rfl⟩)))
    · exact w_iload_n rfl rfl (w_sw rfl (t := 130) rfl (w_iconst rfl (w_ireturnb rfl rfl rfl ⟨rfl, rfl⟩)))
    · exact w_iload_n rfl rfl (w_sw rfl (t := 128) rfl (w_iconst rfl (w_ireturnb rfl rfl rfl ⟨rfl, rfl⟩)))
    · exact w_iload_n rfl rfl (w_sw rfl (t := 128) rfl (w_iconst rfl (w_ireturnb rfl rfl rfl ⟨rfl, rfl⟩)))
    · exact w_iload_n rfl rfl (w_sw rfl (t := 128) rfl (w_iconst rfl (w_ireturnb rfl rfl rfl ⟨rfl, rfl⟩)))
    · exact w_iload_n rfl rfl (w_sw rfl (t := 128) rfl (w_iconst rfl (w_ireturnb rfl rfl rfl ⟨rfl, rfl⟩)))
    · exact w_iload_n rfl rfl (w_sw rfl (t := 128) rfl (w_iconst rfl (w_ireturnb rfl rfl rfl ⟨rfl, rfl⟩)))
section RTW
variable {G : p_G} {MT : List p_M} {M : p_M} {pc l : Nat} {ls : p_Ls} {st : List Value} {z w : Int64} {y : Int32}
theorem w_lshr (hat : p_at pc M.2.2.2.2.1 = some (.lshr, l)) (hk : p_wp G MT d M (pc + 1) ls (.long (z >>> (y.toInt64 &&& 63)) :: st) h Q) : p_wp G MT d M pc ls (.int y :: .long z :: st) h Q := p_wp.step hat rfl hk
theorem w_lshl (hat : p_at pc M.2.2.2.2.1 = some (.lshl, l)) (hk : p_wp G MT d M (pc + 1) ls (.long (z <<< (y.toInt64 &&& 63)) :: st) h Q) : p_wp G MT d M pc ls (.int y :: .long z :: st) h Q := p_wp.step hat rfl hk
theorem w_lor (hat : p_at pc M.2.2.2.2.1 = some (.lor, l)) (hk : p_wp G MT d M (pc + 1) ls (.long (z ||| w) :: st) h Q) : p_wp G MT d M pc ls (.long w :: .long z :: st) h Q := p_wp.step hat rfl hk
end RTW
set_option maxRecDepth 100000 in
theorem r_wdl {p : Nat} (hl : 64 < h.length) (e68 : h[68]? = some (1, 0, tp)) (hb : t_B tp b) (hn : n ≤ 300) (f3 : fs[3]? = some (.ref 68)) (f4 : fs[4]? = some (.int (Int32.ofNat n))) {x0 : Value} (f11 : fs[11]? = some x0) (hN : ∀ gs, (∀ k, k ≠ 7 ∧ k ≠ 11 → gs[k]? = fs[k]?) → gs[7]? = some (.int (Int32.ofNat (t_wl b n p).1)) → gs[11]? = some (.long (Int64.ofNat (t_wl b n p).2)) → Q none (h.set 64 (0, 12, gs))) {ls : p_Ls} (l0 : p_lk 0 ls = some (.ref 64)) : ∀ j q v gs, q + j = n → v ≤ 2 ^ 60 → t_lp n (fun q => t_al (b q)) (t_wst b) q v = t_wl b n p → (∀ k, k ≠ 7 ∧ k ≠ 11 → gs[k]? = fs[k]?) → gs[7]? = some (.int (Int32.ofNat q)) → gs[11]? = some (.long (Int64.ofNat v)) → p_wp p_GT p_MT (d + 1) m_X12_nextToken 168 ls [] (h.set 64 (0, 12, gs)) Q := by
  intro j
  induction j with
  | zero =>
    intro q v gs hq hv hs K g7 g11
    have q1 : ¬ q < n := by omega
    rw [t_lp_no (fun e => absurd e.1 (by omega))] at hs
    refine w_aload_n rfl l0 (w_aload_n rfl l0 (w_getf rfl rfl (w_at hl) g7 (w_virtual (dc := d) (M' := m_X12_byteAt) rfl (g_vir (n := 2) rfl rfl (by simp [p_cat, p_bd, Value.category]) rfl rfl (w_at hl) rfl) rfl rfl (Nat.le_refl _) (r_byte0 (q := q) (w_at hl) ((K 3 (by decide)).trans f3) ((K 4 (by decide)).trans f4) (a_ga (by decide) e68) hb hn (by omega) q1) ?_)))
    rintro v h2 ⟨rfl, rfl⟩
    refine w_static (nn := 0) (dc := d) (M' := m_X12_isLetterByte) rfl rfl rfl rfl (Nat.le_refl _) r_let_no ?_
    rintro v h2 ⟨rfl, rfl⟩
    exact w_ifc_t rfl (t := 310) rfl (by decide) (w_return rfl rfl (hN gs K (by rw [← hs]; exact g7) (by rw [← hs]; exact g11)))
  | succ j ih =>
    intro q v gs hq hv hs K g7 g11
    have q1 : q < n := by omega
    have b256 := (hb q (by omega)).2
    refine w_aload_n rfl l0 (w_aload_n rfl l0 (w_getf rfl rfl (w_at hl) g7 (w_virtual (dc := d) (M' := m_X12_byteAt) rfl (g_vir (n := 2) rfl rfl (by simp [p_cat, p_bd, Value.category]) rfl rfl (w_at hl) rfl) rfl rfl (Nat.le_refl _) (r_byte1 (q := q) (w_at hl) ((K 3 (by decide)).trans f3) ((K 4 (by decide)).trans f4) (a_ga (by decide) e68) hb hn q1) ?_)))
    rintro v h2 ⟨rfl, rfl⟩
    refine w_static (nn := 0) (dc := d) (M' := m_X12_isLetterByte) rfl rfl rfl rfl (Nat.le_refl _) (r_let b256) ?_
    rintro v h2 ⟨rfl, rfl⟩
    cases e1 : t_al (b q) with
    | false =>
      rw [t_lp_no (fun e => by rw [e1] at e; exact absurd e.2 (by decide))] at hs
      exact w_ifc_t rfl (t := 310) rfl (by decide) (w_return rfl rfl (hN gs K (by rw [← hs]; exact g7) (by rw [← hs]; exact g11)))
    | true =>
      rw [t_lp_go q1 e1] at hs
      by_cases e2 : v < 2 ^ 48
      · have ev : t_wst b q v = 256 * v + b q := by unfold t_wst; rw [if_neg (by omega)]
        rw [ev] at hs
        refine w_ifc_f rfl (t := 310) rfl (by decide) (w_aload_n rfl l0 (w_aload_n rfl l0 (w_getf rfl rfl (w_at hl) g11 (w_bp 48 rfl rfl (w_lshr rfl (w_lconst rfl (w_lcmp rfl (w_ifc_t rfl (t := 201) rfl (by simp only [p_cd, decide_eq_true_eq]; exact (t_shr (by omega)).mpr e2) (w_aload_n rfl l0 (w_getf rfl rfl (w_at hl) g11 (w_bp 8 rfl rfl (w_lshl rfl (w_aload_n rfl l0 (w_aload_n rfl l0 (w_getf rfl rfl (w_at hl) g7 (w_virtual (dc := d) (M' := m_X12_byteAt) rfl (g_vir (n := 2) rfl rfl (by simp [p_cat, p_bd, Value.category]) rfl rfl (w_at hl) rfl) rfl rfl (Nat.le_refl _) (r_byte1 (q := q) (w_at hl) ((K 3 (by decide)).trans f3) ((K 4 (by decide)).trans f4) (a_ga (by decide) e68) hb hn q1) ?_))))))))))))))))
        rintro v h2 ⟨rfl, rfl⟩
        refine w_i2l rfl (w_lor rfl ?_)
        rw [t_shl e2 b256]
        refine w_putfS rfl rfl hl rfl rfl (w_flt g11) (w_aload_n rfl l0 (w_dup rfl rfl (w_getf rfl rfl (w_at hl) (w_fne g7 (by decide)) (w_ic 1 rfl rfl (w_addN rfl (w_putfS rfl rfl hl rfl rfl (w_flt (w_fne g7 (by decide))) (w_goto rfl (t := 168) rfl ?_)))))))
        exact ih (q + 1) (256 * v + b q) _ (by omega) (by omega) hs (w_K (fun e => e.1 rfl) (w_K (fun e => e.2 rfl) K)) (w_fat (w_fne g7 (by decide))) (w_fne (w_fat g11) (by decide))
      · have ev : t_wst b q v = 2 ^ 60 := by unfold t_wst; rw [if_pos (by omega)]
        rw [ev] at hs
        refine w_ifc_f rfl (t := 310) rfl (by decide) (w_aload_n rfl l0 (w_aload_n rfl l0 (w_getf rfl rfl (w_at hl) g11 (w_bp 48 rfl rfl (w_lshr rfl (w_lconst rfl (w_lcmp rfl (w_ifc_f rfl (t := 201) rfl (by simp only [p_cd, decide_eq_false_iff_not]; exact fun e => e2 ((t_shr (by omega)).mp e)) (w_ldc2 rfl rfl (w_goto rfl (t := 218) rfl (w_putfS rfl rfl hl rfl rfl (w_flt g11) (w_aload_n rfl l0 (w_dup rfl rfl (w_getf rfl rfl (w_at hl) (w_fne g7 (by decide)) (w_ic 1 rfl rfl (w_addN rfl (w_putfS rfl rfl hl rfl rfl (w_flt (w_fne g7 (by decide))) (w_goto rfl (t := 168) rfl ?_))))))))))))))))))
        exact ih (q + 1) (2 ^ 60) _ (by omega) (by omega) hs (w_K (fun e => e.1 rfl) (w_K (fun e => e.2 rfl) K)) (w_fat (w_fne g7 (by decide))) (w_fne (w_fat g11) (by decide))
/-- what the fields of the reference say of the token at p -/
def r_T (b : Nat → Nat) (n p : Nat) (gs : List Value) : Prop := gs[8]? = some (.int (Int32.ofNat p)) ∧ (∃ t, gs[9]? = some (.int (Int32.ofNat t)) ∧ t < 256 ∧ t_R t b n p) ∧ (∃ x, gs[10]? = some (.int x) ∧ (t_k b n p = 2 → x = Int32.ofNat (t_n b n p))) ∧ (∃ z, gs[11]? = some (.long z) ∧ (t_k b n p = 1 → z = Int64.ofNat (t_w b n p))) ∧ ∃ a, gs[7]? = some (.int (Int32.ofNat a)) ∧ a ≤ n ∧ (a = t_e b n p ∨ (t_k b n p = 3 ∧ (b p = 60 ∨ b p = 62)))
theorem w_self {a : Nat} {c : p_C} (hc : h[a]? = some c) : h.set a c = h := by
  obtain ⟨hl, e⟩ := List.getElem?_eq_some_iff.mp hc
  rw [← e, List.set_getElem_self]
theorem t_R_0 {p : Nat} (h : ¬ p < n) : t_R 0 b n p := by
  unfold t_R
  rw [t_k_end h]
  refine ⟨by simp, by simp, by simp, fun c hc => ⟨fun e => by omega, fun e => absurd e.1 (by decide)⟩⟩
theorem t_R_1 {p : Nat} (h : t_k b n p = 2) : t_R 1 b n p := by
  unfold t_R
  rw [h]
  refine ⟨by simp, by simp, by simp, fun c hc => ⟨fun e => by omega, fun e => absurd e.1 (by decide)⟩⟩
theorem t_R_2 {p : Nat} (h : t_k b n p = 1) : t_R 2 b n p := by
  unfold t_R
  rw [h]
  refine ⟨by simp, by simp, by simp, fun c hc => ⟨fun e => by omega, fun e => absurd e.1 (by decide)⟩⟩
theorem t_sg_in : ∀ c, (c = 40 ∨ c = 41 ∨ c = 42 ∨ c = 43 ∨ c = 44 ∨ c = 45 ∨ c = 47 ∨ c = 58 ∨ c = 59) → t_sg c = true := by
  intro c hc
  rcases hc with rfl | rfl | rfl | rfl | rfl | rfl | rfl | rfl | rfl <;> decide
theorem t_R_3 {p t : Nat} (h : t_k b n p = 3) (ht : t = b p ∧ t_sg (b p) = true ∨ t = 3 ∧ t_sg (b p) = false ∨ (t = 4 ∨ t = 5) ∧ (b p = 60 ∨ b p = 62)) : t_R t b n p := by
  unfold t_R
  rw [h]
  have h3 : t_sg (b p) = true → 35 ≤ b p := fun e => by
    by_cases q : b p < 35
    · by_cases q2 : b p < 256
      · rw [t_sg_out _ q2 (Or.inl q)] at e; cases e
      · omega
    · omega
  refine ⟨⟨fun e => ?_, fun e => absurd e (by decide)⟩, ⟨fun e => ?_, fun e => absurd e (by decide)⟩, ⟨fun e => ?_, fun e => absurd e (by decide)⟩, fun c hc => ⟨fun e => ⟨rfl, ?_⟩, fun e => ?_⟩⟩
  · rcases ht with ⟨e1, e2⟩ | ⟨e1, -⟩ | ⟨e1, -⟩
    · have := h3 e2; omega
    · omega
    · omega
  · rcases ht with ⟨e1, e2⟩ | ⟨e1, -⟩ | ⟨e1, -⟩
    · have := h3 e2; omega
    · omega
    · omega
  · rcases ht with ⟨e1, e2⟩ | ⟨e1, -⟩ | ⟨e1, -⟩
    · have := h3 e2; omega
    · omega
    · omega
  · rcases ht with ⟨e1, e2⟩ | ⟨e1, -⟩ | ⟨e1, -⟩
    · omega
    · omega
    · omega
  · obtain ⟨-, e⟩ := e
    have := t_sg_in c hc
    rw [← e] at this
    rcases ht with ⟨e1, e2⟩ | ⟨-, e2⟩ | ⟨-, e2⟩
    · omega
    · rw [this] at e2; cases e2
    · omega
set_option maxRecDepth 100000 in
theorem r_next {q0 : Nat} {x8 x9 : Value} {x10 : Int32} {z11 : Int64} (e64 : h[64]? = some (0, 12, fs)) (e68 : h[68]? = some (1, 0, tp)) (hb : t_B tp b) (hn : n ≤ 300) (f3 : fs[3]? = some (.ref 68)) (f4 : fs[4]? = some (.int (Int32.ofNat n))) (f7 : fs[7]? = some (.int (Int32.ofNat q0))) (hq0 : q0 ≤ n) (f8 : fs[8]? = some x8) (f9 : fs[9]? = some x9) (f10 : fs[10]? = some (.int x10)) (f11 : fs[11]? = some (.long z11)) : p_wp p_GT p_MT (d + 1) m_X12_nextToken 0 (lv_args 0 [.ref 64]) [] h (fun v h2 => v = none ∧ ∃ gs, h2 = h.set 64 (0, 12, gs) ∧ (∀ k, k < 7 ∨ 11 < k → gs[k]? = fs[k]?) ∧ r_T b n (t_sk b n q0) gs) := by
  have hl : 64 < h.length := (List.getElem?_eq_some_iff.mp e64).1
  obtain ⟨p, hp⟩ : ∃ p, p = t_sk b n q0 := ⟨_, rfl⟩
  have pn : p ≤ n := by rw [hp]; exact (t_sk_le hq0).2
  rw [← hp]
  suffices hgo : ∀ gs, (∀ k, k ≠ 7 → gs[k]? = fs[k]?) → gs[7]? = some (.int (Int32.ofNat p)) → p_wp p_GT p_MT (d + 1) m_X12_nextToken 39 (lv_args 0 [.ref 64]) [] (h.set 64 (0, 12, gs)) (fun v h2 => v = none ∧ ∃ gs, h2 = h.set 64 (0, 12, gs) ∧ (∀ k, k < 7 ∨ 11 < k → gs[k]? = fs[k]?) ∧ r_T b n p gs) by
    have := r_skl (q0 := q0) hl e68 hb hn f3 f4 (by rw [← hp]; exact hgo) (n - q0) q0 fs (by omega) rfl (fun _ _ => rfl) f7
    rw [w_self e64] at this
    exact this
  intro gs K g7
  have K5 : ∀ k, k < 7 ∨ 11 < k → gs[k]? = fs[k]? := fun k hk => K k (by omega)
  by_cases q1 : p < n
  · have b256 := (hb p (by omega)).2
    refine w_aload_n rfl rfl (w_aload_n rfl rfl (w_getf rfl rfl (w_at hl) g7 (w_putfS rfl rfl hl rfl rfl (w_flt ((K 8 (by decide)).trans f8)) (w_aload_n rfl rfl (w_aload_n rfl rfl (w_getf rfl rfl (w_at hl) (w_fne g7 (by decide)) (w_virtual (dc := d) (M' := m_X12_byteAt) rfl (g_vir (n := 2) rfl rfl (by simp [p_cat, p_bd, Value.category]) rfl rfl (w_at hl) rfl) rfl rfl (Nat.le_refl _) (r_byte1 (q := p) (w_at hl) (w_fne ((K 3 (by decide)).trans f3) (by decide)) (w_fne ((K 4 (by decide)).trans f4) (by decide)) (a_ga (by decide) e68) hb hn q1) ?_)))))))
    rintro v h2 ⟨rfl, rfl⟩
    refine w_istore_n rfl (by decide) (w_iload_n rfl p_lk_s1 (w_ifc_t rfl (t := 68) rfl (by simp only [p_cd, decide_eq_true_eq]; rw [Int32.le_iff_toInt_le, g_ofNat (by omega)]; simp only [Int32.toInt_zero]; omega) (w_iload_n rfl p_lk_s1 (w_static (nn := 0) (dc := d) (M' := m_X12_isFigure) rfl rfl rfl rfl (Nat.le_refl _) (r_fig b256) ?_))))
    rintro v h2 ⟨rfl, rfl⟩
    cases e1 : t_fi (b p) with
    | true =>
      have k2 := t_k_n q1 (t_al_fi e1) e1
      refine w_ifc_f rfl (t := 151) rfl (by decide) (w_aload_n rfl (w_s1 rfl rfl (by decide)) (w_ic 1 rfl rfl (w_putfS rfl rfl hl rfl rfl (w_flt (w_fne ((K 9 (by decide)).trans f9) (by decide))) (w_aload_n rfl (w_s1 rfl rfl (by decide)) (w_ic 0 rfl rfl (w_putfS rfl rfl hl rfl rfl (w_flt (w_fne (w_fne ((K 10 (by decide)).trans f10) (by decide)) (by decide))) ?_))))))
      refine r_numl (p := p) (fs := ((gs.set 8 (.int (Int32.ofNat p))).set 9 (.int (Int32.ofNat 1))).set 10 (.int (Int32.ofNat 0))) hl e68 hb hn (w_fne (w_fne (w_fne ((K 3 (by decide)).trans f3) (by decide)) (by decide)) (by decide)) (w_fne (w_fne (w_fne ((K 4 (by decide)).trans f4) (by decide)) (by decide)) (by decide)) (w_fat (w_fne (w_fne ((K 10 (by decide)).trans f10) (by decide)) (by decide))) (fun gs2 K2 n7 n10 => ⟨rfl, gs2, rfl, fun k hk => ?_, ?_⟩) (w_s1 rfl rfl (by decide)) (n - p) p 0 _ (by omega) (by omega) rfl (fun _ _ => rfl) (w_fne (w_fne (w_fne g7 (by decide)) (by decide)) (by decide)) (w_fat (w_fne (w_fne ((K 10 (by decide)).trans f10) (by decide)) (by decide)))
      · rw [K2 k (by omega), List.getElem?_set_ne (by omega), List.getElem?_set_ne (by omega), List.getElem?_set_ne (by omega)]; exact K5 k hk
      · refine ⟨(K2 8 (by decide)).trans (w_fne (w_fne (w_fat ((K 8 (by decide)).trans f8)) (by decide)) (by decide)), ⟨1, (K2 9 (by decide)).trans (w_fne (w_fat (w_fne ((K 9 (by decide)).trans f9) (by decide))) (by decide)), by decide, t_R_1 k2⟩, ⟨_, n10, fun _ => rfl⟩, ⟨z11, (K2 11 (by decide)).trans (w_fne (w_fne (w_fne ((K 11 (by decide)).trans f11) (by decide)) (by decide)) (by decide)), fun e => absurd (k2.symm.trans e) (by decide)⟩, (t_nl b n p).1, n7, (t_lp_le (n - p) p 0 (by omega)).2, Or.inl ?_⟩
        unfold t_e; rw [k2]; rfl
    | false =>
      refine w_ifc_t rfl (t := 151) rfl (by decide) (w_iload_n rfl p_lk_s1 (w_static (nn := 0) (dc := d) (M' := m_X12_isLetterByte) rfl rfl rfl rfl (Nat.le_refl _) (r_let b256) ?_))
      rintro v h2 ⟨rfl, rfl⟩
      cases e2 : t_al (b p) with
      | true =>
        have k1 := t_k_w q1 e2
        refine w_ifc_f rfl (t := 234) rfl (by decide) (w_aload_n rfl (w_s1 rfl rfl (by decide)) (w_ic 2 rfl rfl (w_putfS rfl rfl hl rfl rfl (w_flt (w_fne ((K 9 (by decide)).trans f9) (by decide))) (w_aload_n rfl (w_s1 rfl rfl (by decide)) (w_lconst rfl (w_putfS rfl rfl hl rfl rfl (w_flt (w_fne (w_fne ((K 11 (by decide)).trans f11) (by decide)) (by decide))) ?_))))))
        refine r_wdl (p := p) (fs := ((gs.set 8 (.int (Int32.ofNat p))).set 9 (.int (Int32.ofNat 2))).set 11 (.long (Int64.ofNat 0))) hl e68 hb hn (w_fne (w_fne (w_fne ((K 3 (by decide)).trans f3) (by decide)) (by decide)) (by decide)) (w_fne (w_fne (w_fne ((K 4 (by decide)).trans f4) (by decide)) (by decide)) (by decide)) (w_fat (w_fne (w_fne ((K 11 (by decide)).trans f11) (by decide)) (by decide))) (fun gs2 K2 n7 n11 => ⟨rfl, gs2, rfl, fun k hk => ?_, ?_⟩) (w_s1 rfl rfl (by decide)) (n - p) p 0 _ (by omega) (by decide) rfl (fun _ _ => rfl) (w_fne (w_fne (w_fne g7 (by decide)) (by decide)) (by decide)) (w_fat (w_fne (w_fne ((K 11 (by decide)).trans f11) (by decide)) (by decide)))
        · rw [K2 k (by omega), List.getElem?_set_ne (by omega), List.getElem?_set_ne (by omega), List.getElem?_set_ne (by omega)]; exact K5 k hk
        · refine ⟨(K2 8 (by decide)).trans (w_fne (w_fne (w_fat ((K 8 (by decide)).trans f8)) (by decide)) (by decide)), ⟨2, (K2 9 (by decide)).trans (w_fne (w_fat (w_fne ((K 9 (by decide)).trans f9) (by decide))) (by decide)), by decide, t_R_2 k1⟩, ⟨x10, (K2 10 (by decide)).trans (w_fne (w_fne (w_fne ((K 10 (by decide)).trans f10) (by decide)) (by decide)) (by decide)), fun e => absurd (k1.symm.trans e) (by decide)⟩, ⟨_, n11, fun _ => rfl⟩, (t_wl b n p).1, n7, (t_lp_le (n - p) p 0 (by omega)).2, Or.inl ?_⟩
          unfold t_e; rw [k1]; rfl
      | false =>
        have k3 := t_k_s q1 e2 e1
        have te : t_e b n p = p + 1 := by unfold t_e; rw [k3]; rfl
        refine w_ifc_t rfl (t := 234) rfl (by decide) (w_aload_n rfl (w_s1 rfl rfl (by decide)) (w_iload_n rfl p_lk_s1 (w_static (nn := 0) (dc := d) (M' := m_X12_isSign) rfl rfl rfl rfl (Nat.le_refl _) (r_sgn b256) ?_)))
        rintro v h2 ⟨rfl, rfl⟩
        cases e3 : t_sg (b p) with
        | true =>
          refine w_ifc_f rfl (t := 246) rfl (by decide) (w_iload_n rfl p_lk_s1 (w_goto rfl (t := 247) rfl (w_putfS rfl rfl hl rfl rfl (w_flt (w_fne ((K 9 (by decide)).trans f9) (by decide))) (w_aload_n rfl (w_s1 rfl rfl (by decide)) (w_dup rfl rfl (w_getf rfl rfl (w_at hl) (w_fne (w_fne g7 (by decide)) (by decide)) (w_ic 1 rfl rfl (w_addN rfl (w_putfS rfl rfl hl rfl rfl (w_flt (w_fne (w_fne g7 (by decide)) (by decide))) (w_iload_n rfl p_lk_s1 (w_bp 60 rfl rfl ?_)))))))))))
          cases e4 : Nat.beq (b p) 60 with
          | true =>
            have hbig : b p = 60 ∨ b p = 62 := Or.inl (Nat.eq_of_beq_eq_true e4)
            by_cases q2 : p + 1 < n
            · have c256 := (hb (p + 1) (by omega)).2
              refine w_icmp_t rfl (t := 272) rfl (by rw [t_ceq b256 (by decide), e4]) (w_aload_n rfl (w_s1 rfl rfl (by decide)) (w_aload_n rfl (w_s1 rfl rfl (by decide)) (w_getf rfl rfl (w_at hl) (w_fat (w_fne (w_fne g7 (by decide)) (by decide))) (w_virtual (dc := d) (M' := m_X12_byteAt) rfl (g_vir (n := 2) rfl rfl (by simp [p_cat, p_bd, Value.category]) rfl rfl (w_at hl) rfl) rfl rfl (Nat.le_refl _) (r_byte1 (q := p + 1) (w_at hl) (w_fne (w_fne (w_fne ((K 3 (by decide)).trans f3) (by decide)) (by decide)) (by decide)) (w_fne (w_fne (w_fne ((K 4 (by decide)).trans f4) (by decide)) (by decide)) (by decide)) (a_ga (by decide) e68) hb hn q2) ?_))))
              rintro v h2 ⟨rfl, rfl⟩
              refine w_bp 61 rfl rfl ?_
              cases e6 : Nat.beq (b (p + 1)) 61 with
              | false =>
                refine w_icmp_t rfl (t := 310) rfl (by rw [t_cne c256 (by decide), e6]; rfl) (w_return rfl rfl ⟨rfl, _, rfl, fun k hk => ?_, ⟨(w_fne (w_fne (w_fat ((K 8 (by decide)).trans f8)) (by decide)) (by decide)), ⟨b p, (w_fne (w_fat (w_fne ((K 9 (by decide)).trans f9) (by decide))) (by decide)), by omega, t_R_3 k3 (Or.inl ⟨rfl, e3⟩)⟩, ⟨x10, (w_fne (w_fne (w_fne ((K 10 (by decide)).trans f10) (by decide)) (by decide)) (by decide)), fun e => absurd (k3.symm.trans e) (by decide)⟩, ⟨z11, (w_fne (w_fne (w_fne ((K 11 (by decide)).trans f11) (by decide)) (by decide)) (by decide)), fun e => absurd (k3.symm.trans e) (by decide)⟩, p + 1, (w_fat (w_fne (w_fne g7 (by decide)) (by decide))), ?_, ?_⟩⟩)
                · rw [List.getElem?_set_ne (by omega), List.getElem?_set_ne (by omega), List.getElem?_set_ne (by omega)]; exact K5 k hk
                · omega
                · exact Or.inl te.symm
              | true =>
                refine w_icmp_f rfl (t := 310) rfl (by rw [t_cne c256 (by decide), e6]; rfl) (w_aload_n rfl (w_s1 rfl rfl (by decide)) (w_iload_n rfl p_lk_s1 (w_bp 60 rfl rfl ?_)))
                cases e7 : Nat.beq (b p) 60 with
                | true =>
                  refine w_icmp_f rfl (t := 296) rfl (by rw [t_cne b256 (by decide), e7]; rfl) (w_ic 4 rfl rfl (w_goto rfl (t := 297) rfl (w_putfS rfl rfl hl rfl rfl (w_flt (w_fne (w_fat (w_fne ((K 9 (by decide)).trans f9) (by decide))) (by decide))) (w_aload_n rfl (w_s1 rfl rfl (by decide)) (w_dup rfl rfl (w_getf rfl rfl (w_at hl) (w_fne (w_fat (w_fne (w_fne g7 (by decide)) (by decide))) (by decide)) (w_ic 1 rfl rfl (w_addN rfl (w_putfS rfl rfl hl rfl rfl (w_flt (w_fne (w_fat (w_fne (w_fne g7 (by decide)) (by decide))) (by decide))) (w_return rfl rfl ⟨rfl, _, rfl, fun k hk => ?_, ⟨(w_fne (w_fne (w_fne (w_fne (w_fat ((K 8 (by decide)).trans f8)) (by decide)) (by decide)) (by decide)) (by decide)), ⟨4, (w_fne (w_fat (w_fne (w_fat (w_fne ((K 9 (by decide)).trans f9) (by decide))) (by decide))) (by decide)), by omega, t_R_3 k3 (Or.inr (Or.inr ⟨Or.inl rfl, hbig⟩))⟩, ⟨x10, (w_fne (w_fne (w_fne (w_fne (w_fne ((K 10 (by decide)).trans f10) (by decide)) (by decide)) (by decide)) (by decide)) (by decide)), fun e => absurd (k3.symm.trans e) (by decide)⟩, ⟨z11, (w_fne (w_fne (w_fne (w_fne (w_fne ((K 11 (by decide)).trans f11) (by decide)) (by decide)) (by decide)) (by decide)) (by decide)), fun e => absurd (k3.symm.trans e) (by decide)⟩, p + 1 + 1, (w_fat (w_fne (w_fat (w_fne (w_fne g7 (by decide)) (by decide))) (by decide))), ?_, ?_⟩⟩))))))))))
                  · rw [List.getElem?_set_ne (by omega), List.getElem?_set_ne (by omega), List.getElem?_set_ne (by omega), List.getElem?_set_ne (by omega), List.getElem?_set_ne (by omega)]; exact K5 k hk
                  · omega
                  · exact Or.inr ⟨k3, hbig⟩
                | false =>
                  refine w_icmp_t rfl (t := 296) rfl (by rw [t_cne b256 (by decide), e7]; rfl) (w_ic 5 rfl rfl (w_putfS rfl rfl hl rfl rfl (w_flt (w_fne (w_fat (w_fne ((K 9 (by decide)).trans f9) (by decide))) (by decide))) (w_aload_n rfl (w_s1 rfl rfl (by decide)) (w_dup rfl rfl (w_getf rfl rfl (w_at hl) (w_fne (w_fat (w_fne (w_fne g7 (by decide)) (by decide))) (by decide)) (w_ic 1 rfl rfl (w_addN rfl (w_putfS rfl rfl hl rfl rfl (w_flt (w_fne (w_fat (w_fne (w_fne g7 (by decide)) (by decide))) (by decide))) (w_return rfl rfl ⟨rfl, _, rfl, fun k hk => ?_, ⟨(w_fne (w_fne (w_fne (w_fne (w_fat ((K 8 (by decide)).trans f8)) (by decide)) (by decide)) (by decide)) (by decide)), ⟨5, (w_fne (w_fat (w_fne (w_fat (w_fne ((K 9 (by decide)).trans f9) (by decide))) (by decide))) (by decide)), by omega, t_R_3 k3 (Or.inr (Or.inr ⟨Or.inr rfl, hbig⟩))⟩, ⟨x10, (w_fne (w_fne (w_fne (w_fne (w_fne ((K 10 (by decide)).trans f10) (by decide)) (by decide)) (by decide)) (by decide)) (by decide)), fun e => absurd (k3.symm.trans e) (by decide)⟩, ⟨z11, (w_fne (w_fne (w_fne (w_fne (w_fne ((K 11 (by decide)).trans f11) (by decide)) (by decide)) (by decide)) (by decide)) (by decide)), fun e => absurd (k3.symm.trans e) (by decide)⟩, p + 1 + 1, (w_fat (w_fne (w_fat (w_fne (w_fne g7 (by decide)) (by decide))) (by decide))), ?_, ?_⟩⟩)))))))))
                  · rw [List.getElem?_set_ne (by omega), List.getElem?_set_ne (by omega), List.getElem?_set_ne (by omega), List.getElem?_set_ne (by omega), List.getElem?_set_ne (by omega)]; exact K5 k hk
                  · omega
                  · exact Or.inr ⟨k3, hbig⟩
            · refine w_icmp_t rfl (t := 272) rfl (by rw [t_ceq b256 (by decide), e4]) (w_aload_n rfl (w_s1 rfl rfl (by decide)) (w_aload_n rfl (w_s1 rfl rfl (by decide)) (w_getf rfl rfl (w_at hl) (w_fat (w_fne (w_fne g7 (by decide)) (by decide))) (w_virtual (dc := d) (M' := m_X12_byteAt) rfl (g_vir (n := 2) rfl rfl (by simp [p_cat, p_bd, Value.category]) rfl rfl (w_at hl) rfl) rfl rfl (Nat.le_refl _) (r_byte0 (q := p + 1) (w_at hl) (w_fne (w_fne (w_fne ((K 3 (by decide)).trans f3) (by decide)) (by decide)) (by decide)) (w_fne (w_fne (w_fne ((K 4 (by decide)).trans f4) (by decide)) (by decide)) (by decide)) (a_ga (by decide) e68) hb hn (by omega) q2) ?_))))
              rintro v h2 ⟨rfl, rfl⟩
              refine w_bp 61 rfl rfl (w_icmp_t rfl (t := 310) rfl (by decide) (w_return rfl rfl ⟨rfl, _, rfl, fun k hk => ?_, ⟨(w_fne (w_fne (w_fat ((K 8 (by decide)).trans f8)) (by decide)) (by decide)), ⟨b p, (w_fne (w_fat (w_fne ((K 9 (by decide)).trans f9) (by decide))) (by decide)), by omega, t_R_3 k3 (Or.inl ⟨rfl, e3⟩)⟩, ⟨x10, (w_fne (w_fne (w_fne ((K 10 (by decide)).trans f10) (by decide)) (by decide)) (by decide)), fun e => absurd (k3.symm.trans e) (by decide)⟩, ⟨z11, (w_fne (w_fne (w_fne ((K 11 (by decide)).trans f11) (by decide)) (by decide)) (by decide)), fun e => absurd (k3.symm.trans e) (by decide)⟩, p + 1, (w_fat (w_fne (w_fne g7 (by decide)) (by decide))), ?_, ?_⟩⟩))
              · rw [List.getElem?_set_ne (by omega), List.getElem?_set_ne (by omega), List.getElem?_set_ne (by omega)]; exact K5 k hk
              · omega
              · exact Or.inl te.symm
          | false =>
            refine w_icmp_f rfl (t := 272) rfl (by rw [t_ceq b256 (by decide), e4]) (w_iload_n rfl p_lk_s1 (w_bp 62 rfl rfl ?_))
            cases e5 : Nat.beq (b p) 62 with
            | true =>
              have hbig : b p = 60 ∨ b p = 62 := Or.inr (Nat.eq_of_beq_eq_true e5)
              by_cases q2 : p + 1 < n
              · have c256 := (hb (p + 1) (by omega)).2
                refine w_icmp_f rfl (t := 310) rfl (by rw [t_cne b256 (by decide), e5]; rfl) (w_aload_n rfl (w_s1 rfl rfl (by decide)) (w_aload_n rfl (w_s1 rfl rfl (by decide)) (w_getf rfl rfl (w_at hl) (w_fat (w_fne (w_fne g7 (by decide)) (by decide))) (w_virtual (dc := d) (M' := m_X12_byteAt) rfl (g_vir (n := 2) rfl rfl (by simp [p_cat, p_bd, Value.category]) rfl rfl (w_at hl) rfl) rfl rfl (Nat.le_refl _) (r_byte1 (q := p + 1) (w_at hl) (w_fne (w_fne (w_fne ((K 3 (by decide)).trans f3) (by decide)) (by decide)) (by decide)) (w_fne (w_fne (w_fne ((K 4 (by decide)).trans f4) (by decide)) (by decide)) (by decide)) (a_ga (by decide) e68) hb hn q2) ?_))))
                rintro v h2 ⟨rfl, rfl⟩
                refine w_bp 61 rfl rfl ?_
                cases e6 : Nat.beq (b (p + 1)) 61 with
                | false =>
                  refine w_icmp_t rfl (t := 310) rfl (by rw [t_cne c256 (by decide), e6]; rfl) (w_return rfl rfl ⟨rfl, _, rfl, fun k hk => ?_, ⟨(w_fne (w_fne (w_fat ((K 8 (by decide)).trans f8)) (by decide)) (by decide)), ⟨b p, (w_fne (w_fat (w_fne ((K 9 (by decide)).trans f9) (by decide))) (by decide)), by omega, t_R_3 k3 (Or.inl ⟨rfl, e3⟩)⟩, ⟨x10, (w_fne (w_fne (w_fne ((K 10 (by decide)).trans f10) (by decide)) (by decide)) (by decide)), fun e => absurd (k3.symm.trans e) (by decide)⟩, ⟨z11, (w_fne (w_fne (w_fne ((K 11 (by decide)).trans f11) (by decide)) (by decide)) (by decide)), fun e => absurd (k3.symm.trans e) (by decide)⟩, p + 1, (w_fat (w_fne (w_fne g7 (by decide)) (by decide))), ?_, ?_⟩⟩)
                  · rw [List.getElem?_set_ne (by omega), List.getElem?_set_ne (by omega), List.getElem?_set_ne (by omega)]; exact K5 k hk
                  · omega
                  · exact Or.inl te.symm
                | true =>
                  refine w_icmp_f rfl (t := 310) rfl (by rw [t_cne c256 (by decide), e6]; rfl) (w_aload_n rfl (w_s1 rfl rfl (by decide)) (w_iload_n rfl p_lk_s1 (w_bp 60 rfl rfl ?_)))
                  cases e7 : Nat.beq (b p) 60 with
                  | true =>
                    refine w_icmp_f rfl (t := 296) rfl (by rw [t_cne b256 (by decide), e7]; rfl) (w_ic 4 rfl rfl (w_goto rfl (t := 297) rfl (w_putfS rfl rfl hl rfl rfl (w_flt (w_fne (w_fat (w_fne ((K 9 (by decide)).trans f9) (by decide))) (by decide))) (w_aload_n rfl (w_s1 rfl rfl (by decide)) (w_dup rfl rfl (w_getf rfl rfl (w_at hl) (w_fne (w_fat (w_fne (w_fne g7 (by decide)) (by decide))) (by decide)) (w_ic 1 rfl rfl (w_addN rfl (w_putfS rfl rfl hl rfl rfl (w_flt (w_fne (w_fat (w_fne (w_fne g7 (by decide)) (by decide))) (by decide))) (w_return rfl rfl ⟨rfl, _, rfl, fun k hk => ?_, ⟨(w_fne (w_fne (w_fne (w_fne (w_fat ((K 8 (by decide)).trans f8)) (by decide)) (by decide)) (by decide)) (by decide)), ⟨4, (w_fne (w_fat (w_fne (w_fat (w_fne ((K 9 (by decide)).trans f9) (by decide))) (by decide))) (by decide)), by omega, t_R_3 k3 (Or.inr (Or.inr ⟨Or.inl rfl, hbig⟩))⟩, ⟨x10, (w_fne (w_fne (w_fne (w_fne (w_fne ((K 10 (by decide)).trans f10) (by decide)) (by decide)) (by decide)) (by decide)) (by decide)), fun e => absurd (k3.symm.trans e) (by decide)⟩, ⟨z11, (w_fne (w_fne (w_fne (w_fne (w_fne ((K 11 (by decide)).trans f11) (by decide)) (by decide)) (by decide)) (by decide)) (by decide)), fun e => absurd (k3.symm.trans e) (by decide)⟩, p + 1 + 1, (w_fat (w_fne (w_fat (w_fne (w_fne g7 (by decide)) (by decide))) (by decide))), ?_, ?_⟩⟩))))))))))
                    · rw [List.getElem?_set_ne (by omega), List.getElem?_set_ne (by omega), List.getElem?_set_ne (by omega), List.getElem?_set_ne (by omega), List.getElem?_set_ne (by omega)]; exact K5 k hk
                    · omega
                    · exact Or.inr ⟨k3, hbig⟩
                  | false =>
                    refine w_icmp_t rfl (t := 296) rfl (by rw [t_cne b256 (by decide), e7]; rfl) (w_ic 5 rfl rfl (w_putfS rfl rfl hl rfl rfl (w_flt (w_fne (w_fat (w_fne ((K 9 (by decide)).trans f9) (by decide))) (by decide))) (w_aload_n rfl (w_s1 rfl rfl (by decide)) (w_dup rfl rfl (w_getf rfl rfl (w_at hl) (w_fne (w_fat (w_fne (w_fne g7 (by decide)) (by decide))) (by decide)) (w_ic 1 rfl rfl (w_addN rfl (w_putfS rfl rfl hl rfl rfl (w_flt (w_fne (w_fat (w_fne (w_fne g7 (by decide)) (by decide))) (by decide))) (w_return rfl rfl ⟨rfl, _, rfl, fun k hk => ?_, ⟨(w_fne (w_fne (w_fne (w_fne (w_fat ((K 8 (by decide)).trans f8)) (by decide)) (by decide)) (by decide)) (by decide)), ⟨5, (w_fne (w_fat (w_fne (w_fat (w_fne ((K 9 (by decide)).trans f9) (by decide))) (by decide))) (by decide)), by omega, t_R_3 k3 (Or.inr (Or.inr ⟨Or.inr rfl, hbig⟩))⟩, ⟨x10, (w_fne (w_fne (w_fne (w_fne (w_fne ((K 10 (by decide)).trans f10) (by decide)) (by decide)) (by decide)) (by decide)) (by decide)), fun e => absurd (k3.symm.trans e) (by decide)⟩, ⟨z11, (w_fne (w_fne (w_fne (w_fne (w_fne ((K 11 (by decide)).trans f11) (by decide)) (by decide)) (by decide)) (by decide)) (by decide)), fun e => absurd (k3.symm.trans e) (by decide)⟩, p + 1 + 1, (w_fat (w_fne (w_fat (w_fne (w_fne g7 (by decide)) (by decide))) (by decide))), ?_, ?_⟩⟩)))))))))
                    · rw [List.getElem?_set_ne (by omega), List.getElem?_set_ne (by omega), List.getElem?_set_ne (by omega), List.getElem?_set_ne (by omega), List.getElem?_set_ne (by omega)]; exact K5 k hk
                    · omega
                    · exact Or.inr ⟨k3, hbig⟩
              · refine w_icmp_f rfl (t := 310) rfl (by rw [t_cne b256 (by decide), e5]; rfl) (w_aload_n rfl (w_s1 rfl rfl (by decide)) (w_aload_n rfl (w_s1 rfl rfl (by decide)) (w_getf rfl rfl (w_at hl) (w_fat (w_fne (w_fne g7 (by decide)) (by decide))) (w_virtual (dc := d) (M' := m_X12_byteAt) rfl (g_vir (n := 2) rfl rfl (by simp [p_cat, p_bd, Value.category]) rfl rfl (w_at hl) rfl) rfl rfl (Nat.le_refl _) (r_byte0 (q := p + 1) (w_at hl) (w_fne (w_fne (w_fne ((K 3 (by decide)).trans f3) (by decide)) (by decide)) (by decide)) (w_fne (w_fne (w_fne ((K 4 (by decide)).trans f4) (by decide)) (by decide)) (by decide)) (a_ga (by decide) e68) hb hn (by omega) q2) ?_))))
                rintro v h2 ⟨rfl, rfl⟩
                refine w_bp 61 rfl rfl (w_icmp_t rfl (t := 310) rfl (by decide) (w_return rfl rfl ⟨rfl, _, rfl, fun k hk => ?_, ⟨(w_fne (w_fne (w_fat ((K 8 (by decide)).trans f8)) (by decide)) (by decide)), ⟨b p, (w_fne (w_fat (w_fne ((K 9 (by decide)).trans f9) (by decide))) (by decide)), by omega, t_R_3 k3 (Or.inl ⟨rfl, e3⟩)⟩, ⟨x10, (w_fne (w_fne (w_fne ((K 10 (by decide)).trans f10) (by decide)) (by decide)) (by decide)), fun e => absurd (k3.symm.trans e) (by decide)⟩, ⟨z11, (w_fne (w_fne (w_fne ((K 11 (by decide)).trans f11) (by decide)) (by decide)) (by decide)), fun e => absurd (k3.symm.trans e) (by decide)⟩, p + 1, (w_fat (w_fne (w_fne g7 (by decide)) (by decide))), ?_, ?_⟩⟩))
                · rw [List.getElem?_set_ne (by omega), List.getElem?_set_ne (by omega), List.getElem?_set_ne (by omega)]; exact K5 k hk
                · omega
                · exact Or.inl te.symm
            | false =>
              refine w_icmp_t rfl (t := 310) rfl (by rw [t_cne b256 (by decide), e5]; rfl) (w_return rfl rfl ⟨rfl, _, rfl, fun k hk => ?_, ⟨(w_fne (w_fne (w_fat ((K 8 (by decide)).trans f8)) (by decide)) (by decide)), ⟨b p, (w_fne (w_fat (w_fne ((K 9 (by decide)).trans f9) (by decide))) (by decide)), by omega, t_R_3 k3 (Or.inl ⟨rfl, e3⟩)⟩, ⟨x10, (w_fne (w_fne (w_fne ((K 10 (by decide)).trans f10) (by decide)) (by decide)) (by decide)), fun e => absurd (k3.symm.trans e) (by decide)⟩, ⟨z11, (w_fne (w_fne (w_fne ((K 11 (by decide)).trans f11) (by decide)) (by decide)) (by decide)), fun e => absurd (k3.symm.trans e) (by decide)⟩, p + 1, (w_fat (w_fne (w_fne g7 (by decide)) (by decide))), ?_, ?_⟩⟩)
              · rw [List.getElem?_set_ne (by omega), List.getElem?_set_ne (by omega), List.getElem?_set_ne (by omega)]; exact K5 k hk
              · omega
              · exact Or.inl te.symm
        | false =>
          refine w_ifc_t rfl (t := 246) rfl (by decide) (w_ic 3 rfl rfl (w_putfS rfl rfl hl rfl rfl (w_flt (w_fne ((K 9 (by decide)).trans f9) (by decide))) (w_aload_n rfl (w_s1 rfl rfl (by decide)) (w_dup rfl rfl (w_getf rfl rfl (w_at hl) (w_fne (w_fne g7 (by decide)) (by decide)) (w_ic 1 rfl rfl (w_addN rfl (w_putfS rfl rfl hl rfl rfl (w_flt (w_fne (w_fne g7 (by decide)) (by decide))) (w_iload_n rfl p_lk_s1 (w_bp 60 rfl rfl ?_))))))))))
          cases e4 : Nat.beq (b p) 60 with
          | true =>
            have hbig : b p = 60 ∨ b p = 62 := Or.inl (Nat.eq_of_beq_eq_true e4)
            by_cases q2 : p + 1 < n
            · have c256 := (hb (p + 1) (by omega)).2
              refine w_icmp_t rfl (t := 272) rfl (by rw [t_ceq b256 (by decide), e4]) (w_aload_n rfl (w_s1 rfl rfl (by decide)) (w_aload_n rfl (w_s1 rfl rfl (by decide)) (w_getf rfl rfl (w_at hl) (w_fat (w_fne (w_fne g7 (by decide)) (by decide))) (w_virtual (dc := d) (M' := m_X12_byteAt) rfl (g_vir (n := 2) rfl rfl (by simp [p_cat, p_bd, Value.category]) rfl rfl (w_at hl) rfl) rfl rfl (Nat.le_refl _) (r_byte1 (q := p + 1) (w_at hl) (w_fne (w_fne (w_fne ((K 3 (by decide)).trans f3) (by decide)) (by decide)) (by decide)) (w_fne (w_fne (w_fne ((K 4 (by decide)).trans f4) (by decide)) (by decide)) (by decide)) (a_ga (by decide) e68) hb hn q2) ?_))))
              rintro v h2 ⟨rfl, rfl⟩
              refine w_bp 61 rfl rfl ?_
              cases e6 : Nat.beq (b (p + 1)) 61 with
              | false =>
                refine w_icmp_t rfl (t := 310) rfl (by rw [t_cne c256 (by decide), e6]; rfl) (w_return rfl rfl ⟨rfl, _, rfl, fun k hk => ?_, ⟨(w_fne (w_fne (w_fat ((K 8 (by decide)).trans f8)) (by decide)) (by decide)), ⟨3, (w_fne (w_fat (w_fne ((K 9 (by decide)).trans f9) (by decide))) (by decide)), by decide, t_R_3 k3 (Or.inr (Or.inl ⟨rfl, e3⟩))⟩, ⟨x10, (w_fne (w_fne (w_fne ((K 10 (by decide)).trans f10) (by decide)) (by decide)) (by decide)), fun e => absurd (k3.symm.trans e) (by decide)⟩, ⟨z11, (w_fne (w_fne (w_fne ((K 11 (by decide)).trans f11) (by decide)) (by decide)) (by decide)), fun e => absurd (k3.symm.trans e) (by decide)⟩, p + 1, (w_fat (w_fne (w_fne g7 (by decide)) (by decide))), ?_, ?_⟩⟩)
                · rw [List.getElem?_set_ne (by omega), List.getElem?_set_ne (by omega), List.getElem?_set_ne (by omega)]; exact K5 k hk
                · omega
                · exact Or.inl te.symm
              | true =>
                refine w_icmp_f rfl (t := 310) rfl (by rw [t_cne c256 (by decide), e6]; rfl) (w_aload_n rfl (w_s1 rfl rfl (by decide)) (w_iload_n rfl p_lk_s1 (w_bp 60 rfl rfl ?_)))
                cases e7 : Nat.beq (b p) 60 with
                | true =>
                  refine w_icmp_f rfl (t := 296) rfl (by rw [t_cne b256 (by decide), e7]; rfl) (w_ic 4 rfl rfl (w_goto rfl (t := 297) rfl (w_putfS rfl rfl hl rfl rfl (w_flt (w_fne (w_fat (w_fne ((K 9 (by decide)).trans f9) (by decide))) (by decide))) (w_aload_n rfl (w_s1 rfl rfl (by decide)) (w_dup rfl rfl (w_getf rfl rfl (w_at hl) (w_fne (w_fat (w_fne (w_fne g7 (by decide)) (by decide))) (by decide)) (w_ic 1 rfl rfl (w_addN rfl (w_putfS rfl rfl hl rfl rfl (w_flt (w_fne (w_fat (w_fne (w_fne g7 (by decide)) (by decide))) (by decide))) (w_return rfl rfl ⟨rfl, _, rfl, fun k hk => ?_, ⟨(w_fne (w_fne (w_fne (w_fne (w_fat ((K 8 (by decide)).trans f8)) (by decide)) (by decide)) (by decide)) (by decide)), ⟨4, (w_fne (w_fat (w_fne (w_fat (w_fne ((K 9 (by decide)).trans f9) (by decide))) (by decide))) (by decide)), by omega, t_R_3 k3 (Or.inr (Or.inr ⟨Or.inl rfl, hbig⟩))⟩, ⟨x10, (w_fne (w_fne (w_fne (w_fne (w_fne ((K 10 (by decide)).trans f10) (by decide)) (by decide)) (by decide)) (by decide)) (by decide)), fun e => absurd (k3.symm.trans e) (by decide)⟩, ⟨z11, (w_fne (w_fne (w_fne (w_fne (w_fne ((K 11 (by decide)).trans f11) (by decide)) (by decide)) (by decide)) (by decide)) (by decide)), fun e => absurd (k3.symm.trans e) (by decide)⟩, p + 1 + 1, (w_fat (w_fne (w_fat (w_fne (w_fne g7 (by decide)) (by decide))) (by decide))), ?_, ?_⟩⟩))))))))))
                  · rw [List.getElem?_set_ne (by omega), List.getElem?_set_ne (by omega), List.getElem?_set_ne (by omega), List.getElem?_set_ne (by omega), List.getElem?_set_ne (by omega)]; exact K5 k hk
                  · omega
                  · exact Or.inr ⟨k3, hbig⟩
                | false =>
                  refine w_icmp_t rfl (t := 296) rfl (by rw [t_cne b256 (by decide), e7]; rfl) (w_ic 5 rfl rfl (w_putfS rfl rfl hl rfl rfl (w_flt (w_fne (w_fat (w_fne ((K 9 (by decide)).trans f9) (by decide))) (by decide))) (w_aload_n rfl (w_s1 rfl rfl (by decide)) (w_dup rfl rfl (w_getf rfl rfl (w_at hl) (w_fne (w_fat (w_fne (w_fne g7 (by decide)) (by decide))) (by decide)) (w_ic 1 rfl rfl (w_addN rfl (w_putfS rfl rfl hl rfl rfl (w_flt (w_fne (w_fat (w_fne (w_fne g7 (by decide)) (by decide))) (by decide))) (w_return rfl rfl ⟨rfl, _, rfl, fun k hk => ?_, ⟨(w_fne (w_fne (w_fne (w_fne (w_fat ((K 8 (by decide)).trans f8)) (by decide)) (by decide)) (by decide)) (by decide)), ⟨5, (w_fne (w_fat (w_fne (w_fat (w_fne ((K 9 (by decide)).trans f9) (by decide))) (by decide))) (by decide)), by omega, t_R_3 k3 (Or.inr (Or.inr ⟨Or.inr rfl, hbig⟩))⟩, ⟨x10, (w_fne (w_fne (w_fne (w_fne (w_fne ((K 10 (by decide)).trans f10) (by decide)) (by decide)) (by decide)) (by decide)) (by decide)), fun e => absurd (k3.symm.trans e) (by decide)⟩, ⟨z11, (w_fne (w_fne (w_fne (w_fne (w_fne ((K 11 (by decide)).trans f11) (by decide)) (by decide)) (by decide)) (by decide)) (by decide)), fun e => absurd (k3.symm.trans e) (by decide)⟩, p + 1 + 1, (w_fat (w_fne (w_fat (w_fne (w_fne g7 (by decide)) (by decide))) (by decide))), ?_, ?_⟩⟩)))))))))
                  · rw [List.getElem?_set_ne (by omega), List.getElem?_set_ne (by omega), List.getElem?_set_ne (by omega), List.getElem?_set_ne (by omega), List.getElem?_set_ne (by omega)]; exact K5 k hk
                  · omega
                  · exact Or.inr ⟨k3, hbig⟩
            · refine w_icmp_t rfl (t := 272) rfl (by rw [t_ceq b256 (by decide), e4]) (w_aload_n rfl (w_s1 rfl rfl (by decide)) (w_aload_n rfl (w_s1 rfl rfl (by decide)) (w_getf rfl rfl (w_at hl) (w_fat (w_fne (w_fne g7 (by decide)) (by decide))) (w_virtual (dc := d) (M' := m_X12_byteAt) rfl (g_vir (n := 2) rfl rfl (by simp [p_cat, p_bd, Value.category]) rfl rfl (w_at hl) rfl) rfl rfl (Nat.le_refl _) (r_byte0 (q := p + 1) (w_at hl) (w_fne (w_fne (w_fne ((K 3 (by decide)).trans f3) (by decide)) (by decide)) (by decide)) (w_fne (w_fne (w_fne ((K 4 (by decide)).trans f4) (by decide)) (by decide)) (by decide)) (a_ga (by decide) e68) hb hn (by omega) q2) ?_))))
              rintro v h2 ⟨rfl, rfl⟩
              refine w_bp 61 rfl rfl (w_icmp_t rfl (t := 310) rfl (by decide) (w_return rfl rfl ⟨rfl, _, rfl, fun k hk => ?_, ⟨(w_fne (w_fne (w_fat ((K 8 (by decide)).trans f8)) (by decide)) (by decide)), ⟨3, (w_fne (w_fat (w_fne ((K 9 (by decide)).trans f9) (by decide))) (by decide)), by decide, t_R_3 k3 (Or.inr (Or.inl ⟨rfl, e3⟩))⟩, ⟨x10, (w_fne (w_fne (w_fne ((K 10 (by decide)).trans f10) (by decide)) (by decide)) (by decide)), fun e => absurd (k3.symm.trans e) (by decide)⟩, ⟨z11, (w_fne (w_fne (w_fne ((K 11 (by decide)).trans f11) (by decide)) (by decide)) (by decide)), fun e => absurd (k3.symm.trans e) (by decide)⟩, p + 1, (w_fat (w_fne (w_fne g7 (by decide)) (by decide))), ?_, ?_⟩⟩))
              · rw [List.getElem?_set_ne (by omega), List.getElem?_set_ne (by omega), List.getElem?_set_ne (by omega)]; exact K5 k hk
              · omega
              · exact Or.inl te.symm
          | false =>
            refine w_icmp_f rfl (t := 272) rfl (by rw [t_ceq b256 (by decide), e4]) (w_iload_n rfl p_lk_s1 (w_bp 62 rfl rfl ?_))
            cases e5 : Nat.beq (b p) 62 with
            | true =>
              have hbig : b p = 60 ∨ b p = 62 := Or.inr (Nat.eq_of_beq_eq_true e5)
              by_cases q2 : p + 1 < n
              · have c256 := (hb (p + 1) (by omega)).2
                refine w_icmp_f rfl (t := 310) rfl (by rw [t_cne b256 (by decide), e5]; rfl) (w_aload_n rfl (w_s1 rfl rfl (by decide)) (w_aload_n rfl (w_s1 rfl rfl (by decide)) (w_getf rfl rfl (w_at hl) (w_fat (w_fne (w_fne g7 (by decide)) (by decide))) (w_virtual (dc := d) (M' := m_X12_byteAt) rfl (g_vir (n := 2) rfl rfl (by simp [p_cat, p_bd, Value.category]) rfl rfl (w_at hl) rfl) rfl rfl (Nat.le_refl _) (r_byte1 (q := p + 1) (w_at hl) (w_fne (w_fne (w_fne ((K 3 (by decide)).trans f3) (by decide)) (by decide)) (by decide)) (w_fne (w_fne (w_fne ((K 4 (by decide)).trans f4) (by decide)) (by decide)) (by decide)) (a_ga (by decide) e68) hb hn q2) ?_))))
                rintro v h2 ⟨rfl, rfl⟩
                refine w_bp 61 rfl rfl ?_
                cases e6 : Nat.beq (b (p + 1)) 61 with
                | false =>
                  refine w_icmp_t rfl (t := 310) rfl (by rw [t_cne c256 (by decide), e6]; rfl) (w_return rfl rfl ⟨rfl, _, rfl, fun k hk => ?_, ⟨(w_fne (w_fne (w_fat ((K 8 (by decide)).trans f8)) (by decide)) (by decide)), ⟨3, (w_fne (w_fat (w_fne ((K 9 (by decide)).trans f9) (by decide))) (by decide)), by decide, t_R_3 k3 (Or.inr (Or.inl ⟨rfl, e3⟩))⟩, ⟨x10, (w_fne (w_fne (w_fne ((K 10 (by decide)).trans f10) (by decide)) (by decide)) (by decide)), fun e => absurd (k3.symm.trans e) (by decide)⟩, ⟨z11, (w_fne (w_fne (w_fne ((K 11 (by decide)).trans f11) (by decide)) (by decide)) (by decide)), fun e => absurd (k3.symm.trans e) (by decide)⟩, p + 1, (w_fat (w_fne (w_fne g7 (by decide)) (by decide))), ?_, ?_⟩⟩)
                  · rw [List.getElem?_set_ne (by omega), List.getElem?_set_ne (by omega), List.getElem?_set_ne (by omega)]; exact K5 k hk
                  · omega
                  · exact Or.inl te.symm
                | true =>
                  refine w_icmp_f rfl (t := 310) rfl (by rw [t_cne c256 (by decide), e6]; rfl) (w_aload_n rfl (w_s1 rfl rfl (by decide)) (w_iload_n rfl p_lk_s1 (w_bp 60 rfl rfl ?_)))
                  cases e7 : Nat.beq (b p) 60 with
                  | true =>
                    refine w_icmp_f rfl (t := 296) rfl (by rw [t_cne b256 (by decide), e7]; rfl) (w_ic 4 rfl rfl (w_goto rfl (t := 297) rfl (w_putfS rfl rfl hl rfl rfl (w_flt (w_fne (w_fat (w_fne ((K 9 (by decide)).trans f9) (by decide))) (by decide))) (w_aload_n rfl (w_s1 rfl rfl (by decide)) (w_dup rfl rfl (w_getf rfl rfl (w_at hl) (w_fne (w_fat (w_fne (w_fne g7 (by decide)) (by decide))) (by decide)) (w_ic 1 rfl rfl (w_addN rfl (w_putfS rfl rfl hl rfl rfl (w_flt (w_fne (w_fat (w_fne (w_fne g7 (by decide)) (by decide))) (by decide))) (w_return rfl rfl ⟨rfl, _, rfl, fun k hk => ?_, ⟨(w_fne (w_fne (w_fne (w_fne (w_fat ((K 8 (by decide)).trans f8)) (by decide)) (by decide)) (by decide)) (by decide)), ⟨4, (w_fne (w_fat (w_fne (w_fat (w_fne ((K 9 (by decide)).trans f9) (by decide))) (by decide))) (by decide)), by omega, t_R_3 k3 (Or.inr (Or.inr ⟨Or.inl rfl, hbig⟩))⟩, ⟨x10, (w_fne (w_fne (w_fne (w_fne (w_fne ((K 10 (by decide)).trans f10) (by decide)) (by decide)) (by decide)) (by decide)) (by decide)), fun e => absurd (k3.symm.trans e) (by decide)⟩, ⟨z11, (w_fne (w_fne (w_fne (w_fne (w_fne ((K 11 (by decide)).trans f11) (by decide)) (by decide)) (by decide)) (by decide)) (by decide)), fun e => absurd (k3.symm.trans e) (by decide)⟩, p + 1 + 1, (w_fat (w_fne (w_fat (w_fne (w_fne g7 (by decide)) (by decide))) (by decide))), ?_, ?_⟩⟩))))))))))
                    · rw [List.getElem?_set_ne (by omega), List.getElem?_set_ne (by omega), List.getElem?_set_ne (by omega), List.getElem?_set_ne (by omega), List.getElem?_set_ne (by omega)]; exact K5 k hk
                    · omega
                    · exact Or.inr ⟨k3, hbig⟩
                  | false =>
                    refine w_icmp_t rfl (t := 296) rfl (by rw [t_cne b256 (by decide), e7]; rfl) (w_ic 5 rfl rfl (w_putfS rfl rfl hl rfl rfl (w_flt (w_fne (w_fat (w_fne ((K 9 (by decide)).trans f9) (by decide))) (by decide))) (w_aload_n rfl (w_s1 rfl rfl (by decide)) (w_dup rfl rfl (w_getf rfl rfl (w_at hl) (w_fne (w_fat (w_fne (w_fne g7 (by decide)) (by decide))) (by decide)) (w_ic 1 rfl rfl (w_addN rfl (w_putfS rfl rfl hl rfl rfl (w_flt (w_fne (w_fat (w_fne (w_fne g7 (by decide)) (by decide))) (by decide))) (w_return rfl rfl ⟨rfl, _, rfl, fun k hk => ?_, ⟨(w_fne (w_fne (w_fne (w_fne (w_fat ((K 8 (by decide)).trans f8)) (by decide)) (by decide)) (by decide)) (by decide)), ⟨5, (w_fne (w_fat (w_fne (w_fat (w_fne ((K 9 (by decide)).trans f9) (by decide))) (by decide))) (by decide)), by omega, t_R_3 k3 (Or.inr (Or.inr ⟨Or.inr rfl, hbig⟩))⟩, ⟨x10, (w_fne (w_fne (w_fne (w_fne (w_fne ((K 10 (by decide)).trans f10) (by decide)) (by decide)) (by decide)) (by decide)) (by decide)), fun e => absurd (k3.symm.trans e) (by decide)⟩, ⟨z11, (w_fne (w_fne (w_fne (w_fne (w_fne ((K 11 (by decide)).trans f11) (by decide)) (by decide)) (by decide)) (by decide)) (by decide)), fun e => absurd (k3.symm.trans e) (by decide)⟩, p + 1 + 1, (w_fat (w_fne (w_fat (w_fne (w_fne g7 (by decide)) (by decide))) (by decide))), ?_, ?_⟩⟩)))))))))
                    · rw [List.getElem?_set_ne (by omega), List.getElem?_set_ne (by omega), List.getElem?_set_ne (by omega), List.getElem?_set_ne (by omega), List.getElem?_set_ne (by omega)]; exact K5 k hk
                    · omega
                    · exact Or.inr ⟨k3, hbig⟩
              · refine w_icmp_f rfl (t := 310) rfl (by rw [t_cne b256 (by decide), e5]; rfl) (w_aload_n rfl (w_s1 rfl rfl (by decide)) (w_aload_n rfl (w_s1 rfl rfl (by decide)) (w_getf rfl rfl (w_at hl) (w_fat (w_fne (w_fne g7 (by decide)) (by decide))) (w_virtual (dc := d) (M' := m_X12_byteAt) rfl (g_vir (n := 2) rfl rfl (by simp [p_cat, p_bd, Value.category]) rfl rfl (w_at hl) rfl) rfl rfl (Nat.le_refl _) (r_byte0 (q := p + 1) (w_at hl) (w_fne (w_fne (w_fne ((K 3 (by decide)).trans f3) (by decide)) (by decide)) (by decide)) (w_fne (w_fne (w_fne ((K 4 (by decide)).trans f4) (by decide)) (by decide)) (by decide)) (a_ga (by decide) e68) hb hn (by omega) q2) ?_))))
                rintro v h2 ⟨rfl, rfl⟩
                refine w_bp 61 rfl rfl (w_icmp_t rfl (t := 310) rfl (by decide) (w_return rfl rfl ⟨rfl, _, rfl, fun k hk => ?_, ⟨(w_fne (w_fne (w_fat ((K 8 (by decide)).trans f8)) (by decide)) (by decide)), ⟨3, (w_fne (w_fat (w_fne ((K 9 (by decide)).trans f9) (by decide))) (by decide)), by decide, t_R_3 k3 (Or.inr (Or.inl ⟨rfl, e3⟩))⟩, ⟨x10, (w_fne (w_fne (w_fne ((K 10 (by decide)).trans f10) (by decide)) (by decide)) (by decide)), fun e => absurd (k3.symm.trans e) (by decide)⟩, ⟨z11, (w_fne (w_fne (w_fne ((K 11 (by decide)).trans f11) (by decide)) (by decide)) (by decide)), fun e => absurd (k3.symm.trans e) (by decide)⟩, p + 1, (w_fat (w_fne (w_fne g7 (by decide)) (by decide))), ?_, ?_⟩⟩))
                · rw [List.getElem?_set_ne (by omega), List.getElem?_set_ne (by omega), List.getElem?_set_ne (by omega)]; exact K5 k hk
                · omega
                · exact Or.inl te.symm
            | false =>
              refine w_icmp_t rfl (t := 310) rfl (by rw [t_cne b256 (by decide), e5]; rfl) (w_return rfl rfl ⟨rfl, _, rfl, fun k hk => ?_, ⟨(w_fne (w_fne (w_fat ((K 8 (by decide)).trans f8)) (by decide)) (by decide)), ⟨3, (w_fne (w_fat (w_fne ((K 9 (by decide)).trans f9) (by decide))) (by decide)), by decide, t_R_3 k3 (Or.inr (Or.inl ⟨rfl, e3⟩))⟩, ⟨x10, (w_fne (w_fne (w_fne ((K 10 (by decide)).trans f10) (by decide)) (by decide)) (by decide)), fun e => absurd (k3.symm.trans e) (by decide)⟩, ⟨z11, (w_fne (w_fne (w_fne ((K 11 (by decide)).trans f11) (by decide)) (by decide)) (by decide)), fun e => absurd (k3.symm.trans e) (by decide)⟩, p + 1, (w_fat (w_fne (w_fne g7 (by decide)) (by decide))), ?_, ?_⟩⟩)
              · rw [List.getElem?_set_ne (by omega), List.getElem?_set_ne (by omega), List.getElem?_set_ne (by omega)]; exact K5 k hk
              · omega
              · exact Or.inl te.symm
  · refine w_aload_n rfl rfl (w_aload_n rfl rfl (w_getf rfl rfl (w_at hl) g7 (w_putfS rfl rfl hl rfl rfl (w_flt ((K 8 (by decide)).trans f8)) (w_aload_n rfl rfl (w_aload_n rfl rfl (w_getf rfl rfl (w_at hl) (w_fne g7 (by decide)) (w_virtual (dc := d) (M' := m_X12_byteAt) rfl (g_vir (n := 2) rfl rfl (by simp [p_cat, p_bd, Value.category]) rfl rfl (w_at hl) rfl) rfl rfl (Nat.le_refl _) (r_byte0 (q := p) (w_at hl) (w_fne ((K 3 (by decide)).trans f3) (by decide)) (w_fne ((K 4 (by decide)).trans f4) (by decide)) (a_ga (by decide) e68) hb hn (by omega) q1) ?_)))))))
    rintro v h2 ⟨rfl, rfl⟩
    refine w_istore_n rfl (by decide) (w_iload_n rfl p_lk_s1 (w_ifc_f rfl (t := 68) rfl (by decide) (w_aload_n rfl (w_s1 rfl rfl (by decide)) (w_ic 0 rfl rfl (w_putfS rfl rfl hl rfl rfl (w_flt (w_fne ((K 9 (by decide)).trans f9) (by decide))) (w_goto rfl (t := 310) rfl (w_return rfl rfl ⟨rfl, _, rfl, fun k hk => ?_, ⟨(w_fne (w_fat ((K 8 (by decide)).trans f8)) (by decide)), ⟨0, (w_fat (w_fne ((K 9 (by decide)).trans f9) (by decide))), by decide, t_R_0 q1⟩, ⟨x10, (w_fne (w_fne ((K 10 (by decide)).trans f10) (by decide)) (by decide)), fun e => absurd ((t_k_end q1).symm.trans e) (by decide)⟩, ⟨z11, (w_fne (w_fne ((K 11 (by decide)).trans f11) (by decide)) (by decide)), fun e => absurd ((t_k_end q1).symm.trans e) (by decide)⟩, p, (w_fne (w_fne g7 (by decide)) (by decide)), pn, Or.inl ?_⟩⟩)))))))
    · rw [List.getElem?_set_ne (by omega), List.getElem?_set_ne (by omega)]; exact K5 k hk
    · unfold t_e; rw [t_k_end q1]; rfl
end RT2

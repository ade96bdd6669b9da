section DW
variable {β : Type} {d : Nat} {M : p_M} {pc l : Nat} {ls : p_Ls} {st : List Value} {h : p_H} {Q : Option Value → p_H → Prop} {t : Nat → Option p_C} {s : d_S} {x y z : Int} {v : Value} {r : β}
theorem d_lw {k : Nat} (hl : p_lk k ls = some (.int (Int32.ofInt x))) : p_lk k ls = some (.int (Int32.ofInt (d_w x))) := by rw [d_oW]; exact hl
theorem dw_bp {c : Int} (hat : p_at pc M.2.2.2.2.1 = some (.bipush c, l)) (hv : (Int8.ofInt c).toInt32 = Int32.ofInt c) (hk : p_wp p_GT p_MT d M (pc + 2) ls (.int (Int32.ofInt c) :: st) h Q) : p_wp p_GT p_MT d M pc ls st h Q := p_wp.step hat (by simp only [p_step, hv]; rfl) hk
theorem dw_sp {c : Int} (hat : p_at pc M.2.2.2.2.1 = some (.sipush c, l)) (hv : (Int16.ofInt c).toInt32 = Int32.ofInt c) (hk : p_wp p_GT p_MT d M (pc + 3) ls (.int (Int32.ofInt c) :: st) h Q) : p_wp p_GT p_MT d M pc ls st h Q := p_wp.step hat (by simp only [p_step, hv]; rfl) hk
theorem dw_ic {c : Int} (hat : p_at pc M.2.2.2.2.1 = some (.iconst c, l)) (hk : p_wp p_GT p_MT d M (pc + 1) ls (.int (Int32.ofInt c) :: st) h Q) : p_wp p_GT p_MT d M pc ls st h Q := p_wp.step hat rfl hk
theorem dw_ldc {k c : Nat} {b : Int} (hat : p_at pc M.2.2.2.2.1 = some (.ldc k, l)) (hp : p_pk k 3 M.2.2.2.2.2.1 = some (c, b)) (hk : p_wp p_GT p_MT d M (pc + 2) ls (.int (Int32.ofInt b) :: st) h Q) : p_wp p_GT p_MT d M pc ls st h Q := p_wp.step hat (by simp only [p_step, p_cst, hp]; rfl) hk
theorem dw_ldcw {k c : Nat} {b : Int} (hat : p_at pc M.2.2.2.2.1 = some (.ldc_w k, l)) (hp : p_pk k 3 M.2.2.2.2.2.1 = some (c, b)) (hk : p_wp p_GT p_MT d M (pc + 3) ls (.int (Int32.ofInt b) :: st) h Q) : p_wp p_GT p_MT d M pc ls st h Q := p_wp.step hat (by simp only [p_step, p_cst, hp]; rfl) hk
theorem dw_ldc2 {k c : Nat} {b : Int} (hat : p_at pc M.2.2.2.2.1 = some (.ldc2_w k, l)) (hp : p_pk k 4 M.2.2.2.2.2.1 = some (c, b)) (hk : p_wp p_GT p_MT d M (pc + 3) ls (.long (Int64.ofInt b) :: st) h Q) : p_wp p_GT p_MT d M pc ls st h Q := p_wp.step hat (by simp only [p_step, p_cst, hp]; rfl) hk
theorem dw_lc {k : Fin 2} (hat : p_at pc M.2.2.2.2.1 = some (.lconst k, l)) (hx : Int64.ofNat k.val = Int64.ofInt x) (hk : p_wp p_GT p_MT d M (pc + 1) ls (.long (Int64.ofInt x) :: st) h Q) : p_wp p_GT p_MT d M pc ls st h Q := p_wp.step hat (by simp only [p_step, hx]; rfl) hk
theorem dw_null (hat : p_at pc M.2.2.2.2.1 = some (.aconst_null, l)) (hk : p_wp p_GT p_MT d M (pc + 1) ls (d_pv none :: st) h Q) : p_wp p_GT p_MT d M pc ls st h Q := p_wp.step hat rfl hk
theorem dw_iln {k : Fin 4} (hat : p_at pc M.2.2.2.2.1 = some (.iload_n k, l)) (hl : p_lk k.val ls = some (.int (Int32.ofInt x))) (hk : p_wp p_GT p_MT d M (pc + 1) ls (.int (Int32.ofInt x) :: st) h Q) : p_wp p_GT p_MT d M pc ls st h Q := p_wp.step hat (by simp only [p_step, p_ld, hl]; rfl) hk
theorem dw_il {k : Nat} (hat : p_at pc M.2.2.2.2.1 = some (.iload k, l)) (hl : p_lk k ls = some (.int (Int32.ofInt x))) (hk : p_wp p_GT p_MT d M (pc + 2) ls (.int (Int32.ofInt x) :: st) h Q) : p_wp p_GT p_MT d M pc ls st h Q := p_wp.step hat (by simp only [p_step, p_ld, hl]; rfl) hk
theorem dw_lln {k : Fin 4} (hat : p_at pc M.2.2.2.2.1 = some (.lload_n k, l)) (hl : p_lk k.val ls = some (.long (Int64.ofInt x))) (hk : p_wp p_GT p_MT d M (pc + 1) ls (.long (Int64.ofInt x) :: st) h Q) : p_wp p_GT p_MT d M pc ls st h Q := p_wp.step hat (by simp only [p_step, p_ld, hl]; rfl) hk
theorem dw_ll {k : Nat} (hat : p_at pc M.2.2.2.2.1 = some (.lload k, l)) (hl : p_lk k ls = some (.long (Int64.ofInt x))) (hk : p_wp p_GT p_MT d M (pc + 2) ls (.long (Int64.ofInt x) :: st) h Q) : p_wp p_GT p_MT d M pc ls st h Q := p_wp.step hat (by simp only [p_step, p_ld, hl]; rfl) hk
theorem dw_aln {k : Fin 4} {a : Nat} (hat : p_at pc M.2.2.2.2.1 = some (.aload_n k, l)) (hl : p_lk k.val ls = some (.ref a)) (hk : p_wp p_GT p_MT d M (pc + 1) ls (.ref a :: st) h Q) : p_wp p_GT p_MT d M pc ls st h Q := p_wp.step hat (by simp only [p_step, p_ld, hl]; rfl) hk
theorem dw_alno {k : Fin 4} {e : Option Nat} (hat : p_at pc M.2.2.2.2.1 = some (.aload_n k, l)) (hl : p_lk k.val ls = some (d_pv e)) (hk : p_wp p_GT p_MT d M (pc + 1) ls (d_pv e :: st) h Q) : p_wp p_GT p_MT d M pc ls st h Q := by
  cases e with
  | none => exact p_wp.step hat (by simp only [p_step, p_ld, hl, d_pv]; rfl) hk
  | some a => exact p_wp.step hat (by simp only [p_step, p_ld, hl, d_pv]; rfl) hk
theorem dw_al {k : Nat} {a : Nat} (hat : p_at pc M.2.2.2.2.1 = some (.aload k, l)) (hl : p_lk k ls = some (.ref a)) (hk : p_wp p_GT p_MT d M (pc + 2) ls (.ref a :: st) h Q) : p_wp p_GT p_MT d M pc ls st h Q := p_wp.step hat (by simp only [p_step, p_ld, hl]; rfl) hk
theorem dw_alo {k : Nat} {e : Option Nat} (hat : p_at pc M.2.2.2.2.1 = some (.aload k, l)) (hl : p_lk k ls = some (d_pv e)) (hk : p_wp p_GT p_MT d M (pc + 2) ls (d_pv e :: st) h Q) : p_wp p_GT p_MT d M pc ls st h Q := by
  cases e with
  | none => exact p_wp.step hat (by simp only [p_step, p_ld, hl, d_pv]; rfl) hk
  | some a => exact p_wp.step hat (by simp only [p_step, p_ld, hl, d_pv]; rfl) hk
theorem dw_isn {k : Fin 4} {w : Int32} (hat : p_at pc M.2.2.2.2.1 = some (.istore_n k, l)) (hn : Nat.blt k.val M.2.2.1 = true) (hk : p_wp p_GT p_MT d M (pc + 1) (p_s1 ls k.val (.int w)) st h Q) : p_wp p_GT p_MT d M pc ls (.int w :: st) h Q := p_wp.step hat (by simp only [p_step, p_sv, if_pos (show k.val < M.2.2.1 from Nat.le_of_ble_eq_true hn)]; rfl) hk
theorem dw_is {k : Nat} {w : Int32} (hat : p_at pc M.2.2.2.2.1 = some (.istore k, l)) (hn : Nat.blt k M.2.2.1 = true) (hk : p_wp p_GT p_MT d M (pc + 2) (p_s1 ls k (.int w)) st h Q) : p_wp p_GT p_MT d M pc ls (.int w :: st) h Q := p_wp.step hat (by simp only [p_step, p_sv, if_pos (show k < M.2.2.1 from Nat.le_of_ble_eq_true hn)]; rfl) hk
theorem dw_lsn {k : Fin 4} {w : Int64} (hat : p_at pc M.2.2.2.2.1 = some (.lstore_n k, l)) (hn : Nat.blt (k.val + 1) M.2.2.1 = true) (hk : p_wp p_GT p_MT d M (pc + 1) (p_s2 ls k.val (.long w)) st h Q) : p_wp p_GT p_MT d M pc ls (.long w :: st) h Q := p_wp.step hat (by simp only [p_step, p_sv, if_pos (show k.val + 1 < M.2.2.1 from Nat.le_of_ble_eq_true hn)]; rfl) hk
theorem dw_lls {k : Nat} {w : Int64} (hat : p_at pc M.2.2.2.2.1 = some (.lstore k, l)) (hn : Nat.blt (k + 1) M.2.2.1 = true) (hk : p_wp p_GT p_MT d M (pc + 2) (p_s2 ls k (.long w)) st h Q) : p_wp p_GT p_MT d M pc ls (.long w :: st) h Q := p_wp.step hat (by simp only [p_step, p_sv, if_pos (show k + 1 < M.2.2.1 from Nat.le_of_ble_eq_true hn)]; rfl) hk
theorem dw_asn {k : Fin 4} {a : Nat} (hat : p_at pc M.2.2.2.2.1 = some (.astore_n k, l)) (hn : Nat.blt k.val M.2.2.1 = true) (hk : p_wp p_GT p_MT d M (pc + 1) (p_s1 ls k.val (.ref a)) st h Q) : p_wp p_GT p_MT d M pc ls (.ref a :: st) h Q := p_wp.step hat (by simp only [p_step, p_sv, if_pos (show k.val < M.2.2.1 from Nat.le_of_ble_eq_true hn)]; rfl) hk
theorem dw_asno {k : Fin 4} {e : Option Nat} (hat : p_at pc M.2.2.2.2.1 = some (.astore_n k, l)) (hn : Nat.blt k.val M.2.2.1 = true) (hk : p_wp p_GT p_MT d M (pc + 1) (p_s1 ls k.val (d_pv e)) st h Q) : p_wp p_GT p_MT d M pc ls (d_pv e :: st) h Q := by
  have hlt : k.val < M.2.2.1 := Nat.le_of_ble_eq_true hn
  cases e with
  | none => exact p_wp.step hat (by simp only [p_step, p_sv, d_pv, if_pos hlt]; rfl) hk
  | some a => exact p_wp.step hat (by simp only [p_step, p_sv, d_pv, if_pos hlt]; rfl) hk
theorem dw_as {k : Nat} {a : Nat} (hat : p_at pc M.2.2.2.2.1 = some (.astore k, l)) (hn : Nat.blt k M.2.2.1 = true) (hk : p_wp p_GT p_MT d M (pc + 2) (p_s1 ls k (.ref a)) st h Q) : p_wp p_GT p_MT d M pc ls (.ref a :: st) h Q := p_wp.step hat (by simp only [p_step, p_sv, if_pos (show k < M.2.2.1 from Nat.le_of_ble_eq_true hn)]; rfl) hk
theorem dw_aso {k : Nat} {e : Option Nat} (hat : p_at pc M.2.2.2.2.1 = some (.astore k, l)) (hn : Nat.blt k M.2.2.1 = true) (hk : p_wp p_GT p_MT d M (pc + 2) (p_s1 ls k (d_pv e)) st h Q) : p_wp p_GT p_MT d M pc ls (d_pv e :: st) h Q := by
  have hlt : k < M.2.2.1 := Nat.le_of_ble_eq_true hn
  cases e with
  | none => exact p_wp.step hat (by simp only [p_step, p_sv, d_pv, if_pos hlt]; rfl) hk
  | some a => exact p_wp.step hat (by simp only [p_step, p_sv, d_pv, if_pos hlt]; rfl) hk
theorem dw_ii {k : Nat} {c : Int} (hat : p_at pc M.2.2.2.2.1 = some (.iinc k c, l)) (hl : p_lk k ls = some (.int (Int32.ofInt x))) (hn : Nat.blt k M.2.2.1 = true) (hk : p_wp p_GT p_MT d M (pc + 3) (p_s1 ls k (.int (Int32.ofInt (d_w (x + c))))) st h Q) : p_wp p_GT p_MT d M pc ls st h Q := by
  rw [d_oW, Int32.ofInt_add] at hk
  exact p_wp.step hat (by simp only [p_step, hl, p_sv, if_pos (show k < M.2.2.1 from Nat.le_of_ble_eq_true hn)]; rfl) hk
theorem dw_add (hat : p_at pc M.2.2.2.2.1 = some (.iadd, l)) (hk : p_wp p_GT p_MT d M (pc + 1) ls (.int (Int32.ofInt (x + y)) :: st) h Q) : p_wp p_GT p_MT d M pc ls (.int (Int32.ofInt y) :: .int (Int32.ofInt x) :: st) h Q := by
  rw [Int32.ofInt_add] at hk
  exact p_wp.step hat rfl hk
theorem dw_sub (hat : p_at pc M.2.2.2.2.1 = some (.isub, l)) (hk : p_wp p_GT p_MT d M (pc + 1) ls (.int (Int32.ofInt (x - y)) :: st) h Q) : p_wp p_GT p_MT d M pc ls (.int (Int32.ofInt y) :: .int (Int32.ofInt x) :: st) h Q := by
  rw [Int32.ofInt_sub] at hk
  exact p_wp.step hat rfl hk
theorem dw_mul (hat : p_at pc M.2.2.2.2.1 = some (.imul, l)) (hk : p_wp p_GT p_MT d M (pc + 1) ls (.int (Int32.ofInt (x * y)) :: st) h Q) : p_wp p_GT p_MT d M pc ls (.int (Int32.ofInt y) :: .int (Int32.ofInt x) :: st) h Q := by
  rw [Int32.ofInt_mul] at hk
  exact p_wp.step hat rfl hk
theorem dw_neg (hat : p_at pc M.2.2.2.2.1 = some (.ineg, l)) (hk : p_wp p_GT p_MT d M (pc + 1) ls (.int (Int32.ofInt (-x)) :: st) h Q) : p_wp p_GT p_MT d M pc ls (.int (Int32.ofInt x) :: st) h Q := by
  rw [Int32.ofInt_neg] at hk
  exact p_wp.step hat rfl hk
theorem dw_and (hat : p_at pc M.2.2.2.2.1 = some (.iand, l)) (hk : p_wp p_GT p_MT d M (pc + 1) ls (.int (Int32.ofInt (d_and x y)) :: st) h Q) : p_wp p_GT p_MT d M pc ls (.int (Int32.ofInt y) :: .int (Int32.ofInt x) :: st) h Q := by
  unfold d_and at hk
  rw [Int32.ofInt_toInt] at hk
  exact p_wp.step hat rfl hk
theorem dw_or (hat : p_at pc M.2.2.2.2.1 = some (.ior, l)) (hk : p_wp p_GT p_MT d M (pc + 1) ls (.int (Int32.ofInt (d_or x y)) :: st) h Q) : p_wp p_GT p_MT d M pc ls (.int (Int32.ofInt y) :: .int (Int32.ofInt x) :: st) h Q := by
  unfold d_or at hk
  rw [Int32.ofInt_toInt] at hk
  exact p_wp.step hat rfl hk
theorem dw_xor (hat : p_at pc M.2.2.2.2.1 = some (.ixor, l)) (hk : p_wp p_GT p_MT d M (pc + 1) ls (.int (Int32.ofInt (d_xor x y)) :: st) h Q) : p_wp p_GT p_MT d M pc ls (.int (Int32.ofInt y) :: .int (Int32.ofInt x) :: st) h Q := by
  unfold d_xor at hk
  rw [Int32.ofInt_toInt] at hk
  exact p_wp.step hat rfl hk
theorem dw_shl (hat : p_at pc M.2.2.2.2.1 = some (.ishl, l)) (hk : p_wp p_GT p_MT d M (pc + 1) ls (.int (Int32.ofInt (d_shl x y)) :: st) h Q) : p_wp p_GT p_MT d M pc ls (.int (Int32.ofInt y) :: .int (Int32.ofInt x) :: st) h Q := by
  unfold d_shl at hk
  rw [Int32.ofInt_toInt] at hk
  exact p_wp.step hat rfl hk
theorem dw_shr (hat : p_at pc M.2.2.2.2.1 = some (.ishr, l)) (hk : p_wp p_GT p_MT d M (pc + 1) ls (.int (Int32.ofInt (d_shr x y)) :: st) h Q) : p_wp p_GT p_MT d M pc ls (.int (Int32.ofInt y) :: .int (Int32.ofInt x) :: st) h Q := by
  unfold d_shr at hk
  rw [Int32.ofInt_toInt] at hk
  exact p_wp.step hat rfl hk
theorem dw_ushr (hat : p_at pc M.2.2.2.2.1 = some (.iushr, l)) (hk : p_wp p_GT p_MT d M (pc + 1) ls (.int (Int32.ofInt (d_ushr x y)) :: st) h Q) : p_wp p_GT p_MT d M pc ls (.int (Int32.ofInt y) :: .int (Int32.ofInt x) :: st) h Q := by
  unfold d_ushr at hk
  rw [Int32.ofInt_toInt] at hk
  exact p_wp.step hat rfl hk
theorem d_nz {y : Int} (hr : d_R y) (hy : ¬ y = 0) : ¬ Int32.ofInt y = 0 := by
  intro q
  have := congrArg Int32.toInt q
  rw [d_ti hr] at this
  exact hy this
theorem d_nzL {y : Int} (hr : d_RL y) (hy : ¬ y = 0) : ¬ Int64.ofInt y = 0 := by
  intro q
  have := congrArg Int64.toInt q
  rw [d_tiL hr] at this
  exact hy this
theorem dw_div (hat : p_at pc M.2.2.2.2.1 = some (.idiv, l)) (hr : d_R y) (hy : ¬ y = 0) (hk : p_wp p_GT p_MT d M (pc + 1) ls (.int (Int32.ofInt (d_div x y)) :: st) h Q) : p_wp p_GT p_MT d M pc ls (.int (Int32.ofInt y) :: .int (Int32.ofInt x) :: st) h Q := by
  unfold d_div at hk
  rw [Int32.ofInt_toInt] at hk
  exact p_wp.step hat (by simp only [p_step, if_neg (d_nz hr hy)]; rfl) hk
theorem dw_rem (hat : p_at pc M.2.2.2.2.1 = some (.irem, l)) (hr : d_R y) (hy : ¬ y = 0) (hk : p_wp p_GT p_MT d M (pc + 1) ls (.int (Int32.ofInt (d_rem x y)) :: st) h Q) : p_wp p_GT p_MT d M pc ls (.int (Int32.ofInt y) :: .int (Int32.ofInt x) :: st) h Q := by
  unfold d_rem at hk
  rw [Int32.ofInt_toInt] at hk
  exact p_wp.step hat (by simp only [p_step, if_neg (d_nz hr hy)]; rfl) hk
theorem dw_divL (hat : p_at pc M.2.2.2.2.1 = some (.ldiv, l)) (hr : d_RL y) (hy : ¬ y = 0) (hk : p_wp p_GT p_MT d M (pc + 1) ls (.long (Int64.ofInt (d_divL x y)) :: st) h Q) : p_wp p_GT p_MT d M pc ls (.long (Int64.ofInt y) :: .long (Int64.ofInt x) :: st) h Q := by
  unfold d_divL at hk
  rw [Int64.ofInt_toInt] at hk
  exact p_wp.step hat (by simp only [p_step, if_neg (d_nzL hr hy)]; rfl) hk
theorem dw_remL (hat : p_at pc M.2.2.2.2.1 = some (.lrem, l)) (hr : d_RL y) (hy : ¬ y = 0) (hk : p_wp p_GT p_MT d M (pc + 1) ls (.long (Int64.ofInt (d_remL x y)) :: st) h Q) : p_wp p_GT p_MT d M pc ls (.long (Int64.ofInt y) :: .long (Int64.ofInt x) :: st) h Q := by
  unfold d_remL at hk
  rw [Int64.ofInt_toInt] at hk
  exact p_wp.step hat (by simp only [p_step, if_neg (d_nzL hr hy)]; rfl) hk
theorem dw_addL (hat : p_at pc M.2.2.2.2.1 = some (.ladd, l)) (hk : p_wp p_GT p_MT d M (pc + 1) ls (.long (Int64.ofInt (x + y)) :: st) h Q) : p_wp p_GT p_MT d M pc ls (.long (Int64.ofInt y) :: .long (Int64.ofInt x) :: st) h Q := by
  rw [Int64.ofInt_add] at hk
  exact p_wp.step hat rfl hk
theorem dw_subL (hat : p_at pc M.2.2.2.2.1 = some (.lsub, l)) (hk : p_wp p_GT p_MT d M (pc + 1) ls (.long (Int64.ofInt (x - y)) :: st) h Q) : p_wp p_GT p_MT d M pc ls (.long (Int64.ofInt y) :: .long (Int64.ofInt x) :: st) h Q := by
  rw [Int64.ofInt_sub] at hk
  exact p_wp.step hat rfl hk
theorem dw_mulL (hat : p_at pc M.2.2.2.2.1 = some (.lmul, l)) (hk : p_wp p_GT p_MT d M (pc + 1) ls (.long (Int64.ofInt (x * y)) :: st) h Q) : p_wp p_GT p_MT d M pc ls (.long (Int64.ofInt y) :: .long (Int64.ofInt x) :: st) h Q := by
  rw [Int64.ofInt_mul] at hk
  exact p_wp.step hat rfl hk
theorem dw_negL (hat : p_at pc M.2.2.2.2.1 = some (.lneg, l)) (hk : p_wp p_GT p_MT d M (pc + 1) ls (.long (Int64.ofInt (-x)) :: st) h Q) : p_wp p_GT p_MT d M pc ls (.long (Int64.ofInt x) :: st) h Q := by
  rw [Int64.ofInt_neg] at hk
  exact p_wp.step hat rfl hk
theorem dw_i2l (hat : p_at pc M.2.2.2.2.1 = some (.i2l, l)) (hr : d_R x) (hk : p_wp p_GT p_MT d M (pc + 1) ls (.long (Int64.ofInt x) :: st) h Q) : p_wp p_GT p_MT d M pc ls (.int (Int32.ofInt x) :: st) h Q := by
  have e : (Int32.ofInt x).toInt64 = Int64.ofInt x := by
    apply Int64.toInt_inj.mp
    rw [Int32.toInt_toInt64, d_ti hr, d_tiL (d_RL_R hr)]
  exact p_wp.step hat (by simp only [p_step, e]; rfl) hk
theorem dw_l2i (hat : p_at pc M.2.2.2.2.1 = some (.l2i, l)) (hk : p_wp p_GT p_MT d M (pc + 1) ls (.int (Int32.ofInt x) :: st) h Q) : p_wp p_GT p_MT d M pc ls (.long (Int64.ofInt x) :: st) h Q := by
  have e : (Int64.ofInt x).toInt32 = Int32.ofInt x := by
    apply Int32.toInt_inj.mp
    simp
  exact p_wp.step hat (by simp only [p_step, e]; rfl) hk
theorem dw_w1 (hk : p_wp p_GT p_MT d M pc ls (.int (Int32.ofInt (d_w x)) :: st) h Q) : p_wp p_GT p_MT d M pc ls (.int (Int32.ofInt x) :: st) h Q := by
  rw [d_oW] at hk
  exact hk
theorem dw_wL1 (hk : p_wp p_GT p_MT d M pc ls (.long (Int64.ofInt (d_W x)) :: st) h Q) : p_wp p_GT p_MT d M pc ls (.long (Int64.ofInt x) :: st) h Q := by
  rw [d_oWL] at hk
  exact hk
theorem dw_w2 {v1 : Value} (hk : p_wp p_GT p_MT d M pc ls (v1 :: .int (Int32.ofInt (d_w x)) :: st) h Q) : p_wp p_GT p_MT d M pc ls (v1 :: .int (Int32.ofInt x) :: st) h Q := by
  rw [d_oW] at hk
  exact hk
theorem dw_wL2 {v1 : Value} (hk : p_wp p_GT p_MT d M pc ls (v1 :: .long (Int64.ofInt (d_W x)) :: st) h Q) : p_wp p_GT p_MT d M pc ls (v1 :: .long (Int64.ofInt x) :: st) h Q := by
  rw [d_oWL] at hk
  exact hk
theorem dw_w3 {v1 v2 : Value} (hk : p_wp p_GT p_MT d M pc ls (v1 :: v2 :: .int (Int32.ofInt (d_w x)) :: st) h Q) : p_wp p_GT p_MT d M pc ls (v1 :: v2 :: .int (Int32.ofInt x) :: st) h Q := by
  rw [d_oW] at hk
  exact hk
theorem dw_wL3 {v1 v2 : Value} (hk : p_wp p_GT p_MT d M pc ls (v1 :: v2 :: .long (Int64.ofInt (d_W x)) :: st) h Q) : p_wp p_GT p_MT d M pc ls (v1 :: v2 :: .long (Int64.ofInt x) :: st) h Q := by
  rw [d_oWL] at hk
  exact hk
theorem dw_w4 {v1 v2 v3 : Value} (hk : p_wp p_GT p_MT d M pc ls (v1 :: v2 :: v3 :: .int (Int32.ofInt (d_w x)) :: st) h Q) : p_wp p_GT p_MT d M pc ls (v1 :: v2 :: v3 :: .int (Int32.ofInt x) :: st) h Q := by
  rw [d_oW] at hk
  exact hk
theorem dw_wL4 {v1 v2 v3 : Value} (hk : p_wp p_GT p_MT d M pc ls (v1 :: v2 :: v3 :: .long (Int64.ofInt (d_W x)) :: st) h Q) : p_wp p_GT p_MT d M pc ls (v1 :: v2 :: v3 :: .long (Int64.ofInt x) :: st) h Q := by
  rw [d_oWL] at hk
  exact hk
theorem dw_w5 {v1 v2 v3 v4 : Value} (hk : p_wp p_GT p_MT d M pc ls (v1 :: v2 :: v3 :: v4 :: .int (Int32.ofInt (d_w x)) :: st) h Q) : p_wp p_GT p_MT d M pc ls (v1 :: v2 :: v3 :: v4 :: .int (Int32.ofInt x) :: st) h Q := by
  rw [d_oW] at hk
  exact hk
theorem dw_wL5 {v1 v2 v3 v4 : Value} (hk : p_wp p_GT p_MT d M pc ls (v1 :: v2 :: v3 :: v4 :: .long (Int64.ofInt (d_W x)) :: st) h Q) : p_wp p_GT p_MT d M pc ls (v1 :: v2 :: v3 :: v4 :: .long (Int64.ofInt x) :: st) h Q := by
  rw [d_oWL] at hk
  exact hk
theorem dw_w6 {v1 v2 v3 v4 v5 : Value} (hk : p_wp p_GT p_MT d M pc ls (v1 :: v2 :: v3 :: v4 :: v5 :: .int (Int32.ofInt (d_w x)) :: st) h Q) : p_wp p_GT p_MT d M pc ls (v1 :: v2 :: v3 :: v4 :: v5 :: .int (Int32.ofInt x) :: st) h Q := by
  rw [d_oW] at hk
  exact hk
theorem dw_wL6 {v1 v2 v3 v4 v5 : Value} (hk : p_wp p_GT p_MT d M pc ls (v1 :: v2 :: v3 :: v4 :: v5 :: .long (Int64.ofInt (d_W x)) :: st) h Q) : p_wp p_GT p_MT d M pc ls (v1 :: v2 :: v3 :: v4 :: v5 :: .long (Int64.ofInt x) :: st) h Q := by
  rw [d_oWL] at hk
  exact hk
theorem dw_w7 {v1 v2 v3 v4 v5 v6 : Value} (hk : p_wp p_GT p_MT d M pc ls (v1 :: v2 :: v3 :: v4 :: v5 :: v6 :: .int (Int32.ofInt (d_w x)) :: st) h Q) : p_wp p_GT p_MT d M pc ls (v1 :: v2 :: v3 :: v4 :: v5 :: v6 :: .int (Int32.ofInt x) :: st) h Q := by
  rw [d_oW] at hk
  exact hk
theorem dw_wL7 {v1 v2 v3 v4 v5 v6 : Value} (hk : p_wp p_GT p_MT d M pc ls (v1 :: v2 :: v3 :: v4 :: v5 :: v6 :: .long (Int64.ofInt (d_W x)) :: st) h Q) : p_wp p_GT p_MT d M pc ls (v1 :: v2 :: v3 :: v4 :: v5 :: v6 :: .long (Int64.ofInt x) :: st) h Q := by
  rw [d_oWL] at hk
  exact hk
theorem dw_go {off : Int} {u : Nat} (hat : p_at pc M.2.2.2.2.1 = some (.goto off, l)) (ht : p_tg pc off = some u) (hk : p_wp p_GT p_MT d M u ls st h Q) : p_wp p_GT p_MT d M pc ls st h Q := p_wp.step hat (by simp only [p_step, p_jm, ht]; rfl) hk
theorem dw_pop {w : Int32} (hat : p_at pc M.2.2.2.2.1 = some (.pop, l)) (hk : p_wp p_GT p_MT d M (pc + 1) ls st h Q) : p_wp p_GT p_MT d M pc ls (.int w :: st) h Q := p_wp.step hat rfl hk
theorem dw_dupi {w : Int32} (hat : p_at pc M.2.2.2.2.1 = some (.dup, l)) (hk : p_wp p_GT p_MT d M (pc + 1) ls (.int w :: .int w :: st) h Q) : p_wp p_GT p_MT d M pc ls (.int w :: st) h Q := p_wp.step hat rfl hk
theorem dw_dupr {a : Nat} (hat : p_at pc M.2.2.2.2.1 = some (.dup, l)) (hk : p_wp p_GT p_MT d M (pc + 1) ls (.ref a :: .ref a :: st) h Q) : p_wp p_GT p_MT d M pc ls (.ref a :: st) h Q := p_wp.step hat rfl hk
theorem dw_dup2 {a : Nat} {w : Int32} (hat : p_at pc M.2.2.2.2.1 = some (.dup2, l)) (hk : p_wp p_GT p_MT d M (pc + 1) ls (.int w :: .ref a :: .int w :: .ref a :: st) h Q) : p_wp p_GT p_MT d M pc ls (.int w :: .ref a :: st) h Q := p_wp.step hat rfl hk
theorem d_br_t {c : ClassFile.Cond} {off : Int} {u : Nat} {x y : Int32} (hat : p_at pc M.2.2.2.2.1 = some (.if_icmp c off, l)) (ht : p_tg pc off = some u) (hc : p_cd c x y = true) (hk : p_wp p_GT p_MT d M u ls st h Q) : p_wp p_GT p_MT d M pc ls (.int y :: .int x :: st) h Q :=
  p_wp.step hat (by simp only [p_step, p_br, ht, hc, if_true]; rfl) hk
theorem d_br_f {c : ClassFile.Cond} {off : Int} {u : Nat} {x y : Int32} (hat : p_at pc M.2.2.2.2.1 = some (.if_icmp c off, l)) (ht : p_tg pc off = some u) (hc : p_cd c x y = false) (hk : p_wp p_GT p_MT d M (pc + 3) ls st h Q) : p_wp p_GT p_MT d M pc ls (.int y :: .int x :: st) h Q :=
  p_wp.step hat (by simp only [p_step, p_br, ht, hc, Bool.false_eq_true, if_false]; rfl) hk
theorem d_bz_t {c : ClassFile.Cond} {off : Int} {u : Nat} {x : Int32} (hat : p_at pc M.2.2.2.2.1 = some (.ifCond c off, l)) (ht : p_tg pc off = some u) (hc : p_cd c x 0 = true) (hk : p_wp p_GT p_MT d M u ls st h Q) : p_wp p_GT p_MT d M pc ls (.int x :: st) h Q :=
  p_wp.step hat (by simp only [p_step, p_br, ht, hc, if_true]; rfl) hk
theorem d_bz_f {c : ClassFile.Cond} {off : Int} {u : Nat} {x : Int32} (hat : p_at pc M.2.2.2.2.1 = some (.ifCond c off, l)) (ht : p_tg pc off = some u) (hc : p_cd c x 0 = false) (hk : p_wp p_GT p_MT d M (pc + 3) ls st h Q) : p_wp p_GT p_MT d M pc ls (.int x :: st) h Q :=
  p_wp.step hat (by simp only [p_step, p_br, ht, hc, Bool.false_eq_true, if_false]; rfl) hk
theorem d_cd_lt (hx : d_R x) (hy : d_R y) : p_cd .lt (Int32.ofInt x) (Int32.ofInt y) = decide (x < y) := by
  simp only [p_cd]; apply decide_eq_decide.mpr; rw [Int32.lt_iff_toInt_lt, d_ti hx, d_ti hy]
theorem d_cd_gt (hx : d_R x) (hy : d_R y) : p_cd .gt (Int32.ofInt x) (Int32.ofInt y) = decide (y < x) := by
  simp only [p_cd]; apply decide_eq_decide.mpr; rw [Int32.lt_iff_toInt_lt, d_ti hx, d_ti hy]
theorem d_cd_ge (hx : d_R x) (hy : d_R y) : p_cd .ge (Int32.ofInt x) (Int32.ofInt y) = decide (¬ x < y) := by
  simp only [p_cd]; apply decide_eq_decide.mpr; rw [Int32.le_iff_toInt_le, d_ti hx, d_ti hy]; omega
theorem d_cd_le (hx : d_R x) (hy : d_R y) : p_cd .le (Int32.ofInt x) (Int32.ofInt y) = decide (¬ y < x) := by
  simp only [p_cd]; apply decide_eq_decide.mpr; rw [Int32.le_iff_toInt_le, d_ti hx, d_ti hy]; omega
theorem d_inj (hx : d_R x) (hy : d_R y) : Int32.ofInt x = Int32.ofInt y ↔ x = y := by
  constructor
  · intro q
    have := congrArg Int32.toInt q
    rw [d_ti hx, d_ti hy] at this
    exact this
  · intro q; rw [q]
theorem d_cd_eq (hx : d_R x) (hy : d_R y) : p_cd .eq (Int32.ofInt x) (Int32.ofInt y) = decide (x = y) := by
  simp only [p_cd]; exact decide_eq_decide.mpr (d_inj hx hy)
theorem d_cd_ne (hx : d_R x) (hy : d_R y) : p_cd .ne (Int32.ofInt x) (Int32.ofInt y) = decide (¬ x = y) := by
  simp only [p_cd]; exact decide_eq_decide.mpr (not_congr (d_inj hx hy))
theorem d_R0 : d_R 0 := ⟨by decide, by decide⟩
theorem d_00 : (0 : Int32) = Int32.ofInt 0 := rfl
theorem dw_lt_y {off : Int} {u : Nat} (hat : p_at pc M.2.2.2.2.1 = some (.if_icmp .lt off, l)) (ht : p_tg pc off = some u) (hx : d_R x) (hy : d_R y) (q : x < y) (hk : p_wp p_GT p_MT d M u ls st h Q) : p_wp p_GT p_MT d M pc ls (.int (Int32.ofInt y) :: .int (Int32.ofInt x) :: st) h Q := d_br_t hat ht (by rw [d_cd_lt hx hy]; exact decide_eq_true q) hk
theorem dw_zlt_y {off : Int} {u : Nat} (hat : p_at pc M.2.2.2.2.1 = some (.ifCond .lt off, l)) (ht : p_tg pc off = some u) (hx : d_R x) (q : x < 0) (hk : p_wp p_GT p_MT d M u ls st h Q) : p_wp p_GT p_MT d M pc ls (.int (Int32.ofInt x) :: st) h Q := d_bz_t hat ht (by rw [d_00, d_cd_lt hx d_R0]; exact decide_eq_true q) hk
theorem dw_lt_n {off : Int} {u : Nat} (hat : p_at pc M.2.2.2.2.1 = some (.if_icmp .lt off, l)) (ht : p_tg pc off = some u) (hx : d_R x) (hy : d_R y) (q : ¬ x < y) (hk : p_wp p_GT p_MT d M (pc + 3) ls st h Q) : p_wp p_GT p_MT d M pc ls (.int (Int32.ofInt y) :: .int (Int32.ofInt x) :: st) h Q := d_br_f hat ht (by rw [d_cd_lt hx hy]; exact decide_eq_false q) hk
theorem dw_zlt_n {off : Int} {u : Nat} (hat : p_at pc M.2.2.2.2.1 = some (.ifCond .lt off, l)) (ht : p_tg pc off = some u) (hx : d_R x) (q : ¬ x < 0) (hk : p_wp p_GT p_MT d M (pc + 3) ls st h Q) : p_wp p_GT p_MT d M pc ls (.int (Int32.ofInt x) :: st) h Q := d_bz_f hat ht (by rw [d_00, d_cd_lt hx d_R0]; exact decide_eq_false q) hk
theorem dw_ge_y {off : Int} {u : Nat} (hat : p_at pc M.2.2.2.2.1 = some (.if_icmp .ge off, l)) (ht : p_tg pc off = some u) (hx : d_R x) (hy : d_R y) (q : x < y) (hk : p_wp p_GT p_MT d M (pc + 3) ls st h Q) : p_wp p_GT p_MT d M pc ls (.int (Int32.ofInt y) :: .int (Int32.ofInt x) :: st) h Q := d_br_f hat ht (by rw [d_cd_ge hx hy]; exact decide_eq_false (fun k => k q)) hk
theorem dw_zge_y {off : Int} {u : Nat} (hat : p_at pc M.2.2.2.2.1 = some (.ifCond .ge off, l)) (ht : p_tg pc off = some u) (hx : d_R x) (q : x < 0) (hk : p_wp p_GT p_MT d M (pc + 3) ls st h Q) : p_wp p_GT p_MT d M pc ls (.int (Int32.ofInt x) :: st) h Q := d_bz_f hat ht (by rw [d_00, d_cd_ge hx d_R0]; exact decide_eq_false (fun k => k q)) hk
theorem dw_ge_n {off : Int} {u : Nat} (hat : p_at pc M.2.2.2.2.1 = some (.if_icmp .ge off, l)) (ht : p_tg pc off = some u) (hx : d_R x) (hy : d_R y) (q : ¬ x < y) (hk : p_wp p_GT p_MT d M u ls st h Q) : p_wp p_GT p_MT d M pc ls (.int (Int32.ofInt y) :: .int (Int32.ofInt x) :: st) h Q := d_br_t hat ht (by rw [d_cd_ge hx hy]; exact decide_eq_true q) hk
theorem dw_zge_n {off : Int} {u : Nat} (hat : p_at pc M.2.2.2.2.1 = some (.ifCond .ge off, l)) (ht : p_tg pc off = some u) (hx : d_R x) (q : ¬ x < 0) (hk : p_wp p_GT p_MT d M u ls st h Q) : p_wp p_GT p_MT d M pc ls (.int (Int32.ofInt x) :: st) h Q := d_bz_t hat ht (by rw [d_00, d_cd_ge hx d_R0]; exact decide_eq_true q) hk
theorem dw_gt_y {off : Int} {u : Nat} (hat : p_at pc M.2.2.2.2.1 = some (.if_icmp .gt off, l)) (ht : p_tg pc off = some u) (hx : d_R x) (hy : d_R y) (q : y < x) (hk : p_wp p_GT p_MT d M u ls st h Q) : p_wp p_GT p_MT d M pc ls (.int (Int32.ofInt y) :: .int (Int32.ofInt x) :: st) h Q := d_br_t hat ht (by rw [d_cd_gt hx hy]; exact decide_eq_true q) hk
theorem dw_zgt_y {off : Int} {u : Nat} (hat : p_at pc M.2.2.2.2.1 = some (.ifCond .gt off, l)) (ht : p_tg pc off = some u) (hx : d_R x) (q : 0 < x) (hk : p_wp p_GT p_MT d M u ls st h Q) : p_wp p_GT p_MT d M pc ls (.int (Int32.ofInt x) :: st) h Q := d_bz_t hat ht (by rw [d_00, d_cd_gt hx d_R0]; exact decide_eq_true q) hk
theorem dw_gt_n {off : Int} {u : Nat} (hat : p_at pc M.2.2.2.2.1 = some (.if_icmp .gt off, l)) (ht : p_tg pc off = some u) (hx : d_R x) (hy : d_R y) (q : ¬ y < x) (hk : p_wp p_GT p_MT d M (pc + 3) ls st h Q) : p_wp p_GT p_MT d M pc ls (.int (Int32.ofInt y) :: .int (Int32.ofInt x) :: st) h Q := d_br_f hat ht (by rw [d_cd_gt hx hy]; exact decide_eq_false q) hk
theorem dw_zgt_n {off : Int} {u : Nat} (hat : p_at pc M.2.2.2.2.1 = some (.ifCond .gt off, l)) (ht : p_tg pc off = some u) (hx : d_R x) (q : ¬ 0 < x) (hk : p_wp p_GT p_MT d M (pc + 3) ls st h Q) : p_wp p_GT p_MT d M pc ls (.int (Int32.ofInt x) :: st) h Q := d_bz_f hat ht (by rw [d_00, d_cd_gt hx d_R0]; exact decide_eq_false q) hk
theorem dw_le_y {off : Int} {u : Nat} (hat : p_at pc M.2.2.2.2.1 = some (.if_icmp .le off, l)) (ht : p_tg pc off = some u) (hx : d_R x) (hy : d_R y) (q : y < x) (hk : p_wp p_GT p_MT d M (pc + 3) ls st h Q) : p_wp p_GT p_MT d M pc ls (.int (Int32.ofInt y) :: .int (Int32.ofInt x) :: st) h Q := d_br_f hat ht (by rw [d_cd_le hx hy]; exact decide_eq_false (fun k => k q)) hk
theorem dw_zle_y {off : Int} {u : Nat} (hat : p_at pc M.2.2.2.2.1 = some (.ifCond .le off, l)) (ht : p_tg pc off = some u) (hx : d_R x) (q : 0 < x) (hk : p_wp p_GT p_MT d M (pc + 3) ls st h Q) : p_wp p_GT p_MT d M pc ls (.int (Int32.ofInt x) :: st) h Q := d_bz_f hat ht (by rw [d_00, d_cd_le hx d_R0]; exact decide_eq_false (fun k => k q)) hk
theorem dw_le_n {off : Int} {u : Nat} (hat : p_at pc M.2.2.2.2.1 = some (.if_icmp .le off, l)) (ht : p_tg pc off = some u) (hx : d_R x) (hy : d_R y) (q : ¬ y < x) (hk : p_wp p_GT p_MT d M u ls st h Q) : p_wp p_GT p_MT d M pc ls (.int (Int32.ofInt y) :: .int (Int32.ofInt x) :: st) h Q := d_br_t hat ht (by rw [d_cd_le hx hy]; exact decide_eq_true q) hk
theorem dw_zle_n {off : Int} {u : Nat} (hat : p_at pc M.2.2.2.2.1 = some (.ifCond .le off, l)) (ht : p_tg pc off = some u) (hx : d_R x) (q : ¬ 0 < x) (hk : p_wp p_GT p_MT d M u ls st h Q) : p_wp p_GT p_MT d M pc ls (.int (Int32.ofInt x) :: st) h Q := d_bz_t hat ht (by rw [d_00, d_cd_le hx d_R0]; exact decide_eq_true q) hk
theorem dw_eq_y {off : Int} {u : Nat} (hat : p_at pc M.2.2.2.2.1 = some (.if_icmp .eq off, l)) (ht : p_tg pc off = some u) (hx : d_R x) (hy : d_R y) (q : x = y) (hk : p_wp p_GT p_MT d M u ls st h Q) : p_wp p_GT p_MT d M pc ls (.int (Int32.ofInt y) :: .int (Int32.ofInt x) :: st) h Q := d_br_t hat ht (by rw [d_cd_eq hx hy]; exact decide_eq_true q) hk
theorem dw_zeq_y {off : Int} {u : Nat} (hat : p_at pc M.2.2.2.2.1 = some (.ifCond .eq off, l)) (ht : p_tg pc off = some u) (hx : d_R x) (q : x = 0) (hk : p_wp p_GT p_MT d M u ls st h Q) : p_wp p_GT p_MT d M pc ls (.int (Int32.ofInt x) :: st) h Q := d_bz_t hat ht (by rw [d_00, d_cd_eq hx d_R0]; exact decide_eq_true q) hk
theorem dw_eq_n {off : Int} {u : Nat} (hat : p_at pc M.2.2.2.2.1 = some (.if_icmp .eq off, l)) (ht : p_tg pc off = some u) (hx : d_R x) (hy : d_R y) (q : ¬ x = y) (hk : p_wp p_GT p_MT d M (pc + 3) ls st h Q) : p_wp p_GT p_MT d M pc ls (.int (Int32.ofInt y) :: .int (Int32.ofInt x) :: st) h Q := d_br_f hat ht (by rw [d_cd_eq hx hy]; exact decide_eq_false q) hk
theorem dw_zeq_n {off : Int} {u : Nat} (hat : p_at pc M.2.2.2.2.1 = some (.ifCond .eq off, l)) (ht : p_tg pc off = some u) (hx : d_R x) (q : ¬ x = 0) (hk : p_wp p_GT p_MT d M (pc + 3) ls st h Q) : p_wp p_GT p_MT d M pc ls (.int (Int32.ofInt x) :: st) h Q := d_bz_f hat ht (by rw [d_00, d_cd_eq hx d_R0]; exact decide_eq_false q) hk
theorem dw_ne_y {off : Int} {u : Nat} (hat : p_at pc M.2.2.2.2.1 = some (.if_icmp .ne off, l)) (ht : p_tg pc off = some u) (hx : d_R x) (hy : d_R y) (q : x = y) (hk : p_wp p_GT p_MT d M (pc + 3) ls st h Q) : p_wp p_GT p_MT d M pc ls (.int (Int32.ofInt y) :: .int (Int32.ofInt x) :: st) h Q := d_br_f hat ht (by rw [d_cd_ne hx hy]; exact decide_eq_false (fun k => k q)) hk
theorem dw_zne_y {off : Int} {u : Nat} (hat : p_at pc M.2.2.2.2.1 = some (.ifCond .ne off, l)) (ht : p_tg pc off = some u) (hx : d_R x) (q : x = 0) (hk : p_wp p_GT p_MT d M (pc + 3) ls st h Q) : p_wp p_GT p_MT d M pc ls (.int (Int32.ofInt x) :: st) h Q := d_bz_f hat ht (by rw [d_00, d_cd_ne hx d_R0]; exact decide_eq_false (fun k => k q)) hk
theorem dw_ne_n {off : Int} {u : Nat} (hat : p_at pc M.2.2.2.2.1 = some (.if_icmp .ne off, l)) (ht : p_tg pc off = some u) (hx : d_R x) (hy : d_R y) (q : ¬ x = y) (hk : p_wp p_GT p_MT d M u ls st h Q) : p_wp p_GT p_MT d M pc ls (.int (Int32.ofInt y) :: .int (Int32.ofInt x) :: st) h Q := d_br_t hat ht (by rw [d_cd_ne hx hy]; exact decide_eq_true q) hk
theorem dw_zne_n {off : Int} {u : Nat} (hat : p_at pc M.2.2.2.2.1 = some (.ifCond .ne off, l)) (ht : p_tg pc off = some u) (hx : d_R x) (q : ¬ x = 0) (hk : p_wp p_GT p_MT d M u ls st h Q) : p_wp p_GT p_MT d M pc ls (.int (Int32.ofInt x) :: st) h Q := d_bz_t hat ht (by rw [d_00, d_cd_ne hx d_R0]; exact decide_eq_true q) hk
theorem d_lc_1 (hx : d_RL x) (hy : d_RL y) (q : y < x) : lg_cmp (Int64.ofInt x) (Int64.ofInt y) = Int32.ofInt 1 := by
  unfold lg_cmp; rw [if_pos (by show Int64.ofInt y < Int64.ofInt x; rw [Int64.lt_iff_toInt_lt, d_tiL hx, d_tiL hy]; exact q)]; rfl
theorem d_lc_0 (q : x = y) : lg_cmp (Int64.ofInt x) (Int64.ofInt y) = Int32.ofInt 0 := by
  subst q
  unfold lg_cmp; rw [if_neg (by show ¬ Int64.ofInt x < Int64.ofInt x; exact Int64.lt_irrefl), if_pos rfl]; rfl
theorem d_lc_m (hx : d_RL x) (hy : d_RL y) (q : x < y) : lg_cmp (Int64.ofInt x) (Int64.ofInt y) = Int32.ofInt (-1) := by
  unfold lg_cmp
  rw [if_neg (by show ¬ Int64.ofInt y < Int64.ofInt x; rw [Int64.lt_iff_toInt_lt, d_tiL hx, d_tiL hy]; omega), if_neg (by
    intro e
    have := congrArg Int64.toInt e
    rw [d_tiL hx, d_tiL hy] at this
    omega)]; rfl
theorem d_lc (hx : d_RL x) (hy : d_RL y) : ∃ z : Int, d_R z ∧ lg_cmp (Int64.ofInt x) (Int64.ofInt y) = Int32.ofInt z ∧ (z < 0 ↔ x < y) ∧ (0 < z ↔ y < x) ∧ (z = 0 ↔ x = y) := by
  by_cases q : y < x
  · exact ⟨1, ⟨by decide, by decide⟩, d_lc_1 hx hy q, by omega, by omega, by omega⟩
  · by_cases q2 : x = y
    · exact ⟨0, ⟨by decide, by decide⟩, d_lc_0 q2, by omega, by omega, by omega⟩
    · exact ⟨-1, ⟨by decide, by decide⟩, d_lc_m hx hy (by omega), by omega, by omega, by omega⟩
theorem d_lcs {w : Int32} {x y : Int64} (hat : p_at pc M.2.2.2.2.1 = some (.lcmp, l)) (hw : lg_cmp x y = w) (hk : p_wp p_GT p_MT d M (pc + 1) ls (.int w :: st) h Q) : p_wp p_GT p_MT d M pc ls (.long y :: .long x :: st) h Q := by
  subst hw
  exact p_wp.step hat rfl hk
theorem dw_Llt_y {off : Int} {u l2 : Nat} (hat : p_at pc M.2.2.2.2.1 = some (.lcmp, l)) (hat2 : p_at (pc + 1) M.2.2.2.2.1 = some (.ifCond .lt off, l2)) (ht : p_tg (pc + 1) off = some u) (hx : d_RL x) (hy : d_RL y) (q : x < y) (hk : p_wp p_GT p_MT d M u ls st h Q) : p_wp p_GT p_MT d M pc ls (.long (Int64.ofInt y) :: .long (Int64.ofInt x) :: st) h Q := by
  obtain ⟨z, hz, e, z1, z2, z3⟩ := d_lc hx hy
  exact d_lcs hat e (dw_zlt_y hat2 ht hz (by omega) hk)
theorem dw_Llt_n {off : Int} {u l2 : Nat} (hat : p_at pc M.2.2.2.2.1 = some (.lcmp, l)) (hat2 : p_at (pc + 1) M.2.2.2.2.1 = some (.ifCond .lt off, l2)) (ht : p_tg (pc + 1) off = some u) (hx : d_RL x) (hy : d_RL y) (q : ¬ x < y) (hk : p_wp p_GT p_MT d M (pc + 1 + 3) ls st h Q) : p_wp p_GT p_MT d M pc ls (.long (Int64.ofInt y) :: .long (Int64.ofInt x) :: st) h Q := by
  obtain ⟨z, hz, e, z1, z2, z3⟩ := d_lc hx hy
  exact d_lcs hat e (dw_zlt_n hat2 ht hz (by omega) hk)
theorem dw_Lge_y {off : Int} {u l2 : Nat} (hat : p_at pc M.2.2.2.2.1 = some (.lcmp, l)) (hat2 : p_at (pc + 1) M.2.2.2.2.1 = some (.ifCond .ge off, l2)) (ht : p_tg (pc + 1) off = some u) (hx : d_RL x) (hy : d_RL y) (q : x < y) (hk : p_wp p_GT p_MT d M (pc + 1 + 3) ls st h Q) : p_wp p_GT p_MT d M pc ls (.long (Int64.ofInt y) :: .long (Int64.ofInt x) :: st) h Q := by
  obtain ⟨z, hz, e, z1, z2, z3⟩ := d_lc hx hy
  exact d_lcs hat e (dw_zge_y hat2 ht hz (by omega) hk)
theorem dw_Lge_n {off : Int} {u l2 : Nat} (hat : p_at pc M.2.2.2.2.1 = some (.lcmp, l)) (hat2 : p_at (pc + 1) M.2.2.2.2.1 = some (.ifCond .ge off, l2)) (ht : p_tg (pc + 1) off = some u) (hx : d_RL x) (hy : d_RL y) (q : ¬ x < y) (hk : p_wp p_GT p_MT d M u ls st h Q) : p_wp p_GT p_MT d M pc ls (.long (Int64.ofInt y) :: .long (Int64.ofInt x) :: st) h Q := by
  obtain ⟨z, hz, e, z1, z2, z3⟩ := d_lc hx hy
  exact d_lcs hat e (dw_zge_n hat2 ht hz (by omega) hk)
theorem dw_Lgt_y {off : Int} {u l2 : Nat} (hat : p_at pc M.2.2.2.2.1 = some (.lcmp, l)) (hat2 : p_at (pc + 1) M.2.2.2.2.1 = some (.ifCond .gt off, l2)) (ht : p_tg (pc + 1) off = some u) (hx : d_RL x) (hy : d_RL y) (q : y < x) (hk : p_wp p_GT p_MT d M u ls st h Q) : p_wp p_GT p_MT d M pc ls (.long (Int64.ofInt y) :: .long (Int64.ofInt x) :: st) h Q := by
  obtain ⟨z, hz, e, z1, z2, z3⟩ := d_lc hx hy
  exact d_lcs hat e (dw_zgt_y hat2 ht hz (by omega) hk)
theorem dw_Lgt_n {off : Int} {u l2 : Nat} (hat : p_at pc M.2.2.2.2.1 = some (.lcmp, l)) (hat2 : p_at (pc + 1) M.2.2.2.2.1 = some (.ifCond .gt off, l2)) (ht : p_tg (pc + 1) off = some u) (hx : d_RL x) (hy : d_RL y) (q : ¬ y < x) (hk : p_wp p_GT p_MT d M (pc + 1 + 3) ls st h Q) : p_wp p_GT p_MT d M pc ls (.long (Int64.ofInt y) :: .long (Int64.ofInt x) :: st) h Q := by
  obtain ⟨z, hz, e, z1, z2, z3⟩ := d_lc hx hy
  exact d_lcs hat e (dw_zgt_n hat2 ht hz (by omega) hk)
theorem dw_Lle_y {off : Int} {u l2 : Nat} (hat : p_at pc M.2.2.2.2.1 = some (.lcmp, l)) (hat2 : p_at (pc + 1) M.2.2.2.2.1 = some (.ifCond .le off, l2)) (ht : p_tg (pc + 1) off = some u) (hx : d_RL x) (hy : d_RL y) (q : y < x) (hk : p_wp p_GT p_MT d M (pc + 1 + 3) ls st h Q) : p_wp p_GT p_MT d M pc ls (.long (Int64.ofInt y) :: .long (Int64.ofInt x) :: st) h Q := by
  obtain ⟨z, hz, e, z1, z2, z3⟩ := d_lc hx hy
  exact d_lcs hat e (dw_zle_y hat2 ht hz (by omega) hk)
theorem dw_Lle_n {off : Int} {u l2 : Nat} (hat : p_at pc M.2.2.2.2.1 = some (.lcmp, l)) (hat2 : p_at (pc + 1) M.2.2.2.2.1 = some (.ifCond .le off, l2)) (ht : p_tg (pc + 1) off = some u) (hx : d_RL x) (hy : d_RL y) (q : ¬ y < x) (hk : p_wp p_GT p_MT d M u ls st h Q) : p_wp p_GT p_MT d M pc ls (.long (Int64.ofInt y) :: .long (Int64.ofInt x) :: st) h Q := by
  obtain ⟨z, hz, e, z1, z2, z3⟩ := d_lc hx hy
  exact d_lcs hat e (dw_zle_n hat2 ht hz (by omega) hk)
theorem dw_Leq_y {off : Int} {u l2 : Nat} (hat : p_at pc M.2.2.2.2.1 = some (.lcmp, l)) (hat2 : p_at (pc + 1) M.2.2.2.2.1 = some (.ifCond .eq off, l2)) (ht : p_tg (pc + 1) off = some u) (hx : d_RL x) (hy : d_RL y) (q : x = y) (hk : p_wp p_GT p_MT d M u ls st h Q) : p_wp p_GT p_MT d M pc ls (.long (Int64.ofInt y) :: .long (Int64.ofInt x) :: st) h Q := by
  obtain ⟨z, hz, e, z1, z2, z3⟩ := d_lc hx hy
  exact d_lcs hat e (dw_zeq_y hat2 ht hz (by omega) hk)
theorem dw_Leq_n {off : Int} {u l2 : Nat} (hat : p_at pc M.2.2.2.2.1 = some (.lcmp, l)) (hat2 : p_at (pc + 1) M.2.2.2.2.1 = some (.ifCond .eq off, l2)) (ht : p_tg (pc + 1) off = some u) (hx : d_RL x) (hy : d_RL y) (q : ¬ x = y) (hk : p_wp p_GT p_MT d M (pc + 1 + 3) ls st h Q) : p_wp p_GT p_MT d M pc ls (.long (Int64.ofInt y) :: .long (Int64.ofInt x) :: st) h Q := by
  obtain ⟨z, hz, e, z1, z2, z3⟩ := d_lc hx hy
  exact d_lcs hat e (dw_zeq_n hat2 ht hz (by omega) hk)
theorem dw_Lne_y {off : Int} {u l2 : Nat} (hat : p_at pc M.2.2.2.2.1 = some (.lcmp, l)) (hat2 : p_at (pc + 1) M.2.2.2.2.1 = some (.ifCond .ne off, l2)) (ht : p_tg (pc + 1) off = some u) (hx : d_RL x) (hy : d_RL y) (q : x = y) (hk : p_wp p_GT p_MT d M (pc + 1 + 3) ls st h Q) : p_wp p_GT p_MT d M pc ls (.long (Int64.ofInt y) :: .long (Int64.ofInt x) :: st) h Q := by
  obtain ⟨z, hz, e, z1, z2, z3⟩ := d_lc hx hy
  exact d_lcs hat e (dw_zne_y hat2 ht hz (by omega) hk)
theorem dw_Lne_n {off : Int} {u l2 : Nat} (hat : p_at pc M.2.2.2.2.1 = some (.lcmp, l)) (hat2 : p_at (pc + 1) M.2.2.2.2.1 = some (.ifCond .ne off, l2)) (ht : p_tg (pc + 1) off = some u) (hx : d_RL x) (hy : d_RL y) (q : ¬ x = y) (hk : p_wp p_GT p_MT d M u ls st h Q) : p_wp p_GT p_MT d M pc ls (.long (Int64.ofInt y) :: .long (Int64.ofInt x) :: st) h Q := by
  obtain ⟨z, hz, e, z1, z2, z3⟩ := d_lc hx hy
  exact d_lcs hat e (dw_zne_n hat2 ht hz (by omega) hk)
theorem dw_get {X a ci k c : Nat} {f : Int} (hat : p_at pc M.2.2.2.2.1 = some (.getfield X, l)) (hp : p_pk X 0 M.2.2.2.2.2.1 = some (ci, f)) (hf : f.toNat = k) (hH : d_V t h s) (hc : d_ck a ci k c = true) (hk : ∀ v, d_pl s a k c v → p_wp p_GT p_MT d M (pc + 3) ls (v :: st) h Q) : p_wp p_GT p_MT d M pc ls (.ref a :: st) h Q := by
  obtain ⟨vs, e1, -, -, v, e2, e3⟩ := hH.obj hc
  subst hf
  refine p_wp.step hat ?_ (hk v e3)
  simp only [p_step, p_getf, hp, e1, Nat.beq_refl, if_true, e2]
  rfl
theorem dw_gi {X a ci k : Nat} {f : Int} (hat : p_at pc M.2.2.2.2.1 = some (.getfield X, l)) (hp : p_pk X 0 M.2.2.2.2.2.1 = some (ci, f)) (hf : f.toNat = k) (hH : d_V t h s) (hc : d_ck a ci k 1 = true) (hk : p_wp p_GT p_MT d M (pc + 3) ls (.int (Int32.ofInt (s.1 a k)) :: st) h Q) : p_wp p_GT p_MT d M pc ls (.ref a :: st) h Q :=
  dw_get hat hp hf hH hc (fun v hv => by cases (show v = _ from hv); exact hk)
theorem dw_gr {X a ci k b : Nat} {f : Int} (hat : p_at pc M.2.2.2.2.1 = some (.getfield X, l)) (hp : p_pk X 0 M.2.2.2.2.2.1 = some (ci, f)) (hf : f.toNat = k) (hH : d_V t h s) (hc : d_ck a ci k (b + 5) = true) (hk : p_wp p_GT p_MT d M (pc + 3) ls (.ref b :: st) h Q) : p_wp p_GT p_MT d M pc ls (.ref a :: st) h Q :=
  dw_get hat hp hf hH hc (fun v hv => by cases (show v = _ from hv); exact hk)
theorem dw_go_ {X a ci k : Nat} {f : Int} (hat : p_at pc M.2.2.2.2.1 = some (.getfield X, l)) (hp : p_pk X 0 M.2.2.2.2.2.1 = some (ci, f)) (hf : f.toNat = k) (hH : d_V t h s) (hc : d_ck a ci k 4 = true) (hk : p_wp p_GT p_MT d M (pc + 3) ls (d_pv (s.2.1 a k) :: st) h Q) : p_wp p_GT p_MT d M pc ls (.ref a :: st) h Q :=
  dw_get hat hp hf hH hc (fun v hv => by cases (show v = _ from hv); exact hk)
theorem dw_put {X a ci k c : Nat} {f : Int} {ty : FieldType} {s' : d_S} (hat : p_at pc M.2.2.2.2.1 = some (.putfield X, l)) (hp : p_pk X 0 M.2.2.2.2.2.1 = some (ci, f)) (hf : f.toNat = k) (hG : (p_GT[ci]?).bind (fun r => r[f.toNat]?) = some (ty, false)) (hfit : p_fit ty v = true) (hH : d_V t h s) (hc : d_ck a ci k c = true) (hr : (∀ b j, d_R (s'.1 b j)) ∧ ∀ j, d_RL (s'.2.2 j)) (ho : ∀ b j, (b ≠ a ∨ j ≠ k) → s'.1 b j = s.1 b j ∧ s'.2.1 b j = s.2.1 b j ∧ (((b = 72 ∧ j < 330) ∨ b = 64) → s'.2.2 (d_lx b j) = s.2.2 (d_lx b j))) (hv : d_pl s' a k c v) (ht : ∀ x, (a = 5 ∨ a = 22 ∨ a = 47) → s'.2.1 a k = some x → 80 ≤ x ∧ ∃ vs, t x = some (0, 7, vs)) (hk : ∀ h, d_V t h s' → p_wp p_GT p_MT d M (pc + 3) ls st h Q) : p_wp p_GT p_MT d M pc ls (v :: .ref a :: st) h Q := by
  obtain ⟨vs, e1, -, e4, -⟩ := hH.obj hc
  subst hf
  have c1 := hc
  simp only [d_ck, Bool.and_eq_true] at c1
  have hty : d_ty a f.toNat = c := Nat.eq_of_beq_eq_true c1.2
  refine p_wp.step hat ?_ (hk _ (hH.set (Nat.le_of_ble_eq_true c1.1.1.1.1.1) (by have := Nat.le_of_ble_eq_true c1.1.1.1.1.2; omega) e1 hr ho (by rw [hty]; exact hv) ht))
  have hb : Nat.blt f.toNat vs.length = true := Nat.ble_eq_true_of_le e4
  simp only [p_step, p_putf, hp, e1, Nat.beq_refl, if_true, hG, hfit, hb, Bool.not_false, Bool.true_or, Bool.and_self]
  rfl
theorem dw_pi {X a ci k : Nat} {f : Int} {F : d_S → β} (hat : p_at pc M.2.2.2.2.1 = some (.putfield X, l)) (hp : p_pk X 0 M.2.2.2.2.2.1 = some (ci, f)) (hf : f.toNat = k) (hG : (p_GT[ci]?).bind (fun r => r[f.toNat]?) = some (.int, false)) (hH : d_V t h s) (hc : d_ck a ci k 1 = true) (hx : d_R x) (h47 : ¬ (a = 5 ∨ a = 22)) (hF : d_l (d_si s a k x) F = r) (hk : ∀ s h, d_V t h s → F s = r → p_wp p_GT p_MT d M (pc + 3) ls st h Q) : p_wp p_GT p_MT d M pc ls (.int (Int32.ofInt x) :: .ref a :: st) h Q :=
  dw_put hat hp hf hG rfl hH hc (d_si_r hH.1 hx) (fun b j hb => d_si_o hb) (by simp only [d_pl]; rw [d_si_t]) (fun x h1 h2 => hH.2.2.2 _ _ _ h1 h2) (fun h hV => hk _ h hV hF)
theorem d_fitb (hb : x = 0 ∨ x = 1) : p_fit .boolean (.int (Int32.ofInt x)) = true := by
  rcases hb with rfl | rfl <;> rfl
theorem d_nar (hb : x = 0 ∨ x = 1) : narrow .boolean (.int (Int32.ofInt x)) = .int (Int32.ofInt x) := by
  rcases hb with rfl | rfl <;> rfl
theorem dw_pb {X a ci k : Nat} {f : Int} {F : d_S → β} (hat : p_at pc M.2.2.2.2.1 = some (.putfield X, l)) (hp : p_pk X 0 M.2.2.2.2.2.1 = some (ci, f)) (hf : f.toNat = k) (hG : (p_GT[ci]?).bind (fun r => r[f.toNat]?) = some (.boolean, false)) (hH : d_V t h s) (hc : d_ck a ci k 1 = true) (hb : x = 0 ∨ x = 1) (h47 : ¬ (a = 5 ∨ a = 22)) (hF : d_l (d_si s a k x) F = r) (hk : ∀ s h, d_V t h s → F s = r → p_wp p_GT p_MT d M (pc + 3) ls st h Q) : p_wp p_GT p_MT d M pc ls (.int (Int32.ofInt x) :: .ref a :: st) h Q :=
  dw_put hat hp hf hG (d_fitb hb) hH hc (d_si_r hH.1 (by rcases hb with rfl | rfl <;> exact ⟨by decide, by decide⟩)) (fun b j hb => d_si_o hb) (by simp only [d_pl]; rw [d_si_t]) (fun x h1 h2 => hH.2.2.2 _ _ _ h1 h2) (fun h hV => hk _ h hV hF)
theorem dw_po {X ci : Nat} {f : Int} {F : d_S → β} {e : Option Nat} {N : String} (hat : p_at pc M.2.2.2.2.1 = some (.putfield X, l)) (hp : p_pk X 0 M.2.2.2.2.2.1 = some (ci, f)) (hf : f.toNat = 3) (hG : (p_GT[ci]?).bind (fun r => r[f.toNat]?) = some (.object N, false)) (hH : d_V t h s) (hc : d_ck 47 ci 3 4 = true) (he : ∀ x, e = some x → 80 ≤ x ∧ ∃ vs, t x = some (0, 7, vs)) (hF : d_l (d_sp s 47 3 e) F = r) (hk : ∀ s h, d_V t h s → F s = r → p_wp p_GT p_MT d M (pc + 3) ls st h Q) : p_wp p_GT p_MT d M pc ls (d_pv e :: .ref 47 :: st) h Q :=
  dw_put (s' := d_sp s 47 3 e) hat hp hf hG (by cases e <;> rfl) hH hc hH.1 (fun b j hb => d_sp_o hb) (by simp only [d_pl]; rw [d_sp_t]) (fun x h1 h2 => he x (by rw [d_sp_t] at h2; exact h2)) (fun h hV => hk _ h hV hF)
theorem d_ix {n : Nat} (h0 : 0 ≤ x) (hr : d_R x) (hx : x.toNat = n) : ¬ Int32.ofInt x < 0 ∧ (Int32.ofInt x).toNatClampNeg = n := by
  refine ⟨?_, ?_⟩
  · rw [Int32.lt_iff_toInt_lt, d_ti hr]; show ¬ x < 0; omega
  · rw [x_clamp, d_ti hr, hx]
theorem d_ald {a n c so ty t1 t2 : Nat} {P : d_S → Prop} (hH : d_V t h s) (hc : d_ca a so ty n c = true) (hs : (Nat.beq so 1 || Nat.beq so 2) = true) (h12 : (Nat.beq ty t1 || Nat.beq ty t2) = true) (h0 : 0 ≤ x) (hn : x < n) (hr : d_R x) : ∃ v, d_pl s a x.toNat c v ∧ p_al t1 t2 (Int32.ofInt x) a (pc + 1) ls st h = p_go (pc + 1) ls (v :: st) h := by
  obtain ⟨vs, e1, e2, e3⟩ := hH.arr hc
  obtain ⟨v, v1, v2⟩ := e3 x.toNat (by omega)
  obtain ⟨i1, i2⟩ := d_ix h0 hr rfl
  refine ⟨v, v2, ?_⟩
  simp only [p_al, e1, h12, hs, Bool.and_self, if_true, p_ix, if_neg i1, i2, v1]
theorem dw_ald {a n so : Nat} (hat : p_at pc M.2.2.2.2.1 = some (.iaload, l)) (hH : d_V t h s) (hc : d_ca a so 0 n 1 = true) (hs : (Nat.beq so 1 || Nat.beq so 2) = true) (h0 : 0 ≤ x) (hn : x < n) (hr : d_R x) {k : Nat} (hx : x.toNat = k) (hk : p_wp p_GT p_MT d M (pc + 1) ls (.int (Int32.ofInt (s.1 a k)) :: st) h Q) : p_wp p_GT p_MT d M pc ls (.int (Int32.ofInt x) :: .ref a :: st) h Q := by
  subst hx
  obtain ⟨v, v1, v2⟩ := d_ald (pc := pc) (ls := ls) (st := st) (t1 := 0) (t2 := 0) (P := fun _ => True) hH hc hs rfl h0 hn hr
  cases (show v = _ from v1)
  exact p_wp.step hat (by simp only [p_step, v2]; rfl) hk
theorem dw_bld {a n : Nat} (hat : p_at pc M.2.2.2.2.1 = some (.baload, l)) (hH : d_V t h s) (hc : d_ca a 1 3 n 1 = true) (h0 : 0 ≤ x) (hn : x < n) (hr : d_R x) {k : Nat} (hx : x.toNat = k) (hk : p_wp p_GT p_MT d M (pc + 1) ls (.int (Int32.ofInt (s.1 a k)) :: st) h Q) : p_wp p_GT p_MT d M pc ls (.int (Int32.ofInt x) :: .ref a :: st) h Q := by
  subst hx
  obtain ⟨v, v1, v2⟩ := d_ald (pc := pc) (ls := ls) (st := st) (t1 := 1) (t2 := 3) (P := fun _ => True) hH hc rfl rfl h0 hn hr
  cases (show v = _ from v1)
  exact p_wp.step hat (by simp only [p_step, v2]; rfl) hk
theorem dw_old {a n : Nat} (hat : p_at pc M.2.2.2.2.1 = some (.aaload, l)) (hH : d_V t h s) (hc : d_ca a 1 4 n 4 = true) (h0 : 0 ≤ x) (hn : x < n) (hr : d_R x) {k : Nat} (hx : x.toNat = k) (hk : p_wp p_GT p_MT d M (pc + 1) ls (d_pv (s.2.1 a k) :: st) h Q) : p_wp p_GT p_MT d M pc ls (.int (Int32.ofInt x) :: .ref a :: st) h Q := by
  subst hx
  obtain ⟨v, v1, v2⟩ := d_ald (pc := pc) (ls := ls) (st := st) (t1 := 4) (t2 := 4) (P := fun _ => True) hH hc rfl rfl h0 hn hr
  cases (show v = _ from v1)
  exact p_wp.step hat (by simp only [p_step, v2]; rfl) hk
theorem d_ast {a n ty : Nat} {s' : d_S} (hH : d_V t h s) (hc : d_ca a 1 ty n 1 = true) (h0 : 0 ≤ x) (hn : x < n) (hr : d_R x) (hy : d_R y) : ∃ h2, p_as ty (.int (Int32.ofInt y)) (Int32.ofInt x) a (pc + 1) ls st h = p_go (pc + 1) ls st h2 ∧ d_V t h2 (d_si s a x.toNat y) := by
  obtain ⟨vs, e1, e2, e3⟩ := hH.arr hc
  obtain ⟨v, v1, v2⟩ := e3 x.toNat (by omega)
  obtain ⟨i1, i2⟩ := d_ix h0 hr rfl
  have c1 := hc
  simp only [d_ca, Bool.and_eq_true, Bool.not_eq_true'] at c1
  obtain ⟨⟨⟨⟨⟨⟨c1, c2⟩, c3⟩, c4⟩, c5⟩, c6⟩, c7⟩ := c1
  have h3 := Nat.eq_of_beq_eq_true c3
  have hty : d_ty a x.toNat = 1 := by
    unfold d_ty
    rw [h3]
    exact Nat.eq_of_beq_eq_true c6
  refine ⟨h.set a (1, ty, vs.set x.toNat (.int (Int32.ofInt y))), ?_, hH.set (Nat.le_of_ble_eq_true c1) (by have := Nat.le_of_ble_eq_true c2; omega) e1 (d_si_r hH.1 hy) (fun b j hb => d_si_o hb) (by rw [hty]; simp only [d_pl]; rw [d_si_t]) (fun x h1 h2 => hH.2.2.2 _ _ _ h1 h2)⟩
  simp only [p_as, e1, Nat.beq_refl, Bool.and_self, if_true, p_ix, if_neg i1, i2, v1]
theorem dw_ast {a n : Nat} {F : d_S → β} (hat : p_at pc M.2.2.2.2.1 = some (.iastore, l)) (hH : d_V t h s) (hc : d_ca a 1 0 n 1 = true) (h0 : 0 ≤ x) (hn : x < n) (hr : d_R x) {k : Nat} (hx : x.toNat = k) (hy : d_R y) (hF : d_l (d_si s a k y) F = r) (hk : ∀ s h, d_V t h s → F s = r → p_wp p_GT p_MT d M (pc + 1) ls st h Q) : p_wp p_GT p_MT d M pc ls (.int (Int32.ofInt y) :: .int (Int32.ofInt x) :: .ref a :: st) h Q := by
  subst hx
  obtain ⟨h2, e1, e2⟩ := d_ast (pc := pc) (ls := ls) (st := st) (s' := s) hH hc h0 hn hr hy
  exact p_wp.step hat (by simp only [p_step, e1]; rfl) (hk _ _ e2 hF)
theorem dw_bst {a n : Nat} {F : d_S → β} (hat : p_at pc M.2.2.2.2.1 = some (.bastore, l)) (hH : d_V t h s) (hc : d_ca a 1 3 n 1 = true) (h0 : 0 ≤ x) (hn : x < n) (hr : d_R x) {k : Nat} (hx : x.toNat = k) (hy : y = 0 ∨ y = 1) (hF : d_l (d_si s a k y) F = r) (hk : ∀ s h, d_V t h s → F s = r → p_wp p_GT p_MT d M (pc + 1) ls st h Q) : p_wp p_GT p_MT d M pc ls (.int (Int32.ofInt y) :: .int (Int32.ofInt x) :: .ref a :: st) h Q := by
  subst hx
  have hy' : d_R y := by rcases hy with rfl | rfl <;> exact ⟨by decide, by decide⟩
  obtain ⟨h2, e1, e2⟩ := d_ast (pc := pc) (ls := ls) (st := st) (s' := s) (y := y) hH hc h0 hn hr hy'
  refine p_wp.step hat ?_ (hk _ _ e2 hF)
  have e3 : ∀ v, p_as 1 v (Int32.ofInt x) a (pc + 1) ls st h = none := by
    intro v
    obtain ⟨vs, g1, -, -⟩ := hH.arr hc
    simp only [p_as, g1, show Nat.beq 1 3 = false from rfl, Bool.false_and, Bool.false_eq_true, if_false]
  simp only [p_step, e3, d_nar hy, e1]
  rfl
theorem dw_ost {a n : Nat} {F : d_S → β} {e : Option Nat} (hat : p_at pc M.2.2.2.2.1 = some (.aastore, l)) (hH : d_V t h s) (hc : d_ca a 1 4 n 4 = true) (h0 : 0 ≤ x) (hn : x < n) (hr : d_R x) {k : Nat} (hx : x.toNat = k) (he : ∀ x, e = some x → 80 ≤ x ∧ ∃ vs, t x = some (0, 7, vs)) (hF : d_l (d_sp s a k e) F = r) (hk : ∀ s h, d_V t h s → F s = r → p_wp p_GT p_MT d M (pc + 1) ls st h Q) : p_wp p_GT p_MT d M pc ls (d_pv e :: .int (Int32.ofInt x) :: .ref a :: st) h Q := by
  subst hx
  obtain ⟨vs, e1, e2, e3⟩ := hH.arr hc
  obtain ⟨v, v1, v2⟩ := e3 x.toNat (by omega)
  obtain ⟨i1, i2⟩ := d_ix h0 hr rfl
  have c1 := hc
  simp only [d_ca, Bool.and_eq_true, Bool.not_eq_true'] at c1
  obtain ⟨⟨⟨⟨⟨⟨c1, c2⟩, c3⟩, c4⟩, c5⟩, c6⟩, c7⟩ := c1
  have h3 := Nat.eq_of_beq_eq_true c3
  have hty : d_ty a x.toNat = 4 := by
    unfold d_ty
    rw [h3]
    exact Nat.eq_of_beq_eq_true c6
  have hV : d_V t (h.set a (1, 4, vs.set x.toNat (d_pv e))) (d_sp s a x.toNat e) := hH.set (Nat.le_of_ble_eq_true c1) (by have := Nat.le_of_ble_eq_true c2; omega) e1 hH.1 (fun b j hb => d_sp_o hb) (by rw [hty]; simp only [d_pl]; rw [d_sp_t]) (fun x h1 h2 => he x (by rw [d_sp_t] at h2; exact h2))
  cases e with
  | none => exact p_wp.step hat (by simp only [p_step, d_pv, p_as, e1, Nat.beq_refl, Bool.and_self, if_true, p_ix, if_neg i1, i2, v1]; rfl) (hk _ _ hV hF)
  | some b =>
    obtain ⟨b1, ws, b2⟩ := he b rfl
    have b3 : h[b]? = some (0, 7, ws) := by rw [hH.2.1 b (Or.inr b1)]; exact b2
    exact p_wp.step hat (by simp only [p_step, d_pv, b3, p_as, e1, Nat.beq_refl, Bool.and_self, if_true, p_ix, if_neg i1, i2, v1]; rfl) (hk _ _ hV hF)
theorem dw_len {a n so ty c : Nat} {z : Int} (hat : p_at pc M.2.2.2.2.1 = some (.arraylength, l)) (hH : d_V t h s) (hc : d_ca a so ty n c = true) (hs : (Nat.beq so 1 || Nat.beq so 2) = true) (hz : Int32.ofNat n = Int32.ofInt z) (hk : p_wp p_GT p_MT d M (pc + 1) ls (.int (Int32.ofInt z) :: st) h Q) : p_wp p_GT p_MT d M pc ls (.ref a :: st) h Q := by
  obtain ⟨vs, e1, e2, -⟩ := hH.arr hc
  refine p_wp.step hat ?_ hk
  simp only [p_step, e1, hs, if_true, e2, hz]
  rfl
end DW

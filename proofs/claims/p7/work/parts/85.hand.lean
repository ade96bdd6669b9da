/-! Instructions of the pure machine by hand -/
section WH
variable {G : p_G} {MT : List p_M} {d : Nat} {M : p_M} {pc l : Nat} {ls : p_Ls} {st : List Value} {h : p_H} {Q : Option Value → p_H → Prop} {x y : Int32} {k a : Nat}
theorem w_s1 {i j : Nat} {v w : Value} (hw : p_lk j ls = some w) (hc : w.category = 1) (hne : j ≠ i) : p_lk j (p_s1 ls i v) = some w := by
  have e : Nat.beq i j = false := by
    cases q : Nat.beq i j with
    | false => rfl
    | true => exact absurd (Nat.eq_of_beq_eq_true q).symm hne
  simp only [p_s1, p_lk, e, Bool.false_eq_true, if_false]
  refine p_lk_fil hw ?_
  have : (j == i) = false := by simpa using hne
  simp [this, hc]
theorem w_iload_n {k : Fin 4} (hat : p_at pc M.2.2.2.2.1 = some (.iload_n k, l)) (hl : p_lk k.val ls = some (.int x)) (hk : p_wp G MT d M (pc + 1) ls (.int x :: st) h Q) : p_wp G MT d M pc ls st h Q :=
  p_wp.step hat (by simp only [p_step, p_ld, hl]; rfl) hk
theorem w_aload_n {k : Fin 4} (hat : p_at pc M.2.2.2.2.1 = some (.aload_n k, l)) (hl : p_lk k.val ls = some (.ref a)) (hk : p_wp G MT d M (pc + 1) ls (.ref a :: st) h Q) : p_wp G MT d M pc ls st h Q :=
  p_wp.step hat (by simp only [p_step, p_ld, hl]; rfl) hk
theorem w_iconst {v : Int} (hat : p_at pc M.2.2.2.2.1 = some (.iconst v, l)) (hk : p_wp G MT d M (pc + 1) ls (.int (Int32.ofInt v) :: st) h Q) : p_wp G MT d M pc ls st h Q := p_wp.step hat rfl hk
theorem w_bipush {v : Int} (hat : p_at pc M.2.2.2.2.1 = some (.bipush v, l)) (hk : p_wp G MT d M (pc + 2) ls (.int (Int8.ofInt v).toInt32 :: st) h Q) : p_wp G MT d M pc ls st h Q := p_wp.step hat rfl hk
theorem w_sipush {v : Int} (hat : p_at pc M.2.2.2.2.1 = some (.sipush v, l)) (hk : p_wp G MT d M (pc + 3) ls (.int (Int16.ofInt v).toInt32 :: st) h Q) : p_wp G MT d M pc ls st h Q := p_wp.step hat rfl hk
theorem w_istore_n {k : Fin 4} (hat : p_at pc M.2.2.2.2.1 = some (.istore_n k, l)) (hn : k.val < M.2.2.1) (hk : p_wp G MT d M (pc + 1) (p_s1 ls k.val (.int x)) st h Q) : p_wp G MT d M pc ls (.int x :: st) h Q :=
  p_wp.step hat (by simp only [p_step, p_sv, if_pos hn]; rfl) hk
theorem w_astore_n {k : Fin 4} (hat : p_at pc M.2.2.2.2.1 = some (.astore_n k, l)) (hn : k.val < M.2.2.1) (hk : p_wp G MT d M (pc + 1) (p_s1 ls k.val (.ref a)) st h Q) : p_wp G MT d M pc ls (.ref a :: st) h Q :=
  p_wp.step hat (by simp only [p_step, p_sv, if_pos hn]; rfl) hk
theorem w_iinc {v : Int} (hat : p_at pc M.2.2.2.2.1 = some (.iinc k v, l)) (hl : p_lk k ls = some (.int x)) (hn : k < M.2.2.1) (hk : p_wp G MT d M (pc + 3) (p_s1 ls k (.int (x + Int32.ofInt v))) st h Q) : p_wp G MT d M pc ls st h Q :=
  p_wp.step hat (by simp only [p_step, hl, p_sv, if_pos hn]; rfl) hk
theorem w_goto {off : Int} {t : Nat} (hat : p_at pc M.2.2.2.2.1 = some (.goto off, l)) (ht : p_tg pc off = some t) (hk : p_wp G MT d M t ls st h Q) : p_wp G MT d M pc ls st h Q :=
  p_wp.step hat (by simp only [p_step, p_jm, ht]; rfl) hk
theorem w_icmp_t {c : ClassFile.Cond} {off : Int} {t : Nat} (hat : p_at pc M.2.2.2.2.1 = some (.if_icmp c off, l)) (ht : p_tg pc off = some t) (hc : p_cd c x y = true) (hk : p_wp G MT d M t ls st h Q) : p_wp G MT d M pc ls (.int y :: .int x :: st) h Q :=
  p_wp.step hat (by simp only [p_step, p_br, ht, hc, if_true]; rfl) hk
theorem w_icmp_f {c : ClassFile.Cond} {off : Int} {t : Nat} (hat : p_at pc M.2.2.2.2.1 = some (.if_icmp c off, l)) (ht : p_tg pc off = some t) (hc : p_cd c x y = false) (hk : p_wp G MT d M (pc + 3) ls st h Q) : p_wp G MT d M pc ls (.int y :: .int x :: st) h Q :=
  p_wp.step hat (by simp only [p_step, p_br, ht, hc, Bool.false_eq_true, if_false]; rfl) hk
theorem w_iadd (hat : p_at pc M.2.2.2.2.1 = some (.iadd, l)) (hk : p_wp G MT d M (pc + 1) ls (.int (x + y) :: st) h Q) : p_wp G MT d M pc ls (.int y :: .int x :: st) h Q := p_wp.step hat rfl hk
theorem w_isub (hat : p_at pc M.2.2.2.2.1 = some (.isub, l)) (hk : p_wp G MT d M (pc + 1) ls (.int (x - y) :: st) h Q) : p_wp G MT d M pc ls (.int y :: .int x :: st) h Q := p_wp.step hat rfl hk
theorem w_imul (hat : p_at pc M.2.2.2.2.1 = some (.imul, l)) (hk : p_wp G MT d M (pc + 1) ls (.int (x * y) :: st) h Q) : p_wp G MT d M pc ls (.int y :: .int x :: st) h Q := p_wp.step hat rfl hk
theorem w_iand (hat : p_at pc M.2.2.2.2.1 = some (.iand, l)) (hk : p_wp G MT d M (pc + 1) ls (.int (x &&& y) :: st) h Q) : p_wp G MT d M pc ls (.int y :: .int x :: st) h Q := p_wp.step hat rfl hk
theorem w_ishl (hat : p_at pc M.2.2.2.2.1 = some (.ishl, l)) (hk : p_wp G MT d M (pc + 1) ls (.int (x <<< (y &&& 31)) :: st) h Q) : p_wp G MT d M pc ls (.int y :: .int x :: st) h Q := p_wp.step hat rfl hk
theorem w_ishr (hat : p_at pc M.2.2.2.2.1 = some (.ishr, l)) (hk : p_wp G MT d M (pc + 1) ls (.int (x >>> (y &&& 31)) :: st) h Q) : p_wp G MT d M pc ls (.int y :: .int x :: st) h Q := p_wp.step hat rfl hk
theorem w_irem (hat : p_at pc M.2.2.2.2.1 = some (.irem, l)) (hy : ¬ y = 0) (hk : p_wp G MT d M (pc + 1) ls (.int (x - x / y * y) :: st) h Q) : p_wp G MT d M pc ls (.int y :: .int x :: st) h Q :=
  p_wp.step hat (by simp only [p_step, if_neg hy]; rfl) hk
theorem w_idiv (hat : p_at pc M.2.2.2.2.1 = some (.idiv, l)) (hy : ¬ y = 0) (hk : p_wp G MT d M (pc + 1) ls (.int (x / y) :: st) h Q) : p_wp G MT d M pc ls (.int y :: .int x :: st) h Q :=
  p_wp.step hat (by simp only [p_step, if_neg hy]; rfl) hk
theorem w_getf {X ci : Nat} {f : Int} {vs : List Value} {v : Value} (hat : p_at pc M.2.2.2.2.1 = some (.getfield X, l)) (hp : p_pk X 0 M.2.2.2.2.2.1 = some (ci, f)) (hc : h[a]? = some (0, ci, vs)) (hv : vs[f.toNat]? = some v) (hk : p_wp G MT d M (pc + 3) ls (v :: st) h Q) : p_wp G MT d M pc ls (.ref a :: st) h Q := by
  refine p_wp.step hat ?_ hk
  simp only [p_step, p_getf, hp, hc, Nat.beq_refl, if_true, hv]
  rfl
theorem w_static {X m nn dc : Nat} {as rest : List Value} {M' : p_M} {Q1 : Option Value → p_H → Prop} (hat : p_at pc M.2.2.2.2.1 = some (.invokestatic X, l)) (hs : p_invs M.2.2.2.2.2.1 X (pc + 3) ls st h = some (.inr (.inr (m, as, rest)))) (hM : MT[m]? = some M') (hc : Nat.ble (p_cat as) M'.2.2.1 = true) (hd : dc + 1 ≤ d) (h1 : p_wp G MT dc M' 0 (lv_args 0 as) [] h Q1) (hk : ∀ v h', Q1 v h' → p_wp G MT d M (pc + 3) ls (v.toList ++ rest) h' Q) : p_wp G MT d M pc ls st h Q :=
  p_wp.call hat (by simp only [p_step]; exact hs) hM (Nat.le_of_ble_eq_true hc) hd h1 hk
theorem w_virtual {X m dc : Nat} {as rest : List Value} {M' : p_M} {Q1 : Option Value → p_H → Prop} (hat : p_at pc M.2.2.2.2.1 = some (.invokevirtual X, l)) (hs : p_vir MT M.2.2.2.2.2.1 X (pc + 3) ls st h = some (.inr (.inr (m, as, rest)))) (hM : MT[m]? = some M') (hc : Nat.ble (p_cat as) M'.2.2.1 = true) (hd : dc + 1 ≤ d) (h1 : p_wp G MT dc M' 0 (lv_args 0 as) [] h Q1) (hk : ∀ v h', Q1 v h' → p_wp G MT d M (pc + 3) ls (v.toList ++ rest) h' Q) : p_wp G MT d M pc ls st h Q :=
  p_wp.call hat (by simp only [p_step]; exact hs) hM (Nat.le_of_ble_eq_true hc) hd h1 hk
theorem w_ireturn (hat : p_at pc M.2.2.2.2.1 = some (.ireturn, l)) (hr : M.2.2.2.1 = some .int) (hq : Q (some (.int x)) h) : p_wp G MT d M pc ls [.int x] h Q :=
  p_wp.ret hat (by simp only [p_step, p_ret, hr]; exact if_pos rfl) hq
theorem w_return (hat : p_at pc M.2.2.2.2.1 = some (.return_, l)) (hr : M.2.2.2.1 = none) (hq : Q none h) : p_wp G MT d M pc ls [] h Q :=
  p_wp.ret hat (by simp only [p_step, p_ret, hr]) hq
end WH
/-! bits, partOf, beginOf -/
def g_cb (n k : Nat) : Nat := ((List.range k).filter (fun j => (n / 2 ^ j) % 2 == 1)).length
theorem g_cb_s (n k : Nat) : g_cb n (k + 1) = g_cb n k + (n / 2 ^ k) % 2 := by
  simp only [g_cb, List.range_succ, List.filter_append, List.length_append]
  congr 1
  rcases Nat.mod_two_eq_zero_or_one (n / 2 ^ k) with e | e <;> simp [e]
theorem g_cb_le (n : Nat) : ∀ k, g_cb n k ≤ k := by
  intro k
  induction k with
  | zero => exact Nat.le_refl _
  | succ k ih => rw [g_cb_s]; have := Nat.mod_lt (n / 2 ^ k) (show 0 < 2 by decide); omega
theorem g_bit1 : ∀ n, n < 128 → ∀ k, k < 12 → ((Int32.ofNat n >>> (Int32.ofNat k &&& 31)) &&& Int32.ofInt 1) = Int32.ofNat (n / 2 ^ k % 2) := by decide +kernel
theorem g_i32 {x : Int32} {n : Nat} (hx : x.toInt = n) (hn : n < 100000) : x = Int32.ofNat n := by
  apply Int32.toInt_inj.mp
  rw [hx, Int32.toInt_ofNat_of_lt (by omega)]
theorem g_ofNat {n : Nat} (hn : n < 100000) : (Int32.ofNat n).toInt = n := Int32.toInt_ofNat_of_lt (by omega)
theorem g_add {a b : Nat} (h : a + b < 100000) : Int32.ofNat a + Int32.ofNat b = Int32.ofNat (a + b) := by
  rw [Int32.ofNat_add]
theorem g_bits_loop {d : Nat} {h : p_H} {Q : Option Value → p_H → Prop} {n : Nat} (hn : n < 128) (hq : Q (some (.int (Int32.ofNat (g_cb n 12)))) h) : ∀ j k ls, k + j = 12 → p_lk 0 ls = some (.int (Int32.ofNat n)) → p_lk 1 ls = some (.int (Int32.ofNat (g_cb n k))) → p_lk 2 ls = some (.int (Int32.ofNat k)) → p_wp p_GT p_MT d m_X12_bits 4 ls [] h Q := by
  intro j
  induction j with
  | zero =>
    intro k ls hk l0 l1 l2
    have hk : k = 12 := by omega
    subst hk
    exact w_iload_n (x := Int32.ofNat 12) rfl l2 (w_bipush rfl (w_icmp_t rfl (t := 24) rfl (by decide) (w_iload_n rfl l1 (w_ireturn rfl rfl hq))))
  | succ j ih =>
    intro k ls hk l0 l1 l2
    have hb := g_cb_le n k
    have hm := Nat.mod_lt (n / 2 ^ k) (show 0 < 2 by decide)
    have hc : p_cd .ge (Int32.ofNat k) (Int8.ofInt 12).toInt32 = false := by
      have : ∀ k, k < 12 → p_cd .ge (Int32.ofNat k) (Int8.ofInt 12).toInt32 = false := by decide +kernel
      exact this k (by omega)
    refine w_iload_n rfl l2 (w_bipush rfl (w_icmp_f rfl (t := 24) rfl hc (w_iload_n rfl l1 (w_iload_n rfl l0 (w_iload_n rfl l2 (w_ishr rfl (w_iconst rfl (w_iand rfl (w_iadd rfl (w_istore_n rfl (by decide) ?_))))))))))
    rw [g_bit1 n hn k (by omega), g_add (by omega), ← g_cb_s]
    refine w_iinc rfl (w_s1 l2 rfl (by decide)) (by decide) (w_goto rfl (t := 4) rfl ?_)
    rw [show Int32.ofInt 1 = Int32.ofNat 1 from rfl, g_add (by omega)]
    exact ih (k + 1) _ (by omega) (w_s1 (w_s1 l0 rfl (by decide)) rfl (by decide)) (w_s1 p_lk_s1 rfl (by decide)) p_lk_s1
theorem g_bits {d : Nat} {h : p_H} {n : Nat} (hn : n < 128) : p_wp p_GT p_MT d m_X12_bits 0 (lv_args 0 [.int (Int32.ofNat n)]) [] h (fun v h2 => v = some (.int (Int32.ofNat (g_cb n 12))) ∧ h2 = h) := by
  refine w_iconst rfl (w_istore_n rfl (by decide) (w_iconst rfl (w_istore_n rfl (by decide) ?_)))
  exact g_bits_loop hn ⟨rfl, rfl⟩ 12 0 _ rfl (w_s1 (w_s1 rfl rfl (by decide)) rfl (by decide)) (w_s1 p_lk_s1 rfl (by decide)) p_lk_s1
theorem g_cb_pc {n : Nat} : g_cb n 12 = g_pc (n : Int) := by simp only [g_cb, g_pc, Int.toNat_natCast]
theorem g_part1 : ∀ n, n < 128 → ∀ i, i < 8 → (Int32.ofNat n &&& ((Int32.ofInt 1 <<< (Int32.ofNat i &&& 31)) - Int32.ofInt 1)) = Int32.ofNat (n % 2 ^ i) := by decide +kernel
theorem g_partOf {d : Nat} {h : p_H} {n i : Nat} (hn : n < 128) (hi : i < 8) : p_wp p_GT p_MT (d + 1) m_X12_partOf 0 (lv_args 0 [.int (Int32.ofNat n), .int (Int32.ofNat i)]) [] h (fun v h2 => v = some (.int (Int32.ofNat (g_cb (n % 2 ^ i) 12))) ∧ h2 = h) := by
  refine w_iload_n rfl rfl (w_iconst rfl (w_iload_n rfl rfl (w_ishl rfl (w_iconst rfl (w_isub rfl (w_iand rfl ?_))))))
  rw [g_part1 n hn i hi]
  refine w_static (nn := 0) (M' := m_X12_bits) rfl rfl rfl rfl (Nat.le_refl _) (g_bits (Nat.lt_of_le_of_lt (Nat.mod_le _ _) hn)) ?_
  rintro v h2 ⟨rfl, rfl⟩
  exact w_ireturn rfl rfl ⟨rfl, rfl⟩
theorem g_beginOf_loop {d : Nat} {h : p_H} {n p : Nat} {Q : Option Value → p_H → Prop} (hn : n < 128) (hp : p ≤ g_cb n 12) (hq : ∀ i, i < 8 → Q (some (.int (Int32.ofNat i))) h) : ∀ j i ls, i + j = 7 → p_lk 0 ls = some (.int (Int32.ofNat n)) → p_lk 1 ls = some (.int (Int32.ofNat p)) → p_lk 2 ls = some (.int (Int32.ofNat i)) → p_wp p_GT p_MT (d + 2) m_X12_beginOf 2 ls [] h Q := by
  intro j
  induction j with
  | zero =>
    intro i ls hi l0 l1 l2
    have hi : i = 7 := by omega
    subst hi
    refine w_iload_n rfl l0 (w_iload_n rfl l2 (w_static (nn := 0) (M' := m_X12_partOf) rfl rfl rfl rfl (Nat.le_refl _) (g_partOf hn (by omega)) ?_))
    rintro v h2 ⟨rfl, rfl⟩
    refine w_iload_n rfl l1 (w_icmp_t rfl (t := 17) rfl ?_ (w_iload_n rfl l2 (w_ireturn rfl rfl (hq 7 (by omega)))))
    have e : n % 2 ^ 7 = n := Nat.mod_eq_of_lt (by omega)
    have := g_cb_le n 12
    simp only [p_cd, decide_eq_true_eq, e]
    rw [Int32.le_iff_toInt_le, g_ofNat (by omega), g_ofNat (by omega)]
    omega
  | succ j ih =>
    intro i ls hi l0 l1 l2
    refine w_iload_n rfl l0 (w_iload_n rfl l2 (w_static (nn := 0) (M' := m_X12_partOf) rfl rfl rfl rfl (Nat.le_refl _) (g_partOf hn (by omega)) ?_))
    rintro v h2 ⟨rfl, rfl⟩
    cases hc : p_cd .ge (Int32.ofNat (g_cb (n % 2 ^ i) 12)) (Int32.ofNat p) with
    | true => exact w_iload_n rfl l1 (w_icmp_t rfl (t := 17) rfl hc (w_iload_n rfl l2 (w_ireturn rfl rfl (hq i (by omega)))))
    | false =>
      refine w_iload_n rfl l1 (w_icmp_f rfl (t := 17) rfl hc (w_iinc rfl l2 (by decide) (w_goto rfl (t := 2) rfl ?_)))
      rw [show Int32.ofInt 1 = Int32.ofNat 1 from rfl, g_add (by omega)]
      exact ih (i + 1) _ (by omega) (w_s1 l0 rfl (by decide)) (w_s1 l1 rfl (by decide)) p_lk_s1
theorem g_beginOf {d : Nat} {h : p_H} {n p : Nat} (hn : n < 128) (hp : p ≤ g_cb n 12) : p_wp p_GT p_MT (d + 2) m_X12_beginOf 0 (lv_args 0 [.int (Int32.ofNat n), .int (Int32.ofNat p)]) [] h (fun v h2 => (∃ i, i < 8 ∧ v = some (.int (Int32.ofNat i))) ∧ h2 = h) := by
  refine w_iconst rfl (w_istore_n rfl (by decide) ?_)
  exact g_beginOf_loop hn hp (fun i hi => ⟨⟨i, hi, rfl⟩, rfl⟩) 7 0 _ rfl (w_s1 rfl rfl (by decide)) (w_s1 rfl rfl (by decide)) p_lk_s1

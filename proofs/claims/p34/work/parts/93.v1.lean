/-! Layers by hand: lemmas, the class's side -/
def l_b (b : Bool) : Int32 := match b with
  | true => Int32.ofInt 1
  | false => Int32.ofInt 0
theorem l_may_false {v : Nat → Nat → Int32} {kind block : Int32} {n k : Nat} (h : l_one v kind block n k = false) : ∀ m, k < m → l_may v kind block n m = false := by
  intro m
  induction m with
  | zero => intro q; omega
  | succ m ih =>
    intro q
    simp only [l_may]
    by_cases e : k = m
    · subst e; rw [h, Bool.and_false]
    · rw [ih (by omega), Bool.false_and]
theorem l_bits_lt (F : Nat → Bool) : ∀ k, l_bits F k < 2 ^ k := by
  intro k
  induction k with
  | zero => simp [l_bits]
  | succ k ih =>
    have : 2 ^ (k + 1) = 2 ^ k + 2 ^ k := by rw [Nat.pow_succ]; omega
    simp only [l_bits]
    split <;> omega
theorem l_bits_c {F G : Nat → Bool} : ∀ k, (∀ m, m < k → F m = G m) → l_bits F k = l_bits G k := by
  intro k
  induction k with
  | zero => intro _; rfl
  | succ k ih =>
    intro h
    simp only [l_bits]
    rw [ih (fun m hm => h m (by omega)), h k (by omega)]
theorem l_or1 : ∀ i, i < 10 → ∀ m, m < 1024 → (m < 2 ^ i → (Int32.ofNat m ||| (Int32.ofInt 1 <<< (Int32.ofNat i &&& 31))) = Int32.ofNat (m + 2 ^ i)) := by decide +kernel
theorem l_or0 : ∀ i, i < 10 → ∀ m, m < 1024 → (Int32.ofNat m ||| (Int32.ofInt 0 <<< (Int32.ofNat i &&& 31))) = Int32.ofNat m := by decide +kernel
theorem l_or {F : Nat → Bool} {i : Nat} (hi : i < 10) : (Int32.ofNat (l_bits F i) ||| (l_b (F i) <<< (Int32.ofNat i &&& 31))) = Int32.ofNat (l_bits F (i + 1)) := by
  have h1 := l_bits_lt F i
  have h2 : 2 ^ i ≤ 2 ^ 10 := Nat.pow_le_pow_right (by decide) (by omega)
  have h3 : l_bits F i < 1024 := by omega
  simp only [l_bits]
  cases F i with
  | true => rw [if_pos rfl]; exact l_or1 i hi _ h3 h1
  | false => rw [if_neg (by decide), Nat.add_zero]; exact l_or0 i hi _ h3
theorem l_clr0 : ∀ n, n < 10 → ∀ b0 b1 b2 b3 b4 b5 b6 b7 b8 b9 : Bool, (Int32.ofNat (l_bits (fun m => [b0, b1, b2, b3, b4, b5, b6, b7, b8, b9].getD m false) 10) &&& ((Int32.ofInt 1 <<< (Int32.ofNat n &&& 31)) ^^^ Int32.ofInt (-1))) = Int32.ofNat (l_bits (fun m => if m = n then false else [b0, b1, b2, b3, b4, b5, b6, b7, b8, b9].getD m false) 10) := by decide +kernel
theorem l_ten {F : Nat → Bool} : ∀ m, m < 10 → [F 0, F 1, F 2, F 3, F 4, F 5, F 6, F 7, F 8, F 9].getD m false = F m := by
  intro m hm
  have e : m = 0 ∨ m = 1 ∨ m = 2 ∨ m = 3 ∨ m = 4 ∨ m = 5 ∨ m = 6 ∨ m = 7 ∨ m = 8 ∨ m = 9 := by omega
  rcases e with rfl | rfl | rfl | rfl | rfl | rfl | rfl | rfl | rfl | rfl <;> rfl
theorem l_clr {F G : Nat → Bool} {n : Nat} (hn : n < 10) (hG : ∀ m, m < 10 → G m = if m = n then false else F m) : (Int32.ofNat (l_bits F 10) &&& ((Int32.ofInt 1 <<< (Int32.ofNat n &&& 31)) ^^^ Int32.ofInt (-1))) = Int32.ofNat (l_bits G 10) := by
  have e1 := l_bits_c (F := fun m => [F 0, F 1, F 2, F 3, F 4, F 5, F 6, F 7, F 8, F 9].getD m false) (G := F) 10 l_ten
  have e2 := l_bits_c (F := fun m => if m = n then false else [F 0, F 1, F 2, F 3, F 4, F 5, F 6, F 7, F 8, F 9].getD m false) (G := G) 10 (fun m hm => by
    rw [hG m hm]
    show (if m = n then false else [F 0, F 1, F 2, F 3, F 4, F 5, F 6, F 7, F 8, F 9].getD m false) = if m = n then false else F m
    rw [l_ten m hm])
  have e3 := l_clr0 n hn (F 0) (F 1) (F 2) (F 3) (F 4) (F 5) (F 6) (F 7) (F 8) (F 9)
  rw [e1, e2] at e3
  exact e3
section LCX
variable {G : p_G} {MT : List p_M} {d : Nat} {M : p_M} {pc l : Nat} {ls : p_Ls} {st : List Value} {h : p_H} {Q : Option Value → p_H → Prop} {x y : Int32} {k : Nat}
theorem w_ixor (hat : p_at pc M.2.2.2.2.1 = some (.ixor, l)) (hk : p_wp G MT d M (pc + 1) ls (.int (x ^^^ y) :: st) h Q) : p_wp G MT d M pc ls (.int y :: .int x :: st) h Q := p_wp.step hat rfl hk
theorem w_ior (hat : p_at pc M.2.2.2.2.1 = some (.ior, l)) (hk : p_wp G MT d M (pc + 1) ls (.int (x ||| y) :: st) h Q) : p_wp G MT d M pc ls (.int y :: .int x :: st) h Q := p_wp.step hat rfl hk
end LCX
theorem l_bit {h : p_H} {d : Nat} {b : Bool} : p_wp p_GT p_MT d m_X11_bit 0 (lv_args 0 [.int (l_b b)]) [] h (fun a h2 => a = some (.int (l_b b)) ∧ h2 = h) := by
  cases b
  · exact w_iload_n rfl rfl (w_ifc_t rfl (t := 8) rfl (by decide) (w_iconst rfl (w_ireturn rfl rfl ⟨rfl, rfl⟩)))
  · exact w_iload_n rfl rfl (w_ifc_f rfl (t := 8) rfl (by decide) (w_iconst rfl (w_goto rfl (t := 9) rfl (w_ireturn rfl rfl ⟨rfl, rfl⟩))))
section LCL
variable {h : p_H} {d c n : Nat} {f2 f3 f12 rows : List Value} {v : Nat → Nat → Int32} {kind block : Int32}
/-- the class's glasses -/
def l_C (h : p_H) (f2 f3 f12 rows : List Value) (c : Nat) (v : Nat → Nat → Int32) : Prop := h[2]? = some (0, 11, f2) ∧ f2[0]? = some (.ref 3) ∧ h[3]? = some (0, 9, f3) ∧ f3[11]? = some (.ref 12) ∧ h[12]? = some (0, 8, f12) ∧ f12[1]? = some (.ref 13) ∧ f12[2]? = some (.int (Int32.ofNat c)) ∧ h[13]? = some (1, 0, rows) ∧ rows.length = 32 ∧ (∀ k, k < 8 → ∀ j, j < 4 → rows[4 * k + j]? = some (.int (v k j))) ∧ c ≤ 8
theorem l_part {k j : Nat} (hC : l_C h f2 f3 f12 rows c v) (hk : k < 8) (hj : j < 4) : p_wp p_GT p_MT d m_X8_part 0 (lv_args 0 [.ref 12, .int (Int32.ofNat k), .int (Int32.ofNat j)]) [] h (fun a h2 => a = some (.int (v k j)) ∧ h2 = h) := by
  obtain ⟨e2, e20, e3, e311, e12, e121, e122, e13, el, ev, ec⟩ := hC
  have hv := ev k hk j hj
  rw [show 4 * k + j = k * 4 + j by omega] at hv
  have hc1 : p_cd .lt (Int32.ofNat (k * 4 + j)) 0 = false := by
    simp only [p_cd, decide_eq_false_iff_not]; exact g_nl (by omega)
  have hc2 : p_cd .ge (Int32.ofNat (k * 4 + j)) (Int32.ofNat rows.length) = false := by
    simp only [p_cd, decide_eq_false_iff_not]
    rw [Int32.le_iff_toInt_le, g_ofNat (by omega), g_ofNat (by omega)]; omega
  refine w_iload_n rfl rfl (w_ic 4 rfl rfl (w_mulN rfl (w_iload_n rfl rfl (w_addN rfl (w_istore_n rfl (by decide) (w_iload_n rfl p_lk_s1 (w_ifc_f rfl (t := 28) rfl hc1 (w_iload_n rfl p_lk_s1 (w_aload_n rfl (w_s1 rfl rfl (by decide)) (w_getf rfl rfl e12 e121 (w_alen rfl e13 (w_icmp_f rfl (t := 28) rfl hc2 (w_aload_n rfl (w_s1 rfl rfl (by decide)) (w_getf rfl rfl e12 e121 (w_iload_n rfl p_lk_s1 (w_ld rfl e13 (by omega) hv (w_goto rfl (t := 29) rfl (w_ireturn rfl rfl ⟨rfl, rfl⟩))))))))))))))))))
theorem l_t3 {Q : Option Value → p_H → Prop} {ls : p_Ls} {s t : Bool} (hT : s = t → p_wp p_GT p_MT d m_X11_mayLie 120 ls [] h Q) (hF : ¬ s = t → Q (some (.int (l_b false))) h) : p_wp p_GT p_MT d m_X11_mayLie 115 ls [.int (l_b t), .int (l_b s)] h Q := by
  cases s <;> cases t
  · exact w_icmp_t rfl (t := 120) rfl (by decide) (hT rfl)
  · exact w_icmp_f rfl (t := 120) rfl (by decide) (w_iconst rfl (w_ireturnb rfl rfl rfl (hF (by decide))))
  · exact w_icmp_f rfl (t := 120) rfl (by decide) (w_iconst rfl (w_ireturnb rfl rfl rfl (hF (by decide))))
  · exact w_icmp_t rfl (t := 120) rfl (by decide) (hT rfl)
theorem l_t2 {Q : Option Value → p_H → Prop} {ls : p_Ls} {b s : Bool} {i : Nat} (hC : l_C h f2 f3 f12 rows c v) (hi : i < 8) (l0 : p_lk 0 ls = some (.ref 2)) (l4 : p_lk 4 ls = some (.int (Int32.ofNat i))) (l5 : p_lk 5 ls = some (.int (l_b b))) (hT : ∀ x, (!b || (s == decide (v i 3 = Int32.ofInt 1))) = true → p_wp p_GT p_MT (d + 1) m_X11_mayLie 120 (p_s1 ls 6 (.int x)) [] h Q) (hF : (!b || (s == decide (v i 3 = Int32.ofInt 1))) = false → Q (some (.int (l_b false))) h) : p_wp p_GT p_MT (d + 1) m_X11_mayLie 84 ls [.int (l_b s)] h Q := by
  have hC' := hC
  obtain ⟨e2, e20, e3, e311, e12, e121, e122, e13, el, ev, ec⟩ := hC
  refine w_istore rfl (by decide) (w_iload rfl (w_s1 l5 rfl (by decide)) ?_)
  cases b with
  | false => exact w_ifc_t rfl (t := 120) rfl (by decide) (hT _ rfl)
  | true =>
    refine w_ifc_f rfl (t := 120) rfl (by decide) (w_iload rfl p_lk_s1 (w_aload_n rfl (w_s1 l0 rfl (by decide)) (w_getf rfl rfl e2 e20 (w_getf rfl rfl e3 e311 (w_iload rfl (w_s1 l4 rfl (by decide)) (w_ic 3 rfl rfl (w_virtual (dc := d) (M' := m_X8_part) rfl (g_vir (n := 3) rfl rfl (by simp [p_cat, p_bd, Value.category]) rfl rfl e12 rfl) rfl rfl (Nat.le_refl _) (l_part hC' (k := i) (j := 3) hi (by decide)) ?_)))))))
    rintro a h2 ⟨rfl, rfl⟩
    refine w_iconst rfl ?_
    cases hc : p_cd .ne (v i 3) (Int32.ofInt 1) with
    | true =>
      have q : decide (v i 3 = Int32.ofInt 1) = false := by
        simp only [p_cd, decide_eq_true_eq] at hc
        exact decide_eq_false hc
      rw [q] at hT hF
      refine w_icmp_t rfl (t := 114) rfl hc (w_iconst rfl (l_t3 (t := false) (fun e => hT _ ?_) (fun e => hF ?_)))
      · subst e; rfl
      · cases s with
        | false => exact absurd rfl e
        | true => rfl
    | false =>
      have q : decide (v i 3 = Int32.ofInt 1) = true := by
        simp only [p_cd, decide_eq_false_iff_not, Decidable.not_not] at hc
        exact decide_eq_true hc
      rw [q] at hT hF
      refine w_icmp_f rfl (t := 114) rfl hc (w_iconst rfl (w_goto rfl (t := 115) rfl (l_t3 (t := true) (fun e => hT _ ?_) (fun e => hF ?_))))
      · subst e; rfl
      · cases s with
        | false => rfl
        | true => exact absurd rfl e
theorem l_t1 {Q : Option Value → p_H → Prop} {ls : p_Ls} {b : Bool} {i : Nat} (hC : l_C h f2 f3 f12 rows c v) (hi : i < 8) (hn : n < 10) (l0 : p_lk 0 ls = some (.ref 2)) (l3 : p_lk 3 ls = some (.int (Int32.ofNat n))) (l4 : p_lk 4 ls = some (.int (Int32.ofNat i))) (hT : ∀ x y, (!b || (decide (Int32.ofNat (n * 10) < v i 2) == decide (v i 3 = Int32.ofInt 1))) = true → p_wp p_GT p_MT (d + 1) m_X11_mayLie 120 (p_s1 (p_s1 ls 5 (.int y)) 6 (.int x)) [] h Q) (hF : (!b || (decide (Int32.ofNat (n * 10) < v i 2) == decide (v i 3 = Int32.ofInt 1))) = false → Q (some (.int (l_b false))) h) : p_wp p_GT p_MT (d + 1) m_X11_mayLie 57 ls [.int (l_b b)] h Q := by
  have hC' := hC
  obtain ⟨e2, e20, e3, e311, e12, e121, e122, e13, el, ev, ec⟩ := hC
  refine w_istore rfl (by decide) (w_aload_n rfl (w_s1 l0 rfl (by decide)) (w_getf rfl rfl e2 e20 (w_getf rfl rfl e3 e311 (w_iload rfl (w_s1 l4 rfl (by decide)) (w_ic 2 rfl rfl (w_virtual (dc := d) (M' := m_X8_part) rfl (g_vir (n := 3) rfl rfl (by simp [p_cat, p_bd]) rfl rfl e12 rfl) rfl rfl (Nat.le_refl _) (l_part hC' (k := i) (j := 2) hi (by decide)) ?_))))))
  rintro a h2 ⟨rfl, rfl⟩
  refine w_iload_n rfl (w_s1 l3 rfl (by decide)) (w_bp 10 rfl rfl (w_mulN rfl ?_))
  cases hc : p_cd .le (v i 2) (Int32.ofNat (n * 10)) with
  | true =>
    have q : decide (Int32.ofNat (n * 10) < v i 2) = false := by
      simp only [p_cd, decide_eq_true_eq] at hc
      exact decide_eq_false (by rw [Int32.lt_iff_toInt_lt]; rw [Int32.le_iff_toInt_le] at hc; omega)
    rw [q] at hT hF
    exact w_icmp_t rfl (t := 83) rfl hc (w_iconst rfl (l_t2 (s := false) hC' hi (w_s1 l0 rfl (by decide)) (w_s1 l4 rfl (by decide)) p_lk_s1 (fun x e => hT x _ e) hF))
  | false =>
    have q : decide (Int32.ofNat (n * 10) < v i 2) = true := by
      simp only [p_cd, decide_eq_false_iff_not] at hc
      exact decide_eq_true (by rw [Int32.lt_iff_toInt_lt]; rw [Int32.le_iff_toInt_le] at hc; omega)
    rw [q] at hT hF
    exact w_icmp_f rfl (t := 83) rfl hc (w_iconst rfl (w_goto rfl (t := 84) rfl (l_t2 (s := true) hC' hi (w_s1 l0 rfl (by decide)) (w_s1 l4 rfl (by decide)) p_lk_s1 (fun x e => hT x _ e) hF)))
theorem l_mayLie_loop {Q : Option Value → p_H → Prop} (hC : l_C h f2 f3 f12 rows c v) (hn : n < 10) (hQ : Q (some (.int (l_b (l_may v kind block n c)))) h) : ∀ j i ls, i + j = c → l_may v kind block n i = true → p_lk 0 ls = some (.ref 2) → p_lk 1 ls = some (.int kind) → p_lk 2 ls = some (.int block) → p_lk 3 ls = some (.int (Int32.ofNat n)) → p_lk 4 ls = some (.int (Int32.ofNat i)) → p_wp p_GT p_MT (d + 1) m_X11_mayLie 3 ls [] h Q := by
  intro j
  induction j with
  | zero =>
    intro i ls hi hm l0 l1 l2 l3 l4
    have hi : i = c := hi
    subst hi
    obtain ⟨e2, e20, e3, e311, e12, e121, e122, e13, el, ev, ec⟩ := hC
    rw [hm] at hQ
    exact w_iload rfl l4 (w_aload_n rfl l0 (w_getf rfl rfl e2 e20 (w_getf rfl rfl e3 e311 (w_getf rfl rfl e12 e122 (w_icmp_t rfl (t := 126) rfl (by simp [p_cd]) (w_iconst rfl (w_ireturnb rfl rfl rfl hQ)))))))
  | succ j ih =>
    intro i ls hi hm l0 l1 l2 l3 l4
    have hC' := hC
    obtain ⟨e2, e20, e3, e311, e12, e121, e122, e13, el, ev, ec⟩ := hC
    have hc : p_cd .ge (Int32.ofNat i) (Int32.ofNat c) = false := by
      simp only [p_cd, decide_eq_false_iff_not]
      rw [Int32.le_iff_toInt_le, g_ofNat (by omega), g_ofNat (by omega)]; omega
    have next : ∀ b, b = (decide (v i 0 = kind) && decide (v i 1 = block)) → p_wp p_GT p_MT (d + 1) m_X11_mayLie 57 ls [.int (l_b b)] h Q := by
      intro b hb
      refine l_t1 hC' (by omega) hn l0 l3 l4 (fun x y e => ?_) (fun e => ?_)
      · have eo : l_one v kind block n i = true := by unfold l_one; rw [← hb]; exact e
        refine w_iinc rfl (w_s1 (w_s1 l4 rfl (by decide)) rfl (by decide)) (by decide) (w_goto rfl (t := 3) rfl ?_)
        rw [show Int32.ofInt 1 = Int32.ofNat 1 from rfl, g_add (by omega)]
        exact ih (i + 1) _ (by omega) (by simp only [l_may]; rw [hm, eo]; rfl) (w_s1 (w_s1 (w_s1 l0 rfl (by decide)) rfl (by decide)) rfl (by decide)) (w_s1 (w_s1 (w_s1 l1 rfl (by decide)) rfl (by decide)) rfl (by decide)) (w_s1 (w_s1 (w_s1 l2 rfl (by decide)) rfl (by decide)) rfl (by decide)) (w_s1 (w_s1 (w_s1 l3 rfl (by decide)) rfl (by decide)) rfl (by decide)) p_lk_s1
      · have eo : l_one v kind block n i = false := by unfold l_one; rw [← hb]; exact e
        rw [l_may_false eo c (by omega)] at hQ
        exact hQ
    refine w_iload rfl l4 (w_aload_n rfl l0 (w_getf rfl rfl e2 e20 (w_getf rfl rfl e3 e311 (w_getf rfl rfl e12 e122 (w_icmp_f rfl (t := 126) rfl hc ?_)))))
    refine w_aload_n rfl l0 (w_getf rfl rfl e2 e20 (w_getf rfl rfl e3 e311 (w_iload rfl l4 (w_ic 0 rfl rfl (w_virtual (dc := d) (M' := m_X8_part) rfl (g_vir (n := 3) rfl rfl (by simp [p_cat, p_bd]) rfl rfl e12 rfl) rfl rfl (Nat.le_refl _) (l_part hC' (k := i) (j := 0) (by omega) (by decide)) ?_)))))
    rintro a h2 ⟨rfl, rfl⟩
    refine w_iload_n rfl l1 ?_
    by_cases q0 : v i 0 = kind
    · refine w_icmp_f rfl (t := 56) rfl (by simp only [p_cd, decide_eq_false_iff_not]; exact fun e => e q0) ?_
      refine w_aload_n rfl l0 (w_getf rfl rfl e2 e20 (w_getf rfl rfl e3 e311 (w_iload rfl l4 (w_ic 1 rfl rfl (w_virtual (dc := d) (M' := m_X8_part) rfl (g_vir (n := 3) rfl rfl (by simp [p_cat, p_bd]) rfl rfl e12 rfl) rfl rfl (Nat.le_refl _) (l_part hC' (k := i) (j := 1) (by omega) (by decide)) ?_)))))
      rintro a h2 ⟨rfl, rfl⟩
      refine w_iload_n rfl l2 ?_
      by_cases q1 : v i 1 = block
      · exact w_icmp_f rfl (t := 56) rfl (by simp only [p_cd, decide_eq_false_iff_not]; exact fun e => e q1) (w_iconst rfl (w_goto rfl (t := 57) rfl (next true (by rw [decide_eq_true q0, decide_eq_true q1]; rfl))))
      · exact w_icmp_t rfl (t := 56) rfl (by simp only [p_cd, decide_eq_true_eq]; exact q1) (w_iconst rfl (next false (by rw [decide_eq_false q1, Bool.and_false])))
    · exact w_icmp_t rfl (t := 56) rfl (by simp only [p_cd, decide_eq_true_eq]; exact q0) (w_iconst rfl (next false (by rw [decide_eq_false q0, Bool.false_and])))
theorem l_mayLie (hC : l_C h f2 f3 f12 rows c v) (hn : n < 10) : p_wp p_GT p_MT (d + 1) m_X11_mayLie 0 (lv_args 0 [.ref 2, .int kind, .int block, .int (Int32.ofNat n)]) [] h (fun a h2 => a = some (.int (l_b (l_may v kind block n c))) ∧ h2 = h) := by
  refine w_ic 0 rfl rfl (w_istore rfl (by decide) ?_)
  exact l_mayLie_loop hC hn ⟨rfl, rfl⟩ c 0 _ (by omega) rfl (w_s1 rfl rfl (by decide)) (w_s1 rfl rfl (by decide)) (w_s1 rfl rfl (by decide)) (w_s1 rfl rfl (by decide)) p_lk_s1
theorem l_clayers_loop {Q : Option Value → p_H → Prop} (hC : l_C h f2 f3 f12 rows c v) (hQ : Q (some (.int (Int32.ofNat (l_bits (fun n => l_may v kind block n c) 10)))) h) : ∀ j i ls, i + j = 10 → p_lk 0 ls = some (.ref 2) → p_lk 1 ls = some (.int kind) → p_lk 2 ls = some (.int block) → p_lk 3 ls = some (.int (Int32.ofNat (l_bits (fun n => l_may v kind block n c) i))) → p_lk 4 ls = some (.int (Int32.ofNat i)) → p_wp p_GT p_MT (d + 2) m_X11_layers 27 ls [] h Q := by
  intro j
  induction j with
  | zero =>
    intro i ls hi l0 l1 l2 l3 l4
    have hi : i = 10 := hi
    subst hi
    exact w_iload rfl l4 (w_bp 10 rfl rfl (w_icmp_t rfl (t := 57) rfl (by simp [p_cd]) (w_iload_n rfl l3 (w_ireturn rfl rfl hQ))))
  | succ j ih =>
    intro i ls hi l0 l1 l2 l3 l4
    have e2 := hC.1
    have hc : p_cd .ge (Int32.ofNat i) (Int32.ofNat 10) = false := by
      simp only [p_cd, decide_eq_false_iff_not]
      rw [Int32.le_iff_toInt_le, g_ofNat (by omega), g_ofNat (by omega)]; omega
    refine w_iload rfl l4 (w_bp 10 rfl rfl (w_icmp_f rfl (t := 57) rfl hc (w_iload_n rfl l3 (w_aload_n rfl l0 (w_iload_n rfl l1 (w_iload_n rfl l2 (w_iload rfl l4 (w_virtual (dc := d + 1) (M' := m_X11_mayLie) rfl (g_vir (n := 4) rfl rfl (by simp [p_cat, p_bd, Value.category]) rfl rfl e2 rfl) rfl rfl (Nat.le_refl _) (l_mayLie hC (n := i) (by omega)) ?_))))))))
    rintro a h2 ⟨rfl, rfl⟩
    refine w_static (nn := 0) (dc := d + 1) (M' := m_X11_bit) rfl rfl rfl rfl (Nat.le_refl _) l_bit ?_
    rintro a h2 ⟨rfl, rfl⟩
    refine w_iload rfl l4 (w_ishl rfl (w_ior rfl ?_))
    have e := l_or (F := fun n => l_may v kind block n c) (i := i) (by omega)
    rw [e]
    refine w_istore_n rfl (by decide) (w_iinc rfl (w_s1 l4 rfl (by decide)) (by decide) (w_goto rfl (t := 27) rfl ?_))
    rw [show Int32.ofInt 1 = Int32.ofNat 1 from rfl, g_add (by omega)]
    exact ih (i + 1) _ (by omega) (w_s1 (w_s1 l0 rfl (by decide)) rfl (by decide)) (w_s1 (w_s1 l1 rfl (by decide)) rfl (by decide)) (w_s1 (w_s1 l2 rfl (by decide)) rfl (by decide)) (w_s1 p_lk_s1 rfl (by decide)) p_lk_s1
theorem l_clayers (hC : l_C h f2 f3 f12 rows c v) (h1 : (Int32.ofInt 0 ≤ kind ∧ kind ≤ Int32.ofNat 9)) (h2 : (Int32.ofInt 0 ≤ block ∧ block ≤ Int32.ofNat 63)) : p_wp p_GT p_MT (d + 2) m_X11_layers 0 (lv_args 0 [.ref 2, .int kind, .int block]) [] h (fun a h2 => a = some (.int (Int32.ofNat (l_bits (fun n => l_may v kind block n c) 10))) ∧ h2 = h) := by
  refine w_iload_n rfl rfl (w_iconst rfl (w_bp 9 rfl rfl (w_static (nn := 0) (dc := d + 1) (M' := m_X11_within) rfl rfl rfl rfl (Nat.le_refl _) b_within ?_)))
  rintro a h3 ⟨rfl, rfl⟩
  rw [if_pos h1]
  refine w_ifc_f rfl (t := 20) rfl (by decide) (w_iload_n rfl rfl (w_iconst rfl (w_bp 63 rfl rfl (w_static (nn := 0) (dc := d + 1) (M' := m_X11_within) rfl rfl rfl rfl (Nat.le_refl _) b_within ?_))))
  rintro a h3 ⟨rfl, rfl⟩
  rw [if_pos h2]
  refine w_ifc_t rfl (t := 22) rfl (by decide) (w_ic 0 rfl rfl (w_istore_n rfl (by decide) (w_ic 0 rfl rfl (w_istore rfl (by decide) ?_))))
  exact l_clayers_loop hC ⟨rfl, rfl⟩ 10 0 _ rfl (w_s1 (w_s1 rfl rfl (by decide)) rfl (by decide)) (w_s1 (w_s1 rfl rfl (by decide)) rfl (by decide)) (w_s1 (w_s1 rfl rfl (by decide)) rfl (by decide)) (w_s1 p_lk_s1 rfl (by decide)) p_lk_s1
/-- others -/
theorem l_clayers_no {Q : Option Value → p_H → Prop} (hq : ¬ ((Int32.ofInt 0 ≤ kind ∧ kind ≤ Int32.ofNat 9) ∧ (Int32.ofInt 0 ≤ block ∧ block ≤ Int32.ofNat 63))) (hQ : Q (some (.int (Int32.ofInt (-1)))) h) : p_wp p_GT p_MT (d + 1) m_X11_layers 0 (lv_args 0 [.ref 2, .int kind, .int block]) [] h Q := by
  refine w_iload_n rfl rfl (w_iconst rfl (w_bp 9 rfl rfl (w_static (nn := 0) (dc := d) (M' := m_X11_within) rfl rfl rfl rfl (Nat.le_refl _) b_within ?_)))
  rintro a h3 ⟨rfl, rfl⟩
  by_cases h1 : Int32.ofInt 0 ≤ kind ∧ kind ≤ Int32.ofNat 9
  · rw [if_pos h1]
    refine w_ifc_f rfl (t := 20) rfl (by decide) (w_iload_n rfl rfl (w_iconst rfl (w_bp 63 rfl rfl (w_static (nn := 0) (dc := d) (M' := m_X11_within) rfl rfl rfl rfl (Nat.le_refl _) b_within ?_))))
    rintro a h3 ⟨rfl, rfl⟩
    rw [if_neg (fun h2 => hq ⟨h1, h2⟩)]
    exact w_ifc_f rfl (t := 22) rfl (by decide) (w_iconst rfl (w_ireturn rfl rfl hQ))
  · rw [if_neg h1]
    exact w_ifc_t rfl (t := 20) rfl (by decide) (w_iconst rfl (w_ireturn rfl rfl hQ))
end LCL

/-! Speed by hand: lemmas; the class's side -/
def sp_bd (s : Int × Int) : Prop := -100 ≤ s.1 ∧ s.1 ≤ 100 ∧ 0 ≤ s.2 ∧ s.2 ≤ 999
theorem sp_in_bd {lo : Bool} {D E : Nat → Int} {i : Nat} {s : Int × Int} (hD : ∀ k, k < 8 → 0 ≤ D k ∧ D k ≤ 999) (hE : ∀ k, k < 8 → 0 ≤ E k ∧ E k ≤ 100) (hi : i < 8) (hs : sp_bd s) : ∀ k, k ≤ 8 → sp_bd (sp_in lo D E i s k) := by
  intro k
  induction k with
  | zero => intro _; exact hs
  | succ k ih =>
    intro hk
    have d1 := hD k (by omega)
    have d2 := hD i hi
    have e1 := hE k (by omega)
    have e2 := hE i hi
    simp only [sp_in]
    split
    · next q =>
      simp only [sp_ok, Bool.and_eq_true, decide_eq_true_eq] at q
      refine ⟨?_, ?_, ?_, ?_⟩ <;> simp only <;> omega
    · exact ih (by omega)
theorem sp_out_bd {lo : Bool} {D E : Nat → Int} {c : Nat} (hD : ∀ k, k < 8 → 0 ≤ D k ∧ D k ≤ 999) (hE : ∀ k, k < 8 → 0 ≤ E k ∧ E k ≤ 100) (hc : c ≤ 8) : ∀ i, i ≤ 8 → sp_bd (sp_out lo D E c i) := by
  intro i
  induction i with
  | zero => intro _; refine ⟨?_, ?_, ?_, ?_⟩ <;> simp only [sp_out] <;> omega
  | succ i ih => intro hi; exact sp_in_bd hD hE (by omega) (ih (by omega)) c hc
theorem sp_ti {a : Int} (h1 : -1000000 ≤ a) (h2 : a ≤ 1000000) : (Int32.ofInt a).toInt = a := Int32.toInt_ofInt_of_le (by omega) (by omega)
theorem sp_pr {a b : Int} (h1 : -100 ≤ a) (h2 : a ≤ 100) (h3 : 0 ≤ b) (h4 : b ≤ 999) : -99900 ≤ a * b ∧ a * b ≤ 99900 := by
  have q1 := Int.mul_le_mul_of_nonneg_right h2 h3
  have q2 := Int.mul_le_mul_of_nonneg_right h1 h3
  constructor <;> omega
theorem sp_df {x y : Int32} : x - y = Int32.ofInt (x.toInt - y.toInt) := by rw [Int32.ofInt_sub, Int32.ofInt_toInt, Int32.ofInt_toInt]
theorem sp_lt {a b : Int} (h1 : -1000000 ≤ a) (h2 : a ≤ 1000000) (h3 : -1000000 ≤ b) (h4 : b ≤ 1000000) : p_cd .lt (Int32.ofInt a) (Int32.ofInt b) = decide (a < b) := by
  simp only [p_cd]
  exact decide_eq_decide.mpr (by rw [Int32.lt_iff_toInt_lt, sp_ti h1 h2, sp_ti h3 h4])
theorem sp_ge {a b : Int} (h1 : -1000000 ≤ a) (h2 : a ≤ 1000000) (h3 : -1000000 ≤ b) (h4 : b ≤ 1000000) : p_cd .ge (Int32.ofInt a) (Int32.ofInt b) = decide (b ≤ a) := by
  simp only [p_cd]
  exact decide_eq_decide.mpr (by rw [Int32.le_iff_toInt_le, sp_ti h1 h2, sp_ti h3 h4])
theorem sp_le {a b : Int} (h1 : -1000000 ≤ a) (h2 : a ≤ 1000000) (h3 : -1000000 ≤ b) (h4 : b ≤ 1000000) : p_cd .le (Int32.ofInt a) (Int32.ofInt b) = decide (a ≤ b) := by
  simp only [p_cd]
  exact decide_eq_decide.mpr (by rw [Int32.le_iff_toInt_le, sp_ti h1 h2, sp_ti h3 h4])
theorem sp_gt {a b : Int} (h1 : -1000000 ≤ a) (h2 : a ≤ 1000000) (h3 : -1000000 ≤ b) (h4 : b ≤ 1000000) : p_cd .gt (Int32.ofInt a) (Int32.ofInt b) = decide (b < a) := by
  simp only [p_cd]
  exact decide_eq_decide.mpr (by rw [Int32.lt_iff_toInt_lt, sp_ti h1 h2, sp_ti h3 h4])
theorem sp_eq {a b : Int} (h1 : -1000000 ≤ a) (h2 : a ≤ 1000000) (h3 : -1000000 ≤ b) (h4 : b ≤ 1000000) : p_cd .eq (Int32.ofInt a) (Int32.ofInt b) = decide (a = b) := by
  simp only [p_cd]
  exact decide_eq_decide.mpr (by rw [← Int32.toInt_inj, sp_ti h1 h2, sp_ti h3 h4])
theorem sp_ne {a b : Int} (h1 : -1000000 ≤ a) (h2 : a ≤ 1000000) (h3 : -1000000 ≤ b) (h4 : b ≤ 1000000) : p_cd .ne (Int32.ofInt a) (Int32.ofInt b) = decide (¬ a = b) := by
  simp only [p_cd]
  exact decide_eq_decide.mpr (by rw [← Int32.toInt_inj, sp_ti h1 h2, sp_ti h3 h4])
theorem sp_z : (0 : Int32) = Int32.ofInt 0 := by decide
theorem sp_on {n : Nat} : Int32.ofNat n = Int32.ofInt (n : Int) := Int32.ofInt_eq_ofNat.symm
section SWX
variable {G : p_G} {MT : List p_M} {d : Nat} {M : p_M} {pc l : Nat} {ls : p_Ls} {st : List Value} {h : p_H} {Q : Option Value → p_H → Prop} {x y : Int32} {z w : Int64} {k : Nat}
theorem w_ineg (hat : p_at pc M.2.2.2.2.1 = some (.ineg, l)) (hk : p_wp G MT d M (pc + 1) ls (.int (-x) :: st) h Q) : p_wp G MT d M pc ls (.int x :: st) h Q := p_wp.step hat rfl hk
end SWX
theorem sp_abs {h : p_H} {d : Nat} {a : Int} (h1 : -1000 ≤ a) (h2 : a ≤ 1000) : p_wp p_GT p_MT d m_J9_abs_0f7a4 0 (lv_args 0 [.int (Int32.ofInt a)]) [] h (fun v h2 => v = some (.int (Int32.ofNat a.natAbs)) ∧ h2 = h) := by
  refine w_iload_n rfl rfl ?_
  by_cases q : 0 ≤ a
  · refine w_ifc_t rfl (t := 9) rfl (by rw [sp_z, sp_ge (by omega) (by omega) (by omega) (by omega)]; exact decide_eq_true q) (w_iload_n rfl rfl (w_ireturn rfl rfl ⟨?_, rfl⟩))
    rw [sp_on, show ((a.natAbs : Nat) : Int) = a by omega]
  · refine w_ifc_f rfl (t := 9) rfl (by rw [sp_z, sp_ge (by omega) (by omega) (by omega) (by omega)]; exact decide_eq_false q) (w_iload_n rfl rfl (w_ineg rfl (w_goto rfl (t := 10) rfl (w_ireturn rfl rfl ⟨?_, rfl⟩))))
    rw [sp_on, ← Int32.ofInt_neg, show ((a.natAbs : Nat) : Int) = -a by omega]
theorem sp_remN {a b : Nat} (ha : a < 100000) (hb : b < 100000) : Int32.ofNat a - Int32.ofNat a / Int32.ofNat b * Int32.ofNat b = Int32.ofNat (a % b) := by
  have q : Int32.ofNat a / Int32.ofNat b = Int32.ofNat (a / b) := by
    rw [sp_on, sp_on, sp_on, ← Int32.ofInt_tdiv (by rw [show Int32.minValue.toInt = -2147483648 by decide]; omega) (by rw [show Int32.maxValue.toInt = 2147483647 by decide]; omega) (by rw [show Int32.minValue.toInt = -2147483648 by decide]; omega) (by rw [show Int32.maxValue.toInt = 2147483647 by decide]; omega), Int.ofNat_tdiv]
  rw [q, g_mul, g_sub (Nat.div_mul_le_self a b)]
  congr 1
  have := Nat.div_add_mod a b
  rw [Nat.mul_comm] at this
  omega
theorem sp_gcd (a b : Nat) : Nat.gcd b (a % b) = Nat.gcd a b := by
  rw [Nat.gcd_comm a b, Nat.gcd_rec b a, Nat.gcd_comm]
section SDV
variable {h : p_H} {d : Nat} {Q : Option Value → p_H → Prop}
theorem sp_dv_end {a t : Nat} {ls : p_Ls} (ha : a ≤ 1000) (ht : t ≤ 64) (l2 : p_lk 2 ls = some (.int (Int32.ofNat a))) (l3 : p_lk 3 ls = some (.int (Int32.ofNat 0))) (l4 : p_lk 4 ls = some (.int (Int32.ofNat t))) (hQ : Q (some (.int (Int32.ofNat (max 1 a)))) h) : p_wp p_GT p_MT (d + 1) m_X11_divisor 13 ls [] h Q := by
  have fin : p_wp p_GT p_MT (d + 1) m_X11_divisor 40 ls [] h Q := by
    refine w_ic 1 rfl rfl (w_iload_n rfl l2 (w_static (nn := 0) (dc := d) (M' := m_J9_max_7cf53) rfl rfl rfl rfl (Nat.le_refl _) b_jmax ?_))
    rintro v h2 ⟨rfl, rfl⟩
    refine w_ireturn rfl rfl ?_
    by_cases q : (1 : Nat) < a
    · rw [if_pos (by rw [Int32.lt_iff_toInt_lt, g_ofNat (by omega), g_ofNat (by omega)]; omega)]
      rw [Nat.max_eq_right (show 1 ≤ a by omega)] at hQ; exact hQ
    · rw [if_neg (by rw [Int32.lt_iff_toInt_lt, g_ofNat (by omega), g_ofNat (by omega)]; omega)]
      rw [Nat.max_eq_left (show a ≤ 1 by omega)] at hQ; exact hQ
  refine w_iload rfl l4 (w_bp 64 rfl rfl ?_)
  cases hc : p_cd .ge (Int32.ofNat t) (Int32.ofNat 64) with
  | true => exact w_icmp_t rfl (t := 40) rfl hc fin
  | false => exact w_icmp_f rfl (t := 40) rfl hc (w_iload_n rfl l3 (w_ifc_t rfl (t := 40) rfl (by decide) fin))
theorem sp_dv_turn {a b t : Nat} {ls : p_Ls} (ha : a ≤ 1000) (hb : b ≤ 1000) (hb0 : b ≠ 0) (ht : t < 64) (l2 : p_lk 2 ls = some (.int (Int32.ofNat a))) (l3 : p_lk 3 ls = some (.int (Int32.ofNat b))) (l4 : p_lk 4 ls = some (.int (Int32.ofNat t))) (hN : ∀ ls, p_lk 2 ls = some (.int (Int32.ofNat b)) → p_lk 3 ls = some (.int (Int32.ofNat (a % b))) → p_lk 4 ls = some (.int (Int32.ofNat (t + 1))) → p_wp p_GT p_MT d m_X11_divisor 13 ls [] h Q) : p_wp p_GT p_MT d m_X11_divisor 13 ls [] h Q := by
  have hc : p_cd .ge (Int32.ofNat t) (Int32.ofNat 64) = false := by
    simp only [p_cd, decide_eq_false_iff_not]
    rw [Int32.le_iff_toInt_le, g_ofNat (by omega), g_ofNat (by omega)]; omega
  have hz : ¬ Int32.ofNat b = 0 := fun q => by
    have := congrArg Int32.toInt q
    rw [g_ofNat (by omega)] at this
    simp only [Int32.toInt_zero] at this
    omega
  refine w_iload rfl l4 (w_bp 64 rfl rfl (w_icmp_f rfl (t := 40) rfl hc (w_iload_n rfl l3 (w_ifc_f rfl (t := 40) rfl (by simp only [p_cd, decide_eq_false_iff_not]; exact hz) (w_iload_n rfl l2 (w_iload_n rfl l3 (w_irem rfl hz ?_)))))))
  rw [sp_remN (by omega) (by omega)]
  refine w_istore rfl (by decide) (w_iload_n rfl (w_s1 l3 rfl (by decide)) (w_istore_n rfl (by decide) (w_iload rfl (w_s1 p_lk_s1 rfl (by decide)) (w_istore_n rfl (by decide) (w_iinc rfl (w_s1 (w_s1 (w_s1 l4 rfl (by decide)) rfl (by decide)) rfl (by decide)) (by decide) (w_goto rfl (t := 13) rfl ?_))))))
  rw [show Int32.ofInt 1 = Int32.ofNat 1 from rfl, g_add (by omega)]
  exact hN _ (w_s1 (w_s1 p_lk_s1 rfl (by decide)) rfl (by decide)) (w_s1 p_lk_s1 rfl (by decide)) p_lk_s1
theorem sp_half {b r : Nat} (hr : r ≠ 0) (hrb : r < b) : 2 * (b % r) < b := by
  have h1 := Nat.mod_lt b (show 0 < r by omega)
  have h2 := Nat.div_add_mod b r
  have h3 : 1 ≤ b / r := (Nat.le_div_iff_mul_le (by omega)).mpr (by omega)
  have h4 : r * 1 ≤ r * (b / r) := Nat.mul_le_mul_left r h3
  omega
theorem sp_dv_loop : ∀ m a b t (ls : p_Ls), a ≤ 1000 → b ≤ 1000 → b < 2 ^ m → t + 2 * m ≤ 64 → p_lk 2 ls = some (.int (Int32.ofNat a)) → p_lk 3 ls = some (.int (Int32.ofNat b)) → p_lk 4 ls = some (.int (Int32.ofNat t)) → Q (some (.int (Int32.ofNat (max 1 (Nat.gcd a b))))) h → p_wp p_GT p_MT (d + 1) m_X11_divisor 13 ls [] h Q := by
  intro m
  induction m with
  | zero =>
    intro a b t ls ha hb hm ht l2 l3 l4 hQ
    have : b = 0 := by rw [Nat.pow_zero] at hm; omega
    subst this
    rw [Nat.gcd_zero_right] at hQ
    exact sp_dv_end ha (by omega) l2 l3 l4 hQ
  | succ m ih =>
    intro a b t ls ha hb hm ht l2 l3 l4 hQ
    by_cases hb0 : b = 0
    · subst hb0
      rw [Nat.gcd_zero_right] at hQ
      exact sp_dv_end ha (by omega) l2 l3 l4 hQ
    · refine sp_dv_turn ha hb hb0 (by omega) l2 l3 l4 (fun ls1 m2 m3 m4 => ?_)
      rw [← sp_gcd a b] at hQ
      have hr := Nat.mod_lt a (show 0 < b by omega)
      by_cases hr0 : a % b = 0
      · rw [hr0] at hQ m3
        rw [Nat.gcd_zero_right] at hQ
        exact sp_dv_end hb (by omega) m2 m3 m4 hQ
      · refine sp_dv_turn hb (by omega) hr0 (by omega) m2 m3 m4 (fun ls2 n2 n3 n4 => ?_)
        rw [← sp_gcd b (a % b)] at hQ
        have hh := sp_half hr0 hr
        have hr2 := Nat.mod_lt b (show 0 < a % b by omega)
        rw [Nat.pow_succ] at hm
        exact ih _ _ _ ls2 (by omega) (by omega) (by omega) (by omega) n2 n3 n4 hQ
theorem sp_divisor {u l : Int} (h1 : -100 ≤ u) (h2 : u ≤ 100) (h3 : 0 ≤ l) (h4 : l ≤ 999) : p_wp p_GT p_MT (d + 1) m_X11_divisor 0 (lv_args 0 [.int (Int32.ofInt u), .int (Int32.ofInt l)]) [] h (fun v h2 => v = some (.int (Int32.ofNat (max 1 (Nat.gcd u.natAbs l.natAbs)))) ∧ h2 = h) := by
  refine w_iload_n rfl rfl (w_static (nn := 0) (dc := d) (M' := m_J9_abs_0f7a4) rfl rfl rfl rfl (Nat.le_refl _) (sp_abs (by omega) (by omega)) ?_)
  rintro v h2 ⟨rfl, rfl⟩
  refine w_istore_n rfl (by decide) (w_iload_n rfl (w_s1 rfl rfl (by decide)) (w_static (nn := 0) (dc := d) (M' := m_J9_abs_0f7a4) rfl rfl rfl rfl (Nat.le_refl _) (sp_abs (by omega) (by omega)) ?_))
  rintro v h2 ⟨rfl, rfl⟩
  refine w_istore_n rfl (by decide) (w_ic 0 rfl rfl (w_istore rfl (by decide) ?_))
  exact sp_dv_loop 10 _ _ 0 _ (by omega) (by omega) (by omega) (by omega) (w_s1 (w_s1 p_lk_s1 rfl (by decide)) rfl (by decide)) (w_s1 p_lk_s1 rfl (by decide)) p_lk_s1 ⟨rfl, rfl⟩
end SDV
section SCL
variable {h : p_H} {d c : Nat} {f2 f3 f16 rows : List Value} {v : Nat → Nat → Int32} {what : Int32} {Q : Option Value → p_H → Prop}
/-- the class's measures -/
def sp_C (h : p_H) (f2 f3 f16 rows : List Value) (c : Nat) (v : Nat → Nat → Int32) : Prop := h[2]? = some (0, 11, f2) ∧ f2[0]? = some (.ref 3) ∧ h[3]? = some (0, 9, f3) ∧ f3[13]? = some (.ref 16) ∧ h[16]? = some (0, 8, f16) ∧ f16[1]? = some (.ref 17) ∧ f16[2]? = some (.int (Int32.ofNat c)) ∧ h[17]? = some (1, 0, rows) ∧ rows.length = 32 ∧ (∀ k, k < 8 → ∀ j, j < 2 → rows[4 * k + j]? = some (.int (v k j))) ∧ c ≤ 8
def sp_D (v : Nat → Nat → Int32) (k : Nat) : Int := (v k 0).toInt
def sp_E (v : Nat → Nat → Int32) (k : Nat) : Int := (v k 1).toInt
theorem sp_part {k j : Nat} (hC : sp_C h f2 f3 f16 rows c v) (hk : k < 8) (hj : j < 2) : p_wp p_GT p_MT d m_X8_part 0 (lv_args 0 [.ref 16, .int (Int32.ofNat k), .int (Int32.ofNat j)]) [] h (fun a h2 => a = some (.int (v k j)) ∧ h2 = h) := by
  obtain ⟨e2, e20, e3, e313, e16, e161, e162, e17, el, ev, ec⟩ := hC
  have hv := ev k hk j hj
  rw [show 4 * k + j = k * 4 + j by omega] at hv
  have hc1 : p_cd .lt (Int32.ofNat (k * 4 + j)) 0 = false := by
    simp only [p_cd, decide_eq_false_iff_not]; exact g_nl (by omega)
  have hc2 : p_cd .ge (Int32.ofNat (k * 4 + j)) (Int32.ofNat rows.length) = false := by
    simp only [p_cd, decide_eq_false_iff_not]
    rw [Int32.le_iff_toInt_le, g_ofNat (by omega), g_ofNat (by omega)]; omega
  refine w_iload_n rfl rfl (w_ic 4 rfl rfl (w_mulN rfl (w_iload_n rfl rfl (w_addN rfl (w_istore_n rfl (by decide) (w_iload_n rfl p_lk_s1 (w_ifc_f rfl (t := 28) rfl hc1 (w_iload_n rfl p_lk_s1 (w_aload_n rfl (w_s1 rfl rfl (by decide)) (w_getf rfl rfl e16 e161 (w_alen rfl e17 (w_icmp_f rfl (t := 28) rfl hc2 (w_aload_n rfl (w_s1 rfl rfl (by decide)) (w_getf rfl rfl e16 e161 (w_iload_n rfl p_lk_s1 (w_ld rfl e17 (by omega) hv (w_goto rfl (t := 29) rfl (w_ireturn rfl rfl ⟨rfl, rfl⟩))))))))))))))))))
/-- what is told twice is taken or not: from pc 109 on -/
theorem sp_pick {lo : Bool} {days more u l : Int} {ls : p_Ls} (b1 : -999 ≤ days ∧ days ≤ 999) (b2 : -100 ≤ more ∧ more ≤ 100) (bs : sp_bd (u, l)) (hlo : lo = decide (what < Int32.ofNat 2)) (l1 : p_lk 1 ls = some (.int what)) (l3 : p_lk 3 ls = some (.int (Int32.ofInt l))) (l6 : p_lk 6 ls = some (.int (Int32.ofInt days))) (l8 : p_lk 8 ls = some (.int (Int32.ofInt (more * l - u * days)))) (hT : sp_ok lo days more u l = true → p_wp p_GT p_MT d m_X11_speed 136 ls [] h Q) (hF : sp_ok lo days more u l = false → p_wp p_GT p_MT d m_X11_speed 142 ls [] h Q) : p_wp p_GT p_MT d m_X11_speed 109 ls [] h Q := by
  obtain ⟨c1, c2, c3, c4⟩ := bs
  simp only at c1 c2 c3 c4
  refine w_iload rfl l6 ?_
  by_cases q : 0 < days
  · refine w_ifc_f rfl (t := 142) rfl (by rw [sp_z, sp_le (by omega) (by omega) (by omega) (by omega)]; exact decide_eq_false (by omega)) (w_iload_n rfl l3 ?_)
    by_cases q2 : l = 0
    · refine w_ifc_t rfl (t := 136) rfl (by rw [sp_z, sp_eq (by omega) (by omega) (by omega) (by omega)]; exact decide_eq_true q2) (hT ?_)
      unfold sp_ok
      rw [decide_eq_true q, decide_eq_true q2]; rfl
    · have p1 := sp_pr b2.1 b2.2 c3 c4
      have p2 := sp_pr c1 c2 (show 0 ≤ days by omega) b1.2
      refine w_ifc_f rfl (t := 136) rfl (by rw [sp_z, sp_eq (by omega) (by omega) (by omega) (by omega)]; exact decide_eq_false q2) (w_iload_n rfl l1 (w_ic 2 rfl rfl ?_))
      unfold sp_ok at hT hF
      rw [decide_eq_true q, decide_eq_false q2, Bool.true_and, Bool.false_or] at hT hF
      by_cases q3 : what < Int32.ofNat 2
      · have q4 : lo = true := by rw [hlo]; exact decide_eq_true q3
        rw [if_pos q4] at hT hF
        refine w_icmp_f rfl (t := 131) rfl (by simp only [p_cd, decide_eq_false_iff_not]; rw [Int32.lt_iff_toInt_lt] at q3; rw [Int32.le_iff_toInt_le]; omega) (w_iload rfl l8 ?_)
        by_cases q5 : u * days < more * l
        · exact w_ifc_f rfl (t := 142) rfl (by rw [sp_z, sp_le (by omega) (by omega) (by omega) (by omega)]; exact decide_eq_false (by omega)) (w_goto rfl (t := 136) rfl (hT (decide_eq_true q5)))
        · exact w_ifc_t rfl (t := 142) rfl (by rw [sp_z, sp_le (by omega) (by omega) (by omega) (by omega)]; exact decide_eq_true (by omega)) (hF (decide_eq_false q5))
      · have q4 : ¬ lo = true := by rw [hlo]; simpa using q3
        rw [if_neg q4] at hT hF
        refine w_icmp_t rfl (t := 131) rfl (by simp only [p_cd, decide_eq_true_eq]; rw [Int32.lt_iff_toInt_lt] at q3; rw [Int32.le_iff_toInt_le]; omega) (w_iload rfl l8 ?_)
        by_cases q5 : more * l < u * days
        · exact w_ifc_f rfl (t := 142) rfl (by rw [sp_z, sp_ge (by omega) (by omega) (by omega) (by omega)]; exact decide_eq_false (by omega)) (hT (decide_eq_true q5))
        · exact w_ifc_t rfl (t := 142) rfl (by rw [sp_z, sp_ge (by omega) (by omega) (by omega) (by omega)]; exact decide_eq_true (by omega)) (hF (decide_eq_false q5))
  · refine w_ifc_t rfl (t := 142) rfl (by rw [sp_z, sp_le (by omega) (by omega) (by omega) (by omega)]; exact decide_eq_true (by omega)) (hF ?_)
    unfold sp_ok
    rw [decide_eq_false q, Bool.false_and]
theorem sp_cin {lo : Bool} {i : Nat} {s : Int × Int} (hC : sp_C h f2 f3 f16 rows c v) (hD : ∀ k, k < 8 → 0 ≤ sp_D v k ∧ sp_D v k ≤ 999) (hE : ∀ k, k < 8 → 0 ≤ sp_E v k ∧ sp_E v k ≤ 100) (hi : i < c) (hs : sp_bd s) (hlo : lo = decide (what < Int32.ofNat 2)) (hN : ∀ ls, p_lk 0 ls = some (.ref 2) → p_lk 1 ls = some (.int what) → p_lk 2 ls = some (.int (Int32.ofInt (sp_in lo (sp_D v) (sp_E v) i s c).1)) → p_lk 3 ls = some (.int (Int32.ofInt (sp_in lo (sp_D v) (sp_E v) i s c).2)) → p_lk 4 ls = some (.int (Int32.ofNat i)) → p_wp p_GT p_MT (d + 1) m_X11_speed 148 ls [] h Q) : ∀ j k ls, k + j = c → p_lk 0 ls = some (.ref 2) → p_lk 1 ls = some (.int what) → p_lk 2 ls = some (.int (Int32.ofInt (sp_in lo (sp_D v) (sp_E v) i s k).1)) → p_lk 3 ls = some (.int (Int32.ofInt (sp_in lo (sp_D v) (sp_E v) i s k).2)) → p_lk 4 ls = some (.int (Int32.ofNat i)) → p_lk 5 ls = some (.int (Int32.ofNat k)) → p_wp p_GT p_MT (d + 1) m_X11_speed 25 ls [] h Q := by
  intro j
  induction j with
  | zero =>
    intro k ls hk l0 l1 l2 l3 l4 l5
    have hk : k = c := hk
    subst hk
    obtain ⟨e2, e20, e3, e313, e16, e161, e162, e17, el, ev, ec⟩ := hC
    exact w_iload rfl l5 (w_aload_n rfl l0 (w_getf rfl rfl e2 e20 (w_getf rfl rfl e3 e313 (w_getf rfl rfl e16 e162 (w_icmp_t rfl (t := 148) rfl (by simp [p_cd]) (hN ls l0 l1 l2 l3 l4))))))
  | succ j ih =>
    intro k ls hk l0 l1 l2 l3 l4 l5
    have hC' := hC
    obtain ⟨e2, e20, e3, e313, e16, e161, e162, e17, el, ev, ec⟩ := hC
    have hc : p_cd .ge (Int32.ofNat k) (Int32.ofNat c) = false := by
      simp only [p_cd, decide_eq_false_iff_not]
      rw [Int32.le_iff_toInt_le, g_ofNat (by omega), g_ofNat (by omega)]; omega
    have bs := sp_in_bd (lo := lo) hD hE (show i < 8 by omega) hs k (by omega)
    have d1 := hD k (by omega)
    have d2 := hD i (by omega)
    have m1 := hE k (by omega)
    have m2 := hE i (by omega)
    refine w_iload rfl l5 (w_aload_n rfl l0 (w_getf rfl rfl e2 e20 (w_getf rfl rfl e3 e313 (w_getf rfl rfl e16 e162 (w_icmp_f rfl (t := 148) rfl hc ?_)))))
    refine w_aload_n rfl l0 (w_getf rfl rfl e2 e20 (w_getf rfl rfl e3 e313 (w_iload rfl l5 (w_ic 0 rfl rfl (w_virtual (dc := d) (M' := m_X8_part) rfl (g_vir (n := 3) rfl rfl (by simp [p_cat, p_bd]) rfl rfl e16 rfl) rfl rfl (Nat.le_refl _) (sp_part hC' (k := k) (j := 0) (by omega) (by decide)) ?_)))))
    rintro a h2 ⟨rfl, rfl⟩
    refine w_aload_n rfl l0 (w_getf rfl rfl e2 e20 (w_getf rfl rfl e3 e313 (w_iload rfl l4 (w_ic 0 rfl rfl (w_virtual (dc := d) (M' := m_X8_part) rfl (g_vir (n := 3) rfl rfl (by simp [p_cat, p_bd, Value.category]) rfl rfl e16 rfl) rfl rfl (Nat.le_refl _) (sp_part hC' (k := i) (j := 0) (by omega) (by decide)) ?_)))))
    rintro a h2 ⟨rfl, rfl⟩
    refine w_isub rfl (w_istore rfl (by decide) ?_)
    rw [sp_df (x := v k 0) (y := v i 0)]
    have n0 := w_s1 (i := 6) (v := .int (Int32.ofInt ((v k 0).toInt - (v i 0).toInt))) l0 rfl (by decide)
    have n1 := w_s1 (i := 6) (v := .int (Int32.ofInt ((v k 0).toInt - (v i 0).toInt))) l1 rfl (by decide)
    have n2 := w_s1 (i := 6) (v := .int (Int32.ofInt ((v k 0).toInt - (v i 0).toInt))) l2 rfl (by decide)
    have n3 := w_s1 (i := 6) (v := .int (Int32.ofInt ((v k 0).toInt - (v i 0).toInt))) l3 rfl (by decide)
    have n4 := w_s1 (i := 6) (v := .int (Int32.ofInt ((v k 0).toInt - (v i 0).toInt))) l4 rfl (by decide)
    have n5 := w_s1 (i := 6) (v := .int (Int32.ofInt ((v k 0).toInt - (v i 0).toInt))) l5 rfl (by decide)
    refine w_aload_n rfl n0 (w_getf rfl rfl e2 e20 (w_getf rfl rfl e3 e313 (w_iload rfl n5 (w_ic 1 rfl rfl (w_virtual (dc := d) (M' := m_X8_part) rfl (g_vir (n := 3) rfl rfl (by simp [p_cat, p_bd]) rfl rfl e16 rfl) rfl rfl (Nat.le_refl _) (sp_part hC' (k := k) (j := 1) (by omega) (by decide)) ?_)))))
    rintro a h2 ⟨rfl, rfl⟩
    refine w_aload_n rfl n0 (w_getf rfl rfl e2 e20 (w_getf rfl rfl e3 e313 (w_iload rfl n4 (w_ic 1 rfl rfl (w_virtual (dc := d) (M' := m_X8_part) rfl (g_vir (n := 3) rfl rfl (by simp [p_cat, p_bd, Value.category]) rfl rfl e16 rfl) rfl rfl (Nat.le_refl _) (sp_part hC' (k := i) (j := 1) (by omega) (by decide)) ?_)))))
    rintro a h2 ⟨rfl, rfl⟩
    refine w_isub rfl (w_istore rfl (by decide) ?_)
    rw [sp_df (x := v k 1) (y := v i 1)]
    refine w_iload rfl p_lk_s1 (w_iload_n rfl (w_s1 n3 rfl (by decide)) (w_imul rfl (w_iload_n rfl (w_s1 n2 rfl (by decide)) (w_iload rfl (w_s1 p_lk_s1 rfl (by decide)) (w_imul rfl (w_isub rfl (w_istore rfl (by decide) ?_)))))))
    rw [← Int32.ofInt_mul, ← Int32.ofInt_mul, ← Int32.ofInt_sub]
    have sc : ∀ ls, p_lk 0 ls = some (.ref 2) → p_lk 1 ls = some (.int what) → p_lk 2 ls = some (.int (Int32.ofInt (sp_in lo (sp_D v) (sp_E v) i s (k + 1)).1)) → p_lk 3 ls = some (.int (Int32.ofInt (sp_in lo (sp_D v) (sp_E v) i s (k + 1)).2)) → p_lk 4 ls = some (.int (Int32.ofNat i)) → p_lk 5 ls = some (.int (Int32.ofNat k)) → p_wp p_GT p_MT (d + 1) m_X11_speed 142 ls [] h2 Q := by
      intro ls l0 l1 l2 l3 l4 l5
      refine w_iinc rfl l5 (by decide) (w_goto rfl (t := 25) rfl ?_)
      rw [show Int32.ofInt 1 = Int32.ofNat 1 from rfl, g_add (by omega)]
      exact ih (k + 1) _ (by omega) (w_s1 l0 rfl (by decide)) (w_s1 l1 rfl (by decide)) (w_s1 l2 rfl (by decide)) (w_s1 l3 rfl (by decide)) (w_s1 l4 rfl (by decide)) p_lk_s1
    refine sp_pick (lo := lo) (days := sp_D v k - sp_D v i) (more := sp_E v k - sp_E v i) (u := (sp_in lo (sp_D v) (sp_E v) i s k).1) (l := (sp_in lo (sp_D v) (sp_E v) i s k).2) (by constructor <;> omega) (by constructor <;> omega) bs hlo (w_s1 (w_s1 n1 rfl (by decide)) rfl (by decide)) (w_s1 (w_s1 n3 rfl (by decide)) rfl (by decide)) (w_s1 (w_s1 p_lk_s1 rfl (by decide)) rfl (by decide)) p_lk_s1 (fun e => ?_) (fun e => ?_)
    · refine w_iload rfl (w_s1 p_lk_s1 rfl (by decide)) (w_istore_n rfl (by decide) (w_iload rfl (w_s1 (w_s1 (w_s1 p_lk_s1 rfl (by decide)) rfl (by decide)) rfl (by decide)) (w_istore_n rfl (by decide) ?_)))
      refine sc _ (w_s1 (w_s1 (w_s1 (w_s1 n0 rfl (by decide)) rfl (by decide)) rfl (by decide)) rfl (by decide)) (w_s1 (w_s1 (w_s1 (w_s1 n1 rfl (by decide)) rfl (by decide)) rfl (by decide)) rfl (by decide)) ?_ ?_ (w_s1 (w_s1 (w_s1 (w_s1 n4 rfl (by decide)) rfl (by decide)) rfl (by decide)) rfl (by decide)) (w_s1 (w_s1 (w_s1 (w_s1 n5 rfl (by decide)) rfl (by decide)) rfl (by decide)) rfl (by decide))
      · simp only [sp_in]
        rw [if_pos e]
        exact w_s1 p_lk_s1 rfl (by decide)
      · simp only [sp_in]
        rw [if_pos e]
        exact p_lk_s1
    · refine sc _ (w_s1 (w_s1 n0 rfl (by decide)) rfl (by decide)) (w_s1 (w_s1 n1 rfl (by decide)) rfl (by decide)) ?_ ?_ (w_s1 (w_s1 n4 rfl (by decide)) rfl (by decide)) (w_s1 (w_s1 n5 rfl (by decide)) rfl (by decide))
      · simp only [sp_in]
        rw [if_neg (by rw [e]; decide)]
        exact w_s1 (w_s1 n2 rfl (by decide)) rfl (by decide)
      · simp only [sp_in]
        rw [if_neg (by rw [e]; decide)]
        exact w_s1 (w_s1 n3 rfl (by decide)) rfl (by decide)
theorem sp_cout {lo : Bool} (hC : sp_C h f2 f3 f16 rows c v) (hD : ∀ k, k < 8 → 0 ≤ sp_D v k ∧ sp_D v k ≤ 999) (hE : ∀ k, k < 8 → 0 ≤ sp_E v k ∧ sp_E v k ≤ 100) (hlo : lo = decide (what < Int32.ofNat 2)) (hN : ∀ ls, p_lk 0 ls = some (.ref 2) → p_lk 1 ls = some (.int what) → p_lk 2 ls = some (.int (Int32.ofInt (sp_out lo (sp_D v) (sp_E v) c c).1)) → p_lk 3 ls = some (.int (Int32.ofInt (sp_out lo (sp_D v) (sp_E v) c c).2)) → p_wp p_GT p_MT (d + 1) m_X11_speed 154 ls [] h Q) : ∀ j i ls, i + j = c → p_lk 0 ls = some (.ref 2) → p_lk 1 ls = some (.int what) → p_lk 2 ls = some (.int (Int32.ofInt (sp_out lo (sp_D v) (sp_E v) c i).1)) → p_lk 3 ls = some (.int (Int32.ofInt (sp_out lo (sp_D v) (sp_E v) c i).2)) → p_lk 4 ls = some (.int (Int32.ofNat i)) → p_wp p_GT p_MT (d + 1) m_X11_speed 7 ls [] h Q := by
  intro j
  induction j with
  | zero =>
    intro i ls hi l0 l1 l2 l3 l4
    have hi : i = c := hi
    subst hi
    obtain ⟨e2, e20, e3, e313, e16, e161, e162, e17, el, ev, ec⟩ := hC
    exact w_iload rfl l4 (w_aload_n rfl l0 (w_getf rfl rfl e2 e20 (w_getf rfl rfl e3 e313 (w_getf rfl rfl e16 e162 (w_icmp_t rfl (t := 154) rfl (by simp [p_cd]) (hN ls l0 l1 l2 l3))))))
  | succ j ih =>
    intro i ls hi l0 l1 l2 l3 l4
    have hC' := hC
    obtain ⟨e2, e20, e3, e313, e16, e161, e162, e17, el, ev, ec⟩ := hC
    have hc : p_cd .ge (Int32.ofNat i) (Int32.ofNat c) = false := by
      simp only [p_cd, decide_eq_false_iff_not]
      rw [Int32.le_iff_toInt_le, g_ofNat (by omega), g_ofNat (by omega)]; omega
    refine w_iload rfl l4 (w_aload_n rfl l0 (w_getf rfl rfl e2 e20 (w_getf rfl rfl e3 e313 (w_getf rfl rfl e16 e162 (w_icmp_f rfl (t := 154) rfl hc (w_ic 0 rfl rfl (w_istore rfl (by decide) ?_)))))))
    refine sp_cin (lo := lo) (i := i) (s := sp_out lo (sp_D v) (sp_E v) c i) hC' hD hE (by omega) (sp_out_bd hD hE (by omega) i (by omega)) hlo (fun ls m0 m1 m2 m3 m4 => ?_) c 0 _ (by omega) (w_s1 l0 rfl (by decide)) (w_s1 l1 rfl (by decide)) (w_s1 l2 rfl (by decide)) (w_s1 l3 rfl (by decide)) (w_s1 l4 rfl (by decide)) p_lk_s1
    refine w_iinc rfl m4 (by decide) (w_goto rfl (t := 7) rfl ?_)
    rw [show Int32.ofInt 1 = Int32.ofNat 1 from rfl, g_add (by omega)]
    exact ih (i + 1) _ (by omega) (w_s1 m0 rfl (by decide)) (w_s1 m1 rfl (by decide)) (w_s1 m2 rfl (by decide)) (w_s1 m3 rfl (by decide)) p_lk_s1
theorem sp_quo {g : Nat} {x : Int} (hg : 1 ≤ g) (hg2 : g ≤ 1000) (h1 : -1000 ≤ x) (h2 : x ≤ 1000) : Int32.ofInt x / Int32.ofNat g = Int32.ofInt (x.tdiv g) := by
  rw [sp_on, Int32.ofInt_tdiv (by rw [show Int32.minValue.toInt = -2147483648 by decide]; omega) (by rw [show Int32.maxValue.toInt = 2147483647 by decide]; omega) (by rw [show Int32.minValue.toInt = -2147483648 by decide]; omega) (by rw [show Int32.maxValue.toInt = 2147483647 by decide]; omega)]
theorem sp_g1 {u l : Int} (h3 : 0 < l) (h4 : l ≤ 999) : 1 ≤ Nat.gcd u.natAbs l.natAbs ∧ Nat.gcd u.natAbs l.natAbs ≤ 999 := by
  have h5 : 0 < l.natAbs := by omega
  have q1 : 0 < Nat.gcd u.natAbs l.natAbs := Nat.gcd_pos_of_pos_right _ h5
  have q2 := Nat.le_of_dvd h5 (Nat.gcd_dvd_right u.natAbs l.natAbs)
  omega
theorem sp_even : ∀ w, w < 4 → Int32.ofNat w - Int32.ofNat w / Int32.ofNat 2 * Int32.ofNat 2 = Int32.ofNat (w % 2) := by decide
/-- the class's speed, asked as it can be -/
theorem sp_cspeed {w : Nat} (hC : sp_C h f2 f3 f16 rows c v) (hD : ∀ k, k < 8 → 0 ≤ sp_D v k ∧ sp_D v k ≤ 999) (hE : ∀ k, k < 8 → 0 ≤ sp_E v k ∧ sp_E v k ≤ 100) (hw : w < 4) : p_wp p_GT p_MT (d + 2) m_X11_speed 0 (lv_args 0 [.ref 2, .int (Int32.ofNat w)]) [] h (fun a h2 => a = some (.int (Int32.ofInt (sp_ans w (sp_out (decide (w < 2)) (sp_D v) (sp_E v) c c)))) ∧ h2 = h) := by
  have ec : c ≤ 8 := hC.2.2.2.2.2.2.2.2.2.2
  have hlo : decide (w < 2) = decide (Int32.ofNat w < Int32.ofNat 2) := decide_eq_decide.mpr (by rw [Int32.lt_iff_toInt_lt, g_ofNat (by omega), g_ofNat (by omega)]; omega)
  obtain ⟨c1, c2, c3, c4⟩ := sp_out_bd (lo := decide (w < 2)) hD hE ec c ec
  refine w_iconst rfl (w_istore_n rfl (by decide) (w_iconst rfl (w_istore_n rfl (by decide) (w_ic 0 rfl rfl (w_istore rfl (by decide) ?_)))))
  refine sp_cout (d := d + 1) (lo := decide (w < 2)) hC hD hE hlo (fun ls m0 m1 m2 m3 => ?_) c 0 _ (by omega) (w_s1 (w_s1 (w_s1 rfl rfl (by decide)) rfl (by decide)) rfl (by decide)) (w_s1 (w_s1 (w_s1 rfl rfl (by decide)) rfl (by decide)) rfl (by decide)) (w_s1 (w_s1 p_lk_s1 rfl (by decide)) rfl (by decide)) (w_s1 p_lk_s1 rfl (by decide)) p_lk_s1
  refine w_iload_n rfl m3 ?_
  by_cases q : (sp_out (decide (w < 2)) (sp_D v) (sp_E v) c c).2 = 0
  · refine w_ifc_t rfl (t := 167) rfl (by rw [sp_z, sp_eq (by omega) (by omega) (by omega) (by omega)]; exact decide_eq_true q) (w_ldcw rfl rfl (w_ireturn rfl rfl ⟨?_, rfl⟩))
    unfold sp_ans
    rw [if_pos q]
  · obtain ⟨g1, g2⟩ := sp_g1 (u := (sp_out (decide (w < 2)) (sp_D v) (sp_E v) c c).1) (show 0 < (sp_out (decide (w < 2)) (sp_D v) (sp_E v) c c).2 by omega) c4
    have gm : max 1 (Nat.gcd (sp_out (decide (w < 2)) (sp_D v) (sp_E v) c c).1.natAbs (sp_out (decide (w < 2)) (sp_D v) (sp_E v) c c).2.natAbs) = Nat.gcd (sp_out (decide (w < 2)) (sp_D v) (sp_E v) c c).1.natAbs (sp_out (decide (w < 2)) (sp_D v) (sp_E v) c c).2.natAbs := Nat.max_eq_right g1
    have gz : ¬ Int32.ofNat (max 1 (Nat.gcd (sp_out (decide (w < 2)) (sp_D v) (sp_E v) c c).1.natAbs (sp_out (decide (w < 2)) (sp_D v) (sp_E v) c c).2.natAbs)) = 0 := fun e => by
      have := congrArg Int32.toInt e
      rw [gm, g_ofNat (by omega)] at this
      simp only [Int32.toInt_zero] at this
      omega
    refine w_ifc_f rfl (t := 167) rfl (by rw [sp_z, sp_eq (by omega) (by omega) (by omega) (by omega)]; exact decide_eq_false q) (w_iload_n rfl m1 (w_iconst rfl (w_iconst rfl (w_static (nn := 0) (dc := d + 1) (M' := m_X11_within) rfl rfl rfl rfl (Nat.le_refl _) b_within ?_))))
    rintro a h2 ⟨rfl, rfl⟩
    rw [if_pos (by rw [Int32.le_iff_toInt_le, Int32.le_iff_toInt_le, g_ofNat (by omega), sp_ti (by omega) (by omega), sp_ti (by omega) (by omega)]; omega)]
    refine w_ifc_t rfl (t := 171) rfl (by decide) (w_iload_n rfl m1 (w_ic 2 rfl rfl (w_irem rfl (by decide) ?_)))
    rw [sp_even w hw]
    have fin : ∀ x : Int, -1000 ≤ x → x ≤ 1000 → x = (if w % 2 = 0 then (sp_out (decide (w < 2)) (sp_D v) (sp_E v) c c).1 else (sp_out (decide (w < 2)) (sp_D v) (sp_E v) c c).2) → p_wp p_GT p_MT (d + 2) m_X11_speed 182 ls [.int (Int32.ofInt x)] h2 (fun a h3 => a = some (.int (Int32.ofInt (sp_ans w (sp_out (decide (w < 2)) (sp_D v) (sp_E v) c c)))) ∧ h3 = h2) := by
      intro x x1 x2 ex
      refine w_iload_n rfl m2 (w_iload_n rfl m3 (w_static (nn := 0) (dc := d + 1) (M' := m_X11_divisor) rfl rfl rfl rfl (Nat.le_refl _) (sp_divisor c1 c2 c3 c4) ?_))
      rintro a h3 ⟨rfl, rfl⟩
      refine w_idiv rfl gz (w_ireturn rfl rfl ⟨?_, rfl⟩)
      rw [gm, sp_quo g1 (by omega) x1 x2]
      unfold sp_ans
      rw [if_neg q, ← ex]
    by_cases q2 : w % 2 = 0
    · refine w_ifc_f rfl (t := 181) rfl (by rw [q2]; decide) (w_iload_n rfl m2 (w_goto rfl (t := 182) rfl (fin _ (by omega) (by omega) ?_)))
      rw [if_pos q2]
    · refine w_ifc_t rfl (t := 181) rfl (by rw [show w % 2 = 1 by omega]; decide) (w_iload_n rfl m3 (fin _ (by omega) (by omega) ?_))
      rw [if_neg q2]
/-- others -/
theorem sp_cspeed_no (hC : sp_C h f2 f3 f16 rows c v) (hD : ∀ k, k < 8 → 0 ≤ sp_D v k ∧ sp_D v k ≤ 999) (hE : ∀ k, k < 8 → 0 ≤ sp_E v k ∧ sp_E v k ≤ 100) (hq : ¬ (Int32.ofInt 0 ≤ what ∧ what ≤ Int32.ofInt 3)) (hQ : Q (some (.int (Int32.ofInt (-100000)))) h) : p_wp p_GT p_MT (d + 2) m_X11_speed 0 (lv_args 0 [.ref 2, .int what]) [] h Q := by
  have ec : c ≤ 8 := hC.2.2.2.2.2.2.2.2.2.2
  obtain ⟨c1, c2, c3, c4⟩ := sp_out_bd (lo := decide (what < Int32.ofNat 2)) hD hE ec c ec
  refine w_iconst rfl (w_istore_n rfl (by decide) (w_iconst rfl (w_istore_n rfl (by decide) (w_ic 0 rfl rfl (w_istore rfl (by decide) ?_)))))
  refine sp_cout (d := d + 1) (lo := decide (what < Int32.ofNat 2)) hC hD hE rfl (fun ls m0 m1 m2 m3 => ?_) c 0 _ (by omega) (w_s1 (w_s1 (w_s1 rfl rfl (by decide)) rfl (by decide)) rfl (by decide)) (w_s1 (w_s1 (w_s1 rfl rfl (by decide)) rfl (by decide)) rfl (by decide)) (w_s1 (w_s1 p_lk_s1 rfl (by decide)) rfl (by decide)) (w_s1 p_lk_s1 rfl (by decide)) p_lk_s1
  refine w_iload_n rfl m3 ?_
  by_cases q : (sp_out (decide (what < Int32.ofNat 2)) (sp_D v) (sp_E v) c c).2 = 0
  · exact w_ifc_t rfl (t := 167) rfl (by rw [sp_z, sp_eq (by omega) (by omega) (by omega) (by omega)]; exact decide_eq_true q) (w_ldcw rfl rfl (w_ireturn rfl rfl hQ))
  · refine w_ifc_f rfl (t := 167) rfl (by rw [sp_z, sp_eq (by omega) (by omega) (by omega) (by omega)]; exact decide_eq_false q) (w_iload_n rfl m1 (w_iconst rfl (w_iconst rfl (w_static (nn := 0) (dc := d + 1) (M' := m_X11_within) rfl rfl rfl rfl (Nat.le_refl _) b_within ?_))))
    rintro a h2 ⟨rfl, rfl⟩
    rw [if_neg hq]
    exact w_ifc_f rfl (t := 171) rfl (by decide) (w_ldcw rfl rfl (w_ireturn rfl rfl hQ))
end SCL

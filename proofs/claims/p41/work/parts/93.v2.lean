/-! Speed by hand: the reference's side -/
section SLX
variable {G : p_G} {MT : List p_M} {d : Nat} {M : p_M} {pc l : Nat} {ls : p_Ls} {st : List Value} {h : p_H} {Q : Option Value → p_H → Prop} {x y : Int32} {z w : Int64} {k : Nat}
theorem w_s2l {ls : p_Ls} {i j : Nat} {v : Value} {z : Int64} (hw : p_lk j ls = some (.long z)) (hne : j ≠ i) (hn1 : j ≠ i + 1) (hn2 : j + 1 ≠ i) : p_lk j (p_s2 ls i v) = some (.long z) := by
  have e : Nat.beq i j = false := by
    cases q : Nat.beq i j with
    | false => rfl
    | true => exact absurd (Nat.eq_of_beq_eq_true q).symm hne
  simp only [p_s2, p_lk, e, Bool.false_eq_true, if_false]
  refine p_lk_fil hw ?_
  have h0 : (j == i) = false := by simpa using hne
  have h1 : (j == i + 1) = false := by simpa using hn1
  have h2 : (j + 1 == i) = false := by simpa using hn2
  simp [h0, h1, h2]
theorem w_lload (hat : p_at pc M.2.2.2.2.1 = some (.lload k, l)) (hl : p_lk k ls = some (.long z)) (hk : p_wp G MT d M (pc + 2) ls (.long z :: st) h Q) : p_wp G MT d M pc ls st h Q :=
  p_wp.step hat (by simp only [p_step, p_ld, hl]; rfl) hk
theorem w_lstore (hat : p_at pc M.2.2.2.2.1 = some (.lstore k, l)) (hn : k + 1 < M.2.2.1) (hk : p_wp G MT d M (pc + 2) (p_s2 ls k (.long z)) st h Q) : p_wp G MT d M pc ls (.long z :: st) h Q :=
  p_wp.step hat (by simp only [p_step, p_sv]; exact if_pos hn) hk
theorem w_lrem (hat : p_at pc M.2.2.2.2.1 = some (.lrem, l)) (hy : ¬ w = 0) (hk : p_wp G MT d M (pc + 1) ls (.long (z - z / w * w) :: st) h Q) : p_wp G MT d M pc ls (.long w :: .long z :: st) h Q :=
  p_wp.step hat (by simp only [p_step, if_neg hy]; rfl) hk
end SLX
theorem sp_lti {a : Int} (h1 : -1000000 ≤ a) (h2 : a ≤ 1000000) : (Int64.ofInt a).toInt = a := Int64.toInt_ofInt_of_le (by omega) (by omega)
theorem sp_lon {n : Nat} : Int64.ofNat n = Int64.ofInt (n : Int) := Int64.ofInt_eq_ofNat.symm
theorem sp_i2l {a : Int} (h1 : -1000000 ≤ a) (h2 : a ≤ 1000000) : (Int32.ofInt a).toInt64 = Int64.ofInt a := Int32.toInt64_ofInt (by rw [show Int32.minValue.toInt = -2147483648 by decide]; omega) (by rw [show Int32.maxValue.toInt = 2147483647 by decide]; omega)
theorem sp_lquo {a b : Int} (h1 : -1000000 ≤ a) (h2 : a ≤ 1000000) (h3 : -1000000 ≤ b) (h4 : b ≤ 1000000) : Int64.ofInt a / Int64.ofInt b = Int64.ofInt (a.tdiv b) := by
  have m1 : Int64.minValue.toInt = -9223372036854775808 := by decide
  have m2 : Int64.maxValue.toInt = 9223372036854775807 := by decide
  rw [Int64.ofInt_tdiv (by rw [m1]; omega) (by rw [m2]; omega) (by rw [m1]; omega) (by rw [m2]; omega)]
theorem sp_lremN {a b : Nat} (ha : a < 100000) (hb : b < 100000) : Int64.ofNat a - Int64.ofNat a / Int64.ofNat b * Int64.ofNat b = Int64.ofNat (a % b) := by
  have q : Int64.ofNat a / Int64.ofNat b = Int64.ofNat (a / b) := by
    rw [sp_lon, sp_lon, sp_lon, sp_lquo (by omega) (by omega) (by omega) (by omega), Int.ofNat_tdiv]
  rw [q, sp_lon, sp_lon, sp_lon, sp_lon, ← Int64.ofInt_mul, ← Int64.ofInt_sub]
  congr 1
  have h1 := Nat.div_add_mod a b
  rw [Nat.mul_comm] at h1
  rw [← Int.natCast_mul]
  omega
theorem sp_lz {a : Int} (h1 : -1000000 ≤ a) (h2 : a ≤ 1000000) : Int64.ofInt a = 0 ↔ a = 0 := by
  rw [← Int64.toInt_inj, sp_lti h1 h2]
  exact Iff.rfl
section SGC
variable {h : p_H} {d : Nat} {Q : Option Value → p_H → Prop}
theorem sp_gcd_loop {g : Nat} (hQ : Q (some (.long (Int64.ofNat g))) h) : ∀ n a b (ls : p_Ls), a ≤ 1000 → b ≤ 1000 → b < n → Nat.gcd a b = g → p_lk 4 ls = some (.long (Int64.ofNat a)) → p_lk 6 ls = some (.long (Int64.ofNat b)) → p_wp p_GT p_MT d m_X12_gcd 17 ls [] h Q := by
  intro n
  induction n with
  | zero => intro a b ls _ _ q; exact absurd q (Nat.not_lt_zero b)
  | succ n ih =>
    intro a b ls ha hb hn hg l4 l6
    refine w_lload rfl l6 (w_lconst rfl (w_lcmp rfl ?_))
    by_cases hb0 : b = 0
    · subst hb0
      rw [Nat.gcd_zero_right] at hg
      subst hg
      exact w_ifc_t rfl (t := 42) rfl (by decide) (w_lload rfl l4 (w_lreturn rfl rfl hQ))
    · have hz : ¬ Int64.ofNat b = 0 := by rw [sp_lon, sp_lz (by omega) (by omega)]; omega
      refine w_ifc_f rfl (t := 42) rfl ?_ (w_lload rfl l4 (w_lload rfl l6 (w_lrem rfl hz ?_)))
      · simp only [p_cd, decide_eq_false_iff_not]
        rw [lg_cmp_eq]
        exact hz
      · rw [sp_lremN (by omega) (by omega)]
        have hr := Nat.mod_lt a (show 0 < b by omega)
        refine w_lstore rfl (by decide) (w_lload rfl (w_s2l l6 (by decide) (by decide) (by decide)) (w_lstore rfl (by decide) (w_lload rfl (w_s2l p_lk_s2 (by decide) (by decide) (by decide)) (w_lstore rfl (by decide) (w_goto rfl (t := 17) rfl ?_)))))
        exact ih b (a % b) _ hb (by omega) (by omega) (by rw [sp_gcd]; exact hg) (w_s2l p_lk_s2 (by decide) (by decide) (by decide)) p_lk_s2
theorem sp_rgcd {u l : Int} (h1 : -100 ≤ u) (h2 : u ≤ 100) (h3 : 0 ≤ l) (h4 : l ≤ 999) : p_wp p_GT p_MT d m_X12_gcd 0 (lv_args 0 [.long (Int64.ofInt u), .long (Int64.ofInt l)]) [] h (fun v h2 => v = some (.long (Int64.ofNat (Nat.gcd u.natAbs l.natAbs))) ∧ h2 = h) := by
  have el : Int64.ofInt l = Int64.ofNat l.natAbs := by rw [sp_lon, show ((l.natAbs : Nat) : Int) = l by omega]
  refine w_lload_n rfl rfl (w_lconst rfl (w_lcmp rfl ?_))
  by_cases q : 0 ≤ u
  · have eu : Int64.ofInt u = Int64.ofNat u.natAbs := by rw [sp_lon, show ((u.natAbs : Nat) : Int) = u by omega]
    refine w_ifc_t rfl (t := 11) rfl ?_ (w_lload_n rfl rfl (w_lstore rfl (by decide) (w_lload_n rfl (w_s2l (i := 4) (show p_lk 2 (lv_args 0 [.long (Int64.ofInt u), .long (Int64.ofInt l)]) = some (.long (Int64.ofInt l)) from rfl) (by decide) (by decide) (by decide)) (w_lstore rfl (by decide) ?_))))
    · simp only [p_cd, decide_eq_true_eq]
      rw [lg_cmp_ge, Int64.le_iff_toInt_le, sp_lti (by omega) (by omega)]
      exact q
    · rw [eu, el]
      exact sp_gcd_loop ⟨rfl, rfl⟩ 1001 _ _ _ (by omega) (by omega) (by omega) rfl (w_s2l p_lk_s2 (by decide) (by decide) (by decide)) p_lk_s2
  · have eu : -Int64.ofInt u = Int64.ofNat u.natAbs := by rw [sp_lon, ← Int64.ofInt_neg, show ((u.natAbs : Nat) : Int) = -u by omega]
    refine w_ifc_f rfl (t := 11) rfl ?_ (w_lload_n rfl rfl (w_lneg rfl (w_goto rfl (t := 12) rfl (w_lstore rfl (by decide) (w_lload_n rfl (w_s2l (i := 4) (show p_lk 2 (lv_args 0 [.long (Int64.ofInt u), .long (Int64.ofInt l)]) = some (.long (Int64.ofInt l)) from rfl) (by decide) (by decide) (by decide)) (w_lstore rfl (by decide) ?_))))))
    · simp only [p_cd, decide_eq_false_iff_not]
      rw [lg_cmp_ge, Int64.le_iff_toInt_le, sp_lti (by omega) (by omega)]
      exact q
    · rw [eu, el]
      exact sp_gcd_loop ⟨rfl, rfl⟩ 1001 _ _ _ (by omega) (by omega) (by omega) rfl (w_s2l p_lk_s2 (by decide) (by decide) (by decide)) p_lk_s2
theorem sp_rpart {u l : Int} {b : Bool} (h1 : -100 ≤ u) (h2 : u ≤ 100) (h3 : 0 < l) (h4 : l ≤ 999) : p_wp p_GT p_MT (d + 1) m_X12_part 0 (lv_args 0 [.long (Int64.ofInt u), .long (Int64.ofInt l), .int (match b with | true => Int32.ofInt 1 | false => Int32.ofInt 0)]) [] h (fun v h2 => v = some (.long (Int64.ofInt ((if b then l else u).tdiv (Nat.gcd u.natAbs l.natAbs : Nat)))) ∧ h2 = h) := by
  obtain ⟨g1, g2⟩ := sp_g1 (u := u) h3 h4
  have hz : ¬ Int64.ofNat (Nat.gcd u.natAbs l.natAbs) = 0 := by rw [sp_lon, sp_lz (by omega) (by omega)]; omega
  have fin : ∀ x : Int, -1000 ≤ x → x ≤ 1000 → x = (if b then l else u) → ∀ ls, p_lk 0 ls = some (.long (Int64.ofInt u)) → p_lk 2 ls = some (.long (Int64.ofInt l)) → p_wp p_GT p_MT (d + 1) m_X12_part 10 ls [.long (Int64.ofInt x)] h (fun v h2 => v = some (.long (Int64.ofInt ((if b then l else u).tdiv (Nat.gcd u.natAbs l.natAbs : Nat)))) ∧ h2 = h) := by
    intro x x1 x2 ex ls l0 l2
    refine w_lload_n rfl l0 (w_lload_n rfl l2 (w_static (nn := 0) (dc := d) (M' := m_X12_gcd) rfl rfl rfl rfl (Nat.le_refl _) (sp_rgcd h1 h2 (by omega) h4) ?_))
    rintro v h2 ⟨rfl, rfl⟩
    refine w_ldiv rfl hz (w_lreturn rfl rfl ⟨?_, rfl⟩)
    rw [sp_lon, sp_lquo (by omega) (by omega) (by omega) (by omega), ← ex]
  cases b with
  | true => exact w_iload rfl rfl (w_ifc_f rfl (t := 9) rfl (by decide) (w_lload_n rfl rfl (w_goto rfl (t := 10) rfl (fin l (by omega) (by omega) rfl _ rfl rfl))))
  | false => exact w_iload rfl rfl (w_ifc_t rfl (t := 9) rfl (by decide) (w_lload_n rfl rfl (fin u (by omega) (by omega) rfl _ rfl rfl)))
end SGC
section SRL
variable {h : p_H} {d c : Nat} {vs ws : List Value} {v : Nat → Nat → Int32} {what : Int32} {Q : Option Value → p_H → Prop}
/-- the reference's measures -/
def sp_R (h : p_H) (vs ws : List Value) (c : Nat) (v : Nat → Nat → Int32) : Prop := h[64]? = some (0, 12, vs) ∧ vs[0]? = some (.ref 65) ∧ h[65]? = some (1, 0, ws) ∧ ws[7]? = some (.int (Int32.ofNat c)) ∧ (∀ k, k < 8 → ∀ j, j < 2 → ws[339 + 2 * k + j]? = some (.int (v k j))) ∧ c ≤ 8
theorem sp_rpick {lo : Bool} {days more u l : Int} {ls : p_Ls} (b1 : -999 ≤ days ∧ days ≤ 999) (b2 : -100 ≤ more ∧ more ≤ 100) (bs : sp_bd (u, l)) (hlo : lo = decide (what < Int32.ofNat 2)) (l1 : p_lk 1 ls = some (.int what)) (l2 : p_lk 2 ls = some (.int (Int32.ofInt u))) (l3 : p_lk 3 ls = some (.int (Int32.ofInt l))) (l6 : p_lk 6 ls = some (.int (Int32.ofInt days))) (l7 : p_lk 7 ls = some (.int (Int32.ofInt more))) (hT : sp_ok lo days more u l = true → p_wp p_GT p_MT d m_X12_speed 151 ls [] h Q) (hF : sp_ok lo days more u l = false → p_wp p_GT p_MT d m_X12_speed 157 ls [] h Q) : p_wp p_GT p_MT d m_X12_speed 109 ls [] h Q := by
  obtain ⟨c1, c2, c3, c4⟩ := bs
  simp only at c1 c2 c3 c4
  refine w_iload rfl l6 ?_
  by_cases q : 0 < days
  · refine w_ifc_f rfl (t := 157) rfl (by rw [sp_z, sp_le (by omega) (by omega) (by omega) (by omega)]; exact decide_eq_false (by omega)) (w_iload_n rfl l3 ?_)
    by_cases q2 : l = 0
    · refine w_ifc_t rfl (t := 151) rfl (by rw [sp_z, sp_le (by omega) (by omega) (by omega) (by omega)]; exact decide_eq_true (by omega)) (hT ?_)
      unfold sp_ok
      rw [decide_eq_true q, decide_eq_true q2]; rfl
    · have p1 := sp_pr b2.1 b2.2 c3 c4
      have p2 := sp_pr c1 c2 (show 0 ≤ days by omega) b1.2
      refine w_ifc_f rfl (t := 151) rfl (by rw [sp_z, sp_le (by omega) (by omega) (by omega) (by omega)]; exact decide_eq_false (by omega)) (w_iload_n rfl l1 (w_ic 2 rfl rfl ?_))
      unfold sp_ok at hT hF
      rw [decide_eq_true q, decide_eq_false q2, Bool.true_and, Bool.false_or] at hT hF
      by_cases q3 : what < Int32.ofNat 2
      · have q4 : lo = true := by rw [hlo]; exact decide_eq_true q3
        rw [if_pos q4] at hT hF
        refine w_icmp_f rfl (t := 137) rfl (by simp only [p_cd, decide_eq_false_iff_not]; rw [Int32.lt_iff_toInt_lt] at q3; rw [Int32.le_iff_toInt_le]; omega) (w_iload rfl l7 (w_iload_n rfl l3 (w_imul rfl (w_iload_n rfl l2 (w_iload rfl l6 (w_imul rfl ?_))))))
        rw [← Int32.ofInt_mul, ← Int32.ofInt_mul]
        by_cases q5 : u * days < more * l
        · exact w_icmp_t rfl (t := 151) rfl (by rw [sp_gt (by omega) (by omega) (by omega) (by omega)]; exact decide_eq_true q5) (hT (decide_eq_true q5))
        · exact w_icmp_f rfl (t := 151) rfl (by rw [sp_gt (by omega) (by omega) (by omega) (by omega)]; exact decide_eq_false q5) (w_goto rfl (t := 157) rfl (hF (decide_eq_false q5)))
      · have q4 : ¬ lo = true := by rw [hlo]; simpa using q3
        rw [if_neg q4] at hT hF
        refine w_icmp_t rfl (t := 137) rfl (by simp only [p_cd, decide_eq_true_eq]; rw [Int32.lt_iff_toInt_lt] at q3; rw [Int32.le_iff_toInt_le]; omega) (w_iload rfl l7 (w_iload_n rfl l3 (w_imul rfl (w_iload_n rfl l2 (w_iload rfl l6 (w_imul rfl ?_))))))
        rw [← Int32.ofInt_mul, ← Int32.ofInt_mul]
        by_cases q5 : more * l < u * days
        · exact w_icmp_t rfl (t := 151) rfl (by rw [sp_lt (by omega) (by omega) (by omega) (by omega)]; exact decide_eq_true q5) (hT (decide_eq_true q5))
        · exact w_icmp_f rfl (t := 151) rfl (by rw [sp_lt (by omega) (by omega) (by omega) (by omega)]; exact decide_eq_false q5) (w_goto rfl (t := 157) rfl (hF (decide_eq_false q5)))
  · refine w_ifc_t rfl (t := 157) rfl (by rw [sp_z, sp_le (by omega) (by omega) (by omega) (by omega)]; exact decide_eq_true (by omega)) (hF ?_)
    unfold sp_ok
    rw [decide_eq_false q, Bool.false_and]
theorem sp_rin {lo : Bool} {i : Nat} {s : Int × Int} (hR : sp_R h vs ws c v) (hD : ∀ k, k < 8 → 0 ≤ sp_D v k ∧ sp_D v k ≤ 999) (hE : ∀ k, k < 8 → 0 ≤ sp_E v k ∧ sp_E v k ≤ 100) (hi : i < c) (hs : sp_bd s) (hlo : lo = decide (what < Int32.ofNat 2)) (hN : ∀ ls, p_lk 0 ls = some (.ref 64) → p_lk 1 ls = some (.int what) → p_lk 2 ls = some (.int (Int32.ofInt (sp_in lo (sp_D v) (sp_E v) i s c).1)) → p_lk 3 ls = some (.int (Int32.ofInt (sp_in lo (sp_D v) (sp_E v) i s c).2)) → p_lk 4 ls = some (.int (Int32.ofNat i)) → p_wp p_GT p_MT d m_X12_speed 163 ls [] h Q) : ∀ j k ls, k + j = c → p_lk 0 ls = some (.ref 64) → p_lk 1 ls = some (.int what) → p_lk 2 ls = some (.int (Int32.ofInt (sp_in lo (sp_D v) (sp_E v) i s k).1)) → p_lk 3 ls = some (.int (Int32.ofInt (sp_in lo (sp_D v) (sp_E v) i s k).2)) → p_lk 4 ls = some (.int (Int32.ofNat i)) → p_lk 5 ls = some (.int (Int32.ofNat k)) → p_wp p_GT p_MT d m_X12_speed 35 ls [] h Q := by
  intro j
  induction j with
  | zero =>
    intro k ls hk l0 l1 l2 l3 l4 l5
    have hk : k = c := hk
    subst hk
    obtain ⟨e64, e0, e65, e7, ev, ec⟩ := hR
    exact w_iload rfl l5 (w_aload_n rfl l0 (w_getf rfl rfl e64 e0 (w_bp 7 rfl rfl (w_ld rfl e65 (by decide) e7 (w_icmp_t rfl (t := 163) rfl (by simp [p_cd]) (hN ls l0 l1 l2 l3 l4))))))
  | succ j ih =>
    intro k ls hk l0 l1 l2 l3 l4 l5
    obtain ⟨e64, e0, e65, e7, ev, ec⟩ := hR
    have hc : p_cd .ge (Int32.ofNat k) (Int32.ofNat c) = false := by
      simp only [p_cd, decide_eq_false_iff_not]
      rw [Int32.le_iff_toInt_le, g_ofNat (by omega), g_ofNat (by omega)]; omega
    have bs := sp_in_bd (lo := lo) hD hE (show i < 8 by omega) hs k (by omega)
    have d1 := hD k (by omega)
    have d2 := hD i (by omega)
    have m1 := hE k (by omega)
    have m2 := hE i (by omega)
    refine w_iload rfl l5 (w_aload_n rfl l0 (w_getf rfl rfl e64 e0 (w_bp 7 rfl rfl (w_ld rfl e65 (by decide) e7 (w_icmp_f rfl (t := 163) rfl hc ?_)))))
    refine w_aload_n rfl l0 (w_getf rfl rfl e64 e0 (w_sp 339 rfl rfl (w_ic 2 rfl rfl (w_iload rfl l5 (w_mulN rfl (w_addN rfl (w_ld rfl e65 (by omega) (ev k (by omega) 0 (by decide)) ?_)))))))
    refine w_aload_n rfl l0 (w_getf rfl rfl e64 e0 (w_sp 339 rfl rfl (w_ic 2 rfl rfl (w_iload rfl l4 (w_mulN rfl (w_addN rfl (w_ld rfl e65 (by omega) (ev i (by omega) 0 (by decide)) (w_isub rfl (w_istore rfl (by decide) ?_)))))))))
    rw [sp_df (x := v k 0) (y := v i 0)]
    have n0 := w_s1 (i := 6) (v := .int (Int32.ofInt ((v k 0).toInt - (v i 0).toInt))) l0 rfl (by decide)
    have n1 := w_s1 (i := 6) (v := .int (Int32.ofInt ((v k 0).toInt - (v i 0).toInt))) l1 rfl (by decide)
    have n2 := w_s1 (i := 6) (v := .int (Int32.ofInt ((v k 0).toInt - (v i 0).toInt))) l2 rfl (by decide)
    have n3 := w_s1 (i := 6) (v := .int (Int32.ofInt ((v k 0).toInt - (v i 0).toInt))) l3 rfl (by decide)
    have n4 := w_s1 (i := 6) (v := .int (Int32.ofInt ((v k 0).toInt - (v i 0).toInt))) l4 rfl (by decide)
    have n5 := w_s1 (i := 6) (v := .int (Int32.ofInt ((v k 0).toInt - (v i 0).toInt))) l5 rfl (by decide)
    refine w_aload_n rfl n0 (w_getf rfl rfl e64 e0 (w_sp 339 rfl rfl (w_ic 2 rfl rfl (w_iload rfl n5 (w_mulN rfl (w_addN rfl (w_ic 1 rfl rfl (w_addN rfl (w_ld rfl e65 (by omega) (ev k (by omega) 1 (by decide)) ?_)))))))))
    refine w_aload_n rfl n0 (w_getf rfl rfl e64 e0 (w_sp 339 rfl rfl (w_ic 2 rfl rfl (w_iload rfl n4 (w_mulN rfl (w_addN rfl (w_ic 1 rfl rfl (w_addN rfl (w_ld rfl e65 (by omega) (ev i (by omega) 1 (by decide)) (w_isub rfl (w_istore rfl (by decide) ?_)))))))))))
    rw [sp_df (x := v k 1) (y := v i 1)]
    have sc : ∀ ls, p_lk 0 ls = some (.ref 64) → p_lk 1 ls = some (.int what) → p_lk 2 ls = some (.int (Int32.ofInt (sp_in lo (sp_D v) (sp_E v) i s (k + 1)).1)) → p_lk 3 ls = some (.int (Int32.ofInt (sp_in lo (sp_D v) (sp_E v) i s (k + 1)).2)) → p_lk 4 ls = some (.int (Int32.ofNat i)) → p_lk 5 ls = some (.int (Int32.ofNat k)) → p_wp p_GT p_MT d m_X12_speed 157 ls [] h Q := by
      intro ls l0 l1 l2 l3 l4 l5
      refine w_iinc rfl l5 (by decide) (w_goto rfl (t := 35) rfl ?_)
      rw [show Int32.ofInt 1 = Int32.ofNat 1 from rfl, g_add (by omega)]
      exact ih (k + 1) _ (by omega) (w_s1 l0 rfl (by decide)) (w_s1 l1 rfl (by decide)) (w_s1 l2 rfl (by decide)) (w_s1 l3 rfl (by decide)) (w_s1 l4 rfl (by decide)) p_lk_s1
    refine sp_rpick (lo := lo) (days := sp_D v k - sp_D v i) (more := sp_E v k - sp_E v i) (u := (sp_in lo (sp_D v) (sp_E v) i s k).1) (l := (sp_in lo (sp_D v) (sp_E v) i s k).2) (by constructor <;> omega) (by constructor <;> omega) bs hlo (w_s1 n1 rfl (by decide)) (w_s1 n2 rfl (by decide)) (w_s1 n3 rfl (by decide)) (w_s1 p_lk_s1 rfl (by decide)) p_lk_s1 (fun e => ?_) (fun e => ?_)
    · refine w_iload rfl p_lk_s1 (w_istore_n rfl (by decide) (w_iload rfl (w_s1 (w_s1 p_lk_s1 rfl (by decide)) rfl (by decide)) (w_istore_n rfl (by decide) ?_)))
      refine sc _ (w_s1 (w_s1 (w_s1 n0 rfl (by decide)) rfl (by decide)) rfl (by decide)) (w_s1 (w_s1 (w_s1 n1 rfl (by decide)) rfl (by decide)) rfl (by decide)) ?_ ?_ (w_s1 (w_s1 (w_s1 n4 rfl (by decide)) rfl (by decide)) rfl (by decide)) (w_s1 (w_s1 (w_s1 n5 rfl (by decide)) rfl (by decide)) rfl (by decide))
      · simp only [sp_in]
        rw [if_pos e]
        exact w_s1 p_lk_s1 rfl (by decide)
      · simp only [sp_in]
        rw [if_pos e]
        exact p_lk_s1
    · refine sc _ (w_s1 n0 rfl (by decide)) (w_s1 n1 rfl (by decide)) ?_ ?_ (w_s1 n4 rfl (by decide)) (w_s1 n5 rfl (by decide))
      · simp only [sp_in]
        rw [if_neg (by rw [e]; decide)]
        exact w_s1 n2 rfl (by decide)
      · simp only [sp_in]
        rw [if_neg (by rw [e]; decide)]
        exact w_s1 n3 rfl (by decide)
theorem sp_rout {lo : Bool} (hR : sp_R h vs ws c v) (hD : ∀ k, k < 8 → 0 ≤ sp_D v k ∧ sp_D v k ≤ 999) (hE : ∀ k, k < 8 → 0 ≤ sp_E v k ∧ sp_E v k ≤ 100) (hlo : lo = decide (what < Int32.ofNat 2)) (hN : ∀ ls, p_lk 0 ls = some (.ref 64) → p_lk 1 ls = some (.int what) → p_lk 2 ls = some (.int (Int32.ofInt (sp_out lo (sp_D v) (sp_E v) c c).1)) → p_lk 3 ls = some (.int (Int32.ofInt (sp_out lo (sp_D v) (sp_E v) c c).2)) → p_wp p_GT p_MT d m_X12_speed 169 ls [] h Q) : ∀ j i ls, i + j = c → p_lk 0 ls = some (.ref 64) → p_lk 1 ls = some (.int what) → p_lk 2 ls = some (.int (Int32.ofInt (sp_out lo (sp_D v) (sp_E v) c i).1)) → p_lk 3 ls = some (.int (Int32.ofInt (sp_out lo (sp_D v) (sp_E v) c i).2)) → p_lk 4 ls = some (.int (Int32.ofNat i)) → p_wp p_GT p_MT d m_X12_speed 20 ls [] h Q := by
  intro j
  induction j with
  | zero =>
    intro i ls hi l0 l1 l2 l3 l4
    have hi : i = c := hi
    subst hi
    obtain ⟨e64, e0, e65, e7, ev, ec⟩ := hR
    exact w_iload rfl l4 (w_aload_n rfl l0 (w_getf rfl rfl e64 e0 (w_bp 7 rfl rfl (w_ld rfl e65 (by decide) e7 (w_icmp_t rfl (t := 169) rfl (by simp [p_cd]) (hN ls l0 l1 l2 l3))))))
  | succ j ih =>
    intro i ls hi l0 l1 l2 l3 l4
    have hR' := hR
    obtain ⟨e64, e0, e65, e7, ev, ec⟩ := hR
    have hc : p_cd .ge (Int32.ofNat i) (Int32.ofNat c) = false := by
      simp only [p_cd, decide_eq_false_iff_not]
      rw [Int32.le_iff_toInt_le, g_ofNat (by omega), g_ofNat (by omega)]; omega
    refine w_iload rfl l4 (w_aload_n rfl l0 (w_getf rfl rfl e64 e0 (w_bp 7 rfl rfl (w_ld rfl e65 (by decide) e7 (w_icmp_f rfl (t := 169) rfl hc (w_ic 0 rfl rfl (w_istore rfl (by decide) ?_)))))))
    refine sp_rin (lo := lo) (i := i) (s := sp_out lo (sp_D v) (sp_E v) c i) hR' hD hE (by omega) (sp_out_bd hD hE (by omega) i (by omega)) hlo (fun ls m0 m1 m2 m3 m4 => ?_) c 0 _ (by omega) (w_s1 l0 rfl (by decide)) (w_s1 l1 rfl (by decide)) (w_s1 l2 rfl (by decide)) (w_s1 l3 rfl (by decide)) (w_s1 l4 rfl (by decide)) p_lk_s1
    refine w_iinc rfl m4 (by decide) (w_goto rfl (t := 20) rfl ?_)
    rw [show Int32.ofInt 1 = Int32.ofNat 1 from rfl, g_add (by omega)]
    exact ih (i + 1) _ (by omega) (w_s1 m0 rfl (by decide)) (w_s1 m1 rfl (by decide)) (w_s1 m2 rfl (by decide)) (w_s1 m3 rfl (by decide)) p_lk_s1
theorem sp_rspeed {w : Nat} (hR : sp_R h vs ws c v) (hD : ∀ k, k < 8 → 0 ≤ sp_D v k ∧ sp_D v k ≤ 999) (hE : ∀ k, k < 8 → 0 ≤ sp_E v k ∧ sp_E v k ≤ 100) (hw : w < 4) : p_wp p_GT p_MT (d + 2) m_X12_speed 0 (lv_args 0 [.ref 64, .int (Int32.ofNat w)]) [] h (fun a h2 => a = some (.int (Int32.ofInt (sp_ans w (sp_out (decide (w < 2)) (sp_D v) (sp_E v) c c)))) ∧ h2 = h) := by
  have ec : c ≤ 8 := hR.2.2.2.2.2
  have hlo : decide (w < 2) = decide (Int32.ofNat w < Int32.ofNat 2) := decide_eq_decide.mpr (by rw [Int32.lt_iff_toInt_lt, g_ofNat (by omega), g_ofNat (by omega)]; omega)
  obtain ⟨c1, c2, c3, c4⟩ := sp_out_bd (lo := decide (w < 2)) hD hE ec c ec
  refine w_iload_n rfl rfl (w_iconst rfl (w_iconst rfl (w_static (nn := 0) (dc := d + 1) (M' := m_X12_isIn) rfl rfl rfl rfl (Nat.le_refl _) b_isIn ?_)))
  rintro a h2 ⟨rfl, rfl⟩
  rw [if_pos (by rw [Int32.le_iff_toInt_le, Int32.le_iff_toInt_le, g_ofNat (by omega), sp_ti (by omega) (by omega), sp_ti (by omega) (by omega)]; omega)]
  refine w_ifc_t rfl (t := 13) rfl (by decide) (w_iconst rfl (w_istore_n rfl (by decide) (w_iconst rfl (w_istore_n rfl (by decide) (w_ic 0 rfl rfl (w_istore rfl (by decide) ?_))))))
  refine sp_rout (d := d + 2) (lo := decide (w < 2)) hR hD hE hlo (fun ls m0 m1 m2 m3 => ?_) c 0 _ (by omega) (w_s1 (w_s1 (w_s1 rfl rfl (by decide)) rfl (by decide)) rfl (by decide)) (w_s1 (w_s1 (w_s1 rfl rfl (by decide)) rfl (by decide)) rfl (by decide)) (w_s1 (w_s1 p_lk_s1 rfl (by decide)) rfl (by decide)) (w_s1 p_lk_s1 rfl (by decide)) p_lk_s1
  refine w_iload_n rfl m3 ?_
  by_cases q : (sp_out (decide (w < 2)) (sp_D v) (sp_E v) c c).2 = 0
  · refine w_ifc_f rfl (t := 179) rfl (by rw [sp_z, sp_ne (by omega) (by omega) (by omega) (by omega)]; exact decide_eq_false (fun e => e q)) (w_ldcw rfl rfl (w_goto rfl (t := 199) rfl (w_ireturn rfl rfl ⟨?_, rfl⟩)))
    unfold sp_ans
    rw [if_pos q]
  · obtain ⟨g1, g2⟩ := sp_g1 (u := (sp_out (decide (w < 2)) (sp_D v) (sp_E v) c c).1) (show 0 < (sp_out (decide (w < 2)) (sp_D v) (sp_E v) c c).2 by omega) c4
    refine w_ifc_t rfl (t := 179) rfl (by rw [sp_z, sp_ne (by omega) (by omega) (by omega) (by omega)]; exact decide_eq_true q) (w_iload_n rfl m2 (w_i2l rfl (w_iload_n rfl m3 (w_i2l rfl (w_iload_n rfl m1 (w_ic 2 rfl rfl (w_irem rfl (by decide) ?_)))))))
    rw [sp_even w hw, sp_i2l (by omega) (by omega), sp_i2l (by omega) (by omega)]
    refine w_iconst rfl ?_
    have fin : ∀ b : Bool, (if b then (sp_out (decide (w < 2)) (sp_D v) (sp_E v) c c).2 else (sp_out (decide (w < 2)) (sp_D v) (sp_E v) c c).1) = (if w % 2 = 0 then (sp_out (decide (w < 2)) (sp_D v) (sp_E v) c c).1 else (sp_out (decide (w < 2)) (sp_D v) (sp_E v) c c).2) → p_wp p_GT p_MT (d + 2) m_X12_speed 195 ls [.int (match b with | true => Int32.ofInt 1 | false => Int32.ofInt 0), .long (Int64.ofInt (sp_out (decide (w < 2)) (sp_D v) (sp_E v) c c).2), .long (Int64.ofInt (sp_out (decide (w < 2)) (sp_D v) (sp_E v) c c).1)] h2 (fun a h3 => a = some (.int (Int32.ofInt (sp_ans w (sp_out (decide (w < 2)) (sp_D v) (sp_E v) c c)))) ∧ h3 = h2) := by
      intro b eb
      refine w_static (nn := 0) (dc := d + 1) (M' := m_X12_part) rfl rfl rfl rfl (Nat.le_refl _) (sp_rpart (b := b) c1 c2 (by omega) c4) ?_
      rintro a h3 ⟨rfl, rfl⟩
      refine w_l2i rfl (w_ireturn rfl rfl ⟨?_, rfl⟩)
      rw [Int64.toInt32_ofInt, eb]
      unfold sp_ans
      rw [if_neg q]
    by_cases q2 : w % 2 = 0
    · refine w_icmp_t rfl (t := 194) rfl (by rw [q2]; decide) (w_iconst rfl (fin false ?_))
      rw [if_pos q2]; rfl
    · refine w_icmp_f rfl (t := 194) rfl (by rw [show w % 2 = 1 by omega]; decide) (w_iconst rfl (w_goto rfl (t := 195) rfl (fin true ?_)))
      rw [if_neg q2]; rfl
theorem sp_rspeed_no (hq : ¬ (Int32.ofInt 0 ≤ what ∧ what ≤ Int32.ofInt 3)) (hQ : Q (some (.int (Int32.ofInt (-100000)))) h) : p_wp p_GT p_MT (d + 1) m_X12_speed 0 (lv_args 0 [.ref 64, .int what]) [] h Q := by
  refine w_iload_n rfl rfl (w_iconst rfl (w_iconst rfl (w_static (nn := 0) (dc := d) (M' := m_X12_isIn) rfl rfl rfl rfl (Nat.le_refl _) b_isIn ?_)))
  rintro a h2 ⟨rfl, rfl⟩
  rw [if_neg hq]
  exact w_ifc_f rfl (t := 13) rfl (by decide) (w_ldcw rfl rfl (w_ireturn rfl rfl hQ))
end SRL

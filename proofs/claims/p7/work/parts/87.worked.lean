/-! worked by hand: a told law's deeds are done one behind another -/
section GWI
variable {G : p_G} {MT : List p_M} {d : Nat} {M : p_M} {pc l : Nat} {ls : p_Ls} {st : List Value} {h : p_H} {Q : Option Value → p_H → Prop} {x y : Int32} {z w : Int64} {k a n : Nat} {vs : List Value}
theorem w_iload (hat : p_at pc M.2.2.2.2.1 = some (.iload k, l)) (hl : p_lk k ls = some (.int x)) (hk : p_wp G MT d M (pc + 2) ls (.int x :: st) h Q) : p_wp G MT d M pc ls st h Q :=
  p_wp.step hat (by simp only [p_step, p_ld, hl]; rfl) hk
theorem w_lload_n {k : Fin 4} (hat : p_at pc M.2.2.2.2.1 = some (.lload_n k, l)) (hl : p_lk k.val ls = some (.long z)) (hk : p_wp G MT d M (pc + 1) ls (.long z :: st) h Q) : p_wp G MT d M pc ls st h Q :=
  p_wp.step hat (by simp only [p_step, p_ld, hl]; rfl) hk
theorem w_istore (hat : p_at pc M.2.2.2.2.1 = some (.istore k, l)) (hn : k < M.2.2.1) (hk : p_wp G MT d M (pc + 2) (p_s1 ls k (.int x)) st h Q) : p_wp G MT d M pc ls (.int x :: st) h Q :=
  p_wp.step hat (by simp only [p_step, p_sv, if_pos hn]; rfl) hk
theorem w_lconst {k : Fin 2} (hat : p_at pc M.2.2.2.2.1 = some (.lconst k, l)) (hk : p_wp G MT d M (pc + 1) ls (.long (Int64.ofNat k.val) :: st) h Q) : p_wp G MT d M pc ls st h Q := p_wp.step hat rfl hk
theorem w_ldc2 {c : Nat} {b : Int} (hat : p_at pc M.2.2.2.2.1 = some (.ldc2_w k, l)) (hp : p_pk k 4 M.2.2.2.2.2.1 = some (c, b)) (hk : p_wp G MT d M (pc + 3) ls (.long (Int64.ofInt b) :: st) h Q) : p_wp G MT d M pc ls st h Q :=
  p_wp.step hat (by simp only [p_step, p_cst, hp]; rfl) hk
theorem w_lcmp (hat : p_at pc M.2.2.2.2.1 = some (.lcmp, l)) (hk : p_wp G MT d M (pc + 1) ls (.int (lg_cmp z w) :: st) h Q) : p_wp G MT d M pc ls (.long w :: .long z :: st) h Q := p_wp.step hat rfl hk
theorem w_ladd (hat : p_at pc M.2.2.2.2.1 = some (.ladd, l)) (hk : p_wp G MT d M (pc + 1) ls (.long (z + w) :: st) h Q) : p_wp G MT d M pc ls (.long w :: .long z :: st) h Q := p_wp.step hat rfl hk
theorem w_lsub (hat : p_at pc M.2.2.2.2.1 = some (.lsub, l)) (hk : p_wp G MT d M (pc + 1) ls (.long (z - w) :: st) h Q) : p_wp G MT d M pc ls (.long w :: .long z :: st) h Q := p_wp.step hat rfl hk
theorem w_lmul (hat : p_at pc M.2.2.2.2.1 = some (.lmul, l)) (hk : p_wp G MT d M (pc + 1) ls (.long (z * w) :: st) h Q) : p_wp G MT d M pc ls (.long w :: .long z :: st) h Q := p_wp.step hat rfl hk
theorem w_ldiv (hat : p_at pc M.2.2.2.2.1 = some (.ldiv, l)) (hw : ¬ w = 0) (hk : p_wp G MT d M (pc + 1) ls (.long (z / w) :: st) h Q) : p_wp G MT d M pc ls (.long w :: .long z :: st) h Q :=
  p_wp.step hat (by simp only [p_step, if_neg hw]; rfl) hk
theorem w_lneg (hat : p_at pc M.2.2.2.2.1 = some (.lneg, l)) (hk : p_wp G MT d M (pc + 1) ls (.long (-z) :: st) h Q) : p_wp G MT d M pc ls (.long z :: st) h Q := p_wp.step hat rfl hk
theorem w_i2l (hat : p_at pc M.2.2.2.2.1 = some (.i2l, l)) (hk : p_wp G MT d M (pc + 1) ls (.long x.toInt64 :: st) h Q) : p_wp G MT d M pc ls (.int x :: st) h Q := p_wp.step hat rfl hk
theorem w_l2i (hat : p_at pc M.2.2.2.2.1 = some (.l2i, l)) (hk : p_wp G MT d M (pc + 1) ls (.int z.toInt32 :: st) h Q) : p_wp G MT d M pc ls (.long z :: st) h Q := p_wp.step hat rfl hk
theorem w_ifc_t {c : ClassFile.Cond} {off : Int} {t : Nat} (hat : p_at pc M.2.2.2.2.1 = some (.ifCond c off, l)) (ht : p_tg pc off = some t) (hc : p_cd c x 0 = true) (hk : p_wp G MT d M t ls st h Q) : p_wp G MT d M pc ls (.int x :: st) h Q :=
  p_wp.step hat (by simp only [p_step, p_br, ht, hc, if_true]; rfl) hk
theorem w_ifc_f {c : ClassFile.Cond} {off : Int} {t : Nat} (hat : p_at pc M.2.2.2.2.1 = some (.ifCond c off, l)) (ht : p_tg pc off = some t) (hc : p_cd c x 0 = false) (hk : p_wp G MT d M (pc + 3) ls st h Q) : p_wp G MT d M pc ls (.int x :: st) h Q :=
  p_wp.step hat (by simp only [p_step, p_br, ht, hc, Bool.false_eq_true, if_false]; rfl) hk
theorem w_lreturn (hat : p_at pc M.2.2.2.2.1 = some (.lreturn, l)) (hr : M.2.2.2.1 = some .long) (hq : Q (some (.long z)) h) : p_wp G MT d M pc ls [.long z] h Q :=
  p_wp.ret hat (by simp only [p_step, p_ret, hr]) hq
theorem w_sw {dflt lo hi : Int} {offs : Array Int} {t : Nat} (hat : p_at pc M.2.2.2.2.1 = some (.tableswitch dflt lo hi offs, l)) (hs : p_sw pc dflt lo hi offs x ls st h = p_go t ls st h) (hk : p_wp G MT d M t ls st h Q) : p_wp G MT d M pc ls (.int x :: st) h Q :=
  p_wp.step hat (by simp only [p_step, hs]; rfl) hk
theorem g_nl (hn : n < 100000) : ¬ Int32.ofNat n < 0 := g_nn (g_ofNat hn) (Int.natCast_nonneg n)
theorem g_ncl (hn : n < 100000) : (Int32.ofNat n).toNatClampNeg = n := by rw [x_clamp, g_ofNat hn, Int.toNat_natCast]
theorem w_ld {v : Value} (hat : p_at pc M.2.2.2.2.1 = some (.iaload, 1)) (hc : h[a]? = some (1, 0, vs)) (hn : n < 100000) (hv : vs[n]? = some v) (hk : p_wp G MT d M (pc + 1) ls (v :: st) h Q) : p_wp G MT d M pc ls (.int (Int32.ofNat n) :: .ref a :: st) h Q :=
  g_load hat hc (g_nl hn) (by rw [g_ncl hn]; exact hv) hk
theorem w_lld {v : Value} (hat : p_at pc M.2.2.2.2.1 = some (.laload, 1)) (hc : h[a]? = some (1, 2, vs)) (hn : n < 100000) (hv : vs[n]? = some v) (hk : p_wp G MT d M (pc + 1) ls (v :: st) h Q) : p_wp G MT d M pc ls (.int (Int32.ofNat n) :: .ref a :: st) h Q := by
  refine p_wp.step hat ?_ hk
  simp only [p_step, p_al, hc, p_ix, if_neg (g_nl hn), g_ncl hn, hv]
  rfl
theorem w_lst (hat : p_at pc M.2.2.2.2.1 = some (.lastore, 1)) (hc : h[a]? = some (1, 2, vs)) (hn : n < 100000) (hl : n < vs.length) (hk : p_wp G MT d M (pc + 1) ls st (h.set a (1, 2, vs.set n (.long z))) Q) : p_wp G MT d M pc ls (.long z :: .int (Int32.ofNat n) :: .ref a :: st) h Q := by
  refine p_wp.step hat ?_ hk
  simp only [p_step, p_as, hc, p_ix, if_neg (g_nl hn), g_ncl hn, List.getElem?_eq_getElem hl]
  rfl
theorem g_sub {a b : Nat} (h : b ≤ a) : Int32.ofNat a - Int32.ofNat b = Int32.ofNat (a - b) := by
  have e : Int32.ofNat a = Int32.ofNat (a - b) + Int32.ofNat b := by rw [← Int32.ofNat_add, Nat.sub_add_cancel h]
  rw [e, Int32.add_sub_cancel]
theorem g_held : p_wp p_GT p_MT d m_X12_held 0 (lv_args 0 [.long z]) [] h (fun v h2 => (∃ z', v = some (.long z')) ∧ h2 = h) := by
  refine w_lload_n rfl rfl (w_ldc2 rfl rfl (w_lcmp rfl ?_))
  cases hc : p_cd .le (lg_cmp z (Int64.ofInt 1000000)) 0 with
  | false => exact w_ifc_f rfl (t := 14) rfl hc (w_ldc2 rfl rfl (w_goto rfl (t := 29) rfl (w_lreturn rfl rfl ⟨⟨_, rfl⟩, rfl⟩)))
  | true =>
    refine w_ifc_t rfl (t := 14) rfl hc (w_lload_n rfl rfl (w_ldc2 rfl rfl (w_lcmp rfl ?_)))
    cases hc2 : p_cd .ge (lg_cmp z (Int64.ofInt (-1000000))) 0 with
    | false => exact w_ifc_f rfl (t := 28) rfl hc2 (w_ldc2 rfl rfl (w_goto rfl (t := 29) rfl (w_lreturn rfl rfl ⟨⟨_, rfl⟩, rfl⟩)))
    | true => exact w_ifc_t rfl (t := 28) rfl hc2 (w_lload_n rfl rfl (w_lreturn rfl rfl ⟨⟨_, rfl⟩, rfl⟩))
theorem g_two {o : Nat} (h4 : 4 ≤ o) (h7 : o ≤ 7) : p_wp p_GT p_MT (d + 1) m_X12_two 0 (lv_args 0 [.int (Int32.ofNat o), .long z, .long w]) [] h (fun v h2 => (∃ z', v = some (.long z')) ∧ h2 = h) := by
  rcases (show o = 4 ∨ o = 5 ∨ o = 6 ∨ o = 7 by omega) with rfl | rfl | rfl | rfl
  · refine w_iload_n rfl rfl (w_sw rfl (t := 28) rfl (w_lload_n rfl rfl (w_lload_n rfl rfl (w_ladd rfl (w_static (nn := 0) (M' := m_X12_held) rfl rfl rfl rfl (Nat.le_refl _) g_held ?_)))))
    rintro v h2 ⟨⟨z', rfl⟩, rfl⟩
    exact w_lreturn rfl rfl ⟨⟨_, rfl⟩, rfl⟩
  · refine w_iload_n rfl rfl (w_sw rfl (t := 35) rfl (w_lload_n rfl rfl (w_lload_n rfl rfl (w_lsub rfl (w_static (nn := 0) (M' := m_X12_held) rfl rfl rfl rfl (Nat.le_refl _) g_held ?_)))))
    rintro v h2 ⟨⟨z', rfl⟩, rfl⟩
    exact w_lreturn rfl rfl ⟨⟨_, rfl⟩, rfl⟩
  · refine w_iload_n rfl rfl (w_sw rfl (t := 42) rfl (w_lload_n rfl rfl (w_lload_n rfl rfl (w_lmul rfl (w_static (nn := 0) (M' := m_X12_held) rfl rfl rfl rfl (Nat.le_refl _) g_held ?_)))))
    rintro v h2 ⟨⟨z', rfl⟩, rfl⟩
    exact w_lreturn rfl rfl ⟨⟨_, rfl⟩, rfl⟩
  · refine w_iload_n rfl rfl (w_sw rfl (t := 49) rfl (w_lload_n rfl rfl (w_lconst rfl (w_lcmp rfl ?_))))
    cases hc : p_cd .ne (lg_cmp w (Int64.ofNat 0)) 0 with
    | false => exact w_ifc_f rfl (t := 59) rfl hc (w_lconst rfl (w_goto rfl (t := 62) rfl (w_lreturn rfl rfl ⟨⟨_, rfl⟩, rfl⟩)))
    | true =>
      refine w_ifc_t rfl (t := 59) rfl hc (w_lload_n rfl rfl (w_lload_n rfl rfl (w_ldiv rfl ?_ (w_lreturn rfl rfl ⟨⟨_, rfl⟩, rfl⟩))))
      intro e
      subst e
      simp only [p_cd, decide_eq_true_eq] at hc
      exact hc (by decide)
end GWI
section GWK
variable {QQ : Nat → Int} {T f : Nat} {h0 h' : p_H}
theorem g_sim_step {k : Nat} (h : 0 ≤ g_sim QQ T f (k + 1)) : 0 ≤ g_sim QQ T f k ∧
    ((QQ (T + 169 + 2 * (f + k)) = 0 ∧ g_sim QQ T f (k + 1) = g_sim QQ T f k + 1) ∨
     (QQ (T + 169 + 2 * (f + k)) = 1 ∧ 0 ≤ QQ (T + 169 + 2 * (f + k) + 1) ∧ QQ (T + 169 + 2 * (f + k) + 1) ≤ 7 ∧ g_sim QQ T f (k + 1) = g_sim QQ T f k + 1) ∨
     (QQ (T + 169 + 2 * (f + k)) = 2 ∧ 1 ≤ QQ (T + 169 + 2 * (f + k) + 1) ∧ QQ (T + 169 + 2 * (f + k) + 1) + 1 ≤ g_sim QQ T f k ∧ g_sim QQ T f (k + 1) = g_sim QQ T f k - QQ (T + 169 + 2 * (f + k) + 1)) ∨
     (QQ (T + 169 + 2 * (f + k)) = 3 ∧ 1 ≤ g_sim QQ T f k ∧ g_sim QQ T f (k + 1) = g_sim QQ T f k) ∨
     (4 ≤ QQ (T + 169 + 2 * (f + k)) ∧ QQ (T + 169 + 2 * (f + k)) ≤ 7 ∧ 2 ≤ g_sim QQ T f k ∧ g_sim QQ T f (k + 1) = g_sim QQ T f k - 1)) := by
  simp only [g_sim] at h ⊢
  by_cases c0 : g_sim QQ T f k < 0
  · rw [if_pos c0] at h; omega
  rw [if_neg c0] at h ⊢
  refine ⟨by omega, ?_⟩
  by_cases c1 : QQ (T + 169 + 2 * (f + k)) = 0
  · rw [if_pos c1]; exact Or.inl ⟨c1, rfl⟩
  rw [if_neg c1] at h ⊢
  by_cases c2 : QQ (T + 169 + 2 * (f + k)) = 1 ∧ 0 ≤ QQ (T + 169 + 2 * (f + k) + 1) ∧ QQ (T + 169 + 2 * (f + k) + 1) ≤ 7
  · rw [if_pos c2]; exact Or.inr (Or.inl ⟨c2.1, c2.2.1, c2.2.2, rfl⟩)
  rw [if_neg c2] at h ⊢
  by_cases c3 : QQ (T + 169 + 2 * (f + k)) = 2 ∧ 1 ≤ QQ (T + 169 + 2 * (f + k) + 1) ∧ QQ (T + 169 + 2 * (f + k) + 1) + 1 ≤ g_sim QQ T f k
  · rw [if_pos c3]; exact Or.inr (Or.inr (Or.inl ⟨c3.1, c3.2.1, c3.2.2, rfl⟩))
  rw [if_neg c3] at h ⊢
  by_cases c4 : QQ (T + 169 + 2 * (f + k)) = 3 ∧ 1 ≤ g_sim QQ T f k
  · rw [if_pos c4]; exact Or.inr (Or.inr (Or.inr (Or.inl ⟨c4.1, c4.2, rfl⟩)))
  rw [if_neg c4] at h ⊢
  by_cases c5 : 4 ≤ QQ (T + 169 + 2 * (f + k)) ∧ QQ (T + 169 + 2 * (f + k)) ≤ 7 ∧ 2 ≤ g_sim QQ T f k
  · rw [if_pos c5]; exact Or.inr (Or.inr (Or.inr (Or.inr ⟨c5.1, c5.2.1, c5.2.2, rfl⟩)))
  · rw [if_neg c5] at h; omega
theorem g_sim_mono {j : Nat} : ∀ k, 0 ≤ g_sim QQ T f k → j ≤ k → 0 ≤ g_sim QQ T f j := by
  intro k
  induction k with
  | zero => intro h hj; have : j = 0 := by omega
            subst this; exact h
  | succ k ih =>
    intro h hj
    by_cases e : j = k + 1
    · subst e; exact h
    · exact ih (g_sim_step h).1 (by omega)
/-- the heap but for the values -/
def g_WH (h0 h' : p_H) : Prop := ∃ ws, h' = h0.set 72 (1, 2, ws) ∧ ws.length = 330 ∧ ∀ j, j < 330 → ∃ z, ws[j]? = some (.long z)
theorem g_WH.get (hw : g_WH h0 h') {a : Nat} (ha : 72 ≠ a) : h'[a]? = h0[a]? := by
  obtain ⟨ws, rfl, -, -⟩ := hw
  exact List.getElem?_set_ne ha
theorem g_WH.ws (hw : g_WH h0 h') (hl : 72 < h0.length) : ∃ ws, h'[72]? = some (1, 2, ws) ∧ ws.length = 330 ∧ (∀ j, j < 330 → ∃ z, ws[j]? = some (.long z)) ∧ ∀ n z, g_WH h0 (h'.set 72 (1, 2, ws.set n (.long z))) := by
  obtain ⟨ws, rfl, h1, h2⟩ := hw
  refine ⟨ws, List.getElem?_set_self hl, h1, h2, fun n z => ⟨ws.set n (.long z), by rw [List.set_set], by rw [List.length_set]; exact h1, fun j hj => ?_⟩⟩
  by_cases e : n = j
  · subst e; exact ⟨z, List.getElem?_set_self (by omega)⟩
  · rw [List.getElem?_set_ne e]; exact h2 j hj
/-- worked's variables -/
def g_L5 (ls : p_Ls) (C T n i : Nat) : Prop := p_lk 0 ls = some (.ref 64) ∧ p_lk 3 ls = some (.int (Int32.ofNat C)) ∧ p_lk 4 ls = some (.int (Int32.ofNat (T + 169))) ∧ p_lk 5 ls = some (.int (Int32.ofNat n)) ∧ p_lk 6 ls = some (.int (Int32.ofNat i))
theorem g_L5.s {ls : p_Ls} {C T n i k : Nat} {x : Int32} (h : g_L5 ls C T n i) (hk : 7 ≤ k) : g_L5 (p_s1 ls k (.int x)) C T n i :=
  ⟨w_s1 h.1 rfl (by omega), w_s1 h.2.1 rfl (by omega), w_s1 h.2.2.1 rfl (by omega), w_s1 h.2.2.2.1 rfl (by omega), w_s1 h.2.2.2.2 rfl (by omega)⟩
theorem g_L5.s5 {ls : p_Ls} {C T n i n' : Nat} (h : g_L5 ls C T n i) : g_L5 (p_s1 ls 5 (.int (Int32.ofNat n'))) C T n' i :=
  ⟨w_s1 h.1 rfl (by omega), w_s1 h.2.1 rfl (by omega), w_s1 h.2.2.1 rfl (by omega), p_lk_s1, w_s1 h.2.2.2.2 rfl (by omega)⟩
theorem g_L5.s6 {ls : p_Ls} {C T n i i' : Nat} (h : g_L5 ls C T n i) : g_L5 (p_s1 ls 6 (.int (Int32.ofNat i'))) C T n i' :=
  ⟨w_s1 h.1 rfl (by omega), w_s1 h.2.1 rfl (by omega), w_s1 h.2.2.1 rfl (by omega), w_s1 h.2.2.2.1 rfl (by omega), p_lk_s1⟩
end GWK

def d_QI (t : Nat → Option p_C) (r : Int × d_S) : Option Value → p_H → Prop := fun w h => w = some (.int (Int32.ofInt r.1)) ∧ d_R r.1 ∧ d_V t h r.2
def d_QP (h0 : p_H) (v : Int) : Option Value → p_H → Prop := fun w h => w = some (.int (Int32.ofInt v)) ∧ d_R v ∧ h = h0
def d_QB (h0 : p_H) (v : Int) : Option Value → p_H → Prop := fun w h => w = some (.int (Int32.ofInt v)) ∧ (v = 0 ∨ v = 1) ∧ h = h0
def d_QC (t : Nat → Option p_C) (r : Int × d_S) : Option Value → p_H → Prop := fun w h => w = some (.int (Int32.ofInt r.1)) ∧ (r.1 = 0 ∨ r.1 = 1) ∧ d_V t h r.2
def d_QV (t : Nat → Option p_C) (r : d_S) : Option Value → p_H → Prop := fun w h => w = none ∧ d_V t h r
def d_QL (h0 : p_H) (v : Int) : Option Value → p_H → Prop := fun w h => w = some (.long (Int64.ofInt v)) ∧ d_RL v ∧ h = h0
def d_QJ (t : Nat → Option p_C) (r : Int × d_S) : Option Value → p_H → Prop := fun w h => w = some (.long (Int64.ofInt r.1)) ∧ d_RL r.1 ∧ d_V t h r.2
def d_T (t : Nat → Option p_C) (e : Option Nat) : Prop := ∀ x, e = some x → 80 ≤ x ∧ ∃ vs, t x = some (0, 7, vs)
def d_QO (t : Nat → Option p_C) (h0 : p_H) (e : Option Nat) : Option Value → p_H → Prop := fun w h => w = some (d_pv e) ∧ d_T t e ∧ h = h0
theorem d_R_b {x : Int} (h : x = 0 ∨ x = 1) : d_R x := by rcases h with rfl | rfl <;> exact ⟨by decide, by decide⟩
theorem d_rl {n : Int} (h : (decide (-2147483648 ≤ n) && decide (n ≤ 2147483647)) = true) : d_R n := by
  rw [Bool.and_eq_true, decide_eq_true_eq, decide_eq_true_eq] at h; exact h
theorem d_rll {n : Int} (h : (decide (-9223372036854775808 ≤ n) && decide (n ≤ 9223372036854775807)) = true) : d_RL n := by
  rw [Bool.and_eq_true, decide_eq_true_eq, decide_eq_true_eq] at h; exact h
section DLK
variable {ls : p_Ls} {i j : Nat} {v w : Value} {z : Int64} {e : Option Nat}
theorem d_cat {e : Option Nat} : (d_pv e).category = 1 := by cases e <;> rfl
theorem d_s1 (hw : p_lk j ls = some w) (hc : w.category = 1) (hne : j ≠ i) : p_lk j (p_s1 ls i v) = some w := by
  have e : Nat.beq i j = false := by
    cases q : Nat.beq i j with
    | false => rfl
    | true => exact absurd (Nat.eq_of_beq_eq_true q).symm hne
  simp only [p_s1, p_lk, e, Bool.false_eq_true, if_false]
  refine p_lk_fil hw ?_
  have : (j == i) = false := by simpa using hne
  simp [this, hc]
theorem d_s1o (hw : p_lk j ls = some (d_pv e)) (hne : j ≠ i) : p_lk j (p_s1 ls i v) = some (d_pv e) := d_s1 hw d_cat hne
theorem d_s1l (hw : p_lk j ls = some (.long z)) (hne : j ≠ i) (hne2 : j + 1 ≠ i) : p_lk j (p_s1 ls i v) = some (.long z) := by
  have e : Nat.beq i j = false := by
    cases q : Nat.beq i j with
    | false => rfl
    | true => exact absurd (Nat.eq_of_beq_eq_true q).symm hne
  simp only [p_s1, p_lk, e, Bool.false_eq_true, if_false]
  refine p_lk_fil hw ?_
  have : (j == i) = false := by simpa using hne
  have h2 : (j + 1 == i) = false := by simpa using hne2
  simp [this, h2]
theorem d_s2 (hw : p_lk j ls = some w) (hc : w.category = 1) (hne : j ≠ i) (hne2 : j ≠ i + 1) : p_lk j (p_s2 ls i v) = some w := by
  have e : Nat.beq i j = false := by
    cases q : Nat.beq i j with
    | false => rfl
    | true => exact absurd (Nat.eq_of_beq_eq_true q).symm hne
  simp only [p_s2, p_lk, e, Bool.false_eq_true, if_false]
  refine p_lk_fil hw ?_
  have : (j == i) = false := by simpa using hne
  have h2 : (j == i + 1) = false := by simpa using hne2
  simp [this, h2, hc]
theorem d_s2o (hw : p_lk j ls = some (d_pv e)) (hne : j ≠ i) (hne2 : j ≠ i + 1) : p_lk j (p_s2 ls i v) = some (d_pv e) := d_s2 hw d_cat hne hne2
theorem d_s2l (hw : p_lk j ls = some (.long z)) (hne : j ≠ i) (hne2 : j ≠ i + 1) (hne3 : j + 1 ≠ i) : p_lk j (p_s2 ls i v) = some (.long z) := by
  have e : Nat.beq i j = false := by
    cases q : Nat.beq i j with
    | false => rfl
    | true => exact absurd (Nat.eq_of_beq_eq_true q).symm hne
  simp only [p_s2, p_lk, e, Bool.false_eq_true, if_false]
  refine p_lk_fil hw ?_
  have : (j == i) = false := by simpa using hne
  have h2 : (j == i + 1) = false := by simpa using hne2
  have h3 : (j + 1 == i) = false := by simpa using hne3
  simp [this, h2, h3]
end DLK
section DC
variable {β : Type} {d : Nat} {M : p_M} {pc l : Nat} {ls : p_Ls} {st : List Value} {h : p_H} {Q : Option Value → p_H → Prop} {t : Nat → Option p_C} {s : d_S} {x y z : Int} {v : Value}
theorem d_V.T (hH : d_V t h s) {a k : Nat} (ha : a = 5 ∨ a = 22 ∨ a = 47) : d_T t (s.2.1 a k) := fun x hx => hH.2.2.2 a k x ha hx
theorem d_vir {X m a ci k c : Nat} {n : Int} {as : List Value} {M' : p_M} {P : List p_P} (hp12 : p_pk X 12 P = none) (hp : p_pk X 9 P = some (m, n)) (hl : (Nat.ble n.toNat st.length && Nat.ble (p_cat (st.drop n.toNat)) 9) = true) (has : (st.take n.toNat).reverse = .ref a :: as) (hM : p_MT[m]? = some M') (hH : d_V t h s) (hc : d_ck a ci k c = true) (hh : M'.2.2.2.2.2.2.2 = ci) : p_vir p_MT P X pc ls st h = some (.inr (.inr (m, .ref a :: as, st.drop n.toNat))) := by
  obtain ⟨vs, e1, -⟩ := hH.obj hc
  rw [Bool.and_eq_true] at hl
  have hl' : n.toNat ≤ st.length ∧ p_cat (st.drop n.toNat) ≤ p_bd 9 := ⟨Nat.le_of_ble_eq_true hl.1, Nat.le_of_ble_eq_true hl.2⟩
  simp only [p_vir, hp12, p_invv, p_inv, hp, if_pos hl', has, hM, e1, hh, Nat.beq_refl, if_true]
theorem dw_sP {r : β} {x : Option Int} {F : Int → Option β} {X m dc : Nat} {as rest : List Value} {M' : p_M} (hF : d_b x F = some r) (hat : p_at pc M.2.2.2.2.1 = some (.invokestatic X, l)) (hs : p_invs M.2.2.2.2.2.1 X (pc + 3) ls st h = some (.inr (.inr (m, as, rest)))) (hM : p_MT[m]? = some M') (hc : Nat.ble (p_cat as) M'.2.2.1 = true) (hd : Nat.ble (dc + 1) d = true) (h1 : ∀ v, x = some v → p_wp p_GT p_MT dc M' 0 (lv_args 0 as) [] h (d_QP h v)) (hk : ∀ v, d_R v → F v = some r → p_wp p_GT p_MT d M (pc + 3) ls (.int (Int32.ofInt v) :: rest) h Q) : p_wp p_GT p_MT d M pc ls st h Q := by
  obtain ⟨v, e1, e2⟩ := d_b_s hF
  refine p_wp.call hat (by simp only [p_step]; exact hs) hM (Nat.le_of_ble_eq_true hc) (Nat.le_of_ble_eq_true hd) (h1 v e1) ?_
  rintro w h2 ⟨rfl, q, rfl⟩
  exact hk v q e2
theorem dw_vP {r : β} {x : Option Int} {F : Int → Option β} {X m dc : Nat} {as rest : List Value} {M' : p_M} (hF : d_b x F = some r) (hat : p_at pc M.2.2.2.2.1 = some (.invokevirtual X, l)) (hs : p_vir p_MT M.2.2.2.2.2.1 X (pc + 3) ls st h = some (.inr (.inr (m, as, rest)))) (hM : p_MT[m]? = some M') (hc : Nat.ble (p_cat as) M'.2.2.1 = true) (hd : Nat.ble (dc + 1) d = true) (h1 : ∀ v, x = some v → p_wp p_GT p_MT dc M' 0 (lv_args 0 as) [] h (d_QP h v)) (hk : ∀ v, d_R v → F v = some r → p_wp p_GT p_MT d M (pc + 3) ls (.int (Int32.ofInt v) :: rest) h Q) : p_wp p_GT p_MT d M pc ls st h Q := by
  obtain ⟨v, e1, e2⟩ := d_b_s hF
  refine p_wp.call hat (by simp only [p_step]; exact hs) hM (Nat.le_of_ble_eq_true hc) (Nat.le_of_ble_eq_true hd) (h1 v e1) ?_
  rintro w h2 ⟨rfl, q, rfl⟩
  exact hk v q e2
theorem dw_sB {r : β} {x : Option Int} {F : Int → Option β} {X m dc : Nat} {as rest : List Value} {M' : p_M} (hF : d_b x F = some r) (hat : p_at pc M.2.2.2.2.1 = some (.invokestatic X, l)) (hs : p_invs M.2.2.2.2.2.1 X (pc + 3) ls st h = some (.inr (.inr (m, as, rest)))) (hM : p_MT[m]? = some M') (hc : Nat.ble (p_cat as) M'.2.2.1 = true) (hd : Nat.ble (dc + 1) d = true) (h1 : ∀ v, x = some v → p_wp p_GT p_MT dc M' 0 (lv_args 0 as) [] h (d_QB h v)) (hk : ∀ v, (v = 0 ∨ v = 1) → F v = some r → p_wp p_GT p_MT d M (pc + 3) ls (.int (Int32.ofInt v) :: rest) h Q) : p_wp p_GT p_MT d M pc ls st h Q := by
  obtain ⟨v, e1, e2⟩ := d_b_s hF
  refine p_wp.call hat (by simp only [p_step]; exact hs) hM (Nat.le_of_ble_eq_true hc) (Nat.le_of_ble_eq_true hd) (h1 v e1) ?_
  rintro w h2 ⟨rfl, q, rfl⟩
  exact hk v q e2
theorem dw_vB {r : β} {x : Option Int} {F : Int → Option β} {X m dc : Nat} {as rest : List Value} {M' : p_M} (hF : d_b x F = some r) (hat : p_at pc M.2.2.2.2.1 = some (.invokevirtual X, l)) (hs : p_vir p_MT M.2.2.2.2.2.1 X (pc + 3) ls st h = some (.inr (.inr (m, as, rest)))) (hM : p_MT[m]? = some M') (hc : Nat.ble (p_cat as) M'.2.2.1 = true) (hd : Nat.ble (dc + 1) d = true) (h1 : ∀ v, x = some v → p_wp p_GT p_MT dc M' 0 (lv_args 0 as) [] h (d_QB h v)) (hk : ∀ v, (v = 0 ∨ v = 1) → F v = some r → p_wp p_GT p_MT d M (pc + 3) ls (.int (Int32.ofInt v) :: rest) h Q) : p_wp p_GT p_MT d M pc ls st h Q := by
  obtain ⟨v, e1, e2⟩ := d_b_s hF
  refine p_wp.call hat (by simp only [p_step]; exact hs) hM (Nat.le_of_ble_eq_true hc) (Nat.le_of_ble_eq_true hd) (h1 v e1) ?_
  rintro w h2 ⟨rfl, q, rfl⟩
  exact hk v q e2
theorem dw_sL {r : β} {x : Option Int} {F : Int → Option β} {X m dc : Nat} {as rest : List Value} {M' : p_M} (hF : d_b x F = some r) (hat : p_at pc M.2.2.2.2.1 = some (.invokestatic X, l)) (hs : p_invs M.2.2.2.2.2.1 X (pc + 3) ls st h = some (.inr (.inr (m, as, rest)))) (hM : p_MT[m]? = some M') (hc : Nat.ble (p_cat as) M'.2.2.1 = true) (hd : Nat.ble (dc + 1) d = true) (h1 : ∀ v, x = some v → p_wp p_GT p_MT dc M' 0 (lv_args 0 as) [] h (d_QL h v)) (hk : ∀ v, d_RL v → F v = some r → p_wp p_GT p_MT d M (pc + 3) ls (.long (Int64.ofInt v) :: rest) h Q) : p_wp p_GT p_MT d M pc ls st h Q := by
  obtain ⟨v, e1, e2⟩ := d_b_s hF
  refine p_wp.call hat (by simp only [p_step]; exact hs) hM (Nat.le_of_ble_eq_true hc) (Nat.le_of_ble_eq_true hd) (h1 v e1) ?_
  rintro w h2 ⟨rfl, q, rfl⟩
  exact hk v q e2
theorem dw_vL {r : β} {x : Option Int} {F : Int → Option β} {X m dc : Nat} {as rest : List Value} {M' : p_M} (hF : d_b x F = some r) (hat : p_at pc M.2.2.2.2.1 = some (.invokevirtual X, l)) (hs : p_vir p_MT M.2.2.2.2.2.1 X (pc + 3) ls st h = some (.inr (.inr (m, as, rest)))) (hM : p_MT[m]? = some M') (hc : Nat.ble (p_cat as) M'.2.2.1 = true) (hd : Nat.ble (dc + 1) d = true) (h1 : ∀ v, x = some v → p_wp p_GT p_MT dc M' 0 (lv_args 0 as) [] h (d_QL h v)) (hk : ∀ v, d_RL v → F v = some r → p_wp p_GT p_MT d M (pc + 3) ls (.long (Int64.ofInt v) :: rest) h Q) : p_wp p_GT p_MT d M pc ls st h Q := by
  obtain ⟨v, e1, e2⟩ := d_b_s hF
  refine p_wp.call hat (by simp only [p_step]; exact hs) hM (Nat.le_of_ble_eq_true hc) (Nat.le_of_ble_eq_true hd) (h1 v e1) ?_
  rintro w h2 ⟨rfl, q, rfl⟩
  exact hk v q e2
theorem dw_sO {r : β} {x : Option (Option Nat)} {F : Option Nat → Option β} {X m dc : Nat} {as rest : List Value} {M' : p_M} (hF : d_b x F = some r) (hat : p_at pc M.2.2.2.2.1 = some (.invokestatic X, l)) (hs : p_invs M.2.2.2.2.2.1 X (pc + 3) ls st h = some (.inr (.inr (m, as, rest)))) (hM : p_MT[m]? = some M') (hc : Nat.ble (p_cat as) M'.2.2.1 = true) (hd : Nat.ble (dc + 1) d = true) (h1 : ∀ v, x = some v → p_wp p_GT p_MT dc M' 0 (lv_args 0 as) [] h (d_QO t h v)) (hk : ∀ v, d_T t v → F v = some r → p_wp p_GT p_MT d M (pc + 3) ls (d_pv v :: rest) h Q) : p_wp p_GT p_MT d M pc ls st h Q := by
  obtain ⟨v, e1, e2⟩ := d_b_s hF
  refine p_wp.call hat (by simp only [p_step]; exact hs) hM (Nat.le_of_ble_eq_true hc) (Nat.le_of_ble_eq_true hd) (h1 v e1) ?_
  rintro w h2 ⟨rfl, q, rfl⟩
  exact hk v q e2
theorem dw_vO {r : β} {x : Option (Option Nat)} {F : Option Nat → Option β} {X m dc : Nat} {as rest : List Value} {M' : p_M} (hF : d_b x F = some r) (hat : p_at pc M.2.2.2.2.1 = some (.invokevirtual X, l)) (hs : p_vir p_MT M.2.2.2.2.2.1 X (pc + 3) ls st h = some (.inr (.inr (m, as, rest)))) (hM : p_MT[m]? = some M') (hc : Nat.ble (p_cat as) M'.2.2.1 = true) (hd : Nat.ble (dc + 1) d = true) (h1 : ∀ v, x = some v → p_wp p_GT p_MT dc M' 0 (lv_args 0 as) [] h (d_QO t h v)) (hk : ∀ v, d_T t v → F v = some r → p_wp p_GT p_MT d M (pc + 3) ls (d_pv v :: rest) h Q) : p_wp p_GT p_MT d M pc ls st h Q := by
  obtain ⟨v, e1, e2⟩ := d_b_s hF
  refine p_wp.call hat (by simp only [p_step]; exact hs) hM (Nat.le_of_ble_eq_true hc) (Nat.le_of_ble_eq_true hd) (h1 v e1) ?_
  rintro w h2 ⟨rfl, q, rfl⟩
  exact hk v q e2
theorem dw_sI {r : β} {x : Option (Int × d_S)} {F : Int → d_S → Option β} {X m dc : Nat} {as rest : List Value} {M' : p_M} (hF : d_b2 x F = some r) (hat : p_at pc M.2.2.2.2.1 = some (.invokestatic X, l)) (hs : p_invs M.2.2.2.2.2.1 X (pc + 3) ls st h = some (.inr (.inr (m, as, rest)))) (hM : p_MT[m]? = some M') (hc : Nat.ble (p_cat as) M'.2.2.1 = true) (hd : Nat.ble (dc + 1) d = true) (h1 : ∀ v s, x = some (v, s) → p_wp p_GT p_MT dc M' 0 (lv_args 0 as) [] h (d_QI t (v, s))) (hk : ∀ v s h, d_V t h s → d_R v → F v s = some r → p_wp p_GT p_MT d M (pc + 3) ls (.int (Int32.ofInt v) :: rest) h Q) : p_wp p_GT p_MT d M pc ls st h Q := by
  obtain ⟨v, s, e1, e2⟩ := d_b2_s hF
  refine p_wp.call hat (by simp only [p_step]; exact hs) hM (Nat.le_of_ble_eq_true hc) (Nat.le_of_ble_eq_true hd) (h1 v s e1) ?_
  rintro w h2 ⟨rfl, q, hV⟩
  exact hk v s h2 hV q e2
theorem dw_vI {r : β} {x : Option (Int × d_S)} {F : Int → d_S → Option β} {X m dc : Nat} {as rest : List Value} {M' : p_M} (hF : d_b2 x F = some r) (hat : p_at pc M.2.2.2.2.1 = some (.invokevirtual X, l)) (hs : p_vir p_MT M.2.2.2.2.2.1 X (pc + 3) ls st h = some (.inr (.inr (m, as, rest)))) (hM : p_MT[m]? = some M') (hc : Nat.ble (p_cat as) M'.2.2.1 = true) (hd : Nat.ble (dc + 1) d = true) (h1 : ∀ v s, x = some (v, s) → p_wp p_GT p_MT dc M' 0 (lv_args 0 as) [] h (d_QI t (v, s))) (hk : ∀ v s h, d_V t h s → d_R v → F v s = some r → p_wp p_GT p_MT d M (pc + 3) ls (.int (Int32.ofInt v) :: rest) h Q) : p_wp p_GT p_MT d M pc ls st h Q := by
  obtain ⟨v, s, e1, e2⟩ := d_b2_s hF
  refine p_wp.call hat (by simp only [p_step]; exact hs) hM (Nat.le_of_ble_eq_true hc) (Nat.le_of_ble_eq_true hd) (h1 v s e1) ?_
  rintro w h2 ⟨rfl, q, hV⟩
  exact hk v s h2 hV q e2
theorem dw_sC {r : β} {x : Option (Int × d_S)} {F : Int → d_S → Option β} {X m dc : Nat} {as rest : List Value} {M' : p_M} (hF : d_b2 x F = some r) (hat : p_at pc M.2.2.2.2.1 = some (.invokestatic X, l)) (hs : p_invs M.2.2.2.2.2.1 X (pc + 3) ls st h = some (.inr (.inr (m, as, rest)))) (hM : p_MT[m]? = some M') (hc : Nat.ble (p_cat as) M'.2.2.1 = true) (hd : Nat.ble (dc + 1) d = true) (h1 : ∀ v s, x = some (v, s) → p_wp p_GT p_MT dc M' 0 (lv_args 0 as) [] h (d_QC t (v, s))) (hk : ∀ v s h, d_V t h s → (v = 0 ∨ v = 1) → F v s = some r → p_wp p_GT p_MT d M (pc + 3) ls (.int (Int32.ofInt v) :: rest) h Q) : p_wp p_GT p_MT d M pc ls st h Q := by
  obtain ⟨v, s, e1, e2⟩ := d_b2_s hF
  refine p_wp.call hat (by simp only [p_step]; exact hs) hM (Nat.le_of_ble_eq_true hc) (Nat.le_of_ble_eq_true hd) (h1 v s e1) ?_
  rintro w h2 ⟨rfl, q, hV⟩
  exact hk v s h2 hV q e2
theorem dw_vC {r : β} {x : Option (Int × d_S)} {F : Int → d_S → Option β} {X m dc : Nat} {as rest : List Value} {M' : p_M} (hF : d_b2 x F = some r) (hat : p_at pc M.2.2.2.2.1 = some (.invokevirtual X, l)) (hs : p_vir p_MT M.2.2.2.2.2.1 X (pc + 3) ls st h = some (.inr (.inr (m, as, rest)))) (hM : p_MT[m]? = some M') (hc : Nat.ble (p_cat as) M'.2.2.1 = true) (hd : Nat.ble (dc + 1) d = true) (h1 : ∀ v s, x = some (v, s) → p_wp p_GT p_MT dc M' 0 (lv_args 0 as) [] h (d_QC t (v, s))) (hk : ∀ v s h, d_V t h s → (v = 0 ∨ v = 1) → F v s = some r → p_wp p_GT p_MT d M (pc + 3) ls (.int (Int32.ofInt v) :: rest) h Q) : p_wp p_GT p_MT d M pc ls st h Q := by
  obtain ⟨v, s, e1, e2⟩ := d_b2_s hF
  refine p_wp.call hat (by simp only [p_step]; exact hs) hM (Nat.le_of_ble_eq_true hc) (Nat.le_of_ble_eq_true hd) (h1 v s e1) ?_
  rintro w h2 ⟨rfl, q, hV⟩
  exact hk v s h2 hV q e2
theorem dw_sJ {r : β} {x : Option (Int × d_S)} {F : Int → d_S → Option β} {X m dc : Nat} {as rest : List Value} {M' : p_M} (hF : d_b2 x F = some r) (hat : p_at pc M.2.2.2.2.1 = some (.invokestatic X, l)) (hs : p_invs M.2.2.2.2.2.1 X (pc + 3) ls st h = some (.inr (.inr (m, as, rest)))) (hM : p_MT[m]? = some M') (hc : Nat.ble (p_cat as) M'.2.2.1 = true) (hd : Nat.ble (dc + 1) d = true) (h1 : ∀ v s, x = some (v, s) → p_wp p_GT p_MT dc M' 0 (lv_args 0 as) [] h (d_QJ t (v, s))) (hk : ∀ v s h, d_V t h s → d_RL v → F v s = some r → p_wp p_GT p_MT d M (pc + 3) ls (.long (Int64.ofInt v) :: rest) h Q) : p_wp p_GT p_MT d M pc ls st h Q := by
  obtain ⟨v, s, e1, e2⟩ := d_b2_s hF
  refine p_wp.call hat (by simp only [p_step]; exact hs) hM (Nat.le_of_ble_eq_true hc) (Nat.le_of_ble_eq_true hd) (h1 v s e1) ?_
  rintro w h2 ⟨rfl, q, hV⟩
  exact hk v s h2 hV q e2
theorem dw_vJ {r : β} {x : Option (Int × d_S)} {F : Int → d_S → Option β} {X m dc : Nat} {as rest : List Value} {M' : p_M} (hF : d_b2 x F = some r) (hat : p_at pc M.2.2.2.2.1 = some (.invokevirtual X, l)) (hs : p_vir p_MT M.2.2.2.2.2.1 X (pc + 3) ls st h = some (.inr (.inr (m, as, rest)))) (hM : p_MT[m]? = some M') (hc : Nat.ble (p_cat as) M'.2.2.1 = true) (hd : Nat.ble (dc + 1) d = true) (h1 : ∀ v s, x = some (v, s) → p_wp p_GT p_MT dc M' 0 (lv_args 0 as) [] h (d_QJ t (v, s))) (hk : ∀ v s h, d_V t h s → d_RL v → F v s = some r → p_wp p_GT p_MT d M (pc + 3) ls (.long (Int64.ofInt v) :: rest) h Q) : p_wp p_GT p_MT d M pc ls st h Q := by
  obtain ⟨v, s, e1, e2⟩ := d_b2_s hF
  refine p_wp.call hat (by simp only [p_step]; exact hs) hM (Nat.le_of_ble_eq_true hc) (Nat.le_of_ble_eq_true hd) (h1 v s e1) ?_
  rintro w h2 ⟨rfl, q, hV⟩
  exact hk v s h2 hV q e2
theorem dw_sV {r : β} {x : Option d_S} {F : d_S → Option β} {X m dc : Nat} {as rest : List Value} {M' : p_M} (hF : d_b x F = some r) (hat : p_at pc M.2.2.2.2.1 = some (.invokestatic X, l)) (hs : p_invs M.2.2.2.2.2.1 X (pc + 3) ls st h = some (.inr (.inr (m, as, rest)))) (hM : p_MT[m]? = some M') (hc : Nat.ble (p_cat as) M'.2.2.1 = true) (hd : Nat.ble (dc + 1) d = true) (h1 : ∀ s, x = some s → p_wp p_GT p_MT dc M' 0 (lv_args 0 as) [] h (d_QV t s)) (hk : ∀ s h, d_V t h s → F s = some r → p_wp p_GT p_MT d M (pc + 3) ls rest h Q) : p_wp p_GT p_MT d M pc ls st h Q := by
  obtain ⟨s, e1, e2⟩ := d_b_s hF
  refine p_wp.call hat (by simp only [p_step]; exact hs) hM (Nat.le_of_ble_eq_true hc) (Nat.le_of_ble_eq_true hd) (h1 s e1) ?_
  rintro w h2 ⟨rfl, hV⟩
  exact hk s h2 hV e2
theorem dw_vV {r : β} {x : Option d_S} {F : d_S → Option β} {X m dc : Nat} {as rest : List Value} {M' : p_M} (hF : d_b x F = some r) (hat : p_at pc M.2.2.2.2.1 = some (.invokevirtual X, l)) (hs : p_vir p_MT M.2.2.2.2.2.1 X (pc + 3) ls st h = some (.inr (.inr (m, as, rest)))) (hM : p_MT[m]? = some M') (hc : Nat.ble (p_cat as) M'.2.2.1 = true) (hd : Nat.ble (dc + 1) d = true) (h1 : ∀ s, x = some s → p_wp p_GT p_MT dc M' 0 (lv_args 0 as) [] h (d_QV t s)) (hk : ∀ s h, d_V t h s → F s = some r → p_wp p_GT p_MT d M (pc + 3) ls rest h Q) : p_wp p_GT p_MT d M pc ls st h Q := by
  obtain ⟨s, e1, e2⟩ := d_b_s hF
  refine p_wp.call hat (by simp only [p_step]; exact hs) hM (Nat.le_of_ble_eq_true hc) (Nat.le_of_ble_eq_true hd) (h1 s e1) ?_
  rintro w h2 ⟨rfl, hV⟩
  exact hk s h2 hV e2
theorem dw_rP {r : Int} (hat : p_at pc M.2.2.2.2.1 = some (.ireturn, l)) (hr : M.2.2.2.1 = some .int) (hx : d_R x) (hF : some x = some r) : p_wp p_GT p_MT d M pc ls [.int (Int32.ofInt x)] h (d_QP h r) := by
  cases hF
  exact p_wp.ret hat (by simp only [p_step, p_ret, hr]; exact if_pos rfl) ⟨rfl, hx, rfl⟩
theorem dw_rI {r : Int × d_S} (hat : p_at pc M.2.2.2.2.1 = some (.ireturn, l)) (hr : M.2.2.2.1 = some .int) (hx : d_R x) (hH : d_V t h s) (hF : some (x, s) = some r) : p_wp p_GT p_MT d M pc ls [.int (Int32.ofInt x)] h (d_QI t r) := by
  cases hF
  exact p_wp.ret hat (by simp only [p_step, p_ret, hr]; exact if_pos rfl) ⟨rfl, hx, hH⟩
theorem dw_rB {r : Int} (hat : p_at pc M.2.2.2.2.1 = some (.ireturn, l)) (hr : M.2.2.2.1 = some .boolean) (hx : x = 0 ∨ x = 1) (hF : some x = some r) : p_wp p_GT p_MT d M pc ls [.int (Int32.ofInt x)] h (d_QB h r) := by
  cases hF
  exact p_wp.ret hat (by simp only [p_step, p_ret, hr]; exact if_pos (d_nar hx)) ⟨rfl, hx, rfl⟩
theorem dw_rC {r : Int × d_S} (hat : p_at pc M.2.2.2.2.1 = some (.ireturn, l)) (hr : M.2.2.2.1 = some .boolean) (hx : x = 0 ∨ x = 1) (hH : d_V t h s) (hF : some (x, s) = some r) : p_wp p_GT p_MT d M pc ls [.int (Int32.ofInt x)] h (d_QC t r) := by
  cases hF
  exact p_wp.ret hat (by simp only [p_step, p_ret, hr]; exact if_pos (d_nar hx)) ⟨rfl, hx, hH⟩
theorem dw_rV {r : d_S} (hat : p_at pc M.2.2.2.2.1 = some (.return_, l)) (hr : M.2.2.2.1 = none) (hH : d_V t h s) (hF : some s = some r) : p_wp p_GT p_MT d M pc ls [] h (d_QV t r) := by
  cases hF
  exact p_wp.ret hat (by simp only [p_step, p_ret, hr]) ⟨rfl, hH⟩
theorem dw_rL {r : Int} (hat : p_at pc M.2.2.2.2.1 = some (.lreturn, l)) (hr : M.2.2.2.1 = some .long) (hx : d_RL x) (hF : some x = some r) : p_wp p_GT p_MT d M pc ls [.long (Int64.ofInt x)] h (d_QL h r) := by
  cases hF
  exact p_wp.ret hat (by simp only [p_step, p_ret, hr]) ⟨rfl, hx, rfl⟩
theorem dw_rJ {r : Int × d_S} (hat : p_at pc M.2.2.2.2.1 = some (.lreturn, l)) (hr : M.2.2.2.1 = some .long) (hx : d_RL x) (hH : d_V t h s) (hF : some (x, s) = some r) : p_wp p_GT p_MT d M pc ls [.long (Int64.ofInt x)] h (d_QJ t r) := by
  cases hF
  exact p_wp.ret hat (by simp only [p_step, p_ret, hr]) ⟨rfl, hx, hH⟩
theorem dw_rO {r e : Option Nat} {N : String} (hat : p_at pc M.2.2.2.2.1 = some (.areturn, l)) (hr : M.2.2.2.1 = some (.object N)) (he : d_T t e) (hF : some e = some r) : p_wp p_GT p_MT d M pc ls [d_pv e] h (d_QO t h r) := by
  cases hF
  cases r with
  | none => exact p_wp.ret hat (by simp only [p_step, p_ret, hr, d_pv]) ⟨rfl, he, rfl⟩
  | some a => exact p_wp.ret hat (by simp only [p_step, p_ret, hr, d_pv]) ⟨rfl, he, rfl⟩
theorem dw_ts {dflt lo hi : Int} {offs : Array Int} {u : Nat} (hat : p_at pc M.2.2.2.2.1 = some (.tableswitch dflt lo hi offs, l)) (hr : d_R x) (hs : (if x < lo ∨ hi < x then p_tg pc dflt else (offs[(x - lo).toNat]?).bind (fun off => p_tg pc off)) = some u) (hk : p_wp p_GT p_MT d M u ls st h Q) : p_wp p_GT p_MT d M pc ls (.int (Int32.ofInt x) :: st) h Q := by
  refine p_wp.step hat ?_ hk
  simp only [p_step, p_sw, d_ti hr]
  split at hs
  · next q => rw [if_pos q]; simp only [p_jm, hs]; rfl
  · next q =>
    rw [if_neg q]
    cases e : offs[(x - lo).toNat]? with
    | none => rw [e] at hs; cases hs
    | some off =>
      rw [e] at hs
      have hs : p_tg pc off = some u := hs
      simp only [p_jm, hs]; rfl
theorem dw_ls {dflt : Int} {ps : Array (Int × Int)} {u : Nat} (hat : p_at pc M.2.2.2.2.1 = some (.lookupswitch dflt ps, l)) (hr : d_R x) (ho : (ps.toList.zip (ps.toList.drop 1)).all (fun (a, next) => a.1 < next.1) = true) (hs : p_tg pc (Op.lookupswitch.offset ps.toList dflt x) = some u) (hk : p_wp p_GT p_MT d M u ls st h Q) : p_wp p_GT p_MT d M pc ls (.int (Int32.ofInt x) :: st) h Q := by
  refine p_wp.step hat ?_ hk
  simp only [p_step, d_ti hr]
  rw [if_pos ho]
  simp only [p_jm, hs]; rfl
theorem d_V.row {b : Nat} {ws : List Value} {n : Nat} {f : Nat → Int} (hH : d_V t h s) (hc : d_ca b 1 0 n 1 = true) (hl : ws.length = n) (hr : ∀ j, d_R (f j)) (hv : ∀ j, j < n → ws[j]? = some (.int (Int32.ofInt (f j)))) : d_V t (h.set b (1, 0, ws)) (d_st s b f) := by
  obtain ⟨vs, k1, k2, k3⟩ := hH.arr hc
  simp only [d_ca, Bool.and_eq_true, Bool.not_eq_true'] at hc
  obtain ⟨⟨⟨⟨⟨⟨c1, c2⟩, c3⟩, c4⟩, c5⟩, c6⟩, c7⟩ := hc
  have h3 := Nat.eq_of_beq_eq_true c3
  have hty : ∀ j, d_ty b j = 1 := by
    intro j
    unfold d_ty
    rw [h3]
    exact Nat.eq_of_beq_eq_true c6
  have b1 := Nat.le_of_ble_eq_true c1
  have b2 := Nat.le_of_ble_eq_true c2
  have hoth : ∀ a j, a ≠ b → (d_st s b f).1 a j = s.1 a j := fun a j q => by unfold d_st; simp only; rw [d_u_n q]
  refine ⟨⟨fun a j => ?_, hH.1.2⟩, fun a ha => ?_, fun a a1 a2 => ?_, hH.2.2.2⟩
  · by_cases q : a = b
    · subst q
      unfold d_st; simp only; rw [d_u_t]; exact hr j
    · rw [hoth a j q]; exact hH.1.1 a j
  · rw [List.getElem?_set_ne (by omega)]; exact hH.2.1 a ha
  · by_cases q : a = b
    · subst q
      refine ⟨ws, ?_, by rw [hl]; exact Nat.eq_of_beq_eq_true c5, fun j hj => ?_⟩
      · rw [List.getElem?_set_self (List.getElem?_eq_some_iff.mp k1).1, h3, Nat.eq_of_beq_eq_true c4]
      · refine ⟨_, hv j (by omega), ?_⟩
        rw [hty]
        simp only [d_pl]
        unfold d_st; simp only; rw [d_u_t]
    · obtain ⟨us, e1, e2, e3⟩ := hH.2.2.1 a a1 a2
      refine ⟨us, by rw [List.getElem?_set_ne (fun z => q z.symm)]; exact e1, e2, fun j hj => ?_⟩
      obtain ⟨u, u1, u2⟩ := e3 j hj
      exact ⟨u, u1, d_pl_o (hoth a j q) rfl (fun _ => rfl) u2⟩
theorem d_cp_at {vs ws : List Value} {p q n j : Nat} (h1 : p + n ≤ vs.length) (h2 : q + n ≤ ws.length) (hj : j < ws.length) : (p_cpy vs ws p q n)[j]? = if q ≤ j ∧ j < q + n then vs[p + j - q]? else ws[j]? := by
  unfold p_cpy
  have l1 : (ws.take q).length = q := by rw [List.length_take]; omega
  have l2 : ((vs.drop p).take n).length = n := by rw [List.length_take, List.length_drop]; omega
  by_cases q1 : j < q
  · rw [List.getElem?_append_left (by omega), if_neg (by omega), List.getElem?_take, if_pos q1]
  · rw [List.getElem?_append_right (by omega), l1]
    by_cases q2 : j < q + n
    · rw [List.getElem?_append_left (by omega), if_pos ⟨by omega, q2⟩, List.getElem?_take, if_pos (by omega), List.getElem?_drop, show p + (j - q) = p + j - q by omega]
    · rw [List.getElem?_append_right (by omega), l2, if_neg (by omega), List.getElem?_drop, show q + n + (j - q - n) = j by omega]
theorem d_cp_len {vs ws : List Value} {p q n : Nat} (h1 : p + n ≤ vs.length) (h2 : q + n ≤ ws.length) : (p_cpy vs ws p q n).length = ws.length := by
  unfold p_cpy
  rw [List.length_append, List.length_append, List.length_take, List.length_take, List.length_drop, List.length_drop]
  omega
theorem dw_cpy {r : β} {a b X n1 n2 : Nat} {q : Nat × Int} {F : d_S → β} (hat : p_at pc M.2.2.2.2.1 = some (.invokestatic X, l)) (hp : p_pk X 7 M.2.2.2.2.2.1 = some q) (hH : d_V t h s) (hc1 : d_ca a 1 0 n1 1 = true) (hc2 : d_ca b 1 0 n2 1 = true) (hx : d_R x) (hy : d_R y) (hz : d_R z) (hg : 0 ≤ x ∧ 0 ≤ y ∧ 0 ≤ z ∧ x + z ≤ n1 ∧ y + z ≤ n2) (hst : Nat.ble (p_cat st) 8 = true) (hF : d_l (d_cp s a x.toNat b y.toNat z.toNat) F = r) (hk : ∀ s h, d_V t h s → F s = r → p_wp p_GT p_MT d M (pc + 3) ls st h Q) : p_wp p_GT p_MT d M pc ls (.int (Int32.ofInt z) :: .int (Int32.ofInt y) :: .ref b :: .int (Int32.ofInt x) :: .ref a :: st) h Q := by
  obtain ⟨vs, e1, e2, e3⟩ := hH.arr hc1
  obtain ⟨ws, f1, f2, f3⟩ := hH.arr hc2
  obtain ⟨g1, g2, g3, g4, g5⟩ := hg
  obtain ⟨i1, i2⟩ := d_ix g1 hx rfl
  obtain ⟨j1, j2⟩ := d_ix g2 hy rfl
  obtain ⟨k1, k2⟩ := d_ix g3 hz rfl
  have hall : ((vs.drop x.toNat).take z.toNat).all (fits .int) = true := by
    refine List.all_eq_true.mpr (fun v hm => ?_)
    obtain ⟨j, hj⟩ := List.getElem?_of_mem (List.mem_of_mem_drop (List.mem_of_mem_take hm))
    obtain ⟨u, u1, u2⟩ := e3 j (by rw [← e2]; exact (List.getElem?_eq_some_iff.mp hj).1)
    rw [hj] at u1
    cases u1
    cases (show v = _ from u2)
    rfl
  have hcond : ¬ Int32.ofInt x < 0 ∧ ¬ Int32.ofInt y < 0 ∧ ¬ Int32.ofInt z < 0 ∧ (Int32.ofInt x).toNatClampNeg + (Int32.ofInt z).toNatClampNeg ≤ vs.length ∧ (Int32.ofInt y).toNatClampNeg + (Int32.ofInt z).toNatClampNeg ≤ ws.length ∧ ((vs.drop (Int32.ofInt x).toNatClampNeg).take (Int32.ofInt z).toNatClampNeg).all (fits .int) = true ∧ p_cat st ≤ 8 := by
    rw [i2, j2, k2, e2, f2]
    exact ⟨i1, j1, k1, by omega, by omega, hall, Nat.le_of_ble_eq_true hst⟩
  have h1 : x.toNat + z.toNat ≤ vs.length := by omega
  have h2 : y.toNat + z.toNat ≤ ws.length := by omega
  have hV : d_V t (h.set b (1, 0, p_cpy vs ws x.toNat y.toNat z.toNat)) (d_cp s a x.toNat b y.toNat z.toNat) := by
    refine hH.row hc2 (by rw [d_cp_len h1 h2, f2]) (fun j => by split <;> exact hH.1.1 _ _) (fun j hj => ?_)
    rw [d_cp_at h1 h2 (by omega)]
    by_cases w : y.toNat ≤ j ∧ j < y.toNat + z.toNat
    · rw [if_pos w, if_pos w]
      obtain ⟨u, u1, u2⟩ := e3 (x.toNat + j - y.toNat) (by omega)
      rw [u1]
      cases (show u = _ from u2)
      rfl
    · rw [if_neg w, if_neg w]
      obtain ⟨u, u1, u2⟩ := f3 j hj
      rw [u1]
      cases (show u = _ from u2)
      rfl
  refine p_wp.step hat ?_ (hk _ _ hV hF)
  simp only [p_step, p_invs, hp, p_copy, e1, f1]
  rw [if_pos hcond, i2, j2, k2]
  rfl
theorem dw_lld (hat : p_at pc M.2.2.2.2.1 = some (.laload, l)) (hH : d_V t h s) (h0 : 0 ≤ x) (hn : x < 330) (hr : d_R x) {k : Nat} (hx : x.toNat = k) (hk : p_wp p_GT p_MT d M (pc + 1) ls (.long (Int64.ofInt (s.2.2 k)) :: st) h Q) : p_wp p_GT p_MT d M pc ls (.int (Int32.ofInt x) :: .ref 72 :: st) h Q := by
  subst hx
  obtain ⟨v, v1, v2⟩ := d_ald (pc := pc) (ls := ls) (st := st) (t1 := 2) (t2 := 2) (P := fun _ => True) hH d_a72 rfl rfl h0 hn hr
  obtain ⟨-, e⟩ := (show (72 = 72 ∧ _) ∧ v = _ from v1)
  subst e
  exact p_wp.step hat (by simp only [p_step, v2]; rfl) hk
theorem dw_lst {r : β} {F : d_S → β} (hat : p_at pc M.2.2.2.2.1 = some (.lastore, l)) (hH : d_V t h s) (h0 : 0 ≤ x) (hn : x < 330) (hr : d_R x) {k : Nat} (hx : x.toNat = k) (hy : d_RL y) (hF : d_l (d_sl s k y) F = r) (hk : ∀ s h, d_V t h s → F s = r → p_wp p_GT p_MT d M (pc + 1) ls st h Q) : p_wp p_GT p_MT d M pc ls (.long (Int64.ofInt y) :: .int (Int32.ofInt x) :: .ref 72 :: st) h Q := by
  subst hx
  obtain ⟨vs, e1, e2, e3⟩ := hH.arr d_a72
  obtain ⟨v, v1, v2⟩ := e3 x.toNat (by omega)
  obtain ⟨i1, i2⟩ := d_ix h0 hr rfl
  have hV : d_V t (h.set 72 (1, 2, vs.set x.toNat (.long (Int64.ofInt y)))) (d_sl s x.toNat y) := by
    refine hH.set (by decide) (by decide) e1 ⟨hH.1.1, fun j => ?_⟩ (fun b j hb => ⟨rfl, rfl, fun h72 => ?_⟩) ?_ (fun x h1 h2 => hH.2.2.2 _ _ _ h1 h2)
    · unfold d_sl d_u; simp only; split
      · exact hy
      · exact hH.1.2 j
    · unfold d_sl d_u; simp only
      by_cases q : b = 72
      · subst q
        rw [if_neg (show ¬ d_lx 72 j = x.toNat from fun z => by have : d_lx 72 j = j := rfl; omega)]
      · have q2 : b = 64 := by omega
        subst q2
        rw [if_neg (show ¬ d_lx 64 j = x.toNat from fun z => by have : d_lx 64 j = 1000 + j := rfl; omega)]
    · show (72 = 72 ∧ x.toNat < 330) ∧ _ = Value.long (Int64.ofInt ((d_sl s x.toNat y).2.2 x.toNat))
      unfold d_sl d_u; simp only; rw [if_pos trivial]
      exact ⟨⟨trivial, by omega⟩, rfl⟩
  refine p_wp.step hat ?_ (hk _ _ hV hF)
  simp only [p_step, p_as, e1, Nat.beq_refl, Bool.and_self, if_true, p_ix, if_neg i1, i2, v1]
  rfl
def d_Tx (t : Nat → Option p_C) (b : Nat) : Prop := 80 ≤ b ∧ ∃ vs, t b = some (0, 7, vs)
def d_tf (t : Nat → Option p_C) (b k : Nat) : Option Value := if 80 ≤ b then (match t b with
  | some (0, 7, vs) => vs[k]?
  | _ => none) else none
def d_tfi (t : Nat → Option p_C) (b k : Nat) : Option Int := match d_tf t b k with
  | some (.int x) => some x.toInt
  | _ => none
def d_tfq (t : Nat → Option p_C) (b k : Nat) : Option (Option Nat) := match d_tf t b k with
  | some .null => some none
  | some (.ref a) => some (some a)
  | _ => none
def d_ta (t : Nat → Option p_C) (b : Nat) : Option (List Value) := if 80 ≤ b then (match t b with
  | some (1, 0, vs) => some vs
  | _ => none) else none
def d_tn (t : Nat → Option p_C) (b : Nat) : Option Int := d_b (d_ta t b) (fun vs => if vs.length ≤ 2147483647 then some (vs.length : Int) else none)
def d_tl (t : Nat → Option p_C) (b : Nat) (i : Int) : Option Int := d_b (d_ta t b) (fun vs => if 0 ≤ i then (match vs[i.toNat]? with
  | some (.int x) => some x.toInt
  | _ => none) else none)
theorem d_tf_c (hH : d_V t h s) {b k : Nat} {v : Value} (e : d_tf t b k = some v) : ∃ vs, h[b]? = some (0, 7, vs) ∧ vs[k]? = some v := by
  unfold d_tf at e
  split at e
  · next q =>
    split at e
    · next vs q2 => exact ⟨vs, by rw [hH.2.1 b (Or.inr q)]; exact q2, e⟩
    · cases e
  · cases e
theorem d_ta_c (hH : d_V t h s) {b : Nat} {vs : List Value} (e : d_ta t b = some vs) : h[b]? = some (1, 0, vs) := by
  unfold d_ta at e
  split at e
  · next q =>
    split at e
    · next ws q2 => cases e; rw [hH.2.1 b (Or.inr q)]; exact q2
    · cases e
  · cases e
theorem dw_tg {X k b : Nat} {f : Int} (hat : p_at pc M.2.2.2.2.1 = some (.getfield X, l)) (hp : p_pk X 0 M.2.2.2.2.2.1 = some (7, f)) (hf : f.toNat = k) (hH : d_V t h s) (e : d_tf t b k = some v) (hk : p_wp p_GT p_MT d M (pc + 3) ls (v :: st) h Q) : p_wp p_GT p_MT d M pc ls (.ref b :: st) h Q := by
  obtain ⟨vs, e1, e2⟩ := d_tf_c hH e
  subst hf
  refine p_wp.step hat ?_ hk
  simp only [p_step, p_getf, hp, e1, Nat.beq_refl, if_true, e2]
  rfl
theorem dw_tgi {r : β} {F : Int → Option β} {X k b : Nat} {f : Int} (hF : d_b (d_tfi t b k) F = some r) (hat : p_at pc M.2.2.2.2.1 = some (.getfield X, l)) (hp : p_pk X 0 M.2.2.2.2.2.1 = some (7, f)) (hf : f.toNat = k) (hH : d_V t h s) (hk : ∀ v, d_R v → F v = some r → p_wp p_GT p_MT d M (pc + 3) ls (.int (Int32.ofInt v) :: st) h Q) : p_wp p_GT p_MT d M pc ls (.ref b :: st) h Q := by
  obtain ⟨v, e1, e2⟩ := d_b_s hF
  unfold d_tfi at e1
  split at e1
  · next x q =>
    cases e1
    refine dw_tg hat hp hf hH q ?_
    have := hk x.toInt d_R_t e2
    rw [Int32.ofInt_toInt] at this
    exact this
  · cases e1
theorem dw_tgq {r : β} {F : Option Nat → Option β} {X k b : Nat} {f : Int} (hF : d_b (d_tfq t b k) F = some r) (hat : p_at pc M.2.2.2.2.1 = some (.getfield X, l)) (hp : p_pk X 0 M.2.2.2.2.2.1 = some (7, f)) (hf : f.toNat = k) (hH : d_V t h s) (hk : ∀ v, True → F v = some r → p_wp p_GT p_MT d M (pc + 3) ls (d_pv v :: st) h Q) : p_wp p_GT p_MT d M pc ls (.ref b :: st) h Q := by
  obtain ⟨v, e1, e2⟩ := d_b_s hF
  unfold d_tfq at e1
  split at e1
  · next q => cases e1; exact dw_tg hat hp hf hH q (hk none trivial e2)
  · next a q => cases e1; exact dw_tg hat hp hf hH q (hk (some a) trivial e2)
  · cases e1
theorem dw_tln {r : β} {F : Int → Option β} {b : Nat} (hF : d_b (d_tn t b) F = some r) (hat : p_at pc M.2.2.2.2.1 = some (.arraylength, l)) (hH : d_V t h s) (hk : ∀ v, d_R v → F v = some r → p_wp p_GT p_MT d M (pc + 1) ls (.int (Int32.ofInt v) :: st) h Q) : p_wp p_GT p_MT d M pc ls (.ref b :: st) h Q := by
  obtain ⟨v, e1, e2⟩ := d_b_s hF
  unfold d_tn at e1
  obtain ⟨vs, e3, e4⟩ := d_b_s e1
  split at e4
  · next q =>
    cases e4
    have hc := d_ta_c hH e3
    refine p_wp.step hat ?_ (hk _ ⟨by omega, by omega⟩ e2)
    have : Int32.ofNat vs.length = Int32.ofInt (vs.length : Int) := rfl
    simp only [p_step, hc, this]
    rfl
  · cases e4
theorem dw_tld {r : β} {F : Int → Option β} {b : Nat} (hF : d_b (d_tl t b x) F = some r) (hat : p_at pc M.2.2.2.2.1 = some (.iaload, l)) (hH : d_V t h s) (hr : d_R x) (hk : ∀ v, d_R v → F v = some r → p_wp p_GT p_MT d M (pc + 1) ls (.int (Int32.ofInt v) :: st) h Q) : p_wp p_GT p_MT d M pc ls (.int (Int32.ofInt x) :: .ref b :: st) h Q := by
  obtain ⟨v, e1, e2⟩ := d_b_s hF
  unfold d_tl at e1
  obtain ⟨vs, e3, e4⟩ := d_b_s e1
  split at e4
  · next q =>
    split at e4
    · next y q2 =>
      cases e4
      have hc := d_ta_c hH e3
      obtain ⟨i1, i2⟩ := d_ix q hr rfl
      have := hk y.toInt d_R_t e2
      rw [Int32.ofInt_toInt] at this
      refine p_wp.step hat ?_ this
      simp only [p_step, p_al, hc, p_ix, if_neg i1, i2, q2]
      rfl
    · cases e4
  · cases e4
theorem dw_alnb {k : Fin 4} {b : Nat} (hat : p_at pc M.2.2.2.2.1 = some (.aload_n k, l)) (hl : p_lk k.val ls = some (.ref b)) (hk : p_wp p_GT p_MT d M (pc + 1) ls (.ref b :: st) h Q) : p_wp p_GT p_MT d M pc ls st h Q := dw_aln hat hl hk
theorem d_virt {X m b : Nat} {n : Int} {as : List Value} {M' : p_M} {P : List p_P} (hp12 : p_pk X 12 P = none) (hp : p_pk X 9 P = some (m, n)) (hl : (Nat.ble n.toNat st.length && Nat.ble (p_cat (st.drop n.toNat)) 9) = true) (has : (st.take n.toNat).reverse = .ref b :: as) (hM : p_MT[m]? = some M') (hH : d_V t h s) (hb : d_Tx t b) (hh : M'.2.2.2.2.2.2.2 = 7) : p_vir p_MT P X pc ls st h = some (.inr (.inr (m, .ref b :: as, st.drop n.toNat))) := by
  obtain ⟨b1, vs, b2⟩ := hb
  have e1 : h[b]? = some (0, 7, vs) := by rw [hH.2.1 b (Or.inr b1)]; exact b2
  rw [Bool.and_eq_true] at hl
  have hl' : n.toNat ≤ st.length ∧ p_cat (st.drop n.toNat) ≤ p_bd 9 := ⟨Nat.le_of_ble_eq_true hl.1, Nat.le_of_ble_eq_true hl.2⟩
  simp only [p_vir, hp12, p_invv, p_inv, hp, if_pos hl', has, hM, e1, hh, Nat.beq_refl, if_true]
theorem dw_ot1 {r : β} {e : Option Nat} {F : Nat → Option β} (hF : d_b e F = some r) (he : d_T t e) (hk : ∀ b, d_Tx t b → F b = some r → p_wp p_GT p_MT d M pc ls (.ref b :: st) h Q) : p_wp p_GT p_MT d M pc ls (d_pv e :: st) h Q := by
  obtain ⟨b, e1, e2⟩ := d_b_s hF
  subst e1
  exact hk b (he b rfl) e2
theorem dw_oq1 {r : β} {e : Option Nat} {F : Nat → Option β} (hF : d_b e F = some r) (he : True) (hk : ∀ b, True → F b = some r → p_wp p_GT p_MT d M pc ls (.ref b :: st) h Q) : p_wp p_GT p_MT d M pc ls (d_pv e :: st) h Q := by
  obtain ⟨b, e1, e2⟩ := d_b_s hF
  subst e1
  exact hk b trivial e2
theorem dw_ot2 {r : β} {e : Option Nat} {F : Nat → Option β} {v1 : Value} (hF : d_b e F = some r) (he : d_T t e) (hk : ∀ b, d_Tx t b → F b = some r → p_wp p_GT p_MT d M pc ls (v1 :: .ref b :: st) h Q) : p_wp p_GT p_MT d M pc ls (v1 :: d_pv e :: st) h Q := by
  obtain ⟨b, e1, e2⟩ := d_b_s hF
  subst e1
  exact hk b (he b rfl) e2
theorem dw_oq2 {r : β} {e : Option Nat} {F : Nat → Option β} {v1 : Value} (hF : d_b e F = some r) (he : True) (hk : ∀ b, True → F b = some r → p_wp p_GT p_MT d M pc ls (v1 :: .ref b :: st) h Q) : p_wp p_GT p_MT d M pc ls (v1 :: d_pv e :: st) h Q := by
  obtain ⟨b, e1, e2⟩ := d_b_s hF
  subst e1
  exact hk b trivial e2
theorem dw_ot3 {r : β} {e : Option Nat} {F : Nat → Option β} {v1 v2 : Value} (hF : d_b e F = some r) (he : d_T t e) (hk : ∀ b, d_Tx t b → F b = some r → p_wp p_GT p_MT d M pc ls (v1 :: v2 :: .ref b :: st) h Q) : p_wp p_GT p_MT d M pc ls (v1 :: v2 :: d_pv e :: st) h Q := by
  obtain ⟨b, e1, e2⟩ := d_b_s hF
  subst e1
  exact hk b (he b rfl) e2
theorem dw_oq3 {r : β} {e : Option Nat} {F : Nat → Option β} {v1 v2 : Value} (hF : d_b e F = some r) (he : True) (hk : ∀ b, True → F b = some r → p_wp p_GT p_MT d M pc ls (v1 :: v2 :: .ref b :: st) h Q) : p_wp p_GT p_MT d M pc ls (v1 :: v2 :: d_pv e :: st) h Q := by
  obtain ⟨b, e1, e2⟩ := d_b_s hF
  subst e1
  exact hk b trivial e2
theorem dw_ot4 {r : β} {e : Option Nat} {F : Nat → Option β} {v1 v2 v3 : Value} (hF : d_b e F = some r) (he : d_T t e) (hk : ∀ b, d_Tx t b → F b = some r → p_wp p_GT p_MT d M pc ls (v1 :: v2 :: v3 :: .ref b :: st) h Q) : p_wp p_GT p_MT d M pc ls (v1 :: v2 :: v3 :: d_pv e :: st) h Q := by
  obtain ⟨b, e1, e2⟩ := d_b_s hF
  subst e1
  exact hk b (he b rfl) e2
theorem dw_oq4 {r : β} {e : Option Nat} {F : Nat → Option β} {v1 v2 v3 : Value} (hF : d_b e F = some r) (he : True) (hk : ∀ b, True → F b = some r → p_wp p_GT p_MT d M pc ls (v1 :: v2 :: v3 :: .ref b :: st) h Q) : p_wp p_GT p_MT d M pc ls (v1 :: v2 :: v3 :: d_pv e :: st) h Q := by
  obtain ⟨b, e1, e2⟩ := d_b_s hF
  subst e1
  exact hk b trivial e2
theorem dw_ot5 {r : β} {e : Option Nat} {F : Nat → Option β} {v1 v2 v3 v4 : Value} (hF : d_b e F = some r) (he : d_T t e) (hk : ∀ b, d_Tx t b → F b = some r → p_wp p_GT p_MT d M pc ls (v1 :: v2 :: v3 :: v4 :: .ref b :: st) h Q) : p_wp p_GT p_MT d M pc ls (v1 :: v2 :: v3 :: v4 :: d_pv e :: st) h Q := by
  obtain ⟨b, e1, e2⟩ := d_b_s hF
  subst e1
  exact hk b (he b rfl) e2
theorem dw_oq5 {r : β} {e : Option Nat} {F : Nat → Option β} {v1 v2 v3 v4 : Value} (hF : d_b e F = some r) (he : True) (hk : ∀ b, True → F b = some r → p_wp p_GT p_MT d M pc ls (v1 :: v2 :: v3 :: v4 :: .ref b :: st) h Q) : p_wp p_GT p_MT d M pc ls (v1 :: v2 :: v3 :: v4 :: d_pv e :: st) h Q := by
  obtain ⟨b, e1, e2⟩ := d_b_s hF
  subst e1
  exact hk b trivial e2
theorem dw_ot6 {r : β} {e : Option Nat} {F : Nat → Option β} {v1 v2 v3 v4 v5 : Value} (hF : d_b e F = some r) (he : d_T t e) (hk : ∀ b, d_Tx t b → F b = some r → p_wp p_GT p_MT d M pc ls (v1 :: v2 :: v3 :: v4 :: v5 :: .ref b :: st) h Q) : p_wp p_GT p_MT d M pc ls (v1 :: v2 :: v3 :: v4 :: v5 :: d_pv e :: st) h Q := by
  obtain ⟨b, e1, e2⟩ := d_b_s hF
  subst e1
  exact hk b (he b rfl) e2
theorem dw_oq6 {r : β} {e : Option Nat} {F : Nat → Option β} {v1 v2 v3 v4 v5 : Value} (hF : d_b e F = some r) (he : True) (hk : ∀ b, True → F b = some r → p_wp p_GT p_MT d M pc ls (v1 :: v2 :: v3 :: v4 :: v5 :: .ref b :: st) h Q) : p_wp p_GT p_MT d M pc ls (v1 :: v2 :: v3 :: v4 :: v5 :: d_pv e :: st) h Q := by
  obtain ⟨b, e1, e2⟩ := d_b_s hF
  subst e1
  exact hk b trivial e2
theorem dw_ot7 {r : β} {e : Option Nat} {F : Nat → Option β} {v1 v2 v3 v4 v5 v6 : Value} (hF : d_b e F = some r) (he : d_T t e) (hk : ∀ b, d_Tx t b → F b = some r → p_wp p_GT p_MT d M pc ls (v1 :: v2 :: v3 :: v4 :: v5 :: v6 :: .ref b :: st) h Q) : p_wp p_GT p_MT d M pc ls (v1 :: v2 :: v3 :: v4 :: v5 :: v6 :: d_pv e :: st) h Q := by
  obtain ⟨b, e1, e2⟩ := d_b_s hF
  subst e1
  exact hk b (he b rfl) e2
theorem dw_oq7 {r : β} {e : Option Nat} {F : Nat → Option β} {v1 v2 v3 v4 v5 v6 : Value} (hF : d_b e F = some r) (he : True) (hk : ∀ b, True → F b = some r → p_wp p_GT p_MT d M pc ls (v1 :: v2 :: v3 :: v4 :: v5 :: v6 :: .ref b :: st) h Q) : p_wp p_GT p_MT d M pc ls (v1 :: v2 :: v3 :: v4 :: v5 :: v6 :: d_pv e :: st) h Q := by
  obtain ⟨b, e1, e2⟩ := d_b_s hF
  subst e1
  exact hk b trivial e2
theorem dw_ot8 {r : β} {e : Option Nat} {F : Nat → Option β} {v1 v2 v3 v4 v5 v6 v7 : Value} (hF : d_b e F = some r) (he : d_T t e) (hk : ∀ b, d_Tx t b → F b = some r → p_wp p_GT p_MT d M pc ls (v1 :: v2 :: v3 :: v4 :: v5 :: v6 :: v7 :: .ref b :: st) h Q) : p_wp p_GT p_MT d M pc ls (v1 :: v2 :: v3 :: v4 :: v5 :: v6 :: v7 :: d_pv e :: st) h Q := by
  obtain ⟨b, e1, e2⟩ := d_b_s hF
  subst e1
  exact hk b (he b rfl) e2
theorem dw_oq8 {r : β} {e : Option Nat} {F : Nat → Option β} {v1 v2 v3 v4 v5 v6 v7 : Value} (hF : d_b e F = some r) (he : True) (hk : ∀ b, True → F b = some r → p_wp p_GT p_MT d M pc ls (v1 :: v2 :: v3 :: v4 :: v5 :: v6 :: v7 :: .ref b :: st) h Q) : p_wp p_GT p_MT d M pc ls (v1 :: v2 :: v3 :: v4 :: v5 :: v6 :: v7 :: d_pv e :: st) h Q := by
  obtain ⟨b, e1, e2⟩ := d_b_s hF
  subst e1
  exact hk b trivial e2
theorem dw_nm {r : β} {E : Int} {f : Int → β} (hF : d_l E f = r) (hr : d_R E) (hk : ∀ x, d_R x → f x = r → p_wp p_GT p_MT d M pc ls (.int (Int32.ofInt x) :: st) h Q) : p_wp p_GT p_MT d M pc ls (.int (Int32.ofInt E) :: st) h Q := hk E hr hF
theorem dw_nn {off : Int} {u : Nat} {e : Option Nat} (hat : p_at pc M.2.2.2.2.1 = some (.ifnull off, l)) (ht : p_tg pc off = some u) (q : e = none) (hk : p_wp p_GT p_MT d M u ls st h Q) : p_wp p_GT p_MT d M pc ls (d_pv e :: st) h Q := by
  subst q
  exact p_wp.step hat (by simp only [p_step, d_pv, p_jm, ht]; rfl) hk
theorem dw_ns {off : Int} {a : Nat} {e : Option Nat} (hat : p_at pc M.2.2.2.2.1 = some (.ifnull off, l)) (q : e = some a) (hk : p_wp p_GT p_MT d M (pc + 3) ls st h Q) : p_wp p_GT p_MT d M pc ls (d_pv e :: st) h Q := by
  subst q
  exact p_wp.step hat (by simp only [p_step, d_pv]; rfl) hk
theorem dw_nnn {off : Int} {e : Option Nat} (hat : p_at pc M.2.2.2.2.1 = some (.ifnonnull off, l)) (q : e = none) (hk : p_wp p_GT p_MT d M (pc + 3) ls st h Q) : p_wp p_GT p_MT d M pc ls (d_pv e :: st) h Q := by
  subst q
  exact p_wp.step hat (by simp only [p_step, d_pv]; rfl) hk
theorem dw_nns {off : Int} {u a : Nat} {e : Option Nat} (hat : p_at pc M.2.2.2.2.1 = some (.ifnonnull off, l)) (ht : p_tg pc off = some u) (q : e = some a) (hk : p_wp p_GT p_MT d M u ls st h Q) : p_wp p_GT p_MT d M pc ls (d_pv e :: st) h Q := by
  subst q
  exact p_wp.step hat (by simp only [p_step, d_pv, p_jm, ht]; rfl) hk
theorem d_ifo {α : Type} {e : Option Nat} {A : β} {B : Nat → β} {r : β} {P : Prop} (hF : (match e with | none => A | some a => B a) = r) (h1 : e = none → A = r → P) (h2 : ∀ a, e = some a → B a = r → P) : P := by
  cases e with
  | none => exact h1 rfl hF
  | some a => exact h2 a rfl hF
end DC

def z_X (xs : List Int32) (x : Int) : Int := (xs.getD x.toNat 0).toInt
def z_K (t : Nat → Option p_C) (h : p_H) (ls : p_Ls) (Q : Option Value → p_H → Prop) : Prop := ∀ (t2 : Nat → Option p_C) (h2 : p_H) (s2 : d_S), d_V t2 h2 s2 → v_R t2 s2 → v_tle t t2 → h2.length ≤ h.length + 5 → p_sl h2 ≤ p_sl h + 1973 → p_wp p_GT p_MT 100 m_L_law 1685 ls [] h2 Q
section Z0
variable {xs : List Int32} {ls : p_Ls} {t : Nat → Option p_C} {s s1 : d_S} {h : p_H} {i x v : Int} {Q : Option Value → p_H → Prop} {d pc l : Nat} {M : p_M} {st : List Value}
theorem z_R : d_R (z_X xs x) := d_R_t
theorem z_B {c : Prop} [Decidable c] : d_R (v_b c) := by
  by_cases q : c
  · rw [v_bt q]; exact d_rl rfl
  · rw [v_bf q]; exact d_rl rfl
theorem z_script (hH : d_V t h s) (t0 : t 0 = some (2, 0, xs.map Value.int)) : h[0]? = some (2, 0, xs.map Value.int) := by rw [hH.2.1 0 (Or.inl (by decide)), t0]
theorem z_len (hat : p_at pc M.2.2.2.2.1 = some (.arraylength, l)) (hH : d_V t h s) (t0 : t 0 = some (2, 0, xs.map Value.int)) (hk : p_wp p_GT p_MT d M (pc + 1) ls (.int (Int32.ofInt (xs.length : Int)) :: st) h Q) : p_wp p_GT p_MT d M pc ls (.ref 0 :: st) h Q := by
  have hc := z_script hH t0
  refine p_wp.step hat (by simp only [p_step, hc, List.length_map]; rfl) hk
theorem z_ald (hat : p_at pc M.2.2.2.2.1 = some (.iaload, l)) (hH : d_V t h s) (t0 : t 0 = some (2, 0, xs.map Value.int)) (h0 : 0 ≤ x) (hn : x < 100000 ∧ x < xs.length) (hk : p_wp p_GT p_MT d M (pc + 1) ls (.int (Int32.ofInt (z_X xs x)) :: st) h Q) : p_wp p_GT p_MT d M pc ls (.int (Int32.ofInt x) :: .ref 0 :: st) h Q := by
  have hc := z_script hH t0
  obtain ⟨i1, i2⟩ := d_ix (x := x) h0 ⟨by omega, by omega⟩ rfl
  have hv : (xs.map Value.int)[x.toNat]? = some (.int (Int32.ofInt (z_X xs x))) := by
    rw [List.getElem?_map, List.getElem?_eq_getElem (show x.toNat < xs.length by omega)]
    show some (Value.int xs[x.toNat]) = _
    unfold z_X
    rw [List.getD_eq_getElem?_getD, List.getElem?_eq_getElem (show x.toNat < xs.length by omega)]
    show _ = some (Value.int (Int32.ofInt (xs[x.toNat]).toInt))
    rw [Int32.ofInt_toInt]
  refine p_wp.step hat ?_ hk
  simp only [p_step, p_al, hc, p_ix, if_neg i1, i2, hv]
  rfl
theorem z_bool (hat1 : p_at pc M.2.2.2.2.1 = some (.ifCond .eq 7, 3)) (hat2 : p_at (pc + 3) M.2.2.2.2.1 = some (.iconst 1, 1)) (hat3 : p_at (pc + 4) M.2.2.2.2.1 = some (.goto 4, 3)) (hat4 : p_at (pc + 7) M.2.2.2.2.1 = some (.iconst 0, 1)) (tg1 : p_tg pc 7 = some (pc + 7)) (tg2 : p_tg (pc + 4) 4 = some (pc + 8)) (hR : d_R x) (hk : p_wp p_GT p_MT d M (pc + 8) ls (.int (Int32.ofInt (v_b (x ≠ 0))) :: st) h Q) : p_wp p_GT p_MT d M pc ls (.int (Int32.ofInt x) :: st) h Q := by
  by_cases q : x = 0
  · rw [v_bf (fun z => z q)] at hk
    exact dw_zeq_y hat1 tg1 hR q (dw_ic hat4 hk)
  · rw [v_bt q] at hk
    exact dw_zeq_n hat1 tg1 hR q (dw_ic hat2 (dw_go hat3 tg2 hk))
theorem z_vI {o : Option (Int × d_S)} {X m dc : Nat} {as rest : List Value} {M' : p_M} (hx : o = some (v, s1)) (hat : p_at pc M.2.2.2.2.1 = some (.invokevirtual X, l)) (hs : p_vir p_MT M.2.2.2.2.2.1 X (pc + 3) ls st h = some (.inr (.inr (m, as, rest)))) (hM : p_MT[m]? = some M') (hc : Nat.ble (p_cat as) M'.2.2.1 = true) (hd : Nat.ble (dc + 1) d = true) (h1 : ∀ r, o = some r → p_wp p_GT p_MT dc M' 0 (lv_args 0 as) [] h (d_QI t r)) (hk : ∀ h2, d_V t h2 s1 → p_wp p_GT p_MT d M (pc + 3) ls (.int (Int32.ofInt v) :: rest) h2 Q) : p_wp p_GT p_MT d M pc ls st h Q := by
  refine p_wp.call hat (by simp only [p_step]; exact hs) hM (Nat.le_of_ble_eq_true hc) (Nat.le_of_ble_eq_true hd) (h1 _ hx) ?_
  rintro w h2 ⟨rfl, -, hV⟩
  exact hk h2 hV
theorem z_vC {o : Option (Int × d_S)} {X m dc : Nat} {as rest : List Value} {M' : p_M} (hx : o = some (v, s1)) (hat : p_at pc M.2.2.2.2.1 = some (.invokevirtual X, l)) (hs : p_vir p_MT M.2.2.2.2.2.1 X (pc + 3) ls st h = some (.inr (.inr (m, as, rest)))) (hM : p_MT[m]? = some M') (hc : Nat.ble (p_cat as) M'.2.2.1 = true) (hd : Nat.ble (dc + 1) d = true) (h1 : ∀ r, o = some r → p_wp p_GT p_MT dc M' 0 (lv_args 0 as) [] h (d_QC t r)) (hk : ∀ h2, d_V t h2 s1 → p_wp p_GT p_MT d M (pc + 3) ls (.int (Int32.ofInt v) :: rest) h2 Q) : p_wp p_GT p_MT d M pc ls st h Q := by
  refine p_wp.call hat (by simp only [p_step]; exact hs) hM (Nat.le_of_ble_eq_true hc) (Nat.le_of_ble_eq_true hd) (h1 _ hx) ?_
  rintro w h2 ⟨rfl, -, hV⟩
  exact hk h2 hV
theorem z_vJ {o : Option (Int × d_S)} {X m dc : Nat} {as rest : List Value} {M' : p_M} (hx : o = some (v, s1)) (hat : p_at pc M.2.2.2.2.1 = some (.invokevirtual X, l)) (hs : p_vir p_MT M.2.2.2.2.2.1 X (pc + 3) ls st h = some (.inr (.inr (m, as, rest)))) (hM : p_MT[m]? = some M') (hc : Nat.ble (p_cat as) M'.2.2.1 = true) (hd : Nat.ble (dc + 1) d = true) (h1 : ∀ r, o = some r → p_wp p_GT p_MT dc M' 0 (lv_args 0 as) [] h (d_QJ t r)) (hk : ∀ h2, d_V t h2 s1 → p_wp p_GT p_MT d M (pc + 3) ls (.long (Int64.ofInt v) :: rest) h2 Q) : p_wp p_GT p_MT d M pc ls st h Q := by
  refine p_wp.call hat (by simp only [p_step]; exact hs) hM (Nat.le_of_ble_eq_true hc) (Nat.le_of_ble_eq_true hd) (h1 _ hx) ?_
  rintro w h2 ⟨rfl, -, hV⟩
  exact hk h2 hV
theorem z_vP {o : Option Int} {X m dc : Nat} {as rest : List Value} {M' : p_M} (hx : o = some v) (hat : p_at pc M.2.2.2.2.1 = some (.invokevirtual X, l)) (hs : p_vir p_MT M.2.2.2.2.2.1 X (pc + 3) ls st h = some (.inr (.inr (m, as, rest)))) (hM : p_MT[m]? = some M') (hc : Nat.ble (p_cat as) M'.2.2.1 = true) (hd : Nat.ble (dc + 1) d = true) (h1 : ∀ r, o = some r → p_wp p_GT p_MT dc M' 0 (lv_args 0 as) [] h (d_QP h r)) (hk : p_wp p_GT p_MT d M (pc + 3) ls (.int (Int32.ofInt v) :: rest) h Q) : p_wp p_GT p_MT d M pc ls st h Q := by
  refine p_wp.call hat (by simp only [p_step]; exact hs) hM (Nat.le_of_ble_eq_true hc) (Nat.le_of_ble_eq_true hd) (h1 _ hx) ?_
  rintro w h2 ⟨rfl, -, rfl⟩
  exact hk
theorem z_pu {o : Option Int} (hx : d_b o (fun v => some (v, s)) = some (v, s1)) : o = some v ∧ s1 = s := by
  obtain ⟨a, e1, e2⟩ := d_b_s hx
  have := Option.some.inj e2
  injection this with z1 z2
  exact ⟨by rw [e1, z1], z2.symm⟩
theorem z_go {off : Int} {u : Nat} (hat : p_at pc M.2.2.2.2.1 = some (.goto off, l)) (ht : p_tg pc off = some u) (hk : p_wp p_GT p_MT d M u ls st h Q) : p_wp p_GT p_MT d M pc ls st h Q := dw_go hat ht hk
theorem z_eq {off : Int} {u : Nat} {w : Int32} (hat : p_at pc M.2.2.2.2.1 = some (.if_icmp .eq off, l)) (ht : p_tg pc off = some u) (hk : p_wp p_GT p_MT d M u ls st h Q) : p_wp p_GT p_MT d M pc ls (.int w :: .int w :: st) h Q := d_br_t hat ht (by simp [p_cd]) hk
theorem z_pop2 {w : Int64} (hat : p_at pc M.2.2.2.2.1 = some (.pop2, l)) (hk : p_wp p_GT p_MT d M (pc + 1) ls st h Q) : p_wp p_GT p_MT d M pc ls (.long w :: st) h Q := p_wp.step hat rfl hk
theorem z_63 : ∃ c : Nat, d_and x 63 = (c : Int) ∧ c < 64 := by
  unfold d_and
  have h1 : ((Int32.ofInt x &&& Int32.ofInt 63).toBitVec.toNat) = (x % 4294967296).toNat % 64 := by
    rw [Int32.toBitVec_and, BitVec.toNat_and]
    have e1 : (Int32.ofInt x).toBitVec.toNat = (x % 4294967296).toNat := by
      show (BitVec.ofInt 32 x).toNat = _
      rw [BitVec.toNat_ofInt]; rfl
    have e2 : (Int32.ofInt 63).toBitVec.toNat = 2 ^ 6 - 1 := rfl
    rw [e1, e2, Nat.and_two_pow_sub_one_eq_mod]
  exact ⟨_, v_ofb (n := (x % 4294967296).toNat % 64) (by omega) h1, by omega⟩
end Z0

/-! Arithmetic on forms: the answer is a form, perhaps over a new unknown -/
abbrev x_N : Type := Nat × q_F × q_E
/-- the answer's form is this number -/
noncomputable def x_NR (n : Nat) (r : Nat → Int) (o : x_N) (v : Int) : Prop := ∃ r', (∀ i, i < n → r' i = r i) ∧ n ≤ o.1 ∧ q_wF o.1 o.2.1 ∧ q_FO r' o.2.1 ∧ q_wl o.1 o.2.2.1 ∧ q_e r' o.2.2 = v
noncomputable def x_fr (n : Nat) (F : q_F) (lo hi : Int) : x_N := (n + 1, ((n, lo, hi) :: F.1, F.2.1, F.2.2), q_v n)
section XA
variable {n : Nat} {F : q_F} {r : Nat → Int}
theorem x_fr_ok {lo hi v : Int} (w : q_wF n F) (h : q_FO r F) (h1 : lo ≤ v) (h2 : v ≤ hi) : x_NR n r (x_fr n F lo hi) v := by
  refine ⟨x_up r n v, x_up_lt, Nat.le_succ n, ?_, ?_, q_v_wl (Nat.lt_succ_self n), by rw [x_fr, q_v_e, x_up_at]⟩
  · have w' := w.mono (Nat.le_succ n)
    refine ⟨fun t ht => ?_, w'.2.1, w'.2.2⟩
    rcases List.mem_cons.mp ht with rfl | ht
    · exact Nat.lt_succ_self n
    · exact w'.1 t ht
  · have h' := h.moved w (r' := x_up r n v) x_up_lt
    refine ⟨fun t ht => ?_, h'.2.1, h'.2.2⟩
    rcases List.mem_cons.mp ht with rfl | ht
    · show lo ≤ x_up r n v n ∧ x_up r n v n ≤ hi
      rw [x_up_at]; exact ⟨h1, h2⟩
    · exact h'.1 t ht
theorem x_kp_ok {e : q_E} {v : Int} (w : q_wF n F) (h : q_FO r F) (we : q_wl n e.1) (he : q_e r e = v) : x_NR n r (n, F, e) v := ⟨r, fun _ _ => rfl, Nat.le_refl n, w, h, we, he⟩
noncomputable def x_32 (F : q_F) (e : q_E) : Bool := q_ent F (q_pl e 2147483648) && q_ent F (q_sub (q_c 2147483647) e)
noncomputable def x_64 (F : q_F) (e : q_E) : Bool := q_ent F (q_pl e 9223372036854775808) && q_ent F (q_sub (q_c 9223372036854775807) e)
noncomputable def x_f32 (n : Nat) (F : q_F) : x_N := x_fr n F (-2147483648) 2147483647
noncomputable def x_f64 (n : Nat) (F : q_F) : x_N := x_fr n F (-9223372036854775808) 9223372036854775807
theorem x_32_ok {e : q_E} (h : q_FO r F) (hg : x_32 F e = true) : -2147483648 ≤ q_e r e ∧ q_e r e ≤ 2147483647 := by
  simp only [x_32, Bool.and_eq_true] at hg
  have h1 := q_ent_spec h hg.1
  have h2 := q_ent_spec h hg.2
  rw [q_pl_e] at h1
  rw [q_sub_e, q_c_e] at h2
  omega
theorem x_64_ok {e : q_E} (h : q_FO r F) (hg : x_64 F e = true) : -9223372036854775808 ≤ q_e r e ∧ q_e r e ≤ 9223372036854775807 := by
  simp only [x_64, Bool.and_eq_true] at hg
  have h1 := q_ent_spec h hg.1
  have h2 := q_ent_spec h hg.2
  rw [q_pl_e] at h1
  rw [q_sub_e, q_c_e] at h2
  omega
theorem x_f32_ok (w : q_wF n F) (h : q_FO r F) (x : Int32) : x_NR n r (x_f32 n F) x.toInt := x_fr_ok w h (x_I32 x).1 (x_I32 x).2
theorem x_f64_ok (w : q_wF n F) (h : q_FO r F) (x : Int64) : x_NR n r (x_f64 n F) x.toInt := x_fr_ok w h (x_I64 x).1 (x_I64 x).2
/-- a form if it stays within 32 bits -/
noncomputable def x_k32 (n : Nat) (F : q_F) (e : q_E) : x_N := if x_32 F e then (n, F, e) else x_f32 n F
noncomputable def x_k64 (n : Nat) (F : q_F) (e : q_E) : x_N := if x_64 F e then (n, F, e) else x_f64 n F
theorem x_k32_ok {e : q_E} {x : Int32} (w : q_wF n F) (h : q_FO r F) (we : q_wl n e.1) (hx : -2147483648 ≤ q_e r e → q_e r e ≤ 2147483647 → x.toInt = q_e r e) : x_NR n r (x_k32 n F e) x.toInt := by
  simp only [x_k32]
  split
  · next hg =>
    have := x_32_ok h hg
    exact x_kp_ok w h we (hx this.1 this.2).symm
  · exact x_f32_ok w h x
theorem x_k64_ok {e : q_E} {x : Int64} (w : q_wF n F) (h : q_FO r F) (we : q_wl n e.1) (hx : -9223372036854775808 ≤ q_e r e → q_e r e ≤ 9223372036854775807 → x.toInt = q_e r e) : x_NR n r (x_k64 n F e) x.toInt := by
  simp only [x_k64]
  split
  · next hg =>
    have := x_64_ok h hg
    exact x_kp_ok w h we (hx this.1 this.2).symm
  · exact x_f64_ok w h x
/-- the greatest that a form can be -/
noncomputable def x_mx (F : q_F) (e : q_E) : Option Int := match q_mn F.1 (q_scL (-1) e.1) (-e.2) with
  | some m => some (-m)
  | none => none
theorem x_mx_ok {e : q_E} {m : Int} (h : q_FO r F) (hm : x_mx F e = some m) : q_e r e ≤ m := by
  simp only [x_mx] at hm
  split at hm
  · next m' hm' =>
    cases hm
    have := q_mn_spec h.1 _ _ _ hm'
    rw [q_scL_ev] at this
    simp only [q_e]; omega
  · cases hm
noncomputable def x_mi (F : q_F) (e : q_E) : Option Int := q_mn F.1 e.1 e.2
theorem x_mi_ok {e : q_E} {m : Int} (h : q_FO r F) (hm : x_mi F e = some m) : m ≤ q_e r e := q_mn_spec h.1 _ _ _ hm
noncomputable def x_add' (n : Nat) (F : q_F) (a b : q_E) : x_N := x_k32 n F (q_add a b)
noncomputable def x_sub' (n : Nat) (F : q_F) (a b : q_E) : x_N := x_k32 n F (q_sub a b)
noncomputable def x_neg' (n : Nat) (F : q_F) (a : q_E) : x_N := x_k32 n F (q_sc (-1) a)
noncomputable def x_mul' (n : Nat) (F : q_F) (a b : q_E) : x_N := match q_isC a, q_isC b with
  | _, some c => x_k32 n F (q_sc c a)
  | some c, none => x_k32 n F (q_sc c b)
  | none, none => (match x_mi F a, x_mx F a, x_mi F b, x_mx F b with
    | some l1, some u1, some l2, some u2 => if q_nn l1 && q_nn l2 && q_nn (2147483647 - u1 * u2) then x_fr n F 0 (u1 * u2) else x_f32 n F
    | _, _, _, _ => x_f32 n F)
noncomputable def x_and' (n : Nat) (F : q_F) (a b : q_E) : x_N := if q_ent F b then (match x_mx F b with
    | some u => x_fr n F 0 u
    | none => x_f32 n F)
  else if q_ent F a then (match x_mx F a with
    | some u => x_fr n F 0 u
    | none => x_f32 n F)
  else x_f32 n F
noncomputable def x_lg (u : Int) : List Nat → Option Nat
  | [] => none
  | k :: r => if q_nn (((2 ^ k : Nat) : Int) - 1 - u) then some k else x_lg u r
noncomputable def x_or' (n : Nat) (F : q_F) (a b : q_E) : x_N := match x_mi F a, x_mx F a, x_mi F b, x_mx F b with
  | some l1, some u1, some l2, some u2 => if q_nn l1 && q_nn l2 then (match x_lg u1 [1, 4, 5, 7, 10, 12, 16, 24, 31], x_lg u2 [1, 4, 5, 7, 10, 12, 16, 24, 31] with
      | some k1, some k2 => x_fr n F 0 (((2 ^ (max k1 k2) : Nat) : Int) - 1)
      | _, _ => x_f32 n F) else x_f32 n F
  | _, _, _, _ => x_f32 n F
noncomputable def x_shr' (n : Nat) (F : q_F) (a b : q_E) : x_N := match q_isC b, x_mi F a, x_mx F a with
  | some (.ofNat k), some l, some u => if Nat.blt k 32 then x_fr n F (l / ((2 ^ k : Nat) : Int)) (u / ((2 ^ k : Nat) : Int)) else x_f32 n F
  | _, _, _ => x_f32 n F
noncomputable def x_div' (n : Nat) (F : q_F) (a b : q_E) : x_N := match q_isC b, x_mi F a, x_mx F a with
  | some d, some l, some u => if q_nn l && q_nn (d - 1) then x_fr n F 0 (u / d) else x_f32 n F
  | _, _, _ => x_f32 n F
/-- the rest: with its divisor if both are known to be 0 or more -/
noncomputable def x_rem' (n : Nat) (F : q_F) (a b : q_E) (full : x_N) : x_N := match q_isC b with
  | some d => if q_nn (d - 1) then (if q_ent F a then x_fr n F 0 (d - 1) else x_fr n F (-(d - 1)) (d - 1)) else full
  | none => if q_ent F a && q_ent F (q_pl b (-1)) then (match x_mx F b with
      | some u => (let o := x_fr n F 0 u; (o.1, q_asm o.2.1 (q_pl (q_sub b o.2.2) (-1)), o.2.2))
      | none => full) else full
theorem x_add_ok {a b : q_E} {x y : Int32} (w : q_wF n F) (h : q_FO r F) (wa : q_wl n a.1) (wb : q_wl n b.1) (ha : x.toInt = q_e r a) (hb : y.toInt = q_e r b) : x_NR n r (x_add' n F a b) (x + y).toInt :=
  x_k32_ok w h (q_add_wl wa wb) (fun g1 g2 => by rw [q_add_e, ← ha, ← hb] at g1 g2 ⊢; exact x_add g1 g2)
theorem x_sub_ok {a b : q_E} {x y : Int32} (w : q_wF n F) (h : q_FO r F) (wa : q_wl n a.1) (wb : q_wl n b.1) (ha : x.toInt = q_e r a) (hb : y.toInt = q_e r b) : x_NR n r (x_sub' n F a b) (x - y).toInt :=
  x_k32_ok w h (q_sub_wl wa wb) (fun g1 g2 => by rw [q_sub_e, ← ha, ← hb] at g1 g2 ⊢; exact x_sub g1 g2)
theorem x_neg_ok {a : q_E} {x : Int32} (w : q_wF n F) (h : q_FO r F) (wa : q_wl n a.1) (ha : x.toInt = q_e r a) : x_NR n r (x_neg' n F a) (-x).toInt :=
  x_k32_ok w h (q_sc_wl wa) (fun g1 g2 => by rw [q_sc_e, ← ha] at g1 g2 ⊢; rw [x_neg (by omega)]; omega)
theorem x_mul_ok {a b : q_E} {x y : Int32} (w : q_wF n F) (h : q_FO r F) (wa : q_wl n a.1) (wb : q_wl n b.1) (ha : x.toInt = q_e r a) (hb : y.toInt = q_e r b) : x_NR n r (x_mul' n F a b) (x * y).toInt := by
  simp only [x_mul']
  split
  · next c hc =>
    refine x_k32_ok w h (q_sc_wl wa) (fun g1 g2 => ?_)
    have hy : y.toInt = c := hb.trans (q_isC_e hc)
    rw [q_sc_e, ← ha] at g1 g2 ⊢
    rw [Int.mul_comm, ← hy] at g1 g2 ⊢
    exact x_mul g1 g2
  · next c hc _ =>
    refine x_k32_ok w h (q_sc_wl wb) (fun g1 g2 => ?_)
    have hx : x.toInt = c := ha.trans (q_isC_e hc)
    rw [q_sc_e, ← hb, ← hx] at g1 g2 ⊢
    exact x_mul g1 g2
  · split
    · next l1 u1 l2 u2 e1 e2 e3 e4 =>
      split
      · next hg =>
        simp only [Bool.and_eq_true] at hg
        have p1 := q_nn_iff.mp hg.1.1
        have p2 := q_nn_iff.mp hg.1.2
        have p3 := q_nn_iff.mp hg.2
        have b1 := x_mi_ok h e1
        have b2 := x_mx_ok h e2
        have b3 := x_mi_ok h e3
        have b4 := x_mx_ok h e4
        rw [← ha] at b1 b2
        rw [← hb] at b3 b4
        have q1 : 0 ≤ x.toInt * y.toInt := Int.mul_nonneg (by omega) (by omega)
        have q2 : x.toInt * y.toInt ≤ u1 * u2 := Int.mul_le_mul b2 b4 (by omega) (by omega)
        rw [x_mul (by omega) (by omega)]
        exact x_fr_ok w h q1 q2
      · exact x_f32_ok w h _
    · exact x_f32_ok w h _
theorem x_and_ok {a b : q_E} {x y : Int32} (w : q_wF n F) (h : q_FO r F) (ha : x.toInt = q_e r a) (hb : y.toInt = q_e r b) : x_NR n r (x_and' n F a b) (x &&& y).toInt := by
  simp only [x_and']
  split
  · next hg =>
    have p := q_ent_spec h hg
    split
    · next u hu =>
      have b1 := x_mx_ok h hu
      have := x_and (x := x) (y := y) (by omega)
      exact x_fr_ok w h this.1 (by omega)
    · exact x_f32_ok w h _
  · split
    · next hg =>
      have p := q_ent_spec h hg
      split
      · next u hu =>
        have b1 := x_mx_ok h hu
        have := x_andl (x := x) (y := y) (by omega)
        exact x_fr_ok w h this.1 (by omega)
      · exact x_f32_ok w h _
    · exact x_f32_ok w h _
theorem x_lg_ok {u : Int} : ∀ {L : List Nat} {k : Nat}, x_lg u L = some k → k ∈ L ∧ u < ((2 ^ k : Nat) : Int) := by
  intro L
  induction L with
  | nil => intro k h; simp [x_lg] at h
  | cons j L ih =>
    intro k h
    simp only [x_lg] at h
    split at h
    · next hg =>
      cases h
      have := q_nn_iff.mp hg
      exact ⟨List.mem_cons_self, by omega⟩
    · have := ih h
      exact ⟨List.mem_cons_of_mem _ this.1, this.2⟩
theorem x_or_ok {a b : q_E} {x y : Int32} (w : q_wF n F) (h : q_FO r F) (ha : x.toInt = q_e r a) (hb : y.toInt = q_e r b) : x_NR n r (x_or' n F a b) (x ||| y).toInt := by
  simp only [x_or']
  split
  · next l1 u1 l2 u2 e1 e2 e3 e4 =>
    split
    · next hg =>
      simp only [Bool.and_eq_true] at hg
      have p1 := q_nn_iff.mp hg.1
      have p2 := q_nn_iff.mp hg.2
      have b1 := x_mi_ok h e1
      have b2 := x_mx_ok h e2
      have b3 := x_mi_ok h e3
      have b4 := x_mx_ok h e4
      rw [← ha] at b1 b2
      rw [← hb] at b3 b4
      split
      · next k1 k2 g1 g2 =>
        obtain ⟨m1, c1⟩ := x_lg_ok g1
        obtain ⟨m2, c2⟩ := x_lg_ok g2
        have hk : ∀ k ∈ [1, 4, 5, 7, 10, 12, 16, 24, 31], k ≤ 31 := by decide
        have hk1 := hk k1 m1
        have hk2 := hk k2 m2
        have d1 : (2 : Nat) ^ k1 ≤ 2 ^ max k1 k2 := Nat.pow_le_pow_right (by decide) (by omega)
        have d2 : (2 : Nat) ^ k2 ≤ 2 ^ max k1 k2 := Nat.pow_le_pow_right (by decide) (by omega)
        have e : ((2 : Int) ^ max k1 k2) = ((2 ^ max k1 k2 : Nat) : Int) := by push_cast; rfl
        have := x_or (x := x) (y := y) (k := max k1 k2) (by omega) (by omega) (by rw [e]; omega) (by omega) (by rw [e]; omega)
        rw [e] at this
        exact x_fr_ok w h this.1 (by omega)
      · exact x_f32_ok w h _
    · exact x_f32_ok w h _
  · exact x_f32_ok w h _
theorem x_shr_ok {a b : q_E} {x y : Int32} (w : q_wF n F) (h : q_FO r F) (ha : x.toInt = q_e r a) (hb : y.toInt = q_e r b) : x_NR n r (x_shr' n F a b) (x >>> (y &&& 31)).toInt := by
  simp only [x_shr']
  split
  · next k l u hc e1 e2 =>
    split
    · next hk =>
      have hk : k < 32 := Nat.le_of_ble_eq_true hk
      have hy : y.toInt = (k : Int) := hb.trans (q_isC_e hc)
      have b1 := x_mi_ok h e1
      have b2 := x_mx_ok h e2
      rw [← ha] at b1 b2
      have e : ((2 : Int) ^ k) = ((2 ^ k : Nat) : Int) := by push_cast; rfl
      have hp : (0 : Int) < ((2 ^ k : Nat) : Int) := by have := Nat.pow_pos (n := k) (show 0 < 2 by decide); omega
      rw [x_shr hk hy, e]
      exact x_fr_ok w h (Int.ediv_le_ediv hp b1) (Int.ediv_le_ediv hp b2)
    · exact x_f32_ok w h _
  · exact x_f32_ok w h _
theorem x_div_ok {a b : q_E} {x y : Int32} (w : q_wF n F) (h : q_FO r F) (ha : x.toInt = q_e r a) (hb : y.toInt = q_e r b) : x_NR n r (x_div' n F a b) (x / y).toInt := by
  simp only [x_div']
  split
  · next d l u hc e1 e2 =>
    split
    · next hg =>
      simp only [Bool.and_eq_true] at hg
      have p1 := q_nn_iff.mp hg.1
      have p2 := q_nn_iff.mp hg.2
      have hy : y.toInt = d := hb.trans (q_isC_e hc)
      have b1 := x_mi_ok h e1
      have b2 := x_mx_ok h e2
      rw [← ha] at b1 b2
      have hx := x_I32 x
      have hq : x.toInt.tdiv y.toInt = x.toInt / d := by rw [hy, Int.tdiv_eq_ediv_of_nonneg (by omega)]
      have q1 : 0 ≤ x.toInt / d := Int.ediv_nonneg (by omega) (by omega)
      have q2 : x.toInt / d ≤ u / d := Int.ediv_le_ediv (by omega) b2
      have q3 : x.toInt / d ≤ x.toInt := Int.ediv_le_self _ (by omega)
      have e : (x / y).toInt = x.toInt / d := by
        rw [Int32.toInt_div, hq]
        exact x_bm (by omega) (by omega)
      rw [e]
      exact x_fr_ok w h q1 q2
    · exact x_f32_ok w h _
  · exact x_f32_ok w h _
theorem x_rem_ok {a b : q_E} {full : x_N} {p q : Int} (w : q_wF n F) (h : q_FO r F) (wb : q_wl n b.1) (ha : p = q_e r a) (hb : q = q_e r b) (hf : x_NR n r full (p.tmod q)) : x_NR n r (x_rem' n F a b full) (p.tmod q) := by
  simp only [x_rem']
  split
  · next d hc =>
    have hq : q = d := hb.trans (q_isC_e hc)
    split
    · next hg =>
      have p2 := q_nn_iff.mp hg
      have hd : 0 < d := by omega
      rw [hq]
      split
      · next hga =>
        have p1 := q_ent_spec h hga
        have h1 := Int.tmod_nonneg d (show 0 ≤ p by omega)
        have h2 := Int.tmod_lt_of_pos p hd
        exact x_fr_ok w h h1 (by omega)
      · have h2 := Int.tmod_lt_of_pos p hd
        have h1 := Int.lt_tmod_of_pos p hd
        exact x_fr_ok w h (by omega) (by omega)
    · exact hf
  · split
    · next hg =>
      simp only [Bool.and_eq_true] at hg
      have p1 := q_ent_spec h hg.1
      have p2 := q_ent_spec h hg.2
      rw [q_pl_e] at p2
      split
      · next u hu =>
        have b1 := x_mx_ok h hu
        have h1 := Int.tmod_nonneg q (show 0 ≤ p by omega)
        have h2 := Int.tmod_lt_of_pos p (show 0 < q by omega)
        obtain ⟨r', g1, g2, g3, g4, g5, g6⟩ := x_fr_ok (lo := 0) (hi := u) w h h1 (by omega)
        refine ⟨r', g1, g2, q_asm_wF g3 (q_pl_wl (q_sub_wl (wb.mono g2) g5)), q_asm_spec g4 ?_, g5, g6⟩
        rw [q_pl_e, q_sub_e, g6, q_e_eq wb g1]
        omega
      · exact hf
    · exact hf
end XA

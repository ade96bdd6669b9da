section DD
variable {β : Type} {d : Nat} {M : p_M} {pc l : Nat} {ls : p_Ls} {st : List Value} {h : p_H} {Q : Option Value → p_H → Prop} {t : Nat → Option p_C} {s : d_S} {x y z : Int} {v : Value} {r : β}
def d_shlL (a b : Int) : Int := (Int64.ofInt a <<< ((Int32.ofInt b).toInt64 &&& 63)).toInt
def d_shrL (a b : Int) : Int := (Int64.ofInt a >>> ((Int32.ofInt b).toInt64 &&& 63)).toInt
def d_orL (a b : Int) : Int := (Int64.ofInt a ||| Int64.ofInt b).toInt
def d_b8 (a : Int) : Int := (Int32.ofInt a).toInt8.toInt
theorem dw_lshl (hat : p_at pc M.2.2.2.2.1 = some (.lshl, l)) (hk : p_wp p_GT p_MT d M (pc + 1) ls (.long (Int64.ofInt (d_shlL x y)) :: st) h Q) : p_wp p_GT p_MT d M pc ls (.int (Int32.ofInt y) :: .long (Int64.ofInt x) :: st) h Q := by
  unfold d_shlL at hk
  rw [Int64.ofInt_toInt] at hk
  exact p_wp.step hat rfl hk
theorem dw_lshr (hat : p_at pc M.2.2.2.2.1 = some (.lshr, l)) (hk : p_wp p_GT p_MT d M (pc + 1) ls (.long (Int64.ofInt (d_shrL x y)) :: st) h Q) : p_wp p_GT p_MT d M pc ls (.int (Int32.ofInt y) :: .long (Int64.ofInt x) :: st) h Q := by
  unfold d_shrL at hk
  rw [Int64.ofInt_toInt] at hk
  exact p_wp.step hat rfl hk
theorem dw_lor (hat : p_at pc M.2.2.2.2.1 = some (.lor, l)) (hk : p_wp p_GT p_MT d M (pc + 1) ls (.long (Int64.ofInt (d_orL x y)) :: st) h Q) : p_wp p_GT p_MT d M pc ls (.long (Int64.ofInt y) :: .long (Int64.ofInt x) :: st) h Q := by
  unfold d_orL at hk
  rw [Int64.ofInt_toInt] at hk
  exact p_wp.step hat rfl hk
theorem d_b8_R : d_R (d_b8 x) ∧ -128 ≤ d_b8 x ∧ d_b8 x ≤ 127 := by
  have h1 := Int8.le_toInt (Int32.ofInt x).toInt8
  have h2 := Int8.toInt_lt (Int32.ofInt x).toInt8
  unfold d_b8 d_R
  omega
theorem d_b8_32 (w : Int8) : w.toInt32 = Int32.ofInt w.toInt := by
  apply Int32.toInt_inj.mp
  have h1 := Int8.le_toInt w
  have h2 := Int8.toInt_lt w
  rw [Int8.toInt_toInt32, d_ti ⟨by omega, by omega⟩]
theorem dw_i2b (hat : p_at pc M.2.2.2.2.1 = some (.i2b, l)) (hk : p_wp p_GT p_MT d M (pc + 1) ls (.int (Int32.ofInt (d_b8 x)) :: st) h Q) : p_wp p_GT p_MT d M pc ls (.int (Int32.ofInt x) :: st) h Q := by
  unfold d_b8 at hk
  rw [← d_b8_32] at hk
  exact p_wp.step hat rfl hk
theorem d_nar8 (hy : -128 ≤ y ∧ y ≤ 127) : narrow .byte (.int (Int32.ofInt y)) = .int (Int32.ofInt y) := by
  have e : (Int32.ofInt y).toInt8.toInt32 = Int32.ofInt y := by
    rw [d_b8_32]
    congr 1
    have : (Int32.ofInt y).toInt8.toInt = y := by
      rw [Int32.toInt_toInt8, d_ti ⟨by omega, by omega⟩]
      exact Int.bmod_eq_of_le (by omega) (by omega)
    exact this
  simp only [narrow, e]
theorem dw_bst1 {a n : Nat} {F : d_S → β} (hat : p_at pc M.2.2.2.2.1 = some (.bastore, l)) (hH : d_V t h s) (hc : d_ca a 1 1 n 1 = true) (h0 : 0 ≤ x) (hn : x < n) (hr : d_R x) {k : Nat} (hx : x.toNat = k) (hy : -128 ≤ y ∧ y ≤ 127) (hF : d_l (d_si s a k y) F = r) (hk : ∀ s h, d_V t h s → F s = r → p_wp p_GT p_MT d M (pc + 1) ls st h Q) : p_wp p_GT p_MT d M pc ls (.int (Int32.ofInt y) :: .int (Int32.ofInt x) :: .ref a :: st) h Q := by
  subst hx
  obtain ⟨h2, e1, e2⟩ := d_ast (pc := pc) (ls := ls) (st := st) (s' := s) (y := y) hH hc h0 hn hr ⟨by omega, by omega⟩
  refine p_wp.step hat ?_ (hk _ _ e2 hF)
  simp only [p_step, d_nar8 hy, e1]
  rfl
theorem dw_bld1 {a n : Nat} (hat : p_at pc M.2.2.2.2.1 = some (.baload, l)) (hH : d_V t h s) (hc : d_ca a 1 1 n 1 = true) (h0 : 0 ≤ x) (hn : x < n) (hr : d_R x) {k : Nat} (hx : x.toNat = k) (hk : p_wp p_GT p_MT d M (pc + 1) ls (.int (Int32.ofInt (s.1 a k)) :: st) h Q) : p_wp p_GT p_MT d M pc ls (.int (Int32.ofInt x) :: .ref a :: st) h Q := by
  subst hx
  obtain ⟨v, v1, v2⟩ := d_ald (pc := pc) (ls := ls) (st := st) (t1 := 1) (t2 := 3) (P := fun _ => True) hH hc rfl rfl h0 hn hr
  cases (show v = _ from v1)
  exact p_wp.step hat (by simp only [p_step, v2]; rfl) hk
theorem dw_gL {X : Nat} {f : Int} (hat : p_at pc M.2.2.2.2.1 = some (.getfield X, l)) (hp : p_pk X 0 M.2.2.2.2.2.1 = some (12, f)) (hf : f.toNat = 11) (hH : d_V t h s) (hk : p_wp p_GT p_MT d M (pc + 3) ls (.long (Int64.ofInt (s.2.2 1011)) :: st) h Q) : p_wp p_GT p_MT d M pc ls (.ref 64 :: st) h Q :=
  dw_get hat hp hf hH d_c64_11 (fun v hv => by cases (show v = _ from (show 64 = 64 ∧ v = _ from hv).2); exact hk)
theorem dw_pL {X : Nat} {f : Int} {F : d_S → β} (hat : p_at pc M.2.2.2.2.1 = some (.putfield X, l)) (hp : p_pk X 0 M.2.2.2.2.2.1 = some (12, f)) (hf : f.toNat = 11) (hG : (p_GT[12]?).bind (fun r => r[f.toNat]?) = some (.long, false)) (hH : d_V t h s) (hx : d_RL x) (hF : d_l (d_sl s 1011 x) F = r) (hk : ∀ s h, d_V t h s → F s = r → p_wp p_GT p_MT d M (pc + 3) ls st h Q) : p_wp p_GT p_MT d M pc ls (.long (Int64.ofInt x) :: .ref 64 :: st) h Q := by
  refine dw_put (s' := d_sl s 1011 x) hat hp hf hG rfl hH d_c64_11 ⟨hH.1.1, fun j => ?_⟩ (fun b j hb => ⟨rfl, rfl, fun h72 => ?_⟩) ?_ (fun x h1 h2 => hH.2.2.2 _ _ _ h1 h2) (fun h hV => hk _ h hV hF)
  · unfold d_sl d_u; simp only; split
    · exact hx
    · exact hH.1.2 j
  · unfold d_sl d_u; simp only
    by_cases q : b = 72
    · subst q
      rw [if_neg (show ¬ d_lx 72 j = 1011 from fun z => by have : d_lx 72 j = j := rfl; omega)]
    · have q2 : b = 64 := by omega
      subst q2
      rw [if_neg (show ¬ d_lx 64 j = 1011 from fun z => by have : d_lx 64 j = 1000 + j := rfl; omega)]
  · show 64 = 64 ∧ _ = Value.long (Int64.ofInt ((d_sl s 1011 x).2.2 1011))
    unfold d_sl d_u; simp only; rw [if_pos trivial]
    exact ⟨trivial, rfl⟩
theorem dw_gs {X : Nat} {q : Nat × Int} (hat : p_at pc M.2.2.2.2.1 = some (.getstatic X, l)) (hp : p_pk X 6 M.2.2.2.2.2.1 = some q) (hk : p_wp p_GT p_MT d M (pc + 3) ls (.ref 1 :: st) h Q) : p_wp p_GT p_MT d M pc ls st h Q := p_wp.step hat (by simp only [p_step, hp]; rfl) hk
def d_tw (t : Nat → Option p_C) : Option (List Value) := match t 1 with
  | some (2, 2, vs) => some vs
  | _ => none
def d_twn (t : Nat → Option p_C) : Option Int := d_b (d_tw t) (fun vs => if vs.length ≤ 2147483647 then some (vs.length : Int) else none)
def d_twl (t : Nat → Option p_C) (i : Int) : Option Int := d_b (d_tw t) (fun vs => if 0 ≤ i then (match vs[i.toNat]? with
  | some (.long x) => some x.toInt
  | _ => none) else none)
theorem d_tw_c (hH : d_V t h s) {vs : List Value} (e : d_tw t = some vs) : h[1]? = some (2, 2, vs) := by
  unfold d_tw at e
  rw [hH.2.1 1 (Or.inl (by decide))]
  split at e
  · next ws q2 => cases e; exact q2
  · cases e
theorem dw_twn {F : Int → Option β} (hF : d_b (d_twn t) F = some r) (hat : p_at pc M.2.2.2.2.1 = some (.arraylength, l)) (hH : d_V t h s) (hk : ∀ v, d_R v → F v = some r → p_wp p_GT p_MT d M (pc + 1) ls (.int (Int32.ofInt v) :: st) h Q) : p_wp p_GT p_MT d M pc ls (.ref 1 :: st) h Q := by
  obtain ⟨v, e1, e2⟩ := d_b_s hF
  unfold d_twn at e1
  obtain ⟨vs, e3, e4⟩ := d_b_s e1
  split at e4
  · next q =>
    cases e4
    have hc := d_tw_c hH e3
    refine p_wp.step hat ?_ (hk _ ⟨by omega, by omega⟩ e2)
    have : Int32.ofNat vs.length = Int32.ofInt (vs.length : Int) := rfl
    simp only [p_step, hc, this]
    rfl
  · cases e4
theorem dw_twl {F : Int → Option β} (hF : d_b (d_twl t x) F = some r) (hat : p_at pc M.2.2.2.2.1 = some (.laload, l)) (hH : d_V t h s) (hr : d_R x) (hk : ∀ v, d_RL v → F v = some r → p_wp p_GT p_MT d M (pc + 1) ls (.long (Int64.ofInt v) :: st) h Q) : p_wp p_GT p_MT d M pc ls (.int (Int32.ofInt x) :: .ref 1 :: st) h Q := by
  obtain ⟨v, e1, e2⟩ := d_b_s hF
  unfold d_twl at e1
  obtain ⟨vs, e3, e4⟩ := d_b_s e1
  split at e4
  · next q =>
    split at e4
    · next y q2 =>
      cases e4
      have hc := d_tw_c hH e3
      obtain ⟨i1, i2⟩ := d_ix q hr rfl
      have := hk y.toInt d_RL_t e2
      rw [Int64.ofInt_toInt] at this
      refine p_wp.step hat ?_ this
      simp only [p_step, p_al, hc, p_ix, if_neg i1, i2, q2]
      rfl
    · cases e4
  · cases e4
end DD

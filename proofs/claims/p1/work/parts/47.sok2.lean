/-! Values, facts, bounds -/
def s_v (θ : Nat → Int32) (a : s_V) (v : Value) : Prop := match a with
  | .inl z => s_I z ∧ v = .int (Int32.ofInt z)
  | .inr (0, _) => True
  | .inr (1, e) => v = .int (s_ev θ e)
  | .inr (2, e) => ∃ z, e = .leaf z ∧ v = .long (Int64.ofInt z)
  | .inr (4, _) => v = .null
  | .inr (5, e) => v = .long (s_ev θ e).toInt64
  | .inr (7, _) => ∃ x, v = .int x
  | .inr (k + 16, _) => v = .ref k
  | _ => False
def s_FO (θ : Nat → Int32) (F : s_F) : Prop := ∀ f ∈ F, f.2.1 ≤ (s_ev θ f.1).toInt ∧ (s_ev θ f.1).toInt ≤ f.2.2
section SV
variable {θ : Nat → Int32} {F : s_F}
theorem s_v_1 {a : s_V} {v : Value} (ht : Nat.beq (s_t a) 1 = true) (hv : s_v θ a v) : v = .int (s_ev θ (s_x a)) := by
  cases a with
  | inl z => exact hv.2
  | inr q =>
    obtain ⟨t, e⟩ := q
    have ht : t = 1 := Nat.eq_of_beq_eq_true ht
    subst ht; exact hv
theorem s_v_i {a : s_V} {v : Value} (ht : s_isi (s_t a) = true) (hv : s_v θ a v) : ∃ x, v = .int x := by
  cases a with
  | inl z => exact ⟨_, hv.2⟩
  | inr q =>
    obtain ⟨t, e⟩ := q
    rcases s_if_iff.mp ht with ⟨h, -⟩ | ⟨-, h⟩
    · have ht : t = 1 := Nat.eq_of_beq_eq_true h
      subst ht; exact ⟨_, hv⟩
    · have ht : t = 7 := Nat.eq_of_beq_eq_true h
      subst ht; exact hv
theorem s_v_l {a : s_V} {v : Value} (ht : s_long (s_t a) = true) (hv : s_v θ a v) : ∃ x, v = .long x := by
  cases a with
  | inl z => cases ht
  | inr q =>
    obtain ⟨t, e⟩ := q
    rcases s_if_iff.mp ht with ⟨h, -⟩ | ⟨-, h⟩
    · have ht : t = 2 := Nat.eq_of_beq_eq_true h
      subst ht; obtain ⟨z, -, h⟩ := hv; exact ⟨_, h⟩
    · have ht : t = 5 := Nat.eq_of_beq_eq_true h
      subst ht; exact ⟨_, hv⟩
theorem s_v_ref {t : Nat} {e : s_E} {v : Value} (ht : Nat.ble 16 t = true) (hv : s_v θ (.inr (t, e)) v) : v = .ref (t - 16) := by
  have h := Nat.le_of_ble_eq_true ht
  obtain ⟨k, rfl⟩ : ∃ k, t = k + 16 := ⟨t - 16, by omega⟩
  exact hv
theorem s_v_ref' {a : s_V} {v : Value} (ht : Nat.ble 16 (s_t a) = true) (hv : s_v θ a v) : v = .ref (s_t a - 16) := by
  cases a with
  | inl z => cases ht
  | inr q => exact s_v_ref ht hv
theorem s_v_null {a : s_V} {v : Value} (ht : Nat.beq (s_t a) 4 = true) (hv : s_v θ a v) : v = .null := by
  cases a with
  | inl z => cases ht
  | inr q =>
    obtain ⟨t, e⟩ := q
    have ht : t = 4 := Nat.eq_of_beq_eq_true ht
    subst ht; exact hv
theorem s_v_r {a : s_V} {v : Value} (ht : s_isr (s_t a) = true) (hv : s_v θ a v) : v = .null ∨ ∃ x, v = .ref x := by
  rcases s_if_iff.mp ht with ⟨h, -⟩ | ⟨-, h⟩
  · exact Or.inr ⟨_, s_v_ref' h hv⟩
  · exact Or.inl (s_v_null h hv)
theorem s_v_one {a : s_V} {v : Value} (ht : s_one (s_t a) = true) (hv : s_v θ a v) : v.category = 1 := by
  rcases s_if_iff.mp ht with ⟨h, -⟩ | ⟨-, h⟩
  · obtain ⟨x, rfl⟩ := s_v_i h hv; rfl
  · rcases s_v_r h hv with rfl | ⟨x, rfl⟩ <;> rfl
theorem s_v_two {a : s_V} {v : Value} (ht : s_long (s_t a) = true) (hv : s_v θ a v) : v.category = 2 := by
  obtain ⟨x, rfl⟩ := s_v_l ht hv; rfl
theorem s_eqE_ok {a b : s_E} (h : s_eqE a b = true) : a = b := by
  induction a generalizing b with
  | leaf x => cases b with
    | leaf y => rw [s_eqz_iff.mp h]
    | branch q l r => cases h
  | branch p l r il ir => cases b with
    | leaf y => cases h
    | branch q l' r' =>
      have h : s_and (Nat.beq p q) (s_and (s_eqE l l') (s_eqE r r')) = true := h
      rw [s_and_iff, s_and_iff] at h
      rw [Nat.eq_of_beq_eq_true h.1, il h.2.1, ir h.2.2]
theorem s_fnd_ok {e : s_E} {b : Int × Int} (hF : s_FO θ F) (h : s_fnd e F = some b) : b.1 ≤ (s_ev θ e).toInt ∧ (s_ev θ e).toInt ≤ b.2 := by
  unfold s_fnd at h
  cases hf : F.find? (fun f => s_eqE f.1 e) with
  | none => rw [hf] at h; cases h
  | some f =>
    rw [hf] at h
    have hm := List.mem_of_find?_eq_some hf
    have he : f.1 = e := s_eqE_ok (List.find?_some (p := fun (f : s_E × Int × Int) => s_eqE f.1 e) hf)
    have := hF f hm
    rw [he] at this
    cases h
    exact this
theorem s_full (x : Int32) : ((s_lo, s_hi) : Int × Int).1 ≤ x.toInt ∧ x.toInt ≤ ((s_lo, s_hi) : Int × Int).2 := x_I32 x
theorem s_fit_ok {x : Int32} {z : Int} {b : Int × Int} (h1 : b.1 ≤ z) (h2 : z ≤ b.2) (hx : x.toInt = z.bmod (2 ^ 32)) : (s_fit32 b).1 ≤ x.toInt ∧ x.toInt ≤ (s_fit32 b).2 := by
  unfold s_fit32
  split
  · next h =>
    have h3 : -2147483648 ≤ b.1 := h.1
    have h4 : b.2 ≤ 2147483647 := h.2
    rw [hx, x_bm (by omega) (by omega)]
    exact ⟨h1, h2⟩
  · exact s_full x
theorem s_cI {c : Int} (h0 : 0 ≤ c) (h1 : c ≤ s_hi) : s_I c := ⟨by omega, h1⟩
theorem s_ivb_ok {op : Nat} {l r : s_E} {il ir : Int × Int} (hl : il.1 ≤ (s_ev θ l).toInt ∧ (s_ev θ l).toInt ≤ il.2) (hr : ir.1 ≤ (s_ev θ r).toInt ∧ (s_ev θ r).toInt ≤ ir.2) : (s_ivb op r il ir).1 ≤ (s_ev θ (.branch op l r)).toInt ∧ (s_ev θ (.branch op l r)).toInt ≤ (s_ivb op r il ir).2 := by
  unfold s_ivb
  split
  · exact s_fit_ok (z := (s_ev θ l).toInt + (s_ev θ r).toInt) (by simp only; omega) (by simp only; omega) (Int32.toInt_add _ _)
  · exact s_fit_ok (z := (s_ev θ l).toInt - (s_ev θ r).toInt) (by simp only; omega) (by simp only; omega) (Int32.toInt_sub _ _)
  · next c =>
    split
    · next hc =>
      have hcI := s_I_eq (s_cI hc.1 hc.2)
      refine s_fit_ok (z := (s_ev θ l).toInt * c) (Int.mul_le_mul_of_nonneg_right hl.1 hc.1) (Int.mul_le_mul_of_nonneg_right hl.2 hc.1) ?_
      have := Int32.toInt_mul (s_ev θ l) (Int32.ofInt c)
      rw [hcI] at this
      exact this
    · exact s_full _
  · next c =>
    split
    · next hc =>
      have hcI : (Int32.ofInt c).toInt = c := s_I_eq (s_cI (by omega) hc.2.1)
      have hx := x_I32 (s_ev θ l)
      have h0 : 0 ≤ (s_ev θ l).toInt := by omega
      have hd : (s_ev θ (.branch 10 l (.leaf c))).toInt = (s_ev θ l).toInt / c := by
        show (s_ev θ l / Int32.ofInt c).toInt = _
        rw [Int32.toInt_div, hcI, Int.tdiv_eq_ediv_of_nonneg h0]
        have h5 : 0 ≤ (s_ev θ l).toInt / c := Int.ediv_nonneg h0 (by omega)
        have h6 : (s_ev θ l).toInt / c ≤ (s_ev θ l).toInt := Int.ediv_le_self _ h0
        exact x_bm (by omega) (by omega)
      rw [hd]
      exact ⟨Int.ediv_le_ediv (by omega) hl.1, Int.ediv_le_ediv (by omega) hl.2⟩
    · exact s_full _
  · next c =>
    split
    · next hc =>
      have hcI : (Int32.ofInt c).toInt = c := s_I_eq (s_cI (by omega) hc.2)
      have hd : (s_ev θ (.branch 11 l (.leaf c))).toInt = (s_ev θ l).toInt.tmod c := by
        show (s_ev θ l - s_ev θ l / Int32.ofInt c * Int32.ofInt c).toInt = _
        rw [x_rem, hcI]
      have h1 : (s_ev θ l).toInt.tmod c < c := Int.tmod_lt_of_pos _ hc.1
      have h2 : -c < (s_ev θ l).toInt.tmod c := by
        have := Int.lt_tmod_of_pos (s_ev θ l).toInt hc.1
        omega
      rw [hd]
      split
      · next h0 =>
        have h3 : 0 ≤ (s_ev θ l).toInt.tmod c := Int.tmod_nonneg _ (by omega)
        simp only
        omega
      · simp only
        omega
    · exact s_full _
  · exact s_full _
theorem s_iv_ok {e : s_E} (hF : s_FO θ F) : (s_iv F e).1 ≤ (s_ev θ e).toInt ∧ (s_ev θ e).toInt ≤ (s_iv F e).2 := by
  induction e with
  | leaf z =>
    show (if s_lo ≤ z ∧ z ≤ s_hi then (z, z) else (s_lo, s_hi)).1 ≤ _ ∧ _ ≤ (if s_lo ≤ z ∧ z ≤ s_hi then (z, z) else (s_lo, s_hi)).2
    split
    · next h => rw [show (s_ev θ (.leaf z)).toInt = z from s_I_eq h]; exact ⟨Int.le_refl z, Int.le_refl z⟩
    · exact s_full _
  | branch op l r il ir =>
    have e : s_iv F (.branch op l r) = (match s_fnd (.branch op l r) F with
      | some b => b
      | none => s_ivb op r (s_iv F l) (s_iv F r)) := rfl
    rw [e]
    split
    · next b hb => exact s_fnd_ok hF hb
    · exact s_ivb_ok il ir
theorem s_all_ok {K : Int → Bool} : ∀ {n : Nat} {lo z : Int}, s_all lo K n = true → lo ≤ z → z < lo + n → K z = true := by
  intro n
  induction n with
  | zero => intro lo z _ h1 h2; omega
  | succ n ih =>
    intro lo z h h1 h2
    have h : s_and (s_fz lo K) (s_all (lo + 1) K n) = true := h
    rw [s_and_iff, s_fz_eq] at h
    by_cases e : z = lo
    · rw [e]; exact h.1
    · exact ih h.2 (by omega) (by omega)
/-- few values: one after the other -/
theorem s_cz'_ok {e : s_E} {K : s_V → s_F → Bool} (hF : s_FO θ F) (h : s_cz' e F K = true) : ∃ v F', K v F' = true ∧ s_FO θ F' ∧ s_v θ v (.int (s_ev θ e)) ∧ Nat.beq (s_t v) 1 = true := by
  unfold s_cz' at h
  have hb := s_iv_ok (e := e) hF
  split at h
  next lo hi hiv =>
  rw [hiv] at hb
  have hx := x_I32 (s_ev θ e)
  split at h
  · next he =>
    rw [s_fz_eq] at h
    have e1 : (s_ev θ e).toInt = lo := by simp only at hb; omega
    refine ⟨_, _, h, hF, ⟨⟨by omega, by omega⟩, ?_⟩, rfl⟩
    rw [← e1, Int32.ofInt_toInt]
  · split at h
    · next hs =>
      have h := s_all_ok (z := (s_ev θ e).toInt) h hb.1 (by simp only at hb; omega)
      refine ⟨_, _, h, fun f hf => ?_, ⟨hx, ?_⟩, rfl⟩
      · rcases List.mem_cons.mp hf with rfl | hf
        · exact ⟨Int.le_refl _, Int.le_refl _⟩
        · exact hF f hf
      · rw [Int32.ofInt_toInt]
    · exact ⟨_, _, h, hF, rfl, rfl⟩
theorem s_cz_ok {a : s_V} {v : Value} {K : s_V → s_F → Bool} (hF : s_FO θ F) (hv : s_v θ a v) (h : s_cz a F K = true) : ∃ b F', K b F' = true ∧ s_FO θ F' ∧ s_v θ b v ∧ Nat.beq (s_t b) 1 = true := by
  cases a with
  | inl z => exact ⟨_, _, h, hF, hv, rfl⟩
  | inr q =>
    have h : s_and (Nat.beq q.1 1) (s_cz' q.2 F K) = true := h
    rw [s_and_iff] at h
    have e := s_v_1 (a := .inr q) h.1 hv
    subst e
    exact s_cz'_ok hF h.2
theorem s_is_ok {z : Int} {e : s_E} (h : s_is z e = true) : e = .leaf z := by
  unfold s_is at h
  split at h
  · rw [of_decide_eq_true h]
  · cases h
theorem s_mk_ok {op : Nat} (h0 : op ≠ 0) {a b : s_E} : s_ev θ (s_mk op a b) = s_ov op (s_ev θ a) (s_ev θ b) := by
  have hz : ∀ x : Int32, x + Int32.ofInt 0 = x := fun x => Int32.add_zero x
  have hz2 : ∀ x : Int32, Int32.ofInt 0 + x = x := fun x => Int32.zero_add x
  have hz3 : ∀ x : Int32, x - Int32.ofInt 0 = x := fun x => Int32.sub_zero x
  have hz4 : ∀ x : Int32, x ||| Int32.ofInt 0 = x := fun x => Int32.or_zero
  have hz5 : ∀ x : Int32, Int32.ofInt 0 ||| x = x := fun x => Int32.zero_or
  unfold s_mk
  split
  · split
    · next h => rw [s_is_ok h]; exact (hz _).symm
    · split
      · next h => rw [s_is_ok h]; exact (hz2 _).symm
      · rfl
  · split
    · next h => rw [s_is_ok h]; exact (hz3 _).symm
    · rfl
  · split
    · next h => rw [s_is_ok h]; exact (hz4 _).symm
    · split
      · next h => rw [s_is_ok h]; exact (hz5 _).symm
      · rfl
  · cases op with
    | zero => exact absurd rfl h0
    | succ n => rfl
theorem s_forceE_eq {e : s_E} {K : s_E → Bool} : s_forceE e K = K e := by cases e <;> rfl
/-- an operation on two ints -/
theorem s_op_ok {op : Nat} {f : Int → Int → Int} (hop : op ≠ 0) (hf : s_cok op f) {a b : s_V} {x y : Int32} {K : s_V → s_F → Bool} (hF : s_FO θ F) (ha : s_v θ a (.int x)) (hb : s_v θ b (.int y)) (hn : op = 10 ∨ op = 11 → y ≠ 0) (h : s_op op f a b F K = true) : ∃ v F', K v F' = true ∧ s_FO θ F' ∧ s_v θ v (.int (s_ov op x y)) ∧ Nat.beq (s_t v) 1 = true := by
  have hcc : ∀ {x' y' : Int} {F' : s_F}, s_FO θ F' → s_v θ (.inl x') (.int x) → s_v θ (.inl y') (.int y) → s_w (f x' y') (s_kc K F') = true → ∃ v F', K v F' = true ∧ s_FO θ F' ∧ s_v θ v (.int (s_ov op x y)) ∧ Nat.beq (s_t v) 1 = true := by
    intro x' y' F' hF' hx hy hw
    obtain ⟨z', g1, g2, g3⟩ := s_w_eq (f x' y') (s_kc K F')
    rw [g3] at hw
    refine ⟨.inl z', F', hw, hF', ⟨g1, ?_⟩, rfl⟩
    obtain ⟨i1, e1⟩ := hx
    obtain ⟨i2, e2⟩ := hy
    cases e1; cases e2
    rw [g2, hf x' y' i1 i2 (fun q => ?_)]
    intro e
    subst e
    exact hn q rfl
  have hsy : s_sy op f a b F K = true → ∃ v F', K v F' = true ∧ s_FO θ F' ∧ s_v θ v (.int (s_ov op x y)) ∧ Nat.beq (s_t v) 1 = true := by
    intro h
    obtain ⟨a', F1, h1, hF1, ha1, ta⟩ := s_cz_ok hF ha h
    obtain ⟨b', F2, h2, hF2, hb1, tb⟩ := s_cz_ok hF1 hb h1
    unfold s_sy2 at h2
    split at h2
    · exact hcc hF2 ha1 hb1 h2
    · rw [s_forceE_eq] at h2
      refine ⟨_, _, h2, hF2, ?_, rfl⟩
      show Value.int _ = Value.int _
      have e1 := s_v_1 ta ha1
      have e2 := s_v_1 tb hb1
      cases e1; cases e2
      rw [s_mk_ok hop]
  cases a with
  | inl x' => cases b with
    | inl y' => exact hcc hF ha hb h
    | inr q => exact hsy h
  | inr p => exact hsy h
theorem s_ix_ok {a : s_V} {v : Value} {K : Nat → s_F → Bool} (hF : s_FO θ F) (hv : s_v θ a v) (h : s_ix a F K = true) : ∃ (j : Nat) (F' : s_F), K j F' = true ∧ s_FO θ F' ∧ v = .int (Int32.ofNat j) ∧ j ≤ 2147483647 := by
  obtain ⟨b, F', h1, hF', hb, -⟩ := s_cz_ok hF hv h
  cases b with
  | inl z => cases z with
    | ofNat j =>
      refine ⟨j, F', h1, hF', by rw [hb.2, s_on], ?_⟩
      have := hb.1.2
      simp only [Int.ofNat_eq_natCast] at this
      omega
    | negSucc j => cases h1
  | inr q => cases h1
/-- a fork: the part in which the number lies -/
theorem s_fork_ok {e : s_E} {K : Bool → s_F → Bool} {o : List (Bool × Int × Int)} (hF : s_FO θ F) (h : s_fork e F o K = true) {q : Bool × Int × Int} (hq : q ∈ o) (h1 : q.2.1 ≤ (s_ev θ e).toInt) (h2 : (s_ev θ e).toInt ≤ q.2.2) : ∃ F', K q.1 F' = true ∧ s_FO θ F' := by
  induction o with
  | nil => cases hq
  | cons p o ih =>
    have h : s_and (if p.2.1 ≤ p.2.2 then s_fz p.2.1 (fun lo => s_fz p.2.2 (fun hi => K p.1 ((e, lo, hi) :: F))) else true) (s_fork e F o K) = true := h
    rw [s_and_iff] at h
    rcases List.mem_cons.mp hq with rfl | hq
    · have h3 := h.1
      rw [if_pos (by omega), s_fz_eq, s_fz_eq] at h3
      refine ⟨_, h3, fun f hf => ?_⟩
      rcases List.mem_cons.mp hf with rfl | hf
      · exact ⟨h1, h2⟩
      · exact hF f hf
    · exact ih h.2 hq
theorem s_pcs_ok {c : ClassFile.Cond} {x y : Int32} {lo hi : Int} (h1 : lo ≤ x.toInt) (h2 : x.toInt ≤ hi) : ∃ q ∈ s_pcs c y.toInt lo hi, q.1 = p_cd c x y ∧ q.2.1 ≤ x.toInt ∧ x.toInt ≤ q.2.2 := by
  rw [← s_cf_ok]
  have hE := @s_eqz_iff x.toInt y.toInt
  have hL := @s_ltz_iff x.toInt y.toInt
  have hG := @s_ltz_iff y.toInt x.toInt
  have key : ∀ {b : Bool} {p : Prop}, (b = true ↔ p) → (p → b = true) ∧ (¬ p → b = false) := fun {b p} hb => ⟨hb.mpr, fun np => by cases b with | false => rfl | true => exact absurd (hb.mp rfl) np⟩
  cases c with
  | eq =>
    rcases Int.lt_trichotomy x.toInt y.toInt with g | g | g
    · exact ⟨(false, lo, min hi (y.toInt - 1)), by simp [s_pcs], ((key hE).2 (by omega)).symm, h1, by simp only; omega⟩
    · exact ⟨(true, max lo y.toInt, min hi y.toInt), by simp [s_pcs], ((key hE).1 g).symm, by simp only; omega, by simp only; omega⟩
    · exact ⟨(false, max lo (y.toInt + 1), hi), by simp [s_pcs], ((key hE).2 (by omega)).symm, by simp only; omega, h2⟩
  | ne =>
    rcases Int.lt_trichotomy x.toInt y.toInt with g | g | g
    · exact ⟨(true, lo, min hi (y.toInt - 1)), by simp [s_pcs], by show _ = s_if _ _ _; rw [(key hE).2 (by omega)]; rfl, h1, by simp only; omega⟩
    · exact ⟨(false, max lo y.toInt, min hi y.toInt), by simp [s_pcs], by show _ = s_if _ _ _; rw [(key hE).1 g]; rfl, by simp only; omega, by simp only; omega⟩
    · exact ⟨(true, max lo (y.toInt + 1), hi), by simp [s_pcs], by show _ = s_if _ _ _; rw [(key hE).2 (by omega)]; rfl, by simp only; omega, h2⟩
  | lt =>
    by_cases g : x.toInt < y.toInt
    · exact ⟨(true, lo, min hi (y.toInt - 1)), by simp [s_pcs], ((key hL).1 g).symm, h1, by simp only; omega⟩
    · exact ⟨(false, max lo y.toInt, hi), by simp [s_pcs], ((key hL).2 g).symm, by simp only; omega, h2⟩
  | ge =>
    by_cases g : x.toInt < y.toInt
    · exact ⟨(false, lo, min hi (y.toInt - 1)), by simp [s_pcs], by show _ = s_if _ _ _; rw [(key hL).1 g]; rfl, h1, by simp only; omega⟩
    · exact ⟨(true, max lo y.toInt, hi), by simp [s_pcs], by show _ = s_if _ _ _; rw [(key hL).2 g]; rfl, by simp only; omega, h2⟩
  | gt =>
    by_cases g : y.toInt < x.toInt
    · exact ⟨(true, max lo (y.toInt + 1), hi), by simp [s_pcs], ((key hG).1 g).symm, by simp only; omega, h2⟩
    · exact ⟨(false, lo, min hi y.toInt), by simp [s_pcs], ((key hG).2 g).symm, h1, by simp only; omega⟩
  | le =>
    by_cases g : y.toInt < x.toInt
    · exact ⟨(false, max lo (y.toInt + 1), hi), by simp [s_pcs], by show _ = s_if _ _ _; rw [(key hG).1 g]; rfl, by simp only; omega, h2⟩
    · exact ⟨(true, lo, min hi y.toInt), by simp [s_pcs], by show _ = s_if _ _ _; rw [(key hG).2 g]; rfl, h1, by simp only; omega⟩
theorem s_flip_ok {c : ClassFile.Cond} {x y : Int32} : p_cd (s_flip c) y x = p_cd c x y := by
  cases c with
  | eq => simp only [s_flip, p_cd, eq_comm]
  | ne => simp only [s_flip, p_cd]; rw [decide_eq_decide]; exact ⟨fun h e => h e.symm, fun h e => h e.symm⟩
  | lt => rfl
  | ge => rfl
  | gt => rfl
  | le => rfl
theorem s_lt2_ok {g k : Bool} {x y : s_E} {a b e f : Int} {K : Bool → s_F → Bool} (hF : s_FO θ F) (h1 : a ≤ (s_ev θ x).toInt ∧ (s_ev θ x).toInt ≤ b) (h2 : e ≤ (s_ev θ y).toInt ∧ (s_ev θ y).toInt ≤ f) (h : s_lt2 g k x y a b e f F K = true) : ∃ F', K (if (s_ev θ x).toInt < (s_ev θ y).toInt then g else k) F' = true ∧ s_FO θ F' := by
  unfold s_lt2 at h
  rw [s_and_iff] at h
  split
  · obtain ⟨F1, k1, k2⟩ := s_fork_ok hF h.1 (q := (g, a, min b (f - 1))) (by simp) h1.1 (by show (s_ev θ x).toInt ≤ min b (f - 1); omega)
    exact s_fork_ok k2 k1 (q := (g, max e (a + 1), f)) (by simp) (by show max e (a + 1) ≤ (s_ev θ y).toInt; omega) h2.2
  · obtain ⟨F1, k1, k2⟩ := s_fork_ok hF h.2 (q := (k, max a e, b)) (by simp) (by show max a e ≤ (s_ev θ x).toInt; omega) h1.2
    exact s_fork_ok k2 k1 (q := (k, e, min f b)) (by simp) h2.1 (by show (s_ev θ y).toInt ≤ min f b; omega)
theorem s_two_ok {c : ClassFile.Cond} {x y : s_E} {K : Bool → s_F → Bool} (hF : s_FO θ F) (h : s_two c x y F K = true) : ∃ F', K (p_cd c (s_ev θ x) (s_ev θ y)) F' = true ∧ s_FO θ F' := by
  have hx := s_iv_ok (e := x) hF
  have hy := s_iv_ok (e := y) hF
  have both : s_and (K true F) (K false F) = true → ∃ F', K (p_cd c (s_ev θ x) (s_ev θ y)) F' = true ∧ s_FO θ F' := by
    intro h
    rw [s_and_iff] at h
    cases hc : p_cd c (s_ev θ x) (s_ev θ y) with
    | true => exact ⟨F, h.1, hF⟩
    | false => exact ⟨F, h.2, hF⟩
  have hl : ∀ {u w : Int32}, u < w ↔ u.toInt < w.toInt := Int32.lt_iff_toInt_lt
  have hle : ∀ {u w : Int32}, u ≤ w ↔ ¬ w.toInt < u.toInt := fun {u w} => by rw [Int32.le_iff_toInt_le]; omega
  cases c with
  | eq => exact both h
  | ne => exact both h
  | lt =>
    have h3 := s_lt2_ok hF hx hy h
    by_cases hq : (s_ev θ x).toInt < (s_ev θ y).toInt
    · rw [if_pos hq] at h3
      have e : p_cd .lt (s_ev θ x) (s_ev θ y) = true := by exact decide_eq_true (hl.mpr hq)
      rw [e]; exact h3
    · rw [if_neg hq] at h3
      have e : p_cd .lt (s_ev θ x) (s_ev θ y) = false := by exact decide_eq_false (fun k => hq (hl.mp k))
      rw [e]; exact h3
  | ge =>
    have h3 := s_lt2_ok hF hx hy h
    by_cases hq : (s_ev θ x).toInt < (s_ev θ y).toInt
    · rw [if_pos hq] at h3
      have e : p_cd .ge (s_ev θ x) (s_ev θ y) = false := by exact decide_eq_false (fun k => (hle.mp k) hq)
      rw [e]; exact h3
    · rw [if_neg hq] at h3
      have e : p_cd .ge (s_ev θ x) (s_ev θ y) = true := by exact decide_eq_true (hle.mpr hq)
      rw [e]; exact h3
  | gt =>
    have h3 := s_lt2_ok hF hy hx h
    by_cases hq : (s_ev θ y).toInt < (s_ev θ x).toInt
    · rw [if_pos hq] at h3
      have e : p_cd .gt (s_ev θ x) (s_ev θ y) = true := by exact decide_eq_true (hl.mpr hq)
      rw [e]; exact h3
    · rw [if_neg hq] at h3
      have e : p_cd .gt (s_ev θ x) (s_ev θ y) = false := by exact decide_eq_false (fun k => hq (hl.mp k))
      rw [e]; exact h3
  | le =>
    have h3 := s_lt2_ok hF hy hx h
    by_cases hq : (s_ev θ y).toInt < (s_ev θ x).toInt
    · rw [if_pos hq] at h3
      have e : p_cd .le (s_ev θ x) (s_ev θ y) = false := by exact decide_eq_false (fun k => (hle.mp k) hq)
      rw [e]; exact h3
    · rw [if_neg hq] at h3
      have e : p_cd .le (s_ev θ x) (s_ev θ y) = true := by exact decide_eq_true (hle.mpr hq)
      rw [e]; exact h3
/-- a comparison of two ints -/
theorem s_cmp_ok {c : ClassFile.Cond} {a b : s_V} {x y : Int32} {K : Bool → s_F → Bool} (hF : s_FO θ F) (ha : s_v θ a (.int x)) (hb : s_v θ b (.int y)) (h : s_cmp c a b F K = true) : ∃ F', K (p_cd c x y) F' = true ∧ s_FO θ F' := by
  have hcc : ∀ {x' y' : Int}, s_v θ (.inl x') (.int x) → s_v θ (.inl y') (.int y) → K (s_cf c x' y') F = true → ∃ F', K (p_cd c x y) F' = true ∧ s_FO θ F' := by
    intro x' y' hx hy hk
    obtain ⟨i1, e1⟩ := hx
    obtain ⟨i2, e2⟩ := hy
    cases e1; cases e2
    refine ⟨F, ?_, hF⟩
    rw [← s_cf_ok, s_I_eq i1, s_I_eq i2]
    exact hk
  have hsl : s_bsl c a b F K = true → ∃ F', K (p_cd c x y) F' = true ∧ s_FO θ F' := by
    intro h
    cases a with
    | inl x' => cases b with
      | inl y' => exact hcc ha hb h
      | inr q =>
        have h : s_and (Nat.beq q.1 1) (s_fork q.2 F (s_pcs (s_flip c) x' (s_iv F q.2).1 (s_iv F q.2).2) K) = true := h
        rw [s_and_iff] at h
        have e1 := s_v_1 (a := .inr q) h.1 hb
        obtain ⟨i2, e2⟩ := ha
        cases e1; cases e2
        have hiv := s_iv_ok (e := q.2) hF
        obtain ⟨p, hp, p1, p2, p3⟩ := s_pcs_ok (c := s_flip c) (y := Int32.ofInt x') hiv.1 hiv.2
        rw [s_I_eq i2] at hp
        rw [← s_flip_ok]
        show ∃ F', K (p_cd (s_flip c) (s_ev θ q.2) (Int32.ofInt x')) F' = true ∧ s_FO θ F'
        rw [← p1]
        exact s_fork_ok hF h.2 hp p2 p3
    | inr q => cases b with
      | inl y' =>
        have h : s_and (Nat.beq q.1 1) (s_fork q.2 F (s_pcs c y' (s_iv F q.2).1 (s_iv F q.2).2) K) = true := h
        rw [s_and_iff] at h
        have e1 := s_v_1 (a := .inr q) h.1 ha
        obtain ⟨i2, e2⟩ := hb
        cases e1; cases e2
        have hiv := s_iv_ok (e := q.2) hF
        obtain ⟨p, hp, p1, p2, p3⟩ := s_pcs_ok (c := c) (y := Int32.ofInt y') hiv.1 hiv.2
        rw [s_I_eq i2] at hp
        show ∃ F', K (p_cd c (s_ev θ q.2) (Int32.ofInt y')) F' = true ∧ s_FO θ F'
        rw [← p1]
        exact s_fork_ok hF h.2 hp p2 p3
      | inr p =>
        have h : s_and (Nat.beq q.1 1) (s_and (Nat.beq p.1 1) (s_if (s_eqE q.2 p.2) (K (s_cf c 0 0) F) (s_two c q.2 p.2 F K))) = true := h
        rw [s_and_iff, s_and_iff, s_if_iff] at h
        have e1 := s_v_1 (a := .inr q) h.1 ha
        have e2 := s_v_1 (a := .inr p) h.2.1 hb
        cases e1; cases e2
        rcases h.2.2 with ⟨h4, h5⟩ | ⟨-, h5⟩
        · refine ⟨F, ?_, hF⟩
          have e3 := s_eqE_ok h4
          have : p_cd c (s_ev θ q.2) (s_ev θ p.2) = s_cf c 0 0 := by
            rw [e3]
            have hlt : ¬ (s_ev θ p.2) < (s_ev θ p.2) := fun q => Int32.lt_irrefl q
            have hle : (s_ev θ p.2) ≤ (s_ev θ p.2) := Int32.le_refl _
            cases c with
            | eq => exact decide_eq_true rfl
            | ne => exact decide_eq_false (fun q => q rfl)
            | lt => exact decide_eq_false hlt
            | ge => exact decide_eq_true hle
            | gt => exact decide_eq_false hlt
            | le => exact decide_eq_true hle
          show K (p_cd c (s_ev θ q.2) (s_ev θ p.2)) F = true
          rw [this]
          exact h5
        · exact s_two_ok hF h5
  cases a with
  | inl x' => cases b with
    | inl y' => exact hcc ha hb h
    | inr q => exact hsl h
  | inr p => exact hsl h
theorem s_bool_ok {a : s_V} {v : Value} (hF : s_FO θ F) (hv : s_v θ a v) (h : s_bool F a = true) : ∃ x : Int32, v = .int x ∧ (x = 0 ∨ x = 1) := by
  unfold s_bool at h
  split at h
  · next z =>
    obtain ⟨-, rfl⟩ := hv
    refine ⟨_, rfl, ?_⟩
    rcases of_decide_eq_true h with rfl | rfl
    · exact Or.inl rfl
    · exact Or.inr rfl
  · next q =>
    rw [Bool.and_eq_true] at h
    have e := s_v_1 (a := .inr q) h.1 hv
    subst e
    have hiv := s_iv_ok (e := q.2) hF
    have h2 := h.2
    split at h2
    next lo hi he =>
    rw [he] at hiv
    have h3 := of_decide_eq_true h2
    simp only at hiv
    refine ⟨_, rfl, ?_⟩
    have : (s_ev θ q.2).toInt = 0 ∨ (s_ev θ q.2).toInt = 1 := by omega
    rcases this with g | g
    · exact Or.inl (Int32.toInt_inj.mp g)
    · exact Or.inr (Int32.toInt_inj.mp g)
end SV

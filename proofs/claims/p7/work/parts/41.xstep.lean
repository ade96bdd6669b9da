/-! The checker's step is sound, instruction by instruction -/
section XST
variable {E : x_E} {f : x_F} {G : p_G} {MT : List p_M} {M : p_M} {τ τ0 : Nat → Option Nat} {h h0 : p_H} {r : Nat → Int} {n pc : Nat} {F : q_F} {L S : List x_V} {Me : x_M} {u w : q_E} {ls : p_Ls} {st : List Value} {i : Instr}
theorem x_kI (hJ : x_J E f τ0 h0 τ h) (hO : x_O E τ r h0 h ls st (n, F, L, S, Me, u, w)) {out : Option p_O} {pc' : Nat} {v : Int32} (ho : out = some (.inl (pc', ls, .int v :: st, h))) {outs : List (Nat × x_S)} (hs : x_out pc' n F L ((1, 0, q_c v.toInt) :: S) Me u w = some outs) : x_Res E f τ0 h0 τ r n out outs :=
  x_stk hJ hO (S' := (1, 0, q_c v.toInt) :: S) (st' := .int v :: st) ⟨⟨q_c_wl, v, rfl, (q_c_e r v.toInt).symm⟩, hO.2.2.2.1⟩ ho hs
theorem x_kL (hJ : x_J E f τ0 h0 τ h) (hO : x_O E τ r h0 h ls st (n, F, L, S, Me, u, w)) {out : Option p_O} {pc' : Nat} {v : Int64} (ho : out = some (.inl (pc', ls, .long v :: st, h))) {outs : List (Nat × x_S)} (hs : x_out pc' n F L ((2, 0, q_c v.toInt) :: S) Me u w = some outs) : x_Res E f τ0 h0 τ r n out outs :=
  x_stk hJ hO (S' := (2, 0, q_c v.toInt) :: S) (st' := .long v :: st) ⟨⟨q_c_wl, v, rfl, (q_c_e r v.toInt).symm⟩, hO.2.2.2.1⟩ ho hs
theorem x_cst_ok (hJ : x_J E f τ0 h0 τ h) (hO : x_O E τ r h0 h ls st (n, F, L, S, Me, u, w)) {P : List p_P} {x t pc' : Nat} {outs : List (Nat × x_S)} (hs : x_cst P x t pc' n F L S Me u w = some outs) : x_Res E f τ0 h0 τ r n (p_cst P x t pc' ls st h) outs := by
  simp only [x_cst] at hs
  simp only [p_cst]
  split at hs
  · next b hp =>
    simp only [hp]
    split at hs
    · next g =>
      rw [if_pos g]
      exact x_kL hJ hO rfl hs
    · next g =>
      rw [if_neg g]
      exact x_kI hJ hO rfl hs
  · cases hs
theorem x_putv (hJ : x_J E f τ0 h0 τ h) (hO : x_O E τ r h0 h ls st (n, F, L, S, Me, u, w)) {nL k pc' : Nat} {a : x_V} {v : Value} {S' : List x_V} {st' : List Value} {n' : Nat} {F' : q_F} {r' : Nat → Int} (hr : ∀ i, i < n → r' i = r i) (hn : n ≤ n') (wF : q_wF n' F') (hF : q_FO r' F') (hv : x_v τ r' n' a v) (ha : a.1 ≠ 6) (hS : x_vs τ r' n' S' st') {outs : List (Nat × x_S)} (hs : x_put nL k a pc' n' F' L S' Me u w = some outs) : x_Res E f τ0 h0 τ r n (p_sv nL k v pc' ls st' h) outs := by
  have hL := (show x_Ls τ r n L ls from hO.2.2.1).moved hr hn
  simp only [x_put] at hs
  split at hs
  · next g =>
    have e := Nat.eq_of_beq_eq_true g
    obtain ⟨hw, hv2⟩ := id hv
    simp only [e] at hv2
    obtain ⟨x, rfl, -⟩ := hv2
    split at hs
    · next gl =>
      cases hs
      have gl : k + 1 < nL := Nat.le_of_ble_eq_true gl
      exact x_go hJ hO (by simp only [p_sv]; rw [if_pos gl]; rfl) hr hn wF hF (x_s2_Ls hL hv) hS List.mem_cons_self
    · cases hs
  · split at hs
    · next g =>
      cases hs
      rw [Bool.and_eq_true] at g
      have gl : k < nL := Nat.le_of_ble_eq_true g.2
      have hg := g.1
      simp only [x_cat1, Bool.or_eq_true] at hg
      obtain ⟨hw, hv2⟩ := id hv
      rcases hg with (g | g) | g
      · simp only [Nat.eq_of_beq_eq_true g] at hv2
        obtain ⟨x, rfl, -⟩ := hv2
        exact x_go hJ hO (by simp only [p_sv]; rw [if_pos gl]; rfl) hr hn wF hF (x_s1_Ls hL hv) hS List.mem_cons_self
      · simp only [Nat.eq_of_beq_eq_true g] at hv2
        obtain ⟨x, rfl, -⟩ := hv2
        exact x_go hJ hO (by simp only [p_sv]; rw [if_pos gl]; rfl) hr hn wF hF (x_s1_Ls hL hv) hS List.mem_cons_self
      · simp only [Nat.eq_of_beq_eq_true g] at hv2
        subst hv2
        exact x_go hJ hO (by simp only [p_sv]; rw [if_pos gl]; rfl) hr hn wF hF (x_s1_Ls hL hv) hS List.mem_cons_self
    · cases hs
theorem x_mkI {c : Nat} {e : q_E} {x : Int32} (hw : q_wl n e.1) (hx : x.toInt = q_e r e) : x_v τ r n (1, c, e) (.int x) := ⟨hw, x, rfl, hx⟩
theorem x_mkL {c : Nat} {e : q_E} {x : Int64} (hw : q_wl n e.1) (hx : x.toInt = q_e r e) : x_v τ r n (2, c, e) (.long x) := ⟨hw, x, rfl, hx⟩
theorem x_mk6 {c : Nat} {e : q_E} {x : Int32} (hw : q_wl n e.1) (h1 : x.toInt < 0 ↔ q_e r e < 0) (h2 : x.toInt = 0 ↔ q_e r e = 0) : x_v τ r n (6, c, e) (.int x) := ⟨hw, x, rfl, h1, h2⟩
theorem x_cons {a : x_V} {v : Value} {A : List x_V} {V : List Value} (h1 : x_v τ r n a v) (h2 : x_vs τ r n A V) : x_vs τ r n (a :: A) (v :: V) := ⟨h1, h2⟩
/-- the stack's top, by its tag -/
theorem x_t1 {c : Nat} {e : q_E} {A : List x_V} {V : List Value} (h : x_vs τ r n ((1, c, e) :: A) V) : ∃ (x : Int32) (V' : List Value), V = .int x :: V' ∧ q_wl n e.1 ∧ x.toInt = q_e r e ∧ x_vs τ r n A V' := by
  cases V with
  | nil => exact h.elim
  | cons v V =>
    obtain ⟨⟨hw, x, rfl, hx⟩, hA⟩ := h
    exact ⟨x, V, rfl, hw, hx, hA⟩
theorem x_t2 {c : Nat} {e : q_E} {A : List x_V} {V : List Value} (h : x_vs τ r n ((2, c, e) :: A) V) : ∃ (x : Int64) (V' : List Value), V = .long x :: V' ∧ q_wl n e.1 ∧ x.toInt = q_e r e ∧ x_vs τ r n A V' := by
  cases V with
  | nil => exact h.elim
  | cons v V =>
    obtain ⟨⟨hw, x, rfl, hx⟩, hA⟩ := h
    exact ⟨x, V, rfl, hw, hx, hA⟩
theorem x_t3 {c : Nat} {e : q_E} {A : List x_V} {V : List Value} (h : x_vs τ r n ((3, c, e) :: A) V) : ∃ (x : Nat) (V' : List Value), V = .ref x :: V' ∧ x_v τ r n (3, c, e) (.ref x) ∧ x_vs τ r n A V' := by
  cases V with
  | nil => exact h.elim
  | cons v V =>
    obtain ⟨hv, hA⟩ := h
    obtain ⟨hw, x, rfl, hx⟩ := id hv
    exact ⟨x, V, rfl, hv, hA⟩
theorem x_t4 {c : Nat} {e : q_E} {A : List x_V} {V : List Value} (h : x_vs τ r n ((4, c, e) :: A) V) : ∃ (V' : List Value), V = .null :: V' ∧ x_vs τ r n A V' ∧ x_v τ r n (4, c, e) .null := by
  cases V with
  | nil => exact h.elim
  | cons v V =>
    obtain ⟨⟨hw, rfl⟩, hA⟩ := h
    exact ⟨V, rfl, hA, hw, rfl⟩
theorem x_t6 {c : Nat} {e : q_E} {A : List x_V} {V : List Value} (h : x_vs τ r n ((6, c, e) :: A) V) : ∃ (x : Int32) (V' : List Value), V = .int x :: V' ∧ q_wl n e.1 ∧ (x.toInt < 0 ↔ q_e r e < 0) ∧ (x.toInt = 0 ↔ q_e r e = 0) ∧ x_vs τ r n A V' := by
  cases V with
  | nil => exact h.elim
  | cons v V =>
    obtain ⟨⟨hw, x, rfl, h1, h2⟩, hA⟩ := h
    exact ⟨x, V, rfl, hw, h1, h2, hA⟩
theorem x_tv {a : x_V} {A : List x_V} {V : List Value} (h : x_vs τ r n (a :: A) V) : ∃ (v : Value) (V' : List Value), V = v :: V' ∧ x_v τ r n a v ∧ x_vs τ r n A V' := by
  cases V with
  | nil => exact h.elim
  | cons v V => exact ⟨v, V, rfl, h.1, h.2⟩
theorem x_cat1_ok {a : x_V} {v : Value} (h : x_cat1 a = true) (hv : x_v τ r n a v) : v.category = 1 := by
  simp only [x_cat1, Bool.or_eq_true] at h
  refine x_v_cat hv ?_ ?_ <;> rcases h with (g | g) | g <;> rw [Nat.eq_of_beq_eq_true g] <;> decide
theorem x_sgn (c : ClassFile.Cond) {x : Int32} {v : Int} (h1 : x.toInt < 0 ↔ v < 0) (h2 : x.toInt = 0 ↔ v = 0) : p_cd c x 0 = x_ch c v := by
  rw [x_cd]
  simp only [Int32.toInt_zero, Int.sub_zero]
  have e3 : (0 < x.toInt) ↔ (0 < v) := by omega
  have e4 : (0 ≤ x.toInt) ↔ (0 ≤ v) := by omega
  have e5 : (x.toInt ≤ 0) ↔ (v ≤ 0) := by omega
  cases c <;> simp only [x_ch, h1, h2, e3, e4, e5]
theorem x_lcmp (x y : Int64) : ((lg_cmp x y).toInt < 0 ↔ x.toInt - y.toInt < 0) ∧ ((lg_cmp x y).toInt = 0 ↔ x.toInt - y.toInt = 0) := by
  have e1 : (x > y) ↔ (y.toInt < x.toInt) := Int64.lt_iff_toInt_lt
  have e2 : (x = y) ↔ (x.toInt = y.toInt) := Int64.toInt_inj.symm
  unfold lg_cmp
  split
  · next g =>
    have := e1.mp g
    have e : (1 : Int32).toInt = 1 := by decide
    rw [e]; omega
  · next g =>
    split
    · next g2 =>
      have := e2.mp g2
      have e : (0 : Int32).toInt = 0 := by decide
      rw [e]; omega
    · next g2 =>
      have h1 : ¬ y.toInt < x.toInt := fun q => g (e1.mpr q)
      have h2 : ¬ x.toInt = y.toInt := fun q => g2 (e2.mpr q)
      have e : (-1 : Int32).toInt = -1 := by decide
      rw [e]; omega
set_option maxHeartbeats 2000000 in
theorem x_step_ok (hEO : x_EO E) (hKO : x_KO E) (hJ : x_J E f τ0 h0 τ h) (hO : x_O E τ r h0 h ls st (n, F, L, S, Me, u, w)) {outs : List (Nat × x_S)} (hs : x_step E.1 f G M i pc n F L S Me u w = some outs) : x_Res E f τ0 h0 τ r n (p_step G MT M i pc ls st h) outs := by
  have wF : q_wF n F := hO.1
  have hF : q_FO r F := hO.2.1
  have hS : x_vs τ r n S st := hO.2.2.2.1
  unfold x_step at hs
  split at hs
  · next v =>
    exact x_kI hJ hO rfl hs
  · next v =>
    exact x_kI hJ hO rfl hs
  · next v =>
    exact x_kI hJ hO rfl hs
  · next k =>
    exact x_kL hJ hO rfl hs
  ·
    exact x_stk hJ hO (S' := (4, 0, ([], 0)) :: S) (st' := .null :: st) ⟨⟨q_wl_nil, rfl⟩, hS⟩ rfl hs
  · next x =>
    exact x_cst_ok hJ hO hs
  · next x =>
    exact x_cst_ok hJ hO hs
  · next x =>
    exact x_cst_ok hJ hO hs
  · next k =>
    exact x_getv hJ hO (Or.inl ⟨rfl, rfl⟩) hs
  · next k =>
    exact x_getv hJ hO (Or.inl ⟨rfl, rfl⟩) hs
  · next k =>
    exact x_getv hJ hO (Or.inr (Or.inl ⟨rfl, rfl⟩)) hs
  · next k =>
    exact x_getv hJ hO (Or.inr (Or.inl ⟨rfl, rfl⟩)) hs
  · next k =>
    exact x_getv hJ hO (Or.inr (Or.inr ⟨rfl, rfl⟩)) hs
  · next k =>
    exact x_getv hJ hO (Or.inr (Or.inr ⟨rfl, rfl⟩)) hs
  ·
    obtain ⟨x, V, rfl, wa, hx, hS'⟩ := x_t1 hS
    exact x_putv hJ hO (fun _ _ => rfl) (Nat.le_refl n) wF hF (x_mkI wa hx) (by show (1 : Nat) ≠ 6; decide) hS' hs
  ·
    obtain ⟨x, V, rfl, wa, hx, hS'⟩ := x_t1 hS
    exact x_putv hJ hO (fun _ _ => rfl) (Nat.le_refl n) wF hF (x_mkI wa hx) (by show (1 : Nat) ≠ 6; decide) hS' hs
  ·
    obtain ⟨x, V, rfl, wa, hx, hS'⟩ := x_t2 hS
    exact x_putv hJ hO (fun _ _ => rfl) (Nat.le_refl n) wF hF (x_mkL wa hx) (by show (2 : Nat) ≠ 6; decide) hS' hs
  ·
    obtain ⟨x, V, rfl, wa, hx, hS'⟩ := x_t2 hS
    exact x_putv hJ hO (fun _ _ => rfl) (Nat.le_refl n) wF hF (x_mkL wa hx) (by show (2 : Nat) ≠ 6; decide) hS' hs
  ·
    obtain ⟨x, V, rfl, hv, hS'⟩ := x_t3 hS
    exact x_putv hJ hO (fun _ _ => rfl) (Nat.le_refl n) wF hF hv (by show (3 : Nat) ≠ 6; decide) hS' hs
  ·
    obtain ⟨x, V, rfl, hv, hS'⟩ := x_t3 hS
    exact x_putv hJ hO (fun _ _ => rfl) (Nat.le_refl n) wF hF hv (by show (3 : Nat) ≠ 6; decide) hS' hs
  ·
    obtain ⟨V, rfl, hS', hv⟩ := x_t4 hS
    exact x_putv hJ hO (fun _ _ => rfl) (Nat.le_refl n) wF hF hv (by show (4 : Nat) ≠ 6; decide) hS' hs
  ·
    obtain ⟨V, rfl, hS', hv⟩ := x_t4 hS
    exact x_putv hJ hO (fun _ _ => rfl) (Nat.le_refl n) wF hF hv (by show (4 : Nat) ≠ 6; decide) hS' hs
  · next k d =>
    split at hs
    · next c e hk =>
      obtain ⟨v, h1, h2⟩ := hO.2.2.1 k _ hk (by show (1 : Nat) ≠ 0; decide)
      obtain ⟨wa, x, rfl, hx⟩ := h2
      obtain ⟨r', g1, g2, g3, g4, g5, g6⟩ := x_add_ok (y := Int32.ofInt d) (b := q_c (Int32.ofInt d).toInt) wF hF wa q_c_wl hx (by rw [q_c_e])
      have := x_putv (nL := M.2.2.1) (k := k) (pc' := pc + 3) hJ hO g1 g2 g3 g4 (v := .int (x + Int32.ofInt d)) (a := (1, 0, (x_add' n F e (q_c (Int32.ofInt d).toInt)).2.2)) ⟨g5, _, rfl, g6.symm⟩ (by show (1 : Nat) ≠ 6; decide) (hS.moved g1 g2 (fun _ _ q => q)) hs
      have e1 : p_step G MT M (.iinc k d) pc ls st h = p_sv M.2.2.1 k (.int (x + Int32.ofInt d)) (pc + 3) ls st h := by
        simp only [p_step, h1]
      rw [e1]; exact this
    · cases hs
  ·
    obtain ⟨y, V1, rfl, wb, hy, hS1⟩ := x_t1 hS
    obtain ⟨x, V, rfl, wa, hx, hS'⟩ := x_t1 hS1
    exact x_numI hJ hO (x_add_ok wF hF wa wb hx hy) hS' rfl hs
  ·
    obtain ⟨y, V1, rfl, wb, hy, hS1⟩ := x_t1 hS
    obtain ⟨x, V, rfl, wa, hx, hS'⟩ := x_t1 hS1
    exact x_numI hJ hO (x_sub_ok wF hF wa wb hx hy) hS' rfl hs
  ·
    obtain ⟨y, V1, rfl, wb, hy, hS1⟩ := x_t1 hS
    obtain ⟨x, V, rfl, wa, hx, hS'⟩ := x_t1 hS1
    exact x_numI hJ hO (x_mul_ok wF hF wa wb hx hy) hS' rfl hs
  ·
    obtain ⟨y, V1, rfl, wb, hy, hS1⟩ := x_t1 hS
    obtain ⟨x, V, rfl, wa, hx, hS'⟩ := x_t1 hS1
    exact x_numI hJ hO (x_and_ok wF hF hx hy) hS' rfl hs
  ·
    obtain ⟨y, V1, rfl, wb, hy, hS1⟩ := x_t1 hS
    obtain ⟨x, V, rfl, wa, hx, hS'⟩ := x_t1 hS1
    exact x_numI hJ hO (x_or_ok wF hF hx hy) hS' rfl hs
  ·
    obtain ⟨y, V1, rfl, wb, hy, hS1⟩ := x_t1 hS
    obtain ⟨x, V, rfl, wa, hx, hS'⟩ := x_t1 hS1
    exact x_numI hJ hO (x_f32_ok wF hF _) hS' rfl hs
  ·
    obtain ⟨y, V1, rfl, wb, hy, hS1⟩ := x_t1 hS
    obtain ⟨x, V, rfl, wa, hx, hS'⟩ := x_t1 hS1
    exact x_numI hJ hO (x_shl_ok wF hF hx hy) hS' rfl hs
  ·
    obtain ⟨y, V1, rfl, wb, hy, hS1⟩ := x_t1 hS
    obtain ⟨x, V, rfl, wa, hx, hS'⟩ := x_t1 hS1
    exact x_numI hJ hO (x_shr_ok wF hF hx hy) hS' rfl hs
  ·
    obtain ⟨y, V1, rfl, wb, hy, hS1⟩ := x_t1 hS
    obtain ⟨x, V, rfl, wa, hx, hS'⟩ := x_t1 hS1
    exact x_numI hJ hO (x_f32_ok wF hF _) hS' rfl hs
  ·
    split at hs
    · next hne =>
      obtain ⟨y, V1, rfl, wb, hy, hS1⟩ := x_t1 hS
      obtain ⟨x, V, rfl, wa, hx, hS'⟩ := x_t1 hS1
      have hy0 : ¬ y = 0 := fun q => q_ne0_spec hF hne (by rw [← hy, q]; rfl)
      exact x_numI hJ hO (x_div_ok wF hF hx hy) hS' (by simp only [p_step]; rw [if_neg hy0]; rfl) hs
    · cases hs
  ·
    split at hs
    · next hne =>
      obtain ⟨y, V1, rfl, wb, hy, hS1⟩ := x_t1 hS
      obtain ⟨x, V, rfl, wa, hx, hS'⟩ := x_t1 hS1
      have hy0 : ¬ y = 0 := fun q => q_ne0_spec hF hne (by rw [← hy, q]; rfl)
      exact x_numI hJ hO ((by rw [x_rem]; exact x_rem_ok wF hF wb hx hy (by rw [← x_rem]; exact x_f32_ok wF hF _))) hS' (by simp only [p_step]; rw [if_neg hy0]; rfl) hs
    · cases hs
  ·
    obtain ⟨x, V, rfl, wa, hx, hS'⟩ := x_t1 hS
    exact x_numI hJ hO (x_neg_ok wF hF wa hx) hS' rfl hs
  ·
    obtain ⟨y, V1, rfl, wb, hy, hS1⟩ := x_t2 hS
    obtain ⟨x, V, rfl, wa, hx, hS'⟩ := x_t2 hS1
    exact x_numL hJ hO (x_k64_ok wF hF (q_add_wl wa wb) (fun g1 g2 => by rw [q_add_e, ← hx, ← hy] at g1 g2 ⊢; exact x_add6 g1 g2)) hS' rfl hs
  ·
    obtain ⟨y, V1, rfl, wb, hy, hS1⟩ := x_t2 hS
    obtain ⟨x, V, rfl, wa, hx, hS'⟩ := x_t2 hS1
    exact x_numL hJ hO (x_k64_ok wF hF (q_sub_wl wa wb) (fun g1 g2 => by rw [q_sub_e, ← hx, ← hy] at g1 g2 ⊢; exact x_sub6 g1 g2)) hS' rfl hs
  ·
    obtain ⟨y, V1, rfl, wb, hy, hS1⟩ := x_t2 hS
    obtain ⟨x, V, rfl, wa, hx, hS'⟩ := x_t2 hS1
    exact x_numL hJ hO (x_f64_ok wF hF _) hS' rfl hs
  ·
    obtain ⟨y, V1, rfl, wb, hy, hS1⟩ := x_t2 hS
    obtain ⟨x, V, rfl, wa, hx, hS'⟩ := x_t2 hS1
    exact x_numL hJ hO (x_lor_ok wF hF hx hy) hS' rfl hs
  ·
    split at hs
    · next hne =>
      obtain ⟨y, V1, rfl, wb, hy, hS1⟩ := x_t2 hS
      obtain ⟨x, V, rfl, wa, hx, hS'⟩ := x_t2 hS1
      have hy0 : ¬ y = 0 := fun q => q_ne0_spec hF hne (by rw [← hy, q]; rfl)
      exact x_numL hJ hO (x_f64_ok wF hF _) hS' (by simp only [p_step]; rw [if_neg hy0]; rfl) hs
    · cases hs
  ·
    split at hs
    · next hne =>
      obtain ⟨y, V1, rfl, wb, hy, hS1⟩ := x_t2 hS
      obtain ⟨x, V, rfl, wa, hx, hS'⟩ := x_t2 hS1
      have hy0 : ¬ y = 0 := fun q => q_ne0_spec hF hne (by rw [← hy, q]; rfl)
      exact x_numL hJ hO ((by rw [x_rem6]; exact x_rem_ok wF hF wb hx hy (by rw [← x_rem6]; exact x_f64_ok wF hF _))) hS' (by simp only [p_step]; rw [if_neg hy0]; rfl) hs
    · cases hs
  ·
    obtain ⟨x, V, rfl, wa, hx, hS'⟩ := x_t2 hS
    exact x_numL hJ hO (x_k64_ok wF hF (q_sc_wl wa) (fun g1 g2 => by rw [q_sc_e, ← hx] at g1 g2 ⊢; rw [x_neg6 (by omega)]; omega)) hS' rfl hs
  ·
    obtain ⟨y, V1, rfl, wb, hy, hS1⟩ := x_t1 hS
    obtain ⟨x, V, rfl, wa, hx, hS'⟩ := x_t2 hS1
    exact x_numL hJ hO (x_lsl_ok wF hF hx hy) hS' rfl hs
  ·
    obtain ⟨y, V1, rfl, wb, hy, hS1⟩ := x_t1 hS
    obtain ⟨x, V, rfl, wa, hx, hS'⟩ := x_t2 hS1
    exact x_numL hJ hO (x_f64_ok wF hF _) hS' rfl hs
  ·
    obtain ⟨y, V1, rfl, wb, hy, hS1⟩ := x_t2 hS
    obtain ⟨x, V, rfl, wa, hx, hS'⟩ := x_t2 hS1
    exact x_stk hJ hO (x_cons (x_mk6 (x := lg_cmp x y) (q_sub_wl wa wb) (by rw [q_sub_e, ← hx, ← hy]; exact (x_lcmp x y).1) (by rw [q_sub_e, ← hx, ← hy]; exact (x_lcmp x y).2)) hS') rfl hs
  ·
    obtain ⟨x, V, rfl, wa, hx, hS'⟩ := x_t1 hS
    exact x_stk hJ hO (x_cons (x_mkL (x := x.toInt64) wa (by rw [x_i2l]; exact hx)) hS') rfl hs
  ·
    obtain ⟨x, V, rfl, wa, hx, hS'⟩ := x_t2 hS
    exact x_numI hJ hO (x_k32_ok wF hF wa (fun g1 g2 => by rw [← hx] at g1 g2 ⊢; exact x_l2i g1 g2)) hS' rfl hs
  ·
    obtain ⟨x, V, rfl, wa, hx, hS'⟩ := x_t1 hS
    refine x_numI hJ hO (x_fr_ok wF hF ?_ ?_) hS' (x := x.toInt8.toInt32) rfl hs
    · rw [Int8.toInt_toInt32]; exact Int8.le_toInt _
    · rw [Int8.toInt_toInt32]; have := Int8.toInt_lt x.toInt8; omega
  ·
    split at hs
    · next hc =>
      obtain ⟨v, V, rfl, hv, hS'⟩ := x_tv hS
      have hcat := x_cat1_ok hc hv
      exact x_stk hJ hO (S' := _ :: _ :: _) (st' := v :: v :: V) ⟨hv, hv, hS'⟩ (by simp only [p_step]; rw [if_pos hcat]; rfl) hs
    · cases hs
  ·
    split at hs
    · next hc =>
      obtain ⟨v, V, rfl, hv, hS'⟩ := x_tv hS
      have hcat := x_cat1_ok hc hv
      exact x_stk hJ hO hS' (by simp only [p_step]; rw [if_pos hcat]; rfl) hs
    · cases hs
  ·
    split at hs
    · next hc =>
      rw [Bool.and_eq_true] at hc
      obtain ⟨v, V1, rfl, hv, hS1⟩ := x_tv hS
      obtain ⟨v', V, rfl, hv', hS'⟩ := x_tv hS1
      have hcat := x_cat1_ok hc.1 hv
      have hcat' := x_cat1_ok hc.2 hv'
      exact x_stk hJ hO (S' := _ :: _ :: _ :: _ :: _) (st' := v :: v' :: v :: v' :: V) ⟨hv, hv', hv, hv', hS'⟩ (by simp only [p_step]; rw [if_pos ⟨hcat, hcat'⟩]; rfl) hs
    · cases hs
  ·
    obtain ⟨x, V, rfl, wa, hx, hS'⟩ := x_t2 hS
    exact x_stk hJ hO hS' rfl hs
  · next c off _ a _ =>
    obtain ⟨x, V, rfl, wa, hx, hS'⟩ := x_t1 hS
    exact x_br_ok hJ hO wa (by rw [x_cd, hx]; simp) hS' hs
  · next c off _ a _ =>
    obtain ⟨x, V, rfl, wa, h1, h2, hS'⟩ := x_t6 hS
    exact x_br_ok hJ hO wa (x_sgn c h1 h2) hS' hs
  · next c off _ b _ a _ =>
    obtain ⟨y, V1, rfl, wb, hy, hS1⟩ := x_t1 hS
    obtain ⟨x, V, rfl, wa, hx, hS'⟩ := x_t1 hS1
    exact x_br_ok hJ hO (q_sub_wl wa wb) (by rw [x_cd, hx, hy, q_sub_e]) hS' hs
  ·
    obtain ⟨V, rfl, hS', hv⟩ := x_t4 hS
    exact x_jm_ok hJ hO hS' hs
  ·
    obtain ⟨x, V, rfl, hv, hS'⟩ := x_t3 hS
    exact x_stk hJ hO hS' rfl hs
  ·
    obtain ⟨x, V, rfl, hv, hS'⟩ := x_t3 hS
    exact x_jm_ok hJ hO hS' hs
  ·
    obtain ⟨V, rfl, hS', hv⟩ := x_t4 hS
    exact x_stk hJ hO hS' rfl hs
  ·
    exact x_jm_ok hJ hO hS hs
  ·
    obtain ⟨x, V, rfl, wa, hx, hS'⟩ := x_t1 hS
    exact x_tab_ok hJ hO wa hx hS' hs
  · next d ps _ a _ =>
    split at hs
    · next hp =>
      obtain ⟨x, V, rfl, wa, hx, hS'⟩ := x_t1 hS
      have e1 : p_step G MT M (.lookupswitch d ps) pc ls (.int x :: V) h = p_jm pc (Op.lookupswitch.offset ps.toList d x.toInt) ls V h := by simp only [p_step]; rw [if_pos hp]
      rw [e1]
      exact x_look_ok hJ hO wa hx hS' _ _ hs
    · cases hs
  ·
    obtain ⟨x, V1, rfl, wa, hx, hS1⟩ := x_t1 hS
    obtain ⟨b, V, rfl, hv, hS'⟩ := x_t3 hS1
    obtain ⟨a, e0, hres⟩ := x_al_ok hKO hJ hO hx hv hS' hs
    cases e0
    exact hres
  ·
    obtain ⟨x, V1, rfl, wa, hx, hS1⟩ := x_t1 hS
    obtain ⟨b, V, rfl, hv, hS'⟩ := x_t3 hS1
    obtain ⟨a, e0, hres⟩ := x_al_ok hKO hJ hO hx hv hS' hs
    cases e0
    exact hres
  ·
    obtain ⟨x, V1, rfl, wa, hx, hS1⟩ := x_t1 hS
    obtain ⟨b, V, rfl, hv, hS'⟩ := x_t3 hS1
    obtain ⟨a, e0, hres⟩ := x_al_ok hKO hJ hO hx hv hS' hs
    cases e0
    exact hres
  ·
    obtain ⟨x, V1, rfl, wa, hx, hS1⟩ := x_t1 hS
    obtain ⟨b, V, rfl, hv, hS'⟩ := x_t3 hS1
    obtain ⟨a, e0, hres⟩ := x_al_ok hKO hJ hO hx hv hS' hs
    cases e0
    exact hres
  ·
    obtain ⟨y, V0, rfl, wy, hy, hS0⟩ := x_t1 hS
    obtain ⟨x, V1, rfl, wa, hx, hS1⟩ := x_t1 hS0
    obtain ⟨b, V, rfl, hv, hS'⟩ := x_t3 hS1
    obtain ⟨a, e0, hres⟩ := x_asA_ok hEO hKO hJ hO (x_mkI wy hy) hx hv hS' hs
    cases e0
    exact hres
  ·
    obtain ⟨y, V0, rfl, wy, hy, hS0⟩ := x_t2 hS
    obtain ⟨x, V1, rfl, wa, hx, hS1⟩ := x_t1 hS0
    obtain ⟨b, V, rfl, hv, hS'⟩ := x_t3 hS1
    obtain ⟨a, e0, hres⟩ := x_asA_ok hEO hKO hJ hO (x_mkL wy hy) hx hv hS' hs
    cases e0
    exact hres
  ·
    obtain ⟨y, V0, rfl, wy, hy, hS0⟩ := x_t1 hS
    obtain ⟨x, V1, rfl, wa, hx, hS1⟩ := x_t1 hS0
    obtain ⟨b, V, rfl, hv, hS'⟩ := x_t3 hS1
    obtain ⟨a, e0, hres⟩ := x_asB_ok (y := y) hEO hKO hJ hO hx hv hS' hs
    cases e0
    exact hres
  ·
    obtain ⟨V0, rfl, hS0, h4⟩ := x_t4 hS
    obtain ⟨x, V1, rfl, wa, hx, hS1⟩ := x_t1 hS0
    obtain ⟨b, V, rfl, hv, hS'⟩ := x_t3 hS1
    obtain ⟨a, e0, hres⟩ := x_asA_ok hEO hKO hJ hO h4 hx hv hS' hs
    cases e0
    exact hres
  ·
    split at hs
    · next K hK =>
      split at hs
      · next hg =>
        rw [Bool.and_eq_true] at hg
        obtain ⟨z, V0, rfl, h3, hS0⟩ := x_t3 hS
        obtain ⟨x, V1, rfl, wa, hx, hS1⟩ := x_t1 hS0
        obtain ⟨b, V, rfl, hv, hS'⟩ := x_t3 hS1
        obtain ⟨a, e0, hres⟩ := x_asA_ok hEO hKO hJ hO h3 hx hv hS' hs
        cases e0
        obtain ⟨i', K', c', e1, -, -, -, hc', hK', d1, d2, -⟩ := x_ref h3 hJ.2.2.1
        cases e1
        have eK : K' = K := Option.some.inj (hK'.symm.trans hK)
        subst eK
        obtain ⟨ca, cb, cv⟩ := c'
        have a1 : ca = 0 := d1.trans (Nat.eq_of_beq_eq_true hg.1)
        have a2 : cb = 7 := d2.trans (Nat.eq_of_beq_eq_true hg.2)
        subst a1; subst a2
        simp only [p_step, hc']
        exact hres
      · cases hs
    · cases hs
  ·
    exact x_gst_ok hJ hO hs
  ·
    split at hs
    · next q hq =>
      obtain ⟨xn, V1, rfl, -, hn, hS1⟩ := x_t1 hS
      obtain ⟨xd, V2, rfl, -, hd, hS2⟩ := x_t1 hS1
      obtain ⟨vd, V3, rfl, hvd, hS3⟩ := x_t3 hS2
      obtain ⟨xs, V4, rfl, -, hsp, hS4⟩ := x_t1 hS3
      obtain ⟨vs0, V5, rfl, hvs, hS5⟩ := x_t3 hS4
      obtain ⟨a, b, e0, e1, hres⟩ := x_acp_ok hEO hJ hO hn hd hsp hvd hvs hS5 hs
      cases e0; cases e1
      simp only [p_step, p_invs, hq]
      exact hres
    · cases hs
  ·
    obtain ⟨x, V, rfl, hv, hS'⟩ := x_t3 hS
    obtain ⟨a, e0, hres⟩ := x_alen_ok hJ hO hv hS' hs
    cases e0
    exact hres
  ·
    obtain ⟨x, V, rfl, hv, hS'⟩ := x_t3 hS
    obtain ⟨a, e0, hres⟩ := x_getf_ok hKO hJ hO hv hS' hs
    cases e0
    exact hres
  ·
    obtain ⟨v, V1, rfl, hv0, hS1⟩ := x_tv hS
    obtain ⟨b, V, rfl, hv, hS'⟩ := x_t3 hS1
    obtain ⟨a, e0, hres⟩ := x_putf_ok (ini := M.2.2.2.2.2.2.1) (own := M.2.2.2.2.2.2.2) hEO hKO hJ hO hv0 hv hS' hs
    cases e0
    exact hres
  ·
    cases hs
end XST

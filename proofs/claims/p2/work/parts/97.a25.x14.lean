def m_P (f : Nat → Int) : List Int → Prop
  | [] => True
  | x :: σ => f σ.length = x ∧ c_in x ∧ m_P f σ
theorem m_P_set {f : Nat → Int} {v : Int} : ∀ {σ : List Int} {k : Nat}, σ.length ≤ k → m_P f σ → m_P (d_u f k v) σ := by
  intro σ
  induction σ with
  | nil => intro k _ _; trivial
  | cons x σ ih =>
    intro k hk hp
    have hk : σ.length + 1 ≤ k := hk
    exact ⟨by rw [d_u_n (by omega)]; exact hp.1, hp.2.1, ih (by omega) hp.2.2⟩
def m_C (t : Nat → Option p_C) (a : Nat) (C : Nat → Nat × Nat) (len : Nat) : Prop := 80 ≤ a ∧ len ≤ 600 ∧ ∃ vs, t a = some (1, 0, vs) ∧ vs.length = len ∧ ∀ k, k < len → vs[k]? = some (.int (Int32.ofInt ((16 * (C k).2 + (C k).1 : Nat) : Int))) ∧ (C k).1 < 16 ∧ (C k).2 < 20000
def m_bin (d : Nat) : List Int → List Int
  | y :: x :: r => t_op2 d x y :: r
  | r => r
section X14
variable {s s1 s' : d_S} {t : Nat → Option p_C} {a : Nat} {C : Nat → Nat × Nat} {len q d w : Nat} {σ : List Int} {ν : Nat → Int} {D : Nat} {K : Int → d_S → Option (Int × d_S)} {R : Option Nat → Int → Int → Int → d_S → Option (Int × d_S)} {x1 : Option Nat} {x3 x4 : Int}
theorem m_C.n (h : m_C t a C len) : d_tn t a = some (len : Int) := by
  obtain ⟨h1, h2, vs, h3, h4, h5⟩ := h
  unfold d_tn d_ta
  rw [if_pos h1, h3]
  show d_b (some vs) _ = _
  rw [d_b_t, h4, if_pos (by omega)]
theorem m_C.l (h : m_C t a C len) {k : Nat} (hk : k < len) : d_tl t a (k : Int) = some ((16 * (C k).2 + (C k).1 : Nat) : Int) := by
  obtain ⟨h1, h2, vs, h3, h4, h5⟩ := h
  obtain ⟨g1, g2, g3⟩ := h5 k hk
  unfold d_tl d_ta
  rw [if_pos h1, h3]
  show d_b (some vs) _ = _
  rw [d_b_t, if_pos (by omega), Int.toNat_natCast, g1]
  show some ((Int32.ofInt ((16 * (C k).2 + (C k).1 : Nat) : Int)).toInt) = _
  rw [d_ti ⟨by omega, by omega⟩]
theorem m_divL {x y : Int} (hx : c_in x) (hy : c_in y) : d_divL x y = Int.tdiv x y := by
  unfold c_in at hx hy
  unfold d_divL
  rw [Int64.toInt_div, v_ti64 (by omega) (by omega), v_ti64 (by omega) (by omega)]
  have h1 : (x.tdiv y).natAbs ≤ x.natAbs := by
    rw [Int.natAbs_tdiv]
    exact Nat.div_le_self _ _
  generalize x.tdiv y = z at *
  exact Int.bmod_eq_of_le (by omega) (by omega)
theorem m_324 {x y : Int} {σ : List Int} {v : Int} (hP : m_P (s.1 50) (y :: x :: σ)) (hl : σ.length + 2 ≤ 32) : ∃ s', F_X1_reckon_j324 t R x1 ((σ.length + 1 : Nat) : Int) x3 x4 v s = R x1 (((t_hl v :: σ).length : Nat) : Int) x3 (d_w (x4 + 1)) s' ∧ m_P (s'.1 50) (t_hl v :: σ) ∧ v_fr [50] s s' := by
  obtain ⟨s2, hs2⟩ : ∃ z, z = d_si s 50 σ.length (t_hl v) := ⟨_, rfl⟩
  have hin := c_in_hl v
  refine ⟨s2, ?_, ⟨by rw [hs2, d_si_i, d_u_t], hin, ?_⟩, fun b hb => by rw [hs2, d_si_n (fun e => hb (by rw [e]; decide))], by rw [hs2]; rfl⟩
  · unfold F_X1_reckon_j324
    unfold c_in at hin
    rw [P_minL, d_b_t, P_maxL, d_b_t, d_w_id (x := ((σ.length + 1 : Nat) : Int) - 1) (by omega) (by omega), show ((σ.length + 1 : Nat) : Int) - 1 = (σ.length : Int) by omega, d_g_t (by omega), Int.toNat_natCast, show max (-1000000) (min 1000000 v) = t_hl v from rfl, d_w_id (x := t_hl v) (by omega) (by omega), ← hs2, d_l_t]
    rfl
  · rw [hs2, d_si_i]
    exact m_P_set (Nat.le_refl _) hP.2.2.2.2
theorem m_212 (hd : d ≠ 0 ∧ d ≠ 3) (hP : m_P (s.1 50) σ) (hl : σ.length ≤ 32) : ∃ s' σ', F_X1_reckon_j212 t R x1 (σ.length : Int) x3 x4 (d : Int) s = R x1 (σ'.length : Int) x3 (d_w (x4 + 1)) s' ∧ σ'.length ≤ 32 ∧ m_P (s'.1 50) σ' ∧ v_fr [50] s s' ∧ (d < 5 → σ' = σ) ∧ (5 ≤ d → σ' = m_bin d σ) := by
  unfold F_X1_reckon_j212
  by_cases c : d < 5
  · rw [if_pos (by omega)]
    exact ⟨s, σ, rfl, hl, hP, ⟨fun _ _ => rfl, rfl⟩, fun _ => rfl, fun e => by omega⟩
  rw [if_neg (by omega)]
  match σ, hP, hl with
  | [], hP, hl =>
    rw [if_neg (by simp)]
    exact ⟨s, [], rfl, hl, hP, ⟨fun _ _ => rfl, rfl⟩, fun e => by omega, fun _ => rfl⟩
  | [x], hP, hl =>
    rw [if_neg (by simp)]
    exact ⟨s, [x], rfl, hl, hP, ⟨fun _ _ => rfl, rfl⟩, fun e => by omega, fun _ => rfl⟩
  | y :: x :: r, hP, hl =>
    rw [List.length_cons, List.length_cons] at hl ⊢
    have hy : s.1 50 (r.length + 1) = y := hP.1
    have hx : s.1 50 r.length = x := hP.2.2.1
    have iy := hP.2.1
    have ix := hP.2.2.2.1
    have e1 : d_w (((r.length + 1 + 1 : Nat) : Int) + (-1)) = ((r.length + 1 : Nat) : Int) := by rw [d_w_id (by omega) (by omega)]; omega
    have e2 : d_w (((r.length + 1 : Nat) : Int) - 1) = (r.length : Int) := by rw [d_w_id (by omega) (by omega)]; omega
    rw [if_pos (by omega), e1, e2, d_g_t (by omega), d_g_t (by omega), Int.toNat_natCast, Int.toNat_natCast, hx, hy]
    have hin : -1000000000000 ≤ x * y ∧ x * y ≤ 1000000000000 := t_lmul ix iy
    have ix' := ix
    have iy' := iy
    unfold c_in at ix' iy'
    have fin : ∀ v : Int, v = (if d = 5 then x + y else if d = 6 then x - y else if d = 7 then x * y else Int.tdiv x y) → ∃ s' σ', F_X1_reckon_j324 t R x1 ((r.length + 1 : Nat) : Int) x3 x4 v s = R x1 (σ'.length : Int) x3 (d_w (x4 + 1)) s' ∧ σ'.length ≤ 32 ∧ m_P (s'.1 50) σ' ∧ v_fr [50] s s' ∧ (d < 5 → σ' = y :: x :: r) ∧ (5 ≤ d → σ' = t_op2 d x y :: r) := by
      intro v hv
      obtain ⟨s', g1, g2, g3⟩ := m_324 (t := t) (R := R) (x1 := x1) (x3 := x3) (x4 := x4) (v := v) hP (by omega)
      exact ⟨s', t_hl v :: r, g1, by rw [List.length_cons]; omega, g2, g3, fun e => by omega, fun _ => by rw [hv]; rfl⟩
    by_cases c5 : d = 5
    · rw [if_pos (by omega), d_W_id (by omega) (by omega)]
      exact fin _ (by rw [if_pos c5])
    rw [if_neg (by omega)]
    by_cases c6 : d = 6
    · rw [if_pos (by omega), d_W_id (by omega) (by omega)]
      exact fin _ (by rw [if_neg c5, if_pos c6])
    rw [if_neg (by omega)]
    by_cases c7 : d = 7
    · rw [if_pos (by omega), d_W_id (by omega) (by omega)]
      exact fin _ (by rw [if_neg c5, if_neg c6, if_pos c7])
    rw [if_neg (by omega)]
    unfold F_X1_reckon_j322
    by_cases y0 : y = 0
    · rw [if_pos y0]
      exact fin 0 (by rw [if_neg c5, if_neg c6, if_neg c7, y0, Int.tdiv_zero])
    · rw [if_neg y0, d_g_t y0, m_divL ix iy]
      exact fin _ (by rw [if_neg c5, if_neg c6, if_neg c7])
theorem m_step (hC : m_C t a C len) (hν : ∀ k, k < 8 → s.1 49 k = ν k ∧ c_in (ν k)) (hq : q < len) (hx4 : 0 ≤ x4 ∧ x4 < len) (hP : m_P (s.1 50) σ) (hl : σ.length ≤ 32) : ∃ s', F_X1_reckon_l7_b t K R (some a) (σ.length : Int) (q : Int) x4 s = R (some a) (((c_st ν C (q, σ)).2.length : Nat) : Int) (((c_st ν C (q, σ)).1 : Nat) : Int) (x4 + 1) s' ∧ m_P (s'.1 50) (c_st ν C (q, σ)).2 ∧ (c_st ν C (q, σ)).2.length ≤ 32 ∧ (c_st ν C (q, σ)).1 ≤ 20000 ∧ v_fr [50] s s' := by
  have hl6 := hC.2.1
  have hcl := hC.l hq
  have hw : (C q).1 < 16 ∧ (C q).2 < 20000 := by
    obtain ⟨-, -, vs, -, -, h5⟩ := hC
    exact (h5 q hq).2
  unfold F_X1_reckon_l7_b
  rw [d_b_t, hC.n, d_b_t, if_pos (by omega), if_neg (by omega), d_b_t, hC.n, d_b_t, if_pos (by omega), d_b_t, hcl, d_b_t, d_b_t, hcl, d_b_t]
  obtain ⟨d, hd⟩ : ∃ z, z = (C q).1 := ⟨_, rfl⟩
  obtain ⟨w, hwe⟩ : ∃ z, z = (C q).2 := ⟨_, rfl⟩
  unfold c_st
  rw [← hd, ← hwe] at hw ⊢
  have ea : d_and ((16 * w + d : Nat) : Int) 15 = (d : Int) := by rw [v_and15 (by omega), show (16 * w + d) % 16 = d by omega]
  have es : d_shr ((16 * w + d : Nat) : Int) 4 = (w : Int) := by rw [v_sh4 (by omega), show (16 * w + d) / 16 = w by omega]
  have ex : d_w (x4 + 1) = x4 + 1 := d_w_id (by omega) (by omega)
  have eq : d_w ((q : Int) + 1) = ((q + 1 : Nat) : Int) := by rw [d_w_id (by omega) (by omega)]; rfl
  rw [ea, es, ex, eq]
  by_cases c3 : d = 3
  · rw [if_pos (by omega), if_pos c3]
    exact ⟨s, rfl, hP, hl, by show w ≤ 20000; omega, ⟨fun _ _ => rfl, rfl⟩⟩
  rw [if_neg (by omega), if_neg c3]
  have push : ∀ v : Int, c_in v → σ.length < 32 → ∃ s', d_l (d_si s 50 σ.length v) (fun s10 => R (some a) (d_w ((σ.length : Int) + 1)) ((q + 1 : Nat) : Int) (x4 + 1) s10) = R (some a) (((v :: σ).length : Nat) : Int) ((q + 1 : Nat) : Int) (x4 + 1) s' ∧ m_P (s'.1 50) (v :: σ) ∧ (v :: σ).length ≤ 32 ∧ q + 1 ≤ 20000 ∧ v_fr [50] s s' := by
    intro v hv hs
    refine ⟨d_si s 50 σ.length v, by rw [d_l_t, d_w_id (by omega) (by omega)]; rfl, ⟨by rw [d_si_i, d_u_t], hv, by rw [d_si_i]; exact m_P_set (Nat.le_refl _) hP⟩, by rw [List.length_cons]; omega, by omega, fun b hb => by rw [d_si_n (fun e => hb (by rw [e]; decide))], rfl⟩
  have same : ∀ d : Nat, d < 5 → d ≠ 1 → d ≠ 2 → d ≠ 4 → F_X1_reckon_j82 t R (some a) (σ.length : Int) ((q + 1 : Nat) : Int) x4 (d : Int) (w : Int) s = R (some a) (σ.length : Int) ((q + 1 : Nat) : Int) (x4 + 1) s := by
    intro d h1 h2 h3 h4
    unfold F_X1_reckon_j82 F_X1_reckon_j131 F_X1_reckon_j161 F_X1_reckon_j212
    rw [if_neg (by omega), if_neg (by omega), if_neg (by omega), if_pos (by omega), ex]
  by_cases c0 : d = 0
  · rw [if_pos (by omega), if_pos c0]
    by_cases q32 : σ.length < 32
    · rw [if_pos (by omega), d_g_t (by omega), Int.toNat_natCast, if_pos q32]
      exact push (w : Int) ⟨by omega, by omega⟩ q32
    · rw [if_neg (by omega), if_neg q32]
      exact ⟨s, same d (by omega) (by omega) (by omega) (by omega), hP, hl, by show q + 1 ≤ 20000; omega, ⟨fun _ _ => rfl, rfl⟩⟩
  rw [if_neg (by omega), if_neg c0]
  unfold F_X1_reckon_j82
  by_cases c1 : d = 1
  · rw [if_pos (by omega), if_pos c1]
    have skip : F_X1_reckon_j131 t R (some a) (σ.length : Int) ((q + 1 : Nat) : Int) x4 (d : Int) (w : Int) s = R (some a) (σ.length : Int) ((q + 1 : Nat) : Int) (x4 + 1) s := by
      unfold F_X1_reckon_j131 F_X1_reckon_j161 F_X1_reckon_j212
      rw [if_neg (by omega), if_neg (by omega), if_pos (by omega), ex]
    by_cases q32 : σ.length < 32
    · rw [if_pos (by omega), if_neg (by omega)]
      by_cases q8 : w < 8
      · obtain ⟨n1, n2⟩ := hν w q8
        rw [if_pos (by omega), d_g_t (by omega), d_g_t (by omega), Int.toNat_natCast, Int.toNat_natCast, n1, if_pos ⟨q32, q8⟩, ex]
        exact push (ν w) n2 q32
      · rw [if_neg (by omega), skip, if_neg (fun e => q8 e.2)]
        exact ⟨s, rfl, hP, hl, by show q + 1 ≤ 20000; omega, ⟨fun _ _ => rfl, rfl⟩⟩
    · rw [if_neg (by omega), skip, if_neg (fun e => q32 e.1)]
      exact ⟨s, rfl, hP, hl, by show q + 1 ≤ 20000; omega, ⟨fun _ _ => rfl, rfl⟩⟩
  rw [if_neg (by omega), if_neg c1]
  unfold F_X1_reckon_j131
  by_cases c2 : d = 2
  · rw [if_pos (by omega), if_pos c2]
    match σ, hP, hl with
    | [], hP, hl =>
      rw [if_neg (by simp)]
      unfold F_X1_reckon_j161 F_X1_reckon_j212
      rw [if_neg (by omega), if_pos (by omega), ex]
      exact ⟨s, rfl, hP, hl, by show q + 1 ≤ 20000; omega, ⟨fun _ _ => rfl, rfl⟩⟩
    | x :: r, hP, hl =>
      rw [List.length_cons] at hl ⊢
      have hx : s.1 50 r.length = x := hP.1
      have ix := hP.2.1
      unfold c_in at ix
      rw [if_pos (by omega), d_w_id (x := ((r.length + 1 : Nat) : Int) - 1) (by omega) (by omega), show ((r.length + 1 : Nat) : Int) - 1 = (r.length : Int) by omega, d_g_t (by omega), d_g_t (by omega), Int.toNat_natCast, hx, d_w_id (x := -x) (by omega) (by omega), d_l_t, ex]
      refine ⟨d_si s 50 r.length (-x), rfl, ⟨by rw [d_si_i, d_u_t], ⟨by omega, by omega⟩, by rw [d_si_i]; exact m_P_set (Nat.le_refl _) hP.2.2⟩, by rw [List.length_cons]; omega, by show q + 1 ≤ 20000; omega, fun b hb => by rw [d_si_n (fun e => hb (by rw [e]; decide))], rfl⟩
  rw [if_neg (by omega), if_neg c2]
  unfold F_X1_reckon_j161
  by_cases c4 : d = 4
  · rw [if_pos (by omega), if_pos c4]
    match σ, hP, hl with
    | [], hP, hl =>
      rw [if_neg (by simp)]
      unfold F_X1_reckon_j212
      rw [if_pos (by omega), ex]
      exact ⟨s, rfl, hP, hl, by show q + 1 ≤ 20000; omega, ⟨fun _ _ => rfl, rfl⟩⟩
    | x :: r, hP, hl =>
      rw [List.length_cons] at hl ⊢
      have hx : s.1 50 r.length = x := hP.1
      have ix := hP.2.1
      unfold c_in at ix
      rw [if_pos (by omega), d_w_id (x := ((r.length + 1 : Nat) : Int) + (-1)) (by omega) (by omega), show ((r.length + 1 : Nat) : Int) + (-1) = (r.length : Int) by omega, ex]
      by_cases w0 : w = 0
      · rw [if_pos (by omega)]
        simp only [if_pos (show w = 0 ∨ x ≤ 1 from Or.inl w0)]
        exact ⟨s, rfl, hP.2.2, by omega, by omega, ⟨fun _ _ => rfl, rfl⟩⟩
      rw [if_neg (by omega), d_w_id (x := ((r.length + 1 : Nat) : Int) - 1) (by omega) (by omega), show ((r.length + 1 : Nat) : Int) - 1 = (r.length : Int) by omega, d_g_t (by omega), Int.toNat_natCast, hx]
      by_cases x1 : x ≤ 1
      · rw [if_neg (by omega)]
        simp only [if_pos (show w = 0 ∨ x ≤ 1 from Or.inr x1)]
        exact ⟨s, rfl, hP.2.2, by omega, by omega, ⟨fun _ _ => rfl, rfl⟩⟩
      · rw [if_pos (by omega), d_g_t (by omega), d_g_t (by omega), d_w_id (x := x - 1) (by omega) (by omega), d_l_t]
        simp only [if_neg (show ¬ (w = 0 ∨ x ≤ 1) from fun e => e.elim w0 x1)]
        refine ⟨d_si s 50 r.length (x - 1), rfl, ⟨by rw [d_si_i, d_u_t], ⟨by omega, by omega⟩, by rw [d_si_i]; exact m_P_set (Nat.le_refl _) hP.2.2⟩, by rw [List.length_cons]; omega, by omega, fun b hb => by rw [d_si_n (fun e => hb (by rw [e]; decide))], rfl⟩
  rw [if_neg (by omega), if_neg c4]
  obtain ⟨s', σ', g1, g2, g3, g4, g5, g6⟩ := m_212 (t := t) (R := R) (x1 := some a) (x3 := ((q + 1 : Nat) : Int)) (x4 := x4) (d := d) ⟨c0, c3⟩ hP hl
  rw [ex] at g1
  have h5 := g6 (by omega)
  clear g5 g6
  subst h5
  rw [g1]
  have fin : q + 1 ≤ 20000 := by omega
  clear push same
  cases σ with
  | nil => exact ⟨s', rfl, g3, g2, fin, g4⟩
  | cons x r =>
    cases r with
    | nil => exact ⟨s', rfl, g3, g2, fin, g4⟩
    | cons y r => exact ⟨s', rfl, g3, g2, fin, g4⟩
theorem m_loop (hC : m_C t a C len) (hν : ∀ k, k < 8 → c_in (ν k)) : ∀ (f q m : Nat) (σ : List Int) (s : d_S), f ≤ len → q ≤ 20000 → f < m → (∀ k, k < 8 → s.1 49 k = ν k) → m_P (s.1 50) σ → σ.length ≤ 32 → ∃ s', F_X1_reckon_l7 t K m (some a) (σ.length : Int) (q : Int) ((len : Int) - (f : Int)) s = K (((c_go ν C len f (q, σ)).length : Nat) : Int) s' ∧ m_P (s'.1 50) (c_go ν C len f (q, σ)) ∧ (c_go ν C len f (q, σ)).length ≤ 32 ∧ v_fr [50] s s' := by
  intro f
  induction f with
  | zero =>
    intro q m σ s hf hq hm h49 hP hl
    obtain ⟨m, rfl⟩ : ∃ w, m = w + 1 := ⟨m - 1, by omega⟩
    refine ⟨s, ?_, hP, hl, ⟨fun _ _ => rfl, rfl⟩⟩
    show F_X1_reckon_l7_b t K (F_X1_reckon_l7 t K m) _ _ _ _ s = _
    unfold F_X1_reckon_l7_b
    rw [d_b_t, hC.n, d_b_t, if_neg (by omega)]
    rfl
  | succ f ih =>
    intro q m σ s hf hq hm h49 hP hl
    obtain ⟨m, rfl⟩ : ∃ w, m = w + 1 := ⟨m - 1, by omega⟩
    show ∃ s', F_X1_reckon_l7_b t K (F_X1_reckon_l7 t K m) _ _ _ _ s = _ ∧ _
    simp only [c_go]
    by_cases c : q < len
    · rw [if_pos c]
      obtain ⟨s1, g1, g2, g3, g4, g5⟩ := m_step (K := K) (R := F_X1_reckon_l7 t K m) (x4 := (len : Int) - ((f + 1 : Nat) : Int)) hC (fun k hk => ⟨h49 k hk, hν k hk⟩) c ⟨by omega, by omega⟩ hP hl
      obtain ⟨s', b1, b2, b3, b4⟩ := ih (c_st ν C (q, σ)).1 m (c_st ν C (q, σ)).2 s1 (by omega) g4 (by omega) (fun k hk => by rw [g5.1 49 (by decide)]; exact h49 k hk) g2 g3
      refine ⟨s', ?_, b2, b3, ⟨fun x hx => (b4.1 x hx).trans (g5.1 x hx), b4.2.trans g5.2⟩⟩
      rw [g1, ← b1]
      congr 1
      omega
    · rw [if_neg c]
      refine ⟨s, ?_, hP, hl, ⟨fun _ _ => rfl, rfl⟩⟩
      unfold F_X1_reckon_l7_b
      have hl6 := hC.2.1
      rw [d_b_t, hC.n, d_b_t, if_pos (by omega), if_neg (by omega), d_b_t, hC.n, d_b_t, if_neg (by omega)]
theorem m_cd {V : (Nat → Int) → Int} (hC : m_C t a C len) (hV : ∀ ν, t_bn ν → c_Sg ν C 0 len (V ν) D) (hD : D ≤ 32) : v_cd t a V := by
  intro t' ht s hN
  have hC' : m_C t' a C len := by
    obtain ⟨h1, h2, vs, h3, h4⟩ := hC
    exact ⟨h1, h2, vs, ht _ _ h3, h4⟩
  have hb : t_bn (s.1 49) := fun k hk => by have := hN k hk; exact ⟨by omega, by omega⟩
  have hl6 := hC.2.1
  obtain ⟨s', g1, g2, g3, g4⟩ := m_loop (ν := s.1 49) (K := fun x2_u28 s_u28 => if 0 < x2_u28 then d_g (0 ≤ (d_w (x2_u28 - 1)) ∧ (d_w (x2_u28 - 1)) < 32) (some ((s_u28.1 50 (((d_w (x2_u28 - 1))).toNat)), s_u28)) else some (0, s_u28)) hC' hb len 0 d_N [] s (Nat.le_refl _) (by decide) (by rw [d_N_is]; omega) (fun _ _ => rfl) trivial (by decide)
  rw [(hV (s.1 49) hb).go hD] at g1 g2 g3
  rw [Int.sub_self, show ([V (s.1 49)] : List Int).length = 1 from rfl] at g1
  have e1 : s'.1 50 0 = V (s.1 49) := g2.1
  have e2 : c_in (V (s.1 49)) := g2.2.1
  unfold c_in at e2
  refine ⟨s', ?_, g4, ⟨by omega, by omega⟩⟩
  refine Eq.trans g1 ?_
  rw [if_pos (by decide), d_w_id (by decide) (by decide), d_g_t (by decide), show ((((1 : Nat) : Int) - 1).toNat) = 0 from rfl, e1]
end X14

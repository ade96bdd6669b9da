def m_P (f : Nat → Int) : List Int → Prop
  | [] => True
  | x :: σ => f σ.length = x ∧ c_in x ∧ m_P f σ
theorem m_P_set {f : Nat → Int} {v : Int} : ∀ {σ : List Int} {k : Nat}, σ.length ≤ k → m_P f σ → m_P (d_u f k v) σ := by
  intro σ
  induction σ with
  | nil => intro k _ _; trivial
  | cons x σ ih =>
    intro k hk hp
    have hk : σ.length + 1 ≤ k := hk
    exact ⟨by rw [d_u_n (by omega)]; exact hp.1, hp.2.1, ih (by omega) hp.2.2⟩
def m_C (t : Nat → Option p_C) (a : Nat) (C : Nat → Nat × Nat) (len : Nat) : Prop := 80 ≤ a ∧ len ≤ 600 ∧ ∃ vs, t a = some (1, 0, vs) ∧ vs.length = len ∧ ∀ k, k < len → vs[k]? = some (.int (Int32.ofInt ((16 * (C k).2 + (C k).1 : Nat) : Int))) ∧ (C k).1 < 16 ∧ (C k).2 < 20000
def m_bin (d : Nat) : List Int → List Int
  | y :: x :: r => t_op2 d x y :: r
  | r => r
section X14
variable {s s1 s' : d_S} {t : Nat → Option p_C} {a : Nat} {C : Nat → Nat × Nat} {len q d w : Nat} {σ : List Int} {ν : Nat → Int} {D : Nat} {K : Int → d_S → Option (Int × d_S)} {R : Option Nat → Int → Int → Int → d_S → Option (Int × d_S)} {x1 : Option Nat} {x3 x4 : Int}
theorem m_C.n (h : m_C t a C len) : d_tn t a = some (len : Int) := by
  obtain ⟨h1, h2, vs, h3, h4, h5⟩ := h
  unfold d_tn d_ta
  rw [if_pos h1, h3]
  show d_b (some vs) _ = _
  rw [d_b_t, h4, if_pos (by omega)]
theorem m_C.l (h : m_C t a C len) {k : Nat} (hk : k < len) : d_tl t a (k : Int) = some ((16 * (C k).2 + (C k).1 : Nat) : Int) := by
  obtain ⟨h1, h2, vs, h3, h4, h5⟩ := h
  obtain ⟨g1, g2, g3⟩ := h5 k hk
  unfold d_tl d_ta
  rw [if_pos h1, h3]
  show d_b (some vs) _ = _
  rw [d_b_t, if_pos (by omega), Int.toNat_natCast, g1]
  show some ((Int32.ofInt ((16 * (C k).2 + (C k).1 : Nat) : Int)).toInt) = _
  rw [d_ti ⟨by omega, by omega⟩]
theorem m_divL {x y : Int} (hx : c_in x) (hy : c_in y) : d_divL x y = Int.tdiv x y := by
  unfold c_in at hx hy
  unfold d_divL
  rw [Int64.toInt_div, v_ti64 (by omega) (by omega), v_ti64 (by omega) (by omega)]
  have h1 : (x.tdiv y).natAbs ≤ x.natAbs := by
    rw [Int.natAbs_tdiv]
    exact Nat.div_le_self _ _
  generalize x.tdiv y = z at *
  exact Int.bmod_eq_of_le (by omega) (by omega)
theorem m_324 {x y : Int} {σ : List Int} {v : Int} (hP : m_P (s.1 50) (y :: x :: σ)) (hl : σ.length + 2 ≤ 32) : ∃ s', F_X1_reckon_j324 t R x1 ((σ.length + 1 : Nat) : Int) x3 x4 v s = R x1 (((t_hl v :: σ).length : Nat) : Int) x3 (d_w (x4 + 1)) s' ∧ m_P (s'.1 50) (t_hl v :: σ) ∧ v_fr [50] s s' := by
  obtain ⟨s2, hs2⟩ : ∃ z, z = d_si s 50 σ.length (t_hl v) := ⟨_, rfl⟩
  have hin := c_in_hl v
  refine ⟨s2, ?_, ⟨by rw [hs2, d_si_i, d_u_t], hin, ?_⟩, fun b hb => by rw [hs2, d_si_n (fun e => hb (by rw [e]; decide))], by rw [hs2]; rfl⟩
  · unfold F_X1_reckon_j324
    unfold c_in at hin
    rw [P_minL, d_b_t, P_maxL, d_b_t, d_w_id (x := ((σ.length + 1 : Nat) : Int) - 1) (by omega) (by omega), show ((σ.length + 1 : Nat) : Int) - 1 = (σ.length : Int) by omega, d_g_t (by omega), Int.toNat_natCast, show max (-1000000) (min 1000000 v) = t_hl v from rfl, d_w_id (x := t_hl v) (by omega) (by omega), ← hs2, d_l_t]
    rfl
  · rw [hs2, d_si_i]
    exact m_P_set (Nat.le_refl _) hP.2.2.2.2
theorem m_212 (hd : d ≠ 0 ∧ d ≠ 3) (hP : m_P (s.1 50) σ) (hl : σ.length ≤ 32) : ∃ s' σ', F_X1_reckon_j212 t R x1 (σ.length : Int) x3 x4 (d : Int) s = R x1 (σ'.length : Int) x3 (d_w (x4 + 1)) s' ∧ σ'.length ≤ 32 ∧ m_P (s'.1 50) σ' ∧ v_fr [50] s s' ∧ (d < 5 → σ' = σ) ∧ (5 ≤ d → σ' = m_bin d σ) := by
  unfold F_X1_reckon_j212
  by_cases c : d < 5
  · rw [if_pos (by omega)]
    exact ⟨s, σ, rfl, hl, hP, ⟨fun _ _ => rfl, rfl⟩, fun _ => rfl, fun e => by omega⟩
  rw [if_neg (by omega)]
  match σ, hP, hl with
  | [], hP, hl =>
    rw [if_neg (by simp)]
    exact ⟨s, [], rfl, hl, hP, ⟨fun _ _ => rfl, rfl⟩, fun e => by omega, fun _ => rfl⟩
  | [x], hP, hl =>
    rw [if_neg (by simp)]
    exact ⟨s, [x], rfl, hl, hP, ⟨fun _ _ => rfl, rfl⟩, fun e => by omega, fun _ => rfl⟩
  | y :: x :: r, hP, hl =>
    rw [List.length_cons, List.length_cons] at hl ⊢
    have hy : s.1 50 (r.length + 1) = y := hP.1
    have hx : s.1 50 r.length = x := hP.2.2.1
    have iy := hP.2.1
    have ix := hP.2.2.2.1
    have e1 : d_w (((r.length + 1 + 1 : Nat) : Int) + (-1)) = ((r.length + 1 : Nat) : Int) := by rw [d_w_id (by omega) (by omega)]; omega
    have e2 : d_w (((r.length + 1 : Nat) : Int) - 1) = (r.length : Int) := by rw [d_w_id (by omega) (by omega)]; omega
    rw [if_pos (by omega), e1, e2, d_g_t (by omega), d_g_t (by omega), Int.toNat_natCast, Int.toNat_natCast, hx, hy]
    have hin : -1000000000000 ≤ x * y ∧ x * y ≤ 1000000000000 := t_lmul ix iy
    have ix' := ix
    have iy' := iy
    unfold c_in at ix' iy'
    have fin : ∀ v : Int, v = (if d = 5 then x + y else if d = 6 then x - y else if d = 7 then x * y else Int.tdiv x y) → ∃ s' σ', F_X1_reckon_j324 t R x1 ((r.length + 1 : Nat) : Int) x3 x4 v s = R x1 (σ'.length : Int) x3 (d_w (x4 + 1)) s' ∧ σ'.length ≤ 32 ∧ m_P (s'.1 50) σ' ∧ v_fr [50] s s' ∧ (d < 5 → σ' = y :: x :: r) ∧ (5 ≤ d → σ' = t_op2 d x y :: r) := by
      intro v hv
      obtain ⟨s', g1, g2, g3⟩ := m_324 (t := t) (R := R) (x1 := x1) (x3 := x3) (x4 := x4) (v := v) hP (by omega)
      exact ⟨s', t_hl v :: r, g1, by rw [List.length_cons]; omega, g2, g3, fun e => by omega, fun _ => by rw [hv]; rfl⟩
    by_cases c5 : d = 5
    · rw [if_pos (by omega), d_W_id (by omega) (by omega)]
      exact fin _ (by rw [if_pos c5])
    rw [if_neg (by omega)]
    by_cases c6 : d = 6
    · rw [if_pos (by omega), d_W_id (by omega) (by omega)]
      exact fin _ (by rw [if_neg c5, if_pos c6])
    rw [if_neg (by omega)]
    by_cases c7 : d = 7
    · rw [if_pos (by omega), d_W_id (by omega) (by omega)]
      exact fin _ (by rw [if_neg c5, if_neg c6, if_pos c7])
    rw [if_neg (by omega)]
    unfold F_X1_reckon_j322
    by_cases y0 : y = 0
    · rw [if_pos y0]
      exact fin 0 (by rw [if_neg c5, if_neg c6, if_neg c7, y0, Int.tdiv_zero])
    · rw [if_neg y0, d_g_t y0, m_divL ix iy]
      exact fin _ (by rw [if_neg c5, if_neg c6, if_neg c7])
theorem m_step (hC : m_C t a C len) (hν : ∀ k, k < 8 → s.1 49 k = ν k ∧ c_in (ν k)) (hq : q < len) (hx4 : 0 ≤ x4 ∧ x4 < len) (hP : m_P (s.1 50) σ) (hl : σ.length ≤ 32) : ∃ s', F_X1_reckon_l7_b t K R (some a) (σ.length : Int) (q : Int) x4 s = R (some a) (((c_st ν C (q, σ)).2.length : Nat) : Int) (((c_st ν C (q, σ)).1 : Nat) : Int) (x4 + 1) s' ∧ m_P (s'.1 50) (c_st ν C (q, σ)).2 ∧ (c_st ν C (q, σ)).2.length ≤ 32 ∧ (c_st ν C (q, σ)).1 ≤ 20000 ∧ v_fr [50] s s' := by
  have hl6 := hC.2.1
  have hcl := hC.l hq
  have hw : (C q).1 < 16 ∧ (C q).2 < 20000 := by
    obtain ⟨-, -, vs, -, -, h5⟩ := hC
    exact (h5 q hq).2
  unfold F_X1_reckon_l7_b
  rw [d_b_t, hC.n, d_b_t, if_pos (by omega), if_neg (by omega), d_b_t, hC.n, d_b_t, if_pos (by omega), d_b_t, hcl, d_b_t, d_b_t, hcl, d_b_t]
  obtain ⟨d, hd⟩ : ∃ z, z = (C q).1 := ⟨_, rfl⟩
  obtain ⟨w, hwe⟩ : ∃ z, z = (C q).2 := ⟨_, rfl⟩
  unfold c_st
  rw [← hd, ← hwe] at hw ⊢
  have ea : d_and ((16 * w + d : Nat) : Int) 15 = (d : Int) := by rw [v_and15 (by omega), show (16 * w + d) % 16 = d by omega]
  have es : d_shr ((16 * w + d : Nat) : Int) 4 = (w : Int) := by rw [v_sh4 (by omega), show (16 * w + d) / 16 = w by omega]
  have ex : d_w (x4 + 1) = x4 + 1 := d_w_id (by omega) (by omega)
  have eq : d_w ((q : Int) + 1) = ((q + 1 : Nat) : Int) := by rw [d_w_id (by omega) (by omega)]; rfl
  rw [ea, es, ex, eq]
  by_cases c3 : d = 3
  · rw [if_pos (by omega), if_pos c3]
    exact ⟨s, rfl, hP, hl, by show w ≤ 20000; omega, ⟨fun _ _ => rfl, rfl⟩⟩
  rw [if_neg (by omega), if_neg c3]
  have push : ∀ v : Int, c_in v → σ.length < 32 → ∃ s', d_l (d_si s 50 σ.length v) (fun s10 => R (some a) (d_w ((σ.length : Int) + 1)) ((q + 1 : Nat) : Int) (x4 + 1) s10) = R (some a) (((v :: σ).length : Nat) : Int) ((q + 1 : Nat) : Int) (x4 + 1) s' ∧ m_P (s'.1 50) (v :: σ) ∧ (v :: σ).length ≤ 32 ∧ q + 1 ≤ 20000 ∧ v_fr [50] s s' := by
    intro v hv hs
    refine ⟨d_si s 50 σ.length v, by rw [d_l_t, d_w_id (by omega) (by omega)]; rfl, ⟨by rw [d_si_i, d_u_t], hv, by rw [d_si_i]; exact m_P_set (Nat.le_refl _) hP⟩, by rw [List.length_cons]; omega, by omega, fun b hb => by rw [d_si_n (fun e => hb (by rw [e]; decide))], rfl⟩
  have same : ∀ d : Nat, d < 5 → d ≠ 1 → d ≠ 2 → d ≠ 4 → F_X1_reckon_j82 t R (some a) (σ.length : Int) ((q + 1 : Nat) : Int) x4 (d : Int) (w : Int) s = R (some a) (σ.length : Int) ((q + 1 : Nat) : Int) (x4 + 1) s := by
    intro d h1 h2 h3 h4
    unfold F_X1_reckon_j82 F_X1_reckon_j131 F_X1_reckon_j161 F_X1_reckon_j212
    rw [if_neg (by omega), if_neg (by omega), if_neg (by omega), if_pos (by omega), ex]
  by_cases c0 : d = 0
  · rw [if_pos (by omega), if_pos c0]
    by_cases q32 : σ.length < 32
    · rw [if_pos (by omega), d_g_t (by omega), Int.toNat_natCast, if_pos q32]
      exact push (w : Int) ⟨by omega, by omega⟩ q32
    · rw [if_neg (by omega), if_neg q32]
      exact ⟨s, same d (by omega) (by omega) (by omega) (by omega), hP, hl, by show q + 1 ≤ 20000; omega, ⟨fun _ _ => rfl, rfl⟩⟩
  rw [if_neg (by omega), if_neg c0]
  unfold F_X1_reckon_j82
  by_cases c1 : d = 1
  · rw [if_pos (by omega), if_pos c1]
    have skip : F_X1_reckon_j131 t R (some a) (σ.length : Int) ((q + 1 : Nat) : Int) x4 (d : Int) (w : Int) s = R (some a) (σ.length : Int) ((q + 1 : Nat) : Int) (x4 + 1) s := by
      unfold F_X1_reckon_j131 F_X1_reckon_j161 F_X1_reckon_j212
      rw [if_neg (by omega), if_neg (by omega), if_pos (by omega), ex]
    by_cases q32 : σ.length < 32
    · rw [if_pos (by omega), if_neg (by omega)]
      by_cases q8 : w < 8
      · obtain ⟨n1, n2⟩ := hν w q8
        rw [if_pos (by omega), d_g_t (by omega), d_g_t (by omega), Int.toNat_natCast, Int.toNat_natCast, n1, if_pos ⟨q32, q8⟩, ex]
        exact push (ν w) n2 q32
      · rw [if_neg (by omega), skip, if_neg (fun e => q8 e.2)]
        exact ⟨s, rfl, hP, hl, by show q + 1 ≤ 20000; omega, ⟨fun _ _ => rfl, rfl⟩⟩
    · rw [if_neg (by omega), skip, if_neg (fun e => q32 e.1)]
      exact ⟨s, rfl, hP, hl, by show q + 1 ≤ 20000; omega, ⟨fun _ _ => rfl, rfl⟩⟩
  rw [if_neg (by omega), if_neg c1]
  unfold F_X1_reckon_j131
  by_cases c2 : d = 2
  · rw [if_pos (by omega), if_pos c2]
    match σ, hP, hl with
    | [], hP, hl =>
      rw [if_neg (by simp)]
      unfold F_X1_reckon_j161 F_X1_reckon_j212
      rw [if_neg (by omega), if_pos (by omega), ex]
      exact ⟨s, rfl, hP, hl, by show q + 1 ≤ 20000; omega, ⟨fun _ _ => rfl, rfl⟩⟩
    | x :: r, hP, hl =>
      rw [List.length_cons] at hl ⊢
      have hx : s.1 50 r.length = x := hP.1
      have ix := hP.2.1
      unfold c_in at ix
      rw [if_pos (by omega), d_w_id (x := ((r.length + 1 : Nat) : Int) - 1) (by omega) (by omega), show ((r.length + 1 : Nat) : Int) - 1 = (r.length : Int) by omega, d_g_t (by omega), d_g_t (by omega), Int.toNat_natCast, hx, d_w_id (x := -x) (by omega) (by omega), d_l_t, ex]
      refine ⟨d_si s 50 r.length (-x), rfl, ⟨by rw [d_si_i, d_u_t], ⟨by omega, by omega⟩, by rw [d_si_i]; exact m_P_set (Nat.le_refl _) hP.2.2⟩, by rw [List.length_cons]; omega, by show q + 1 ≤ 20000; omega, fun b hb => by rw [d_si_n (fun e => hb (by rw [e]; decide))], rfl⟩
  rw [if_neg (by omega), if_neg c2]
  unfold F_X1_reckon_j161
  by_cases c4 : d = 4
  · rw [if_pos (by omega), if_pos c4]
    match σ, hP, hl with
    | [], hP, hl =>
      rw [if_neg (by simp)]
      unfold F_X1_reckon_j212
      rw [if_pos (by omega), ex]
      exact ⟨s, rfl, hP, hl, by show q + 1 ≤ 20000; omega, ⟨fun _ _ => rfl, rfl⟩⟩
    | x :: r, hP, hl =>
      rw [List.length_cons] at hl ⊢
      have hx : s.1 50 r.length = x := hP.1
      have ix := hP.2.1
      unfold c_in at ix
      rw [if_pos (by omega), d_w_id (x := ((r.length + 1 : Nat) : Int) + (-1)) (by omega) (by omega), show ((r.length + 1 : Nat) : Int) + (-1) = (r.length : Int) by omega, ex]
      by_cases w0 : w = 0
      · rw [if_pos (by omega)]
        simp only [if_pos (show w = 0 ∨ x ≤ 1 from Or.inl w0)]
        exact ⟨s, rfl, hP.2.2, by omega, by omega, ⟨fun _ _ => rfl, rfl⟩⟩
      rw [if_neg (by omega), d_w_id (x := ((r.length + 1 : Nat) : Int) - 1) (by omega) (by omega), show ((r.length + 1 : Nat) : Int) - 1 = (r.length : Int) by omega, d_g_t (by omega), Int.toNat_natCast, hx]
      by_cases x1 : x ≤ 1
      · rw [if_neg (by omega)]
        simp only [if_pos (show w = 0 ∨ x ≤ 1 from Or.inr x1)]
        exact ⟨s, rfl, hP.2.2, by omega, by omega, ⟨fun _ _ => rfl, rfl⟩⟩
      · rw [if_pos (by omega), d_g_t (by omega), d_g_t (by omega), d_w_id (x := x - 1) (by omega) (by omega), d_l_t]
        simp only [if_neg (show ¬ (w = 0 ∨ x ≤ 1) from fun e => e.elim w0 x1)]
        refine ⟨d_si s 50 r.length (x - 1), rfl, ⟨by rw [d_si_i, d_u_t], ⟨by omega, by omega⟩, by rw [d_si_i]; exact m_P_set (Nat.le_refl _) hP.2.2⟩, by rw [List.length_cons]; omega, by omega, fun b hb => by rw [d_si_n (fun e => hb (by rw [e]; decide))], rfl⟩
  rw [if_neg (by omega), if_neg c4]
  obtain ⟨s', σ', g1, g2, g3, g4, g5, g6⟩ := m_212 (t := t) (R := R) (x1 := some a) (x3 := ((q + 1 : Nat) : Int)) (x4 := x4) (d := d) ⟨c0, c3⟩ hP hl
  rw [ex] at g1
  have h5 := g6 (by omega)
  clear g5 g6
  subst h5
  rw [g1]
  have fin : q + 1 ≤ 20000 := by omega
  clear push same
  cases σ with
  | nil => exact ⟨s', rfl, g3, g2, fin, g4⟩
  | cons x r =>
    cases r with
    | nil => exact ⟨s', rfl, g3, g2, fin, g4⟩
    | cons y r => exact ⟨s', rfl, g3, g2, fin, g4⟩
theorem m_loop (hC : m_C t a C len) (hν : ∀ k, k < 8 → c_in (ν k)) : ∀ (f q m : Nat) (σ : List Int) (s : d_S), f ≤ len → q ≤ 20000 → f < m → (∀ k, k < 8 → s.1 49 k = ν k) → m_P (s.1 50) σ → σ.length ≤ 32 → ∃ s', F_X1_reckon_l7 t K m (some a) (σ.length : Int) (q : Int) ((len : Int) - (f : Int)) s = K (((c_go ν C len f (q, σ)).length : Nat) : Int) s' ∧ m_P (s'.1 50) (c_go ν C len f (q, σ)) ∧ (c_go ν C len f (q, σ)).length ≤ 32 ∧ v_fr [50] s s' := by
  intro f
  induction f with
  | zero =>
    intro q m σ s hf hq hm h49 hP hl
    obtain ⟨m, rfl⟩ : ∃ w, m = w + 1 := ⟨m - 1, by omega⟩
    refine ⟨s, ?_, hP, hl, ⟨fun _ _ => rfl, rfl⟩⟩
    show F_X1_reckon_l7_b t K (F_X1_reckon_l7 t K m) _ _ _ _ s = _
    unfold F_X1_reckon_l7_b
    rw [d_b_t, hC.n, d_b_t, if_neg (by omega)]
    rfl
  | succ f ih =>
    intro q m σ s hf hq hm h49 hP hl
    obtain ⟨m, rfl⟩ : ∃ w, m = w + 1 := ⟨m - 1, by omega⟩
    show ∃ s', F_X1_reckon_l7_b t K (F_X1_reckon_l7 t K m) _ _ _ _ s = _ ∧ _
    simp only [c_go]
    by_cases c : q < len
    · rw [if_pos c]
      obtain ⟨s1, g1, g2, g3, g4, g5⟩ := m_step (K := K) (R := F_X1_reckon_l7 t K m) (x4 := (len : Int) - ((f + 1 : Nat) : Int)) hC (fun k hk => ⟨h49 k hk, hν k hk⟩) c ⟨by omega, by omega⟩ hP hl
      obtain ⟨s', b1, b2, b3, b4⟩ := ih (c_st ν C (q, σ)).1 m (c_st ν C (q, σ)).2 s1 (by omega) g4 (by omega) (fun k hk => by rw [g5.1 49 (by decide)]; exact h49 k hk) g2 g3
      refine ⟨s', ?_, b2, b3, ⟨fun x hx => (b4.1 x hx).trans (g5.1 x hx), b4.2.trans g5.2⟩⟩
      rw [g1, ← b1]
      congr 1
      omega
    · rw [if_neg c]
      refine ⟨s, ?_, hP, hl, ⟨fun _ _ => rfl, rfl⟩⟩
      unfold F_X1_reckon_l7_b
      have hl6 := hC.2.1
      rw [d_b_t, hC.n, d_b_t, if_pos (by omega), if_neg (by omega), d_b_t, hC.n, d_b_t, if_neg (by omega)]
theorem m_cd {V : (Nat → Int) → Int} (hC : m_C t a C len) (hV : ∀ ν, t_bn ν → c_Sg ν C 0 len (V ν) D) (hD : D ≤ 32) : v_cd t a V := by
  intro t' ht s hN
  have hC' : m_C t' a C len := by
    obtain ⟨h1, h2, vs, h3, h4⟩ := hC
    exact ⟨h1, h2, vs, ht _ _ h3, h4⟩
  have hb : t_bn (s.1 49) := fun k hk => by have := hN k hk; exact ⟨by omega, by omega⟩
  have hl6 := hC.2.1
  obtain ⟨s', g1, g2, g3, g4⟩ := m_loop (ν := s.1 49) (K := fun x2_u28 s_u28 => if 0 < x2_u28 then d_g (0 ≤ (d_w (x2_u28 - 1)) ∧ (d_w (x2_u28 - 1)) < 32) (some ((s_u28.1 50 (((d_w (x2_u28 - 1))).toNat)), s_u28)) else some (0, s_u28)) hC' hb len 0 d_N [] s (Nat.le_refl _) (by decide) (by rw [d_N_is]; omega) (fun _ _ => rfl) trivial (by decide)
  rw [(hV (s.1 49) hb).go hD] at g1 g2 g3
  rw [Int.sub_self, show ([V (s.1 49)] : List Int).length = 1 from rfl] at g1
  have e1 : s'.1 50 0 = V (s.1 49) := g2.1
  have e2 : c_in (V (s.1 49)) := g2.2.1
  unfold c_in at e2
  refine ⟨s', ?_, g4, ⟨by omega, by omega⟩⟩
  refine Eq.trans g1 ?_
  rw [if_pos (by decide), d_w_id (by decide) (by decide), d_g_t (by decide), show ((((1 : Nat) : Int) - 1).toNat) = 0 from rfl, e1]
end X14
section X15
variable {s s1 s' : d_S} {z1 base : Nat} {x : Int} {ν : Nat → Int} {K : d_S → Option (Int × d_S)}
theorem n_app : ∀ {f : Nat → Int} {a b : List Int}, m_P f (a ++ b) → m_P f b := by
  intro f a
  induction a with
  | nil => intro b h; exact h
  | cons x a ih => intro b h; exact ih h.2.2
theorem n_at : ∀ {f : Nat → Int} {σ : List Int} {i : Nat} {x : Int}, m_P f σ → σ.reverse[i]? = some x → f i = x ∧ c_in x := by
  intro f σ
  induction σ with
  | nil => intro i x _ h; simp at h
  | cons y σ ih =>
    intro i x h hx
    rw [List.reverse_cons] at hx
    by_cases q : i < σ.reverse.length
    · rw [List.getElem?_append_left q] at hx
      exact ih h.2.2 hx
    · have hl : σ.reverse.length = σ.length := List.length_reverse
      rw [List.getElem?_append_right (by omega)] at hx
      have hi : i - σ.reverse.length = 0 := by
        by_cases z : i - σ.reverse.length = 0
        · exact z
        · rw [List.getElem?_eq_none (by simp only [List.length_cons, List.length_nil]; omega)] at hx; cases hx
      rw [hi] at hx
      have e : y = x := by simpa using hx
      have : i = σ.length := by omega
      subst this
      rw [← e]
      exact ⟨h.1, h.2.1⟩
theorem P_held {v : Int} (hv : -1000000000000 ≤ v ∧ v ≤ 1000000000000) : F_X12_held v = some (t_hl v) := by
  unfold F_X12_held t_hl
  by_cases c1 : 1000000 < v
  · rw [if_pos c1]; congr 1; omega
  · rw [if_neg c1]
    by_cases c2 : v < -1000000
    · rw [if_pos c2]; congr 1; omega
    · rw [if_neg c2]; congr 1; omega
theorem n_tdiv {x y : Int} (hx : c_in x) : t_hl (Int.tdiv x y) = Int.tdiv x y := by
  have h1 : (x.tdiv y).natAbs ≤ x.natAbs := by
    rw [Int.natAbs_tdiv]
    exact Nat.div_le_self _ _
  unfold c_in at hx
  unfold t_hl
  generalize x.tdiv y = z at *
  omega
theorem P_two {o : Nat} {x y : Int} (ho : 4 ≤ o) (hx : c_in x) (hy : c_in y) : F_X12_two (o : Int) x y = some (t_op2 (o + 1) x y) := by
  have hm := t_lmul hx hy
  have hx' := hx
  have hy' := hy
  unfold c_in at hx' hy'
  unfold F_X12_two t_op2
  by_cases c4 : o = 4
  · rw [if_pos (by omega), d_W_id (by omega) (by omega), P_held (by omega), d_b_t, if_pos (by omega)]
  rw [if_neg (by omega), if_neg (show ¬ o + 1 = 5 by omega)]
  by_cases c5 : o = 5
  · rw [if_pos (by omega), d_W_id (by omega) (by omega), P_held (by omega), d_b_t, if_pos (by omega)]
  rw [if_neg (by omega), if_neg (show ¬ o + 1 = 6 by omega)]
  by_cases c6 : o = 6
  · rw [if_pos (by omega), d_W_id (by omega) (by omega), P_held (by omega), d_b_t, if_pos (by omega)]
  rw [if_neg (by omega), if_neg (show ¬ o + 1 = 7 by omega)]
  by_cases y0 : y = 0
  · rw [if_pos y0, y0, Int.tdiv_zero]; rfl
  · rw [if_neg y0, d_g_t y0, m_divL hx hy, n_tdiv hx]
theorem n_loop (hν : ∀ k, k < 8 → s.1 71 k = ν (t_rn k) ∧ c_in (s.1 71 k)) (hz : z1 + 2 < 3108) {to : Nat} (hto : s.1 67 (z1 + 2) = (to : Int)) : ∀ (E : List (Nat × Nat)) (i m : Nat) (σ σ' : List Int) (g : Nat → Int), (∀ j, j < E.length → ∃ e, E[j]? = some e ∧ s.1 67 (base + 2 * (i + j)) = ((e.1 : Nat) : Int) ∧ s.1 67 (base + 2 * (i + j) + 1) = ((e.2 : Nat) : Int) ∧ e.1 < 8 ∧ e.2 < 10000) → to = i + E.length → base + 2 * to ≤ 3108 → m_P g σ → σ.length + E.length ≤ 329 → r_evo ν E σ = some σ' → E.length < m → ∃ g', F_X12_worked_l37 K m (z1 : Int) (base : Int) (σ.length : Int) (i : Int) (s.1, s.2.1, g) = K (s.1, s.2.1, g') ∧ m_P g' σ' := by
  intro E
  induction E with
  | nil =>
    intro i m σ σ' g hE hi hb hP hl hr hm
    obtain ⟨m, rfl⟩ : ∃ w, m = w + 1 := ⟨m - 1, by omega⟩
    have e : σ = σ' := Option.some.inj hr
    subst e
    refine ⟨g, ?_, hP⟩
    rw [List.length_nil] at hi
    show F_X12_worked_l37_b K (F_X12_worked_l37 K m) _ _ _ _ _ = _
    unfold F_X12_worked_l37_b
    rw [d_w_id (by omega) (by omega), d_g_t (by omega), show ((z1 : Int) + 2).toNat = z1 + 2 by omega, hto, if_neg (by omega)]
  | cons e E ih =>
    intro i m σ σ' g hE hi hb hP hl hr hm
    obtain ⟨m, rfl⟩ : ∃ w, m = w + 1 := ⟨m - 1, by omega⟩
    rw [List.length_cons] at hi hl hm
    obtain ⟨e', h1, h2, h3, h4, h5⟩ := hE 0 (by rw [List.length_cons]; omega)
    have ee : e = e' := by simpa using h1
    subst ee
    have h2 : s.1 67 (base + 2 * i) = ((e.1 : Nat) : Int) := h2
    have h3 : s.1 67 (base + 2 * i + 1) = ((e.2 : Nat) : Int) := h3
    have hE' : ∀ j, j < E.length → ∃ e, E[j]? = some e ∧ s.1 67 (base + 2 * (i + 1 + j)) = ((e.1 : Nat) : Int) ∧ s.1 67 (base + 2 * (i + 1 + j) + 1) = ((e.2 : Nat) : Int) ∧ e.1 < 8 ∧ e.2 < 10000 := by
      intro j hj
      obtain ⟨e2, g1, g2⟩ := hE (j + 1) (by rw [List.length_cons]; omega)
      refine ⟨e2, by simpa using g1, ?_⟩
      rw [show i + 1 + j = i + (j + 1) by omega]
      exact g2
    simp only [r_evo] at hr
    obtain ⟨τ, hτ⟩ : ∃ τ, r_sto ν σ e = some τ := by
      cases q : r_sto ν σ e with
      | none => rw [q] at hr; cases hr
      | some τ => exact ⟨τ, rfl⟩
    rw [hτ] at hr
    have hr : r_evo ν E τ = some σ' := hr
    have htl := r_sto_len hτ
    have step : ∀ g2 : Nat → Int, m_P g2 τ → ∃ g', F_X12_worked_l37 K m (z1 : Int) (base : Int) (τ.length : Int) ((i + 1 : Nat) : Int) (s.1, s.2.1, g2) = K (s.1, s.2.1, g') ∧ m_P g' σ' := fun g2 hg2 => ih (i + 1) m τ σ' g2 hE' (by omega) hb hg2 (by omega) hr (by omega)
    have ei : d_w ((i : Int) + 1) = ((i + 1 : Nat) : Int) := by rw [d_w_id (by omega) (by omega)]; rfl
    show ∃ g', F_X12_worked_l37_b K (F_X12_worked_l37 K m) _ _ _ _ _ = _ ∧ _
    unfold F_X12_worked_l37_b
    have ep : d_w ((base : Int) + 2 * (i : Int)) = ((base + 2 * i : Nat) : Int) := by rw [d_w_id (by omega) (by omega)]; omega
    have eq : d_w ((base : Int) + 2 * (i : Int) + 1) = ((base + 2 * i + 1 : Nat) : Int) := by rw [d_w_id (by omega) (by omega)]; omega
    rw [d_w_id (x := (z1 : Int) + 2) (by omega) (by omega), d_g_t (by omega), show ((z1 : Int) + 2).toNat = z1 + 2 by omega, hto, if_pos (by omega), ep, eq, d_g_t (by omega), Int.toNat_natCast, h2, d_l_t, d_g_t (by omega), Int.toNat_natCast, h3, d_l_t]
    unfold r_sto at hτ
    by_cases c0 : e.1 = 0
    · rw [if_pos c0] at hτ
      have hτ := Option.some.inj hτ
      subst hτ
      unfold F_X12_worked_j111
      rw [if_neg (by omega), if_pos (by omega), d_g_t (by omega), d_l_t, Int.toNat_natCast, d_w_id (x := (σ.length : Int) + 1) (by omega) (by omega), ei]
      exact step (d_u g σ.length ((e.2 : Nat) : Int)) ⟨d_u_t, ⟨by omega, by omega⟩, m_P_set (Nat.le_refl _) hP⟩
    rw [if_neg c0] at hτ
    by_cases c1 : e.1 = 1
    · rw [if_pos c1] at hτ
      have h8 : e.2 < 8 := by
        by_cases q : e.2 < 8
        · exact q
        · rw [if_neg q] at hτ; cases hτ
      rw [if_pos h8] at hτ
      have hτ := Option.some.inj hτ
      subst hτ
      obtain ⟨n1, n2⟩ := hν e.2 h8
      unfold F_X12_worked_j111
      rw [if_neg (by omega), if_neg (by omega), d_g_t (by omega), d_g_t (by omega), d_l_t, Int.toNat_natCast, Int.toNat_natCast, d_w_id (x := (σ.length : Int) + 1) (by omega) (by omega), ei]
      exact step (d_u g σ.length (s.1 71 e.2)) ⟨by rw [d_u_t, n1], by rw [← n1]; exact n2, m_P_set (Nat.le_refl _) hP⟩
    rw [if_neg c1] at hτ
    rw [if_pos (by omega)]
    by_cases c2 : e.1 = 2
    · rw [if_pos c2] at hτ
      have h21 : 1 ≤ e.2 := by
        by_cases q : 1 ≤ e.2
        · exact q
        · rw [if_neg q] at hτ; cases hτ
      rw [if_pos h21] at hτ
      obtain ⟨z, r, hd⟩ : ∃ z r, σ.drop e.2 = z :: r := by
        cases q : σ.drop e.2 with
        | nil => rw [q] at hτ; cases hτ
        | cons z r => exact ⟨z, r, rfl⟩
      rw [hd] at hτ
      have hτ := Option.some.inj hτ
      have hlen : σ.length = e.2 + r.length + 1 := by
        have := congrArg List.length hd
        rw [List.length_drop, List.length_cons] at this
        omega
      have hta : σ.take e.2 ++ z :: r = σ := by rw [← hd]; exact List.take_append_drop e.2 σ
      obtain ⟨vs, hvs⟩ : ∃ w, w = (σ.take e.2).reverse := ⟨_, rfl⟩
      rw [← hvs] at hτ
      have hvl : vs.length = e.2 := by rw [hvs, List.length_reverse, List.length_take]; omega
      have hrev : σ.reverse = r.reverse ++ (z :: vs) := by
        rw [← hta, List.reverse_append, List.reverse_cons, hvs]; simp
      have hPr : m_P g (z :: r) := n_app (a := σ.take e.2) (by rw [hta]; exact hP)
      have hvi : ∀ (j : Nat) (y : Int), vs[j]? = some y → g (r.length + 1 + j) = y ∧ c_in y := by
        intro j y hy
        refine n_at hP ?_
        rw [hrev, List.getElem?_append_right (by rw [List.length_reverse]; omega), List.length_reverse, show r.length + 1 + j - r.length = j + 1 by omega]
        simpa using hy
      have hgd : ∀ j, j < vs.length → g (r.length + 1 + j) = vs.getD j 0 ∧ c_in (vs.getD j 0) := by
        intro j hj
        have := hvi j vs[j] (List.getElem?_eq_getElem hj)
        rw [List.getD_eq_getElem?_getD, List.getElem?_eq_getElem hj]
        exact this
      have e5 : d_w ((σ.length : Int) - ((e.2 : Nat) : Int)) = ((r.length + 1 : Nat) : Int) := by rw [d_w_id (by omega) (by omega)]; omega
      have e6 : d_w (((r.length + 1 : Nat) : Int) - 1) = (r.length : Int) := by rw [d_w_id (by omega) (by omega)]; omega
      have hgz : g r.length = z := hPr.1
      have iz := hPr.2.1
      unfold c_in at iz
      have fin : ∀ v : Int, v = r_pk vs z → c_in v → ∃ g', F_X12_worked_l37 K m (z1 : Int) (base : Int) ((r.length + 1 : Nat) : Int) ((i + 1 : Nat) : Int) (s.1, s.2.1, d_u g r.length v) = K (s.1, s.2.1, g') ∧ m_P g' σ' := by
        intro v hv hc
        have := step (d_u g r.length v) (by rw [← hτ]; exact ⟨by rw [d_u_t, hv], by rw [← hv]; exact hc, m_P_set (Nat.le_refl _) hPr.2.2⟩)
        rw [← hτ, List.length_cons] at this
        exact this
      rw [if_pos (by omega), e5, e6, d_g_t (by omega), Int.toNat_natCast]
      show ∃ g', (if g r.length < 1 then _ else _) = _ ∧ _
      rw [hgz]
      by_cases z1' : z < 1
      · have e7 : d_w (((r.length + 1 : Nat) : Int) - 1 + 1) = ((r.length + 1 : Nat) : Int) := by rw [d_w_id (by omega) (by omega)]; omega
        rw [if_pos z1', e7, d_g_t (by omega), d_g_t (by omega), d_l_t, ei, Int.toNat_natCast]
        have hh := hgd 0 (by omega)
        exact fin (g (r.length + 1)) (by unfold r_pk; rw [if_pos z1']; exact hh.1) (by rw [show r.length + 1 = r.length + 1 + 0 from rfl, hh.1]; exact hh.2)
      rw [if_neg z1', d_g_t (by omega)]
      unfold F_X12_worked_j180
      show ∃ g', (if ((e.2 : Nat) : Int) < g r.length then _ else _) = _ ∧ _
      rw [hgz]
      by_cases z2 : ((e.2 : Nat) : Int) < z
      · have e7 : d_w (((r.length + 1 : Nat) : Int) - 1 + ((e.2 : Nat) : Int)) = ((r.length + 1 + (e.2 - 1) : Nat) : Int) := by rw [d_w_id (by omega) (by omega)]; omega
        rw [if_pos z2, e7, d_g_t (by omega), e6, d_g_t (by omega), d_l_t, ei, Int.toNat_natCast, Int.toNat_natCast]
        have hh := hgd (e.2 - 1) (by omega)
        exact fin (g (r.length + 1 + (e.2 - 1))) (by unfold r_pk; rw [if_neg z1', if_pos (by omega), hvl]; exact hh.1) (by rw [hh.1]; exact hh.2)
      · obtain ⟨y, hy⟩ : ∃ y : Nat, z = ((y + 1 : Nat) : Int) := ⟨(z - 1).toNat, by omega⟩
        have e7 : d_w (((r.length + 1 : Nat) : Int) - 1 + d_w z) = ((r.length + 1 + y : Nat) : Int) := by rw [d_w_id (x := z) (by omega) (by omega), d_w_id (by omega) (by omega)]; omega
        rw [if_neg z2, d_g_t (by omega)]
        show ∃ g', d_g (0 ≤ d_w (((r.length + 1 : Nat) : Int) - 1 + d_w (g r.length)) ∧ d_w (((r.length + 1 : Nat) : Int) - 1 + d_w (g r.length)) < 330) (d_g _ (d_l (d_sl _ _ (g (d_w (((r.length + 1 : Nat) : Int) - 1 + d_w (g r.length))).toNat)) _)) = _ ∧ _
        rw [hgz, e7, d_g_t (by omega), e6, d_g_t (by omega), d_l_t, ei, Int.toNat_natCast, Int.toNat_natCast]
        have hh := hgd y (by omega)
        exact fin (g (r.length + 1 + y)) (by unfold r_pk; rw [if_neg z1', if_neg (by omega), show z.toNat - 1 = y by omega]; exact hh.1) (by rw [hh.1]; exact hh.2)
    rw [if_neg c2] at hτ
    rw [if_neg (by omega)]
    by_cases c3 : e.1 = 3
    · rw [if_pos c3] at hτ
      match σ, hP, hτ, hl with
      | [], _, hτ, _ => cases hτ
      | x :: r, hP, hτ, hl =>
        have hτ := Option.some.inj hτ
        rw [List.length_cons] at hl ⊢
        have hx : g r.length = x := hP.1
        have ix := hP.2.1
        unfold c_in at ix
        rw [if_pos (by omega), d_w_id (x := ((r.length + 1 : Nat) : Int) - 1) (by omega) (by omega), show ((r.length + 1 : Nat) : Int) - 1 = (r.length : Int) by omega, d_g_t (by omega), d_g_t (by omega), Int.toNat_natCast]
        show ∃ g', d_l (d_sl _ r.length (d_W (-(g r.length)))) _ = _ ∧ _
        rw [hx, d_W_id (by omega) (by omega), d_l_t, ei]
        have := step (d_u g r.length (-x)) (by rw [← hτ]; exact ⟨d_u_t, ⟨by omega, by omega⟩, m_P_set (Nat.le_refl _) hP.2.2⟩)
        rw [← hτ, List.length_cons] at this
        exact this
    rw [if_neg c3] at hτ
    rw [if_neg (by omega)]
    match σ, hP, hτ, hl with
    | [], _, hτ, _ => cases hτ
    | [x], _, hτ, _ => cases hτ
    | y :: x :: r, hP, hτ, hl =>
      have hτ := Option.some.inj hτ
      rw [List.length_cons, List.length_cons] at hl ⊢
      have hy : g (r.length + 1) = y := hP.1
      have hx : g r.length = x := hP.2.2.1
      have e1 : d_w (((r.length + 1 + 1 : Nat) : Int) + (-1)) = ((r.length + 1 : Nat) : Int) := by rw [d_w_id (by omega) (by omega)]; omega
      have e2 : d_w (((r.length + 1 : Nat) : Int) - 1) = (r.length : Int) := by rw [d_w_id (by omega) (by omega)]; omega
      rw [e1, e2, d_g_t (by omega), d_g_t (by omega), Int.toNat_natCast, Int.toNat_natCast]
      show ∃ g', d_b (F_X12_two ((e.1 : Nat) : Int) (g r.length) (g (r.length + 1))) _ = _ ∧ _
      rw [hx, hy, P_two (by omega) hP.2.2.2.1 hP.2.1, d_b_t, d_g_t (by omega), d_l_t, ei]
      have := step (d_u g r.length (t_op2 (e.1 + 1) x y)) (by rw [← hτ]; exact ⟨d_u_t, c_in_op _ _ _, m_P_set (Nat.le_refl _) hP.2.2.2.2⟩)
      rw [← hτ, List.length_cons] at this
      exact this
def n_L (T : Nat → Int) (k : Nat) (so : Int) (f0 : Nat) (E : List (Nat × Nat)) : Prop := k < 4 ∧ ∃ (c cnt : Nat), cnt ≤ 24 ∧ c < cnt ∧ T (777 * k) = (cnt : Int) ∧ (∀ j, j < c → T (777 * k + 1 + 7 * j) ≠ so) ∧ T (777 * k + 1 + 7 * c) = so ∧ T (777 * k + 2 + 7 * c) = (f0 : Int) ∧ T (777 * k + 3 + 7 * c) = ((f0 + E.length : Nat) : Int) ∧ f0 + E.length ≤ 304 ∧ ∀ i, i < E.length → ∃ e, E[i]? = some e ∧ T (777 * k + 169 + 2 * (f0 + i)) = ((e.1 : Nat) : Int) ∧ T (777 * k + 169 + 2 * (f0 + i) + 1) = ((e.2 : Nat) : Int) ∧ e.1 < 8 ∧ e.2 < 10000
def t_ri (k : Nat) : Nat := if k = 0 then 3 else if k = 1 then 0 else if k = 2 then 1 else if k = 3 then 2 else k
theorem t_ri_rn : ∀ k, k < 8 → t_ri (t_rn k) = k := by decide
theorem t_ri_8 : ∀ k, k < 8 → t_ri k < 8 := by decide
theorem n_sayl {K1 : Int → Int → d_S → Option (Int × d_S)} {K2 : Int → Int → Int → d_S → Option (Int × d_S)} {k cnt c : Nat} {so w top : Int} (hk : k < 4) (hcnt : cnt ≤ 24) (hT : s.1 67 (777 * k) = (cnt : Int)) : ∀ (j i m : Nat), i + j = c → j < m → c ≤ cnt → (∀ a, a < c → s.1 67 (777 * k + 1 + 7 * a) ≠ so) → (c < cnt → s.1 67 (777 * k + 1 + 7 * c) = so) → F_X12_says_l3 K1 K2 m (k : Int) so w top (i : Int) s = if c < cnt then K2 (k : Int) top (c : Int) s else K1 w top s := by
  intro j
  induction j with
  | zero =>
    intro i m hi hm hc hno hyes
    obtain ⟨m, rfl⟩ : ∃ w, m = w + 1 := ⟨m - 1, by omega⟩
    have e0 : d_w (777 * (k : Int)) = ((777 * k : Nat) : Int) := by rw [d_w_id (by omega) (by omega)]; omega
    have e1 : d_w (777 * (k : Int) + 1 + 7 * (i : Int)) = ((777 * k + 1 + 7 * i : Nat) : Int) := by rw [d_w_id (by omega) (by omega)]; omega
    have ei : i = c := by omega
    subst ei
    show F_X12_says_l3_b K1 K2 (F_X12_says_l3 K1 K2 m) _ _ _ _ _ s = _
    unfold F_X12_says_l3_b
    rw [if_neg (by omega), e0, d_g_t (by omega), Int.toNat_natCast, hT]
    by_cases q : i < cnt
    · rw [if_pos (by omega), e1, d_g_t (by omega), Int.toNat_natCast, hyes q, if_pos rfl, if_pos q]
    · rw [if_neg (by omega), if_neg q]
  | succ j ih =>
    intro i m hi hm hc hno hyes
    obtain ⟨m, rfl⟩ : ∃ w, m = w + 1 := ⟨m - 1, by omega⟩
    have e0 : d_w (777 * (k : Int)) = ((777 * k : Nat) : Int) := by rw [d_w_id (by omega) (by omega)]; omega
    have e1 : d_w (777 * (k : Int) + 1 + 7 * (i : Int)) = ((777 * k + 1 + 7 * i : Nat) : Int) := by rw [d_w_id (by omega) (by omega)]; omega
    show F_X12_says_l3_b K1 K2 (F_X12_says_l3 K1 K2 m) _ _ _ _ _ s = _
    unfold F_X12_says_l3_b
    rw [if_neg (by omega), e0, d_g_t (by omega), Int.toNat_natCast, hT, if_pos (by omega), e1, d_g_t (by omega), Int.toNat_natCast, if_neg (hno i (by omega)), d_w_id (x := (i : Int) + 1) (by omega) (by omega)]
    exact ih (i + 1) m (by omega) (by omega) hc hno hyes
theorem n_none {T : Nat → Int} {k cnt : Nat} {so : Int} (hk : k < 4) (hcnt : cnt ≤ 24) (hT : T (777 * k) = (cnt : Int)) (hno : ∀ a, a < cnt → T (777 * k + 1 + 7 * a) ≠ so) : v_RS T (k : Int) so none := by
  intro s w top h1 h2 h3 h4 h5
  have hT' : ∀ j, j < 777 → s.1 67 (777 * k + j) = T (777 * k + j) := fun j hj => h1 _ (by omega) (by omega)
  refine ⟨s, ?_, rfl, rfl⟩
  unfold F_X12_says
  refine Eq.trans (n_sayl (c := cnt) (cnt := cnt) hk hcnt ((hT' 0 (by omega)).trans hT) cnt 0 d_N (Nat.zero_add _) (by rw [d_N_is]; omega) (Nat.le_refl _) (fun a ha => by rw [show 777 * k + 1 + 7 * a = 777 * k + (1 + 7 * a) by omega, hT' _ (by omega)]; rw [show 777 * k + (1 + 7 * a) = 777 * k + 1 + 7 * a by omega]; exact hno a ha) (fun q => absurd q (Nat.lt_irrefl _))) ?_
  rw [if_neg (Nat.lt_irrefl _)]
  rw [P_cut h3 h4, d_b_t]
theorem n_some {T : Nat → Int} {k f0 : Nat} {so : Int} {E : List (Nat × Nat)} {V : (Nat → Int) → Int} (hL : n_L T k so f0 E) (hE : ∀ ν, t_bn ν → r_evo ν E [] = some [V ν]) : v_RS T (k : Int) so (some (fun f => V (fun j => f (t_ri j)))) := by
  intro s w top h1 h2 h3 h4 h5
  obtain ⟨hk, c, cnt, hcnt, hc, g1, g2, g3, g4, g5, g6, g7⟩ := hL
  have hT' : ∀ j, j < 777 → s.1 67 (777 * k + j) = T (777 * k + j) := fun j hj => h1 _ (by omega) (by omega)
  obtain ⟨ν, hνe⟩ : ∃ ν : Nat → Int, ν = fun j => s.1 71 (t_ri j) := ⟨_, rfl⟩
  have hb : t_bn ν := fun j hj => by
    have := h2 (t_ri j) (t_ri_8 j hj)
    rw [hνe]
    show c_in (s.1 71 (t_ri j))
    exact ⟨by omega, by omega⟩
  have hν : ∀ k, k < 8 → s.1 71 k = ν (t_rn k) ∧ c_in (s.1 71 k) := fun j hj => by
    have := h2 j hj
    refine ⟨?_, ⟨by omega, by omega⟩⟩
    rw [hνe]
    show _ = s.1 71 (t_ri (t_rn j))
    rw [t_ri_rn j hj]
  obtain ⟨g', r1, r2⟩ := n_loop (s := s) (ν := ν) (z1 := 777 * k + 1 + 7 * c) (base := 777 * k + 169) (K := fun s_u29 => some ((s_u29.2.2 0), s_u29)) hν (by omega) (to := f0 + E.length) (by rw [show 777 * k + 1 + 7 * c + 2 = 777 * k + (3 + 7 * c) by omega, hT' _ (by omega), show 777 * k + (3 + 7 * c) = 777 * k + 3 + 7 * c by omega]; exact g5) E f0 d_N [] [V ν] s.2.2 (fun j hj => by
    obtain ⟨e, a1, a2, a3, a4⟩ := g7 j hj
    refine ⟨e, a1, ?_, ?_, a4⟩
    · rw [show 777 * k + 169 + 2 * (f0 + j) = 777 * k + (169 + 2 * (f0 + j)) by omega, hT' _ (by omega), show 777 * k + (169 + 2 * (f0 + j)) = 777 * k + 169 + 2 * (f0 + j) by omega]; exact a2
    · rw [show 777 * k + 169 + 2 * (f0 + j) + 1 = 777 * k + (169 + 2 * (f0 + j) + 1) by omega, hT' _ (by omega), show 777 * k + (169 + 2 * (f0 + j) + 1) = 777 * k + 169 + 2 * (f0 + j) + 1 by omega]; exact a3) rfl (by omega) trivial (by simp only [List.length_nil]; omega) (hE ν hb) (by rw [d_N_is]; omega)
  have hv0 : g' 0 = V ν := r2.1
  refine ⟨(s.1, s.2.1, g'), ?_, rfl, rfl⟩
  unfold F_X12_says
  refine Eq.trans (n_sayl (c := c) (cnt := cnt) hk hcnt ((hT' 0 (by omega)).trans g1) c 0 d_N (Nat.zero_add _) (by rw [d_N_is]; omega) (by omega) (fun a ha => by rw [show 777 * k + 1 + 7 * a = 777 * k + (1 + 7 * a) by omega, hT' _ (by omega)]; rw [show 777 * k + (1 + 7 * a) = 777 * k + 1 + 7 * a by omega]; exact g2 a ha) (fun _ => by rw [show 777 * k + 1 + 7 * c = 777 * k + (1 + 7 * c) by omega, hT' _ (by omega), show 777 * k + (1 + 7 * c) = 777 * k + 1 + 7 * c by omega]; exact g3)) ?_
  rw [if_pos hc]
  unfold F_X12_worked
  have e1 : d_w (777 * (k : Int) + 1 + 7 * (c : Int)) = ((777 * k + 1 + 7 * c : Nat) : Int) := by rw [d_w_id (by omega) (by omega)]; omega
  have e2 : d_w (((777 * k + 1 + 7 * c : Nat) : Int) + 1) = ((777 * k + 2 + 7 * c : Nat) : Int) := by rw [d_w_id (by omega) (by omega)]; omega
  have e3 : d_w (777 * (k : Int) + 169) = ((777 * k + 169 : Nat) : Int) := by rw [d_w_id (by omega) (by omega)]; omega
  have ef : s.1 67 (777 * k + 2 + 7 * c) = (f0 : Int) := by rw [show 777 * k + 2 + 7 * c = 777 * k + (2 + 7 * c) by omega, hT' _ (by omega), show 777 * k + (2 + 7 * c) = 777 * k + 2 + 7 * c by omega]; exact g4
  rw [e1, d_l_t, e2, d_g_t (by omega), Int.toNat_natCast, ef, d_l_t, e3]
  have r1' : F_X12_worked_l37 (fun s_u29 => some ((s_u29.2.2 0), s_u29)) d_N ((777 * k + 1 + 7 * c : Nat) : Int) ((777 * k + 169 : Nat) : Int) 0 (f0 : Int) s = some (g' 0, (s.1, s.2.1, g')) := r1
  rw [r1', d_b2_t, P_cut h3 h4, d_b_t, hv0, hνe]
end X15
def t_cn (b : Nat → Nat) (n : Nat) (e : Nat × Nat) : List Nat := if e.1 < 3 then [] else t_Dn b n (t_dd e.1) e.2
def t_cs2 (b : Nat → Nat) (n : Nat) : Nat → Nat → Nat → Nat → List (Nat × Nat)
  | 0, _, _, _ => []
  | f + 1, m, o, p => if t_k b n p = 0 then [] else (t_cw b n p, t_x b n p) :: t_cs2 b n f (m + 1) (if t_cw b n p < 3 then o + 2 ^ t_cw b n p else o) (t_cl b n m o p).2
def l_row (b : Nat → Nat) (n : Nat) (T : Nat → Int) (t0 w c : Nat) (e : Nat × Nat) : Prop := e.1 ≤ 9 ∧ T (t0 + 1 + 7 * c) = ((v_sx e.1 : Nat) : Int) ∧ (∀ i v : Nat, (t_cn b n e)[i]? = some v → T (t0 + 2 + 7 * c + i) = (v : Int)) ∧ (e.1 < 3 → ∃ (f0 : Nat) (E : List (Nat × Nat)), T (t0 + 2 + 7 * c) = (f0 : Int) ∧ T (t0 + 3 + 7 * c) = ((f0 + E.length : Nat) : Int) ∧ f0 + E.length ≤ w ∧ (∀ i, i < E.length → ∃ a, E[i]? = some a ∧ T (t0 + 169 + 2 * (f0 + i)) = ((a.1 : Nat) : Int) ∧ T (t0 + 169 + 2 * (f0 + i) + 1) = ((a.2 : Nat) : Int) ∧ a.1 < 8 ∧ a.2 < 10000) ∧ ∀ ν, t_bn ν → r_evo ν E [] = some [t_V b n (Nat.beq e.1 1) ν 4000 2 0 0 e.2 0])
def l_Lg : List Nat := [7, 8, 9, 10, 13, 14, 17, 18, 19, 20, 21]
def l_g (t0 : Nat) (s s' : d_S) : Prop := (∀ k, k ∉ l_Lg → s'.1 64 k = s.1 64 k) ∧ (∀ a, a ≠ 64 → a ≠ 67 → a ≠ 69 → a ≠ 70 → s'.1 a = s.1 a) ∧ (∀ j, j < t0 ∨ t0 + 777 ≤ j → s'.1 67 j = s.1 67 j) ∧ s'.2.1 = s.2.1 ∧ ∀ k, k ≠ 1011 → s'.2.2 k = s.2.2 k
theorem l_Lg4 : ∀ a, a ∈ [7, 8, 9, 10] → a ∈ l_Lg := by decide
section X16
variable {s0 s s1 s' : d_S} {b : Nat → Nat} {n p q w so t0 m o x c : Nat}
theorem l_g.rf : l_g t0 s s := ⟨fun _ _ => rfl, fun _ _ _ _ _ => rfl, fun _ _ => rfl, rfl, fun _ _ => rfl⟩
theorem l_g.tr (h : l_g t0 s s1) (h' : l_g t0 s1 s') : l_g t0 s s' := ⟨fun a z => (h'.1 a z).trans (h.1 a z), fun a y z u v => (h'.2.1 a y z u v).trans (h.2.1 a y z u v), fun j z => (h'.2.2.1 j z).trans (h.2.2.1 j z), h'.2.2.2.1.trans h.2.2.2.1, fun k z => (h'.2.2.2.2 k z).trans (h.2.2.2.2 k z)⟩
theorem l_f.g (h : l_f [7, 8, 9, 10] s s1) : l_g t0 s s1 := ⟨fun k z => h.1 k (fun y => z (l_Lg4 k y)), fun a z _ _ _ => h.2.1 a z, fun j _ => by rw [h.2.1 67 (by decide)], h.2.2.1, h.2.2.2⟩
theorem l_g.s64 {k : Nat} {y : Int} (h : k ∈ l_Lg) : l_g t0 s (d_si s 64 k y) := ⟨fun a z => by rw [d_si_i, d_u_n (fun (e : a = k) => z (by rw [e]; exact h))], fun a z _ _ _ => d_si_n z, fun j _ => by rw [d_si_n (by decide)], rfl, fun _ _ => rfl⟩
theorem l_g.s67 {k : Nat} {y : Int} (h : t0 ≤ k) (h' : k < t0 + 777) : l_g t0 s (d_si s 67 k y) := ⟨fun a z => by rw [d_si_n (by decide)], fun a _ z _ _ => d_si_n z, fun j hj => by rw [d_si_i, d_u_n (by omega)], rfl, fun _ _ => rfl⟩
theorem l_j.g {y : Nat} (h : l_j x y s s') (h1 : t0 ≤ x) (h2 : y ≤ t0 + 777) : l_g t0 s s' := ⟨fun k z => h.1 k (fun q => z (l_Lg4 k q)), fun a z u _ _ => h.2.1 a z u, fun j hj => h.2.2.1 j (by omega), h.2.2.2.1, h.2.2.2.2⟩
theorem t_Dn_len : ∀ (A : List (Nat × Nat × Nat)) (p : Nat), (t_Dn b n A p).length = (A.filter (fun e => Nat.beq e.1 0)).length := by
  intro A
  induction A with
  | nil => intro p; rfl
  | cons e A ih =>
    intro p
    unfold t_Dn
    by_cases e0 : e.1 = 0
    · rw [if_pos e0, List.filter_cons_of_pos (by rw [e0]; rfl), List.length_cons, List.length_cons, ih]
    · rw [if_neg e0, List.filter_cons_of_neg (by simpa using fun h => e0 (Nat.eq_of_beq_eq_true h)), ih]
theorem t_dd_np : ∀ w, w < 10 → 3 ≤ w → ((t_dd w).filter (fun e => Nat.beq e.1 0)).length = v_np w := by decide
theorem v_np_6 : ∀ w, w < 10 → v_np w ≤ 6 := by decide
theorem t_cn_len {e : Nat × Nat} (h : e.1 ≤ 9) : (t_cn b n e).length = v_np e.1 := by
  unfold t_cn
  by_cases q : e.1 < 3
  · rw [if_pos q]
    have : ∀ w, w < 3 → v_np w = 0 := by decide
    rw [this _ q]; rfl
  · rw [if_neg q, t_Dn_len, t_dd_np _ (by omega) (by omega)]
theorem t_dd_q : ∀ w, w < 10 → ∀ e ∈ t_dd w, t_dq e ∧ k_dq e := by
  have : ∀ w, w < 10 → ∀ e ∈ t_dd w, (e.1 = 0 ∨ (e.1 = 1 ∧ e.2.1 < 22) ∨ (e.1 = 2 ∧ (e.2.1 = 44 ∨ e.2.1 = 58))) ∧ ((e.1 = 0 ∧ e.2.2 ≤ 9998) ∨ (e.1 = 1 ∧ e.2.1 < 22) ∨ e.1 = 2) := by decide
  exact this
theorem l_row.keep {T T' : Nat → Int} {w' : Nat} {e : Nat × Nat} (h : l_row b n T t0 w c e) (h1 : ∀ j, t0 + 1 + 7 * c ≤ j → j < t0 + 8 + 7 * c → T' j = T j) (h2 : ∀ j, t0 + 169 ≤ j → j < t0 + 169 + 2 * w → T' j = T j) (hw : w ≤ w') : l_row b n T' t0 w' c e := by
  obtain ⟨a0, a1, a2, a3⟩ := h
  have hl := t_cn_len (b := b) (n := n) a0
  have h6 := v_np_6 e.1 (by omega)
  refine ⟨a0, by rw [h1 _ (by omega) (by omega)]; exact a1, fun i v hv => ?_, fun h3 => ?_⟩
  · have : i < (t_cn b n e).length := by
      by_cases q : i < (t_cn b n e).length
      · exact q
      · rw [List.getElem?_eq_none (by omega)] at hv; cases hv
    rw [h1 _ (by omega) (by omega)]
    exact a2 i v hv
  · obtain ⟨f0, E, g1, g2, g3, g4, g5⟩ := a3 h3
    refine ⟨f0, E, by rw [h1 _ (by omega) (by omega)]; exact g1, by rw [h1 _ (by omega) (by omega)]; exact g2, by omega, fun i hi => ?_, g5⟩
    obtain ⟨a, r1, r2, r3, r4⟩ := g4 i hi
    exact ⟨a, r1, by rw [h2 _ (by omega) (by omega)]; exact r2, by rw [h2 _ (by omega) (by omega)]; exact r3, r4⟩
theorem l_w0 : F_X12_w5 109 101 108 116 115 = some ((t_Wn.getD 0 0 : Nat) : Int) := by decide +kernel
theorem l_w1 : F_X12_w5 115 101 108 108 115 = some ((t_Wn.getD 1 0 : Nat) : Int) := by decide +kernel
theorem l_w2 : F_X12_w4 114 111 116 115 = some ((t_Wn.getD 2 0 : Nat) : Int) := by decide +kernel
theorem l_w3 : F_X12_w4 112 111 110 100 = some ((t_Wn.getD 3 0 : Nat) : Int) := by decide +kernel
theorem l_w4 : F_X12_w5 115 105 103 104 116 = some ((t_Wn.getD 4 0 : Nat) : Int) := by decide +kernel
theorem l_w5 : F_X12_w3 115 97 119 = some ((t_Wn.getD 5 0 : Nat) : Int) := by decide +kernel
theorem l_w6 : F_X12_w5 99 114 111 115 115 = some ((t_Wn.getD 6 0 : Nat) : Int) := by decide +kernel
theorem l_w7 : F_X12_w4 115 101 108 108 = some ((t_Wn.getD 7 0 : Nat) : Int) := by decide +kernel
theorem P_sortOf (hT : l_T b n p s) : F_X12_sortOf s = some (if t_cw b n p = 10 then -1 else ((v_sx (t_cw b n p) : Nat) : Int)) := by
  have hw : ∀ k, k < 22 → F_X12_isWord s ((t_Wn.getD k 0 : Nat) : Int) = some (v_b (t_wd b n p k = true)) := fun k hk => P_rword hT hk
  unfold F_X12_sortOf t_cw
  rw [l_w0, d_b_t, hw 0 (by decide), d_b_t]
  by_cases q0 : t_wd b n p 0 = true
  · rw [v_bt q0, if_neg (by decide), if_pos q0]; rfl
  rw [v_bf q0, if_pos rfl, if_neg q0, l_w1, d_b_t, hw 1 (by decide), d_b_t]
  by_cases q1 : t_wd b n p 1 = true
  · rw [v_bt q1, if_neg (by decide), if_pos q1]; rfl
  rw [v_bf q1, if_pos rfl, if_neg q1, l_w2, d_b_t, hw 2 (by decide), d_b_t]
  by_cases q2 : t_wd b n p 2 = true
  · rw [v_bt q2, if_neg (by decide), if_pos q2]; rfl
  rw [v_bf q2, if_pos rfl, if_neg q2, l_w3, d_b_t, hw 3 (by decide), d_b_t]
  by_cases q3 : t_wd b n p 3 = true
  · rw [v_bt q3, if_neg (by decide), if_pos q3]; rfl
  rw [v_bf q3, if_pos rfl, if_neg q3, l_w4, d_b_t, hw 4 (by decide), d_b_t]
  by_cases q4 : t_wd b n p 4 = true
  · rw [v_bt q4, if_neg (by decide), if_pos q4]; rfl
  rw [v_bf q4, if_pos rfl, if_neg q4, l_w5, d_b_t, hw 5 (by decide), d_b_t]
  by_cases q5 : t_wd b n p 5 = true
  · rw [v_bt q5, if_neg (by decide), if_pos q5]; rfl
  rw [v_bf q5, if_pos rfl, if_neg q5, l_w6, d_b_t, hw 6 (by decide), d_b_t]
  by_cases q6 : t_wd b n p 6 = true
  · rw [v_bt q6, if_neg (by decide), if_pos q6]; rfl
  rw [v_bf q6, if_pos rfl, if_neg q6, l_w8, d_b_t, hw 8 (by decide), d_b_t]
  by_cases q8 : t_wd b n p 8 = true
  · rw [v_bt q8, if_neg (by decide), if_pos q8]; rfl
  rw [v_bf q8, if_pos rfl, if_neg q8, l_w9, d_b_t, hw 9 (by decide), d_b_t]
  by_cases q9 : t_wd b n p 9 = true
  · rw [v_bt q9, if_neg (by decide), if_pos q9]; rfl
  rw [v_bf q9, if_pos rfl, if_neg q9, l_w7, d_b_t, hw 7 (by decide), d_b_t]
  by_cases q7 : t_wd b n p 7 = true
  · rw [v_bt q7, if_neg (by decide), if_pos q7]; rfl
  rw [v_bf q7, if_pos rfl, if_neg q7]; rfl
theorem t_cw_k (h : t_cw b n p ≠ 10) : t_cw b n p ≤ 9 ∧ t_k b n p = 1 := by
  by_cases k1 : t_k b n p = 1
  · refine ⟨?_, k1⟩
    unfold t_cw at h ⊢
    revert h
    repeat' split
    all_goals intro h; omega
  · have no := t_no_w k1
    exfalso
    apply h
    unfold t_cw
    rw [no 0, no 1, no 2, no 3, no 4, no 5, no 6, no 8, no 9, no 7]
    rfl
theorem P_bodyD (hw : 3 ≤ w ∧ w ≤ 9) (hx : x ≤ 3000) : F_X12_body s ((v_sx w : Nat) : Int) (x : Int) = l_run x (t_dd w) 1 s := by
  have h : w = 3 ∨ w = 4 ∨ w = 5 ∨ w = 6 ∨ w = 7 ∨ w = 8 ∨ w = 9 := by omega
  have e1 : d_w ((x : Int) + 1) = ((x + 1 : Nat) : Int) := by rw [d_w_id (by omega) (by omega)]; rfl
  have fg : ∀ lo hi : Nat, d_b2 (F_X12_figure s (d_w ((x : Int) + 1)) (lo : Int) (hi : Int)) (fun v s => some (v, s)) = l_run x [(0, lo, hi)] 1 s := fun lo hi => by rw [d_b2_id, e1]; exact P_fig
  rcases h with rfl | rfl | rfl | rfl | rfl | rfl | rfl
  · exact Eq.trans (show _ = d_b2 (F_X12_pondClause s (x : Int)) (fun v s => some (v, s)) from rfl) (by rw [d_b2_id, P_pondC hx])
  · exact Eq.trans (show _ = d_b2 (F_X12_sightClause s (x : Int)) (fun v s => some (v, s)) from rfl) (by rw [d_b2_id, P_sightC hx])
  · exact fg 0 6
  · exact fg 0 6
  · exact fg 0 63
  · exact Eq.trans (show _ = d_b2 (F_X12_strawClause s (x : Int)) (fun v s => some (v, s)) from rfl) (by rw [d_b2_id, P_strawC hx])
  · exact fg 1 60
theorem P_bodyL (hw : w < 3) : F_X12_body s ((v_sx w : Nat) : Int) (x : Int) = F_X12_lawClause s (x : Int) := by
  have h : w = 0 ∨ w = 1 ∨ w = 2 := by omega
  rcases h with rfl | rfl | rfl
  · exact Eq.trans (show _ = d_b2 (F_X12_lawClause s (x : Int)) (fun v s => some (v, s)) from rfl) (d_b2_id _)
  · exact Eq.trans (show _ = d_b2 (F_X12_lawClause s (x : Int)) (fun v s => some (v, s)) from rfl) (d_b2_id _)
  · exact Eq.trans (show _ = d_b2 (F_X12_lawClause s (x : Int)) (fun v s => some (v, s)) from rfl) (d_b2_id _)
end X16

section X15
variable {s s1 s' : d_S} {z1 base : Nat} {x : Int} {ν : Nat → Int} {K : d_S → Option (Int × d_S)}
theorem n_app : ∀ {f : Nat → Int} {a b : List Int}, m_P f (a ++ b) → m_P f b := by
  intro f a
  induction a with
  | nil => intro b h; exact h
  | cons x a ih => intro b h; exact ih h.2.2
theorem n_at : ∀ {f : Nat → Int} {σ : List Int} {i : Nat} {x : Int}, m_P f σ → σ.reverse[i]? = some x → f i = x ∧ c_in x := by
  intro f σ
  induction σ with
  | nil => intro i x _ h; simp at h
  | cons y σ ih =>
    intro i x h hx
    rw [List.reverse_cons] at hx
    by_cases q : i < σ.reverse.length
    · rw [List.getElem?_append_left q] at hx
      exact ih h.2.2 hx
    · have hl : σ.reverse.length = σ.length := List.length_reverse
      rw [List.getElem?_append_right (by omega)] at hx
      have hi : i - σ.reverse.length = 0 := by
        by_cases z : i - σ.reverse.length = 0
        · exact z
        · rw [List.getElem?_eq_none (by simp only [List.length_cons, List.length_nil]; omega)] at hx; cases hx
      rw [hi] at hx
      have e : y = x := by simpa using hx
      have : i = σ.length := by omega
      subst this
      rw [← e]
      exact ⟨h.1, h.2.1⟩
theorem P_held {v : Int} (hv : -1000000000000 ≤ v ∧ v ≤ 1000000000000) : F_X12_held v = some (t_hl v) := by
  unfold F_X12_held t_hl
  by_cases c1 : 1000000 < v
  · rw [if_pos c1]; congr 1; omega
  · rw [if_neg c1]
    by_cases c2 : v < -1000000
    · rw [if_pos c2]; congr 1; omega
    · rw [if_neg c2]; congr 1; omega
theorem n_tdiv {x y : Int} (hx : c_in x) : t_hl (Int.tdiv x y) = Int.tdiv x y := by
  have h1 : (x.tdiv y).natAbs ≤ x.natAbs := by
    rw [Int.natAbs_tdiv]
    exact Nat.div_le_self _ _
  unfold c_in at hx
  unfold t_hl
  generalize x.tdiv y = z at *
  omega
theorem P_two {o : Nat} {x y : Int} (ho : 4 ≤ o) (hx : c_in x) (hy : c_in y) : F_X12_two (o : Int) x y = some (t_op2 (o + 1) x y) := by
  have hm := t_lmul hx hy
  have hx' := hx
  have hy' := hy
  unfold c_in at hx' hy'
  unfold F_X12_two t_op2
  by_cases c4 : o = 4
  · rw [if_pos (by omega), d_W_id (by omega) (by omega), P_held (by omega), d_b_t, if_pos (by omega)]
  rw [if_neg (by omega), if_neg (show ¬ o + 1 = 5 by omega)]
  by_cases c5 : o = 5
  · rw [if_pos (by omega), d_W_id (by omega) (by omega), P_held (by omega), d_b_t, if_pos (by omega)]
  rw [if_neg (by omega), if_neg (show ¬ o + 1 = 6 by omega)]
  by_cases c6 : o = 6
  · rw [if_pos (by omega), d_W_id (by omega) (by omega), P_held (by omega), d_b_t, if_pos (by omega)]
  rw [if_neg (by omega), if_neg (show ¬ o + 1 = 7 by omega)]
  by_cases y0 : y = 0
  · rw [if_pos y0, y0, Int.tdiv_zero]; rfl
  · rw [if_neg y0, d_g_t y0, m_divL hx hy, n_tdiv hx]
theorem n_loop (hν : ∀ k, k < 8 → s.1 71 k = ν (t_rn k) ∧ c_in (s.1 71 k)) (hz : z1 + 2 < 3108) {to : Nat} (hto : s.1 67 (z1 + 2) = (to : Int)) : ∀ (E : List (Nat × Nat)) (i m : Nat) (σ σ' : List Int) (g : Nat → Int), (∀ j, j < E.length → ∃ e, E[j]? = some e ∧ s.1 67 (base + 2 * (i + j)) = ((e.1 : Nat) : Int) ∧ s.1 67 (base + 2 * (i + j) + 1) = ((e.2 : Nat) : Int) ∧ e.1 < 8 ∧ e.2 < 10000) → to = i + E.length → base + 2 * to ≤ 3108 → m_P g σ → σ.length + E.length ≤ 329 → r_evo ν E σ = some σ' → E.length < m → ∃ g', F_X12_worked_l37 K m (z1 : Int) (base : Int) (σ.length : Int) (i : Int) (s.1, s.2.1, g) = K (s.1, s.2.1, g') ∧ m_P g' σ' := by
  intro E
  induction E with
  | nil =>
    intro i m σ σ' g hE hi hb hP hl hr hm
    obtain ⟨m, rfl⟩ : ∃ w, m = w + 1 := ⟨m - 1, by omega⟩
    have e : σ = σ' := Option.some.inj hr
    subst e
    refine ⟨g, ?_, hP⟩
    rw [List.length_nil] at hi
    show F_X12_worked_l37_b K (F_X12_worked_l37 K m) _ _ _ _ _ = _
    unfold F_X12_worked_l37_b
    rw [d_w_id (by omega) (by omega), d_g_t (by omega), show ((z1 : Int) + 2).toNat = z1 + 2 by omega, hto, if_neg (by omega)]
  | cons e E ih =>
    intro i m σ σ' g hE hi hb hP hl hr hm
    obtain ⟨m, rfl⟩ : ∃ w, m = w + 1 := ⟨m - 1, by omega⟩
    rw [List.length_cons] at hi hl hm
    obtain ⟨e', h1, h2, h3, h4, h5⟩ := hE 0 (by rw [List.length_cons]; omega)
    have ee : e = e' := by simpa using h1
    subst ee
    have h2 : s.1 67 (base + 2 * i) = ((e.1 : Nat) : Int) := h2
    have h3 : s.1 67 (base + 2 * i + 1) = ((e.2 : Nat) : Int) := h3
    have hE' : ∀ j, j < E.length → ∃ e, E[j]? = some e ∧ s.1 67 (base + 2 * (i + 1 + j)) = ((e.1 : Nat) : Int) ∧ s.1 67 (base + 2 * (i + 1 + j) + 1) = ((e.2 : Nat) : Int) ∧ e.1 < 8 ∧ e.2 < 10000 := by
      intro j hj
      obtain ⟨e2, g1, g2⟩ := hE (j + 1) (by rw [List.length_cons]; omega)
      refine ⟨e2, by simpa using g1, ?_⟩
      rw [show i + 1 + j = i + (j + 1) by omega]
      exact g2
    simp only [r_evo] at hr
    obtain ⟨τ, hτ⟩ : ∃ τ, r_sto ν σ e = some τ := by
      cases q : r_sto ν σ e with
      | none => rw [q] at hr; cases hr
      | some τ => exact ⟨τ, rfl⟩
    rw [hτ] at hr
    have hr : r_evo ν E τ = some σ' := hr
    have htl := r_sto_len hτ
    have step : ∀ g2 : Nat → Int, m_P g2 τ → ∃ g', F_X12_worked_l37 K m (z1 : Int) (base : Int) (τ.length : Int) ((i + 1 : Nat) : Int) (s.1, s.2.1, g2) = K (s.1, s.2.1, g') ∧ m_P g' σ' := fun g2 hg2 => ih (i + 1) m τ σ' g2 hE' (by omega) hb hg2 (by omega) hr (by omega)
    have ei : d_w ((i : Int) + 1) = ((i + 1 : Nat) : Int) := by rw [d_w_id (by omega) (by omega)]; rfl
    show ∃ g', F_X12_worked_l37_b K (F_X12_worked_l37 K m) _ _ _ _ _ = _ ∧ _
    unfold F_X12_worked_l37_b
    have ep : d_w ((base : Int) + 2 * (i : Int)) = ((base + 2 * i : Nat) : Int) := by rw [d_w_id (by omega) (by omega)]; omega
    have eq : d_w ((base : Int) + 2 * (i : Int) + 1) = ((base + 2 * i + 1 : Nat) : Int) := by rw [d_w_id (by omega) (by omega)]; omega
    rw [d_w_id (x := (z1 : Int) + 2) (by omega) (by omega), d_g_t (by omega), show ((z1 : Int) + 2).toNat = z1 + 2 by omega, hto, if_pos (by omega), ep, eq, d_g_t (by omega), Int.toNat_natCast, h2, d_l_t, d_g_t (by omega), Int.toNat_natCast, h3, d_l_t]
    unfold r_sto at hτ
    by_cases c0 : e.1 = 0
    · rw [if_pos c0] at hτ
      have hτ := Option.some.inj hτ
      subst hτ
      unfold F_X12_worked_j111
      rw [if_neg (by omega), if_pos (by omega), d_g_t (by omega), d_l_t, Int.toNat_natCast, d_w_id (x := (σ.length : Int) + 1) (by omega) (by omega), ei]
      exact step (d_u g σ.length ((e.2 : Nat) : Int)) ⟨d_u_t, ⟨by omega, by omega⟩, m_P_set (Nat.le_refl _) hP⟩
    rw [if_neg c0] at hτ
    by_cases c1 : e.1 = 1
    · rw [if_pos c1] at hτ
      have h8 : e.2 < 8 := by
        by_cases q : e.2 < 8
        · exact q
        · rw [if_neg q] at hτ; cases hτ
      rw [if_pos h8] at hτ
      have hτ := Option.some.inj hτ
      subst hτ
      obtain ⟨n1, n2⟩ := hν e.2 h8
      unfold F_X12_worked_j111
      rw [if_neg (by omega), if_neg (by omega), d_g_t (by omega), d_g_t (by omega), d_l_t, Int.toNat_natCast, Int.toNat_natCast, d_w_id (x := (σ.length : Int) + 1) (by omega) (by omega), ei]
      exact step (d_u g σ.length (s.1 71 e.2)) ⟨by rw [d_u_t, n1], by rw [← n1]; exact n2, m_P_set (Nat.le_refl _) hP⟩
    rw [if_neg c1] at hτ
    rw [if_pos (by omega)]
    by_cases c2 : e.1 = 2
    · rw [if_pos c2] at hτ
      have h21 : 1 ≤ e.2 := by
        by_cases q : 1 ≤ e.2
        · exact q
        · rw [if_neg q] at hτ; cases hτ
      rw [if_pos h21] at hτ
      obtain ⟨z, r, hd⟩ : ∃ z r, σ.drop e.2 = z :: r := by
        cases q : σ.drop e.2 with
        | nil => rw [q] at hτ; cases hτ
        | cons z r => exact ⟨z, r, rfl⟩
      rw [hd] at hτ
      have hτ := Option.some.inj hτ
      have hlen : σ.length = e.2 + r.length + 1 := by
        have := congrArg List.length hd
        rw [List.length_drop, List.length_cons] at this
        omega
      have hta : σ.take e.2 ++ z :: r = σ := by rw [← hd]; exact List.take_append_drop e.2 σ
      obtain ⟨vs, hvs⟩ : ∃ w, w = (σ.take e.2).reverse := ⟨_, rfl⟩
      rw [← hvs] at hτ
      have hvl : vs.length = e.2 := by rw [hvs, List.length_reverse, List.length_take]; omega
      have hrev : σ.reverse = r.reverse ++ (z :: vs) := by
        rw [← hta, List.reverse_append, List.reverse_cons, hvs]; simp
      have hPr : m_P g (z :: r) := n_app (a := σ.take e.2) (by rw [hta]; exact hP)
      have hvi : ∀ (j : Nat) (y : Int), vs[j]? = some y → g (r.length + 1 + j) = y ∧ c_in y := by
        intro j y hy
        refine n_at hP ?_
        rw [hrev, List.getElem?_append_right (by rw [List.length_reverse]; omega), List.length_reverse, show r.length + 1 + j - r.length = j + 1 by omega]
        simpa using hy
      have hgd : ∀ j, j < vs.length → g (r.length + 1 + j) = vs.getD j 0 ∧ c_in (vs.getD j 0) := by
        intro j hj
        have := hvi j vs[j] (List.getElem?_eq_getElem hj)
        rw [List.getD_eq_getElem?_getD, List.getElem?_eq_getElem hj]
        exact this
      have e5 : d_w ((σ.length : Int) - ((e.2 : Nat) : Int)) = ((r.length + 1 : Nat) : Int) := by rw [d_w_id (by omega) (by omega)]; omega
      have e6 : d_w (((r.length + 1 : Nat) : Int) - 1) = (r.length : Int) := by rw [d_w_id (by omega) (by omega)]; omega
      have hgz : g r.length = z := hPr.1
      have iz := hPr.2.1
      unfold c_in at iz
      have fin : ∀ v : Int, v = r_pk vs z → c_in v → ∃ g', F_X12_worked_l37 K m (z1 : Int) (base : Int) ((r.length + 1 : Nat) : Int) ((i + 1 : Nat) : Int) (s.1, s.2.1, d_u g r.length v) = K (s.1, s.2.1, g') ∧ m_P g' σ' := by
        intro v hv hc
        have := step (d_u g r.length v) (by rw [← hτ]; exact ⟨by rw [d_u_t, hv], by rw [← hv]; exact hc, m_P_set (Nat.le_refl _) hPr.2.2⟩)
        rw [← hτ, List.length_cons] at this
        exact this
      rw [if_pos (by omega), e5, e6, d_g_t (by omega), Int.toNat_natCast]
      show ∃ g', (if g r.length < 1 then _ else _) = _ ∧ _
      rw [hgz]
      by_cases z1' : z < 1
      · have e7 : d_w (((r.length + 1 : Nat) : Int) - 1 + 1) = ((r.length + 1 : Nat) : Int) := by rw [d_w_id (by omega) (by omega)]; omega
        rw [if_pos z1', e7, d_g_t (by omega), d_g_t (by omega), d_l_t, ei, Int.toNat_natCast]
        have hh := hgd 0 (by omega)
        exact fin (g (r.length + 1)) (by unfold r_pk; rw [if_pos z1']; exact hh.1) (by rw [show r.length + 1 = r.length + 1 + 0 from rfl, hh.1]; exact hh.2)
      rw [if_neg z1', d_g_t (by omega)]
      unfold F_X12_worked_j180
      show ∃ g', (if ((e.2 : Nat) : Int) < g r.length then _ else _) = _ ∧ _
      rw [hgz]
      by_cases z2 : ((e.2 : Nat) : Int) < z
      · have e7 : d_w (((r.length + 1 : Nat) : Int) - 1 + ((e.2 : Nat) : Int)) = ((r.length + 1 + (e.2 - 1) : Nat) : Int) := by rw [d_w_id (by omega) (by omega)]; omega
        rw [if_pos z2, e7, d_g_t (by omega), e6, d_g_t (by omega), d_l_t, ei, Int.toNat_natCast, Int.toNat_natCast]
        have hh := hgd (e.2 - 1) (by omega)
        exact fin (g (r.length + 1 + (e.2 - 1))) (by unfold r_pk; rw [if_neg z1', if_pos (by omega), hvl]; exact hh.1) (by rw [hh.1]; exact hh.2)
      · obtain ⟨y, hy⟩ : ∃ y : Nat, z = ((y + 1 : Nat) : Int) := ⟨(z - 1).toNat, by omega⟩
        have e7 : d_w (((r.length + 1 : Nat) : Int) - 1 + d_w z) = ((r.length + 1 + y : Nat) : Int) := by rw [d_w_id (x := z) (by omega) (by omega), d_w_id (by omega) (by omega)]; omega
        rw [if_neg z2, d_g_t (by omega)]
        show ∃ g', d_g (0 ≤ d_w (((r.length + 1 : Nat) : Int) - 1 + d_w (g r.length)) ∧ d_w (((r.length + 1 : Nat) : Int) - 1 + d_w (g r.length)) < 330) (d_g _ (d_l (d_sl _ _ (g (d_w (((r.length + 1 : Nat) : Int) - 1 + d_w (g r.length))).toNat)) _)) = _ ∧ _
        rw [hgz, e7, d_g_t (by omega), e6, d_g_t (by omega), d_l_t, ei, Int.toNat_natCast, Int.toNat_natCast]
        have hh := hgd y (by omega)
        exact fin (g (r.length + 1 + y)) (by unfold r_pk; rw [if_neg z1', if_neg (by omega), show z.toNat - 1 = y by omega]; exact hh.1) (by rw [hh.1]; exact hh.2)
    rw [if_neg c2] at hτ
    rw [if_neg (by omega)]
    by_cases c3 : e.1 = 3
    · rw [if_pos c3] at hτ
      match σ, hP, hτ, hl with
      | [], _, hτ, _ => cases hτ
      | x :: r, hP, hτ, hl =>
        have hτ := Option.some.inj hτ
        rw [List.length_cons] at hl ⊢
        have hx : g r.length = x := hP.1
        have ix := hP.2.1
        unfold c_in at ix
        rw [if_pos (by omega), d_w_id (x := ((r.length + 1 : Nat) : Int) - 1) (by omega) (by omega), show ((r.length + 1 : Nat) : Int) - 1 = (r.length : Int) by omega, d_g_t (by omega), d_g_t (by omega), Int.toNat_natCast]
        show ∃ g', d_l (d_sl _ r.length (d_W (-(g r.length)))) _ = _ ∧ _
        rw [hx, d_W_id (by omega) (by omega), d_l_t, ei]
        have := step (d_u g r.length (-x)) (by rw [← hτ]; exact ⟨d_u_t, ⟨by omega, by omega⟩, m_P_set (Nat.le_refl _) hP.2.2⟩)
        rw [← hτ, List.length_cons] at this
        exact this
    rw [if_neg c3] at hτ
    rw [if_neg (by omega)]
    match σ, hP, hτ, hl with
    | [], _, hτ, _ => cases hτ
    | [x], _, hτ, _ => cases hτ
    | y :: x :: r, hP, hτ, hl =>
      have hτ := Option.some.inj hτ
      rw [List.length_cons, List.length_cons] at hl ⊢
      have hy : g (r.length + 1) = y := hP.1
      have hx : g r.length = x := hP.2.2.1
      have e1 : d_w (((r.length + 1 + 1 : Nat) : Int) + (-1)) = ((r.length + 1 : Nat) : Int) := by rw [d_w_id (by omega) (by omega)]; omega
      have e2 : d_w (((r.length + 1 : Nat) : Int) - 1) = (r.length : Int) := by rw [d_w_id (by omega) (by omega)]; omega
      rw [e1, e2, d_g_t (by omega), d_g_t (by omega), Int.toNat_natCast, Int.toNat_natCast]
      show ∃ g', d_b (F_X12_two ((e.1 : Nat) : Int) (g r.length) (g (r.length + 1))) _ = _ ∧ _
      rw [hx, hy, P_two (by omega) hP.2.2.2.1 hP.2.1, d_b_t, d_g_t (by omega), d_l_t, ei]
      have := step (d_u g r.length (t_op2 (e.1 + 1) x y)) (by rw [← hτ]; exact ⟨d_u_t, c_in_op _ _ _, m_P_set (Nat.le_refl _) hP.2.2.2.2⟩)
      rw [← hτ, List.length_cons] at this
      exact this
def n_L (T : Nat → Int) (k : Nat) (so : Int) (f0 : Nat) (E : List (Nat × Nat)) : Prop := k < 4 ∧ ∃ (c cnt : Nat), cnt ≤ 24 ∧ c < cnt ∧ T (777 * k) = (cnt : Int) ∧ (∀ j, j < c → T (777 * k + 1 + 7 * j) ≠ so) ∧ T (777 * k + 1 + 7 * c) = so ∧ T (777 * k + 2 + 7 * c) = (f0 : Int) ∧ T (777 * k + 3 + 7 * c) = ((f0 + E.length : Nat) : Int) ∧ f0 + E.length ≤ 304 ∧ ∀ i, i < E.length → ∃ e, E[i]? = some e ∧ T (777 * k + 169 + 2 * (f0 + i)) = ((e.1 : Nat) : Int) ∧ T (777 * k + 169 + 2 * (f0 + i) + 1) = ((e.2 : Nat) : Int) ∧ e.1 < 8 ∧ e.2 < 10000
def t_ri (k : Nat) : Nat := if k = 0 then 3 else if k = 1 then 0 else if k = 2 then 1 else if k = 3 then 2 else k
theorem t_ri_rn : ∀ k, k < 8 → t_ri (t_rn k) = k := by decide
theorem t_ri_8 : ∀ k, k < 8 → t_ri k < 8 := by decide
theorem n_sayl {K1 : Int → Int → d_S → Option (Int × d_S)} {K2 : Int → Int → Int → d_S → Option (Int × d_S)} {k cnt c : Nat} {so w top : Int} (hk : k < 4) (hcnt : cnt ≤ 24) (hT : s.1 67 (777 * k) = (cnt : Int)) : ∀ (j i m : Nat), i + j = c → j < m → c ≤ cnt → (∀ a, a < c → s.1 67 (777 * k + 1 + 7 * a) ≠ so) → (c < cnt → s.1 67 (777 * k + 1 + 7 * c) = so) → F_X12_says_l3 K1 K2 m (k : Int) so w top (i : Int) s = if c < cnt then K2 (k : Int) top (c : Int) s else K1 w top s := by
  intro j
  induction j with
  | zero =>
    intro i m hi hm hc hno hyes
    obtain ⟨m, rfl⟩ : ∃ w, m = w + 1 := ⟨m - 1, by omega⟩
    have e0 : d_w (777 * (k : Int)) = ((777 * k : Nat) : Int) := by rw [d_w_id (by omega) (by omega)]; omega
    have e1 : d_w (777 * (k : Int) + 1 + 7 * (i : Int)) = ((777 * k + 1 + 7 * i : Nat) : Int) := by rw [d_w_id (by omega) (by omega)]; omega
    have ei : i = c := by omega
    subst ei
    show F_X12_says_l3_b K1 K2 (F_X12_says_l3 K1 K2 m) _ _ _ _ _ s = _
    unfold F_X12_says_l3_b
    rw [if_neg (by omega), e0, d_g_t (by omega), Int.toNat_natCast, hT]
    by_cases q : i < cnt
    · rw [if_pos (by omega), e1, d_g_t (by omega), Int.toNat_natCast, hyes q, if_pos rfl, if_pos q]
    · rw [if_neg (by omega), if_neg q]
  | succ j ih =>
    intro i m hi hm hc hno hyes
    obtain ⟨m, rfl⟩ : ∃ w, m = w + 1 := ⟨m - 1, by omega⟩
    have e0 : d_w (777 * (k : Int)) = ((777 * k : Nat) : Int) := by rw [d_w_id (by omega) (by omega)]; omega
    have e1 : d_w (777 * (k : Int) + 1 + 7 * (i : Int)) = ((777 * k + 1 + 7 * i : Nat) : Int) := by rw [d_w_id (by omega) (by omega)]; omega
    show F_X12_says_l3_b K1 K2 (F_X12_says_l3 K1 K2 m) _ _ _ _ _ s = _
    unfold F_X12_says_l3_b
    rw [if_neg (by omega), e0, d_g_t (by omega), Int.toNat_natCast, hT, if_pos (by omega), e1, d_g_t (by omega), Int.toNat_natCast, if_neg (hno i (by omega)), d_w_id (x := (i : Int) + 1) (by omega) (by omega)]
    exact ih (i + 1) m (by omega) (by omega) hc hno hyes
theorem n_none {T : Nat → Int} {k cnt : Nat} {so : Int} (hk : k < 4) (hcnt : cnt ≤ 24) (hT : T (777 * k) = (cnt : Int)) (hno : ∀ a, a < cnt → T (777 * k + 1 + 7 * a) ≠ so) : v_RS T (k : Int) so none := by
  intro s w top h1 h2 h3 h4 h5
  have hT' : ∀ j, j < 777 → s.1 67 (777 * k + j) = T (777 * k + j) := fun j hj => h1 _ (by omega) (by omega)
  refine ⟨s, ?_, rfl, rfl⟩
  unfold F_X12_says
  refine Eq.trans (n_sayl (c := cnt) (cnt := cnt) hk hcnt ((hT' 0 (by omega)).trans hT) cnt 0 d_N (Nat.zero_add _) (by rw [d_N_is]; omega) (Nat.le_refl _) (fun a ha => by rw [show 777 * k + 1 + 7 * a = 777 * k + (1 + 7 * a) by omega, hT' _ (by omega)]; rw [show 777 * k + (1 + 7 * a) = 777 * k + 1 + 7 * a by omega]; exact hno a ha) (fun q => absurd q (Nat.lt_irrefl _))) ?_
  rw [if_neg (Nat.lt_irrefl _)]
  rw [P_cut h3 h4, d_b_t]
theorem n_some {T : Nat → Int} {k f0 : Nat} {so : Int} {E : List (Nat × Nat)} {V : (Nat → Int) → Int} (hL : n_L T k so f0 E) (hE : ∀ ν, t_bn ν → r_evo ν E [] = some [V ν]) : v_RS T (k : Int) so (some (fun f => V (fun j => f (t_ri j)))) := by
  intro s w top h1 h2 h3 h4 h5
  obtain ⟨hk, c, cnt, hcnt, hc, g1, g2, g3, g4, g5, g6, g7⟩ := hL
  have hT' : ∀ j, j < 777 → s.1 67 (777 * k + j) = T (777 * k + j) := fun j hj => h1 _ (by omega) (by omega)
  obtain ⟨ν, hνe⟩ : ∃ ν : Nat → Int, ν = fun j => s.1 71 (t_ri j) := ⟨_, rfl⟩
  have hb : t_bn ν := fun j hj => by
    have := h2 (t_ri j) (t_ri_8 j hj)
    rw [hνe]
    show c_in (s.1 71 (t_ri j))
    exact ⟨by omega, by omega⟩
  have hν : ∀ k, k < 8 → s.1 71 k = ν (t_rn k) ∧ c_in (s.1 71 k) := fun j hj => by
    have := h2 j hj
    refine ⟨?_, ⟨by omega, by omega⟩⟩
    rw [hνe]
    show _ = s.1 71 (t_ri (t_rn j))
    rw [t_ri_rn j hj]
  obtain ⟨g', r1, r2⟩ := n_loop (s := s) (ν := ν) (z1 := 777 * k + 1 + 7 * c) (base := 777 * k + 169) (K := fun s_u29 => some ((s_u29.2.2 0), s_u29)) hν (by omega) (to := f0 + E.length) (by rw [show 777 * k + 1 + 7 * c + 2 = 777 * k + (3 + 7 * c) by omega, hT' _ (by omega), show 777 * k + (3 + 7 * c) = 777 * k + 3 + 7 * c by omega]; exact g5) E f0 d_N [] [V ν] s.2.2 (fun j hj => by
    obtain ⟨e, a1, a2, a3, a4⟩ := g7 j hj
    refine ⟨e, a1, ?_, ?_, a4⟩
    · rw [show 777 * k + 169 + 2 * (f0 + j) = 777 * k + (169 + 2 * (f0 + j)) by omega, hT' _ (by omega), show 777 * k + (169 + 2 * (f0 + j)) = 777 * k + 169 + 2 * (f0 + j) by omega]; exact a2
    · rw [show 777 * k + 169 + 2 * (f0 + j) + 1 = 777 * k + (169 + 2 * (f0 + j) + 1) by omega, hT' _ (by omega), show 777 * k + (169 + 2 * (f0 + j) + 1) = 777 * k + 169 + 2 * (f0 + j) + 1 by omega]; exact a3) rfl (by omega) trivial (by simp only [List.length_nil]; omega) (hE ν hb) (by rw [d_N_is]; omega)
  have hv0 : g' 0 = V ν := r2.1
  refine ⟨(s.1, s.2.1, g'), ?_, rfl, rfl⟩
  unfold F_X12_says
  refine Eq.trans (n_sayl (c := c) (cnt := cnt) hk hcnt ((hT' 0 (by omega)).trans g1) c 0 d_N (Nat.zero_add _) (by rw [d_N_is]; omega) (by omega) (fun a ha => by rw [show 777 * k + 1 + 7 * a = 777 * k + (1 + 7 * a) by omega, hT' _ (by omega)]; rw [show 777 * k + (1 + 7 * a) = 777 * k + 1 + 7 * a by omega]; exact g2 a ha) (fun _ => by rw [show 777 * k + 1 + 7 * c = 777 * k + (1 + 7 * c) by omega, hT' _ (by omega), show 777 * k + (1 + 7 * c) = 777 * k + 1 + 7 * c by omega]; exact g3)) ?_
  rw [if_pos hc]
  unfold F_X12_worked
  have e1 : d_w (777 * (k : Int) + 1 + 7 * (c : Int)) = ((777 * k + 1 + 7 * c : Nat) : Int) := by rw [d_w_id (by omega) (by omega)]; omega
  have e2 : d_w (((777 * k + 1 + 7 * c : Nat) : Int) + 1) = ((777 * k + 2 + 7 * c : Nat) : Int) := by rw [d_w_id (by omega) (by omega)]; omega
  have e3 : d_w (777 * (k : Int) + 169) = ((777 * k + 169 : Nat) : Int) := by rw [d_w_id (by omega) (by omega)]; omega
  have ef : s.1 67 (777 * k + 2 + 7 * c) = (f0 : Int) := by rw [show 777 * k + 2 + 7 * c = 777 * k + (2 + 7 * c) by omega, hT' _ (by omega), show 777 * k + (2 + 7 * c) = 777 * k + 2 + 7 * c by omega]; exact g4
  rw [e1, d_l_t, e2, d_g_t (by omega), Int.toNat_natCast, ef, d_l_t, e3]
  have r1' : F_X12_worked_l37 (fun s_u29 => some ((s_u29.2.2 0), s_u29)) d_N ((777 * k + 1 + 7 * c : Nat) : Int) ((777 * k + 169 : Nat) : Int) 0 (f0 : Int) s = some (g' 0, (s.1, s.2.1, g')) := r1
  rw [r1', d_b2_t, P_cut h3 h4, d_b_t, hv0, hνe]
end X15

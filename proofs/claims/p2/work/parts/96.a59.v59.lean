def v_beh (L : v_LR) (size edge day heat : Int) (x : Int) : Int := v_mf L day heat size (v_sf L day heat size (x % 10) (x / 10) edge) (x / 10) edge * 10 + v_sf L day heat size (x % 10) (x / 10) edge
def v_oc (L : List Nat) (s s' : d_S) : Prop := (∀ a, a ∉ L → s'.1 a = s.1 a) ∧ s'.2 = s.2
section V59
variable {s s1 s2 : d_S} {t : Nat → Option p_C} {L : v_LR} {u v W H N n b : Nat} {st me so : Nat → Nat} {sg : Nat → Nat → Nat} {day heat x size edge : Int} {e : Option Nat}
theorem v_oc.rf {M : List Nat} : v_oc M s s := ⟨fun _ _ => rfl, rfl⟩
theorem v_oc.tr {M : List Nat} (h : v_oc M s s1) (h' : v_oc M s1 s2) : v_oc M s s2 := ⟨fun a ha => (h'.1 a ha).trans (h.1 a ha), h'.2.trans h.2⟩
theorem v_oc.mono {M M' : List Nat} (h : v_oc M s s1) (hm : ∀ a, a ∈ M → a ∈ M') : v_oc M' s s1 := ⟨fun a ha => h.1 a (fun z => ha (hm a z)), h.2⟩
theorem v_oc.si {M : List Nat} {a k : Nat} {y : Int} (h : a ∈ M) : v_oc M s (d_si s a k y) := ⟨fun c hc => d_si_n (fun z => hc (z ▸ h)), rfl⟩
theorem v_beh_b (hx : 0 ≤ x ∧ x < 1000) : 0 ≤ v_beh L size edge day heat x ∧ v_beh L size edge day heat x ≤ 1009 := by
  unfold v_beh
  have h1 := v_sf_b (L := L) (size := size) (edge := edge) (day := day) (heat := heat) (straw := x % 10) (melted := x / 10) (by omega)
  have h2 := v_mf_b (L := L) (size := size) (edge := edge) (day := day) (heat := heat) (straw := v_sf L day heat size (x % 10) (x / 10) edge) (melted := x / 10) (by omega)
  omega
theorem P_behind2 (hT : v_CT t (s.2.1 47 3) L) (hb : v_tb s size edge) (hx : 0 ≤ x ∧ x < 1000) (hd : 0 ≤ day ∧ day ≤ 2000) (hh : 0 ≤ heat ∧ heat ≤ 9) : ∃ s', F_X2_behind t s x day heat = some (v_beh L size edge day heat x, s') ∧ v_oc [49, 50] s s' ∧ v_tb s' size edge := by
  have e1 : d_rem x 10 = x % 10 := v_remI hx.1 (by omega) (by decide) (by decide)
  have e2 : d_div x 10 = x / 10 := v_divI hx.1 (by omega) (by decide) (by decide)
  have b1 := v_sf_b (L := L) (size := size) (edge := edge) (day := day) (heat := heat) (straw := x % 10) (melted := x / 10) (by omega)
  have b2 := v_mf_b (L := L) (size := size) (edge := edge) (day := day) (heat := heat) (straw := v_sf L day heat size (x % 10) (x / 10) edge) (melted := x / 10) (by omega)
  obtain ⟨s1, a1, a2, a3, a4⟩ := P_strawFrom (day := day) (heat := heat) (straw := x % 10) (melted := x / 10) hT hb hd (by omega) (by omega) (by omega)
  obtain ⟨s2, c1, c2, c3, c4⟩ := P_meltedFrom (L := L) (day := day) (heat := heat) (straw := v_sf L day heat size (x % 10) (x / 10) edge) (melted := x / 10) (by rw [a3]; exact hT) a4 hd (by omega) (by omega) (by omega)
  refine ⟨s2, ?_, ⟨fun a ha => ?_, c3.trans a3⟩, c4⟩
  · unfold F_X2_behind
    rw [e1, e2, a1, d_b2_t, c1, d_b2_t, d_w_id (by omega) (by omega)]
    rfl
  · simp only [List.mem_cons, List.not_mem_nil, or_false, not_or] at ha
    exact (c2 a ha.1 ha.2).trans (a2 a ha.1 ha.2)
def v_sts (s : d_S) (a m : Nat) : Prop := ∀ i, i < m → 0 ≤ s.1 a i ∧ s.1 a i < 1000
theorem v_sts.eq {a m : Nat} (h : v_sts s a m) (h1 : s1.1 a = s.1 a) : v_sts s1 a m := fun i hi => by rw [h1]; exact h i hi
theorem v_sp24 {K : Int → Int → Int → Int → d_S → Option (Int × d_S)} {x1 : Int} {i many : Nat} (hd : 0 ≤ day ∧ day ≤ 2000) (hi : i < many) (hm : many ≤ 100) : ∀ (j k m : Nat), k + j = 10 → j < m → ∀ (more : Nat) (s : d_S), more ≤ 100 → v_CT t (s.2.1 47 3) L → v_tb s size edge → v_sts s 53 more → v_sts s 54 many → ∃ (more' : Nat) (s' : d_S), F_X2_spread_l24 t K m x1 day (more : Int) (i : Int) (k : Int) s = K x1 day (more' : Int) (i : Int) s' ∧ more' ≤ 100 ∧ v_tb s' size edge ∧ v_sts s' 53 more' ∧ v_oc [49, 50, 52, 53] s s' := by
  intro j
  induction j with
  | zero =>
    intro k m hk hf more s h1 h2 h3 h4 h5
    obtain ⟨m, rfl⟩ : ∃ q, m = q + 1 := ⟨m - 1, by omega⟩
    refine ⟨more, s, ?_, h1, h3, h4, v_oc.rf⟩
    show F_X2_spread_l24_b t K (F_X2_spread_l24 t K m) _ _ _ _ _ _ = _
    unfold F_X2_spread_l24_b
    rw [if_neg (by omega)]
  | succ j ih =>
    intro k m hk hf more s h1 h2 h3 h4 h5
    obtain ⟨m, rfl⟩ : ∃ q, m = q + 1 := ⟨m - 1, by omega⟩
    obtain ⟨s1, a1, a2, a3⟩ := P_behind2 (x := s.1 54 i) (day := day) (heat := (k : Int)) h2 h3 (h5 i hi) hd (by omega)
    have hv := v_beh_b (L := L) (size := size) (edge := edge) (day := day) (heat := (k : Int)) (h5 i hi)
    have hT1 : v_CT t (s1.2.1 47 3) L := by rw [a2.2]; exact h2
    have e53 : s1.1 53 = s.1 53 := a2.1 53 (by decide)
    have e54 : s1.1 54 = s.1 54 := a2.1 54 (by decide)
    have ek : d_w ((k : Int) + 1) = ((k + 1 : Nat) : Int) := d_w_id (by omega) (by omega)
    show ∃ more' s', F_X2_spread_l24_b t K (F_X2_spread_l24 t K m) _ _ _ _ _ _ = _ ∧ _
    unfold F_X2_spread_l24_b
    rw [if_pos (by omega), d_g_t (by omega), Int.toNat_natCast, a1, d_b2_t, if_neg (by omega), ek]
    generalize v_beh L size edge day (k : Int) (s.1 54 i) = w at hv
    have m4 : ∀ {a b : d_S}, v_oc [49, 50] a b → v_oc [49, 50, 52, 53] a b := fun h => h.mono (by decide)
    by_cases q : w < 1000
    · rw [if_pos q, d_g_t (by omega)]
      have go : ∀ (more2 : Nat) (s2 : d_S), more2 ≤ 100 → v_oc [53] s1 s2 → v_sts s2 53 more2 → ∃ (more' : Nat) (s' : d_S), F_X2_spread_j90 t (F_X2_spread_l24 t K m) x1 day (more2 : Int) (i : Int) (k : Int) w s2 = K x1 day (more' : Int) (i : Int) s' ∧ more' ≤ 100 ∧ v_tb s' size edge ∧ v_sts s' 53 more' ∧ v_oc [49, 50, 52, 53] s s' := fun more2 s2 g1 g2 g3 => by
        obtain ⟨s3, hs3⟩ : ∃ z, z = d_si s2 52 w.toNat (d_w (s2.1 52 w.toNat + s2.1 55 i)) := ⟨_, rfl⟩
        have f : v_oc [52, 53] s1 s3 := by
          rw [hs3]
          exact (g2.mono (by decide)).tr (v_oc.si (by decide))
        obtain ⟨more', s', b1, b2, b3, b4, b5⟩ := ih (k + 1) m (by omega) (by omega) more2 s3 g1 (by rw [f.2]; exact hT1) (by unfold v_tb at a3 ⊢; rw [f.1 49 (by decide)]; exact a3) (g3.eq (by rw [hs3, d_si_n (by decide)])) (h5.eq ((f.1 54 (by decide)).trans e54))
        refine ⟨more', s', ?_, b2, b3, b4, ((m4 a2).tr (f.mono (by decide))).tr b5⟩
        unfold F_X2_spread_j90
        rw [d_g_t (by omega), d_g_t (by omega), d_g_t (by omega), d_l_t, Int.toNat_natCast, ← hs3, ek]
        exact b1
      by_cases q2 : s1.1 52 w.toNat = 0
      · rw [if_pos q2]
        by_cases q3 : more < 100
        · rw [if_pos (by omega), d_g_t (by omega), d_l_t, Int.toNat_natCast, d_w_id (x := (more : Int) + 1) (by omega) (by omega)]
          refine go (more + 1) _ (by omega) (v_oc.si (by decide)) (fun c hc => ?_)
          rw [d_si_i]
          by_cases z : c = more
          · subst z; rw [d_u_t]; omega
          · rw [d_u_n z, e53]; exact h4 c (by omega)
        · rw [if_neg (by omega)]
          exact go more s1 h1 v_oc.rf (h4.eq e53)
      · rw [if_neg q2]
        exact go more s1 h1 v_oc.rf (h4.eq e53)
    · rw [if_neg q]
      obtain ⟨more', s', b1, b2, b3, b4, b5⟩ := ih (k + 1) m (by omega) (by omega) more s1 h1 hT1 a3 (h4.eq e53) (h5.eq e54)
      exact ⟨more', s', b1, b2, b3, b4, (m4 a2).tr b5⟩
theorem v_sp5 {K : Int → d_S → Option (Int × d_S)} {many : Nat} (hd : 0 ≤ day ∧ day ≤ 2000) (hm : many ≤ 100) : ∀ (j k m : Nat), k + j = many → j < m → ∀ (more : Nat) (s : d_S), more ≤ 100 → v_CT t (s.2.1 47 3) L → v_tb s size edge → v_sts s 53 more → v_sts s 54 many → ∃ (more' : Nat) (s' : d_S), F_X2_spread_l5 t K m (many : Int) day (more : Int) (k : Int) s = K (more' : Int) s' ∧ more' ≤ 100 ∧ v_tb s' size edge ∧ v_sts s' 53 more' ∧ v_oc [49, 50, 52, 53] s s' := by
  intro j
  induction j with
  | zero =>
    intro k m hk hf more s h1 h2 h3 h4 h5
    obtain ⟨m, rfl⟩ : ∃ q, m = q + 1 := ⟨m - 1, by omega⟩
    refine ⟨more, s, ?_, h1, h3, h4, v_oc.rf⟩
    show F_X2_spread_l5_b t K (F_X2_spread_l5 t K m) _ _ _ _ _ = _
    unfold F_X2_spread_l5_b
    rw [if_neg (by omega)]
  | succ j ih =>
    intro k m hk hf more s h1 h2 h3 h4 h5
    obtain ⟨m, rfl⟩ : ∃ q, m = q + 1 := ⟨m - 1, by omega⟩
    obtain ⟨more1, s1, a1, a2, a3, a4, a5⟩ := v_sp24 (t := t) (L := L) (size := size) (edge := edge) (K := fun x1_u11 x2_u11 x3_u11 x4_u11 s_u11 => F_X2_spread_l5 t K m x1_u11 x2_u11 x3_u11 (d_w (x4_u11 + 1)) s_u11) (x1 := (many : Int)) (i := k) (many := many) hd (by omega) hm 10 0 d_N rfl (by rw [d_N_is]; decide) more s h1 h2 h3 h4 h5
    obtain ⟨more', s', b1, b2, b3, b4, b5⟩ := ih (k + 1) m (by omega) (by omega) more1 s1 a2 (by rw [a5.2]; exact h2) a3 a4 (h5.eq (a5.1 54 (by decide)))
    refine ⟨more', s', ?_, b2, b3, b4, a5.tr b5⟩
    show F_X2_spread_l5_b t K (F_X2_spread_l5 t K m) _ _ _ _ _ = _
    unfold F_X2_spread_l5_b
    rw [if_pos (by omega), if_pos (by omega)]
    refine a1.trans ?_
    show F_X2_spread_l5 t K m _ _ _ (d_w ((k : Int) + 1)) s1 = _
    rw [d_w_id (x := (k : Int) + 1) (by omega) (by omega)]
    exact b1
theorem v_gth {more : Nat} (hm : more ≤ 100) : ∀ (j k m : Nat), k + j = more → j < m → ∀ s : d_S, v_sts s 53 more → v_sts s 54 k → ∃ s', F_X2_gather_l2 m (more : Int) (k : Int) s = some s' ∧ v_sts s' 54 more ∧ v_oc [52, 54, 55] s s' := by
  intro j
  induction j with
  | zero =>
    intro k m hk hf s h1 h2
    obtain ⟨m, rfl⟩ : ∃ q, m = q + 1 := ⟨m - 1, by omega⟩
    have hk : k = more := by omega
    subst hk
    refine ⟨s, ?_, h2, v_oc.rf⟩
    show F_X2_gather_l2_b (F_X2_gather_l2 m) _ _ _ = _
    unfold F_X2_gather_l2_b
    rw [if_neg (by omega)]
  | succ j ih =>
    intro k m hk hf s h1 h2
    obtain ⟨m, rfl⟩ : ∃ q, m = q + 1 := ⟨m - 1, by omega⟩
    have h0 := h1 k (by omega)
    obtain ⟨w, hw⟩ : ∃ w, w = s.1 53 k := ⟨_, rfl⟩
    obtain ⟨s3, hs3⟩ : ∃ z, z = d_si s 54 k w := ⟨_, rfl⟩
    obtain ⟨s6, hs6⟩ : ∃ z, z = d_si s3 55 k (s3.1 52 w.toNat) := ⟨_, rfl⟩
    obtain ⟨s8, hs8⟩ : ∃ z, z = d_si s6 52 w.toNat 0 := ⟨_, rfl⟩
    have f8 : v_oc [52, 54, 55] s s8 := by
      rw [hs8, hs6, hs3]
      exact ((v_oc.si (by decide)).tr (v_oc.si (by decide))).tr (v_oc.si (by decide))
    have e54 : s8.1 54 = d_u (s.1 54) k w := by rw [hs8, d_si_n (by decide), hs6, d_si_n (by decide), hs3, d_si_i]
    obtain ⟨s', b1, b2, b3⟩ := ih (k + 1) m (by omega) (by omega) s8 (h1.eq (f8.1 53 (by decide))) (fun c hc => by
      rw [e54]
      by_cases z : c = k
      · subst z; rw [d_u_t, hw]; exact h0
      · rw [d_u_n z]; exact h2 c (by omega))
    refine ⟨s', ?_, b2, f8.tr b3⟩
    show F_X2_gather_l2_b (F_X2_gather_l2 m) _ _ _ = _
    unfold F_X2_gather_l2_b
    rw [if_pos (by omega), if_pos (by omega), d_g_t (by omega), Int.toNat_natCast, ← hw, if_neg (by omega), if_pos (by omega), d_g_t (by omega), d_l_t, ← hs3, d_g_t (by omega), d_g_t (by omega), d_l_t, ← hs6, d_g_t (by omega), d_l_t, ← hs8, d_w_id (x := (k : Int) + 1) (by omega) (by omega)]
    exact b1
theorem P_spread_t {many : Nat} (hd : 0 ≤ day ∧ day ≤ 2000) (hm : many ≤ 100) (h2 : v_CT t (s.2.1 47 3) L) (h3 : v_tb s size edge) (h5 : v_sts s 54 many) : ∃ (more : Nat) (s' : d_S), F_X2_spread t s (many : Int) day = some ((more : Int), s') ∧ more ≤ 100 ∧ v_tb s' size edge ∧ v_sts s' 54 more ∧ v_oc [49, 50, 52, 53, 54, 55] s s' := by
  obtain ⟨more, s1, a1, a2, a3, a4, a5⟩ := v_sp5 (t := t) (L := L) (size := size) (edge := edge) (K := fun x3_u12 s_u12 => d_b (F_X2_gather s_u12 x3_u12) (fun s13 => some (x3_u12, s13))) hd hm many 0 d_N (by omega) (by rw [d_N_is]; omega) 0 s (by omega) h2 h3 (fun i hi => absurd hi (Nat.not_lt_zero i)) h5
  obtain ⟨s2, b1, b2, b3⟩ := v_gth a2 more 0 d_N (by omega) (by rw [d_N_is]; omega) s1 a4 (fun i hi => absurd hi (Nat.not_lt_zero i))
  refine ⟨more, s2, ?_, a2, ?_, b2, (a5.mono (by decide)).tr (b3.mono (by decide))⟩
  · unfold F_X2_spread
    refine a1.trans ?_
    show d_b (F_X2_gather_l2 d_N (more : Int) 0 s1) _ = _
    have b1' : F_X2_gather_l2 d_N (more : Int) 0 s1 = some s2 := b1
    rw [b1', d_b_t]
  · unfold v_tb at a3 ⊢
    rw [b3.1 49 (by decide)]; exact a3
theorem v_lo24 {K : Int → Int → Int → Int → d_S → Option (Int × d_S)} {x1 : Int} {i many : Nat} (hd : 0 ≤ day ∧ day ≤ 2000) (hi : i < many) (hm : many ≤ 100) : ∀ (j k m : Nat), k + j = 10 → j < m → ∀ (y : Int) (s : d_S), v_CT t (s.2.1 47 3) L → v_tb s size edge → v_sts s 54 many → ∃ (y' : Int) (s' : d_S), F_X2_leftOver_l24 t K m x1 day y (i : Int) (k : Int) s = K x1 day y' (i : Int) s' ∧ v_tb s' size edge ∧ v_oc [49, 50] s s' := by
  intro j
  induction j with
  | zero =>
    intro k m hk hf y s h2 h3 h5
    obtain ⟨m, rfl⟩ : ∃ q, m = q + 1 := ⟨m - 1, by omega⟩
    refine ⟨y, s, ?_, h3, v_oc.rf⟩
    show F_X2_leftOver_l24_b t K (F_X2_leftOver_l24 t K m) _ _ _ _ _ _ = _
    unfold F_X2_leftOver_l24_b
    rw [if_neg (by omega)]
  | succ j ih =>
    intro k m hk hf y s h2 h3 h5
    obtain ⟨m, rfl⟩ : ∃ q, m = q + 1 := ⟨m - 1, by omega⟩
    obtain ⟨s1, a1, a2, a3⟩ := P_behind2 (x := s.1 54 i) (day := day) (heat := (k : Int)) h2 h3 (h5 i hi) hd (by omega)
    have ek : d_w ((k : Int) + 1) = ((k + 1 : Nat) : Int) := d_w_id (by omega) (by omega)
    have go : ∀ y2 : Int, ∃ (y' : Int) (s' : d_S), F_X2_leftOver_l24 t K m x1 day y2 (i : Int) ((k + 1 : Nat) : Int) s1 = K x1 day y' (i : Int) s' ∧ v_tb s' size edge ∧ v_oc [49, 50] s s' := fun y2 => by
      obtain ⟨y', s', b1, b2, b3⟩ := ih (k + 1) m (by omega) (by omega) y2 s1 (by rw [a2.2]; exact h2) a3 (h5.eq (a2.1 54 (by decide)))
      exact ⟨y', s', b1, b2, a2.tr b3⟩
    show ∃ y' s', F_X2_leftOver_l24_b t K (F_X2_leftOver_l24 t K m) _ _ _ _ _ _ = _ ∧ _
    unfold F_X2_leftOver_l24_b
    rw [if_pos (by omega), d_g_t (by omega), Int.toNat_natCast, a1, d_b2_t, ek]
    by_cases q : v_beh L size edge day (k : Int) (s.1 54 i) < 1000
    · rw [if_pos q, d_g_t (by omega), d_l_t]
      exact go _
    · rw [if_neg q]
      exact go _
theorem v_lo5 {many : Nat} (hd : 0 ≤ day ∧ day ≤ 2000) (hm : many ≤ 100) : ∀ (j k m : Nat), k + j = many → j < m → ∀ (y : Int) (s : d_S), v_CT t (s.2.1 47 3) L → v_tb s size edge → v_sts s 54 many → ∃ (y' : Int) (s' : d_S), F_X2_leftOver_l5 t m (many : Int) day y (k : Int) s = some (y', s') ∧ v_tb s' size edge ∧ v_oc [49, 50] s s' := by
  intro j
  induction j with
  | zero =>
    intro k m hk hf y s h2 h3 h5
    obtain ⟨m, rfl⟩ : ∃ q, m = q + 1 := ⟨m - 1, by omega⟩
    refine ⟨y, s, ?_, h3, v_oc.rf⟩
    show F_X2_leftOver_l5_b t (F_X2_leftOver_l5 t m) _ _ _ _ _ = _
    unfold F_X2_leftOver_l5_b
    rw [if_neg (by omega)]
  | succ j ih =>
    intro k m hk hf y s h2 h3 h5
    obtain ⟨m, rfl⟩ : ∃ q, m = q + 1 := ⟨m - 1, by omega⟩
    obtain ⟨y1, s1, a1, a2, a3⟩ := v_lo24 (t := t) (L := L) (size := size) (edge := edge) (K := fun x1_u6 x2_u6 x3_u6 x4_u6 s_u6 => F_X2_leftOver_l5 t m x1_u6 x2_u6 x3_u6 (d_w (x4_u6 + 1)) s_u6) (x1 := (many : Int)) (i := k) (many := many) hd (by omega) hm 10 0 d_N rfl (by rw [d_N_is]; decide) y s h2 h3 h5
    obtain ⟨y', s', b1, b2, b3⟩ := ih (k + 1) m (by omega) (by omega) y1 s1 (by rw [a3.2]; exact h2) a2 (h5.eq (a3.1 54 (by decide)))
    refine ⟨y', s', ?_, b2, a3.tr b3⟩
    show F_X2_leftOver_l5_b t (F_X2_leftOver_l5 t m) _ _ _ _ _ = _
    unfold F_X2_leftOver_l5_b
    rw [if_pos (by omega), if_pos (by omega)]
    refine a1.trans ?_
    show F_X2_leftOver_l5 t m _ _ _ (d_w ((k : Int) + 1)) s1 = _
    rw [d_w_id (x := (k : Int) + 1) (by omega) (by omega)]
    exact b1
end V59

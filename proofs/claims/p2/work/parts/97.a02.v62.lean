section V62
variable {s s1 s2 : d_S} {t : Nat → Option p_C} {L : v_LR} {u v W H N b : Nat} {st me so : Nat → Nat} {sg : Nat → Nat → Nat} {day heat x : Int} {e : Option Nat}
def v_os (s s' : d_S) : Prop := (∀ a, a ≠ 47 → a ≠ 49 → a ≠ 50 → (a < 56 ∨ 60 < a) → s'.1 a = s.1 a) ∧ (∀ a, a ≠ 47 → s'.2.1 a = s.2.1 a) ∧ v_Nm (s'.1 49)
theorem v_os.tr (h : v_os s s1) (h' : v_os s1 s2) : v_os s s2 := ⟨fun a b c d e => (h'.1 a b c d e).trans (h.1 a b c d e), fun a b => (h'.2.1 a b).trans (h.2.1 a b), h'.2.2⟩
theorem v_os.si (h : v_os s s1) {a k : Nat} {y : Int} (ha : 56 ≤ a ∧ a ≤ 60) : v_os s (d_si s1 a k y) := ⟨fun c h1 h2 h3 h4 => (d_si_n (by omega)).trans (h.1 c h1 h2 h3 h4), h.2.1, by rw [d_si_n (by omega)]; exact h.2.2⟩
theorem v_os.oc (h : v_os s s1) (h' : v_oc [56, 59, 60] s1 s2) : v_os s s2 := ⟨fun a b c d e => (h'.1 a (by simp only [List.mem_cons, List.not_mem_nil, or_false, not_or]; omega)).trans (h.1 a b c d e), fun a b => by rw [h'.2]; exact h.2.1 a b, by rw [h'.1 49 (by decide)]; exact h.2.2⟩
theorem v_rdy.os (h : v_rdy t s L u v W H st me so N sg day heat x) (h' : v_os s s1) : v_rdy t s1 L u v W H st me so N sg day heat x := h.fr (fun a ha => h'.1 a (by omega) (by omega) (by omega) (by omega)) (h'.2.1 5 (by decide)) h'.2.2
theorem v_R.os (h : v_R t s) (h' : v_os s s1) : v_R t s1 := h.scr (fun a ha => h'.1 a (by unfold v_cl at ha; omega) (by unfold v_cl at ha; omega) (by unfold v_cl at ha; omega) (by unfold v_cl at ha; omega)) (fun a ha => h'.2.1 a ha) ⟨h'.2.2, by rw [h'.1 71 (by decide) (by decide) (by decide) (by decide)]; exact h.2.2.2.2.2.2.2.1.2⟩
theorem P_part10_t {x1 x2 : Int} : ∃ y, F_X8_part_10 s x1 x2 = some y := by
  unfold F_X8_part_10
  by_cases q : d_w (x1 * 4 + x2) < 0
  · rw [if_pos q]; exact ⟨_, rfl⟩
  · rw [if_neg q]
    by_cases q2 : d_w (x1 * 4 + x2) < 32
    · rw [if_pos q2, d_g_t (by omega)]; exact ⟨_, rfl⟩
    · rw [if_neg q2]; exact ⟨_, rfl⟩
theorem v_frl {y : Int} {c : Nat} (hc : c ≤ 5) : ∀ (j k m : Nat), k + j = c → j < m → ∃ r, F_X5_isFree_l2 s m y (c : Int) (k : Int) = some r := by
  intro j
  induction j with
  | zero =>
    intro k m hk hf
    obtain ⟨m, rfl⟩ : ∃ q, m = q + 1 := ⟨m - 1, by omega⟩
    refine ⟨1, ?_⟩
    show F_X5_isFree_l2_b s (F_X5_isFree_l2 s m) _ _ _ = _
    unfold F_X5_isFree_l2_b
    rw [if_neg (by omega)]
  | succ j ih =>
    intro k m hk hf
    obtain ⟨m, rfl⟩ : ∃ q, m = q + 1 := ⟨m - 1, by omega⟩
    obtain ⟨r, hr⟩ := ih (k + 1) m (by omega) (by omega)
    show ∃ r, F_X5_isFree_l2_b s (F_X5_isFree_l2 s m) _ _ _ = _
    unfold F_X5_isFree_l2_b
    rw [if_pos (by omega), if_pos (by omega), d_g_t (by omega), d_w_id (x := (k : Int) + 1) (by omega) (by omega)]
    split
    · exact ⟨0, rfl⟩
    · exact ⟨r, hr⟩
theorem P_isFree_t {y : Int} {c : Nat} (hc : c ≤ 5) : ∃ r, F_X5_isFree s y (c : Int) = some r := v_frl hc c 0 d_N (by omega) (by rw [d_N_is]; omega)
theorem v_chd1 {x2 : Int} : ∃ s', F_X5_choose_1_j30 x2 s = some s' ∧ v_oc [56, 59, 60] s s' := by
  unfold F_X5_choose_1_j30
  rw [d_l_t, d_l_t]
  refine ⟨_, rfl, fun a ha => ?_, rfl⟩
  have h60 : a ≠ 60 := fun z => ha (by rw [z]; decide)
  have h56 : a ≠ 56 := fun z => ha (by rw [z]; decide)
  exact (d_st_n h60).trans (d_si_n h56)
theorem v_cho1 (hc : s.1 10 2 ≤ 5) {x2 x3 : Int} : ∃ s', F_X5_choose_1 s ((5 : Nat) : Int) x2 x3 = some s' ∧ v_oc [56, 59, 60] s s' := by
  unfold F_X5_choose_1
  split
  · rw [if_neg (by omega)]
    exact v_chd1
  · exact ⟨s, rfl, v_oc.rf⟩
theorem v_chd2 {x2 : Int} : ∃ s', F_X5_choose_2_j30 x2 s = some s' ∧ v_oc [56, 59, 60] s s' := by
  unfold F_X5_choose_2_j30
  rw [d_l_t, d_l_t]
  refine ⟨_, rfl, fun a ha => ?_, rfl⟩
  have h60 : a ≠ 60 := fun z => ha (by rw [z]; decide)
  have h56 : a ≠ 56 := fun z => ha (by rw [z]; decide)
  exact (d_st_n h60).trans (d_si_n h56)
theorem v_chl2 {K : Int → Int → Int → Int → d_S → Option d_S} {x2 x3 x4 : Int} : ∀ (j k m : Nat), k + j = 5 → j < m → ∀ s : d_S, s.1 10 2 ≤ 5 → ∃ s', F_X5_choose_2_l71 K m ((4 : Nat) : Int) x2 x3 x4 (k : Int) s = K ((4 : Nat) : Int) x2 x3 x4 s' ∧ v_oc [56, 59, 60] s s' := by
  intro j
  induction j with
  | zero =>
    intro k m hk hf s hc
    obtain ⟨m, rfl⟩ : ∃ q, m = q + 1 := ⟨m - 1, by omega⟩
    refine ⟨s, ?_, v_oc.rf⟩
    show F_X5_choose_2_l71_b K (F_X5_choose_2_l71 K m) _ _ _ _ _ _ = _
    unfold F_X5_choose_2_l71_b
    rw [d_g_t (by omega)]
    split
    · rw [if_neg (by omega)]
    · rfl
  | succ j ih =>
    intro k m hk hf s hc
    obtain ⟨m, rfl⟩ : ∃ q, m = q + 1 := ⟨m - 1, by omega⟩
    have ek : d_w ((k : Int) + 1) = ((k + 1 : Nat) : Int) := d_w_id (by omega) (by omega)
    have e5 : d_w (((4 : Nat) : Int) * 5 + (k : Int)) = ((4 * 5 + k : Nat) : Int) := d_w_id (by omega) (by omega)
    have e1 : d_w (((4 : Nat) : Int) + 1) = ((5 : Nat) : Int) := d_w_id (by omega) (by omega)
    show ∃ s', F_X5_choose_2_l71_b K (F_X5_choose_2_l71 K m) _ _ _ _ _ _ = _ ∧ _
    unfold F_X5_choose_2_l71_b
    rw [d_g_t (by omega)]
    split
    rotate_left
    · exact ⟨s, rfl, v_oc.rf⟩
    rw [if_pos (by omega), e5, d_g_t (by omega), d_l_t]
    obtain ⟨r, hr⟩ := P_isFree_t (s := s) (y := s.1 57 (((4 * 5 + k : Nat) : Int)).toNat) (c := 4) (by decide)
    rw [hr, d_b_t, ek]
    split
    · exact ih (k + 1) m (by omega) (by omega) s hc
    · rw [d_g_t (by omega), d_l_t, e1]
      obtain ⟨s7, hs7⟩ : ∃ z, z = d_si s 59 (((4 : Nat) : Int)).toNat (s.1 57 (((4 * 5 + k : Nat) : Int)).toNat) := ⟨_, rfl⟩
      have f7 : v_oc [56, 59, 60] s s7 := by rw [hs7]; exact v_oc.si (by decide)
      rw [← hs7]
      obtain ⟨s8, a1, a2⟩ := v_cho1 (s := s7) (by rw [f7.1 10 (by decide)]; exact hc) (x2 := d_w (x2 + x4)) (x3 := d_w (x3 - x4))
      rw [a1, d_b_t]
      obtain ⟨s', b1, b2⟩ := ih (k + 1) m (by omega) (by omega) s8 (by rw [a2.1 10 (by decide), f7.1 10 (by decide)]; exact hc)
      exact ⟨s', b1, (f7.tr a2).tr b2⟩
theorem v_cho2 (hc : s.1 10 2 ≤ 5) {x2 x3 : Int} : ∃ s', F_X5_choose_2 s ((4 : Nat) : Int) x2 x3 = some s' ∧ v_oc [56, 59, 60] s s' := by
  unfold F_X5_choose_2
  split
  rotate_left
  · exact ⟨s, rfl, v_oc.rf⟩
  split
  rotate_left
  · exact v_chd2
  rw [if_pos (by omega)]
  obtain ⟨y, hy⟩ := P_part10_t (s := s) (x1 := ((4 : Nat) : Int)) (x2 := 2)
  rw [hy, d_b_t]
  obtain ⟨s1, a1, a2⟩ := v_chl2 (K := fun x1_u9 x2_u9 x3_u9 x4_u9 s_u9 => d_g (0 ≤ x1_u9 ∧ x1_u9 < 5) (d_l (d_si s_u9 59 ((x1_u9).toNat) (-1)) (fun s11 => d_b (F_X5_choose_1 s11 (d_w (x1_u9 + 1)) x2_u9 (d_w (x3_u9 - x4_u9))) (fun s12 => some s12)))) (x2 := x2) (x3 := x3) (x4 := y) 5 0 d_N rfl (by rw [d_N_is]; decide) s hc
  obtain ⟨s2, hs2⟩ : ∃ z, z = d_si s1 59 (((4 : Nat) : Int)).toNat (-1) := ⟨_, rfl⟩
  have f2 : v_oc [56, 59, 60] s1 s2 := by rw [hs2]; exact v_oc.si (by decide)
  obtain ⟨s3, b1, b2⟩ := v_cho1 (s := s2) (by rw [f2.1 10 (by decide), a2.1 10 (by decide)]; exact hc) (x2 := x2) (x3 := d_w (x3 - y))
  refine ⟨s3, ?_, (a2.tr f2).tr b2⟩
  refine a1.trans ?_
  have e1 : d_w (((4 : Nat) : Int) + 1) = ((5 : Nat) : Int) := d_w_id (by omega) (by omega)
  show d_g (0 ≤ ((4 : Nat) : Int) ∧ ((4 : Nat) : Int) < 5) (d_l (d_si s1 59 (((4 : Nat) : Int)).toNat (-1)) (fun s11 => d_b (F_X5_choose_1 s11 (d_w (((4 : Nat) : Int) + 1)) x2 (d_w (x3 - y))) (fun s12 => some s12))) = _
  rw [d_g_t (by omega), d_l_t, ← hs2, e1, b1, d_b_t]
theorem v_chd3 {x2 : Int} : ∃ s', F_X5_choose_3_j30 x2 s = some s' ∧ v_oc [56, 59, 60] s s' := by
  unfold F_X5_choose_3_j30
  rw [d_l_t, d_l_t]
  refine ⟨_, rfl, fun a ha => ?_, rfl⟩
  have h60 : a ≠ 60 := fun z => ha (by rw [z]; decide)
  have h56 : a ≠ 56 := fun z => ha (by rw [z]; decide)
  exact (d_st_n h60).trans (d_si_n h56)
theorem v_chl3 {K : Int → Int → Int → Int → d_S → Option d_S} {x2 x3 x4 : Int} : ∀ (j k m : Nat), k + j = 5 → j < m → ∀ s : d_S, s.1 10 2 ≤ 5 → ∃ s', F_X5_choose_3_l71 K m ((3 : Nat) : Int) x2 x3 x4 (k : Int) s = K ((3 : Nat) : Int) x2 x3 x4 s' ∧ v_oc [56, 59, 60] s s' := by
  intro j
  induction j with
  | zero =>
    intro k m hk hf s hc
    obtain ⟨m, rfl⟩ : ∃ q, m = q + 1 := ⟨m - 1, by omega⟩
    refine ⟨s, ?_, v_oc.rf⟩
    show F_X5_choose_3_l71_b K (F_X5_choose_3_l71 K m) _ _ _ _ _ _ = _
    unfold F_X5_choose_3_l71_b
    rw [d_g_t (by omega)]
    split
    · rw [if_neg (by omega)]
    · rfl
  | succ j ih =>
    intro k m hk hf s hc
    obtain ⟨m, rfl⟩ : ∃ q, m = q + 1 := ⟨m - 1, by omega⟩
    have ek : d_w ((k : Int) + 1) = ((k + 1 : Nat) : Int) := d_w_id (by omega) (by omega)
    have e5 : d_w (((3 : Nat) : Int) * 5 + (k : Int)) = ((3 * 5 + k : Nat) : Int) := d_w_id (by omega) (by omega)
    have e1 : d_w (((3 : Nat) : Int) + 1) = ((4 : Nat) : Int) := d_w_id (by omega) (by omega)
    show ∃ s', F_X5_choose_3_l71_b K (F_X5_choose_3_l71 K m) _ _ _ _ _ _ = _ ∧ _
    unfold F_X5_choose_3_l71_b
    rw [d_g_t (by omega)]
    split
    rotate_left
    · exact ⟨s, rfl, v_oc.rf⟩
    rw [if_pos (by omega), e5, d_g_t (by omega), d_l_t]
    obtain ⟨r, hr⟩ := P_isFree_t (s := s) (y := s.1 57 (((3 * 5 + k : Nat) : Int)).toNat) (c := 3) (by decide)
    rw [hr, d_b_t, ek]
    split
    · exact ih (k + 1) m (by omega) (by omega) s hc
    · rw [d_g_t (by omega), d_l_t, e1]
      obtain ⟨s7, hs7⟩ : ∃ z, z = d_si s 59 (((3 : Nat) : Int)).toNat (s.1 57 (((3 * 5 + k : Nat) : Int)).toNat) := ⟨_, rfl⟩
      have f7 : v_oc [56, 59, 60] s s7 := by rw [hs7]; exact v_oc.si (by decide)
      rw [← hs7]
      obtain ⟨s8, a1, a2⟩ := v_cho2 (s := s7) (by rw [f7.1 10 (by decide)]; exact hc) (x2 := d_w (x2 + x4)) (x3 := d_w (x3 - x4))
      rw [a1, d_b_t]
      obtain ⟨s', b1, b2⟩ := ih (k + 1) m (by omega) (by omega) s8 (by rw [a2.1 10 (by decide), f7.1 10 (by decide)]; exact hc)
      exact ⟨s', b1, (f7.tr a2).tr b2⟩
theorem v_cho3 (hc : s.1 10 2 ≤ 5) {x2 x3 : Int} : ∃ s', F_X5_choose_3 s ((3 : Nat) : Int) x2 x3 = some s' ∧ v_oc [56, 59, 60] s s' := by
  unfold F_X5_choose_3
  split
  rotate_left
  · exact ⟨s, rfl, v_oc.rf⟩
  split
  rotate_left
  · exact v_chd3
  rw [if_pos (by omega)]
  obtain ⟨y, hy⟩ := P_part10_t (s := s) (x1 := ((3 : Nat) : Int)) (x2 := 2)
  rw [hy, d_b_t]
  obtain ⟨s1, a1, a2⟩ := v_chl3 (K := fun x1_u9 x2_u9 x3_u9 x4_u9 s_u9 => d_g (0 ≤ x1_u9 ∧ x1_u9 < 5) (d_l (d_si s_u9 59 ((x1_u9).toNat) (-1)) (fun s11 => d_b (F_X5_choose_2 s11 (d_w (x1_u9 + 1)) x2_u9 (d_w (x3_u9 - x4_u9))) (fun s12 => some s12)))) (x2 := x2) (x3 := x3) (x4 := y) 5 0 d_N rfl (by rw [d_N_is]; decide) s hc
  obtain ⟨s2, hs2⟩ : ∃ z, z = d_si s1 59 (((3 : Nat) : Int)).toNat (-1) := ⟨_, rfl⟩
  have f2 : v_oc [56, 59, 60] s1 s2 := by rw [hs2]; exact v_oc.si (by decide)
  obtain ⟨s3, b1, b2⟩ := v_cho2 (s := s2) (by rw [f2.1 10 (by decide), a2.1 10 (by decide)]; exact hc) (x2 := x2) (x3 := d_w (x3 - y))
  refine ⟨s3, ?_, (a2.tr f2).tr b2⟩
  refine a1.trans ?_
  have e1 : d_w (((3 : Nat) : Int) + 1) = ((4 : Nat) : Int) := d_w_id (by omega) (by omega)
  show d_g (0 ≤ ((3 : Nat) : Int) ∧ ((3 : Nat) : Int) < 5) (d_l (d_si s1 59 (((3 : Nat) : Int)).toNat (-1)) (fun s11 => d_b (F_X5_choose_2 s11 (d_w (((3 : Nat) : Int) + 1)) x2 (d_w (x3 - y))) (fun s12 => some s12))) = _
  rw [d_g_t (by omega), d_l_t, ← hs2, e1, b1, d_b_t]
theorem v_chd4 {x2 : Int} : ∃ s', F_X5_choose_4_j30 x2 s = some s' ∧ v_oc [56, 59, 60] s s' := by
  unfold F_X5_choose_4_j30
  rw [d_l_t, d_l_t]
  refine ⟨_, rfl, fun a ha => ?_, rfl⟩
  have h60 : a ≠ 60 := fun z => ha (by rw [z]; decide)
  have h56 : a ≠ 56 := fun z => ha (by rw [z]; decide)
  exact (d_st_n h60).trans (d_si_n h56)
theorem v_chl4 {K : Int → Int → Int → Int → d_S → Option d_S} {x2 x3 x4 : Int} : ∀ (j k m : Nat), k + j = 5 → j < m → ∀ s : d_S, s.1 10 2 ≤ 5 → ∃ s', F_X5_choose_4_l71 K m ((2 : Nat) : Int) x2 x3 x4 (k : Int) s = K ((2 : Nat) : Int) x2 x3 x4 s' ∧ v_oc [56, 59, 60] s s' := by
  intro j
  induction j with
  | zero =>
    intro k m hk hf s hc
    obtain ⟨m, rfl⟩ : ∃ q, m = q + 1 := ⟨m - 1, by omega⟩
    refine ⟨s, ?_, v_oc.rf⟩
    show F_X5_choose_4_l71_b K (F_X5_choose_4_l71 K m) _ _ _ _ _ _ = _
    unfold F_X5_choose_4_l71_b
    rw [d_g_t (by omega)]
    split
    · rw [if_neg (by omega)]
    · rfl
  | succ j ih =>
    intro k m hk hf s hc
    obtain ⟨m, rfl⟩ : ∃ q, m = q + 1 := ⟨m - 1, by omega⟩
    have ek : d_w ((k : Int) + 1) = ((k + 1 : Nat) : Int) := d_w_id (by omega) (by omega)
    have e5 : d_w (((2 : Nat) : Int) * 5 + (k : Int)) = ((2 * 5 + k : Nat) : Int) := d_w_id (by omega) (by omega)
    have e1 : d_w (((2 : Nat) : Int) + 1) = ((3 : Nat) : Int) := d_w_id (by omega) (by omega)
    show ∃ s', F_X5_choose_4_l71_b K (F_X5_choose_4_l71 K m) _ _ _ _ _ _ = _ ∧ _
    unfold F_X5_choose_4_l71_b
    rw [d_g_t (by omega)]
    split
    rotate_left
    · exact ⟨s, rfl, v_oc.rf⟩
    rw [if_pos (by omega), e5, d_g_t (by omega), d_l_t]
    obtain ⟨r, hr⟩ := P_isFree_t (s := s) (y := s.1 57 (((2 * 5 + k : Nat) : Int)).toNat) (c := 2) (by decide)
    rw [hr, d_b_t, ek]
    split
    · exact ih (k + 1) m (by omega) (by omega) s hc
    · rw [d_g_t (by omega), d_l_t, e1]
      obtain ⟨s7, hs7⟩ : ∃ z, z = d_si s 59 (((2 : Nat) : Int)).toNat (s.1 57 (((2 * 5 + k : Nat) : Int)).toNat) := ⟨_, rfl⟩
      have f7 : v_oc [56, 59, 60] s s7 := by rw [hs7]; exact v_oc.si (by decide)
      rw [← hs7]
      obtain ⟨s8, a1, a2⟩ := v_cho3 (s := s7) (by rw [f7.1 10 (by decide)]; exact hc) (x2 := d_w (x2 + x4)) (x3 := d_w (x3 - x4))
      rw [a1, d_b_t]
      obtain ⟨s', b1, b2⟩ := ih (k + 1) m (by omega) (by omega) s8 (by rw [a2.1 10 (by decide), f7.1 10 (by decide)]; exact hc)
      exact ⟨s', b1, (f7.tr a2).tr b2⟩
theorem v_cho4 (hc : s.1 10 2 ≤ 5) {x2 x3 : Int} : ∃ s', F_X5_choose_4 s ((2 : Nat) : Int) x2 x3 = some s' ∧ v_oc [56, 59, 60] s s' := by
  unfold F_X5_choose_4
  split
  rotate_left
  · exact ⟨s, rfl, v_oc.rf⟩
  split
  rotate_left
  · exact v_chd4
  rw [if_pos (by omega)]
  obtain ⟨y, hy⟩ := P_part10_t (s := s) (x1 := ((2 : Nat) : Int)) (x2 := 2)
  rw [hy, d_b_t]
  obtain ⟨s1, a1, a2⟩ := v_chl4 (K := fun x1_u9 x2_u9 x3_u9 x4_u9 s_u9 => d_g (0 ≤ x1_u9 ∧ x1_u9 < 5) (d_l (d_si s_u9 59 ((x1_u9).toNat) (-1)) (fun s11 => d_b (F_X5_choose_3 s11 (d_w (x1_u9 + 1)) x2_u9 (d_w (x3_u9 - x4_u9))) (fun s12 => some s12)))) (x2 := x2) (x3 := x3) (x4 := y) 5 0 d_N rfl (by rw [d_N_is]; decide) s hc
  obtain ⟨s2, hs2⟩ : ∃ z, z = d_si s1 59 (((2 : Nat) : Int)).toNat (-1) := ⟨_, rfl⟩
  have f2 : v_oc [56, 59, 60] s1 s2 := by rw [hs2]; exact v_oc.si (by decide)
  obtain ⟨s3, b1, b2⟩ := v_cho3 (s := s2) (by rw [f2.1 10 (by decide), a2.1 10 (by decide)]; exact hc) (x2 := x2) (x3 := d_w (x3 - y))
  refine ⟨s3, ?_, (a2.tr f2).tr b2⟩
  refine a1.trans ?_
  have e1 : d_w (((2 : Nat) : Int) + 1) = ((3 : Nat) : Int) := d_w_id (by omega) (by omega)
  show d_g (0 ≤ ((2 : Nat) : Int) ∧ ((2 : Nat) : Int) < 5) (d_l (d_si s1 59 (((2 : Nat) : Int)).toNat (-1)) (fun s11 => d_b (F_X5_choose_3 s11 (d_w (((2 : Nat) : Int) + 1)) x2 (d_w (x3 - y))) (fun s12 => some s12))) = _
  rw [d_g_t (by omega), d_l_t, ← hs2, e1, b1, d_b_t]
theorem v_chd5 {x2 : Int} : ∃ s', F_X5_choose_5_j30 x2 s = some s' ∧ v_oc [56, 59, 60] s s' := by
  unfold F_X5_choose_5_j30
  rw [d_l_t, d_l_t]
  refine ⟨_, rfl, fun a ha => ?_, rfl⟩
  have h60 : a ≠ 60 := fun z => ha (by rw [z]; decide)
  have h56 : a ≠ 56 := fun z => ha (by rw [z]; decide)
  exact (d_st_n h60).trans (d_si_n h56)
theorem v_chl5 {K : Int → Int → Int → Int → d_S → Option d_S} {x2 x3 x4 : Int} : ∀ (j k m : Nat), k + j = 5 → j < m → ∀ s : d_S, s.1 10 2 ≤ 5 → ∃ s', F_X5_choose_5_l71 K m ((1 : Nat) : Int) x2 x3 x4 (k : Int) s = K ((1 : Nat) : Int) x2 x3 x4 s' ∧ v_oc [56, 59, 60] s s' := by
  intro j
  induction j with
  | zero =>
    intro k m hk hf s hc
    obtain ⟨m, rfl⟩ : ∃ q, m = q + 1 := ⟨m - 1, by omega⟩
    refine ⟨s, ?_, v_oc.rf⟩
    show F_X5_choose_5_l71_b K (F_X5_choose_5_l71 K m) _ _ _ _ _ _ = _
    unfold F_X5_choose_5_l71_b
    rw [d_g_t (by omega)]
    split
    · rw [if_neg (by omega)]
    · rfl
  | succ j ih =>
    intro k m hk hf s hc
    obtain ⟨m, rfl⟩ : ∃ q, m = q + 1 := ⟨m - 1, by omega⟩
    have ek : d_w ((k : Int) + 1) = ((k + 1 : Nat) : Int) := d_w_id (by omega) (by omega)
    have e5 : d_w (((1 : Nat) : Int) * 5 + (k : Int)) = ((1 * 5 + k : Nat) : Int) := d_w_id (by omega) (by omega)
    have e1 : d_w (((1 : Nat) : Int) + 1) = ((2 : Nat) : Int) := d_w_id (by omega) (by omega)
    show ∃ s', F_X5_choose_5_l71_b K (F_X5_choose_5_l71 K m) _ _ _ _ _ _ = _ ∧ _
    unfold F_X5_choose_5_l71_b
    rw [d_g_t (by omega)]
    split
    rotate_left
    · exact ⟨s, rfl, v_oc.rf⟩
    rw [if_pos (by omega), e5, d_g_t (by omega), d_l_t]
    obtain ⟨r, hr⟩ := P_isFree_t (s := s) (y := s.1 57 (((1 * 5 + k : Nat) : Int)).toNat) (c := 1) (by decide)
    rw [hr, d_b_t, ek]
    split
    · exact ih (k + 1) m (by omega) (by omega) s hc
    · rw [d_g_t (by omega), d_l_t, e1]
      obtain ⟨s7, hs7⟩ : ∃ z, z = d_si s 59 (((1 : Nat) : Int)).toNat (s.1 57 (((1 * 5 + k : Nat) : Int)).toNat) := ⟨_, rfl⟩
      have f7 : v_oc [56, 59, 60] s s7 := by rw [hs7]; exact v_oc.si (by decide)
      rw [← hs7]
      obtain ⟨s8, a1, a2⟩ := v_cho4 (s := s7) (by rw [f7.1 10 (by decide)]; exact hc) (x2 := d_w (x2 + x4)) (x3 := d_w (x3 - x4))
      rw [a1, d_b_t]
      obtain ⟨s', b1, b2⟩ := ih (k + 1) m (by omega) (by omega) s8 (by rw [a2.1 10 (by decide), f7.1 10 (by decide)]; exact hc)
      exact ⟨s', b1, (f7.tr a2).tr b2⟩
theorem v_cho5 (hc : s.1 10 2 ≤ 5) {x2 x3 : Int} : ∃ s', F_X5_choose_5 s ((1 : Nat) : Int) x2 x3 = some s' ∧ v_oc [56, 59, 60] s s' := by
  unfold F_X5_choose_5
  split
  rotate_left
  · exact ⟨s, rfl, v_oc.rf⟩
  split
  rotate_left
  · exact v_chd5
  rw [if_pos (by omega)]
  obtain ⟨y, hy⟩ := P_part10_t (s := s) (x1 := ((1 : Nat) : Int)) (x2 := 2)
  rw [hy, d_b_t]
  obtain ⟨s1, a1, a2⟩ := v_chl5 (K := fun x1_u9 x2_u9 x3_u9 x4_u9 s_u9 => d_g (0 ≤ x1_u9 ∧ x1_u9 < 5) (d_l (d_si s_u9 59 ((x1_u9).toNat) (-1)) (fun s11 => d_b (F_X5_choose_4 s11 (d_w (x1_u9 + 1)) x2_u9 (d_w (x3_u9 - x4_u9))) (fun s12 => some s12)))) (x2 := x2) (x3 := x3) (x4 := y) 5 0 d_N rfl (by rw [d_N_is]; decide) s hc
  obtain ⟨s2, hs2⟩ : ∃ z, z = d_si s1 59 (((1 : Nat) : Int)).toNat (-1) := ⟨_, rfl⟩
  have f2 : v_oc [56, 59, 60] s1 s2 := by rw [hs2]; exact v_oc.si (by decide)
  obtain ⟨s3, b1, b2⟩ := v_cho4 (s := s2) (by rw [f2.1 10 (by decide), a2.1 10 (by decide)]; exact hc) (x2 := x2) (x3 := d_w (x3 - y))
  refine ⟨s3, ?_, (a2.tr f2).tr b2⟩
  refine a1.trans ?_
  have e1 : d_w (((1 : Nat) : Int) + 1) = ((2 : Nat) : Int) := d_w_id (by omega) (by omega)
  show d_g (0 ≤ ((1 : Nat) : Int) ∧ ((1 : Nat) : Int) < 5) (d_l (d_si s1 59 (((1 : Nat) : Int)).toNat (-1)) (fun s11 => d_b (F_X5_choose_4 s11 (d_w (((1 : Nat) : Int) + 1)) x2 (d_w (x3 - y))) (fun s12 => some s12))) = _
  rw [d_g_t (by omega), d_l_t, ← hs2, e1, b1, d_b_t]
theorem v_chd6 {x2 : Int} : ∃ s', F_X5_choose_6_j30 x2 s = some s' ∧ v_oc [56, 59, 60] s s' := by
  unfold F_X5_choose_6_j30
  rw [d_l_t, d_l_t]
  refine ⟨_, rfl, fun a ha => ?_, rfl⟩
  have h60 : a ≠ 60 := fun z => ha (by rw [z]; decide)
  have h56 : a ≠ 56 := fun z => ha (by rw [z]; decide)
  exact (d_st_n h60).trans (d_si_n h56)
theorem v_chl6 {K : Int → Int → Int → Int → d_S → Option d_S} {x2 x3 x4 : Int} : ∀ (j k m : Nat), k + j = 5 → j < m → ∀ s : d_S, s.1 10 2 ≤ 5 → ∃ s', F_X5_choose_6_l71 K m ((0 : Nat) : Int) x2 x3 x4 (k : Int) s = K ((0 : Nat) : Int) x2 x3 x4 s' ∧ v_oc [56, 59, 60] s s' := by
  intro j
  induction j with
  | zero =>
    intro k m hk hf s hc
    obtain ⟨m, rfl⟩ : ∃ q, m = q + 1 := ⟨m - 1, by omega⟩
    refine ⟨s, ?_, v_oc.rf⟩
    show F_X5_choose_6_l71_b K (F_X5_choose_6_l71 K m) _ _ _ _ _ _ = _
    unfold F_X5_choose_6_l71_b
    rw [d_g_t (by omega)]
    split
    · rw [if_neg (by omega)]
    · rfl
  | succ j ih =>
    intro k m hk hf s hc
    obtain ⟨m, rfl⟩ : ∃ q, m = q + 1 := ⟨m - 1, by omega⟩
    have ek : d_w ((k : Int) + 1) = ((k + 1 : Nat) : Int) := d_w_id (by omega) (by omega)
    have e5 : d_w (((0 : Nat) : Int) * 5 + (k : Int)) = ((0 * 5 + k : Nat) : Int) := d_w_id (by omega) (by omega)
    have e1 : d_w (((0 : Nat) : Int) + 1) = ((1 : Nat) : Int) := d_w_id (by omega) (by omega)
    show ∃ s', F_X5_choose_6_l71_b K (F_X5_choose_6_l71 K m) _ _ _ _ _ _ = _ ∧ _
    unfold F_X5_choose_6_l71_b
    rw [d_g_t (by omega)]
    split
    rotate_left
    · exact ⟨s, rfl, v_oc.rf⟩
    rw [if_pos (by omega), e5, d_g_t (by omega), d_l_t]
    obtain ⟨r, hr⟩ := P_isFree_t (s := s) (y := s.1 57 (((0 * 5 + k : Nat) : Int)).toNat) (c := 0) (by decide)
    rw [hr, d_b_t, ek]
    split
    · exact ih (k + 1) m (by omega) (by omega) s hc
    · rw [d_g_t (by omega), d_l_t, e1]
      obtain ⟨s7, hs7⟩ : ∃ z, z = d_si s 59 (((0 : Nat) : Int)).toNat (s.1 57 (((0 * 5 + k : Nat) : Int)).toNat) := ⟨_, rfl⟩
      have f7 : v_oc [56, 59, 60] s s7 := by rw [hs7]; exact v_oc.si (by decide)
      rw [← hs7]
      obtain ⟨s8, a1, a2⟩ := v_cho5 (s := s7) (by rw [f7.1 10 (by decide)]; exact hc) (x2 := d_w (x2 + x4)) (x3 := d_w (x3 - x4))
      rw [a1, d_b_t]
      obtain ⟨s', b1, b2⟩ := ih (k + 1) m (by omega) (by omega) s8 (by rw [a2.1 10 (by decide), f7.1 10 (by decide)]; exact hc)
      exact ⟨s', b1, (f7.tr a2).tr b2⟩
theorem v_cho6 (hc : s.1 10 2 ≤ 5) {x2 x3 : Int} : ∃ s', F_X5_choose_6 s ((0 : Nat) : Int) x2 x3 = some s' ∧ v_oc [56, 59, 60] s s' := by
  unfold F_X5_choose_6
  split
  rotate_left
  · exact ⟨s, rfl, v_oc.rf⟩
  split
  rotate_left
  · exact v_chd6
  rw [if_pos (by omega)]
  obtain ⟨y, hy⟩ := P_part10_t (s := s) (x1 := ((0 : Nat) : Int)) (x2 := 2)
  rw [hy, d_b_t]
  obtain ⟨s1, a1, a2⟩ := v_chl6 (K := fun x1_u9 x2_u9 x3_u9 x4_u9 s_u9 => d_g (0 ≤ x1_u9 ∧ x1_u9 < 5) (d_l (d_si s_u9 59 ((x1_u9).toNat) (-1)) (fun s11 => d_b (F_X5_choose_5 s11 (d_w (x1_u9 + 1)) x2_u9 (d_w (x3_u9 - x4_u9))) (fun s12 => some s12)))) (x2 := x2) (x3 := x3) (x4 := y) 5 0 d_N rfl (by rw [d_N_is]; decide) s hc
  obtain ⟨s2, hs2⟩ : ∃ z, z = d_si s1 59 (((0 : Nat) : Int)).toNat (-1) := ⟨_, rfl⟩
  have f2 : v_oc [56, 59, 60] s1 s2 := by rw [hs2]; exact v_oc.si (by decide)
  obtain ⟨s3, b1, b2⟩ := v_cho5 (s := s2) (by rw [f2.1 10 (by decide), a2.1 10 (by decide)]; exact hc) (x2 := x2) (x3 := d_w (x3 - y))
  refine ⟨s3, ?_, (a2.tr f2).tr b2⟩
  refine a1.trans ?_
  have e1 : d_w (((0 : Nat) : Int) + 1) = ((1 : Nat) : Int) := d_w_id (by omega) (by omega)
  show d_g (0 ≤ ((0 : Nat) : Int) ∧ ((0 : Nat) : Int) < 5) (d_l (d_si s1 59 (((0 : Nat) : Int)).toNat (-1)) (fun s11 => d_b (F_X5_choose_5 s11 (d_w (((0 : Nat) : Int) + 1)) x2 (d_w (x3 - y))) (fun s12 => some s12))) = _
  rw [d_g_t (by omega), d_l_t, ← hs2, e1, b1, d_b_t]
theorem v_dwl (hQ : v_Q s u v W H) (hS : v_S s N sg) (hb : b < v_bl u v) {y : Int} : ∀ (j k m : Nat), k + j = N → j < m → ∀ z : Int, (-1 ≤ z ∧ z ≤ 9) → ∃ r, F_X5_deepestWhole_l5 s m y (b : Int) z (k : Int) = some r ∧ -1 ≤ r ∧ r ≤ 9 := by
  have hN := hS.2.1
  intro j
  induction j with
  | zero =>
    intro k m hk hf z hz
    obtain ⟨m, rfl⟩ : ∃ q, m = q + 1 := ⟨m - 1, by omega⟩
    refine ⟨z, ?_, hz⟩
    show F_X5_deepestWhole_l5_b s (F_X5_deepestWhole_l5 s m) _ _ _ _ = _
    unfold F_X5_deepestWhole_l5_b
    rw [hS.1, if_neg (by omega)]
  | succ j ih =>
    intro k m hk hf z hz
    obtain ⟨m, rfl⟩ : ∃ q, m = q + 1 := ⟨m - 1, by omega⟩
    have hk2 : k < N := by omega
    have g5 := hS.le hk2 (k := 5) (by decide)
    have ek : d_w ((k : Int) + 1) = ((k + 1 : Nat) : Int) := d_w_id (by omega) (by omega)
    have skip := ih (k + 1) m (by omega) (by omega) z hz
    show ∃ r, F_X5_deepestWhole_l5_b s (F_X5_deepestWhole_l5 s m) _ _ _ _ = _ ∧ _
    unfold F_X5_deepestWhole_l5_b
    rw [hS.1, if_pos (by omega), P_sightPart hS hk2 (k := 3) (by decide) (by decide), d_b_t, P_sightPart hS hk2 (k := 4) (by decide) (by decide), d_b_t, P_sightPart hS hk2 (k := 0) (by decide) (by decide), d_b_t, P_cellsOfC hQ hS hb hk2, d_b_t, P_sightPart hS hk2 (k := 5) (by decide) (by decide), d_b_t, P_max, d_b_t, ek]
    split
    · split
      · exact ih (k + 1) m (by omega) (by omega) _ (by have : (((sg k (5 : Int).toNat : Nat) : Int)) = ((sg k 5 : Nat) : Int) := rfl; omega)
      · exact skip
    · exact skip
theorem P_deepest_t (hQ : v_Q s u v W H) (hS : v_S s N sg) (hb : b < v_bl u v) {y : Int} : ∃ r, F_X5_deepestWhole s y (b : Int) = some r ∧ -1 ≤ r ∧ r ≤ 9 := by
  have hN := hS.2.1
  exact v_dwl hQ hS hb N 0 d_N (by omega) (by rw [d_N_is]; omega) (-1) (by decide)
theorem v_rdy.serves (h : v_rdy t s L u v W H st me so N sg day heat x) (hb : b < v_bl u v) {y : Int} : ∃ r s', F_X5_serves t s (b : Int) y = some (r, s') ∧ v_cf s s' := by
  obtain ⟨hM, hQ, hS, hY, hN, e, hE, hCT⟩ := id h
  have h64 := hQ.2.2.1
  have hcf : v_cf s s := ⟨fun _ _ _ _ => rfl, fun _ _ => rfl, hN⟩
  obtain ⟨p1, e1⟩ := P_part10_t (s := s) (x1 := y) (x2 := 1)
  obtain ⟨p0, e0⟩ := P_part10_t (s := s) (x1 := y) (x2 := 0)
  obtain ⟨w, ew, w1, w2⟩ := P_deepest_t (s := s) hQ hS hb (y := p0)
  unfold F_X5_serves
  rw [e1, d_b_t, e0, d_b_t, ew, d_b_t, P_isSoldC hM (by omega), d_b_t]
  by_cases q : ((so b : Nat) : Int) = 0
  rotate_left
  · rw [if_neg q]; exact ⟨0, s, rfl, hcf⟩
  rw [if_pos q]
  by_cases q2 : w = -1
  · rw [if_pos q2]; exact ⟨0, s, rfl, hcf⟩
  rw [if_neg q2, P_within, d_b_t]
  by_cases q3 : 0 ≤ d_w (p1 - s.1 6 3) ∧ d_w (p1 - s.1 6 3) ≤ 60
  rotate_left
  · rw [v_bf q3, if_pos rfl]; exact ⟨0, s, rfl, hcf⟩
  obtain ⟨n, hn⟩ : ∃ n : Nat, d_w (p1 - s.1 6 3) = n := ⟨(d_w (p1 - s.1 6 3)).toNat, by omega⟩
  rw [hn] at q3 ⊢
  obtain ⟨s2, s3, a1, a2, a3, a4, a5⟩ := P_course (n := n) hM hQ hb hE hCT hY hcf (by omega)
  rw [v_bt q3, if_neg (by decide), a1, d_b_t, a2, d_b_t]
  split
  · exact ⟨0, s3, rfl, a4⟩
  · exact ⟨1, s3, rfl, a4⟩
theorem v_cf.os (h : v_cf s s1) : v_os s s1 := ⟨fun a h1 h2 h3 _ => h.1 a h1 h2 h3, h.2.1, h.2.2⟩
theorem v_fll {K : Int → Int → d_S → Option d_S} {o : Nat} (ho : o < 5) : ∀ (j k m : Nat), k + j = v_bl u v → j < m → ∀ (c : Nat) (s : d_S), c ≤ 5 → v_rdy t s L u v W H st me so N sg day heat x → ∃ (c' : Nat) (s' : d_S), F_X5_findLowest_l4 t K m (o : Int) (c : Int) (k : Int) s = K (o : Int) (c' : Int) s' ∧ v_os s s' := by
  intro j
  induction j with
  | zero =>
    intro k m hk hf c s hc h
    obtain ⟨m, rfl⟩ : ∃ q, m = q + 1 := ⟨m - 1, by omega⟩
    refine ⟨c, s, ?_, ⟨fun _ _ _ _ _ => rfl, fun _ _ => rfl, h.2.2.2.2.1⟩⟩
    show F_X5_findLowest_l4_b t K (F_X5_findLowest_l4 t K m) _ _ _ _ = _
    unfold F_X5_findLowest_l4_b
    rw [h.2.1.1, if_neg (by omega)]
  | succ j ih =>
    intro k m hk hf c s hc h
    obtain ⟨m, rfl⟩ : ∃ q, m = q + 1 := ⟨m - 1, by omega⟩
    have h64 := h.2.1.2.2.1
    have rf : v_os s s := ⟨fun _ _ _ _ _ => rfl, fun _ _ => rfl, h.2.2.2.2.1⟩
    have ek : d_w ((k : Int) + 1) = ((k + 1 : Nat) : Int) := d_w_id (by omega) (by omega)
    have e5 : d_w ((o : Int) * 5 + (c : Int)) = ((o * 5 + c : Nat) : Int) := d_w_id (by omega) (by omega)
    show ∃ c' s', F_X5_findLowest_l4_b t K (F_X5_findLowest_l4 t K m) _ _ _ _ = _ ∧ _
    unfold F_X5_findLowest_l4_b
    rw [h.2.1.1, if_pos (by omega)]
    by_cases q : c < 5
    rotate_left
    · rw [if_neg (by omega)]; exact ⟨c, s, rfl, rf⟩
    rw [if_pos (by omega), e5, P_within, d_b_t, v_bt (by rw [d_w_id (by omega) (by omega)]; omega), if_neg (by decide), ek]
    obtain ⟨r, s1, a1, a2⟩ := h.serves (b := k) (by omega) (y := (o : Int))
    rw [a1, d_b2_t]
    split
    · obtain ⟨c', s', b1, b2⟩ := ih (k + 1) m (by omega) (by omega) c s1 hc (h.os a2.os)
      exact ⟨c', s', b1, a2.os.tr b2⟩
    · rw [d_g_t (by omega), d_l_t, Int.toNat_natCast, d_w_id (x := (c : Int) + 1) (by omega) (by omega)]
      have f2 : v_os s (d_si s1 57 (o * 5 + c) (k : Int)) := a2.os.si (by decide)
      obtain ⟨c', s', b1, b2⟩ := ih (k + 1) m (by omega) (by omega) (c + 1) _ (by omega) (h.os f2)
      exact ⟨c', s', b1, f2.tr b2⟩
theorem v_rdy.lowest (h : v_rdy t s L u v W H st me so N sg day heat x) {o : Nat} (ho : o < 5) : ∃ s', F_X5_findLowest t s (o : Int) = some s' ∧ v_os s s' := by
  have h64 := h.2.1.2.2.1
  obtain ⟨c, s1, a1, a2⟩ := v_fll (t := t) (L := L) (K := fun x1_u6 x2_u6 s_u6 => d_b (F_X11_within x1_u6 0 4) (fun v7 => if v7 = 0 then some s_u6 else d_g (0 ≤ x1_u6 ∧ x1_u6 < 5) (d_l (d_si s_u6 58 ((x1_u6).toNat) x2_u6) (fun s9 => some s9)))) ho (v_bl u v) 0 d_N (by omega) (by rw [d_N_is]; omega) 0 s (by decide) h
  refine ⟨d_si s1 58 o (c : Int), ?_, a2.si (by decide)⟩
  unfold F_X5_findLowest
  refine a1.trans ?_
  show d_b (F_X11_within (o : Int) 0 4) _ = _
  rw [P_within, d_b_t, v_bt (by omega), if_neg (by decide), d_g_t (by omega), d_l_t, Int.toNat_natCast]
theorem v_stl {K : Int → d_S → Option d_S} {c : Nat} (hc : c ≤ 5) : ∀ (j k m : Nat), k + j = c → j < m → ∀ (y : Int) (s : d_S), s.1 10 2 = (c : Int) → v_rdy t s L u v W H st me so N sg day heat x → ∃ (y' : Int) (s' : d_S), F_X5_settle_l4 t K m y (k : Int) s = K y' s' ∧ v_os s s' := by
  intro j
  induction j with
  | zero =>
    intro k m hk hf y s h10 h
    obtain ⟨m, rfl⟩ : ∃ q, m = q + 1 := ⟨m - 1, by omega⟩
    refine ⟨y, s, ?_, ⟨fun _ _ _ _ _ => rfl, fun _ _ => rfl, h.2.2.2.2.1⟩⟩
    show F_X5_settle_l4_b t K (F_X5_settle_l4 t K m) _ _ _ = _
    unfold F_X5_settle_l4_b
    rw [h10, if_neg (by omega)]
  | succ j ih =>
    intro k m hk hf y s h10 h
    obtain ⟨m, rfl⟩ : ∃ q, m = q + 1 := ⟨m - 1, by omega⟩
    obtain ⟨s1, a1, a2⟩ := h.lowest (o := k) (by omega)
    obtain ⟨p, hp⟩ := P_part10_t (s := s1) (x1 := (k : Int)) (x2 := 2)
    obtain ⟨y', s', b1, b2⟩ := ih (k + 1) m (by omega) (by omega) (d_w (y + p)) s1 (by rw [a2.1 10 (by decide) (by decide) (by decide) (by decide)]; exact h10) (h.os a2)
    refine ⟨y', s', ?_, a2.tr b2⟩
    show F_X5_settle_l4_b t K (F_X5_settle_l4 t K m) _ _ _ = _
    unfold F_X5_settle_l4_b
    rw [h10, if_pos (by omega), a1, d_b_t, hp, d_b_t, d_w_id (x := (k : Int) + 1) (by omega) (by omega)]
    exact b1
theorem v_rdy.settle (h : v_rdy t s L u v W H st me so N sg day heat x) (h10 : 0 ≤ s.1 10 2 ∧ s.1 10 2 ≤ 5) : ∃ s', F_X5_settle t s = some s' ∧ v_os s s' := by
  obtain ⟨c, hc⟩ : ∃ c : Nat, s.1 10 2 = c := ⟨(s.1 10 2).toNat, by omega⟩
  obtain ⟨y, s1, a1, a2⟩ := v_stl (t := t) (L := L) (K := fun x1_u3 s_u3 => d_l (d_si s_u3 56 7 (-1)) (fun s4 => d_b (F_X5_choose_6 s4 0 0 x1_u3) (fun s5 => some s5))) (c := c) (by omega) c 0 d_N (by omega) (by rw [d_N_is]; omega) 0 s hc h
  have f2 : v_os s (d_si s1 56 7 (-1)) := a2.si (by decide)
  obtain ⟨s3, b1, b2⟩ := v_cho6 (s := d_si s1 56 7 (-1)) (by rw [f2.1 10 (by decide) (by decide) (by decide) (by decide)]; omega) (x2 := 0) (x3 := y)
  refine ⟨s3, ?_, f2.oc b2⟩
  unfold F_X5_settle
  refine a1.trans ?_
  show d_l (d_si s1 56 7 (-1)) (fun s4 => d_b (F_X5_choose_6 s4 0 0 y) (fun s5 => some s5)) = _
  have b1' : F_X5_choose_6 (d_si s1 56 7 (-1)) 0 0 y = some s3 := b1
  rw [d_l_t, b1', d_b_t]
theorem v_rdy.served (h : v_rdy t s L u v W H st me so N sg day heat x) (h10 : 0 ≤ s.1 10 2 ∧ s.1 10 2 ≤ 5) {x1 : Int} : ∃ y s', F_X11_served t s x1 = some (y, s') ∧ v_os s s' := by
  unfold F_X11_served
  rw [P_within, d_b_t, d_w_id (x := s.1 10 2 - 1) (by omega) (by omega)]
  by_cases c1 : -1 ≤ x1 ∧ x1 ≤ s.1 10 2 - 1
  rotate_left
  · rw [v_bf c1, if_pos rfl]; exact ⟨-2, s, rfl, ⟨fun _ _ _ _ _ => rfl, fun _ _ => rfl, h.2.2.2.2.1⟩⟩
  obtain ⟨s1, a1, a2⟩ := h.settle h10
  rw [v_bt c1, if_neg (by decide), a1, d_b_t]
  by_cases q : x1 = -1
  · rw [if_pos q]; exact ⟨_, s1, rfl, a2⟩
  · rw [if_neg q]
    unfold F_X5_blockFor
    rw [P_within, d_b_t, v_bt (by rw [d_w_id (by omega) (by omega)]; omega), if_neg (by decide), d_g_t (by omega), d_b_t]
    exact ⟨_, s1, rfl, a2⟩
end V62

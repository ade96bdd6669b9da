section V62
variable {s s1 s2 : d_S} {t : Nat → Option p_C} {L : v_LR} {u v W H N b : Nat} {st me so : Nat → Nat} {sg : Nat → Nat → Nat} {day heat x : Int} {e : Option Nat}
def v_os (s s' : d_S) : Prop := (∀ a, a ≠ 47 → a ≠ 49 → a ≠ 50 → (a < 56 ∨ 60 < a) → s'.1 a = s.1 a) ∧ (∀ a, a ≠ 47 → s'.2.1 a = s.2.1 a) ∧ v_Nm (s'.1 49)
theorem v_os.tr (h : v_os s s1) (h' : v_os s1 s2) : v_os s s2 := ⟨fun a b c d e => (h'.1 a b c d e).trans (h.1 a b c d e), fun a b => (h'.2.1 a b).trans (h.2.1 a b), h'.2.2⟩
theorem v_os.si (h : v_os s s1) {a k : Nat} {y : Int} (ha : 56 ≤ a ∧ a ≤ 60) : v_os s (d_si s1 a k y) := ⟨fun c h1 h2 h3 h4 => (d_si_n (by omega)).trans (h.1 c h1 h2 h3 h4), h.2.1, by rw [d_si_n (by omega)]; exact h.2.2⟩
theorem v_os.oc (h : v_os s s1) (h' : v_oc [56, 59, 60] s1 s2) : v_os s s2 := ⟨fun a b c d e => (h'.1 a (by simp only [List.mem_cons, List.not_mem_nil, or_false, not_or]; omega)).trans (h.1 a b c d e), fun a b => by rw [h'.2]; exact h.2.1 a b, by rw [h'.1 49 (by decide)]; exact h.2.2⟩
theorem v_rdy.os (h : v_rdy t s L u v W H st me so N sg day heat x) (h' : v_os s s1) : v_rdy t s1 L u v W H st me so N sg day heat x := h.fr (fun a ha => h'.1 a (by omega) (by omega) (by omega) (by omega)) (h'.2.1 5 (by decide)) h'.2.2
theorem v_R.os (h : v_R t s) (h' : v_os s s1) : v_R t s1 := h.scr (fun a ha => h'.1 a (by unfold v_cl at ha; omega) (by unfold v_cl at ha; omega) (by unfold v_cl at ha; omega) (by unfold v_cl at ha; omega)) (fun a ha => h'.2.1 a ha) ⟨h'.2.2, by rw [h'.1 71 (by decide) (by decide) (by decide) (by decide)]; exact h.2.2.2.2.2.2.2.1.2⟩
theorem P_part10_t {x1 x2 : Int} : ∃ y, F_X8_part_10 s x1 x2 = some y := by
  unfold F_X8_part_10
  by_cases q : d_w (x1 * 4 + x2) < 0
  · rw [if_pos q]; exact ⟨_, rfl⟩
  · rw [if_neg q]
    by_cases q2 : d_w (x1 * 4 + x2) < 32
    · rw [if_pos q2, d_g_t (by omega)]; exact ⟨_, rfl⟩
    · rw [if_neg q2]; exact ⟨_, rfl⟩
theorem v_frl {y : Int} {c : Nat} (hc : c ≤ 5) : ∀ (j k m : Nat), k + j = c → j < m → ∃ r, F_X5_isFree_l2 s m y (c : Int) (k : Int) = some r := by
  intro j
  induction j with
  | zero =>
    intro k m hk hf
    obtain ⟨m, rfl⟩ : ∃ q, m = q + 1 := ⟨m - 1, by omega⟩
    refine ⟨1, ?_⟩
    show F_X5_isFree_l2_b s (F_X5_isFree_l2 s m) _ _ _ = _
    unfold F_X5_isFree_l2_b
    rw [if_neg (by omega)]
  | succ j ih =>
    intro k m hk hf
    obtain ⟨m, rfl⟩ : ∃ q, m = q + 1 := ⟨m - 1, by omega⟩
    obtain ⟨r, hr⟩ := ih (k + 1) m (by omega) (by omega)
    show ∃ r, F_X5_isFree_l2_b s (F_X5_isFree_l2 s m) _ _ _ = _
    unfold F_X5_isFree_l2_b
    rw [if_pos (by omega), if_pos (by omega), d_g_t (by omega), d_w_id (x := (k : Int) + 1) (by omega) (by omega)]
    split
    · exact ⟨0, rfl⟩
    · exact ⟨r, hr⟩
theorem P_isFree_t {y : Int} {c : Nat} (hc : c ≤ 5) : ∃ r, F_X5_isFree s y (c : Int) = some r := v_frl hc c 0 d_N (by omega) (by rw [d_N_is]; omega)
theorem v_chd1 {x2 : Int} : ∃ s', F_X5_choose_1_j30 x2 s = some s' ∧ v_oc [56, 59, 60] s s' := by
  unfold F_X5_choose_1_j30
  rw [d_l_t, d_l_t]
  refine ⟨_, rfl, fun a ha => ?_, rfl⟩
  have h60 : a ≠ 60 := fun z => ha (by rw [z]; decide)
  have h56 : a ≠ 56 := fun z => ha (by rw [z]; decide)
  exact (d_st_n h60).trans (d_si_n h56)
theorem v_cho1 (hc : s.1 10 2 ≤ 5) {x2 x3 : Int} : ∃ s', F_X5_choose_1 s ((5 : Nat) : Int) x2 x3 = some s' ∧ v_oc [56, 59, 60] s s' := by
  unfold F_X5_choose_1
  split
  · rw [if_neg (by omega)]
    exact v_chd1
  · exact ⟨s, rfl, v_oc.rf⟩
theorem v_chd2 {x2 : Int} : ∃ s', F_X5_choose_2_j30 x2 s = some s' ∧ v_oc [56, 59, 60] s s' := by
  unfold F_X5_choose_2_j30
  rw [d_l_t, d_l_t]
  refine ⟨_, rfl, fun a ha => ?_, rfl⟩
  have h60 : a ≠ 60 := fun z => ha (by rw [z]; decide)
  have h56 : a ≠ 56 := fun z => ha (by rw [z]; decide)
  exact (d_st_n h60).trans (d_si_n h56)
theorem v_chl2 {K : Int → Int → Int → Int → d_S → Option d_S} {x2 x3 x4 : Int} : ∀ (j k m : Nat), k + j = 5 → j < m → ∀ s : d_S, s.1 10 2 ≤ 5 → ∃ s', F_X5_choose_2_l71 K m ((4 : Nat) : Int) x2 x3 x4 (k : Int) s = K ((4 : Nat) : Int) x2 x3 x4 s' ∧ v_oc [56, 59, 60] s s' := by
  intro j
  induction j with
  | zero =>
    intro k m hk hf s hc
    obtain ⟨m, rfl⟩ : ∃ q, m = q + 1 := ⟨m - 1, by omega⟩
    refine ⟨s, ?_, v_oc.rf⟩
    show F_X5_choose_2_l71_b K (F_X5_choose_2_l71 K m) _ _ _ _ _ _ = _
    unfold F_X5_choose_2_l71_b
    rw [d_g_t (by omega)]
    split
    · rw [if_neg (by omega)]
    · rfl
  | succ j ih =>
    intro k m hk hf s hc
    obtain ⟨m, rfl⟩ : ∃ q, m = q + 1 := ⟨m - 1, by omega⟩
    have ek : d_w ((k : Int) + 1) = ((k + 1 : Nat) : Int) := d_w_id (by omega) (by omega)
    have e5 : d_w (((4 : Nat) : Int) * 5 + (k : Int)) = ((4 * 5 + k : Nat) : Int) := d_w_id (by omega) (by omega)
    have e1 : d_w (((4 : Nat) : Int) + 1) = ((5 : Nat) : Int) := d_w_id (by omega) (by omega)
    show ∃ s', F_X5_choose_2_l71_b K (F_X5_choose_2_l71 K m) _ _ _ _ _ _ = _ ∧ _
    unfold F_X5_choose_2_l71_b
    rw [d_g_t (by omega)]
    split
    rotate_left
    · exact ⟨s, rfl, v_oc.rf⟩
    rw [if_pos (by omega), e5, d_g_t (by omega), d_l_t]
    obtain ⟨r, hr⟩ := P_isFree_t (s := s) (y := s.1 57 (((4 * 5 + k : Nat) : Int)).toNat) (c := 4) (by decide)
    rw [hr, d_b_t, ek]
    split
    · exact ih (k + 1) m (by omega) (by omega) s hc
    · rw [d_g_t (by omega), d_l_t, e1]
      obtain ⟨s7, hs7⟩ : ∃ z, z = d_si s 59 (((4 : Nat) : Int)).toNat (s.1 57 (((4 * 5 + k : Nat) : Int)).toNat) := ⟨_, rfl⟩
      have f7 : v_oc [56, 59, 60] s s7 := by rw [hs7]; exact v_oc.si (by decide)
      rw [← hs7]
      obtain ⟨s8, a1, a2⟩ := v_cho1 (s := s7) (by rw [f7.1 10 (by decide)]; exact hc) (x2 := d_w (x2 + x4)) (x3 := d_w (x3 - x4))
      rw [a1, d_b_t]
      obtain ⟨s', b1, b2⟩ := ih (k + 1) m (by omega) (by omega) s8 (by rw [a2.1 10 (by decide), f7.1 10 (by decide)]; exact hc)
      exact ⟨s', b1, (f7.tr a2).tr b2⟩
theorem v_cho2 (hc : s.1 10 2 ≤ 5) {x2 x3 : Int} : ∃ s', F_X5_choose_2 s ((4 : Nat) : Int) x2 x3 = some s' ∧ v_oc [56, 59, 60] s s' := by
  unfold F_X5_choose_2
  split
  rotate_left
  · exact ⟨s, rfl, v_oc.rf⟩
  split
  rotate_left
  · exact v_chd2
  rw [if_pos (by omega)]
  obtain ⟨y, hy⟩ := P_part10_t (s := s) (x1 := ((4 : Nat) : Int)) (x2 := 2)
  rw [hy, d_b_t]
  obtain ⟨s1, a1, a2⟩ := v_chl2 (K := fun x1_u9 x2_u9 x3_u9 x4_u9 s_u9 => d_g (0 ≤ x1_u9 ∧ x1_u9 < 5) (d_l (d_si s_u9 59 ((x1_u9).toNat) (-1)) (fun s11 => d_b (F_X5_choose_1 s11 (d_w (x1_u9 + 1)) x2_u9 (d_w (x3_u9 - x4_u9))) (fun s12 => some s12)))) (x2 := x2) (x3 := x3) (x4 := y) 5 0 d_N rfl (by rw [d_N_is]; decide) s hc
  obtain ⟨s2, hs2⟩ : ∃ z, z = d_si s1 59 (((4 : Nat) : Int)).toNat (-1) := ⟨_, rfl⟩
  have f2 : v_oc [56, 59, 60] s1 s2 := by rw [hs2]; exact v_oc.si (by decide)
  obtain ⟨s3, b1, b2⟩ := v_cho1 (s := s2) (by rw [f2.1 10 (by decide), a2.1 10 (by decide)]; exact hc) (x2 := x2) (x3 := d_w (x3 - y))
  refine ⟨s3, ?_, (a2.tr f2).tr b2⟩
  refine a1.trans ?_
  have e1 : d_w (((4 : Nat) : Int) + 1) = ((5 : Nat) : Int) := d_w_id (by omega) (by omega)
  show d_g (0 ≤ ((4 : Nat) : Int) ∧ ((4 : Nat) : Int) < 5) (d_l (d_si s1 59 (((4 : Nat) : Int)).toNat (-1)) (fun s11 => d_b (F_X5_choose_1 s11 (d_w (((4 : Nat) : Int) + 1)) x2 (d_w (x3 - y))) (fun s12 => some s12))) = _
  rw [d_g_t (by omega), d_l_t, ← hs2, e1, b1, d_b_t]
theorem v_chd3 {x2 : Int} : ∃ s', F_X5_choose_3_j30 x2 s = some s' ∧ v_oc [56, 59, 60] s s' := by
  unfold F_X5_choose_3_j30
  rw [d_l_t, d_l_t]
  refine ⟨_, rfl, fun a ha => ?_, rfl⟩
  have h60 : a ≠ 60 := fun z => ha (by rw [z]; decide)
  have h56 : a ≠ 56 := fun z => ha (by rw [z]; decide)
  exact (d_st_n h60).trans (d_si_n h56)
theorem v_chl3 {K : Int → Int → Int → Int → d_S → Option d_S} {x2 x3 x4 : Int} : ∀ (j k m : Nat), k + j = 5 → j < m → ∀ s : d_S, s.1 10 2 ≤ 5 → ∃ s', F_X5_choose_3_l71 K m ((3 : Nat) : Int) x2 x3 x4 (k : Int) s = K ((3 : Nat) : Int) x2 x3 x4 s' ∧ v_oc [56, 59, 60] s s' := by
  intro j
  induction j with
  | zero =>
    intro k m hk hf s hc
    obtain ⟨m, rfl⟩ : ∃ q, m = q + 1 := ⟨m - 1, by omega⟩
    refine ⟨s, ?_, v_oc.rf⟩
    show F_X5_choose_3_l71_b K (F_X5_choose_3_l71 K m) _ _ _ _ _ _ = _
    unfold F_X5_choose_3_l71_b
    rw [d_g_t (by omega)]
    split
    · rw [if_neg (by omega)]
    · rfl
  | succ j ih =>
    intro k m hk hf s hc
    obtain ⟨m, rfl⟩ : ∃ q, m = q + 1 := ⟨m - 1, by omega⟩
    have ek : d_w ((k : Int) + 1) = ((k + 1 : Nat) : Int) := d_w_id (by omega) (by omega)
    have e5 : d_w (((3 : Nat) : Int) * 5 + (k : Int)) = ((3 * 5 + k : Nat) : Int) := d_w_id (by omega) (by omega)
    have e1 : d_w (((3 : Nat) : Int) + 1) = ((4 : Nat) : Int) := d_w_id (by omega) (by omega)
    show ∃ s', F_X5_choose_3_l71_b K (F_X5_choose_3_l71 K m) _ _ _ _ _ _ = _ ∧ _
    unfold F_X5_choose_3_l71_b
    rw [d_g_t (by omega)]
    split
    rotate_left
    · exact ⟨s, rfl, v_oc.rf⟩
    rw [if_pos (by omega), e5, d_g_t (by omega), d_l_t]
    obtain ⟨r, hr⟩ := P_isFree_t (s := s) (y := s.1 57 (((3 * 5 + k : Nat) : Int)).toNat) (c := 3) (by decide)
    rw [hr, d_b_t, ek]
    split
    · exact ih (k + 1) m (by omega) (by omega) s hc
    · rw [d_g_t (by omega), d_l_t, e1]
      obtain ⟨s7, hs7⟩ : ∃ z, z = d_si s 59 (((3 : Nat) : Int)).toNat (s.1 57 (((3 * 5 + k : Nat) : Int)).toNat) := ⟨_, rfl⟩
      have f7 : v_oc [56, 59, 60] s s7 := by rw [hs7]; exact v_oc.si (by decide)
      rw [← hs7]
      obtain ⟨s8, a1, a2⟩ := v_cho2 (s := s7) (by rw [f7.1 10 (by decide)]; exact hc) (x2 := d_w (x2 + x4)) (x3 := d_w (x3 - x4))
      rw [a1, d_b_t]
      obtain ⟨s', b1, b2⟩ := ih (k + 1) m (by omega) (by omega) s8 (by rw [a2.1 10 (by decide), f7.1 10 (by decide)]; exact hc)
      exact ⟨s', b1, (f7.tr a2).tr b2⟩
theorem v_cho3 (hc : s.1 10 2 ≤ 5) {x2 x3 : Int} : ∃ s', F_X5_choose_3 s ((3 : Nat) : Int) x2 x3 = some s' ∧ v_oc [56, 59, 60] s s' := by
  unfold F_X5_choose_3
  split
  rotate_left
  · exact ⟨s, rfl, v_oc.rf⟩
  split
  rotate_left
  · exact v_chd3
  rw [if_pos (by omega)]
  obtain ⟨y, hy⟩ := P_part10_t (s := s) (x1 := ((3 : Nat) : Int)) (x2 := 2)
  rw [hy, d_b_t]
  obtain ⟨s1, a1, a2⟩ := v_chl3 (K := fun x1_u9 x2_u9 x3_u9 x4_u9 s_u9 => d_g (0 ≤ x1_u9 ∧ x1_u9 < 5) (d_l (d_si s_u9 59 ((x1_u9).toNat) (-1)) (fun s11 => d_b (F_X5_choose_2 s11 (d_w (x1_u9 + 1)) x2_u9 (d_w (x3_u9 - x4_u9))) (fun s12 => some s12)))) (x2 := x2) (x3 := x3) (x4 := y) 5 0 d_N rfl (by rw [d_N_is]; decide) s hc
  obtain ⟨s2, hs2⟩ : ∃ z, z = d_si s1 59 (((3 : Nat) : Int)).toNat (-1) := ⟨_, rfl⟩
  have f2 : v_oc [56, 59, 60] s1 s2 := by rw [hs2]; exact v_oc.si (by decide)
  obtain ⟨s3, b1, b2⟩ := v_cho2 (s := s2) (by rw [f2.1 10 (by decide), a2.1 10 (by decide)]; exact hc) (x2 := x2) (x3 := d_w (x3 - y))
  refine ⟨s3, ?_, (a2.tr f2).tr b2⟩
  refine a1.trans ?_
  have e1 : d_w (((3 : Nat) : Int) + 1) = ((4 : Nat) : Int) := d_w_id (by omega) (by omega)
  show d_g (0 ≤ ((3 : Nat) : Int) ∧ ((3 : Nat) : Int) < 5) (d_l (d_si s1 59 (((3 : Nat) : Int)).toNat (-1)) (fun s11 => d_b (F_X5_choose_2 s11 (d_w (((3 : Nat) : Int) + 1)) x2 (d_w (x3 - y))) (fun s12 => some s12))) = _
  rw [d_g_t (by omega), d_l_t, ← hs2, e1, b1, d_b_t]
theorem v_chd4 {x2 : Int} : ∃ s', F_X5_choose_4_j30 x2 s = some s' ∧ v_oc [56, 59, 60] s s' := by
  unfold F_X5_choose_4_j30
  rw [d_l_t, d_l_t]
  refine ⟨_, rfl, fun a ha => ?_, rfl⟩
  have h60 : a ≠ 60 := fun z => ha (by rw [z]; decide)
  have h56 : a ≠ 56 := fun z => ha (by rw [z]; decide)
  exact (d_st_n h60).trans (d_si_n h56)
theorem v_chl4 {K : Int → Int → Int → Int → d_S → Option d_S} {x2 x3 x4 : Int} : ∀ (j k m : Nat), k + j = 5 → j < m → ∀ s : d_S, s.1 10 2 ≤ 5 → ∃ s', F_X5_choose_4_l71 K m ((2 : Nat) : Int) x2 x3 x4 (k : Int) s = K ((2 : Nat) : Int) x2 x3 x4 s' ∧ v_oc [56, 59, 60] s s' := by
  intro j
  induction j with
  | zero =>
    intro k m hk hf s hc
    obtain ⟨m, rfl⟩ : ∃ q, m = q + 1 := ⟨m - 1, by omega⟩
    refine ⟨s, ?_, v_oc.rf⟩
    show F_X5_choose_4_l71_b K (F_X5_choose_4_l71 K m) _ _ _ _ _ _ = _
    unfold F_X5_choose_4_l71_b
    rw [d_g_t (by omega)]
    split
    · rw [if_neg (by omega)]
    · rfl
  | succ j ih =>
    intro k m hk hf s hc
    obtain ⟨m, rfl⟩ : ∃ q, m = q + 1 := ⟨m - 1, by omega⟩
    have ek : d_w ((k : Int) + 1) = ((k + 1 : Nat) : Int) := d_w_id (by omega) (by omega)
    have e5 : d_w (((2 : Nat) : Int) * 5 + (k : Int)) = ((2 * 5 + k : Nat) : Int) := d_w_id (by omega) (by omega)
    have e1 : d_w (((2 : Nat) : Int) + 1) = ((3 : Nat) : Int) := d_w_id (by omega) (by omega)
    show ∃ s', F_X5_choose_4_l71_b K (F_X5_choose_4_l71 K m) _ _ _ _ _ _ = _ ∧ _
    unfold F_X5_choose_4_l71_b
    rw [d_g_t (by omega)]
    split
    rotate_left
    · exact ⟨s, rfl, v_oc.rf⟩
    rw [if_pos (by omega), e5, d_g_t (by omega), d_l_t]
    obtain ⟨r, hr⟩ := P_isFree_t (s := s) (y := s.1 57 (((2 * 5 + k : Nat) : Int)).toNat) (c := 2) (by decide)
    rw [hr, d_b_t, ek]
    split
    · exact ih (k + 1) m (by omega) (by omega) s hc
    · rw [d_g_t (by omega), d_l_t, e1]
      obtain ⟨s7, hs7⟩ : ∃ z, z = d_si s 59 (((2 : Nat) : Int)).toNat (s.1 57 (((2 * 5 + k : Nat) : Int)).toNat) := ⟨_, rfl⟩
      have f7 : v_oc [56, 59, 60] s s7 := by rw [hs7]; exact v_oc.si (by decide)
      rw [← hs7]
      obtain ⟨s8, a1, a2⟩ := v_cho3 (s := s7) (by rw [f7.1 10 (by decide)]; exact hc) (x2 := d_w (x2 + x4)) (x3 := d_w (x3 - x4))
      rw [a1, d_b_t]
      obtain ⟨s', b1, b2⟩ := ih (k + 1) m (by omega) (by omega) s8 (by rw [a2.1 10 (by decide), f7.1 10 (by decide)]; exact hc)
      exact ⟨s', b1, (f7.tr a2).tr b2⟩
theorem v_cho4 (hc : s.1 10 2 ≤ 5) {x2 x3 : Int} : ∃ s', F_X5_choose_4 s ((2 : Nat) : Int) x2 x3 = some s' ∧ v_oc [56, 59, 60] s s' := by
  unfold F_X5_choose_4
  split
  rotate_left
  · exact ⟨s, rfl, v_oc.rf⟩
  split
  rotate_left
  · exact v_chd4
  rw [if_pos (by omega)]
  obtain ⟨y, hy⟩ := P_part10_t (s := s) (x1 := ((2 : Nat) : Int)) (x2 := 2)
  rw [hy, d_b_t]
  obtain ⟨s1, a1, a2⟩ := v_chl4 (K := fun x1_u9 x2_u9 x3_u9 x4_u9 s_u9 => d_g (0 ≤ x1_u9 ∧ x1_u9 < 5) (d_l (d_si s_u9 59 ((x1_u9).toNat) (-1)) (fun s11 => d_b (F_X5_choose_3 s11 (d_w (x1_u9 + 1)) x2_u9 (d_w (x3_u9 - x4_u9))) (fun s12 => some s12)))) (x2 := x2) (x3 := x3) (x4 := y) 5 0 d_N rfl (by rw [d_N_is]; decide) s hc
  obtain ⟨s2, hs2⟩ : ∃ z, z = d_si s1 59 (((2 : Nat) : Int)).toNat (-1) := ⟨_, rfl⟩
  have f2 : v_oc [56, 59, 60] s1 s2 := by rw [hs2]; exact v_oc.si (by decide)
  obtain ⟨s3, b1, b2⟩ := v_cho3 (s := s2) (by rw [f2.1 10 (by decide), a2.1 10 (by decide)]; exact hc) (x2 := x2) (x3 := d_w (x3 - y))
  refine ⟨s3, ?_, (a2.tr f2).tr b2⟩
  refine a1.trans ?_
  have e1 : d_w (((2 : Nat) : Int) + 1) = ((3 : Nat) : Int) := d_w_id (by omega) (by omega)
  show d_g (0 ≤ ((2 : Nat) : Int) ∧ ((2 : Nat) : Int) < 5) (d_l (d_si s1 59 (((2 : Nat) : Int)).toNat (-1)) (fun s11 => d_b (F_X5_choose_3 s11 (d_w (((2 : Nat) : Int) + 1)) x2 (d_w (x3 - y))) (fun s12 => some s12))) = _
  rw [d_g_t (by omega), d_l_t, ← hs2, e1, b1, d_b_t]
theorem v_chd5 {x2 : Int} : ∃ s', F_X5_choose_5_j30 x2 s = some s' ∧ v_oc [56, 59, 60] s s' := by
  unfold F_X5_choose_5_j30
  rw [d_l_t, d_l_t]
  refine ⟨_, rfl, fun a ha => ?_, rfl⟩
  have h60 : a ≠ 60 := fun z => ha (by rw [z]; decide)
  have h56 : a ≠ 56 := fun z => ha (by rw [z]; decide)
  exact (d_st_n h60).trans (d_si_n h56)
theorem v_chl5 {K : Int → Int → Int → Int → d_S → Option d_S} {x2 x3 x4 : Int} : ∀ (j k m : Nat), k + j = 5 → j < m → ∀ s : d_S, s.1 10 2 ≤ 5 → ∃ s', F_X5_choose_5_l71 K m ((1 : Nat) : Int) x2 x3 x4 (k : Int) s = K ((1 : Nat) : Int) x2 x3 x4 s' ∧ v_oc [56, 59, 60] s s' := by
  intro j
  induction j with
  | zero =>
    intro k m hk hf s hc
    obtain ⟨m, rfl⟩ : ∃ q, m = q + 1 := ⟨m - 1, by omega⟩
    refine ⟨s, ?_, v_oc.rf⟩
    show F_X5_choose_5_l71_b K (F_X5_choose_5_l71 K m) _ _ _ _ _ _ = _
    unfold F_X5_choose_5_l71_b
    rw [d_g_t (by omega)]
    split
    · rw [if_neg (by omega)]
    · rfl
  | succ j ih =>
    intro k m hk hf s hc
    obtain ⟨m, rfl⟩ : ∃ q, m = q + 1 := ⟨m - 1, by omega⟩
    have ek : d_w ((k : Int) + 1) = ((k + 1 : Nat) : Int) := d_w_id (by omega) (by omega)
    have e5 : d_w (((1 : Nat) : Int) * 5 + (k : Int)) = ((1 * 5 + k : Nat) : Int) := d_w_id (by omega) (by omega)
    have e1 : d_w (((1 : Nat) : Int) + 1) = ((2 : Nat) : Int) := d_w_id (by omega) (by omega)
    show ∃ s', F_X5_choose_5_l71_b K (F_X5_choose_5_l71 K m) _ _ _ _ _ _ = _ ∧ _
    unfold F_X5_choose_5_l71_b
    rw [d_g_t (by omega)]
    split
    rotate_left
    · exact ⟨s, rfl, v_oc.rf⟩
    rw [if_pos (by omega), e5, d_g_t (by omega), d_l_t]
    obtain ⟨r, hr⟩ := P_isFree_t (s := s) (y := s.1 57 (((1 * 5 + k : Nat) : Int)).toNat) (c := 1) (by decide)
    rw [hr, d_b_t, ek]
    split
    · exact ih (k + 1) m (by omega) (by omega) s hc
    · rw [d_g_t (by omega), d_l_t, e1]
      obtain ⟨s7, hs7⟩ : ∃ z, z = d_si s 59 (((1 : Nat) : Int)).toNat (s.1 57 (((1 * 5 + k : Nat) : Int)).toNat) := ⟨_, rfl⟩
      have f7 : v_oc [56, 59, 60] s s7 := by rw [hs7]; exact v_oc.si (by decide)
      rw [← hs7]
      obtain ⟨s8, a1, a2⟩ := v_cho4 (s := s7) (by rw [f7.1 10 (by decide)]; exact hc) (x2 := d_w (x2 + x4)) (x3 := d_w (x3 - x4))
      rw [a1, d_b_t]
      obtain ⟨s', b1, b2⟩ := ih (k + 1) m (by omega) (by omega) s8 (by rw [a2.1 10 (by decide), f7.1 10 (by decide)]; exact hc)
      exact ⟨s', b1, (f7.tr a2).tr b2⟩
theorem v_cho5 (hc : s.1 10 2 ≤ 5) {x2 x3 : Int} : ∃ s', F_X5_choose_5 s ((1 : Nat) : Int) x2 x3 = some s' ∧ v_oc [56, 59, 60] s s' := by
  unfold F_X5_choose_5
  split
  rotate_left
  · exact ⟨s, rfl, v_oc.rf⟩
  split
  rotate_left
  · exact v_chd5
  rw [if_pos (by omega)]
  obtain ⟨y, hy⟩ := P_part10_t (s := s) (x1 := ((1 : Nat) : Int)) (x2 := 2)
  rw [hy, d_b_t]
  obtain ⟨s1, a1, a2⟩ := v_chl5 (K := fun x1_u9 x2_u9 x3_u9 x4_u9 s_u9 => d_g (0 ≤ x1_u9 ∧ x1_u9 < 5) (d_l (d_si s_u9 59 ((x1_u9).toNat) (-1)) (fun s11 => d_b (F_X5_choose_4 s11 (d_w (x1_u9 + 1)) x2_u9 (d_w (x3_u9 - x4_u9))) (fun s12 => some s12)))) (x2 := x2) (x3 := x3) (x4 := y) 5 0 d_N rfl (by rw [d_N_is]; decide) s hc
  obtain ⟨s2, hs2⟩ : ∃ z, z = d_si s1 59 (((1 : Nat) : Int)).toNat (-1) := ⟨_, rfl⟩
  have f2 : v_oc [56, 59, 60] s1 s2 := by rw [hs2]; exact v_oc.si (by decide)
  obtain ⟨s3, b1, b2⟩ := v_cho4 (s := s2) (by rw [f2.1 10 (by decide), a2.1 10 (by decide)]; exact hc) (x2 := x2) (x3 := d_w (x3 - y))
  refine ⟨s3, ?_, (a2.tr f2).tr b2⟩
  refine a1.trans ?_
  have e1 : d_w (((1 : Nat) : Int) + 1) = ((2 : Nat) : Int) := d_w_id (by omega) (by omega)
  show d_g (0 ≤ ((1 : Nat) : Int) ∧ ((1 : Nat) : Int) < 5) (d_l (d_si s1 59 (((1 : Nat) : Int)).toNat (-1)) (fun s11 => d_b (F_X5_choose_4 s11 (d_w (((1 : Nat) : Int) + 1)) x2 (d_w (x3 - y))) (fun s12 => some s12))) = _
  rw [d_g_t (by omega), d_l_t, ← hs2, e1, b1, d_b_t]
theorem v_chd6 {x2 : Int} : ∃ s', F_X5_choose_6_j30 x2 s = some s' ∧ v_oc [56, 59, 60] s s' := by
  unfold F_X5_choose_6_j30
  rw [d_l_t, d_l_t]
  refine ⟨_, rfl, fun a ha => ?_, rfl⟩
  have h60 : a ≠ 60 := fun z => ha (by rw [z]; decide)
  have h56 : a ≠ 56 := fun z => ha (by rw [z]; decide)
  exact (d_st_n h60).trans (d_si_n h56)
theorem v_chl6 {K : Int → Int → Int → Int → d_S → Option d_S} {x2 x3 x4 : Int} : ∀ (j k m : Nat), k + j = 5 → j < m → ∀ s : d_S, s.1 10 2 ≤ 5 → ∃ s', F_X5_choose_6_l71 K m ((0 : Nat) : Int) x2 x3 x4 (k : Int) s = K ((0 : Nat) : Int) x2 x3 x4 s' ∧ v_oc [56, 59, 60] s s' := by
  intro j
  induction j with
  | zero =>
    intro k m hk hf s hc
    obtain ⟨m, rfl⟩ : ∃ q, m = q + 1 := ⟨m - 1, by omega⟩
    refine ⟨s, ?_, v_oc.rf⟩
    show F_X5_choose_6_l71_b K (F_X5_choose_6_l71 K m) _ _ _ _ _ _ = _
    unfold F_X5_choose_6_l71_b
    rw [d_g_t (by omega)]
    split
    · rw [if_neg (by omega)]
    · rfl
  | succ j ih =>
    intro k m hk hf s hc
    obtain ⟨m, rfl⟩ : ∃ q, m = q + 1 := ⟨m - 1, by omega⟩
    have ek : d_w ((k : Int) + 1) = ((k + 1 : Nat) : Int) := d_w_id (by omega) (by omega)
    have e5 : d_w (((0 : Nat) : Int) * 5 + (k : Int)) = ((0 * 5 + k : Nat) : Int) := d_w_id (by omega) (by omega)
    have e1 : d_w (((0 : Nat) : Int) + 1) = ((1 : Nat) : Int) := d_w_id (by omega) (by omega)
    show ∃ s', F_X5_choose_6_l71_b K (F_X5_choose_6_l71 K m) _ _ _ _ _ _ = _ ∧ _
    unfold F_X5_choose_6_l71_b
    rw [d_g_t (by omega)]
    split
    rotate_left
    · exact ⟨s, rfl, v_oc.rf⟩
    rw [if_pos (by omega), e5, d_g_t (by omega), d_l_t]
    obtain ⟨r, hr⟩ := P_isFree_t (s := s) (y := s.1 57 (((0 * 5 + k : Nat) : Int)).toNat) (c := 0) (by decide)
    rw [hr, d_b_t, ek]
    split
    · exact ih (k + 1) m (by omega) (by omega) s hc
    · rw [d_g_t (by omega), d_l_t, e1]
      obtain ⟨s7, hs7⟩ : ∃ z, z = d_si s 59 (((0 : Nat) : Int)).toNat (s.1 57 (((0 * 5 + k : Nat) : Int)).toNat) := ⟨_, rfl⟩
      have f7 : v_oc [56, 59, 60] s s7 := by rw [hs7]; exact v_oc.si (by decide)
      rw [← hs7]
      obtain ⟨s8, a1, a2⟩ := v_cho5 (s := s7) (by rw [f7.1 10 (by decide)]; exact hc) (x2 := d_w (x2 + x4)) (x3 := d_w (x3 - x4))
      rw [a1, d_b_t]
      obtain ⟨s', b1, b2⟩ := ih (k + 1) m (by omega) (by omega) s8 (by rw [a2.1 10 (by decide), f7.1 10 (by decide)]; exact hc)
      exact ⟨s', b1, (f7.tr a2).tr b2⟩
theorem v_cho6 (hc : s.1 10 2 ≤ 5) {x2 x3 : Int} : ∃ s', F_X5_choose_6 s ((0 : Nat) : Int) x2 x3 = some s' ∧ v_oc [56, 59, 60] s s' := by
  unfold F_X5_choose_6
  split
  rotate_left
  · exact ⟨s, rfl, v_oc.rf⟩
  split
  rotate_left
  · exact v_chd6
  rw [if_pos (by omega)]
  obtain ⟨y, hy⟩ := P_part10_t (s := s) (x1 := ((0 : Nat) : Int)) (x2 := 2)
  rw [hy, d_b_t]
  obtain ⟨s1, a1, a2⟩ := v_chl6 (K := fun x1_u9 x2_u9 x3_u9 x4_u9 s_u9 => d_g (0 ≤ x1_u9 ∧ x1_u9 < 5) (d_l (d_si s_u9 59 ((x1_u9).toNat) (-1)) (fun s11 => d_b (F_X5_choose_5 s11 (d_w (x1_u9 + 1)) x2_u9 (d_w (x3_u9 - x4_u9))) (fun s12 => some s12)))) (x2 := x2) (x3 := x3) (x4 := y) 5 0 d_N rfl (by rw [d_N_is]; decide) s hc
  obtain ⟨s2, hs2⟩ : ∃ z, z = d_si s1 59 (((0 : Nat) : Int)).toNat (-1) := ⟨_, rfl⟩
  have f2 : v_oc [56, 59, 60] s1 s2 := by rw [hs2]; exact v_oc.si (by decide)
  obtain ⟨s3, b1, b2⟩ := v_cho5 (s := s2) (by rw [f2.1 10 (by decide), a2.1 10 (by decide)]; exact hc) (x2 := x2) (x3 := d_w (x3 - y))
  refine ⟨s3, ?_, (a2.tr f2).tr b2⟩
  refine a1.trans ?_
  have e1 : d_w (((0 : Nat) : Int) + 1) = ((1 : Nat) : Int) := d_w_id (by omega) (by omega)
  show d_g (0 ≤ ((0 : Nat) : Int) ∧ ((0 : Nat) : Int) < 5) (d_l (d_si s1 59 (((0 : Nat) : Int)).toNat (-1)) (fun s11 => d_b (F_X5_choose_5 s11 (d_w (((0 : Nat) : Int) + 1)) x2 (d_w (x3 - y))) (fun s12 => some s12))) = _
  rw [d_g_t (by omega), d_l_t, ← hs2, e1, b1, d_b_t]
theorem v_dwl (hQ : v_Q s u v W H) (hS : v_S s N sg) (hb : b < v_bl u v) {y : Int} : ∀ (j k m : Nat), k + j = N → j < m → ∀ z : Int, (-1 ≤ z ∧ z ≤ 9) → ∃ r, F_X5_deepestWhole_l5 s m y (b : Int) z (k : Int) = some r ∧ -1 ≤ r ∧ r ≤ 9 := by
  have hN := hS.2.1
  intro j
  induction j with
  | zero =>
    intro k m hk hf z hz
    obtain ⟨m, rfl⟩ : ∃ q, m = q + 1 := ⟨m - 1, by omega⟩
    refine ⟨z, ?_, hz⟩
    show F_X5_deepestWhole_l5_b s (F_X5_deepestWhole_l5 s m) _ _ _ _ = _
    unfold F_X5_deepestWhole_l5_b
    rw [hS.1, if_neg (by omega)]
  | succ j ih =>
    intro k m hk hf z hz
    obtain ⟨m, rfl⟩ : ∃ q, m = q + 1 := ⟨m - 1, by omega⟩
    have hk2 : k < N := by omega
    have g5 := hS.le hk2 (k := 5) (by decide)
    have ek : d_w ((k : Int) + 1) = ((k + 1 : Nat) : Int) := d_w_id (by omega) (by omega)
    have skip := ih (k + 1) m (by omega) (by omega) z hz
    show ∃ r, F_X5_deepestWhole_l5_b s (F_X5_deepestWhole_l5 s m) _ _ _ _ = _ ∧ _
    unfold F_X5_deepestWhole_l5_b
    rw [hS.1, if_pos (by omega), P_sightPart hS hk2 (k := 3) (by decide) (by decide), d_b_t, P_sightPart hS hk2 (k := 4) (by decide) (by decide), d_b_t, P_sightPart hS hk2 (k := 0) (by decide) (by decide), d_b_t, P_cellsOfC hQ hS hb hk2, d_b_t, P_sightPart hS hk2 (k := 5) (by decide) (by decide), d_b_t, P_max, d_b_t, ek]
    split
    · split
      · exact ih (k + 1) m (by omega) (by omega) _ (by have : (((sg k (5 : Int).toNat : Nat) : Int)) = ((sg k 5 : Nat) : Int) := rfl; omega)
      · exact skip
    · exact skip
theorem P_deepest_t (hQ : v_Q s u v W H) (hS : v_S s N sg) (hb : b < v_bl u v) {y : Int} : ∃ r, F_X5_deepestWhole s y (b : Int) = some r ∧ -1 ≤ r ∧ r ≤ 9 := by
  have hN := hS.2.1
  exact v_dwl hQ hS hb N 0 d_N (by omega) (by rw [d_N_is]; omega) (-1) (by decide)
theorem v_rdy.serves (h : v_rdy t s L u v W H st me so N sg day heat x) (hb : b < v_bl u v) {y : Int} : ∃ r s', F_X5_serves t s (b : Int) y = some (r, s') ∧ v_cf s s' := by
  obtain ⟨hM, hQ, hS, hY, hN, e, hE, hCT⟩ := id h
  have h64 := hQ.2.2.1
  have hcf : v_cf s s := ⟨fun _ _ _ _ => rfl, fun _ _ => rfl, hN⟩
  obtain ⟨p1, e1⟩ := P_part10_t (s := s) (x1 := y) (x2 := 1)
  obtain ⟨p0, e0⟩ := P_part10_t (s := s) (x1 := y) (x2 := 0)
  obtain ⟨w, ew, w1, w2⟩ := P_deepest_t (s := s) hQ hS hb (y := p0)
  unfold F_X5_serves
  rw [e1, d_b_t, e0, d_b_t, ew, d_b_t, P_isSoldC hM (by omega), d_b_t]
  by_cases q : ((so b : Nat) : Int) = 0
  rotate_left
  · rw [if_neg q]; exact ⟨0, s, rfl, hcf⟩
  rw [if_pos q]
  by_cases q2 : w = -1
  · rw [if_pos q2]; exact ⟨0, s, rfl, hcf⟩
  rw [if_neg q2, P_within, d_b_t]
  by_cases q3 : 0 ≤ d_w (p1 - s.1 6 3) ∧ d_w (p1 - s.1 6 3) ≤ 60
  rotate_left
  · rw [v_bf q3, if_pos rfl]; exact ⟨0, s, rfl, hcf⟩
  obtain ⟨n, hn⟩ : ∃ n : Nat, d_w (p1 - s.1 6 3) = n := ⟨(d_w (p1 - s.1 6 3)).toNat, by omega⟩
  rw [hn] at q3 ⊢
  obtain ⟨s2, s3, a1, a2, a3, a4, a5⟩ := P_course (n := n) hM hQ hb hE hCT hY hcf (by omega)
  rw [v_bt q3, if_neg (by decide), a1, d_b_t, a2, d_b_t]
  split
  · exact ⟨0, s3, rfl, a4⟩
  · exact ⟨1, s3, rfl, a4⟩
theorem v_cf.os (h : v_cf s s1) : v_os s s1 := ⟨fun a h1 h2 h3 _ => h.1 a h1 h2 h3, h.2.1, h.2.2⟩
theorem v_fll {K : Int → Int → d_S → Option d_S} {o : Nat} (ho : o < 5) : ∀ (j k m : Nat), k + j = v_bl u v → j < m → ∀ (c : Nat) (s : d_S), c ≤ 5 → v_rdy t s L u v W H st me so N sg day heat x → ∃ (c' : Nat) (s' : d_S), F_X5_findLowest_l4 t K m (o : Int) (c : Int) (k : Int) s = K (o : Int) (c' : Int) s' ∧ v_os s s' := by
  intro j
  induction j with
  | zero =>
    intro k m hk hf c s hc h
    obtain ⟨m, rfl⟩ : ∃ q, m = q + 1 := ⟨m - 1, by omega⟩
    refine ⟨c, s, ?_, ⟨fun _ _ _ _ _ => rfl, fun _ _ => rfl, h.2.2.2.2.1⟩⟩
    show F_X5_findLowest_l4_b t K (F_X5_findLowest_l4 t K m) _ _ _ _ = _
    unfold F_X5_findLowest_l4_b
    rw [h.2.1.1, if_neg (by omega)]
  | succ j ih =>
    intro k m hk hf c s hc h
    obtain ⟨m, rfl⟩ : ∃ q, m = q + 1 := ⟨m - 1, by omega⟩
    have h64 := h.2.1.2.2.1
    have rf : v_os s s := ⟨fun _ _ _ _ _ => rfl, fun _ _ => rfl, h.2.2.2.2.1⟩
    have ek : d_w ((k : Int) + 1) = ((k + 1 : Nat) : Int) := d_w_id (by omega) (by omega)
    have e5 : d_w ((o : Int) * 5 + (c : Int)) = ((o * 5 + c : Nat) : Int) := d_w_id (by omega) (by omega)
    show ∃ c' s', F_X5_findLowest_l4_b t K (F_X5_findLowest_l4 t K m) _ _ _ _ = _ ∧ _
    unfold F_X5_findLowest_l4_b
    rw [h.2.1.1, if_pos (by omega)]
    by_cases q : c < 5
    rotate_left
    · rw [if_neg (by omega)]; exact ⟨c, s, rfl, rf⟩
    rw [if_pos (by omega), e5, P_within, d_b_t, v_bt (by rw [d_w_id (by omega) (by omega)]; omega), if_neg (by decide), ek]
    obtain ⟨r, s1, a1, a2⟩ := h.serves (b := k) (by omega) (y := (o : Int))
    rw [a1, d_b2_t]
    split
    · obtain ⟨c', s', b1, b2⟩ := ih (k + 1) m (by omega) (by omega) c s1 hc (h.os a2.os)
      exact ⟨c', s', b1, a2.os.tr b2⟩
    · rw [d_g_t (by omega), d_l_t, Int.toNat_natCast, d_w_id (x := (c : Int) + 1) (by omega) (by omega)]
      have f2 : v_os s (d_si s1 57 (o * 5 + c) (k : Int)) := a2.os.si (by decide)
      obtain ⟨c', s', b1, b2⟩ := ih (k + 1) m (by omega) (by omega) (c + 1) _ (by omega) (h.os f2)
      exact ⟨c', s', b1, f2.tr b2⟩
theorem v_rdy.lowest (h : v_rdy t s L u v W H st me so N sg day heat x) {o : Nat} (ho : o < 5) : ∃ s', F_X5_findLowest t s (o : Int) = some s' ∧ v_os s s' := by
  have h64 := h.2.1.2.2.1
  obtain ⟨c, s1, a1, a2⟩ := v_fll (t := t) (L := L) (K := fun x1_u6 x2_u6 s_u6 => d_b (F_X11_within x1_u6 0 4) (fun v7 => if v7 = 0 then some s_u6 else d_g (0 ≤ x1_u6 ∧ x1_u6 < 5) (d_l (d_si s_u6 58 ((x1_u6).toNat) x2_u6) (fun s9 => some s9)))) ho (v_bl u v) 0 d_N (by omega) (by rw [d_N_is]; omega) 0 s (by decide) h
  refine ⟨d_si s1 58 o (c : Int), ?_, a2.si (by decide)⟩
  unfold F_X5_findLowest
  refine a1.trans ?_
  show d_b (F_X11_within (o : Int) 0 4) _ = _
  rw [P_within, d_b_t, v_bt (by omega), if_neg (by decide), d_g_t (by omega), d_l_t, Int.toNat_natCast]
theorem v_stl {K : Int → d_S → Option d_S} {c : Nat} (hc : c ≤ 5) : ∀ (j k m : Nat), k + j = c → j < m → ∀ (y : Int) (s : d_S), s.1 10 2 = (c : Int) → v_rdy t s L u v W H st me so N sg day heat x → ∃ (y' : Int) (s' : d_S), F_X5_settle_l4 t K m y (k : Int) s = K y' s' ∧ v_os s s' := by
  intro j
  induction j with
  | zero =>
    intro k m hk hf y s h10 h
    obtain ⟨m, rfl⟩ : ∃ q, m = q + 1 := ⟨m - 1, by omega⟩
    refine ⟨y, s, ?_, ⟨fun _ _ _ _ _ => rfl, fun _ _ => rfl, h.2.2.2.2.1⟩⟩
    show F_X5_settle_l4_b t K (F_X5_settle_l4 t K m) _ _ _ = _
    unfold F_X5_settle_l4_b
    rw [h10, if_neg (by omega)]
  | succ j ih =>
    intro k m hk hf y s h10 h
    obtain ⟨m, rfl⟩ : ∃ q, m = q + 1 := ⟨m - 1, by omega⟩
    obtain ⟨s1, a1, a2⟩ := h.lowest (o := k) (by omega)
    obtain ⟨p, hp⟩ := P_part10_t (s := s1) (x1 := (k : Int)) (x2 := 2)
    obtain ⟨y', s', b1, b2⟩ := ih (k + 1) m (by omega) (by omega) (d_w (y + p)) s1 (by rw [a2.1 10 (by decide) (by decide) (by decide) (by decide)]; exact h10) (h.os a2)
    refine ⟨y', s', ?_, a2.tr b2⟩
    show F_X5_settle_l4_b t K (F_X5_settle_l4 t K m) _ _ _ = _
    unfold F_X5_settle_l4_b
    rw [h10, if_pos (by omega), a1, d_b_t, hp, d_b_t, d_w_id (x := (k : Int) + 1) (by omega) (by omega)]
    exact b1
theorem v_rdy.settle (h : v_rdy t s L u v W H st me so N sg day heat x) (h10 : 0 ≤ s.1 10 2 ∧ s.1 10 2 ≤ 5) : ∃ s', F_X5_settle t s = some s' ∧ v_os s s' := by
  obtain ⟨c, hc⟩ : ∃ c : Nat, s.1 10 2 = c := ⟨(s.1 10 2).toNat, by omega⟩
  obtain ⟨y, s1, a1, a2⟩ := v_stl (t := t) (L := L) (K := fun x1_u3 s_u3 => d_l (d_si s_u3 56 7 (-1)) (fun s4 => d_b (F_X5_choose_6 s4 0 0 x1_u3) (fun s5 => some s5))) (c := c) (by omega) c 0 d_N (by omega) (by rw [d_N_is]; omega) 0 s hc h
  have f2 : v_os s (d_si s1 56 7 (-1)) := a2.si (by decide)
  obtain ⟨s3, b1, b2⟩ := v_cho6 (s := d_si s1 56 7 (-1)) (by rw [f2.1 10 (by decide) (by decide) (by decide) (by decide)]; omega) (x2 := 0) (x3 := y)
  refine ⟨s3, ?_, f2.oc b2⟩
  unfold F_X5_settle
  refine a1.trans ?_
  show d_l (d_si s1 56 7 (-1)) (fun s4 => d_b (F_X5_choose_6 s4 0 0 y) (fun s5 => some s5)) = _
  have b1' : F_X5_choose_6 (d_si s1 56 7 (-1)) 0 0 y = some s3 := b1
  rw [d_l_t, b1', d_b_t]
theorem v_rdy.served (h : v_rdy t s L u v W H st me so N sg day heat x) (h10 : 0 ≤ s.1 10 2 ∧ s.1 10 2 ≤ 5) {x1 : Int} : ∃ y s', F_X11_served t s x1 = some (y, s') ∧ v_os s s' := by
  unfold F_X11_served
  rw [P_within, d_b_t, d_w_id (x := s.1 10 2 - 1) (by omega) (by omega)]
  by_cases c1 : -1 ≤ x1 ∧ x1 ≤ s.1 10 2 - 1
  rotate_left
  · rw [v_bf c1, if_pos rfl]; exact ⟨-2, s, rfl, ⟨fun _ _ _ _ _ => rfl, fun _ _ => rfl, h.2.2.2.2.1⟩⟩
  obtain ⟨s1, a1, a2⟩ := h.settle h10
  rw [v_bt c1, if_neg (by decide), a1, d_b_t]
  by_cases q : x1 = -1
  · rw [if_pos q]; exact ⟨_, s1, rfl, a2⟩
  · rw [if_neg q]
    unfold F_X5_blockFor
    rw [P_within, d_b_t, v_bt (by rw [d_w_id (by omega) (by omega)]; omega), if_neg (by decide), d_g_t (by omega), d_b_t]
    exact ⟨_, s1, rfl, a2⟩
end V62
section V63
variable {s s1 s2 : d_S} {t : Nat → Option p_C} {L : v_LR} {u v W H N b c : Nat} {st me so : Nat → Nat} {sg : Nat → Nat → Nat} {day heat x : Int} {e : Option Nat}
def v_o7 (s s' : d_S) : Prop := (∀ a, a < 74 ∨ 77 < a → s'.1 a = s.1 a) ∧ s'.2 = s.2
theorem v_o7.rf : v_o7 s s := ⟨fun _ _ => rfl, rfl⟩
theorem v_o7.tr (h : v_o7 s s1) (h' : v_o7 s1 s2) : v_o7 s s2 := ⟨fun a ha => (h'.1 a ha).trans (h.1 a ha), h'.2.trans h.2⟩
theorem v_o7.si {a k : Nat} {y : Int} (ha : 74 ≤ a ∧ a ≤ 77) : v_o7 s (d_si s a k y) := ⟨fun c hc => d_si_n (by omega), rfl⟩
theorem v_go.o7 {st me so : Nat → Nat} (h : v_go s L u v W H day heat x st me so) (h' : v_o7 s s1) : v_go s1 L u v W H day heat x st me so := by
  unfold v_go at h ⊢
  rw [h'.1 65 (by decide), h'.1 67 (by decide), h'.1 71 (by decide)]
  exact h
theorem v_isv (hG : v_G (s.1 65) u v W H) (hZ : v_Z (s.1 65) N sg) (hB : v_B (s.1 65) st me so) (hb : b < v_bl u v) {y : Int} : ∀ (j k m : Nat), k + j = N → j < m → ∃ r, F_X12_isServing_l12 s m (b : Int) y (k : Int) = some r := by
  have hN := hZ.2.1
  have hac := hG.ac
  intro j
  induction j with
  | zero =>
    intro k m hk hf
    obtain ⟨m, rfl⟩ : ∃ q, m = q + 1 := ⟨m - 1, by omega⟩
    refine ⟨0, ?_⟩
    show F_X12_isServing_l12_b s (F_X12_isServing_l12 s m) _ _ _ = _
    unfold F_X12_isServing_l12_b
    rw [hZ.1, if_neg (by omega)]
  | succ j ih =>
    intro k m hk hf
    obtain ⟨m, rfl⟩ : ∃ q, m = q + 1 := ⟨m - 1, by omega⟩
    obtain ⟨r, hr⟩ := ih (k + 1) m (by omega) (by omega)
    have hk2 : k < N := by omega
    have e0 : F_X12_sightOf s (k : Int) 0 = _ := P_sightOf hZ hk2 (k := 0) (by decide)
    have e5 : F_X12_sightOf s (k : Int) 5 = _ := P_sightOf hZ hk2 (k := 5) (by decide)
    have ek : d_w ((k : Int) + 1) = ((k + 1 : Nat) : Int) := d_w_id (by omega) (by omega)
    show ∃ r, F_X12_isServing_l12_b s (F_X12_isServing_l12 s m) _ _ _ = _
    unfold F_X12_isServing_l12_b
    rw [hZ.1, if_pos (by omega), e0, d_b_t, P_cellsIn hG hZ hb hk2, d_b_t, P_areaOf hZ hk2, d_b_t, P_get1 hB (by omega), d_b_t, e5, d_b_t, ek]
    split
    · split
      · split
        · exact ⟨r, hr⟩
        · exact ⟨1, rfl⟩
      · exact ⟨r, hr⟩
    · exact ⟨r, hr⟩
theorem P_isServing_t (hG : v_G (s.1 65) u v W H) (hZ : v_Z (s.1 65) N sg) (hB : v_B (s.1 65) st me so) (hb : b < v_bl u v) {y : Int} : ∃ r, F_X12_isServing s (b : Int) y = some r := by
  have hN := hZ.2.1
  have hac := hG.ac
  unfold F_X12_isServing
  rw [P_isSold hB (by omega), d_b_t]
  split
  · exact v_isv hG hZ hB hb N 0 d_N (by omega) (by rw [d_N_is]; omega)
  · exact ⟨0, rfl⟩
theorem v_f75 {K : Int → Int → d_S → Option d_S} {x1 : Int} {o : Nat} (ho : o < 5) : ∀ (j k m : Nat), k + j = v_bl u v → j < m → ∀ s : d_S, v_G (s.1 65) u v W H → v_Z (s.1 65) N sg → v_B (s.1 65) st me so → ∃ s', F_X12_findServing_l75 K m x1 (o : Int) (k : Int) s = K x1 (o : Int) s' ∧ v_o7 s s' := by
  intro j
  induction j with
  | zero =>
    intro k m hk hf s hG hZ hB
    obtain ⟨m, rfl⟩ : ∃ q, m = q + 1 := ⟨m - 1, by omega⟩
    refine ⟨s, ?_, v_o7.rf⟩
    show F_X12_findServing_l75_b K (F_X12_findServing_l75 K m) _ _ _ _ = _
    unfold F_X12_findServing_l75_b
    rw [P_blocks hG, d_b_t, if_neg (by omega)]
  | succ j ih =>
    intro k m hk hf s hG hZ hB
    obtain ⟨m, rfl⟩ : ∃ q, m = q + 1 := ⟨m - 1, by omega⟩
    have hac := hG.ac
    obtain ⟨r, hr⟩ := P_isServing_t hG hZ hB (b := k) (by omega) (y := s.1 65 (284 + 3 * o))
    have e1 : d_w (284 + 3 * (o : Int)) = ((284 + 3 * o : Nat) : Int) := d_w_id (by omega) (by omega)
    have e2 : d_w (64 * (o : Int) + (k : Int)) = ((64 * o + k : Nat) : Int) := d_w_id (by omega) (by omega)
    have f : v_o7 s (d_si s 75 (64 * o + k) r) := v_o7.si (by decide)
    obtain ⟨s', b1, b2⟩ := ih (k + 1) m (by omega) (by omega) (d_si s 75 (64 * o + k) r) (by rw [f.1 65 (by decide)]; exact hG) (by rw [f.1 65 (by decide)]; exact hZ) (by rw [f.1 65 (by decide)]; exact hB)
    refine ⟨s', ?_, f.tr b2⟩
    show F_X12_findServing_l75_b K (F_X12_findServing_l75 K m) _ _ _ _ = _
    unfold F_X12_findServing_l75_b
    rw [P_blocks hG, d_b_t, if_pos (by omega), e1, d_g_t (by omega), Int.toNat_natCast, hr, d_b_t, e2, d_g_t (by omega), d_l_t, Int.toNat_natCast, d_w_id (x := (k : Int) + 1) (by omega) (by omega)]
    exact b1
theorem v_f36 {K : Int → d_S → Option d_S} {x1 : Int} (hc : c ≤ 5) : ∀ (j k m : Nat), k + j = c → j < m → ∀ s : d_S, s.1 65 4 = (c : Int) → v_G (s.1 65) u v W H → v_Z (s.1 65) N sg → v_B (s.1 65) st me so → ∃ s', F_X12_findServing_l36 K m x1 (k : Int) s = K x1 s' ∧ v_o7 s s' := by
  intro j
  induction j with
  | zero =>
    intro k m hk hf s h4 hG hZ hB
    obtain ⟨m, rfl⟩ : ∃ q, m = q + 1 := ⟨m - 1, by omega⟩
    refine ⟨s, ?_, v_o7.rf⟩
    show F_X12_findServing_l36_b K (F_X12_findServing_l36 K m) _ _ _ = _
    unfold F_X12_findServing_l36_b
    rw [h4, if_neg (by omega)]
  | succ j ih =>
    intro k m hk hf s h4 hG hZ hB
    obtain ⟨m, rfl⟩ : ∃ q, m = q + 1 := ⟨m - 1, by omega⟩
    have hac := hG.ac
    have e1 : d_w (284 + 3 * (k : Int) + 1) = ((284 + 3 * k + 1 : Nat) : Int) := d_w_id (by omega) (by omega)
    have ek : d_w ((k : Int) + 1) = ((k + 1 : Nat) : Int) := d_w_id (by omega) (by omega)
    show ∃ s', F_X12_findServing_l36_b K (F_X12_findServing_l36 K m) _ _ _ = _ ∧ _
    unfold F_X12_findServing_l36_b
    rw [h4, if_pos (by omega), e1, d_g_t (by omega)]
    split
    · obtain ⟨s1, a1, a2⟩ := v_f75 (K := fun x1_u11 x2_u11 s_u11 => F_X12_findServing_l36 K m x1_u11 (d_w (x2_u11 + 1)) s_u11) (x1 := x1) (o := k) (by omega) (v_bl u v) 0 d_N (by omega) (by rw [d_N_is]; omega) s hG hZ hB
      have e65 := a2.1 65 (by decide)
      obtain ⟨s', b1, b2⟩ := ih (k + 1) m (by omega) (by omega) s1 (by rw [e65]; exact h4) (by rw [e65]; exact hG) (by rw [e65]; exact hZ) (by rw [e65]; exact hB)
      refine ⟨s', ?_, a2.tr b2⟩
      refine a1.trans ?_
      show F_X12_findServing_l36 K m x1 (d_w ((k : Int) + 1)) s1 = _
      rw [ek]
      exact b1
    · rw [ek]
      exact ih (k + 1) m (by omega) (by omega) s h4 hG hZ hB
def v_r7 (s s' : d_S) : Prop := (∀ j, j ≠ 9 → j ≠ 10 → j ≠ 13 → (j < 20 ∨ 212 ≤ j) → s'.1 65 j = s.1 65 j) ∧ (∀ a, a ≠ 65 → a ≠ 71 → (a < 74 ∨ 77 < a) → s'.1 a = s.1 a) ∧ s'.2.1 = s.2.1
theorem v_r7.rf : v_r7 s s := ⟨fun _ _ _ _ _ => rfl, fun _ _ _ _ => rfl, rfl⟩
theorem v_r7.tr (h : v_r7 s s1) (h' : v_r7 s1 s2) : v_r7 s s2 := ⟨fun j a b c d => (h'.1 j a b c d).trans (h.1 j a b c d), fun a b c d => (h'.2.1 a b c d).trans (h.2.1 a b c d), h'.2.2.trans h.2.2⟩
theorem v_o7.r7 (h : v_o7 s s1) : v_r7 s s1 := ⟨fun j _ _ _ _ => by rw [h.1 65 (by decide)], fun a _ _ h3 => h.1 a h3, by rw [h.2]⟩
theorem v_rf.r7 (h : v_rf s s1) : v_r7 s s1 := ⟨h.1, fun a h1 h2 _ => h.2.1 a h1 h2, h.2.2⟩
theorem v_r7.Z (h : v_r7 s s1) (hZ : v_Z (s.1 65) N sg) : v_Z (s1.1 65) N sg := by
  obtain ⟨z0, z12, zz⟩ := hZ
  refine ⟨by rw [h.1 0 (by decide) (by decide) (by decide) (by decide)]; exact z0, z12, fun n hn k hk => ?_⟩
  rw [h.1 _ (by omega) (by omega) (by omega) (by omega)]
  exact zz n hn k hk
theorem v_f28 {K : d_S → Option d_S} (hc : c ≤ 5) : ∀ (j k m : Nat), k + j = 61 → j < m → ∀ (s : d_S) (day heat x : Int) (st me : Nat → Nat), s.1 65 4 = (c : Int) → v_Z (s.1 65) N sg → v_go s L u v W H day heat x st me so → ∃ s', F_X12_findServing_l28 K m (k : Int) s = K s' ∧ v_r7 s s' ∧ v_Nm (s'.1 71) := by
  intro j
  induction j with
  | zero =>
    intro k m hk hf s day heat x st me h4 hZ h
    obtain ⟨m, rfl⟩ : ∃ q, m = q + 1 := ⟨m - 1, by omega⟩
    refine ⟨s, ?_, v_r7.rf, h.2.2.1⟩
    show F_X12_findServing_l28_b K (F_X12_findServing_l28 K m) _ _ = _
    unfold F_X12_findServing_l28_b
    rw [if_pos (by omega)]
  | succ j ih =>
    intro k m hk hf s day heat x st me h4 hZ h
    obtain ⟨m, rfl⟩ : ∃ q, m = q + 1 := ⟨m - 1, by omega⟩
    obtain ⟨s1, a1, a2⟩ := v_f36 (K := fun x1_u12 s_u12 => d_b (F_X12_goOn s_u12) (fun s13 => F_X12_findServing_l28 K m (d_w (x1_u12 + 1)) s13)) (x1 := (k : Int)) hc c 0 d_N (by omega) (by rw [d_N_is]; omega) s h4 h.1 hZ h.2.2.2.1
    obtain ⟨s2, d1, h1, x1, st1, me1, g1, g2, g3, -, -⟩ := P_goOn (h.o7 a2)
    have f2 : v_r7 s s2 := a2.r7.tr g3.r7
    obtain ⟨s', b1, b2, b3⟩ := ih (k + 1) m (by omega) (by omega) s2 d1 h1 x1 st1 me1 (by rw [f2.1 4 (by decide) (by decide) (by decide) (by decide)]; exact h4) (f2.Z hZ) g2
    refine ⟨s', ?_, f2.tr b2, b3⟩
    show F_X12_findServing_l28_b K (F_X12_findServing_l28 K m) _ _ = _
    unfold F_X12_findServing_l28_b
    rw [if_neg (by omega)]
    refine a1.trans ?_
    show d_b (F_X12_goOn s1) (fun s13 => F_X12_findServing_l28 K m (d_w ((k : Int) + 1)) s13) = _
    rw [g1, d_b_t, d_w_id (x := (k : Int) + 1) (by omega) (by omega)]
    exact b1
theorem v_f2 {K : d_S → Option d_S} : ∀ (j k m : Nat), k + j = 320 → j < m → ∀ s : d_S, ∃ s', F_X12_findServing_l2 K m (k : Int) s = K s' ∧ v_o7 s s' := by
  intro j
  induction j with
  | zero =>
    intro k m hk hf s
    obtain ⟨m, rfl⟩ : ∃ q, m = q + 1 := ⟨m - 1, by omega⟩
    refine ⟨s, ?_, v_o7.rf⟩
    show F_X12_findServing_l2_b K (F_X12_findServing_l2 K m) _ _ = _
    unfold F_X12_findServing_l2_b
    rw [if_neg (by omega)]
  | succ j ih =>
    intro k m hk hf s
    obtain ⟨m, rfl⟩ : ∃ q, m = q + 1 := ⟨m - 1, by omega⟩
    obtain ⟨s', b1, b2⟩ := ih (k + 1) m (by omega) (by omega) (d_si s 75 k 0)
    refine ⟨s', ?_, (v_o7.si (by decide)).tr b2⟩
    show F_X12_findServing_l2_b K (F_X12_findServing_l2 K m) _ _ = _
    unfold F_X12_findServing_l2_b
    rw [if_pos (by omega), d_g_t (by omega), d_l_t, Int.toNat_natCast, d_w_id (x := (k : Int) + 1) (by omega) (by omega)]
    exact b1
theorem v_R.o7 (h : v_R t s) (h' : v_o7 s s1) : v_R t s1 := h.scr (fun a ha => h'.1 a (by unfold v_cl at ha; omega)) (fun a _ => by rw [h'.2]) ⟨by rw [h'.1 49 (by decide)]; exact h.2.2.2.2.2.2.2.1.1, by rw [h'.1 71 (by decide)]; exact h.2.2.2.2.2.2.2.1.2⟩
theorem T_findServing (h : v_R t s) : ∃ s', F_X12_findServing s = some s' ∧ v_R t s' := by
  obtain ⟨s0, z1, z2⟩ := v_f2 (K := fun s_u3 => d_b (F_X12_begin s_u3) (fun s4 => F_X12_findServing_l28 (fun s_u14 => d_b (F_X12_putBack s_u14) (fun s15 => some s15)) d_N 0 s4)) 320 0 d_N rfl (by rw [d_N_is]; decide) s
  have h0 : v_R t s0 := h.o7 z2
  obtain ⟨e, L, u, v, W, H, st, me, so, N, sg, day, heat, x, hG, hQ, hB, hM, hZ, hS, hE, hCT, hY, hN1, hgo, hC, hBd⟩ := h0.come
  have h4 : 0 ≤ s0.1 65 4 ∧ s0.1 65 4 ≤ 5 := h0.2.1.2.2.1.2.2.1
  obtain ⟨c, hc⟩ : ∃ c : Nat, s0.1 65 4 = c := ⟨(s0.1 65 4).toNat, by omega⟩
  obtain ⟨s2, b1, b2, b3, b4⟩ := P_begin (s := s0)
  have e65 : s2.1 65 = s0.1 65 := b3 65 (by decide)
  have hgo2 : v_go s2 L u v W H day heat x st me so := v_R.begun b3 hgo
  obtain ⟨s3, c1, c2, c3⟩ := v_f28 (K := fun s_u14 => d_b (F_X12_putBack s_u14) (fun s15 => some s15)) (c := c) (sg := sg) (N := N) (by omega) 61 0 d_N rfl (by rw [d_N_is]; decide) s2 day heat x st me (by rw [e65]; exact hc) (by rw [e65]; exact hZ) hgo2
  obtain ⟨s4, p1, p2, p3, p4⟩ := P_putBack (s := s3) (s0 := s0) (fun i h1 h2 => by rw [c2.2.1 73 (by decide) (by decide) (by decide)]; exact b2 i h1 h2) (fun i hi => by rw [c2.1 i (by omega) (by omega) (by omega) (by omega), e65])
  refine ⟨s4, ?_, ?_⟩
  · unfold F_X12_findServing
    refine z1.trans ?_
    show d_b (F_X12_begin s0) _ = _
    rw [b1, d_b_t]
    refine c1.trans ?_
    show d_b (F_X12_putBack s3) _ = _
    rw [p1, d_b_t]
  · have fo : ∀ a, a ≠ 65 → a ≠ 71 → a ≠ 73 → (a < 74 ∨ 77 < a) → s4.1 a = s0.1 a := fun a h1 h2 h3 h4 => by rw [p3 a h1, c2.2.1 a h1 h2 h4, b3 a h3]
    refine h0.scr (fun a ha => ?_) (fun a _ => by rw [p4, c2.2.2, b4]) ⟨by rw [fo 49 (by decide) (by decide) (by decide) (by decide)]; exact h0.2.2.2.2.2.2.2.1.1, by rw [p3 71 (by decide)]; exact c3⟩
    by_cases q : a = 65
    · subst q; exact p2
    · exact fo a q (by unfold v_cl at ha; omega) (by unfold v_cl at ha; omega) (by unfold v_cl at ha; omega)
theorem v_mo2 {K : Int → d_S → Option (Int × d_S)} {x1 : Int} : ∀ (j k m : Nat), k + j = 32 → j < m → ∀ s : d_S, ∃ s', F_X12_mostOf_l2 K m x1 (k : Int) s = K x1 s' ∧ v_o7 s s' := by
  intro j
  induction j with
  | zero =>
    intro k m hk hf s
    obtain ⟨m, rfl⟩ : ∃ q, m = q + 1 := ⟨m - 1, by omega⟩
    refine ⟨s, ?_, v_o7.rf⟩
    show F_X12_mostOf_l2_b K (F_X12_mostOf_l2 K m) _ _ _ = _
    unfold F_X12_mostOf_l2_b
    rw [if_neg (by omega)]
  | succ j ih =>
    intro k m hk hf s
    obtain ⟨m, rfl⟩ : ∃ q, m = q + 1 := ⟨m - 1, by omega⟩
    have go : ∀ y : Int, ∃ s', F_X12_mostOf_l2 K m x1 ((k + 1 : Nat) : Int) (d_si s 76 k y) = K x1 s' ∧ v_o7 s s' := fun y => by
      obtain ⟨s', b1, b2⟩ := ih (k + 1) m (by omega) (by omega) (d_si s 76 k y)
      exact ⟨s', b1, (v_o7.si (by decide)).tr b2⟩
    show ∃ s', F_X12_mostOf_l2_b K (F_X12_mostOf_l2 K m) _ _ _ = _ ∧ _
    unfold F_X12_mostOf_l2_b
    rw [if_pos (by omega), d_g_t (by omega), d_l_t, d_g_t (by omega), d_l_t, Int.toNat_natCast, d_w_id (x := (k : Int) + 1) (by omega) (by omega)]
    split
    · exact go _
    · exact go _
theorem v_mo65 {K : Int → Int → Int → Int → d_S → Option (Int × d_S)} {f bb set : Nat} (hb : bb < 64) (hs : set < 32) (hc : c ≤ 5) : ∀ (j k m : Nat), k + j = c → j < m → ∀ (y : Int) (s : d_S), s.1 65 4 = (c : Int) → ∃ y' s', F_X12_mostOf_l65 K m (f : Int) y (bb : Int) (set : Int) (k : Int) s = K (f : Int) y' (bb : Int) (set : Int) s' ∧ v_o7 s s' := by
  intro j
  induction j with
  | zero =>
    intro k m hk hf y s h4
    obtain ⟨m, rfl⟩ : ∃ q, m = q + 1 := ⟨m - 1, by omega⟩
    refine ⟨y, s, ?_, v_o7.rf⟩
    show F_X12_mostOf_l65_b K (F_X12_mostOf_l65 K m) _ _ _ _ _ _ = _
    unfold F_X12_mostOf_l65_b
    rw [h4, if_neg (by omega)]
  | succ j ih =>
    intro k m hk hf y s h4
    obtain ⟨m, rfl⟩ : ∃ q, m = q + 1 := ⟨m - 1, by omega⟩
    have ek : d_w ((k : Int) + 1) = ((k + 1 : Nat) : Int) := d_w_id (by omega) (by omega)
    have e2 : d_w (64 * (k : Int) + (bb : Int)) = ((64 * k + bb : Nat) : Int) := d_w_id (by omega) (by omega)
    have e3 : d_w (284 + 3 * (k : Int) + 2) = ((284 + 3 * k + 2 : Nat) : Int) := d_w_id (by omega) (by omega)
    have p2 : 2 ^ k < 2 ^ 5 := Nat.pow_lt_pow_right (by decide) (by omega)
    have e4 : d_or (set : Int) (d_shl 1 (k : Int)) = ((set ||| 2 ^ k : Nat) : Int) := by rw [v_1shl (by omega), v_or (by omega) (by omega)]
    have l4 : set ||| 2 ^ k < 32 := Nat.or_lt_two_pow (n := 5) hs p2
    have skip := ih (k + 1) m (by omega) (by omega) y s h4
    show ∃ y' s', F_X12_mostOf_l65_b K (F_X12_mostOf_l65 K m) _ _ _ _ _ _ = _ ∧ _
    unfold F_X12_mostOf_l65_b
    rw [h4, if_pos (by omega), d_g_t (by omega), P_has (by omega) (by omega), d_b_t, e2, e3, e4, ek]
    split
    · exact ⟨y, s, rfl, v_o7.rf⟩
    split
    rotate_left
    · exact skip
    rw [d_g_t (by omega)]
    split
    · exact skip
    rw [d_g_t (by omega), d_g_t (by omega), d_l_t, d_g_t (by omega)]
    generalize d_w (s.1 76 ((set : Int)).toNat + s.1 65 (((284 + 3 * k + 2 : Nat) : Int)).toNat) = z
    have j169 : ∀ s2, v_o7 s s2 → ∃ y' s', F_X12_mostOf_j169 (F_X12_mostOf_l65 K m) (f : Int) y (bb : Int) (set : Int) (k : Int) z s2 = K (f : Int) y' (bb : Int) (set : Int) s' ∧ v_o7 s s' := fun s2 g => by
      have go : ∀ y2, ∃ y' s', F_X12_mostOf_l65 K m (f : Int) y2 (bb : Int) (set : Int) ((k + 1 : Nat) : Int) s2 = K (f : Int) y' (bb : Int) (set : Int) s' ∧ v_o7 s s' := fun y2 => by
        obtain ⟨y', s', b1, b2⟩ := ih (k + 1) m (by omega) (by omega) y2 s2 (by rw [g.1 65 (by decide)]; exact h4)
        exact ⟨y', s', b1, g.tr b2⟩
      unfold F_X12_mostOf_j169
      rw [ek]
      split
      · exact go _
      · exact go _
    split
    · rw [d_g_t (by omega), d_l_t]
      exact j169 _ (v_o7.si (by decide))
    · exact j169 s v_o7.rf
theorem v_mo57 {K : Int → Int → Int → d_S → Option (Int × d_S)} {f bb : Nat} (hb : bb < 64) (hf5 : f ≤ 5) (hc : c ≤ 5) : ∀ (j m : Nat), j ≤ 32 → j < m → ∀ (y : Int) (s : d_S), s.1 65 4 = (c : Int) → ∃ y' s', F_X12_mostOf_l57 K m (f : Int) y (bb : Int) ((j : Int) - 1) s = K (f : Int) y' (bb : Int) s' ∧ v_o7 s s' := by
  intro j
  induction j with
  | zero =>
    intro m h32 hm y s h4
    obtain ⟨m, rfl⟩ : ∃ q, m = q + 1 := ⟨m - 1, by omega⟩
    refine ⟨y, s, ?_, v_o7.rf⟩
    show F_X12_mostOf_l57_b K (F_X12_mostOf_l57 K m) _ _ _ _ _ = _
    unfold F_X12_mostOf_l57_b
    rw [if_pos (by omega)]
  | succ j ih =>
    intro m h32 hm y s h4
    obtain ⟨m, rfl⟩ : ∃ q, m = q + 1 := ⟨m - 1, by omega⟩
    have ej : (((j + 1 : Nat) : Int) - 1) = (j : Int) := by omega
    have st : ∃ y' s', F_X12_mostOf_l65 (fun x1_u17 x2_u17 x3_u17 x4_u17 s_u17 => F_X12_mostOf_l57 K m x1_u17 x2_u17 x3_u17 (d_w (x4_u17 + (-1))) s_u17) d_N (f : Int) y (bb : Int) (j : Int) (f : Int) s = (fun (x1_u17 x2_u17 x3_u17 x4_u17 : Int) (s_u17 : d_S) => F_X12_mostOf_l57 K m x1_u17 x2_u17 x3_u17 (d_w (x4_u17 + (-1))) s_u17) (f : Int) y' (bb : Int) (j : Int) s' ∧ v_o7 s s' := by
      by_cases q : f ≤ c
      · exact v_mo65 (f := f) hb (show j < 32 by omega) hc (c - f) f d_N (by omega) (by rw [d_N_is]; omega) y s h4
      · refine ⟨y, s, ?_, v_o7.rf⟩
        rw [d_N_is]
        show F_X12_mostOf_l65_b _ (F_X12_mostOf_l65 _ 99999) _ _ _ _ _ _ = _
        unfold F_X12_mostOf_l65_b
        rw [h4, if_neg (by omega)]
    obtain ⟨y1, s1, a1, a2⟩ := st
    obtain ⟨y', s', b1, b2⟩ := ih m (by omega) (by omega) y1 s1 (by rw [a2.1 65 (by decide)]; exact h4)
    refine ⟨y', s', ?_, a2.tr b2⟩
    show F_X12_mostOf_l57_b K (F_X12_mostOf_l57 K m) _ _ _ _ _ = _
    unfold F_X12_mostOf_l57_b
    rw [ej, if_neg (by omega)]
    refine a1.trans ?_
    show F_X12_mostOf_l57 K m (f : Int) y1 (bb : Int) (d_w ((j : Int) + (-1))) s1 = _
    rw [d_w_id (by omega) (by omega)]
    exact b1
theorem v_mo33 {f : Nat} (hf5 : f ≤ 5) (hc : c ≤ 5) : ∀ (j k m : Nat), k + j = v_bl u v → j < m → ∀ (y : Int) (s : d_S), s.1 65 4 = (c : Int) → v_G (s.1 65) u v W H → ∃ y' s', F_X12_mostOf_l33 m (f : Int) y (k : Int) s = some (y', s') ∧ v_o7 s s' := by
  intro j
  induction j with
  | zero =>
    intro k m hk hf y s h4 hG
    obtain ⟨m, rfl⟩ : ∃ q, m = q + 1 := ⟨m - 1, by omega⟩
    refine ⟨y, s, ?_, v_o7.rf⟩
    show F_X12_mostOf_l33_b (F_X12_mostOf_l33 m) _ _ _ _ = _
    unfold F_X12_mostOf_l33_b
    rw [P_blocks hG, d_b_t, if_neg (by omega)]
  | succ j ih =>
    intro k m hk hf y s h4 hG
    obtain ⟨m, rfl⟩ : ∃ q, m = q + 1 := ⟨m - 1, by omega⟩
    have hac := hG.ac
    have ek : d_w ((k : Int) + 1) = ((k + 1 : Nat) : Int) := d_w_id (by omega) (by omega)
    show ∃ y' s', F_X12_mostOf_l33_b (F_X12_mostOf_l33 m) _ _ _ _ = _ ∧ _
    unfold F_X12_mostOf_l33_b
    rw [P_blocks hG, d_b_t, if_pos (by omega), d_g_t (by omega)]
    split
    · obtain ⟨y1, s1, a1, a2⟩ := v_mo57 (K := fun x1_u18 x2_u18 x3_u18 s_u18 => F_X12_mostOf_l33 m x1_u18 x2_u18 (d_w (x3_u18 + 1)) s_u18) (f := f) (bb := k) (by omega) hf5 hc 32 d_N (by decide) (by rw [d_N_is]; decide) y s h4
      have e65 := a2.1 65 (by decide)
      obtain ⟨y', s', b1, b2⟩ := ih (k + 1) m (by omega) (by omega) y1 s1 (by rw [e65]; exact h4) (by rw [e65]; exact hG)
      refine ⟨y', s', ?_, a2.tr b2⟩
      refine a1.trans ?_
      show F_X12_mostOf_l33 m (f : Int) y1 (d_w ((k : Int) + 1)) s1 = _
      rw [ek]
      exact b1
    · rw [ek]
      exact ih (k + 1) m (by omega) (by omega) y s h4 hG
theorem P_mostOf_t {f : Nat} (hf5 : f ≤ 5) (hc : c ≤ 5) (h4 : s.1 65 4 = (c : Int)) (hG : v_G (s.1 65) u v W H) : ∃ y' s', F_X12_mostOf s (f : Int) = some (y', s') ∧ v_o7 s s' := by
  have hac := hG.ac
  obtain ⟨s1, a1, a2⟩ := v_mo2 (K := fun x1_u5 s_u5 => F_X12_mostOf_l33 d_N x1_u5 0 0 s_u5) (x1 := (f : Int)) 32 0 d_N rfl (by rw [d_N_is]; decide) s
  have e65 := a2.1 65 (by decide)
  obtain ⟨y', s', b1, b2⟩ := v_mo33 (u := u) (v := v) (W := W) (H := H) hf5 hc (v_bl u v) 0 d_N (by omega) (by rw [d_N_is]; omega) 0 s1 (by rw [e65]; exact h4) (by rw [e65]; exact hG)
  refine ⟨y', s', ?_, a2.tr b2⟩
  unfold F_X12_mostOf
  exact a1.trans b1
theorem v_sv2 {o : Nat} (ho : o < 5) (hc : c ≤ 5) {z : Int} : ∀ (j k m : Nat), k + j = v_bl u v → j < m → ∀ s : d_S, s.1 65 4 = (c : Int) → v_G (s.1 65) u v W H → ∃ y' s', F_X12_serverOf_l2 m (o : Int) z (k : Int) s = some (y', s') ∧ v_o7 s s' := by
  intro j
  induction j with
  | zero =>
    intro k m hk hf s h4 hG
    obtain ⟨m, rfl⟩ : ∃ q, m = q + 1 := ⟨m - 1, by omega⟩
    refine ⟨-1, s, ?_, v_o7.rf⟩
    show F_X12_serverOf_l2_b (F_X12_serverOf_l2 m) _ _ _ _ = _
    unfold F_X12_serverOf_l2_b
    rw [P_blocks hG, d_b_t, if_neg (by omega)]
  | succ j ih =>
    intro k m hk hf s h4 hG
    obtain ⟨m, rfl⟩ : ∃ q, m = q + 1 := ⟨m - 1, by omega⟩
    have hac := hG.ac
    have ek : d_w ((k : Int) + 1) = ((k + 1 : Nat) : Int) := d_w_id (by omega) (by omega)
    have e1 : d_w ((o : Int) + 1) = ((o + 1 : Nat) : Int) := d_w_id (by omega) (by omega)
    have e2 : d_w (64 * (o : Int) + (k : Int)) = ((64 * o + k : Nat) : Int) := d_w_id (by omega) (by omega)
    have e3 : d_w (284 + 3 * (o : Int) + 2) = ((284 + 3 * o + 2 : Nat) : Int) := d_w_id (by omega) (by omega)
    have skip := ih (k + 1) m (by omega) (by omega) s h4 hG
    show ∃ y' s', F_X12_serverOf_l2_b (F_X12_serverOf_l2 m) _ _ _ _ = _ ∧ _
    unfold F_X12_serverOf_l2_b
    rw [P_blocks hG, d_b_t, if_pos (by omega), d_g_t (by omega), e1, e2, e3, ek]
    split
    rotate_left
    · exact skip
    rw [d_g_t (by omega)]
    split
    · exact skip
    rw [d_g_t (by omega), d_l_t, d_g_t (by omega), Int.toNat_natCast]
    have f5 : v_o7 s (d_si s 74 k 1) := v_o7.si (by decide)
    obtain ⟨y1, s1, a1, a2⟩ := P_mostOf_t (s := d_si s 74 k 1) (f := o + 1) (u := u) (v := v) (W := W) (H := H) (by omega) hc (by rw [f5.1 65 (by decide)]; exact h4) (by rw [f5.1 65 (by decide)]; exact hG)
    rw [a1, d_b2_t]
    split
    · exact ⟨(k : Int), s1, rfl, f5.tr a2⟩
    · rw [d_g_t (by omega), d_l_t]
      have f6 : v_o7 s (d_si s1 74 k 0) := (f5.tr a2).tr (v_o7.si (by decide))
      have e65 := f6.1 65 (by decide)
      obtain ⟨y', s', b1, b2⟩ := ih (k + 1) m (by omega) (by omega) _ (by rw [e65]; exact h4) (by rw [e65]; exact hG)
      exact ⟨y', s', b1, f6.tr b2⟩
theorem v_sd25 {K : Int → d_S → Option (Int × d_S)} {x1 : Int} : ∀ (j k m : Nat), k + j = 64 → j < m → ∀ s : d_S, ∃ s', F_X12_served_l25 K m x1 (k : Int) s = K x1 s' ∧ v_o7 s s' := by
  intro j
  induction j with
  | zero =>
    intro k m hk hf s
    obtain ⟨m, rfl⟩ : ∃ q, m = q + 1 := ⟨m - 1, by omega⟩
    refine ⟨s, ?_, v_o7.rf⟩
    show F_X12_served_l25_b K (F_X12_served_l25 K m) _ _ _ = _
    unfold F_X12_served_l25_b
    rw [if_neg (by omega)]
  | succ j ih =>
    intro k m hk hf s
    obtain ⟨m, rfl⟩ : ∃ q, m = q + 1 := ⟨m - 1, by omega⟩
    obtain ⟨s', b1, b2⟩ := ih (k + 1) m (by omega) (by omega) (d_si s 74 k 0)
    refine ⟨s', ?_, (v_o7.si (by decide)).tr b2⟩
    show F_X12_served_l25_b K (F_X12_served_l25 K m) _ _ _ = _
    unfold F_X12_served_l25_b
    rw [if_pos (by omega), d_g_t (by omega), d_l_t, Int.toNat_natCast, d_w_id (x := (k : Int) + 1) (by omega) (by omega)]
    exact b1
theorem v_sd62 {K : Int → d_S → Option (Int × d_S)} {x1 : Int} (hc : c ≤ 5) : ∀ (j k m : Nat), k + j = c → j < m → ∀ (z : Int) (s : d_S), s.1 65 4 = (c : Int) → v_G (s.1 65) u v W H → ∃ s', F_X12_served_l62 K m x1 z (k : Int) s = K x1 s' ∧ v_o7 s s' := by
  intro j
  induction j with
  | zero =>
    intro k m hk hf z s h4 hG
    obtain ⟨m, rfl⟩ : ∃ q, m = q + 1 := ⟨m - 1, by omega⟩
    refine ⟨s, ?_, v_o7.rf⟩
    show F_X12_served_l62_b K (F_X12_served_l62 K m) _ _ _ _ = _
    unfold F_X12_served_l62_b
    rw [h4, if_neg (by omega)]
  | succ j ih =>
    intro k m hk hf z s h4 hG
    obtain ⟨m, rfl⟩ : ∃ q, m = q + 1 := ⟨m - 1, by omega⟩
    have hac := hG.ac
    have ek : d_w ((k : Int) + 1) = ((k + 1 : Nat) : Int) := d_w_id (by omega) (by omega)
    have e3 : d_w (284 + 3 * (k : Int) + 2) = ((284 + 3 * k + 2 : Nat) : Int) := d_w_id (by omega) (by omega)
    obtain ⟨y1, s1, a1, a2⟩ := v_sv2 (o := k) (u := u) (v := v) (W := W) (H := H) (z := z) (by omega) hc (v_bl u v) 0 d_N (by omega) (by rw [d_N_is]; omega) s h4 hG
    have a1' : F_X12_serverOf s (k : Int) z = some (y1, s1) := a1
    have f2 : v_o7 s (d_si s1 77 k y1) := a2.tr (v_o7.si (by decide))
    have e65 := f2.1 65 (by decide)
    have go : ∀ z2 : Int, ∃ s', F_X12_served_l62 K m x1 z2 ((k + 1 : Nat) : Int) (d_si s1 77 k y1) = K x1 s' ∧ v_o7 s s' := fun z2 => by
      obtain ⟨s', b1, b2⟩ := ih (k + 1) m (by omega) (by omega) z2 _ (by rw [e65]; exact h4) (by rw [e65]; exact hG)
      exact ⟨s', b1, f2.tr b2⟩
    show ∃ s', F_X12_served_l62_b K (F_X12_served_l62 K m) _ _ _ _ = _ ∧ _
    unfold F_X12_served_l62_b
    rw [h4, if_pos (by omega), a1', d_b2_t, d_g_t (by omega), d_l_t, d_g_t (by omega), e3, d_g_t (by omega), d_l_t, Int.toNat_natCast, ek]
    split
    · exact go _
    · exact go _
theorem T_servedR (h : v_R t s) {x1 : Int} : ∃ y s', F_X12_served s x1 = some (y, s') ∧ v_R t s' := by
  have h4 : 0 ≤ s.1 65 4 ∧ s.1 65 4 ≤ 5 := h.2.1.2.2.1.2.2.1
  unfold F_X12_served
  rw [P_isIn, d_b_t, d_w_id (x := s.1 65 4 - 1) (by omega) (by omega)]
  by_cases c1 : -1 ≤ x1 ∧ x1 ≤ s.1 65 4 - 1
  rotate_left
  · rw [v_bf c1, if_pos rfl]; exact ⟨-2, s, rfl, h⟩
  obtain ⟨s2, a1, a2⟩ := T_findServing h
  rw [v_bt c1, if_neg (by decide), a1, d_b_t]
  have h4' : 0 ≤ s2.1 65 4 ∧ s2.1 65 4 ≤ 5 := a2.2.1.2.2.1.2.2.1
  obtain ⟨c, hc⟩ : ∃ c : Nat, s2.1 65 4 = c := ⟨(s2.1 65 4).toNat, by omega⟩
  have hG := a2.2.1.G
  obtain ⟨s3, b1, b2⟩ := v_sd25 (K := fun x1_u5 s_u5 => d_b2 (F_X12_mostOf s_u5 0) (fun v6 s7 => if x1_u5 = (-1) then some (v6, s7) else F_X12_served_l62 (fun x1_u15 s_u15 => d_g (0 ≤ x1_u15 ∧ x1_u15 < 5) (some ((s_u15.1 77 (x1_u15.toNat)), s_u15))) d_N x1_u5 v6 0 s7)) (x1 := x1) 64 0 d_N rfl (by rw [d_N_is]; decide) s2
  have e65 := b2.1 65 (by decide)
  obtain ⟨y, s4, c1', c2⟩ := P_mostOf_t (s := s3) (f := 0) (c := c) (by decide) (by omega) (by rw [e65]; exact hc) (by rw [e65]; exact hG)
  have e65' := (b2.tr c2).1 65 (by decide)
  have hgo : F_X12_served_l25 (fun x1_u5 s_u5 => d_b2 (F_X12_mostOf s_u5 0) (fun v6 s7 => if x1_u5 = (-1) then some (v6, s7) else F_X12_served_l62 (fun x1_u15 s_u15 => d_g (0 ≤ x1_u15 ∧ x1_u15 < 5) (some ((s_u15.1 77 (x1_u15.toNat)), s_u15))) d_N x1_u5 v6 0 s7)) d_N x1 0 s2 = if x1 = (-1) then some (y, s4) else F_X12_served_l62 (fun x1_u15 s_u15 => d_g (0 ≤ x1_u15 ∧ x1_u15 < 5) (some ((s_u15.1 77 (x1_u15.toNat)), s_u15))) d_N x1 y 0 s4 := by
    refine b1.trans ?_
    show d_b2 (F_X12_mostOf s3 0) _ = _
    have c1'' : F_X12_mostOf s3 0 = some (y, s4) := c1'
    rw [c1'', d_b2_t]
  rw [hgo]
  by_cases q : x1 = -1
  · rw [if_pos q]; exact ⟨y, s4, rfl, a2.o7 (b2.tr c2)⟩
  rw [if_neg q]
  obtain ⟨s5, d1, d2⟩ := v_sd62 (K := fun x1_u15 s_u15 => d_g (0 ≤ x1_u15 ∧ x1_u15 < 5) (some ((s_u15.1 77 (x1_u15.toNat)), s_u15))) (x1 := x1) (c := c) (by omega) c 0 d_N (by omega) (by rw [d_N_is]; omega) y s4 (by rw [e65']; exact hc) (by rw [e65']; exact hG)
  refine ⟨s5.1 77 x1.toNat, s5, ?_, a2.o7 ((b2.tr c2).tr d2)⟩
  refine d1.trans ?_
  show d_g (0 ≤ x1 ∧ x1 < 5) _ = _
  rw [d_g_t (by omega)]
theorem T_served (h : v_R t s) {x1 : Int} : v_TT t (F_X11_served t s x1) (fun s1 => F_X12_served s1 x1) := by
  obtain ⟨L, u, v, W, H, st, me, so, N, sg, day, heat, x, hC, hR⟩ := h.rdy
  have h10 : 0 ≤ s.1 10 2 ∧ s.1 10 2 ≤ 5 := by
    have e : s.1 10 2 = s.1 65 4 := h.1.2.2.2.2.1.1
    have h4 : 0 ≤ s.1 65 4 ∧ s.1 65 4 ≤ 5 := h.2.1.2.2.1.2.2.1
    omega
  obtain ⟨y, s1, a1, a2⟩ := hC.served h10 (x1 := x1)
  obtain ⟨z, s2, b1, b2⟩ := T_servedR (h.os a2) (x1 := x1)
  exact ⟨y, z, s1, s2, a1, b1, b2⟩
end V63

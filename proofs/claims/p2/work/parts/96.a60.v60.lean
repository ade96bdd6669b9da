def v_oq (s s' : d_S) : Prop := (∀ a, a ≠ 47 → a ≠ 49 → a ≠ 50 → (a < 52 ∨ 55 < a) → s'.1 a = s.1 a) ∧ (∀ a, a ≠ 47 → s'.2.1 a = s.2.1 a) ∧ v_Nm (s'.1 49)
section V60
variable {s s1 s2 : d_S} {t : Nat → Option p_C} {L : v_LR} {u v W H N b : Nat} {st me so : Nat → Nat} {sg : Nat → Nat → Nat} {day heat x size edge : Int} {e : Option Nat}
theorem v_oq.tr (h : v_oq s s1) (h' : v_oq s1 s2) : v_oq s s2 := ⟨fun a b c d e => (h'.1 a b c d e).trans (h.1 a b c d e), fun a b => (h'.2.1 a b).trans (h.2.1 a b), h'.2.2⟩
theorem v_oq.oc (h : v_oq s s1) (h' : v_oc [49, 50, 52, 53, 54, 55] s1 s2) (hb : v_tb s2 size edge) : v_oq s s2 := ⟨fun a b c d e => (h'.1 a (by simp only [List.mem_cons, List.not_mem_nil, or_false, not_or]; omega)).trans (h.1 a b c d e), fun a b => by rw [h'.2]; exact h.2.1 a b, hb.2.2⟩
theorem v_rdy.oq (h : v_rdy t s L u v W H st me so N sg day heat x) (h' : v_oq s s1) : v_rdy t s1 L u v W H st me so N sg day heat x := h.fr (fun a ha => h'.1 a (by omega) (by omega) (by omega) (by omega)) (h'.2.1 5 (by decide)) h'.2.2
theorem v_l123 {K : Int → Int → d_S → Option (Int × d_S)} {n : Nat} (hn : n ≤ 4) (hd : 0 ≤ day ∧ day ≤ 999) : ∀ (j k m : Nat), k + j = 5 → j < m → ∀ (many : Nat) (s : d_S), many ≤ 100 → v_CT t (s.2.1 47 3) L → v_tb s size edge → v_sts s 54 many → s.1 47 6 = day → ∃ (many' : Nat) (s' : d_S), F_X2_lasting_l123 t K m (n : Int) (many : Int) (k : Int) s = K (n : Int) (many' : Int) s' ∧ many' ≤ 100 ∧ v_tb s' size edge ∧ v_sts s' 54 many' ∧ v_oc [49, 50, 52, 53, 54, 55] s s' := by
  intro j
  induction j with
  | zero =>
    intro k m hk hf many s h1 h2 h3 h4 h5
    obtain ⟨m, rfl⟩ : ∃ q, m = q + 1 := ⟨m - 1, by omega⟩
    refine ⟨many, s, ?_, h1, h3, h4, v_oc.rf⟩
    show F_X2_lasting_l123_b t K (F_X2_lasting_l123 t K m) _ _ _ _ = _
    unfold F_X2_lasting_l123_b
    rw [d_w_id (x := (n : Int) - 1) (by omega) (by omega), if_neg (by omega)]
  | succ j ih =>
    intro k m hk hf many s h1 h2 h3 h4 h5
    obtain ⟨m, rfl⟩ : ∃ q, m = q + 1 := ⟨m - 1, by omega⟩
    show ∃ many' s', F_X2_lasting_l123_b t K (F_X2_lasting_l123 t K m) _ _ _ _ = _ ∧ _
    unfold F_X2_lasting_l123_b
    rw [d_w_id (x := (n : Int) - 1) (by omega) (by omega)]
    by_cases q : (k : Int) < (n : Int) - 1
    · rw [if_pos q, if_pos (by omega), h5, d_w_id (x := day + (k : Int)) (by omega) (by omega), d_w_id (x := (k : Int) + 1) (by omega) (by omega)]
      obtain ⟨more, s1, a1, a2, a3, a4, a5⟩ := P_spread_t (t := t) (L := L) (size := size) (edge := edge) (day := day + (k : Int)) (by omega) h1 h2 h3 h4
      obtain ⟨many', s', b1, b2, b3, b4, b5⟩ := ih (k + 1) m (by omega) (by omega) more s1 a2 (by rw [a5.2]; exact h2) a3 a4 (by rw [a5.1 47 (by decide)]; exact h5)
      refine ⟨many', s', ?_, b2, b3, b4, a5.tr b5⟩
      rw [a1, d_b2_t]
      exact b1
    · rw [if_neg q]
      exact ⟨many, s, rfl, h1, h3, h4, v_oc.rf⟩
theorem v_ofl {n : Nat} : ∀ (j k m : Nat), k + j = 4 → j < m → ∀ y : Int, ∃ v, F_X2_ofAll_l4 m (n : Int) y (k : Int) = some v := by
  intro j
  induction j with
  | zero =>
    intro k m hk hf y
    obtain ⟨m, rfl⟩ : ∃ q, m = q + 1 := ⟨m - 1, by omega⟩
    show ∃ v, F_X2_ofAll_l4_b (F_X2_ofAll_l4 m) _ _ _ = _
    unfold F_X2_ofAll_l4_b
    split
    · exact ⟨y, if_neg (by omega)⟩
    · exact ⟨y, rfl⟩
  | succ j ih =>
    intro k m hk hf y
    obtain ⟨m, rfl⟩ : ∃ q, m = q + 1 := ⟨m - 1, by omega⟩
    obtain ⟨v, hv⟩ := ih (k + 1) m (by omega) (by omega) (d_w (y * 10))
    show ∃ v, F_X2_ofAll_l4_b (F_X2_ofAll_l4 m) _ _ _ = _
    unfold F_X2_ofAll_l4_b
    split
    · refine ⟨v, ?_⟩
      rw [if_pos (by omega), d_w_id (x := (k : Int) + 1) (by omega) (by omega)]
      exact hv
    · exact ⟨y, rfl⟩
theorem P_ofAll_t {n : Nat} : ∃ v, F_X2_ofAll (n : Int) = some v := v_ofl 3 1 d_N rfl (by rw [d_N_is]; decide) 1
theorem v_j77 {y : Int} : ∃ v, F_X2_lasting_j77 t y s = some (v, s) := by
  unfold F_X2_lasting_j77
  split
  · exact ⟨1, by rw [v_bit1_, d_b_t]⟩
  · exact ⟨0, by rw [v_bit0_, d_b_t]⟩
theorem v_j66 {n : Nat} (hn : n ≤ 4) (hd : 0 ≤ day ∧ day ≤ 999) {y z : Int} (hy : 0 ≤ y) (hz : 0 ≤ z ∧ z ≤ 9) (h2 : v_CT t (s.2.1 47 3) L) (h3 : v_tb s size edge) (h5 : s.1 47 6 = day) (h8 : s.1 47 8 = z) : ∃ v s', F_X2_lasting_j66 t (n : Int) y s = some (v, s') ∧ v_tb s' size edge ∧ v_oc [49, 50, 52, 53, 54, 55] s s' := by
  have j77 : ∃ v s', F_X2_lasting_j77 t y s = some (v, s') ∧ v_tb s' size edge ∧ v_oc [49, 50, 52, 53, 54, 55] s s' := by
    obtain ⟨v, hv⟩ := v_j77 (s := s) (t := t) (y := y)
    exact ⟨v, s, hv, h3, v_oc.rf⟩
  unfold F_X2_lasting_j66
  by_cases q : y < 100
  rotate_left
  · rw [if_neg q]; exact j77
  rw [if_pos q]
  by_cases q2 : (n : Int) < 2
  · rw [if_pos q2]; exact j77
  rw [if_neg q2, d_l_t, d_l_t, h8, d_w_id (x := y * 10 + z) (by omega) (by omega)]
  obtain ⟨s7, hs7⟩ : ∃ w, w = d_si (d_si s 54 0 (y * 10 + z)) 55 0 1 := ⟨_, rfl⟩
  have f7 : v_oc [49, 50, 52, 53, 54, 55] s s7 := by
    rw [hs7]
    exact (v_oc.si (by decide)).tr (v_oc.si (by decide))
  have e54 : s7.1 54 0 = y * 10 + z := by rw [hs7, d_si_n (by decide), d_si_i, d_u_t]
  rw [← hs7]
  obtain ⟨many, s8, a1, a2, a3, a4, a5⟩ := v_l123 (t := t) (L := L) (size := size) (edge := edge) (K := fun x2_u10 x4_u10 s_u10 => d_b2 (F_X2_leftOver t s_u10 x4_u10 (d_w (((s_u10.1 47 6) + x2_u10) - 1))) (fun v11 s12 => some (v11, s12))) hn hd 4 1 d_N rfl (by rw [d_N_is]; decide) 1 s7 (by decide) (by rw [f7.2]; exact h2) (by unfold v_tb at h3 ⊢; rw [hs7, d_si_n (by decide), d_si_n (by decide)]; exact h3) (fun i hi => by
    obtain rfl : i = 0 := by omega
    rw [e54]; omega) (by rw [f7.1 47 (by decide)]; exact h5)
  have e47 : s8.1 47 6 = day := by rw [a5.1 47 (by decide), f7.1 47 (by decide)]; exact h5
  obtain ⟨w, s9, b1, b2, b3⟩ := v_lo5 (t := t) (L := L) (size := size) (edge := edge) (day := day + (n : Int) - 1) (many := many) (by omega) a2 many 0 d_N (by omega) (by rw [d_N_is]; omega) 0 s8 (by rw [a5.2, f7.2]; exact h2) a3 a4
  refine ⟨w, s9, ?_, b2, (f7.tr a5).tr (b3.mono (by decide))⟩
  refine a1.trans ?_
  show d_b2 (F_X2_leftOver_l5 t d_N (many : Int) (d_w ((s8.1 47 6 + (n : Int)) - 1)) 0 0 s8) _ = _
  rw [e47, d_w_id (by omega) (by omega)]
  have b1' : F_X2_leftOver_l5 t d_N (many : Int) (day + (n : Int) - 1) 0 0 s8 = some (w, s9) := b1
  rw [b1', d_b2_t]
theorem v_rdy.last (h : v_rdy t s L u v W H st me so N sg day heat x) (hb : b < v_bl u v) {n : Nat} (hn : n ≤ 4) : ∃ y s', F_X2_lasting t s (b : Int) (n : Int) = some (y, s') ∧ v_oq s s' := by
  obtain ⟨hM, hQ, hS, hY, hN, e, hE, hCT⟩ := id h
  have h64 := hQ.2.2.1
  obtain ⟨-, m1, m2, m3⟩ := hM b (by omega)
  obtain ⟨s1, a1, a2, a3, a4, a5, a6, a7⟩ := P_start hM hQ hb hE hY hN
  obtain ⟨⟨k6, k7, k8, k9, k5, k10⟩, ⟨o1, o2, o3, o4, o5⟩, hso⟩ := id a2
  have k6 : s1.1 47 6 = day := k6
  have k7 : s1.1 47 7 = heat := k7
  have k8 : s1.1 47 8 = ((st b : Nat) : Int) := k8
  have k9 : s1.1 47 9 = ((me b : Nat) : Int) := k9
  have o1 : 0 ≤ day ∧ day ≤ 999 := o1
  have o2 : 0 ≤ heat ∧ heat ≤ 9 := o2
  have f1 : v_oq s s1 := ⟨fun a h1 h2 h3 _ => a6 a h1 h2, a7, a5.2.2⟩
  unfold F_X2_lasting
  rw [a1, d_b_t, k10]
  by_cases q : ((so b : Nat) : Int) = 0
  rotate_left
  · rw [if_neg q]
    obtain ⟨y, hy⟩ := P_ofAll_t (n := n)
    exact ⟨y, s1, by rw [hy, d_b_t], f1⟩
  rw [if_pos q]
  by_cases q2 : 0 < (n : Int)
  · rw [if_pos q2, k6, k7, k8, k9]
    obtain ⟨s3, b1, b2, b3, b4⟩ := P_meltedFrom (t := t) (L := L) (day := day) (heat := heat) (straw := ((st b : Nat) : Int)) (melted := ((me b : Nat) : Int)) (s := s1) (by rw [a4]; exact hCT) a5 (by omega) (by omega) (by omega) (by omega)
    have hmf := v_mf_b (L := L) (day := day) (heat := heat) (straw := ((st b : Nat) : Int)) (melted := ((me b : Nat) : Int)) (size := ((v_sz u v W H b : Nat) : Int)) (edge := ((v_ed u v W H b : Nat) : Int)) (by omega)
    have f3 : v_oq s s3 := ⟨fun a h1 h2 h3 h4 => (b2 a h2 h3).trans (f1.1 a h1 h2 h3 h4), fun a ha => by rw [b3]; exact f1.2.1 a ha, b4.2.2⟩
    obtain ⟨y, s4, c1, c2, c3⟩ := v_j66 (t := t) (L := L) (s := s3) (n := n) hn o1 (y := v_mf L day heat ((v_sz u v W H b : Nat) : Int) ((st b : Nat) : Int) ((me b : Nat) : Int) ((v_ed u v W H b : Nat) : Int)) (z := ((st b : Nat) : Int)) hmf.1 (by omega) (by rw [b3, a4]; exact hCT) b4 (by rw [b2 47 (by decide) (by decide)]; exact k6) (by rw [b2 47 (by decide) (by decide)]; exact k8)
    exact ⟨y, s4, by rw [b1, d_b2_t]; exact c1, f3.oc c3 c2⟩
  · rw [if_neg q2, k9]
    obtain ⟨y, s4, c1, c2, c3⟩ := v_j66 (t := t) (L := L) (s := s1) (n := n) hn o1 (y := ((me b : Nat) : Int)) (z := ((st b : Nat) : Int)) (by omega) (by omega) (by rw [a4]; exact hCT) a5 k6 k8
    exact ⟨y, s4, c1, f1.oc c3 c2⟩
theorem v_dvl {K : Int → Option Int} : ∀ (j k m : Nat), k + j = 64 → j < m → ∀ a b : Int, ∃ z, F_X11_divisor_l13 K m a b (k : Int) = K z := by
  intro j
  induction j with
  | zero =>
    intro k m hk hf a b
    obtain ⟨m, rfl⟩ : ∃ q, m = q + 1 := ⟨m - 1, by omega⟩
    refine ⟨a, ?_⟩
    show F_X11_divisor_l13_b K (F_X11_divisor_l13 K m) _ _ _ = _
    unfold F_X11_divisor_l13_b
    rw [if_neg (by omega)]
  | succ j ih =>
    intro k m hk hf a b
    obtain ⟨m, rfl⟩ : ∃ q, m = q + 1 := ⟨m - 1, by omega⟩
    show ∃ z, F_X11_divisor_l13_b K (F_X11_divisor_l13 K m) _ _ _ = _
    unfold F_X11_divisor_l13_b
    rw [if_pos (by omega)]
    by_cases q : b = 0
    · exact ⟨a, if_pos q⟩
    · obtain ⟨z, hz⟩ := ih (k + 1) m (by omega) (by omega) b (d_rem a b)
      refine ⟨z, ?_⟩
      rw [if_neg q, d_g_t q, d_w_id (x := (k : Int) + 1) (by omega) (by omega)]
      exact hz
theorem P_divisor_t {a b : Int} : ∃ z, F_X11_divisor a b = some z ∧ 1 ≤ z := by
  have ab : ∀ y : Int, ∃ z, F_J9_abs_0f7a4 y = some z := fun y => by
    unfold F_J9_abs_0f7a4
    split <;> exact ⟨_, rfl⟩
  obtain ⟨p, hp⟩ := ab a
  obtain ⟨q, hq⟩ := ab b
  obtain ⟨z, hz⟩ := v_dvl (K := fun x2_u4 => d_b (F_J9_max_7cf53 1 x2_u4) (fun v5 => some v5)) 64 0 d_N rfl (by rw [d_N_is]; decide) p q
  refine ⟨max 1 z, ?_, by omega⟩
  unfold F_X11_divisor
  rw [hp, d_b_t, hq, d_b_t]
  refine hz.trans ?_
  show d_b (F_J9_max_7cf53 1 z) _ = _
  rw [P_max, d_b_t]
theorem v_rdy.lasts (h : v_rdy t s L u v W H st me so N sg day heat x) {x1 x2 x3 : Int} : ∃ y s', F_X11_lasts t s x1 x2 x3 = some (y, s') ∧ (s' = s ∨ v_oq s s') := by
  obtain ⟨hM, hQ, hS, hY, hN, e, hE, hCT⟩ := id h
  unfold F_X11_lasts
  rw [P_isBlockC hQ, d_b_t]
  by_cases c1 : 0 ≤ x1 ∧ x1 < ((v_bl u v : Nat) : Int)
  rotate_left
  · rw [v_bf c1, if_pos rfl]; exact ⟨-1, s, rfl, Or.inl rfl⟩
  rw [v_bt c1, if_neg (by decide), P_within, d_b_t]
  by_cases c2 : 0 ≤ x2 ∧ x2 ≤ 4
  rotate_left
  · rw [v_bf c2, if_pos rfl]; exact ⟨-1, s, rfl, Or.inl rfl⟩
  obtain ⟨b, rfl⟩ : ∃ b : Nat, x1 = b := ⟨x1.toNat, by omega⟩
  obtain ⟨n, rfl⟩ : ∃ n : Nat, x2 = n := ⟨x2.toNat, by omega⟩
  obtain ⟨y, s1, a1, a2⟩ := h.last (b := b) (by omega) (n := n) (by omega)
  obtain ⟨z, hz⟩ := P_ofAll_t (n := n)
  obtain ⟨d, hd, hd1⟩ := P_divisor_t (a := y) (b := z)
  rw [v_bt c2, if_neg (by decide), a1, d_b2_t, hz, d_b_t]
  unfold F_X11_lasts_j53
  rw [hd, d_b_t, d_g_t (by omega), d_b_t, d_g_t (by omega)]
  by_cases q : x3 = 0
  · rw [if_pos q]; exact ⟨_, s1, rfl, Or.inr a2⟩
  · rw [if_neg q]; exact ⟨_, s1, rfl, Or.inr a2⟩
theorem v_hlb (hM : v_M s st me so) (hQ : v_Q s u v W H) (hb : b < v_bl u v) : ∀ (j k m : Nat), k + j = b → j < m → ∃ y, F_X11_hasLikeBefore_l2 s m (b : Int) (k : Int) = some y := by
  have h64 := hQ.2.2.1
  intro j
  induction j with
  | zero =>
    intro k m hk hf
    obtain ⟨m, rfl⟩ : ∃ q, m = q + 1 := ⟨m - 1, by omega⟩
    refine ⟨0, ?_⟩
    show F_X11_hasLikeBefore_l2_b s (F_X11_hasLikeBefore_l2 s m) _ _ = _
    unfold F_X11_hasLikeBefore_l2_b
    rw [if_neg (by omega)]
  | succ j ih =>
    intro k m hk hf
    obtain ⟨m, rfl⟩ : ∃ q, m = q + 1 := ⟨m - 1, by omega⟩
    obtain ⟨y, hy⟩ := ih (k + 1) m (by omega) (by omega)
    show ∃ y, F_X11_hasLikeBefore_l2_b s (F_X11_hasLikeBefore_l2 s m) _ _ = _
    unfold F_X11_hasLikeBefore_l2_b F_X10_isLike_6
    rw [if_pos (by omega), P_markOf hM (by omega), d_b_t, P_markOf hM (by omega), d_b_t, P_sizeOfC hQ (by omega), d_b_t, P_sizeOfC hQ (by omega), d_b_t, P_edgeOfC hQ (by omega), d_b_t, P_edgeOfC hQ (by omega), d_b_t, d_w_id (x := (k : Int) + 1) (by omega) (by omega)]
    have hy' : F_X11_hasLikeBefore_l2 s m (b : Int) ((k : Int) + 1) = some y := hy
    rw [hy']
    split
    · rw [d_b_t, if_neg (by decide)]
      split
      · split
        · exact ⟨1, rfl⟩
        · exact ⟨y, rfl⟩
      · exact ⟨y, rfl⟩
    · rw [d_b_t, if_pos rfl]; exact ⟨y, rfl⟩
theorem v_sfl {n : Nat} (hn : n ≤ 4) : ∀ (j k m : Nat), k + j = v_bl u v → j < m → ∀ (y z : Int) (s : d_S), v_rdy t s L u v W H st me so N sg day heat x → ∃ r s', F_X11_sellFirst_l18 t m (n : Int) y z (k : Int) s = some (r, s') ∧ (s' = s ∨ v_oq s s') := by
  intro j
  induction j with
  | zero =>
    intro k m hk hf y z s h
    obtain ⟨m, rfl⟩ : ∃ q, m = q + 1 := ⟨m - 1, by omega⟩
    refine ⟨y, s, ?_, Or.inl rfl⟩
    show F_X11_sellFirst_l18_b t (F_X11_sellFirst_l18 t m) _ _ _ _ _ = _
    unfold F_X11_sellFirst_l18_b
    rw [h.2.1.1, if_neg (by omega)]
  | succ j ih =>
    intro k m hk hf y z s h
    obtain ⟨m, rfl⟩ : ∃ q, m = q + 1 := ⟨m - 1, by omega⟩
    have h64 := h.2.1.2.2.1
    have ek : d_w ((k : Int) + 1) = ((k + 1 : Nat) : Int) := d_w_id (by omega) (by omega)
    have skip : ∃ r s', F_X11_sellFirst_l18 t m (n : Int) y z ((k + 1 : Nat) : Int) s = some (r, s') ∧ (s' = s ∨ v_oq s s') := ih (k + 1) m (by omega) (by omega) y z s h
    show ∃ r s', F_X11_sellFirst_l18_b t (F_X11_sellFirst_l18 t m) _ _ _ _ _ = _ ∧ _
    unfold F_X11_sellFirst_l18_b
    rw [h.2.1.1, if_pos (by omega), P_csC h.1 h.2.1, d_b_t, ek]
    by_cases c : v_csb u v so me k
    rotate_left
    · rw [v_bf c, if_pos rfl]; exact skip
    obtain ⟨w, hw⟩ := v_hlb h.1 h.2.1 (b := k) (by omega) k 0 d_N (by omega) (by rw [d_N_is]; omega)
    have hw' : F_X11_hasLikeBefore s (k : Int) = some w := hw
    rw [v_bt c, if_neg (by decide), hw', d_b_t]
    by_cases q : w = 0
    rotate_left
    · rw [if_neg q]; exact skip
    obtain ⟨p, s1, a1, a2⟩ := h.last (b := k) (by omega) hn
    rw [if_pos q, a1, d_b2_t]
    have go : ∀ y2 z2 : Int, ∃ r s', F_X11_sellFirst_l18 t m (n : Int) y2 z2 ((k + 1 : Nat) : Int) s1 = some (r, s') ∧ (s' = s ∨ v_oq s s') := fun y2 z2 => by
      obtain ⟨r, s', b1, b2⟩ := ih (k + 1) m (by omega) (by omega) y2 z2 s1 (h.oq a2)
      refine ⟨r, s', b1, Or.inr ?_⟩
      rcases b2 with rfl | b2
      · exact a2
      · exact a2.tr b2
    split
    · exact go _ _
    · split
      · exact go _ _
      · exact go _ _
theorem v_rdy.sellFirst (h : v_rdy t s L u v W H st me so N sg day heat x) {x1 : Int} : ∃ y s', F_X11_sellFirst t s x1 = some (y, s') ∧ (s' = s ∨ v_oq s s') := by
  have h64 := h.2.1.2.2.1
  unfold F_X11_sellFirst
  rw [P_within, d_b_t]
  by_cases c2 : 0 ≤ x1 ∧ x1 ≤ 4
  rotate_left
  · rw [v_bf c2, if_pos rfl]; exact ⟨-1, s, rfl, Or.inl rfl⟩
  obtain ⟨n, rfl⟩ : ∃ n : Nat, x1 = n := ⟨x1.toNat, by omega⟩
  rw [v_bt c2, if_neg (by decide)]
  exact v_sfl (n := n) (by omega) (v_bl u v) 0 d_N (by omega) (by rw [d_N_is]; omega) (-1) 0 s h
end V60

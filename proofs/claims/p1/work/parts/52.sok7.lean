/-! calls, longs, switches, returns -/
section SK7
variable {θ : Nat → Int32} {R : s_K} {KS : s_T} {hd d : Nat} {M : p_M} {pc : Nat} {ls : p_Ls} {st : List Value} {h : p_H} {i : Instr} {len : Nat} {nx : s_T} {J : s_J} {C : s_CC} {F : s_F} {H : s_H} {L S : s_L} {n : Nat}
theorem s_k_invs {x : Nat} (hn : s_OK θ R KS hd d M nx (pc + 3)) (hC : s_CO θ d C) (hat : p_at pc M.2.2.2.2.1 = some (.invokestatic x, len)) (hr : s_Rl θ F H L S ls st h) (hg : s_invs x M pc nx J C R F H L S = true) : s_Out θ R KS hd d M pc ls st h := by
  unfold s_invs at hg
  cases e7 : p_pk x 7 M.2.2.2.2.2.1 with
  | some q =>
    rw [e7] at hg
    obtain ⟨n1, A1, w1, V1, rfl, rfl, ⟨-, a1⟩, hA, hg⟩ := s_p1_ok hr.2.2.2 hg
    obtain ⟨n2, A2, w2, V2, rfl, rfl, ⟨-, a2⟩, hA2, hg⟩ := s_p1_ok hA hg
    obtain ⟨n3, A3, w3, V3, rfl, rfl, ⟨-, a3⟩, hA3, hg⟩ := s_p1_ok hA2 hg
    obtain ⟨n4, A4, w4, V4, rfl, rfl, ⟨-, a4⟩, hA4, hg⟩ := s_p1_ok hA3 hg
    obtain ⟨n5, A5, w5, V5, rfl, rfl, ⟨-, a5⟩, hA5, hg⟩ := s_p1_ok hA4 hg
    rw [s_and_iff] at hg
    obtain ⟨F', H', h', n', dp', sp', d', s0, k1, k2, k3, rfl, rfl, rfl, rfl, rfl, k4⟩ := s_copy_ok (V := V5) hr.1 hr.2.1 a1 a2 a3 a4 a5 (Nat.le_trans (s_cat_ok hA5) (Nat.le_of_ble_eq_true hg.1)) hg.2
    refine s_Out.step hat (pc' := pc + 3) (ls' := ls) (st' := V5) (h' := h') ?_ (hn _ _ _ _ _ _ _ k1 ⟨k2, k3, hr.2.2.1, hA5⟩)
    simp only [p_step, p_invs, e7]
    exact k4 _ _
  | none =>
    rw [e7] at hg
    have hg : s_inv 1 x M S (s_ci C nx F H L) (s_inv 11 x M S (s_ci C nx F H L) false) = true := hg
    unfold s_inv at hg
    cases e1 : p_pk x 1 M.2.2.2.2.2.1 with
    | some q =>
      rw [e1] at hg
      refine s_k_call hn hC hat hr (fun A c r g1 g2 g3 g4 => ⟨?_, g4⟩) hg
      simp only [p_step, p_invs, e7, p_inv, e1]
      rw [if_pos ⟨g1, g2⟩]
    | none =>
      rw [e1] at hg
      cases e2 : p_pk x 11 M.2.2.2.2.2.1 with
      | some q =>
        rw [e2] at hg
        refine s_k_call hn hC hat hr (fun A c r g1 g2 g3 g4 => ⟨?_, g4⟩) hg
        simp only [p_step, p_invs, e7, p_inv, e1, e2]
        rw [if_pos ⟨g1, g2⟩]
      | none => rw [e2] at hg; cases hg
theorem s_ar_hd {o : s_V} {B : s_L} {vs : List Value} (h : s_ar θ (o :: B) vs) : ∃ v V, vs = v :: V ∧ s_v θ o v := by
  cases vs with
  | nil => cases h
  | cons v V =>
    rcases h with ⟨a, A', e, -, h2, -⟩ | ⟨a, A', e, -, h2, -⟩
    · cases e; exact ⟨v, V, rfl, h2⟩
    · cases e; exact ⟨v, V, rfl, h2⟩
theorem s_p1A {A : s_L} {k : s_V → s_L → Bool} (h : s_p1 A k = true) : ∃ o B, A = o :: B ∧ k o B = true := by
  cases A with
  | nil => cases h
  | cons o B => exact ⟨o, B, rfl, h⟩
theorem s_k_invi {x : Nat} (hn : s_OK θ R KS hd d M nx (pc + 3)) (hC : s_CO θ d C) (hat : p_at pc M.2.2.2.2.1 = some (.invokespecial x, len)) (hr : s_Rl θ F H L S ls st h) (hg : s_invi x M pc nx J C R F H L S = true) : s_Out θ R KS hd d M pc ls st h := by
  unfold s_invi at hg
  cases e8 : p_pk x 8 M.2.2.2.2.2.1 with
  | some q =>
    rw [e8] at hg
    obtain ⟨o, A, v, V, rfl, rfl, ⟨-, ho⟩, hA, hg⟩ := s_p1_ok hr.2.2.2 hg
    rw [s_and_iff, s_and_iff] at hg
    have := s_v_ref' hg.1 ho
    subst this
    refine s_Out.step hat (pc' := pc + 3) (ls' := ls) (st' := V) (h' := h) ?_ (hn _ _ _ _ _ _ _ hg.2.2 ⟨hr.1, hr.2.1, hr.2.2.1, hA⟩)
    simp only [p_step, p_invi, e8]
    rw [if_pos (Nat.le_trans (s_cat_ok hA) (Nat.le_of_ble_eq_true hg.2.1))]; rfl
  | none =>
    rw [e8] at hg
    have hg : s_inv 10 x M S (fun m A c r => s_p1 A (fun o _ => s_and (Nat.ble 16 (s_t o)) (s_ci C nx F H L m A c r))) false = true := hg
    unfold s_inv at hg
    cases e1 : p_pk x 10 M.2.2.2.2.2.1 with
    | none => rw [e1] at hg; cases hg
    | some q =>
      rw [e1] at hg
      refine s_k_call hn hC hat hr (fun A c r g1 g2 g3 g4 => ?_) hg
      obtain ⟨o, B, rfl, g4⟩ := s_p1A g4
      rw [s_and_iff] at g4
      obtain ⟨v, V, ev, hv⟩ := s_ar_hd g3
      have := s_v_ref' g4.1 hv
      subst this
      refine ⟨?_, g4.2⟩
      simp only [p_step, p_invi, e8, p_inv, e1]
      rw [if_pos ⟨g1, g2⟩, ev]
theorem s_home_ok {m : Nat} {K : Nat → Bool} (hg : s_home p_MT m K = true) : ∃ M', p_MT[m]? = some M' ∧ K M'.2.2.2.2.2.2.2 = true := by
  unfold s_home at hg
  cases e : p_MT[m]? with
  | none => rw [e] at hg; cases hg
  | some M' => rw [e] at hg; exact ⟨M', rfl, hg⟩
theorem s_clone_ok {o : s_V} {v : Value} {K : s_F → s_H → s_V → Bool} (hF : s_FO θ F) (hH : s_hr θ H h) (ho : s_v θ o v) (hg : s_clone o F H K = true) : ∃ H' r a av, K F H' r = true ∧ s_hr θ H' (h ++ [(1, 0, av)]) ∧ s_sv θ r (.ref h.length) ∧ v = .ref a ∧ h[a]? = some (1, 0, av) ∧ av.all (fits .int) = true := by
  obtain ⟨a, rfl, hg⟩ := s_ref_ok ho hg
  rw [s_and_iff, s_and_iff, s_and_iff] at hg
  obtain ⟨⟨as_, at_, av⟩, e1, e2⟩ := hH.at hg.1 (by decide)
  have q1 : as_ = 1 := e2.1.trans (Nat.eq_of_beq_eq_true hg.1)
  have q2 : at_ = 0 := e2.2.1.trans (Nat.eq_of_beq_eq_true hg.2.1)
  subst q1; subst q2
  have la : av.length = (H.1.get a).2.2.1 := e2.2.2.1
  have hcr : s_cr θ (1, 0, (H.1.get a).2.2.1, (H.1.get a).2.2.2) (1, 0, av) := ⟨rfl, rfl, la, e2.2.2.2⟩
  obtain ⟨H', r, k1, k2, k3⟩ := hH.mk hcr hg.2.2.2
  exact ⟨H', r, a, av, k1, k2, k3, rfl, e1, s_tr_all e2.2.2.2 (fun i hi => s_ints_ok hg.2.2.1 (Nat.zero_le i) (by omega))⟩
theorem s_k_invv {x : Nat} (hn : s_OK θ R KS hd d M nx (pc + 3)) (hC : s_CO θ d C) (hat : p_at pc M.2.2.2.2.1 = some (.invokevirtual x, len)) (hr : s_Rl θ F H L S ls st h) (hg : s_invv p_MT x M pc nx J C R F H L S = true) : s_Out θ R KS hd d M pc ls st h := by
  unfold s_invv at hg
  cases e8 : p_pk x 12 M.2.2.2.2.2.1 with
  | some q =>
    rw [e8] at hg
    obtain ⟨o, A, v, V, rfl, rfl, ⟨-, ho⟩, hA, hg⟩ := s_p1_ok hr.2.2.2 hg
    rw [s_and_iff] at hg
    obtain ⟨H', r, a, av, k1, k2, k3, rfl, k4, k5⟩ := s_clone_ok hr.1 hr.2.1 ho hg.2
    refine s_Out.step hat (pc' := pc + 3) (ls' := ls) (st' := .ref h.length :: V) (h' := h ++ [(1, 0, av)]) ?_ (hn _ _ _ _ _ _ _ k1 ⟨hr.1, k2, hr.2.2.1, k3, hA⟩)
    simp only [p_step, p_vir, e8, p_clone, k4]
    rw [if_pos ⟨k5, Nat.le_trans (s_cat_ok hA) (Nat.le_of_ble_eq_true hg.1)⟩]; rfl
  | none =>
    rw [e8] at hg
    have hg : s_inv 9 x M S (s_iv1 p_MT C nx F H L) false = true := hg
    unfold s_inv at hg
    cases e1 : p_pk x 9 M.2.2.2.2.2.1 with
    | none => rw [e1] at hg; cases hg
    | some q =>
      rw [e1] at hg
      refine s_k_call hn hC hat hr (fun A c r g1 g2 g3 g4 => ?_) hg
      obtain ⟨o, B, rfl, g4⟩ := s_p1A g4
      obtain ⟨M', hM', g4⟩ := s_home_ok g4
      obtain ⟨v, V, ev, hv⟩ := s_ar_hd g3
      obtain ⟨a, rfl, g4⟩ := s_ref_ok hv g4
      rw [s_iv4, s_and_iff, s_and_iff] at g4
      obtain ⟨⟨ds, dt, dv⟩, f1, f2⟩ := hr.2.1.at g4.1 (by decide)
      have q1 : ds = 0 := f2.1.trans (Nat.eq_of_beq_eq_true g4.1)
      have q2 : Nat.beq M'.2.2.2.2.2.2.2 dt = true := by
        have : dt = (H.1.get a).2.1 := f2.2.1
        rw [this]; exact g4.2.1
      subst q1
      refine ⟨?_, g4.2.2⟩
      simp only [p_step, p_vir, e8, p_invv, p_inv, e1]
      rw [if_pos ⟨g1, g2⟩, ev]
      simp only [hM', f1]
      rw [q2, if_pos rfl]
theorem s_k_cc {x : Nat} (hn : s_OK θ R KS hd d M nx (pc + 3)) (hat : p_at pc M.2.2.2.2.1 = some (.checkcast x, len)) (hr : s_Rl θ F H L S ls st h) (hg : s_cc x M pc nx J C R F H L S = true) : s_Out θ R KS hd d M pc ls st h := by
  obtain ⟨o, A, v, V, rfl, rfl, ho, hA, hg⟩ := s_p1_ok hr.2.2.2 hg
  obtain ⟨q, hp, hg⟩ := s_pk_ok hg
  obtain ⟨a, rfl, hg⟩ := s_ref_ok ho.2 hg
  rw [s_and_iff, s_and_iff] at hg
  obtain ⟨⟨ds, dt, dv⟩, f1, f2⟩ := hr.2.1.at hg.1 (by decide)
  have q1 : ds = 1 := f2.1.trans (Nat.eq_of_beq_eq_true hg.1)
  have q2 : dt = 0 := f2.2.1.trans (Nat.eq_of_beq_eq_true hg.2.1)
  subst q1; subst q2
  refine s_Out.step hat (pc' := pc + 3) (ls' := ls) (st' := .ref a :: V) (h' := h) ?_ (hn _ _ _ _ _ _ _ hg.2.2 ⟨hr.1, hr.2.1, hr.2.2.1, ho, hA⟩)
  simp only [p_step, p_cc, hp, f1]; rfl
/-! longs -/
theorem s_lv_ok {a : s_V} {v : Value} {K : Int → Bool} (hv : s_v θ a v) (hg : s_lv a K = true) : ∃ z, v = .long (Int64.ofInt z) ∧ K z = true := by
  cases a with
  | inl z => cases hg
  | inr q =>
    obtain ⟨t, e⟩ := q
    have hg : s_and (Nat.beq t 2) _ = true := hg
    rw [s_and_iff] at hg
    have ht := Nat.eq_of_beq_eq_true hg.1
    subst ht
    obtain ⟨z, rfl, hv⟩ := hv
    exact ⟨z, hv, hg.2⟩
theorem s_l_ok {z : Int64} : s_sv θ (.inr (2, .leaf z.toInt)) (.long z) := ⟨by show (2 : Nat) ≠ 0; decide, z.toInt, rfl, by rw [Int64.ofInt_toInt]⟩
theorem s_k_l2 {f : Int64 → Int64 → Int64} (hn : s_OK θ R KS hd d M nx (pc + 1)) (hat : p_at pc M.2.2.2.2.1 = some (i, len)) (hr : s_Rl θ F H L S ls st h) (hs : ∀ x y V, st = .long y :: .long x :: V → p_step p_GT p_MT M i pc ls st h = some (.inl (pc + 1, ls, .long (f x y) :: V, h))) (hg : s_l2 f M pc nx J C R F H L S = true) : s_Out θ R KS hd d M pc ls st h := by
  obtain ⟨b, a, A, w, v, V, rfl, rfl, ⟨-, hb⟩, ⟨-, ha⟩, hA, hg⟩ := s_p2_ok hr.2.2.2 hg
  obtain ⟨x, rfl, hg⟩ := s_lv_ok ha hg
  obtain ⟨y, rfl, hg⟩ := s_lv_ok hb hg
  rw [s_fz_eq] at hg
  exact s_Out.step hat (hs _ _ V rfl) (hn _ _ _ _ _ _ _ hg ⟨hr.1, hr.2.1, hr.2.2.1, s_l_ok, hA⟩)
theorem s_k_ldv {f : Int64 → Int64 → Int64} (hn : s_OK θ R KS hd d M nx (pc + 1)) (hat : p_at pc M.2.2.2.2.1 = some (i, len)) (hr : s_Rl θ F H L S ls st h) (hs : ∀ x y V, st = .long y :: .long x :: V → y ≠ 0 → p_step p_GT p_MT M i pc ls st h = some (.inl (pc + 1, ls, .long (f x y) :: V, h))) (hg : s_ldv f M pc nx J C R F H L S = true) : s_Out θ R KS hd d M pc ls st h := by
  obtain ⟨b, a, A, w, v, V, rfl, rfl, ⟨-, hb⟩, ⟨-, ha⟩, hA, hg⟩ := s_p2_ok hr.2.2.2 hg
  obtain ⟨x, rfl, hg⟩ := s_lv_ok ha hg
  obtain ⟨y, rfl, hg⟩ := s_lv_ok hb hg
  rw [s_and_iff, s_fz_eq] at hg
  exact s_Out.step hat (hs _ _ V rfl (of_decide_eq_true hg.1)) (hn _ _ _ _ _ _ _ hg.2 ⟨hr.1, hr.2.1, hr.2.2.1, s_l_ok, hA⟩)
theorem s_k_lng (hn : s_OK θ R KS hd d M nx (pc + 1)) (hat : p_at pc M.2.2.2.2.1 = some (.lneg, len)) (hr : s_Rl θ F H L S ls st h) (hg : s_lng M pc nx J C R F H L S = true) : s_Out θ R KS hd d M pc ls st h := by
  obtain ⟨a, A, v, V, rfl, rfl, ⟨-, ha⟩, hA, hg⟩ := s_p1_ok hr.2.2.2 hg
  obtain ⟨x, rfl, hg⟩ := s_lv_ok ha hg
  rw [s_fz_eq] at hg
  exact s_Out.step hat rfl (hn _ _ _ _ _ _ _ hg ⟨hr.1, hr.2.1, hr.2.2.1, s_l_ok, hA⟩)
theorem s_k_lsh {f : Int64 → Int32 → Int64} (hn : s_OK θ R KS hd d M nx (pc + 1)) (hat : p_at pc M.2.2.2.2.1 = some (i, len)) (hr : s_Rl θ F H L S ls st h) (hs : ∀ x y V, st = .int y :: .long x :: V → p_step p_GT p_MT M i pc ls st h = some (.inl (pc + 1, ls, .long (f x y) :: V, h))) (hg : s_lsh f M pc nx J C R F H L S = true) : s_Out θ R KS hd d M pc ls st h := by
  obtain ⟨b, a, A, w, v, V, rfl, rfl, ⟨-, hb⟩, ⟨-, ha⟩, hA, hg⟩ := s_p2_ok hr.2.2.2 hg
  obtain ⟨x, rfl, hg⟩ := s_lv_ok ha hg
  cases b with
  | inr q => cases hg
  | inl y =>
    have hg : s_fz (f (Int64.ofInt x) (Int32.ofInt y)).toInt (fun z => nx F H L (.inr (2, .leaf z) :: A)) = true := hg
    rw [s_fz_eq] at hg
    have := hb.2
    subst this
    exact s_Out.step hat (hs _ _ V rfl) (hn _ _ _ _ _ _ _ hg ⟨hr.1, hr.2.1, hr.2.2.1, s_l_ok, hA⟩)
theorem s_k_i2l (hn : s_OK θ R KS hd d M nx (pc + 1)) (hat : p_at pc M.2.2.2.2.1 = some (.i2l, len)) (hr : s_Rl θ F H L S ls st h) (hg : s_i2l M pc nx J C R F H L S = true) : s_Out θ R KS hd d M pc ls st h := by
  obtain ⟨a, A, v, V, rfl, rfl, ⟨-, ha⟩, hA, hg⟩ := s_p1_ok hr.2.2.2 hg
  cases a with
  | inl z =>
    have hg : nx F H L (.inr (2, .leaf z) :: A) = true := hg
    obtain ⟨hz, rfl⟩ := ha
    refine s_Out.step hat rfl (hn _ _ _ _ _ _ _ hg ⟨hr.1, hr.2.1, hr.2.2.1, ⟨by show (2 : Nat) ≠ 0; decide, z, rfl, ?_⟩, hA⟩)
    rw [Int32.toInt64_ofInt (s_I32 hz).1 (s_I32 hz).2]
  | inr q =>
    have hg : s_and (Nat.beq q.1 1) (nx F H L (.inr (5, q.2) :: A)) = true := hg
    rw [s_and_iff] at hg
    have := s_v_1 (a := .inr q) hg.1 ha
    subst this
    exact s_Out.step hat rfl (hn _ _ _ _ _ _ _ hg.2 ⟨hr.1, hr.2.1, hr.2.2.1, ⟨by show (5 : Nat) ≠ 0; decide, rfl⟩, hA⟩)
theorem s_k_l2i (hn : s_OK θ R KS hd d M nx (pc + 1)) (hat : p_at pc M.2.2.2.2.1 = some (.l2i, len)) (hr : s_Rl θ F H L S ls st h) (hg : s_l2i M pc nx J C R F H L S = true) : s_Out θ R KS hd d M pc ls st h := by
  obtain ⟨a, A, v, V, rfl, rfl, ⟨-, ha⟩, hA, hg⟩ := s_p1_ok hr.2.2.2 hg
  rw [s_if_iff] at hg
  rcases hg with ⟨e, hg⟩ | ⟨-, hg⟩
  · cases a with
    | inl z => cases e
    | inr q =>
      obtain ⟨t, x⟩ := q
      have ht : t = 5 := Nat.eq_of_beq_eq_true e
      subst ht
      have ha : v = .long (s_ev θ x).toInt64 := ha
      subst ha
      refine s_Out.step hat (pc' := pc + 1) (ls' := ls) (st' := .int (s_ev θ x) :: V) (h' := h) ?_ (hn _ _ _ _ _ _ _ hg ⟨hr.1, hr.2.1, hr.2.2.1, ⟨by show (1 : Nat) ≠ 0; decide, rfl⟩, hA⟩)
      simp only [p_step]
      rw [Int32.toInt32_toInt64]; rfl
  · obtain ⟨z, rfl, hg⟩ := s_lv_ok ha hg
    rw [s_fz_eq] at hg
    exact s_Out.step hat rfl (hn _ _ _ _ _ _ _ hg ⟨hr.1, hr.2.1, hr.2.2.1, ⟨by show (1 : Nat) ≠ 0; decide, x_I32 _, by rw [Int32.ofInt_toInt]⟩, hA⟩)
theorem s_cmp_eq {x y : Int64} : lg_cmp x y = if y.toInt < x.toInt then 1 else if x.toInt = y.toInt then 0 else -1 := by
  unfold lg_cmp
  have h1 : x > y ↔ y.toInt < x.toInt := Int64.lt_iff_toInt_lt
  have h2 : x = y ↔ x.toInt = y.toInt := Int64.toInt_inj.symm
  simp only [h1, h2]
theorem s_lcs_ok {e : s_E} {y u v : Int} {K : Int → s_F → Bool} (hF : s_FO θ F) (hg : s_lcs e y F u v K = true) : ∃ F', s_FO θ F' ∧ (((s_ev θ e).toInt < y ∧ K u F' = true) ∨ ((s_ev θ e).toInt = y ∧ K 0 F' = true) ∨ (y < (s_ev θ e).toInt ∧ K v F' = true)) := by
  have hb := s_iv_ok (e := e) hF
  have hg : (s_fork e F [(true, (s_iv F e).1, min (s_iv F e).2 (y - 1))] (fun _ F => K u F) && (s_fork e F [(true, max (s_iv F e).1 y, min (s_iv F e).2 y)] (fun _ F => K 0 F) && s_fork e F [(true, max (s_iv F e).1 (y + 1), (s_iv F e).2)] (fun _ F => K v F))) = true := hg
  simp only [Bool.and_eq_true] at hg
  rcases Int.lt_trichotomy (s_ev θ e).toInt y with c | c | c
  · obtain ⟨F', k1, k2⟩ := s_fork_ok hF hg.1 List.mem_cons_self hb.1 (by simp only; omega)
    exact ⟨F', k2, Or.inl ⟨c, k1⟩⟩
  · obtain ⟨F', k1, k2⟩ := s_fork_ok hF hg.2.1 List.mem_cons_self (by simp only; omega) (by simp only; omega)
    exact ⟨F', k2, Or.inr (Or.inl ⟨c, k1⟩)⟩
  · obtain ⟨F', k1, k2⟩ := s_fork_ok hF hg.2.2 List.mem_cons_self (by simp only; omega) hb.2
    exact ⟨F', k2, Or.inr (Or.inr ⟨c, k1⟩)⟩
end SK7

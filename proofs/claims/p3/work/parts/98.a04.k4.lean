section SK7
variable {θ : Nat → Int32} {R : s_K} {KS : s_T} {hd d : Nat} {M : p_M} {pc : Nat} {ls : p_Ls} {st : List Value} {h : p_H} {i : Instr} {len : Nat} {nx : s_T} {J : s_J} {C : s_CC} {F : s_F} {H : s_H} {L S : s_L} {n : Nat}
theorem s_k_invs {x : Nat} (hn : s_OK θ R KS hd d M nx (pc + 3)) (hC : s_CO θ d C) (hat : p_at pc M.2.2.2.2.1 = some (.invokestatic x, len)) (hr : s_Rl θ F H L S ls st h) (hg : s_invs x M pc nx J C R F H L S = true) : s_Out θ R KS hd d M pc ls st h := by
  unfold s_invs at hg
  cases e7 : p_pk x 7 M.2.2.2.2.2.1 with
  | some q =>
    rw [e7] at hg
    obtain ⟨n1, A1, w1, V1, rfl, rfl, ⟨-, a1⟩, hA, hg⟩ := s_p1_ok hr.2.2.2 hg
    obtain ⟨n2, A2, w2, V2, rfl, rfl, ⟨-, a2⟩, hA2, hg⟩ := s_p1_ok hA hg
    obtain ⟨n3, A3, w3, V3, rfl, rfl, ⟨-, a3⟩, hA3, hg⟩ := s_p1_ok hA2 hg
    obtain ⟨n4, A4, w4, V4, rfl, rfl, ⟨-, a4⟩, hA4, hg⟩ := s_p1_ok hA3 hg
    obtain ⟨n5, A5, w5, V5, rfl, rfl, ⟨-, a5⟩, hA5, hg⟩ := s_p1_ok hA4 hg
    rw [s_and_iff] at hg
    obtain ⟨F', H', h', n', dp', sp', d', s0, k1, k2, k3, rfl, rfl, rfl, rfl, rfl, k4⟩ := s_copy_ok (V := V5) hr.1 hr.2.1 a1 a2 a3 a4 a5 (Nat.le_trans (s_cat_ok hA5) (Nat.le_of_ble_eq_true hg.1)) hg.2
    refine s_Out.step hat (pc' := pc + 3) (ls' := ls) (st' := V5) (h' := h') ?_ (hn _ _ _ _ _ _ _ k1 ⟨k2, k3, hr.2.2.1, hA5⟩)
    simp only [p_step, p_invs, e7]
    exact k4 _ _
  | none =>
    rw [e7] at hg
    have hg : s_inv 1 x M S (s_ci C nx F H L) (s_inv 11 x M S (s_ci C nx F H L) false) = true := hg
    unfold s_inv at hg
    cases e1 : p_pk x 1 M.2.2.2.2.2.1 with
    | some q =>
      rw [e1] at hg
      refine s_k_call hn hC hat hr (fun A c r g1 g2 g3 g4 => ⟨?_, g4⟩) hg
      simp only [p_step, p_invs, e7, p_inv, e1]
      rw [if_pos ⟨g1, g2⟩]
    | none =>
      rw [e1] at hg
      cases e2 : p_pk x 11 M.2.2.2.2.2.1 with
      | some q =>
        rw [e2] at hg
        refine s_k_call hn hC hat hr (fun A c r g1 g2 g3 g4 => ⟨?_, g4⟩) hg
        simp only [p_step, p_invs, e7, p_inv, e1, e2]
        rw [if_pos ⟨g1, g2⟩]
      | none => rw [e2] at hg; cases hg
theorem s_ar_hd {o : s_V} {B : s_L} {vs : List Value} (h : s_ar θ (o :: B) vs) : ∃ v V, vs = v :: V ∧ s_v θ o v := by
  cases vs with
  | nil => cases h
  | cons v V =>
    rcases h with ⟨a, A', e, -, h2, -⟩ | ⟨a, A', e, -, h2, -⟩
    · cases e; exact ⟨v, V, rfl, h2⟩
    · cases e; exact ⟨v, V, rfl, h2⟩
theorem s_p1A {A : s_L} {k : s_V → s_L → Bool} (h : s_p1 A k = true) : ∃ o B, A = o :: B ∧ k o B = true := by
  cases A with
  | nil => cases h
  | cons o B => exact ⟨o, B, rfl, h⟩
theorem s_k_invi {x : Nat} (hn : s_OK θ R KS hd d M nx (pc + 3)) (hC : s_CO θ d C) (hat : p_at pc M.2.2.2.2.1 = some (.invokespecial x, len)) (hr : s_Rl θ F H L S ls st h) (hg : s_invi x M pc nx J C R F H L S = true) : s_Out θ R KS hd d M pc ls st h := by
  unfold s_invi at hg
  cases e8 : p_pk x 8 M.2.2.2.2.2.1 with
  | some q =>
    rw [e8] at hg
    obtain ⟨o, A, v, V, rfl, rfl, ⟨-, ho⟩, hA, hg⟩ := s_p1_ok hr.2.2.2 hg
    rw [s_and_iff, s_and_iff] at hg
    have := s_v_ref' hg.1 ho
    subst this
    refine s_Out.step hat (pc' := pc + 3) (ls' := ls) (st' := V) (h' := h) ?_ (hn _ _ _ _ _ _ _ hg.2.2 ⟨hr.1, hr.2.1, hr.2.2.1, hA⟩)
    simp only [p_step, p_invi, e8]
    rw [if_pos (Nat.le_trans (s_cat_ok hA) (Nat.le_of_ble_eq_true hg.2.1))]; rfl
  | none =>
    rw [e8] at hg
    have hg : s_inv 10 x M S (fun m A c r => s_p1 A (fun o _ => s_and (Nat.ble 16 (s_t o)) (s_ci C nx F H L m A c r))) false = true := hg
    unfold s_inv at hg
    cases e1 : p_pk x 10 M.2.2.2.2.2.1 with
    | none => rw [e1] at hg; cases hg
    | some q =>
      rw [e1] at hg
      refine s_k_call hn hC hat hr (fun A c r g1 g2 g3 g4 => ?_) hg
      obtain ⟨o, B, rfl, g4⟩ := s_p1A g4
      rw [s_and_iff] at g4
      obtain ⟨v, V, ev, hv⟩ := s_ar_hd g3
      have := s_v_ref' g4.1 hv
      subst this
      refine ⟨?_, g4.2⟩
      simp only [p_step, p_invi, e8, p_inv, e1]
      rw [if_pos ⟨g1, g2⟩, ev]
theorem s_home_ok {m : Nat} {K : Nat → Bool} (hg : s_home p_MT m K = true) : ∃ M', p_MT[m]? = some M' ∧ K M'.2.2.2.2.2.2.2 = true := by
  unfold s_home at hg
  cases e : p_MT[m]? with
  | none => rw [e] at hg; cases hg
  | some M' => rw [e] at hg; exact ⟨M', rfl, hg⟩
theorem s_clone_ok {o : s_V} {v : Value} {K : s_F → s_H → s_V → Bool} (hF : s_FO θ F) (hH : s_hr θ H h) (ho : s_v θ o v) (hg : s_clone o F H K = true) : ∃ H' r a av, K F H' r = true ∧ s_hr θ H' (h ++ [(1, 0, av)]) ∧ s_sv θ r (.ref h.length) ∧ v = .ref a ∧ h[a]? = some (1, 0, av) ∧ av.all (fits .int) = true := by
  obtain ⟨a, rfl, hg⟩ := s_ref_ok ho hg
  rw [s_and_iff, s_and_iff, s_and_iff] at hg
  obtain ⟨⟨as_, at_, av⟩, e1, e2⟩ := hH.at hg.1 (by decide)
  have q1 : as_ = 1 := e2.1.trans (Nat.eq_of_beq_eq_true hg.1)
  have q2 : at_ = 0 := e2.2.1.trans (Nat.eq_of_beq_eq_true hg.2.1)
  subst q1; subst q2
  have la : av.length = (H.1.get a).2.2.1 := e2.2.2.1
  have hcr : s_cr θ (1, 0, (H.1.get a).2.2.1, (H.1.get a).2.2.2) (1, 0, av) := ⟨rfl, rfl, la, e2.2.2.2⟩
  obtain ⟨H', r, k1, k2, k3⟩ := hH.mk hcr hg.2.2.2
  exact ⟨H', r, a, av, k1, k2, k3, rfl, e1, s_tr_all e2.2.2.2 (fun i hi => s_ints_ok hg.2.2.1 (Nat.zero_le i) (by omega))⟩
theorem s_k_invv {x : Nat} (hn : s_OK θ R KS hd d M nx (pc + 3)) (hC : s_CO θ d C) (hat : p_at pc M.2.2.2.2.1 = some (.invokevirtual x, len)) (hr : s_Rl θ F H L S ls st h) (hg : s_invv p_MT x M pc nx J C R F H L S = true) : s_Out θ R KS hd d M pc ls st h := by
  unfold s_invv at hg
  cases e8 : p_pk x 12 M.2.2.2.2.2.1 with
  | some q =>
    rw [e8] at hg
    obtain ⟨o, A, v, V, rfl, rfl, ⟨-, ho⟩, hA, hg⟩ := s_p1_ok hr.2.2.2 hg
    rw [s_and_iff] at hg
    obtain ⟨H', r, a, av, k1, k2, k3, rfl, k4, k5⟩ := s_clone_ok hr.1 hr.2.1 ho hg.2
    refine s_Out.step hat (pc' := pc + 3) (ls' := ls) (st' := .ref h.length :: V) (h' := h ++ [(1, 0, av)]) ?_ (hn _ _ _ _ _ _ _ k1 ⟨hr.1, k2, hr.2.2.1, k3, hA⟩)
    simp only [p_step, p_vir, e8, p_clone, k4]
    rw [if_pos ⟨k5, Nat.le_trans (s_cat_ok hA) (Nat.le_of_ble_eq_true hg.1)⟩]; rfl
  | none =>
    rw [e8] at hg
    have hg : s_inv 9 x M S (s_iv1 p_MT C nx F H L) false = true := hg
    unfold s_inv at hg
    cases e1 : p_pk x 9 M.2.2.2.2.2.1 with
    | none => rw [e1] at hg; cases hg
    | some q =>
      rw [e1] at hg
      refine s_k_call hn hC hat hr (fun A c r g1 g2 g3 g4 => ?_) hg
      obtain ⟨o, B, rfl, g4⟩ := s_p1A g4
      obtain ⟨M', hM', g4⟩ := s_home_ok g4
      obtain ⟨v, V, ev, hv⟩ := s_ar_hd g3
      obtain ⟨a, rfl, g4⟩ := s_ref_ok hv g4
      rw [s_iv4, s_and_iff, s_and_iff] at g4
      obtain ⟨⟨ds, dt, dv⟩, f1, f2⟩ := hr.2.1.at g4.1 (by decide)
      have q1 : ds = 0 := f2.1.trans (Nat.eq_of_beq_eq_true g4.1)
      have q2 : Nat.beq M'.2.2.2.2.2.2.2 dt = true := by
        have : dt = (H.1.get a).2.1 := f2.2.1
        rw [this]; exact g4.2.1
      subst q1
      refine ⟨?_, g4.2.2⟩
      simp only [p_step, p_vir, e8, p_invv, p_inv, e1]
      rw [if_pos ⟨g1, g2⟩, ev]
      simp only [hM', f1]
      rw [q2, if_pos rfl]
theorem s_k_cc {x : Nat} (hn : s_OK θ R KS hd d M nx (pc + 3)) (hat : p_at pc M.2.2.2.2.1 = some (.checkcast x, len)) (hr : s_Rl θ F H L S ls st h) (hg : s_cc x M pc nx J C R F H L S = true) : s_Out θ R KS hd d M pc ls st h := by
  obtain ⟨o, A, v, V, rfl, rfl, ho, hA, hg⟩ := s_p1_ok hr.2.2.2 hg
  obtain ⟨q, hp, hg⟩ := s_pk_ok hg
  obtain ⟨a, rfl, hg⟩ := s_ref_ok ho.2 hg
  rw [s_and_iff, s_and_iff] at hg
  obtain ⟨⟨ds, dt, dv⟩, f1, f2⟩ := hr.2.1.at hg.1 (by decide)
  have q1 : ds = 1 := f2.1.trans (Nat.eq_of_beq_eq_true hg.1)
  have q2 : dt = 0 := f2.2.1.trans (Nat.eq_of_beq_eq_true hg.2.1)
  subst q1; subst q2
  refine s_Out.step hat (pc' := pc + 3) (ls' := ls) (st' := .ref a :: V) (h' := h) ?_ (hn _ _ _ _ _ _ _ hg.2.2 ⟨hr.1, hr.2.1, hr.2.2.1, ho, hA⟩)
  simp only [p_step, p_cc, hp, f1]; rfl
theorem s_lv_ok {a : s_V} {v : Value} {K : Int → Bool} (hv : s_v θ a v) (hg : s_lv a K = true) : ∃ z, v = .long (Int64.ofInt z) ∧ K z = true := by
  cases a with
  | inl z => cases hg
  | inr q =>
    obtain ⟨t, e⟩ := q
    have hg : s_and (Nat.beq t 2) _ = true := hg
    rw [s_and_iff] at hg
    have ht := Nat.eq_of_beq_eq_true hg.1
    subst ht
    obtain ⟨z, rfl, hv⟩ := hv
    exact ⟨z, hv, hg.2⟩
theorem s_l_ok {z : Int64} : s_sv θ (.inr (2, .leaf z.toInt)) (.long z) := ⟨by show (2 : Nat) ≠ 0; decide, z.toInt, rfl, by rw [Int64.ofInt_toInt]⟩
theorem s_k_l2 {f : Int64 → Int64 → Int64} (hn : s_OK θ R KS hd d M nx (pc + 1)) (hat : p_at pc M.2.2.2.2.1 = some (i, len)) (hr : s_Rl θ F H L S ls st h) (hs : ∀ x y V, st = .long y :: .long x :: V → p_step p_GT p_MT M i pc ls st h = some (.inl (pc + 1, ls, .long (f x y) :: V, h))) (hg : s_l2 f M pc nx J C R F H L S = true) : s_Out θ R KS hd d M pc ls st h := by
  obtain ⟨b, a, A, w, v, V, rfl, rfl, ⟨-, hb⟩, ⟨-, ha⟩, hA, hg⟩ := s_p2_ok hr.2.2.2 hg
  obtain ⟨x, rfl, hg⟩ := s_lv_ok ha hg
  obtain ⟨y, rfl, hg⟩ := s_lv_ok hb hg
  rw [s_fz_eq] at hg
  exact s_Out.step hat (hs _ _ V rfl) (hn _ _ _ _ _ _ _ hg ⟨hr.1, hr.2.1, hr.2.2.1, s_l_ok, hA⟩)
theorem s_k_ldv {f : Int64 → Int64 → Int64} (hn : s_OK θ R KS hd d M nx (pc + 1)) (hat : p_at pc M.2.2.2.2.1 = some (i, len)) (hr : s_Rl θ F H L S ls st h) (hs : ∀ x y V, st = .long y :: .long x :: V → y ≠ 0 → p_step p_GT p_MT M i pc ls st h = some (.inl (pc + 1, ls, .long (f x y) :: V, h))) (hg : s_ldv f M pc nx J C R F H L S = true) : s_Out θ R KS hd d M pc ls st h := by
  obtain ⟨b, a, A, w, v, V, rfl, rfl, ⟨-, hb⟩, ⟨-, ha⟩, hA, hg⟩ := s_p2_ok hr.2.2.2 hg
  obtain ⟨x, rfl, hg⟩ := s_lv_ok ha hg
  obtain ⟨y, rfl, hg⟩ := s_lv_ok hb hg
  rw [s_and_iff, s_fz_eq] at hg
  exact s_Out.step hat (hs _ _ V rfl (of_decide_eq_true hg.1)) (hn _ _ _ _ _ _ _ hg.2 ⟨hr.1, hr.2.1, hr.2.2.1, s_l_ok, hA⟩)
theorem s_k_lng (hn : s_OK θ R KS hd d M nx (pc + 1)) (hat : p_at pc M.2.2.2.2.1 = some (.lneg, len)) (hr : s_Rl θ F H L S ls st h) (hg : s_lng M pc nx J C R F H L S = true) : s_Out θ R KS hd d M pc ls st h := by
  obtain ⟨a, A, v, V, rfl, rfl, ⟨-, ha⟩, hA, hg⟩ := s_p1_ok hr.2.2.2 hg
  obtain ⟨x, rfl, hg⟩ := s_lv_ok ha hg
  rw [s_fz_eq] at hg
  exact s_Out.step hat rfl (hn _ _ _ _ _ _ _ hg ⟨hr.1, hr.2.1, hr.2.2.1, s_l_ok, hA⟩)
theorem s_k_lsh {f : Int64 → Int32 → Int64} (hn : s_OK θ R KS hd d M nx (pc + 1)) (hat : p_at pc M.2.2.2.2.1 = some (i, len)) (hr : s_Rl θ F H L S ls st h) (hs : ∀ x y V, st = .int y :: .long x :: V → p_step p_GT p_MT M i pc ls st h = some (.inl (pc + 1, ls, .long (f x y) :: V, h))) (hg : s_lsh f M pc nx J C R F H L S = true) : s_Out θ R KS hd d M pc ls st h := by
  obtain ⟨b, a, A, w, v, V, rfl, rfl, ⟨-, hb⟩, ⟨-, ha⟩, hA, hg⟩ := s_p2_ok hr.2.2.2 hg
  obtain ⟨x, rfl, hg⟩ := s_lv_ok ha hg
  cases b with
  | inr q => cases hg
  | inl y =>
    have hg : s_fz (f (Int64.ofInt x) (Int32.ofInt y)).toInt (fun z => nx F H L (.inr (2, .leaf z) :: A)) = true := hg
    rw [s_fz_eq] at hg
    have := hb.2
    subst this
    exact s_Out.step hat (hs _ _ V rfl) (hn _ _ _ _ _ _ _ hg ⟨hr.1, hr.2.1, hr.2.2.1, s_l_ok, hA⟩)
theorem s_k_i2l (hn : s_OK θ R KS hd d M nx (pc + 1)) (hat : p_at pc M.2.2.2.2.1 = some (.i2l, len)) (hr : s_Rl θ F H L S ls st h) (hg : s_i2l M pc nx J C R F H L S = true) : s_Out θ R KS hd d M pc ls st h := by
  obtain ⟨a, A, v, V, rfl, rfl, ⟨-, ha⟩, hA, hg⟩ := s_p1_ok hr.2.2.2 hg
  cases a with
  | inl z =>
    have hg : nx F H L (.inr (2, .leaf z) :: A) = true := hg
    obtain ⟨hz, rfl⟩ := ha
    refine s_Out.step hat rfl (hn _ _ _ _ _ _ _ hg ⟨hr.1, hr.2.1, hr.2.2.1, ⟨by show (2 : Nat) ≠ 0; decide, z, rfl, ?_⟩, hA⟩)
    rw [Int32.toInt64_ofInt (s_I32 hz).1 (s_I32 hz).2]
  | inr q =>
    have hg : s_and (Nat.beq q.1 1) (nx F H L (.inr (5, q.2) :: A)) = true := hg
    rw [s_and_iff] at hg
    have := s_v_1 (a := .inr q) hg.1 ha
    subst this
    exact s_Out.step hat rfl (hn _ _ _ _ _ _ _ hg.2 ⟨hr.1, hr.2.1, hr.2.2.1, ⟨by show (5 : Nat) ≠ 0; decide, rfl⟩, hA⟩)
theorem s_k_l2i (hn : s_OK θ R KS hd d M nx (pc + 1)) (hat : p_at pc M.2.2.2.2.1 = some (.l2i, len)) (hr : s_Rl θ F H L S ls st h) (hg : s_l2i M pc nx J C R F H L S = true) : s_Out θ R KS hd d M pc ls st h := by
  obtain ⟨a, A, v, V, rfl, rfl, ⟨-, ha⟩, hA, hg⟩ := s_p1_ok hr.2.2.2 hg
  rw [s_if_iff] at hg
  rcases hg with ⟨e, hg⟩ | ⟨-, hg⟩
  · cases a with
    | inl z => cases e
    | inr q =>
      obtain ⟨t, x⟩ := q
      have ht : t = 5 := Nat.eq_of_beq_eq_true e
      subst ht
      have ha : v = .long (s_ev θ x).toInt64 := ha
      subst ha
      refine s_Out.step hat (pc' := pc + 1) (ls' := ls) (st' := .int (s_ev θ x) :: V) (h' := h) ?_ (hn _ _ _ _ _ _ _ hg ⟨hr.1, hr.2.1, hr.2.2.1, ⟨by show (1 : Nat) ≠ 0; decide, rfl⟩, hA⟩)
      simp only [p_step]
      rw [Int32.toInt32_toInt64]; rfl
  · obtain ⟨z, rfl, hg⟩ := s_lv_ok ha hg
    rw [s_fz_eq] at hg
    exact s_Out.step hat rfl (hn _ _ _ _ _ _ _ hg ⟨hr.1, hr.2.1, hr.2.2.1, ⟨by show (1 : Nat) ≠ 0; decide, x_I32 _, by rw [Int32.ofInt_toInt]⟩, hA⟩)
theorem s_cmp_eq {x y : Int64} : lg_cmp x y = if y.toInt < x.toInt then 1 else if x.toInt = y.toInt then 0 else -1 := by
  unfold lg_cmp
  have h1 : x > y ↔ y.toInt < x.toInt := Int64.lt_iff_toInt_lt
  have h2 : x = y ↔ x.toInt = y.toInt := Int64.toInt_inj.symm
  simp only [h1, h2]
theorem s_lcs_ok {e : s_E} {y u v : Int} {K : Int → s_F → Bool} (hF : s_FO θ F) (hg : s_lcs e y F u v K = true) : ∃ F', s_FO θ F' ∧ (((s_ev θ e).toInt < y ∧ K u F' = true) ∨ ((s_ev θ e).toInt = y ∧ K 0 F' = true) ∨ (y < (s_ev θ e).toInt ∧ K v F' = true)) := by
  have hb := s_iv_ok (e := e) hF
  have hg : (s_fork e F [(true, (s_iv F e).1, min (s_iv F e).2 (y - 1))] (fun _ F => K u F) && (s_fork e F [(true, max (s_iv F e).1 y, min (s_iv F e).2 y)] (fun _ F => K 0 F) && s_fork e F [(true, max (s_iv F e).1 (y + 1), (s_iv F e).2)] (fun _ F => K v F))) = true := hg
  simp only [Bool.and_eq_true] at hg
  rcases Int.lt_trichotomy (s_ev θ e).toInt y with c | c | c
  · obtain ⟨F', k1, k2⟩ := s_fork_ok hF hg.1 List.mem_cons_self hb.1 (by simp only; omega)
    exact ⟨F', k2, Or.inl ⟨c, k1⟩⟩
  · obtain ⟨F', k1, k2⟩ := s_fork_ok hF hg.2.1 List.mem_cons_self (by simp only; omega) (by simp only; omega)
    exact ⟨F', k2, Or.inr (Or.inl ⟨c, k1⟩)⟩
  · obtain ⟨F', k1, k2⟩ := s_fork_ok hF hg.2.2 List.mem_cons_self (by simp only; omega) hb.2
    exact ⟨F', k2, Or.inr (Or.inr ⟨c, k1⟩)⟩
end SK7
section SK8
variable {θ : Nat → Int32} {R : s_K} {KS : s_T} {hd d : Nat} {M : p_M} {pc : Nat} {ls : p_Ls} {st : List Value} {h : p_H} {i : Instr} {len : Nat} {nx : s_T} {J : s_J} {C : s_CC} {F : s_F} {H : s_H} {L S : s_L} {n : Nat}
theorem s_lcm_ok {a b : s_V} {v w : Value} {K : Int → s_F → Bool} (hF : s_FO θ F) (ha : s_v θ a v) (hb : s_v θ b w) (hg : s_lcm a b F K = true) : ∃ (x y : Int64) (z : Int) (F' : s_F), v = .long x ∧ w = .long y ∧ K z F' = true ∧ s_FO θ F' ∧ s_I z ∧ Int32.ofInt z = lg_cmp x y := by
  unfold s_lcm at hg
  rw [s_if_iff] at hg
  rcases hg with ⟨-, hg⟩ | ⟨-, hg⟩
  · obtain ⟨x, rfl, hg⟩ := s_lv_ok ha hg
    rw [s_if_iff] at hg
    rcases hg with ⟨-, hg⟩ | ⟨-, hg⟩
    · obtain ⟨y, rfl, hg⟩ := s_lv_ok hb hg
      rw [s_fz_eq] at hg
      exact ⟨_, _, _, F, rfl, rfl, hg, hF, x_I32 _, Int32.ofInt_toInt _⟩
    · rw [s_and_iff] at hg
      cases b with
      | inl z => cases hg.1
      | inr q =>
        obtain ⟨t, e⟩ := q
        have ht : t = 5 := Nat.eq_of_beq_eq_true hg.1
        subst ht
        have hb : w = .long (s_ev θ e).toInt64 := hb
        subst hb
        obtain ⟨F', k1, k2⟩ := s_lcs_ok (e := e) hF hg.2
        have e1 : (s_ev θ e).toInt64.toInt = (s_ev θ e).toInt := x_i2l _
        rcases k2 with ⟨c, k⟩ | ⟨c, k⟩ | ⟨c, k⟩
        · exact ⟨_, _, 1, F', rfl, rfl, k, k1, ⟨by decide, by decide⟩, by rw [s_cmp_eq, e1, if_pos c]; rfl⟩
        · exact ⟨_, _, 0, F', rfl, rfl, k, k1, ⟨by decide, by decide⟩, by rw [s_cmp_eq, e1, if_neg (by omega), if_pos c.symm]; rfl⟩
        · exact ⟨_, _, -1, F', rfl, rfl, k, k1, ⟨by decide, by decide⟩, by rw [s_cmp_eq, e1, if_neg (by omega), if_neg (by omega)]; rfl⟩
  · rw [s_and_iff] at hg
    cases a with
    | inl z => cases hg.1
    | inr q =>
      obtain ⟨t, e⟩ := q
      have ht : t = 5 := Nat.eq_of_beq_eq_true hg.1
      subst ht
      have ha : v = .long (s_ev θ e).toInt64 := ha
      subst ha
      obtain ⟨y, rfl, hg2⟩ := s_lv_ok hb hg.2
      obtain ⟨F', k1, k2⟩ := s_lcs_ok (e := e) hF hg2
      have e1 : (s_ev θ e).toInt64.toInt = (s_ev θ e).toInt := x_i2l _
      rcases k2 with ⟨c, k⟩ | ⟨c, k⟩ | ⟨c, k⟩
      · exact ⟨_, _, -1, F', rfl, rfl, k, k1, ⟨by decide, by decide⟩, by rw [s_cmp_eq, e1, if_neg (by omega), if_neg (by omega)]; rfl⟩
      · exact ⟨_, _, 0, F', rfl, rfl, k, k1, ⟨by decide, by decide⟩, by rw [s_cmp_eq, e1, if_neg (by omega), if_pos c]; rfl⟩
      · exact ⟨_, _, 1, F', rfl, rfl, k, k1, ⟨by decide, by decide⟩, by rw [s_cmp_eq, e1, if_pos c]; rfl⟩
theorem s_k_lcmp (hn : s_OK θ R KS hd d M nx (pc + 1)) (hat : p_at pc M.2.2.2.2.1 = some (.lcmp, len)) (hr : s_Rl θ F H L S ls st h) (hg : s_lcmp M pc nx J C R F H L S = true) : s_Out θ R KS hd d M pc ls st h := by
  obtain ⟨b, a, A, w, v, V, rfl, rfl, ⟨-, hb⟩, ⟨-, ha⟩, hA, hg⟩ := s_p2_ok hr.2.2.2 hg
  obtain ⟨x, y, z, F', rfl, rfl, k1, k2, k3, k4⟩ := s_lcm_ok hr.1 ha hb hg
  exact s_Out.step hat rfl (hn _ _ _ _ _ _ _ k1 ⟨k2, hr.2.1, hr.2.2.1, ⟨by show (1 : Nat) ≠ 0; decide, k3, by rw [k4]⟩, hA⟩)
theorem s_num_ok {a : s_V} {v : Value} {K : Int → s_F → Bool} {E : s_E → s_F → Bool} (hF : s_FO θ F) (ha : s_v θ a v) (hg : s_num a F K E = true) : ∃ (x : Int32) (F' : s_F), v = .int x ∧ s_FO θ F' ∧ (K x.toInt F' = true ∨ ∃ e, x = s_ev θ e ∧ E e F' = true) := by
  obtain ⟨b, F', h1, h2, h3, h4⟩ := s_cz_ok hF ha hg
  cases b with
  | inl z =>
    obtain ⟨hz, rfl⟩ := h3
    exact ⟨_, F', rfl, h2, Or.inl (by rw [s_I_eq hz]; exact h1)⟩
  | inr q =>
    have := s_v_1 (a := .inr q) h4 h3
    exact ⟨_, F', this, h2, Or.inr ⟨q.2, rfl, h1⟩⟩
theorem s_swc_ok {dd lo hi : Int} {offs : Array Int} {x : Int32} {K : Nat → Bool} {V : List Value} (hg : s_swc dd lo hi offs pc x.toInt K = true) : ∃ t, K t = true ∧ p_sw pc dd lo hi offs x ls V h = some (.inl (t, ls, V, h)) := by
  unfold s_swc at hg
  unfold p_sw
  split at hg
  · next c =>
    obtain ⟨t, ht, hg⟩ := s_tgt_ok hg
    exact ⟨t, hg, by rw [if_pos c]; simp only [p_jm, ht]; rfl⟩
  · next c =>
    rw [if_neg c]
    split at hg
    · next off ho =>
      obtain ⟨t, ht, hg⟩ := s_tgt_ok hg
      exact ⟨t, hg, by rw [ho]; simp only [p_jm, ht]; rfl⟩
    · cases hg
theorem s_k_tsw {dd lo hi : Int} {offs : Array Int} (hJ : ∀ t, s_OK θ R KS hd d M (J t) t) (hat : p_at pc M.2.2.2.2.1 = some (.tableswitch dd lo hi offs, len)) (hr : s_Rl θ F H L S ls st h) (hg : s_tsw dd lo hi offs M pc nx J C R F H L S = true) : s_Out θ R KS hd d M pc ls st h := by
  obtain ⟨a, A, v, V, rfl, rfl, ⟨-, ha⟩, hA, hg⟩ := s_p1_ok hr.2.2.2 hg
  obtain ⟨x, F', rfl, hF', hg | ⟨e, rfl, hg⟩⟩ := s_num_ok hr.1 ha hg
  · obtain ⟨t, k1, k2⟩ := s_swc_ok (ls := ls) (h := h) (V := V) hg
    exact s_Out.step hat k2 (hJ t _ _ _ _ _ _ _ k1 ⟨hF', hr.2.1, hr.2.2.1, hA⟩)
  · have hb := s_iv_ok (e := e) hF'
    have hg : (s_fork e F' [(true, (s_iv F' e).1, min (s_iv F' e).2 (lo - 1))] (fun _ F => s_tgt pc dd (s_jt J F H L A)) && (s_fork e F' [(true, max (s_iv F' e).1 (hi + 1), (s_iv F' e).2)] (fun _ F => s_tgt pc dd (s_jt J F H L A)) && (decide (hi - lo ≤ 200) && s_all lo (fun z => if (s_iv F' e).1 ≤ z ∧ z ≤ (s_iv F' e).2 then s_swc dd lo hi offs pc z (s_jt J ((e, z, z) :: F') H L A) else true) ((hi - lo + 1).toNat)))) = true := hg
    simp only [Bool.and_eq_true] at hg
    by_cases c1 : (s_ev θ e).toInt < lo
    · obtain ⟨F2, k1, k2⟩ := s_fork_ok hF' hg.1 List.mem_cons_self hb.1 (by simp only; omega)
      obtain ⟨t, ht, k1⟩ := s_tgt_ok k1
      refine s_Out.step hat (pc' := t) (ls' := ls) (st' := V) (h' := h) ?_ (hJ t _ _ _ _ _ _ _ k1 ⟨k2, hr.2.1, hr.2.2.1, hA⟩)
      simp only [p_step, p_sw]
      rw [if_pos (Or.inl c1)]; simp only [p_jm, ht]; rfl
    · by_cases c2 : hi < (s_ev θ e).toInt
      · obtain ⟨F2, k1, k2⟩ := s_fork_ok hF' hg.2.1 List.mem_cons_self (by simp only; omega) hb.2
        obtain ⟨t, ht, k1⟩ := s_tgt_ok k1
        refine s_Out.step hat (pc' := t) (ls' := ls) (st' := V) (h' := h) ?_ (hJ t _ _ _ _ _ _ _ k1 ⟨k2, hr.2.1, hr.2.2.1, hA⟩)
        simp only [p_step, p_sw]
        rw [if_pos (Or.inr c2)]; simp only [p_jm, ht]; rfl
      · have k := s_all_ok (z := (s_ev θ e).toInt) hg.2.2.2 (by omega) (by omega)
        rw [if_pos hb] at k
        obtain ⟨t, k1, k2⟩ := s_swc_ok (ls := ls) (h := h) (V := V) k
        refine s_Out.step hat k2 (hJ t _ _ _ _ _ _ _ k1 ⟨fun f hf => ?_, hr.2.1, hr.2.2.1, hA⟩)
        rcases List.mem_cons.mp hf with rfl | hf
        · exact ⟨Int.le_refl _, Int.le_refl _⟩
        · exact hF' f hf
theorem s_k_lsw {dd : Int} {ps : Array (Int × Int)} (hJ : ∀ t, s_OK θ R KS hd d M (J t) t) (hat : p_at pc M.2.2.2.2.1 = some (.lookupswitch dd ps, len)) (hr : s_Rl θ F H L S ls st h) (hg : s_lsw dd ps M pc nx J C R F H L S = true) : s_Out θ R KS hd d M pc ls st h := by
  unfold s_lsw at hg
  rw [s_and_iff] at hg
  obtain ⟨a, A, v, V, rfl, rfl, ⟨-, ha⟩, hA, hg2⟩ := s_p1_ok hr.2.2.2 hg.2
  obtain ⟨x, F', rfl, hF', hg2 | ⟨e, rfl, hg2⟩⟩ := s_num_ok hr.1 ha hg2
  · obtain ⟨t, ht, k1⟩ := s_tgt_ok hg2
    refine s_Out.step hat (pc' := t) (ls' := ls) (st' := V) (h' := h) ?_ (hJ t _ _ _ _ _ _ _ k1 ⟨hF', hr.2.1, hr.2.2.1, hA⟩)
    simp only [p_step]
    rw [if_pos hg.1]; simp only [p_jm, ht]; rfl
  · cases hg2
theorem s_Out.ret (hat : p_at pc M.2.2.2.2.1 = some (i, len)) {a : s_V} {v : Option Value} (hr : s_Rl θ F H L S ls st h) (hs : p_step p_GT p_MT M i pc ls st h = some (.inr (.inl v))) (ha : s_an θ a v) (hg : R F H a = true) : s_Out θ R KS hd d M pc ls st h :=
  Or.inl ⟨F, H, a, v, h, hg, hr.1, hr.2.1, ha, p_wp.ret hat hs ⟨rfl, rfl⟩⟩
theorem s_rv_ok {ty : Option FieldType} {a : s_V} {v : Value} (hF : s_FO θ F) (ha : s_v θ a v) (hg : s_rv ty F a = true) : p_ret ty (some v) = some (.inr (.inl (some v))) := by
  unfold s_rv at hg
  split at hg
  · obtain ⟨x, rfl⟩ := s_v_i hg ha
    simp [p_ret, narrow]
  · obtain ⟨x, rfl, e | e⟩ := s_bool_ok hF ha hg
    · subst e; rfl
    · subst e; rfl
  · obtain ⟨x, rfl⟩ := s_v_l hg ha; rfl
  · rcases s_v_r hg ha with rfl | ⟨x, rfl⟩ <;> rfl
  · rcases s_v_r hg ha with rfl | ⟨x, rfl⟩ <;> rfl
  · cases hg
theorem s_k_re {w : Nat → Bool} (hat : p_at pc M.2.2.2.2.1 = some (i, len)) (hr : s_Rl θ F H L S ls st h) (hs : ∀ a v, st = [v] → w (s_t a) = true → s_v θ a v → p_step p_GT p_MT M i pc ls st h = p_ret M.2.2.2.1 (some v)) (hg : s_re w M pc nx J C R F H L S = true) : s_Out θ R KS hd d M pc ls st h := by
  obtain ⟨a, A, v, V, rfl, rfl, ha, hA, hg⟩ := s_p1_ok hr.2.2.2 hg
  rw [s_re1, s_and_iff, s_and_iff, s_and_iff] at hg
  cases A with
  | cons b B => cases hg.1
  | nil =>
    have := s_sr_nil hA
    subst this
    exact s_Out.ret hat hr ((hs a v rfl hg.2.1 ha.2).trans (s_rv_ok hr.1 ha.2 hg.2.2.1)) ha hg.2.2.2
theorem s_k_r0 (hat : p_at pc M.2.2.2.2.1 = some (.return_, len)) (hr : s_Rl θ F H L S ls st h) (hg : s_r0 M pc nx J C R F H L S = true) : s_Out θ R KS hd d M pc ls st h := by
  unfold s_r0 at hg
  rw [s_and_iff] at hg
  cases S with
  | cons b B => cases hg.1
  | nil =>
    have := s_sr_nil hr.2.2.2
    subst this
    have hg2 := hg.2
    split at hg2
    · next e => exact s_Out.ret hat hr (by simp only [p_step, e]; rfl) (show s_an θ (.inr (8, .leaf 0)) none from rfl) hg2
    · cases hg2
end SK8
section SK9
variable {θ : Nat → Int32} {R : s_K} {KS : s_T} {hd d : Nat} {M : p_M} {pc : Nat} {ls : p_Ls} {st : List Value} {h : p_H} {i : Instr} {len : Nat} {nx : s_T} {J : s_J} {C : s_CC} {F : s_F} {H : s_H} {L S : s_L} {n : Nat}
theorem s_pld {k pc : Nat} {x : Int32} {ls : p_Ls} {st : List Value} {h : p_H} (e : p_lk k ls = some (.int x)) : p_ld k 0 pc ls st h = some (.inl (pc, ls, .int x :: st, h)) := by simp only [p_ld, e]; rfl
theorem s_pldl {k pc : Nat} {x : Int64} {ls : p_Ls} {st : List Value} {h : p_H} (e : p_lk k ls = some (.long x)) : p_ld k 1 pc ls st h = some (.inl (pc, ls, .long x :: st, h)) := by simp only [p_ld, e]; rfl
theorem s_plda {k pc : Nat} {x : Value} {ls : p_Ls} {st : List Value} {h : p_H} (e : p_lk k ls = some x) (hx : x = .null ∨ ∃ a, x = .ref a) : p_ld k 2 pc ls st h = some (.inl (pc, ls, x :: st, h)) := by
  rcases hx with rfl | ⟨a, rfl⟩ <;> simp only [p_ld, e] <;> rfl
set_option maxHeartbeats 4000000 in
set_option maxRecDepth 100000 in
theorem s_hd_ok (hn : p_ln i ≠ 0 → s_OK θ R KS hd d M nx (pc + p_ln i)) (hJ : ∀ t, s_OK θ R KS hd d M (J t) t) (hC : s_CO θ d C) (hat : p_at pc M.2.2.2.2.1 = some (i, len)) (hr : s_Rl θ F H L S ls st h) (hg : s_hd i M pc nx J C R F H L S = true) : s_Out θ R KS hd d M pc ls st h := by
  cases i with
  | iconst v => exact s_k_w (hn (fun e => by cases e)) hat hr rfl hg
  | bipush v =>
    have hg : s_and (decide (-(128 : Int) ≤ v ∧ v < 128)) (nx F H L (.inl v :: S)) = true := hg
    rw [s_and_iff] at hg
    have hv := of_decide_eq_true hg.1
    exact s_k_push (n := 2) (hn (fun e => by cases e)) hat hr (a := .inl v) (v := .int (Int32.ofInt v)) (by rw [← s_8 hv.1 hv.2]; rfl) ⟨by show (1 : Nat) ≠ 0; decide, ⟨by omega, by omega⟩, rfl⟩ hg.2
  | sipush v =>
    have hg : s_and (decide (-(32768 : Int) ≤ v ∧ v < 32768)) (nx F H L (.inl v :: S)) = true := hg
    rw [s_and_iff] at hg
    have hv := of_decide_eq_true hg.1
    exact s_k_push (n := 3) (hn (fun e => by cases e)) hat hr (a := .inl v) (v := .int (Int32.ofInt v)) (by rw [← s_16 hv.1 hv.2]; rfl) ⟨by show (1 : Nat) ≠ 0; decide, ⟨by omega, by omega⟩, rfl⟩ hg.2
  | lconst k => exact s_k_push (n := 1) (hn (fun e => by cases e)) hat hr (a := .inr (2, .leaf (Int.ofNat k.val))) (v := .long (Int64.ofNat k.val)) rfl ⟨by show (2 : Nat) ≠ 0; decide, Int.ofNat k.val, rfl, by rw [show Int64.ofInt (Int.ofNat k.val) = Int64.ofNat k.val from Int64.ofInt_eq_ofNat]⟩ hg
  | aconst_null => exact s_k_push (n := 1) (hn (fun e => by cases e)) hat hr (a := .inr (4, .leaf 0)) (v := .null) rfl ⟨by show (4 : Nat) ≠ 0; decide, rfl⟩ hg
  | ldc x =>
    have hg : s_pk x 3 M.2.2.2.2.2.1 (fun _ b => s_w b (s_nz nx F H L S)) = true := hg
    obtain ⟨q, hp, hg⟩ := s_pk_ok hg
    exact s_k_w (n := 2) (hn (fun e => by cases e)) hat hr (by simp only [p_step, p_cst, hp]; rfl) hg
  | ldc_w x =>
    have hg : s_pk x 3 M.2.2.2.2.2.1 (fun _ b => s_w b (s_nz nx F H L S)) = true := hg
    obtain ⟨q, hp, hg⟩ := s_pk_ok hg
    exact s_k_w (n := 3) (hn (fun e => by cases e)) hat hr (by simp only [p_step, p_cst, hp]; rfl) hg
  | ldc2_w x =>
    have hg : s_pk x 4 M.2.2.2.2.2.1 (fun _ b => s_fz (Int64.ofInt b).toInt (fun z => nx F H L (.inr (2, .leaf z) :: S))) = true := hg
    obtain ⟨q, hp, hg⟩ := s_pk_ok hg
    rw [s_fz_eq] at hg
    exact s_k_push (n := 3) (hn (fun e => by cases e)) hat hr (v := .long (Int64.ofInt q.2)) (by simp only [p_step, p_cst, hp]; rfl) s_l_ok hg
  | iload_n k => exact s_k_ldi (n := 1) (hn (fun e => by cases e)) hat hr (fun x e => s_pld e) hg
  | iload k => exact s_k_ldi (n := 2) (hn (fun e => by cases e)) hat hr (fun x e => s_pld e) hg
  | lload_n k => exact s_k_ldl (n := 1) (hn (fun e => by cases e)) hat hr (fun x e => s_pldl e) hg
  | lload k => exact s_k_ldl (n := 2) (hn (fun e => by cases e)) hat hr (fun x e => s_pldl e) hg
  | aload_n k => exact s_k_lda (n := 1) (hn (fun e => by cases e)) hat hr (fun x e hx => s_plda e hx) hg
  | aload k => exact s_k_lda (n := 2) (hn (fun e => by cases e)) hat hr (fun x e hx => s_plda e hx) hg
  | istore_n k => exact s_k_sti (nx := nx) (J := J) (C := C) (n := 1) (hn (fun e => by cases e)) hat hr (fun x V hk e => by subst e; simp only [p_step, p_sv]; rw [if_pos hk]; rfl) hg
  | istore k => exact s_k_sti (nx := nx) (J := J) (C := C) (n := 2) (hn (fun e => by cases e)) hat hr (fun x V hk e => by subst e; simp only [p_step, p_sv]; rw [if_pos hk]; rfl) hg
  | lstore_n k => exact s_k_stl (nx := nx) (J := J) (C := C) (n := 1) (hn (fun e => by cases e)) hat hr (fun x V hk e => by subst e; simp only [p_step, p_sv]; rw [if_pos hk]; rfl) hg
  | lstore k => exact s_k_stl (nx := nx) (J := J) (C := C) (n := 2) (hn (fun e => by cases e)) hat hr (fun x V hk e => by subst e; simp only [p_step, p_sv]; rw [if_pos hk]; rfl) hg
  | astore_n k => exact s_k_sta (nx := nx) (J := J) (C := C) (n := 1) (hn (fun e => by cases e)) hat hr (fun v V hk e hv => by subst e; rcases hv with rfl | ⟨x, rfl⟩ <;> simp only [p_step, p_sv] <;> rw [if_pos hk] <;> rfl) hg
  | astore k => exact s_k_sta (nx := nx) (J := J) (C := C) (n := 2) (hn (fun e => by cases e)) hat hr (fun v V hk e hv => by subst e; rcases hv with rfl | ⟨x, rfl⟩ <;> simp only [p_step, p_sv] <;> rw [if_pos hk] <;> rfl) hg
  | iinc k z => exact s_k_inc (nx := nx) (J := J) (C := C) (hn (fun e => by cases e)) hat hr hg
  | iadd => exact s_k_ib (nx := nx) (J := J) (C := C) (by decide) s_ok_add (by decide) (by decide) (hn (fun e => by cases e)) hat hr (fun x y V e => by subst e; rfl) hg
  | isub => exact s_k_ib (nx := nx) (J := J) (C := C) (by decide) s_ok_sub (by decide) (by decide) (hn (fun e => by cases e)) hat hr (fun x y V e => by subst e; rfl) hg
  | imul => exact s_k_ib (nx := nx) (J := J) (C := C) (by decide) s_ok_mul (by decide) (by decide) (hn (fun e => by cases e)) hat hr (fun x y V e => by subst e; rfl) hg
  | iand => exact s_k_ib (nx := nx) (J := J) (C := C) (by decide) s_ok_and (by decide) (by decide) (hn (fun e => by cases e)) hat hr (fun x y V e => by subst e; rfl) hg
  | ior => exact s_k_ib (nx := nx) (J := J) (C := C) (by decide) s_ok_or (by decide) (by decide) (hn (fun e => by cases e)) hat hr (fun x y V e => by subst e; rfl) hg
  | ixor => exact s_k_ib (nx := nx) (J := J) (C := C) (by decide) s_ok_xor (by decide) (by decide) (hn (fun e => by cases e)) hat hr (fun x y V e => by subst e; rfl) hg
  | ishl => exact s_k_ib (nx := nx) (J := J) (C := C) (by decide) s_ok_shl (by decide) (by decide) (hn (fun e => by cases e)) hat hr (fun x y V e => by subst e; rfl) hg
  | ishr => exact s_k_ib (nx := nx) (J := J) (C := C) (by decide) s_ok_shr (by decide) (by decide) (hn (fun e => by cases e)) hat hr (fun x y V e => by subst e; rfl) hg
  | iushr => exact s_k_ib (nx := nx) (J := J) (C := C) (by decide) s_ok_ushr (by decide) (by decide) (hn (fun e => by cases e)) hat hr (fun x y V e => by subst e; rfl) hg
  | idiv => exact s_k_id (nx := nx) (J := J) (C := C) (by decide) s_ok_div (hn (fun e => by cases e)) hat hr (fun x y V e hy => by subst e; simp only [p_step]; rw [if_neg hy]; rfl) hg
  | irem => exact s_k_id (nx := nx) (J := J) (C := C) (by decide) s_ok_rem (hn (fun e => by cases e)) hat hr (fun x y V e hy => by subst e; simp only [p_step]; rw [if_neg hy]; rfl) hg
  | ineg => exact s_k_iu (nx := nx) (J := J) (C := C) (by decide) s_ok_neg (by decide) (by decide) (hn (fun e => by cases e)) hat hr (fun x V e => by subst e; rfl) hg
  | i2b => exact s_k_iu (nx := nx) (J := J) (C := C) (by decide) s_ok_i2b (by decide) (by decide) (hn (fun e => by cases e)) hat hr (fun x V e => by subst e; rfl) hg
  | ladd => exact s_k_l2 (nx := nx) (J := J) (C := C) (hn (fun e => by cases e)) hat hr (fun x y V e => by subst e; rfl) hg
  | lsub => exact s_k_l2 (nx := nx) (J := J) (C := C) (hn (fun e => by cases e)) hat hr (fun x y V e => by subst e; rfl) hg
  | lmul => exact s_k_l2 (nx := nx) (J := J) (C := C) (hn (fun e => by cases e)) hat hr (fun x y V e => by subst e; rfl) hg
  | lor => exact s_k_l2 (nx := nx) (J := J) (C := C) (hn (fun e => by cases e)) hat hr (fun x y V e => by subst e; rfl) hg
  | ldiv => exact s_k_ldv (nx := nx) (J := J) (C := C) (f := fun x y => x / y) (hn (fun e => by cases e)) hat hr (fun x y V e hy => by subst e; simp only [p_step]; rw [if_neg hy]; rfl) hg
  | lrem => exact s_k_ldv (nx := nx) (J := J) (C := C) (f := fun x y => x - x / y * y) (hn (fun e => by cases e)) hat hr (fun x y V e hy => by subst e; simp only [p_step]; rw [if_neg hy]; rfl) hg
  | lneg => exact s_k_lng (nx := nx) (J := J) (C := C) (hn (fun e => by cases e)) hat hr hg
  | lshl => exact s_k_lsh (nx := nx) (J := J) (C := C) (f := fun x y => x <<< (y.toInt64 &&& 63)) (hn (fun e => by cases e)) hat hr (fun x y V e => by subst e; rfl) hg
  | lshr => exact s_k_lsh (nx := nx) (J := J) (C := C) (f := fun x y => x >>> (y.toInt64 &&& 63)) (hn (fun e => by cases e)) hat hr (fun x y V e => by subst e; rfl) hg
  | lcmp => exact s_k_lcmp (nx := nx) (J := J) (C := C) (hn (fun e => by cases e)) hat hr hg
  | i2l => exact s_k_i2l (nx := nx) (J := J) (C := C) (hn (fun e => by cases e)) hat hr hg
  | l2i => exact s_k_l2i (nx := nx) (J := J) (C := C) (hn (fun e => by cases e)) hat hr hg
  | dup => exact s_k_dup (nx := nx) (J := J) (C := C) (hn (fun e => by cases e)) hat hr hg
  | pop => exact s_k_pop (nx := nx) (J := J) (C := C) (hn (fun e => by cases e)) hat hr hg
  | dup2 => exact s_k_dup2 (nx := nx) (J := J) (C := C) (hn (fun e => by cases e)) hat hr hg
  | pop2 => exact s_k_pop2 (nx := nx) (J := J) (C := C) (hn (fun e => by cases e)) hat hr hg
  | ifCond c off => exact s_k_br1 (nx := nx) (J := J) (C := C) (hn (fun e => by cases e)) hJ hat hr hg
  | if_icmp c off => exact s_k_br2 (nx := nx) (J := J) (C := C) (hn (fun e => by cases e)) hJ hat hr hg
  | ifnull off => exact s_k_null (nx := nx) (J := J) (C := C) (hn (fun e => by cases e)) hJ hat hr hg
  | ifnonnull off => exact s_k_nonnull (nx := nx) (J := J) (C := C) (hn (fun e => by cases e)) hJ hat hr hg
  | goto off => exact s_k_goto (nx := nx) (J := J) (C := C) hJ hat hr hg
  | tableswitch a b c e => exact s_k_tsw (nx := nx) (J := J) (C := C) hJ hat hr hg
  | lookupswitch a b => exact s_k_lsw (nx := nx) (J := J) (C := C) hJ hat hr hg
  | iaload => exact s_k_al (nx := nx) (J := J) (C := C) (hn (fun e => by cases e)) hat hr (fun j a V e => by subst e; rfl) hg
  | laload => exact s_k_al (nx := nx) (J := J) (C := C) (hn (fun e => by cases e)) hat hr (fun j a V e => by subst e; rfl) hg
  | baload => exact s_k_al (nx := nx) (J := J) (C := C) (hn (fun e => by cases e)) hat hr (fun j a V e => by subst e; rfl) hg
  | aaload => exact s_k_al (nx := nx) (J := J) (C := C) (hn (fun e => by cases e)) hat hr (fun j a V e => by subst e; rfl) hg
  | iastore => exact s_k_as (nx := nx) (J := J) (C := C) (hn (fun e => by cases e)) hat hr (fun x v j a V e hw hv => by subst e; obtain ⟨y, rfl⟩ := s_v_i hw hv; rfl) hg
  | lastore => exact s_k_as (nx := nx) (J := J) (C := C) (hn (fun e => by cases e)) hat hr (fun x v j a V e hw hv => by subst e; obtain ⟨y, rfl⟩ := s_v_l hw hv; rfl) hg
  | bastore => exact s_k_asb (nx := nx) (J := J) (C := C) (hn (fun e => by cases e)) hat hr hg
  | aastore => exact s_k_aas (nx := nx) (J := J) (C := C) (hn (fun e => by cases e)) hat hr hg
  | arraylength => exact s_k_alen (nx := nx) (J := J) (C := C) (hn (fun e => by cases e)) hat hr hg
  | newarray ty => exact s_k_newa (nx := nx) (J := J) (C := C) (hn (fun e => by cases e)) hat hr hg
  | anewarray x => exact s_k_anew (nx := nx) (J := J) (C := C) (hn (fun e => by cases e)) hat hr hg
  | new x => exact s_k_new (nx := nx) (J := J) (C := C) (hn (fun e => by cases e)) hat hr hg
  | getfield x => exact s_k_getf (nx := nx) (J := J) (C := C) (hn (fun e => by cases e)) hat hr hg
  | putfield x => exact s_k_putf (nx := nx) (J := J) (C := C) (hn (fun e => by cases e)) hat hr hg
  | getstatic x => exact s_k_gets (nx := nx) (J := J) (C := C) (hn (fun e => by cases e)) hat hr hg
  | invokestatic x => exact s_k_invs (nx := nx) (J := J) (C := C) (hn (fun e => by cases e)) hC hat hr hg
  | invokevirtual x => exact s_k_invv (nx := nx) (J := J) (C := C) (hn (fun e => by cases e)) hC hat hr hg
  | invokespecial x => exact s_k_invi (nx := nx) (J := J) (C := C) (hn (fun e => by cases e)) hC hat hr hg
  | checkcast x => exact s_k_cc (nx := nx) (J := J) (C := C) (hn (fun e => by cases e)) hat hr hg
  | return_ => exact s_k_r0 (nx := nx) (J := J) (C := C) hat hr hg
  | ireturn => exact s_k_re (nx := nx) (J := J) (C := C) hat hr (fun a v e hw hv => by subst e; obtain ⟨y, rfl⟩ := s_v_i hw hv; rfl) hg
  | lreturn => exact s_k_re (nx := nx) (J := J) (C := C) hat hr (fun a v e hw hv => by subst e; obtain ⟨y, rfl⟩ := s_v_l hw hv; rfl) hg
  | areturn => exact s_k_re (nx := nx) (J := J) (C := C) hat hr (fun a v e hw hv => by subst e; rcases s_v_r hw hv with rfl | ⟨y, rfl⟩ <;> rfl) hg
  | _ => cases hg
end SK9
section SR
variable {θ : Nat → Int32} {R : s_K} {KS : s_T} {hd d : Nat} {M : p_M} {J : s_J} {C : s_CC}
def s_Cal (θ : Nat → Int32) (d m : Nat) (K : s_K) (vs : List Value) (h : p_H) : Prop := ∃ M' dc F' H' a v h2, p_MT[m]? = some M' ∧ p_cat vs ≤ M'.2.2.1 ∧ dc ≤ d ∧ K F' H' a = true ∧ s_FO θ F' ∧ s_hr θ H' h2 ∧ s_an θ a v ∧ p_wp p_GT p_MT dc M' 0 (lv_args 0 vs) [] h (fun v' h' => v' = v ∧ h' = h2)
def s_XO (θ : Nat → Int32) (X : s_X) : Prop := ∀ d m A c F H K E vs h, X d m A c F H K E = true → s_FO θ F → s_hr θ H h → s_lr θ A (lv_args 0 vs) → p_cat vs = c → E = true ∨ s_Cal θ d m K vs h
theorem s_X0_ok : s_XO θ s_X0 := fun _ _ _ _ _ _ _ _ _ _ h _ _ _ _ => Or.inl h
theorem s_adj_tl {q : p_I} {l : List p_I} (h : s_adj (q :: l) = true) : s_adj l = true := by
  simp only [s_adj, Bool.and_eq_true] at h
  exact h.2
theorem s_adj_hd {q p : p_I} {l : List p_I} (h : s_adj (q :: p :: l) = true) : q.1 < p.1 ∧ (p_ln q.2.1 = 0 ∨ q.1 + p_ln q.2.1 = p.1) := by
  have h : ((Nat.blt q.1 p.1 && (Nat.beq (p_ln q.2.1) 0 || Nat.beq (q.1 + p_ln q.2.1) p.1)) && s_adj (p :: l)) = true := h
  rw [Bool.and_eq_true, Bool.and_eq_true, Bool.or_eq_true] at h
  exact ⟨Nat.le_of_ble_eq_true h.1.1, h.1.2.imp Nat.eq_of_beq_eq_true Nat.eq_of_beq_eq_true⟩
theorem s_adj_lt : ∀ {l : List p_I} {q : p_I}, s_adj (q :: l) = true → ∀ p ∈ l, q.1 < p.1 := by
  intro l
  induction l with
  | nil => intro q _ p hp; cases hp
  | cons a r ih =>
    intro q h p hp
    have h1 := (s_adj_hd h).1
    rcases List.mem_cons.mp hp with rfl | hp
    · exact h1
    · exact Nat.lt_trans h1 (ih (s_adj_tl h) p hp)
theorem s_at_ok : ∀ {pre : List p_I} {q : p_I} {r : List p_I}, s_adj (pre ++ q :: r) = true → p_at q.1 (pre ++ q :: r) = some q.2 := by
  intro pre
  induction pre with
  | nil => intro q r _; simp [p_at]
  | cons a pre ih =>
    intro q r h
    have h : s_adj (a :: (pre ++ q :: r)) = true := h
    have h1 := s_adj_lt h q (by simp)
    have h2 : Nat.beq a.1 q.1 = false := by
      cases e : Nat.beq a.1 q.1 with
      | false => rfl
      | true => have := Nat.eq_of_beq_eq_true e; omega
    show (if Nat.beq a.1 q.1 then some a.2 else p_at q.1 (pre ++ q :: r)) = some q.2
    rw [h2]
    exact ih (s_adj_tl h)
theorem s_blk_ok (hJ : ∀ t, s_OK θ R KS hd d M (J t) t) (hC : s_CO θ d C) (ha : s_adj M.2.2.2.2.1 = true) : ∀ (l pre : List p_I), M.2.2.2.2.1 = pre ++ l → ∀ q r, l = q :: r → s_OK θ R KS hd d M (s_blk M J C R l) q.1 := by
  intro l
  induction l with
  | nil => intro pre _ q r h; cases h
  | cons q r ih =>
    intro pre hpre q' r' hl
    cases hl
    intro F H L S ls st h hg hr
    refine s_hd_ok (i := q.2.1) (pc := q.1) (len := q.2.2) (nx := s_blk M J C R r) ?_ hJ hC (by rw [hpre]; exact s_at_ok (by rw [← hpre]; exact ha)) hr hg
    intro h0
    have hadj : ∀ {pre l : List p_I}, s_adj (pre ++ l) = true → s_adj l = true := by
      intro pre
      induction pre with
      | nil => intro l h; exact h
      | cons a p ih => intro l h; exact ih (s_adj_tl h)
    have ha2 : s_adj (q :: r) = true := hadj (by rw [← hpre]; exact ha)
    cases r with
    | nil => intro F H L S ls st h hg; cases hg
    | cons p r2 =>
      have h3 := (s_adj_hd ha2).2
      rw [h3.resolve_left h0]
      exact ih (pre ++ [q]) (by rw [hpre]; simp) p r2 rfl
theorem s_sfx_ok {pc : Nat} : ∀ {l : List p_I}, s_sfx pc l = [] ∨ ∃ pre q r, l = pre ++ q :: r ∧ q.1 = pc ∧ s_sfx pc l = q :: r := by
  intro l
  induction l with
  | nil => exact Or.inl rfl
  | cons q r ih =>
    have e : s_sfx pc (q :: r) = Bool.rec (motive := fun _ => List p_I) (s_sfx pc r) (q :: r) (Nat.beq q.1 pc) := rfl
    cases hb : Nat.beq q.1 pc with
    | true =>
      rw [hb] at e
      exact Or.inr ⟨[], q, r, rfl, Nat.eq_of_beq_eq_true hb, e⟩
    | false =>
      rw [hb] at e
      have e : s_sfx pc (q :: r) = s_sfx pc r := e
      rw [e]
      rcases ih with h | ⟨pre, p, r2, h1, h2, h3⟩
      · exact Or.inl h
      · exact Or.inr ⟨q :: pre, p, r2, by rw [h1]; rfl, h2, h3⟩
theorem s_jmp_ok {n : Nat} {X : s_X} (ih : ∀ (hd : Nat) (KS : s_T) (d : Nat) (M : p_M) (R : s_K) (pc : Nat), s_OK θ R KS hd d M (s_run X n hd KS d M R pc) pc) : ∀ t, s_OK θ R KS hd d M (s_jmp (s_run X n) hd KS d M R t) t := by
  intro t F H L S ls st h hg hr
  have hg : s_if (Nat.beq t hd) (KS F H L S) (s_run X n hd KS d M R t F H L S) = true := hg
  rw [s_if_iff] at hg
  rcases hg with ⟨h1, h2⟩ | ⟨-, h2⟩
  · obtain rfl := Nat.eq_of_beq_eq_true h1
    exact Or.inr ⟨F, H, L, S, ls, st, h, h2, hr, fun Q hq => hq⟩
  · exact ih _ _ _ _ _ _ _ _ _ _ _ _ _ h2 hr
theorem s_call_ok {n : Nat} {X : s_X} (hX : s_XO θ X) (ih : ∀ (hd : Nat) (KS : s_T) (d : Nat) (M : p_M) (R : s_K) (pc : Nat), s_OK θ R KS hd d M (s_run X n hd KS d M R pc) pc) : s_CO θ d (s_call X p_MT (s_run X n) d) := by
  intro m A c F H K vs h hg hF hH hA hc
  cases d with
  | zero => cases hg
  | succ d =>
    have hg : X d m A c F H K (Option.rec (motive := fun _ => Bool) false (s_call2 (s_run X n) A c F H K d) (p_MT[m]?)) = true := hg
    rcases hX _ _ _ _ _ _ _ _ vs h hg hF hH hA hc with hE | ⟨M', dc, F', H', a, v, h2, e1, e2, e3, e4⟩
    · cases eM : p_MT[m]? with
      | none => rw [eM] at hE; cases hE
      | some M' =>
        rw [eM] at hE
        have hE : s_and (Nat.ble c M'.2.2.1) (s_run X n 99999 s_never d M' K 0 F H A []) = true := hE
        rw [s_and_iff] at hE
        have hle := Nat.le_of_ble_eq_true hE.1
        rcases ih _ _ _ _ _ _ _ _ _ _ (lv_args 0 vs) [] h hE.2 ⟨hF, hH, hA, trivial⟩ with ⟨F', H', a, v, h2, g1, g2, g3, g4, g5⟩ | ⟨F', H', L', S', ls', st', h', g1, -⟩
        · exact ⟨M', d, F', H', a, v, h2, rfl, by rw [hc]; exact hle, Nat.le_refl _, g1, g2, g3, g4, g5⟩
        · cases g1
    · exact ⟨M', dc, F', H', a, v, h2, e1, e2, Nat.succ_le_succ e3, e4⟩
theorem s_run_ok {X : s_X} (hX : s_XO θ X) : ∀ (n hd : Nat) (KS : s_T) (d : Nat) (M : p_M) (R : s_K) (pc : Nat), s_OK θ R KS hd d M (s_run X n hd KS d M R pc) pc := by
  intro n
  induction n with
  | zero => intro hd KS d M R pc F H L S ls st h hg; cases hg
  | succ n ih =>
    intro hd KS d M R pc F H L S ls st h hg hr
    have hg : s_and (s_adj M.2.2.2.2.1) (s_blk M (s_jmp (s_run X n) hd KS d M R) (s_call X p_MT (s_run X n) d) R (s_sfx pc M.2.2.2.2.1) F H L S) = true := hg
    rw [s_and_iff] at hg
    rcases s_sfx_ok (pc := pc) (l := M.2.2.2.2.1) with e | ⟨pre, q, r, e1, e2, e3⟩
    · rw [e] at hg
      exact absurd hg.2 (fun h => by cases h)
    · rw [e3] at hg
      rw [← e2]
      exact s_blk_ok (s_jmp_ok ih) (s_call_ok hX ih) hg.1 (q :: r) pre e1 q r rfl _ _ _ _ _ _ _ hg.2 hr
noncomputable def s_blk2 (hd : Nat) (KS : s_T) (M : p_M) (J : s_J) (C : s_CC) (R : s_K) (l : List p_I) : s_T := List.rec (motive := fun _ => s_T) (fun _ _ _ _ => false) (fun q _ ih => Bool.rec (motive := fun _ => s_T) (s_hd q.2.1 M q.1 ih J C R) KS (Nat.beq q.1 hd)) l
noncomputable def s_go (X : s_X) (n : Nat) : s_R := fun hd KS d M R pc F H L S => s_and (s_adj M.2.2.2.2.1) (s_blk2 hd KS M (s_jmp (s_run X n) hd KS d M R) (s_call X p_MT (s_run X n) d) R (s_sfx pc M.2.2.2.2.1) F H L S)
theorem s_blk2_ok (hJ : ∀ t, s_OK θ R KS hd d M (J t) t) (hC : s_CO θ d C) (ha : s_adj M.2.2.2.2.1 = true) : ∀ (l pre : List p_I), M.2.2.2.2.1 = pre ++ l → ∀ q r, l = q :: r → s_OK θ R KS hd d M (s_blk2 hd KS M J C R l) q.1 := by
  intro l
  induction l with
  | nil => intro pre _ q r h; cases h
  | cons q r ih =>
    intro pre hpre q' r' hl
    cases hl
    intro F H L S ls st h hg hr
    have hg : (Bool.rec (motive := fun _ => s_T) (s_hd q.2.1 M q.1 (s_blk2 hd KS M J C R r) J C R) KS (Nat.beq q.1 hd) : s_T) F H L S = true := hg
    cases hb : Nat.beq q.1 hd with
    | true =>
      rw [hb] at hg
      rw [Nat.eq_of_beq_eq_true hb]
      exact Or.inr ⟨F, H, L, S, ls, st, h, hg, hr, fun Q hq => hq⟩
    | false =>
      rw [hb] at hg
      refine s_hd_ok (i := q.2.1) (pc := q.1) (len := q.2.2) (nx := s_blk2 hd KS M J C R r) ?_ hJ hC (by rw [hpre]; exact s_at_ok (by rw [← hpre]; exact ha)) hr hg
      intro h0
      have hadj : ∀ {pre l : List p_I}, s_adj (pre ++ l) = true → s_adj l = true := by
        intro pre
        induction pre with
        | nil => intro l h; exact h
        | cons a p ih => intro l h; exact ih (s_adj_tl h)
      have ha2 : s_adj (q :: r) = true := hadj (by rw [← hpre]; exact ha)
      cases r with
      | nil => intro F H L S ls st h hg; cases hg
      | cons p r2 =>
        have h3 := (s_adj_hd ha2).2
        rw [h3.resolve_left h0]
        exact ih (pre ++ [q]) (by rw [hpre]; simp) p r2 rfl
theorem s_go_ok {X : s_X} (hX : s_XO θ X) (n hd : Nat) (KS : s_T) (d : Nat) (M : p_M) (R : s_K) (pc : Nat) : s_OK θ R KS hd d M (s_go X n hd KS d M R pc) pc := by
  intro F H L S ls st h hg hr
  have hg : s_and (s_adj M.2.2.2.2.1) (s_blk2 hd KS M (s_jmp (s_run X n) hd KS d M R) (s_call X p_MT (s_run X n) d) R (s_sfx pc M.2.2.2.2.1) F H L S) = true := hg
  rw [s_and_iff] at hg
  rcases s_sfx_ok (pc := pc) (l := M.2.2.2.2.1) with e | ⟨pre, q, r, e1, e2, e3⟩
  · rw [e] at hg
    exact absurd hg.2 (fun h => by cases h)
  · rw [e3] at hg
    rw [← e2]
    exact s_blk2_ok (s_jmp_ok (s_run_ok hX n)) (s_call_ok hX (s_run_ok hX n)) hg.1 (q :: r) pre e1 q r rfl _ _ _ _ _ _ _ hg.2 hr
end SR
def s_slk : List (Nat × s_E) → Nat → Option s_E
  | [], _ => none
  | q :: r, k => if Nat.beq q.1 k then some q.2 else s_slk r k
def s_sub (σ : List (Nat × s_E)) : s_E → s_E
  | .leaf z => .leaf z
  | .branch 0 l r => (s_slk σ (s_key l)).getD (.branch 0 l r)
  | .branch (op + 1) l r => .branch (op + 1) (s_sub σ l) (s_sub σ r)
def s_th (θ : Nat → Int32) (σ : List (Nat × s_E)) : Nat → Int32 := fun k => match s_slk σ k with
  | some e => s_ev θ e
  | none => θ k
noncomputable def s_vle2 (σ : List (Nat × s_E)) (v : s_V) (t : Nat) (e : s_E) : Bool := s_if (Nat.beq t 0) true (s_if (Nat.beq t 1) (s_and (Nat.beq (s_t v) 1) (s_eqE (s_sub σ e) (s_x v))) (s_if (Nat.beq t 7) (s_isi (s_t v)) (s_and (Nat.beq (s_t v) t) (s_if (Nat.beq t 2) (s_eqE e (s_x v)) (s_if (Nat.ble 16 t) true (Nat.beq t 4))))))
noncomputable def s_vle1 (F : s_F) (v : s_V) (z : Int) : Bool := Sum.rec (motive := fun _ => Bool) (fun y => s_eqz y z) (fun q => s_and (Nat.beq q.1 1) (s_and (s_eqz (s_iv F q.2).1 z) (s_eqz (s_iv F q.2).2 z))) v
noncomputable def s_vle (σ : List (Nat × s_E)) (F : s_F) (v w : s_V) : Bool := Sum.rec (motive := fun _ => Bool) (s_vle1 F v) (fun q => s_vle2 σ v q.1 q.2) w
noncomputable def s_lvs (P : s_V → Bool) (t : Lean.RArray s_V) : Nat → Nat → Bool := Lean.RArray.rec (motive := fun _ => Nat → Nat → Bool) (fun v lo hi => s_if (Nat.ble hi lo) true (P v)) (fun p _ _ il ir lo hi => s_if (Nat.ble hi lo) true (s_and (il lo (min p hi)) (ir (max p lo) hi))) t
noncomputable def s_tle (σ : List (Nat × s_E)) (F : s_F) (t u : Lean.RArray s_V) : Nat → Nat → Bool := Lean.RArray.rec (motive := fun _ => Nat → Nat → Bool) (fun w lo hi => s_if (Nat.ble hi lo) true (s_if (Nat.beq (s_t w) 0) true (s_lvs (fun v => s_vle σ F v w) t lo hi))) (fun p _ _ il ir lo hi => s_if (Nat.ble hi lo) true (s_and (il lo (min p hi)) (ir (max p lo) hi))) u
noncomputable def s_unk (u : Lean.RArray s_V) (n : Nat) : Bool := Lean.RArray.rec (motive := fun _ => Bool) (fun w => Nat.beq (s_t w) 0) (fun p _ _ il ir => s_and (s_if (Nat.ble p n) true il) ir) u
noncomputable def s_cck (σ : List (Nat × s_E)) (F : s_F) (c e : s_A) : Bool := s_and (Nat.beq c.1 e.1) (s_and (Nat.beq c.2.1 e.2.1) (s_and (Nat.beq c.2.2.1 e.2.2.1) (s_and (s_tle σ F c.2.2.2 e.2.2.2 0 e.2.2.1) (s_unk e.2.2.2 e.2.2.1))))
noncomputable def s_cle (σ : List (Nat × s_E)) (F : s_F) (t u : Lean.RArray s_A) : Nat → Nat → Bool := Lean.RArray.rec (motive := fun _ => Nat → Nat → Bool) (fun e lo hi => s_if (Nat.ble hi lo) true (s_if (Nat.beq e.1 9) true (s_and (Nat.beq hi (Nat.succ lo)) (s_cck σ F (Lean.RArray.get t lo) e)))) (fun p _ _ il ir lo hi => s_if (Nat.ble hi lo) true (s_and (il lo (min p hi)) (ir (max p lo) hi))) u
noncomputable def s_unkc (u : Lean.RArray s_A) (n : Nat) : Bool := Lean.RArray.rec (motive := fun _ => Bool) (fun e => Nat.beq e.1 9) (fun p _ _ il ir => s_and (s_if (Nat.ble p n) true il) ir) u
noncomputable def s_hle (σ : List (Nat × s_E)) (F : s_F) (H I : s_H) : Bool := s_and (Nat.beq H.2.1 I.2.1) (s_and (Nat.beq H.2.2 I.2.2) (s_and (s_cle σ F H.1 I.1 0 I.2.1) (s_unkc I.1 I.2.1)))
noncomputable def s_lle (σ : List (Nat × s_E)) (F : s_F) : s_L → s_L → Bool
  | _, [] => true
  | [], w :: r => s_and (Nat.beq (s_t w) 0) (s_lle σ F [] r)
  | v :: l, w :: r => s_and (s_vle σ F v w) (s_lle σ F l r)
noncomputable def s_sle (σ : List (Nat × s_E)) (F : s_F) : s_L → s_L → Bool
  | [], [] => true
  | v :: l, w :: r => s_and (Nat.ble 1 (s_t w)) (s_and (s_vle σ F v w) (s_sle σ F l r))
  | _, _ => false
noncomputable def s_fle (σ : List (Nat × s_E)) (F G : s_F) : Bool := List.rec (motive := fun _ => Bool) true (fun f _ ih => s_and (s_lez f.2.1 (s_iv F (s_sub σ f.1)).1) (s_and (s_lez (s_iv F (s_sub σ f.1)).2 f.2.2) ih)) G
noncomputable def s_mat (σ : List (Nat × s_E)) (F : s_F) (H : s_H) (L S : s_L) (G : s_F) (I : s_H) (L' S' : s_L) : Bool := s_and (s_fle σ F G) (s_and (s_hle σ F H I) (s_and (s_lle σ F L L') (s_sle σ F S S')))
section SM
variable {θ : Nat → Int32} {σ : List (Nat × s_E)} {F G : s_F}
theorem s_sub_ok {e : s_E} : s_ev θ (s_sub σ e) = s_ev (s_th θ σ) e := by
  induction e with
  | leaf z => rfl
  | branch op l r il ir =>
    cases op with
    | zero =>
      show s_ev θ ((s_slk σ (s_key l)).getD (.branch 0 l r)) = s_th θ σ (s_key l)
      unfold s_th
      cases s_slk σ (s_key l) with
      | none => rfl
      | some e => rfl
    | succ n =>
      show s_ov (n + 1) (s_ev θ (s_sub σ l)) (s_ev θ (s_sub σ r)) = s_ov (n + 1) (s_ev (s_th θ σ) l) (s_ev (s_th θ σ) r)
      rw [il, ir]
theorem s_vle_nz {v w : s_V} (hg : s_vle σ F v w = true) (hw : s_t w ≠ 0) : s_t v ≠ 0 := by
  cases w with
  | inl z =>
    cases v with
    | inl y => show (1 : Nat) ≠ 0; decide
    | inr q =>
      have hg : s_and (Nat.beq q.1 1) (s_and (s_eqz (s_iv F q.2).1 z) (s_eqz (s_iv F q.2).2 z)) = true := hg
      rw [s_and_iff] at hg
      have := Nat.eq_of_beq_eq_true hg.1
      show q.1 ≠ 0
      omega
  | inr q =>
    obtain ⟨t, e⟩ := q
    have hw : t ≠ 0 := hw
    have hg : s_vle2 σ v t e = true := hg
    unfold s_vle2 at hg
    rw [s_if_iff] at hg
    rcases hg with ⟨h0, -⟩ | ⟨-, hg⟩
    · exact absurd (Nat.eq_of_beq_eq_true h0) hw
    rw [s_if_iff] at hg
    rcases hg with ⟨-, hg⟩ | ⟨-, hg⟩
    · rw [s_and_iff] at hg
      have := Nat.eq_of_beq_eq_true hg.1
      omega
    rw [s_if_iff] at hg
    rcases hg with ⟨-, hg⟩ | ⟨-, hg⟩
    · unfold s_isi at hg
      rw [s_if_iff] at hg
      rcases hg with ⟨h, -⟩ | ⟨-, h⟩ <;> have := Nat.eq_of_beq_eq_true h <;> omega
    · rw [s_and_iff] at hg
      have := Nat.eq_of_beq_eq_true hg.1
      omega
theorem s_vle_ok {v w : s_V} {x : Value} (hF : s_FO θ F) (hv : s_v θ v x) (hg : s_vle σ F v w = true) : s_v (s_th θ σ) w x := by
  cases w with
  | inl z =>
    cases v with
    | inl y =>
      have hg : s_eqz y z = true := hg
      rw [s_eqz_iff.mp hg] at hv
      exact hv
    | inr q =>
      have hg : s_and (Nat.beq q.1 1) (s_and (s_eqz (s_iv F q.2).1 z) (s_eqz (s_iv F q.2).2 z)) = true := hg
      rw [s_and_iff, s_and_iff] at hg
      have e1 := s_v_1 (a := .inr q) hg.1 hv
      have h2 := s_iv_ok (e := q.2) hF
      rw [s_eqz_iff.mp hg.2.1, s_eqz_iff.mp hg.2.2] at h2
      have e2 : (s_ev θ q.2).toInt = z := by omega
      refine ⟨by rw [← e2]; exact x_I32 _, ?_⟩
      rw [e1, ← e2, Int32.ofInt_toInt]; rfl
  | inr q =>
    obtain ⟨t, e⟩ := q
    have hg : s_vle2 σ v t e = true := hg
    unfold s_vle2 at hg
    rw [s_if_iff] at hg
    rcases hg with ⟨h0, -⟩ | ⟨-, hg⟩
    · rw [Nat.eq_of_beq_eq_true h0]; trivial
    rw [s_if_iff] at hg
    rcases hg with ⟨h0, hg⟩ | ⟨-, hg⟩
    · rw [Nat.eq_of_beq_eq_true h0]
      rw [s_and_iff] at hg
      show x = .int (s_ev (s_th θ σ) e)
      rw [← s_sub_ok, s_eqE_ok hg.2]
      exact s_v_1 hg.1 hv
    rw [s_if_iff] at hg
    rcases hg with ⟨h0, hg⟩ | ⟨-, hg⟩
    · rw [Nat.eq_of_beq_eq_true h0]
      exact s_v_i hg hv
    rw [s_and_iff, s_if_iff] at hg
    obtain ⟨h1, hg⟩ := hg
    rcases hg with ⟨h0, hg⟩ | ⟨-, hg⟩
    · have e2 := Nat.eq_of_beq_eq_true h0
      have e1 := Nat.eq_of_beq_eq_true h1
      have e3 := s_eqE_ok hg
      cases v with
      | inl y => have e1 : (1 : Nat) = t := e1; omega
      | inr q =>
        obtain ⟨t1, e4⟩ := q
        have e1 : t1 = t := e1
        have e3 : e = e4 := e3
        subst e1 e2 e3
        exact hv
    rw [s_if_iff] at hg
    rcases hg with ⟨h0, -⟩ | ⟨-, hg⟩
    · have h16 := Nat.le_of_ble_eq_true h0
      have e1 := Nat.eq_of_beq_eq_true h1
      obtain ⟨k, rfl⟩ : ∃ k, t = k + 16 := ⟨t - 16, by omega⟩
      have := s_v_ref' (a := v) (by rw [e1]; exact h0) hv
      rw [e1] at this
      exact this
    · have e2 := Nat.eq_of_beq_eq_true hg
      subst e2
      exact s_v_null h1 hv
theorem s_lvs_ok {P : s_V → Bool} {t : Lean.RArray s_V} : ∀ {lo hi i : Nat}, s_lvs P t lo hi = true → lo ≤ i → i < hi → P (t.get i) = true := by
  induction t with
  | leaf v =>
    intro lo hi i h h1 h2
    have h : s_if (Nat.ble hi lo) true (P v) = true := h
    rw [s_if_iff] at h
    rcases h with ⟨h, -⟩ | ⟨-, h⟩
    · have := Nat.le_of_ble_eq_true h; omega
    · exact h
  | branch p l r il ir =>
    intro lo hi i h h1 h2
    have h : s_if (Nat.ble hi lo) true (s_and (s_lvs P l lo (min p hi)) (s_lvs P r (max p lo) hi)) = true := h
    rw [s_if_iff, s_and_iff] at h
    rcases h with ⟨h, -⟩ | ⟨-, h⟩
    · have := Nat.le_of_ble_eq_true h; omega
    · rw [s_gb]
      split
      · exact ir h.2 (by omega) h2
      · exact il h.1 h1 (by omega)
theorem s_tle_ok {t u : Lean.RArray s_V} : ∀ {lo hi i : Nat}, s_tle σ F t u lo hi = true → lo ≤ i → i < hi → s_t (u.get i) = 0 ∨ s_vle σ F (t.get i) (u.get i) = true := by
  induction u with
  | leaf w =>
    intro lo hi i h h1 h2
    have h : s_if (Nat.ble hi lo) true (s_if (Nat.beq (s_t w) 0) true (s_lvs (fun v => s_vle σ F v w) t lo hi)) = true := h
    rw [s_if_iff, s_if_iff] at h
    rcases h with ⟨h, -⟩ | ⟨-, ⟨h, -⟩ | ⟨-, h⟩⟩
    · have := Nat.le_of_ble_eq_true h; omega
    · exact Or.inl (Nat.eq_of_beq_eq_true h)
    · exact Or.inr (s_lvs_ok (P := fun v => s_vle σ F v w) (t := t) h h1 h2)
  | branch p l r il ir =>
    intro lo hi i h h1 h2
    have h : s_if (Nat.ble hi lo) true (s_and (s_tle σ F t l lo (min p hi)) (s_tle σ F t r (max p lo) hi)) = true := h
    rw [s_if_iff, s_and_iff] at h
    rcases h with ⟨h, -⟩ | ⟨-, h⟩
    · have := Nat.le_of_ble_eq_true h; omega
    · rw [s_gb]
      split
      · exact ir h.2 (by omega) h2
      · exact il h.1 h1 (by omega)
theorem s_unk_ok {u : Lean.RArray s_V} {n : Nat} : ∀ {i : Nat}, s_unk u n = true → n ≤ i → s_t (u.get i) = 0 := by
  induction u with
  | leaf w => intro i h _; exact Nat.eq_of_beq_eq_true h
  | branch p l r il ir =>
    intro i h h1
    have h : s_and (s_if (Nat.ble p n) true (s_unk l n)) (s_unk r n) = true := h
    rw [s_and_iff, s_if_iff] at h
    rw [s_gb]
    split
    · exact ir h.2 h1
    · rcases h.1 with ⟨h, -⟩ | ⟨-, h⟩
      · have := Nat.le_of_ble_eq_true h; omega
      · exact il h h1
theorem s_cck_ok {c e : s_A} {d : p_C} (hF : s_FO θ F) (hc : s_cr θ c d) (hg : s_cck σ F c e = true) : s_cr (s_th θ σ) e d := by
  unfold s_cck at hg
  rw [s_and_iff, s_and_iff, s_and_iff, s_and_iff] at hg
  obtain ⟨g1, g2, g3, g4, g5⟩ := hg
  obtain ⟨c1, c2, c3, c4⟩ := hc
  have e3 := Nat.eq_of_beq_eq_true g3
  refine ⟨by rw [c1, Nat.eq_of_beq_eq_true g1], by rw [c2, Nat.eq_of_beq_eq_true g2], by rw [c3, e3], fun i hi => ?_⟩
  by_cases hl : i < e.2.2.1
  · rcases s_tle_ok g4 (Nat.zero_le i) hl with h0 | h0
    · exact absurd h0 hi
    · obtain ⟨v, h1, h2⟩ := c4 i (s_vle_nz h0 hi)
      exact ⟨v, h1, s_vle_ok hF h2 h0⟩
  · exact absurd (s_unk_ok g5 (Nat.not_lt.mp hl)) hi
theorem s_cle_ok {t u : Lean.RArray s_A} : ∀ {lo hi i : Nat}, s_cle σ F t u lo hi = true → lo ≤ i → i < hi → (u.get i).1 = 9 ∨ s_cck σ F (t.get i) (u.get i) = true := by
  induction u with
  | leaf e =>
    intro lo hi i h h1 h2
    have h : s_if (Nat.ble hi lo) true (s_if (Nat.beq e.1 9) true (s_and (Nat.beq hi (Nat.succ lo)) (s_cck σ F (Lean.RArray.get t lo) e))) = true := h
    rw [s_if_iff, s_if_iff, s_and_iff] at h
    rcases h with ⟨h, -⟩ | ⟨-, ⟨h, -⟩ | ⟨-, h3, h⟩⟩
    · have := Nat.le_of_ble_eq_true h; omega
    · exact Or.inl (Nat.eq_of_beq_eq_true h)
    · have := Nat.eq_of_beq_eq_true h3
      have e : i = lo := by omega
      rw [e]; exact Or.inr h
  | branch p l r il ir =>
    intro lo hi i h h1 h2
    have h : s_if (Nat.ble hi lo) true (s_and (s_cle σ F t l lo (min p hi)) (s_cle σ F t r (max p lo) hi)) = true := h
    rw [s_if_iff, s_and_iff] at h
    rcases h with ⟨h, -⟩ | ⟨-, h⟩
    · have := Nat.le_of_ble_eq_true h; omega
    · rw [s_gb]
      split
      · exact ir h.2 (by omega) h2
      · exact il h.1 h1 (by omega)
theorem s_unkc_ok {u : Lean.RArray s_A} {n : Nat} : ∀ {i : Nat}, s_unkc u n = true → n ≤ i → (u.get i).1 = 9 := by
  induction u with
  | leaf w => intro i h _; exact Nat.eq_of_beq_eq_true h
  | branch p l r il ir =>
    intro i h h1
    have h : s_and (s_if (Nat.ble p n) true (s_unkc l n)) (s_unkc r n) = true := h
    rw [s_and_iff, s_if_iff] at h
    rw [s_gb]
    split
    · exact ir h.2 h1
    · rcases h.1 with ⟨h, -⟩ | ⟨-, h⟩
      · have := Nat.le_of_ble_eq_true h; omega
      · exact il h h1
theorem s_hle_ok {H I : s_H} {h : p_H} (hσ : s_th θ σ = θ) (h9 : (I.1.get 0).1 = 9) (hF : s_FO θ F) (hH : s_hr θ H h) (hg : s_hle σ F H I = true) : s_hr (s_th θ σ) I h := by
  unfold s_hle at hg
  rw [s_and_iff, s_and_iff, s_and_iff] at hg
  obtain ⟨g1, g2, g3, g4⟩ := hg
  obtain ⟨c1, c2, c3⟩ := hH
  refine ⟨by rw [c1, Nat.eq_of_beq_eq_true g1], ⟨by rw [← Nat.eq_of_beq_eq_true g2]; exact c2.1, h9, by rw [hσ]; exact c2.2.2⟩, fun a ha => ?_⟩
  by_cases hl : a < I.2.1
  · rcases s_cle_ok g3 (Nat.zero_le a) hl with h0 | h0
    · exact absurd h0 ha
    · have h1 : (H.1.get a).1 = (I.1.get a).1 := by
        unfold s_cck at h0
        rw [s_and_iff] at h0
        exact Nat.eq_of_beq_eq_true h0.1
      obtain ⟨d, h2, h3⟩ := c3 a (by rw [h1]; exact ha)
      exact ⟨d, h2, s_cck_ok hF h3 h0⟩
  · exact absurd (s_unkc_ok g4 (Nat.not_lt.mp hl)) ha
theorem s_lle_at : ∀ {L L' : s_L} {i : Nat} {w : s_V}, s_lle σ F L L' = true → L'[i]? = some w → s_t w ≠ 0 → ∃ v, L[i]? = some v ∧ s_vle σ F v w = true := by
  intro L L'
  induction L' generalizing L with
  | nil => intro i w _ h; simp at h
  | cons u r ih =>
    intro i w hg hw h0
    cases L with
    | nil =>
      have hg : s_and (Nat.beq (s_t u) 0) (s_lle σ F [] r) = true := by simpa only [s_lle] using hg
      rw [s_and_iff] at hg
      cases i with
      | zero => simp at hw; subst hw; exact absurd (Nat.eq_of_beq_eq_true hg.1) h0
      | succ i =>
        obtain ⟨v, h1, -⟩ := ih hg.2 (i := i) (by simpa using hw) h0
        simp at h1
    | cons v l =>
      have hg : s_and (s_vle σ F v u) (s_lle σ F l r) = true := by simpa only [s_lle] using hg
      rw [s_and_iff] at hg
      cases i with
      | zero => simp at hw; subst hw; exact ⟨v, by simp, hg.1⟩
      | succ i =>
        obtain ⟨x, h1, h2⟩ := ih hg.2 (i := i) (by simpa using hw) h0
        exact ⟨x, by simpa using h1, h2⟩
theorem s_lle_ok {L L' : s_L} {ls : p_Ls} (hF : s_FO θ F) (hL : s_lr θ L ls) (hg : s_lle σ F L L' = true) : s_lr (s_th θ σ) L' ls := by
  intro i w hw h0
  obtain ⟨v, h1, h2⟩ := s_lle_at hg hw h0
  obtain ⟨x, h3, h4⟩ := hL i v h1 (s_vle_nz h2 h0)
  exact ⟨x, h3, s_vle_ok hF h4 h2⟩
theorem s_sle_ok : ∀ {S S' : s_L} {st : List Value}, s_FO θ F → s_sr θ S st → s_sle σ F S S' = true → s_sr (s_th θ σ) S' st := by
  intro S
  induction S with
  | nil =>
    intro S' st hF hS hg
    cases S' with
    | nil => rw [s_sr_nil hS]; trivial
    | cons w r => simp [s_sle] at hg
  | cons v l ih =>
    intro S' st hF hS hg
    cases S' with
    | nil => simp [s_sle] at hg
    | cons w r =>
      have hg : s_and (Nat.ble 1 (s_t w)) (s_and (s_vle σ F v w) (s_sle σ F l r)) = true := by simpa only [s_sle] using hg
      rw [s_and_iff, s_and_iff] at hg
      obtain ⟨x, V, rfl, h1, h2⟩ := s_sr_cons hS
      exact ⟨⟨s_tnz hg.1, s_vle_ok hF h1.2 hg.2.1⟩, ih hF h2 hg.2.2⟩
theorem s_fle_ok : ∀ {G : s_F}, s_FO θ F → s_fle σ F G = true → s_FO (s_th θ σ) G := by
  intro G
  induction G with
  | nil => intro _ _ f hf; cases hf
  | cons g r ih =>
    intro hF hg
    have hg : s_and (s_lez g.2.1 (s_iv F (s_sub σ g.1)).1) (s_and (s_lez (s_iv F (s_sub σ g.1)).2 g.2.2) (s_fle σ F r)) = true := hg
    rw [s_and_iff, s_and_iff] at hg
    have hz : ∀ {x y : Int}, s_lez x y = true → x ≤ y := fun {x y} h => by
      have := (s_b_f (s_ltz_iff (x := y) (y := x))).mp h
      omega
    intro f hf
    rcases List.mem_cons.mp hf with rfl | hf
    · have h1 := s_iv_ok (e := s_sub σ f.1) hF
      rw [s_sub_ok] at h1
      have h2 := hz hg.1
      have h3 := hz hg.2.1
      exact ⟨by omega, by omega⟩
    · exact ih hF hg.2.2 f hf
theorem s_mat_ok {H I : s_H} {L S L' S' : s_L} {ls : p_Ls} {st : List Value} {h : p_H} (hσ : s_th θ σ = θ) (h9 : (I.1.get 0).1 = 9) (hr : s_Rl θ F H L S ls st h) (hg : s_mat σ F H L S G I L' S' = true) : s_Rl (s_th θ σ) G I L' S' ls st h := by
  unfold s_mat at hg
  rw [s_and_iff, s_and_iff, s_and_iff] at hg
  obtain ⟨h1, h2, h3, h4⟩ := hr
  exact ⟨s_fle_ok h1 hg.1, s_hle_ok hσ h9 h1 h2 hg.2.1, s_lle_ok h1 h3 hg.2.2.1, s_sle_ok h1 h4 hg.2.2.2⟩
theorem s_th0 : s_th θ [] = θ := rfl
end SM

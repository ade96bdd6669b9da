def s_an (θ : Nat → Int32) (a : s_V) (v : Option Value) : Prop := match v with
  | none => s_t a = 8
  | some w => s_sv θ a w
def s_Rl (θ : Nat → Int32) (F : s_F) (H : s_H) (L S : s_L) (ls : p_Ls) (st : List Value) (h : p_H) : Prop := s_FO θ F ∧ s_hr θ H h ∧ s_lr θ L ls ∧ s_sr θ S st
def s_Out (θ : Nat → Int32) (R : s_K) (KS : s_T) (hd d : Nat) (M : p_M) (pc : Nat) (ls : p_Ls) (st : List Value) (h : p_H) : Prop :=
  (∃ F H a v h2, R F H a = true ∧ s_FO θ F ∧ s_hr θ H h2 ∧ s_an θ a v ∧ p_wp p_GT p_MT d M pc ls st h (fun v' h' => v' = v ∧ h' = h2)) ∨
  (∃ F H L S ls' st' h', KS F H L S = true ∧ s_Rl θ F H L S ls' st' h' ∧ ∀ Q, p_wp p_GT p_MT d M hd ls' st' h' Q → p_wp p_GT p_MT d M pc ls st h Q)
def s_OK (θ : Nat → Int32) (R : s_K) (KS : s_T) (hd d : Nat) (M : p_M) (nx : s_T) (pc : Nat) : Prop := ∀ F H L S ls st h, nx F H L S = true → s_Rl θ F H L S ls st h → s_Out θ R KS hd d M pc ls st h
def s_CO (θ : Nat → Int32) (d : Nat) (C : s_CC) : Prop := ∀ m A c F H K vs h, C m A c F H K = true → s_FO θ F → s_hr θ H h → s_lr θ A (lv_args 0 vs) → p_cat vs = c → ∃ M' dc F' H' a v h2, p_MT[m]? = some M' ∧ p_cat vs ≤ M'.2.2.1 ∧ dc + 1 ≤ d ∧ K F' H' a = true ∧ s_FO θ F' ∧ s_hr θ H' h2 ∧ s_an θ a v ∧ p_wp p_GT p_MT dc M' 0 (lv_args 0 vs) [] h (fun v' h' => v' = v ∧ h' = h2)
section SK
variable {θ : Nat → Int32} {R : s_K} {KS : s_T} {hd d : Nat} {M : p_M} {pc : Nat} {ls : p_Ls} {st : List Value} {h : p_H} {i : Instr} {len : Nat} {nx : s_T} {J : s_J} {C : s_CC} {F : s_F} {H : s_H} {L S : s_L} {n : Nat}
theorem s_Out.step (hat : p_at pc M.2.2.2.2.1 = some (i, len)) {pc' : Nat} {ls' : p_Ls} {st' : List Value} {h' : p_H} (hs : p_step p_GT p_MT M i pc ls st h = some (.inl (pc', ls', st', h'))) (hO : s_Out θ R KS hd d M pc' ls' st' h') : s_Out θ R KS hd d M pc ls st h := by
  rcases hO with ⟨F, H, a, v, h2, g1, g2, g3, g4, g5⟩ | ⟨F, H, L, S, ls1, st1, h1, g1, g2, g3⟩
  · exact Or.inl ⟨F, H, a, v, h2, g1, g2, g3, g4, p_wp.step hat hs g5⟩
  · exact Or.inr ⟨F, H, L, S, ls1, st1, h1, g1, g2, fun Q hq => p_wp.step hat hs (g3 Q hq)⟩
theorem s_Out.call (hat : p_at pc M.2.2.2.2.1 = some (i, len)) {m : Nat} {as rest : List Value} {A : s_L} {c : Nat} {K : s_K} (hs : p_step p_GT p_MT M i pc ls st h = some (.inr (.inr (m, as, rest)))) (hC : s_CO θ d C) (hg : C m A c F H K = true) (hF : s_FO θ F) (hH : s_hr θ H h) (hA : s_lr θ A (lv_args 0 as)) (hc : p_cat as = c)
    (hk : ∀ F' H' a v h2, K F' H' a = true → s_FO θ F' → s_hr θ H' h2 → s_an θ a v → s_Out θ R KS hd d M (pc + 3) ls (v.toList ++ rest) h2) : s_Out θ R KS hd d M pc ls st h := by
  obtain ⟨M', dc, F', H', a, v, h2, e1, e2, e3, e4, e5, e6, e7, e8⟩ := hC m A c F H K as h hg hF hH hA hc
  rcases hk F' H' a v h2 e4 e5 e6 e7 with ⟨F, H, a, w, h3, g1, g2, g3, g4, g5⟩ | ⟨F, H, L, S, ls1, st1, h1, g1, g2, g3⟩
  · refine Or.inl ⟨F, H, a, w, h3, g1, g2, g3, g4, p_wp.call hat hs e1 e2 e3 e8 (fun v' h' hq => ?_)⟩
    rw [hq.1, hq.2]; exact g5
  · refine Or.inr ⟨F, H, L, S, ls1, st1, h1, g1, g2, fun Q hq => p_wp.call hat hs e1 e2 e3 e8 (fun v' h' hq' => ?_)⟩
    rw [hq'.1, hq'.2]; exact g3 Q hq
theorem s_tz {v : s_V} (h : Nat.beq (s_t v) 1 = true) : s_t v ≠ 0 := by rw [Nat.eq_of_beq_eq_true h]; decide
theorem s_tzi {v : s_V} (h : s_isi (s_t v) = true) : s_t v ≠ 0 := by intro q; rw [q] at h; cases h
theorem s_tzl {v : s_V} (h : s_long (s_t v) = true) : s_t v ≠ 0 := by intro q; rw [q] at h; cases h
theorem s_tzr {v : s_V} (h : s_isr (s_t v) = true) : s_t v ≠ 0 := by intro q; rw [q] at h; cases h
theorem s_tzo {v : s_V} (h : s_one (s_t v) = true) : s_t v ≠ 0 := by intro q; rw [q] at h; cases h
theorem s_k_push (hn : s_OK θ R KS hd d M nx (pc + n)) (hat : p_at pc M.2.2.2.2.1 = some (i, len)) (hr : s_Rl θ F H L S ls st h) {a : s_V} {v : Value} (hs : p_step p_GT p_MT M i pc ls st h = some (.inl (pc + n, ls, v :: st, h))) (hv : s_sv θ a v) (hg : nx F H L (a :: S) = true) : s_Out θ R KS hd d M pc ls st h :=
  s_Out.step hat hs (hn _ _ _ _ _ _ _ hg ⟨hr.1, hr.2.1, hr.2.2.1, hv, hr.2.2.2⟩)
theorem s_k_w (hn : s_OK θ R KS hd d M nx (pc + n)) (hat : p_at pc M.2.2.2.2.1 = some (i, len)) (hr : s_Rl θ F H L S ls st h) {z : Int} (hs : p_step p_GT p_MT M i pc ls st h = some (.inl (pc + n, ls, .int (Int32.ofInt z) :: st, h))) (hg : s_w z (s_nz nx F H L S) = true) : s_Out θ R KS hd d M pc ls st h := by
  obtain ⟨z', g1, g2, g3⟩ := s_w_eq z (s_nz nx F H L S)
  rw [g3] at hg
  exact s_k_push hn hat hr (a := .inl z') hs ⟨by show (1 : Nat) ≠ 0; decide, g1, by rw [g2]⟩ hg
theorem s_8 {z : Int} (h1 : -128 ≤ z) (h2 : z < 128) : (Int8.ofInt z).toInt32 = Int32.ofInt z := by
  rw [← Int8.ofInt_toInt (Int8.ofInt z)]
  apply Int32.toInt_inj.mp
  rw [Int8.toInt_toInt32, Int8.ofInt_toInt, s_I_eq ⟨by omega, by omega⟩]
  exact Int8.toInt_ofInt_of_le (by omega) (by omega)
theorem s_16 {z : Int} (h1 : -32768 ≤ z) (h2 : z < 32768) : (Int16.ofInt z).toInt32 = Int32.ofInt z := by
  apply Int32.toInt_inj.mp
  rw [Int16.toInt_toInt32, s_I_eq ⟨by omega, by omega⟩]
  exact Int16.toInt_ofInt_of_le (by omega) (by omega)
theorem s_pk_ok {x t : Nat} {P : List p_P} {K : Nat → Int → Bool} (h : s_pk x t P K = true) : ∃ q, p_pk x t P = some q ∧ K q.1 q.2 = true := by
  unfold s_pk at h
  cases e : p_pk x t P with
  | none => rw [e] at h; cases h
  | some q => rw [e] at h; exact ⟨q, rfl, h⟩
theorem s_k_ldi {k : Nat} (hn : s_OK θ R KS hd d M nx (pc + n)) (hat : p_at pc M.2.2.2.2.1 = some (i, len)) (hr : s_Rl θ F H L S ls st h) (hs : ∀ x, p_lk k ls = some (.int x) → p_step p_GT p_MT M i pc ls st h = some (.inl (pc + n, ls, .int x :: st, h))) (hg : s_nth L k (s_nwi nx F H L S) = true) : s_Out θ R KS hd d M pc ls st h := by
  obtain ⟨a, ha, hg⟩ := s_nth_ok hg
  rw [s_nwi, s_and_iff] at hg
  obtain ⟨v, hv1, hv2⟩ := hr.2.2.1 k a ha (s_tzi hg.1)
  obtain ⟨x, rfl⟩ := s_v_i hg.1 hv2
  exact s_k_push hn hat hr (hs x hv1) ⟨s_tzi hg.1, hv2⟩ hg.2
theorem s_k_ldl {k : Nat} (hn : s_OK θ R KS hd d M nx (pc + n)) (hat : p_at pc M.2.2.2.2.1 = some (i, len)) (hr : s_Rl θ F H L S ls st h) (hs : ∀ x, p_lk k ls = some (.long x) → p_step p_GT p_MT M i pc ls st h = some (.inl (pc + n, ls, .long x :: st, h))) (hg : s_nth L k (s_nwl nx F H L S) = true) : s_Out θ R KS hd d M pc ls st h := by
  obtain ⟨a, ha, hg⟩ := s_nth_ok hg
  rw [s_nwl, s_and_iff] at hg
  obtain ⟨v, hv1, hv2⟩ := hr.2.2.1 k a ha (s_tzl hg.1)
  obtain ⟨x, rfl⟩ := s_v_l hg.1 hv2
  exact s_k_push hn hat hr (hs x hv1) ⟨s_tzl hg.1, hv2⟩ hg.2
theorem s_k_lda {k : Nat} (hn : s_OK θ R KS hd d M nx (pc + n)) (hat : p_at pc M.2.2.2.2.1 = some (i, len)) (hr : s_Rl θ F H L S ls st h) (hs : ∀ x, p_lk k ls = some x → (x = .null ∨ ∃ a, x = .ref a) → p_step p_GT p_MT M i pc ls st h = some (.inl (pc + n, ls, x :: st, h))) (hg : s_nth L k (s_nwa nx F H L S) = true) : s_Out θ R KS hd d M pc ls st h := by
  obtain ⟨a, ha, hg⟩ := s_nth_ok hg
  rw [s_nwa, s_and_iff] at hg
  obtain ⟨v, hv1, hv2⟩ := hr.2.2.1 k a ha (s_tzr hg.1)
  exact s_k_push hn hat hr (hs v hv1 (s_v_r hg.1 hv2)) ⟨s_tzr hg.1, hv2⟩ hg.2
theorem s_k_sti {k : Nat} (hn : s_OK θ R KS hd d M nx (pc + n)) (hat : p_at pc M.2.2.2.2.1 = some (i, len)) (hr : s_Rl θ F H L S ls st h) (hs : ∀ x V, k < M.2.2.1 → st = .int x :: V → p_step p_GT p_MT M i pc ls st h = some (.inl (pc + n, p_s1 ls k (.int x), V, h))) (hg : s_sti k M pc nx J C R F H L S = true) : s_Out θ R KS hd d M pc ls st h := by
  obtain ⟨a, A, v, V, rfl, rfl, ⟨ha0, ha⟩, hA, hg⟩ := s_p1_ok hr.2.2.2 hg
  rw [s_sti1, s_and_iff, s_and_iff] at hg
  have hk := Nat.le_of_ble_eq_true hg.2.1
  obtain ⟨L', g1, g2⟩ := hr.2.2.1.st1 ha hg.2.2
  obtain ⟨x, rfl⟩ := s_v_i hg.1 ha
  exact s_Out.step hat (hs x V hk rfl) (hn _ _ _ _ _ _ _ g1 ⟨hr.1, hr.2.1, g2, hA⟩)
theorem s_k_sta {k : Nat} (hn : s_OK θ R KS hd d M nx (pc + n)) (hat : p_at pc M.2.2.2.2.1 = some (i, len)) (hr : s_Rl θ F H L S ls st h) (hs : ∀ v V, k < M.2.2.1 → st = v :: V → (v = .null ∨ ∃ x, v = .ref x) → p_step p_GT p_MT M i pc ls st h = some (.inl (pc + n, p_s1 ls k v, V, h))) (hg : s_sta k M pc nx J C R F H L S = true) : s_Out θ R KS hd d M pc ls st h := by
  obtain ⟨a, A, v, V, rfl, rfl, ⟨ha0, ha⟩, hA, hg⟩ := s_p1_ok hr.2.2.2 hg
  rw [s_sta1, s_and_iff, s_and_iff] at hg
  have hk := Nat.le_of_ble_eq_true hg.2.1
  obtain ⟨L', g1, g2⟩ := hr.2.2.1.st1 ha hg.2.2
  exact s_Out.step hat (hs v V hk rfl (s_v_r hg.1 ha)) (hn _ _ _ _ _ _ _ g1 ⟨hr.1, hr.2.1, g2, hA⟩)
theorem s_k_stl {k : Nat} (hn : s_OK θ R KS hd d M nx (pc + n)) (hat : p_at pc M.2.2.2.2.1 = some (i, len)) (hr : s_Rl θ F H L S ls st h) (hs : ∀ x V, k + 1 < M.2.2.1 → st = .long x :: V → p_step p_GT p_MT M i pc ls st h = some (.inl (pc + n, p_s2 ls k (.long x), V, h))) (hg : s_stl k M pc nx J C R F H L S = true) : s_Out θ R KS hd d M pc ls st h := by
  obtain ⟨a, A, v, V, rfl, rfl, ⟨ha0, ha⟩, hA, hg⟩ := s_p1_ok hr.2.2.2 hg
  rw [s_and_iff, s_and_iff] at hg
  have hk := Nat.le_of_ble_eq_true hg.2.1
  obtain ⟨x, rfl⟩ := s_v_l hg.1 ha
  obtain ⟨L', g1, g2⟩ := hr.2.2.1.st2 ha hg.2.2
  exact s_Out.step hat (hs x V hk rfl) (hn _ _ _ _ _ _ _ g1 ⟨hr.1, hr.2.1, g2, hA⟩)
theorem s_k_inc {k : Nat} {z : Int} (hn : s_OK θ R KS hd d M nx (pc + 3)) (hat : p_at pc M.2.2.2.2.1 = some (.iinc k z, len)) (hr : s_Rl θ F H L S ls st h) (hg : s_inc k z M pc nx J C R F H L S = true) : s_Out θ R KS hd d M pc ls st h := by
  obtain ⟨a, ha, hg⟩ := s_nth_ok hg
  rw [s_inc1, s_and_iff, s_and_iff] at hg
  obtain ⟨v, hv1, hv2⟩ := hr.2.2.1 k a ha (s_tz hg.1)
  have e := s_v_1 hg.1 hv2
  subst e
  have hk : k < M.2.2.1 := Nat.le_of_ble_eq_true hg.2.1
  obtain ⟨z', g1, g2, g3⟩ := s_w_eq z (s_inc3 k nx F H L S a)
  have hg3 := hg.2.2
  rw [g3] at hg3
  obtain ⟨b, F', k1, k2, k3, k4⟩ := s_op_ok (op := 1) (by decide) s_ok_add hr.1 hv2 (show s_v θ (.inl z') (.int (Int32.ofInt z)) from ⟨g1, by rw [g2]⟩) (fun q => by omega) hg3
  obtain ⟨L', l1, l2⟩ := hr.2.2.1.st1 k3 k1
  refine s_Out.step hat (pc' := pc + 3) (ls' := p_s1 ls k (.int (s_ov 1 (s_ev θ (s_x a)) (Int32.ofInt z)))) (st' := st) (h' := h) ?_ (hn _ _ _ _ _ _ _ l1 ⟨k2, hr.2.1, l2, hr.2.2.2⟩)
  simp only [p_step, hv1, p_sv]
  rw [if_pos hk]
  rfl
theorem s_k_ib {op : Nat} {f : Int → Int → Int} (hop : op ≠ 0) (hf : s_cok op f) (h10 : op ≠ 10) (h11 : op ≠ 11) (hn : s_OK θ R KS hd d M nx (pc + 1)) (hat : p_at pc M.2.2.2.2.1 = some (i, len)) (hr : s_Rl θ F H L S ls st h) (hs : ∀ x y V, st = .int y :: .int x :: V → p_step p_GT p_MT M i pc ls st h = some (.inl (pc + 1, ls, .int (s_ov op x y) :: V, h))) (hg : s_ib op f M pc nx J C R F H L S = true) : s_Out θ R KS hd d M pc ls st h := by
  obtain ⟨b, a, A, w, v, V, rfl, rfl, ⟨hb0, hb⟩, ⟨ha0, ha⟩, hA, hg⟩ := s_p2_ok hr.2.2.2 hg
  have hx : ∃ x, v = .int x := by
    cases a with
    | inl z => exact ⟨_, ha.2⟩
    | inr q =>
      have hg : s_sy op f (.inr q) b F (s_nv nx H L A) = true := hg
      have hg : s_and (Nat.beq q.1 1) _ = true := hg
      rw [s_and_iff] at hg
      exact ⟨_, s_v_1 (a := .inr q) hg.1 ha⟩
  obtain ⟨x, rfl⟩ := hx
  have hy : ∃ y, w = .int y := by
    cases b with
    | inl z => exact ⟨_, hb.2⟩
    | inr q =>
      have hg : s_sy op f a (.inr q) F (s_nv nx H L A) = true := by cases a <;> exact hg
      obtain ⟨a', F1, h1, -⟩ := s_cz_ok hr.1 ha hg
      have h1 : s_and (Nat.beq q.1 1) _ = true := h1
      rw [s_and_iff] at h1
      exact ⟨_, s_v_1 (a := .inr q) h1.1 hb⟩
  obtain ⟨y, rfl⟩ := hy
  obtain ⟨r, F', k1, k2, k3, k4⟩ := s_op_ok hop hf hr.1 ha hb (fun q => by omega) hg
  exact s_Out.step hat (hs x y V rfl) (hn _ _ _ _ _ _ _ k1 ⟨k2, hr.2.1, hr.2.2.1, ⟨s_tz k4, k3⟩, hA⟩)
theorem s_k_iu {op : Nat} {f : Int → Int → Int} (hop : op ≠ 0) (hf : s_cok op f) (h10 : op ≠ 10) (h11 : op ≠ 11) (hn : s_OK θ R KS hd d M nx (pc + 1)) (hat : p_at pc M.2.2.2.2.1 = some (i, len)) (hr : s_Rl θ F H L S ls st h) (hs : ∀ x V, st = .int x :: V → p_step p_GT p_MT M i pc ls st h = some (.inl (pc + 1, ls, .int (s_ov op x 0) :: V, h))) (hg : s_iu op f M pc nx J C R F H L S = true) : s_Out θ R KS hd d M pc ls st h := by
  obtain ⟨a, A, v, V, rfl, rfl, ⟨ha0, ha⟩, hA, hg⟩ := s_p1_ok hr.2.2.2 hg
  have hx : ∃ x, v = .int x := by
    cases a with
    | inl z => exact ⟨_, ha.2⟩
    | inr q =>
      have hg : s_and (Nat.beq q.1 1) _ = true := hg
      rw [s_and_iff] at hg
      exact ⟨_, s_v_1 (a := .inr q) hg.1 ha⟩
  obtain ⟨x, rfl⟩ := hx
  obtain ⟨r, F', k1, k2, k3, k4⟩ := s_op_ok hop hf hr.1 ha (show s_v θ (.inl 0) (.int 0) from ⟨⟨by decide, by decide⟩, rfl⟩) (fun q => by omega) hg
  exact s_Out.step hat (hs x V rfl) (hn _ _ _ _ _ _ _ k1 ⟨k2, hr.2.1, hr.2.2.1, ⟨s_tz k4, k3⟩, hA⟩)
theorem s_k_id {op : Nat} {f : Int → Int → Int} (hop : op ≠ 0) (hf : s_cok op f) (hn : s_OK θ R KS hd d M nx (pc + 1)) (hat : p_at pc M.2.2.2.2.1 = some (i, len)) (hr : s_Rl θ F H L S ls st h) (hs : ∀ x y V, st = .int y :: .int x :: V → y ≠ 0 → p_step p_GT p_MT M i pc ls st h = some (.inl (pc + 1, ls, .int (s_ov op x y) :: V, h))) (hg : s_id op f M pc nx J C R F H L S = true) : s_Out θ R KS hd d M pc ls st h := by
  obtain ⟨b, a, A, w, v, V, rfl, rfl, ⟨hb0, hb⟩, ⟨ha0, ha⟩, hA, hg⟩ := s_p2_ok hr.2.2.2 hg
  obtain ⟨b', F1, h1, hF1, hb1, -⟩ := s_cz_ok hr.1 hb hg
  cases b' with
  | inr q => cases h1
  | inl z =>
    have h1 : s_and (s_nez z 0) (s_opk op f a (.inl z) F1 (s_nv nx H L A)) = true := h1
    rw [s_and_iff] at h1
    have hz : ¬ z = 0 := (s_b_f s_eqz_iff).mp h1.1
    have hy := hb1.2
    have hy0 : Int32.ofInt z ≠ 0 := by
      intro q
      apply hz
      rw [← s_I_eq hb1.1, q]; rfl
    subst hy
    have hx : ∃ x, v = .int x := by
      cases a with
      | inl z => exact ⟨_, ha.2⟩
      | inr q =>
        have hg : s_and (Nat.beq q.1 1) _ = true := h1.2
        rw [s_and_iff] at hg
        exact ⟨_, s_v_1 (a := .inr q) hg.1 ha⟩
    obtain ⟨x, rfl⟩ := hx
    obtain ⟨r, F', k1, k2, k3, k4⟩ := s_op_ok hop hf hF1 ha hb1 (fun _ => hy0) h1.2
    exact s_Out.step hat (hs x _ V rfl hy0) (hn _ _ _ _ _ _ _ k1 ⟨k2, hr.2.1, hr.2.2.1, ⟨s_tz k4, k3⟩, hA⟩)
theorem s_tgt_ok {off : Int} {K : Nat → Bool} (hg : s_tgt pc off K = true) : ∃ t, p_tg pc off = some t ∧ K t = true := by
  unfold s_tgt at hg
  cases e : p_tg pc off with
  | none => rw [e] at hg; cases hg
  | some t => rw [e] at hg; exact ⟨t, rfl, hg⟩
theorem s_k_goto {off : Int} (hJ : ∀ t, s_OK θ R KS hd d M (J t) t) (hat : p_at pc M.2.2.2.2.1 = some (.goto off, len)) (hr : s_Rl θ F H L S ls st h) (hg : s_goto off M pc nx J C R F H L S = true) : s_Out θ R KS hd d M pc ls st h := by
  obtain ⟨t, ht, hg⟩ := s_tgt_ok hg
  exact s_Out.step hat (by simp only [p_step, p_jm, ht]; rfl) (hJ t _ _ _ _ _ _ _ hg hr)
theorem s_vi {a b : s_V} {v : Value} {c : ClassFile.Cond} {K : Bool → s_F → Bool} (ha : s_v θ a v) (hg : s_cmp c a b F K = true) : ∃ x, v = .int x := by
  cases a with
  | inl z => exact ⟨_, ha.2⟩
  | inr q =>
    have hg : s_bsl c (.inr q) b F K = true := hg
    cases b with
    | inl y =>
      have hg : s_and (Nat.beq q.1 1) _ = true := hg
      rw [s_and_iff] at hg
      exact ⟨_, s_v_1 (a := .inr q) hg.1 ha⟩
    | inr p =>
      have hg : s_and (Nat.beq q.1 1) _ = true := hg
      rw [s_and_iff] at hg
      exact ⟨_, s_v_1 (a := .inr q) hg.1 ha⟩
theorem s_vi2 {a b : s_V} {v : Value} {c : ClassFile.Cond} {K : Bool → s_F → Bool} (hb : s_v θ b v) (hg : s_cmp c a b F K = true) : ∃ x, v = .int x := by
  cases b with
  | inl z => exact ⟨_, hb.2⟩
  | inr q =>
    cases a with
    | inl x =>
      have hg : s_and (Nat.beq q.1 1) _ = true := hg
      rw [s_and_iff] at hg
      exact ⟨_, s_v_1 (a := .inr q) hg.1 hb⟩
    | inr p =>
      have hg : s_and (Nat.beq p.1 1) (s_and (Nat.beq q.1 1) _) = true := hg
      rw [s_and_iff, s_and_iff] at hg
      exact ⟨_, s_v_1 (a := .inr q) hg.2.1 hb⟩
theorem s_k_br {c : ClassFile.Cond} {off : Int} {t : Nat} {a b : s_V} {x y : Int32} {A : s_L} {V : List Value} (hn : s_OK θ R KS hd d M nx (pc + 3)) (hJ : ∀ t, s_OK θ R KS hd d M (J t) t) (hat : p_at pc M.2.2.2.2.1 = some (i, len)) (hr : s_Rl θ F H L A ls V h) (ht : p_tg pc off = some t) (hs : p_step p_GT p_MT M i pc ls st h = p_br (p_cd c x y) pc off ls V h) (ha : s_v θ a (.int x)) (hb : s_v θ b (.int y)) (hg : s_cmp c a b F (s_bk nx J H L A t) = true) : s_Out θ R KS hd d M pc ls st h := by
  obtain ⟨F', h1, hF'⟩ := s_cmp_ok hr.1 ha hb hg
  rw [s_bk, s_if_iff] at h1
  rcases h1 with ⟨e, h1⟩ | ⟨e, h1⟩
  · refine s_Out.step hat (pc' := t) (ls' := ls) (st' := V) (h' := h) ?_ (hJ t _ _ _ _ _ _ _ h1 ⟨hF', hr.2.1, hr.2.2.1, hr.2.2.2⟩)
    rw [hs, e]; simp only [p_br, ht]; rfl
  · refine s_Out.step hat (pc' := pc + 3) (ls' := ls) (st' := V) (h' := h) ?_ (hn _ _ _ _ _ _ _ h1 ⟨hF', hr.2.1, hr.2.2.1, hr.2.2.2⟩)
    rw [hs, e]; simp only [p_br, ht]; rfl
theorem s_k_br2 {c : ClassFile.Cond} {off : Int} (hn : s_OK θ R KS hd d M nx (pc + 3)) (hJ : ∀ t, s_OK θ R KS hd d M (J t) t) (hat : p_at pc M.2.2.2.2.1 = some (.if_icmp c off, len)) (hr : s_Rl θ F H L S ls st h) (hg : s_br2 c off M pc nx J C R F H L S = true) : s_Out θ R KS hd d M pc ls st h := by
  obtain ⟨t, ht, hg⟩ := s_tgt_ok hg
  obtain ⟨b, a, A, w, v, V, rfl, rfl, ⟨hb0, hb⟩, ⟨ha0, ha⟩, hA, hg⟩ := s_p2_ok hr.2.2.2 hg
  have hg : s_cmp c a b F (s_bk nx J H L A t) = true := hg
  obtain ⟨x, rfl⟩ := s_vi ha hg
  obtain ⟨y, rfl⟩ := s_vi2 hb hg
  exact s_k_br hn hJ hat ⟨hr.1, hr.2.1, hr.2.2.1, hA⟩ ht rfl ha hb hg
theorem s_k_br1 {c : ClassFile.Cond} {off : Int} (hn : s_OK θ R KS hd d M nx (pc + 3)) (hJ : ∀ t, s_OK θ R KS hd d M (J t) t) (hat : p_at pc M.2.2.2.2.1 = some (.ifCond c off, len)) (hr : s_Rl θ F H L S ls st h) (hg : s_br1 c off M pc nx J C R F H L S = true) : s_Out θ R KS hd d M pc ls st h := by
  obtain ⟨t, ht, hg⟩ := s_tgt_ok hg
  obtain ⟨a, A, v, V, rfl, rfl, ⟨ha0, ha⟩, hA, hg⟩ := s_p1_ok hr.2.2.2 hg
  have hg : s_cmp c a (.inl 0) F (s_bk nx J H L A t) = true := hg
  obtain ⟨x, rfl⟩ := s_vi ha hg
  exact s_k_br hn hJ hat ⟨hr.1, hr.2.1, hr.2.2.1, hA⟩ ht rfl ha (show s_v θ (.inl 0) (.int 0) from ⟨⟨by decide, by decide⟩, rfl⟩) hg
theorem s_k_null {off : Int} (hn : s_OK θ R KS hd d M nx (pc + 3)) (hJ : ∀ t, s_OK θ R KS hd d M (J t) t) (hat : p_at pc M.2.2.2.2.1 = some (.ifnull off, len)) (hr : s_Rl θ F H L S ls st h) (hg : s_brn true off M pc nx J C R F H L S = true) : s_Out θ R KS hd d M pc ls st h := by
  obtain ⟨a, A, v, V, rfl, rfl, ⟨ha0, ha⟩, hA, hg⟩ := s_p1_ok hr.2.2.2 hg
  rw [s_if_iff, s_if_iff, s_and_iff, s_if_iff] at hg
  rcases hg with ⟨e, ⟨-, hg⟩ | ⟨q, -⟩⟩ | ⟨-, e, ⟨-, hg⟩ | ⟨q, -⟩⟩
  · obtain ⟨t, ht, hg⟩ := s_tgt_ok hg
    have := s_v_null e ha
    subst this
    exact s_Out.step hat (by simp only [p_step, p_jm, ht]; rfl) (hJ t _ _ _ _ _ _ _ hg ⟨hr.1, hr.2.1, hr.2.2.1, hA⟩)
  · cases q
  · have := s_v_ref' e ha
    subst this
    exact s_Out.step hat rfl (hn _ _ _ _ _ _ _ hg ⟨hr.1, hr.2.1, hr.2.2.1, hA⟩)
  · cases q
theorem s_k_nonnull {off : Int} (hn : s_OK θ R KS hd d M nx (pc + 3)) (hJ : ∀ t, s_OK θ R KS hd d M (J t) t) (hat : p_at pc M.2.2.2.2.1 = some (.ifnonnull off, len)) (hr : s_Rl θ F H L S ls st h) (hg : s_brn false off M pc nx J C R F H L S = true) : s_Out θ R KS hd d M pc ls st h := by
  obtain ⟨a, A, v, V, rfl, rfl, ⟨ha0, ha⟩, hA, hg⟩ := s_p1_ok hr.2.2.2 hg
  rw [s_if_iff, s_if_iff, s_and_iff, s_if_iff] at hg
  rcases hg with ⟨e, ⟨q, -⟩ | ⟨-, hg⟩⟩ | ⟨-, e, ⟨q, -⟩ | ⟨-, hg⟩⟩
  · cases q
  · have := s_v_null e ha
    subst this
    exact s_Out.step hat rfl (hn _ _ _ _ _ _ _ hg ⟨hr.1, hr.2.1, hr.2.2.1, hA⟩)
  · cases q
  · obtain ⟨t, ht, hg⟩ := s_tgt_ok hg
    have := s_v_ref' e ha
    subst this
    exact s_Out.step hat (by simp only [p_step, p_jm, ht]; rfl) (hJ t _ _ _ _ _ _ _ hg ⟨hr.1, hr.2.1, hr.2.2.1, hA⟩)
theorem s_k_dup (hn : s_OK θ R KS hd d M nx (pc + 1)) (hat : p_at pc M.2.2.2.2.1 = some (.dup, len)) (hr : s_Rl θ F H L S ls st h) (hg : s_dup M pc nx J C R F H L S = true) : s_Out θ R KS hd d M pc ls st h := by
  obtain ⟨a, A, v, V, rfl, rfl, ha, hA, hg⟩ := s_p1_ok hr.2.2.2 hg
  rw [s_and_iff] at hg
  exact s_Out.step hat (pc' := pc + 1) (ls' := ls) (st' := v :: v :: V) (h' := h) (by simp only [p_step]; rw [if_pos (s_v_one hg.1 ha.2)]; rfl) (hn _ _ _ _ _ _ _ hg.2 ⟨hr.1, hr.2.1, hr.2.2.1, ha, ha, hA⟩)
theorem s_k_pop (hn : s_OK θ R KS hd d M nx (pc + 1)) (hat : p_at pc M.2.2.2.2.1 = some (.pop, len)) (hr : s_Rl θ F H L S ls st h) (hg : s_pop M pc nx J C R F H L S = true) : s_Out θ R KS hd d M pc ls st h := by
  obtain ⟨a, A, v, V, rfl, rfl, ha, hA, hg⟩ := s_p1_ok hr.2.2.2 hg
  rw [s_and_iff] at hg
  exact s_Out.step hat (by simp only [p_step]; rw [if_pos (s_v_one hg.1 ha.2)]; rfl) (hn _ _ _ _ _ _ _ hg.2 ⟨hr.1, hr.2.1, hr.2.2.1, hA⟩)
theorem s_k_pop2 (hn : s_OK θ R KS hd d M nx (pc + 1)) (hat : p_at pc M.2.2.2.2.1 = some (.pop2, len)) (hr : s_Rl θ F H L S ls st h) (hg : s_pop2 M pc nx J C R F H L S = true) : s_Out θ R KS hd d M pc ls st h := by
  obtain ⟨a, A, v, V, rfl, rfl, ha, hA, hg⟩ := s_p1_ok hr.2.2.2 hg
  rw [s_and_iff] at hg
  obtain ⟨x, rfl⟩ := s_v_l hg.1 ha.2
  exact s_Out.step hat rfl (hn _ _ _ _ _ _ _ hg.2 ⟨hr.1, hr.2.1, hr.2.2.1, hA⟩)
theorem s_k_dup2 (hn : s_OK θ R KS hd d M nx (pc + 1)) (hat : p_at pc M.2.2.2.2.1 = some (.dup2, len)) (hr : s_Rl θ F H L S ls st h) (hg : s_dup2 M pc nx J C R F H L S = true) : s_Out θ R KS hd d M pc ls st h := by
  obtain ⟨a, b, A, v, w, V, rfl, rfl, ha, hb, hA, hg⟩ := s_p2_ok hr.2.2.2 hg
  rw [s_and_iff, s_and_iff] at hg
  exact s_Out.step hat (pc' := pc + 1) (ls' := ls) (st' := v :: w :: v :: w :: V) (h' := h) (by simp only [p_step]; rw [if_pos ⟨s_v_one hg.1 ha.2, s_v_one hg.2.1 hb.2⟩]; rfl) (hn _ _ _ _ _ _ _ hg.2.2 ⟨hr.1, hr.2.1, hr.2.2.1, ha, hb, ha, hb, hA⟩)
end SK
section SK5
variable {θ : Nat → Int32} {R : s_K} {KS : s_T} {hd d : Nat} {M : p_M} {pc : Nat} {ls : p_Ls} {st : List Value} {h : p_H} {i : Instr} {len : Nat} {nx : s_T} {J : s_J} {C : s_CC} {F : s_F} {H : s_H} {L S : s_L} {n : Nat}
theorem s_i_nat {j : Nat} (hj : j ≤ 2147483647) : (Int32.ofNat j).toNatClampNeg = j ∧ ¬ Int32.ofNat j < 0 := by
  have h1 : (Int32.ofNat j).toInt = j := by rw [← s_on]; exact s_I_eq ⟨by simp only [Int.ofNat_eq_natCast]; omega, by simp only [Int.ofNat_eq_natCast]; omega⟩
  refine ⟨?_, fun q => ?_⟩
  · show (Int32.ofNat j).toInt.toNat = j
    rw [h1]; rfl
  · have := Int32.lt_iff_toInt_lt.mp q
    rw [h1] at this
    have h0 : (0 : Int32).toInt = 0 := rfl
    omega
theorem s_k_al {t1 t2 : Nat} (hn : s_OK θ R KS hd d M nx (pc + 1)) (hat : p_at pc M.2.2.2.2.1 = some (i, len)) (hr : s_Rl θ F H L S ls st h) (hs : ∀ j a V, st = .int j :: .ref a :: V → p_step p_GT p_MT M i pc ls st h = p_al t1 t2 j a (pc + 1) ls V h) (hg : s_al t1 t2 M pc nx J C R F H L S = true) : s_Out θ R KS hd d M pc ls st h := by
  obtain ⟨x, o, A, v, w, V, rfl, rfl, ⟨hx0, hx⟩, ⟨ho0, ho⟩, hA, hg⟩ := s_p2_ok hr.2.2.2 hg
  obtain ⟨a, rfl, hg⟩ := s_ref_ok ho hg
  rw [s_al2, s_and_iff, s_and_iff] at hg
  obtain ⟨j, F', hg1, hF', rfl, hj⟩ := s_ix_ok hr.1 hx hg.2.2
  obtain ⟨hv0, hg1⟩ := s_fv_ok hg1
  have hsort : ∃ dd, h[a]? = some dd ∧ s_cr θ (H.1.get a) dd ∧ (dd.1 = 1 ∨ dd.1 = 2) := by
    rcases s_if_iff.mp hg.2.1 with ⟨q, -⟩ | ⟨-, q⟩
    · obtain ⟨dd, e1, e2⟩ := hr.2.1.at q (by decide)
      exact ⟨dd, e1, e2, Or.inl (e2.1.trans (Nat.eq_of_beq_eq_true q))⟩
    · obtain ⟨dd, e1, e2⟩ := hr.2.1.at q (by decide)
      exact ⟨dd, e1, e2, Or.inr (e2.1.trans (Nat.eq_of_beq_eq_true q))⟩
  obtain ⟨⟨ds, dt, dv⟩, e1, e2, e3⟩ := hsort
  obtain ⟨y, e4, e5⟩ := e2.2.2.2 j hv0
  have hty : (Nat.beq dt t1 || Nat.beq dt t2) = true := by
    have : dt = (H.1.get a).2.1 := e2.2.1
    rw [this]
    rcases s_if_iff.mp hg.1 with ⟨q, -⟩ | ⟨-, q⟩
    · rw [q]; rfl
    · rw [q, Bool.or_true]
  have hso : (Nat.beq ds 1 || Nat.beq ds 2) = true := by
    rcases e3 with q | q
    · have q : ds = 1 := q
      subst q; rfl
    · have q : ds = 2 := q
      subst q; rfl
  obtain ⟨n1, n2⟩ := s_i_nat hj
  refine s_Out.step hat (pc' := pc + 1) (ls' := ls) (st' := y :: V) (h' := h) ?_ (hn _ _ _ _ _ _ _ hg1 ⟨hF', hr.2.1, hr.2.2.1, ⟨hv0, e5⟩, hA⟩)
  rw [hs _ a V rfl]
  simp only [p_al, e1]
  rw [hty, hso, Bool.and_self, if_pos rfl]
  simp only [p_ix, if_neg n2, n1]
  have e4 : dv[j]? = some y := e4
  rw [e4]; rfl
theorem s_put_ok {t : Nat} {x ix o : s_V} {v w z : Value} {K : s_F → s_H → Bool} (hF : s_FO θ F) (hH : s_hr θ H h) (hx : s_v θ x v) (hi : s_v θ ix w) (ho : s_v θ o z) (hg : s_put t x ix o F H K = true) : ∃ (F' : s_F) (H' : s_H) (a : Nat) (j : Int32) (h' : p_H), K F' H' = true ∧ s_FO θ F' ∧ s_hr θ H' h' ∧ w = .int j ∧ z = .ref a ∧ (∀ pc ls st, p_as t v j a pc ls st h = some (.inl (pc, ls, st, h'))) ∧ ∃ dv, h[a]? = some (1, t, dv) := by
  obtain ⟨a, rfl, hg⟩ := s_ref_ok ho hg
  rw [s_put1, s_and_iff, s_and_iff] at hg
  obtain ⟨j, F', hg1, hF', rfl, hj⟩ := s_ix_ok hF hi hg.2.2
  rw [s_put2, s_and_iff] at hg1
  obtain ⟨⟨ds, dt, dv⟩, e1, e2⟩ := hH.at hg.2.1 (by decide)
  have hds : ds = 1 := e2.1.trans (Nat.eq_of_beq_eq_true hg.2.1)
  have hdt : dt = t := e2.2.1.trans (Nat.eq_of_beq_eq_true hg.1)
  subst hds; subst hdt
  obtain ⟨H', k1, k2⟩ := hH.put e1 e2 (s_tnz hg1.1) hx hg1.2
  obtain ⟨n1, n2⟩ := s_i_nat hj
  obtain ⟨y, e4, -⟩ := e2.2.2.2 j (s_tnz hg1.1)
  have e4 : dv[j]? = some y := e4
  refine ⟨F', H', a, Int32.ofNat j, _, k1, hF', k2, rfl, rfl, fun pc ls st => ?_, dv, e1⟩
  simp only [p_as, e1]
  rw [Nat.beq_refl, Nat.beq_refl, Bool.and_self, if_pos rfl]
  simp only [p_ix, if_neg n2, n1, e4]
  rfl
theorem s_k_as {t : Nat} {w : Nat → Bool} (hn : s_OK θ R KS hd d M nx (pc + 1)) (hat : p_at pc M.2.2.2.2.1 = some (i, len)) (hr : s_Rl θ F H L S ls st h) (hs : ∀ x v j a V, st = v :: .int j :: .ref a :: V → w (s_t x) = true → s_v θ x v → p_step p_GT p_MT M i pc ls st h = p_as t v j a (pc + 1) ls V h) (hg : s_as t w M pc nx J C R F H L S = true) : s_Out θ R KS hd d M pc ls st h := by
  obtain ⟨x, ix, A, v, y, V, rfl, rfl, ⟨hx0, hx⟩, ⟨hi0, hi⟩, hA, hg⟩ := s_p2_ok hr.2.2.2 hg
  obtain ⟨o, A, z, V, rfl, rfl, ⟨ho0, ho⟩, hB, hg⟩ := s_p1_ok hA hg
  rw [s_and_iff] at hg
  obtain ⟨F', H', a, j, h', k1, k2, k3, rfl, rfl, k4, -⟩ := s_put_ok hr.1 hr.2.1 hx hi ho hg.2
  exact s_Out.step hat ((hs x v j a V rfl hg.1 hx).trans (k4 _ _ _)) (hn _ _ _ _ _ _ _ k1 ⟨k2, k3, hr.2.2.1, hB⟩)
theorem s_opv {op : Nat} {f : Int → Int → Int} {a b : s_V} {v : Value} {K : s_V → s_F → Bool} (ha : s_v θ a v) (hg : s_opk op f a b F K = true) : ∃ x, v = .int x := by
  cases a with
  | inl z => exact ⟨_, ha.2⟩
  | inr q =>
    have hg : s_and (Nat.beq q.1 1) _ = true := hg
    rw [s_and_iff] at hg
    exact ⟨_, s_v_1 (a := .inr q) hg.1 ha⟩
theorem s_k_asb (hn : s_OK θ R KS hd d M nx (pc + 1)) (hat : p_at pc M.2.2.2.2.1 = some (.bastore, len)) (hr : s_Rl θ F H L S ls st h) (hg : s_asb M pc nx J C R F H L S = true) : s_Out θ R KS hd d M pc ls st h := by
  obtain ⟨x, ix, A, v, y, V, rfl, rfl, ⟨hx0, hx⟩, ⟨hi0, hi⟩, hA, hg⟩ := s_p2_ok hr.2.2.2 hg
  obtain ⟨o, A, z, V, rfl, rfl, ⟨ho0, ho⟩, hB, hg⟩ := s_p1_ok hA hg
  obtain ⟨a0, rfl, hg⟩ := s_ref_ok ho hg
  rw [s_if_iff] at hg
  rcases hg with ⟨e, hg⟩ | ⟨e, hg⟩
  · obtain ⟨u, rfl⟩ := s_opv hx hg
    obtain ⟨r, F1, k1, k2, k3, k4⟩ := s_op_ok (op := 12) (by decide) s_ok_i2b hr.1 hx (show s_v θ (.inl 0) (.int 0) from ⟨⟨by decide, by decide⟩, rfl⟩) (fun q => by omega) hg
    obtain ⟨F', H', a, j, h', g1, g2, g3, rfl, ea, g4, -⟩ := s_put_ok k2 hr.2.1 k3 hi ho k1
    cases ea
    refine s_Out.step hat (pc' := pc + 1) (ls' := ls) (st' := V) (h' := h') ?_ (hn _ _ _ _ _ _ _ g1 ⟨g2, g3, hr.2.2.1, hB⟩)
    simp only [p_step]
    rw [show narrow .byte (.int u) = .int (s_ov 12 u 0) from rfl, g4]
  · obtain ⟨u, rfl⟩ := s_opv hx hg
    obtain ⟨r, F1, k1, k2, k3, k4⟩ := s_op_ok (op := 4) (by decide) s_ok_and hr.1 hx (show s_v θ (.inl 1) (.int 1) from ⟨⟨by decide, by decide⟩, rfl⟩) (fun q => by omega) hg
    obtain ⟨F', H', a, j, h', g1, g2, g3, rfl, ea, g4, dv, g5⟩ := s_put_ok k2 hr.2.1 k3 hi ho k1
    cases ea
    refine s_Out.step hat (pc' := pc + 1) (ls' := ls) (st' := V) (h' := h') ?_ (hn _ _ _ _ _ _ _ g1 ⟨g2, g3, hr.2.2.1, hB⟩)
    have hno : ∀ q, p_as 1 q j a0 (pc + 1) ls V h = none := by
      intro q
      simp only [p_as, g5]
      rfl
    simp only [p_step, hno]
    rw [show narrow .boolean (.int u) = .int (s_ov 4 u 1) from rfl, g4]
theorem s_k_aas (hn : s_OK θ R KS hd d M nx (pc + 1)) (hat : p_at pc M.2.2.2.2.1 = some (.aastore, len)) (hr : s_Rl θ F H L S ls st h) (hg : s_aas M pc nx J C R F H L S = true) : s_Out θ R KS hd d M pc ls st h := by
  obtain ⟨x, ix, A, v, y, V, rfl, rfl, ⟨hx0, hx⟩, ⟨hi0, hi⟩, hA, hg⟩ := s_p2_ok hr.2.2.2 hg
  obtain ⟨o, A, z, V, rfl, rfl, ⟨ho0, ho⟩, hB, hg⟩ := s_p1_ok hA hg
  rw [s_if_iff] at hg
  rcases hg with ⟨e, hg⟩ | ⟨e, hg⟩
  · have := s_v_null e hx
    subst this
    obtain ⟨F', H', a, j, h', k1, k2, k3, rfl, rfl, k4, -⟩ := s_put_ok hr.1 hr.2.1 hx hi ho hg
    exact s_Out.step hat (k4 _ _ _) (hn _ _ _ _ _ _ _ k1 ⟨k2, k3, hr.2.2.1, hB⟩)
  · obtain ⟨b, rfl, hg⟩ := s_ref_ok hx hg
    rw [s_and_iff, s_and_iff] at hg
    obtain ⟨⟨ds, dt, dv⟩, e1, e2⟩ := hr.2.1.at hg.1 (by decide)
    have hds : ds = 0 := e2.1.trans (Nat.eq_of_beq_eq_true hg.1)
    have hdt : dt = 7 := e2.2.1.trans (Nat.eq_of_beq_eq_true hg.2.1)
    subst hds; subst hdt
    obtain ⟨F', H', a, j, h', k1, k2, k3, rfl, rfl, k4, -⟩ := s_put_ok hr.1 hr.2.1 hx hi ho hg.2.2
    refine s_Out.step hat (pc' := pc + 1) (ls' := ls) (st' := V) (h' := h') ?_ (hn _ _ _ _ _ _ _ k1 ⟨k2, k3, hr.2.2.1, hB⟩)
    simp only [p_step, e1]
    exact k4 _ _ _
theorem s_k_alen (hn : s_OK θ R KS hd d M nx (pc + 1)) (hat : p_at pc M.2.2.2.2.1 = some (.arraylength, len)) (hr : s_Rl θ F H L S ls st h) (hg : s_alen M pc nx J C R F H L S = true) : s_Out θ R KS hd d M pc ls st h := by
  obtain ⟨o, A, z, V, rfl, rfl, ⟨ho0, ho⟩, hA, hg⟩ := s_p1_ok hr.2.2.2 hg
  obtain ⟨a, rfl, hg⟩ := s_ref_ok ho hg
  rw [s_and_iff, s_and_iff, s_fn0_eq] at hg
  have hsort : ∃ dd, h[a]? = some dd ∧ s_cr θ (H.1.get a) dd ∧ (Nat.beq dd.1 1 || Nat.beq dd.1 2) = true := by
    rcases s_if_iff.mp hg.1 with ⟨q, -⟩ | ⟨-, q⟩
    · obtain ⟨dd, e1, e2⟩ := hr.2.1.at q (by decide)
      exact ⟨dd, e1, e2, by rw [e2.1, q]; rfl⟩
    · obtain ⟨dd, e1, e2⟩ := hr.2.1.at q (by decide)
      exact ⟨dd, e1, e2, by rw [e2.1, q, Bool.or_true]⟩
  obtain ⟨⟨ds, dt, dv⟩, e1, e2, e3⟩ := hsort
  have hl := Nat.le_of_ble_eq_true hg.2.1
  have hl2 : dv.length = (H.1.get a).2.2.1 := e2.2.2.1
  refine s_Out.step hat (pc' := pc + 1) (ls' := ls) (st' := .int (Int32.ofNat dv.length) :: V) (h' := h) ?_ (hn _ _ _ _ _ _ _ hg.2.2 ⟨hr.1, hr.2.1, hr.2.2.1, ⟨by show (1 : Nat) ≠ 0; decide, ⟨by show -2147483648 ≤ ((H.1.get a).2.2.1 : Int); omega, by show ((H.1.get a).2.2.1 : Int) ≤ 2147483647; omega⟩, by rw [hl2, s_on]⟩, hA⟩)
  simp only [p_step, e1]
  rw [e3, if_pos rfl]; rfl
theorem s_k_getf {x : Nat} (hn : s_OK θ R KS hd d M nx (pc + 3)) (hat : p_at pc M.2.2.2.2.1 = some (.getfield x, len)) (hr : s_Rl θ F H L S ls st h) (hg : s_getf x M pc nx J C R F H L S = true) : s_Out θ R KS hd d M pc ls st h := by
  obtain ⟨o, A, z, V, rfl, rfl, ⟨ho0, ho⟩, hA, hg⟩ := s_p1_ok hr.2.2.2 hg
  obtain ⟨⟨ci, k⟩, hp, hg⟩ := s_pk_ok hg
  obtain ⟨a, rfl, hg⟩ := s_ref_ok ho hg
  rw [s_getf3, s_and_iff, s_and_iff] at hg
  obtain ⟨hv0, hg1⟩ := s_fv_ok hg.2.2
  obtain ⟨⟨ds, dt, dv⟩, e1, e2⟩ := hr.2.1.at hg.1 (by decide)
  have hds : ds = 0 := e2.1.trans (Nat.eq_of_beq_eq_true hg.1)
  have hdt : dt = ci := e2.2.1.trans (Nat.eq_of_beq_eq_true hg.2.1)
  subst hds; subst hdt
  obtain ⟨y, e4, e5⟩ := e2.2.2.2 k.toNat hv0
  have e4 : dv[k.toNat]? = some y := e4
  refine s_Out.step hat (pc' := pc + 3) (ls' := ls) (st' := y :: V) (h' := h) ?_ (hn _ _ _ _ _ _ _ hg1 ⟨hr.1, hr.2.1, hr.2.2.1, ⟨hv0, e5⟩, hA⟩)
  simp only [p_step, p_getf, hp, e1]
  rw [Nat.beq_refl, if_pos rfl, e4]; rfl
theorem s_fits_ok {ty : FieldType} {a : s_V} {v : Value} (hF : s_FO θ F) (hv : s_v θ a v) (hg : s_fits ty a F = true) : p_fit ty v = true := by
  unfold s_fits at hg
  split at hg
  · obtain ⟨x, rfl, e | e⟩ := s_bool_ok hF hv hg
    · subst e; rfl
    · subst e; rfl
  · obtain ⟨x, rfl⟩ := s_v_i hg hv; rfl
  · obtain ⟨x, rfl⟩ := s_v_l hg hv; rfl
  · rcases s_v_r hg hv with rfl | ⟨x, rfl⟩ <;> rfl
  · rcases s_v_r hg hv with rfl | ⟨x, rfl⟩ <;> rfl
  · cases hg
theorem s_gty_ok {G : p_G} {ci : Nat} {k : Int} {K : FieldType → Bool → Bool} (hg : s_gty G ci k K = true) : ∃ q, (G[ci]?).bind (fun r => r[k.toNat]?) = some q ∧ K q.1 q.2 = true := by
  unfold s_gty at hg
  cases e : (G[ci]?).bind (fun r => r[k.toNat]?) with
  | none => rw [e] at hg; cases hg
  | some q => rw [e] at hg; exact ⟨q, rfl, hg⟩
theorem s_k_putf {x : Nat} (hn : s_OK θ R KS hd d M nx (pc + 3)) (hat : p_at pc M.2.2.2.2.1 = some (.putfield x, len)) (hr : s_Rl θ F H L S ls st h) (hg : s_putf p_GT x M pc nx J C R F H L S = true) : s_Out θ R KS hd d M pc ls st h := by
  obtain ⟨y, o, A, v, z, V, rfl, rfl, ⟨hy0, hy⟩, ⟨ho0, ho⟩, hA, hg⟩ := s_p2_ok hr.2.2.2 hg
  obtain ⟨⟨ci, k⟩, hp, hg⟩ := s_pk_ok hg
  obtain ⟨a, rfl, hg⟩ := s_ref_ok ho hg
  rw [s_putf3, s_and_iff, s_and_iff] at hg
  obtain ⟨⟨ty, fin⟩, hq, hg4⟩ := s_gty_ok hg.2.2
  rw [s_putf4, s_and_iff, s_and_iff, s_and_iff] at hg4
  obtain ⟨⟨ds, dt, dv⟩, e1, e2⟩ := hr.2.1.at hg.1 (by decide)
  have hds : ds = 0 := e2.1.trans (Nat.eq_of_beq_eq_true hg.1)
  have hdt : dt = ci := e2.2.1.trans (Nat.eq_of_beq_eq_true hg.2.1)
  subst hds; subst hdt
  obtain ⟨H', k1, k2⟩ := hr.2.1.put e1 e2 (s_tnz hg4.2.2.1) hy hg4.2.2.2
  obtain ⟨w, w1, -⟩ := e2.2.2.2 k.toNat (s_tnz hg4.2.2.1)
  have w1 : dv[k.toNat]? = some w := w1
  have hlt : Nat.blt k.toNat dv.length = true := Nat.ble_eq_true_of_le (List.getElem?_eq_some_iff.mp w1).1
  refine s_Out.step hat (pc' := pc + 3) (ls' := ls) (st' := V) (h' := h.set a (0, dt, dv.set k.toNat v)) ?_ (hn _ _ _ _ _ _ _ k1 ⟨hr.1, k2, hr.2.2.1, hA⟩)
  simp only [p_step, p_putf, hp, e1]
  rw [Nat.beq_refl, if_pos rfl]
  simp only [hq]
  have hfin : (!fin || (M.2.2.2.2.2.2.1 && Nat.beq M.2.2.2.2.2.2.2 dt)) = true := hg4.2.1
  rw [s_fits_ok hr.1 hy hg4.1, hfin, hlt, Bool.and_self, Bool.and_self, if_pos rfl]; rfl
theorem s_dv_ok {ty : FieldType} (hf : ty ≠ .float) (hd : ty ≠ .double) : s_v θ (s_dv ty) (defaultValue ty) := by
  cases ty <;> first | exact ⟨⟨by decide, by decide⟩, rfl⟩ | exact ⟨0, rfl, rfl⟩ | exact rfl | exact absurd rfl hf | exact absurd rfl hd
theorem s_row_ok : ∀ (row : List (FieldType × Bool)) (k i : Nat), s_t ((s_row k row).get (k + i)) ≠ 0 → ∃ v, (row.map (fun q => defaultValue q.1))[i]? = some v ∧ s_v θ ((s_row k row).get (k + i)) v := by
  intro row
  induction row with
  | nil => intro k i hi; exact absurd rfl hi
  | cons q r ih =>
    intro k i hi
    rw [s_row, s_gb] at hi ⊢
    cases i with
    | zero =>
      rw [if_neg (by omega)] at hi ⊢
      refine ⟨defaultValue q.1, rfl, ?_⟩
      rw [s_gl] at hi ⊢
      refine s_dv_ok (fun e => ?_) (fun e => ?_)
      · rw [e] at hi; exact absurd rfl hi
      · rw [e] at hi; exact absurd rfl hi
    | succ i =>
      rw [if_pos (by omega), show k + (i + 1) = (k + 1) + i by omega] at hi ⊢
      obtain ⟨v, h1, h2⟩ := ih (k + 1) i hi
      exact ⟨v, by simpa using h1, h2⟩
theorem s_k_new {x : Nat} (hn : s_OK θ R KS hd d M nx (pc + 3)) (hat : p_at pc M.2.2.2.2.1 = some (.new x, len)) (hr : s_Rl θ F H L S ls st h) (hg : s_new p_GT x M pc nx J C R F H L S = true) : s_Out θ R KS hd d M pc ls st h := by
  obtain ⟨⟨ci, k⟩, hp, hg⟩ := s_pk_ok hg
  simp only at hg
  cases e : p_GT[ci]? with
  | none => rw [e] at hg; cases hg
  | some row =>
    rw [e] at hg
    have hcr : s_cr θ (0, ci, row.length, s_row 0 row) (0, ci, row.map (fun q => defaultValue q.1)) := by
      refine ⟨rfl, rfl, by simp, fun i hi => ?_⟩
      have := s_row_ok (θ := θ) row 0 i (by rw [Nat.zero_add]; exact hi)
      rw [Nat.zero_add] at this
      exact this
    obtain ⟨H', r, k1, k2, k3⟩ := hr.2.1.mk hcr hg
    refine s_Out.step hat (pc' := pc + 3) (ls' := ls) (st' := .ref h.length :: st) (h' := h ++ [(0, ci, row.map (fun q => defaultValue q.1))]) ?_ (hn _ _ _ _ _ _ _ k1 ⟨hr.1, k2, hr.2.2.1, k3, hr.2.2.2⟩)
    simp only [p_step, p_new, hp, e]; rfl
theorem s_newn_ok {t : Nat} {dd nn : s_V} {v w : Value} {K : s_F → s_H → s_V → Bool} (hF : s_FO θ F) (hH : s_hr θ H h) (hd : s_v θ dd v) (hnn : s_v θ nn w) (hg : s_newn t dd nn F H K = true) : ∃ (F' : s_F) (H' : s_H) (r : s_V) (m : Int32) (h' : p_H), K F' H' r = true ∧ s_FO θ F' ∧ s_hr θ H' h' ∧ s_sv θ r (.ref h.length) ∧ w = .int m ∧ ∀ pc ls st, p_newa t v m pc ls st h = some (.inl (pc, ls, .ref h.length :: st, h')) := by
  obtain ⟨m, F', hg1, hF', rfl, hm⟩ := s_ix_ok hF hnn hg
  rw [s_and_iff] at hg1
  have hm2 := Nat.le_of_ble_eq_true hg1.1
  have hcr : s_cr θ (1, t, m, .branch m (.leaf dd) (.leaf s_u)) (1, t, List.replicate m v) := by
    refine ⟨rfl, rfl, by simp, fun i hi => ?_⟩
    replace hi : s_t ((Lean.RArray.branch m (.leaf dd) (.leaf s_u)).get i) ≠ 0 := hi
    show ∃ v', (List.replicate m v)[i]? = some v' ∧ s_v θ ((Lean.RArray.branch m (.leaf dd) (.leaf s_u)).get i) v'
    rw [s_gb] at hi ⊢
    split at hi
    · exact absurd rfl hi
    · next q =>
      rw [if_neg q]
      exact ⟨v, by rw [List.getElem?_replicate, if_pos (by omega)], hd⟩
  obtain ⟨H', r, k1, k2, k3⟩ := hH.mk hcr hg1.2
  obtain ⟨n1, n2⟩ := s_i_nat hm
  refine ⟨F', H', r, Int32.ofNat m, _, k1, hF', k2, k3, rfl, fun pc ls st => ?_⟩
  unfold p_newa
  rw [n1, if_pos ⟨n2, hm2⟩]; rfl
theorem s_k_newa {ty : ArrayType} (hn : s_OK θ R KS hd d M nx (pc + 2)) (hat : p_at pc M.2.2.2.2.1 = some (.newarray ty, len)) (hr : s_Rl θ F H L S ls st h) (hg : s_newa ty M pc nx J C R F H L S = true) : s_Out θ R KS hd d M pc ls st h := by
  obtain ⟨o, A, z, V, rfl, rfl, ⟨ho0, ho⟩, hA, hg⟩ := s_p1_ok hr.2.2.2 hg
  split at hg
  · next t ht =>
    have hdv : s_v θ (s_dv (newarray.typeOf ty)) (defaultValue (newarray.typeOf ty)) := by
      cases ty <;> first | exact ⟨⟨by decide, by decide⟩, rfl⟩ | exact ⟨0, rfl, rfl⟩ | cases ht
    obtain ⟨F', H', r, m, h', k1, k2, k3, k4, rfl, k5⟩ := s_newn_ok hr.1 hr.2.1 hdv ho hg
    refine s_Out.step hat (pc' := pc + 2) (ls' := ls) (st' := .ref h.length :: V) (h' := h') ?_ (hn _ _ _ _ _ _ _ k1 ⟨k2, k3, hr.2.2.1, k4, hA⟩)
    simp only [p_step, ht]
    exact k5 _ _ _
  · cases hg
theorem s_k_anew {x : Nat} (hn : s_OK θ R KS hd d M nx (pc + 3)) (hat : p_at pc M.2.2.2.2.1 = some (.anewarray x, len)) (hr : s_Rl θ F H L S ls st h) (hg : s_anew x M pc nx J C R F H L S = true) : s_Out θ R KS hd d M pc ls st h := by
  obtain ⟨o, A, z, V, rfl, rfl, ⟨ho0, ho⟩, hA, hg⟩ := s_p1_ok hr.2.2.2 hg
  obtain ⟨q, hp, hg⟩ := s_pk_ok hg
  obtain ⟨F', H', r, m, h', k1, k2, k3, k4, rfl, k5⟩ := s_newn_ok (v := .null) hr.1 hr.2.1 (show s_v θ (.inr (4, .leaf 0)) .null from rfl) ho hg
  refine s_Out.step hat (pc' := pc + 3) (ls' := ls) (st' := .ref h.length :: V) (h' := h') ?_ (hn _ _ _ _ _ _ _ k1 ⟨k2, k3, hr.2.2.1, k4, hA⟩)
  simp only [p_step, hp]
  exact k5 _ _ _
theorem s_k_gets {x : Nat} (hn : s_OK θ R KS hd d M nx (pc + 3)) (hat : p_at pc M.2.2.2.2.1 = some (.getstatic x, len)) (hr : s_Rl θ F H L S ls st h) (hg : s_gets x M pc nx J C R F H L S = true) : s_Out θ R KS hd d M pc ls st h := by
  obtain ⟨q, hp, hg⟩ := s_pk_ok hg
  exact s_k_push hn hat hr (a := .inr (17, .leaf 0)) (v := .ref 1) (by simp only [p_step, hp]; rfl) ⟨by show (17 : Nat) ≠ 0; decide, (show s_v θ (.inr (17, .leaf 0)) (.ref 1) from rfl)⟩ hg
end SK5
def s_ar (θ : Nat → Int32) : s_L → List Value → Prop
  | A, [] => A = []
  | A, v :: vs => (∃ a A', A = a :: A' ∧ s_one (s_t a) = true ∧ s_v θ a v ∧ s_ar θ A' vs) ∨ (∃ a A', A = a :: s_u :: A' ∧ s_long (s_t a) = true ∧ s_v θ a v ∧ s_ar θ A' vs)
section SK6
variable {θ : Nat → Int32} {R : s_K} {KS : s_T} {hd d : Nat} {M : p_M} {pc : Nat} {ls : p_Ls} {st : List Value} {h : p_H} {i : Instr} {len : Nat} {nx : s_T} {J : s_J} {C : s_CC} {F : s_F} {H : s_H} {L S : s_L} {n : Nat}
theorem s_ar_lr : ∀ {vs : List Value} {A : s_L} (j : Nat), s_ar θ A vs → ∀ i a, A[i]? = some a → s_t a ≠ 0 → ∃ v, p_lk (j + i) (lv_args j vs) = some v ∧ s_v θ a v := by
  intro vs
  induction vs with
  | nil => intro A j hA i a hi; rw [show A = [] from hA] at hi; simp at hi
  | cons v vs ih =>
    intro A j hA i a hi ha
    have hne : ∀ k, k ≠ 0 → Nat.beq j (j + k) = false := by
      intro k hk
      cases hb : Nat.beq j (j + k) with
      | false => rfl
      | true => have := Nat.eq_of_beq_eq_true hb; omega
    rcases hA with ⟨b, A', rfl, h1, h2, h3⟩ | ⟨b, A', rfl, h1, h2, h3⟩
    · have hc := s_v_one h1 h2
      cases i with
      | zero =>
        cases hi
        exact ⟨v, by simp [lv_args, p_lk], h2⟩
      | succ i =>
        obtain ⟨w, w1, w2⟩ := ih (j + 1) h3 i a (by simpa using hi) ha
        refine ⟨w, ?_, w2⟩
        simp only [lv_args, p_lk]
        rw [hne (i + 1) (by omega), if_neg (by decide), if_neg (by omega), ← w1]
        congr 1; omega
    · have hc := s_v_two h1 h2
      cases i with
      | zero =>
        cases hi
        exact ⟨v, by simp [lv_args, p_lk], h2⟩
      | succ i =>
        cases i with
        | zero =>
          have hi : some s_u = some a := hi
          cases hi
          exact absurd rfl ha
        | succ i =>
          obtain ⟨w, w1, w2⟩ := ih (j + 2) h3 i a (by simpa using hi) ha
          refine ⟨w, ?_, w2⟩
          simp only [lv_args, p_lk]
          rw [hne (i + 1 + 1) (by omega), if_neg (by decide), if_pos hc, ← w1]
          congr 1; omega
theorem p_cat_cons {v : Value} {V : List Value} : p_cat (v :: V) = v.category + p_cat V := by simp [p_cat]
theorem s_tk_ok {K : s_L → Nat → s_L → Bool} : ∀ {n : Nat} {S : s_L} {st : List Value} {acc : s_L} {c : Nat} {vs : List Value}, Nat.rec (motive := fun _ => s_L → s_L → Nat → Bool) (s_tk0 K) (fun _ ih => s_tk2 ih) n S acc c = true → s_sr θ S st → s_ar θ acc vs → p_cat vs = c → ∃ A c' r, n ≤ st.length ∧ s_ar θ A ((st.take n).reverse ++ vs) ∧ p_cat ((st.take n).reverse ++ vs) = c' ∧ s_sr θ r (st.drop n) ∧ K A c' r = true := by
  intro n
  induction n with
  | zero => intro S st acc c vs hg hS ha hc; exact ⟨acc, c, S, Nat.zero_le _, ha, hc, hS, hg⟩
  | succ n ih =>
    intro S st acc c vs hg hS ha hc
    have hg : s_p1 S (s_tk1 acc c (Nat.rec (motive := fun _ => s_L → s_L → Nat → Bool) (s_tk0 K) (fun _ ih => s_tk2 ih) n)) = true := hg
    obtain ⟨a, A, v, V, rfl, rfl, ⟨ha0, hav⟩, hA, hg⟩ := s_p1_ok hS hg
    rw [s_tk1, s_if_iff] at hg
    have fin : ∀ {acc' c'}, s_ar θ acc' (v :: vs) → p_cat (v :: vs) = c' → Nat.rec (motive := fun _ => s_L → s_L → Nat → Bool) (s_tk0 K) (fun _ ih => s_tk2 ih) n A acc' c' = true → ∃ A c' r, n + 1 ≤ (v :: V).length ∧ s_ar θ A (((v :: V).take (n + 1)).reverse ++ vs) ∧ p_cat (((v :: V).take (n + 1)).reverse ++ vs) = c' ∧ s_sr θ r ((v :: V).drop (n + 1)) ∧ K A c' r = true := by
      intro acc' c' h1 h2 h3
      obtain ⟨B, c2, r, g1, g2, g3, g4, g5⟩ := ih h3 hA h1 h2
      refine ⟨B, c2, r, by simp; omega, ?_, ?_, by simpa using g4, g5⟩
      · simpa using g2
      · simpa using g3
    rcases hg with ⟨e, hg⟩ | ⟨-, hg⟩
    · exact fin (Or.inl ⟨a, acc, rfl, e, hav, ha⟩) (by rw [p_cat_cons, s_v_one e hav, hc]; omega) hg
    · rw [s_and_iff] at hg
      exact fin (Or.inr ⟨a, acc, rfl, hg.1, hav, ha⟩) (by rw [p_cat_cons, s_v_two hg.1 hav, hc]; omega) hg.2
theorem s_cat_ok : ∀ {S : s_L} {st : List Value}, s_sr θ S st → p_cat st ≤ s_cat S := by
  intro S
  induction S with
  | nil => intro st hS; rw [s_sr_nil hS]; exact Nat.le_refl 0
  | cons a A ih =>
    intro st hS
    obtain ⟨v, V, rfl, ⟨h0, h1⟩, h2⟩ := s_sr_cons hS
    have := ih h2
    rw [p_cat_cons]
    show _ ≤ Nat.add (Bool.rec (motive := fun _ => Nat) 2 1 (s_one (s_t a))) (s_cat A)
    cases e : s_one (s_t a) with
    | true =>
      rw [s_v_one e h1]
      show 1 + p_cat V ≤ 1 + s_cat A
      omega
    | false =>
      have : v.category ≤ 2 := by cases v <;> simp [Value.category]
      show v.category + p_cat V ≤ 2 + s_cat A
      omega
theorem s_inv1_ok {b : Nat} {K : Nat → s_L → Nat → s_L → Bool} {q : Nat × Int} (hS : s_sr θ S st) (hg : s_inv1 b S K q = true) : ∃ A c r, q.2.toNat ≤ st.length ∧ p_cat (st.drop q.2.toNat) ≤ b ∧ s_ar θ A (st.take q.2.toNat).reverse ∧ p_cat (st.take q.2.toNat).reverse = c ∧ s_sr θ r (st.drop q.2.toNat) ∧ K q.1 A c r = true := by
  obtain ⟨A, c, r, g1, g2, g3, g4, g5⟩ := s_tk_ok (θ := θ) (vs := []) hg hS rfl rfl
  rw [List.append_nil] at g2 g3
  rw [s_inv2, s_and_iff] at g5
  exact ⟨A, c, r, g1, Nat.le_trans (s_cat_ok g4) (Nat.le_of_ble_eq_true g5.1), g2, g3, g4, g5.2⟩
theorem s_lr0 {A : s_L} {vs : List Value} (hA : s_ar θ A vs) : s_lr θ A (lv_args 0 vs) := by
  intro i a hi ha
  have := s_ar_lr 0 hA i a hi ha
  rw [Nat.zero_add] at this
  exact this
theorem s_ret1_ok {r : s_L} {V : List Value} (hn : s_OK θ R KS hd d M nx (pc + 3)) (hL : s_lr θ L ls) (hV : s_sr θ r V) : ∀ F' H' a v h2, s_ret1 nx L r F' H' a = true → s_FO θ F' → s_hr θ H' h2 → s_an θ a v → s_Out θ R KS hd d M (pc + 3) ls (v.toList ++ V) h2 := by
  intro F' H' a v h2 hg hF hH ha
  rw [s_ret1, s_if_iff] at hg
  cases v with
  | none =>
    rcases hg with ⟨-, hg⟩ | ⟨e, hg⟩
    · exact hn _ _ _ _ _ _ _ hg ⟨hF, hH, hL, hV⟩
    · rw [show s_t a = 8 from ha] at e; cases e
  | some w =>
    rcases hg with ⟨e, hg⟩ | ⟨e, hg⟩
    · have h8 := Nat.eq_of_beq_eq_true e
      have ha : s_sv θ a w := ha
      cases a with
      | inl z => cases h8
      | inr q =>
        obtain ⟨t, x⟩ := q
        have h8 : t = 8 := h8
        subst h8
        exact ha.2.elim
    · exact hn _ _ _ _ _ _ _ hg ⟨hF, hH, hL, ha, hV⟩
theorem s_k_call {b : Nat} {q : Nat × Int} {K : Nat → s_L → Nat → s_L → Bool} (hn : s_OK θ R KS hd d M nx (pc + 3)) (hC : s_CO θ d C) (hat : p_at pc M.2.2.2.2.1 = some (i, len)) (hr : s_Rl θ F H L S ls st h) (hs : ∀ A c r, q.2.toNat ≤ st.length → p_cat (st.drop q.2.toNat) ≤ b → s_ar θ A (st.take q.2.toNat).reverse → K q.1 A c r = true → p_step p_GT p_MT M i pc ls st h = some (.inr (.inr (q.1, (st.take q.2.toNat).reverse, st.drop q.2.toNat))) ∧ C q.1 A c F H (s_ret1 nx L r) = true) (hg : s_inv1 b S K q = true) : s_Out θ R KS hd d M pc ls st h := by
  obtain ⟨A, c, r, g1, g2, g3, g4, g5, g6⟩ := s_inv1_ok hr.2.2.2 hg
  obtain ⟨e1, e2⟩ := hs A c r g1 g2 g3 g6
  exact s_Out.call hat e1 hC e2 hr.1 hr.2.1 (s_lr0 g3) g4 (s_ret1_ok hn hr.2.2.1 g5)
theorem p_cpy_get {vs ws : List Value} {sp dp n i : Nat} (h1 : sp + n ≤ vs.length) (h2 : dp + n ≤ ws.length) : (p_cpy vs ws sp dp n)[i]? = if i < dp then ws[i]? else if i < dp + n then vs[sp + (i - dp)]? else ws[i]? := by
  unfold p_cpy
  have e1 : (ws.take dp).length = dp := by simp; omega
  have e2 : ((vs.drop sp).take n).length = n := by simp; omega
  rw [List.getElem?_append]
  rw [e1]
  split
  · next hi => rw [List.getElem?_take, if_pos hi]
  · next hi =>
    rw [List.getElem?_append, e2]
    split
    · next hj =>
      rw [if_pos (by omega), List.getElem?_take, if_pos hj, List.getElem?_drop]
    · next hj =>
      rw [if_neg (by omega), List.getElem?_drop]
      congr 1; omega
def s_tr (θ : Nat → Int32) (t : Lean.RArray s_V) (vs : List Value) : Prop := ∀ i, s_t (t.get i) ≠ 0 → ∃ v, vs[i]? = some v ∧ s_v θ (t.get i) v
theorem s_cpl_ok {vt : Lean.RArray s_V} {vs : List Value} {K : Lean.RArray s_V → Bool} (hv : s_tr θ vt vs) : ∀ {n sp dp : Nat} {wt : Lean.RArray s_V} {ws : List Value}, s_tr θ wt ws → sp + n ≤ vs.length → dp + n ≤ ws.length → s_cpl vt n sp dp wt K = true → ∃ wt', K wt' = true ∧ s_tr θ wt' (p_cpy vs ws sp dp n) ∧ ((vs.drop sp).take n).all (fits .int) = true := by
  intro n
  induction n with
  | zero =>
    intro sp dp wt ws hw h1 h2 hg
    refine ⟨wt, hg, ?_, by simp⟩
    have : p_cpy vs ws sp dp 0 = ws := by simp [p_cpy]
    rw [this]; exact hw
  | succ n ih =>
    intro sp dp wt ws hw h1 h2 hg
    have hg : s_fv (Lean.RArray.get vt sp) (fun v => s_and (s_isi (s_t v)) (s_and (Nat.ble 1 (s_t (Lean.RArray.get wt dp))) (s_set wt dp v (fun ws => s_cpl vt n (Nat.succ sp) (Nat.succ dp) ws K)))) = true := hg
    obtain ⟨h0, hg⟩ := s_fv_ok hg
    rw [s_and_iff, s_and_iff] at hg
    obtain ⟨v, v1, v2⟩ := hv sp h0
    obtain ⟨T, g1, g2⟩ := s_set_ok (t := wt) (n := dp) (v := Lean.RArray.get vt sp) (K := fun ws => s_cpl vt n (Nat.succ sp) (Nat.succ dp) ws K)
    have hg2 := hg.2.2
    rw [g1] at hg2
    have hT : s_tr θ T (ws.set dp v) := by
      intro i hi
      rw [g2] at hi ⊢
      by_cases e : i = dp
      · subst e
        rw [if_pos rfl]
        exact ⟨v, List.getElem?_set_self (by omega), v2⟩
      · rw [if_neg e] at hi ⊢
        obtain ⟨w, w1, w2⟩ := hw i hi
        exact ⟨w, by rw [List.getElem?_set_ne (Ne.symm e)]; exact w1, w2⟩
    obtain ⟨wt', k1, k2, k3⟩ := ih hT (by omega) (by rw [List.length_set]; omega) hg2
    have e : p_cpy vs (ws.set dp v) (sp + 1) (dp + 1) n = p_cpy vs ws sp dp (n + 1) := by
      apply List.ext_getElem?
      intro i
      rw [p_cpy_get (by omega) (by rw [List.length_set]; omega), p_cpy_get (by omega) (by omega)]
      by_cases c1 : i < dp
      · rw [if_pos (by omega), if_pos c1, List.getElem?_set_ne (by omega)]
      · rw [if_neg c1]
        by_cases c2 : i = dp
        · subst c2
          rw [if_pos (by omega), if_pos (by omega), List.getElem?_set_self (by omega), Nat.sub_self, Nat.add_zero, v1]
        · rw [if_neg (by omega)]
          by_cases c3 : i < dp + (n + 1)
          · rw [if_pos (by omega), if_pos c3]
            congr 1; omega
          · rw [if_neg (by omega), if_neg c3, List.getElem?_set_ne (by omega)]
    refine ⟨wt', k1, by rw [← e]; exact k2, ?_⟩
    have e2 : (vs.drop sp).take (n + 1) = v :: (vs.drop (sp + 1)).take n := by
      rw [List.drop_eq_getElem_cons (by omega), List.take_succ_cons]
      rw [List.getElem?_eq_getElem (by omega)] at v1
      rw [Option.some.inj v1]
    rw [e2, List.all_cons, k3, Bool.and_true]
    obtain ⟨x, rfl⟩ := s_v_i hg.1 v2
    rfl
theorem s_ints_ok {t : Lean.RArray s_V} : ∀ {lo hi i : Nat}, s_ints t lo hi = true → lo ≤ i → i < hi → s_isi (s_t (t.get i)) = true := by
  induction t with
  | leaf v =>
    intro lo hi i hg h1 h2
    have hg : s_if (Nat.ble hi lo) true (s_isi (s_t v)) = true := hg
    rcases s_if_iff.mp hg with ⟨e, -⟩ | ⟨-, e⟩
    · have := Nat.le_of_ble_eq_true e; omega
    · exact e
  | branch p l r il ir =>
    intro lo hi i hg h1 h2
    have hg : s_and (s_ints l lo (min p hi)) (s_ints r (max p lo) hi) = true := hg
    rw [s_and_iff] at hg
    rw [s_gb]
    split
    · exact ir hg.2 (by omega) h2
    · exact il hg.1 h1 (by omega)
theorem s_tr_all {t : Lean.RArray s_V} {vs : List Value} (hv : s_tr θ t vs) (hi : ∀ i, i < vs.length → s_isi (s_t (t.get i)) = true) : vs.all (fits .int) = true := by
  rw [List.all_eq_true]
  intro v hm
  obtain ⟨i, hl, rfl⟩ := List.getElem_of_mem hm
  have h1 := hi i hl
  obtain ⟨w, w1, w2⟩ := hv i (s_tzi h1)
  obtain ⟨x, rfl⟩ := s_v_i h1 w2
  rw [List.getElem?_eq_getElem hl] at w1
  rw [Option.some.inj w1]; rfl
theorem s_copy_ok {nn dp dd sp o : s_V} {v1 v2 v3 v4 v5 : Value} {V : List Value} {K : s_F → s_H → Bool} (hF : s_FO θ F) (hH : s_hr θ H h) (h1 : s_v θ nn v1) (h2 : s_v θ dp v2) (h3 : s_v θ dd v3) (h4 : s_v θ sp v4) (h5 : s_v θ o v5) (hc : p_cat V ≤ 8) (hg : s_copy nn dp dd sp o F H K = true) : ∃ (F' : s_F) (H' : s_H) (h' : p_H) (n' dp' sp' : Int32) (d' s0 : Nat), K F' H' = true ∧ s_FO θ F' ∧ s_hr θ H' h' ∧ v1 = .int n' ∧ v2 = .int dp' ∧ v3 = .ref d' ∧ v4 = .int sp' ∧ v5 = .ref s0 ∧ ∀ pc ls, p_copy n' dp' d' sp' s0 pc ls V h = some (.inl (pc, ls, V, h')) := by
  obtain ⟨n1, F1, g1, hF1, rfl, b1⟩ := s_ix_ok hF h1 hg
  obtain ⟨n2, F2, g2, hF2, rfl, b2⟩ := s_ix_ok hF1 h2 g1
  obtain ⟨n3, F3, g3, hF3, rfl, b3⟩ := s_ix_ok hF2 h4 g2
  obtain ⟨s0, rfl, g4⟩ := s_ref_ok h5 g3
  obtain ⟨d', rfl, g5⟩ := s_ref_ok h3 g4
  rw [s_and_iff, s_and_iff, s_and_iff, s_and_iff, s_and_iff, s_and_iff] at g5
  obtain ⟨k1, k2, k3, k4, k5, k6, k7⟩ := g5
  obtain ⟨⟨as_, at_, av⟩, e1, e2⟩ := hH.at k1 (by decide)
  obtain ⟨⟨bs, bt, bv⟩, f1, f2⟩ := hH.at k3 (by decide)
  have q1 : as_ = 1 := e2.1.trans (Nat.eq_of_beq_eq_true k1)
  have q2 : at_ = 0 := e2.2.1.trans (Nat.eq_of_beq_eq_true k2)
  have q3 : bs = 1 := f2.1.trans (Nat.eq_of_beq_eq_true k3)
  have q4 : bt = 0 := f2.2.1.trans (Nat.eq_of_beq_eq_true k4)
  subst q1; subst q2; subst q3; subst q4
  have la : av.length = (H.1.get s0).2.2.1 := e2.2.2.1
  have lb : bv.length = (H.1.get d').2.2.1 := f2.2.2.1
  have l1 := Nat.le_of_ble_eq_true k5
  have l2 := Nat.le_of_ble_eq_true k6
  obtain ⟨i1, i2⟩ := s_i_nat b1
  obtain ⟨i3, i4⟩ := s_i_nat b2
  obtain ⟨i5, i6⟩ := s_i_nat b3
  have hav : s_tr θ (H.1.get s0).2.2.2 av := e2.2.2.2
  have hbv : s_tr θ (H.1.get d').2.2.2 bv := f2.2.2.2
  have fin : ∀ (ws : List Value), ((av.drop n3).take n1).all (fits .int) = true → ws = p_cpy av bv n3 n2 n1 → ∀ pc ls, p_copy (Int32.ofNat n1) (Int32.ofNat n2) d' (Int32.ofNat n3) s0 pc ls V h = some (.inl (pc, ls, V, h.set d' (1, 0, ws))) := by
    intro ws ha hws pc ls
    simp only [p_copy, e1, f1]
    rw [i1, i3, i5, if_pos ⟨i6, i4, i2, by omega, by omega, ha, hc⟩, hws]; rfl
  rw [s_if_iff] at k7
  rcases k7 with ⟨c, k7⟩ | ⟨-, k7⟩
  · simp only [Bool.and_eq_true] at c
    have c1 := Nat.eq_of_beq_eq_true c.1
    have c2 := Nat.eq_of_beq_eq_true c.2.1
    have c3 := Nat.eq_of_beq_eq_true c.2.2.1
    have c4 := Nat.eq_of_beq_eq_true c.2.2.2
    rw [s_and_iff] at k7
    obtain ⟨H', m1, m2⟩ := hH.whole (ws := av) f1 f2 (by show av.length = bv.length; omega) hav k7.2
    have hall : av.all (fits .int) = true := s_tr_all hav (fun i hi => s_ints_ok k7.1 (Nat.zero_le i) (by omega))
    refine ⟨F3, H', _, _, _, _, d', s0, m1, hF3, m2, rfl, rfl, rfl, rfl, rfl, fin av ?_ ?_⟩
    · rw [c1, List.drop_zero, List.take_of_length_le (by omega)]; exact hall
    · subst c1; subst c2
      simp only [p_cpy, List.take_zero, List.nil_append, List.drop_zero, Nat.zero_add]
      rw [List.take_of_length_le (by omega), List.drop_of_length_le (by omega), List.append_nil]
  · obtain ⟨wt', m1, m2, m3⟩ := s_cpl_ok hav hbv (by omega) (by omega) k7
    obtain ⟨H', m4, m5⟩ := hH.whole (ws := p_cpy av bv n3 n2 n1) f1 f2 (p_cpy_len (by omega) (by show n2 + n1 ≤ bv.length; omega)) m2 m1
    exact ⟨F3, H', _, _, _, _, d', s0, m4, hF3, m5, rfl, rfl, rfl, rfl, rfl, fin _ m3 rfl⟩
end SK6

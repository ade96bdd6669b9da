/-! What a run comes to: it returns, or it is at the stop -/
def s_an (θ : Nat → Int32) (a : s_V) (v : Option Value) : Prop := match v with
  | none => s_t a = 8
  | some w => s_sv θ a w
def s_Rl (θ : Nat → Int32) (F : s_F) (H : s_H) (L S : s_L) (ls : p_Ls) (st : List Value) (h : p_H) : Prop := s_FO θ F ∧ s_hr θ H h ∧ s_lr θ L ls ∧ s_sr θ S st
def s_Out (θ : Nat → Int32) (R : s_K) (KS : s_T) (hd d : Nat) (M : p_M) (pc : Nat) (ls : p_Ls) (st : List Value) (h : p_H) : Prop :=
  (∃ F H a v h2, R F H a = true ∧ s_FO θ F ∧ s_hr θ H h2 ∧ s_an θ a v ∧ p_wp p_GT p_MT d M pc ls st h (fun v' h' => v' = v ∧ h' = h2)) ∨
  (∃ F H L S ls' st' h', KS F H L S = true ∧ s_Rl θ F H L S ls' st' h' ∧ ∀ Q, p_wp p_GT p_MT d M hd ls' st' h' Q → p_wp p_GT p_MT d M pc ls st h Q)
def s_OK (θ : Nat → Int32) (R : s_K) (KS : s_T) (hd d : Nat) (M : p_M) (nx : s_T) (pc : Nat) : Prop := ∀ F H L S ls st h, nx F H L S = true → s_Rl θ F H L S ls st h → s_Out θ R KS hd d M pc ls st h
/-- what a call comes to -/
def s_CO (θ : Nat → Int32) (d : Nat) (C : s_CC) : Prop := ∀ m A c F H K vs h, C m A c F H K = true → s_FO θ F → s_hr θ H h → s_lr θ A (lv_args 0 vs) → p_cat vs = c → ∃ M' dc F' H' a v h2, p_MT[m]? = some M' ∧ p_cat vs ≤ M'.2.2.1 ∧ dc + 1 ≤ d ∧ K F' H' a = true ∧ s_FO θ F' ∧ s_hr θ H' h2 ∧ s_an θ a v ∧ p_wp p_GT p_MT dc M' 0 (lv_args 0 vs) [] h (fun v' h' => v' = v ∧ h' = h2)
section SK
variable {θ : Nat → Int32} {R : s_K} {KS : s_T} {hd d : Nat} {M : p_M} {pc : Nat} {ls : p_Ls} {st : List Value} {h : p_H} {i : Instr} {len : Nat} {nx : s_T} {J : s_J} {C : s_CC} {F : s_F} {H : s_H} {L S : s_L} {n : Nat}
theorem s_Out.step (hat : p_at pc M.2.2.2.2.1 = some (i, len)) {pc' : Nat} {ls' : p_Ls} {st' : List Value} {h' : p_H} (hs : p_step p_GT p_MT M i pc ls st h = some (.inl (pc', ls', st', h'))) (hO : s_Out θ R KS hd d M pc' ls' st' h') : s_Out θ R KS hd d M pc ls st h := by
  rcases hO with ⟨F, H, a, v, h2, g1, g2, g3, g4, g5⟩ | ⟨F, H, L, S, ls1, st1, h1, g1, g2, g3⟩
  · exact Or.inl ⟨F, H, a, v, h2, g1, g2, g3, g4, p_wp.step hat hs g5⟩
  · exact Or.inr ⟨F, H, L, S, ls1, st1, h1, g1, g2, fun Q hq => p_wp.step hat hs (g3 Q hq)⟩
theorem s_Out.call (hat : p_at pc M.2.2.2.2.1 = some (i, len)) {m : Nat} {as rest : List Value} {A : s_L} {c : Nat} {K : s_K} (hs : p_step p_GT p_MT M i pc ls st h = some (.inr (.inr (m, as, rest)))) (hC : s_CO θ d C) (hg : C m A c F H K = true) (hF : s_FO θ F) (hH : s_hr θ H h) (hA : s_lr θ A (lv_args 0 as)) (hc : p_cat as = c)
    (hk : ∀ F' H' a v h2, K F' H' a = true → s_FO θ F' → s_hr θ H' h2 → s_an θ a v → s_Out θ R KS hd d M (pc + 3) ls (v.toList ++ rest) h2) : s_Out θ R KS hd d M pc ls st h := by
  obtain ⟨M', dc, F', H', a, v, h2, e1, e2, e3, e4, e5, e6, e7, e8⟩ := hC m A c F H K as h hg hF hH hA hc
  rcases hk F' H' a v h2 e4 e5 e6 e7 with ⟨F, H, a, w, h3, g1, g2, g3, g4, g5⟩ | ⟨F, H, L, S, ls1, st1, h1, g1, g2, g3⟩
  · refine Or.inl ⟨F, H, a, w, h3, g1, g2, g3, g4, p_wp.call hat hs e1 e2 e3 e8 (fun v' h' hq => ?_)⟩
    rw [hq.1, hq.2]; exact g5
  · refine Or.inr ⟨F, H, L, S, ls1, st1, h1, g1, g2, fun Q hq => p_wp.call hat hs e1 e2 e3 e8 (fun v' h' hq' => ?_)⟩
    rw [hq'.1, hq'.2]; exact g3 Q hq
theorem s_tz {v : s_V} (h : Nat.beq (s_t v) 1 = true) : s_t v ≠ 0 := by rw [Nat.eq_of_beq_eq_true h]; decide
theorem s_tzi {v : s_V} (h : s_isi (s_t v) = true) : s_t v ≠ 0 := by intro q; rw [q] at h; cases h
theorem s_tzl {v : s_V} (h : s_long (s_t v) = true) : s_t v ≠ 0 := by intro q; rw [q] at h; cases h
theorem s_tzr {v : s_V} (h : s_isr (s_t v) = true) : s_t v ≠ 0 := by intro q; rw [q] at h; cases h
theorem s_tzo {v : s_V} (h : s_one (s_t v) = true) : s_t v ≠ 0 := by intro q; rw [q] at h; cases h
/-! pushes -/
theorem s_k_push (hn : s_OK θ R KS hd d M nx (pc + n)) (hat : p_at pc M.2.2.2.2.1 = some (i, len)) (hr : s_Rl θ F H L S ls st h) {a : s_V} {v : Value} (hs : p_step p_GT p_MT M i pc ls st h = some (.inl (pc + n, ls, v :: st, h))) (hv : s_sv θ a v) (hg : nx F H L (a :: S) = true) : s_Out θ R KS hd d M pc ls st h :=
  s_Out.step hat hs (hn _ _ _ _ _ _ _ hg ⟨hr.1, hr.2.1, hr.2.2.1, hv, hr.2.2.2⟩)
theorem s_k_w (hn : s_OK θ R KS hd d M nx (pc + n)) (hat : p_at pc M.2.2.2.2.1 = some (i, len)) (hr : s_Rl θ F H L S ls st h) {z : Int} (hs : p_step p_GT p_MT M i pc ls st h = some (.inl (pc + n, ls, .int (Int32.ofInt z) :: st, h))) (hg : s_w z (s_nz nx F H L S) = true) : s_Out θ R KS hd d M pc ls st h := by
  obtain ⟨z', g1, g2, g3⟩ := s_w_eq z (s_nz nx F H L S)
  rw [g3] at hg
  exact s_k_push hn hat hr (a := .inl z') hs ⟨by show (1 : Nat) ≠ 0; decide, g1, by rw [g2]⟩ hg
theorem s_8 {z : Int} (h1 : -128 ≤ z) (h2 : z < 128) : (Int8.ofInt z).toInt32 = Int32.ofInt z := by
  rw [← Int8.ofInt_toInt (Int8.ofInt z)]
  apply Int32.toInt_inj.mp
  rw [Int8.toInt_toInt32, Int8.ofInt_toInt, s_I_eq ⟨by omega, by omega⟩]
  exact Int8.toInt_ofInt_of_le (by omega) (by omega)
theorem s_16 {z : Int} (h1 : -32768 ≤ z) (h2 : z < 32768) : (Int16.ofInt z).toInt32 = Int32.ofInt z := by
  apply Int32.toInt_inj.mp
  rw [Int16.toInt_toInt32, s_I_eq ⟨by omega, by omega⟩]
  exact Int16.toInt_ofInt_of_le (by omega) (by omega)
theorem s_pk_ok {x t : Nat} {P : List p_P} {K : Nat → Int → Bool} (h : s_pk x t P K = true) : ∃ q, p_pk x t P = some q ∧ K q.1 q.2 = true := by
  unfold s_pk at h
  cases e : p_pk x t P with
  | none => rw [e] at h; cases h
  | some q => rw [e] at h; exact ⟨q, rfl, h⟩
/-! variables -/
theorem s_k_ldi {k : Nat} (hn : s_OK θ R KS hd d M nx (pc + n)) (hat : p_at pc M.2.2.2.2.1 = some (i, len)) (hr : s_Rl θ F H L S ls st h) (hs : ∀ x, p_lk k ls = some (.int x) → p_step p_GT p_MT M i pc ls st h = some (.inl (pc + n, ls, .int x :: st, h))) (hg : s_nth L k (s_nwi nx F H L S) = true) : s_Out θ R KS hd d M pc ls st h := by
  obtain ⟨a, ha, hg⟩ := s_nth_ok hg
  rw [s_nwi, s_and_iff] at hg
  obtain ⟨v, hv1, hv2⟩ := hr.2.2.1 k a ha (s_tzi hg.1)
  obtain ⟨x, rfl⟩ := s_v_i hg.1 hv2
  exact s_k_push hn hat hr (hs x hv1) ⟨s_tzi hg.1, hv2⟩ hg.2
theorem s_k_ldl {k : Nat} (hn : s_OK θ R KS hd d M nx (pc + n)) (hat : p_at pc M.2.2.2.2.1 = some (i, len)) (hr : s_Rl θ F H L S ls st h) (hs : ∀ x, p_lk k ls = some (.long x) → p_step p_GT p_MT M i pc ls st h = some (.inl (pc + n, ls, .long x :: st, h))) (hg : s_nth L k (s_nwl nx F H L S) = true) : s_Out θ R KS hd d M pc ls st h := by
  obtain ⟨a, ha, hg⟩ := s_nth_ok hg
  rw [s_nwl, s_and_iff] at hg
  obtain ⟨v, hv1, hv2⟩ := hr.2.2.1 k a ha (s_tzl hg.1)
  obtain ⟨x, rfl⟩ := s_v_l hg.1 hv2
  exact s_k_push hn hat hr (hs x hv1) ⟨s_tzl hg.1, hv2⟩ hg.2
theorem s_k_lda {k : Nat} (hn : s_OK θ R KS hd d M nx (pc + n)) (hat : p_at pc M.2.2.2.2.1 = some (i, len)) (hr : s_Rl θ F H L S ls st h) (hs : ∀ x, p_lk k ls = some x → (x = .null ∨ ∃ a, x = .ref a) → p_step p_GT p_MT M i pc ls st h = some (.inl (pc + n, ls, x :: st, h))) (hg : s_nth L k (s_nwa nx F H L S) = true) : s_Out θ R KS hd d M pc ls st h := by
  obtain ⟨a, ha, hg⟩ := s_nth_ok hg
  rw [s_nwa, s_and_iff] at hg
  obtain ⟨v, hv1, hv2⟩ := hr.2.2.1 k a ha (s_tzr hg.1)
  exact s_k_push hn hat hr (hs v hv1 (s_v_r hg.1 hv2)) ⟨s_tzr hg.1, hv2⟩ hg.2
theorem s_k_sti {k : Nat} (hn : s_OK θ R KS hd d M nx (pc + n)) (hat : p_at pc M.2.2.2.2.1 = some (i, len)) (hr : s_Rl θ F H L S ls st h) (hs : ∀ x V, k < M.2.2.1 → st = .int x :: V → p_step p_GT p_MT M i pc ls st h = some (.inl (pc + n, p_s1 ls k (.int x), V, h))) (hg : s_sti k M pc nx J C R F H L S = true) : s_Out θ R KS hd d M pc ls st h := by
  obtain ⟨a, A, v, V, rfl, rfl, ⟨ha0, ha⟩, hA, hg⟩ := s_p1_ok hr.2.2.2 hg
  rw [s_sti1, s_and_iff, s_and_iff] at hg
  have hk := Nat.le_of_ble_eq_true hg.2.1
  obtain ⟨L', g1, g2⟩ := hr.2.2.1.st1 ha hg.2.2
  obtain ⟨x, rfl⟩ := s_v_i hg.1 ha
  exact s_Out.step hat (hs x V hk rfl) (hn _ _ _ _ _ _ _ g1 ⟨hr.1, hr.2.1, g2, hA⟩)
theorem s_k_sta {k : Nat} (hn : s_OK θ R KS hd d M nx (pc + n)) (hat : p_at pc M.2.2.2.2.1 = some (i, len)) (hr : s_Rl θ F H L S ls st h) (hs : ∀ v V, k < M.2.2.1 → st = v :: V → (v = .null ∨ ∃ x, v = .ref x) → p_step p_GT p_MT M i pc ls st h = some (.inl (pc + n, p_s1 ls k v, V, h))) (hg : s_sta k M pc nx J C R F H L S = true) : s_Out θ R KS hd d M pc ls st h := by
  obtain ⟨a, A, v, V, rfl, rfl, ⟨ha0, ha⟩, hA, hg⟩ := s_p1_ok hr.2.2.2 hg
  rw [s_sta1, s_and_iff, s_and_iff] at hg
  have hk := Nat.le_of_ble_eq_true hg.2.1
  obtain ⟨L', g1, g2⟩ := hr.2.2.1.st1 ha hg.2.2
  exact s_Out.step hat (hs v V hk rfl (s_v_r hg.1 ha)) (hn _ _ _ _ _ _ _ g1 ⟨hr.1, hr.2.1, g2, hA⟩)
theorem s_k_stl {k : Nat} (hn : s_OK θ R KS hd d M nx (pc + n)) (hat : p_at pc M.2.2.2.2.1 = some (i, len)) (hr : s_Rl θ F H L S ls st h) (hs : ∀ x V, k + 1 < M.2.2.1 → st = .long x :: V → p_step p_GT p_MT M i pc ls st h = some (.inl (pc + n, p_s2 ls k (.long x), V, h))) (hg : s_stl k M pc nx J C R F H L S = true) : s_Out θ R KS hd d M pc ls st h := by
  obtain ⟨a, A, v, V, rfl, rfl, ⟨ha0, ha⟩, hA, hg⟩ := s_p1_ok hr.2.2.2 hg
  rw [s_and_iff, s_and_iff] at hg
  have hk := Nat.le_of_ble_eq_true hg.2.1
  obtain ⟨x, rfl⟩ := s_v_l hg.1 ha
  obtain ⟨L', g1, g2⟩ := hr.2.2.1.st2 ha hg.2.2
  exact s_Out.step hat (hs x V hk rfl) (hn _ _ _ _ _ _ _ g1 ⟨hr.1, hr.2.1, g2, hA⟩)
theorem s_k_inc {k : Nat} {z : Int} (hn : s_OK θ R KS hd d M nx (pc + 3)) (hat : p_at pc M.2.2.2.2.1 = some (.iinc k z, len)) (hr : s_Rl θ F H L S ls st h) (hg : s_inc k z M pc nx J C R F H L S = true) : s_Out θ R KS hd d M pc ls st h := by
  obtain ⟨a, ha, hg⟩ := s_nth_ok hg
  rw [s_inc1, s_and_iff, s_and_iff] at hg
  obtain ⟨v, hv1, hv2⟩ := hr.2.2.1 k a ha (s_tz hg.1)
  have e := s_v_1 hg.1 hv2
  subst e
  have hk : k < M.2.2.1 := Nat.le_of_ble_eq_true hg.2.1
  obtain ⟨z', g1, g2, g3⟩ := s_w_eq z (s_inc3 k nx F H L S a)
  have hg3 := hg.2.2
  rw [g3] at hg3
  obtain ⟨b, F', k1, k2, k3, k4⟩ := s_op_ok (op := 1) (by decide) s_ok_add hr.1 hv2 (show s_v θ (.inl z') (.int (Int32.ofInt z)) from ⟨g1, by rw [g2]⟩) (fun q => by omega) hg3
  obtain ⟨L', l1, l2⟩ := hr.2.2.1.st1 k3 k1
  refine s_Out.step hat (pc' := pc + 3) (ls' := p_s1 ls k (.int (s_ov 1 (s_ev θ (s_x a)) (Int32.ofInt z)))) (st' := st) (h' := h) ?_ (hn _ _ _ _ _ _ _ l1 ⟨k2, hr.2.1, l2, hr.2.2.2⟩)
  simp only [p_step, hv1, p_sv]
  rw [if_pos hk]
  rfl
/-! arithmetic -/
theorem s_k_ib {op : Nat} {f : Int → Int → Int} (hop : op ≠ 0) (hf : s_cok op f) (h10 : op ≠ 10) (h11 : op ≠ 11) (hn : s_OK θ R KS hd d M nx (pc + 1)) (hat : p_at pc M.2.2.2.2.1 = some (i, len)) (hr : s_Rl θ F H L S ls st h) (hs : ∀ x y V, st = .int y :: .int x :: V → p_step p_GT p_MT M i pc ls st h = some (.inl (pc + 1, ls, .int (s_ov op x y) :: V, h))) (hg : s_ib op f M pc nx J C R F H L S = true) : s_Out θ R KS hd d M pc ls st h := by
  obtain ⟨b, a, A, w, v, V, rfl, rfl, ⟨hb0, hb⟩, ⟨ha0, ha⟩, hA, hg⟩ := s_p2_ok hr.2.2.2 hg
  have hx : ∃ x, v = .int x := by
    cases a with
    | inl z => exact ⟨_, ha.2⟩
    | inr q =>
      have hg : s_sy op f (.inr q) b F (s_nv nx H L A) = true := hg
      have hg : s_and (Nat.beq q.1 1) _ = true := hg
      rw [s_and_iff] at hg
      exact ⟨_, s_v_1 (a := .inr q) hg.1 ha⟩
  obtain ⟨x, rfl⟩ := hx
  have hy : ∃ y, w = .int y := by
    cases b with
    | inl z => exact ⟨_, hb.2⟩
    | inr q =>
      have hg : s_sy op f a (.inr q) F (s_nv nx H L A) = true := by cases a <;> exact hg
      obtain ⟨a', F1, h1, -⟩ := s_cz_ok hr.1 ha hg
      have h1 : s_and (Nat.beq q.1 1) _ = true := h1
      rw [s_and_iff] at h1
      exact ⟨_, s_v_1 (a := .inr q) h1.1 hb⟩
  obtain ⟨y, rfl⟩ := hy
  obtain ⟨r, F', k1, k2, k3, k4⟩ := s_op_ok hop hf hr.1 ha hb (fun q => by omega) hg
  exact s_Out.step hat (hs x y V rfl) (hn _ _ _ _ _ _ _ k1 ⟨k2, hr.2.1, hr.2.2.1, ⟨s_tz k4, k3⟩, hA⟩)
theorem s_k_iu {op : Nat} {f : Int → Int → Int} (hop : op ≠ 0) (hf : s_cok op f) (h10 : op ≠ 10) (h11 : op ≠ 11) (hn : s_OK θ R KS hd d M nx (pc + 1)) (hat : p_at pc M.2.2.2.2.1 = some (i, len)) (hr : s_Rl θ F H L S ls st h) (hs : ∀ x V, st = .int x :: V → p_step p_GT p_MT M i pc ls st h = some (.inl (pc + 1, ls, .int (s_ov op x 0) :: V, h))) (hg : s_iu op f M pc nx J C R F H L S = true) : s_Out θ R KS hd d M pc ls st h := by
  obtain ⟨a, A, v, V, rfl, rfl, ⟨ha0, ha⟩, hA, hg⟩ := s_p1_ok hr.2.2.2 hg
  have hx : ∃ x, v = .int x := by
    cases a with
    | inl z => exact ⟨_, ha.2⟩
    | inr q =>
      have hg : s_and (Nat.beq q.1 1) _ = true := hg
      rw [s_and_iff] at hg
      exact ⟨_, s_v_1 (a := .inr q) hg.1 ha⟩
  obtain ⟨x, rfl⟩ := hx
  obtain ⟨r, F', k1, k2, k3, k4⟩ := s_op_ok hop hf hr.1 ha (show s_v θ (.inl 0) (.int 0) from ⟨⟨by decide, by decide⟩, rfl⟩) (fun q => by omega) hg
  exact s_Out.step hat (hs x V rfl) (hn _ _ _ _ _ _ _ k1 ⟨k2, hr.2.1, hr.2.2.1, ⟨s_tz k4, k3⟩, hA⟩)
theorem s_k_id {op : Nat} {f : Int → Int → Int} (hop : op ≠ 0) (hf : s_cok op f) (hn : s_OK θ R KS hd d M nx (pc + 1)) (hat : p_at pc M.2.2.2.2.1 = some (i, len)) (hr : s_Rl θ F H L S ls st h) (hs : ∀ x y V, st = .int y :: .int x :: V → y ≠ 0 → p_step p_GT p_MT M i pc ls st h = some (.inl (pc + 1, ls, .int (s_ov op x y) :: V, h))) (hg : s_id op f M pc nx J C R F H L S = true) : s_Out θ R KS hd d M pc ls st h := by
  obtain ⟨b, a, A, w, v, V, rfl, rfl, ⟨hb0, hb⟩, ⟨ha0, ha⟩, hA, hg⟩ := s_p2_ok hr.2.2.2 hg
  obtain ⟨b', F1, h1, hF1, hb1, -⟩ := s_cz_ok hr.1 hb hg
  cases b' with
  | inr q => cases h1
  | inl z =>
    have h1 : s_and (s_nez z 0) (s_op op f a (.inl z) F1 (s_nv nx H L A)) = true := h1
    rw [s_and_iff] at h1
    have hz : ¬ z = 0 := (s_b_f s_eqz_iff).mp h1.1
    have hy := hb1.2
    have hy0 : Int32.ofInt z ≠ 0 := by
      intro q
      apply hz
      rw [← s_I_eq hb1.1, q]; rfl
    subst hy
    have hx : ∃ x, v = .int x := by
      cases a with
      | inl z => exact ⟨_, ha.2⟩
      | inr q =>
        have hg : s_and (Nat.beq q.1 1) _ = true := h1.2
        rw [s_and_iff] at hg
        exact ⟨_, s_v_1 (a := .inr q) hg.1 ha⟩
    obtain ⟨x, rfl⟩ := hx
    obtain ⟨r, F', k1, k2, k3, k4⟩ := s_op_ok hop hf hF1 ha hb1 (fun _ => hy0) h1.2
    exact s_Out.step hat (hs x _ V rfl hy0) (hn _ _ _ _ _ _ _ k1 ⟨k2, hr.2.1, hr.2.2.1, ⟨s_tz k4, k3⟩, hA⟩)
/-! jumps -/
theorem s_tgt_ok {off : Int} {K : Nat → Bool} (hg : s_tgt pc off K = true) : ∃ t, p_tg pc off = some t ∧ K t = true := by
  unfold s_tgt at hg
  cases e : p_tg pc off with
  | none => rw [e] at hg; cases hg
  | some t => rw [e] at hg; exact ⟨t, rfl, hg⟩
theorem s_k_goto {off : Int} (hJ : ∀ t, s_OK θ R KS hd d M (J t) t) (hat : p_at pc M.2.2.2.2.1 = some (.goto off, len)) (hr : s_Rl θ F H L S ls st h) (hg : s_goto off M pc nx J C R F H L S = true) : s_Out θ R KS hd d M pc ls st h := by
  obtain ⟨t, ht, hg⟩ := s_tgt_ok hg
  exact s_Out.step hat (by simp only [p_step, p_jm, ht]; rfl) (hJ t _ _ _ _ _ _ _ hg hr)
theorem s_vi {a b : s_V} {v : Value} {c : ClassFile.Cond} {K : Bool → s_F → Bool} (ha : s_v θ a v) (hg : s_cmp c a b F K = true) : ∃ x, v = .int x := by
  cases a with
  | inl z => exact ⟨_, ha.2⟩
  | inr q =>
    have hg : s_bsl c (.inr q) b F K = true := hg
    cases b with
    | inl y =>
      have hg : s_and (Nat.beq q.1 1) _ = true := hg
      rw [s_and_iff] at hg
      exact ⟨_, s_v_1 (a := .inr q) hg.1 ha⟩
    | inr p =>
      have hg : s_and (Nat.beq q.1 1) _ = true := hg
      rw [s_and_iff] at hg
      exact ⟨_, s_v_1 (a := .inr q) hg.1 ha⟩
theorem s_vi2 {a b : s_V} {v : Value} {c : ClassFile.Cond} {K : Bool → s_F → Bool} (hb : s_v θ b v) (hg : s_cmp c a b F K = true) : ∃ x, v = .int x := by
  cases b with
  | inl z => exact ⟨_, hb.2⟩
  | inr q =>
    cases a with
    | inl x =>
      have hg : s_and (Nat.beq q.1 1) _ = true := hg
      rw [s_and_iff] at hg
      exact ⟨_, s_v_1 (a := .inr q) hg.1 hb⟩
    | inr p =>
      have hg : s_and (Nat.beq p.1 1) (s_and (Nat.beq q.1 1) _) = true := hg
      rw [s_and_iff, s_and_iff] at hg
      exact ⟨_, s_v_1 (a := .inr q) hg.2.1 hb⟩
theorem s_k_br {c : ClassFile.Cond} {off : Int} {t : Nat} {a b : s_V} {x y : Int32} {A : s_L} {V : List Value} (hn : s_OK θ R KS hd d M nx (pc + 3)) (hJ : ∀ t, s_OK θ R KS hd d M (J t) t) (hat : p_at pc M.2.2.2.2.1 = some (i, len)) (hr : s_Rl θ F H L A ls V h) (ht : p_tg pc off = some t) (hs : p_step p_GT p_MT M i pc ls st h = p_br (p_cd c x y) pc off ls V h) (ha : s_v θ a (.int x)) (hb : s_v θ b (.int y)) (hg : s_cmp c a b F (s_bk nx J H L A t) = true) : s_Out θ R KS hd d M pc ls st h := by
  obtain ⟨F', h1, hF'⟩ := s_cmp_ok hr.1 ha hb hg
  rw [s_bk, s_if_iff] at h1
  rcases h1 with ⟨e, h1⟩ | ⟨e, h1⟩
  · refine s_Out.step hat (pc' := t) (ls' := ls) (st' := V) (h' := h) ?_ (hJ t _ _ _ _ _ _ _ h1 ⟨hF', hr.2.1, hr.2.2.1, hr.2.2.2⟩)
    rw [hs, e]; simp only [p_br, ht]; rfl
  · refine s_Out.step hat (pc' := pc + 3) (ls' := ls) (st' := V) (h' := h) ?_ (hn _ _ _ _ _ _ _ h1 ⟨hF', hr.2.1, hr.2.2.1, hr.2.2.2⟩)
    rw [hs, e]; simp only [p_br, ht]; rfl
theorem s_k_br2 {c : ClassFile.Cond} {off : Int} (hn : s_OK θ R KS hd d M nx (pc + 3)) (hJ : ∀ t, s_OK θ R KS hd d M (J t) t) (hat : p_at pc M.2.2.2.2.1 = some (.if_icmp c off, len)) (hr : s_Rl θ F H L S ls st h) (hg : s_br2 c off M pc nx J C R F H L S = true) : s_Out θ R KS hd d M pc ls st h := by
  obtain ⟨t, ht, hg⟩ := s_tgt_ok hg
  obtain ⟨b, a, A, w, v, V, rfl, rfl, ⟨hb0, hb⟩, ⟨ha0, ha⟩, hA, hg⟩ := s_p2_ok hr.2.2.2 hg
  have hg : s_cmp c a b F (s_bk nx J H L A t) = true := hg
  obtain ⟨x, rfl⟩ := s_vi ha hg
  obtain ⟨y, rfl⟩ := s_vi2 hb hg
  exact s_k_br hn hJ hat ⟨hr.1, hr.2.1, hr.2.2.1, hA⟩ ht rfl ha hb hg
theorem s_k_br1 {c : ClassFile.Cond} {off : Int} (hn : s_OK θ R KS hd d M nx (pc + 3)) (hJ : ∀ t, s_OK θ R KS hd d M (J t) t) (hat : p_at pc M.2.2.2.2.1 = some (.ifCond c off, len)) (hr : s_Rl θ F H L S ls st h) (hg : s_br1 c off M pc nx J C R F H L S = true) : s_Out θ R KS hd d M pc ls st h := by
  obtain ⟨t, ht, hg⟩ := s_tgt_ok hg
  obtain ⟨a, A, v, V, rfl, rfl, ⟨ha0, ha⟩, hA, hg⟩ := s_p1_ok hr.2.2.2 hg
  have hg : s_cmp c a (.inl 0) F (s_bk nx J H L A t) = true := hg
  obtain ⟨x, rfl⟩ := s_vi ha hg
  exact s_k_br hn hJ hat ⟨hr.1, hr.2.1, hr.2.2.1, hA⟩ ht rfl ha (show s_v θ (.inl 0) (.int 0) from ⟨⟨by decide, by decide⟩, rfl⟩) hg
theorem s_k_null {off : Int} (hn : s_OK θ R KS hd d M nx (pc + 3)) (hJ : ∀ t, s_OK θ R KS hd d M (J t) t) (hat : p_at pc M.2.2.2.2.1 = some (.ifnull off, len)) (hr : s_Rl θ F H L S ls st h) (hg : s_brn true off M pc nx J C R F H L S = true) : s_Out θ R KS hd d M pc ls st h := by
  obtain ⟨a, A, v, V, rfl, rfl, ⟨ha0, ha⟩, hA, hg⟩ := s_p1_ok hr.2.2.2 hg
  rw [s_if_iff, s_if_iff, s_and_iff, s_if_iff] at hg
  rcases hg with ⟨e, ⟨-, hg⟩ | ⟨q, -⟩⟩ | ⟨-, e, ⟨-, hg⟩ | ⟨q, -⟩⟩
  · obtain ⟨t, ht, hg⟩ := s_tgt_ok hg
    have := s_v_null e ha
    subst this
    exact s_Out.step hat (by simp only [p_step, p_jm, ht]; rfl) (hJ t _ _ _ _ _ _ _ hg ⟨hr.1, hr.2.1, hr.2.2.1, hA⟩)
  · cases q
  · have := s_v_ref' e ha
    subst this
    exact s_Out.step hat rfl (hn _ _ _ _ _ _ _ hg ⟨hr.1, hr.2.1, hr.2.2.1, hA⟩)
  · cases q
theorem s_k_nonnull {off : Int} (hn : s_OK θ R KS hd d M nx (pc + 3)) (hJ : ∀ t, s_OK θ R KS hd d M (J t) t) (hat : p_at pc M.2.2.2.2.1 = some (.ifnonnull off, len)) (hr : s_Rl θ F H L S ls st h) (hg : s_brn false off M pc nx J C R F H L S = true) : s_Out θ R KS hd d M pc ls st h := by
  obtain ⟨a, A, v, V, rfl, rfl, ⟨ha0, ha⟩, hA, hg⟩ := s_p1_ok hr.2.2.2 hg
  rw [s_if_iff, s_if_iff, s_and_iff, s_if_iff] at hg
  rcases hg with ⟨e, ⟨q, -⟩ | ⟨-, hg⟩⟩ | ⟨-, e, ⟨q, -⟩ | ⟨-, hg⟩⟩
  · cases q
  · have := s_v_null e ha
    subst this
    exact s_Out.step hat rfl (hn _ _ _ _ _ _ _ hg ⟨hr.1, hr.2.1, hr.2.2.1, hA⟩)
  · cases q
  · obtain ⟨t, ht, hg⟩ := s_tgt_ok hg
    have := s_v_ref' e ha
    subst this
    exact s_Out.step hat (by simp only [p_step, p_jm, ht]; rfl) (hJ t _ _ _ _ _ _ _ hg ⟨hr.1, hr.2.1, hr.2.2.1, hA⟩)
/-! the stack -/
theorem s_k_dup (hn : s_OK θ R KS hd d M nx (pc + 1)) (hat : p_at pc M.2.2.2.2.1 = some (.dup, len)) (hr : s_Rl θ F H L S ls st h) (hg : s_dup M pc nx J C R F H L S = true) : s_Out θ R KS hd d M pc ls st h := by
  obtain ⟨a, A, v, V, rfl, rfl, ha, hA, hg⟩ := s_p1_ok hr.2.2.2 hg
  rw [s_and_iff] at hg
  exact s_Out.step hat (pc' := pc + 1) (ls' := ls) (st' := v :: v :: V) (h' := h) (by simp only [p_step]; rw [if_pos (s_v_one hg.1 ha.2)]; rfl) (hn _ _ _ _ _ _ _ hg.2 ⟨hr.1, hr.2.1, hr.2.2.1, ha, ha, hA⟩)
theorem s_k_pop (hn : s_OK θ R KS hd d M nx (pc + 1)) (hat : p_at pc M.2.2.2.2.1 = some (.pop, len)) (hr : s_Rl θ F H L S ls st h) (hg : s_pop M pc nx J C R F H L S = true) : s_Out θ R KS hd d M pc ls st h := by
  obtain ⟨a, A, v, V, rfl, rfl, ha, hA, hg⟩ := s_p1_ok hr.2.2.2 hg
  rw [s_and_iff] at hg
  exact s_Out.step hat (by simp only [p_step]; rw [if_pos (s_v_one hg.1 ha.2)]; rfl) (hn _ _ _ _ _ _ _ hg.2 ⟨hr.1, hr.2.1, hr.2.2.1, hA⟩)
theorem s_k_pop2 (hn : s_OK θ R KS hd d M nx (pc + 1)) (hat : p_at pc M.2.2.2.2.1 = some (.pop2, len)) (hr : s_Rl θ F H L S ls st h) (hg : s_pop2 M pc nx J C R F H L S = true) : s_Out θ R KS hd d M pc ls st h := by
  obtain ⟨a, A, v, V, rfl, rfl, ha, hA, hg⟩ := s_p1_ok hr.2.2.2 hg
  rw [s_and_iff] at hg
  obtain ⟨x, rfl⟩ := s_v_l hg.1 ha.2
  exact s_Out.step hat rfl (hn _ _ _ _ _ _ _ hg.2 ⟨hr.1, hr.2.1, hr.2.2.1, hA⟩)
theorem s_k_dup2 (hn : s_OK θ R KS hd d M nx (pc + 1)) (hat : p_at pc M.2.2.2.2.1 = some (.dup2, len)) (hr : s_Rl θ F H L S ls st h) (hg : s_dup2 M pc nx J C R F H L S = true) : s_Out θ R KS hd d M pc ls st h := by
  obtain ⟨a, b, A, v, w, V, rfl, rfl, ha, hb, hA, hg⟩ := s_p2_ok hr.2.2.2 hg
  rw [s_and_iff, s_and_iff] at hg
  exact s_Out.step hat (pc' := pc + 1) (ls' := ls) (st' := v :: w :: v :: w :: V) (h' := h) (by simp only [p_step]; rw [if_pos ⟨s_v_one hg.1 ha.2, s_v_one hg.2.1 hb.2⟩]; rfl) (hn _ _ _ _ _ _ _ hg.2.2 ⟨hr.1, hr.2.1, hr.2.2.1, ha, hb, ha, hb, hA⟩)
end SK

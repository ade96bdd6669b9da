/-! arrays and fields -/
section SK5
variable {θ : Nat → Int32} {R : s_K} {KS : s_T} {hd d : Nat} {M : p_M} {pc : Nat} {ls : p_Ls} {st : List Value} {h : p_H} {i : Instr} {len : Nat} {nx : s_T} {J : s_J} {C : s_CC} {F : s_F} {H : s_H} {L S : s_L} {n : Nat}
theorem s_i_nat {j : Nat} (hj : j ≤ 2147483647) : (Int32.ofNat j).toNatClampNeg = j ∧ ¬ Int32.ofNat j < 0 := by
  have h1 : (Int32.ofNat j).toInt = j := by rw [← s_on]; exact s_I_eq ⟨by simp only [Int.ofNat_eq_natCast]; omega, by simp only [Int.ofNat_eq_natCast]; omega⟩
  refine ⟨?_, fun q => ?_⟩
  · show (Int32.ofNat j).toInt.toNat = j
    rw [h1]; rfl
  · have := Int32.lt_iff_toInt_lt.mp q
    rw [h1] at this
    have h0 : (0 : Int32).toInt = 0 := rfl
    omega
theorem s_k_al {t1 t2 : Nat} (hn : s_OK θ R KS hd d M nx (pc + 1)) (hat : p_at pc M.2.2.2.2.1 = some (i, len)) (hr : s_Rl θ F H L S ls st h) (hs : ∀ j a V, st = .int j :: .ref a :: V → p_step p_GT p_MT M i pc ls st h = p_al t1 t2 j a (pc + 1) ls V h) (hg : s_al t1 t2 M pc nx J C R F H L S = true) : s_Out θ R KS hd d M pc ls st h := by
  obtain ⟨x, o, A, v, w, V, rfl, rfl, ⟨hx0, hx⟩, ⟨ho0, ho⟩, hA, hg⟩ := s_p2_ok hr.2.2.2 hg
  obtain ⟨a, rfl, hg⟩ := s_ref_ok ho hg
  rw [s_al2, s_and_iff, s_and_iff] at hg
  obtain ⟨j, F', hg1, hF', rfl, hj⟩ := s_ix_ok hr.1 hx hg.2.2
  obtain ⟨hv0, hg1⟩ := s_fv_ok hg1
  have hsort : ∃ dd, h[a]? = some dd ∧ s_cr θ (H.1.get a) dd ∧ (dd.1 = 1 ∨ dd.1 = 2) := by
    rcases s_if_iff.mp hg.2.1 with ⟨q, -⟩ | ⟨-, q⟩
    · obtain ⟨dd, e1, e2⟩ := hr.2.1.at q (by decide)
      exact ⟨dd, e1, e2, Or.inl (e2.1.trans (Nat.eq_of_beq_eq_true q))⟩
    · obtain ⟨dd, e1, e2⟩ := hr.2.1.at q (by decide)
      exact ⟨dd, e1, e2, Or.inr (e2.1.trans (Nat.eq_of_beq_eq_true q))⟩
  obtain ⟨⟨ds, dt, dv⟩, e1, e2, e3⟩ := hsort
  obtain ⟨y, e4, e5⟩ := e2.2.2.2 j hv0
  have hty : (Nat.beq dt t1 || Nat.beq dt t2) = true := by
    have : dt = (H.1.get a).2.1 := e2.2.1
    rw [this]
    rcases s_if_iff.mp hg.1 with ⟨q, -⟩ | ⟨-, q⟩
    · rw [q]; rfl
    · rw [q, Bool.or_true]
  have hso : (Nat.beq ds 1 || Nat.beq ds 2) = true := by
    rcases e3 with q | q
    · have q : ds = 1 := q
      subst q; rfl
    · have q : ds = 2 := q
      subst q; rfl
  obtain ⟨n1, n2⟩ := s_i_nat hj
  refine s_Out.step hat (pc' := pc + 1) (ls' := ls) (st' := y :: V) (h' := h) ?_ (hn _ _ _ _ _ _ _ hg1 ⟨hF', hr.2.1, hr.2.2.1, ⟨hv0, e5⟩, hA⟩)
  rw [hs _ a V rfl]
  simp only [p_al, e1]
  rw [hty, hso, Bool.and_self, if_pos rfl]
  simp only [p_ix, if_neg n2, n1]
  have e4 : dv[j]? = some y := e4
  rw [e4]; rfl
/-- an array's place is written -/
theorem s_put_ok {t : Nat} {x ix o : s_V} {v w z : Value} {K : s_F → s_H → Bool} (hF : s_FO θ F) (hH : s_hr θ H h) (hx : s_v θ x v) (hi : s_v θ ix w) (ho : s_v θ o z) (hg : s_put t x ix o F H K = true) : ∃ (F' : s_F) (H' : s_H) (a : Nat) (j : Int32) (h' : p_H), K F' H' = true ∧ s_FO θ F' ∧ s_hr θ H' h' ∧ w = .int j ∧ z = .ref a ∧ (∀ pc ls st, p_as t v j a pc ls st h = some (.inl (pc, ls, st, h'))) ∧ ∃ dv, h[a]? = some (1, t, dv) := by
  obtain ⟨a, rfl, hg⟩ := s_ref_ok ho hg
  rw [s_put1, s_and_iff, s_and_iff] at hg
  obtain ⟨j, F', hg1, hF', rfl, hj⟩ := s_ix_ok hF hi hg.2.2
  rw [s_put2, s_and_iff] at hg1
  obtain ⟨⟨ds, dt, dv⟩, e1, e2⟩ := hH.at hg.2.1 (by decide)
  have hds : ds = 1 := e2.1.trans (Nat.eq_of_beq_eq_true hg.2.1)
  have hdt : dt = t := e2.2.1.trans (Nat.eq_of_beq_eq_true hg.1)
  subst hds; subst hdt
  obtain ⟨H', k1, k2⟩ := hH.put e1 e2 (s_tnz hg1.1) hx hg1.2
  obtain ⟨n1, n2⟩ := s_i_nat hj
  obtain ⟨y, e4, -⟩ := e2.2.2.2 j (s_tnz hg1.1)
  have e4 : dv[j]? = some y := e4
  refine ⟨F', H', a, Int32.ofNat j, _, k1, hF', k2, rfl, rfl, fun pc ls st => ?_, dv, e1⟩
  simp only [p_as, e1]
  rw [Nat.beq_refl, Nat.beq_refl, Bool.and_self, if_pos rfl]
  simp only [p_ix, if_neg n2, n1, e4]
  rfl
theorem s_k_as {t : Nat} {w : Nat → Bool} (hn : s_OK θ R KS hd d M nx (pc + 1)) (hat : p_at pc M.2.2.2.2.1 = some (i, len)) (hr : s_Rl θ F H L S ls st h) (hs : ∀ x v j a V, st = v :: .int j :: .ref a :: V → w (s_t x) = true → s_v θ x v → p_step p_GT p_MT M i pc ls st h = p_as t v j a (pc + 1) ls V h) (hg : s_as t w M pc nx J C R F H L S = true) : s_Out θ R KS hd d M pc ls st h := by
  obtain ⟨x, ix, A, v, y, V, rfl, rfl, ⟨hx0, hx⟩, ⟨hi0, hi⟩, hA, hg⟩ := s_p2_ok hr.2.2.2 hg
  obtain ⟨o, A, z, V, rfl, rfl, ⟨ho0, ho⟩, hB, hg⟩ := s_p1_ok hA hg
  rw [s_and_iff] at hg
  obtain ⟨F', H', a, j, h', k1, k2, k3, rfl, rfl, k4, -⟩ := s_put_ok hr.1 hr.2.1 hx hi ho hg.2
  exact s_Out.step hat ((hs x v j a V rfl hg.1 hx).trans (k4 _ _ _)) (hn _ _ _ _ _ _ _ k1 ⟨k2, k3, hr.2.2.1, hB⟩)
theorem s_opv {op : Nat} {f : Int → Int → Int} {a b : s_V} {v : Value} {K : s_V → s_F → Bool} (ha : s_v θ a v) (hg : s_op op f a b F K = true) : ∃ x, v = .int x := by
  cases a with
  | inl z => exact ⟨_, ha.2⟩
  | inr q =>
    have hg : s_and (Nat.beq q.1 1) _ = true := hg
    rw [s_and_iff] at hg
    exact ⟨_, s_v_1 (a := .inr q) hg.1 ha⟩
theorem s_k_asb (hn : s_OK θ R KS hd d M nx (pc + 1)) (hat : p_at pc M.2.2.2.2.1 = some (.bastore, len)) (hr : s_Rl θ F H L S ls st h) (hg : s_asb M pc nx J C R F H L S = true) : s_Out θ R KS hd d M pc ls st h := by
  obtain ⟨x, ix, A, v, y, V, rfl, rfl, ⟨hx0, hx⟩, ⟨hi0, hi⟩, hA, hg⟩ := s_p2_ok hr.2.2.2 hg
  obtain ⟨o, A, z, V, rfl, rfl, ⟨ho0, ho⟩, hB, hg⟩ := s_p1_ok hA hg
  obtain ⟨a0, rfl, hg⟩ := s_ref_ok ho hg
  rw [s_if_iff] at hg
  rcases hg with ⟨e, hg⟩ | ⟨e, hg⟩
  · obtain ⟨u, rfl⟩ := s_opv hx hg
    obtain ⟨r, F1, k1, k2, k3, k4⟩ := s_op_ok (op := 12) (by decide) s_ok_i2b hr.1 hx (show s_v θ (.inl 0) (.int 0) from ⟨⟨by decide, by decide⟩, rfl⟩) (fun q => by omega) hg
    obtain ⟨F', H', a, j, h', g1, g2, g3, rfl, ea, g4, -⟩ := s_put_ok k2 hr.2.1 k3 hi ho k1
    cases ea
    refine s_Out.step hat (pc' := pc + 1) (ls' := ls) (st' := V) (h' := h') ?_ (hn _ _ _ _ _ _ _ g1 ⟨g2, g3, hr.2.2.1, hB⟩)
    simp only [p_step]
    rw [show narrow .byte (.int u) = .int (s_ov 12 u 0) from rfl, g4]
  · obtain ⟨u, rfl⟩ := s_opv hx hg
    obtain ⟨r, F1, k1, k2, k3, k4⟩ := s_op_ok (op := 4) (by decide) s_ok_and hr.1 hx (show s_v θ (.inl 1) (.int 1) from ⟨⟨by decide, by decide⟩, rfl⟩) (fun q => by omega) hg
    obtain ⟨F', H', a, j, h', g1, g2, g3, rfl, ea, g4, dv, g5⟩ := s_put_ok k2 hr.2.1 k3 hi ho k1
    cases ea
    refine s_Out.step hat (pc' := pc + 1) (ls' := ls) (st' := V) (h' := h') ?_ (hn _ _ _ _ _ _ _ g1 ⟨g2, g3, hr.2.2.1, hB⟩)
    have hno : ∀ q, p_as 1 q j a0 (pc + 1) ls V h = none := by
      intro q
      simp only [p_as, g5]
      rfl
    simp only [p_step, hno]
    rw [show narrow .boolean (.int u) = .int (s_ov 4 u 1) from rfl, g4]
theorem s_k_aas (hn : s_OK θ R KS hd d M nx (pc + 1)) (hat : p_at pc M.2.2.2.2.1 = some (.aastore, len)) (hr : s_Rl θ F H L S ls st h) (hg : s_aas M pc nx J C R F H L S = true) : s_Out θ R KS hd d M pc ls st h := by
  obtain ⟨x, ix, A, v, y, V, rfl, rfl, ⟨hx0, hx⟩, ⟨hi0, hi⟩, hA, hg⟩ := s_p2_ok hr.2.2.2 hg
  obtain ⟨o, A, z, V, rfl, rfl, ⟨ho0, ho⟩, hB, hg⟩ := s_p1_ok hA hg
  rw [s_if_iff] at hg
  rcases hg with ⟨e, hg⟩ | ⟨e, hg⟩
  · have := s_v_null e hx
    subst this
    obtain ⟨F', H', a, j, h', k1, k2, k3, rfl, rfl, k4, -⟩ := s_put_ok hr.1 hr.2.1 hx hi ho hg
    exact s_Out.step hat (k4 _ _ _) (hn _ _ _ _ _ _ _ k1 ⟨k2, k3, hr.2.2.1, hB⟩)
  · obtain ⟨b, rfl, hg⟩ := s_ref_ok hx hg
    rw [s_and_iff, s_and_iff] at hg
    obtain ⟨⟨ds, dt, dv⟩, e1, e2⟩ := hr.2.1.at hg.1 (by decide)
    have hds : ds = 0 := e2.1.trans (Nat.eq_of_beq_eq_true hg.1)
    have hdt : dt = 7 := e2.2.1.trans (Nat.eq_of_beq_eq_true hg.2.1)
    subst hds; subst hdt
    obtain ⟨F', H', a, j, h', k1, k2, k3, rfl, rfl, k4, -⟩ := s_put_ok hr.1 hr.2.1 hx hi ho hg.2.2
    refine s_Out.step hat (pc' := pc + 1) (ls' := ls) (st' := V) (h' := h') ?_ (hn _ _ _ _ _ _ _ k1 ⟨k2, k3, hr.2.2.1, hB⟩)
    simp only [p_step, e1]
    exact k4 _ _ _
theorem s_k_alen (hn : s_OK θ R KS hd d M nx (pc + 1)) (hat : p_at pc M.2.2.2.2.1 = some (.arraylength, len)) (hr : s_Rl θ F H L S ls st h) (hg : s_alen M pc nx J C R F H L S = true) : s_Out θ R KS hd d M pc ls st h := by
  obtain ⟨o, A, z, V, rfl, rfl, ⟨ho0, ho⟩, hA, hg⟩ := s_p1_ok hr.2.2.2 hg
  obtain ⟨a, rfl, hg⟩ := s_ref_ok ho hg
  rw [s_and_iff, s_and_iff, s_fn0_eq] at hg
  have hsort : ∃ dd, h[a]? = some dd ∧ s_cr θ (H.1.get a) dd ∧ (Nat.beq dd.1 1 || Nat.beq dd.1 2) = true := by
    rcases s_if_iff.mp hg.1 with ⟨q, -⟩ | ⟨-, q⟩
    · obtain ⟨dd, e1, e2⟩ := hr.2.1.at q (by decide)
      exact ⟨dd, e1, e2, by rw [e2.1, q]; rfl⟩
    · obtain ⟨dd, e1, e2⟩ := hr.2.1.at q (by decide)
      exact ⟨dd, e1, e2, by rw [e2.1, q, Bool.or_true]⟩
  obtain ⟨⟨ds, dt, dv⟩, e1, e2, e3⟩ := hsort
  have hl := Nat.le_of_ble_eq_true hg.2.1
  have hl2 : dv.length = (H.1.get a).2.2.1 := e2.2.2.1
  refine s_Out.step hat (pc' := pc + 1) (ls' := ls) (st' := .int (Int32.ofNat dv.length) :: V) (h' := h) ?_ (hn _ _ _ _ _ _ _ hg.2.2 ⟨hr.1, hr.2.1, hr.2.2.1, ⟨by show (1 : Nat) ≠ 0; decide, ⟨by show -2147483648 ≤ ((H.1.get a).2.2.1 : Int); omega, by show ((H.1.get a).2.2.1 : Int) ≤ 2147483647; omega⟩, by rw [hl2, s_on]⟩, hA⟩)
  simp only [p_step, e1]
  rw [e3, if_pos rfl]; rfl
theorem s_k_getf {x : Nat} (hn : s_OK θ R KS hd d M nx (pc + 3)) (hat : p_at pc M.2.2.2.2.1 = some (.getfield x, len)) (hr : s_Rl θ F H L S ls st h) (hg : s_getf x M pc nx J C R F H L S = true) : s_Out θ R KS hd d M pc ls st h := by
  obtain ⟨o, A, z, V, rfl, rfl, ⟨ho0, ho⟩, hA, hg⟩ := s_p1_ok hr.2.2.2 hg
  obtain ⟨⟨ci, k⟩, hp, hg⟩ := s_pk_ok hg
  obtain ⟨a, rfl, hg⟩ := s_ref_ok ho hg
  rw [s_getf3, s_and_iff, s_and_iff] at hg
  obtain ⟨hv0, hg1⟩ := s_fv_ok hg.2.2
  obtain ⟨⟨ds, dt, dv⟩, e1, e2⟩ := hr.2.1.at hg.1 (by decide)
  have hds : ds = 0 := e2.1.trans (Nat.eq_of_beq_eq_true hg.1)
  have hdt : dt = ci := e2.2.1.trans (Nat.eq_of_beq_eq_true hg.2.1)
  subst hds; subst hdt
  obtain ⟨y, e4, e5⟩ := e2.2.2.2 k.toNat hv0
  have e4 : dv[k.toNat]? = some y := e4
  refine s_Out.step hat (pc' := pc + 3) (ls' := ls) (st' := y :: V) (h' := h) ?_ (hn _ _ _ _ _ _ _ hg1 ⟨hr.1, hr.2.1, hr.2.2.1, ⟨hv0, e5⟩, hA⟩)
  simp only [p_step, p_getf, hp, e1]
  rw [Nat.beq_refl, if_pos rfl, e4]; rfl
theorem s_fits_ok {ty : FieldType} {a : s_V} {v : Value} (hF : s_FO θ F) (hv : s_v θ a v) (hg : s_fits ty a F = true) : p_fit ty v = true := by
  unfold s_fits at hg
  split at hg
  · obtain ⟨x, rfl, e | e⟩ := s_bool_ok hF hv hg
    · subst e; rfl
    · subst e; rfl
  · obtain ⟨x, rfl⟩ := s_v_i hg hv; rfl
  · obtain ⟨x, rfl⟩ := s_v_l hg hv; rfl
  · rcases s_v_r hg hv with rfl | ⟨x, rfl⟩ <;> rfl
  · rcases s_v_r hg hv with rfl | ⟨x, rfl⟩ <;> rfl
  · cases hg
theorem s_gty_ok {G : p_G} {ci : Nat} {k : Int} {K : FieldType → Bool → Bool} (hg : s_gty G ci k K = true) : ∃ q, (G[ci]?).bind (fun r => r[k.toNat]?) = some q ∧ K q.1 q.2 = true := by
  unfold s_gty at hg
  cases e : (G[ci]?).bind (fun r => r[k.toNat]?) with
  | none => rw [e] at hg; cases hg
  | some q => rw [e] at hg; exact ⟨q, rfl, hg⟩
theorem s_k_putf {x : Nat} (hn : s_OK θ R KS hd d M nx (pc + 3)) (hat : p_at pc M.2.2.2.2.1 = some (.putfield x, len)) (hr : s_Rl θ F H L S ls st h) (hg : s_putf p_GT x M pc nx J C R F H L S = true) : s_Out θ R KS hd d M pc ls st h := by
  obtain ⟨y, o, A, v, z, V, rfl, rfl, ⟨hy0, hy⟩, ⟨ho0, ho⟩, hA, hg⟩ := s_p2_ok hr.2.2.2 hg
  obtain ⟨⟨ci, k⟩, hp, hg⟩ := s_pk_ok hg
  obtain ⟨a, rfl, hg⟩ := s_ref_ok ho hg
  rw [s_putf3, s_and_iff, s_and_iff] at hg
  obtain ⟨⟨ty, fin⟩, hq, hg4⟩ := s_gty_ok hg.2.2
  rw [s_putf4, s_and_iff, s_and_iff, s_and_iff] at hg4
  obtain ⟨⟨ds, dt, dv⟩, e1, e2⟩ := hr.2.1.at hg.1 (by decide)
  have hds : ds = 0 := e2.1.trans (Nat.eq_of_beq_eq_true hg.1)
  have hdt : dt = ci := e2.2.1.trans (Nat.eq_of_beq_eq_true hg.2.1)
  subst hds; subst hdt
  obtain ⟨H', k1, k2⟩ := hr.2.1.put e1 e2 (s_tnz hg4.2.2.1) hy hg4.2.2.2
  obtain ⟨w, w1, -⟩ := e2.2.2.2 k.toNat (s_tnz hg4.2.2.1)
  have w1 : dv[k.toNat]? = some w := w1
  have hlt : Nat.blt k.toNat dv.length = true := Nat.ble_eq_true_of_le (List.getElem?_eq_some_iff.mp w1).1
  refine s_Out.step hat (pc' := pc + 3) (ls' := ls) (st' := V) (h' := h.set a (0, dt, dv.set k.toNat v)) ?_ (hn _ _ _ _ _ _ _ k1 ⟨hr.1, k2, hr.2.2.1, hA⟩)
  simp only [p_step, p_putf, hp, e1]
  rw [Nat.beq_refl, if_pos rfl]
  simp only [hq]
  have hfin : (!fin || (M.2.2.2.2.2.2.1 && Nat.beq M.2.2.2.2.2.2.2 dt)) = true := hg4.2.1
  rw [s_fits_ok hr.1 hy hg4.1, hfin, hlt, Bool.and_self, Bool.and_self, if_pos rfl]; rfl
theorem s_dv_ok {ty : FieldType} (hf : ty ≠ .float) (hd : ty ≠ .double) : s_v θ (s_dv ty) (defaultValue ty) := by
  cases ty <;> first | exact ⟨⟨by decide, by decide⟩, rfl⟩ | exact ⟨0, rfl, rfl⟩ | exact rfl | exact absurd rfl hf | exact absurd rfl hd
theorem s_row_ok : ∀ (row : List (FieldType × Bool)) (k i : Nat), s_t ((s_row k row).get (k + i)) ≠ 0 → ∃ v, (row.map (fun q => defaultValue q.1))[i]? = some v ∧ s_v θ ((s_row k row).get (k + i)) v := by
  intro row
  induction row with
  | nil => intro k i hi; exact absurd rfl hi
  | cons q r ih =>
    intro k i hi
    rw [s_row, s_gb] at hi ⊢
    cases i with
    | zero =>
      rw [if_neg (by omega)] at hi ⊢
      refine ⟨defaultValue q.1, rfl, ?_⟩
      rw [s_gl] at hi ⊢
      refine s_dv_ok (fun e => ?_) (fun e => ?_)
      · rw [e] at hi; exact absurd rfl hi
      · rw [e] at hi; exact absurd rfl hi
    | succ i =>
      rw [if_pos (by omega), show k + (i + 1) = (k + 1) + i by omega] at hi ⊢
      obtain ⟨v, h1, h2⟩ := ih (k + 1) i hi
      exact ⟨v, by simpa using h1, h2⟩
theorem s_k_new {x : Nat} (hn : s_OK θ R KS hd d M nx (pc + 3)) (hat : p_at pc M.2.2.2.2.1 = some (.new x, len)) (hr : s_Rl θ F H L S ls st h) (hg : s_new p_GT x M pc nx J C R F H L S = true) : s_Out θ R KS hd d M pc ls st h := by
  obtain ⟨⟨ci, k⟩, hp, hg⟩ := s_pk_ok hg
  simp only at hg
  cases e : p_GT[ci]? with
  | none => rw [e] at hg; cases hg
  | some row =>
    rw [e] at hg
    have hcr : s_cr θ (0, ci, row.length, s_row 0 row) (0, ci, row.map (fun q => defaultValue q.1)) := by
      refine ⟨rfl, rfl, by simp, fun i hi => ?_⟩
      have := s_row_ok (θ := θ) row 0 i (by rw [Nat.zero_add]; exact hi)
      rw [Nat.zero_add] at this
      exact this
    obtain ⟨H', r, k1, k2, k3⟩ := hr.2.1.mk hcr hg
    refine s_Out.step hat (pc' := pc + 3) (ls' := ls) (st' := .ref h.length :: st) (h' := h ++ [(0, ci, row.map (fun q => defaultValue q.1))]) ?_ (hn _ _ _ _ _ _ _ k1 ⟨hr.1, k2, hr.2.2.1, k3, hr.2.2.2⟩)
    simp only [p_step, p_new, hp, e]; rfl
theorem s_newn_ok {t : Nat} {dd nn : s_V} {v w : Value} {K : s_F → s_H → s_V → Bool} (hF : s_FO θ F) (hH : s_hr θ H h) (hd : s_v θ dd v) (hnn : s_v θ nn w) (hg : s_newn t dd nn F H K = true) : ∃ (F' : s_F) (H' : s_H) (r : s_V) (m : Int32) (h' : p_H), K F' H' r = true ∧ s_FO θ F' ∧ s_hr θ H' h' ∧ s_sv θ r (.ref h.length) ∧ w = .int m ∧ ∀ pc ls st, p_newa t v m pc ls st h = some (.inl (pc, ls, .ref h.length :: st, h')) := by
  obtain ⟨m, F', hg1, hF', rfl, hm⟩ := s_ix_ok hF hnn hg
  rw [s_and_iff] at hg1
  have hm2 := Nat.le_of_ble_eq_true hg1.1
  have hcr : s_cr θ (1, t, m, .branch m (.leaf dd) (.leaf s_u)) (1, t, List.replicate m v) := by
    refine ⟨rfl, rfl, by simp, fun i hi => ?_⟩
    replace hi : s_t ((Lean.RArray.branch m (.leaf dd) (.leaf s_u)).get i) ≠ 0 := hi
    show ∃ v', (List.replicate m v)[i]? = some v' ∧ s_v θ ((Lean.RArray.branch m (.leaf dd) (.leaf s_u)).get i) v'
    rw [s_gb] at hi ⊢
    split at hi
    · exact absurd rfl hi
    · next q =>
      rw [if_neg q]
      exact ⟨v, by rw [List.getElem?_replicate, if_pos (by omega)], hd⟩
  obtain ⟨H', r, k1, k2, k3⟩ := hH.mk hcr hg1.2
  obtain ⟨n1, n2⟩ := s_i_nat hm
  refine ⟨F', H', r, Int32.ofNat m, _, k1, hF', k2, k3, rfl, fun pc ls st => ?_⟩
  unfold p_newa
  rw [n1, if_pos ⟨n2, hm2⟩]; rfl
theorem s_k_newa {ty : ArrayType} (hn : s_OK θ R KS hd d M nx (pc + 2)) (hat : p_at pc M.2.2.2.2.1 = some (.newarray ty, len)) (hr : s_Rl θ F H L S ls st h) (hg : s_newa ty M pc nx J C R F H L S = true) : s_Out θ R KS hd d M pc ls st h := by
  obtain ⟨o, A, z, V, rfl, rfl, ⟨ho0, ho⟩, hA, hg⟩ := s_p1_ok hr.2.2.2 hg
  split at hg
  · next t ht =>
    have hdv : s_v θ (s_dv (newarray.typeOf ty)) (defaultValue (newarray.typeOf ty)) := by
      cases ty <;> first | exact ⟨⟨by decide, by decide⟩, rfl⟩ | exact ⟨0, rfl, rfl⟩ | cases ht
    obtain ⟨F', H', r, m, h', k1, k2, k3, k4, rfl, k5⟩ := s_newn_ok hr.1 hr.2.1 hdv ho hg
    refine s_Out.step hat (pc' := pc + 2) (ls' := ls) (st' := .ref h.length :: V) (h' := h') ?_ (hn _ _ _ _ _ _ _ k1 ⟨k2, k3, hr.2.2.1, k4, hA⟩)
    simp only [p_step, ht]
    exact k5 _ _ _
  · cases hg
theorem s_k_anew {x : Nat} (hn : s_OK θ R KS hd d M nx (pc + 3)) (hat : p_at pc M.2.2.2.2.1 = some (.anewarray x, len)) (hr : s_Rl θ F H L S ls st h) (hg : s_anew x M pc nx J C R F H L S = true) : s_Out θ R KS hd d M pc ls st h := by
  obtain ⟨o, A, z, V, rfl, rfl, ⟨ho0, ho⟩, hA, hg⟩ := s_p1_ok hr.2.2.2 hg
  obtain ⟨q, hp, hg⟩ := s_pk_ok hg
  obtain ⟨F', H', r, m, h', k1, k2, k3, k4, rfl, k5⟩ := s_newn_ok (v := .null) hr.1 hr.2.1 (show s_v θ (.inr (4, .leaf 0)) .null from rfl) ho hg
  refine s_Out.step hat (pc' := pc + 3) (ls' := ls) (st' := .ref h.length :: V) (h' := h') ?_ (hn _ _ _ _ _ _ _ k1 ⟨k2, k3, hr.2.2.1, k4, hA⟩)
  simp only [p_step, hp]
  exact k5 _ _ _
theorem s_k_gets {x : Nat} (hn : s_OK θ R KS hd d M nx (pc + 3)) (hat : p_at pc M.2.2.2.2.1 = some (.getstatic x, len)) (hr : s_Rl θ F H L S ls st h) (hg : s_gets x M pc nx J C R F H L S = true) : s_Out θ R KS hd d M pc ls st h := by
  obtain ⟨q, hp, hg⟩ := s_pk_ok hg
  exact s_k_push hn hat hr (a := .inr (17, .leaf 0)) (v := .ref 1) (by simp only [p_step, hp]; rfl) ⟨by show (17 : Nat) ≠ 0; decide, (show s_v θ (.inr (17, .leaf 0)) (.ref 1) from rfl)⟩ hg
end SK5

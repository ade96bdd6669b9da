/-! Arrays of the checker -/
section XAR
variable {E : x_E} {f : x_F} {G : p_G} {MT : List p_M} {M : p_M} {τ τ0 : Nat → Option Nat} {h h0 : p_H} {r : Nat → Int} {n pc : Nat} {F : q_F} {L S : List x_V} {Me : x_M} {u w : q_E} {ls : p_Ls} {st : List Value}
theorem x_clamp (x : Int32) : x.toNatClampNeg = x.toInt.toNat := rfl
theorem x_in0_ok {K : x_K} {e j : q_E} {i : Nat} {c : p_C} {x : Int32} (hg : x_in0 K F e j Me = true) (hF : q_FO r F) (hM : ∀ m ∈ Me, x_m E τ r n h m) (hi : (i : Int) = q_e r e) (hc : h[i]? = some c) (hl : K.2.2.2.2.2.2.1 ≤ c.2.2.length) (hx : x.toInt = q_e r j) : ¬ x < 0 ∧ x.toNatClampNeg < c.2.2.length ∧ (x.toNatClampNeg : Int) = q_e r j := by
  simp only [x_in0, Bool.and_eq_true, Bool.or_eq_true] at hg
  have g1 := q_ent_spec hF hg.1
  have hn : ¬ x < 0 := by rw [Int32.lt_iff_toInt_lt]; simp only [Int32.toInt_zero]; omega
  refine ⟨hn, ?_, by rw [x_clamp]; omega⟩
  rw [x_clamp]
  rcases hg.2 with g | g
  · have := q_ent_spec hF g
    rw [q_pl_e, q_sub_e, q_c_e] at this
    omega
  · split at g
    · next a ha =>
      obtain ⟨-, -, hlen⟩ := x_noted_len ha hM hi hc
      have := q_ent_spec hF g
      rw [q_pl_e, q_sub_e] at this
      omega
    · cases g
theorem x_in_ok {K : x_K} {e j : q_E} {i : Nat} {c : p_C} {x : Int32} (hg : x_in K F e j Me = true) (hF : q_FO r F) (hM : ∀ m ∈ Me, x_m E τ r n h m) (hi : (i : Int) = q_e r e) (hc : h[i]? = some c) (hl : K.2.2.2.2.2.2.1 ≤ c.2.2.length) (hx : x.toInt = q_e r j) : ¬ x < 0 ∧ x.toNatClampNeg < c.2.2.length ∧ (x.toNatClampNeg : Int) = q_e r j := by
  simp only [x_in, Bool.or_eq_true] at hg
  rcases hg with g | g
  · exact x_in0_ok g hF hM hi hc hl hx
  · exact x_in0_ok g (q_nar_spec hF) hM hi hc hl hx
theorem x_ixS {vs : List Value} {x : Int32} (h1 : ¬ x < 0) (h2 : x.toNatClampNeg < vs.length) : p_ix x vs = some vs[x.toNatClampNeg] := by
  simp only [p_ix, if_neg h1]
  exact List.getElem?_eq_getElem h2
theorem x_en_ok {K : x_K} {c d : Int} {t : x_T} : ∀ (m : Nat) (v y : Int), x_en K c d t m v = true → v ≤ y → y < v + m → x_pt K (c * y + d).toNat = t := by
  intro m
  induction m with
  | zero => intro v y _ h1 h2; omega
  | succ m ih =>
    intro v y hg h1 h2
    simp only [x_en, Bool.and_eq_true, decide_eq_true_eq] at hg
    by_cases q : y = v
    · subst q; exact hg.1.2
    · exact ih (v + 1) y hg.2 (by omega) (by push_cast at h2; omega)
theorem x_it_ok {K : x_K} {j : q_E} {t : x_T} {k : Nat} (hF : q_FO r F) (hK : Nat.beq K.1 0 = false) (hg : x_it K F j = some t) (hk : (k : Int) = q_e r j) : x_pt K k = t := by
  simp only [x_it] at hg
  split at hg
  · next d hd =>
    cases hg
    have := q_isC_e (r := r) hd
    rw [show d.toNat = k by omega]
  · split at hg
    · next he =>
      cases hg
      have : K.2.2.2.1 = [] := List.isEmpty_iff.mp he
      simp only [x_pt, hK, this, x_rg]
      rfl
    · split at hg
      · next x c hj =>
        split at hg
        · next b hb =>
          split at hg
          · next hcond =>
            cases hg
            simp only [Bool.and_eq_true] at hcond
            have hb' := q_lk_spec hF.1 hb
            have h2 := q_nn_iff.mp hcond.1.2
            have := x_en_ok _ _ (r x) hcond.2 hb'.1 (by push_cast; omega)
            have e1 : q_e r j = c * r x + j.2 := by simp only [q_e, hj, q_ev]; omega
            rw [← e1, ← hk] at this
            exact this
          · cases hg
        · cases hg
      · cases hg
theorem x_rg_mem {k : Nat} {t : x_T} : ∀ {R : List (Nat × Nat × Nat × Nat × x_T)}, x_rg k R = some t → ∃ q ∈ R, q.1 ≤ k ∧ k ≤ q.2.1 ∧ q.2.2.2.2 = t := by
  intro R
  induction R with
  | nil => intro h; simp [x_rg] at h
  | cons q R ih =>
    intro h
    simp only [x_rg] at h
    split at h
    · next g =>
      cases h
      simp only [Bool.and_eq_true] at g
      exact ⟨q, List.mem_cons_self, Nat.le_of_ble_eq_true g.1.1, Nat.le_of_ble_eq_true g.1.2, rfl⟩
    · obtain ⟨q', h1, h2⟩ := ih h
      exact ⟨q', List.mem_cons_of_mem _ h1, h2⟩
theorem x_ints_ok {K : x_K} {k : Nat} {v : Value} (hK : Nat.beq K.1 0 = false) (hg : x_ints K = true) (hv : x_fo τ (x_pt K k) v) : x_fo τ x_any v := by
  simp only [x_ints, Bool.and_eq_true, List.all_eq_true] at hg
  have ht : (x_pt K k).1 = 1 := by
    simp only [x_pt, hK, Bool.false_eq_true, if_false]
    split
    · next t ht =>
      obtain ⟨q, h1, -, -, h2⟩ := x_rg_mem ht
      rw [← h2]
      exact Nat.eq_of_beq_eq_true (hg.2 q h1)
    · have := hg.1
      split at this
      · next e => exact e
      · cases this
  simp only [x_fo, ht] at hv
  obtain ⟨x, rfl, -⟩ := hv
  exact ⟨x, rfl, x_I32 x⟩
theorem x_al_ok (hKO : x_KO E) (hJ : x_J E f τ0 h0 τ h) (hO : x_O E τ r h0 h ls st (n, F, L, S, Me, u, w)) {t1 t2 k pc' : Nat} {e j : q_E} {x : Int32} {v : Value} {S' : List x_V} {st' : List Value} (hx : x.toInt = q_e r j) (hv : x_v τ r n (3, k, e) v) (hS : x_vs τ r n S' st') {outs : List (Nat × x_S)} (hs : x_al E.1 t1 t2 j k e pc' n F L S' Me u w = some outs) : ∃ a, v = .ref a ∧ x_Res E f τ0 h0 τ r n (p_al t1 t2 x a pc' ls st' h) outs := by
  obtain ⟨i, K, c, rfl, hi, we, ht, hc, hK, c1, c2, c3, c4, c5⟩ := x_ref hv hJ.2.2.1
  refine ⟨i, rfl, ?_⟩
  simp only [x_al, hK] at hs
  split at hs
  · next hg =>
    simp only [Bool.and_eq_true] at hg
    obtain ⟨⟨g1, g2⟩, g3⟩ := hg
    obtain ⟨i1, i2, i3⟩ := x_in_ok g3 hO.2.1 hO.2.2.2.2.1 hi hc c3 hx
    have hK0 : Nat.beq K.1 0 = false := by
      rw [Bool.or_eq_true] at g1
      rcases g1 with g | g <;> rw [Nat.eq_of_beq_eq_true g] <;> rfl
    have hget : p_al t1 t2 x i pc' ls st' h = p_go pc' ls (c.2.2[x.toNatClampNeg] :: st') h := by
      obtain ⟨ca, cb, cv⟩ := c
      have a1 : ca = K.1 := c1
      have a2 : cb = K.2.1 := c2
      subst a1; subst a2
      simp only [p_al, hc]
      rw [if_pos (by rw [g1, g2]; rfl), x_ixS i1 i2]
    have hval : c.2.2[x.toNatClampNeg]? = some c.2.2[x.toNatClampNeg] := List.getElem?_eq_getElem i2
    have hbig := hKO k K hK
    split at hs
    · next d hd =>
      have hd' := q_isC_e (r := r) hd
      have ed : d.toNat = x.toNatClampNeg := by omega
      rw [ed] at hs
      have n1 : x.toNatClampNeg ≠ x_len := by unfold x_len; omega
      have n2 : x.toNatClampNeg < x_gho := by unfold x_gho; omega
      split at hs
      · next a ha =>
        obtain ⟨v, q1, q2⟩ := x_noted ha hO.2.2.2.2.1 hi hc n1 n2
        have ev : v = c.2.2[x.toNatClampNeg] := Option.some.inj (q1.symm.trans hval)
        subst ev
        exact x_stk hJ hO (S' := a :: S') (st' := c.2.2[x.toNatClampNeg] :: st') ⟨q2, hS⟩ hget hs
      · cases hs
        exact x_lds_ok hJ hO we hi ht hc hval (c5 _ _ hval) n1 n2 hS hget
    · split at hs
      · next t hit =>
        cases hs
        have := x_it_ok hO.2.1 hK0 hit i3
        exact x_ldn_ok hJ hO (this ▸ c5 _ _ hval) hS hget
      · split at hs
        · next hin =>
          cases hs
          exact x_ldn_ok hJ hO (x_ints_ok hK0 hin (c5 _ _ hval)) hS hget
        · cases hs
  · cases hs
theorem x_rng_ok {j : q_E} {lo hi k : Nat} (hF : q_FO r F) (hg : x_rng F j = some (lo, hi)) (hk : (k : Int) = q_e r j) : lo ≤ k ∧ k ≤ hi := by
  simp only [x_rng] at hg
  split at hg
  · next l m e1 e2 =>
    split at hg
    · next hc =>
      cases hg
      have b1 := x_mi_ok hF e1
      have b2 := x_mx_ok hF e2
      rw [Bool.and_eq_true] at hc
      have := q_nn_iff.mp hc.1
      have := q_nn_iff.mp hc.2
      omega
    · cases hg
  · cases hg
theorem x_enf_ok {K : x_K} {a : x_V} {c d : Int} : ∀ (m : Nat) (v y : Int), x_enf K F a c d m v = true → v ≤ y → y < v + m → x_fit F (x_pt K (c * y + d).toNat) a = true := by
  intro m
  induction m with
  | zero => intro v y _ h1 h2; omega
  | succ m ih =>
    intro v y hg h1 h2
    simp only [x_enf, Bool.and_eq_true] at hg
    by_cases q : y = v
    · subst q; exact hg.1
    · exact ih (v + 1) y hg.2 (by omega) (by push_cast at h2; omega)
theorem x_fit1_ok {K : x_K} {a : x_V} {j : q_E} {k : Nat} {v : Value} (hF : q_FO r F) (hg : x_fit1 K F a j = true) (hk : (k : Int) = q_e r j) (hv : x_v τ r n a v) : x_fo τ (x_pt K k) v := by
  simp only [x_fit1] at hg
  split at hg
  · next x c hj =>
    split at hg
    · next b hb =>
      simp only [Bool.and_eq_true] at hg
      have hb' := q_lk_spec hF.1 hb
      have h2 := q_nn_iff.mp hg.1.2
      have := x_enf_ok _ _ (r x) hg.2 hb'.1 (by push_cast; omega)
      have e1 : q_e r j = c * r x + j.2 := by simp only [q_e, hj, q_ev]; omega
      rw [← e1, ← hk] at this
      exact x_fit_ok hF this hv
    · cases hg
  · cases hg
theorem x_fits_ok {K : x_K} {a : x_V} {j : q_E} {lo hi k : Nat} {v : Value} (hK : Nat.beq K.1 0 = false) (hF : q_FO r F) (hg : x_fits K F a j lo hi = true) (hk : (k : Int) = q_e r j) (h1 : lo ≤ k) (h2 : k ≤ hi) (hv : x_v τ r n a v) : x_fo τ (x_pt K k) v := by
  simp only [x_fits] at hg
  split at hg
  · next d hd =>
    have := q_isC_e (r := r) hd
    rw [show d.toNat = k by omega] at hg
    exact x_fit_ok hF hg hv
  · rw [Bool.or_eq_true] at hg
    rcases hg with hg | hg
    rotate_left
    · exact x_fit1_ok hF hg hk hv
    rw [Bool.and_eq_true, List.all_eq_true] at hg
    simp only [x_pt, hK, Bool.false_eq_true, if_false]
    split
    · next t ht =>
      obtain ⟨q, m1, m2, m3, m4⟩ := x_rg_mem ht
      have := hg.2 q m1
      rw [Bool.or_eq_true, Bool.or_eq_true] at this
      rcases this with (g | g) | g
      · have := Nat.le_of_ble_eq_true g; omega
      · have := Nat.le_of_ble_eq_true g; omega
      · rw [m4] at g; exact x_fit_ok hF g hv
    · exact x_fit_ok hF hg.1 hv
theorem x_asA_ok (hEO : x_EO E) (hKO : x_KO E) (hJ : x_J E f τ0 h0 τ h) (hO : x_O E τ r h0 h ls st (n, F, L, S, Me, u, w)) {t k pc' : Nat} {e j : q_E} {a : x_V} {x : Int32} {v rv : Value} {S' : List x_V} {st' : List Value} (ha : x_v τ r n a v) (hx : x.toInt = q_e r j) (hv : x_v τ r n (3, k, e) rv) (hS : x_vs τ r n S' st') {outs : List (Nat × x_S)} (hs : x_asA E.1 f t a j k e pc' n F L S' Me u w = some outs) : ∃ b, rv = .ref b ∧ x_Res E f τ0 h0 τ r n (p_as t v x b pc' ls st' h) outs := by
  obtain ⟨i, K, c, rfl, hi, we, ht, hc, hK, c1, c2, c3, c4, c5⟩ := x_ref hv hJ.2.2.1
  refine ⟨i, rfl, ?_⟩
  simp only [x_asA, hK] at hs
  split at hs
  · next K' lo hi' e0 hr =>
    cases e0
    split at hs
    · next hg =>
      simp only [Bool.and_eq_true] at hg
      obtain ⟨⟨⟨⟨⟨g1, g2⟩, g3⟩, g4⟩, g5⟩, g6⟩ := hg
      obtain ⟨i1, i2, i3⟩ := x_in_ok g3 hO.2.1 hO.2.2.2.2.1 hi hc c3 hx
      have s1 := Nat.eq_of_beq_eq_true g1
      have s2 := Nat.eq_of_beq_eq_true g2
      have hK0 : Nat.beq K.1 0 = false := by rw [s1]; rfl
      obtain ⟨b1, b2⟩ := x_rng_ok hO.2.1 hr i3
      have hfo := x_fits_ok hK0 hO.2.1 g4 i3 b1 b2 ha
      have hbig := hKO k K hK
      have n1 : x.toNatClampNeg ≠ x_len := by unfold x_len; omega
      have n2 : x.toNatClampNeg < x_gho := by unfold x_gho; omega
      have hput : p_as t v x i pc' ls st' h = some (.inl (pc', ls, st', h.set i (c.1, c.2.1, c.2.2.set x.toNatClampNeg v))) := by
        obtain ⟨ca, cb, cv⟩ := c
        have a1 : ca = 1 := by rw [← s1]; exact c1
        have a2 : cb = t := by rw [← s2]; exact c2
        subst a1; subst a2
        simp only [p_as, hc, Nat.beq_refl, Bool.and_self, if_true]
        rw [x_ixS i1 i2]
        rfl
      split at hs
      · next d hd =>
        have hd' := q_isC_e (r := r) hd
        have ed : d.toNat = x.toNatClampNeg := by omega
        rw [ed] at hs
        exact x_wr (N := [(e, k, x.toNatClampNeg, a)]) hEO hJ hO ht hc hK i2 hfo g6 g5 b1 b2 hS (x_note we hi ht hc i2 ha n1 n2) hput hs
      · exact x_wr (N := []) hEO hJ hO ht hc hK i2 hfo g6 g5 b1 b2 hS (fun m hm => by cases hm) hput hs
    · cases hs
  · cases hs
theorem x_alen_ok (hJ : x_J E f τ0 h0 τ h) (hO : x_O E τ r h0 h ls st (n, F, L, S, Me, u, w)) {k pc' : Nat} {e : q_E} {v : Value} {S' : List x_V} {st' : List Value} (hv : x_v τ r n (3, k, e) v) (hS : x_vs τ r n S' st') {outs : List (Nat × x_S)} (hs : x_alen E.1 k e pc' n F L S' Me u w = some outs) : ∃ a, v = .ref a ∧ x_Res E f τ0 h0 τ r n (match h[a]? with
      | some (s, _, vs) => if Nat.beq s 1 || Nat.beq s 2 then p_go pc' ls (.int (Int32.ofNat vs.length) :: st') h else none
      | none => none) outs := by
  obtain ⟨i, K, c, rfl, hi, we, ht, hc, hK, c1, c2, c3, c4, c5⟩ := x_ref hv hJ.2.2.1
  refine ⟨i, rfl, ?_⟩
  simp only [x_alen, hK] at hs
  split at hs
  · next hg =>
    rw [Bool.and_eq_true] at hg
    have hbl := Nat.le_of_ble_eq_true hg.2
    have hlen : (Int32.ofNat c.2.2.length).toInt = c.2.2.length := Int32.toInt_ofNat_of_lt (by omega)
    have hget : (match h[i]? with
      | some (s, _, vs) => if Nat.beq s 1 || Nat.beq s 2 then p_go pc' ls (.int (Int32.ofNat vs.length) :: st') h else none
      | none => none) = some (.inl (pc', ls, .int (Int32.ofNat c.2.2.length) :: st', h)) := by
      obtain ⟨ca, cb, cv⟩ := c
      have a1 : ca = K.1 := c1
      subst a1
      simp only [hc]
      rw [if_pos hg.1]
      rfl
    rw [hget]
    split at hs
    · next hq =>
      have := Nat.eq_of_beq_eq_true hq
      refine x_stk hJ hO (S' := (1, 0, q_c (K.2.2.2.2.2.2.1 : Int)) :: S') (st' := .int (Int32.ofNat c.2.2.length) :: st') ⟨⟨q_c_wl, _, rfl, ?_⟩, hS⟩ rfl hs
      show _ = q_e r (q_c (K.2.2.2.2.2.2.1 : Int))
      rw [q_c_e, hlen]; omega
    · split at hs
      · next a ha =>
        obtain ⟨q1, q2, q3⟩ := x_noted_len ha hO.2.2.2.2.1 hi hc
        split at hs
        · refine x_stk hJ hO (S' := a :: S') (st' := .int (Int32.ofNat c.2.2.length) :: st') ⟨⟨q1, ?_⟩, hS⟩ rfl hs
          simp only [q2]
          exact ⟨_, rfl, by rw [hlen]; exact q3⟩
        · cases hs
      · cases hs
        obtain ⟨o1, o2, o3, o4, o5, o6, o7, o8, o9⟩ := hO
        obtain ⟨r', g1, g2, g3, g4, g5, g6⟩ := x_fr_ok (lo := (K.2.2.2.2.2.2.1 : Int)) (hi := (K.2.2.2.2.2.2.2 : Int)) (v := (c.2.2.length : Int)) o1 o2 (by omega) (by omega)
        refine ⟨_, List.mem_cons_self, ls, _, h, r', rfl, g1, g2, hJ, g3, g4, (show x_Ls τ r n L ls from o3).moved g1 g2, ⟨⟨g5, _, rfl, by rw [hlen]; exact g6.symm⟩, hS.moved g1 g2 (fun _ _ q => q)⟩, fun m hmm => ?_, o6.mono g2, ?_, o8.mono g2, ?_⟩
        · rcases List.mem_cons.mp hmm with rfl | hmm
          · refine x_m.mkp (we.mono g2) (show x_len < x_gho by decide) ⟨i, c, by rw [q_e_eq we g1]; exact hi, ht, hc, ?_⟩
            rw [if_pos rfl]
            exact ⟨g5, rfl, g6.symm⟩
          · exact (o5 m hmm).moved g1 g2 (fun _ _ q => q)
        · show (h.length : Int) ≤ h0.length + q_e r' u
          rw [q_e_eq o6 g1]; exact o7
        · show (p_sl h : Int) ≤ p_sl h0 + q_e r' w
          rw [q_e_eq o8 g1]; exact o9
  · cases hs
end XAR

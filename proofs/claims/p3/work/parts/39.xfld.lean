/-! Fields and arrays of the checker -/
section XFA
variable {E : x_E} {f : x_F} {G : p_G} {MT : List p_M} {M : p_M} {τ τ0 : Nat → Option Nat} {h h0 : p_H} {r : Nat → Int} {n pc : Nat} {F : q_F} {L S : List x_V} {Me : x_M} {u w : q_E} {ls : p_Ls} {st : List Value}
/-- a reference of a kind -/
theorem x_ref {k : Nat} {e : q_E} {v : Value} (hv : x_v τ r n (3, k, e) v) (hH : x_H E τ h) : ∃ (i : Nat) (K : x_K) (c : p_C), v = .ref i ∧ (i : Int) = q_e r e ∧ q_wl n e.1 ∧ τ i = some k ∧ h[i]? = some c ∧ E.1[k]? = some K ∧ c.1 = K.1 ∧ c.2.1 = K.2.1 ∧ K.2.2.2.2.2.2.1 ≤ c.2.2.length ∧ c.2.2.length ≤ K.2.2.2.2.2.2.2 ∧ (∀ (j : Nat) (v : Value), c.2.2[j]? = some v → x_fo τ (x_pt K j) v) := by
  obtain ⟨we, i, rfl, hi, ht⟩ := hv
  obtain ⟨c, hc, K, hK, g1, g2, g3, g4, g5, -⟩ := hH i k ht
  exact ⟨i, K, c, rfl, hi, we, ht, hc, hK, g1, g2, g3, g4, g5⟩
/-- what is noted of a place of a cell is there -/
theorem x_noted {e : q_E} {j i : Nat} {c : p_C} {a : x_V} (hm : x_mf e j Me = some a) (hM : ∀ m ∈ Me, x_m E τ r n h m) (hi : (i : Int) = q_e r e) (hc : h[i]? = some c) (h1 : j ≠ x_len) (h2 : j < x_gho) : ∃ v, c.2.2[j]? = some v ∧ x_v τ r n a v := by
  obtain ⟨m, hm1, e1, e2, e3⟩ := x_mf_ok hm
  obtain ⟨i', c', q1, q2, q3, q4⟩ := (hM m hm1).plc (by omega)
  rw [e1] at q1
  have ei : i' = i := by omega
  subst ei
  have ec : c' = c := Option.some.inj (q3.symm.trans hc)
  subst ec
  rw [e2, if_neg h1, e3] at q4
  exact q4
theorem x_noted_len {e : q_E} {i : Nat} {c : p_C} {a : x_V} (hm : x_mf e x_len Me = some a) (hM : ∀ m ∈ Me, x_m E τ r n h m) (hi : (i : Int) = q_e r e) (hc : h[i]? = some c) : q_wl n a.2.2.1 ∧ a.1 = 1 ∧ (c.2.2.length : Int) = q_e r a.2.2 := by
  obtain ⟨m, hm1, e1, e2, e3⟩ := x_mf_ok hm
  obtain ⟨i', c', q1, q2, q3, q4⟩ := (hM m hm1).plc (by rw [e2]; decide)
  rw [e1] at q1
  have ei : i' = i := by omega
  subst ei
  have ec : c' = c := Option.some.inj (q3.symm.trans hc)
  subst ec
  rw [if_pos e2, e3] at q4
  exact q4
/-- a place is read, and noted -/
theorem x_lds_ok (hJ : x_J E f τ0 h0 τ h) (hO : x_O E τ r h0 h ls st (n, F, L, S, Me, u, w)) {out : Option p_O} {pc' k j i : Nat} {e : q_E} {c : p_C} {t : x_T} {v : Value} {S' : List x_V} {st' : List Value} (we : q_wl n e.1) (hi : (i : Int) = q_e r e) (ht : τ i = some k) (hc : h[i]? = some c) (hv : c.2.2[j]? = some v) (hfo : x_fo τ t v) (h1 : j ≠ x_len) (h2 : j < x_gho) (hS : x_vs τ r n S' st') (ho : out = some (.inl (pc', ls, v :: st', h))) : x_Res E f τ0 h0 τ r n out (x_lds pc' e k j L S' Me u w (x_ld n F t)) := by
  obtain ⟨o1, o2, o3, o4, o5, o6, o7, o8, o9⟩ := hO
  obtain ⟨o, hm, r', g1, g2, g3, g4, g5⟩ := x_ld_ok o1 o2 hfo
  refine ⟨_, List.mem_map.mpr ⟨o, hm, rfl⟩, ls, v :: st', h, r', ho, g1, g2, hJ, g3, g4, (show x_Ls τ r n L ls from o3).moved g1 g2, ⟨g5, hS.moved g1 g2 (fun _ _ q => q)⟩, fun m hmm => ?_, o6.mono g2, ?_, o8.mono g2, ?_⟩
  · rcases List.mem_cons.mp hmm with rfl | hmm
    · refine x_m.mkp (we.mono g2) h2 ⟨i, c, by rw [q_e_eq we g1]; exact hi, ht, hc, ?_⟩
      rw [if_neg h1]
      exact ⟨v, hv, g5⟩
    · exact (o5 m hmm).moved g1 g2 (fun _ _ q => q)
  · show (h.length : Int) ≤ h0.length + q_e r' u
    rw [q_e_eq o6 g1]; exact o7
  · show (p_sl h : Int) ≤ p_sl h0 + q_e r' w
    rw [q_e_eq o8 g1]; exact o9
/-- read, and not noted -/
theorem x_ldn_ok (hJ : x_J E f τ0 h0 τ h) (hO : x_O E τ r h0 h ls st (n, F, L, S, Me, u, w)) {out : Option p_O} {pc' : Nat} {t : x_T} {v : Value} {S' : List x_V} {st' : List Value} (hfo : x_fo τ t v) (hS : x_vs τ r n S' st') (ho : out = some (.inl (pc', ls, v :: st', h))) : x_Res E f τ0 h0 τ r n out ((x_ld n F t).map (fun a => (pc', a.1, a.2.1, L, a.2.2 :: S', Me, u, w))) := by
  obtain ⟨o, hm, r', g1, g2, g3, g4, g5⟩ := x_ld_ok hO.1 hO.2.1 hfo
  exact x_go (S' := o.2.2 :: S') hJ hO ho g1 g2 g3 g4 ((show x_Ls τ r n L ls from hO.2.2.1).moved g1 g2) ⟨g5, hS.moved g1 g2 (fun _ _ q => q)⟩ (List.mem_map.mpr ⟨o, hm, rfl⟩)
/-- a kind's length stays below the marks of length and ghost -/
def x_KO (E : x_E) : Prop := ∀ (k : Nat) (K : x_K), E.1[k]? = some K → K.2.2.2.2.2.2.2 < 1000000
theorem x_getf_ok (hKO : x_KO E) (hJ : x_J E f τ0 h0 τ h) (hO : x_O E τ r h0 h ls st (n, F, L, S, Me, u, w)) {P : List p_P} {x k pc' : Nat} {e : q_E} {v : Value} {S' : List x_V} {st' : List Value} (hv : x_v τ r n (3, k, e) v) (hS : x_vs τ r n S' st') {outs : List (Nat × x_S)} (hs : x_getf E.1 P x k e pc' n F L S' Me u w = some outs) : ∃ a, v = .ref a ∧ x_Res E f τ0 h0 τ r n (p_getf P x a pc' ls st' h) outs := by
  obtain ⟨i, K, c, rfl, hi, we, ht, hc, hK, c1, c2, c3, c4, c5⟩ := x_ref hv hJ.2.2.1
  refine ⟨i, rfl, ?_⟩
  simp only [x_getf] at hs
  split at hs
  · next ci j K' hp hK' =>
    have eK : K' = K := Option.some.inj (hK'.symm.trans hK)
    subst eK
    split at hs
    · next hg =>
      simp only [Bool.and_eq_true] at hg
      have e1 := Nat.eq_of_beq_eq_true hg.1.1
      have e2 := Nat.eq_of_beq_eq_true hg.1.2
      have e3 := Nat.le_of_ble_eq_true hg.2
      have hlt : j.toNat < c.2.2.length := by omega
      have hbig := hKO k K' hK
      have n1 : j.toNat ≠ x_len := by unfold x_len; omega
      have n2 : j.toNat < x_gho := by unfold x_gho; omega
      have hget : p_getf P x i pc' ls st' h = p_go pc' ls (c.2.2[j.toNat] :: st') h := by
        obtain ⟨ca, cb, cv⟩ := c
        have a1 : ca = 0 := by rw [← e1]; exact c1
        have a2 : cb = ci := by rw [← e2]; exact c2
        subst a1; subst a2
        simp only [p_getf, hp, hc, Nat.beq_refl, if_true]
        rw [List.getElem?_eq_getElem hlt]
      have hval : c.2.2[j.toNat]? = some c.2.2[j.toNat] := List.getElem?_eq_getElem hlt
      split at hs
      · next a ha =>
        obtain ⟨v, q1, q2⟩ := x_noted ha hO.2.2.2.2.1 hi hc n1 n2
        have ev : v = c.2.2[j.toNat] := Option.some.inj (q1.symm.trans hval)
        subst ev
        exact x_stk hJ hO (S' := a :: S') (st' := c.2.2[j.toNat] :: st') ⟨q2, hS⟩ hget hs
      · cases hs
        exact x_lds_ok hJ hO we hi ht hc hval (c5 _ _ hval) n1 n2 hS hget
    · cases hs
  · cases hs
/-- a place is written, and noted -/
theorem x_wr (hEO : x_EO E) (hJ : x_J E f τ0 h0 τ h) (hO : x_O E τ r h0 h ls st (n, F, L, S, Me, u, w)) {out : Option p_O} {pc' k j i lo hi : Nat} {K : x_K} {c : p_C} {v : Value} {S' : List x_V} {st' : List Value} {N : x_M} (ht : τ i = some k) (hc : h[i]? = some c) (hK : E.1[k]? = some K) (hj : j < c.2.2.length) (hfo : x_fo τ (x_pt K j) v) (hp : x_apart K.2.2.2.2.1 lo hi = true) (hcov : x_cov f k lo hi = true) (h1 : lo ≤ j) (h2 : j ≤ hi) (hS : x_vs τ r n S' st')
    (hN : ∀ m ∈ N, x_m E τ r n (h.set i (c.1, c.2.1, c.2.2.set j v)) m) (ho : out = some (.inl (pc', ls, st', h.set i (c.1, c.2.1, c.2.2.set j v)))) {outs : List (Nat × x_S)} (hs : x_out pc' n F L S' (N ++ x_kill K k lo hi Me) u w = some outs) : x_Res E f τ0 h0 τ r n out outs := by
  cases hs
  obtain ⟨o1, o2, o3, o4, o5, o6, o7, o8, o9⟩ := hO
  refine ⟨_, List.mem_cons_self, ls, st', _, r, ho, fun _ _ => rfl, Nat.le_refl n, hJ.put hEO ht hc hK hfo hp hcov h1 h2, o1, o2, o3, hS, fun m hm => ?_, o6, ?_, o8, ?_⟩
  · rcases List.mem_append.mp hm with g | g
    · exact hN m g
    · exact (o5 m (List.mem_filter.mp g).1 |> fun q => x_m.put hEO hJ.2.2.1 ht hc hK h1 h2 g q)
  · show ((h.set i (c.1, c.2.1, c.2.2.set j v)).length : Int) ≤ _
    rw [List.length_set]; exact o7
  · show (p_sl (h.set i (c.1, c.2.1, c.2.2.set j v)) : Int) ≤ _
    rw [p_sl_set hc (by simp)]; exact o9
theorem x_note {i k j : Nat} {e : q_E} {c : p_C} {a : x_V} {v : Value} (we : q_wl n e.1) (hi : (i : Int) = q_e r e) (ht : τ i = some k) (hc : h[i]? = some c) (hj : j < c.2.2.length) (hv : x_v τ r n a v) (h1 : j ≠ x_len) (h2 : j < x_gho) : ∀ m ∈ [(e, k, j, a)], x_m E τ r n (h.set i (c.1, c.2.1, c.2.2.set j v)) m := by
  intro m hm
  rw [List.mem_singleton.mp hm]
  have hlt : i < h.length := (List.getElem?_eq_some_iff.mp hc).1
  refine x_m.mkp we h2 ⟨i, _, hi, ht, by rw [List.getElem?_set, if_pos rfl, if_pos hlt], ?_⟩
  rw [if_neg h1]
  exact ⟨v, by show (c.2.2.set j v)[j]? = _; rw [List.getElem?_set_self hj], hv⟩
theorem x_putf_ok (hEO : x_EO E) (hKO : x_KO E) (hJ : x_J E f τ0 h0 τ h) (hO : x_O E τ r h0 h ls st (n, F, L, S, Me, u, w)) {ini : Bool} {own : Nat} {P : List p_P} {x k pc' : Nat} {e : q_E} {a : x_V} {v rv : Value} {S' : List x_V} {st' : List Value} (ha : x_v τ r n a v) (hv : x_v τ r n (3, k, e) rv) (hS : x_vs τ r n S' st') {outs : List (Nat × x_S)} (hs : x_putf E.1 f G P x a k e pc' n F L S' Me u w = some outs) : ∃ b, rv = .ref b ∧ x_Res E f τ0 h0 τ r n (p_putf G ini own P x v b pc' ls st' h) outs := by
  obtain ⟨i, K, c, rfl, hi, we, ht, hc, hK, c1, c2, c3, c4, c5⟩ := x_ref hv hJ.2.2.1
  refine ⟨i, rfl, ?_⟩
  simp only [x_putf] at hs
  split at hs
  · next ci j K' hp hK' =>
    have eK : K' = K := Option.some.inj (hK'.symm.trans hK)
    subst eK
    split at hs
    · next ty fin hG =>
      split at hs
      · next hg =>
        simp only [Bool.and_eq_true, Bool.not_eq_true'] at hg
        obtain ⟨⟨⟨⟨⟨⟨⟨g1, g2⟩, g3⟩, g4⟩, g5⟩, g6⟩, g7⟩, g8⟩ := hg
        have e1 := Nat.eq_of_beq_eq_true g1
        have e2 := Nat.eq_of_beq_eq_true g2
        have e3 := Nat.le_of_ble_eq_true g3
        have hlt : j.toNat < c.2.2.length := by omega
        have hbig := hKO k K' hK
        have n1 : j.toNat ≠ x_len := by unfold x_len; omega
        have n2 : j.toNat < x_gho := by unfold x_gho; omega
        have hfo := x_fit_ok hO.2.1 g4 ha
        have hpf : p_fit ty v = true := by
          have ha2 := ha.2
          unfold x_tyf at g8
          cases ty with
          | boolean =>
            obtain ⟨y, rfl, b1, b2⟩ := x_fit_ok hO.2.1 g8 ha
            have b1 : (0 : Int) ≤ y.toInt := b1
            have b2 : y.toInt ≤ 1 := b2
            have : y = 0 ∨ y = 1 := by
              rcases (show y.toInt = 0 ∨ y.toInt = 1 by omega) with q | q
              · exact Or.inl (Int32.toInt_inj.mp q)
              · exact Or.inr (Int32.toInt_inj.mp q)
            rcases this with rfl | rfl <;> rfl
          | int =>
            have q := Nat.eq_of_beq_eq_true g8
            simp only [q] at ha2
            obtain ⟨y, rfl, -⟩ := ha2
            rfl
          | long =>
            have q := Nat.eq_of_beq_eq_true g8
            simp only [q] at ha2
            obtain ⟨y, rfl, -⟩ := ha2
            rfl
          | object s =>
            rw [Bool.or_eq_true] at g8
            rcases g8 with g | g
            · have q := Nat.eq_of_beq_eq_true g
              simp only [q] at ha2
              obtain ⟨y, rfl, -⟩ := ha2
              rfl
            · have q := Nat.eq_of_beq_eq_true g
              simp only [q] at ha2
              subst ha2
              rfl
          | array s =>
            rw [Bool.or_eq_true] at g8
            rcases g8 with g | g
            · have q := Nat.eq_of_beq_eq_true g
              simp only [q] at ha2
              obtain ⟨y, rfl, -⟩ := ha2
              rfl
            · have q := Nat.eq_of_beq_eq_true g
              simp only [q] at ha2
              subst ha2
              rfl
          | _ => cases g8
        refine x_wr (N := [(e, k, j.toNat, a)]) hEO hJ hO ht hc hK hlt hfo g7 g5 (Nat.le_refl _) (Nat.le_refl _) hS (x_note we hi ht hc hlt ha n1 n2) ?_ hs
        obtain ⟨ca, cb, cv⟩ := c
        have a1 : ca = 0 := by rw [← e1]; exact c1
        have a2 : cb = ci := by rw [← e2]; exact c2
        subst a1; subst a2
        have hb : Nat.blt j.toNat cv.length = true := Nat.ble_eq_true_of_le hlt
        simp only [p_putf, hp, hc, Nat.beq_refl, if_true, hG, hpf, g6, Bool.not_false, Bool.true_or, Bool.and_self, hb]
        rfl
      · cases hs
    · cases hs
  · cases hs
end XFA

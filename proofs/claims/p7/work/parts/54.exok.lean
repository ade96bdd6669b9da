/-! THE EXECUTOR IS SOUND -/
section XEX
variable {E : x_E} {τ0 : Nat → Option Nat} {r0 : Nat → Int} {h0 : p_H} {G : p_G} {MT : List p_M} {M : p_M} {D : List x_C} {C : x_C} {U : List x_U} {Y : x_Y} {mu : Option q_E} {z : Int}
/-- what the state of a loop head asks for -/
noncomputable def x_hd (T : x_U) : x_S := (T.2.1, T.2.2.1, T.2.2.2.1, [], T.2.2.2.2.1, T.2.2.2.2.2.1, T.2.2.2.2.2.2.1)
theorem x_mt_ok (hKO : x_KO E) {τ : Nat → Option Nat} {h : p_H} {L S : List x_V} {u w : q_E} {ls : p_Ls} {st : List Value} (hH : x_H E τ h) : ∀ (W : List (Nat × Nat)) (n : Nat) (F : q_F) (Me : x_M) (r : Nat → Int), x_O E τ r h0 h ls st (n, F, L, S, Me, u, w) → ∃ r', (∀ i, i < n → r' i = r i) ∧ n ≤ (x_mt E.1 L W n F Me).1 ∧ x_O E τ r' h0 h ls st ((x_mt E.1 L W n F Me).1, (x_mt E.1 L W n F Me).2.1, L, S, (x_mt E.1 L W n F Me).2.2, u, w) := by
  intro W
  induction W with
  | nil => intro n F Me r hO; exact ⟨r, fun _ _ => rfl, Nat.le_refl n, hO⟩
  | cons t W ih =>
    intro n F Me r hO
    simp only [x_mt]
    split
    · next k e hL =>
      split
      · next K hK hmf =>
        split
        · next hg =>
          rw [Bool.and_eq_true] at hg
          split
          · next o ho =>
            obtain ⟨o1, o2, o3, o4, o5, o6, o7, o8, o9⟩ := hO
            simp only at o1 o2 o3 o4 o5 o6 o7 o8 o9
            obtain ⟨v, hv1, hv2⟩ := o3 t.1 _ hL (by show (3 : Nat) ≠ 0; decide)
            obtain ⟨i, K', c, rfl, hi, we, ht, hc, hK', c1, c2, c3, c4, c5⟩ := x_ref hv2 hH
            have eK : K' = K := Option.some.inj (hK'.symm.trans hK)
            subst eK
            have hlt : t.2 < c.2.2.length := Nat.lt_of_lt_of_le (Nat.le_of_ble_eq_true hg.2) c3
            have hval : c.2.2[t.2]? = some c.2.2[t.2] := List.getElem?_eq_getElem hlt
            obtain ⟨o', hm, r', g1, g2, g3, g4, g5⟩ := x_ld_ok o1 o2 (c5 _ _ hval)
            rw [ho] at hm
            have eo := List.mem_singleton.mp hm
            subst eo
            have hbig := hKO k K' hK
            have n1 : t.2 ≠ x_len := by unfold x_len; omega
            have n2 : t.2 < x_gho := by unfold x_gho; omega
            have hO2 : x_O E τ r' h0 h ls st (o'.1, o'.2.1, L, S, (e, k, t.2, o'.2.2) :: Me, u, w) := by
              refine ⟨g3, g4, (show x_Ls τ r n L ls from o3).moved g1 g2, o4.moved g1 g2 (fun _ _ q => q), fun m hmm => ?_, o6.mono g2, ?_, o8.mono g2, ?_⟩
              · rcases List.mem_cons.mp hmm with rfl | hmm
                · refine x_m.mkp (we.mono g2) n2 ⟨i, c, by rw [q_e_eq we g1]; exact hi, ht, hc, ?_⟩
                  rw [if_neg n1]
                  exact ⟨_, hval, g5⟩
                · exact (o5 m hmm).moved g1 g2 (fun _ _ q => q)
              · show (h.length : Int) ≤ h0.length + q_e r' u
                rw [q_e_eq o6 g1]; exact o7
              · show (p_sl h : Int) ≤ p_sl h0 + q_e r' w
                rw [q_e_eq o8 g1]; exact o9
            obtain ⟨r2, k1, k2, k3⟩ := ih _ _ _ r' hO2
            exact ⟨r2, fun i hi => by rw [k1 i (by omega), g1 i hi], by omega, k3⟩
          · exact ih _ _ _ r hO
        · exact ih _ _ _ r hO
      · exact ih _ _ _ r hO
    · exact ih _ _ _ r hO
theorem x_yR_mem {pc : Nat} {t : Nat × Nat × List x_C} : ∀ {R : List (Nat × Nat × Nat × List x_C)}, x_yR pc R = some t → (pc, t) ∈ R := by
  intro R
  induction R with
  | nil => intro hg; simp [x_yR] at hg
  | cons q R ih =>
    intro hg
    simp only [x_yR] at hg
    split at hg
    · next g =>
      cases hg
      have := Nat.eq_of_beq_eq_true g
      subst this
      exact List.mem_cons_self
    · exact List.mem_cons_of_mem _ (ih hg)
theorem x_ex_ok (hEO : x_EO E) (hKO : x_KO E) (hD : ∀ d ∈ D, x_Hold G MT E d) (hDM : ∀ d ∈ D, ∃ M', MT[d.1]? = some M') (hY : ∀ q ∈ Y.2, ∀ d ∈ q.2.2.2, x_HoldR G MT E M q.1 q.2.2.1 d) (hU : ∀ T ∈ U, x_wU C.2.1 T = true)
    (IH : ∀ T ∈ U, ∀ (τ : Nat → Option Nat) (r : Nat → Int) (h : p_H) (ls : p_Ls) (st : List Value), x_J E C.2.2.2.2.2.1 τ0 h0 τ h → x_O E τ r h0 h ls st (x_hd T) → (∀ i, i < C.2.1 → r i = r0 i) → 0 ≤ q_e r T.2.2.2.2.2.2.2 → (mu.isSome = true → q_e r T.2.2.2.2.2.2.2 < z) → p_wp G MT C.2.2.2.2.2.2.1 M T.1 ls st h (x_Post E C τ0 r0 h0)) :
    ∀ (k : Nat) (first : Bool) (pc : Nat) (s : x_S) (τ : Nat → Option Nat) (r : Nat → Int) (h : p_H) (ls : p_Ls) (st : List Value), x_ex E.1 G MT M D C U Y mu k first (pc, s) = true → x_J E C.2.2.2.2.2.1 τ0 h0 τ h → x_O E τ r h0 h ls st s → (∀ i, i < C.2.1 → r i = r0 i) → C.2.1 ≤ s.1 → (∀ e, mu = some e → q_wl s.1 e.1 ∧ q_e r e = z) → p_wp G MT C.2.2.2.2.2.2.1 M pc ls st h (x_Post E C τ0 r0 h0) := by
  intro k
  induction k with
  | zero => intro first pc s τ r h ls st hx; simp [x_ex] at hx
  | succ k ih =>
    intro first pc s τ r0' h ls st hx hJ hO0 hr0 hn0 hmu0
    obtain ⟨n0, F0, L, S, Me0, u, w⟩ := s
    simp only at hn0 hmu0
    simp only [x_ex] at hx
    obtain ⟨n, F, Me, r, hpre, hrr, hnn, hO⟩ : ∃ (n : Nat) (F : q_F) (Me : x_M) (r : Nat → Int), (if first then (n0, F0, Me0) else x_mt E.1 L (x_yW pc Y.1) n0 F0 Me0) = (n, F, Me) ∧ (∀ i, i < n0 → r i = r0' i) ∧ n0 ≤ n ∧ x_O E τ r h0 h ls st (n, F, L, S, Me, u, w) := by
      cases first with
      | true => exact ⟨n0, F0, Me0, r0', rfl, fun _ _ => rfl, Nat.le_refl _, hO0⟩
      | false =>
        obtain ⟨r', a1, a2, a3⟩ := x_mt_ok (h0 := h0) hKO hJ.2.2.1 (x_yW pc Y.1) n0 F0 Me0 r0' hO0
        exact ⟨_, _, _, r', rfl, a1, a2, a3⟩
    rw [hpre] at hx
    simp only at hx
    have hr : ∀ i, i < C.2.1 → r i = r0 i := fun i hi => by rw [hrr i (by omega), hr0 i hi]
    have hn : C.2.1 ≤ n := by omega
    have hmu : ∀ e, mu = some e → q_wl n e.1 ∧ q_e r e = z := by
      intro e he
      obtain ⟨g1, g2⟩ := hmu0 e he
      exact ⟨g1.mono hnn, by rw [q_e_eq g1 hrr]; exact g2⟩
    have hO' := hO
    obtain ⟨o1, o2, o3, o4, o5, o6, o7, o8, o9⟩ := hO'
    simp only at o1 o2 o3 o4 o5 o6 o7 o8 o9
    have next : ∀ (pc' : Nat) (s' : x_S) (τ' : Nat → Option Nat) (r' : Nat → Int) (h' : p_H) (ls' : p_Ls) (st' : List Value), x_ex E.1 G MT M D C U Y mu k false (pc', s') = true → (∀ i, i < n → r' i = r i) → n ≤ s'.1 → x_J E C.2.2.2.2.2.1 τ0 h0 τ' h' → x_O E τ' r' h0 h' ls' st' s' → p_wp G MT C.2.2.2.2.2.2.1 M pc' ls' st' h' (x_Post E C τ0 r0 h0) := by
      intro pc' s' τ' r' h' ls' st' hx b1 b2 b3 b4
      refine ih false pc' s' τ' r' h' ls' st' hx b3 b4 ?_ (by omega) ?_
      · intro i hi
        rw [b1 i (by omega), hr i hi]
      · intro e he
        obtain ⟨g1, g2⟩ := hmu e he
        exact ⟨g1.mono b2, by rw [q_e_eq g1 b1]; exact g2⟩
    split at hx
    · simp only [Bool.and_eq_true] at hx
      obtain ⟨hS, hx⟩ := hx
      obtain ⟨T, hT, hx⟩ := List.any_eq_true.mp hx
      simp only [Bool.and_eq_true] at hx
      have hpc := Nat.eq_of_beq_eq_true hx.1
      have hS0 : S = [] := List.isEmpty_iff.mp hS
      subst hS0
      obtain ⟨r', q1, q2, q3, q4⟩ := x_at_ok hO (hU T hT) hx.2
      rw [← hpc]
      refine IH T hT τ r' h ls st hJ q2 (fun i hi => by rw [q1 i hi, hr i hi]) q3 ?_
      intro hm
      obtain ⟨e, he⟩ := Option.isSome_iff_exists.mp hm
      have := q4 e he
      rw [(hmu e he).2] at this
      exact this
    · split at hx
      · next ar ln Ds hR =>
        simp only [Bool.and_eq_true] at hx
        obtain ⟨har, hx⟩ := hx
        have har := Nat.le_of_ble_eq_true har
        split at hx
        · next d th htk =>
          obtain ⟨hd, htk⟩ := x_tks_ok htk
          have c2 : x_vs τ r n (S.take ar).reverse (st.take ar).reverse := x_vs_rev (x_vs_take ar o4)
          have c3 : x_vs τ r n (S.drop ar) (st.drop ar) := x_vs_drop ar o4
          have hOn : x_O E τ r h0 h ls st (n, q_nar F, L, S, Me, u, w) := ⟨q_nar_wF o1, q_nar_spec o2, o3, o4, o5, o6, o7, o8, o9⟩
          obtain ⟨t1, t2, t3, t4, t5, t6, t7, t8, t9⟩ := x_tk_ok (q_nar_spec o2) o5 c2 htk
          have hh := hY _ (x_yR_mem hR) d hd τ (q_rt r th) h (st.take ar).reverse (st.drop ar) ls C.2.2.2.2.2.2.1 (x_Post E C τ0 r0 h0) hJ.2.2.1 t5 t4 t6
          rw [List.reverse_reverse, List.take_append_drop] at hh
          refine hh (fun v h2 hP => ?_)
          obtain ⟨q, hq, s', τ', r', b0, b1, b2, b3, b4⟩ := x_beh_ok hEO hJ hOn c3 t2 t3 t7 t9 hP
          have hx' := List.all_eq_true.mp hx q hq
          rw [b0] at hx'
          exact next _ _ τ' r' h2 ls _ hx' b1 b2 b3 b4
        · cases hx
      · split at hx
        · cases hx
        · next i len hat =>
          split at hx
          · next a ha =>
            obtain ⟨v, hv1, hv2⟩ := x_rv_ok (G := G) (MT := MT) (pc := pc) (ls := ls) (h := h) o2 o4 ha
            have hOn : x_O E τ r h0 h ls st (n, q_nar F, L, S, Me, u, w) := ⟨q_nar_wF o1, q_nar_spec o2, o3, o4, o5, o6, o7, o8, o9⟩
            exact p_wp.ret hat hv1 (x_rt_ok hJ hOn hr hv2 hx)
          · split at hx
            · next m B R hiv =>
              simp only [Bool.and_eq_true] at hx
              obtain ⟨-, hx⟩ := hx
              split at hx
              · next d th htk =>
                obtain ⟨hd, htk⟩ := x_tks_ok htk
                obtain ⟨as, rest, c1, c2, c3⟩ := x_iv_ok (G := G) (pc := pc) (ls := ls) hJ.2.2.1 o4 hiv
                obtain ⟨t1, t2, t3, t4, t5, t6, t7, t8, t9⟩ := x_tk_ok o2 o5 c2 htk
                obtain ⟨M', hM'⟩ := hDM d hd
                obtain ⟨hcat, hwp⟩ := hD d hd τ (q_rt r th) h as M' hM' hJ.2.2.1 t5 t4 t6
                rw [t1] at hM'
                refine p_wp.call hat c1 hM' hcat t8 hwp ?_
                intro v h2 hP
                obtain ⟨q, hq, s', τ', r', b0, b1, b2, b3, b4⟩ := x_beh_ok hEO hJ hO c3 t2 t3 t7 t9 hP
                have hx' := List.all_eq_true.mp hx q hq
                rw [b0] at hx'
                exact next _ _ τ' r' h2 ls _ hx' b1 b2 b3 b4
              · cases hx
            · split at hx
              · next o hs =>
                obtain ⟨⟨pc', s'⟩, hm, ls', st', h', r', e1, e2, e3, e4, e5⟩ := x_step_ok (MT := MT) hEO hKO hJ hO hs
                simp only at e1 e3 e5
                refine p_wp.step hat e1 ?_
                exact next pc' s' τ r' h' ls' st' (List.all_eq_true.mp hx _ hm) e2 e3 e4 e5
              · cases hx
end XEX

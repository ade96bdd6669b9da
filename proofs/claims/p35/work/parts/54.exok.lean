/-! THE EXECUTOR IS SOUND -/
section XEX
variable {E : x_E} {τ0 : Nat → Option Nat} {r0 : Nat → Int} {h0 : p_H} {G : p_G} {MT : List p_M} {M : p_M} {D : List x_C} {C : x_C} {U : List x_U} {mu : Option q_E} {z : Int}
/-- what the state of a loop head asks for -/
def x_hd (T : x_U) : x_S := (T.2.1, T.2.2.1, T.2.2.2.1, [], T.2.2.2.2.1, T.2.2.2.2.2.1, T.2.2.2.2.2.2.1)
theorem x_ex_ok (hEO : x_EO E) (hKO : x_KO E) (hD : ∀ d ∈ D, x_Hold G MT E d) (hDM : ∀ d ∈ D, ∃ M', MT[d.1]? = some M') (hU : ∀ T ∈ U, x_wU C.2.1 T = true)
    (IH : ∀ T ∈ U, ∀ (τ : Nat → Option Nat) (r : Nat → Int) (h : p_H) (ls : p_Ls) (st : List Value), x_J E C.2.2.2.2.2.1 τ0 h0 τ h → x_O E τ r h0 h ls st (x_hd T) → (∀ i, i < C.2.1 → r i = r0 i) → 0 ≤ q_e r T.2.2.2.2.2.2.2 → (mu.isSome = true → q_e r T.2.2.2.2.2.2.2 < z) → p_wp G MT C.2.2.2.2.2.2.1 M T.1 ls st h (x_Post E C τ0 r0 h0)) :
    ∀ (k : Nat) (first : Bool) (pc : Nat) (s : x_S) (τ : Nat → Option Nat) (r : Nat → Int) (h : p_H) (ls : p_Ls) (st : List Value), x_ex E.1 G MT M D C U mu k first (pc, s) = true → x_J E C.2.2.2.2.2.1 τ0 h0 τ h → x_O E τ r h0 h ls st s → (∀ i, i < C.2.1 → r i = r0 i) → C.2.1 ≤ s.1 → (∀ e, mu = some e → q_wl s.1 e.1 ∧ q_e r e = z) → p_wp G MT C.2.2.2.2.2.2.1 M pc ls st h (x_Post E C τ0 r0 h0) := by
  intro k
  induction k with
  | zero => intro first pc s τ r h ls st hx; simp [x_ex] at hx
  | succ k ih =>
    intro first pc s τ r h ls st hx hJ hO hr hn hmu
    obtain ⟨n, F, L, S, Me, u, w⟩ := s
    simp only at hn hmu
    have hO' := hO
    obtain ⟨o1, o2, o3, o4, o5, o6, o7, o8, o9⟩ := hO'
    simp only at o1 o2 o3 o4 o5 o6 o7 o8 o9
    simp only [x_ex] at hx
    split at hx
    · simp only [Bool.and_eq_true] at hx
      obtain ⟨hS, hx⟩ := hx
      obtain ⟨T, hT, hx⟩ := List.any_eq_true.mp hx
      simp only [Bool.and_eq_true] at hx
      have hpc := Nat.eq_of_beq_eq_true hx.1
      have hS0 : S = [] := List.isEmpty_iff.mp hS
      subst hS0
      obtain ⟨r', q1, q2, q3, q4⟩ := x_at_ok hO (hU T hT) hx.2
      rw [← hpc]
      refine IH T hT τ r' h ls st hJ q2 (fun i hi => by rw [q1 i hi, hr i hi]) q3 ?_
      intro hm
      obtain ⟨e, he⟩ := Option.isSome_iff_exists.mp hm
      have := q4 e he
      rw [(hmu e he).2] at this
      exact this
    · split at hx
      · cases hx
      · next i len hat =>
        split at hx
        · next a ha =>
          obtain ⟨v, hv1, hv2⟩ := x_rv_ok (G := G) (MT := MT) (pc := pc) (ls := ls) (h := h) o2 o4 ha
          exact p_wp.ret hat hv1 (x_rt_ok hJ hO hr hv2 hx)
        · split at hx
          · next m B R hiv =>
            simp only [Bool.and_eq_true] at hx
            obtain ⟨-, hx⟩ := hx
            split at hx
            · next d th htk =>
              obtain ⟨hd, htk⟩ := x_tks_ok htk
              obtain ⟨as, rest, c1, c2, c3⟩ := x_iv_ok (G := G) (pc := pc) (ls := ls) hJ.2.2.1 o4 hiv
              obtain ⟨t1, t2, t3, t4, t5, t6, t7, t8, t9⟩ := x_tk_ok o2 o5 c2 htk
              obtain ⟨M', hM'⟩ := hDM d hd
              obtain ⟨hcat, hwp⟩ := hD d hd τ (q_rt r th) h as M' hM' hJ.2.2.1 t5 t4 t6
              rw [t1] at hM'
              refine p_wp.call hat c1 hM' hcat t8 hwp ?_
              intro v h2 hP
              obtain ⟨q, hq, τ', r', b1, b2, b3, b4⟩ := x_beh_ok hEO hJ hO c3 t2 t3 t7 t9 hP
              refine ih false (pc + 3) _ τ' r' h2 ls _ (List.all_eq_true.mp hx q hq) b3 b4 ?_ (by omega) ?_
              · intro i hi
                rw [b1 i (by omega), hr i hi]
              · intro e he
                obtain ⟨g1, g2⟩ := hmu e he
                refine ⟨fun t ht => ?_, ?_⟩
                · have := g1 t ht; omega
                · rw [q_e_eq g1 b1]; exact g2
            · cases hx
          · split at hx
            · next o hs =>
              obtain ⟨⟨pc', s'⟩, hm, ls', st', h', r', e1, e2, e3, e4, e5⟩ := x_step_ok (MT := MT) hEO hKO hJ hO hs
              simp only at e1 e3 e5
              refine p_wp.step hat e1 ?_
              refine ih false pc' s' τ r' h' ls' st' (List.all_eq_true.mp hx _ hm) e4 e5 ?_ (by omega) ?_
              · intro i hi
                rw [e2 i (by omega), hr i hi]
              · intro e he
                obtain ⟨g1, g2⟩ := hmu e he
                refine ⟨fun t ht => ?_, ?_⟩
                · have := g1 t ht; omega
                · rw [q_e_eq g1 e2]; exact g2
            · cases hx
end XEX

section XBH
variable {E : x_E} {τ τ0 τ1 : Nat → Option Nat} {r r0 : Nat → Int} {n np : Nat} {th : List q_E} {h h0 h2 : p_H} {F : q_F} {L S R : List x_V} {Me : x_M} {u w : q_E} {ls : p_Ls} {st rest : List Value} {f g : x_F}
theorem x_beh_ok {D : x_C} {v : Option Value} (hEO : x_EO E) (hJ : x_J E f τ0 h0 τ h) (hO : x_O E τ r h0 h ls st (n, F, L, S, Me, u, w)) (hR : x_vs τ r n R rest) (hl : th.length = D.2.1) (hw : ∀ e ∈ th, q_wl n e.1) (hc : ∀ t ∈ D.2.2.2.2.2.1, x_cov f t.1 t.2.1 t.2.2 = true) (hQ : ∀ q ∈ D.2.2.2.2.2.2.2.2.2, x_wQ D.2.1 q = true) (hP : x_Post E D τ (q_rt r th) h v h2) :
    ∃ q ∈ D.2.2.2.2.2.2.2.2.2, ∃ (s : x_S) (τ' : Nat → Option Nat) (r' : Nat → Int), x_beh E.1 D q th n F L R Me u w = some s ∧ (∀ i, i < n → r' i = r i) ∧ n ≤ s.1 ∧ x_J E f τ0 h0 τ' h2 ∧ x_O E τ' r' h0 h2 ls (v.toList ++ rest) s := by
  obtain ⟨o1, o2, o3, o4, o5, o6, o7, o8, o9⟩ := hO
  simp only at o1 o2 o3 o4 o5 o6 o7 o8 o9
  obtain ⟨τ', rq, pJ, q, hq, pl, ps, p1, p2, p3, p4⟩ := hP
  have wq := hQ q hq
  simp only [x_wQ, Bool.and_eq_true] at wq
  obtain ⟨⟨⟨w1, w2⟩, w3⟩, w4⟩ := wq
  have w1 := Nat.le_of_ble_eq_true w1
  have hH : x_H E τ h := hJ.2.2.1
  let r' : Nat → Int := fun i => if i < n then r i else rq (D.2.1 + (i - n))
  have hr' : ∀ i, i < n → r' i = r i := fun i hi => if_pos hi
  let k := q.1 - D.2.1
  let th2 := x_th2 th n k
  have hw2 : ∀ e ∈ th2, q_wl (n + k) e.1 := x_th2_wl hw
  have hk : D.2.1 + k = q.1 := by show D.2.1 + (q.1 - D.2.1) = q.1; omega
  have hrt : ∀ i, i < q.1 → q_rt r' th2 i = rq i := by
    intro i hi
    by_cases hlt : i < D.2.1
    · show q_e r' ((x_th2 th n k).getD i ([], 0)) = rq i
      rw [x_th2_lo hl hlt, p1 i hlt]
      exact q_e_eq (x_getD_wl hw i) hr'
    · show q_e r' ((x_th2 th n k).getD i ([], 0)) = rq i
      rw [x_th2_hi hl (by omega) (by omega), q_v_e]
      show (if n + (i - D.2.1) < n then _ else rq (D.2.1 + (n + (i - D.2.1) - n))) = rq i
      rw [if_neg (by omega)]
      congr 1
      omega
  have ht : ∀ i k, τ i = some k → τ' i = some k := pJ.1
  have hF' : ∃ G, x_aF D.2.1 n th2 q.2.1 F = some G ∧ q_wF (n + k) G ∧ q_FO r' G := by
    refine x_aF_ok hl hw ?_ (o1.mono (by omega)) (o2.moved o1 hr') ?_
    · intro t htt
      have := (x_wF_ok w2).1 t htt
      omega
    · exact p2.moved (x_wF_ok w2) hrt
  obtain ⟨G, hG, hG1, hG2⟩ := hF'
  refine ⟨q, hq, (n + k, G, L, (q.2.2.1.map (x_thv th2)).toList ++ R, x_new (q.2.2.2.1.map (fun m => (q_th th2 m.1, m.2.1, m.2.2.1, x_thv th2 m.2.2.2))) (Me.filter (x_kp E.1 D.2.2.2.2.2.1)), q_pl u q.2.2.2.2.1, q_pl w q.2.2.2.2.2), τ', r', ?_, hr', by simp only; omega, x_J_trans hJ pJ hc, hG1, hG2, ?_, ?_, ?_, ?_, ?_, ?_, ?_⟩
  · show (match x_aF D.2.1 n th2 q.2.1 F with | none => none | some G => some _) = _
    rw [hG]
  · intro i a hi ha
    obtain ⟨x, hx1, hx2⟩ := o3 i a hi ha
    exact ⟨x, hx1, hx2.moved hr' (by simp only; omega) ht⟩
  · simp only
    refine x_vs_app ?_ (hR.moved hr' (by omega) ht)
    cases hqa : q.2.2.1 with
    | none =>
      rw [hqa] at p3
      cases v with
      | none => exact trivial
      | some v => exact p3.elim
    | some a =>
      rw [hqa] at p3
      cases v with
      | none => exact p3.elim
      | some v =>
        refine ⟨?_, trivial⟩
        have : x_v τ' (q_rt r' th2) q.1 a v := x_v.moved p3 hrt (Nat.le_refl _) (fun _ _ hh => hh)
        exact x_thv_ok hw2 this
  · intro m hm
    replace hm := x_new_mem hm
    simp only [List.mem_map, List.mem_filter] at hm
    rcases hm with ⟨m', hm', rfl⟩ | ⟨hm1, hm2⟩
    · have : x_m E τ' (q_rt r' th2) q.1 h2 m' := (p4 m' hm').moved hrt (Nat.le_refl _) (fun _ _ hh => hh)
      exact x_thm_ok hw2 this
    · exact x_kp_m hEO hH hm2 pJ.2.2.2 (o5 m hm1) hr' (by simp only; omega) ht
  · intro t ht'
    have := o6 t ht'
    show t.1 < n + k
    omega
  · show (h2.length : Int) ≤ h0.length + q_e r' (q_pl u q.2.2.2.2.1)
    rw [q_pl_e]
    have := q_e_eq (r := r) (r' := r') o6 hr'
    omega
  · intro t ht'
    have := o8 t ht'
    show t.1 < n + k
    omega
  · show (p_sl h2 : Int) ≤ p_sl h0 + q_e r' (q_pl w q.2.2.2.2.2)
    rw [q_pl_e]
    have := q_e_eq (r := r) (r' := r') o8 hr'
    omega
end XBH

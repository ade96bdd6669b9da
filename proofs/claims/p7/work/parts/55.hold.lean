/-! A CONTRACT IS CHECKED: the body from its start, and from each loop head -/
noncomputable def x_lA : List x_V → List x_V
  | [] => []
  | a :: A => if Nat.beq a.1 2 then a :: (0, 0, ([], 0)) :: x_lA A else a :: x_lA A
noncomputable def x_beg (nL : Nat) (C : x_C) : x_S := (C.2.1, C.2.2.2.1, x_lA C.2.2.1 ++ List.replicate (nL - (x_lA C.2.2.1).length) (0, 0, ([], 0)), [], C.2.2.2.2.1, q_c 0, q_c 0)
noncomputable def x_chk (E : List x_K) (G : p_G) (MT : List p_M) (D : List x_C) (k : Nat) (C : x_C) (U V : List x_U) (Y : x_Y) : Bool := match MT[C.1]? with
  | none => false
  | some M => C.2.2.1.all x_tagok && x_wF C.2.1 C.2.2.2.1 && Nat.ble (x_catV C.2.2.1) M.2.2.1 && (U ++ V).all (x_wU C.2.1) && x_ex E G MT M D C (U ++ V) Y none k false (0, x_beg M.2.2.1 C) && U.all (fun T => x_ex E G MT M D C (U ++ V) Y (some T.2.2.2.2.2.2.2) k true (T.1, x_hd T))
section XHO
variable {E : x_E} {τ τ0 : Nat → Option Nat} {r r0 : Nat → Int} {n : Nat} {h0 : p_H} {G : p_G} {MT : List p_M} {M : p_M} {D : List x_C} {C : x_C} {U V : List x_U} {Y : x_Y}
theorem p_lk_ge : ∀ {as : List Value} {i j : Nat}, i < j → p_lk i (lv_args j as) = none := by
  intro as
  induction as with
  | nil => intro i j _; rfl
  | cons v vs ih =>
    intro i j hij
    simp only [lv_args, p_lk]
    have : Nat.beq j i = false := by
      cases hb : Nat.beq j i with
      | false => rfl
      | true => have := Nat.eq_of_beq_eq_true hb; omega
    rw [this]
    simp only [Bool.false_eq_true, if_false]
    split
    · exact ih (by omega)
    · exact ih (by omega)
theorem x_cat_t {a : x_V} {v : Value} (ht : x_tagok a = true) (hv : x_v τ r n a v) : v.category = if Nat.beq a.1 2 then 2 else 1 := by
  obtain ⟨t, k, e⟩ := a
  obtain ⟨-, hv⟩ := hv
  simp only [x_tagok] at ht
  simp only at hv ht ⊢
  split at hv
  · obtain ⟨x, rfl, -⟩ := hv; rfl
  · obtain ⟨x, rfl, -⟩ := hv; rfl
  · obtain ⟨x, rfl, -⟩ := hv; rfl
  · subst hv; rfl
  · cases ht
  · cases ht
  · exact hv.elim
theorem x_lA_ok : ∀ {A : List x_V} {V : List Value} (j : Nat), A.all x_tagok = true → x_vs τ r n A V → ∀ (i : Nat) (a : x_V), (x_lA A)[i]? = some a → a.1 ≠ 0 → ∃ v, p_lk (j + i) (lv_args j V) = some v ∧ x_v τ r n a v := by
  intro A
  induction A with
  | nil => intro V j _ hv i a hi; simp [x_lA] at hi
  | cons b A ih =>
    intro V j ht hv i a hi ha
    cases V with
    | nil => exact hv.elim
    | cons v V =>
      simp only [List.all_cons, Bool.and_eq_true] at ht
      have hc := x_cat_t ht.1 hv.1
      simp only [lv_args, p_lk, x_lA] at hi ⊢
      cases hb : Nat.beq b.1 2 with
      | true =>
        rw [hb] at hi hc
        simp only [if_true] at hi hc
        cases i with
        | zero =>
          simp only [List.getElem?_cons_zero, Option.some.injEq] at hi
          subst hi
          exact ⟨v, by simp, hv.1⟩
        | succ i =>
          cases i with
          | zero =>
            simp only [List.getElem?_cons_succ, List.getElem?_cons_zero, Option.some.injEq] at hi
            subst hi
            exact absurd rfl ha
          | succ i =>
            simp only [List.getElem?_cons_succ] at hi
            obtain ⟨x, hx1, hx2⟩ := ih (j + 2) ht.2 hv.2 i a hi ha
            refine ⟨x, ?_, hx2⟩
            rw [if_neg (by intro hq; have := Nat.eq_of_beq_eq_true hq; omega), if_pos hc, ← hx1]
            congr 1
            omega
      | false =>
        rw [hb] at hi hc
        simp only [Bool.false_eq_true, if_false] at hi hc
        cases i with
        | zero =>
          simp only [List.getElem?_cons_zero, Option.some.injEq] at hi
          subst hi
          exact ⟨v, by simp, hv.1⟩
        | succ i =>
          simp only [List.getElem?_cons_succ] at hi
          obtain ⟨x, hx1, hx2⟩ := ih (j + 1) ht.2 hv.2 i a hi ha
          refine ⟨x, ?_, hx2⟩
          rw [if_neg (by intro hq; have := Nat.eq_of_beq_eq_true hq; omega), if_neg (by omega), ← hx1]
          congr 1
          omega
theorem x_ef_refl {f : x_F} : x_ef f τ0 h0 h0 := ⟨fun _ _ c _ hc => ⟨c, hc, rfl, fun _ _ => rfl⟩, fun _ _ _ => rfl⟩
theorem x_chk_ok (hEO : x_EO E) (hKO : x_KO E) (hD : ∀ d ∈ D, x_Hold G MT E d) (hDM : ∀ d ∈ D, ∃ M', MT[d.1]? = some M') (hY : ∀ M', MT[C.1]? = some M' → ∀ q ∈ Y.2, ∀ d ∈ q.2.2.2, x_HoldR G MT E M' q.1 q.2.2.1 d) {k : Nat} (hV : ∀ M', MT[C.1]? = some M' → ∀ T ∈ V, ∀ (τ0 : Nat → Option Nat) (r0 : Nat → Int) (h0 : p_H) (τ1 : Nat → Option Nat) (r1 : Nat → Int) (h1 : p_H) (ls : p_Ls) (st : List Value), x_J E C.2.2.2.2.2.1 τ0 h0 τ1 h1 → x_O E τ1 r1 h0 h1 ls st (x_hd T) → (∀ i, i < C.2.1 → r1 i = r0 i) → p_wp G MT C.2.2.2.2.2.2.1 M' T.1 ls st h1 (x_Post E C τ0 r0 h0)) (hg : x_chk E.1 G MT D k C U V Y = true) : x_Hold G MT E C := by
  intro τ r h as M hM hH hA hF hm
  unfold x_chk at hg
  rw [hM] at hg
  simp only [Bool.and_eq_true] at hg
  obtain ⟨⟨⟨⟨⟨g1, g2⟩, g3⟩, g4⟩, g5⟩, g6⟩ := hg
  have hU : ∀ T ∈ U ++ V, x_wU C.2.1 T = true := fun T hT => List.all_eq_true.mp g4 T hT
  have loop : ∀ (z : Nat), ∀ T ∈ U, ∀ (τ1 : Nat → Option Nat) (r1 : Nat → Int) (h1 : p_H) (ls : p_Ls) (st : List Value), x_J E C.2.2.2.2.2.1 τ h τ1 h1 → x_O E τ1 r1 h h1 ls st (x_hd T) → (∀ i, i < C.2.1 → r1 i = r i) → 0 ≤ q_e r1 T.2.2.2.2.2.2.2 → q_e r1 T.2.2.2.2.2.2.2 < z → p_wp G MT C.2.2.2.2.2.2.1 M T.1 ls st h1 (x_Post E C τ r h) := by
    intro z
    induction z with
    | zero => intro T _ τ1 r1 h1 ls st _ _ _ a b; exact absurd b (by omega)
    | succ z ihz =>
      intro T hT τ1 r1 h1 ls st hJ hO hr hp hz
      have wT := hU T (List.mem_append_left _ hT)
      simp only [x_wU, Bool.and_eq_true] at wT
      refine x_ex_ok (mu := some T.2.2.2.2.2.2.2) (z := q_e r1 T.2.2.2.2.2.2.2) hEO hKO hD hDM (hY M hM) hU ?_ k true T.1 (x_hd T) τ1 r1 h1 ls st (List.all_eq_true.mp g6 T hT) hJ hO hr (Nat.le_of_ble_eq_true wT.1.1.1.1.1.1) ?_
      · intro T' hT' τ2 r2 h2 ls2 st2 a1 a2 a3 a4 a5
        have := a5 rfl
        rcases List.mem_append.mp hT' with hT' | hT'
        · exact ihz T' hT' τ2 r2 h2 ls2 st2 a1 a2 a3 a4 (by omega)
        · exact hV M hM T' hT' τ r h τ2 r2 h2 ls2 st2 a1 a2 a3
      · intro e he
        cases he
        exact ⟨x_wl_ok wT.2, rfl⟩
  refine ⟨Nat.le_trans (x_catV_ok hA) (Nat.le_of_ble_eq_true g3), ?_⟩
  refine x_ex_ok (mu := none) (z := 0) hEO hKO hD hDM (hY M hM) hU ?_ k false 0 (x_beg M.2.2.1 C) τ r h (lv_args 0 as) [] g5 ⟨fun _ _ hh => hh, fun _ _ hh => Or.inl hh, hH, x_ef_refl⟩ ?_ (fun _ _ => rfl) (Nat.le_refl _) (fun e he => by cases he)
  · intro T hT τ1 r1 h1 ls st a1 a2 a3 a4 _
    rcases List.mem_append.mp hT with hT | hT
    · exact loop ((q_e r1 T.2.2.2.2.2.2.2).toNat + 1) T hT τ1 r1 h1 ls st a1 a2 a3 a4 (by omega)
    · exact hV M hM T hT τ r h τ1 r1 h1 ls st a1 a2 a3
  · refine ⟨x_wF_ok g2, hF, ?_, trivial, hm, q_c_wl, ?_, q_c_wl, ?_⟩
    · intro i a hi ha
      have hi : (x_lA C.2.2.1)[i]? = some a := by
        simp only [x_beg] at hi
        rw [List.getElem?_append] at hi
        split at hi
        · exact hi
        · rw [List.getElem?_replicate] at hi
          split at hi
          · cases hi; exact absurd rfl ha
          · cases hi
      have := x_lA_ok 0 g1 hA i a hi ha
      rw [Nat.zero_add] at this
      exact this
    · simp only [x_beg, q_c_e]; omega
    · simp only [x_beg, q_c_e]; omega
/-- contracts that hold, of methods that are there -/
def x_OK (G : p_G) (MT : List p_M) (E : x_E) (C : x_C) : Prop := x_Hold G MT E C ∧ ∃ M', MT[C.1]? = some M'
theorem x_chk_OK (hEO : x_EO E) (hKO : x_KO E) (hD : ∀ d ∈ D, x_OK G MT E d) (hY : ∀ M', MT[C.1]? = some M' → ∀ q ∈ Y.2, ∀ d ∈ q.2.2.2, x_HoldR G MT E M' q.1 q.2.2.1 d) {k : Nat} (hg : x_chk E.1 G MT D k C U [] Y = true) : x_OK G MT E C := by
  refine ⟨x_chk_ok hEO hKO (fun d hd => (hD d hd).1) (fun d hd => (hD d hd).2) hY (fun M' _ T hT => by cases hT) hg, ?_⟩
  unfold x_chk at hg
  split at hg
  · cases hg
  · next M' hM' => exact ⟨M', hM'⟩
end XHO

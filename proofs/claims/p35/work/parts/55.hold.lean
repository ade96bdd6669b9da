/-! A CONTRACT IS CHECKED: the body from its start, and from each loop head -/
noncomputable def x_lA : List x_V → List x_V
  | [] => []
  | a :: A => if Nat.beq a.1 2 then a :: (0, 0, ([], 0)) :: x_lA A else a :: x_lA A
noncomputable def x_beg (nL : Nat) (C : x_C) : x_S := (C.2.1, C.2.2.2.1, x_lA C.2.2.1 ++ List.replicate (nL - (x_lA C.2.2.1).length) (0, 0, ([], 0)), [], C.2.2.2.2.1, q_c 0, q_c 0)
noncomputable def x_chk (E : List x_K) (G : p_G) (MT : List p_M) (D : List x_C) (k : Nat) (C : x_C) (U : List x_U) (Y : x_Y) : Bool := match MT[C.1]? with
  | none => false
  | some M => C.2.2.1.all x_tagok && x_wF C.2.1 C.2.2.2.1 && Nat.ble (x_catV C.2.2.1) M.2.2.1 && U.all (x_wU C.2.1) && x_ex E G MT M D C U Y none k false (0, x_beg M.2.2.1 C) && U.all (fun T => x_ex E G MT M D C U Y (some T.2.2.2.2.2.2.2) k true (T.1, x_hd T))
section XHO
variable {E : x_E} {τ τ0 : Nat → Option Nat} {r r0 : Nat → Int} {n : Nat} {h0 : p_H} {G : p_G} {MT : List p_M} {M : p_M} {D : List x_C} {C : x_C} {U : List x_U} {Y : x_Y}
theorem p_lk_ge : ∀ {as : List Value} {i j : Nat}, i < j → p_lk i (lv_args j as) = none := by
  intro as
  induction as with
  | nil => intro i j _; rfl
  | cons v vs ih =>
    intro i j hij
    simp only [lv_args, p_lk]
    have : Nat.beq j i = false := by
      cases hb : Nat.beq j i with
      | false => rfl
      | true => have := Nat.eq_of_beq_eq_true hb; omega
    rw [this]
    simp only [Bool.false_eq_true, if_false]
    split
    · exact ih (by omega)
    · exact ih (by omega)
theorem x_cat_t {a : x_V} {v : Value} (ht : x_tagok a = true) (hv : x_v τ r n a v) : v.category = if Nat.beq a.1 2 then 2 else 1 := by
  obtain ⟨t, k, e⟩ := a
  obtain ⟨-, hv⟩ := hv
  simp only [x_tagok] at ht
  simp only at hv ht ⊢
  split at hv
  · obtain ⟨x, rfl, -⟩ := hv; rfl
  · obtain ⟨x, rfl, -⟩ := hv; rfl
  · obtain ⟨x, rfl, -⟩ := hv; rfl
  · subst hv; rfl
  · cases ht
  · cases ht
  · exact hv.elim
theorem x_lA_ok : ∀ {A : List x_V} {V : List Value} (j : Nat), A.all x_tagok = true → x_vs τ r n A V → ∀ (i : Nat) (a : x_V), (x_lA A)[i]? = some a → a.1 ≠ 0 → ∃ v, p_lk (j + i) (lv_args j V) = some v ∧ x_v τ r n a v := by
  intro A
  induction A with
  | nil => intro V j _ hv i a hi; simp [x_lA] at hi
  | cons b A ih =>
    intro V j ht hv i a hi ha
    cases V with
    | nil => exact hv.elim
    | cons v V =>
      simp only [List.all_cons, Bool.and_eq_true] at ht
      have hc := x_cat_t ht.1 hv.1
      simp only [lv_args, p_lk, x_lA] at hi ⊢
      cases hb : Nat.beq b.1 2 with
      | true =>
        rw [hb] at hi hc
        simp only [if_true] at hi hc
        cases i with
        | zero =>
          simp only [List.getElem?_cons_zero, Option.some.injEq] at hi
          subst hi
          exact ⟨v, by simp, hv.1⟩
        | succ i =>
          cases i with
          | zero =>
            simp only [List.getElem?_cons_succ, List.getElem?_cons_zero, Option.some.injEq] at hi
            subst hi
            exact absurd rfl ha
          | succ i =>
            simp only [List.getElem?_cons_succ] at hi
            obtain ⟨x, hx1, hx2⟩ := ih (j + 2) ht.2 hv.2 i a hi ha
            refine ⟨x, ?_, hx2⟩
            rw [if_neg (by intro hq; have := Nat.eq_of_beq_eq_true hq; omega), if_pos hc, ← hx1]
            congr 1
            omega
      | false =>
        rw [hb] at hi hc
        simp only [Bool.false_eq_true, if_false] at hi hc
        cases i with
        | zero =>
          simp only [List.getElem?_cons_zero, Option.some.injEq] at hi
          subst hi
          exact ⟨v, by simp, hv.1⟩
        | succ i =>
          simp only [List.getElem?_cons_succ] at hi
          obtain ⟨x, hx1, hx2⟩ := ih (j + 1) ht.2 hv.2 i a hi ha
          refine ⟨x, ?_, hx2⟩
          rw [if_neg (by intro hq; have := Nat.eq_of_beq_eq_true hq; omega), if_neg (by omega), ← hx1]
          congr 1
          omega
theorem x_ef_refl {f : x_F} : x_ef f τ0 h0 h0 := ⟨fun _ _ c _ hc => ⟨c, hc, rfl, fun _ _ => rfl⟩, fun _ _ _ => rfl⟩
theorem x_chk_ok (hEO : x_EO E) (hKO : x_KO E) (hD : ∀ d ∈ D, x_Hold G MT E d) (hDM : ∀ d ∈ D, ∃ M', MT[d.1]? = some M') (hY : ∀ M', MT[C.1]? = some M' → ∀ q ∈ Y.2, ∀ d ∈ q.2.2.2, x_HoldR G MT E M' q.1 q.2.2.1 d) {k : Nat} (hg : x_chk E.1 G MT D k C U Y = true) : x_Hold G MT E C := by
  intro τ r h as M hM hH hA hF hm
  unfold x_chk at hg
  rw [hM] at hg
  simp only [Bool.and_eq_true] at hg
  obtain ⟨⟨⟨⟨⟨g1, g2⟩, g3⟩, g4⟩, g5⟩, g6⟩ := hg
  have hU : ∀ T ∈ U, x_wU C.2.1 T = true := fun T hT => List.all_eq_true.mp g4 T hT
  have loop : ∀ (z : Nat), ∀ T ∈ U, ∀ (τ1 : Nat → Option Nat) (r1 : Nat → Int) (h1 : p_H) (ls : p_Ls) (st : List Value), x_J E C.2.2.2.2.2.1 τ h τ1 h1 → x_O E τ1 r1 h h1 ls st (x_hd T) → (∀ i, i < C.2.1 → r1 i = r i) → 0 ≤ q_e r1 T.2.2.2.2.2.2.2 → q_e r1 T.2.2.2.2.2.2.2 < z → p_wp G MT C.2.2.2.2.2.2.1 M T.1 ls st h1 (x_Post E C τ r h) := by
    intro z
    induction z with
    | zero => intro T _ τ1 r1 h1 ls st _ _ _ a b; exact absurd b (by omega)
    | succ z ihz =>
      intro T hT τ1 r1 h1 ls st hJ hO hr hp hz
      have wT := hU T hT
      simp only [x_wU, Bool.and_eq_true] at wT
      refine x_ex_ok (mu := some T.2.2.2.2.2.2.2) (z := q_e r1 T.2.2.2.2.2.2.2) hEO hKO hD hDM (hY M hM) hU ?_ k true T.1 (x_hd T) τ1 r1 h1 ls st (List.all_eq_true.mp g6 T hT) hJ hO hr (Nat.le_of_ble_eq_true wT.1.1.1.1.1.1) ?_
      · intro T' hT' τ2 r2 h2 ls2 st2 a1 a2 a3 a4 a5
        have := a5 rfl
        exact ihz T' hT' τ2 r2 h2 ls2 st2 a1 a2 a3 a4 (by omega)
      · intro e he
        cases he
        exact ⟨x_wl_ok wT.2, rfl⟩
  refine ⟨Nat.le_trans (x_catV_ok hA) (Nat.le_of_ble_eq_true g3), ?_⟩
  refine x_ex_ok (mu := none) (z := 0) hEO hKO hD hDM (hY M hM) hU ?_ k false 0 (x_beg M.2.2.1 C) τ r h (lv_args 0 as) [] g5 ⟨fun _ _ hh => hh, fun _ _ hh => Or.inl hh, hH, x_ef_refl⟩ ?_ (fun _ _ => rfl) (Nat.le_refl _) (fun e he => by cases he)
  · intro T hT τ1 r1 h1 ls st a1 a2 a3 a4 _
    exact loop ((q_e r1 T.2.2.2.2.2.2.2).toNat + 1) T hT τ1 r1 h1 ls st a1 a2 a3 a4 (by omega)
  · refine ⟨x_wF_ok g2, hF, ?_, trivial, hm, q_c_wl, ?_, q_c_wl, ?_⟩
    · intro i a hi ha
      have hi : (x_lA C.2.2.1)[i]? = some a := by
        simp only [x_beg] at hi
        rw [List.getElem?_append] at hi
        split at hi
        · exact hi
        · rw [List.getElem?_replicate] at hi
          split at hi
          · cases hi; exact absurd rfl ha
          · cases hi
      have := x_lA_ok 0 g1 hA i a hi ha
      rw [Nat.zero_add] at this
      exact this
    · simp only [x_beg, q_c_e]; omega
    · simp only [x_beg, q_c_e]; omega
/-- a list of contracts, each with its loop heads, its pieces, and the numbers of those before it (the first at 0) that it uses -/
noncomputable def x_pk (D : List x_C) : List Nat → List x_C
  | [] => []
  | i :: I => match D[i]? with
    | some c => c :: x_pk D I
    | none => x_pk D I
noncomputable def x_all (E : List x_K) (G : p_G) (MT : List p_M) (k : Nat) : List x_C → List (x_C × List x_U × x_Y × List Nat) → Bool
  | _, [] => true
  | D, (C, U, Y, I) :: R => x_chk E G MT (x_pk D I) k C U Y && x_all E G MT k (D ++ [C]) R
theorem x_pk_mem {D : List x_C} {c : x_C} : ∀ {I : List Nat}, c ∈ x_pk D I → c ∈ D := by
  intro I
  induction I with
  | nil => intro h; cases h
  | cons i I ih =>
    intro h
    simp only [x_pk] at h
    split at h
    · next c' hc =>
      rcases List.mem_cons.mp h with rfl | h
      · exact List.mem_of_getElem? hc
      · exact ih h
    · exact ih h
theorem x_all_ok (hEO : x_EO E) (hKO : x_KO E) {k : Nat} : ∀ (R : List (x_C × List x_U × x_Y × List Nat)) (D : List x_C), (∀ d ∈ D, x_Hold G MT E d) → (∀ d ∈ D, ∃ M', MT[d.1]? = some M') → (∀ p ∈ R, ∀ M', MT[p.1.1]? = some M' → ∀ q ∈ p.2.2.1.2, ∀ d ∈ q.2.2.2, x_HoldR G MT E M' q.1 q.2.2.1 d) → x_all E.1 G MT k D R = true → (∀ q ∈ R, x_Hold G MT E q.1) ∧ ∀ q ∈ R, ∃ M', MT[q.1.1]? = some M' := by
  intro R
  induction R with
  | nil => intro D _ _ _ _; exact ⟨fun q hq => (by cases hq), fun q hq => (by cases hq)⟩
  | cons p R ih =>
    intro D h1 h2 hY hg
    obtain ⟨C, U, Y, I⟩ := p
    simp only [x_all, Bool.and_eq_true] at hg
    have hC : x_Hold G MT E C := x_chk_ok hEO hKO (fun d hd => h1 d (x_pk_mem hd)) (fun d hd => h2 d (x_pk_mem hd)) (hY _ List.mem_cons_self) hg.1
    have hM : ∃ M', MT[C.1]? = some M' := by
      have := hg.1
      unfold x_chk at this
      split at this
      · cases this
      · next M' hM' => exact ⟨M', hM'⟩
    have := ih (D ++ [C]) (fun d hd => ?_) (fun d hd => ?_) (fun p hp => hY p (List.mem_cons_of_mem _ hp)) hg.2
    · refine ⟨fun q hq => ?_, fun q hq => ?_⟩
      · rcases List.mem_cons.mp hq with rfl | hq
        · exact hC
        · exact this.1 q hq
      · rcases List.mem_cons.mp hq with rfl | hq
        · exact hM
        · exact this.2 q hq
    · rcases List.mem_append.mp hd with hd | hd
      · exact h1 d hd
      · rw [List.mem_singleton.mp hd]; exact hC
    · rcases List.mem_append.mp hd with hd | hd
      · exact h2 d hd
      · rw [List.mem_singleton.mp hd]; exact hM
end XHO

/-! A contract's start, or a loop head, against what is known -/
noncomputable def x_wl (n : Nat) (L : q_L) : Bool := L.all (fun t => Nat.blt t.1 n)
theorem x_wl_ok {n : Nat} {L : q_L} (h : x_wl n L = true) : q_wl n L := fun t ht => Nat.le_of_ble_eq_true (List.all_eq_true.mp h t ht)
noncomputable def x_wV (n : Nat) (a : x_V) : Bool := x_wl n a.2.2.1
noncomputable def x_wM (n : Nat) (m : q_E × Nat × Nat × x_V) : Bool := x_wl n m.1.1 && x_wV n m.2.2.2
noncomputable def x_wF (n : Nat) (F : q_F) : Bool := F.1.all (fun t => Nat.blt t.1 n) && F.2.1.all (fun e => x_wl n e.1) && F.2.2.all (fun e => x_wl n e.1)
theorem x_wF_ok {n : Nat} {F : q_F} (h : x_wF n F = true) : q_wF n F := by
  simp only [x_wF, Bool.and_eq_true, List.all_eq_true] at h
  exact ⟨fun t ht => Nat.le_of_ble_eq_true (h.1.1 t ht), fun e he => x_wl_ok (h.1.2 e he), fun e he => x_wl_ok (h.2 e he)⟩
noncomputable def x_cF (F : q_F) (th : List q_E) (T : q_F) : Bool := T.1.all (fun t => q_entd F (q_pl (th.getD t.1 ([], 0)) (-t.2.1)) && q_entd F (q_sub (q_c t.2.2) (th.getD t.1 ([], 0)))) && T.2.1.all (fun e => q_entd F (q_th th e)) && T.2.2.all (fun e => q_ne0 F (q_th th e))
noncomputable def x_cM (F : q_F) (th : List q_E) (Me : x_M) (m : q_E × Nat × Nat × x_V) : Bool := Me.any (fun q => Nat.beq q.2.2.1 m.2.2.1 && Nat.beq q.2.1 m.2.1 && q_eqE (q_th th m.1) q.1 && Nat.ble 1 m.2.2.2.1 && x_same F th m.2.2.2 q.2.2.2)
noncomputable def x_cV (F : q_F) (th : List q_E) : List x_V → List x_V → Bool
  | [], [] => true
  | a :: A, b :: B => x_same F th a b && x_cV F th A B
  | _, _ => false
section XMT
variable {E : x_E} {τ : Nat → Option Nat} {r : Nat → Int} {n np : Nat} {th : List q_E} {h : p_H} {F : q_F} {Me : x_M}
theorem x_cF_ok {T : q_F} (hF : q_FO r F) (hg : x_cF F th T = true) : q_FO (q_rt r th) T := by
  simp only [x_cF, Bool.and_eq_true, List.all_eq_true] at hg
  refine ⟨fun t ht => ?_, fun e he => ?_, fun e he => ?_⟩
  · have h1 := q_entd_spec hF (hg.1.1 t ht).1
    have h2 := q_entd_spec hF (hg.1.1 t ht).2
    rw [q_pl_e] at h1
    rw [q_sub_e, q_c_e] at h2
    show t.2.1 ≤ q_e r (th.getD t.1 ([], 0)) ∧ q_e r (th.getD t.1 ([], 0)) ≤ t.2.2
    omega
  · have := q_entd_spec hF (hg.1.2 e he)
    rw [q_th_e] at this; exact this
  · have := q_ne0_spec hF (hg.2 e he)
    rw [q_th_e] at this; exact this
theorem x_cM_ok {m : q_E × Nat × Nat × x_V} (hF : q_FO r F) (hM : ∀ q ∈ Me, x_m E τ r n h q) (hw : x_wM np m = true) (hg : x_cM F th Me m = true) : x_m E τ (q_rt r th) np h m := by
  simp only [x_cM, List.any_eq_true, Bool.and_eq_true] at hg
  obtain ⟨q, hq, ⟨⟨⟨g1, g2⟩, g3⟩, g4⟩, g5⟩ := hg
  have k1 := Nat.eq_of_beq_eq_true g1
  have k2 := Nat.eq_of_beq_eq_true g2
  have k3 := q_eqE_ok g3
  have k4 := Nat.le_of_ble_eq_true g4
  simp only [x_wM, Bool.and_eq_true] at hw
  have wv : q_wl np m.2.2.2.2.2.1 := x_wl_ok hw.2
  have hnum : ∀ z : Int, q.2.2.2.1 = 1 → z = q_e r q.2.2.2.2.2 → m.2.2.2.1 = 1 ∧ z = q_e (q_rt r th) m.2.2.2.2.2 := by
    intro z t1 hz
    unfold x_same at g5
    split at g5
    · next e => omega
    · next e =>
      have := Nat.eq_of_beq_eq_true g5
      omega
    · simp only [Bool.and_eq_true] at g5
      have e5 := Nat.eq_of_beq_eq_true g5.1.1
      have e6 := q_eqF_spec hF g5.2
      rw [q_th_e] at e6
      exact ⟨by omega, by rw [e6]; exact hz⟩
  obtain ⟨-, hq⟩ := hM q hq
  rw [k1] at hq
  refine ⟨x_wl_ok hw.1, ?_⟩
  split
  · next g =>
    rw [if_pos g] at hq
    have := hnum _ hq.2.1 hq.2.2.2
    exact ⟨wv, this.1, hq.2.2.1, by rw [← this.2, ← k3, q_th_e]⟩
  · next g =>
    rw [if_neg g] at hq
    obtain ⟨i, c, e1, e2, e3, e4⟩ := hq
    refine ⟨i, c, by rw [e1, ← k3, q_th_e], by rw [← k2]; exact e2, e3, ?_⟩
    split
    · next g =>
      rw [if_pos g] at e4
      have := hnum _ e4.2.1 e4.2.2
      exact ⟨wv, this.1, this.2⟩
    · next g =>
      rw [if_neg g] at e4
      obtain ⟨v, q1, q2⟩ := e4
      exact ⟨v, q1, x_same_ok hF g5 wv q2⟩
theorem x_cV_ok (hF : q_FO r F) : ∀ {A B : List x_V} {V : List Value}, x_cV F th A B = true → A.all (x_wV np) = true → x_vs τ r n B V → x_vs τ (q_rt r th) np A V := by
  intro A
  induction A with
  | nil =>
    intro B V hg _ hv
    cases B with
    | nil => cases V <;> exact hv
    | cons b B => simp [x_cV] at hg
  | cons a A ih =>
    intro B V hg hw hv
    cases B with
    | nil => simp [x_cV] at hg
    | cons b B =>
      cases V with
      | nil => exact hv.elim
      | cons v V =>
        simp only [x_cV, Bool.and_eq_true] at hg
        simp only [List.all_cons, Bool.and_eq_true] at hw
        exact ⟨x_same_ok hF hg.1 (x_wl_ok hw.1) hv.1, ih hg.2 hw.2 hv.2⟩
end XMT

/-! The facts of an outcome, put over into the caller's unknowns: np unknowns are the contract's start's (forms th), further ones are new (from n on) -/
noncomputable def x_th2 (th : List q_E) (n k : Nat) : List q_E := th ++ (List.range k).map (fun j => q_v (n + j))
/-- a fact is assumed, if it isn't known -/
noncomputable def x_asq (F : q_F) (e : q_E) : Option q_F := if q_ent F e then some F else x_asm F e
/-- the bounds, each unknown once -/
noncomputable def q_cp : q_I → List Nat → q_I
  | [], _ => []
  | t :: I, s => if s.any (Nat.beq t.1) then q_cp I s else t :: q_cp I (t.1 :: s)
theorem q_cp_mem : ∀ {I : q_I} {s : List Nat} {t : Nat × Int × Int}, t ∈ q_cp I s → t ∈ I := by
  intro I
  induction I with
  | nil => intro s t h; simp [q_cp] at h
  | cons u I ih =>
    intro s t h
    simp only [q_cp] at h
    split at h
    · exact List.mem_cons_of_mem _ (ih h)
    · rcases List.mem_cons.mp h with rfl | h
      · exact List.mem_cons_self
      · exact List.mem_cons_of_mem _ (ih h)
/-- each fact is assumed; none: they can't all be -/
noncomputable def x_aI (np n : Nat) (th : List q_E) : q_I → q_F → Option q_F
  | [], F => some F
  | t :: I, F => if Nat.ble np t.1 then x_aI np n th I ((n + (t.1 - np), t.2.1, t.2.2) :: F.1, F.2.1, F.2.2) else (match x_asq F (q_pl (th.getD t.1 ([], 0)) (-t.2.1)) with
    | none => none
    | some G => (match x_asq G (q_sub (q_c t.2.2) (th.getD t.1 ([], 0))) with
      | none => none
      | some G2 => x_aI np n th I G2))
noncomputable def x_aX (th : List q_E) : List q_E → q_F → Option q_F
  | [], F => some F
  | e :: X, F => (match x_asq F (q_th th e) with
    | none => none
    | some G => x_aX th X G)
noncomputable def x_aZ (th : List q_E) : List q_E → q_F → Option q_F
  | [], F => some F
  | e :: X, F => (match x_asn F (q_th th e) with
    | none => none
    | some G => x_aZ th X G)
/-- a form that isn't 0 and must be -/
noncomputable def x_dead (F : q_F) : Bool := F.2.2.any (fun z => match x_mi F z, x_mx F z with
  | some a, some b => q_z a && q_z b
  | _, _ => false)
noncomputable def x_aF (np n : Nat) (th : List q_E) (T F : q_F) : Option q_F := match x_aI np n th T.1 F with
  | none => none
  | some F1 => (match x_aX th T.2.1 F1 with
    | none => none
    | some F2 => (match x_aZ th T.2.2 F2 with
      | none => none
      | some F3 => if x_dead F3 then none else some (q_cp F3.1 [], F3.2.1, F3.2.2)))
section XAF
variable {r : Nat → Int} {n np nq m : Nat} {th : List q_E}
theorem x_th2_lo {k i : Nat} (hl : th.length = np) (hi : i < np) : (x_th2 th n k).getD i ([], 0) = th.getD i ([], 0) := by
  simp only [x_th2, List.getD_eq_getElem?_getD]
  rw [List.getElem?_append_left (by omega)]
theorem x_th2_hi {k i : Nat} (hl : th.length = np) (hi : np ≤ i) (hk : i < np + k) : (x_th2 th n k).getD i ([], 0) = q_v (n + (i - np)) := by
  simp only [x_th2, List.getD_eq_getElem?_getD]
  rw [List.getElem?_append_right (by omega), hl]
  have : i - np < k := by omega
  simp [this]
theorem x_th2_wl {k : Nat} (hw : ∀ e ∈ th, q_wl n e.1) : ∀ e ∈ x_th2 th n k, q_wl (n + k) e.1 := by
  intro e he
  rcases List.mem_append.mp he with g | g
  · exact (hw e g).mono (by omega)
  · obtain ⟨j, hj, rfl⟩ := List.mem_map.mp g
    have := List.mem_range.mp hj
    exact q_v_wl (by omega)
theorem x_getD_wl {L : List q_E} (hw : ∀ e ∈ L, q_wl m e.1) (i : Nat) : q_wl m (L.getD i ([], 0)).1 := by
  rw [List.getD_eq_getElem?_getD]
  cases hg : L[i]? with
  | none => exact q_wl_nil
  | some e => exact hw e (List.mem_of_getElem? hg)
theorem x_asq_ok {n : Nat} {F : q_F} {e : q_E} (wF : q_wF n F) (hF : q_FO r F) (we : q_wl n e.1) (he : 0 ≤ q_e r e) : ∃ F', x_asq F e = some F' ∧ q_wF n F' ∧ q_FO r F' := by
  simp only [x_asq]
  split
  · exact ⟨F, rfl, wF, hF⟩
  · exact x_asm_ok wF hF we he
theorem x_aI_ok {k : Nat} (hl : th.length = np) (hw : ∀ e ∈ th, q_wl n e.1) : ∀ (I : q_I) (F : q_F), (∀ t ∈ I, t.1 < np + k) → q_wF (n + k) F → q_FO r F → q_IO (q_rt r (x_th2 th n k)) I → ∃ G, x_aI np n (x_th2 th n k) I F = some G ∧ q_wF (n + k) G ∧ q_FO r G := by
  intro I
  induction I with
  | nil => intro F _ w hF _; exact ⟨F, rfl, w, hF⟩
  | cons t I ih =>
    intro F hI w hF hT
    simp only [x_aI]
    have ht := hT t List.mem_cons_self
    have hlt := hI t List.mem_cons_self
    have wt := x_getD_wl (x_th2_wl (k := k) hw) t.1
    have hI' : ∀ u ∈ I, u.1 < np + k := fun u hu => hI u (List.mem_cons_of_mem _ hu)
    have hT' : q_IO (q_rt r (x_th2 th n k)) I := fun u hu => hT u (List.mem_cons_of_mem _ hu)
    simp only [q_rt] at ht
    split
    · next g =>
      have g := Nat.le_of_ble_eq_true g
      rw [x_th2_hi hl g hlt, q_v_e] at ht
      refine ih _ hI' ⟨fun u hu => ?_, w.2.1, w.2.2⟩ ⟨fun u hu => ?_, hF.2.1, hF.2.2⟩ hT'
      · rcases List.mem_cons.mp hu with rfl | hu
        · show n + (t.1 - np) < n + k
          omega
        · exact w.1 u hu
      · rcases List.mem_cons.mp hu with rfl | hu
        · exact ht
        · exact hF.1 u hu
    · obtain ⟨G, e1, w1, f1⟩ := x_asq_ok (e := q_pl ((x_th2 th n k).getD t.1 ([], 0)) (-t.2.1)) w hF (q_pl_wl wt) (by rw [q_pl_e]; omega)
      obtain ⟨G2, e2, w2, f2⟩ := x_asq_ok (e := q_sub (q_c t.2.2) ((x_th2 th n k).getD t.1 ([], 0))) w1 f1 (q_sub_wl q_c_wl wt) (by rw [q_sub_e, q_c_e]; omega)
      rw [e1]; simp only; rw [e2]
      exact ih G2 hI' w2 f2 hT'
theorem x_aX_ok (hw : ∀ e ∈ th, q_wl m e.1) : ∀ (X : List q_E) (F : q_F), q_wF m F → q_FO r F → (∀ e ∈ X, 0 ≤ q_e (q_rt r th) e) → ∃ G, x_aX th X F = some G ∧ q_wF m G ∧ q_FO r G := by
  intro X
  induction X with
  | nil => intro F w hF _; exact ⟨F, rfl, w, hF⟩
  | cons e X ih =>
    intro F w hF hX
    obtain ⟨G, e1, w1, f1⟩ := x_asq_ok (e := q_th th e) w hF (q_th_wl hw e) (by rw [q_th_e]; exact hX e List.mem_cons_self)
    simp only [x_aX]; rw [e1]
    exact ih G w1 f1 (fun u hu => hX u (List.mem_cons_of_mem _ hu))
theorem x_aZ_ok (hw : ∀ e ∈ th, q_wl m e.1) : ∀ (X : List q_E) (F : q_F), q_wF m F → q_FO r F → (∀ e ∈ X, ¬ q_e (q_rt r th) e = 0) → ∃ G, x_aZ th X F = some G ∧ q_wF m G ∧ q_FO r G := by
  intro X
  induction X with
  | nil => intro F w hF _; exact ⟨F, rfl, w, hF⟩
  | cons e X ih =>
    intro F w hF hX
    obtain ⟨G, e1, w1, f1⟩ := x_asn_ok (e := q_th th e) w hF (q_th_wl hw e) (by rw [q_th_e]; exact hX e List.mem_cons_self)
    simp only [x_aZ]; rw [e1]
    exact ih G w1 f1 (fun u hu => hX u (List.mem_cons_of_mem _ hu))
theorem x_dead_ok {F : q_F} (hF : q_FO r F) : x_dead F = false := by
  cases hd : x_dead F with
  | false => rfl
  | true =>
    obtain ⟨z, hz, hg⟩ := List.any_eq_true.mp hd
    split at hg
    · next a b e1 e2 =>
      rw [Bool.and_eq_true] at hg
      have h1 := x_mi_ok hF e1
      have h2 := x_mx_ok hF e2
      have h3 := q_z_iff.mp hg.1
      have h4 := q_z_iff.mp hg.2
      exact absurd (show q_e r z = 0 by omega) (hF.2.2 z hz)
    · cases hg
theorem x_aF_ok {k : Nat} {T F : q_F} (hl : th.length = np) (hw : ∀ e ∈ th, q_wl n e.1) (hT1 : ∀ t ∈ T.1, t.1 < np + k) (w : q_wF (n + k) F) (hF : q_FO r F) (hT : q_FO (q_rt r (x_th2 th n k)) T) : ∃ G, x_aF np n (x_th2 th n k) T F = some G ∧ q_wF (n + k) G ∧ q_FO r G := by
  obtain ⟨G1, e1, w1, f1⟩ := x_aI_ok (r := r) hl hw T.1 F hT1 w hF hT.1
  obtain ⟨G2, e2, w2, f2⟩ := x_aX_ok (x_th2_wl (k := k) hw) T.2.1 _ w1 f1 hT.2.1
  obtain ⟨G3, e3, w3, f3⟩ := x_aZ_ok (x_th2_wl (k := k) hw) T.2.2 _ w2 f2 hT.2.2
  refine ⟨(q_cp G3.1 [], G3.2.1, G3.2.2), ?_, ⟨fun t ht => w3.1 t (q_cp_mem ht), w3.2.1, w3.2.2⟩, ⟨fun t ht => f3.1 t (q_cp_mem ht), f3.2.1, f3.2.2⟩⟩
  simp only [x_aF]
  rw [e1]; simp only; rw [e2]; simp only; rw [e3]; simp only
  rw [x_dead_ok f3]; rfl
end XAF

/-! The facts of an outcome, put over into the caller's unknowns: np unknowns are the contract's start's (forms th), further ones are new (from n on) -/
def x_th2 (th : List q_E) (n k : Nat) : List q_E := th ++ (List.range k).map (fun j => q_v (n + j))
def x_aI (np n : Nat) (th : List q_E) : q_I → q_F → q_F
  | [], F => F
  | t :: I, F => x_aI np n th I (if Nat.ble np t.1 then ((n + (t.1 - np), t.2.1, t.2.2) :: F.1, F.2.1, F.2.2) else q_asm (q_asm F (q_pl (th.getD t.1 ([], 0)) (-t.2.1))) (q_sub (q_c t.2.2) (th.getD t.1 ([], 0))))
def x_aX (th : List q_E) : List q_E → q_F → q_F
  | [], F => F
  | e :: X, F => x_aX th X (q_asm F (q_th th e))
def x_aZ (th : List q_E) : List q_E → q_F → q_F
  | [], F => F
  | e :: X, F => x_aZ th X (q_asn F (q_th th e))
def x_aF (np n : Nat) (th : List q_E) (T F : q_F) : q_F := x_aZ th T.2.2 (x_aX th T.2.1 (x_aI np n th T.1 F))
section XAF
variable {r : Nat → Int} {n np nq m : Nat} {th : List q_E}
theorem x_th2_lo {k i : Nat} (hl : th.length = np) (hi : i < np) : (x_th2 th n k).getD i ([], 0) = th.getD i ([], 0) := by
  simp only [x_th2, List.getD_eq_getElem?_getD]
  rw [List.getElem?_append_left (by omega)]
theorem x_th2_hi {k i : Nat} (hl : th.length = np) (hi : np ≤ i) (hk : i < np + k) : (x_th2 th n k).getD i ([], 0) = q_v (n + (i - np)) := by
  simp only [x_th2, List.getD_eq_getElem?_getD]
  rw [List.getElem?_append_right (by omega), hl]
  have : i - np < k := by omega
  simp [this]
theorem x_th2_wl {k : Nat} (hw : ∀ e ∈ th, q_wl n e.1) : ∀ e ∈ x_th2 th n k, q_wl (n + k) e.1 := by
  intro e he
  rcases List.mem_append.mp he with g | g
  · exact (hw e g).mono (by omega)
  · obtain ⟨j, hj, rfl⟩ := List.mem_map.mp g
    have := List.mem_range.mp hj
    exact q_v_wl (by omega)
theorem x_getD_wl {L : List q_E} (hw : ∀ e ∈ L, q_wl m e.1) (i : Nat) : q_wl m (L.getD i ([], 0)).1 := by
  rw [List.getD_eq_getElem?_getD]
  cases hg : L[i]? with
  | none => exact q_wl_nil
  | some e => exact hw e (List.mem_of_getElem? hg)
theorem x_aI_ok {k : Nat} (hl : th.length = np) (hw : ∀ e ∈ th, q_wl n e.1) : ∀ (I : q_I) (F : q_F), (∀ t ∈ I, t.1 < np + k) → q_wF (n + k) F → q_FO r F → q_IO (q_rt r (x_th2 th n k)) I → q_wF (n + k) (x_aI np n (x_th2 th n k) I F) ∧ q_FO r (x_aI np n (x_th2 th n k) I F) := by
  intro I
  induction I with
  | nil => intro F _ w hF _; exact ⟨w, hF⟩
  | cons t I ih =>
    intro F hI w hF hT
    simp only [x_aI]
    have ht := hT t List.mem_cons_self
    have hlt := hI t List.mem_cons_self
    have wt := x_getD_wl (x_th2_wl (k := k) hw) t.1
    refine ih _ (fun u hu => hI u (List.mem_cons_of_mem _ hu)) ?_ ?_ (fun u hu => hT u (List.mem_cons_of_mem _ hu))
    · split
      · next g =>
        have g := Nat.le_of_ble_eq_true g
        refine ⟨fun u hu => ?_, w.2.1, w.2.2⟩
        rcases List.mem_cons.mp hu with rfl | hu
        · show n + (t.1 - np) < n + k
          omega
        · exact w.1 u hu
      · exact q_asm_wF (q_asm_wF w (q_pl_wl wt)) (q_sub_wl q_c_wl wt)
    · simp only [q_rt] at ht
      split
      · next g =>
        have g := Nat.le_of_ble_eq_true g
        rw [x_th2_hi hl g hlt, q_v_e] at ht
        refine ⟨fun u hu => ?_, hF.2.1, hF.2.2⟩
        rcases List.mem_cons.mp hu with rfl | hu
        · exact ht
        · exact hF.1 u hu
      · exact q_asm_spec (q_asm_spec hF (by rw [q_pl_e]; omega)) (by rw [q_sub_e, q_c_e]; omega)
theorem x_aX_ok (hw : ∀ e ∈ th, q_wl m e.1) : ∀ (X : List q_E) (F : q_F), q_wF m F → q_FO r F → (∀ e ∈ X, 0 ≤ q_e (q_rt r th) e) → q_wF m (x_aX th X F) ∧ q_FO r (x_aX th X F) := by
  intro X
  induction X with
  | nil => intro F w hF _; exact ⟨w, hF⟩
  | cons e X ih =>
    intro F w hF hX
    exact ih _ (q_asm_wF w (q_th_wl hw e)) (q_asm_spec hF (by rw [q_th_e]; exact hX e List.mem_cons_self)) (fun u hu => hX u (List.mem_cons_of_mem _ hu))
theorem x_aZ_ok (hw : ∀ e ∈ th, q_wl m e.1) : ∀ (X : List q_E) (F : q_F), q_wF m F → q_FO r F → (∀ e ∈ X, ¬ q_e (q_rt r th) e = 0) → q_wF m (x_aZ th X F) ∧ q_FO r (x_aZ th X F) := by
  intro X
  induction X with
  | nil => intro F w hF _; exact ⟨w, hF⟩
  | cons e X ih =>
    intro F w hF hX
    exact ih _ (q_asn_wF w (q_th_wl hw e)) (q_asn_spec hF (by rw [q_th_e]; exact hX e List.mem_cons_self)) (fun u hu => hX u (List.mem_cons_of_mem _ hu))
theorem x_aF_ok {k : Nat} {T F : q_F} (hl : th.length = np) (hw : ∀ e ∈ th, q_wl n e.1) (hT1 : ∀ t ∈ T.1, t.1 < np + k) (w : q_wF (n + k) F) (hF : q_FO r F) (hT : q_FO (q_rt r (x_th2 th n k)) T) : q_wF (n + k) (x_aF np n (x_th2 th n k) T F) ∧ q_FO r (x_aF np n (x_th2 th n k) T F) := by
  obtain ⟨w1, f1⟩ := x_aI_ok (r := r) hl hw T.1 F hT1 w hF hT.1
  obtain ⟨w2, f2⟩ := x_aX_ok (x_th2_wl (k := k) hw) T.2.1 _ w1 f1 hT.2.1
  exact x_aZ_ok (x_th2_wl (k := k) hw) T.2.2 _ w2 f2 hT.2.2
end XAF

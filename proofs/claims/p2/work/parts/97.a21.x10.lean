noncomputable def l_K : d_S → Option (Int × d_S) := fun s_u9 => d_b (F_X12_openNow s_u9) (fun v10 => if v10 < 0 then d_b (F_X12_settle s_u9 1) (fun s11 => some (0, s11)) else some (1, s_u9))
def l_go (s0 : d_S) (b : Nat → Nat) (n so t0 : Nat) (Q : Option (Int × d_S) → Prop) (f0 : Nat) (T : Nat → Int) (p : Nat) (σ κ : List Nat) (wh : Bool) (X : List (Nat × Nat) → Prop) : Prop := ∀ (E : List (Nat × Nat)) (w N : Nat) (s : d_S), X E → w + σ.length ≤ p + 3 → l_S s0 b n p σ κ w so wh (s_opn σ) t0 (f0, E, T) s → n - p < N → Q (F_X12_summed_l20 l_K N s)
def l_X (Z : (Nat → Int) → List Int) (E : List (Nat × Nat)) : Prop := ∀ ν, t_bn ν → r_evo ν E [] = some (Z ν)
def l_Xp (l : Nat) (π : List Nat) (Z : (Nat → Int) → List Int) (E : List (Nat × Nat)) : Prop := ∀ ν, t_bn ν → r_evo ν (E ++ s_op l π) [] = some (Z ν)
def t_mn : List Nat → Int → Int
  | [], v => v
  | x :: σ, v => if x = 3 then t_mn σ (-v) else v
def l_fl (s0 : d_S) (b : Nat → Nat) (n so t0 : Nat) (Q : Option (Int × d_S) → Prop) (f0 : Nat) (T : Nat → Int) (r : Nat × Nat) : Prop := ∀ s : d_S, (∃ (σ κ : List Nat) (w : Nat) (wh : Bool) (d : Nat) (E : List (Nat × Nat)), l_S s0 b n r.2 σ κ w so wh d t0 (f0, E, T) s) → Q (some ((r.1 : Int), s))
def l_md (b : Nat → Nat) (n p : Nat) : Prop := t_is b n p 42 = false ∧ t_is b n p 47 = false
def l_pm (b : Nat → Nat) (n p : Nat) : Prop := t_is b n p 43 = false ∧ t_is b n p 45 = false
def l_up (l c : Nat) (π σ : List Nat) : Prop := s_se l π = σ ∧ s_opn π = s_opn σ ∧ π.length ≤ σ.length + c
section X10
variable {s0 s s1 s' : d_S} {b : Nat → Nat} {n p q w so d t0 N : Nat} {σ κ : List Nat} {wh : Bool} {z : l_zT} {x : Int} {K : d_S → Option (Int × d_S)}
theorem l_go_mono {Q : Option (Int × d_S) → Prop} {f0 : Nat} {T : Nat → Int} {X X' : List (Nat × Nat) → Prop} (hX : ∀ E, X' E → X E) (g : l_go s0 b n so t0 Q f0 T p σ κ wh X) : l_go s0 b n so t0 Q f0 T p σ κ wh X' := fun E w N s hE => g E w N s (hX E hE)
theorem t_mn_ne {x : Nat} {σ : List Nat} {v : Int} (h : x ≠ 3) : t_mn (x :: σ) v = v := by simp only [t_mn]; rw [if_neg h]
theorem t_mn_3 {σ : List Nat} {v : Int} : t_mn (3 :: σ) v = t_mn σ (-v) := by simp only [t_mn]; rw [if_pos trivial]
theorem s_op_nil {l : Nat} : ∀ {σ : List Nat}, s_se l σ = σ → s_op l σ = [] := by
  intro σ e
  have h := s_op_len l σ
  rw [e, Nat.sub_self] at h
  exact List.length_eq_zero_iff.mp h
theorem t_mn_id {l : Nat} {v : Int} (hl : l ≤ 3) : ∀ {σ : List Nat}, s_se l σ = σ → t_mn σ v = v := by
  intro σ e
  cases σ with
  | nil => rfl
  | cons x σ =>
    refine t_mn_ne (fun q => ?_)
    subst q
    have hs := s_se_len l σ
    have e2 : s_se l (3 :: σ) = s_se l σ := by simp only [s_se]; rw [if_pos (by show l ≤ 3; exact hl)]
    rw [e2] at e
    rw [e, List.length_cons] at hs
    omega
theorem s_op_se {l l2 : Nat} (hl : l ≤ l2) : ∀ σ : List Nat, s_op l σ = s_op l2 σ ++ s_op l (s_se l2 σ) := by
  intro σ
  induction σ with
  | nil => rfl
  | cons x σ ih =>
    by_cases q : l2 ≤ s_rk x
    · have e1 : s_op l (x :: σ) = (x, 0) :: s_op l σ := by simp only [s_op]; rw [if_pos (by omega)]
      have e2 : s_op l2 (x :: σ) = (x, 0) :: s_op l2 σ := by simp only [s_op]; rw [if_pos q]
      have e3 : s_se l2 (x :: σ) = s_se l2 σ := by simp only [s_se]; rw [if_pos q]
      rw [e1, e2, e3, ih]; rfl
    · have e2 : s_op l2 (x :: σ) = [] := by simp only [s_op]; rw [if_neg q]
      have e3 : s_se l2 (x :: σ) = x :: σ := by simp only [s_se]; rw [if_neg q]
      rw [e2, e3]; rfl
theorem r_evo_mn {ν : Nat → Int} {s : List Int} : ∀ {σ : List Nat} {E : List (Nat × Nat)} {v : Int}, r_evo ν E [] = some (v :: s) → r_evo ν (E ++ s_op 3 σ) [] = some (t_mn σ v :: s) := by
  intro σ
  induction σ with
  | nil => intro E v h; rw [show s_op 3 [] = [] from rfl, List.append_nil]; exact h
  | cons x σ ih =>
    intro E v h
    by_cases q : x = 3
    · subst q
      have e1 : s_op 3 (3 :: σ) = [(3, 0)] ++ s_op 3 σ := rfl
      rw [e1, ← List.append_assoc, t_mn_3]
      exact ih (r_evo_one h (by simp [r_sto]))
    · have e1 : s_op 3 (x :: σ) = [] := by
        simp only [s_op]
        rw [if_neg]
        unfold s_rk
        split
        · omega
        · split <;> omega
      rw [e1, List.append_nil, t_mn_ne q]; exact h
theorem r_sto_e1 {S : Bool} {ν : Nat → Int} {s : List Int} (hF : t_F b n S d p = 0) (ho : t_op b n p = false) : r_sto ν s (t_e1 b n p) = some ((if t_k b n p = 2 then (t_n b n p : Int) else ν (t_nu b n p)) :: s) := by
  by_cases q : t_k b n p = 2
  · rw [if_pos q, show t_e1 b n p = (0, t_n b n p) from if_pos q]
    simp [r_sto]
  · have hnm := t_nr_nm hF ho q
    rw [if_neg q, show t_e1 b n p = (1, t_nr b n p) from if_neg q]
    have h8 : t_nr b n p < 8 := t_nr_8 hnm
    simp [r_sto, h8, t_nr_nu hnm]
theorem l_up_tp {l c : Nat} {π : List Nat} (hu : l_up l c π σ) (ht : l_tp σ) (hl : 1 ≤ l) : l_tp π := by
  rintro ρ rfl
  refine ht ρ ?_
  rw [← hu.1]
  simp only [s_se]
  rw [if_neg (fun e => absurd (Nat.le_trans hl e) (by decide))]
theorem l_y_8 (h1 : l_md b n p) (h2 : l_pm b n p) : l_y b n p = 8 := by
  unfold l_y
  rw [h2.1, h2.2, h1.1, h1.2]
  rfl
theorem l_y4 (h : t_is b n p 43 = true) : l_y b n p = 4 := by unfold l_y; rw [if_pos h]
theorem l_y5 (h : t_is b n p 45 = true) : l_y b n p = 5 := by unfold l_y; rw [t_is_one h (by decide), if_neg (by decide), if_pos h]
theorem l_y6 (h : t_is b n p 42 = true) : l_y b n p = 6 := by unfold l_y; rw [t_is_one (e := 43) h (by decide), t_is_one (e := 45) h (by decide), if_neg (by decide), if_neg (by decide), if_pos h]
theorem l_y7 (h : t_is b n p 47 = true) : l_y b n p = 7 := by unfold l_y; rw [t_is_one (e := 43) h (by decide), t_is_one (e := 45) h (by decide), t_is_one (e := 42) h (by decide), if_neg (by decide), if_neg (by decide), if_neg (by decide), if_pos h]
theorem l_h0b (hS : l_S s0 b n p σ κ w so false d t0 z s) (h : F_X12_beginOne s = some (0, s1)) : F_X12_summed_l20 K (N + 1) s = F_X12_summed_l20 K N s1 := by
  show F_X12_summed_l20_b K (F_X12_summed_l20 K N) s = _
  unfold F_X12_summed_l20_b F_X12_summed_j38
  rw [hS.2.1.2.2.2.2.2.2, if_pos (by decide), h, d_b2_t, if_neg (by decide), if_pos rfl]
theorem l_hfb {e : Nat} (hS : l_S s0 b n p σ κ w so false d t0 z s) (he : e ≠ 0) (h : F_X12_beginOne s = some ((e : Int), s1)) : F_X12_summed_l20 K (N + 1) s = some ((e : Int), s1) := by
  show F_X12_summed_l20_b K (F_X12_summed_l20 K N) s = _
  unfold F_X12_summed_l20_b F_X12_summed_j38
  rw [hS.2.1.2.2.2.2.2.2, if_pos (by decide), h, d_b2_t, if_pos (by omega)]
theorem l_h0t (hS : l_S s0 b n p σ κ w so true d t0 z s) (h : F_X12_behindOne s = some (0, s1)) : F_X12_summed_l20 K (N + 1) s = F_X12_summed_l20 K N s1 := by
  show F_X12_summed_l20_b K (F_X12_summed_l20 K N) s = _
  unfold F_X12_summed_l20_b F_X12_summed_j38
  rw [hS.2.1.2.2.2.2.2.2, if_pos rfl, if_neg (by decide), h, d_b2_t, if_neg (by decide), if_pos rfl]
theorem l_hft {e : Nat} (hS : l_S s0 b n p σ κ w so true d t0 z s) (he : e ≠ 0) (h : F_X12_behindOne s = some ((e : Int), s1)) : F_X12_summed_l20 K (N + 1) s = some ((e : Int), s1) := by
  show F_X12_summed_l20_b K (F_X12_summed_l20 K N) s = _
  unfold F_X12_summed_l20_b F_X12_summed_j38
  rw [hS.2.1.2.2.2.2.2.2, if_pos rfl, if_neg (by decide), h, d_b2_t, if_pos (by omega)]
theorem l_h1t (hS : l_S s0 b n p σ κ w so true d t0 z s) (h : F_X12_behindOne s = some (-1, s1)) : F_X12_summed_l20 K (N + 1) s = K s1 := by
  show F_X12_summed_l20_b K (F_X12_summed_l20 K N) s = _
  unfold F_X12_summed_l20_b F_X12_summed_j38
  rw [hS.2.1.2.2.2.2.2.2, if_pos rfl, if_neg (by decide), h, d_b2_t, if_neg (by decide), if_neg (by decide)]
theorem l_e1 {x : Nat} {ρ : List Nat} (hS : l_S s0 b n p σ κ w so wh d t0 z s) (hs : σ.length ≤ 160) (hse : s_se 1 σ = x :: ρ) (hx : 40 ≤ x) : l_K s = some (((1 : Nat) : Int), s) := by
  unfold l_K
  rw [P_openNow hS.2.1.2.2.2.1 hS.2.2.1 hs, d_b_t, l_on_se (by decide) hse hx, if_neg (by omega)]; rfl
theorem l_e0 (hS : l_S s0 b n p σ κ w so wh d t0 z s) (ht : t0 ≤ 2331) (hs : σ.length ≤ 160) (hs1 : w + σ.length ≤ 304) (hdo : d = s_opn σ) (hse : s_se 1 σ = []) : ∃ s', l_K s = some (((0 : Nat) : Int), s') ∧ l_S s0 b n p [] κ (w + σ.length) so wh 0 t0 (l_zE z (s_op 1 σ)) s' := by
  obtain ⟨s', c1, c2⟩ := P_settle (l := 1) (by decide) ht hs hs1 hdo hS
  rw [hse] at c2
  have c1' : F_X12_settle s 1 = some s' := c1
  refine ⟨s', ?_, c2⟩
  unfold l_K
  rw [P_openNow hS.2.1.2.2.2.1 hS.2.2.1 hs, d_b_t, l_on_nil hse, if_pos (by decide), c1', d_b_t]; rfl
end X10
def l_A0 (s0 : d_S) (b : Nat → Nat) (n so t0 : Nat) (Q : Option (Int × d_S) → Prop) (f0 : Nat) (T : Nat → Int) (f : Nat) : Prop := ∀ (σ κ : List Nat) (k p : Nat) (r : Nat × Nat) (Z : (Nat → Int) → List Int), t_P b n (Nat.beq so 1) f 0 (s_opn σ) k p = r → 4 * (n - p) + 1 ≤ f → p ≤ n → σ.length ≤ 3 * s_opn σ + 2 → s_opn σ ≤ 8 → κ.length = s_nt σ → k ≠ 7 → (r.1 = 0 → p < r.2 → r.2 ≤ n → l_go s0 b n so t0 Q f0 T r.2 (s_se 3 σ) κ true (l_X (fun ν => t_mn σ (t_V b n (Nat.beq so 1) ν f 0 (s_opn σ) k p (0)) :: Z ν))) → (r.1 ≠ 0 → l_fl s0 b n so t0 Q f0 T r) → l_go s0 b n so t0 Q f0 T p σ κ false (l_X Z)
def l_A1 (s0 : d_S) (b : Nat → Nat) (n so t0 : Nat) (Q : Option (Int × d_S) → Prop) (f0 : Nat) (T : Nat → Int) (f : Nat) : Prop := ∀ (σ κ : List Nat) (k p : Nat) (r : Nat × Nat) (Z : (Nat → Int) → List Int), t_P b n (Nat.beq so 1) f 1 (s_opn σ) k p = r → 4 * (n - p) + 2 ≤ f → p ≤ n → s_se 2 σ = σ → l_tp σ → σ.length ≤ 3 * s_opn σ + 1 → s_opn σ ≤ 8 → κ.length = s_nt σ → k ≠ 7 → (r.1 = 0 → p < r.2 → r.2 ≤ n → l_md b n r.2 → ∀ π, l_up 2 1 π σ → l_go s0 b n so t0 Q f0 T r.2 π κ true (l_Xp 2 π (fun ν => t_V b n (Nat.beq so 1) ν f 1 (s_opn σ) k p (0) :: Z ν))) → (r.1 ≠ 0 → l_fl s0 b n so t0 Q f0 T r) → l_go s0 b n so t0 Q f0 T p σ κ false (l_X Z)
def l_A4 (s0 : d_S) (b : Nat → Nat) (n so t0 : Nat) (Q : Option (Int × d_S) → Prop) (f0 : Nat) (T : Nat → Int) (f : Nat) : Prop := ∀ (σ τ κ : List Nat) (p : Nat) (r : Nat × Nat) (Z : (Nat → Int) → List Int) (a : (Nat → Int) → Int), t_P b n (Nat.beq so 1) f 4 (s_opn σ) 0 p = r → 4 * (n - p) + 1 ≤ f → p ≤ n → s_se 2 σ = σ → l_tp σ → l_up 2 1 τ σ → σ.length ≤ 3 * s_opn σ + 1 → s_opn σ ≤ 8 → κ.length = s_nt σ → (r.1 = 0 → p ≤ r.2 → r.2 ≤ n → l_md b n r.2 → ∀ π, l_up 2 1 π σ → l_go s0 b n so t0 Q f0 T r.2 π κ true (l_Xp 2 π (fun ν => t_V b n (Nat.beq so 1) ν f 4 (s_opn σ) 0 p (a ν) :: Z ν))) → (r.1 ≠ 0 → l_fl s0 b n so t0 Q f0 T r) → l_go s0 b n so t0 Q f0 T p τ κ true (l_Xp 2 τ (fun ν => a ν :: Z ν))
def l_A2 (s0 : d_S) (b : Nat → Nat) (n so t0 : Nat) (Q : Option (Int × d_S) → Prop) (f0 : Nat) (T : Nat → Int) (f : Nat) : Prop := ∀ (σ κ : List Nat) (k p : Nat) (r : Nat × Nat) (Z : (Nat → Int) → List Int), t_P b n (Nat.beq so 1) f 2 (s_opn σ) k p = r → 4 * (n - p) + 3 ≤ f → p ≤ n → s_se 1 σ = σ → l_tp σ → σ.length ≤ 3 * s_opn σ → s_opn σ ≤ 8 → κ.length = s_nt σ → k ≠ 7 → (r.1 = 0 → p < r.2 → r.2 ≤ n → l_md b n r.2 → l_pm b n r.2 → ∀ π, l_up 1 2 π σ → l_go s0 b n so t0 Q f0 T r.2 π κ true (l_Xp 1 π (fun ν => t_V b n (Nat.beq so 1) ν f 2 (s_opn σ) k p (0) :: Z ν))) → (r.1 ≠ 0 → l_fl s0 b n so t0 Q f0 T r) → l_go s0 b n so t0 Q f0 T p σ κ false (l_X Z)
def l_A5 (s0 : d_S) (b : Nat → Nat) (n so t0 : Nat) (Q : Option (Int × d_S) → Prop) (f0 : Nat) (T : Nat → Int) (f : Nat) : Prop := ∀ (σ τ κ : List Nat) (p : Nat) (r : Nat × Nat) (Z : (Nat → Int) → List Int) (a : (Nat → Int) → Int), t_P b n (Nat.beq so 1) f 5 (s_opn σ) 0 p = r → 4 * (n - p) + 1 ≤ f → p ≤ n → l_md b n p → s_se 1 σ = σ → l_tp σ → l_up 1 2 τ σ → σ.length ≤ 3 * s_opn σ → s_opn σ ≤ 8 → κ.length = s_nt σ → (r.1 = 0 → p ≤ r.2 → r.2 ≤ n → l_md b n r.2 → l_pm b n r.2 → ∀ π, l_up 1 2 π σ → l_go s0 b n so t0 Q f0 T r.2 π κ true (l_Xp 1 π (fun ν => t_V b n (Nat.beq so 1) ν f 5 (s_opn σ) 0 p (a ν) :: Z ν))) → (r.1 ≠ 0 → l_fl s0 b n so t0 Q f0 T r) → l_go s0 b n so t0 Q f0 T p τ κ true (l_Xp 1 τ (fun ν => a ν :: Z ν))
def l_A6 (s0 : d_S) (b : Nat → Nat) (n so t0 : Nat) (Q : Option (Int × d_S) → Prop) (f0 : Nat) (T : Nat → Int) (f : Nat) : Prop := ∀ (ρ κ : List Nat) (k p : Nat) (r : Nat × Nat) (Z : (Nat → Int) → List Int) (c : (Nat → Int) → Int) (vs : (Nat → Int) → List Int), (∀ ν, (vs ν).length + 1 = k) → t_P b n (Nat.beq so 1) f 6 (s_opn (42 :: ρ)) k p = r → 4 * (n - p) + 4 ≤ f → p ≤ n → ρ.length + 1 ≤ 3 * (s_opn ρ + 1) → s_opn ρ + 1 ≤ 8 → κ.length = s_nt ρ → k < 7 → (r.1 = 0 → p < r.2 → r.2 ≤ n → l_go s0 b n so t0 Q f0 T r.2 (s_se 3 ρ) κ true (l_X (fun ν => t_mn ρ (t_sl (c ν) (vs ν) (t_V b n (Nat.beq so 1) ν f 6 (s_opn (42 :: ρ)) k p (c ν - ((vs ν).length : Int)))) :: Z ν))) → (r.1 ≠ 0 → l_fl s0 b n so t0 Q f0 T r) → l_go s0 b n so t0 Q f0 T p (42 :: ρ) (k :: κ) false (l_X (fun ν => (vs ν).reverse ++ c ν :: Z ν))
def l_A (s0 : d_S) (b : Nat → Nat) (n so t0 : Nat) (Q : Option (Int × d_S) → Prop) (f0 : Nat) (T : Nat → Int) (f : Nat) : Prop := l_A0 s0 b n so t0 Q f0 T f ∧ l_A1 s0 b n so t0 Q f0 T f ∧ l_A4 s0 b n so t0 Q f0 T f ∧ l_A2 s0 b n so t0 Q f0 T f ∧ l_A5 s0 b n so t0 Q f0 T f ∧ l_A6 s0 b n so t0 Q f0 T f

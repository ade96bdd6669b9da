/-! WHAT IS KNOWN, FORGOTTEN IN PART AND PUT IN OTHER UNKNOWNS -/
def s_slk : List (Nat × s_E) → Nat → Option s_E
  | [], _ => none
  | q :: r, k => if Nat.beq q.1 k then some q.2 else s_slk r k
def s_sub (σ : List (Nat × s_E)) : s_E → s_E
  | .leaf z => .leaf z
  | .branch 0 l r => (s_slk σ (s_key l)).getD (.branch 0 l r)
  | .branch (op + 1) l r => .branch (op + 1) (s_sub σ l) (s_sub σ r)
def s_th (θ : Nat → Int32) (σ : List (Nat × s_E)) : Nat → Int32 := fun k => match s_slk σ k with
  | some e => s_ev θ e
  | none => θ k
noncomputable def s_vle2 (σ : List (Nat × s_E)) (v : s_V) (t : Nat) (e : s_E) : Bool := s_if (Nat.beq t 0) true (s_if (Nat.beq t 1) (s_and (Nat.beq (s_t v) 1) (s_eqE (s_sub σ e) (s_x v))) (s_if (Nat.beq t 7) (s_isi (s_t v)) (s_and (Nat.beq (s_t v) t) (s_if (Nat.beq t 2) (s_eqE e (s_x v)) (s_if (Nat.ble 16 t) true (Nat.beq t 4))))))
noncomputable def s_vle1 (F : s_F) (v : s_V) (z : Int) : Bool := Sum.rec (motive := fun _ => Bool) (fun y => s_eqz y z) (fun q => s_and (Nat.beq q.1 1) (s_and (s_eqz (s_iv F q.2).1 z) (s_eqz (s_iv F q.2).2 z))) v
/-- the second says no more than the first -/
noncomputable def s_vle (σ : List (Nat × s_E)) (F : s_F) (v w : s_V) : Bool := Sum.rec (motive := fun _ => Bool) (s_vle1 F v) (fun q => s_vle2 σ v q.1 q.2) w
noncomputable def s_lvs (P : s_V → Bool) (t : Lean.RArray s_V) : Nat → Nat → Bool := Lean.RArray.rec (motive := fun _ => Nat → Nat → Bool) (fun v lo hi => s_if (Nat.ble hi lo) true (P v)) (fun p _ _ il ir lo hi => s_if (Nat.ble hi lo) true (s_and (il lo (min p hi)) (ir (max p lo) hi))) t
noncomputable def s_tle (σ : List (Nat × s_E)) (F : s_F) (t u : Lean.RArray s_V) : Nat → Nat → Bool := Lean.RArray.rec (motive := fun _ => Nat → Nat → Bool) (fun w lo hi => s_if (Nat.ble hi lo) true (s_if (Nat.beq (s_t w) 0) true (s_lvs (fun v => s_vle σ F v w) t lo hi))) (fun p _ _ il ir lo hi => s_if (Nat.ble hi lo) true (s_and (il lo (min p hi)) (ir (max p lo) hi))) u
noncomputable def s_unk (u : Lean.RArray s_V) (n : Nat) : Bool := Lean.RArray.rec (motive := fun _ => Bool) (fun w => Nat.beq (s_t w) 0) (fun p _ _ il ir => s_and (s_if (Nat.ble p n) true il) ir) u
noncomputable def s_cck (σ : List (Nat × s_E)) (F : s_F) (c e : s_A) : Bool := s_and (Nat.beq c.1 e.1) (s_and (Nat.beq c.2.1 e.2.1) (s_and (Nat.beq c.2.2.1 e.2.2.1) (s_and (s_tle σ F c.2.2.2 e.2.2.2 0 e.2.2.1) (s_unk e.2.2.2 e.2.2.1))))
noncomputable def s_cle (σ : List (Nat × s_E)) (F : s_F) (t u : Lean.RArray s_A) : Nat → Nat → Bool := Lean.RArray.rec (motive := fun _ => Nat → Nat → Bool) (fun e lo hi => s_if (Nat.ble hi lo) true (s_if (Nat.beq e.1 9) true (s_and (Nat.beq hi (Nat.succ lo)) (s_cck σ F (Lean.RArray.get t lo) e)))) (fun p _ _ il ir lo hi => s_if (Nat.ble hi lo) true (s_and (il lo (min p hi)) (ir (max p lo) hi))) u
noncomputable def s_unkc (u : Lean.RArray s_A) (n : Nat) : Bool := Lean.RArray.rec (motive := fun _ => Bool) (fun e => Nat.beq e.1 9) (fun p _ _ il ir => s_and (s_if (Nat.ble p n) true il) ir) u
noncomputable def s_hle (σ : List (Nat × s_E)) (F : s_F) (H I : s_H) : Bool := s_and (Nat.beq H.2.1 I.2.1) (s_and (Nat.beq H.2.2 I.2.2) (s_and (s_cle σ F H.1 I.1 0 I.2.1) (s_unkc I.1 I.2.1)))
noncomputable def s_lle (σ : List (Nat × s_E)) (F : s_F) : s_L → s_L → Bool
  | _, [] => true
  | [], w :: r => s_and (Nat.beq (s_t w) 0) (s_lle σ F [] r)
  | v :: l, w :: r => s_and (s_vle σ F v w) (s_lle σ F l r)
noncomputable def s_sle (σ : List (Nat × s_E)) (F : s_F) : s_L → s_L → Bool
  | [], [] => true
  | v :: l, w :: r => s_and (Nat.ble 1 (s_t w)) (s_and (s_vle σ F v w) (s_sle σ F l r))
  | _, _ => false
noncomputable def s_fle (σ : List (Nat × s_E)) (F G : s_F) : Bool := List.rec (motive := fun _ => Bool) true (fun f _ ih => s_and (s_lez f.2.1 (s_iv F (s_sub σ f.1)).1) (s_and (s_lez (s_iv F (s_sub σ f.1)).2 f.2.2) ih)) G
noncomputable def s_mat (σ : List (Nat × s_E)) (F : s_F) (H : s_H) (L S : s_L) (G : s_F) (I : s_H) (L' S' : s_L) : Bool := s_and (s_fle σ F G) (s_and (s_hle σ F H I) (s_and (s_lle σ F L L') (s_sle σ F S S')))
section SM
variable {θ : Nat → Int32} {σ : List (Nat × s_E)} {F G : s_F}
theorem s_sub_ok {e : s_E} : s_ev θ (s_sub σ e) = s_ev (s_th θ σ) e := by
  induction e with
  | leaf z => rfl
  | branch op l r il ir =>
    cases op with
    | zero =>
      show s_ev θ ((s_slk σ (s_key l)).getD (.branch 0 l r)) = s_th θ σ (s_key l)
      unfold s_th
      cases s_slk σ (s_key l) with
      | none => rfl
      | some e => rfl
    | succ n =>
      show s_ov (n + 1) (s_ev θ (s_sub σ l)) (s_ev θ (s_sub σ r)) = s_ov (n + 1) (s_ev (s_th θ σ) l) (s_ev (s_th θ σ) r)
      rw [il, ir]
theorem s_vle_nz {v w : s_V} (hg : s_vle σ F v w = true) (hw : s_t w ≠ 0) : s_t v ≠ 0 := by
  cases w with
  | inl z =>
    cases v with
    | inl y => show (1 : Nat) ≠ 0; decide
    | inr q =>
      have hg : s_and (Nat.beq q.1 1) (s_and (s_eqz (s_iv F q.2).1 z) (s_eqz (s_iv F q.2).2 z)) = true := hg
      rw [s_and_iff] at hg
      have := Nat.eq_of_beq_eq_true hg.1
      show q.1 ≠ 0
      omega
  | inr q =>
    obtain ⟨t, e⟩ := q
    have hw : t ≠ 0 := hw
    have hg : s_vle2 σ v t e = true := hg
    unfold s_vle2 at hg
    rw [s_if_iff] at hg
    rcases hg with ⟨h0, -⟩ | ⟨-, hg⟩
    · exact absurd (Nat.eq_of_beq_eq_true h0) hw
    rw [s_if_iff] at hg
    rcases hg with ⟨-, hg⟩ | ⟨-, hg⟩
    · rw [s_and_iff] at hg
      have := Nat.eq_of_beq_eq_true hg.1
      omega
    rw [s_if_iff] at hg
    rcases hg with ⟨-, hg⟩ | ⟨-, hg⟩
    · unfold s_isi at hg
      rw [s_if_iff] at hg
      rcases hg with ⟨h, -⟩ | ⟨-, h⟩ <;> have := Nat.eq_of_beq_eq_true h <;> omega
    · rw [s_and_iff] at hg
      have := Nat.eq_of_beq_eq_true hg.1
      omega
theorem s_vle_ok {v w : s_V} {x : Value} (hF : s_FO θ F) (hv : s_v θ v x) (hg : s_vle σ F v w = true) : s_v (s_th θ σ) w x := by
  cases w with
  | inl z =>
    cases v with
    | inl y =>
      have hg : s_eqz y z = true := hg
      rw [s_eqz_iff.mp hg] at hv
      exact hv
    | inr q =>
      have hg : s_and (Nat.beq q.1 1) (s_and (s_eqz (s_iv F q.2).1 z) (s_eqz (s_iv F q.2).2 z)) = true := hg
      rw [s_and_iff, s_and_iff] at hg
      have e1 := s_v_1 (a := .inr q) hg.1 hv
      have h2 := s_iv_ok (e := q.2) hF
      rw [s_eqz_iff.mp hg.2.1, s_eqz_iff.mp hg.2.2] at h2
      have e2 : (s_ev θ q.2).toInt = z := by omega
      refine ⟨by rw [← e2]; exact x_I32 _, ?_⟩
      rw [e1, ← e2, Int32.ofInt_toInt]; rfl
  | inr q =>
    obtain ⟨t, e⟩ := q
    have hg : s_vle2 σ v t e = true := hg
    unfold s_vle2 at hg
    rw [s_if_iff] at hg
    rcases hg with ⟨h0, -⟩ | ⟨-, hg⟩
    · rw [Nat.eq_of_beq_eq_true h0]; trivial
    rw [s_if_iff] at hg
    rcases hg with ⟨h0, hg⟩ | ⟨-, hg⟩
    · rw [Nat.eq_of_beq_eq_true h0]
      rw [s_and_iff] at hg
      show x = .int (s_ev (s_th θ σ) e)
      rw [← s_sub_ok, s_eqE_ok hg.2]
      exact s_v_1 hg.1 hv
    rw [s_if_iff] at hg
    rcases hg with ⟨h0, hg⟩ | ⟨-, hg⟩
    · rw [Nat.eq_of_beq_eq_true h0]
      exact s_v_i hg hv
    rw [s_and_iff, s_if_iff] at hg
    obtain ⟨h1, hg⟩ := hg
    rcases hg with ⟨h0, hg⟩ | ⟨-, hg⟩
    · have e2 := Nat.eq_of_beq_eq_true h0
      have e1 := Nat.eq_of_beq_eq_true h1
      have e3 := s_eqE_ok hg
      cases v with
      | inl y => have e1 : (1 : Nat) = t := e1; omega
      | inr q =>
        obtain ⟨t1, e4⟩ := q
        have e1 : t1 = t := e1
        have e3 : e = e4 := e3
        subst e1 e2 e3
        exact hv
    rw [s_if_iff] at hg
    rcases hg with ⟨h0, -⟩ | ⟨-, hg⟩
    · have h16 := Nat.le_of_ble_eq_true h0
      have e1 := Nat.eq_of_beq_eq_true h1
      obtain ⟨k, rfl⟩ : ∃ k, t = k + 16 := ⟨t - 16, by omega⟩
      have := s_v_ref' (a := v) (by rw [e1]; exact h0) hv
      rw [e1] at this
      exact this
    · have e2 := Nat.eq_of_beq_eq_true hg
      subst e2
      exact s_v_null h1 hv
theorem s_lvs_ok {P : s_V → Bool} {t : Lean.RArray s_V} : ∀ {lo hi i : Nat}, s_lvs P t lo hi = true → lo ≤ i → i < hi → P (t.get i) = true := by
  induction t with
  | leaf v =>
    intro lo hi i h h1 h2
    have h : s_if (Nat.ble hi lo) true (P v) = true := h
    rw [s_if_iff] at h
    rcases h with ⟨h, -⟩ | ⟨-, h⟩
    · have := Nat.le_of_ble_eq_true h; omega
    · exact h
  | branch p l r il ir =>
    intro lo hi i h h1 h2
    have h : s_if (Nat.ble hi lo) true (s_and (s_lvs P l lo (min p hi)) (s_lvs P r (max p lo) hi)) = true := h
    rw [s_if_iff, s_and_iff] at h
    rcases h with ⟨h, -⟩ | ⟨-, h⟩
    · have := Nat.le_of_ble_eq_true h; omega
    · rw [s_gb]
      split
      · exact ir h.2 (by omega) h2
      · exact il h.1 h1 (by omega)
theorem s_tle_ok {t u : Lean.RArray s_V} : ∀ {lo hi i : Nat}, s_tle σ F t u lo hi = true → lo ≤ i → i < hi → s_t (u.get i) = 0 ∨ s_vle σ F (t.get i) (u.get i) = true := by
  induction u with
  | leaf w =>
    intro lo hi i h h1 h2
    have h : s_if (Nat.ble hi lo) true (s_if (Nat.beq (s_t w) 0) true (s_lvs (fun v => s_vle σ F v w) t lo hi)) = true := h
    rw [s_if_iff, s_if_iff] at h
    rcases h with ⟨h, -⟩ | ⟨-, ⟨h, -⟩ | ⟨-, h⟩⟩
    · have := Nat.le_of_ble_eq_true h; omega
    · exact Or.inl (Nat.eq_of_beq_eq_true h)
    · exact Or.inr (s_lvs_ok (P := fun v => s_vle σ F v w) (t := t) h h1 h2)
  | branch p l r il ir =>
    intro lo hi i h h1 h2
    have h : s_if (Nat.ble hi lo) true (s_and (s_tle σ F t l lo (min p hi)) (s_tle σ F t r (max p lo) hi)) = true := h
    rw [s_if_iff, s_and_iff] at h
    rcases h with ⟨h, -⟩ | ⟨-, h⟩
    · have := Nat.le_of_ble_eq_true h; omega
    · rw [s_gb]
      split
      · exact ir h.2 (by omega) h2
      · exact il h.1 h1 (by omega)
theorem s_unk_ok {u : Lean.RArray s_V} {n : Nat} : ∀ {i : Nat}, s_unk u n = true → n ≤ i → s_t (u.get i) = 0 := by
  induction u with
  | leaf w => intro i h _; exact Nat.eq_of_beq_eq_true h
  | branch p l r il ir =>
    intro i h h1
    have h : s_and (s_if (Nat.ble p n) true (s_unk l n)) (s_unk r n) = true := h
    rw [s_and_iff, s_if_iff] at h
    rw [s_gb]
    split
    · exact ir h.2 h1
    · rcases h.1 with ⟨h, -⟩ | ⟨-, h⟩
      · have := Nat.le_of_ble_eq_true h; omega
      · exact il h h1
theorem s_cck_ok {c e : s_A} {d : p_C} (hF : s_FO θ F) (hc : s_cr θ c d) (hg : s_cck σ F c e = true) : s_cr (s_th θ σ) e d := by
  unfold s_cck at hg
  rw [s_and_iff, s_and_iff, s_and_iff, s_and_iff] at hg
  obtain ⟨g1, g2, g3, g4, g5⟩ := hg
  obtain ⟨c1, c2, c3, c4⟩ := hc
  have e3 := Nat.eq_of_beq_eq_true g3
  refine ⟨by rw [c1, Nat.eq_of_beq_eq_true g1], by rw [c2, Nat.eq_of_beq_eq_true g2], by rw [c3, e3], fun i hi => ?_⟩
  by_cases hl : i < e.2.2.1
  · rcases s_tle_ok g4 (Nat.zero_le i) hl with h0 | h0
    · exact absurd h0 hi
    · obtain ⟨v, h1, h2⟩ := c4 i (s_vle_nz h0 hi)
      exact ⟨v, h1, s_vle_ok hF h2 h0⟩
  · exact absurd (s_unk_ok g5 (Nat.not_lt.mp hl)) hi
theorem s_cle_ok {t u : Lean.RArray s_A} : ∀ {lo hi i : Nat}, s_cle σ F t u lo hi = true → lo ≤ i → i < hi → (u.get i).1 = 9 ∨ s_cck σ F (t.get i) (u.get i) = true := by
  induction u with
  | leaf e =>
    intro lo hi i h h1 h2
    have h : s_if (Nat.ble hi lo) true (s_if (Nat.beq e.1 9) true (s_and (Nat.beq hi (Nat.succ lo)) (s_cck σ F (Lean.RArray.get t lo) e))) = true := h
    rw [s_if_iff, s_if_iff, s_and_iff] at h
    rcases h with ⟨h, -⟩ | ⟨-, ⟨h, -⟩ | ⟨-, h3, h⟩⟩
    · have := Nat.le_of_ble_eq_true h; omega
    · exact Or.inl (Nat.eq_of_beq_eq_true h)
    · have := Nat.eq_of_beq_eq_true h3
      have e : i = lo := by omega
      rw [e]; exact Or.inr h
  | branch p l r il ir =>
    intro lo hi i h h1 h2
    have h : s_if (Nat.ble hi lo) true (s_and (s_cle σ F t l lo (min p hi)) (s_cle σ F t r (max p lo) hi)) = true := h
    rw [s_if_iff, s_and_iff] at h
    rcases h with ⟨h, -⟩ | ⟨-, h⟩
    · have := Nat.le_of_ble_eq_true h; omega
    · rw [s_gb]
      split
      · exact ir h.2 (by omega) h2
      · exact il h.1 h1 (by omega)
theorem s_unkc_ok {u : Lean.RArray s_A} {n : Nat} : ∀ {i : Nat}, s_unkc u n = true → n ≤ i → (u.get i).1 = 9 := by
  induction u with
  | leaf w => intro i h _; exact Nat.eq_of_beq_eq_true h
  | branch p l r il ir =>
    intro i h h1
    have h : s_and (s_if (Nat.ble p n) true (s_unkc l n)) (s_unkc r n) = true := h
    rw [s_and_iff, s_if_iff] at h
    rw [s_gb]
    split
    · exact ir h.2 h1
    · rcases h.1 with ⟨h, -⟩ | ⟨-, h⟩
      · have := Nat.le_of_ble_eq_true h; omega
      · exact il h h1
theorem s_hle_ok {H I : s_H} {h : p_H} (hF : s_FO θ F) (hH : s_hr θ H h) (hg : s_hle σ F H I = true) : s_hr (s_th θ σ) I h := by
  unfold s_hle at hg
  rw [s_and_iff, s_and_iff, s_and_iff] at hg
  obtain ⟨g1, g2, g3, g4⟩ := hg
  obtain ⟨c1, c2, c3⟩ := hH
  refine ⟨by rw [c1, Nat.eq_of_beq_eq_true g1], by rw [c2, Nat.eq_of_beq_eq_true g2], fun a ha => ?_⟩
  by_cases hl : a < I.2.1
  · rcases s_cle_ok g3 (Nat.zero_le a) hl with h0 | h0
    · exact absurd h0 ha
    · have h1 : (H.1.get a).1 = (I.1.get a).1 := by
        unfold s_cck at h0
        rw [s_and_iff] at h0
        exact Nat.eq_of_beq_eq_true h0.1
      obtain ⟨d, h2, h3⟩ := c3 a (by rw [h1]; exact ha)
      exact ⟨d, h2, s_cck_ok hF h3 h0⟩
  · exact absurd (s_unkc_ok g4 (Nat.not_lt.mp hl)) ha
theorem s_lle_at : ∀ {L L' : s_L} {i : Nat} {w : s_V}, s_lle σ F L L' = true → L'[i]? = some w → s_t w ≠ 0 → ∃ v, L[i]? = some v ∧ s_vle σ F v w = true := by
  intro L L'
  induction L' generalizing L with
  | nil => intro i w _ h; simp at h
  | cons u r ih =>
    intro i w hg hw h0
    cases L with
    | nil =>
      have hg : s_and (Nat.beq (s_t u) 0) (s_lle σ F [] r) = true := by simpa only [s_lle] using hg
      rw [s_and_iff] at hg
      cases i with
      | zero => simp at hw; subst hw; exact absurd (Nat.eq_of_beq_eq_true hg.1) h0
      | succ i =>
        obtain ⟨v, h1, -⟩ := ih hg.2 (i := i) (by simpa using hw) h0
        simp at h1
    | cons v l =>
      have hg : s_and (s_vle σ F v u) (s_lle σ F l r) = true := by simpa only [s_lle] using hg
      rw [s_and_iff] at hg
      cases i with
      | zero => simp at hw; subst hw; exact ⟨v, by simp, hg.1⟩
      | succ i =>
        obtain ⟨x, h1, h2⟩ := ih hg.2 (i := i) (by simpa using hw) h0
        exact ⟨x, by simpa using h1, h2⟩
theorem s_lle_ok {L L' : s_L} {ls : p_Ls} (hF : s_FO θ F) (hL : s_lr θ L ls) (hg : s_lle σ F L L' = true) : s_lr (s_th θ σ) L' ls := by
  intro i w hw h0
  obtain ⟨v, h1, h2⟩ := s_lle_at hg hw h0
  obtain ⟨x, h3, h4⟩ := hL i v h1 (s_vle_nz h2 h0)
  exact ⟨x, h3, s_vle_ok hF h4 h2⟩
theorem s_sle_ok : ∀ {S S' : s_L} {st : List Value}, s_FO θ F → s_sr θ S st → s_sle σ F S S' = true → s_sr (s_th θ σ) S' st := by
  intro S
  induction S with
  | nil =>
    intro S' st hF hS hg
    cases S' with
    | nil => rw [s_sr_nil hS]; trivial
    | cons w r => simp [s_sle] at hg
  | cons v l ih =>
    intro S' st hF hS hg
    cases S' with
    | nil => simp [s_sle] at hg
    | cons w r =>
      have hg : s_and (Nat.ble 1 (s_t w)) (s_and (s_vle σ F v w) (s_sle σ F l r)) = true := by simpa only [s_sle] using hg
      rw [s_and_iff, s_and_iff] at hg
      obtain ⟨x, V, rfl, h1, h2⟩ := s_sr_cons hS
      exact ⟨⟨s_tnz hg.1, s_vle_ok hF h1.2 hg.2.1⟩, ih hF h2 hg.2.2⟩
theorem s_fle_ok : ∀ {G : s_F}, s_FO θ F → s_fle σ F G = true → s_FO (s_th θ σ) G := by
  intro G
  induction G with
  | nil => intro _ _ f hf; cases hf
  | cons g r ih =>
    intro hF hg
    have hg : s_and (s_lez g.2.1 (s_iv F (s_sub σ g.1)).1) (s_and (s_lez (s_iv F (s_sub σ g.1)).2 g.2.2) (s_fle σ F r)) = true := hg
    rw [s_and_iff, s_and_iff] at hg
    have hz : ∀ {x y : Int}, s_lez x y = true → x ≤ y := fun {x y} h => by
      have := (s_b_f (s_ltz_iff (x := y) (y := x))).mp h
      omega
    intro f hf
    rcases List.mem_cons.mp hf with rfl | hf
    · have h1 := s_iv_ok (e := s_sub σ f.1) hF
      rw [s_sub_ok] at h1
      have h2 := hz hg.1
      have h3 := hz hg.2.1
      exact ⟨by omega, by omega⟩
    · exact ih hF hg.2.2 f hf
theorem s_mat_ok {H I : s_H} {L S L' S' : s_L} {ls : p_Ls} {st : List Value} {h : p_H} (hr : s_Rl θ F H L S ls st h) (hg : s_mat σ F H L S G I L' S' = true) : s_Rl (s_th θ σ) G I L' S' ls st h := by
  unfold s_mat at hg
  rw [s_and_iff, s_and_iff, s_and_iff] at hg
  obtain ⟨h1, h2, h3, h4⟩ := hr
  exact ⟨s_fle_ok h1 hg.1, s_hle_ok h1 h2 hg.2.1, s_lle_ok h1 h3 hg.2.2.1, s_sle_ok h1 h4 hg.2.2.2⟩
theorem s_th0 : s_th θ [] = θ := rfl
end SM

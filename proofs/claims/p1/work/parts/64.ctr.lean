/-! KNOWN CALLS BY CONTRACT: what holds ahead of it, in unknowns of its own; what may hold behind it -/
/-- what an expression without unknowns is -/
def s_val : s_E → Option Int
  | .leaf z => some (Int32.ofInt z).toInt
  | .branch 0 _ _ => none
  | .branch (op + 1) l r => match s_val l, s_val r with
    | some x, some y => some (s_ov (op + 1) (Int32.ofInt x) (Int32.ofInt y)).toInt
    | _, _ => none
noncomputable def s_cv2 (e : s_E) (K : s_V → Bool) : Bool := s_if (s_eqz (s_iv [] e).1 (s_iv [] e).2) (s_fz (s_iv [] e).1 (fun z => K (.inl z))) (s_forceE e (fun e => K (.inr (1, e))))
noncomputable def s_cvk (e : s_E) (K : s_V → Bool) : Bool := Option.rec (motive := fun _ => Bool) (s_cv2 e K) (fun z => s_fz z (fun z => K (.inl z))) (s_val e)
noncomputable def s_subVk (σ : List (Nat × s_E)) (v : s_V) (K : s_V → Bool) : Bool := Sum.rec (motive := fun _ => Bool) (fun z => K (.inl z)) (fun q => s_if (Nat.beq q.1 1) (s_cvk (s_sub σ q.2) K) (s_if (Nat.beq q.1 5) (K (.inr (5, s_sub σ q.2))) (K (.inr q)))) v
noncomputable def s_subTk (σ : List (Nat × s_E)) (t : Lean.RArray s_V) : (Lean.RArray s_V → Bool) → Bool := Lean.RArray.rec (motive := fun _ => (Lean.RArray s_V → Bool) → Bool) (fun v K => s_subVk σ v (fun w => K (.leaf w))) (fun p _ _ il ir K => il (fun l => ir (fun r => K (.branch p l r)))) t
noncomputable def s_subCk (σ : List (Nat × s_E)) (t : Lean.RArray s_A) : (Lean.RArray s_A → Bool) → Bool := Lean.RArray.rec (motive := fun _ => (Lean.RArray s_A → Bool) → Bool) (fun c K => s_subTk σ c.2.2.2 (fun u => K (.leaf (c.1, c.2.1, c.2.2.1, u)))) (fun p _ _ il ir K => il (fun l => ir (fun r => K (.branch p l r)))) t
noncomputable def s_subHk (σ : List (Nat × s_E)) (H : s_H) (K : s_H → Bool) : Bool := s_subCk σ H.1 (fun t => K (t, H.2.1, H.2.2))
/-- a fact that can't be -/
noncomputable def q_not (σ : List (Nat × s_E)) (F G : s_F) : Bool := List.rec (motive := fun _ => Bool) false (fun f _ ih => s_if (s_ltz (s_iv F (s_sub σ f.1)).2 f.2.1) true (s_if (s_ltz f.2.2 (s_iv F (s_sub σ f.1)).1) true ih)) G
def s_subF (σ : List (Nat × s_E)) (F : s_F) : s_F → s_F
  | [] => F
  | f :: r => (s_sub σ f.1, f.2.1, f.2.2) :: s_subF σ F r
noncomputable def q_outs (σ : List (Nat × s_E)) (F : s_F) (K : s_K) (os : List (s_F × s_H × s_V)) : Bool := List.rec (motive := fun _ => Bool) true (fun o _ ih => s_and (s_if (q_not σ F o.1) true (s_subHk σ o.2.1 (fun H => s_subVk σ o.2.2 (fun a => K (s_subF σ F o.1) H a)))) ih) os
noncomputable def q_an (F : s_F) (a b : s_V) : Bool := s_if (Nat.beq (s_t b) 8) (Nat.beq (s_t a) 8) (s_and (Nat.ble 1 (s_t b)) (s_vle [] F a b))
noncomputable def q_Ro (os : List (s_F × s_H × s_V)) : s_K := fun F H a => List.rec (motive := fun _ => Bool) false (fun o _ ih => s_if (s_and (s_fle [] F o.1) (s_and (s_hle [] F H o.2.1) (q_an F a o.2.2))) true ih) os
noncomputable def q_Z (m0 c0 : Nat) (sg : s_H → s_L → List (Nat × s_E)) (G : s_F) (I : s_H) (A0 : s_L) (os : List (s_F × s_H × s_V)) (X : s_X) : s_X := fun d m A c F H K E => s_if (Nat.beq m m0) (s_if (s_mat (sg H A) F H A [] G I A0 []) (s_and (Nat.ble 50 d) (s_and (Nat.beq c c0) (q_outs (sg H A) F K os))) (X d m A c F H K E)) (X d m A c F H K E)
/-- the contract -/
def q_Ct (θ : Nat → Int32) (M : p_M) (G : s_F) (I : s_H) (A0 : s_L) (os : List (s_F × s_H × s_V)) : Prop := ∀ ls h, s_Rl θ G I A0 [] ls [] h → ∃ o ∈ os, ∃ v h2, s_FO θ o.1 ∧ s_hr θ o.2.1 h2 ∧ s_an θ o.2.2 v ∧ p_wp p_GT p_MT 50 M 0 ls [] h (fun v' h' => v' = v ∧ h' = h2)
section SZ
variable {θ : Nat → Int32} {σ : List (Nat × s_E)} {F G : s_F}
theorem s_val_ok : ∀ {e : s_E} {z : Int}, s_val e = some z → s_ev θ e = Int32.ofInt z ∧ s_I z := by
  intro e
  induction e with
  | leaf z =>
    intro w h
    have h : some (Int32.ofInt z).toInt = some w := h
    cases h
    exact ⟨(Int32.ofInt_toInt _).symm, x_I32 _⟩
  | branch op l r il ir =>
    intro w h
    cases op with
    | zero => cases h
    | succ n =>
      have e : s_val (.branch (n + 1) l r) = (match s_val l, s_val r with
        | some x, some y => some (s_ov (n + 1) (Int32.ofInt x) (Int32.ofInt y)).toInt
        | _, _ => none) := rfl
      rw [e] at h
      split at h
      · next x y hx hy =>
        cases h
        refine ⟨?_, x_I32 _⟩
        show s_ov (n + 1) (s_ev θ l) (s_ev θ r) = _
        rw [(il hx).1, (ir hy).1, Int32.ofInt_toInt]
      · cases h
theorem s_cv2_ok {e : s_E} {K : s_V → Bool} : ∃ v, s_cv2 e K = K v ∧ s_v θ v (.int (s_ev θ e)) ∧ s_t v = 1 := by
  unfold s_cv2
  have hiv := s_iv_ok (θ := θ) (F := []) (e := e) (fun f hf => by cases hf)
  cases hb : s_eqz (s_iv [] e).1 (s_iv [] e).2 with
  | true =>
    have e1 := s_eqz_iff.mp hb
    refine ⟨.inl (s_iv [] e).1, s_fz_eq, ?_, rfl⟩
    have e2 : (s_ev θ e).toInt = (s_iv [] e).1 := by omega
    refine ⟨by rw [← e2]; exact x_I32 _, ?_⟩
    rw [← e2, Int32.ofInt_toInt]
  | false => exact ⟨.inr (1, e), s_forceE_eq (e := e) (K := fun e => K (.inr (1, e))), rfl, rfl⟩
theorem s_cvk_ok {e : s_E} {K : s_V → Bool} : ∃ v, s_cvk e K = K v ∧ s_v θ v (.int (s_ev θ e)) ∧ s_t v = 1 := by
  unfold s_cvk
  cases h : s_val e with
  | none => exact s_cv2_ok
  | some z =>
    obtain ⟨h1, h2⟩ := s_val_ok (θ := θ) h
    exact ⟨.inl z, s_fz_eq, ⟨h2, by rw [h1]⟩, rfl⟩
theorem s_subVk_ok {v : s_V} {K : s_V → Bool} : ∃ v', s_subVk σ v K = K v' ∧ (∀ w, s_v (s_th θ σ) v w → s_v θ v' w) ∧ s_t v' = s_t v := by
  cases v with
  | inl z => exact ⟨.inl z, rfl, fun w h => h, rfl⟩
  | inr q =>
    obtain ⟨t, e⟩ := q
    have e0 : s_subVk σ (.inr (t, e)) K = s_if (Nat.beq t 1) (s_cvk (s_sub σ e) K) (s_if (Nat.beq t 5) (K (.inr (5, s_sub σ e))) (K (.inr (t, e)))) := rfl
    rw [e0]
    cases h1 : Nat.beq t 1 with
    | true =>
      have e1 := Nat.eq_of_beq_eq_true h1
      subst e1
      obtain ⟨v, g1, g2, g3⟩ := s_cvk_ok (θ := θ) (e := s_sub σ e) (K := K)
      refine ⟨v, g1, fun w h => ?_, g3⟩
      have h : w = .int (s_ev (s_th θ σ) e) := h
      rw [h, ← s_sub_ok]
      exact g2
    | false =>
      cases h5 : Nat.beq t 5 with
      | true =>
        have e5 := Nat.eq_of_beq_eq_true h5
        subst e5
        refine ⟨.inr (5, s_sub σ e), rfl, fun w h => ?_, rfl⟩
        have h : w = .long (s_ev (s_th θ σ) e).toInt64 := h
        rw [h, ← s_sub_ok]; rfl
      | false =>
        refine ⟨.inr (t, e), rfl, fun w hw => ?_, rfl⟩
        match t, h1, h5, hw with
        | 0, _, _, _ => trivial
        | 1, h, _, _ => cases h
        | 2, _, _, hv => exact hv
        | 3, _, _, hv => exact hv
        | 4, _, _, hv => exact hv
        | 5, _, h, _ => cases h
        | 6, _, _, hv => exact hv
        | 7, _, _, hv => exact hv
        | 8, _, _, hv => exact hv
        | 9, _, _, hv => exact hv
        | 10, _, _, hv => exact hv
        | 11, _, _, hv => exact hv
        | 12, _, _, hv => exact hv
        | 13, _, _, hv => exact hv
        | 14, _, _, hv => exact hv
        | 15, _, _, hv => exact hv
        | k + 16, _, _, hv => exact hv
theorem s_subTk_ok {t : Lean.RArray s_V} : ∀ {K : Lean.RArray s_V → Bool}, ∃ t', s_subTk σ t K = K t' ∧ ∀ i, (∀ w, s_v (s_th θ σ) (t.get i) w → s_v θ (t'.get i) w) ∧ (s_t (t'.get i) ≠ 0 → s_t (t.get i) ≠ 0) := by
  induction t with
  | leaf v =>
    intro K
    obtain ⟨v', g1, g2, g3⟩ := s_subVk_ok (θ := θ) (σ := σ) (v := v) (K := fun w => K (.leaf w))
    exact ⟨.leaf v', g1, fun i => ⟨g2, fun h => by rw [s_gl] at h ⊢; rw [← g3]; exact h⟩⟩
  | branch p l r il ir =>
    intro K
    have e : s_subTk σ (.branch p l r) K = s_subTk σ l (fun l => s_subTk σ r (fun r => K (.branch p l r))) := rfl
    obtain ⟨l', g1, g2⟩ := il (K := fun l => s_subTk σ r (fun r => K (.branch p l r)))
    obtain ⟨r', g3, g4⟩ := ir (K := fun r => K (.branch p l' r))
    refine ⟨.branch p l' r', by rw [e, g1]; exact g3, fun i => ?_⟩
    rw [s_gb, s_gb]
    split
    · exact g4 i
    · exact g2 i
theorem s_subCk_ok {t : Lean.RArray s_A} : ∀ {K : Lean.RArray s_A → Bool}, ∃ t', s_subCk σ t K = K t' ∧ ∀ i, (t'.get i).1 = (t.get i).1 ∧ ∀ d, s_cr (s_th θ σ) (t.get i) d → s_cr θ (t'.get i) d := by
  induction t with
  | leaf c =>
    intro K
    obtain ⟨u, g1, g2⟩ := s_subTk_ok (θ := θ) (σ := σ) (t := c.2.2.2) (K := fun u => K (.leaf (c.1, c.2.1, c.2.2.1, u)))
    refine ⟨.leaf (c.1, c.2.1, c.2.2.1, u), g1, fun i => ⟨rfl, fun d hd => ⟨hd.1, hd.2.1, hd.2.2.1, fun j hj => ?_⟩⟩⟩
    obtain ⟨v, h1, h2⟩ := hd.2.2.2 j ((g2 j).2 hj)
    exact ⟨v, h1, (g2 j).1 v h2⟩
  | branch p l r il ir =>
    intro K
    have e : s_subCk σ (.branch p l r) K = s_subCk σ l (fun l => s_subCk σ r (fun r => K (.branch p l r))) := rfl
    obtain ⟨l', g1, g2⟩ := il (K := fun l => s_subCk σ r (fun r => K (.branch p l r)))
    obtain ⟨r', g3, g4⟩ := ir (K := fun r => K (.branch p l' r))
    refine ⟨.branch p l' r', by rw [e, g1]; exact g3, fun i => ?_⟩
    rw [s_gb, s_gb]
    split
    · exact g4 i
    · exact g2 i
theorem s_subHk_ok {H : s_H} {K : s_H → Bool} : ∃ H', s_subHk σ H K = K H' ∧ ∀ h, s_hr (s_th θ σ) H h → s_hr θ H' h := by
  obtain ⟨t, g1, g2⟩ := s_subCk_ok (θ := θ) (σ := σ) (t := H.1) (K := fun t => K (t, H.2.1, H.2.2))
  refine ⟨(t, H.2.1, H.2.2), g1, fun h hh => ⟨hh.1, hh.2.1, fun a ha => ?_⟩⟩
  have ha : (t.get a).1 ≠ 9 := ha
  rw [(g2 a).1] at ha
  obtain ⟨d, h1, h2⟩ := hh.2.2 a ha
  exact ⟨d, h1, (g2 a).2 d h2⟩
theorem q_not_ok (hF : s_FO θ F) : ∀ {G : s_F}, s_FO (s_th θ σ) G → q_not σ F G = false := by
  intro G
  induction G with
  | nil => intro _; rfl
  | cons f r ih =>
    intro hG
    have e : q_not σ F (f :: r) = s_if (s_ltz (s_iv F (s_sub σ f.1)).2 f.2.1) true (s_if (s_ltz f.2.2 (s_iv F (s_sub σ f.1)).1) true (q_not σ F r)) := rfl
    have h1 := s_iv_ok (e := s_sub σ f.1) hF
    rw [s_sub_ok] at h1
    have h2 := hG f (by simp)
    have c1 : s_ltz (s_iv F (s_sub σ f.1)).2 f.2.1 = false := by
      cases hb : s_ltz (s_iv F (s_sub σ f.1)).2 f.2.1 with
      | false => rfl
      | true => have := s_ltz_iff.mp hb; omega
    have c2 : s_ltz f.2.2 (s_iv F (s_sub σ f.1)).1 = false := by
      cases hb : s_ltz f.2.2 (s_iv F (s_sub σ f.1)).1 with
      | false => rfl
      | true => have := s_ltz_iff.mp hb; omega
    rw [e, c1, c2]
    exact ih (fun g hg => hG g (by simp [hg]))
theorem s_subF_ok (hF : s_FO θ F) : ∀ {G : s_F}, s_FO (s_th θ σ) G → s_FO θ (s_subF σ F G) := by
  intro G
  induction G with
  | nil => intro _; exact hF
  | cons f r ih =>
    intro hG g hg
    rcases List.mem_cons.mp hg with rfl | hg
    · have := hG f (by simp)
      show f.2.1 ≤ (s_ev θ (s_sub σ f.1)).toInt ∧ (s_ev θ (s_sub σ f.1)).toInt ≤ f.2.2
      rw [s_sub_ok]; exact this
    · exact ih (fun k hk => hG k (by simp [hk])) g hg
theorem q_outs_ok {K : s_K} {v : Option Value} {h2 : p_H} (hF : s_FO θ F) : ∀ {os : List (s_F × s_H × s_V)}, q_outs σ F K os = true → ∀ o ∈ os, s_FO (s_th θ σ) o.1 → s_hr (s_th θ σ) o.2.1 h2 → s_an (s_th θ σ) o.2.2 v → ∃ F' H' a, K F' H' a = true ∧ s_FO θ F' ∧ s_hr θ H' h2 ∧ s_an θ a v := by
  intro os
  induction os with
  | nil => intro _ o ho; cases ho
  | cons p r ih =>
    intro hg o ho h1 h3 h4
    have hg : s_and (s_if (q_not σ F p.1) true (s_subHk σ p.2.1 (fun H => s_subVk σ p.2.2 (fun a => K (s_subF σ F p.1) H a)))) (q_outs σ F K r) = true := hg
    rw [s_and_iff] at hg
    rcases List.mem_cons.mp ho with rfl | ho
    · have g1 := hg.1
      rw [q_not_ok hF h1] at g1
      have g1 : s_subHk σ o.2.1 (fun H => s_subVk σ o.2.2 (fun a => K (s_subF σ F o.1) H a)) = true := g1
      obtain ⟨H', e1, e2⟩ := s_subHk_ok (θ := θ) (σ := σ) (H := o.2.1) (K := fun H => s_subVk σ o.2.2 (fun a => K (s_subF σ F o.1) H a))
      rw [e1] at g1
      obtain ⟨a, e3, e4, e5⟩ := s_subVk_ok (θ := θ) (σ := σ) (v := o.2.2) (K := fun a => K (s_subF σ F o.1) H' a)
      rw [e3] at g1
      refine ⟨_, H', a, g1, s_subF_ok hF h1, e2 h2 h3, ?_⟩
      cases v with
      | none => exact e5.trans h4
      | some w =>
        have h4 : s_t o.2.2 ≠ 0 ∧ s_v (s_th θ σ) o.2.2 w := h4
        exact ⟨by rw [e5]; exact h4.1, e4 w h4.2⟩
    · exact ih hg.2 o ho h1 h3 h4
theorem q_an_ok {a b : s_V} {v : Option Value} (hF : s_FO θ F) (ha : s_an θ a v) (hg : q_an F a b = true) : s_an θ b v := by
  unfold q_an at hg
  rw [s_if_iff, s_and_iff] at hg
  rcases hg with ⟨h1, h2⟩ | ⟨h0, h1, h2⟩
  · have e1 := Nat.eq_of_beq_eq_true h1
    have e2 := Nat.eq_of_beq_eq_true h2
    cases v with
    | none => exact e1
    | some w =>
      exfalso
      have ha : s_sv θ a w := ha
      cases a with
      | inl z => cases e2
      | inr q =>
        obtain ⟨t, e⟩ := q
        have e2 : t = 8 := e2
        subst e2
        exact ha.2
  · cases v with
    | none =>
      exfalso
      have ha : s_t a = 8 := ha
      have hb : s_t b ≠ 8 := fun h => by rw [h] at h0; cases h0
      have := Nat.le_of_ble_eq_true h1
      cases b with
      | inl z =>
        cases a with
        | inl y => cases ha
        | inr q =>
          have h2 : s_and (Nat.beq q.1 1) (s_and (s_eqz (s_iv F q.2).1 z) (s_eqz (s_iv F q.2).2 z)) = true := h2
          rw [s_and_iff] at h2
          have e3 := Nat.eq_of_beq_eq_true h2.1
          have ha : q.1 = 8 := ha
          omega
      | inr p =>
        obtain ⟨t, e⟩ := p
        have hb : t ≠ 8 := hb
        have h2 : s_vle2 [] a t e = true := h2
        unfold s_vle2 at h2
        rw [ha] at h2
        rw [s_if_iff] at h2
        rcases h2 with ⟨k, -⟩ | ⟨-, h2⟩
        · have := Nat.eq_of_beq_eq_true k
          have h3 : 1 ≤ t := Nat.le_of_ble_eq_true h1
          omega
        rw [s_if_iff, s_and_iff] at h2
        rcases h2 with ⟨-, k, -⟩ | ⟨-, h2⟩
        · cases k
        rw [s_if_iff] at h2
        rcases h2 with ⟨-, k⟩ | ⟨-, h2⟩
        · cases k
        rw [s_and_iff] at h2
        exact hb (Nat.eq_of_beq_eq_true h2.1).symm
    | some w => exact ⟨s_tnz h1, s_vle_ok hF ha.2 h2⟩
theorem q_Ro_ok {H : s_H} {a : s_V} {v : Option Value} {h : p_H} (hF : s_FO θ F) (hH : s_hr θ H h) (ha : s_an θ a v) : ∀ {os : List (s_F × s_H × s_V)}, q_Ro os F H a = true → ∃ o ∈ os, s_FO θ o.1 ∧ s_hr θ o.2.1 h ∧ s_an θ o.2.2 v := by
  intro os
  induction os with
  | nil => intro hg; cases hg
  | cons o r ih =>
    intro hg
    have hg : s_if (s_and (s_fle [] F o.1) (s_and (s_hle [] F H o.2.1) (q_an F a o.2.2))) true (q_Ro r F H a) = true := hg
    rw [s_if_iff, s_and_iff, s_and_iff] at hg
    rcases hg with ⟨⟨h1, h2, h3⟩, -⟩ | ⟨-, hg⟩
    · have k1 := s_fle_ok hF h1
      have k2 := s_hle_ok hF hH h2
      rw [s_th0] at k1 k2
      exact ⟨o, by simp, k1, k2, q_an_ok hF ha h3⟩
    · obtain ⟨p, hp, k⟩ := ih hg
      exact ⟨p, by simp [hp], k⟩
theorem q_Z_ok {m0 c0 : Nat} {sg : s_H → s_L → List (Nat × s_E)} {I : s_H} {A0 : s_L} {os : List (s_F × s_H × s_V)} {X : s_X} {M : p_M} (hM : p_MT[m0]? = some M) (hc0 : c0 ≤ M.2.2.1) (hX : s_XO θ X) (hC : ∀ σ, q_Ct (s_th θ σ) M G I A0 os) : s_XO θ (q_Z m0 c0 sg G I A0 os X) := by
  intro d m A c F H K E vs h hg hF hH hA hc
  have hg : s_if (Nat.beq m m0) (s_if (s_mat (sg H A) F H A [] G I A0 []) (s_and (Nat.ble 50 d) (s_and (Nat.beq c c0) (q_outs (sg H A) F K os))) (X d m A c F H K E)) (X d m A c F H K E) = true := hg
  rw [s_if_iff, s_if_iff, s_and_iff, s_and_iff] at hg
  rcases hg with ⟨h1, ⟨h2, h3, h4, h5⟩ | ⟨-, hg⟩⟩ | ⟨-, hg⟩
  · have hr := s_mat_ok (θ := θ) (S := []) (ls := lv_args 0 vs) (st := []) (h := h) ⟨hF, hH, hA, trivial⟩ h2
    obtain ⟨o, ho, v, hh, e1, e2, e3, e4⟩ := hC (sg H A) _ _ hr
    obtain ⟨F', H', a, k1, k2, k3, k4⟩ := q_outs_ok hF h5 o ho e1 e2 e3
    rw [Nat.eq_of_beq_eq_true h1]
    exact Or.inr ⟨M, 50, F', H', a, v, hh, hM, by rw [hc, Nat.eq_of_beq_eq_true h4]; exact hc0, Nat.le_of_ble_eq_true h3, k1, k2, k3, k4, e4⟩
  · exact hX d m A c F H K E vs h hg hF hH hA hc
  · exact hX d m A c F H K E vs h hg hF hH hA hc
/-- a contract by a run -/
theorem q_Ct_run {X : s_X} (hX : s_XO θ X) {n : Nat} {I : s_H} {A0 : s_L} {os : List (s_F × s_H × s_V)} {M : p_M} (hg : s_run X n 99999 s_never 50 M (q_Ro os) 0 G I A0 [] = true) : q_Ct θ M G I A0 os := by
  intro ls h hr
  rcases s_run_ok hX _ _ _ _ _ _ _ _ _ _ _ _ _ _ hg hr with ⟨F, H, a, v, h2, g1, g2, g3, g4, g5⟩ | ⟨F, H, L, S, ls', st', h', g1, -⟩
  · obtain ⟨o, ho, k1, k2, k3⟩ := q_Ro_ok g2 g3 g4 g1
    exact ⟨o, ho, v, h2, k1, k2, k3, g5⟩
  · cases g1
/-- a contract by a loop over unknowns; what it leaves has none of them -/
theorem q_Ct_loop {X : s_X} (hX : ∀ θ, s_XO θ X) {n n2 k hd : Nat} {M : p_M} {F0 : s_F} {I0 I : s_H} {A0 L' : s_L} {sg : s_H → s_L → List (Nat × s_E)} {σ0 : List (Nat × s_E)} {lo hi : Int} {I1 : s_H} {a1 : s_V} (hG : (q_v20, lo, hi) ∈ G) (h31 : hi ≤ 2147483646) (hlow : List.rec (motive := fun _ => Bool) true (fun q _ ih => s_and (Nat.ble 16 q.1) ih) σ0 = true) (hI1 : s_lowH I1.1 = true) (ha1 : s_lowV a1 = true)
    (hpre : s_top X n k hd (fun F H L S => s_mat σ0 F H L S G I L' []) 50 M (fun _ _ _ => false) 0 F0 I0 A0 [] = true) (hrun : s_run X n2 hd (q_KSl sg G I L') 50 M (q_Ro [([], I1, a1)]) hd G I L' [] = true) : q_Ct θ M F0 I0 A0 [([], I1, a1)] := by
  intro ls h hr
  obtain ⟨θ', F, H, a, v, h2, b1, b2, b3, b4, b5, b6⟩ := q_lcall hX hG h31 hlow hpre hrun hr
  obtain ⟨o, ho, k1, k2, k3⟩ := q_Ro_ok b3 b4 b5 b2
  rw [List.mem_singleton] at ho
  subst ho
  refine ⟨_, List.mem_singleton.mpr rfl, v, h2, (fun f hf => by cases hf), s_agr b1 hI1 k2, ?_, b6⟩
  cases v with
  | none => exact k3
  | some w => exact ⟨k3.1, s_kV_ok b1 ha1 k3.2⟩
end SZ

/-! the run is sound -/
section SR
variable {θ : Nat → Int32} {R : s_K} {KS : s_T} {hd d : Nat} {M : p_M} {J : s_J} {C : s_CC}
/-- what a call comes to, d calls deep at most -/
def s_Cal (θ : Nat → Int32) (d m : Nat) (K : s_K) (vs : List Value) (h : p_H) : Prop := ∃ M' dc F' H' a v h2, p_MT[m]? = some M' ∧ p_cat vs ≤ M'.2.2.1 ∧ dc ≤ d ∧ K F' H' a = true ∧ s_FO θ F' ∧ s_hr θ H' h2 ∧ s_an θ a v ∧ p_wp p_GT p_MT dc M' 0 (lv_args 0 vs) [] h (fun v' h' => v' = v ∧ h' = h2)
/-- the known calls are so -/
def s_XO (θ : Nat → Int32) (X : s_X) : Prop := ∀ d m A c F H K E vs h, X d m A c F H K E = true → s_FO θ F → s_hr θ H h → s_lr θ A (lv_args 0 vs) → p_cat vs = c → E = true ∨ s_Cal θ d m K vs h
theorem s_X0_ok : s_XO θ s_X0 := fun _ _ _ _ _ _ _ _ _ _ h _ _ _ _ => Or.inl h
theorem s_adj_tl {q : p_I} {l : List p_I} (h : s_adj (q :: l) = true) : s_adj l = true := by
  simp only [s_adj, Bool.and_eq_true] at h
  exact h.2
theorem s_adj_hd {q p : p_I} {l : List p_I} (h : s_adj (q :: p :: l) = true) : q.1 < p.1 ∧ (p_ln q.2.1 = 0 ∨ q.1 + p_ln q.2.1 = p.1) := by
  have h : ((Nat.blt q.1 p.1 && (Nat.beq (p_ln q.2.1) 0 || Nat.beq (q.1 + p_ln q.2.1) p.1)) && s_adj (p :: l)) = true := h
  rw [Bool.and_eq_true, Bool.and_eq_true, Bool.or_eq_true] at h
  exact ⟨Nat.le_of_ble_eq_true h.1.1, h.1.2.imp Nat.eq_of_beq_eq_true Nat.eq_of_beq_eq_true⟩
theorem s_adj_lt : ∀ {l : List p_I} {q : p_I}, s_adj (q :: l) = true → ∀ p ∈ l, q.1 < p.1 := by
  intro l
  induction l with
  | nil => intro q _ p hp; cases hp
  | cons a r ih =>
    intro q h p hp
    have h1 := (s_adj_hd h).1
    rcases List.mem_cons.mp hp with rfl | hp
    · exact h1
    · exact Nat.lt_trans h1 (ih (s_adj_tl h) p hp)
theorem s_at_ok : ∀ {pre : List p_I} {q : p_I} {r : List p_I}, s_adj (pre ++ q :: r) = true → p_at q.1 (pre ++ q :: r) = some q.2 := by
  intro pre
  induction pre with
  | nil => intro q r _; simp [p_at]
  | cons a pre ih =>
    intro q r h
    have h : s_adj (a :: (pre ++ q :: r)) = true := h
    have h1 := s_adj_lt h q (by simp)
    have h2 : Nat.beq a.1 q.1 = false := by
      cases e : Nat.beq a.1 q.1 with
      | false => rfl
      | true => have := Nat.eq_of_beq_eq_true e; omega
    show (if Nat.beq a.1 q.1 then some a.2 else p_at q.1 (pre ++ q :: r)) = some q.2
    rw [h2]
    exact ih (s_adj_tl h)
theorem s_blk_ok (hJ : ∀ t, s_OK θ R KS hd d M (J t) t) (hC : s_CO θ d C) (ha : s_adj M.2.2.2.2.1 = true) : ∀ (l pre : List p_I), M.2.2.2.2.1 = pre ++ l → ∀ q r, l = q :: r → s_OK θ R KS hd d M (s_blk M J C R l) q.1 := by
  intro l
  induction l with
  | nil => intro pre _ q r h; cases h
  | cons q r ih =>
    intro pre hpre q' r' hl
    cases hl
    intro F H L S ls st h hg hr
    refine s_hd_ok (i := q.2.1) (pc := q.1) (len := q.2.2) (nx := s_blk M J C R r) ?_ hJ hC (by rw [hpre]; exact s_at_ok (by rw [← hpre]; exact ha)) hr hg
    intro h0
    have hadj : ∀ {pre l : List p_I}, s_adj (pre ++ l) = true → s_adj l = true := by
      intro pre
      induction pre with
      | nil => intro l h; exact h
      | cons a p ih => intro l h; exact ih (s_adj_tl h)
    have ha2 : s_adj (q :: r) = true := hadj (by rw [← hpre]; exact ha)
    cases r with
    | nil => intro F H L S ls st h hg; cases hg
    | cons p r2 =>
      have h3 := (s_adj_hd ha2).2
      rw [h3.resolve_left h0]
      exact ih (pre ++ [q]) (by rw [hpre]; simp) p r2 rfl
theorem s_sfx_ok {pc : Nat} : ∀ {l : List p_I}, s_sfx pc l = [] ∨ ∃ pre q r, l = pre ++ q :: r ∧ q.1 = pc ∧ s_sfx pc l = q :: r := by
  intro l
  induction l with
  | nil => exact Or.inl rfl
  | cons q r ih =>
    have e : s_sfx pc (q :: r) = Bool.rec (motive := fun _ => List p_I) (s_sfx pc r) (q :: r) (Nat.beq q.1 pc) := rfl
    cases hb : Nat.beq q.1 pc with
    | true =>
      rw [hb] at e
      exact Or.inr ⟨[], q, r, rfl, Nat.eq_of_beq_eq_true hb, e⟩
    | false =>
      rw [hb] at e
      have e : s_sfx pc (q :: r) = s_sfx pc r := e
      rw [e]
      rcases ih with h | ⟨pre, p, r2, h1, h2, h3⟩
      · exact Or.inl h
      · exact Or.inr ⟨q :: pre, p, r2, by rw [h1]; rfl, h2, h3⟩
theorem s_jmp_ok {n : Nat} {X : s_X} (ih : ∀ (hd : Nat) (KS : s_T) (d : Nat) (M : p_M) (R : s_K) (pc : Nat), s_OK θ R KS hd d M (s_run X n hd KS d M R pc) pc) : ∀ t, s_OK θ R KS hd d M (s_jmp (s_run X n) hd KS d M R t) t := by
  intro t F H L S ls st h hg hr
  have hg : s_if (Nat.beq t hd) (KS F H L S) (s_run X n hd KS d M R t F H L S) = true := hg
  rw [s_if_iff] at hg
  rcases hg with ⟨h1, h2⟩ | ⟨-, h2⟩
  · obtain rfl := Nat.eq_of_beq_eq_true h1
    exact Or.inr ⟨F, H, L, S, ls, st, h, h2, hr, fun Q hq => hq⟩
  · exact ih _ _ _ _ _ _ _ _ _ _ _ _ _ h2 hr
theorem s_call_ok {n : Nat} {X : s_X} (hX : s_XO θ X) (ih : ∀ (hd : Nat) (KS : s_T) (d : Nat) (M : p_M) (R : s_K) (pc : Nat), s_OK θ R KS hd d M (s_run X n hd KS d M R pc) pc) : s_CO θ d (s_call X p_MT (s_run X n) d) := by
  intro m A c F H K vs h hg hF hH hA hc
  cases d with
  | zero => cases hg
  | succ d =>
    have hg : X d m A c F H K (Option.rec (motive := fun _ => Bool) false (s_call2 (s_run X n) A c F H K d) (p_MT[m]?)) = true := hg
    rcases hX _ _ _ _ _ _ _ _ vs h hg hF hH hA hc with hE | ⟨M', dc, F', H', a, v, h2, e1, e2, e3, e4⟩
    · cases eM : p_MT[m]? with
      | none => rw [eM] at hE; cases hE
      | some M' =>
        rw [eM] at hE
        have hE : s_and (Nat.ble c M'.2.2.1) (s_run X n 99999 s_never d M' K 0 F H A []) = true := hE
        rw [s_and_iff] at hE
        have hle := Nat.le_of_ble_eq_true hE.1
        rcases ih _ _ _ _ _ _ _ _ _ _ (lv_args 0 vs) [] h hE.2 ⟨hF, hH, hA, trivial⟩ with ⟨F', H', a, v, h2, g1, g2, g3, g4, g5⟩ | ⟨F', H', L', S', ls', st', h', g1, -⟩
        · exact ⟨M', d, F', H', a, v, h2, rfl, by rw [hc]; exact hle, Nat.le_refl _, g1, g2, g3, g4, g5⟩
        · cases g1
    · exact ⟨M', dc, F', H', a, v, h2, e1, e2, Nat.succ_le_succ e3, e4⟩
/-- THE RUN IS SOUND -/
theorem s_run_ok {X : s_X} (hX : s_XO θ X) : ∀ (n hd : Nat) (KS : s_T) (d : Nat) (M : p_M) (R : s_K) (pc : Nat), s_OK θ R KS hd d M (s_run X n hd KS d M R pc) pc := by
  intro n
  induction n with
  | zero => intro hd KS d M R pc F H L S ls st h hg; cases hg
  | succ n ih =>
    intro hd KS d M R pc F H L S ls st h hg hr
    have hg : s_and (s_adj M.2.2.2.2.1) (s_blk M (s_jmp (s_run X n) hd KS d M R) (s_call X p_MT (s_run X n) d) R (s_sfx pc M.2.2.2.2.1) F H L S) = true := hg
    rw [s_and_iff] at hg
    rcases s_sfx_ok (pc := pc) (l := M.2.2.2.2.1) with e | ⟨pre, q, r, e1, e2, e3⟩
    · rw [e] at hg
      exact absurd hg.2 (fun h => by cases h)
    · rw [e3] at hg
      rw [← e2]
      exact s_blk_ok (s_jmp_ok ih) (s_call_ok hX ih) hg.1 (q :: r) pre e1 q r rfl _ _ _ _ _ _ _ hg.2 hr
/-- from a point up to a stop that the first road falls into -/
noncomputable def s_blk2 (hd : Nat) (KS : s_T) (M : p_M) (J : s_J) (C : s_CC) (R : s_K) (l : List p_I) : s_T := List.rec (motive := fun _ => s_T) (fun _ _ _ _ => false) (fun q _ ih => Bool.rec (motive := fun _ => s_T) (s_hd q.2.1 M q.1 ih J C R) KS (Nat.beq q.1 hd)) l
noncomputable def s_go (X : s_X) (n : Nat) : s_R := fun hd KS d M R pc F H L S => s_and (s_adj M.2.2.2.2.1) (s_blk2 hd KS M (s_jmp (s_run X n) hd KS d M R) (s_call X p_MT (s_run X n) d) R (s_sfx pc M.2.2.2.2.1) F H L S)
theorem s_blk2_ok (hJ : ∀ t, s_OK θ R KS hd d M (J t) t) (hC : s_CO θ d C) (ha : s_adj M.2.2.2.2.1 = true) : ∀ (l pre : List p_I), M.2.2.2.2.1 = pre ++ l → ∀ q r, l = q :: r → s_OK θ R KS hd d M (s_blk2 hd KS M J C R l) q.1 := by
  intro l
  induction l with
  | nil => intro pre _ q r h; cases h
  | cons q r ih =>
    intro pre hpre q' r' hl
    cases hl
    intro F H L S ls st h hg hr
    have hg : (Bool.rec (motive := fun _ => s_T) (s_hd q.2.1 M q.1 (s_blk2 hd KS M J C R r) J C R) KS (Nat.beq q.1 hd) : s_T) F H L S = true := hg
    cases hb : Nat.beq q.1 hd with
    | true =>
      rw [hb] at hg
      rw [Nat.eq_of_beq_eq_true hb]
      exact Or.inr ⟨F, H, L, S, ls, st, h, hg, hr, fun Q hq => hq⟩
    | false =>
      rw [hb] at hg
      refine s_hd_ok (i := q.2.1) (pc := q.1) (len := q.2.2) (nx := s_blk2 hd KS M J C R r) ?_ hJ hC (by rw [hpre]; exact s_at_ok (by rw [← hpre]; exact ha)) hr hg
      intro h0
      have hadj : ∀ {pre l : List p_I}, s_adj (pre ++ l) = true → s_adj l = true := by
        intro pre
        induction pre with
        | nil => intro l h; exact h
        | cons a p ih => intro l h; exact ih (s_adj_tl h)
      have ha2 : s_adj (q :: r) = true := hadj (by rw [← hpre]; exact ha)
      cases r with
      | nil => intro F H L S ls st h hg; cases hg
      | cons p r2 =>
        have h3 := (s_adj_hd ha2).2
        rw [h3.resolve_left h0]
        exact ih (pre ++ [q]) (by rw [hpre]; simp) p r2 rfl
theorem s_go_ok {X : s_X} (hX : s_XO θ X) (n hd : Nat) (KS : s_T) (d : Nat) (M : p_M) (R : s_K) (pc : Nat) : s_OK θ R KS hd d M (s_go X n hd KS d M R pc) pc := by
  intro F H L S ls st h hg hr
  have hg : s_and (s_adj M.2.2.2.2.1) (s_blk2 hd KS M (s_jmp (s_run X n) hd KS d M R) (s_call X p_MT (s_run X n) d) R (s_sfx pc M.2.2.2.2.1) F H L S) = true := hg
  rw [s_and_iff] at hg
  rcases s_sfx_ok (pc := pc) (l := M.2.2.2.2.1) with e | ⟨pre, q, r, e1, e2, e3⟩
  · rw [e] at hg
    exact absurd hg.2 (fun h => by cases h)
  · rw [e3] at hg
    rw [← e2]
    exact s_blk2_ok (s_jmp_ok (s_run_ok hX n)) (s_call_ok hX (s_run_ok hX n)) hg.1 (q :: r) pre e1 q r rfl _ _ _ _ _ _ _ hg.2 hr
end SR

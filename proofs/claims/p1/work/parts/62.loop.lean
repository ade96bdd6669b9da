/-! Loops of the kernel machine; known calls -/
/-- only unknowns below 16 -/
def s_lowE : s_E → Bool
  | .leaf _ => true
  | .branch 0 l _ => Nat.blt (s_key l) 16
  | .branch (_ + 1) l r => s_lowE l && s_lowE r
noncomputable def s_lowV (v : s_V) : Bool := Sum.rec (motive := fun _ => Bool) (fun _ => true) (fun q => s_lowE q.2) v
noncomputable def s_lowT (t : Lean.RArray s_V) : Bool := Lean.RArray.rec (motive := fun _ => Bool) s_lowV (fun _ _ _ il ir => s_and il ir) t
noncomputable def s_lowH (t : Lean.RArray s_A) : Bool := Lean.RArray.rec (motive := fun _ => Bool) (fun c => s_lowT c.2.2.2) (fun _ _ _ il ir => s_and il ir) t
section SA
variable {θ θ' : Nat → Int32}
theorem s_kE_ok (ha : ∀ k, k < 16 → θ k = θ' k) : ∀ {e : s_E}, s_lowE e = true → s_ev θ e = s_ev θ' e := by
  intro e
  induction e with
  | leaf z => intro _; rfl
  | branch op l r il ir =>
    intro h
    cases op with
    | zero => exact ha _ (Nat.le_of_ble_eq_true h)
    | succ n =>
      have h : (s_lowE l && s_lowE r) = true := h
      rw [Bool.and_eq_true] at h
      show s_ov (n + 1) (s_ev θ l) (s_ev θ r) = s_ov (n + 1) (s_ev θ' l) (s_ev θ' r)
      rw [il h.1, ir h.2]
theorem s_kV_ok (ha : ∀ k, k < 16 → θ k = θ' k) {v : s_V} {w : Value} (hk : s_lowV v = true) (hv : s_v θ v w) : s_v θ' v w := by
  cases v with
  | inl z => exact hv
  | inr q =>
    obtain ⟨t, e⟩ := q
    have hk : s_lowE e = true := hk
    have he := s_kE_ok ha hk
    match t, hv with
    | 0, hv => trivial
    | 1, hv => show w = _; rw [← he]; exact hv
    | 2, hv => exact hv
    | 3, hv => exact hv
    | 4, hv => exact hv
    | 5, hv => show w = _; rw [← he]; exact hv
    | 6, hv => exact hv
    | 7, hv => exact hv
    | 8, hv => exact hv
    | 9, hv => exact hv
    | 10, hv => exact hv
    | 11, hv => exact hv
    | 12, hv => exact hv
    | 13, hv => exact hv
    | 14, hv => exact hv
    | 15, hv => exact hv
    | k + 16, hv => exact hv
theorem s_kT_ok {t : Lean.RArray s_V} : ∀ {i : Nat}, s_lowT t = true → s_lowV (t.get i) = true := by
  induction t with
  | leaf v => intro i h; exact h
  | branch p l r il ir =>
    intro i h
    have h : s_and (s_lowT l) (s_lowT r) = true := h
    rw [s_and_iff] at h
    rw [s_gb]
    split
    · exact ir h.2
    · exact il h.1
theorem s_lowH_ok {t : Lean.RArray s_A} : ∀ {i : Nat}, s_lowH t = true → s_lowT (t.get i).2.2.2 = true := by
  induction t with
  | leaf v => intro i h; exact h
  | branch p l r il ir =>
    intro i h
    have h : s_and (s_lowH l) (s_lowH r) = true := h
    rw [s_and_iff] at h
    rw [s_gb]
    split
    · exact ir h.2
    · exact il h.1
theorem s_agr (ha : ∀ k, k < 16 → θ k = θ' k) {H : s_H} {h : p_H} (hk : s_lowH H.1 = true) (hH : s_hr θ H h) : s_hr θ' H h := by
  refine ⟨hH.1, hH.2.1, fun a h9 => ?_⟩
  obtain ⟨d, h1, h2, h3, h4, h5⟩ := hH.2.2 a h9
  refine ⟨d, h1, h2, h3, h4, fun i hi => ?_⟩
  obtain ⟨v, h6, h7⟩ := h5 i hi
  exact ⟨v, h6, s_kV_ok ha (s_kT_ok (s_lowH_ok hk)) h7⟩
end SA
/-- a loop of known states, one after the other -/
noncomputable def q_KSk (N : Nat) (Fk : Nat → s_F) (Hk : Nat → s_H) (Lk : Nat → s_L) (k : Nat) : s_T := fun F H L S => s_and (Nat.ble (k + 1) N) (s_mat [] F H L S (Fk (k + 1)) (Hk (k + 1)) (Lk (k + 1)) [])
theorem q_chain {θ : Nat → Int32} {X : s_X} (hX : s_XO θ X) {n hd d N : Nat} {M : p_M} {Rk : Nat → s_K} {Fk : Nat → s_F} {Hk : Nat → s_H} {Lk : Nat → s_L} (seg : ∀ k, k ≤ N → s_run X n hd (q_KSk N Fk Hk Lk k) d M (Rk k) hd (Fk k) (Hk k) (Lk k) [] = true) :
    ∀ (e k : Nat), k ≤ N → N - k ≤ e → ∀ ls h, s_Rl θ (Fk k) (Hk k) (Lk k) [] ls [] h → ∃ j F H a v h2, k ≤ j ∧ j ≤ N ∧ Rk j F H a = true ∧ s_FO θ F ∧ s_hr θ H h2 ∧ s_an θ a v ∧ p_wp p_GT p_MT d M hd ls [] h (fun v' h' => v' = v ∧ h' = h2) := by
  intro e
  induction e with
  | zero =>
    intro k hk he ls h hr
    rcases s_run_ok hX _ _ _ _ _ _ _ _ _ _ _ _ _ _ (seg k hk) hr with ⟨F, H, a, v, h2, g1, g2, g3, g4, g5⟩ | ⟨F, H, L, S, ls', st', h', g1, -⟩
    · exact ⟨k, F, H, a, v, h2, Nat.le_refl _, hk, g1, g2, g3, g4, g5⟩
    · unfold q_KSk at g1
      rw [s_and_iff] at g1
      have := Nat.le_of_ble_eq_true g1.1
      omega
  | succ e ih =>
    intro k hk he ls h hr
    rcases s_run_ok hX _ _ _ _ _ _ _ _ _ _ _ _ _ _ (seg k hk) hr with ⟨F, H, a, v, h2, g1, g2, g3, g4, g5⟩ | ⟨F, H, L, S, ls', st', h', g1, g2, g3⟩
    · exact ⟨k, F, H, a, v, h2, Nat.le_refl _, hk, g1, g2, g3, g4, g5⟩
    · unfold q_KSk at g1
      rw [s_and_iff] at g1
      have hle := Nat.le_of_ble_eq_true g1.1
      have g4 := s_mat_ok g2 g1.2
      rw [s_th0] at g4
      obtain rfl := s_sr_nil g4.2.2.2
      obtain ⟨j, F', H', a, v, h2, a1, a2, a3, a4, a5, a6, a7⟩ := ih (k + 1) hle (by omega) ls' h' g4
      exact ⟨j, F', H', a, v, h2, by omega, a2, a3, a4, a5, a6, g3 _ a7⟩
/-! A loop over unknowns: the 20th counts -/
def q_v20 : s_E := .branch 0 (.leaf (.ofNat 20)) (.leaf (.ofNat 0))
noncomputable def q_cnt (σ : List (Nat × s_E)) : Bool := s_and (Option.rec (motive := fun _ => Bool) false (fun e => s_eqE e (.branch 1 q_v20 (.leaf (.ofNat 1)))) (s_slk σ 20)) (List.rec (motive := fun _ => Bool) true (fun q _ ih => s_and (Nat.ble 16 q.1) ih) σ)
noncomputable def q_KSl (sg : s_H → s_L → List (Nat × s_E)) (G : s_F) (I : s_H) (L' : s_L) : s_T := fun F H L S => s_and (q_cnt (sg H L)) (s_mat (sg H L) F H L S G I L' [])
theorem q_low {θ : Nat → Int32} : ∀ {σ : List (Nat × s_E)}, List.rec (motive := fun _ => Bool) true (fun q _ ih => s_and (Nat.ble 16 q.1) ih) σ = true → ∀ k, k < 16 → s_th θ σ k = θ k := by
  intro σ hg k hk
  have key : ∀ (σ : List (Nat × s_E)), List.rec (motive := fun _ => Bool) true (fun q _ ih => s_and (Nat.ble 16 q.1) ih) σ = true → s_slk σ k = none := by
    intro σ
    induction σ with
    | nil => intro _; rfl
    | cons q r ih =>
      intro hg
      have hg : s_and (Nat.ble 16 q.1) (List.rec (motive := fun _ => Bool) true (fun q _ ih => s_and (Nat.ble 16 q.1) ih) r) = true := hg
      rw [s_and_iff] at hg
      have h1 := Nat.le_of_ble_eq_true hg.1
      have h2 : Nat.beq q.1 k = false := by
        cases e : Nat.beq q.1 k with
        | false => rfl
        | true => have := Nat.eq_of_beq_eq_true e; omega
      simp only [s_slk, h2]
      exact ih hg.2
  unfold s_th
  rw [key σ hg]
theorem q_loop {X : s_X} (hX : ∀ θ, s_XO θ X) {n hd d : Nat} {M : p_M} {R : s_K} {G : s_F} {I : s_H} {L' : s_L} {sg : s_H → s_L → List (Nat × s_E)} {lo hi : Int} (hG : (q_v20, lo, hi) ∈ G) (h31 : hi ≤ 2147483646) (hrun : s_run X n hd (q_KSl sg G I L') d M R hd G I L' [] = true) :
    ∀ (e : Nat) (θ : Nat → Int32) ls h, hi - (θ 20).toInt ≤ e → s_Rl θ G I L' [] ls [] h → ∃ θ' F H a v h2, (∀ k, k < 16 → θ' k = θ k) ∧ R F H a = true ∧ s_FO θ' F ∧ s_hr θ' H h2 ∧ s_an θ' a v ∧ p_wp p_GT p_MT d M hd ls [] h (fun v' h' => v' = v ∧ h' = h2) := by
  have key : ∀ (θ : Nat → Int32) (F : s_F) (H : s_H) (L S : s_L) ls st h, (θ 20).toInt ≤ hi → q_KSl sg G I L' F H L S = true → s_Rl θ F H L S ls st h → s_Rl (s_th θ (sg H L)) G I L' [] ls st h ∧ (s_th θ (sg H L) 20).toInt = (θ 20).toInt + 1 ∧ ∀ k, k < 16 → s_th θ (sg H L) k = θ k := by
    intro θ F H L S ls st h hhi g1 g2
    unfold q_KSl at g1
    rw [s_and_iff] at g1
    have g4 := s_mat_ok g2 g1.2
    have hc := g1.1
    unfold q_cnt at hc
    rw [s_and_iff] at hc
    refine ⟨g4, ?_, q_low hc.2⟩
    have hc1 := hc.1
    cases hs : s_slk (sg H L) 20 with
    | none => rw [hs] at hc1; cases hc1
    | some x =>
      rw [hs] at hc1
      have hx := s_eqE_ok hc1
      have e2 : s_th θ (sg H L) 20 = θ 20 + 1 := by unfold s_th; rw [hs, hx]; rfl
      have := x_I32 (θ 20)
      rw [e2, x_add (by show _ ≤ (θ 20).toInt + 1; omega) (by show (θ 20).toInt + 1 ≤ _; omega)]
      rfl
  intro e
  induction e with
  | zero =>
    intro θ ls h he hr
    have b1 : lo ≤ (θ 20).toInt ∧ (θ 20).toInt ≤ hi := hr.1 _ hG
    rcases s_run_ok (hX θ) _ _ _ _ _ _ _ _ _ _ _ _ _ _ hrun hr with ⟨F, H, a, v, h2, g1, g2, g3, g4, g5⟩ | ⟨F, H, L, S, ls', st', h', g1, g2, g3⟩
    · exact ⟨θ, F, H, a, v, h2, fun _ _ => rfl, g1, g2, g3, g4, g5⟩
    · obtain ⟨k1, k2, k3⟩ := key θ F H L S ls' st' h' b1.2 g1 g2
      have b2 : lo ≤ (s_th θ (sg H L) 20).toInt ∧ (s_th θ (sg H L) 20).toInt ≤ hi := k1.1 _ hG
      omega
  | succ e ih =>
    intro θ ls h he hr
    have b1 : lo ≤ (θ 20).toInt ∧ (θ 20).toInt ≤ hi := hr.1 _ hG
    rcases s_run_ok (hX θ) _ _ _ _ _ _ _ _ _ _ _ _ _ _ hrun hr with ⟨F, H, a, v, h2, g1, g2, g3, g4, g5⟩ | ⟨F, H, L, S, ls', st', h', g1, g2, g3⟩
    · exact ⟨θ, F, H, a, v, h2, fun _ _ => rfl, g1, g2, g3, g4, g5⟩
    · obtain ⟨k1, k2, k3⟩ := key θ F H L S ls' st' h' b1.2 g1 g2
      obtain rfl := s_sr_nil k1.2.2.2
      obtain ⟨θ', F', H', a, v, h2, a1, a2, a3, a4, a5, a6⟩ := ih (s_th θ (sg H L)) ls' h' (by rw [k2]; omega) k1
      exact ⟨θ', F', H', a, v, h2, fun k hk => by rw [a1 k hk, k3 k hk], a2, a3, a4, a5, g3 _ a6⟩
/-! Known calls -/
noncomputable def q_X (m0 c0 : Nat) (B : s_L → s_F → s_H → s_K → Bool) (X : s_X) : s_X := fun d m A c F H K E => s_if (Nat.beq m m0) (s_and (Nat.ble 50 d) (s_and (Nat.beq c c0) (B A F H K))) (X d m A c F H K E)
theorem q_X_ok {θ : Nat → Int32} {m0 c0 : Nat} {B : s_L → s_F → s_H → s_K → Bool} {X : s_X} {M : p_M} (hM : p_MT[m0]? = some M) (hc0 : c0 ≤ M.2.2.1) (hX : s_XO θ X)
    (hB : ∀ A F H K vs h, B A F H K = true → s_FO θ F → s_hr θ H h → s_lr θ A (lv_args 0 vs) → ∃ F' H' a v h2, K F' H' a = true ∧ s_FO θ F' ∧ s_hr θ H' h2 ∧ s_an θ a v ∧ p_wp p_GT p_MT 50 M 0 (lv_args 0 vs) [] h (fun v' h' => v' = v ∧ h' = h2)) : s_XO θ (q_X m0 c0 B X) := by
  intro d m A c F H K E vs h hg hF hH hA hc
  have hg : s_if (Nat.beq m m0) (s_and (Nat.ble 50 d) (s_and (Nat.beq c c0) (B A F H K))) (X d m A c F H K E) = true := hg
  rw [s_if_iff, s_and_iff, s_and_iff] at hg
  rcases hg with ⟨h1, h2, h3, h4⟩ | ⟨-, hg⟩
  · obtain ⟨F', H', a, v, hh, e1, e2, e3, e4, e5⟩ := hB A F H K vs h h4 hF hH hA
    rw [Nat.eq_of_beq_eq_true h1]
    exact Or.inr ⟨M, 50, F', H', a, v, hh, hM, by rw [hc, Nat.eq_of_beq_eq_true h3]; exact hc0, Nat.le_of_ble_eq_true h2, e1, e2, e3, e4, e5⟩
  · exact hX d m A c F H K E vs h hg hF hH hA hc

/-! summer: the two loops, the two calls of the law -/
section QS
variable {θ : Nat → Int32} {F : s_F}
theorem s_eqx_ok {e f : s_E} (hF : s_FO θ F) (h : s_eqx F e f = true) : s_ev θ e = s_ev θ f := by
  unfold s_eqx at h
  rw [s_if_iff, s_and_iff, s_and_iff] at h
  rcases h with ⟨h, -⟩ | ⟨-, h1, h2, h3⟩
  · rw [s_eqE_ok h]
  · have e1 := s_eqz_iff.mp h1
    have e2 := s_eqz_iff.mp h2
    have e3 := s_eqz_iff.mp h3
    have i1 := s_iv_ok (e := e) hF
    have i2 := s_iv_ok (e := f) hF
    apply Int32.toInt_inj.mp
    omega
theorem q_alle_ok (hF : s_FO θ F) : ∀ {l : List (s_E × s_E)}, q_alle F l = true → ∀ p ∈ l, s_ev θ p.1 = s_ev θ p.2 := by
  intro l
  induction l with
  | nil => intro _ p hp; cases hp
  | cons q r ih =>
    intro hg p hp
    have hg : s_and (s_eqx F q.1 q.2) (q_alle F r) = true := hg
    rw [s_and_iff] at hg
    rcases List.mem_cons.mp hp with rfl | hp
    · exact s_eqx_ok hF hg.1
    · exact ih hg.2 p hp
theorem s_th_two (ks : List (Nat × s_E × s_E)) (h : ∀ q ∈ ks, s_ev θ q.2.1 = s_ev θ q.2.2) : s_th θ (ks.map (fun q => (q.1, q.2.1))) = s_th θ (ks.map (fun q => (q.1, q.2.2))) := by
  funext k
  unfold s_th
  induction ks with
  | nil => rfl
  | cons q r ih =>
    simp only [List.map_cons, s_slk]
    cases hb : Nat.beq q.1 k with
    | true => exact h q (by simp)
    | false => exact ih (fun p hp => h p (by simp [hp]))
theorem q_back {h : p_H} (h0 : θ 30 = s_ev θ q_SX) (h1 : θ 31 = s_ev θ q_MX) (h2 : θ 32 = s_ev θ q_BX) (hh : s_hr θ (q_tV1 q_g8) h) : s_hr θ (q_tV q_g8) h := by
  have e : s_th θ q_ρ = θ := q_sth (fun q hq => by
    simp only [q_ρ, List.mem_cons, List.not_mem_nil, or_false] at hq
    rcases hq with rfl | rfl | rfl
    · exact h0.symm
    · exact h1.symm
    · exact h2.symm)
  obtain ⟨H', e1, e2⟩ := s_subHk_ok (θ := θ) (σ := q_ρ) (H := q_tV1 q_g8) (K := fun H => s_hle [] [] H (q_tV q_g8))
  have e3 := q_conv
  rw [e1] at e3
  have e4 := s_hle_ok (σ := []) (F := []) (fun f hf => by cases hf) (e2 h (by rw [e]; exact hh)) e3
  rw [s_th0] at e4
  exact e4
theorem q_cbody {G : s_F} {ls : p_Ls} {h : p_H} (hg : s_run s_X0 100000 55 q_KSC 50 m_X11_summer (fun _ _ _ => false) 61 G (q_tU q_g8) q_LC [] = true) (hG : s_FO θ G) (hP : s_FO θ q_FP) (h20 : (θ 20).toInt ≤ 2147483646) (hr : s_hr θ (q_tU q_g8) h) (hL : s_lr θ q_LC ls) :
    ∃ F H L, s_FO θ F ∧ q_unk F (q_P H) = true ∧ q_B F H L = true ∧ s_FO (s_th θ (q_σc H L)) (q_FP ++ q_FX) ∧ (s_th θ (q_σc H L) 20).toInt = (θ 20).toInt + 1 ∧ (∀ k, k < 16 → s_th θ (q_σc H L) k = θ k) ∧
      ∃ ls' h', s_hr (s_th θ (q_σc H L)) (q_tU q_g8) h' ∧ s_lr (s_th θ (q_σc H L)) q_LC ls' ∧ ∀ Q, p_wp p_GT p_MT 50 m_X11_summer 55 ls' [] h' Q → p_wp p_GT p_MT 50 m_X11_summer 61 ls [] h Q := by
  rcases s_run_ok s_X0_ok _ _ _ _ _ _ _ _ _ _ _ _ _ _ hg (show s_Rl θ G (q_tU q_g8) q_LC [] ls [] h from ⟨hG, hr, hL, trivial⟩) with ⟨F, H, a, v, h2, g1, -⟩ | ⟨F, H, L, S, ls', st', h', g1, g2, g3⟩
  · cases g1
  · unfold q_KSC at g1
    rw [s_and_iff, s_and_iff, s_and_iff] at g1
    obtain ⟨c1, c2, c3, c4⟩ := g1
    have g4 := s_mat_ok g2 c3
    obtain rfl := s_sr_nil g4.2.2.2
    unfold q_cnt at c1
    rw [s_and_iff] at c1
    have hlow := q_low (θ := θ) (σ := q_σc H L) c1.2
    obtain ⟨-, u1, u2, u3⟩ := q_unv_ok g2.1 hP c2
    refine ⟨F, H, L, g2.1, c2, c4, ?_, ?_, hlow, ls', h', g4.2.1, g4.2.2.1, g3⟩
    · intro f hf
      rcases List.mem_append.mp hf with hf | hf
      · simp only [q_FP, List.mem_cons, List.not_mem_nil, or_false] at hf
        rcases hf with rfl | rfl | rfl
        · exact u1
        · exact u2
        · exact u3
      · exact g4.1 f hf
    · have hc1 := c1.1
      cases hs : s_slk (q_σc H L) 20 with
      | none => rw [hs] at hc1; cases hc1
      | some x =>
        rw [hs] at hc1
        have hx := s_eqE_ok hc1
        have e2 : s_th θ (q_σc H L) 20 = θ 20 + 1 := by unfold s_th; rw [hs, hx]; rfl
        have := x_I32 (θ 20)
        rw [e2, x_add (by show _ ≤ (θ 20).toInt + 1; omega) (by show (θ 20).toInt + 1 ≤ _; omega)]
        rfl
theorem q_rbody {H : s_H} {L : s_L} {ls : p_Ls} {h : p_H} (hF : s_FO θ F) (hP : s_FO θ q_FP) (hu : q_unk F (q_P H) = true) (hB : q_B F H L = true) (hr : s_hr θ (q_tV q_g8) h) (hL : s_lr θ q_LR ls) :
    ∃ ls' h', s_hr (s_th θ (q_σc H L)) (q_tV q_g8) h' ∧ s_lr (s_th θ (q_σc H L)) q_LR ls' ∧ ∀ Q, p_wp p_GT p_MT 50 m_X12_summer 42 ls' [] h' Q → p_wp p_GT p_MT 50 m_X12_summer 47 ls [] h Q := by
  unfold q_B at hB
  rcases s_run_ok s_X0_ok _ _ _ _ _ _ _ _ _ _ _ _ _ _ hB (show s_Rl θ F (q_tV q_g8) q_LR [] ls [] h from ⟨hF, hr, hL, trivial⟩) with ⟨F', H', a, v, h2, g1, -⟩ | ⟨F', H', L', S', ls', st', h', g1, g2, g3⟩
  · cases g1
  · unfold q_KSR at g1
    rw [s_and_iff] at g1
    have g4 := s_mat_ok g2 g1.1
    obtain rfl := s_sr_nil g4.2.2.2
    have he := q_alle_ok g2.1 g1.2
    obtain ⟨⟨u1, u2, u3⟩, -⟩ := q_unv_ok hF hP hu
    have eq : s_th θ (q_σc H L) = s_th θ (q_σr H H' L') := by
      refine s_th_two (q_ks H L H' L') (fun q hq => ?_)
      simp only [q_ks, List.mem_cons, List.not_mem_nil, or_false] at hq
      rcases hq with rfl | rfl | rfl | rfl | rfl | rfl | rfl | rfl | rfl | rfl
      · exact he (q_vr L 4, q_vr L' 3) (List.mem_of_getElem? (i := 0) rfl)
      · exact he (q_at H 6 3, q_at H' 65 9) (List.mem_of_getElem? (i := 1) rfl)
      · exact he (q_at H 6 4, q_at H' 65 10) (List.mem_of_getElem? (i := 2) rfl)
      · exact he (q_at H 6 6, q_at H' 65 13) (List.mem_of_getElem? (i := 3) rfl)
      · rfl
      · exact he (q_at H 6 5, q_at H' 65 11) (List.mem_of_getElem? (i := 4) rfl)
      · exact he (q_at H 6 2, q_at H' 65 12) (List.mem_of_getElem? (i := 5) rfl)
      · exact u1.trans (he ((q_unv (q_P H)).1, q_at H' 65 20) (List.mem_of_getElem? (i := 6) rfl))
      · exact u2.trans (he ((q_unv (q_P H)).2.1, q_at H' 65 21) (List.mem_of_getElem? (i := 7) rfl))
      · exact u3.trans (he ((q_unv (q_P H)).2.2, q_at H' 65 22) (List.mem_of_getElem? (i := 8) rfl))
    rw [← eq] at g4
    exact ⟨ls', h', q_back rfl rfl rfl g4.2.1, g4.2.2.1, g3⟩
/-! the heads of the loops -/
theorem q_lv {L : s_L} {ls : p_Ls} {i k : Nat} (hL : s_lr θ L ls) (h : L[i]? = some (.inr (1, .branch 0 (.leaf (.ofNat k)) (.leaf (.ofNat 0))))) : p_lk i ls = some (.int (θ k)) := by
  obtain ⟨v, e1, e2⟩ := hL i _ h (by show (1 : Nat) ≠ 0; decide)
  have e2 : v = .int (θ k) := e2
  rw [e1, e2]
theorem q_ge {x y : Int32} : p_cd .ge x y = decide (y.toInt ≤ x.toInt) := by
  show decide (y ≤ x) = _
  rw [decide_eq_decide]
  exact Int32.le_iff_toInt_le
variable {ls : p_Ls} {h : p_H} {Q : Option Value → p_H → Prop}
theorem q_hdC (hL : s_lr θ q_LC ls) (hlt : (θ 20).toInt < (θ 10).toInt) (hk : p_wp p_GT p_MT 50 m_X11_summer 61 ls [] h Q) : p_wp p_GT p_MT 50 m_X11_summer 55 ls [] h Q := by
  refine p_wp.step (i := .iload 4) (len := 2) (pc' := 57) (ls' := ls) (st' := [.int (θ 20)]) (h' := h) (by decide +kernel) (s_pld (q_lv hL (i := 4) rfl)) ?_
  refine p_wp.step (i := .iload_n 2) (len := 1) (pc' := 58) (ls' := ls) (st' := [.int (θ 10), .int (θ 20)]) (h' := h) (by decide +kernel) (s_pld (q_lv hL (i := 2) rfl)) ?_
  refine p_wp.step (i := .if_icmp .ge 117) (len := 3) (pc' := 61) (ls' := ls) (st' := []) (h' := h) (by decide +kernel) ?_ hk
  show p_br (p_cd .ge (θ 20) (θ 10)) 58 117 ls [] h = _
  rw [q_ge, decide_eq_false (by omega)]
  rfl
theorem q_hdC2 (hL : s_lr θ q_LC ls) (hlt : ¬ (θ 20).toInt < (θ 10).toInt) (hk : p_wp p_GT p_MT 50 m_X11_summer 175 ls [] h Q) : p_wp p_GT p_MT 50 m_X11_summer 55 ls [] h Q := by
  refine p_wp.step (i := .iload 4) (len := 2) (pc' := 57) (ls' := ls) (st' := [.int (θ 20)]) (h' := h) (by decide +kernel) (s_pld (q_lv hL (i := 4) rfl)) ?_
  refine p_wp.step (i := .iload_n 2) (len := 1) (pc' := 58) (ls' := ls) (st' := [.int (θ 10), .int (θ 20)]) (h' := h) (by decide +kernel) (s_pld (q_lv hL (i := 2) rfl)) ?_
  refine p_wp.step (i := .if_icmp .ge 117) (len := 3) (pc' := 175) (ls' := ls) (st' := []) (h' := h) (by decide +kernel) ?_ hk
  show p_br (p_cd .ge (θ 20) (θ 10)) 58 117 ls [] h = _
  rw [q_ge, decide_eq_true (by omega)]
  rfl
theorem q_hdR (hL : s_lr θ q_LR ls) (hlt : (θ 20).toInt < (θ 10).toInt) (hk : p_wp p_GT p_MT 50 m_X12_summer 47 ls [] h Q) : p_wp p_GT p_MT 50 m_X12_summer 42 ls [] h Q := by
  refine p_wp.step (i := .iload_n 3) (len := 1) (pc' := 43) (ls' := ls) (st' := [.int (θ 20)]) (h' := h) (by decide +kernel) (s_pld (q_lv hL (i := 3) rfl)) ?_
  refine p_wp.step (i := .iload_n 2) (len := 1) (pc' := 44) (ls' := ls) (st' := [.int (θ 10), .int (θ 20)]) (h' := h) (by decide +kernel) (s_pld (q_lv hL (i := 2) rfl)) ?_
  refine p_wp.step (i := .if_icmp .ge 28) (len := 3) (pc' := 47) (ls' := ls) (st' := []) (h' := h) (by decide +kernel) ?_ hk
  show p_br (p_cd .ge (θ 20) (θ 10)) 44 28 ls [] h = _
  rw [q_ge, decide_eq_false (by omega)]
  rfl
theorem q_hdR2 (hL : s_lr θ q_LR ls) (hlt : ¬ (θ 20).toInt < (θ 10).toInt) (hk : p_wp p_GT p_MT 50 m_X12_summer 72 ls [] h Q) : p_wp p_GT p_MT 50 m_X12_summer 42 ls [] h Q := by
  refine p_wp.step (i := .iload_n 3) (len := 1) (pc' := 43) (ls' := ls) (st' := [.int (θ 20)]) (h' := h) (by decide +kernel) (s_pld (q_lv hL (i := 3) rfl)) ?_
  refine p_wp.step (i := .iload_n 2) (len := 1) (pc' := 44) (ls' := ls) (st' := [.int (θ 10), .int (θ 20)]) (h' := h) (by decide +kernel) (s_pld (q_lv hL (i := 2) rfl)) ?_
  refine p_wp.step (i := .if_icmp .ge 28) (len := 3) (pc' := 72) (ls' := ls) (st' := []) (h' := h) (by decide +kernel) ?_ hk
  show p_br (p_cd .ge (θ 20) (θ 10)) 44 28 ls [] h = _
  rw [q_ge, decide_eq_true (by omega)]
  rfl
/-- the answer is an unknown -/
theorem q_ans {k : Nat} {v : Option Value} (h : s_an θ (.inr (1, .branch 0 (.leaf (.ofNat k)) (.leaf (.ofNat 0)))) v) : v = some (.int (θ k)) := by
  cases v with
  | none => exact absurd (show (1 : Nat) = 8 from h) (by decide)
  | some w => have h2 : w = .int (θ k) := h.2; rw [h2]
end QS
/-- so many turns, as the class does them -/
def q_Ch : Nat → (Nat → Int32) → (Nat → Int32) → Prop
  | 0, θ, θe => θe = θ
  | k + 1, θ, θe => ∃ F H L, s_FO θ F ∧ s_FO θ q_FP ∧ q_unk F (q_P H) = true ∧ q_B F H L = true ∧ (s_th θ (q_σc H L) 20).toInt = (θ 20).toInt + 1 ∧ (∀ j, j < 16 → s_th θ (q_σc H L) j = θ j) ∧ q_Ch k (s_th θ (q_σc H L)) θe
theorem q_ph1 : ∀ (k : Nat) (θ : Nat → Int32) (ls : p_Ls) (h : p_H), (θ 10).toInt - (θ 20).toInt = k → s_FO θ (q_FP ++ q_FX) → s_hr θ (q_tU q_g8) h → s_lr θ q_LC ls →
    ∃ θe h2, q_Ch k θ θe ∧ s_hr θ (q_tA q_g8) h2 ∧ p_wp p_GT p_MT 50 m_X11_summer 55 ls [] h (fun v h' => v = some (.int (θe 27)) ∧ h' = h2) := by
  intro k
  induction k with
  | zero =>
    intro θ ls h hk hF hr hL
    rcases s_run_ok s_X0_ok _ _ _ _ _ _ _ _ _ _ _ _ _ _ q_suxC (show s_Rl θ [] (q_tU q_g8) q_LC [] ls [] h from ⟨(fun f hf => by cases hf), hr, hL, trivial⟩) with ⟨F, H, a, v, h2, g1, g2, g3, g4, g5⟩ | ⟨F, H, L, S, ls', st', h', g1, -⟩
    · obtain ⟨o, ho, k1, k2, k3⟩ := q_Ro_ok g2 g3 g4 g1
      rw [List.mem_singleton] at ho
      subst ho
      refine ⟨θ, h2, rfl, k2, q_hdC2 hL (by omega) (g5.mono (Nat.le_refl _) (fun v' h' e => ⟨by rw [e.1]; exact q_ans k3, e.2⟩))⟩
    · cases g1
  | succ k ih =>
    intro θ ls h hk hF hr hL
    have hP : s_FO θ q_FP := fun f hf => hF f (List.mem_append_left _ hf)
    have hX : s_FO θ q_FX := fun f hf => hF f (List.mem_append_right _ hf)
    have b24 : (0 : Int) ≤ (θ 24).toInt ∧ (θ 24).toInt ≤ 30292 := hX _ (List.mem_of_getElem? (i := 2) rfl)
    have b20 : (0 : Int) ≤ (θ 20).toInt ∧ (θ 20).toInt ≤ 40 := hX _ (List.mem_of_getElem? (i := 4) rfl)
    have b10 : (1 : Int) ≤ (θ 10).toInt ∧ (θ 10).toInt ≤ 40 := hX _ (List.mem_of_getElem? (i := 5) rfl)
    have bS : (0 : Int) ≤ (s_ev θ q_SX).toInt ∧ (s_ev θ q_SX).toInt ≤ 9 := hP _ (List.mem_of_getElem? (i := 0) rfl)
    have bM : (0 : Int) ≤ (s_ev θ q_MX).toInt ∧ (s_ev θ q_MX).toInt ≤ 100 := hP _ (List.mem_of_getElem? (i := 1) rfl)
    have bB : (0 : Int) ≤ (s_ev θ q_BX).toInt ∧ (s_ev θ q_BX).toInt ≤ 1 := hP _ (List.mem_of_getElem? (i := 2) rfl)
    have bE : (0 : Int) ≤ (s_ev θ q_E4).toInt ∧ (s_ev θ q_E4).toInt ≤ 3 := by
      show 0 ≤ (θ 24 - θ 24 / Int32.ofInt 4 * Int32.ofInt 4).toInt ∧ (θ 24 - θ 24 / Int32.ofInt 4 * Int32.ofInt 4).toInt ≤ 3
      rw [x_rem, show (Int32.ofInt 4).toInt = 4 by decide]
      have h1 := Int.tmod_nonneg (a := (θ 24).toInt) 4 b24.1
      have h2 := Int.tmod_lt_of_pos (θ 24).toInt (b := 4) (by decide)
      omega
    obtain ⟨a1, a2, b1, b2, c1, c2, e1, e2, e3, e4, e5, e6, hrun⟩ := q_su_all bE bS bM bB
    have hG : s_FO θ (q_Gr (s_ev θ q_E4).toInt a1 a2 b1 b2 c1 c2) := by
      intro f hf
      simp only [q_Gr, List.mem_cons] at hf
      rcases hf with rfl | rfl | rfl | rfl | hf
      · exact ⟨Int.le_refl _, Int.le_refl _⟩
      · exact ⟨e1, e2⟩
      · exact ⟨e3, e4⟩
      · exact ⟨e5, e6⟩
      · simp only [q_FB, List.mem_cons, List.not_mem_nil, or_false] at hf
        rcases hf with rfl | rfl | rfl | rfl | rfl | rfl
        · exact hX _ (List.mem_of_getElem? (i := 0) rfl)
        · exact hX _ (List.mem_of_getElem? (i := 1) rfl)
        · exact hX _ (List.mem_of_getElem? (i := 2) rfl)
        · exact hX _ (List.mem_of_getElem? (i := 3) rfl)
        · exact ⟨b20.1, by show (θ 20).toInt ≤ 39; omega⟩
        · exact hX _ (List.mem_of_getElem? (i := 5) rfl)
    obtain ⟨F, H, L, d1, d2, d3, d4, d5, d6, ls', h', d7, d8, d9⟩ := q_cbody hrun hG hP (by omega) hr hL
    obtain ⟨θe, h2, i1, i2, i3⟩ := ih (s_th θ (q_σc H L)) ls' h' (by rw [d6 10 (by decide), d5]; omega) d4 d7 d8
    exact ⟨θe, h2, ⟨F, H, L, d1, hP, d2, d3, d5, d6, i1⟩, s_agr d6 (by decide +kernel) i2, q_hdC hL (by omega) (d9 _ i3)⟩
theorem q_ph2 : ∀ (k : Nat) (θ θe : Nat → Int32) (ls : p_Ls) (h : p_H), (θ 10).toInt - (θ 20).toInt = k → q_Ch k θ θe → s_hr θ (q_tV q_g8) h → s_lr θ q_LR ls →
    ∃ h2, s_hr θ (q_tB q_g8) h2 ∧ p_wp p_GT p_MT 50 m_X12_summer 42 ls [] h (fun v h' => v = some (.int (θe 27)) ∧ h' = h2) := by
  intro k
  induction k with
  | zero =>
    intro θ θe ls h hk hc hr hL
    have hc : θe = θ := hc
    subst hc
    rcases s_run_ok s_X0_ok _ _ _ _ _ _ _ _ _ _ _ _ _ _ q_suxR (show s_Rl θe [] (q_tV q_g8) q_LR [] ls [] h from ⟨(fun f hf => by cases hf), hr, hL, trivial⟩) with ⟨F, H, a, v, h2, g1, g2, g3, g4, g5⟩ | ⟨F, H, L, S, ls', st', h', g1, -⟩
    · obtain ⟨o, ho, k1, k2, k3⟩ := q_Ro_ok g2 g3 g4 g1
      rw [List.mem_singleton] at ho
      subst ho
      exact ⟨h2, k2, q_hdR2 hL (by omega) (g5.mono (Nat.le_refl _) (fun v' h' e => ⟨by rw [e.1]; exact q_ans k3, e.2⟩))⟩
    · cases g1
  | succ k ih =>
    intro θ θe ls h hk hc hr hL
    obtain ⟨F, H, L, d1, hP, d2, d3, d5, d6, i1⟩ := hc
    obtain ⟨ls', h', d7, d8, d9⟩ := q_rbody d1 hP d2 d3 hr hL
    obtain ⟨h2, i2, i3⟩ := ih (s_th θ (q_σc H L)) θe ls' h' (by rw [d6 10 (by decide), d5]; omega) i1 d7 d8
    exact ⟨h2, s_agr d6 (by decide +kernel) i2, q_hdR hL (by omega) (d9 _ i3)⟩
theorem q_θ0 {θ : Nat → Int32} : (∀ k, k < 16 → s_th θ q_σ0 k = θ k) := q_low (by decide +kernel)
theorem q_sumC {θ : Nat → Int32} {ls : p_Ls} {h : p_H} (hr : s_Rl θ q_F0s (q_H0 q_g8) q_AC [] ls [] h) : ∃ θe h2, q_Ch (θ 10).toInt.toNat (s_th θ q_σ0) θe ∧ s_hr θ (q_tA q_g8) h2 ∧ p_wp p_GT p_MT 50 m_X11_summer 0 ls [] h (fun v h' => v = some (.int (θe 27)) ∧ h' = h2) := by
  have b10 : (1 : Int) ≤ (θ 10).toInt ∧ (θ 10).toInt ≤ 40 := hr.1 _ (List.mem_of_getElem? (i := 1) rfl)
  rcases s_top_ok s_X0_ok _ _ _ _ _ _ _ _ _ _ _ _ _ _ _ q_supC hr with ⟨F, H, a, v, h2, g1, -⟩ | ⟨F, H, L, S, ls', st', h', g1, g2, g3⟩
  · cases g1
  · have g4 := s_mat_ok g2 g1
    obtain rfl := s_sr_nil g4.2.2.2
    have hF : s_FO (s_th θ q_σ0) (q_FP ++ q_FX) := by
      intro f hf
      rcases List.mem_append.mp hf with hf | hf
      · simp only [q_FP, List.mem_cons, List.not_mem_nil, or_false] at hf
        rcases hf with rfl | rfl | rfl
        · show (0 : Int) ≤ (s_ov 4 (Int32.ofInt (.ofNat 0)) (Int32.ofInt (.ofNat 15))).toInt ∧ (s_ov 4 (Int32.ofInt (.ofNat 0)) (Int32.ofInt (.ofNat 15))).toInt ≤ 9
          decide
        · show (0 : Int) ≤ (s_ov 4 (s_ov 8 (Int32.ofInt (.ofNat 0)) (Int32.ofInt (.ofNat 4))) (Int32.ofInt (.ofNat 127))).toInt ∧ (s_ov 4 (s_ov 8 (Int32.ofInt (.ofNat 0)) (Int32.ofInt (.ofNat 4))) (Int32.ofInt (.ofNat 127))).toInt ≤ 100
          decide
        · show (0 : Int) ≤ (s_ov 8 (Int32.ofInt (.ofNat 0)) (Int32.ofInt (.ofNat 11))).toInt ∧ (s_ov 8 (Int32.ofInt (.ofNat 0)) (Int32.ofInt (.ofNat 11))).toInt ≤ 1
          decide
      · exact g4.1 f hf
    have e20 : (s_th θ q_σ0 20).toInt = 0 := by show (Int32.ofInt (.ofNat 0)).toInt = 0; decide
    obtain ⟨θe, h2, i1, i2, i3⟩ := q_ph1 (θ 10).toInt.toNat (s_th θ q_σ0) ls' h' (by rw [q_θ0 10 (by decide), e20]; omega) hF g4.2.1 g4.2.2.1
    exact ⟨θe, h2, i1, s_agr q_θ0 (by decide +kernel) i2, g3 _ i3⟩
theorem q_sumR {θ θe : Nat → Int32} {ls : p_Ls} {h : p_H} (hr : s_Rl θ q_F0s (q_tA q_g8) q_AR [] ls [] h) (hc : q_Ch (θ 10).toInt.toNat (s_th θ q_σ0) θe) : ∃ h2, s_hr θ (q_tB q_g8) h2 ∧ p_wp p_GT p_MT 50 m_X12_summer 0 ls [] h (fun v h' => v = some (.int (θe 27)) ∧ h' = h2) := by
  have b10 : (1 : Int) ≤ (θ 10).toInt ∧ (θ 10).toInt ≤ 40 := hr.1 _ (List.mem_of_getElem? (i := 1) rfl)
  rcases s_top_ok s_X0_ok _ _ _ _ _ _ _ _ _ _ _ _ _ _ _ q_supR hr with ⟨F, H, a, v, h2, g1, -⟩ | ⟨F, H, L, S, ls', st', h', g1, g2, g3⟩
  · cases g1
  · have g4 := s_mat_ok g2 g1
    obtain rfl := s_sr_nil g4.2.2.2
    have e20 : (s_th θ q_σ0 20).toInt = 0 := by show (Int32.ofInt (.ofNat 0)).toInt = 0; decide
    have hb : s_hr (s_th θ q_σ0) (q_tV q_g8) h' := by
      refine q_back ?_ ?_ ?_ g4.2.1
      · show Int32.ofInt (.ofNat 0) = s_ov 4 (Int32.ofInt (.ofNat 0)) (Int32.ofInt (.ofNat 15)); decide
      · show Int32.ofInt (.ofNat 0) = s_ov 4 (s_ov 8 (Int32.ofInt (.ofNat 0)) (Int32.ofInt (.ofNat 4))) (Int32.ofInt (.ofNat 127)); decide
      · show Int32.ofInt (.ofNat 0) = s_ov 8 (Int32.ofInt (.ofNat 0)) (Int32.ofInt (.ofNat 11)); decide
    obtain ⟨h2, i2, i3⟩ := q_ph2 (θ 10).toInt.toNat (s_th θ q_σ0) θe ls' h' (by rw [q_θ0 10 (by decide), e20]; omega) hc hb g4.2.2.1
    exact ⟨h2, s_agr q_θ0 (by decide +kernel) i2, g3 _ i3⟩

set_option maxRecDepth 100000 in
theorem q_c12_m : s_mat q_σ8 ((q_E0, .ofNat 12, .ofNat 12) :: [(.branch 0 (.leaf (.ofNat 1)) (.leaf (.ofNat 0)), .ofNat 0, .ofNat 9999), (.branch 0 (.leaf (.ofNat 2)) (.leaf (.ofNat 0)), .ofNat 1, .ofNat 40)]) (q_H0 q_g0) q_L0 [] [(.branch 4 (.branch 0 (.leaf (.ofNat 0)) (.leaf (.ofNat 0))) (.leaf (.ofNat 63)), .ofNat 12, .ofNat 12), (.branch 0 (.leaf (.ofNat 9)) (.leaf (.ofNat 0)), .ofNat 0, .ofNat 9999), (.branch 0 (.leaf (.ofNat 10)) (.leaf (.ofNat 0)), .ofNat 1, .ofNat 40)] (q_H0 q_g8) q_L0 [] = true := by decide +kernel
set_option maxRecDepth 100000 in
theorem q_c12_1 : s_top s_X0 100000 100000 651 (fun F H L S => s_mat [] F H L S q_F0s (q_H0 q_g8) q_L0 [.inr (1, (.branch 0 (.leaf (.ofNat 10)) (.leaf (.ofNat 0)))), .inr (1, (.branch 0 (.leaf (.ofNat 9)) (.leaf (.ofNat 0)))), .inr (18, .leaf 0)]) 100 m_L_law (fun _ _ _ => false) 18 [(.branch 4 (.branch 0 (.leaf (.ofNat 0)) (.leaf (.ofNat 0))) (.leaf (.ofNat 63)), .ofNat 12, .ofNat 12), (.branch 0 (.leaf (.ofNat 9)) (.leaf (.ofNat 0)), .ofNat 0, .ofNat 9999), (.branch 0 (.leaf (.ofNat 10)) (.leaf (.ofNat 0)), .ofNat 1, .ofNat 40)] (q_H0 q_g8) q_L0 [] = true := by decide +kernel
set_option maxRecDepth 100000 in
theorem q_c12_2 : s_top s_X0 100000 100000 665 (fun F H L S => s_mat [] F H L S q_F0s (q_tA q_g8) q_L0 [.inr (1, (.branch 0 (.leaf (.ofNat 10)) (.leaf (.ofNat 0)))), .inr (1, (.branch 0 (.leaf (.ofNat 9)) (.leaf (.ofNat 0)))), .inr (80, .leaf 0), .inr (1, (.branch 0 (.leaf (.ofNat 40)) (.leaf (.ofNat 0))))]) 100 m_L_law (fun _ _ _ => false) 654 q_F0s (q_tA q_g8) q_L0 [.inr (1, (.branch 0 (.leaf (.ofNat 40)) (.leaf (.ofNat 0))))] = true := by decide +kernel
set_option maxRecDepth 100000 in
theorem q_c12_3 : s_run s_X0 100000 99999 s_never 100 m_L_law q_R 668 q_F0s (q_tB q_g8) q_L0 [.inr (1, (.branch 0 (.leaf (.ofNat 40)) (.leaf (.ofNat 0)))), .inr (1, (.branch 0 (.leaf (.ofNat 40)) (.leaf (.ofNat 0))))] = true := by decide +kernel
set_option maxRecDepth 100000 in
theorem q_c12b_m : s_mat q_σ8 ((q_E0, .ofNat 12, .ofNat 12) :: [(.branch 0 (.leaf (.ofNat 1)) (.leaf (.ofNat 0)), .negSucc 2147483647, .negSucc 0), (.branch 0 (.leaf (.ofNat 2)) (.leaf (.ofNat 0)), .negSucc 2147483647, .ofNat 2147483647)]) (q_H0 q_g0) q_L0 [] [(.branch 4 (.branch 0 (.leaf (.ofNat 0)) (.leaf (.ofNat 0))) (.leaf (.ofNat 63)), .ofNat 12, .ofNat 12), (.branch 0 (.leaf (.ofNat 9)) (.leaf (.ofNat 0)), .negSucc 2147483647, .negSucc 0), (.branch 0 (.leaf (.ofNat 10)) (.leaf (.ofNat 0)), .negSucc 2147483647, .ofNat 2147483647)] (q_H0 q_g8) q_L0 [] = true := by decide +kernel
set_option maxRecDepth 100000 in
theorem q_c12b_g : s_run s_X0 100000 99999 s_never 100 m_L_law q_R 18 [(.branch 4 (.branch 0 (.leaf (.ofNat 0)) (.leaf (.ofNat 0))) (.leaf (.ofNat 63)), .ofNat 12, .ofNat 12), (.branch 0 (.leaf (.ofNat 9)) (.leaf (.ofNat 0)), .negSucc 2147483647, .negSucc 0), (.branch 0 (.leaf (.ofNat 10)) (.leaf (.ofNat 0)), .negSucc 2147483647, .ofNat 2147483647)] (q_H0 q_g8) q_L0 [] = true := by decide +kernel
set_option maxRecDepth 100000 in
theorem q_c12c_m : s_mat q_σ8 ((q_E0, .ofNat 12, .ofNat 12) :: [(.branch 0 (.leaf (.ofNat 1)) (.leaf (.ofNat 0)), .ofNat 10000, .ofNat 2147483647), (.branch 0 (.leaf (.ofNat 2)) (.leaf (.ofNat 0)), .negSucc 2147483647, .ofNat 2147483647)]) (q_H0 q_g0) q_L0 [] [(.branch 4 (.branch 0 (.leaf (.ofNat 0)) (.leaf (.ofNat 0))) (.leaf (.ofNat 63)), .ofNat 12, .ofNat 12), (.branch 0 (.leaf (.ofNat 9)) (.leaf (.ofNat 0)), .ofNat 10000, .ofNat 2147483647), (.branch 0 (.leaf (.ofNat 10)) (.leaf (.ofNat 0)), .negSucc 2147483647, .ofNat 2147483647)] (q_H0 q_g8) q_L0 [] = true := by decide +kernel
set_option maxRecDepth 100000 in
theorem q_c12c_g : s_run s_X0 100000 99999 s_never 100 m_L_law q_R 18 [(.branch 4 (.branch 0 (.leaf (.ofNat 0)) (.leaf (.ofNat 0))) (.leaf (.ofNat 63)), .ofNat 12, .ofNat 12), (.branch 0 (.leaf (.ofNat 9)) (.leaf (.ofNat 0)), .ofNat 10000, .ofNat 2147483647), (.branch 0 (.leaf (.ofNat 10)) (.leaf (.ofNat 0)), .negSucc 2147483647, .ofNat 2147483647)] (q_H0 q_g8) q_L0 [] = true := by decide +kernel
set_option maxRecDepth 100000 in
theorem q_c12d_m : s_mat q_σ8 ((q_E0, .ofNat 12, .ofNat 12) :: [(.branch 0 (.leaf (.ofNat 1)) (.leaf (.ofNat 0)), .ofNat 0, .ofNat 9999), (.branch 0 (.leaf (.ofNat 2)) (.leaf (.ofNat 0)), .negSucc 2147483647, .ofNat 0)]) (q_H0 q_g0) q_L0 [] [(.branch 4 (.branch 0 (.leaf (.ofNat 0)) (.leaf (.ofNat 0))) (.leaf (.ofNat 63)), .ofNat 12, .ofNat 12), (.branch 0 (.leaf (.ofNat 9)) (.leaf (.ofNat 0)), .ofNat 0, .ofNat 9999), (.branch 0 (.leaf (.ofNat 10)) (.leaf (.ofNat 0)), .negSucc 2147483647, .ofNat 0)] (q_H0 q_g8) q_L0 [] = true := by decide +kernel
set_option maxRecDepth 100000 in
theorem q_c12d_g : s_run s_X0 100000 99999 s_never 100 m_L_law q_R 18 [(.branch 4 (.branch 0 (.leaf (.ofNat 0)) (.leaf (.ofNat 0))) (.leaf (.ofNat 63)), .ofNat 12, .ofNat 12), (.branch 0 (.leaf (.ofNat 9)) (.leaf (.ofNat 0)), .ofNat 0, .ofNat 9999), (.branch 0 (.leaf (.ofNat 10)) (.leaf (.ofNat 0)), .negSucc 2147483647, .ofNat 0)] (q_H0 q_g8) q_L0 [] = true := by decide +kernel
set_option maxRecDepth 100000 in
theorem q_c12e_m : s_mat q_σ8 ((q_E0, .ofNat 12, .ofNat 12) :: [(.branch 0 (.leaf (.ofNat 1)) (.leaf (.ofNat 0)), .ofNat 0, .ofNat 9999), (.branch 0 (.leaf (.ofNat 2)) (.leaf (.ofNat 0)), .ofNat 41, .ofNat 2147483647)]) (q_H0 q_g0) q_L0 [] [(.branch 4 (.branch 0 (.leaf (.ofNat 0)) (.leaf (.ofNat 0))) (.leaf (.ofNat 63)), .ofNat 12, .ofNat 12), (.branch 0 (.leaf (.ofNat 9)) (.leaf (.ofNat 0)), .ofNat 0, .ofNat 9999), (.branch 0 (.leaf (.ofNat 10)) (.leaf (.ofNat 0)), .ofNat 41, .ofNat 2147483647)] (q_H0 q_g8) q_L0 [] = true := by decide +kernel
set_option maxRecDepth 100000 in
theorem q_c12e_g : s_run s_X0 100000 99999 s_never 100 m_L_law q_R 18 [(.branch 4 (.branch 0 (.leaf (.ofNat 0)) (.leaf (.ofNat 0))) (.leaf (.ofNat 63)), .ofNat 12, .ofNat 12), (.branch 0 (.leaf (.ofNat 9)) (.leaf (.ofNat 0)), .ofNat 0, .ofNat 9999), (.branch 0 (.leaf (.ofNat 10)) (.leaf (.ofNat 0)), .ofNat 41, .ofNat 2147483647)] (q_H0 q_g8) q_L0 [] = true := by decide +kernel
theorem q_ar3 {θ : Nat → Int32} {a b c : s_V} {u v w : Value} (ha : s_one (s_t a) = true) (hb : s_one (s_t b) = true) (hc : s_one (s_t c) = true) (h1 : s_v θ a u) (h2 : s_v θ b v) (h3 : s_v θ c w) : s_lr θ [a, b, c] (lv_args 0 [u, v, w]) :=
  s_lr0 (Or.inl ⟨a, _, rfl, ha, h1, Or.inl ⟨b, _, rfl, hb, h2, Or.inl ⟨c, _, rfl, hc, h3, rfl⟩⟩⟩)
/-- a virtual call with three values -/
theorem q_v3 {M : p_M} {x m a ci pc : Nat} {M' : p_M} {ls : p_Ls} {u v : Value} {rest : List Value} {h : p_H} {vs : List Value} (e12 : p_pk x 12 M.2.2.2.2.2.1 = none) (e9 : p_pk x 9 M.2.2.2.2.2.1 = some (m, 3)) (hM : p_MT[m]? = some M') (hci : M'.2.2.2.2.2.2.2 = ci) (hh : h[a]? = some (0, ci, vs)) (hc : p_cat rest ≤ 9) : p_step p_GT p_MT M (.invokevirtual x) pc ls (v :: u :: .ref a :: rest) h = some (.inr (.inr (m, [.ref a, u, v], rest))) := by
  have hi : p_inv 9 M.2.2.2.2.2.1 x (v :: u :: .ref a :: rest) = some (.inr (.inr (m, [.ref a, u, v], rest))) := by
    simp only [p_inv, e9]
    rw [if_pos ⟨by show 3 ≤ (v :: u :: Value.ref a :: rest).length; simp, hc⟩]
    rfl
  show p_vir p_MT M.2.2.2.2.2.1 x (pc + 3) ls (v :: u :: .ref a :: rest) h = _
  simp only [p_vir, e12, p_invv, hi, hM, hh]
  rw [if_pos (by rw [hci]; exact Nat.beq_refl ci)]
theorem q_sum12 {xs : List Int32} (hl : xs.length = 7) (hk : (xs.getD 0 0 &&& 63).toInt = 12) (a1 : 0 ≤ (q_th xs 1).toInt) (a2 : (q_th xs 1).toInt ≤ 9999) (a3 : 1 ≤ (q_th xs 2).toInt) (a4 : (q_th xs 2).toInt ≤ 40) : p_wp p_GT p_MT 100 m_L_law 0 [(0, .ref 0)] [] (p_h0 xs) q_Q := by
  obtain ⟨ls, h, h1, h2⟩ := q_con_ok hl (q_Θ_th (xs := xs))
  refine h2 _ ?_
  have h3 : s_Rl (q_th xs) ((q_E0, .ofNat 12, .ofNat 12) :: [(.branch 0 (.leaf (.ofNat 1)) (.leaf (.ofNat 0)), .ofNat 0, .ofNat 9999), (.branch 0 (.leaf (.ofNat 2)) (.leaf (.ofNat 0)), .ofNat 1, .ofNat 40)]) (q_H0 q_g0) q_L0 [] ls [] h := by
    refine ⟨fun f hf => ?_, h1.2⟩
    rcases List.mem_cons.mp hf with rfl | hf
    · show (12 : Int) ≤ (s_ev _ q_E0).toInt ∧ (s_ev _ q_E0).toInt ≤ 12
      rw [q_F0 q_Θ_th, hk]
      exact ⟨Int.le_refl _, Int.le_refl _⟩
    · exact q_F2 a1 a2 a3 a4 f hf
  have h4 := s_mat_ok h3 q_c12_m
  rw [q_sth q_σ8_ok] at h4
  rcases s_top_ok s_X0_ok _ _ _ _ _ _ _ _ _ _ _ _ _ _ _ q_c12_1 h4 with ⟨F, H, a, v, h5, g1, -⟩ | ⟨F, H, L, S, ls1, st1, h1', g1, g2, g3⟩
  · cases g1
  have g4 := s_mat_ok g2 g1
  rw [s_th0] at g4
  refine g3 _ ?_
  obtain ⟨v1, V1, rfl, b1, c1⟩ := s_sr_cons g4.2.2.2
  obtain ⟨v2, V2, rfl, b2, c2⟩ := s_sr_cons c1
  obtain ⟨v3, V3, rfl, b3, c3⟩ := s_sr_cons c2
  obtain rfl := s_sr_nil c3
  have e3 : v3 = .ref 2 := b3.2
  obtain ⟨d, k1, k2⟩ := g4.2.1.2.2 2 (by decide +kernel)
  obtain ⟨d1, d2, d3⟩ := d
  have k3 : d1 = 0 := k2.1
  have k4 : d2 = 11 := k2.2.1
  subst k3 k4 e3
  obtain ⟨θe, hC, m1, m2, m3⟩ := q_sumC (θ := q_th xs) (ls := lv_args 0 [.ref 2, v2, v1]) (h := h1') ⟨g4.1, g4.2.1, q_ar3 (by decide +kernel) (by decide +kernel) (by decide +kernel) b3.2 b2.2 b1.2, trivial⟩
  have w1 : v1.category = 1 := by rw [show v1 = .int _ from b1.2]; rfl
  have w2 : v2.category = 1 := by rw [show v2 = .int _ from b2.2]; rfl
  refine p_wp.call (i := .invokevirtual 69) (len := 3) (m := 115) (dc := 50) (as := [.ref 2, v2, v1]) (rest := []) (M' := m_X11_summer) (by decide +kernel) (q_v3 (by decide +kernel) (by decide +kernel) rfl rfl k1 (by decide)) rfl (by show (Value.ref 2).category + (v2.category + (v1.category + 0)) ≤ 7; rw [w1, w2]; decide) (by decide) m3 ?_
  intro v hh ⟨hv, hhC⟩
  subst hv hhC
  -- the reference
  let θ2 : Nat → Int32 := fun k => if k = 40 then θe 27 else q_th xs k
  have hθ2 : ∀ k, k < 16 → q_th xs k = θ2 k := fun k hk => by show _ = if k = 40 then _ else _; rw [if_neg (by omega)]
  have m2' : s_hr θ2 (q_tA q_g8) hh := s_agr hθ2 (by decide +kernel) m2
  have hF2 : s_FO θ2 q_F0s := by
    have : s_FO (q_th xs) q_F0s := g4.1
    intro f hf
    have h6 := this f hf
    simp only [q_F0s, List.mem_cons, List.not_mem_nil, or_false] at hf
    rcases hf with rfl | rfl
    · exact h6
    · exact h6
  have hL2 : s_lr θ2 q_L0 ls1 := by
    intro i w hi h0
    obtain ⟨u, u1, u2⟩ := g4.2.2.1 i w hi h0
    refine ⟨u, u1, s_kV_ok hθ2 ?_ u2⟩
    match i, hi with
    | 0, hi => cases hi; decide +kernel
    | 1, hi => cases hi; decide +kernel
    | 2, hi => cases hi; decide +kernel
    | 3, hi => cases hi; decide +kernel
    | i + 4, hi => simp [q_L0] at hi
  rcases s_top_ok s_X0_ok _ _ _ _ _ _ _ _ _ _ _ _ _ _ _ q_c12_2 (show s_Rl θ2 q_F0s (q_tA q_g8) q_L0 [.inr (1, .branch 0 (.leaf (.ofNat 40)) (.leaf (.ofNat 0)))] ls1 [.int (θe 27)] hh from ⟨hF2, m2', hL2, ⟨by show (1 : Nat) ≠ 0; decide, rfl⟩, trivial⟩) with ⟨F, H, a, v, h5, g1, -⟩ | ⟨F, H, L, S, ls3, st3, h3', g1, g5, g6⟩
  · cases g1
  have g7 := s_mat_ok g5 g1
  rw [s_th0] at g7
  refine g6 _ ?_
  obtain ⟨v4, V4, rfl, b4, c4⟩ := s_sr_cons g7.2.2.2
  obtain ⟨v5, V5, rfl, b5, c5⟩ := s_sr_cons c4
  obtain ⟨v6, V6, rfl, b6, c6⟩ := s_sr_cons c5
  obtain ⟨v7, V7, rfl, b7, c7⟩ := s_sr_cons c6
  obtain rfl := s_sr_nil c7
  have e6 : v6 = .ref 64 := b6.2
  obtain ⟨d, k5, k6⟩ := g7.2.1.2.2 64 (by decide +kernel)
  obtain ⟨d1, d2, d4⟩ := d
  have k7 : d1 = 0 := k6.1
  have k8 : d2 = 12 := k6.2.1
  subst k7 k8 e6
  have hθ3 : ∀ k, k < 16 → θ2 k = q_th xs k := fun k hk => (hθ2 k hk).symm
  obtain ⟨hR, m5, m6⟩ := q_sumR (θ := q_th xs) (ls := lv_args 0 [.ref 64, v5, v4]) (h := h3') ⟨g4.1, s_agr hθ3 (by decide +kernel) g7.2.1, q_ar3 (by decide +kernel) (by decide +kernel) (by decide +kernel) rfl (s_kV_ok hθ3 (by decide +kernel) b5.2) (s_kV_ok hθ3 (by decide +kernel) b4.2), trivial⟩ m1
  have w4 : v4.category = 1 := by rw [show v4 = .int _ from b4.2]; rfl
  have w5 : v5.category = 1 := by rw [show v5 = .int _ from b5.2]; rfl
  have w7 : v7.category = 1 := by rw [show v7 = .int _ from b7.2]; rfl
  refine p_wp.call (i := .invokevirtual 72) (len := 3) (m := 279) (dc := 50) (as := [.ref 64, v5, v4]) (rest := [v7]) (M' := m_X12_summer) (by decide +kernel) (q_v3 (by decide +kernel) (by decide +kernel) rfl rfl k5 (by show v7.category + 0 ≤ 9; rw [w7]; decide)) rfl (by show (Value.ref 64).category + (v5.category + (v4.category + 0)) ≤ 5; rw [w4, w5]; decide) (by decide) m6 ?_
  intro v hh ⟨hv, hhR⟩
  subst hv hhR
  refine q_end (θ := θ2) s_X0_ok q_c12_3 ⟨hF2, s_agr hθ2 (by decide +kernel) m5, g7.2.2.1, ?_, b7, trivial⟩
  exact ⟨by show (1 : Nat) ≠ 0; decide, rfl⟩

theorem q_ok12 : q_Ok 12 := by
  intro xs hl hk
  have b1 := x_I32 (q_th xs 1)
  have b2 := x_I32 (q_th xs 2)
  by_cases h1 : (q_th xs 1).toInt < 0
  · exact q_caseX hl hk s_X0_ok (q_F2 (by show (-2147483648 : Int) ≤ _; omega) (by show _ ≤ (-1 : Int); omega) (by show (-2147483648 : Int) ≤ _; omega) (by show _ ≤ (2147483647 : Int); omega)) q_c12b_m q_c12b_g
  by_cases h2 : 9999 < (q_th xs 1).toInt
  · exact q_caseX hl hk s_X0_ok (q_F2 (by show (10000 : Int) ≤ _; omega) (by show _ ≤ (2147483647 : Int); omega) (by show (-2147483648 : Int) ≤ _; omega) (by show _ ≤ (2147483647 : Int); omega)) q_c12c_m q_c12c_g
  by_cases h3 : (q_th xs 2).toInt < 1
  · exact q_caseX hl hk s_X0_ok (q_F2 (by show (0 : Int) ≤ _; omega) (by show _ ≤ (9999 : Int); omega) (by show (-2147483648 : Int) ≤ _; omega) (by show _ ≤ (0 : Int); omega)) q_c12d_m q_c12d_g
  by_cases h4 : 40 < (q_th xs 2).toInt
  · exact q_caseX hl hk s_X0_ok (q_F2 (by show (0 : Int) ≤ _; omega) (by show _ ≤ (9999 : Int); omega) (by show (41 : Int) ≤ _; omega) (by show _ ≤ (2147483647 : Int); omega)) q_c12e_m q_c12e_g
  exact q_sum12 hl hk (by omega) (by omega) (by omega) (by omega)

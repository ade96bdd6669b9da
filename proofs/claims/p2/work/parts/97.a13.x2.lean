section X2
variable {s s1 s' : d_S} {t : Nat → Option p_C} {b : Nat → Nat} {n p q u : Nat} {C : Nat → Nat × Nat} {so d : Nat} {sv : Bool} {g : d_G}
def k_S (b : Nat → Nat) (n p u : Nat) (C : Nat → Nat × Nat) (so : Nat) (sv : Bool) (s : d_S) : Prop := k_T b n p s ∧ (s.1 43 15 = (u : Int) ∧ s.1 43 16 = (so : Int) ∧ s.1 43 17 = (if sv = true then 1 else 0)) ∧ u ≤ 600 ∧ ∀ k, k < u → s.1 46 k = ((16 * (C k).2 + (C k).1 : Nat) : Int) ∧ (C k).1 < 16 ∧ (C k).2 < 20000
def k_h (L : List Nat) (s s' : d_S) : Prop := (∀ k, k ∉ L → s'.1 43 k = s.1 43 k) ∧ (∀ a, a ≠ 43 → a ≠ 46 → s'.1 a = s.1 a) ∧ s'.2 = s.2
theorem k_h.rf {L : List Nat} : k_h L s s := ⟨fun _ _ => rfl, fun _ _ _ => rfl, rfl⟩
theorem k_h.tr {L : List Nat} (h : k_h L s s1) (h' : k_h L s1 s') : k_h L s s' := ⟨fun a z => (h'.1 a z).trans (h.1 a z), fun a y z => (h'.2.1 a y z).trans (h.2.1 a y z), h'.2.2.trans h.2.2⟩
theorem k_h.mono {L M : List Nat} (h : k_h L s s1) (hm : ∀ a, a ∈ L → a ∈ M) : k_h M s s1 := ⟨fun a z => h.1 a (fun y => z (hm a y)), h.2⟩
theorem k_f.h {L : List Nat} (h : k_f L s s1) : k_h L s s1 := ⟨h.1, fun a y _ => h.2.1 a y, h.2.2⟩
theorem k_h.B {L : List Nat} (h : k_B b n s) (h' : k_h L s s') (h1 : 1 ∉ L) : k_B b n s' := by
  obtain ⟨a1, a2, a3, a4⟩ := h
  exact ⟨by rw [h'.1 1 h1]; exact a1, a2, fun i hi => by rw [h'.2.1 44 (by decide) (by decide)]; exact a3 i hi, a4⟩
theorem k_h.T {L : List Nat} (h : k_T b n p s) (h' : k_h L s s') (h1 : 1 ∉ L ∧ 4 ∉ L ∧ 5 ∉ L ∧ 6 ∉ L ∧ 7 ∉ L) : k_T b n p s' := by
  obtain ⟨a1, ⟨a4, a5, a6⟩, a7⟩ := h
  refine ⟨k_h.B a1 h' h1.1, ⟨by rw [h'.1 4 h1.2.1]; exact a4, by rw [h'.1 5 h1.2.2.1]; exact a5, by rw [h'.1 6 h1.2.2.2.1]; exact a6⟩, ?_⟩
  rw [h'.1 7 h1.2.2.2.2]
  exact a7
theorem k_or16 {w e : Nat} (he : e < 16) (hw : w < 20000) : d_or (d_shl (w : Int) 4) (e : Int) = ((16 * w + e : Nat) : Int) := by
  have h1 : d_shl (w : Int) 4 = ((w * 2 ^ 4 : Nat) : Int) := v_shl (k := 4) (by decide) (by omega)
  rw [h1, v_or (by omega) (by omega)]
  have := Nat.two_pow_add_eq_or_of_lt (i := 4) he w
  have e2 : w * 2 ^ 4 ||| e = 16 * w + e := by
    rw [Nat.mul_comm, ← this]
  rw [e2]
theorem P_make (h : k_S b n p u C so sv s) (hu : u < 600) {e w : Nat} (he : e < 16) (hw : w < 20000) : ∃ s', F_X3_make s (e : Int) (w : Int) = some (1, s') ∧ k_S b n p (u + 1) (c_up C u (e, w)) so sv s' ∧ k_h [15] s s' := by
  obtain ⟨hT, ⟨a15, a16, a17⟩, a600, hC⟩ := h
  obtain ⟨s2, hs2⟩ : ∃ z, z = d_si s 46 u ((16 * w + e : Nat) : Int) := ⟨_, rfl⟩
  obtain ⟨s3, hs3⟩ : ∃ z, z = d_si s2 43 15 ((u : Int) + 1) := ⟨_, rfl⟩
  have e43 : ∀ k, k ≠ 15 → s3.1 43 k = s.1 43 k := fun k hk => by rw [hs3, d_si_i, d_u_n hk, hs2, d_si_n (by decide)]
  have f : k_h [15] s s3 := ⟨fun k hk => e43 k (fun z => hk (by rw [z]; decide)), fun a h1 h2 => by rw [hs3, d_si_n h1, hs2, d_si_n h2], by rw [hs3, hs2]; rfl⟩
  refine ⟨s3, ?_, ⟨k_h.T hT f (by decide), ⟨by rw [hs3, d_si_i, d_u_t]; rfl, by rw [e43 16 (by decide)]; exact a16, by rw [e43 17 (by decide)]; exact a17⟩, by omega, fun k hk => ?_⟩, f⟩
  · unfold F_X3_make
    rw [a15, if_pos (by omega), d_g_t (by omega), d_l_t, Int.toNat_natCast, k_or16 he hw, ← hs2, d_l_t, show s2.1 43 15 = s.1 43 15 by rw [hs2, d_si_n (by decide)], a15, d_w_id (by omega) (by omega), ← hs3]
  · have e46 : s3.1 46 k = d_u (s.1 46) u ((16 * w + e : Nat) : Int) k := by rw [hs3, d_si_n (by decide), hs2, d_si_i]
    rw [e46]
    by_cases z : k = u
    · subst z; rw [d_u_t, c_up_at]; exact ⟨rfl, he, hw⟩
    · rw [d_u_n z, c_up_ne (by omega)]; exact hC k (by omega)
theorem P_lead (h : k_S b n p u C so sv s) {j to : Nat} (hj : j < u) (hto : to < 20000) : ∃ s', F_X3_lead s (j : Int) (to : Int) = some s' ∧ k_S b n p u (c_up C j ((C j).1, to)) so sv s' ∧ k_h [] s s' := by
  obtain ⟨hT, ⟨a15, a16, a17⟩, a600, hC⟩ := h
  obtain ⟨c1, c2, c3⟩ := hC j hj
  obtain ⟨s2, hs2⟩ : ∃ z, z = d_si s 46 j ((16 * to + (C j).1 : Nat) : Int) := ⟨_, rfl⟩
  have f : k_h [] s s2 := ⟨fun k _ => by rw [hs2, d_si_n (by decide)], fun a _ h2 => by rw [hs2, d_si_n h2], by rw [hs2]; rfl⟩
  have ea : d_and ((16 * (C j).2 + (C j).1 : Nat) : Int) 15 = (((C j).1 : Nat) : Int) := by
    rw [v_and15 (by omega), show (16 * (C j).2 + (C j).1) % 16 = (C j).1 by omega]
  refine ⟨s2, ?_, ⟨k_h.T hT f (by decide), ⟨by rw [f.1 15 (by decide)]; exact a15, by rw [f.1 16 (by decide)]; exact a16, by rw [f.1 17 (by decide)]; exact a17⟩, a600, fun k hk => ?_⟩, f⟩
  · unfold F_X3_lead
    rw [a15, P_within, d_b_t, d_w_id (x := (u : Int) - 1) (by omega) (by omega), v_bt (by omega), if_neg (by decide), if_pos (by omega), d_g_t (by omega), d_g_t (by omega), d_l_t, Int.toNat_natCast, c1, ea, k_or16 c2 hto, ← hs2]
  · have e46 : s2.1 46 k = d_u (s.1 46) j ((16 * to + (C j).1 : Nat) : Int) k := by rw [hs2, d_si_i]
    rw [e46]
    by_cases z : k = j
    · subst z; rw [d_u_t, c_up_at]; exact ⟨rfl, c2, hto⟩
    · rw [d_u_n z, c_up_ne (by omega)]; exact hC k hk
theorem P_closel : ∀ (L : List Nat) (o i m : Nat) (C : Nat → Nat × Nat) (s : d_S), i + L.length ≤ 6 → L.length < m → k_S b n p u C so sv s → c_ch C u o L → ∃ s', F_X3_closeJumps_l4 m ((o : Int) - 1) (i : Int) s = some s' ∧ k_S b n p u (c_to C L u) so sv s' ∧ k_h [] s s' := by
  intro L
  induction L with
  | nil =>
    intro o i m C s hi hm h hc
    obtain ⟨m, rfl⟩ : ∃ w, m = w + 1 := ⟨m - 1, by omega⟩
    have hc : o = 0 := hc
    subst hc
    refine ⟨s, ?_, by rw [c_to_nil]; exact h, k_h.rf⟩
    show F_X3_closeJumps_l4_b (F_X3_closeJumps_l4 m) _ _ s = _
    unfold F_X3_closeJumps_l4_b
    rw [P_within, d_b_t, v_bf (by omega), if_pos rfl]
    split <;> rfl
  | cons j L ih =>
    intro o i m C s hi hm h hc
    obtain ⟨m, rfl⟩ : ∃ w, m = w + 1 := ⟨m - 1, by rw [List.length_cons] at hm; omega⟩
    rw [List.length_cons] at hi hm
    obtain ⟨rfl, h2, h3, h4, h5⟩ := hc
    have h600 := h.2.2.1
    obtain ⟨c1, c2, c3⟩ := h.2.2.2 j h2
    obtain ⟨s1, a1, a2, a3⟩ := P_lead h h2 (to := u) (by omega)
    have h15 : s.1 43 15 = (u : Int) := h.2.1.1
    obtain ⟨s', b1, b2, b3⟩ := ih (C j).2 (i + 1) m (c_up C j ((C j).1, u)) s1 (by omega) (by omega) a2 (c_ch_cong (Nat.le_refl _) h5 (fun k hk => c_up_ne (by have := h4 k hk; omega)))
    refine ⟨s', ?_, by rw [← c_to_cons h3 h4]; exact b2, a3.tr b3⟩
    show F_X3_closeJumps_l4_b (F_X3_closeJumps_l4 m) _ _ s = _
    unfold F_X3_closeJumps_l4_b
    have ej : ((j + 1 : Nat) : Int) - 1 = (j : Int) := by omega
    have es : d_shr ((16 * (C j).2 + (C j).1 : Nat) : Int) 4 = (((C j).2 : Nat) : Int) := by
      rw [v_sh4 (by omega), show (16 * (C j).2 + (C j).1) / 16 = (C j).2 by omega]
    rw [ej, if_pos (by omega), h15, P_within, d_b_t, d_w_id (x := (u : Int) - 1) (by omega) (by omega), v_bt (by omega), if_neg (by decide), if_pos (by omega), d_g_t (by omega), d_l_t, Int.toNat_natCast, c1, es, a1, d_b_t, d_w_id (x := (((C j).2 : Nat) : Int) - 1) (by omega) (by omega), d_w_id (x := (i : Int) + 1) (by omega) (by omega)]
    exact b1
theorem P_close {L : List Nat} {o : Nat} (h : k_S b n p u C so sv s) (hc : c_ch C u o L) (hl : L.length ≤ 6) : ∃ s', F_X3_closeJumps s ((o : Int) - 1) = some s' ∧ k_S b n p u (c_to C L u) so sv s' ∧ k_h [] s s' := P_closel L o 0 d_N C s (by omega) (by rw [d_N_is]; omega) h hc
theorem P_wrong {f : Int} (h : s.1 43 5 = (p : Int)) : ∃ s', F_X3_wrong s f = some (0, s') ∧ s'.1 43 2 = f ∧ s'.1 43 3 = (p : Int) ∧ k_f [2, 3] s s' := by
  unfold F_X3_wrong
  refine ⟨_, rfl, ?_, ?_, (k_f.si (by decide)).tr (k_f.si (by decide))⟩
  · rw [d_si_i, d_u_n (by decide), d_si_i, d_u_t]
  · rw [d_si_i, d_u_t, d_si_i, d_u_n (by decide)]; exact h
theorem k_S.T (h : k_S b n p u C so sv s) (hf : k_f [4, 5, 6, 7] s s') (hT : k_T b n q s') : k_S b n q u C so sv s' := by
  obtain ⟨-, ⟨a15, a16, a17⟩, a600, hC⟩ := h
  exact ⟨hT, ⟨by rw [hf.1 15 (by decide)]; exact a15, by rw [hf.1 16 (by decide)]; exact a16, by rw [hf.1 17 (by decide)]; exact a17⟩, a600, fun k hk => by rw [hf.2.1 46 (by decide)]; exact hC k hk⟩
theorem P_takeSign (hW : k_wds t) (h : k_T b n p s) (hp : p ≤ n) {c : Nat} : (t_is b n p c = true ∧ ∃ s', F_X3_takeSign t s (c : Int) = some (1, s') ∧ k_T b n (t_x b n p) s' ∧ k_f [4, 5, 6, 7] s s') ∨ (t_is b n p c = false ∧ ∃ s', F_X3_takeSign t s (c : Int) = some (0, s') ∧ s'.1 43 2 = 1 ∧ s'.1 43 3 = (p : Int) ∧ k_f [2, 3] s s') := by
  unfold F_X3_takeSign
  rw [P_isSign h, d_b_t]
  by_cases q : t_is b n p c = true
  · obtain ⟨s', a1, a2, a3⟩ := P_step hW h hp
    exact Or.inl ⟨q, s', by rw [v_bt q, if_neg (by decide), a1, d_b_t], a2, a3⟩
  · obtain ⟨s', a1, a2, a3, a4⟩ := P_wrong (s := s) (p := p) (f := 1) h.2.1.2.1
    exact Or.inr ⟨Bool.eq_false_iff.mpr q, s', by rw [v_bf q, if_pos rfl, a1, d_b2_t], a2, a3, a4⟩
theorem P_takeWord (hW : k_wds t) (h : k_T b n p s) (hp : p ≤ n) {k : Nat} (hk : k < 22) : (t_wd b n p k = true ∧ ∃ s', F_X3_takeWord t s (k : Int) = some (1, s') ∧ k_T b n (t_x b n p) s' ∧ k_f [4, 5, 6, 7] s s') ∨ (t_wd b n p k = false ∧ ∃ s', F_X3_takeWord t s (k : Int) = some (0, s') ∧ s'.1 43 2 = 1 ∧ s'.1 43 3 = (p : Int) ∧ k_f [2, 3] s s') := by
  unfold F_X3_takeWord
  rw [P_isWord h hp hk, d_b_t]
  by_cases q : t_wd b n p k = true
  · obtain ⟨s', a1, a2, a3⟩ := P_step hW h hp
    exact Or.inl ⟨q, s', by rw [v_bt q, if_neg (by decide), a1, d_b_t], a2, a3⟩
  · obtain ⟨s', a1, a2, a3, a4⟩ := P_wrong (s := s) (p := p) (f := 1) h.2.1.2.1
    exact Or.inr ⟨Bool.eq_false_iff.mpr q, s', by rw [v_bf q, if_pos rfl, a1, d_b2_t], a2, a3, a4⟩
theorem k_nm (h : k_T b n p s) (hp : p ≤ n) : (t_k b n p = 1 → (t_nm6 b n p = true ↔ 8 ≤ s.1 43 7 ∧ s.1 43 7 ≤ 13) ∧ (t_nm2 b n p = true ↔ 14 ≤ s.1 43 7 ∧ s.1 43 7 ≤ 15)) ∧ (t_k b n p ≠ 1 → t_nm6 b n p = false ∧ t_nm2 b n p = false) := by
  refine ⟨fun k1 => ?_, fun k1 => c_nm_w k1⟩
  have e6 : s.1 43 6 = 1 := by rw [h.2.1.2.2, k1]; rfl
  rcases h.2.2.1 k1 with ⟨j, j1, j2, j3⟩ | ⟨j2, j3⟩
  · have H : ∀ i, i < 22 → t_wd b n p i = decide (i = j) := fun i hi => by
      have := k_wd h hp hi
      by_cases q : i = j
      · subst q; rw [decide_eq_true rfl]; exact this.1 ⟨e6, j3⟩
      · rw [decide_eq_false q]
        exact Bool.eq_false_iff.mpr (fun e => q (by have := (this.2 e).2; omega))
    obtain ⟨g1, g2⟩ := c_nm6k j1 H
    rw [g1, g2, j3, Bool.and_eq_true, Bool.and_eq_true]
    exact ⟨⟨fun e => by have a := Nat.le_of_ble_eq_true e.1; have c := Nat.le_of_ble_eq_true e.2; omega, fun e => ⟨Nat.ble_eq_true_of_le (by omega), Nat.ble_eq_true_of_le (by omega)⟩⟩, ⟨fun e => by have a := Nat.le_of_ble_eq_true e.1; have c := Nat.le_of_ble_eq_true e.2; omega, fun e => ⟨Nat.ble_eq_true_of_le (by omega), Nat.ble_eq_true_of_le (by omega)⟩⟩⟩
  · have H : ∀ i, i < 22 → t_wd b n p i = false := fun i hi => Bool.eq_false_iff.mpr (fun e => by
      have := ((k_wd h hp hi).2 e).2
      omega)
    obtain ⟨g1, g2⟩ := c_nm_0 H
    rw [g1, g2, j3]
    exact ⟨⟨fun e => absurd e (by decide), fun e => by omega⟩, ⟨fun e => absurd e (by decide), fun e => by omega⟩⟩
theorem k_op_k (ho : t_op b n p = true) : t_k b n p = 3 ∨ t_k b n p = 1 := by
  unfold t_op at ho
  rw [Bool.or_eq_true, Bool.or_eq_true] at ho
  rcases ho with e | e | e
  · exact Or.inl (t_is_iff.mp e).1
  · exact Or.inl (t_is_iff.mp e).1
  · exact Or.inr (t_wd_iff.mp e).1
theorem k_F73 (h : k_S b n p u C so sv s) : F_X3_faultOfOne_j73 s = some (((if sv = true then 7 else 0 : Nat)) : Int) := by
  unfold F_X3_faultOfOne_j73
  rw [h.2.1.2.2]
  cases sv
  · rw [if_neg (show ¬ false = true by decide), if_neg (show ¬ false = true by decide), if_pos rfl]; rfl
  · rw [if_pos rfl, if_pos rfl, if_neg (by decide)]; rfl
def k_fo (b : Nat → Nat) (n : Nat) (S : Bool) (d p : Nat) (sv : Bool) : Nat := if t_F b n S d p ≠ 0 then t_F b n S d p else if sv = true then 7 else 0
theorem P_fault (h : k_S b n p u C so sv s) (hp : p ≤ n) : F_X3_faultOfOne s (v_b (t_op b n p = true)) (v_b (c_nm b n p = true)) (d : Int) = some ((k_fo b n (Nat.beq so 1) d p sv : Nat) : Int) := by
  obtain ⟨n1, n0⟩ := k_nm h.1 hp
  have h6 := h.1.2.1.2.2
  have h73 := k_F73 h
  unfold k_fo t_F
  unfold F_X3_faultOfOne F_X3_faultOfOne_j18 F_X3_faultOfOne_j38 F_X3_faultOfOne_j50
  generalize (if sv = true then 7 else 0 : Nat) = w at h73 ⊢
  rw [h73, h6]
  by_cases k2 : t_k b n p = 2
  · obtain ⟨m6, m2⟩ := n0 (by omega)
    have ho : ¬ t_op b n p = true := fun e => by have := k_op_k e; omega
    have hm : ¬ c_nm b n p = true := by unfold c_nm; rw [m6, m2]; decide
    have h7 := h.1.2.2.2.1 k2
    rw [v_bf ho, v_bf hm, if_pos rfl, if_pos rfl, if_pos (by omega), if_pos (by omega), if_pos k2, h7]
    by_cases c : 9999 < t_n b n p
    · rw [if_pos (by omega), if_pos c, if_pos (show (2 : Nat) ≠ 0 by decide)]; rfl
    · rw [if_neg (by omega), if_neg c, if_neg (show ¬ (0 : Nat) ≠ 0 by decide), if_pos rfl, if_pos rfl]
  · rw [if_neg k2]
    have h6n : ¬ ((t_k b n p : Nat) : Int) = 2 := by omega
    rw [if_neg h6n, if_neg h6n]
    by_cases m6 : t_nm6 b n p = true
    · have ho := t_nm_op (Or.inl m6)
      have k1 : t_k b n p = 1 := by
        by_cases z : t_k b n p = 1
        · exact z
        · rw [(n0 z).1] at m6; cases m6
      have hv := (n1 k1).1.1 m6
      have hm : c_nm b n p = true := by unfold c_nm; rw [m6]; rfl
      rw [v_bf ho, v_bt hm, if_pos rfl, if_neg (show ¬ (1 : Int) = 0 by decide), if_pos rfl, if_neg (show ¬ (1 : Int) = 0 by decide), if_pos (by omega), if_pos m6, if_neg (show ¬ (0 : Nat) ≠ 0 by decide)]
    · rw [if_neg m6]
      by_cases m2 : t_nm2 b n p = true
      · have ho := t_nm_op (Or.inr m2)
        have k1 : t_k b n p = 1 := by
          by_cases z : t_k b n p = 1
          · exact z
          · rw [(n0 z).2] at m2; cases m2
        have hv := (n1 k1).2.1 m2
        have hm : c_nm b n p = true := by unfold c_nm; rw [m2]; simp
        rw [v_bf ho, v_bt hm, if_pos rfl, if_neg (show ¬ (1 : Int) = 0 by decide), if_pos rfl, if_neg (show ¬ (1 : Int) = 0 by decide), if_neg (by omega), if_pos m2, h.2.1.2.1]
        by_cases c : so = 1
        · rw [if_pos (by omega), if_pos (v_beq c), if_neg (show ¬ (0 : Nat) ≠ 0 by decide)]
        · rw [if_neg (by omega), if_neg (fun e => c (Nat.eq_of_beq_eq_true e)), if_pos (show (5 : Nat) ≠ 0 by decide)]; rfl
      · rw [if_neg m2]
        have hm : ¬ c_nm b n p = true := by
          unfold c_nm
          rw [Bool.or_eq_true]
          exact fun e => e.elim m6 m2
        rw [v_bf hm]
        by_cases ho : t_op b n p = true
        · rw [v_bt ho, if_neg (show ¬ (1 : Int) = 0 by decide), if_neg (show ¬ (1 : Int) = 0 by decide), if_pos ho]
          by_cases c : 8 ≤ d
          · rw [if_neg (by omega), if_pos c, if_pos (show (3 : Nat) ≠ 0 by decide)]; rfl
          · rw [if_pos (by omega), if_neg c, if_neg (show ¬ (0 : Nat) ≠ 0 by decide), if_pos rfl]
        · rw [v_bf ho, if_pos rfl, if_pos rfl, if_neg ho, if_pos (show (1 : Nat) ≠ 0 by decide)]; rfl
theorem k_one (h : k_T b n p s) (hp : p ≤ n) {x : Int} : F_X3_readOne g t s x = if c_nm b n p = true then F_X3_readOne_j60_1 g t x 0 s else F_X3_readOne_j59 g t x (v_b (t_op b n p = true)) s := by
  obtain ⟨n1, n0⟩ := k_nm h hp
  have h6 := h.2.1.2.2
  have tail : ∀ y : Int, (t_op b n p = true → y = 1) → (¬ t_op b n p = true → y = 0) → (if (s.1 43 6) = 1 then d_b (F_X11_within (s.1 43 7) 8 15) (fun v39 => if v39 = 0 then F_X3_readOne_j59 g t x y s else F_X3_readOne_j60_1 g t x y s) else F_X3_readOne_j59 g t x y s) = if c_nm b n p = true then F_X3_readOne_j60_1 g t x 0 s else F_X3_readOne_j59 g t x (v_b (t_op b n p = true)) s := fun y y1 y0 => by
    have hy : y = v_b (t_op b n p = true) := by
      by_cases o : t_op b n p = true
      · rw [v_bt o]; exact y1 o
      · rw [v_bf o]; exact y0 o
    by_cases k1 : t_k b n p = 1
    · rw [if_pos (by rw [h6, k1]; rfl), P_within, d_b_t]
      by_cases m : c_nm b n p = true
      · have m' := m
        unfold c_nm at m'
        rw [Bool.or_eq_true] at m'
        have ho := t_nm_op m'
        have hv : 8 ≤ s.1 43 7 ∧ s.1 43 7 ≤ 15 := by
          rcases m' with e | e
          · have := (n1 k1).1.1 e; omega
          · have := (n1 k1).2.1 e; omega
        rw [v_bt hv, if_neg (by decide), if_pos m, y0 ho]
      · have hv : ¬ (8 ≤ s.1 43 7 ∧ s.1 43 7 ≤ 15) := fun hv => m (by
          unfold c_nm
          rw [Bool.or_eq_true]
          by_cases z : s.1 43 7 ≤ 13
          · exact Or.inl ((n1 k1).1.2 ⟨hv.1, z⟩)
          · exact Or.inr ((n1 k1).2.2 ⟨by omega, hv.2⟩))
        rw [v_bf hv, if_pos rfl, if_neg m, hy]
    · have m : ¬ c_nm b n p = true := by unfold c_nm; rw [(n0 k1).1, (n0 k1).2]; decide
      rw [if_neg (fun e => k1 (by omega)), if_neg m, hy]
  have e40 : F_X3_isSign s 40 = some (v_b (t_is b n p 40 = true)) := P_isSign (c := 40) h
  have e45 : F_X3_isSign s 45 = some (v_b (t_is b n p 45 = true)) := P_isSign (c := 45) h
  have e20 : F_X3_isWord s 20 = some (v_b (t_wd b n p 20 = true)) := P_isWord (k := 20) h hp (by decide)
  unfold F_X3_readOne F_X3_readOne_j27
  rw [e40, d_b_t]
  by_cases c1 : t_is b n p 40 = true
  · have ho : t_op b n p = true := by unfold t_op; rw [c1]; rfl
    rw [v_bt c1, if_neg (by decide)]
    exact tail 1 (fun _ => rfl) (fun e => absurd ho e)
  rw [v_bf c1, if_pos rfl, e45, d_b_t]
  by_cases c2 : t_is b n p 45 = true
  · have ho : t_op b n p = true := by unfold t_op; rw [c2]; simp
    rw [v_bt c2, if_neg (by decide)]
    exact tail 1 (fun _ => rfl) (fun e => absurd ho e)
  rw [v_bf c2, if_pos rfl, e20, d_b_t]
  by_cases c3 : t_wd b n p 20 = true
  · have ho : t_op b n p = true := by unfold t_op; rw [c3]; simp
    rw [v_bt c3, if_neg (by decide)]
    exact tail 1 (fun _ => rfl) (fun e => absurd ho e)
  rw [v_bf c3, if_pos rfl]
  have ho : ¬ t_op b n p = true := by
    unfold t_op
    rw [Bool.or_eq_true, Bool.or_eq_true]
    rintro (e | e | e)
    · exact c1 e
    · exact c2 e
    · exact c3 e
  exact tail 0 (fun e => absurd e ho) (fun _ => rfl)
end X2

section X2
variable {s s1 s' : d_S} {t : Nat → Option p_C} {b : Nat → Nat} {n p q u : Nat} {C : Nat → Nat × Nat} {so d : Nat} {sv : Bool} {g : d_G}
def k_S (b : Nat → Nat) (n p u : Nat) (C : Nat → Nat × Nat) (so : Nat) (sv : Bool) (s : d_S) : Prop := k_T b n p s ∧ (s.1 43 15 = (u : Int) ∧ s.1 43 16 = (so : Int) ∧ s.1 43 17 = (if sv = true then 1 else 0)) ∧ u ≤ 600 ∧ ∀ k, k < u → s.1 46 k = ((16 * (C k).2 + (C k).1 : Nat) : Int) ∧ (C k).1 < 16 ∧ (C k).2 < 20000
def k_h (L : List Nat) (s s' : d_S) : Prop := (∀ k, k ∉ L → s'.1 43 k = s.1 43 k) ∧ (∀ a, a ≠ 43 → a ≠ 46 → s'.1 a = s.1 a) ∧ s'.2 = s.2
theorem k_h.rf {L : List Nat} : k_h L s s := ⟨fun _ _ => rfl, fun _ _ _ => rfl, rfl⟩
theorem k_h.tr {L : List Nat} (h : k_h L s s1) (h' : k_h L s1 s') : k_h L s s' := ⟨fun a z => (h'.1 a z).trans (h.1 a z), fun a y z => (h'.2.1 a y z).trans (h.2.1 a y z), h'.2.2.trans h.2.2⟩
theorem k_h.mono {L M : List Nat} (h : k_h L s s1) (hm : ∀ a, a ∈ L → a ∈ M) : k_h M s s1 := ⟨fun a z => h.1 a (fun y => z (hm a y)), h.2⟩
theorem k_f.h {L : List Nat} (h : k_f L s s1) : k_h L s s1 := ⟨h.1, fun a y _ => h.2.1 a y, h.2.2⟩
theorem k_h.B {L : List Nat} (h : k_B b n s) (h' : k_h L s s') (h1 : 1 ∉ L) : k_B b n s' := by
  obtain ⟨a1, a2, a3, a4⟩ := h
  exact ⟨by rw [h'.1 1 h1]; exact a1, a2, fun i hi => by rw [h'.2.1 44 (by decide) (by decide)]; exact a3 i hi, a4⟩
theorem k_h.T {L : List Nat} (h : k_T b n p s) (h' : k_h L s s') (h1 : 1 ∉ L ∧ 4 ∉ L ∧ 5 ∉ L ∧ 6 ∉ L ∧ 7 ∉ L) : k_T b n p s' := by
  obtain ⟨a1, ⟨a4, a5, a6⟩, a7⟩ := h
  refine ⟨k_h.B a1 h' h1.1, ⟨by rw [h'.1 4 h1.2.1]; exact a4, by rw [h'.1 5 h1.2.2.1]; exact a5, by rw [h'.1 6 h1.2.2.2.1]; exact a6⟩, ?_⟩
  rw [h'.1 7 h1.2.2.2.2]
  exact a7
theorem k_or16 {w e : Nat} (he : e < 16) (hw : w < 20000) : d_or (d_shl (w : Int) 4) (e : Int) = ((16 * w + e : Nat) : Int) := by
  have h1 : d_shl (w : Int) 4 = ((w * 2 ^ 4 : Nat) : Int) := v_shl (k := 4) (by decide) (by omega)
  rw [h1, v_or (by omega) (by omega)]
  have := Nat.two_pow_add_eq_or_of_lt (i := 4) he w
  have e2 : w * 2 ^ 4 ||| e = 16 * w + e := by
    rw [Nat.mul_comm, ← this]
  rw [e2]
theorem P_make (h : k_S b n p u C so sv s) (hu : u < 600) {e w : Nat} (he : e < 16) (hw : w < 20000) : ∃ s', F_X3_make s (e : Int) (w : Int) = some (1, s') ∧ k_S b n p (u + 1) (c_up C u (e, w)) so sv s' ∧ k_h [15] s s' := by
  obtain ⟨hT, ⟨a15, a16, a17⟩, a600, hC⟩ := h
  obtain ⟨s2, hs2⟩ : ∃ z, z = d_si s 46 u ((16 * w + e : Nat) : Int) := ⟨_, rfl⟩
  obtain ⟨s3, hs3⟩ : ∃ z, z = d_si s2 43 15 ((u : Int) + 1) := ⟨_, rfl⟩
  have e43 : ∀ k, k ≠ 15 → s3.1 43 k = s.1 43 k := fun k hk => by rw [hs3, d_si_i, d_u_n hk, hs2, d_si_n (by decide)]
  have f : k_h [15] s s3 := ⟨fun k hk => e43 k (fun z => hk (by rw [z]; decide)), fun a h1 h2 => by rw [hs3, d_si_n h1, hs2, d_si_n h2], by rw [hs3, hs2]; rfl⟩
  refine ⟨s3, ?_, ⟨k_h.T hT f (by decide), ⟨by rw [hs3, d_si_i, d_u_t]; rfl, by rw [e43 16 (by decide)]; exact a16, by rw [e43 17 (by decide)]; exact a17⟩, by omega, fun k hk => ?_⟩, f⟩
  · unfold F_X3_make
    rw [a15, if_pos (by omega), d_g_t (by omega), d_l_t, Int.toNat_natCast, k_or16 he hw, ← hs2, d_l_t, show s2.1 43 15 = s.1 43 15 by rw [hs2, d_si_n (by decide)], a15, d_w_id (by omega) (by omega), ← hs3]
  · have e46 : s3.1 46 k = d_u (s.1 46) u ((16 * w + e : Nat) : Int) k := by rw [hs3, d_si_n (by decide), hs2, d_si_i]
    rw [e46]
    by_cases z : k = u
    · subst z; rw [d_u_t, c_up_at]; exact ⟨rfl, he, hw⟩
    · rw [d_u_n z, c_up_ne (by omega)]; exact hC k (by omega)
theorem P_lead (h : k_S b n p u C so sv s) {j to : Nat} (hj : j < u) (hto : to < 20000) : ∃ s', F_X3_lead s (j : Int) (to : Int) = some s' ∧ k_S b n p u (c_up C j ((C j).1, to)) so sv s' ∧ k_h [] s s' := by
  obtain ⟨hT, ⟨a15, a16, a17⟩, a600, hC⟩ := h
  obtain ⟨c1, c2, c3⟩ := hC j hj
  obtain ⟨s2, hs2⟩ : ∃ z, z = d_si s 46 j ((16 * to + (C j).1 : Nat) : Int) := ⟨_, rfl⟩
  have f : k_h [] s s2 := ⟨fun k _ => by rw [hs2, d_si_n (by decide)], fun a _ h2 => by rw [hs2, d_si_n h2], by rw [hs2]; rfl⟩
  have ea : d_and ((16 * (C j).2 + (C j).1 : Nat) : Int) 15 = (((C j).1 : Nat) : Int) := by
    rw [v_and15 (by omega), show (16 * (C j).2 + (C j).1) % 16 = (C j).1 by omega]
  refine ⟨s2, ?_, ⟨k_h.T hT f (by decide), ⟨by rw [f.1 15 (by decide)]; exact a15, by rw [f.1 16 (by decide)]; exact a16, by rw [f.1 17 (by decide)]; exact a17⟩, a600, fun k hk => ?_⟩, f⟩
  · unfold F_X3_lead
    rw [a15, P_within, d_b_t, d_w_id (x := (u : Int) - 1) (by omega) (by omega), v_bt (by omega), if_neg (by decide), if_pos (by omega), d_g_t (by omega), d_g_t (by omega), d_l_t, Int.toNat_natCast, c1, ea, k_or16 c2 hto, ← hs2]
  · have e46 : s2.1 46 k = d_u (s.1 46) j ((16 * to + (C j).1 : Nat) : Int) k := by rw [hs2, d_si_i]
    rw [e46]
    by_cases z : k = j
    · subst z; rw [d_u_t, c_up_at]; exact ⟨rfl, c2, hto⟩
    · rw [d_u_n z, c_up_ne (by omega)]; exact hC k hk
theorem P_closel : ∀ (L : List Nat) (o i m : Nat) (C : Nat → Nat × Nat) (s : d_S), i + L.length ≤ 6 → L.length < m → k_S b n p u C so sv s → c_ch C u o L → ∃ s', F_X3_closeJumps_l4 m ((o : Int) - 1) (i : Int) s = some s' ∧ k_S b n p u (c_to C L u) so sv s' ∧ k_h [] s s' := by
  intro L
  induction L with
  | nil =>
    intro o i m C s hi hm h hc
    obtain ⟨m, rfl⟩ : ∃ w, m = w + 1 := ⟨m - 1, by omega⟩
    have hc : o = 0 := hc
    subst hc
    refine ⟨s, ?_, by rw [c_to_nil]; exact h, k_h.rf⟩
    show F_X3_closeJumps_l4_b (F_X3_closeJumps_l4 m) _ _ s = _
    unfold F_X3_closeJumps_l4_b
    rw [P_within, d_b_t, v_bf (by omega), if_pos rfl]
    split <;> rfl
  | cons j L ih =>
    intro o i m C s hi hm h hc
    obtain ⟨m, rfl⟩ : ∃ w, m = w + 1 := ⟨m - 1, by rw [List.length_cons] at hm; omega⟩
    rw [List.length_cons] at hi hm
    obtain ⟨rfl, h2, h3, h4, h5⟩ := hc
    have h600 := h.2.2.1
    obtain ⟨c1, c2, c3⟩ := h.2.2.2 j h2
    obtain ⟨s1, a1, a2, a3⟩ := P_lead h h2 (to := u) (by omega)
    have h15 : s.1 43 15 = (u : Int) := h.2.1.1
    obtain ⟨s', b1, b2, b3⟩ := ih (C j).2 (i + 1) m (c_up C j ((C j).1, u)) s1 (by omega) (by omega) a2 (c_ch_cong (Nat.le_refl _) h5 (fun k hk => c_up_ne (by have := h4 k hk; omega)))
    refine ⟨s', ?_, by rw [← c_to_cons h3 h4]; exact b2, a3.tr b3⟩
    show F_X3_closeJumps_l4_b (F_X3_closeJumps_l4 m) _ _ s = _
    unfold F_X3_closeJumps_l4_b
    have ej : ((j + 1 : Nat) : Int) - 1 = (j : Int) := by omega
    have es : d_shr ((16 * (C j).2 + (C j).1 : Nat) : Int) 4 = (((C j).2 : Nat) : Int) := by
      rw [v_sh4 (by omega), show (16 * (C j).2 + (C j).1) / 16 = (C j).2 by omega]
    rw [ej, if_pos (by omega), h15, P_within, d_b_t, d_w_id (x := (u : Int) - 1) (by omega) (by omega), v_bt (by omega), if_neg (by decide), if_pos (by omega), d_g_t (by omega), d_l_t, Int.toNat_natCast, c1, es, a1, d_b_t, d_w_id (x := (((C j).2 : Nat) : Int) - 1) (by omega) (by omega), d_w_id (x := (i : Int) + 1) (by omega) (by omega)]
    exact b1
theorem P_close {L : List Nat} {o : Nat} (h : k_S b n p u C so sv s) (hc : c_ch C u o L) (hl : L.length ≤ 6) : ∃ s', F_X3_closeJumps s ((o : Int) - 1) = some s' ∧ k_S b n p u (c_to C L u) so sv s' ∧ k_h [] s s' := P_closel L o 0 d_N C s (by omega) (by rw [d_N_is]; omega) h hc
theorem P_wrong {f : Int} (h : s.1 43 5 = (p : Int)) : ∃ s', F_X3_wrong s f = some (0, s') ∧ s'.1 43 2 = f ∧ s'.1 43 3 = (p : Int) ∧ k_f [2, 3] s s' := by
  unfold F_X3_wrong
  refine ⟨_, rfl, ?_, ?_, (k_f.si (by decide)).tr (k_f.si (by decide))⟩
  · rw [d_si_i, d_u_n (by decide), d_si_i, d_u_t]
  · rw [d_si_i, d_u_t, d_si_i, d_u_n (by decide)]; exact h
theorem k_S.T (h : k_S b n p u C so sv s) (hf : k_f [4, 5, 6, 7] s s') (hT : k_T b n q s') : k_S b n q u C so sv s' := by
  obtain ⟨-, ⟨a15, a16, a17⟩, a600, hC⟩ := h
  exact ⟨hT, ⟨by rw [hf.1 15 (by decide)]; exact a15, by rw [hf.1 16 (by decide)]; exact a16, by rw [hf.1 17 (by decide)]; exact a17⟩, a600, fun k hk => by rw [hf.2.1 46 (by decide)]; exact hC k hk⟩
theorem P_takeSign (hW : k_wds t) (h : k_T b n p s) (hp : p ≤ n) {c : Nat} : (t_is b n p c = true ∧ ∃ s', F_X3_takeSign t s (c : Int) = some (1, s') ∧ k_T b n (t_x b n p) s' ∧ k_f [4, 5, 6, 7] s s') ∨ (t_is b n p c = false ∧ ∃ s', F_X3_takeSign t s (c : Int) = some (0, s') ∧ s'.1 43 2 = 1 ∧ s'.1 43 3 = (p : Int) ∧ k_f [2, 3] s s') := by
  unfold F_X3_takeSign
  rw [P_isSign h, d_b_t]
  by_cases q : t_is b n p c = true
  · obtain ⟨s', a1, a2, a3⟩ := P_step hW h hp
    exact Or.inl ⟨q, s', by rw [v_bt q, if_neg (by decide), a1, d_b_t], a2, a3⟩
  · obtain ⟨s', a1, a2, a3, a4⟩ := P_wrong (s := s) (p := p) (f := 1) h.2.1.2.1
    exact Or.inr ⟨Bool.eq_false_iff.mpr q, s', by rw [v_bf q, if_pos rfl, a1, d_b2_t], a2, a3, a4⟩
theorem P_takeWord (hW : k_wds t) (h : k_T b n p s) (hp : p ≤ n) {k : Nat} (hk : k < 22) : (t_wd b n p k = true ∧ ∃ s', F_X3_takeWord t s (k : Int) = some (1, s') ∧ k_T b n (t_x b n p) s' ∧ k_f [4, 5, 6, 7] s s') ∨ (t_wd b n p k = false ∧ ∃ s', F_X3_takeWord t s (k : Int) = some (0, s') ∧ s'.1 43 2 = 1 ∧ s'.1 43 3 = (p : Int) ∧ k_f [2, 3] s s') := by
  unfold F_X3_takeWord
  rw [P_isWord h hp hk, d_b_t]
  by_cases q : t_wd b n p k = true
  · obtain ⟨s', a1, a2, a3⟩ := P_step hW h hp
    exact Or.inl ⟨q, s', by rw [v_bt q, if_neg (by decide), a1, d_b_t], a2, a3⟩
  · obtain ⟨s', a1, a2, a3, a4⟩ := P_wrong (s := s) (p := p) (f := 1) h.2.1.2.1
    exact Or.inr ⟨Bool.eq_false_iff.mpr q, s', by rw [v_bf q, if_pos rfl, a1, d_b2_t], a2, a3, a4⟩
theorem k_nm (h : k_T b n p s) (hp : p ≤ n) : (t_k b n p = 1 → (t_nm6 b n p = true ↔ 8 ≤ s.1 43 7 ∧ s.1 43 7 ≤ 13) ∧ (t_nm2 b n p = true ↔ 14 ≤ s.1 43 7 ∧ s.1 43 7 ≤ 15)) ∧ (t_k b n p ≠ 1 → t_nm6 b n p = false ∧ t_nm2 b n p = false) := by
  refine ⟨fun k1 => ?_, fun k1 => c_nm_w k1⟩
  have e6 : s.1 43 6 = 1 := by rw [h.2.1.2.2, k1]; rfl
  rcases h.2.2.1 k1 with ⟨j, j1, j2, j3⟩ | ⟨j2, j3⟩
  · have H : ∀ i, i < 22 → t_wd b n p i = decide (i = j) := fun i hi => by
      have := k_wd h hp hi
      by_cases q : i = j
      · subst q; rw [decide_eq_true rfl]; exact this.1 ⟨e6, j3⟩
      · rw [decide_eq_false q]
        exact Bool.eq_false_iff.mpr (fun e => q (by have := (this.2 e).2; omega))
    obtain ⟨g1, g2⟩ := c_nm6k j1 H
    rw [g1, g2, j3, Bool.and_eq_true, Bool.and_eq_true]
    exact ⟨⟨fun e => by have a := Nat.le_of_ble_eq_true e.1; have c := Nat.le_of_ble_eq_true e.2; omega, fun e => ⟨Nat.ble_eq_true_of_le (by omega), Nat.ble_eq_true_of_le (by omega)⟩⟩, ⟨fun e => by have a := Nat.le_of_ble_eq_true e.1; have c := Nat.le_of_ble_eq_true e.2; omega, fun e => ⟨Nat.ble_eq_true_of_le (by omega), Nat.ble_eq_true_of_le (by omega)⟩⟩⟩
  · have H : ∀ i, i < 22 → t_wd b n p i = false := fun i hi => Bool.eq_false_iff.mpr (fun e => by
      have := ((k_wd h hp hi).2 e).2
      omega)
    obtain ⟨g1, g2⟩ := c_nm_0 H
    rw [g1, g2, j3]
    exact ⟨⟨fun e => absurd e (by decide), fun e => by omega⟩, ⟨fun e => absurd e (by decide), fun e => by omega⟩⟩
theorem k_op_k (ho : t_op b n p = true) : t_k b n p = 3 ∨ t_k b n p = 1 := by
  unfold t_op at ho
  rw [Bool.or_eq_true, Bool.or_eq_true] at ho
  rcases ho with e | e | e
  · exact Or.inl (t_is_iff.mp e).1
  · exact Or.inl (t_is_iff.mp e).1
  · exact Or.inr (t_wd_iff.mp e).1
theorem k_F73 (h : k_S b n p u C so sv s) : F_X3_faultOfOne_j73 s = some (((if sv = true then 7 else 0 : Nat)) : Int) := by
  unfold F_X3_faultOfOne_j73
  rw [h.2.1.2.2]
  cases sv
  · rw [if_neg (show ¬ false = true by decide), if_neg (show ¬ false = true by decide), if_pos rfl]; rfl
  · rw [if_pos rfl, if_pos rfl, if_neg (by decide)]; rfl
def k_fo (b : Nat → Nat) (n : Nat) (S : Bool) (d p : Nat) (sv : Bool) : Nat := if t_F b n S d p ≠ 0 then t_F b n S d p else if sv = true then 7 else 0
theorem P_fault (h : k_S b n p u C so sv s) (hp : p ≤ n) : F_X3_faultOfOne s (v_b (t_op b n p = true)) (v_b (c_nm b n p = true)) (d : Int) = some ((k_fo b n (Nat.beq so 1) d p sv : Nat) : Int) := by
  obtain ⟨n1, n0⟩ := k_nm h.1 hp
  have h6 := h.1.2.1.2.2
  have h73 := k_F73 h
  unfold k_fo t_F
  unfold F_X3_faultOfOne F_X3_faultOfOne_j18 F_X3_faultOfOne_j38 F_X3_faultOfOne_j50
  generalize (if sv = true then 7 else 0 : Nat) = w at h73 ⊢
  rw [h73, h6]
  by_cases k2 : t_k b n p = 2
  · obtain ⟨m6, m2⟩ := n0 (by omega)
    have ho : ¬ t_op b n p = true := fun e => by have := k_op_k e; omega
    have hm : ¬ c_nm b n p = true := by unfold c_nm; rw [m6, m2]; decide
    have h7 := h.1.2.2.2.1 k2
    rw [v_bf ho, v_bf hm, if_pos rfl, if_pos rfl, if_pos (by omega), if_pos (by omega), if_pos k2, h7]
    by_cases c : 9999 < t_n b n p
    · rw [if_pos (by omega), if_pos c, if_pos (show (2 : Nat) ≠ 0 by decide)]; rfl
    · rw [if_neg (by omega), if_neg c, if_neg (show ¬ (0 : Nat) ≠ 0 by decide), if_pos rfl, if_pos rfl]
  · rw [if_neg k2]
    have h6n : ¬ ((t_k b n p : Nat) : Int) = 2 := by omega
    rw [if_neg h6n, if_neg h6n]
    by_cases m6 : t_nm6 b n p = true
    · have ho := t_nm_op (Or.inl m6)
      have k1 : t_k b n p = 1 := by
        by_cases z : t_k b n p = 1
        · exact z
        · rw [(n0 z).1] at m6; cases m6
      have hv := (n1 k1).1.1 m6
      have hm : c_nm b n p = true := by unfold c_nm; rw [m6]; rfl
      rw [v_bf ho, v_bt hm, if_pos rfl, if_neg (show ¬ (1 : Int) = 0 by decide), if_pos rfl, if_neg (show ¬ (1 : Int) = 0 by decide), if_pos (by omega), if_pos m6, if_neg (show ¬ (0 : Nat) ≠ 0 by decide)]
    · rw [if_neg m6]
      by_cases m2 : t_nm2 b n p = true
      · have ho := t_nm_op (Or.inr m2)
        have k1 : t_k b n p = 1 := by
          by_cases z : t_k b n p = 1
          · exact z
          · rw [(n0 z).2] at m2; cases m2
        have hv := (n1 k1).2.1 m2
        have hm : c_nm b n p = true := by unfold c_nm; rw [m2]; simp
        rw [v_bf ho, v_bt hm, if_pos rfl, if_neg (show ¬ (1 : Int) = 0 by decide), if_pos rfl, if_neg (show ¬ (1 : Int) = 0 by decide), if_neg (by omega), if_pos m2, h.2.1.2.1]
        by_cases c : so = 1
        · rw [if_pos (by omega), if_pos (v_beq c), if_neg (show ¬ (0 : Nat) ≠ 0 by decide)]
        · rw [if_neg (by omega), if_neg (fun e => c (Nat.eq_of_beq_eq_true e)), if_pos (show (5 : Nat) ≠ 0 by decide)]; rfl
      · rw [if_neg m2]
        have hm : ¬ c_nm b n p = true := by
          unfold c_nm
          rw [Bool.or_eq_true]
          exact fun e => e.elim m6 m2
        rw [v_bf hm]
        by_cases ho : t_op b n p = true
        · rw [v_bt ho, if_neg (show ¬ (1 : Int) = 0 by decide), if_neg (show ¬ (1 : Int) = 0 by decide), if_pos ho]
          by_cases c : 8 ≤ d
          · rw [if_neg (by omega), if_pos c, if_pos (show (3 : Nat) ≠ 0 by decide)]; rfl
          · rw [if_pos (by omega), if_neg c, if_neg (show ¬ (0 : Nat) ≠ 0 by decide), if_pos rfl]
        · rw [v_bf ho, if_pos rfl, if_pos rfl, if_neg ho, if_pos (show (1 : Nat) ≠ 0 by decide)]; rfl
theorem k_one (h : k_T b n p s) (hp : p ≤ n) {x : Int} : F_X3_readOne g t s x = if c_nm b n p = true then F_X3_readOne_j60_1 g t x 0 s else F_X3_readOne_j59 g t x (v_b (t_op b n p = true)) s := by
  obtain ⟨n1, n0⟩ := k_nm h hp
  have h6 := h.2.1.2.2
  have tail : ∀ y : Int, (t_op b n p = true → y = 1) → (¬ t_op b n p = true → y = 0) → (if (s.1 43 6) = 1 then d_b (F_X11_within (s.1 43 7) 8 15) (fun v39 => if v39 = 0 then F_X3_readOne_j59 g t x y s else F_X3_readOne_j60_1 g t x y s) else F_X3_readOne_j59 g t x y s) = if c_nm b n p = true then F_X3_readOne_j60_1 g t x 0 s else F_X3_readOne_j59 g t x (v_b (t_op b n p = true)) s := fun y y1 y0 => by
    have hy : y = v_b (t_op b n p = true) := by
      by_cases o : t_op b n p = true
      · rw [v_bt o]; exact y1 o
      · rw [v_bf o]; exact y0 o
    by_cases k1 : t_k b n p = 1
    · rw [if_pos (by rw [h6, k1]; rfl), P_within, d_b_t]
      by_cases m : c_nm b n p = true
      · have m' := m
        unfold c_nm at m'
        rw [Bool.or_eq_true] at m'
        have ho := t_nm_op m'
        have hv : 8 ≤ s.1 43 7 ∧ s.1 43 7 ≤ 15 := by
          rcases m' with e | e
          · have := (n1 k1).1.1 e; omega
          · have := (n1 k1).2.1 e; omega
        rw [v_bt hv, if_neg (by decide), if_pos m, y0 ho]
      · have hv : ¬ (8 ≤ s.1 43 7 ∧ s.1 43 7 ≤ 15) := fun hv => m (by
          unfold c_nm
          rw [Bool.or_eq_true]
          by_cases z : s.1 43 7 ≤ 13
          · exact Or.inl ((n1 k1).1.2 ⟨hv.1, z⟩)
          · exact Or.inr ((n1 k1).2.2 ⟨by omega, hv.2⟩))
        rw [v_bf hv, if_pos rfl, if_neg m, hy]
    · have m : ¬ c_nm b n p = true := by unfold c_nm; rw [(n0 k1).1, (n0 k1).2]; decide
      rw [if_neg (fun e => k1 (by omega)), if_neg m, hy]
  have e40 : F_X3_isSign s 40 = some (v_b (t_is b n p 40 = true)) := P_isSign (c := 40) h
  have e45 : F_X3_isSign s 45 = some (v_b (t_is b n p 45 = true)) := P_isSign (c := 45) h
  have e20 : F_X3_isWord s 20 = some (v_b (t_wd b n p 20 = true)) := P_isWord (k := 20) h hp (by decide)
  unfold F_X3_readOne F_X3_readOne_j27
  rw [e40, d_b_t]
  by_cases c1 : t_is b n p 40 = true
  · have ho : t_op b n p = true := by unfold t_op; rw [c1]; rfl
    rw [v_bt c1, if_neg (by decide)]
    exact tail 1 (fun _ => rfl) (fun e => absurd ho e)
  rw [v_bf c1, if_pos rfl, e45, d_b_t]
  by_cases c2 : t_is b n p 45 = true
  · have ho : t_op b n p = true := by unfold t_op; rw [c2]; simp
    rw [v_bt c2, if_neg (by decide)]
    exact tail 1 (fun _ => rfl) (fun e => absurd ho e)
  rw [v_bf c2, if_pos rfl, e20, d_b_t]
  by_cases c3 : t_wd b n p 20 = true
  · have ho : t_op b n p = true := by unfold t_op; rw [c3]; simp
    rw [v_bt c3, if_neg (by decide)]
    exact tail 1 (fun _ => rfl) (fun e => absurd ho e)
  rw [v_bf c3, if_pos rfl]
  have ho : ¬ t_op b n p = true := by
    unfold t_op
    rw [Bool.or_eq_true, Bool.or_eq_true]
    rintro (e | e | e)
    · exact c1 e
    · exact c2 e
    · exact c3 e
  exact tail 0 (fun e => absurd e ho) (fun _ => rfl)
end X2
noncomputable def k_F (t : Nat → Option p_C) : Nat → d_G
  | 0 => (fun _ _ => none, fun _ _ => none, fun _ _ => none, fun _ _ => none)
  | m + 1 => (F_X3_readSum (k_F t m) t, F_X3_readProduct (k_F t m) t, F_X3_readOne (k_F t m) t, F_X3_readChoice (k_F t m) t)
theorem k_F_ok {t : Nat → Option p_C} : ∀ m : Nat, d_Gok t (m + 2) (k_F t m) := by
  intro m
  induction m with
  | zero => exact ⟨fun {_ _ _ r} h => (nomatch (show (none : Option (Int × d_S)) = some r from h)), fun {_ _ _ r} h => (nomatch (show (none : Option (Int × d_S)) = some r from h)), fun {_ _ _ r} h => (nomatch (show (none : Option (Int × d_S)) = some r from h)), fun {_ _ _ r} h => (nomatch (show (none : Option (Int × d_S)) = some r from h))⟩
  | succ m ih => exact ⟨fun h hH hx => D_X3_readSum ih (by omega) h hH hx, fun h hH hx => D_X3_readProduct ih (by omega) h hH hx, fun h hH hx => D_X3_readOne ih (by omega) h hH hx, fun h hH hx => D_X3_readChoice ih (by omega) h hH hx⟩
def k_Lw : List Nat := [4, 5, 6, 7, 15, 17]
def k_Le : List Nat := [2, 3, 4, 5, 6, 7, 15, 17]
def k_R (e : Nat) (b : Nat → Nat) (n p u so : Nat) (V : Nat → (Nat → Nat × Nat) → Prop) (r : Nat × Nat) (s s' : d_S) : Prop := (r.1 = 0 → ∃ (u2 : Nat) (C2 : Nat → Nat × Nat), u2 + 2 * p ≤ u + 2 * r.2 ∧ k_S b n r.2 u2 C2 so false s' ∧ V u2 C2 ∧ k_h k_Lw s s' ∧ p + e ≤ r.2 ∧ r.2 ≤ n) ∧ (r.1 ≠ 0 → s'.1 43 2 = (r.1 : Int) ∧ s'.1 43 3 = (r.2 : Int) ∧ k_h k_Le s s')
def k_B0 (t : Nat → Option p_C) (b : Nat → Nat) (n so f : Nat) : Prop := ∀ (m d k p u : Nat) (sv : Bool) (C : Nat → Nat × Nat) (s : d_S) (r : Nat × Nat), t_P b n (Nat.beq so 1) f 0 d k p = r → 4 * (n - p) + 1 ≤ f → p ≤ n → d ≤ 8 → sv = Nat.beq k 7 → u + 2 ≤ 2 * p → 4 * (8 - d) + 1 ≤ m → k_S b n p u C so sv s → ∃ s', (k_F t m).2.2.1 s (d : Int) = some (v_b (r.1 = 0), s') ∧ k_R 1 b n p u so (c_V b n so f 0 d k p (c_D d) u C) r s s'
def k_B1 (t : Nat → Option p_C) (b : Nat → Nat) (n so f : Nat) : Prop := ∀ (m d k p u : Nat) (sv : Bool) (C : Nat → Nat × Nat) (s : d_S) (r : Nat × Nat), t_P b n (Nat.beq so 1) f 1 d k p = r → 4 * (n - p) + 2 ≤ f → p ≤ n → d ≤ 8 → sv = Nat.beq k 7 → u + 2 ≤ 2 * p → 4 * (8 - d) + 2 ≤ m → k_S b n p u C so sv s → ∃ s', (k_F t m).2.1 s (d : Int) = some (v_b (r.1 = 0), s') ∧ k_R 1 b n p u so (c_V b n so f 1 d k p (c_D d + 1) u C) r s s'
def k_B2 (t : Nat → Option p_C) (b : Nat → Nat) (n so f : Nat) : Prop := ∀ (m d k p u : Nat) (sv : Bool) (C : Nat → Nat × Nat) (s : d_S) (r : Nat × Nat), t_P b n (Nat.beq so 1) f 2 d k p = r → 4 * (n - p) + 3 ≤ f → p ≤ n → d ≤ 8 → sv = Nat.beq k 7 → u + 2 ≤ 2 * p → 4 * (8 - d) + 3 ≤ m → k_S b n p u C so sv s → ∃ s', (k_F t m).1 s (d : Int) = some (v_b (r.1 = 0), s') ∧ k_R 1 b n p u so (c_V b n so f 2 d k p (c_D d + 2) u C) r s s'
def k_B4 (t : Nat → Option p_C) (b : Nat → Nat) (n so f : Nat) : Prop := ∀ (m d p u i N : Nat) (C : Nat → Nat × Nat) (s : d_S) (r : Nat × Nat), t_P b n (Nat.beq so 1) f 4 d 0 p = r → 4 * (n - p) + 1 ≤ f → p ≤ n → d ≤ 8 → i ≤ p → u + 2 ≤ 2 * p → 4 * (8 - d) + 1 ≤ m → n - p + 1 < N → k_S b n p u C so false s → ∃ s', F_X3_readProduct_l8 (k_F t m) t N (d : Int) 1 (i : Int) s = some (v_b (r.1 = 0), s') ∧ k_R 0 b n p u so (c_VL b n so f 4 d p (c_D d) u C) r s s'
def k_B5 (t : Nat → Option p_C) (b : Nat → Nat) (n so f : Nat) : Prop := ∀ (m d p u i N : Nat) (C : Nat → Nat × Nat) (s : d_S) (r : Nat × Nat), t_P b n (Nat.beq so 1) f 5 d 0 p = r → 4 * (n - p) + 1 ≤ f → p ≤ n → d ≤ 8 → i ≤ p → u + 2 ≤ 2 * p → 4 * (8 - d) + 2 ≤ m → n - p + 1 < N → k_S b n p u C so false s → ∃ s', F_X3_readSum_l8 (k_F t m) t N (d : Int) 1 (i : Int) s = some (v_b (r.1 = 0), s') ∧ k_R 0 b n p u so (c_VL b n so f 5 d p (c_D d + 1) u C) r s s'
noncomputable def k_Ke (t : Nat → Option p_C) : Int → d_S → Option (Int × d_S) := fun x2 s => d_b (F_X3_closeJumps s x2) (fun s28 => d_b2 (F_X3_takeSign t s28 41) (fun v29 s30 => some (v29, s30)))
def k_B6 (t : Nat → Option p_C) (b : Nat → Nat) (n so f : Nat) : Prop := ∀ (m d k p u o N : Nat) (C : Nat → Nat × Nat) (L : List Nat) (s : d_S) (r : Nat × Nat), t_P b n (Nat.beq so 1) f 6 d k p = r → 4 * (n - p) + 4 ≤ f → p ≤ n → 1 ≤ d → d ≤ 8 → 1 ≤ k → k ≤ 7 → u + 3 ≤ 2 * p → c_ch C u o L → L.length + 1 = k → 4 * (8 - d) + 3 ≤ m → 9 ≤ N + k → k_S b n p u C so false s → ∃ s', F_X3_readChoice_l32 (k_F t m) t (k_Ke t) N (d : Int) ((o : Int) - 1) (k : Int) s = some (v_b (r.1 = 0), s') ∧ k_R 1 b n p u so (c_VA b n so f d k p (c_D d + 2) u C L) r s s'
def k_BB (t : Nat → Option p_C) (b : Nat → Nat) (n so f : Nat) : Prop := k_B0 t b n so f ∧ k_B1 t b n so f ∧ k_B2 t b n so f ∧ k_B4 t b n so f ∧ k_B5 t b n so f ∧ k_B6 t b n so f
section X3
variable {s s1 s' : d_S} {t : Nat → Option p_C} {b : Nat → Nat} {n p q u f : Nat} {C : Nat → Nat × Nat} {so d e : Nat} {sv : Bool} {g : d_G} {V : Nat → (Nat → Nat × Nat) → Prop} {r : Nat × Nat}
theorem k_R.no (he : r.1 ≠ 0) (h2 : s'.1 43 2 = (r.1 : Int)) (h3 : s'.1 43 3 = (r.2 : Int)) (hf : k_h k_Le s s') : k_R e b n p u so V r s s' := ⟨fun z => absurd z he, fun _ => ⟨h2, h3, hf⟩⟩
theorem k_R.up {e2 p2 u2 : Nat} {V2 : Nat → (Nat → Nat × Nat) → Prop} (he : r.1 ≠ 0) (h : k_R e2 b n p2 u2 so V2 r s1 s') (hf : k_h k_Le s s1) : k_R e b n p u so V r s s' := by
  obtain ⟨h2, h3, h4⟩ := h.2 he
  exact k_R.no he h2 h3 (hf.tr h4)
theorem k_Lwe : ∀ a, a ∈ k_Lw → a ∈ k_Le := by decide
theorem k_pr0 {N : Nat} {x i : Int} : F_X3_readProduct_l8 g t (N + 1) x 0 i s = some (0, s) := by
  show F_X3_readProduct_l8_b g t (F_X3_readProduct_l8 g t N) x 0 i s = _
  unfold F_X3_readProduct_l8_b
  rw [if_pos (show (0 : Int) = 0 from rfl), d_g_t (Or.inl rfl)]
  split <;> rfl
theorem k_su0 {N : Nat} {x i : Int} : F_X3_readSum_l8 g t (N + 1) x 0 i s = some (0, s) := by
  show F_X3_readSum_l8_b g t (F_X3_readSum_l8 g t N) x 0 i s = _
  unfold F_X3_readSum_l8_b
  rw [if_pos (show (0 : Int) = 0 from rfl), d_g_t (Or.inl rfl)]
  split <;> rfl
theorem k_c3 : ∀ a, a ∈ [4, 5, 6, 7] → a ∈ k_Lw := by decide
theorem k_c3e : ∀ a, a ∈ [4, 5, 6, 7] → a ∈ k_Le := by decide
theorem k_c15 : ∀ a, a ∈ [15] → a ∈ k_Lw := by decide
theorem k_c23 : ∀ a, a ∈ [2, 3] → a ∈ k_Le := by decide
theorem k_c0 : ∀ a, a ∈ ([] : List Nat) → a ∈ k_Lw := by decide
theorem k_B4_ok (hW : k_wds t) (ih : k_BB t b n so f) : k_B4 t b n so (f + 1) := by
  obtain ⟨ih0, -, -, ih4, -, -⟩ := ih
  intro m d p u i N C s r hr hf hp hd hi hu hm hN hS
  obtain ⟨N, rfl⟩ : ∃ w, N = w + 1 := ⟨N - 1, by omega⟩
  have hn := hS.1.1.2.1
  rw [t_P4] at hr
  have e42 : F_X3_isSign s 42 = some (v_b (t_is b n p 42 = true)) := P_isSign (c := 42) hS.1
  have e47 : F_X3_isSign s 47 = some (v_b (t_is b n p 47 = true)) := P_isSign (c := 47) hS.1
  show ∃ s', F_X3_readProduct_l8_b (k_F t m) t (F_X3_readProduct_l8 (k_F t m) t N) _ _ _ s = _ ∧ _
  unfold F_X3_readProduct_l8_b
  by_cases ho : t_is b n p 42 = true ∨ t_is b n p 47 = true
  rotate_left
  · rw [if_neg ho] at hr
    subst hr
    refine ⟨s, ?_, ⟨fun _ => ⟨u, C, by simp only; omega, hS, c_VL_nil (fun ν a => by rw [t_V4, if_neg (fun z => ho (Or.inl z)), if_neg (fun z => ho (Or.inr z))]), k_h.rf, by simp only; omega, hp⟩, fun z => absurd rfl z⟩⟩
    rw [if_neg (show ¬ (1 : Int) = 0 by decide), d_g_t (Or.inr rfl), e42, d_b_t, v_bf (fun z => ho (Or.inl z)), if_pos rfl, e47, d_b_t, v_bf (fun z => ho (Or.inr z)), if_pos rfl, v_bt rfl]
    split <;> rfl
  rw [if_pos ho] at hr
  have hpn : p < n := by
    rcases ho with z | z
    · exact t_is_lt z
    · exact t_is_lt z
  have hx := t_x_lt (b := b) hpn
  obtain ⟨s8, a1, a2, a3⟩ := P_step hW hS.1 hp
  have hS8 := hS.T a3 a2
  obtain ⟨s10, c1, c2⟩ := ih0 m d 0 (t_x b n p) u false C s8 _ rfl (by omega) hx.2 hd rfl (by omega) hm hS8
  obtain ⟨r0, hr0⟩ : ∃ z, z = t_P b n (Nat.beq so 1) f 0 d 0 (t_x b n p) := ⟨_, rfl⟩
  rw [← hr0] at hr c1 c2
  have hgo : (if ((i : Nat) : Int) < 300 then if (1 : Int) = 0 then d_g ((1 : Int) = 0 ∨ (1 : Int) = 1) (some ((1 : Int), s)) else d_b (F_X3_isSign s 42) (fun v4 => if v4 = 0 then d_b (F_X3_isSign s 47) (fun v5 => if v5 = 0 then d_g ((1 : Int) = 0 ∨ (1 : Int) = 1) (some ((1 : Int), s)) else F_X3_readProduct_j37 (k_F t m) t (F_X3_readProduct_l8 (k_F t m) t N) (d : Int) (i : Int) s) else F_X3_readProduct_j37 (k_F t m) t (F_X3_readProduct_l8 (k_F t m) t N) (d : Int) (i : Int) s) else d_g ((1 : Int) = 0 ∨ (1 : Int) = 1) (some ((1 : Int), s))) = F_X3_readProduct_j53 (k_F t m) t (F_X3_readProduct_l8 (k_F t m) t N) (d : Int) (i : Int) (((if t_is b n p 42 = true then 7 else 8 : Nat)) : Int) s := by
    rw [if_pos (by omega), if_neg (show ¬ (1 : Int) = 0 by decide), e42, d_b_t]
    unfold F_X3_readProduct_j37
    by_cases q : t_is b n p 42 = true
    · rw [v_bt q, if_neg (show ¬ (1 : Int) = 0 by decide), e42, d_b_t, v_bt q, if_neg (show ¬ (1 : Int) = 0 by decide), if_pos q]; rfl
    · have q7 : t_is b n p 47 = true := ho.resolve_left q
      rw [v_bf q, if_pos rfl, e47, d_b_t, v_bt q7, if_neg (show ¬ (1 : Int) = 0 by decide), e42, d_b_t, v_bf q, if_pos rfl, if_neg q]; rfl
  rw [hgo]
  unfold F_X3_readProduct_j53
  obtain ⟨N2, rfl⟩ : ∃ w, N = w + 1 := ⟨N - 1, by omega⟩
  rw [a1, d_b_t, c1, d_b2_t, d_w_id (x := (i : Int) + 1) (by omega) (by omega)]
  by_cases e0 : r0.1 = 0
  rotate_left
  · rw [if_pos e0] at hr
    subst hr
    rw [v_bf e0, if_pos rfl, k_pr0]
    exact ⟨s10, rfl, k_R.up e0 c2 ((a3.h).mono k_c3e)⟩
  rw [if_neg (fun z => z e0)] at hr
  obtain ⟨u3, C3, g1, g2, g3, g4, g5, g6⟩ := c2.1 e0
  obtain ⟨s12, m1, m2, m3⟩ := P_make g2 (by omega) (e := if t_is b n p 42 = true then 7 else 8) (w := 0) (by split <;> omega) (by decide)
  have m1' : F_X3_make s10 (((if t_is b n p 42 = true then 7 else 8 : Nat)) : Int) 0 = some (1, s12) := m1
  rw [v_bt e0, if_neg (show ¬ (1 : Int) = 0 by decide), m1', d_b2_t, if_neg (show ¬ (1 : Int) = 0 by decide)]
  obtain ⟨s', w1, w2⟩ := ih4 m d r0.2 (u3 + 1) (i + 1) (N2 + 1) _ s12 r hr (by omega) g6 hd (by omega) (by omega) hm (by omega) m2
  refine ⟨s', w1, ?_⟩
  have f12 : k_h k_Lw s s12 := ((a3.h.mono k_c3).tr g4).tr (m3.mono k_c15)
  by_cases er : r.1 = 0
  rotate_left
  · exact k_R.up er w2 (f12.mono k_Lwe)
  obtain ⟨u5, C5, y1, y2, y3, y4, y5, y6⟩ := w2.1 er
  refine ⟨fun _ => ⟨u5, C5, by omega, y2, ?_, f12.tr y4, by omega, y6⟩, fun z => absurd er z⟩
  refine c_VL_op (sm := 0) (x := t_x b n p) (p2 := r0.2) g3 y3 (by split <;> omega) (Nat.le_refl _) rfl (fun ν a => ?_)
  rw [t_V4, ← hr0]
  by_cases q : t_is b n p 42 = true
  · rw [if_pos q, if_pos q]
  · rw [if_neg q, if_pos (ho.resolve_left q), if_neg q]
theorem k_B5_ok (hW : k_wds t) (ih : k_BB t b n so f) : k_B5 t b n so (f + 1) := by
  obtain ⟨-, ih0, -, -, ih4, -⟩ := ih
  intro m d p u i N C s r hr hf hp hd hi hu hm hN hS
  obtain ⟨N, rfl⟩ : ∃ w, N = w + 1 := ⟨N - 1, by omega⟩
  have hn := hS.1.1.2.1
  rw [t_P5] at hr
  have e42 : F_X3_isSign s 43 = some (v_b (t_is b n p 43 = true)) := P_isSign (c := 43) hS.1
  have e47 : F_X3_isSign s 45 = some (v_b (t_is b n p 45 = true)) := P_isSign (c := 45) hS.1
  show ∃ s', F_X3_readSum_l8_b (k_F t m) t (F_X3_readSum_l8 (k_F t m) t N) _ _ _ s = _ ∧ _
  unfold F_X3_readSum_l8_b
  by_cases ho : t_is b n p 43 = true ∨ t_is b n p 45 = true
  rotate_left
  · rw [if_neg ho] at hr
    subst hr
    refine ⟨s, ?_, ⟨fun _ => ⟨u, C, by simp only; omega, hS, c_VL_nil (fun ν a => by rw [t_V5, if_neg (fun z => ho (Or.inl z)), if_neg (fun z => ho (Or.inr z))]), k_h.rf, by simp only; omega, hp⟩, fun z => absurd rfl z⟩⟩
    rw [if_neg (show ¬ (1 : Int) = 0 by decide), d_g_t (Or.inr rfl), e42, d_b_t, v_bf (fun z => ho (Or.inl z)), if_pos rfl, e47, d_b_t, v_bf (fun z => ho (Or.inr z)), if_pos rfl, v_bt rfl]
    split <;> rfl
  rw [if_pos ho] at hr
  have hpn : p < n := by
    rcases ho with z | z
    · exact t_is_lt z
    · exact t_is_lt z
  have hx := t_x_lt (b := b) hpn
  obtain ⟨s8, a1, a2, a3⟩ := P_step hW hS.1 hp
  have hS8 := hS.T a3 a2
  obtain ⟨s10, c1, c2⟩ := ih0 m d 0 (t_x b n p) u false C s8 _ rfl (by omega) hx.2 hd rfl (by omega) hm hS8
  obtain ⟨r0, hr0⟩ : ∃ z, z = t_P b n (Nat.beq so 1) f 1 d 0 (t_x b n p) := ⟨_, rfl⟩
  rw [← hr0] at hr c1 c2
  have hgo : (if ((i : Nat) : Int) < 300 then if (1 : Int) = 0 then d_g ((1 : Int) = 0 ∨ (1 : Int) = 1) (some ((1 : Int), s)) else d_b (F_X3_isSign s 43) (fun v4 => if v4 = 0 then d_b (F_X3_isSign s 45) (fun v5 => if v5 = 0 then d_g ((1 : Int) = 0 ∨ (1 : Int) = 1) (some ((1 : Int), s)) else F_X3_readSum_j37 (k_F t m) t (F_X3_readSum_l8 (k_F t m) t N) (d : Int) (i : Int) s) else F_X3_readSum_j37 (k_F t m) t (F_X3_readSum_l8 (k_F t m) t N) (d : Int) (i : Int) s) else d_g ((1 : Int) = 0 ∨ (1 : Int) = 1) (some ((1 : Int), s))) = F_X3_readSum_j52 (k_F t m) t (F_X3_readSum_l8 (k_F t m) t N) (d : Int) (i : Int) (((if t_is b n p 43 = true then 5 else 6 : Nat)) : Int) s := by
    rw [if_pos (by omega), if_neg (show ¬ (1 : Int) = 0 by decide), e42, d_b_t]
    unfold F_X3_readSum_j37
    by_cases q : t_is b n p 43 = true
    · rw [v_bt q, if_neg (show ¬ (1 : Int) = 0 by decide), e42, d_b_t, v_bt q, if_neg (show ¬ (1 : Int) = 0 by decide), if_pos q]; rfl
    · have q7 : t_is b n p 45 = true := ho.resolve_left q
      rw [v_bf q, if_pos rfl, e47, d_b_t, v_bt q7, if_neg (show ¬ (1 : Int) = 0 by decide), e42, d_b_t, v_bf q, if_pos rfl, if_neg q]; rfl
  rw [hgo]
  unfold F_X3_readSum_j52
  obtain ⟨N2, rfl⟩ : ∃ w, N = w + 1 := ⟨N - 1, by omega⟩
  rw [a1, d_b_t, c1, d_b2_t, d_w_id (x := (i : Int) + 1) (by omega) (by omega)]
  by_cases e0 : r0.1 = 0
  rotate_left
  · rw [if_pos e0] at hr
    subst hr
    rw [v_bf e0, if_pos rfl, k_su0]
    exact ⟨s10, rfl, k_R.up e0 c2 ((a3.h).mono k_c3e)⟩
  rw [if_neg (fun z => z e0)] at hr
  obtain ⟨u3, C3, g1, g2, g3, g4, g5, g6⟩ := c2.1 e0
  obtain ⟨s12, m1, m2, m3⟩ := P_make g2 (by omega) (e := if t_is b n p 43 = true then 5 else 6) (w := 0) (by split <;> omega) (by decide)
  have m1' : F_X3_make s10 (((if t_is b n p 43 = true then 5 else 6 : Nat)) : Int) 0 = some (1, s12) := m1
  rw [v_bt e0, if_neg (show ¬ (1 : Int) = 0 by decide), m1', d_b2_t, if_neg (show ¬ (1 : Int) = 0 by decide)]
  obtain ⟨s', w1, w2⟩ := ih4 m d r0.2 (u3 + 1) (i + 1) (N2 + 1) _ s12 r hr (by omega) g6 hd (by omega) (by omega) hm (by omega) m2
  refine ⟨s', w1, ?_⟩
  have f12 : k_h k_Lw s s12 := ((a3.h.mono k_c3).tr g4).tr (m3.mono k_c15)
  by_cases er : r.1 = 0
  rotate_left
  · exact k_R.up er w2 (f12.mono k_Lwe)
  obtain ⟨u5, C5, y1, y2, y3, y4, y5, y6⟩ := w2.1 er
  refine ⟨fun _ => ⟨u5, C5, by omega, y2, ?_, f12.tr y4, by omega, y6⟩, fun z => absurd er z⟩
  refine c_VL_op (sm := 1) (x := t_x b n p) (p2 := r0.2) g3 y3 (by split <;> omega) (Nat.le_refl _) rfl (fun ν a => ?_)
  rw [t_V5, ← hr0]
  by_cases q : t_is b n p 43 = true
  · rw [if_pos q, if_pos q]
  · rw [if_neg q, if_pos (ho.resolve_left q), if_neg q]
theorem k_B1_ok (ih : k_BB t b n so f) : k_B1 t b n so (f + 1) := by
  obtain ⟨ih0, -, -, ih4, -, -⟩ := ih
  intro m d k p u sv C s r hr hf hp hd hk hu hm hS
  obtain ⟨m, rfl⟩ : ∃ w, m = w + 1 := ⟨m - 1, by omega⟩
  have hn := hS.1.1.2.1
  rw [t_P1] at hr
  obtain ⟨s1, c1, c2⟩ := ih0 m d k p u sv C s _ rfl (by omega) hp hd hk hu (by omega) hS
  obtain ⟨r0, hr0⟩ : ∃ z, z = t_P b n (Nat.beq so 1) f 0 d k p := ⟨_, rfl⟩
  rw [← hr0] at hr c1 c2
  show ∃ s', F_X3_readProduct (k_F t m) t s (d : Int) = _ ∧ _
  unfold F_X3_readProduct
  rw [c1, d_b2_t]
  by_cases e0 : r0.1 = 0
  rotate_left
  · rw [if_pos e0] at hr
    subst hr
    rw [v_bf e0, d_N_is, k_pr0]
    exact ⟨s1, rfl, k_R.up e0 c2 k_h.rf⟩
  rw [if_neg (fun z => z e0)] at hr
  obtain ⟨u3, C3, g1, g2, g3, g4, g5, g6⟩ := c2.1 e0
  obtain ⟨s', w1, w2⟩ := ih4 m d r0.2 u3 0 d_N C3 s1 r hr (by omega) g6 hd (by omega) (by omega) (by omega) (by rw [d_N_is]; omega) g2
  rw [v_bt e0]
  refine ⟨s', w1, ?_⟩
  by_cases er : r.1 = 0
  rotate_left
  · exact k_R.up er w2 (g4.mono k_Lwe)
  obtain ⟨u5, C5, y1, y2, y3, y4, y5, y6⟩ := w2.1 er
  refine ⟨fun _ => ⟨u5, C5, by omega, y2, ?_, g4.tr y4, by omega, y6⟩, fun z => absurd er z⟩
  exact c_V_loop g3 y3 (Nat.le_refl _) rfl (fun ν => by rw [t_V1, ← hr0])
theorem k_B2_ok (ih : k_BB t b n so f) : k_B2 t b n so (f + 1) := by
  obtain ⟨-, ih0, -, -, ih4, -⟩ := ih
  intro m d k p u sv C s r hr hf hp hd hk hu hm hS
  obtain ⟨m, rfl⟩ : ∃ w, m = w + 1 := ⟨m - 1, by omega⟩
  have hn := hS.1.1.2.1
  rw [t_P2] at hr
  obtain ⟨s1, c1, c2⟩ := ih0 m d k p u sv C s _ rfl (by omega) hp hd hk hu (by omega) hS
  obtain ⟨r0, hr0⟩ : ∃ z, z = t_P b n (Nat.beq so 1) f 1 d k p := ⟨_, rfl⟩
  rw [← hr0] at hr c1 c2
  show ∃ s', F_X3_readSum (k_F t m) t s (d : Int) = _ ∧ _
  unfold F_X3_readSum
  rw [c1, d_b2_t]
  by_cases e0 : r0.1 = 0
  rotate_left
  · rw [if_pos e0] at hr
    subst hr
    rw [v_bf e0, d_N_is, k_su0]
    exact ⟨s1, rfl, k_R.up e0 c2 k_h.rf⟩
  rw [if_neg (fun z => z e0)] at hr
  obtain ⟨u3, C3, g1, g2, g3, g4, g5, g6⟩ := c2.1 e0
  obtain ⟨s', w1, w2⟩ := ih4 m d r0.2 u3 0 d_N C3 s1 r hr (by omega) g6 hd (by omega) (by omega) (by omega) (by rw [d_N_is]; omega) g2
  rw [v_bt e0]
  refine ⟨s', w1, ?_⟩
  by_cases er : r.1 = 0
  rotate_left
  · exact k_R.up er w2 (g4.mono k_Lwe)
  obtain ⟨u5, C5, y1, y2, y3, y4, y5, y6⟩ := w2.1 er
  refine ⟨fun _ => ⟨u5, C5, by omega, y2, ?_, g4.tr y4, by omega, y6⟩, fun z => absurd er z⟩
  exact c_V_loop g3 y3 (Nat.le_refl _) rfl (fun ν => by rw [t_V2, ← hr0])
end X3
section X4
variable {s s1 s' : d_S} {t : Nat → Option p_C} {b : Nat → Nat} {n p q u f : Nat} {C : Nat → Nat × Nat} {so d e : Nat} {sv : Bool} {g : d_G} {V : Nat → (Nat → Nat × Nat) → Prop} {r : Nat × Nat}
theorem t_P27 {d p g : Nat} {S : Bool} (h : (t_P b n S (g + 3) 2 d 7 p).1 = 0) : False := by
  have e0 : (t_P b n S (g + 1) 0 d 7 p).1 ≠ 0 := by
    rw [t_P0]
    by_cases q : t_F b n S d p ≠ 0
    · rw [if_pos q]; exact q
    · rw [if_neg q, if_pos rfl]; simp
  have e1 : (t_P b n S (g + 2) 1 d 7 p).1 ≠ 0 := by rw [t_P1, if_pos e0]; exact e0
  rw [t_P2, if_pos e1] at h
  exact e1 h
theorem k_S.sev (h : k_S b n p u C so sv s) {sv' : Bool} {y : Int} (hy : y = if sv' = true then 1 else 0) : k_S b n p u C so sv' (d_si s 43 17 y) ∧ k_f [17] s (d_si s 43 17 y) := by
  have f : k_f [17] s (d_si s 43 17 y) := k_f.si (by decide)
  obtain ⟨hT, ⟨a15, a16, a17⟩, a600, hC⟩ := h
  exact ⟨⟨hT.f f (by decide), ⟨by rw [f.1 15 (by decide)]; exact a15, by rw [f.1 16 (by decide)]; exact a16, by rw [d_si_i, d_u_t]; exact hy⟩, a600, fun k hk => by rw [f.2.1 46 (by decide)]; exact hC k hk⟩, f⟩
theorem k_c17 : ∀ a, a ∈ [17] → a ∈ k_Lw := by decide
theorem t_beq7 {k : Nat} (h : k ≠ 7) : Nat.beq k 7 = false := Bool.eq_false_iff.mpr (fun e => h (Nat.eq_of_beq_eq_true e))
theorem k_B6_ok (hW : k_wds t) (ih : k_BB t b n so f) : k_B6 t b n so (f + 1) := by
  obtain ⟨-, -, ih2, -, -, ih6⟩ := ih
  intro m d k p u o N C L s r hr hf hp hd1 hd hk1 hk7 hu hch hL hm hN hS
  obtain ⟨N, rfl⟩ : ∃ w, N = w + 1 := ⟨N - 1, by omega⟩
  have hn := hS.1.1.2.1
  rw [t_P6] at hr
  obtain ⟨s8, m1, m2, m3⟩ := P_make hS (by omega) (e := 4) (w := 0) (by decide) (by decide)
  have m1' : F_X3_make s 4 0 = some (1, s8) := m1
  have ou : o ≤ u := by
    cases L with
    | nil => have : o = 0 := hch; omega
    | cons j L => have h1 := hch.1; have h2 := hch.2.1; omega
  have e15 : s.1 43 15 = (u : Int) := hS.2.1.1
  have go : ∀ s9 : d_S, k_S b n p (u + 1) (c_up C u (4, 0)) so (Nat.beq k 7) s9 → k_h k_Lw s s9 → ∃ s', d_b2 ((k_F t m).1 s9 (d : Int)) (fun v10 s11 => if v10 = 0 then some (0, s11) else d_b (F_X3_isSign s11 44) (fun v12 => if v12 = 0 then k_Ke t ((o : Int) - 1) s11 else d_b2 (F_X3_make s11 3 (d_w (((o : Int) - 1) + 1))) (fun v13 s14 => d_l (d_w ((s14.1 43 15) - 1)) (fun z15 => d_b (F_X3_lead s14 (s.1 43 15) (s14.1 43 15)) (fun s16 => d_b (F_X3_step t s16) (fun s17 => F_X3_readChoice_l32 (k_F t m) t (k_Ke t) N (d : Int) z15 (d_w ((k : Int) + 1)) s17)))))) = some (v_b (r.1 = 0), s') ∧ k_R 1 b n p u so (c_VA b n so (f + 1) d k p (c_D d + 2) u C L) r s s' := fun s9 hS9 f9 => by
    obtain ⟨s11, c1, c2⟩ := ih2 m d k p (u + 1) (Nat.beq k 7) (c_up C u (4, 0)) s9 _ rfl (by omega) hp hd rfl (by omega) hm hS9
    obtain ⟨r0, hr0⟩ : ∃ z, z = t_P b n (Nat.beq so 1) f 2 d k p := ⟨_, rfl⟩
    rw [← hr0] at hr c1 c2
    rw [c1, d_b2_t]
    by_cases e0 : r0.1 = 0
    rotate_left
    · rw [if_pos e0] at hr
      subst hr
      rw [v_bf e0, if_pos rfl]
      exact ⟨s11, rfl, k_R.up e0 c2 (f9.mono k_Lwe)⟩
    rw [if_neg (fun z => z e0)] at hr
    have k6 : k ≠ 7 := fun z => by
      subst z
      obtain ⟨g, rfl⟩ : ∃ g, f = g + 3 := ⟨f - 3, by omega⟩
      exact t_P27 (by rw [← hr0]; exact e0)
    obtain ⟨u3, C3, g1, g2, g3, g4, g5, g6⟩ := c2.1 e0
    have e44 : F_X3_isSign s11 44 = some (v_b (t_is b n r0.2 44 = true)) := P_isSign (c := 44) g2.1
    have f11 : k_h k_Lw s s11 := f9.tr g4
    have hLu := c_ch_lt hch
    have keep : ∀ j, j < u → C3 j = C j := fun j hj => by rw [g3.2.1 j (by omega), c_up_ne (by omega)]
    rw [v_bt e0, if_neg (show ¬ (1 : Int) = 0 by decide), e44, d_b_t]
    by_cases h44 : t_is b n r0.2 44 = true
    · rw [if_pos h44] at hr
      have hx := t_x_lt (b := b) (t_is_lt h44)
      have u3u : u < u3 := g3.1
      obtain ⟨s14, y1, y2, y3⟩ := P_make g2 (by omega) (e := 3) (w := o) (by decide) (by omega)
      have y1' : F_X3_make s11 3 (o : Int) = some (1, s14) := y1
      have e14 : s14.1 43 15 = ((u3 + 1 : Nat) : Int) := y2.2.1.1
      obtain ⟨s16, l1, l2, l3⟩ := P_lead y2 (j := u) (to := u3 + 1) (by omega) (by omega)
      have cu : (c_up C3 u3 (3, o)) u = (4, 0) := by rw [c_up_ne (by omega), g3.2.1 u (by omega), c_up_at]
      rw [cu] at l2
      obtain ⟨s17, w1, w2, w3⟩ := P_step hW l2.1 g6
      have hS17 := l2.T w3 w2
      have f17 : k_h k_Lw s s17 := ((f11.tr (y3.mono k_c15)).tr (l3.mono k_c0)).tr (w3.h.mono k_c3)
      have hch' : c_ch (c_up (c_up C3 u3 (3, o)) u (4, u3 + 1)) (u3 + 1) (u3 + 1) (u3 :: L) := by
        have e3 : (c_up (c_up C3 u3 (3, o)) u (4, u3 + 1)) u3 = (3, o) := by rw [c_up_ne (by omega), c_up_at]
        refine ⟨rfl, by omega, by rw [e3], fun j hj => by have := hLu j hj; omega, ?_⟩
        rw [e3]
        refine c_ch_cong (by omega) hch (fun j hj => ?_)
        have := hLu j hj
        rw [c_up_ne (by omega), c_up_ne (by omega), keep j this]
      obtain ⟨s', z1, z2⟩ := ih6 m d (k + 1) (t_x b n r0.2) (u3 + 1) (u3 + 1) N _ (u3 :: L) s17 r hr (by omega) hx.2 hd1 hd (by omega) (by omega) (by omega) hch' (by rw [List.length_cons]; omega) hm (by omega) hS17
      refine ⟨s', ?_, ?_⟩
      · rw [v_bt h44, if_neg (show ¬ (1 : Int) = 0 by decide), show d_w ((o : Int) - 1 + 1) = (o : Int) by rw [d_w_id (by omega) (by omega)]; omega, y1', d_b2_t, d_l_t, e14, e15, l1, d_b_t, w1, d_b_t, d_w_id (x := ((u3 + 1 : Nat) : Int) - 1) (by omega) (by omega), d_w_id (x := (k : Int) + 1) (by omega) (by omega)]
        exact z1
      · by_cases er : r.1 = 0
        rotate_left
        · exact k_R.up er z2 (f17.mono k_Lwe)
        obtain ⟨u7, C7, v1, v2, v3, v4, v5, v6⟩ := z2.1 er
        refine ⟨fun _ => ⟨u7, C7, by omega, v2, ?_, f17.tr v4, by omega, v6⟩, fun z => absurd er z⟩
        refine c_VA_more g3 hLu v3 (by unfold c_D; omega) (fun ν z => ?_)
        rw [t_V6, ← hr0, if_pos h44]
    · rw [if_neg h44] at hr
      rw [v_bf h44, if_pos rfl]
      unfold k_Ke
      have hch3 : c_ch C3 u3 o L := c_ch_cong (by have := g3.1; omega) hch (fun j hj => keep j (hLu j hj))
      obtain ⟨s28, y1, y2, y3⟩ := P_close g2 hch3 (by omega)
      rw [y1, d_b_t]
      have f28 : k_h k_Lw s s28 := f11.tr (y3.mono k_c0)
      rcases P_takeSign hW y2.1 g6 (c := 41) with ⟨h41, s', w1, w2, w3⟩ | ⟨h41, s', w1, w2, w3, w4⟩
      · have w1' : F_X3_takeSign t s28 41 = some (1, s') := w1
        rw [if_pos h41] at hr
        subst hr
        have hx := t_x_lt (b := b) (t_is_lt h41)
        refine ⟨s', by rw [w1', d_b2_t, v_bt rfl], ⟨fun _ => ⟨u3, c_to C3 L u3, by simp only; omega, y2.T w3 w2, ?_, f28.tr (w3.h.mono k_c3), by simp only; omega, hx.2⟩, fun z => absurd rfl z⟩⟩
        refine c_VA_last g3 hLu (fun ν z => ?_)
        rw [t_V6, ← hr0, if_neg h44]
      · have w1' : F_X3_takeSign t s28 41 = some (0, s') := w1
        rw [if_neg (by rw [h41]; decide)] at hr
        subst hr
        refine ⟨s', by rw [w1', d_b2_t, v_bf (show ¬ (1 : Nat) = 0 by decide)], k_R.no (show (1 : Nat) ≠ 0 by decide) w2 w3 ((f28.mono k_Lwe).tr (w4.h.mono k_c23))⟩
  show ∃ s', F_X3_readChoice_l32_b (k_F t m) t (k_Ke t) (F_X3_readChoice_l32 (k_F t m) t (k_Ke t) N) _ _ _ s = _ ∧ _
  unfold F_X3_readChoice_l32_b
  rw [if_neg (by omega), m1', d_b2_t]
  by_cases k6 : k = 7
  · obtain ⟨q1, q2⟩ := m2.sev (sv' := Nat.beq k 7) (y := 1) (by rw [k6]; rfl)
    rw [if_pos (by omega), d_l_t]
    exact go _ q1 ((m3.mono k_c15).tr (q2.h.mono k_c17))
  · obtain ⟨q1, q2⟩ := m2.sev (sv' := Nat.beq k 7) (y := 0) (by rw [t_beq7 k6]; rfl)
    rw [if_neg (by omega), d_l_t]
    exact go _ q1 ((m3.mono k_c15).tr (q2.h.mono k_c17))
theorem c_nu_ : ∀ j, 8 ≤ j → j < 16 → (if decide (8 = j) = true then 0 else if decide (9 = j) = true then 1 else if decide (10 = j) = true then 2 else if decide (11 = j) = true then 3 else if decide (12 = j) = true then 4 else if decide (13 = j) = true then 5 else if decide (14 = j) = true then 6 else 7 : Nat) = j - 8 := by
  intro j h1 h2
  have : j = 8 ∨ j = 9 ∨ j = 10 ∨ j = 11 ∨ j = 12 ∨ j = 13 ∨ j = 14 ∨ j = 15 := by omega
  rcases this with rfl | rfl | rfl | rfl | rfl | rfl | rfl | rfl <;> decide
theorem k_nu (h : k_T b n p s) (hp : p ≤ n) (hm : c_nm b n p = true) : s.1 43 7 - 8 = ((t_nu b n p : Nat) : Int) ∧ t_nu b n p < 8 ∧ t_k b n p = 1 := by
  obtain ⟨n1, n0⟩ := k_nm h hp
  have k1 : t_k b n p = 1 := by
    by_cases z : t_k b n p = 1
    · exact z
    · unfold c_nm at hm
      rw [(n0 z).1, (n0 z).2] at hm
      cases hm
  have hv : 8 ≤ s.1 43 7 ∧ s.1 43 7 ≤ 15 := by
    unfold c_nm at hm
    rw [Bool.or_eq_true] at hm
    rcases hm with e | e
    · have := (n1 k1).1.1 e; omega
    · have := (n1 k1).2.1 e; omega
  have e6 : s.1 43 6 = 1 := by rw [h.2.1.2.2, k1]; rfl
  obtain ⟨j, hj⟩ : ∃ j : Nat, s.1 43 7 = j := ⟨(s.1 43 7).toNat, by omega⟩
  have H : ∀ i, i < 22 → t_wd b n p i = decide (i = j) := fun i hi => by
    have := k_wd h hp hi
    by_cases q : i = j
    · subst q; rw [decide_eq_true rfl]; exact this.1 ⟨e6, hj⟩
    · rw [decide_eq_false q]
      exact Bool.eq_false_iff.mpr (fun e => q (by have := (this.2 e).2; omega))
  have e : t_nu b n p = j - 8 := by
    unfold t_nu
    rw [H 8 (by decide), H 9 (by decide), H 10 (by decide), H 11 (by decide), H 12 (by decide), H 13 (by decide), H 14 (by decide)]
    exact c_nu_ j (by omega) (by omega)
  exact ⟨by omega, by omega, k1⟩
theorem k_B0_ok (hW : k_wds t) (ih : k_BB t b n so f) : k_B0 t b n so (f + 1) := by
  obtain ⟨ih0, -, ih2, -, -, ih6⟩ := ih
  intro m d k p u sv C s r hr hf hp hd hk hu hm hS
  obtain ⟨m, rfl⟩ : ∃ w, m = w + 1 := ⟨m - 1, by omega⟩
  have hn := hS.1.1.2.1
  have hfo := P_fault (d := d) hS hp
  show ∃ s', F_X3_readOne (k_F t m) t s (d : Int) = _ ∧ _
  rw [k_one hS.1 hp]
  have e5 : s.1 43 5 = (p : Int) := hS.1.2.1.2.1
  by_cases fo : k_fo b n (Nat.beq so 1) d p sv = 0
  rotate_left
  · obtain ⟨s', w1, w2, w3, w4⟩ := P_wrong (s := s) (p := p) (f := ((k_fo b n (Nat.beq so 1) d p sv : Nat) : Int)) e5
    have hr2 : r = (k_fo b n (Nat.beq so 1) d p sv, p) := by
      rw [← hr, t_P0]
      unfold k_fo at fo ⊢
      by_cases q : t_F b n (Nat.beq so 1) d p ≠ 0
      · rw [if_pos q, if_pos q]
      · rw [if_neg q] at fo
        rw [if_neg q, if_neg q]
        by_cases z : sv = true
        · rw [if_pos z, if_pos (Nat.eq_of_beq_eq_true (hk.symm.trans z))]
        · rw [if_neg z] at fo; exact absurd rfl fo
    subst hr2
    refine ⟨s', ?_, k_R.no fo w2 w3 (w4.h.mono k_c23)⟩
    have fi : ¬ ((k_fo b n (Nat.beq so 1) d p sv : Nat) : Int) = 0 := by omega
    rw [v_bf fo]
    by_cases hm : c_nm b n p = true
    · have ho : ¬ t_op b n p = true := by
        have m' := hm
        unfold c_nm at m'
        rw [Bool.or_eq_true] at m'
        exact t_nm_op m'
      rw [v_bf ho, v_bt hm] at hfo
      rw [if_pos hm]
      unfold F_X3_readOne_j60_1
      rw [hfo, d_b_t, if_neg fi, w1, d_b2_t]
    · rw [v_bf hm] at hfo
      rw [if_neg hm]
      unfold F_X3_readOne_j59
      rw [hfo, d_b_t, if_neg fi, w1, d_b2_t]
  have hF : t_F b n (Nat.beq so 1) d p = 0 := by
    unfold k_fo at fo
    by_cases q : t_F b n (Nat.beq so 1) d p ≠ 0
    · rw [if_pos q] at fo; exact absurd fo q
    · omega
  have hsv : sv = false := by
    unfold k_fo at fo
    rw [if_neg (fun z => z hF)] at fo
    cases sv
    · rfl
    · exact absurd fo (by decide)
  have hk7 : k ≠ 7 := fun z => by rw [z] at hk; rw [hsv] at hk; cases hk
  rw [fo] at hfo
  subst hsv
  rw [t_P0, if_neg (fun z => z hF), if_neg hk7] at hr
  have hpn := t_F_lt hF
  have hx := t_x_lt (b := b) hpn
  obtain ⟨s7, a1, a2, a3⟩ := P_step hW hS.1 hp
  have hS7 := hS.T a3 a2
  have e20 : F_X3_isWord s 20 = some (v_b (t_wd b n p 20 = true)) := P_isWord (k := 20) hS.1 hp (by decide)
  have z0 : ((0 : Nat) : Int) = 0 := rfl
  have f7 : k_h k_Lw s s7 := a3.h.mono k_c3
  by_cases hm : c_nm b n p = true
  · have ho : ¬ t_op b n p = true := by
      have m' := hm
      unfold c_nm at m'
      rw [Bool.or_eq_true] at m'
      exact t_nm_op m'
    obtain ⟨n1, n2, n3⟩ := k_nu hS.1 hp hm
    rw [v_bf ho, v_bt hm] at hfo
    rw [if_pos (Bool.eq_false_iff.mpr ho)] at hr
    subst hr
    obtain ⟨s9, m1, m2, m3⟩ := P_make hS7 (by omega) (e := 1) (w := t_nu b n p) (by decide) (by omega)
    have m1' : F_X3_make s7 1 ((t_nu b n p : Nat) : Int) = some (1, s9) := m1
    rw [if_pos hm]
    unfold F_X3_readOne_j60_1
    rw [hfo, d_b_t, if_pos z0, e20, d_b_t, a1, d_b_t, if_pos (show (0 : Int) = 0 from rfl), n1, d_w_id (by omega) (by omega), m1', d_b2_t]
    refine ⟨s9, by rw [v_bt rfl], ⟨fun _ => ⟨u + 1, _, by simp only; omega, m2, ?_, f7.tr (m3.mono k_c15), by simp only; omega, hx.2⟩, fun z => absurd rfl z⟩⟩
    refine c_V_one (Or.inr ⟨rfl, n2⟩) (by unfold c_D; omega) (fun ν => ?_)
    rw [t_V0, if_pos (Bool.eq_false_iff.mpr ho), if_neg (by omega), if_neg (by decide)]
  rw [v_bf hm] at hfo
  rw [if_neg hm]
  by_cases ho : t_op b n p = true
  rotate_left
  · have k2 : t_k b n p = 2 := by
      by_cases z : t_k b n p = 2
      · exact z
      · unfold t_F at hF
        have m6 : ¬ t_nm6 b n p = true := fun e => hm (by unfold c_nm; rw [e]; rfl)
        have m2 : ¬ t_nm2 b n p = true := fun e => hm (by unfold c_nm; rw [e]; simp)
        rw [if_neg z, if_neg m6, if_neg m2, if_neg ho] at hF
        omega
    have h7 := hS.1.2.2.2.1 k2
    have hle : t_n b n p ≤ 9999 := by
      unfold t_F at hF
      rw [if_pos k2] at hF
      by_cases z : 9999 < t_n b n p
      · rw [if_pos z] at hF; omega
      · omega
    rw [v_bf ho] at hfo
    rw [if_pos (Bool.eq_false_iff.mpr ho)] at hr
    subst hr
    obtain ⟨s9, m1, m2, m3⟩ := P_make hS7 (by omega) (e := 0) (w := t_n b n p) (by decide) (by omega)
    have m1' : F_X3_make s7 0 ((t_n b n p : Nat) : Int) = some (1, s9) := m1
    rw [v_bf ho]
    unfold F_X3_readOne_j59
    rw [hfo, d_b_t, if_pos z0, e20, d_b_t, a1, d_b_t, if_pos (show (0 : Int) = 0 from rfl), h7, show min 10000 (t_n b n p) = t_n b n p by omega, m1', d_b2_t]
    refine ⟨s9, by rw [v_bt rfl], ⟨fun _ => ⟨u + 1, _, by simp only; omega, m2, ?_, f7.tr (m3.mono k_c15), by simp only; omega, hx.2⟩, fun z => absurd rfl z⟩⟩
    refine c_V_one (Or.inl rfl) (by unfold c_D; omega) (fun ν => ?_)
    rw [t_V0, if_pos (Bool.eq_false_iff.mpr ho), if_pos k2, if_pos rfl]
  have hd8 : d < 8 := t_F_op hF ho
  rw [v_bt ho] at hfo
  rw [if_neg (by rw [ho]; decide)] at hr
  have ed : d_w ((d : Int) + 1) = ((d + 1 : Nat) : Int) := d_w_id (by omega) (by omega)
  have hcD : c_D (d + 1) + 2 = c_D d := by unfold c_D; omega
  rw [v_bt ho]
  unfold F_X3_readOne_j59
  rw [hfo, d_b_t, if_pos z0, e20, d_b_t, a1, d_b_t, if_neg (show ¬ (1 : Int) = 0 by decide), ed]
  by_cases h20 : t_wd b n p 20 = true
  · rw [if_pos h20] at hr
    rw [v_bt h20, if_neg (show ¬ (1 : Int) = 0 by decide)]
    obtain ⟨m, rfl⟩ : ∃ w, m = w + 1 := ⟨m - 1, by omega⟩
    have eg : (k_F t (m + 1)).2.2.2 = F_X3_readChoice (k_F t m) t := rfl
    rw [eg]
    unfold F_X3_readChoice
    obtain ⟨s2, c1, c2⟩ := ih0 m (d + 1) 0 (t_x b n p) u false C s7 _ rfl (by omega) hx.2 (by omega) rfl (by omega) (by omega) hS7
    obtain ⟨r0, hr0⟩ : ∃ z, z = t_P b n (Nat.beq so 1) f 0 (d + 1) 0 (t_x b n p) := ⟨_, rfl⟩
    rw [← hr0] at hr c1 c2
    rw [c1, d_b2_t]
    by_cases e0 : r0.1 = 0
    rotate_left
    · rw [if_pos e0] at hr
      subst hr
      rw [v_bf e0, if_pos rfl, d_b2_t]
      exact ⟨s2, rfl, k_R.up e0 c2 (f7.mono k_Lwe)⟩
    rw [if_neg (fun z => z e0)] at hr
    obtain ⟨u3, C3, g1, g2, g3, g4, g5, g6⟩ := c2.1 e0
    have f2 : k_h k_Lw s s2 := f7.tr g4
    rw [v_bt e0, if_neg (show ¬ (1 : Int) = 0 by decide)]
    rcases P_takeWord hW g2.1 g6 (k := 21) (by decide) with ⟨h21, s4, w1, w2, w3⟩ | ⟨h21, s4, w1, w2, w3, w4⟩
    rotate_left
    · have w1' : F_X3_takeWord t s2 21 = some (0, s4) := w1
      rw [if_pos h21] at hr
      subst hr
      rw [w1', d_b2_t, if_pos rfl, d_b2_t]
      exact ⟨s4, by rw [v_bf (show ¬ (1 : Nat) = 0 by decide)], k_R.no (show (1 : Nat) ≠ 0 by decide) w2 w3 ((f2.mono k_Lwe).tr (w4.h.mono k_c23))⟩
    have w1' : F_X3_takeWord t s2 21 = some (1, s4) := w1
    rw [if_neg (by rw [h21]; decide)] at hr
    rw [w1', d_b2_t, if_neg (show ¬ (1 : Int) = 0 by decide)]
    have hx2 := t_x_lt (b := b) (t_wd_lt h21)
    have hS4 := g2.T w3 w2
    have f4 : k_h k_Lw s s4 := f2.tr (w3.h.mono k_c3)
    rcases P_takeSign hW hS4.1 hx2.2 (c := 40) with ⟨h40, s6, y1, y2, y3⟩ | ⟨h40, s6, y1, y2, y3, y4⟩
    rotate_left
    · have y1' : F_X3_takeSign t s4 40 = some (0, s6) := y1
      rw [if_pos h40] at hr
      subst hr
      rw [y1', d_b2_t, if_pos rfl, d_b2_t]
      exact ⟨s6, by rw [v_bf (show ¬ (1 : Nat) = 0 by decide)], k_R.no (show (1 : Nat) ≠ 0 by decide) y2 y3 ((f4.mono k_Lwe).tr (y4.h.mono k_c23))⟩
    have y1' : F_X3_takeSign t s4 40 = some (1, s6) := y1
    rw [if_neg (by rw [h40]; decide)] at hr
    rw [y1', d_b2_t, if_neg (show ¬ (1 : Int) = 0 by decide)]
    have hx3 := t_x_lt (b := b) (t_is_lt h40)
    have hS6 := hS4.T y3 y2
    have f6 : k_h k_Lw s s6 := f4.tr (y3.h.mono k_c3)
    obtain ⟨s', z1, z2⟩ := ih6 m (d + 1) 1 (t_x b n (t_x b n r0.2)) u3 0 d_N C3 [] s6 r hr (by omega) hx3.2 (by omega) (by omega) (by omega) (by omega) (by omega) rfl rfl (by omega) (by rw [d_N_is]; omega) hS6
    have z1' : F_X3_readChoice_l32 (k_F t m) t (k_Ke t) d_N ((d + 1 : Nat) : Int) (-1) 1 s6 = some (v_b (r.1 = 0), s') := z1
    refine ⟨s', ?_, ?_⟩
    · show d_b2 (F_X3_readChoice_l32 (k_F t m) t (k_Ke t) d_N ((d + 1 : Nat) : Int) (-1) 1 s6) _ = _
      rw [z1', d_b2_t]
    · by_cases er : r.1 = 0
      rotate_left
      · exact k_R.up er z2 (f6.mono k_Lwe)
      obtain ⟨u5, C5, v1, v2, v3, v4, v5, v6⟩ := z2.1 er
      refine ⟨fun _ => ⟨u5, C5, by omega, v2, ?_, f6.tr v4, by omega, v6⟩, fun z => absurd er z⟩
      refine c_V_sel (d2 := d + 1) g3 v3 (by omega) (by omega) (fun ν => ?_)
      rw [t_V0, if_neg (by rw [ho]; decide), if_pos h20, ← hr0]
  rw [if_neg h20] at hr
  rw [v_bf h20, if_pos rfl]
  have hsg : t_is b n p 40 = true ∨ t_is b n p 45 = true := by
    unfold t_op at ho
    rw [Bool.or_eq_true, Bool.or_eq_true] at ho
    rcases ho with e | e | e
    · exact Or.inl e
    · exact Or.inr e
    · exact absurd e h20
  have k3 : t_k b n p = 3 := by rcases hsg with e | e <;> exact (t_is_iff.mp e).1
  have h7 := hS.1.2.2.2.2 k3
  by_cases h45 : t_is b n p 45 = true
  · have b45 := (t_is_iff.mp h45).2
    rw [if_pos h45] at hr
    rw [if_pos (by omega)]
    obtain ⟨s11, c1, c2⟩ := ih0 m (d + 1) 0 (t_x b n p) u false C s7 _ rfl (by omega) hx.2 (by omega) rfl (by omega) (by omega) hS7
    rw [hr] at c1 c2
    rw [c1, d_b2_t]
    by_cases e0 : r.1 = 0
    rotate_left
    · rw [v_bf e0, if_pos rfl]
      exact ⟨s11, rfl, k_R.up e0 c2 (f7.mono k_Lwe)⟩
    obtain ⟨u3, C3, g1, g2, g3, g4, g5, g6⟩ := c2.1 e0
    obtain ⟨s13, m1, m2, m3⟩ := P_make g2 (by omega) (e := 2) (w := 0) (by decide) (by decide)
    have m1' : F_X3_make s11 2 0 = some (1, s13) := m1
    rw [v_bt e0, if_neg (show ¬ (1 : Int) = 0 by decide), m1', d_b2_t, if_neg (show ¬ (1 : Int) = 0 by decide)]
    refine ⟨s13, rfl, ⟨fun _ => ⟨u3 + 1, _, by omega, m2, ?_, (f7.tr g4).tr (m3.mono k_c15), by omega, g6⟩, fun z => absurd e0 z⟩⟩
    refine c_V_neg g3 (by omega) (fun ν => ?_)
    rw [t_V0, if_neg (by rw [ho]; decide), if_neg h20, if_pos h45]
  have h40 : t_is b n p 40 = true := hsg.resolve_right h45
  have b40 := (t_is_iff.mp h40).2
  rw [if_neg h45] at hr
  rw [if_neg (by omega)]
  obtain ⟨s15, c1, c2⟩ := ih2 m (d + 1) 0 (t_x b n p) u false C s7 _ rfl (by omega) hx.2 (by omega) rfl (by omega) (by omega) hS7
  obtain ⟨r0, hr0⟩ : ∃ z, z = t_P b n (Nat.beq so 1) f 2 (d + 1) 0 (t_x b n p) := ⟨_, rfl⟩
  rw [← hr0] at hr c1 c2
  rw [c1, d_b2_t]
  by_cases e0 : r0.1 = 0
  rotate_left
  · rw [if_pos e0] at hr
    subst hr
    rw [v_bf e0, if_pos rfl]
    exact ⟨s15, rfl, k_R.up e0 c2 (f7.mono k_Lwe)⟩
  rw [if_neg (fun z => z e0)] at hr
  obtain ⟨u3, C3, g1, g2, g3, g4, g5, g6⟩ := c2.1 e0
  have f15 : k_h k_Lw s s15 := f7.tr g4
  rw [v_bt e0, if_neg (show ¬ (1 : Int) = 0 by decide)]
  rcases P_takeSign hW g2.1 g6 (c := 41) with ⟨h41, s', w1, w2, w3⟩ | ⟨h41, s', w1, w2, w3, w4⟩
  · have w1' : F_X3_takeSign t s15 41 = some (1, s') := w1
    rw [if_pos h41] at hr
    subst hr
    have hx2 := t_x_lt (b := b) (t_is_lt h41)
    refine ⟨s', by rw [w1', d_b2_t, if_neg (show ¬ (1 : Int) = 0 by decide), v_bt rfl], ⟨fun _ => ⟨u3, C3, by simp only; omega, g2.T w3 w2, ?_, f15.tr (w3.h.mono k_c3), by simp only; omega, hx2.2⟩, fun z => absurd rfl z⟩⟩
    refine c_V_same g3 (by omega) (fun ν => ?_)
    rw [t_V0, if_neg (by rw [ho]; decide), if_neg h20, if_neg h45]
  · have w1' : F_X3_takeSign t s15 41 = some (0, s') := w1
    rw [if_neg (by rw [h41]; decide)] at hr
    subst hr
    exact ⟨s', by rw [w1', d_b2_t, if_pos rfl, v_bf (show ¬ (1 : Nat) = 0 by decide)], k_R.no (show (1 : Nat) ≠ 0 by decide) w2 w3 ((f15.mono k_Lwe).tr (w4.h.mono k_c23))⟩
theorem k_BB_ok (hW : k_wds t) : ∀ f, k_BB t b n so f := by
  intro f
  induction f with
  | zero => exact ⟨fun m d k p u sv C s r _ h => by omega, fun m d k p u sv C s r _ h => by omega, fun m d k p u sv C s r _ h => by omega, fun m d p u i N C s r _ h => by omega, fun m d p u i N C s r _ h => by omega, fun m d k p u o N C L s r _ h => by omega⟩
  | succ f ih => exact ⟨k_B0_ok hW ih, k_B1_ok ih, k_B2_ok ih, k_B4_ok hW ih, k_B5_ok hW ih, k_B6_ok hW ih⟩
end X4

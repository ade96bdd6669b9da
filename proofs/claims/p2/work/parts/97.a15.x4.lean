section X4
variable {s s1 s' : d_S} {t : Nat → Option p_C} {b : Nat → Nat} {n p q u f : Nat} {C : Nat → Nat × Nat} {so d e : Nat} {sv : Bool} {g : d_G} {V : Nat → (Nat → Nat × Nat) → Prop} {r : Nat × Nat}
theorem t_P27 {d p g : Nat} {S : Bool} (h : (t_P b n S (g + 3) 2 d 7 p).1 = 0) : False := by
  have e0 : (t_P b n S (g + 1) 0 d 7 p).1 ≠ 0 := by
    rw [t_P0]
    by_cases q : t_F b n S d p ≠ 0
    · rw [if_pos q]; exact q
    · rw [if_neg q, if_pos rfl]; simp
  have e1 : (t_P b n S (g + 2) 1 d 7 p).1 ≠ 0 := by rw [t_P1, if_pos e0]; exact e0
  rw [t_P2, if_pos e1] at h
  exact e1 h
theorem k_S.sev (h : k_S b n p u C so sv s) {sv' : Bool} {y : Int} (hy : y = if sv' = true then 1 else 0) : k_S b n p u C so sv' (d_si s 43 17 y) ∧ k_f [17] s (d_si s 43 17 y) := by
  have f : k_f [17] s (d_si s 43 17 y) := k_f.si (by decide)
  obtain ⟨hT, ⟨a15, a16, a17⟩, a600, hC⟩ := h
  exact ⟨⟨hT.f f (by decide), ⟨by rw [f.1 15 (by decide)]; exact a15, by rw [f.1 16 (by decide)]; exact a16, by rw [d_si_i, d_u_t]; exact hy⟩, a600, fun k hk => by rw [f.2.1 46 (by decide)]; exact hC k hk⟩, f⟩
theorem k_c17 : ∀ a, a ∈ [17] → a ∈ k_Lw := by decide
theorem t_beq7 {k : Nat} (h : k ≠ 7) : Nat.beq k 7 = false := Bool.eq_false_iff.mpr (fun e => h (Nat.eq_of_beq_eq_true e))
theorem k_B6_ok (hW : k_wds t) (ih : k_BB t b n so f) : k_B6 t b n so (f + 1) := by
  obtain ⟨-, -, ih2, -, -, ih6⟩ := ih
  intro m d k p u o N C L s r hr hf hp hd1 hd hk1 hk7 hu hch hL hm hN hS
  obtain ⟨N, rfl⟩ : ∃ w, N = w + 1 := ⟨N - 1, by omega⟩
  have hn := hS.1.1.2.1
  rw [t_P6] at hr
  obtain ⟨s8, m1, m2, m3⟩ := P_make hS (by omega) (e := 4) (w := 0) (by decide) (by decide)
  have m1' : F_X3_make s 4 0 = some (1, s8) := m1
  have ou : o ≤ u := by
    cases L with
    | nil => have : o = 0 := hch; omega
    | cons j L => have h1 := hch.1; have h2 := hch.2.1; omega
  have e15 : s.1 43 15 = (u : Int) := hS.2.1.1
  have go : ∀ s9 : d_S, k_S b n p (u + 1) (c_up C u (4, 0)) so (Nat.beq k 7) s9 → k_h k_Lw s s9 → ∃ s', d_b2 ((k_F t m).1 s9 (d : Int)) (fun v10 s11 => if v10 = 0 then some (0, s11) else d_b (F_X3_isSign s11 44) (fun v12 => if v12 = 0 then k_Ke t ((o : Int) - 1) s11 else d_b2 (F_X3_make s11 3 (d_w (((o : Int) - 1) + 1))) (fun v13 s14 => d_l (d_w ((s14.1 43 15) - 1)) (fun z15 => d_b (F_X3_lead s14 (s.1 43 15) (s14.1 43 15)) (fun s16 => d_b (F_X3_step t s16) (fun s17 => F_X3_readChoice_l32 (k_F t m) t (k_Ke t) N (d : Int) z15 (d_w ((k : Int) + 1)) s17)))))) = some (v_b (r.1 = 0), s') ∧ k_R 1 b n p u so (c_VA b n so (f + 1) d k p (c_D d + 2) u C L) r s s' := fun s9 hS9 f9 => by
    obtain ⟨s11, c1, c2⟩ := ih2 m d k p (u + 1) (Nat.beq k 7) (c_up C u (4, 0)) s9 _ rfl (by omega) hp hd rfl (by omega) hm hS9
    obtain ⟨r0, hr0⟩ : ∃ z, z = t_P b n (Nat.beq so 1) f 2 d k p := ⟨_, rfl⟩
    rw [← hr0] at hr c1 c2
    rw [c1, d_b2_t]
    by_cases e0 : r0.1 = 0
    rotate_left
    · rw [if_pos e0] at hr
      subst hr
      rw [v_bf e0, if_pos rfl]
      exact ⟨s11, rfl, k_R.up e0 c2 (f9.mono k_Lwe)⟩
    rw [if_neg (fun z => z e0)] at hr
    have k6 : k ≠ 7 := fun z => by
      subst z
      obtain ⟨g, rfl⟩ : ∃ g, f = g + 3 := ⟨f - 3, by omega⟩
      exact t_P27 (by rw [← hr0]; exact e0)
    obtain ⟨u3, C3, g1, g2, g3, g4, g5, g6⟩ := c2.1 e0
    have e44 : F_X3_isSign s11 44 = some (v_b (t_is b n r0.2 44 = true)) := P_isSign (c := 44) g2.1
    have f11 : k_h k_Lw s s11 := f9.tr g4
    have hLu := c_ch_lt hch
    have keep : ∀ j, j < u → C3 j = C j := fun j hj => by rw [g3.2.1 j (by omega), c_up_ne (by omega)]
    rw [v_bt e0, if_neg (show ¬ (1 : Int) = 0 by decide), e44, d_b_t]
    by_cases h44 : t_is b n r0.2 44 = true
    · rw [if_pos h44] at hr
      have hx := t_x_lt (b := b) (t_is_lt h44)
      have u3u : u < u3 := g3.1
      obtain ⟨s14, y1, y2, y3⟩ := P_make g2 (by omega) (e := 3) (w := o) (by decide) (by omega)
      have y1' : F_X3_make s11 3 (o : Int) = some (1, s14) := y1
      have e14 : s14.1 43 15 = ((u3 + 1 : Nat) : Int) := y2.2.1.1
      obtain ⟨s16, l1, l2, l3⟩ := P_lead y2 (j := u) (to := u3 + 1) (by omega) (by omega)
      have cu : (c_up C3 u3 (3, o)) u = (4, 0) := by rw [c_up_ne (by omega), g3.2.1 u (by omega), c_up_at]
      rw [cu] at l2
      obtain ⟨s17, w1, w2, w3⟩ := P_step hW l2.1 g6
      have hS17 := l2.T w3 w2
      have f17 : k_h k_Lw s s17 := ((f11.tr (y3.mono k_c15)).tr (l3.mono k_c0)).tr (w3.h.mono k_c3)
      have hch' : c_ch (c_up (c_up C3 u3 (3, o)) u (4, u3 + 1)) (u3 + 1) (u3 + 1) (u3 :: L) := by
        have e3 : (c_up (c_up C3 u3 (3, o)) u (4, u3 + 1)) u3 = (3, o) := by rw [c_up_ne (by omega), c_up_at]
        refine ⟨rfl, by omega, by rw [e3], fun j hj => by have := hLu j hj; omega, ?_⟩
        rw [e3]
        refine c_ch_cong (by omega) hch (fun j hj => ?_)
        have := hLu j hj
        rw [c_up_ne (by omega), c_up_ne (by omega), keep j this]
      obtain ⟨s', z1, z2⟩ := ih6 m d (k + 1) (t_x b n r0.2) (u3 + 1) (u3 + 1) N _ (u3 :: L) s17 r hr (by omega) hx.2 hd1 hd (by omega) (by omega) (by omega) hch' (by rw [List.length_cons]; omega) hm (by omega) hS17
      refine ⟨s', ?_, ?_⟩
      · rw [v_bt h44, if_neg (show ¬ (1 : Int) = 0 by decide), show d_w ((o : Int) - 1 + 1) = (o : Int) by rw [d_w_id (by omega) (by omega)]; omega, y1', d_b2_t, d_l_t, e14, e15, l1, d_b_t, w1, d_b_t, d_w_id (x := ((u3 + 1 : Nat) : Int) - 1) (by omega) (by omega), d_w_id (x := (k : Int) + 1) (by omega) (by omega)]
        exact z1
      · by_cases er : r.1 = 0
        rotate_left
        · exact k_R.up er z2 (f17.mono k_Lwe)
        obtain ⟨u7, C7, v1, v2, v3, v4, v5, v6⟩ := z2.1 er
        refine ⟨fun _ => ⟨u7, C7, by omega, v2, ?_, f17.tr v4, by omega, v6⟩, fun z => absurd er z⟩
        refine c_VA_more g3 hLu v3 (by unfold c_D; omega) (fun ν z => ?_)
        rw [t_V6, ← hr0, if_pos h44]
    · rw [if_neg h44] at hr
      rw [v_bf h44, if_pos rfl]
      unfold k_Ke
      have hch3 : c_ch C3 u3 o L := c_ch_cong (by have := g3.1; omega) hch (fun j hj => keep j (hLu j hj))
      obtain ⟨s28, y1, y2, y3⟩ := P_close g2 hch3 (by omega)
      rw [y1, d_b_t]
      have f28 : k_h k_Lw s s28 := f11.tr (y3.mono k_c0)
      rcases P_takeSign hW y2.1 g6 (c := 41) with ⟨h41, s', w1, w2, w3⟩ | ⟨h41, s', w1, w2, w3, w4⟩
      · have w1' : F_X3_takeSign t s28 41 = some (1, s') := w1
        rw [if_pos h41] at hr
        subst hr
        have hx := t_x_lt (b := b) (t_is_lt h41)
        refine ⟨s', by rw [w1', d_b2_t, v_bt rfl], ⟨fun _ => ⟨u3, c_to C3 L u3, by simp only; omega, y2.T w3 w2, ?_, f28.tr (w3.h.mono k_c3), by simp only; omega, hx.2⟩, fun z => absurd rfl z⟩⟩
        refine c_VA_last g3 hLu (fun ν z => ?_)
        rw [t_V6, ← hr0, if_neg h44]
      · have w1' : F_X3_takeSign t s28 41 = some (0, s') := w1
        rw [if_neg (by rw [h41]; decide)] at hr
        subst hr
        refine ⟨s', by rw [w1', d_b2_t, v_bf (show ¬ (1 : Nat) = 0 by decide)], k_R.no (show (1 : Nat) ≠ 0 by decide) w2 w3 ((f28.mono k_Lwe).tr (w4.h.mono k_c23))⟩
  show ∃ s', F_X3_readChoice_l32_b (k_F t m) t (k_Ke t) (F_X3_readChoice_l32 (k_F t m) t (k_Ke t) N) _ _ _ s = _ ∧ _
  unfold F_X3_readChoice_l32_b
  rw [if_neg (by omega), m1', d_b2_t]
  by_cases k6 : k = 7
  · obtain ⟨q1, q2⟩ := m2.sev (sv' := Nat.beq k 7) (y := 1) (by rw [k6]; rfl)
    rw [if_pos (by omega), d_l_t]
    exact go _ q1 ((m3.mono k_c15).tr (q2.h.mono k_c17))
  · obtain ⟨q1, q2⟩ := m2.sev (sv' := Nat.beq k 7) (y := 0) (by rw [t_beq7 k6]; rfl)
    rw [if_neg (by omega), d_l_t]
    exact go _ q1 ((m3.mono k_c15).tr (q2.h.mono k_c17))
theorem c_nu_ : ∀ j, 8 ≤ j → j < 16 → (if decide (8 = j) = true then 0 else if decide (9 = j) = true then 1 else if decide (10 = j) = true then 2 else if decide (11 = j) = true then 3 else if decide (12 = j) = true then 4 else if decide (13 = j) = true then 5 else if decide (14 = j) = true then 6 else 7 : Nat) = j - 8 := by
  intro j h1 h2
  have : j = 8 ∨ j = 9 ∨ j = 10 ∨ j = 11 ∨ j = 12 ∨ j = 13 ∨ j = 14 ∨ j = 15 := by omega
  rcases this with rfl | rfl | rfl | rfl | rfl | rfl | rfl | rfl <;> decide
theorem k_nu (h : k_T b n p s) (hp : p ≤ n) (hm : c_nm b n p = true) : s.1 43 7 - 8 = ((t_nu b n p : Nat) : Int) ∧ t_nu b n p < 8 ∧ t_k b n p = 1 := by
  obtain ⟨n1, n0⟩ := k_nm h hp
  have k1 : t_k b n p = 1 := by
    by_cases z : t_k b n p = 1
    · exact z
    · unfold c_nm at hm
      rw [(n0 z).1, (n0 z).2] at hm
      cases hm
  have hv : 8 ≤ s.1 43 7 ∧ s.1 43 7 ≤ 15 := by
    unfold c_nm at hm
    rw [Bool.or_eq_true] at hm
    rcases hm with e | e
    · have := (n1 k1).1.1 e; omega
    · have := (n1 k1).2.1 e; omega
  have e6 : s.1 43 6 = 1 := by rw [h.2.1.2.2, k1]; rfl
  obtain ⟨j, hj⟩ : ∃ j : Nat, s.1 43 7 = j := ⟨(s.1 43 7).toNat, by omega⟩
  have H : ∀ i, i < 22 → t_wd b n p i = decide (i = j) := fun i hi => by
    have := k_wd h hp hi
    by_cases q : i = j
    · subst q; rw [decide_eq_true rfl]; exact this.1 ⟨e6, hj⟩
    · rw [decide_eq_false q]
      exact Bool.eq_false_iff.mpr (fun e => q (by have := (this.2 e).2; omega))
  have e : t_nu b n p = j - 8 := by
    unfold t_nu
    rw [H 8 (by decide), H 9 (by decide), H 10 (by decide), H 11 (by decide), H 12 (by decide), H 13 (by decide), H 14 (by decide)]
    exact c_nu_ j (by omega) (by omega)
  exact ⟨by omega, by omega, k1⟩
theorem k_B0_ok (hW : k_wds t) (ih : k_BB t b n so f) : k_B0 t b n so (f + 1) := by
  obtain ⟨ih0, -, ih2, -, -, ih6⟩ := ih
  intro m d k p u sv C s r hr hf hp hd hk hu hm hS
  obtain ⟨m, rfl⟩ : ∃ w, m = w + 1 := ⟨m - 1, by omega⟩
  have hn := hS.1.1.2.1
  have hfo := P_fault (d := d) hS hp
  show ∃ s', F_X3_readOne (k_F t m) t s (d : Int) = _ ∧ _
  rw [k_one hS.1 hp]
  have e5 : s.1 43 5 = (p : Int) := hS.1.2.1.2.1
  by_cases fo : k_fo b n (Nat.beq so 1) d p sv = 0
  rotate_left
  · obtain ⟨s', w1, w2, w3, w4⟩ := P_wrong (s := s) (p := p) (f := ((k_fo b n (Nat.beq so 1) d p sv : Nat) : Int)) e5
    have hr2 : r = (k_fo b n (Nat.beq so 1) d p sv, p) := by
      rw [← hr, t_P0]
      unfold k_fo at fo ⊢
      by_cases q : t_F b n (Nat.beq so 1) d p ≠ 0
      · rw [if_pos q, if_pos q]
      · rw [if_neg q] at fo
        rw [if_neg q, if_neg q]
        by_cases z : sv = true
        · rw [if_pos z, if_pos (Nat.eq_of_beq_eq_true (hk.symm.trans z))]
        · rw [if_neg z] at fo; exact absurd rfl fo
    subst hr2
    refine ⟨s', ?_, k_R.no fo w2 w3 (w4.h.mono k_c23)⟩
    have fi : ¬ ((k_fo b n (Nat.beq so 1) d p sv : Nat) : Int) = 0 := by omega
    rw [v_bf fo]
    by_cases hm : c_nm b n p = true
    · have ho : ¬ t_op b n p = true := by
        have m' := hm
        unfold c_nm at m'
        rw [Bool.or_eq_true] at m'
        exact t_nm_op m'
      rw [v_bf ho, v_bt hm] at hfo
      rw [if_pos hm]
      unfold F_X3_readOne_j60_1
      rw [hfo, d_b_t, if_neg fi, w1, d_b2_t]
    · rw [v_bf hm] at hfo
      rw [if_neg hm]
      unfold F_X3_readOne_j59
      rw [hfo, d_b_t, if_neg fi, w1, d_b2_t]
  have hF : t_F b n (Nat.beq so 1) d p = 0 := by
    unfold k_fo at fo
    by_cases q : t_F b n (Nat.beq so 1) d p ≠ 0
    · rw [if_pos q] at fo; exact absurd fo q
    · omega
  have hsv : sv = false := by
    unfold k_fo at fo
    rw [if_neg (fun z => z hF)] at fo
    cases sv
    · rfl
    · exact absurd fo (by decide)
  have hk7 : k ≠ 7 := fun z => by rw [z] at hk; rw [hsv] at hk; cases hk
  rw [fo] at hfo
  subst hsv
  rw [t_P0, if_neg (fun z => z hF), if_neg hk7] at hr
  have hpn := t_F_lt hF
  have hx := t_x_lt (b := b) hpn
  obtain ⟨s7, a1, a2, a3⟩ := P_step hW hS.1 hp
  have hS7 := hS.T a3 a2
  have e20 : F_X3_isWord s 20 = some (v_b (t_wd b n p 20 = true)) := P_isWord (k := 20) hS.1 hp (by decide)
  have z0 : ((0 : Nat) : Int) = 0 := rfl
  have f7 : k_h k_Lw s s7 := a3.h.mono k_c3
  by_cases hm : c_nm b n p = true
  · have ho : ¬ t_op b n p = true := by
      have m' := hm
      unfold c_nm at m'
      rw [Bool.or_eq_true] at m'
      exact t_nm_op m'
    obtain ⟨n1, n2, n3⟩ := k_nu hS.1 hp hm
    rw [v_bf ho, v_bt hm] at hfo
    rw [if_pos (Bool.eq_false_iff.mpr ho)] at hr
    subst hr
    obtain ⟨s9, m1, m2, m3⟩ := P_make hS7 (by omega) (e := 1) (w := t_nu b n p) (by decide) (by omega)
    have m1' : F_X3_make s7 1 ((t_nu b n p : Nat) : Int) = some (1, s9) := m1
    rw [if_pos hm]
    unfold F_X3_readOne_j60_1
    rw [hfo, d_b_t, if_pos z0, e20, d_b_t, a1, d_b_t, if_pos (show (0 : Int) = 0 from rfl), n1, d_w_id (by omega) (by omega), m1', d_b2_t]
    refine ⟨s9, by rw [v_bt rfl], ⟨fun _ => ⟨u + 1, _, by simp only; omega, m2, ?_, f7.tr (m3.mono k_c15), by simp only; omega, hx.2⟩, fun z => absurd rfl z⟩⟩
    refine c_V_one (Or.inr ⟨rfl, n2⟩) (by unfold c_D; omega) (fun ν => ?_)
    rw [t_V0, if_pos (Bool.eq_false_iff.mpr ho), if_neg (by omega), if_neg (by decide)]
  rw [v_bf hm] at hfo
  rw [if_neg hm]
  by_cases ho : t_op b n p = true
  rotate_left
  · have k2 : t_k b n p = 2 := by
      by_cases z : t_k b n p = 2
      · exact z
      · unfold t_F at hF
        have m6 : ¬ t_nm6 b n p = true := fun e => hm (by unfold c_nm; rw [e]; rfl)
        have m2 : ¬ t_nm2 b n p = true := fun e => hm (by unfold c_nm; rw [e]; simp)
        rw [if_neg z, if_neg m6, if_neg m2, if_neg ho] at hF
        omega
    have h7 := hS.1.2.2.2.1 k2
    have hle : t_n b n p ≤ 9999 := by
      unfold t_F at hF
      rw [if_pos k2] at hF
      by_cases z : 9999 < t_n b n p
      · rw [if_pos z] at hF; omega
      · omega
    rw [v_bf ho] at hfo
    rw [if_pos (Bool.eq_false_iff.mpr ho)] at hr
    subst hr
    obtain ⟨s9, m1, m2, m3⟩ := P_make hS7 (by omega) (e := 0) (w := t_n b n p) (by decide) (by omega)
    have m1' : F_X3_make s7 0 ((t_n b n p : Nat) : Int) = some (1, s9) := m1
    rw [v_bf ho]
    unfold F_X3_readOne_j59
    rw [hfo, d_b_t, if_pos z0, e20, d_b_t, a1, d_b_t, if_pos (show (0 : Int) = 0 from rfl), h7, show min 10000 (t_n b n p) = t_n b n p by omega, m1', d_b2_t]
    refine ⟨s9, by rw [v_bt rfl], ⟨fun _ => ⟨u + 1, _, by simp only; omega, m2, ?_, f7.tr (m3.mono k_c15), by simp only; omega, hx.2⟩, fun z => absurd rfl z⟩⟩
    refine c_V_one (Or.inl rfl) (by unfold c_D; omega) (fun ν => ?_)
    rw [t_V0, if_pos (Bool.eq_false_iff.mpr ho), if_pos k2, if_pos rfl]
  have hd8 : d < 8 := t_F_op hF ho
  rw [v_bt ho] at hfo
  rw [if_neg (by rw [ho]; decide)] at hr
  have ed : d_w ((d : Int) + 1) = ((d + 1 : Nat) : Int) := d_w_id (by omega) (by omega)
  have hcD : c_D (d + 1) + 2 = c_D d := by unfold c_D; omega
  rw [v_bt ho]
  unfold F_X3_readOne_j59
  rw [hfo, d_b_t, if_pos z0, e20, d_b_t, a1, d_b_t, if_neg (show ¬ (1 : Int) = 0 by decide), ed]
  by_cases h20 : t_wd b n p 20 = true
  · rw [if_pos h20] at hr
    rw [v_bt h20, if_neg (show ¬ (1 : Int) = 0 by decide)]
    obtain ⟨m, rfl⟩ : ∃ w, m = w + 1 := ⟨m - 1, by omega⟩
    have eg : (k_F t (m + 1)).2.2.2 = F_X3_readChoice (k_F t m) t := rfl
    rw [eg]
    unfold F_X3_readChoice
    obtain ⟨s2, c1, c2⟩ := ih0 m (d + 1) 0 (t_x b n p) u false C s7 _ rfl (by omega) hx.2 (by omega) rfl (by omega) (by omega) hS7
    obtain ⟨r0, hr0⟩ : ∃ z, z = t_P b n (Nat.beq so 1) f 0 (d + 1) 0 (t_x b n p) := ⟨_, rfl⟩
    rw [← hr0] at hr c1 c2
    rw [c1, d_b2_t]
    by_cases e0 : r0.1 = 0
    rotate_left
    · rw [if_pos e0] at hr
      subst hr
      rw [v_bf e0, if_pos rfl, d_b2_t]
      exact ⟨s2, rfl, k_R.up e0 c2 (f7.mono k_Lwe)⟩
    rw [if_neg (fun z => z e0)] at hr
    obtain ⟨u3, C3, g1, g2, g3, g4, g5, g6⟩ := c2.1 e0
    have f2 : k_h k_Lw s s2 := f7.tr g4
    rw [v_bt e0, if_neg (show ¬ (1 : Int) = 0 by decide)]
    rcases P_takeWord hW g2.1 g6 (k := 21) (by decide) with ⟨h21, s4, w1, w2, w3⟩ | ⟨h21, s4, w1, w2, w3, w4⟩
    rotate_left
    · have w1' : F_X3_takeWord t s2 21 = some (0, s4) := w1
      rw [if_pos h21] at hr
      subst hr
      rw [w1', d_b2_t, if_pos rfl, d_b2_t]
      exact ⟨s4, by rw [v_bf (show ¬ (1 : Nat) = 0 by decide)], k_R.no (show (1 : Nat) ≠ 0 by decide) w2 w3 ((f2.mono k_Lwe).tr (w4.h.mono k_c23))⟩
    have w1' : F_X3_takeWord t s2 21 = some (1, s4) := w1
    rw [if_neg (by rw [h21]; decide)] at hr
    rw [w1', d_b2_t, if_neg (show ¬ (1 : Int) = 0 by decide)]
    have hx2 := t_x_lt (b := b) (t_wd_lt h21)
    have hS4 := g2.T w3 w2
    have f4 : k_h k_Lw s s4 := f2.tr (w3.h.mono k_c3)
    rcases P_takeSign hW hS4.1 hx2.2 (c := 40) with ⟨h40, s6, y1, y2, y3⟩ | ⟨h40, s6, y1, y2, y3, y4⟩
    rotate_left
    · have y1' : F_X3_takeSign t s4 40 = some (0, s6) := y1
      rw [if_pos h40] at hr
      subst hr
      rw [y1', d_b2_t, if_pos rfl, d_b2_t]
      exact ⟨s6, by rw [v_bf (show ¬ (1 : Nat) = 0 by decide)], k_R.no (show (1 : Nat) ≠ 0 by decide) y2 y3 ((f4.mono k_Lwe).tr (y4.h.mono k_c23))⟩
    have y1' : F_X3_takeSign t s4 40 = some (1, s6) := y1
    rw [if_neg (by rw [h40]; decide)] at hr
    rw [y1', d_b2_t, if_neg (show ¬ (1 : Int) = 0 by decide)]
    have hx3 := t_x_lt (b := b) (t_is_lt h40)
    have hS6 := hS4.T y3 y2
    have f6 : k_h k_Lw s s6 := f4.tr (y3.h.mono k_c3)
    obtain ⟨s', z1, z2⟩ := ih6 m (d + 1) 1 (t_x b n (t_x b n r0.2)) u3 0 d_N C3 [] s6 r hr (by omega) hx3.2 (by omega) (by omega) (by omega) (by omega) (by omega) rfl rfl (by omega) (by rw [d_N_is]; omega) hS6
    have z1' : F_X3_readChoice_l32 (k_F t m) t (k_Ke t) d_N ((d + 1 : Nat) : Int) (-1) 1 s6 = some (v_b (r.1 = 0), s') := z1
    refine ⟨s', ?_, ?_⟩
    · show d_b2 (F_X3_readChoice_l32 (k_F t m) t (k_Ke t) d_N ((d + 1 : Nat) : Int) (-1) 1 s6) _ = _
      rw [z1', d_b2_t]
    · by_cases er : r.1 = 0
      rotate_left
      · exact k_R.up er z2 (f6.mono k_Lwe)
      obtain ⟨u5, C5, v1, v2, v3, v4, v5, v6⟩ := z2.1 er
      refine ⟨fun _ => ⟨u5, C5, by omega, v2, ?_, f6.tr v4, by omega, v6⟩, fun z => absurd er z⟩
      refine c_V_sel (d2 := d + 1) g3 v3 (by omega) (by omega) (fun ν => ?_)
      rw [t_V0, if_neg (by rw [ho]; decide), if_pos h20, ← hr0]
  rw [if_neg h20] at hr
  rw [v_bf h20, if_pos rfl]
  have hsg : t_is b n p 40 = true ∨ t_is b n p 45 = true := by
    unfold t_op at ho
    rw [Bool.or_eq_true, Bool.or_eq_true] at ho
    rcases ho with e | e | e
    · exact Or.inl e
    · exact Or.inr e
    · exact absurd e h20
  have k3 : t_k b n p = 3 := by rcases hsg with e | e <;> exact (t_is_iff.mp e).1
  have h7 := hS.1.2.2.2.2 k3
  by_cases h45 : t_is b n p 45 = true
  · have b45 := (t_is_iff.mp h45).2
    rw [if_pos h45] at hr
    rw [if_pos (by omega)]
    obtain ⟨s11, c1, c2⟩ := ih0 m (d + 1) 0 (t_x b n p) u false C s7 _ rfl (by omega) hx.2 (by omega) rfl (by omega) (by omega) hS7
    rw [hr] at c1 c2
    rw [c1, d_b2_t]
    by_cases e0 : r.1 = 0
    rotate_left
    · rw [v_bf e0, if_pos rfl]
      exact ⟨s11, rfl, k_R.up e0 c2 (f7.mono k_Lwe)⟩
    obtain ⟨u3, C3, g1, g2, g3, g4, g5, g6⟩ := c2.1 e0
    obtain ⟨s13, m1, m2, m3⟩ := P_make g2 (by omega) (e := 2) (w := 0) (by decide) (by decide)
    have m1' : F_X3_make s11 2 0 = some (1, s13) := m1
    rw [v_bt e0, if_neg (show ¬ (1 : Int) = 0 by decide), m1', d_b2_t, if_neg (show ¬ (1 : Int) = 0 by decide)]
    refine ⟨s13, rfl, ⟨fun _ => ⟨u3 + 1, _, by omega, m2, ?_, (f7.tr g4).tr (m3.mono k_c15), by omega, g6⟩, fun z => absurd e0 z⟩⟩
    refine c_V_neg g3 (by omega) (fun ν => ?_)
    rw [t_V0, if_neg (by rw [ho]; decide), if_neg h20, if_pos h45]
  have h40 : t_is b n p 40 = true := hsg.resolve_right h45
  have b40 := (t_is_iff.mp h40).2
  rw [if_neg h45] at hr
  rw [if_neg (by omega)]
  obtain ⟨s15, c1, c2⟩ := ih2 m (d + 1) 0 (t_x b n p) u false C s7 _ rfl (by omega) hx.2 (by omega) rfl (by omega) (by omega) hS7
  obtain ⟨r0, hr0⟩ : ∃ z, z = t_P b n (Nat.beq so 1) f 2 (d + 1) 0 (t_x b n p) := ⟨_, rfl⟩
  rw [← hr0] at hr c1 c2
  rw [c1, d_b2_t]
  by_cases e0 : r0.1 = 0
  rotate_left
  · rw [if_pos e0] at hr
    subst hr
    rw [v_bf e0, if_pos rfl]
    exact ⟨s15, rfl, k_R.up e0 c2 (f7.mono k_Lwe)⟩
  rw [if_neg (fun z => z e0)] at hr
  obtain ⟨u3, C3, g1, g2, g3, g4, g5, g6⟩ := c2.1 e0
  have f15 : k_h k_Lw s s15 := f7.tr g4
  rw [v_bt e0, if_neg (show ¬ (1 : Int) = 0 by decide)]
  rcases P_takeSign hW g2.1 g6 (c := 41) with ⟨h41, s', w1, w2, w3⟩ | ⟨h41, s', w1, w2, w3, w4⟩
  · have w1' : F_X3_takeSign t s15 41 = some (1, s') := w1
    rw [if_pos h41] at hr
    subst hr
    have hx2 := t_x_lt (b := b) (t_is_lt h41)
    refine ⟨s', by rw [w1', d_b2_t, if_neg (show ¬ (1 : Int) = 0 by decide), v_bt rfl], ⟨fun _ => ⟨u3, C3, by simp only; omega, g2.T w3 w2, ?_, f15.tr (w3.h.mono k_c3), by simp only; omega, hx2.2⟩, fun z => absurd rfl z⟩⟩
    refine c_V_same g3 (by omega) (fun ν => ?_)
    rw [t_V0, if_neg (by rw [ho]; decide), if_neg h20, if_neg h45]
  · have w1' : F_X3_takeSign t s15 41 = some (0, s') := w1
    rw [if_neg (by rw [h41]; decide)] at hr
    subst hr
    exact ⟨s', by rw [w1', d_b2_t, if_pos rfl, v_bf (show ¬ (1 : Nat) = 0 by decide)], k_R.no (show (1 : Nat) ≠ 0 by decide) w2 w3 ((f15.mono k_Lwe).tr (w4.h.mono k_c23))⟩
theorem k_BB_ok (hW : k_wds t) : ∀ f, k_BB t b n so f := by
  intro f
  induction f with
  | zero => exact ⟨fun m d k p u sv C s r _ h => by omega, fun m d k p u sv C s r _ h => by omega, fun m d k p u sv C s r _ h => by omega, fun m d p u i N C s r _ h => by omega, fun m d p u i N C s r _ h => by omega, fun m d k p u o N C L s r _ h => by omega⟩
  | succ f ih => exact ⟨k_B0_ok hW ih, k_B1_ok ih, k_B2_ok ih, k_B4_ok hW ih, k_B5_ok hW ih, k_B6_ok hW ih⟩
end X4

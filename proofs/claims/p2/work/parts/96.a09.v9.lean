section V9
variable {t : Nat → Option p_C} {s : d_S} {e : Option Nat} {L : v_LR} {u v W H b : Nat} {st me so : Nat → Nat} {day heat x : Int}
theorem P_ruler_fr {s' : d_S} (h3 : s'.1 3 = s.1 3) (h5 : s'.2.1 5 = s.2.1 5) : F_X9_ruler_3 s' = F_X9_ruler_3 s := by
  unfold F_X9_ruler_3 F_X9_textAt_3 F_X9_textAt_3_j30
  rw [h3, h5]
def v_47 (s s' : d_S) : Prop := (∀ a, a ≠ 47 → s'.1 a = s.1 a) ∧ ∀ a, a ≠ 47 → s'.2.1 a = s.2.1 a
theorem v_47.si {k : Nat} {y : Int} {s' : d_S} (h : v_47 s s') : v_47 s (d_si s' 47 k y) := ⟨fun a ha => (d_si_n ha).trans (h.1 a ha), h.2⟩
theorem v_47.sp {k : Nat} {y : Option Nat} {s' : d_S} (h : v_47 s s') : v_47 s (d_sp s' 47 k y) := ⟨h.1, fun a ha => (d_u_n ha).trans (h.2 a ha)⟩
theorem v_Q.fr {s' : d_S} (hQ : v_Q s u v W H) (h : ∀ a, 37 ≤ a → a ≤ 42 → s'.1 a = s.1 a) : v_Q s' u v W H := by
  obtain ⟨h0, hP, h64⟩ := hQ
  refine ⟨by rw [h 37 (by decide) (by decide)]; exact h0, fun j hj => ?_, h64⟩
  rw [h 38 (by decide) (by decide), h 39 (by decide) (by decide), h 40 (by decide) (by decide), h 41 (by decide) (by decide), h 42 (by decide) (by decide)]
  exact hP j hj
def v_Y (s : d_S) (day heat x : Int) : Prop := (s.1 6 3 = day ∧ s.1 6 4 = heat ∧ s.1 6 6 = x) ∧ (0 ≤ day ∧ day ≤ 999) ∧ (0 ≤ heat ∧ heat ≤ 9) ∧ (0 ≤ x ∧ x < 30293)
theorem v_ed_le : v_ed u v W H b ≤ 4 := by
  unfold v_ed
  have h1 := v_n_le (c := v_lf u b = 0)
  have h2 := v_n_le (c := v_up u v b = 0)
  have h3 := v_n_le (c := v_lf u b + v_wd u W b = W)
  have h4 := v_n_le (c := v_up u v b + v_hg u v H b = H)
  omega
theorem P_start (hM : v_M s st me so) (hQ : v_Q s u v W H) (hb : b < v_bl u v) (hE : F_X9_ruler_3 s = some e) (hY : v_Y s day heat x) (hN : v_Nm (s.1 49)) : ∃ s', F_X0_start s (b : Int) = some s' ∧ v_K s' (day, heat, ((st b : Nat) : Int), ((me b : Nat) : Int), x) ((so b : Nat) : Int) ∧ s'.1 47 4 = (b : Int) ∧ s'.2.1 47 3 = e ∧ v_tb s' ((v_sz u v W H b : Nat) : Int) ((v_ed u v W H b : Nat) : Int) ∧ (∀ a, a ≠ 47 → a ≠ 49 → s'.1 a = s.1 a) ∧ ∀ a, a ≠ 47 → s'.2.1 a = s.2.1 a := by
  have h64 := hQ.2.2.1
  have hb64 : b < 64 := by omega
  obtain ⟨-, m1, m2, m3⟩ := hM b hb64
  obtain ⟨⟨y3, y4, y6⟩, yd, yh, yx⟩ := hY
  have f0 : v_47 s s := ⟨fun _ _ => rfl, fun _ _ => rfl⟩
  have f1 := f0.si (k := 4) (y := (b : Int))
  have f3 := f1.sp (k := 3) (y := e)
  have f4 := f3.si (k := 5) (y := x)
  have f5 := f4.si (k := 6) (y := day)
  have f6 := f5.si (k := 7) (y := heat)
  have f8 := f6.si (k := 8) (y := ((st b : Nat) : Int))
  have f10 := f8.si (k := 9) (y := ((me b : Nat) : Int))
  have f12 := f10.si (k := 10) (y := ((so b : Nat) : Int))
  unfold F_X0_start
  rw [d_l_t, P_ruler_fr (f1.1 3 (by decide)) (f1.2 5 (by decide)), hE, d_b_t, d_l_t, f3.1 6 (by decide), y6, d_l_t, f4.1 6 (by decide), y3, d_l_t, f5.1 6 (by decide), y4, d_l_t, P_strawOn (hM.fr (f6.1 7 (by decide))) hb64, d_b_t, d_l_t, P_meltedOf (hM.fr (f8.1 7 (by decide))) hb64, d_b_t, d_l_t, P_isSoldC (hM.fr (f10.1 7 (by decide))) hb64, d_b_t, d_l_t]
  have hQ12 := hQ.fr (fun a h1 h2 => f12.1 a (by omega))
  rw [P_sizeOfC hQ12 hb, d_b_t, P_edgeOfC hQ12 hb, d_b_t]
  obtain ⟨s12, hs12⟩ : ∃ z, z = d_si (d_si (d_si (d_si (d_si (d_si (d_sp (d_si s 47 4 (b : Int)) 47 3 e) 47 5 x) 47 6 day) 47 7 heat) 47 8 ((st b : Nat) : Int)) 47 9 ((me b : Nat) : Int)) 47 10 ((so b : Nat) : Int) := ⟨_, rfl⟩
  have x47 : ∀ k, s12.1 47 k = d_u (d_u (d_u (d_u (d_u (d_u (d_u (s.1 47) 4 (b : Int)) 5 x) 6 day) 7 heat) 8 ((st b : Nat) : Int)) 9 ((me b : Nat) : Int)) 10 ((so b : Nat) : Int) k := by
    intro k; rw [hs12, d_si_i, d_si_i, d_si_i, d_si_i, d_si_i, d_si_i]
    show d_u (d_u (d_u (d_u (d_u (d_u ((d_si s 47 4 (b : Int)).1 47) 5 x) 6 day) 7 heat) 8 _) 9 _) 10 _ k = _
    rw [d_si_i]
  have x3 : s12.2.1 47 3 = e := by rw [hs12]; exact d_sp_t
  rw [← hs12] at f12 ⊢
  have hsz := v_sz_le (u := u) (v := v) (W := W) (H := H) (b := b) hQ.2.2.2.1 hQ.2.2.2.2
  have hed := v_ed_le (u := u) (v := v) (W := W) (H := H) (b := b)
  have e47 : ∀ z1 z2, (d_si (d_si s12 49 3 z1) 49 5 z2).1 47 = s12.1 47 := fun z1 z2 => by rw [d_si_n (by decide), d_si_n (by decide)]
  have e49 : ∀ z1 z2, (d_si (d_si s12 49 3 z1) 49 5 z2).1 49 = d_u (d_u (s.1 49) 3 z1) 5 z2 := fun z1 z2 => by rw [d_si_i, d_si_i, f12.1 49 (by decide)]
  refine ⟨_, rfl, ⟨⟨?_, ?_, ?_, ?_, ?_, ?_⟩, ⟨yd, yh, by show 0 ≤ ((st b : Nat) : Int) ∧ ((st b : Nat) : Int) ≤ 9; omega, by show 0 ≤ ((me b : Nat) : Int) ∧ ((me b : Nat) : Int) ≤ 100; omega, yx⟩, by omega⟩, ?_, x3, ⟨?_, ?_, ?_⟩, fun a h1 h2 => by rw [d_si_n h2, d_si_n h2]; exact f12.1 a h1, f12.2⟩
  · rw [e47, x47]; rfl
  · rw [e47, x47]; rfl
  · rw [e47, x47]; rfl
  · rw [e47, x47]; rfl
  · rw [e47, x47]; rfl
  · rw [e47, x47]; rfl
  · rw [e47, x47]; rfl
  · rw [e49]; rfl
  · rw [e49]; rfl
  · rw [e49]
    exact (hN.u (k := 3) (by omega) (by omega)).u (k := 5) (by omega) (by omega)
def v_nb (L : v_LR) (u v W H : Nat) (day heat x : Int) (st me so : Nat → Nat) (b : Nat) : v_T5 := v_s1 L ((v_sz u v W H b : Nat) : Int) ((v_ed u v W H b : Nat) : Int) ((so b : Nat) : Int) (day, heat, ((st b : Nat) : Int), ((me b : Nat) : Int), x)
def v_nst (L : v_LR) (u v W H : Nat) (day heat x : Int) (st me so : Nat → Nat) (k b : Nat) : Nat := if b < k then (v_nb L u v W H day heat x st me so b).2.2.1.toNat else st b
def v_nme (L : v_LR) (u v W H : Nat) (day heat x : Int) (st me so : Nat → Nat) (k b : Nat) : Nat := if b < k then (v_nb L u v W H day heat x st me so b).2.2.2.1.toNat else me b
def v_d7 (s s' : d_S) : Prop := (∀ a, a ≠ 7 → a ≠ 47 → a ≠ 49 → a ≠ 50 → s'.1 a = s.1 a) ∧ ∀ a, a ≠ 47 → s'.2.1 a = s.2.1 a
theorem v_dayl {K : d_S → Option d_S} (hso : ∀ b, b < 64 → st b ≤ 9 ∧ me b ≤ 100 ∧ so b ≤ 1) (hd9 : day < 999) : ∀ (j k m : Nat), k + j = v_bl u v → j < m → ∀ (s : d_S), v_CT t e L → v_M s (v_nst L u v W H day heat x st me so k) (v_nme L u v W H day heat x st me so k) so → v_Q s u v W H → F_X9_ruler_3 s = some e → v_Y s day heat x → v_Nm (s.1 49) → ∃ s', F_X11_passDay_l10 t K m (k : Int) s = K s' ∧ v_M s' (v_nst L u v W H day heat x st me so (v_bl u v)) (v_nme L u v W H day heat x st me so (v_bl u v)) so ∧ v_d7 s s' ∧ v_Nm (s'.1 49) := by
  intro j
  induction j with
  | zero =>
    intro k m hk hm s hT hM hQ hE hY hN
    obtain ⟨m, rfl⟩ : ∃ q, m = q + 1 := ⟨m - 1, by omega⟩
    have hk : k = v_bl u v := by omega
    subst hk
    refine ⟨s, ?_, hM, ⟨fun _ _ _ _ _ => rfl, fun _ _ => rfl⟩, hN⟩
    show F_X11_passDay_l10_b t K (F_X11_passDay_l10 t K m) _ s = _
    unfold F_X11_passDay_l10_b
    rw [hQ.1, if_neg (by omega)]
  | succ j ih =>
    intro k m hk hm s hT hM hQ hE hY hN
    obtain ⟨m, rfl⟩ : ∃ q, m = q + 1 := ⟨m - 1, by omega⟩
    have hkb : k < v_bl u v := by omega
    have h64 := hQ.2.2.1
    have hk64 : k < 64 := by omega
    obtain ⟨s1, a1, a2, a3, a4, a5, a6, a7⟩ := P_start hM hQ hkb hE hY hN
    have e1 : v_nst L u v W H day heat x st me so k k = st k := if_neg (by omega)
    have e2 : v_nme L u v W H day heat x st me so k k = me k := if_neg (by omega)
    rw [e1, e2] at a2
    obtain ⟨s2, b1, b2, b3, b4, b5, b6⟩ := P_run (n := 1) (by decide) (show v_CT t (s1.2.1 47 3) L by rw [a4]; exact hT) a2 a5
    have hr : v_rn L ((v_sz u v W H k : Nat) : Int) ((v_ed u v W H k : Nat) : Int) ((so k : Nat) : Int) 1 (day, heat, ((st k : Nat) : Int), ((me k : Nat) : Int), x) = v_nb L u v W H day heat x st me so k := by
      simp only [v_rn]
      rw [if_pos hd9]
      rfl
    rw [hr] at b2
    obtain ⟨⟨-, -, c8, c9, -, c10⟩, ⟨-, -, o3, o4, -⟩, -⟩ := b2
    obtain ⟨x', hx⟩ : ∃ z : Nat, (v_nb L u v W H day heat x st me so k).2.2.1 = z := ⟨(v_nb L u v W H day heat x st me so k).2.2.1.toNat, by omega⟩
    obtain ⟨y', hy⟩ : ∃ z : Nat, (v_nb L u v W H day heat x st me so k).2.2.2.1 = z := ⟨(v_nb L u v W H day heat x st me so k).2.2.2.1.toNat, by omega⟩
    have hso1 := (hso k hk64).2.2
    have hp := P_put (s := s2) (b := k) (x := x') (y := y') (z := so k) hk64 (by omega) (by omega) hso1
    have hM2 : v_M s2 (v_nst L u v W H day heat x st me so k) (v_nme L u v W H day heat x st me so k) so := hM.fr (by rw [b3 7 (by decide) (by decide) (by decide), a6 7 (by decide) (by decide)])
    have hM3 := hM2.put (b := k) (x := x') (y := y') (z := so k) (by omega) (by omega) hso1
    have u1 : v_up1 (v_nst L u v W H day heat x st me so k) k x' = v_nst L u v W H day heat x st me so (k + 1) := by
      funext i
      unfold v_up1 v_nst
      by_cases q : i = k
      · subst q; rw [if_pos rfl, if_pos (by omega), hx]; rfl
      · rw [if_neg q]
        by_cases q2 : i < k
        · rw [if_pos q2, if_pos (by omega)]
        · rw [if_neg q2, if_neg (by omega)]
    have u2 : v_up1 (v_nme L u v W H day heat x st me so k) k y' = v_nme L u v W H day heat x st me so (k + 1) := by
      funext i
      unfold v_up1 v_nme
      by_cases q : i = k
      · subst q; rw [if_pos rfl, if_pos (by omega), hy]; rfl
      · rw [if_neg q]
        by_cases q2 : i < k
        · rw [if_pos q2, if_pos (by omega)]
        · rw [if_neg q2, if_neg (by omega)]
    have u3 : v_up1 so k (so k) = so := by
      funext i
      unfold v_up1
      by_cases q : i = k
      · subst q; rw [if_pos rfl]
      · rw [if_neg q]
    rw [u1, u2, u3] at hM3
    obtain ⟨s3, hs3⟩ : ∃ z, z = d_si s2 7 k ((x' + 16 * y' + 2048 * so k : Nat) : Int) := ⟨_, rfl⟩
    rw [← hs3] at hp hM3
    have o : ∀ a, a ≠ 7 → a ≠ 47 → a ≠ 49 → a ≠ 50 → s3.1 a = s.1 a := fun a h1 h2 h3 h4 => by rw [hs3, d_si_n h1, b3 a h2 h3 h4, a6 a h2 h3]
    have o2 : ∀ a, a ≠ 47 → s3.2.1 a = s.2.1 a := fun a ha => by rw [hs3, d_si_2, b4, a7 a ha]
    have hN3 : v_Nm (s3.1 49) := by rw [hs3, d_si_n (by decide)]; exact b5.2.2
    obtain ⟨s', r1, r2, r3, r4⟩ := ih (k + 1) m (by omega) (by omega) s3 hT hM3 (hQ.fr (fun a h1 h2 => o a (by omega) (by omega) (by omega) (by omega))) ((P_ruler_fr (o 3 (by decide) (by decide) (by decide) (by decide)) (o2 5 (by decide))).trans hE) (by unfold v_Y; rw [o 6 (by decide) (by decide) (by decide) (by decide)]; exact hY) hN3
    refine ⟨s', ?_, r2, ⟨fun a h1 h2 h3 h4 => (r3.1 a h1 h2 h3 h4).trans (o a h1 h2 h3 h4), fun a ha => (r3.2 a ha).trans (o2 a ha)⟩, r4⟩
    show F_X11_passDay_l10_b t K (F_X11_passDay_l10 t K m) _ s = _
    unfold F_X11_passDay_l10_b
    rw [hQ.1, if_pos (by omega), a1, d_b_t]
    show d_b (F_X0_run t s1 (1 : Nat)) _ = _
    rw [b1, d_b_t, c8, c9, c10, hx, hy, hp, d_b_t, d_w_id (by omega) (by omega)]
    exact r1
theorem P_passDay (hT : v_CT t e L) (hM : v_M s st me so) (hQ : v_Q s u v W H) (hE : F_X9_ruler_3 s = some e) (hY : v_Y s day heat x) (hN : v_Nm (s.1 49)) (hd9 : day < 999) : ∃ s', F_X11_passDay t s = some s' ∧ v_M s' (v_nst L u v W H day heat x st me so (v_bl u v)) (v_nme L u v W H day heat x st me so (v_bl u v)) so ∧ (∀ a, a ≠ 6 → a ≠ 7 → a ≠ 47 → a ≠ 49 → a ≠ 50 → s'.1 a = s.1 a) ∧ (∀ a, a ≠ 47 → s'.2.1 a = s.2.1 a) ∧ v_Nm (s'.1 49) ∧ v_Y s' (day + 1) (x % 10) ((x * 281 + 179) % 30293) ∧ ∀ k, k ≠ 3 → k ≠ 4 → k ≠ 6 → s'.1 6 k = s.1 6 k := by
  have e1 : v_nst L u v W H day heat x st me so 0 = st := by funext i; exact if_neg (Nat.not_lt_zero i)
  have e2 : v_nme L u v W H day heat x st me so 0 = me := by funext i; exact if_neg (Nat.not_lt_zero i)
  unfold F_X11_passDay
  obtain ⟨s1, r1, r2, r3, r4⟩ := v_dayl (t := t) (e := e) (L := L) (K := fun s_u4 => d_l (d_si s_u4 6 3 (d_w ((s_u4.1 6 3) + 1))) (fun s5 => d_b2 (F_X10_draw_6 s5) (fun v6 s7 => d_l (d_si s7 6 4 (d_rem v6 10)) (fun s8 => some s8)))) (fun b hb => (hM b hb).2) hd9 (v_bl u v) 0 d_N (Nat.zero_add _) (by rw [d_N_is]; have := hQ.2.2.1; omega) s hT (by rw [e1, e2]; exact hM) hQ hE hY hN
  have h6 : s1.1 6 = s.1 6 := r3.1 6 (by decide) (by decide) (by decide) (by decide)
  obtain ⟨⟨y3, y4, y6⟩, yd, yh, yx⟩ := hY
  have hgo : F_X11_passDay_l10 t (fun s_u4 => d_l (d_si s_u4 6 3 (d_w ((s_u4.1 6 3) + 1))) (fun s5 => d_b2 (F_X10_draw_6 s5) (fun v6 s7 => d_l (d_si s7 6 4 (d_rem v6 10)) (fun s8 => some s8)))) d_N 0 s = some (d_si (d_si (d_si s1 6 3 (day + 1)) 6 6 ((x * 281 + 179) % 30293)) 6 4 (x % 10)) := by
    refine r1.trans ?_
    show d_l (d_si s1 6 3 (d_w (s1.1 6 3 + 1))) _ = _
    rw [h6, y3, d_w_id (by omega) (by omega), d_l_t]
    unfold F_X10_draw_6
    have z : (d_si s1 6 3 (day + 1)).1 6 6 = x := by rw [d_si_i, d_u_n (by decide), h6]; exact y6
    rw [z, P_behind yx, d_b_t, d_l_t, d_b2_t, d_l_t, v_remI (by omega) (by omega) (by decide) (by decide)]
  refine ⟨_, hgo, r2.fr (by rw [d_si_n (by decide), d_si_n (by decide), d_si_n (by decide)]), fun a h1 h2 h3 h4 h5 => by rw [d_si_n h1, d_si_n h1, d_si_n h1]; exact r3.1 a h2 h3 h4 h5, r3.2, by rw [d_si_n (by decide), d_si_n (by decide), d_si_n (by decide)]; exact r4, ⟨⟨?_, ?_, ?_⟩, by omega, by omega, by omega⟩, fun k h1 h2 h3 => ?_⟩
  · rw [d_si_i, d_u_n (by decide), d_si_i, d_u_n (by decide), d_si_i, d_u_t]
  · rw [d_si_i, d_u_t]
  · rw [d_si_i, d_u_n (by decide), d_si_i, d_u_t]
  · rw [d_si_i, d_u_n h2, d_si_i, d_u_n h3, d_si_i, d_u_n h1, h6]
end V9

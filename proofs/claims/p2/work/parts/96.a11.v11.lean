section V11
variable {s : d_S} {L : v_LR} {u v W H b : Nat} {st me so : Nat → Nat} {day heat x : Int}
theorem v_me1_n (hb : ∀ b, b < 64 → st b ≤ 9 ∧ me b ≤ 100 ∧ so b ≤ 1) : v_me1 L u v W H day heat st me so (v_bl u v) = v_nme L u v W H day heat x st me so (v_bl u v) := by
  funext i
  unfold v_me1 v_nme
  by_cases z : i < v_bl u v
  · rw [if_pos z, if_pos z]
    show _ = (if ((so i : Nat) : Int) = 0 then v_mf L day heat ((v_sz u v W H i : Nat) : Int) ((st i : Nat) : Int) ((me i : Nat) : Int) ((v_ed u v W H i : Nat) : Int) else ((me i : Nat) : Int)).toNat
    by_cases q : so i = 0
    · rw [if_pos q, if_pos (by omega)]
    · rw [if_neg q, if_neg (by omega), Int.toNat_natCast]
  · rw [if_neg z, if_neg z]
theorem v_st1_n (hb : ∀ b, b < 64 → st b ≤ 9 ∧ me b ≤ 100 ∧ so b ≤ 1) (h64 : v_bl u v ≤ 64) : v_st1 L u v W H (day + 1) (x % 10) st (v_nme L u v W H day heat x st me so (v_bl u v)) so (v_bl u v) = v_nst L u v W H day heat x st me so (v_bl u v) := by
  funext i
  unfold v_st1 v_nst
  by_cases z : i < v_bl u v
  · have hme := (hb i (by omega)).2.1
    rw [if_pos z, if_pos z]
    show _ = (if ((so i : Nat) : Int) = 0 then v_sf L (day + 1) (x % 10) ((v_sz u v W H i : Nat) : Int) ((st i : Nat) : Int) (if ((so i : Nat) : Int) = 0 then v_mf L day heat ((v_sz u v W H i : Nat) : Int) ((st i : Nat) : Int) ((me i : Nat) : Int) ((v_ed u v W H i : Nat) : Int) else ((me i : Nat) : Int)) ((v_ed u v W H i : Nat) : Int) else ((st i : Nat) : Int)).toNat
    by_cases q : so i = 0
    · have e : ((v_nme L u v W H day heat x st me so (v_bl u v) i : Nat) : Int) = v_mf L day heat ((v_sz u v W H i : Nat) : Int) ((st i : Nat) : Int) ((me i : Nat) : Int) ((v_ed u v W H i : Nat) : Int) := by
        rw [← v_me1_n (heat := heat) (x := x) hb]
        unfold v_me1
        rw [if_pos z, if_pos q]
        exact Int.toNat_of_nonneg (v_mf_b (by omega)).1
      rw [if_pos q, if_pos (by omega), if_pos (by omega), e]
    · rw [if_neg q, if_neg (by omega), Int.toNat_natCast]
  · rw [if_neg z, if_neg z]
theorem P_pass (hG : v_G (s.1 65) u v W H) (hT : v_RT (s.1 67) (s.1 65 2) L) (hN : v_Nm (s.1 71)) (hB : v_B (s.1 65) st me so) (h9 : s.1 65 9 = day) (h10 : s.1 65 10 = heat) (h13 : s.1 65 13 = x) (h0 : 0 ≤ day ∧ day < 999) (h1 : 0 ≤ heat ∧ heat ≤ 9) (hx : 0 ≤ x ∧ x < 30293) : ∃ s', F_X12_pass s = some s' ∧ v_B (s'.1 65) (v_nst L u v W H day heat x st me so (v_bl u v)) (v_nme L u v W H day heat x st me so (v_bl u v)) so ∧ (s'.1 65 9 = day + 1 ∧ s'.1 65 10 = x % 10 ∧ s'.1 65 13 = (x * 281 + 179) % 30293) ∧ (∀ j, j ≠ 9 → j ≠ 10 → j ≠ 13 → (j < 20 ∨ 212 ≤ j) → s'.1 65 j = s.1 65 j) ∧ (∀ a, a ≠ 65 → a ≠ 71 → s'.1 a = s.1 a) ∧ s'.2.1 = s.2.1 ∧ v_Nm (s'.1 71) := by
  have hb : ∀ b, b < 64 → st b ≤ 9 ∧ me b ≤ 100 ∧ so b ≤ 1 := fun b hb => (hB b hb).2
  have ha := hG.ac
  have e0 : v_me1 L u v W H day heat st me so 0 = me := by funext i; exact if_neg (Nat.not_lt_zero i)
  obtain ⟨s1, r1, r2, r3, r4, r5, r6⟩ := v_pass1 (L := L) (K := fun s_u8 => d_l (d_si s_u8 65 (9) (d_w ((s_u8.1 65 9) + 1))) (fun s9 => d_b2 (F_X12_drawn s9 10) (fun v10 s11 => d_l (d_si s11 65 (10) v10) (fun s12 => F_X12_pass_l74 d_N 0 s12)))) (show 0 ≤ day ∧ day ≤ 2000 by omega) (show 0 ≤ heat ∧ heat ≤ 2000 by omega) (v_bl u v) 0 d_N (Nat.zero_add _) (by rw [d_N_is]; omega) s hG hT hN (by rw [e0]; exact hB) h9 h10
  rw [v_me1_n (x := x) hb] at r2
  obtain ⟨s4, hs4⟩ : ∃ z, z = d_si (d_si (d_si s1 65 9 (day + 1)) 65 13 ((x * 281 + 179) % 30293)) 65 10 (x % 10) := ⟨_, rfl⟩
  have hgo : F_X12_pass s = F_X12_pass_l74 d_N 0 s4 := by
    unfold F_X12_pass
    refine r1.trans ?_
    show d_l (d_si s1 65 9 (d_w (s1.1 65 9 + 1))) _ = _
    rw [r3 9 (by decide), h9, d_w_id (by omega) (by omega), d_l_t]
    have z : (d_si s1 65 9 (day + 1)).1 65 13 = x := by rw [d_si_i, d_u_n (by decide), r3 13 (by decide)]; exact h13
    unfold F_X12_drawn F_X12_anew
    rw [d_g_t (by decide), z, d_l_t, d_b_t, d_b2_t, d_l_t, v_remI (by omega) (by omega) (by decide) (by decide), v_remI (by omega) (by omega) (by decide) (by decide), hs4]
  have e65 : s4.1 65 = d_u (d_u (d_u (s1.1 65) 9 (day + 1)) 13 ((x * 281 + 179) % 30293)) 10 (x % 10) := by rw [hs4, d_si_i, d_si_i, d_si_i]
  have eo : ∀ a, a ≠ 65 → s4.1 a = s1.1 a := fun a h => by rw [hs4, d_si_n h, d_si_n h, d_si_n h]
  have f65 : ∀ j, j ≠ 9 → j ≠ 10 → j ≠ 13 → s4.1 65 j = s1.1 65 j := fun j a b c => by rw [e65, d_u_n b, d_u_n c, d_u_n a]
  have hB4 : v_B (s4.1 65) st (v_nme L u v W H day heat x st me so (v_bl u v)) so := by
    intro i hi
    rw [f65 _ (by omega) (by omega) (by omega), f65 _ (by omega) (by omega) (by omega), f65 _ (by omega) (by omega) (by omega)]
    exact r2 i hi
  have hG4 : v_G (s4.1 65) u v W H := by
    have := r3.G hG
    obtain ⟨⟨a, b, c, d⟩, r⟩ := this
    exact ⟨⟨by rw [f65 14 (by decide) (by decide) (by decide)]; exact a, by rw [f65 15 (by decide) (by decide) (by decide)]; exact b, by rw [f65 16 (by decide) (by decide) (by decide)]; exact c, by rw [f65 17 (by decide) (by decide) (by decide)]; exact d⟩, r⟩
  have e1 : v_st1 L u v W H (day + 1) (x % 10) st (v_nme L u v W H day heat x st me so (v_bl u v)) so 0 = st := by funext i; exact if_neg (Nat.not_lt_zero i)
  obtain ⟨s', q1, q2, q3, q4, q5, q6⟩ := v_pass2 (L := L) (day := day + 1) (heat := x % 10) (by omega) (by omega) (v_bl u v) 0 d_N (Nat.zero_add _) (by rw [d_N_is]; omega) s4 hG4 (by rw [eo 67 (by decide), r4 67 (by decide) (by decide), f65 2 (by decide) (by decide) (by decide), r3 2 (by decide)]; exact hT) (by rw [eo 71 (by decide)]; exact r6) (by rw [e1]; exact hB4) (by rw [e65]; rfl) (by rw [e65, d_u_t])
  rw [v_st1_n hb ha.2.2.1] at q2
  refine ⟨s', hgo.trans q1, q2, ⟨?_, ?_, ?_⟩, fun j h1 h2 h3 h4 => ?_, fun a h1 h2 => ?_, ?_, q6⟩
  · rw [q3 9 (by decide), e65]; rfl
  · rw [q3 10 (by decide), e65]; rfl
  · rw [q3 13 (by decide), e65]; rfl
  · rw [q3 j h4, f65 j h1 h2 h3, r3 j h4]
  · rw [q4 a h1 h2, eo a h1, r4 a h1 h2]
  · rw [q5, hs4, d_si_2, d_si_2, d_si_2, r5]
end V11

section X18
variable {s0 s s1 s' : d_S} {b : Nat → Nat} {n p q w w0 so t0 m o x c : Nat} {L : List (Nat × Nat)}
theorem t_tx_s {f : Nat} : t_tx b n (f + 1) m o p = if t_k b n p = 0 then (0, p) else if (t_cl b n m o p).1 ≠ 0 then t_cl b n m o p else t_tx b n f (m + 1) (if t_cw b n p < 3 then o + 2 ^ t_cw b n p else o) (t_cl b n m o p).2 := rfl
theorem P_rloop : ∀ (f N : Nat) (L : List (Nat × Nat)) (o p w : Nat) (s : d_S), l_I s0 b n p t0 w o L s → p ≤ n → f + L.length = 26 → f < N → ∃ s', F_X12_readText_l43 N s = some (((t_tx b n f L.length o p).1 : Int), s') ∧ l_T b n (t_tx b n f L.length o p).2 s' ∧ l_g t0 s0 s' ∧ ((t_tx b n f L.length o p).1 = 0 → ∃ o' w', l_I s0 b n (t_tx b n f L.length o p).2 t0 w' o' (L ++ t_cs2 b n f L.length o p) s') := by
  intro f
  induction f with
  | zero =>
    intro N L o p w s hI hp hf hN
    have := hI.2.2.2.2.2.2.2.2
    omega
  | succ f ih =>
    intro N L o p w s hI hp hf hN
    obtain ⟨N, rfl⟩ : ∃ z, N = z + 1 := ⟨N - 1, by omega⟩
    have hT := hI.1
    rw [t_tx_s]
    show ∃ s', F_X12_readText_l43_b (F_X12_readText_l43 N) s = _ ∧ _
    unfold F_X12_readText_l43_b
    by_cases k0 : t_k b n p = 0
    · rw [if_pos (hT.2.2.2.1.1 k0), if_pos k0]
      refine ⟨s, rfl, hT, hI.2.2.2.2.1, fun _ => ⟨o, w, ?_⟩⟩
      have e : t_cs2 b n (f + 1) L.length o p = [] := if_pos k0
      rw [e, List.append_nil]
      exact hI
    rw [if_neg (fun q => k0 (hT.2.2.2.1.2 q)), if_neg k0]
    obtain ⟨s1, c1, c2, c3, c4⟩ := P_clause hI hp
    have hle := t_cl_le (b := b) (m := L.length) (o := o) hp
    have e : t_cs2 b n (f + 1) L.length o p = (t_cw b n p, t_x b n p) :: t_cs2 b n f (L.length + 1) (if t_cw b n p < 3 then o + 2 ^ t_cw b n p else o) (t_cl b n L.length o p).2 := if_neg k0
    rw [e]
    obtain ⟨r, hr⟩ : ∃ z, z = t_cl b n L.length o p := ⟨_, rfl⟩
    rw [← hr] at c1 c2 c4 hle ⊢
    rw [c1, d_b2_t]
    by_cases r0 : r.1 = 0
    rotate_left
    · rw [if_neg (by omega), if_pos r0]
      exact ⟨s1, rfl, c2, c3, fun q => absurd q r0⟩
    rw [if_pos (by omega), if_neg (fun q => q r0)]
    obtain ⟨g1, w2, g2⟩ := c4 r0
    have := ih N _ _ r.2 w2 s1 g2 hle (by rw [List.length_append, List.length_cons, List.length_nil]; omega) (by omega)
    rw [List.length_append, List.length_cons, List.length_nil, List.append_assoc] at this
    exact this
def l_tt (s s' : d_S) (k : Nat) (b : Nat → Nat) (n : Nat) : Prop := (∀ a, a ≠ 64 → a ≠ 65 → a ≠ 67 → a ≠ 69 → a ≠ 70 → s'.1 a = s.1 a) ∧ (∀ j, j ≠ 1 → s'.1 65 j = s.1 65 j) ∧ s'.2.1 = s.2.1 ∧ (∀ j, j < 777 * k ∨ 777 * k + 777 ≤ j → s'.1 67 j = s.1 67 j) ∧ s'.1 64 4 = 0 ∧ s'.1 64 5 = ((t_text b n).1 : Int) ∧ s'.1 64 6 = (if (t_text b n).1 = 0 then -1 else ((t_text b n).2 : Int)) ∧ s'.1 65 1 = (if (t_text b n).1 = 0 then (k : Int) + 1 else (k : Int)) ∧ ((t_text b n).1 = 0 → ∃ o w, (t_cs2 b n 26 0 0 (t_sk b n 0)).length ≤ 24 ∧ s'.1 67 (777 * k) = ((t_cs2 b n 26 0 0 (t_sk b n 0)).length : Int) ∧ w ≤ 303 ∧ t_LO (t_cs2 b n 26 0 0 (t_sk b n 0)) o ∧ ∀ c e, (t_cs2 b n 26 0 0 (t_sk b n 0))[c]? = some e → l_row b n (s'.1 67) (777 * k) w c e)
theorem P_rtext {k : Nat} (hB : l_B b n s) (hk : s.1 65 1 = (k : Int)) (hk4 : k < 4) : ∃ s', F_X12_text s = some ((if (t_text b n).1 = 0 then (k : Int) else -1), s') ∧ l_tt s s' k b n := by
  have hn := hB.2.1
  obtain ⟨t0, ht0⟩ : ∃ z, z = 777 * k := ⟨_, rfl⟩
  obtain ⟨s1, hs1⟩ : ∃ z, z = d_si s 64 12 (t0 : Int) := ⟨_, rfl⟩
  obtain ⟨s3, hs3⟩ : ∃ z, z = d_si s1 67 t0 0 := ⟨_, rfl⟩
  obtain ⟨s4, hs4⟩ : ∃ z, z = d_si s3 64 13 0 := ⟨_, rfl⟩
  obtain ⟨s5, hs5⟩ : ∃ z, z = d_si s4 64 21 0 := ⟨_, rfl⟩
  obtain ⟨s6, hs6⟩ : ∃ z, z = d_si s5 64 7 0 := ⟨_, rfl⟩
  have e64 : ∀ j, j ≠ 12 → j ≠ 13 → j ≠ 21 → j ≠ 7 → s6.1 64 j = s.1 64 j := fun j q1 q2 q3 q4 => by rw [hs6, d_si_i, d_u_n q4, hs5, d_si_i, d_u_n q3, hs4, d_si_i, d_u_n q2, hs3, d_si_n (by decide), hs1, d_si_i, d_u_n q1]
  have eo : ∀ a, a ≠ 64 → a ≠ 67 → s6.1 a = s.1 a := fun a q1 q2 => by rw [hs6, d_si_n q1, hs5, d_si_n q1, hs4, d_si_n q1, hs3, d_si_n q2, hs1, d_si_n q1]
  have e67 : s6.1 67 = d_u (s.1 67) t0 0 := by rw [hs6, d_si_n (by decide), hs5, d_si_n (by decide), hs4, d_si_n (by decide), hs3, d_si_i, hs1, d_si_n (by decide)]
  have e12 : s6.1 64 12 = (t0 : Int) := by rw [hs6, d_si_i, d_u_n (by decide), hs5, d_si_i, d_u_n (by decide), hs4, d_si_i, d_u_n (by decide), hs3, d_si_n (by decide), hs1, d_si_i, d_u_t]
  have e13 : s6.1 64 13 = ((0 : Nat) : Int) := by rw [hs6, d_si_i, d_u_n (by decide), hs5, d_si_i, d_u_n (by decide), hs4, d_si_i, d_u_t]; rfl
  have e21 : s6.1 64 21 = ((0 : Nat) : Int) := by rw [hs6, d_si_i, d_u_n (by decide), hs5, d_si_i, d_u_t]; rfl
  have e7 : s6.1 64 7 = ((0 : Nat) : Int) := by rw [hs6, d_si_i, d_u_t]; rfl
  have hB6 : l_B b n s6 := ⟨by rw [e64 4 (by decide) (by decide) (by decide) (by decide)]; exact hB.1, hn, fun i hi => by rw [eo 68 (by decide) (by decide)]; exact hB.2.2.1 i hi, hB.2.2.2⟩
  obtain ⟨s7, a1, a2, a3⟩ := l_stp hB6 e7 (Nat.zero_le n)
  have hsk := t_sk_le (b := b) (Nat.zero_le n)
  have hI : l_I s7 b n (t_sk b n 0) t0 0 0 [] s7 := ⟨a2, ⟨by rw [a3.1 12 (by decide)]; exact e12, by rw [a3.1 13 (by decide)]; exact e13, by rw [a3.1 21 (by decide)]; exact e21⟩, by rw [a3.2.1 67 (by decide), e67, d_u_t]; rfl, fun c e h => by simp at h, l_g.rf, t_LO.nil, by omega, by omega, by decide⟩
  obtain ⟨s8, b1, b2, b3, b4⟩ := P_rloop 26 d_N [] 0 (t_sk b n 0) 0 s7 hI hsk.2 rfl (by rw [d_N_is]; decide)
  have hr99 := t_text_99 (b := b) (n := n)
  have hrn := t_text_le (b := b) (n := n)
  have b4 : (t_text b n).1 = 0 → ∃ o' w', l_I s7 b n (t_text b n).2 t0 w' o' (t_cs2 b n 26 0 0 (t_sk b n 0)) s8 := b4
  have b2 : l_T b n (t_text b n).2 s8 := b2
  have b1 : F_X12_readText_l43 d_N s7 = some (((t_text b n).1 : Int), s8) := b1
  obtain ⟨r, hr⟩ : ∃ z, z = t_text b n := ⟨_, rfl⟩
  unfold l_tt
  rw [← hr] at b1 b2 b4 hr99 hrn ⊢
  have hgo : F_X12_readText s = some ((r.1 : Int), s8) := by
    unfold F_X12_readText
    rw [hk, show d_w (777 * (k : Int)) = (t0 : Int) by rw [d_w_id (by omega) (by omega)]; omega, d_l_t, ← hs1, show s1.1 64 12 = (t0 : Int) by rw [hs1, d_si_i, d_u_t], d_g_t (by omega), Int.toNat_natCast, d_l_t, ← hs3, d_l_t, ← hs4, d_l_t, ← hs5, d_l_t, ← hs6, a1, d_b_t]
    exact b1
  obtain ⟨s9, hs9⟩ : ∃ z, z = d_si s8 64 5 (r.1 : Int) := ⟨_, rfl⟩
  have h659 : s8.1 65 = s.1 65 := by rw [b3.2.1 65 (by decide) (by decide) (by decide) (by decide), a3.2.1 65 (by decide), eo 65 (by decide) (by decide)]
  have fr8 : ∀ a, a ≠ 64 → a ≠ 65 → a ≠ 67 → a ≠ 69 → a ≠ 70 → s8.1 a = s.1 a := fun a q1 q2 q3 q4 q5 => by rw [b3.2.1 a q1 q3 q4 q5, a3.2.1 a q1, eo a q1 q3]
  have fr82 : s8.2.1 = s.2.1 := by rw [b3.2.2.2.1, a3.2.2.1, hs6, hs5, hs4, hs3, hs1]; rfl
  have fr67 : ∀ j, j < t0 ∨ t0 + 777 ≤ j → s8.1 67 j = s.1 67 j := fun j hj => by rw [b3.2.2.1 j hj, a3.2.1 67 (by decide), e67, d_u_n (by omega)]
  unfold F_X12_text
  rw [hk, if_neg (by omega), hgo, d_b2_t, d_l_t, ← hs9, show s9.1 64 5 = (r.1 : Int) by rw [hs9, d_si_i, d_u_t], show s9.1 64 8 = (r.2 : Int) by rw [hs9, d_si_i, d_u_n (by decide)]; exact b2.2.1]
  unfold F_X12_text_j36
  by_cases r0 : r.1 = 0
  · rw [if_pos (by omega), if_pos r0, if_pos r0, if_pos r0, d_l_t, d_l_t]
    obtain ⟨s5', hs5'⟩ : ∃ z, z = d_si (d_si s9 64 6 (-1)) 64 4 0 := ⟨_, rfl⟩
    have o5 : ∀ a, a ≠ 64 → s5'.1 a = s8.1 a := fun a q => by rw [hs5', d_si_n q, d_si_n q, hs9, d_si_n q]
    obtain ⟨s6', hs6'⟩ : ∃ z, z = d_si s5' 65 1 ((k : Int) + 1) := ⟨_, rfl⟩
    have o6 : s6'.1 64 = s5'.1 64 := by rw [hs6', d_si_n (by decide)]
    rw [← hs5', show s5'.1 64 5 = (r.1 : Int) by rw [hs5', d_si_i, d_u_n (by decide), d_si_i, d_u_n (by decide), hs9, d_si_i, d_u_t], if_pos (by omega), o5 65 (by decide), h659, hk, d_w_id (by omega) (by omega), d_l_t, ← hs6', show s6'.1 65 1 = (k : Int) + 1 by rw [hs6', d_si_i, d_u_t], d_w_id (by omega) (by omega), show (k : Int) + 1 - 1 = (k : Int) by omega]
    refine ⟨s6', rfl, fun a q1 q2 q3 q4 q5 => by rw [hs6', d_si_n q2, o5 a q1, fr8 a q1 q2 q3 q4 q5], fun j hj => by rw [hs6', d_si_i, d_u_n hj, o5 65 (by decide), h659], by rw [hs6', hs5', hs9]; exact fr82, fun j hj => by rw [hs6', d_si_n (by decide), o5 67 (by decide)]; exact fr67 j (by omega), by rw [o6, hs5', d_si_i, d_u_t], by rw [o6, hs5', d_si_i, d_u_n (by decide), d_si_i, d_u_n (by decide), hs9, d_si_i, d_u_t], by rw [o6, hs5', d_si_i, d_u_n (by decide), d_si_i, d_u_t], by rw [hs6', d_si_i, d_u_t], fun _ => ?_⟩
    obtain ⟨o', w', -, -, hm, hrow, -, hLO, hw', -, hL⟩ := b4 r0
    refine ⟨o', w', hL, ?_, by omega, hLO, fun c e hce => ?_⟩
    · rw [hs6', d_si_n (by decide), o5 67 (by decide), ← ht0]; exact hm
    · rw [hs6', d_si_n (by decide), o5 67 (by decide), ← ht0]; exact hrow c e hce
  · rw [if_neg (by omega), if_neg r0, if_neg r0, if_neg r0, d_l_t, d_l_t]
    obtain ⟨s5', hs5'⟩ : ∃ z, z = d_si (d_si s9 64 6 (r.2 : Int)) 64 4 0 := ⟨_, rfl⟩
    have o5 : ∀ a, a ≠ 64 → s5'.1 a = s8.1 a := fun a q => by rw [hs5', d_si_n q, d_si_n q, hs9, d_si_n q]
    rw [← hs5', show s5'.1 64 5 = (r.1 : Int) by rw [hs5', d_si_i, d_u_n (by decide), d_si_i, d_u_n (by decide), hs9, d_si_i, d_u_t], if_neg (by omega)]
    exact ⟨s5', rfl, fun a q1 q2 q3 q4 q5 => by rw [o5 a q1, fr8 a q1 q2 q3 q4 q5], fun j hj => by rw [o5 65 (by decide), h659], by rw [hs5', hs9]; exact fr82, fun j hj => by rw [o5 67 (by decide)]; exact fr67 j (by omega), by rw [hs5', d_si_i, d_u_t], by rw [hs5', d_si_i, d_u_n (by decide), d_si_i, d_u_n (by decide), hs9, d_si_i, d_u_t], by rw [hs5', d_si_i, d_u_n (by decide), d_si_i, d_u_t], by rw [o5 65 (by decide), h659]; exact hk, fun q => absurd q r0⟩
theorem P_rtext4 (hk : s.1 65 1 = 4) : F_X12_text s = some (-1, s) := by
  unfold F_X12_text
  rw [hk, if_pos rfl]
end X18

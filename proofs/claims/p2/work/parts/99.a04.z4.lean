def z_eqs : List (Nat × Nat × Int) := [(65, 0, 0), (65, 1, 0), (65, 2, -1), (65, 3, 0), (65, 4, 0), (65, 5, 0), (65, 6, 0), (65, 7, 0), (65, 8, 0), (65, 14, 0), (65, 15, 0), (65, 16, 1), (65, 17, 1), (65, 18, 0), (66, 0, 0), (66, 1, 0), (66, 2, -1), (66, 3, 0), (66, 4, 0), (66, 5, 0), (66, 6, 0), (66, 7, 0), (66, 8, 0), (66, 14, 0), (66, 15, 0), (66, 16, 1), (66, 17, 1), (66, 18, 0)]
theorem z_eqs_ok : ∀ e ∈ z_eqs, z_s.1 e.1 e.2.1 = e.2.2 := by decide +kernel
theorem z_e {a k : Nat} {v : Int} (h : (a, k, v) ∈ z_eqs) : z_s.1 a k = v := z_eqs_ok _ h
theorem z_Wy (o : Nat) (A : Nat) (ho : o = 0 ∧ A = 65 ∨ o = 17 ∧ A = 66) : v_Wy z_s.1 o (z_s.1 A) := by
  rcases ho with ⟨rfl, rfl⟩ | ⟨rfl, rfl⟩
  · exact ⟨by decide +kernel, by decide +kernel⟩
  · exact ⟨by decide +kernel, by decide +kernel⟩
theorem z_Wp (o : Nat) (A : Nat) (ho : o = 0 ∧ A = 65 ∨ o = 17 ∧ A = 66) : v_Wp z_s.1 o (z_s.1 A) := by
  rcases ho with ⟨rfl, rfl⟩ | ⟨rfl, rfl⟩
  · refine ⟨by decide +kernel, fun n k hn _ => ?_⟩
    rw [z_e (by decide : (65, 0, (0 : Int)) ∈ z_eqs)] at hn; omega
  · refine ⟨by decide +kernel, fun n k hn _ => ?_⟩
    rw [z_e (by decide : (66, 0, (0 : Int)) ∈ z_eqs)] at hn; omega
theorem z_Ws (o : Nat) (A : Nat) (ho : o = 0 ∧ A = 65 ∨ o = 17 ∧ A = 66) : v_Ws z_s.1 o (z_s.1 A) := by
  rcases ho with ⟨rfl, rfl⟩ | ⟨rfl, rfl⟩
  · exact ⟨0, 0, by decide +kernel, by decide +kernel, by decide, by decide, by decide +kernel, fun j hj => absurd hj (Nat.not_lt_zero j)⟩
  · exact ⟨0, 0, by decide +kernel, by decide +kernel, by decide, by decide, by decide +kernel, fun j hj => absurd hj (Nat.not_lt_zero j)⟩
theorem z_Wt (o : Nat) (A : Nat) (ho : o = 0 ∧ A = 65 ∨ o = 17 ∧ A = 66) : v_Wt z_s.1 o (z_s.1 A) := by
  rcases ho with ⟨rfl, rfl⟩ | ⟨rfl, rfl⟩
  · refine ⟨by decide +kernel, ⟨by decide +kernel, fun j i hj _ => ?_⟩, ⟨by decide +kernel, fun j i hj _ => ?_⟩, ⟨by decide +kernel, fun j hj => ?_⟩, ⟨by decide +kernel, fun j i hj _ => ?_⟩, ⟨by decide +kernel, fun j i hj _ => ?_⟩⟩
    · rw [z_e (by decide : (65, 4, (0 : Int)) ∈ z_eqs)] at hj; omega
    · rw [z_e (by decide : (65, 5, (0 : Int)) ∈ z_eqs)] at hj; omega
    · rw [z_e (by decide : (65, 6, (0 : Int)) ∈ z_eqs)] at hj; omega
    · rw [z_e (by decide : (65, 7, (0 : Int)) ∈ z_eqs)] at hj; omega
    · rw [z_e (by decide : (65, 8, (0 : Int)) ∈ z_eqs)] at hj; omega
  · refine ⟨by decide +kernel, ⟨by decide +kernel, fun j i hj _ => ?_⟩, ⟨by decide +kernel, fun j i hj _ => ?_⟩, ⟨by decide +kernel, fun j hj => ?_⟩, ⟨by decide +kernel, fun j i hj _ => ?_⟩, ⟨by decide +kernel, fun j i hj _ => ?_⟩⟩
    · rw [z_e (by decide : (66, 4, (0 : Int)) ∈ z_eqs)] at hj; omega
    · rw [z_e (by decide : (66, 5, (0 : Int)) ∈ z_eqs)] at hj; omega
    · rw [z_e (by decide : (66, 6, (0 : Int)) ∈ z_eqs)] at hj; omega
    · rw [z_e (by decide : (66, 7, (0 : Int)) ∈ z_eqs)] at hj; omega
    · rw [z_e (by decide : (66, 8, (0 : Int)) ∈ z_eqs)] at hj; omega
theorem z_I (A : Nat) (ho : A = 65 ∨ A = 66) : v_I (z_s.1 A) := by
  have e : ∀ k v, (A, k, v) ∈ z_eqs → z_s.1 A k = v := fun k v h => z_e h
  have m : ∀ k v, (65, k, v) ∈ z_eqs → (66, k, v) ∈ z_eqs → z_s.1 A k = v := by
    intro k v h1 h2
    rcases ho with rfl | rfl
    · exact z_e h1
    · exact z_e h2
  have e0 := m 0 0 (by decide) (by decide)
  have e1 := m 1 0 (by decide) (by decide)
  have e2 := m 2 (-1) (by decide) (by decide)
  have e4 := m 4 0 (by decide) (by decide)
  have e5 := m 5 0 (by decide) (by decide)
  have e6 := m 6 0 (by decide) (by decide)
  have e7 := m 7 0 (by decide) (by decide)
  have e8 := m 8 0 (by decide) (by decide)
  have e14 := m 14 0 (by decide) (by decide)
  have e15 := m 15 0 (by decide) (by decide)
  have e16 := m 16 1 (by decide) (by decide)
  have e17 := m 17 1 (by decide) (by decide)
  have e18 := m 18 0 (by decide) (by decide)
  have hb : v_Ib (z_s.1 A) := by
    rcases ho with rfl | rfl
    · unfold v_Ib; decide +kernel
    · unfold v_Ib; decide +kernel
  have hy : (0 ≤ z_s.1 A 9 ∧ z_s.1 A 9 ≤ 999) ∧ (0 ≤ z_s.1 A 10 ∧ z_s.1 A 10 ≤ 9) ∧ (0 ≤ z_s.1 A 12 ∧ z_s.1 A 12 ≤ 99) ∧ (0 ≤ z_s.1 A 13 ∧ z_s.1 A 13 < 30293) := by
    rcases ho with rfl | rfl
    · decide +kernel
    · decide +kernel
  refine ⟨⟨by omega, by omega, by omega, fun _ => by omega, by omega, fun n hn => by omega⟩, hb, ⟨by omega, by omega, by omega, by omega, by omega, by omega, by omega, fun j hj => by omega, fun j hj => by omega, fun j hj => by omega, fun j hj => by omega, fun j hj => by omega⟩, ⟨hy.1, hy.2.1, hy.2.2.1, hy.2.2.2, 0, 0, e14, e15, by decide, by decide, ?_, ?_⟩⟩
  · exact Nat.pos_of_ne_zero (by simp)
  · exact Nat.pos_of_ne_zero (by simp)
theorem z_fresh {t : Nat → Option p_C} : v_R t z_s := by
  refine ⟨⟨z_Wp 0 65 (Or.inl ⟨rfl, rfl⟩), z_Wy 0 65 (Or.inl ⟨rfl, rfl⟩), z_Ws 0 65 (Or.inl ⟨rfl, rfl⟩), z_Wt 0 65 (Or.inl ⟨rfl, rfl⟩)⟩, z_I 65 (Or.inl rfl), ⟨z_Wp 17 66 (Or.inr ⟨rfl, rfl⟩), z_Wy 17 66 (Or.inr ⟨rfl, rfl⟩), z_Ws 17 66 (Or.inr ⟨rfl, rfl⟩), z_Wt 17 66 (Or.inr ⟨rfl, rfl⟩)⟩, z_I 66 (Or.inr rfl), by decide +kernel, ?_, ⟨fun _ => (0, fun _ => 0, fun _ _ => 0, (none, none, none)), fun k hk => ?_, fun k hk => ?_⟩, ⟨by unfold v_Nm; decide +kernel, by unfold v_Nm; decide +kernel⟩, ?_⟩
  · have eu : v_u (z_s.1 65) = 0 := by unfold v_u; rw [z_e (by decide : (65, 14, (0 : Int)) ∈ z_eqs)]; rfl
    have ev : v_v (z_s.1 65) = 0 := by unfold v_v; rw [z_e (by decide : (65, 15, (0 : Int)) ∈ z_eqs)]; rfl
    have ew : v_wi (z_s.1 65) = 1 := by unfold v_wi; rw [z_e (by decide : (65, 16, (1 : Int)) ∈ z_eqs)]; rfl
    have eh : v_hi (z_s.1 65) = 1 := by unfold v_hi; rw [z_e (by decide : (65, 17, (1 : Int)) ∈ z_eqs)]; rfl
    rw [eu, ev, ew, eh]
    exact ⟨by decide +kernel, by unfold v_P; decide +kernel, by decide +kernel, by decide, by decide⟩
  · rw [z_e (by decide : (65, 1, (0 : Int)) ∈ z_eqs)] at hk; omega
  · rw [z_e (by decide : (66, 1, (0 : Int)) ∈ z_eqs)] at hk; omega
  · exact ⟨by decide +kernel, by decide +kernel, by decide +kernel, by decide +kernel, by decide +kernel⟩
theorem z_law (xs : List Int32) (hl : xs.length ≤ 3584) : ∃ (n d : Nat) (h2 : p_H), d ≤ 1000 ∧ p_run p_GT p_MT n d m_L_law 0 [(0, .ref 0)] [] (p_h0 xs) = some (some (.int 1), h2) ∧ h2.length ≤ 600002 ∧ p_sl h2 - p_sl (p_h0 xs) ≤ 7302249 := by
  obtain ⟨ls, h, ⟨-, hH, hL, -⟩, hW⟩ := k_con_ok hl
  have hsl : p_sl h ≤ 21366 := hH.2.1.1
  have hlen : h.length = 80 := hH.1
  have h0 : h[0]? = some (2, 0, xs.map Value.int) := by rw [hH.2.1.2.2, k_scr hl]
  obtain ⟨v0, a0, b0⟩ := hL 0 _ rfl (by show (16 : Nat) ≠ 0; decide)
  obtain ⟨v1, a1, b1⟩ := hL 1 _ rfl (by show (18 : Nat) ≠ 0; decide)
  obtain ⟨v2, a2, b2⟩ := hL 2 _ rfl (by show (80 : Nat) ≠ 0; decide)
  obtain ⟨v3, a3, b3⟩ := hL 3 _ rfl (by show (1 : Nat) ≠ 0; decide)
  have b0 : v0 = .ref 0 := b0
  have b1 : v1 = .ref 2 := b1
  have b2 : v2 = .ref 64 := b2
  have b3 : v3 = .int (Int32.ofInt 0) := b3.2
  subst b0 b1 b2 b3
  obtain ⟨n, v, h2, g1, g2, g3, g4⟩ := hW _ (z_loop hl 21366 514 (fun a => h[a]?) z_s h ls 0 rfl (by omega) (z_wds hH) (z_dV hH) z_fresh h0 a0 a1 a2 a3 (by omega) (by omega))
  subst g2
  exact ⟨n, 100, h2, by decide, g1, by omega, by omega⟩

/-! The pile and the counts as the ghosts read them -/
section GPL
variable {h : p_H} {j : Nat}
theorem g_lk69_1 : g_lk 1 69 j = Nat.ble j 159 := by
  have e : g_lk 1 69 j = (Nat.ble j 159 || (false || (false || (false || (false || false))))) := rfl
  rw [e]; cases Nat.ble j 159 <;> rfl
theorem g_lk69_2 : g_lk 2 69 j = Nat.ble j 159 := by
  have e : g_lk 2 69 j = (false || (Nat.ble j 159 || (false || (false || (false || false))))) := rfl
  rw [e]; cases Nat.ble j 159 <;> rfl
theorem g_lk69_3 : g_lk 3 69 j = Nat.ble j 159 := by
  have e : g_lk 3 69 j = (false || (false || (Nat.ble j 159 || (false || (false || false))))) := rfl
  rw [e]; cases Nat.ble j 159 <;> rfl
theorem g_lk69_4 : g_lk 4 69 j = Nat.ble j 159 := by
  have e : g_lk 4 69 j = (false || (false || (false || (Nat.ble j 159 || (false || false))))) := rfl
  rw [e]; cases Nat.ble j 159 <;> rfl
theorem g_lk69_5 : g_lk 5 69 j = Nat.ble j 159 := by
  have e : g_lk 5 69 j = (false || (false || (false || (false || (Nat.ble j 159 || false))))) := rfl
  rw [e]; cases Nat.ble j 159 <;> rfl
theorem g_lk70_4 : g_lk 4 70 j = Nat.ble j 8 := by
  have e : g_lk 4 70 j = (Nat.ble j 8 || (false || false)) := rfl
  rw [e]; cases Nat.ble j 8 <;> rfl
theorem g_lk70_6 : g_lk 6 70 j = Nat.ble j 8 := by
  have e : g_lk 6 70 j = (false || (Nat.ble j 8 || false)) := rfl
  rw [e]; cases Nat.ble j 8 <;> rfl
theorem g_ms69_1 : g_ms 1 h 69 j = g_ms 4 h 69 j := by simp only [g_ms, g_lk69_1, g_lk69_4]
theorem g_ms69_2 : g_ms 2 h 69 j = g_ms 4 h 69 j := by simp only [g_ms, g_lk69_2, g_lk69_4]
theorem g_ms69_3 : g_ms 3 h 69 j = g_ms 4 h 69 j := by simp only [g_ms, g_lk69_3, g_lk69_4]
theorem g_ms69_5 : g_ms 5 h 69 j = g_ms 4 h 69 j := by simp only [g_ms, g_lk69_5, g_lk69_4]
theorem g_ms70_6 : g_ms 6 h 70 j = g_ms 4 h 70 j := by simp only [g_ms, g_lk70_6, g_lk70_4]
theorem g_o_congr {R R' : Nat → Nat → Int} (hR : ∀ j, R 69 j = R' 69 j) : ∀ k, g_o R k = g_o R' k := by
  intro k
  induction k with
  | zero => rfl
  | succ k ih => simp only [g_o, ih, hR]
theorem g_o2 (k : Nat) : g_o (g_ms 2 h) k = g_o (g_ms 4 h) k := g_o_congr (fun _ => g_ms69_2) k
theorem g_o3 (k : Nat) : g_o (g_ms 3 h) k = g_o (g_ms 4 h) k := g_o_congr (fun _ => g_ms69_3) k
theorem g_o5 (k : Nat) : g_o (g_ms 5 h) k = g_o (g_ms 4 h) k := g_o_congr (fun _ => g_ms69_5) k
/-- opens are -1 or not below nths, nths not below 0 -/
theorem g_o_bd (R : Nat → Nat → Int) : ∀ k, (g_o R k).1 = -1 ∨ (0 ≤ (g_o R k).2.1 ∧ (g_o R k).2.1 ≤ (g_o R k).1 ∧ (g_o R k).1 ≤ k ∧ ((g_o R k).2.2 = -1 ∨ (40 ≤ (g_o R k).2.2 ∧ (g_o R k).2.2 ≤ 42 ∧ 1 ≤ k))) := by
  intro k
  induction k with
  | zero => right; simp [g_o]
  | succ k ih =>
    simp only [g_o]
    split
    · left; rfl
    · next h0 =>
      rcases ih with ih | ih
      · omega
      · obtain ⟨i1, i2, i3, i4⟩ := ih
        have i5 : (g_o R k).2.2 = -1 ∨ (40 ≤ (g_o R k).2.2 ∧ (g_o R k).2.2 ≤ 42 ∧ 1 ≤ k + 1) := by
          rcases i4 with q | q
          · exact Or.inl q
          · exact Or.inr ⟨q.1, q.2.1, by omega⟩
        have i6 : (g_o R k).1 + 1 ≤ ((k + 1 : Nat) : Int) := by push_cast; omega
        split
        · exact Or.inr ⟨i1, i2, by omega, i5⟩
        · split
          · exact Or.inr ⟨i1, (show (g_o R k).2.1 ≤ (g_o R k).1 + 1 by omega), i6, i5⟩
          · split
            · next hv => exact Or.inr ⟨i1, (show (g_o R k).2.1 ≤ (g_o R k).1 + 1 by omega), i6, Or.inr ⟨(show 40 ≤ R 69 k by omega), (show R 69 k ≤ 42 by omega), by omega⟩⟩
            · split
              · exact Or.inr ⟨(show 0 ≤ (g_o R k).2.1 + 1 by omega), (show (g_o R k).2.1 + 1 ≤ (g_o R k).1 + 1 by omega), i6, Or.inr ⟨(show (40 : Int) ≤ 42 by decide), (show (42 : Int) ≤ 42 by decide), by omega⟩⟩
              · exact Or.inl rfl
/-- how many nths: both tell the same -/
theorem g_d_nth (R : Nat → Nat → Int) : ∀ k, 0 ≤ (g_d R k).1 → 0 ≤ (g_o R k).1 → ((g_d R k).2 : Int) = (g_o R k).2.1 := by
  intro k
  induction k with
  | zero => intro _ _; rfl
  | succ k ih =>
    intro hd ho
    simp only [g_d, g_o] at hd ho ⊢
    by_cases h1 : (g_d R k).1 < 0
    · rw [if_pos h1] at hd; simp at hd
    by_cases h2 : (g_o R k).1 < 0
    · rw [if_pos h2] at ho; simp at ho
    have ih := ih (by omega) (by omega)
    rw [if_neg h1] at hd ⊢
    rw [if_neg h2] at ho ⊢
    by_cases c1 : 4 ≤ R 69 k ∧ R 69 k ≤ 7
    · rw [if_pos c1, if_pos c1]; exact ih
    rw [if_neg c1] at hd ho ⊢
    rw [if_neg c1]
    by_cases c2 : R 69 k = 3
    · rw [if_pos (Or.inl c2), if_pos c2]; exact ih
    by_cases c3 : R 69 k = 40 ∨ R 69 k = 41
    · rw [if_pos (Or.inr c3), if_neg c2, if_pos c3]; exact ih
    have c4 : ¬ (R 69 k = 3 ∨ R 69 k = 40 ∨ R 69 k = 41) := by omega
    rw [if_neg c4] at hd ⊢
    rw [if_neg c2, if_neg c3] at ho ⊢
    by_cases c5 : R 69 k = 42
    · rw [if_pos c5] at ho ⊢
      by_cases c6 : R 69 k = 42 ∧ 1 ≤ R 70 (g_d R k).2 ∧ R 70 (g_d R k).2 ≤ 6
      · rw [if_pos c6]
        show (((g_d R k).2 + 1 : Nat) : Int) = (g_o R k).2.1 + 1
        push_cast; omega
      · rw [if_neg c6] at hd; simp at hd
    · rw [if_neg c5] at ho; simp at ho
end GPL

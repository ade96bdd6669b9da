/-! Told rows that are alike on both sides (for the ghosts 15 .. 21) -/
def g_hi (j : Nat) : Int := if j = 0 then 999 else 100
/-- the same number on both sides, and one that can be -/
def g_bq (j : Nat) (x y : Int) : Bool := decide (x = y) && (decide (0 ≤ y) && decide (y ≤ g_hi j))
theorem g_bq_iff {j : Nat} {x y : Int} : g_bq j x y = true ↔ x = y ∧ 0 ≤ y ∧ y ≤ g_hi j := by
  unfold g_bq
  rw [Bool.and_eq_true, Bool.and_eq_true, decide_eq_true_eq, decide_eq_true_eq, decide_eq_true_eq]
def g_row (R : Nat → Nat → Int) (a b k : Nat) : Bool := (List.range 2).all (fun j => g_bq j (R a (4 * k + j)) (R b (339 + 2 * k + j)))
theorem g_row_iff {R : Nat → Nat → Int} {a b k : Nat} : g_row R a b k = true ↔ ∀ j, j < 2 → g_bq j (R a (4 * k + j)) (R b (339 + 2 * k + j)) = true := by
  unfold g_row
  rw [List.all_eq_true]
  exact ⟨fun h j hj => h j (List.mem_range.mpr hj), fun h j hj => h j (List.mem_range.mp hj)⟩
def g_al (R : Nat → Nat → Int) (a b : Nat) : Int := if (List.range 8).all (fun k => g_row R a b k) then 1 else 0
/-- alike but for row p / 8: what stands in its column p % 8 -/
def g_ax (R : Nat → Nat → Int) (p : Int) : Int := if (List.range 8).all (fun k => Nat.beq k (p.toNat / 8) || g_row R 17 65 k) then R 17 (4 * (p.toNat / 8) + p.toNat % 8) else 1099511627776
/-- alike but for row p / 8, and there below column p % 8 -/
def g_ay (R : Nat → Nat → Int) (p : Int) : Int := if (List.range 8).all (fun k => (List.range 2).all (fun j => (Nat.beq k (p.toNat / 8) && Nat.ble (p.toNat % 8) j) || g_bq j (R 17 (4 * k + j)) (R 65 (339 + 2 * k + j)))) then 1 else 0
theorem g_al_iff {R : Nat → Nat → Int} {a b : Nat} : g_al R a b = 1 ↔ ∀ k, k < 8 → ∀ j, j < 2 → g_bq j (R a (4 * k + j)) (R b (339 + 2 * k + j)) = true := by
  unfold g_al
  constructor
  · intro h k hk
    split at h
    · next q => exact g_row_iff.mp (List.all_eq_true.mp q k (List.mem_range.mpr hk))
    · cases h
  · intro h
    rw [if_pos (List.all_eq_true.mpr (fun k hk => g_row_iff.mpr (h k (List.mem_range.mp hk))))]
theorem g_p8 {c j : Nat} (hj : j < 8) : (((8 * c + j : Nat) : Int).toNat) / 8 = c ∧ (((8 * c + j : Nat) : Int).toNat) % 8 = j := by rw [Int.toNat_natCast]; omega
theorem g_ax_mk {R : Nat → Nat → Int} {c j : Nat} (hj : j < 8) (h : ∀ k, k < 8 → k ≠ c → ∀ i, i < 2 → g_bq i (R 17 (4 * k + i)) (R 65 (339 + 2 * k + i)) = true) : g_ax R ((8 * c + j : Nat) : Int) = R 17 (4 * c + j) := by
  unfold g_ax
  rw [(g_p8 hj).1, (g_p8 hj).2, if_pos]
  refine List.all_eq_true.mpr (fun k hk => ?_)
  have hk := List.mem_range.mp hk
  by_cases e : k = c
  · subst e; rw [Nat.beq_refl]; rfl
  · rw [g_row_iff.mpr (h k hk e), Bool.or_true]
theorem g_ax_un {R : Nat → Nat → Int} {c j : Nat} {x : Int} (hj : j < 8) (hx : x < 1099511627776) (h : g_ax R ((8 * c + j : Nat) : Int) = x) : R 17 (4 * c + j) = x ∧ ∀ k, k < 8 → k ≠ c → ∀ i, i < 2 → g_bq i (R 17 (4 * k + i)) (R 65 (339 + 2 * k + i)) = true := by
  unfold g_ax at h
  rw [(g_p8 hj).1, (g_p8 hj).2] at h
  split at h
  · next q =>
    refine ⟨h, fun k hk hne => ?_⟩
    have := List.all_eq_true.mp q k (List.mem_range.mpr hk)
    rw [Bool.or_eq_true] at this
    rcases this with g | g
    · exact absurd (Nat.eq_of_beq_eq_true g) hne
    · exact g_row_iff.mp g
  · omega
theorem g_ay_iff {R : Nat → Nat → Int} {c j : Nat} (hj : j < 8) : g_ay R ((8 * c + j : Nat) : Int) = 1 ↔ ∀ k, k < 8 → ∀ i, i < 2 → (k ≠ c ∨ i < j) → g_bq i (R 17 (4 * k + i)) (R 65 (339 + 2 * k + i)) = true := by
  unfold g_ay
  rw [(g_p8 hj).1, (g_p8 hj).2]
  constructor
  · intro h k hk i hi hq
    split at h
    · next q =>
      have q1 := List.all_eq_true.mp q k (List.mem_range.mpr hk)
      have q2 := List.all_eq_true.mp q1 i (List.mem_range.mpr hi)
      rw [Bool.or_eq_true, Bool.and_eq_true] at q2
      rcases q2 with ⟨g1, g2⟩ | g
      · have g1 := Nat.eq_of_beq_eq_true g1
        have g2 := Nat.le_of_ble_eq_true g2
        exact absurd hq (by omega)
      · exact g
    · cases h
  · intro h
    rw [if_pos]
    refine List.all_eq_true.mpr (fun k hk => List.all_eq_true.mpr (fun i hi => ?_))
    have hk := List.mem_range.mp hk
    have hi := List.mem_range.mp hi
    by_cases e : k ≠ c ∨ i < j
    · rw [h k hk i hi e, Bool.or_true]
    · have e1 : k = c := by omega
      have e2 : j ≤ i := by omega
      subst e1
      rw [Nat.beq_refl, Nat.ble_eq_true_of_le e2]; rfl
/-! Speed: what both sides answer -/
def sp_ok (lo : Bool) (days more u l : Int) : Bool := decide (0 < days) && (decide (l = 0) || (if lo then decide (u * days < more * l) else decide (more * l < u * days)))
def sp_in (lo : Bool) (D E : Nat → Int) (i : Nat) (s : Int × Int) : Nat → Int × Int
  | 0 => s
  | k + 1 => if sp_ok lo (D k - D i) (E k - E i) (sp_in lo D E i s k).1 (sp_in lo D E i s k).2 then (E k - E i, D k - D i) else sp_in lo D E i s k
def sp_out (lo : Bool) (D E : Nat → Int) (c : Nat) : Nat → Int × Int
  | 0 => (0, 0)
  | i + 1 => sp_in lo D E i (sp_out lo D E c i) c
def sp_ans (w : Nat) (s : Int × Int) : Int := if s.2 = 0 then -100000 else (if w % 2 = 0 then s.1 else s.2).tdiv (Nat.gcd s.1.natAbs s.2.natAbs : Nat)
/-- what the list in cell 65 says -/
def g_gv (R : Nat → Nat → Int) (k j : Nat) : Int32 := Int32.ofInt (R 65 (339 + 2 * k + j))
def g_bc (R : Nat → Nat → Int) : Nat := (R 65 7).toNat
def g_bs (R : Nat → Nat → Int) (p : Int) : Int := (Int32.ofInt (sp_ans p.toNat (sp_out (decide (p.toNat < 2)) (fun k => (g_gv R k 0).toInt) (fun k => (g_gv R k 1).toInt) (g_bc R) (g_bc R)))).toInt

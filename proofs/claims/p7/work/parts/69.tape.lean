/-! What the ghosts 22 .. 26 say of the tapes -/
def g_by (R : Nat → Nat → Int) (k : Nat) : Nat := (R 68 k).toNat
/-- the tapes are alike -/
def g_tp (R : Nat → Nat → Int) : Int := if (List.range 300).all (fun k => decide (R 44 k % 256 = R 68 k)) then 1 else 0
/-- alike but the twenty bytes from p on -/
def g_tq (R : Nat → Nat → Int) (p : Int) : Int := if (List.range 300).all (fun k => (decide (p ≤ (k : Int)) && decide ((k : Int) < p + 20)) || decide (R 44 k % 256 = R 68 k)) then 1 else 0
def g_tr (R : Nat → Nat → Int) : Nat × Nat := t_text (g_by R) (R 64 4).toNat
def g_fp (R : Nat → Nat → Int) (p : Int) : Int := if p = 0 then ((g_tr R).1 : Int) else ((g_tr R).2 : Int)
/-- four bytes as an int -/
def g_v4 (a b c d : Int) : Int := if a * 16777216 + b * 65536 + c * 256 + d < 2147483648 then a * 16777216 + b * 65536 + c * 256 + d else a * 16777216 + b * 65536 + c * 256 + d - 4294967296
def g_i4 (R : Nat → Nat → Int) (p : Int) : Int := g_v4 (R 44 p.toNat % 256) (R 44 (p.toNat + 1) % 256) (R 44 (p.toNat + 2) % 256) (R 44 (p.toNat + 3) % 256)
theorem g_tp_iff {R : Nat → Nat → Int} : g_tp R = 1 ↔ ∀ k, k < 300 → R 44 k % 256 = R 68 k := by
  unfold g_tp
  constructor
  · intro h k hk
    split at h
    · next q => exact of_decide_eq_true (List.all_eq_true.mp q k (List.mem_range.mpr hk))
    · cases h
  · intro h
    rw [if_pos (List.all_eq_true.mpr (fun k hk => decide_eq_true (h k (List.mem_range.mp hk))))]
theorem g_tq_iff {R : Nat → Nat → Int} {p : Nat} : g_tq R (p : Int) = 1 ↔ ∀ k, k < 300 → (k < p ∨ p + 20 ≤ k) → R 44 k % 256 = R 68 k := by
  unfold g_tq
  constructor
  · intro h k hk ho
    split at h
    · next q =>
      have := List.all_eq_true.mp q k (List.mem_range.mpr hk)
      rw [Bool.or_eq_true, Bool.and_eq_true, decide_eq_true_eq, decide_eq_true_eq, decide_eq_true_eq] at this
      rcases this with g | g
      · omega
      · exact g
    · cases h
  · intro h
    rw [if_pos]
    refine List.all_eq_true.mpr (fun k hk => ?_)
    rw [Bool.or_eq_true, Bool.and_eq_true, decide_eq_true_eq, decide_eq_true_eq, decide_eq_true_eq]
    by_cases q : k < p ∨ p + 20 ≤ k
    · exact Or.inr (h k (List.mem_range.mp hk) q)
    · exact Or.inl (by omega)

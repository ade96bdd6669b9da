/-! Told rows that are alike on both sides (for the ghosts 15 .. 19) -/
/-- the same bid on both sides, and one that can be -/
def g_bq (x y : Int) : Bool := decide (x = y) && (decide (0 ≤ y) && decide (y ≤ 999))
theorem g_bq_iff {x y : Int} : g_bq x y = true ↔ x = y ∧ 0 ≤ y ∧ y ≤ 999 := by
  unfold g_bq
  rw [Bool.and_eq_true, Bool.and_eq_true, decide_eq_true_eq, decide_eq_true_eq, decide_eq_true_eq]
def g_al (R : Nat → Nat → Int) (a b : Nat) : Int := if (List.range 8).all (fun k => g_bq (R a (4 * k)) (R b (331 + k))) then 1 else 0
/-- alike but for row p / 8: what stands in its column p % 8 -/
def g_ax (R : Nat → Nat → Int) (p : Int) : Int := if (List.range 8).all (fun k => Nat.beq k (p.toNat / 8) || g_bq (R 15 (4 * k)) (R 65 (331 + k))) then R 15 (4 * (p.toNat / 8) + p.toNat % 8) else 1099511627776
theorem g_al_iff {R : Nat → Nat → Int} {a b : Nat} : g_al R a b = 1 ↔ ∀ k, k < 8 → g_bq (R a (4 * k)) (R b (331 + k)) = true := by
  unfold g_al
  constructor
  · intro h k hk
    split at h
    · next q => exact List.all_eq_true.mp q k (List.mem_range.mpr hk)
    · cases h
  · intro h
    rw [if_pos (List.all_eq_true.mpr (fun k hk => h k (List.mem_range.mp hk)))]
theorem g_ax_mk {R : Nat → Nat → Int} {c j : Nat} (hj : j < 8) (h : ∀ k, k < 8 → k ≠ c → g_bq (R 15 (4 * k)) (R 65 (331 + k)) = true) : g_ax R ((8 * c + j : Nat) : Int) = R 15 (4 * c + j) := by
  unfold g_ax
  have e1 : (((8 * c + j : Nat) : Int).toNat) / 8 = c := by rw [Int.toNat_natCast]; omega
  have e2 : (((8 * c + j : Nat) : Int).toNat) % 8 = j := by rw [Int.toNat_natCast]; omega
  rw [e1, e2, if_pos]
  refine List.all_eq_true.mpr (fun k hk => ?_)
  have hk := List.mem_range.mp hk
  by_cases e : k = c
  · subst e; rw [Nat.beq_refl]; rfl
  · rw [h k hk e, Bool.or_true]
theorem g_ax_un {R : Nat → Nat → Int} {c j : Nat} {x : Int} (hj : j < 8) (hx : x < 1099511627776) (h : g_ax R ((8 * c + j : Nat) : Int) = x) : R 15 (4 * c + j) = x ∧ ∀ k, k < 8 → k ≠ c → g_bq (R 15 (4 * k)) (R 65 (331 + k)) = true := by
  unfold g_ax at h
  have e1 : (((8 * c + j : Nat) : Int).toNat) / 8 = c := by rw [Int.toNat_natCast]; omega
  have e2 : (((8 * c + j : Nat) : Int).toNat) % 8 = j := by rw [Int.toNat_natCast]; omega
  rw [e1, e2] at h
  split at h
  · next q =>
    refine ⟨h, fun k hk hne => ?_⟩
    have := List.all_eq_true.mp q k (List.mem_range.mpr hk)
    rw [Bool.or_eq_true] at this
    rcases this with g | g
    · exact absurd (Nat.eq_of_beq_eq_true g) hne
    · exact g
  · omega
def b_win (v : Nat → Int32) : Nat → Nat
  | 0 => 0
  | k + 1 => if v (b_win v k) < v (k + 1) then k + 1 else b_win v k
def b_max (v : Nat → Int32) (one : Nat) : Nat → Int32
  | 0 => 0
  | k + 1 => if k = one then b_max v one k else if b_max v one k < v k then v k else b_max v one k
def b_upd (v : Nat → Int32) (k : Nat) (x : Int32) : Nat → Int32 := fun i => if i = k then x else v i
/-- what bid k gets by the bids v, its worth g -/
def b_get (v : Nat → Int32) (k c : Nat) (g : Int32) : Int32 := if b_win v (c - 1) = k then g - b_max v (b_win v (c - 1)) c else 0
def b_best (v : Nat → Int32) (k c : Nat) (g : Int32) : Nat → Int32
  | 0 => Int32.ofInt (-100000)
  | n + 1 => if b_get (b_upd v k (Int32.ofNat n)) k c g ≤ b_best v k c g n then b_best v k c g n else b_get (b_upd v k (Int32.ofNat n)) k c g
/-- what the list in cell 65 says: c bids, the k-th v k -/
def g_bv (R : Nat → Nat → Int) (k : Nat) : Int32 := Int32.ofInt (R 65 (331 + k))
def g_bc (R : Nat → Nat → Int) : Nat := (R 65 6).toNat
def g_bs (R : Nat → Nat → Int) (p : Int) : Int := if p = 0 then ((b_win (g_bv R) (g_bc R - 1) : Nat) : Int) else if p = 1 then (b_max (g_bv R) (b_win (g_bv R) (g_bc R - 1)) (g_bc R)).toInt else if 100 ≤ p then ((if g_bv R (p.toNat - 100) - b_max (g_bv R) (p.toNat - 100) (g_bc R) < 0 then 0 else g_bv R (p.toNat - 100) - b_max (g_bv R) (p.toNat - 100) (g_bc R)) - b_get (g_bv R) (p.toNat - 100) (g_bc R) (g_bv R (p.toNat - 100))).toInt else 0

/-! Told rows that are alike on both sides (for the ghosts 15 .. 19) -/
def g_al (R : Nat → Nat → Int) (a b : Nat) : Int := if (List.range 8).all (fun k => decide (R a (4 * k) = R b (331 + k))) then 1 else 0
/-- alike but for row p / 8: what stands in its column p % 8 -/
def g_ax (R : Nat → Nat → Int) (p : Int) : Int := if (List.range 8).all (fun k => Nat.beq k (p.toNat / 8) || decide (R 15 (4 * k) = R 65 (331 + k))) then R 15 (4 * (p.toNat / 8) + p.toNat % 8) else 1099511627776
theorem g_al_iff {R : Nat → Nat → Int} {a b : Nat} : g_al R a b = 1 ↔ ∀ k, k < 8 → R a (4 * k) = R b (331 + k) := by
  unfold g_al
  constructor
  · intro h k hk
    split at h
    · next q => exact of_decide_eq_true (List.all_eq_true.mp q k (List.mem_range.mpr hk))
    · cases h
  · intro h
    rw [if_pos (List.all_eq_true.mpr (fun k hk => decide_eq_true (h k (List.mem_range.mp hk))))]
theorem g_ax_mk {R : Nat → Nat → Int} {c j : Nat} (hj : j < 8) (h : ∀ k, k < 8 → k ≠ c → R 15 (4 * k) = R 65 (331 + k)) : g_ax R ((8 * c + j : Nat) : Int) = R 15 (4 * c + j) := by
  unfold g_ax
  have e1 : (((8 * c + j : Nat) : Int).toNat) / 8 = c := by rw [Int.toNat_natCast]; omega
  have e2 : (((8 * c + j : Nat) : Int).toNat) % 8 = j := by rw [Int.toNat_natCast]; omega
  rw [e1, e2, if_pos]
  refine List.all_eq_true.mpr (fun k hk => ?_)
  have hk := List.mem_range.mp hk
  by_cases e : k = c
  · subst e; rw [Nat.beq_refl]; rfl
  · rw [decide_eq_true (h k hk e), Bool.or_true]
theorem g_ax_un {R : Nat → Nat → Int} {c j : Nat} {x : Int} (hj : j < 8) (hx : x < 1099511627776) (h : g_ax R ((8 * c + j : Nat) : Int) = x) : R 15 (4 * c + j) = x ∧ ∀ k, k < 8 → k ≠ c → R 15 (4 * k) = R 65 (331 + k) := by
  unfold g_ax at h
  have e1 : (((8 * c + j : Nat) : Int).toNat) / 8 = c := by rw [Int.toNat_natCast]; omega
  have e2 : (((8 * c + j : Nat) : Int).toNat) % 8 = j := by rw [Int.toNat_natCast]; omega
  rw [e1, e2] at h
  split at h
  · next q =>
    refine ⟨h, fun k hk hne => ?_⟩
    have := List.all_eq_true.mp q k (List.mem_range.mpr hk)
    rw [Bool.or_eq_true] at this
    rcases this with g | g
    · exact absurd (Nat.eq_of_beq_eq_true g) hne
    · exact of_decide_eq_true g
  · omega
/-- the class has told row c -/
theorem g_al_ax {R R' : Nat → Nat → Int} {c : Nat} (h : g_al R 15 65 = 1) (h15 : ∀ i, i ≠ 4 * c → R' 15 i = R 15 i) (h65 : ∀ i, R' 65 i = R 65 i) : g_ax R' ((8 * c + 0 : Nat) : Int) = R' 15 (4 * c + 0) := by
  rw [g_al_iff] at h
  exact g_ax_mk (by decide) (fun k hk hne => by rw [h15 _ (by omega), h65]; exact h k hk)
/-- another column of row c -/
theorem g_ax_ax {R R' : Nat → Nat → Int} {c j : Nat} {x : Int} (hj : 1 ≤ j) (hj4 : j < 4) (hx : x < 1099511627776) (h : g_ax R ((8 * c + 0 : Nat) : Int) = x) (h15 : ∀ i, i ≠ 4 * c + j → R' 15 i = R 15 i) (h65 : ∀ i, R' 65 i = R 65 i) : g_ax R' ((8 * c + 0 : Nat) : Int) = x := by
  obtain ⟨h1, h2⟩ := g_ax_un (by decide) hx h
  rw [g_ax_mk (by decide) (fun k hk hne => by rw [h15 _ (by omega), h65]; exact h2 k hk hne), h15 _ (by omega)]
  exact h1
/-- the reference has told it too -/
theorem g_ax_al {R R' : Nat → Nat → Int} {c : Nat} {x : Int} (hx : x < 1099511627776) (h : g_ax R ((8 * c + 0 : Nat) : Int) = x) (h15 : ∀ i, R' 15 i = R 15 i) (h65 : ∀ i, i ≠ 331 + c → R' 65 i = R 65 i) (hv : R' 65 (331 + c) = x) : g_al R' 15 65 = 1 := by
  obtain ⟨h1, h2⟩ := g_ax_un (by decide) hx h
  rw [g_al_iff]
  intro k hk
  by_cases e : k = c
  · subst e; rw [h15, hv]; exact h1
  · rw [h15, h65 _ (by omega)]; exact h2 k hk e
/-- rows that are copied -/
theorem g_al_cp {R R' : Nat → Nat → Int} {a b a' b' : Nat} (h : g_al R a b = 1) (ha : ∀ k, k < 8 → R' a' (4 * k) = R a (4 * k)) (hb : ∀ k, k < 8 → R' b' (331 + k) = R b (331 + k)) : g_al R' a' b' = 1 := by
  rw [g_al_iff] at h ⊢
  intro k hk
  rw [ha k hk, hb k hk]; exact h k hk
def b_win (v : Nat → Int32) : Nat → Nat
  | 0 => 0
  | k + 1 => if v (b_win v k) < v (k + 1) then k + 1 else b_win v k
def b_max (v : Nat → Int32) (one : Nat) : Nat → Int32
  | 0 => 0
  | k + 1 => if k = one then b_max v one k else if b_max v one k < v k then v k else b_max v one k
def b_upd (v : Nat → Int32) (k : Nat) (x : Int32) : Nat → Int32 := fun i => if i = k then x else v i
/-- what bid k gets by the bids v, its worth g -/
def b_get (v : Nat → Int32) (k c : Nat) (g : Int32) : Int32 := if b_win v (c - 1) = k then g - b_max v (b_win v (c - 1)) c else 0
def b_best (v : Nat → Int32) (k c : Nat) (g : Int32) : Nat → Int32
  | 0 => Int32.ofInt (-100000)
  | n + 1 => if b_get (b_upd v k (Int32.ofNat n)) k c g ≤ b_best v k c g n then b_best v k c g n else b_get (b_upd v k (Int32.ofNat n)) k c g
/-- what the list in cell 65 says: c bids, the k-th v k -/
def g_bv (R : Nat → Nat → Int) (k : Nat) : Int32 := Int32.ofInt (R 65 (331 + k))
def g_bc (R : Nat → Nat → Int) : Nat := (R 65 6).toNat
def g_bs (R : Nat → Nat → Int) (p : Int) : Int := if p = 0 then ((b_win (g_bv R) (g_bc R - 1) : Nat) : Int) else if p = 1 then (b_max (g_bv R) (b_win (g_bv R) (g_bc R - 1)) (g_bc R)).toInt else 0

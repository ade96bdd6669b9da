/-! What is given with the kinds: what a cell's values are over and above, and the ghosts. All of them read ints through masks, so that they hang on the masked places alone. -/
def g_vs (h : p_H) (a : Nat) : List Value := match h[a]? with
  | some c => c.2.2
  | none => []
def g_at (vs : List Value) (j : Nat) : Int := match vs[j]? with
  | some (.int x) => x.toInt
  | _ => 0
/-- ghost g looks at place j of cell a -/
def g_lk (g a j : Nat) : Bool := match x_KL[a]? with
  | some K => K.2.2.2.2.2.1.any (fun t => Nat.beq t.1 g && Nat.ble t.2.1 j && Nat.ble j t.2.2)
  | none => false
def g_ms (g : Nat) (h : p_H) (a j : Nat) : Int := if g_lk g a j then g_at (g_vs h a) j else 0
/-- bits 0 .. 11 that are set -/
def g_pc (x : Int) : Nat := ((List.range 12).filter (fun k => (x.toNat / 2 ^ k) % 2 == 1)).length
/-- the pile below k: opens, nths, the last open one; opens are -1 if a thing can't stand there -/
def g_o (R : Nat → Nat → Int) : Nat → Int × Int × Int
  | 0 => (0, 0, -1)
  | k + 1 => let s := g_o R k
    let v := R 69 k
    if s.1 < 0 then (-1, -1, -1) else if 4 ≤ v ∧ v ≤ 7 then s else if v = 3 then (s.1 + 1, s.2.1, s.2.2) else if v = 40 ∨ v = 41 then (s.1 + 1, s.2.1, v) else if v = 42 then (s.1 + 1, s.2.1 + 1, 42) else (-1, -1, -1)
/-- values that the pile below k holds back, and how many nths it has; -1 if a thing or a count can't be -/
def g_d (R : Nat → Nat → Int) : Nat → Int × Nat
  | 0 => (0, 0)
  | k + 1 => let s := g_d R k
    let v := R 69 k
    if s.1 < 0 then (-1, 0) else if 4 ≤ v ∧ v ≤ 7 then (s.1 + 1, s.2) else if v = 3 ∨ v = 40 ∨ v = 41 then s else if v = 42 ∧ 1 ≤ R 70 s.2 ∧ R 70 s.2 ≤ 6 then (s.1 + R 70 s.2, s.2 + 1) else (-1, 0)
/-- deeds f .. f + m - 1 of the code at T: how many values lie there then; -1 if one can't be done -/
def g_sim (Q : Nat → Int) (T f : Nat) : Nat → Int
  | 0 => 0
  | m + 1 => let n := g_sim Q T f m
    let o := Q (T + 169 + 2 * (f + m))
    let v := Q (T + 169 + 2 * (f + m) + 1)
    if n < 0 then -1 else if o = 0 then n + 1 else if o = 1 ∧ 0 ≤ v ∧ v ≤ 7 then n + 1 else if o = 2 ∧ 1 ≤ v ∧ v + 1 ≤ n then n - v else if o = 3 ∧ 1 ≤ n then n else if 4 ≤ o ∧ o ≤ 7 ∧ 2 ≤ n then n - 1 else -1
/-- the greatest end of a law among the first m clauses of the text at T -/
def g_end (Q : Nat → Int) (T : Nat) : Nat → Int
  | 0 => 0
  | m + 1 => let e := g_end Q T m
    if 0 ≤ Q (T + 1 + 7 * m) ∧ Q (T + 1 + 7 * m) ≤ 2 then max e (Q (T + 1 + 7 * m + 2)) else e
/-- a law's deeds can be done -/
def g_law (Q : Nat → Int) (T m : Nat) : Prop := 0 ≤ Q (T + 1 + 7 * m) → Q (T + 1 + 7 * m) ≤ 2 → 0 ≤ Q (T + 1 + 7 * m + 1) ∧ Q (T + 1 + 7 * m + 1) ≤ Q (T + 1 + 7 * m + 2) ∧ Q (T + 1 + 7 * m + 2) ≤ 303 ∧ 0 ≤ g_sim Q T (Q (T + 1 + 7 * m + 1)).toNat ((Q (T + 1 + 7 * m + 2)).toNat - (Q (T + 1 + 7 * m + 1)).toNat)
/-- all laws of the told clauses of the four texts can be done -/
def g_TW (Q : Nat → Int) : Prop := ∀ t, t < 4 → ∀ m : Nat, (m : Int) < Q (777 * t) → g_law Q (777 * t) m
/-- told sights are 1 to 3 wide and high -/
def g_TS (Q : Nat → Int) : Prop := ∀ m : Nat, m < 12 → (m : Int) < Q 0 → 1 ≤ Q (212 + 6 * m + 3) ∧ Q (212 + 6 * m + 3) ≤ 3 ∧ 1 ≤ Q (212 + 6 * m + 4) ∧ Q (212 + 6 * m + 4) ≤ 3
/-- values up to w of the law that is being read -/
def g_C (R : Nat → Nat → Int) (w : Int) : Int :=
  let T := R 64 12
  let n := R 67 T.toNat
  let f := R 67 (T.toNat + 7 * n.toNat + 2)
  if (T = 0 ∨ T = 777 ∨ T = 1554 ∨ T = 2331) ∧ 0 ≤ n ∧ n ≤ 23 ∧ g_end (R 67) T.toNat n.toNat ≤ f ∧ f ≤ w ∧ w ≤ 303 then g_sim (R 67) T.toNat f.toNat (w.toNat - f.toNat) else -1
def g_free (R : Nat → Nat → Int) : Nat → Int
  | 0 => 0
  | k + 1 => g_free R k + (if R 74 k = 0 then 1 else 0)
/-- a told law's clause at C = q / 1024: values behind its deeds up to q % 1024; -1 if that isn't one of them -/
def g_W (Q : Nat → Int) (q : Nat) : Int :=
  let C := q / 1024
  let i := q % 1024
  let T := 777 * (C / 777)
  let m := (C - T - 1) / 7
  if C = T + 1 + 7 * m ∧ C ≤ 3107 ∧ (m : Int) < Q T ∧ 0 ≤ Q C ∧ Q C ≤ 2 ∧ Q (C + 1) ≤ i ∧ (i : Int) ≤ Q (C + 2) then g_sim Q T (Q (C + 1)).toNat (i - (Q (C + 1)).toNat) else -1
def g_gh (g : Nat) (R : Nat → Nat → Int) (p : Int) : Int := match g with
  | 0 => (((g_pc (R 65 14) + 1) * (g_pc (R 65 15) + 1) : Nat) : Int)
  | 1 => R 69 p.toNat
  | 2 => if 0 ≤ p ∧ p ≤ 160 then (g_o R p.toNat).1 else -1
  | 3 => if 0 ≤ p ∧ p ≤ 160 then (g_o R p.toNat).2.1 else -1
  | 4 => if 0 ≤ p ∧ p ≤ 160 then (g_d R p.toNat).1 else -1
  | 5 => if 0 ≤ p ∧ p ≤ 160 then (g_o R p.toNat).2.2 else -1
  | 6 => R 70 p.toNat
  | 7 => if p ≤ 3107 then R 67 p.toNat else if p < 8388608 then g_W (R 67) (p.toNat - 10000) else ((777 * ((p.toNat - 8388608) / 777) : Nat) : Int)
  | 8 => if p = 0 ∨ p = 777 ∨ p = 1554 ∨ p = 2331 then g_end (R 67) p.toNat (R 67 p.toNat).toNat else -1
  | 9 => g_C R p
  | 10 => R 74 p.toNat
  | 11 => g_free R 64
  | 12 => if p < R 64 4 then R 68 p.toNat else -1
  | 13 => R 65 p.toNat
  | 14 => R 0 p.toNat
  | 22 => g_tp R
  | 23 => g_fp R p
  | 25 => g_i4 R p
  | 26 => g_tq R p
  | _ => 0
/-- what is known of a cell's values over and above; the cells 0 .. 79 have their own kinds -/
def g_ct (i k : Nat) (vs : List Value) : Prop := (i < 80 → k = i) ∧ (k = 67 → g_TW (fun j => if Nat.ble j 3107 then g_at vs j else 0)) ∧ (k = 65 ∨ k = 66 → g_TS (fun j => if Nat.beq j 0 || (Nat.ble 212 j && Nat.ble j 283) then g_at vs j else 0))
def x_EE : x_E := (x_KL, g_ct, fun g h p => g_gh g (g_ms g h) p)
theorem x_EE_KO : x_KO x_EE := by
  have h : x_KL.all (fun K => Nat.blt K.2.2.2.2.2.2.2 1000000) = true := by decide +kernel
  intro k K hK
  exact Nat.le_of_ble_eq_true (List.all_eq_true.mp h K (List.mem_of_getElem? hK))
theorem x_EE_EG : x_EG x_EE := by
  intro g p h h2 h80 hyp
  have : g_ms g h2 = g_ms g h := by
    funext a j
    simp only [g_ms]
    split
    · next hl =>
      simp only [g_lk] at hl
      split at hl
      · next K hK =>
        have ha : a < 80 ∨ 80 ≤ a := by omega
        rcases ha with ha | ha
        · have hlt : a < h.length := by omega
          obtain ⟨c', e1, -, e3⟩ := hyp a ha h[a] (List.getElem?_eq_getElem hlt)
          obtain ⟨t, ht, hg⟩ := List.any_eq_true.mp hl
          simp only [Bool.and_eq_true] at hg
          have := e3 K j hK ⟨t, ht, Nat.eq_of_beq_eq_true hg.1.1, Nat.le_of_ble_eq_true hg.1.2, Nat.le_of_ble_eq_true hg.2⟩
          simp only [g_at, g_vs, e1, List.getElem?_eq_getElem hlt, this]
        · exfalso
          have h0 : (x_KL.drop 80).all (fun K => K.2.2.2.2.2.1.isEmpty) = true := by decide +kernel
          have hm : K ∈ x_KL.drop 80 := by
            have : (x_KL.drop 80)[a - 80]? = some K := by rw [List.getElem?_drop, show 80 + (a - 80) = a by omega]; exact hK
            exact List.mem_of_getElem? this
          have := List.isEmpty_iff.mp (List.all_eq_true.mp h0 K hm)
          rw [this] at hl
          cases hl
      · cases hl
    · rfl
  show g_gh g (g_ms g h2) p = g_gh g (g_ms g h) p
  rw [this]
theorem x_EE_EO : x_EO x_EE := by
  refine ⟨?_, x_EE_EG, fun i k vs h => h.1⟩
  intro i k K vs vs' hK hc hl hs
  obtain ⟨c1, c2, c3⟩ := hc
  have at_eq : ∀ j, vs'[j]? = vs[j]? → g_at vs' j = g_at vs j := by
    intro j h; simp only [g_at, h]
  refine ⟨c1, fun hk => ?_, fun hk => ?_⟩
  · have hK67 : x_KL[67]? = some K := by rw [← hk]; exact hK
    have hp : K.2.2.2.2.1 = [(0, 3107)] := by
      have h0 : (x_KL[67]?.map (fun K => decide (K.2.2.2.2.1 = [(0, 3107)]))) = some true := by decide +kernel
      rw [hK67] at h0
      simpa using h0
    have : (fun j => if Nat.ble j 3107 then g_at vs' j else 0) = (fun j => if Nat.ble j 3107 then g_at vs j else 0) := by
      funext j
      split
      · next h =>
        exact at_eq j (hs j ⟨(0, 3107), by rw [hp]; exact List.mem_singleton.mpr rfl, Nat.zero_le _, Nat.le_of_ble_eq_true h⟩)
      · rfl
    rw [this]
    exact c2 hk
  · have hp : K.2.2.2.2.1 = [(0, 0), (212, 283)] := by
      have h0 : (x_KL[65]?.map (fun K => decide (K.2.2.2.2.1 = [(0, 0), (212, 283)]))) = some true ∧ (x_KL[66]?.map (fun K => decide (K.2.2.2.2.1 = [(0, 0), (212, 283)]))) = some true := by constructor <;> decide +kernel
      rcases hk with hk | hk
      · have hK' : x_KL[65]? = some K := by rw [← hk]; exact hK
        have h1 := h0.1
        rw [hK'] at h1
        simpa using h1
      · have hK' : x_KL[66]? = some K := by rw [← hk]; exact hK
        have h1 := h0.2
        rw [hK'] at h1
        simpa using h1
    have : (fun j => if Nat.beq j 0 || (Nat.ble 212 j && Nat.ble j 283) then g_at vs' j else 0) = (fun j => if Nat.beq j 0 || (Nat.ble 212 j && Nat.ble j 283) then g_at vs j else 0) := by
      funext j
      split
      · next h =>
        rw [Bool.or_eq_true, Bool.and_eq_true] at h
        refine at_eq j (hs j ?_)
        rw [hp]
        rcases h with h | h
        · exact ⟨(0, 0), List.mem_cons_self, Nat.zero_le _, by rw [Nat.eq_of_beq_eq_true h]; exact Nat.le_refl _⟩
        · exact ⟨(212, 283), List.mem_cons_of_mem _ List.mem_cons_self, Nat.le_of_ble_eq_true h.1, Nat.le_of_ble_eq_true h.2⟩
      · rfl
    rw [this]
    exact c3 hk

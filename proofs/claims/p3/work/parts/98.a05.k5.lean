theorem k_ncl {n : Nat} (hn : n < 100000) : (Int32.ofNat n).toNatClampNeg = n := by
  show (Int32.ofNat n).toInt.toNat = n
  rw [Int32.toInt_ofNat_of_lt (by omega), Int.toNat_natCast]
def s_mkr : Nat → List s_V → Lean.RArray s_V
  | _, [] => .leaf s_u
  | k, v :: r => .branch (k + 1) (.leaf v) (s_mkr (k + 1) r)
def k_wv : List s_V := [.inr (2, .leaf (.ofNat 469853041779)), .inr (2, .leaf (.ofNat 495622843507)), .inr (2, .leaf (.ofNat 1919906931)), .inr (2, .leaf (.ofNat 1886350948)), .inr (2, .leaf (.ofNat 495689623668)), .inr (2, .leaf (.ofNat 7561591)), .inr (2, .leaf (.ofNat 427121668979)), .inr (2, .leaf (.ofNat 1936026732)), .inr (2, .leaf (.ofNat 495874892151)), .inr (2, .leaf (.ofNat 6578553)), .inr (2, .leaf (.ofNat 1751474548)), .inr (2, .leaf (.ofNat 1936292453)), .inr (2, .leaf (.ofNat 120282378691940)), .inr (2, .leaf (.ofNat 1701078885)), .inr (2, .leaf (.ofNat 126896543659123)), .inr (2, .leaf (.ofNat 461330343027)), .inr (2, .leaf (.ofNat 25209)), .inr (2, .leaf (.ofNat 24948)), .inr (2, .leaf (.ofNat 1684366704)), .inr (2, .leaf (.ofNat 29807)), .inr (2, .leaf (.ofNat 7238760)), .inr (2, .leaf (.ofNat 28518))]
def k_wc : s_A := (2, 2, 22, s_mkr 0 k_wv)
def k_Hs : s_H := (.branch 1 (.leaf (9, 0, 0, .leaf s_u)) (.branch 2 (.leaf k_wc) (.branch 1024 (.leaf (9, 0, 0, .leaf s_u)) (.leaf (9, 0, 0, .leaf s_u)))), 2, 3606)
def k_H0 : s_H := (.branch 80 (.branch 40 (.branch 20 (.branch 10 (.branch 5 (.branch 2 (.branch 1 (.leaf (9, 0, 0, .leaf s_u)) (.leaf k_wc)) (.branch 3 (.leaf (0, 11, 10, .branch 10 (.branch 5 (.branch 2 (.branch 1 (.leaf (.inr (19, .leaf 0))) (.leaf (.inr (36, .leaf 0)))) (.branch 3 (.leaf (.inr (53, .leaf 0))) (.branch 4 (.leaf (.inr (59, .leaf 0))) (.leaf (.inr (63, .leaf 0)))))) (.branch 7 (.branch 6 (.leaf (.inr (67, .leaf 0))) (.leaf (.inr (72, .leaf 0)))) (.branch 8 (.leaf (.inr (77, .leaf 0))) (.branch 9 (.leaf (.inr (78, .leaf 0))) (.leaf (.inr (79, .leaf 0))))))) (.leaf s_u))) (.branch 4 (.leaf (0, 9, 15, .branch 15 (.branch 8 (.branch 5 (.branch 2 (.leaf (.inl (.ofNat 1))) (.branch 4 (.leaf (.inl (.ofNat 0))) (.leaf (.inr (20, .leaf 0))))) (.branch 6 (.leaf (.inl (.ofNat 0))) (.branch 7 (.leaf (.inl (.negSucc 0))) (.leaf (.inr (21, .leaf 0)))))) (.branch 11 (.branch 9 (.leaf (.inr (22, .leaf 0))) (.branch 10 (.leaf (.inr (24, .leaf 0))) (.leaf (.inr (26, .leaf 0))))) (.branch 13 (.branch 12 (.leaf (.inr (28, .leaf 0))) (.leaf (.inr (30, .leaf 0)))) (.branch 14 (.leaf (.inr (32, .leaf 0))) (.leaf (.inr (34, .leaf 0))))))) (.leaf s_u))) (.leaf (1, 0, 72, .branch 72 (.leaf (.inl (.ofNat 0))) (.leaf s_u)))))) (.branch 7 (.branch 6 (.leaf (1, 4, 4, .branch 4 (.leaf (.inr (4, .leaf 0))) (.leaf s_u))) (.leaf (0, 10, 8, .branch 8 (.branch 3 (.branch 2 (.leaf (.inl (.ofNat 0))) (.leaf (.inl (.ofNat 20)))) (.branch 6 (.leaf (.inl (.ofNat 0))) (.branch 7 (.leaf (.inl (.ofNat 73))) (.leaf (.inr (23, .leaf 0)))))) (.leaf s_u)))) (.branch 8 (.leaf (1, 0, 64, .branch 64 (.leaf (.inl (.ofNat 0))) (.leaf s_u))) (.branch 9 (.leaf (0, 6, 3, .branch 3 (.branch 1 (.leaf (.inr (25, .leaf 0))) (.leaf (.inl (.ofNat 0)))) (.leaf s_u))) (.leaf (1, 0, 2130, .branch 2130 (.leaf (.inl (.ofNat 0))) (.leaf s_u))))))) (.branch 15 (.branch 12 (.branch 11 (.leaf (0, 8, 3, .branch 3 (.branch 1 (.leaf (.inl (.ofNat 5))) (.branch 2 (.leaf (.inr (27, .leaf 0))) (.leaf (.inl (.ofNat 0))))) (.leaf s_u))) (.leaf (1, 0, 32, .branch 32 (.leaf (.inl (.ofNat 0))) (.leaf s_u)))) (.branch 13 (.leaf (0, 8, 3, .branch 3 (.branch 1 (.leaf (.inl (.ofNat 8))) (.branch 2 (.leaf (.inr (29, .leaf 0))) (.leaf (.inl (.ofNat 0))))) (.leaf s_u))) (.branch 14 (.leaf (1, 0, 32, .branch 32 (.leaf (.inl (.ofNat 0))) (.leaf s_u))) (.leaf (0, 8, 3, .branch 3 (.branch 1 (.leaf (.inl (.ofNat 8))) (.branch 2 (.leaf (.inr (31, .leaf 0))) (.leaf (.inl (.ofNat 0))))) (.leaf s_u)))))) (.branch 17 (.branch 16 (.leaf (1, 0, 32, .branch 32 (.leaf (.inl (.ofNat 0))) (.leaf s_u))) (.leaf (0, 8, 3, .branch 3 (.branch 1 (.leaf (.inl (.ofNat 8))) (.branch 2 (.leaf (.inr (33, .leaf 0))) (.leaf (.inl (.ofNat 0))))) (.leaf s_u)))) (.branch 18 (.leaf (1, 0, 32, .branch 32 (.leaf (.inl (.ofNat 0))) (.leaf s_u))) (.branch 19 (.leaf (0, 8, 3, .branch 3 (.branch 1 (.leaf (.inl (.ofNat 8))) (.branch 2 (.leaf (.inr (35, .leaf 0))) (.leaf (.inl (.ofNat 0))))) (.leaf s_u))) (.leaf (1, 0, 32, .branch 32 (.leaf (.inl (.ofNat 0))) (.leaf s_u)))))))) (.branch 30 (.branch 25 (.branch 22 (.branch 21 (.leaf (0, 9, 15, .branch 15 (.branch 8 (.branch 5 (.branch 2 (.leaf (.inl (.ofNat 1))) (.branch 4 (.leaf (.inl (.ofNat 0))) (.leaf (.inr (37, .leaf 0))))) (.branch 6 (.leaf (.inl (.ofNat 0))) (.branch 7 (.leaf (.inl (.negSucc 0))) (.leaf (.inr (38, .leaf 0)))))) (.branch 11 (.branch 9 (.leaf (.inr (39, .leaf 0))) (.branch 10 (.leaf (.inr (41, .leaf 0))) (.leaf (.inr (43, .leaf 0))))) (.branch 13 (.branch 12 (.leaf (.inr (45, .leaf 0))) (.leaf (.inr (47, .leaf 0)))) (.branch 14 (.leaf (.inr (49, .leaf 0))) (.leaf (.inr (51, .leaf 0))))))) (.leaf s_u))) (.leaf (1, 0, 72, .branch 72 (.leaf (.inl (.ofNat 0))) (.leaf s_u)))) (.branch 23 (.leaf (1, 4, 4, .branch 4 (.leaf (.inr (4, .leaf 0))) (.leaf s_u))) (.branch 24 (.leaf (0, 10, 8, .branch 8 (.branch 3 (.branch 2 (.leaf (.inl (.ofNat 0))) (.leaf (.inl (.ofNat 20)))) (.branch 6 (.leaf (.inl (.ofNat 0))) (.branch 7 (.leaf (.inl (.ofNat 73))) (.leaf (.inr (40, .leaf 0)))))) (.leaf s_u))) (.leaf (1, 0, 64, .branch 64 (.leaf (.inl (.ofNat 0))) (.leaf s_u)))))) (.branch 27 (.branch 26 (.leaf (0, 6, 3, .branch 3 (.branch 1 (.leaf (.inr (42, .leaf 0))) (.leaf (.inl (.ofNat 0)))) (.leaf s_u))) (.leaf (1, 0, 2130, .branch 2130 (.leaf (.inl (.ofNat 0))) (.leaf s_u)))) (.branch 28 (.leaf (0, 8, 3, .branch 3 (.branch 1 (.leaf (.inl (.ofNat 5))) (.branch 2 (.leaf (.inr (44, .leaf 0))) (.leaf (.inl (.ofNat 0))))) (.leaf s_u))) (.branch 29 (.leaf (1, 0, 32, .branch 32 (.leaf (.inl (.ofNat 0))) (.leaf s_u))) (.leaf (0, 8, 3, .branch 3 (.branch 1 (.leaf (.inl (.ofNat 8))) (.branch 2 (.leaf (.inr (46, .leaf 0))) (.leaf (.inl (.ofNat 0))))) (.leaf s_u))))))) (.branch 35 (.branch 32 (.branch 31 (.leaf (1, 0, 32, .branch 32 (.leaf (.inl (.ofNat 0))) (.leaf s_u))) (.leaf (0, 8, 3, .branch 3 (.branch 1 (.leaf (.inl (.ofNat 8))) (.branch 2 (.leaf (.inr (48, .leaf 0))) (.leaf (.inl (.ofNat 0))))) (.leaf s_u)))) (.branch 33 (.leaf (1, 0, 32, .branch 32 (.leaf (.inl (.ofNat 0))) (.leaf s_u))) (.branch 34 (.leaf (0, 8, 3, .branch 3 (.branch 1 (.leaf (.inl (.ofNat 8))) (.branch 2 (.leaf (.inr (50, .leaf 0))) (.leaf (.inl (.ofNat 0))))) (.leaf s_u))) (.leaf (1, 0, 32, .branch 32 (.leaf (.inl (.ofNat 0))) (.leaf s_u)))))) (.branch 37 (.branch 36 (.leaf (0, 8, 3, .branch 3 (.branch 1 (.leaf (.inl (.ofNat 8))) (.branch 2 (.leaf (.inr (52, .leaf 0))) (.leaf (.inl (.ofNat 0))))) (.leaf s_u))) (.leaf (1, 0, 32, .branch 32 (.leaf (.inl (.ofNat 0))) (.leaf s_u)))) (.branch 38 (.leaf (0, 4, 6, .branch 6 (.branch 3 (.branch 1 (.leaf (.inr (54, .leaf 0))) (.branch 2 (.leaf (.inr (55, .leaf 0))) (.leaf (.inr (56, .leaf 0))))) (.branch 4 (.leaf (.inr (57, .leaf 0))) (.branch 5 (.leaf (.inr (58, .leaf 0))) (.leaf (.inl (.ofNat 1)))))) (.leaf s_u))) (.branch 39 (.leaf (1, 0, 64, .branch 64 (.leaf (.inl (.ofNat 0))) (.leaf s_u))) (.leaf (1, 0, 64, .branch 64 (.leaf (.inl (.ofNat 0))) (.leaf s_u))))))))) (.branch 60 (.branch 50 (.branch 45 (.branch 42 (.branch 41 (.leaf (1, 0, 64, .branch 64 (.branch 1 (.leaf (.inl (.ofNat 1))) (.leaf (.inl (.ofNat 0)))) (.leaf s_u))) (.leaf (1, 0, 64, .branch 64 (.branch 1 (.leaf (.inl (.ofNat 1))) (.leaf (.inl (.ofNat 0)))) (.leaf s_u)))) (.branch 43 (.leaf (1, 0, 64, .branch 64 (.branch 1 (.leaf (.inl (.ofNat 4))) (.leaf (.inl (.ofNat 0)))) (.leaf s_u))) (.branch 44 (.leaf (0, 3, 18, .branch 18 (.branch 8 (.branch 2 (.branch 1 (.leaf (.inr (60, .leaf 0))) (.leaf (.inl (.ofNat 0)))) (.branch 4 (.leaf (.inl (.negSucc 0))) (.leaf (.inl (.ofNat 0))))) (.branch 11 (.branch 9 (.leaf (.inr (61, .leaf 0))) (.leaf (.inl (.ofNat 0)))) (.branch 14 (.leaf (.inr (4, .leaf 0))) (.branch 15 (.leaf (.inr (62, .leaf 0))) (.leaf (.inl (.ofNat 0))))))) (.leaf s_u))) (.leaf (1, 1, 300, .branch 300 (.leaf (.inl (.ofNat 0))) (.leaf s_u)))))) (.branch 47 (.branch 46 (.leaf (1, 0, 168, .branch 168 (.leaf (.inl (.ofNat 0))) (.leaf s_u))) (.leaf (1, 0, 600, .branch 600 (.leaf (.inl (.ofNat 0))) (.leaf s_u)))) (.branch 48 (.leaf (0, 0, 11, .branch 11 (.branch 2 (.branch 1 (.leaf (.inr (19, .leaf 0))) (.leaf (.inr (53, .leaf 0)))) (.branch 3 (.leaf (.inr (64, .leaf 0))) (.branch 4 (.leaf (.inr (4, .leaf 0))) (.leaf (.inl (.ofNat 0)))))) (.leaf s_u))) (.branch 49 (.leaf (0, 1, 2, .branch 2 (.branch 1 (.leaf (.inr (65, .leaf 0))) (.leaf (.inr (66, .leaf 0)))) (.leaf s_u))) (.leaf (1, 0, 8, .branch 8 (.leaf (.inl (.ofNat 0))) (.leaf s_u))))))) (.branch 55 (.branch 52 (.branch 51 (.leaf (1, 0, 32, .branch 32 (.leaf (.inl (.ofNat 0))) (.leaf s_u))) (.leaf (0, 2, 5, .branch 5 (.branch 2 (.branch 1 (.leaf (.inr (63, .leaf 0))) (.leaf (.inr (68, .leaf 0)))) (.branch 3 (.leaf (.inr (69, .leaf 0))) (.branch 4 (.leaf (.inr (70, .leaf 0))) (.leaf (.inr (71, .leaf 0)))))) (.leaf s_u)))) (.branch 53 (.leaf (1, 0, 1000, .branch 1000 (.leaf (.inl (.ofNat 0))) (.leaf s_u))) (.branch 54 (.leaf (1, 0, 100, .branch 100 (.leaf (.inl (.ofNat 0))) (.leaf s_u))) (.leaf (1, 0, 100, .branch 100 (.leaf (.inl (.ofNat 0))) (.leaf s_u)))))) (.branch 57 (.branch 56 (.leaf (1, 0, 100, .branch 100 (.leaf (.inl (.ofNat 0))) (.leaf s_u))) (.leaf (0, 5, 8, .branch 8 (.branch 4 (.branch 2 (.branch 1 (.leaf (.inr (19, .leaf 0))) (.leaf (.inr (53, .leaf 0)))) (.branch 3 (.leaf (.inr (63, .leaf 0))) (.leaf (.inr (73, .leaf 0))))) (.branch 6 (.branch 5 (.leaf (.inr (74, .leaf 0))) (.leaf (.inr (75, .leaf 0)))) (.branch 7 (.leaf (.inr (76, .leaf 0))) (.leaf (.inl (.ofNat 0)))))) (.leaf s_u)))) (.branch 58 (.leaf (1, 0, 25, .branch 25 (.leaf (.inl (.ofNat 0))) (.leaf s_u))) (.branch 59 (.leaf (1, 0, 5, .branch 5 (.leaf (.inl (.ofNat 0))) (.leaf s_u))) (.leaf (1, 0, 5, .branch 5 (.leaf (.inl (.ofNat 0))) (.leaf s_u)))))))) (.branch 70 (.branch 65 (.branch 62 (.branch 61 (.leaf (1, 0, 5, .branch 5 (.leaf (.inl (.ofNat 0))) (.leaf s_u))) (.leaf (1, 0, 64, .branch 64 (.leaf (.inl (.ofNat 0))) (.leaf s_u)))) (.branch 63 (.leaf (1, 0, 16, .branch 16 (.leaf (.inl (.ofNat 0))) (.leaf s_u))) (.branch 64 (.leaf (1, 0, 9, .branch 9 (.leaf (.inl (.ofNat 0))) (.leaf s_u))) (.leaf (0, 12, 31, .branch 31 (.branch 16 (.branch 5 (.branch 2 (.branch 1 (.leaf (.inr (81, .leaf 0))) (.leaf (.inr (82, .leaf 0)))) (.branch 3 (.leaf (.inr (83, .leaf 0))) (.branch 4 (.leaf (.inr (84, .leaf 0))) (.leaf (.inl (.ofNat 0)))))) (.branch 11 (.branch 7 (.leaf (.inl (.negSucc 0))) (.leaf (.inl (.ofNat 0)))) (.branch 12 (.leaf (.inr (2, .leaf (.ofNat 0)))) (.branch 15 (.leaf (.inl (.ofNat 0))) (.leaf (.inr (85, .leaf 0))))))) (.branch 25 (.branch 22 (.branch 17 (.leaf (.inr (86, .leaf 0))) (.leaf (.inl (.ofNat 0)))) (.branch 23 (.leaf (.inr (87, .leaf 0))) (.branch 24 (.leaf (.inr (88, .leaf 0))) (.leaf (.inr (89, .leaf 0)))))) (.branch 28 (.branch 26 (.leaf (.inr (90, .leaf 0))) (.branch 27 (.leaf (.inr (91, .leaf 0))) (.leaf (.inr (92, .leaf 0))))) (.branch 29 (.leaf (.inr (93, .leaf 0))) (.branch 30 (.leaf (.inr (94, .leaf 0))) (.leaf (.inr (95, .leaf 0)))))))) (.leaf s_u)))))) (.branch 67 (.branch 66 (.leaf (1, 0, 2517, .branch 2517 (.branch 13 (.branch 3 (.branch 2 (.leaf (.inl (.ofNat 0))) (.leaf (.inl (.negSucc 0)))) (.branch 12 (.leaf (.inl (.ofNat 0))) (.leaf (.inl (.ofNat 20))))) (.branch 16 (.branch 14 (.leaf (.inl (.ofNat 73))) (.leaf (.inl (.ofNat 0)))) (.branch 18 (.leaf (.inl (.ofNat 1))) (.leaf (.inl (.ofNat 0)))))) (.leaf s_u))) (.leaf (1, 0, 2517, .branch 2517 (.branch 13 (.branch 3 (.branch 2 (.leaf (.inl (.ofNat 0))) (.leaf (.inl (.negSucc 0)))) (.branch 12 (.leaf (.inl (.ofNat 0))) (.leaf (.inl (.ofNat 20))))) (.branch 16 (.branch 14 (.leaf (.inl (.ofNat 73))) (.leaf (.inl (.ofNat 0)))) (.branch 18 (.leaf (.inl (.ofNat 1))) (.leaf (.inl (.ofNat 0)))))) (.leaf s_u)))) (.branch 68 (.leaf (1, 0, 3108, .branch 3108 (.leaf (.inl (.ofNat 0))) (.leaf s_u))) (.branch 69 (.leaf (1, 0, 300, .branch 300 (.leaf (.inl (.ofNat 0))) (.leaf s_u))) (.leaf (1, 0, 160, .branch 160 (.leaf (.inl (.ofNat 0))) (.leaf s_u))))))) (.branch 75 (.branch 72 (.branch 71 (.leaf (1, 0, 9, .branch 9 (.leaf (.inl (.ofNat 0))) (.leaf s_u))) (.leaf (1, 0, 8, .branch 8 (.leaf (.inl (.ofNat 0))) (.leaf s_u)))) (.branch 73 (.leaf (1, 2, 330, .branch 330 (.leaf (.inr (2, .leaf (.ofNat 0)))) (.leaf s_u))) (.branch 74 (.leaf (1, 0, 212, .branch 212 (.leaf (.inl (.ofNat 0))) (.leaf s_u))) (.leaf (1, 3, 64, .branch 64 (.leaf (.inl (.ofNat 0))) (.leaf s_u)))))) (.branch 77 (.branch 76 (.leaf (1, 3, 320, .branch 320 (.leaf (.inl (.ofNat 0))) (.leaf s_u))) (.leaf (1, 0, 32, .branch 32 (.leaf (.inl (.ofNat 0))) (.leaf s_u)))) (.branch 78 (.leaf (1, 0, 5, .branch 5 (.leaf (.inl (.ofNat 0))) (.leaf s_u))) (.branch 79 (.leaf (1, 0, 16, .branch 16 (.leaf (.inl (.ofNat 0))) (.leaf s_u))) (.leaf (1, 0, 272, .branch 272 (.leaf (.inl (.ofNat 0))) (.leaf s_u)))))))))) (.leaf (9, 0, 0, .leaf s_u)), 80, 21366)
def k_L0 : s_L := [.inr (16, .leaf 0), .inr (18, .leaf 0), .inr (80, .leaf 0), .inl (.ofNat 0)]
theorem s_mkr_get : ∀ (l : List s_V) (k i : Nat), (s_mkr k l).get (k + i) = (l[i]?).getD s_u := by
  intro l
  induction l with
  | nil => intro k i; rfl
  | cons v r ih =>
    intro k i
    show (Lean.RArray.branch (k + 1) (.leaf v) (s_mkr (k + 1) r)).get (k + i) = _
    rw [s_gb]
    cases i with
    | zero => rw [if_neg (by omega)]; rfl
    | succ i =>
      rw [if_pos (by omega), show k + (i + 1) = k + 1 + i by omega, ih]
      simp
theorem k_tr {θ : Nat → Int32} {l : List s_V} {vs : List Value} (hl : ∀ (i : Nat) (a : s_V), l[i]? = some a → ∃ v, vs[i]? = some v ∧ s_v θ a v) : ∀ i, s_t ((s_mkr 0 l).get i) ≠ 0 → ∃ v, vs[i]? = some v ∧ s_v θ ((s_mkr 0 l).get i) v := by
  intro i h0
  have e := s_mkr_get l 0 i
  rw [Nat.zero_add] at e
  rw [e] at h0 ⊢
  cases h : l[i]? with
  | none => rw [h] at h0; exact absurd rfl h0
  | some a => exact hl i a h
def k_θ (xs : List Int32) : Nat → Int32 := fun k => if k = 0 then Int32.ofNat xs.length else xs.getD (k - 1) 0
theorem k_scr {xs : List Int32} (hl : xs.length ≤ 3584) : s_scr (k_θ xs) = xs.map Value.int := by
  have e : (k_θ xs 0).toNatClampNeg = xs.length := by
    show (Int32.ofNat xs.length).toNatClampNeg = xs.length
    exact k_ncl (by omega)
  unfold s_scr
  rw [e]
  apply List.ext_getElem?
  intro i
  rw [List.getElem?_map, List.getElem?_map]
  by_cases hi : i < xs.length
  · rw [List.getElem?_range hi, List.getElem?_eq_getElem hi]
    show some (Value.int (if i + 1 = 0 then _ else xs.getD (i + 1 - 1) 0)) = some (Value.int xs[i])
    rw [if_neg (by omega), Nat.add_sub_cancel]
    simp [hi]
  · rw [List.getElem?_eq_none (by rw [List.length_range]; omega), List.getElem?_eq_none (by omega)]
    rfl
theorem k_start {xs : List Int32} (hl : xs.length ≤ 3584) : s_hr (k_θ xs) k_Hs (p_h0 xs) := by
  refine ⟨rfl, ⟨?_, rfl, ?_⟩, fun a ha => ?_⟩
  · show p_sl (p_h0 xs) ≤ 3606
    simp [p_sl, p_h0, p_wds]; omega
  · rw [k_scr hl]; rfl
  · have e : k_Hs.1 = .branch 1 (.leaf (9, 0, 0, .leaf s_u)) (.branch 2 (.leaf k_wc) (.branch 1024 (.leaf (9, 0, 0, .leaf s_u)) (.leaf (9, 0, 0, .leaf s_u)))) := rfl
    rw [e] at ha ⊢
    match a, ha with
    | 0, ha => exact absurd rfl ha
    | 1, _ =>
      refine ⟨_, rfl, rfl, rfl, rfl, ?_⟩
      refine k_tr (l := k_wv) (fun i b hb => ?_)
      match i, hb with
      | 0, hb => cases hb; exact ⟨_, rfl, _, rfl, rfl⟩
      | 1, hb => cases hb; exact ⟨_, rfl, _, rfl, rfl⟩
      | 2, hb => cases hb; exact ⟨_, rfl, _, rfl, rfl⟩
      | 3, hb => cases hb; exact ⟨_, rfl, _, rfl, rfl⟩
      | 4, hb => cases hb; exact ⟨_, rfl, _, rfl, rfl⟩
      | 5, hb => cases hb; exact ⟨_, rfl, _, rfl, rfl⟩
      | 6, hb => cases hb; exact ⟨_, rfl, _, rfl, rfl⟩
      | 7, hb => cases hb; exact ⟨_, rfl, _, rfl, rfl⟩
      | 8, hb => cases hb; exact ⟨_, rfl, _, rfl, rfl⟩
      | 9, hb => cases hb; exact ⟨_, rfl, _, rfl, rfl⟩
      | 10, hb => cases hb; exact ⟨_, rfl, _, rfl, rfl⟩
      | 11, hb => cases hb; exact ⟨_, rfl, _, rfl, rfl⟩
      | 12, hb => cases hb; exact ⟨_, rfl, _, rfl, rfl⟩
      | 13, hb => cases hb; exact ⟨_, rfl, _, rfl, rfl⟩
      | 14, hb => cases hb; exact ⟨_, rfl, _, rfl, rfl⟩
      | 15, hb => cases hb; exact ⟨_, rfl, _, rfl, rfl⟩
      | 16, hb => cases hb; exact ⟨_, rfl, _, rfl, rfl⟩
      | 17, hb => cases hb; exact ⟨_, rfl, _, rfl, rfl⟩
      | 18, hb => cases hb; exact ⟨_, rfl, _, rfl, rfl⟩
      | 19, hb => cases hb; exact ⟨_, rfl, _, rfl, rfl⟩
      | 20, hb => cases hb; exact ⟨_, rfl, _, rfl, rfl⟩
      | 21, hb => cases hb; exact ⟨_, rfl, _, rfl, rfl⟩
      | k + 22, hb => simp [k_wv] at hb
    | a + 2, ha =>
      rw [s_gb, if_pos (by omega), s_gb, if_pos (by omega), s_gb] at ha
      split at ha <;> exact absurd rfl ha
noncomputable def k_KS0 : s_T := fun F H L S => s_mat [] F H L S [] k_H0 k_L0 []
set_option maxRecDepth 100000 in
theorem k_con : s_go s_X0 100000 18 k_KS0 100 m_L_law (fun _ _ _ => false) 0 [] k_Hs [.inr (16, .leaf 0)] [] = true := by decide +kernel
theorem k_con_ok {xs : List Int32} (hl : xs.length ≤ 3584) : ∃ ls h, s_Rl (k_θ xs) [] k_H0 k_L0 [] ls [] h ∧ ∀ Q, p_wp p_GT p_MT 100 m_L_law 18 ls [] h Q → p_wp p_GT p_MT 100 m_L_law 0 [(0, .ref 0)] [] (p_h0 xs) Q := by
  have hr : s_Rl (k_θ xs) [] k_Hs [.inr (16, .leaf 0)] [] [(0, .ref 0)] [] (p_h0 xs) := by
    refine ⟨(fun f hf => by cases hf), k_start hl, (fun i a h h0 => ?_), trivial⟩
    match i, h with
    | 0, h => cases h; exact ⟨.ref 0, rfl, rfl⟩
    | i + 1, h => simp at h
  rcases s_go_ok s_X0_ok _ _ _ _ _ _ _ _ _ _ _ _ _ _ k_con hr with ⟨F', H', a, v, h2, g1, -⟩ | ⟨F, H, L, S, ls, st, h, g1, g2, g3⟩
  · cases g1
  · have g4 := s_mat_ok (show s_th (k_θ xs) [] = k_θ xs from rfl) rfl g2 g1
    rw [s_th0] at g4
    obtain rfl := s_sr_nil g4.2.2.2
    exact ⟨ls, h, g4, g3⟩

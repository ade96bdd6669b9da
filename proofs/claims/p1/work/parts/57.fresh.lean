/-! THE FRESH STATE (written by program) -/
abbrev q_var (k : Nat) : s_V := .inr (1, .branch 0 (.leaf (.ofNat k)) (.leaf (.ofNat 0)))
def s_mkr : Nat → List s_V → Lean.RArray s_V
  | _, [] => .leaf s_u
  | k, v :: r => .branch (k + 1) (.leaf v) (s_mkr (k + 1) r)
def q_wv : List s_V := [.inr (2, .leaf (.ofNat 469853041779)), .inr (2, .leaf (.ofNat 495622843507)), .inr (2, .leaf (.ofNat 1919906931)), .inr (2, .leaf (.ofNat 1886350948)), .inr (2, .leaf (.ofNat 495689623668)), .inr (2, .leaf (.ofNat 7561591)), .inr (2, .leaf (.ofNat 427121668979)), .inr (2, .leaf (.ofNat 1936026732)), .inr (2, .leaf (.ofNat 495874892151)), .inr (2, .leaf (.ofNat 6578553)), .inr (2, .leaf (.ofNat 1751474548)), .inr (2, .leaf (.ofNat 1936292453)), .inr (2, .leaf (.ofNat 120282378691940)), .inr (2, .leaf (.ofNat 1701078885)), .inr (2, .leaf (.ofNat 126896543659123)), .inr (2, .leaf (.ofNat 461330343027)), .inr (2, .leaf (.ofNat 25209)), .inr (2, .leaf (.ofNat 24948)), .inr (2, .leaf (.ofNat 1684366704)), .inr (2, .leaf (.ofNat 29807)), .inr (2, .leaf (.ofNat 7238760)), .inr (2, .leaf (.ofNat 28518))]
/-- the script as unknowns of these numbers -/
def q_scr (g : List Nat) : s_A := (2, 0, g.length, s_mkr 0 (g.map q_var))
def q_wc : s_A := (2, 2, 22, s_mkr 0 q_wv)
def q_Hs (g : List Nat) : s_H := (.branch 1 (.leaf (q_scr g)) (.branch 2 (.leaf q_wc) (.branch 1024 (.leaf (9, 0, 0, .leaf s_u)) (.leaf (9, 0, 0, .leaf s_u)))), 2, 22 + g.length)
def q_H0 (g : List Nat) : s_H := (.branch 80 (.branch 40 (.branch 20 (.branch 10 (.branch 5 (.branch 2 (.branch 1 (.leaf (q_scr g)) (.leaf (q_wc))) (.branch 3 (.leaf (0, 11, 10, .branch 10 (.branch 5 (.branch 2 (.branch 1 (.leaf (.inr (19, .leaf 0))) (.leaf (.inr (36, .leaf 0)))) (.branch 3 (.leaf (.inr (53, .leaf 0))) (.branch 4 (.leaf (.inr (59, .leaf 0))) (.leaf (.inr (63, .leaf 0)))))) (.branch 7 (.branch 6 (.leaf (.inr (67, .leaf 0))) (.leaf (.inr (72, .leaf 0)))) (.branch 8 (.leaf (.inr (77, .leaf 0))) (.branch 9 (.leaf (.inr (78, .leaf 0))) (.leaf (.inr (79, .leaf 0))))))) (.leaf s_u))) (.branch 4 (.leaf (0, 9, 15, .branch 15 (.branch 8 (.branch 5 (.branch 2 (.leaf (.inl (.ofNat 1))) (.branch 4 (.leaf (.inl (.ofNat 0))) (.leaf (.inr (20, .leaf 0))))) (.branch 6 (.leaf (.inl (.ofNat 0))) (.branch 7 (.leaf (.inl (.negSucc 0))) (.leaf (.inr (21, .leaf 0)))))) (.branch 11 (.branch 9 (.leaf (.inr (22, .leaf 0))) (.branch 10 (.leaf (.inr (24, .leaf 0))) (.leaf (.inr (26, .leaf 0))))) (.branch 13 (.branch 12 (.leaf (.inr (28, .leaf 0))) (.leaf (.inr (30, .leaf 0)))) (.branch 14 (.leaf (.inr (32, .leaf 0))) (.leaf (.inr (34, .leaf 0))))))) (.leaf s_u))) (.leaf (1, 0, 72, .branch 72 (.leaf (.inl (.ofNat 0))) (.leaf s_u)))))) (.branch 7 (.branch 6 (.leaf (1, 4, 4, .branch 4 (.leaf (.inr (4, .leaf 0))) (.leaf s_u))) (.leaf (0, 10, 8, .branch 8 (.branch 3 (.branch 2 (.leaf (.inl (.ofNat 0))) (.leaf (.inl (.ofNat 20)))) (.branch 6 (.leaf (.inl (.ofNat 0))) (.branch 7 (.leaf (.inl (.ofNat 73))) (.leaf (.inr (23, .leaf 0)))))) (.leaf s_u)))) (.branch 8 (.leaf (1, 0, 64, .branch 64 (.leaf (.inl (.ofNat 0))) (.leaf s_u))) (.branch 9 (.leaf (0, 6, 3, .branch 3 (.branch 1 (.leaf (.inr (25, .leaf 0))) (.leaf (.inl (.ofNat 0)))) (.leaf s_u))) (.leaf (1, 0, 2130, .branch 2130 (.leaf (.inl (.ofNat 0))) (.leaf s_u))))))) (.branch 15 (.branch 12 (.branch 11 (.leaf (0, 8, 3, .branch 3 (.branch 1 (.leaf (.inl (.ofNat 5))) (.branch 2 (.leaf (.inr (27, .leaf 0))) (.leaf (.inl (.ofNat 0))))) (.leaf s_u))) (.leaf (1, 0, 32, .branch 32 (.leaf (.inl (.ofNat 0))) (.leaf s_u)))) (.branch 13 (.leaf (0, 8, 3, .branch 3 (.branch 1 (.leaf (.inl (.ofNat 8))) (.branch 2 (.leaf (.inr (29, .leaf 0))) (.leaf (.inl (.ofNat 0))))) (.leaf s_u))) (.branch 14 (.leaf (1, 0, 32, .branch 32 (.leaf (.inl (.ofNat 0))) (.leaf s_u))) (.leaf (0, 8, 3, .branch 3 (.branch 1 (.leaf (.inl (.ofNat 8))) (.branch 2 (.leaf (.inr (31, .leaf 0))) (.leaf (.inl (.ofNat 0))))) (.leaf s_u)))))) (.branch 17 (.branch 16 (.leaf (1, 0, 32, .branch 32 (.leaf (.inl (.ofNat 0))) (.leaf s_u))) (.leaf (0, 8, 3, .branch 3 (.branch 1 (.leaf (.inl (.ofNat 8))) (.branch 2 (.leaf (.inr (33, .leaf 0))) (.leaf (.inl (.ofNat 0))))) (.leaf s_u)))) (.branch 18 (.leaf (1, 0, 32, .branch 32 (.leaf (.inl (.ofNat 0))) (.leaf s_u))) (.branch 19 (.leaf (0, 8, 3, .branch 3 (.branch 1 (.leaf (.inl (.ofNat 8))) (.branch 2 (.leaf (.inr (35, .leaf 0))) (.leaf (.inl (.ofNat 0))))) (.leaf s_u))) (.leaf (1, 0, 32, .branch 32 (.leaf (.inl (.ofNat 0))) (.leaf s_u)))))))) (.branch 30 (.branch 25 (.branch 22 (.branch 21 (.leaf (0, 9, 15, .branch 15 (.branch 8 (.branch 5 (.branch 2 (.leaf (.inl (.ofNat 1))) (.branch 4 (.leaf (.inl (.ofNat 0))) (.leaf (.inr (37, .leaf 0))))) (.branch 6 (.leaf (.inl (.ofNat 0))) (.branch 7 (.leaf (.inl (.negSucc 0))) (.leaf (.inr (38, .leaf 0)))))) (.branch 11 (.branch 9 (.leaf (.inr (39, .leaf 0))) (.branch 10 (.leaf (.inr (41, .leaf 0))) (.leaf (.inr (43, .leaf 0))))) (.branch 13 (.branch 12 (.leaf (.inr (45, .leaf 0))) (.leaf (.inr (47, .leaf 0)))) (.branch 14 (.leaf (.inr (49, .leaf 0))) (.leaf (.inr (51, .leaf 0))))))) (.leaf s_u))) (.leaf (1, 0, 72, .branch 72 (.leaf (.inl (.ofNat 0))) (.leaf s_u)))) (.branch 23 (.leaf (1, 4, 4, .branch 4 (.leaf (.inr (4, .leaf 0))) (.leaf s_u))) (.branch 24 (.leaf (0, 10, 8, .branch 8 (.branch 3 (.branch 2 (.leaf (.inl (.ofNat 0))) (.leaf (.inl (.ofNat 20)))) (.branch 6 (.leaf (.inl (.ofNat 0))) (.branch 7 (.leaf (.inl (.ofNat 73))) (.leaf (.inr (40, .leaf 0)))))) (.leaf s_u))) (.leaf (1, 0, 64, .branch 64 (.leaf (.inl (.ofNat 0))) (.leaf s_u)))))) (.branch 27 (.branch 26 (.leaf (0, 6, 3, .branch 3 (.branch 1 (.leaf (.inr (42, .leaf 0))) (.leaf (.inl (.ofNat 0)))) (.leaf s_u))) (.leaf (1, 0, 2130, .branch 2130 (.leaf (.inl (.ofNat 0))) (.leaf s_u)))) (.branch 28 (.leaf (0, 8, 3, .branch 3 (.branch 1 (.leaf (.inl (.ofNat 5))) (.branch 2 (.leaf (.inr (44, .leaf 0))) (.leaf (.inl (.ofNat 0))))) (.leaf s_u))) (.branch 29 (.leaf (1, 0, 32, .branch 32 (.leaf (.inl (.ofNat 0))) (.leaf s_u))) (.leaf (0, 8, 3, .branch 3 (.branch 1 (.leaf (.inl (.ofNat 8))) (.branch 2 (.leaf (.inr (46, .leaf 0))) (.leaf (.inl (.ofNat 0))))) (.leaf s_u))))))) (.branch 35 (.branch 32 (.branch 31 (.leaf (1, 0, 32, .branch 32 (.leaf (.inl (.ofNat 0))) (.leaf s_u))) (.leaf (0, 8, 3, .branch 3 (.branch 1 (.leaf (.inl (.ofNat 8))) (.branch 2 (.leaf (.inr (48, .leaf 0))) (.leaf (.inl (.ofNat 0))))) (.leaf s_u)))) (.branch 33 (.leaf (1, 0, 32, .branch 32 (.leaf (.inl (.ofNat 0))) (.leaf s_u))) (.branch 34 (.leaf (0, 8, 3, .branch 3 (.branch 1 (.leaf (.inl (.ofNat 8))) (.branch 2 (.leaf (.inr (50, .leaf 0))) (.leaf (.inl (.ofNat 0))))) (.leaf s_u))) (.leaf (1, 0, 32, .branch 32 (.leaf (.inl (.ofNat 0))) (.leaf s_u)))))) (.branch 37 (.branch 36 (.leaf (0, 8, 3, .branch 3 (.branch 1 (.leaf (.inl (.ofNat 8))) (.branch 2 (.leaf (.inr (52, .leaf 0))) (.leaf (.inl (.ofNat 0))))) (.leaf s_u))) (.leaf (1, 0, 32, .branch 32 (.leaf (.inl (.ofNat 0))) (.leaf s_u)))) (.branch 38 (.leaf (0, 4, 6, .branch 6 (.branch 3 (.branch 1 (.leaf (.inr (54, .leaf 0))) (.branch 2 (.leaf (.inr (55, .leaf 0))) (.leaf (.inr (56, .leaf 0))))) (.branch 4 (.leaf (.inr (57, .leaf 0))) (.branch 5 (.leaf (.inr (58, .leaf 0))) (.leaf (.inl (.ofNat 1)))))) (.leaf s_u))) (.branch 39 (.leaf (1, 0, 64, .branch 64 (.leaf (.inl (.ofNat 0))) (.leaf s_u))) (.leaf (1, 0, 64, .branch 64 (.leaf (.inl (.ofNat 0))) (.leaf s_u))))))))) (.branch 60 (.branch 50 (.branch 45 (.branch 42 (.branch 41 (.leaf (1, 0, 64, .branch 64 (.branch 1 (.leaf (.inl (.ofNat 1))) (.leaf (.inl (.ofNat 0)))) (.leaf s_u))) (.leaf (1, 0, 64, .branch 64 (.branch 1 (.leaf (.inl (.ofNat 1))) (.leaf (.inl (.ofNat 0)))) (.leaf s_u)))) (.branch 43 (.leaf (1, 0, 64, .branch 64 (.branch 1 (.leaf (.inl (.ofNat 4))) (.leaf (.inl (.ofNat 0)))) (.leaf s_u))) (.branch 44 (.leaf (0, 3, 18, .branch 18 (.branch 8 (.branch 2 (.branch 1 (.leaf (.inr (60, .leaf 0))) (.leaf (.inl (.ofNat 0)))) (.branch 4 (.leaf (.inl (.negSucc 0))) (.leaf (.inl (.ofNat 0))))) (.branch 11 (.branch 9 (.leaf (.inr (61, .leaf 0))) (.leaf (.inl (.ofNat 0)))) (.branch 14 (.leaf (.inr (4, .leaf 0))) (.branch 15 (.leaf (.inr (62, .leaf 0))) (.leaf (.inl (.ofNat 0))))))) (.leaf s_u))) (.leaf (1, 1, 300, .branch 300 (.leaf (.inl (.ofNat 0))) (.leaf s_u)))))) (.branch 47 (.branch 46 (.leaf (1, 0, 168, .branch 168 (.leaf (.inl (.ofNat 0))) (.leaf s_u))) (.leaf (1, 0, 600, .branch 600 (.leaf (.inl (.ofNat 0))) (.leaf s_u)))) (.branch 48 (.leaf (0, 0, 11, .branch 11 (.branch 2 (.branch 1 (.leaf (.inr (19, .leaf 0))) (.leaf (.inr (53, .leaf 0)))) (.branch 3 (.leaf (.inr (64, .leaf 0))) (.branch 4 (.leaf (.inr (4, .leaf 0))) (.leaf (.inl (.ofNat 0)))))) (.leaf s_u))) (.branch 49 (.leaf (0, 1, 2, .branch 2 (.branch 1 (.leaf (.inr (65, .leaf 0))) (.leaf (.inr (66, .leaf 0)))) (.leaf s_u))) (.leaf (1, 0, 8, .branch 8 (.leaf (.inl (.ofNat 0))) (.leaf s_u))))))) (.branch 55 (.branch 52 (.branch 51 (.leaf (1, 0, 32, .branch 32 (.leaf (.inl (.ofNat 0))) (.leaf s_u))) (.leaf (0, 2, 5, .branch 5 (.branch 2 (.branch 1 (.leaf (.inr (63, .leaf 0))) (.leaf (.inr (68, .leaf 0)))) (.branch 3 (.leaf (.inr (69, .leaf 0))) (.branch 4 (.leaf (.inr (70, .leaf 0))) (.leaf (.inr (71, .leaf 0)))))) (.leaf s_u)))) (.branch 53 (.leaf (1, 0, 1000, .branch 1000 (.leaf (.inl (.ofNat 0))) (.leaf s_u))) (.branch 54 (.leaf (1, 0, 100, .branch 100 (.leaf (.inl (.ofNat 0))) (.leaf s_u))) (.leaf (1, 0, 100, .branch 100 (.leaf (.inl (.ofNat 0))) (.leaf s_u)))))) (.branch 57 (.branch 56 (.leaf (1, 0, 100, .branch 100 (.leaf (.inl (.ofNat 0))) (.leaf s_u))) (.leaf (0, 5, 8, .branch 8 (.branch 4 (.branch 2 (.branch 1 (.leaf (.inr (19, .leaf 0))) (.leaf (.inr (53, .leaf 0)))) (.branch 3 (.leaf (.inr (63, .leaf 0))) (.leaf (.inr (73, .leaf 0))))) (.branch 6 (.branch 5 (.leaf (.inr (74, .leaf 0))) (.leaf (.inr (75, .leaf 0)))) (.branch 7 (.leaf (.inr (76, .leaf 0))) (.leaf (.inl (.ofNat 0)))))) (.leaf s_u)))) (.branch 58 (.leaf (1, 0, 25, .branch 25 (.leaf (.inl (.ofNat 0))) (.leaf s_u))) (.branch 59 (.leaf (1, 0, 5, .branch 5 (.leaf (.inl (.ofNat 0))) (.leaf s_u))) (.leaf (1, 0, 5, .branch 5 (.leaf (.inl (.ofNat 0))) (.leaf s_u)))))))) (.branch 70 (.branch 65 (.branch 62 (.branch 61 (.leaf (1, 0, 5, .branch 5 (.leaf (.inl (.ofNat 0))) (.leaf s_u))) (.leaf (1, 0, 64, .branch 64 (.leaf (.inl (.ofNat 0))) (.leaf s_u)))) (.branch 63 (.leaf (1, 0, 16, .branch 16 (.leaf (.inl (.ofNat 0))) (.leaf s_u))) (.branch 64 (.leaf (1, 0, 9, .branch 9 (.leaf (.inl (.ofNat 0))) (.leaf s_u))) (.leaf (0, 12, 31, .branch 31 (.branch 16 (.branch 5 (.branch 2 (.branch 1 (.leaf (.inr (81, .leaf 0))) (.leaf (.inr (82, .leaf 0)))) (.branch 3 (.leaf (.inr (83, .leaf 0))) (.branch 4 (.leaf (.inr (84, .leaf 0))) (.leaf (.inl (.ofNat 0)))))) (.branch 11 (.branch 7 (.leaf (.inl (.negSucc 0))) (.leaf (.inl (.ofNat 0)))) (.branch 12 (.leaf (.inr (2, .leaf (.ofNat 0)))) (.branch 15 (.leaf (.inl (.ofNat 0))) (.leaf (.inr (85, .leaf 0))))))) (.branch 25 (.branch 22 (.branch 17 (.leaf (.inr (86, .leaf 0))) (.leaf (.inl (.ofNat 0)))) (.branch 23 (.leaf (.inr (87, .leaf 0))) (.branch 24 (.leaf (.inr (88, .leaf 0))) (.leaf (.inr (89, .leaf 0)))))) (.branch 28 (.branch 26 (.leaf (.inr (90, .leaf 0))) (.branch 27 (.leaf (.inr (91, .leaf 0))) (.leaf (.inr (92, .leaf 0))))) (.branch 29 (.leaf (.inr (93, .leaf 0))) (.branch 30 (.leaf (.inr (94, .leaf 0))) (.leaf (.inr (95, .leaf 0)))))))) (.leaf s_u)))))) (.branch 67 (.branch 66 (.leaf (1, 0, 2517, .branch 2517 (.branch 13 (.branch 3 (.branch 2 (.leaf (.inl (.ofNat 0))) (.leaf (.inl (.negSucc 0)))) (.branch 12 (.leaf (.inl (.ofNat 0))) (.leaf (.inl (.ofNat 20))))) (.branch 16 (.branch 14 (.leaf (.inl (.ofNat 73))) (.leaf (.inl (.ofNat 0)))) (.branch 18 (.leaf (.inl (.ofNat 1))) (.leaf (.inl (.ofNat 0)))))) (.leaf s_u))) (.leaf (1, 0, 2517, .branch 2517 (.branch 13 (.branch 3 (.branch 2 (.leaf (.inl (.ofNat 0))) (.leaf (.inl (.negSucc 0)))) (.branch 12 (.leaf (.inl (.ofNat 0))) (.leaf (.inl (.ofNat 20))))) (.branch 16 (.branch 14 (.leaf (.inl (.ofNat 73))) (.leaf (.inl (.ofNat 0)))) (.branch 18 (.leaf (.inl (.ofNat 1))) (.leaf (.inl (.ofNat 0)))))) (.leaf s_u)))) (.branch 68 (.leaf (1, 0, 3108, .branch 3108 (.leaf (.inl (.ofNat 0))) (.leaf s_u))) (.branch 69 (.leaf (1, 0, 300, .branch 300 (.leaf (.inl (.ofNat 0))) (.leaf s_u))) (.leaf (1, 0, 160, .branch 160 (.leaf (.inl (.ofNat 0))) (.leaf s_u))))))) (.branch 75 (.branch 72 (.branch 71 (.leaf (1, 0, 9, .branch 9 (.leaf (.inl (.ofNat 0))) (.leaf s_u))) (.leaf (1, 0, 8, .branch 8 (.leaf (.inl (.ofNat 0))) (.leaf s_u)))) (.branch 73 (.leaf (1, 2, 330, .branch 330 (.leaf (.inr (2, .leaf (.ofNat 0)))) (.leaf s_u))) (.branch 74 (.leaf (1, 0, 212, .branch 212 (.leaf (.inl (.ofNat 0))) (.leaf s_u))) (.leaf (1, 3, 64, .branch 64 (.leaf (.inl (.ofNat 0))) (.leaf s_u)))))) (.branch 77 (.branch 76 (.leaf (1, 3, 320, .branch 320 (.leaf (.inl (.ofNat 0))) (.leaf s_u))) (.leaf (1, 0, 32, .branch 32 (.leaf (.inl (.ofNat 0))) (.leaf s_u)))) (.branch 78 (.leaf (1, 0, 5, .branch 5 (.leaf (.inl (.ofNat 0))) (.leaf s_u))) (.branch 79 (.leaf (1, 0, 16, .branch 16 (.leaf (.inl (.ofNat 0))) (.leaf s_u))) (.leaf (1, 0, 272, .branch 272 (.leaf (.inl (.ofNat 0))) (.leaf s_u)))))))))) (.leaf (9, 0, 0, .leaf s_u)), 80, 17789)
def q_L0 : s_L := [.inr (16, .leaf 0), .inr (18, .leaf 0), .inr (80, .leaf 0), .inl (.ofNat 0)]
def q_g0 : List Nat := [0, 1, 2, 3, 4, 5, 6]
def q_th (xs : List Int32) : Nat → Int32 := fun k => xs.getD (k % 8) 0
theorem s_mkr_get : ∀ (l : List s_V) (k i : Nat), (s_mkr k l).get (k + i) = (l[i]?).getD s_u := by
  intro l
  induction l with
  | nil => intro k i; rfl
  | cons v r ih =>
    intro k i
    show (Lean.RArray.branch (k + 1) (.leaf v) (s_mkr (k + 1) r)).get (k + i) = _
    rw [s_gb]
    cases i with
    | zero => rw [if_neg (by omega)]; rfl
    | succ i =>
      rw [if_pos (by omega), show k + (i + 1) = k + 1 + i by omega, ih]
      simp
theorem q_tr {θ : Nat → Int32} {l : List s_V} {vs : List Value} (hl : ∀ (i : Nat) (a : s_V), l[i]? = some a → ∃ v, vs[i]? = some v ∧ s_v θ a v) : ∀ i, s_t ((s_mkr 0 l).get i) ≠ 0 → ∃ v, vs[i]? = some v ∧ s_v θ ((s_mkr 0 l).get i) v := by
  intro i h0
  have e := s_mkr_get l 0 i
  rw [Nat.zero_add] at e
  rw [e] at h0 ⊢
  cases h : l[i]? with
  | none => rw [h] at h0; exact absurd rfl h0
  | some a => exact hl i a h
theorem q_start {xs : List Int32} {g : List Nat} (hl : g.length = xs.length) (hx : xs.length ≤ 7) (hg : ∀ (j k : Nat), g[j]? = some k → k % 8 = j) : s_hr (q_th xs) (q_Hs g) (p_h0 xs) := by
  refine ⟨rfl, ?_, fun a ha => ?_⟩
  · show p_sl (p_h0 xs) = 22 + g.length
    simp [p_sl, p_h0, hl, p_wds]; omega
  · have e : (q_Hs g).1 = .branch 1 (.leaf (q_scr g)) (.branch 2 (.leaf q_wc) (.branch 1024 (.leaf (9, 0, 0, .leaf s_u)) (.leaf (9, 0, 0, .leaf s_u)))) := rfl
    rw [e] at ha ⊢
    match a, ha with
    | 0, _ =>
      refine ⟨_, rfl, rfl, rfl, (by show (xs.map Value.int).length = g.length; rw [List.length_map, hl]), ?_⟩
      refine q_tr (l := g.map q_var) (fun i b hb => ?_)
      rw [List.getElem?_map] at hb
      cases hk : g[i]? with
      | none => rw [hk] at hb; cases hb
      | some k =>
        rw [hk] at hb
        cases hb
        have hi : i < xs.length := by rw [← hl]; exact (List.getElem?_eq_some_iff.mp hk).1
        refine ⟨.int (q_th xs k), ?_, rfl⟩
        rw [List.getElem?_map, List.getElem?_eq_getElem hi]
        show some (Value.int xs[i]) = some (Value.int (xs.getD (k % 8) 0))
        rw [hg i k hk]
        simp [hi]
    | 1, _ =>
      refine ⟨_, rfl, rfl, rfl, rfl, ?_⟩
      refine q_tr (l := q_wv) (fun i b hb => ?_)
      match i, hb with
      | 0, hb => cases hb; exact ⟨_, rfl, _, rfl, rfl⟩
      | 1, hb => cases hb; exact ⟨_, rfl, _, rfl, rfl⟩
      | 2, hb => cases hb; exact ⟨_, rfl, _, rfl, rfl⟩
      | 3, hb => cases hb; exact ⟨_, rfl, _, rfl, rfl⟩
      | 4, hb => cases hb; exact ⟨_, rfl, _, rfl, rfl⟩
      | 5, hb => cases hb; exact ⟨_, rfl, _, rfl, rfl⟩
      | 6, hb => cases hb; exact ⟨_, rfl, _, rfl, rfl⟩
      | 7, hb => cases hb; exact ⟨_, rfl, _, rfl, rfl⟩
      | 8, hb => cases hb; exact ⟨_, rfl, _, rfl, rfl⟩
      | 9, hb => cases hb; exact ⟨_, rfl, _, rfl, rfl⟩
      | 10, hb => cases hb; exact ⟨_, rfl, _, rfl, rfl⟩
      | 11, hb => cases hb; exact ⟨_, rfl, _, rfl, rfl⟩
      | 12, hb => cases hb; exact ⟨_, rfl, _, rfl, rfl⟩
      | 13, hb => cases hb; exact ⟨_, rfl, _, rfl, rfl⟩
      | 14, hb => cases hb; exact ⟨_, rfl, _, rfl, rfl⟩
      | 15, hb => cases hb; exact ⟨_, rfl, _, rfl, rfl⟩
      | 16, hb => cases hb; exact ⟨_, rfl, _, rfl, rfl⟩
      | 17, hb => cases hb; exact ⟨_, rfl, _, rfl, rfl⟩
      | 18, hb => cases hb; exact ⟨_, rfl, _, rfl, rfl⟩
      | 19, hb => cases hb; exact ⟨_, rfl, _, rfl, rfl⟩
      | 20, hb => cases hb; exact ⟨_, rfl, _, rfl, rfl⟩
      | 21, hb => cases hb; exact ⟨_, rfl, _, rfl, rfl⟩
      | k + 22, hb => simp [q_wv] at hb
    | a + 2, ha =>
      rw [s_gb, if_pos (by omega), s_gb, if_pos (by omega), s_gb] at ha
      split at ha <;> exact absurd rfl ha
/-- the law's end -/
noncomputable def q_R : s_K := fun _ H a => s_and (Sum.rec (motive := fun _ => Bool) (fun z => s_eqz z (.ofNat 1)) (fun _ => false) a) (s_and (Nat.ble H.2.1 600002) (Nat.ble H.2.2 7302250))
def q_Q (v : Option Value) (h : p_H) : Prop := v = some (.int 1) ∧ h.length ≤ 600002 ∧ p_sl h ≤ 7302250
theorem q_R_ok {θ : Nat → Int32} {F : s_F} {H : s_H} {a : s_V} {v : Option Value} {h : p_H} (hg : q_R F H a = true) (hH : s_hr θ H h) (ha : s_an θ a v) : q_Q v h := by
  unfold q_R at hg
  rw [s_and_iff, s_and_iff] at hg
  obtain ⟨g1, g2, g3⟩ := hg
  cases a with
  | inr q => cases g1
  | inl z =>
    have e : z = Int.ofNat 1 := s_eqz_iff.mp g1
    subst e
    refine ⟨?_, by rw [hH.1]; exact Nat.le_of_ble_eq_true g2, by rw [hH.2.1]; exact Nat.le_of_ble_eq_true g3⟩
    cases v with
    | none => exact absurd (show (1 : Nat) = 8 from ha) (by decide)
    | some w =>
      have h2 : w = .int (Int32.ofInt (Int.ofNat 1)) := ha.2.2
      rw [h2]; rfl
theorem q_end {θ : Nat → Int32} {X : s_X} (hX : s_XO θ X) {n d pc : Nat} {F : s_F} {H : s_H} {L S : s_L} {ls : p_Ls} {st : List Value} {h : p_H} (hg : s_run X n 99999 s_never d m_L_law q_R pc F H L S = true) (hr : s_Rl θ F H L S ls st h) : p_wp p_GT p_MT d m_L_law pc ls st h q_Q := by
  rcases s_run_ok hX _ _ _ _ _ _ _ _ _ _ _ _ _ _ hg hr with ⟨F', H', a, v, h2, g1, g2, g3, g4, g5⟩ | ⟨F', H', L', S', ls', st', h', g1, -⟩
  · refine g5.mono (Nat.le_refl _) (fun v' h' e => ?_)
    rw [e.1, e.2]
    exact q_R_ok g1 g3 g4
  · cases g1

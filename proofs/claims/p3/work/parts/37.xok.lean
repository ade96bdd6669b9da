/-! The checker's step is sound -/
def x_Ls (τ : Nat → Option Nat) (r : Nat → Int) (n : Nat) (L : List x_V) (ls : p_Ls) : Prop := ∀ (i : Nat) (a : x_V), L[i]? = some a → a.1 ≠ 0 → ∃ v, p_lk i ls = some v ∧ x_v τ r n a v
/-- one of the outcomes is what the pure machine does -/
def x_Res (E : x_E) (f : x_F) (τ0 : Nat → Option Nat) (h0 : p_H) (τ : Nat → Option Nat) (r : Nat → Int) (n : Nat) (out : Option p_O) (outs : List (Nat × x_S)) : Prop := ∃ o ∈ outs, ∃ (ls' : p_Ls) (st' : List Value) (h' : p_H) (r' : Nat → Int), out = some (.inl (o.1, ls', st', h')) ∧ (∀ i, i < n → r' i = r i) ∧ n ≤ o.2.1 ∧ x_J E f τ0 h0 τ h' ∧ x_O E τ r' h0 h' ls' st' o.2
theorem p_lk_s1 {ls : p_Ls} {i : Nat} {v : Value} : p_lk i (p_s1 ls i v) = some v := by simp [p_s1, p_lk]
theorem p_lk_s2 {ls : p_Ls} {i : Nat} {v : Value} : p_lk i (p_s2 ls i v) = some v := by simp [p_s2, p_lk]
theorem p_lk_fil {g : Nat × Value → Bool} {j : Nat} {w : Value} : ∀ {ls : p_Ls}, p_lk j ls = some w → g (j, w) = true → p_lk j (ls.filter g) = some w := by
  intro ls
  induction ls with
  | nil => intro h _; simp [p_lk] at h
  | cons q r ih =>
    intro h hg
    simp only [p_lk] at h
    split at h
    · next e =>
      cases h
      have e1 : q.1 = j := Nat.eq_of_beq_eq_true e
      have hq : g q = true := by rw [← e1] at hg; exact hg
      rw [List.filter_cons_of_pos hq]
      simp only [p_lk, e, if_true]
    · next e =>
      by_cases hq : g q = true
      · rw [List.filter_cons_of_pos hq]
        simp only [p_lk]
        rw [if_neg e]
        exact ih h hg
      · rw [List.filter_cons_of_neg hq]
        exact ih h hg
theorem x_v_cat {τ : Nat → Option Nat} {r : Nat → Int} {n : Nat} {a : x_V} {v : Value} (hv : x_v τ r n a v) (h0 : a.1 ≠ 0) (h2 : a.1 ≠ 2) : v.category = 1 := by
  obtain ⟨-, hv⟩ := hv
  match q : a.1 with
  | 0 => exact absurd q h0
  | 1 => simp only [q] at hv; obtain ⟨y, rfl, -⟩ := hv; rfl
  | 2 => exact absurd q h2
  | 3 => simp only [q] at hv; obtain ⟨y, rfl, -⟩ := hv; rfl
  | 4 => simp only [q] at hv; subst hv; rfl
  | 5 => simp only [q] at hv
  | 6 => simp only [q] at hv; obtain ⟨y, rfl, -⟩ := hv; rfl
  | k + 7 => simp only [q] at hv
section XS
variable {E : x_E} {f : x_F} {G : p_G} {MT : List p_M} {M : p_M} {τ τ0 : Nat → Option Nat} {h h0 : p_H} {r : Nat → Int} {n pc : Nat} {F : q_F} {L S : List x_V} {Me : x_M} {u w : q_E} {ls : p_Ls} {st : List Value} {i : Instr}
theorem x_Ls.moved {r' : Nat → Int} {n' : Nat} (hL : x_Ls τ r n L ls) (hr : ∀ i, i < n → r' i = r i) (hn : n ≤ n') : x_Ls τ r' n' L ls := by
  intro i a hi ha
  obtain ⟨v, h1, h2⟩ := hL i a hi ha
  exact ⟨v, h1, h2.moved hr hn (fun _ _ q => q)⟩
theorem x_kl_Ls (hL : x_Ls τ r n L ls) (i : Nat) : x_Ls τ r n (x_kl L i) ls ∧ ∀ j a w, (x_kl L i)[j]? = some a → a.1 ≠ 0 → p_lk j ls = some w → j + 1 = i → w.category ≠ 2 := by
  unfold x_kl
  cases i with
  | zero => exact ⟨hL, fun j a w _ _ _ e => by omega⟩
  | succ k =>
    simp only
    split
    · next v hv =>
      split
      · refine ⟨fun j a hj ha => ?_, fun j a w hj ha _ e => ?_⟩
        · rw [List.getElem?_set] at hj
          split at hj
          · split at hj
            · cases hj; exact absurd rfl ha
            · cases hj
          · exact hL j a hj ha
        · have e : k = j := by omega
          subst e
          rw [List.getElem?_set] at hj
          split at hj
          · split at hj
            · cases hj; exact absurd rfl ha
            · cases hj
          · next q => exact absurd rfl q
      · next hn =>
        refine ⟨hL, fun j a w hj ha hw e => ?_⟩
        have e : j = k := by omega
        subst e
        have ea : v = a := Option.some.inj (hv.symm.trans hj)
        subst ea
        obtain ⟨w', h1, h2⟩ := hL j v hv ha
        have ew : w' = w := Option.some.inj (h1.symm.trans hw)
        subst ew
        have := x_v_cat h2 ha (fun q => hn (by rw [q]; rfl))
        omega
    · next hv =>
      exact ⟨hL, fun j a w hj ha _ e => by have e : j = k := by omega
                                           subst e; rw [hv] at hj; cases hj⟩
theorem x_s1_Ls (hL : x_Ls τ r n L ls) {i : Nat} {a : x_V} {v : Value} (hv : x_v τ r n a v) : x_Ls τ r n (x_s1 L i a) (p_s1 ls i v) := by
  obtain ⟨h1, h2⟩ := x_kl_Ls hL i
  intro j b hj hb
  simp only [x_s1] at hj
  by_cases e : i = j
  · subst e
    rw [List.getElem?_set] at hj
    split at hj
    · split at hj
      · cases hj; exact ⟨v, p_lk_s1, hv⟩
      · cases hj
    · next q => exact absurd rfl q
  · rw [List.getElem?_set_ne e] at hj
    obtain ⟨w, g1, g2⟩ := h1 j b hj hb
    refine ⟨w, ?_, g2⟩
    have hne : Nat.beq i j = false := by
      cases q : Nat.beq i j with
      | false => rfl
      | true => exact absurd (Nat.eq_of_beq_eq_true q) e
    simp only [p_s1, p_lk, hne, Bool.false_eq_true, if_false]
    refine p_lk_fil g1 ?_
    have c1 : (j == i) = false := by simp [Ne.symm e]
    by_cases c2 : j + 1 = i
    · have c3 := h2 j b w hj hb g1 c2
      simp [c1, c2, c3]
    · simp [c1, c2]
theorem x_s2_Ls (hL : x_Ls τ r n L ls) {i : Nat} {a : x_V} {v : Value} (hv : x_v τ r n a v) : x_Ls τ r n (x_s2 L i a) (p_s2 ls i v) := by
  obtain ⟨h1, h2⟩ := x_kl_Ls hL i
  intro j b hj hb
  simp only [x_s2] at hj
  by_cases e2 : i + 1 = j
  · subst e2
    rw [List.getElem?_set] at hj
    split at hj
    · split at hj
      · cases hj; exact absurd rfl hb
      · cases hj
    · next q => exact absurd rfl q
  rw [List.getElem?_set_ne e2] at hj
  by_cases e : i = j
  · subst e
    rw [List.getElem?_set] at hj
    split at hj
    · split at hj
      · cases hj; exact ⟨v, p_lk_s2, hv⟩
      · cases hj
    · next q => exact absurd rfl q
  · rw [List.getElem?_set_ne e] at hj
    obtain ⟨w, g1, g2⟩ := h1 j b hj hb
    refine ⟨w, ?_, g2⟩
    have hne : Nat.beq i j = false := by
      cases q : Nat.beq i j with
      | false => rfl
      | true => exact absurd (Nat.eq_of_beq_eq_true q) e
    simp only [p_s2, p_lk, hne, Bool.false_eq_true, if_false]
    refine p_lk_fil g1 ?_
    have c1 : (j == i) = false := by simp [Ne.symm e]
    have c0 : (j == i + 1) = false := by simp [Ne.symm e2]
    by_cases c2 : j + 1 = i
    · have c3 := h2 j b w hj hb g1 c2
      simp [c1, c0, c2, c3]
    · simp [c1, c0, c2]
/-- the heap is as it was -/
theorem x_go (hJ : x_J E f τ0 h0 τ h) (hO : x_O E τ r h0 h ls st (n, F, L, S, Me, u, w)) {out : Option p_O} {pc' n' : Nat} {F' : q_F} {L' S' : List x_V} {ls' : p_Ls} {st' : List Value} {r' : Nat → Int} (ho : out = some (.inl (pc', ls', st', h))) (hr : ∀ i, i < n → r' i = r i) (hn : n ≤ n') (wF : q_wF n' F') (hF : q_FO r' F') (hL : x_Ls τ r' n' L' ls') (hS : x_vs τ r' n' S' st') {outs : List (Nat × x_S)} (hm : (pc', n', F', L', S', Me, u, w) ∈ outs) : x_Res E f τ0 h0 τ r n out outs := by
  obtain ⟨o1, o2, o3, o4, o5, o6, o7, o8, o9⟩ := hO
  refine ⟨_, hm, ls', st', h, r', ho, hr, hn, hJ, wF, hF, hL, hS, fun m hm => (o5 m hm).moved hr hn (fun _ _ q => q), o6.mono hn, ?_, o8.mono hn, ?_⟩
  · show (h.length : Int) ≤ h0.length + q_e r' u
    rw [q_e_eq o6 hr]; exact o7
  · show (p_sl h : Int) ≤ p_sl h0 + q_e r' w
    rw [q_e_eq o8 hr]; exact o9
theorem x_numI (hJ : x_J E f τ0 h0 τ h) (hO : x_O E τ r h0 h ls st (n, F, L, S, Me, u, w)) {out : Option p_O} {pc' : Nat} {o : x_N} {x : Int32} {S' : List x_V} {st' : List Value} (hN : x_NR n r o x.toInt) (hS : x_vs τ r n S' st') (ho : out = some (.inl (pc', ls, .int x :: st', h))) {outs : List (Nat × x_S)} (hs : x_num 1 pc' o L S' Me u w = some outs) : x_Res E f τ0 h0 τ r n out outs := by
  cases hs
  obtain ⟨r', g1, g2, g3, g4, g5, g6⟩ := hN
  exact x_go (S' := (1, 0, o.2.2) :: S') hJ hO ho g1 g2 g3 g4 ((show x_Ls τ r n L ls from hO.2.2.1).moved g1 g2) ⟨⟨g5, x, rfl, g6.symm⟩, hS.moved g1 g2 (fun _ _ q => q)⟩ List.mem_cons_self
theorem x_numL (hJ : x_J E f τ0 h0 τ h) (hO : x_O E τ r h0 h ls st (n, F, L, S, Me, u, w)) {out : Option p_O} {pc' : Nat} {o : x_N} {x : Int64} {S' : List x_V} {st' : List Value} (hN : x_NR n r o x.toInt) (hS : x_vs τ r n S' st') (ho : out = some (.inl (pc', ls, .long x :: st', h))) {outs : List (Nat × x_S)} (hs : x_num 2 pc' o L S' Me u w = some outs) : x_Res E f τ0 h0 τ r n out outs := by
  cases hs
  obtain ⟨r', g1, g2, g3, g4, g5, g6⟩ := hN
  exact x_go (S' := (2, 0, o.2.2) :: S') hJ hO ho g1 g2 g3 g4 ((show x_Ls τ r n L ls from hO.2.2.1).moved g1 g2) ⟨⟨g5, x, rfl, g6.symm⟩, hS.moved g1 g2 (fun _ _ q => q)⟩ List.mem_cons_self
/-- only the stack is another -/
theorem x_stk (hJ : x_J E f τ0 h0 τ h) (hO : x_O E τ r h0 h ls st (n, F, L, S, Me, u, w)) {out : Option p_O} {pc' : Nat} {S' : List x_V} {st' : List Value} (hS : x_vs τ r n S' st') (ho : out = some (.inl (pc', ls, st', h))) {outs : List (Nat × x_S)} (hs : x_out pc' n F L S' Me u w = some outs) : x_Res E f τ0 h0 τ r n out outs := by
  cases hs
  exact x_go hJ hO ho (fun _ _ => rfl) (Nat.le_refl n) hO.1 hO.2.1 hO.2.2.1 hS List.mem_cons_self
theorem x_getv (hJ : x_J E f τ0 h0 τ h) (hO : x_O E τ r h0 h ls st (n, F, L, S, Me, u, w)) {t t' k pc' : Nat} (ht : (t = 1 ∧ t' = 0) ∨ (t = 2 ∧ t' = 1) ∨ (t = 3 ∧ t' = 2)) {outs : List (Nat × x_S)} (hs : x_get k t pc' n F L S Me u w = some outs) : x_Res E f τ0 h0 τ r n (p_ld k t' pc' ls st h) outs := by
  simp only [x_get] at hs
  split at hs
  · next a ha =>
    split at hs
    · next hg =>
      rw [Bool.or_eq_true, Bool.and_eq_true] at hg
      have ha0 : a.1 ≠ 0 := by
        intro q
        rw [q] at hg
        rcases ht with ⟨rfl, -⟩ | ⟨rfl, -⟩ | ⟨rfl, -⟩ <;> simp at hg
      obtain ⟨v, h1, h2⟩ := hO.2.2.1 k a ha ha0
      have hS : x_vs τ r n (a :: S) (v :: st) := ⟨h2, hO.2.2.2.1⟩
      refine x_stk hJ hO hS ?_ hs
      obtain ⟨-, h3⟩ := h2
      rcases ht with ⟨rfl, rfl⟩ | ⟨rfl, rfl⟩ | ⟨rfl, rfl⟩
      · rcases hg with g | g
        · have e := Nat.eq_of_beq_eq_true g
          simp only [← e] at h3
          obtain ⟨x, rfl, -⟩ := h3
          simp only [p_ld, h1]; rfl
        · simp at g
      · rcases hg with g | g
        · have e := Nat.eq_of_beq_eq_true g
          simp only [← e] at h3
          obtain ⟨x, rfl, -⟩ := h3
          simp only [p_ld, h1]; rfl
        · simp at g
      · rcases hg with g | g
        · have e := Nat.eq_of_beq_eq_true g
          simp only [← e] at h3
          obtain ⟨x, rfl, -⟩ := h3
          simp only [p_ld, h1]; rfl
        · have e := Nat.eq_of_beq_eq_true g.2
          simp only [e] at h3
          subst h3
          simp only [p_ld, h1]; rfl
    · cases hs
  · cases hs
end XS

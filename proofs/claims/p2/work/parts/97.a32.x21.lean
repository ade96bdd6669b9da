def k_row (b : Nat → Nat) (n : Nat) (R : Nat → Int) (c : Nat) (e : Nat × Nat) : Prop := e.1 ≤ 9 ∧ R (7 * c) = (e.1 : Int) ∧ ∀ i v : Nat, (t_cn b n e)[i]? = some v → R (7 * c + 1 + i) = (v : Int)
def k_laws (t : Nat → Option p_C) (s : d_S) (b : Nat → Nat) (n : Nat) (L : List (Nat × Nat)) : Prop := ∀ k, k < 3 → ((∀ e, e ∈ L → e.1 ≠ k) → s.2.1 43 (11 + k) = none) ∧ ∀ e, e ∈ L → e.1 = k → ∃ a C len, s.2.1 43 (11 + k) = some a ∧ m_C t a C len ∧ ∀ ν, t_bn ν → c_Sg ν C 0 len (t_V b n (Nat.beq k 1) ν 4000 2 0 0 e.2 0) 19
def k_g (s s' : d_S) : Prop := (∀ a, a ≠ 43 → a ≠ 45 → a ≠ 46 → s'.1 a = s.1 a) ∧ (∀ a, a ≠ 43 → s'.2.1 a = s.2.1 a) ∧ s'.2.2 = s.2.2
def k_I (s0 : d_S) (b : Nat → Nat) (n p o : Nat) (L : List (Nat × Nat)) (t : Nat → Option p_C) (s : d_S) : Prop := k_T b n p s ∧ (s.1 43 9 = (L.length : Int) ∧ s.1 43 17 = 0 ∧ s.1 43 2 = 0 ∧ s.1 43 3 = -1) ∧ (∀ c e, L[c]? = some e → k_row b n (s.1 45) c e) ∧ k_laws t s b n L ∧ t_LO L o ∧ L.length ≤ 24 ∧ k_g s0 s
def t_po (o : Nat) : Nat := o % 2 + o / 2 % 2 + o / 4 % 2
theorem t_po_3 (o : Nat) : t_po o ≤ 3 := by unfold t_po; omega
theorem t_po_law : ∀ o, o < 8 → ∀ w, w < 3 → ¬ o / 2 ^ w % 2 = 1 → t_po (o + 2 ^ w) = t_po o + 1 := by decide
section X21
variable {s0 s s1 s' : d_S} {t t' : Nat → Option p_C} {h : p_H} {b : Nat → Nat} {n p w o m : Nat} {L : List (Nat × Nat)}
theorem k_g.rf : k_g s s := ⟨fun _ _ _ _ => rfl, fun _ _ => rfl, rfl⟩
theorem k_g.tr (h : k_g s s1) (h' : k_g s1 s') : k_g s s' := ⟨fun a x y z => (h'.1 a x y z).trans (h.1 a x y z), fun a z => (h'.2.1 a z).trans (h.2.1 a z), h'.2.2.trans h.2.2⟩
theorem k_q.g {L : List Nat} (h : k_q L s s') : k_g s s' := ⟨fun a x _ z => h.2.1 a x z, h.2.2.1, h.2.2.2⟩
theorem k_j.g {L : List Nat} (h : k_j L s s') : k_g s s' := ⟨fun a x y _ => h.2.1 a x y, fun a _ => by rw [h.2.2], by rw [h.2.2]⟩
theorem k_f.g {L : List Nat} (h : k_f L s s') : k_g s s' := h.j.g
theorem m_C.le {a len : Nat} {C : Nat → Nat × Nat} (h : m_C t a C len) (ht : v_tle t t') : m_C t' a C len := by
  obtain ⟨h1, h2, vs, h3, h4⟩ := h
  exact ⟨h1, h2, vs, ht _ _ h3, h4⟩
theorem k_laws.le (h : k_laws t s b n L) (ht : v_tle t t') (he : s'.2.1 43 = s.2.1 43) : k_laws t' s' b n L := by
  intro k hk
  obtain ⟨h1, h2⟩ := h k hk
  rw [he]
  refine ⟨h1, fun e he1 he2 => ?_⟩
  obtain ⟨a, C, len, g1, g2, g3⟩ := h2 e he1 he2
  exact ⟨a, C, len, g1, g2.le ht, g3⟩
theorem k_row.keep {R R' : Nat → Int} {c : Nat} {e : Nat × Nat} (h : k_row b n R c e) (h1 : ∀ j, 7 * c ≤ j → j < 7 * c + 7 → R' j = R j) : k_row b n R' c e := by
  obtain ⟨a0, a1, a2⟩ := h
  have hl := t_cn_len (b := b) (n := n) a0
  have h6 := v_np_6 e.1 (by omega)
  refine ⟨a0, by rw [h1 _ (by omega) (by omega)]; exact a1, fun i v hv => ?_⟩
  have : i < (t_cn b n e).length := by
    by_cases q : i < (t_cn b n e).length
    · exact q
    · rw [List.getElem?_eq_none (by omega)] at hv; cases hv
  rw [h1 _ (by omega) (by omega)]
  exact a2 i v hv
theorem H_cw (hT : k_T b n p s) (hp : p ≤ n) (k1 : t_k b n p = 1) : (s.1 43 7 = -1 ∨ ∃ k : Nat, k < 22 ∧ s.1 43 7 = (k : Int)) ∧ (∀ k : Nat, k ≤ 9 → s.1 43 7 = (k : Int) → t_cw b n p = k) ∧ ((∀ k : Nat, k ≤ 9 → s.1 43 7 ≠ (k : Int)) → t_cw b n p = 10) := by
  have e6 : s.1 43 6 = 1 := by rw [hT.2.1.2.2, k1]; rfl
  obtain ⟨x, hx⟩ : ∃ x, x = s.1 43 7 := ⟨_, rfl⟩
  have H : ∀ j : Nat, j < 22 → (t_wd b n p j = true ↔ x = (j : Int)) := fun j hj => by
    rw [← k_wd hT hp hj, hx]
    exact ⟨fun z => z.2, fun z => ⟨e6, z⟩⟩
  rw [← hx]
  refine ⟨?_, ?_, ?_⟩
  · rcases hT.2.2.1 k1 with ⟨k, a1, a2, a3⟩ | ⟨a2, a3⟩
    · exact Or.inr ⟨k, a1, by rw [hx]; exact a3⟩
    · exact Or.inl (by rw [hx]; exact a3)
  · intro k hk hxk
    have H' : ∀ j : Nat, j < 22 → (t_wd b n p j = true ↔ k = j) := fun j hj => by rw [H j hj, hxk]; omega
    unfold t_cw
    simp only [H' 0 (by decide), H' 1 (by decide), H' 2 (by decide), H' 3 (by decide), H' 4 (by decide), H' 5 (by decide), H' 6 (by decide), H' 8 (by decide), H' 9 (by decide), H' 7 (by decide)]
    repeat' split
    all_goals omega
  · intro hno
    have no : ∀ j : Nat, j ≤ 9 → ¬ t_wd b n p j = true := fun j hj e => hno j hj ((H j (by omega)).1 e)
    unfold t_cw
    rw [if_neg (no 0 (by decide)), if_neg (no 1 (by decide)), if_neg (no 2 (by decide)), if_neg (no 3 (by decide)), if_neg (no 4 (by decide)), if_neg (no 5 (by decide)), if_neg (no 6 (by decide)), if_neg (no 8 (by decide)), if_neg (no 9 (by decide)), if_neg (no 7 (by decide))]
def H_Q (s0 : d_S) (b : Nat → Nat) (n p o : Nat) (L : List (Nat × Nat)) (t : Nat → Option p_C) (h : p_H) (r : Nat × Nat) (v : Option Value) (h2 : p_H) : Prop := ∃ t2 s2 g, v = some (.int (Int32.ofInt (v_b (r.1 = 0)))) ∧ d_V t2 h2 s2 ∧ v_tle t t2 ∧ k_g s0 s2 ∧ s2.1 43 1 = (n : Int) ∧ h2.length ≤ h.length + g ∧ p_sl h2 ≤ p_sl h + 600 * g ∧ t_po o + g ≤ 3 ∧ (r.1 ≠ 0 → s2.1 43 2 = (r.1 : Int) ∧ s2.1 43 3 = (r.2 : Int)) ∧ (r.1 = 0 → L.length < 24 ∧ t_po (if t_cw b n p < 3 then o + 2 ^ t_cw b n p else o) = t_po o + g ∧ k_I s0 b n r.2 (if t_cw b n p < 3 then o + 2 ^ t_cw b n p else o) (L ++ [(t_cw b n p, t_x b n p)]) t2 s2)
theorem H_wrong {r : Nat × Nat} {f : Nat} (hH : d_V t h s) (hT : k_T b n p s) (hg : k_g s0 s) (hr : r = (f, p)) (hf : f ≠ 0) {v : Int} {s2 : d_S} {h2 : p_H} (hH2 : d_V t h2 s2) (hF : F_X3_wrong s (f : Int) = some (v, s2)) : v = 0 ∧ H_Q s0 b n p o L t h r (some (.int (Int32.ofInt v))) h2 := by
  obtain ⟨s', a1, a2, a3, a4⟩ := P_wrong (s := s) (p := p) (f := (f : Int)) hT.2.1.2.1
  rw [hF] at a1
  have := Option.some.inj a1
  injection this with z1 z2
  subst z1
  subst z2
  have h1 := y_len hH hH2
  have h2 := y_sl hH hH2
  refine ⟨rfl, t, _, 0, by rw [hr, v_bf hf], hH2, fun _ _ q => q, hg.tr a4.g, by rw [a4.1 1 (by decide)]; exact hT.1.1, by omega, by omega, t_po_3 o, fun _ => by rw [hr]; exact ⟨a2, a3⟩, fun q => absurd (by rw [hr] at q; exact q) hf⟩
end X21

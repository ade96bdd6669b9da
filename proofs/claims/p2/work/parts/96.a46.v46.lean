noncomputable def v_ct (Q : Nat → Prop) : Nat → Nat
  | 0 => 0
  | k + 1 => v_ct Q k + (@ite _ (Q k) (Classical.propDecidable _) 1 0)
def v_ah (P : Nat → Int) (c b : Nat) : Prop := P b < P c ∨ (P c = P b ∧ c < b)
section V46
variable {Q R : Nat → Prop} {P : Nat → Int} {k : Nat}
theorem v_ct_s (h : Q k) : v_ct Q (k + 1) = v_ct Q k + 1 := by simp only [v_ct]; rw [if_pos h]
theorem v_ct_n (h : ¬ Q k) : v_ct Q (k + 1) = v_ct Q k := by simp only [v_ct]; rw [if_neg h]; rfl
theorem v_ct_le : ∀ k, (∀ c, c < k → Q c → R c) → v_ct Q k ≤ v_ct R k := by
  intro k
  induction k with
  | zero => intro _; exact Nat.le_refl 0
  | succ k ih =>
    intro h
    have h1 := ih (fun c hc => h c (by omega))
    by_cases q : Q k
    · rw [v_ct_s q, v_ct_s (h k (by omega) q)]; omega
    · rw [v_ct_n q]
      by_cases r : R k
      · rw [v_ct_s r]; omega
      · rw [v_ct_n r]; exact h1
theorem v_ct_lt : ∀ k, (∀ c, c < k → Q c → R c) → (∃ c, c < k ∧ R c ∧ ¬ Q c) → v_ct Q k < v_ct R k := by
  intro k
  induction k with
  | zero => rintro _ ⟨c, h, -⟩; omega
  | succ k ih =>
    rintro h ⟨c, h1, h2, h3⟩
    have h0 := v_ct_le k (fun c hc => h c (by omega))
    by_cases e : c = k
    · rw [e] at h2 h3
      rw [v_ct_n h3, v_ct_s h2]; omega
    · have := ih (fun c hc => h c (by omega)) ⟨c, by omega, h2, h3⟩
      by_cases q : Q k
      · rw [v_ct_s q, v_ct_s (h k (by omega) q)]; omega
      · rw [v_ct_n q]
        by_cases r : R k
        · rw [v_ct_s r]; omega
        · rw [v_ct_n r]; exact this
theorem v_ct_cg (h : ∀ c, c < k → (Q c ↔ R c)) : v_ct Q k = v_ct R k :=
  Nat.le_antisymm (v_ct_le k (fun c hc => (h c hc).1)) (v_ct_le k (fun c hc => (h c hc).2))
theorem v_ct_b : ∀ k, v_ct Q k ≤ k := by
  intro k
  induction k with
  | zero => exact Nat.le_refl 0
  | succ k ih =>
    by_cases q : Q k
    · rw [v_ct_s q]; omega
    · rw [v_ct_n q]; omega
theorem v_ct_0 (h : ∀ c, c < k → ¬ Q c) : v_ct Q k = 0 := by
  induction k with
  | zero => rfl
  | succ k ih => rw [v_ct_n (h k (by omega))]; exact ih (fun c hc => h c (by omega))
theorem v_ct_add {b : Nat} (hb : ¬ Q b) : ∀ k, b < k → (∀ c, R c ↔ (Q c ∨ c = b)) → v_ct R k = v_ct Q k + 1 := by
  intro k
  induction k with
  | zero => intro h; omega
  | succ k ih =>
    intro h hR
    by_cases e : b = k
    · rw [v_ct_s ((hR k).2 (Or.inr e.symm)), v_ct_n (by rw [← e]; exact hb)]
      rw [v_ct_cg (R := Q) (fun c hc => (hR c).trans ⟨fun h => h.elim id (fun h => by omega), Or.inl⟩)]
    · have := ih (by omega) hR
      by_cases q : Q k
      · rw [v_ct_s q, v_ct_s ((hR k).2 (Or.inl q))]; omega
      · rw [v_ct_n q, v_ct_n (fun h => ((hR k).1 h).elim q (fun h => e h.symm))]; exact this
theorem v_ah_t {a b c : Nat} (h : v_ah P a b) (h' : v_ah P b c) : v_ah P a c := by
  unfold v_ah at *; omega
theorem v_ah_i {a : Nat} : ¬ v_ah P a a := by unfold v_ah; omega
theorem v_ah_c {a b : Nat} (h : ¬ a = b) : v_ah P a b ∨ v_ah P b a := by unfold v_ah; omega
theorem v_ah_r {a b : Nat} (h : v_ah P a b) (ha : a < k) : v_ct (fun c => v_ah P c a) k < v_ct (fun c => v_ah P c b) k :=
  v_ct_lt k (fun c _ hc => v_ah_t hc h) ⟨a, ha, h, v_ah_i⟩
end V46

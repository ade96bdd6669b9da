/-! THE TAPE'S TOKENS: a loop over bytes q, q + 1, .. below n while g holds -/
def t_it {α : Type} (n : Nat) (g : Nat → Bool) (s : Nat → α → α) : Nat → Nat → α → Nat × α
  | 0, q, a => (q, a)
  | f + 1, q, a => if q < n ∧ g q = true then t_it n g s f (q + 1) (s q a) else (q, a)
def t_lp {α : Type} (n : Nat) (g : Nat → Bool) (s : Nat → α → α) (q : Nat) (a : α) : Nat × α := t_it n g s (n - q) q a
theorem t_lp_go {α : Type} {n : Nat} {g : Nat → Bool} {s : Nat → α → α} {q : Nat} {a : α} (h : q < n) (hg : g q = true) : t_lp n g s q a = t_lp n g s (q + 1) (s q a) := by
  unfold t_lp
  rw [show n - q = (n - (q + 1)) + 1 by omega]
  simp only [t_it]
  rw [if_pos ⟨h, hg⟩]
theorem t_lp_no {α : Type} {n : Nat} {g : Nat → Bool} {s : Nat → α → α} {q : Nat} {a : α} (h : ¬ (q < n ∧ g q = true)) : t_lp n g s q a = (q, a) := by
  unfold t_lp
  cases n - q with
  | zero => rfl
  | succ f => simp only [t_it]; rw [if_neg h]
theorem t_lp_le {α : Type} {n : Nat} {g : Nat → Bool} {s : Nat → α → α} : ∀ (j q : Nat) (a : α), q + j = n → q ≤ (t_lp n g s q a).1 ∧ (t_lp n g s q a).1 ≤ n := by
  intro j
  induction j with
  | zero => intro q a h; rw [t_lp_no (fun e => absurd e.1 (by omega))]; simp only; omega
  | succ j ih =>
    intro q a h
    by_cases e : q < n ∧ g q = true
    · rw [t_lp_go e.1 e.2]
      have := ih (q + 1) (s q a) (by omega)
      omega
    · rw [t_lp_no e]; simp only; omega
/-- where a loop ends hangs on where it goes alone -/
theorem t_lp_fst {α β : Type} {n : Nat} {g : Nat → Bool} {s : Nat → α → α} {s' : Nat → β → β} : ∀ (j q : Nat) (a : α) (c : β), q + j = n → (t_lp n g s q a).1 = (t_lp n g s' q c).1 := by
  intro j
  induction j with
  | zero => intro q a c h; rw [t_lp_no (fun e => absurd e.1 (by omega)), t_lp_no (fun e => absurd e.1 (by omega))]
  | succ j ih =>
    intro q a c h
    by_cases e : q < n ∧ g q = true
    · rw [t_lp_go e.1 e.2, t_lp_go e.1 e.2]; exact ih _ _ _ (by omega)
    · rw [t_lp_no e, t_lp_no e]
def t_al (c : Nat) : Bool := (Nat.ble 97 c && Nat.ble c 122) || (Nat.ble 65 c && Nat.ble c 90)
def t_fi (c : Nat) : Bool := Nat.ble 48 c && Nat.ble c 57
def t_bl (c : Nat) : Bool := Nat.beq c 32 || Nat.beq c 10
/-- the first byte from q on that is no blank -/
def t_sk (b : Nat → Nat) (n q : Nat) : Nat := (t_lp n (fun q => t_bl (b q)) (fun _ (_ : Unit) => ()) q ()).1
/-- 0 the end, 1 a word, 2 a number, 3 a sign -/
def t_k (b : Nat → Nat) (n p : Nat) : Nat := if p < n then (if t_al (b p) then 1 else if t_fi (b p) then 2 else 3) else 0
def t_ns (b : Nat → Nat) (q v : Nat) : Nat := if 99999 < v then v else 10 * v + b q - 48
def t_wst (b : Nat → Nat) (q v : Nat) : Nat := if 2 ^ 48 ≤ v then 2 ^ 60 else 256 * v + b q
def t_nl (b : Nat → Nat) (n p : Nat) : Nat × Nat := t_lp n (fun q => t_fi (b q)) (t_ns b) p 0
def t_wl (b : Nat → Nat) (n p : Nat) : Nat × Nat := t_lp n (fun q => t_al (b q)) (t_wst b) p 0
/-- a number, a word -/
def t_n (b : Nat → Nat) (n p : Nat) : Nat := (t_nl b n p).2
def t_w (b : Nat → Nat) (n p : Nat) : Nat := (t_wl b n p).2
/-- the end of the token at p; the next one -/
def t_e (b : Nat → Nat) (n p : Nat) : Nat := match t_k b n p with
  | 0 => p
  | 1 => (t_wl b n p).1
  | 2 => (t_nl b n p).1
  | _ => p + 1
def t_x (b : Nat → Nat) (n p : Nat) : Nat := t_sk b n (t_e b n p)
theorem t_sk_le {b : Nat → Nat} {n q : Nat} (h : q ≤ n) : q ≤ t_sk b n q ∧ t_sk b n q ≤ n := t_lp_le (n - q) q () (by omega)
theorem t_k_end {b : Nat → Nat} {n p : Nat} (h : ¬ p < n) : t_k b n p = 0 := by unfold t_k; rw [if_neg h]
theorem t_k_w {b : Nat → Nat} {n p : Nat} (h : p < n) (h1 : t_al (b p) = true) : t_k b n p = 1 := by unfold t_k; rw [if_pos h, if_pos h1]
theorem t_k_n {b : Nat → Nat} {n p : Nat} (h : p < n) (h1 : t_al (b p) = false) (h2 : t_fi (b p) = true) : t_k b n p = 2 := by unfold t_k; rw [if_pos h, if_neg (by rw [h1]; decide), if_pos h2]
theorem t_k_s {b : Nat → Nat} {n p : Nat} (h : p < n) (h1 : t_al (b p) = false) (h2 : t_fi (b p) = false) : t_k b n p = 3 := by unfold t_k; rw [if_pos h, if_neg (by rw [h1]; decide), if_neg (by rw [h2]; decide)]
theorem t_al_fi {c : Nat} (h : t_fi c = true) : t_al c = false := by
  unfold t_fi at h; unfold t_al
  rw [Bool.and_eq_true] at h
  have h1 := Nat.le_of_ble_eq_true h.1
  have h2 := Nat.le_of_ble_eq_true h.2
  rw [show Nat.ble 97 c = false from Bool.eq_false_iff.mpr (fun q => by have := Nat.le_of_ble_eq_true q; omega), show Nat.ble 65 c = false from Bool.eq_false_iff.mpr (fun q => by have := Nat.le_of_ble_eq_true q; omega)]
  rfl
/-- a token goes on by one byte at least, and within the tape -/
theorem t_e_lt {b : Nat → Nat} {n p : Nat} (h : p < n) : p < t_e b n p ∧ t_e b n p ≤ n := by
  unfold t_e
  cases h1 : t_al (b p) with
  | true =>
    rw [t_k_w h h1]
    simp only
    unfold t_wl
    rw [t_lp_go h h1]
    have := t_lp_le (n := n) (g := fun q => t_al (b q)) (s := t_wst b) (n - (p + 1)) (p + 1) (t_wst b p 0) (by omega)
    omega
  | false => cases h2 : t_fi (b p) with
    | true =>
      rw [t_k_n h h1 h2]
      simp only
      unfold t_nl
      rw [t_lp_go h h2]
      have := t_lp_le (n := n) (g := fun q => t_fi (b q)) (s := t_ns b) (n - (p + 1)) (p + 1) (t_ns b p 0) (by omega)
      omega
    | false => rw [t_k_s h h1 h2]; simp only; omega
theorem t_x_lt {b : Nat → Nat} {n p : Nat} (h : p < n) : p < t_x b n p ∧ t_x b n p ≤ n := by
  have h1 := t_e_lt (b := b) h
  have h2 := t_sk_le (b := b) h1.2
  unfold t_x
  omega
/-- the reference's token number: what it tells -/
def t_R (t : Nat) (b : Nat → Nat) (n p : Nat) : Prop := (t = 0 ↔ t_k b n p = 0) ∧ (t = 1 ↔ t_k b n p = 2) ∧ (t = 2 ↔ t_k b n p = 1) ∧ ∀ c, (c = 40 ∨ c = 41 ∨ c = 42 ∨ c = 43 ∨ c = 44 ∨ c = 45 ∨ c = 47 ∨ c = 58 ∨ c = 59) → (t = c ↔ t_k b n p = 3 ∧ b p = c)

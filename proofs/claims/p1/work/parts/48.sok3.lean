/-! Trees, cells, variables -/
theorem s_gb {α : Type} {p n : Nat} {l r : Lean.RArray α} : (Lean.RArray.branch p l r).get n = if p ≤ n then r.get n else l.get n := by
  show Bool.rec (motive := fun _ => α) (l.get n) (r.get n) (Nat.ble p n) = _
  cases h : Nat.ble p n with
  | true => rw [if_pos (Nat.le_of_ble_eq_true h)]
  | false => rw [if_neg (fun q => by rw [Nat.ble_eq_true_of_le q] at h; cases h)]
theorem s_gl {α : Type} {n : Nat} {x : α} : (Lean.RArray.leaf x).get n = x := rfl
theorem s_leaf0_ok {α : Type} {n lo hi : Nat} {v x : α} {K : Lean.RArray α → Bool} (h1 : lo ≤ n) (h2 : hi = 0 ∨ n < hi) : ∃ t, s_leaf0 n v x lo hi K = K t ∧ ∀ m, lo ≤ m → (hi = 0 ∨ m < hi) → t.get m = if m = n then v else x := by
  unfold s_leaf0
  have e3 : ∀ m, (Lean.RArray.branch n (.leaf x) (.branch (Nat.succ n) (.leaf v) (.leaf x))).get m = if m = n then v else x := by
    intro m
    rw [s_gb, s_gb]
    split
    · split
      · rw [if_neg (by omega)]
      · rw [if_pos (by omega)]
    · rw [if_neg (by omega)]
  cases ha : Nat.beq lo n with
  | true =>
    have e1 := Nat.eq_of_beq_eq_true ha
    cases hb : Nat.beq (Nat.succ n) hi with
    | true =>
      have e2 := Nat.eq_of_beq_eq_true hb
      exact ⟨.leaf v, rfl, fun m g1 g2 => by rw [s_gl, if_pos (by omega)]⟩
    | false =>
      refine ⟨_, rfl, fun m g1 g2 => ?_⟩
      rw [s_gb]
      split
      · rw [if_neg (by omega)]
      · rw [if_pos (by omega)]
  | false =>
    cases hb : Nat.beq (Nat.succ n) hi with
    | true =>
      have e2 := Nat.eq_of_beq_eq_true hb
      refine ⟨_, rfl, fun m g1 g2 => ?_⟩
      rw [s_gb]
      split
      · rw [if_pos (by omega)]
      · rw [if_neg (by omega)]
    | false => exact ⟨_, rfl, fun m _ _ => e3 m⟩
/-- a place of a tree is written -/
theorem s_lfr_ok {α : Type} {n : Nat} {v x : α} : ∀ (f : Nat) {lo hi : Nat} {K : Lean.RArray α → Bool}, lo ≤ n → n < hi → ∃ t, s_lfr n v x f lo hi K = K t ∧ ∀ m, lo ≤ m → m < hi → t.get m = if m = n then v else x := by
  intro f
  induction f with
  | zero =>
    intro lo hi K h1 h2
    obtain ⟨t, g1, g2⟩ := s_leaf0_ok (v := v) (x := x) (K := K) h1 (Or.inr h2)
    exact ⟨t, g1, fun m a b => g2 m a (Or.inr b)⟩
  | succ f ih =>
    intro lo hi K h1 h2
    have e : s_lfr n v x (f + 1) lo hi K = s_if (Nat.beq hi (Nat.succ lo)) (K (.leaf v)) (s_fn (s_lf2 n x (s_lfr n v x f) lo hi K) (Nat.div (Nat.add lo hi) 2)) := rfl
    rw [e, s_fn_eq]
    cases hb : Nat.beq hi (Nat.succ lo) with
    | true =>
      have hb := Nat.eq_of_beq_eq_true hb
      refine ⟨.leaf v, rfl, fun m a b => ?_⟩
      rw [s_gl, if_pos (by omega)]
    | false =>
      have hb : ¬ hi = lo + 1 := fun h => by rw [h] at hb; exact absurd (Nat.beq_refl (lo + 1)) (by rw [hb]; decide)
      have hm : Nat.div (Nat.add lo hi) 2 = (lo + hi) / 2 := rfl
      rw [hm]
      show ∃ t, s_lf2 n x (s_lfr n v x f) lo hi K ((lo + hi) / 2) = K t ∧ _
      have e2 : s_lf2 n x (s_lfr n v x f) lo hi K ((lo + hi) / 2) = s_if (Nat.ble ((lo + hi) / 2) n) (s_lfr n v x f ((lo + hi) / 2) hi (s_brr ((lo + hi) / 2) (.leaf x) K)) (s_lfr n v x f lo ((lo + hi) / 2) (s_brl ((lo + hi) / 2) (.leaf x) K)) := rfl
      rw [e2]
      cases hc : Nat.ble ((lo + hi) / 2) n with
      | true =>
        have hc := Nat.le_of_ble_eq_true hc
        obtain ⟨t, g1, g2⟩ := ih (lo := (lo + hi) / 2) (hi := hi) (K := s_brr ((lo + hi) / 2) (.leaf x) K) hc h2
        refine ⟨.branch ((lo + hi) / 2) (.leaf x) t, g1, fun m a b => ?_⟩
        rw [s_gb]
        split
        · exact g2 m (by omega) b
        · rw [s_gl, if_neg (by omega)]
      | false =>
        have hc : ¬ (lo + hi) / 2 ≤ n := fun h => by rw [Nat.ble_eq_true_of_le h] at hc; cases hc
        obtain ⟨t, g1, g2⟩ := ih (lo := lo) (hi := (lo + hi) / 2) (K := s_brl ((lo + hi) / 2) (.leaf x) K) h1 (by omega)
        refine ⟨.branch ((lo + hi) / 2) t (.leaf x), g1, fun m a b => ?_⟩
        rw [s_gb]
        split
        · rw [s_gl, if_neg (by omega)]
        · exact g2 m a (by omega)
theorem s_leaf_ok {α : Type} {n lo hi : Nat} {v x : α} {K : Lean.RArray α → Bool} (h1 : lo ≤ n) (h2 : hi = 0 ∨ n < hi) : ∃ t, s_leaf n v x lo hi K = K t ∧ ∀ m, lo ≤ m → (hi = 0 ∨ m < hi) → t.get m = if m = n then v else x := by
  have e : s_leaf n v x lo hi K = s_if (Nat.beq hi 0) (s_leaf0 n v x lo hi K) (s_lfr n v x 40 lo hi K) := rfl
  rw [e]
  cases hb : Nat.beq hi 0 with
  | true => exact s_leaf0_ok h1 h2
  | false =>
    have h0 : hi ≠ 0 := fun h => by rw [h] at hb; cases hb
    obtain ⟨t, g1, g2⟩ := s_lfr_ok 40 (v := v) (x := x) (K := K) h1 (h2.resolve_left h0)
    exact ⟨t, g1, fun m a b => g2 m a (b.resolve_left h0)⟩
theorem s_set_ok {α : Type} {t : Lean.RArray α} {n : Nat} {v : α} {K : Lean.RArray α → Bool} : ∃ t', s_set t n v K = K t' ∧ ∀ m, t'.get m = if m = n then v else t.get m := by
  have key : ∀ (t : Lean.RArray α) (lo hi : Nat) (K : Lean.RArray α → Bool), lo ≤ n → (hi = 0 ∨ n < hi) → ∃ t', Lean.RArray.rec (motive := fun _ => Nat → Nat → (Lean.RArray α → Bool) → Bool) (s_leaf n v) (fun p l r il ir => s_set' n p l r il ir) t lo hi K = K t' ∧ ∀ m, lo ≤ m → (hi = 0 ∨ m < hi) → t'.get m = if m = n then v else t.get m := by
    intro t
    induction t with
    | leaf x =>
      intro lo hi K h1 h2
      exact s_leaf_ok h1 h2
    | branch p l r il ir =>
      intro lo hi K h1 h2
      show ∃ t', s_set' n p l r _ _ lo hi K = K t' ∧ _
      unfold s_set'
      cases hp : Nat.ble p n with
      | true =>
        have hp := Nat.le_of_ble_eq_true hp
        obtain ⟨r', g1, g2⟩ := ir p hi (s_brr p l K) hp h2
        refine ⟨.branch p l r', g1, fun m m1 m2 => ?_⟩
        rw [s_gb, s_gb]
        split
        · next hm => exact g2 m hm m2
        · rw [if_neg (by omega)]
      | false =>
        have hp : n < p := by
          rcases Nat.lt_or_ge n p with g | g
          · exact g
          · rw [Nat.ble_eq_true_of_le g] at hp; cases hp
        obtain ⟨l', g1, g2⟩ := il lo p (s_brl p r K) h1 (Or.inr hp)
        refine ⟨.branch p l' r, g1, fun m m1 m2 => ?_⟩
        rw [s_gb, s_gb]
        split
        · rw [if_neg (by omega)]
        · next hm => exact g2 m m1 (Or.inr (by omega))
  obtain ⟨t', g1, g2⟩ := key t 0 0 K (Nat.zero_le n) (Or.inl rfl)
  exact ⟨t', g1, fun m => g2 m (Nat.zero_le m) (Or.inl rfl)⟩
/-- a cell of the machine is what is known of it -/
def s_cr (θ : Nat → Int32) (c : s_A) (d : p_C) : Prop := d.1 = c.1 ∧ d.2.1 = c.2.1 ∧ d.2.2.length = c.2.2.1 ∧ ∀ i, s_t (c.2.2.2.get i) ≠ 0 → ∃ v, d.2.2[i]? = some v ∧ s_v θ (c.2.2.2.get i) v
def s_hr (θ : Nat → Int32) (H : s_H) (h : p_H) : Prop := h.length = H.2.1 ∧ p_sl h = H.2.2 ∧ ∀ a, (H.1.get a).1 ≠ 9 → ∃ d, h[a]? = some d ∧ s_cr θ (H.1.get a) d
def s_lr (θ : Nat → Int32) (L : s_L) (ls : p_Ls) : Prop := ∀ (i : Nat) (a : s_V), L[i]? = some a → s_t a ≠ 0 → ∃ v, p_lk i ls = some v ∧ s_v θ a v
/-- a value of the stack -/
def s_sv (θ : Nat → Int32) (a : s_V) (v : Value) : Prop := s_t a ≠ 0 ∧ s_v θ a v
def s_sr (θ : Nat → Int32) : s_L → List Value → Prop
  | [], [] => True
  | a :: A, v :: V => s_sv θ a v ∧ s_sr θ A V
  | _, _ => False
section SH
variable {θ : Nat → Int32} {F : s_F} {H : s_H} {h : p_H} {L S : s_L} {ls : p_Ls} {st : List Value}
theorem s_sr_nil (h : s_sr θ [] st) : st = [] := by cases st with
  | nil => rfl
  | cons v V => exact h.elim
theorem s_sr_cons {a : s_V} {A : s_L} (h : s_sr θ (a :: A) st) : ∃ v V, st = v :: V ∧ s_sv θ a v ∧ s_sr θ A V := by cases st with
  | nil => exact h.elim
  | cons v V => exact ⟨v, V, rfl, h⟩
theorem s_p1_ok {k : s_V → s_L → Bool} (hS : s_sr θ S st) (h : s_p1 S k = true) : ∃ a A v V, S = a :: A ∧ st = v :: V ∧ s_sv θ a v ∧ s_sr θ A V ∧ k a A = true := by
  cases S with
  | nil => cases h
  | cons a A =>
    obtain ⟨v, V, rfl, h1, h2⟩ := s_sr_cons hS
    exact ⟨a, A, v, V, rfl, rfl, h1, h2, h⟩
theorem s_p2_ok {k : s_V → s_V → s_L → Bool} (hS : s_sr θ S st) (h : s_p2 S k = true) : ∃ a b A v w V, S = a :: b :: A ∧ st = v :: w :: V ∧ s_sv θ a v ∧ s_sv θ b w ∧ s_sr θ A V ∧ k a b A = true := by
  cases S with
  | nil => cases h
  | cons a A =>
    obtain ⟨v, V, rfl, h1, h2⟩ := s_sr_cons hS
    cases A with
    | nil => cases h
    | cons b A =>
      obtain ⟨w, V, rfl, h3, h4⟩ := s_sr_cons h2
      exact ⟨a, b, A, v, w, V, rfl, rfl, h1, h3, h4, h⟩
theorem s_fv_ok {v : s_V} {K : s_V → Bool} (h : s_fv v K = true) : s_t v ≠ 0 ∧ K v = true := by
  cases v with
  | inl z => exact ⟨by show (1 : Nat) ≠ 0; decide, h⟩
  | inr q =>
    obtain ⟨t, e⟩ := q
    have h : s_and (Nat.ble 1 t) (K (.inr (t, e))) = true := h
    rw [s_and_iff] at h
    have := Nat.le_of_ble_eq_true h.1
    exact ⟨by show t ≠ 0; omega, h.2⟩
/-- the cell of a reference -/
theorem s_ref_ok {o : s_V} {v : Value} {K : Nat → s_A → Bool} (hv : s_v θ o v) (h : s_ref H o K = true) : ∃ a, v = .ref a ∧ K a (H.1.get a) = true := by
  cases o with
  | inl z => cases h
  | inr q =>
    obtain ⟨t, e⟩ := q
    have h : s_and (Nat.ble 16 t) (s_ref' K (t - 16) (H.1.get (t - 16))) = true := h
    rw [s_and_iff] at h
    exact ⟨t - 16, s_v_ref h.1 hv, h.2⟩
theorem s_hr.at (hH : s_hr θ H h) {a s : Nat} (hs : Nat.beq (H.1.get a).1 s = true) (h9 : s ≠ 9) : ∃ d, h[a]? = some d ∧ s_cr θ (H.1.get a) d :=
  hH.2.2 a (by rw [Nat.eq_of_beq_eq_true hs]; exact h9)
theorem s_tnz {v : s_V} (h : Nat.ble 1 (s_t v) = true) : s_t v ≠ 0 := by have := Nat.le_of_ble_eq_true h; omega
/-- a place of a cell is written -/
theorem s_hr.put (hH : s_hr θ H h) {a j : Nat} {d : p_C} {x : s_V} {v : Value} {K : s_H → Bool} (hd : h[a]? = some d) (hc : s_cr θ (H.1.get a) d) (hj : s_t ((H.1.get a).2.2.2.get j) ≠ 0) (hv : s_v θ x v)
    (hk : s_set (H.1.get a).2.2.2 j x (s_upd H a (H.1.get a) K) = true) : ∃ H', K H' = true ∧ s_hr θ H' (h.set a (d.1, d.2.1, d.2.2.set j v)) := by
  obtain ⟨vs, g1, g2⟩ := s_set_ok (t := (H.1.get a).2.2.2) (n := j) (v := x) (K := s_upd H a (H.1.get a) K)
  rw [g1] at hk
  obtain ⟨T, g3, g4⟩ := s_set_ok (t := H.1) (n := a) (v := ((H.1.get a).1, (H.1.get a).2.1, (H.1.get a).2.2.1, vs)) (K := s_hp H K)
  have hk : s_set H.1 a ((H.1.get a).1, (H.1.get a).2.1, (H.1.get a).2.2.1, vs) (s_hp H K) = true := hk
  rw [g3] at hk
  have hal : a < h.length := (List.getElem?_eq_some_iff.mp hd).1
  refine ⟨(T, H.2.1, H.2.2), hk, by simpa using hH.1, ?_, fun b hb => ?_⟩
  · rw [p_sl_set hd (by simp)]; exact hH.2.1
  · show ∃ e, (h.set a _)[b]? = some e ∧ s_cr θ (T.get b) e
    replace hb : (T.get b).1 ≠ 9 := hb
    rw [g4] at hb ⊢
    by_cases e : b = a
    · subst e
      rw [if_pos rfl]
      refine ⟨(d.1, d.2.1, d.2.2.set j v), by rw [List.getElem?_set, if_pos rfl, if_pos hal], hc.1, hc.2.1, by simpa using hc.2.2.1, fun i hi => ?_⟩
      show ∃ w, (d.2.2.set j v)[i]? = some w ∧ s_v θ (vs.get i) w
      replace hi : s_t (vs.get i) ≠ 0 := hi
      rw [g2] at hi ⊢
      by_cases ei : i = j
      · subst ei
        rw [if_pos rfl]
        obtain ⟨w, hw, -⟩ := hc.2.2.2 i hj
        exact ⟨v, List.getElem?_set_self (List.getElem?_eq_some_iff.mp hw).1, hv⟩
      · rw [if_neg ei] at hi ⊢
        obtain ⟨w, hw, hw2⟩ := hc.2.2.2 i hi
        exact ⟨w, by rw [List.getElem?_set_ne (Ne.symm ei)]; exact hw, hw2⟩
    · rw [if_neg e] at hb ⊢
      obtain ⟨e', he, he2⟩ := hH.2.2 b hb
      exact ⟨e', by rw [List.getElem?_set_ne (Ne.symm e)]; exact he, he2⟩
/-- all of a cell is written -/
theorem s_hr.whole (hH : s_hr θ H h) {a : Nat} {d : p_C} {vs : Lean.RArray s_V} {ws : List Value} {K : s_H → Bool} (hd : h[a]? = some d) (hc : s_cr θ (H.1.get a) d) (hl : ws.length = d.2.2.length) (hv : ∀ i, s_t (vs.get i) ≠ 0 → ∃ v, ws[i]? = some v ∧ s_v θ (vs.get i) v)
    (hk : s_upd H a (H.1.get a) K vs = true) : ∃ H', K H' = true ∧ s_hr θ H' (h.set a (d.1, d.2.1, ws)) := by
  obtain ⟨T, g3, g4⟩ := s_set_ok (t := H.1) (n := a) (v := ((H.1.get a).1, (H.1.get a).2.1, (H.1.get a).2.2.1, vs)) (K := s_hp H K)
  have hk : s_set H.1 a ((H.1.get a).1, (H.1.get a).2.1, (H.1.get a).2.2.1, vs) (s_hp H K) = true := hk
  rw [g3] at hk
  have hal : a < h.length := (List.getElem?_eq_some_iff.mp hd).1
  refine ⟨(T, H.2.1, H.2.2), hk, by simpa using hH.1, ?_, fun b hb => ?_⟩
  · rw [p_sl_set hd hl]; exact hH.2.1
  · show ∃ e, (h.set a _)[b]? = some e ∧ s_cr θ (T.get b) e
    replace hb : (T.get b).1 ≠ 9 := hb
    rw [g4] at hb ⊢
    by_cases e : b = a
    · subst e
      rw [if_pos rfl]
      exact ⟨(d.1, d.2.1, ws), by rw [List.getElem?_set, if_pos rfl, if_pos hal], hc.1, hc.2.1, hl.trans hc.2.2.1, hv⟩
    · rw [if_neg e] at hb ⊢
      obtain ⟨e', he, he2⟩ := hH.2.2 b hb
      exact ⟨e', by rw [List.getElem?_set_ne (Ne.symm e)]; exact he, he2⟩
/-- a new cell -/
theorem s_hr.mk (hH : s_hr θ H h) {c : s_A} {d : p_C} {K : s_H → s_V → Bool} (hc : s_cr θ c d) (hk : s_mkc H c K = true) : ∃ H' r, K H' r = true ∧ s_hr θ H' (h ++ [d]) ∧ s_sv θ r (.ref h.length) := by
  unfold s_mkc at hk
  obtain ⟨T, g3, g4⟩ := s_set_ok (t := H.1) (n := H.2.1) (v := c) (K := fun t => s_fn (fun n => s_fn (fun m => s_fn (fun a => K (t, n, m) (.inr (a, .leaf 0))) (16 + H.2.1)) (H.2.2 + c.2.2.1)) (H.2.1 + 1))
  rw [g3, s_fn_eq, s_fn_eq, s_fn_eq] at hk
  refine ⟨_, _, hk, ⟨by simp [hH.1], by rw [p_sl_app, hH.2.1, hc.2.2.1], fun b hb => ?_⟩, ?_, ?_⟩
  · show ∃ e, (h ++ [d])[b]? = some e ∧ s_cr θ (T.get b) e
    replace hb : (T.get b).1 ≠ 9 := hb
    rw [g4] at hb ⊢
    by_cases e : b = H.2.1
    · rw [if_pos e, e, ← hH.1]
      exact ⟨d, by simp, hc⟩
    · rw [if_neg e] at hb ⊢
      obtain ⟨e', he, he2⟩ := hH.2.2 b hb
      have hlt := (List.getElem?_eq_some_iff.mp he).1
      exact ⟨e', by rw [List.getElem?_append_left hlt]; exact he, he2⟩
  · show 16 + H.2.1 ≠ 0; omega
  · rw [show 16 + H.2.1 = H.2.1 + 16 by omega, hH.1]; rfl
/-! variables -/
theorem s_nth_ok {K : s_V → Bool} : ∀ {L : s_L} {k : Nat}, s_nth L k K = true → ∃ a, L[k]? = some a ∧ K a = true := by
  intro L
  induction L with
  | nil => intro k h; cases h
  | cons a A ih =>
    intro k h
    cases k with
    | zero => exact ⟨a, rfl, h⟩
    | succ k =>
      obtain ⟨b, h1, h2⟩ := ih (k := k) h
      exact ⟨b, by simpa using h1, h2⟩
theorem s_padl_get {v : s_V} : ∀ {k i : Nat} {a : s_V}, (s_padl v k)[i]? = some a → s_t a ≠ 0 → i = k ∧ a = v := by
  intro k
  induction k with
  | zero =>
    intro i a h _
    cases i with
    | zero => cases h; exact ⟨rfl, rfl⟩
    | succ i =>
      have h : ([v] : s_L)[i + 1]? = some a := h
      simp at h
  | succ k ih =>
    intro i a h ha
    cases i with
    | zero => cases h; exact absurd rfl ha
    | succ i =>
      have h : (s_padl v k)[i]? = some a := h
      obtain ⟨e1, e2⟩ := ih h ha
      exact ⟨by omega, e2⟩
/-- a variable is written: what it is, the others, and that the one ahead isn't a long -/
theorem s_st_ok {v : s_V} : ∀ {L : s_L} {k : Nat} {K : s_L → Bool}, s_st L k v K = true → ∃ L', K L' = true ∧ ∀ i a, L'[i]? = some a → s_t a ≠ 0 → (i = k ∧ a = v) ∨ (i ≠ k ∧ L[i]? = some a ∧ (i + 1 = k → s_long (s_t a) = false)) := by
  intro L
  induction L with
  | nil =>
    intro k K h
    exact ⟨_, h, fun i a hi ha => Or.inl (s_padl_get hi ha)⟩
  | cons b B ih =>
    intro k K h
    cases k with
    | zero =>
      refine ⟨_, h, fun i a hi ha => ?_⟩
      cases i with
      | zero => cases hi; exact Or.inl ⟨rfl, rfl⟩
      | succ i => exact Or.inr ⟨by omega, by simpa using hi, fun e => by omega⟩
    | succ k =>
      have h : s_and (s_if (Nat.ble 1 k) true (s_if (s_long (s_t b)) false true)) (s_st B k v (s_cons K b)) = true := h
      rw [s_and_iff] at h
      obtain ⟨L', g1, g2⟩ := ih h.2
      refine ⟨b :: L', g1, fun i a hi ha => ?_⟩
      cases i with
      | zero =>
        cases hi
        refine Or.inr ⟨by omega, rfl, fun e => ?_⟩
        have e : k = 0 := by omega
        subst e
        rcases s_if_iff.mp h.1 with ⟨q, -⟩ | ⟨-, q⟩
        · cases q
        · rcases s_if_iff.mp q with ⟨-, q⟩ | ⟨q, -⟩
          · cases q
          · exact q
      | succ i =>
        rcases g2 i a (by simpa using hi) ha with ⟨e1, e2⟩ | ⟨e1, e2, e3⟩
        · exact Or.inl ⟨by omega, e2⟩
        · exact Or.inr ⟨by omega, by simpa using e2, fun q => e3 (by omega)⟩
theorem s_str_ok {v : s_V} : ∀ {L : s_L} {k : Nat} {K : s_L → Bool}, s_str L k v K = true → ∃ L', K L' = true ∧ ∀ i a, L'[i]? = some a → s_t a ≠ 0 → (i = k ∧ a = v) ∨ (i ≠ k ∧ L[i]? = some a) := by
  intro L
  induction L with
  | nil =>
    intro k K h
    exact ⟨_, h, fun i a hi ha => Or.inl (s_padl_get hi ha)⟩
  | cons b B ih =>
    intro k K h
    cases k with
    | zero =>
      refine ⟨_, h, fun i a hi ha => ?_⟩
      cases i with
      | zero => cases hi; exact Or.inl ⟨rfl, rfl⟩
      | succ i => exact Or.inr ⟨by omega, by simpa using hi⟩
    | succ k =>
      have h : s_str B k v (s_cons K b) = true := h
      obtain ⟨L', g1, g2⟩ := ih h
      refine ⟨b :: L', g1, fun i a hi ha => ?_⟩
      cases i with
      | zero => cases hi; exact Or.inr ⟨by omega, rfl⟩
      | succ i =>
        rcases g2 i a (by simpa using hi) ha with ⟨e1, e2⟩ | ⟨e1, e2⟩
        · exact Or.inl ⟨by omega, e2⟩
        · exact Or.inr ⟨by omega, by simpa using e2⟩
theorem p_lk_s1' {ls : p_Ls} {i : Nat} {v : Value} : p_lk i (p_s1 ls i v) = some v := by simp [p_s1, p_lk]
theorem p_lk_s2' {ls : p_Ls} {i : Nat} {v : Value} : p_lk i (p_s2 ls i v) = some v := by simp [p_s2, p_lk]
theorem p_lk_fil' {g : Nat × Value → Bool} {j : Nat} {w : Value} : ∀ {ls : p_Ls}, p_lk j ls = some w → g (j, w) = true → p_lk j (ls.filter g) = some w := by
  intro ls
  induction ls with
  | nil => intro h _; simp [p_lk] at h
  | cons q r ih =>
    intro h hg
    simp only [p_lk] at h
    split at h
    · next e =>
      cases h
      have e1 : q.1 = j := Nat.eq_of_beq_eq_true e
      have hq : g q = true := by rw [← e1] at hg; exact hg
      rw [List.filter_cons_of_pos hq]
      simp only [p_lk, e, if_true]
    · next e =>
      by_cases hq : g q = true
      · rw [List.filter_cons_of_pos hq]
        simp only [p_lk]
        rw [if_neg e]
        exact ih h hg
      · rw [List.filter_cons_of_neg hq]
        exact ih h hg
theorem p_lk_ne {ls : p_Ls} {i j : Nat} {v : Value} (h : i ≠ j) : p_lk j ((i, v) :: ls) = p_lk j ls := by
  simp only [p_lk]
  rw [if_neg]
  intro q
  exact h (Nat.eq_of_beq_eq_true q)
theorem s_cat1 {a : s_V} {v : Value} (h0 : s_t a ≠ 0) (hl : s_long (s_t a) = false) (hv : s_v θ a v) : (v.category == 2) = false := by
  cases a with
  | inl z => rw [hv.2]; rfl
  | inr q =>
    obtain ⟨t, e⟩ := q
    match t, h0, hl, hv with
    | 0, h0, _, _ => exact absurd rfl h0
    | 1, _, _, hv => rw [show v = _ from hv]; rfl
    | 2, _, hl, _ => cases hl
    | 3, _, _, hv => exact hv.elim
    | 4, _, _, hv => rw [show v = _ from hv]; rfl
    | 5, _, hl, _ => cases hl
    | 6, _, _, hv => exact hv.elim
    | 7, _, _, hv => obtain ⟨x, rfl⟩ := hv; rfl
    | 8, _, _, hv => exact hv.elim
    | 9, _, _, hv => exact hv.elim
    | 10, _, _, hv => exact hv.elim
    | 11, _, _, hv => exact hv.elim
    | 12, _, _, hv => exact hv.elim
    | 13, _, _, hv => exact hv.elim
    | 14, _, _, hv => exact hv.elim
    | 15, _, _, hv => exact hv.elim
    | k + 16, _, _, hv => rw [show v = _ from hv]; rfl
/-- a variable of one word -/
theorem s_lr.st1 (hL : s_lr θ L ls) {k : Nat} {x : s_V} {v : Value} {K : s_L → Bool} (hv : s_v θ x v) (h : s_st L k x K = true) : ∃ L', K L' = true ∧ s_lr θ L' (p_s1 ls k v) := by
  obtain ⟨L', g1, g2⟩ := s_st_ok h
  refine ⟨L', g1, fun i a hi ha => ?_⟩
  rcases g2 i a hi ha with ⟨rfl, rfl⟩ | ⟨e1, e2, e3⟩
  · exact ⟨v, p_lk_s1', hv⟩
  · obtain ⟨w, w1, w2⟩ := hL i a e2 ha
    refine ⟨w, ?_, w2⟩
    unfold p_s1
    rw [p_lk_ne (Ne.symm e1)]
    refine p_lk_fil' w1 ?_
    have hn : (i == k) = false := by simp [e1]
    simp only [hn, Bool.not_false, Bool.true_and, Bool.not_eq_true']
    by_cases e4 : i + 1 = k
    · rw [s_cat1 ha (e3 e4) w2, Bool.and_false]
    · have : (i + 1 == k) = false := by simp [e4]
      rw [this, Bool.false_and]
/-- one of two -/
theorem s_lr.st2 (hL : s_lr θ L ls) {k : Nat} {x : s_V} {v : Value} {K : s_L → Bool} (hv : s_v θ x v) (h : s_str L (k + 1) s_u (fun L => s_st L k x K) = true) : ∃ L', K L' = true ∧ s_lr θ L' (p_s2 ls k v) := by
  obtain ⟨L1, f1, f2⟩ := s_str_ok h
  obtain ⟨L', g1, g2⟩ := s_st_ok f1
  refine ⟨L', g1, fun i a hi ha => ?_⟩
  rcases g2 i a hi ha with ⟨rfl, rfl⟩ | ⟨e1, e2, e3⟩
  · exact ⟨v, p_lk_s2', hv⟩
  · rcases f2 i a e2 ha with ⟨rfl, rfl⟩ | ⟨d1, d2⟩
    · exact absurd rfl ha
    · obtain ⟨w, w1, w2⟩ := hL i a d2 ha
      refine ⟨w, ?_, w2⟩
      unfold p_s2
      rw [p_lk_ne (Ne.symm e1)]
      refine p_lk_fil' w1 ?_
      have hn : (i == k) = false := by simp [e1]
      have hn2 : (i == k + 1) = false := by simp [d1]
      simp only [hn, hn2, Bool.not_false, Bool.true_and, Bool.not_eq_true']
      by_cases e4 : i + 1 = k
      · rw [s_cat1 ha (e3 e4) w2, Bool.and_false]
      · have : (i + 1 == k) = false := by simp [e4]
        rw [this, Bool.false_and]
end SH

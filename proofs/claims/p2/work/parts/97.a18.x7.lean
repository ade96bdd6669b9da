abbrev l_zT : Type := Nat × List (Nat × Nat) × (Nat → Int)
def l_zE (z : l_zT) (F : List (Nat × Nat)) : l_zT := (z.1, z.2.1 ++ F, z.2.2)
theorem l_zE_nil (z : l_zT) : l_zE z [] = z := by simp [l_zE]
theorem l_zE_zE (z : l_zT) (F G : List (Nat × Nat)) : l_zE (l_zE z F) G = l_zE z (F ++ G) := by simp [l_zE]
def l_P (f : Nat → Int) : List Nat → Prop
  | [] => True
  | x :: σ => f σ.length = (x : Int) ∧ (x < 8 ∨ (40 ≤ x ∧ x < 43)) ∧ l_P f σ
theorem l_P_set {f : Nat → Int} {v : Int} : ∀ {σ : List Nat} {k : Nat}, σ.length ≤ k → l_P f σ → l_P (d_u f k v) σ := by
  intro σ
  induction σ with
  | nil => intro k _ _; trivial
  | cons x σ ih =>
    intro k hk hp
    have hk : σ.length + 1 ≤ k := hk
    exact ⟨by rw [d_u_n (by omega)]; exact hp.1, hp.2.1, ih (by omega) hp.2.2⟩
def l_E (tv : Nat → Int) (t0 w : Nat) (z : l_zT) : Prop := w = z.1 + z.2.1.length ∧ (∀ i, i < z.2.1.length → ∃ e, z.2.1[i]? = some e ∧ tv (t0 + 169 + 2 * (z.1 + i)) = ((e.1 : Nat) : Int) ∧ tv (t0 + 169 + 2 * (z.1 + i) + 1) = ((e.2 : Nat) : Int) ∧ e.1 < 8 ∧ e.2 < 10000) ∧ ∀ j, j < t0 + 169 + 2 * z.1 ∨ t0 + 777 ≤ j → tv j = z.2.2 j
theorem l_E_put {tv : Nat → Int} {t0 w x y : Nat} {z : l_zT} (h : l_E tv t0 w z) (hw : w ≤ 303) (hx : x < 8) (hy : y < 10000) : l_E (d_u (d_u tv (t0 + 169 + 2 * w) (x : Int)) (t0 + 169 + 2 * w + 1) (y : Int)) t0 (w + 1) (l_zE z [(x, y)]) := by
  obtain ⟨h1, h2, h3⟩ := h
  refine ⟨by simp only [l_zE, List.length_append, List.length_cons, List.length_nil]; omega, fun i hi => ?_, fun j hj => ?_⟩
  · simp only [l_zE, List.length_append, List.length_cons, List.length_nil] at hi ⊢
    by_cases q : i < z.2.1.length
    · obtain ⟨e, e1, e2, e3, e4⟩ := h2 i q
      exact ⟨e, by rw [List.getElem?_append_left q]; exact e1, by rw [d_u_n (by omega), d_u_n (by omega)]; exact e2, by rw [d_u_n (by omega), d_u_n (by omega)]; exact e3, e4⟩
    · have ei : i = z.2.1.length := by omega
      subst ei
      exact ⟨(x, y), by simp, by rw [← h1, d_u_n (by omega), d_u_t], by rw [← h1, d_u_t], hx, hy⟩
  · have hj : j < t0 + 169 + 2 * z.1 ∨ t0 + 777 ≤ j := hj
    show _ = z.2.2 j
    rw [d_u_n (by omega), d_u_n (by omega)]
    exact h3 j hj
def l_Lw : List Nat := [7, 8, 9, 10, 13, 17, 18, 19, 20]
def l_h (s s' : d_S) : Prop := (∀ k, k ∉ l_Lw → s'.1 64 k = s.1 64 k) ∧ (∀ a, a ≠ 64 → a ≠ 67 → a ≠ 69 → a ≠ 70 → s'.1 a = s.1 a) ∧ s'.2.1 = s.2.1 ∧ ∀ k, k ≠ 1011 → s'.2.2 k = s.2.2 k
section X7
variable {s0 s s1 s' : d_S} {b : Nat → Nat} {n p q w so d t0 : Nat} {σ κ : List Nat} {wh : Bool} {z : l_zT} {x : Int}
theorem l_h.rf : l_h s s := ⟨fun _ _ => rfl, fun _ _ _ _ _ => rfl, rfl, fun _ _ => rfl⟩
theorem l_h.tr (h : l_h s s1) (h' : l_h s1 s') : l_h s s' := ⟨fun a z => (h'.1 a z).trans (h.1 a z), fun a y z u v => (h'.2.1 a y z u v).trans (h.2.1 a y z u v), h'.2.2.1.trans h.2.2.1, fun k z => (h'.2.2.2 k z).trans (h.2.2.2 k z)⟩
theorem l_f.h {L : List Nat} (h : l_f L s s1) (hL : ∀ a, a ∈ L → a ∈ l_Lw) : l_h s s1 := ⟨fun k z => h.1 k (fun y => z (hL k y)), fun a y _ _ _ => h.2.1 a y, h.2.2.1, h.2.2.2⟩
theorem l_h.s64 {k : Nat} {y : Int} (h : k ∈ l_Lw) : l_h s (d_si s 64 k y) := (l_f.si (L := l_Lw) h).h (fun _ q => q)
theorem l_h.sx {a k : Nat} {y : Int} (h : a = 67 ∨ a = 69 ∨ a = 70) : l_h s (d_si s a k y) := ⟨fun _ _ => by rw [d_si_n (by omega)], fun c h1 h2 h3 h4 => d_si_n (by omega), rfl, fun _ _ => rfl⟩
def l_S (s0 : d_S) (b : Nat → Nat) (n p : Nat) (σ κ : List Nat) (w so : Nat) (wh : Bool) (d t0 : Nat) (z : l_zT) (s : d_S) : Prop := l_T b n p s ∧ (s.1 64 12 = (t0 : Int) ∧ s.1 64 13 = (w : Int) ∧ s.1 64 14 = (so : Int) ∧ s.1 64 17 = (σ.length : Int) ∧ s.1 64 18 = (d : Int) ∧ s.1 64 19 = (κ.length : Int) ∧ s.1 64 20 = (if wh = true then 1 else 0)) ∧ l_P (s.1 69) σ ∧ l_P (s.1 70) κ ∧ l_E (s.1 67) t0 w z ∧ l_h s0 s
theorem l_S.T (h : l_S s0 b n p σ κ w so wh d t0 z s) (hf : l_f [7, 8, 9, 10] s s') (hT : l_T b n q s') : l_S s0 b n q σ κ w so wh d t0 z s' := by
  obtain ⟨-, ⟨a1, a2, a3, a4, a5, a6, a7⟩, a8, a9, a10, a11⟩ := h
  exact ⟨hT, ⟨by rw [hf.1 12 (by decide)]; exact a1, by rw [hf.1 13 (by decide)]; exact a2, by rw [hf.1 14 (by decide)]; exact a3, by rw [hf.1 17 (by decide)]; exact a4, by rw [hf.1 18 (by decide)]; exact a5, by rw [hf.1 19 (by decide)]; exact a6, by rw [hf.1 20 (by decide)]; exact a7⟩, by rw [hf.2.1 69 (by decide)]; exact a8, by rw [hf.2.1 70 (by decide)]; exact a9, by rw [hf.2.1 67 (by decide)]; exact a10, a11.tr (hf.h (by decide))⟩
theorem l_T.g (h : l_T b n p s) (h64 : ∀ k, k = 4 ∨ k = 7 ∨ k = 8 ∨ k = 9 ∨ k = 10 → s'.1 64 k = s.1 64 k) (h68 : s'.1 68 = s.1 68) (h11 : s'.2.2 1011 = s.2.2 1011) : l_T b n p s' := by
  obtain ⟨⟨a0, a00, a000, a0000⟩, a2, a3, a4⟩ := h
  refine ⟨⟨by rw [h64 4 (by simp)]; exact a0, a00, fun i hi => by rw [h68]; exact a000 i hi, a0000⟩, by rw [h64 8 (by simp)]; exact a2, by rw [h64 7 (by simp)]; exact a3, ?_⟩
  rw [h64 9 (by simp), h64 10 (by simp), h11]
  exact a4
theorem P_emit (h : l_S s0 b n p σ κ w so wh d t0 z s) (hw : w ≤ 303) (ht : t0 ≤ 2331) {x y : Nat} (hx : x < 8) (hy : y < 10000) : ∃ s', F_X12_emit s (x : Int) (y : Int) = some s' ∧ l_S s0 b n p σ κ (w + 1) so wh d t0 (l_zE z [(x, y)]) s' ∧ s'.1 69 = s.1 69 := by
  obtain ⟨hT, ⟨a1, a2, a3, a4, a5, a6, a7⟩, a8, a9, a10, a11⟩ := h
  obtain ⟨s2, hs2⟩ : ∃ z, z = d_si s 67 (t0 + 169 + 2 * w) (x : Int) := ⟨_, rfl⟩
  obtain ⟨s4, hs4⟩ : ∃ z, z = d_si s2 67 (t0 + 169 + 2 * w + 1) (y : Int) := ⟨_, rfl⟩
  obtain ⟨s5, hs5⟩ : ∃ z, z = d_si s4 64 13 ((w : Int) + 1) := ⟨_, rfl⟩
  have e2 : ∀ a, a ≠ 67 → s2.1 a = s.1 a := fun a q => by rw [hs2, d_si_n q]
  have e4 : ∀ a, a ≠ 67 → s4.1 a = s.1 a := fun a q => by rw [hs4, d_si_n q, e2 a q]
  have e5 : ∀ k, k ≠ 13 → s5.1 64 k = s.1 64 k := fun k q => by rw [hs5, d_si_i, d_u_n q, e4 64 (by decide)]
  have e5o : ∀ a, a ≠ 64 → a ≠ 67 → s5.1 a = s.1 a := fun a q1 q2 => by rw [hs5, d_si_n q1, e4 a q2]
  have e67 : s5.1 67 = d_u (d_u (s.1 67) (t0 + 169 + 2 * w) (x : Int)) (t0 + 169 + 2 * w + 1) (y : Int) := by rw [hs5, d_si_n (by decide), hs4, d_si_i, hs2, d_si_i]
  have hf : l_h s s5 := by
    rw [hs5, hs4, hs2]
    exact ((l_h.sx (Or.inl rfl)).tr (l_h.sx (Or.inl rfl))).tr (l_h.s64 (by decide))
  refine ⟨s5, ?_, ⟨hT.g (fun k hk => e5 k (by omega)) (e5o 68 (by decide) (by decide)) (by rw [hs5, hs4, hs2]; rfl), ⟨by rw [e5 12 (by decide)]; exact a1, by rw [hs5, d_si_i, d_u_t]; rfl, by rw [e5 14 (by decide)]; exact a3, by rw [e5 17 (by decide)]; exact a4, by rw [e5 18 (by decide)]; exact a5, by rw [e5 19 (by decide)]; exact a6, by rw [e5 20 (by decide)]; exact a7⟩, by rw [e5o 69 (by decide) (by decide)]; exact a8, by rw [e5o 70 (by decide) (by decide)]; exact a9, by rw [e67]; exact l_E_put a10 hw hx hy, a11.tr hf⟩, e5o 69 (by decide) (by decide)⟩
  unfold F_X12_emit
  have ei : d_w ((t0 : Int) + 169 + 2 * (w : Int)) = ((t0 + 169 + 2 * w : Nat) : Int) := by rw [d_w_id (by omega) (by omega)]; omega
  have ej : d_w ((t0 : Int) + 169 + 2 * (w : Int) + 1) = ((t0 + 169 + 2 * w + 1 : Nat) : Int) := by rw [d_w_id (by omega) (by omega)]; omega
  rw [a1, a2, ei, d_g_t (by omega), Int.toNat_natCast, ← hs2, d_l_t, e2 64 (by decide), a1, a2, ej, d_g_t (by omega), Int.toNat_natCast, ← hs4, d_l_t, e4 64 (by decide), a2, d_w_id (by omega) (by omega), ← hs5, d_l_t]
theorem P_rank {x : Nat} : F_X12_rank (x : Int) = some ((s_rk x : Nat) : Int) := by
  unfold F_X12_rank s_rk
  by_cases q : x < 40
  · rw [if_pos (by omega), if_neg (show ¬ 40 ≤ x by omega)]
    by_cases q3 : x = 3
    · rw [if_pos (by omega), if_pos q3]; rfl
    · rw [if_neg (by omega), if_neg q3]
      by_cases q6 : x < 6
      · rw [if_pos (by omega), if_neg (by omega)]; rfl
      · rw [if_neg (by omega), if_pos (by omega)]; rfl
  · rw [if_neg (by omega), if_pos (by omega)]; rfl
def s_op (l : Nat) : List Nat → List (Nat × Nat)
  | [] => []
  | x :: σ => if l ≤ s_rk x then (x, 0) :: s_op l σ else []
theorem s_op_len (l : Nat) : ∀ σ, (s_op l σ).length = σ.length - (s_se l σ).length := by
  intro σ
  induction σ with
  | nil => rfl
  | cons x σ ih =>
    have hs : (s_se l σ).length ≤ σ.length := s_se_len l σ
    by_cases q : l ≤ s_rk x
    · have e1 : s_op l (x :: σ) = (x, 0) :: s_op l σ := by simp only [s_op]; rw [if_pos q]
      have e2 : s_se l (x :: σ) = s_se l σ := by simp only [s_se]; rw [if_pos q]
      rw [e1, e2, List.length_cons, List.length_cons, ih]; omega
    · have e1 : s_op l (x :: σ) = [] := by simp only [s_op]; rw [if_neg q]
      have e2 : s_se l (x :: σ) = x :: σ := by simp only [s_se]; rw [if_neg q]
      rw [e1, e2, Nat.sub_self]; rfl
theorem P_settlel {l : Nat} (hl0 : 1 ≤ l) (ht : t0 ≤ 2331) : ∀ (σ : List Nat) (m w d : Nat) (z : l_zT) (s : d_S), σ.length ≤ 160 → w + σ.length ≤ 304 → d = s_opn σ → σ.length < m → l_S s0 b n p σ κ w so wh d t0 z s → ∃ s', F_X12_settle_l0 m (l : Int) s = some s' ∧ l_S s0 b n p (s_se l σ) κ (w + (σ.length - (s_se l σ).length)) so wh (s_opn (s_se l σ)) t0 (l_zE z (s_op l σ)) s' := by
  intro σ
  induction σ with
  | nil =>
    intro m w d z s hs hw hd hm hS
    obtain ⟨m, rfl⟩ : ∃ w, m = w + 1 := ⟨m - 1, by omega⟩
    subst hd
    refine ⟨s, ?_, by rw [show s_op l [] = [] from rfl, l_zE_nil]; exact hS⟩
    show F_X12_settle_l0_b (F_X12_settle_l0 m) _ s = _
    unfold F_X12_settle_l0_b
    rw [hS.2.1.2.2.2.1, if_neg (by simp)]
  | cons x σ ih =>
    intro m w d z s hs hw hd hm hS
    obtain ⟨m, rfl⟩ : ∃ w, m = w + 1 := ⟨m - 1, by omega⟩
    have hS' := hS
    obtain ⟨hT, ⟨a1, a2, a3, a4, a5, a6, a7⟩, ⟨a8, a88, a888⟩, a9, a10, a11⟩ := hS
    rw [List.length_cons] at hs hw hm a4
    show ∃ s', F_X12_settle_l0_b (F_X12_settle_l0 m) _ s = _ ∧ _
    unfold F_X12_settle_l0_b
    rw [a4, if_pos (by omega), d_w_id (x := ((σ.length + 1 : Nat) : Int) - 1) (by omega) (by omega), show ((σ.length + 1 : Nat) : Int) - 1 = (σ.length : Int) by omega, d_g_t (by omega), Int.toNat_natCast, a8, P_rank, d_b_t]
    by_cases q : l ≤ s_rk x
    rotate_left
    · have e1 : s_op l (x :: σ) = [] := by simp only [s_op]; rw [if_neg q]
      have e2 : s_se l (x :: σ) = x :: σ := by simp only [s_se]; rw [if_neg q]
      rw [if_pos (by omega), e1, e2, l_zE_nil, Nat.sub_self, ← hd]
      exact ⟨s, rfl, hS'⟩
    have e1 : s_op l (x :: σ) = (x, 0) :: s_op l σ := by simp only [s_op]; rw [if_pos q]
    have e2 : s_se l (x :: σ) = s_se l σ := by simp only [s_se]; rw [if_pos q]
    have hsl := s_se_len l σ
    have hx8 : x < 8 := by
      rcases a88 with z | z
      · exact z
      · unfold s_rk at q; rw [if_pos z.1] at q; omega
    obtain ⟨s3, hs3⟩ : ∃ z, z = d_si s 64 17 (σ.length : Int) := ⟨_, rfl⟩
    have e3 : ∀ k, k ≠ 17 → s3.1 64 k = s.1 64 k := fun k q => by rw [hs3, d_si_i, d_u_n q]
    have e3o : ∀ a, a ≠ 64 → s3.1 a = s.1 a := fun a q => by rw [hs3, d_si_n q]
    have e317 : s3.1 64 17 = (σ.length : Int) := by rw [hs3, d_si_i, d_u_t]
    have hS3 : l_S s0 b n p σ κ w so wh d t0 z s3 := ⟨hT.g (fun k hk => e3 k (by omega)) (e3o 68 (by decide)) (by rw [hs3]; rfl), ⟨by rw [e3 12 (by decide)]; exact a1, by rw [e3 13 (by decide)]; exact a2, by rw [e3 14 (by decide)]; exact a3, e317, by rw [e3 18 (by decide)]; exact a5, by rw [e3 19 (by decide)]; exact a6, by rw [e3 20 (by decide)]; exact a7⟩, by rw [e3o 69 (by decide)]; exact a888, by rw [e3o 70 (by decide)]; exact a9, by rw [e3o 67 (by decide)]; exact a10, a11.tr (by rw [hs3]; exact l_h.s64 (by decide))⟩
    obtain ⟨s5, b1, b2, b3⟩ := P_emit hS3 (by omega) ht hx8 (y := 0) (by decide)
    have e517 : s5.1 64 17 = (σ.length : Int) := b2.2.1.2.2.2.1
    have e569 : s5.1 69 σ.length = (x : Int) := by rw [b3, e3o 69 (by decide)]; exact a8
    have b1' : F_X12_emit s3 (x : Int) 0 = some s5 := b1
    rw [if_neg (by omega), d_l_t, ← hs3, e317, d_g_t (by omega), Int.toNat_natCast, show s3.1 69 σ.length = (x : Int) by rw [e3o 69 (by decide)]; exact a8, b1', d_b_t, e517, d_g_t (by omega), Int.toNat_natCast, e569, e1, e2]
    have ez : l_zE z ((x, 0) :: s_op l σ) = l_zE (l_zE z [(x, 0)]) (s_op l σ) := by rw [l_zE_zE]; rfl
    have ew : w + (σ.length + 1 - (s_se l σ).length) = w + 1 + (σ.length - (s_se l σ).length) := by omega
    rw [ez, List.length_cons, ew]
    by_cases q3 : x = 3
    · rw [if_pos (by omega)]
      have hd3 : d = s_opn σ + 1 := by rw [hd, q3]; rfl
      obtain ⟨hT5, ⟨c1, c2, c3, c4, c5, c6, c7⟩, c8, c9, c10, c11⟩ := b2
      obtain ⟨s6, hs6⟩ : ∃ z, z = d_si s5 64 18 ((s_opn σ : Nat) : Int) := ⟨_, rfl⟩
      have e6 : ∀ k, k ≠ 18 → s6.1 64 k = s5.1 64 k := fun k q => by rw [hs6, d_si_i, d_u_n q]
      have e6o : ∀ a, a ≠ 64 → s6.1 a = s5.1 a := fun a q => by rw [hs6, d_si_n q]
      have hso : s_opn σ ≤ σ.length := by
        have : ∀ τ : List Nat, s_opn τ ≤ τ.length := by
          intro τ
          induction τ with
          | nil => exact Nat.le_refl _
          | cons y τ ih => simp only [s_opn, List.length_cons]; split <;> omega
        exact this σ
      have ed : d_w (s5.1 64 18 - 1) = ((s_opn σ : Nat) : Int) := by rw [c5, d_w_id (by omega) (by omega)]; omega
      rw [d_l_t, ed, ← hs6]
      have hS6 : l_S s0 b n p σ κ (w + 1) so wh (s_opn σ) t0 (l_zE z [(x, 0)]) s6 := ⟨hT5.g (fun k hk => e6 k (by omega)) (e6o 68 (by decide)) (by rw [hs6]; rfl), ⟨by rw [e6 12 (by decide)]; exact c1, by rw [e6 13 (by decide)]; exact c2, by rw [e6 14 (by decide)]; exact c3, by rw [e6 17 (by decide)]; exact c4, by rw [hs6, d_si_i, d_u_t], by rw [e6 19 (by decide)]; exact c6, by rw [e6 20 (by decide)]; exact c7⟩, by rw [e6o 69 (by decide)]; exact c8, by rw [e6o 70 (by decide)]; exact c9, by rw [e6o 67 (by decide)]; exact c10, c11.tr (by rw [hs6]; exact l_h.s64 (by decide))⟩
      exact ih m (w + 1) _ _ s6 (by omega) (by omega) rfl (by omega) hS6
    · rw [if_neg (by omega)]
      have hd3 : d = s_opn σ := by
        rw [hd]
        show s_opn σ + (if x = 3 ∨ 40 ≤ x then 1 else 0) = s_opn σ
        rw [if_neg (by omega)]; rfl
      exact ih m (w + 1) _ _ s5 (by omega) (by omega) hd3 (by omega) b2
theorem P_settle {l : Nat} (hl0 : 1 ≤ l) (ht : t0 ≤ 2331) (hs : σ.length ≤ 160) (hw : w + σ.length ≤ 304) (hd : d = s_opn σ) (hS : l_S s0 b n p σ κ w so wh d t0 z s) : ∃ s', F_X12_settle s (l : Int) = some s' ∧ l_S s0 b n p (s_se l σ) κ (w + (σ.length - (s_se l σ).length)) so wh (s_opn (s_se l σ)) t0 (l_zE z (s_op l σ)) s' := P_settlel hl0 ht σ d_N w d z s hs hw hd (by rw [d_N_is]; omega) hS
def l_on : List Nat → Int
  | [] => -1
  | x :: σ => if x < 40 then l_on σ else (x : Int)
theorem s_rk_0 {x : Nat} (h : 1 ≤ s_rk x) : x < 40 := by
  unfold s_rk at h
  split at h
  · omega
  · omega
theorem l_on_se {l : Nat} (hl : 1 ≤ l) : ∀ {σ ρ : List Nat} {x : Nat}, s_se l σ = x :: ρ → 40 ≤ x → l_on σ = (x : Int) := by
  intro σ
  induction σ with
  | nil => intro ρ x h _; cases h
  | cons y σ ih =>
    intro ρ x h hx
    simp only [s_se] at h
    simp only [l_on]
    by_cases q : l ≤ s_rk y
    · rw [if_pos q] at h
      rw [if_pos (s_rk_0 (by omega))]
      exact ih h hx
    · rw [if_neg q] at h
      injection h with h1 h2
      rw [if_neg (by omega), h1]
theorem l_on_nil : ∀ {σ : List Nat}, s_se 1 σ = [] → l_on σ = -1 := by
  intro σ
  induction σ with
  | nil => intro _; rfl
  | cons y σ ih =>
    intro h
    simp only [s_se] at h
    simp only [l_on]
    by_cases q : 1 ≤ s_rk y
    · rw [if_pos q] at h
      rw [if_pos (s_rk_0 q)]
      exact ih h
    · rw [if_neg q] at h; cases h
theorem P_openl {K : Int → Option Int} : ∀ (σ : List Nat) (m : Nat), σ.length ≤ 160 → σ.length < m → l_P (s.1 69) σ → (∀ v : Int, K v = if v < 0 then some (-1) else d_g (0 ≤ v ∧ v < 160) (some (s.1 69 v.toNat))) → F_X12_openNow_l7 s K m ((σ.length : Int) - 1) = some (l_on σ) := by
  intro σ
  induction σ with
  | nil =>
    intro m hs hm hP hK
    obtain ⟨m, rfl⟩ : ∃ w, m = w + 1 := ⟨m - 1, by omega⟩
    show F_X12_openNow_l7_b s K (F_X12_openNow_l7 s K m) (((0 : Nat) : Int) - 1) = _
    unfold F_X12_openNow_l7_b
    rw [if_pos (by decide), hK, if_pos (by decide)]; rfl
  | cons x σ ih =>
    intro m hs hm hP hK
    obtain ⟨m, rfl⟩ : ∃ w, m = w + 1 := ⟨m - 1, by omega⟩
    rw [List.length_cons] at hs hm
    show F_X12_openNow_l7_b s K (F_X12_openNow_l7 s K m) (((σ.length + 1 : Nat) : Int) - 1) = _
    unfold F_X12_openNow_l7_b
    rw [show ((σ.length + 1 : Nat) : Int) - 1 = (σ.length : Int) by omega, if_neg (by omega), d_g_t (by omega), Int.toNat_natCast, hP.1, hK]
    simp only [l_on]
    by_cases q : x < 40
    · rw [if_pos (by omega), if_pos q, d_w_id (by omega) (by omega)]
      exact ih m (by omega) (by omega) hP.2.2 hK
    · rw [if_neg (by omega), if_neg q, if_neg (by omega), d_g_t (by omega), Int.toNat_natCast, hP.1]
theorem P_openNow (h17 : s.1 64 17 = (σ.length : Int)) (hP : l_P (s.1 69) σ) (hs : σ.length ≤ 160) : F_X12_openNow s = some (l_on σ) := by
  unfold F_X12_openNow
  rw [h17, d_w_id (by omega) (by omega)]
  exact P_openl σ d_N hs (by rw [d_N_is]; omega) hP (fun v => rfl)
end X7

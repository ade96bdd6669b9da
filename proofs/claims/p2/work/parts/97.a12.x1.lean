section X1
variable {s s1 s' : d_S} {t : Nat → Option p_C} {b : Nat → Nat} {n p q : Nat} {x : Int}
def k_B (b : Nat → Nat) (n : Nat) (s : d_S) : Prop := s.1 43 1 = (n : Int) ∧ n ≤ 300 ∧ (∀ i, i < 300 → s.1 44 i % 256 = (b i : Int)) ∧ ∀ i, b i < 256
def k_f (L : List Nat) (s s' : d_S) : Prop := (∀ k, k ∉ L → s'.1 43 k = s.1 43 k) ∧ (∀ a, a ≠ 43 → s'.1 a = s.1 a) ∧ s'.2 = s.2
theorem k_f.rf {L : List Nat} : k_f L s s := ⟨fun _ _ => rfl, fun _ _ => rfl, rfl⟩
theorem k_f.tr {L : List Nat} (h : k_f L s s1) (h' : k_f L s1 s') : k_f L s s' := ⟨fun a z => (h'.1 a z).trans (h.1 a z), fun a z => (h'.2.1 a z).trans (h.2.1 a z), h'.2.2.trans h.2.2⟩
theorem k_f.mono {L M : List Nat} (h : k_f L s s1) (hm : ∀ a, a ∈ L → a ∈ M) : k_f M s s1 := ⟨fun a z => h.1 a (fun y => z (hm a y)), h.2⟩
theorem k_f.si {L : List Nat} {k : Nat} {y : Int} (h : k ∈ L) : k_f L s (d_si s 43 k y) := ⟨fun a z => by rw [d_si_i, d_u_n (fun (e : a = k) => z (by rw [e]; exact h))], fun a z => d_si_n z, rfl⟩
theorem k_B.f {L : List Nat} (h : k_B b n s) (h' : k_f L s s') (h1 : 1 ∉ L) : k_B b n s' := by
  obtain ⟨a1, a2, a3, a4⟩ := h
  exact ⟨by rw [h'.1 1 h1]; exact a1, a2, fun i hi => by rw [h'.2.1 44 (by decide)]; exact a3 i hi, a4⟩
theorem k_and255 {x : Int} : d_and x 255 = x % 256 := by
  unfold d_and
  have h1 : ((Int32.ofInt x &&& Int32.ofInt 255).toBitVec.toNat) = (x % 4294967296).toNat % 256 := by
    rw [Int32.toBitVec_and, BitVec.toNat_and]
    have e1 : (Int32.ofInt x).toBitVec.toNat = (x % 4294967296).toNat := by
      show (BitVec.ofInt 32 x).toNat = _
      rw [BitVec.toNat_ofInt]; rfl
    have e2 : (Int32.ofInt 255).toBitVec.toNat = 2 ^ 8 - 1 := rfl
    rw [e1, e2, Nat.and_two_pow_sub_one_eq_mod]
  rw [v_ofb (n := (x % 4294967296).toNat % 256) (by omega) h1]
  omega
theorem k_byte (h : k_B b n s) (hq : q < n) : F_X3_byteAt s (q : Int) = some ((b q : Nat) : Int) := by
  obtain ⟨a1, a2, a3, -⟩ := h
  unfold F_X3_byteAt
  rw [if_neg (by omega), a1, if_pos (by omega), if_pos (by omega), d_g_t (by omega), Int.toNat_natCast, k_and255, a3 q (by omega)]
theorem k_so_ : ∀ c : Nat, c < 256 → F_X3_sortOf (c : Int) = some ((t_so c : Nat) : Int) := by decide +kernel
theorem k_bl {c : Nat} : t_bl c = true ↔ c = 32 ∨ c = 10 := by
  unfold t_bl
  rw [Bool.or_eq_true]
  exact ⟨fun h => h.imp Nat.eq_of_beq_eq_true Nat.eq_of_beq_eq_true, fun h => h.imp v_beq v_beq⟩
theorem k_skl {K : d_S → Option d_S} : ∀ (j q m : Nat), q + j = n → j < m → ∀ s : d_S, k_B b n s → s.1 43 4 = (q : Int) → ∃ s', F_X3_step_l0 t K m s = K s' ∧ s'.1 43 4 = ((t_sk b n q : Nat) : Int) ∧ k_f [4] s s' := by
  intro j
  induction j with
  | zero =>
    intro q m hq hm s hB h4
    obtain ⟨m, rfl⟩ : ∃ w, m = w + 1 := ⟨m - 1, by omega⟩
    refine ⟨s, ?_, ?_, k_f.rf⟩
    · show F_X3_step_l0_b t K (F_X3_step_l0 t K m) s = _
      unfold F_X3_step_l0_b
      rw [h4, hB.1, if_neg (by omega)]
    · rw [h4]; unfold t_sk; rw [t_lp_no (fun e => absurd e.1 (by omega))]
  | succ j ih =>
    intro q m hq hm s hB h4
    obtain ⟨m, rfl⟩ : ∃ w, m = w + 1 := ⟨m - 1, by omega⟩
    have hq2 : q < n := by omega
    have hn := hB.2.1
    show ∃ s', F_X3_step_l0_b t K (F_X3_step_l0 t K m) s = _ ∧ _
    unfold F_X3_step_l0_b F_X3_step_j37
    rw [h4, hB.1, if_pos (by omega), k_byte hB hq2, d_b_t, d_b_t, d_l_t, d_w_id (x := (q : Int) + 1) (by omega) (by omega)]
    by_cases c : t_bl (b q) = true
    · obtain ⟨s', g1, g2, g3⟩ := ih (q + 1) m (by omega) (by omega) (d_si s 43 4 ((q : Int) + 1)) (hB.f (k_f.si (L := [4]) (by decide)) (by decide)) (by rw [d_si_i, d_u_t]; rfl)
      have e1 : t_sk b n q = t_sk b n (q + 1) := by unfold t_sk; rw [t_lp_go hq2 c]
      refine ⟨s', ?_, by rw [e1]; exact g2, (k_f.si (by decide)).tr g3⟩
      rcases k_bl.1 c with c | c
      · rw [if_pos (by omega)]; exact g1
      · rw [if_neg (by omega), if_pos (by omega)]; exact g1
    · refine ⟨s, ?_, ?_, k_f.rf⟩
      · have c' : ¬ (b q = 32 ∨ b q = 10) := fun e => c (k_bl.2 e)
        rw [if_neg (by omega), if_neg (by omega)]
      · rw [h4]; unfold t_sk; rw [t_lp_no (g := fun q => t_bl (b q)) (fun e => c e.2)]
theorem k_al_so {c : Nat} : t_al c = true ↔ t_so c = 1 := by
  unfold t_so
  constructor
  · intro h; rw [if_pos h]
  · intro h
    by_cases q : t_al c = true
    · exact q
    · rw [if_neg q] at h
      split at h <;> omega
theorem k_fi_so {c : Nat} : t_fi c = true ↔ t_so c = 2 := by
  unfold t_so
  constructor
  · intro h; rw [if_neg (by rw [t_al_fi h]; decide), if_pos h]
  · intro h
    by_cases q : t_al c = true
    · rw [if_pos q] at h; omega
    · rw [if_neg q] at h
      by_cases q2 : t_fi c = true
      · exact q2
      · rw [if_neg q2] at h; omega
theorem k_zs {z : Int64} {q : Nat} (hq : b q < 256) : d_orL (d_shlL z.toInt 8) ((b q : Nat) : Int) = (t_zs b q z).toInt := by
  unfold d_orL d_shlL t_zs
  have ec : (Int32.ofNat (b q)).toInt64 = Int64.ofInt ((b q : Nat) : Int) := by
    apply Int64.toInt_inj.mp
    rw [Int32.toInt_toInt64, d_tiL ⟨by omega, by omega⟩]
    show (Int32.ofInt ((b q : Nat) : Int)).toInt = _
    exact d_ti ⟨by omega, by omega⟩
  rw [Int64.ofInt_toInt, Int64.ofInt_toInt, ec]
  rfl
theorem k_lw {K : Int → Int → d_S → Option d_S} : ∀ (j q m : Nat), q + j = n → j < m → ∀ (s : d_S) (z : Int64) (y : Int), k_B b n s → s.1 43 4 = (q : Int) → s.1 43 6 = 1 → ∃ s' y', F_X3_step_l92 t K m z.toInt y s = K (t_lp n (fun q => t_al (b q)) (t_zs b) q z).2.toInt y' s' ∧ s'.1 43 4 = (((t_lp n (fun q => t_al (b q)) (t_zs b) q z).1 : Nat) : Int) ∧ k_f [4] s s' := by
  intro j
  induction j with
  | zero =>
    intro q m hq hm s z y hB h4 h6
    obtain ⟨m, rfl⟩ : ∃ w, m = w + 1 := ⟨m - 1, by omega⟩
    rw [t_lp_no (fun e => absurd e.1 (by omega))]
    refine ⟨s, y, ?_, h4, k_f.rf⟩
    show F_X3_step_l92_b t K (F_X3_step_l92 t K m) _ _ s = _
    unfold F_X3_step_l92_b
    rw [h4, hB.1, if_neg (by omega)]
  | succ j ih =>
    intro q m hq hm s z y hB h4 h6
    obtain ⟨m, rfl⟩ : ∃ w, m = w + 1 := ⟨m - 1, by omega⟩
    have hq2 : q < n := by omega
    have hn := hB.2.1
    have hbq := hB.2.2.2 q
    show ∃ s' y', F_X3_step_l92_b t K (F_X3_step_l92 t K m) _ _ s = _ ∧ _
    unfold F_X3_step_l92_b F_X3_step_j140
    rw [h4, hB.1, if_pos (by omega), k_byte hB hq2, d_b_t, k_so_ _ hbq, d_b_t, h6, if_neg (show ¬ (1 : Int) = 3 by decide), d_b_t, d_b_t, P_min, d_b_t, d_l_t, k_zs hbq, d_w_id (x := (q : Int) + 1) (by omega) (by omega)]
    by_cases c : t_al (b q) = true
    · rw [t_lp_go hq2 c, if_pos (by rw [k_al_so.1 c]; rfl)]
      obtain ⟨s', y', g1, g2, g3⟩ := ih (q + 1) m (by omega) (by omega) (d_si s 43 4 ((q : Int) + 1)) (t_zs b q z) (min 10000 (d_w (y * 10 + ((b q : Nat) : Int) - 48))) (hB.f (k_f.si (L := [4]) (by decide)) (by decide)) (by rw [d_si_i, d_u_t]; rfl) (by rw [d_si_i, d_u_n (by decide)]; exact h6)
      exact ⟨s', y', g1, g2, (k_f.si (by decide)).tr g3⟩
    · rw [t_lp_no (g := fun q => t_al (b q)) (fun e => c e.2), if_neg (fun e => c (k_al_so.2 (by omega)))]
      exact ⟨s, y, rfl, h4, k_f.rf⟩
theorem k_ln {K : Int → Int → d_S → Option d_S} : ∀ (j q m : Nat), q + j = n → j < m → ∀ (s : d_S) (y : Nat) (z : Int), k_B b n s → s.1 43 4 = (q : Int) → s.1 43 6 = 2 → y ≤ 10000 → ∃ s' z', F_X3_step_l92 t K m z (y : Int) s = K z' (((t_lp n (fun q => t_fi (b q)) (t_ms b) q y).2 : Nat) : Int) s' ∧ s'.1 43 4 = (((t_lp n (fun q => t_fi (b q)) (t_ms b) q y).1 : Nat) : Int) ∧ k_f [4] s s' := by
  intro j
  induction j with
  | zero =>
    intro q m hq hm s y z hB h4 h6 hy
    obtain ⟨m, rfl⟩ : ∃ w, m = w + 1 := ⟨m - 1, by omega⟩
    rw [t_lp_no (fun e => absurd e.1 (by omega))]
    refine ⟨s, z, ?_, h4, k_f.rf⟩
    show F_X3_step_l92_b t K (F_X3_step_l92 t K m) _ _ s = _
    unfold F_X3_step_l92_b
    rw [h4, hB.1, if_neg (by omega)]
  | succ j ih =>
    intro q m hq hm s y z hB h4 h6 hy
    obtain ⟨m, rfl⟩ : ∃ w, m = w + 1 := ⟨m - 1, by omega⟩
    have hq2 : q < n := by omega
    have hn := hB.2.1
    have hbq := hB.2.2.2 q
    show ∃ s' z', F_X3_step_l92_b t K (F_X3_step_l92 t K m) _ _ s = _ ∧ _
    unfold F_X3_step_l92_b F_X3_step_j140
    rw [h4, hB.1, if_pos (by omega), k_byte hB hq2, d_b_t, k_so_ _ hbq, d_b_t, h6, if_neg (show ¬ (2 : Int) = 3 by decide), d_b_t, d_b_t, P_min, d_b_t, d_l_t, d_w_id (x := (q : Int) + 1) (by omega) (by omega)]
    by_cases c : t_fi (b q) = true
    · have e48 : 48 ≤ b q ∧ b q ≤ 57 := by
        unfold t_fi at c
        rw [Bool.and_eq_true] at c
        exact ⟨Nat.le_of_ble_eq_true c.1, Nat.le_of_ble_eq_true c.2⟩
      have em : min 10000 (d_w ((y : Int) * 10 + ((b q : Nat) : Int) - 48)) = ((t_ms b q y : Nat) : Int) := by
        rw [d_w_id (by omega) (by omega)]; unfold t_ms; omega
      rw [t_lp_go hq2 c, if_pos (by rw [k_fi_so.1 c]; rfl), em]
      obtain ⟨s', z', g1, g2, g3⟩ := ih (q + 1) m (by omega) (by omega) (d_si s 43 4 ((q : Int) + 1)) (t_ms b q y) (d_orL (d_shlL z 8) ((b q : Nat) : Int)) (hB.f (k_f.si (L := [4]) (by decide)) (by decide)) (by rw [d_si_i, d_u_t]; rfl) (by rw [d_si_i, d_u_n (by decide)]; exact h6) (by unfold t_ms; omega)
      exact ⟨s', z', g1, g2, (k_f.si (by decide)).tr g3⟩
    · rw [t_lp_no (g := fun q => t_fi (b q)) (fun e => c e.2), if_neg (fun e => c (k_fi_so.2 (by omega)))]
      exact ⟨s, z, rfl, h4, k_f.rf⟩
def k_wds (t : Nat → Option p_C) : Prop := d_tw t = some (t_W.map Value.long)
theorem k_twn (h : k_wds t) : d_twn t = some 22 := by
  unfold d_twn
  rw [h, d_b_t, if_pos (by rw [List.length_map]; decide)]
  rfl
theorem k_twl (h : k_wds t) {k : Nat} (hk : k < 22) : ∃ w, t_W[k]? = some w ∧ d_twl t (k : Int) = some w.toInt := by
  have hl : k < t_W.length := hk
  refine ⟨t_W[k], List.getElem?_eq_getElem hl, ?_⟩
  unfold d_twl
  rw [h, d_b_t, if_pos (by omega), Int.toNat_natCast, List.getElem?_map, List.getElem?_eq_getElem hl]
  rfl
def k_IX (z : Int64) (v : Int) : Prop := (∃ k : Nat, k < 22 ∧ t_W[k]? = some z ∧ v = (k : Int)) ∨ ((∀ k, k < 22 → t_W[k]? ≠ some z) ∧ v = -1)
theorem k_wdl (h : k_wds t) {z : Int64} : ∀ (j k m : Nat), k + j = 22 → j < m → (∀ i, i < k → t_W[i]? ≠ some z) → ∃ v, F_X3_wordOf_l2 t s m z.toInt (k : Int) = some v ∧ k_IX z v := by
  intro j
  induction j with
  | zero =>
    intro k m hk hm hn
    obtain ⟨m, rfl⟩ : ∃ w, m = w + 1 := ⟨m - 1, by omega⟩
    refine ⟨-1, ?_, Or.inr ⟨fun i hi => hn i (by omega), rfl⟩⟩
    show F_X3_wordOf_l2_b t s (F_X3_wordOf_l2 t s m) _ _ = _
    unfold F_X3_wordOf_l2_b
    rw [k_twn h, d_b_t, if_neg (by omega)]
  | succ j ih =>
    intro k m hk hm hn
    obtain ⟨m, rfl⟩ : ∃ w, m = w + 1 := ⟨m - 1, by omega⟩
    obtain ⟨w, e1, e2⟩ := k_twl h (k := k) (by omega)
    show ∃ v, F_X3_wordOf_l2_b t s (F_X3_wordOf_l2 t s m) _ _ = _ ∧ _
    unfold F_X3_wordOf_l2_b
    rw [k_twn h, d_b_t, if_pos (by omega), e2, d_b_t, d_w_id (x := (k : Int) + 1) (by omega) (by omega)]
    by_cases c : w = z
    · subst c
      rw [if_pos rfl]
      exact ⟨(k : Int), rfl, Or.inl ⟨k, by omega, e1, rfl⟩⟩
    · rw [if_neg (fun e => c (Int64.toInt_inj.mp e))]
      exact ih (k + 1) m (by omega) (by omega) (fun i hi => by
        by_cases q : i = k
        · subst q; rw [e1]; exact fun e => c (Option.some.inj e)
        · exact hn i (by omega))
theorem k_word (h : k_wds t) {z : Int64} : ∃ v, F_X3_wordOf t s z.toInt = some v ∧ k_IX z v := k_wdl h 22 0 d_N rfl (by rw [d_N_is]; decide) (fun i hi => absurd hi (Nat.not_lt_zero i))
def k_T (b : Nat → Nat) (n p : Nat) (s : d_S) : Prop := k_B b n s ∧ (s.1 43 4 = ((t_e b n p : Nat) : Int) ∧ s.1 43 5 = (p : Int) ∧ s.1 43 6 = ((t_k b n p : Nat) : Int)) ∧ (t_k b n p = 1 → k_IX (t_zl b n p).2 (s.1 43 7)) ∧ (t_k b n p = 2 → s.1 43 7 = ((min 10000 (t_n b n p) : Nat) : Int)) ∧ (t_k b n p = 3 → s.1 43 7 = ((b p : Nat) : Int))
theorem k_T.f {L : List Nat} (h : k_T b n p s) (h' : k_f L s s') (h1 : 1 ∉ L ∧ 4 ∉ L ∧ 5 ∉ L ∧ 6 ∉ L ∧ 7 ∉ L) : k_T b n p s' := by
  obtain ⟨a1, ⟨a4, a5, a6⟩, a7⟩ := h
  refine ⟨a1.f h' h1.1, ⟨by rw [h'.1 4 h1.2.1]; exact a4, by rw [h'.1 5 h1.2.2.1]; exact a5, by rw [h'.1 6 h1.2.2.2.1]; exact a6⟩, ?_⟩
  rw [h'.1 7 h1.2.2.2.2]
  exact a7
theorem k_stp (hW : k_wds t) (hB : k_B b n s) (h4 : s.1 43 4 = (q : Int)) (hq : q ≤ n) : ∃ s', F_X3_step t s = some s' ∧ k_T b n (t_sk b n q) s' ∧ k_f [4, 5, 6, 7] s s' := by
  obtain ⟨s1, a1, a2, a3⟩ := k_skl (t := t) (b := b) (n := n) (K := fun s_u4 => d_l (d_si s_u4 43 5 (s_u4.1 43 4)) (fun s5 => if (s5.1 43 4) < (s5.1 43 1) then d_b (F_X3_byteAt s5 (s5.1 43 4)) (fun v6 => d_b (F_X3_sortOf v6) (fun v7 => d_l (d_si s5 43 6 v7) (fun s8 => F_X3_step_l92 t (fun x1_u15 x3_u15 s_u15 => F_X3_step_j191 t x1_u15 x3_u15 s_u15) d_N 0 0 s8))) else d_l (d_si s5 43 6 0) (fun s19 => F_X3_step_l92 t (fun x1_u20 x3_u20 s_u20 => F_X3_step_j191 t x1_u20 x3_u20 s_u20) d_N 0 0 s19))) (n - q) q d_N (by omega) (by rw [d_N_is]; have := hB.2.1; omega) s hB h4
  have hp := t_sk_le (b := b) hq
  obtain ⟨p, hpe⟩ : ∃ p, p = t_sk b n q := ⟨_, rfl⟩
  rw [← hpe] at a2 hp ⊢
  have hn := hB.2.1
  have hB1 : k_B b n s1 := hB.f a3 (by decide)
  obtain ⟨s5, hs5⟩ : ∃ z, z = d_si s1 43 5 (p : Int) := ⟨_, rfl⟩
  have f5 : k_f [5] s1 s5 := by rw [hs5]; exact k_f.si (by decide)
  have e54 : s5.1 43 4 = (p : Int) := by rw [f5.1 4 (by decide)]; exact a2
  have e55 : s5.1 43 5 = (p : Int) := by rw [hs5, d_si_i, d_u_t]
  have hB5 : k_B b n s5 := hB1.f f5 (by decide)
  have hgo : F_X3_step t s = if p < n then d_l (d_si s5 43 6 ((t_so (b p) : Nat) : Int)) (fun s8 => F_X3_step_l92 t (fun x1_u15 x3_u15 s_u15 => F_X3_step_j191 t x1_u15 x3_u15 s_u15) d_N 0 0 s8) else d_l (d_si s5 43 6 0) (fun s19 => F_X3_step_l92 t (fun x1_u20 x3_u20 s_u20 => F_X3_step_j191 t x1_u20 x3_u20 s_u20) d_N 0 0 s19) := by
    unfold F_X3_step
    refine a1.trans ?_
    show d_l (d_si s1 43 5 (s1.1 43 4)) _ = _
    rw [d_l_t, a2, ← hs5, e54, hB5.1]
    by_cases c : p < n
    · rw [if_pos (by omega), if_pos c, k_byte hB5 c, d_b_t, k_so_ _ (hB.2.2.2 p), d_b_t]
    · rw [if_neg (by omega), if_neg c]
  rw [hgo]
  have f15 : k_f [4, 5, 6, 7] s s5 := (a3.mono (by decide)).tr (f5.mono (by decide))
  by_cases c : p < n
  rotate_left
  · have hk : t_k b n p = 0 := t_k_end c
    have he : t_e b n p = p := by unfold t_e; rw [hk]; rfl
    obtain ⟨s6, hs6⟩ : ∃ z, z = d_si s5 43 6 0 := ⟨_, rfl⟩
    have f6 : k_f [6] s5 s6 := by rw [hs6]; exact k_f.si (by decide)
    have e66 : s6.1 43 6 = 0 := by rw [hs6, d_si_i, d_u_t]
    have e64 : s6.1 43 4 = (p : Int) := by rw [f6.1 4 (by decide)]; exact e54
    have hB6 : k_B b n s6 := hB5.f f6 (by decide)
    have f7 : k_f [7] s6 (d_si s6 43 7 (d_w 0)) := k_f.si (by decide)
    rw [if_neg c, d_l_t, ← hs6, d_N_is]
    refine ⟨d_si s6 43 7 (d_w 0), ?_, ⟨hB6.f f7 (by decide), ⟨?_, ?_, ?_⟩, ?_, ?_, ?_⟩, (f15.tr (f6.mono (by decide))).tr (f7.mono (by decide))⟩
    · show F_X3_step_l92_b t _ (F_X3_step_l92 t _ 99999) 0 0 s6 = _
      unfold F_X3_step_l92_b
      rw [e64, hB6.1, if_neg (by omega)]
      show F_X3_step_j191 t 0 0 s6 = _
      unfold F_X3_step_j191 F_X3_step_j225
      rw [e66, if_neg (by decide), if_neg (by decide), d_l_t]
    · rw [f7.1 4 (by decide), e64, he]
    · rw [f7.1 5 (by decide), f6.1 5 (by decide)]; exact e55
    · rw [f7.1 6 (by decide), e66, hk]; rfl
    · intro e; omega
    · intro e; omega
    · intro e; omega
  have hk : t_k b n p = t_so (b p) := t_k_so c
  obtain ⟨s6, hs6⟩ : ∃ z, z = d_si s5 43 6 ((t_so (b p) : Nat) : Int) := ⟨_, rfl⟩
  have f6 : k_f [6] s5 s6 := by rw [hs6]; exact k_f.si (by decide)
  have e66 : s6.1 43 6 = ((t_so (b p) : Nat) : Int) := by rw [hs6, d_si_i, d_u_t]
  have e64 : s6.1 43 4 = (p : Int) := by rw [f6.1 4 (by decide)]; exact e54
  have e65 : s6.1 43 5 = (p : Int) := by rw [f6.1 5 (by decide)]; exact e55
  have hB6 : k_B b n s6 := hB5.f f6 (by decide)
  have f16 : k_f [4, 5, 6, 7] s s6 := f15.tr (f6.mono (by decide))
  rw [if_pos c, d_l_t, ← hs6]
  have h123 : t_so (b p) = 1 ∨ t_so (b p) = 2 ∨ t_so (b p) = 3 := by
    unfold t_so
    split
    · exact Or.inl rfl
    · split
      · exact Or.inr (Or.inl rfl)
      · exact Or.inr (Or.inr rfl)
  rcases h123 with h1 | h1 | h1
  · obtain ⟨s7, y, g1, g2, g3⟩ := k_lw (t := t) (K := fun x1_u15 x3_u15 s_u15 => F_X3_step_j191 t x1_u15 x3_u15 s_u15) (n - p) p d_N (by omega) (by rw [d_N_is]; omega) s6 0 0 hB6 e64 (by rw [e66, h1]; rfl)
    obtain ⟨v, v1, v2⟩ := k_word (s := s7) hW (z := (t_zl b n p).2)
    have f8 : k_f [7] s7 (d_si s7 43 7 v) := k_f.si (by decide)
    have f7 : k_f [4, 5, 6, 7] s6 s7 := g3.mono (by decide)
    refine ⟨d_si s7 43 7 v, ?_, ⟨(hB6.f g3 (by decide)).f f8 (by decide), ⟨?_, ?_, ?_⟩, ?_, ?_, ?_⟩, (f16.tr f7).tr (f8.mono (by decide))⟩
    · refine (show F_X3_step_l92 t _ d_N (Int64.toInt 0) 0 s6 = _ from g1).trans ?_
      show F_X3_step_j191 t (t_zl b n p).2.toInt y s7 = _
      unfold F_X3_step_j191
      rw [g3.1 6 (by decide), e66, h1, if_pos (by decide), v1, d_b_t, d_l_t]
    · rw [f8.1 4 (by decide), g2]
      have : t_e b n p = (t_wl b n p).1 := by unfold t_e; rw [hk, h1]; rfl
      rw [this]; unfold t_wl; rw [t_lp_fst (n - p) p (0 : Int64) (0 : Nat) (by omega)]
    · rw [f8.1 5 (by decide), g3.1 5 (by decide)]; exact e65
    · rw [f8.1 6 (by decide), g3.1 6 (by decide), e66, hk]
    · intro _; rw [d_si_i, d_u_t]; exact v2
    · intro e; omega
    · intro e; omega
  · obtain ⟨s7, z, g1, g2, g3⟩ := k_ln (t := t) (K := fun x1_u15 x3_u15 s_u15 => F_X3_step_j191 t x1_u15 x3_u15 s_u15) (n - p) p d_N (by omega) (by rw [d_N_is]; omega) s6 0 0 hB6 e64 (by rw [e66, h1]; rfl) (by decide)
    have g1' : F_X3_step_l92 t (fun x1_u15 x3_u15 s_u15 => F_X3_step_j191 t x1_u15 x3_u15 s_u15) d_N 0 0 s6 = F_X3_step_j191 t z (((t_ml b n p).2 : Nat) : Int) s7 := g1
    have f8 : k_f [7] s7 (d_si s7 43 7 (((t_ml b n p).2 : Nat) : Int)) := k_f.si (by decide)
    have f7 : k_f [4, 5, 6, 7] s6 s7 := g3.mono (by decide)
    refine ⟨d_si s7 43 7 (((t_ml b n p).2 : Nat) : Int), ?_, ⟨(hB6.f g3 (by decide)).f f8 (by decide), ⟨?_, ?_, ?_⟩, ?_, ?_, ?_⟩, (f16.tr f7).tr (f8.mono (by decide))⟩
    · rw [g1']
      unfold F_X3_step_j191 F_X3_step_j225
      rw [g3.1 6 (by decide), e66, h1, if_neg (by decide), if_pos (by decide), d_l_t]
    · rw [f8.1 4 (by decide), g2]
      have : t_e b n p = (t_nl b n p).1 := by unfold t_e; rw [hk, h1]; rfl
      rw [this]; unfold t_nl; rw [t_lp_fst (n - p) p (0 : Nat) (0 : Nat) (by omega)]
    · rw [f8.1 5 (by decide), g3.1 5 (by decide)]; exact e65
    · rw [f8.1 6 (by decide), g3.1 6 (by decide), e66, hk]
    · intro e; omega
    · intro _; rw [d_si_i, d_u_t, t_ml_n (by omega)]
    · intro e; omega
  · obtain ⟨s7, hs7⟩ : ∃ z, z = d_si s6 43 4 ((p : Int) + 1) := ⟨_, rfl⟩
    have f7 : k_f [4] s6 s7 := by rw [hs7]; exact k_f.si (by decide)
    have e74 : s7.1 43 4 = ((p + 1 : Nat) : Int) := by rw [hs7, d_si_i, d_u_t]; rfl
    have hB7 : k_B b n s7 := hB6.f f7 (by decide)
    have hbp := hB.2.2.2 p
    have eb : d_w (d_orL (d_shlL 0 8) ((b p : Nat) : Int)) = ((b p : Nat) : Int) := by
      have : ∀ c : Nat, c < 256 → d_w (d_orL (d_shlL 0 8) (c : Int)) = (c : Int) := by decide +kernel
      exact this _ hbp
    obtain ⟨y, hy⟩ : ∃ y, y = min 10000 (d_w ((0 : Int) * 10 + ((b p : Nat) : Int) - 48)) := ⟨_, rfl⟩
    have f8 : k_f [7] s7 (d_si s7 43 7 ((b p : Nat) : Int)) := k_f.si (by decide)
    refine ⟨d_si s7 43 7 ((b p : Nat) : Int), ?_, ⟨hB7.f f8 (by decide), ⟨?_, ?_, ?_⟩, ?_, ?_, ?_⟩, (f16.tr (f7.mono (by decide))).tr (f8.mono (by decide))⟩
    · rw [d_N_is]
      show F_X3_step_l92_b t _ (F_X3_step_l92 t _ 99999) 0 0 s6 = _
      unfold F_X3_step_l92_b F_X3_step_j140
      rw [e64, hB6.1, if_pos (by omega), k_byte hB6 c, d_b_t, k_so_ _ hbp, d_b_t, e66, if_pos rfl, h1, if_pos (by decide), e65, if_pos rfl, d_b_t, d_b_t, P_min, d_b_t, d_l_t, d_w_id (x := (p : Int) + 1) (by omega) (by omega), ← hs7, ← hy]
      show F_X3_step_l92_b t _ (F_X3_step_l92 t _ 99998) _ y s7 = _
      have hj : F_X3_step_j191 t (d_orL (d_shlL 0 8) ((b p : Nat) : Int)) y s7 = some (d_si s7 43 7 ((b p : Nat) : Int)) := by
        unfold F_X3_step_j191 F_X3_step_j225
        rw [f7.1 6 (by decide), e66, h1, if_neg (by decide), if_neg (by decide), eb, d_l_t]
      unfold F_X3_step_l92_b
      rw [e74, hB7.1, f7.1 6 (by decide), e66, h1, f7.1 5 (by decide), e65]
      by_cases c2 : p + 1 < n
      · rw [if_pos (by omega), k_byte hB7 c2, d_b_t, k_so_ _ (hB.2.2.2 (p + 1)), d_b_t]
        split
        · rw [if_pos (by decide), if_neg (by omega)]; exact hj
        · exact hj
      · rw [if_neg (by omega)]; exact hj
    · rw [f8.1 4 (by decide), e74]
      have : t_e b n p = p + 1 := by unfold t_e; rw [hk, h1]; rfl
      rw [this]
    · rw [f8.1 5 (by decide), f7.1 5 (by decide)]; exact e65
    · rw [f8.1 6 (by decide), f7.1 6 (by decide), e66, hk]
    · intro e; omega
    · intro e; omega
    · intro _; rw [d_si_i, d_u_t]
theorem t_e_le (hp : p ≤ n) : p ≤ t_e b n p ∧ t_e b n p ≤ n := by
  by_cases c : p < n
  · have := t_e_lt (b := b) c; omega
  · have : t_e b n p = p := by unfold t_e; rw [t_k_end c]; rfl
    omega
theorem P_step (hW : k_wds t) (h : k_T b n p s) (hp : p ≤ n) : ∃ s', F_X3_step t s = some s' ∧ k_T b n (t_x b n p) s' ∧ k_f [4, 5, 6, 7] s s' := k_stp hW h.1 h.2.1.1 (t_e_le hp).2
theorem k_wd (h : k_T b n p s) (hp : p ≤ n) {k : Nat} (hk : k < 22) : (s.1 43 6 = 1 ∧ s.1 43 7 = (k : Int)) ↔ t_wd b n p k = true := by
  rw [t_wd_iff]
  have hz : t_k b n p = 1 → t_Lt (t_zl b n p).2 (t_w b n p) := fun _ => t_zl_w hp (fun k _ => h.1.2.2.2 k)
  constructor
  · rintro ⟨e1, e2⟩
    have k1 : t_k b n p = 1 := by have := h.2.1.2.2; omega
    refine ⟨k1, ?_⟩
    rcases h.2.2.1 k1 with ⟨j, j1, j2, j3⟩ | ⟨j2, j3⟩
    · have : j = k := by omega
      subst this
      exact (t_Lt_k (hz k1) hk).1 j2
    · omega
  · rintro ⟨k1, e2⟩
    refine ⟨by rw [h.2.1.2.2, k1]; rfl, ?_⟩
    have e3 := (t_Lt_k (hz k1) hk).2 e2
    rcases h.2.2.1 k1 with ⟨j, j1, j2, j3⟩ | ⟨j2, j3⟩
    · rw [j3]
      have a := t_W_n j j1
      have c := t_W_n k hk
      rw [j2] at a
      rw [e3] at c
      have e := (Option.some.inj a).symm.trans (Option.some.inj c)
      have := (t_o64 (by have := t_Wn_b j j1; omega) (by have := t_Wn_b k hk; omega)).1 e
      rw [t_Wn_i j j1 k hk this]
    · exact absurd e3 (j2 k hk)
theorem P_isWord (h : k_T b n p s) (hp : p ≤ n) {k : Nat} (hk : k < 22) : F_X3_isWord s (k : Int) = some (v_b (t_wd b n p k = true)) := by
  have e := k_wd h hp hk
  unfold F_X3_isWord
  by_cases c : s.1 43 6 = 1
  · rw [if_pos c]
    by_cases c2 : s.1 43 7 = (k : Int)
    · rw [if_pos c2, v_bt (e.1 ⟨c, c2⟩)]
    · rw [if_neg c2, v_bf (fun z => c2 (e.2 z).2)]
  · rw [if_neg c, v_bf (fun z => c (e.2 z).1)]
theorem k_is (h : k_T b n p s) {c : Nat} : (s.1 43 6 = 3 ∧ s.1 43 7 = (c : Int)) ↔ t_is b n p c = true := by
  rw [t_is_iff]
  constructor
  · rintro ⟨e1, e2⟩
    have k3 : t_k b n p = 3 := by have := h.2.1.2.2; omega
    have := h.2.2.2.2 k3
    exact ⟨k3, by omega⟩
  · rintro ⟨k3, e2⟩
    have := h.2.2.2.2 k3
    exact ⟨by rw [h.2.1.2.2, k3]; rfl, by omega⟩
theorem P_isSign (h : k_T b n p s) {c : Nat} : F_X3_isSign s (c : Int) = some (v_b (t_is b n p c = true)) := by
  have e := k_is h (c := c)
  unfold F_X3_isSign
  by_cases c1 : s.1 43 6 = 3
  · rw [if_pos c1]
    by_cases c2 : s.1 43 7 = (c : Int)
    · rw [if_pos c2, v_bt (e.1 ⟨c1, c2⟩)]
    · rw [if_neg c2, v_bf (fun z => c2 (e.2 z).2)]
  · rw [if_neg c1, v_bf (fun z => c1 (e.2 z).1)]
end X1

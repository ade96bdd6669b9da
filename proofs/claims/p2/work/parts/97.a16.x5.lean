section X5
variable {s s1 s' : d_S} {b : Nat → Nat} {n p q : Nat} {x : Int}
def l_f (L : List Nat) (s s' : d_S) : Prop := (∀ k, k ∉ L → s'.1 64 k = s.1 64 k) ∧ (∀ a, a ≠ 64 → s'.1 a = s.1 a) ∧ s'.2.1 = s.2.1 ∧ ∀ k, k ≠ 1011 → s'.2.2 k = s.2.2 k
theorem l_f.rf {L : List Nat} : l_f L s s := ⟨fun _ _ => rfl, fun _ _ => rfl, rfl, fun _ _ => rfl⟩
theorem l_f.tr {L : List Nat} (h : l_f L s s1) (h' : l_f L s1 s') : l_f L s s' := ⟨fun a z => (h'.1 a z).trans (h.1 a z), fun a z => (h'.2.1 a z).trans (h.2.1 a z), h'.2.2.1.trans h.2.2.1, fun k z => (h'.2.2.2 k z).trans (h.2.2.2 k z)⟩
theorem l_f.mono {L M : List Nat} (h : l_f L s s1) (hm : ∀ a, a ∈ L → a ∈ M) : l_f M s s1 := ⟨fun a z => h.1 a (fun y => z (hm a y)), h.2⟩
theorem l_f.si {L : List Nat} {k : Nat} {y : Int} (h : k ∈ L) : l_f L s (d_si s 64 k y) := ⟨fun a z => by rw [d_si_i, d_u_n (fun (e : a = k) => z (by rw [e]; exact h))], fun a z => d_si_n z, rfl, fun _ _ => rfl⟩
theorem l_f.sl {L : List Nat} {y : Int} : l_f L s (d_sl s 1011 y) := ⟨fun _ _ => rfl, fun _ _ => rfl, rfl, fun k z => d_u_n z⟩
theorem l_sl_t {k : Nat} {y : Int} : (d_sl s k y).2.2 k = y := d_u_t
theorem l_sl_1 {k : Nat} {y : Int} : (d_sl s k y).1 = s.1 := rfl
def l_B (b : Nat → Nat) (n : Nat) (s : d_S) : Prop := s.1 64 4 = (n : Int) ∧ n ≤ 300 ∧ (∀ i, i < 300 → s.1 68 i = (b i : Int)) ∧ ∀ i, b i < 256
theorem l_B.f {L : List Nat} (h : l_B b n s) (h' : l_f L s s') (h1 : 4 ∉ L) : l_B b n s' := by
  obtain ⟨a1, a2, a3, a4⟩ := h
  exact ⟨by rw [h'.1 4 h1]; exact a1, a2, fun i hi => by rw [h'.2.1 68 (by decide)]; exact a3 i hi, a4⟩
theorem l_byte (h : l_B b n s) (hq : q < n) : F_X12_byteAt s (q : Int) = some ((b q : Nat) : Int) := by
  obtain ⟨a1, a2, a3, -⟩ := h
  unfold F_X12_byteAt
  rw [a1, if_pos (by omega), d_g_t (by omega), Int.toNat_natCast, a3 q (by omega)]
theorem l_byte0 (h : l_B b n s) (hq : ¬ q < n) : F_X12_byteAt s (q : Int) = some (-1) := by
  unfold F_X12_byteAt
  rw [h.1, if_neg (by omega)]
theorem l_al_ : ∀ c : Nat, c < 256 → F_X12_isLetterByte (c : Int) = some (v_b (t_al c = true)) := by decide +kernel
theorem l_fi_ : ∀ c : Nat, c < 256 → F_X12_isFigure (c : Int) = some (v_b (t_fi c = true)) := by decide +kernel
theorem l_sg_ : ∀ c : Nat, c < 256 → F_X12_isSign (c : Int) = some (v_b (t_sg c = true)) := by decide +kernel
theorem l_al_0 : F_X12_isLetterByte (-1) = some 0 := by decide +kernel
theorem l_fi_0 : F_X12_isFigure (-1) = some 0 := by decide +kernel
theorem l_skl {K : d_S → Option d_S} : ∀ (j q m : Nat), q + j = n → j < m → ∀ s : d_S, l_B b n s → s.1 64 7 = (q : Int) → ∃ s', F_X12_nextToken_l0 K m s = K s' ∧ s'.1 64 7 = ((t_sk b n q : Nat) : Int) ∧ l_f [7] s s' := by
  intro j
  induction j with
  | zero =>
    intro q m hq hm s hB h4
    obtain ⟨m, rfl⟩ : ∃ w, m = w + 1 := ⟨m - 1, by omega⟩
    refine ⟨s, ?_, ?_, l_f.rf⟩
    · show F_X12_nextToken_l0_b K (F_X12_nextToken_l0 K m) s = _
      unfold F_X12_nextToken_l0_b
      rw [h4, l_byte0 hB (by omega), d_b_t, if_neg (by decide), d_b_t, if_neg (by decide)]
    · rw [h4]; unfold t_sk; rw [t_lp_no (fun e => absurd e.1 (by omega))]
  | succ j ih =>
    intro q m hq hm s hB h4
    obtain ⟨m, rfl⟩ : ∃ w, m = w + 1 := ⟨m - 1, by omega⟩
    have hq2 : q < n := by omega
    have hn := hB.2.1
    show ∃ s', F_X12_nextToken_l0_b K (F_X12_nextToken_l0 K m) s = _ ∧ _
    unfold F_X12_nextToken_l0_b F_X12_nextToken_j26
    rw [h4, l_byte hB hq2, d_b_t, d_b_t, d_l_t, d_w_id (x := (q : Int) + 1) (by omega) (by omega)]
    by_cases c : t_bl (b q) = true
    · obtain ⟨s', g1, g2, g3⟩ := ih (q + 1) m (by omega) (by omega) (d_si s 64 7 ((q : Int) + 1)) (hB.f (l_f.si (L := [7]) (by decide)) (by decide)) (by rw [d_si_i, d_u_t]; rfl)
      have e1 : t_sk b n q = t_sk b n (q + 1) := by unfold t_sk; rw [t_lp_go hq2 c]
      refine ⟨s', ?_, by rw [e1]; exact g2, (l_f.si (by decide)).tr g3⟩
      rcases k_bl.1 c with c | c
      · rw [if_pos (by omega)]; exact g1
      · rw [if_neg (by omega), if_pos (by omega)]; exact g1
    · refine ⟨s, ?_, ?_, l_f.rf⟩
      · have c' : ¬ (b q = 32 ∨ b q = 10) := fun e => c (k_bl.2 e)
        rw [if_neg (by omega), if_neg (by omega)]
      · rw [h4]; unfold t_sk; rw [t_lp_no (g := fun q => t_bl (b q)) (fun e => c e.2)]
theorem l_oi {v : Nat} (hv : v < 2 ^ 62) : Int64.ofInt (v : Int) = Int64.ofNat v := rfl
theorem l_ti {v : Nat} (hv : v < 2 ^ 62) : (Int64.ofNat v).toInt = (v : Int) := d_tiL (x := (v : Int)) ⟨by omega, by omega⟩
theorem l_shr {v : Nat} (hv : v < 2 ^ 62) : d_shrL (v : Int) 48 = 0 ↔ v < 2 ^ 48 := by
  rw [← t_shr hv, lg_cmp_eq]
  unfold d_shrL
  rw [l_oi hv]
  exact ⟨fun h => Int64.toInt_inj.mp (h.trans (show (0 : Int) = (Int64.ofNat 0).toInt by decide)), fun h => by
    have h' : (Int64.ofNat v >>> ((Int32.ofInt 48).toInt64 &&& 63)) = Int64.ofNat 0 := h
    rw [h']; decide⟩
theorem l_shl {v c : Nat} (hv : v < 2 ^ 48) (hc : c < 256) : d_orL (d_shlL (v : Int) 8) (c : Int) = ((256 * v + c : Nat) : Int) := by
  have h := t_shl hv hc
  have ec : (Int32.ofNat c).toInt64 = Int64.ofInt (c : Int) := by
    apply Int64.toInt_inj.mp
    rw [Int32.toInt_toInt64, d_tiL ⟨by omega, by omega⟩]
    show (Int32.ofInt (c : Int)).toInt = _
    exact d_ti ⟨by omega, by omega⟩
  unfold d_orL d_shlL
  rw [Int64.ofInt_toInt, ← ec]
  refine Eq.trans ?_ (l_ti (v := 256 * v + c) (by omega))
  rw [← h]
  rfl
theorem l_lw : ∀ (j q m : Nat), q + j = n → j < m → ∀ (s : d_S) (v : Nat), l_B b n s → s.1 64 7 = (q : Int) → v ≤ 2 ^ 60 → s.2.2 1011 = (v : Int) → ∃ s', F_X12_nextToken_l168 m s = some s' ∧ s'.1 64 7 = (((t_lp n (fun q => t_al (b q)) (t_wst b) q v).1 : Nat) : Int) ∧ s'.2.2 1011 = (((t_lp n (fun q => t_al (b q)) (t_wst b) q v).2 : Nat) : Int) ∧ l_f [7] s s' := by
  intro j
  induction j with
  | zero =>
    intro q m hq hm s v hB h4 hv h11
    obtain ⟨m, rfl⟩ : ∃ w, m = w + 1 := ⟨m - 1, by omega⟩
    rw [t_lp_no (fun e => absurd e.1 (by omega))]
    refine ⟨s, ?_, h4, h11, l_f.rf⟩
    show F_X12_nextToken_l168_b (F_X12_nextToken_l168 m) s = _
    unfold F_X12_nextToken_l168_b
    rw [h4, l_byte0 hB (by omega), d_b_t, l_al_0, d_b_t, if_pos rfl]
  | succ j ih =>
    intro q m hq hm s v hB h4 hv h11
    obtain ⟨m, rfl⟩ : ∃ w, m = w + 1 := ⟨m - 1, by omega⟩
    have hq2 : q < n := by omega
    have hn := hB.2.1
    have hbq := hB.2.2.2 q
    show ∃ s', F_X12_nextToken_l168_b (F_X12_nextToken_l168 m) s = _ ∧ _
    unfold F_X12_nextToken_l168_b F_X12_nextToken_j218
    rw [h4, l_byte hB hq2, d_b_t, l_al_ _ hbq, d_b_t, d_b_t, h11]
    by_cases c : t_al (b q) = true
    rotate_left
    · rw [t_lp_no (g := fun q => t_al (b q)) (fun e => c e.2), v_bf c, if_pos rfl]
      exact ⟨s, rfl, h4, h11, l_f.rf⟩
    rw [t_lp_go hq2 c, v_bt c, if_neg (by decide)]
    have e4 : ∀ y, (d_sl s 1011 y).1 64 7 = (q : Int) := fun y => h4
    have hgo : ∀ w : Nat, w ≤ 2 ^ 60 → w = t_wst b q v → ∃ s', d_l (d_sl s 1011 (w : Int)) (fun s21 => d_l (d_si s21 64 7 (d_w ((s21.1 64 7) + 1))) (fun s22 => F_X12_nextToken_l168 m s22)) = some s' ∧ s'.1 64 7 = (((t_lp n (fun q => t_al (b q)) (t_wst b) (q + 1) (t_wst b q v)).1 : Nat) : Int) ∧ s'.2.2 1011 = (((t_lp n (fun q => t_al (b q)) (t_wst b) (q + 1) (t_wst b q v)).2 : Nat) : Int) ∧ l_f [7] s s' := by
      intro w hw hwe
      rw [d_l_t, d_l_t, e4, d_w_id (x := (q : Int) + 1) (by omega) (by omega)]
      have f1 : l_f [7] s (d_si (d_sl s 1011 (w : Int)) 64 7 ((q : Int) + 1)) := l_f.sl.tr (l_f.si (by decide))
      obtain ⟨s', g1, g2, g3, g4⟩ := ih (q + 1) m (by omega) (by omega) (d_si (d_sl s 1011 (w : Int)) 64 7 ((q : Int) + 1)) w (hB.f f1 (by decide)) (by rw [d_si_i, d_u_t]; rfl) hw (by rw [d_si_2]; exact l_sl_t)
      rw [← hwe]
      exact ⟨s', g1, g2, g3, f1.tr g4⟩
    by_cases c2 : v < 2 ^ 48
    · rw [if_pos ((l_shr (by omega)).2 c2), l_shl c2 hbq]
      exact hgo _ (by omega) (by unfold t_wst; rw [if_neg (by omega)])
    · rw [if_neg (fun e => c2 ((l_shr (by omega)).1 e))]
      exact hgo (2 ^ 60) (Nat.le_refl _) (by unfold t_wst; rw [if_pos (by omega)])
theorem l_ln : ∀ (j q m : Nat), q + j = n → j < m → ∀ (s : d_S) (v : Nat), l_B b n s → s.1 64 7 = (q : Int) → v ≤ 1000000 → s.1 64 10 = (v : Int) → ∃ s', F_X12_nextToken_l85 m s = some s' ∧ s'.1 64 7 = (((t_lp n (fun q => t_fi (b q)) (t_ns b) q v).1 : Nat) : Int) ∧ s'.1 64 10 = (((t_lp n (fun q => t_fi (b q)) (t_ns b) q v).2 : Nat) : Int) ∧ l_f [7, 10] s s' := by
  intro j
  induction j with
  | zero =>
    intro q m hq hm s v hB h4 hv h11
    obtain ⟨m, rfl⟩ : ∃ w, m = w + 1 := ⟨m - 1, by omega⟩
    rw [t_lp_no (fun e => absurd e.1 (by omega))]
    refine ⟨s, ?_, h4, h11, l_f.rf⟩
    show F_X12_nextToken_l85_b (F_X12_nextToken_l85 m) s = _
    unfold F_X12_nextToken_l85_b
    rw [h4, l_byte0 hB (by omega), d_b_t, l_fi_0, d_b_t, if_pos rfl]
  | succ j ih =>
    intro q m hq hm s v hB h4 hv h11
    obtain ⟨m, rfl⟩ : ∃ w, m = w + 1 := ⟨m - 1, by omega⟩
    have hq2 : q < n := by omega
    have hn := hB.2.1
    have hbq := hB.2.2.2 q
    show ∃ s', F_X12_nextToken_l85_b (F_X12_nextToken_l85 m) s = _ ∧ _
    unfold F_X12_nextToken_l85_b F_X12_nextToken_j135
    rw [h4, l_byte hB hq2, d_b_t, l_fi_ _ hbq, d_b_t, d_b_t, h11]
    by_cases c : t_fi (b q) = true
    rotate_left
    · rw [t_lp_no (g := fun q => t_fi (b q)) (fun e => c e.2), v_bf c, if_pos rfl]
      exact ⟨s, rfl, h4, h11, l_f.rf⟩
    have e48 : 48 ≤ b q ∧ b q ≤ 57 := by
      unfold t_fi at c
      rw [Bool.and_eq_true] at c
      exact ⟨Nat.le_of_ble_eq_true c.1, Nat.le_of_ble_eq_true c.2⟩
    rw [t_lp_go hq2 c, v_bt c, if_neg (by decide)]
    have hgo : ∀ w : Nat, w ≤ 1000000 → w = t_ns b q v → ∃ s', d_l (d_si s 64 10 (w : Int)) (fun s21 => d_l (d_si s21 64 7 (d_w ((s21.1 64 7) + 1))) (fun s22 => F_X12_nextToken_l85 m s22)) = some s' ∧ s'.1 64 7 = (((t_lp n (fun q => t_fi (b q)) (t_ns b) (q + 1) (t_ns b q v)).1 : Nat) : Int) ∧ s'.1 64 10 = (((t_lp n (fun q => t_fi (b q)) (t_ns b) (q + 1) (t_ns b q v)).2 : Nat) : Int) ∧ l_f [7, 10] s s' := by
      intro w hw hwe
      have e4 : (d_si s 64 10 (w : Int)).1 64 7 = (q : Int) := by rw [d_si_i, d_u_n (by decide)]; exact h4
      rw [d_l_t, d_l_t, e4, d_w_id (x := (q : Int) + 1) (by omega) (by omega)]
      have f1 : l_f [7, 10] s (d_si (d_si s 64 10 (w : Int)) 64 7 ((q : Int) + 1)) := (l_f.si (by decide)).tr (l_f.si (by decide))
      obtain ⟨s', g1, g2, g3, g4⟩ := ih (q + 1) m (by omega) (by omega) (d_si (d_si s 64 10 (w : Int)) 64 7 ((q : Int) + 1)) w (hB.f f1 (by decide)) (by rw [d_si_i, d_u_t]; rfl) hw (by rw [d_si_i, d_u_n (by decide), d_si_i, d_u_t])
      rw [← hwe]
      exact ⟨s', g1, g2, g3, f1.tr g4⟩
    by_cases c2 : 99999 < v
    · rw [if_pos (by omega)]
      exact hgo v hv (by unfold t_ns; rw [if_pos c2])
    · rw [if_neg (by omega), d_w_id (by omega) (by omega)]
      have e1 : 10 * (v : Int) + ((b q : Nat) : Int) - 48 = ((10 * v + b q - 48 : Nat) : Int) := by omega
      rw [e1]
      exact hgo _ (by omega) (by unfold t_ns; rw [if_neg c2])
def l_T (b : Nat → Nat) (n p : Nat) (s : d_S) : Prop := l_B b n s ∧ s.1 64 8 = (p : Int) ∧ (¬ (t_k b n p = 3 ∧ (b p = 60 ∨ b p = 62)) → s.1 64 7 = ((t_e b n p : Nat) : Int)) ∧ (t_k b n p = 0 ↔ s.1 64 9 = 0) ∧ (t_k b n p = 1 ↔ s.1 64 9 = 2) ∧ (t_k b n p = 2 ↔ s.1 64 9 = 1) ∧ (t_k b n p = 1 → s.2.2 1011 = ((t_w b n p : Nat) : Int)) ∧ (t_k b n p = 2 → s.1 64 10 = ((t_n b n p : Nat) : Int)) ∧ ∀ c : Nat, (c = 40 ∨ c = 41 ∨ c = 42 ∨ c = 43 ∨ c = 44 ∨ c = 45 ∨ c = 47 ∨ c = 58 ∨ c = 59) → (s.1 64 9 = (c : Int) ↔ t_is b n p c = true)
theorem l_T.f {L : List Nat} (h : l_T b n p s) (h' : l_f L s s') (h11 : s'.2.2 1011 = s.2.2 1011) (h1 : 4 ∉ L ∧ 7 ∉ L ∧ 8 ∉ L ∧ 9 ∉ L ∧ 10 ∉ L) : l_T b n p s' := by
  obtain ⟨a1, a2, a3, a4⟩ := h
  refine ⟨a1.f h' h1.1, by rw [h'.1 8 h1.2.2.1]; exact a2, by rw [h'.1 7 h1.2.1]; exact a3, ?_⟩
  rw [h'.1 9 h1.2.2.2.1, h'.1 10 h1.2.2.2.2, h11]
  exact a4
theorem l_e_no {k : Nat} (hk : t_k b n p = k) (h : k ≠ 3) {c : Nat} : ¬ t_is b n p c = true := fun e => h (hk.symm.trans (t_is_iff.mp e).1)
end X5

section X5
variable {s s1 s' : d_S} {b : Nat → Nat} {n p q : Nat} {x : Int}
def l_f (L : List Nat) (s s' : d_S) : Prop := (∀ k, k ∉ L → s'.1 64 k = s.1 64 k) ∧ (∀ a, a ≠ 64 → s'.1 a = s.1 a) ∧ s'.2.1 = s.2.1 ∧ ∀ k, k ≠ 1011 → s'.2.2 k = s.2.2 k
theorem l_f.rf {L : List Nat} : l_f L s s := ⟨fun _ _ => rfl, fun _ _ => rfl, rfl, fun _ _ => rfl⟩
theorem l_f.tr {L : List Nat} (h : l_f L s s1) (h' : l_f L s1 s') : l_f L s s' := ⟨fun a z => (h'.1 a z).trans (h.1 a z), fun a z => (h'.2.1 a z).trans (h.2.1 a z), h'.2.2.1.trans h.2.2.1, fun k z => (h'.2.2.2 k z).trans (h.2.2.2 k z)⟩
theorem l_f.mono {L M : List Nat} (h : l_f L s s1) (hm : ∀ a, a ∈ L → a ∈ M) : l_f M s s1 := ⟨fun a z => h.1 a (fun y => z (hm a y)), h.2⟩
theorem l_f.si {L : List Nat} {k : Nat} {y : Int} (h : k ∈ L) : l_f L s (d_si s 64 k y) := ⟨fun a z => by rw [d_si_i, d_u_n (fun (e : a = k) => z (by rw [e]; exact h))], fun a z => d_si_n z, rfl, fun _ _ => rfl⟩
theorem l_f.sl {L : List Nat} {y : Int} : l_f L s (d_sl s 1011 y) := ⟨fun _ _ => rfl, fun _ _ => rfl, rfl, fun k z => d_u_n z⟩
theorem l_sl_t {k : Nat} {y : Int} : (d_sl s k y).2.2 k = y := d_u_t
theorem l_sl_1 {k : Nat} {y : Int} : (d_sl s k y).1 = s.1 := rfl
def l_B (b : Nat → Nat) (n : Nat) (s : d_S) : Prop := s.1 64 4 = (n : Int) ∧ n ≤ 300 ∧ (∀ i, i < 300 → s.1 68 i = (b i : Int)) ∧ ∀ i, b i < 256
theorem l_B.f {L : List Nat} (h : l_B b n s) (h' : l_f L s s') (h1 : 4 ∉ L) : l_B b n s' := by
  obtain ⟨a1, a2, a3, a4⟩ := h
  exact ⟨by rw [h'.1 4 h1]; exact a1, a2, fun i hi => by rw [h'.2.1 68 (by decide)]; exact a3 i hi, a4⟩
theorem l_byte (h : l_B b n s) (hq : q < n) : F_X12_byteAt s (q : Int) = some ((b q : Nat) : Int) := by
  obtain ⟨a1, a2, a3, -⟩ := h
  unfold F_X12_byteAt
  rw [a1, if_pos (by omega), d_g_t (by omega), Int.toNat_natCast, a3 q (by omega)]
theorem l_byte0 (h : l_B b n s) (hq : ¬ q < n) : F_X12_byteAt s (q : Int) = some (-1) := by
  unfold F_X12_byteAt
  rw [h.1, if_neg (by omega)]
theorem l_al_ : ∀ c : Nat, c < 256 → F_X12_isLetterByte (c : Int) = some (v_b (t_al c = true)) := by decide +kernel
theorem l_fi_ : ∀ c : Nat, c < 256 → F_X12_isFigure (c : Int) = some (v_b (t_fi c = true)) := by decide +kernel
theorem l_sg_ : ∀ c : Nat, c < 256 → F_X12_isSign (c : Int) = some (v_b (t_sg c = true)) := by decide +kernel
theorem l_al_0 : F_X12_isLetterByte (-1) = some 0 := by decide +kernel
theorem l_fi_0 : F_X12_isFigure (-1) = some 0 := by decide +kernel
theorem l_skl {K : d_S → Option d_S} : ∀ (j q m : Nat), q + j = n → j < m → ∀ s : d_S, l_B b n s → s.1 64 7 = (q : Int) → ∃ s', F_X12_nextToken_l0 K m s = K s' ∧ s'.1 64 7 = ((t_sk b n q : Nat) : Int) ∧ l_f [7] s s' := by
  intro j
  induction j with
  | zero =>
    intro q m hq hm s hB h4
    obtain ⟨m, rfl⟩ : ∃ w, m = w + 1 := ⟨m - 1, by omega⟩
    refine ⟨s, ?_, ?_, l_f.rf⟩
    · show F_X12_nextToken_l0_b K (F_X12_nextToken_l0 K m) s = _
      unfold F_X12_nextToken_l0_b
      rw [h4, l_byte0 hB (by omega), d_b_t, if_neg (by decide), d_b_t, if_neg (by decide)]
    · rw [h4]; unfold t_sk; rw [t_lp_no (fun e => absurd e.1 (by omega))]
  | succ j ih =>
    intro q m hq hm s hB h4
    obtain ⟨m, rfl⟩ : ∃ w, m = w + 1 := ⟨m - 1, by omega⟩
    have hq2 : q < n := by omega
    have hn := hB.2.1
    show ∃ s', F_X12_nextToken_l0_b K (F_X12_nextToken_l0 K m) s = _ ∧ _
    unfold F_X12_nextToken_l0_b F_X12_nextToken_j26
    rw [h4, l_byte hB hq2, d_b_t, d_b_t, d_l_t, d_w_id (x := (q : Int) + 1) (by omega) (by omega)]
    by_cases c : t_bl (b q) = true
    · obtain ⟨s', g1, g2, g3⟩ := ih (q + 1) m (by omega) (by omega) (d_si s 64 7 ((q : Int) + 1)) (hB.f (l_f.si (L := [7]) (by decide)) (by decide)) (by rw [d_si_i, d_u_t]; rfl)
      have e1 : t_sk b n q = t_sk b n (q + 1) := by unfold t_sk; rw [t_lp_go hq2 c]
      refine ⟨s', ?_, by rw [e1]; exact g2, (l_f.si (by decide)).tr g3⟩
      rcases k_bl.1 c with c | c
      · rw [if_pos (by omega)]; exact g1
      · rw [if_neg (by omega), if_pos (by omega)]; exact g1
    · refine ⟨s, ?_, ?_, l_f.rf⟩
      · have c' : ¬ (b q = 32 ∨ b q = 10) := fun e => c (k_bl.2 e)
        rw [if_neg (by omega), if_neg (by omega)]
      · rw [h4]; unfold t_sk; rw [t_lp_no (g := fun q => t_bl (b q)) (fun e => c e.2)]
theorem l_oi {v : Nat} (hv : v < 2 ^ 62) : Int64.ofInt (v : Int) = Int64.ofNat v := rfl
theorem l_ti {v : Nat} (hv : v < 2 ^ 62) : (Int64.ofNat v).toInt = (v : Int) := d_tiL (x := (v : Int)) ⟨by omega, by omega⟩
theorem l_shr {v : Nat} (hv : v < 2 ^ 62) : d_shrL (v : Int) 48 = 0 ↔ v < 2 ^ 48 := by
  rw [← t_shr hv, lg_cmp_eq]
  unfold d_shrL
  rw [l_oi hv]
  exact ⟨fun h => Int64.toInt_inj.mp (h.trans (show (0 : Int) = (Int64.ofNat 0).toInt by decide)), fun h => by
    have h' : (Int64.ofNat v >>> ((Int32.ofInt 48).toInt64 &&& 63)) = Int64.ofNat 0 := h
    rw [h']; decide⟩
theorem l_shl {v c : Nat} (hv : v < 2 ^ 48) (hc : c < 256) : d_orL (d_shlL (v : Int) 8) (c : Int) = ((256 * v + c : Nat) : Int) := by
  have h := t_shl hv hc
  have ec : (Int32.ofNat c).toInt64 = Int64.ofInt (c : Int) := by
    apply Int64.toInt_inj.mp
    rw [Int32.toInt_toInt64, d_tiL ⟨by omega, by omega⟩]
    show (Int32.ofInt (c : Int)).toInt = _
    exact d_ti ⟨by omega, by omega⟩
  unfold d_orL d_shlL
  rw [Int64.ofInt_toInt, ← ec]
  refine Eq.trans ?_ (l_ti (v := 256 * v + c) (by omega))
  rw [← h]
  rfl
theorem l_lw : ∀ (j q m : Nat), q + j = n → j < m → ∀ (s : d_S) (v : Nat), l_B b n s → s.1 64 7 = (q : Int) → v ≤ 2 ^ 60 → s.2.2 1011 = (v : Int) → ∃ s', F_X12_nextToken_l168 m s = some s' ∧ s'.1 64 7 = (((t_lp n (fun q => t_al (b q)) (t_wst b) q v).1 : Nat) : Int) ∧ s'.2.2 1011 = (((t_lp n (fun q => t_al (b q)) (t_wst b) q v).2 : Nat) : Int) ∧ l_f [7] s s' := by
  intro j
  induction j with
  | zero =>
    intro q m hq hm s v hB h4 hv h11
    obtain ⟨m, rfl⟩ : ∃ w, m = w + 1 := ⟨m - 1, by omega⟩
    rw [t_lp_no (fun e => absurd e.1 (by omega))]
    refine ⟨s, ?_, h4, h11, l_f.rf⟩
    show F_X12_nextToken_l168_b (F_X12_nextToken_l168 m) s = _
    unfold F_X12_nextToken_l168_b
    rw [h4, l_byte0 hB (by omega), d_b_t, l_al_0, d_b_t, if_pos rfl]
  | succ j ih =>
    intro q m hq hm s v hB h4 hv h11
    obtain ⟨m, rfl⟩ : ∃ w, m = w + 1 := ⟨m - 1, by omega⟩
    have hq2 : q < n := by omega
    have hn := hB.2.1
    have hbq := hB.2.2.2 q
    show ∃ s', F_X12_nextToken_l168_b (F_X12_nextToken_l168 m) s = _ ∧ _
    unfold F_X12_nextToken_l168_b F_X12_nextToken_j218
    rw [h4, l_byte hB hq2, d_b_t, l_al_ _ hbq, d_b_t, d_b_t, h11]
    by_cases c : t_al (b q) = true
    rotate_left
    · rw [t_lp_no (g := fun q => t_al (b q)) (fun e => c e.2), v_bf c, if_pos rfl]
      exact ⟨s, rfl, h4, h11, l_f.rf⟩
    rw [t_lp_go hq2 c, v_bt c, if_neg (by decide)]
    have e4 : ∀ y, (d_sl s 1011 y).1 64 7 = (q : Int) := fun y => h4
    have hgo : ∀ w : Nat, w ≤ 2 ^ 60 → w = t_wst b q v → ∃ s', d_l (d_sl s 1011 (w : Int)) (fun s21 => d_l (d_si s21 64 7 (d_w ((s21.1 64 7) + 1))) (fun s22 => F_X12_nextToken_l168 m s22)) = some s' ∧ s'.1 64 7 = (((t_lp n (fun q => t_al (b q)) (t_wst b) (q + 1) (t_wst b q v)).1 : Nat) : Int) ∧ s'.2.2 1011 = (((t_lp n (fun q => t_al (b q)) (t_wst b) (q + 1) (t_wst b q v)).2 : Nat) : Int) ∧ l_f [7] s s' := by
      intro w hw hwe
      rw [d_l_t, d_l_t, e4, d_w_id (x := (q : Int) + 1) (by omega) (by omega)]
      have f1 : l_f [7] s (d_si (d_sl s 1011 (w : Int)) 64 7 ((q : Int) + 1)) := l_f.sl.tr (l_f.si (by decide))
      obtain ⟨s', g1, g2, g3, g4⟩ := ih (q + 1) m (by omega) (by omega) (d_si (d_sl s 1011 (w : Int)) 64 7 ((q : Int) + 1)) w (hB.f f1 (by decide)) (by rw [d_si_i, d_u_t]; rfl) hw (by rw [d_si_2]; exact l_sl_t)
      rw [← hwe]
      exact ⟨s', g1, g2, g3, f1.tr g4⟩
    by_cases c2 : v < 2 ^ 48
    · rw [if_pos ((l_shr (by omega)).2 c2), l_shl c2 hbq]
      exact hgo _ (by omega) (by unfold t_wst; rw [if_neg (by omega)])
    · rw [if_neg (fun e => c2 ((l_shr (by omega)).1 e))]
      exact hgo (2 ^ 60) (Nat.le_refl _) (by unfold t_wst; rw [if_pos (by omega)])
theorem l_ln : ∀ (j q m : Nat), q + j = n → j < m → ∀ (s : d_S) (v : Nat), l_B b n s → s.1 64 7 = (q : Int) → v ≤ 1000000 → s.1 64 10 = (v : Int) → ∃ s', F_X12_nextToken_l85 m s = some s' ∧ s'.1 64 7 = (((t_lp n (fun q => t_fi (b q)) (t_ns b) q v).1 : Nat) : Int) ∧ s'.1 64 10 = (((t_lp n (fun q => t_fi (b q)) (t_ns b) q v).2 : Nat) : Int) ∧ l_f [7, 10] s s' := by
  intro j
  induction j with
  | zero =>
    intro q m hq hm s v hB h4 hv h11
    obtain ⟨m, rfl⟩ : ∃ w, m = w + 1 := ⟨m - 1, by omega⟩
    rw [t_lp_no (fun e => absurd e.1 (by omega))]
    refine ⟨s, ?_, h4, h11, l_f.rf⟩
    show F_X12_nextToken_l85_b (F_X12_nextToken_l85 m) s = _
    unfold F_X12_nextToken_l85_b
    rw [h4, l_byte0 hB (by omega), d_b_t, l_fi_0, d_b_t, if_pos rfl]
  | succ j ih =>
    intro q m hq hm s v hB h4 hv h11
    obtain ⟨m, rfl⟩ : ∃ w, m = w + 1 := ⟨m - 1, by omega⟩
    have hq2 : q < n := by omega
    have hn := hB.2.1
    have hbq := hB.2.2.2 q
    show ∃ s', F_X12_nextToken_l85_b (F_X12_nextToken_l85 m) s = _ ∧ _
    unfold F_X12_nextToken_l85_b F_X12_nextToken_j135
    rw [h4, l_byte hB hq2, d_b_t, l_fi_ _ hbq, d_b_t, d_b_t, h11]
    by_cases c : t_fi (b q) = true
    rotate_left
    · rw [t_lp_no (g := fun q => t_fi (b q)) (fun e => c e.2), v_bf c, if_pos rfl]
      exact ⟨s, rfl, h4, h11, l_f.rf⟩
    have e48 : 48 ≤ b q ∧ b q ≤ 57 := by
      unfold t_fi at c
      rw [Bool.and_eq_true] at c
      exact ⟨Nat.le_of_ble_eq_true c.1, Nat.le_of_ble_eq_true c.2⟩
    rw [t_lp_go hq2 c, v_bt c, if_neg (by decide)]
    have hgo : ∀ w : Nat, w ≤ 1000000 → w = t_ns b q v → ∃ s', d_l (d_si s 64 10 (w : Int)) (fun s21 => d_l (d_si s21 64 7 (d_w ((s21.1 64 7) + 1))) (fun s22 => F_X12_nextToken_l85 m s22)) = some s' ∧ s'.1 64 7 = (((t_lp n (fun q => t_fi (b q)) (t_ns b) (q + 1) (t_ns b q v)).1 : Nat) : Int) ∧ s'.1 64 10 = (((t_lp n (fun q => t_fi (b q)) (t_ns b) (q + 1) (t_ns b q v)).2 : Nat) : Int) ∧ l_f [7, 10] s s' := by
      intro w hw hwe
      have e4 : (d_si s 64 10 (w : Int)).1 64 7 = (q : Int) := by rw [d_si_i, d_u_n (by decide)]; exact h4
      rw [d_l_t, d_l_t, e4, d_w_id (x := (q : Int) + 1) (by omega) (by omega)]
      have f1 : l_f [7, 10] s (d_si (d_si s 64 10 (w : Int)) 64 7 ((q : Int) + 1)) := (l_f.si (by decide)).tr (l_f.si (by decide))
      obtain ⟨s', g1, g2, g3, g4⟩ := ih (q + 1) m (by omega) (by omega) (d_si (d_si s 64 10 (w : Int)) 64 7 ((q : Int) + 1)) w (hB.f f1 (by decide)) (by rw [d_si_i, d_u_t]; rfl) hw (by rw [d_si_i, d_u_n (by decide), d_si_i, d_u_t])
      rw [← hwe]
      exact ⟨s', g1, g2, g3, f1.tr g4⟩
    by_cases c2 : 99999 < v
    · rw [if_pos (by omega)]
      exact hgo v hv (by unfold t_ns; rw [if_pos c2])
    · rw [if_neg (by omega), d_w_id (by omega) (by omega)]
      have e1 : 10 * (v : Int) + ((b q : Nat) : Int) - 48 = ((10 * v + b q - 48 : Nat) : Int) := by omega
      rw [e1]
      exact hgo _ (by omega) (by unfold t_ns; rw [if_neg c2])
def l_T (b : Nat → Nat) (n p : Nat) (s : d_S) : Prop := l_B b n s ∧ s.1 64 8 = (p : Int) ∧ (¬ (t_k b n p = 3 ∧ (b p = 60 ∨ b p = 62)) → s.1 64 7 = ((t_e b n p : Nat) : Int)) ∧ (t_k b n p = 0 ↔ s.1 64 9 = 0) ∧ (t_k b n p = 1 ↔ s.1 64 9 = 2) ∧ (t_k b n p = 2 ↔ s.1 64 9 = 1) ∧ (t_k b n p = 1 → s.2.2 1011 = ((t_w b n p : Nat) : Int)) ∧ (t_k b n p = 2 → s.1 64 10 = ((t_n b n p : Nat) : Int)) ∧ ∀ c : Nat, (c = 40 ∨ c = 41 ∨ c = 42 ∨ c = 43 ∨ c = 44 ∨ c = 45 ∨ c = 47 ∨ c = 58 ∨ c = 59) → (s.1 64 9 = (c : Int) ↔ t_is b n p c = true)
theorem l_T.f {L : List Nat} (h : l_T b n p s) (h' : l_f L s s') (h11 : s'.2.2 1011 = s.2.2 1011) (h1 : 4 ∉ L ∧ 7 ∉ L ∧ 8 ∉ L ∧ 9 ∉ L ∧ 10 ∉ L) : l_T b n p s' := by
  obtain ⟨a1, a2, a3, a4⟩ := h
  refine ⟨a1.f h' h1.1, by rw [h'.1 8 h1.2.2.1]; exact a2, by rw [h'.1 7 h1.2.1]; exact a3, ?_⟩
  rw [h'.1 9 h1.2.2.2.1, h'.1 10 h1.2.2.2.2, h11]
  exact a4
theorem l_e_no {k : Nat} (hk : t_k b n p = k) (h : k ≠ 3) {c : Nat} : ¬ t_is b n p c = true := fun e => h (hk.symm.trans (t_is_iff.mp e).1)
end X5
section X6
variable {s s1 s' : d_S} {b : Nat → Nat} {n p q : Nat} {x : Int}
theorem l_stp (hB : l_B b n s) (h4 : s.1 64 7 = (q : Int)) (hq : q ≤ n) : ∃ s', F_X12_nextToken s = some s' ∧ l_T b n (t_sk b n q) s' ∧ l_f [7, 8, 9, 10] s s' := by
  obtain ⟨K, hK⟩ : ∃ K : d_S → Option d_S, K = fun s_u4 => d_l (d_si s_u4 64 8 (s_u4.1 64 7)) (fun s5 => d_b (F_X12_byteAt s5 (s5.1 64 7)) (fun v6 => if v6 < 0 then d_l (d_si s5 64 9 0) (fun s7 => some s7) else d_b (F_X12_isFigure v6) (fun v8 => if v8 = 0 then d_b (F_X12_isLetterByte v6) (fun v9 => if v9 = 0 then d_b (F_X12_isSign v6) (fun v10 => if v10 = 0 then F_X12_nextToken_j247 v6 3 s5 else F_X12_nextToken_j247 v6 v6 s5) else d_l (d_si s5 64 9 2) (fun s16 => d_l (d_sl s16 1011 0) (fun s17 => F_X12_nextToken_l168 d_N s17))) else d_l (d_si s5 64 9 1) (fun s23 => d_l (d_si s23 64 10 0) (fun s24 => F_X12_nextToken_l85 d_N s24))))) := ⟨_, rfl⟩
  have hgo : F_X12_nextToken s = F_X12_nextToken_l0 K d_N s := by rw [hK]; rfl
  obtain ⟨s1, a1, a2, a3⟩ := l_skl (b := b) (n := n) (K := K) (n - q) q d_N (by omega) (by rw [d_N_is]; have := hB.2.1; omega) s hB h4
  have hp := t_sk_le (b := b) hq
  obtain ⟨p, hpe⟩ : ∃ p, p = t_sk b n q := ⟨_, rfl⟩
  rw [← hpe] at a2 hp ⊢
  have hn := hB.2.1
  have hB1 : l_B b n s1 := hB.f a3 (by decide)
  obtain ⟨s5, hs5⟩ : ∃ z, z = d_si s1 64 8 (p : Int) := ⟨_, rfl⟩
  have f5 : l_f [8] s1 s5 := by rw [hs5]; exact l_f.si (by decide)
  have e57 : s5.1 64 7 = (p : Int) := by rw [f5.1 7 (by decide)]; exact a2
  have e58 : s5.1 64 8 = (p : Int) := by rw [hs5, d_si_i, d_u_t]
  have hB5 : l_B b n s5 := hB1.f f5 (by decide)
  have f15 : l_f [7, 8, 9, 10] s s5 := (a3.mono (by decide)).tr (f5.mono (by decide))
  rw [hgo, a1, hK]
  show ∃ s', d_l (d_si s1 64 8 (s1.1 64 7)) _ = _ ∧ _
  rw [d_l_t, a2, ← hs5, e57]
  by_cases c : p < n
  rotate_left
  · have hk : t_k b n p = 0 := t_k_end c
    have he : t_e b n p = p := by unfold t_e; rw [hk]; rfl
    have f6 : l_f [9] s5 (d_si s5 64 9 0) := l_f.si (by decide)
    rw [l_byte0 hB5 c, d_b_t, if_pos (by decide), d_l_t]
    refine ⟨d_si s5 64 9 0, rfl, ⟨hB5.f f6 (by decide), by rw [f6.1 8 (by decide)]; exact e58, fun _ => by rw [f6.1 7 (by decide), he]; exact e57, ?_⟩, f15.tr (f6.mono (by decide))⟩
    rw [d_si_i, d_u_t, hk]
    refine ⟨⟨fun _ => rfl, fun _ => rfl⟩, ⟨fun e => absurd e (by decide), fun e => absurd e (by decide)⟩, ⟨fun e => absurd e (by decide), fun e => absurd e (by decide)⟩, fun e => absurd e (by decide), fun e => absurd e (by decide), fun cc hc => ⟨fun e => by omega, fun e => absurd e (l_e_no hk (by decide))⟩⟩
  have hbp := hB.2.2.2 p
  rw [l_byte hB5 c, d_b_t, if_neg (by omega), l_fi_ _ hbp, d_b_t]
  by_cases cf : t_fi (b p) = true
  · have ca := t_al_fi cf
    have hk : t_k b n p = 2 := t_k_n c ca cf
    obtain ⟨s6, hs6⟩ : ∃ z, z = d_si (d_si s5 64 9 1) 64 10 0 := ⟨_, rfl⟩
    have f6 : l_f [9, 10] s5 s6 := by rw [hs6]; exact (l_f.si (by decide)).tr (l_f.si (by decide))
    have e69 : s6.1 64 9 = 1 := by rw [hs6, d_si_i, d_u_n (by decide), d_si_i, d_u_t]
    obtain ⟨s7, g1, g2, g3, g4⟩ := l_ln (b := b) (n := n) (n - p) p d_N (by omega) (by rw [d_N_is]; omega) s6 0 (hB5.f f6 (by decide)) (by rw [f6.1 7 (by decide)]; exact e57) (by decide) (by rw [hs6, d_si_i, d_u_t]; rfl)
    rw [v_bt cf, if_neg (by decide), d_l_t, d_l_t, ← hs6]
    have f7 := f6.mono (M := [7, 8, 9, 10]) (by decide)
    have f8 := g4.mono (M := [7, 8, 9, 10]) (by decide)
    have he : t_e b n p = (t_nl b n p).1 := by unfold t_e; rw [hk]; rfl
    refine ⟨s7, g1, ⟨(hB5.f f6 (by decide)).f g4 (by decide), by rw [g4.1 8 (by decide), f6.1 8 (by decide)]; exact e58, fun _ => by rw [he]; exact g2, ?_⟩, (f15.tr f7).tr f8⟩
    rw [g4.1 9 (by decide), e69, hk]
    refine ⟨⟨fun e => absurd e (by decide), fun e => absurd e (by decide)⟩, ⟨fun e => absurd e (by decide), fun e => absurd e (by decide)⟩, ⟨fun _ => rfl, fun _ => rfl⟩, fun e => absurd e (by decide), fun _ => g3, fun cc hc => ⟨fun e => by omega, fun e => absurd e (l_e_no hk (by decide))⟩⟩
  rw [v_bf cf, if_pos rfl, l_al_ _ hbp, d_b_t]
  by_cases ca : t_al (b p) = true
  · have hk : t_k b n p = 1 := t_k_w c ca
    obtain ⟨s6, hs6⟩ : ∃ z, z = d_sl (d_si s5 64 9 2) 1011 0 := ⟨_, rfl⟩
    have f6 : l_f [9] s5 s6 := by rw [hs6]; exact (l_f.si (by decide)).tr l_f.sl
    have e69 : s6.1 64 9 = 2 := by rw [hs6, l_sl_1, d_si_i, d_u_t]
    obtain ⟨s7, g1, g2, g3, g4⟩ := l_lw (b := b) (n := n) (n - p) p d_N (by omega) (by rw [d_N_is]; omega) s6 0 (hB5.f f6 (by decide)) (by rw [f6.1 7 (by decide)]; exact e57) (by decide) (by rw [hs6]; exact l_sl_t)
    rw [v_bt ca, if_neg (by decide), d_l_t, d_l_t, ← hs6]
    have f7 := f6.mono (M := [7, 8, 9, 10]) (by decide)
    have f8 := g4.mono (M := [7, 8, 9, 10]) (by decide)
    have he : t_e b n p = (t_wl b n p).1 := by unfold t_e; rw [hk]; rfl
    refine ⟨s7, g1, ⟨(hB5.f f6 (by decide)).f g4 (by decide), by rw [g4.1 8 (by decide), f6.1 8 (by decide)]; exact e58, fun _ => by rw [he]; exact g2, ?_⟩, (f15.tr f7).tr f8⟩
    rw [g4.1 9 (by decide), e69, hk]
    refine ⟨⟨fun e => absurd e (by decide), fun e => absurd e (by decide)⟩, ⟨fun _ => rfl, fun _ => rfl⟩, ⟨fun e => absurd e (by decide), fun e => absurd e (by decide)⟩, fun _ => g3, fun e => absurd e (by decide), fun cc hc => ⟨fun e => by omega, fun e => absurd e (l_e_no hk (by decide))⟩⟩
  have hk : t_k b n p = 3 := t_k_s c (Bool.eq_false_iff.mpr ca) (Bool.eq_false_iff.mpr cf)
  have he : t_e b n p = p + 1 := by unfold t_e; rw [hk]; rfl
  rw [v_bf ca, if_pos rfl, l_sg_ _ hbp, d_b_t]
  have hj : ∀ y : Int, y = (if t_sg (b p) = true then ((b p : Nat) : Int) else 3) → ∃ s', F_X12_nextToken_j247 ((b p : Nat) : Int) y s5 = some s' ∧ l_T b n p s' ∧ l_f [7, 8, 9, 10] s s' := by
    intro y hy
    have hs60 : 60 ≤ b p → b p ≤ 62 → t_sg (b p) = true := fun g1 g2 => by
      have : ∀ c : Nat, c < 256 → 60 ≤ c → c ≤ 62 → t_sg c = true := by decide +kernel
      exact this _ hbp g1 g2
    have hy3 : (y = ((b p : Nat) : Int) ∧ t_sg (b p) = true) ∨ (y = 3 ∧ t_sg (b p) = false) := by
      by_cases q : t_sg (b p) = true
      · rw [if_pos q] at hy; exact Or.inl ⟨hy, q⟩
      · rw [if_neg q] at hy; exact Or.inr ⟨hy, Bool.eq_false_iff.mpr q⟩
    have hsg1 : t_sg (b p) = true → 35 ≤ b p := fun e => by
      by_cases q : 35 ≤ b p
      · exact q
      · rw [t_sg_out _ hbp (by omega)] at e; cases e
    obtain ⟨s6, hs6⟩ : ∃ z, z = d_si (d_si s5 64 9 y) 64 7 ((p : Int) + 1) := ⟨_, rfl⟩
    have f6 : l_f [7, 9] s5 s6 := by rw [hs6]; exact (l_f.si (by decide)).tr (l_f.si (by decide))
    have e69 : s6.1 64 9 = y := by rw [hs6, d_si_i, d_u_n (by decide), d_si_i, d_u_t]
    have e67 : s6.1 64 7 = (p : Int) + 1 := by rw [hs6, d_si_i, d_u_t]
    have hB6 := hB5.f f6 (by decide)
    have f7 := f15.tr (f6.mono (M := [7, 8, 9, 10]) (by decide))
    have hT : ∀ (s7 : d_S) (y2 : Int), l_f [7, 9] s6 s7 → s7.1 64 9 = y2 → (¬ (b p = 60 ∨ b p = 62) → s7 = s6) → (y2 = y ∨ ((b p = 60 ∨ b p = 62) ∧ (y2 = 4 ∨ y2 = 5))) → l_T b n p s7 := by
      intro s7 y2 g1 g2 g3 g4
      refine ⟨hB6.f g1 (by decide), by rw [g1.1 8 (by decide), f6.1 8 (by decide)]; exact e58, fun q => ?_, ?_⟩
      · rw [g3 (fun e => q ⟨hk, e⟩), he]; exact e67
      have hyr : y2 = 3 ∨ 4 ≤ y2 := by
        rcases g4 with g4 | ⟨-, g4⟩
        · rcases hy3 with ⟨h1, h2⟩ | ⟨h1, -⟩
          · have := hsg1 h2; omega
          · omega
        · omega
      rw [g2, hk]
      refine ⟨⟨fun e => absurd e (by decide), fun e => by omega⟩, ⟨fun e => absurd e (by decide), fun e => by omega⟩, ⟨fun e => absurd e (by decide), fun e => by omega⟩, fun e => absurd e (by decide), fun e => absurd e (by decide), fun cc hc => ?_⟩
      rw [t_is_iff]
      have hin := t_sg_in cc hc
      constructor
      · intro e
        refine ⟨hk, ?_⟩
        rcases g4 with g4 | ⟨g4, g5⟩
        · rcases hy3 with ⟨h1, h2⟩ | ⟨h1, h2⟩
          · omega
          · omega
        · omega
      · rintro ⟨-, e⟩
        subst e
        rcases g4 with g4 | ⟨g4, g5⟩
        · rcases hy3 with ⟨h1, h2⟩ | ⟨h1, h2⟩
          · omega
          · rw [hin] at h2; cases h2
        · omega
    unfold F_X12_nextToken_j247
    rw [d_l_t, show (d_si s5 64 9 y).1 64 7 = (p : Int) by rw [d_si_i, d_u_n (by decide)]; exact e57, d_w_id (x := (p : Int) + 1) (by omega) (by omega), d_l_t, ← hs6]
    unfold F_X12_nextToken_j272 F_X12_nextToken_j297
    have hnext : (b p = 60 ∨ b p = 62) → ∃ s', d_b (F_X12_byteAt s6 (s6.1 64 7)) (fun v13 => if v13 = 61 then if ((b p : Nat) : Int) = 60 then d_l (d_si s6 64 9 4) (fun s14 => d_l (d_si s14 64 7 (d_w ((s14.1 64 7) + 1))) (fun s15 => some s15)) else d_l (d_si s6 64 9 5) (fun s14 => d_l (d_si s14 64 7 (d_w ((s14.1 64 7) + 1))) (fun s15 => some s15)) else some s6) = some s' ∧ l_T b n p s' ∧ l_f [7, 8, 9, 10] s s' := by
      intro h60
      obtain ⟨v, hv⟩ : ∃ v, F_X12_byteAt s6 (s6.1 64 7) = some v := by
        rw [e67, show (p : Int) + 1 = ((p + 1 : Nat) : Int) by omega]
        by_cases q : p + 1 < n
        · exact ⟨_, l_byte hB6 q⟩
        · exact ⟨_, l_byte0 hB6 q⟩
      rw [hv, d_b_t]
      have hd : ∀ y2 : Int, (y2 = 4 ∨ y2 = 5) → ∃ s', d_l (d_si s6 64 9 y2) (fun s14 => d_l (d_si s14 64 7 (d_w ((s14.1 64 7) + 1))) (fun s15 => some s15)) = some s' ∧ l_T b n p s' ∧ l_f [7, 8, 9, 10] s s' := by
        intro y2 hy2
        rw [d_l_t, d_l_t]
        have fz : l_f [7, 9] s6 (d_si (d_si s6 64 9 y2) 64 7 (d_w (((d_si s6 64 9 y2).1 64 7) + 1))) := (l_f.si (by decide)).tr (l_f.si (by decide))
        exact ⟨_, rfl, hT _ y2 fz (by rw [d_si_i, d_u_n (by decide), d_si_i, d_u_t]) (fun e => absurd h60 e) (Or.inr ⟨h60, hy2⟩), f7.tr (fz.mono (by decide))⟩
      by_cases q : v = 61
      · rw [if_pos q]
        split
        · exact hd 4 (Or.inl rfl)
        · exact hd 5 (Or.inr rfl)
      · rw [if_neg q]
        exact ⟨s6, rfl, hT s6 y l_f.rf e69 (fun _ => rfl) (Or.inl rfl), f7⟩
    by_cases q1 : b p = 60
    · rw [if_pos (by omega)]; exact hnext (Or.inl q1)
    · rw [if_neg (by omega)]
      by_cases q2 : b p = 62
      · rw [if_pos (by omega)]; exact hnext (Or.inr q2)
      · rw [if_neg (by omega)]
        exact ⟨s6, rfl, hT s6 y l_f.rf e69 (fun _ => rfl) (Or.inl rfl), f7⟩
  by_cases q : t_sg (b p) = true
  · rw [v_bt q, if_neg (by decide)]
    exact hj _ (by rw [if_pos q])
  · rw [v_bf q, if_pos rfl]
    exact hj _ (by rw [if_neg q])
theorem P_next (h : l_T b n p s) (hp : p ≤ n) (hb : t_k b n p = 3 → b p ≠ 60 ∧ b p ≠ 62) : ∃ s', F_X12_nextToken s = some s' ∧ l_T b n (t_x b n p) s' ∧ l_f [7, 8, 9, 10] s s' := l_stp h.1 (h.2.2.1 (fun e => by have := hb e.1; omega)) (t_e_le hp).2
theorem l_T.s40 (h : l_T b n p s) : s.1 64 9 = 40 ↔ t_is b n p 40 = true := h.2.2.2.2.2.2.2.2 40 (by simp)
theorem l_T.s41 (h : l_T b n p s) : s.1 64 9 = 41 ↔ t_is b n p 41 = true := h.2.2.2.2.2.2.2.2 41 (by simp)
theorem l_T.s42 (h : l_T b n p s) : s.1 64 9 = 42 ↔ t_is b n p 42 = true := h.2.2.2.2.2.2.2.2 42 (by simp)
theorem l_T.s43 (h : l_T b n p s) : s.1 64 9 = 43 ↔ t_is b n p 43 = true := h.2.2.2.2.2.2.2.2 43 (by simp)
theorem l_T.s44 (h : l_T b n p s) : s.1 64 9 = 44 ↔ t_is b n p 44 = true := h.2.2.2.2.2.2.2.2 44 (by simp)
theorem l_T.s45 (h : l_T b n p s) : s.1 64 9 = 45 ↔ t_is b n p 45 = true := h.2.2.2.2.2.2.2.2 45 (by simp)
theorem l_T.s47 (h : l_T b n p s) : s.1 64 9 = 47 ↔ t_is b n p 47 = true := h.2.2.2.2.2.2.2.2 47 (by simp)
theorem l_T.s58 (h : l_T b n p s) : s.1 64 9 = 58 ↔ t_is b n p 58 = true := h.2.2.2.2.2.2.2.2 58 (by simp)
theorem l_T.s59 (h : l_T b n p s) : s.1 64 9 = 59 ↔ t_is b n p 59 = true := h.2.2.2.2.2.2.2.2 59 (by simp)
theorem P_rword (h : l_T b n p s) {k : Nat} (hk : k < 22) : F_X12_isWord s ((t_Wn.getD k 0 : Nat) : Int) = some (v_b (t_wd b n p k = true)) := by
  obtain ⟨-, -, -, a0, a1, a2, a3, -⟩ := h
  unfold F_X12_isWord
  by_cases c : t_k b n p = 1
  · rw [if_pos (a1.1 c), a3 c]
    by_cases c2 : t_wd b n p k = true
    · rw [if_pos (by rw [(t_wd_iff.mp c2).2]), v_bt c2]
    · rw [if_neg (fun e => c2 (t_wd_iff.mpr ⟨c, by omega⟩)), v_bf c2]
  · rw [if_neg (fun e => c (a1.2 e)), v_bf (fun e => c (t_wd_iff.mp e).1)]
theorem l_w9 : F_X12_w3 100 97 121 = some ((t_Wn.getD 9 0 : Nat) : Int) := by decide +kernel
theorem l_w10 : F_X12_w4 104 101 97 116 = some ((t_Wn.getD 10 0 : Nat) : Int) := by decide +kernel
theorem l_w11 : F_X12_w4 115 105 122 101 = some ((t_Wn.getD 11 0 : Nat) : Int) := by decide +kernel
theorem l_w8 : F_X12_w5 115 116 114 97 119 = some ((t_Wn.getD 8 0 : Nat) : Int) := by decide +kernel
theorem l_w12 : F_X12_w6 109 101 108 116 101 100 = some ((t_Wn.getD 12 0 : Nat) : Int) := by decide +kernel
theorem l_w13 : F_X12_w4 101 100 103 101 = some ((t_Wn.getD 13 0 : Nat) : Int) := by decide +kernel
theorem l_w14 : F_X12_w6 115 105 103 104 116 115 = some ((t_Wn.getD 14 0 : Nat) : Int) := by decide +kernel
theorem l_w15 : F_X12_w5 107 105 110 100 115 = some ((t_Wn.getD 15 0 : Nat) : Int) := by decide +kernel
theorem l_w20 : F_X12_w3 110 116 104 = some ((t_Wn.getD 20 0 : Nat) : Int) := by decide +kernel
theorem l_w21 : F_X12_w2 111 102 = some ((t_Wn.getD 21 0 : Nat) : Int) := by decide +kernel
def t_nr (b : Nat → Nat) (n p : Nat) : Nat := if t_wd b n p 9 = true then 0 else if t_wd b n p 10 = true then 1 else if t_wd b n p 11 = true then 2 else if t_wd b n p 8 = true then 3 else if t_wd b n p 12 = true then 4 else if t_wd b n p 13 = true then 5 else if t_wd b n p 14 = true then 6 else if t_wd b n p 15 = true then 7 else 8
theorem P_nameOf (h : l_T b n p s) : F_X12_nameOf s = some (if t_nr b n p = 8 then -1 else ((t_nr b n p : Nat) : Int)) := by
  obtain ⟨-, -, -, a0, a1, a2, a3, -⟩ := h
  unfold F_X12_nameOf
  by_cases c : t_k b n p = 1
  · have hw : ∀ k, k < 22 → ((s.2.2 1011 = ((t_Wn.getD k 0 : Nat) : Int)) ↔ t_wd b n p k = true) := fun k hk => by
      rw [a3 c, t_wd_iff]
      exact ⟨fun e => ⟨c, by omega⟩, fun e => by rw [e.2]⟩
    rw [if_pos (a1.1 c), l_w9, d_b_t, l_w10, d_b_t, l_w11, d_b_t, l_w8, d_b_t, l_w12, d_b_t, l_w13, d_b_t, l_w14, d_b_t, l_w15, d_b_t]
    unfold t_nr
    by_cases q9 : t_wd b n p 9 = true
    · rw [if_pos ((hw 9 (by decide)).2 q9), if_pos q9]; rfl
    rw [if_neg (fun e => q9 ((hw 9 (by decide)).1 e)), if_neg q9]
    by_cases q10 : t_wd b n p 10 = true
    · rw [if_pos ((hw 10 (by decide)).2 q10), if_pos q10]; rfl
    rw [if_neg (fun e => q10 ((hw 10 (by decide)).1 e)), if_neg q10]
    by_cases q11 : t_wd b n p 11 = true
    · rw [if_pos ((hw 11 (by decide)).2 q11), if_pos q11]; rfl
    rw [if_neg (fun e => q11 ((hw 11 (by decide)).1 e)), if_neg q11]
    by_cases q8 : t_wd b n p 8 = true
    · rw [if_pos ((hw 8 (by decide)).2 q8), if_pos q8]; rfl
    rw [if_neg (fun e => q8 ((hw 8 (by decide)).1 e)), if_neg q8]
    by_cases q12 : t_wd b n p 12 = true
    · rw [if_pos ((hw 12 (by decide)).2 q12), if_pos q12]; rfl
    rw [if_neg (fun e => q12 ((hw 12 (by decide)).1 e)), if_neg q12]
    by_cases q13 : t_wd b n p 13 = true
    · rw [if_pos ((hw 13 (by decide)).2 q13), if_pos q13]; rfl
    rw [if_neg (fun e => q13 ((hw 13 (by decide)).1 e)), if_neg q13]
    by_cases q14 : t_wd b n p 14 = true
    · rw [if_pos ((hw 14 (by decide)).2 q14), if_pos q14]; rfl
    rw [if_neg (fun e => q14 ((hw 14 (by decide)).1 e)), if_neg q14]
    by_cases q15 : t_wd b n p 15 = true
    · rw [if_pos ((hw 15 (by decide)).2 q15), if_pos q15]; rfl
    rw [if_neg (fun e => q15 ((hw 15 (by decide)).1 e)), if_neg q15]; rfl
  · have no : ∀ k, ¬ t_wd b n p k = true := fun k e => c (t_wd_iff.mp e).1
    rw [if_neg (fun e => c (a1.2 e))]
    unfold t_nr
    rw [if_neg (no 9), if_neg (no 10), if_neg (no 11), if_neg (no 8), if_neg (no 12), if_neg (no 13), if_neg (no 14), if_neg (no 15)]; rfl
theorem t_nr_6 : t_nm6 b n p = true ↔ t_nr b n p < 6 := by
  unfold t_nm6 t_nr
  simp only [Bool.or_eq_true]
  by_cases q9 : t_wd b n p 9 = true
  · simp [q9]
  by_cases q10 : t_wd b n p 10 = true
  · simp [q9, q10]
  by_cases q11 : t_wd b n p 11 = true
  · simp [q9, q10, q11]
  by_cases q8 : t_wd b n p 8 = true
  · simp [q9, q10, q11, q8]
  by_cases q12 : t_wd b n p 12 = true
  · simp [q9, q10, q11, q8, q12]
  by_cases q13 : t_wd b n p 13 = true
  · simp [q9, q10, q11, q8, q12, q13]
  by_cases q14 : t_wd b n p 14 = true
  · simp [q9, q10, q11, q8, q12, q13, q14]
  by_cases q15 : t_wd b n p 15 = true
  · simp [q9, q10, q11, q8, q12, q13, q14, q15]
  · simp [q9, q10, q11, q8, q12, q13, q14, q15]
theorem t_nr_2 (h6 : ¬ t_nm6 b n p = true) : t_nm2 b n p = true ↔ t_nr b n p < 8 := by
  unfold t_nm6 at h6
  unfold t_nm2 t_nr
  simp only [Bool.or_eq_true, not_or] at h6 ⊢
  obtain ⟨q9, q10, q11, q8, q12, q13⟩ := h6
  by_cases q14 : t_wd b n p 14 = true
  · simp [q9, q10, q11, q8, q12, q13, q14]
  by_cases q15 : t_wd b n p 15 = true
  · simp [q9, q10, q11, q8, q12, q13, q14, q15]
  · simp [q9, q10, q11, q8, q12, q13, q14, q15]
theorem t_nr_le : t_nr b n p ≤ 8 := by unfold t_nr; (repeat' split) <;> omega
theorem P_isOf {k so : Nat} (h14 : s.1 64 14 = (so : Int)) : F_X12_isOf s (k : Int) = some (v_b (k < 6 ∨ so = 1)) := by
  unfold F_X12_isOf
  rw [h14]
  by_cases q : k < 6
  · rw [if_pos (by omega), v_bt (Or.inl q)]
  · rw [if_neg (by omega)]
    by_cases c : so = 1
    · rw [if_pos (by omega), v_bt (Or.inr c)]
    · rw [if_neg (by omega), v_bf (fun e => e.elim q c)]
theorem P_isNth (h : l_T b n p s) : F_X12_isNth s = some (v_b (t_wd b n p 20 = true)) := by
  unfold F_X12_isNth
  rw [l_w20, d_b_t, P_rword h (by decide), d_b_t]
theorem P_rfault {so d : Nat} (h : l_T b n p s) (h14 : s.1 64 14 = (so : Int)) (h18 : s.1 64 18 = (d : Int)) (hd : d ≤ 8) : F_X12_faultOfOne s = some ((t_F b n (Nat.beq so 1) d p : Nat) : Int) := by
  have hN := P_nameOf h
  have h20 := P_isNth h
  have g40 := h.s40
  have g45 := h.s45
  obtain ⟨-, -, -, a0, a1, a2, a3, a4, a5⟩ := h
  unfold F_X12_faultOfOne F_X12_faultOfOne_j74 t_F
  rw [h18]
  by_cases k2 : t_k b n p = 2
  · rw [if_pos (a2.1 k2), if_pos k2, a4 k2]
    by_cases c : 9999 < t_n b n p
    · rw [if_pos (by omega), if_pos c]; rfl
    · rw [if_neg (by omega), if_neg c]; rfl
  rw [if_neg (fun e => k2 (a2.2 e)), if_neg k2, hN, d_b_t]
  have hle := t_nr_le (b := b) (n := n) (p := p)
  by_cases m6 : t_nm6 b n p = true
  · have := t_nr_6.1 m6
    rw [if_neg (show ¬ t_nr b n p = 8 by omega), if_neg (by omega), P_isOf h14, d_b_t, v_bt (Or.inl this), if_neg (by decide), if_pos m6]; rfl
  rw [if_neg m6]
  have n6 : ¬ t_nr b n p < 6 := fun e => m6 (t_nr_6.2 e)
  by_cases m2 : t_nm2 b n p = true
  · have := (t_nr_2 m6).1 m2
    rw [if_neg (show ¬ t_nr b n p = 8 by omega), if_neg (by omega), P_isOf h14, d_b_t, if_pos m2]
    by_cases c : so = 1
    · rw [v_bt (Or.inr c), if_neg (by decide), if_pos (v_beq c)]; rfl
    · rw [v_bf (fun e => e.elim n6 c), if_pos rfl, if_neg (fun e => c (Nat.eq_of_beq_eq_true e))]; rfl
  have e8 : t_nr b n p = 8 := by
    have : ¬ t_nr b n p < 8 := fun e => m2 ((t_nr_2 m6).2 e)
    omega
  rw [if_neg m2, if_pos e8, if_pos (by decide)]
  have hd8 : (if ((d : Nat) : Int) = 8 then some (3 : Int) else some 0) = some (((if 8 ≤ d then 3 else 0 : Nat)) : Int) := by
    by_cases q : 8 ≤ d
    · rw [if_pos (by omega), if_pos q]; rfl
    · rw [if_neg (by omega), if_neg q]; rfl
  by_cases c1 : t_is b n p 40 = true
  · rw [if_pos (g40.2 c1), hd8, if_pos (show t_op b n p = true by unfold t_op; rw [c1]; simp)]
  rw [if_neg (fun e => c1 (g40.1 e))]
  by_cases c2 : t_is b n p 45 = true
  · rw [if_pos (g45.2 c2), hd8, if_pos (show t_op b n p = true by unfold t_op; rw [c2]; simp)]
  rw [if_neg (fun e => c2 (g45.1 e)), h20, d_b_t]
  by_cases c3 : t_wd b n p 20 = true
  · rw [v_bt c3, if_neg (by decide), hd8, if_pos (show t_op b n p = true by unfold t_op; rw [c3]; simp)]
  · rw [v_bf c3, if_pos rfl, if_neg (show ¬ t_op b n p = true by
      unfold t_op
      rw [Bool.or_eq_true, Bool.or_eq_true]
      rintro (e | e | e)
      · exact c1 e
      · exact c2 e
      · exact c3 e)]; rfl
end X6
abbrev l_zT : Type := Nat × List (Nat × Nat) × (Nat → Int)
def l_zE (z : l_zT) (F : List (Nat × Nat)) : l_zT := (z.1, z.2.1 ++ F, z.2.2)
theorem l_zE_nil (z : l_zT) : l_zE z [] = z := by simp [l_zE]
theorem l_zE_zE (z : l_zT) (F G : List (Nat × Nat)) : l_zE (l_zE z F) G = l_zE z (F ++ G) := by simp [l_zE]
def l_P (f : Nat → Int) : List Nat → Prop
  | [] => True
  | x :: σ => f σ.length = (x : Int) ∧ (x < 8 ∨ (40 ≤ x ∧ x < 43)) ∧ l_P f σ
theorem l_P_set {f : Nat → Int} {v : Int} : ∀ {σ : List Nat} {k : Nat}, σ.length ≤ k → l_P f σ → l_P (d_u f k v) σ := by
  intro σ
  induction σ with
  | nil => intro k _ _; trivial
  | cons x σ ih =>
    intro k hk hp
    have hk : σ.length + 1 ≤ k := hk
    exact ⟨by rw [d_u_n (by omega)]; exact hp.1, hp.2.1, ih (by omega) hp.2.2⟩
def l_E (tv : Nat → Int) (t0 w : Nat) (z : l_zT) : Prop := w = z.1 + z.2.1.length ∧ (∀ i, i < z.2.1.length → ∃ e, z.2.1[i]? = some e ∧ tv (t0 + 169 + 2 * (z.1 + i)) = ((e.1 : Nat) : Int) ∧ tv (t0 + 169 + 2 * (z.1 + i) + 1) = ((e.2 : Nat) : Int) ∧ e.1 < 8 ∧ e.2 < 10000) ∧ ∀ j, j < t0 + 169 + 2 * z.1 ∨ t0 + 777 ≤ j → tv j = z.2.2 j
theorem l_E_put {tv : Nat → Int} {t0 w x y : Nat} {z : l_zT} (h : l_E tv t0 w z) (hw : w ≤ 303) (hx : x < 8) (hy : y < 10000) : l_E (d_u (d_u tv (t0 + 169 + 2 * w) (x : Int)) (t0 + 169 + 2 * w + 1) (y : Int)) t0 (w + 1) (l_zE z [(x, y)]) := by
  obtain ⟨h1, h2, h3⟩ := h
  refine ⟨by simp only [l_zE, List.length_append, List.length_cons, List.length_nil]; omega, fun i hi => ?_, fun j hj => ?_⟩
  · simp only [l_zE, List.length_append, List.length_cons, List.length_nil] at hi ⊢
    by_cases q : i < z.2.1.length
    · obtain ⟨e, e1, e2, e3, e4⟩ := h2 i q
      exact ⟨e, by rw [List.getElem?_append_left q]; exact e1, by rw [d_u_n (by omega), d_u_n (by omega)]; exact e2, by rw [d_u_n (by omega), d_u_n (by omega)]; exact e3, e4⟩
    · have ei : i = z.2.1.length := by omega
      subst ei
      exact ⟨(x, y), by simp, by rw [← h1, d_u_n (by omega), d_u_t], by rw [← h1, d_u_t], hx, hy⟩
  · have hj : j < t0 + 169 + 2 * z.1 ∨ t0 + 777 ≤ j := hj
    show _ = z.2.2 j
    rw [d_u_n (by omega), d_u_n (by omega)]
    exact h3 j hj
def l_Lw : List Nat := [7, 8, 9, 10, 13, 17, 18, 19, 20]
def l_h (s s' : d_S) : Prop := (∀ k, k ∉ l_Lw → s'.1 64 k = s.1 64 k) ∧ (∀ a, a ≠ 64 → a ≠ 67 → a ≠ 69 → a ≠ 70 → s'.1 a = s.1 a) ∧ s'.2.1 = s.2.1 ∧ ∀ k, k ≠ 1011 → s'.2.2 k = s.2.2 k
section X7
variable {s0 s s1 s' : d_S} {b : Nat → Nat} {n p q w so d t0 : Nat} {σ κ : List Nat} {wh : Bool} {z : l_zT} {x : Int}
theorem l_h.rf : l_h s s := ⟨fun _ _ => rfl, fun _ _ _ _ _ => rfl, rfl, fun _ _ => rfl⟩
theorem l_h.tr (h : l_h s s1) (h' : l_h s1 s') : l_h s s' := ⟨fun a z => (h'.1 a z).trans (h.1 a z), fun a y z u v => (h'.2.1 a y z u v).trans (h.2.1 a y z u v), h'.2.2.1.trans h.2.2.1, fun k z => (h'.2.2.2 k z).trans (h.2.2.2 k z)⟩
theorem l_f.h {L : List Nat} (h : l_f L s s1) (hL : ∀ a, a ∈ L → a ∈ l_Lw) : l_h s s1 := ⟨fun k z => h.1 k (fun y => z (hL k y)), fun a y _ _ _ => h.2.1 a y, h.2.2.1, h.2.2.2⟩
theorem l_h.s64 {k : Nat} {y : Int} (h : k ∈ l_Lw) : l_h s (d_si s 64 k y) := (l_f.si (L := l_Lw) h).h (fun _ q => q)
theorem l_h.sx {a k : Nat} {y : Int} (h : a = 67 ∨ a = 69 ∨ a = 70) : l_h s (d_si s a k y) := ⟨fun _ _ => by rw [d_si_n (by omega)], fun c h1 h2 h3 h4 => d_si_n (by omega), rfl, fun _ _ => rfl⟩
def l_S (s0 : d_S) (b : Nat → Nat) (n p : Nat) (σ κ : List Nat) (w so : Nat) (wh : Bool) (d t0 : Nat) (z : l_zT) (s : d_S) : Prop := l_T b n p s ∧ (s.1 64 12 = (t0 : Int) ∧ s.1 64 13 = (w : Int) ∧ s.1 64 14 = (so : Int) ∧ s.1 64 17 = (σ.length : Int) ∧ s.1 64 18 = (d : Int) ∧ s.1 64 19 = (κ.length : Int) ∧ s.1 64 20 = (if wh = true then 1 else 0)) ∧ l_P (s.1 69) σ ∧ l_P (s.1 70) κ ∧ l_E (s.1 67) t0 w z ∧ l_h s0 s
theorem l_S.T (h : l_S s0 b n p σ κ w so wh d t0 z s) (hf : l_f [7, 8, 9, 10] s s') (hT : l_T b n q s') : l_S s0 b n q σ κ w so wh d t0 z s' := by
  obtain ⟨-, ⟨a1, a2, a3, a4, a5, a6, a7⟩, a8, a9, a10, a11⟩ := h
  exact ⟨hT, ⟨by rw [hf.1 12 (by decide)]; exact a1, by rw [hf.1 13 (by decide)]; exact a2, by rw [hf.1 14 (by decide)]; exact a3, by rw [hf.1 17 (by decide)]; exact a4, by rw [hf.1 18 (by decide)]; exact a5, by rw [hf.1 19 (by decide)]; exact a6, by rw [hf.1 20 (by decide)]; exact a7⟩, by rw [hf.2.1 69 (by decide)]; exact a8, by rw [hf.2.1 70 (by decide)]; exact a9, by rw [hf.2.1 67 (by decide)]; exact a10, a11.tr (hf.h (by decide))⟩
theorem l_T.g (h : l_T b n p s) (h64 : ∀ k, k = 4 ∨ k = 7 ∨ k = 8 ∨ k = 9 ∨ k = 10 → s'.1 64 k = s.1 64 k) (h68 : s'.1 68 = s.1 68) (h11 : s'.2.2 1011 = s.2.2 1011) : l_T b n p s' := by
  obtain ⟨⟨a0, a00, a000, a0000⟩, a2, a3, a4⟩ := h
  refine ⟨⟨by rw [h64 4 (by simp)]; exact a0, a00, fun i hi => by rw [h68]; exact a000 i hi, a0000⟩, by rw [h64 8 (by simp)]; exact a2, by rw [h64 7 (by simp)]; exact a3, ?_⟩
  rw [h64 9 (by simp), h64 10 (by simp), h11]
  exact a4
theorem P_emit (h : l_S s0 b n p σ κ w so wh d t0 z s) (hw : w ≤ 303) (ht : t0 ≤ 2331) {x y : Nat} (hx : x < 8) (hy : y < 10000) : ∃ s', F_X12_emit s (x : Int) (y : Int) = some s' ∧ l_S s0 b n p σ κ (w + 1) so wh d t0 (l_zE z [(x, y)]) s' ∧ s'.1 69 = s.1 69 := by
  obtain ⟨hT, ⟨a1, a2, a3, a4, a5, a6, a7⟩, a8, a9, a10, a11⟩ := h
  obtain ⟨s2, hs2⟩ : ∃ z, z = d_si s 67 (t0 + 169 + 2 * w) (x : Int) := ⟨_, rfl⟩
  obtain ⟨s4, hs4⟩ : ∃ z, z = d_si s2 67 (t0 + 169 + 2 * w + 1) (y : Int) := ⟨_, rfl⟩
  obtain ⟨s5, hs5⟩ : ∃ z, z = d_si s4 64 13 ((w : Int) + 1) := ⟨_, rfl⟩
  have e2 : ∀ a, a ≠ 67 → s2.1 a = s.1 a := fun a q => by rw [hs2, d_si_n q]
  have e4 : ∀ a, a ≠ 67 → s4.1 a = s.1 a := fun a q => by rw [hs4, d_si_n q, e2 a q]
  have e5 : ∀ k, k ≠ 13 → s5.1 64 k = s.1 64 k := fun k q => by rw [hs5, d_si_i, d_u_n q, e4 64 (by decide)]
  have e5o : ∀ a, a ≠ 64 → a ≠ 67 → s5.1 a = s.1 a := fun a q1 q2 => by rw [hs5, d_si_n q1, e4 a q2]
  have e67 : s5.1 67 = d_u (d_u (s.1 67) (t0 + 169 + 2 * w) (x : Int)) (t0 + 169 + 2 * w + 1) (y : Int) := by rw [hs5, d_si_n (by decide), hs4, d_si_i, hs2, d_si_i]
  have hf : l_h s s5 := by
    rw [hs5, hs4, hs2]
    exact ((l_h.sx (Or.inl rfl)).tr (l_h.sx (Or.inl rfl))).tr (l_h.s64 (by decide))
  refine ⟨s5, ?_, ⟨hT.g (fun k hk => e5 k (by omega)) (e5o 68 (by decide) (by decide)) (by rw [hs5, hs4, hs2]; rfl), ⟨by rw [e5 12 (by decide)]; exact a1, by rw [hs5, d_si_i, d_u_t]; rfl, by rw [e5 14 (by decide)]; exact a3, by rw [e5 17 (by decide)]; exact a4, by rw [e5 18 (by decide)]; exact a5, by rw [e5 19 (by decide)]; exact a6, by rw [e5 20 (by decide)]; exact a7⟩, by rw [e5o 69 (by decide) (by decide)]; exact a8, by rw [e5o 70 (by decide) (by decide)]; exact a9, by rw [e67]; exact l_E_put a10 hw hx hy, a11.tr hf⟩, e5o 69 (by decide) (by decide)⟩
  unfold F_X12_emit
  have ei : d_w ((t0 : Int) + 169 + 2 * (w : Int)) = ((t0 + 169 + 2 * w : Nat) : Int) := by rw [d_w_id (by omega) (by omega)]; omega
  have ej : d_w ((t0 : Int) + 169 + 2 * (w : Int) + 1) = ((t0 + 169 + 2 * w + 1 : Nat) : Int) := by rw [d_w_id (by omega) (by omega)]; omega
  rw [a1, a2, ei, d_g_t (by omega), Int.toNat_natCast, ← hs2, d_l_t, e2 64 (by decide), a1, a2, ej, d_g_t (by omega), Int.toNat_natCast, ← hs4, d_l_t, e4 64 (by decide), a2, d_w_id (by omega) (by omega), ← hs5, d_l_t]
theorem P_rank {x : Nat} : F_X12_rank (x : Int) = some ((s_rk x : Nat) : Int) := by
  unfold F_X12_rank s_rk
  by_cases q : x < 40
  · rw [if_pos (by omega), if_neg (show ¬ 40 ≤ x by omega)]
    by_cases q3 : x = 3
    · rw [if_pos (by omega), if_pos q3]; rfl
    · rw [if_neg (by omega), if_neg q3]
      by_cases q6 : x < 6
      · rw [if_pos (by omega), if_neg (by omega)]; rfl
      · rw [if_neg (by omega), if_pos (by omega)]; rfl
  · rw [if_neg (by omega), if_pos (by omega)]; rfl
def s_op (l : Nat) : List Nat → List (Nat × Nat)
  | [] => []
  | x :: σ => if l ≤ s_rk x then (x, 0) :: s_op l σ else []
theorem s_op_len (l : Nat) : ∀ σ, (s_op l σ).length = σ.length - (s_se l σ).length := by
  intro σ
  induction σ with
  | nil => rfl
  | cons x σ ih =>
    have hs : (s_se l σ).length ≤ σ.length := s_se_len l σ
    by_cases q : l ≤ s_rk x
    · have e1 : s_op l (x :: σ) = (x, 0) :: s_op l σ := by simp only [s_op]; rw [if_pos q]
      have e2 : s_se l (x :: σ) = s_se l σ := by simp only [s_se]; rw [if_pos q]
      rw [e1, e2, List.length_cons, List.length_cons, ih]; omega
    · have e1 : s_op l (x :: σ) = [] := by simp only [s_op]; rw [if_neg q]
      have e2 : s_se l (x :: σ) = x :: σ := by simp only [s_se]; rw [if_neg q]
      rw [e1, e2, Nat.sub_self]; rfl
theorem P_settlel {l : Nat} (hl0 : 1 ≤ l) (ht : t0 ≤ 2331) : ∀ (σ : List Nat) (m w d : Nat) (z : l_zT) (s : d_S), σ.length ≤ 160 → w + σ.length ≤ 304 → d = s_opn σ → σ.length < m → l_S s0 b n p σ κ w so wh d t0 z s → ∃ s', F_X12_settle_l0 m (l : Int) s = some s' ∧ l_S s0 b n p (s_se l σ) κ (w + (σ.length - (s_se l σ).length)) so wh (s_opn (s_se l σ)) t0 (l_zE z (s_op l σ)) s' := by
  intro σ
  induction σ with
  | nil =>
    intro m w d z s hs hw hd hm hS
    obtain ⟨m, rfl⟩ : ∃ w, m = w + 1 := ⟨m - 1, by omega⟩
    subst hd
    refine ⟨s, ?_, by rw [show s_op l [] = [] from rfl, l_zE_nil]; exact hS⟩
    show F_X12_settle_l0_b (F_X12_settle_l0 m) _ s = _
    unfold F_X12_settle_l0_b
    rw [hS.2.1.2.2.2.1, if_neg (by simp)]
  | cons x σ ih =>
    intro m w d z s hs hw hd hm hS
    obtain ⟨m, rfl⟩ : ∃ w, m = w + 1 := ⟨m - 1, by omega⟩
    have hS' := hS
    obtain ⟨hT, ⟨a1, a2, a3, a4, a5, a6, a7⟩, ⟨a8, a88, a888⟩, a9, a10, a11⟩ := hS
    rw [List.length_cons] at hs hw hm a4
    show ∃ s', F_X12_settle_l0_b (F_X12_settle_l0 m) _ s = _ ∧ _
    unfold F_X12_settle_l0_b
    rw [a4, if_pos (by omega), d_w_id (x := ((σ.length + 1 : Nat) : Int) - 1) (by omega) (by omega), show ((σ.length + 1 : Nat) : Int) - 1 = (σ.length : Int) by omega, d_g_t (by omega), Int.toNat_natCast, a8, P_rank, d_b_t]
    by_cases q : l ≤ s_rk x
    rotate_left
    · have e1 : s_op l (x :: σ) = [] := by simp only [s_op]; rw [if_neg q]
      have e2 : s_se l (x :: σ) = x :: σ := by simp only [s_se]; rw [if_neg q]
      rw [if_pos (by omega), e1, e2, l_zE_nil, Nat.sub_self, ← hd]
      exact ⟨s, rfl, hS'⟩
    have e1 : s_op l (x :: σ) = (x, 0) :: s_op l σ := by simp only [s_op]; rw [if_pos q]
    have e2 : s_se l (x :: σ) = s_se l σ := by simp only [s_se]; rw [if_pos q]
    have hsl := s_se_len l σ
    have hx8 : x < 8 := by
      rcases a88 with z | z
      · exact z
      · unfold s_rk at q; rw [if_pos z.1] at q; omega
    obtain ⟨s3, hs3⟩ : ∃ z, z = d_si s 64 17 (σ.length : Int) := ⟨_, rfl⟩
    have e3 : ∀ k, k ≠ 17 → s3.1 64 k = s.1 64 k := fun k q => by rw [hs3, d_si_i, d_u_n q]
    have e3o : ∀ a, a ≠ 64 → s3.1 a = s.1 a := fun a q => by rw [hs3, d_si_n q]
    have e317 : s3.1 64 17 = (σ.length : Int) := by rw [hs3, d_si_i, d_u_t]
    have hS3 : l_S s0 b n p σ κ w so wh d t0 z s3 := ⟨hT.g (fun k hk => e3 k (by omega)) (e3o 68 (by decide)) (by rw [hs3]; rfl), ⟨by rw [e3 12 (by decide)]; exact a1, by rw [e3 13 (by decide)]; exact a2, by rw [e3 14 (by decide)]; exact a3, e317, by rw [e3 18 (by decide)]; exact a5, by rw [e3 19 (by decide)]; exact a6, by rw [e3 20 (by decide)]; exact a7⟩, by rw [e3o 69 (by decide)]; exact a888, by rw [e3o 70 (by decide)]; exact a9, by rw [e3o 67 (by decide)]; exact a10, a11.tr (by rw [hs3]; exact l_h.s64 (by decide))⟩
    obtain ⟨s5, b1, b2, b3⟩ := P_emit hS3 (by omega) ht hx8 (y := 0) (by decide)
    have e517 : s5.1 64 17 = (σ.length : Int) := b2.2.1.2.2.2.1
    have e569 : s5.1 69 σ.length = (x : Int) := by rw [b3, e3o 69 (by decide)]; exact a8
    have b1' : F_X12_emit s3 (x : Int) 0 = some s5 := b1
    rw [if_neg (by omega), d_l_t, ← hs3, e317, d_g_t (by omega), Int.toNat_natCast, show s3.1 69 σ.length = (x : Int) by rw [e3o 69 (by decide)]; exact a8, b1', d_b_t, e517, d_g_t (by omega), Int.toNat_natCast, e569, e1, e2]
    have ez : l_zE z ((x, 0) :: s_op l σ) = l_zE (l_zE z [(x, 0)]) (s_op l σ) := by rw [l_zE_zE]; rfl
    have ew : w + (σ.length + 1 - (s_se l σ).length) = w + 1 + (σ.length - (s_se l σ).length) := by omega
    rw [ez, List.length_cons, ew]
    by_cases q3 : x = 3
    · rw [if_pos (by omega)]
      have hd3 : d = s_opn σ + 1 := by rw [hd, q3]; rfl
      obtain ⟨hT5, ⟨c1, c2, c3, c4, c5, c6, c7⟩, c8, c9, c10, c11⟩ := b2
      obtain ⟨s6, hs6⟩ : ∃ z, z = d_si s5 64 18 ((s_opn σ : Nat) : Int) := ⟨_, rfl⟩
      have e6 : ∀ k, k ≠ 18 → s6.1 64 k = s5.1 64 k := fun k q => by rw [hs6, d_si_i, d_u_n q]
      have e6o : ∀ a, a ≠ 64 → s6.1 a = s5.1 a := fun a q => by rw [hs6, d_si_n q]
      have hso : s_opn σ ≤ σ.length := by
        have : ∀ τ : List Nat, s_opn τ ≤ τ.length := by
          intro τ
          induction τ with
          | nil => exact Nat.le_refl _
          | cons y τ ih => simp only [s_opn, List.length_cons]; split <;> omega
        exact this σ
      have ed : d_w (s5.1 64 18 - 1) = ((s_opn σ : Nat) : Int) := by rw [c5, d_w_id (by omega) (by omega)]; omega
      rw [d_l_t, ed, ← hs6]
      have hS6 : l_S s0 b n p σ κ (w + 1) so wh (s_opn σ) t0 (l_zE z [(x, 0)]) s6 := ⟨hT5.g (fun k hk => e6 k (by omega)) (e6o 68 (by decide)) (by rw [hs6]; rfl), ⟨by rw [e6 12 (by decide)]; exact c1, by rw [e6 13 (by decide)]; exact c2, by rw [e6 14 (by decide)]; exact c3, by rw [e6 17 (by decide)]; exact c4, by rw [hs6, d_si_i, d_u_t], by rw [e6 19 (by decide)]; exact c6, by rw [e6 20 (by decide)]; exact c7⟩, by rw [e6o 69 (by decide)]; exact c8, by rw [e6o 70 (by decide)]; exact c9, by rw [e6o 67 (by decide)]; exact c10, c11.tr (by rw [hs6]; exact l_h.s64 (by decide))⟩
      exact ih m (w + 1) _ _ s6 (by omega) (by omega) rfl (by omega) hS6
    · rw [if_neg (by omega)]
      have hd3 : d = s_opn σ := by
        rw [hd]
        show s_opn σ + (if x = 3 ∨ 40 ≤ x then 1 else 0) = s_opn σ
        rw [if_neg (by omega)]; rfl
      exact ih m (w + 1) _ _ s5 (by omega) (by omega) hd3 (by omega) b2
theorem P_settle {l : Nat} (hl0 : 1 ≤ l) (ht : t0 ≤ 2331) (hs : σ.length ≤ 160) (hw : w + σ.length ≤ 304) (hd : d = s_opn σ) (hS : l_S s0 b n p σ κ w so wh d t0 z s) : ∃ s', F_X12_settle s (l : Int) = some s' ∧ l_S s0 b n p (s_se l σ) κ (w + (σ.length - (s_se l σ).length)) so wh (s_opn (s_se l σ)) t0 (l_zE z (s_op l σ)) s' := P_settlel hl0 ht σ d_N w d z s hs hw hd (by rw [d_N_is]; omega) hS
def l_on : List Nat → Int
  | [] => -1
  | x :: σ => if x < 40 then l_on σ else (x : Int)
theorem s_rk_0 {x : Nat} (h : 1 ≤ s_rk x) : x < 40 := by
  unfold s_rk at h
  split at h
  · omega
  · omega
theorem l_on_se {l : Nat} (hl : 1 ≤ l) : ∀ {σ ρ : List Nat} {x : Nat}, s_se l σ = x :: ρ → 40 ≤ x → l_on σ = (x : Int) := by
  intro σ
  induction σ with
  | nil => intro ρ x h _; cases h
  | cons y σ ih =>
    intro ρ x h hx
    simp only [s_se] at h
    simp only [l_on]
    by_cases q : l ≤ s_rk y
    · rw [if_pos q] at h
      rw [if_pos (s_rk_0 (by omega))]
      exact ih h hx
    · rw [if_neg q] at h
      injection h with h1 h2
      rw [if_neg (by omega), h1]
theorem l_on_nil : ∀ {σ : List Nat}, s_se 1 σ = [] → l_on σ = -1 := by
  intro σ
  induction σ with
  | nil => intro _; rfl
  | cons y σ ih =>
    intro h
    simp only [s_se] at h
    simp only [l_on]
    by_cases q : 1 ≤ s_rk y
    · rw [if_pos q] at h
      rw [if_pos (s_rk_0 q)]
      exact ih h
    · rw [if_neg q] at h; cases h
theorem P_openl {K : Int → Option Int} : ∀ (σ : List Nat) (m : Nat), σ.length ≤ 160 → σ.length < m → l_P (s.1 69) σ → (∀ v : Int, K v = if v < 0 then some (-1) else d_g (0 ≤ v ∧ v < 160) (some (s.1 69 v.toNat))) → F_X12_openNow_l7 s K m ((σ.length : Int) - 1) = some (l_on σ) := by
  intro σ
  induction σ with
  | nil =>
    intro m hs hm hP hK
    obtain ⟨m, rfl⟩ : ∃ w, m = w + 1 := ⟨m - 1, by omega⟩
    show F_X12_openNow_l7_b s K (F_X12_openNow_l7 s K m) (((0 : Nat) : Int) - 1) = _
    unfold F_X12_openNow_l7_b
    rw [if_pos (by decide), hK, if_pos (by decide)]; rfl
  | cons x σ ih =>
    intro m hs hm hP hK
    obtain ⟨m, rfl⟩ : ∃ w, m = w + 1 := ⟨m - 1, by omega⟩
    rw [List.length_cons] at hs hm
    show F_X12_openNow_l7_b s K (F_X12_openNow_l7 s K m) (((σ.length + 1 : Nat) : Int) - 1) = _
    unfold F_X12_openNow_l7_b
    rw [show ((σ.length + 1 : Nat) : Int) - 1 = (σ.length : Int) by omega, if_neg (by omega), d_g_t (by omega), Int.toNat_natCast, hP.1, hK]
    simp only [l_on]
    by_cases q : x < 40
    · rw [if_pos (by omega), if_pos q, d_w_id (by omega) (by omega)]
      exact ih m (by omega) (by omega) hP.2.2 hK
    · rw [if_neg (by omega), if_neg q, if_neg (by omega), d_g_t (by omega), Int.toNat_natCast, hP.1]
theorem P_openNow (h17 : s.1 64 17 = (σ.length : Int)) (hP : l_P (s.1 69) σ) (hs : σ.length ≤ 160) : F_X12_openNow s = some (l_on σ) := by
  unfold F_X12_openNow
  rw [h17, d_w_id (by omega) (by omega)]
  exact P_openl σ d_N hs (by rw [d_N_is]; omega) hP (fun v => rfl)
end X7

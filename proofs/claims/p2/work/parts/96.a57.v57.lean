def v_pkz (sh H k y : Nat) : Bool := Nat.beq (y &&& sh) 0 && Nat.ble k (v_lp y H)
def v_pq (sh H m w y : Nat) : Bool := Nat.beq (y &&& sh) 0 && Nat.ble m (w * v_lp y H)
def v_nn2 (shU shL W H m x n : Nat) : Option Nat := if x &&& shU = 0 then v_bz (v_pq shL H m (v_lp x W)) n else none
def v_wsz (shU shL W H m : Nat) : Nat → Option (Nat × Nat)
  | 0 => none
  | n + 1 => v_ud (v_wsz shU shL W H m n) n (v_nn2 shU shL W H m n (2 ^ (H - 1)))
def v_w2 : Option (Nat × Nat) → Int
  | none => -1
  | some p => (p.1 : Int)
def v_w3 : Option (Nat × Nat) → Int
  | none => -1
  | some p => (p.2 : Int)
def v_r2 : Option (Nat × Nat) → Int
  | none => 0
  | some p => (p.1 : Int)
def v_r3 : Option (Nat × Nat) → Int
  | none => 0
  | some p => (p.2 : Int)
section V57
variable {s : d_S} {t : Nat → Option p_C} {u v W H N : Nat} {st me so : Nat → Nat} {sg : Nat → Nat → Nat}
theorem v_pkz_t {sh k y : Nat} (h1 : y &&& sh = 0) (h2 : k ≤ v_lp y H) : v_pkz sh H k y = true := by
  unfold v_pkz
  rw [v_beq h1, Nat.ble_eq_true_of_le h2]; rfl
theorem v_pkz_f {sh k y : Nat} (h : ¬ (y &&& sh = 0 ∧ k ≤ v_lp y H)) : v_pkz sh H k y = false := by
  cases e : v_pkz sh H k y
  · rfl
  · unfold v_pkz at e
    rw [Bool.and_eq_true] at e
    exact absurd ⟨Nat.eq_of_beq_eq_true e.1, Nat.le_of_ble_eq_true e.2⟩ h
theorem v_pq_t {sh m w y : Nat} (h1 : y &&& sh = 0) (h2 : m ≤ w * v_lp y H) : v_pq sh H m w y = true := by
  unfold v_pq
  rw [v_beq h1, Nat.ble_eq_true_of_le h2]; rfl
theorem v_pq_f {sh m w y : Nat} (h : ¬ (y &&& sh = 0 ∧ m ≤ w * v_lp y H)) : v_pq sh H m w y = false := by
  cases e : v_pq sh H m w y
  · rfl
  · unfold v_pq at e
    rw [Bool.and_eq_true] at e
    exact absurd ⟨Nat.eq_of_beq_eq_true e.1, Nat.le_of_ble_eq_true e.2⟩ h
theorem v_fill63 : ∀ (j k m : Nat), k + j = 9 → j < m → ∀ s : d_S, (∀ i, i < k → s.1 63 i = -1) → ∃ s', F_J7_fill_53178_63_l5 m (-1) (k : Int) 9 s = some s' ∧ v_fr [63] s s' ∧ ∀ i, i < 9 → s'.1 63 i = -1 := by
  intro j
  induction j with
  | zero =>
    intro k m hk hm s h
    obtain ⟨m, rfl⟩ : ∃ q, m = q + 1 := ⟨m - 1, by omega⟩
    refine ⟨s, ?_, v_fr.rfl, fun i hi => h i (by omega)⟩
    show F_J7_fill_53178_63_l5_b (F_J7_fill_53178_63_l5 m) _ _ _ _ = _
    unfold F_J7_fill_53178_63_l5_b
    rw [if_neg (by omega)]
  | succ j ih =>
    intro k m hk hm s h
    obtain ⟨m, rfl⟩ : ∃ q, m = q + 1 := ⟨m - 1, by omega⟩
    obtain ⟨s', g1, g2, g3⟩ := ih (k + 1) m (by omega) (by omega) (d_si s 63 k (-1)) (fun i hi => by
      rw [d_si_i]
      by_cases q : i = k
      · subst q; exact d_u_t
      · rw [d_u_n q]; exact h i (by omega))
    refine ⟨s', ?_, (v_fr.si (by decide)).trans g2, g3⟩
    show F_J7_fill_53178_63_l5_b (F_J7_fill_53178_63_l5 m) _ _ _ _ = _
    unfold F_J7_fill_53178_63_l5_b
    rw [if_pos (by omega), d_g_t (by omega), d_l_t, Int.toNat_natCast, d_w_id (x := (k : Int) + 1) (by omega) (by omega)]
    exact g1
theorem v_lev1 {K : Int → Int → d_S → Option d_S} {sh n low : Nat} (hn : n < 128) (hl : low = if n &&& sh = 0 then v_lp n H else 0) : ∀ (j k m : Nat), 1 ≤ k → k + j = 9 → j < m → ∀ s : d_S, (∀ i, 1 ≤ i → i < 9 → s.1 63 i = v_on (v_bz (v_pkz sh H i) (if i < k then n + 1 else n))) → ∃ s', F_X11_findLevelSets_l50 K m (sh : Int) (n : Int) (low : Int) (k : Int) s = K (sh : Int) (n : Int) s' ∧ v_fr [63] s s' ∧ ∀ i, 1 ≤ i → i < 9 → s'.1 63 i = v_on (v_bz (v_pkz sh H i) (n + 1)) := by
  intro j
  induction j with
  | zero =>
    intro k m h1 hk hm s h
    obtain ⟨m, rfl⟩ : ∃ q, m = q + 1 := ⟨m - 1, by omega⟩
    refine ⟨s, ?_, v_fr.rfl, fun i i1 i2 => by rw [h i i1 i2, if_pos (by omega)]⟩
    show F_X11_findLevelSets_l50_b K (F_X11_findLevelSets_l50 K m) _ _ _ _ _ = _
    unfold F_X11_findLevelSets_l50_b
    by_cases q : low < k
    · rw [if_pos (by omega)]
    · rw [if_neg (by omega), if_neg (by omega)]
  | succ j ih =>
    intro k m h1 hk hm s h
    obtain ⟨m, rfl⟩ : ∃ q, m = q + 1 := ⟨m - 1, by omega⟩
    by_cases q : low < k
    · refine ⟨s, ?_, v_fr.rfl, fun i i1 i2 => ?_⟩
      · show F_X11_findLevelSets_l50_b K (F_X11_findLevelSets_l50 K m) _ _ _ _ _ = _
        unfold F_X11_findLevelSets_l50_b
        rw [if_pos (by omega)]
      · rw [h i i1 i2]
        by_cases z : i < k
        · rw [if_pos z]
        · rw [if_neg z, v_bz_f]
          refine v_pkz_f fun hh => ?_
          rw [if_pos hh.1] at hl
          omega
    · have hz : n &&& sh = 0 := by
        by_cases e : n &&& sh = 0
        · exact e
        · rw [if_neg e] at hl; omega
      rw [if_pos hz] at hl
      have ht : v_pkz sh H k n = true := v_pkz_t hz (by omega)
      have hk0 := h k h1 (by omega)
      rw [if_neg (by omega)] at hk0
      have go : v_on (v_bz (v_pkz sh H k) (n + 1)) = (n : Int) → ∃ s', F_X11_findLevelSets_j94 (F_X11_findLevelSets_l50 K m) (sh : Int) (n : Int) (low : Int) (k : Int) s = K (sh : Int) (n : Int) s' ∧ v_fr [63] s s' ∧ ∀ i, 1 ≤ i → i < 9 → s'.1 63 i = v_on (v_bz (v_pkz sh H i) (n + 1)) := fun e => by
        obtain ⟨s', g1, g2, g3⟩ := ih (k + 1) m (by omega) (by omega) (by omega) (d_si s 63 k (n : Int)) (fun i i1 i2 => by
          rw [d_si_i]
          by_cases z : i = k
          · subst z; rw [d_u_t, if_pos (by omega), e]
          · rw [d_u_n z, h i i1 i2]
            by_cases z2 : i < k
            · rw [if_pos z2, if_pos (by omega)]
            · rw [if_neg z2, if_neg (by omega)])
        refine ⟨s', ?_, (v_fr.si (by decide)).trans g2, g3⟩
        unfold F_X11_findLevelSets_j94
        rw [d_g_t (by omega), d_l_t, Int.toNat_natCast, d_w_id (x := (k : Int) + 1) (by omega) (by omega)]
        exact g1
      have no : v_on (v_bz (v_pkz sh H k) (n + 1)) = s.1 63 k → ∃ s', F_X11_findLevelSets_l50 K m (sh : Int) (n : Int) (low : Int) ((k + 1 : Nat) : Int) s = K (sh : Int) (n : Int) s' ∧ v_fr [63] s s' ∧ ∀ i, 1 ≤ i → i < 9 → s'.1 63 i = v_on (v_bz (v_pkz sh H i) (n + 1)) := fun e => by
        refine ih (k + 1) m (by omega) (by omega) (by omega) s (fun i i1 i2 => ?_)
        by_cases z : i = k
        · subst z; rw [if_pos (by omega), e]
        · rw [h i i1 i2]
          by_cases z2 : i < k
          · rw [if_pos z2, if_pos (by omega)]
          · rw [if_neg z2, if_neg (by omega)]
      show ∃ s', F_X11_findLevelSets_l50_b K (F_X11_findLevelSets_l50 K m) _ _ _ _ _ = _ ∧ _
      unfold F_X11_findLevelSets_l50_b
      rw [if_neg (by omega), if_pos (by omega), d_g_t (by omega), Int.toNat_natCast]
      cases e : v_bz (v_pkz sh H k) n with
      | none =>
        rw [e] at hk0
        have hk1 : s.1 63 k = -1 := hk0
        rw [if_pos hk1]
        exact go (by rw [v_bz_0 ht e]; rfl)
      | some y =>
        have hy := v_bz_lt n e
        rw [e] at hk0
        have hk1 : s.1 63 k = (y : Int) := hk0
        rw [if_neg (by omega), P_bitCount (by omega), d_b_t, d_g_t (by omega), hk1, P_bitCount (by omega), d_b_t]
        by_cases z : v_pc y 12 < v_pc n 12
        · rw [if_pos (by omega)]
          exact go (by rw [v_bz_1 ht e, if_pos z]; rfl)
        · rw [if_neg (by omega), d_w_id (x := (k : Int) + 1) (by omega) (by omega)]
          exact no (by rw [v_bz_1 ht e, if_neg z, hk1]; rfl)
theorem v_2pH (hH : 1 ≤ H ∧ H ≤ 8) : 2 ^ (H - 1) ≤ 128 := Nat.pow_le_pow_right (n := 2) (i := H - 1) (j := 7) (by decide) (by omega)
theorem v_1shH (hH : 1 ≤ H ∧ H ≤ 8) : d_shl 1 ((H : Int) - 1) = ((2 ^ (H - 1) : Nat) : Int) := by
  rw [show (H : Int) - 1 = ((H - 1 : Nat) : Int) by omega]
  exact v_1shl (by omega)
theorem v_lev2 {sh : Nat} (hH : 1 ≤ H ∧ H ≤ 8) (hsh : sh < 4096) : ∀ (j n m : Nat), n + j = 2 ^ (H - 1) → j < m → ∀ s : d_S, s.1 3 1 = (H : Int) → (∀ i, 1 ≤ i → i < 9 → s.1 63 i = v_on (v_bz (v_pkz sh H i) n)) → ∃ s', F_X11_findLevelSets_l10 m (sh : Int) (n : Int) s = some s' ∧ v_fr [63] s s' ∧ ∀ i, 1 ≤ i → i < 9 → s'.1 63 i = v_on (v_bz (v_pkz sh H i) (2 ^ (H - 1))) := by
  have hp := v_2pH hH
  intro j
  induction j with
  | zero =>
    intro n m hn hm s h3 h
    obtain ⟨m, rfl⟩ : ∃ q, m = q + 1 := ⟨m - 1, by omega⟩
    have hn : n = 2 ^ (H - 1) := by omega
    subst hn
    refine ⟨s, ?_, v_fr.rfl, h⟩
    show F_X11_findLevelSets_l10_b (F_X11_findLevelSets_l10 m) _ _ _ = _
    unfold F_X11_findLevelSets_l10_b
    rw [h3, v_1shH hH, if_neg (by omega)]
  | succ j ih =>
    intro n m hn hm s h3 h
    obtain ⟨m, rfl⟩ : ∃ q, m = q + 1 := ⟨m - 1, by omega⟩
    have hlp := v_lp_le (u := n) (W := H)
    have one : ∀ low : Nat, (low = if n &&& sh = 0 then v_lp n H else 0) → ∃ s', F_X11_findLevelSets_l50 (fun x1 x2 s => F_X11_findLevelSets_l10 m x1 (d_w (x2 + 1)) s) d_N (sh : Int) (n : Int) (low : Int) 1 s = some s' ∧ v_fr [63] s s' ∧ ∀ i, 1 ≤ i → i < 9 → s'.1 63 i = v_on (v_bz (v_pkz sh H i) (2 ^ (H - 1))) := fun low hl => by
      obtain ⟨s1, a1, a2, a3⟩ := v_lev1 (K := fun x1 x2 s => F_X11_findLevelSets_l10 m x1 (d_w (x2 + 1)) s) (H := H) (by omega) hl 8 1 d_N (by decide) rfl (by rw [d_N_is]; decide) s (fun i i1 i2 => by rw [if_neg (by omega)]; exact h i i1 i2)
      obtain ⟨s2, b1, b2, b3⟩ := ih (n + 1) m (by omega) (by omega) s1 (by rw [a2.1 3 (by decide)]; exact h3) a3
      refine ⟨s2, ?_, a2.trans b2, b3⟩
      refine a1.trans ?_
      show F_X11_findLevelSets_l10 m (sh : Int) (d_w ((n : Int) + 1)) s1 = _
      rw [d_w_id (by omega) (by omega)]
      exact b1
    show ∃ s', F_X11_findLevelSets_l10_b (F_X11_findLevelSets_l10 m) _ _ _ = _ ∧ _
    unfold F_X11_findLevelSets_l10_b
    rw [h3, v_1shH hH, if_pos (by omega), v_and (by omega) (by omega)]
    by_cases q : n &&& sh = 0
    · rw [if_pos (by omega), P_narrowest (by omega) (by omega) hH, d_b_t]
      exact one _ (by rw [if_pos q])
    · rw [if_neg (by omega)]
      exact one 0 (by rw [if_neg q])
theorem P_findLevel {sh : Nat} (hH : 1 ≤ H ∧ H ≤ 8) (hsh : sh < 4096) (h3 : s.1 3 1 = (H : Int)) : ∃ s', F_X11_findLevelSets s (sh : Int) = some s' ∧ v_fr [63] s s' ∧ ∀ i, 1 ≤ i → i < 9 → s'.1 63 i = v_on (v_bz (v_pkz sh H i) (2 ^ (H - 1))) := by
  have hp := v_2pH hH
  obtain ⟨s1, a1, a2, a3⟩ := v_fill63 9 0 d_N rfl (by rw [d_N_is]; decide) s (fun i hi => absurd hi (Nat.not_lt_zero i))
  obtain ⟨s2, b1, b2, b3⟩ := v_lev2 (sh := sh) hH hsh (2 ^ (H - 1)) 0 d_N (by omega) (by rw [d_N_is]; omega) s1 (by rw [a2.1 3 (by decide)]; exact h3) (fun i i1 i2 => a3 i i2)
  refine ⟨s2, ?_, a2.trans b2, b3⟩
  unfold F_X11_findLevelSets
  have a1' : F_J7_fill_53178_63 s (-1) = some s1 := a1
  rw [a1', d_b_t]
  exact b1
theorem P_levelFor {sh m w : Nat} (hT : ∀ i, 1 ≤ i → i < 9 → s.1 63 i = v_on (v_bz (v_pkz sh H i) (2 ^ (H - 1)))) (hH : H ≤ 8) (hm : 1 ≤ m ∧ m ≤ 64) (hw : w ≤ 8) : F_X11_levelSetFor s (w : Int) (m : Int) = some (v_on (v_bz (v_pq sh H m w) (2 ^ (H - 1)))) := by
  unfold F_X11_levelSetFor
  rw [show d_w (9 - 1) = 8 from rfl]
  by_cases q : w = 0
  · subst q
    rw [if_neg (by omega), P_within, d_b_t, v_bf (by omega), if_pos rfl, v_bz_n _ (fun y _ => v_pq_f (fun hh => by have := hh.2; rw [Nat.zero_mul] at this; omega))]
    rfl
  · have e : (((m : Int) + (w : Int)) - 1) = ((m + w - 1 : Nat) : Int) := by omega
    have hk : ∀ l : Nat, (m + w - 1) / w ≤ l ↔ m ≤ w * l := fun l => by
      rw [Nat.div_le_iff_le_mul_add_pred (by omega)]
      omega
    have h1 : 1 ≤ (m + w - 1) / w := (Nat.le_div_iff_mul_le (by omega)).2 (by omega)
    rw [if_pos (by omega), d_g_t (by omega), d_l_t, e, v_div (by omega) (by omega), P_within, d_b_t]
    by_cases q2 : (m + w - 1) / w ≤ 8
    · rw [v_bt (by omega), if_neg (by decide), d_g_t (by omega), Int.toNat_natCast, hT _ h1 (by omega), v_bz_cg (Q := v_pq sh H m w)]
      intro y _
      by_cases z : y &&& sh = 0 ∧ (m + w - 1) / w ≤ v_lp y H
      · rw [v_pkz_t z.1 z.2, v_pq_t z.1 ((hk _).1 z.2)]
      · rw [v_pkz_f z, v_pq_f (fun hh => z ⟨hh.1, (hk _).2 hh.2⟩)]
    · rw [v_bf (by omega), if_pos rfl, v_bz_n _ (fun y _ => v_pq_f (fun hh => q2 ((hk 8).2 (Nat.le_trans hh.2 (Nat.mul_le_mul_left w (Nat.le_trans v_lp_le hH))))))]
      rfl
theorem v_w1_ge (o : Option (Nat × Nat)) : -1 ≤ v_w1 o := by
  cases o with
  | none => exact Int.le_refl _
  | some p => show -1 ≤ ((v_bl p.1 p.2 : Nat) : Int); omega
theorem v_blb {x y : Nat} : v_bl x y ≤ 169 := Nat.mul_le_mul (Nat.succ_le_succ (v_pc_le 12)) (Nat.succ_le_succ (v_pc_le 12))
theorem v_sawC {K : Int → Int → Int → Int → d_S → Option (Int × d_S)} {shU shL m : Nat} {y : Int} (hW : 1 ≤ W ∧ W ≤ 8) (hH : 1 ≤ H ∧ H ≤ 8) (hU : shU < 4096) (hm : 1 ≤ m ∧ m ≤ 64) (h30 : s.1 3 0 = (W : Int)) (hT : ∀ i, 1 ≤ i → i < 9 → s.1 63 i = v_on (v_bz (v_pkz shL H i) (2 ^ (H - 1)))) : ∀ (j n f : Nat), n + j = 2 ^ (W - 1) → j < f → F_X11_sawing_l82 K f (m : Int) y (shU : Int) (v_w1 (v_wsz shU shL W H m n)) (v_w2 (v_wsz shU shL W H m n)) (v_w3 (v_wsz shU shL W H m n)) (n : Int) s = K y (v_w1 (v_wsz shU shL W H m (2 ^ (W - 1)))) (v_w2 (v_wsz shU shL W H m (2 ^ (W - 1)))) (v_w3 (v_wsz shU shL W H m (2 ^ (W - 1)))) s := by
  have hpW := v_2pH hW
  have hpH := v_2pH hH
  intro j
  induction j with
  | zero =>
    intro n f hn hf
    obtain ⟨f, rfl⟩ : ∃ q, f = q + 1 := ⟨f - 1, by omega⟩
    have hn : n = 2 ^ (W - 1) := by omega
    subst hn
    show F_X11_sawing_l82_b K (F_X11_sawing_l82 K f) _ _ _ _ _ _ _ _ = _
    unfold F_X11_sawing_l82_b
    rw [h30, v_1shH hW, if_neg (by omega)]
  | succ j ih =>
    intro n f hn hf
    obtain ⟨f, rfl⟩ : ∃ q, f = q + 1 := ⟨f - 1, by omega⟩
    have hr := ih (n + 1) f (by omega) (by omega)
    have hlp := v_lp_le (u := n) (W := W)
    have h1 := v_w1_ge (v_wsz shU shL W H m n)
    have fin : ∀ b : Option Nat, b = v_nn2 shU shL W H m n (2 ^ (H - 1)) → F_X11_sawing_j127 (F_X11_sawing_l82 K f) (m : Int) y (shU : Int) (v_w1 (v_wsz shU shL W H m n)) (v_w2 (v_wsz shU shL W H m n)) (v_w3 (v_wsz shU shL W H m n)) (n : Int) (v_on b) s = K y (v_w1 (v_wsz shU shL W H m (2 ^ (W - 1)))) (v_w2 (v_wsz shU shL W H m (2 ^ (W - 1)))) (v_w3 (v_wsz shU shL W H m (2 ^ (W - 1)))) s := fun b hb => by
      have hr2 := hr
      simp only [v_wsz] at hr2
      rw [← hb] at hr2
      unfold F_X11_sawing_j127 F_X11_sawing_j154
      cases b with
      | none =>
        rw [if_pos (show v_on none = -1 from rfl), if_neg (by omega), d_w_id (x := (n : Int) + 1) (by omega) (by omega)]
        exact hr2
      | some z =>
        have hz : z < 128 := by
          unfold v_nn2 at hb
          split at hb
          · have := v_bz_lt _ hb.symm; omega
          · cases hb
        have e0 : v_on (some z) = (z : Int) := rfl
        have hb1 := v_blb (x := n) (y := z)
        have e1 : ((v_pc n 12 : Nat) : Int) + 1 = ((v_ac n : Nat) : Int) := rfl
        have e2 : ((v_pc z 12 : Nat) : Int) + 1 = ((v_ac z : Nat) : Int) := rfl
        have e3 : ((v_ac n : Nat) : Int) * ((v_ac z : Nat) : Int) = ((v_bl n z : Nat) : Int) := by rw [← Int.natCast_mul]; rfl
        rw [e0, if_neg (by omega), P_bitCount (by omega), d_b_t, P_bitCount (by omega), d_b_t, e1, e2, e3, d_w_id (x := ((v_bl n z : Nat) : Int)) (by omega) (by omega), d_w_id (x := (n : Int) + 1) (by omega) (by omega)]
        cases e : v_wsz shU shL W H m n with
        | none =>
          rw [e] at hr2
          have : v_w1 none < ((v_bl n z : Nat) : Int) := by show (-1 : Int) < _; omega
          rw [if_pos this]
          exact hr2
        | some p =>
          rw [e] at hr2
          have e4 : v_ud (some p) n (some z) = if v_bl p.1 p.2 < v_bl n z then some (n, z) else some p := rfl
          rw [e4] at hr2
          by_cases q : v_bl p.1 p.2 < v_bl n z
          · rw [if_pos q] at hr2
            have : v_w1 (some p) < ((v_bl n z : Nat) : Int) := by show ((v_bl p.1 p.2 : Nat) : Int) < _; omega
            rw [if_pos this]
            exact hr2
          · rw [if_neg q] at hr2
            have : ¬ v_w1 (some p) < ((v_bl n z : Nat) : Int) := by show ¬ ((v_bl p.1 p.2 : Nat) : Int) < _; omega
            rw [if_neg this]
            exact hr2
    show F_X11_sawing_l82_b K (F_X11_sawing_l82 K f) _ _ _ _ _ _ _ _ = _
    unfold F_X11_sawing_l82_b
    rw [h30, v_1shH hW, if_pos (by omega), v_and (by omega) (by omega)]
    by_cases q : n &&& shU = 0
    · rw [if_pos (by omega), P_narrowest (by omega) (by omega) hW, d_b_t, P_levelFor hT hH.2 hm (by omega), d_b_t]
      exact fin _ (by unfold v_nn2; rw [if_pos q])
    · rw [if_neg (by omega)]
      exact fin none (by unfold v_nn2; rw [if_neg q])
end V57

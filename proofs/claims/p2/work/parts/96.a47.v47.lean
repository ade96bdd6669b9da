def v_dr (S : Nat → Prop) (P : Nat → Int) (bl : Nat) (y r : Int) : Prop := (∃ b : Nat, r = b ∧ b < bl ∧ S b ∧ ((v_ct (fun c => v_ah P c b) bl : Nat) : Int) = y) ∨ (r = -1 ∧ ∀ b, b < bl → S b → ¬ ((v_ct (fun c => v_ah P c b) bl : Nat) : Int) = y)
section V47
variable {s s1 s2 : d_S} {t : Nat → Option p_C} {L : v_LR} {u v W H b N n : Nat} {st me so : Nat → Nat} {sg : Nat → Nat → Nat} {day heat x : Int} {e : Option Nat} {S : Nat → Prop} {P : Nat → Int} {bl : Nat}
theorem v_dr_u {y r r' : Int} (h : v_dr S P bl y r) (h' : v_dr S P bl y r') : r = r' := by
  rcases h with ⟨b, h1, h2, h3, h4⟩ | ⟨h1, h2⟩ <;> rcases h' with ⟨b', g1, g2, g3, g4⟩ | ⟨g1, g2⟩
  · by_cases q : b = b'
    · rw [h1, g1, q]
    · rcases v_ah_c (P := P) q with q | q
      · have := v_ah_r (k := bl) q h2; omega
      · have := v_ah_r (k := bl) q g2; omega
  · exact absurd h4 (g2 b h2 h3)
  · exact absurd g4 (h2 b' g2 g3)
  · rw [h1, g1]
theorem v_manyl (hQ : v_Q s u v W H) {b : Nat} (hb : b < v_bl u v) : ∀ (j k m : Nat), k + j = v_bl u v → j < m → F_X11_manyAhead_l5 s m (b : Int) (s.1 61 b) ((v_ct (fun c => v_ah (s.1 61) c b) k : Nat) : Int) (k : Int) = some ((v_ct (fun c => v_ah (s.1 61) c b) (v_bl u v) : Nat) : Int) := by
  have h64 := hQ.2.2.1
  intro j
  induction j with
  | zero =>
    intro k m hk hm
    obtain ⟨m, rfl⟩ : ∃ q, m = q + 1 := ⟨m - 1, by omega⟩
    have hk : k = v_bl u v := by omega
    subst hk
    show F_X11_manyAhead_l5_b s (F_X11_manyAhead_l5 s m) _ _ _ _ = _
    unfold F_X11_manyAhead_l5_b
    rw [hQ.1, if_neg (by omega)]
  | succ j ih =>
    intro k m hk hm
    obtain ⟨m, rfl⟩ : ∃ q, m = q + 1 := ⟨m - 1, by omega⟩
    have hr := ih (k + 1) m (by omega) (by omega)
    have hb := v_ct_b (Q := fun c => v_ah (s.1 61) c b) k
    show F_X11_manyAhead_l5_b s (F_X11_manyAhead_l5 s m) _ _ _ _ = _
    unfold F_X11_manyAhead_l5_b
    have w1 : d_w (((v_ct (fun c => v_ah (s.1 61) c b) k : Nat) : Int) + 1) = ((v_ct (fun c => v_ah (s.1 61) c b) k + 1 : Nat) : Int) := by rw [d_w_id (by omega) (by omega)]; rfl
    rw [hQ.1, if_pos (by omega), if_pos (by omega), d_g_t (by omega), d_g_t (by omega), Int.toNat_natCast, w1, d_w_id (x := (k : Int) + 1) (by omega) (by omega)]
    by_cases q1 : s.1 61 b < s.1 61 k
    · rw [if_pos q1, ← v_ct_s (Q := fun c => v_ah (s.1 61) c b) (Or.inl q1)]; exact hr
    rw [if_neg q1]
    by_cases q2 : s.1 61 k = s.1 61 b
    · rw [if_pos q2]
      by_cases q3 : k < b
      · rw [if_pos (by omega), ← v_ct_s (Q := fun c => v_ah (s.1 61) c b) (Or.inr ⟨q2, q3⟩)]; exact hr
      · rw [v_ct_n (Q := fun c => v_ah (s.1 61) c b) (fun e => by rcases e with e | e <;> omega)] at hr
        rw [if_neg (by omega)]; exact hr
    · rw [v_ct_n (Q := fun c => v_ah (s.1 61) c b) (fun e => by rcases e with e | e <;> omega)] at hr
      rw [if_neg q2]; exact hr
theorem v_de53 (hQ : v_Q s u v W H) (hS : ∀ b, b < v_bl u v → (S b ↔ ¬ s.1 61 b = -1)) {y : Int} : ∀ (j k m : Nat), k + j = v_bl u v → j < m → (∀ b, b < k → S b → ¬ ((v_ct (fun c => v_ah (s.1 61) c b) (v_bl u v) : Nat) : Int) = y) → ∃ r, F_X11_dearest_l53 t m y (k : Int) s = some (r, s) ∧ v_dr S (s.1 61) (v_bl u v) y r := by
  have h64 := hQ.2.2.1
  intro j
  induction j with
  | zero =>
    intro k m hk hm h
    obtain ⟨m, rfl⟩ : ∃ q, m = q + 1 := ⟨m - 1, by omega⟩
    have hk : k = v_bl u v := by omega
    subst hk
    refine ⟨-1, ?_, Or.inr ⟨rfl, h⟩⟩
    show F_X11_dearest_l53_b t (F_X11_dearest_l53 t m) _ _ s = _
    unfold F_X11_dearest_l53_b
    rw [hQ.1, if_neg (by omega)]
  | succ j ih =>
    intro k m hk hm h
    obtain ⟨m, rfl⟩ : ∃ q, m = q + 1 := ⟨m - 1, by omega⟩
    have hkb : k < v_bl u v := by omega
    show ∃ r, F_X11_dearest_l53_b t (F_X11_dearest_l53 t m) _ _ s = _ ∧ _
    unfold F_X11_dearest_l53_b
    rw [hQ.1, if_pos (by omega), if_pos (by omega), d_g_t (by omega), d_g_t (by omega), Int.toNat_natCast, d_w_id (x := (k : Int) + 1) (by omega) (by omega)]
    by_cases q : s.1 61 k = -1
    · rw [if_pos q]
      exact ih (k + 1) m (by omega) (by omega) (fun b hb hs => by
        by_cases z : b = k
        · rw [z] at hs; exact absurd q ((hS k hkb).1 hs)
        · exact h b (by omega) hs)
    rw [if_neg q]
    have hm : F_X11_manyAhead s (k : Int) (s.1 61 k) = some ((v_ct (fun c => v_ah (s.1 61) c k) (v_bl u v) : Nat) : Int) := v_manyl hQ hkb (v_bl u v) 0 d_N (by omega) (by rw [d_N_is]; omega)
    rw [hm, d_b_t]
    by_cases q2 : ((v_ct (fun c => v_ah (s.1 61) c k) (v_bl u v) : Nat) : Int) = y
    · rw [if_pos q2]
      exact ⟨(k : Int), rfl, Or.inl ⟨k, rfl, hkb, (hS k hkb).2 q, q2⟩⟩
    · rw [if_neg q2]
      exact ih (k + 1) m (by omega) (by omega) (fun b hb hs => by
        by_cases z : b = k
        · rw [z]; exact q2
        · exact h b (by omega) hs)
def v_74 (s s' : d_S) : Prop := (∀ a, a ≠ 71 → a ≠ 74 → s'.1 a = s.1 a) ∧ s'.2.1 = s.2.1
theorem v_de8 {K : Int → d_S → Option (Int × d_S)} {y : Int} : ∀ (j k m : Nat), k + j = 64 → j < m → ∀ s, v_rdr s L u v W H st me so N sg day heat → (∀ b, b < k → s.1 74 b = if v_csb u v so me b then 0 else 1) → ∃ s', F_X12_dearest_l8 K m y (k : Int) s = K y s' ∧ v_rdr s' L u v W H st me so N sg day heat ∧ (∀ b, b < 64 → s'.1 74 b = if v_csb u v so me b then 0 else 1) ∧ v_74 s s' := by
  intro j
  induction j with
  | zero =>
    intro k m hk hm s h hp
    obtain ⟨m, rfl⟩ : ∃ q, m = q + 1 := ⟨m - 1, by omega⟩
    have hk : k = 64 := by omega
    subst hk
    refine ⟨s, ?_, h, hp, fun _ _ _ => rfl, rfl⟩
    show F_X12_dearest_l8_b K (F_X12_dearest_l8 K m) _ _ s = _
    unfold F_X12_dearest_l8_b
    rw [if_neg (by omega)]
  | succ j ih =>
    intro k m hk hm s h hp
    obtain ⟨m, rfl⟩ : ∃ q, m = q + 1 := ⟨m - 1, by omega⟩
    have put : ∀ y2 : Int, y2 = (if v_csb u v so me k then 0 else 1) → ∃ s', F_X12_dearest_l8 K m y ((k + 1 : Nat) : Int) (d_si s 74 k y2) = K y s' ∧ v_rdr s' L u v W H st me so N sg day heat ∧ (∀ b, b < 64 → s'.1 74 b = if v_csb u v so me b then 0 else 1) ∧ v_74 s s' := fun y2 hy => by
      obtain ⟨s', r1, r2, r3, r4, r5⟩ := ih (k + 1) m (by omega) (by omega) (d_si s 74 k y2) (h.fr (d_si_n (by decide)) (d_si_n (by decide)) (by rw [d_si_n (by decide)]; exact h.2.2.2.2.1)) (fun b hb => by
        rw [d_si_i]
        by_cases q : b = k
        · rw [q, d_u_t]; exact hy
        · rw [d_u_n q]; exact hp b (by omega))
      exact ⟨s', r1, r2, r3, fun a h1 h2 => by rw [r4 a h1 h2, d_si_n h2], r5⟩
    show ∃ s', F_X12_dearest_l8_b K (F_X12_dearest_l8 K m) _ _ s = _ ∧ _
    unfold F_X12_dearest_l8_b
    rw [if_pos (by omega), P_csR h.1 h.2.2.1, d_b_t, d_g_t (by omega), d_g_t (by omega), Int.toNat_natCast, d_l_t, d_l_t, d_w_id (x := (k : Int) + 1) (by omega) (by omega)]
    by_cases q : v_csb u v so me k
    · rw [v_bt q, if_neg (by decide)]
      exact put 0 (by rw [if_pos q])
    · rw [v_bf q, if_pos rfl]
      exact put 1 (by rw [if_neg q])
def v_bst (U : Nat → Prop) (P : Nat → Int) (k : Nat) (z : Int) : Prop := (z = -1 ∧ ∀ d, d < k → ¬ U d) ∨ ∃ b : Nat, z = b ∧ b < k ∧ U b ∧ ∀ d, d < k → U d → ¬ d = b → v_ah P b d
theorem v_de53R {K : Int → Int → Int → d_S → Option (Int × d_S)} {y i : Int} {T : Nat → Int} : ∀ (j k m : Nat), k + j = v_bl u v → j < m → ∀ (s : d_S) (z : Int), v_rdr s L u v W H st me so N sg day heat → s.1 74 = T → v_bst (fun c => T c = 0) (v_pr1 L sg u v W H N day heat st me) k z → ∃ (z' : Int) (s' : d_S), F_X12_dearest_l53 K m y z i (k : Int) s = K y z' i s' ∧ v_rdr s' L u v W H st me so N sg day heat ∧ v_71 s s' ∧ v_bst (fun c => T c = 0) (v_pr1 L sg u v W H N day heat st me) (v_bl u v) z' := by
  intro j
  induction j with
  | zero =>
    intro k m hk hm s z h hT hz
    obtain ⟨m, rfl⟩ : ∃ q, m = q + 1 := ⟨m - 1, by omega⟩
    have hk : k = v_bl u v := by omega
    subst hk
    refine ⟨z, s, ?_, h, ⟨fun _ _ => rfl, rfl, fun h => h⟩, hz⟩
    show F_X12_dearest_l53_b K (F_X12_dearest_l53 K m) _ _ _ _ s = _
    unfold F_X12_dearest_l53_b
    rw [P_blocks h.1, d_b_t, if_neg (by omega)]
  | succ j ih =>
    intro k m hk hm s z h hT hz
    obtain ⟨m, rfl⟩ : ∃ q, m = q + 1 := ⟨m - 1, by omega⟩
    have hkb : k < v_bl u v := by omega
    have h64 := h.1.ac.2.2.1
    show ∃ (z' : Int) (s' : d_S), F_X12_dearest_l53_b K (F_X12_dearest_l53 K m) _ _ _ _ s = _ ∧ _
    unfold F_X12_dearest_l53_b
    rw [P_blocks h.1, d_b_t, if_pos (by omega), d_g_t (by omega), Int.toNat_natCast, hT, d_w_id (x := (k : Int) + 1) (by omega) (by omega)]
    by_cases q : T k = 0
    rotate_left
    · rw [if_neg q]
      refine ih (k + 1) m (by omega) (by omega) s z h hT ?_
      rcases hz with ⟨h1, h2⟩ | ⟨b, h1, h2, h3, h4⟩
      · refine Or.inl ⟨h1, fun d hd => ?_⟩
        by_cases e : d = k
        · rw [e]; exact q
        · exact h2 d (by omega)
      · refine Or.inr ⟨b, h1, by omega, h3, fun d hd hu hne => ?_⟩
        by_cases e : d = k
        · rw [e] at hu; exact absurd hu q
        · exact h4 d (by omega) hu hne
    rw [if_pos q]
    rcases hz with ⟨h1, h2⟩ | ⟨b, h1, h2, h3, h4⟩
    · rw [if_pos h1]
      refine ih (k + 1) m (by omega) (by omega) s (k : Int) h hT (Or.inr ⟨k, rfl, by omega, q, fun d hd hu hne => absurd hu (h2 d (by omega))⟩)
    subst h1
    rw [if_neg (by omega)]
    obtain ⟨s2, r1, r2, r3⟩ := h.ask hkb
    obtain ⟨s3, g1, g2, g3⟩ := r3.ask (b := b) (by omega)
    have h71 : v_71 s s3 := ⟨fun a ha => (g2.1 a ha).trans (r2.1 a ha), g2.2.1.trans r2.2.1, fun hh => g2.2.2 (r2.2.2 hh)⟩
    have hT3 : s3.1 74 = T := (h71.1 74 (by decide)).trans hT
    have tr : ∀ z, v_bst (fun c => T c = 0) (v_pr1 L sg u v W H N day heat st me) (k + 1) z → ∃ (z' : Int) (s' : d_S), F_X12_dearest_l53 K m y z i ((k + 1 : Nat) : Int) s3 = K y z' i s' ∧ v_rdr s' L u v W H st me so N sg day heat ∧ v_71 s s' ∧ v_bst (fun c => T c = 0) (v_pr1 L sg u v W H N day heat st me) (v_bl u v) z' := fun z hz => by
      obtain ⟨z', s', c1, c2, c3, c4⟩ := ih (k + 1) m (by omega) (by omega) s3 z g3 hT3 hz
      exact ⟨z', s', c1, c2, ⟨fun a ha => (c3.1 a ha).trans (h71.1 a ha), c3.2.1.trans h71.2.1, fun hh => c3.2.2 (h71.2.2 hh)⟩, c4⟩
    rw [r1, d_b2_t, g1, d_b2_t]
    by_cases q2 : v_pr1 L sg u v W H N day heat st me b < v_pr1 L sg u v W H N day heat st me k
    · rw [if_pos q2]
      refine tr (k : Int) (Or.inr ⟨k, rfl, by omega, q, fun d hd hu hne => ?_⟩)
      by_cases e : d = b
      · rw [e]; exact Or.inl q2
      · exact v_ah_t (Or.inl q2) (h4 d (by omega) hu e)
    · rw [if_neg q2]
      refine tr (b : Int) (Or.inr ⟨b, rfl, by omega, h3, fun d hd hu hne => ?_⟩)
      by_cases e : d = k
      · rw [e]
        unfold v_ah
        omega
      · exact h4 d (by omega) hu hne
end V47

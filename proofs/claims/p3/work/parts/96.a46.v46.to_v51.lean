noncomputable def v_ct (Q : Nat → Prop) : Nat → Nat
  | 0 => 0
  | k + 1 => v_ct Q k + (@ite _ (Q k) (Classical.propDecidable _) 1 0)
def v_ah (P : Nat → Int) (c b : Nat) : Prop := P b < P c ∨ (P c = P b ∧ c < b)
section V46
variable {Q R : Nat → Prop} {P : Nat → Int} {k : Nat}
theorem v_ct_s (h : Q k) : v_ct Q (k + 1) = v_ct Q k + 1 := by simp only [v_ct]; rw [if_pos h]
theorem v_ct_n (h : ¬ Q k) : v_ct Q (k + 1) = v_ct Q k := by simp only [v_ct]; rw [if_neg h]; rfl
theorem v_ct_le : ∀ k, (∀ c, c < k → Q c → R c) → v_ct Q k ≤ v_ct R k := by
  intro k
  induction k with
  | zero => intro _; exact Nat.le_refl 0
  | succ k ih =>
    intro h
    have h1 := ih (fun c hc => h c (by omega))
    by_cases q : Q k
    · rw [v_ct_s q, v_ct_s (h k (by omega) q)]; omega
    · rw [v_ct_n q]
      by_cases r : R k
      · rw [v_ct_s r]; omega
      · rw [v_ct_n r]; exact h1
theorem v_ct_lt : ∀ k, (∀ c, c < k → Q c → R c) → (∃ c, c < k ∧ R c ∧ ¬ Q c) → v_ct Q k < v_ct R k := by
  intro k
  induction k with
  | zero => rintro _ ⟨c, h, -⟩; omega
  | succ k ih =>
    rintro h ⟨c, h1, h2, h3⟩
    have h0 := v_ct_le k (fun c hc => h c (by omega))
    by_cases e : c = k
    · rw [e] at h2 h3
      rw [v_ct_n h3, v_ct_s h2]; omega
    · have := ih (fun c hc => h c (by omega)) ⟨c, by omega, h2, h3⟩
      by_cases q : Q k
      · rw [v_ct_s q, v_ct_s (h k (by omega) q)]; omega
      · rw [v_ct_n q]
        by_cases r : R k
        · rw [v_ct_s r]; omega
        · rw [v_ct_n r]; exact this
theorem v_ct_cg (h : ∀ c, c < k → (Q c ↔ R c)) : v_ct Q k = v_ct R k :=
  Nat.le_antisymm (v_ct_le k (fun c hc => (h c hc).1)) (v_ct_le k (fun c hc => (h c hc).2))
theorem v_ct_b : ∀ k, v_ct Q k ≤ k := by
  intro k
  induction k with
  | zero => exact Nat.le_refl 0
  | succ k ih =>
    by_cases q : Q k
    · rw [v_ct_s q]; omega
    · rw [v_ct_n q]; omega
theorem v_ct_0 (h : ∀ c, c < k → ¬ Q c) : v_ct Q k = 0 := by
  induction k with
  | zero => rfl
  | succ k ih => rw [v_ct_n (h k (by omega))]; exact ih (fun c hc => h c (by omega))
theorem v_ct_add {b : Nat} (hb : ¬ Q b) : ∀ k, b < k → (∀ c, R c ↔ (Q c ∨ c = b)) → v_ct R k = v_ct Q k + 1 := by
  intro k
  induction k with
  | zero => intro h; omega
  | succ k ih =>
    intro h hR
    by_cases e : b = k
    · rw [v_ct_s ((hR k).2 (Or.inr e.symm)), v_ct_n (by rw [← e]; exact hb)]
      rw [v_ct_cg (R := Q) (fun c hc => (hR c).trans ⟨fun h => h.elim id (fun h => by omega), Or.inl⟩)]
    · have := ih (by omega) hR
      by_cases q : Q k
      · rw [v_ct_s q, v_ct_s ((hR k).2 (Or.inl q))]; omega
      · rw [v_ct_n q, v_ct_n (fun h => ((hR k).1 h).elim q (fun h => e h.symm))]; exact this
theorem v_ah_t {a b c : Nat} (h : v_ah P a b) (h' : v_ah P b c) : v_ah P a c := by
  unfold v_ah at *; omega
theorem v_ah_i {a : Nat} : ¬ v_ah P a a := by unfold v_ah; omega
theorem v_ah_c {a b : Nat} (h : ¬ a = b) : v_ah P a b ∨ v_ah P b a := by unfold v_ah; omega
theorem v_ah_r {a b : Nat} (h : v_ah P a b) (ha : a < k) : v_ct (fun c => v_ah P c a) k < v_ct (fun c => v_ah P c b) k :=
  v_ct_lt k (fun c _ hc => v_ah_t hc h) ⟨a, ha, h, v_ah_i⟩
end V46
def v_dr (S : Nat → Prop) (P : Nat → Int) (bl : Nat) (y r : Int) : Prop := (∃ b : Nat, r = b ∧ b < bl ∧ S b ∧ ((v_ct (fun c => v_ah P c b) bl : Nat) : Int) = y) ∨ (r = -1 ∧ ∀ b, b < bl → S b → ¬ ((v_ct (fun c => v_ah P c b) bl : Nat) : Int) = y)
section V47
variable {s s1 s2 : d_S} {t : Nat → Option p_C} {L : v_LR} {u v W H b N n : Nat} {st me so : Nat → Nat} {sg : Nat → Nat → Nat} {day heat x : Int} {e : Option Nat} {S : Nat → Prop} {P : Nat → Int} {bl : Nat}
theorem v_dr_u {y r r' : Int} (h : v_dr S P bl y r) (h' : v_dr S P bl y r') : r = r' := by
  rcases h with ⟨b, h1, h2, h3, h4⟩ | ⟨h1, h2⟩ <;> rcases h' with ⟨b', g1, g2, g3, g4⟩ | ⟨g1, g2⟩
  · by_cases q : b = b'
    · rw [h1, g1, q]
    · rcases v_ah_c (P := P) q with q | q
      · have := v_ah_r (k := bl) q h2; omega
      · have := v_ah_r (k := bl) q g2; omega
  · exact absurd h4 (g2 b h2 h3)
  · exact absurd g4 (h2 b' g2 g3)
  · rw [h1, g1]
theorem v_manyl (hQ : v_Q s u v W H) {b : Nat} (hb : b < v_bl u v) : ∀ (j k m : Nat), k + j = v_bl u v → j < m → F_X11_manyAhead_l5 s m (b : Int) (s.1 61 b) ((v_ct (fun c => v_ah (s.1 61) c b) k : Nat) : Int) (k : Int) = some ((v_ct (fun c => v_ah (s.1 61) c b) (v_bl u v) : Nat) : Int) := by
  have h64 := hQ.2.2.1
  intro j
  induction j with
  | zero =>
    intro k m hk hm
    obtain ⟨m, rfl⟩ : ∃ q, m = q + 1 := ⟨m - 1, by omega⟩
    have hk : k = v_bl u v := by omega
    subst hk
    show F_X11_manyAhead_l5_b s (F_X11_manyAhead_l5 s m) _ _ _ _ = _
    unfold F_X11_manyAhead_l5_b
    rw [hQ.1, if_neg (by omega)]
  | succ j ih =>
    intro k m hk hm
    obtain ⟨m, rfl⟩ : ∃ q, m = q + 1 := ⟨m - 1, by omega⟩
    have hr := ih (k + 1) m (by omega) (by omega)
    have hb := v_ct_b (Q := fun c => v_ah (s.1 61) c b) k
    show F_X11_manyAhead_l5_b s (F_X11_manyAhead_l5 s m) _ _ _ _ = _
    unfold F_X11_manyAhead_l5_b
    have w1 : d_w (((v_ct (fun c => v_ah (s.1 61) c b) k : Nat) : Int) + 1) = ((v_ct (fun c => v_ah (s.1 61) c b) k + 1 : Nat) : Int) := by rw [d_w_id (by omega) (by omega)]; rfl
    rw [hQ.1, if_pos (by omega), if_pos (by omega), d_g_t (by omega), d_g_t (by omega), Int.toNat_natCast, w1, d_w_id (x := (k : Int) + 1) (by omega) (by omega)]
    by_cases q1 : s.1 61 b < s.1 61 k
    · rw [if_pos q1, ← v_ct_s (Q := fun c => v_ah (s.1 61) c b) (Or.inl q1)]; exact hr
    rw [if_neg q1]
    by_cases q2 : s.1 61 k = s.1 61 b
    · rw [if_pos q2]
      by_cases q3 : k < b
      · rw [if_pos (by omega), ← v_ct_s (Q := fun c => v_ah (s.1 61) c b) (Or.inr ⟨q2, q3⟩)]; exact hr
      · rw [v_ct_n (Q := fun c => v_ah (s.1 61) c b) (fun e => by rcases e with e | e <;> omega)] at hr
        rw [if_neg (by omega)]; exact hr
    · rw [v_ct_n (Q := fun c => v_ah (s.1 61) c b) (fun e => by rcases e with e | e <;> omega)] at hr
      rw [if_neg q2]; exact hr
theorem v_de53 (hQ : v_Q s u v W H) (hS : ∀ b, b < v_bl u v → (S b ↔ ¬ s.1 61 b = -1)) {y : Int} : ∀ (j k m : Nat), k + j = v_bl u v → j < m → (∀ b, b < k → S b → ¬ ((v_ct (fun c => v_ah (s.1 61) c b) (v_bl u v) : Nat) : Int) = y) → ∃ r, F_X11_dearest_l53 t m y (k : Int) s = some (r, s) ∧ v_dr S (s.1 61) (v_bl u v) y r := by
  have h64 := hQ.2.2.1
  intro j
  induction j with
  | zero =>
    intro k m hk hm h
    obtain ⟨m, rfl⟩ : ∃ q, m = q + 1 := ⟨m - 1, by omega⟩
    have hk : k = v_bl u v := by omega
    subst hk
    refine ⟨-1, ?_, Or.inr ⟨rfl, h⟩⟩
    show F_X11_dearest_l53_b t (F_X11_dearest_l53 t m) _ _ s = _
    unfold F_X11_dearest_l53_b
    rw [hQ.1, if_neg (by omega)]
  | succ j ih =>
    intro k m hk hm h
    obtain ⟨m, rfl⟩ : ∃ q, m = q + 1 := ⟨m - 1, by omega⟩
    have hkb : k < v_bl u v := by omega
    show ∃ r, F_X11_dearest_l53_b t (F_X11_dearest_l53 t m) _ _ s = _ ∧ _
    unfold F_X11_dearest_l53_b
    rw [hQ.1, if_pos (by omega), if_pos (by omega), d_g_t (by omega), d_g_t (by omega), Int.toNat_natCast, d_w_id (x := (k : Int) + 1) (by omega) (by omega)]
    by_cases q : s.1 61 k = -1
    · rw [if_pos q]
      exact ih (k + 1) m (by omega) (by omega) (fun b hb hs => by
        by_cases z : b = k
        · rw [z] at hs; exact absurd q ((hS k hkb).1 hs)
        · exact h b (by omega) hs)
    rw [if_neg q]
    have hm : F_X11_manyAhead s (k : Int) (s.1 61 k) = some ((v_ct (fun c => v_ah (s.1 61) c k) (v_bl u v) : Nat) : Int) := v_manyl hQ hkb (v_bl u v) 0 d_N (by omega) (by rw [d_N_is]; omega)
    rw [hm, d_b_t]
    by_cases q2 : ((v_ct (fun c => v_ah (s.1 61) c k) (v_bl u v) : Nat) : Int) = y
    · rw [if_pos q2]
      exact ⟨(k : Int), rfl, Or.inl ⟨k, rfl, hkb, (hS k hkb).2 q, q2⟩⟩
    · rw [if_neg q2]
      exact ih (k + 1) m (by omega) (by omega) (fun b hb hs => by
        by_cases z : b = k
        · rw [z]; exact q2
        · exact h b (by omega) hs)
def v_74 (s s' : d_S) : Prop := (∀ a, a ≠ 71 → a ≠ 74 → s'.1 a = s.1 a) ∧ s'.2.1 = s.2.1
theorem v_de8 {K : Int → d_S → Option (Int × d_S)} {y : Int} : ∀ (j k m : Nat), k + j = 64 → j < m → ∀ s, v_rdr s L u v W H st me so N sg day heat → (∀ b, b < k → s.1 74 b = if v_csb u v so me b then 0 else 1) → ∃ s', F_X12_dearest_l8 K m y (k : Int) s = K y s' ∧ v_rdr s' L u v W H st me so N sg day heat ∧ (∀ b, b < 64 → s'.1 74 b = if v_csb u v so me b then 0 else 1) ∧ v_74 s s' := by
  intro j
  induction j with
  | zero =>
    intro k m hk hm s h hp
    obtain ⟨m, rfl⟩ : ∃ q, m = q + 1 := ⟨m - 1, by omega⟩
    have hk : k = 64 := by omega
    subst hk
    refine ⟨s, ?_, h, hp, fun _ _ _ => rfl, rfl⟩
    show F_X12_dearest_l8_b K (F_X12_dearest_l8 K m) _ _ s = _
    unfold F_X12_dearest_l8_b
    rw [if_neg (by omega)]
  | succ j ih =>
    intro k m hk hm s h hp
    obtain ⟨m, rfl⟩ : ∃ q, m = q + 1 := ⟨m - 1, by omega⟩
    have put : ∀ y2 : Int, y2 = (if v_csb u v so me k then 0 else 1) → ∃ s', F_X12_dearest_l8 K m y ((k + 1 : Nat) : Int) (d_si s 74 k y2) = K y s' ∧ v_rdr s' L u v W H st me so N sg day heat ∧ (∀ b, b < 64 → s'.1 74 b = if v_csb u v so me b then 0 else 1) ∧ v_74 s s' := fun y2 hy => by
      obtain ⟨s', r1, r2, r3, r4, r5⟩ := ih (k + 1) m (by omega) (by omega) (d_si s 74 k y2) (h.fr (d_si_n (by decide)) (d_si_n (by decide)) (by rw [d_si_n (by decide)]; exact h.2.2.2.2.1)) (fun b hb => by
        rw [d_si_i]
        by_cases q : b = k
        · rw [q, d_u_t]; exact hy
        · rw [d_u_n q]; exact hp b (by omega))
      exact ⟨s', r1, r2, r3, fun a h1 h2 => by rw [r4 a h1 h2, d_si_n h2], r5⟩
    show ∃ s', F_X12_dearest_l8_b K (F_X12_dearest_l8 K m) _ _ s = _ ∧ _
    unfold F_X12_dearest_l8_b
    rw [if_pos (by omega), P_csR h.1 h.2.2.1, d_b_t, d_g_t (by omega), d_g_t (by omega), Int.toNat_natCast, d_l_t, d_l_t, d_w_id (x := (k : Int) + 1) (by omega) (by omega)]
    by_cases q : v_csb u v so me k
    · rw [v_bt q, if_neg (by decide)]
      exact put 0 (by rw [if_pos q])
    · rw [v_bf q, if_pos rfl]
      exact put 1 (by rw [if_neg q])
def v_bst (U : Nat → Prop) (P : Nat → Int) (k : Nat) (z : Int) : Prop := (z = -1 ∧ ∀ d, d < k → ¬ U d) ∨ ∃ b : Nat, z = b ∧ b < k ∧ U b ∧ ∀ d, d < k → U d → ¬ d = b → v_ah P b d
theorem v_de53R {K : Int → Int → Int → d_S → Option (Int × d_S)} {y i : Int} {T : Nat → Int} : ∀ (j k m : Nat), k + j = v_bl u v → j < m → ∀ (s : d_S) (z : Int), v_rdr s L u v W H st me so N sg day heat → s.1 74 = T → v_bst (fun c => T c = 0) (v_pr1 L sg u v W H N day heat st me) k z → ∃ (z' : Int) (s' : d_S), F_X12_dearest_l53 K m y z i (k : Int) s = K y z' i s' ∧ v_rdr s' L u v W H st me so N sg day heat ∧ v_71 s s' ∧ v_bst (fun c => T c = 0) (v_pr1 L sg u v W H N day heat st me) (v_bl u v) z' := by
  intro j
  induction j with
  | zero =>
    intro k m hk hm s z h hT hz
    obtain ⟨m, rfl⟩ : ∃ q, m = q + 1 := ⟨m - 1, by omega⟩
    have hk : k = v_bl u v := by omega
    subst hk
    refine ⟨z, s, ?_, h, ⟨fun _ _ => rfl, rfl, fun h => h⟩, hz⟩
    show F_X12_dearest_l53_b K (F_X12_dearest_l53 K m) _ _ _ _ s = _
    unfold F_X12_dearest_l53_b
    rw [P_blocks h.1, d_b_t, if_neg (by omega)]
  | succ j ih =>
    intro k m hk hm s z h hT hz
    obtain ⟨m, rfl⟩ : ∃ q, m = q + 1 := ⟨m - 1, by omega⟩
    have hkb : k < v_bl u v := by omega
    have h64 := h.1.ac.2.2.1
    show ∃ (z' : Int) (s' : d_S), F_X12_dearest_l53_b K (F_X12_dearest_l53 K m) _ _ _ _ s = _ ∧ _
    unfold F_X12_dearest_l53_b
    rw [P_blocks h.1, d_b_t, if_pos (by omega), d_g_t (by omega), Int.toNat_natCast, hT, d_w_id (x := (k : Int) + 1) (by omega) (by omega)]
    by_cases q : T k = 0
    rotate_left
    · rw [if_neg q]
      refine ih (k + 1) m (by omega) (by omega) s z h hT ?_
      rcases hz with ⟨h1, h2⟩ | ⟨b, h1, h2, h3, h4⟩
      · refine Or.inl ⟨h1, fun d hd => ?_⟩
        by_cases e : d = k
        · rw [e]; exact q
        · exact h2 d (by omega)
      · refine Or.inr ⟨b, h1, by omega, h3, fun d hd hu hne => ?_⟩
        by_cases e : d = k
        · rw [e] at hu; exact absurd hu q
        · exact h4 d (by omega) hu hne
    rw [if_pos q]
    rcases hz with ⟨h1, h2⟩ | ⟨b, h1, h2, h3, h4⟩
    · rw [if_pos h1]
      refine ih (k + 1) m (by omega) (by omega) s (k : Int) h hT (Or.inr ⟨k, rfl, by omega, q, fun d hd hu hne => absurd hu (h2 d (by omega))⟩)
    subst h1
    rw [if_neg (by omega)]
    obtain ⟨s2, r1, r2, r3⟩ := h.ask hkb
    obtain ⟨s3, g1, g2, g3⟩ := r3.ask (b := b) (by omega)
    have h71 : v_71 s s3 := ⟨fun a ha => (g2.1 a ha).trans (r2.1 a ha), g2.2.1.trans r2.2.1, fun hh => g2.2.2 (r2.2.2 hh)⟩
    have hT3 : s3.1 74 = T := (h71.1 74 (by decide)).trans hT
    have tr : ∀ z, v_bst (fun c => T c = 0) (v_pr1 L sg u v W H N day heat st me) (k + 1) z → ∃ (z' : Int) (s' : d_S), F_X12_dearest_l53 K m y z i ((k + 1 : Nat) : Int) s3 = K y z' i s' ∧ v_rdr s' L u v W H st me so N sg day heat ∧ v_71 s s' ∧ v_bst (fun c => T c = 0) (v_pr1 L sg u v W H N day heat st me) (v_bl u v) z' := fun z hz => by
      obtain ⟨z', s', c1, c2, c3, c4⟩ := ih (k + 1) m (by omega) (by omega) s3 z g3 hT3 hz
      exact ⟨z', s', c1, c2, ⟨fun a ha => (c3.1 a ha).trans (h71.1 a ha), c3.2.1.trans h71.2.1, fun hh => c3.2.2 (h71.2.2 hh)⟩, c4⟩
    rw [r1, d_b2_t, g1, d_b2_t]
    by_cases q2 : v_pr1 L sg u v W H N day heat st me b < v_pr1 L sg u v W H N day heat st me k
    · rw [if_pos q2]
      refine tr (k : Int) (Or.inr ⟨k, rfl, by omega, q, fun d hd hu hne => ?_⟩)
      by_cases e : d = b
      · rw [e]; exact Or.inl q2
      · exact v_ah_t (Or.inl q2) (h4 d (by omega) hu e)
    · rw [if_neg q2]
      refine tr (b : Int) (Or.inr ⟨b, rfl, by omega, h3, fun d hd hu hne => ?_⟩)
      by_cases e : d = k
      · rw [e]
        unfold v_ah
        omega
      · exact h4 d (by omega) hu hne
end V47
section V48
variable {s s1 s2 : d_S} {t : Nat → Option p_C} {L : v_LR} {u v W H b N n : Nat} {st me so : Nat → Nat} {sg : Nat → Nat → Nat} {day heat x : Int} {e : Option Nat}
theorem v_pr1_0 : 0 ≤ v_pr1 L sg u v W H N day heat st me b := v_sel_b.1
theorem v_ah_p61 {c b : Nat} (hb : v_csb u v so me b) : v_ah (v_p61 L sg u v W H N day heat st me so) c b ↔ v_csb u v so me c ∧ v_ah (v_pr1 L sg u v W H N day heat st me) c b := by
  have h0 := v_pr1_0 (L := L) (sg := sg) (u := u) (v := v) (W := W) (H := H) (N := N) (day := day) (heat := heat) (st := st) (me := me) (b := b)
  unfold v_ah v_p61
  rw [if_pos hb]
  by_cases q : v_csb u v so me c
  · rw [if_pos q]; exact ⟨fun h => ⟨q, h⟩, fun h => h.2⟩
  · rw [if_neg q]
    exact ⟨fun h => by omega, fun h => absurd h.1 q⟩
theorem v_rnds {y : Int} (hy : 0 ≤ y) : ∀ (j r m : Nat), r + j = 66 → j < m → (r : Int) ≤ y + 1 → ∀ (s : d_S) (z : Int), v_rdr s L u v W H st me so N sg day heat → v_ct (fun c => v_csb u v so me c ∧ ¬ s.1 74 c = 0) (v_bl u v) = r → (∀ c, c < v_bl u v → s.1 74 c = 0 → v_csb u v so me c) → (∀ c d, c < v_bl u v → d < v_bl u v → v_csb u v so me c → ¬ s.1 74 c = 0 → s.1 74 d = 0 → v_ah (v_pr1 L sg u v W H N day heat st me) c d) → ((r : Int) = y + 1 → v_dr (v_csb u v so me) (v_p61 L sg u v W H N day heat st me so) (v_bl u v) y z) → ∃ (z' : Int) (s' : d_S), F_X12_dearest_l43 m y z (r : Int) s = some (z', s') ∧ v_74 s s' ∧ v_Nm (s'.1 71) ∧ v_dr (v_csb u v so me) (v_p61 L sg u v W H N day heat st me so) (v_bl u v) y z' := by
  intro j
  induction j with
  | zero =>
    intro r m hr hm hy1 s z h hc h1 h2 h3
    have := v_ct_b (Q := fun c => v_csb u v so me c ∧ ¬ s.1 74 c = 0) (v_bl u v)
    have := h.1.ac.2.2.1
    omega
  | succ j ih =>
    intro r m hr hm hy1 s z h hc h1 h2 h3
    obtain ⟨m, rfl⟩ : ∃ q, m = q + 1 := ⟨m - 1, by omega⟩
    have h64 := h.1.ac.2.2.1
    show ∃ (z' : Int) (s' : d_S), F_X12_dearest_l43_b (F_X12_dearest_l43 m) _ _ _ s = _ ∧ _
    unfold F_X12_dearest_l43_b
    by_cases q : y < (r : Int)
    · rw [if_pos q]
      exact ⟨z, s, rfl, ⟨fun _ _ _ => rfl, rfl⟩, h.2.2.2.2.1, h3 (by omega)⟩
    rw [if_neg q]
    obtain ⟨z1, s1, r1, r2, r3, r4⟩ := v_de53R (L := L) (N := N) (sg := sg) (st := st) (me := me) (so := so) (day := day) (heat := heat) (K := fun x1_u13 x2_u13 x3_u13 s_u13 => if x2_u13 = (-1) then some ((-1), s_u13) else d_g (0 ≤ x2_u13 ∧ x2_u13 < 64) (d_l (d_si s_u13 74 ((x2_u13).toNat) 1) (fun s15 => F_X12_dearest_l43 m x1_u13 x2_u13 (d_w (x3_u13 + 1)) s15))) (y := y) (i := (r : Int)) (T := s.1 74) (v_bl u v) 0 d_N (by omega) (by rw [d_N_is]; omega) s (-1) h rfl (Or.inl ⟨rfl, fun d hd => absurd hd (Nat.not_lt_zero d)⟩)
    have e74 : s1.1 74 = s.1 74 := r3.1 74 (by decide)
    rcases r4 with ⟨g1, g2⟩ | ⟨b, g1, g2, g3, g4⟩
    · 
      subst g1
      refine ⟨-1, s1, ?_, ⟨fun a h1 _ => r3.1 a h1, r3.2.1⟩, r2.2.2.2.2.1, Or.inr ⟨rfl, fun b hb hs => ?_⟩⟩
      · refine (show F_X12_dearest_l53 _ d_N y (-1) (r : Int) 0 s = _ from r1).trans ?_
        show (if (-1 : Int) = -1 then _ else _) = _
        rw [if_pos rfl]
      · have := v_ct_lt (Q := fun c => v_ah (v_p61 L sg u v W H N day heat st me so) c b) (R := fun c => v_csb u v so me c ∧ ¬ s.1 74 c = 0) (v_bl u v) (fun c hc hh => ⟨((v_ah_p61 hs).1 hh).1, g2 c hc⟩) ⟨b, hb, ⟨hs, g2 b hb⟩, v_ah_i⟩
        omega
    subst g1
    have hsb : v_csb u v so me b := h1 b g2 g3
    
    have hrk : v_ct (fun c => v_ah (v_p61 L sg u v W H N day heat st me so) c b) (v_bl u v) = r := by
      rw [← hc]
      refine v_ct_cg (fun c hc => ⟨fun hh => ?_, fun hh => (v_ah_p61 hsb).2 ⟨hh.1, h2 c b hc g2 hh.1 hh.2 g3⟩⟩)
      obtain ⟨f1, f2⟩ := (v_ah_p61 hsb).1 hh
      refine ⟨f1, fun hu => ?_⟩
      by_cases e : c = b
      · rw [e] at f2; exact v_ah_i f2
      · exact v_ah_i (v_ah_t f2 (g4 c hc hu e))
    obtain ⟨s2, hs2⟩ : ∃ q, q = d_si s1 74 b 1 := ⟨_, rfl⟩
    have f74 : ∀ c, s2.1 74 c = d_u (s.1 74) b 1 c := fun c => by rw [hs2, d_si_i, e74]
    have f0 : ∀ c, s2.1 74 c = 0 → s.1 74 c = 0 ∧ ¬ c = b := fun c hh => by
      rw [f74] at hh
      by_cases e : c = b
      · rw [e, d_u_t] at hh; omega
      · rw [d_u_n e] at hh; exact ⟨hh, e⟩
    obtain ⟨z', s', c1, c2, c3, c4⟩ := ih (r + 1) m (by omega) (by omega) (by omega) s2 (b : Int) (r2.fr (by rw [hs2, d_si_n (by decide)]) (by rw [hs2, d_si_n (by decide)]) (by rw [hs2, d_si_n (by decide)]; exact r2.2.2.2.2.1)) (by
      rw [← hc]
      refine v_ct_add (b := b) (fun hh => hh.2 g3) (v_bl u v) g2 (fun c => ?_)
      rw [f74]
      by_cases e : c = b
      · rw [e, d_u_t]; exact ⟨fun _ => Or.inr rfl, fun _ => ⟨hsb, by decide⟩⟩
      · rw [d_u_n e]; exact ⟨Or.inl, fun hh => hh.elim id (fun hh => absurd hh e)⟩) (fun c hc hh => h1 c hc (f0 c hh).1) (fun c d hc hd hs hh hu => by
      obtain ⟨u1, u2⟩ := f0 d hu
      by_cases e : c = b
      · rw [e]; exact g4 d hd u1 u2
      · rw [f74, d_u_n e] at hh
        exact h2 c d hc hd hs hh u1) (fun hh => Or.inl ⟨b, rfl, g2, hsb, by rw [hrk]; omega⟩)
    refine ⟨z', s', ?_, ⟨fun a h1 h2 => by rw [c2.1 a h1 h2, hs2, d_si_n h2]; exact r3.1 a h1, by rw [c2.2, hs2]; exact r3.2.1⟩, c3, c4⟩
    refine (show F_X12_dearest_l53 _ d_N y (-1) (r : Int) 0 s = _ from r1).trans ?_
    show (if (b : Int) = -1 then _ else _) = _
    rw [if_neg (by omega), d_g_t (by omega), Int.toNat_natCast, d_l_t, ← hs2, d_w_id (by omega) (by omega)]
    exact c1
theorem v_R.rdy (h : v_R t s) : ∃ (L : v_LR) (u v W H : Nat) (st me so : Nat → Nat) (N : Nat) (sg : Nat → Nat → Nat) (day heat x : Int), v_rdy t s L u v W H st me so N sg day heat x ∧ v_rdr s L u v W H st me so N sg day heat := by
  obtain ⟨e, L, u, v, W, H, st, me, so, N, sg, day, heat, x, hG, hQ, hB, hM, hZ, hS, hE, hCT, hY, hN1, hgo, hC, hBd⟩ := h.come
  obtain ⟨g1, g2, g3, g4, ⟨g5, g6, g7⟩, g8, g9, g10⟩ := hgo
  exact ⟨L, u, v, W, H, st, me, so, N, sg, day, heat, x, ⟨hM, hQ, hS, hY, hN1, e, hE, hCT⟩, ⟨hG, hZ, hB, g2, g3, ⟨g5, g6⟩, g8, g9⟩⟩
theorem R_dearest (h : v_R t s) {y : Int} : v_AA t (F_X11_dearest t s y) (fun s1 => F_X12_dearest s1 y) := by
  obtain ⟨L, u, v, W, H, st, me, so, N, sg, day, heat, x, hC, hR⟩ := h.rdy
  have h64 := hC.2.1.2.2.1
  obtain ⟨s1, a1, a2, a3, a4, a5⟩ := v_deal (L := L) (N := N) (sg := sg) (K := fun x1_u6 s_u6 => F_X11_dearest_l53 t d_N x1_u6 0 s_u6) (y := y) (v_bl u v) 0 d_N (by omega) (by rw [d_N_is]; omega) s hC (fun b hb => absurd hb (Nat.not_lt_zero b))
  obtain ⟨r, b1, b2⟩ := v_de53 (s := s1) (t := t) (S := v_csb u v so me) a2.2.1 (fun b hb => by
    rw [a3 b hb]
    have h0 := v_pr1_0 (L := L) (sg := sg) (u := u) (v := v) (W := W) (H := H) (N := N) (day := day) (heat := heat) (st := st) (me := me) (b := b)
    unfold v_p61
    by_cases q : v_csb u v so me b
    · rw [if_pos q]; exact ⟨fun _ => by omega, fun _ => q⟩
    · rw [if_neg q]; exact ⟨fun e => absurd e q, fun e => absurd rfl e⟩) (y := y) (v_bl u v) 0 d_N (by omega) (by rw [d_N_is]; omega) (fun b hb => absurd hb (Nat.not_lt_zero b))
  have hdr : v_dr (v_csb u v so me) (v_p61 L sg u v W H N day heat st me so) (v_bl u v) y r := by
    have cg : ∀ b, b < v_bl u v → v_ct (fun c => v_ah (s1.1 61) c b) (v_bl u v) = v_ct (fun c => v_ah (v_p61 L sg u v W H N day heat st me so) c b) (v_bl u v) := fun b hb => v_ct_cg (fun c hc => by unfold v_ah; rw [a3 b hb, a3 c hc])
    rcases b2 with ⟨b, g1, g2, g3, g4⟩ | ⟨g1, g2⟩
    · exact Or.inl ⟨b, g1, g2, g3, by rw [← cg b g2]; exact g4⟩
    · exact Or.inr ⟨g1, fun b hb hs => by rw [← cg b hb]; exact g2 b hb hs⟩
  have hcl : F_X11_dearest t s y = some (r, s1) := (show F_X11_dearest_l2 t _ d_N y 0 s = _ from a1).trans b1
  have hR1 : v_rdr s1 L u v W H st me so N sg day heat := hR.fr (a4 65 (by decide) (by decide) (by decide) (by decide)) (a4 67 (by decide) (by decide) (by decide) (by decide)) (by rw [a4 71 (by decide) (by decide) (by decide) (by decide)]; exact hR.2.2.2.2.1)
  have done : ∀ s2, v_74 s1 s2 → v_Nm (s2.1 71) → v_R t s2 := fun s2 h1 h2 => h.scr (fun a ha => by
    unfold v_cl at ha
    rw [h1.1 a (by omega) (by omega), a4 a (by omega) (by omega) (by omega) (by omega)]) (fun a ha => by rw [h1.2]; exact a5 a ha) ⟨by rw [h1.1 49 (by decide) (by decide)]; exact a2.2.2.2.2.1, h2⟩
  by_cases q : y < 0
  · have hr : r = -1 := by
      rcases hdr with ⟨b, g1, g2, g3, g4⟩ | ⟨g1, -⟩
      · omega
      · exact g1
    subst hr
    refine ⟨-1, s1, s1, hcl, ?_, done s1 ⟨fun _ _ _ => rfl, rfl⟩ hR1.2.2.2.2.1⟩
    show F_X12_dearest s1 y = _
    unfold F_X12_dearest
    rw [if_pos q]
  obtain ⟨s2, c1, c2, c3, c4⟩ := v_de8 (L := L) (N := N) (sg := sg) (day := day) (heat := heat) (u := u) (v := v) (W := W) (H := H) (st := st) (me := me) (so := so) (K := fun x1_u6 s_u6 => F_X12_dearest_l43 d_N x1_u6 (-1) 0 s_u6) (y := y) 64 0 d_N rfl (by rw [d_N_is]; decide) s1 hR1 (fun b hb => absurd hb (Nat.not_lt_zero b))
  have c0 : ∀ c, c < v_bl u v → (s2.1 74 c = 0 ↔ v_csb u v so me c) := fun c hc => by
    rw [c3 c (by omega)]
    by_cases q : v_csb u v so me c
    · rw [if_pos q]; exact ⟨fun _ => q, fun _ => rfl⟩
    · rw [if_neg q]; exact ⟨fun e => by omega, fun e => absurd e q⟩
  obtain ⟨z', s3, d1, d2, d3, d4⟩ := v_rnds (y := y) (by omega) 66 0 d_N rfl (by rw [d_N_is]; decide) (by omega) s2 (-1) c2 (v_ct_0 (fun c hc hh => hh.2 ((c0 c hc).2 hh.1))) (fun c hc hh => (c0 c hc).1 hh) (fun c d hc hd hs hh hu => absurd ((c0 c hc).2 hs) hh) (fun hh => by omega)
  have e := v_dr_u hdr d4
  subst e
  refine ⟨r, s1, s3, hcl, ?_, done s3 ⟨fun a h1 h2 => (d2.1 a h1 h2).trans (c4.1 a h1 h2), d2.2.trans c4.2⟩ d3⟩
  show F_X12_dearest s1 y = _
  unfold F_X12_dearest
  rw [if_neg q]
  refine (show F_X12_dearest_l8 _ d_N y 0 s1 = _ from c1).trans ?_
  exact d1
end V48
def v_dn1 (p : Int × Int × Int) : Int × Int × Int := if p.1 < 999 then (p.1 + 1, p.2.2 % 10, (p.2.2 * 281 + 179) % 30293) else p
def v_dn : Nat → Int × Int × Int → Int × Int × Int
  | 0, p => p
  | n + 1, p => v_dn n (v_dn1 p)
def v_sa (st : Nat → Nat) (b a : Nat) : Nat → Nat := fun j => if j = b then min 9 (st j + a) else st j
def v_pn (L : v_LR) (sg : Nat → Nat → Nat) (u v W H N : Nat) (day heat x : Int) (st me so : Nat → Nat) (n a b : Nat) : Int :=
  let q := v_rn L ((v_sz u v W H b : Nat) : Int) ((v_ed u v W H b : Nat) : Int) ((so b : Nat) : Int) n (day, heat, ((min 9 (st b + a) : Nat) : Int), ((me b : Nat) : Int), x)
  if q.2.2.2.1 < 100 then v_sel L q.1 q.2.1 ((v_sz u v W H b : Nat) : Int) q.2.2.1 q.2.2.2.1 ((v_ed u v W H b : Nat) : Int) ((v_pc (v_si sg u v W H N b) 12 : Nat) : Int) ((v_ki sg u v W H N b : Nat) : Int) else 0
section V49
variable {s s1 s2 : d_S} {t : Nat → Option p_C} {L : v_LR} {u v W H b N n : Nat} {st me so : Nat → Nat} {sg : Nat → Nat → Nat} {day heat x : Int} {e : Option Nat} {q : v_T5} {size edge sold : Int}
theorem v_rn_dn : ∀ (n : Nat) (q : v_T5), ((v_rn L size edge sold n q).1, (v_rn L size edge sold n q).2.1, (v_rn L size edge sold n q).2.2.2.2) = v_dn n (q.1, q.2.1, q.2.2.2.2) := by
  intro n
  induction n with
  | zero => intro q; rfl
  | succ n ih =>
    intro q
    by_cases h : q.1 < 999
    · have e1 : v_rn L size edge sold (n + 1) q = v_rn L size edge sold n (v_s1 L size edge sold q) := if_pos h
      have e2 : v_dn (n + 1) (q.1, q.2.1, q.2.2.2.2) = v_dn n (q.1 + 1, q.2.2.2.2 % 10, (q.2.2.2.2 * 281 + 179) % 30293) := by
        show v_dn n (v_dn1 _) = _
        unfold v_dn1
        rw [if_pos h]
      rw [e1, e2]; exact ih _
    · have e2 : v_dn (n + 1) (q.1, q.2.1, q.2.2.2.2) = v_dn n (q.1, q.2.1, q.2.2.2.2) := by
        show v_dn n (v_dn1 _) = _
        unfold v_dn1
        rw [if_neg h]
      rw [e2, ← ih, v_rn_e h, v_rn_e h]
theorem P_goOn2 (h : v_go s L u v W H day heat x st me so) : ∃ s' st' me', F_X12_goOn s = some s' ∧ v_go s' L u v W H (v_dn1 (day, heat, x)).1 (v_dn1 (day, heat, x)).2.1 (v_dn1 (day, heat, x)).2.2 st' me' so ∧ v_rf s s' ∧ (∀ n, v_stn L u v W H day heat x st me so (n + 1) = v_stn L u v W H (v_dn1 (day, heat, x)).1 (v_dn1 (day, heat, x)).2.1 (v_dn1 (day, heat, x)).2.2 st' me' so n) ∧ ∀ n, v_men L u v W H day heat x st me so (n + 1) = v_men L u v W H (v_dn1 (day, heat, x)).1 (v_dn1 (day, heat, x)).2.1 (v_dn1 (day, heat, x)).2.2 st' me' so n := by
  obtain ⟨hG, hT, hN, hB, ⟨e9, e10, e13⟩, h9, h10, hx⟩ := h
  have hac := hG.ac
  unfold F_X12_goOn v_dn1
  rw [e9]
  by_cases c : day < 999
  · rw [if_pos c]
    have c' : (day, heat, x).1 < 999 := c
    rw [if_pos c']
    obtain ⟨s1, g1, g2, ⟨g3, g4, g5⟩, g6, g7, g8, g9⟩ := P_pass hG hT hN hB e9 e10 e13 ⟨h9.1, c⟩ h10 hx
    refine ⟨s1, _, _, by rw [g1, d_b_t], ⟨?_, ?_, g9, g2, ⟨g3, g4, g5⟩, by show 0 ≤ day + 1 ∧ day + 1 ≤ 999; omega, by show 0 ≤ x % 10 ∧ x % 10 ≤ 9; omega, by show 0 ≤ (x * 281 + 179) % 30293 ∧ (x * 281 + 179) % 30293 < 30293; omega⟩, ⟨g6, g7, g8⟩, fun n => v_stn_s ⟨h9.1, c⟩ h10 hx (fun b hb => (hB b hb).2) hac.2.2.1, fun n => v_men_s ⟨h9.1, c⟩ h10 hx (fun b hb => (hB b hb).2) hac.2.2.1⟩
    · obtain ⟨⟨a1, a2, a3, a4⟩, ar⟩ := hG
      exact ⟨⟨by rw [g6 14 (by decide) (by decide) (by decide) (by decide)]; exact a1, by rw [g6 15 (by decide) (by decide) (by decide) (by decide)]; exact a2, by rw [g6 16 (by decide) (by decide) (by decide) (by decide)]; exact a3, by rw [g6 17 (by decide) (by decide) (by decide) (by decide)]; exact a4⟩, ar⟩
    · rw [g7 67 (by decide) (by decide), g6 2 (by decide) (by decide) (by decide) (by decide)]; exact hT
  · rw [if_neg c]
    have c' : ¬ (day, heat, x).1 < 999 := c
    rw [if_neg c']
    exact ⟨s, st, me, rfl, ⟨hG, hT, hN, hB, ⟨e9, e10, e13⟩, h9, h10, hx⟩, v_rf.rf, fun n => by rw [v_stn_e c, v_stn_e c], fun n => by rw [v_men_e c, v_men_e c]⟩
theorem v_wl2 {K : d_S → Option (Int × d_S)} {N' : Nat} (hN' : N' ≤ 100) : ∀ (j k m : Nat), k + j = N' → j < m → ∀ (s : d_S) (day heat x : Int) (st me : Nat → Nat), v_go s L u v W H day heat x st me so → ∃ s', F_X12_worthLater_l2 K m (N' : Int) (k : Int) s = K s' ∧ v_go s' L u v W H (v_dn j (day, heat, x)).1 (v_dn j (day, heat, x)).2.1 (v_dn j (day, heat, x)).2.2 (v_stn L u v W H day heat x st me so j) (v_men L u v W H day heat x st me so j) so ∧ v_rf s s' := by
  intro j
  induction j with
  | zero =>
    intro k m hk hm s day heat x st me h
    obtain ⟨m, rfl⟩ : ∃ q, m = q + 1 := ⟨m - 1, by omega⟩
    refine ⟨s, ?_, by rw [v_stn_0, v_men_0]; exact h, v_rf.rf⟩
    show F_X12_worthLater_l2_b K (F_X12_worthLater_l2 K m) _ _ s = _
    unfold F_X12_worthLater_l2_b
    rw [if_neg (by omega)]
  | succ j ih =>
    intro k m hk hm s day heat x st me h
    obtain ⟨m, rfl⟩ : ∃ q, m = q + 1 := ⟨m - 1, by omega⟩
    obtain ⟨s1, st1, me1, g1, g2, g3, g4, g5⟩ := P_goOn2 h
    obtain ⟨s', r1, r2, r3⟩ := ih (k + 1) m (by omega) (by omega) s1 _ _ _ st1 me1 g2
    refine ⟨s', ?_, by rw [g4, g5]; exact r2, g3.tr r3⟩
    show F_X12_worthLater_l2_b K (F_X12_worthLater_l2 K m) _ _ s = _
    unfold F_X12_worthLater_l2_b
    rw [if_pos (by omega), g1, d_b_t, d_w_id (by omega) (by omega)]
    exact r1
theorem P_pence (h : v_rdy t s L u v W H st me so N sg day heat x) (hb : b < v_bl u v) {a : Nat} (ha : a ≤ 9) (hn : n ≤ 100) : ∃ s2, F_X0_penceBehind t s (b : Int) (a : Int) (n : Int) = some (v_pn L sg u v W H N day heat x st me so n a b, s2) ∧ v_rdy t s2 L u v W H st me so N sg day heat x ∧ v_cf s s2 := by
  obtain ⟨hM, hQ, hS, hY, hN, e, hE, hCT⟩ := id h
  have h64 := hQ.2.2.1
  obtain ⟨-, m1, m2, m3⟩ := hM b (by omega)
  obtain ⟨s1, a1, a2, a3, a4, a5, a6, a7⟩ := P_start hM hQ hb hE hY hN
  obtain ⟨⟨k6, k7, k8, k9, k5, k10⟩, ⟨o1, o2, o3, o4, o5⟩, hso⟩ := id a2
  have k8 : s1.1 47 8 = ((st b : Nat) : Int) := k8
  obtain ⟨y, hy, hy9⟩ : ∃ y : Nat, y = min 9 (st b + a) ∧ y ≤ 9 := ⟨_, rfl, by omega⟩
  obtain ⟨s3, hs3⟩ : ∃ q, q = d_si s1 47 8 (y : Int) := ⟨_, rfl⟩
  have f47 : ∀ k, s3.1 47 k = d_u (s1.1 47) 8 (y : Int) k := fun k => by rw [hs3, d_si_i]
  have fo : ∀ a, a ≠ 47 → s3.1 a = s1.1 a := fun a ha => by rw [hs3, d_si_n ha]
  have f2 : s3.2 = s1.2 := by rw [hs3]; rfl
  have hK3 : v_K s3 (day, heat, (y : Int), ((me b : Nat) : Int), x) ((so b : Nat) : Int) := by
    refine ⟨⟨?_, ?_, ?_, ?_, ?_, ?_⟩, ⟨o1, o2, by show 0 ≤ (y : Int) ∧ (y : Int) ≤ 9; omega, o4, o5⟩, hso⟩
    · rw [f47, d_u_n (by decide)]; exact k6
    · rw [f47, d_u_n (by decide)]; exact k7
    · rw [f47, d_u_t]
    · rw [f47, d_u_n (by decide)]; exact k9
    · rw [f47, d_u_n (by decide)]; exact k5
    · rw [f47, d_u_n (by decide)]; exact k10
  have hb3 : v_tb s3 ((v_sz u v W H b : Nat) : Int) ((v_ed u v W H b : Nat) : Int) := by
    unfold v_tb at a5 ⊢
    rw [fo 49 (by decide)]; exact a5
  obtain ⟨s4, b1, b2, b3, b4, b5, b6⟩ := P_run (t := t) (L := L) (n := n) hn (by rw [f2, a4]; exact hCT) hK3 hb3
  have c4 : v_cf s s4 := ⟨fun a h1 h2 h3 => by rw [b3 a h1 h2 h3, fo a h1, a6 a h1 h2], fun a ha => by rw [b4, f2, a7 a ha], b5.2.2⟩
  have e1 : F_J9_min_7cf53 9 (d_w (s1.1 47 8 + (a : Int))) = some (y : Int) := by
    rw [k8, d_w_id (by omega) (by omega), P_min]; congr 1; omega
  have hgo : F_X0_penceBehind t s (b : Int) (a : Int) (n : Int) = if s4.1 47 9 < 100 then d_b2 (F_X0_sellsAt t s4) (fun v5 s6 => some (v5, s6)) else some (0, s4) := by
    unfold F_X0_penceBehind
    rw [a1, d_b_t, e1, d_b_t, d_l_t, ← hs3, b1, d_b_t]
  have h9 := b2.1.2.2.2.1
  have fr : ∀ {z : d_S}, v_cf s z → v_rdy t z L u v W H st me so N sg day heat x := fun hz => h.fr (fun a ha => hz.1 a (by omega) (by omega) (by omega)) (hz.2.1 5 (by decide)) hz.2.2
  rw [hgo, h9]
  unfold v_pn
  rw [← hy]
  by_cases q : (v_rn L ((v_sz u v W H b : Nat) : Int) ((v_ed u v W H b : Nat) : Int) ((so b : Nat) : Int) n (day, heat, (y : Int), ((me b : Nat) : Int), x)).2.2.2.1 < 100
  · obtain ⟨s5, d1, d2, d3, d4⟩ := P_sellsAt (L := L) (b := b) (N := N) (sg := sg) (by rw [b4, f2, a4]; exact hCT) b2 b5 (hQ.fr (fun a h1 h2 => c4.1 a (by omega) (by omega) (by omega))) (fr c4).2.2.1 (b6.trans (by rw [f47, d_u_n (by decide)]; exact a3)) hb
    have c5 : v_cf s s5 := ⟨fun a h1 h2 h3 => by rw [d2 a h2 h3, c4.1 a h1 h2 h3], fun a ha => by rw [d3, c4.2.1 a ha], d4⟩
    refine ⟨s5, ?_, fr c5, c5⟩
    rw [if_pos q, if_pos q, d1, d_b2_t]
  · refine ⟨s4, ?_, fr c4, c4⟩
    rw [if_neg q, if_neg q]
end V49
def v_tm (L : v_LR) (sg : Nat → Nat → Nat) (u v W H N : Nat) (day heat x : Int) (st me so : Nat → Nat) (n a c : Nat) : Int := if so c = 0 then v_pn L sg u v W H N day heat x st me so n a c else 0
def v_ws (L : v_LR) (sg : Nat → Nat → Nat) (u v W H N : Nat) (day heat x : Int) (st me so : Nat → Nat) (n a b : Nat) : Nat → Int
  | 0 => 0
  | k + 1 => v_ws L sg u v W H N day heat x st me so n a b k + v_tm L sg u v W H N day heat x st me so n (if k = b then a else 0) k
section V50
variable {s s0 s1 s2 : d_S} {t : Nat → Option p_C} {L : v_LR} {u v W H b N n a c : Nat} {st me so : Nat → Nat} {sg : Nat → Nat → Nat} {day heat x : Int} {e : Option Nat}
theorem v_pn_b : 0 ≤ v_pn L sg u v W H N day heat x st me so n a c ∧ v_pn L sg u v W H N day heat x st me so n a c ≤ 9999 := by
  unfold v_pn
  by_cases q : (v_rn L ((v_sz u v W H c : Nat) : Int) ((v_ed u v W H c : Nat) : Int) ((so c : Nat) : Int) n (day, heat, ((min 9 (st c + a) : Nat) : Int), ((me c : Nat) : Int), x)).2.2.2.1 < 100
  · simp only [if_pos q]; exact v_sel_b
  · simp only [if_neg q]; omega
theorem v_tm_b : 0 ≤ v_tm L sg u v W H N day heat x st me so n a c ∧ v_tm L sg u v W H N day heat x st me so n a c ≤ 9999 := by
  unfold v_tm
  split
  · exact v_pn_b
  · omega
theorem v_ws_b : ∀ k : Nat, 0 ≤ v_ws L sg u v W H N day heat x st me so n a b k ∧ v_ws L sg u v W H N day heat x st me so n a b k ≤ 9999 * k := by
  intro k
  induction k with
  | zero => exact ⟨Int.le_refl 0, Int.le_refl 0⟩
  | succ k ih =>
    have := v_tm_b (L := L) (sg := sg) (u := u) (v := v) (W := W) (H := H) (N := N) (day := day) (heat := heat) (x := x) (st := st) (me := me) (so := so) (n := n) (a := if k = b then a else 0) (c := k)
    simp only [v_ws]
    omega
theorem v_ws_d : ∀ k : Nat, v_ws L sg u v W H N day heat x st me so n a b k = v_ws L sg u v W H N day heat x st me so n 0 b k + (if b < k then v_tm L sg u v W H N day heat x st me so n a b - v_tm L sg u v W H N day heat x st me so n 0 b else 0) := by
  intro k
  induction k with
  | zero => rfl
  | succ k ih =>
    simp only [v_ws]
    rw [ih]
    by_cases q : k = b
    · rw [if_pos q, if_pos q, if_neg (by omega), if_pos (by omega), q]; omega
    · rw [if_neg q, if_neg q]
      by_cases q2 : b < k
      · rw [if_pos q2, if_pos (by omega)]; omega
      · rw [if_neg q2, if_neg (by omega)]; omega
theorem v_ws_0 {b' : Nat} : ∀ k : Nat, v_ws L sg u v W H N day heat x st me so n 0 b k = v_ws L sg u v W H N day heat x st me so n 0 b' k := by
  intro k
  induction k with
  | zero => rfl
  | succ k ih =>
    simp only [v_ws]
    rw [ih]
    congr 2
    by_cases q : k = b <;> by_cases q' : k = b' <;> simp [q, q']
theorem v_tm_r (hso : ∀ c, c < 64 → st c ≤ 9 ∧ me c ≤ 100 ∧ so c ≤ 1) (h9 : 0 ≤ day ∧ day ≤ 999) (h10 : 0 ≤ heat ∧ heat ≤ 9) (hx : 0 ≤ x ∧ x < 30293) (hc : c < v_bl u v) (h64 : v_bl u v ≤ 64) (ha : a ≤ 9) : v_tm L sg u v W H N day heat x st me so n (if c = b then a else 0) c = if v_csb u v so (v_men L u v W H day heat x (v_sa st b a) me so n) c then v_pr1 L sg u v W H N (v_dn n (day, heat, x)).1 (v_dn n (day, heat, x)).2.1 (v_stn L u v W H day heat x (v_sa st b a) me so n) (v_men L u v W H day heat x (v_sa st b a) me so n) c else 0 := by
  obtain ⟨m1, m2, m3⟩ := hso c (by omega)
  have hst : v_sa st b a c = min 9 (st c + (if c = b then a else 0)) := by
    unfold v_sa
    by_cases q : c = b
    · rw [if_pos q, if_pos q]
    · rw [if_neg q, if_neg q]; omega
  have h9' : v_sa st b a c ≤ 9 := by rw [hst]; omega
  have hok := v_qn_ok (L := L) (u := u) (v := v) (W := W) (H := H) (so := so) (n := n) (st := v_sa st b a) (me := me) (b := c) h9 h10 hx h9' m2
  have hdn := v_rn_dn (L := L) (size := ((v_sz u v W H c : Nat) : Int)) (edge := ((v_ed u v W H c : Nat) : Int)) (sold := ((so c : Nat) : Int)) n (day, heat, ((v_sa st b a c : Nat) : Int), ((me c : Nat) : Int), x)
  have d1 : (v_qn L u v W H day heat x (v_sa st b a) me so n c).1 = (v_dn n (day, heat, x)).1 := congrArg Prod.fst hdn
  have d2 : (v_qn L u v W H day heat x (v_sa st b a) me so n c).2.1 = (v_dn n (day, heat, x)).2.1 := congrArg (fun p => p.2.1) hdn
  have em : ((v_men L u v W H day heat x (v_sa st b a) me so n c : Nat) : Int) = (v_qn L u v W H day heat x (v_sa st b a) me so n c).2.2.2.1 := by
    unfold v_men; rw [if_pos hc]; exact Int.toNat_of_nonneg hok.2.2.2.1.1
  have es : ((v_stn L u v W H day heat x (v_sa st b a) me so n c : Nat) : Int) = (v_qn L u v W H day heat x (v_sa st b a) me so n c).2.2.1 := by
    unfold v_stn; rw [if_pos hc]; exact Int.toNat_of_nonneg hok.2.2.1.1
  have hq : v_rn L ((v_sz u v W H c : Nat) : Int) ((v_ed u v W H c : Nat) : Int) ((so c : Nat) : Int) n (day, heat, ((min 9 (st c + (if c = b then a else 0)) : Nat) : Int), ((me c : Nat) : Int), x) = v_qn L u v W H day heat x (v_sa st b a) me so n c := by
    unfold v_qn; rw [hst]
  unfold v_tm v_pn
  simp only [hq]
  by_cases q : so c = 0
  rotate_left
  · rw [if_neg q, if_neg (fun e => q e.2.1)]
  rw [if_pos q]
  by_cases q2 : (v_qn L u v W H day heat x (v_sa st b a) me so n c).2.2.2.1 < 100
  · rw [if_pos q2, if_pos ⟨hc, q, by omega⟩]
    unfold v_pr1
    rw [em, es, d1, d2]
  · rw [if_neg q2, if_neg (fun e => q2 (by have := e.2.2; omega))]
theorem v_w21 {p : Int × Int × Int} {st' me' : Nat → Nat} (hp : ∀ c, c < v_bl u v → v_tm L sg u v W H N day heat x st me so n (if c = b then a else 0) c = if v_csb u v so me' c then v_pr1 L sg u v W H N p.1 p.2.1 st' me' c else 0) : ∀ (j k m : Nat), k + j = v_bl u v → j < m → ∀ s, v_rdr s L u v W H st' me' so N sg p.1 p.2.1 → ∃ s', F_X12_worthLater_l21 m (v_ws L sg u v W H N day heat x st me so n a b k) (k : Int) s = some (v_ws L sg u v W H N day heat x st me so n a b (v_bl u v), s') ∧ v_71 s s' ∧ v_Nm (s'.1 71) := by
  intro j
  induction j with
  | zero =>
    intro k m hk hm s h
    obtain ⟨m, rfl⟩ : ∃ q, m = q + 1 := ⟨m - 1, by omega⟩
    have hk : k = v_bl u v := by omega
    subst hk
    refine ⟨s, ?_, ⟨fun _ _ => rfl, rfl, fun h => h⟩, h.2.2.2.2.1⟩
    show F_X12_worthLater_l21_b (F_X12_worthLater_l21 m) _ _ s = _
    unfold F_X12_worthLater_l21_b
    rw [P_blocks h.1, d_b_t, if_neg (by omega)]
  | succ j ih =>
    intro k m hk hm s h
    obtain ⟨m, rfl⟩ : ∃ q, m = q + 1 := ⟨m - 1, by omega⟩
    have hkb : k < v_bl u v := by omega
    have h64 := h.1.ac.2.2.1
    have hb := v_ws_b (L := L) (sg := sg) (u := u) (v := v) (W := W) (H := H) (N := N) (day := day) (heat := heat) (x := x) (st := st) (me := me) (so := so) (n := n) (a := a) (b := b) k
    have ht := v_tm_b (L := L) (sg := sg) (u := u) (v := v) (W := W) (H := H) (N := N) (day := day) (heat := heat) (x := x) (st := st) (me := me) (so := so) (n := n) (a := if k = b then a else 0) (c := k)
    have hpk := hp k hkb
    show ∃ s', F_X12_worthLater_l21_b (F_X12_worthLater_l21 m) _ _ s = _ ∧ _
    unfold F_X12_worthLater_l21_b
    rw [P_blocks h.1, d_b_t, if_pos (by omega), P_csR h.1 h.2.2.1, d_b_t, d_w_id (x := (k : Int) + 1) (by omega) (by omega)]
    by_cases q : v_csb u v so me' k
    · rw [if_pos q] at hpk
      rw [v_bt q, if_neg (by decide)]
      obtain ⟨s2, r1, r2, r3⟩ := h.ask hkb
      obtain ⟨s', c1, c2, c3⟩ := ih (k + 1) m (by omega) (by omega) s2 r3
      refine ⟨s', ?_, ⟨fun a ha => (c2.1 a ha).trans (r2.1 a ha), c2.2.1.trans r2.2.1, fun hh => c2.2.2 (r2.2.2 hh)⟩, c3⟩
      simp only [v_ws] at c1
      rw [r1, d_b2_t, ← hpk, d_w_id (by omega) (by omega)]
      exact c1
    · rw [if_neg q] at hpk
      rw [v_bf q, if_pos rfl]
      obtain ⟨s', c1, c2, c3⟩ := ih (k + 1) m (by omega) (by omega) s h
      refine ⟨s', ?_, c2, c3⟩
      simp only [v_ws] at c1
      rw [hpk] at c1
      rw [d_w_id (by omega) (by omega)]
      exact c1
end V50
def v_bs (g : Nat → Int) (so : Nat → Nat) : Nat → Int × Int
  | 0 => (-1, 0)
  | k + 1 => if so k = 0 then (if (v_bs g so k).1 = -1 ∨ (v_bs g so k).2 < g k then ((k : Int), g k) else v_bs g so k) else v_bs g so k
def v_rv (p : Int × Int) (w : Int) : Int := if p.1 = -1 then 0 else p.2 + w
section V51
variable {s s0 s1 s2 : d_S} {t : Nat → Option p_C} {L : v_LR} {u v W H b N n a c : Nat} {st me so : Nat → Nat} {sg : Nat → Nat → Nat} {day heat x : Int} {e : Option Nat}
def v_gn (L : v_LR) (sg : Nat → Nat → Nat) (u v W H N : Nat) (day heat x : Int) (st me so : Nat → Nat) (n a b : Nat) : Int := v_pn L sg u v W H N day heat x st me so n a b - v_pn L sg u v W H N day heat x st me so n 0 b
theorem v_sbC (ha : a ≤ 9) (hn : n ≤ 100) : ∀ (j k m : Nat), k + j = v_bl u v → j < m → ∀ s, v_rdy t s L u v W H st me so N sg day heat x → ∃ s', F_X11_strawBest_l30 t m (a : Int) (n : Int) (v_bs (v_gn L sg u v W H N day heat x st me so n a) so k).1 (v_bs (v_gn L sg u v W H N day heat x st me so n a) so k).2 (k : Int) s = some ((v_bs (v_gn L sg u v W H N day heat x st me so n a) so (v_bl u v)).1, s') ∧ v_cf s s' := by
  intro j
  induction j with
  | zero =>
    intro k m hk hm s h
    obtain ⟨m, rfl⟩ : ∃ q, m = q + 1 := ⟨m - 1, by omega⟩
    have hk : k = v_bl u v := by omega
    subst hk
    refine ⟨s, ?_, ⟨fun _ _ _ _ => rfl, fun _ _ => rfl, h.2.2.2.2.1⟩⟩
    show F_X11_strawBest_l30_b t (F_X11_strawBest_l30 t m) _ _ _ _ _ s = _
    unfold F_X11_strawBest_l30_b
    rw [h.2.1.1, if_neg (by omega)]
  | succ j ih =>
    intro k m hk hm s h
    obtain ⟨m, rfl⟩ : ∃ q, m = q + 1 := ⟨m - 1, by omega⟩
    have hkb : k < v_bl u v := by omega
    have h64 := h.2.1.2.2.1
    show ∃ s', F_X11_strawBest_l30_b t (F_X11_strawBest_l30 t m) _ _ _ _ _ s = _ ∧ _
    unfold F_X11_strawBest_l30_b
    rw [h.2.1.1, if_pos (by omega), P_isSoldC h.1 (by omega), d_b_t, d_w_id (x := (k : Int) + 1) (by omega) (by omega)]
    by_cases q : so k = 0
    rotate_left
    · rw [if_neg (by omega)]
      obtain ⟨s', r1, r2⟩ := ih (k + 1) m (by omega) (by omega) s h
      simp only [v_bs] at r1
      rw [if_neg q] at r1
      exact ⟨s', r1, r2⟩
    rw [if_pos (by omega)]
    obtain ⟨s1, a1, a2, a3⟩ := P_pence h hkb ha hn
    obtain ⟨s2, b1, b2, b3⟩ := P_pence a2 hkb (a := 0) (by decide) hn
    have g1 := v_pn_b (L := L) (sg := sg) (u := u) (v := v) (W := W) (H := H) (N := N) (day := day) (heat := heat) (x := x) (st := st) (me := me) (so := so) (n := n) (a := a) (c := k)
    have g2 := v_pn_b (L := L) (sg := sg) (u := u) (v := v) (W := W) (H := H) (N := N) (day := day) (heat := heat) (x := x) (st := st) (me := me) (so := so) (n := n) (a := 0) (c := k)
    have b1 : F_X0_penceBehind t s1 (k : Int) 0 (n : Int) = _ := b1
    have eg : d_w (v_pn L sg u v W H N day heat x st me so n a k - v_pn L sg u v W H N day heat x st me so n 0 k) = v_gn L sg u v W H N day heat x st me so n a k := d_w_id (by omega) (by omega)
    obtain ⟨s', r1, r2⟩ := ih (k + 1) m (by omega) (by omega) s2 b2
    refine ⟨s', ?_, (a3.tr b3).tr r2⟩
    rw [a1, d_b2_t, b1, d_b2_t, eg]
    simp only [v_bs] at r1
    rw [if_pos q] at r1
    by_cases q1 : (v_bs (v_gn L sg u v W H N day heat x st me so n a) so k).1 = -1
    · rw [if_pos (Or.inl q1)] at r1
      rw [if_pos q1]; exact r1
    rw [if_neg q1]
    by_cases q2 : (v_bs (v_gn L sg u v W H N day heat x st me so n a) so k).2 < v_gn L sg u v W H N day heat x st me so n a k
    · rw [if_pos (Or.inr q2)] at r1
      rw [if_pos q2]; exact r1
    · rw [if_neg (fun e => e.elim q1 q2)] at r1
      rw [if_neg q2]; exact r1
def v_7x (s s' : d_S) : Prop := (∀ a, a ≠ 71 → a ≠ 73 → s'.1 a = s.1 a) ∧ s'.2.1 = s.2.1 ∧ v_Nm (s'.1 71)
theorem v_one_b (ha : a ≤ 9) (hn : n ≤ 100) (hb : b < v_bl u v) (h : v_go s L u v W H day heat x st me so) (hZ : v_Z (s.1 65) N sg) {K : Int → d_S → Option (Int × d_S)} : ∃ s', d_b (F_X12_begin s) (fun s5 => d_b (F_X12_get s5 (b : Int) 0) (fun v6 => d_b (F_X12_cut (d_w (v6 + (a : Int))) 9) (fun v7 => d_b (F_X12_set s5 (b : Int) 0 v7) (fun s8 => d_b2 (F_X12_worthLater s8 (n : Int)) (fun v9 s10 => d_b (F_X12_putBack s10) (fun s11 => K v9 s11)))))) = K (v_ws L sg u v W H N day heat x st me so n a b (v_bl u v)) s' ∧ v_7x s s' := by
  obtain ⟨hG, hT, hN, hB, ⟨e9, e10, e13⟩, h9, h10, hx⟩ := id h
  have h64 := hG.ac.2.2.1
  obtain ⟨⟨f1, f2, f3⟩, m1, m2, m3⟩ := hB b (by omega)
  obtain ⟨s5, b1, b2, b3, b4⟩ := P_begin (s := s)
  have hB5 : v_B (s5.1 65) st me so := by rw [b3 65 (by decide)]; exact hB
  obtain ⟨y, hy, hy9⟩ : ∃ y : Nat, y = min 9 (st b + a) ∧ y ≤ 9 := ⟨_, rfl, by omega⟩
  obtain ⟨s8, hs8⟩ : ∃ q, q = d_si s5 65 (20 + 3 * b) (y : Int) := ⟨_, rfl⟩
  have hsa : v_up1 st b y = v_sa st b a := by
    funext j
    unfold v_up1 v_sa
    by_cases q : j = b
    · rw [if_pos q, if_pos q, hy, q]
    · rw [if_neg q, if_neg q]
  have A8 : ∀ j, j ≠ 20 + 3 * b → s8.1 65 j = s.1 65 j := fun j hj => by rw [hs8, d_si_i, d_u_n hj, b3 65 (by decide)]
  have o8 : ∀ a, a ≠ 65 → s8.1 a = s5.1 a := fun a ha => by rw [hs8, d_si_n ha]
  have hgo8 : v_go s8 L u v W H day heat x (v_sa st b a) me so := by
    refine ⟨?_, ?_, ?_, ?_, ⟨?_, ?_, ?_⟩, h9, h10, hx⟩
    · obtain ⟨⟨a1, a2, a3, a4⟩, ar⟩ := hG
      exact ⟨⟨by rw [A8 14 (by omega)]; exact a1, by rw [A8 15 (by omega)]; exact a2, by rw [A8 16 (by omega)]; exact a3, by rw [A8 17 (by omega)]; exact a4⟩, ar⟩
    · rw [o8 67 (by decide), b3 67 (by decide), A8 2 (by omega)]; exact hT
    · rw [o8 71 (by decide), b3 71 (by decide)]; exact hN
    · rw [← hsa, hs8]; exact hB5.set0 hy9
    · rw [A8 9 (by omega)]; exact e9
    · rw [A8 10 (by omega)]; exact e10
    · rw [A8 13 (by omega)]; exact e13
  obtain ⟨s9, c1, c2, c3⟩ := v_wl2 (L := L) (so := so) (K := fun s_u2 => F_X12_worthLater_l21 d_N 0 0 s_u2) hn n 0 d_N (by omega) (by rw [d_N_is]; omega) s8 day heat x (v_sa st b a) me hgo8
  have hZ9 : v_Z (s9.1 65) N sg := by
    obtain ⟨z0, z12, zz⟩ := hZ
    refine ⟨by rw [c3.1 0 (by decide) (by decide) (by decide) (by decide), A8 0 (by omega)]; exact z0, z12, fun n hn k hk => ?_⟩
    rw [c3.1 _ (by omega) (by omega) (by omega) (by omega), A8 _ (by omega)]
    exact zz n hn k hk
  obtain ⟨d1, d2, d3, d4, ⟨d5, d6, d7⟩, d8, d9, d10⟩ := id c2
  obtain ⟨s10, g1, g2, g3⟩ := v_w21 (L := L) (sg := sg) (N := N) (n := n) (a := a) (b := b) (st := st) (me := me) (so := so) (day := day) (heat := heat) (x := x) (p := v_dn n (day, heat, x)) (st' := v_stn L u v W H day heat x (v_sa st b a) me so n) (me' := v_men L u v W H day heat x (v_sa st b a) me so n) (u := u) (v := v) (W := W) (H := H) (fun c hc => v_tm_r (fun c hc => (hB c hc).2) h9 h10 hx hc h64 ha) (v_bl u v) 0 d_N (by omega) (by rw [d_N_is]; omega) s9 ⟨d1, hZ9, d4, d2, d3, ⟨d5, d6⟩, d8, d9⟩
  have k10 : ∀ a, a ≠ 65 → a ≠ 71 → s10.1 a = s5.1 a := fun a h1 h2 => by rw [g2.1 a h2, c3.2.1 a h1 h2, o8 a h1]
  obtain ⟨s11, p1, p2, p3, p4⟩ := P_putBack (s := s10) (s0 := s) (fun i h1 h2 => by rw [k10 73 (by decide) (by decide)]; exact b2 i h1 h2) (fun i hi => by rw [g2.1 65 (by decide), c3.1 i (by omega) (by omega) (by omega) (by omega), A8 i (by omega)])
  have hw : F_X12_worthLater s8 (n : Int) = some (v_ws L sg u v W H N day heat x st me so n a b (v_bl u v), s10) := by
    unfold F_X12_worthLater
    refine (show F_X12_worthLater_l2 _ d_N (n : Int) 0 s8 = _ from c1).trans ?_
    exact g1
  refine ⟨s11, ?_, fun a h1 h2 => ?_, ?_, by rw [p3 71 (by decide)]; exact g3⟩
  · rw [b1, d_b_t, P_get0 hB5 (by omega), d_b_t, d_w_id (by omega) (by omega), P_cut (by decide) (by decide), d_b_t, show v_cut (((st b : Nat) : Int) + (a : Int)) 9 = (y : Int) by unfold v_cut; omega, P_set0 (by omega), d_b_t, ← hs8, hw, d_b2_t, p1, d_b_t]
  · by_cases q : a = 65
    · rw [q]; exact p2
    · rw [p3 a q, k10 a q h1, b3 a h2]
  · rw [p4, g2.2.1, c3.2.2, hs8]
    show s5.2.1 = s.2.1
    rw [b4]
theorem v_sbR (ha : a ≤ 9) (hn : n ≤ 100) : ∀ (j k m : Nat), k + j = v_bl u v → j < m → ∀ s, v_go s L u v W H day heat x st me so → v_Z (s.1 65) N sg → ∃ s', F_X12_strawBest_l30 m (a : Int) (n : Int) (v_bs (v_gn L sg u v W H N day heat x st me so n a) so k).1 (v_rv (v_bs (v_gn L sg u v W H N day heat x st me so n a) so k) (v_ws L sg u v W H N day heat x st me so n 0 0 (v_bl u v))) (k : Int) s = some ((v_bs (v_gn L sg u v W H N day heat x st me so n a) so (v_bl u v)).1, s') ∧ v_7x s s' := by
  intro j
  induction j with
  | zero =>
    intro k m hk hm s h hZ
    obtain ⟨m, rfl⟩ : ∃ q, m = q + 1 := ⟨m - 1, by omega⟩
    have hk : k = v_bl u v := by omega
    subst hk
    refine ⟨s, ?_, fun _ _ _ => rfl, rfl, h.2.2.1⟩
    show F_X12_strawBest_l30_b (F_X12_strawBest_l30 m) _ _ _ _ _ s = _
    unfold F_X12_strawBest_l30_b
    rw [P_blocks h.1, d_b_t, if_neg (by omega)]
  | succ j ih =>
    intro k m hk hm s h hZ
    obtain ⟨m, rfl⟩ : ∃ q, m = q + 1 := ⟨m - 1, by omega⟩
    have hkb : k < v_bl u v := by omega
    have h64 := h.1.ac.2.2.1
    show ∃ s', F_X12_strawBest_l30_b (F_X12_strawBest_l30 m) _ _ _ _ _ s = _ ∧ _
    unfold F_X12_strawBest_l30_b
    rw [P_blocks h.1, d_b_t, if_pos (by omega), P_isSold h.2.2.2.1 (by omega), d_b_t, d_w_id (x := (k : Int) + 1) (by omega) (by omega)]
    by_cases q : so k = 0
    rotate_left
    · rw [if_neg (by omega)]
      obtain ⟨s', r1, r2⟩ := ih (k + 1) m (by omega) (by omega) s h hZ
      simp only [v_bs] at r1
      rw [if_neg q] at r1
      exact ⟨s', r1, r2⟩
    rw [if_pos (by omega)]
    obtain ⟨s1, a1, a2⟩ := v_one_b (N := N) (sg := sg) ha hn hkb h hZ (K := fun v9 s11 => if (v_bs (v_gn L sg u v W H N day heat x st me so n a) so k).1 = (-1) then F_X12_strawBest_l30 m (a : Int) (n : Int) (k : Int) v9 ((k : Int) + 1) s11 else if (v_rv (v_bs (v_gn L sg u v W H N day heat x st me so n a) so k) (v_ws L sg u v W H N day heat x st me so n 0 0 (v_bl u v))) < v9 then F_X12_strawBest_l30 m (a : Int) (n : Int) (k : Int) v9 ((k : Int) + 1) s11 else F_X12_strawBest_l30 m (a : Int) (n : Int) (v_bs (v_gn L sg u v W H N day heat x st me so n a) so k).1 (v_rv (v_bs (v_gn L sg u v W H N day heat x st me so n a) so k) (v_ws L sg u v W H N day heat x st me so n 0 0 (v_bl u v))) ((k : Int) + 1) s11)
    have hw : v_ws L sg u v W H N day heat x st me so n a k (v_bl u v) = v_gn L sg u v W H N day heat x st me so n a k + v_ws L sg u v W H N day heat x st me so n 0 0 (v_bl u v) := by
      rw [v_ws_d, if_pos hkb, v_ws_0 (b' := 0)]
      unfold v_tm v_gn
      rw [if_pos q, if_pos q]; omega
    have h1 : v_go s1 L u v W H day heat x st me so := by
      unfold v_go at h ⊢
      rw [a2.1 65 (by decide) (by decide), a2.1 67 (by decide) (by decide)]
      exact ⟨h.1, h.2.1, a2.2.2, h.2.2.2⟩
    have hZ1 : v_Z (s1.1 65) N sg := by rw [a2.1 65 (by decide) (by decide)]; exact hZ
    obtain ⟨s', r1, r2⟩ := ih (k + 1) m (by omega) (by omega) s1 h1 hZ1
    refine ⟨s', ?_, fun a h1 h2 => (r2.1 a h1 h2).trans (a2.1 a h1 h2), r2.2.1.trans a2.2.1, r2.2.2⟩
    refine a1.trans ?_
    show (if _ then _ else _) = _
    simp only [v_bs] at r1
    rw [if_pos q] at r1
    by_cases q1 : (v_bs (v_gn L sg u v W H N day heat x st me so n a) so k).1 = -1
    · rw [if_pos (Or.inl q1)] at r1
      rw [if_pos q1, hw]
      unfold v_rv at r1
      rw [if_neg (show ¬ ((k : Int), v_gn L sg u v W H N day heat x st me so n a k).1 = -1 by show ¬ (k : Int) = -1; omega)] at r1
      exact r1
    have hv : v_rv (v_bs (v_gn L sg u v W H N day heat x st me so n a) so k) (v_ws L sg u v W H N day heat x st me so n 0 0 (v_bl u v)) = (v_bs (v_gn L sg u v W H N day heat x st me so n a) so k).2 + v_ws L sg u v W H N day heat x st me so n 0 0 (v_bl u v) := if_neg q1
    rw [if_neg q1, hv, hw]
    by_cases q2 : (v_bs (v_gn L sg u v W H N day heat x st me so n a) so k).2 < v_gn L sg u v W H N day heat x st me so n a k
    · rw [if_pos (Or.inr q2)] at r1
      rw [if_pos (by omega)]
      unfold v_rv at r1
      rw [if_neg (show ¬ ((k : Int), v_gn L sg u v W H N day heat x st me so n a k).1 = -1 by show ¬ (k : Int) = -1; omega)] at r1
      exact r1
    · rw [if_neg (fun e => e.elim q1 q2), hv] at r1
      rw [if_neg (by omega)]
      exact r1
theorem R_strawBest (h : v_R t s) {x1 x2 : Int} : v_AA t (F_X11_strawBest t s x1 x2) (fun s1 => F_X12_strawBest s1 x1 x2) := by
  obtain ⟨e, L, u, v, W, H, st, me, so, N, sg, day, heat, x, hG, hQ, hB, hM, hZ, hS, hE, hCT, hY, hN1, hgo, hC, hBd⟩ := h.come
  have h64 := hG.ac.2.2.1
  have n10 : ¬ (1 : Int) = 0 := by decide
  by_cases c1 : 0 ≤ x1 ∧ x1 ≤ 9
  rotate_left
  · refine v_AA.same h (-1) ?_ ?_
    · unfold F_X11_strawBest; rw [P_within, d_b_t, v_bf c1, if_pos rfl]
    · show F_X12_strawBest s x1 x2 = _; unfold F_X12_strawBest; rw [P_isIn, d_b_t, v_bf c1, if_pos rfl]
  by_cases c2 : 1 ≤ x2 ∧ x2 ≤ 20
  rotate_left
  · refine v_AA.same h (-1) ?_ ?_
    · unfold F_X11_strawBest; rw [P_within, d_b_t, v_bt c1, if_neg n10, P_within, d_b_t, v_bf c2, if_pos rfl]
    · show F_X12_strawBest s x1 x2 = _; unfold F_X12_strawBest; rw [P_isIn, d_b_t, v_bt c1, if_neg n10, P_isIn, d_b_t, v_bf c2, if_pos rfl]
  obtain ⟨a, rfl⟩ : ∃ a : Nat, x1 = a := ⟨x1.toNat, by omega⟩
  obtain ⟨n, rfl⟩ : ∃ n : Nat, x2 = n := ⟨x2.toNat, by omega⟩
  obtain ⟨s1, a1, a2⟩ := v_sbC (t := t) (a := a) (n := n) (by omega) (by omega) (v_bl u v) 0 d_N (by omega) (by rw [d_N_is]; omega) s ⟨hM, hQ, hS, hY, hN1, e, hE, hCT⟩
  obtain ⟨s2, b1, b2⟩ := v_sbR (a := a) (n := n) (N := N) (sg := sg) (by omega) (by omega) (v_bl u v) 0 d_N (by omega) (by rw [d_N_is]; omega) s1 (a2.go hgo) (by rw [a2.1 65 (by decide) (by decide) (by decide)]; exact hZ)
  refine ⟨(v_bs (v_gn L sg u v W H N day heat x st me so n a) so (v_bl u v)).1, s1, s2, ?_, ?_, h.scr (fun a ha => ?_) (fun a ha => by rw [b2.2.1]; exact a2.2.1 a ha) ⟨by rw [b2.1 49 (by decide) (by decide)]; exact a2.2.2, b2.2.2⟩⟩
  · unfold F_X11_strawBest
    rw [P_within, d_b_t, v_bt c1, if_neg n10, P_within, d_b_t, v_bt c2, if_neg n10]
    exact a1
  · show F_X12_strawBest s1 _ _ = _
    unfold F_X12_strawBest
    rw [P_isIn, d_b_t, v_bt c1, if_neg n10, P_isIn, d_b_t, v_bt c2, if_neg n10]
    exact b1
  · unfold v_cl at ha
    rw [b2.1 a (by omega) (by omega), a2.1 a (by omega) (by omega) (by omega)]
end V51

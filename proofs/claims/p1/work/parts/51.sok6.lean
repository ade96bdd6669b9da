/-! calls -/
def s_ar (θ : Nat → Int32) : s_L → List Value → Prop
  | A, [] => A = []
  | A, v :: vs => (∃ a A', A = a :: A' ∧ s_one (s_t a) = true ∧ s_v θ a v ∧ s_ar θ A' vs) ∨ (∃ a A', A = a :: s_u :: A' ∧ s_long (s_t a) = true ∧ s_v θ a v ∧ s_ar θ A' vs)
section SK6
variable {θ : Nat → Int32} {R : s_K} {KS : s_T} {hd d : Nat} {M : p_M} {pc : Nat} {ls : p_Ls} {st : List Value} {h : p_H} {i : Instr} {len : Nat} {nx : s_T} {J : s_J} {C : s_CC} {F : s_F} {H : s_H} {L S : s_L} {n : Nat}
theorem s_ar_lr : ∀ {vs : List Value} {A : s_L} (j : Nat), s_ar θ A vs → ∀ i a, A[i]? = some a → s_t a ≠ 0 → ∃ v, p_lk (j + i) (lv_args j vs) = some v ∧ s_v θ a v := by
  intro vs
  induction vs with
  | nil => intro A j hA i a hi; rw [show A = [] from hA] at hi; simp at hi
  | cons v vs ih =>
    intro A j hA i a hi ha
    have hne : ∀ k, k ≠ 0 → Nat.beq j (j + k) = false := by
      intro k hk
      cases hb : Nat.beq j (j + k) with
      | false => rfl
      | true => have := Nat.eq_of_beq_eq_true hb; omega
    rcases hA with ⟨b, A', rfl, h1, h2, h3⟩ | ⟨b, A', rfl, h1, h2, h3⟩
    · have hc := s_v_one h1 h2
      cases i with
      | zero =>
        cases hi
        exact ⟨v, by simp [lv_args, p_lk], h2⟩
      | succ i =>
        obtain ⟨w, w1, w2⟩ := ih (j + 1) h3 i a (by simpa using hi) ha
        refine ⟨w, ?_, w2⟩
        simp only [lv_args, p_lk]
        rw [hne (i + 1) (by omega), if_neg (by decide), if_neg (by omega), ← w1]
        congr 1; omega
    · have hc := s_v_two h1 h2
      cases i with
      | zero =>
        cases hi
        exact ⟨v, by simp [lv_args, p_lk], h2⟩
      | succ i =>
        cases i with
        | zero =>
          have hi : some s_u = some a := hi
          cases hi
          exact absurd rfl ha
        | succ i =>
          obtain ⟨w, w1, w2⟩ := ih (j + 2) h3 i a (by simpa using hi) ha
          refine ⟨w, ?_, w2⟩
          simp only [lv_args, p_lk]
          rw [hne (i + 1 + 1) (by omega), if_neg (by decide), if_pos hc, ← w1]
          congr 1; omega
theorem p_cat_cons {v : Value} {V : List Value} : p_cat (v :: V) = v.category + p_cat V := by simp [p_cat]
theorem s_tk_ok {K : s_L → Nat → s_L → Bool} : ∀ {n : Nat} {S : s_L} {st : List Value} {acc : s_L} {c : Nat} {vs : List Value}, Nat.rec (motive := fun _ => s_L → s_L → Nat → Bool) (s_tk0 K) (fun _ ih => s_tk2 ih) n S acc c = true → s_sr θ S st → s_ar θ acc vs → p_cat vs = c → ∃ A c' r, n ≤ st.length ∧ s_ar θ A ((st.take n).reverse ++ vs) ∧ p_cat ((st.take n).reverse ++ vs) = c' ∧ s_sr θ r (st.drop n) ∧ K A c' r = true := by
  intro n
  induction n with
  | zero => intro S st acc c vs hg hS ha hc; exact ⟨acc, c, S, Nat.zero_le _, ha, hc, hS, hg⟩
  | succ n ih =>
    intro S st acc c vs hg hS ha hc
    have hg : s_p1 S (s_tk1 acc c (Nat.rec (motive := fun _ => s_L → s_L → Nat → Bool) (s_tk0 K) (fun _ ih => s_tk2 ih) n)) = true := hg
    obtain ⟨a, A, v, V, rfl, rfl, ⟨ha0, hav⟩, hA, hg⟩ := s_p1_ok hS hg
    rw [s_tk1, s_if_iff] at hg
    have fin : ∀ {acc' c'}, s_ar θ acc' (v :: vs) → p_cat (v :: vs) = c' → Nat.rec (motive := fun _ => s_L → s_L → Nat → Bool) (s_tk0 K) (fun _ ih => s_tk2 ih) n A acc' c' = true → ∃ A c' r, n + 1 ≤ (v :: V).length ∧ s_ar θ A (((v :: V).take (n + 1)).reverse ++ vs) ∧ p_cat (((v :: V).take (n + 1)).reverse ++ vs) = c' ∧ s_sr θ r ((v :: V).drop (n + 1)) ∧ K A c' r = true := by
      intro acc' c' h1 h2 h3
      obtain ⟨B, c2, r, g1, g2, g3, g4, g5⟩ := ih h3 hA h1 h2
      refine ⟨B, c2, r, by simp; omega, ?_, ?_, by simpa using g4, g5⟩
      · simpa using g2
      · simpa using g3
    rcases hg with ⟨e, hg⟩ | ⟨-, hg⟩
    · exact fin (Or.inl ⟨a, acc, rfl, e, hav, ha⟩) (by rw [p_cat_cons, s_v_one e hav, hc]; omega) hg
    · rw [s_and_iff] at hg
      exact fin (Or.inr ⟨a, acc, rfl, hg.1, hav, ha⟩) (by rw [p_cat_cons, s_v_two hg.1 hav, hc]; omega) hg.2
theorem s_cat_ok : ∀ {S : s_L} {st : List Value}, s_sr θ S st → p_cat st ≤ s_cat S := by
  intro S
  induction S with
  | nil => intro st hS; rw [s_sr_nil hS]; exact Nat.le_refl 0
  | cons a A ih =>
    intro st hS
    obtain ⟨v, V, rfl, ⟨h0, h1⟩, h2⟩ := s_sr_cons hS
    have := ih h2
    rw [p_cat_cons]
    show _ ≤ Nat.add (Bool.rec (motive := fun _ => Nat) 2 1 (s_one (s_t a))) (s_cat A)
    cases e : s_one (s_t a) with
    | true =>
      rw [s_v_one e h1]
      show 1 + p_cat V ≤ 1 + s_cat A
      omega
    | false =>
      have : v.category ≤ 2 := by cases v <;> simp [Value.category]
      show v.category + p_cat V ≤ 2 + s_cat A
      omega
theorem s_inv1_ok {b : Nat} {K : Nat → s_L → Nat → s_L → Bool} {q : Nat × Int} (hS : s_sr θ S st) (hg : s_inv1 b S K q = true) : ∃ A c r, q.2.toNat ≤ st.length ∧ p_cat (st.drop q.2.toNat) ≤ b ∧ s_ar θ A (st.take q.2.toNat).reverse ∧ p_cat (st.take q.2.toNat).reverse = c ∧ s_sr θ r (st.drop q.2.toNat) ∧ K q.1 A c r = true := by
  obtain ⟨A, c, r, g1, g2, g3, g4, g5⟩ := s_tk_ok (θ := θ) (vs := []) hg hS rfl rfl
  rw [List.append_nil] at g2 g3
  rw [s_inv2, s_and_iff] at g5
  exact ⟨A, c, r, g1, Nat.le_trans (s_cat_ok g4) (Nat.le_of_ble_eq_true g5.1), g2, g3, g4, g5.2⟩
theorem s_lr0 {A : s_L} {vs : List Value} (hA : s_ar θ A vs) : s_lr θ A (lv_args 0 vs) := by
  intro i a hi ha
  have := s_ar_lr 0 hA i a hi ha
  rw [Nat.zero_add] at this
  exact this
/-- behind a call -/
theorem s_ret1_ok {r : s_L} {V : List Value} (hn : s_OK θ R KS hd d M nx (pc + 3)) (hL : s_lr θ L ls) (hV : s_sr θ r V) : ∀ F' H' a v h2, s_ret1 nx L r F' H' a = true → s_FO θ F' → s_hr θ H' h2 → s_an θ a v → s_Out θ R KS hd d M (pc + 3) ls (v.toList ++ V) h2 := by
  intro F' H' a v h2 hg hF hH ha
  rw [s_ret1, s_if_iff] at hg
  cases v with
  | none =>
    rcases hg with ⟨-, hg⟩ | ⟨e, hg⟩
    · exact hn _ _ _ _ _ _ _ hg ⟨hF, hH, hL, hV⟩
    · rw [show s_t a = 8 from ha] at e; cases e
  | some w =>
    rcases hg with ⟨e, hg⟩ | ⟨e, hg⟩
    · have h8 := Nat.eq_of_beq_eq_true e
      have ha : s_sv θ a w := ha
      cases a with
      | inl z => cases h8
      | inr q =>
        obtain ⟨t, x⟩ := q
        have h8 : t = 8 := h8
        subst h8
        exact ha.2.elim
    · exact hn _ _ _ _ _ _ _ hg ⟨hF, hH, hL, ha, hV⟩
theorem s_k_call {b : Nat} {q : Nat × Int} {K : Nat → s_L → Nat → s_L → Bool} (hn : s_OK θ R KS hd d M nx (pc + 3)) (hC : s_CO θ d C) (hat : p_at pc M.2.2.2.2.1 = some (i, len)) (hr : s_Rl θ F H L S ls st h) (hs : ∀ A c r, q.2.toNat ≤ st.length → p_cat (st.drop q.2.toNat) ≤ b → s_ar θ A (st.take q.2.toNat).reverse → K q.1 A c r = true → p_step p_GT p_MT M i pc ls st h = some (.inr (.inr (q.1, (st.take q.2.toNat).reverse, st.drop q.2.toNat))) ∧ C q.1 A c F H (s_ret1 nx L r) = true) (hg : s_inv1 b S K q = true) : s_Out θ R KS hd d M pc ls st h := by
  obtain ⟨A, c, r, g1, g2, g3, g4, g5, g6⟩ := s_inv1_ok hr.2.2.2 hg
  obtain ⟨e1, e2⟩ := hs A c r g1 g2 g3 g6
  exact s_Out.call hat e1 hC e2 hr.1 hr.2.1 (s_lr0 g3) g4 (s_ret1_ok hn hr.2.2.1 g5)
/-! copying -/
theorem p_cpy_get {vs ws : List Value} {sp dp n i : Nat} (h1 : sp + n ≤ vs.length) (h2 : dp + n ≤ ws.length) : (p_cpy vs ws sp dp n)[i]? = if i < dp then ws[i]? else if i < dp + n then vs[sp + (i - dp)]? else ws[i]? := by
  unfold p_cpy
  have e1 : (ws.take dp).length = dp := by simp; omega
  have e2 : ((vs.drop sp).take n).length = n := by simp; omega
  rw [List.getElem?_append]
  rw [e1]
  split
  · next hi => rw [List.getElem?_take, if_pos hi]
  · next hi =>
    rw [List.getElem?_append, e2]
    split
    · next hj =>
      rw [if_pos (by omega), List.getElem?_take, if_pos hj, List.getElem?_drop]
    · next hj =>
      rw [if_neg (by omega), List.getElem?_drop]
      congr 1; omega
theorem p_cpy_len {vs ws : List Value} {sp dp n : Nat} (h1 : sp + n ≤ vs.length) (h2 : dp + n ≤ ws.length) : (p_cpy vs ws sp dp n).length = ws.length := by
  unfold p_cpy
  simp; omega
def s_tr (θ : Nat → Int32) (t : Lean.RArray s_V) (vs : List Value) : Prop := ∀ i, s_t (t.get i) ≠ 0 → ∃ v, vs[i]? = some v ∧ s_v θ (t.get i) v
theorem s_cpl_ok {vt : Lean.RArray s_V} {vs : List Value} {K : Lean.RArray s_V → Bool} (hv : s_tr θ vt vs) : ∀ {n sp dp : Nat} {wt : Lean.RArray s_V} {ws : List Value}, s_tr θ wt ws → sp + n ≤ vs.length → dp + n ≤ ws.length → s_cpl vt n sp dp wt K = true → ∃ wt', K wt' = true ∧ s_tr θ wt' (p_cpy vs ws sp dp n) ∧ ((vs.drop sp).take n).all (fits .int) = true := by
  intro n
  induction n with
  | zero =>
    intro sp dp wt ws hw h1 h2 hg
    refine ⟨wt, hg, ?_, by simp⟩
    have : p_cpy vs ws sp dp 0 = ws := by simp [p_cpy]
    rw [this]; exact hw
  | succ n ih =>
    intro sp dp wt ws hw h1 h2 hg
    have hg : s_fv (Lean.RArray.get vt sp) (fun v => s_and (s_isi (s_t v)) (s_and (Nat.ble 1 (s_t (Lean.RArray.get wt dp))) (s_set wt dp v (fun ws => s_cpl vt n (Nat.succ sp) (Nat.succ dp) ws K)))) = true := hg
    obtain ⟨h0, hg⟩ := s_fv_ok hg
    rw [s_and_iff, s_and_iff] at hg
    obtain ⟨v, v1, v2⟩ := hv sp h0
    obtain ⟨T, g1, g2⟩ := s_set_ok (t := wt) (n := dp) (v := Lean.RArray.get vt sp) (K := fun ws => s_cpl vt n (Nat.succ sp) (Nat.succ dp) ws K)
    have hg2 := hg.2.2
    rw [g1] at hg2
    have hT : s_tr θ T (ws.set dp v) := by
      intro i hi
      rw [g2] at hi ⊢
      by_cases e : i = dp
      · subst e
        rw [if_pos rfl]
        exact ⟨v, List.getElem?_set_self (by omega), v2⟩
      · rw [if_neg e] at hi ⊢
        obtain ⟨w, w1, w2⟩ := hw i hi
        exact ⟨w, by rw [List.getElem?_set_ne (Ne.symm e)]; exact w1, w2⟩
    obtain ⟨wt', k1, k2, k3⟩ := ih hT (by omega) (by rw [List.length_set]; omega) hg2
    have e : p_cpy vs (ws.set dp v) (sp + 1) (dp + 1) n = p_cpy vs ws sp dp (n + 1) := by
      apply List.ext_getElem?
      intro i
      rw [p_cpy_get (by omega) (by rw [List.length_set]; omega), p_cpy_get (by omega) (by omega)]
      by_cases c1 : i < dp
      · rw [if_pos (by omega), if_pos c1, List.getElem?_set_ne (by omega)]
      · rw [if_neg c1]
        by_cases c2 : i = dp
        · subst c2
          rw [if_pos (by omega), if_pos (by omega), List.getElem?_set_self (by omega), Nat.sub_self, Nat.add_zero, v1]
        · rw [if_neg (by omega)]
          by_cases c3 : i < dp + (n + 1)
          · rw [if_pos (by omega), if_pos c3]
            congr 1; omega
          · rw [if_neg (by omega), if_neg c3, List.getElem?_set_ne (by omega)]
    refine ⟨wt', k1, by rw [← e]; exact k2, ?_⟩
    have e2 : (vs.drop sp).take (n + 1) = v :: (vs.drop (sp + 1)).take n := by
      rw [List.drop_eq_getElem_cons (by omega), List.take_succ_cons]
      rw [List.getElem?_eq_getElem (by omega)] at v1
      rw [Option.some.inj v1]
    rw [e2, List.all_cons, k3, Bool.and_true]
    obtain ⟨x, rfl⟩ := s_v_i hg.1 v2
    rfl
theorem s_ints_ok {t : Lean.RArray s_V} : ∀ {lo hi i : Nat}, s_ints t lo hi = true → lo ≤ i → i < hi → s_isi (s_t (t.get i)) = true := by
  induction t with
  | leaf v =>
    intro lo hi i hg h1 h2
    have hg : s_if (Nat.ble hi lo) true (s_isi (s_t v)) = true := hg
    rcases s_if_iff.mp hg with ⟨e, -⟩ | ⟨-, e⟩
    · have := Nat.le_of_ble_eq_true e; omega
    · exact e
  | branch p l r il ir =>
    intro lo hi i hg h1 h2
    have hg : s_and (s_ints l lo (min p hi)) (s_ints r (max p lo) hi) = true := hg
    rw [s_and_iff] at hg
    rw [s_gb]
    split
    · exact ir hg.2 (by omega) h2
    · exact il hg.1 h1 (by omega)
theorem s_tr_all {t : Lean.RArray s_V} {vs : List Value} (hv : s_tr θ t vs) (hi : ∀ i, i < vs.length → s_isi (s_t (t.get i)) = true) : vs.all (fits .int) = true := by
  rw [List.all_eq_true]
  intro v hm
  obtain ⟨i, hl, rfl⟩ := List.getElem_of_mem hm
  have h1 := hi i hl
  obtain ⟨w, w1, w2⟩ := hv i (s_tzi h1)
  obtain ⟨x, rfl⟩ := s_v_i h1 w2
  rw [List.getElem?_eq_getElem hl] at w1
  rw [Option.some.inj w1]; rfl
theorem s_copy_ok {nn dp dd sp o : s_V} {v1 v2 v3 v4 v5 : Value} {V : List Value} {K : s_F → s_H → Bool} (hF : s_FO θ F) (hH : s_hr θ H h) (h1 : s_v θ nn v1) (h2 : s_v θ dp v2) (h3 : s_v θ dd v3) (h4 : s_v θ sp v4) (h5 : s_v θ o v5) (hc : p_cat V ≤ 8) (hg : s_copy nn dp dd sp o F H K = true) : ∃ (F' : s_F) (H' : s_H) (h' : p_H) (n' dp' sp' : Int32) (d' s0 : Nat), K F' H' = true ∧ s_FO θ F' ∧ s_hr θ H' h' ∧ v1 = .int n' ∧ v2 = .int dp' ∧ v3 = .ref d' ∧ v4 = .int sp' ∧ v5 = .ref s0 ∧ ∀ pc ls, p_copy n' dp' d' sp' s0 pc ls V h = some (.inl (pc, ls, V, h')) := by
  obtain ⟨n1, F1, g1, hF1, rfl, b1⟩ := s_ix_ok hF h1 hg
  obtain ⟨n2, F2, g2, hF2, rfl, b2⟩ := s_ix_ok hF1 h2 g1
  obtain ⟨n3, F3, g3, hF3, rfl, b3⟩ := s_ix_ok hF2 h4 g2
  obtain ⟨s0, rfl, g4⟩ := s_ref_ok h5 g3
  obtain ⟨d', rfl, g5⟩ := s_ref_ok h3 g4
  rw [s_and_iff, s_and_iff, s_and_iff, s_and_iff, s_and_iff, s_and_iff] at g5
  obtain ⟨k1, k2, k3, k4, k5, k6, k7⟩ := g5
  obtain ⟨⟨as_, at_, av⟩, e1, e2⟩ := hH.at k1 (by decide)
  obtain ⟨⟨bs, bt, bv⟩, f1, f2⟩ := hH.at k3 (by decide)
  have q1 : as_ = 1 := e2.1.trans (Nat.eq_of_beq_eq_true k1)
  have q2 : at_ = 0 := e2.2.1.trans (Nat.eq_of_beq_eq_true k2)
  have q3 : bs = 1 := f2.1.trans (Nat.eq_of_beq_eq_true k3)
  have q4 : bt = 0 := f2.2.1.trans (Nat.eq_of_beq_eq_true k4)
  subst q1; subst q2; subst q3; subst q4
  have la : av.length = (H.1.get s0).2.2.1 := e2.2.2.1
  have lb : bv.length = (H.1.get d').2.2.1 := f2.2.2.1
  have l1 := Nat.le_of_ble_eq_true k5
  have l2 := Nat.le_of_ble_eq_true k6
  obtain ⟨i1, i2⟩ := s_i_nat b1
  obtain ⟨i3, i4⟩ := s_i_nat b2
  obtain ⟨i5, i6⟩ := s_i_nat b3
  have hav : s_tr θ (H.1.get s0).2.2.2 av := e2.2.2.2
  have hbv : s_tr θ (H.1.get d').2.2.2 bv := f2.2.2.2
  have fin : ∀ (ws : List Value), ((av.drop n3).take n1).all (fits .int) = true → ws = p_cpy av bv n3 n2 n1 → ∀ pc ls, p_copy (Int32.ofNat n1) (Int32.ofNat n2) d' (Int32.ofNat n3) s0 pc ls V h = some (.inl (pc, ls, V, h.set d' (1, 0, ws))) := by
    intro ws ha hws pc ls
    simp only [p_copy, e1, f1]
    rw [i1, i3, i5, if_pos ⟨i6, i4, i2, by omega, by omega, ha, hc⟩, hws]; rfl
  rw [s_if_iff] at k7
  rcases k7 with ⟨c, k7⟩ | ⟨-, k7⟩
  · simp only [Bool.and_eq_true] at c
    have c1 := Nat.eq_of_beq_eq_true c.1
    have c2 := Nat.eq_of_beq_eq_true c.2.1
    have c3 := Nat.eq_of_beq_eq_true c.2.2.1
    have c4 := Nat.eq_of_beq_eq_true c.2.2.2
    rw [s_and_iff] at k7
    obtain ⟨H', m1, m2⟩ := hH.whole (ws := av) f1 f2 (by show av.length = bv.length; omega) hav k7.2
    have hall : av.all (fits .int) = true := s_tr_all hav (fun i hi => s_ints_ok k7.1 (Nat.zero_le i) (by omega))
    refine ⟨F3, H', _, _, _, _, d', s0, m1, hF3, m2, rfl, rfl, rfl, rfl, rfl, fin av ?_ ?_⟩
    · rw [c1, List.drop_zero, List.take_of_length_le (by omega)]; exact hall
    · subst c1; subst c2
      simp only [p_cpy, List.take_zero, List.nil_append, List.drop_zero, Nat.zero_add]
      rw [List.take_of_length_le (by omega), List.drop_of_length_le (by omega), List.append_nil]
  · obtain ⟨wt', m1, m2, m3⟩ := s_cpl_ok hav hbv (by omega) (by omega) k7
    obtain ⟨H', m4, m5⟩ := hH.whole (ws := p_cpy av bv n3 n2 n1) f1 f2 (p_cpy_len (by omega) (by show n2 + n1 ≤ bv.length; omega)) m2 m1
    exact ⟨F3, H', _, _, _, _, d', s0, m4, hF3, m5, rfl, rfl, rfl, rfl, rfl, fin _ m3 rfl⟩
end SK6

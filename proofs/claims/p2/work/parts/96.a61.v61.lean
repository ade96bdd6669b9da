def v_TT (t : Nat → Option p_C) (C : Option (Int × d_S)) (D : d_S → Option (Int × d_S)) : Prop := ∃ v v' s1 s2, C = some (v, s1) ∧ D s1 = some (v', s2) ∧ v_R t s2
section V61
variable {s s1 s2 : d_S} {t : Nat → Option p_C} {L : v_LR} {u v W H N b : Nat} {st me so : Nat → Nat} {sg : Nat → Nat → Nat} {day heat x size edge : Int} {e : Option Nat}
theorem v_AA.TT {C : Option (Int × d_S)} {D : d_S → Option (Int × d_S)} (h : v_AA t C D) : v_TT t C D := by
  obtain ⟨v, s1, s2, a, b, c⟩ := h
  exact ⟨v, v, s1, s2, a, b, c⟩
theorem v_71rf : v_71 s s := ⟨fun _ _ => rfl, rfl, fun h => h⟩
theorem v_71tr (h : v_71 s s1) (h' : v_71 s1 s2) : v_71 s s2 := ⟨fun a ha => (h'.1 a ha).trans (h.1 a ha), h'.2.1.trans h.2.1, fun z => h'.2.2 (h.2.2 z)⟩
theorem v_rdr.g71 (h : v_rdr s L u v W H st me so N sg day heat) (h' : v_71 s s1) : v_rdr s1 L u v W H st me so N sg day heat := h.fr (h'.1 65 (by decide)) (h'.1 67 (by decide)) (h'.2.2 h.2.2.2.2.1)
theorem v_divLp {a b : Nat} (ha : a < 2147483648) (hb : b < 2147483648) : d_divL (a : Int) (b : Int) = ((a / b : Nat) : Int) := by
  unfold d_divL
  have h1 : (Int64.ofInt (a : Int)).toInt = a := d_tiL ⟨by omega, by omega⟩
  have h2 : (Int64.ofInt (b : Int)).toInt = b := d_tiL ⟨by omega, by omega⟩
  rw [Int64.toInt_div, h1, h2, ← Int.ofNat_tdiv]
  have := Nat.div_le_self a b
  generalize a / b = q at *
  exact Int.bmod_eq_of_le (by omega) (by omega)
theorem v_remLp {a b : Nat} (ha : a < 2147483648) (hb : b < 2147483648) : d_remL (a : Int) (b : Int) = ((a % b : Nat) : Int) := by
  have hd := v_divLp ha hb
  unfold d_divL at hd
  unfold d_remL
  have h0 : Int64.ofInt (a : Int) / Int64.ofInt (b : Int) = Int64.ofInt ((a / b : Nat) : Int) := by rw [← hd, Int64.ofInt_toInt]
  rw [h0, ← Int64.ofInt_mul, ← Int64.ofInt_sub]
  have h1 := Nat.div_add_mod a b
  have h2 : ((a : Int) - ((a / b : Nat) : Int) * (b : Int)) = ((a % b : Nat) : Int) := by
    have : (a : Int) = (b : Int) * ((a / b : Nat) : Int) + ((a % b : Nat) : Int) := by exact_mod_cast h1.symm
    rw [Int.mul_comm ((a / b : Nat) : Int)]; omega
  rw [h2]
  have := Nat.mod_le a b
  exact d_tiL ⟨by omega, by omega⟩
theorem P_part_t {a c : Nat} (ha : a < 2000) (hc : 1 ≤ c ∧ c < 2000) {y : Int} : ∃ z, F_X12_part (a : Int) (c : Int) y = some z := by
  have g : F_X12_gcd (a : Int) (c : Int) = some ((Nat.gcd a c : Nat) : Int) := by
    unfold F_X12_gcd F_X12_gcd_j12
    rw [if_neg (by omega)]
    exact v_gcR2 c a (by omega) (by omega) d_N (by rw [d_N_is]; omega)
  have g1 : 1 ≤ Nat.gcd a c := Nat.gcd_pos_of_pos_right a (by omega)
  unfold F_X12_part F_X12_part_j10
  rw [g, d_b_t, d_g_t (by omega), d_b_t, d_g_t (by omega)]
  split <;> exact ⟨_, rfl⟩
theorem v_cut_b {y top : Int} (h : 0 ≤ top) : 0 ≤ v_cut y top ∧ v_cut y top ≤ top := by
  unfold v_cut; omega
theorem v_pol {n : Nat} (hn : n ≤ 4) : ∀ (j k m : Nat), k + j = n → j < m → ∀ a : Nat, a * 10 ^ j ≤ 1000 → F_X12_pathsOf_l4 m (n : Int) (a : Int) (k : Int) = some ((a * 10 ^ j : Nat) : Int) := by
  intro j
  induction j with
  | zero =>
    intro k m hk hf a ha
    obtain ⟨m, rfl⟩ : ∃ q, m = q + 1 := ⟨m - 1, by omega⟩
    show F_X12_pathsOf_l4_b (F_X12_pathsOf_l4 m) _ _ _ = _
    unfold F_X12_pathsOf_l4_b
    rw [if_neg (by omega), Nat.pow_zero, Nat.mul_one]
  | succ j ih =>
    intro k m hk hf a ha
    obtain ⟨m, rfl⟩ : ∃ q, m = q + 1 := ⟨m - 1, by omega⟩
    have e1 : a * 10 ^ (j + 1) = a * 10 * 10 ^ j := by rw [Nat.pow_succ, Nat.mul_assoc, Nat.mul_comm (10 ^ j) 10]
    rw [e1] at ha ⊢
    have h1 : a * 10 ≤ 1000 := Nat.le_trans (Nat.le_mul_of_pos_right _ (Nat.pow_pos (by decide))) ha
    have hr := ih (k + 1) m (by omega) (by omega) (a * 10) ha
    show F_X12_pathsOf_l4_b (F_X12_pathsOf_l4 m) _ _ _ = _
    unfold F_X12_pathsOf_l4_b
    rw [if_pos (by omega), d_w_id (x := (a : Int) * 10) (by omega) (by omega), d_w_id (x := (k : Int) + 1) (by omega) (by omega)]
    exact hr
theorem P_pathsOf {n : Nat} (hn : n ≤ 4) : ∃ c : Nat, F_X12_pathsOf (n : Int) = some (c : Int) ∧ 1 ≤ c ∧ c ≤ 1000 := by
  unfold F_X12_pathsOf
  by_cases q : n = 0
  · subst q
    refine ⟨1, ?_, by decide, by decide⟩
    rw [d_N_is]
    show F_X12_pathsOf_l4_b (F_X12_pathsOf_l4 99999) _ _ _ = _
    unfold F_X12_pathsOf_l4_b
    rw [if_neg (by omega)]; rfl
  · have h1 : 10 ^ (n - 1) ≤ 10 ^ 3 := Nat.pow_le_pow_right (by decide) (by omega)
    have h2 : 1 ≤ 10 ^ (n - 1) := Nat.one_le_pow _ _ (by decide)
    have := v_pol hn (n - 1) 1 d_N (by omega) (by rw [d_N_is]; omega) 1 (by omega)
    exact ⟨1 * 10 ^ (n - 1), this, by omega, by omega⟩
theorem v_isll {K : Int → d_S → Option (Int × d_S)} {n : Nat} (hn : n ≤ 4) (hb : b < v_bl u v) : ∀ (j k m : Nat), k + j = n → j < m → ∀ (left ht sw ml : Int) (s : d_S), v_rdr s L u v W H st me so N sg day heat → (0 ≤ left ∧ left < 10000) → (0 ≤ ht ∧ ht ≤ 9) → (0 ≤ sw ∧ sw ≤ 9) → (0 ≤ ml ∧ ml ≤ 100) → ∃ w s', F_X12_isLasting_l31 K m (b : Int) (n : Int) left ht sw ml (k : Int) s = K w s' ∧ v_71 s s' := by
  intro j
  induction j with
  | zero =>
    intro k m hk hf left ht sw ml s h h1 h2 h3 h4
    obtain ⟨m, rfl⟩ : ∃ q, m = q + 1 := ⟨m - 1, by omega⟩
    refine ⟨ml, s, ?_, v_71rf⟩
    show F_X12_isLasting_l31_b K (F_X12_isLasting_l31 K m) _ _ _ _ _ _ _ _ = _
    unfold F_X12_isLasting_l31_b
    rw [if_neg (by omega)]
  | succ j ih =>
    intro k m hk hf left ht sw ml s h h1 h2 h3 h4
    obtain ⟨m, rfl⟩ : ∃ q, m = q + 1 := ⟨m - 1, by omega⟩
    obtain ⟨hG, hZ, hB, hT, hN, ⟨e9, e10⟩, d1, d2⟩ := id h
    obtain ⟨s1, a1, a2⟩ := P_meltsBy (day := day + (k : Int)) (heat := ht) (straw := sw) (melted := ml) hG hb hT hN (by omega) (by omega) (by omega) (by omega)
    have hm := v_mel_b (L := L) (day := day + (k : Int)) (heat := ht) (size := ((v_sz u v W H b : Nat) : Int)) (straw := sw) (melted := ml) (edge := ((v_ed u v W H b : Nat) : Int))
    obtain ⟨m1, hm1⟩ : ∃ z, z = v_mel L (day + (k : Int)) ht ((v_sz u v W H b : Nat) : Int) sw ml ((v_ed u v W H b : Nat) : Int) := ⟨_, rfl⟩
    rw [← hm1] at a1 hm
    have hc := v_cut_b (y := ml + m1) (top := 100) (by decide)
    obtain ⟨hG1, hZ1, hB1, hT1, hN1, ⟨f9, f10⟩, -⟩ := h.g71 a2
    have el : d_rem left 10 = left % 10 := v_remI h1.1 (by omega) (by decide) (by decide)
    have ed : d_div left 10 = left / 10 := v_divI h1.1 (by omega) (by decide) (by decide)
    obtain ⟨s2, b1, b2⟩ := P_rotsBy (day := day + (k : Int) + 1) (heat := left % 10) (straw := sw) (melted := v_cut (ml + m1) 100) hG1 hb hT1 hN1 (by omega) (by omega) (by omega) (by omega)
    have hr := v_rot_b (L := L) (day := day + (k : Int) + 1) (heat := left % 10) (size := ((v_sz u v W H b : Nat) : Int)) (straw := sw) (melted := v_cut (ml + m1) 100) (edge := ((v_ed u v W H b : Nat) : Int))
    obtain ⟨r1, hr1⟩ : ∃ z, z = v_rot L (day + (k : Int) + 1) (left % 10) ((v_sz u v W H b : Nat) : Int) sw (v_cut (ml + m1) 100) ((v_ed u v W H b : Nat) : Int) := ⟨_, rfl⟩
    rw [← hr1] at b1 hr
    have hc2 := v_cut_b (y := sw - r1) (top := 9) (by decide)
    obtain ⟨w, s', c1, c2⟩ := ih (k + 1) m (by omega) (by omega) (left / 10) (left % 10) (v_cut (sw - r1) 9) (v_cut (ml + m1) 100) s2 ((h.g71 a2).g71 b2) (by omega) (by omega) hc2 hc
    refine ⟨w, s', ?_, v_71tr (v_71tr a2 b2) c2⟩
    show F_X12_isLasting_l31_b K (F_X12_isLasting_l31 K m) _ _ _ _ _ _ _ _ = _
    unfold F_X12_isLasting_l31_b
    rw [if_pos (by omega), e9, d_w_id (x := day + (k : Int)) (by omega) (by omega), a1, d_b2_t, d_w_id (x := ml + m1) (by omega) (by omega), P_cut (by decide) (by decide), d_b_t, f9, d_w_id (x := day + (k : Int) + 1) (by omega) (by omega), el, ed, b1, d_b2_t, d_w_id (x := sw - r1) (by omega) (by omega), P_cut (by decide) (by decide), d_b_t, d_w_id (x := (k : Int) + 1) (by omega) (by omega)]
    exact c1
theorem v_rdr.isl (h : v_rdr s L u v W H st me so N sg day heat) (hb : b < v_bl u v) {n : Nat} (hn : n ≤ 4) {y : Int} (hy : 0 ≤ y ∧ y < 10000) : ∃ (w : Nat) (s' : d_S), F_X12_isLasting s (b : Int) (n : Int) y = some ((w : Int), s') ∧ w ≤ 1 ∧ v_71 s s' := by
  obtain ⟨hG, hZ, hB, hT, hN, ⟨e9, e10⟩, d1, d2⟩ := id h
  have h64 := hG.ac
  obtain ⟨-, m1, m2, m3⟩ := hB b (by omega)
  obtain ⟨w, s1, a1, a2⟩ := v_isll (K := fun x7_u9 s_u9 => if x7_u9 < 100 then some (1, s_u9) else some (0, s_u9)) hn hb n 0 d_N (by omega) (by rw [d_N_is]; omega) y heat ((st b : Nat) : Int) ((me b : Nat) : Int) s h hy d2 (by omega) (by omega)
  have hgo : F_X12_isLasting s (b : Int) (n : Int) y = if w < 100 then some (1, s1) else some (0, s1) := by
    unfold F_X12_isLasting
    rw [P_get0 hB (by omega), d_b_t, P_get1 hB (by omega), d_b_t, e10]
    exact a1
  rw [hgo]
  by_cases q : w < 100
  · exact ⟨1, s1, by rw [if_pos q]; rfl, by decide, a2⟩
  · exact ⟨0, s1, by rw [if_neg q]; rfl, by decide, a2⟩
theorem v_lal {n : Nat} (hn : n ≤ 4) (hb : b < v_bl u v) {c : Nat} (hc : F_X12_pathsOf (n : Int) = some (c : Int)) (hc1 : c ≤ 1000) : ∀ (j k m : Nat), k + j = c → j < m → ∀ (y : Nat) (s : d_S), y ≤ k → v_rdr s L u v W H st me so N sg day heat → ∃ (w : Nat) (s' : d_S), F_X12_lasting_l5 m (b : Int) (n : Int) (y : Int) (k : Int) s = some ((w : Int), s') ∧ w ≤ 1000 ∧ v_71 s s' := by
  intro j
  induction j with
  | zero =>
    intro k m hk hf y s hy h
    obtain ⟨m, rfl⟩ : ∃ q, m = q + 1 := ⟨m - 1, by omega⟩
    refine ⟨y, s, ?_, by omega, v_71rf⟩
    show F_X12_lasting_l5_b (F_X12_lasting_l5 m) _ _ _ _ _ = _
    unfold F_X12_lasting_l5_b
    rw [hc, d_b_t, if_neg (by omega)]
  | succ j ih =>
    intro k m hk hf y s hy h
    obtain ⟨m, rfl⟩ : ∃ q, m = q + 1 := ⟨m - 1, by omega⟩
    obtain ⟨w, s1, a1, a2, a3⟩ := h.isl hb hn (y := (k : Int)) (by omega)
    have ek : d_w ((k : Int) + 1) = ((k + 1 : Nat) : Int) := d_w_id (by omega) (by omega)
    show ∃ w s', F_X12_lasting_l5_b (F_X12_lasting_l5 m) _ _ _ _ _ = _ ∧ _
    unfold F_X12_lasting_l5_b
    rw [hc, d_b_t, if_pos (by omega), a1, d_b2_t, ek]
    by_cases q : (w : Int) = 0
    · obtain ⟨w', s', b1, b2, b3⟩ := ih (k + 1) m (by omega) (by omega) y s1 (by omega) (h.g71 a3)
      refine ⟨w', s', ?_, b2, v_71tr a3 b3⟩
      rw [if_pos q, d_w_id (x := (y : Int) + 0) (by omega) (by omega), Int.add_zero]
      exact b1
    · obtain ⟨w', s', b1, b2, b3⟩ := ih (k + 1) m (by omega) (by omega) (y + 1) s1 (by omega) (h.g71 a3)
      refine ⟨w', s', ?_, b2, v_71tr a3 b3⟩
      rw [if_neg q, d_w_id (x := (y : Int) + 1) (by omega) (by omega)]
      exact b1
theorem v_rdr.last (h : v_rdr s L u v W H st me so N sg day heat) (hb : b < v_bl u v) {n : Nat} (hn : n ≤ 4) : ∃ (w : Nat) (s' : d_S), F_X12_lasting s (b : Int) (n : Int) = some ((w : Int), s') ∧ w ≤ 1000 ∧ v_71 s s' := by
  obtain ⟨c, hc, -, hc2⟩ := P_pathsOf hn
  exact v_lal hn hb hc hc2 c 0 d_N (by omega) (by rw [d_N_is]; omega) 0 s (by omega) h
theorem v_rdr.lasts (h : v_rdr s L u v W H st me so N sg day heat) {x1 x2 x3 : Int} : ∃ y s', F_X12_lasts s x1 x2 x3 = some (y, s') ∧ v_71 s s' := by
  unfold F_X12_lasts
  rw [P_isBlock h.1, d_b_t]
  by_cases c1 : 0 ≤ x1 ∧ x1 < ((v_bl u v : Nat) : Int)
  rotate_left
  · rw [v_bf c1, if_pos rfl]; exact ⟨-1, s, rfl, v_71rf⟩
  rw [v_bt c1, if_neg (by decide), P_isIn, d_b_t]
  by_cases c2 : 0 ≤ x2 ∧ x2 ≤ 4
  rotate_left
  · rw [v_bf c2, if_pos rfl]; exact ⟨-1, s, rfl, v_71rf⟩
  obtain ⟨b, rfl⟩ : ∃ b : Nat, x1 = b := ⟨x1.toNat, by omega⟩
  obtain ⟨n, rfl⟩ : ∃ n : Nat, x2 = n := ⟨x2.toNat, by omega⟩
  obtain ⟨w, s1, a1, a2, a3⟩ := h.last (b := b) (by omega) (n := n) (by omega)
  obtain ⟨c, hc, hc1, hc2⟩ := P_pathsOf (n := n) (by omega)
  obtain ⟨z, hz⟩ := P_part_t (a := w) (c := c) (by omega) (by omega) (y := x3)
  refine ⟨z, s1, ?_, a3⟩
  rw [v_bt c2, if_neg (by decide), a1, d_b2_t, hc, d_b_t, hz, d_b_t]
theorem v_sfR {n : Nat} (hn : n ≤ 4) : ∀ (j k m : Nat), k + j = v_bl u v → j < m → ∀ (y z : Int) (s : d_S), v_rdr s L u v W H st me so N sg day heat → ∃ r s', F_X12_sellFirst_l18 m (n : Int) y z (k : Int) s = some (r, s') ∧ v_71 s s' := by
  intro j
  induction j with
  | zero =>
    intro k m hk hf y z s h
    obtain ⟨m, rfl⟩ : ∃ q, m = q + 1 := ⟨m - 1, by omega⟩
    refine ⟨y, s, ?_, v_71rf⟩
    show F_X12_sellFirst_l18_b (F_X12_sellFirst_l18 m) _ _ _ _ _ = _
    unfold F_X12_sellFirst_l18_b
    rw [P_blocks h.1, d_b_t, if_neg (by omega)]
  | succ j ih =>
    intro k m hk hf y z s h
    obtain ⟨m, rfl⟩ : ∃ q, m = q + 1 := ⟨m - 1, by omega⟩
    have h64 := h.1.ac
    have ek : d_w ((k : Int) + 1) = ((k + 1 : Nat) : Int) := d_w_id (by omega) (by omega)
    show ∃ r s', F_X12_sellFirst_l18_b (F_X12_sellFirst_l18 m) _ _ _ _ _ = _ ∧ _
    unfold F_X12_sellFirst_l18_b
    rw [P_blocks h.1, d_b_t, if_pos (by omega), P_csR h.1 h.2.2.1, d_b_t, ek]
    by_cases c : v_csb u v so me k
    rotate_left
    · rw [v_bf c, if_pos rfl]; exact ih (k + 1) m (by omega) (by omega) y z s h
    obtain ⟨w, s1, a1, a2, a3⟩ := h.last (b := k) (by omega) hn
    rw [v_bt c, if_neg (by decide), a1, d_b2_t]
    have go : ∀ y2 z2 : Int, ∃ r s', F_X12_sellFirst_l18 m (n : Int) y2 z2 ((k + 1 : Nat) : Int) s1 = some (r, s') ∧ v_71 s s' := fun y2 z2 => by
      obtain ⟨r, s', b1, b2⟩ := ih (k + 1) m (by omega) (by omega) y2 z2 s1 (h.g71 a3)
      exact ⟨r, s', b1, v_71tr a3 b2⟩
    split
    · exact go _ _
    · split
      · exact go _ _
      · exact go _ _
theorem v_rdr.sellFirst (h : v_rdr s L u v W H st me so N sg day heat) {x1 : Int} : ∃ y s', F_X12_sellFirst s x1 = some (y, s') ∧ v_71 s s' := by
  have h64 := h.1.ac
  unfold F_X12_sellFirst
  rw [P_isIn, d_b_t]
  by_cases c2 : 0 ≤ x1 ∧ x1 ≤ 4
  rotate_left
  · rw [v_bf c2, if_pos rfl]; exact ⟨-1, s, rfl, v_71rf⟩
  obtain ⟨n, rfl⟩ : ∃ n : Nat, x1 = n := ⟨x1.toNat, by omega⟩
  rw [v_bt c2, if_neg (by decide)]
  exact v_sfR (n := n) (by omega) (v_bl u v) 0 d_N (by omega) (by rw [d_N_is]; omega) (-1) 0 s h
theorem v_R.oq (h : v_R t s) (h' : v_oq s s1) : v_R t s1 := h.scr (fun a ha => h'.1 a (by unfold v_cl at ha; omega) (by unfold v_cl at ha; omega) (by unfold v_cl at ha; omega) (by unfold v_cl at ha; omega)) (fun a ha => h'.2.1 a ha) ⟨h'.2.2, by rw [h'.1 71 (by decide) (by decide) (by decide) (by decide)]; exact h.2.2.2.2.2.2.2.1.2⟩
theorem v_R.g71 (h : v_R t s) (h' : v_71 s s1) : v_R t s1 := h.scr (fun a ha => h'.1 a (by unfold v_cl at ha; omega)) (fun a _ => by rw [h'.2.1]) ⟨by rw [h'.1 49 (by decide)]; exact h.2.2.2.2.2.2.2.1.1, h'.2.2 h.2.2.2.2.2.2.2.1.2⟩
theorem R_lasts (h : v_R t s) {x1 x2 x3 : Int} : v_TT t (F_X11_lasts t s x1 x2 x3) (fun s1 => F_X12_lasts s1 x1 x2 x3) := by
  obtain ⟨L, u, v, W, H, st, me, so, N, sg, day, heat, x, hC, hR⟩ := h.rdy
  obtain ⟨y, s1, a1, a2⟩ := hC.lasts (x1 := x1) (x2 := x2) (x3 := x3)
  have hR1 : v_R t s1 := by
    rcases a2 with rfl | a2
    · exact h
    · exact h.oq a2
  obtain ⟨L, u, v, W, H, st, me, so, N, sg, day, heat, x, -, hR2⟩ := hR1.rdy
  obtain ⟨z, s2, b1, b2⟩ := hR2.lasts (x1 := x1) (x2 := x2) (x3 := x3)
  exact ⟨y, z, s1, s2, a1, b1, hR1.g71 b2⟩
theorem T_sellFirst (h : v_R t s) {x1 : Int} : v_TT t (F_X11_sellFirst t s x1) (fun s1 => F_X12_sellFirst s1 x1) := by
  obtain ⟨L, u, v, W, H, st, me, so, N, sg, day, heat, x, hC, hR⟩ := h.rdy
  obtain ⟨y, s1, a1, a2⟩ := hC.sellFirst (x1 := x1)
  have hR1 : v_R t s1 := by
    rcases a2 with rfl | a2
    · exact h
    · exact h.oq a2
  obtain ⟨L, u, v, W, H, st, me, so, N, sg, day, heat, x, -, hR2⟩ := hR1.rdy
  obtain ⟨z, s2, b1, b2⟩ := hR2.sellFirst (x1 := x1)
  exact ⟨y, z, s1, s2, a1, b1, hR1.g71 b2⟩
end V61

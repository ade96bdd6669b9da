section V23
variable {s s' z z' : d_S} {t : Nat → Option p_C} {L : v_LR} {u v W H b N : Nat} {st me so : Nat → Nat} {sg : Nat → Nat → Nat} {day heat x size edge sold : Int} {q : v_T5}
theorem v_sel_n (h : L.2.1 = none) {a b c d e f x y x' y' : Int} : v_sel L a b c d e f x y = v_sel L a b c d e f x' y' := by unfold v_sel; rw [h]
theorem P_sells62 (hT : v_CT t (s.2.1 47 3) L) (hK : v_K s q sold) (hb : v_tb s size edge) (hz : size ≤ 64) : ∃ s', F_X0_sellsAt_j62 t s = some (v_sel L q.1 q.2.1 size q.2.2.1 q.2.2.2.1 edge (s.1 49 6) (s.1 49 7), s') ∧ (∀ a, a ≠ 49 → a ≠ 50 → s'.1 a = s.1 a) ∧ s'.2 = s.2 ∧ v_Nm (s'.1 49) := by
  obtain ⟨⟨k6, k7, k8, k9, k5, k10⟩, ⟨o1, o2, o3, o4, o5⟩, -⟩ := hK
  obtain ⟨b3, b5, hN⟩ := hb
  obtain ⟨s1, hs1⟩ : ∃ y, y = d_si (d_si (d_si (d_si s 49 1 q.1) 49 2 q.2.1) 49 0 q.2.2.1) 49 4 q.2.2.2.1 := ⟨_, rfl⟩
  have e49 : s1.1 49 = d_u (d_u (d_u (d_u (s.1 49) 1 q.1) 2 q.2.1) 0 q.2.2.1) 4 q.2.2.2.1 := by rw [hs1]; exact v_told
  have eo : ∀ a, a ≠ 49 → s1.1 a = s.1 a := fun a ha => by rw [hs1, d_si_n ha, d_si_n ha, d_si_n ha, d_si_n ha]
  have hN1 : v_Nm (s1.1 49) := by
    rw [e49]
    exact (((hN.u (k := 1) (by omega) (by omega)).u (k := 2) (by omega) (by omega)).u (k := 0) (by omega) (by omega)).u (k := 4) (by omega) (by omega)
  have ep : s1.2 = s.2 := by rw [hs1]; rfl
  obtain ⟨s2, g1, g2⟩ := P_sells (s := s1) (t := t) (e := s1.2.1 47 3) (L := L) (by rw [ep]; exact hT) hN1 (by rw [e49]; show s.1 49 3 ≤ 64; omega) (by rw [e49]; show q.2.2.2.1 ≤ 100; omega)
  refine ⟨s2, ?_, fun a h1 h2 => by rw [g2.1 a (by intro h; simp at h; exact h2 h), eo a h1], g2.2.trans ep, by rw [g2.1 49 (by decide)]; exact hN1⟩
  unfold F_X0_sellsAt_j62
  rw [k6, k7, k8, k9, P_tellDay, d_b_t, ← hs1, g1, d_b2_t, e49]
  congr 1
  refine Prod.ext ?_ rfl
  show v_sel L q.1 q.2.1 (s.1 49 3) q.2.2.1 q.2.2.2.1 (s.1 49 5) (s.1 49 6) (s.1 49 7) = _
  rw [b3, b5]
theorem P_sellsAt (hT : v_CT t (s.2.1 47 3) L) (hK : v_K s q sold) (hb : v_tb s ((v_sz u v W H b : Nat) : Int) edge) (hQ : v_Q s u v W H) (hS : v_S s N sg) (h4 : s.1 47 4 = (b : Int)) (hbl : b < v_bl u v) : ∃ s', F_X0_sellsAt t s = some (v_sel L q.1 q.2.1 ((v_sz u v W H b : Nat) : Int) q.2.2.1 q.2.2.2.1 edge ((v_pc (v_si sg u v W H N b) 12 : Nat) : Int) ((v_ki sg u v W H N b : Nat) : Int), s') ∧ (∀ a, a ≠ 49 → a ≠ 50 → s'.1 a = s.1 a) ∧ s'.2 = s.2 ∧ v_Nm (s'.1 49) := by
  have hsz := v_sz_le (u := u) (v := v) (W := W) (H := H) (b := b) hQ.2.2.2.1 hQ.2.2.2.2
  have hnone : L.2.1 = none → ∃ s', F_X0_sellsAt_j62 t s = some (v_sel L q.1 q.2.1 ((v_sz u v W H b : Nat) : Int) q.2.2.1 q.2.2.2.1 edge ((v_pc (v_si sg u v W H N b) 12 : Nat) : Int) ((v_ki sg u v W H N b : Nat) : Int), s') ∧ (∀ a, a ≠ 49 → a ≠ 50 → s'.1 a = s.1 a) ∧ s'.2 = s.2 ∧ v_Nm (s'.1 49) := by
    intro hL
    obtain ⟨s', g1, g2⟩ := P_sells62 hT hK hb (by omega)
    exact ⟨s', by rw [g1, v_sel_n hL], g2⟩
  unfold F_X0_sellsAt
  cases e : s.2.1 47 3 with
  | none =>
    rw [e] at hT
    have hL : L = (none, none, none) := hT
    exact hnone (by rw [hL])
  | some a =>
    have hT' := hT
    rw [e] at hT'
    obtain ⟨-, h0, -⟩ := hT'
    show ∃ s', d_b (some a) _ = _ ∧ _
    rw [d_b_t]
    rcases h0 with ⟨h1, h2⟩ | ⟨a', V, h1, h2, h3⟩
    · rw [h1, d_b_t]
      exact hnone h2
    · rw [h1, d_b_t]
      show ∃ s', d_b (F_X4_sightsIn_3 s (s.1 47 4)) _ = _ ∧ _
      have hk : v_ks (fun n => 0 < v_ce sg u v W H n b) (fun n => sg n 0) N < 1024 := v_ks_lt N (fun j hj => by have := hS.le hj (k := 0) (by decide); omega)
      rw [h4, P_sightsInC hQ hS hbl, d_b_t, P_bitCount (show v_si sg u v W H N b < 4096 from v_sb12 hS.2.1), d_b_t, P_kindsInC hQ hS hbl, d_b_t, P_bitCount (by omega), d_b_t]
      unfold F_X1_tellSights
      rw [d_l_t, d_l_t, d_b_t]
      obtain ⟨s1, hs1⟩ : ∃ y, y = d_si (d_si s 49 6 ((v_pc (v_si sg u v W H N b) 12 : Nat) : Int)) 49 7 ((v_ki sg u v W H N b : Nat) : Int) := ⟨_, rfl⟩
      have eo : ∀ a, a ≠ 49 → s1.1 a = s.1 a := fun a ha => by rw [hs1, d_si_n ha, d_si_n ha]
      have e49 : s1.1 49 = d_u (d_u (s.1 49) 6 ((v_pc (v_si sg u v W H N b) 12 : Nat) : Int)) 7 ((v_ki sg u v W H N b : Nat) : Int) := by rw [hs1, d_si_i, d_si_i]
      have ep : s1.2 = s.2 := by rw [hs1]; rfl
      obtain ⟨b3, b5, hN⟩ := hb
      have p1 := v_pc_le (n := v_si sg u v W H N b) 12
      have p2 : v_ki sg u v W H N b ≤ 12 := v_pc_le 12
      have hb1 : v_tb s1 ((v_sz u v W H b : Nat) : Int) edge := by
        refine ⟨?_, ?_, ?_⟩
        · rw [e49]; exact b3
        · rw [e49]; exact b5
        · rw [e49]; exact (hN.u (k := 6) (by omega) (by omega)).u (k := 7) (by omega) (by omega)
      obtain ⟨s', g1, g2, g3, g4⟩ := P_sells62 (s := s1) (t := t) (L := L) (q := q) (sold := sold) (by rw [ep]; exact hT) (by unfold v_K at hK ⊢; rw [eo 47 (by decide)]; exact hK) hb1 (by omega)
      show ∃ s', F_X0_sellsAt_j62 t (d_si (d_si s 49 6 ((v_pc (v_si sg u v W H N b) 12 : Nat) : Int)) 49 7 ((v_ki sg u v W H N b : Nat) : Int)) = _ ∧ _
      rw [← hs1]
      refine ⟨s', ?_, fun a h1 h2 => (g2 a h1 h2).trans (eo a h1), g3.trans ep, g4⟩
      rw [g1, e49]; rfl
theorem P_sellsOf (hG : v_G (s.1 65) u v W H) (hZ : v_Z (s.1 65) N sg) (hb : b < v_bl u v) (hT : v_RT (s.1 67) (s.1 65 2) L) (hN : v_Nm (s.1 71)) (hB : v_B (s.1 65) st me so) (h9 : s.1 65 9 = day) (h10 : s.1 65 10 = heat) (h0 : 0 ≤ day ∧ day ≤ 2000) (h1 : 0 ≤ heat ∧ heat ≤ 2000) : ∃ s', F_X12_sellsOf s (b : Int) = some (v_sel L day heat ((v_sz u v W H b : Nat) : Int) ((st b : Nat) : Int) ((me b : Nat) : Int) ((v_ed u v W H b : Nat) : Int) ((v_pc (v_si sg u v W H N b) 12 : Nat) : Int) ((v_ki sg u v W H N b : Nat) : Int), s') ∧ v_71 s s' := by
  have hac := hG.ac
  obtain ⟨-, m1, m2, m3⟩ := hB b (by omega)
  have hsz := v_sz_le (u := u) (v := v) (W := W) (H := H) (b := b) hG.2.2.2.1.2 hG.2.2.2.2.1.2
  have hed := v_ed_le (u := u) (v := v) (W := W) (H := H) (b := b)
  obtain ⟨s1, g1, g2, g3, g4⟩ := P_name (s := s) (day := day) (heat := heat) (straw := ((st b : Nat) : Int)) (melted := ((me b : Nat) : Int)) hG hb
  have hN1 : v_Nm (s1.1 71) := by rw [g2]; exact hN.nam h0 h1 (by omega) (by omega) (by omega) (by omega)
  have e65 : s1.1 65 = s.1 65 := g3 65 (by decide)
  have p1 := v_pc_le (n := v_si sg u v W H N b) 12
  have p2 : v_ki sg u v W H N b ≤ 12 := v_pc_le 12
  obtain ⟨s2, hs2⟩ : ∃ y, y = d_si s1 71 6 ((v_pc (v_si sg u v W H N b) 12 : Nat) : Int) := ⟨_, rfl⟩
  have e652 : s2.1 65 = s.1 65 := by rw [hs2, d_si_n (by decide)]; exact e65
  obtain ⟨s3, hs3⟩ : ∃ y, y = d_si s2 71 7 ((v_ki sg u v W H N b : Nat) : Int) := ⟨_, rfl⟩
  have e653 : s3.1 65 = s.1 65 := by rw [hs3, d_si_n (by decide)]; exact e652
  have e71 : s3.1 71 = d_u (d_u (v_nam (s.1 71) day heat ((v_sz u v W H b : Nat) : Int) ((st b : Nat) : Int) ((me b : Nat) : Int) ((v_ed u v W H b : Nat) : Int)) 6 ((v_pc (v_si sg u v W H N b) 12 : Nat) : Int)) 7 ((v_ki sg u v W H N b : Nat) : Int) := by rw [hs3, d_si_i, hs2, d_si_i, g2]
  have hN3 : v_Nm (s3.1 71) := by
    rw [hs3, d_si_i, hs2, d_si_i]
    exact (hN1.u (k := 6) (by omega) (by omega)).u (k := 7) (by omega) (by omega)
  have eo : ∀ a, a ≠ 71 → s3.1 a = s.1 a := fun a ha => by rw [hs3, d_si_n ha, hs2, d_si_n ha]; exact g3 a ha
  obtain ⟨c, hc, hc2⟩ : ∃ c : Nat, 100 - ((me b : Nat) : Int) = c ∧ c ≤ 100 := ⟨100 - me b, by omega, by omega⟩
  have hle : v_sz u v W H b * c ≤ 64 * 100 := Nat.mul_le_mul hsz hc2
  have hd : d_div (s3.1 71 2 * (100 - ((me b : Nat) : Int))) 10 = ((v_sz u v W H b : Nat) : Int) * (100 - ((me b : Nat) : Int)) / 10 := by
    rw [e71]
    show d_div (((v_sz u v W H b : Nat) : Int) * _) 10 = _
    rw [hc, ← Int.natCast_mul]
    exact v_div (a := v_sz u v W H b * c) (b := 10) (by omega) (by decide)
  have hle2 : 0 ≤ ((v_sz u v W H b : Nat) : Int) * (100 - ((me b : Nat) : Int)) / 10 ∧ ((v_sz u v W H b : Nat) : Int) * (100 - ((me b : Nat) : Int)) / 10 ≤ 640 := by
    rw [hc, ← Int.natCast_mul]; omega
  obtain ⟨s4, r1, r2, r3⟩ := hT.2.1 s3 (((v_sz u v W H b : Nat) : Int) * (100 - ((me b : Nat) : Int)) / 10) 9999 (fun j _ _ => congrFun (eo 67 (by decide)) j) hN3 (by decide) (by decide) ⟨by omega, by omega⟩
  unfold F_X12_sellsOf
  rw [P_get0 hB (by omega), d_b_t, P_get1 hB (by omega), d_b_t, h9, h10, g1, d_b_t, P_sightsIn (by rw [e65]; exact hG) (by rw [e65]; exact hZ) hb, d_b_t, P_bits (show v_si sg u v W H N b < 4096 from v_sb12 hZ.2.1), d_b_t, d_l_t, ← hs2, P_kindsIn (by rw [e652]; exact hG) (by rw [e652]; exact hZ) hb, d_b_t, d_l_t, ← hs3, P_get1 (by rw [e653]; exact hB) (by omega), d_b_t, hd, e653, r1, d_b2_t]
  refine ⟨s4, ?_, fun a ha => by rw [r2]; exact eo a ha, r3.trans ?_, fun _ => by rw [r2]; exact hN3⟩
  · congr 1
    refine Prod.ext ?_ rfl
    unfold v_sel v_cut
    rw [e71]
    cases L.2.1 with
    | none => rfl
    | some V => rfl
  · rw [hs3, hs2, ← g4]; rfl
theorem v_R.sides (h : v_R t (d_mx s z)) : ∃ (e : Option Nat) (L : v_LR), F_X9_ruler_3 s = some e ∧ v_CT t e L ∧ v_RT (z.1 67) (z.1 65 2) L := by
  obtain ⟨e, L, h1, h2, h3⟩ := h.rule
  exact ⟨e, L, by rw [← h1]; exact (P_ruler_fr rfl rfl).symm, h2, h3⟩
abbrev v_cs1 (A : Nat → Int) (b : Int) : Prop := (0 ≤ b ∧ b < ((v_bl (v_u A) (v_v A) : Nat) : Int)) ∧ v_so A b.toNat = 0 ∧ v_me A b.toNat < 100
theorem P_canSellR (h : v_R t (d_mx s z)) {b : Int} : F_X12_canSell z b = some (v_b (v_cs1 (z.1 65) b)) := by
  have hI : v_I (z.1 65) := h.2.1
  have hG := hI.G
  have hB := hI.B
  unfold F_X12_canSell
  rw [P_isBlock hG, d_b_t]
  by_cases c1 : 0 ≤ b ∧ b < ((v_bl (v_u (z.1 65)) (v_v (z.1 65)) : Nat) : Int)
  rotate_left
  · rw [v_bf c1, if_pos rfl, v_bf (fun e => c1 e.1)]
  obtain ⟨k, rfl⟩ : ∃ k : Nat, b = k := ⟨b.toNat, by omega⟩
  have hk : k < 64 := by have := hG.ac.2.2.1; omega
  obtain ⟨-, g1, g2, g3⟩ := hB k hk
  rw [v_bt c1, if_neg (by decide), P_isSold hB hk, d_b_t]
  by_cases c2 : v_so (z.1 65) k = 0
  rotate_left
  · rw [if_neg (by omega), v_bf (fun e => c2 e.2.1)]
  rw [if_pos (by omega), P_isWater hB hk, d_b_t]
  by_cases c3 : v_me (z.1 65) k = 100
  · rw [v_bt c3, if_neg (by decide), v_bf (fun e => by have h2 : v_me (z.1 65) k < 100 := e.2.2; omega)]
  · have c4 : v_me (z.1 65) k < 100 := by omega
    rw [v_bf c3, if_pos rfl, v_bt ⟨c1, c2, c4⟩]
theorem P_canSellC (h : v_R t (d_mx s z)) {b : Int} : F_X11_canSell s b = some (v_b (v_cs1 (z.1 65) b)) := by
  obtain ⟨hW, hI, -, -, -, hQ, -, hN, -⟩ := h
  have hI : v_I (z.1 65) := hI
  have hG := hI.G
  have hB := hI.B
  have hQ : v_Q s (v_u (z.1 65)) (v_v (z.1 65)) (v_wi (z.1 65)) (v_hi (z.1 65)) := hQ.fr (fun a h1 h2 => (d_mx_lo (by omega)).symm)
  have hM : v_M s (v_st (z.1 65)) (v_me (z.1 65)) (v_so (z.1 65)) := hW.M (s := d_mx s z) hI
  unfold F_X11_canSell
  rw [P_isBlockC hQ, d_b_t]
  by_cases c1 : 0 ≤ b ∧ b < ((v_bl (v_u (z.1 65)) (v_v (z.1 65)) : Nat) : Int)
  rotate_left
  · rw [v_bf c1, if_pos rfl, v_bf (fun e => c1 e.1)]
  obtain ⟨k, rfl⟩ : ∃ k : Nat, b = k := ⟨b.toNat, by omega⟩
  have hk : k < 64 := by have := hG.ac.2.2.1; omega
  obtain ⟨-, g1, g2, g3⟩ := hB k hk
  rw [v_bt c1, if_neg (by decide), P_isSoldC hM hk, d_b_t]
  by_cases c2 : v_so (z.1 65) k = 0
  rotate_left
  · rw [if_neg (by omega), v_bf (fun e => c2 e.2.1)]
  rw [if_pos (by omega), P_meltedOf hM hk, d_b_t]
  by_cases c3 : v_me (z.1 65) k < 100
  · rw [if_pos (by omega), v_bt ⟨c1, c2, c3⟩]
  · rw [if_neg (by omega), v_bf (fun e => c3 e.2.2)]
theorem v_sell (h : v_R t (d_mx s z)) {b : Int} (hc : v_cs1 (z.1 65) b) : ∃ n s' z', F_X11_sellOff t s b = some (n, s') ∧ F_X12_sellNow z b = some (n, z') ∧ 0 ≤ n ∧ v_R t (d_mx s' z') ∧ v_fC s s' ∧ v_fR z z' := by
  obtain ⟨e, L, hE, hCT, hRT⟩ := h.sides
  have h' := h
  obtain ⟨hW, hI, -, -, -, hQ, -, hN, -⟩ := h'
  have hI : v_I (z.1 65) := hI
  have hG := hI.G
  have hB := hI.B
  have h12 := v_A12 hI
  have hQ : v_Q s (v_u (z.1 65)) (v_v (z.1 65)) (v_wi (z.1 65)) (v_hi (z.1 65)) := hQ.fr (fun a h1 h2 => (d_mx_lo (by omega)).symm)
  have hM : v_M s (v_st (z.1 65)) (v_me (z.1 65)) (v_so (z.1 65)) := hW.M (s := d_mx s z) hI
  have hY : v_Y s (z.1 65 9) (z.1 65 10) (z.1 65 13) := hW.Y (s := d_mx s z) hI
  have hS : v_S s (v_nS (z.1 65)) (v_sg (z.1 65)) := hW.S (s := d_mx s z) hI
  have e12 : s.1 6 2 = z.1 65 12 := hW.2.1.1 2 (by decide)
  have e11 : s.1 6 5 = z.1 65 11 := hW.2.1.1 5 (by decide)
  obtain ⟨c1, c2, c3⟩ := hc
  obtain ⟨k, rfl⟩ : ∃ k : Nat, b = k := ⟨b.toNat, by omega⟩
  have hkb : k < v_bl (v_u (z.1 65)) (v_v (z.1 65)) := by omega
  have hk : k < 64 := by have := hG.ac.2.2.1; omega
  have c2 : v_so (z.1 65) k = 0 := c2
  have c3 : v_me (z.1 65) k < 100 := c3
  obtain ⟨⟨f1, f2, f3⟩, g1, g2, g3⟩ := hB k hk
  obtain ⟨i9, i10, -, i13, -⟩ := hI.2.2.2
  have i9 : 0 ≤ z.1 65 9 ∧ z.1 65 9 ≤ 999 := i9
  have i10 : 0 ≤ z.1 65 10 ∧ z.1 65 10 ≤ 9 := i10
  
  obtain ⟨s1, a1, a2, a3, a4, a5, a6, a7⟩ := P_start hM hQ hkb hE hY hN.1
  obtain ⟨s2, b1, b2, b3, b4⟩ := P_sellsAt (L := L) (b := k) (by rw [a4]; exact hCT) a2 a5 (hQ.fr (fun a h1 h2 => a6 a (by omega) (by omega))) (N := v_nS (z.1 65)) (sg := v_sg (z.1 65)) (by
    unfold v_S at hS ⊢
    rw [a6 3 (by decide) (by decide), a6 4 (by decide) (by decide)]; exact hS) a3 hkb
  obtain ⟨z1, r1, r2, r3, r4⟩ := P_sellsOf hG hI.Z hkb hRT hN.2 hB rfl rfl (by omega) (by omega)
  obtain ⟨n, hn⟩ : ∃ n, n = v_sel L (z.1 65 9) (z.1 65 10) ((v_sz (v_u (z.1 65)) (v_v (z.1 65)) (v_wi (z.1 65)) (v_hi (z.1 65)) k : Nat) : Int) ((v_st (z.1 65) k : Nat) : Int) ((v_me (z.1 65) k : Nat) : Int) ((v_ed (v_u (z.1 65)) (v_v (z.1 65)) (v_wi (z.1 65)) (v_hi (z.1 65)) k : Nat) : Int) ((v_pc (v_si (v_sg (z.1 65)) (v_u (z.1 65)) (v_v (z.1 65)) (v_wi (z.1 65)) (v_hi (z.1 65)) (v_nS (z.1 65)) k) 12 : Nat) : Int) ((v_ki (v_sg (z.1 65)) (v_u (z.1 65)) (v_v (z.1 65)) (v_wi (z.1 65)) (v_hi (z.1 65)) (v_nS (z.1 65)) k : Nat) : Int) := ⟨_, rfl⟩
  have b1 : F_X0_sellsAt t s1 = some (n, s2) := by rw [hn]; exact b1
  rw [← hn] at r1
  have hn0 : 0 ≤ n := by rw [hn]; exact v_sel_b.1
  have so' : ∀ a, a ≠ 47 → a ≠ 49 → a ≠ 50 → s2.1 a = s.1 a := fun a h1 h2 h3 => (b2 a h2 h3).trans (a6 a h1 h2)
  obtain ⟨m, hm⟩ : ∃ m : Int, m = min 99 (z.1 65 12 + ((v_st (z.1 65) k : Nat) : Int)) := ⟨_, rfl⟩
  obtain ⟨c, hcn⟩ : ∃ c : Int, c = d_w (z.1 65 11 + n) := ⟨_, rfl⟩
  obtain ⟨s3, hs3⟩ : ∃ y, y = d_si s2 6 5 c := ⟨_, rfl⟩
  have hM3 : v_M s3 (v_st (z.1 65)) (v_me (z.1 65)) (v_so (z.1 65)) := hM.fr (by rw [hs3, d_si_n (by decide), so' 7 (by decide) (by decide) (by decide)])
  obtain ⟨s4, hs4⟩ : ∃ y, y = d_si s3 6 2 m := ⟨_, rfl⟩
  have hM4 : v_M s4 (v_st (z.1 65)) (v_me (z.1 65)) (v_so (z.1 65)) := hM3.fr (by rw [hs4, d_si_n (by decide)])
  obtain ⟨s5, hs5⟩ : ∃ y, y = d_si s4 7 k ((0 + 16 * v_me (z.1 65) k + 2048 * 1 : Nat) : Int) := ⟨_, rfl⟩
  have hM5 := hM4.put (b := k) (show 0 ≤ 9 by decide) g2 (show 1 ≤ 1 by decide)
  rw [← hs5] at hM5
  have hme : v_up1 (v_me (z.1 65)) k (v_me (z.1 65) k) = v_me (z.1 65) := by
    funext j
    unfold v_up1
    by_cases q : j = k
    · rw [if_pos q, q]
    · rw [if_neg q]
  rw [hme] at hM5
  
  have y65 : z1.1 65 = z.1 65 := r2 65 (by decide)
  obtain ⟨z2, hz2⟩ : ∃ y, y = d_si z1 65 11 c := ⟨_, rfl⟩
  have yB : ∀ {w : d_S}, (∀ j, 20 ≤ j → j < 212 → w.1 65 j = z.1 65 j) → v_B (w.1 65) (v_st (z.1 65)) (v_me (z.1 65)) (v_so (z.1 65)) := fun hw j hj => by
    rw [hw _ (by omega) (by omega), hw _ (by omega) (by omega), hw _ (by omega) (by omega)]
    exact hB j hj
  have hB2 : v_B (z2.1 65) (v_st (z.1 65)) (v_me (z.1 65)) (v_so (z.1 65)) := yB (fun j h1 h2 => by rw [hz2, d_si_i, d_u_n (by omega), y65])
  obtain ⟨z3, hz3⟩ : ∃ y, y = d_si z2 65 12 m := ⟨_, rfl⟩
  have hB3 : v_B (z3.1 65) (v_st (z.1 65)) (v_me (z.1 65)) (v_so (z.1 65)) := yB (fun j h1 h2 => by rw [hz3, d_si_i, d_u_n (by omega), hz2, d_si_i, d_u_n (by omega), y65])
  obtain ⟨z4, hz4⟩ : ∃ y, y = d_si z3 65 (20 + 3 * k) ((0 : Nat) : Int) := ⟨_, rfl⟩
  have hB4 := hB3.set0 (b := k) (x := 0) (by decide)
  rw [← hz4] at hB4
  obtain ⟨z5, hz5⟩ : ∃ y, y = d_si z4 65 (22 + 3 * k) ((1 : Nat) : Int) := ⟨_, rfl⟩
  have hB5 : v_B (z5.1 65) (v_up1 (v_st (z.1 65)) k 0) (v_me (z.1 65)) (v_up1 (v_so (z.1 65)) k 1) := by
    intro j hj
    obtain ⟨⟨h1, h2, h3⟩, h4, h5, h6⟩ := hB4 j hj
    rw [hz5, d_si_i, d_u_n (show 20 + 3 * j ≠ 22 + 3 * k by omega), d_u_n (show 21 + 3 * j ≠ 22 + 3 * k by omega)]
    by_cases q : j = k
    · subst q
      rw [d_u_t]
      exact ⟨⟨h1, h2, by unfold v_up1; rw [if_pos rfl]⟩, h4, h5, by unfold v_up1; rw [if_pos rfl]; decide⟩
    · rw [d_u_n (by omega)]
      exact ⟨⟨h1, h2, by unfold v_up1; rw [if_neg q]; exact h3⟩, h4, h5, by unfold v_up1; rw [if_neg q]; exact h6⟩
  have zA : ∀ j, j ≠ 11 → j ≠ 12 → j ≠ 20 + 3 * k → j ≠ 22 + 3 * k → z5.1 65 j = z.1 65 j := fun j h1 h2 h3 h4 => by
    rw [hz5, d_si_i, d_u_n h4, hz4, d_si_i, d_u_n h3, hz3, d_si_i, d_u_n h2, hz2, d_si_i, d_u_n h1, y65]
  have z12 : z5.1 65 12 = m := by rw [hz5, d_si_i, d_u_n (by omega), hz4, d_si_i, d_u_n (by omega), hz3, d_si_i, d_u_t]
  have z11 : z5.1 65 11 = c := by rw [hz5, d_si_i, d_u_n (by omega), hz4, d_si_i, d_u_n (by omega), hz3, d_si_i, d_u_n (by decide), hz2, d_si_i, d_u_t]
  have zo : ∀ a, a ≠ 65 → z5.1 a = z1.1 a := fun a ha => by rw [hz5, d_si_n ha, hz4, d_si_n ha, hz3, d_si_n ha, hz2, d_si_n ha]
  have s5o : ∀ a, a ≠ 6 → a ≠ 7 → s5.1 a = s2.1 a := fun a h1 h2 => by rw [hs5, d_si_n h2, hs4, d_si_n h1, hs3, d_si_n h1]
  have s56 : ∀ j, s5.1 6 j = d_u (d_u (s.1 6) 5 c) 2 m j := fun j => by rw [hs5, d_si_n (by decide), hs4, d_si_i, hs3, d_si_i, so' 6 (by decide) (by decide) (by decide)]
  refine ⟨n, s5, z5, ?_, ?_, hn0, ?_, fun a ha => ?_, ⟨fun a ha => ?_, ?_⟩⟩
  · unfold F_X11_sellOff
    rw [a1, d_b_t, b1, d_b2_t, so' 6 (by decide) (by decide) (by decide), e11, ← hcn, d_l_t, ← hs3, P_strawOn hM3 hk, d_b_t, show s3.1 6 2 = z.1 65 12 by rw [hs3, d_si_i, d_u_n (by decide), so' 6 (by decide) (by decide) (by decide)]; exact e12, d_w_id (by omega) (by omega), P_min, d_b_t, ← hm, d_l_t, ← hs4, P_meltedOf hM4 hk, d_b_t]
    show d_b (F_X10_put_6 s4 (k : Int) ((0 : Nat) : Int) ((v_me (z.1 65) k : Nat) : Int) ((1 : Nat) : Int)) _ = _
    rw [P_put hk (by decide) g2 (by decide), d_b_t, ← hs5]
  · unfold F_X12_sellNow
    rw [r1, d_b2_t, y65, ← hcn, d_l_t, ← hz2, P_get0 hB2 hk, d_b_t, show z2.1 65 12 = z.1 65 12 by rw [hz2, d_si_i, d_u_n (by decide), y65], d_w_id (by omega) (by omega), P_cut (by decide) (by decide), d_b_t, show v_cut (z.1 65 12 + ((v_st (z.1 65) k : Nat) : Int)) 99 = m by rw [hm]; unfold v_cut; omega, d_l_t, ← hz3]
    show d_b (F_X12_set z3 (k : Int) 0 ((0 : Nat) : Int)) _ = _
    rw [P_set0 hk, d_b_t, ← hz4]
    show d_b (F_X12_set z4 (k : Int) 2 ((1 : Nat) : Int)) _ = _
    rw [P_set2 hk, d_b_t, ← hz5]
  · refine h.mark (fun a _ h6 h7 h47 h49 h50 => by rw [s5o a h6 h7]; exact so' a h47 h49 h50) (fun a ha => ?_) (fun a ha h65 h71 => by rw [zo a h65]; exact r2 a h71) (fun j hj => zA j (by omega) (by omega) (by omega) (by omega)) hM5 hB5 (fun i hi => ?_) ?_ ?_ (by rw [z12, hm]; omega) ?_ ?_ ?_
    · rw [hs5, hs4, hs3]
      show s2.2.1 a = _
      rw [b3]; exact a7 a ha
    · have hh := hW.2.1.1 i hi
      have hh : s.1 6 i = z.1 65 (9 + v_mu i) := hh
      rw [s56]
      by_cases q2 : i = 2
      · subst q2
        show d_u (d_u (s.1 6) 5 c) 2 m 2 = z5.1 65 12
        rw [d_u_t, z12]
      by_cases q5 : i = 5
      · subst q5
        show d_u (d_u (s.1 6) 5 c) 2 m 5 = z5.1 65 11
        rw [d_u_n (by decide), d_u_t, z11]
      have h2 : i = 0 ∨ i = 1 ∨ i = 3 ∨ i = 4 ∨ i = 6 := by omega
      have : 9 + v_mu i ≠ 12 ∧ 9 + v_mu i ≠ 11 ∧ 9 + v_mu i < 20 := by rcases h2 with rfl | rfl | rfl | rfl | rfl <;> decide
      rw [d_u_n q2, d_u_n q5, hh, zA _ this.2.1 this.1 (by omega) (by omega)]
    · rw [zA 9 (by decide) (by decide) (by omega) (by omega)]; exact i9
    · rw [zA 10 (by decide) (by decide) (by omega) (by omega)]; exact i10
    · rw [zA 13 (by decide) (by decide) (by omega) (by omega)]; exact i13
    · rw [s5o 49 (by decide) (by decide)]; exact b4
    · rw [zo 71 (by decide)]; exact r4 hN.2
  · rw [s5o a (by omega) (by omega)]; exact so' a (by omega) (by omega) (by omega)
  · rw [zo a (by omega)]; exact r2 a (by omega)
  · rw [hz5, hz4, hz3, hz2]; exact r3
theorem v_cs1.k (h : v_cs1 (z.1 65) (b : Int)) (hA : ∀ j, j ≠ 3 → j < 387 → z'.1 65 j = z.1 65 j) (hb : b < 64) : v_cs1 (z'.1 65) (b : Int) := by
  obtain ⟨h1, h2, h3⟩ := h
  have u14 : v_u (z'.1 65) = v_u (z.1 65) := by unfold v_u; rw [hA 14 (by omega) (by omega)]
  have v15 : v_v (z'.1 65) = v_v (z.1 65) := by unfold v_v; rw [hA 15 (by omega) (by omega)]
  refine ⟨by rw [u14, v15]; exact h1, ?_, ?_⟩
  · show v_so (z'.1 65) b = 0
    unfold v_so; rw [hA _ (by omega) (by omega)]; exact h2
  · show v_me (z'.1 65) b < 100
    unfold v_me; rw [hA _ (by omega) (by omega)]; exact h3
theorem v_sellH (h : v_R t (d_mx s z)) {b : Int} : (F_X11_sellByHand t s b = some (-1, s) ∧ F_X12_sell z b = some (-1, z)) ∨ ∃ n s' z', F_X11_sellByHand t s b = some (n, s') ∧ F_X12_sell z b = some (n, z') ∧ 0 ≤ n ∧ v_R t (d_mx s' z') ∧ v_fC s s' ∧ v_fR z z' := by
  unfold F_X11_sellByHand F_X12_sell
  rw [P_canSellC h, d_b_t, P_canSellR h, d_b_t]
  by_cases hc : v_cs1 (z.1 65) b
  rotate_left
  · left; rw [v_bf hc, if_pos rfl, if_pos rfl]; exact ⟨rfl, rfl⟩
  right
  rw [v_bt hc, if_neg (show ¬ (1 : Int) = 0 by decide), if_neg (show ¬ (1 : Int) = 0 by decide)]
  obtain ⟨s1, z1, k1, k2, k3, k4, k5, k6, k7, hR1⟩ := h.keep
  have hG := (show v_I (z.1 65) from h.2.1).G
  obtain ⟨k, rfl⟩ : ∃ k : Nat, b = k := ⟨b.toNat, by have := hc.1; omega⟩
  have hk : k < 64 := by have := hG.ac.2.2.1; have := hc.1; omega
  obtain ⟨n, s2, z2, g1, g2, g3, g4, g5, g6⟩ := v_sell hR1 (hc.k k7 hk)
  refine ⟨n, s2, z2, ?_, ?_, g3, g4, (v_fC.of k3 k4).tr g5, (v_fR.of k5 k6).tr g6⟩
  · rw [k1, d_b_t, g1, d_b2_t]
  · rw [k2, d_b_t, g2, d_b2_t]
theorem R_sell {x1 : Int} (h : v_R t s) : v_AA t (F_X11_sell t s x1) (fun s1 => F_X12_sell s1 x1) := by
  refine v_A2.AA (C := fun s => F_X11_sell t s x1) (fun s z h => ?_) h
  show ∃ v s' z', F_X11_sell t s x1 = _ ∧ F_X12_sell z x1 = _ ∧ _
  unfold F_X11_sell
  rcases v_sellH (b := x1) h with ⟨c1, c2⟩ | ⟨n, s', z', c1, c2, c3, c4⟩
  · exact ⟨-1, s, z, by rw [c1]; rfl, c2, h, v_fC.rf, v_fR.rf⟩
  · exact ⟨n, s', z', by rw [c1]; rfl, c2, c4⟩
end V23

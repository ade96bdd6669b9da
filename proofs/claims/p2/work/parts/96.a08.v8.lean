theorem v_remI {a b : Int} (h0 : 0 ≤ a) (h1 : a < 2147483648) (g0 : 0 < b) (g1 : b < 2147483648) : d_rem a b = a % b := by
  obtain ⟨m, rfl⟩ : ∃ m : Nat, a = m := ⟨a.toNat, by omega⟩
  obtain ⟨n, rfl⟩ : ∃ n : Nat, b = n := ⟨b.toNat, by omega⟩
  rw [v_rem (by omega) (by omega)]; rfl
theorem v_divI {a b : Int} (h0 : 0 ≤ a) (h1 : a < 2147483648) (g0 : 0 < b) (g1 : b < 2147483648) : d_div a b = a / b := by
  obtain ⟨m, rfl⟩ : ∃ m : Nat, a = m := ⟨a.toNat, by omega⟩
  obtain ⟨n, rfl⟩ : ∃ n : Nat, b = n := ⟨b.toNat, by omega⟩
  rw [v_div (by omega) (by omega)]; rfl
abbrev v_T5 : Type := Int × Int × Int × Int × Int
def v_s1 (L : v_LR) (size edge sold : Int) (q : v_T5) : v_T5 :=
  (q.1 + 1, q.2.2.2.2 % 10, (if sold = 0 then v_sf L (q.1 + 1) (q.2.2.2.2 % 10) size q.2.2.1 (if sold = 0 then v_mf L q.1 q.2.1 size q.2.2.1 q.2.2.2.1 edge else q.2.2.2.1) edge else q.2.2.1), (if sold = 0 then v_mf L q.1 q.2.1 size q.2.2.1 q.2.2.2.1 edge else q.2.2.2.1), (q.2.2.2.2 * 281 + 179) % 30293)
def v_rn (L : v_LR) (size edge sold : Int) : Nat → v_T5 → v_T5
  | 0, q => q
  | n + 1, q => if q.1 < 999 then v_rn L size edge sold n (v_s1 L size edge sold q) else q
def v_ok (q : v_T5) : Prop := (0 ≤ q.1 ∧ q.1 ≤ 999) ∧ (0 ≤ q.2.1 ∧ q.2.1 ≤ 9) ∧ (0 ≤ q.2.2.1 ∧ q.2.2.1 ≤ 9) ∧ (0 ≤ q.2.2.2.1 ∧ q.2.2.2.1 ≤ 100) ∧ (0 ≤ q.2.2.2.2 ∧ q.2.2.2.2 < 30293)
def v_K (s : d_S) (q : v_T5) (sold : Int) : Prop := (s.1 47 6 = q.1 ∧ s.1 47 7 = q.2.1 ∧ s.1 47 8 = q.2.2.1 ∧ s.1 47 9 = q.2.2.2.1 ∧ s.1 47 5 = q.2.2.2.2 ∧ s.1 47 10 = sold) ∧ v_ok q ∧ (sold = 0 ∨ sold = 1)
section V8
variable {t : Nat → Option p_C} {s : d_S} {e : Option Nat} {L : v_LR} {size edge sold : Int} {q : v_T5}
theorem v_mf_b {day heat straw melted : Int} (h : 0 ≤ melted ∧ melted ≤ 100) : 0 ≤ v_mf L day heat size straw melted edge ∧ v_mf L day heat size straw melted edge ≤ 100 := by
  have hm := v_mel_b (L := L) (day := day) (heat := heat) (size := size) (straw := straw) (melted := melted) (edge := edge)
  unfold v_mf
  split <;> omega
theorem v_sf_b {day heat straw melted : Int} (h : 0 ≤ straw ∧ straw ≤ 9) : 0 ≤ v_sf L day heat size straw melted edge ∧ v_sf L day heat size straw melted edge ≤ 9 := by
  have hm := v_rot_b (L := L) (day := day) (heat := heat) (size := size) (straw := straw) (melted := melted) (edge := edge)
  unfold v_sf
  split <;> omega
theorem v_ok.s1 (h : v_ok q) (h9 : q.1 < 999) : v_ok (v_s1 L size edge sold q) := by
  obtain ⟨a, b, c, d, e⟩ := h
  have hx : 0 ≤ q.2.2.2.2 % 10 ∧ q.2.2.2.2 % 10 ≤ 9 := by omega
  have hm : 0 ≤ (if sold = 0 then v_mf L q.1 q.2.1 size q.2.2.1 q.2.2.2.1 edge else q.2.2.2.1) ∧ (if sold = 0 then v_mf L q.1 q.2.1 size q.2.2.1 q.2.2.2.1 edge else q.2.2.2.1) ≤ 100 := by
    split
    · exact v_mf_b d
    · exact d
  refine ⟨?_, hx, ?_, hm, ?_⟩
  · show 0 ≤ q.1 + 1 ∧ q.1 + 1 ≤ 999; omega
  · show 0 ≤ (if sold = 0 then v_sf L (q.1 + 1) (q.2.2.2.2 % 10) size q.2.2.1 _ edge else q.2.2.1) ∧ (if sold = 0 then v_sf L (q.1 + 1) (q.2.2.2.2 % 10) size q.2.2.1 _ edge else q.2.2.1) ≤ 9
    split
    · exact v_sf_b c
    · exact c
  · show 0 ≤ (q.2.2.2.2 * 281 + 179) % 30293 ∧ (q.2.2.2.2 * 281 + 179) % 30293 < 30293; omega
theorem v_ok.rn : ∀ (n : Nat) (q : v_T5), v_ok q → v_ok (v_rn L size edge sold n q) := by
  intro n
  induction n with
  | zero => intro q h; exact h
  | succ n ih =>
    intro q h
    simp only [v_rn]
    split
    · next h9 => exact ih _ (h.s1 h9)
    · exact h
def v_R1 (t : Nat → Option p_C) (s s' : d_S) (q : v_T5) (size edge sold : Int) : Prop := v_K s' q sold ∧ (∀ a, a ≠ 47 → a ≠ 49 → a ≠ 50 → s'.1 a = s.1 a) ∧ s'.2 = s.2 ∧ v_tb s' size edge ∧ s'.1 47 4 = s.1 47 4
theorem P_behind {x : Int} (h : 0 ≤ x ∧ x < 30293) : F_X10_behind x = some ((x * 281 + 179) % 30293) := by
  unfold F_X10_behind
  rw [v_remI (by omega) (by omega) (by decide) (by decide)]
theorem P_run48 {K : Int → Int → d_S → Option d_S} {days past : Int} (hT : v_CT t (s.2.1 47 3) L) (hK : v_K s q sold) (hb : v_tb s size edge) (h9 : q.1 < 999) : ∃ s', F_X0_run_j48 t K days past s = K days (d_w (past + 1)) s' ∧ v_R1 t s s' (q.1 + 1, q.2.2.2.2 % 10, (if sold = 0 then v_sf L (q.1 + 1) (q.2.2.2.2 % 10) size q.2.2.1 q.2.2.2.1 edge else q.2.2.1), q.2.2.2.1, (q.2.2.2.2 * 281 + 179) % 30293) size edge sold := by
  obtain ⟨⟨k6, k7, k8, k9, k5, k10⟩, ⟨a, b, c, d, f⟩, hs⟩ := hK
  obtain ⟨s1, hs1⟩ : ∃ z, z = d_si (d_si (d_si s 47 6 (q.1 + 1)) 47 7 (q.2.2.2.2 % 10)) 47 5 ((q.2.2.2.2 * 281 + 179) % 30293) := ⟨_, rfl⟩
  have e47 : s1.1 47 = d_u (d_u (d_u (s.1 47) 6 (q.1 + 1)) 7 (q.2.2.2.2 % 10)) 5 ((q.2.2.2.2 * 281 + 179) % 30293) := by rw [hs1, d_si_i, d_si_i, d_si_i]
  have eo : ∀ x, x ≠ 47 → s1.1 x = s.1 x := fun x hx => by rw [hs1, d_si_n hx, d_si_n hx, d_si_n hx]
  have e2 : s1.2 = s.2 := by rw [hs1]; rfl
  have x6 : s1.1 47 6 = q.1 + 1 := by rw [e47]; rfl
  have x7 : s1.1 47 7 = q.2.2.2.2 % 10 := by rw [e47]; rfl
  have x5 : s1.1 47 5 = (q.2.2.2.2 * 281 + 179) % 30293 := by rw [e47]; rfl
  have x8 : s1.1 47 8 = q.2.2.1 := by rw [e47]; exact k8
  have x9 : s1.1 47 9 = q.2.2.2.1 := by rw [e47]; exact k9
  have x10 : s1.1 47 10 = sold := by rw [e47]; exact k10
  have x4 : s1.1 47 4 = s.1 47 4 := by rw [e47]; rfl
  have hgo : F_X0_run_j48 t K days past s = (if s1.1 47 10 = 0 then d_b2 (F_X0_strawFrom t s1 (s1.1 47 6) (s1.1 47 7) (s1.1 47 8) (s1.1 47 9)) (fun v8 s9 => d_l (d_si s9 47 8 v8) (fun s10 => K days (d_w (past + 1)) s10)) else K days (d_w (past + 1)) s1) := by
    unfold F_X0_run_j48
    simp only [d_l_t]
    rw [k6, d_w_id (by omega) (by omega)]
    have z1 : (d_si s 47 6 (q.1 + 1)).1 47 5 = q.2.2.2.2 := by rw [d_si_i, d_u_n (by decide)]; exact k5
    rw [z1, v_remI (by omega) (by omega) (by decide) (by decide)]
    have z2 : (d_si (d_si s 47 6 (q.1 + 1)) 47 7 (q.2.2.2.2 % 10)).1 47 5 = q.2.2.2.2 := by rw [d_si_i, d_u_n (by decide)]; exact z1
    rw [z2, P_behind f, d_b_t, hs1]
  rw [hgo, x10]
  have hq1 : 0 ≤ q.1 + 1 ∧ q.1 + 1 ≤ 999 := by omega
  have hq2 : 0 ≤ q.2.2.2.2 % 10 ∧ q.2.2.2.2 % 10 ≤ 9 := by omega
  have hq5 : 0 ≤ (q.2.2.2.2 * 281 + 179) % 30293 ∧ (q.2.2.2.2 * 281 + 179) % 30293 < 30293 := by omega
  have hb1 : v_tb s1 size edge := by unfold v_tb; rw [eo 49 (by decide)]; exact hb
  by_cases z : sold = 0
  · rw [if_pos z, if_pos z, x6, x7, x8, x9]
    obtain ⟨s2, g1, g2, g3, g4⟩ := P_strawFrom (day := q.1 + 1) (heat := q.2.2.2.2 % 10) (straw := q.2.2.1) (melted := q.2.2.2.1) (show v_CT t (s1.2.1 47 3) L by rw [e2]; exact hT) hb1 (by omega) (by omega) (by omega) (by omega)
    have hsf := v_sf_b (L := L) (size := size) (edge := edge) (day := q.1 + 1) (heat := q.2.2.2.2 % 10) (melted := q.2.2.2.1) c
    rw [g1, d_b2_t, d_l_t]
    have y47 : ∀ k, k ≠ 8 → (d_si s2 47 8 (v_sf L (q.1 + 1) (q.2.2.2.2 % 10) size q.2.2.1 q.2.2.2.1 edge)).1 47 k = s1.1 47 k := fun k hk => by rw [d_si_i, d_u_n hk, g2 47 (by decide) (by decide)]
    refine ⟨_, rfl, ⟨⟨by rw [y47 6 (by decide)]; exact x6, by rw [y47 7 (by decide)]; exact x7, by rw [d_si_i, d_u_t], by rw [y47 9 (by decide)]; exact x9, by rw [y47 5 (by decide)]; exact x5, by rw [y47 10 (by decide)]; exact x10⟩, ⟨hq1, hq2, hsf, d, hq5⟩, hs⟩, fun x h1 h2 h3 => by rw [d_si_n h1, g2 x h2 h3, eo x h1], g3.trans e2, g4, by rw [y47 4 (by decide)]; exact x4⟩
  · rw [if_neg z, if_neg z]
    exact ⟨s1, rfl, ⟨⟨x6, x7, x8, x9, x5, x10⟩, ⟨hq1, hq2, c, d, hq5⟩, hs⟩, fun x h1 h2 h3 => eo x h1, e2, hb1, x4⟩
theorem v_runl {N : Nat} (hN : N ≤ 100) : ∀ (j k m : Nat), k + j = N → j < m → ∀ (s : d_S) (q : v_T5), v_CT t (s.2.1 47 3) L → v_K s q sold → v_tb s size edge → ∃ s', F_X0_run_l2 t m (N : Int) (k : Int) s = some s' ∧ v_R1 t s s' (v_rn L size edge sold j q) size edge sold := by
  intro j
  induction j with
  | zero =>
    intro k m hk hm s q hT hK hb
    obtain ⟨m, rfl⟩ : ∃ q, m = q + 1 := ⟨m - 1, by omega⟩
    refine ⟨s, ?_, hK, fun _ _ _ _ => rfl, rfl, hb, rfl⟩
    show F_X0_run_l2_b t (F_X0_run_l2 t m) _ _ s = _
    unfold F_X0_run_l2_b
    rw [if_neg (by omega)]
  | succ j ih =>
    intro k m hk hm s q hT hK hb
    obtain ⟨m, rfl⟩ : ∃ q, m = q + 1 := ⟨m - 1, by omega⟩
    have hK' := hK
    obtain ⟨⟨k6, k7, k8, k9, k5, k10⟩, ⟨a, b, c, d, f⟩, hs⟩ := hK'
    show ∃ s', F_X0_run_l2_b t (F_X0_run_l2 t m) _ _ s = _ ∧ _
    unfold F_X0_run_l2_b
    rw [if_pos (by omega), k6]
    simp only [v_rn]
    by_cases h9 : q.1 < 999
    · rw [if_pos h9, if_pos h9, k10]
      have hend : ∀ s1 : d_S, v_CT t (s1.2.1 47 3) L → v_K s1 (q.1, q.2.1, q.2.2.1, (if sold = 0 then v_mf L q.1 q.2.1 size q.2.2.1 q.2.2.2.1 edge else q.2.2.2.1), q.2.2.2.2) sold → v_tb s1 size edge → (∀ a, a ≠ 47 → a ≠ 49 → a ≠ 50 → s1.1 a = s.1 a) → s1.2 = s.2 → s1.1 47 4 = s.1 47 4 → ∃ s', F_X0_run_j48 t (F_X0_run_l2 t m) (N : Int) (k : Int) s1 = some s' ∧ v_R1 t s s' (v_rn L size edge sold j (v_s1 L size edge sold q)) size edge sold := by
        intro s1 hT1 hK1 hb1 ho h2 h4
        obtain ⟨s2, g1, g2⟩ := P_run48 (K := F_X0_run_l2 t m) (days := (N : Int)) (past := (k : Int)) hT1 hK1 hb1 h9
        obtain ⟨s3, r1, r2, r3, r4, r5, r6⟩ := ih (k + 1) m (by omega) (by omega) s2 (v_s1 L size edge sold q) (by rw [g2.2.2.1]; exact hT1) g2.1 g2.2.2.2.1
        refine ⟨s3, ?_, r2, fun a h1 h2 h3 => (r3 a h1 h2 h3).trans ((g2.2.1 a h1 h2 h3).trans (ho a h1 h2 h3)), r4.trans (g2.2.2.1.trans h2), r5, r6.trans (g2.2.2.2.2.trans h4)⟩
        rw [g1, d_w_id (by omega) (by omega)]
        exact r1
      by_cases z : sold = 0
      · rw [if_pos z, k7, k8, k9]
        obtain ⟨s1, g1, g2, g3, g4⟩ := P_meltedFrom (day := q.1) (heat := q.2.1) (straw := q.2.2.1) (melted := q.2.2.2.1) hT hb (by omega) (by omega) (by omega) (by omega)
        have hmf := v_mf_b (L := L) (size := size) (edge := edge) (day := q.1) (heat := q.2.1) (straw := q.2.2.1) d
        rw [g1, d_b2_t, d_l_t]
        have y47 : ∀ k, k ≠ 9 → (d_si s1 47 9 (v_mf L q.1 q.2.1 size q.2.2.1 q.2.2.2.1 edge)).1 47 k = s.1 47 k := fun k hk => by rw [d_si_i, d_u_n hk, g2 47 (by decide) (by decide)]
        refine hend _ (show v_CT t (s1.2.1 47 3) L by rw [g3]; exact hT) ⟨⟨by rw [y47 6 (by decide)]; exact k6, by rw [y47 7 (by decide)]; exact k7, by rw [y47 8 (by decide)]; exact k8, by rw [d_si_i, d_u_t, if_pos z], by rw [y47 5 (by decide)]; exact k5, by rw [y47 10 (by decide)]; exact k10⟩, ⟨a, b, c, by rw [if_pos z]; exact hmf, f⟩, hs⟩ g4 (fun a h1 h2 h3 => by rw [d_si_n h1]; exact g2 a h2 h3) g3 (y47 4 (by decide))
      · rw [if_neg z]
        exact hend s hT ⟨⟨k6, k7, k8, by rw [if_neg z]; exact k9, k5, k10⟩, ⟨a, b, c, by rw [if_neg z]; exact d, f⟩, hs⟩ hb (fun _ _ _ _ => rfl) rfl rfl
    · rw [if_neg h9, if_neg h9]
      exact ⟨s, rfl, hK, fun _ _ _ _ => rfl, rfl, hb, rfl⟩
theorem P_run {n : Nat} (hn : n ≤ 100) (hT : v_CT t (s.2.1 47 3) L) (hK : v_K s q sold) (hb : v_tb s size edge) : ∃ s', F_X0_run t s (n : Int) = some s' ∧ v_R1 t s s' (v_rn L size edge sold n q) size edge sold :=
  v_runl hn n 0 d_N (Nat.zero_add n) (by rw [d_N_is]; omega) s q hT hK hb
end V8

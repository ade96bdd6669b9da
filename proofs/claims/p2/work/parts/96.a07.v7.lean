abbrev v_V6 : Type := Int → Int → Int → Int → Int → Int → Int
abbrev v_V8 : Type := Int → Int → Int → Int → Int → Int → Int → Int → Int
abbrev v_LR : Type := Option v_V6 × Option v_V8 × Option v_V6
def v_mel (L : v_LR) (day heat size straw melted edge : Int) : Int := max 0 (min 100 (match L.1 with
  | none => heat + edge - straw
  | some V => V day heat size straw melted edge))
def v_rot (L : v_LR) (day heat size straw melted edge : Int) : Int := match L.2.2 with
  | none => 0
  | some V => max 0 (min 9 (V day heat size straw melted edge))
def v_sel (L : v_LR) (day heat size straw melted edge sights kinds : Int) : Int := max 0 (min 9999 (match L.2.1 with
  | none => size * (100 - melted) / 10
  | some V => V day heat size straw melted edge sights kinds))
def v_Nm (f : Nat → Int) : Prop := ∀ k, k < 8 → 0 ≤ f k ∧ f k ≤ 2000
def v_fx (L : List Nat) (s s' : d_S) : Prop := (∀ a, a ∉ L → s'.1 a = s.1 a) ∧ ∀ a, a ≠ 47 → s'.2.1 a = s.2.1 a
theorem v_fx.trans {L : List Nat} {a b c : d_S} (h1 : v_fx L a b) (h2 : v_fx L b c) : v_fx L a c := ⟨fun x hx => (h2.1 x hx).trans (h1.1 x hx), fun x hx => (h2.2 x hx).trans (h1.2 x hx)⟩
theorem v_fx.rfl {L : List Nat} {a : d_S} : v_fx L a a := ⟨fun _ _ => Eq.refl _, fun _ _ => Eq.refl _⟩
theorem v_fx.mono {L M : List Nat} {a b : d_S} (h : v_fx L a b) (hm : ∀ x, x ∈ L → x ∈ M) : v_fx M a b := ⟨fun x hx => h.1 x (fun z => hx (hm x z)), h.2⟩
theorem v_fx.si {L : List Nat} {s : d_S} {a k : Nat} {v : Int} (h : a ∈ L) : v_fx L s (d_si s a k v) := ⟨fun x hx => d_si_n (fun z => hx (z ▸ h)), fun _ _ => Eq.refl _⟩
theorem v_fx.sp {L : List Nat} {s : d_S} {k : Nat} {e : Option Nat} : v_fx L s (d_sp s 47 k e) := ⟨fun _ _ => Eq.refl _, fun _ ha => d_u_n ha⟩
theorem v_fr.x {L : List Nat} {a b : d_S} (h : v_fr L a b) : v_fx L a b := ⟨h.1, fun _ _ => by rw [h.2]⟩
def v_tle (t t' : Nat → Option p_C) : Prop := ∀ i c, t i = some c → t' i = some c
def v_cd (t : Nat → Option p_C) (a : Nat) (V : (Nat → Int) → Int) : Prop := ∀ t', v_tle t t' → ∀ s : d_S, v_Nm (s.1 49) → ∃ s', F_X1_reckon t' s (some a) = some (V (s.1 49), s') ∧ v_fr [50] s s' ∧ d_R (V (s.1 49))
def v_CT (t : Nat → Option p_C) (e : Option Nat) (L : v_LR) : Prop := match e with
  | none => L = (none, none, none)
  | some b => ((d_tfq t b 0 = some none ∧ L.1 = none) ∨ ∃ a V, d_tfq t b 0 = some (some a) ∧ L.1 = some V ∧ v_cd t a (fun f => V (f 1) (f 2) (f 3) (f 0) (f 4) (f 5))) ∧
    ((d_tfq t b 1 = some none ∧ L.2.1 = none) ∨ ∃ a V, d_tfq t b 1 = some (some a) ∧ L.2.1 = some V ∧ v_cd t a (fun f => V (f 1) (f 2) (f 3) (f 0) (f 4) (f 5) (f 6) (f 7))) ∧
    ((d_tfq t b 2 = some none ∧ L.2.2 = none) ∨ ∃ a V, d_tfq t b 2 = some (some a) ∧ L.2.2 = some V ∧ v_cd t a (fun f => V (f 1) (f 2) (f 3) (f 0) (f 4) (f 5)))
theorem P_minL {x y : Int} : F_J9_min_f86c9 x y = some (min x y) := by
  unfold F_J9_min_f86c9
  split <;> congr 1 <;> omega
theorem P_maxL {x y : Int} : F_J9_max_f86c9 x y = some (max x y) := by
  unfold F_J9_max_f86c9
  split <;> congr 1 <;> omega
section V7
variable {t : Nat → Option p_C} {s : d_S} {e : Option Nat} {L : v_LR} {day heat size straw melted edge : Int}
theorem P_tellDay {a b c d : Int} : F_X1_tellDay s a b c d = some (d_si (d_si (d_si (d_si s 49 1 a) 49 2 b) 49 0 c) 49 4 d) := rfl
theorem v_told {a b c d : Int} : (d_si (d_si (d_si (d_si s 49 1 a) 49 2 b) 49 0 c) 49 4 d).1 49 = d_u (d_u (d_u (d_u (s.1 49) 1 a) 2 b) 0 c) 4 d := by
  rw [d_si_i, d_si_i, d_si_i, d_si_i]
theorem v_Nm.u {f : Nat → Int} (h : v_Nm f) {k : Nat} {x : Int} (h0 : 0 ≤ x) (h1 : x ≤ 2000) : v_Nm (d_u f k x) := by
  intro j hj
  by_cases q : j = k
  · subst q; rw [d_u_t]; exact ⟨h0, h1⟩
  · rw [d_u_n q]; exact h j hj
theorem P_melts (hT : v_CT t e L) (hN : v_Nm (s.1 49)) : ∃ s', F_X1_melts t s e = some (v_mel L (s.1 49 1) (s.1 49 2) (s.1 49 3) (s.1 49 0) (s.1 49 4) (s.1 49 5), s') ∧ v_fr [50] s s' := by
  have n0 := hN 0 (by decide)
  have n2 := hN 2 (by decide)
  have n5 := hN 5 (by decide)
  have hdef : L.1 = none → F_X1_melts_j15 t e s = some (v_mel L (s.1 49 1) (s.1 49 2) (s.1 49 3) (s.1 49 0) (s.1 49 4) (s.1 49 5), s) := by
    intro h
    unfold F_X1_melts_j15 F_X1_melts_j52 v_mel
    rw [P_min, d_b_t, P_max, d_b_t, h, d_w_id (by omega) (by omega)]
  cases e with
  | none =>
    have hL : L = (none, none, none) := hT
    exact ⟨s, hdef (by rw [hL]), v_fr.rfl⟩
  | some b =>
    obtain ⟨h0, -, -⟩ := hT
    rcases h0 with ⟨h1, h2⟩ | ⟨a, V, h1, h2, h3⟩
    · refine ⟨s, ?_, v_fr.rfl⟩
      unfold F_X1_melts
      show d_b (some b) _ = _
      rw [d_b_t, h1, d_b_t]
      exact hdef h2
    · obtain ⟨s', g1, g2, g3⟩ := h3 t (fun _ _ q => q) s hN
      refine ⟨s', ?_, g2⟩
      unfold F_X1_melts
      show d_b (some b) _ = _
      rw [d_b_t, h1, d_b_t]
      show d_b (some b) _ = _
      rw [d_b_t, h1, d_b_t, g1, d_b2_t]
      unfold F_X1_melts_j52 v_mel
      rw [P_min, d_b_t, P_max, d_b_t, h2]
theorem P_rots (hT : v_CT t e L) (hN : v_Nm (s.1 49)) : ∃ s', F_X1_rots t s e = some (v_rot L (s.1 49 1) (s.1 49 2) (s.1 49 3) (s.1 49 0) (s.1 49 4) (s.1 49 5), s') ∧ v_fr [50] s s' := by
  have hdef : L.2.2 = none → F_X1_rots_j15 t e s = some (v_rot L (s.1 49 1) (s.1 49 2) (s.1 49 3) (s.1 49 0) (s.1 49 4) (s.1 49 5), s) := by
    intro h
    unfold F_X1_rots_j15 v_rot
    rw [h]
  cases e with
  | none =>
    have hL : L = (none, none, none) := hT
    exact ⟨s, hdef (by rw [hL]), v_fr.rfl⟩
  | some b =>
    obtain ⟨-, -, h0⟩ := hT
    rcases h0 with ⟨h1, h2⟩ | ⟨a, V, h1, h2, h3⟩
    · refine ⟨s, ?_, v_fr.rfl⟩
      unfold F_X1_rots
      show d_b (some b) _ = _
      rw [d_b_t, h1, d_b_t]
      exact hdef h2
    · obtain ⟨s', g1, g2, g3⟩ := h3 t (fun _ _ q => q) s hN
      refine ⟨s', ?_, g2⟩
      unfold F_X1_rots
      show d_b (some b) _ = _
      rw [d_b_t, h1, d_b_t]
      show d_b (some b) _ = _
      rw [d_b_t, h1, d_b_t, g1, d_b2_t, P_min, d_b_t, P_max, d_b_t]
      unfold v_rot
      rw [h2]
theorem P_sells (hT : v_CT t e L) (hN : v_Nm (s.1 49)) (h3 : s.1 49 3 ≤ 64) (h4 : s.1 49 4 ≤ 100) : ∃ s', F_X1_sells t s e = some (v_sel L (s.1 49 1) (s.1 49 2) (s.1 49 3) (s.1 49 0) (s.1 49 4) (s.1 49 5) (s.1 49 6) (s.1 49 7), s') ∧ v_fr [50] s s' := by
  have n3 := hN 3 (by decide)
  have n4 := hN 4 (by decide)
  have hdef : L.2.1 = none → F_X1_sells_j15 t e s = some (v_sel L (s.1 49 1) (s.1 49 2) (s.1 49 3) (s.1 49 0) (s.1 49 4) (s.1 49 5) (s.1 49 6) (s.1 49 7), s) := by
    intro h
    unfold F_X1_sells_j15 F_X1_sells_j51 v_sel
    obtain ⟨a, ha⟩ : ∃ a : Nat, s.1 49 3 = a := ⟨(s.1 49 3).toNat, by omega⟩
    obtain ⟨c, hc⟩ : ∃ c : Nat, 100 - s.1 49 4 = c := ⟨(100 - s.1 49 4).toNat, by omega⟩
    have hle : a * c ≤ 64 * 100 := Nat.mul_le_mul (by omega) (by omega)
    have hd : d_div (s.1 49 3 * (100 - s.1 49 4)) 10 = s.1 49 3 * (100 - s.1 49 4) / 10 := by
      rw [ha, hc, ← Int.natCast_mul]
      exact v_div (a := a * c) (b := 10) (by omega) (by decide)
    rw [hd, P_min, d_b_t, P_max, d_b_t, h]
  cases e with
  | none =>
    have hL : L = (none, none, none) := hT
    exact ⟨s, hdef (by rw [hL]), v_fr.rfl⟩
  | some b =>
    obtain ⟨-, h0, -⟩ := hT
    rcases h0 with ⟨h1, h2⟩ | ⟨a, V, h1, h2, h3⟩
    · refine ⟨s, ?_, v_fr.rfl⟩
      unfold F_X1_sells
      show d_b (some b) _ = _
      rw [d_b_t, h1, d_b_t]
      exact hdef h2
    · obtain ⟨s', g1, g2, g3⟩ := h3 t (fun _ _ q => q) s hN
      refine ⟨s', ?_, g2⟩
      unfold F_X1_sells
      show d_b (some b) _ = _
      rw [d_b_t, h1, d_b_t]
      show d_b (some b) _ = _
      rw [d_b_t, h1, d_b_t, g1, d_b2_t]
      unfold F_X1_sells_j51 v_sel
      rw [P_min, d_b_t, P_max, d_b_t, h2]
theorem v_mel_b : 0 ≤ v_mel L day heat size straw melted edge ∧ v_mel L day heat size straw melted edge ≤ 100 := by unfold v_mel; omega
theorem v_rot_b : 0 ≤ v_rot L day heat size straw melted edge ∧ v_rot L day heat size straw melted edge ≤ 9 := by
  unfold v_rot
  split <;> omega
theorem v_sel_b {x y : Int} : 0 ≤ v_sel L day heat size straw melted edge x y ∧ v_sel L day heat size straw melted edge x y ≤ 9999 := by unfold v_sel; omega
def v_mf (L : v_LR) (day heat size straw melted edge : Int) : Int := if melted < 100 then min 100 (melted + v_mel L day heat size straw melted edge) else 100
def v_sf (L : v_LR) (day heat size straw melted edge : Int) : Int := if 0 < straw then max 0 (straw - v_rot L day heat size straw melted edge) else 0
def v_tb (s : d_S) (size edge : Int) : Prop := s.1 49 3 = size ∧ s.1 49 5 = edge ∧ v_Nm (s.1 49)
theorem P_meltedFrom (hT : v_CT t (s.2.1 47 3) L) (hb : v_tb s size edge) (d0 : 0 ≤ day ∧ day ≤ 2000) (d1 : 0 ≤ heat ∧ heat ≤ 2000) (d2 : 0 ≤ straw ∧ straw ≤ 2000) (d3 : 0 ≤ melted ∧ melted ≤ 2000) : ∃ s', F_X0_meltedFrom t s day heat straw melted = some (v_mf L day heat size straw melted edge, s') ∧ (∀ a, a ≠ 49 → a ≠ 50 → s'.1 a = s.1 a) ∧ s'.2 = s.2 ∧ v_tb s' size edge := by
  unfold F_X0_meltedFrom v_mf
  by_cases q : melted < 100
  · rw [if_pos q, if_pos q, P_tellDay, d_b_t]
    obtain ⟨s1, hs1⟩ : ∃ z, z = d_si (d_si (d_si (d_si s 49 1 day) 49 2 heat) 49 0 straw) 49 4 melted := ⟨_, rfl⟩
    have e49 : s1.1 49 = d_u (d_u (d_u (d_u (s.1 49) 1 day) 2 heat) 0 straw) 4 melted := by rw [hs1]; exact v_told
    have e2 : s1.2 = s.2 := by rw [hs1]; rfl
    have eo : ∀ a, a ≠ 49 → s1.1 a = s.1 a := fun a ha => by rw [hs1, d_si_n ha, d_si_n ha, d_si_n ha, d_si_n ha]
    have hN : v_Nm (s1.1 49) := by rw [e49]; exact (((hb.2.2.u d0.1 d0.2).u d1.1 d1.2).u d2.1 d2.2).u d3.1 d3.2
    rw [← hs1]
    obtain ⟨s', g1, g2⟩ := P_melts (s := s1) hT hN
    have x1 : s1.1 49 1 = day := by rw [e49]; rfl
    have x2 : s1.1 49 2 = heat := by rw [e49]; rfl
    have x0 : s1.1 49 0 = straw := by rw [e49]; rfl
    have x4 : s1.1 49 4 = melted := by rw [e49]; rfl
    have x3 : s1.1 49 3 = size := by rw [e49]; exact hb.1
    have x5 : s1.1 49 5 = edge := by rw [e49]; exact hb.2.1
    rw [x0, x1, x2, x3, x4, x5] at g1
    have hm := v_mel_b (L := L) (day := day) (heat := heat) (size := size) (straw := straw) (melted := melted) (edge := edge)
    refine ⟨s', ?_, fun a h49 h50 => (g2.1 a (by simpa using h50)).trans (eo a h49), g2.2.trans e2, ?_, ?_, ?_⟩
    · rw [e2, g1, d_b2_t, P_min, d_b_t, d_w_id (by omega) (by omega)]
    · rw [g2.1 49 (by decide)]; exact x3
    · rw [g2.1 49 (by decide)]; exact x5
    · rw [g2.1 49 (by decide)]; exact hN
  · rw [if_neg q, if_neg q]
    exact ⟨s, rfl, fun _ _ _ => rfl, rfl, hb⟩
theorem P_strawFrom (hT : v_CT t (s.2.1 47 3) L) (hb : v_tb s size edge) (d0 : 0 ≤ day ∧ day ≤ 2000) (d1 : 0 ≤ heat ∧ heat ≤ 2000) (d2 : 0 ≤ straw ∧ straw ≤ 2000) (d3 : 0 ≤ melted ∧ melted ≤ 2000) : ∃ s', F_X0_strawFrom t s day heat straw melted = some (v_sf L day heat size straw melted edge, s') ∧ (∀ a, a ≠ 49 → a ≠ 50 → s'.1 a = s.1 a) ∧ s'.2 = s.2 ∧ v_tb s' size edge := by
  unfold F_X0_strawFrom v_sf
  by_cases q : 0 < straw
  · rw [if_pos q, if_pos q, P_tellDay, d_b_t]
    obtain ⟨s1, hs1⟩ : ∃ z, z = d_si (d_si (d_si (d_si s 49 1 day) 49 2 heat) 49 0 straw) 49 4 melted := ⟨_, rfl⟩
    have e49 : s1.1 49 = d_u (d_u (d_u (d_u (s.1 49) 1 day) 2 heat) 0 straw) 4 melted := by rw [hs1]; exact v_told
    have e2 : s1.2 = s.2 := by rw [hs1]; rfl
    have eo : ∀ a, a ≠ 49 → s1.1 a = s.1 a := fun a ha => by rw [hs1, d_si_n ha, d_si_n ha, d_si_n ha, d_si_n ha]
    have hN : v_Nm (s1.1 49) := by rw [e49]; exact (((hb.2.2.u d0.1 d0.2).u d1.1 d1.2).u d2.1 d2.2).u d3.1 d3.2
    rw [← hs1]
    obtain ⟨s', g1, g2⟩ := P_rots (s := s1) hT hN
    have x1 : s1.1 49 1 = day := by rw [e49]; rfl
    have x2 : s1.1 49 2 = heat := by rw [e49]; rfl
    have x0 : s1.1 49 0 = straw := by rw [e49]; rfl
    have x4 : s1.1 49 4 = melted := by rw [e49]; rfl
    have x3 : s1.1 49 3 = size := by rw [e49]; exact hb.1
    have x5 : s1.1 49 5 = edge := by rw [e49]; exact hb.2.1
    rw [x0, x1, x2, x3, x4, x5] at g1
    have hm := v_rot_b (L := L) (day := day) (heat := heat) (size := size) (straw := straw) (melted := melted) (edge := edge)
    refine ⟨s', ?_, fun a h49 h50 => (g2.1 a (by simpa using h50)).trans (eo a h49), g2.2.trans e2, ?_, ?_, ?_⟩
    · rw [e2, g1, d_b2_t, P_max, d_b_t, d_w_id (by omega) (by omega)]
    · rw [g2.1 49 (by decide)]; exact x3
    · rw [g2.1 49 (by decide)]; exact x5
    · rw [g2.1 49 (by decide)]; exact hN
  · rw [if_neg q, if_neg q]
    exact ⟨s, rfl, fun _ _ _ => rfl, rfl, hb⟩
end V7

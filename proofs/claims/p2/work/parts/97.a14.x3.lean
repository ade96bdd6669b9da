noncomputable def k_F (t : Nat → Option p_C) : Nat → d_G
  | 0 => (fun _ _ => none, fun _ _ => none, fun _ _ => none, fun _ _ => none)
  | m + 1 => (F_X3_readSum (k_F t m) t, F_X3_readProduct (k_F t m) t, F_X3_readOne (k_F t m) t, F_X3_readChoice (k_F t m) t)
theorem k_F_ok {t : Nat → Option p_C} : ∀ m : Nat, d_Gok t (m + 2) (k_F t m) := by
  intro m
  induction m with
  | zero => exact ⟨fun {_ _ _ r} h => (nomatch (show (none : Option (Int × d_S)) = some r from h)), fun {_ _ _ r} h => (nomatch (show (none : Option (Int × d_S)) = some r from h)), fun {_ _ _ r} h => (nomatch (show (none : Option (Int × d_S)) = some r from h)), fun {_ _ _ r} h => (nomatch (show (none : Option (Int × d_S)) = some r from h))⟩
  | succ m ih => exact ⟨fun h hH hx => D_X3_readSum ih (by omega) h hH hx, fun h hH hx => D_X3_readProduct ih (by omega) h hH hx, fun h hH hx => D_X3_readOne ih (by omega) h hH hx, fun h hH hx => D_X3_readChoice ih (by omega) h hH hx⟩
def k_Lw : List Nat := [4, 5, 6, 7, 15, 17]
def k_Le : List Nat := [2, 3, 4, 5, 6, 7, 15, 17]
def k_R (e : Nat) (b : Nat → Nat) (n p u so : Nat) (V : Nat → (Nat → Nat × Nat) → Prop) (r : Nat × Nat) (s s' : d_S) : Prop := (r.1 = 0 → ∃ (u2 : Nat) (C2 : Nat → Nat × Nat), u2 + 2 * p ≤ u + 2 * r.2 ∧ k_S b n r.2 u2 C2 so false s' ∧ V u2 C2 ∧ k_h k_Lw s s' ∧ p + e ≤ r.2 ∧ r.2 ≤ n) ∧ (r.1 ≠ 0 → s'.1 43 2 = (r.1 : Int) ∧ s'.1 43 3 = (r.2 : Int) ∧ k_h k_Le s s')
def k_B0 (t : Nat → Option p_C) (b : Nat → Nat) (n so f : Nat) : Prop := ∀ (m d k p u : Nat) (sv : Bool) (C : Nat → Nat × Nat) (s : d_S) (r : Nat × Nat), t_P b n (Nat.beq so 1) f 0 d k p = r → 4 * (n - p) + 1 ≤ f → p ≤ n → d ≤ 8 → sv = Nat.beq k 7 → u + 2 ≤ 2 * p → 4 * (8 - d) + 1 ≤ m → k_S b n p u C so sv s → ∃ s', (k_F t m).2.2.1 s (d : Int) = some (v_b (r.1 = 0), s') ∧ k_R 1 b n p u so (c_V b n so f 0 d k p (c_D d) u C) r s s'
def k_B1 (t : Nat → Option p_C) (b : Nat → Nat) (n so f : Nat) : Prop := ∀ (m d k p u : Nat) (sv : Bool) (C : Nat → Nat × Nat) (s : d_S) (r : Nat × Nat), t_P b n (Nat.beq so 1) f 1 d k p = r → 4 * (n - p) + 2 ≤ f → p ≤ n → d ≤ 8 → sv = Nat.beq k 7 → u + 2 ≤ 2 * p → 4 * (8 - d) + 2 ≤ m → k_S b n p u C so sv s → ∃ s', (k_F t m).2.1 s (d : Int) = some (v_b (r.1 = 0), s') ∧ k_R 1 b n p u so (c_V b n so f 1 d k p (c_D d + 1) u C) r s s'
def k_B2 (t : Nat → Option p_C) (b : Nat → Nat) (n so f : Nat) : Prop := ∀ (m d k p u : Nat) (sv : Bool) (C : Nat → Nat × Nat) (s : d_S) (r : Nat × Nat), t_P b n (Nat.beq so 1) f 2 d k p = r → 4 * (n - p) + 3 ≤ f → p ≤ n → d ≤ 8 → sv = Nat.beq k 7 → u + 2 ≤ 2 * p → 4 * (8 - d) + 3 ≤ m → k_S b n p u C so sv s → ∃ s', (k_F t m).1 s (d : Int) = some (v_b (r.1 = 0), s') ∧ k_R 1 b n p u so (c_V b n so f 2 d k p (c_D d + 2) u C) r s s'
def k_B4 (t : Nat → Option p_C) (b : Nat → Nat) (n so f : Nat) : Prop := ∀ (m d p u i N : Nat) (C : Nat → Nat × Nat) (s : d_S) (r : Nat × Nat), t_P b n (Nat.beq so 1) f 4 d 0 p = r → 4 * (n - p) + 1 ≤ f → p ≤ n → d ≤ 8 → i ≤ p → u + 2 ≤ 2 * p → 4 * (8 - d) + 1 ≤ m → n - p + 1 < N → k_S b n p u C so false s → ∃ s', F_X3_readProduct_l8 (k_F t m) t N (d : Int) 1 (i : Int) s = some (v_b (r.1 = 0), s') ∧ k_R 0 b n p u so (c_VL b n so f 4 d p (c_D d) u C) r s s'
def k_B5 (t : Nat → Option p_C) (b : Nat → Nat) (n so f : Nat) : Prop := ∀ (m d p u i N : Nat) (C : Nat → Nat × Nat) (s : d_S) (r : Nat × Nat), t_P b n (Nat.beq so 1) f 5 d 0 p = r → 4 * (n - p) + 1 ≤ f → p ≤ n → d ≤ 8 → i ≤ p → u + 2 ≤ 2 * p → 4 * (8 - d) + 2 ≤ m → n - p + 1 < N → k_S b n p u C so false s → ∃ s', F_X3_readSum_l8 (k_F t m) t N (d : Int) 1 (i : Int) s = some (v_b (r.1 = 0), s') ∧ k_R 0 b n p u so (c_VL b n so f 5 d p (c_D d + 1) u C) r s s'
noncomputable def k_Ke (t : Nat → Option p_C) : Int → d_S → Option (Int × d_S) := fun x2 s => d_b (F_X3_closeJumps s x2) (fun s28 => d_b2 (F_X3_takeSign t s28 41) (fun v29 s30 => some (v29, s30)))
def k_B6 (t : Nat → Option p_C) (b : Nat → Nat) (n so f : Nat) : Prop := ∀ (m d k p u o N : Nat) (C : Nat → Nat × Nat) (L : List Nat) (s : d_S) (r : Nat × Nat), t_P b n (Nat.beq so 1) f 6 d k p = r → 4 * (n - p) + 4 ≤ f → p ≤ n → 1 ≤ d → d ≤ 8 → 1 ≤ k → k ≤ 7 → u + 3 ≤ 2 * p → c_ch C u o L → L.length + 1 = k → 4 * (8 - d) + 3 ≤ m → 9 ≤ N + k → k_S b n p u C so false s → ∃ s', F_X3_readChoice_l32 (k_F t m) t (k_Ke t) N (d : Int) ((o : Int) - 1) (k : Int) s = some (v_b (r.1 = 0), s') ∧ k_R 1 b n p u so (c_VA b n so f d k p (c_D d + 2) u C L) r s s'
def k_BB (t : Nat → Option p_C) (b : Nat → Nat) (n so f : Nat) : Prop := k_B0 t b n so f ∧ k_B1 t b n so f ∧ k_B2 t b n so f ∧ k_B4 t b n so f ∧ k_B5 t b n so f ∧ k_B6 t b n so f
section X3
variable {s s1 s' : d_S} {t : Nat → Option p_C} {b : Nat → Nat} {n p q u f : Nat} {C : Nat → Nat × Nat} {so d e : Nat} {sv : Bool} {g : d_G} {V : Nat → (Nat → Nat × Nat) → Prop} {r : Nat × Nat}
theorem k_R.no (he : r.1 ≠ 0) (h2 : s'.1 43 2 = (r.1 : Int)) (h3 : s'.1 43 3 = (r.2 : Int)) (hf : k_h k_Le s s') : k_R e b n p u so V r s s' := ⟨fun z => absurd z he, fun _ => ⟨h2, h3, hf⟩⟩
theorem k_R.up {e2 p2 u2 : Nat} {V2 : Nat → (Nat → Nat × Nat) → Prop} (he : r.1 ≠ 0) (h : k_R e2 b n p2 u2 so V2 r s1 s') (hf : k_h k_Le s s1) : k_R e b n p u so V r s s' := by
  obtain ⟨h2, h3, h4⟩ := h.2 he
  exact k_R.no he h2 h3 (hf.tr h4)
theorem k_Lwe : ∀ a, a ∈ k_Lw → a ∈ k_Le := by decide
theorem k_pr0 {N : Nat} {x i : Int} : F_X3_readProduct_l8 g t (N + 1) x 0 i s = some (0, s) := by
  show F_X3_readProduct_l8_b g t (F_X3_readProduct_l8 g t N) x 0 i s = _
  unfold F_X3_readProduct_l8_b
  rw [if_pos (show (0 : Int) = 0 from rfl), d_g_t (Or.inl rfl)]
  split <;> rfl
theorem k_su0 {N : Nat} {x i : Int} : F_X3_readSum_l8 g t (N + 1) x 0 i s = some (0, s) := by
  show F_X3_readSum_l8_b g t (F_X3_readSum_l8 g t N) x 0 i s = _
  unfold F_X3_readSum_l8_b
  rw [if_pos (show (0 : Int) = 0 from rfl), d_g_t (Or.inl rfl)]
  split <;> rfl
theorem k_c3 : ∀ a, a ∈ [4, 5, 6, 7] → a ∈ k_Lw := by decide
theorem k_c3e : ∀ a, a ∈ [4, 5, 6, 7] → a ∈ k_Le := by decide
theorem k_c15 : ∀ a, a ∈ [15] → a ∈ k_Lw := by decide
theorem k_c23 : ∀ a, a ∈ [2, 3] → a ∈ k_Le := by decide
theorem k_c0 : ∀ a, a ∈ ([] : List Nat) → a ∈ k_Lw := by decide
theorem k_B4_ok (hW : k_wds t) (ih : k_BB t b n so f) : k_B4 t b n so (f + 1) := by
  obtain ⟨ih0, -, -, ih4, -, -⟩ := ih
  intro m d p u i N C s r hr hf hp hd hi hu hm hN hS
  obtain ⟨N, rfl⟩ : ∃ w, N = w + 1 := ⟨N - 1, by omega⟩
  have hn := hS.1.1.2.1
  rw [t_P4] at hr
  have e42 : F_X3_isSign s 42 = some (v_b (t_is b n p 42 = true)) := P_isSign (c := 42) hS.1
  have e47 : F_X3_isSign s 47 = some (v_b (t_is b n p 47 = true)) := P_isSign (c := 47) hS.1
  show ∃ s', F_X3_readProduct_l8_b (k_F t m) t (F_X3_readProduct_l8 (k_F t m) t N) _ _ _ s = _ ∧ _
  unfold F_X3_readProduct_l8_b
  by_cases ho : t_is b n p 42 = true ∨ t_is b n p 47 = true
  rotate_left
  · rw [if_neg ho] at hr
    subst hr
    refine ⟨s, ?_, ⟨fun _ => ⟨u, C, by simp only; omega, hS, c_VL_nil (fun ν a => by rw [t_V4, if_neg (fun z => ho (Or.inl z)), if_neg (fun z => ho (Or.inr z))]), k_h.rf, by simp only; omega, hp⟩, fun z => absurd rfl z⟩⟩
    rw [if_neg (show ¬ (1 : Int) = 0 by decide), d_g_t (Or.inr rfl), e42, d_b_t, v_bf (fun z => ho (Or.inl z)), if_pos rfl, e47, d_b_t, v_bf (fun z => ho (Or.inr z)), if_pos rfl, v_bt rfl]
    split <;> rfl
  rw [if_pos ho] at hr
  have hpn : p < n := by
    rcases ho with z | z
    · exact t_is_lt z
    · exact t_is_lt z
  have hx := t_x_lt (b := b) hpn
  obtain ⟨s8, a1, a2, a3⟩ := P_step hW hS.1 hp
  have hS8 := hS.T a3 a2
  obtain ⟨s10, c1, c2⟩ := ih0 m d 0 (t_x b n p) u false C s8 _ rfl (by omega) hx.2 hd rfl (by omega) hm hS8
  obtain ⟨r0, hr0⟩ : ∃ z, z = t_P b n (Nat.beq so 1) f 0 d 0 (t_x b n p) := ⟨_, rfl⟩
  rw [← hr0] at hr c1 c2
  have hgo : (if ((i : Nat) : Int) < 300 then if (1 : Int) = 0 then d_g ((1 : Int) = 0 ∨ (1 : Int) = 1) (some ((1 : Int), s)) else d_b (F_X3_isSign s 42) (fun v4 => if v4 = 0 then d_b (F_X3_isSign s 47) (fun v5 => if v5 = 0 then d_g ((1 : Int) = 0 ∨ (1 : Int) = 1) (some ((1 : Int), s)) else F_X3_readProduct_j37 (k_F t m) t (F_X3_readProduct_l8 (k_F t m) t N) (d : Int) (i : Int) s) else F_X3_readProduct_j37 (k_F t m) t (F_X3_readProduct_l8 (k_F t m) t N) (d : Int) (i : Int) s) else d_g ((1 : Int) = 0 ∨ (1 : Int) = 1) (some ((1 : Int), s))) = F_X3_readProduct_j53 (k_F t m) t (F_X3_readProduct_l8 (k_F t m) t N) (d : Int) (i : Int) (((if t_is b n p 42 = true then 7 else 8 : Nat)) : Int) s := by
    rw [if_pos (by omega), if_neg (show ¬ (1 : Int) = 0 by decide), e42, d_b_t]
    unfold F_X3_readProduct_j37
    by_cases q : t_is b n p 42 = true
    · rw [v_bt q, if_neg (show ¬ (1 : Int) = 0 by decide), e42, d_b_t, v_bt q, if_neg (show ¬ (1 : Int) = 0 by decide), if_pos q]; rfl
    · have q7 : t_is b n p 47 = true := ho.resolve_left q
      rw [v_bf q, if_pos rfl, e47, d_b_t, v_bt q7, if_neg (show ¬ (1 : Int) = 0 by decide), e42, d_b_t, v_bf q, if_pos rfl, if_neg q]; rfl
  rw [hgo]
  unfold F_X3_readProduct_j53
  obtain ⟨N2, rfl⟩ : ∃ w, N = w + 1 := ⟨N - 1, by omega⟩
  rw [a1, d_b_t, c1, d_b2_t, d_w_id (x := (i : Int) + 1) (by omega) (by omega)]
  by_cases e0 : r0.1 = 0
  rotate_left
  · rw [if_pos e0] at hr
    subst hr
    rw [v_bf e0, if_pos rfl, k_pr0]
    exact ⟨s10, rfl, k_R.up e0 c2 ((a3.h).mono k_c3e)⟩
  rw [if_neg (fun z => z e0)] at hr
  obtain ⟨u3, C3, g1, g2, g3, g4, g5, g6⟩ := c2.1 e0
  obtain ⟨s12, m1, m2, m3⟩ := P_make g2 (by omega) (e := if t_is b n p 42 = true then 7 else 8) (w := 0) (by split <;> omega) (by decide)
  have m1' : F_X3_make s10 (((if t_is b n p 42 = true then 7 else 8 : Nat)) : Int) 0 = some (1, s12) := m1
  rw [v_bt e0, if_neg (show ¬ (1 : Int) = 0 by decide), m1', d_b2_t, if_neg (show ¬ (1 : Int) = 0 by decide)]
  obtain ⟨s', w1, w2⟩ := ih4 m d r0.2 (u3 + 1) (i + 1) (N2 + 1) _ s12 r hr (by omega) g6 hd (by omega) (by omega) hm (by omega) m2
  refine ⟨s', w1, ?_⟩
  have f12 : k_h k_Lw s s12 := ((a3.h.mono k_c3).tr g4).tr (m3.mono k_c15)
  by_cases er : r.1 = 0
  rotate_left
  · exact k_R.up er w2 (f12.mono k_Lwe)
  obtain ⟨u5, C5, y1, y2, y3, y4, y5, y6⟩ := w2.1 er
  refine ⟨fun _ => ⟨u5, C5, by omega, y2, ?_, f12.tr y4, by omega, y6⟩, fun z => absurd er z⟩
  refine c_VL_op (sm := 0) (x := t_x b n p) (p2 := r0.2) g3 y3 (by split <;> omega) (Nat.le_refl _) rfl (fun ν a => ?_)
  rw [t_V4, ← hr0]
  by_cases q : t_is b n p 42 = true
  · rw [if_pos q, if_pos q]
  · rw [if_neg q, if_pos (ho.resolve_left q), if_neg q]
theorem k_B5_ok (hW : k_wds t) (ih : k_BB t b n so f) : k_B5 t b n so (f + 1) := by
  obtain ⟨-, ih0, -, -, ih4, -⟩ := ih
  intro m d p u i N C s r hr hf hp hd hi hu hm hN hS
  obtain ⟨N, rfl⟩ : ∃ w, N = w + 1 := ⟨N - 1, by omega⟩
  have hn := hS.1.1.2.1
  rw [t_P5] at hr
  have e42 : F_X3_isSign s 43 = some (v_b (t_is b n p 43 = true)) := P_isSign (c := 43) hS.1
  have e47 : F_X3_isSign s 45 = some (v_b (t_is b n p 45 = true)) := P_isSign (c := 45) hS.1
  show ∃ s', F_X3_readSum_l8_b (k_F t m) t (F_X3_readSum_l8 (k_F t m) t N) _ _ _ s = _ ∧ _
  unfold F_X3_readSum_l8_b
  by_cases ho : t_is b n p 43 = true ∨ t_is b n p 45 = true
  rotate_left
  · rw [if_neg ho] at hr
    subst hr
    refine ⟨s, ?_, ⟨fun _ => ⟨u, C, by simp only; omega, hS, c_VL_nil (fun ν a => by rw [t_V5, if_neg (fun z => ho (Or.inl z)), if_neg (fun z => ho (Or.inr z))]), k_h.rf, by simp only; omega, hp⟩, fun z => absurd rfl z⟩⟩
    rw [if_neg (show ¬ (1 : Int) = 0 by decide), d_g_t (Or.inr rfl), e42, d_b_t, v_bf (fun z => ho (Or.inl z)), if_pos rfl, e47, d_b_t, v_bf (fun z => ho (Or.inr z)), if_pos rfl, v_bt rfl]
    split <;> rfl
  rw [if_pos ho] at hr
  have hpn : p < n := by
    rcases ho with z | z
    · exact t_is_lt z
    · exact t_is_lt z
  have hx := t_x_lt (b := b) hpn
  obtain ⟨s8, a1, a2, a3⟩ := P_step hW hS.1 hp
  have hS8 := hS.T a3 a2
  obtain ⟨s10, c1, c2⟩ := ih0 m d 0 (t_x b n p) u false C s8 _ rfl (by omega) hx.2 hd rfl (by omega) hm hS8
  obtain ⟨r0, hr0⟩ : ∃ z, z = t_P b n (Nat.beq so 1) f 1 d 0 (t_x b n p) := ⟨_, rfl⟩
  rw [← hr0] at hr c1 c2
  have hgo : (if ((i : Nat) : Int) < 300 then if (1 : Int) = 0 then d_g ((1 : Int) = 0 ∨ (1 : Int) = 1) (some ((1 : Int), s)) else d_b (F_X3_isSign s 43) (fun v4 => if v4 = 0 then d_b (F_X3_isSign s 45) (fun v5 => if v5 = 0 then d_g ((1 : Int) = 0 ∨ (1 : Int) = 1) (some ((1 : Int), s)) else F_X3_readSum_j37 (k_F t m) t (F_X3_readSum_l8 (k_F t m) t N) (d : Int) (i : Int) s) else F_X3_readSum_j37 (k_F t m) t (F_X3_readSum_l8 (k_F t m) t N) (d : Int) (i : Int) s) else d_g ((1 : Int) = 0 ∨ (1 : Int) = 1) (some ((1 : Int), s))) = F_X3_readSum_j52 (k_F t m) t (F_X3_readSum_l8 (k_F t m) t N) (d : Int) (i : Int) (((if t_is b n p 43 = true then 5 else 6 : Nat)) : Int) s := by
    rw [if_pos (by omega), if_neg (show ¬ (1 : Int) = 0 by decide), e42, d_b_t]
    unfold F_X3_readSum_j37
    by_cases q : t_is b n p 43 = true
    · rw [v_bt q, if_neg (show ¬ (1 : Int) = 0 by decide), e42, d_b_t, v_bt q, if_neg (show ¬ (1 : Int) = 0 by decide), if_pos q]; rfl
    · have q7 : t_is b n p 45 = true := ho.resolve_left q
      rw [v_bf q, if_pos rfl, e47, d_b_t, v_bt q7, if_neg (show ¬ (1 : Int) = 0 by decide), e42, d_b_t, v_bf q, if_pos rfl, if_neg q]; rfl
  rw [hgo]
  unfold F_X3_readSum_j52
  obtain ⟨N2, rfl⟩ : ∃ w, N = w + 1 := ⟨N - 1, by omega⟩
  rw [a1, d_b_t, c1, d_b2_t, d_w_id (x := (i : Int) + 1) (by omega) (by omega)]
  by_cases e0 : r0.1 = 0
  rotate_left
  · rw [if_pos e0] at hr
    subst hr
    rw [v_bf e0, if_pos rfl, k_su0]
    exact ⟨s10, rfl, k_R.up e0 c2 ((a3.h).mono k_c3e)⟩
  rw [if_neg (fun z => z e0)] at hr
  obtain ⟨u3, C3, g1, g2, g3, g4, g5, g6⟩ := c2.1 e0
  obtain ⟨s12, m1, m2, m3⟩ := P_make g2 (by omega) (e := if t_is b n p 43 = true then 5 else 6) (w := 0) (by split <;> omega) (by decide)
  have m1' : F_X3_make s10 (((if t_is b n p 43 = true then 5 else 6 : Nat)) : Int) 0 = some (1, s12) := m1
  rw [v_bt e0, if_neg (show ¬ (1 : Int) = 0 by decide), m1', d_b2_t, if_neg (show ¬ (1 : Int) = 0 by decide)]
  obtain ⟨s', w1, w2⟩ := ih4 m d r0.2 (u3 + 1) (i + 1) (N2 + 1) _ s12 r hr (by omega) g6 hd (by omega) (by omega) hm (by omega) m2
  refine ⟨s', w1, ?_⟩
  have f12 : k_h k_Lw s s12 := ((a3.h.mono k_c3).tr g4).tr (m3.mono k_c15)
  by_cases er : r.1 = 0
  rotate_left
  · exact k_R.up er w2 (f12.mono k_Lwe)
  obtain ⟨u5, C5, y1, y2, y3, y4, y5, y6⟩ := w2.1 er
  refine ⟨fun _ => ⟨u5, C5, by omega, y2, ?_, f12.tr y4, by omega, y6⟩, fun z => absurd er z⟩
  refine c_VL_op (sm := 1) (x := t_x b n p) (p2 := r0.2) g3 y3 (by split <;> omega) (Nat.le_refl _) rfl (fun ν a => ?_)
  rw [t_V5, ← hr0]
  by_cases q : t_is b n p 43 = true
  · rw [if_pos q, if_pos q]
  · rw [if_neg q, if_pos (ho.resolve_left q), if_neg q]
theorem k_B1_ok (ih : k_BB t b n so f) : k_B1 t b n so (f + 1) := by
  obtain ⟨ih0, -, -, ih4, -, -⟩ := ih
  intro m d k p u sv C s r hr hf hp hd hk hu hm hS
  obtain ⟨m, rfl⟩ : ∃ w, m = w + 1 := ⟨m - 1, by omega⟩
  have hn := hS.1.1.2.1
  rw [t_P1] at hr
  obtain ⟨s1, c1, c2⟩ := ih0 m d k p u sv C s _ rfl (by omega) hp hd hk hu (by omega) hS
  obtain ⟨r0, hr0⟩ : ∃ z, z = t_P b n (Nat.beq so 1) f 0 d k p := ⟨_, rfl⟩
  rw [← hr0] at hr c1 c2
  show ∃ s', F_X3_readProduct (k_F t m) t s (d : Int) = _ ∧ _
  unfold F_X3_readProduct
  rw [c1, d_b2_t]
  by_cases e0 : r0.1 = 0
  rotate_left
  · rw [if_pos e0] at hr
    subst hr
    rw [v_bf e0, d_N_is, k_pr0]
    exact ⟨s1, rfl, k_R.up e0 c2 k_h.rf⟩
  rw [if_neg (fun z => z e0)] at hr
  obtain ⟨u3, C3, g1, g2, g3, g4, g5, g6⟩ := c2.1 e0
  obtain ⟨s', w1, w2⟩ := ih4 m d r0.2 u3 0 d_N C3 s1 r hr (by omega) g6 hd (by omega) (by omega) (by omega) (by rw [d_N_is]; omega) g2
  rw [v_bt e0]
  refine ⟨s', w1, ?_⟩
  by_cases er : r.1 = 0
  rotate_left
  · exact k_R.up er w2 (g4.mono k_Lwe)
  obtain ⟨u5, C5, y1, y2, y3, y4, y5, y6⟩ := w2.1 er
  refine ⟨fun _ => ⟨u5, C5, by omega, y2, ?_, g4.tr y4, by omega, y6⟩, fun z => absurd er z⟩
  exact c_V_loop g3 y3 (Nat.le_refl _) rfl (fun ν => by rw [t_V1, ← hr0])
theorem k_B2_ok (ih : k_BB t b n so f) : k_B2 t b n so (f + 1) := by
  obtain ⟨-, ih0, -, -, ih4, -⟩ := ih
  intro m d k p u sv C s r hr hf hp hd hk hu hm hS
  obtain ⟨m, rfl⟩ : ∃ w, m = w + 1 := ⟨m - 1, by omega⟩
  have hn := hS.1.1.2.1
  rw [t_P2] at hr
  obtain ⟨s1, c1, c2⟩ := ih0 m d k p u sv C s _ rfl (by omega) hp hd hk hu (by omega) hS
  obtain ⟨r0, hr0⟩ : ∃ z, z = t_P b n (Nat.beq so 1) f 1 d k p := ⟨_, rfl⟩
  rw [← hr0] at hr c1 c2
  show ∃ s', F_X3_readSum (k_F t m) t s (d : Int) = _ ∧ _
  unfold F_X3_readSum
  rw [c1, d_b2_t]
  by_cases e0 : r0.1 = 0
  rotate_left
  · rw [if_pos e0] at hr
    subst hr
    rw [v_bf e0, d_N_is, k_su0]
    exact ⟨s1, rfl, k_R.up e0 c2 k_h.rf⟩
  rw [if_neg (fun z => z e0)] at hr
  obtain ⟨u3, C3, g1, g2, g3, g4, g5, g6⟩ := c2.1 e0
  obtain ⟨s', w1, w2⟩ := ih4 m d r0.2 u3 0 d_N C3 s1 r hr (by omega) g6 hd (by omega) (by omega) (by omega) (by rw [d_N_is]; omega) g2
  rw [v_bt e0]
  refine ⟨s', w1, ?_⟩
  by_cases er : r.1 = 0
  rotate_left
  · exact k_R.up er w2 (g4.mono k_Lwe)
  obtain ⟨u5, C5, y1, y2, y3, y4, y5, y6⟩ := w2.1 er
  refine ⟨fun _ => ⟨u5, C5, by omega, y2, ?_, g4.tr y4, by omega, y6⟩, fun z => absurd er z⟩
  exact c_V_loop g3 y3 (Nat.le_refl _) rfl (fun ν => by rw [t_V2, ← hr0])
end X3

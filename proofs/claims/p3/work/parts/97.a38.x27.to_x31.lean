section X27
variable {b : Nat → Nat} {n p d k f : Nat} {S : Bool} {ν ν' : Nat → Int} {a : Int} {t : Nat → Option p_C} {s : d_S}
theorem t_nu_6 (h : t_nm6 b n p = true) : t_nu b n p < 6 := by
  unfold t_nm6 at h
  simp only [Bool.or_eq_true] at h
  unfold t_nu
  by_cases q8 : t_wd b n p 8 = true
  · rw [if_pos q8]; omega
  rw [if_neg q8]
  by_cases q9 : t_wd b n p 9 = true
  · rw [if_pos q9]; omega
  rw [if_neg q9]
  by_cases q10 : t_wd b n p 10 = true
  · rw [if_pos q10]; omega
  rw [if_neg q10]
  by_cases q11 : t_wd b n p 11 = true
  · rw [if_pos q11]; omega
  rw [if_neg q11]
  by_cases q12 : t_wd b n p 12 = true
  · rw [if_pos q12]; omega
  rw [if_neg q12]
  by_cases q13 : t_wd b n p 13 = true
  · rw [if_pos q13]; omega
  rcases h with e | e | e | e | e | e
  · exact absurd e q9
  · exact absurd e q10
  · exact absurd e q11
  · exact absurd e q8
  · exact absurd e q12
  · exact absurd e q13
theorem t_nu_8 : t_nu b n p < 8 := by
  unfold t_nu
  repeat' split
  all_goals omega
theorem t_Vir (hν : ∀ j, j < (if S = true then 8 else 6) → ν j = ν' j) : ∀ (f mode d k p : Nat) (a : Int), (mode = 0 ∨ mode = 1 ∨ mode = 2 ∨ mode = 4 ∨ mode = 5 ∨ mode = 6) → (t_P b n S f mode d k p).1 = 0 → t_V b n S ν f mode d k p a = t_V b n S ν' f mode d k p a := by
  intro f
  induction f with
  | zero => intro mode d k p a _ h; exact absurd h (by show ¬ (99 : Nat) = 0; decide)
  | succ f ih =>
    intro mode d k p a hm h
    rcases hm with rfl | rfl | rfl | rfl | rfl | rfl
    · rw [t_P0] at h
      rw [t_V0, t_V0]
      by_cases hF : t_F b n S d p = 0
      rotate_left
      · rw [if_pos hF] at h; exact absurd h hF
      rw [if_neg (fun q => q hF)] at h
      by_cases k7 : k = 7
      · rw [if_pos k7] at h; exact absurd h (by show ¬ (7 : Nat) = 0; decide)
      rw [if_neg k7] at h
      by_cases ho : t_op b n p = false
      · rw [if_pos ho, if_pos ho]
        by_cases k2 : t_k b n p = 2
        · rw [if_pos k2, if_pos k2]
        · rw [if_neg k2, if_neg k2]
          apply hν
          unfold t_F at hF
          rw [if_neg k2] at hF
          by_cases q1 : t_nm6 b n p = true
          · have := t_nu_6 q1
            split <;> omega
          · rw [if_neg q1] at hF
            by_cases q2 : t_nm2 b n p = true
            · rw [if_pos q2] at hF
              by_cases hS : S = true
              · rw [if_pos hS]; exact t_nu_8
              · rw [if_neg hS] at hF; cases hF
            · rw [if_neg q2, ho, if_neg (by decide)] at hF; cases hF
      rw [if_neg ho] at h
      rw [if_neg ho, if_neg ho]
      by_cases h20 : t_wd b n p 20 = true
      · rw [if_pos h20] at h
        rw [if_pos h20, if_pos h20]
        by_cases r0 : (t_P b n S f 0 (d + 1) 0 (t_x b n p)).1 = 0
        rotate_left
        · rw [if_pos r0] at h; exact absurd h r0
        rw [if_neg (fun q => q r0)] at h
        by_cases h21 : t_wd b n (t_P b n S f 0 (d + 1) 0 (t_x b n p)).2 21 = false
        · rw [if_pos h21] at h; exact absurd h (by show ¬ (1 : Nat) = 0; decide)
        rw [if_neg h21] at h
        by_cases h40 : t_is b n (t_x b n (t_P b n S f 0 (d + 1) 0 (t_x b n p)).2) 40 = false
        · rw [if_pos h40] at h; exact absurd h (by show ¬ (1 : Nat) = 0; decide)
        rw [if_neg h40] at h
        rw [ih 0 _ _ _ _ (by omega) r0]
        exact ih 6 _ _ _ _ (by omega) h
      rw [if_neg h20] at h
      rw [if_neg h20, if_neg h20]
      by_cases h45 : t_is b n p 45 = true
      · rw [if_pos h45] at h
        rw [if_pos h45, if_pos h45, ih 0 _ _ _ _ (by omega) h]
      rw [if_neg h45] at h
      rw [if_neg h45, if_neg h45]
      by_cases r0 : (t_P b n S f 2 (d + 1) 0 (t_x b n p)).1 = 0
      rotate_left
      · rw [if_pos r0] at h; exact absurd h r0
      exact ih 2 _ _ _ _ (by omega) r0
    · rw [t_P1] at h
      rw [t_V1, t_V1]
      by_cases r0 : (t_P b n S f 0 d k p).1 = 0
      rotate_left
      · rw [if_pos r0] at h; exact absurd h r0
      rw [if_neg (fun q => q r0)] at h
      rw [ih 0 _ _ _ _ (by omega) r0]
      exact ih 4 _ _ _ _ (by omega) h
    · rw [t_P2] at h
      rw [t_V2, t_V2]
      by_cases r0 : (t_P b n S f 1 d k p).1 = 0
      rotate_left
      · rw [if_pos r0] at h; exact absurd h r0
      rw [if_neg (fun q => q r0)] at h
      rw [ih 1 _ _ _ _ (by omega) r0]
      exact ih 5 _ _ _ _ (by omega) h
    · rw [t_P4] at h
      rw [t_V4, t_V4]
      by_cases ho : t_is b n p 42 = true ∨ t_is b n p 47 = true
      · rw [if_pos ho] at h
        by_cases r0 : (t_P b n S f 0 d 0 (t_x b n p)).1 = 0
        rotate_left
        · rw [if_pos r0] at h; exact absurd h r0
        rw [if_neg (fun q => q r0)] at h
        rw [ih 0 _ _ _ _ (by omega) r0]
        by_cases q42 : t_is b n p 42 = true
        · rw [if_pos q42, if_pos q42]; exact ih 4 _ _ _ _ (by omega) h
        · rw [if_neg q42, if_neg q42, if_pos (ho.resolve_left q42), if_pos (ho.resolve_left q42)]; exact ih 4 _ _ _ _ (by omega) h
      · rw [if_neg (fun q => ho (Or.inl q)), if_neg (fun q => ho (Or.inl q)), if_neg (fun q => ho (Or.inr q)), if_neg (fun q => ho (Or.inr q))]
    · rw [t_P5] at h
      rw [t_V5, t_V5]
      by_cases ho : t_is b n p 43 = true ∨ t_is b n p 45 = true
      · rw [if_pos ho] at h
        by_cases r0 : (t_P b n S f 1 d 0 (t_x b n p)).1 = 0
        rotate_left
        · rw [if_pos r0] at h; exact absurd h r0
        rw [if_neg (fun q => q r0)] at h
        rw [ih 1 _ _ _ _ (by omega) r0]
        by_cases q42 : t_is b n p 43 = true
        · rw [if_pos q42, if_pos q42]; exact ih 5 _ _ _ _ (by omega) h
        · rw [if_neg q42, if_neg q42, if_pos (ho.resolve_left q42), if_pos (ho.resolve_left q42)]; exact ih 5 _ _ _ _ (by omega) h
      · rw [if_neg (fun q => ho (Or.inl q)), if_neg (fun q => ho (Or.inl q)), if_neg (fun q => ho (Or.inr q)), if_neg (fun q => ho (Or.inr q))]
    · rw [t_P6] at h
      rw [t_V6, t_V6]
      by_cases r0 : (t_P b n S f 2 d k p).1 = 0
      rotate_left
      · rw [if_pos r0] at h; exact absurd h r0
      rw [if_neg (fun q => q r0)] at h
      rw [ih 2 _ _ _ _ (by omega) r0]
      by_cases h44 : t_is b n (t_P b n S f 2 d k p).2 44 = true
      · rw [if_pos h44] at h
        rw [if_pos h44, if_pos h44, ih 6 _ _ _ _ (by omega) h]
      · rw [if_neg h44, if_neg h44]
theorem t_cs2_ok : ∀ (f m o p : Nat), (t_tx b n f m o p).1 = 0 → ∀ e, e ∈ t_cs2 b n f m o p → (t_bd b n e.1 e.2).1 = 0 := by
  intro f
  induction f with
  | zero => intro m o p _ e he; exact absurd he (by simp [t_cs2])
  | succ f ih =>
    intro m o p h e he
    rw [t_tx_s] at h
    by_cases k0 : t_k b n p = 0
    · have e0 : t_cs2 b n (f + 1) m o p = [] := if_pos k0
      rw [e0] at he; exact absurd he (by simp)
    rw [if_neg k0] at h
    have e1 : t_cs2 b n (f + 1) m o p = (t_cw b n p, t_x b n p) :: t_cs2 b n f (m + 1) (if t_cw b n p < 3 then o + 2 ^ t_cw b n p else o) (t_cl b n m o p).2 := if_neg k0
    rw [e1] at he
    by_cases r0 : (t_cl b n m o p).1 = 0
    rotate_left
    · rw [if_pos r0] at h; exact absurd h r0
    rw [if_neg (fun q => q r0)] at h
    rcases List.mem_cons.1 he with q | q
    · rw [q]
      show (t_bd b n (t_cw b n p) (t_x b n p)).1 = 0
      rw [t_cl_bd] at r0
      by_cases c1 : t_cw b n p = 10
      · rw [if_pos c1] at r0; exact absurd r0 (by show ¬ (1 : Nat) = 0; decide)
      rw [if_neg c1] at r0
      by_cases c2 : t_cw b n p < 3 ∧ o / 2 ^ t_cw b n p % 2 = 1
      · rw [if_pos c2] at r0; exact absurd r0 (by show ¬ (4 : Nat) = 0; decide)
      rw [if_neg c2] at r0
      by_cases c3 : m = 24
      · rw [if_pos c3] at r0; exact absurd r0 (by show ¬ (6 : Nat) = 0; decide)
      rw [if_neg c3] at r0
      by_cases c4 : (t_bd b n (t_cw b n p) (t_x b n p)).1 = 0
      · exact c4
      · rw [if_pos c4] at r0; exact absurd r0 c4
    · exact ih _ _ _ h e q
theorem t_Dn_99 : ∀ (A : List (Nat × Nat × Nat)) (p : Nat), (∀ e ∈ A, e.2.2 ≤ 99) → (t_D b n A p).1 = 0 → ∀ v, v ∈ t_Dn b n A p → v ≤ 99 := by
  intro A
  induction A with
  | nil => intro p _ _ v hv; exact absurd hv (by simp [t_Dn])
  | cons e A ih =>
    intro p hA h v hv
    have hA' : ∀ e ∈ A, e.2.2 ≤ 99 := fun e' h => hA e' (List.mem_cons_of_mem _ h)
    unfold t_D at h
    unfold t_Dn at hv
    by_cases e0 : e.1 = 0
    · rw [if_pos e0] at h hv
      by_cases k2 : t_k b n p = 2
      rotate_left
      · rw [if_pos k2] at h; cases h
      rw [if_neg (fun q => q k2)] at h
      by_cases c : t_n b n p < e.2.1 ∨ e.2.2 < t_n b n p
      · rw [if_pos c] at h; cases h
      rw [if_neg c] at h
      rcases List.mem_cons.1 hv with q | q
      · have := hA e List.mem_cons_self; omega
      · exact ih _ hA' h v q
    rw [if_neg e0] at h hv
    by_cases e1 : e.1 = 1
    · rw [if_pos e1] at h
      by_cases c : t_wd b n p e.2.1 = true
      · rw [if_pos c] at h; exact ih _ hA' h v hv
      · rw [if_neg c] at h; cases h
    · rw [if_neg e1] at h
      by_cases c : t_is b n p e.2.1 = true
      · rw [if_pos c] at h; exact ih _ hA' h v hv
      · rw [if_neg c] at h; cases h
theorem t_dd_99 : ∀ w, w < 10 → ∀ e ∈ t_dd w, e.2.2 ≤ 99 := by decide
theorem t_cn_99 {e : Nat × Nat} (he : e.1 ≤ 9) (h : (t_bd b n e.1 e.2).1 = 0) : ∀ v, v ∈ t_cn b n e → v ≤ 99 := by
  intro v hv
  unfold t_cn at hv
  by_cases q : e.1 < 3
  · rw [if_pos q] at hv; exact absurd hv (by simp)
  · rw [if_neg q] at hv
    have h' : (t_D b n (t_dd e.1) e.2).1 = 0 := by
      have e1 : t_bd b n e.1 e.2 = t_D b n (t_dd e.1) e.2 := if_neg q
      rw [← e1]; exact h
    exact t_Dn_99 _ _ (t_dd_99 e.1 (by omega)) h' v hv
end X27
def t_L (b : Nat → Nat) (n : Nat) : List (Nat × Nat) := t_cs2 b n 26 0 0 (t_sk b n 0)
def t_lf (b : Nat → Nat) (n k : Nat) : Option (Nat × Nat) := (t_L b n).find? (fun e => Nat.beq e.1 k)
def t_nam (day heat size straw melted edge sights kinds : Int) (j : Nat) : Int := if j = 0 then straw else if j = 1 then day else if j = 2 then heat else if j = 3 then size else if j = 4 then melted else if j = 5 then edge else if j = 6 then sights else kinds
def t_LR (b : Nat → Nat) (n : Nat) : v_LR := ((t_lf b n 0).map (fun e => fun day heat size straw melted edge => t_V b n false (t_nam day heat size straw melted edge 0 0) 4000 2 0 0 e.2 0), (t_lf b n 1).map (fun e => fun day heat size straw melted edge sights kinds => t_V b n true (t_nam day heat size straw melted edge sights kinds) 4000 2 0 0 e.2 0), (t_lf b n 2).map (fun e => fun day heat size straw melted edge => t_V b n false (t_nam day heat size straw melted edge 0 0) 4000 2 0 0 e.2 0))
def t_TR (b : Nat → Nat) (n : Nat) : v_TR := ((t_L b n).length, fun c => ((t_L b n).getD c (0, 0)).1, fun c i => (((t_cn b n ((t_L b n).getD c (0, 0))).getD (i - 1) 0 : Nat) : Int), t_LR b n)
section X28
variable {b : Nat → Nat} {n k : Nat} {t t' : Nat → Option p_C} {s : d_S} {a : Nat} {e : Nat × Nat}
theorem t_lf_some (h : t_lf b n k = some e) : e ∈ t_L b n ∧ e.1 = k := ⟨List.mem_of_find?_eq_some h, Nat.eq_of_beq_eq_true (List.find?_some (p := fun e : Nat × Nat => Nat.beq e.1 k) h)⟩
theorem t_lf_none (h : t_lf b n k = none) : ∀ e, e ∈ t_L b n → e.1 ≠ k := fun e he q => by
  have := List.find?_eq_none.1 h e he
  rw [q] at this
  exact this (Nat.beq_refl k)
theorem t_getD (c : Nat) (hc : c < (t_L b n).length) : (t_L b n)[c]? = some ((t_L b n).getD c (0, 0)) := by
  rw [List.getD_eq_getElem?_getD, List.getElem?_eq_getElem hc]; rfl
theorem t_eq6 {x : Nat} (h : (t_P b n false 4000 2 0 0 x).1 = 0) (ν : Nat → Int) : t_V b n false ν 4000 2 0 0 x 0 = t_V b n false (t_nam (ν 1) (ν 2) (ν 3) (ν 0) (ν 4) (ν 5) 0 0) 4000 2 0 0 x 0 := by
  refine t_Vir (S := false) (fun j hj => ?_) 4000 2 0 0 x 0 (by omega) h
  have hj : j < 6 := hj
  have : j = 0 ∨ j = 1 ∨ j = 2 ∨ j = 3 ∨ j = 4 ∨ j = 5 := by omega
  rcases this with rfl | rfl | rfl | rfl | rfl | rfl <;> rfl
theorem t_eq8 {x : Nat} (h : (t_P b n true 4000 2 0 0 x).1 = 0) (ν : Nat → Int) : t_V b n true ν 4000 2 0 0 x 0 = t_V b n true (t_nam (ν 1) (ν 2) (ν 3) (ν 0) (ν 4) (ν 5) (ν 6) (ν 7)) 4000 2 0 0 x 0 := by
  refine t_Vir (S := true) (fun j hj => ?_) 4000 2 0 0 x 0 (by omega) h
  have hj : j < 8 := hj
  have : j = 0 ∨ j = 1 ∨ j = 2 ∨ j = 3 ∨ j = 4 ∨ j = 5 ∨ j = 6 ∨ j = 7 := by omega
  rcases this with rfl | rfl | rfl | rfl | rfl | rfl | rfl | rfl <;> rfl
theorem t_ok (ht : (t_text b n).1 = 0) (he : e ∈ t_L b n) : (t_bd b n e.1 e.2).1 = 0 := t_cs2_ok 26 0 0 (t_sk b n 0) ht e he
theorem H_new.TC (ht : (t_text b n).1 = 0) (h : H_new t b n a) : v_TC t a (t_TR b n) := by
  obtain ⟨q, rb, rows, R, o, h1, h2, h3, h4, h5, h6, h7, h8, h9, h10⟩ := h
  have hL : t_cs2 b n 26 0 0 (t_sk b n 0) = t_L b n := rfl
  rw [hL] at h3 h5 h6 h7 h8 h9 h10
  have tf : ∀ k v, [d_pv (q 11), d_pv (q 12), d_pv (q 13), Value.int (Int32.ofInt ((t_L b n).length : Int)), Value.ref rb][k]? = some v → d_tf t a k = some v := by
    intro k v hv
    unfold d_tf
    rw [if_pos h1, h3]
    exact hv
  have tq : ∀ k (x : Option Nat), d_tf t a k = some (d_pv x) → d_tfq t a k = some x := by
    intro k x hx
    unfold d_tfq
    rw [hx]
    cases x <;> rfl
  have t4 : d_tfq t a 4 = some (some rb) := tq 4 (some rb) (tf 4 _ rfl)
  have tn : d_tn t rb = some ((7 * (t_L b n).length : Nat) : Int) := by
    unfold d_tn d_ta
    rw [if_pos h2, h4]
    show d_b (some rows) _ = _
    rw [d_b_t, h5, if_pos (by omega)]
  have tl : ∀ j : Nat, j < 7 * (t_L b n).length → d_tl t rb (j : Int) = some (R j) := by
    intro j hj
    obtain ⟨g1, g2⟩ := h6 j hj
    unfold d_tl d_ta
    rw [if_pos h2, h4]
    show d_b (some rows) _ = _
    rw [d_b_t, if_pos (by omega), Int.toNat_natCast, g1]
    show some ((Int32.ofInt (R j)).toInt) = _
    rw [d_ti g2]
  have part : ∀ (s : d_S) (c i : Nat), c < (t_L b n).length → i < 7 → F_X7_part t s a (c : Int) (i : Int) = some (R (7 * c + i)) := by
    intro s c i hc hi
    have ei : d_w ((c : Int) * 7 + (i : Int)) = ((7 * c + i : Nat) : Int) := by rw [d_w_id (by omega) (by omega)]; omega
    unfold F_X7_part
    rw [ei, if_neg (by omega), t4, d_b_t, d_b_t, tn, d_b_t, if_pos (by omega), d_b_t, d_b_t, tl _ (by omega), d_b_t]
  refine ⟨⟨h1, _, h3⟩, ?_, h7, fun s c hc => ?_, ?_⟩
  · unfold d_tfi
    rw [tf 3 _ rfl]
    show some ((Int32.ofInt ((t_L b n).length : Int)).toInt) = _
    rw [d_ti ⟨by omega, by omega⟩]; rfl
  · have hc : c < (t_L b n).length := hc
    have hg := t_getD c hc
    obtain ⟨g1, g2, g3⟩ := h9 c _ hg
    obtain ⟨e, he⟩ : ∃ e, e = (t_L b n).getD c (0, 0) := ⟨_, rfl⟩
    show ((t_L b n).getD c (0, 0)).1 ≤ 9 ∧ F_X7_part t s a (c : Int) 0 = some ((((t_L b n).getD c (0, 0)).1 : Nat) : Int) ∧ _
    rw [← he] at hg g1 g2 g3 ⊢
    refine ⟨g1, ?_, fun i hi1 hi7 => ⟨R (7 * c + i), part s c i hc hi7, fun hnp => ?_⟩⟩
    · have := part s c 0 hc (by decide)
      rw [Nat.add_zero, g2] at this
      exact this
    · have hnp : i ≤ v_np e.1 := by rw [he]; exact hnp
      have hl := t_cn_len (b := b) (n := n) g1
      obtain ⟨v, hv⟩ : ∃ v, (t_cn b n e)[i - 1]? = some v := ⟨_, List.getElem?_eq_getElem (show i - 1 < (t_cn b n e).length by omega)⟩
      have gv := g3 (i - 1) v hv
      rw [show 7 * c + 1 + (i - 1) = 7 * c + i by omega] at gv
      have hd : (t_cn b n e).getD (i - 1) 0 = v := by rw [List.getD_eq_getElem?_getD, hv]; rfl
      have h99 := t_cn_99 (b := b) (n := n) g1 (t_ok ht (List.mem_of_getElem? hg)) v (List.mem_of_getElem? hv)
      refine ⟨?_, by omega, by omega⟩
      show R (7 * c + i) = (((t_cn b n ((t_L b n).getD c (0, 0))).getD (i - 1) 0 : Nat) : Int)
      rw [← he, hd, gv]
  · have lq : ∀ k, k < 3 → d_tfq t a k = some (q (11 + k)) := by
      intro k hk
      have : k = 0 ∨ k = 1 ∨ k = 2 := by omega
      rcases this with rfl | rfl | rfl
      · exact tq 0 _ (tf 0 _ rfl)
      · exact tq 1 _ (tf 1 _ rfl)
      · exact tq 2 _ (tf 2 _ rfl)
    have law6 : ∀ k, (k = 0 ∨ k = 2) → (d_tfq t a k = some none ∧ (t_lf b n k).map (fun e => fun day heat size straw melted edge => t_V b n false (t_nam day heat size straw melted edge 0 0) 4000 2 0 0 e.2 0) = none) ∨ ∃ c V, d_tfq t a k = some (some c) ∧ (t_lf b n k).map (fun e => fun day heat size straw melted edge => t_V b n false (t_nam day heat size straw melted edge 0 0) 4000 2 0 0 e.2 0) = some V ∧ v_cd t c (fun f => V (f 1) (f 2) (f 3) (f 0) (f 4) (f 5)) := by
      intro k hk
      obtain ⟨j1, j2⟩ := h10 k (by omega)
      have hkb : Nat.beq k 1 = false := by rcases hk with rfl | rfl <;> rfl
      cases hf : t_lf b n k with
      | none => exact Or.inl ⟨by rw [lq k (by omega), j1 (t_lf_none hf)], rfl⟩
      | some e =>
        obtain ⟨e1, e2⟩ := t_lf_some hf
        obtain ⟨c, C, len, i1, i2, i3⟩ := j2 e e1 e2
        have hok := t_ok ht e1
        have hok' : (t_P b n false 4000 2 0 0 e.2).1 = 0 := by
          have : t_bd b n e.1 e.2 = t_P b n (Nat.beq e.1 1) 4000 2 0 0 e.2 := if_pos (show e.1 < 3 by omega)
          rw [this, e2, hkb] at hok
          exact hok
        refine Or.inr ⟨c, _, by rw [lq k (by omega), i1], rfl, m_cd (D := 19) i2 (fun ν hν => ?_) (by decide)⟩
        have := i3 ν hν
        rw [hkb, t_eq6 hok' ν] at this
        exact this
    have law8 : (d_tfq t a 1 = some none ∧ (t_lf b n 1).map (fun e => fun day heat size straw melted edge sights kinds => t_V b n true (t_nam day heat size straw melted edge sights kinds) 4000 2 0 0 e.2 0) = none) ∨ ∃ c V, d_tfq t a 1 = some (some c) ∧ (t_lf b n 1).map (fun e => fun day heat size straw melted edge sights kinds => t_V b n true (t_nam day heat size straw melted edge sights kinds) 4000 2 0 0 e.2 0) = some V ∧ v_cd t c (fun f => V (f 1) (f 2) (f 3) (f 0) (f 4) (f 5) (f 6) (f 7)) := by
      obtain ⟨j1, j2⟩ := h10 1 (by decide)
      cases hf : t_lf b n 1 with
      | none => exact Or.inl ⟨by rw [lq 1 (by decide), j1 (t_lf_none hf)], rfl⟩
      | some e =>
        obtain ⟨e1, e2⟩ := t_lf_some hf
        obtain ⟨c, C, len, i1, i2, i3⟩ := j2 e e1 e2
        have hok := t_ok ht e1
        have hok' : (t_P b n true 4000 2 0 0 e.2).1 = 0 := by
          have : t_bd b n e.1 e.2 = t_P b n (Nat.beq e.1 1) 4000 2 0 0 e.2 := if_pos (show e.1 < 3 by omega)
          rw [this, e2] at hok
          exact hok
        refine Or.inr ⟨c, _, by rw [lq 1 (by decide), i1], rfl, m_cd (D := 19) i2 (fun ν hν => ?_) (by decide)⟩
        have := i3 ν hν
        rw [show Nat.beq 1 1 = true from rfl, t_eq8 hok' ν] at this
        exact this
    exact ⟨law6 0 (Or.inl rfl), law8, law6 2 (Or.inr rfl)⟩
theorem l_TD {T : Nat → Int} {k o w : Nat} (ht : (t_text b n).1 = 0) (hk : k < 4) (hw : w ≤ 303) (hL : (t_L b n).length ≤ 24) (h0 : T (777 * k) = ((t_L b n).length : Int)) (hLO : t_LO (t_L b n) o) (hrow : ∀ c e, (t_L b n)[c]? = some e → l_row b n T (777 * k) w c e) : v_TD T k (t_TR b n) := by
  refine ⟨h0, fun c hc => ?_, ?_⟩
  · have hc : c < (t_L b n).length := hc
    have hg := t_getD c hc
    obtain ⟨g1, g2, g3, -⟩ := hrow c _ hg
    refine ⟨g2, fun i hi hnp => ?_⟩
    have hnp : i ≤ v_np ((t_L b n).getD c (0, 0)).1 := hnp
    show T (777 * k + 1 + 7 * c + i) = (((t_cn b n ((t_L b n).getD c (0, 0))).getD (i - 1) 0 : Nat) : Int)
    obtain ⟨e, he⟩ : ∃ e, e = (t_L b n).getD c (0, 0) := ⟨_, rfl⟩
    rw [← he] at g1 g3 hnp ⊢
    have hl := t_cn_len (b := b) (n := n) g1
    obtain ⟨v, hv⟩ : ∃ v, (t_cn b n e)[i - 1]? = some v := ⟨_, List.getElem?_eq_getElem (show i - 1 < (t_cn b n e).length by omega)⟩
    have hd : (t_cn b n e).getD (i - 1) 0 = v := by rw [List.getD_eq_getElem?_getD, hv]; rfl
    have gv := g3 (i - 1) v hv
    rw [show 777 * k + 2 + 7 * c + (i - 1) = 777 * k + 1 + 7 * c + i by omega] at gv
    rw [hd, gv]
  · have hsx : ∀ c e, (t_L b n)[c]? = some e → ∀ k' : Nat, k' < 3 → e.1 ≠ k' → T (777 * k + 1 + 7 * c) ≠ (k' : Int) := by
      intro c e hce k' hk' hne
      obtain ⟨g1, g2, -⟩ := hrow c e hce
      rw [g2]
      by_cases q : e.1 < 3
      · rw [v_sx_law _ q]; omega
      · have := v_sx_big e.1 (by omega) (by omega); omega
    have hnone : ∀ k' : Nat, k' < 3 → t_lf b n k' = none → v_RS T (k : Int) (k' : Int) none := by
      intro k' hk' hf
      refine n_none hk hL h0 (fun c hc => ?_)
      have hg := t_getD c hc
      exact hsx c _ hg k' hk' (t_lf_none hf _ (List.mem_of_getElem? hg))
    have hsome : ∀ (k' : Nat) (e : Nat × Nat), k' < 3 → t_lf b n k' = some e → v_RS T (k : Int) (k' : Int) (some (fun f => t_V b n (Nat.beq k' 1) (fun j => f (t_ri j)) 4000 2 0 0 e.2 0)) := by
      intro k' e hk' hf
      obtain ⟨e1, e2⟩ := t_lf_some hf
      obtain ⟨c, hc⟩ := List.getElem?_of_mem e1
      have hcl : c < (t_L b n).length := (List.getElem?_eq_some_iff.mp hc).1
      obtain ⟨g1, g2, g3, g4⟩ := hrow c e hc
      obtain ⟨f0, E, i1, i2, i3, i4, i5⟩ := g4 (by omega)
      refine n_some (f0 := f0) (E := E) (V := fun ν => t_V b n (Nat.beq k' 1) ν 4000 2 0 0 e.2 0) ⟨hk, c, (t_L b n).length, hL, hcl, h0, fun j hj => ?_, ?_, i1, i2, by omega, i4⟩ (fun ν hν => ?_)
      · have hjg := t_getD (b := b) (n := n) j (by omega)
        refine hsx j _ hjg k' hk' (fun q => ?_)
        have := hLO.2.2 j c _ e hjg hc (by omega) (by omega)
        omega
      · rw [g2, v_sx_law _ (by omega), e2]
      · rw [← e2]; exact i5 ν hν
    have six : ∀ k' : Nat, (k' = 0 ∨ k' = 2) → v_RS T (k : Int) (k' : Int) (((t_lf b n k').map (fun e => fun day heat size straw melted edge => t_V b n false (t_nam day heat size straw melted edge 0 0) 4000 2 0 0 e.2 0)).map (fun V f => V (f 0) (f 1) (f 2) (f 3) (f 4) (f 5))) := by
      intro k' hk'
      have hkb : Nat.beq k' 1 = false := by rcases hk' with rfl | rfl <;> rfl
      cases hf : t_lf b n k' with
      | none => exact hnone k' (by omega) hf
      | some e =>
        obtain ⟨e1, e2⟩ := t_lf_some hf
        have hok := t_ok ht e1
        have hok' : (t_P b n false 4000 2 0 0 e.2).1 = 0 := by
          have : t_bd b n e.1 e.2 = t_P b n (Nat.beq e.1 1) 4000 2 0 0 e.2 := if_pos (show e.1 < 3 by omega)
          rw [this, e2, hkb] at hok
          exact hok
        have hs := hsome k' e (by omega) hf
        rw [hkb] at hs
        have hfe : (fun f : Nat → Int => t_V b n false (fun j => f (t_ri j)) 4000 2 0 0 e.2 0) = fun f => t_V b n false (t_nam (f 0) (f 1) (f 2) (f 3) (f 4) (f 5) 0 0) 4000 2 0 0 e.2 0 := by
          funext f
          exact t_eq6 hok' (fun j => f (t_ri j))
        rw [hfe] at hs
        exact hs
    have eight : v_RS T (k : Int) 1 (((t_lf b n 1).map (fun e => fun day heat size straw melted edge sights kinds => t_V b n true (t_nam day heat size straw melted edge sights kinds) 4000 2 0 0 e.2 0)).map (fun V f => V (f 0) (f 1) (f 2) (f 3) (f 4) (f 5) (f 6) (f 7))) := by
      cases hf : t_lf b n 1 with
      | none => exact hnone 1 (by decide) hf
      | some e =>
        obtain ⟨e1, e2⟩ := t_lf_some hf
        have hok := t_ok ht e1
        have hok' : (t_P b n true 4000 2 0 0 e.2).1 = 0 := by
          have : t_bd b n e.1 e.2 = t_P b n (Nat.beq e.1 1) 4000 2 0 0 e.2 := if_pos (show e.1 < 3 by omega)
          rw [this, e2] at hok
          exact hok
        have hs := hsome 1 e (by decide) hf
        rw [show Nat.beq 1 1 = true from rfl] at hs
        have hfe : (fun f : Nat → Int => t_V b n true (fun j => f (t_ri j)) 4000 2 0 0 e.2 0) = fun f => t_V b n true (t_nam (f 0) (f 1) (f 2) (f 3) (f 4) (f 5) (f 6) (f 7)) 4000 2 0 0 e.2 0 := by
          funext f
          exact t_eq8 hok' (fun j => f (t_ri j))
        rw [hfe] at hs
        exact hs
    exact ⟨six 0 (Or.inl rfl), eight, six 2 (Or.inr rfl)⟩
end X28
section X29
variable {t t' : Nat → Option p_C} {b k : Nat} {s : d_S} {r : v_TR} {T T' : Nat → Int}
theorem d_tf_le (h : v_tle t t') {v : Value} (e : d_tf t b k = some v) : d_tf t' b k = some v := by
  unfold d_tf at e ⊢
  by_cases q : 80 ≤ b
  · rw [if_pos q] at e ⊢
    cases hb : t b with
    | none => rw [hb] at e; cases e
    | some c => rw [h b c hb]; rw [hb] at e; exact e
  · rw [if_neg q] at e; cases e
theorem d_ta_le (h : v_tle t t') {vs : List Value} (e : d_ta t b = some vs) : d_ta t' b = some vs := by
  unfold d_ta at e ⊢
  by_cases q : 80 ≤ b
  · rw [if_pos q] at e ⊢
    cases hb : t b with
    | none => rw [hb] at e; cases e
    | some c => rw [h b c hb]; rw [hb] at e; exact e
  · rw [if_neg q] at e; cases e
theorem d_tfi_le (h : v_tle t t') {x : Int} (e : d_tfi t b k = some x) : d_tfi t' b k = some x := by
  unfold d_tfi at e ⊢
  cases hb : d_tf t b k with
  | none => rw [hb] at e; cases e
  | some v => rw [d_tf_le h hb]; rw [hb] at e; exact e
theorem d_tfq_le (h : v_tle t t') {x : Option Nat} (e : d_tfq t b k = some x) : d_tfq t' b k = some x := by
  unfold d_tfq at e ⊢
  cases hb : d_tf t b k with
  | none => rw [hb] at e; cases e
  | some v => rw [d_tf_le h hb]; rw [hb] at e; exact e
theorem d_tn_le (h : v_tle t t') {x : Int} (e : d_tn t b = some x) : d_tn t' b = some x := by
  unfold d_tn at e ⊢
  obtain ⟨vs, e1, e2⟩ := d_b_s e
  rw [d_ta_le h e1, d_b_t]
  exact e2
theorem d_tl_le (h : v_tle t t') {i x : Int} (e : d_tl t b i = some x) : d_tl t' b i = some x := by
  unfold d_tl at e ⊢
  obtain ⟨vs, e1, e2⟩ := d_b_s e
  rw [d_ta_le h e1, d_b_t]
  exact e2
theorem d_part_le (h : v_tle t t') {c i y : Int} (e : F_X7_part t s b c i = some y) : F_X7_part t' s b c i = some y := by
  unfold F_X7_part at e ⊢
  by_cases q : d_w (c * 7 + i) < 0
  · rw [if_pos q] at e ⊢; exact e
  rw [if_neg q] at e ⊢
  obtain ⟨v1, e1, e2⟩ := d_b_s e
  obtain ⟨b2, e3, e4⟩ := d_b_s e2
  obtain ⟨v3, e5, e6⟩ := d_b_s e4
  rw [d_tfq_le h e1, d_b_t, e3, d_b_t, d_tn_le h e5, d_b_t]
  by_cases q2 : d_w (c * 7 + i) < v3
  · rw [if_pos q2] at e6 ⊢
    obtain ⟨v4, f1, f2⟩ := d_b_s e6
    obtain ⟨b5, f3, f4⟩ := d_b_s f2
    obtain ⟨v6, f5, f6⟩ := d_b_s f4
    rw [e1] at f1
    have f1 := Option.some.inj f1
    subst f1
    rw [e3] at f3
    have f3 := Option.some.inj f3
    subst f3
    rw [d_b_t, d_b_t, d_tl_le h f5, d_b_t]
    exact f6
  · rw [if_neg q2] at e6 ⊢; exact e6
theorem v_cd.le (h : v_tle t t') {V : (Nat → Int) → Int} (e : v_cd t k V) : v_cd t' k V := fun t2 h2 s hs => e t2 (h.tr h2) s hs
theorem v_CT.le (h : v_tle t t') {L : v_LR} (e : v_CT t (some b) L) : v_CT t' (some b) L := by
  obtain ⟨e1, e2, e3⟩ := e
  refine ⟨?_, ?_, ?_⟩
  · rcases e1 with ⟨a1, a2⟩ | ⟨a, V, a1, a2, a3⟩
    · exact Or.inl ⟨d_tfq_le h a1, a2⟩
    · exact Or.inr ⟨a, V, d_tfq_le h a1, a2, a3.le h⟩
  · rcases e2 with ⟨a1, a2⟩ | ⟨a, V, a1, a2, a3⟩
    · exact Or.inl ⟨d_tfq_le h a1, a2⟩
    · exact Or.inr ⟨a, V, d_tfq_le h a1, a2, a3.le h⟩
  · rcases e3 with ⟨a1, a2⟩ | ⟨a, V, a1, a2, a3⟩
    · exact Or.inl ⟨d_tfq_le h a1, a2⟩
    · exact Or.inr ⟨a, V, d_tfq_le h a1, a2, a3.le h⟩
theorem v_TC.le (h : v_tle t t') (e : v_TC t b r) : v_TC t' b r := by
  obtain ⟨⟨e0, vs, e1⟩, e2, e3, e4, e5⟩ := e
  refine ⟨⟨e0, vs, h _ _ e1⟩, d_tfi_le h e2, e3, fun s c hc => ?_, e5.le h⟩
  obtain ⟨g1, g2, g3⟩ := e4 s c hc
  refine ⟨g1, d_part_le h g2, fun i i1 i2 => ?_⟩
  obtain ⟨y, y1, y2⟩ := g3 i i1 i2
  exact ⟨y, d_part_le h y1, y2⟩
theorem v_RS.keep {c : Int} {Vo : Option ((Nat → Int) → Int)} (e : v_RS T (k : Int) c Vo) (hT : ∀ j, 777 * k ≤ j → j < 777 * k + 777 → T' j = T j) : v_RS T' (k : Int) c Vo := fun s w top h1 h2 h3 h4 h5 => e s w top (fun j j1 j2 => (h1 j j1 j2).trans (hT j (by omega) (by omega))) h2 h3 h4 h5
theorem v_TD.keep (e : v_TD T k r) (hC : v_TC t b r) (hT : ∀ j, 777 * k ≤ j → j < 777 * k + 777 → T' j = T j) : v_TD T' k r := by
  obtain ⟨e1, e2, e3, e4, e5⟩ := e
  obtain ⟨-, -, c3, c4, -⟩ := hC
  refine ⟨by rw [hT _ (by omega) (by omega)]; exact e1, fun c hc => ?_, e3.keep hT, e4.keep hT, e5.keep hT⟩
  obtain ⟨g1, -⟩ := c4 (fun _ _ => 0, fun _ _ => none, fun _ => 0) c hc
  have h6 := v_np_6 (r.2.1 c) (by omega)
  obtain ⟨f1, f2⟩ := e2 c hc
  exact ⟨by rw [hT _ (by omega) (by omega)]; exact f1, fun i i1 i2 => by rw [hT _ (by omega) (by omega)]; exact f2 i i1 i2⟩
end X29
section X30
variable {t t2 : Nat → Option p_C} {s s3 : d_S} {h : p_H}
theorem v_R.texted (H : v_R t s) (fo : ∀ a, (4 ≤ a ∧ a ≤ 42 ∨ 47 ≤ a ∧ a ≤ 63 ∨ a = 66 ∨ a = 71) → s3.1 a = s.1 a) (f3 : ∀ j, j ≠ 5 → s3.1 3 j = s.1 3 j) (eA : ∀ j, j ≠ 1 → s3.1 65 j = s.1 65 j) (e5 : s3.1 3 5 = s3.1 65 1) (e1 : s.1 65 1 ≤ s3.1 65 1) (e4 : s3.1 65 1 ≤ 4) (hX : v_Xt t2 s3) (hXr : v_Xr s3) : v_R t2 s3 := by
  obtain ⟨hW, hI, hW2, hI2, h1, hQ, -, hN, -⟩ := H
  have ew : v_wi (s3.1 65) = v_wi (s.1 65) := by unfold v_wi; rw [eA 16 (by decide)]
  have eh : v_hi (s3.1 65) = v_hi (s.1 65) := by unfold v_hi; rw [eA 17 (by decide)]
  have eu : v_u (s3.1 65) = v_u (s.1 65) := by unfold v_u; rw [eA 14 (by decide)]
  have ev : v_v (s3.1 65) = v_v (s.1 65) := by unfold v_v; rw [eA 15 (by decide)]
  have e66 : s3.1 66 = s.1 66 := fo 66 (by omega)
  have f1 : ∀ a, (4 ≤ a ∧ a ≤ 42 ∨ 47 ≤ a ∧ a ≤ 63 ∨ a = 71) → s3.1 a = s.1 a := fun a ha => fo a (by omega)
  obtain ⟨⟨w0, w1, w2, w3, w5, w6⟩, w4⟩ := hW.1
  refine ⟨⟨⟨⟨?_, ?_, ?_, ?_, ?_, ?_⟩, fun n k hn hk => ?_⟩, hW.2.1.fr (f1 6 (by omega)) (f1 7 (by omega)) (fun j hj => eA j (by omega)), hW.2.2.1.fr (f1 8 (by omega)) (f1 9 (by omega)) (eA 3 (by decide)) (eA 16 (by decide)) (eA 17 (by decide)) (fun j h1 h2 => eA j (by omega)), hW.2.2.2.fr hI.2.2.1 (fun a h1 h2 => f1 a (by omega)) (fun j hj => eA j (by omega))⟩, ⟨hI.1.fr (fun j hj => eA j (by omega)), hI.2.1.fr (fun j h1 h2 => eA j (by omega)), ?_, ?_⟩, ?_, by rw [e66]; exact hI2, by rw [e66]; omega, ?_, hX, ⟨by rw [f1 49 (by omega)]; exact hN.1, by rw [f1 71 (by omega)]; exact hN.2⟩, hXr⟩
  · show s3.1 3 0 = _; rw [f3 0 (by decide), eA 16 (by decide)]; exact w0
  · show s3.1 3 1 = _; rw [f3 1 (by decide), eA 17 (by decide)]; exact w1
  · show s3.1 3 2 = _; rw [f3 2 (by decide), eA 18 (by decide)]; exact w2
  · show s3.1 3 3 = _; rw [f3 3 (by decide), eA 0 (by decide)]; exact w3
  · exact e5
  · show s3.1 3 6 = _; rw [f3 6 (by decide), eA 2 (by decide)]; exact w6
  · show s3.1 4 _ = _
    rw [eA 0 (by decide)] at hn
    rw [f1 4 (by omega), eA _ (by omega)]; exact w4 n k hn hk
  · obtain ⟨k1, k2, k4, k5, k6, k7, k8, g4, g5, g6, g7, g8⟩ := hI.2.2.1
    refine ⟨⟨by omega, e4⟩, by rw [eA 2 (by decide)]; omega, by rw [eA 4 (by decide)]; exact k4, by rw [eA 5 (by decide)]; exact k5, by rw [eA 6 (by decide)]; exact k6, by rw [eA 7 (by decide)]; exact k7, by rw [eA 8 (by decide)]; exact k8, fun j hj => ?_, fun j hj => ?_, fun j hj => ?_, fun j hj => ?_, fun j hj => ?_⟩
    · rw [eA 4 (by decide)] at hj; rw [eA _ (by omega), eA _ (by omega), eA _ (by omega)]; exact g4 j hj
    · rw [eA 5 (by decide)] at hj; rw [eA _ (by omega), eA _ (by omega), eA _ (by omega), eA _ (by omega)]; exact g5 j hj
    · rw [eA 6 (by decide)] at hj; rw [eA _ (by omega)]; exact g6 j hj
    · rw [eA 7 (by decide)] at hj; rw [eA _ (by omega), eA _ (by omega)]; exact g7 j hj
    · rw [eA 8 (by decide)] at hj; rw [eA _ (by omega), eA _ (by omega), eA _ (by omega), eA _ (by omega)]; exact g8 j hj
  · rw [ew, eh]
    obtain ⟨b0, b1, b3, b4, u, v, b5, b6, b7⟩ := hI.2.2.2
    refine ⟨?_, ?_, ?_, ?_, u, v, ?_, ?_, b7⟩
    · show 0 ≤ s3.1 65 9 ∧ s3.1 65 9 ≤ 999; rw [eA 9 (by decide)]; exact b0
    · show 0 ≤ s3.1 65 10 ∧ s3.1 65 10 ≤ 9; rw [eA 10 (by decide)]; exact b1
    · show 0 ≤ s3.1 65 12 ∧ s3.1 65 12 ≤ 99; rw [eA 12 (by decide)]; exact b3
    · show 0 ≤ s3.1 65 13 ∧ s3.1 65 13 < 30293; rw [eA 13 (by decide)]; exact b4
    · show s3.1 65 14 = _; rw [eA 14 (by decide)]; exact b5
    · show s3.1 65 15 = _; rw [eA 15 (by decide)]; exact b6
  · rw [e66]; exact hW2.fr (fun a h1 h2 => f1 a (by omega)) hI2
  · rw [eu, ev, ew, eh]; exact hQ.fr (fun a h1 h2 => f1 a (by omega))
theorem H_text (hW : k_wds t) (hH : d_V t h s) (H : v_R t s) : p_wp p_GT p_MT 41 m_X11_text 0 (lv_args 0 [.ref 2]) [] h (fun v h2 => ∃ t2 s2 x, v = some (.int (Int32.ofInt x)) ∧ d_V t2 h2 s2 ∧ v_tle t t2 ∧ h2.length ≤ h.length + 5 ∧ p_sl h2 ≤ p_sl h + 1973 ∧ ∃ s3, F_X12_text s2 = some (x, s3) ∧ v_R t2 s3) := by
  have H' := H
  obtain ⟨hWW, hI, hW2, hI2, h1, hQ, hX, hN, ⟨x1, x2, x3, x4, x5⟩⟩ := H'
  have w5 : s.1 3 5 = s.1 65 1 := hWW.1.1.2.2.2.2.1
  obtain ⟨k1, k2, -⟩ := hI.2.2.1
  obtain ⟨k, hk⟩ : ∃ k : Nat, s.1 65 1 = (k : Int) := ⟨(s.1 65 1).toNat, by omega⟩
  obtain ⟨n, hn⟩ : ∃ n : Nat, s.1 64 4 = (n : Int) := ⟨(s.1 64 4).toNat, by omega⟩
  obtain ⟨b, hb⟩ : ∃ b : Nat → Nat, b = fun i => if i < 300 then (s.1 68 i).toNat else 0 := ⟨_, rfl⟩
  have b8 : ∀ i, i < 300 → s.1 68 i = (b i : Int) ∧ b i < 256 := by
    intro i hi
    have hm := x3 i hi
    have e : b i = (s.1 68 i).toNat := by rw [hb]; exact if_pos hi
    omega
  have b256 : ∀ i, b i < 256 := by
    intro i
    by_cases hi : i < 300
    · exact (b8 i hi).2
    · rw [hb]; show (if i < 300 then _ else 0) < 256; rw [if_neg hi]; decide
  have hB : k_B b n s := ⟨by rw [x1]; exact hn, by omega, fun i hi => by rw [x3 i hi]; exact (b8 i hi).1, b256⟩
  refine (H_xtext (k := k) hW hH hB (by rw [w5]; exact hk) (by omega)).mono (Nat.le_refl _) ?_
  rintro v h2 ⟨q4, qlt⟩
  by_cases k4 : k = 4
  · obtain ⟨rfl, rfl⟩ := q4 k4
    exact ⟨t, s, -1, rfl, hH, fun _ _ q => q, by omega, by omega, s, P_rtext4 (by rw [hk, k4]; rfl), H⟩
  have klt : k < 4 := by omega
  obtain ⟨t2, s2, hH2, ht2, hl2, hsl2, o1, o3, p1, p5, pl, c1, c2, c3, bad, good⟩ := qlt klt
  have s2o : ∀ a, 47 ≤ a → s2.1 a = s.1 a := fun a ha => o1 a (by omega) (by omega) (by omega) (by omega)
  have hlB : l_B b n s2 := ⟨by rw [s2o 64 (by decide)]; exact hn, by omega, fun i hi => by rw [s2o 68 (by decide)]; exact (b8 i hi).1, b256⟩
  obtain ⟨s3, d1, r1, r2, r3, r4, r5, r6, r7, r8, r9⟩ := P_rtext (k := k) hlB (by rw [s2o 65 (by decide)]; exact hk) klt
  refine ⟨t2, s2, if (t_text b n).1 = 0 then (k : Int) else -1, ?_, hH2, ht2, hl2, hsl2, s3, d1, ?_⟩
  · by_cases r0 : (t_text b n).1 = 0
    · rw [if_pos r0]; exact (good r0).1
    · rw [if_neg r0]; exact (bad r0).1
  have s3o : ∀ a, a ≠ 64 → a ≠ 65 → a ≠ 67 → a ≠ 69 → a ≠ 70 → s3.1 a = s2.1 a := r1
  have fo : ∀ a, a ≠ 3 → a ≠ 43 → a ≠ 45 → a ≠ 46 → a ≠ 64 → a ≠ 65 → a ≠ 67 → a ≠ 69 → a ≠ 70 → s3.1 a = s.1 a := fun a z1 z2 z3 z4 z5 z6 z7 z8 z9 => by rw [s3o a z5 z6 z7 z8 z9, o1 a z1 z2 z3 z4]
  have e33 : s3.1 3 = s2.1 3 := s3o 3 (by decide) (by decide) (by decide) (by decide) (by decide)
  have e343 : s3.1 43 = s2.1 43 := s3o 43 (by decide) (by decide) (by decide) (by decide) (by decide)
  have eA : ∀ j, j ≠ 1 → s3.1 65 j = s.1 65 j := fun j z => by rw [r2 j z, s2o 65 (by decide)]
  have hXr : v_Xr s3 := by
    refine ⟨by rw [e343, c1, r5], by rw [r5]; omega, fun i hi => ?_, by rw [e343, c2, r6], by rw [e343, c3, r7]⟩
    rw [fo 44 (by decide) (by decide) (by decide) (by decide) (by decide) (by decide) (by decide) (by decide) (by decide), fo 68 (by decide) (by decide) (by decide) (by decide) (by decide) (by decide) (by decide) (by decide) (by decide)]
    exact x3 i hi
  have e366 : s3.1 66 = s.1 66 := fo 66 (by decide) (by decide) (by decide) (by decide) (by decide) (by decide) (by decide) (by decide) (by decide)
  have hkeep : ∀ j, j < 777 * k ∨ 777 * k + 777 ≤ j → s3.1 67 j = s.1 67 j := fun j hj => by rw [r4 j hj, s2o 67 (by decide)]
  obtain ⟨r, ra, rb⟩ := hX
  by_cases r0 : (t_text b n).1 = 0
  · obtain ⟨-, g1, a, g2, g3⟩ := good r0
    obtain ⟨o', w', j1, j2, j3, j4, j5⟩ := r9 r0
    rw [if_pos r0] at r8
    refine H.texted (fun a ha => fo a (by omega) (by omega) (by omega) (by omega) (by omega) (by omega) (by omega) (by omega) (by omega)) (fun j z => by rw [e33]; exact o3 j z) eA (by rw [e33, g1, r8]) (by rw [r8, hk]; omega) (by rw [r8]; omega) ?_ hXr
    refine ⟨fun j => if j = k then t_TR b n else r j, fun j hj => ?_, fun j hj => ?_⟩
    · rw [r8] at hj
      by_cases jk : j = k
      · subst jk
        simp only [if_pos rfl]
        exact ⟨l_TD r0 klt j3 j1 j2 j4 j5, a, by rw [r3]; exact g2, g3.TC r0⟩
      · simp only [if_neg jk]
        obtain ⟨a1, b', a2, a3⟩ := ra j (by omega)
        exact ⟨a1.keep a3 (fun i i1 i2 => hkeep i (by omega)), b', by rw [r3, p5 j jk]; exact a2, a3.le ht2⟩
    · rw [e366] at hj
      have jk : ¬ j = k := by omega
      simp only [if_neg jk]
      obtain ⟨b', a2, a3⟩ := rb j hj
      exact ⟨b', by rw [r3, p1 22 (by decide) (by decide)]; exact a2, a3.le ht2⟩
  · obtain ⟨-, g1, g2⟩ := bad r0
    rw [if_neg r0] at r8
    refine H.texted (fun a ha => fo a (by omega) (by omega) (by omega) (by omega) (by omega) (by omega) (by omega) (by omega) (by omega)) (fun j z => by rw [e33]; exact o3 j z) eA (by rw [e33, g1, r8]) (by rw [r8, hk]; omega) (by rw [r8]; omega) ?_ hXr
    refine ⟨r, fun j hj => ?_, fun j hj => ?_⟩
    · rw [r8] at hj
      obtain ⟨a1, b', a2, a3⟩ := ra j (by omega)
      exact ⟨a1.keep a3 (fun i i1 i2 => hkeep i (by omega)), b', by rw [r3, p5 j (by omega)]; exact a2, a3.le ht2⟩
    · rw [e366] at hj
      obtain ⟨b', a2, a3⟩ := rb j hj
      exact ⟨b', by rw [r3, p1 22 (by decide) (by decide)]; exact a2, a3.le ht2⟩
end X30
section X31
variable {s s' z z' : d_S} {t : Nat → Option p_C} {x : Int} {n : Nat}
theorem f_b8 {y : Int} : d_b8 y % 256 = y % 256 := by
  unfold d_b8
  rw [Int32.toInt_toInt8, Int32.toInt_ofInt, show Int32.size = 4294967296 from rfl]
  unfold Int.bmod
  rw [show (2 : Nat) ^ 8 = 256 from rfl]
  simp only
  split <;> split <;> omega
theorem f_appl : ∀ (j n m : Nat) (s : d_S), n + j ≤ 300 → j ≤ 4 → j < m → s.1 43 1 = (n : Int) → ∃ s', F_X3_append_l3 m x (8 * (j : Int) - 8) s = some s' ∧ s'.1 43 1 = ((n + j : Nat) : Int) ∧ (∀ k, k ≠ 1 → s'.1 43 k = s.1 43 k) ∧ (∀ a, a ≠ 43 → a ≠ 44 → s'.1 a = s.1 a) ∧ s'.2 = s.2 ∧ ∀ i, s'.1 44 i = if n ≤ i ∧ i < n + j then d_b8 (d_shr x (8 * (j : Int) - 8 - 8 * ((i : Int) - (n : Int)))) else s.1 44 i := by
  intro j
  induction j with
  | zero =>
    intro n m s hn hj hm h1
    obtain ⟨m, rfl⟩ : ∃ w, m = w + 1 := ⟨m - 1, by omega⟩
    refine ⟨s, ?_, h1, fun _ _ => rfl, fun _ _ _ => rfl, rfl, fun i => by rw [if_neg (by omega)]⟩
    show F_X3_append_l3_b (F_X3_append_l3 m) _ _ s = _
    unfold F_X3_append_l3_b
    rw [if_pos (by omega)]
  | succ j ih =>
    intro n m s hn hj hm h1
    obtain ⟨m, rfl⟩ : ∃ w, m = w + 1 := ⟨m - 1, by omega⟩
    obtain ⟨s3, hs3⟩ : ∃ w, w = d_si (d_si s 44 n (d_b8 (d_shr x (8 * ((j + 1 : Nat) : Int) - 8)))) 43 1 ((n : Int) + 1) := ⟨_, rfl⟩
    have g1 : s3.1 43 1 = ((n + 1 : Nat) : Int) := by rw [hs3, d_si_i, d_u_t]; rfl
    obtain ⟨s', a1, a2, a3, a4, a5, a6⟩ := ih (n + 1) m s3 (by omega) (by omega) (by omega) g1
    refine ⟨s', ?_, by rw [a2]; congr 1; omega, fun k hk => by rw [a3 k hk, hs3, d_si_i, d_u_n hk, d_si_n (by decide)], fun a q1 q2 => by rw [a4 a q1 q2, hs3, d_si_n q1, d_si_n q2], by rw [a5, hs3]; rfl, fun i => ?_⟩
    · show F_X3_append_l3_b (F_X3_append_l3 m) _ _ s = _
      unfold F_X3_append_l3_b
      rw [if_neg (by omega), h1, if_pos (by omega), d_g_t (by omega), Int.toNat_natCast, d_l_t, show (d_si s 44 n (d_b8 (d_shr x (8 * ((j + 1 : Nat) : Int) - 8)))).1 43 1 = (n : Int) by rw [d_si_n (by decide)]; exact h1, d_w_id (x := (n : Int) + 1) (by omega) (by omega), d_l_t, ← hs3, d_w_id (by omega) (by omega), show 8 * ((j + 1 : Nat) : Int) - 8 + (-8) = 8 * (j : Int) - 8 by omega]
      exact a1
    · have e44 : s3.1 44 i = d_u (s.1 44) n (d_b8 (d_shr x (8 * ((j + 1 : Nat) : Int) - 8))) i := by rw [hs3, d_si_n (by decide), d_si_i]
      rw [a6 i]
      by_cases q : i = n
      · subst q
        rw [if_neg (by omega), if_pos (by omega), e44, d_u_t, Int.sub_self, Int.mul_zero, Int.sub_zero]
      · by_cases q2 : n + 1 ≤ i ∧ i < n + 1 + j
        · rw [if_pos q2, if_pos (by omega)]
          congr 2
          omega
        · rw [if_neg q2, if_neg (by omega), e44, d_u_n q]
theorem f_fourl : ∀ (j n m : Nat) (s : d_S), n + j ≤ 300 → j ≤ 4 → j < m → s.1 64 4 = (n : Int) → ∃ s', F_X12_four_l3 m x (8 * (j : Int) - 8) s = some s' ∧ s'.1 64 4 = ((n + j : Nat) : Int) ∧ (∀ k, k ≠ 4 → s'.1 64 k = s.1 64 k) ∧ (∀ a, a ≠ 64 → a ≠ 68 → s'.1 a = s.1 a) ∧ s'.2 = s.2 ∧ ∀ i, s'.1 68 i = if n ≤ i ∧ i < n + j then d_and (d_shr x (8 * (j : Int) - 8 - 8 * ((i : Int) - (n : Int)))) 255 else s.1 68 i := by
  intro j
  induction j with
  | zero =>
    intro n m s hn hj hm h1
    obtain ⟨m, rfl⟩ : ∃ w, m = w + 1 := ⟨m - 1, by omega⟩
    refine ⟨s, ?_, h1, fun _ _ => rfl, fun _ _ _ => rfl, rfl, fun i => by rw [if_neg (by omega)]⟩
    show F_X12_four_l3_b (F_X12_four_l3 m) _ _ s = _
    unfold F_X12_four_l3_b
    rw [if_pos (by omega)]
  | succ j ih =>
    intro n m s hn hj hm h1
    obtain ⟨m, rfl⟩ : ∃ w, m = w + 1 := ⟨m - 1, by omega⟩
    obtain ⟨s3, hs3⟩ : ∃ w, w = d_si (d_si s 68 n (d_and (d_shr x (8 * ((j + 1 : Nat) : Int) - 8)) 255)) 64 4 ((n : Int) + 1) := ⟨_, rfl⟩
    have g1 : s3.1 64 4 = ((n + 1 : Nat) : Int) := by rw [hs3, d_si_i, d_u_t]; rfl
    obtain ⟨s', a1, a2, a3, a4, a5, a6⟩ := ih (n + 1) m s3 (by omega) (by omega) (by omega) g1
    refine ⟨s', ?_, by rw [a2]; congr 1; omega, fun k hk => by rw [a3 k hk, hs3, d_si_i, d_u_n hk, d_si_n (by decide)], fun a q1 q2 => by rw [a4 a q1 q2, hs3, d_si_n q1, d_si_n q2], by rw [a5, hs3]; rfl, fun i => ?_⟩
    · show F_X12_four_l3_b (F_X12_four_l3 m) _ _ s = _
      unfold F_X12_four_l3_b
      rw [if_neg (by omega), h1, d_g_t (by omega), Int.toNat_natCast, d_l_t, show (d_si s 68 n (d_and (d_shr x (8 * ((j + 1 : Nat) : Int) - 8)) 255)).1 64 4 = (n : Int) by rw [d_si_n (by decide)]; exact h1, d_w_id (x := (n : Int) + 1) (by omega) (by omega), d_l_t, ← hs3, d_w_id (by omega) (by omega), show 8 * ((j + 1 : Nat) : Int) - 8 + (-8) = 8 * (j : Int) - 8 by omega]
      exact a1
    · have e44 : s3.1 68 i = d_u (s.1 68) n (d_and (d_shr x (8 * ((j + 1 : Nat) : Int) - 8)) 255) i := by rw [hs3, d_si_n (by decide), d_si_i]
      rw [a6 i]
      by_cases q : i = n
      · subst q
        rw [if_neg (by omega), if_pos (by omega), e44, d_u_t, Int.sub_self, Int.mul_zero, Int.sub_zero]
      · by_cases q2 : n + 1 ≤ i ∧ i < n + 1 + j
        · rw [if_pos q2, if_pos (by omega)]
          congr 2
          omega
        · rw [if_neg q2, if_neg (by omega), e44, d_u_n q]
def f_E (n : Nat) (s z : d_S) : Prop := s.1 43 1 = (n : Int) ∧ z.1 64 4 = (n : Int) ∧ ∀ i, i < 300 → s.1 44 i % 256 = z.1 68 i
def f_c (s s' : d_S) : Prop := (∀ k, k ≠ 1 → s'.1 43 k = s.1 43 k) ∧ (∀ a, a ≠ 43 → a ≠ 44 → s'.1 a = s.1 a) ∧ s'.2 = s.2
def f_r (s s' : d_S) : Prop := (∀ k, k ≠ 4 → s'.1 64 k = s.1 64 k) ∧ (∀ a, a ≠ 64 → a ≠ 68 → s'.1 a = s.1 a) ∧ s'.2 = s.2
theorem f_c.tr {s1 : d_S} (h : f_c s s1) (h' : f_c s1 s') : f_c s s' := ⟨fun a y => (h'.1 a y).trans (h.1 a y), fun a y u => (h'.2.1 a y u).trans (h.2.1 a y u), h'.2.2.trans h.2.2⟩
theorem f_r.tr {s1 : d_S} (h : f_r s s1) (h' : f_r s1 s') : f_r s s' := ⟨fun a y => (h'.1 a y).trans (h.1 a y), fun a y u => (h'.2.1 a y u).trans (h.2.1 a y u), h'.2.2.trans h.2.2⟩
theorem f_one (x : Int) (hE : f_E n s z) (hn : n + 4 ≤ 300) : ∃ s' z', F_X3_append s x = some s' ∧ F_X12_four z x = some z' ∧ f_E (n + 4) s' z' ∧ f_c s s' ∧ f_r z z' := by
  obtain ⟨s', a1, a2, a3, a4, a5, a6⟩ := f_appl (x := x) 4 n d_N s hn (Nat.le_refl _) (by rw [d_N_is]; decide) hE.1
  obtain ⟨z', b1, b2, b3, b4, b5, b6⟩ := f_fourl (x := x) 4 n d_N z hn (Nat.le_refl _) (by rw [d_N_is]; decide) hE.2.1
  refine ⟨s', z', a1, b1, ⟨a2, b2, fun i hi => ?_⟩, ⟨a3, a4, a5⟩, ⟨b3, b4, b5⟩⟩
  rw [a6 i, b6 i]
  by_cases q : n ≤ i ∧ i < n + 4
  · rw [if_pos q, if_pos q, f_b8, k_and255]
  · rw [if_neg q, if_neg q]; exact hE.2.2 i hi
theorem R_feed (H : v_R t s) {x1 x2 x3 x4 x5 : Int} : v_AA t (F_X11_feed s x1 x2 x3 x4 x5) (fun s1 => F_X12_feed s1 x1 x2 x3 x4 x5) := by
  have H' := H
  obtain ⟨hWW, hI, hW2, hI2, h1, hQ, hX, hN, ⟨q1, q2, q3, q4, q5⟩⟩ := H'
  obtain ⟨n, hn⟩ : ∃ n : Nat, s.1 64 4 = (n : Int) := ⟨(s.1 64 4).toNat, by omega⟩
  have h43 : s.1 43 1 = (n : Int) := by rw [q1]; exact hn
  unfold F_X11_feed F_X3_hasRoom
  rw [h43, d_w_id (by omega) (by omega)]
  by_cases c : (300 : Int) < (n : Int) + 20
  · rw [if_pos c, d_b_t, if_pos rfl]
    refine ⟨-1, s, s, rfl, ?_, H⟩
    show F_X12_feed s x1 x2 x3 x4 x5 = _
    unfold F_X12_feed
    rw [hn, d_w_id (by omega) (by omega), if_pos c]
  rw [if_neg c, d_b_t, if_neg (by decide)]
  obtain ⟨sa, za, a1, -, aE, ac, ar⟩ := f_one (n := n) (s := s) (z := s) x1 ⟨h43, hn, q3⟩ (by omega)
  obtain ⟨sb, zb, b1, -, bE, bc, br⟩ := f_one (n := n + 4) x2 aE (by omega)
  obtain ⟨sc, zc, c1, -, cE, cc, cr⟩ := f_one (n := n + 4 + 4) x3 bE (by omega)
  obtain ⟨sd, zd, d1, -, dE, dc, dr⟩ := f_one (n := n + 4 + 4 + 4) x4 cE (by omega)
  obtain ⟨se, ze, e1, -, eE, ec, er⟩ := f_one (n := n + 4 + 4 + 4 + 4) x5 dE (by omega)
  have hc : f_c s se := (((ac.tr bc).tr cc).tr dc).tr ec
  have E0 : f_E n s se := ⟨h43, by rw [hc.2.1 64 (by decide) (by decide)]; exact hn, fun i hi => by rw [hc.2.1 68 (by decide) (by decide)]; exact q3 i hi⟩
  have un : ∀ (u v v' : d_S) (y : Int), F_X3_append u y = some v → F_X3_append u y = some v' → v = v' := fun u v v' y p q => Option.some.inj (p.symm.trans q)
  obtain ⟨sa', ya, a1', a2', aE', -, ar'⟩ := f_one (n := n) x1 E0 (by omega)
  obtain rfl := un _ _ _ _ a1 a1'
  obtain ⟨sb', yb, b1', b2', bE', -, br'⟩ := f_one (n := n + 4) x2 aE' (by omega)
  obtain rfl := un _ _ _ _ b1 b1'
  obtain ⟨sc', yc, c1', c2', cE', -, cr'⟩ := f_one (n := n + 4 + 4) x3 bE' (by omega)
  obtain rfl := un _ _ _ _ c1 c1'
  obtain ⟨sd', yd, d1', d2', dE', -, dr'⟩ := f_one (n := n + 4 + 4 + 4) x4 cE' (by omega)
  obtain rfl := un _ _ _ _ d1 d1'
  obtain ⟨se', ye, e1', e2', eE', -, er'⟩ := f_one (n := n + 4 + 4 + 4 + 4) x5 dE' (by omega)
  obtain rfl := un _ _ _ _ e1 e1'
  have hr : f_r se ye := (((ar'.tr br').tr cr').tr dr').tr er'
  rw [a1, d_b_t, b1, d_b_t, c1, d_b_t, d1, d_b_t, e1, d_b_t]
  refine ⟨((n + 20 : Nat) : Int), se, ye, by rw [eE'.1], ?_, ?_⟩
  · show F_X12_feed se x1 x2 x3 x4 x5 = _
    unfold F_X12_feed
    rw [E0.2.1, d_w_id (by omega) (by omega), if_neg c, a2', d_b_t, b2', d_b_t, c2', d_b_t, d2', d_b_t, e2', d_b_t, eE'.2.1]
  · have fo : ∀ a, a ≠ 43 → a ≠ 44 → a ≠ 64 → a ≠ 68 → ye.1 a = s.1 a := fun a z1 z2 z3 z4 => by rw [hr.2.1 a z3 z4, hc.2.1 a z1 z2]
    have ep : ye.2 = s.2 := by rw [hr.2.2, hc.2.2]
    have e43 : ∀ k, ye.1 43 k = se.1 43 k := fun k => by rw [hr.2.1 43 (by decide) (by decide)]
    have hXr : v_Xr ye := by
      refine ⟨by rw [e43, eE'.1, eE'.2.1], by rw [eE'.2.1]; omega, fun i hi => by rw [hr.2.1 44 (by decide) (by decide)]; exact eE'.2.2 i hi, ?_, ?_⟩
      · rw [e43, hc.1 2 (by decide), hr.1 5 (by decide), hc.2.1 64 (by decide) (by decide)]; exact q4
      · rw [e43, hc.1 3 (by decide), hr.1 6 (by decide), hc.2.1 64 (by decide) (by decide)]; exact q5
    exact H.texted (fun a ha => fo a (by omega) (by omega) (by omega) (by omega)) (fun j _ => by rw [fo 3 (by decide) (by decide) (by decide) (by decide)]) (fun j _ => by rw [fo 65 (by decide) (by decide) (by decide) (by decide)]) (by rw [fo 3 (by decide) (by decide) (by decide) (by decide), fo 65 (by decide) (by decide) (by decide) (by decide)]; exact hWW.1.1.2.2.2.2.1) (by rw [fo 65 (by decide) (by decide) (by decide) (by decide)]; omega) (by rw [fo 65 (by decide) (by decide) (by decide) (by decide)]; exact hI.2.2.1.1.2) (hX.fr (by rw [fo 65 (by decide) (by decide) (by decide) (by decide)]) (fo 66 (by decide) (by decide) (by decide) (by decide)) (fo 67 (by decide) (by decide) (by decide) (by decide)) (by rw [ep]) (by rw [ep])) hXr
end X31

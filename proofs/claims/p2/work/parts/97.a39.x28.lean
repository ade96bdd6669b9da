def t_L (b : Nat → Nat) (n : Nat) : List (Nat × Nat) := t_cs2 b n 26 0 0 (t_sk b n 0)
def t_lf (b : Nat → Nat) (n k : Nat) : Option (Nat × Nat) := (t_L b n).find? (fun e => Nat.beq e.1 k)
def t_nam (day heat size straw melted edge sights kinds : Int) (j : Nat) : Int := if j = 0 then straw else if j = 1 then day else if j = 2 then heat else if j = 3 then size else if j = 4 then melted else if j = 5 then edge else if j = 6 then sights else kinds
def t_LR (b : Nat → Nat) (n : Nat) : v_LR := ((t_lf b n 0).map (fun e => fun day heat size straw melted edge => t_V b n false (t_nam day heat size straw melted edge 0 0) 4000 2 0 0 e.2 0), (t_lf b n 1).map (fun e => fun day heat size straw melted edge sights kinds => t_V b n true (t_nam day heat size straw melted edge sights kinds) 4000 2 0 0 e.2 0), (t_lf b n 2).map (fun e => fun day heat size straw melted edge => t_V b n false (t_nam day heat size straw melted edge 0 0) 4000 2 0 0 e.2 0))
def t_TR (b : Nat → Nat) (n : Nat) : v_TR := ((t_L b n).length, fun c => ((t_L b n).getD c (0, 0)).1, fun c i => (((t_cn b n ((t_L b n).getD c (0, 0))).getD (i - 1) 0 : Nat) : Int), t_LR b n)
section X28
variable {b : Nat → Nat} {n k : Nat} {t t' : Nat → Option p_C} {s : d_S} {a : Nat} {e : Nat × Nat}
theorem t_lf_some (h : t_lf b n k = some e) : e ∈ t_L b n ∧ e.1 = k := ⟨List.mem_of_find?_eq_some h, Nat.eq_of_beq_eq_true (List.find?_some (p := fun e : Nat × Nat => Nat.beq e.1 k) h)⟩
theorem t_lf_none (h : t_lf b n k = none) : ∀ e, e ∈ t_L b n → e.1 ≠ k := fun e he q => by
  have := List.find?_eq_none.1 h e he
  rw [q] at this
  exact this (Nat.beq_refl k)
theorem t_getD (c : Nat) (hc : c < (t_L b n).length) : (t_L b n)[c]? = some ((t_L b n).getD c (0, 0)) := by
  rw [List.getD_eq_getElem?_getD, List.getElem?_eq_getElem hc]; rfl
theorem t_eq6 {x : Nat} (h : (t_P b n false 4000 2 0 0 x).1 = 0) (ν : Nat → Int) : t_V b n false ν 4000 2 0 0 x 0 = t_V b n false (t_nam (ν 1) (ν 2) (ν 3) (ν 0) (ν 4) (ν 5) 0 0) 4000 2 0 0 x 0 := by
  refine t_Vir (S := false) (fun j hj => ?_) 4000 2 0 0 x 0 (by omega) h
  have hj : j < 6 := hj
  have : j = 0 ∨ j = 1 ∨ j = 2 ∨ j = 3 ∨ j = 4 ∨ j = 5 := by omega
  rcases this with rfl | rfl | rfl | rfl | rfl | rfl <;> rfl
theorem t_eq8 {x : Nat} (h : (t_P b n true 4000 2 0 0 x).1 = 0) (ν : Nat → Int) : t_V b n true ν 4000 2 0 0 x 0 = t_V b n true (t_nam (ν 1) (ν 2) (ν 3) (ν 0) (ν 4) (ν 5) (ν 6) (ν 7)) 4000 2 0 0 x 0 := by
  refine t_Vir (S := true) (fun j hj => ?_) 4000 2 0 0 x 0 (by omega) h
  have hj : j < 8 := hj
  have : j = 0 ∨ j = 1 ∨ j = 2 ∨ j = 3 ∨ j = 4 ∨ j = 5 ∨ j = 6 ∨ j = 7 := by omega
  rcases this with rfl | rfl | rfl | rfl | rfl | rfl | rfl | rfl <;> rfl
theorem t_ok (ht : (t_text b n).1 = 0) (he : e ∈ t_L b n) : (t_bd b n e.1 e.2).1 = 0 := t_cs2_ok 26 0 0 (t_sk b n 0) ht e he
theorem H_new.TC (ht : (t_text b n).1 = 0) (h : H_new t b n a) : v_TC t a (t_TR b n) := by
  obtain ⟨q, rb, rows, R, o, h1, h2, h3, h4, h5, h6, h7, h8, h9, h10⟩ := h
  have hL : t_cs2 b n 26 0 0 (t_sk b n 0) = t_L b n := rfl
  rw [hL] at h3 h5 h6 h7 h8 h9 h10
  have tf : ∀ k v, [d_pv (q 11), d_pv (q 12), d_pv (q 13), Value.int (Int32.ofInt ((t_L b n).length : Int)), Value.ref rb][k]? = some v → d_tf t a k = some v := by
    intro k v hv
    unfold d_tf
    rw [if_pos h1, h3]
    exact hv
  have tq : ∀ k (x : Option Nat), d_tf t a k = some (d_pv x) → d_tfq t a k = some x := by
    intro k x hx
    unfold d_tfq
    rw [hx]
    cases x <;> rfl
  have t4 : d_tfq t a 4 = some (some rb) := tq 4 (some rb) (tf 4 _ rfl)
  have tn : d_tn t rb = some ((7 * (t_L b n).length : Nat) : Int) := by
    unfold d_tn d_ta
    rw [if_pos h2, h4]
    show d_b (some rows) _ = _
    rw [d_b_t, h5, if_pos (by omega)]
  have tl : ∀ j : Nat, j < 7 * (t_L b n).length → d_tl t rb (j : Int) = some (R j) := by
    intro j hj
    obtain ⟨g1, g2⟩ := h6 j hj
    unfold d_tl d_ta
    rw [if_pos h2, h4]
    show d_b (some rows) _ = _
    rw [d_b_t, if_pos (by omega), Int.toNat_natCast, g1]
    show some ((Int32.ofInt (R j)).toInt) = _
    rw [d_ti g2]
  have part : ∀ (s : d_S) (c i : Nat), c < (t_L b n).length → i < 7 → F_X7_part t s a (c : Int) (i : Int) = some (R (7 * c + i)) := by
    intro s c i hc hi
    have ei : d_w ((c : Int) * 7 + (i : Int)) = ((7 * c + i : Nat) : Int) := by rw [d_w_id (by omega) (by omega)]; omega
    unfold F_X7_part
    rw [ei, if_neg (by omega), t4, d_b_t, d_b_t, tn, d_b_t, if_pos (by omega), d_b_t, d_b_t, tl _ (by omega), d_b_t]
  refine ⟨⟨h1, _, h3⟩, ?_, h7, fun s c hc => ?_, ?_⟩
  · unfold d_tfi
    rw [tf 3 _ rfl]
    show some ((Int32.ofInt ((t_L b n).length : Int)).toInt) = _
    rw [d_ti ⟨by omega, by omega⟩]; rfl
  · have hc : c < (t_L b n).length := hc
    have hg := t_getD c hc
    obtain ⟨g1, g2, g3⟩ := h9 c _ hg
    obtain ⟨e, he⟩ : ∃ e, e = (t_L b n).getD c (0, 0) := ⟨_, rfl⟩
    show ((t_L b n).getD c (0, 0)).1 ≤ 9 ∧ F_X7_part t s a (c : Int) 0 = some ((((t_L b n).getD c (0, 0)).1 : Nat) : Int) ∧ _
    rw [← he] at hg g1 g2 g3 ⊢
    refine ⟨g1, ?_, fun i hi1 hi7 => ⟨R (7 * c + i), part s c i hc hi7, fun hnp => ?_⟩⟩
    · have := part s c 0 hc (by decide)
      rw [Nat.add_zero, g2] at this
      exact this
    · have hnp : i ≤ v_np e.1 := by rw [he]; exact hnp
      have hl := t_cn_len (b := b) (n := n) g1
      obtain ⟨v, hv⟩ : ∃ v, (t_cn b n e)[i - 1]? = some v := ⟨_, List.getElem?_eq_getElem (show i - 1 < (t_cn b n e).length by omega)⟩
      have gv := g3 (i - 1) v hv
      rw [show 7 * c + 1 + (i - 1) = 7 * c + i by omega] at gv
      have hd : (t_cn b n e).getD (i - 1) 0 = v := by rw [List.getD_eq_getElem?_getD, hv]; rfl
      have h99 := t_cn_99 (b := b) (n := n) g1 (t_ok ht (List.mem_of_getElem? hg)) v (List.mem_of_getElem? hv)
      refine ⟨?_, by omega, by omega⟩
      show R (7 * c + i) = (((t_cn b n ((t_L b n).getD c (0, 0))).getD (i - 1) 0 : Nat) : Int)
      rw [← he, hd, gv]
  · have lq : ∀ k, k < 3 → d_tfq t a k = some (q (11 + k)) := by
      intro k hk
      have : k = 0 ∨ k = 1 ∨ k = 2 := by omega
      rcases this with rfl | rfl | rfl
      · exact tq 0 _ (tf 0 _ rfl)
      · exact tq 1 _ (tf 1 _ rfl)
      · exact tq 2 _ (tf 2 _ rfl)
    have law6 : ∀ k, (k = 0 ∨ k = 2) → (d_tfq t a k = some none ∧ (t_lf b n k).map (fun e => fun day heat size straw melted edge => t_V b n false (t_nam day heat size straw melted edge 0 0) 4000 2 0 0 e.2 0) = none) ∨ ∃ c V, d_tfq t a k = some (some c) ∧ (t_lf b n k).map (fun e => fun day heat size straw melted edge => t_V b n false (t_nam day heat size straw melted edge 0 0) 4000 2 0 0 e.2 0) = some V ∧ v_cd t c (fun f => V (f 1) (f 2) (f 3) (f 0) (f 4) (f 5)) := by
      intro k hk
      obtain ⟨j1, j2⟩ := h10 k (by omega)
      have hkb : Nat.beq k 1 = false := by rcases hk with rfl | rfl <;> rfl
      cases hf : t_lf b n k with
      | none => exact Or.inl ⟨by rw [lq k (by omega), j1 (t_lf_none hf)], rfl⟩
      | some e =>
        obtain ⟨e1, e2⟩ := t_lf_some hf
        obtain ⟨c, C, len, i1, i2, i3⟩ := j2 e e1 e2
        have hok := t_ok ht e1
        have hok' : (t_P b n false 4000 2 0 0 e.2).1 = 0 := by
          have : t_bd b n e.1 e.2 = t_P b n (Nat.beq e.1 1) 4000 2 0 0 e.2 := if_pos (show e.1 < 3 by omega)
          rw [this, e2, hkb] at hok
          exact hok
        refine Or.inr ⟨c, _, by rw [lq k (by omega), i1], rfl, m_cd (D := 19) i2 (fun ν hν => ?_) (by decide)⟩
        have := i3 ν hν
        rw [hkb, t_eq6 hok' ν] at this
        exact this
    have law8 : (d_tfq t a 1 = some none ∧ (t_lf b n 1).map (fun e => fun day heat size straw melted edge sights kinds => t_V b n true (t_nam day heat size straw melted edge sights kinds) 4000 2 0 0 e.2 0) = none) ∨ ∃ c V, d_tfq t a 1 = some (some c) ∧ (t_lf b n 1).map (fun e => fun day heat size straw melted edge sights kinds => t_V b n true (t_nam day heat size straw melted edge sights kinds) 4000 2 0 0 e.2 0) = some V ∧ v_cd t c (fun f => V (f 1) (f 2) (f 3) (f 0) (f 4) (f 5) (f 6) (f 7)) := by
      obtain ⟨j1, j2⟩ := h10 1 (by decide)
      cases hf : t_lf b n 1 with
      | none => exact Or.inl ⟨by rw [lq 1 (by decide), j1 (t_lf_none hf)], rfl⟩
      | some e =>
        obtain ⟨e1, e2⟩ := t_lf_some hf
        obtain ⟨c, C, len, i1, i2, i3⟩ := j2 e e1 e2
        have hok := t_ok ht e1
        have hok' : (t_P b n true 4000 2 0 0 e.2).1 = 0 := by
          have : t_bd b n e.1 e.2 = t_P b n (Nat.beq e.1 1) 4000 2 0 0 e.2 := if_pos (show e.1 < 3 by omega)
          rw [this, e2] at hok
          exact hok
        refine Or.inr ⟨c, _, by rw [lq 1 (by decide), i1], rfl, m_cd (D := 19) i2 (fun ν hν => ?_) (by decide)⟩
        have := i3 ν hν
        rw [show Nat.beq 1 1 = true from rfl, t_eq8 hok' ν] at this
        exact this
    exact ⟨law6 0 (Or.inl rfl), law8, law6 2 (Or.inr rfl)⟩
theorem l_TD {T : Nat → Int} {k o w : Nat} (ht : (t_text b n).1 = 0) (hk : k < 4) (hw : w ≤ 303) (hL : (t_L b n).length ≤ 24) (h0 : T (777 * k) = ((t_L b n).length : Int)) (hLO : t_LO (t_L b n) o) (hrow : ∀ c e, (t_L b n)[c]? = some e → l_row b n T (777 * k) w c e) : v_TD T k (t_TR b n) := by
  refine ⟨h0, fun c hc => ?_, ?_⟩
  · have hc : c < (t_L b n).length := hc
    have hg := t_getD c hc
    obtain ⟨g1, g2, g3, -⟩ := hrow c _ hg
    refine ⟨g2, fun i hi hnp => ?_⟩
    have hnp : i ≤ v_np ((t_L b n).getD c (0, 0)).1 := hnp
    show T (777 * k + 1 + 7 * c + i) = (((t_cn b n ((t_L b n).getD c (0, 0))).getD (i - 1) 0 : Nat) : Int)
    obtain ⟨e, he⟩ : ∃ e, e = (t_L b n).getD c (0, 0) := ⟨_, rfl⟩
    rw [← he] at g1 g3 hnp ⊢
    have hl := t_cn_len (b := b) (n := n) g1
    obtain ⟨v, hv⟩ : ∃ v, (t_cn b n e)[i - 1]? = some v := ⟨_, List.getElem?_eq_getElem (show i - 1 < (t_cn b n e).length by omega)⟩
    have hd : (t_cn b n e).getD (i - 1) 0 = v := by rw [List.getD_eq_getElem?_getD, hv]; rfl
    have gv := g3 (i - 1) v hv
    rw [show 777 * k + 2 + 7 * c + (i - 1) = 777 * k + 1 + 7 * c + i by omega] at gv
    rw [hd, gv]
  · have hsx : ∀ c e, (t_L b n)[c]? = some e → ∀ k' : Nat, k' < 3 → e.1 ≠ k' → T (777 * k + 1 + 7 * c) ≠ (k' : Int) := by
      intro c e hce k' hk' hne
      obtain ⟨g1, g2, -⟩ := hrow c e hce
      rw [g2]
      by_cases q : e.1 < 3
      · rw [v_sx_law _ q]; omega
      · have := v_sx_big e.1 (by omega) (by omega); omega
    have hnone : ∀ k' : Nat, k' < 3 → t_lf b n k' = none → v_RS T (k : Int) (k' : Int) none := by
      intro k' hk' hf
      refine n_none hk hL h0 (fun c hc => ?_)
      have hg := t_getD c hc
      exact hsx c _ hg k' hk' (t_lf_none hf _ (List.mem_of_getElem? hg))
    have hsome : ∀ (k' : Nat) (e : Nat × Nat), k' < 3 → t_lf b n k' = some e → v_RS T (k : Int) (k' : Int) (some (fun f => t_V b n (Nat.beq k' 1) (fun j => f (t_ri j)) 4000 2 0 0 e.2 0)) := by
      intro k' e hk' hf
      obtain ⟨e1, e2⟩ := t_lf_some hf
      obtain ⟨c, hc⟩ := List.getElem?_of_mem e1
      have hcl : c < (t_L b n).length := (List.getElem?_eq_some_iff.mp hc).1
      obtain ⟨g1, g2, g3, g4⟩ := hrow c e hc
      obtain ⟨f0, E, i1, i2, i3, i4, i5⟩ := g4 (by omega)
      refine n_some (f0 := f0) (E := E) (V := fun ν => t_V b n (Nat.beq k' 1) ν 4000 2 0 0 e.2 0) ⟨hk, c, (t_L b n).length, hL, hcl, h0, fun j hj => ?_, ?_, i1, i2, by omega, i4⟩ (fun ν hν => ?_)
      · have hjg := t_getD (b := b) (n := n) j (by omega)
        refine hsx j _ hjg k' hk' (fun q => ?_)
        have := hLO.2.2 j c _ e hjg hc (by omega) (by omega)
        omega
      · rw [g2, v_sx_law _ (by omega), e2]
      · rw [← e2]; exact i5 ν hν
    have six : ∀ k' : Nat, (k' = 0 ∨ k' = 2) → v_RS T (k : Int) (k' : Int) (((t_lf b n k').map (fun e => fun day heat size straw melted edge => t_V b n false (t_nam day heat size straw melted edge 0 0) 4000 2 0 0 e.2 0)).map (fun V f => V (f 0) (f 1) (f 2) (f 3) (f 4) (f 5))) := by
      intro k' hk'
      have hkb : Nat.beq k' 1 = false := by rcases hk' with rfl | rfl <;> rfl
      cases hf : t_lf b n k' with
      | none => exact hnone k' (by omega) hf
      | some e =>
        obtain ⟨e1, e2⟩ := t_lf_some hf
        have hok := t_ok ht e1
        have hok' : (t_P b n false 4000 2 0 0 e.2).1 = 0 := by
          have : t_bd b n e.1 e.2 = t_P b n (Nat.beq e.1 1) 4000 2 0 0 e.2 := if_pos (show e.1 < 3 by omega)
          rw [this, e2, hkb] at hok
          exact hok
        have hs := hsome k' e (by omega) hf
        rw [hkb] at hs
        have hfe : (fun f : Nat → Int => t_V b n false (fun j => f (t_ri j)) 4000 2 0 0 e.2 0) = fun f => t_V b n false (t_nam (f 0) (f 1) (f 2) (f 3) (f 4) (f 5) 0 0) 4000 2 0 0 e.2 0 := by
          funext f
          exact t_eq6 hok' (fun j => f (t_ri j))
        rw [hfe] at hs
        exact hs
    have eight : v_RS T (k : Int) 1 (((t_lf b n 1).map (fun e => fun day heat size straw melted edge sights kinds => t_V b n true (t_nam day heat size straw melted edge sights kinds) 4000 2 0 0 e.2 0)).map (fun V f => V (f 0) (f 1) (f 2) (f 3) (f 4) (f 5) (f 6) (f 7))) := by
      cases hf : t_lf b n 1 with
      | none => exact hnone 1 (by decide) hf
      | some e =>
        obtain ⟨e1, e2⟩ := t_lf_some hf
        have hok := t_ok ht e1
        have hok' : (t_P b n true 4000 2 0 0 e.2).1 = 0 := by
          have : t_bd b n e.1 e.2 = t_P b n (Nat.beq e.1 1) 4000 2 0 0 e.2 := if_pos (show e.1 < 3 by omega)
          rw [this, e2] at hok
          exact hok
        have hs := hsome 1 e (by decide) hf
        rw [show Nat.beq 1 1 = true from rfl] at hs
        have hfe : (fun f : Nat → Int => t_V b n true (fun j => f (t_ri j)) 4000 2 0 0 e.2 0) = fun f => t_V b n true (t_nam (f 0) (f 1) (f 2) (f 3) (f 4) (f 5) (f 6) (f 7)) 4000 2 0 0 e.2 0 := by
          funext f
          exact t_eq8 hok' (fun j => f (t_ri j))
        rw [hfe] at hs
        exact hs
    exact ⟨six 0 (Or.inl rfl), eight, six 2 (Or.inr rfl)⟩
end X28

def t_cn (b : Nat → Nat) (n : Nat) (e : Nat × Nat) : List Nat := if e.1 < 3 then [] else t_Dn b n (t_dd e.1) e.2
def t_cs2 (b : Nat → Nat) (n : Nat) : Nat → Nat → Nat → Nat → List (Nat × Nat)
  | 0, _, _, _ => []
  | f + 1, m, o, p => if t_k b n p = 0 then [] else (t_cw b n p, t_x b n p) :: t_cs2 b n f (m + 1) (if t_cw b n p < 3 then o + 2 ^ t_cw b n p else o) (t_cl b n m o p).2
def l_row (b : Nat → Nat) (n : Nat) (T : Nat → Int) (t0 w c : Nat) (e : Nat × Nat) : Prop := e.1 ≤ 9 ∧ T (t0 + 1 + 7 * c) = ((v_sx e.1 : Nat) : Int) ∧ (∀ i v : Nat, (t_cn b n e)[i]? = some v → T (t0 + 2 + 7 * c + i) = (v : Int)) ∧ (e.1 < 3 → ∃ (f0 : Nat) (E : List (Nat × Nat)), T (t0 + 2 + 7 * c) = (f0 : Int) ∧ T (t0 + 3 + 7 * c) = ((f0 + E.length : Nat) : Int) ∧ f0 + E.length ≤ w ∧ (∀ i, i < E.length → ∃ a, E[i]? = some a ∧ T (t0 + 169 + 2 * (f0 + i)) = ((a.1 : Nat) : Int) ∧ T (t0 + 169 + 2 * (f0 + i) + 1) = ((a.2 : Nat) : Int) ∧ a.1 < 8 ∧ a.2 < 10000) ∧ ∀ ν, t_bn ν → r_evo ν E [] = some [t_V b n (Nat.beq e.1 1) ν 4000 2 0 0 e.2 0])
def l_Lg : List Nat := [7, 8, 9, 10, 13, 14, 17, 18, 19, 20, 21]
def l_g (t0 : Nat) (s s' : d_S) : Prop := (∀ k, k ∉ l_Lg → s'.1 64 k = s.1 64 k) ∧ (∀ a, a ≠ 64 → a ≠ 67 → a ≠ 69 → a ≠ 70 → s'.1 a = s.1 a) ∧ (∀ j, j < t0 ∨ t0 + 777 ≤ j → s'.1 67 j = s.1 67 j) ∧ s'.2.1 = s.2.1 ∧ ∀ k, k ≠ 1011 → s'.2.2 k = s.2.2 k
theorem l_Lg4 : ∀ a, a ∈ [7, 8, 9, 10] → a ∈ l_Lg := by decide
section X16
variable {s0 s s1 s' : d_S} {b : Nat → Nat} {n p q w so t0 m o x c : Nat}
theorem l_g.rf : l_g t0 s s := ⟨fun _ _ => rfl, fun _ _ _ _ _ => rfl, fun _ _ => rfl, rfl, fun _ _ => rfl⟩
theorem l_g.tr (h : l_g t0 s s1) (h' : l_g t0 s1 s') : l_g t0 s s' := ⟨fun a z => (h'.1 a z).trans (h.1 a z), fun a y z u v => (h'.2.1 a y z u v).trans (h.2.1 a y z u v), fun j z => (h'.2.2.1 j z).trans (h.2.2.1 j z), h'.2.2.2.1.trans h.2.2.2.1, fun k z => (h'.2.2.2.2 k z).trans (h.2.2.2.2 k z)⟩
theorem l_f.g (h : l_f [7, 8, 9, 10] s s1) : l_g t0 s s1 := ⟨fun k z => h.1 k (fun y => z (l_Lg4 k y)), fun a z _ _ _ => h.2.1 a z, fun j _ => by rw [h.2.1 67 (by decide)], h.2.2.1, h.2.2.2⟩
theorem l_g.s64 {k : Nat} {y : Int} (h : k ∈ l_Lg) : l_g t0 s (d_si s 64 k y) := ⟨fun a z => by rw [d_si_i, d_u_n (fun (e : a = k) => z (by rw [e]; exact h))], fun a z _ _ _ => d_si_n z, fun j _ => by rw [d_si_n (by decide)], rfl, fun _ _ => rfl⟩
theorem l_g.s67 {k : Nat} {y : Int} (h : t0 ≤ k) (h' : k < t0 + 777) : l_g t0 s (d_si s 67 k y) := ⟨fun a z => by rw [d_si_n (by decide)], fun a _ z _ _ => d_si_n z, fun j hj => by rw [d_si_i, d_u_n (by omega)], rfl, fun _ _ => rfl⟩
theorem l_j.g {y : Nat} (h : l_j x y s s') (h1 : t0 ≤ x) (h2 : y ≤ t0 + 777) : l_g t0 s s' := ⟨fun k z => h.1 k (fun q => z (l_Lg4 k q)), fun a z u _ _ => h.2.1 a z u, fun j hj => h.2.2.1 j (by omega), h.2.2.2.1, h.2.2.2.2⟩
theorem t_Dn_len : ∀ (A : List (Nat × Nat × Nat)) (p : Nat), (t_Dn b n A p).length = (A.filter (fun e => Nat.beq e.1 0)).length := by
  intro A
  induction A with
  | nil => intro p; rfl
  | cons e A ih =>
    intro p
    unfold t_Dn
    by_cases e0 : e.1 = 0
    · rw [if_pos e0, List.filter_cons_of_pos (by rw [e0]; rfl), List.length_cons, List.length_cons, ih]
    · rw [if_neg e0, List.filter_cons_of_neg (by simpa using fun h => e0 (Nat.eq_of_beq_eq_true h)), ih]
theorem t_dd_np : ∀ w, w < 10 → 3 ≤ w → ((t_dd w).filter (fun e => Nat.beq e.1 0)).length = v_np w := by decide
theorem v_np_6 : ∀ w, w < 10 → v_np w ≤ 6 := by decide
theorem t_cn_len {e : Nat × Nat} (h : e.1 ≤ 9) : (t_cn b n e).length = v_np e.1 := by
  unfold t_cn
  by_cases q : e.1 < 3
  · rw [if_pos q]
    have : ∀ w, w < 3 → v_np w = 0 := by decide
    rw [this _ q]; rfl
  · rw [if_neg q, t_Dn_len, t_dd_np _ (by omega) (by omega)]
theorem t_dd_q : ∀ w, w < 10 → ∀ e ∈ t_dd w, t_dq e ∧ k_dq e := by
  have : ∀ w, w < 10 → ∀ e ∈ t_dd w, (e.1 = 0 ∨ (e.1 = 1 ∧ e.2.1 < 22) ∨ (e.1 = 2 ∧ (e.2.1 = 44 ∨ e.2.1 = 58))) ∧ ((e.1 = 0 ∧ e.2.2 ≤ 9998) ∨ (e.1 = 1 ∧ e.2.1 < 22) ∨ e.1 = 2) := by decide
  exact this
theorem l_row.keep {T T' : Nat → Int} {w' : Nat} {e : Nat × Nat} (h : l_row b n T t0 w c e) (h1 : ∀ j, t0 + 1 + 7 * c ≤ j → j < t0 + 8 + 7 * c → T' j = T j) (h2 : ∀ j, t0 + 169 ≤ j → j < t0 + 169 + 2 * w → T' j = T j) (hw : w ≤ w') : l_row b n T' t0 w' c e := by
  obtain ⟨a0, a1, a2, a3⟩ := h
  have hl := t_cn_len (b := b) (n := n) a0
  have h6 := v_np_6 e.1 (by omega)
  refine ⟨a0, by rw [h1 _ (by omega) (by omega)]; exact a1, fun i v hv => ?_, fun h3 => ?_⟩
  · have : i < (t_cn b n e).length := by
      by_cases q : i < (t_cn b n e).length
      · exact q
      · rw [List.getElem?_eq_none (by omega)] at hv; cases hv
    rw [h1 _ (by omega) (by omega)]
    exact a2 i v hv
  · obtain ⟨f0, E, g1, g2, g3, g4, g5⟩ := a3 h3
    refine ⟨f0, E, by rw [h1 _ (by omega) (by omega)]; exact g1, by rw [h1 _ (by omega) (by omega)]; exact g2, by omega, fun i hi => ?_, g5⟩
    obtain ⟨a, r1, r2, r3, r4⟩ := g4 i hi
    exact ⟨a, r1, by rw [h2 _ (by omega) (by omega)]; exact r2, by rw [h2 _ (by omega) (by omega)]; exact r3, r4⟩
theorem l_w0 : F_X12_w5 109 101 108 116 115 = some ((t_Wn.getD 0 0 : Nat) : Int) := by decide +kernel
theorem l_w1 : F_X12_w5 115 101 108 108 115 = some ((t_Wn.getD 1 0 : Nat) : Int) := by decide +kernel
theorem l_w2 : F_X12_w4 114 111 116 115 = some ((t_Wn.getD 2 0 : Nat) : Int) := by decide +kernel
theorem l_w3 : F_X12_w4 112 111 110 100 = some ((t_Wn.getD 3 0 : Nat) : Int) := by decide +kernel
theorem l_w4 : F_X12_w5 115 105 103 104 116 = some ((t_Wn.getD 4 0 : Nat) : Int) := by decide +kernel
theorem l_w5 : F_X12_w3 115 97 119 = some ((t_Wn.getD 5 0 : Nat) : Int) := by decide +kernel
theorem l_w6 : F_X12_w5 99 114 111 115 115 = some ((t_Wn.getD 6 0 : Nat) : Int) := by decide +kernel
theorem l_w7 : F_X12_w4 115 101 108 108 = some ((t_Wn.getD 7 0 : Nat) : Int) := by decide +kernel
theorem P_sortOf (hT : l_T b n p s) : F_X12_sortOf s = some (if t_cw b n p = 10 then -1 else ((v_sx (t_cw b n p) : Nat) : Int)) := by
  have hw : ∀ k, k < 22 → F_X12_isWord s ((t_Wn.getD k 0 : Nat) : Int) = some (v_b (t_wd b n p k = true)) := fun k hk => P_rword hT hk
  unfold F_X12_sortOf t_cw
  rw [l_w0, d_b_t, hw 0 (by decide), d_b_t]
  by_cases q0 : t_wd b n p 0 = true
  · rw [v_bt q0, if_neg (by decide), if_pos q0]; rfl
  rw [v_bf q0, if_pos rfl, if_neg q0, l_w1, d_b_t, hw 1 (by decide), d_b_t]
  by_cases q1 : t_wd b n p 1 = true
  · rw [v_bt q1, if_neg (by decide), if_pos q1]; rfl
  rw [v_bf q1, if_pos rfl, if_neg q1, l_w2, d_b_t, hw 2 (by decide), d_b_t]
  by_cases q2 : t_wd b n p 2 = true
  · rw [v_bt q2, if_neg (by decide), if_pos q2]; rfl
  rw [v_bf q2, if_pos rfl, if_neg q2, l_w3, d_b_t, hw 3 (by decide), d_b_t]
  by_cases q3 : t_wd b n p 3 = true
  · rw [v_bt q3, if_neg (by decide), if_pos q3]; rfl
  rw [v_bf q3, if_pos rfl, if_neg q3, l_w4, d_b_t, hw 4 (by decide), d_b_t]
  by_cases q4 : t_wd b n p 4 = true
  · rw [v_bt q4, if_neg (by decide), if_pos q4]; rfl
  rw [v_bf q4, if_pos rfl, if_neg q4, l_w5, d_b_t, hw 5 (by decide), d_b_t]
  by_cases q5 : t_wd b n p 5 = true
  · rw [v_bt q5, if_neg (by decide), if_pos q5]; rfl
  rw [v_bf q5, if_pos rfl, if_neg q5, l_w6, d_b_t, hw 6 (by decide), d_b_t]
  by_cases q6 : t_wd b n p 6 = true
  · rw [v_bt q6, if_neg (by decide), if_pos q6]; rfl
  rw [v_bf q6, if_pos rfl, if_neg q6, l_w8, d_b_t, hw 8 (by decide), d_b_t]
  by_cases q8 : t_wd b n p 8 = true
  · rw [v_bt q8, if_neg (by decide), if_pos q8]; rfl
  rw [v_bf q8, if_pos rfl, if_neg q8, l_w9, d_b_t, hw 9 (by decide), d_b_t]
  by_cases q9 : t_wd b n p 9 = true
  · rw [v_bt q9, if_neg (by decide), if_pos q9]; rfl
  rw [v_bf q9, if_pos rfl, if_neg q9, l_w7, d_b_t, hw 7 (by decide), d_b_t]
  by_cases q7 : t_wd b n p 7 = true
  · rw [v_bt q7, if_neg (by decide), if_pos q7]; rfl
  rw [v_bf q7, if_pos rfl, if_neg q7]; rfl
theorem t_cw_k (h : t_cw b n p ≠ 10) : t_cw b n p ≤ 9 ∧ t_k b n p = 1 := by
  by_cases k1 : t_k b n p = 1
  · refine ⟨?_, k1⟩
    unfold t_cw at h ⊢
    revert h
    repeat' split
    all_goals intro h; omega
  · have no := t_no_w k1
    exfalso
    apply h
    unfold t_cw
    rw [no 0, no 1, no 2, no 3, no 4, no 5, no 6, no 8, no 9, no 7]
    rfl
theorem P_bodyD (hw : 3 ≤ w ∧ w ≤ 9) (hx : x ≤ 3000) : F_X12_body s ((v_sx w : Nat) : Int) (x : Int) = l_run x (t_dd w) 1 s := by
  have h : w = 3 ∨ w = 4 ∨ w = 5 ∨ w = 6 ∨ w = 7 ∨ w = 8 ∨ w = 9 := by omega
  have e1 : d_w ((x : Int) + 1) = ((x + 1 : Nat) : Int) := by rw [d_w_id (by omega) (by omega)]; rfl
  have fg : ∀ lo hi : Nat, d_b2 (F_X12_figure s (d_w ((x : Int) + 1)) (lo : Int) (hi : Int)) (fun v s => some (v, s)) = l_run x [(0, lo, hi)] 1 s := fun lo hi => by rw [d_b2_id, e1]; exact P_fig
  rcases h with rfl | rfl | rfl | rfl | rfl | rfl | rfl
  · exact Eq.trans (show _ = d_b2 (F_X12_pondClause s (x : Int)) (fun v s => some (v, s)) from rfl) (by rw [d_b2_id, P_pondC hx])
  · exact Eq.trans (show _ = d_b2 (F_X12_sightClause s (x : Int)) (fun v s => some (v, s)) from rfl) (by rw [d_b2_id, P_sightC hx])
  · exact fg 0 6
  · exact fg 0 6
  · exact fg 0 63
  · exact Eq.trans (show _ = d_b2 (F_X12_strawClause s (x : Int)) (fun v s => some (v, s)) from rfl) (by rw [d_b2_id, P_strawC hx])
  · exact fg 1 60
theorem P_bodyL (hw : w < 3) : F_X12_body s ((v_sx w : Nat) : Int) (x : Int) = F_X12_lawClause s (x : Int) := by
  have h : w = 0 ∨ w = 1 ∨ w = 2 := by omega
  rcases h with rfl | rfl | rfl
  · exact Eq.trans (show _ = d_b2 (F_X12_lawClause s (x : Int)) (fun v s => some (v, s)) from rfl) (d_b2_id _)
  · exact Eq.trans (show _ = d_b2 (F_X12_lawClause s (x : Int)) (fun v s => some (v, s)) from rfl) (d_b2_id _)
  · exact Eq.trans (show _ = d_b2 (F_X12_lawClause s (x : Int)) (fun v s => some (v, s)) from rfl) (d_b2_id _)
end X16

noncomputable def k_run (t : Nat → Option p_C) : List (Nat × Nat × Nat) → d_S → Option (Int × d_S)
  | [], s => some (1, s)
  | e :: R, s => if e.1 = 0 then d_b2 (F_X3_takeNumber t s (e.2.1 : Int) (e.2.2 : Int)) (fun v s' => if v = 0 then some (0, s') else k_run t R s')
    else if e.1 = 1 then d_b2 (F_X3_takeWord t s (e.2.1 : Int)) (fun v s' => if v = 0 then some (0, s') else k_run t R s')
    else d_b2 (F_X3_takeSign t s (e.2.1 : Int)) (fun v s' => if v = 0 then some (0, s') else k_run t R s')
def k_j (L : List Nat) (s s' : d_S) : Prop := (∀ k, k ∉ L → s'.1 43 k = s.1 43 k) ∧ (∀ a, a ≠ 43 → a ≠ 45 → s'.1 a = s.1 a) ∧ s'.2 = s.2
def k_Lj : List Nat := [2, 3, 4, 5, 6, 7, 10]
section X13
variable {s s1 s' : d_S} {t : Nat → Option p_C} {b : Nat → Nat} {n p c i : Nat}
theorem k_j.rf {L : List Nat} : k_j L s s := ⟨fun _ _ => rfl, fun _ _ _ => rfl, rfl⟩
theorem k_j.tr {L : List Nat} (h : k_j L s s1) (h' : k_j L s1 s') : k_j L s s' := ⟨fun a z => (h'.1 a z).trans (h.1 a z), fun a y z => (h'.2.1 a y z).trans (h.2.1 a y z), h'.2.2.trans h.2.2⟩
theorem k_j.mono {L M : List Nat} (h : k_j L s s1) (hm : ∀ a, a ∈ L → a ∈ M) : k_j M s s1 := ⟨fun a z => h.1 a (fun y => z (hm a y)), h.2⟩
theorem k_f.j {L : List Nat} (h : k_f L s s1) : k_j L s s1 := ⟨h.1, fun a y _ => h.2.1 a y, h.2.2⟩
theorem P_addPart (h9 : s.1 43 9 = (c : Int)) (h10 : s.1 43 10 = (i : Int)) (hc : 1 ≤ c ∧ c ≤ 24) (hi : i < 7) {v : Nat} : ∃ s', F_X3_addPart s (v : Int) = some s' ∧ s'.1 45 = d_u (s.1 45) ((c - 1) * 7 + i) (v : Int) ∧ s'.1 43 10 = ((i + 1 : Nat) : Int) ∧ k_j [10] s s' := by
  obtain ⟨s2, hs2⟩ : ∃ z, z = d_si s 45 ((c - 1) * 7 + i) (v : Int) := ⟨_, rfl⟩
  obtain ⟨s3, hs3⟩ : ∃ z, z = d_si s2 43 10 ((i : Int) + 1) := ⟨_, rfl⟩
  refine ⟨s3, ?_, by rw [hs3, d_si_n (by decide), hs2, d_si_i], by rw [hs3, d_si_i, d_u_t]; rfl, fun k hk => by rw [hs3, d_si_i, d_u_n (fun (e : k = 10) => hk (by rw [e]; decide)), hs2, d_si_n (by decide)], fun a h1 h2 => by rw [hs3, d_si_n h1, hs2, d_si_n h2], by rw [hs3, hs2]; rfl⟩
  unfold F_X3_addPart
  have ez : d_w (((c : Int) - 1) * 7 + (i : Int)) = (((c - 1) * 7 + i : Nat) : Int) := by rw [d_w_id (by omega) (by omega)]; omega
  rw [h9, h10, ez, d_l_t, P_within, d_b_t, d_w_id (x := 168 - 1) (by decide) (by decide), v_bt (by omega), if_neg (by decide), d_g_t (by omega), d_l_t, Int.toNat_natCast, ← hs2, show s2.1 43 10 = (i : Int) by rw [hs2, d_si_n (by decide)]; exact h10, d_w_id (by omega) (by omega), d_l_t, ← hs3]
theorem k_j.T {L : List Nat} (h : k_T b n p s) (h' : k_j L s s') (h1 : 1 ∉ L ∧ 4 ∉ L ∧ 5 ∉ L ∧ 6 ∉ L ∧ 7 ∉ L) : k_T b n p s' := by
  obtain ⟨⟨a1, a2, a3, a0⟩, ⟨a4, a5, a6⟩, a7⟩ := h
  refine ⟨⟨by rw [h'.1 1 h1.1]; exact a1, a2, fun i hi => by rw [h'.2.1 44 (by decide) (by decide)]; exact a3 i hi, a0⟩, ⟨by rw [h'.1 4 h1.2.1]; exact a4, by rw [h'.1 5 h1.2.2.1]; exact a5, by rw [h'.1 6 h1.2.2.2.1]; exact a6⟩, ?_⟩
  rw [h'.1 7 h1.2.2.2.2]
  exact a7
def k_dq (e : Nat × Nat × Nat) : Prop := (e.1 = 0 ∧ e.2.2 ≤ 9998) ∨ (e.1 = 1 ∧ e.2.1 < 22) ∨ e.1 = 2
theorem P_krun (hW : k_wds t) : ∀ (A : List (Nat × Nat × Nat)) (p i : Nat) (s : d_S), (∀ e ∈ A, k_dq e) → k_T b n p s → p ≤ n → s.1 43 9 = (c : Int) → s.1 43 10 = (i : Int) → 1 ≤ c ∧ c ≤ 24 → i + (t_Dn b n A p).length ≤ 7 → ∃ s', k_run t A s = some (v_b ((t_D b n A p).1 = 0), s') ∧ k_j k_Lj s s' ∧ ((t_D b n A p).1 = 0 → k_T b n (t_D b n A p).2 s' ∧ s'.1 45 = l_wr (s.1 45) ((c - 1) * 7 + i) (t_Dn b n A p) ∧ s'.1 43 2 = s.1 43 2 ∧ s'.1 43 3 = s.1 43 3) ∧ ((t_D b n A p).1 ≠ 0 → s'.1 43 2 = ((t_D b n A p).1 : Int) ∧ s'.1 43 3 = ((t_D b n A p).2 : Int)) := by
  intro A
  induction A with
  | nil => intro p i s _ hT hp _ _ _ _; exact ⟨s, rfl, k_j.rf, fun _ => ⟨hT, rfl, rfl, rfl⟩, fun q => absurd rfl q⟩
  | cons e A ih =>
    intro p i s hA hT hp h9 h10 hc hl
    have hA' : ∀ e ∈ A, k_dq e := fun e' h => hA e' (List.mem_cons_of_mem _ h)
    have he := hA e List.mem_cons_self
    have hx := t_x_le (b := b) hp
    unfold k_run t_D t_Dn
    unfold t_Dn at hl
    by_cases e0 : e.1 = 0
    · have h98 : e.2.2 ≤ 9998 := by
        rcases he with q | q | q
        · exact q.2
        · omega
        · omega
      rw [if_pos e0, if_pos e0, if_pos e0]
      rw [if_pos e0, List.length_cons] at hl
      unfold F_X3_takeNumber
      have hw : ∀ f : Nat, ∃ s', d_b2 (F_X3_wrong s (f : Int)) (fun v s3 => some (v, s3)) = some (0, s') ∧ k_j k_Lj s s' ∧ s'.1 43 2 = (f : Int) ∧ s'.1 43 3 = (p : Int) := by
        intro f
        obtain ⟨s', a1, a2, a3, a4⟩ := P_wrong (s := s) (p := p) (f := (f : Int)) hT.2.1.2.1
        exact ⟨s', by rw [a1, d_b2_t], a4.j.mono (by decide), a2, a3⟩
      by_cases k2 : t_k b n p = 2
      rotate_left
      · have h6 : ¬ s.1 43 6 = 2 := by rw [hT.2.1.2.2]; omega
        obtain ⟨s', a1, a2, a3, a4⟩ := hw 1
        have a1' : d_b2 (F_X3_wrong s 1) (fun v s3 => some (v, s3)) = some (0, s') := a1
        rw [if_neg h6, if_pos k2, a1', d_b2_t, if_pos rfl]
        exact ⟨s', by rw [v_bf (by simp)], a2, fun q => absurd q (by simp), fun _ => ⟨a3, a4⟩⟩
      have h6 : s.1 43 6 = 2 := by rw [hT.2.1.2.2, k2]; rfl
      have h7 := hT.2.2.2.1 k2
      rw [if_pos h6, if_neg (fun q => q k2), P_within, d_b_t, h7]
      by_cases cc : t_n b n p < e.2.1 ∨ e.2.2 < t_n b n p
      · obtain ⟨s', a1, a2, a3, a4⟩ := hw 2
        have a1' : d_b2 (F_X3_wrong s 2) (fun v s3 => some (v, s3)) = some (0, s') := a1
        rw [if_pos cc, v_bf (by omega), if_pos rfl, a1', d_b2_t, if_pos rfl]
        exact ⟨s', by rw [v_bf (by simp)], a2, fun q => absurd q (by simp), fun _ => ⟨a3, a4⟩⟩
      rw [if_neg cc, v_bt (by omega), if_neg (by decide), show min 10000 (t_n b n p) = t_n b n p by omega]
      obtain ⟨s3, b1, b2, b3, b4⟩ := P_addPart h9 h10 hc (by omega) (v := t_n b n p)
      have hT3 : k_T b n p s3 := k_j.T hT b4 (by decide)
      obtain ⟨s4, c1, c2, c3⟩ := P_step hW hT3 hp
      obtain ⟨s', d1, d2, d3, d4⟩ := ih (t_x b n p) (i + 1) s4 hA' c2 hx (by rw [c3.1 9 (by decide), b4.1 9 (by decide)]; exact h9) (by rw [c3.1 10 (by decide)]; exact b3) hc (by omega)
      refine ⟨s', ?_, ((b4.mono (by decide)).tr (c3.j.mono (by decide))).tr d2, fun q => ⟨(d3 q).1, ?_, by rw [(d3 q).2.2.1, c3.1 2 (by decide), b4.1 2 (by decide)], by rw [(d3 q).2.2.2, c3.1 3 (by decide), b4.1 3 (by decide)]⟩, d4⟩
      · rw [b1, d_b_t, c1, d_b_t, d_b2_t, if_neg (by decide)]; exact d1
      · rw [(d3 q).2.1, c3.2.1 45 (by decide), b2]; rfl
    rw [if_neg e0, if_neg e0, if_neg e0]
    rw [if_neg e0] at hl
    by_cases e1 : e.1 = 1
    · have h22 : e.2.1 < 22 := by
        rcases he with q | q | q
        · omega
        · exact q.2
        · omega
      rw [if_pos e1, if_pos e1]
      rcases P_takeWord hW hT hp h22 with ⟨q, s4, c1, c2, c3⟩ | ⟨q, s4, c1, c2, c3, c4⟩
      · rw [if_pos q, c1, d_b2_t, if_neg (by decide)]
        obtain ⟨s', d1, d2, d3, d4⟩ := ih (t_x b n p) i s4 hA' c2 hx (by rw [c3.1 9 (by decide)]; exact h9) (by rw [c3.1 10 (by decide)]; exact h10) hc hl
        exact ⟨s', d1, (c3.j.mono (by decide)).tr d2, fun q => ⟨(d3 q).1, by rw [(d3 q).2.1, c3.2.1 45 (by decide)], by rw [(d3 q).2.2.1, c3.1 2 (by decide)], by rw [(d3 q).2.2.2, c3.1 3 (by decide)]⟩, d4⟩
      · rw [if_neg (by rw [q]; decide), c1, d_b2_t, if_pos rfl]
        exact ⟨s4, by rw [v_bf (by simp)], c4.j.mono (by decide), fun q => absurd q (by simp), fun _ => ⟨c2, c3⟩⟩
    · rw [if_neg e1, if_neg e1]
      rcases P_takeSign hW hT hp (c := e.2.1) with ⟨q, s4, c1, c2, c3⟩ | ⟨q, s4, c1, c2, c3, c4⟩
      · rw [if_pos q, c1, d_b2_t, if_neg (by decide)]
        obtain ⟨s', d1, d2, d3, d4⟩ := ih (t_x b n p) i s4 hA' c2 hx (by rw [c3.1 9 (by decide)]; exact h9) (by rw [c3.1 10 (by decide)]; exact h10) hc hl
        exact ⟨s', d1, (c3.j.mono (by decide)).tr d2, fun q => ⟨(d3 q).1, by rw [(d3 q).2.1, c3.2.1 45 (by decide)], by rw [(d3 q).2.2.1, c3.1 2 (by decide)], by rw [(d3 q).2.2.2, c3.1 3 (by decide)]⟩, d4⟩
      · rw [if_neg (by rw [q]; decide), c1, d_b2_t, if_pos rfl]
        exact ⟨s4, by rw [v_bf (by simp)], c4.j.mono (by decide), fun q => absurd q (by simp), fun _ => ⟨c2, c3⟩⟩
theorem k_run1 {lo hi : Nat} {v : Int} (h : F_X3_takeNumber t s (lo : Int) (hi : Int) = some (v, s')) (hv : v = 0 ∨ v = 1) : k_run t [(0, lo, hi)] s = some (v, s') := by
  unfold k_run k_run
  rw [if_pos rfl, h, d_b2_t]
  rcases hv with q | q
  · rw [q, if_pos rfl]
  · rw [q, if_neg (by decide)]
theorem k_tn {lo hi : Int} {r : Int × d_S} (h : F_X3_takeNumber t s lo hi = some r) : r.1 = 0 ∨ r.1 = 1 := by
  unfold F_X3_takeNumber F_X3_wrong at h
  split at h
  · obtain ⟨v, h1, h2⟩ := d_b_s h
    split at h2
    · exact Or.inl (by rw [← Option.some.inj h2])
    · obtain ⟨s4, g1, g2⟩ := d_b_s h2
      obtain ⟨s5, g3, g4⟩ := d_b_s g2
      exact Or.inr (by rw [← Option.some.inj g4])
  · exact Or.inl (by rw [← Option.some.inj h])
theorem k_run1e {lo hi : Nat} : d_b2 (F_X3_takeNumber t s (lo : Int) (hi : Int)) (fun v s' => some (v, s')) = k_run t [(0, lo, hi)] s := by
  rw [d_b2_id]
  unfold k_run k_run
  rw [if_pos rfl]
  cases h : F_X3_takeNumber t s (lo : Int) (hi : Int) with
  | none => rfl
  | some r =>
    show some r = if r.1 = 0 then some (0, r.2) else some (1, r.2)
    rcases k_tn h with q | q
    · rw [if_pos q, ← q]
    · rw [if_neg (by omega), ← q]
theorem P_readDeed {w : Nat} (hw : 3 ≤ w ∧ w ≤ 9) : F_X3_readDeed t s (w : Int) = k_run t (t_dd w) s := by
  have h : w = 3 ∨ w = 4 ∨ w = 5 ∨ w = 6 ∨ w = 7 ∨ w = 8 ∨ w = 9 := by omega
  have e1 : ∀ lo hi : Nat, d_b2 (F_X3_takeNumber t s (lo : Int) (hi : Int)) (fun v s' => some (v, s')) = k_run t [(0, lo, hi)] s := fun lo hi => k_run1e
  rcases h with rfl | rfl | rfl | rfl | rfl | rfl | rfl
  · rfl
  · rfl
  · exact e1 0 6
  · exact e1 0 6
  · exact e1 0 63
  · rfl
  · exact e1 1 60
end X13

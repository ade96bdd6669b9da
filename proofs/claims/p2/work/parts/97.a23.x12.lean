def t_Dn (b : Nat → Nat) (n : Nat) : List (Nat × Nat × Nat) → Nat → List Nat
  | [], _ => []
  | e :: R, p => if e.1 = 0 then t_n b n p :: t_Dn b n R (t_x b n p) else t_Dn b n R (t_x b n p)
def l_wr (T : Nat → Int) : Nat → List Nat → Nat → Int
  | _, [] => T
  | x, v :: vs => l_wr (d_u T x (v : Int)) (x + 1) vs
theorem l_wr_out : ∀ (vs : List Nat) (T : Nat → Int) (x j : Nat), (j < x ∨ x + vs.length ≤ j) → l_wr T x vs j = T j := by
  intro vs
  induction vs with
  | nil => intro T x j _; rfl
  | cons v vs ih =>
    intro T x j h
    rw [List.length_cons] at h
    show l_wr (d_u T x (v : Int)) (x + 1) vs j = _
    rw [ih _ _ _ (by omega), d_u_n (by omega)]
theorem l_wr_in : ∀ (vs : List Nat) (T : Nat → Int) (x i v : Nat), vs[i]? = some v → l_wr T x vs (x + i) = (v : Int) := by
  intro vs
  induction vs with
  | nil => intro T x i v h; simp at h
  | cons y vs ih =>
    intro T x i v h
    show l_wr (d_u T x (y : Int)) (x + 1) vs (x + i) = _
    cases i with
    | zero =>
      have : y = v := by simpa using h
      rw [l_wr_out _ _ _ _ (by omega), Nat.add_zero, d_u_t, this]
    | succ i =>
      rw [show x + (i + 1) = x + 1 + i by omega]
      exact ih _ _ i v (by simpa using h)
noncomputable def l_run (x : Nat) : List (Nat × Nat × Nat) → Nat → d_S → Option (Int × d_S)
  | [], _, s => some (0, s)
  | e :: R, i, s => if e.1 = 0 then d_b2 (F_X12_figure s ((x + i : Nat) : Int) (e.2.1 : Int) (e.2.2 : Int)) (fun v s' => if v = 0 then l_run x R (i + 1) s' else some (v, s'))
    else if e.1 = 1 then d_b (F_X12_isWord s ((t_Wn.getD e.2.1 0 : Nat) : Int)) (fun v => if v = 0 then some (1, s) else d_b (F_X12_nextToken s) (fun s' => l_run x R i s'))
    else if s.1 64 9 = (e.2.1 : Int) then d_b (F_X12_nextToken s) (fun s' => l_run x R i s') else some (1, s)
def l_j (x y : Nat) (s s' : d_S) : Prop := (∀ k, k ∉ [7, 8, 9, 10] → s'.1 64 k = s.1 64 k) ∧ (∀ a, a ≠ 64 → a ≠ 67 → s'.1 a = s.1 a) ∧ (∀ j, j < x ∨ y ≤ j → s'.1 67 j = s.1 67 j) ∧ s'.2.1 = s.2.1 ∧ ∀ k, k ≠ 1011 → s'.2.2 k = s.2.2 k
section X12
variable {s s1 s' : d_S} {b : Nat → Nat} {n p x y : Nat}
theorem l_j.rf : l_j x y s s := ⟨fun _ _ => rfl, fun _ _ _ => rfl, fun _ _ => rfl, rfl, fun _ _ => rfl⟩
theorem l_j.tr (h : l_j x y s s1) (h' : l_j x y s1 s') : l_j x y s s' := ⟨fun a z => (h'.1 a z).trans (h.1 a z), fun a u v => (h'.2.1 a u v).trans (h.2.1 a u v), fun a z => (h'.2.2.1 a z).trans (h.2.2.1 a z), h'.2.2.2.1.trans h.2.2.2.1, fun k z => (h'.2.2.2.2 k z).trans (h.2.2.2.2 k z)⟩
theorem l_f.j (h : l_f [7, 8, 9, 10] s s') : l_j x y s s' := ⟨h.1, fun a z _ => h.2.1 a z, fun j _ => by rw [h.2.1 67 (by decide)], h.2.2.1, h.2.2.2⟩
theorem l_j.s67 {k : Nat} {v : Int} (h1 : x ≤ k) (h2 : k < y) : l_j x y s (d_si s 67 k v) := ⟨fun _ _ => by rw [d_si_n (by decide)], fun a _ z => d_si_n z, fun j hj => by rw [d_si_i, d_u_n (by omega)], rfl, fun _ _ => rfl⟩
def t_dq (e : Nat × Nat × Nat) : Prop := e.1 = 0 ∨ (e.1 = 1 ∧ e.2.1 < 22) ∨ (e.1 = 2 ∧ (e.2.1 = 44 ∨ e.2.1 = 58))
theorem P_lrun : ∀ (A : List (Nat × Nat × Nat)) (p i : Nat) (s : d_S), (∀ e ∈ A, t_dq e) → l_T b n p s → p ≤ n → x ≤ y → y ≤ 3108 → x + i + (t_Dn b n A p).length ≤ y → ∃ s', l_run x A i s = some (((t_D b n A p).1 : Int), s') ∧ l_T b n (t_D b n A p).2 s' ∧ l_j x y s s' ∧ ((t_D b n A p).1 = 0 → s'.1 67 = l_wr (s.1 67) (x + i) (t_Dn b n A p)) := by
  intro A
  induction A with
  | nil => intro p i s _ hT hp _ _ _; exact ⟨s, rfl, hT, l_j.rf, fun _ => rfl⟩
  | cons e A ih =>
    intro p i s hA hT hp hxy hy hl
    have hA' : ∀ e ∈ A, t_dq e := fun e' h => hA e' (List.mem_cons_of_mem _ h)
    have he := hA e List.mem_cons_self
    have hx := t_x_le (b := b) hp
    unfold l_run t_D t_Dn
    unfold t_Dn at hl
    by_cases e0 : e.1 = 0
    · rw [if_pos e0, if_pos e0, if_pos e0]
      rw [if_pos e0, List.length_cons] at hl
      unfold F_X12_figure
      by_cases k2 : t_k b n p = 2
      rotate_left
      · rw [if_neg (fun q => k2 (hT.2.2.2.2.2.1.2 q)), d_b2_t, if_neg (by decide), if_pos k2]
        exact ⟨s, rfl, hT, l_j.rf, fun q => absurd q (by simp)⟩
      have h10 := hT.2.2.2.2.2.2.2.1 k2
      rw [if_pos (hT.2.2.2.2.2.1.1 k2), h10, if_neg (fun q => q k2)]
      unfold F_X12_isIn
      by_cases c : t_n b n p < e.2.1 ∨ e.2.2 < t_n b n p
      · rw [if_pos c]
        refine ⟨s, ?_, hT, l_j.rf, fun q => absurd q (by simp)⟩
        by_cases c1 : t_n b n p < e.2.1
        · rw [if_pos (by omega), d_b_t, if_pos rfl, d_b2_t, if_neg (by decide)]; rfl
        · rw [if_neg (by omega), if_pos (by omega), d_b_t, if_pos rfl, d_b2_t, if_neg (by decide)]; rfl
      rw [if_neg c, if_neg (by omega), if_neg (by omega), d_b_t, if_neg (by decide), d_g_t (by omega), d_l_t, Int.toNat_natCast]
      obtain ⟨s3, hs3⟩ : ∃ z, z = d_si s 67 (x + i) ((t_n b n p : Nat) : Int) := ⟨_, rfl⟩
      rw [← hs3]
      have g64 : s3.1 64 = s.1 64 := by rw [hs3, d_si_n (by decide)]
      have hT3 : l_T b n p s3 := hT.g (fun k _ => by rw [g64]) (by rw [hs3, d_si_n (by decide)]) (by rw [hs3]; rfl)
      obtain ⟨s4, c1, c2, c3⟩ := P_next hT3 hp (fun q => by omega)
      obtain ⟨s', d1, d2, d3, d4⟩ := ih (t_x b n p) (i + 1) s4 hA' c2 hx hxy hy (by omega)
      have f3 : l_j x y s s3 := by rw [hs3]; exact l_j.s67 (by omega) (by omega)
      refine ⟨s', ?_, d2, (f3.tr c3.j).tr d3, fun q => ?_⟩
      · rw [c1, d_b_t, d_b2_t, if_pos rfl]; exact d1
      · rw [d4 q, c3.2.1 67 (by decide), hs3, d_si_i]; rfl
    rw [if_neg e0, if_neg e0, if_neg e0]
    rw [if_neg e0] at hl
    by_cases e1 : e.1 = 1
    · have h22 : e.2.1 < 22 := by
        rcases he with q | q | q
        · exact absurd q e0
        · exact q.2
        · omega
      rw [if_pos e1, if_pos e1, P_rword hT h22, d_b_t]
      by_cases c : t_wd b n p e.2.1 = true
      · obtain ⟨s4, c1, c2, c3⟩ := P_next hT hp (t_wd_nb c)
        obtain ⟨s', d1, d2, d3, d4⟩ := ih (t_x b n p) i s4 hA' c2 hx hxy hy hl
        rw [v_bt c, if_neg (by decide), if_pos c, c1, d_b_t]
        exact ⟨s', d1, d2, (c3.j).tr d3, fun q => by rw [d4 q, c3.2.1 67 (by decide)]⟩
      · rw [v_bf c, if_pos rfl, if_neg c]
        exact ⟨s, rfl, hT, l_j.rf, fun q => absurd q (by simp)⟩
    · have h2 : e.2.1 = 44 ∨ e.2.1 = 58 := by
        rcases he with q | q | q
        · exact absurd q e0
        · exact absurd q.1 e1
        · exact q.2
      have hs : s.1 64 9 = (e.2.1 : Int) ↔ t_is b n p e.2.1 = true := by
        rcases h2 with q | q
        · rw [q]; exact hT.s44
        · rw [q]; exact hT.s58
      rw [if_neg e1, if_neg e1]
      by_cases c : t_is b n p e.2.1 = true
      · obtain ⟨s4, c1, c2, c3⟩ := P_next hT hp (t_nb2 c (by omega) (by omega))
        obtain ⟨s', d1, d2, d3, d4⟩ := ih (t_x b n p) i s4 hA' c2 hx hxy hy hl
        rw [if_pos (hs.2 c), if_pos c, c1, d_b_t]
        exact ⟨s', d1, d2, (c3.j).tr d3, fun q => by rw [d4 q, c3.2.1 67 (by decide)]⟩
      · rw [if_neg (fun q => c (hs.1 q)), if_neg c]
        exact ⟨s, rfl, hT, l_j.rf, fun q => absurd q (by simp)⟩
theorem d_b2_id (o : Option (Int × d_S)) : d_b2 o (fun v s => some (v, s)) = o := by
  cases o with
  | none => rfl
  | some r => rfl
theorem d_b2_as (o : Option (Int × d_S)) (f g : Int → d_S → Option (Int × d_S)) : d_b2 (d_b2 o f) g = d_b2 o (fun v s => d_b2 (f v s) g) := by
  cases o with
  | none => rfl
  | some r => rfl
theorem d_b_as (o : Option d_S) (f : d_S → Option (Int × d_S)) (g : Int → d_S → Option (Int × d_S)) : d_b2 (d_b o f) g = d_b o (fun s => d_b2 (f s) g) := by
  cases o with
  | none => rfl
  | some r => rfl
theorem d_b_as2 (o : Option Int) (f : Int → Option (Int × d_S)) (g : Int → d_S → Option (Int × d_S)) : d_b2 (d_b o f) g = d_b o (fun s => d_b2 (f s) g) := by
  cases o with
  | none => rfl
  | some r => rfl
theorem d_b2_if {c : Prop} [Decidable c] (a e : Option (Int × d_S)) (g : Int → d_S → Option (Int × d_S)) : d_b2 (if c then a else e) g = if c then d_b2 a g else d_b2 e g := by
  by_cases q : c
  · rw [if_pos q, if_pos q]
  · rw [if_neg q, if_neg q]
theorem l_run_w {k lo hi i z : Nat} {A : List (Nat × Nat × Nat)} (hz : z = x + i) : l_run x ((1, k, z) :: (0, lo, hi) :: A) i s = l_run x ((1, k, z) :: (0, lo, hi) :: A) i s := rfl
theorem P_worded {k lo hi i z : Nat} : F_X12_worded s ((t_Wn.getD k 0 : Nat) : Int) ((x + i : Nat) : Int) (lo : Int) (hi : Int) = l_run x [(1, k, z), (0, lo, hi)] i s := by
  unfold F_X12_worded l_run l_run l_run
  rw [if_neg (show ¬ (1, k, z).1 = 0 from (by decide : ¬ (1 : Nat) = 0)), if_pos (show (1, k, z).1 = 1 from rfl)]
  congr 1
  funext v
  by_cases q : v = 0
  · rw [if_pos q, if_pos q]
  · rw [if_neg q, if_neg q]
    congr 1
    funext s2
    rw [d_b2_id, if_pos rfl]
    cases F_X12_figure s2 ((x + i : Nat) : Int) (lo : Int) (hi : Int) with
    | none => rfl
    | some r =>
      show some r = if r.1 = 0 then some (0, r.2) else some (r.1, r.2)
      by_cases c : r.1 = 0
      · rw [if_pos c, ← c]
      · rw [if_neg c]
theorem P_signed {c lo hi i z : Nat} : F_X12_signed s (c : Int) ((x + i : Nat) : Int) (lo : Int) (hi : Int) = l_run x [(2, c, z), (0, lo, hi)] i s := by
  unfold F_X12_signed l_run l_run l_run
  rw [if_neg (show ¬ (2, c, z).1 = 0 from (by decide : ¬ (2 : Nat) = 0)), if_neg (show ¬ (2, c, z).1 = 1 from (by decide : ¬ (2 : Nat) = 1))]
  by_cases q : s.1 64 9 = (c : Int)
  · rw [if_pos q, if_pos q]
    congr 1
    funext s2
    rw [d_b2_id, if_pos rfl]
    cases F_X12_figure s2 ((x + i : Nat) : Int) (lo : Int) (hi : Int) with
    | none => rfl
    | some r =>
      show some r = if r.1 = 0 then some (0, r.2) else some (r.1, r.2)
      by_cases c : r.1 = 0
      · rw [if_pos c, ← c]
      · rw [if_neg c]
  · rw [if_neg q, if_neg q]
theorem l_run_c {e : Nat × Nat × Nat} {A : List (Nat × Nat × Nat)} {i : Nat} : l_run x (e :: A) i s = if e.1 = 0 then d_b2 (F_X12_figure s ((x + i : Nat) : Int) (e.2.1 : Int) (e.2.2 : Int)) (fun v s' => if v = 0 then l_run x A (i + 1) s' else some (v, s'))
    else if e.1 = 1 then d_b (F_X12_isWord s ((t_Wn.getD e.2.1 0 : Nat) : Int)) (fun v => if v = 0 then some (1, s) else d_b (F_X12_nextToken s) (fun s' => l_run x A i s'))
    else if s.1 64 9 = (e.2.1 : Int) then d_b (F_X12_nextToken s) (fun s' => l_run x A i s') else some (1, s) := rfl
theorem l_run_app : ∀ (A B : List (Nat × Nat × Nat)) (i : Nat) (s : d_S), l_run x (A ++ B) i s = d_b2 (l_run x A i s) (fun v s' => if v = 0 then l_run x B (i + (A.filter (fun e => Nat.beq e.1 0)).length) s' else some (v, s')) := by
  intro A
  induction A with
  | nil => intro B i s; rfl
  | cons e A ih =>
    intro B i s
    show l_run x (e :: (A ++ B)) i s = _
    rw [l_run_c (A := A ++ B), l_run_c (A := A)]
    by_cases e0 : e.1 = 0
    · have hf : ((e :: A).filter (fun e => Nat.beq e.1 0)).length = (A.filter (fun e => Nat.beq e.1 0)).length + 1 := by
        rw [List.filter_cons_of_pos (by rw [e0]; rfl), List.length_cons]
      rw [if_pos e0, if_pos e0, d_b2_as, hf]
      congr 1
      funext v s'
      by_cases q : v = 0
      · rw [if_pos q, if_pos q, ih]
        congr 1
        funext v2 s2
        rw [show i + 1 + (A.filter (fun e => Nat.beq e.1 0)).length = i + ((A.filter (fun e => Nat.beq e.1 0)).length + 1) by omega]
      · rw [if_neg q, if_neg q, d_b2_t, if_neg q]
    · have hf : ((e :: A).filter (fun e => Nat.beq e.1 0)).length = (A.filter (fun e => Nat.beq e.1 0)).length := by
        rw [List.filter_cons_of_neg (by simpa using fun h => e0 (Nat.eq_of_beq_eq_true h))]
      rw [if_neg e0, if_neg e0, hf]
      by_cases e1 : e.1 = 1
      · rw [if_pos e1, if_pos e1, d_b_as2]
        congr 1
        funext v
        by_cases q : v = 0
        · rw [if_pos q, if_pos q, d_b2_t, if_neg (by decide)]
        · rw [if_neg q, if_neg q, d_b_as]
          congr 1
          funext s2
          exact ih B i s2
      · rw [if_neg e1, if_neg e1]
        by_cases q : s.1 64 9 = (e.2.1 : Int)
        · rw [if_pos q, if_pos q, d_b_as]
          congr 1
          funext s2
          exact ih B i s2
        · rw [if_neg q, if_neg q, d_b2_t, if_neg (by decide)]
theorem P_fig {lo hi i : Nat} : F_X12_figure s ((x + i : Nat) : Int) (lo : Int) (hi : Int) = l_run x [(0, lo, hi)] i s := by
  unfold l_run l_run
  rw [if_pos rfl]
  cases F_X12_figure s ((x + i : Nat) : Int) (lo : Int) (hi : Int) with
  | none => rfl
  | some r =>
    show some r = if r.1 = 0 then some (0, r.2) else some (r.1, r.2)
    by_cases c : r.1 = 0
    · rw [if_pos c, ← c]
    · rw [if_neg c]
theorem l_w16 : F_X12_w2 98 121 = some ((t_Wn.getD 16 0 : Nat) : Int) := by decide +kernel
theorem l_w17 : F_X12_w2 97 116 = some ((t_Wn.getD 17 0 : Nat) : Int) := by decide +kernel
theorem l_w18 : F_X12_w4 100 101 101 112 = some ((t_Wn.getD 18 0 : Nat) : Int) := by decide +kernel
theorem l_w19 : F_X12_w2 116 111 = some ((t_Wn.getD 19 0 : Nat) : Int) := by decide +kernel
theorem P_pondC (hx : x ≤ 3000) : F_X12_pondClause s (x : Int) = l_run x (t_dd 3) 1 s := by
  have e1 : d_w ((x : Int) + 1) = ((x + 1 : Nat) : Int) := by rw [d_w_id (by omega) (by omega)]; rfl
  have e2 : d_w ((x : Int) + 2) = ((x + 2 : Nat) : Int) := by rw [d_w_id (by omega) (by omega)]; rfl
  have hg : F_X12_figure s ((x + 1 : Nat) : Int) 2 8 = l_run x [(0, 2, 8)] 1 s := P_fig
  unfold F_X12_pondClause
  rw [e1, e2, hg]
  refine Eq.trans ?_ (l_run_app (x := x) [(0, 2, 8)] [(1, 16, 0), (0, 2, 8)] 1 s).symm
  congr 1
  funext v s2
  by_cases q : v = 0
  · have hw : F_X12_worded s2 ((t_Wn.getD 16 0 : Nat) : Int) ((x + 2 : Nat) : Int) 2 8 = l_run x [(1, 16, 0), (0, 2, 8)] 2 s2 := P_worded
    rw [if_pos q, if_pos q, l_w16, d_b_t, d_b2_id, hw]; rfl
  · rw [if_neg q, if_neg q]
theorem P_strawC (hx : x ≤ 3000) : F_X12_strawClause s (x : Int) = l_run x (t_dd 8) 1 s := by
  have e1 : d_w ((x : Int) + 1) = ((x + 1 : Nat) : Int) := by rw [d_w_id (by omega) (by omega)]; rfl
  have e2 : d_w ((x : Int) + 2) = ((x + 2 : Nat) : Int) := by rw [d_w_id (by omega) (by omega)]; rfl
  have hg : F_X12_figure s ((x + 1 : Nat) : Int) 1 9 = l_run x [(0, 1, 9)] 1 s := P_fig
  unfold F_X12_strawClause
  rw [e1, e2, hg]
  refine Eq.trans ?_ (l_run_app (x := x) [(0, 1, 9)] [(1, 19, 0), (0, 0, 63)] 1 s).symm
  congr 1
  funext v s2
  by_cases q : v = 0
  · have hw : F_X12_worded s2 ((t_Wn.getD 19 0 : Nat) : Int) ((x + 2 : Nat) : Int) 0 63 = l_run x [(1, 19, 0), (0, 0, 63)] 2 s2 := P_worded
    rw [if_pos q, if_pos q, l_w19, d_b_t, d_b2_id, hw]; rfl
  · rw [if_neg q, if_neg q]
theorem P_sightC (hx : x ≤ 3000) : F_X12_sightClause s (x : Int) = l_run x (t_dd 4) 1 s := by
  have e : ∀ i : Nat, i ≤ 6 → d_w ((x : Int) + (i : Int)) = ((x + i : Nat) : Int) := fun i hi => by rw [d_w_id (by omega) (by omega)]; rfl
  have e1 : d_w ((x : Int) + 1) = ((x + 1 : Nat) : Int) := e 1 (by decide)
  have e2 : d_w ((x : Int) + 2) = ((x + 2 : Nat) : Int) := e 2 (by decide)
  have e3 : d_w ((x : Int) + 3) = ((x + 3 : Nat) : Int) := e 3 (by decide)
  have e4 : d_w ((x : Int) + 4) = ((x + 4 : Nat) : Int) := e 4 (by decide)
  have e5 : d_w ((x : Int) + 5) = ((x + 5 : Nat) : Int) := e 5 (by decide)
  have e6 : d_w ((x : Int) + 6) = ((x + 6 : Nat) : Int) := e 6 (by decide)
  have hg : F_X12_figure s ((x + 1 : Nat) : Int) 0 9 = l_run x [(0, 0, 9)] 1 s := P_fig
  have h82 : ∀ v s, F_X12_sightClause_j82 (x : Int) v s = if v = 0 then l_run x [(1, 18, 0), (0, 0, 9)] 6 s else some (v, s) := by
    intro v s
    have hw : F_X12_worded s ((t_Wn.getD 18 0 : Nat) : Int) ((x + 6 : Nat) : Int) 0 9 = l_run x [(1, 18, 0), (0, 0, 9)] 6 s := P_worded
    unfold F_X12_sightClause_j82
    rw [e6, l_w18, d_b_t, d_b2_id, hw]
  have h66 : ∀ v s, F_X12_sightClause_j66 (x : Int) v s = if v = 0 then l_run x [(2, 44, 0), (0, 1, 3), (1, 18, 0), (0, 0, 9)] 5 s else some (v, s) := by
    intro v s
    have hw : F_X12_signed s 44 ((x + 5 : Nat) : Int) 1 3 = l_run x [(2, 44, 0), (0, 1, 3)] 5 s := P_signed
    unfold F_X12_sightClause_j66
    by_cases q : v = 0
    · rw [if_pos q, if_pos q, e5, hw]
      refine Eq.trans ?_ (l_run_app (x := x) [(2, 44, 0), (0, 1, 3)] [(1, 18, 0), (0, 0, 9)] 5 s).symm
      congr 1
      funext v s
      exact h82 v s
    · rw [if_neg q, if_neg q, h82, if_neg q]
  have h50 : ∀ v s, F_X12_sightClause_j50 (x : Int) v s = if v = 0 then l_run x [(2, 58, 0), (0, 1, 3), (2, 44, 0), (0, 1, 3), (1, 18, 0), (0, 0, 9)] 4 s else some (v, s) := by
    intro v s
    have hw : F_X12_signed s 58 ((x + 4 : Nat) : Int) 1 3 = l_run x [(2, 58, 0), (0, 1, 3)] 4 s := P_signed
    unfold F_X12_sightClause_j50
    by_cases q : v = 0
    · rw [if_pos q, if_pos q, e4, hw]
      refine Eq.trans ?_ (l_run_app (x := x) [(2, 58, 0), (0, 1, 3)] [(2, 44, 0), (0, 1, 3), (1, 18, 0), (0, 0, 9)] 4 s).symm
      congr 1
      funext v s
      exact h66 v s
    · rw [if_neg q, if_neg q, h66, if_neg q]
  have h33 : ∀ v s, F_X12_sightClause_j33 (x : Int) v s = if v = 0 then l_run x [(2, 44, 0), (0, 0, 7), (2, 58, 0), (0, 1, 3), (2, 44, 0), (0, 1, 3), (1, 18, 0), (0, 0, 9)] 3 s else some (v, s) := by
    intro v s
    have hw : F_X12_signed s 44 ((x + 3 : Nat) : Int) 0 7 = l_run x [(2, 44, 0), (0, 0, 7)] 3 s := P_signed
    unfold F_X12_sightClause_j33
    by_cases q : v = 0
    · rw [if_pos q, if_pos q, e3, hw]
      refine Eq.trans ?_ (l_run_app (x := x) [(2, 44, 0), (0, 0, 7)] [(2, 58, 0), (0, 1, 3), (2, 44, 0), (0, 1, 3), (1, 18, 0), (0, 0, 9)] 3 s).symm
      congr 1
      funext v s
      exact h50 v s
    · rw [if_neg q, if_neg q, h50, if_neg q]
  unfold F_X12_sightClause
  rw [e1, hg]
  refine Eq.trans ?_ (l_run_app (x := x) [(0, 0, 9)] [(1, 17, 0), (0, 0, 7), (2, 44, 0), (0, 0, 7), (2, 58, 0), (0, 1, 3), (2, 44, 0), (0, 1, 3), (1, 18, 0), (0, 0, 9)] 1 s).symm
  congr 1
  funext v s2
  by_cases q : v = 0
  · have hw : F_X12_worded s2 ((t_Wn.getD 17 0 : Nat) : Int) ((x + 2 : Nat) : Int) 0 7 = l_run x [(1, 17, 0), (0, 0, 7)] 2 s2 := P_worded
    rw [if_pos q, if_pos q, l_w17, d_b_t, e2, hw]
    refine Eq.trans ?_ (l_run_app (x := x) [(1, 17, 0), (0, 0, 7)] [(2, 44, 0), (0, 0, 7), (2, 58, 0), (0, 1, 3), (2, 44, 0), (0, 1, 3), (1, 18, 0), (0, 0, 9)] 2 s2).symm
    congr 1
    funext v s
    exact h33 v s
  · rw [if_neg q, if_neg q, h33, if_neg q]
end X12

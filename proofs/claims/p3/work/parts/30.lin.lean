/-! Linear forms over numbered unknowns; facts about them; what facts entail. All of it is reckoned by the kernel. -/
abbrev q_L : Type := List (Nat × Int)
abbrev q_E : Type := q_L × Int
def q_nn (i : Int) : Bool := match i with
  | .ofNat _ => true
  | .negSucc _ => false
def q_z (i : Int) : Bool := match i with
  | .ofNat k => Nat.beq k 0
  | .negSucc _ => false
theorem q_nn_iff {i : Int} : q_nn i = true ↔ 0 ≤ i := by
  cases i with
  | ofNat k => simp [q_nn]
  | negSucc k => simp [q_nn]
theorem q_z_iff {i : Int} : q_z i = true ↔ i = 0 := by
  cases i with
  | ofNat k => simp [q_z]
  | negSucc k => simp [q_z]
noncomputable def q_ev (r : Nat → Int) : q_L → Int
  | [] => 0
  | t :: k => t.2 * r t.1 + q_ev r k
noncomputable def q_e (r : Nat → Int) (e : q_E) : Int := q_ev r e.1 + e.2
noncomputable def q_wl (n : Nat) (L : q_L) : Prop := ∀ t ∈ L, t.1 < n
theorem q_ev_eq {r r' : Nat → Int} {n : Nat} {L : q_L} (h : q_wl n L) (hr : ∀ i, i < n → r' i = r i) : q_ev r' L = q_ev r L := by
  induction L with
  | nil => rfl
  | cons t k ih =>
    simp only [q_ev]
    rw [ih (fun u hu => h u (List.mem_cons_of_mem _ hu)), hr _ (h t List.mem_cons_self)]
theorem q_e_eq {r r' : Nat → Int} {n : Nat} {e : q_E} (h : q_wl n e.1) (hr : ∀ i, i < n → r' i = r i) : q_e r' e = q_e r e := by
  simp only [q_e]; rw [q_ev_eq h hr]
theorem q_wl.mono {n n' : Nat} {L : q_L} (h : q_wl n L) (hn : n ≤ n') : q_wl n' L := fun t ht => Nat.lt_of_lt_of_le (h t ht) hn
theorem q_wl_nil {n : Nat} : q_wl n [] := fun t h => by cases h
noncomputable def q_ins (x : Nat) (c : Int) : q_L → q_L
  | [] => [(x, c)]
  | t :: k => if Nat.beq t.1 x then (if q_z (t.2 + c) then k else (x, t.2 + c) :: k) else if Nat.blt x t.1 then (x, c) :: t :: k else t :: q_ins x c k
theorem q_ins_ev (r : Nat → Int) (x : Nat) (c : Int) (k : q_L) : q_ev r (q_ins x c k) = c * r x + q_ev r k := by
  induction k with
  | nil => simp [q_ins, q_ev]
  | cons t k ih =>
    simp only [q_ins]
    split
    · next h =>
      have hx : t.1 = x := Nat.eq_of_beq_eq_true h
      split
      · next hz =>
        have h0 := q_z_iff.mp hz
        simp only [q_ev, hx]
        rw [← Int.add_assoc, ← Int.add_mul, Int.add_comm c, h0]
        simp
      · simp only [q_ev, hx]
        rw [Int.add_mul]; omega
    · split
      · simp [q_ev]
      · simp only [q_ev]; rw [ih]; omega
theorem q_ins_wl {n x : Nat} {c : Int} {k : q_L} (hx : x < n) (h : q_wl n k) : q_wl n (q_ins x c k) := by
  induction k with
  | nil => intro t ht; simp [q_ins] at ht; subst ht; exact hx
  | cons t k ih =>
    have h2 : q_wl n k := fun u hu => h u (List.mem_cons_of_mem _ hu)
    have ht : t.1 < n := h t List.mem_cons_self
    intro u hu
    simp only [q_ins] at hu
    split at hu
    · split at hu
      · exact h2 u hu
      · rcases List.mem_cons.mp hu with rfl | hu
        · exact hx
        · exact h2 u hu
    · split at hu
      · rcases List.mem_cons.mp hu with rfl | hu
        · exact hx
        · exact h u hu
      · rcases List.mem_cons.mp hu with rfl | hu
        · exact ht
        · exact ih h2 u hu
noncomputable def q_adL : q_L → q_L → q_L
  | [], b => b
  | t :: k, b => q_ins t.1 t.2 (q_adL k b)
noncomputable def q_scL (c : Int) : q_L → q_L
  | [] => []
  | t :: k => (t.1, c * t.2) :: q_scL c k
theorem q_adL_ev (r : Nat → Int) (a b : q_L) : q_ev r (q_adL a b) = q_ev r a + q_ev r b := by
  induction a with
  | nil => simp [q_adL, q_ev]
  | cons t k ih => simp only [q_adL, q_ins_ev, ih, q_ev]; omega
theorem q_scL_ev (r : Nat → Int) (c : Int) (a : q_L) : q_ev r (q_scL c a) = c * q_ev r a := by
  induction a with
  | nil => simp [q_scL, q_ev]
  | cons t k ih => simp only [q_scL, ih, q_ev]; rw [Int.mul_add, Int.mul_assoc]
theorem q_adL_wl {n : Nat} {a b : q_L} (ha : q_wl n a) (hb : q_wl n b) : q_wl n (q_adL a b) := by
  induction a with
  | nil => exact hb
  | cons t k ih => exact q_ins_wl (ha t List.mem_cons_self) (ih (fun u hu => ha u (List.mem_cons_of_mem _ hu)))
theorem q_scL_wl {n : Nat} {c : Int} {a : q_L} (ha : q_wl n a) : q_wl n (q_scL c a) := by
  induction a with
  | nil => exact ha
  | cons t k ih =>
    intro u hu
    rcases List.mem_cons.mp hu with rfl | hu
    · exact ha t List.mem_cons_self
    · exact ih (fun u hu => ha u (List.mem_cons_of_mem _ hu)) u hu
noncomputable def q_c (d : Int) : q_E := ([], d)
noncomputable def q_v (x : Nat) : q_E := ([(x, 1)], 0)
noncomputable def q_add (a b : q_E) : q_E := (q_adL a.1 b.1, a.2 + b.2)
noncomputable def q_sc (c : Int) (a : q_E) : q_E := if q_z c then ([], 0) else (q_scL c a.1, c * a.2)
noncomputable def q_sub (a b : q_E) : q_E := (q_adL a.1 (q_scL (-1) b.1), a.2 - b.2)
noncomputable def q_pl (a : q_E) (d : Int) : q_E := (a.1, a.2 + d)
theorem q_c_e (r : Nat → Int) (d : Int) : q_e r (q_c d) = d := by simp [q_e, q_c, q_ev]
theorem q_v_e (r : Nat → Int) (x : Nat) : q_e r (q_v x) = r x := by simp [q_e, q_v, q_ev]
theorem q_add_e (r : Nat → Int) (a b : q_E) : q_e r (q_add a b) = q_e r a + q_e r b := by
  simp only [q_e, q_add, q_adL_ev]; omega
theorem q_sc_e (r : Nat → Int) (c : Int) (a : q_E) : q_e r (q_sc c a) = c * q_e r a := by
  simp only [q_sc]
  split
  · next h => rw [q_z_iff.mp h]; simp [q_e, q_ev]
  · simp only [q_e, q_scL_ev]; rw [Int.mul_add]
theorem q_sub_e (r : Nat → Int) (a b : q_E) : q_e r (q_sub a b) = q_e r a - q_e r b := by
  simp only [q_e, q_sub, q_adL_ev, q_scL_ev]; omega
theorem q_pl_e (r : Nat → Int) (a : q_E) (d : Int) : q_e r (q_pl a d) = q_e r a + d := by
  simp only [q_e, q_pl]; omega
theorem q_c_wl {n : Nat} {d : Int} : q_wl n (q_c d).1 := q_wl_nil
theorem q_v_wl {n x : Nat} (h : x < n) : q_wl n (q_v x).1 := by
  intro t ht
  simp [q_v] at ht
  subst ht; exact h
theorem q_add_wl {n : Nat} {a b : q_E} (ha : q_wl n a.1) (hb : q_wl n b.1) : q_wl n (q_add a b).1 := q_adL_wl ha hb
theorem q_sub_wl {n : Nat} {a b : q_E} (ha : q_wl n a.1) (hb : q_wl n b.1) : q_wl n (q_sub a b).1 := q_adL_wl ha (q_scL_wl hb)
theorem q_sc_wl {n : Nat} {c : Int} {a : q_E} (ha : q_wl n a.1) : q_wl n (q_sc c a).1 := by
  simp only [q_sc]
  split
  · exact q_wl_nil
  · exact q_scL_wl ha
theorem q_pl_wl {n : Nat} {d : Int} {a : q_E} (ha : q_wl n a.1) : q_wl n (q_pl a d).1 := ha
/-- a form is a number -/
noncomputable def q_isC (e : q_E) : Option Int := match e.1 with
  | [] => some e.2
  | _ => none
theorem q_isC_e {r : Nat → Int} {e : q_E} {d : Int} (h : q_isC e = some d) : q_e r e = d := by
  obtain ⟨L, k⟩ := e
  cases L with
  | nil => simp [q_isC] at h; simp [q_e, q_ev, h]
  | cons t L => simp [q_isC] at h
/-- put forms for unknowns -/
noncomputable def q_thL (th : List q_E) : q_L → q_E
  | [] => ([], 0)
  | t :: k => q_add (q_sc t.2 (th.getD t.1 ([], 0))) (q_thL th k)
noncomputable def q_th (th : List q_E) (e : q_E) : q_E := q_pl (q_thL th e.1) e.2
noncomputable def q_rt (r : Nat → Int) (th : List q_E) : Nat → Int := fun i => q_e r (th.getD i ([], 0))
theorem q_thL_e (r : Nat → Int) (th : List q_E) (L : q_L) : q_e r (q_thL th L) = q_ev (q_rt r th) L := by
  induction L with
  | nil => simp [q_thL, q_e, q_ev]
  | cons t k ih => simp only [q_thL, q_add_e, q_sc_e, ih, q_ev, q_rt]
theorem q_th_e (r : Nat → Int) (th : List q_E) (e : q_E) : q_e r (q_th th e) = q_e (q_rt r th) e := by
  rw [q_th, q_pl_e, q_thL_e]; rfl
theorem q_thL_wl {n : Nat} {th : List q_E} (h : ∀ e ∈ th, q_wl n e.1) (L : q_L) : q_wl n (q_thL th L).1 := by
  induction L with
  | nil => exact q_wl_nil
  | cons t k ih =>
    refine q_add_wl (q_sc_wl ?_) ih
    rw [List.getD_eq_getElem?_getD]
    cases hg : th[t.1]? with
    | none => exact q_wl_nil
    | some e => exact h e (List.mem_of_getElem? hg)
theorem q_th_wl {n : Nat} {th : List q_E} (h : ∀ e ∈ th, q_wl n e.1) (e : q_E) : q_wl n (q_th th e).1 := q_pl_wl (q_thL_wl h e.1)
/-! facts: bounds of unknowns (the latest first), forms that are 0 at least, forms that aren't 0 -/
abbrev q_I : Type := List (Nat × Int × Int)
abbrev q_F : Type := q_I × List q_E × List q_E
noncomputable def q_IO (r : Nat → Int) (I : q_I) : Prop := ∀ t ∈ I, t.2.1 ≤ r t.1 ∧ r t.1 ≤ t.2.2
noncomputable def q_FO (r : Nat → Int) (F : q_F) : Prop := q_IO r F.1 ∧ (∀ e ∈ F.2.1, 0 ≤ q_e r e) ∧ ∀ e ∈ F.2.2, ¬ q_e r e = 0
noncomputable def q_wF (n : Nat) (F : q_F) : Prop := (∀ t ∈ F.1, t.1 < n) ∧ (∀ e ∈ F.2.1, q_wl n e.1) ∧ ∀ e ∈ F.2.2, q_wl n e.1
theorem q_FO.moved {r r' : Nat → Int} {n : Nat} {F : q_F} (h : q_FO r F) (w : q_wF n F) (hr : ∀ i, i < n → r' i = r i) : q_FO r' F := by
  refine ⟨fun t ht => ?_, fun e he => ?_, fun e he => ?_⟩
  · rw [hr _ (w.1 t ht)]; exact h.1 t ht
  · rw [q_e_eq (w.2.1 e he) hr]; exact h.2.1 e he
  · rw [q_e_eq (w.2.2 e he) hr]; exact h.2.2 e he
theorem q_wF.mono {n n' : Nat} {F : q_F} (h : q_wF n F) (hn : n ≤ n') : q_wF n' F :=
  ⟨fun t ht => Nat.lt_of_lt_of_le (h.1 t ht) hn, fun e he => (h.2.1 e he).mono hn, fun e he => (h.2.2 e he).mono hn⟩
noncomputable def q_lk (x : Nat) (I : q_I) : Option (Int × Int) := @List.rec (Nat × Int × Int) (fun _ => Option (Int × Int)) none (fun t _ ih => @Bool.rec (fun _ => Option (Int × Int)) ih (some t.2) (Nat.beq t.1 x)) I
theorem q_lk_c (x : Nat) (t : Nat × Int × Int) (k : q_I) : q_lk x (t :: k) = if Nat.beq t.1 x then some t.2 else q_lk x k := by
  show @Bool.rec (fun _ => Option (Int × Int)) (q_lk x k) (some t.2) (Nat.beq t.1 x) = _
  cases Nat.beq t.1 x <;> rfl
theorem q_lk_n (x : Nat) : q_lk x [] = none := rfl
theorem q_lk_spec {r : Nat → Int} {x : Nat} {I : q_I} {b : Int × Int} (h : q_IO r I) (hb : q_lk x I = some b) : b.1 ≤ r x ∧ r x ≤ b.2 := by
  induction I with
  | nil => simp [q_lk_n] at hb
  | cons t k ih =>
    simp only [q_lk_c] at hb
    split at hb
    · next hx =>
      have e : t.1 = x := Nat.eq_of_beq_eq_true hx
      cases hb
      have := h t List.mem_cons_self
      rw [e] at this; exact this
    · exact ih (fun u hu => h u (List.mem_cons_of_mem _ hu)) hb
theorem q_lk_lt {n x : Nat} {I : q_I} {b : Int × Int} (h : ∀ t ∈ I, t.1 < n) (hb : q_lk x I = some b) : x < n := by
  induction I with
  | nil => simp [q_lk_n] at hb
  | cons t k ih =>
    simp only [q_lk_c] at hb
    split at hb
    · next hx =>
      have e : t.1 = x := Nat.eq_of_beq_eq_true hx
      rw [← e]; exact h t List.mem_cons_self
    · exact ih (fun u hu => h u (List.mem_cons_of_mem _ hu)) hb
/-- the least that a form can be, by the bounds -/
noncomputable def q_mn (I : q_I) (L : q_L) : Int → Option Int := @List.rec (Nat × Int) (fun _ => Int → Option Int) (fun d => some d) (fun t _ ih d => @Option.rec (Int × Int) (fun _ => Option Int) none (fun b => ih (d + t.2 * @Bool.rec (fun _ => Int) b.2 b.1 (q_nn t.2))) (q_lk t.1 I)) L
theorem q_mn_c (I : q_I) (t : Nat × Int) (k : q_L) (d : Int) : q_mn I (t :: k) d = match q_lk t.1 I with
    | none => none
    | some b => q_mn I k (d + t.2 * (if q_nn t.2 then b.1 else b.2)) := by
  show @Option.rec (Int × Int) (fun _ => Option Int) none (fun b => q_mn I k (d + t.2 * @Bool.rec (fun _ => Int) b.2 b.1 (q_nn t.2))) (q_lk t.1 I) = _
  cases q_lk t.1 I with
  | none => rfl
  | some b =>
    show q_mn I k (d + t.2 * @Bool.rec (fun _ => Int) b.2 b.1 (q_nn t.2)) = q_mn I k (d + t.2 * (if q_nn t.2 then b.1 else b.2))
    cases q_nn t.2 <;> rfl
theorem q_mn_n (I : q_I) (d : Int) : q_mn I [] d = some d := rfl
theorem q_mn_spec {r : Nat → Int} {I : q_I} (h : q_IO r I) : ∀ (L : q_L) (d m : Int), q_mn I L d = some m → m ≤ q_ev r L + d := by
  intro L
  induction L with
  | nil => intro d m hm; simp [q_mn_n] at hm; simp [q_ev, hm]
  | cons t k ih =>
    intro d m hm
    simp only [q_mn_c] at hm
    split at hm
    · cases hm
    · next b hb =>
      have hx := q_lk_spec h hb
      have h1 := ih _ _ hm
      simp only [q_ev]
      split at h1
      · next hn =>
        have := Int.mul_le_mul_of_nonneg_left hx.1 (q_nn_iff.mp hn)
        omega
      · next hn =>
        have h0 : t.2 ≤ 0 := by
          have : ¬ 0 ≤ t.2 := fun q => hn (q_nn_iff.mpr q)
          omega
        have := Int.mul_le_mul_of_nonpos_left h0 hx.2
        omega
noncomputable def q_ge (I : q_I) (e : q_E) : Bool := match q_mn I e.1 e.2 with
  | some m => q_nn m
  | none => false
theorem q_ge_spec {r : Nat → Int} {I : q_I} {e : q_E} (h : q_IO r I) (hg : q_ge I e = true) : 0 ≤ q_e r e := by
  simp only [q_ge] at hg
  split at hg
  · next m hm =>
    have := q_mn_spec h _ _ _ hm
    have := q_nn_iff.mp hg
    simp only [q_e]; omega
  · cases hg
/-- the coefficient of x -/
noncomputable def q_cf (x : Nat) (L : q_L) : Int := @List.rec (Nat × Int) (fun _ => Int) 0 (fun t _ ih => @Bool.rec (fun _ => Int) ih t.2 (Nat.beq t.1 x)) L
/-- two forms have an unknown with one coefficient -/
noncomputable def q_hit (a c : q_L) : Bool := @List.rec (Nat × Int) (fun _ => Bool) false (fun t _ ih => @Bool.rec (fun _ => Bool) ih true (q_z (q_cf t.1 c - t.2))) a
noncomputable def q_any (p : q_E → Bool) (L : List q_E) : Bool := @List.rec q_E (fun _ => Bool) false (fun t _ ih => @Bool.rec (fun _ => Bool) ih true (p t)) L
theorem q_any_iff {p : q_E → Bool} : ∀ {L : List q_E}, q_any p L = true → ∃ c ∈ L, p c = true := by
  intro L
  induction L with
  | nil => intro h; cases h
  | cons a L ih =>
    intro h
    replace h : @Bool.rec (fun _ => Bool) (q_any p L) true (p a) = true := h
    cases hp : p a with
    | true => exact ⟨a, List.mem_cons_self, hp⟩
    | false =>
      rw [hp] at h
      obtain ⟨c, h1, h2⟩ := ih h
      exact ⟨c, List.mem_cons_of_mem _ h1, h2⟩
noncomputable def q_ent (F : q_F) (e : q_E) : Bool := q_ge F.1 e || q_any (fun c => q_hit e.1 c.1 && q_ge F.1 (q_sub e c)) F.2.1
theorem q_ent_spec {r : Nat → Int} {F : q_F} {e : q_E} (h : q_FO r F) (hg : q_ent F e = true) : 0 ≤ q_e r e := by
  simp only [q_ent, Bool.or_eq_true] at hg
  rcases hg with hg | hg
  · exact q_ge_spec h.1 hg
  · obtain ⟨c, hc, hg⟩ := q_any_iff hg
    rw [Bool.and_eq_true] at hg
    have h1 := q_ge_spec h.1 hg.2
    have h2 := h.2.1 c hc
    rw [q_sub_e] at h1
    omega
/-- two forms are one number -/
noncomputable def q_eqF (F : q_F) (a b : q_E) : Bool := decide (a = b) || (q_ent F (q_sub a b) && q_ent F (q_sub b a))
theorem q_eqF_spec {r : Nat → Int} {F : q_F} {a b : q_E} (h : q_FO r F) (hg : q_eqF F a b = true) : q_e r a = q_e r b := by
  simp only [q_eqF, Bool.or_eq_true, Bool.and_eq_true, decide_eq_true_eq] at hg
  rcases hg with rfl | ⟨h1, h2⟩
  · rfl
  · have h1 := q_ent_spec h h1
    have h2 := q_ent_spec h h2
    rw [q_sub_e] at h1 h2
    omega
/-- a form is not 0 -/
noncomputable def q_ne0 (F : q_F) (e : q_E) : Bool := q_ent F (q_pl e (-1)) || q_ent F (q_pl (q_sc (-1) e) (-1)) || F.2.2.any (fun c => decide (c = e))
theorem q_ne0_spec {r : Nat → Int} {F : q_F} {e : q_E} (h : q_FO r F) (hg : q_ne0 F e = true) : ¬ q_e r e = 0 := by
  simp only [q_ne0, Bool.or_eq_true, List.any_eq_true, decide_eq_true_eq] at hg
  rcases hg with (hg | hg) | ⟨c, hc, rfl⟩
  · have := q_ent_spec h hg
    rw [q_pl_e] at this; omega
  · have := q_ent_spec h hg
    rw [q_pl_e, q_sc_e] at this; omega
  · exact h.2.2 _ hc
/-- what a form that is 0 at least says of the bounds of its unknowns -/
noncomputable def q_pr (d : Int) : q_L → q_L → q_I → q_I
  | _, [], I => I
  | pre, t :: k, I => q_pr d (t :: pre) k (match q_lk t.1 I, q_mn I (q_scL (-1) (pre ++ k)) (-d) with
    | some b, some m => if q_nn (t.2 - 1) then (if q_nn (-((-m) / t.2) - 1 - b.1) then (t.1, -((-m) / t.2), b.2) :: I else I)
        else if q_nn (-t.2 - 1) then (if q_nn (b.2 - 1 - (-m) / (-t.2)) then (t.1, b.1, (-m) / (-t.2)) :: I else I) else I
    | _, _ => I)
theorem q_ev_app (r : Nat → Int) (a b : q_L) : q_ev r (a ++ b) = q_ev r a + q_ev r b := by
  induction a with
  | nil => simp [q_ev]
  | cons t k ih => simp only [List.cons_append, q_ev, ih]; omega
theorem q_pr_spec {r : Nat → Int} {d : Int} : ∀ (post pre : q_L) (I : q_I), q_IO r I → 0 ≤ q_ev r pre + q_ev r post + d → q_IO r (q_pr d pre post I) := by
  intro post
  induction post with
  | nil => intro pre I h _; exact h
  | cons t k ih =>
    intro pre I h h0
    simp only [q_pr]
    have hs : 0 ≤ q_ev r (t :: pre) + q_ev r k + d := by simp only [q_ev] at h0 ⊢; omega
    refine ih (t :: pre) _ ?_ hs
    split
    · next b m hb hm =>
      have hx := q_lk_spec h hb
      have h1 := q_mn_spec h _ _ _ hm
      rw [q_scL_ev, q_ev_app] at h1
      have h2 : m ≤ t.2 * r t.1 := by simp only [q_ev] at h0; omega
      split
      · next hc =>
        have hc := q_nn_iff.mp hc
        split
        · intro u hu
          rcases List.mem_cons.mp hu with rfl | hu
          · refine ⟨?_, hx.2⟩
            have h3 : (-(r t.1)) * t.2 ≤ -m := by rw [Int.neg_mul, Int.mul_comm]; omega
            have := Int.le_ediv_of_mul_le (by omega) h3
            show -(-m / t.2) ≤ r t.1
            omega
          · exact h u hu
        · exact h
      · split
        · next hc =>
          have hc := q_nn_iff.mp hc
          split
          · intro u hu
            rcases List.mem_cons.mp hu with rfl | hu
            · refine ⟨hx.1, ?_⟩
              have h3 : (r t.1) * (-t.2) ≤ -m := by rw [Int.mul_neg, Int.mul_comm]; omega
              exact Int.le_ediv_of_mul_le (by omega) h3
            · exact h u hu
          · exact h
        · exact h
    · exact h
theorem q_pr_wl {n : Nat} {d : Int} : ∀ (post pre : q_L) (I : q_I), q_wl n post → (∀ t ∈ I, t.1 < n) → ∀ t ∈ q_pr d pre post I, t.1 < n := by
  intro post
  induction post with
  | nil => intro pre I _ h; exact h
  | cons t k ih =>
    intro pre I hp h
    simp only [q_pr]
    refine ih (t :: pre) _ (fun u hu => hp u (List.mem_cons_of_mem _ hu)) ?_
    have ht := hp t List.mem_cons_self
    split
    · split
      · split
        · intro u hu
          rcases List.mem_cons.mp hu with rfl | hu
          · exact ht
          · exact h u hu
        · exact h
      · split
        · split
          · intro u hu
            rcases List.mem_cons.mp hu with rfl | hu
            · exact ht
            · exact h u hu
          · exact h
        · exact h
    · exact h
noncomputable def q_asm (F : q_F) (e : q_E) : q_F := (q_pr e.2 [] e.1 F.1, (match e.1 with
  | _ :: _ :: _ => e :: F.2.1
  | _ => F.2.1), F.2.2)
theorem q_asm_spec {r : Nat → Int} {F : q_F} {e : q_E} (h : q_FO r F) (h0 : 0 ≤ q_e r e) : q_FO r (q_asm F e) := by
  refine ⟨q_pr_spec _ _ _ h.1 (by simp only [q_ev]; simp only [q_e] at h0; omega), ?_, h.2.2⟩
  simp only [q_asm]
  split
  · intro u hu
    rcases List.mem_cons.mp hu with rfl | hu
    · exact h0
    · exact h.2.1 u hu
  · exact h.2.1
theorem q_asm_wF {n : Nat} {F : q_F} {e : q_E} (w : q_wF n F) (he : q_wl n e.1) : q_wF n (q_asm F e) := by
  refine ⟨q_pr_wl _ _ _ he w.1, ?_, w.2.2⟩
  simp only [q_asm]
  split
  · intro u hu
    rcases List.mem_cons.mp hu with rfl | hu
    · exact he
    · exact w.2.1 u hu
  · exact w.2.1
/-- a form isn't 0: at an end of its bounds they get narrower, else it is noted -/
noncomputable def q_asn (F : q_F) (e : q_E) : q_F := if q_ent F e then q_asm F (q_pl e (-1)) else if q_ent F (q_sc (-1) e) then q_asm F (q_pl (q_sc (-1) e) (-1)) else (F.1, F.2.1, e :: F.2.2)
theorem q_asn_spec {r : Nat → Int} {F : q_F} {e : q_E} (h : q_FO r F) (h0 : ¬ q_e r e = 0) : q_FO r (q_asn F e) := by
  simp only [q_asn]
  split
  · next hg =>
    have := q_ent_spec h hg
    exact q_asm_spec h (by rw [q_pl_e]; omega)
  · split
    · next hg =>
      have := q_ent_spec h hg
      rw [q_sc_e] at this
      exact q_asm_spec h (by rw [q_pl_e, q_sc_e]; omega)
    · refine ⟨h.1, h.2.1, fun u hu => ?_⟩
      rcases List.mem_cons.mp hu with rfl | hu
      · exact h0
      · exact h.2.2 u hu
theorem q_asn_wF {n : Nat} {F : q_F} {e : q_E} (w : q_wF n F) (he : q_wl n e.1) : q_wF n (q_asn F e) := by
  simp only [q_asn]
  split
  · exact q_asm_wF w (q_pl_wl he)
  · split
    · exact q_asm_wF w (q_pl_wl (q_sc_wl he))
    · refine ⟨w.1, w.2.1, fun u hu => ?_⟩
      rcases List.mem_cons.mp hu with rfl | hu
      · exact he
      · exact w.2.2 u hu

/-- the highest unknown of a form, the rest, its coefficient -/
noncomputable def q_last : q_L → Option (q_L × Nat × Int)
  | [] => none
  | t :: k => match q_last k with
    | none => some ([], t)
    | some (L, u) => some (t :: L, u)
theorem q_last_ev {r : Nat → Int} : ∀ {L K : q_L} {t : Nat × Int}, q_last L = some (K, t) → q_ev r L = q_ev r K + t.2 * r t.1 := by
  intro L
  induction L with
  | nil => intro K t h; simp [q_last] at h
  | cons a L ih =>
    intro K t h
    simp only [q_last] at h
    split at h
    · next hn =>
      cases h
      cases L with
      | nil => simp [q_ev]
      | cons b L =>
        simp only [q_last] at hn
        split at hn <;> cases hn
    · next K' u hs =>
      cases h
      simp only [q_ev]
      rw [ih hs]; omega
/-- a form is 0 at least: its highest unknown goes first, by a fact with the same coefficient or by its bounds -/
noncomputable def q_en (F : q_F) : Nat → q_E → Bool
  | 0, e => q_ge F.1 e
  | k + 1, e => q_ge F.1 e || (match q_last e.1 with
    | none => false
    | some (K, x, c) => q_any (fun f => q_z (q_cf x f.1 - c) && q_en F k (q_sub e f)) F.2.1 || (match q_lk x F.1 with
      | none => false
      | some b => q_en F k (K, e.2 + c * (if q_nn c then b.1 else b.2))))
theorem q_en_spec {r : Nat → Int} {F : q_F} (h : q_FO r F) : ∀ (k : Nat) (e : q_E), q_en F k e = true → 0 ≤ q_e r e := by
  intro k
  induction k with
  | zero => intro e hg; exact q_ge_spec h.1 hg
  | succ k ih =>
    intro e hg
    simp only [q_en, Bool.or_eq_true] at hg
    rcases hg with hg | hg
    · exact q_ge_spec h.1 hg
    · split at hg
      · cases hg
      · next K x c hl =>
        rw [Bool.or_eq_true] at hg
        rcases hg with hg | hg
        · obtain ⟨f, hf, hg⟩ := q_any_iff hg
          rw [Bool.and_eq_true] at hg
          have h1 := ih _ hg.2
          have h2 := h.2.1 f hf
          rw [q_sub_e] at h1
          omega
        · split at hg
          · cases hg
          · next b hb =>
            have h1 := ih _ hg
            have hx := q_lk_spec h.1 hb
            have h2 := q_last_ev (r := r) hl
            simp only [q_e] at h1 ⊢
            rw [h2]
            simp only at h1 ⊢
            split at h1
            · next hn =>
              have := Int.mul_le_mul_of_nonneg_left hx.1 (q_nn_iff.mp hn)
              omega
            · next hn =>
              have h0 : c ≤ 0 := by
                have : ¬ 0 ≤ c := fun q => hn (q_nn_iff.mpr q)
                omega
              have := Int.mul_le_mul_of_nonpos_left h0 hx.2
              omega
noncomputable def q_entd (F : q_F) (e : q_E) : Bool := q_ent F e || q_en F 8 e
theorem q_entd_spec {r : Nat → Int} {F : q_F} {e : q_E} (h : q_FO r F) (hg : q_entd F e = true) : 0 ≤ q_e r e := by
  simp only [q_entd, Bool.or_eq_true] at hg
  rcases hg with hg | hg
  · exact q_ent_spec h hg
  · exact q_en_spec h _ _ hg
/-- the bounds, narrowed by all facts once more -/
noncomputable def q_naI : List q_E → q_I → q_I
  | [], I => I
  | e :: X, I => q_naI X (q_pr e.2 [] e.1 I)
noncomputable def q_nar (F : q_F) : q_F := (q_naI F.2.1 F.1, F.2.1, F.2.2)
theorem q_naI_spec {r : Nat → Int} : ∀ (X : List q_E) (I : q_I), q_IO r I → (∀ e ∈ X, 0 ≤ q_e r e) → q_IO r (q_naI X I) := by
  intro X
  induction X with
  | nil => intro I h _; exact h
  | cons e X ih =>
    intro I h hX
    have h0 := hX e List.mem_cons_self
    exact ih _ (q_pr_spec _ _ _ h (by simp only [q_ev]; simp only [q_e] at h0; omega)) (fun u hu => hX u (List.mem_cons_of_mem _ hu))
theorem q_naI_wl {n : Nat} : ∀ (X : List q_E) (I : q_I), (∀ e ∈ X, q_wl n e.1) → (∀ t ∈ I, t.1 < n) → ∀ t ∈ q_naI X I, t.1 < n := by
  intro X
  induction X with
  | nil => intro I _ h; exact h
  | cons e X ih =>
    intro I hX h
    exact ih _ (fun u hu => hX u (List.mem_cons_of_mem _ hu)) (q_pr_wl _ _ _ (hX e List.mem_cons_self) h)
theorem q_nar_spec {r : Nat → Int} {F : q_F} (h : q_FO r F) : q_FO r (q_nar F) := ⟨q_naI_spec _ _ h.1 h.2.1, h.2.1, h.2.2⟩
theorem q_nar_wF {n : Nat} {F : q_F} (w : q_wF n F) : q_wF n (q_nar F) := ⟨q_naI_wl _ _ w.2.1 w.1, w.2.1, w.2.2⟩

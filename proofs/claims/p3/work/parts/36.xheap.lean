/-! Heaps by kinds: reading and writing a place -/
def x_ef (f : x_F) (τ0 : Nat → Option Nat) (h0 h : p_H) : Prop := (∀ (i k : Nat) (c : p_C), τ0 i = some k → h0[i]? = some c → ∃ c', h[i]? = some c' ∧ c'.2.2.length = c.2.2.length ∧ ∀ j, (∀ t ∈ f, t.1 = k → ¬ (t.2.1 ≤ j ∧ j ≤ t.2.2)) → c'.2.2[j]? = c.2.2[j]?) ∧ ∀ i, τ0 i = none → i < h0.length → h[i]? = h0[i]?
/-- kinds since the start (τ0, h0) -/
def x_J (E : x_E) (f : x_F) (τ0 : Nat → Option Nat) (h0 : p_H) (τ : Nat → Option Nat) (h : p_H) : Prop := (∀ i k, τ0 i = some k → τ i = some k) ∧ (∀ i k, τ i = some k → τ0 i = some k ∨ h0.length ≤ i) ∧ x_H E τ h ∧ x_ef f τ0 h0 h
def x_look_at (K : x_K) (g j : Nat) : Prop := ∃ t ∈ K.2.2.2.2.2.1, t.1 = g ∧ t.2.1 ≤ j ∧ j ≤ t.2.2
/-- the ghosts hang on the places that they look at, of the cells 0 .. 79 -/
def x_EG (E : x_E) : Prop := ∀ (g : Nat) (p : Int) (h h2 : p_H), 80 ≤ h.length → (∀ a, a < 80 → ∀ c, h[a]? = some c → ∃ c', h2[a]? = some c' ∧ c'.2.2.length = c.2.2.length ∧ ∀ (K : x_K) (j : Nat), E.1[a]? = some K → x_look_at K g j → c'.2.2[j]? = c.2.2[j]?) → E.2.2 g h2 p = E.2.2 g h p
/-- what is given with the kinds hangs on protected places alone; the cells 0 .. 79 have kinds of their own -/
def x_EO (E : x_E) : Prop := (∀ (i k : Nat) (K : x_K) (vs vs' : List Value), E.1[k]? = some K → E.2.1 i k vs → vs'.length = vs.length → (∀ j, (∃ t ∈ K.2.2.2.2.1, t.1 ≤ j ∧ j ≤ t.2) → vs'[j]? = vs[j]?) → E.2.1 i k vs') ∧ x_EG E ∧ ∀ (i k : Nat) (vs : List Value), E.2.1 i k vs → i < 80 → k = i
section XH
variable {E : x_E} {f : x_F} {τ τ0 : Nat → Option Nat} {h h0 : p_H} {r : Nat → Int} {n : Nat}
theorem x_apart_in {R : List (Nat × Nat)} {lo hi j : Nat} (h : x_apart R lo hi = true) (h1 : lo ≤ j) (h2 : j ≤ hi) : x_apart R j j = true := by
  simp only [x_apart, List.all_eq_true, Bool.or_eq_true] at h ⊢
  intro t ht
  rcases h t ht with g | g
  · have := Nat.le_of_ble_eq_true g
    exact Or.inl (Nat.ble_eq_true_of_le (by omega))
  · have := Nat.le_of_ble_eq_true g
    exact Or.inr (Nat.ble_eq_true_of_le (by omega))
theorem x_cov_in {k lo hi j : Nat} (h : x_cov f k lo hi = true) (h1 : lo ≤ j) (h2 : j ≤ hi) : ∃ t ∈ f, t.1 = k ∧ t.2.1 ≤ j ∧ j ≤ t.2.2 := by
  simp only [x_cov, List.any_eq_true, Bool.and_eq_true] at h
  obtain ⟨t, ht, ⟨g1, g2⟩, g3⟩ := h
  have e1 := Nat.eq_of_beq_eq_true g1
  have e2 := Nat.le_of_ble_eq_true g2
  have e3 := Nat.le_of_ble_eq_true g3
  exact ⟨t, ht, e1, by omega, by omega⟩
theorem x_apart_ne {R : List (Nat × Nat)} {lo hi j : Nat} (h : x_apart R lo hi = true) (hj : ∃ t ∈ R, t.1 ≤ j ∧ j ≤ t.2) : j < lo ∨ hi < j := by
  obtain ⟨t, ht, e1, e2⟩ := hj
  have := List.all_eq_true.mp h t ht
  rw [Bool.or_eq_true] at this
  rcases this with g | g
  · have := Nat.le_of_ble_eq_true g; omega
  · have := Nat.le_of_ble_eq_true g; omega
/-- places lo .. hi are written -/
theorem x_H.sets (hEO : x_EO E) (hH : x_H E τ h) {i k lo hi : Nat} {K : x_K} {c : p_C} {vs' : List Value} (ht : τ i = some k) (hc : h[i]? = some c) (hK : E.1[k]? = some K) (hl : vs'.length = c.2.2.length) (hs : ∀ j, j < lo ∨ hi < j → vs'[j]? = c.2.2[j]?) (hv : ∀ j v, vs'[j]? = some v → x_fo τ (x_pt K j) v) (hp : x_apart K.2.2.2.2.1 lo hi = true) : x_H E τ (h.set i (c.1, c.2.1, vs')) := by
  intro a q ha
  by_cases e : i = a
  · subst e
    have hq : q = k := Option.some.inj (ha.symm.trans ht)
    subst hq
    obtain ⟨c', hc', K', hK', g1, g2, g3, g4, g5, g6⟩ := hH i q ha
    have ec : c' = c := Option.some.inj (hc'.symm.trans hc)
    have eK : K' = K := Option.some.inj (hK'.symm.trans hK)
    subst ec; subst eK
    have hlt : i < h.length := (List.getElem?_eq_some_iff.mp hc).1
    exact ⟨(c'.1, c'.2.1, vs'), by rw [List.getElem?_set, if_pos rfl, if_pos hlt], K', hK', g1, g2, by show _ ≤ vs'.length; omega, by show vs'.length ≤ _; omega, hv, hEO.1 i q K' _ _ hK' g6 hl (fun j hj => hs j (x_apart_ne hp hj))⟩
  · obtain ⟨c', hc', g⟩ := hH a q ha
    exact ⟨c', by rw [List.getElem?_set_ne e]; exact hc', g⟩
theorem x_ef.sets (he : x_ef f τ0 h0 h) (hτ : ∀ i k, τ i = some k → τ0 i = some k ∨ h0.length ≤ i) {i k lo hi : Nat} {c : p_C} {vs' : List Value} (ht : τ i = some k) (hc : h[i]? = some c) (hl : vs'.length = c.2.2.length) (hs : ∀ j, j < lo ∨ hi < j → vs'[j]? = c.2.2[j]?) (hcov : x_cov f k lo hi = true) : x_ef f τ0 h0 (h.set i (c.1, c.2.1, vs')) := by
  refine ⟨fun a q ca ha hca => ?_, fun a ha hl => ?_⟩
  · obtain ⟨c', g1, g2, g3⟩ := he.1 a q ca ha hca
    by_cases e : i = a
    · subst e
      have ec : c' = c := Option.some.inj (g1.symm.trans hc)
      subst ec
      have hlt : i < h.length := (List.getElem?_eq_some_iff.mp hc).1
      have hk : k = q := by
        rcases hτ i k ht with g | g
        · exact Option.some.inj (g.symm.trans ha)
        · have := (List.getElem?_eq_some_iff.mp hca).1
          omega
      subst hk
      refine ⟨_, by rw [List.getElem?_set, if_pos rfl, if_pos hlt], by show vs'.length = _; omega, fun y hy => ?_⟩
      show vs'[y]? = _
      rw [hs y, g3 y hy]
      by_cases q : y < lo ∨ hi < y
      · exact q
      · obtain ⟨t, t1, t2, t3, t4⟩ := x_cov_in hcov (show lo ≤ y by omega) (show y ≤ hi by omega)
        exact absurd ⟨t3, t4⟩ (hy t t1 t2)
    · exact ⟨c', by rw [List.getElem?_set_ne e]; exact g1, g2, g3⟩
  · have e : i ≠ a := by
      intro q
      subst q
      rcases hτ i k ht with g | g
      · rw [ha] at g; cases g
      · omega
    rw [List.getElem?_set_ne e]
    exact he.2 a ha hl
theorem x_J.sets (hEO : x_EO E) (hJ : x_J E f τ0 h0 τ h) {i k lo hi : Nat} {K : x_K} {c : p_C} {vs' : List Value} (ht : τ i = some k) (hc : h[i]? = some c) (hK : E.1[k]? = some K) (hl : vs'.length = c.2.2.length) (hs : ∀ j, j < lo ∨ hi < j → vs'[j]? = c.2.2[j]?) (hv : ∀ j v, vs'[j]? = some v → x_fo τ (x_pt K j) v) (hp : x_apart K.2.2.2.2.1 lo hi = true) (hcov : x_cov f k lo hi = true) : x_J E f τ0 h0 τ (h.set i (c.1, c.2.1, vs')) :=
  ⟨hJ.1, hJ.2.1, hJ.2.2.1.sets hEO ht hc hK hl hs hv hp, hJ.2.2.2.sets hJ.2.1 ht hc hl hs hcov⟩
theorem x_set1 {vs : List Value} {j lo hi : Nat} {v : Value} (h1 : lo ≤ j) (h2 : j ≤ hi) : ∀ y, y < lo ∨ hi < y → (vs.set j v)[y]? = vs[y]? := by
  intro y hy
  rw [List.getElem?_set_ne (by omega)]
theorem x_J.put (hEO : x_EO E) (hJ : x_J E f τ0 h0 τ h) {i k j lo hi : Nat} {K : x_K} {c : p_C} {v : Value} (ht : τ i = some k) (hc : h[i]? = some c) (hK : E.1[k]? = some K) (hv : x_fo τ (x_pt K j) v) (hp : x_apart K.2.2.2.2.1 lo hi = true) (hcov : x_cov f k lo hi = true) (h1 : lo ≤ j) (h2 : j ≤ hi) : x_J E f τ0 h0 τ (h.set i (c.1, c.2.1, c.2.2.set j v)) := by
  refine hJ.sets hEO ht hc hK (by simp) (x_set1 h1 h2) (fun y w hw => ?_) hp hcov
  obtain ⟨c', hc', K', hK', -, -, -, -, g5, -⟩ := hJ.2.2.1 i k ht
  have ec : c' = c := Option.some.inj (hc'.symm.trans hc)
  have eK : K' = K := Option.some.inj (hK'.symm.trans hK)
  subst ec; subst eK
  by_cases ey : j = y
  · subst ey
    have hl := (List.getElem?_eq_some_iff.mp hw).1
    rw [List.length_set] at hl
    rw [List.getElem?_set_self hl] at hw
    cases hw
    exact hv
  · rw [List.getElem?_set_ne ey] at hw
    exact g5 y w hw
theorem x_H.kind (hEO : x_EO E) (hH : x_H E τ h) {i k : Nat} (hi : τ i = some k) (h8 : i < 80) : k = i := by
  obtain ⟨c, -, K, -, -, -, -, -, -, g⟩ := hH i k hi
  exact hEO.2.2 i k _ g h8
theorem x_ga_ne {K : x_K} {g lo hi j j' : Nat} (h : x_ga K g lo hi = true) (h1 : lo ≤ j) (h2 : j ≤ hi) (hl : x_look_at K g j') : j ≠ j' := by
  obtain ⟨t, ht, e1, e2, e3⟩ := hl
  have := List.all_eq_true.mp h t ht
  rw [e1, Nat.beq_refl] at this
  simp only [Bool.not_true, Bool.false_or, Bool.or_eq_true] at this
  rcases this with q | q
  · have := Nat.le_of_ble_eq_true q; omega
  · have := Nat.le_of_ble_eq_true q; omega
theorem x_ga_out {K : x_K} {g lo hi j' : Nat} (h : x_ga K g lo hi = true) (hl : x_look_at K g j') : j' < lo ∨ hi < j' := by
  obtain ⟨t, ht, e1, e2, e3⟩ := hl
  have := List.all_eq_true.mp h t ht
  rw [e1, Nat.beq_refl] at this
  simp only [Bool.not_true, Bool.false_or, Bool.or_eq_true] at this
  rcases this with q | q
  · have := Nat.le_of_ble_eq_true q; omega
  · have := Nat.le_of_ble_eq_true q; omega
/-- what is known and not forgotten still holds -/
theorem x_m.sets (hEO : x_EO E) (hH : x_H E τ h) {i k lo hi : Nat} {K : x_K} {c : p_C} {vs' : List Value} {M : x_M} (ht : τ i = some k) (hc : h[i]? = some c) (hK : E.1[k]? = some K) (hl : vs'.length = c.2.2.length) (hs : ∀ j, j < lo ∨ hi < j → vs'[j]? = c.2.2[j]?) {m : q_E × Nat × Nat × x_V} (hm : m ∈ x_kill K k lo hi M) (hx : x_m E τ r n h m) : x_m E τ r n (h.set i (c.1, c.2.1, vs')) m := by
  have hlt : i < h.length := (List.getElem?_eq_some_iff.mp hc).1
  have hk := (List.mem_filter.mp hm).2
  by_cases g : x_gho ≤ m.2.2.1
  · have e4 := hx.2
    rw [if_pos g] at e4
    rw [if_pos (Nat.ble_eq_true_of_le g)] at hk
    refine ⟨hx.1, ?_⟩
    rw [if_pos g]
    refine ⟨e4.1, e4.2.1, by rw [List.length_set]; exact e4.2.2.1, ?_⟩
    rw [← e4.2.2.2]
    refine hEO.2.1 _ _ _ _ e4.2.2.1 (fun a ha ca hca => ?_)
    by_cases e : i = a
    · subst e
      have ec : ca = c := Option.some.inj (hca.symm.trans hc)
      subst ec
      have hki : k = i := hH.kind hEO ht ha
      refine ⟨(ca.1, ca.2.1, vs'), by rw [List.getElem?_set, if_pos rfl, if_pos hlt], hl, fun K' j' hK' hk' => ?_⟩
      rw [← hki] at hK'
      have eK : K' = K := Option.some.inj (hK'.symm.trans hK)
      subst eK
      exact hs j' (x_ga_out hk hk')
    · exact ⟨ca, by rw [List.getElem?_set_ne e]; exact hca, rfl, fun _ _ _ _ => rfl⟩
  · have g' : m.2.2.1 < x_gho := by omega
    rw [if_neg (by intro q; exact g (Nat.le_of_ble_eq_true q))] at hk
    obtain ⟨a, ca, e1, e2, e3, e4⟩ := hx.plc g'
    refine x_m.mkp hx.1 g' ?_
    by_cases e : i = a
    · subst e
      have ec : ca = c := Option.some.inj (e3.symm.trans hc)
      subst ec
      have ek : m.2.1 = k := Option.some.inj (e2.symm.trans ht)
      refine ⟨i, _, e1, e2, by rw [List.getElem?_set, if_pos rfl, if_pos hlt], ?_⟩
      rw [ek] at hk
      simp only [Nat.beq_refl, Bool.not_true, Bool.false_or] at hk
      by_cases g1 : m.2.2.1 = x_len
      · rw [if_pos g1] at e4 ⊢
        exact ⟨e4.1, e4.2.1, by show (vs'.length : Int) = _; rw [hl]; exact e4.2.2⟩
      · rw [if_neg g1] at e4 ⊢
        have n1 : Nat.beq m.2.2.1 x_len = false := by
          cases q : Nat.beq m.2.2.1 x_len with
          | false => rfl
          | true => exact absurd (Nat.eq_of_beq_eq_true q) g1
        rw [n1, Bool.false_or] at hk
        simp only [Bool.or_eq_true] at hk
        obtain ⟨y, q1, q2⟩ := e4
        have hne : m.2.2.1 < lo ∨ hi < m.2.2.1 := by
          rcases hk with g | g
          · have := Nat.le_of_ble_eq_true g; omega
          · have := Nat.le_of_ble_eq_true g; omega
        exact ⟨y, by show vs'[m.2.2.1]? = _; rw [hs _ hne]; exact q1, q2⟩
    · exact ⟨a, ca, e1, e2, by rw [List.getElem?_set_ne e]; exact e3, e4⟩
theorem x_m.put (hEO : x_EO E) (hH : x_H E τ h) {i k j lo hi : Nat} {K : x_K} {c : p_C} {v : Value} {M : x_M} (ht : τ i = some k) (hc : h[i]? = some c) (hK : E.1[k]? = some K) (h1 : lo ≤ j) (h2 : j ≤ hi) {m : q_E × Nat × Nat × x_V} (hm : m ∈ x_kill K k lo hi M) (hx : x_m E τ r n h m) : x_m E τ r n (h.set i (c.1, c.2.1, c.2.2.set j v)) m :=
  x_m.sets hEO hH ht hc hK (by simp) (x_set1 h1 h2) hm hx
theorem x_mf_ok {e : q_E} {j : Nat} : ∀ {M : x_M} {a : x_V}, x_mf e j M = some a → ∃ m ∈ M, m.1 = e ∧ m.2.2.1 = j ∧ m.2.2.2 = a := by
  intro M
  induction M with
  | nil => intro a h; simp [x_mf] at h
  | cons m M ih =>
    intro a h
    simp only [x_mf] at h
    split at h
    · next g =>
      rw [Bool.and_eq_true] at g
      cases h
      exact ⟨m, List.mem_cons_self, q_eqE_ok g.2, Nat.eq_of_beq_eq_true g.1, rfl⟩
    · obtain ⟨m', h1, h2⟩ := ih h
      exact ⟨m', List.mem_cons_of_mem _ h1, h2⟩
/-- a value of a type is one of those that the type may hold -/
theorem x_ld_ok {F : q_F} {t : x_T} {v : Value} (w : q_wF n F) (hF : q_FO r F) (hv : x_fo τ t v) : ∃ o ∈ x_ld n F t, ∃ r', (∀ i, i < n → r' i = r i) ∧ n ≤ o.1 ∧ q_wF o.1 o.2.1 ∧ q_FO r' o.2.1 ∧ x_v τ r' o.1 o.2.2 v := by
  unfold x_fo at hv
  unfold x_ld
  split at hv
  · next e =>
    rw [e]
    obtain ⟨x, rfl, b1, b2⟩ := hv
    obtain ⟨r', g1, g2, g3, g4, g5, g6⟩ := x_fr_ok (lo := t.2.2.1) (hi := t.2.2.2) w hF b1 b2
    exact ⟨_, List.mem_cons_self, r', g1, g2, g3, g4, g5, x, rfl, g6.symm⟩
  · next e =>
    rw [e]
    obtain ⟨x, rfl⟩ := hv
    obtain ⟨r', g1, g2, g3, g4, g5, g6⟩ := x_f64_ok w hF x
    exact ⟨_, List.mem_cons_self, r', g1, g2, g3, g4, g5, x, rfl, g6.symm⟩
  · next e =>
    rw [e]
    obtain ⟨a, rfl, ha, hk⟩ := hv
    simp only
    split
    · next gk =>
      have gk := q_nn_iff.mp gk
      refine ⟨_, List.mem_cons_self, r, fun _ _ => rfl, Nat.le_refl n, w, hF, q_c_wl, a, rfl, ?_, ha⟩
      show (a : Int) = q_e r (q_c t.2.2.1)
      rw [q_c_e]
      exact hk (by omega)
    · refine ⟨_, List.mem_cons_self, x_up r n a, x_up_lt, Nat.le_succ n, w.mono (Nat.le_succ n), hF.moved w x_up_lt, q_v_wl (Nat.lt_succ_self n), a, rfl, ?_, ha⟩
      show (a : Int) = q_e (x_up r n a) (q_v n)
      rw [q_v_e, x_up_at]
  · next e =>
    rw [e]
    rcases hv with rfl | ⟨a, rfl, ha⟩
    · exact ⟨_, List.mem_cons_self, r, fun _ _ => rfl, Nat.le_refl n, w, hF, q_wl_nil, rfl⟩
    · refine ⟨_, List.mem_cons_of_mem _ List.mem_cons_self, x_up r n a, x_up_lt, Nat.le_succ n, w.mono (Nat.le_succ n), hF.moved w x_up_lt, q_v_wl (Nat.lt_succ_self n), a, rfl, ?_, ha⟩
      show (a : Int) = q_e (x_up r n a) (q_v n)
      rw [q_v_e, x_up_at]
  · exact hv.elim
theorem x_fit_ok {F : q_F} {t : x_T} {a : x_V} {v : Value} (hF : q_FO r F) (hg : x_fit F t a = true) (hv : x_v τ r n a v) : x_fo τ t v := by
  unfold x_fit at hg
  split at hg
  · next e1 e2 =>
    simp only [x_fo, e1]
    obtain ⟨-, hv⟩ := hv
    simp only [e2] at hv
    obtain ⟨x, rfl, hx⟩ := hv
    rw [Bool.and_eq_true] at hg
    have g1 := q_ent_spec hF hg.1
    have g2 := q_ent_spec hF hg.2
    rw [q_pl_e] at g1
    rw [q_sub_e, q_c_e] at g2
    exact ⟨x, rfl, by omega, by omega⟩
  · next e1 e2 =>
    simp only [x_fo, e1]
    obtain ⟨-, hv⟩ := hv
    simp only [e2] at hv
    obtain ⟨x, rfl, -⟩ := hv
    exact ⟨x, rfl⟩
  · next e1 e2 =>
    simp only [x_fo, e1]
    obtain ⟨-, hv⟩ := hv
    simp only [e2] at hv
    obtain ⟨i, rfl, he, hi⟩ := hv
    rw [Bool.and_eq_true] at hg
    rw [← Nat.eq_of_beq_eq_true hg.1] at hi
    refine ⟨i, rfl, hi, fun h0 => ?_⟩
    have hg2 := hg.2
    rw [if_pos (q_nn_iff.mpr (by omega))] at hg2
    have := q_eqF_spec hF hg2
    rw [q_c_e] at this
    omega
  · next e1 e2 =>
    simp only [x_fo, e1]
    obtain ⟨-, hv⟩ := hv
    simp only [e2] at hv
    obtain ⟨i, rfl, -, hi⟩ := hv
    rw [← Nat.eq_of_beq_eq_true hg] at hi
    exact Or.inr ⟨i, rfl, hi⟩
  · next e1 e2 =>
    simp only [x_fo, e1]
    obtain ⟨-, hv⟩ := hv
    simp only [e2] at hv
    exact Or.inl hv
  · cases hg
end XH

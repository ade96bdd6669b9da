/-! The end of read: a new text -/
section GTL
variable {G : p_G} {MT : List p_M} {d : Nat} {M : p_M} {pc l : Nat} {ls : p_Ls} {st : List Value} {h : p_H} {Q : Option Value → p_H → Prop} {a b n k : Nat} {vs ws : List Value} {v : Value}
/-- null or a reference -/
def g_rf (v : Value) : Prop := v = .null ∨ ∃ a, v = .ref a
theorem g_rf.cat (hv : g_rf v) : v.category = 1 := by
  rcases hv with rfl | ⟨a, rfl⟩ <;> rfl
theorem w_aloadr {k : Fin 4} (hat : p_at pc M.2.2.2.2.1 = some (.aload_n k, l)) (hv : g_rf v) (hl : p_lk k.val ls = some v) (hk : p_wp G MT d M (pc + 1) ls (v :: st) h Q) : p_wp G MT d M pc ls st h Q := by
  rcases hv with rfl | ⟨a, rfl⟩
  · exact p_wp.step hat (by simp only [p_step, p_ld, hl]; rfl) hk
  · exact p_wp.step hat (by simp only [p_step, p_ld, hl]; rfl) hk
theorem w_aloadw (hat : p_at pc M.2.2.2.2.1 = some (.aload k, l)) (hl : p_lk k ls = some (.ref a)) (hk : p_wp G MT d M (pc + 2) ls (.ref a :: st) h Q) : p_wp G MT d M pc ls st h Q :=
  p_wp.step hat (by simp only [p_step, p_ld, hl]; rfl) hk
theorem w_new {X ci : Nat} {z : Int} {r : List (FieldType × Bool)} (hat : p_at pc M.2.2.2.2.1 = some (.new X, l)) (hp : p_pk X 2 M.2.2.2.2.2.1 = some (ci, z)) (hG : G[ci]? = some r) (hk : p_wp G MT d M (pc + 3) ls (.ref h.length :: st) (h ++ [(0, ci, r.map (fun q => defaultValue q.1))]) Q) : p_wp G MT d M pc ls st h Q :=
  p_wp.step hat (by simp only [p_step, p_new, hp, hG]; rfl) hk
theorem w_putfi {X ci : Nat} {f : Int} {ty : FieldType} {fin : Bool} (hat : p_at pc M.2.2.2.2.1 = some (.putfield X, l)) (hp : p_pk X 0 M.2.2.2.2.2.1 = some (ci, f)) (hc : h[a]? = some (0, ci, vs)) (hG : (G[ci]?).bind (fun r => r[f.toNat]?) = some (ty, fin)) (hfit : p_fit ty v = true) (hi : M.2.2.2.2.2.2.1 = true) (ho : Nat.beq M.2.2.2.2.2.2.2 ci = true) (hl : f.toNat < vs.length) (hk : p_wp G MT d M (pc + 3) ls st (h.set a (0, ci, vs.set f.toNat v)) Q) : p_wp G MT d M pc ls (v :: .ref a :: st) h Q := by
  refine p_wp.step hat ?_ hk
  have hb : Nat.blt f.toNat vs.length = true := Nat.ble_eq_true_of_le hl
  simp only [p_step, p_putf, hp, hc, Nat.beq_refl, if_true, hG, hfit, hb, hi, ho, Bool.and_self, Bool.or_true]
  rfl
theorem g_fit (hv : g_rf v) : p_fit (.array .int) v = true := by
  rcases hv with rfl | ⟨a, rfl⟩ <;> rfl
theorem w_obj {X : Nat} {q : Nat × Int} (hat : p_at pc M.2.2.2.2.1 = some (.invokespecial X, l)) (hp : p_pk X 8 M.2.2.2.2.2.1 = some q) (hs : p_cat st ≤ 8) (hk : p_wp G MT d M (pc + 3) ls st h Q) : p_wp G MT d M pc ls (.ref a :: st) h Q :=
  p_wp.step hat (by simp only [p_step, p_invi, hp, if_pos hs]; rfl) hk
theorem w_special {X m dc : Nat} {as rest : List Value} {M' : p_M} {Q1 : Option Value → p_H → Prop} (hat : p_at pc M.2.2.2.2.1 = some (.invokespecial X, l)) (hs : p_invi M.2.2.2.2.2.1 X (pc + 3) ls st h = some (.inr (.inr (m, as, rest)))) (hM : MT[m]? = some M') (hc : p_cat as ≤ M'.2.2.1) (hd : dc + 1 ≤ d) (h1 : p_wp G MT dc M' 0 (lv_args 0 as) [] h Q1) (hk : ∀ v h', Q1 v h' → p_wp G MT d M (pc + 3) ls (v.toList ++ rest) h' Q) : p_wp G MT d M pc ls st h Q :=
  p_wp.call hat (by simp only [p_step]; exact hs) hM hc hd h1 hk
theorem w_areturno {N : String} (hat : p_at pc M.2.2.2.2.1 = some (.areturn, l)) (hr : M.2.2.2.1 = some (.object N)) (hq : Q (some (.ref a)) h) : p_wp G MT d M pc ls [.ref a] h Q :=
  p_wp.ret hat (by simp only [p_step, p_ret, hr]) hq
theorem g_textInit {v1 v2 v3 : Value} {c : Int32} {f0 f1 f2 f3 f4 : Value} (h1 : g_rf v1) (h2 : g_rf v2) (h3 : g_rf v3) (hc : h[a]? = some (0, 7, [f0, f1, f2, f3, f4])) (hQ : Q none (h.set a (0, 7, [v1, v2, v3, .int c, .ref b]))) : p_wp p_GT p_MT d m_X7_init 0 (lv_args 0 [.ref a, v1, v2, v3, .ref b, .int c]) [] h Q := by
  have e : lv_args 0 [.ref a, v1, v2, v3, .ref b, .int c] = [(0, .ref a), (1, v1), (2, v2), (3, v3), (4, .ref b), (5, .int c)] := by
    rcases h1 with rfl | ⟨a1, rfl⟩ <;> rcases h2 with rfl | ⟨a2, rfl⟩ <;> rcases h3 with rfl | ⟨a3, rfl⟩ <;> rfl
  rw [e]
  have hal : a < h.length := (List.getElem?_eq_some_iff.mp hc).1
  refine w_aload_n rfl rfl (w_obj rfl rfl (by decide) (w_aload_n rfl rfl (w_aloadr rfl h1 rfl (w_putfi rfl rfl hc rfl (g_fit h1) rfl rfl (Nat.le_of_ble_eq_true rfl) ?_))))
  refine w_aload_n rfl rfl (w_aloadr rfl h2 rfl (w_putfi rfl rfl (List.getElem?_set_self hal) rfl (g_fit h2) rfl rfl (Nat.le_of_ble_eq_true rfl) ?_))
  refine w_aload_n rfl rfl (w_aloadr rfl h3 rfl (w_putfi rfl rfl (List.getElem?_set_self (by rw [List.length_set]; exact hal)) rfl (g_fit h3) rfl rfl (Nat.le_of_ble_eq_true rfl) ?_))
  refine w_aload_n rfl rfl (w_aloadw rfl rfl (w_putfi rfl rfl (List.getElem?_set_self (by rw [List.length_set, List.length_set]; exact hal)) rfl rfl rfl rfl (Nat.le_of_ble_eq_true rfl) ?_))
  refine w_aload_n rfl rfl (w_iload rfl rfl (w_putfi rfl rfl (List.getElem?_set_self (by rw [List.length_set, List.length_set, List.length_set]; exact hal)) rfl rfl rfl rfl (Nat.le_of_ble_eq_true rfl) ?_))
  refine w_return rfl rfl ?_
  rw [List.set_set, List.set_set, List.set_set, List.set_set]
  exact hQ
end GTL
/-- two new cells -/
theorem g_new2 {τ : Nat → Option Nat} {h : p_H} {f : x_F} (hH : x_H x_EE τ h) (h80 : 80 ≤ h.length) {k1 k2 : Nat} {K1 K2 : x_K} {vs ws : List Value} (hK1 : x_KL[k1]? = some K1) (hK2 : x_KL[k2]? = some K2) (hk1 : 80 ≤ k1) (hk2 : 80 ≤ k2) (l1 : K1.2.2.2.2.2.2.1 ≤ vs.length) (l2 : vs.length ≤ K1.2.2.2.2.2.2.2) (m1 : K2.2.2.2.2.2.2.1 ≤ ws.length) (m2 : ws.length ≤ K2.2.2.2.2.2.2.2) (hf : ∀ j v, vs[j]? = some v → x_fo (g_up (g_up τ h.length k1) (h.length + 1) k2) (x_pt K1 j) v) (hg : ∀ j v, ws[j]? = some v → x_fo (g_up (g_up τ h.length k1) (h.length + 1) k2) (x_pt K2 j) v) : x_J x_EE f τ h (g_up (g_up τ h.length k1) (h.length + 1) k2) (h ++ [(K1.1, K1.2.1, vs), (K2.1, K2.2.1, ws)]) := by
  have hlt : ∀ i k, τ i = some k → i < h.length := by
    intro i k hi
    obtain ⟨c, hc, -⟩ := hH i k hi
    exact (List.getElem?_eq_some_iff.mp hc).1
  have hm : ∀ i q, τ i = some q → g_up (g_up τ h.length k1) (h.length + 1) k2 i = some q := by
    intro i q hi
    have := hlt i q hi
    simp only [g_up]; rw [if_neg (by omega), if_neg (by omega)]; exact hi
  refine ⟨hm, fun i q hi => ?_, fun i q hi => ?_, ⟨fun i q c hi hc => ⟨c, ?_, rfl, fun _ _ => rfl⟩, fun i hi hl => ?_⟩⟩
  · simp only [g_up] at hi
    split at hi
    · right; omega
    · split at hi
      · right; omega
      · exact Or.inl hi
  · simp only [g_up] at hi
    split at hi
    · next e =>
      cases hi
      subst e
      exact ⟨(K2.1, K2.2.1, ws), by rw [List.getElem?_append_right (by omega)]; simp, K2, hK2, rfl, rfl, m1, m2, hg, ⟨fun q => (by omega), fun q => (by omega), fun q => (by omega)⟩⟩
    · split at hi
      · next e =>
        cases hi
        subst e
        exact ⟨(K1.1, K1.2.1, vs), by rw [List.getElem?_append_right (by omega)]; simp, K1, hK1, rfl, rfl, l1, l2, hf, ⟨fun q => (by omega), fun q => (by omega), fun q => (by omega)⟩⟩
      · obtain ⟨c, hc, K', hK', g1, g2, g3, g4, g5, g6⟩ := hH i q hi
        exact ⟨c, by rw [List.getElem?_append_left (hlt i q hi)]; exact hc, K', hK', g1, g2, g3, g4, fun j v hv => (g5 j v hv).mono hm, g6⟩
  · rw [List.getElem?_append_left (List.getElem?_eq_some_iff.mp hc).1]; exact hc
  · rw [List.getElem?_append_left hl]
theorem g_tail {f : x_F} {τ0 τ : Nat → Option Nat} {h0 h : p_H} {ls : p_Ls} {Q : Option Value → p_H → Prop} (hJ : x_J x_EE f τ0 h0 τ h) (l0 : p_lk 0 ls = some (.ref 43)) (ht : τ 43 = some 43) (h80 : 80 ≤ h.length) (hQ : ∀ τ' h', x_J x_EE f τ0 h0 τ' h' → h'.length = h.length + 2 → p_sl h' ≤ p_sl h + 173 → τ' h.length = some 80 → Q (some (.ref h.length)) h') : p_wp p_GT p_MT 39 m_X3_read 85 ls [] h Q := by
  have hH := hJ.2.2.1
  obtain ⟨vs, hc, l1, l2, hf, -⟩ := g_cell hH ht (show x_KL[43]? = some _ from rfl)
  have l1 : 18 ≤ vs.length := l1
  have l2 : vs.length ≤ 18 := l2
  have g11 := hf 11 _ (List.getElem?_eq_getElem (show 11 < vs.length by omega))
  have g12 := hf 12 _ (List.getElem?_eq_getElem (show 12 < vs.length by omega))
  have g13 := hf 13 _ (List.getElem?_eq_getElem (show 13 < vs.length by omega))
  obtain ⟨b8, e1, e2, e3⟩ := hf 8 _ (List.getElem?_eq_getElem (show 8 < vs.length by omega))
  have eb : b8 = 45 := Int.ofNat_inj.mp (show ((b8 : Nat) : Int) = ((45 : Nat) : Int) from e3 (by decide))
  subst eb
  obtain ⟨c, f1, f2, f3⟩ := hf 9 _ (List.getElem?_eq_getElem (show 9 < vs.length by omega))
  have f2 : 0 ≤ c.toInt := f2
  have f3 : c.toInt ≤ 24 := f3
  obtain ⟨m, hm⟩ : ∃ m : Nat, c.toInt = m := ⟨c.toInt.toNat, by omega⟩
  have ec : c = Int32.ofNat m := g_i32 hm (by omega)
  subst ec
  have v8 : vs[8]? = some (.ref 45) := by rw [List.getElem?_eq_getElem (show 8 < vs.length by omega), e1]
  have v9 : vs[9]? = some (.int (Int32.ofNat m)) := by rw [List.getElem?_eq_getElem (show 9 < vs.length by omega), f1]
  have v11 : vs[11]? = some vs[11] := List.getElem?_eq_getElem (show 11 < vs.length by omega)
  have v12 : vs[12]? = some vs[12] := List.getElem?_eq_getElem (show 12 < vs.length by omega)
  have v13 : vs[13]? = some vs[13] := List.getElem?_eq_getElem (show 13 < vs.length by omega)
  obtain ⟨w1, hw1⟩ : ∃ w, w = vs[11] := ⟨_, rfl⟩
  obtain ⟨w2, hw2⟩ : ∃ w, w = vs[12] := ⟨_, rfl⟩
  obtain ⟨w3, hw3⟩ : ∃ w, w = vs[13] := ⟨_, rfl⟩
  rw [← hw1] at v11 g11
  rw [← hw2] at v12 g12
  rw [← hw3] at v13 g13
  have g11 : w1 = .null ∨ ∃ a, w1 = .ref a ∧ τ a = some 81 := g11
  have g12 : w2 = .null ∨ ∃ a, w2 = .ref a ∧ τ a = some 81 := g12
  have g13 : w3 = .null ∨ ∃ a, w3 = .ref a ∧ τ a = some 81 := g13
  have rf : ∀ w : Value, (w = .null ∨ ∃ a, w = .ref a ∧ τ a = some 81) → g_rf w := by
    rintro w (q | ⟨a, q, -⟩)
    · exact Or.inl q
    · exact Or.inr ⟨a, q⟩
  obtain ⟨ws, hw, k1, k2, hg, -⟩ := g_cell hH e2 (show x_KL[45]? = some _ from rfl)
  have k1 : 168 ≤ ws.length := k1
  have k2 : ws.length ≤ 168 := k2
  have hlt : 43 < h.length := by omega
  obtain ⟨ha, hha⟩ : ∃ ha, ha = h ++ [((0, 7, [.null, .null, .null, .int 0, .null]) : p_C)] := ⟨_, rfl⟩
  have c43 : ha[43]? = some (0, 3, vs) := by rw [hha, List.getElem?_append_left hlt]; exact hc
  have c45 : ha[45]? = some (1, 0, ws) := by rw [hha, List.getElem?_append_left (by omega)]; exact hw
  have hal : ha.length = h.length + 1 := by rw [hha]; simp
  refine w_new rfl rfl (show p_GT[7]? = some _ from rfl) ?_
  show p_wp p_GT p_MT 39 m_X3_read 88 ls [.ref h.length] (h ++ [((0, 7, [.null, .null, .null, .int 0, .null]) : p_C)]) Q
  rw [← hha]
  refine w_dup rfl rfl (w_aload_n rfl l0 (w_getf rfl rfl c43 v11 (w_aload_n rfl l0 (w_getf rfl rfl c43 v12 (w_aload_n rfl l0 (w_getf rfl rfl c43 v13 (w_aload_n rfl l0 (w_getf rfl rfl c43 v8 (w_aload_n rfl l0 (w_getf rfl rfl c43 v9 (w_bp 7 rfl rfl (w_mulN rfl ?_))))))))))))
  have hcat : p_cat [w3, w2, w1, .ref h.length, .ref h.length] ≤ 8 := by
    have hr : ∀ a, (Value.ref a).category = 1 := fun _ => rfl
    have hi : ∀ a, (Value.int a).category = 1 := fun _ => rfl
    simp only [p_cat, List.map_cons, List.map_nil, (rf _ g11).cat, (rf _ g12).cat, (rf _ g13).cat, hr, hi]
    decide
  refine w_static (nn := 0) (dc := 38) (M' := m_J7_copyOf_59c91) (m := 342) (as := [.ref 45, .int (Int32.ofNat (m * 7))]) (rest := [w3, w2, w1, .ref h.length, .ref h.length]) (Q1 := fun v h' => ∃ us, v = some (.ref ha.length) ∧ h' = ha ++ [(1, 0, us)] ∧ us.length = m * 7 ∧ ∀ j, j < m * 7 → ∃ y : Int32, us[j]? = some (.int y)) rfl ?_ rfl rfl (by omega) (g_copyOf (d := 37) c45 (by omega) (by omega) (fun j hj => g_int rfl rfl hg hj) (fun us q1 q2 => ⟨us, rfl, rfl, q1, q2⟩)) ?_
  · show (match p_inv 1 P_k4 63 [.int (Int32.ofNat (m * 7)), .ref 45, w3, w2, w1, .ref h.length, .ref h.length] with
      | some o => some o
      | none => p_inv 11 P_k4 63 [.int (Int32.ofNat (m * 7)), .ref 45, w3, w2, w1, .ref h.length, .ref h.length]) = _
    have : p_inv 1 P_k4 63 [.int (Int32.ofNat (m * 7)), .ref 45, w3, w2, w1, .ref h.length, .ref h.length] = some (.inr (.inr (342, [.ref 45, .int (Int32.ofNat (m * 7))], [w3, w2, w1, .ref h.length, .ref h.length]))) := by
      simp only [p_inv, show p_pk 63 1 P_k4 = some (342, 2) from rfl]
      rw [if_pos ⟨Nat.le_of_ble_eq_true rfl, hcat⟩]
      rfl
    rw [this]
  rintro v h' ⟨us, rfl, rfl, q1, q2⟩
  have d43 : (ha ++ [((1, 0, us) : p_C)])[43]? = some (0, 3, vs) := by rw [List.getElem?_append_left (by omega)]; exact c43
  refine w_aload_n rfl l0 (w_getf rfl rfl d43 v9 ?_)
  have hcat2 : p_cat [.ref h.length, w1, w2, w3, .ref ha.length, .int (Int32.ofNat m)] ≤ 6 := by
    have hr : ∀ a, (Value.ref a).category = 1 := fun _ => rfl
    have hi : ∀ a, (Value.int a).category = 1 := fun _ => rfl
    simp only [p_cat, List.map_cons, List.map_nil, (rf _ g11).cat, (rf _ g12).cat, (rf _ g13).cat, hr, hi]
    decide
  refine w_special (dc := 38) (M' := m_X7_init) (m := 77) (as := [.ref h.length, w1, w2, w3, .ref ha.length, .int (Int32.ofNat m)]) (rest := [.ref h.length]) (Q1 := fun v h' => v = none ∧ h' = (ha ++ [((1, 0, us) : p_C)]).set h.length (0, 7, [w1, w2, w3, .int (Int32.ofNat m), .ref ha.length])) rfl ?_ rfl hcat2 (by omega) (g_textInit (rf _ g11) (rf _ g12) (rf _ g13) (f0 := .null) (f1 := .null) (f2 := .null) (f3 := .int 0) (f4 := .null) (by rw [List.getElem?_append_left (by omega), hha]; simp) ⟨rfl, rfl⟩) ?_
  · rfl
  rintro v h' ⟨rfl, rfl⟩
  refine w_goto rfl (t := 126) rfl (w_areturno rfl rfl ?_)
  have eh : (ha ++ [((1, 0, us) : p_C)]).set h.length (0, 7, [w1, w2, w3, .int (Int32.ofNat m), .ref ha.length]) = h ++ [(0, 7, [w1, w2, w3, .int (Int32.ofNat m), .ref (h.length + 1)]), (1, 0, us)] := by
    rw [hal, hha, List.append_assoc, List.set_append_right _ _ (Nat.le_refl _), Nat.sub_self]
    rfl
  rw [eh]
  have hlt' : ∀ i k, τ i = some k → i < h.length := by
    intro i k hi
    obtain ⟨c, hc, -⟩ := hH i k hi
    exact (List.getElem?_eq_some_iff.mp hc).1
  have hup : ∀ i q, τ i = some q → g_up (g_up τ h.length 80) (h.length + 1) 82 i = some q := by
    intro i q hi
    have := hlt' i q hi
    simp only [g_up]; rw [if_neg (by omega), if_neg (by omega)]; exact hi
  have rf2 : ∀ w : Value, (w = .null ∨ ∃ a, w = .ref a ∧ τ a = some 81) → x_fo (g_up (g_up τ h.length 80) (h.length + 1) 82) (4, 81, 0, 0) w := by
    rintro w (q | ⟨a, q, q'⟩)
    · exact Or.inl q
    · exact Or.inr ⟨a, q, hup _ _ q'⟩
  have hJ2 := g_new2 (f := []) (vs := [w1, w2, w3, .int (Int32.ofNat m), .ref (h.length + 1)]) (ws := us) hH h80 (k1 := 80) (k2 := 82) (show x_KL[80]? = some _ from rfl) (show x_KL[82]? = some _ from rfl) (by decide) (by decide) (Nat.le_refl 5) (Nat.le_refl 5) (Nat.zero_le _) (by show us.length ≤ 168; omega) (fun j v hv => by
    match j, hv with
    | 0, hv => cases hv; exact rf2 _ g11
    | 1, hv => cases hv; exact rf2 _ g12
    | 2, hv => cases hv; exact rf2 _ g13
    | 3, hv => cases hv; exact ⟨_, rfl, x_I32 _⟩
    | 4, hv => cases hv; exact ⟨h.length + 1, rfl, by simp only [g_up]; rw [if_pos trivial]; rfl, fun q => absurd q (by decide)⟩
    | j + 5, hv => cases hv) (fun j v hv => by
    obtain ⟨y, hy⟩ := q2 j (by have := (List.getElem?_eq_some_iff.mp hv).1; omega)
    rw [hy] at hv
    cases hv
    rw [x_pt0 (t := x_any) rfl rfl rfl]
    exact ⟨y, rfl, x_I32 y⟩)
  refine hQ _ _ (x_J_trans hJ hJ2 (fun t ht => by cases ht)) (by simp) ?_ (by simp only [g_up]; rw [if_neg (by omega), if_pos trivial])
  have : p_sl (h ++ [((0, 7, [w1, w2, w3, .int (Int32.ofNat m), .ref (h.length + 1)]) : p_C), (1, 0, us)]) = p_sl h + (5 + us.length) := by
    simp [p_sl]
  rw [this]; omega
/-- the tails of read -/
noncomputable def g_tl (T : x_U) : Bool := Nat.beq T.1 85 && (match T.2.2.2.1 with
  | a :: _ => Nat.beq a.1 3 && (Nat.beq a.2.1 43 && q_eqE a.2.2 ([], 43))
  | [] => false) && (T.2.2.2.2.1.any (fun m => q_eqE m.1 ([], 79) && (Nat.beq m.2.1 79 && Nat.beq m.2.2.1 1000000)) && ((T.2.2.2.2.2.1.1.isEmpty && decide (T.2.2.2.2.2.1.2 ≤ 3)) && (T.2.2.2.2.2.2.1.1.isEmpty && decide (T.2.2.2.2.2.2.1.2 ≤ 1800))))
theorem g_tail_of (T : x_U) (hT : g_tl T = true) {τ0 τ1 : Nat → Option Nat} {r0 r1 : Nat → Int} {h0 h1 : p_H} {ls : p_Ls} {st : List Value} (hJ : x_J x_EE cc533.2.2.2.2.2.1 τ0 h0 τ1 h1) (hO : x_O x_EE τ1 r1 h0 h1 ls st (x_hd T)) : p_wp p_GT p_MT 39 m_X3_read T.1 ls st h1 (x_Post x_EE cc533 τ0 r0 h0) := by
  obtain ⟨t1, t2, t3, L, Me, u, w, mu⟩ := T
  simp only [g_tl, Bool.and_eq_true] at hT
  obtain ⟨⟨a1, a2⟩, a3, ⟨a4, a5⟩, a6, a7⟩ := hT
  have e85 : t1 = 85 := Nat.eq_of_beq_eq_true a1
  subst e85
  obtain ⟨-, -, oL, oS, oM, -, oU, -, oW⟩ := hO
  simp only [x_hd] at oL oS oM oU oW
  have est : st = [] := g_nil oS
  subst est
  cases L with
  | nil => cases a2
  | cons a L =>
    obtain ⟨q1, q2, q3⟩ := a
    simp only [Bool.and_eq_true] at a2
    obtain ⟨b1, b2, b3⟩ := a2
    have c1 : q1 = 3 := Nat.eq_of_beq_eq_true b1
    have c2 : q2 = 43 := Nat.eq_of_beq_eq_true b2
    have c3 : q3 = ([], 43) := q_eqE_ok b3
    subst c1; subst c2; subst c3
    obtain ⟨v, hv, hx⟩ := oL 0 _ rfl (by decide)
    obtain ⟨-, i, ev, hi, hti⟩ := hx
    have hi : (i : Int) = q_e r1 ([], 43) := hi
    simp only [q_e, q_ev] at hi
    have ei : i = 43 := by omega
    subst ei
    rw [ev] at hv
    obtain ⟨m, hm, hmm⟩ := List.any_eq_true.mp a3
    obtain ⟨m1, m2, m3, m4⟩ := m
    simp only [Bool.and_eq_true] at hmm
    obtain ⟨d1, d2, d3⟩ := hmm
    have f1 : m1 = ([], 79) := q_eqE_ok d1
    have f2 : m2 = 79 := Nat.eq_of_beq_eq_true d2
    have f3 : m3 = 1000000 := Nat.eq_of_beq_eq_true d3
    subst f1; subst f2; subst f3
    have h80 := g_80 (oM _ hm)
    obtain ⟨uL, uc⟩ := u
    obtain ⟨wL, wc⟩ := w
    have eu : uL = [] := List.isEmpty_iff.mp a4
    have ew : wL = [] := List.isEmpty_iff.mp a6
    subst eu; subst ew
    have a5 : uc ≤ 3 := of_decide_eq_true a5
    have a7 : wc ≤ 1800 := of_decide_eq_true a7
    simp only [q_e, q_ev] at oU oW
    refine g_tail hJ hv hti h80 ?_
    intro τ' h' hJ' l1 l2 ht'
    exact ⟨τ', x_up r0 0 h1.length, hJ', _, List.mem_cons_self, by show h'.length ≤ h0.length + 5; omega, by show p_sl h' ≤ p_sl h0 + 1973; omega, fun i hi => absurd hi (Nat.not_lt_zero i), g_F0, ⟨g_wl rfl, h1.length, rfl, by rw [g_v, x_up_at], ht'⟩, g_n⟩

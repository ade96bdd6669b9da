section X24
variable {s s1 s' : d_S} {t : Nat → Option p_C} {h : p_H} {d : Nat} {M : p_M} {pc l : Nat} {ls : p_Ls} {st : List Value} {Q : Option Value → p_H → Prop} {x : Int} {a b : Nat} {v : Value} {vs : List Value}
theorem y_pi {X a ci k : Nat} {f : Int} (hat : p_at pc M.2.2.2.2.1 = some (.putfield X, l)) (hp : p_pk X 0 M.2.2.2.2.2.1 = some (ci, f)) (hf : f.toNat = k) (hG : (p_GT[ci]?).bind (fun r => r[f.toNat]?) = some (.int, false)) (hH : d_V t h s) (hc : d_ck a ci k 1 = true) (hx : d_R x) (h47 : ¬ (a = 5 ∨ a = 22)) (hk : ∀ h', d_V t h' (d_si s a k x) → p_wp p_GT p_MT d M (pc + 3) ls st h' Q) : p_wp p_GT p_MT d M pc ls (.int (Int32.ofInt x) :: .ref a :: st) h Q :=
  dw_pi (F := fun z => z) (r := d_si s a k x) hat hp hf hG hH hc hx h47 rfl (fun z h' hV e => hk h' (e ▸ hV))
theorem y_pb {X a ci k : Nat} {f : Int} (hat : p_at pc M.2.2.2.2.1 = some (.putfield X, l)) (hp : p_pk X 0 M.2.2.2.2.2.1 = some (ci, f)) (hf : f.toNat = k) (hG : (p_GT[ci]?).bind (fun r => r[f.toNat]?) = some (.boolean, false)) (hH : d_V t h s) (hc : d_ck a ci k 1 = true) (hb : x = 0 ∨ x = 1) (h47 : ¬ (a = 5 ∨ a = 22)) (hk : ∀ h', d_V t h' (d_si s a k x) → p_wp p_GT p_MT d M (pc + 3) ls st h' Q) : p_wp p_GT p_MT d M pc ls (.int (Int32.ofInt x) :: .ref a :: st) h Q :=
  dw_pb (F := fun z => z) (r := d_si s a k x) hat hp hf hG hH hc hb h47 rfl (fun z h' hV e => hk h' (e ▸ hV))
theorem y_newobj {X ci : Nat} {z : Int} {r : List (FieldType × Bool)} (hat : p_at pc M.2.2.2.2.1 = some (.new X, l)) (hp : p_pk X 2 M.2.2.2.2.2.1 = some (ci, z)) (hG : p_GT[ci]? = some r) (hk : p_wp p_GT p_MT d M (pc + 3) ls (.ref h.length :: st) (h ++ [(0, ci, r.map (fun q => defaultValue q.1))]) Q) : p_wp p_GT p_MT d M pc ls st h Q :=
  p_wp.step hat (by simp only [p_step, p_new, hp, hG]; rfl) hk
theorem y_putfi {X ci : Nat} {f : Int} {ty : FieldType} {fin : Bool} (hat : p_at pc M.2.2.2.2.1 = some (.putfield X, l)) (hp : p_pk X 0 M.2.2.2.2.2.1 = some (ci, f)) (hc : h[a]? = some (0, ci, vs)) (hG : (p_GT[ci]?).bind (fun r => r[f.toNat]?) = some (ty, fin)) (hfit : p_fit ty v = true) (hi : M.2.2.2.2.2.2.1 = true) (ho : Nat.beq M.2.2.2.2.2.2.2 ci = true) (hl : f.toNat < vs.length) (hk : p_wp p_GT p_MT d M (pc + 3) ls st (h.set a (0, ci, vs.set f.toNat v)) Q) : p_wp p_GT p_MT d M pc ls (v :: .ref a :: st) h Q := by
  refine p_wp.step hat ?_ hk
  have hb : Nat.blt f.toNat vs.length = true := Nat.ble_eq_true_of_le hl
  simp only [p_step, p_putf, hp, hc, Nat.beq_refl, if_true, hG, hfit, hb, hi, ho, Bool.and_self, Bool.or_true]
  rfl
theorem y_obj {X : Nat} {q : Nat × Int} (hat : p_at pc M.2.2.2.2.1 = some (.invokespecial X, l)) (hp : p_pk X 8 M.2.2.2.2.2.1 = some q) (hs : p_cat st ≤ 8) (hk : p_wp p_GT p_MT d M (pc + 3) ls st h Q) : p_wp p_GT p_MT d M pc ls (.ref a :: st) h Q :=
  p_wp.step hat (by simp only [p_step, p_invi, hp, if_pos hs]; rfl) hk
theorem y_special {X m dc : Nat} {as rest : List Value} {M' : p_M} {Q1 : Option Value → p_H → Prop} (hat : p_at pc M.2.2.2.2.1 = some (.invokespecial X, l)) (hs : p_invi M.2.2.2.2.2.1 X (pc + 3) ls st h = some (.inr (.inr (m, as, rest)))) (hM : p_MT[m]? = some M') (hc : Nat.ble (p_cat as) M'.2.2.1 = true) (hd : dc + 1 ≤ d) (h1 : p_wp p_GT p_MT dc M' 0 (lv_args 0 as) [] h Q1) (hk : ∀ v h', Q1 v h' → p_wp p_GT p_MT d M (pc + 3) ls (v.toList ++ rest) h' Q) : p_wp p_GT p_MT d M pc ls st h Q :=
  p_wp.call hat (by simp only [p_step]; exact hs) hM (Nat.le_of_ble_eq_true hc) hd h1 hk
theorem y_areturno {N : String} (hat : p_at pc M.2.2.2.2.1 = some (.areturn, l)) (hr : M.2.2.2.1 = some (.object N)) (hq : Q (some (.ref a)) h) : p_wp p_GT p_MT d M pc ls [.ref a] h Q :=
  p_wp.ret hat (by simp only [p_step, p_ret, hr]) hq
theorem y_areturnn {N : String} (hat : p_at pc M.2.2.2.2.1 = some (.areturn, l)) (hr : M.2.2.2.1 = some (.object N)) (hq : Q (some .null) h) : p_wp p_GT p_MT d M pc ls [.null] h Q :=
  p_wp.ret hat (by simp only [p_step, p_ret, hr]) hq
theorem y_textInit {e1 e2 e3 : Option Nat} {c : Int32} {f0 f1 f2 f3 f4 : Value} (hc : h[a]? = some (0, 7, [f0, f1, f2, f3, f4])) (hQ : Q none (h.set a (0, 7, [d_pv e1, d_pv e2, d_pv e3, .int c, .ref b]))) : p_wp p_GT p_MT d m_X7_init 0 (lv_args 0 [.ref a, d_pv e1, d_pv e2, d_pv e3, .ref b, .int c]) [] h Q := by
  have hal : a < h.length := (List.getElem?_eq_some_iff.mp hc).1
  have e : lv_args 0 [.ref a, d_pv e1, d_pv e2, d_pv e3, .ref b, .int c] = [(0, .ref a), (1, d_pv e1), (2, d_pv e2), (3, d_pv e3), (4, .ref b), (5, .int c)] := by
    cases e1 <;> cases e2 <;> cases e3 <;> rfl
  have ft : ∀ e : Option Nat, p_fit (.array .int) (d_pv e) = true := fun e => by cases e <;> rfl
  rw [e]
  refine dw_aln (a := a) rfl rfl (y_obj rfl rfl (by decide) (dw_aln (a := a) rfl rfl (dw_alno (e := e1) rfl rfl (y_putfi rfl rfl hc rfl (ft e1) rfl rfl (Nat.le_of_ble_eq_true rfl) ?_))))
  refine dw_aln (a := a) rfl rfl (dw_alno (e := e2) rfl rfl (y_putfi rfl rfl (List.getElem?_set_self hal) rfl (ft e2) rfl rfl (Nat.le_of_ble_eq_true rfl) ?_))
  refine dw_aln (a := a) rfl rfl (dw_alno (e := e3) rfl rfl (y_putfi rfl rfl (List.getElem?_set_self (by rw [List.length_set]; exact hal)) rfl (ft e3) rfl rfl (Nat.le_of_ble_eq_true rfl) ?_))
  refine dw_aln (a := a) rfl rfl (dw_al (a := b) rfl rfl (y_putfi rfl rfl (List.getElem?_set_self (by rw [List.length_set, List.length_set]; exact hal)) rfl rfl rfl rfl (Nat.le_of_ble_eq_true rfl) ?_))
  refine dw_aln (a := a) rfl rfl (p_wp.step (show p_at 26 m_X7_init.2.2.2.2.1 = some (.iload 5, 2) from rfl) (pc' := 28) (ls' := _) (st' := [.int c, .ref a]) (h' := _) rfl (y_putfi rfl rfl (List.getElem?_set_self (by rw [List.length_set, List.length_set, List.length_set]; exact hal)) rfl rfl rfl rfl (Nat.le_of_ble_eq_true rfl) ?_))
  refine p_wp.ret (show p_at 31 m_X7_init.2.2.2.2.1 = some (.return_, 1) from rfl) (v := none) rfl ?_
  rw [List.set_set, List.set_set, List.set_set, List.set_set]
  exact hQ
theorem H_mk {h1 : p_H} {t1 : Nat → Option p_C} {e1 e2 e3 : Option Nat} {m : Nat} (hh1 : h1 = h ++ [((0, 7, [.null, .null, .null, .int 0, .null]) : p_C)]) (hH : d_V t1 h1 s) (hm : m ≤ 24) (h9 : s.1 43 9 = (m : Int)) (l0 : p_lk 0 ls = some (.ref 43)) (hQ : ∀ rows : List Value, rows.length = 7 * m → (∀ j, j < 7 * m → rows[j]? = some (.int (Int32.ofInt (s.1 45 j)))) → Q (some (.ref h.length)) (h ++ [((0, 7, [d_pv e1, d_pv e2, d_pv e3, .int (Int32.ofInt (m : Int)), .ref (h.length + 1)]) : p_C), (1, 0, rows)])) : p_wp p_GT p_MT 40 m_X3_read 101 ls [d_pv e3, d_pv e2, d_pv e1, .ref h.length, .ref h.length] h1 Q := by
  have hal : h1.length = h.length + 1 := by rw [hh1, List.length_append]; rfl
  obtain ⟨vs, a1, a2, a3⟩ := hH.arr d_a45
  have a3' : ∀ k, k < 168 → vs[k]? = some (.int (Int32.ofInt (s.1 45 k))) := fun k hk => by
    obtain ⟨v, b1, b2⟩ := a3 k hk
    have b2 : v = .int (Int32.ofInt (s.1 45 k)) := b2
    rw [b1, b2]
  have h45 : 45 < h1.length := (List.getElem?_eq_some_iff.mp a1).1
  refine dw_aln rfl l0 (dw_gr (k := 8) rfl rfl rfl hH d_c43_8 (dw_aln rfl l0 (dw_gi (k := 9) rfl rfl rfl hH d_c43_9 (dw_bp (c := 7) rfl rfl (dw_mul rfl ?_)))))
  have e7 : s.1 43 9 * 7 = ((7 * m : Nat) : Int) := by rw [h9]; omega
  rw [e7]
  have key : ∀ (w1 w2 w3 : Option Nat), w1 = e1 → w2 = e2 → w3 = e3 → p_wp p_GT p_MT 40 m_X3_read 112 ls [.int (Int32.ofInt ((7 * m : Nat) : Int)), .ref 45, d_pv w3, d_pv w2, d_pv w1, .ref h.length, .ref h.length] h1 Q := by
    intro w1 w2 w3 i1 i2 i3
    have cpy := y_copyOf (d := 0) (n := 7 * m) (h := h1) (Q := fun v h' => v = some (.ref h1.length) ∧ h' = h1 ++ [(1, 0, vs.take (7 * m))]) a1 (by omega) (by omega) (fun j hj => ⟨_, a3' j (by omega)⟩) ⟨rfl, rfl⟩
    have hHn := y_new hH (1, 0, vs.take (7 * m))
    have hc : (h1 ++ [((1, 0, vs.take (7 * m)) : p_C)])[h.length]? = some (0, 7, [.null, .null, .null, .int 0, .null]) := by rw [List.getElem?_append_left (by omega), hh1]; simp
    have eh : (h1 ++ [((1, 0, vs.take (7 * m)) : p_C)]).set h.length (0, 7, [d_pv e1, d_pv e2, d_pv e3, .int (Int32.ofInt (m : Int)), .ref h1.length]) = h ++ [(0, 7, [d_pv e1, d_pv e2, d_pv e3, .int (Int32.ofInt (m : Int)), .ref (h.length + 1)]), (1, 0, vs.take (7 * m))] := by
      rw [hal, hh1, List.append_assoc, List.set_append_right _ _ (Nat.le_refl _), Nat.sub_self]
      rfl
    have fin := hQ (vs.take (7 * m)) (by rw [List.length_take]; omega) (fun j hj => by rw [List.getElem?_take, if_pos hj]; exact a3' j (by omega))
    rw [← eh] at fin
    have ti := y_textInit (d := 0) (a := h.length) (b := h1.length) (e1 := e1) (e2 := e2) (e3 := e3) (c := Int32.ofInt (m : Int)) (Q := fun v h' => v = none ∧ h' = (h1 ++ [((1, 0, vs.take (7 * m)) : p_C)]).set h.length (0, 7, [d_pv e1, d_pv e2, d_pv e3, .int (Int32.ofInt (m : Int)), .ref h1.length])) hc ⟨rfl, rfl⟩
    subst i1
    subst i2
    subst i3
    have step2 : p_wp p_GT p_MT 40 m_X3_read 115 ls [.ref h1.length, d_pv w3, d_pv w2, d_pv w1, .ref h.length, .ref h.length] (h1 ++ [((1, 0, vs.take (7 * m)) : p_C)]) Q := by
      refine dw_aln rfl l0 (dw_gi (k := 9) rfl rfl rfl hHn d_c43_9 ?_)
      rw [h9]
      clear hQ eh cpy
      cases w1 <;> cases w2 <;> cases w3 <;> (
        refine y_special (dc := 0) rfl rfl rfl rfl (by decide) ti ?_
        rintro v h' ⟨rfl, rfl⟩
        exact dw_go rfl (u := 126) rfl (y_areturno rfl rfl fin))
    clear hQ eh ti fin
    cases w1 <;> cases w2 <;> cases w3 <;> (
      refine y_static (dc := 1) rfl rfl rfl rfl (by decide) cpy ?_
      rintro v h' ⟨rfl, rfl⟩
      exact step2)
  exact key e1 e2 e3 rfl rfl rfl
end X24

section X19
variable {s s1 s' : d_S} {t : Nat → Option p_C} {h h2 : p_H} {c : p_C}
theorem y_80 (hH : d_V t h s) : 80 ≤ h.length := by
  obtain ⟨vs, hc, -⟩ := hH.2.2.1 79 (by decide) (by decide)
  have := (List.getElem?_eq_some_iff.mp hc).1
  omega
theorem y_len (hH : d_V t h s) (hH2 : d_V t h2 s1) : h2.length = h.length := by
  have a1 := y_80 hH
  have a2 := y_80 hH2
  have e1 : t h.length = none := by rw [← hH.2.1 h.length (Or.inr a1)]; exact List.getElem?_eq_none (Nat.le_refl _)
  have e2 : t h2.length = none := by rw [← hH2.2.1 h2.length (Or.inr a2)]; exact List.getElem?_eq_none (Nat.le_refl _)
  have b1 : ¬ h.length < h2.length := fun q => by
    have := hH2.2.1 h.length (Or.inr a1)
    rw [e1, List.getElem?_eq_getElem q] at this
    cases this
  have b2 : ¬ h2.length < h.length := fun q => by
    have := hH.2.1 h2.length (Or.inr a2)
    rw [e2, List.getElem?_eq_getElem q] at this
    cases this
  omega
theorem y_sl (hH : d_V t h s) (hH2 : d_V t h2 s1) : p_sl h2 = p_sl h := by
  have hl := y_len hH hH2
  unfold p_sl
  congr 1
  refine List.ext_getElem? (fun i => ?_)
  rw [List.getElem?_map, List.getElem?_map]
  by_cases q : i ≤ 1 ∨ 80 ≤ i
  · rw [hH.2.1 i q, hH2.2.1 i q]
  · obtain ⟨vs, g1, g2, -⟩ := hH.2.2.1 i (by omega) (by omega)
    obtain ⟨ws, k1, k2, -⟩ := hH2.2.2.1 i (by omega) (by omega)
    rw [g1, k1]
    show some ws.length = some vs.length
    rw [g2, k2]
theorem y_none (hH : d_V t h s) : t h.length = none := by
  rw [← hH.2.1 h.length (Or.inr (y_80 hH))]
  exact List.getElem?_eq_none (Nat.le_refl _)
theorem y_new (hH : d_V t h s) (c : p_C) : d_V (d_u t h.length (some c)) (h ++ [c]) s := by
  have h80 := y_80 hH
  have hn := y_none hH
  obtain ⟨a1, a2, a3, a4⟩ := hH
  refine ⟨a1, fun a ha => ?_, fun a g1 g2 => ?_, fun a k x hx hs => ?_⟩
  · by_cases q : a = h.length
    · subst q
      rw [d_u_t, List.getElem?_append_right (Nat.le_refl _), Nat.sub_self]; rfl
    · rw [d_u_n q, ← a2 a ha]
      by_cases z : a < h.length
      · rw [List.getElem?_append_left z]
      · have hl : (h ++ [c]).length = h.length + 1 := by rw [List.length_append]; rfl
        exact (List.getElem?_eq_none (show (h ++ [c]).length ≤ a by omega)).trans (List.getElem?_eq_none (show h.length ≤ a by omega)).symm
  · obtain ⟨vs, g3, g4⟩ := a3 a g1 g2
    exact ⟨vs, by rw [List.getElem?_append_left (by omega)]; exact g3, g4⟩
  · obtain ⟨g1, vs, g2⟩ := a4 a k x hx hs
    refine ⟨g1, vs, ?_⟩
    rw [d_u_n (fun e => by rw [e, hn] at g2; cases g2)]
    exact g2
theorem y_tle (hH : d_V t h s) (c : p_C) : v_tle t (d_u t h.length (some c)) := by
  intro i c' hi
  rw [d_u_n (fun e => by rw [e, y_none hH] at hi; cases hi)]
  exact hi
end X19
section Y19
variable {d : Nat} {M : p_M} {pc l : Nat} {ls : p_Ls} {st : List Value} {h : p_H} {Q : Option Value → p_H → Prop} {a b n : Nat} {vs ws : List Value}
theorem y_oi {n : Nat} : Int32.ofInt (n : Int) = Int32.ofNat n := rfl
theorem y_ti (hn : n < 100000) : (Int32.ofNat n).toInt = (n : Int) := Int32.toInt_ofNat_of_lt (by omega)
theorem y_nl (hn : n < 100000) : ¬ Int32.ofNat n < 0 := by
  rw [Int32.lt_iff_toInt_lt, y_ti hn, Int32.toInt_zero]
  omega
theorem y_ncl (hn : n < 100000) : (Int32.ofNat n).toNatClampNeg = n := by
  show (Int32.ofNat n).toInt.toNat = n
  rw [y_ti hn, Int.toNat_natCast]
theorem y_alen (hat : p_at pc M.2.2.2.2.1 = some (.arraylength, l)) (hc : h[a]? = some (1, 0, vs)) (hk : p_wp p_GT p_MT d M (pc + 1) ls (.int (Int32.ofNat vs.length) :: st) h Q) : p_wp p_GT p_MT d M pc ls (.ref a :: st) h Q :=
  p_wp.step hat (by simp only [p_step, hc]; rfl) hk
theorem y_clone {X : Nat} {q : Nat × Int} (hat : p_at pc M.2.2.2.2.1 = some (.invokevirtual X, l)) (hp : p_pk X 12 M.2.2.2.2.2.1 = some q) (hc : h[a]? = some (1, 0, vs)) (hi : vs.all (fits .int) = true) (hs : p_cat st ≤ 8) (hk : p_wp p_GT p_MT d M (pc + 3) ls (.ref h.length :: st) (h ++ [(1, 0, vs)]) Q) : p_wp p_GT p_MT d M pc ls (.ref a :: st) h Q :=
  p_wp.step hat (by simp only [p_step, p_vir, hp, p_clone, hc, hi, hs, and_self, if_true]; rfl) hk
theorem y_cc {X : Nat} {q : Nat × Int} (hat : p_at pc M.2.2.2.2.1 = some (.checkcast X, l)) (hp : p_pk X 13 M.2.2.2.2.2.1 = some q) (hc : h[a]? = some (1, 0, vs)) (hk : p_wp p_GT p_MT d M (pc + 3) ls (.ref a :: st) h Q) : p_wp p_GT p_MT d M pc ls (.ref a :: st) h Q :=
  p_wp.step hat (by simp only [p_step, p_cc, hp, hc]; rfl) hk
theorem y_newa (hat : p_at pc M.2.2.2.2.1 = some (.newarray .int, l)) (hn : n < 100000) (hk : p_wp p_GT p_MT d M (pc + 2) ls (.ref h.length :: st) (h ++ [(1, 0, List.replicate n (.int 0))]) Q) : p_wp p_GT p_MT d M pc ls (.int (Int32.ofNat n) :: st) h Q := by
  refine p_wp.step hat ?_ hk
  have h1 : ¬ Int32.ofNat n < 0 ∧ (Int32.ofNat n).toNatClampNeg ≤ 1000000 := ⟨y_nl hn, by rw [y_ncl hn]; omega⟩
  simp only [p_step, p_ty, p_newa]
  rw [if_pos h1, y_ncl hn]
  rfl
theorem y_acopy {X : Nat} {q : Nat × Int} (hat : p_at pc M.2.2.2.2.1 = some (.invokestatic X, l)) (hp : p_pk X 7 M.2.2.2.2.2.1 = some q) (hs : h[a]? = some (1, 0, vs)) (hd : h[b]? = some (1, 0, ws)) (hn : n < 100000) (h1 : n ≤ vs.length) (h2 : n ≤ ws.length) (hi : (vs.take n).all (fits .int) = true) (hst : p_cat st ≤ 8) (hk : p_wp p_GT p_MT d M (pc + 3) ls st (h.set b (1, 0, p_cpy vs ws 0 0 n)) Q) : p_wp p_GT p_MT d M pc ls (.int (Int32.ofNat n) :: .int (Int32.ofNat 0) :: .ref b :: .int (Int32.ofNat 0) :: .ref a :: st) h Q := by
  refine p_wp.step hat ?_ hk
  have hz : (Int32.ofNat 0).toNatClampNeg = 0 := y_ncl (by decide)
  have hc : ¬ Int32.ofNat 0 < 0 ∧ ¬ Int32.ofNat 0 < 0 ∧ ¬ Int32.ofNat n < 0 ∧ (Int32.ofNat 0).toNatClampNeg + (Int32.ofNat n).toNatClampNeg ≤ vs.length ∧ (Int32.ofNat 0).toNatClampNeg + (Int32.ofNat n).toNatClampNeg ≤ ws.length ∧ ((vs.drop (Int32.ofNat 0).toNatClampNeg).take (Int32.ofNat n).toNatClampNeg).all (fits .int) = true ∧ p_cat st ≤ 8 := by
    rw [hz, y_ncl hn, Nat.zero_add, List.drop_zero]
    exact ⟨by decide, by decide, y_nl hn, h1, h2, hi, hst⟩
  simp only [p_step, p_invs, hp, p_copy, hs, hd]
  rw [if_pos hc, hz, y_ncl hn]
  rfl
theorem y_areturn {E : FieldType} (hat : p_at pc M.2.2.2.2.1 = some (.areturn, l)) (hr : M.2.2.2.1 = some (.array E)) (hq : Q (some (.ref a)) h) : p_wp p_GT p_MT d M pc ls [.ref a] h Q :=
  p_wp.ret hat (by simp only [p_step, p_ret, hr]) hq
theorem y_all : ∀ {vs : List Value}, (∀ j, j < vs.length → ∃ y : Int32, vs[j]? = some (.int y)) → vs.all (fits .int) = true := by
  intro vs hv
  refine List.all_eq_true.mpr (fun v hm => ?_)
  obtain ⟨j, hj⟩ := List.getElem?_of_mem hm
  obtain ⟨y, hy⟩ := hv j (List.getElem?_eq_some_iff.mp hj).1
  rw [hj] at hy
  cases hy
  rfl
theorem y_copyOf (hc : h[a]? = some (1, 0, vs)) (hl : vs.length < 1000) (hn : n ≤ vs.length) (hv : ∀ j, j < vs.length → ∃ y : Int32, vs[j]? = some (.int y)) (hQ : Q (some (.ref h.length)) (h ++ [(1, 0, vs.take n)])) : p_wp p_GT p_MT (d + 1) m_J7_copyOf_59c91 0 (lv_args 0 [.ref a, .int (Int32.ofInt (n : Int))]) [] h Q := by
  have hal : a < h.length := (List.getElem?_eq_some_iff.mp hc).1
  refine dw_iln (x := (n : Int)) rfl rfl (dw_aln rfl rfl (y_alen rfl hc ?_))
  by_cases e : n = vs.length
  · have et : vs.take n = vs := by rw [e, List.take_length]
    rw [et] at hQ
    refine dw_ne_y (x := (n : Int)) (y := (vs.length : Int)) rfl rfl ⟨by omega, by omega⟩ ⟨by omega, by omega⟩ (by omega) ?_
    exact dw_aln rfl rfl (y_clone rfl rfl hc (y_all hv) (by decide) (y_cc rfl rfl (vs := vs) (by simp) (y_areturn rfl rfl hQ)))
  · refine dw_ne_n (x := (n : Int)) (y := (vs.length : Int)) rfl rfl ⟨by omega, by omega⟩ ⟨by omega, by omega⟩ (by omega) ?_
    refine dw_iln (x := (n : Int)) rfl rfl (y_newa (n := n) rfl (by omega) (dw_asn rfl rfl ?_))
    have hc' : (h ++ [(1, 0, List.replicate n (.int 0))])[a]? = some (1, 0, vs) := by rw [List.getElem?_append_left hal]; exact hc
    have hd' : (h ++ [(1, 0, List.replicate n (.int 0))])[h.length]? = some (1, 0, List.replicate n (.int 0)) := by simp
    refine dw_aln (a := a) rfl rfl (dw_ic rfl (dw_aln (a := h.length) rfl rfl (dw_ic rfl (dw_aln (a := a) rfl rfl (y_alen rfl hc' (dw_iln (x := (n : Int)) rfl rfl ?_))))))
    have hmin : F_J9_min_7cf53 (vs.length : Int) (n : Int) = some (n : Int) := by rw [P_min]; congr 1; omega
    have hF : d_b (F_J9_min_7cf53 (vs.length : Int) (n : Int)) (fun v => some v) = some (n : Int) := by rw [hmin, d_b_t]
    refine dw_sP hF rfl rfl rfl rfl (dc := 0) (Nat.ble_eq_true_of_le (by omega)) (fun _ e => D_J9_min_7cf53 e ⟨by omega, by omega⟩ ⟨by omega, by omega⟩) (fun v hv1 hF => ?_)
    have hve : v = (n : Int) := Option.some.inj hF
    subst hve
    have htk : (vs.take n).all (fits .int) = true := by
      refine List.all_eq_true.mpr (fun v hm => List.all_eq_true.mp (y_all hv) v (List.mem_of_mem_take hm))
    refine y_acopy (n := n) rfl rfl hc' hd' (by omega) hn (by simp) htk (by decide) (dw_aln (a := h.length) rfl rfl (y_areturn rfl rfl ?_))
    have ecp : p_cpy vs (List.replicate n (.int 0)) 0 0 n = vs.take n := by
      simp only [p_cpy, List.take_zero, List.nil_append, List.drop_zero, Nat.zero_add]
      rw [List.drop_eq_nil_of_le (by simp), List.append_nil]
    have est : (h ++ [((1, 0, List.replicate n (Value.int 0)) : p_C)]).set h.length (1, 0, vs.take n) = h ++ [((1, 0, vs.take n) : p_C)] := by
      rw [List.set_append_right _ _ (Nat.le_refl _), Nat.sub_self]; rfl
    rw [ecp, est]
    exact hQ
end Y19

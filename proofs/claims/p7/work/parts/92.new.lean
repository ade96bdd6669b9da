/-! New cells: copyOf by hand -/
section GNW
variable {τ : Nat → Option Nat} {h : p_H} {f : x_F}
theorem x_fo.mono {τ' : Nat → Option Nat} {t : x_T} {v : Value} (hv : x_fo τ t v) (ht : ∀ i k, τ i = some k → τ' i = some k) : x_fo τ' t v := by
  unfold x_fo at hv ⊢
  split
  · next e => simp only [e] at hv; exact hv
  · next e => simp only [e] at hv; exact hv
  · next e =>
    simp only [e] at hv
    obtain ⟨a, h1, h2, h3⟩ := hv
    exact ⟨a, h1, ht _ _ h2, h3⟩
  · next e =>
    simp only [e] at hv
    rcases hv with h1 | ⟨a, h1, h2⟩
    · exact Or.inl h1
    · exact Or.inr ⟨a, h1, ht _ _ h2⟩
  · next e1 e2 e3 e4 =>
    exfalso
    match q : t.1 with
    | 0 => simp only [q] at hv
    | 1 => exact e1 q
    | 2 => exact e2 q
    | 3 => exact e3 q
    | 4 => exact e4 q
    | k + 5 => simp only [q] at hv
/-- the kinds with a new cell -/
def g_up (τ : Nat → Option Nat) (a k : Nat) : Nat → Option Nat := fun i => if i = a then some k else τ i
theorem g_new (hH : x_H x_EE τ h) (h80 : 80 ≤ h.length) {k : Nat} {K : x_K} {vs : List Value} (hK : x_KL[k]? = some K) (l1 : K.2.2.2.2.2.2.1 ≤ vs.length) (l2 : vs.length ≤ K.2.2.2.2.2.2.2) (hf : ∀ j v, vs[j]? = some v → x_fo τ (x_pt K j) v) (hk : 80 ≤ k) : x_J x_EE f τ h (g_up τ h.length k) (h ++ [(K.1, K.2.1, vs)]) ∧ g_up τ h.length k h.length = some k ∧ (h ++ [(K.1, K.2.1, vs)])[h.length]? = some (K.1, K.2.1, vs) := by
  have hlt : ∀ i k, τ i = some k → i < h.length := by
    intro i k hi
    obtain ⟨c, hc, -⟩ := hH i k hi
    exact (List.getElem?_eq_some_iff.mp hc).1
  have hm : ∀ i q, τ i = some q → g_up τ h.length k i = some q := by
    intro i q hi
    have := hlt i q hi
    simp only [g_up]; rw [if_neg (by omega)]; exact hi
  refine ⟨⟨hm, fun i q hi => ?_, fun i q hi => ?_, ⟨fun i q c hi hc => ⟨c, ?_, rfl, fun _ _ => rfl⟩, fun i hi hl => ?_⟩⟩, by simp only [g_up]; rw [if_pos trivial], by simp⟩
  · simp only [g_up] at hi
    split at hi
    · right; omega
    · exact Or.inl hi
  · simp only [g_up] at hi
    split at hi
    · next e =>
      cases hi
      subst e
      exact ⟨(K.1, K.2.1, vs), by simp, K, hK, rfl, rfl, l1, l2, fun j v hv => (hf j v hv).mono hm, ⟨fun q => (by omega), fun q => (by omega), fun q => (by omega)⟩⟩
    · obtain ⟨c, hc, K', hK', g1, g2, g3, g4, g5, g6⟩ := hH i q hi
      exact ⟨c, by rw [List.getElem?_append_left (hlt i q hi)]; exact hc, K', hK', g1, g2, g3, g4, fun j v hv => (g5 j v hv).mono hm, g6⟩
  · rw [List.getElem?_append_left (List.getElem?_eq_some_iff.mp hc).1]; exact hc
  · rw [List.getElem?_append_left hl]
end GNW
section GNI
variable {G : p_G} {MT : List p_M} {d : Nat} {M : p_M} {pc l : Nat} {ls : p_Ls} {st : List Value} {h : p_H} {Q : Option Value → p_H → Prop} {a b n : Nat} {vs ws : List Value}
theorem w_alen (hat : p_at pc M.2.2.2.2.1 = some (.arraylength, l)) (hc : h[a]? = some (1, 0, vs)) (hk : p_wp G MT d M (pc + 1) ls (.int (Int32.ofNat vs.length) :: st) h Q) : p_wp G MT d M pc ls (.ref a :: st) h Q :=
  p_wp.step hat (by simp only [p_step, hc]; rfl) hk
theorem w_clone {X : Nat} {q : Nat × Int} (hat : p_at pc M.2.2.2.2.1 = some (.invokevirtual X, l)) (hp : p_pk X 12 M.2.2.2.2.2.1 = some q) (hc : h[a]? = some (1, 0, vs)) (hi : vs.all (fits .int) = true) (hs : p_cat st ≤ 8) (hk : p_wp G MT d M (pc + 3) ls (.ref h.length :: st) (h ++ [(1, 0, vs)]) Q) : p_wp G MT d M pc ls (.ref a :: st) h Q :=
  p_wp.step hat (by simp only [p_step, p_vir, hp, p_clone, hc, hi, hs, and_self, if_true]; rfl) hk
theorem w_cc {X : Nat} {q : Nat × Int} (hat : p_at pc M.2.2.2.2.1 = some (.checkcast X, l)) (hp : p_pk X 13 M.2.2.2.2.2.1 = some q) (hc : h[a]? = some (1, 0, vs)) (hk : p_wp G MT d M (pc + 3) ls (.ref a :: st) h Q) : p_wp G MT d M pc ls (.ref a :: st) h Q :=
  p_wp.step hat (by simp only [p_step, p_cc, hp, hc]; rfl) hk
theorem w_newa (hat : p_at pc M.2.2.2.2.1 = some (.newarray .int, l)) (hn : n < 100000) (hk : p_wp G MT d M (pc + 2) ls (.ref h.length :: st) (h ++ [(1, 0, List.replicate n (.int 0))]) Q) : p_wp G MT d M pc ls (.int (Int32.ofNat n) :: st) h Q := by
  refine p_wp.step hat ?_ hk
  have h1 : ¬ Int32.ofNat n < 0 ∧ (Int32.ofNat n).toNatClampNeg ≤ 1000000 := ⟨g_nl hn, by rw [g_ncl hn]; omega⟩
  simp only [p_step, p_ty, p_newa]
  rw [if_pos h1, g_ncl hn]
  rfl
theorem w_acopy {X : Nat} {q : Nat × Int} (hat : p_at pc M.2.2.2.2.1 = some (.invokestatic X, l)) (hp : p_pk X 7 M.2.2.2.2.2.1 = some q) (hs : h[a]? = some (1, 0, vs)) (hd : h[b]? = some (1, 0, ws)) (hn : n < 100000) (h1 : n ≤ vs.length) (h2 : n ≤ ws.length) (hi : (vs.take n).all (fits .int) = true) (hst : p_cat st ≤ 8) (hk : p_wp G MT d M (pc + 3) ls st (h.set b (1, 0, p_cpy vs ws 0 0 n)) Q) : p_wp G MT d M pc ls (.int (Int32.ofNat n) :: .int (Int32.ofNat 0) :: .ref b :: .int (Int32.ofNat 0) :: .ref a :: st) h Q := by
  refine p_wp.step hat ?_ hk
  have hz : (Int32.ofNat 0).toNatClampNeg = 0 := g_ncl (by decide)
  have hc : ¬ Int32.ofNat 0 < 0 ∧ ¬ Int32.ofNat 0 < 0 ∧ ¬ Int32.ofNat n < 0 ∧ (Int32.ofNat 0).toNatClampNeg + (Int32.ofNat n).toNatClampNeg ≤ vs.length ∧ (Int32.ofNat 0).toNatClampNeg + (Int32.ofNat n).toNatClampNeg ≤ ws.length ∧ ((vs.drop (Int32.ofNat 0).toNatClampNeg).take (Int32.ofNat n).toNatClampNeg).all (fits .int) = true ∧ p_cat st ≤ 8 := by
    rw [hz, g_ncl hn, Nat.zero_add, List.drop_zero]
    exact ⟨by decide, by decide, g_nl hn, h1, h2, hi, hst⟩
  simp only [p_step, p_invs, hp, p_copy, hs, hd]
  rw [if_pos hc, hz, g_ncl hn]
  rfl
theorem w_areturn {E : FieldType} (hat : p_at pc M.2.2.2.2.1 = some (.areturn, l)) (hr : M.2.2.2.1 = some (.array E)) (hq : Q (some (.ref a)) h) : p_wp G MT d M pc ls [.ref a] h Q :=
  p_wp.ret hat (by simp only [p_step, p_ret, hr]) hq
theorem g_min {x y : Nat} (hy : y < 100000) (hxy : y ≤ x) (hx : x < 100000) : p_wp p_GT p_MT d m_J9_min_7cf53 0 (lv_args 0 [.int (Int32.ofNat x), .int (Int32.ofNat y)]) [] h (fun v h2 => v = some (.int (Int32.ofNat y)) ∧ h2 = h) := by
  refine w_iload_n rfl rfl (w_iload_n rfl rfl ?_)
  cases hc : p_cd .gt (Int32.ofNat x) (Int32.ofNat y) with
  | true => exact w_icmp_t rfl (t := 9) rfl hc (w_iload_n rfl rfl (w_ireturn rfl rfl ⟨rfl, rfl⟩))
  | false =>
    have e : x = y := by
      simp only [p_cd, decide_eq_false_iff_not] at hc
      rw [Int32.lt_iff_toInt_lt, g_ofNat hy, g_ofNat hx] at hc
      omega
    subst e
    exact w_icmp_f rfl (t := 9) rfl hc (w_iload_n rfl rfl (w_goto rfl (t := 10) rfl (w_ireturn rfl rfl ⟨rfl, rfl⟩)))
theorem g_ints_all : ∀ {vs : List Value}, (∀ j, j < vs.length → ∃ y : Int32, vs[j]? = some (.int y)) → vs.all (fits .int) = true := by
  intro vs hv
  refine List.all_eq_true.mpr (fun v hm => ?_)
  obtain ⟨j, hj⟩ := List.getElem?_of_mem hm
  obtain ⟨y, hy⟩ := hv j (List.getElem?_eq_some_iff.mp hj).1
  rw [hj] at hy
  cases hy
  rfl
/-- a copy of the first n places is a new cell at the end -/
theorem g_copyOf (hc : h[a]? = some (1, 0, vs)) (hl : vs.length < 1000) (hn : n ≤ vs.length) (hv : ∀ j, j < vs.length → ∃ y : Int32, vs[j]? = some (.int y)) (hQ : ∀ us, us.length = n → (∀ j, j < n → ∃ y : Int32, us[j]? = some (.int y)) → Q (some (.ref h.length)) (h ++ [(1, 0, us)])) : p_wp p_GT p_MT (d + 1) m_J7_copyOf_59c91 0 (lv_args 0 [.ref a, .int (Int32.ofNat n)]) [] h Q := by
  have hal : a < h.length := (List.getElem?_eq_some_iff.mp hc).1
  refine w_iload_n rfl rfl (w_aload_n rfl rfl (w_alen rfl hc ?_))
  by_cases e : n = vs.length
  · refine w_icmp_f rfl (t := 14) rfl (by rw [e]; simp [p_cd]) (w_aload_n rfl rfl (w_clone rfl rfl hc (g_ints_all hv) (by decide) (w_cc rfl rfl (vs := vs) (by simp) (w_areturn rfl rfl (hQ vs e.symm (fun j hj => hv j (by omega)))))))
  · have hne : p_cd .ne (Int32.ofNat n) (Int32.ofNat vs.length) = true := by
      simp only [p_cd, decide_eq_true_eq]
      intro q
      have := congrArg Int32.toInt q
      rw [g_ofNat (by omega), g_ofNat (by omega)] at this
      omega
    refine w_icmp_t rfl (t := 14) rfl hne (w_iload_n rfl rfl (w_newa rfl (by omega) (w_astore_n rfl (by decide) ?_)))
    have l0 : p_lk 0 (p_s1 (lv_args 0 [.ref a, .int (Int32.ofNat n)]) 2 (.ref h.length)) = some (.ref a) := w_s1 rfl rfl (by decide)
    have l1 : p_lk 1 (p_s1 (lv_args 0 [.ref a, .int (Int32.ofNat n)]) 2 (.ref h.length)) = some (.int (Int32.ofNat n)) := w_s1 rfl rfl (by decide)
    have l2 : p_lk 2 (p_s1 (lv_args 0 [.ref a, .int (Int32.ofNat n)]) 2 (.ref h.length)) = some (.ref h.length) := p_lk_s1
    have hc' : (h ++ [(1, 0, List.replicate n (.int 0))])[a]? = some (1, 0, vs) := by rw [List.getElem?_append_left hal]; exact hc
    have hd' : (h ++ [(1, 0, List.replicate n (.int 0))])[h.length]? = some (1, 0, List.replicate n (.int 0)) := by simp
    refine w_aload_n rfl l0 (w_ic 0 rfl rfl (w_aload_n rfl l2 (w_ic 0 rfl rfl (w_aload_n rfl l0 (w_alen rfl hc' (w_iload_n rfl l1 (w_static (nn := 0) (M' := m_J9_min_7cf53) rfl rfl rfl rfl (Nat.le_refl _) (g_min (by omega) hn (by omega)) ?_)))))))
    rintro v h2 ⟨rfl, rfl⟩
    have htk : (vs.take n).all (fits .int) = true := by
      refine List.all_eq_true.mpr (fun v hm => List.all_eq_true.mp (g_ints_all hv) v (List.mem_of_mem_take hm))
    refine w_acopy rfl rfl hc' hd' (by omega) hn (by simp) htk (by decide) (w_aload_n rfl l2 (w_areturn rfl rfl ?_))
    have ecp : p_cpy vs (List.replicate n (.int 0)) 0 0 n = vs.take n := by
      simp only [p_cpy, List.take_zero, List.nil_append, List.drop_zero, Nat.zero_add]
      rw [List.drop_eq_nil_of_le (by simp), List.append_nil]
    have est : (h ++ [((1, 0, List.replicate n (Value.int 0)) : p_C)]).set h.length (1, 0, vs.take n) = h ++ [((1, 0, vs.take n) : p_C)] := by
      rw [List.set_append_right _ _ (Nat.le_refl _), Nat.sub_self]; rfl
    rw [ecp, est]
    refine hQ (vs.take n) (by rw [List.length_take]; omega) (fun j hj => ?_)
    obtain ⟨y, hy⟩ := hv j (by omega)
    exact ⟨y, by rw [List.getElem?_take, if_pos hj]; exact hy⟩
end GNI
theorem ho_ch16 : x_OK p_GT p_MT x_EE ch16 := by
  refine ⟨?_, m_J7_copyOf_59c91, rfl⟩
  intro τ r h as M hM hH hA hF hK
  cases (show some m_J7_copyOf_59c91 = some M from hM)
  obtain ⟨a, V, rfl, ha, hA⟩ := x_t3 (show x_vs τ r 1 [(3, 46, ([], ((46 : Nat) : Int))), (1, 0, ([(0, 1)], 0))] as from hA)
  obtain ⟨x, V, rfl, -, hx, hA⟩ := x_t1 hA
  rw [g_nil hA]
  obtain ⟨rfl, ht⟩ := g_ref ha
  rw [g_v] at hx
  have h0 : 0 ≤ r 0 ∧ r 0 ≤ 600 := g_get hF.1 0 rfl
  have h80 := g_80 (g_get hK 0 rfl)
  obtain ⟨n, hn⟩ : ∃ n : Nat, r 0 = n := ⟨(r 0).toNat, by omega⟩
  have ex : x = Int32.ofNat n := g_i32 (by omega) (by omega)
  subst ex
  obtain ⟨vs, hc, l1, l2, hf, -⟩ := g_cell hH ht (show x_KL[46]? = some _ from rfl)
  have l1 : 600 ≤ vs.length := l1
  have l2 : vs.length ≤ 600 := l2
  refine ⟨Nat.le_of_ble_eq_true rfl, g_copyOf hc (by omega) (by omega) (fun j hj => g_int rfl rfl hf hj) ?_⟩
  intro us hl hu
  obtain ⟨hJ, ht', hc'⟩ := g_new (f := []) (vs := us) hH h80 (k := 81) (show x_KL[81]? = some _ from rfl) (Nat.zero_le _) (by show us.length ≤ 600; omega) (fun j v hv => by
    obtain ⟨y, hy⟩ := hu j (by have := (List.getElem?_eq_some_iff.mp hv).1; omega)
    rw [hy] at hv
    cases hv
    rw [x_pt0 (t := x_any) rfl rfl rfl]
    exact ⟨y, rfl, x_I32 y⟩) (by decide)
  refine ⟨g_up τ h.length 81, x_up r 1 h.length, hJ, _, List.mem_cons_self, by rw [List.length_append]; exact Nat.le_refl _, by rw [p_sl_app]; show p_sl h + us.length ≤ p_sl h + 600; omega, fun i hi => x_up_lt i hi, ⟨g_io (by simp [x_up]; omega) g_io0, g_n, g_n⟩, ⟨g_wl rfl, h.length, rfl, by rw [g_v, x_up_at], ht'⟩, g_n⟩

/-! Shifts, longs that are known, bytes, the words, pieces of arrays -/
section XNW
variable {E : x_E} {f : x_F} {G : p_G} {MT : List p_M} {M : p_M} {τ τ0 : Nat → Option Nat} {h h0 : p_H} {r : Nat → Int} {n pc : Nat} {F : q_F} {L S : List x_V} {Me : x_M} {u w : q_E} {ls : p_Ls} {st : List Value}
theorem x_shc_ok {c lo hi : Int} : ∀ (m : Nat) (v y : Int), x_shc c lo hi m v = true → v ≤ y → y < v + m → lo ≤ (Int32.ofInt c <<< (Int32.ofInt y &&& 31)).toInt ∧ (Int32.ofInt c <<< (Int32.ofInt y &&& 31)).toInt ≤ hi := by
  intro m
  induction m with
  | zero => intro v y _ h1 h2; omega
  | succ m ih =>
    intro v y hg h1 h2
    simp only [x_shc, Bool.and_eq_true] at hg
    by_cases q : y = v
    · subst q
      have a1 := q_nn_iff.mp hg.1.1
      have a2 := q_nn_iff.mp hg.1.2
      omega
    · exact ih (v + 1) y hg.2 (by omega) (by push_cast at h2; omega)
theorem x_shl_ok {a b : q_E} {x y : Int32} (wF : q_wF n F) (hF : q_FO r F) (ha : x.toInt = q_e r a) (hb : y.toInt = q_e r b) : x_NR n r (x_shl' n F a b) (x <<< (y &&& 31)).toInt := by
  simp only [x_shl']
  split
  · next c l u hc e1 e2 =>
    split
    · next hg =>
      simp only [Bool.and_eq_true] at hg
      have b1 := x_mi_ok hF e1
      have b2 := x_mx_ok hF e2
      rw [← hb] at b1 b2
      have hx : x.toInt = c := ha.trans (q_isC_e hc)
      have ex : Int32.ofInt c = x := by rw [← hx]; exact Int32.ofInt_toInt x
      have p3 := q_nn_iff.mp hg.1.2
      have := x_shc_ok _ _ y.toInt hg.2 b1 (by push_cast; omega)
      rw [ex, Int32.ofInt_toInt] at this
      split
      · next hz =>
        have hz := q_z_iff.mp hz
        have hu : u = l := by omega
        rw [hu] at this
        exact ⟨r, fun _ _ => rfl, Nat.le_refl n, wF, hF, q_c_wl, by rw [q_c_e]; omega⟩
      · exact x_fr_ok wF hF this.1 this.2
    · exact x_f32_ok wF hF _
  · exact x_f32_ok wF hF _
theorem x_lor_ok {a b : q_E} {x y : Int64} (wF : q_wF n F) (hF : q_FO r F) (ha : x.toInt = q_e r a) (hb : y.toInt = q_e r b) : x_NR n r (x_lor' n F a b) (x ||| y).toInt := by
  simp only [x_lor']
  split
  · next c d hc hd =>
    have hx : Int64.ofInt c = x := by rw [← q_isC_e (r := r) hc, ← ha]; exact Int64.ofInt_toInt x
    have hy : Int64.ofInt d = y := by rw [← q_isC_e (r := r) hd, ← hb]; exact Int64.ofInt_toInt y
    rw [hx, hy]
    exact ⟨r, fun _ _ => rfl, Nat.le_refl n, wF, hF, q_c_wl, q_c_e r _⟩
  · exact x_f64_ok wF hF _
theorem x_lsl_ok {a b : q_E} {x : Int64} {y : Int32} (wF : q_wF n F) (hF : q_FO r F) (ha : x.toInt = q_e r a) (hb : y.toInt = q_e r b) : x_NR n r (x_lsl' n F a b) (x <<< (y.toInt64 &&& 63)).toInt := by
  simp only [x_lsl']
  split
  · next c d hc hd =>
    have hx : Int64.ofInt c = x := by rw [← q_isC_e (r := r) hc, ← ha]; exact Int64.ofInt_toInt x
    have hy : Int32.ofInt d = y := by rw [← q_isC_e (r := r) hd, ← hb]; exact Int32.ofInt_toInt y
    rw [hx, hy]
    exact ⟨r, fun _ _ => rfl, Nat.le_refl n, wF, hF, q_c_wl, q_c_e r _⟩
  · exact x_f64_ok wF hF _
theorem x_pt0 {K : x_K} {t : x_T} {j : Nat} (h1 : K.1 = 1) (h2 : K.2.2.2.1.isEmpty = true) (h3 : K.2.2.1 = [t]) : x_pt K j = t := by
  have : K.2.2.2.1 = [] := List.isEmpty_iff.mp h2
  simp only [x_pt, h1, this, x_rg, h3]
  rfl
theorem x_asB_ok (hEO : x_EO E) (hKO : x_KO E) (hJ : x_J E f τ0 h0 τ h) (hO : x_O E τ r h0 h ls st (n, F, L, S, Me, u, w)) {k pc' : Nat} {e j : q_E} {x y : Int32} {rv : Value} {S' : List x_V} {st' : List Value} (hx : x.toInt = q_e r j) (hv : x_v τ r n (3, k, e) rv) (hS : x_vs τ r n S' st') {outs : List (Nat × x_S)} (hs : x_asB E.1 f j k e pc' n F L S' Me u w = some outs) : ∃ a, rv = .ref a ∧ x_Res E f τ0 h0 τ r n (match p_as 1 (narrow .byte (.int y)) x a pc' ls st' h with
      | some o => some o
      | none => p_as 3 (narrow .boolean (.int y)) x a pc' ls st' h) outs := by
  obtain ⟨i, K, c, rfl, hi, we, ht, hc, hK, c1, c2, c3, c4, c5⟩ := x_ref hv hJ.2.2.1
  refine ⟨i, rfl, ?_⟩
  simp only [x_asB, hK] at hs
  split at hs
  · next K' lo hi' e0 hr =>
    cases e0
    split at hs
    · next hg =>
      simp only [Bool.and_eq_true] at hg
      obtain ⟨⟨⟨⟨⟨g1, g2⟩, g3⟩, g4⟩, g5⟩, g6⟩ := hg
      obtain ⟨i1, i2, i3⟩ := x_in_ok g4 hO.2.1 hO.2.2.2.2.1 hi hc c3 hx
      have s1 := Nat.eq_of_beq_eq_true g1
      obtain ⟨b1, b2⟩ := x_rng_ok hO.2.1 hr i3
      rw [Bool.or_eq_true] at g2
      obtain ⟨ca, cb, cv⟩ := c
      have a1 : ca = 1 := by rw [← s1]; exact c1
      subst a1
      rcases g2 with g | g
      · rw [Bool.and_eq_true, decide_eq_true_eq] at g
        have s2 := Nat.eq_of_beq_eq_true g.1
        have a2 : cb = 3 := by rw [← s2]; exact c2
        subst a2
        have hfo : x_fo τ (x_pt K x.toNatClampNeg) (narrow .boolean (.int y)) := by
          rw [x_pt0 s1 g3 g.2]
          have := x_and (x := y) (y := 1) (by decide)
          exact ⟨_, rfl, this.1, this.2⟩
        refine x_wr (N := []) hEO hJ hO ht hc hK i2 hfo g6 g5 b1 b2 hS (fun m hm => by cases hm) ?_ hs
        have q1 : p_as 1 (narrow .byte (.int y)) x i pc' ls st' h = none := by simp [p_as, hc]
        rw [q1]
        simp only [p_as, hc, Nat.beq_refl, Bool.and_self, if_true]
        rw [x_ixS i1 i2]
        rfl
      · rw [Bool.and_eq_true, decide_eq_true_eq] at g
        have s2 := Nat.eq_of_beq_eq_true g.1
        have a2 : cb = 1 := by rw [← s2]; exact c2
        subst a2
        have hfo : x_fo τ (x_pt K x.toNatClampNeg) (narrow .byte (.int y)) := by
          rw [x_pt0 s1 g3 g.2]
          refine ⟨y.toInt8.toInt32, rfl, ?_, ?_⟩
          · show (-128 : Int) ≤ _; rw [Int8.toInt_toInt32]; exact Int8.le_toInt _
          · show _ ≤ (127 : Int); rw [Int8.toInt_toInt32]; have := Int8.toInt_lt y.toInt8; omega
        refine x_wr (N := []) hEO hJ hO ht hc hK i2 hfo g6 g5 b1 b2 hS (fun m hm => by cases hm) ?_ hs
        have q1 : p_as 1 (narrow .byte (.int y)) x i pc' ls st' h = some (.inl (pc', ls, st', h.set i (1, 1, cv.set x.toNatClampNeg (narrow .byte (.int y))))) := by
          simp only [p_as, hc, Nat.beq_refl, Bool.and_self, if_true]
          rw [x_ixS i1 i2]
          rfl
        rw [q1]
    · cases hs
  · cases hs
theorem x_gst_ok (hJ : x_J E f τ0 h0 τ h) (hO : x_O E τ r h0 h ls st (n, F, L, S, Me, u, w)) {P : List p_P} {x pc' : Nat} {outs : List (Nat × x_S)} (hs : x_gst P x pc' n F L S Me u w = some outs) : x_Res E f τ0 h0 τ r n (match p_pk x 6 P with
      | some _ => p_go pc' ls (.ref 1 :: st) h
      | none => none) outs := by
  simp only [x_gst] at hs
  split at hs
  · next q hq =>
    rw [hq]
    split at hs
    · next hg =>
      obtain ⟨m, hm, hg⟩ := List.any_eq_true.mp hg
      simp only [Bool.and_eq_true] at hg
      have e1 := Nat.eq_of_beq_eq_true hg.1.1
      have e2 := Nat.eq_of_beq_eq_true hg.1.2
      have e3 := q_eqE_ok hg.2
      obtain ⟨i, c, q1, q2, -⟩ := (hO.2.2.2.2.1 m hm).plc (by rw [e1]; decide)
      rw [e3, q_c_e] at q1
      rw [e2] at q2
      have hi : i = 1 := by omega
      subst hi
      exact x_stk hJ hO (S' := (3, 1, q_c 1) :: S) (st' := .ref 1 :: st) ⟨⟨q_c_wl, 1, rfl, (q_c_e r 1).symm, q2⟩, hO.2.2.2.1⟩ rfl hs
    · cases hs
  · cases hs
theorem x_catS_ok : ∀ {A : List x_V} {V : List Value}, x_vs τ r n A V → p_cat V ≤ (A.map (fun a => if Nat.beq a.1 2 || Nat.beq a.1 0 then 2 else 1)).sum := by
  intro A
  induction A with
  | nil => intro V hv; cases V with
    | nil => simp [p_cat]
    | cons v V => exact hv.elim
  | cons a A ih => intro V hv; cases V with
    | nil => exact hv.elim
    | cons v V =>
      have h1 : v.category ≤ (if Nat.beq a.1 2 || Nat.beq a.1 0 then 2 else 1) := by
        have h2 : v.category ≤ 2 := by cases v <;> simp [Value.category]
        by_cases q : a.1 = 0
        · rw [q]; exact h2
        · by_cases q2 : a.1 = 2
          · rw [q2]; exact h2
          · have := x_v_cat hv.1 q q2
            split <;> omega
      have h2 := ih hv.2
      simp only [p_cat, List.map_cons, List.sum_cons] at h2 ⊢
      omega
theorem x_up2_ok {K : x_K} {e j : q_E} {i : Nat} {c : p_C} (hg : x_up2 K F e j Me = true) (hF : q_FO r F) (hM : ∀ m ∈ Me, x_m E τ r n h m) (hi : (i : Int) = q_e r e) (hc : h[i]? = some c) (hl : K.2.2.2.2.2.2.1 ≤ c.2.2.length) : q_e r j ≤ c.2.2.length := by
  simp only [x_up2, Bool.or_eq_true] at hg
  rcases hg with g | g
  · have := q_ent_spec hF g
    rw [q_sub_e, q_c_e] at this
    omega
  · split at g
    · next a ha =>
      obtain ⟨-, -, hlen⟩ := x_noted_len ha hM hi hc
      have := q_ent_spec hF g
      rw [q_sub_e] at this
      omega
    · cases g
theorem p_cpy_len {vs ws : List Value} {sp dp k : Nat} (h1 : sp + k ≤ vs.length) (h2 : dp + k ≤ ws.length) : (p_cpy vs ws sp dp k).length = ws.length := by
  simp only [p_cpy, List.length_append, List.length_take, List.length_drop]
  omega
theorem p_cpy_out {vs ws : List Value} {sp dp k j : Nat} (h1 : sp + k ≤ vs.length) (h2 : dp + k ≤ ws.length) (hj : j < dp ∨ dp + k ≤ j) : (p_cpy vs ws sp dp k)[j]? = ws[j]? := by
  simp only [p_cpy]
  have l1 : (ws.take dp).length = dp := by rw [List.length_take]; omega
  have l2 : ((vs.drop sp).take k).length = k := by rw [List.length_take, List.length_drop]; omega
  rcases hj with q | q
  · rw [List.getElem?_append_left (by omega), List.getElem?_take, if_pos q]
  · rw [List.getElem?_append_right (by omega), List.getElem?_append_right (by omega), List.getElem?_drop, l1, l2]
    congr 1; omega
theorem p_cpy_mem {vs ws : List Value} {sp dp k : Nat} {v : Value} (h : v ∈ p_cpy vs ws sp dp k) : v ∈ vs ∨ v ∈ ws := by
  simp only [p_cpy, List.mem_append] at h
  rcases h with h | h | h
  · exact Or.inr (List.mem_of_mem_take h)
  · exact Or.inl (List.mem_of_mem_drop (List.mem_of_mem_take h))
  · exact Or.inr (List.mem_of_mem_drop h)
theorem x_acp_ok (hEO : x_EO E) (hJ : x_J E f τ0 h0 τ h) (hO : x_O E τ r h0 h ls st (n, F, L, S, Me, u, w)) {kd ks pc' : Nat} {nn dp sp ed es : q_E} {xn xd xs : Int32} {vd vs0 : Value} {S' : List x_V} {st' : List Value} (hn : xn.toInt = q_e r nn) (hd : xd.toInt = q_e r dp) (hsp : xs.toInt = q_e r sp) (hvd : x_v τ r n (3, kd, ed) vd) (hvs : x_v τ r n (3, ks, es) vs0) (hS : x_vs τ r n S' st') {outs : List (Nat × x_S)} (hs : x_acp E.1 f nn dp kd ed sp ks es pc' n F L S' Me u w = some outs) : ∃ a b, vd = .ref a ∧ vs0 = .ref b ∧ x_Res E f τ0 h0 τ r n (p_copy xn xd a xs b pc' ls st' h) outs := by
  obtain ⟨i, K, c, rfl, hi, we, ht, hc, hK, c1, c2, c3, c4, c5⟩ := x_ref hvd hJ.2.2.1
  obtain ⟨i', K', c', rfl, hi', we', ht', hc', hK', d1, d2, d3, d4, d5⟩ := x_ref hvs hJ.2.2.1
  refine ⟨i, i', rfl, rfl, ?_⟩
  simp only [x_acp, hK, hK'] at hs
  split at hs
  · next Ks Kd lo hi2 e0 e1 hlo hhi =>
    cases e0; cases e1
    split at hs
    · next hg =>
      simp only [Bool.and_eq_true, decide_eq_true_eq] at hg
      obtain ⟨⟨⟨⟨⟨⟨⟨⟨⟨⟨⟨⟨⟨⟨⟨g1, g2⟩, g3⟩, g4⟩, g5⟩, g6⟩, g7⟩, g8⟩, g9⟩, g10⟩, g11⟩, g12⟩, g13⟩, g14⟩, g15⟩, g16⟩ := hg
      have s1 := Nat.eq_of_beq_eq_true g1
      have s2 := Nat.eq_of_beq_eq_true g2
      have s3 := Nat.eq_of_beq_eq_true g3
      have s4 := Nat.eq_of_beq_eq_true g4
      have k1 := q_ent_spec hO.2.1 g10
      have k2 := q_ent_spec hO.2.1 g11
      have k3 := q_ent_spec hO.2.1 g12
      have u1 := x_up2_ok g13 hO.2.1 hO.2.2.2.2.1 hi' hc' d3
      have u2 := x_up2_ok g14 hO.2.1 hO.2.2.2.2.1 hi hc c3
      rw [q_add_e] at u1 u2
      have b1 := x_mi_ok hO.2.1 hlo
      have b2 := x_mx_ok hO.2.1 hhi
      rw [q_add_e] at b2
      obtain ⟨ca, cb, cv⟩ := c
      obtain ⟨da, db, dv⟩ := c'
      have a1 : ca = 1 := by rw [← s3]; exact c1
      have a2 : cb = 0 := by rw [← s4]; exact c2
      have a3 : da = 1 := by rw [← s1]; exact d1
      have a4 : db = 0 := by rw [← s2]; exact d2
      subst a1; subst a2; subst a3; subst a4
      simp only at u1 u2 c5 d5
      have n1 : ¬ xn < 0 := by rw [Int32.lt_iff_toInt_lt]; simp only [Int32.toInt_zero]; omega
      have n2 : ¬ xd < 0 := by rw [Int32.lt_iff_toInt_lt]; simp only [Int32.toInt_zero]; omega
      have n3 : ¬ xs < 0 := by rw [Int32.lt_iff_toInt_lt]; simp only [Int32.toInt_zero]; omega
      have l1 : xs.toNatClampNeg + xn.toNatClampNeg ≤ dv.length := by rw [x_clamp, x_clamp]; omega
      have l2 : xd.toNatClampNeg + xn.toNatClampNeg ≤ cv.length := by rw [x_clamp, x_clamp]; omega
      have ints : ∀ v, v ∈ dv → ∃ y : Int32, v = .int y := by
        intro v hv
        obtain ⟨j, hj⟩ := List.mem_iff_getElem?.mp hv
        have := d5 j v hj
        rw [x_pt0 s1 g7 g5] at this
        obtain ⟨y, rfl, -⟩ := this
        exact ⟨y, rfl⟩
      have intc : ∀ v, v ∈ cv → ∃ y : Int32, v = .int y := by
        intro v hv
        obtain ⟨j, hj⟩ := List.mem_iff_getElem?.mp hv
        have := c5 j v hj
        rw [x_pt0 s3 g8 g6] at this
        obtain ⟨y, rfl, -⟩ := this
        exact ⟨y, rfl⟩
      have hfit : ((dv.drop xs.toNatClampNeg).take xn.toNatClampNeg).all (fits .int) = true := by
        rw [List.all_eq_true]
        intro v hv
        obtain ⟨y, rfl⟩ := ints v (List.mem_of_mem_drop (List.mem_of_mem_take hv))
        rfl
      have hcat : p_cat st' ≤ 8 := Nat.le_trans (x_catS_ok hS) (Nat.le_of_ble_eq_true g16)
      have hgo : p_copy xn xd i xs i' pc' ls st' h = some (.inl (pc', ls, st', h.set i (1, 0, p_cpy dv cv xs.toNatClampNeg xd.toNatClampNeg xn.toNatClampNeg))) := by
        simp only [p_copy, hc, hc']
        rw [if_pos ⟨n3, n2, n1, l1, l2, hfit, hcat⟩]
        rfl
      cases hs
      have hout : ∀ j, j < lo.toNat ∨ hi2.toNat < j → (p_cpy dv cv xs.toNatClampNeg xd.toNatClampNeg xn.toNatClampNeg)[j]? = cv[j]? := by
        intro j hj
        refine p_cpy_out l1 l2 ?_
        rw [x_clamp, x_clamp]
        omega
      have hap : x_apart K.2.2.2.2.1 lo.toNat hi2.toNat = true := by
        rw [List.isEmpty_iff.mp g9]; rfl
      obtain ⟨o1, o2, o3, o4, o5, o6, o7, o8, o9⟩ := hO
      refine ⟨_, List.mem_cons_self, ls, st', _, r, hgo, fun _ _ => rfl, Nat.le_refl n, hJ.sets (c := (1, 0, cv)) hEO ht hc hK (p_cpy_len l1 l2) hout (fun j v hj => ?_) hap g15, o1, o2, o3, hS, fun m hm => ?_, o6, ?_, o8, ?_⟩
      · rw [x_pt0 s3 g8 g6]
        rcases p_cpy_mem (List.mem_of_getElem? hj) with q | q
        · obtain ⟨y, rfl⟩ := ints v q
          exact ⟨y, rfl, x_I32 y⟩
        · obtain ⟨y, rfl⟩ := intc v q
          exact ⟨y, rfl, x_I32 y⟩
      · exact x_m.sets (c := (1, 0, cv)) hEO hJ.2.2.1 ht hc hK (p_cpy_len l1 l2) hout hm (o5 m (List.mem_filter.mp hm).1)
      · show ((h.set i (1, 0, p_cpy dv cv xs.toNatClampNeg xd.toNatClampNeg xn.toNatClampNeg)).length : Int) ≤ _
        rw [List.length_set]; exact o7
      · show (p_sl (h.set i (1, 0, p_cpy dv cv xs.toNatClampNeg xd.toNatClampNeg xn.toNatClampNeg)) : Int) ≤ _
        rw [p_sl_set hc (p_cpy_len l1 l2)]; exact o9
    · cases hs
  · cases hs
end XNW

/-! Branches and switches of the checker -/
def x_ch (c : ClassFile.Cond) (v : Int) : Bool := match c with
  | .eq => decide (v = 0)
  | .ne => decide (¬ v = 0)
  | .lt => decide (v < 0)
  | .ge => decide (0 ≤ v)
  | .gt => decide (0 < v)
  | .le => decide (v ≤ 0)
theorem x_cd (c : ClassFile.Cond) (x y : Int32) : p_cd c x y = x_ch c (x.toInt - y.toInt) := by
  have e1 : (x = y) ↔ (x.toInt - y.toInt = 0) := by rw [← Int32.toInt_inj]; omega
  have e2 : (x < y) ↔ (x.toInt - y.toInt < 0) := by rw [Int32.lt_iff_toInt_lt]; omega
  have e3 : (y < x) ↔ (0 < x.toInt - y.toInt) := by rw [Int32.lt_iff_toInt_lt]; omega
  have e4 : (y ≤ x) ↔ (0 ≤ x.toInt - y.toInt) := by rw [Int32.le_iff_toInt_le]; omega
  have e5 : (x ≤ y) ↔ (x.toInt - y.toInt ≤ 0) := by rw [Int32.le_iff_toInt_le]; omega
  cases c <;> simp only [p_cd, x_ch, e1, e2, e3, e4, e5]
section XB
variable {E : x_E} {f : x_F} {τ τ0 : Nat → Option Nat} {h h0 : p_H} {r : Nat → Int} {n pc : Nat} {F : q_F} {L S : List x_V} {Me : x_M} {u w : q_E} {ls : p_Ls} {st : List Value}
theorem x_asm_ok {e : q_E} (wF : q_wF n F) (hF : q_FO r F) (we : q_wl n e.1) (he : 0 ≤ q_e r e) : ∃ F', x_asm F e = some F' ∧ q_wF n F' ∧ q_FO r F' := by
  simp only [x_asm]
  split
  · next hg =>
    have := q_ent_spec hF hg
    rw [q_pl_e, q_sc_e] at this
    omega
  · exact ⟨_, rfl, q_asm_wF wF we, q_asm_spec hF he⟩
theorem x_as2_ok {e : q_E} (wF : q_wF n F) (hF : q_FO r F) (we : q_wl n e.1) (he : q_e r e = 0) : ∃ F', x_as2 F e = some F' ∧ q_wF n F' ∧ q_FO r F' := by
  obtain ⟨F1, g1, g2, g3⟩ := x_asm_ok wF hF we (by omega)
  simp only [x_as2, g1]
  exact x_asm_ok g2 g3 (q_sc_wl we) (by rw [q_sc_e]; omega)
theorem x_asn_ok {e : q_E} (wF : q_wF n F) (hF : q_FO r F) (we : q_wl n e.1) (he : ¬ q_e r e = 0) : ∃ F', x_asn F e = some F' ∧ q_wF n F' ∧ q_FO r F' := by
  simp only [x_asn]
  split
  · next d hd =>
    have := q_isC_e (r := r) hd
    split
    · next hz => exact absurd (this.trans (q_z_iff.mp hz)) he
    · exact ⟨_, rfl, wF, hF⟩
  · split
    · next hg =>
      rw [Bool.and_eq_true] at hg
      have h1 := q_ent_spec hF hg.1
      have h2 := q_ent_spec hF hg.2
      rw [q_sc_e] at h2
      omega
    · exact ⟨_, rfl, q_asn_wF wF we, q_asn_spec hF he⟩
theorem x_cf_ok {c : ClassFile.Cond} {b : Bool} {e : q_E} (wF : q_wF n F) (hF : q_FO r F) (we : q_wl n e.1) (hb : x_ch c (q_e r e) = b) : ∃ F', x_cf c b F e = some F' ∧ q_wF n F' ∧ q_FO r F' := by
  have k1 := fun z => x_asm_ok (e := e) wF hF we z
  have k2 := fun z => x_asm_ok (e := q_sc (-1) e) wF hF (q_sc_wl we) z
  have k3 := fun z => x_asm_ok (e := q_pl e (-1)) wF hF (q_pl_wl we) z
  have k4 := fun z => x_asm_ok (e := q_pl (q_sc (-1) e) (-1)) wF hF (q_pl_wl (q_sc_wl we)) z
  rw [q_sc_e] at k2
  rw [q_pl_e] at k3
  rw [q_pl_e, q_sc_e] at k4
  subst hb
  generalize hv : q_e r e = v at k1 k2 k3 k4 ⊢
  cases c <;> simp only [x_ch]
  · by_cases q : v = 0
    · simp only [q, decide_true]; exact x_as2_ok wF hF we (by omega)
    · simp only [q, decide_false]; exact x_asn_ok wF hF we (by omega)
  · by_cases q : v = 0
    · simp only [q, not_true_eq_false, decide_false]; exact x_as2_ok wF hF we (by omega)
    · simp only [q, not_false_eq_true, decide_true]; exact x_asn_ok wF hF we (by omega)
  · by_cases q : v < 0
    · simp only [q, decide_true]; exact k4 (by omega)
    · simp only [q, decide_false]; exact k1 (by omega)
  · by_cases q : 0 ≤ v
    · simp only [q, decide_true]; exact k1 q
    · simp only [q, decide_false]; exact k4 (by omega)
  · by_cases q : 0 < v
    · simp only [q, decide_true]; exact k3 (by omega)
    · simp only [q, decide_false]; exact k2 (by omega)
  · by_cases q : v ≤ 0
    · simp only [q, decide_true]; exact k2 (by omega)
    · simp only [q, decide_false]; exact k3 (by omega)
/-- only facts and stack are others -/
theorem x_fct (hJ : x_J E f τ0 h0 τ h) (hO : x_O E τ r h0 h ls st (n, F, L, S, Me, u, w)) {out : Option p_O} {pc' : Nat} {S' : List x_V} {st' : List Value} {F' : q_F} (wF : q_wF n F') (hF : q_FO r F') (hS : x_vs τ r n S' st') (ho : out = some (.inl (pc', ls, st', h))) {outs : List (Nat × x_S)} (hm : (pc', n, F', L, S', Me, u, w) ∈ outs) : x_Res E f τ0 h0 τ r n out outs :=
  x_go hJ hO ho (fun _ _ => rfl) (Nat.le_refl n) wF hF hO.2.2.1 hS hm
theorem x_br_ok (hJ : x_J E f τ0 h0 τ h) (hO : x_O E τ r h0 h ls st (n, F, L, S, Me, u, w)) {c : ClassFile.Cond} {e : q_E} {off : Int} {S' : List x_V} {st' : List Value} {b : Bool} (we : q_wl n e.1) (hb : b = x_ch c (q_e r e)) (hS : x_vs τ r n S' st') {outs : List (Nat × x_S)} (hs : x_br c e pc off n F L S' Me u w = some outs) : x_Res E f τ0 h0 τ r n (p_br b pc off ls st' h) outs := by
  simp only [x_br] at hs
  split at hs
  · next t ht =>
    cases hs
    cases b with
    | true =>
      obtain ⟨F', g1, g2, g3⟩ := x_cf_ok hO.1 hO.2.1 we hb.symm
      refine x_fct hJ hO g2 g3 hS (pc' := t) (by simp only [p_br, ht]; rfl) (List.mem_append_left _ ?_)
      rw [g1]; exact List.mem_cons_self
    | false =>
      obtain ⟨F', g1, g2, g3⟩ := x_cf_ok hO.1 hO.2.1 we hb.symm
      refine x_fct hJ hO g2 g3 hS (pc' := pc + 3) (by simp only [p_br, ht]; rfl) (List.mem_append_right _ ?_)
      rw [g1]; exact List.mem_cons_self
  · cases hs
theorem x_jm_ok (hJ : x_J E f τ0 h0 τ h) (hO : x_O E τ r h0 h ls st (n, F, L, S, Me, u, w)) {off : Int} {S' : List x_V} {st' : List Value} (hS : x_vs τ r n S' st') {outs : List (Nat × x_S)} (hs : x_jm pc off n F L S' Me u w = some outs) : x_Res E f τ0 h0 τ r n (p_jm pc off ls st' h) outs := by
  simp only [x_jm] at hs
  split at hs
  · next t ht => exact x_stk hJ hO hS (by simp only [p_jm, ht]; rfl) hs
  · cases hs
theorem x_sw_ok (hJ : x_J E f τ0 h0 τ h) (hO : x_O E τ r h0 h ls st (n, F, L, S, Me, u, w)) {e : q_E} {S' : List x_V} {st' : List Value} (we : q_wl n e.1) (hS : x_vs τ r n S' st') : ∀ (offs : List Int) (v : Int) (outs : List (Nat × x_S)) (k : Nat) (off : Int), x_sw e pc n F L S' Me u w offs v = some outs → offs[k]? = some off → q_e r e = v + k → x_Res E f τ0 h0 τ r n (p_jm pc off ls st' h) outs := by
  intro offs
  induction offs with
  | nil => intro v outs k off _ hk; simp at hk
  | cons o offs ih =>
    intro v outs k off hs hk he
    simp only [x_sw] at hs
    split at hs
    · next t o' ht ho' =>
      cases hs
      cases k with
      | zero =>
        simp at hk
        subst hk
        obtain ⟨F', g1, g2, g3⟩ := x_as2_ok (e := q_pl e (-v)) hO.1 hO.2.1 (q_pl_wl we) (by rw [q_pl_e]; omega)
        refine x_fct hJ hO g2 g3 hS (pc' := t) (by simp only [p_jm, ht]; rfl) (List.mem_append_left _ ?_)
        rw [g1]; exact List.mem_cons_self
      | succ k =>
        simp at hk
        obtain ⟨q, hq, g⟩ := ih (v + 1) o' k off ho' hk (by push_cast at he; omega)
        exact ⟨q, List.mem_append_right _ hq, g⟩
    · cases hs
theorem x_tab_ok (hJ : x_J E f τ0 h0 τ h) (hO : x_O E τ r h0 h ls st (n, F, L, S, Me, u, w)) {e : q_E} {d lo hi : Int} {offs : Array Int} {x : Int32} {S' : List x_V} {st' : List Value} (we : q_wl n e.1) (hx : x.toInt = q_e r e) (hS : x_vs τ r n S' st') {outs : List (Nat × x_S)} (hs : x_tab e pc d lo hi offs n F L S' Me u w = some outs) : x_Res E f τ0 h0 τ r n (p_sw pc d lo hi offs x ls st' h) outs := by
  simp only [x_tab] at hs
  split at hs
  · next t o ht ho =>
    split at hs
    · next hz =>
      cases hs
      have hz := q_z_iff.mp hz
      by_cases c1 : x.toInt < lo
      · obtain ⟨F', g1, g2, g3⟩ := x_asm_ok (e := q_pl (q_sc (-1) e) (lo - 1)) hO.1 hO.2.1 (q_pl_wl (q_sc_wl we)) (by rw [q_pl_e, q_sc_e]; omega)
        refine x_fct hJ hO g2 g3 hS (pc' := t) (by simp only [p_sw, c1, true_or, if_true, p_jm, ht]; rfl) (List.mem_append_left _ ?_)
        rw [g1]; exact List.mem_cons_self
      · by_cases c2 : hi < x.toInt
        · obtain ⟨F', g1, g2, g3⟩ := x_asm_ok (e := q_pl e (-hi - 1)) hO.1 hO.2.1 (q_pl_wl we) (by rw [q_pl_e]; omega)
          refine x_fct hJ hO g2 g3 hS (pc' := t) (by simp only [p_sw, c2, or_true, if_true, p_jm, ht]; rfl) (List.mem_append_right _ (List.mem_append_left _ ?_))
          rw [g1]; exact List.mem_cons_self
        · have hk : (x.toInt - lo).toNat < offs.toList.length := by omega
          have hg : offs[(x.toInt - lo).toNat]? = some offs.toList[(x.toInt - lo).toNat] := by
            rw [← Array.getElem?_toList, List.getElem?_eq_getElem hk]
          obtain ⟨q, hq, g⟩ := x_sw_ok hJ hO we hS offs.toList lo o (x.toInt - lo).toNat _ ho (List.getElem?_eq_getElem hk) (by omega)
          refine ⟨q, List.mem_append_right _ (List.mem_append_right _ hq), ?_⟩
          have e1 : p_sw pc d lo hi offs x ls st' h = p_jm pc offs.toList[(x.toInt - lo).toNat] ls st' h := by
            simp only [p_sw, c1, c2, or_self, if_false, hg]
          rw [e1]; exact g
    · cases hs
  · cases hs
theorem x_look_ok (hJ : x_J E f τ0 h0 τ h) (hO : x_O E τ r h0 h ls st (n, F, L, S, Me, u, w)) {e : q_E} {d : Int} {x : Int32} {S' : List x_V} {st' : List Value} (we : q_wl n e.1) (hx : x.toInt = q_e r e) (hS : x_vs τ r n S' st') : ∀ (ps : List (Int × Int)) (outs : List (Nat × x_S)), x_look e pc n F L S' Me u w d ps = some outs → x_Res E f τ0 h0 τ r n (p_jm pc (Op.lookupswitch.offset ps d x.toInt) ls st' h) outs := by
  intro ps
  induction ps with
  | nil =>
    intro outs hs
    exact x_jm_ok hJ hO hS hs
  | cons q ps ih =>
    intro outs hs
    simp only [x_look] at hs
    split at hs
    · next t o ht ho =>
      cases hs
      by_cases c1 : x.toInt = q.1
      · have e1 : Op.lookupswitch.offset (q :: ps) d x.toInt = q.2 := by
          obtain ⟨a, b⟩ := q
          simp only at c1
          simp [Op.lookupswitch.offset, c1]
        rw [e1]
        obtain ⟨F', g1, g2, g3⟩ := x_as2_ok (e := q_pl e (-q.1)) hO.1 hO.2.1 (q_pl_wl we) (by rw [q_pl_e]; omega)
        refine x_fct hJ hO g2 g3 hS (pc' := t) (by simp only [p_jm, ht]; rfl) (List.mem_append_left _ ?_)
        rw [g1]; exact List.mem_cons_self
      · have e1 : Op.lookupswitch.offset (q :: ps) d x.toInt = Op.lookupswitch.offset ps d x.toInt := by
          obtain ⟨a, b⟩ := q
          simp only at c1
          simp [Op.lookupswitch.offset, Ne.symm (show x.toInt ≠ a from c1)]
        rw [e1]
        obtain ⟨y, hy, g⟩ := ih o ho
        exact ⟨y, List.mem_append_right _ hy, g⟩
    · cases hs
end XB

/-! comparisons of longs, switches, returns -/
section SK8
variable {θ : Nat → Int32} {R : s_K} {KS : s_T} {hd d : Nat} {M : p_M} {pc : Nat} {ls : p_Ls} {st : List Value} {h : p_H} {i : Instr} {len : Nat} {nx : s_T} {J : s_J} {C : s_CC} {F : s_F} {H : s_H} {L S : s_L} {n : Nat}
theorem s_lcm_ok {a b : s_V} {v w : Value} {K : Int → s_F → Bool} (hF : s_FO θ F) (ha : s_v θ a v) (hb : s_v θ b w) (hg : s_lcm a b F K = true) : ∃ (x y : Int64) (z : Int) (F' : s_F), v = .long x ∧ w = .long y ∧ K z F' = true ∧ s_FO θ F' ∧ s_I z ∧ Int32.ofInt z = lg_cmp x y := by
  unfold s_lcm at hg
  rw [s_if_iff] at hg
  rcases hg with ⟨-, hg⟩ | ⟨-, hg⟩
  · obtain ⟨x, rfl, hg⟩ := s_lv_ok ha hg
    rw [s_if_iff] at hg
    rcases hg with ⟨-, hg⟩ | ⟨-, hg⟩
    · obtain ⟨y, rfl, hg⟩ := s_lv_ok hb hg
      rw [s_fz_eq] at hg
      exact ⟨_, _, _, F, rfl, rfl, hg, hF, x_I32 _, Int32.ofInt_toInt _⟩
    · rw [s_and_iff] at hg
      cases b with
      | inl z => cases hg.1
      | inr q =>
        obtain ⟨t, e⟩ := q
        have ht : t = 5 := Nat.eq_of_beq_eq_true hg.1
        subst ht
        have hb : w = .long (s_ev θ e).toInt64 := hb
        subst hb
        obtain ⟨F', k1, k2⟩ := s_lcs_ok (e := e) hF hg.2
        have e1 : (s_ev θ e).toInt64.toInt = (s_ev θ e).toInt := x_i2l _
        rcases k2 with ⟨c, k⟩ | ⟨c, k⟩ | ⟨c, k⟩
        · exact ⟨_, _, 1, F', rfl, rfl, k, k1, ⟨by decide, by decide⟩, by rw [s_cmp_eq, e1, if_pos c]; rfl⟩
        · exact ⟨_, _, 0, F', rfl, rfl, k, k1, ⟨by decide, by decide⟩, by rw [s_cmp_eq, e1, if_neg (by omega), if_pos c.symm]; rfl⟩
        · exact ⟨_, _, -1, F', rfl, rfl, k, k1, ⟨by decide, by decide⟩, by rw [s_cmp_eq, e1, if_neg (by omega), if_neg (by omega)]; rfl⟩
  · rw [s_and_iff] at hg
    cases a with
    | inl z => cases hg.1
    | inr q =>
      obtain ⟨t, e⟩ := q
      have ht : t = 5 := Nat.eq_of_beq_eq_true hg.1
      subst ht
      have ha : v = .long (s_ev θ e).toInt64 := ha
      subst ha
      obtain ⟨y, rfl, hg2⟩ := s_lv_ok hb hg.2
      obtain ⟨F', k1, k2⟩ := s_lcs_ok (e := e) hF hg2
      have e1 : (s_ev θ e).toInt64.toInt = (s_ev θ e).toInt := x_i2l _
      rcases k2 with ⟨c, k⟩ | ⟨c, k⟩ | ⟨c, k⟩
      · exact ⟨_, _, -1, F', rfl, rfl, k, k1, ⟨by decide, by decide⟩, by rw [s_cmp_eq, e1, if_neg (by omega), if_neg (by omega)]; rfl⟩
      · exact ⟨_, _, 0, F', rfl, rfl, k, k1, ⟨by decide, by decide⟩, by rw [s_cmp_eq, e1, if_neg (by omega), if_pos c]; rfl⟩
      · exact ⟨_, _, 1, F', rfl, rfl, k, k1, ⟨by decide, by decide⟩, by rw [s_cmp_eq, e1, if_pos c]; rfl⟩
theorem s_k_lcmp (hn : s_OK θ R KS hd d M nx (pc + 1)) (hat : p_at pc M.2.2.2.2.1 = some (.lcmp, len)) (hr : s_Rl θ F H L S ls st h) (hg : s_lcmp M pc nx J C R F H L S = true) : s_Out θ R KS hd d M pc ls st h := by
  obtain ⟨b, a, A, w, v, V, rfl, rfl, ⟨-, hb⟩, ⟨-, ha⟩, hA, hg⟩ := s_p2_ok hr.2.2.2 hg
  obtain ⟨x, y, z, F', rfl, rfl, k1, k2, k3, k4⟩ := s_lcm_ok hr.1 ha hb hg
  exact s_Out.step hat rfl (hn _ _ _ _ _ _ _ k1 ⟨k2, hr.2.1, hr.2.2.1, ⟨by show (1 : Nat) ≠ 0; decide, k3, by rw [k4]⟩, hA⟩)
theorem s_num_ok {a : s_V} {v : Value} {K : Int → s_F → Bool} {E : s_E → s_F → Bool} (hF : s_FO θ F) (ha : s_v θ a v) (hg : s_num a F K E = true) : ∃ (x : Int32) (F' : s_F), v = .int x ∧ s_FO θ F' ∧ (K x.toInt F' = true ∨ ∃ e, x = s_ev θ e ∧ E e F' = true) := by
  obtain ⟨b, F', h1, h2, h3, h4⟩ := s_cz_ok hF ha hg
  cases b with
  | inl z =>
    obtain ⟨hz, rfl⟩ := h3
    exact ⟨_, F', rfl, h2, Or.inl (by rw [s_I_eq hz]; exact h1)⟩
  | inr q =>
    have := s_v_1 (a := .inr q) h4 h3
    exact ⟨_, F', this, h2, Or.inr ⟨q.2, rfl, h1⟩⟩
theorem s_swc_ok {dd lo hi : Int} {offs : Array Int} {x : Int32} {K : Nat → Bool} {V : List Value} (hg : s_swc dd lo hi offs pc x.toInt K = true) : ∃ t, K t = true ∧ p_sw pc dd lo hi offs x ls V h = some (.inl (t, ls, V, h)) := by
  unfold s_swc at hg
  unfold p_sw
  split at hg
  · next c =>
    obtain ⟨t, ht, hg⟩ := s_tgt_ok hg
    exact ⟨t, hg, by rw [if_pos c]; simp only [p_jm, ht]; rfl⟩
  · next c =>
    rw [if_neg c]
    split at hg
    · next off ho =>
      obtain ⟨t, ht, hg⟩ := s_tgt_ok hg
      exact ⟨t, hg, by rw [ho]; simp only [p_jm, ht]; rfl⟩
    · cases hg
theorem s_k_tsw {dd lo hi : Int} {offs : Array Int} (hJ : ∀ t, s_OK θ R KS hd d M (J t) t) (hat : p_at pc M.2.2.2.2.1 = some (.tableswitch dd lo hi offs, len)) (hr : s_Rl θ F H L S ls st h) (hg : s_tsw dd lo hi offs M pc nx J C R F H L S = true) : s_Out θ R KS hd d M pc ls st h := by
  obtain ⟨a, A, v, V, rfl, rfl, ⟨-, ha⟩, hA, hg⟩ := s_p1_ok hr.2.2.2 hg
  obtain ⟨x, F', rfl, hF', hg | ⟨e, rfl, hg⟩⟩ := s_num_ok hr.1 ha hg
  · obtain ⟨t, k1, k2⟩ := s_swc_ok (ls := ls) (h := h) (V := V) hg
    exact s_Out.step hat k2 (hJ t _ _ _ _ _ _ _ k1 ⟨hF', hr.2.1, hr.2.2.1, hA⟩)
  · have hb := s_iv_ok (e := e) hF'
    have hg : (s_fork e F' [(true, (s_iv F' e).1, min (s_iv F' e).2 (lo - 1))] (fun _ F => s_tgt pc dd (s_jt J F H L A)) && (s_fork e F' [(true, max (s_iv F' e).1 (hi + 1), (s_iv F' e).2)] (fun _ F => s_tgt pc dd (s_jt J F H L A)) && (decide (hi - lo ≤ 200) && s_all lo (fun z => if (s_iv F' e).1 ≤ z ∧ z ≤ (s_iv F' e).2 then s_swc dd lo hi offs pc z (s_jt J ((e, z, z) :: F') H L A) else true) ((hi - lo + 1).toNat)))) = true := hg
    simp only [Bool.and_eq_true] at hg
    by_cases c1 : (s_ev θ e).toInt < lo
    · obtain ⟨F2, k1, k2⟩ := s_fork_ok hF' hg.1 List.mem_cons_self hb.1 (by simp only; omega)
      obtain ⟨t, ht, k1⟩ := s_tgt_ok k1
      refine s_Out.step hat (pc' := t) (ls' := ls) (st' := V) (h' := h) ?_ (hJ t _ _ _ _ _ _ _ k1 ⟨k2, hr.2.1, hr.2.2.1, hA⟩)
      simp only [p_step, p_sw]
      rw [if_pos (Or.inl c1)]; simp only [p_jm, ht]; rfl
    · by_cases c2 : hi < (s_ev θ e).toInt
      · obtain ⟨F2, k1, k2⟩ := s_fork_ok hF' hg.2.1 List.mem_cons_self (by simp only; omega) hb.2
        obtain ⟨t, ht, k1⟩ := s_tgt_ok k1
        refine s_Out.step hat (pc' := t) (ls' := ls) (st' := V) (h' := h) ?_ (hJ t _ _ _ _ _ _ _ k1 ⟨k2, hr.2.1, hr.2.2.1, hA⟩)
        simp only [p_step, p_sw]
        rw [if_pos (Or.inr c2)]; simp only [p_jm, ht]; rfl
      · have k := s_all_ok (z := (s_ev θ e).toInt) hg.2.2.2 (by omega) (by omega)
        rw [if_pos hb] at k
        obtain ⟨t, k1, k2⟩ := s_swc_ok (ls := ls) (h := h) (V := V) k
        refine s_Out.step hat k2 (hJ t _ _ _ _ _ _ _ k1 ⟨fun f hf => ?_, hr.2.1, hr.2.2.1, hA⟩)
        rcases List.mem_cons.mp hf with rfl | hf
        · exact ⟨Int.le_refl _, Int.le_refl _⟩
        · exact hF' f hf
theorem s_k_lsw {dd : Int} {ps : Array (Int × Int)} (hJ : ∀ t, s_OK θ R KS hd d M (J t) t) (hat : p_at pc M.2.2.2.2.1 = some (.lookupswitch dd ps, len)) (hr : s_Rl θ F H L S ls st h) (hg : s_lsw dd ps M pc nx J C R F H L S = true) : s_Out θ R KS hd d M pc ls st h := by
  unfold s_lsw at hg
  rw [s_and_iff] at hg
  obtain ⟨a, A, v, V, rfl, rfl, ⟨-, ha⟩, hA, hg2⟩ := s_p1_ok hr.2.2.2 hg.2
  obtain ⟨x, F', rfl, hF', hg2 | ⟨e, rfl, hg2⟩⟩ := s_num_ok hr.1 ha hg2
  · obtain ⟨t, ht, k1⟩ := s_tgt_ok hg2
    refine s_Out.step hat (pc' := t) (ls' := ls) (st' := V) (h' := h) ?_ (hJ t _ _ _ _ _ _ _ k1 ⟨hF', hr.2.1, hr.2.2.1, hA⟩)
    simp only [p_step]
    rw [if_pos hg.1]; simp only [p_jm, ht]; rfl
  · cases hg2
theorem s_Out.ret (hat : p_at pc M.2.2.2.2.1 = some (i, len)) {a : s_V} {v : Option Value} (hr : s_Rl θ F H L S ls st h) (hs : p_step p_GT p_MT M i pc ls st h = some (.inr (.inl v))) (ha : s_an θ a v) (hg : R F H a = true) : s_Out θ R KS hd d M pc ls st h :=
  Or.inl ⟨F, H, a, v, h, hg, hr.1, hr.2.1, ha, p_wp.ret hat hs ⟨rfl, rfl⟩⟩
theorem s_rv_ok {ty : Option FieldType} {a : s_V} {v : Value} (hF : s_FO θ F) (ha : s_v θ a v) (hg : s_rv ty F a = true) : p_ret ty (some v) = some (.inr (.inl (some v))) := by
  unfold s_rv at hg
  split at hg
  · obtain ⟨x, rfl⟩ := s_v_i hg ha
    simp [p_ret, narrow]
  · obtain ⟨x, rfl, e | e⟩ := s_bool_ok hF ha hg
    · subst e; rfl
    · subst e; rfl
  · obtain ⟨x, rfl⟩ := s_v_l hg ha; rfl
  · rcases s_v_r hg ha with rfl | ⟨x, rfl⟩ <;> rfl
  · rcases s_v_r hg ha with rfl | ⟨x, rfl⟩ <;> rfl
  · cases hg
theorem s_k_re {w : Nat → Bool} (hat : p_at pc M.2.2.2.2.1 = some (i, len)) (hr : s_Rl θ F H L S ls st h) (hs : ∀ a v, st = [v] → w (s_t a) = true → s_v θ a v → p_step p_GT p_MT M i pc ls st h = p_ret M.2.2.2.1 (some v)) (hg : s_re w M pc nx J C R F H L S = true) : s_Out θ R KS hd d M pc ls st h := by
  obtain ⟨a, A, v, V, rfl, rfl, ha, hA, hg⟩ := s_p1_ok hr.2.2.2 hg
  rw [s_re1, s_and_iff, s_and_iff, s_and_iff] at hg
  cases A with
  | cons b B => cases hg.1
  | nil =>
    have := s_sr_nil hA
    subst this
    exact s_Out.ret hat hr ((hs a v rfl hg.2.1 ha.2).trans (s_rv_ok hr.1 ha.2 hg.2.2.1)) ha hg.2.2.2
theorem s_k_r0 (hat : p_at pc M.2.2.2.2.1 = some (.return_, len)) (hr : s_Rl θ F H L S ls st h) (hg : s_r0 M pc nx J C R F H L S = true) : s_Out θ R KS hd d M pc ls st h := by
  unfold s_r0 at hg
  rw [s_and_iff] at hg
  cases S with
  | cons b B => cases hg.1
  | nil =>
    have := s_sr_nil hr.2.2.2
    subst this
    have hg2 := hg.2
    split at hg2
    · next e => exact s_Out.ret hat hr (by simp only [p_step, e]; rfl) (show s_an θ (.inr (8, .leaf 0)) none from rfl) hg2
    · cases hg2
end SK8

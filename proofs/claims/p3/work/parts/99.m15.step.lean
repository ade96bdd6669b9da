/-! A step that is no call and no return -/
section PN2
variable {p : Program} {l : Launch} {e : Env} {R : Room} {s : State} {m : MethodId} {args : Array Value} {below : List Frame} {meth : Method} {c : Code} {H : Heap} {locs : List Loc} {cells slots : Nat} {Q : State → Prop}
variable {G : p_G} {MT : List p_M} {M : p_M} {z : Nat × Nat × Nat} {D : va_G} {tys : List (ClassId × FieldType)} {h h1 : p_H} {pc pc1 : Nat} {rls : Array Slot} {ls ls1 : p_Ls} {st st1 : List Value}
set_option maxHeartbeats 4000000 in
set_option maxRecDepth 100000 in
theorem p_next (hTO : p_TO G MT) (hMO : p_MO MT M) (X : p_X M z D tys p s m args meth c) {i : Instr} {len : Nat} (hat : p_at pc M.2.2.2.2.1 = some (i, len)) (hs : p_step G MT M i pc ls st h = some (.inl (pc1, ls1, st1, h1))) (hR : p_R s z D tys h H) (hS : va_S (fun q => z.2.2 ≤ q) s.heap H locs) (hl : lv_has rls M.2.2.1 (ls.map (p_rq z))) (hfr : 1 ≤ R.frames) (hlo : 60 ≤ R.locals)
    (hc : cells + (h1.length - h.length) ≤ R.cells) (hsl : slots + (p_sl h1 - p_sl h) ≤ R.slots) (kk : p_Nx M z D tys p l e R s m args below meth c cells slots Q h pc1 ls1 st1 h1) : W p l e R s m args below meth c H locs cells slots Q (F0 m pc rls (st.map (p_rv z))) := by
  obtain ⟨hdg0, hln0⟩ := hMO.2.2.1 _ (p_at_mem hat)
  have hx := X.1
  have hb := X.2.1
  have hown := X.2.2.2.1
  have hts := X.2.2.2.2.1
  unfold p_step at hs
  split at hs
  · next v =>
    have hdg : decode M.2.1 pc = .ok (.iconst v, 1) := by
      have e1 : len = 1 := hln0.elim (fun q => by simp [p_ln] at q) (fun q => q)
      rw [← e1]; exact hdg0
    obtain ⟨rfl, rfl, rfl, rfl⟩ := p_go_eq hs
    have k0 := kk.same hR hS
    exact lv_iconst hx hb hdg rfl (k0 rls hl)
  · next v =>
    have hdg : decode M.2.1 pc = .ok (.bipush v, 2) := by
      have e1 : len = 2 := hln0.elim (fun q => by simp [p_ln] at q) (fun q => q)
      rw [← e1]; exact hdg0
    obtain ⟨rfl, rfl, rfl, rfl⟩ := p_go_eq hs
    have k0 := kk.same hR hS
    exact lv_bipush hx hb hdg rfl (k0 rls hl)
  · next v =>
    have hdg : decode M.2.1 pc = .ok (.sipush v, 3) := by
      have e1 : len = 3 := hln0.elim (fun q => by simp [p_ln] at q) (fun q => q)
      rw [← e1]; exact hdg0
    obtain ⟨rfl, rfl, rfl, rfl⟩ := p_go_eq hs
    have k0 := kk.same hR hS
    exact lv_sipush hx hb hdg rfl (k0 rls hl)
  · next k =>
    have hdg : decode M.2.1 pc = .ok (.lconst k, 1) := by
      have e1 : len = 1 := hln0.elim (fun q => by simp [p_ln] at q) (fun q => q)
      rw [← e1]; exact hdg0
    obtain ⟨rfl, rfl, rfl, rfl⟩ := p_go_eq hs
    have k0 := kk.same hR hS
    exact lv_lconst hx hb hdg rfl (k0 rls hl)
  ·
    have hdg : decode M.2.1 pc = .ok (.aconst_null, 1) := by
      have e1 : len = 1 := hln0.elim (fun q => by simp [p_ln] at q) (fun q => q)
      rw [← e1]; exact hdg0
    obtain ⟨rfl, rfl, rfl, rfl⟩ := p_go_eq hs
    have k0 := kk.same hR hS
    exact lv_null hx hb hdg (k0 rls hl)
  · next x =>
    have hdg : decode M.2.1 pc = .ok (.ldc x, 2) := by
      have e1 : len = 2 := hln0.elim (fun q => by simp [p_ln] at q) (fun q => q)
      rw [← e1]; exact hdg0
    simp only [p_cst] at hs
    split at hs
    · next u b hp =>
      obtain ⟨ho, hw⟩ := hMO.2.2.2.1 _ (p_pk_mem hp)
      rw [if_neg (by decide)] at hs
      obtain ⟨rfl, rfl, rfl, rfl⟩ := p_go_eq hs
      have k0 := kk.same hR hS
      exact lv_ldc hx hb hown (hts _ (hw _ (by simp [p_w1]))) hdg (k0 rls hl)
    · cases hs
  · next x =>
    have hdg : decode M.2.1 pc = .ok (.ldc_w x, 3) := by
      have e1 : len = 3 := hln0.elim (fun q => by simp [p_ln] at q) (fun q => q)
      rw [← e1]; exact hdg0
    simp only [p_cst] at hs
    split at hs
    · next u b hp =>
      obtain ⟨ho, hw⟩ := hMO.2.2.2.1 _ (p_pk_mem hp)
      rw [if_neg (by decide)] at hs
      obtain ⟨rfl, rfl, rfl, rfl⟩ := p_go_eq hs
      have k0 := kk.same hR hS
      exact lv_ldcw hx hb hown (hts _ (hw _ (by simp [p_w1]))) hdg (k0 rls hl)
    · cases hs
  · next x =>
    have hdg : decode M.2.1 pc = .ok (.ldc2_w x, 3) := by
      have e1 : len = 3 := hln0.elim (fun q => by simp [p_ln] at q) (fun q => q)
      rw [← e1]; exact hdg0
    simp only [p_cst] at hs
    split at hs
    · next u b hp =>
      obtain ⟨ho, hw⟩ := hMO.2.2.2.1 _ (p_pk_mem hp)
      rw [if_pos (by decide)] at hs
      obtain ⟨rfl, rfl, rfl, rfl⟩ := p_go_eq hs
      have k0 := kk.same hR hS
      exact lv_ldc2 hx hb hown (hts _ (hw _ (by simp [p_w1]))) hdg (k0 rls hl)
    · cases hs
  · next k =>
    have hdg : decode M.2.1 pc = .ok (.iload_n k, 1) := by
      have e1 : len = 1 := hln0.elim (fun q => by simp [p_ln] at q) (fun q => q)
      rw [← e1]; exact hdg0
    simp only [p_ld] at hs
    split at hs
    · next hv =>
      obtain ⟨rfl, rfl, rfl, rfl⟩ := p_go_eq hs
      have k0 := kk.same hR hS
      have hv := p_lk_at hl hv
      exact lv_iload_n hx hb hdg rfl hv (k0 rls hl)
    · next hq _ => exact absurd hq (by decide)
    · next hq _ => exact absurd hq (by decide)
    · next hq _ => exact absurd hq (by decide)
    · cases hs
  · next k =>
    have hdg : decode M.2.1 pc = .ok (.iload k, 2) := by
      have e1 : len = 2 := hln0.elim (fun q => by simp [p_ln] at q) (fun q => q)
      rw [← e1]; exact hdg0
    simp only [p_ld] at hs
    split at hs
    · next hv =>
      obtain ⟨rfl, rfl, rfl, rfl⟩ := p_go_eq hs
      have k0 := kk.same hR hS
      have hv := p_lk_at hl hv
      exact lv_iload hx hb hdg hv (k0 rls hl)
    · next hq _ => exact absurd hq (by decide)
    · next hq _ => exact absurd hq (by decide)
    · next hq _ => exact absurd hq (by decide)
    · cases hs
  · next k =>
    have hdg : decode M.2.1 pc = .ok (.lload_n k, 1) := by
      have e1 : len = 1 := hln0.elim (fun q => by simp [p_ln] at q) (fun q => q)
      rw [← e1]; exact hdg0
    simp only [p_ld] at hs
    split at hs
    · next hq _ => exact absurd hq (by decide)
    · next hv =>
      obtain ⟨rfl, rfl, rfl, rfl⟩ := p_go_eq hs
      have k0 := kk.same hR hS
      have hv := p_lk_at hl hv
      exact lv_lload_n hx hb hdg rfl hv (k0 rls hl)
    · next hq _ => exact absurd hq (by decide)
    · next hq _ => exact absurd hq (by decide)
    · cases hs
  · next k =>
    have hdg : decode M.2.1 pc = .ok (.lload k, 2) := by
      have e1 : len = 2 := hln0.elim (fun q => by simp [p_ln] at q) (fun q => q)
      rw [← e1]; exact hdg0
    simp only [p_ld] at hs
    split at hs
    · next hq _ => exact absurd hq (by decide)
    · next hv =>
      obtain ⟨rfl, rfl, rfl, rfl⟩ := p_go_eq hs
      have k0 := kk.same hR hS
      have hv := p_lk_at hl hv
      exact lv_lload hx hb hdg hv (k0 rls hl)
    · next hq _ => exact absurd hq (by decide)
    · next hq _ => exact absurd hq (by decide)
    · cases hs
  · next k =>
    have hdg : decode M.2.1 pc = .ok (.aload_n k, 1) := by
      have e1 : len = 1 := hln0.elim (fun q => by simp [p_ln] at q) (fun q => q)
      rw [← e1]; exact hdg0
    simp only [p_ld] at hs
    split at hs
    · next hq _ => exact absurd hq (by decide)
    · next hq _ => exact absurd hq (by decide)
    · next hv =>
      obtain ⟨rfl, rfl, rfl, rfl⟩ := p_go_eq hs
      have k0 := kk.same hR hS
      have hv := p_lk_at hl hv
      exact lv_aload_n hx hb hdg rfl hv (k0 rls hl)
    · next hv =>
      obtain ⟨rfl, rfl, rfl, rfl⟩ := p_go_eq hs
      have k0 := kk.same hR hS
      have hv := p_lk_at hl hv
      exact lv_aload_nN hx hb hdg rfl hv (k0 rls hl)
    · cases hs
  · next k =>
    have hdg : decode M.2.1 pc = .ok (.aload k, 2) := by
      have e1 : len = 2 := hln0.elim (fun q => by simp [p_ln] at q) (fun q => q)
      rw [← e1]; exact hdg0
    simp only [p_ld] at hs
    split at hs
    · next hq _ => exact absurd hq (by decide)
    · next hq _ => exact absurd hq (by decide)
    · next hv =>
      obtain ⟨rfl, rfl, rfl, rfl⟩ := p_go_eq hs
      have k0 := kk.same hR hS
      have hv := p_lk_at hl hv
      exact lv_aload hx hb hdg hv (k0 rls hl)
    · next hv =>
      obtain ⟨rfl, rfl, rfl, rfl⟩ := p_go_eq hs
      have k0 := kk.same hR hS
      have hv := p_lk_at hl hv
      exact lv_aloadN hx hb hdg hv (k0 rls hl)
    · cases hs
  · next k v st =>
    have hdg : decode M.2.1 pc = .ok (.istore_n k, 1) := by
      have e1 : len = 1 := hln0.elim (fun q => by simp [p_ln] at q) (fun q => q)
      rw [← e1]; exact hdg0
    simp only [p_sv] at hs
    split at hs
    · next hi =>
      obtain ⟨rfl, rfl, rfl, rfl⟩ := p_go_eq hs
      have k0 := kk.same hR hS
      exact lv_istore_n hx hb hdg rfl hl hi (p_s1_map z ls _ (.int v)).symm (fun rls1 hl1 => k0 rls1 hl1)
    · cases hs
  · next k v st =>
    have hdg : decode M.2.1 pc = .ok (.istore k, 2) := by
      have e1 : len = 2 := hln0.elim (fun q => by simp [p_ln] at q) (fun q => q)
      rw [← e1]; exact hdg0
    simp only [p_sv] at hs
    split at hs
    · next hi =>
      obtain ⟨rfl, rfl, rfl, rfl⟩ := p_go_eq hs
      have k0 := kk.same hR hS
      exact lv_istore hx hb hdg hl hi (p_s1_map z ls _ (.int v)).symm (fun rls1 hl1 => k0 rls1 hl1)
    · cases hs
  · next k v st =>
    have hdg : decode M.2.1 pc = .ok (.lstore_n k, 1) := by
      have e1 : len = 1 := hln0.elim (fun q => by simp [p_ln] at q) (fun q => q)
      rw [← e1]; exact hdg0
    simp only [p_sv] at hs
    split at hs
    · next hi =>
      obtain ⟨rfl, rfl, rfl, rfl⟩ := p_go_eq hs
      have k0 := kk.same hR hS
      exact lv_lstore_n hx hb hdg rfl hl hi (p_s2_map z ls _ (.long v)).symm (fun rls1 hl1 => k0 rls1 hl1)
    · cases hs
  · next k v st =>
    have hdg : decode M.2.1 pc = .ok (.lstore k, 2) := by
      have e1 : len = 2 := hln0.elim (fun q => by simp [p_ln] at q) (fun q => q)
      rw [← e1]; exact hdg0
    simp only [p_sv] at hs
    split at hs
    · next hi =>
      obtain ⟨rfl, rfl, rfl, rfl⟩ := p_go_eq hs
      have k0 := kk.same hR hS
      exact lv_lstore hx hb hdg hl hi (p_s2_map z ls _ (.long v)).symm (fun rls1 hl1 => k0 rls1 hl1)
    · cases hs
  · next k v st =>
    have hdg : decode M.2.1 pc = .ok (.astore_n k, 1) := by
      have e1 : len = 1 := hln0.elim (fun q => by simp [p_ln] at q) (fun q => q)
      rw [← e1]; exact hdg0
    simp only [p_sv] at hs
    split at hs
    · next hi =>
      obtain ⟨rfl, rfl, rfl, rfl⟩ := p_go_eq hs
      have k0 := kk.same hR hS
      exact lv_astore_n hx hb hdg rfl hl hi (p_s1_map z ls _ (.ref v)).symm (fun rls1 hl1 => k0 rls1 hl1)
    · cases hs
  · next k v st =>
    have hdg : decode M.2.1 pc = .ok (.astore k, 2) := by
      have e1 : len = 2 := hln0.elim (fun q => by simp [p_ln] at q) (fun q => q)
      rw [← e1]; exact hdg0
    simp only [p_sv] at hs
    split at hs
    · next hi =>
      obtain ⟨rfl, rfl, rfl, rfl⟩ := p_go_eq hs
      have k0 := kk.same hR hS
      exact lv_astore hx hb hdg hl hi (p_s1_map z ls _ (.ref v)).symm (fun rls1 hl1 => k0 rls1 hl1)
    · cases hs
  · next k st =>
    have hdg : decode M.2.1 pc = .ok (.astore_n k, 1) := by
      have e1 : len = 1 := hln0.elim (fun q => by simp [p_ln] at q) (fun q => q)
      rw [← e1]; exact hdg0
    simp only [p_sv] at hs
    split at hs
    · next hi =>
      obtain ⟨rfl, rfl, rfl, rfl⟩ := p_go_eq hs
      have k0 := kk.same hR hS
      exact lv_astore_nN hx hb hdg rfl hl hi (p_s1_map z ls _ (.null)).symm (fun rls1 hl1 => k0 rls1 hl1)
    · cases hs
  · next k st =>
    have hdg : decode M.2.1 pc = .ok (.astore k, 2) := by
      have e1 : len = 2 := hln0.elim (fun q => by simp [p_ln] at q) (fun q => q)
      rw [← e1]; exact hdg0
    simp only [p_sv] at hs
    split at hs
    · next hi =>
      obtain ⟨rfl, rfl, rfl, rfl⟩ := p_go_eq hs
      have k0 := kk.same hR hS
      exact lv_astoreN hx hb hdg hl hi (p_s1_map z ls _ (.null)).symm (fun rls1 hl1 => k0 rls1 hl1)
    · cases hs
  · next k d =>
    have hdg : decode M.2.1 pc = .ok (.iinc k d, 3) := by
      have e1 : len = 3 := hln0.elim (fun q => by simp [p_ln] at q) (fun q => q)
      rw [← e1]; exact hdg0
    split at hs
    · next v hv =>
      simp only [p_sv] at hs
      split at hs
      · next hi =>
        obtain ⟨rfl, rfl, rfl, rfl⟩ := p_go_eq hs
        have k0 := kk.same hR hS
        have hmem : (k, Value.int v) ∈ ls.map (p_rq z) := List.mem_map.mpr ⟨(k, .int v), p_lk_mem hv, rfl⟩
        obtain ⟨j, hj⟩ := List.getElem?_of_mem hmem
        exact lv_iinc hx hb hdg hl hj rfl hi (p_s1_map z ls _ (.int (v + Int32.ofInt d))).symm (fun rls1 hl1 => k0 rls1 hl1)
      · cases hs
    · cases hs
  · next y x st =>
    have hdg : decode M.2.1 pc = .ok (.iadd, 1) := by
      have e1 : len = 1 := hln0.elim (fun q => by simp [p_ln] at q) (fun q => q)
      rw [← e1]; exact hdg0
    obtain ⟨rfl, rfl, rfl, rfl⟩ := p_go_eq hs
    have k0 := kk.same hR hS
    exact lv_iadd hx hb hdg (k0 rls hl)
  · next y x st =>
    have hdg : decode M.2.1 pc = .ok (.isub, 1) := by
      have e1 : len = 1 := hln0.elim (fun q => by simp [p_ln] at q) (fun q => q)
      rw [← e1]; exact hdg0
    obtain ⟨rfl, rfl, rfl, rfl⟩ := p_go_eq hs
    have k0 := kk.same hR hS
    exact lv_isub hx hb hdg (k0 rls hl)
  · next y x st =>
    have hdg : decode M.2.1 pc = .ok (.imul, 1) := by
      have e1 : len = 1 := hln0.elim (fun q => by simp [p_ln] at q) (fun q => q)
      rw [← e1]; exact hdg0
    obtain ⟨rfl, rfl, rfl, rfl⟩ := p_go_eq hs
    have k0 := kk.same hR hS
    exact lv_imul hx hb hdg (k0 rls hl)
  · next y x st =>
    have hdg : decode M.2.1 pc = .ok (.iand, 1) := by
      have e1 : len = 1 := hln0.elim (fun q => by simp [p_ln] at q) (fun q => q)
      rw [← e1]; exact hdg0
    obtain ⟨rfl, rfl, rfl, rfl⟩ := p_go_eq hs
    have k0 := kk.same hR hS
    exact lv_iand hx hb hdg (k0 rls hl)
  · next y x st =>
    have hdg : decode M.2.1 pc = .ok (.ior, 1) := by
      have e1 : len = 1 := hln0.elim (fun q => by simp [p_ln] at q) (fun q => q)
      rw [← e1]; exact hdg0
    obtain ⟨rfl, rfl, rfl, rfl⟩ := p_go_eq hs
    have k0 := kk.same hR hS
    exact lv_ior hx hb hdg (k0 rls hl)
  · next y x st =>
    have hdg : decode M.2.1 pc = .ok (.ixor, 1) := by
      have e1 : len = 1 := hln0.elim (fun q => by simp [p_ln] at q) (fun q => q)
      rw [← e1]; exact hdg0
    obtain ⟨rfl, rfl, rfl, rfl⟩ := p_go_eq hs
    have k0 := kk.same hR hS
    exact lv_ixor hx hb hdg (k0 rls hl)
  · next y x st =>
    have hdg : decode M.2.1 pc = .ok (.ishl, 1) := by
      have e1 : len = 1 := hln0.elim (fun q => by simp [p_ln] at q) (fun q => q)
      rw [← e1]; exact hdg0
    obtain ⟨rfl, rfl, rfl, rfl⟩ := p_go_eq hs
    have k0 := kk.same hR hS
    exact lv_ishl hx hb hdg (k0 rls hl)
  · next y x st =>
    have hdg : decode M.2.1 pc = .ok (.ishr, 1) := by
      have e1 : len = 1 := hln0.elim (fun q => by simp [p_ln] at q) (fun q => q)
      rw [← e1]; exact hdg0
    obtain ⟨rfl, rfl, rfl, rfl⟩ := p_go_eq hs
    have k0 := kk.same hR hS
    exact lv_ishr hx hb hdg (k0 rls hl)
  · next y x st =>
    have hdg : decode M.2.1 pc = .ok (.iushr, 1) := by
      have e1 : len = 1 := hln0.elim (fun q => by simp [p_ln] at q) (fun q => q)
      rw [← e1]; exact hdg0
    obtain ⟨rfl, rfl, rfl, rfl⟩ := p_go_eq hs
    have k0 := kk.same hR hS
    exact lv_iushr hx hb hdg rfl (k0 rls hl)
  · next y x st =>
    have hdg : decode M.2.1 pc = .ok (.idiv, 1) := by
      have e1 : len = 1 := hln0.elim (fun q => by simp [p_ln] at q) (fun q => q)
      rw [← e1]; exact hdg0
    split at hs
    · cases hs
    · next hne =>
      obtain ⟨rfl, rfl, rfl, rfl⟩ := p_go_eq hs
      have k0 := kk.same hR hS
      exact lv_idiv hx hb hdg hne (k0 rls hl)
  · next y x st =>
    have hdg : decode M.2.1 pc = .ok (.irem, 1) := by
      have e1 : len = 1 := hln0.elim (fun q => by simp [p_ln] at q) (fun q => q)
      rw [← e1]; exact hdg0
    split at hs
    · cases hs
    · next hne =>
      obtain ⟨rfl, rfl, rfl, rfl⟩ := p_go_eq hs
      have k0 := kk.same hR hS
      exact lv_irem hx hb hdg hne (k0 rls hl)
  · next x st =>
    have hdg : decode M.2.1 pc = .ok (.ineg, 1) := by
      have e1 : len = 1 := hln0.elim (fun q => by simp [p_ln] at q) (fun q => q)
      rw [← e1]; exact hdg0
    obtain ⟨rfl, rfl, rfl, rfl⟩ := p_go_eq hs
    have k0 := kk.same hR hS
    exact lv_ineg hx hb hdg (k0 rls hl)
  · next y x st =>
    have hdg : decode M.2.1 pc = .ok (.ladd, 1) := by
      have e1 : len = 1 := hln0.elim (fun q => by simp [p_ln] at q) (fun q => q)
      rw [← e1]; exact hdg0
    obtain ⟨rfl, rfl, rfl, rfl⟩ := p_go_eq hs
    have k0 := kk.same hR hS
    exact lv_ladd hx hb hdg (k0 rls hl)
  · next y x st =>
    have hdg : decode M.2.1 pc = .ok (.lsub, 1) := by
      have e1 : len = 1 := hln0.elim (fun q => by simp [p_ln] at q) (fun q => q)
      rw [← e1]; exact hdg0
    obtain ⟨rfl, rfl, rfl, rfl⟩ := p_go_eq hs
    have k0 := kk.same hR hS
    exact lv_lsub hx hb hdg (k0 rls hl)
  · next y x st =>
    have hdg : decode M.2.1 pc = .ok (.lmul, 1) := by
      have e1 : len = 1 := hln0.elim (fun q => by simp [p_ln] at q) (fun q => q)
      rw [← e1]; exact hdg0
    obtain ⟨rfl, rfl, rfl, rfl⟩ := p_go_eq hs
    have k0 := kk.same hR hS
    exact lv_lmul hx hb hdg (k0 rls hl)
  · next y x st =>
    have hdg : decode M.2.1 pc = .ok (.lor, 1) := by
      have e1 : len = 1 := hln0.elim (fun q => by simp [p_ln] at q) (fun q => q)
      rw [← e1]; exact hdg0
    obtain ⟨rfl, rfl, rfl, rfl⟩ := p_go_eq hs
    have k0 := kk.same hR hS
    exact lv_lor hx hb hdg (k0 rls hl)
  · next y x st =>
    have hdg : decode M.2.1 pc = .ok (.ldiv, 1) := by
      have e1 : len = 1 := hln0.elim (fun q => by simp [p_ln] at q) (fun q => q)
      rw [← e1]; exact hdg0
    split at hs
    · cases hs
    · next hne =>
      obtain ⟨rfl, rfl, rfl, rfl⟩ := p_go_eq hs
      have k0 := kk.same hR hS
      exact lv_ldiv hx hb hdg hne (k0 rls hl)
  · next y x st =>
    have hdg : decode M.2.1 pc = .ok (.lrem, 1) := by
      have e1 : len = 1 := hln0.elim (fun q => by simp [p_ln] at q) (fun q => q)
      rw [← e1]; exact hdg0
    split at hs
    · cases hs
    · next hne =>
      obtain ⟨rfl, rfl, rfl, rfl⟩ := p_go_eq hs
      have k0 := kk.same hR hS
      exact lv_lrem hx hb hdg hne (k0 rls hl)
  · next x st =>
    have hdg : decode M.2.1 pc = .ok (.lneg, 1) := by
      have e1 : len = 1 := hln0.elim (fun q => by simp [p_ln] at q) (fun q => q)
      rw [← e1]; exact hdg0
    obtain ⟨rfl, rfl, rfl, rfl⟩ := p_go_eq hs
    have k0 := kk.same hR hS
    exact lv_lneg hx hb hdg (k0 rls hl)
  · next y x st =>
    have hdg : decode M.2.1 pc = .ok (.lshl, 1) := by
      have e1 : len = 1 := hln0.elim (fun q => by simp [p_ln] at q) (fun q => q)
      rw [← e1]; exact hdg0
    obtain ⟨rfl, rfl, rfl, rfl⟩ := p_go_eq hs
    have k0 := kk.same hR hS
    exact lv_lshl hx hb hdg rfl (k0 rls hl)
  · next y x st =>
    have hdg : decode M.2.1 pc = .ok (.lshr, 1) := by
      have e1 : len = 1 := hln0.elim (fun q => by simp [p_ln] at q) (fun q => q)
      rw [← e1]; exact hdg0
    obtain ⟨rfl, rfl, rfl, rfl⟩ := p_go_eq hs
    have k0 := kk.same hR hS
    exact lv_lshr hx hb hdg rfl (k0 rls hl)
  · next y x st =>
    have hdg : decode M.2.1 pc = .ok (.lcmp, 1) := by
      have e1 : len = 1 := hln0.elim (fun q => by simp [p_ln] at q) (fun q => q)
      rw [← e1]; exact hdg0
    obtain ⟨rfl, rfl, rfl, rfl⟩ := p_go_eq hs
    have k0 := kk.same hR hS
    exact W.lcmp hx hb hdg (k0 rls hl)
  · next x st =>
    have hdg : decode M.2.1 pc = .ok (.i2l, 1) := by
      have e1 : len = 1 := hln0.elim (fun q => by simp [p_ln] at q) (fun q => q)
      rw [← e1]; exact hdg0
    obtain ⟨rfl, rfl, rfl, rfl⟩ := p_go_eq hs
    have k0 := kk.same hR hS
    exact lv_i2l hx hb hdg rfl (k0 rls hl)
  · next x st =>
    have hdg : decode M.2.1 pc = .ok (.l2i, 1) := by
      have e1 : len = 1 := hln0.elim (fun q => by simp [p_ln] at q) (fun q => q)
      rw [← e1]; exact hdg0
    obtain ⟨rfl, rfl, rfl, rfl⟩ := p_go_eq hs
    have k0 := kk.same hR hS
    exact lv_l2i hx hb hdg rfl (k0 rls hl)
  · next x st =>
    have hdg : decode M.2.1 pc = .ok (.i2b, 1) := by
      have e1 : len = 1 := hln0.elim (fun q => by simp [p_ln] at q) (fun q => q)
      rw [← e1]; exact hdg0
    obtain ⟨rfl, rfl, rfl, rfl⟩ := p_go_eq hs
    have k0 := kk.same hR hS
    exact lv_i2b hx hb hdg rfl (k0 rls hl)
  · next v st =>
    have hdg : decode M.2.1 pc = .ok (.dup, 1) := by
      have e1 : len = 1 := hln0.elim (fun q => by simp [p_ln] at q) (fun q => q)
      rw [← e1]; exact hdg0
    split at hs
    · next hcat =>
      obtain ⟨rfl, rfl, rfl, rfl⟩ := p_go_eq hs
      have k0 := kk.same hR hS
      exact lv_dup hx hb hdg (by rw [p_rv_cat]; exact hcat) (k0 rls hl)
    · cases hs
  · next v st =>
    have hdg : decode M.2.1 pc = .ok (.pop, 1) := by
      have e1 : len = 1 := hln0.elim (fun q => by simp [p_ln] at q) (fun q => q)
      rw [← e1]; exact hdg0
    split at hs
    · next hcat =>
      obtain ⟨rfl, rfl, rfl, rfl⟩ := p_go_eq hs
      have k0 := kk.same hR hS
      exact lv_pop hx hb hdg (by rw [p_rv_cat]; exact hcat) (k0 rls hl)
    · cases hs
  · next v w st =>
    have hdg : decode M.2.1 pc = .ok (.dup2, 1) := by
      have e1 : len = 1 := hln0.elim (fun q => by simp [p_ln] at q) (fun q => q)
      rw [← e1]; exact hdg0
    split at hs
    · next hcat =>
      obtain ⟨rfl, rfl, rfl, rfl⟩ := p_go_eq hs
      have k0 := kk.same hR hS
      exact lv_dup2_11 hx hb hdg (by rw [p_rv_cat]; exact hcat.1) (by rw [p_rv_cat]; exact hcat.2) (k0 rls hl)
    · cases hs
  · next x st =>
    have hdg : decode M.2.1 pc = .ok (.pop2, 1) := by
      have e1 : len = 1 := hln0.elim (fun q => by simp [p_ln] at q) (fun q => q)
      rw [← e1]; exact hdg0
    obtain ⟨rfl, rfl, rfl, rfl⟩ := p_go_eq hs
    have k0 := kk.same hR hS
    exact lv_pop2_2 hx hb hdg rfl (k0 rls hl)
  · next cd off x st =>
    have e1 : len = 3 := hln0.elim (fun q => by simp [p_ln] at q) (fun q => q)
    subst e1
    simp only [p_br] at hs
    split at hs
    · next tg htg =>
      have htg := p_tg_eq htg
      split at hs
      · next hcd =>
        obtain ⟨rfl, rfl, rfl, rfl⟩ := p_go_eq hs
        have k0 := kk.same hR hS
        cases cd <;> simp only [p_cd, decide_eq_true_eq] at hcd
        · exact lv_if_eq hx hb hdg0 htg (fun _ => k0 rls hl) (fun q => absurd hcd q)
        · exact lv_if_ne hx hb hdg0 htg (fun _ => k0 rls hl) (fun q => absurd q hcd)
        · exact lv_if_lt hx hb hdg0 htg (fun _ => k0 rls hl) (fun q => absurd hcd q)
        · exact lv_if_ge hx hb hdg0 htg (fun _ => k0 rls hl) (fun q => absurd hcd q)
        · exact lv_if_gt hx hb hdg0 htg (fun _ => k0 rls hl) (fun q => absurd hcd q)
        · exact lv_if_le hx hb hdg0 htg (fun _ => k0 rls hl) (fun q => absurd hcd q)
      · next hcd =>
        obtain ⟨rfl, rfl, rfl, rfl⟩ := p_go_eq hs
        have k0 := kk.same hR hS
        cases cd <;> simp only [p_cd, decide_eq_true_eq, Decidable.not_not] at hcd
        · exact lv_if_eq hx hb hdg0 htg (fun q => absurd q hcd) (fun _ => k0 rls hl)
        · exact lv_if_ne hx hb hdg0 htg (fun q => absurd hcd q) (fun _ => k0 rls hl)
        · exact lv_if_lt hx hb hdg0 htg (fun q => absurd q hcd) (fun _ => k0 rls hl)
        · exact lv_if_ge hx hb hdg0 htg (fun q => absurd q hcd) (fun _ => k0 rls hl)
        · exact lv_if_gt hx hb hdg0 htg (fun q => absurd q hcd) (fun _ => k0 rls hl)
        · exact lv_if_le hx hb hdg0 htg (fun q => absurd q hcd) (fun _ => k0 rls hl)
    · cases hs
  · next cd off y x st =>
    have e1 : len = 3 := hln0.elim (fun q => by simp [p_ln] at q) (fun q => q)
    subst e1
    simp only [p_br] at hs
    split at hs
    · next tg htg =>
      have htg := p_tg_eq htg
      split at hs
      · next hcd =>
        obtain ⟨rfl, rfl, rfl, rfl⟩ := p_go_eq hs
        have k0 := kk.same hR hS
        cases cd <;> simp only [p_cd, decide_eq_true_eq] at hcd
        · exact lv_icmp_eq hx hb hdg0 htg (fun _ => k0 rls hl) (fun q => absurd hcd q)
        · exact lv_icmp_ne hx hb hdg0 htg (fun _ => k0 rls hl) (fun q => absurd q hcd)
        · exact lv_icmp_lt hx hb hdg0 htg (fun _ => k0 rls hl) (fun q => absurd hcd q)
        · exact lv_icmp_ge hx hb hdg0 htg (fun _ => k0 rls hl) (fun q => absurd hcd q)
        · exact lv_icmp_gt hx hb hdg0 htg (fun _ => k0 rls hl) (fun q => absurd hcd q)
        · exact lv_icmp_le hx hb hdg0 htg (fun _ => k0 rls hl) (fun q => absurd hcd q)
      · next hcd =>
        obtain ⟨rfl, rfl, rfl, rfl⟩ := p_go_eq hs
        have k0 := kk.same hR hS
        cases cd <;> simp only [p_cd, decide_eq_true_eq, Decidable.not_not] at hcd
        · exact lv_icmp_eq hx hb hdg0 htg (fun q => absurd q hcd) (fun _ => k0 rls hl)
        · exact lv_icmp_ne hx hb hdg0 htg (fun q => absurd hcd q) (fun _ => k0 rls hl)
        · exact lv_icmp_lt hx hb hdg0 htg (fun q => absurd q hcd) (fun _ => k0 rls hl)
        · exact lv_icmp_ge hx hb hdg0 htg (fun q => absurd q hcd) (fun _ => k0 rls hl)
        · exact lv_icmp_gt hx hb hdg0 htg (fun q => absurd q hcd) (fun _ => k0 rls hl)
        · exact lv_icmp_le hx hb hdg0 htg (fun q => absurd q hcd) (fun _ => k0 rls hl)
    · cases hs
  · next off st =>
    have hdg : decode M.2.1 pc = .ok (.ifnull off, 3) := by
      have e1 : len = 3 := hln0.elim (fun q => by simp [p_ln] at q) (fun q => q)
      rw [← e1]; exact hdg0
    obtain ⟨htg, rfl, rfl, rfl⟩ := p_jm_eq hs
    have k0 := kk.same hR hS
    exact lv_ifnullN hx hb hdg htg (k0 rls hl)
  · next off a st =>
    have hdg : decode M.2.1 pc = .ok (.ifnull off, 3) := by
      have e1 : len = 3 := hln0.elim (fun q => by simp [p_ln] at q) (fun q => q)
      rw [← e1]; exact hdg0
    obtain ⟨rfl, rfl, rfl, rfl⟩ := p_go_eq hs
    have k0 := kk.same hR hS
    exact lv_ifnull hx hb hdg (k0 rls hl)
  · next off a st =>
    have hdg : decode M.2.1 pc = .ok (.ifnonnull off, 3) := by
      have e1 : len = 3 := hln0.elim (fun q => by simp [p_ln] at q) (fun q => q)
      rw [← e1]; exact hdg0
    obtain ⟨htg, rfl, rfl, rfl⟩ := p_jm_eq hs
    have k0 := kk.same hR hS
    exact lv_ifnonnull hx hb hdg htg (k0 rls hl)
  · next off st =>
    have hdg : decode M.2.1 pc = .ok (.ifnonnull off, 3) := by
      have e1 : len = 3 := hln0.elim (fun q => by simp [p_ln] at q) (fun q => q)
      rw [← e1]; exact hdg0
    obtain ⟨rfl, rfl, rfl, rfl⟩ := p_go_eq hs
    have k0 := kk.same hR hS
    exact lv_ifnonnullN hx hb hdg (k0 rls hl)
  · next off =>
    have hdg : decode M.2.1 pc = .ok (.goto off, 3) := by
      have e1 : len = 3 := hln0.elim (fun q => by simp [p_ln] at q) (fun q => q)
      rw [← e1]; exact hdg0
    obtain ⟨htg, rfl, rfl, rfl⟩ := p_jm_eq hs
    have k0 := kk.same hR hS
    exact lv_goto hx hb hdg htg (k0 rls hl)
  · next dflt lo hi offs x st =>
    simp only [p_sw] at hs
    split at hs
    · next hout =>
      obtain ⟨htg, rfl, rfl, rfl⟩ := p_jm_eq hs
      exact lv_tableOut hx hb hdg0 hout htg (kk.same hR hS rls hl)
    · next hin =>
      split at hs
      · next off hoff =>
        obtain ⟨htg, rfl, rfl, rfl⟩ := p_jm_eq hs
        exact lv_tableIn hx hb hdg0 (fun q => hin (Or.inl q)) (fun q => hin (Or.inr q)) hoff htg (kk.same hR hS rls hl)
      · cases hs
  · next dflt ps x st =>
    split at hs
    · next hp =>
      obtain ⟨htg, rfl, rfl, rfl⟩ := p_jm_eq hs
      exact lv_lookup hx hb hdg0 hp rfl htg (kk.same hR hS rls hl)
    · cases hs
  · next i a st =>
    have hdg : decode M.2.1 pc = .ok (.iaload, 1) := by
      have e1 : len = 1 := hln0.elim (fun q => by simp [p_ln] at q) (fun q => q)
      rw [← e1]; exact hdg0
    obtain ⟨rfl, rfl, rfl, t, v, ht, rfl, hcell⟩ := p_al_ok X hR hs
    have k0 := kk.same hR hS
    obtain rfl : t = 0 := ht.elim id id
    obtain ⟨cell, g1, g2, g3, g4, g5⟩ := hcell _ rfl
    exact W.iald hx hb g1 g2 g3 g4 g5 rfl rfl hdg (k0 rls hl)
  · next i a st =>
    have hdg : decode M.2.1 pc = .ok (.laload, 1) := by
      have e1 : len = 1 := hln0.elim (fun q => by simp [p_ln] at q) (fun q => q)
      rw [← e1]; exact hdg0
    obtain ⟨rfl, rfl, rfl, t, v, ht, rfl, hcell⟩ := p_al_ok X hR hs
    have k0 := kk.same hR hS
    obtain rfl : t = 2 := ht.elim id id
    obtain ⟨cell, g1, g2, g3, g4, g5⟩ := hcell _ rfl
    exact W.lald hx hb g1 g2 g3 g4 g5 rfl rfl hdg (k0 rls hl)
  · next i a st =>
    have hdg : decode M.2.1 pc = .ok (.baload, 1) := by
      have e1 : len = 1 := hln0.elim (fun q => by simp [p_ln] at q) (fun q => q)
      rw [← e1]; exact hdg0
    obtain ⟨rfl, rfl, rfl, t, v, ht, rfl, hcell⟩ := p_al_ok X hR hs
    have k0 := kk.same hR hS
    rcases ht with rfl | rfl
    · obtain ⟨cell, g1, g2, g3, g4, g5⟩ := hcell _ rfl
      exact W.bald hx hb g1 g2 g3 g4 g5 rfl rfl hdg (k0 rls hl)
    · obtain ⟨cell, g1, g2, g3, g4, g5⟩ := hcell _ rfl
      exact W.zald hx hb g1 g2 g3 g4 g5 rfl rfl hdg (k0 rls hl)
  · next i a st =>
    have hdg : decode M.2.1 pc = .ok (.aaload, 1) := by
      have e1 : len = 1 := hln0.elim (fun q => by simp [p_ln] at q) (fun q => q)
      rw [← e1]; exact hdg0
    obtain ⟨rfl, rfl, rfl, t, v, ht, rfl, hcell⟩ := p_al_ok X hR hs
    have k0 := kk.same hR hS
    obtain rfl : t = 4 := ht.elim id id
    obtain ⟨cell, g1, g2, g3, g4, g5⟩ := hcell _ rfl
    exact W.aald hx hb g1 g2 rfl g3 g4 g5 rfl rfl hdg (k0 rls hl)
  · next x i a st =>
    have hdg : decode M.2.1 pc = .ok (.iastore, 1) := by
      have e1 : len = 1 := hln0.elim (fun q => by simp [p_ln] at q) (fun q => q)
      rw [← e1]; exact hdg0
    obtain ⟨cA, n, f, e0, t0, n1, n2, k1⟩ := p_as_ok X hR hS hl hs kk rfl
    exact W.iast hx hb e0 ((X.2.2.2.2.2.2.1.2 _ _ t0).1 n f) (fun q => by cases q) (by rw [arrV_size]; exact fun q => q.elim n1 (fun q => by omega)) rfl rfl hdg k1
  · next x i a st =>
    have hdg : decode M.2.1 pc = .ok (.lastore, 1) := by
      have e1 : len = 1 := hln0.elim (fun q => by simp [p_ln] at q) (fun q => q)
      rw [← e1]; exact hdg0
    obtain ⟨cA, n, f, e0, t0, n1, n2, k1⟩ := p_as_ok X hR hS hl hs kk rfl
    exact W.last hx hb e0 ((X.2.2.2.2.2.2.1.2 _ _ t0).1 n f) (fun q => by cases q) (by rw [arrV_size]; exact fun q => q.elim n1 (fun q => by omega)) rfl rfl hdg k1
  · next x i a st =>
    have hdg : decode M.2.1 pc = .ok (.bastore, 1) := by
      have e1 : len = 1 := hln0.elim (fun q => by simp [p_ln] at q) (fun q => q)
      rw [← e1]; exact hdg0
    split at hs
    · next o ho =>
      cases hs
      obtain ⟨cA, n, f, e0, t0, n1, n2, k1⟩ := p_as_ok X hR hS hl ho kk rfl
      exact W.bast hx hb e0 ((X.2.2.2.2.2.2.1.2 _ _ t0).1 n f) (fun q => by cases q) (by rw [arrV_size]; exact fun q => q.elim n1 (fun q => by omega)) rfl rfl hdg k1
    · obtain ⟨cA, n, f, e0, t0, n1, n2, k1⟩ := p_as_ok X hR hS hl hs kk rfl
      exact W.zast hx hb e0 ((X.2.2.2.2.2.2.1.2 _ _ t0).1 n f) (fun q => by cases q) (by rw [arrV_size]; exact fun q => q.elim n1 (fun q => by omega)) rfl rfl hdg k1
  · next i a st =>
    have hdg : decode M.2.1 pc = .ok (.aastore, 1) := by
      have e1 : len = 1 := hln0.elim (fun q => by simp [p_ln] at q) (fun q => q)
      rw [← e1]; exact hdg0
    obtain ⟨cA, n, f, e0, t0, n1, n2, k1⟩ := p_as_ok X hR hS hl hs kk rfl
    exact va_WaastN (C := "CutInMay$Text") hx hb e0 ((X.2.2.2.2.2.2.1.2 _ _ t0).1 n f) (fun q => by cases q) (by rw [arrV_size]; exact fun q => q.elim n1 (fun q => by omega)) rfl rfl hdg k1
  · next v i a st =>
    have hdg : decode M.2.1 pc = .ok (.aastore, 1) := by
      have e1 : len = 1 := hln0.elim (fun q => by simp [p_ln] at q) (fun q => q)
      rw [← e1]; exact hdg0
    split at hs
    · next vs hv =>
      obtain ⟨cA, n, f, e0, t0, n1, n2, k1⟩ := p_as_ok X hR hS hl hs kk rfl
      obtain ⟨hb0, r, hr, hlen, cellV, g1, g2, g3, -⟩ := hR.obj hv
      have hcls := (X.2.2.2.2.2.2.1.1 7 r hr).2
      obtain ⟨kA, comp, c1, c2, c3, -⟩ := (X.2.2.2.2.2.2.1.2 _ _ t0).2
      have hrn : r.1 = "CutInMay$Text" := by
        have : (vwCl[7]?).map (fun q => q.1) = some "CutInMay$Text" := by decide +kernel
        rw [hr] at this
        exact Option.some.inj this
      rw [hrn] at hcls
      have hcomp : comp = D.1 7 := Option.some.inj (c3.symm.trans hcls.1)
      subst hcomp
      obtain ⟨kC, hkC, -⟩ := hcls.2
      exact W.aast hx hb e0 (fun q h => by cases h) (fun h => by cases h) c1 c2 rfl hkC ⟨n1, by rw [arrV_size]; exact n2⟩ g1 (fun q h => by rw [g3] at h; cases h) (by rw [g2]; exact hkC) (by rw [g2]; exact va_assign hcls) rfl rfl hdg k1
    · cases hs
  · next a st =>
    have hdg : decode M.2.1 pc = .ok (.arraylength, 1) := by
      have e1 : len = 1 := hln0.elim (fun q => by simp [p_ln] at q) (fun q => q)
      rw [← e1]; exact hdg0
    split at hs
    · next sort t vs ha =>
      split at hs
      · next hsort =>
        obtain ⟨rfl, rfl, rfl, rfl⟩ := p_go_eq hs
        have k0 := kk.same hR hS
        rw [Bool.or_eq_true] at hsort
        rcases hR.2.2.2.2 a _ ha with ⟨e0, -⟩ | ⟨e0, hb0, q, t0, g1⟩ | ⟨e0, hb0, ty, cell, t0, g1, g2, g3, g4, g5⟩
        · exact absurd e0 (fun q => by have q : sort = 0 := q; subst q; simp at hsort)
        · exact W.alen hx hb g1 ((X.2.2.2.2.2.2.1.2 _ _ t0).1 _ _) (p_i32_len (arrV_size _ _ _)) rfl rfl hdg (k0 rls hl)
        · exact W.alen hx hb g1 g2 g5.1 rfl rfl hdg (k0 rls hl)
      · cases hs
    · cases hs
  · next ty n st =>
    have hdg : decode M.2.1 pc = .ok (.newarray ty, 2) := by
      have e1 : len = 2 := hln0.elim (fun q => by simp [p_ln] at q) (fun q => q)
      rw [← e1]; exact hdg0
    split at hs
    · next t ht =>
      simp only [p_newa] at hs
      split at hs
      · next hn =>
        obtain ⟨rfl, rfl, rfl, rfl⟩ := p_go_eq hs
        have hc : cells + 1 ≤ R.cells := by simpa using hc
        have hsl : slots + n.toNatClampNeg ≤ R.slots := by rw [p_sl_app] at hsl; simpa using hsl
        exact p_newa_ok X hR hS ht hn.1 hn.2 hc hsl hdg (kk.new (by simp) hl)
      · cases hs
    · cases hs
  · next x n st =>
    have hdg : decode M.2.1 pc = .ok (.anewarray x, 3) := by
      have e1 : len = 3 := hln0.elim (fun q => by simp [p_ln] at q) (fun q => q)
      rw [← e1]; exact hdg0
    split at hs
    · next u hp =>
      simp only [p_newa] at hs
      split at hs
      · next hn =>
        obtain ⟨rfl, rfl, rfl, rfl⟩ := p_go_eq hs
        have hc : cells + 1 ≤ R.cells := by simpa using hc
        have hsl : slots + n.toNatClampNeg ≤ R.slots := by rw [p_sl_app] at hsl; simpa using hsl
        exact p_newt_ok hMO X hR hS hp hn.1 hn.2 hc hsl hdg (kk.new (by simp) hl)
      · cases hs
    · cases hs
  · next x =>
    have hdg : decode M.2.1 pc = .ok (.new x, 3) := by
      have e1 : len = 3 := hln0.elim (fun q => by simp [p_ln] at q) (fun q => q)
      rw [← e1]; exact hdg0
    simp only [p_new] at hs
    split at hs
    · next ci b hp =>
      split at hs
      · next row hrow =>
        obtain ⟨rfl, rfl, rfl, rfl⟩ := p_go_eq hs
        have hc : cells + 1 ≤ R.cells := by simpa using hc
        have hsl : slots + row.length ≤ R.slots := by rw [p_sl_app] at hsl; simpa using hsl
        exact p_new_ok hTO hMO X hR hS hp hrow hc hsl hdg (kk.new (by simp) hl)
      · cases hs
    · cases hs
  · next x a st =>
    have hdg : decode M.2.1 pc = .ok (.getfield x, 3) := by
      have e1 : len = 3 := hln0.elim (fun q => by simp [p_ln] at q) (fun q => q)
      rw [← e1]; exact hdg0
    simp only [p_getf] at hs
    split at hs
    · next ci k ci' vs hp ha =>
      split at hs
      · next hci =>
        obtain rfl : ci = ci' := Nat.eq_of_beq_eq_true hci
        split at hs
        · next v hv =>
          obtain ⟨rfl, rfl, rfl, rfl⟩ := p_go_eq hs
          exact p_get_ok hTO hMO X hR hp ha hv hdg (kk.same hR hS rls hl)
        · cases hs
      · cases hs
    · cases hs
  · next x v a st =>
    have hdg : decode M.2.1 pc = .ok (.putfield x, 3) := by
      have e1 : len = 3 := hln0.elim (fun q => by simp [p_ln] at q) (fun q => q)
      rw [← e1]; exact hdg0
    simp only [p_putf] at hs
    split at hs
    · next ci k ci' vs hp ha =>
      split at hs
      · next hci =>
        obtain rfl : ci = ci' := Nat.eq_of_beq_eq_true hci
        split at hs
        · next ty fin hg =>
          split at hs
          · next hcond =>
            obtain ⟨rfl, rfl, rfl, rfl⟩ := p_go_eq hs
            rw [Bool.and_eq_true, Bool.and_eq_true, Bool.or_eq_true, Bool.and_eq_true] at hcond
            exact p_put_ok hTO hMO X hR hS hp ha hg hcond.1.1 (fun q => hcond.1.2.elim (fun w => by rw [q] at w; cases w) (fun w => ⟨w.1, Nat.eq_of_beq_eq_true w.2⟩)) (Nat.le_of_ble_eq_true hcond.2) hdg (kk.put ha (by simp) hl)
          · cases hs
        · cases hs
      · cases hs
    · cases hs
  · next x =>
    have hdg : decode M.2.1 pc = .ok (.getstatic x, 3) := by
      have e1 : len = 3 := hln0.elim (fun q => by simp [p_ln] at q) (fun q => q)
      rw [← e1]; exact hdg0
    split at hs
    · next u hp =>
      obtain ⟨rfl, rfl, rfl, rfl⟩ := p_go_eq hs
      obtain ⟨ho, hw⟩ := hMO.2.2.2.1 _ (p_pk_mem hp)
      exact va_gets hx hb X.2.2.2.2.2.2.2.2.2.1 hS hown (hts _ (hw _ (by simp [p_w1]))) (fun _ h9 => h9) hdg (kk.same hR hS rls hl)
    · cases hs
  · next x =>
    have hdg : decode M.2.1 pc = .ok (.invokestatic x, 3) := by
      have e1 : len = 3 := hln0.elim (fun q => by simp [p_ln] at q) (fun q => q)
      rw [← e1]; exact hdg0
    simp only [p_invs] at hs
    split at hs
    · next u n dp d sp s0 st' hp =>
      simp only [p_copy] at hs
      split at hs
      · next vs ws h0 h1 =>
        split at hs
        · next hcond =>
          obtain ⟨rfl, rfl, rfl, rfl⟩ := p_go_eq hs
          obtain ⟨c1, c2, c3, c4, c5, c6, c7⟩ := hcond
          refine p_copy_ok hMO X hR hS hl.1 hp h0 h1 c1 c2 c3 c4 c5 c6 ?_ hfr hlo hdg (kk.put h1 ?_ hl)
          · rw [List.map_map]
            have : ((fun v => v.category) ∘ p_rv z) = fun v : Value => v.category := by funext v; exact p_rv_cat z v
            rw [this]; exact c7
          · simp only [p_cpy, List.length_append, List.length_take, List.length_drop]; omega
        · cases hs
      · cases hs
    · cases hs
    · split at hs
      · next o ho =>
        simp only [p_inv] at ho
        split at ho
        · split at ho
          · cases ho; cases hs
          · cases ho
        · cases ho
      · simp only [p_inv] at hs
        split at hs
        · split at hs
          · cases hs
          · cases hs
        · cases hs
  · next x =>
    have hdg : decode M.2.1 pc = .ok (.invokevirtual x, 3) := by
      have e1 : len = 3 := hln0.elim (fun q => by simp [p_ln] at q) (fun q => q)
      rw [← e1]; exact hdg0
    simp only [p_vir] at hs
    split at hs
    · next u a st' hp =>
      simp only [p_clone] at hs
      split at hs
      · next vs ha =>
        split at hs
        · next hcond =>
          obtain ⟨rfl, rfl, rfl, rfl⟩ := p_go_eq hs
          have hc : cells + 1 ≤ R.cells := by simpa using hc
          have hsl : slots + vs.length ≤ R.slots := by rw [p_sl_app] at hsl; simpa using hsl
          refine p_clone_ok hMO X hR hS hl.1 hp ha hcond.1 ?_ hfr hlo hc hsl hdg (kk.new rfl hl)
          rw [List.map_map]
          have : ((fun v => v.category) ∘ p_rv z) = fun v : Value => v.category := by funext v; exact p_rv_cat z v
          rw [this]; exact hcond.2
        · cases hs
      · cases hs
    · cases hs
    · simp only [p_invv] at hs
      split at hs
      · split at hs
        · split at hs
          · cases hs
          · cases hs
        · cases hs
      · cases hs
  · next x a st =>
    have hdg : decode M.2.1 pc = .ok (.checkcast x, 3) := by
      have e1 : len = 3 := hln0.elim (fun q => by simp [p_ln] at q) (fun q => q)
      rw [← e1]; exact hdg0
    simp only [p_cc] at hs
    split at hs
    · next u vs hp ha =>
      obtain ⟨rfl, rfl, rfl, rfl⟩ := p_go_eq hs
      exact p_cast_ok hMO X hR hp ha hdg (kk.same hR hS rls hl)
    · cases hs
  · next x =>
    have hdg : decode M.2.1 pc = .ok (.invokespecial x, 3) := by
      have e1 : len = 3 := hln0.elim (fun q => by simp [p_ln] at q) (fun q => q)
      rw [← e1]; exact hdg0
    simp only [p_invi] at hs
    split at hs
    · next u a st' hp =>
      split at hs
      · next hcat =>
        obtain ⟨rfl, rfl, rfl, rfl⟩ := p_go_eq hs
        obtain ⟨ho, hw⟩ := hMO.2.2.2.1 _ (p_pk_mem hp)
        refine W.objInit hx hb hown (hts _ (hw _ (by simp [p_w1]))) (hts _ (hw _ (by simp [p_w1]))) (hts _ (hw _ (by simp [p_w1]))) rfl (by rw [X.2.2.1]; exact hl.1) rfl hdg hfr ?_ (kk.same hR hS rls hl)
        show 2 * 0 + ((st'.map (p_rv z)).map fun v => v.category).sum + 12 ≤ _
        rw [List.map_map]
        have : ((fun v => v.category) ∘ p_rv z) = fun v : Value => v.category := by funext v; exact p_rv_cat z v
        rw [this]
        have : (st'.map fun v => v.category).sum ≤ 8 := hcat
        omega
      · cases hs
    · cases hs
    · split at hs
      · cases hs
      · cases hs
  ·
    simp only [p_ret] at hs
    repeat' split at hs
    all_goals cases hs
  · next x =>
    simp only [p_ret] at hs
    repeat' split at hs
    all_goals cases hs
  · next x =>
    simp only [p_ret] at hs
    repeat' split at hs
    all_goals cases hs
  ·
    simp only [p_ret] at hs
    repeat' split at hs
    all_goals cases hs
  · next a =>
    simp only [p_ret] at hs
    repeat' split at hs
    all_goals cases hs
  ·
    cases hs
end PN2

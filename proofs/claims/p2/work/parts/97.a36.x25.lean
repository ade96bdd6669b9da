def H_new (t : Nat → Option p_C) (b : Nat → Nat) (n a : Nat) : Prop := ∃ (q : Nat → Option Nat) (rb : Nat) (rows : List Value) (R : Nat → Int) (o : Nat), 80 ≤ a ∧ 80 ≤ rb ∧ t a = some (0, 7, [d_pv (q 11), d_pv (q 12), d_pv (q 13), .int (Int32.ofInt ((t_cs2 b n 26 0 0 (t_sk b n 0)).length : Int)), .ref rb]) ∧ t rb = some (1, 0, rows) ∧ rows.length = 7 * (t_cs2 b n 26 0 0 (t_sk b n 0)).length ∧ (∀ j, j < 7 * (t_cs2 b n 26 0 0 (t_sk b n 0)).length → rows[j]? = some (.int (Int32.ofInt (R j))) ∧ d_R (R j)) ∧ (t_cs2 b n 26 0 0 (t_sk b n 0)).length ≤ 24 ∧ t_LO (t_cs2 b n 26 0 0 (t_sk b n 0)) o ∧ (∀ c e, (t_cs2 b n 26 0 0 (t_sk b n 0))[c]? = some e → k_row b n R c e) ∧ ∀ k, k < 3 → ((∀ e, e ∈ t_cs2 b n 26 0 0 (t_sk b n 0) → e.1 ≠ k) → q (11 + k) = none) ∧ ∀ e, e ∈ t_cs2 b n 26 0 0 (t_sk b n 0) → e.1 = k → ∃ a C len, q (11 + k) = some a ∧ m_C t a C len ∧ ∀ ν, t_bn ν → c_Sg ν C 0 len (t_V b n (Nat.beq k 1) ν 4000 2 0 0 e.2 0) 19
section X25
variable {s0 s s1 s' : d_S} {t t' : Nat → Option p_C} {h : p_H} {b : Nat → Nat} {n p q w o m : Nat} {L : List (Nat × Nat)} {Q : Option Value → p_H → Prop}
theorem H_loop {t0 : Nat → Option p_C} {H0 S0 : Nat} (K : ∀ (r : Nat × Nat) (L' : List (Nat × Nat)) (t2 : Nat → Option p_C) (s2 : d_S) (h2 : p_H) (ls : p_Ls), (∃ f o' p', r = t_tx b n f L.length o' p' ∧ L' = L ++ t_cs2 b n f L.length o' p' ∧ f + L.length = 26 ∧ o' = o ∧ p' = p) → d_V t2 h2 s2 → v_tle t0 t2 → k_g s0 s2 → s2.1 43 1 = (n : Int) → h2.length ≤ H0 + 3 → p_sl h2 ≤ S0 + 1800 → p_lk 0 ls = some (.ref 43) → p_lk 1 ls = some (.int (Int32.ofInt (v_b (r.1 = 0)))) → (r.1 ≠ 0 → s2.1 43 2 = (r.1 : Int) ∧ s2.1 43 3 = (r.2 : Int)) → (r.1 = 0 → ∃ o2, k_I s0 b n r.2 o2 L' t2 s2) → p_wp p_GT p_MT 40 m_X3_read 76 ls [] h2 Q) : ∀ (f : Nat) (t : Nat → Option p_C) (s : d_S) (h : p_H) (ls : p_Ls), f + L.length = 26 → k_wds t → d_V t h s → v_tle t0 t → k_I s0 b n p o L t s → p ≤ n → h.length ≤ H0 + t_po o → p_sl h ≤ S0 + 600 * t_po o → p_lk 0 ls = some (.ref 43) → p_lk 1 ls = some (.int (Int32.ofInt 1)) → p_lk 2 ls = some (.int (Int32.ofInt (L.length : Int))) → p_wp p_GT p_MT 40 m_X3_read 48 ls [] h Q := by
  intro f
  induction f generalizing L o p with
  | zero =>
    intro t s h ls hf _ _ _ hI
    have := hI.2.2.2.2.2.1
    omega
  | succ f ih =>
    intro t s h ls hf hW hH ht hI hp hl hsl l0 l1 l2
    have hT := hI.1
    have hL := hI.2.2.2.2.2.1
    have hpo := t_po_3 o
    refine dw_iln (x := (L.length : Int)) rfl l2 (dw_bp (c := 24) rfl rfl (dw_gt_n rfl (u := 76) rfl ⟨by omega, by omega⟩ (d_rl rfl) (by omega) (dw_iln (x := 1) rfl l1 (dw_zeq_n rfl (u := 76) rfl (d_rl rfl) (by decide) (dw_aln rfl l0 (dw_gi (k := 6) rfl rfl rfl hH d_c43_6 ?_))))))
    by_cases k0 : t_k b n p = 0
    · refine dw_zeq_y rfl (u := 76) rfl hH.r (by rw [hT.2.1.2.2, k0]; rfl) ?_
      refine K (0, p) L t s h ls ⟨f + 1, o, p, by rw [t_tx_s, if_pos k0], ?_, hf, rfl, rfl⟩ hH ht hI.2.2.2.2.2.2 hT.1.1 (by omega) (by omega) l0 l1 (fun z => absurd rfl z) (fun _ => ⟨o, hI⟩)
      have e : t_cs2 b n (f + 1) L.length o p = [] := if_pos k0
      rw [e, List.append_nil]
    refine dw_zeq_n rfl (u := 76) rfl hH.r (by rw [hT.2.1.2.2]; omega) (dw_aln rfl l0 ?_)
    refine y_virt (dc := 39) rfl (d_vir (n := 1) rfl rfl rfl rfl rfl hH d_c43_0 rfl) rfl rfl (Nat.le_refl _) (H_clause hW hH hI hp) ?_
    rintro v h2 ⟨t2, s2, g, rfl, hH2, ht2, hg2, e1, hl2, hsl2, hpo2, bad, good⟩
    have hle := t_cl_le (b := b) (m := L.length) (o := o) hp
    obtain ⟨r, hr⟩ : ∃ z, z = t_cl b n L.length o p := ⟨_, rfl⟩
    have hcs : t_cs2 b n (f + 1) L.length o p = (t_cw b n p, t_x b n p) :: t_cs2 b n f (L.length + 1) (if t_cw b n p < 3 then o + 2 ^ t_cw b n p else o) (t_cl b n L.length o p).2 := if_neg k0
    have htx : t_tx b n (f + 1) L.length o p = if r.1 ≠ 0 then r else t_tx b n f (L.length + 1) (if t_cw b n p < 3 then o + 2 ^ t_cw b n p else o) r.2 := by rw [t_tx_s, if_neg k0, ← hr]
    rw [← hr] at bad good hle hcs ⊢
    refine dw_isn rfl rfl (dw_ii (x := (L.length : Int)) rfl (d_s1 l2 rfl (by decide)) rfl (dw_go rfl (u := 48) rfl ?_))
    rw [d_w_id (x := (L.length : Int) + 1) (by omega) (by omega)]
    have n0 : p_lk 0 (p_s1 (p_s1 ls 1 (.int (Int32.ofInt (v_b (r.1 = 0))))) 2 (.int (Int32.ofInt ((L.length : Int) + 1)))) = some (.ref 43) := d_s1 (d_s1 l0 rfl (by decide)) rfl (by decide)
    have n1 : p_lk 1 (p_s1 (p_s1 ls 1 (.int (Int32.ofInt (v_b (r.1 = 0))))) 2 (.int (Int32.ofInt ((L.length : Int) + 1)))) = some (.int (Int32.ofInt (v_b (r.1 = 0)))) := d_s1 p_lk_s1 rfl (by decide)
    have n2 : p_lk 2 (p_s1 (p_s1 ls 1 (.int (Int32.ofInt (v_b (r.1 = 0))))) 2 (.int (Int32.ofInt ((L.length : Int) + 1)))) = some (.int (Int32.ofInt ((L.length : Int) + 1))) := p_lk_s1
    by_cases r0 : r.1 = 0
    · obtain ⟨g1, g2, g3⟩ := good r0
      rw [v_bt r0] at n0 n1 n2 ⊢
      have el : (L ++ [(t_cw b n p, t_x b n p)]).length = L.length + 1 := by rw [List.length_append]; rfl
      refine ih (L := L ++ [(t_cw b n p, t_x b n p)]) (o := if t_cw b n p < 3 then o + 2 ^ t_cw b n p else o) (p := r.2) ?_ t2 s2 h2 _ (by rw [el]; omega) (hW.le ht2) hH2 (ht.tr ht2) g3 hle (by rw [g2]; omega) (by rw [g2]; omega) n0 n1 (by rw [el]; exact n2)
      intro r' L' t3 s3 h3 ls3 hex
      obtain ⟨f', o', p', e1, e2, e3, e4, e5⟩ := hex
      refine K r' L' t3 s3 h3 ls3 ⟨f + 1, o, p, ?_, ?_, hf, rfl, rfl⟩
      · rw [htx, if_neg (fun z => z r0), e1, e4, e5, el]
        rw [el] at e3
        rw [show f' = f by omega]
      · rw [hcs, e2, e4, e5, el, List.append_assoc]
        rw [el] at e3
        rw [show f' = f by omega]; rfl
    · rw [v_bf r0] at n0 n1 n2 ⊢
      have hl9 : (L.length : Int) + 1 ≤ 25 := by omega
      
      have fin : p_wp p_GT p_MT 40 m_X3_read 76 (p_s1 (p_s1 ls 1 (.int (Int32.ofInt 0))) 2 (.int (Int32.ofInt ((L.length : Int) + 1)))) [] h2 Q := by
        refine K r (L ++ t_cs2 b n (f + 1) L.length o p) t2 s2 h2 _ ⟨f + 1, o, p, by rw [htx, if_pos r0], rfl, hf, rfl, rfl⟩ hH2 (ht.tr ht2) hg2 e1 (by omega) (by omega) n0 (by rw [v_bf r0]; exact n1) bad (fun z => absurd z r0)
      by_cases h25 : (24 : Int) < (L.length : Int) + 1
      · exact dw_iln (x := (L.length : Int) + 1) rfl n2 (dw_bp (c := 24) rfl rfl (dw_gt_y rfl (u := 76) rfl ⟨by omega, by omega⟩ (d_rl rfl) h25 fin))
      · exact dw_iln (x := (L.length : Int) + 1) rfl n2 (dw_bp (c := 24) rfl rfl (dw_gt_n rfl (u := 76) rfl ⟨by omega, by omega⟩ (d_rl rfl) h25 (dw_iln (x := 0) rfl n1 (dw_zeq_y rfl (u := 76) rfl (d_rl rfl) rfl fin))))
end X25

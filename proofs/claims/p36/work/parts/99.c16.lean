/-! THE REFERENCE READS: a clause, a text -/
section RS12
variable {h : p_H} {dd n p w so t0 m on at_ : Nat} {b : Nat → Nat}
theorem t_P_100 {S : Bool} : ∀ {f mode d k p : Nat}, (t_P b n S f mode d k p).1 < 100 := by
  intro f
  induction f with
  | zero => intro mode d k p; exact (by decide : 99 < 100)
  | succ f ih =>
    intro mode d k p
    simp only [t_P]
    have h1 := t_F_100 (b := b) (n := n) (p := p) (d := d) (S := S)
    (repeat' split) <;> first | exact ih | exact h1 | decide
set_option maxRecDepth 100000 in
theorem r_lawc (hS : r_S0 h b n p w so t0 m on) {r : Nat × Nat} (hn : n ≤ 300) (hso : so < 100) (ht : t0 ≤ 2331) (hp : p ≤ n) (hw : w ≤ p + 3) (hat : t0 < at_) (hat2 : at_ + 7 ≤ 3108) (hr : t_P b n (Nat.beq so 1) 4000 2 0 0 p = r) : p_wp p_GT p_MT (dd + 11) m_X12_lawClause 0 (lv_args 0 [.ref 64, .int (Int32.ofNat at_)]) [] h (fun v h2 => v = some (.int (Int32.ofNat r.1)) ∧ ∃ w2 : Nat, r_S0 h2 b n r.2 w2 so t0 m on ∧ (r.1 = 0 → w2 ≤ r.2 + 3 ∧ p < r.2 ∧ r.2 ≤ n)) := by
  obtain ⟨fs, tv, tp, pv, cv, y17, y18, y19, y20, av, y1, e64, fl, f2, f3, f4, ⟨f8, ⟨t, f9, t256, tR⟩, ⟨x10, f10, f10'⟩, ⟨z11, f11, f11'⟩, a7, f7, a7n, a7e⟩, f12, f13, f14, f15, f16, f17, f18, f19, f20, f21, e67, tl, tm, e68, hb, e69, pl, e70, cl, f0, e65, a1⟩ := hS
  refine w_aload_n rfl rfl (w_getf rfl rfl e64 f2 (w_iload_n rfl rfl (w_ic 1 rfl rfl (w_addN rfl (w_aload_n rfl rfl (w_getf rfl rfl e64 f13 (w_st rfl e67 (by omega) (by omega) ?_)))))))
  refine w_use (X := fun h => r_S0 h b n p w so t0 m on) ⟨_, _, _, _, _, _, _, _, _, _, _, (a_ga (by decide) e64), (by first | exact fl | (simp only [List.length_set]; exact fl)), f2, f3, f4, ⟨f8, ⟨t, f9, t256, tR⟩, ⟨x10, f10, f10'⟩, ⟨z11, f11, f11'⟩, a7, f7, a7n, a7e⟩, f12, f13, f14, f15, f16, f17, f18, f19, f20, f21, (a_gs e67), (by first | exact tl | (simp only [List.length_set]; exact tl)), (by rw [List.getElem?_set_ne (by omega)]; exact tm), (a_ga (by decide) e68), hb, (a_ga (by decide) e69), (by first | exact pl | (simp only [List.length_set]; exact pl)), (a_ga (by decide) e70), (by first | exact cl | (simp only [List.length_set]; exact cl)), f0, (a_ga (by decide) e65), a1⟩ (fun hS2 => ?_)
  refine w_aload_n rfl rfl (w_virtual (dc := dd + 10) (M' := m_X12_summed) rfl (g_vir (n := 1) rfl rfl (by simp [p_cat, p_bd, Value.category]) rfl rfl (a_ga (by decide) e64) rfl) rfl rfl (Nat.le_refl _) (r_summed (dd := dd) hn hso ht hp hw hS2 hr) ?_)
  rintro v h2 ⟨rfl, w2, hS3, hB⟩
  refine w_istore_n rfl (by decide) ?_
  obtain ⟨fs3, tv3, tp3, pv3, cv3, y173, y183, y193, y203, av3, y13, e643, fl3, f23, f33, f43, ⟨f83, ⟨t3, f93, t2563, tR3⟩, ⟨x103, f103, f10'3⟩, ⟨z113, f113, f11'3⟩, a73, f73, a7n3, a7e3⟩, f123, f133, f143, f153, f163, f173, f183, f193, f203, f213, e673, tl3, tm3, e683, hb3, e693, pl3, e703, cl3, f03, e653, a13⟩ := hS3
  exact w_aload_n rfl (w_s1 rfl rfl (by decide)) (w_getf rfl rfl e643 f23 (w_iload_n rfl (w_s1 rfl rfl (by decide)) (w_ic 2 rfl rfl (w_addN rfl (w_aload_n rfl (w_s1 rfl rfl (by decide)) (w_getf rfl rfl e643 f133 (w_st rfl e673 (by omega) (by omega) (w_iload_n rfl p_lk_s1 (w_ireturn rfl rfl ⟨rfl, w2, ⟨_, _, _, _, _, _, _, _, _, _, _, (a_ga (by decide) e643), (by first | exact fl3 | (simp only [List.length_set]; exact fl3)), f23, f33, f43, ⟨f83, ⟨t3, f93, t2563, tR3⟩, ⟨x103, f103, f10'3⟩, ⟨z113, f113, f11'3⟩, a73, f73, a7n3, a7e3⟩, f123, f133, f143, f153, f163, f173, f183, f193, f203, f213, (a_gs e673), (by first | exact tl3 | (simp only [List.length_set]; exact tl3)), (by rw [List.getElem?_set_ne (by omega)]; exact tm3), (a_ga (by decide) e683), hb3, (a_ga (by decide) e693), (by first | exact pl3 | (simp only [List.length_set]; exact pl3)), (a_ga (by decide) e703), (by first | exact cl3 | (simp only [List.length_set]; exact cl3)), f03, (a_ga (by decide) e653), a13⟩, hB⟩)))))))))
def s_cs (x : Nat) : Int32 := if x ≤ 6 then Int32.ofNat x else if x = 8 then Int32.ofNat 7 else if x = 9 then Int32.ofNat 8 else if x = 7 then Int32.ofNat 9 else Int32.ofInt (-1)
set_option maxRecDepth 100000 in
theorem r_sortOf (hS : r_S0 h b n p w so t0 m on) : p_wp p_GT p_MT (dd + 4) m_X12_sortOf 0 (lv_args 0 [.ref 64]) [] h (fun v h2 => v = some (.int (s_cs (t_cw b n p))) ∧ h2 = h) := by
  have hS' := hS
  obtain ⟨fs, tv, tp, pv, cv, y17, y18, y19, y20, av, y1, e64, fl, f2, f3, f4, ⟨f8, ⟨t, f9, t256, tR⟩, ⟨x10, f10, f10'⟩, ⟨z11, f11, f11'⟩, a7, f7, a7n, a7e⟩, f12, f13, f14, f15, f16, f17, f18, f19, f20, f21, e67, tl, tm, e68, hb, e69, pl, e70, cl, f0, e65, a1⟩ := hS
  refine w_aload_n rfl rfl (w_bp 109 rfl rfl (w_bp 101 rfl rfl (w_bp 108 rfl rfl (w_bp 116 rfl rfl (w_bp 115 rfl rfl (w_static (nn := 0) (dc := dd + 3) (M' := m_X12_w5) rfl rfl rfl rfl (Nat.le_refl _) (r_w5 (dd := dd) (by decide) (by decide) (by decide) (by decide) (by decide)) ?_))))))
  rintro v h2 ⟨rfl, rfl⟩
  refine w_virtual (dc := dd + 3) (M' := m_X12_isWord) rfl (g_vir (n := 2) rfl rfl (by simp [p_cat, p_bd, Value.category]) rfl rfl e64 rfl) rfl rfl (Nat.le_refl _) (r_isw0 (k := 0) (c := 469853041779) hS' (by decide) (by decide)) ?_
  rintro v h2 ⟨rfl, rfl⟩
  cases q0 : t_wd b n p 0 with
  | true =>
    rw [show t_cw b n p = 0 by unfold t_cw; rw [q0]; rfl]
    exact w_ifc_f rfl (t := 22) rfl (by decide) (w_ic 0 rfl rfl (w_ireturn rfl rfl ⟨rfl, rfl⟩))
  | false =>
    refine w_ifc_t rfl (t := 22) rfl (by decide) (w_aload_n rfl rfl (w_bp 115 rfl rfl (w_bp 101 rfl rfl (w_bp 108 rfl rfl (w_bp 108 rfl rfl (w_bp 115 rfl rfl (w_static (nn := 0) (dc := dd + 3) (M' := m_X12_w5) rfl rfl rfl rfl (Nat.le_refl _) (r_w5 (dd := dd) (by decide) (by decide) (by decide) (by decide) (by decide)) ?_)))))))
    rintro v h2 ⟨rfl, rfl⟩
    refine w_virtual (dc := dd + 3) (M' := m_X12_isWord) rfl (g_vir (n := 2) rfl rfl (by simp [p_cat, p_bd, Value.category]) rfl rfl e64 rfl) rfl rfl (Nat.le_refl _) (r_isw0 (k := 1) (c := 495622843507) hS' (by decide) (by decide)) ?_
    rintro v h2 ⟨rfl, rfl⟩
    cases q1 : t_wd b n p 1 with
    | true =>
      rw [show t_cw b n p = 1 by unfold t_cw; rw [q0, q1]; rfl]
      exact w_ifc_f rfl (t := 44) rfl (by decide) (w_ic 1 rfl rfl (w_ireturn rfl rfl ⟨rfl, rfl⟩))
    | false =>
      refine w_ifc_t rfl (t := 44) rfl (by decide) (w_aload_n rfl rfl (w_bp 114 rfl rfl (w_bp 111 rfl rfl (w_bp 116 rfl rfl (w_bp 115 rfl rfl (w_static (nn := 0) (dc := dd + 3) (M' := m_X12_w4) rfl rfl rfl rfl (Nat.le_refl _) ((r_w4 (dd := dd) (by decide) (by decide) (by decide) (by decide)).mono (by omega) (fun _ _ q => q)) ?_))))))
      rintro v h2 ⟨rfl, rfl⟩
      refine w_virtual (dc := dd + 3) (M' := m_X12_isWord) rfl (g_vir (n := 2) rfl rfl (by simp [p_cat, p_bd, Value.category]) rfl rfl e64 rfl) rfl rfl (Nat.le_refl _) (r_isw0 (k := 2) (c := 1919906931) hS' (by decide) (by decide)) ?_
      rintro v h2 ⟨rfl, rfl⟩
      cases q2 : t_wd b n p 2 with
      | true =>
        rw [show t_cw b n p = 2 by unfold t_cw; rw [q0, q1, q2]; rfl]
        exact w_ifc_f rfl (t := 64) rfl (by decide) (w_ic 2 rfl rfl (w_ireturn rfl rfl ⟨rfl, rfl⟩))
      | false =>
        refine w_ifc_t rfl (t := 64) rfl (by decide) (w_aload_n rfl rfl (w_bp 112 rfl rfl (w_bp 111 rfl rfl (w_bp 110 rfl rfl (w_bp 100 rfl rfl (w_static (nn := 0) (dc := dd + 3) (M' := m_X12_w4) rfl rfl rfl rfl (Nat.le_refl _) ((r_w4 (dd := dd) (by decide) (by decide) (by decide) (by decide)).mono (by omega) (fun _ _ q => q)) ?_))))))
        rintro v h2 ⟨rfl, rfl⟩
        refine w_virtual (dc := dd + 3) (M' := m_X12_isWord) rfl (g_vir (n := 2) rfl rfl (by simp [p_cat, p_bd, Value.category]) rfl rfl e64 rfl) rfl rfl (Nat.le_refl _) (r_isw0 (k := 3) (c := 1886350948) hS' (by decide) (by decide)) ?_
        rintro v h2 ⟨rfl, rfl⟩
        cases q3 : t_wd b n p 3 with
        | true =>
          rw [show t_cw b n p = 3 by unfold t_cw; rw [q0, q1, q2, q3]; rfl]
          exact w_ifc_f rfl (t := 84) rfl (by decide) (w_ic 3 rfl rfl (w_ireturn rfl rfl ⟨rfl, rfl⟩))
        | false =>
          refine w_ifc_t rfl (t := 84) rfl (by decide) (w_aload_n rfl rfl (w_bp 115 rfl rfl (w_bp 105 rfl rfl (w_bp 103 rfl rfl (w_bp 104 rfl rfl (w_bp 116 rfl rfl (w_static (nn := 0) (dc := dd + 3) (M' := m_X12_w5) rfl rfl rfl rfl (Nat.le_refl _) (r_w5 (dd := dd) (by decide) (by decide) (by decide) (by decide) (by decide)) ?_)))))))
          rintro v h2 ⟨rfl, rfl⟩
          refine w_virtual (dc := dd + 3) (M' := m_X12_isWord) rfl (g_vir (n := 2) rfl rfl (by simp [p_cat, p_bd, Value.category]) rfl rfl e64 rfl) rfl rfl (Nat.le_refl _) (r_isw0 (k := 4) (c := 495689623668) hS' (by decide) (by decide)) ?_
          rintro v h2 ⟨rfl, rfl⟩
          cases q4 : t_wd b n p 4 with
          | true =>
            rw [show t_cw b n p = 4 by unfold t_cw; rw [q0, q1, q2, q3, q4]; rfl]
            exact w_ifc_f rfl (t := 106) rfl (by decide) (w_ic 4 rfl rfl (w_ireturn rfl rfl ⟨rfl, rfl⟩))
          | false =>
            refine w_ifc_t rfl (t := 106) rfl (by decide) (w_aload_n rfl rfl (w_bp 115 rfl rfl (w_bp 97 rfl rfl (w_bp 119 rfl rfl (w_static (nn := 0) (dc := dd + 3) (M' := m_X12_w3) rfl rfl rfl rfl (Nat.le_refl _) ((r_w3 (dd := dd) (by decide) (by decide) (by decide)).mono (by omega) (fun _ _ q => q)) ?_)))))
            rintro v h2 ⟨rfl, rfl⟩
            refine w_virtual (dc := dd + 3) (M' := m_X12_isWord) rfl (g_vir (n := 2) rfl rfl (by simp [p_cat, p_bd, Value.category]) rfl rfl e64 rfl) rfl rfl (Nat.le_refl _) (r_isw0 (k := 5) (c := 7561591) hS' (by decide) (by decide)) ?_
            rintro v h2 ⟨rfl, rfl⟩
            cases q5 : t_wd b n p 5 with
            | true =>
              rw [show t_cw b n p = 5 by unfold t_cw; rw [q0, q1, q2, q3, q4, q5]; rfl]
              exact w_ifc_f rfl (t := 124) rfl (by decide) (w_ic 5 rfl rfl (w_ireturn rfl rfl ⟨rfl, rfl⟩))
            | false =>
              refine w_ifc_t rfl (t := 124) rfl (by decide) (w_aload_n rfl rfl (w_bp 99 rfl rfl (w_bp 114 rfl rfl (w_bp 111 rfl rfl (w_bp 115 rfl rfl (w_bp 115 rfl rfl (w_static (nn := 0) (dc := dd + 3) (M' := m_X12_w5) rfl rfl rfl rfl (Nat.le_refl _) (r_w5 (dd := dd) (by decide) (by decide) (by decide) (by decide) (by decide)) ?_)))))))
              rintro v h2 ⟨rfl, rfl⟩
              refine w_virtual (dc := dd + 3) (M' := m_X12_isWord) rfl (g_vir (n := 2) rfl rfl (by simp [p_cat, p_bd, Value.category]) rfl rfl e64 rfl) rfl rfl (Nat.le_refl _) (r_isw0 (k := 6) (c := 427121668979) hS' (by decide) (by decide)) ?_
              rintro v h2 ⟨rfl, rfl⟩
              cases q6 : t_wd b n p 6 with
              | true =>
                rw [show t_cw b n p = 6 by unfold t_cw; rw [q0, q1, q2, q3, q4, q5, q6]; rfl]
                exact w_ifc_f rfl (t := 147) rfl (by decide) (w_bp 6 rfl rfl (w_ireturn rfl rfl ⟨rfl, rfl⟩))
              | false =>
                refine w_ifc_t rfl (t := 147) rfl (by decide) (w_aload_n rfl rfl (w_bp 115 rfl rfl (w_bp 116 rfl rfl (w_bp 114 rfl rfl (w_bp 97 rfl rfl (w_bp 119 rfl rfl (w_static (nn := 0) (dc := dd + 3) (M' := m_X12_w5) rfl rfl rfl rfl (Nat.le_refl _) (r_w5 (dd := dd) (by decide) (by decide) (by decide) (by decide) (by decide)) ?_)))))))
                rintro v h2 ⟨rfl, rfl⟩
                refine w_virtual (dc := dd + 3) (M' := m_X12_isWord) rfl (g_vir (n := 2) rfl rfl (by simp [p_cat, p_bd, Value.category]) rfl rfl e64 rfl) rfl rfl (Nat.le_refl _) (r_isw0 (k := 8) (c := 495874892151) hS' (by decide) (by decide)) ?_
                rintro v h2 ⟨rfl, rfl⟩
                cases q8 : t_wd b n p 8 with
                | true =>
                  rw [show t_cw b n p = 8 by unfold t_cw; rw [q0, q1, q2, q3, q4, q5, q6, q8]; rfl]
                  exact w_ifc_f rfl (t := 170) rfl (by decide) (w_bp 7 rfl rfl (w_ireturn rfl rfl ⟨rfl, rfl⟩))
                | false =>
                  refine w_ifc_t rfl (t := 170) rfl (by decide) (w_aload_n rfl rfl (w_bp 100 rfl rfl (w_bp 97 rfl rfl (w_bp 121 rfl rfl (w_static (nn := 0) (dc := dd + 3) (M' := m_X12_w3) rfl rfl rfl rfl (Nat.le_refl _) ((r_w3 (dd := dd) (by decide) (by decide) (by decide)).mono (by omega) (fun _ _ q => q)) ?_)))))
                  rintro v h2 ⟨rfl, rfl⟩
                  refine w_virtual (dc := dd + 3) (M' := m_X12_isWord) rfl (g_vir (n := 2) rfl rfl (by simp [p_cat, p_bd, Value.category]) rfl rfl e64 rfl) rfl rfl (Nat.le_refl _) (r_isw0 (k := 9) (c := 6578553) hS' (by decide) (by decide)) ?_
                  rintro v h2 ⟨rfl, rfl⟩
                  cases q9 : t_wd b n p 9 with
                  | true =>
                    rw [show t_cw b n p = 9 by unfold t_cw; rw [q0, q1, q2, q3, q4, q5, q6, q8, q9]; rfl]
                    exact w_ifc_f rfl (t := 191) rfl (by decide) (w_bp 8 rfl rfl (w_goto rfl (t := 215) rfl (w_ireturn rfl rfl ⟨rfl, rfl⟩)))
                  | false =>
                    refine w_ifc_t rfl (t := 191) rfl (by decide) (w_aload_n rfl rfl (w_bp 115 rfl rfl (w_bp 101 rfl rfl (w_bp 108 rfl rfl (w_bp 108 rfl rfl (w_static (nn := 0) (dc := dd + 3) (M' := m_X12_w4) rfl rfl rfl rfl (Nat.le_refl _) ((r_w4 (dd := dd) (by decide) (by decide) (by decide) (by decide)).mono (by omega) (fun _ _ q => q)) ?_))))))
                    rintro v h2 ⟨rfl, rfl⟩
                    refine w_virtual (dc := dd + 3) (M' := m_X12_isWord) rfl (g_vir (n := 2) rfl rfl (by simp [p_cat, p_bd, Value.category]) rfl rfl e64 rfl) rfl rfl (Nat.le_refl _) (r_isw0 (k := 7) (c := 1936026732) hS' (by decide) (by decide)) ?_
                    rintro v h2 ⟨rfl, rfl⟩
                    cases q7 : t_wd b n p 7 with
                    | true =>
                      rw [show t_cw b n p = 7 by unfold t_cw; rw [q0, q1, q2, q3, q4, q5, q6, q8, q9, q7]; rfl]
                      exact w_ifc_f rfl (t := 214) rfl (by decide) (w_bp 9 rfl rfl (w_goto rfl (t := 215) rfl (w_ireturn rfl rfl ⟨rfl, rfl⟩)))
                    | false =>
                      rw [show t_cw b n p = 10 by unfold t_cw; rw [q0, q1, q2, q3, q4, q5, q6, q8, q9, q7]; rfl]
                      exact w_ifc_t rfl (t := 214) rfl (by decide) (w_iconst rfl (w_ireturn rfl rfl ⟨rfl, rfl⟩))
theorem s_has1 : ∀ x, x < 8 → ∀ s, s < 3 → ((Int32.ofNat x >>> (Int32.ofNat s &&& 31)) &&& Int32.ofNat 1) = Int32.ofNat (x / 2 ^ s % 2) := by decide +kernel
theorem s_or1 : ∀ x, x < 8 → ∀ s, s < 3 → ¬ x / 2 ^ s % 2 = 1 → (Int32.ofNat x ||| (Int32.ofNat 1 <<< (Int32.ofNat s &&& 31))) = Int32.ofNat (x + 2 ^ s) ∧ x + 2 ^ s < 8 := by decide +kernel
theorem r_has {x s : Nat} (hx : x < 8) (hs : s < 3) : p_wp p_GT p_MT dd m_X12_has 0 (lv_args 0 [.int (Int32.ofNat x), .int (Int32.ofNat s)]) [] h (fun v h2 => v = some (.int (l_b (Nat.beq (x / 2 ^ s % 2) 1))) ∧ h2 = h) := by
  refine w_iload_n rfl rfl (w_iload_n rfl rfl (w_ishr rfl (w_ic 1 rfl rfl (w_iand rfl (w_ic 1 rfl rfl ?_)))))
  rw [s_has1 x hx s hs]
  have h2 : x / 2 ^ s % 2 < 2 := Nat.mod_lt _ (by decide)
  by_cases q : x / 2 ^ s % 2 = 1
  · rw [q]
    exact w_icmp_f rfl (t := 13) rfl (by decide) (w_iconst rfl (w_goto rfl (t := 14) rfl (w_ireturnb rfl rfl rfl ⟨rfl, rfl⟩)))
  · rw [show x / 2 ^ s % 2 = 0 by omega]
    exact w_icmp_t rfl (t := 13) rfl (by decide) (w_iconst rfl (w_ireturnb rfl rfl rfl ⟨rfl, rfl⟩))
theorem r_body3 (hS : r_S0 h b n p w so t0 m on) (hn : n ≤ 300) (hat : t0 < at_) (hat2 : at_ + 7 ≤ 3108) : p_wp p_GT p_MT (dd + 6) m_X12_body 0 (lv_args 0 [.ref 64, .int (Int32.ofNat 3), .int (Int32.ofNat at_)]) [] h (fun v h2 => v = some (.int (Int32.ofNat (t_D b n [(0, 2, 8), (1, 16, 0), (0, 2, 8)] p).1)) ∧ r_S0 h2 b n ((t_D b n [(0, 2, 8), (1, 16, 0), (0, 2, 8)] p).2) w so t0 m on) := by
  have hS' := hS
  obtain ⟨fs, tv, tp, pv, cv, y17, y18, y19, y20, av, y1, e64, fl, f2, f3, f4, ⟨f8, ⟨t, f9, t256, tR⟩, ⟨x10, f10, f10'⟩, ⟨z11, f11, f11'⟩, a7, f7, a7n, a7e⟩, f12, f13, f14, f15, f16, f17, f18, f19, f20, f21, e67, tl, tm, e68, hb, e69, pl, e70, cl, f0, e65, a1⟩ := hS
  refine w_iload_n rfl rfl (w_sw rfl (t := 44) rfl (w_aload_n rfl rfl (w_iload_n rfl rfl (w_virtual (dc := dd + 5) (M' := m_X12_pondClause) rfl (g_vir (n := 2) rfl rfl (by simp [p_cat, p_bd, Value.category]) rfl rfl e64 rfl) rfl rfl (Nat.le_refl _) (r_pond (dd := dd) hS' hn hat hat2) ?_))))
  rintro v h2 ⟨rfl, hS2⟩
  exact w_ireturn rfl rfl ⟨rfl, hS2⟩
theorem r_body4 (hS : r_S0 h b n p w so t0 m on) (hn : n ≤ 300) (hat : t0 < at_) (hat2 : at_ + 7 ≤ 3108) : p_wp p_GT p_MT (dd + 6) m_X12_body 0 (lv_args 0 [.ref 64, .int (Int32.ofNat 4), .int (Int32.ofNat at_)]) [] h (fun v h2 => v = some (.int (Int32.ofNat (t_D b n [(0, 0, 9), (1, 17, 0), (0, 0, 7), (2, 44, 0), (0, 0, 7), (2, 58, 0), (0, 1, 3), (2, 44, 0), (0, 1, 3), (1, 18, 0), (0, 0, 9)] p).1)) ∧ r_S0 h2 b n ((t_D b n [(0, 0, 9), (1, 17, 0), (0, 0, 7), (2, 44, 0), (0, 0, 7), (2, 58, 0), (0, 1, 3), (2, 44, 0), (0, 1, 3), (1, 18, 0), (0, 0, 9)] p).2) w so t0 m on) := by
  have hS' := hS
  obtain ⟨fs, tv, tp, pv, cv, y17, y18, y19, y20, av, y1, e64, fl, f2, f3, f4, ⟨f8, ⟨t, f9, t256, tR⟩, ⟨x10, f10, f10'⟩, ⟨z11, f11, f11'⟩, a7, f7, a7n, a7e⟩, f12, f13, f14, f15, f16, f17, f18, f19, f20, f21, e67, tl, tm, e68, hb, e69, pl, e70, cl, f0, e65, a1⟩ := hS
  refine w_iload_n rfl rfl (w_sw rfl (t := 50) rfl (w_aload_n rfl rfl (w_iload_n rfl rfl (w_virtual (dc := dd + 5) (M' := m_X12_sightClause) rfl (g_vir (n := 2) rfl rfl (by simp [p_cat, p_bd, Value.category]) rfl rfl e64 rfl) rfl rfl (Nat.le_refl _) (r_sight (dd := dd) hS' hn hat hat2) ?_))))
  rintro v h2 ⟨rfl, hS2⟩
  exact w_ireturn rfl rfl ⟨rfl, hS2⟩
theorem r_body5 (hS : r_S0 h b n p w so t0 m on) (hn : n ≤ 300) (hat : t0 < at_) (hat2 : at_ + 7 ≤ 3108) : p_wp p_GT p_MT (dd + 6) m_X12_body 0 (lv_args 0 [.ref 64, .int (Int32.ofNat 5), .int (Int32.ofNat at_)]) [] h (fun v h2 => v = some (.int (Int32.ofNat (t_D b n [(0, 0, 6)] p).1)) ∧ r_S0 h2 b n ((t_D b n [(0, 0, 6)] p).2) w so t0 m on) := by
  have hS' := hS
  obtain ⟨fs, tv, tp, pv, cv, y17, y18, y19, y20, av, y1, e64, fl, f2, f3, f4, ⟨f8, ⟨t, f9, t256, tR⟩, ⟨x10, f10, f10'⟩, ⟨z11, f11, f11'⟩, a7, f7, a7n, a7e⟩, f12, f13, f14, f15, f16, f17, f18, f19, f20, f21, e67, tl, tm, e68, hb, e69, pl, e70, cl, f0, e65, a1⟩ := hS
  refine w_iload_n rfl rfl (w_sw rfl (t := 56) rfl (w_aload_n rfl rfl (w_iload_n rfl rfl (w_ic 1 rfl rfl (w_addN rfl (w_ic 0 rfl rfl (w_bp 6 rfl rfl (w_virtual (dc := dd + 5) (M' := m_X12_figure) rfl (g_vir (n := 4) rfl rfl (by simp [p_cat, p_bd, Value.category]) rfl rfl e64 rfl) rfl rfl (Nat.le_refl _) ((r_figs (dd := dd) (lo := 0) (hi := 6) hS' hn (by omega) (by omega) (by decide) (by decide)).mono (by omega) (fun _ _ q => q)) ?_))))))))
  rintro v h2 ⟨rfl, hS2⟩
  exact w_ireturn rfl rfl ⟨rfl, hS2⟩
theorem r_body6 (hS : r_S0 h b n p w so t0 m on) (hn : n ≤ 300) (hat : t0 < at_) (hat2 : at_ + 7 ≤ 3108) : p_wp p_GT p_MT (dd + 6) m_X12_body 0 (lv_args 0 [.ref 64, .int (Int32.ofNat 6), .int (Int32.ofNat at_)]) [] h (fun v h2 => v = some (.int (Int32.ofNat (t_D b n [(0, 0, 6)] p).1)) ∧ r_S0 h2 b n ((t_D b n [(0, 0, 6)] p).2) w so t0 m on) := by
  have hS' := hS
  obtain ⟨fs, tv, tp, pv, cv, y17, y18, y19, y20, av, y1, e64, fl, f2, f3, f4, ⟨f8, ⟨t, f9, t256, tR⟩, ⟨x10, f10, f10'⟩, ⟨z11, f11, f11'⟩, a7, f7, a7n, a7e⟩, f12, f13, f14, f15, f16, f17, f18, f19, f20, f21, e67, tl, tm, e68, hb, e69, pl, e70, cl, f0, e65, a1⟩ := hS
  refine w_iload_n rfl rfl (w_sw rfl (t := 67) rfl (w_aload_n rfl rfl (w_iload_n rfl rfl (w_ic 1 rfl rfl (w_addN rfl (w_ic 0 rfl rfl (w_bp 6 rfl rfl (w_virtual (dc := dd + 5) (M' := m_X12_figure) rfl (g_vir (n := 4) rfl rfl (by simp [p_cat, p_bd, Value.category]) rfl rfl e64 rfl) rfl rfl (Nat.le_refl _) ((r_figs (dd := dd) (lo := 0) (hi := 6) hS' hn (by omega) (by omega) (by decide) (by decide)).mono (by omega) (fun _ _ q => q)) ?_))))))))
  rintro v h2 ⟨rfl, hS2⟩
  exact w_ireturn rfl rfl ⟨rfl, hS2⟩
theorem r_body7 (hS : r_S0 h b n p w so t0 m on) (hn : n ≤ 300) (hat : t0 < at_) (hat2 : at_ + 7 ≤ 3108) : p_wp p_GT p_MT (dd + 6) m_X12_body 0 (lv_args 0 [.ref 64, .int (Int32.ofNat 9), .int (Int32.ofNat at_)]) [] h (fun v h2 => v = some (.int (Int32.ofNat (t_D b n [(0, 0, 63)] p).1)) ∧ r_S0 h2 b n ((t_D b n [(0, 0, 63)] p).2) w so t0 m on) := by
  have hS' := hS
  obtain ⟨fs, tv, tp, pv, cv, y17, y18, y19, y20, av, y1, e64, fl, f2, f3, f4, ⟨f8, ⟨t, f9, t256, tR⟩, ⟨x10, f10, f10'⟩, ⟨z11, f11, f11'⟩, a7, f7, a7n, a7e⟩, f12, f13, f14, f15, f16, f17, f18, f19, f20, f21, e67, tl, tm, e68, hb, e69, pl, e70, cl, f0, e65, a1⟩ := hS
  refine w_iload_n rfl rfl (w_sw rfl (t := 95) rfl (w_aload_n rfl rfl (w_iload_n rfl rfl (w_ic 1 rfl rfl (w_addN rfl (w_ic 0 rfl rfl (w_bp 63 rfl rfl (w_virtual (dc := dd + 5) (M' := m_X12_figure) rfl (g_vir (n := 4) rfl rfl (by simp [p_cat, p_bd, Value.category]) rfl rfl e64 rfl) rfl rfl (Nat.le_refl _) ((r_figs (dd := dd) (lo := 0) (hi := 63) hS' hn (by omega) (by omega) (by decide) (by decide)).mono (by omega) (fun _ _ q => q)) ?_))))))))
  rintro v h2 ⟨rfl, hS2⟩
  exact w_ireturn rfl rfl ⟨rfl, hS2⟩
theorem r_body8 (hS : r_S0 h b n p w so t0 m on) (hn : n ≤ 300) (hat : t0 < at_) (hat2 : at_ + 7 ≤ 3108) : p_wp p_GT p_MT (dd + 6) m_X12_body 0 (lv_args 0 [.ref 64, .int (Int32.ofNat 7), .int (Int32.ofNat at_)]) [] h (fun v h2 => v = some (.int (Int32.ofNat (t_D b n [(0, 1, 9), (1, 19, 0), (0, 0, 63)] p).1)) ∧ r_S0 h2 b n ((t_D b n [(0, 1, 9), (1, 19, 0), (0, 0, 63)] p).2) w so t0 m on) := by
  have hS' := hS
  obtain ⟨fs, tv, tp, pv, cv, y17, y18, y19, y20, av, y1, e64, fl, f2, f3, f4, ⟨f8, ⟨t, f9, t256, tR⟩, ⟨x10, f10, f10'⟩, ⟨z11, f11, f11'⟩, a7, f7, a7n, a7e⟩, f12, f13, f14, f15, f16, f17, f18, f19, f20, f21, e67, tl, tm, e68, hb, e69, pl, e70, cl, f0, e65, a1⟩ := hS
  refine w_iload_n rfl rfl (w_sw rfl (t := 78) rfl (w_aload_n rfl rfl (w_iload_n rfl rfl (w_virtual (dc := dd + 5) (M' := m_X12_strawClause) rfl (g_vir (n := 2) rfl rfl (by simp [p_cat, p_bd, Value.category]) rfl rfl e64 rfl) rfl rfl (Nat.le_refl _) (r_straw (dd := dd) hS' hn hat hat2) ?_))))
  rintro v h2 ⟨rfl, hS2⟩
  exact w_ireturn rfl rfl ⟨rfl, hS2⟩
theorem r_body9 (hS : r_S0 h b n p w so t0 m on) (hn : n ≤ 300) (hat : t0 < at_) (hat2 : at_ + 7 ≤ 3108) : p_wp p_GT p_MT (dd + 6) m_X12_body 0 (lv_args 0 [.ref 64, .int (Int32.ofNat 8), .int (Int32.ofNat at_)]) [] h (fun v h2 => v = some (.int (Int32.ofNat (t_D b n [(0, 1, 60)] p).1)) ∧ r_S0 h2 b n ((t_D b n [(0, 1, 60)] p).2) w so t0 m on) := by
  have hS' := hS
  obtain ⟨fs, tv, tp, pv, cv, y17, y18, y19, y20, av, y1, e64, fl, f2, f3, f4, ⟨f8, ⟨t, f9, t256, tR⟩, ⟨x10, f10, f10'⟩, ⟨z11, f11, f11'⟩, a7, f7, a7n, a7e⟩, f12, f13, f14, f15, f16, f17, f18, f19, f20, f21, e67, tl, tm, e68, hb, e69, pl, e70, cl, f0, e65, a1⟩ := hS
  refine w_iload_n rfl rfl (w_sw rfl (t := 84) rfl (w_aload_n rfl rfl (w_iload_n rfl rfl (w_ic 1 rfl rfl (w_addN rfl (w_ic 1 rfl rfl (w_bp 60 rfl rfl (w_virtual (dc := dd + 5) (M' := m_X12_figure) rfl (g_vir (n := 4) rfl rfl (by simp [p_cat, p_bd, Value.category]) rfl rfl e64 rfl) rfl rfl (Nat.le_refl _) ((r_figs (dd := dd) (lo := 1) (hi := 60) hS' hn (by omega) (by omega) (by decide) (by decide)).mono (by omega) (fun _ _ q => q)) ?_))))))))
  rintro v h2 ⟨rfl, hS2⟩
  exact w_ireturn rfl rfl ⟨rfl, hS2⟩
theorem r_body0 (hS : r_S0 h b n p w so t0 m on) {r : Nat × Nat} (hn : n ≤ 300) (hso : so < 100) (ht : t0 ≤ 2331) (hp : p ≤ n) (hw : w ≤ p + 3) (hat : t0 < at_) (hat2 : at_ + 7 ≤ 3108) (hr : t_P b n (Nat.beq so 1) 4000 2 0 0 p = r) : p_wp p_GT p_MT (dd + 12) m_X12_body 0 (lv_args 0 [.ref 64, .int (Int32.ofNat 0), .int (Int32.ofNat at_)]) [] h (fun v h2 => v = some (.int (Int32.ofNat r.1)) ∧ ∃ w2 : Nat, r_S0 h2 b n r.2 w2 so t0 m on ∧ (r.1 = 0 → w2 ≤ r.2 + 3 ∧ p < r.2 ∧ r.2 ≤ n)) := by
  have hS' := hS
  obtain ⟨fs, tv, tp, pv, cv, y17, y18, y19, y20, av, y1, e64, fl, f2, f3, f4, ⟨f8, ⟨t, f9, t256, tR⟩, ⟨x10, f10, f10'⟩, ⟨z11, f11, f11'⟩, a7, f7, a7n, a7e⟩, f12, f13, f14, f15, f16, f17, f18, f19, f20, f21, e67, tl, tm, e68, hb, e69, pl, e70, cl, f0, e65, a1⟩ := hS
  refine w_iload_n rfl rfl (w_sw rfl (t := 106) rfl (w_aload_n rfl rfl (w_iload_n rfl rfl (w_virtual (dc := dd + 11) (M' := m_X12_lawClause) rfl (g_vir (n := 2) rfl rfl (by simp [p_cat, p_bd, Value.category]) rfl rfl e64 rfl) rfl rfl (Nat.le_refl _) (r_lawc (dd := dd) hS' hn hso ht hp hw hat hat2 hr) ?_))))
  rintro v h2 ⟨rfl, hS2⟩
  exact w_ireturn rfl rfl ⟨rfl, hS2⟩
theorem r_body1 (hS : r_S0 h b n p w so t0 m on) {r : Nat × Nat} (hn : n ≤ 300) (hso : so < 100) (ht : t0 ≤ 2331) (hp : p ≤ n) (hw : w ≤ p + 3) (hat : t0 < at_) (hat2 : at_ + 7 ≤ 3108) (hr : t_P b n (Nat.beq so 1) 4000 2 0 0 p = r) : p_wp p_GT p_MT (dd + 12) m_X12_body 0 (lv_args 0 [.ref 64, .int (Int32.ofNat 1), .int (Int32.ofNat at_)]) [] h (fun v h2 => v = some (.int (Int32.ofNat r.1)) ∧ ∃ w2 : Nat, r_S0 h2 b n r.2 w2 so t0 m on ∧ (r.1 = 0 → w2 ≤ r.2 + 3 ∧ p < r.2 ∧ r.2 ≤ n)) := by
  have hS' := hS
  obtain ⟨fs, tv, tp, pv, cv, y17, y18, y19, y20, av, y1, e64, fl, f2, f3, f4, ⟨f8, ⟨t, f9, t256, tR⟩, ⟨x10, f10, f10'⟩, ⟨z11, f11, f11'⟩, a7, f7, a7n, a7e⟩, f12, f13, f14, f15, f16, f17, f18, f19, f20, f21, e67, tl, tm, e68, hb, e69, pl, e70, cl, f0, e65, a1⟩ := hS
  refine w_iload_n rfl rfl (w_sw rfl (t := 106) rfl (w_aload_n rfl rfl (w_iload_n rfl rfl (w_virtual (dc := dd + 11) (M' := m_X12_lawClause) rfl (g_vir (n := 2) rfl rfl (by simp [p_cat, p_bd, Value.category]) rfl rfl e64 rfl) rfl rfl (Nat.le_refl _) (r_lawc (dd := dd) hS' hn hso ht hp hw hat hat2 hr) ?_))))
  rintro v h2 ⟨rfl, hS2⟩
  exact w_ireturn rfl rfl ⟨rfl, hS2⟩
theorem r_body2 (hS : r_S0 h b n p w so t0 m on) {r : Nat × Nat} (hn : n ≤ 300) (hso : so < 100) (ht : t0 ≤ 2331) (hp : p ≤ n) (hw : w ≤ p + 3) (hat : t0 < at_) (hat2 : at_ + 7 ≤ 3108) (hr : t_P b n (Nat.beq so 1) 4000 2 0 0 p = r) : p_wp p_GT p_MT (dd + 12) m_X12_body 0 (lv_args 0 [.ref 64, .int (Int32.ofNat 2), .int (Int32.ofNat at_)]) [] h (fun v h2 => v = some (.int (Int32.ofNat r.1)) ∧ ∃ w2 : Nat, r_S0 h2 b n r.2 w2 so t0 m on ∧ (r.1 = 0 → w2 ≤ r.2 + 3 ∧ p < r.2 ∧ r.2 ≤ n)) := by
  have hS' := hS
  obtain ⟨fs, tv, tp, pv, cv, y17, y18, y19, y20, av, y1, e64, fl, f2, f3, f4, ⟨f8, ⟨t, f9, t256, tR⟩, ⟨x10, f10, f10'⟩, ⟨z11, f11, f11'⟩, a7, f7, a7n, a7e⟩, f12, f13, f14, f15, f16, f17, f18, f19, f20, f21, e67, tl, tm, e68, hb, e69, pl, e70, cl, f0, e65, a1⟩ := hS
  refine w_iload_n rfl rfl (w_sw rfl (t := 106) rfl (w_aload_n rfl rfl (w_iload_n rfl rfl (w_virtual (dc := dd + 11) (M' := m_X12_lawClause) rfl (g_vir (n := 2) rfl rfl (by simp [p_cat, p_bd, Value.category]) rfl rfl e64 rfl) rfl rfl (Nat.le_refl _) (r_lawc (dd := dd) hS' hn hso ht hp hw hat hat2 hr) ?_))))
  rintro v h2 ⟨rfl, hS2⟩
  exact w_ireturn rfl rfl ⟨rfl, hS2⟩
theorem t_cw_le : t_cw b n p ≤ 10 := by unfold t_cw; (repeat' split) <;> decide
theorem t_cw_k (h : t_cw b n p ≠ 10) : t_k b n p = 1 := by
  by_cases q : t_k b n p = 1
  · exact q
  · refine absurd ?_ h
    have no : ∀ k, t_wd b n p k = false := fun k => Bool.eq_false_iff.mpr (fun e => q (t_wd_iff.mp e).1)
    unfold t_cw
    rw [no, no, no, no, no, no, no, no, no, no]
    rfl
theorem t_cw_lt (h : t_cw b n p ≠ 10) : p < n := t_k_lt (by rw [t_cw_k h]; decide)
set_option maxRecDepth 100000 in
theorem r_cl0 (hS : r_S0 h b n p w so t0 m on) (hn : n ≤ 300) (ht : t0 ≤ 2331) (hp : p ≤ n) (hw : w ≤ p + 3) (hm : m ≤ 24) (hon : on < 8) (hcw : t_cw b n p = 0) : p_wp p_GT p_MT (dd + 13) m_X12_clause 0 (lv_args 0 [.ref 64]) [] h (fun v h2 => v = some (.int (Int32.ofNat (t_cl b n m on p).1)) ∧ ∃ w2 so2 m2 on2 : Nat, r_S0 h2 b n (t_cl b n m on p).2 w2 so2 t0 m2 on2 ∧ ((t_cl b n m on p).1 = 0 → w2 ≤ (t_cl b n m on p).2 + 3 ∧ p < (t_cl b n m on p).2 ∧ (t_cl b n m on p).2 ≤ n ∧ m2 = m + 1 ∧ m < 24 ∧ on2 < 8 ∧ on2 = (if t_cw b n p < 3 then on + 2 ^ t_cw b n p else on))) := by
  have hS' := hS
  obtain ⟨fs, tv, tp, pv, cv, y17, y18, y19, y20, av, y1, e64, fl, f2, f3, f4, ⟨f8, ⟨t, f9, t256, tR⟩, ⟨x10, f10, f10'⟩, ⟨z11, f11, f11'⟩, a7, f7, a7n, a7e⟩, f12, f13, f14, f15, f16, f17, f18, f19, f20, f21, e67, tl, tm, e68, hb, e69, pl, e70, cl, f0, e65, a1⟩ := hS
  have ecl : t_cl b n m on p = (if 0 < 3 ∧ on / 2 ^ 0 % 2 = 1 then (4, p) else if m = 24 then (6, p) else (if (t_P b n (Nat.beq 0 1) 4000 2 0 0 (t_x b n p)).1 ≠ 0 then t_P b n (Nat.beq 0 1) 4000 2 0 0 (t_x b n p) else if t_is b n (t_P b n (Nat.beq 0 1) 4000 2 0 0 (t_x b n p)).2 59 = true then (0, t_x b n (t_P b n (Nat.beq 0 1) 4000 2 0 0 (t_x b n p)).2) else (1, (t_P b n (Nat.beq 0 1) 4000 2 0 0 (t_x b n p)).2))) := by unfold t_cl; rw [hcw]; rfl
  refine w_aload_n rfl rfl (w_virtual (dc := dd + 12) (M' := m_X12_sortOf) rfl (g_vir (n := 1) rfl rfl (by simp [p_cat, p_bd, Value.category]) rfl rfl e64 rfl) rfl rfl (Nat.le_refl _) ((r_sortOf (dd := dd) hS').mono (by omega) (fun _ _ q => q)) ?_)
  rintro v h2 ⟨rfl, rfl⟩
  rw [ecl, hcw, show s_cs 0 = Int32.ofNat (0) from rfl]
  refine w_istore_n rfl (by decide) (w_iload_n rfl p_lk_s1 ?_)
  refine w_ifc_t rfl (t := 11) rfl (by decide) (w_iload_n rfl p_lk_s1 (w_ic 2 rfl rfl (w_icmp_f rfl (t := 29) rfl (by decide) (w_aload_n rfl (w_s1 rfl rfl (by decide)) (w_getf rfl rfl e64 f21 (w_iload_n rfl p_lk_s1 (w_static (nn := 0) (dc := dd + 12) (M' := m_X12_has) rfl rfl rfl rfl (Nat.le_refl _) (r_has (x := on) (s := 0) hon (by decide)) ?_)))))))
  rintro v h2 ⟨rfl, rfl⟩
  by_cases qh : on / 2 ^ 0 % 2 = 1
  · rw [if_pos ⟨by decide, qh⟩, qh]
    exact w_ifc_f rfl (t := 29) rfl (by decide) (w_ic 4 rfl rfl (w_ireturn rfl rfl ⟨rfl, w, so, m, on, hS', fun e => absurd e (by decide)⟩))
  have qh2 : Nat.beq (on / 2 ^ 0 % 2) 1 = false := Bool.eq_false_iff.mpr (fun e => qh (Nat.eq_of_beq_eq_true e))
  rw [if_neg (fun e => qh e.2), qh2]
  obtain ⟨eor, hon2⟩ := s_or1 on hon 0 (by decide) qh
  refine w_ifc_t rfl (t := 29) rfl (by decide) (w_aload_n rfl (w_s1 rfl rfl (by decide)) (w_getf rfl rfl e64 f2 (w_aload_n rfl (w_s1 rfl rfl (by decide)) (w_getf rfl rfl e64 f12 (w_ld rfl e67 (by omega) tm (w_istore_n rfl (by decide) (w_iload_n rfl p_lk_s1 (w_bp 24 rfl rfl ?_))))))))
  by_cases q24 : m = 24
  · rw [if_pos q24]
    exact w_icmp_f rfl (t := 48) rfl (by rw [q24]; decide) (w_bp 6 rfl rfl (w_ireturn rfl rfl ⟨rfl, w, so, m, on, hS', fun e => absurd e (by decide)⟩))
  rw [if_neg q24]
  have hm24 : m < 24 := by omega
  refine w_icmp_t rfl (t := 48) rfl (by simp only [p_cd, decide_eq_true_eq]; exact b_ofNat_ne (by omega) (by omega) q24) (w_iload_n rfl (w_s1 p_lk_s1 rfl (by decide)) (w_ic 2 rfl rfl (w_icmp_f rfl (t := 65) rfl (by decide) (w_aload_n rfl (w_s1 (w_s1 rfl rfl (by decide)) rfl (by decide)) (w_dup rfl rfl (w_getf rfl rfl e64 f21 (w_ic 1 rfl rfl (w_iload_n rfl (w_s1 p_lk_s1 rfl (by decide)) (w_ishl rfl (w_ior rfl ?_))))))))))
  rw [eor]
  refine w_putf rfl rfl e64 rfl rfl (w_flt f21) (w_aload_n rfl (w_s1 (w_s1 rfl rfl (by decide)) rfl (by decide)) (w_iload_n rfl (w_s1 p_lk_s1 rfl (by decide)) (w_putf rfl rfl (a_gs e64) rfl rfl (w_flt (w_fne f14 (by decide))) ?_)))
  refine w_use (X := fun h => r_S0 h b n p w 0 t0 m ((on + 2 ^ 0))) ⟨_, _, _, _, _, _, _, _, _, _, _, (a_gs (a_gs e64)), (by first | exact fl | (simp only [List.length_set]; exact fl)), (w_fne (w_fne f2 (by decide)) (by decide)), (w_fne (w_fne f3 (by decide)) (by decide)), (w_fne (w_fne f4 (by decide)) (by decide)), ⟨(w_fne (w_fne f8 (by decide)) (by decide)), ⟨t, (w_fne (w_fne f9 (by decide)) (by decide)), t256, tR⟩, ⟨x10, (w_fne (w_fne f10 (by decide)) (by decide)), f10'⟩, ⟨z11, (w_fne (w_fne f11 (by decide)) (by decide)), f11'⟩, a7, (w_fne (w_fne f7 (by decide)) (by decide)), a7n, a7e⟩, (w_fne (w_fne f12 (by decide)) (by decide)), (w_fne (w_fne f13 (by decide)) (by decide)), (w_fat (w_fne f14 (by decide))), (w_fne (w_fne f15 (by decide)) (by decide)), (w_fne (w_fne f16 (by decide)) (by decide)), (w_fne (w_fne f17 (by decide)) (by decide)), (w_fne (w_fne f18 (by decide)) (by decide)), (w_fne (w_fne f19 (by decide)) (by decide)), (w_fne (w_fne f20 (by decide)) (by decide)), (w_fne (w_fat f21) (by decide)), (a_ga (by decide) (a_ga (by decide) e67)), (by first | exact tl | (simp only [List.length_set]; exact tl)), tm, (a_ga (by decide) (a_ga (by decide) e68)), hb, (a_ga (by decide) (a_ga (by decide) e69)), (by first | exact pl | (simp only [List.length_set]; exact pl)), (a_ga (by decide) (a_ga (by decide) e70)), (by first | exact cl | (simp only [List.length_set]; exact cl)), (w_fne (w_fne f0 (by decide)) (by decide)), (a_ga (by decide) (a_ga (by decide) e65)), a1⟩ (fun hS1 => ?_)
  have hpn : p < n := t_cw_lt (by rw [hcw]; decide)
  have hk1 := t_cw_k (b := b) (n := n) (p := p) (by rw [hcw]; decide)
  have hx := t_x_lt (b := b) hpn
  refine w_aload_n rfl (w_s1 (w_s1 rfl rfl (by decide)) rfl (by decide)) (w_virtual (dc := dd + 12) (M' := m_X12_nextToken) rfl (g_vir (n := 1) rfl rfl (by simp [p_cat, p_bd, Value.category]) rfl rfl (a_gs (a_gs e64)) rfl) rfl rfl (Nat.le_refl _) ((r_next0 (dd := dd) hS1 hn (t_nb (by omega))).mono (by omega) (fun _ _ q => q)) ?_)
  rintro v h3 ⟨rfl, hS3⟩
  have hS3b := hS3
  obtain ⟨fs3, tv3, tp3, pv3, cv3, y173, y183, y193, y203, av3, y13, e643, fl3, f23, f33, f43, ⟨f83, ⟨t3, f93, t2563, tR3⟩, ⟨x103, f103, f10'3⟩, ⟨z113, f113, f11'3⟩, a73, f73, a7n3, a7e3⟩, f123, f133, f143, f153, f163, f173, f183, f193, f203, f213, e673, tl3, tm3, e683, hb3, e693, pl3, e703, cl3, f03, e653, a13⟩ := hS3
  refine w_aload_n rfl (w_s1 (w_s1 rfl rfl (by decide)) rfl (by decide)) (w_getf rfl rfl e643 f123 (w_ic 1 rfl rfl (w_addN rfl (w_bp 7 rfl rfl (w_iload_n rfl p_lk_s1 (w_mulN rfl (w_addN rfl (w_istore_n rfl (by decide) (w_aload_n rfl (w_s1 (w_s1 (w_s1 rfl rfl (by decide)) rfl (by decide)) rfl (by decide)) (w_getf rfl rfl e643 f23 (w_iload_n rfl p_lk_s1 (w_iload_n rfl (w_s1 (w_s1 p_lk_s1 rfl (by decide)) rfl (by decide)) (w_st rfl e673 (by omega) (by omega) ?_)))))))))))))
  refine w_use (X := fun h => r_S0 h b n (t_x b n p) w 0 t0 m ((on + 2 ^ 0))) ⟨_, _, _, _, _, _, _, _, _, _, _, (a_ga (by decide) e643), (by first | exact fl3 | (simp only [List.length_set]; exact fl3)), f23, f33, f43, ⟨f83, ⟨t3, f93, t2563, tR3⟩, ⟨x103, f103, f10'3⟩, ⟨z113, f113, f11'3⟩, a73, f73, a7n3, a7e3⟩, f123, f133, f143, f153, f163, f173, f183, f193, f203, f213, (a_gs e673), (by first | exact tl3 | (simp only [List.length_set]; exact tl3)), (by rw [List.getElem?_set_ne (by omega)]; exact tm3), (a_ga (by decide) e683), hb3, (a_ga (by decide) e693), (by first | exact pl3 | (simp only [List.length_set]; exact pl3)), (a_ga (by decide) e703), (by first | exact cl3 | (simp only [List.length_set]; exact cl3)), f03, (a_ga (by decide) e653), a13⟩ (fun hS4 => ?_)
  refine w_aload_n rfl (w_s1 (w_s1 (w_s1 rfl rfl (by decide)) rfl (by decide)) rfl (by decide)) (w_iload_n rfl (w_s1 (w_s1 p_lk_s1 rfl (by decide)) rfl (by decide)) (w_iload_n rfl p_lk_s1 (w_virtual (dc := dd + 12) (M' := m_X12_body) rfl (g_vir (n := 3) rfl rfl (by simp [p_cat, p_bd, Value.category]) rfl rfl (a_ga (by decide) e643) rfl) rfl rfl (Nat.le_refl _) (r_body0 (dd := dd) hS4 (r := t_P b n (Nat.beq 0 1) 4000 2 0 0 (t_x b n p)) hn (by decide) ht hx.2 (by omega) (by omega) (by omega) rfl) ?_)))
  rintro v h5 ⟨rfl, w5, hS5, hB5⟩
  refine w_istore rfl (by decide) (w_iload rfl p_lk_s1 ?_)
  generalize hs : t_P b n (Nat.beq 0 1) 4000 2 0 0 (t_x b n p) = s at hS5 hB5
  have h100 : s.1 < 100000 := by rw [← hs]; exact Nat.lt_trans t_P_100 (by decide)
  by_cases e0 : s.1 = 0
  · rw [if_neg (fun q => q e0), e0]
    have hS6 := hS5
    have hB6 := hB5 e0
    obtain ⟨fs5, tv5, tp5, pv5, cv5, y175, y185, y195, y205, av5, y15, e645, fl5, f25, f35, f45, ⟨f85, ⟨t5, f95, t2565, tR5⟩, ⟨x105, f105, f10'5⟩, ⟨z115, f115, f11'5⟩, a75, f75, a7n5, a7e5⟩, f125, f135, f145, f155, f165, f175, f185, f195, f205, f215, e675, tl5, tm5, e685, hb5, e695, pl5, e705, cl5, f05, e655, a15⟩ := hS5
    refine w_ifc_t rfl (t := 109) rfl (by decide) (w_aload_n rfl (w_s1 (w_s1 (w_s1 (w_s1 rfl rfl (by decide)) rfl (by decide)) rfl (by decide)) rfl (by decide)) (w_getf rfl rfl e645 f25 (w_aload_n rfl (w_s1 (w_s1 (w_s1 (w_s1 rfl rfl (by decide)) rfl (by decide)) rfl (by decide)) rfl (by decide)) (w_getf rfl rfl e645 f125 (w_dup2 rfl (w_ld rfl e675 (by omega) tm5 (w_ic 1 rfl rfl (w_addN rfl (w_st rfl e675 (by omega) (by omega) (w_aload_n rfl (w_s1 (w_s1 (w_s1 (w_s1 rfl rfl (by decide)) rfl (by decide)) rfl (by decide)) rfl (by decide)) (w_getf rfl rfl (a_ga (by decide) e645) f95 (w_bp 59 rfl rfl ?_))))))))))))
    refine w_use (X := fun h => r_S0 h b n (s.2) w5 0 t0 ((m + 1)) ((on + 2 ^ 0))) ⟨_, _, _, _, _, _, _, _, _, _, _, (a_ga (by decide) e645), (by first | exact fl5 | (simp only [List.length_set]; exact fl5)), f25, f35, f45, ⟨f85, ⟨t5, f95, t2565, tR5⟩, ⟨x105, f105, f10'5⟩, ⟨z115, f115, f11'5⟩, a75, f75, a7n5, a7e5⟩, f125, f135, f145, f155, f165, f175, f185, f195, f205, f215, (a_gs e675), (by first | exact tl5 | (simp only [List.length_set]; exact tl5)), (List.getElem?_set_self (by omega)), (a_ga (by decide) e685), hb5, (a_ga (by decide) e695), (by first | exact pl5 | (simp only [List.length_set]; exact pl5)), (a_ga (by decide) e705), (by first | exact cl5 | (simp only [List.length_set]; exact cl5)), f05, (a_ga (by decide) e655), a15⟩ (fun hS7 => ?_)
    by_cases q59 : t_is b n s.2 59 = true
    · rw [if_pos q59]
      have et : t5 = 59 := (tR5.2.2.2 59 (by omega)).mpr (t_is_iff.mp q59)
      have hy := t_x_lt (b := b) (t_is_lt q59)
      refine w_icmp_t rfl (t := 133) rfl (by rw [et]; decide) (w_aload_n rfl (w_s1 (w_s1 (w_s1 (w_s1 rfl rfl (by decide)) rfl (by decide)) rfl (by decide)) rfl (by decide)) (w_virtual (dc := dd + 12) (M' := m_X12_nextToken) rfl (g_vir (n := 1) rfl rfl (by simp [p_cat, p_bd, Value.category]) rfl rfl (a_ga (by decide) e645) rfl) rfl rfl (Nat.le_refl _) ((r_next0 (dd := dd) hS7 hn (t_nb2 q59 (by decide) (by decide))).mono (by omega) (fun _ _ q => q)) ?_))
      rintro v h8 ⟨rfl, hS8⟩
      exact w_ic 0 rfl rfl (w_ireturn rfl rfl ⟨rfl, w5, 0, m + 1, (on + 2 ^ 0), hS8, fun _ => ⟨by show _ ≤ t_x b n s.2 + 3; omega, by show p < t_x b n s.2; omega, hy.2, rfl, hm24, by omega, by rw [hcw, if_pos (by decide : 0 < 3)]⟩⟩)
    · rw [if_neg q59]
      have et : ¬ t5 = 59 := fun e => q59 (t_is_iff.mpr ((tR5.2.2.2 59 (by omega)).mp e))
      exact w_icmp_f rfl (t := 133) rfl (by simp only [p_cd, decide_eq_false_iff_not]; exact b_ofNat_ne (by omega) (by omega) et) (w_ic 1 rfl rfl (w_ireturn rfl rfl ⟨rfl, w5, 0, m + 1, (on + 2 ^ 0), hS7, fun e => absurd e (by decide)⟩))
  · rw [if_pos e0]
    exact w_ifc_f rfl (t := 109) rfl (by simp only [p_cd, decide_eq_false_iff_not]; exact b_ofNat_ne (b := 0) h100 (by omega) e0) (w_iload rfl p_lk_s1 (w_ireturn rfl rfl ⟨rfl, w5, 0, m, (on + 2 ^ 0), hS5, fun e => absurd e e0⟩))
set_option maxRecDepth 100000 in
theorem r_cl1 (hS : r_S0 h b n p w so t0 m on) (hn : n ≤ 300) (ht : t0 ≤ 2331) (hp : p ≤ n) (hw : w ≤ p + 3) (hm : m ≤ 24) (hon : on < 8) (hcw : t_cw b n p = 1) : p_wp p_GT p_MT (dd + 13) m_X12_clause 0 (lv_args 0 [.ref 64]) [] h (fun v h2 => v = some (.int (Int32.ofNat (t_cl b n m on p).1)) ∧ ∃ w2 so2 m2 on2 : Nat, r_S0 h2 b n (t_cl b n m on p).2 w2 so2 t0 m2 on2 ∧ ((t_cl b n m on p).1 = 0 → w2 ≤ (t_cl b n m on p).2 + 3 ∧ p < (t_cl b n m on p).2 ∧ (t_cl b n m on p).2 ≤ n ∧ m2 = m + 1 ∧ m < 24 ∧ on2 < 8 ∧ on2 = (if t_cw b n p < 3 then on + 2 ^ t_cw b n p else on))) := by
  have hS' := hS
  obtain ⟨fs, tv, tp, pv, cv, y17, y18, y19, y20, av, y1, e64, fl, f2, f3, f4, ⟨f8, ⟨t, f9, t256, tR⟩, ⟨x10, f10, f10'⟩, ⟨z11, f11, f11'⟩, a7, f7, a7n, a7e⟩, f12, f13, f14, f15, f16, f17, f18, f19, f20, f21, e67, tl, tm, e68, hb, e69, pl, e70, cl, f0, e65, a1⟩ := hS
  have ecl : t_cl b n m on p = (if 1 < 3 ∧ on / 2 ^ 1 % 2 = 1 then (4, p) else if m = 24 then (6, p) else (if (t_P b n (Nat.beq 1 1) 4000 2 0 0 (t_x b n p)).1 ≠ 0 then t_P b n (Nat.beq 1 1) 4000 2 0 0 (t_x b n p) else if t_is b n (t_P b n (Nat.beq 1 1) 4000 2 0 0 (t_x b n p)).2 59 = true then (0, t_x b n (t_P b n (Nat.beq 1 1) 4000 2 0 0 (t_x b n p)).2) else (1, (t_P b n (Nat.beq 1 1) 4000 2 0 0 (t_x b n p)).2))) := by unfold t_cl; rw [hcw]; rfl
  refine w_aload_n rfl rfl (w_virtual (dc := dd + 12) (M' := m_X12_sortOf) rfl (g_vir (n := 1) rfl rfl (by simp [p_cat, p_bd, Value.category]) rfl rfl e64 rfl) rfl rfl (Nat.le_refl _) ((r_sortOf (dd := dd) hS').mono (by omega) (fun _ _ q => q)) ?_)
  rintro v h2 ⟨rfl, rfl⟩
  rw [ecl, hcw, show s_cs 1 = Int32.ofNat (1) from rfl]
  refine w_istore_n rfl (by decide) (w_iload_n rfl p_lk_s1 ?_)
  refine w_ifc_t rfl (t := 11) rfl (by decide) (w_iload_n rfl p_lk_s1 (w_ic 2 rfl rfl (w_icmp_f rfl (t := 29) rfl (by decide) (w_aload_n rfl (w_s1 rfl rfl (by decide)) (w_getf rfl rfl e64 f21 (w_iload_n rfl p_lk_s1 (w_static (nn := 0) (dc := dd + 12) (M' := m_X12_has) rfl rfl rfl rfl (Nat.le_refl _) (r_has (x := on) (s := 1) hon (by decide)) ?_)))))))
  rintro v h2 ⟨rfl, rfl⟩
  by_cases qh : on / 2 ^ 1 % 2 = 1
  · rw [if_pos ⟨by decide, qh⟩, qh]
    exact w_ifc_f rfl (t := 29) rfl (by decide) (w_ic 4 rfl rfl (w_ireturn rfl rfl ⟨rfl, w, so, m, on, hS', fun e => absurd e (by decide)⟩))
  have qh2 : Nat.beq (on / 2 ^ 1 % 2) 1 = false := Bool.eq_false_iff.mpr (fun e => qh (Nat.eq_of_beq_eq_true e))
  rw [if_neg (fun e => qh e.2), qh2]
  obtain ⟨eor, hon2⟩ := s_or1 on hon 1 (by decide) qh
  refine w_ifc_t rfl (t := 29) rfl (by decide) (w_aload_n rfl (w_s1 rfl rfl (by decide)) (w_getf rfl rfl e64 f2 (w_aload_n rfl (w_s1 rfl rfl (by decide)) (w_getf rfl rfl e64 f12 (w_ld rfl e67 (by omega) tm (w_istore_n rfl (by decide) (w_iload_n rfl p_lk_s1 (w_bp 24 rfl rfl ?_))))))))
  by_cases q24 : m = 24
  · rw [if_pos q24]
    exact w_icmp_f rfl (t := 48) rfl (by rw [q24]; decide) (w_bp 6 rfl rfl (w_ireturn rfl rfl ⟨rfl, w, so, m, on, hS', fun e => absurd e (by decide)⟩))
  rw [if_neg q24]
  have hm24 : m < 24 := by omega
  refine w_icmp_t rfl (t := 48) rfl (by simp only [p_cd, decide_eq_true_eq]; exact b_ofNat_ne (by omega) (by omega) q24) (w_iload_n rfl (w_s1 p_lk_s1 rfl (by decide)) (w_ic 2 rfl rfl (w_icmp_f rfl (t := 65) rfl (by decide) (w_aload_n rfl (w_s1 (w_s1 rfl rfl (by decide)) rfl (by decide)) (w_dup rfl rfl (w_getf rfl rfl e64 f21 (w_ic 1 rfl rfl (w_iload_n rfl (w_s1 p_lk_s1 rfl (by decide)) (w_ishl rfl (w_ior rfl ?_))))))))))
  rw [eor]
  refine w_putf rfl rfl e64 rfl rfl (w_flt f21) (w_aload_n rfl (w_s1 (w_s1 rfl rfl (by decide)) rfl (by decide)) (w_iload_n rfl (w_s1 p_lk_s1 rfl (by decide)) (w_putf rfl rfl (a_gs e64) rfl rfl (w_flt (w_fne f14 (by decide))) ?_)))
  refine w_use (X := fun h => r_S0 h b n p w 1 t0 m ((on + 2 ^ 1))) ⟨_, _, _, _, _, _, _, _, _, _, _, (a_gs (a_gs e64)), (by first | exact fl | (simp only [List.length_set]; exact fl)), (w_fne (w_fne f2 (by decide)) (by decide)), (w_fne (w_fne f3 (by decide)) (by decide)), (w_fne (w_fne f4 (by decide)) (by decide)), ⟨(w_fne (w_fne f8 (by decide)) (by decide)), ⟨t, (w_fne (w_fne f9 (by decide)) (by decide)), t256, tR⟩, ⟨x10, (w_fne (w_fne f10 (by decide)) (by decide)), f10'⟩, ⟨z11, (w_fne (w_fne f11 (by decide)) (by decide)), f11'⟩, a7, (w_fne (w_fne f7 (by decide)) (by decide)), a7n, a7e⟩, (w_fne (w_fne f12 (by decide)) (by decide)), (w_fne (w_fne f13 (by decide)) (by decide)), (w_fat (w_fne f14 (by decide))), (w_fne (w_fne f15 (by decide)) (by decide)), (w_fne (w_fne f16 (by decide)) (by decide)), (w_fne (w_fne f17 (by decide)) (by decide)), (w_fne (w_fne f18 (by decide)) (by decide)), (w_fne (w_fne f19 (by decide)) (by decide)), (w_fne (w_fne f20 (by decide)) (by decide)), (w_fne (w_fat f21) (by decide)), (a_ga (by decide) (a_ga (by decide) e67)), (by first | exact tl | (simp only [List.length_set]; exact tl)), tm, (a_ga (by decide) (a_ga (by decide) e68)), hb, (a_ga (by decide) (a_ga (by decide) e69)), (by first | exact pl | (simp only [List.length_set]; exact pl)), (a_ga (by decide) (a_ga (by decide) e70)), (by first | exact cl | (simp only [List.length_set]; exact cl)), (w_fne (w_fne f0 (by decide)) (by decide)), (a_ga (by decide) (a_ga (by decide) e65)), a1⟩ (fun hS1 => ?_)
  have hpn : p < n := t_cw_lt (by rw [hcw]; decide)
  have hk1 := t_cw_k (b := b) (n := n) (p := p) (by rw [hcw]; decide)
  have hx := t_x_lt (b := b) hpn
  refine w_aload_n rfl (w_s1 (w_s1 rfl rfl (by decide)) rfl (by decide)) (w_virtual (dc := dd + 12) (M' := m_X12_nextToken) rfl (g_vir (n := 1) rfl rfl (by simp [p_cat, p_bd, Value.category]) rfl rfl (a_gs (a_gs e64)) rfl) rfl rfl (Nat.le_refl _) ((r_next0 (dd := dd) hS1 hn (t_nb (by omega))).mono (by omega) (fun _ _ q => q)) ?_)
  rintro v h3 ⟨rfl, hS3⟩
  have hS3b := hS3
  obtain ⟨fs3, tv3, tp3, pv3, cv3, y173, y183, y193, y203, av3, y13, e643, fl3, f23, f33, f43, ⟨f83, ⟨t3, f93, t2563, tR3⟩, ⟨x103, f103, f10'3⟩, ⟨z113, f113, f11'3⟩, a73, f73, a7n3, a7e3⟩, f123, f133, f143, f153, f163, f173, f183, f193, f203, f213, e673, tl3, tm3, e683, hb3, e693, pl3, e703, cl3, f03, e653, a13⟩ := hS3
  refine w_aload_n rfl (w_s1 (w_s1 rfl rfl (by decide)) rfl (by decide)) (w_getf rfl rfl e643 f123 (w_ic 1 rfl rfl (w_addN rfl (w_bp 7 rfl rfl (w_iload_n rfl p_lk_s1 (w_mulN rfl (w_addN rfl (w_istore_n rfl (by decide) (w_aload_n rfl (w_s1 (w_s1 (w_s1 rfl rfl (by decide)) rfl (by decide)) rfl (by decide)) (w_getf rfl rfl e643 f23 (w_iload_n rfl p_lk_s1 (w_iload_n rfl (w_s1 (w_s1 p_lk_s1 rfl (by decide)) rfl (by decide)) (w_st rfl e673 (by omega) (by omega) ?_)))))))))))))
  refine w_use (X := fun h => r_S0 h b n (t_x b n p) w 1 t0 m ((on + 2 ^ 1))) ⟨_, _, _, _, _, _, _, _, _, _, _, (a_ga (by decide) e643), (by first | exact fl3 | (simp only [List.length_set]; exact fl3)), f23, f33, f43, ⟨f83, ⟨t3, f93, t2563, tR3⟩, ⟨x103, f103, f10'3⟩, ⟨z113, f113, f11'3⟩, a73, f73, a7n3, a7e3⟩, f123, f133, f143, f153, f163, f173, f183, f193, f203, f213, (a_gs e673), (by first | exact tl3 | (simp only [List.length_set]; exact tl3)), (by rw [List.getElem?_set_ne (by omega)]; exact tm3), (a_ga (by decide) e683), hb3, (a_ga (by decide) e693), (by first | exact pl3 | (simp only [List.length_set]; exact pl3)), (a_ga (by decide) e703), (by first | exact cl3 | (simp only [List.length_set]; exact cl3)), f03, (a_ga (by decide) e653), a13⟩ (fun hS4 => ?_)
  refine w_aload_n rfl (w_s1 (w_s1 (w_s1 rfl rfl (by decide)) rfl (by decide)) rfl (by decide)) (w_iload_n rfl (w_s1 (w_s1 p_lk_s1 rfl (by decide)) rfl (by decide)) (w_iload_n rfl p_lk_s1 (w_virtual (dc := dd + 12) (M' := m_X12_body) rfl (g_vir (n := 3) rfl rfl (by simp [p_cat, p_bd, Value.category]) rfl rfl (a_ga (by decide) e643) rfl) rfl rfl (Nat.le_refl _) (r_body1 (dd := dd) hS4 (r := t_P b n (Nat.beq 1 1) 4000 2 0 0 (t_x b n p)) hn (by decide) ht hx.2 (by omega) (by omega) (by omega) rfl) ?_)))
  rintro v h5 ⟨rfl, w5, hS5, hB5⟩
  refine w_istore rfl (by decide) (w_iload rfl p_lk_s1 ?_)
  generalize hs : t_P b n (Nat.beq 1 1) 4000 2 0 0 (t_x b n p) = s at hS5 hB5
  have h100 : s.1 < 100000 := by rw [← hs]; exact Nat.lt_trans t_P_100 (by decide)
  by_cases e0 : s.1 = 0
  · rw [if_neg (fun q => q e0), e0]
    have hS6 := hS5
    have hB6 := hB5 e0
    obtain ⟨fs5, tv5, tp5, pv5, cv5, y175, y185, y195, y205, av5, y15, e645, fl5, f25, f35, f45, ⟨f85, ⟨t5, f95, t2565, tR5⟩, ⟨x105, f105, f10'5⟩, ⟨z115, f115, f11'5⟩, a75, f75, a7n5, a7e5⟩, f125, f135, f145, f155, f165, f175, f185, f195, f205, f215, e675, tl5, tm5, e685, hb5, e695, pl5, e705, cl5, f05, e655, a15⟩ := hS5
    refine w_ifc_t rfl (t := 109) rfl (by decide) (w_aload_n rfl (w_s1 (w_s1 (w_s1 (w_s1 rfl rfl (by decide)) rfl (by decide)) rfl (by decide)) rfl (by decide)) (w_getf rfl rfl e645 f25 (w_aload_n rfl (w_s1 (w_s1 (w_s1 (w_s1 rfl rfl (by decide)) rfl (by decide)) rfl (by decide)) rfl (by decide)) (w_getf rfl rfl e645 f125 (w_dup2 rfl (w_ld rfl e675 (by omega) tm5 (w_ic 1 rfl rfl (w_addN rfl (w_st rfl e675 (by omega) (by omega) (w_aload_n rfl (w_s1 (w_s1 (w_s1 (w_s1 rfl rfl (by decide)) rfl (by decide)) rfl (by decide)) rfl (by decide)) (w_getf rfl rfl (a_ga (by decide) e645) f95 (w_bp 59 rfl rfl ?_))))))))))))
    refine w_use (X := fun h => r_S0 h b n (s.2) w5 1 t0 ((m + 1)) ((on + 2 ^ 1))) ⟨_, _, _, _, _, _, _, _, _, _, _, (a_ga (by decide) e645), (by first | exact fl5 | (simp only [List.length_set]; exact fl5)), f25, f35, f45, ⟨f85, ⟨t5, f95, t2565, tR5⟩, ⟨x105, f105, f10'5⟩, ⟨z115, f115, f11'5⟩, a75, f75, a7n5, a7e5⟩, f125, f135, f145, f155, f165, f175, f185, f195, f205, f215, (a_gs e675), (by first | exact tl5 | (simp only [List.length_set]; exact tl5)), (List.getElem?_set_self (by omega)), (a_ga (by decide) e685), hb5, (a_ga (by decide) e695), (by first | exact pl5 | (simp only [List.length_set]; exact pl5)), (a_ga (by decide) e705), (by first | exact cl5 | (simp only [List.length_set]; exact cl5)), f05, (a_ga (by decide) e655), a15⟩ (fun hS7 => ?_)
    by_cases q59 : t_is b n s.2 59 = true
    · rw [if_pos q59]
      have et : t5 = 59 := (tR5.2.2.2 59 (by omega)).mpr (t_is_iff.mp q59)
      have hy := t_x_lt (b := b) (t_is_lt q59)
      refine w_icmp_t rfl (t := 133) rfl (by rw [et]; decide) (w_aload_n rfl (w_s1 (w_s1 (w_s1 (w_s1 rfl rfl (by decide)) rfl (by decide)) rfl (by decide)) rfl (by decide)) (w_virtual (dc := dd + 12) (M' := m_X12_nextToken) rfl (g_vir (n := 1) rfl rfl (by simp [p_cat, p_bd, Value.category]) rfl rfl (a_ga (by decide) e645) rfl) rfl rfl (Nat.le_refl _) ((r_next0 (dd := dd) hS7 hn (t_nb2 q59 (by decide) (by decide))).mono (by omega) (fun _ _ q => q)) ?_))
      rintro v h8 ⟨rfl, hS8⟩
      exact w_ic 0 rfl rfl (w_ireturn rfl rfl ⟨rfl, w5, 1, m + 1, (on + 2 ^ 1), hS8, fun _ => ⟨by show _ ≤ t_x b n s.2 + 3; omega, by show p < t_x b n s.2; omega, hy.2, rfl, hm24, by omega, by rw [hcw, if_pos (by decide : 1 < 3)]⟩⟩)
    · rw [if_neg q59]
      have et : ¬ t5 = 59 := fun e => q59 (t_is_iff.mpr ((tR5.2.2.2 59 (by omega)).mp e))
      exact w_icmp_f rfl (t := 133) rfl (by simp only [p_cd, decide_eq_false_iff_not]; exact b_ofNat_ne (by omega) (by omega) et) (w_ic 1 rfl rfl (w_ireturn rfl rfl ⟨rfl, w5, 1, m + 1, (on + 2 ^ 1), hS7, fun e => absurd e (by decide)⟩))
  · rw [if_pos e0]
    exact w_ifc_f rfl (t := 109) rfl (by simp only [p_cd, decide_eq_false_iff_not]; exact b_ofNat_ne (b := 0) h100 (by omega) e0) (w_iload rfl p_lk_s1 (w_ireturn rfl rfl ⟨rfl, w5, 1, m, (on + 2 ^ 1), hS5, fun e => absurd e e0⟩))
set_option maxRecDepth 100000 in
theorem r_cl2 (hS : r_S0 h b n p w so t0 m on) (hn : n ≤ 300) (ht : t0 ≤ 2331) (hp : p ≤ n) (hw : w ≤ p + 3) (hm : m ≤ 24) (hon : on < 8) (hcw : t_cw b n p = 2) : p_wp p_GT p_MT (dd + 13) m_X12_clause 0 (lv_args 0 [.ref 64]) [] h (fun v h2 => v = some (.int (Int32.ofNat (t_cl b n m on p).1)) ∧ ∃ w2 so2 m2 on2 : Nat, r_S0 h2 b n (t_cl b n m on p).2 w2 so2 t0 m2 on2 ∧ ((t_cl b n m on p).1 = 0 → w2 ≤ (t_cl b n m on p).2 + 3 ∧ p < (t_cl b n m on p).2 ∧ (t_cl b n m on p).2 ≤ n ∧ m2 = m + 1 ∧ m < 24 ∧ on2 < 8 ∧ on2 = (if t_cw b n p < 3 then on + 2 ^ t_cw b n p else on))) := by
  have hS' := hS
  obtain ⟨fs, tv, tp, pv, cv, y17, y18, y19, y20, av, y1, e64, fl, f2, f3, f4, ⟨f8, ⟨t, f9, t256, tR⟩, ⟨x10, f10, f10'⟩, ⟨z11, f11, f11'⟩, a7, f7, a7n, a7e⟩, f12, f13, f14, f15, f16, f17, f18, f19, f20, f21, e67, tl, tm, e68, hb, e69, pl, e70, cl, f0, e65, a1⟩ := hS
  have ecl : t_cl b n m on p = (if 2 < 3 ∧ on / 2 ^ 2 % 2 = 1 then (4, p) else if m = 24 then (6, p) else (if (t_P b n (Nat.beq 2 1) 4000 2 0 0 (t_x b n p)).1 ≠ 0 then t_P b n (Nat.beq 2 1) 4000 2 0 0 (t_x b n p) else if t_is b n (t_P b n (Nat.beq 2 1) 4000 2 0 0 (t_x b n p)).2 59 = true then (0, t_x b n (t_P b n (Nat.beq 2 1) 4000 2 0 0 (t_x b n p)).2) else (1, (t_P b n (Nat.beq 2 1) 4000 2 0 0 (t_x b n p)).2))) := by unfold t_cl; rw [hcw]; rfl
  refine w_aload_n rfl rfl (w_virtual (dc := dd + 12) (M' := m_X12_sortOf) rfl (g_vir (n := 1) rfl rfl (by simp [p_cat, p_bd, Value.category]) rfl rfl e64 rfl) rfl rfl (Nat.le_refl _) ((r_sortOf (dd := dd) hS').mono (by omega) (fun _ _ q => q)) ?_)
  rintro v h2 ⟨rfl, rfl⟩
  rw [ecl, hcw, show s_cs 2 = Int32.ofNat (2) from rfl]
  refine w_istore_n rfl (by decide) (w_iload_n rfl p_lk_s1 ?_)
  refine w_ifc_t rfl (t := 11) rfl (by decide) (w_iload_n rfl p_lk_s1 (w_ic 2 rfl rfl (w_icmp_f rfl (t := 29) rfl (by decide) (w_aload_n rfl (w_s1 rfl rfl (by decide)) (w_getf rfl rfl e64 f21 (w_iload_n rfl p_lk_s1 (w_static (nn := 0) (dc := dd + 12) (M' := m_X12_has) rfl rfl rfl rfl (Nat.le_refl _) (r_has (x := on) (s := 2) hon (by decide)) ?_)))))))
  rintro v h2 ⟨rfl, rfl⟩
  by_cases qh : on / 2 ^ 2 % 2 = 1
  · rw [if_pos ⟨by decide, qh⟩, qh]
    exact w_ifc_f rfl (t := 29) rfl (by decide) (w_ic 4 rfl rfl (w_ireturn rfl rfl ⟨rfl, w, so, m, on, hS', fun e => absurd e (by decide)⟩))
  have qh2 : Nat.beq (on / 2 ^ 2 % 2) 1 = false := Bool.eq_false_iff.mpr (fun e => qh (Nat.eq_of_beq_eq_true e))
  rw [if_neg (fun e => qh e.2), qh2]
  obtain ⟨eor, hon2⟩ := s_or1 on hon 2 (by decide) qh
  refine w_ifc_t rfl (t := 29) rfl (by decide) (w_aload_n rfl (w_s1 rfl rfl (by decide)) (w_getf rfl rfl e64 f2 (w_aload_n rfl (w_s1 rfl rfl (by decide)) (w_getf rfl rfl e64 f12 (w_ld rfl e67 (by omega) tm (w_istore_n rfl (by decide) (w_iload_n rfl p_lk_s1 (w_bp 24 rfl rfl ?_))))))))
  by_cases q24 : m = 24
  · rw [if_pos q24]
    exact w_icmp_f rfl (t := 48) rfl (by rw [q24]; decide) (w_bp 6 rfl rfl (w_ireturn rfl rfl ⟨rfl, w, so, m, on, hS', fun e => absurd e (by decide)⟩))
  rw [if_neg q24]
  have hm24 : m < 24 := by omega
  refine w_icmp_t rfl (t := 48) rfl (by simp only [p_cd, decide_eq_true_eq]; exact b_ofNat_ne (by omega) (by omega) q24) (w_iload_n rfl (w_s1 p_lk_s1 rfl (by decide)) (w_ic 2 rfl rfl (w_icmp_f rfl (t := 65) rfl (by decide) (w_aload_n rfl (w_s1 (w_s1 rfl rfl (by decide)) rfl (by decide)) (w_dup rfl rfl (w_getf rfl rfl e64 f21 (w_ic 1 rfl rfl (w_iload_n rfl (w_s1 p_lk_s1 rfl (by decide)) (w_ishl rfl (w_ior rfl ?_))))))))))
  rw [eor]
  refine w_putf rfl rfl e64 rfl rfl (w_flt f21) (w_aload_n rfl (w_s1 (w_s1 rfl rfl (by decide)) rfl (by decide)) (w_iload_n rfl (w_s1 p_lk_s1 rfl (by decide)) (w_putf rfl rfl (a_gs e64) rfl rfl (w_flt (w_fne f14 (by decide))) ?_)))
  refine w_use (X := fun h => r_S0 h b n p w 2 t0 m ((on + 2 ^ 2))) ⟨_, _, _, _, _, _, _, _, _, _, _, (a_gs (a_gs e64)), (by first | exact fl | (simp only [List.length_set]; exact fl)), (w_fne (w_fne f2 (by decide)) (by decide)), (w_fne (w_fne f3 (by decide)) (by decide)), (w_fne (w_fne f4 (by decide)) (by decide)), ⟨(w_fne (w_fne f8 (by decide)) (by decide)), ⟨t, (w_fne (w_fne f9 (by decide)) (by decide)), t256, tR⟩, ⟨x10, (w_fne (w_fne f10 (by decide)) (by decide)), f10'⟩, ⟨z11, (w_fne (w_fne f11 (by decide)) (by decide)), f11'⟩, a7, (w_fne (w_fne f7 (by decide)) (by decide)), a7n, a7e⟩, (w_fne (w_fne f12 (by decide)) (by decide)), (w_fne (w_fne f13 (by decide)) (by decide)), (w_fat (w_fne f14 (by decide))), (w_fne (w_fne f15 (by decide)) (by decide)), (w_fne (w_fne f16 (by decide)) (by decide)), (w_fne (w_fne f17 (by decide)) (by decide)), (w_fne (w_fne f18 (by decide)) (by decide)), (w_fne (w_fne f19 (by decide)) (by decide)), (w_fne (w_fne f20 (by decide)) (by decide)), (w_fne (w_fat f21) (by decide)), (a_ga (by decide) (a_ga (by decide) e67)), (by first | exact tl | (simp only [List.length_set]; exact tl)), tm, (a_ga (by decide) (a_ga (by decide) e68)), hb, (a_ga (by decide) (a_ga (by decide) e69)), (by first | exact pl | (simp only [List.length_set]; exact pl)), (a_ga (by decide) (a_ga (by decide) e70)), (by first | exact cl | (simp only [List.length_set]; exact cl)), (w_fne (w_fne f0 (by decide)) (by decide)), (a_ga (by decide) (a_ga (by decide) e65)), a1⟩ (fun hS1 => ?_)
  have hpn : p < n := t_cw_lt (by rw [hcw]; decide)
  have hk1 := t_cw_k (b := b) (n := n) (p := p) (by rw [hcw]; decide)
  have hx := t_x_lt (b := b) hpn
  refine w_aload_n rfl (w_s1 (w_s1 rfl rfl (by decide)) rfl (by decide)) (w_virtual (dc := dd + 12) (M' := m_X12_nextToken) rfl (g_vir (n := 1) rfl rfl (by simp [p_cat, p_bd, Value.category]) rfl rfl (a_gs (a_gs e64)) rfl) rfl rfl (Nat.le_refl _) ((r_next0 (dd := dd) hS1 hn (t_nb (by omega))).mono (by omega) (fun _ _ q => q)) ?_)
  rintro v h3 ⟨rfl, hS3⟩
  have hS3b := hS3
  obtain ⟨fs3, tv3, tp3, pv3, cv3, y173, y183, y193, y203, av3, y13, e643, fl3, f23, f33, f43, ⟨f83, ⟨t3, f93, t2563, tR3⟩, ⟨x103, f103, f10'3⟩, ⟨z113, f113, f11'3⟩, a73, f73, a7n3, a7e3⟩, f123, f133, f143, f153, f163, f173, f183, f193, f203, f213, e673, tl3, tm3, e683, hb3, e693, pl3, e703, cl3, f03, e653, a13⟩ := hS3
  refine w_aload_n rfl (w_s1 (w_s1 rfl rfl (by decide)) rfl (by decide)) (w_getf rfl rfl e643 f123 (w_ic 1 rfl rfl (w_addN rfl (w_bp 7 rfl rfl (w_iload_n rfl p_lk_s1 (w_mulN rfl (w_addN rfl (w_istore_n rfl (by decide) (w_aload_n rfl (w_s1 (w_s1 (w_s1 rfl rfl (by decide)) rfl (by decide)) rfl (by decide)) (w_getf rfl rfl e643 f23 (w_iload_n rfl p_lk_s1 (w_iload_n rfl (w_s1 (w_s1 p_lk_s1 rfl (by decide)) rfl (by decide)) (w_st rfl e673 (by omega) (by omega) ?_)))))))))))))
  refine w_use (X := fun h => r_S0 h b n (t_x b n p) w 2 t0 m ((on + 2 ^ 2))) ⟨_, _, _, _, _, _, _, _, _, _, _, (a_ga (by decide) e643), (by first | exact fl3 | (simp only [List.length_set]; exact fl3)), f23, f33, f43, ⟨f83, ⟨t3, f93, t2563, tR3⟩, ⟨x103, f103, f10'3⟩, ⟨z113, f113, f11'3⟩, a73, f73, a7n3, a7e3⟩, f123, f133, f143, f153, f163, f173, f183, f193, f203, f213, (a_gs e673), (by first | exact tl3 | (simp only [List.length_set]; exact tl3)), (by rw [List.getElem?_set_ne (by omega)]; exact tm3), (a_ga (by decide) e683), hb3, (a_ga (by decide) e693), (by first | exact pl3 | (simp only [List.length_set]; exact pl3)), (a_ga (by decide) e703), (by first | exact cl3 | (simp only [List.length_set]; exact cl3)), f03, (a_ga (by decide) e653), a13⟩ (fun hS4 => ?_)
  refine w_aload_n rfl (w_s1 (w_s1 (w_s1 rfl rfl (by decide)) rfl (by decide)) rfl (by decide)) (w_iload_n rfl (w_s1 (w_s1 p_lk_s1 rfl (by decide)) rfl (by decide)) (w_iload_n rfl p_lk_s1 (w_virtual (dc := dd + 12) (M' := m_X12_body) rfl (g_vir (n := 3) rfl rfl (by simp [p_cat, p_bd, Value.category]) rfl rfl (a_ga (by decide) e643) rfl) rfl rfl (Nat.le_refl _) (r_body2 (dd := dd) hS4 (r := t_P b n (Nat.beq 2 1) 4000 2 0 0 (t_x b n p)) hn (by decide) ht hx.2 (by omega) (by omega) (by omega) rfl) ?_)))
  rintro v h5 ⟨rfl, w5, hS5, hB5⟩
  refine w_istore rfl (by decide) (w_iload rfl p_lk_s1 ?_)
  generalize hs : t_P b n (Nat.beq 2 1) 4000 2 0 0 (t_x b n p) = s at hS5 hB5
  have h100 : s.1 < 100000 := by rw [← hs]; exact Nat.lt_trans t_P_100 (by decide)
  by_cases e0 : s.1 = 0
  · rw [if_neg (fun q => q e0), e0]
    have hS6 := hS5
    have hB6 := hB5 e0
    obtain ⟨fs5, tv5, tp5, pv5, cv5, y175, y185, y195, y205, av5, y15, e645, fl5, f25, f35, f45, ⟨f85, ⟨t5, f95, t2565, tR5⟩, ⟨x105, f105, f10'5⟩, ⟨z115, f115, f11'5⟩, a75, f75, a7n5, a7e5⟩, f125, f135, f145, f155, f165, f175, f185, f195, f205, f215, e675, tl5, tm5, e685, hb5, e695, pl5, e705, cl5, f05, e655, a15⟩ := hS5
    refine w_ifc_t rfl (t := 109) rfl (by decide) (w_aload_n rfl (w_s1 (w_s1 (w_s1 (w_s1 rfl rfl (by decide)) rfl (by decide)) rfl (by decide)) rfl (by decide)) (w_getf rfl rfl e645 f25 (w_aload_n rfl (w_s1 (w_s1 (w_s1 (w_s1 rfl rfl (by decide)) rfl (by decide)) rfl (by decide)) rfl (by decide)) (w_getf rfl rfl e645 f125 (w_dup2 rfl (w_ld rfl e675 (by omega) tm5 (w_ic 1 rfl rfl (w_addN rfl (w_st rfl e675 (by omega) (by omega) (w_aload_n rfl (w_s1 (w_s1 (w_s1 (w_s1 rfl rfl (by decide)) rfl (by decide)) rfl (by decide)) rfl (by decide)) (w_getf rfl rfl (a_ga (by decide) e645) f95 (w_bp 59 rfl rfl ?_))))))))))))
    refine w_use (X := fun h => r_S0 h b n (s.2) w5 2 t0 ((m + 1)) ((on + 2 ^ 2))) ⟨_, _, _, _, _, _, _, _, _, _, _, (a_ga (by decide) e645), (by first | exact fl5 | (simp only [List.length_set]; exact fl5)), f25, f35, f45, ⟨f85, ⟨t5, f95, t2565, tR5⟩, ⟨x105, f105, f10'5⟩, ⟨z115, f115, f11'5⟩, a75, f75, a7n5, a7e5⟩, f125, f135, f145, f155, f165, f175, f185, f195, f205, f215, (a_gs e675), (by first | exact tl5 | (simp only [List.length_set]; exact tl5)), (List.getElem?_set_self (by omega)), (a_ga (by decide) e685), hb5, (a_ga (by decide) e695), (by first | exact pl5 | (simp only [List.length_set]; exact pl5)), (a_ga (by decide) e705), (by first | exact cl5 | (simp only [List.length_set]; exact cl5)), f05, (a_ga (by decide) e655), a15⟩ (fun hS7 => ?_)
    by_cases q59 : t_is b n s.2 59 = true
    · rw [if_pos q59]
      have et : t5 = 59 := (tR5.2.2.2 59 (by omega)).mpr (t_is_iff.mp q59)
      have hy := t_x_lt (b := b) (t_is_lt q59)
      refine w_icmp_t rfl (t := 133) rfl (by rw [et]; decide) (w_aload_n rfl (w_s1 (w_s1 (w_s1 (w_s1 rfl rfl (by decide)) rfl (by decide)) rfl (by decide)) rfl (by decide)) (w_virtual (dc := dd + 12) (M' := m_X12_nextToken) rfl (g_vir (n := 1) rfl rfl (by simp [p_cat, p_bd, Value.category]) rfl rfl (a_ga (by decide) e645) rfl) rfl rfl (Nat.le_refl _) ((r_next0 (dd := dd) hS7 hn (t_nb2 q59 (by decide) (by decide))).mono (by omega) (fun _ _ q => q)) ?_))
      rintro v h8 ⟨rfl, hS8⟩
      exact w_ic 0 rfl rfl (w_ireturn rfl rfl ⟨rfl, w5, 2, m + 1, (on + 2 ^ 2), hS8, fun _ => ⟨by show _ ≤ t_x b n s.2 + 3; omega, by show p < t_x b n s.2; omega, hy.2, rfl, hm24, by omega, by rw [hcw, if_pos (by decide : 2 < 3)]⟩⟩)
    · rw [if_neg q59]
      have et : ¬ t5 = 59 := fun e => q59 (t_is_iff.mpr ((tR5.2.2.2 59 (by omega)).mp e))
      exact w_icmp_f rfl (t := 133) rfl (by simp only [p_cd, decide_eq_false_iff_not]; exact b_ofNat_ne (by omega) (by omega) et) (w_ic 1 rfl rfl (w_ireturn rfl rfl ⟨rfl, w5, 2, m + 1, (on + 2 ^ 2), hS7, fun e => absurd e (by decide)⟩))
  · rw [if_pos e0]
    exact w_ifc_f rfl (t := 109) rfl (by simp only [p_cd, decide_eq_false_iff_not]; exact b_ofNat_ne (b := 0) h100 (by omega) e0) (w_iload rfl p_lk_s1 (w_ireturn rfl rfl ⟨rfl, w5, 2, m, (on + 2 ^ 2), hS5, fun e => absurd e e0⟩))
set_option maxRecDepth 100000 in
theorem r_cl3 (hS : r_S0 h b n p w so t0 m on) (hn : n ≤ 300) (ht : t0 ≤ 2331) (hp : p ≤ n) (hw : w ≤ p + 3) (hm : m ≤ 24) (hon : on < 8) (hcw : t_cw b n p = 3) : p_wp p_GT p_MT (dd + 13) m_X12_clause 0 (lv_args 0 [.ref 64]) [] h (fun v h2 => v = some (.int (Int32.ofNat (t_cl b n m on p).1)) ∧ ∃ w2 so2 m2 on2 : Nat, r_S0 h2 b n (t_cl b n m on p).2 w2 so2 t0 m2 on2 ∧ ((t_cl b n m on p).1 = 0 → w2 ≤ (t_cl b n m on p).2 + 3 ∧ p < (t_cl b n m on p).2 ∧ (t_cl b n m on p).2 ≤ n ∧ m2 = m + 1 ∧ m < 24 ∧ on2 < 8 ∧ on2 = (if t_cw b n p < 3 then on + 2 ^ t_cw b n p else on))) := by
  have hS' := hS
  obtain ⟨fs, tv, tp, pv, cv, y17, y18, y19, y20, av, y1, e64, fl, f2, f3, f4, ⟨f8, ⟨t, f9, t256, tR⟩, ⟨x10, f10, f10'⟩, ⟨z11, f11, f11'⟩, a7, f7, a7n, a7e⟩, f12, f13, f14, f15, f16, f17, f18, f19, f20, f21, e67, tl, tm, e68, hb, e69, pl, e70, cl, f0, e65, a1⟩ := hS
  have ecl : t_cl b n m on p = (if m = 24 then (6, p) else (if (t_D b n [(0, 2, 8), (1, 16, 0), (0, 2, 8)] (t_x b n p)).1 ≠ 0 then t_D b n [(0, 2, 8), (1, 16, 0), (0, 2, 8)] (t_x b n p) else if t_is b n (t_D b n [(0, 2, 8), (1, 16, 0), (0, 2, 8)] (t_x b n p)).2 59 = true then (0, t_x b n (t_D b n [(0, 2, 8), (1, 16, 0), (0, 2, 8)] (t_x b n p)).2) else (1, (t_D b n [(0, 2, 8), (1, 16, 0), (0, 2, 8)] (t_x b n p)).2))) := by unfold t_cl; rw [hcw]; rfl
  refine w_aload_n rfl rfl (w_virtual (dc := dd + 12) (M' := m_X12_sortOf) rfl (g_vir (n := 1) rfl rfl (by simp [p_cat, p_bd, Value.category]) rfl rfl e64 rfl) rfl rfl (Nat.le_refl _) ((r_sortOf (dd := dd) hS').mono (by omega) (fun _ _ q => q)) ?_)
  rintro v h2 ⟨rfl, rfl⟩
  rw [ecl, hcw, show s_cs 3 = Int32.ofNat (3) from rfl]
  refine w_istore_n rfl (by decide) (w_iload_n rfl p_lk_s1 ?_)
  refine w_ifc_t rfl (t := 11) rfl (by decide) (w_iload_n rfl p_lk_s1 (w_ic 2 rfl rfl (w_icmp_t rfl (t := 29) rfl (by decide) (w_aload_n rfl (w_s1 rfl rfl (by decide)) (w_getf rfl rfl e64 f2 (w_aload_n rfl (w_s1 rfl rfl (by decide)) (w_getf rfl rfl e64 f12 (w_ld rfl e67 (by omega) tm (w_istore_n rfl (by decide) (w_iload_n rfl p_lk_s1 (w_bp 24 rfl rfl ?_)))))))))))
  by_cases q24 : m = 24
  · rw [if_pos q24]
    exact w_icmp_f rfl (t := 48) rfl (by rw [q24]; decide) (w_bp 6 rfl rfl (w_ireturn rfl rfl ⟨rfl, w, so, m, on, hS', fun e => absurd e (by decide)⟩))
  rw [if_neg q24]
  have hm24 : m < 24 := by omega
  refine w_icmp_t rfl (t := 48) rfl (by simp only [p_cd, decide_eq_true_eq]; exact b_ofNat_ne (by omega) (by omega) q24) (w_iload_n rfl (w_s1 p_lk_s1 rfl (by decide)) (w_ic 2 rfl rfl (w_icmp_t rfl (t := 65) rfl (by decide) (w_aload_n rfl (w_s1 (w_s1 rfl rfl (by decide)) rfl (by decide)) (w_iload_n rfl (w_s1 p_lk_s1 rfl (by decide)) (w_putf rfl rfl e64 rfl rfl (w_flt f14) ?_))))))
  have hpn : p < n := t_cw_lt (by rw [hcw]; decide)
  have hk1 := t_cw_k (b := b) (n := n) (p := p) (by rw [hcw]; decide)
  have hx := t_x_lt (b := b) hpn
  refine w_aload_n rfl (w_s1 (w_s1 rfl rfl (by decide)) rfl (by decide)) (w_virtual (dc := dd + 12) (M' := m_X12_nextToken) rfl (g_vir (n := 1) rfl rfl (by simp [p_cat, p_bd, Value.category]) rfl rfl (a_gs e64) rfl) rfl rfl (Nat.le_refl _) ((r_next0 (dd := dd) hS' hn (t_nb (by omega))).mono (by omega) (fun _ _ q => q)) ?_)
  rintro v h3 ⟨rfl, hS3⟩
  have hS3b := hS3
  obtain ⟨fs3, tv3, tp3, pv3, cv3, y173, y183, y193, y203, av3, y13, e643, fl3, f23, f33, f43, ⟨f83, ⟨t3, f93, t2563, tR3⟩, ⟨x103, f103, f10'3⟩, ⟨z113, f113, f11'3⟩, a73, f73, a7n3, a7e3⟩, f123, f133, f143, f153, f163, f173, f183, f193, f203, f213, e673, tl3, tm3, e683, hb3, e693, pl3, e703, cl3, f03, e653, a13⟩ := hS3
  refine w_aload_n rfl (w_s1 (w_s1 rfl rfl (by decide)) rfl (by decide)) (w_getf rfl rfl e643 f123 (w_ic 1 rfl rfl (w_addN rfl (w_bp 7 rfl rfl (w_iload_n rfl p_lk_s1 (w_mulN rfl (w_addN rfl (w_istore_n rfl (by decide) (w_aload_n rfl (w_s1 (w_s1 (w_s1 rfl rfl (by decide)) rfl (by decide)) rfl (by decide)) (w_getf rfl rfl e643 f23 (w_iload_n rfl p_lk_s1 (w_iload_n rfl (w_s1 (w_s1 p_lk_s1 rfl (by decide)) rfl (by decide)) (w_st rfl e673 (by omega) (by omega) ?_)))))))))))))
  refine w_use (X := fun h => r_S0 h b n (t_x b n p) w so t0 m on) ⟨_, _, _, _, _, _, _, _, _, _, _, (a_ga (by decide) e643), (by first | exact fl3 | (simp only [List.length_set]; exact fl3)), f23, f33, f43, ⟨f83, ⟨t3, f93, t2563, tR3⟩, ⟨x103, f103, f10'3⟩, ⟨z113, f113, f11'3⟩, a73, f73, a7n3, a7e3⟩, f123, f133, f143, f153, f163, f173, f183, f193, f203, f213, (a_gs e673), (by first | exact tl3 | (simp only [List.length_set]; exact tl3)), (by rw [List.getElem?_set_ne (by omega)]; exact tm3), (a_ga (by decide) e683), hb3, (a_ga (by decide) e693), (by first | exact pl3 | (simp only [List.length_set]; exact pl3)), (a_ga (by decide) e703), (by first | exact cl3 | (simp only [List.length_set]; exact cl3)), f03, (a_ga (by decide) e653), a13⟩ (fun hS4 => ?_)
  refine w_aload_n rfl (w_s1 (w_s1 (w_s1 rfl rfl (by decide)) rfl (by decide)) rfl (by decide)) (w_iload_n rfl (w_s1 (w_s1 p_lk_s1 rfl (by decide)) rfl (by decide)) (w_iload_n rfl p_lk_s1 (w_virtual (dc := dd + 12) (M' := m_X12_body) rfl (g_vir (n := 3) rfl rfl (by simp [p_cat, p_bd, Value.category]) rfl rfl (a_ga (by decide) e643) rfl) rfl rfl (Nat.le_refl _) ((r_body3 (dd := dd) hS4 hn (by omega) (by omega)).mono (by omega) (fun _ _ q => q)) ?_)))
  rintro v h5 ⟨rfl, hS5⟩
  refine w_istore rfl (by decide) (w_iload rfl p_lk_s1 ?_)
  have hB5 := t_D_le (b := b) (n := n) [(0, 2, 8), (1, 16, 0), (0, 2, 8)] (t_x b n p) hx.2
  generalize hs : t_D b n [(0, 2, 8), (1, 16, 0), (0, 2, 8)] (t_x b n p) = s at hS5 hB5
  have h100 : s.1 < 100000 := by rw [← hs]; exact t_D_100
  by_cases e0 : s.1 = 0
  · rw [if_neg (fun q => q e0), e0]
    have hS6 := hS5
    obtain ⟨fs5, tv5, tp5, pv5, cv5, y175, y185, y195, y205, av5, y15, e645, fl5, f25, f35, f45, ⟨f85, ⟨t5, f95, t2565, tR5⟩, ⟨x105, f105, f10'5⟩, ⟨z115, f115, f11'5⟩, a75, f75, a7n5, a7e5⟩, f125, f135, f145, f155, f165, f175, f185, f195, f205, f215, e675, tl5, tm5, e685, hb5, e695, pl5, e705, cl5, f05, e655, a15⟩ := hS5
    refine w_ifc_t rfl (t := 109) rfl (by decide) (w_aload_n rfl (w_s1 (w_s1 (w_s1 (w_s1 rfl rfl (by decide)) rfl (by decide)) rfl (by decide)) rfl (by decide)) (w_getf rfl rfl e645 f25 (w_aload_n rfl (w_s1 (w_s1 (w_s1 (w_s1 rfl rfl (by decide)) rfl (by decide)) rfl (by decide)) rfl (by decide)) (w_getf rfl rfl e645 f125 (w_dup2 rfl (w_ld rfl e675 (by omega) tm5 (w_ic 1 rfl rfl (w_addN rfl (w_st rfl e675 (by omega) (by omega) (w_aload_n rfl (w_s1 (w_s1 (w_s1 (w_s1 rfl rfl (by decide)) rfl (by decide)) rfl (by decide)) rfl (by decide)) (w_getf rfl rfl (a_ga (by decide) e645) f95 (w_bp 59 rfl rfl ?_))))))))))))
    refine w_use (X := fun h => r_S0 h b n (s.2) w so t0 ((m + 1)) on) ⟨_, _, _, _, _, _, _, _, _, _, _, (a_ga (by decide) e645), (by first | exact fl5 | (simp only [List.length_set]; exact fl5)), f25, f35, f45, ⟨f85, ⟨t5, f95, t2565, tR5⟩, ⟨x105, f105, f10'5⟩, ⟨z115, f115, f11'5⟩, a75, f75, a7n5, a7e5⟩, f125, f135, f145, f155, f165, f175, f185, f195, f205, f215, (a_gs e675), (by first | exact tl5 | (simp only [List.length_set]; exact tl5)), (List.getElem?_set_self (by omega)), (a_ga (by decide) e685), hb5, (a_ga (by decide) e695), (by first | exact pl5 | (simp only [List.length_set]; exact pl5)), (a_ga (by decide) e705), (by first | exact cl5 | (simp only [List.length_set]; exact cl5)), f05, (a_ga (by decide) e655), a15⟩ (fun hS7 => ?_)
    by_cases q59 : t_is b n s.2 59 = true
    · rw [if_pos q59]
      have et : t5 = 59 := (tR5.2.2.2 59 (by omega)).mpr (t_is_iff.mp q59)
      have hy := t_x_lt (b := b) (t_is_lt q59)
      refine w_icmp_t rfl (t := 133) rfl (by rw [et]; decide) (w_aload_n rfl (w_s1 (w_s1 (w_s1 (w_s1 rfl rfl (by decide)) rfl (by decide)) rfl (by decide)) rfl (by decide)) (w_virtual (dc := dd + 12) (M' := m_X12_nextToken) rfl (g_vir (n := 1) rfl rfl (by simp [p_cat, p_bd, Value.category]) rfl rfl (a_ga (by decide) e645) rfl) rfl rfl (Nat.le_refl _) ((r_next0 (dd := dd) hS7 hn (t_nb2 q59 (by decide) (by decide))).mono (by omega) (fun _ _ q => q)) ?_))
      rintro v h8 ⟨rfl, hS8⟩
      exact w_ic 0 rfl rfl (w_ireturn rfl rfl ⟨rfl, w, so, m + 1, on, hS8, fun _ => ⟨by show _ ≤ t_x b n s.2 + 3; omega, by show p < t_x b n s.2; omega, hy.2, rfl, hm24, by omega, by rw [hcw, if_neg (by decide : ¬ 3 < 3)]⟩⟩)
    · rw [if_neg q59]
      have et : ¬ t5 = 59 := fun e => q59 (t_is_iff.mpr ((tR5.2.2.2 59 (by omega)).mp e))
      exact w_icmp_f rfl (t := 133) rfl (by simp only [p_cd, decide_eq_false_iff_not]; exact b_ofNat_ne (by omega) (by omega) et) (w_ic 1 rfl rfl (w_ireturn rfl rfl ⟨rfl, w, so, m + 1, on, hS7, fun e => absurd e (by decide)⟩))
  · rw [if_pos e0]
    exact w_ifc_f rfl (t := 109) rfl (by simp only [p_cd, decide_eq_false_iff_not]; exact b_ofNat_ne (b := 0) h100 (by omega) e0) (w_iload rfl p_lk_s1 (w_ireturn rfl rfl ⟨rfl, w, so, m, on, hS5, fun e => absurd e e0⟩))
set_option maxRecDepth 100000 in
theorem r_cl4 (hS : r_S0 h b n p w so t0 m on) (hn : n ≤ 300) (ht : t0 ≤ 2331) (hp : p ≤ n) (hw : w ≤ p + 3) (hm : m ≤ 24) (hon : on < 8) (hcw : t_cw b n p = 4) : p_wp p_GT p_MT (dd + 13) m_X12_clause 0 (lv_args 0 [.ref 64]) [] h (fun v h2 => v = some (.int (Int32.ofNat (t_cl b n m on p).1)) ∧ ∃ w2 so2 m2 on2 : Nat, r_S0 h2 b n (t_cl b n m on p).2 w2 so2 t0 m2 on2 ∧ ((t_cl b n m on p).1 = 0 → w2 ≤ (t_cl b n m on p).2 + 3 ∧ p < (t_cl b n m on p).2 ∧ (t_cl b n m on p).2 ≤ n ∧ m2 = m + 1 ∧ m < 24 ∧ on2 < 8 ∧ on2 = (if t_cw b n p < 3 then on + 2 ^ t_cw b n p else on))) := by
  have hS' := hS
  obtain ⟨fs, tv, tp, pv, cv, y17, y18, y19, y20, av, y1, e64, fl, f2, f3, f4, ⟨f8, ⟨t, f9, t256, tR⟩, ⟨x10, f10, f10'⟩, ⟨z11, f11, f11'⟩, a7, f7, a7n, a7e⟩, f12, f13, f14, f15, f16, f17, f18, f19, f20, f21, e67, tl, tm, e68, hb, e69, pl, e70, cl, f0, e65, a1⟩ := hS
  have ecl : t_cl b n m on p = (if m = 24 then (6, p) else (if (t_D b n [(0, 0, 9), (1, 17, 0), (0, 0, 7), (2, 44, 0), (0, 0, 7), (2, 58, 0), (0, 1, 3), (2, 44, 0), (0, 1, 3), (1, 18, 0), (0, 0, 9)] (t_x b n p)).1 ≠ 0 then t_D b n [(0, 0, 9), (1, 17, 0), (0, 0, 7), (2, 44, 0), (0, 0, 7), (2, 58, 0), (0, 1, 3), (2, 44, 0), (0, 1, 3), (1, 18, 0), (0, 0, 9)] (t_x b n p) else if t_is b n (t_D b n [(0, 0, 9), (1, 17, 0), (0, 0, 7), (2, 44, 0), (0, 0, 7), (2, 58, 0), (0, 1, 3), (2, 44, 0), (0, 1, 3), (1, 18, 0), (0, 0, 9)] (t_x b n p)).2 59 = true then (0, t_x b n (t_D b n [(0, 0, 9), (1, 17, 0), (0, 0, 7), (2, 44, 0), (0, 0, 7), (2, 58, 0), (0, 1, 3), (2, 44, 0), (0, 1, 3), (1, 18, 0), (0, 0, 9)] (t_x b n p)).2) else (1, (t_D b n [(0, 0, 9), (1, 17, 0), (0, 0, 7), (2, 44, 0), (0, 0, 7), (2, 58, 0), (0, 1, 3), (2, 44, 0), (0, 1, 3), (1, 18, 0), (0, 0, 9)] (t_x b n p)).2))) := by unfold t_cl; rw [hcw]; rfl
  refine w_aload_n rfl rfl (w_virtual (dc := dd + 12) (M' := m_X12_sortOf) rfl (g_vir (n := 1) rfl rfl (by simp [p_cat, p_bd, Value.category]) rfl rfl e64 rfl) rfl rfl (Nat.le_refl _) ((r_sortOf (dd := dd) hS').mono (by omega) (fun _ _ q => q)) ?_)
  rintro v h2 ⟨rfl, rfl⟩
  rw [ecl, hcw, show s_cs 4 = Int32.ofNat (4) from rfl]
  refine w_istore_n rfl (by decide) (w_iload_n rfl p_lk_s1 ?_)
  refine w_ifc_t rfl (t := 11) rfl (by decide) (w_iload_n rfl p_lk_s1 (w_ic 2 rfl rfl (w_icmp_t rfl (t := 29) rfl (by decide) (w_aload_n rfl (w_s1 rfl rfl (by decide)) (w_getf rfl rfl e64 f2 (w_aload_n rfl (w_s1 rfl rfl (by decide)) (w_getf rfl rfl e64 f12 (w_ld rfl e67 (by omega) tm (w_istore_n rfl (by decide) (w_iload_n rfl p_lk_s1 (w_bp 24 rfl rfl ?_)))))))))))
  by_cases q24 : m = 24
  · rw [if_pos q24]
    exact w_icmp_f rfl (t := 48) rfl (by rw [q24]; decide) (w_bp 6 rfl rfl (w_ireturn rfl rfl ⟨rfl, w, so, m, on, hS', fun e => absurd e (by decide)⟩))
  rw [if_neg q24]
  have hm24 : m < 24 := by omega
  refine w_icmp_t rfl (t := 48) rfl (by simp only [p_cd, decide_eq_true_eq]; exact b_ofNat_ne (by omega) (by omega) q24) (w_iload_n rfl (w_s1 p_lk_s1 rfl (by decide)) (w_ic 2 rfl rfl (w_icmp_t rfl (t := 65) rfl (by decide) (w_aload_n rfl (w_s1 (w_s1 rfl rfl (by decide)) rfl (by decide)) (w_iload_n rfl (w_s1 p_lk_s1 rfl (by decide)) (w_putf rfl rfl e64 rfl rfl (w_flt f14) ?_))))))
  have hpn : p < n := t_cw_lt (by rw [hcw]; decide)
  have hk1 := t_cw_k (b := b) (n := n) (p := p) (by rw [hcw]; decide)
  have hx := t_x_lt (b := b) hpn
  refine w_aload_n rfl (w_s1 (w_s1 rfl rfl (by decide)) rfl (by decide)) (w_virtual (dc := dd + 12) (M' := m_X12_nextToken) rfl (g_vir (n := 1) rfl rfl (by simp [p_cat, p_bd, Value.category]) rfl rfl (a_gs e64) rfl) rfl rfl (Nat.le_refl _) ((r_next0 (dd := dd) hS' hn (t_nb (by omega))).mono (by omega) (fun _ _ q => q)) ?_)
  rintro v h3 ⟨rfl, hS3⟩
  have hS3b := hS3
  obtain ⟨fs3, tv3, tp3, pv3, cv3, y173, y183, y193, y203, av3, y13, e643, fl3, f23, f33, f43, ⟨f83, ⟨t3, f93, t2563, tR3⟩, ⟨x103, f103, f10'3⟩, ⟨z113, f113, f11'3⟩, a73, f73, a7n3, a7e3⟩, f123, f133, f143, f153, f163, f173, f183, f193, f203, f213, e673, tl3, tm3, e683, hb3, e693, pl3, e703, cl3, f03, e653, a13⟩ := hS3
  refine w_aload_n rfl (w_s1 (w_s1 rfl rfl (by decide)) rfl (by decide)) (w_getf rfl rfl e643 f123 (w_ic 1 rfl rfl (w_addN rfl (w_bp 7 rfl rfl (w_iload_n rfl p_lk_s1 (w_mulN rfl (w_addN rfl (w_istore_n rfl (by decide) (w_aload_n rfl (w_s1 (w_s1 (w_s1 rfl rfl (by decide)) rfl (by decide)) rfl (by decide)) (w_getf rfl rfl e643 f23 (w_iload_n rfl p_lk_s1 (w_iload_n rfl (w_s1 (w_s1 p_lk_s1 rfl (by decide)) rfl (by decide)) (w_st rfl e673 (by omega) (by omega) ?_)))))))))))))
  refine w_use (X := fun h => r_S0 h b n (t_x b n p) w so t0 m on) ⟨_, _, _, _, _, _, _, _, _, _, _, (a_ga (by decide) e643), (by first | exact fl3 | (simp only [List.length_set]; exact fl3)), f23, f33, f43, ⟨f83, ⟨t3, f93, t2563, tR3⟩, ⟨x103, f103, f10'3⟩, ⟨z113, f113, f11'3⟩, a73, f73, a7n3, a7e3⟩, f123, f133, f143, f153, f163, f173, f183, f193, f203, f213, (a_gs e673), (by first | exact tl3 | (simp only [List.length_set]; exact tl3)), (by rw [List.getElem?_set_ne (by omega)]; exact tm3), (a_ga (by decide) e683), hb3, (a_ga (by decide) e693), (by first | exact pl3 | (simp only [List.length_set]; exact pl3)), (a_ga (by decide) e703), (by first | exact cl3 | (simp only [List.length_set]; exact cl3)), f03, (a_ga (by decide) e653), a13⟩ (fun hS4 => ?_)
  refine w_aload_n rfl (w_s1 (w_s1 (w_s1 rfl rfl (by decide)) rfl (by decide)) rfl (by decide)) (w_iload_n rfl (w_s1 (w_s1 p_lk_s1 rfl (by decide)) rfl (by decide)) (w_iload_n rfl p_lk_s1 (w_virtual (dc := dd + 12) (M' := m_X12_body) rfl (g_vir (n := 3) rfl rfl (by simp [p_cat, p_bd, Value.category]) rfl rfl (a_ga (by decide) e643) rfl) rfl rfl (Nat.le_refl _) ((r_body4 (dd := dd) hS4 hn (by omega) (by omega)).mono (by omega) (fun _ _ q => q)) ?_)))
  rintro v h5 ⟨rfl, hS5⟩
  refine w_istore rfl (by decide) (w_iload rfl p_lk_s1 ?_)
  have hB5 := t_D_le (b := b) (n := n) [(0, 0, 9), (1, 17, 0), (0, 0, 7), (2, 44, 0), (0, 0, 7), (2, 58, 0), (0, 1, 3), (2, 44, 0), (0, 1, 3), (1, 18, 0), (0, 0, 9)] (t_x b n p) hx.2
  generalize hs : t_D b n [(0, 0, 9), (1, 17, 0), (0, 0, 7), (2, 44, 0), (0, 0, 7), (2, 58, 0), (0, 1, 3), (2, 44, 0), (0, 1, 3), (1, 18, 0), (0, 0, 9)] (t_x b n p) = s at hS5 hB5
  have h100 : s.1 < 100000 := by rw [← hs]; exact t_D_100
  by_cases e0 : s.1 = 0
  · rw [if_neg (fun q => q e0), e0]
    have hS6 := hS5
    obtain ⟨fs5, tv5, tp5, pv5, cv5, y175, y185, y195, y205, av5, y15, e645, fl5, f25, f35, f45, ⟨f85, ⟨t5, f95, t2565, tR5⟩, ⟨x105, f105, f10'5⟩, ⟨z115, f115, f11'5⟩, a75, f75, a7n5, a7e5⟩, f125, f135, f145, f155, f165, f175, f185, f195, f205, f215, e675, tl5, tm5, e685, hb5, e695, pl5, e705, cl5, f05, e655, a15⟩ := hS5
    refine w_ifc_t rfl (t := 109) rfl (by decide) (w_aload_n rfl (w_s1 (w_s1 (w_s1 (w_s1 rfl rfl (by decide)) rfl (by decide)) rfl (by decide)) rfl (by decide)) (w_getf rfl rfl e645 f25 (w_aload_n rfl (w_s1 (w_s1 (w_s1 (w_s1 rfl rfl (by decide)) rfl (by decide)) rfl (by decide)) rfl (by decide)) (w_getf rfl rfl e645 f125 (w_dup2 rfl (w_ld rfl e675 (by omega) tm5 (w_ic 1 rfl rfl (w_addN rfl (w_st rfl e675 (by omega) (by omega) (w_aload_n rfl (w_s1 (w_s1 (w_s1 (w_s1 rfl rfl (by decide)) rfl (by decide)) rfl (by decide)) rfl (by decide)) (w_getf rfl rfl (a_ga (by decide) e645) f95 (w_bp 59 rfl rfl ?_))))))))))))
    refine w_use (X := fun h => r_S0 h b n (s.2) w so t0 ((m + 1)) on) ⟨_, _, _, _, _, _, _, _, _, _, _, (a_ga (by decide) e645), (by first | exact fl5 | (simp only [List.length_set]; exact fl5)), f25, f35, f45, ⟨f85, ⟨t5, f95, t2565, tR5⟩, ⟨x105, f105, f10'5⟩, ⟨z115, f115, f11'5⟩, a75, f75, a7n5, a7e5⟩, f125, f135, f145, f155, f165, f175, f185, f195, f205, f215, (a_gs e675), (by first | exact tl5 | (simp only [List.length_set]; exact tl5)), (List.getElem?_set_self (by omega)), (a_ga (by decide) e685), hb5, (a_ga (by decide) e695), (by first | exact pl5 | (simp only [List.length_set]; exact pl5)), (a_ga (by decide) e705), (by first | exact cl5 | (simp only [List.length_set]; exact cl5)), f05, (a_ga (by decide) e655), a15⟩ (fun hS7 => ?_)
    by_cases q59 : t_is b n s.2 59 = true
    · rw [if_pos q59]
      have et : t5 = 59 := (tR5.2.2.2 59 (by omega)).mpr (t_is_iff.mp q59)
      have hy := t_x_lt (b := b) (t_is_lt q59)
      refine w_icmp_t rfl (t := 133) rfl (by rw [et]; decide) (w_aload_n rfl (w_s1 (w_s1 (w_s1 (w_s1 rfl rfl (by decide)) rfl (by decide)) rfl (by decide)) rfl (by decide)) (w_virtual (dc := dd + 12) (M' := m_X12_nextToken) rfl (g_vir (n := 1) rfl rfl (by simp [p_cat, p_bd, Value.category]) rfl rfl (a_ga (by decide) e645) rfl) rfl rfl (Nat.le_refl _) ((r_next0 (dd := dd) hS7 hn (t_nb2 q59 (by decide) (by decide))).mono (by omega) (fun _ _ q => q)) ?_))
      rintro v h8 ⟨rfl, hS8⟩
      exact w_ic 0 rfl rfl (w_ireturn rfl rfl ⟨rfl, w, so, m + 1, on, hS8, fun _ => ⟨by show _ ≤ t_x b n s.2 + 3; omega, by show p < t_x b n s.2; omega, hy.2, rfl, hm24, by omega, by rw [hcw, if_neg (by decide : ¬ 4 < 3)]⟩⟩)
    · rw [if_neg q59]
      have et : ¬ t5 = 59 := fun e => q59 (t_is_iff.mpr ((tR5.2.2.2 59 (by omega)).mp e))
      exact w_icmp_f rfl (t := 133) rfl (by simp only [p_cd, decide_eq_false_iff_not]; exact b_ofNat_ne (by omega) (by omega) et) (w_ic 1 rfl rfl (w_ireturn rfl rfl ⟨rfl, w, so, m + 1, on, hS7, fun e => absurd e (by decide)⟩))
  · rw [if_pos e0]
    exact w_ifc_f rfl (t := 109) rfl (by simp only [p_cd, decide_eq_false_iff_not]; exact b_ofNat_ne (b := 0) h100 (by omega) e0) (w_iload rfl p_lk_s1 (w_ireturn rfl rfl ⟨rfl, w, so, m, on, hS5, fun e => absurd e e0⟩))
set_option maxRecDepth 100000 in
theorem r_cl5 (hS : r_S0 h b n p w so t0 m on) (hn : n ≤ 300) (ht : t0 ≤ 2331) (hp : p ≤ n) (hw : w ≤ p + 3) (hm : m ≤ 24) (hon : on < 8) (hcw : t_cw b n p = 5) : p_wp p_GT p_MT (dd + 13) m_X12_clause 0 (lv_args 0 [.ref 64]) [] h (fun v h2 => v = some (.int (Int32.ofNat (t_cl b n m on p).1)) ∧ ∃ w2 so2 m2 on2 : Nat, r_S0 h2 b n (t_cl b n m on p).2 w2 so2 t0 m2 on2 ∧ ((t_cl b n m on p).1 = 0 → w2 ≤ (t_cl b n m on p).2 + 3 ∧ p < (t_cl b n m on p).2 ∧ (t_cl b n m on p).2 ≤ n ∧ m2 = m + 1 ∧ m < 24 ∧ on2 < 8 ∧ on2 = (if t_cw b n p < 3 then on + 2 ^ t_cw b n p else on))) := by
  have hS' := hS
  obtain ⟨fs, tv, tp, pv, cv, y17, y18, y19, y20, av, y1, e64, fl, f2, f3, f4, ⟨f8, ⟨t, f9, t256, tR⟩, ⟨x10, f10, f10'⟩, ⟨z11, f11, f11'⟩, a7, f7, a7n, a7e⟩, f12, f13, f14, f15, f16, f17, f18, f19, f20, f21, e67, tl, tm, e68, hb, e69, pl, e70, cl, f0, e65, a1⟩ := hS
  have ecl : t_cl b n m on p = (if m = 24 then (6, p) else (if (t_D b n [(0, 0, 6)] (t_x b n p)).1 ≠ 0 then t_D b n [(0, 0, 6)] (t_x b n p) else if t_is b n (t_D b n [(0, 0, 6)] (t_x b n p)).2 59 = true then (0, t_x b n (t_D b n [(0, 0, 6)] (t_x b n p)).2) else (1, (t_D b n [(0, 0, 6)] (t_x b n p)).2))) := by unfold t_cl; rw [hcw]; rfl
  refine w_aload_n rfl rfl (w_virtual (dc := dd + 12) (M' := m_X12_sortOf) rfl (g_vir (n := 1) rfl rfl (by simp [p_cat, p_bd, Value.category]) rfl rfl e64 rfl) rfl rfl (Nat.le_refl _) ((r_sortOf (dd := dd) hS').mono (by omega) (fun _ _ q => q)) ?_)
  rintro v h2 ⟨rfl, rfl⟩
  rw [ecl, hcw, show s_cs 5 = Int32.ofNat (5) from rfl]
  refine w_istore_n rfl (by decide) (w_iload_n rfl p_lk_s1 ?_)
  refine w_ifc_t rfl (t := 11) rfl (by decide) (w_iload_n rfl p_lk_s1 (w_ic 2 rfl rfl (w_icmp_t rfl (t := 29) rfl (by decide) (w_aload_n rfl (w_s1 rfl rfl (by decide)) (w_getf rfl rfl e64 f2 (w_aload_n rfl (w_s1 rfl rfl (by decide)) (w_getf rfl rfl e64 f12 (w_ld rfl e67 (by omega) tm (w_istore_n rfl (by decide) (w_iload_n rfl p_lk_s1 (w_bp 24 rfl rfl ?_)))))))))))
  by_cases q24 : m = 24
  · rw [if_pos q24]
    exact w_icmp_f rfl (t := 48) rfl (by rw [q24]; decide) (w_bp 6 rfl rfl (w_ireturn rfl rfl ⟨rfl, w, so, m, on, hS', fun e => absurd e (by decide)⟩))
  rw [if_neg q24]
  have hm24 : m < 24 := by omega
  refine w_icmp_t rfl (t := 48) rfl (by simp only [p_cd, decide_eq_true_eq]; exact b_ofNat_ne (by omega) (by omega) q24) (w_iload_n rfl (w_s1 p_lk_s1 rfl (by decide)) (w_ic 2 rfl rfl (w_icmp_t rfl (t := 65) rfl (by decide) (w_aload_n rfl (w_s1 (w_s1 rfl rfl (by decide)) rfl (by decide)) (w_iload_n rfl (w_s1 p_lk_s1 rfl (by decide)) (w_putf rfl rfl e64 rfl rfl (w_flt f14) ?_))))))
  have hpn : p < n := t_cw_lt (by rw [hcw]; decide)
  have hk1 := t_cw_k (b := b) (n := n) (p := p) (by rw [hcw]; decide)
  have hx := t_x_lt (b := b) hpn
  refine w_aload_n rfl (w_s1 (w_s1 rfl rfl (by decide)) rfl (by decide)) (w_virtual (dc := dd + 12) (M' := m_X12_nextToken) rfl (g_vir (n := 1) rfl rfl (by simp [p_cat, p_bd, Value.category]) rfl rfl (a_gs e64) rfl) rfl rfl (Nat.le_refl _) ((r_next0 (dd := dd) hS' hn (t_nb (by omega))).mono (by omega) (fun _ _ q => q)) ?_)
  rintro v h3 ⟨rfl, hS3⟩
  have hS3b := hS3
  obtain ⟨fs3, tv3, tp3, pv3, cv3, y173, y183, y193, y203, av3, y13, e643, fl3, f23, f33, f43, ⟨f83, ⟨t3, f93, t2563, tR3⟩, ⟨x103, f103, f10'3⟩, ⟨z113, f113, f11'3⟩, a73, f73, a7n3, a7e3⟩, f123, f133, f143, f153, f163, f173, f183, f193, f203, f213, e673, tl3, tm3, e683, hb3, e693, pl3, e703, cl3, f03, e653, a13⟩ := hS3
  refine w_aload_n rfl (w_s1 (w_s1 rfl rfl (by decide)) rfl (by decide)) (w_getf rfl rfl e643 f123 (w_ic 1 rfl rfl (w_addN rfl (w_bp 7 rfl rfl (w_iload_n rfl p_lk_s1 (w_mulN rfl (w_addN rfl (w_istore_n rfl (by decide) (w_aload_n rfl (w_s1 (w_s1 (w_s1 rfl rfl (by decide)) rfl (by decide)) rfl (by decide)) (w_getf rfl rfl e643 f23 (w_iload_n rfl p_lk_s1 (w_iload_n rfl (w_s1 (w_s1 p_lk_s1 rfl (by decide)) rfl (by decide)) (w_st rfl e673 (by omega) (by omega) ?_)))))))))))))
  refine w_use (X := fun h => r_S0 h b n (t_x b n p) w so t0 m on) ⟨_, _, _, _, _, _, _, _, _, _, _, (a_ga (by decide) e643), (by first | exact fl3 | (simp only [List.length_set]; exact fl3)), f23, f33, f43, ⟨f83, ⟨t3, f93, t2563, tR3⟩, ⟨x103, f103, f10'3⟩, ⟨z113, f113, f11'3⟩, a73, f73, a7n3, a7e3⟩, f123, f133, f143, f153, f163, f173, f183, f193, f203, f213, (a_gs e673), (by first | exact tl3 | (simp only [List.length_set]; exact tl3)), (by rw [List.getElem?_set_ne (by omega)]; exact tm3), (a_ga (by decide) e683), hb3, (a_ga (by decide) e693), (by first | exact pl3 | (simp only [List.length_set]; exact pl3)), (a_ga (by decide) e703), (by first | exact cl3 | (simp only [List.length_set]; exact cl3)), f03, (a_ga (by decide) e653), a13⟩ (fun hS4 => ?_)
  refine w_aload_n rfl (w_s1 (w_s1 (w_s1 rfl rfl (by decide)) rfl (by decide)) rfl (by decide)) (w_iload_n rfl (w_s1 (w_s1 p_lk_s1 rfl (by decide)) rfl (by decide)) (w_iload_n rfl p_lk_s1 (w_virtual (dc := dd + 12) (M' := m_X12_body) rfl (g_vir (n := 3) rfl rfl (by simp [p_cat, p_bd, Value.category]) rfl rfl (a_ga (by decide) e643) rfl) rfl rfl (Nat.le_refl _) ((r_body5 (dd := dd) hS4 hn (by omega) (by omega)).mono (by omega) (fun _ _ q => q)) ?_)))
  rintro v h5 ⟨rfl, hS5⟩
  refine w_istore rfl (by decide) (w_iload rfl p_lk_s1 ?_)
  have hB5 := t_D_le (b := b) (n := n) [(0, 0, 6)] (t_x b n p) hx.2
  generalize hs : t_D b n [(0, 0, 6)] (t_x b n p) = s at hS5 hB5
  have h100 : s.1 < 100000 := by rw [← hs]; exact t_D_100
  by_cases e0 : s.1 = 0
  · rw [if_neg (fun q => q e0), e0]
    have hS6 := hS5
    obtain ⟨fs5, tv5, tp5, pv5, cv5, y175, y185, y195, y205, av5, y15, e645, fl5, f25, f35, f45, ⟨f85, ⟨t5, f95, t2565, tR5⟩, ⟨x105, f105, f10'5⟩, ⟨z115, f115, f11'5⟩, a75, f75, a7n5, a7e5⟩, f125, f135, f145, f155, f165, f175, f185, f195, f205, f215, e675, tl5, tm5, e685, hb5, e695, pl5, e705, cl5, f05, e655, a15⟩ := hS5
    refine w_ifc_t rfl (t := 109) rfl (by decide) (w_aload_n rfl (w_s1 (w_s1 (w_s1 (w_s1 rfl rfl (by decide)) rfl (by decide)) rfl (by decide)) rfl (by decide)) (w_getf rfl rfl e645 f25 (w_aload_n rfl (w_s1 (w_s1 (w_s1 (w_s1 rfl rfl (by decide)) rfl (by decide)) rfl (by decide)) rfl (by decide)) (w_getf rfl rfl e645 f125 (w_dup2 rfl (w_ld rfl e675 (by omega) tm5 (w_ic 1 rfl rfl (w_addN rfl (w_st rfl e675 (by omega) (by omega) (w_aload_n rfl (w_s1 (w_s1 (w_s1 (w_s1 rfl rfl (by decide)) rfl (by decide)) rfl (by decide)) rfl (by decide)) (w_getf rfl rfl (a_ga (by decide) e645) f95 (w_bp 59 rfl rfl ?_))))))))))))
    refine w_use (X := fun h => r_S0 h b n (s.2) w so t0 ((m + 1)) on) ⟨_, _, _, _, _, _, _, _, _, _, _, (a_ga (by decide) e645), (by first | exact fl5 | (simp only [List.length_set]; exact fl5)), f25, f35, f45, ⟨f85, ⟨t5, f95, t2565, tR5⟩, ⟨x105, f105, f10'5⟩, ⟨z115, f115, f11'5⟩, a75, f75, a7n5, a7e5⟩, f125, f135, f145, f155, f165, f175, f185, f195, f205, f215, (a_gs e675), (by first | exact tl5 | (simp only [List.length_set]; exact tl5)), (List.getElem?_set_self (by omega)), (a_ga (by decide) e685), hb5, (a_ga (by decide) e695), (by first | exact pl5 | (simp only [List.length_set]; exact pl5)), (a_ga (by decide) e705), (by first | exact cl5 | (simp only [List.length_set]; exact cl5)), f05, (a_ga (by decide) e655), a15⟩ (fun hS7 => ?_)
    by_cases q59 : t_is b n s.2 59 = true
    · rw [if_pos q59]
      have et : t5 = 59 := (tR5.2.2.2 59 (by omega)).mpr (t_is_iff.mp q59)
      have hy := t_x_lt (b := b) (t_is_lt q59)
      refine w_icmp_t rfl (t := 133) rfl (by rw [et]; decide) (w_aload_n rfl (w_s1 (w_s1 (w_s1 (w_s1 rfl rfl (by decide)) rfl (by decide)) rfl (by decide)) rfl (by decide)) (w_virtual (dc := dd + 12) (M' := m_X12_nextToken) rfl (g_vir (n := 1) rfl rfl (by simp [p_cat, p_bd, Value.category]) rfl rfl (a_ga (by decide) e645) rfl) rfl rfl (Nat.le_refl _) ((r_next0 (dd := dd) hS7 hn (t_nb2 q59 (by decide) (by decide))).mono (by omega) (fun _ _ q => q)) ?_))
      rintro v h8 ⟨rfl, hS8⟩
      exact w_ic 0 rfl rfl (w_ireturn rfl rfl ⟨rfl, w, so, m + 1, on, hS8, fun _ => ⟨by show _ ≤ t_x b n s.2 + 3; omega, by show p < t_x b n s.2; omega, hy.2, rfl, hm24, by omega, by rw [hcw, if_neg (by decide : ¬ 5 < 3)]⟩⟩)
    · rw [if_neg q59]
      have et : ¬ t5 = 59 := fun e => q59 (t_is_iff.mpr ((tR5.2.2.2 59 (by omega)).mp e))
      exact w_icmp_f rfl (t := 133) rfl (by simp only [p_cd, decide_eq_false_iff_not]; exact b_ofNat_ne (by omega) (by omega) et) (w_ic 1 rfl rfl (w_ireturn rfl rfl ⟨rfl, w, so, m + 1, on, hS7, fun e => absurd e (by decide)⟩))
  · rw [if_pos e0]
    exact w_ifc_f rfl (t := 109) rfl (by simp only [p_cd, decide_eq_false_iff_not]; exact b_ofNat_ne (b := 0) h100 (by omega) e0) (w_iload rfl p_lk_s1 (w_ireturn rfl rfl ⟨rfl, w, so, m, on, hS5, fun e => absurd e e0⟩))
set_option maxRecDepth 100000 in
theorem r_cl6 (hS : r_S0 h b n p w so t0 m on) (hn : n ≤ 300) (ht : t0 ≤ 2331) (hp : p ≤ n) (hw : w ≤ p + 3) (hm : m ≤ 24) (hon : on < 8) (hcw : t_cw b n p = 6) : p_wp p_GT p_MT (dd + 13) m_X12_clause 0 (lv_args 0 [.ref 64]) [] h (fun v h2 => v = some (.int (Int32.ofNat (t_cl b n m on p).1)) ∧ ∃ w2 so2 m2 on2 : Nat, r_S0 h2 b n (t_cl b n m on p).2 w2 so2 t0 m2 on2 ∧ ((t_cl b n m on p).1 = 0 → w2 ≤ (t_cl b n m on p).2 + 3 ∧ p < (t_cl b n m on p).2 ∧ (t_cl b n m on p).2 ≤ n ∧ m2 = m + 1 ∧ m < 24 ∧ on2 < 8 ∧ on2 = (if t_cw b n p < 3 then on + 2 ^ t_cw b n p else on))) := by
  have hS' := hS
  obtain ⟨fs, tv, tp, pv, cv, y17, y18, y19, y20, av, y1, e64, fl, f2, f3, f4, ⟨f8, ⟨t, f9, t256, tR⟩, ⟨x10, f10, f10'⟩, ⟨z11, f11, f11'⟩, a7, f7, a7n, a7e⟩, f12, f13, f14, f15, f16, f17, f18, f19, f20, f21, e67, tl, tm, e68, hb, e69, pl, e70, cl, f0, e65, a1⟩ := hS
  have ecl : t_cl b n m on p = (if m = 24 then (6, p) else (if (t_D b n [(0, 0, 6)] (t_x b n p)).1 ≠ 0 then t_D b n [(0, 0, 6)] (t_x b n p) else if t_is b n (t_D b n [(0, 0, 6)] (t_x b n p)).2 59 = true then (0, t_x b n (t_D b n [(0, 0, 6)] (t_x b n p)).2) else (1, (t_D b n [(0, 0, 6)] (t_x b n p)).2))) := by unfold t_cl; rw [hcw]; rfl
  refine w_aload_n rfl rfl (w_virtual (dc := dd + 12) (M' := m_X12_sortOf) rfl (g_vir (n := 1) rfl rfl (by simp [p_cat, p_bd, Value.category]) rfl rfl e64 rfl) rfl rfl (Nat.le_refl _) ((r_sortOf (dd := dd) hS').mono (by omega) (fun _ _ q => q)) ?_)
  rintro v h2 ⟨rfl, rfl⟩
  rw [ecl, hcw, show s_cs 6 = Int32.ofNat (6) from rfl]
  refine w_istore_n rfl (by decide) (w_iload_n rfl p_lk_s1 ?_)
  refine w_ifc_t rfl (t := 11) rfl (by decide) (w_iload_n rfl p_lk_s1 (w_ic 2 rfl rfl (w_icmp_t rfl (t := 29) rfl (by decide) (w_aload_n rfl (w_s1 rfl rfl (by decide)) (w_getf rfl rfl e64 f2 (w_aload_n rfl (w_s1 rfl rfl (by decide)) (w_getf rfl rfl e64 f12 (w_ld rfl e67 (by omega) tm (w_istore_n rfl (by decide) (w_iload_n rfl p_lk_s1 (w_bp 24 rfl rfl ?_)))))))))))
  by_cases q24 : m = 24
  · rw [if_pos q24]
    exact w_icmp_f rfl (t := 48) rfl (by rw [q24]; decide) (w_bp 6 rfl rfl (w_ireturn rfl rfl ⟨rfl, w, so, m, on, hS', fun e => absurd e (by decide)⟩))
  rw [if_neg q24]
  have hm24 : m < 24 := by omega
  refine w_icmp_t rfl (t := 48) rfl (by simp only [p_cd, decide_eq_true_eq]; exact b_ofNat_ne (by omega) (by omega) q24) (w_iload_n rfl (w_s1 p_lk_s1 rfl (by decide)) (w_ic 2 rfl rfl (w_icmp_t rfl (t := 65) rfl (by decide) (w_aload_n rfl (w_s1 (w_s1 rfl rfl (by decide)) rfl (by decide)) (w_iload_n rfl (w_s1 p_lk_s1 rfl (by decide)) (w_putf rfl rfl e64 rfl rfl (w_flt f14) ?_))))))
  have hpn : p < n := t_cw_lt (by rw [hcw]; decide)
  have hk1 := t_cw_k (b := b) (n := n) (p := p) (by rw [hcw]; decide)
  have hx := t_x_lt (b := b) hpn
  refine w_aload_n rfl (w_s1 (w_s1 rfl rfl (by decide)) rfl (by decide)) (w_virtual (dc := dd + 12) (M' := m_X12_nextToken) rfl (g_vir (n := 1) rfl rfl (by simp [p_cat, p_bd, Value.category]) rfl rfl (a_gs e64) rfl) rfl rfl (Nat.le_refl _) ((r_next0 (dd := dd) hS' hn (t_nb (by omega))).mono (by omega) (fun _ _ q => q)) ?_)
  rintro v h3 ⟨rfl, hS3⟩
  have hS3b := hS3
  obtain ⟨fs3, tv3, tp3, pv3, cv3, y173, y183, y193, y203, av3, y13, e643, fl3, f23, f33, f43, ⟨f83, ⟨t3, f93, t2563, tR3⟩, ⟨x103, f103, f10'3⟩, ⟨z113, f113, f11'3⟩, a73, f73, a7n3, a7e3⟩, f123, f133, f143, f153, f163, f173, f183, f193, f203, f213, e673, tl3, tm3, e683, hb3, e693, pl3, e703, cl3, f03, e653, a13⟩ := hS3
  refine w_aload_n rfl (w_s1 (w_s1 rfl rfl (by decide)) rfl (by decide)) (w_getf rfl rfl e643 f123 (w_ic 1 rfl rfl (w_addN rfl (w_bp 7 rfl rfl (w_iload_n rfl p_lk_s1 (w_mulN rfl (w_addN rfl (w_istore_n rfl (by decide) (w_aload_n rfl (w_s1 (w_s1 (w_s1 rfl rfl (by decide)) rfl (by decide)) rfl (by decide)) (w_getf rfl rfl e643 f23 (w_iload_n rfl p_lk_s1 (w_iload_n rfl (w_s1 (w_s1 p_lk_s1 rfl (by decide)) rfl (by decide)) (w_st rfl e673 (by omega) (by omega) ?_)))))))))))))
  refine w_use (X := fun h => r_S0 h b n (t_x b n p) w so t0 m on) ⟨_, _, _, _, _, _, _, _, _, _, _, (a_ga (by decide) e643), (by first | exact fl3 | (simp only [List.length_set]; exact fl3)), f23, f33, f43, ⟨f83, ⟨t3, f93, t2563, tR3⟩, ⟨x103, f103, f10'3⟩, ⟨z113, f113, f11'3⟩, a73, f73, a7n3, a7e3⟩, f123, f133, f143, f153, f163, f173, f183, f193, f203, f213, (a_gs e673), (by first | exact tl3 | (simp only [List.length_set]; exact tl3)), (by rw [List.getElem?_set_ne (by omega)]; exact tm3), (a_ga (by decide) e683), hb3, (a_ga (by decide) e693), (by first | exact pl3 | (simp only [List.length_set]; exact pl3)), (a_ga (by decide) e703), (by first | exact cl3 | (simp only [List.length_set]; exact cl3)), f03, (a_ga (by decide) e653), a13⟩ (fun hS4 => ?_)
  refine w_aload_n rfl (w_s1 (w_s1 (w_s1 rfl rfl (by decide)) rfl (by decide)) rfl (by decide)) (w_iload_n rfl (w_s1 (w_s1 p_lk_s1 rfl (by decide)) rfl (by decide)) (w_iload_n rfl p_lk_s1 (w_virtual (dc := dd + 12) (M' := m_X12_body) rfl (g_vir (n := 3) rfl rfl (by simp [p_cat, p_bd, Value.category]) rfl rfl (a_ga (by decide) e643) rfl) rfl rfl (Nat.le_refl _) ((r_body6 (dd := dd) hS4 hn (by omega) (by omega)).mono (by omega) (fun _ _ q => q)) ?_)))
  rintro v h5 ⟨rfl, hS5⟩
  refine w_istore rfl (by decide) (w_iload rfl p_lk_s1 ?_)
  have hB5 := t_D_le (b := b) (n := n) [(0, 0, 6)] (t_x b n p) hx.2
  generalize hs : t_D b n [(0, 0, 6)] (t_x b n p) = s at hS5 hB5
  have h100 : s.1 < 100000 := by rw [← hs]; exact t_D_100
  by_cases e0 : s.1 = 0
  · rw [if_neg (fun q => q e0), e0]
    have hS6 := hS5
    obtain ⟨fs5, tv5, tp5, pv5, cv5, y175, y185, y195, y205, av5, y15, e645, fl5, f25, f35, f45, ⟨f85, ⟨t5, f95, t2565, tR5⟩, ⟨x105, f105, f10'5⟩, ⟨z115, f115, f11'5⟩, a75, f75, a7n5, a7e5⟩, f125, f135, f145, f155, f165, f175, f185, f195, f205, f215, e675, tl5, tm5, e685, hb5, e695, pl5, e705, cl5, f05, e655, a15⟩ := hS5
    refine w_ifc_t rfl (t := 109) rfl (by decide) (w_aload_n rfl (w_s1 (w_s1 (w_s1 (w_s1 rfl rfl (by decide)) rfl (by decide)) rfl (by decide)) rfl (by decide)) (w_getf rfl rfl e645 f25 (w_aload_n rfl (w_s1 (w_s1 (w_s1 (w_s1 rfl rfl (by decide)) rfl (by decide)) rfl (by decide)) rfl (by decide)) (w_getf rfl rfl e645 f125 (w_dup2 rfl (w_ld rfl e675 (by omega) tm5 (w_ic 1 rfl rfl (w_addN rfl (w_st rfl e675 (by omega) (by omega) (w_aload_n rfl (w_s1 (w_s1 (w_s1 (w_s1 rfl rfl (by decide)) rfl (by decide)) rfl (by decide)) rfl (by decide)) (w_getf rfl rfl (a_ga (by decide) e645) f95 (w_bp 59 rfl rfl ?_))))))))))))
    refine w_use (X := fun h => r_S0 h b n (s.2) w so t0 ((m + 1)) on) ⟨_, _, _, _, _, _, _, _, _, _, _, (a_ga (by decide) e645), (by first | exact fl5 | (simp only [List.length_set]; exact fl5)), f25, f35, f45, ⟨f85, ⟨t5, f95, t2565, tR5⟩, ⟨x105, f105, f10'5⟩, ⟨z115, f115, f11'5⟩, a75, f75, a7n5, a7e5⟩, f125, f135, f145, f155, f165, f175, f185, f195, f205, f215, (a_gs e675), (by first | exact tl5 | (simp only [List.length_set]; exact tl5)), (List.getElem?_set_self (by omega)), (a_ga (by decide) e685), hb5, (a_ga (by decide) e695), (by first | exact pl5 | (simp only [List.length_set]; exact pl5)), (a_ga (by decide) e705), (by first | exact cl5 | (simp only [List.length_set]; exact cl5)), f05, (a_ga (by decide) e655), a15⟩ (fun hS7 => ?_)
    by_cases q59 : t_is b n s.2 59 = true
    · rw [if_pos q59]
      have et : t5 = 59 := (tR5.2.2.2 59 (by omega)).mpr (t_is_iff.mp q59)
      have hy := t_x_lt (b := b) (t_is_lt q59)
      refine w_icmp_t rfl (t := 133) rfl (by rw [et]; decide) (w_aload_n rfl (w_s1 (w_s1 (w_s1 (w_s1 rfl rfl (by decide)) rfl (by decide)) rfl (by decide)) rfl (by decide)) (w_virtual (dc := dd + 12) (M' := m_X12_nextToken) rfl (g_vir (n := 1) rfl rfl (by simp [p_cat, p_bd, Value.category]) rfl rfl (a_ga (by decide) e645) rfl) rfl rfl (Nat.le_refl _) ((r_next0 (dd := dd) hS7 hn (t_nb2 q59 (by decide) (by decide))).mono (by omega) (fun _ _ q => q)) ?_))
      rintro v h8 ⟨rfl, hS8⟩
      exact w_ic 0 rfl rfl (w_ireturn rfl rfl ⟨rfl, w, so, m + 1, on, hS8, fun _ => ⟨by show _ ≤ t_x b n s.2 + 3; omega, by show p < t_x b n s.2; omega, hy.2, rfl, hm24, by omega, by rw [hcw, if_neg (by decide : ¬ 6 < 3)]⟩⟩)
    · rw [if_neg q59]
      have et : ¬ t5 = 59 := fun e => q59 (t_is_iff.mpr ((tR5.2.2.2 59 (by omega)).mp e))
      exact w_icmp_f rfl (t := 133) rfl (by simp only [p_cd, decide_eq_false_iff_not]; exact b_ofNat_ne (by omega) (by omega) et) (w_ic 1 rfl rfl (w_ireturn rfl rfl ⟨rfl, w, so, m + 1, on, hS7, fun e => absurd e (by decide)⟩))
  · rw [if_pos e0]
    exact w_ifc_f rfl (t := 109) rfl (by simp only [p_cd, decide_eq_false_iff_not]; exact b_ofNat_ne (b := 0) h100 (by omega) e0) (w_iload rfl p_lk_s1 (w_ireturn rfl rfl ⟨rfl, w, so, m, on, hS5, fun e => absurd e e0⟩))
set_option maxRecDepth 100000 in
theorem r_cl7 (hS : r_S0 h b n p w so t0 m on) (hn : n ≤ 300) (ht : t0 ≤ 2331) (hp : p ≤ n) (hw : w ≤ p + 3) (hm : m ≤ 24) (hon : on < 8) (hcw : t_cw b n p = 7) : p_wp p_GT p_MT (dd + 13) m_X12_clause 0 (lv_args 0 [.ref 64]) [] h (fun v h2 => v = some (.int (Int32.ofNat (t_cl b n m on p).1)) ∧ ∃ w2 so2 m2 on2 : Nat, r_S0 h2 b n (t_cl b n m on p).2 w2 so2 t0 m2 on2 ∧ ((t_cl b n m on p).1 = 0 → w2 ≤ (t_cl b n m on p).2 + 3 ∧ p < (t_cl b n m on p).2 ∧ (t_cl b n m on p).2 ≤ n ∧ m2 = m + 1 ∧ m < 24 ∧ on2 < 8 ∧ on2 = (if t_cw b n p < 3 then on + 2 ^ t_cw b n p else on))) := by
  have hS' := hS
  obtain ⟨fs, tv, tp, pv, cv, y17, y18, y19, y20, av, y1, e64, fl, f2, f3, f4, ⟨f8, ⟨t, f9, t256, tR⟩, ⟨x10, f10, f10'⟩, ⟨z11, f11, f11'⟩, a7, f7, a7n, a7e⟩, f12, f13, f14, f15, f16, f17, f18, f19, f20, f21, e67, tl, tm, e68, hb, e69, pl, e70, cl, f0, e65, a1⟩ := hS
  have ecl : t_cl b n m on p = (if m = 24 then (6, p) else (if (t_D b n [(0, 0, 63)] (t_x b n p)).1 ≠ 0 then t_D b n [(0, 0, 63)] (t_x b n p) else if t_is b n (t_D b n [(0, 0, 63)] (t_x b n p)).2 59 = true then (0, t_x b n (t_D b n [(0, 0, 63)] (t_x b n p)).2) else (1, (t_D b n [(0, 0, 63)] (t_x b n p)).2))) := by unfold t_cl; rw [hcw]; rfl
  refine w_aload_n rfl rfl (w_virtual (dc := dd + 12) (M' := m_X12_sortOf) rfl (g_vir (n := 1) rfl rfl (by simp [p_cat, p_bd, Value.category]) rfl rfl e64 rfl) rfl rfl (Nat.le_refl _) ((r_sortOf (dd := dd) hS').mono (by omega) (fun _ _ q => q)) ?_)
  rintro v h2 ⟨rfl, rfl⟩
  rw [ecl, hcw, show s_cs 7 = Int32.ofNat (9) from rfl]
  refine w_istore_n rfl (by decide) (w_iload_n rfl p_lk_s1 ?_)
  refine w_ifc_t rfl (t := 11) rfl (by decide) (w_iload_n rfl p_lk_s1 (w_ic 2 rfl rfl (w_icmp_t rfl (t := 29) rfl (by decide) (w_aload_n rfl (w_s1 rfl rfl (by decide)) (w_getf rfl rfl e64 f2 (w_aload_n rfl (w_s1 rfl rfl (by decide)) (w_getf rfl rfl e64 f12 (w_ld rfl e67 (by omega) tm (w_istore_n rfl (by decide) (w_iload_n rfl p_lk_s1 (w_bp 24 rfl rfl ?_)))))))))))
  by_cases q24 : m = 24
  · rw [if_pos q24]
    exact w_icmp_f rfl (t := 48) rfl (by rw [q24]; decide) (w_bp 6 rfl rfl (w_ireturn rfl rfl ⟨rfl, w, so, m, on, hS', fun e => absurd e (by decide)⟩))
  rw [if_neg q24]
  have hm24 : m < 24 := by omega
  refine w_icmp_t rfl (t := 48) rfl (by simp only [p_cd, decide_eq_true_eq]; exact b_ofNat_ne (by omega) (by omega) q24) (w_iload_n rfl (w_s1 p_lk_s1 rfl (by decide)) (w_ic 2 rfl rfl (w_icmp_t rfl (t := 65) rfl (by decide) (w_aload_n rfl (w_s1 (w_s1 rfl rfl (by decide)) rfl (by decide)) (w_iload_n rfl (w_s1 p_lk_s1 rfl (by decide)) (w_putf rfl rfl e64 rfl rfl (w_flt f14) ?_))))))
  have hpn : p < n := t_cw_lt (by rw [hcw]; decide)
  have hk1 := t_cw_k (b := b) (n := n) (p := p) (by rw [hcw]; decide)
  have hx := t_x_lt (b := b) hpn
  refine w_aload_n rfl (w_s1 (w_s1 rfl rfl (by decide)) rfl (by decide)) (w_virtual (dc := dd + 12) (M' := m_X12_nextToken) rfl (g_vir (n := 1) rfl rfl (by simp [p_cat, p_bd, Value.category]) rfl rfl (a_gs e64) rfl) rfl rfl (Nat.le_refl _) ((r_next0 (dd := dd) hS' hn (t_nb (by omega))).mono (by omega) (fun _ _ q => q)) ?_)
  rintro v h3 ⟨rfl, hS3⟩
  have hS3b := hS3
  obtain ⟨fs3, tv3, tp3, pv3, cv3, y173, y183, y193, y203, av3, y13, e643, fl3, f23, f33, f43, ⟨f83, ⟨t3, f93, t2563, tR3⟩, ⟨x103, f103, f10'3⟩, ⟨z113, f113, f11'3⟩, a73, f73, a7n3, a7e3⟩, f123, f133, f143, f153, f163, f173, f183, f193, f203, f213, e673, tl3, tm3, e683, hb3, e693, pl3, e703, cl3, f03, e653, a13⟩ := hS3
  refine w_aload_n rfl (w_s1 (w_s1 rfl rfl (by decide)) rfl (by decide)) (w_getf rfl rfl e643 f123 (w_ic 1 rfl rfl (w_addN rfl (w_bp 7 rfl rfl (w_iload_n rfl p_lk_s1 (w_mulN rfl (w_addN rfl (w_istore_n rfl (by decide) (w_aload_n rfl (w_s1 (w_s1 (w_s1 rfl rfl (by decide)) rfl (by decide)) rfl (by decide)) (w_getf rfl rfl e643 f23 (w_iload_n rfl p_lk_s1 (w_iload_n rfl (w_s1 (w_s1 p_lk_s1 rfl (by decide)) rfl (by decide)) (w_st rfl e673 (by omega) (by omega) ?_)))))))))))))
  refine w_use (X := fun h => r_S0 h b n (t_x b n p) w so t0 m on) ⟨_, _, _, _, _, _, _, _, _, _, _, (a_ga (by decide) e643), (by first | exact fl3 | (simp only [List.length_set]; exact fl3)), f23, f33, f43, ⟨f83, ⟨t3, f93, t2563, tR3⟩, ⟨x103, f103, f10'3⟩, ⟨z113, f113, f11'3⟩, a73, f73, a7n3, a7e3⟩, f123, f133, f143, f153, f163, f173, f183, f193, f203, f213, (a_gs e673), (by first | exact tl3 | (simp only [List.length_set]; exact tl3)), (by rw [List.getElem?_set_ne (by omega)]; exact tm3), (a_ga (by decide) e683), hb3, (a_ga (by decide) e693), (by first | exact pl3 | (simp only [List.length_set]; exact pl3)), (a_ga (by decide) e703), (by first | exact cl3 | (simp only [List.length_set]; exact cl3)), f03, (a_ga (by decide) e653), a13⟩ (fun hS4 => ?_)
  refine w_aload_n rfl (w_s1 (w_s1 (w_s1 rfl rfl (by decide)) rfl (by decide)) rfl (by decide)) (w_iload_n rfl (w_s1 (w_s1 p_lk_s1 rfl (by decide)) rfl (by decide)) (w_iload_n rfl p_lk_s1 (w_virtual (dc := dd + 12) (M' := m_X12_body) rfl (g_vir (n := 3) rfl rfl (by simp [p_cat, p_bd, Value.category]) rfl rfl (a_ga (by decide) e643) rfl) rfl rfl (Nat.le_refl _) ((r_body7 (dd := dd) hS4 hn (by omega) (by omega)).mono (by omega) (fun _ _ q => q)) ?_)))
  rintro v h5 ⟨rfl, hS5⟩
  refine w_istore rfl (by decide) (w_iload rfl p_lk_s1 ?_)
  have hB5 := t_D_le (b := b) (n := n) [(0, 0, 63)] (t_x b n p) hx.2
  generalize hs : t_D b n [(0, 0, 63)] (t_x b n p) = s at hS5 hB5
  have h100 : s.1 < 100000 := by rw [← hs]; exact t_D_100
  by_cases e0 : s.1 = 0
  · rw [if_neg (fun q => q e0), e0]
    have hS6 := hS5
    obtain ⟨fs5, tv5, tp5, pv5, cv5, y175, y185, y195, y205, av5, y15, e645, fl5, f25, f35, f45, ⟨f85, ⟨t5, f95, t2565, tR5⟩, ⟨x105, f105, f10'5⟩, ⟨z115, f115, f11'5⟩, a75, f75, a7n5, a7e5⟩, f125, f135, f145, f155, f165, f175, f185, f195, f205, f215, e675, tl5, tm5, e685, hb5, e695, pl5, e705, cl5, f05, e655, a15⟩ := hS5
    refine w_ifc_t rfl (t := 109) rfl (by decide) (w_aload_n rfl (w_s1 (w_s1 (w_s1 (w_s1 rfl rfl (by decide)) rfl (by decide)) rfl (by decide)) rfl (by decide)) (w_getf rfl rfl e645 f25 (w_aload_n rfl (w_s1 (w_s1 (w_s1 (w_s1 rfl rfl (by decide)) rfl (by decide)) rfl (by decide)) rfl (by decide)) (w_getf rfl rfl e645 f125 (w_dup2 rfl (w_ld rfl e675 (by omega) tm5 (w_ic 1 rfl rfl (w_addN rfl (w_st rfl e675 (by omega) (by omega) (w_aload_n rfl (w_s1 (w_s1 (w_s1 (w_s1 rfl rfl (by decide)) rfl (by decide)) rfl (by decide)) rfl (by decide)) (w_getf rfl rfl (a_ga (by decide) e645) f95 (w_bp 59 rfl rfl ?_))))))))))))
    refine w_use (X := fun h => r_S0 h b n (s.2) w so t0 ((m + 1)) on) ⟨_, _, _, _, _, _, _, _, _, _, _, (a_ga (by decide) e645), (by first | exact fl5 | (simp only [List.length_set]; exact fl5)), f25, f35, f45, ⟨f85, ⟨t5, f95, t2565, tR5⟩, ⟨x105, f105, f10'5⟩, ⟨z115, f115, f11'5⟩, a75, f75, a7n5, a7e5⟩, f125, f135, f145, f155, f165, f175, f185, f195, f205, f215, (a_gs e675), (by first | exact tl5 | (simp only [List.length_set]; exact tl5)), (List.getElem?_set_self (by omega)), (a_ga (by decide) e685), hb5, (a_ga (by decide) e695), (by first | exact pl5 | (simp only [List.length_set]; exact pl5)), (a_ga (by decide) e705), (by first | exact cl5 | (simp only [List.length_set]; exact cl5)), f05, (a_ga (by decide) e655), a15⟩ (fun hS7 => ?_)
    by_cases q59 : t_is b n s.2 59 = true
    · rw [if_pos q59]
      have et : t5 = 59 := (tR5.2.2.2 59 (by omega)).mpr (t_is_iff.mp q59)
      have hy := t_x_lt (b := b) (t_is_lt q59)
      refine w_icmp_t rfl (t := 133) rfl (by rw [et]; decide) (w_aload_n rfl (w_s1 (w_s1 (w_s1 (w_s1 rfl rfl (by decide)) rfl (by decide)) rfl (by decide)) rfl (by decide)) (w_virtual (dc := dd + 12) (M' := m_X12_nextToken) rfl (g_vir (n := 1) rfl rfl (by simp [p_cat, p_bd, Value.category]) rfl rfl (a_ga (by decide) e645) rfl) rfl rfl (Nat.le_refl _) ((r_next0 (dd := dd) hS7 hn (t_nb2 q59 (by decide) (by decide))).mono (by omega) (fun _ _ q => q)) ?_))
      rintro v h8 ⟨rfl, hS8⟩
      exact w_ic 0 rfl rfl (w_ireturn rfl rfl ⟨rfl, w, so, m + 1, on, hS8, fun _ => ⟨by show _ ≤ t_x b n s.2 + 3; omega, by show p < t_x b n s.2; omega, hy.2, rfl, hm24, by omega, by rw [hcw, if_neg (by decide : ¬ 7 < 3)]⟩⟩)
    · rw [if_neg q59]
      have et : ¬ t5 = 59 := fun e => q59 (t_is_iff.mpr ((tR5.2.2.2 59 (by omega)).mp e))
      exact w_icmp_f rfl (t := 133) rfl (by simp only [p_cd, decide_eq_false_iff_not]; exact b_ofNat_ne (by omega) (by omega) et) (w_ic 1 rfl rfl (w_ireturn rfl rfl ⟨rfl, w, so, m + 1, on, hS7, fun e => absurd e (by decide)⟩))
  · rw [if_pos e0]
    exact w_ifc_f rfl (t := 109) rfl (by simp only [p_cd, decide_eq_false_iff_not]; exact b_ofNat_ne (b := 0) h100 (by omega) e0) (w_iload rfl p_lk_s1 (w_ireturn rfl rfl ⟨rfl, w, so, m, on, hS5, fun e => absurd e e0⟩))
set_option maxRecDepth 100000 in
theorem r_cl8 (hS : r_S0 h b n p w so t0 m on) (hn : n ≤ 300) (ht : t0 ≤ 2331) (hp : p ≤ n) (hw : w ≤ p + 3) (hm : m ≤ 24) (hon : on < 8) (hcw : t_cw b n p = 8) : p_wp p_GT p_MT (dd + 13) m_X12_clause 0 (lv_args 0 [.ref 64]) [] h (fun v h2 => v = some (.int (Int32.ofNat (t_cl b n m on p).1)) ∧ ∃ w2 so2 m2 on2 : Nat, r_S0 h2 b n (t_cl b n m on p).2 w2 so2 t0 m2 on2 ∧ ((t_cl b n m on p).1 = 0 → w2 ≤ (t_cl b n m on p).2 + 3 ∧ p < (t_cl b n m on p).2 ∧ (t_cl b n m on p).2 ≤ n ∧ m2 = m + 1 ∧ m < 24 ∧ on2 < 8 ∧ on2 = (if t_cw b n p < 3 then on + 2 ^ t_cw b n p else on))) := by
  have hS' := hS
  obtain ⟨fs, tv, tp, pv, cv, y17, y18, y19, y20, av, y1, e64, fl, f2, f3, f4, ⟨f8, ⟨t, f9, t256, tR⟩, ⟨x10, f10, f10'⟩, ⟨z11, f11, f11'⟩, a7, f7, a7n, a7e⟩, f12, f13, f14, f15, f16, f17, f18, f19, f20, f21, e67, tl, tm, e68, hb, e69, pl, e70, cl, f0, e65, a1⟩ := hS
  have ecl : t_cl b n m on p = (if m = 24 then (6, p) else (if (t_D b n [(0, 1, 9), (1, 19, 0), (0, 0, 63)] (t_x b n p)).1 ≠ 0 then t_D b n [(0, 1, 9), (1, 19, 0), (0, 0, 63)] (t_x b n p) else if t_is b n (t_D b n [(0, 1, 9), (1, 19, 0), (0, 0, 63)] (t_x b n p)).2 59 = true then (0, t_x b n (t_D b n [(0, 1, 9), (1, 19, 0), (0, 0, 63)] (t_x b n p)).2) else (1, (t_D b n [(0, 1, 9), (1, 19, 0), (0, 0, 63)] (t_x b n p)).2))) := by unfold t_cl; rw [hcw]; rfl
  refine w_aload_n rfl rfl (w_virtual (dc := dd + 12) (M' := m_X12_sortOf) rfl (g_vir (n := 1) rfl rfl (by simp [p_cat, p_bd, Value.category]) rfl rfl e64 rfl) rfl rfl (Nat.le_refl _) ((r_sortOf (dd := dd) hS').mono (by omega) (fun _ _ q => q)) ?_)
  rintro v h2 ⟨rfl, rfl⟩
  rw [ecl, hcw, show s_cs 8 = Int32.ofNat (7) from rfl]
  refine w_istore_n rfl (by decide) (w_iload_n rfl p_lk_s1 ?_)
  refine w_ifc_t rfl (t := 11) rfl (by decide) (w_iload_n rfl p_lk_s1 (w_ic 2 rfl rfl (w_icmp_t rfl (t := 29) rfl (by decide) (w_aload_n rfl (w_s1 rfl rfl (by decide)) (w_getf rfl rfl e64 f2 (w_aload_n rfl (w_s1 rfl rfl (by decide)) (w_getf rfl rfl e64 f12 (w_ld rfl e67 (by omega) tm (w_istore_n rfl (by decide) (w_iload_n rfl p_lk_s1 (w_bp 24 rfl rfl ?_)))))))))))
  by_cases q24 : m = 24
  · rw [if_pos q24]
    exact w_icmp_f rfl (t := 48) rfl (by rw [q24]; decide) (w_bp 6 rfl rfl (w_ireturn rfl rfl ⟨rfl, w, so, m, on, hS', fun e => absurd e (by decide)⟩))
  rw [if_neg q24]
  have hm24 : m < 24 := by omega
  refine w_icmp_t rfl (t := 48) rfl (by simp only [p_cd, decide_eq_true_eq]; exact b_ofNat_ne (by omega) (by omega) q24) (w_iload_n rfl (w_s1 p_lk_s1 rfl (by decide)) (w_ic 2 rfl rfl (w_icmp_t rfl (t := 65) rfl (by decide) (w_aload_n rfl (w_s1 (w_s1 rfl rfl (by decide)) rfl (by decide)) (w_iload_n rfl (w_s1 p_lk_s1 rfl (by decide)) (w_putf rfl rfl e64 rfl rfl (w_flt f14) ?_))))))
  have hpn : p < n := t_cw_lt (by rw [hcw]; decide)
  have hk1 := t_cw_k (b := b) (n := n) (p := p) (by rw [hcw]; decide)
  have hx := t_x_lt (b := b) hpn
  refine w_aload_n rfl (w_s1 (w_s1 rfl rfl (by decide)) rfl (by decide)) (w_virtual (dc := dd + 12) (M' := m_X12_nextToken) rfl (g_vir (n := 1) rfl rfl (by simp [p_cat, p_bd, Value.category]) rfl rfl (a_gs e64) rfl) rfl rfl (Nat.le_refl _) ((r_next0 (dd := dd) hS' hn (t_nb (by omega))).mono (by omega) (fun _ _ q => q)) ?_)
  rintro v h3 ⟨rfl, hS3⟩
  have hS3b := hS3
  obtain ⟨fs3, tv3, tp3, pv3, cv3, y173, y183, y193, y203, av3, y13, e643, fl3, f23, f33, f43, ⟨f83, ⟨t3, f93, t2563, tR3⟩, ⟨x103, f103, f10'3⟩, ⟨z113, f113, f11'3⟩, a73, f73, a7n3, a7e3⟩, f123, f133, f143, f153, f163, f173, f183, f193, f203, f213, e673, tl3, tm3, e683, hb3, e693, pl3, e703, cl3, f03, e653, a13⟩ := hS3
  refine w_aload_n rfl (w_s1 (w_s1 rfl rfl (by decide)) rfl (by decide)) (w_getf rfl rfl e643 f123 (w_ic 1 rfl rfl (w_addN rfl (w_bp 7 rfl rfl (w_iload_n rfl p_lk_s1 (w_mulN rfl (w_addN rfl (w_istore_n rfl (by decide) (w_aload_n rfl (w_s1 (w_s1 (w_s1 rfl rfl (by decide)) rfl (by decide)) rfl (by decide)) (w_getf rfl rfl e643 f23 (w_iload_n rfl p_lk_s1 (w_iload_n rfl (w_s1 (w_s1 p_lk_s1 rfl (by decide)) rfl (by decide)) (w_st rfl e673 (by omega) (by omega) ?_)))))))))))))
  refine w_use (X := fun h => r_S0 h b n (t_x b n p) w so t0 m on) ⟨_, _, _, _, _, _, _, _, _, _, _, (a_ga (by decide) e643), (by first | exact fl3 | (simp only [List.length_set]; exact fl3)), f23, f33, f43, ⟨f83, ⟨t3, f93, t2563, tR3⟩, ⟨x103, f103, f10'3⟩, ⟨z113, f113, f11'3⟩, a73, f73, a7n3, a7e3⟩, f123, f133, f143, f153, f163, f173, f183, f193, f203, f213, (a_gs e673), (by first | exact tl3 | (simp only [List.length_set]; exact tl3)), (by rw [List.getElem?_set_ne (by omega)]; exact tm3), (a_ga (by decide) e683), hb3, (a_ga (by decide) e693), (by first | exact pl3 | (simp only [List.length_set]; exact pl3)), (a_ga (by decide) e703), (by first | exact cl3 | (simp only [List.length_set]; exact cl3)), f03, (a_ga (by decide) e653), a13⟩ (fun hS4 => ?_)
  refine w_aload_n rfl (w_s1 (w_s1 (w_s1 rfl rfl (by decide)) rfl (by decide)) rfl (by decide)) (w_iload_n rfl (w_s1 (w_s1 p_lk_s1 rfl (by decide)) rfl (by decide)) (w_iload_n rfl p_lk_s1 (w_virtual (dc := dd + 12) (M' := m_X12_body) rfl (g_vir (n := 3) rfl rfl (by simp [p_cat, p_bd, Value.category]) rfl rfl (a_ga (by decide) e643) rfl) rfl rfl (Nat.le_refl _) ((r_body8 (dd := dd) hS4 hn (by omega) (by omega)).mono (by omega) (fun _ _ q => q)) ?_)))
  rintro v h5 ⟨rfl, hS5⟩
  refine w_istore rfl (by decide) (w_iload rfl p_lk_s1 ?_)
  have hB5 := t_D_le (b := b) (n := n) [(0, 1, 9), (1, 19, 0), (0, 0, 63)] (t_x b n p) hx.2
  generalize hs : t_D b n [(0, 1, 9), (1, 19, 0), (0, 0, 63)] (t_x b n p) = s at hS5 hB5
  have h100 : s.1 < 100000 := by rw [← hs]; exact t_D_100
  by_cases e0 : s.1 = 0
  · rw [if_neg (fun q => q e0), e0]
    have hS6 := hS5
    obtain ⟨fs5, tv5, tp5, pv5, cv5, y175, y185, y195, y205, av5, y15, e645, fl5, f25, f35, f45, ⟨f85, ⟨t5, f95, t2565, tR5⟩, ⟨x105, f105, f10'5⟩, ⟨z115, f115, f11'5⟩, a75, f75, a7n5, a7e5⟩, f125, f135, f145, f155, f165, f175, f185, f195, f205, f215, e675, tl5, tm5, e685, hb5, e695, pl5, e705, cl5, f05, e655, a15⟩ := hS5
    refine w_ifc_t rfl (t := 109) rfl (by decide) (w_aload_n rfl (w_s1 (w_s1 (w_s1 (w_s1 rfl rfl (by decide)) rfl (by decide)) rfl (by decide)) rfl (by decide)) (w_getf rfl rfl e645 f25 (w_aload_n rfl (w_s1 (w_s1 (w_s1 (w_s1 rfl rfl (by decide)) rfl (by decide)) rfl (by decide)) rfl (by decide)) (w_getf rfl rfl e645 f125 (w_dup2 rfl (w_ld rfl e675 (by omega) tm5 (w_ic 1 rfl rfl (w_addN rfl (w_st rfl e675 (by omega) (by omega) (w_aload_n rfl (w_s1 (w_s1 (w_s1 (w_s1 rfl rfl (by decide)) rfl (by decide)) rfl (by decide)) rfl (by decide)) (w_getf rfl rfl (a_ga (by decide) e645) f95 (w_bp 59 rfl rfl ?_))))))))))))
    refine w_use (X := fun h => r_S0 h b n (s.2) w so t0 ((m + 1)) on) ⟨_, _, _, _, _, _, _, _, _, _, _, (a_ga (by decide) e645), (by first | exact fl5 | (simp only [List.length_set]; exact fl5)), f25, f35, f45, ⟨f85, ⟨t5, f95, t2565, tR5⟩, ⟨x105, f105, f10'5⟩, ⟨z115, f115, f11'5⟩, a75, f75, a7n5, a7e5⟩, f125, f135, f145, f155, f165, f175, f185, f195, f205, f215, (a_gs e675), (by first | exact tl5 | (simp only [List.length_set]; exact tl5)), (List.getElem?_set_self (by omega)), (a_ga (by decide) e685), hb5, (a_ga (by decide) e695), (by first | exact pl5 | (simp only [List.length_set]; exact pl5)), (a_ga (by decide) e705), (by first | exact cl5 | (simp only [List.length_set]; exact cl5)), f05, (a_ga (by decide) e655), a15⟩ (fun hS7 => ?_)
    by_cases q59 : t_is b n s.2 59 = true
    · rw [if_pos q59]
      have et : t5 = 59 := (tR5.2.2.2 59 (by omega)).mpr (t_is_iff.mp q59)
      have hy := t_x_lt (b := b) (t_is_lt q59)
      refine w_icmp_t rfl (t := 133) rfl (by rw [et]; decide) (w_aload_n rfl (w_s1 (w_s1 (w_s1 (w_s1 rfl rfl (by decide)) rfl (by decide)) rfl (by decide)) rfl (by decide)) (w_virtual (dc := dd + 12) (M' := m_X12_nextToken) rfl (g_vir (n := 1) rfl rfl (by simp [p_cat, p_bd, Value.category]) rfl rfl (a_ga (by decide) e645) rfl) rfl rfl (Nat.le_refl _) ((r_next0 (dd := dd) hS7 hn (t_nb2 q59 (by decide) (by decide))).mono (by omega) (fun _ _ q => q)) ?_))
      rintro v h8 ⟨rfl, hS8⟩
      exact w_ic 0 rfl rfl (w_ireturn rfl rfl ⟨rfl, w, so, m + 1, on, hS8, fun _ => ⟨by show _ ≤ t_x b n s.2 + 3; omega, by show p < t_x b n s.2; omega, hy.2, rfl, hm24, by omega, by rw [hcw, if_neg (by decide : ¬ 8 < 3)]⟩⟩)
    · rw [if_neg q59]
      have et : ¬ t5 = 59 := fun e => q59 (t_is_iff.mpr ((tR5.2.2.2 59 (by omega)).mp e))
      exact w_icmp_f rfl (t := 133) rfl (by simp only [p_cd, decide_eq_false_iff_not]; exact b_ofNat_ne (by omega) (by omega) et) (w_ic 1 rfl rfl (w_ireturn rfl rfl ⟨rfl, w, so, m + 1, on, hS7, fun e => absurd e (by decide)⟩))
  · rw [if_pos e0]
    exact w_ifc_f rfl (t := 109) rfl (by simp only [p_cd, decide_eq_false_iff_not]; exact b_ofNat_ne (b := 0) h100 (by omega) e0) (w_iload rfl p_lk_s1 (w_ireturn rfl rfl ⟨rfl, w, so, m, on, hS5, fun e => absurd e e0⟩))
set_option maxRecDepth 100000 in
theorem r_cl9 (hS : r_S0 h b n p w so t0 m on) (hn : n ≤ 300) (ht : t0 ≤ 2331) (hp : p ≤ n) (hw : w ≤ p + 3) (hm : m ≤ 24) (hon : on < 8) (hcw : t_cw b n p = 9) : p_wp p_GT p_MT (dd + 13) m_X12_clause 0 (lv_args 0 [.ref 64]) [] h (fun v h2 => v = some (.int (Int32.ofNat (t_cl b n m on p).1)) ∧ ∃ w2 so2 m2 on2 : Nat, r_S0 h2 b n (t_cl b n m on p).2 w2 so2 t0 m2 on2 ∧ ((t_cl b n m on p).1 = 0 → w2 ≤ (t_cl b n m on p).2 + 3 ∧ p < (t_cl b n m on p).2 ∧ (t_cl b n m on p).2 ≤ n ∧ m2 = m + 1 ∧ m < 24 ∧ on2 < 8 ∧ on2 = (if t_cw b n p < 3 then on + 2 ^ t_cw b n p else on))) := by
  have hS' := hS
  obtain ⟨fs, tv, tp, pv, cv, y17, y18, y19, y20, av, y1, e64, fl, f2, f3, f4, ⟨f8, ⟨t, f9, t256, tR⟩, ⟨x10, f10, f10'⟩, ⟨z11, f11, f11'⟩, a7, f7, a7n, a7e⟩, f12, f13, f14, f15, f16, f17, f18, f19, f20, f21, e67, tl, tm, e68, hb, e69, pl, e70, cl, f0, e65, a1⟩ := hS
  have ecl : t_cl b n m on p = (if m = 24 then (6, p) else (if (t_D b n [(0, 1, 60)] (t_x b n p)).1 ≠ 0 then t_D b n [(0, 1, 60)] (t_x b n p) else if t_is b n (t_D b n [(0, 1, 60)] (t_x b n p)).2 59 = true then (0, t_x b n (t_D b n [(0, 1, 60)] (t_x b n p)).2) else (1, (t_D b n [(0, 1, 60)] (t_x b n p)).2))) := by unfold t_cl; rw [hcw]; rfl
  refine w_aload_n rfl rfl (w_virtual (dc := dd + 12) (M' := m_X12_sortOf) rfl (g_vir (n := 1) rfl rfl (by simp [p_cat, p_bd, Value.category]) rfl rfl e64 rfl) rfl rfl (Nat.le_refl _) ((r_sortOf (dd := dd) hS').mono (by omega) (fun _ _ q => q)) ?_)
  rintro v h2 ⟨rfl, rfl⟩
  rw [ecl, hcw, show s_cs 9 = Int32.ofNat (8) from rfl]
  refine w_istore_n rfl (by decide) (w_iload_n rfl p_lk_s1 ?_)
  refine w_ifc_t rfl (t := 11) rfl (by decide) (w_iload_n rfl p_lk_s1 (w_ic 2 rfl rfl (w_icmp_t rfl (t := 29) rfl (by decide) (w_aload_n rfl (w_s1 rfl rfl (by decide)) (w_getf rfl rfl e64 f2 (w_aload_n rfl (w_s1 rfl rfl (by decide)) (w_getf rfl rfl e64 f12 (w_ld rfl e67 (by omega) tm (w_istore_n rfl (by decide) (w_iload_n rfl p_lk_s1 (w_bp 24 rfl rfl ?_)))))))))))
  by_cases q24 : m = 24
  · rw [if_pos q24]
    exact w_icmp_f rfl (t := 48) rfl (by rw [q24]; decide) (w_bp 6 rfl rfl (w_ireturn rfl rfl ⟨rfl, w, so, m, on, hS', fun e => absurd e (by decide)⟩))
  rw [if_neg q24]
  have hm24 : m < 24 := by omega
  refine w_icmp_t rfl (t := 48) rfl (by simp only [p_cd, decide_eq_true_eq]; exact b_ofNat_ne (by omega) (by omega) q24) (w_iload_n rfl (w_s1 p_lk_s1 rfl (by decide)) (w_ic 2 rfl rfl (w_icmp_t rfl (t := 65) rfl (by decide) (w_aload_n rfl (w_s1 (w_s1 rfl rfl (by decide)) rfl (by decide)) (w_iload_n rfl (w_s1 p_lk_s1 rfl (by decide)) (w_putf rfl rfl e64 rfl rfl (w_flt f14) ?_))))))
  have hpn : p < n := t_cw_lt (by rw [hcw]; decide)
  have hk1 := t_cw_k (b := b) (n := n) (p := p) (by rw [hcw]; decide)
  have hx := t_x_lt (b := b) hpn
  refine w_aload_n rfl (w_s1 (w_s1 rfl rfl (by decide)) rfl (by decide)) (w_virtual (dc := dd + 12) (M' := m_X12_nextToken) rfl (g_vir (n := 1) rfl rfl (by simp [p_cat, p_bd, Value.category]) rfl rfl (a_gs e64) rfl) rfl rfl (Nat.le_refl _) ((r_next0 (dd := dd) hS' hn (t_nb (by omega))).mono (by omega) (fun _ _ q => q)) ?_)
  rintro v h3 ⟨rfl, hS3⟩
  have hS3b := hS3
  obtain ⟨fs3, tv3, tp3, pv3, cv3, y173, y183, y193, y203, av3, y13, e643, fl3, f23, f33, f43, ⟨f83, ⟨t3, f93, t2563, tR3⟩, ⟨x103, f103, f10'3⟩, ⟨z113, f113, f11'3⟩, a73, f73, a7n3, a7e3⟩, f123, f133, f143, f153, f163, f173, f183, f193, f203, f213, e673, tl3, tm3, e683, hb3, e693, pl3, e703, cl3, f03, e653, a13⟩ := hS3
  refine w_aload_n rfl (w_s1 (w_s1 rfl rfl (by decide)) rfl (by decide)) (w_getf rfl rfl e643 f123 (w_ic 1 rfl rfl (w_addN rfl (w_bp 7 rfl rfl (w_iload_n rfl p_lk_s1 (w_mulN rfl (w_addN rfl (w_istore_n rfl (by decide) (w_aload_n rfl (w_s1 (w_s1 (w_s1 rfl rfl (by decide)) rfl (by decide)) rfl (by decide)) (w_getf rfl rfl e643 f23 (w_iload_n rfl p_lk_s1 (w_iload_n rfl (w_s1 (w_s1 p_lk_s1 rfl (by decide)) rfl (by decide)) (w_st rfl e673 (by omega) (by omega) ?_)))))))))))))
  refine w_use (X := fun h => r_S0 h b n (t_x b n p) w so t0 m on) ⟨_, _, _, _, _, _, _, _, _, _, _, (a_ga (by decide) e643), (by first | exact fl3 | (simp only [List.length_set]; exact fl3)), f23, f33, f43, ⟨f83, ⟨t3, f93, t2563, tR3⟩, ⟨x103, f103, f10'3⟩, ⟨z113, f113, f11'3⟩, a73, f73, a7n3, a7e3⟩, f123, f133, f143, f153, f163, f173, f183, f193, f203, f213, (a_gs e673), (by first | exact tl3 | (simp only [List.length_set]; exact tl3)), (by rw [List.getElem?_set_ne (by omega)]; exact tm3), (a_ga (by decide) e683), hb3, (a_ga (by decide) e693), (by first | exact pl3 | (simp only [List.length_set]; exact pl3)), (a_ga (by decide) e703), (by first | exact cl3 | (simp only [List.length_set]; exact cl3)), f03, (a_ga (by decide) e653), a13⟩ (fun hS4 => ?_)
  refine w_aload_n rfl (w_s1 (w_s1 (w_s1 rfl rfl (by decide)) rfl (by decide)) rfl (by decide)) (w_iload_n rfl (w_s1 (w_s1 p_lk_s1 rfl (by decide)) rfl (by decide)) (w_iload_n rfl p_lk_s1 (w_virtual (dc := dd + 12) (M' := m_X12_body) rfl (g_vir (n := 3) rfl rfl (by simp [p_cat, p_bd, Value.category]) rfl rfl (a_ga (by decide) e643) rfl) rfl rfl (Nat.le_refl _) ((r_body9 (dd := dd) hS4 hn (by omega) (by omega)).mono (by omega) (fun _ _ q => q)) ?_)))
  rintro v h5 ⟨rfl, hS5⟩
  refine w_istore rfl (by decide) (w_iload rfl p_lk_s1 ?_)
  have hB5 := t_D_le (b := b) (n := n) [(0, 1, 60)] (t_x b n p) hx.2
  generalize hs : t_D b n [(0, 1, 60)] (t_x b n p) = s at hS5 hB5
  have h100 : s.1 < 100000 := by rw [← hs]; exact t_D_100
  by_cases e0 : s.1 = 0
  · rw [if_neg (fun q => q e0), e0]
    have hS6 := hS5
    obtain ⟨fs5, tv5, tp5, pv5, cv5, y175, y185, y195, y205, av5, y15, e645, fl5, f25, f35, f45, ⟨f85, ⟨t5, f95, t2565, tR5⟩, ⟨x105, f105, f10'5⟩, ⟨z115, f115, f11'5⟩, a75, f75, a7n5, a7e5⟩, f125, f135, f145, f155, f165, f175, f185, f195, f205, f215, e675, tl5, tm5, e685, hb5, e695, pl5, e705, cl5, f05, e655, a15⟩ := hS5
    refine w_ifc_t rfl (t := 109) rfl (by decide) (w_aload_n rfl (w_s1 (w_s1 (w_s1 (w_s1 rfl rfl (by decide)) rfl (by decide)) rfl (by decide)) rfl (by decide)) (w_getf rfl rfl e645 f25 (w_aload_n rfl (w_s1 (w_s1 (w_s1 (w_s1 rfl rfl (by decide)) rfl (by decide)) rfl (by decide)) rfl (by decide)) (w_getf rfl rfl e645 f125 (w_dup2 rfl (w_ld rfl e675 (by omega) tm5 (w_ic 1 rfl rfl (w_addN rfl (w_st rfl e675 (by omega) (by omega) (w_aload_n rfl (w_s1 (w_s1 (w_s1 (w_s1 rfl rfl (by decide)) rfl (by decide)) rfl (by decide)) rfl (by decide)) (w_getf rfl rfl (a_ga (by decide) e645) f95 (w_bp 59 rfl rfl ?_))))))))))))
    refine w_use (X := fun h => r_S0 h b n (s.2) w so t0 ((m + 1)) on) ⟨_, _, _, _, _, _, _, _, _, _, _, (a_ga (by decide) e645), (by first | exact fl5 | (simp only [List.length_set]; exact fl5)), f25, f35, f45, ⟨f85, ⟨t5, f95, t2565, tR5⟩, ⟨x105, f105, f10'5⟩, ⟨z115, f115, f11'5⟩, a75, f75, a7n5, a7e5⟩, f125, f135, f145, f155, f165, f175, f185, f195, f205, f215, (a_gs e675), (by first | exact tl5 | (simp only [List.length_set]; exact tl5)), (List.getElem?_set_self (by omega)), (a_ga (by decide) e685), hb5, (a_ga (by decide) e695), (by first | exact pl5 | (simp only [List.length_set]; exact pl5)), (a_ga (by decide) e705), (by first | exact cl5 | (simp only [List.length_set]; exact cl5)), f05, (a_ga (by decide) e655), a15⟩ (fun hS7 => ?_)
    by_cases q59 : t_is b n s.2 59 = true
    · rw [if_pos q59]
      have et : t5 = 59 := (tR5.2.2.2 59 (by omega)).mpr (t_is_iff.mp q59)
      have hy := t_x_lt (b := b) (t_is_lt q59)
      refine w_icmp_t rfl (t := 133) rfl (by rw [et]; decide) (w_aload_n rfl (w_s1 (w_s1 (w_s1 (w_s1 rfl rfl (by decide)) rfl (by decide)) rfl (by decide)) rfl (by decide)) (w_virtual (dc := dd + 12) (M' := m_X12_nextToken) rfl (g_vir (n := 1) rfl rfl (by simp [p_cat, p_bd, Value.category]) rfl rfl (a_ga (by decide) e645) rfl) rfl rfl (Nat.le_refl _) ((r_next0 (dd := dd) hS7 hn (t_nb2 q59 (by decide) (by decide))).mono (by omega) (fun _ _ q => q)) ?_))
      rintro v h8 ⟨rfl, hS8⟩
      exact w_ic 0 rfl rfl (w_ireturn rfl rfl ⟨rfl, w, so, m + 1, on, hS8, fun _ => ⟨by show _ ≤ t_x b n s.2 + 3; omega, by show p < t_x b n s.2; omega, hy.2, rfl, hm24, by omega, by rw [hcw, if_neg (by decide : ¬ 9 < 3)]⟩⟩)
    · rw [if_neg q59]
      have et : ¬ t5 = 59 := fun e => q59 (t_is_iff.mpr ((tR5.2.2.2 59 (by omega)).mp e))
      exact w_icmp_f rfl (t := 133) rfl (by simp only [p_cd, decide_eq_false_iff_not]; exact b_ofNat_ne (by omega) (by omega) et) (w_ic 1 rfl rfl (w_ireturn rfl rfl ⟨rfl, w, so, m + 1, on, hS7, fun e => absurd e (by decide)⟩))
  · rw [if_pos e0]
    exact w_ifc_f rfl (t := 109) rfl (by simp only [p_cd, decide_eq_false_iff_not]; exact b_ofNat_ne (b := 0) h100 (by omega) e0) (w_iload rfl p_lk_s1 (w_ireturn rfl rfl ⟨rfl, w, so, m, on, hS5, fun e => absurd e e0⟩))
theorem r_cl10 (hS : r_S0 h b n p w so t0 m on) (hn : n ≤ 300) (ht : t0 ≤ 2331) (hp : p ≤ n) (hw : w ≤ p + 3) (hm : m ≤ 24) (hon : on < 8) (hcw : t_cw b n p = 10) : p_wp p_GT p_MT (dd + 13) m_X12_clause 0 (lv_args 0 [.ref 64]) [] h (fun v h2 => v = some (.int (Int32.ofNat (t_cl b n m on p).1)) ∧ ∃ w2 so2 m2 on2 : Nat, r_S0 h2 b n (t_cl b n m on p).2 w2 so2 t0 m2 on2 ∧ ((t_cl b n m on p).1 = 0 → w2 ≤ (t_cl b n m on p).2 + 3 ∧ p < (t_cl b n m on p).2 ∧ (t_cl b n m on p).2 ≤ n ∧ m2 = m + 1 ∧ m < 24 ∧ on2 < 8 ∧ on2 = (if t_cw b n p < 3 then on + 2 ^ t_cw b n p else on))) := by
  have hS' := hS
  obtain ⟨fs, tv, tp, pv, cv, y17, y18, y19, y20, av, y1, e64, fl, f2, f3, f4, ⟨f8, ⟨t, f9, t256, tR⟩, ⟨x10, f10, f10'⟩, ⟨z11, f11, f11'⟩, a7, f7, a7n, a7e⟩, f12, f13, f14, f15, f16, f17, f18, f19, f20, f21, e67, tl, tm, e68, hb, e69, pl, e70, cl, f0, e65, a1⟩ := hS
  have ecl : t_cl b n m on p = ((1, p)) := by unfold t_cl; rw [hcw]; rfl
  refine w_aload_n rfl rfl (w_virtual (dc := dd + 12) (M' := m_X12_sortOf) rfl (g_vir (n := 1) rfl rfl (by simp [p_cat, p_bd, Value.category]) rfl rfl e64 rfl) rfl rfl (Nat.le_refl _) ((r_sortOf (dd := dd) hS').mono (by omega) (fun _ _ q => q)) ?_)
  rintro v h2 ⟨rfl, rfl⟩
  rw [ecl, hcw, show s_cs 10 = Int32.ofInt (-1) from rfl]
  refine w_istore_n rfl (by decide) (w_iload_n rfl p_lk_s1 ?_)
  exact w_ifc_f rfl (t := 11) rfl (by decide) (w_ic 1 rfl rfl (w_ireturn rfl rfl ⟨rfl, w, so, m, on, hS', fun e => absurd e (by decide)⟩))
theorem r_clause (hS : r_S0 h b n p w so t0 m on) (hn : n ≤ 300) (ht : t0 ≤ 2331) (hp : p ≤ n) (hw : w ≤ p + 3) (hm : m ≤ 24) (hon : on < 8) : p_wp p_GT p_MT (dd + 13) m_X12_clause 0 (lv_args 0 [.ref 64]) [] h (fun v h2 => v = some (.int (Int32.ofNat (t_cl b n m on p).1)) ∧ ∃ w2 so2 m2 on2 : Nat, r_S0 h2 b n (t_cl b n m on p).2 w2 so2 t0 m2 on2 ∧ ((t_cl b n m on p).1 = 0 → w2 ≤ (t_cl b n m on p).2 + 3 ∧ p < (t_cl b n m on p).2 ∧ (t_cl b n m on p).2 ≤ n ∧ m2 = m + 1 ∧ m < 24 ∧ on2 < 8 ∧ on2 = (if t_cw b n p < 3 then on + 2 ^ t_cw b n p else on))) := by
  have hc := t_cw_le (b := b) (n := n) (p := p)
  have : t_cw b n p = 0 ∨ t_cw b n p = 1 ∨ t_cw b n p = 2 ∨ t_cw b n p = 3 ∨ t_cw b n p = 4 ∨ t_cw b n p = 5 ∨ t_cw b n p = 6 ∨ t_cw b n p = 7 ∨ t_cw b n p = 8 ∨ t_cw b n p = 9 ∨ t_cw b n p = 10 := by omega
  rcases this with q | q | q | q | q | q | q | q | q | q | q
  · exact r_cl0 hS hn ht hp hw hm hon q
  · exact r_cl1 hS hn ht hp hw hm hon q
  · exact r_cl2 hS hn ht hp hw hm hon q
  · exact r_cl3 hS hn ht hp hw hm hon q
  · exact r_cl4 hS hn ht hp hw hm hon q
  · exact r_cl5 hS hn ht hp hw hm hon q
  · exact r_cl6 hS hn ht hp hw hm hon q
  · exact r_cl7 hS hn ht hp hw hm hon q
  · exact r_cl8 hS hn ht hp hw hm hon q
  · exact r_cl9 hS hn ht hp hw hm hon q
  · exact r_cl10 hS hn ht hp hw hm hon q
theorem t_cl_100 : (t_cl b n m on p).1 < 100000 := by
  have h1 : ∀ (S : Bool) (q : Nat), (t_P b n S 4000 2 0 0 q).1 < 100000 := fun S q => Nat.lt_trans t_P_100 (by decide)
  have h2 : ∀ (A : List (Nat × Nat × Nat)) (q : Nat), (t_D b n A q).1 < 100000 := fun A q => t_D_100
  unfold t_cl
  simp only
  (repeat' split) <;> first | exact h1 _ _ | exact h2 _ _ | decide
set_option maxRecDepth 100000 in
theorem r_textl (hn : n ≤ 300) (ht : t0 ≤ 2331) {Q : Option Value → p_H → Prop} : ∀ f m on p w so (h : p_H) (ls : p_Ls) (r : Nat × Nat), t_tx b n f m on p = r → 25 < f + m → p ≤ n → w ≤ p + 3 → m ≤ 24 → on < 8 → r_S0 h b n p w so t0 m on → p_lk 0 ls = some (.ref 64) → (∀ h2 : p_H, (∃ w2 so2 m2 on2 : Nat, r_S0 h2 b n r.2 w2 so2 t0 m2 on2) → Q (some (.int (Int32.ofNat r.1))) h2) → p_wp p_GT p_MT (dd + 14) m_X12_readText 43 ls [] h Q := by
  intro f
  induction f with
  | zero => intro m on p w so h ls r hr hf hp hw hm; omega
  | succ f ih =>
    intro m on p w so h ls r hr hf hp hw hm hon hS l0 hQ
    have hS' := hS
    obtain ⟨fs, tv, tp, pv, cv, y17, y18, y19, y20, av, y1, e64, fl, f2, f3, f4, ⟨f8, ⟨t, f9, t256, tR⟩, ⟨x10, f10, f10'⟩, ⟨z11, f11, f11'⟩, a7, f7, a7n, a7e⟩, f12, f13, f14, f15, f16, f17, f18, f19, f20, f21, e67, tl, tm, e68, hb, e69, pl, e70, cl, f0, e65, a1⟩ := hS
    have etx : t_tx b n (f + 1) m on p = (if t_k b n p = 0 then (0, p) else if (t_cl b n m on p).1 ≠ 0 then t_cl b n m on p else t_tx b n f (m + 1) (if t_cw b n p < 3 then on + 2 ^ t_cw b n p else on) (t_cl b n m on p).2) := rfl
    rw [etx] at hr
    by_cases q0 : t_k b n p = 0
    · rw [if_pos q0] at hr
      subst hr
      have e0 : t = 0 := tR.1.mpr q0
      exact w_aload_n rfl l0 (w_getf rfl rfl e64 f9 (w_ifc_t rfl (t := 64) rfl (by rw [e0]; decide) (w_ic 0 rfl rfl (w_ireturn rfl rfl (hQ _ ⟨_, _, _, _, hS'⟩)))))
    · rw [if_neg q0] at hr
      have e0 : ¬ t = 0 := fun e => q0 (tR.1.mp e)
      refine w_aload_n rfl l0 (w_getf rfl rfl e64 f9 (w_ifc_f rfl (t := 64) rfl (by simp only [p_cd, decide_eq_false_iff_not]; exact b_ofNat_ne (b := 0) (by omega) (by omega) e0) (w_aload_n rfl l0 (w_virtual (dc := dd + 13) (M' := m_X12_clause) rfl (g_vir (n := 1) rfl rfl (by simp [p_cat, p_bd, Value.category]) rfl rfl e64 rfl) rfl rfl (Nat.le_refl _) (r_clause (dd := dd) hS' hn ht hp hw hm hon) ?_))))
      rintro v h2 ⟨rfl, w2, so2, m2, on2, hS2, hB⟩
      refine w_istore_n rfl (by decide) (w_iload_n rfl p_lk_s1 ?_)
      by_cases e1 : (t_cl b n m on p).1 = 0
      · rw [if_neg (fun q => q e1)] at hr
        rw [e1]
        obtain ⟨b1, b2, b3, rfl, b5, b6, b7⟩ := hB e1
        rw [← b7] at hr
        exact w_ifc_t rfl (t := 61) rfl (by decide) (w_goto rfl (t := 43) rfl (ih (m + 1) on2 _ w2 so2 h2 _ r hr (by omega) b3 b1 (by omega) b6 hS2 (w_s1 l0 rfl (by decide)) hQ))
      · rw [if_pos e1] at hr
        subst hr
        exact w_ifc_f rfl (t := 61) rfl (by simp only [p_cd, decide_eq_false_iff_not]; exact b_ofNat_ne (b := 0) t_cl_100 (by omega) e1) (w_iload_n rfl p_lk_s1 (w_ireturn rfl rfl (hQ _ ⟨_, _, _, _, hS2⟩)))
end RS12

/-! THE REFERENCE READS: a clause, a text -/
section RS12
variable {h : p_H} {dd n p w so t0 m on at_ : Nat} {b : Nat → Nat}
theorem t_P_100 {S : Bool} : ∀ {f mode d k p : Nat}, (t_P b n S f mode d k p).1 < 100 := by
  intro f
  induction f with
  | zero => intro mode d k p; exact (by decide : 99 < 100)
  | succ f ih =>
    intro mode d k p
    simp only [t_P]
    have h1 := t_F_100 (b := b) (n := n) (p := p) (d := d) (S := S)
    (repeat' split) <;> first | exact ih | exact h1 | decide | simp
set_option maxRecDepth 100000 in
theorem r_lawc (hS : r_S0 h b n p w so t0 m on) {r : Nat × Nat} (hn : n ≤ 300) (hso : so < 100) (ht : t0 ≤ 2331) (hp : p ≤ n) (hw : w ≤ p + 3) (hat : t0 < at_) (hat2 : at_ + 7 ≤ 3108) (hr : t_P b n (Nat.beq so 1) 4000 2 0 0 p = r) : p_wp p_GT p_MT (dd + 11) m_X12_lawClause 0 (lv_args 0 [.ref 64, .int (Int32.ofNat at_)]) [] h (fun v h2 => v = some (.int (Int32.ofNat r.1)) ∧ ∃ w2 : Nat, r_S0 h2 b n r.2 w2 so t0 m on ∧ (r.1 = 0 → w2 ≤ r.2 + 3 ∧ p < r.2 ∧ r.2 ≤ n)) := by
  obtain ⟨fs, tv, tp, pv, cv, y17, y18, y19, y20, av, y1, e64, fl, f2, f3, f4, ⟨f8, ⟨t, f9, t256, tR⟩, ⟨x10, f10, f10'⟩, ⟨z11, f11, f11'⟩, a7, f7, a7n, a7e⟩, f12, f13, f14, f15, f16, f17, f18, f19, f20, f21, e67, tl, tm, e68, hb, e69, pl, e70, cl, f0, e65, a1⟩ := hS
  refine w_aload_n rfl rfl (w_getf rfl rfl e64 f2 (w_iload_n rfl rfl (w_ic 1 rfl rfl (w_addN rfl (w_aload_n rfl rfl (w_getf rfl rfl e64 f13 (w_st rfl e67 (by omega) (by omega) ?_)))))))
  refine w_use (X := fun h => r_S0 h b n p w so t0 m on) ⟨_, _, _, _, _, _, _, _, _, _, _, (a_ga (by decide) e64), (by first | exact fl | (simp only [List.length_set]; exact fl)), f2, f3, f4, ⟨f8, ⟨t, f9, t256, tR⟩, ⟨_, f10, f10'⟩, ⟨_, f11, f11'⟩, a7, f7, a7n, a7e⟩, f12, f13, f14, f15, f16, f17, f18, f19, f20, f21, (a_gs e67), (by first | exact tl | (simp only [List.length_set]; exact tl)), (by rw [List.getElem?_set_ne (by omega)]; exact tm), (a_ga (by decide) e68), hb, (a_ga (by decide) e69), (by first | exact pl | (simp only [List.length_set]; exact pl)), (a_ga (by decide) e70), (by first | exact cl | (simp only [List.length_set]; exact cl)), f0, (a_ga (by decide) e65), a1⟩ (fun hS2 => ?_)
  refine w_aload_n rfl rfl (w_virtual (dc := dd + 10) (M' := m_X12_summed) rfl (g_vir (n := 1) rfl rfl (by simp [p_cat, p_bd, Value.category]) rfl rfl (a_ga (by decide) e64) rfl) rfl rfl (Nat.le_refl _) (r_summed (dd := dd) hn hso ht hp hw hS2 hr) ?_)
  rintro v h2 ⟨rfl, w2, hS3, hB⟩
  refine w_istore_n rfl (by decide) ?_
  obtain ⟨fs3, tv3, tp3, pv3, cv3, y173, y183, y193, y203, av3, y13, e643, fl3, f23, f33, f43, ⟨f83, ⟨t3, f93, t2563, tR3⟩, ⟨x103, f103, f10'3⟩, ⟨z113, f113, f11'3⟩, a73, f73, a7n3, a7e3⟩, f123, f133, f143, f153, f163, f173, f183, f193, f203, f213, e673, tl3, tm3, e683, hb3, e693, pl3, e703, cl3, f03, e653, a13⟩ := hS3
  exact w_aload_n rfl (w_s1 rfl rfl (by decide)) (w_getf rfl rfl e643 f23 (w_iload_n rfl (w_s1 rfl rfl (by decide)) (w_ic 2 rfl rfl (w_addN rfl (w_aload_n rfl (w_s1 rfl rfl (by decide)) (w_getf rfl rfl e643 f133 (w_st rfl e673 (by omega) (by omega) (w_iload_n rfl p_lk_s1 (w_ireturn rfl rfl ⟨rfl, w2, ⟨_, _, _, _, _, _, _, _, _, _, _, (a_ga (by decide) e643), (by first | exact fl3 | (simp only [List.length_set]; exact fl3)), f23, f33, f43, ⟨f83, ⟨t3, f93, t2563, tR3⟩, ⟨_, f103, f10'3⟩, ⟨_, f113, f11'3⟩, a73, f73, a7n3, a7e3⟩, f123, f133, f143, f153, f163, f173, f183, f193, f203, f213, (a_gs e673), (by first | exact tl3 | (simp only [List.length_set]; exact tl3)), (by rw [List.getElem?_set_ne (by omega)]; exact tm3), (a_ga (by decide) e683), hb3, (a_ga (by decide) e693), (by first | exact pl3 | (simp only [List.length_set]; exact pl3)), (a_ga (by decide) e703), (by first | exact cl3 | (simp only [List.length_set]; exact cl3)), f03, (a_ga (by decide) e653), a13⟩, hB⟩)))))))))
def s_cs (x : Nat) : Int32 := if x ≤ 6 then Int32.ofNat x else if x = 8 then Int32.ofNat 7 else if x = 9 then Int32.ofNat 8 else if x = 7 then Int32.ofNat 9 else Int32.ofInt (-1)
set_option maxRecDepth 100000 in
theorem r_sortOf (hS : r_S0 h b n p w so t0 m on) : p_wp p_GT p_MT (dd + 4) m_X12_sortOf 0 (lv_args 0 [.ref 64]) [] h (fun v h2 => v = some (.int (s_cs (t_cw b n p))) ∧ h2 = h) := by
  have hS' := hS
  obtain ⟨fs, tv, tp, pv, cv, y17, y18, y19, y20, av, y1, e64, fl, f2, f3, f4, ⟨f8, ⟨t, f9, t256, tR⟩, ⟨x10, f10, f10'⟩, ⟨z11, f11, f11'⟩, a7, f7, a7n, a7e⟩, f12, f13, f14, f15, f16, f17, f18, f19, f20, f21, e67, tl, tm, e68, hb, e69, pl, e70, cl, f0, e65, a1⟩ := hS
  refine w_aload_n rfl rfl (w_bp 109 rfl rfl (w_bp 101 rfl rfl (w_bp 108 rfl rfl (w_bp 116 rfl rfl (w_bp 115 rfl rfl (w_static (nn := 0) (dc := dd + 3) (M' := m_X12_w5) rfl rfl rfl rfl (Nat.le_refl _) (r_w5 (dd := dd) (by decide) (by decide) (by decide) (by decide) (by decide)) ?_))))))
  rintro v h2 ⟨rfl, rfl⟩
  refine w_virtual (dc := dd + 3) (M' := m_X12_isWord) rfl (g_vir (n := 2) rfl rfl (by simp [p_cat, p_bd, Value.category]) rfl rfl e64 rfl) rfl rfl (Nat.le_refl _) (r_isw0 (k := 0) (c := 469853041779) hS' (by decide) (by decide)) ?_
  rintro v h2 ⟨rfl, rfl⟩
  cases q0 : t_wd b n p 0 with
  | true =>
    rw [show t_cw b n p = 0 by unfold t_cw; rw [q0]; rfl]
    exact w_ifc_f rfl (t := 22) rfl (by decide) (w_ic 0 rfl rfl (w_ireturn rfl rfl ⟨rfl, rfl⟩))
  | false =>
    refine w_ifc_t rfl (t := 22) rfl (by decide) (w_aload_n rfl rfl (w_bp 115 rfl rfl (w_bp 101 rfl rfl (w_bp 108 rfl rfl (w_bp 108 rfl rfl (w_bp 115 rfl rfl (w_static (nn := 0) (dc := dd + 3) (M' := m_X12_w5) rfl rfl rfl rfl (Nat.le_refl _) (r_w5 (dd := dd) (by decide) (by decide) (by decide) (by decide) (by decide)) ?_)))))))
    rintro v h2 ⟨rfl, rfl⟩
    refine w_virtual (dc := dd + 3) (M' := m_X12_isWord) rfl (g_vir (n := 2) rfl rfl (by simp [p_cat, p_bd, Value.category]) rfl rfl e64 rfl) rfl rfl (Nat.le_refl _) (r_isw0 (k := 1) (c := 495622843507) hS' (by decide) (by decide)) ?_
    rintro v h2 ⟨rfl, rfl⟩
    cases q1 : t_wd b n p 1 with
    | true =>
      rw [show t_cw b n p = 1 by unfold t_cw; rw [q0, q1]; rfl]
      exact w_ifc_f rfl (t := 44) rfl (by decide) (w_ic 1 rfl rfl (w_ireturn rfl rfl ⟨rfl, rfl⟩))
    | false =>
      refine w_ifc_t rfl (t := 44) rfl (by decide) (w_aload_n rfl rfl (w_bp 114 rfl rfl (w_bp 111 rfl rfl (w_bp 116 rfl rfl (w_bp 115 rfl rfl (w_static (nn := 0) (dc := dd + 3) (M' := m_X12_w4) rfl rfl rfl rfl (Nat.le_refl _) ((r_w4 (dd := dd) (by decide) (by decide) (by decide) (by decide)).mono (by omega) (fun _ _ q => q)) ?_))))))
      rintro v h2 ⟨rfl, rfl⟩
      refine w_virtual (dc := dd + 3) (M' := m_X12_isWord) rfl (g_vir (n := 2) rfl rfl (by simp [p_cat, p_bd, Value.category]) rfl rfl e64 rfl) rfl rfl (Nat.le_refl _) (r_isw0 (k := 2) (c := 1919906931) hS' (by decide) (by decide)) ?_
      rintro v h2 ⟨rfl, rfl⟩
      cases q2 : t_wd b n p 2 with
      | true =>
        rw [show t_cw b n p = 2 by unfold t_cw; rw [q0, q1, q2]; rfl]
        exact w_ifc_f rfl (t := 64) rfl (by decide) (w_ic 2 rfl rfl (w_ireturn rfl rfl ⟨rfl, rfl⟩))
      | false =>
        refine w_ifc_t rfl (t := 64) rfl (by decide) (w_aload_n rfl rfl (w_bp 112 rfl rfl (w_bp 111 rfl rfl (w_bp 110 rfl rfl (w_bp 100 rfl rfl (w_static (nn := 0) (dc := dd + 3) (M' := m_X12_w4) rfl rfl rfl rfl (Nat.le_refl _) ((r_w4 (dd := dd) (by decide) (by decide) (by decide) (by decide)).mono (by omega) (fun _ _ q => q)) ?_))))))
        rintro v h2 ⟨rfl, rfl⟩
        refine w_virtual (dc := dd + 3) (M' := m_X12_isWord) rfl (g_vir (n := 2) rfl rfl (by simp [p_cat, p_bd, Value.category]) rfl rfl e64 rfl) rfl rfl (Nat.le_refl _) (r_isw0 (k := 3) (c := 1886350948) hS' (by decide) (by decide)) ?_
        rintro v h2 ⟨rfl, rfl⟩
        cases q3 : t_wd b n p 3 with
        | true =>
          rw [show t_cw b n p = 3 by unfold t_cw; rw [q0, q1, q2, q3]; rfl]
          exact w_ifc_f rfl (t := 84) rfl (by decide) (w_ic 3 rfl rfl (w_ireturn rfl rfl ⟨rfl, rfl⟩))
        | false =>
          refine w_ifc_t rfl (t := 84) rfl (by decide) (w_aload_n rfl rfl (w_bp 115 rfl rfl (w_bp 105 rfl rfl (w_bp 103 rfl rfl (w_bp 104 rfl rfl (w_bp 116 rfl rfl (w_static (nn := 0) (dc := dd + 3) (M' := m_X12_w5) rfl rfl rfl rfl (Nat.le_refl _) (r_w5 (dd := dd) (by decide) (by decide) (by decide) (by decide) (by decide)) ?_)))))))
          rintro v h2 ⟨rfl, rfl⟩
          refine w_virtual (dc := dd + 3) (M' := m_X12_isWord) rfl (g_vir (n := 2) rfl rfl (by simp [p_cat, p_bd, Value.category]) rfl rfl e64 rfl) rfl rfl (Nat.le_refl _) (r_isw0 (k := 4) (c := 495689623668) hS' (by decide) (by decide)) ?_
          rintro v h2 ⟨rfl, rfl⟩
          cases q4 : t_wd b n p 4 with
          | true =>
            rw [show t_cw b n p = 4 by unfold t_cw; rw [q0, q1, q2, q3, q4]; rfl]
            exact w_ifc_f rfl (t := 106) rfl (by decide) (w_ic 4 rfl rfl (w_ireturn rfl rfl ⟨rfl, rfl⟩))
          | false =>
            refine w_ifc_t rfl (t := 106) rfl (by decide) (w_aload_n rfl rfl (w_bp 115 rfl rfl (w_bp 97 rfl rfl (w_bp 119 rfl rfl (w_static (nn := 0) (dc := dd + 3) (M' := m_X12_w3) rfl rfl rfl rfl (Nat.le_refl _) ((r_w3 (dd := dd) (by decide) (by decide) (by decide)).mono (by omega) (fun _ _ q => q)) ?_)))))
            rintro v h2 ⟨rfl, rfl⟩
            refine w_virtual (dc := dd + 3) (M' := m_X12_isWord) rfl (g_vir (n := 2) rfl rfl (by simp [p_cat, p_bd, Value.category]) rfl rfl e64 rfl) rfl rfl (Nat.le_refl _) (r_isw0 (k := 5) (c := 7561591) hS' (by decide) (by decide)) ?_
            rintro v h2 ⟨rfl, rfl⟩
            cases q5 : t_wd b n p 5 with
            | true =>
              rw [show t_cw b n p = 5 by unfold t_cw; rw [q0, q1, q2, q3, q4, q5]; rfl]
              exact w_ifc_f rfl (t := 124) rfl (by decide) (w_ic 5 rfl rfl (w_ireturn rfl rfl ⟨rfl, rfl⟩))
            | false =>
              refine w_ifc_t rfl (t := 124) rfl (by decide) (w_aload_n rfl rfl (w_bp 99 rfl rfl (w_bp 114 rfl rfl (w_bp 111 rfl rfl (w_bp 115 rfl rfl (w_bp 115 rfl rfl (w_static (nn := 0) (dc := dd + 3) (M' := m_X12_w5) rfl rfl rfl rfl (Nat.le_refl _) (r_w5 (dd := dd) (by decide) (by decide) (by decide) (by decide) (by decide)) ?_)))))))
              rintro v h2 ⟨rfl, rfl⟩
              refine w_virtual (dc := dd + 3) (M' := m_X12_isWord) rfl (g_vir (n := 2) rfl rfl (by simp [p_cat, p_bd, Value.category]) rfl rfl e64 rfl) rfl rfl (Nat.le_refl _) (r_isw0 (k := 6) (c := 427121668979) hS' (by decide) (by decide)) ?_
              rintro v h2 ⟨rfl, rfl⟩
              cases q6 : t_wd b n p 6 with
              | true =>
                rw [show t_cw b n p = 6 by unfold t_cw; rw [q0, q1, q2, q3, q4, q5, q6]; rfl]
                exact w_ifc_f rfl (t := 147) rfl (by decide) (w_bp 6 rfl rfl (w_ireturn rfl rfl ⟨rfl, rfl⟩))
              | false =>
                refine w_ifc_t rfl (t := 147) rfl (by decide) (w_aload_n rfl rfl (w_bp 115 rfl rfl (w_bp 116 rfl rfl (w_bp 114 rfl rfl (w_bp 97 rfl rfl (w_bp 119 rfl rfl (w_static (nn := 0) (dc := dd + 3) (M' := m_X12_w5) rfl rfl rfl rfl (Nat.le_refl _) (r_w5 (dd := dd) (by decide) (by decide) (by decide) (by decide) (by decide)) ?_)))))))
                rintro v h2 ⟨rfl, rfl⟩
                refine w_virtual (dc := dd + 3) (M' := m_X12_isWord) rfl (g_vir (n := 2) rfl rfl (by simp [p_cat, p_bd, Value.category]) rfl rfl e64 rfl) rfl rfl (Nat.le_refl _) (r_isw0 (k := 8) (c := 495874892151) hS' (by decide) (by decide)) ?_
                rintro v h2 ⟨rfl, rfl⟩
                cases q8 : t_wd b n p 8 with
                | true =>
                  rw [show t_cw b n p = 8 by unfold t_cw; rw [q0, q1, q2, q3, q4, q5, q6, q8]; rfl]
                  exact w_ifc_f rfl (t := 170) rfl (by decide) (w_bp 7 rfl rfl (w_ireturn rfl rfl ⟨rfl, rfl⟩))
                | false =>
                  refine w_ifc_t rfl (t := 170) rfl (by decide) (w_aload_n rfl rfl (w_bp 100 rfl rfl (w_bp 97 rfl rfl (w_bp 121 rfl rfl (w_static (nn := 0) (dc := dd + 3) (M' := m_X12_w3) rfl rfl rfl rfl (Nat.le_refl _) ((r_w3 (dd := dd) (by decide) (by decide) (by decide)).mono (by omega) (fun _ _ q => q)) ?_)))))
                  rintro v h2 ⟨rfl, rfl⟩
                  refine w_virtual (dc := dd + 3) (M' := m_X12_isWord) rfl (g_vir (n := 2) rfl rfl (by simp [p_cat, p_bd, Value.category]) rfl rfl e64 rfl) rfl rfl (Nat.le_refl _) (r_isw0 (k := 9) (c := 6578553) hS' (by decide) (by decide)) ?_
                  rintro v h2 ⟨rfl, rfl⟩
                  cases q9 : t_wd b n p 9 with
                  | true =>
                    rw [show t_cw b n p = 9 by unfold t_cw; rw [q0, q1, q2, q3, q4, q5, q6, q8, q9]; rfl]
                    exact w_ifc_f rfl (t := 191) rfl (by decide) (w_bp 8 rfl rfl (w_goto rfl (t := 215) rfl (w_ireturn rfl rfl ⟨rfl, rfl⟩)))
                  | false =>
                    refine w_ifc_t rfl (t := 191) rfl (by decide) (w_aload_n rfl rfl (w_bp 115 rfl rfl (w_bp 101 rfl rfl (w_bp 108 rfl rfl (w_bp 108 rfl rfl (w_static (nn := 0) (dc := dd + 3) (M' := m_X12_w4) rfl rfl rfl rfl (Nat.le_refl _) ((r_w4 (dd := dd) (by decide) (by decide) (by decide) (by decide)).mono (by omega) (fun _ _ q => q)) ?_))))))
                    rintro v h2 ⟨rfl, rfl⟩
                    refine w_virtual (dc := dd + 3) (M' := m_X12_isWord) rfl (g_vir (n := 2) rfl rfl (by simp [p_cat, p_bd, Value.category]) rfl rfl e64 rfl) rfl rfl (Nat.le_refl _) (r_isw0 (k := 7) (c := 1936026732) hS' (by decide) (by decide)) ?_
                    rintro v h2 ⟨rfl, rfl⟩
                    cases q7 : t_wd b n p 7 with
                    | true =>
                      rw [show t_cw b n p = 7 by unfold t_cw; rw [q0, q1, q2, q3, q4, q5, q6, q8, q9, q7]; rfl]
                      exact w_ifc_f rfl (t := 214) rfl (by decide) (w_bp 9 rfl rfl (w_goto rfl (t := 215) rfl (w_ireturn rfl rfl ⟨rfl, rfl⟩)))
                    | false =>
                      rw [show t_cw b n p = 10 by unfold t_cw; rw [q0, q1, q2, q3, q4, q5, q6, q8, q9, q7]; rfl]
                      exact w_ifc_t rfl (t := 214) rfl (by decide) (w_iconst rfl (w_ireturn rfl rfl ⟨rfl, rfl⟩))
end RS12

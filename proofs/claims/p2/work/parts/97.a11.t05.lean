set_option maxRecDepth 100000 in
noncomputable def F_X3_readOne_j59 (g : d_G) (t : Nat → Option p_C) (x1 : Int) (x2 : Int) (s : d_S) : Option (Int × d_S) :=
  d_b (F_X3_faultOfOne s x2 0 x1) (fun v5 => if v5 = 0 then
  d_b (F_X3_isWord s 20) (fun v6 => d_b (F_X3_step t s) (fun s7 => if x2 = 0 then
  d_b2 (F_X3_make s7 0 (s.1 43 7)) (fun v8 s9 => some (v8, s9))
  else
  if v6 = 0 then
  if (s.1 43 7) = 45 then
  d_b2 (g.2.2.1 s7 (d_w (x1 + 1))) (fun v10 s11 => if v10 = 0 then
  some (0, s11)
  else
  d_b2 (F_X3_make s11 2 0) (fun v12 s13 => if v12 = 0 then
  some (0, s13)
  else
  some (1, s13)))
  else
  d_b2 (g.1 s7 (d_w (x1 + 1))) (fun v14 s15 => if v14 = 0 then
  some (0, s15)
  else
  d_b2 (F_X3_takeSign t s15 41) (fun v16 s17 => if v16 = 0 then
  some (0, s17)
  else
  some (1, s17)))
  else
  d_b2 (g.2.2.2 s7 (d_w (x1 + 1))) (fun v18 s19 => some (v18, s19))))
  else
  d_b2 (F_X3_wrong s v5) (fun v20 s21 => some (v20, s21)))
set_option maxRecDepth 100000 in
theorem D_X3_readOne_j59 {g : d_G} {dd : Nat} {t : Nat → Option p_C} (hg : d_Gok t dd g) (h0 : 2 ≤ dd) {h : p_H} {s : d_S} {x1 : Int} {x2 : Int} {r : Int × d_S} {ls : p_Ls} (hF : F_X3_readOne_j59 g t x1 x2 s = some r) (hH : d_V t h s) (l0 : p_lk 0 ls = some (.ref 43)) (r_x1 : d_R x1) (l1 : p_lk 1 ls = some (.int (Int32.ofInt x1))) (r_x2 : d_R x2) (l2 : p_lk 2 ls = some (.int (Int32.ofInt x2))) : p_wp p_GT p_MT (dd + 1) m_X3_readOne 59 ls [] h (d_QC t r) := by
  unfold F_X3_readOne_j59 at hF
  refine dw_ic rfl (dw_isn rfl rfl (dw_aln rfl (d_s1 l0 rfl (by decide)) (dw_iln rfl (d_s1 l2 rfl (by decide)) (dw_iln rfl p_lk_s1 (dw_iln rfl (d_s1 l1 rfl (by decide)) (dw_vP hF rfl (d_vir (n := 4) rfl rfl rfl rfl rfl hH d_c43_0 rfl) rfl rfl (Nat.ble_eq_true_of_le (by omega)) (dc := 0) (fun _ e => D_X3_faultOfOne e hH r_x2 (d_rl rfl) r_x1) (fun v5 r_v5 hF => dw_is rfl rfl (dw_il rfl p_lk_s1 (?_)))))))))
  refine d_if hF (fun q hF => ?_) (fun q hF => ?_)
  · refine dw_zeq_y rfl (u := 82) rfl r_v5 q ?_
    refine dw_aln rfl (d_s1 (d_s1 l0 rfl (by decide)) rfl (by decide)) (dw_bp rfl rfl (dw_vB hF rfl (d_vir (n := 2) rfl rfl rfl rfl rfl hH d_c43_0 rfl) rfl rfl (Nat.ble_eq_true_of_le (by omega)) (dc := 0) (fun _ e => D_X3_isWord e hH (d_rl rfl)) (fun v6 r_v6 hF => dw_is rfl rfl (dw_aln rfl (d_s1 (d_s1 (d_s1 l0 rfl (by decide)) rfl (by decide)) rfl (by decide)) (dw_gi (k := 7) rfl rfl rfl hH d_c43_7 (dw_is rfl rfl (dw_aln rfl (d_s1 (d_s1 (d_s1 (d_s1 l0 rfl (by decide)) rfl (by decide)) rfl (by decide)) rfl (by decide)) (dw_vV hF rfl (d_vir (n := 1) rfl rfl rfl rfl rfl hH d_c43_0 rfl) rfl rfl (Nat.ble_eq_true_of_le (by omega)) (dc := 1) (fun _ e => D_X3_step e hH) (fun s7 h7 hH7 hF => dw_iln rfl (d_s1 (d_s1 (d_s1 (d_s1 l2 rfl (by decide)) rfl (by decide)) rfl (by decide)) rfl (by decide)) (?_))))))))))
    refine d_if hF (fun q hF => ?_) (fun q hF => ?_)
    · refine dw_zne_y rfl (u := 129) rfl r_x2 q ?_
      exact dw_iln rfl (d_s1 (d_s1 (d_s1 p_lk_s1 rfl (by decide)) rfl (by decide)) rfl (by decide)) (dw_zeq_y rfl (u := 121) rfl (d_rl rfl) (by decide) (dw_aln rfl (d_s1 (d_s1 (d_s1 (d_s1 l0 rfl (by decide)) rfl (by decide)) rfl (by decide)) rfl (by decide)) (dw_ic rfl (dw_il rfl p_lk_s1 (dw_vC hF rfl (d_vir (n := 3) rfl rfl rfl rfl rfl hH7 d_c43_0 rfl) rfl rfl (Nat.ble_eq_true_of_le (by omega)) (dc := 1) (fun _ _ e => D_X3_make e hH7 (d_rl rfl) hH.r) (fun v8 s9 h9 hH9 r_v8 hF => dw_rC rfl rfl r_v8 hH9 hF))))))
    · refine dw_zne_n rfl (u := 129) rfl r_x2 q ?_
      refine dw_il rfl (d_s1 p_lk_s1 rfl (by decide)) (?_)
      refine d_if hF (fun q hF => ?_) (fun q hF => ?_)
      · refine dw_zeq_y rfl (u := 142) rfl (d_R_b r_v6) q ?_
        refine dw_il rfl p_lk_s1 (dw_bp rfl rfl (?_))
        refine d_if hF (fun q hF => ?_) (fun q hF => ?_)
        · refine dw_ne_y rfl (u := 176) rfl hH.r (d_rl rfl) q ?_
          refine dw_aln rfl (d_s1 (d_s1 (d_s1 (d_s1 l0 rfl (by decide)) rfl (by decide)) rfl (by decide)) rfl (by decide)) (dw_iln rfl (d_s1 (d_s1 (d_s1 (d_s1 l1 rfl (by decide)) rfl (by decide)) rfl (by decide)) rfl (by decide)) (dw_ic rfl (dw_add rfl (dw_w1 (dw_vC hF rfl (d_vir (n := 2) rfl rfl rfl rfl rfl hH7 d_c43_0 rfl) rfl rfl (Nat.ble_eq_true_of_le (by omega)) (dc := dd) (fun _ _ e => hg.2.2.1 e hH7 d_R_w) (fun v10 s11 h11 hH11 r_v10 hF => ?_))))))
          refine d_if hF (fun q hF => ?_) (fun q hF => ?_)
          · refine dw_zeq_y rfl (u := 172) rfl (d_R_b r_v10) q ?_
            exact dw_ic rfl (dw_go rfl (u := 200) rfl (dw_rC rfl rfl (Or.inl rfl) hH11 hF))
          · refine dw_zeq_n rfl (u := 172) rfl (d_R_b r_v10) q ?_
            refine dw_aln rfl (d_s1 (d_s1 (d_s1 (d_s1 l0 rfl (by decide)) rfl (by decide)) rfl (by decide)) rfl (by decide)) (dw_ic rfl (dw_ic rfl (dw_vC hF rfl (d_vir (n := 3) rfl rfl rfl rfl rfl hH11 d_c43_0 rfl) rfl rfl (Nat.ble_eq_true_of_le (by omega)) (dc := 1) (fun _ _ e => D_X3_make e hH11 (d_rl rfl) (d_rl rfl)) (fun v12 s13 h13 hH13 r_v12 hF => ?_))))
            refine d_if hF (fun q hF => ?_) (fun q hF => ?_)
            · refine dw_zeq_y rfl (u := 172) rfl (d_R_b r_v12) q ?_
              exact dw_ic rfl (dw_go rfl (u := 200) rfl (dw_rC rfl rfl (Or.inl rfl) hH13 hF))
            · refine dw_zeq_n rfl (u := 172) rfl (d_R_b r_v12) q ?_
              exact dw_ic rfl (dw_go rfl (u := 200) rfl (dw_rC rfl rfl (Or.inr rfl) hH13 hF))
        · refine dw_ne_n rfl (u := 176) rfl hH.r (d_rl rfl) q ?_
          refine dw_aln rfl (d_s1 (d_s1 (d_s1 (d_s1 l0 rfl (by decide)) rfl (by decide)) rfl (by decide)) rfl (by decide)) (dw_iln rfl (d_s1 (d_s1 (d_s1 (d_s1 l1 rfl (by decide)) rfl (by decide)) rfl (by decide)) rfl (by decide)) (dw_ic rfl (dw_add rfl (dw_w1 (dw_vC hF rfl (d_vir (n := 2) rfl rfl rfl rfl rfl hH7 d_c43_0 rfl) rfl rfl (Nat.ble_eq_true_of_le (by omega)) (dc := dd) (fun _ _ e => hg.1 e hH7 d_R_w) (fun v14 s15 h15 hH15 r_v14 hF => ?_))))))
          refine d_if hF (fun q hF => ?_) (fun q hF => ?_)
          · refine dw_zeq_y rfl (u := 199) rfl (d_R_b r_v14) q ?_
            exact dw_ic rfl (dw_rC rfl rfl (Or.inl rfl) hH15 hF)
          · refine dw_zeq_n rfl (u := 199) rfl (d_R_b r_v14) q ?_
            refine dw_aln rfl (d_s1 (d_s1 (d_s1 (d_s1 l0 rfl (by decide)) rfl (by decide)) rfl (by decide)) rfl (by decide)) (dw_bp rfl rfl (dw_vC hF rfl (d_vir (n := 2) rfl rfl rfl rfl rfl hH15 d_c43_0 rfl) rfl rfl (Nat.ble_eq_true_of_le (by omega)) (dc := 2) (fun _ _ e => D_X3_takeSign e hH15 (d_rl rfl)) (fun v16 s17 h17 hH17 r_v16 hF => ?_)))
            refine d_if hF (fun q hF => ?_) (fun q hF => ?_)
            · refine dw_zeq_y rfl (u := 199) rfl (d_R_b r_v16) q ?_
              exact dw_ic rfl (dw_rC rfl rfl (Or.inl rfl) hH17 hF)
            · refine dw_zeq_n rfl (u := 199) rfl (d_R_b r_v16) q ?_
              exact dw_ic rfl (dw_go rfl (u := 200) rfl (dw_rC rfl rfl (Or.inr rfl) hH17 hF))
      · refine dw_zeq_n rfl (u := 142) rfl (d_R_b r_v6) q ?_
        exact dw_aln rfl (d_s1 (d_s1 (d_s1 (d_s1 l0 rfl (by decide)) rfl (by decide)) rfl (by decide)) rfl (by decide)) (dw_iln rfl (d_s1 (d_s1 (d_s1 (d_s1 l1 rfl (by decide)) rfl (by decide)) rfl (by decide)) rfl (by decide)) (dw_ic rfl (dw_add rfl (dw_w1 (dw_vC hF rfl (d_vir (n := 2) rfl rfl rfl rfl rfl hH7 d_c43_0 rfl) rfl rfl (Nat.ble_eq_true_of_le (by omega)) (dc := dd) (fun _ _ e => hg.2.2.2 e hH7 d_R_w) (fun v18 s19 h19 hH19 r_v18 hF => dw_rC rfl rfl r_v18 hH19 hF))))))
  · refine dw_zeq_n rfl (u := 82) rfl r_v5 q ?_
    exact dw_aln rfl (d_s1 (d_s1 l0 rfl (by decide)) rfl (by decide)) (dw_il rfl p_lk_s1 (dw_vC hF rfl (d_vir (n := 2) rfl rfl rfl rfl rfl hH d_c43_0 rfl) rfl rfl (Nat.ble_eq_true_of_le (by omega)) (dc := 0) (fun _ _ e => D_X3_wrong e hH r_v5) (fun v20 s21 h21 hH21 r_v20 hF => dw_rC rfl rfl r_v20 hH21 hF)))
set_option maxRecDepth 100000 in
noncomputable def F_X3_readOne_j60_1 (g : d_G) (t : Nat → Option p_C) (x1 : Int) (x2 : Int) (s : d_S) : Option (Int × d_S) :=
  d_b (F_X3_faultOfOne s x2 1 x1) (fun v22 => if v22 = 0 then
  d_b (F_X3_isWord s 20) (fun v23 => d_b (F_X3_step t s) (fun s24 => if x2 = 0 then
  d_b2 (F_X3_make s24 1 (d_w ((s.1 43 7) - 8))) (fun v25 s26 => some (v25, s26))
  else
  if v23 = 0 then
  if (s.1 43 7) = 45 then
  d_b2 (g.2.2.1 s24 (d_w (x1 + 1))) (fun v27 s28 => if v27 = 0 then
  some (0, s28)
  else
  d_b2 (F_X3_make s28 2 0) (fun v29 s30 => if v29 = 0 then
  some (0, s30)
  else
  some (1, s30)))
  else
  d_b2 (g.1 s24 (d_w (x1 + 1))) (fun v31 s32 => if v31 = 0 then
  some (0, s32)
  else
  d_b2 (F_X3_takeSign t s32 41) (fun v33 s34 => if v33 = 0 then
  some (0, s34)
  else
  some (1, s34)))
  else
  d_b2 (g.2.2.2 s24 (d_w (x1 + 1))) (fun v35 s36 => some (v35, s36))))
  else
  d_b2 (F_X3_wrong s v22) (fun v37 s38 => some (v37, s38)))
set_option maxRecDepth 100000 in
theorem D_X3_readOne_j60_1 {g : d_G} {dd : Nat} {t : Nat → Option p_C} (hg : d_Gok t dd g) (h0 : 2 ≤ dd) {h : p_H} {s : d_S} {x1 : Int} {x2 : Int} {r : Int × d_S} {ls : p_Ls} (hF : F_X3_readOne_j60_1 g t x1 x2 s = some r) (hH : d_V t h s) (l0 : p_lk 0 ls = some (.ref 43)) (r_x1 : d_R x1) (l1 : p_lk 1 ls = some (.int (Int32.ofInt x1))) (r_x2 : d_R x2) (l2 : p_lk 2 ls = some (.int (Int32.ofInt x2))) : p_wp p_GT p_MT (dd + 1) m_X3_readOne 60 ls [.int (Int32.ofInt 1)] h (d_QC t r) := by
  unfold F_X3_readOne_j60_1 at hF
  refine dw_isn rfl rfl (dw_aln rfl (d_s1 l0 rfl (by decide)) (dw_iln rfl (d_s1 l2 rfl (by decide)) (dw_iln rfl p_lk_s1 (dw_iln rfl (d_s1 l1 rfl (by decide)) (dw_vP hF rfl (d_vir (n := 4) rfl rfl rfl rfl rfl hH d_c43_0 rfl) rfl rfl (Nat.ble_eq_true_of_le (by omega)) (dc := 0) (fun _ e => D_X3_faultOfOne e hH r_x2 (d_rl rfl) r_x1) (fun v22 r_v22 hF => dw_is rfl rfl (dw_il rfl p_lk_s1 (?_))))))))
  refine d_if hF (fun q hF => ?_) (fun q hF => ?_)
  · refine dw_zeq_y rfl (u := 82) rfl r_v22 q ?_
    refine dw_aln rfl (d_s1 (d_s1 l0 rfl (by decide)) rfl (by decide)) (dw_bp rfl rfl (dw_vB hF rfl (d_vir (n := 2) rfl rfl rfl rfl rfl hH d_c43_0 rfl) rfl rfl (Nat.ble_eq_true_of_le (by omega)) (dc := 0) (fun _ e => D_X3_isWord e hH (d_rl rfl)) (fun v23 r_v23 hF => dw_is rfl rfl (dw_aln rfl (d_s1 (d_s1 (d_s1 l0 rfl (by decide)) rfl (by decide)) rfl (by decide)) (dw_gi (k := 7) rfl rfl rfl hH d_c43_7 (dw_is rfl rfl (dw_aln rfl (d_s1 (d_s1 (d_s1 (d_s1 l0 rfl (by decide)) rfl (by decide)) rfl (by decide)) rfl (by decide)) (dw_vV hF rfl (d_vir (n := 1) rfl rfl rfl rfl rfl hH d_c43_0 rfl) rfl rfl (Nat.ble_eq_true_of_le (by omega)) (dc := 1) (fun _ e => D_X3_step e hH) (fun s24 h24 hH24 hF => dw_iln rfl (d_s1 (d_s1 (d_s1 (d_s1 l2 rfl (by decide)) rfl (by decide)) rfl (by decide)) rfl (by decide)) (?_))))))))))
    refine d_if hF (fun q hF => ?_) (fun q hF => ?_)
    · refine dw_zne_y rfl (u := 129) rfl r_x2 q ?_
      refine dw_iln rfl (d_s1 (d_s1 (d_s1 p_lk_s1 rfl (by decide)) rfl (by decide)) rfl (by decide)) (dw_zeq_n rfl (u := 121) rfl (d_rl rfl) (by decide) (dw_aln rfl (d_s1 (d_s1 (d_s1 (d_s1 l0 rfl (by decide)) rfl (by decide)) rfl (by decide)) rfl (by decide)) (dw_ic rfl (dw_il rfl p_lk_s1 (dw_bp rfl rfl (dw_sub rfl (dw_w1 (dw_vC hF rfl (d_vir (n := 3) rfl rfl rfl rfl rfl hH24 d_c43_0 rfl) rfl rfl (Nat.ble_eq_true_of_le (by omega)) (dc := 1) (fun _ _ e => D_X3_make e hH24 (d_rl rfl) d_R_w) (fun v25 s26 h26 hH26 r_v25 hF => dw_go rfl (u := 128) rfl (?_))))))))))
      exact dw_rC rfl rfl r_v25 hH26 hF
    · refine dw_zne_n rfl (u := 129) rfl r_x2 q ?_
      refine dw_il rfl (d_s1 p_lk_s1 rfl (by decide)) (?_)
      refine d_if hF (fun q hF => ?_) (fun q hF => ?_)
      · refine dw_zeq_y rfl (u := 142) rfl (d_R_b r_v23) q ?_
        refine dw_il rfl p_lk_s1 (dw_bp rfl rfl (?_))
        refine d_if hF (fun q hF => ?_) (fun q hF => ?_)
        · refine dw_ne_y rfl (u := 176) rfl hH.r (d_rl rfl) q ?_
          refine dw_aln rfl (d_s1 (d_s1 (d_s1 (d_s1 l0 rfl (by decide)) rfl (by decide)) rfl (by decide)) rfl (by decide)) (dw_iln rfl (d_s1 (d_s1 (d_s1 (d_s1 l1 rfl (by decide)) rfl (by decide)) rfl (by decide)) rfl (by decide)) (dw_ic rfl (dw_add rfl (dw_w1 (dw_vC hF rfl (d_vir (n := 2) rfl rfl rfl rfl rfl hH24 d_c43_0 rfl) rfl rfl (Nat.ble_eq_true_of_le (by omega)) (dc := dd) (fun _ _ e => hg.2.2.1 e hH24 d_R_w) (fun v27 s28 h28 hH28 r_v27 hF => ?_))))))
          refine d_if hF (fun q hF => ?_) (fun q hF => ?_)
          · refine dw_zeq_y rfl (u := 172) rfl (d_R_b r_v27) q ?_
            exact dw_ic rfl (dw_go rfl (u := 200) rfl (dw_rC rfl rfl (Or.inl rfl) hH28 hF))
          · refine dw_zeq_n rfl (u := 172) rfl (d_R_b r_v27) q ?_
            refine dw_aln rfl (d_s1 (d_s1 (d_s1 (d_s1 l0 rfl (by decide)) rfl (by decide)) rfl (by decide)) rfl (by decide)) (dw_ic rfl (dw_ic rfl (dw_vC hF rfl (d_vir (n := 3) rfl rfl rfl rfl rfl hH28 d_c43_0 rfl) rfl rfl (Nat.ble_eq_true_of_le (by omega)) (dc := 1) (fun _ _ e => D_X3_make e hH28 (d_rl rfl) (d_rl rfl)) (fun v29 s30 h30 hH30 r_v29 hF => ?_))))
            refine d_if hF (fun q hF => ?_) (fun q hF => ?_)
            · refine dw_zeq_y rfl (u := 172) rfl (d_R_b r_v29) q ?_
              exact dw_ic rfl (dw_go rfl (u := 200) rfl (dw_rC rfl rfl (Or.inl rfl) hH30 hF))
            · refine dw_zeq_n rfl (u := 172) rfl (d_R_b r_v29) q ?_
              exact dw_ic rfl (dw_go rfl (u := 200) rfl (dw_rC rfl rfl (Or.inr rfl) hH30 hF))
        · refine dw_ne_n rfl (u := 176) rfl hH.r (d_rl rfl) q ?_
          refine dw_aln rfl (d_s1 (d_s1 (d_s1 (d_s1 l0 rfl (by decide)) rfl (by decide)) rfl (by decide)) rfl (by decide)) (dw_iln rfl (d_s1 (d_s1 (d_s1 (d_s1 l1 rfl (by decide)) rfl (by decide)) rfl (by decide)) rfl (by decide)) (dw_ic rfl (dw_add rfl (dw_w1 (dw_vC hF rfl (d_vir (n := 2) rfl rfl rfl rfl rfl hH24 d_c43_0 rfl) rfl rfl (Nat.ble_eq_true_of_le (by omega)) (dc := dd) (fun _ _ e => hg.1 e hH24 d_R_w) (fun v31 s32 h32 hH32 r_v31 hF => ?_))))))
          refine d_if hF (fun q hF => ?_) (fun q hF => ?_)
          · refine dw_zeq_y rfl (u := 199) rfl (d_R_b r_v31) q ?_
            exact dw_ic rfl (dw_rC rfl rfl (Or.inl rfl) hH32 hF)
          · refine dw_zeq_n rfl (u := 199) rfl (d_R_b r_v31) q ?_
            refine dw_aln rfl (d_s1 (d_s1 (d_s1 (d_s1 l0 rfl (by decide)) rfl (by decide)) rfl (by decide)) rfl (by decide)) (dw_bp rfl rfl (dw_vC hF rfl (d_vir (n := 2) rfl rfl rfl rfl rfl hH32 d_c43_0 rfl) rfl rfl (Nat.ble_eq_true_of_le (by omega)) (dc := 2) (fun _ _ e => D_X3_takeSign e hH32 (d_rl rfl)) (fun v33 s34 h34 hH34 r_v33 hF => ?_)))
            refine d_if hF (fun q hF => ?_) (fun q hF => ?_)
            · refine dw_zeq_y rfl (u := 199) rfl (d_R_b r_v33) q ?_
              exact dw_ic rfl (dw_rC rfl rfl (Or.inl rfl) hH34 hF)
            · refine dw_zeq_n rfl (u := 199) rfl (d_R_b r_v33) q ?_
              exact dw_ic rfl (dw_go rfl (u := 200) rfl (dw_rC rfl rfl (Or.inr rfl) hH34 hF))
      · refine dw_zeq_n rfl (u := 142) rfl (d_R_b r_v23) q ?_
        exact dw_aln rfl (d_s1 (d_s1 (d_s1 (d_s1 l0 rfl (by decide)) rfl (by decide)) rfl (by decide)) rfl (by decide)) (dw_iln rfl (d_s1 (d_s1 (d_s1 (d_s1 l1 rfl (by decide)) rfl (by decide)) rfl (by decide)) rfl (by decide)) (dw_ic rfl (dw_add rfl (dw_w1 (dw_vC hF rfl (d_vir (n := 2) rfl rfl rfl rfl rfl hH24 d_c43_0 rfl) rfl rfl (Nat.ble_eq_true_of_le (by omega)) (dc := dd) (fun _ _ e => hg.2.2.2 e hH24 d_R_w) (fun v35 s36 h36 hH36 r_v35 hF => dw_rC rfl rfl r_v35 hH36 hF))))))
  · refine dw_zeq_n rfl (u := 82) rfl r_v22 q ?_
    exact dw_aln rfl (d_s1 (d_s1 l0 rfl (by decide)) rfl (by decide)) (dw_il rfl p_lk_s1 (dw_vC hF rfl (d_vir (n := 2) rfl rfl rfl rfl rfl hH d_c43_0 rfl) rfl rfl (Nat.ble_eq_true_of_le (by omega)) (dc := 0) (fun _ _ e => D_X3_wrong e hH r_v22) (fun v37 s38 h38 hH38 r_v37 hF => dw_rC rfl rfl r_v37 hH38 hF)))
set_option maxRecDepth 100000 in
noncomputable def F_X3_readOne_j27 (g : d_G) (t : Nat → Option p_C) (x1 : Int) (s : d_S) : Option (Int × d_S) :=
  if (s.1 43 6) = 1 then
  d_b (F_X11_within (s.1 43 7) 8 15) (fun v39 => if v39 = 0 then
  F_X3_readOne_j59 g t x1 1 s
  else
  F_X3_readOne_j60_1 g t x1 1 s)
  else
  F_X3_readOne_j59 g t x1 1 s
set_option maxRecDepth 100000 in
theorem D_X3_readOne_j27 {g : d_G} {dd : Nat} {t : Nat → Option p_C} (hg : d_Gok t dd g) (h0 : 2 ≤ dd) {h : p_H} {s : d_S} {x1 : Int} {r : Int × d_S} {ls : p_Ls} (hF : F_X3_readOne_j27 g t x1 s = some r) (hH : d_V t h s) (l0 : p_lk 0 ls = some (.ref 43)) (r_x1 : d_R x1) (l1 : p_lk 1 ls = some (.int (Int32.ofInt x1))) : p_wp p_GT p_MT (dd + 1) m_X3_readOne 27 ls [] h (d_QC t r) := by
  unfold F_X3_readOne_j27 at hF
  refine dw_ic rfl (dw_go rfl (u := 32) rfl (dw_isn rfl rfl (dw_aln rfl (d_s1 l0 rfl (by decide)) (dw_gi (k := 6) rfl rfl rfl hH d_c43_6 (dw_ic rfl (?_))))))
  refine d_if hF (fun q hF => ?_) (fun q hF => ?_)
  · refine dw_ne_y rfl (u := 59) rfl hH.r (d_rl rfl) q ?_
    refine dw_aln rfl (d_s1 l0 rfl (by decide)) (dw_gi (k := 7) rfl rfl rfl hH d_c43_7 (dw_bp rfl rfl (dw_bp rfl rfl (dw_sB hF rfl rfl rfl rfl (Nat.ble_eq_true_of_le (by omega)) (dc := 0) (fun _ e => D_X11_within e hH.r (d_rl rfl) (d_rl rfl)) (fun v39 r_v39 hF => ?_)))))
    refine d_if hF (fun q hF => ?_) (fun q hF => ?_)
    · refine dw_zeq_y rfl (u := 59) rfl (d_R_b r_v39) q ?_
      exact D_X3_readOne_j59 hg h0 hF hH (d_s1 l0 rfl (by decide)) r_x1 (d_s1 l1 rfl (by decide)) (d_rl rfl) p_lk_s1
    · refine dw_zeq_n rfl (u := 59) rfl (d_R_b r_v39) q ?_
      refine dw_ic rfl (dw_go rfl (u := 60) rfl (?_))
      exact D_X3_readOne_j60_1 hg h0 hF hH (d_s1 l0 rfl (by decide)) r_x1 (d_s1 l1 rfl (by decide)) (d_rl rfl) p_lk_s1
  · refine dw_ne_n rfl (u := 59) rfl hH.r (d_rl rfl) q ?_
    exact D_X3_readOne_j59 hg h0 hF hH (d_s1 l0 rfl (by decide)) r_x1 (d_s1 l1 rfl (by decide)) (d_rl rfl) p_lk_s1
set_option maxRecDepth 100000 in
noncomputable def F_X3_readOne (g : d_G) (t : Nat → Option p_C) (s : d_S) (x1 : Int) : Option (Int × d_S) :=
  d_b (F_X3_isSign s 40) (fun v1 => if v1 = 0 then
  d_b (F_X3_isSign s 45) (fun v2 => if v2 = 0 then
  d_b (F_X3_isWord s 20) (fun v3 => if v3 = 0 then
  if (s.1 43 6) = 1 then
  d_b (F_X11_within (s.1 43 7) 8 15) (fun v4 => if v4 = 0 then
  F_X3_readOne_j59 g t x1 0 s
  else
  F_X3_readOne_j60_1 g t x1 0 s)
  else
  F_X3_readOne_j59 g t x1 0 s
  else
  F_X3_readOne_j27 g t x1 s)
  else
  F_X3_readOne_j27 g t x1 s)
  else
  F_X3_readOne_j27 g t x1 s)
set_option maxRecDepth 100000 in
theorem D_X3_readOne {g : d_G} {dd : Nat} {t : Nat → Option p_C} (hg : d_Gok t dd g) (h0 : 2 ≤ dd) {h : p_H} {s : d_S} {x1 : Int} {r : Int × d_S} (hF : F_X3_readOne g t s x1 = some r) (hH : d_V t h s) (r_x1 : d_R x1) : p_wp p_GT p_MT (dd + 1) m_X3_readOne 0 (lv_args 0 [.ref 43, .int (Int32.ofInt x1)]) [] h (d_QC t r) := by
  unfold F_X3_readOne at hF
  refine dw_aln rfl rfl (dw_bp rfl rfl (dw_vB hF rfl (d_vir (n := 2) rfl rfl rfl rfl rfl hH d_c43_0 rfl) rfl rfl (Nat.ble_eq_true_of_le (by omega)) (dc := 0) (fun _ e => D_X3_isSign e hH (d_rl rfl)) (fun v1 r_v1 hF => ?_)))
  refine d_if hF (fun q hF => ?_) (fun q hF => ?_)
  · refine dw_zne_y rfl (u := 27) rfl (d_R_b r_v1) q ?_
    refine dw_aln rfl rfl (dw_bp rfl rfl (dw_vB hF rfl (d_vir (n := 2) rfl rfl rfl rfl rfl hH d_c43_0 rfl) rfl rfl (Nat.ble_eq_true_of_le (by omega)) (dc := 0) (fun _ e => D_X3_isSign e hH (d_rl rfl)) (fun v2 r_v2 hF => ?_)))
    refine d_if hF (fun q hF => ?_) (fun q hF => ?_)
    · refine dw_zne_y rfl (u := 27) rfl (d_R_b r_v2) q ?_
      refine dw_aln rfl rfl (dw_bp rfl rfl (dw_vB hF rfl (d_vir (n := 2) rfl rfl rfl rfl rfl hH d_c43_0 rfl) rfl rfl (Nat.ble_eq_true_of_le (by omega)) (dc := 0) (fun _ e => D_X3_isWord e hH (d_rl rfl)) (fun v3 r_v3 hF => ?_)))
      refine d_if hF (fun q hF => ?_) (fun q hF => ?_)
      · refine dw_zeq_y rfl (u := 31) rfl (d_R_b r_v3) q ?_
        refine dw_ic rfl (dw_isn rfl rfl (dw_aln rfl (d_s1 rfl rfl (by decide)) (dw_gi (k := 6) rfl rfl rfl hH d_c43_6 (dw_ic rfl (?_)))))
        refine d_if hF (fun q hF => ?_) (fun q hF => ?_)
        · refine dw_ne_y rfl (u := 59) rfl hH.r (d_rl rfl) q ?_
          refine dw_aln rfl (d_s1 rfl rfl (by decide)) (dw_gi (k := 7) rfl rfl rfl hH d_c43_7 (dw_bp rfl rfl (dw_bp rfl rfl (dw_sB hF rfl rfl rfl rfl (Nat.ble_eq_true_of_le (by omega)) (dc := 0) (fun _ e => D_X11_within e hH.r (d_rl rfl) (d_rl rfl)) (fun v4 r_v4 hF => ?_)))))
          refine d_if hF (fun q hF => ?_) (fun q hF => ?_)
          · refine dw_zeq_y rfl (u := 59) rfl (d_R_b r_v4) q ?_
            exact D_X3_readOne_j59 hg h0 hF hH (d_s1 rfl rfl (by decide)) r_x1 (d_s1 rfl rfl (by decide)) (d_rl rfl) p_lk_s1
          · refine dw_zeq_n rfl (u := 59) rfl (d_R_b r_v4) q ?_
            refine dw_ic rfl (dw_go rfl (u := 60) rfl (?_))
            exact D_X3_readOne_j60_1 hg h0 hF hH (d_s1 rfl rfl (by decide)) r_x1 (d_s1 rfl rfl (by decide)) (d_rl rfl) p_lk_s1
        · refine dw_ne_n rfl (u := 59) rfl hH.r (d_rl rfl) q ?_
          exact D_X3_readOne_j59 hg h0 hF hH (d_s1 rfl rfl (by decide)) r_x1 (d_s1 rfl rfl (by decide)) (d_rl rfl) p_lk_s1
      · refine dw_zeq_n rfl (u := 31) rfl (d_R_b r_v3) q ?_
        exact D_X3_readOne_j27 hg h0 hF hH rfl r_x1 rfl
    · refine dw_zne_n rfl (u := 27) rfl (d_R_b r_v2) q ?_
      exact D_X3_readOne_j27 hg h0 hF hH rfl r_x1 rfl
  · refine dw_zne_n rfl (u := 27) rfl (d_R_b r_v1) q ?_
    exact D_X3_readOne_j27 hg h0 hF hH rfl r_x1 rfl
set_option maxRecDepth 100000 in
noncomputable def F_X3_readChoice_l32_b (g : d_G) (t : Nat → Option p_C) (k85 : Int → d_S → Option (Int × d_S)) (rec : Int → Int → Int → d_S → Option (Int × d_S)) (x1 : Int) (x2 : Int) (x3 : Int) (s : d_S) : Option (Int × d_S) :=
  if 7 < x3 then
  some (0, s)
  else
  d_b2 (F_X3_make s 4 0) (fun v7 s8 => if 6 < x3 then
  d_l (d_si s8 43 17 1) (fun s9 => d_b2 (g.1 s9 x1) (fun v10 s11 => if v10 = 0 then
  some (0, s11)
  else
  d_b (F_X3_isSign s11 44) (fun v12 => if v12 = 0 then
  k85 x2 s11
  else
  d_b2 (F_X3_make s11 3 (d_w (x2 + 1))) (fun v13 s14 => d_l (d_w ((s14.1 43 15) - 1)) (fun z15 => d_b (F_X3_lead s14 (s.1 43 15) (s14.1 43 15)) (fun s16 => d_b (F_X3_step t s16) (fun s17 => rec x1 z15 (d_w (x3 + 1)) s17)))))))
  else
  d_l (d_si s8 43 17 0) (fun s18 => d_b2 (g.1 s18 x1) (fun v19 s20 => if v19 = 0 then
  some (0, s20)
  else
  d_b (F_X3_isSign s20 44) (fun v21 => if v21 = 0 then
  k85 x2 s20
  else
  d_b2 (F_X3_make s20 3 (d_w (x2 + 1))) (fun v22 s23 => d_l (d_w ((s23.1 43 15) - 1)) (fun z24 => d_b (F_X3_lead s23 (s.1 43 15) (s23.1 43 15)) (fun s25 => d_b (F_X3_step t s25) (fun s26 => rec x1 z24 (d_w (x3 + 1)) s26))))))))
set_option maxRecDepth 100000 in
noncomputable def F_X3_readChoice_l32 (g : d_G) (t : Nat → Option p_C) (k85 : Int → d_S → Option (Int × d_S)) : Nat → Int → Int → Int → d_S → Option (Int × d_S)
  | 0 => fun _ _ _ _ => none
  | n + 1 => F_X3_readChoice_l32_b g t k85 (F_X3_readChoice_l32 g t k85 n)
set_option maxRecDepth 100000 in
theorem D_X3_readChoice_l32 {g : d_G} {dd : Nat} {t : Nat → Option p_C} (hg : d_Gok t dd g) (h0 : 2 ≤ dd) {k85 : Int → d_S → Option (Int × d_S)} {r : Int × d_S} (hk85 : ∀ {x2 : Int} {ls : p_Ls} {s : d_S} {h : p_H}, k85 x2 s = some r → d_V t h s → p_lk 0 ls = some (.ref 43) → d_R x2 → p_lk 2 ls = some (.int (Int32.ofInt x2)) → p_wp p_GT p_MT (dd + 1) m_X3_readChoice 85 ls [] h (d_QC t r)) : ∀ (n : Nat) {x1 : Int} {x2 : Int} {x3 : Int} {ls : p_Ls} {s : d_S} {h : p_H}, F_X3_readChoice_l32 g t k85 n x1 x2 x3 s = some r → d_V t h s → p_lk 0 ls = some (.ref 43) → d_R x1 → p_lk 1 ls = some (.int (Int32.ofInt x1)) → d_R x2 → p_lk 2 ls = some (.int (Int32.ofInt x2)) → d_R x3 → p_lk 3 ls = some (.int (Int32.ofInt x3)) → p_wp p_GT p_MT (dd + 1) m_X3_readChoice 32 ls [] h (d_QC t r) := by
  intro n
  induction n with
  | zero =>
    intro x1 x2 x3 ls s h hF hH l0 r_x1 l1 r_x2 l2 r_x3 l3
    cases (show (none : Option (Int × d_S)) = some r from hF)
  | succ n ih =>
    intro x1 x2 x3 ls s h hF hH l0 r_x1 l1 r_x2 l2 r_x3 l3
    have hF : F_X3_readChoice_l32_b g t k85 (F_X3_readChoice_l32 g t k85 n) x1 x2 x3 s = some r := hF
    unfold F_X3_readChoice_l32_b at hF
    refine dw_iln rfl l3 (dw_bp rfl rfl (?_))
    refine d_if hF (fun q hF => ?_) (fun q hF => ?_)
    · refine dw_gt_y rfl (u := 133) rfl r_x3 (d_rl rfl) q ?_
      exact dw_ic rfl (dw_rC rfl rfl (Or.inl rfl) hH hF)
    · refine dw_gt_n rfl (u := 133) rfl r_x3 (d_rl rfl) q ?_
      refine dw_aln rfl l0 (dw_gi (k := 15) rfl rfl rfl hH d_c43_15 (dw_is rfl rfl (dw_aln rfl (d_s1 l0 rfl (by decide)) (dw_ic rfl (dw_ic rfl (dw_vC hF rfl (d_vir (n := 3) rfl rfl rfl rfl rfl hH d_c43_0 rfl) rfl rfl (Nat.ble_eq_true_of_le (by omega)) (dc := 1) (fun _ _ e => D_X3_make e hH (d_rl rfl) (d_rl rfl)) (fun v7 s8 h8 hH8 r_v7 hF => dw_pop rfl (dw_aln rfl (d_s1 l0 rfl (by decide)) (dw_iln rfl (d_s1 l3 rfl (by decide)) (?_))))))))))
      refine dw_bp rfl rfl (?_)
      refine d_if hF (fun q hF => ?_) (fun q hF => ?_)
      · refine dw_le_y rfl (u := 62) rfl r_x3 (d_rl rfl) q ?_
        refine dw_ic rfl (dw_go rfl (u := 63) rfl (dw_pb (k := 17) rfl rfl rfl rfl hH8 d_c43_17 (Or.inr rfl) (by decide) hF (fun s9 h9 hH9 hF => dw_aln rfl (d_s1 l0 rfl (by decide)) (dw_iln rfl (d_s1 l1 rfl (by decide)) (dw_vC hF rfl (d_vir (n := 2) rfl rfl rfl rfl rfl hH9 d_c43_0 rfl) rfl rfl (Nat.ble_eq_true_of_le (by omega)) (dc := dd) (fun _ _ e => hg.1 e hH9 r_x1) (fun v10 s11 h11 hH11 r_v10 hF => ?_))))))
        refine d_if hF (fun q hF => ?_) (fun q hF => ?_)
        · refine dw_zne_y rfl (u := 76) rfl (d_R_b r_v10) q ?_
          exact dw_ic rfl (dw_rC rfl rfl (Or.inl rfl) hH11 hF)
        · refine dw_zne_n rfl (u := 76) rfl (d_R_b r_v10) q ?_
          refine dw_aln rfl (d_s1 l0 rfl (by decide)) (dw_bp rfl rfl (dw_vB hF rfl (d_vir (n := 2) rfl rfl rfl rfl rfl hH11 d_c43_0 rfl) rfl rfl (Nat.ble_eq_true_of_le (by omega)) (dc := 0) (fun _ e => D_X3_isSign e hH11 (d_rl rfl)) (fun v12 r_v12 hF => ?_)))
          refine d_if hF (fun q hF => ?_) (fun q hF => ?_)
          · refine dw_zne_y rfl (u := 97) rfl (d_R_b r_v12) q ?_
            exact hk85 hF hH11 (d_s1 l0 rfl (by decide)) r_x2 (d_s1 l2 rfl (by decide))
          · refine dw_zne_n rfl (u := 97) rfl (d_R_b r_v12) q ?_
            refine dw_aln rfl (d_s1 l0 rfl (by decide)) (dw_ic rfl (dw_iln rfl (d_s1 l2 rfl (by decide)) (dw_ic rfl (dw_add rfl (dw_w1 (dw_vC hF rfl (d_vir (n := 3) rfl rfl rfl rfl rfl hH11 d_c43_0 rfl) rfl rfl (Nat.ble_eq_true_of_le (by omega)) (dc := 1) (fun _ _ e => D_X3_make e hH11 (d_rl rfl) d_R_w) (fun v13 s14 h14 hH14 r_v13 hF => dw_pop rfl (dw_aln rfl (d_s1 l0 rfl (by decide)) (dw_gi (k := 15) rfl rfl rfl hH14 d_c43_15 (?_))))))))))
            refine dw_ic rfl (dw_sub rfl (dw_w1 (dw_nm hF d_R_w (fun z15 r_z15 hF => dw_isn rfl rfl (dw_aln rfl (d_s1 (d_s1 l0 rfl (by decide)) rfl (by decide)) (dw_il rfl (d_s1 p_lk_s1 rfl (by decide)) (dw_aln rfl (d_s1 (d_s1 l0 rfl (by decide)) rfl (by decide)) (dw_gi (k := 15) rfl rfl rfl hH14 d_c43_15 (dw_vV hF rfl (d_vir (n := 3) rfl rfl rfl rfl rfl hH14 d_c43_0 rfl) rfl rfl (Nat.ble_eq_true_of_le (by omega)) (dc := 1) (fun _ e => D_X3_lead e hH14 hH.r hH14.r) (fun s16 h16 hH16 hF => ?_))))))))))
            refine dw_aln rfl (d_s1 (d_s1 l0 rfl (by decide)) rfl (by decide)) (dw_vV hF rfl (d_vir (n := 1) rfl rfl rfl rfl rfl hH16 d_c43_0 rfl) rfl rfl (Nat.ble_eq_true_of_le (by omega)) (dc := 1) (fun _ e => D_X3_step e hH16) (fun s17 h17 hH17 hF => dw_ii rfl (d_s1 (d_s1 l3 rfl (by decide)) rfl (by decide)) rfl (dw_go rfl (u := 32) rfl (?_))))
            exact ih hF hH17 (d_s1 (d_s1 (d_s1 l0 rfl (by decide)) rfl (by decide)) rfl (by decide)) r_x1 (d_s1 (d_s1 (d_s1 l1 rfl (by decide)) rfl (by decide)) rfl (by decide)) r_z15 (d_s1 p_lk_s1 rfl (by decide)) d_R_w p_lk_s1
      · refine dw_le_n rfl (u := 62) rfl r_x3 (d_rl rfl) q ?_
        refine dw_ic rfl (dw_pb (k := 17) rfl rfl rfl rfl hH8 d_c43_17 (Or.inl rfl) (by decide) hF (fun s18 h18 hH18 hF => dw_aln rfl (d_s1 l0 rfl (by decide)) (dw_iln rfl (d_s1 l1 rfl (by decide)) (dw_vC hF rfl (d_vir (n := 2) rfl rfl rfl rfl rfl hH18 d_c43_0 rfl) rfl rfl (Nat.ble_eq_true_of_le (by omega)) (dc := dd) (fun _ _ e => hg.1 e hH18 r_x1) (fun v19 s20 h20 hH20 r_v19 hF => ?_)))))
        refine d_if hF (fun q hF => ?_) (fun q hF => ?_)
        · refine dw_zne_y rfl (u := 76) rfl (d_R_b r_v19) q ?_
          exact dw_ic rfl (dw_rC rfl rfl (Or.inl rfl) hH20 hF)
        · refine dw_zne_n rfl (u := 76) rfl (d_R_b r_v19) q ?_
          refine dw_aln rfl (d_s1 l0 rfl (by decide)) (dw_bp rfl rfl (dw_vB hF rfl (d_vir (n := 2) rfl rfl rfl rfl rfl hH20 d_c43_0 rfl) rfl rfl (Nat.ble_eq_true_of_le (by omega)) (dc := 0) (fun _ e => D_X3_isSign e hH20 (d_rl rfl)) (fun v21 r_v21 hF => ?_)))
          refine d_if hF (fun q hF => ?_) (fun q hF => ?_)
          · refine dw_zne_y rfl (u := 97) rfl (d_R_b r_v21) q ?_
            exact hk85 hF hH20 (d_s1 l0 rfl (by decide)) r_x2 (d_s1 l2 rfl (by decide))
          · refine dw_zne_n rfl (u := 97) rfl (d_R_b r_v21) q ?_
            refine dw_aln rfl (d_s1 l0 rfl (by decide)) (dw_ic rfl (dw_iln rfl (d_s1 l2 rfl (by decide)) (dw_ic rfl (dw_add rfl (dw_w1 (dw_vC hF rfl (d_vir (n := 3) rfl rfl rfl rfl rfl hH20 d_c43_0 rfl) rfl rfl (Nat.ble_eq_true_of_le (by omega)) (dc := 1) (fun _ _ e => D_X3_make e hH20 (d_rl rfl) d_R_w) (fun v22 s23 h23 hH23 r_v22 hF => dw_pop rfl (dw_aln rfl (d_s1 l0 rfl (by decide)) (dw_gi (k := 15) rfl rfl rfl hH23 d_c43_15 (?_))))))))))
            refine dw_ic rfl (dw_sub rfl (dw_w1 (dw_nm hF d_R_w (fun z24 r_z24 hF => dw_isn rfl rfl (dw_aln rfl (d_s1 (d_s1 l0 rfl (by decide)) rfl (by decide)) (dw_il rfl (d_s1 p_lk_s1 rfl (by decide)) (dw_aln rfl (d_s1 (d_s1 l0 rfl (by decide)) rfl (by decide)) (dw_gi (k := 15) rfl rfl rfl hH23 d_c43_15 (dw_vV hF rfl (d_vir (n := 3) rfl rfl rfl rfl rfl hH23 d_c43_0 rfl) rfl rfl (Nat.ble_eq_true_of_le (by omega)) (dc := 1) (fun _ e => D_X3_lead e hH23 hH.r hH23.r) (fun s25 h25 hH25 hF => ?_))))))))))
            refine dw_aln rfl (d_s1 (d_s1 l0 rfl (by decide)) rfl (by decide)) (dw_vV hF rfl (d_vir (n := 1) rfl rfl rfl rfl rfl hH25 d_c43_0 rfl) rfl rfl (Nat.ble_eq_true_of_le (by omega)) (dc := 1) (fun _ e => D_X3_step e hH25) (fun s26 h26 hH26 hF => dw_ii rfl (d_s1 (d_s1 l3 rfl (by decide)) rfl (by decide)) rfl (dw_go rfl (u := 32) rfl (?_))))
            exact ih hF hH26 (d_s1 (d_s1 (d_s1 l0 rfl (by decide)) rfl (by decide)) rfl (by decide)) r_x1 (d_s1 (d_s1 (d_s1 l1 rfl (by decide)) rfl (by decide)) rfl (by decide)) r_z24 (d_s1 p_lk_s1 rfl (by decide)) d_R_w p_lk_s1
set_option maxRecDepth 100000 in
noncomputable def F_X3_readChoice (g : d_G) (t : Nat → Option p_C) (s : d_S) (x1 : Int) : Option (Int × d_S) :=
  d_b2 (g.2.2.1 s x1) (fun v1 s2 => if v1 = 0 then
  some (0, s2)
  else
  d_b2 (F_X3_takeWord t s2 21) (fun v3 s4 => if v3 = 0 then
  some (0, s4)
  else
  d_b2 (F_X3_takeSign t s4 40) (fun v5 s6 => if v5 = 0 then
  some (0, s6)
  else
  F_X3_readChoice_l32 g t (fun x2_u27 s_u27 =>
  d_b (F_X3_closeJumps s_u27 x2_u27) (fun s28 => d_b2 (F_X3_takeSign t s28 41) (fun v29 s30 => some (v29, s30)))) d_N x1 (-1) 1 s6)))
set_option maxRecDepth 100000 in
theorem D_X3_readChoice {g : d_G} {dd : Nat} {t : Nat → Option p_C} (hg : d_Gok t dd g) (h0 : 2 ≤ dd) {h : p_H} {s : d_S} {x1 : Int} {r : Int × d_S} (hF : F_X3_readChoice g t s x1 = some r) (hH : d_V t h s) (r_x1 : d_R x1) : p_wp p_GT p_MT (dd + 1) m_X3_readChoice 0 (lv_args 0 [.ref 43, .int (Int32.ofInt x1)]) [] h (d_QC t r) := by
  unfold F_X3_readChoice at hF
  refine dw_aln rfl rfl (dw_iln rfl rfl (dw_vC hF rfl (d_vir (n := 2) rfl rfl rfl rfl rfl hH d_c43_0 rfl) rfl rfl (Nat.ble_eq_true_of_le (by omega)) (dc := dd) (fun _ _ e => hg.2.2.1 e hH r_x1) (fun v1 s2 h2 hH2 r_v1 hF => ?_)))
  refine d_if hF (fun q hF => ?_) (fun q hF => ?_)
  · refine dw_zeq_y rfl (u := 26) rfl (d_R_b r_v1) q ?_
    exact dw_ic rfl (dw_rC rfl rfl (Or.inl rfl) hH2 hF)
  · refine dw_zeq_n rfl (u := 26) rfl (d_R_b r_v1) q ?_
    refine dw_aln rfl rfl (dw_bp rfl rfl (dw_vC hF rfl (d_vir (n := 2) rfl rfl rfl rfl rfl hH2 d_c43_0 rfl) rfl rfl (Nat.ble_eq_true_of_le (by omega)) (dc := 2) (fun _ _ e => D_X3_takeWord e hH2 (d_rl rfl)) (fun v3 s4 h4 hH4 r_v3 hF => ?_)))
    refine d_if hF (fun q hF => ?_) (fun q hF => ?_)
    · refine dw_zeq_y rfl (u := 26) rfl (d_R_b r_v3) q ?_
      exact dw_ic rfl (dw_rC rfl rfl (Or.inl rfl) hH4 hF)
    · refine dw_zeq_n rfl (u := 26) rfl (d_R_b r_v3) q ?_
      refine dw_aln rfl rfl (dw_bp rfl rfl (dw_vC hF rfl (d_vir (n := 2) rfl rfl rfl rfl rfl hH4 d_c43_0 rfl) rfl rfl (Nat.ble_eq_true_of_le (by omega)) (dc := 2) (fun _ _ e => D_X3_takeSign e hH4 (d_rl rfl)) (fun v5 s6 h6 hH6 r_v5 hF => ?_)))
      refine d_if hF (fun q hF => ?_) (fun q hF => ?_)
      · refine dw_zne_y rfl (u := 28) rfl (d_R_b r_v5) q ?_
        exact dw_ic rfl (dw_rC rfl rfl (Or.inl rfl) hH6 hF)
      · refine dw_zne_n rfl (u := 28) rfl (d_R_b r_v5) q ?_
        refine dw_ic rfl (dw_isn rfl rfl (dw_ic rfl (dw_isn rfl rfl (?_))))
        refine D_X3_readChoice_l32 hg h0 (fun {x2_u27} {ls_u27} {s_u27} {h_u27} hF hH_u27 l0_u27 r_x2_u27 l2_u27 => ?_) _ hF hH6 (d_s1 (d_s1 rfl rfl (by decide)) rfl (by decide)) r_x1 (d_s1 (d_s1 rfl rfl (by decide)) rfl (by decide)) (d_rl rfl) (d_s1 p_lk_s1 rfl (by decide)) (d_rl rfl) p_lk_s1
        · exact dw_aln rfl l0_u27 (dw_iln rfl l2_u27 (dw_vV hF rfl (d_vir (n := 2) rfl rfl rfl rfl rfl hH_u27 d_c43_0 rfl) rfl rfl (Nat.ble_eq_true_of_le (by omega)) (dc := 2) (fun _ e => D_X3_closeJumps e hH_u27 r_x2_u27) (fun s28 h28 hH28 hF => dw_aln rfl l0_u27 (dw_bp rfl rfl (dw_vC hF rfl (d_vir (n := 2) rfl rfl rfl rfl rfl hH28 d_c43_0 rfl) rfl rfl (Nat.ble_eq_true_of_le (by omega)) (dc := 2) (fun _ _ e => D_X3_takeSign e hH28 (d_rl rfl)) (fun v29 s30 h30 hH30 r_v29 hF => dw_rC rfl rfl r_v29 hH30 hF))))))

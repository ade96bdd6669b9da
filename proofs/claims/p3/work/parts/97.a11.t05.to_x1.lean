set_option maxRecDepth 100000 in
noncomputable def F_X3_readOne_j59 (g : d_G) (t : Nat → Option p_C) (x1 : Int) (x2 : Int) (s : d_S) : Option (Int × d_S) :=
  d_b (F_X3_faultOfOne s x2 0 x1) (fun v5 => if v5 = 0 then
  d_b (F_X3_isWord s 20) (fun v6 => d_b (F_X3_step t s) (fun s7 => if x2 = 0 then
  d_b2 (F_X3_make s7 0 (s.1 43 7)) (fun v8 s9 => some (v8, s9))
  else
  if v6 = 0 then
  if (s.1 43 7) = 45 then
  d_b2 (g.2.2.1 s7 (d_w (x1 + 1))) (fun v10 s11 => if v10 = 0 then
  some (0, s11)
  else
  d_b2 (F_X3_make s11 2 0) (fun v12 s13 => if v12 = 0 then
  some (0, s13)
  else
  some (1, s13)))
  else
  d_b2 (g.1 s7 (d_w (x1 + 1))) (fun v14 s15 => if v14 = 0 then
  some (0, s15)
  else
  d_b2 (F_X3_takeSign t s15 41) (fun v16 s17 => if v16 = 0 then
  some (0, s17)
  else
  some (1, s17)))
  else
  d_b2 (g.2.2.2 s7 (d_w (x1 + 1))) (fun v18 s19 => some (v18, s19))))
  else
  d_b2 (F_X3_wrong s v5) (fun v20 s21 => some (v20, s21)))
set_option maxRecDepth 100000 in
theorem D_X3_readOne_j59 {g : d_G} {dd : Nat} {t : Nat → Option p_C} (hg : d_Gok t dd g) (h0 : 2 ≤ dd) {h : p_H} {s : d_S} {x1 : Int} {x2 : Int} {r : Int × d_S} {ls : p_Ls} (hF : F_X3_readOne_j59 g t x1 x2 s = some r) (hH : d_V t h s) (l0 : p_lk 0 ls = some (.ref 43)) (r_x1 : d_R x1) (l1 : p_lk 1 ls = some (.int (Int32.ofInt x1))) (r_x2 : d_R x2) (l2 : p_lk 2 ls = some (.int (Int32.ofInt x2))) : p_wp p_GT p_MT (dd + 1) m_X3_readOne 59 ls [] h (d_QC t r) := by
  unfold F_X3_readOne_j59 at hF
  refine dw_ic rfl (dw_isn rfl rfl (dw_aln rfl (d_s1 l0 rfl (by decide)) (dw_iln rfl (d_s1 l2 rfl (by decide)) (dw_iln rfl p_lk_s1 (dw_iln rfl (d_s1 l1 rfl (by decide)) (dw_vP hF rfl (d_vir (n := 4) rfl rfl rfl rfl rfl hH d_c43_0 rfl) rfl rfl (Nat.ble_eq_true_of_le (by omega)) (dc := 0) (fun _ e => D_X3_faultOfOne e hH r_x2 (d_rl rfl) r_x1) (fun v5 r_v5 hF => dw_is rfl rfl (dw_il rfl p_lk_s1 (?_)))))))))
  refine d_if hF (fun q hF => ?_) (fun q hF => ?_)
  · refine dw_zeq_y rfl (u := 82) rfl r_v5 q ?_
    refine dw_aln rfl (d_s1 (d_s1 l0 rfl (by decide)) rfl (by decide)) (dw_bp rfl rfl (dw_vB hF rfl (d_vir (n := 2) rfl rfl rfl rfl rfl hH d_c43_0 rfl) rfl rfl (Nat.ble_eq_true_of_le (by omega)) (dc := 0) (fun _ e => D_X3_isWord e hH (d_rl rfl)) (fun v6 r_v6 hF => dw_is rfl rfl (dw_aln rfl (d_s1 (d_s1 (d_s1 l0 rfl (by decide)) rfl (by decide)) rfl (by decide)) (dw_gi (k := 7) rfl rfl rfl hH d_c43_7 (dw_is rfl rfl (dw_aln rfl (d_s1 (d_s1 (d_s1 (d_s1 l0 rfl (by decide)) rfl (by decide)) rfl (by decide)) rfl (by decide)) (dw_vV hF rfl (d_vir (n := 1) rfl rfl rfl rfl rfl hH d_c43_0 rfl) rfl rfl (Nat.ble_eq_true_of_le (by omega)) (dc := 1) (fun _ e => D_X3_step e hH) (fun s7 h7 hH7 hF => dw_iln rfl (d_s1 (d_s1 (d_s1 (d_s1 l2 rfl (by decide)) rfl (by decide)) rfl (by decide)) rfl (by decide)) (?_))))))))))
    refine d_if hF (fun q hF => ?_) (fun q hF => ?_)
    · refine dw_zne_y rfl (u := 129) rfl r_x2 q ?_
      exact dw_iln rfl (d_s1 (d_s1 (d_s1 p_lk_s1 rfl (by decide)) rfl (by decide)) rfl (by decide)) (dw_zeq_y rfl (u := 121) rfl (d_rl rfl) (by decide) (dw_aln rfl (d_s1 (d_s1 (d_s1 (d_s1 l0 rfl (by decide)) rfl (by decide)) rfl (by decide)) rfl (by decide)) (dw_ic rfl (dw_il rfl p_lk_s1 (dw_vC hF rfl (d_vir (n := 3) rfl rfl rfl rfl rfl hH7 d_c43_0 rfl) rfl rfl (Nat.ble_eq_true_of_le (by omega)) (dc := 1) (fun _ _ e => D_X3_make e hH7 (d_rl rfl) hH.r) (fun v8 s9 h9 hH9 r_v8 hF => dw_rC rfl rfl r_v8 hH9 hF))))))
    · refine dw_zne_n rfl (u := 129) rfl r_x2 q ?_
      refine dw_il rfl (d_s1 p_lk_s1 rfl (by decide)) (?_)
      refine d_if hF (fun q hF => ?_) (fun q hF => ?_)
      · refine dw_zeq_y rfl (u := 142) rfl (d_R_b r_v6) q ?_
        refine dw_il rfl p_lk_s1 (dw_bp rfl rfl (?_))
        refine d_if hF (fun q hF => ?_) (fun q hF => ?_)
        · refine dw_ne_y rfl (u := 176) rfl hH.r (d_rl rfl) q ?_
          refine dw_aln rfl (d_s1 (d_s1 (d_s1 (d_s1 l0 rfl (by decide)) rfl (by decide)) rfl (by decide)) rfl (by decide)) (dw_iln rfl (d_s1 (d_s1 (d_s1 (d_s1 l1 rfl (by decide)) rfl (by decide)) rfl (by decide)) rfl (by decide)) (dw_ic rfl (dw_add rfl (dw_w1 (dw_vC hF rfl (d_vir (n := 2) rfl rfl rfl rfl rfl hH7 d_c43_0 rfl) rfl rfl (Nat.ble_eq_true_of_le (by omega)) (dc := dd) (fun _ _ e => hg.2.2.1 e hH7 d_R_w) (fun v10 s11 h11 hH11 r_v10 hF => ?_))))))
          refine d_if hF (fun q hF => ?_) (fun q hF => ?_)
          · refine dw_zeq_y rfl (u := 172) rfl (d_R_b r_v10) q ?_
            exact dw_ic rfl (dw_go rfl (u := 200) rfl (dw_rC rfl rfl (Or.inl rfl) hH11 hF))
          · refine dw_zeq_n rfl (u := 172) rfl (d_R_b r_v10) q ?_
            refine dw_aln rfl (d_s1 (d_s1 (d_s1 (d_s1 l0 rfl (by decide)) rfl (by decide)) rfl (by decide)) rfl (by decide)) (dw_ic rfl (dw_ic rfl (dw_vC hF rfl (d_vir (n := 3) rfl rfl rfl rfl rfl hH11 d_c43_0 rfl) rfl rfl (Nat.ble_eq_true_of_le (by omega)) (dc := 1) (fun _ _ e => D_X3_make e hH11 (d_rl rfl) (d_rl rfl)) (fun v12 s13 h13 hH13 r_v12 hF => ?_))))
            refine d_if hF (fun q hF => ?_) (fun q hF => ?_)
            · refine dw_zeq_y rfl (u := 172) rfl (d_R_b r_v12) q ?_
              exact dw_ic rfl (dw_go rfl (u := 200) rfl (dw_rC rfl rfl (Or.inl rfl) hH13 hF))
            · refine dw_zeq_n rfl (u := 172) rfl (d_R_b r_v12) q ?_
              exact dw_ic rfl (dw_go rfl (u := 200) rfl (dw_rC rfl rfl (Or.inr rfl) hH13 hF))
        · refine dw_ne_n rfl (u := 176) rfl hH.r (d_rl rfl) q ?_
          refine dw_aln rfl (d_s1 (d_s1 (d_s1 (d_s1 l0 rfl (by decide)) rfl (by decide)) rfl (by decide)) rfl (by decide)) (dw_iln rfl (d_s1 (d_s1 (d_s1 (d_s1 l1 rfl (by decide)) rfl (by decide)) rfl (by decide)) rfl (by decide)) (dw_ic rfl (dw_add rfl (dw_w1 (dw_vC hF rfl (d_vir (n := 2) rfl rfl rfl rfl rfl hH7 d_c43_0 rfl) rfl rfl (Nat.ble_eq_true_of_le (by omega)) (dc := dd) (fun _ _ e => hg.1 e hH7 d_R_w) (fun v14 s15 h15 hH15 r_v14 hF => ?_))))))
          refine d_if hF (fun q hF => ?_) (fun q hF => ?_)
          · refine dw_zeq_y rfl (u := 199) rfl (d_R_b r_v14) q ?_
            exact dw_ic rfl (dw_rC rfl rfl (Or.inl rfl) hH15 hF)
          · refine dw_zeq_n rfl (u := 199) rfl (d_R_b r_v14) q ?_
            refine dw_aln rfl (d_s1 (d_s1 (d_s1 (d_s1 l0 rfl (by decide)) rfl (by decide)) rfl (by decide)) rfl (by decide)) (dw_bp rfl rfl (dw_vC hF rfl (d_vir (n := 2) rfl rfl rfl rfl rfl hH15 d_c43_0 rfl) rfl rfl (Nat.ble_eq_true_of_le (by omega)) (dc := 2) (fun _ _ e => D_X3_takeSign e hH15 (d_rl rfl)) (fun v16 s17 h17 hH17 r_v16 hF => ?_)))
            refine d_if hF (fun q hF => ?_) (fun q hF => ?_)
            · refine dw_zeq_y rfl (u := 199) rfl (d_R_b r_v16) q ?_
              exact dw_ic rfl (dw_rC rfl rfl (Or.inl rfl) hH17 hF)
            · refine dw_zeq_n rfl (u := 199) rfl (d_R_b r_v16) q ?_
              exact dw_ic rfl (dw_go rfl (u := 200) rfl (dw_rC rfl rfl (Or.inr rfl) hH17 hF))
      · refine dw_zeq_n rfl (u := 142) rfl (d_R_b r_v6) q ?_
        exact dw_aln rfl (d_s1 (d_s1 (d_s1 (d_s1 l0 rfl (by decide)) rfl (by decide)) rfl (by decide)) rfl (by decide)) (dw_iln rfl (d_s1 (d_s1 (d_s1 (d_s1 l1 rfl (by decide)) rfl (by decide)) rfl (by decide)) rfl (by decide)) (dw_ic rfl (dw_add rfl (dw_w1 (dw_vC hF rfl (d_vir (n := 2) rfl rfl rfl rfl rfl hH7 d_c43_0 rfl) rfl rfl (Nat.ble_eq_true_of_le (by omega)) (dc := dd) (fun _ _ e => hg.2.2.2 e hH7 d_R_w) (fun v18 s19 h19 hH19 r_v18 hF => dw_rC rfl rfl r_v18 hH19 hF))))))
  · refine dw_zeq_n rfl (u := 82) rfl r_v5 q ?_
    exact dw_aln rfl (d_s1 (d_s1 l0 rfl (by decide)) rfl (by decide)) (dw_il rfl p_lk_s1 (dw_vC hF rfl (d_vir (n := 2) rfl rfl rfl rfl rfl hH d_c43_0 rfl) rfl rfl (Nat.ble_eq_true_of_le (by omega)) (dc := 0) (fun _ _ e => D_X3_wrong e hH r_v5) (fun v20 s21 h21 hH21 r_v20 hF => dw_rC rfl rfl r_v20 hH21 hF)))
set_option maxRecDepth 100000 in
noncomputable def F_X3_readOne_j60_1 (g : d_G) (t : Nat → Option p_C) (x1 : Int) (x2 : Int) (s : d_S) : Option (Int × d_S) :=
  d_b (F_X3_faultOfOne s x2 1 x1) (fun v22 => if v22 = 0 then
  d_b (F_X3_isWord s 20) (fun v23 => d_b (F_X3_step t s) (fun s24 => if x2 = 0 then
  d_b2 (F_X3_make s24 1 (d_w ((s.1 43 7) - 8))) (fun v25 s26 => some (v25, s26))
  else
  if v23 = 0 then
  if (s.1 43 7) = 45 then
  d_b2 (g.2.2.1 s24 (d_w (x1 + 1))) (fun v27 s28 => if v27 = 0 then
  some (0, s28)
  else
  d_b2 (F_X3_make s28 2 0) (fun v29 s30 => if v29 = 0 then
  some (0, s30)
  else
  some (1, s30)))
  else
  d_b2 (g.1 s24 (d_w (x1 + 1))) (fun v31 s32 => if v31 = 0 then
  some (0, s32)
  else
  d_b2 (F_X3_takeSign t s32 41) (fun v33 s34 => if v33 = 0 then
  some (0, s34)
  else
  some (1, s34)))
  else
  d_b2 (g.2.2.2 s24 (d_w (x1 + 1))) (fun v35 s36 => some (v35, s36))))
  else
  d_b2 (F_X3_wrong s v22) (fun v37 s38 => some (v37, s38)))
set_option maxRecDepth 100000 in
theorem D_X3_readOne_j60_1 {g : d_G} {dd : Nat} {t : Nat → Option p_C} (hg : d_Gok t dd g) (h0 : 2 ≤ dd) {h : p_H} {s : d_S} {x1 : Int} {x2 : Int} {r : Int × d_S} {ls : p_Ls} (hF : F_X3_readOne_j60_1 g t x1 x2 s = some r) (hH : d_V t h s) (l0 : p_lk 0 ls = some (.ref 43)) (r_x1 : d_R x1) (l1 : p_lk 1 ls = some (.int (Int32.ofInt x1))) (r_x2 : d_R x2) (l2 : p_lk 2 ls = some (.int (Int32.ofInt x2))) : p_wp p_GT p_MT (dd + 1) m_X3_readOne 60 ls [.int (Int32.ofInt 1)] h (d_QC t r) := by
  unfold F_X3_readOne_j60_1 at hF
  refine dw_isn rfl rfl (dw_aln rfl (d_s1 l0 rfl (by decide)) (dw_iln rfl (d_s1 l2 rfl (by decide)) (dw_iln rfl p_lk_s1 (dw_iln rfl (d_s1 l1 rfl (by decide)) (dw_vP hF rfl (d_vir (n := 4) rfl rfl rfl rfl rfl hH d_c43_0 rfl) rfl rfl (Nat.ble_eq_true_of_le (by omega)) (dc := 0) (fun _ e => D_X3_faultOfOne e hH r_x2 (d_rl rfl) r_x1) (fun v22 r_v22 hF => dw_is rfl rfl (dw_il rfl p_lk_s1 (?_))))))))
  refine d_if hF (fun q hF => ?_) (fun q hF => ?_)
  · refine dw_zeq_y rfl (u := 82) rfl r_v22 q ?_
    refine dw_aln rfl (d_s1 (d_s1 l0 rfl (by decide)) rfl (by decide)) (dw_bp rfl rfl (dw_vB hF rfl (d_vir (n := 2) rfl rfl rfl rfl rfl hH d_c43_0 rfl) rfl rfl (Nat.ble_eq_true_of_le (by omega)) (dc := 0) (fun _ e => D_X3_isWord e hH (d_rl rfl)) (fun v23 r_v23 hF => dw_is rfl rfl (dw_aln rfl (d_s1 (d_s1 (d_s1 l0 rfl (by decide)) rfl (by decide)) rfl (by decide)) (dw_gi (k := 7) rfl rfl rfl hH d_c43_7 (dw_is rfl rfl (dw_aln rfl (d_s1 (d_s1 (d_s1 (d_s1 l0 rfl (by decide)) rfl (by decide)) rfl (by decide)) rfl (by decide)) (dw_vV hF rfl (d_vir (n := 1) rfl rfl rfl rfl rfl hH d_c43_0 rfl) rfl rfl (Nat.ble_eq_true_of_le (by omega)) (dc := 1) (fun _ e => D_X3_step e hH) (fun s24 h24 hH24 hF => dw_iln rfl (d_s1 (d_s1 (d_s1 (d_s1 l2 rfl (by decide)) rfl (by decide)) rfl (by decide)) rfl (by decide)) (?_))))))))))
    refine d_if hF (fun q hF => ?_) (fun q hF => ?_)
    · refine dw_zne_y rfl (u := 129) rfl r_x2 q ?_
      refine dw_iln rfl (d_s1 (d_s1 (d_s1 p_lk_s1 rfl (by decide)) rfl (by decide)) rfl (by decide)) (dw_zeq_n rfl (u := 121) rfl (d_rl rfl) (by decide) (dw_aln rfl (d_s1 (d_s1 (d_s1 (d_s1 l0 rfl (by decide)) rfl (by decide)) rfl (by decide)) rfl (by decide)) (dw_ic rfl (dw_il rfl p_lk_s1 (dw_bp rfl rfl (dw_sub rfl (dw_w1 (dw_vC hF rfl (d_vir (n := 3) rfl rfl rfl rfl rfl hH24 d_c43_0 rfl) rfl rfl (Nat.ble_eq_true_of_le (by omega)) (dc := 1) (fun _ _ e => D_X3_make e hH24 (d_rl rfl) d_R_w) (fun v25 s26 h26 hH26 r_v25 hF => dw_go rfl (u := 128) rfl (?_))))))))))
      exact dw_rC rfl rfl r_v25 hH26 hF
    · refine dw_zne_n rfl (u := 129) rfl r_x2 q ?_
      refine dw_il rfl (d_s1 p_lk_s1 rfl (by decide)) (?_)
      refine d_if hF (fun q hF => ?_) (fun q hF => ?_)
      · refine dw_zeq_y rfl (u := 142) rfl (d_R_b r_v23) q ?_
        refine dw_il rfl p_lk_s1 (dw_bp rfl rfl (?_))
        refine d_if hF (fun q hF => ?_) (fun q hF => ?_)
        · refine dw_ne_y rfl (u := 176) rfl hH.r (d_rl rfl) q ?_
          refine dw_aln rfl (d_s1 (d_s1 (d_s1 (d_s1 l0 rfl (by decide)) rfl (by decide)) rfl (by decide)) rfl (by decide)) (dw_iln rfl (d_s1 (d_s1 (d_s1 (d_s1 l1 rfl (by decide)) rfl (by decide)) rfl (by decide)) rfl (by decide)) (dw_ic rfl (dw_add rfl (dw_w1 (dw_vC hF rfl (d_vir (n := 2) rfl rfl rfl rfl rfl hH24 d_c43_0 rfl) rfl rfl (Nat.ble_eq_true_of_le (by omega)) (dc := dd) (fun _ _ e => hg.2.2.1 e hH24 d_R_w) (fun v27 s28 h28 hH28 r_v27 hF => ?_))))))
          refine d_if hF (fun q hF => ?_) (fun q hF => ?_)
          · refine dw_zeq_y rfl (u := 172) rfl (d_R_b r_v27) q ?_
            exact dw_ic rfl (dw_go rfl (u := 200) rfl (dw_rC rfl rfl (Or.inl rfl) hH28 hF))
          · refine dw_zeq_n rfl (u := 172) rfl (d_R_b r_v27) q ?_
            refine dw_aln rfl (d_s1 (d_s1 (d_s1 (d_s1 l0 rfl (by decide)) rfl (by decide)) rfl (by decide)) rfl (by decide)) (dw_ic rfl (dw_ic rfl (dw_vC hF rfl (d_vir (n := 3) rfl rfl rfl rfl rfl hH28 d_c43_0 rfl) rfl rfl (Nat.ble_eq_true_of_le (by omega)) (dc := 1) (fun _ _ e => D_X3_make e hH28 (d_rl rfl) (d_rl rfl)) (fun v29 s30 h30 hH30 r_v29 hF => ?_))))
            refine d_if hF (fun q hF => ?_) (fun q hF => ?_)
            · refine dw_zeq_y rfl (u := 172) rfl (d_R_b r_v29) q ?_
              exact dw_ic rfl (dw_go rfl (u := 200) rfl (dw_rC rfl rfl (Or.inl rfl) hH30 hF))
            · refine dw_zeq_n rfl (u := 172) rfl (d_R_b r_v29) q ?_
              exact dw_ic rfl (dw_go rfl (u := 200) rfl (dw_rC rfl rfl (Or.inr rfl) hH30 hF))
        · refine dw_ne_n rfl (u := 176) rfl hH.r (d_rl rfl) q ?_
          refine dw_aln rfl (d_s1 (d_s1 (d_s1 (d_s1 l0 rfl (by decide)) rfl (by decide)) rfl (by decide)) rfl (by decide)) (dw_iln rfl (d_s1 (d_s1 (d_s1 (d_s1 l1 rfl (by decide)) rfl (by decide)) rfl (by decide)) rfl (by decide)) (dw_ic rfl (dw_add rfl (dw_w1 (dw_vC hF rfl (d_vir (n := 2) rfl rfl rfl rfl rfl hH24 d_c43_0 rfl) rfl rfl (Nat.ble_eq_true_of_le (by omega)) (dc := dd) (fun _ _ e => hg.1 e hH24 d_R_w) (fun v31 s32 h32 hH32 r_v31 hF => ?_))))))
          refine d_if hF (fun q hF => ?_) (fun q hF => ?_)
          · refine dw_zeq_y rfl (u := 199) rfl (d_R_b r_v31) q ?_
            exact dw_ic rfl (dw_rC rfl rfl (Or.inl rfl) hH32 hF)
          · refine dw_zeq_n rfl (u := 199) rfl (d_R_b r_v31) q ?_
            refine dw_aln rfl (d_s1 (d_s1 (d_s1 (d_s1 l0 rfl (by decide)) rfl (by decide)) rfl (by decide)) rfl (by decide)) (dw_bp rfl rfl (dw_vC hF rfl (d_vir (n := 2) rfl rfl rfl rfl rfl hH32 d_c43_0 rfl) rfl rfl (Nat.ble_eq_true_of_le (by omega)) (dc := 2) (fun _ _ e => D_X3_takeSign e hH32 (d_rl rfl)) (fun v33 s34 h34 hH34 r_v33 hF => ?_)))
            refine d_if hF (fun q hF => ?_) (fun q hF => ?_)
            · refine dw_zeq_y rfl (u := 199) rfl (d_R_b r_v33) q ?_
              exact dw_ic rfl (dw_rC rfl rfl (Or.inl rfl) hH34 hF)
            · refine dw_zeq_n rfl (u := 199) rfl (d_R_b r_v33) q ?_
              exact dw_ic rfl (dw_go rfl (u := 200) rfl (dw_rC rfl rfl (Or.inr rfl) hH34 hF))
      · refine dw_zeq_n rfl (u := 142) rfl (d_R_b r_v23) q ?_
        exact dw_aln rfl (d_s1 (d_s1 (d_s1 (d_s1 l0 rfl (by decide)) rfl (by decide)) rfl (by decide)) rfl (by decide)) (dw_iln rfl (d_s1 (d_s1 (d_s1 (d_s1 l1 rfl (by decide)) rfl (by decide)) rfl (by decide)) rfl (by decide)) (dw_ic rfl (dw_add rfl (dw_w1 (dw_vC hF rfl (d_vir (n := 2) rfl rfl rfl rfl rfl hH24 d_c43_0 rfl) rfl rfl (Nat.ble_eq_true_of_le (by omega)) (dc := dd) (fun _ _ e => hg.2.2.2 e hH24 d_R_w) (fun v35 s36 h36 hH36 r_v35 hF => dw_rC rfl rfl r_v35 hH36 hF))))))
  · refine dw_zeq_n rfl (u := 82) rfl r_v22 q ?_
    exact dw_aln rfl (d_s1 (d_s1 l0 rfl (by decide)) rfl (by decide)) (dw_il rfl p_lk_s1 (dw_vC hF rfl (d_vir (n := 2) rfl rfl rfl rfl rfl hH d_c43_0 rfl) rfl rfl (Nat.ble_eq_true_of_le (by omega)) (dc := 0) (fun _ _ e => D_X3_wrong e hH r_v22) (fun v37 s38 h38 hH38 r_v37 hF => dw_rC rfl rfl r_v37 hH38 hF)))
set_option maxRecDepth 100000 in
noncomputable def F_X3_readOne_j27 (g : d_G) (t : Nat → Option p_C) (x1 : Int) (s : d_S) : Option (Int × d_S) :=
  if (s.1 43 6) = 1 then
  d_b (F_X11_within (s.1 43 7) 8 15) (fun v39 => if v39 = 0 then
  F_X3_readOne_j59 g t x1 1 s
  else
  F_X3_readOne_j60_1 g t x1 1 s)
  else
  F_X3_readOne_j59 g t x1 1 s
set_option maxRecDepth 100000 in
theorem D_X3_readOne_j27 {g : d_G} {dd : Nat} {t : Nat → Option p_C} (hg : d_Gok t dd g) (h0 : 2 ≤ dd) {h : p_H} {s : d_S} {x1 : Int} {r : Int × d_S} {ls : p_Ls} (hF : F_X3_readOne_j27 g t x1 s = some r) (hH : d_V t h s) (l0 : p_lk 0 ls = some (.ref 43)) (r_x1 : d_R x1) (l1 : p_lk 1 ls = some (.int (Int32.ofInt x1))) : p_wp p_GT p_MT (dd + 1) m_X3_readOne 27 ls [] h (d_QC t r) := by
  unfold F_X3_readOne_j27 at hF
  refine dw_ic rfl (dw_go rfl (u := 32) rfl (dw_isn rfl rfl (dw_aln rfl (d_s1 l0 rfl (by decide)) (dw_gi (k := 6) rfl rfl rfl hH d_c43_6 (dw_ic rfl (?_))))))
  refine d_if hF (fun q hF => ?_) (fun q hF => ?_)
  · refine dw_ne_y rfl (u := 59) rfl hH.r (d_rl rfl) q ?_
    refine dw_aln rfl (d_s1 l0 rfl (by decide)) (dw_gi (k := 7) rfl rfl rfl hH d_c43_7 (dw_bp rfl rfl (dw_bp rfl rfl (dw_sB hF rfl rfl rfl rfl (Nat.ble_eq_true_of_le (by omega)) (dc := 0) (fun _ e => D_X11_within e hH.r (d_rl rfl) (d_rl rfl)) (fun v39 r_v39 hF => ?_)))))
    refine d_if hF (fun q hF => ?_) (fun q hF => ?_)
    · refine dw_zeq_y rfl (u := 59) rfl (d_R_b r_v39) q ?_
      exact D_X3_readOne_j59 hg h0 hF hH (d_s1 l0 rfl (by decide)) r_x1 (d_s1 l1 rfl (by decide)) (d_rl rfl) p_lk_s1
    · refine dw_zeq_n rfl (u := 59) rfl (d_R_b r_v39) q ?_
      refine dw_ic rfl (dw_go rfl (u := 60) rfl (?_))
      exact D_X3_readOne_j60_1 hg h0 hF hH (d_s1 l0 rfl (by decide)) r_x1 (d_s1 l1 rfl (by decide)) (d_rl rfl) p_lk_s1
  · refine dw_ne_n rfl (u := 59) rfl hH.r (d_rl rfl) q ?_
    exact D_X3_readOne_j59 hg h0 hF hH (d_s1 l0 rfl (by decide)) r_x1 (d_s1 l1 rfl (by decide)) (d_rl rfl) p_lk_s1
set_option maxRecDepth 100000 in
noncomputable def F_X3_readOne (g : d_G) (t : Nat → Option p_C) (s : d_S) (x1 : Int) : Option (Int × d_S) :=
  d_b (F_X3_isSign s 40) (fun v1 => if v1 = 0 then
  d_b (F_X3_isSign s 45) (fun v2 => if v2 = 0 then
  d_b (F_X3_isWord s 20) (fun v3 => if v3 = 0 then
  if (s.1 43 6) = 1 then
  d_b (F_X11_within (s.1 43 7) 8 15) (fun v4 => if v4 = 0 then
  F_X3_readOne_j59 g t x1 0 s
  else
  F_X3_readOne_j60_1 g t x1 0 s)
  else
  F_X3_readOne_j59 g t x1 0 s
  else
  F_X3_readOne_j27 g t x1 s)
  else
  F_X3_readOne_j27 g t x1 s)
  else
  F_X3_readOne_j27 g t x1 s)
set_option maxRecDepth 100000 in
theorem D_X3_readOne {g : d_G} {dd : Nat} {t : Nat → Option p_C} (hg : d_Gok t dd g) (h0 : 2 ≤ dd) {h : p_H} {s : d_S} {x1 : Int} {r : Int × d_S} (hF : F_X3_readOne g t s x1 = some r) (hH : d_V t h s) (r_x1 : d_R x1) : p_wp p_GT p_MT (dd + 1) m_X3_readOne 0 (lv_args 0 [.ref 43, .int (Int32.ofInt x1)]) [] h (d_QC t r) := by
  unfold F_X3_readOne at hF
  refine dw_aln rfl rfl (dw_bp rfl rfl (dw_vB hF rfl (d_vir (n := 2) rfl rfl rfl rfl rfl hH d_c43_0 rfl) rfl rfl (Nat.ble_eq_true_of_le (by omega)) (dc := 0) (fun _ e => D_X3_isSign e hH (d_rl rfl)) (fun v1 r_v1 hF => ?_)))
  refine d_if hF (fun q hF => ?_) (fun q hF => ?_)
  · refine dw_zne_y rfl (u := 27) rfl (d_R_b r_v1) q ?_
    refine dw_aln rfl rfl (dw_bp rfl rfl (dw_vB hF rfl (d_vir (n := 2) rfl rfl rfl rfl rfl hH d_c43_0 rfl) rfl rfl (Nat.ble_eq_true_of_le (by omega)) (dc := 0) (fun _ e => D_X3_isSign e hH (d_rl rfl)) (fun v2 r_v2 hF => ?_)))
    refine d_if hF (fun q hF => ?_) (fun q hF => ?_)
    · refine dw_zne_y rfl (u := 27) rfl (d_R_b r_v2) q ?_
      refine dw_aln rfl rfl (dw_bp rfl rfl (dw_vB hF rfl (d_vir (n := 2) rfl rfl rfl rfl rfl hH d_c43_0 rfl) rfl rfl (Nat.ble_eq_true_of_le (by omega)) (dc := 0) (fun _ e => D_X3_isWord e hH (d_rl rfl)) (fun v3 r_v3 hF => ?_)))
      refine d_if hF (fun q hF => ?_) (fun q hF => ?_)
      · refine dw_zeq_y rfl (u := 31) rfl (d_R_b r_v3) q ?_
        refine dw_ic rfl (dw_isn rfl rfl (dw_aln rfl (d_s1 rfl rfl (by decide)) (dw_gi (k := 6) rfl rfl rfl hH d_c43_6 (dw_ic rfl (?_)))))
        refine d_if hF (fun q hF => ?_) (fun q hF => ?_)
        · refine dw_ne_y rfl (u := 59) rfl hH.r (d_rl rfl) q ?_
          refine dw_aln rfl (d_s1 rfl rfl (by decide)) (dw_gi (k := 7) rfl rfl rfl hH d_c43_7 (dw_bp rfl rfl (dw_bp rfl rfl (dw_sB hF rfl rfl rfl rfl (Nat.ble_eq_true_of_le (by omega)) (dc := 0) (fun _ e => D_X11_within e hH.r (d_rl rfl) (d_rl rfl)) (fun v4 r_v4 hF => ?_)))))
          refine d_if hF (fun q hF => ?_) (fun q hF => ?_)
          · refine dw_zeq_y rfl (u := 59) rfl (d_R_b r_v4) q ?_
            exact D_X3_readOne_j59 hg h0 hF hH (d_s1 rfl rfl (by decide)) r_x1 (d_s1 rfl rfl (by decide)) (d_rl rfl) p_lk_s1
          · refine dw_zeq_n rfl (u := 59) rfl (d_R_b r_v4) q ?_
            refine dw_ic rfl (dw_go rfl (u := 60) rfl (?_))
            exact D_X3_readOne_j60_1 hg h0 hF hH (d_s1 rfl rfl (by decide)) r_x1 (d_s1 rfl rfl (by decide)) (d_rl rfl) p_lk_s1
        · refine dw_ne_n rfl (u := 59) rfl hH.r (d_rl rfl) q ?_
          exact D_X3_readOne_j59 hg h0 hF hH (d_s1 rfl rfl (by decide)) r_x1 (d_s1 rfl rfl (by decide)) (d_rl rfl) p_lk_s1
      · refine dw_zeq_n rfl (u := 31) rfl (d_R_b r_v3) q ?_
        exact D_X3_readOne_j27 hg h0 hF hH rfl r_x1 rfl
    · refine dw_zne_n rfl (u := 27) rfl (d_R_b r_v2) q ?_
      exact D_X3_readOne_j27 hg h0 hF hH rfl r_x1 rfl
  · refine dw_zne_n rfl (u := 27) rfl (d_R_b r_v1) q ?_
    exact D_X3_readOne_j27 hg h0 hF hH rfl r_x1 rfl
set_option maxRecDepth 100000 in
noncomputable def F_X3_readChoice_l32_b (g : d_G) (t : Nat → Option p_C) (k85 : Int → d_S → Option (Int × d_S)) (rec : Int → Int → Int → d_S → Option (Int × d_S)) (x1 : Int) (x2 : Int) (x3 : Int) (s : d_S) : Option (Int × d_S) :=
  if 7 < x3 then
  some (0, s)
  else
  d_b2 (F_X3_make s 4 0) (fun v7 s8 => if 6 < x3 then
  d_l (d_si s8 43 17 1) (fun s9 => d_b2 (g.1 s9 x1) (fun v10 s11 => if v10 = 0 then
  some (0, s11)
  else
  d_b (F_X3_isSign s11 44) (fun v12 => if v12 = 0 then
  k85 x2 s11
  else
  d_b2 (F_X3_make s11 3 (d_w (x2 + 1))) (fun v13 s14 => d_l (d_w ((s14.1 43 15) - 1)) (fun z15 => d_b (F_X3_lead s14 (s.1 43 15) (s14.1 43 15)) (fun s16 => d_b (F_X3_step t s16) (fun s17 => rec x1 z15 (d_w (x3 + 1)) s17)))))))
  else
  d_l (d_si s8 43 17 0) (fun s18 => d_b2 (g.1 s18 x1) (fun v19 s20 => if v19 = 0 then
  some (0, s20)
  else
  d_b (F_X3_isSign s20 44) (fun v21 => if v21 = 0 then
  k85 x2 s20
  else
  d_b2 (F_X3_make s20 3 (d_w (x2 + 1))) (fun v22 s23 => d_l (d_w ((s23.1 43 15) - 1)) (fun z24 => d_b (F_X3_lead s23 (s.1 43 15) (s23.1 43 15)) (fun s25 => d_b (F_X3_step t s25) (fun s26 => rec x1 z24 (d_w (x3 + 1)) s26))))))))
set_option maxRecDepth 100000 in
noncomputable def F_X3_readChoice_l32 (g : d_G) (t : Nat → Option p_C) (k85 : Int → d_S → Option (Int × d_S)) : Nat → Int → Int → Int → d_S → Option (Int × d_S)
  | 0 => fun _ _ _ _ => none
  | n + 1 => F_X3_readChoice_l32_b g t k85 (F_X3_readChoice_l32 g t k85 n)
set_option maxRecDepth 100000 in
theorem D_X3_readChoice_l32 {g : d_G} {dd : Nat} {t : Nat → Option p_C} (hg : d_Gok t dd g) (h0 : 2 ≤ dd) {k85 : Int → d_S → Option (Int × d_S)} {r : Int × d_S} (hk85 : ∀ {x2 : Int} {ls : p_Ls} {s : d_S} {h : p_H}, k85 x2 s = some r → d_V t h s → p_lk 0 ls = some (.ref 43) → d_R x2 → p_lk 2 ls = some (.int (Int32.ofInt x2)) → p_wp p_GT p_MT (dd + 1) m_X3_readChoice 85 ls [] h (d_QC t r)) : ∀ (n : Nat) {x1 : Int} {x2 : Int} {x3 : Int} {ls : p_Ls} {s : d_S} {h : p_H}, F_X3_readChoice_l32 g t k85 n x1 x2 x3 s = some r → d_V t h s → p_lk 0 ls = some (.ref 43) → d_R x1 → p_lk 1 ls = some (.int (Int32.ofInt x1)) → d_R x2 → p_lk 2 ls = some (.int (Int32.ofInt x2)) → d_R x3 → p_lk 3 ls = some (.int (Int32.ofInt x3)) → p_wp p_GT p_MT (dd + 1) m_X3_readChoice 32 ls [] h (d_QC t r) := by
  intro n
  induction n with
  | zero =>
    intro x1 x2 x3 ls s h hF hH l0 r_x1 l1 r_x2 l2 r_x3 l3
    cases (show (none : Option (Int × d_S)) = some r from hF)
  | succ n ih =>
    intro x1 x2 x3 ls s h hF hH l0 r_x1 l1 r_x2 l2 r_x3 l3
    have hF : F_X3_readChoice_l32_b g t k85 (F_X3_readChoice_l32 g t k85 n) x1 x2 x3 s = some r := hF
    unfold F_X3_readChoice_l32_b at hF
    refine dw_iln rfl l3 (dw_bp rfl rfl (?_))
    refine d_if hF (fun q hF => ?_) (fun q hF => ?_)
    · refine dw_gt_y rfl (u := 133) rfl r_x3 (d_rl rfl) q ?_
      exact dw_ic rfl (dw_rC rfl rfl (Or.inl rfl) hH hF)
    · refine dw_gt_n rfl (u := 133) rfl r_x3 (d_rl rfl) q ?_
      refine dw_aln rfl l0 (dw_gi (k := 15) rfl rfl rfl hH d_c43_15 (dw_is rfl rfl (dw_aln rfl (d_s1 l0 rfl (by decide)) (dw_ic rfl (dw_ic rfl (dw_vC hF rfl (d_vir (n := 3) rfl rfl rfl rfl rfl hH d_c43_0 rfl) rfl rfl (Nat.ble_eq_true_of_le (by omega)) (dc := 1) (fun _ _ e => D_X3_make e hH (d_rl rfl) (d_rl rfl)) (fun v7 s8 h8 hH8 r_v7 hF => dw_pop rfl (dw_aln rfl (d_s1 l0 rfl (by decide)) (dw_iln rfl (d_s1 l3 rfl (by decide)) (?_))))))))))
      refine dw_bp rfl rfl (?_)
      refine d_if hF (fun q hF => ?_) (fun q hF => ?_)
      · refine dw_le_y rfl (u := 62) rfl r_x3 (d_rl rfl) q ?_
        refine dw_ic rfl (dw_go rfl (u := 63) rfl (dw_pb (k := 17) rfl rfl rfl rfl hH8 d_c43_17 (Or.inr rfl) (by decide) hF (fun s9 h9 hH9 hF => dw_aln rfl (d_s1 l0 rfl (by decide)) (dw_iln rfl (d_s1 l1 rfl (by decide)) (dw_vC hF rfl (d_vir (n := 2) rfl rfl rfl rfl rfl hH9 d_c43_0 rfl) rfl rfl (Nat.ble_eq_true_of_le (by omega)) (dc := dd) (fun _ _ e => hg.1 e hH9 r_x1) (fun v10 s11 h11 hH11 r_v10 hF => ?_))))))
        refine d_if hF (fun q hF => ?_) (fun q hF => ?_)
        · refine dw_zne_y rfl (u := 76) rfl (d_R_b r_v10) q ?_
          exact dw_ic rfl (dw_rC rfl rfl (Or.inl rfl) hH11 hF)
        · refine dw_zne_n rfl (u := 76) rfl (d_R_b r_v10) q ?_
          refine dw_aln rfl (d_s1 l0 rfl (by decide)) (dw_bp rfl rfl (dw_vB hF rfl (d_vir (n := 2) rfl rfl rfl rfl rfl hH11 d_c43_0 rfl) rfl rfl (Nat.ble_eq_true_of_le (by omega)) (dc := 0) (fun _ e => D_X3_isSign e hH11 (d_rl rfl)) (fun v12 r_v12 hF => ?_)))
          refine d_if hF (fun q hF => ?_) (fun q hF => ?_)
          · refine dw_zne_y rfl (u := 97) rfl (d_R_b r_v12) q ?_
            exact hk85 hF hH11 (d_s1 l0 rfl (by decide)) r_x2 (d_s1 l2 rfl (by decide))
          · refine dw_zne_n rfl (u := 97) rfl (d_R_b r_v12) q ?_
            refine dw_aln rfl (d_s1 l0 rfl (by decide)) (dw_ic rfl (dw_iln rfl (d_s1 l2 rfl (by decide)) (dw_ic rfl (dw_add rfl (dw_w1 (dw_vC hF rfl (d_vir (n := 3) rfl rfl rfl rfl rfl hH11 d_c43_0 rfl) rfl rfl (Nat.ble_eq_true_of_le (by omega)) (dc := 1) (fun _ _ e => D_X3_make e hH11 (d_rl rfl) d_R_w) (fun v13 s14 h14 hH14 r_v13 hF => dw_pop rfl (dw_aln rfl (d_s1 l0 rfl (by decide)) (dw_gi (k := 15) rfl rfl rfl hH14 d_c43_15 (?_))))))))))
            refine dw_ic rfl (dw_sub rfl (dw_w1 (dw_nm hF d_R_w (fun z15 r_z15 hF => dw_isn rfl rfl (dw_aln rfl (d_s1 (d_s1 l0 rfl (by decide)) rfl (by decide)) (dw_il rfl (d_s1 p_lk_s1 rfl (by decide)) (dw_aln rfl (d_s1 (d_s1 l0 rfl (by decide)) rfl (by decide)) (dw_gi (k := 15) rfl rfl rfl hH14 d_c43_15 (dw_vV hF rfl (d_vir (n := 3) rfl rfl rfl rfl rfl hH14 d_c43_0 rfl) rfl rfl (Nat.ble_eq_true_of_le (by omega)) (dc := 1) (fun _ e => D_X3_lead e hH14 hH.r hH14.r) (fun s16 h16 hH16 hF => ?_))))))))))
            refine dw_aln rfl (d_s1 (d_s1 l0 rfl (by decide)) rfl (by decide)) (dw_vV hF rfl (d_vir (n := 1) rfl rfl rfl rfl rfl hH16 d_c43_0 rfl) rfl rfl (Nat.ble_eq_true_of_le (by omega)) (dc := 1) (fun _ e => D_X3_step e hH16) (fun s17 h17 hH17 hF => dw_ii rfl (d_s1 (d_s1 l3 rfl (by decide)) rfl (by decide)) rfl (dw_go rfl (u := 32) rfl (?_))))
            exact ih hF hH17 (d_s1 (d_s1 (d_s1 l0 rfl (by decide)) rfl (by decide)) rfl (by decide)) r_x1 (d_s1 (d_s1 (d_s1 l1 rfl (by decide)) rfl (by decide)) rfl (by decide)) r_z15 (d_s1 p_lk_s1 rfl (by decide)) d_R_w p_lk_s1
      · refine dw_le_n rfl (u := 62) rfl r_x3 (d_rl rfl) q ?_
        refine dw_ic rfl (dw_pb (k := 17) rfl rfl rfl rfl hH8 d_c43_17 (Or.inl rfl) (by decide) hF (fun s18 h18 hH18 hF => dw_aln rfl (d_s1 l0 rfl (by decide)) (dw_iln rfl (d_s1 l1 rfl (by decide)) (dw_vC hF rfl (d_vir (n := 2) rfl rfl rfl rfl rfl hH18 d_c43_0 rfl) rfl rfl (Nat.ble_eq_true_of_le (by omega)) (dc := dd) (fun _ _ e => hg.1 e hH18 r_x1) (fun v19 s20 h20 hH20 r_v19 hF => ?_)))))
        refine d_if hF (fun q hF => ?_) (fun q hF => ?_)
        · refine dw_zne_y rfl (u := 76) rfl (d_R_b r_v19) q ?_
          exact dw_ic rfl (dw_rC rfl rfl (Or.inl rfl) hH20 hF)
        · refine dw_zne_n rfl (u := 76) rfl (d_R_b r_v19) q ?_
          refine dw_aln rfl (d_s1 l0 rfl (by decide)) (dw_bp rfl rfl (dw_vB hF rfl (d_vir (n := 2) rfl rfl rfl rfl rfl hH20 d_c43_0 rfl) rfl rfl (Nat.ble_eq_true_of_le (by omega)) (dc := 0) (fun _ e => D_X3_isSign e hH20 (d_rl rfl)) (fun v21 r_v21 hF => ?_)))
          refine d_if hF (fun q hF => ?_) (fun q hF => ?_)
          · refine dw_zne_y rfl (u := 97) rfl (d_R_b r_v21) q ?_
            exact hk85 hF hH20 (d_s1 l0 rfl (by decide)) r_x2 (d_s1 l2 rfl (by decide))
          · refine dw_zne_n rfl (u := 97) rfl (d_R_b r_v21) q ?_
            refine dw_aln rfl (d_s1 l0 rfl (by decide)) (dw_ic rfl (dw_iln rfl (d_s1 l2 rfl (by decide)) (dw_ic rfl (dw_add rfl (dw_w1 (dw_vC hF rfl (d_vir (n := 3) rfl rfl rfl rfl rfl hH20 d_c43_0 rfl) rfl rfl (Nat.ble_eq_true_of_le (by omega)) (dc := 1) (fun _ _ e => D_X3_make e hH20 (d_rl rfl) d_R_w) (fun v22 s23 h23 hH23 r_v22 hF => dw_pop rfl (dw_aln rfl (d_s1 l0 rfl (by decide)) (dw_gi (k := 15) rfl rfl rfl hH23 d_c43_15 (?_))))))))))
            refine dw_ic rfl (dw_sub rfl (dw_w1 (dw_nm hF d_R_w (fun z24 r_z24 hF => dw_isn rfl rfl (dw_aln rfl (d_s1 (d_s1 l0 rfl (by decide)) rfl (by decide)) (dw_il rfl (d_s1 p_lk_s1 rfl (by decide)) (dw_aln rfl (d_s1 (d_s1 l0 rfl (by decide)) rfl (by decide)) (dw_gi (k := 15) rfl rfl rfl hH23 d_c43_15 (dw_vV hF rfl (d_vir (n := 3) rfl rfl rfl rfl rfl hH23 d_c43_0 rfl) rfl rfl (Nat.ble_eq_true_of_le (by omega)) (dc := 1) (fun _ e => D_X3_lead e hH23 hH.r hH23.r) (fun s25 h25 hH25 hF => ?_))))))))))
            refine dw_aln rfl (d_s1 (d_s1 l0 rfl (by decide)) rfl (by decide)) (dw_vV hF rfl (d_vir (n := 1) rfl rfl rfl rfl rfl hH25 d_c43_0 rfl) rfl rfl (Nat.ble_eq_true_of_le (by omega)) (dc := 1) (fun _ e => D_X3_step e hH25) (fun s26 h26 hH26 hF => dw_ii rfl (d_s1 (d_s1 l3 rfl (by decide)) rfl (by decide)) rfl (dw_go rfl (u := 32) rfl (?_))))
            exact ih hF hH26 (d_s1 (d_s1 (d_s1 l0 rfl (by decide)) rfl (by decide)) rfl (by decide)) r_x1 (d_s1 (d_s1 (d_s1 l1 rfl (by decide)) rfl (by decide)) rfl (by decide)) r_z24 (d_s1 p_lk_s1 rfl (by decide)) d_R_w p_lk_s1
set_option maxRecDepth 100000 in
noncomputable def F_X3_readChoice (g : d_G) (t : Nat → Option p_C) (s : d_S) (x1 : Int) : Option (Int × d_S) :=
  d_b2 (g.2.2.1 s x1) (fun v1 s2 => if v1 = 0 then
  some (0, s2)
  else
  d_b2 (F_X3_takeWord t s2 21) (fun v3 s4 => if v3 = 0 then
  some (0, s4)
  else
  d_b2 (F_X3_takeSign t s4 40) (fun v5 s6 => if v5 = 0 then
  some (0, s6)
  else
  F_X3_readChoice_l32 g t (fun x2_u27 s_u27 =>
  d_b (F_X3_closeJumps s_u27 x2_u27) (fun s28 => d_b2 (F_X3_takeSign t s28 41) (fun v29 s30 => some (v29, s30)))) d_N x1 (-1) 1 s6)))
set_option maxRecDepth 100000 in
theorem D_X3_readChoice {g : d_G} {dd : Nat} {t : Nat → Option p_C} (hg : d_Gok t dd g) (h0 : 2 ≤ dd) {h : p_H} {s : d_S} {x1 : Int} {r : Int × d_S} (hF : F_X3_readChoice g t s x1 = some r) (hH : d_V t h s) (r_x1 : d_R x1) : p_wp p_GT p_MT (dd + 1) m_X3_readChoice 0 (lv_args 0 [.ref 43, .int (Int32.ofInt x1)]) [] h (d_QC t r) := by
  unfold F_X3_readChoice at hF
  refine dw_aln rfl rfl (dw_iln rfl rfl (dw_vC hF rfl (d_vir (n := 2) rfl rfl rfl rfl rfl hH d_c43_0 rfl) rfl rfl (Nat.ble_eq_true_of_le (by omega)) (dc := dd) (fun _ _ e => hg.2.2.1 e hH r_x1) (fun v1 s2 h2 hH2 r_v1 hF => ?_)))
  refine d_if hF (fun q hF => ?_) (fun q hF => ?_)
  · refine dw_zeq_y rfl (u := 26) rfl (d_R_b r_v1) q ?_
    exact dw_ic rfl (dw_rC rfl rfl (Or.inl rfl) hH2 hF)
  · refine dw_zeq_n rfl (u := 26) rfl (d_R_b r_v1) q ?_
    refine dw_aln rfl rfl (dw_bp rfl rfl (dw_vC hF rfl (d_vir (n := 2) rfl rfl rfl rfl rfl hH2 d_c43_0 rfl) rfl rfl (Nat.ble_eq_true_of_le (by omega)) (dc := 2) (fun _ _ e => D_X3_takeWord e hH2 (d_rl rfl)) (fun v3 s4 h4 hH4 r_v3 hF => ?_)))
    refine d_if hF (fun q hF => ?_) (fun q hF => ?_)
    · refine dw_zeq_y rfl (u := 26) rfl (d_R_b r_v3) q ?_
      exact dw_ic rfl (dw_rC rfl rfl (Or.inl rfl) hH4 hF)
    · refine dw_zeq_n rfl (u := 26) rfl (d_R_b r_v3) q ?_
      refine dw_aln rfl rfl (dw_bp rfl rfl (dw_vC hF rfl (d_vir (n := 2) rfl rfl rfl rfl rfl hH4 d_c43_0 rfl) rfl rfl (Nat.ble_eq_true_of_le (by omega)) (dc := 2) (fun _ _ e => D_X3_takeSign e hH4 (d_rl rfl)) (fun v5 s6 h6 hH6 r_v5 hF => ?_)))
      refine d_if hF (fun q hF => ?_) (fun q hF => ?_)
      · refine dw_zne_y rfl (u := 28) rfl (d_R_b r_v5) q ?_
        exact dw_ic rfl (dw_rC rfl rfl (Or.inl rfl) hH6 hF)
      · refine dw_zne_n rfl (u := 28) rfl (d_R_b r_v5) q ?_
        refine dw_ic rfl (dw_isn rfl rfl (dw_ic rfl (dw_isn rfl rfl (?_))))
        refine D_X3_readChoice_l32 hg h0 (fun {x2_u27} {ls_u27} {s_u27} {h_u27} hF hH_u27 l0_u27 r_x2_u27 l2_u27 => ?_) _ hF hH6 (d_s1 (d_s1 rfl rfl (by decide)) rfl (by decide)) r_x1 (d_s1 (d_s1 rfl rfl (by decide)) rfl (by decide)) (d_rl rfl) (d_s1 p_lk_s1 rfl (by decide)) (d_rl rfl) p_lk_s1
        · exact dw_aln rfl l0_u27 (dw_iln rfl l2_u27 (dw_vV hF rfl (d_vir (n := 2) rfl rfl rfl rfl rfl hH_u27 d_c43_0 rfl) rfl rfl (Nat.ble_eq_true_of_le (by omega)) (dc := 2) (fun _ e => D_X3_closeJumps e hH_u27 r_x2_u27) (fun s28 h28 hH28 hF => dw_aln rfl l0_u27 (dw_bp rfl rfl (dw_vC hF rfl (d_vir (n := 2) rfl rfl rfl rfl rfl hH28 d_c43_0 rfl) rfl rfl (Nat.ble_eq_true_of_le (by omega)) (dc := 2) (fun _ _ e => D_X3_takeSign e hH28 (d_rl rfl)) (fun v29 s30 h30 hH30 r_v29 hF => dw_rC rfl rfl r_v29 hH30 hF))))))
section X1
variable {s s1 s' : d_S} {t : Nat → Option p_C} {b : Nat → Nat} {n p q : Nat} {x : Int}
def k_B (b : Nat → Nat) (n : Nat) (s : d_S) : Prop := s.1 43 1 = (n : Int) ∧ n ≤ 300 ∧ (∀ i, i < 300 → s.1 44 i % 256 = (b i : Int)) ∧ ∀ i, b i < 256
def k_f (L : List Nat) (s s' : d_S) : Prop := (∀ k, k ∉ L → s'.1 43 k = s.1 43 k) ∧ (∀ a, a ≠ 43 → s'.1 a = s.1 a) ∧ s'.2 = s.2
theorem k_f.rf {L : List Nat} : k_f L s s := ⟨fun _ _ => rfl, fun _ _ => rfl, rfl⟩
theorem k_f.tr {L : List Nat} (h : k_f L s s1) (h' : k_f L s1 s') : k_f L s s' := ⟨fun a z => (h'.1 a z).trans (h.1 a z), fun a z => (h'.2.1 a z).trans (h.2.1 a z), h'.2.2.trans h.2.2⟩
theorem k_f.mono {L M : List Nat} (h : k_f L s s1) (hm : ∀ a, a ∈ L → a ∈ M) : k_f M s s1 := ⟨fun a z => h.1 a (fun y => z (hm a y)), h.2⟩
theorem k_f.si {L : List Nat} {k : Nat} {y : Int} (h : k ∈ L) : k_f L s (d_si s 43 k y) := ⟨fun a z => by rw [d_si_i, d_u_n (fun (e : a = k) => z (by rw [e]; exact h))], fun a z => d_si_n z, rfl⟩
theorem k_B.f {L : List Nat} (h : k_B b n s) (h' : k_f L s s') (h1 : 1 ∉ L) : k_B b n s' := by
  obtain ⟨a1, a2, a3, a4⟩ := h
  exact ⟨by rw [h'.1 1 h1]; exact a1, a2, fun i hi => by rw [h'.2.1 44 (by decide)]; exact a3 i hi, a4⟩
theorem k_and255 {x : Int} : d_and x 255 = x % 256 := by
  unfold d_and
  have h1 : ((Int32.ofInt x &&& Int32.ofInt 255).toBitVec.toNat) = (x % 4294967296).toNat % 256 := by
    rw [Int32.toBitVec_and, BitVec.toNat_and]
    have e1 : (Int32.ofInt x).toBitVec.toNat = (x % 4294967296).toNat := by
      show (BitVec.ofInt 32 x).toNat = _
      rw [BitVec.toNat_ofInt]; rfl
    have e2 : (Int32.ofInt 255).toBitVec.toNat = 2 ^ 8 - 1 := rfl
    rw [e1, e2, Nat.and_two_pow_sub_one_eq_mod]
  rw [v_ofb (n := (x % 4294967296).toNat % 256) (by omega) h1]
  omega
theorem k_byte (h : k_B b n s) (hq : q < n) : F_X3_byteAt s (q : Int) = some ((b q : Nat) : Int) := by
  obtain ⟨a1, a2, a3, -⟩ := h
  unfold F_X3_byteAt
  rw [if_neg (by omega), a1, if_pos (by omega), if_pos (by omega), d_g_t (by omega), Int.toNat_natCast, k_and255, a3 q (by omega)]
theorem k_so_ : ∀ c : Nat, c < 256 → F_X3_sortOf (c : Int) = some ((t_so c : Nat) : Int) := by decide +kernel
theorem k_bl {c : Nat} : t_bl c = true ↔ c = 32 ∨ c = 10 := by
  unfold t_bl
  rw [Bool.or_eq_true]
  exact ⟨fun h => h.imp Nat.eq_of_beq_eq_true Nat.eq_of_beq_eq_true, fun h => h.imp v_beq v_beq⟩
theorem k_skl {K : d_S → Option d_S} : ∀ (j q m : Nat), q + j = n → j < m → ∀ s : d_S, k_B b n s → s.1 43 4 = (q : Int) → ∃ s', F_X3_step_l0 t K m s = K s' ∧ s'.1 43 4 = ((t_sk b n q : Nat) : Int) ∧ k_f [4] s s' := by
  intro j
  induction j with
  | zero =>
    intro q m hq hm s hB h4
    obtain ⟨m, rfl⟩ : ∃ w, m = w + 1 := ⟨m - 1, by omega⟩
    refine ⟨s, ?_, ?_, k_f.rf⟩
    · show F_X3_step_l0_b t K (F_X3_step_l0 t K m) s = _
      unfold F_X3_step_l0_b
      rw [h4, hB.1, if_neg (by omega)]
    · rw [h4]; unfold t_sk; rw [t_lp_no (fun e => absurd e.1 (by omega))]
  | succ j ih =>
    intro q m hq hm s hB h4
    obtain ⟨m, rfl⟩ : ∃ w, m = w + 1 := ⟨m - 1, by omega⟩
    have hq2 : q < n := by omega
    have hn := hB.2.1
    show ∃ s', F_X3_step_l0_b t K (F_X3_step_l0 t K m) s = _ ∧ _
    unfold F_X3_step_l0_b F_X3_step_j37
    rw [h4, hB.1, if_pos (by omega), k_byte hB hq2, d_b_t, d_b_t, d_l_t, d_w_id (x := (q : Int) + 1) (by omega) (by omega)]
    by_cases c : t_bl (b q) = true
    · obtain ⟨s', g1, g2, g3⟩ := ih (q + 1) m (by omega) (by omega) (d_si s 43 4 ((q : Int) + 1)) (hB.f (k_f.si (L := [4]) (by decide)) (by decide)) (by rw [d_si_i, d_u_t]; rfl)
      have e1 : t_sk b n q = t_sk b n (q + 1) := by unfold t_sk; rw [t_lp_go hq2 c]
      refine ⟨s', ?_, by rw [e1]; exact g2, (k_f.si (by decide)).tr g3⟩
      rcases k_bl.1 c with c | c
      · rw [if_pos (by omega)]; exact g1
      · rw [if_neg (by omega), if_pos (by omega)]; exact g1
    · refine ⟨s, ?_, ?_, k_f.rf⟩
      · have c' : ¬ (b q = 32 ∨ b q = 10) := fun e => c (k_bl.2 e)
        rw [if_neg (by omega), if_neg (by omega)]
      · rw [h4]; unfold t_sk; rw [t_lp_no (g := fun q => t_bl (b q)) (fun e => c e.2)]
theorem k_al_so {c : Nat} : t_al c = true ↔ t_so c = 1 := by
  unfold t_so
  constructor
  · intro h; rw [if_pos h]
  · intro h
    by_cases q : t_al c = true
    · exact q
    · rw [if_neg q] at h
      split at h <;> omega
theorem k_fi_so {c : Nat} : t_fi c = true ↔ t_so c = 2 := by
  unfold t_so
  constructor
  · intro h; rw [if_neg (by rw [t_al_fi h]; decide), if_pos h]
  · intro h
    by_cases q : t_al c = true
    · rw [if_pos q] at h; omega
    · rw [if_neg q] at h
      by_cases q2 : t_fi c = true
      · exact q2
      · rw [if_neg q2] at h; omega
theorem k_zs {z : Int64} {q : Nat} (hq : b q < 256) : d_orL (d_shlL z.toInt 8) ((b q : Nat) : Int) = (t_zs b q z).toInt := by
  unfold d_orL d_shlL t_zs
  have ec : (Int32.ofNat (b q)).toInt64 = Int64.ofInt ((b q : Nat) : Int) := by
    apply Int64.toInt_inj.mp
    rw [Int32.toInt_toInt64, d_tiL ⟨by omega, by omega⟩]
    show (Int32.ofInt ((b q : Nat) : Int)).toInt = _
    exact d_ti ⟨by omega, by omega⟩
  rw [Int64.ofInt_toInt, Int64.ofInt_toInt, ec]
  rfl
theorem k_lw {K : Int → Int → d_S → Option d_S} : ∀ (j q m : Nat), q + j = n → j < m → ∀ (s : d_S) (z : Int64) (y : Int), k_B b n s → s.1 43 4 = (q : Int) → s.1 43 6 = 1 → ∃ s' y', F_X3_step_l92 t K m z.toInt y s = K (t_lp n (fun q => t_al (b q)) (t_zs b) q z).2.toInt y' s' ∧ s'.1 43 4 = (((t_lp n (fun q => t_al (b q)) (t_zs b) q z).1 : Nat) : Int) ∧ k_f [4] s s' := by
  intro j
  induction j with
  | zero =>
    intro q m hq hm s z y hB h4 h6
    obtain ⟨m, rfl⟩ : ∃ w, m = w + 1 := ⟨m - 1, by omega⟩
    rw [t_lp_no (fun e => absurd e.1 (by omega))]
    refine ⟨s, y, ?_, h4, k_f.rf⟩
    show F_X3_step_l92_b t K (F_X3_step_l92 t K m) _ _ s = _
    unfold F_X3_step_l92_b
    rw [h4, hB.1, if_neg (by omega)]
  | succ j ih =>
    intro q m hq hm s z y hB h4 h6
    obtain ⟨m, rfl⟩ : ∃ w, m = w + 1 := ⟨m - 1, by omega⟩
    have hq2 : q < n := by omega
    have hn := hB.2.1
    have hbq := hB.2.2.2 q
    show ∃ s' y', F_X3_step_l92_b t K (F_X3_step_l92 t K m) _ _ s = _ ∧ _
    unfold F_X3_step_l92_b F_X3_step_j140
    rw [h4, hB.1, if_pos (by omega), k_byte hB hq2, d_b_t, k_so_ _ hbq, d_b_t, h6, if_neg (show ¬ (1 : Int) = 3 by decide), d_b_t, d_b_t, P_min, d_b_t, d_l_t, k_zs hbq, d_w_id (x := (q : Int) + 1) (by omega) (by omega)]
    by_cases c : t_al (b q) = true
    · rw [t_lp_go hq2 c, if_pos (by rw [k_al_so.1 c]; rfl)]
      obtain ⟨s', y', g1, g2, g3⟩ := ih (q + 1) m (by omega) (by omega) (d_si s 43 4 ((q : Int) + 1)) (t_zs b q z) (min 10000 (d_w (y * 10 + ((b q : Nat) : Int) - 48))) (hB.f (k_f.si (L := [4]) (by decide)) (by decide)) (by rw [d_si_i, d_u_t]; rfl) (by rw [d_si_i, d_u_n (by decide)]; exact h6)
      exact ⟨s', y', g1, g2, (k_f.si (by decide)).tr g3⟩
    · rw [t_lp_no (g := fun q => t_al (b q)) (fun e => c e.2), if_neg (fun e => c (k_al_so.2 (by omega)))]
      exact ⟨s, y, rfl, h4, k_f.rf⟩
theorem k_ln {K : Int → Int → d_S → Option d_S} : ∀ (j q m : Nat), q + j = n → j < m → ∀ (s : d_S) (y : Nat) (z : Int), k_B b n s → s.1 43 4 = (q : Int) → s.1 43 6 = 2 → y ≤ 10000 → ∃ s' z', F_X3_step_l92 t K m z (y : Int) s = K z' (((t_lp n (fun q => t_fi (b q)) (t_ms b) q y).2 : Nat) : Int) s' ∧ s'.1 43 4 = (((t_lp n (fun q => t_fi (b q)) (t_ms b) q y).1 : Nat) : Int) ∧ k_f [4] s s' := by
  intro j
  induction j with
  | zero =>
    intro q m hq hm s y z hB h4 h6 hy
    obtain ⟨m, rfl⟩ : ∃ w, m = w + 1 := ⟨m - 1, by omega⟩
    rw [t_lp_no (fun e => absurd e.1 (by omega))]
    refine ⟨s, z, ?_, h4, k_f.rf⟩
    show F_X3_step_l92_b t K (F_X3_step_l92 t K m) _ _ s = _
    unfold F_X3_step_l92_b
    rw [h4, hB.1, if_neg (by omega)]
  | succ j ih =>
    intro q m hq hm s y z hB h4 h6 hy
    obtain ⟨m, rfl⟩ : ∃ w, m = w + 1 := ⟨m - 1, by omega⟩
    have hq2 : q < n := by omega
    have hn := hB.2.1
    have hbq := hB.2.2.2 q
    show ∃ s' z', F_X3_step_l92_b t K (F_X3_step_l92 t K m) _ _ s = _ ∧ _
    unfold F_X3_step_l92_b F_X3_step_j140
    rw [h4, hB.1, if_pos (by omega), k_byte hB hq2, d_b_t, k_so_ _ hbq, d_b_t, h6, if_neg (show ¬ (2 : Int) = 3 by decide), d_b_t, d_b_t, P_min, d_b_t, d_l_t, d_w_id (x := (q : Int) + 1) (by omega) (by omega)]
    by_cases c : t_fi (b q) = true
    · have e48 : 48 ≤ b q ∧ b q ≤ 57 := by
        unfold t_fi at c
        rw [Bool.and_eq_true] at c
        exact ⟨Nat.le_of_ble_eq_true c.1, Nat.le_of_ble_eq_true c.2⟩
      have em : min 10000 (d_w ((y : Int) * 10 + ((b q : Nat) : Int) - 48)) = ((t_ms b q y : Nat) : Int) := by
        rw [d_w_id (by omega) (by omega)]; unfold t_ms; omega
      rw [t_lp_go hq2 c, if_pos (by rw [k_fi_so.1 c]; rfl), em]
      obtain ⟨s', z', g1, g2, g3⟩ := ih (q + 1) m (by omega) (by omega) (d_si s 43 4 ((q : Int) + 1)) (t_ms b q y) (d_orL (d_shlL z 8) ((b q : Nat) : Int)) (hB.f (k_f.si (L := [4]) (by decide)) (by decide)) (by rw [d_si_i, d_u_t]; rfl) (by rw [d_si_i, d_u_n (by decide)]; exact h6) (by unfold t_ms; omega)
      exact ⟨s', z', g1, g2, (k_f.si (by decide)).tr g3⟩
    · rw [t_lp_no (g := fun q => t_fi (b q)) (fun e => c e.2), if_neg (fun e => c (k_fi_so.2 (by omega)))]
      exact ⟨s, z, rfl, h4, k_f.rf⟩
def k_wds (t : Nat → Option p_C) : Prop := d_tw t = some (t_W.map Value.long)
theorem k_twn (h : k_wds t) : d_twn t = some 22 := by
  unfold d_twn
  rw [h, d_b_t, if_pos (by rw [List.length_map]; decide)]
  rfl
theorem k_twl (h : k_wds t) {k : Nat} (hk : k < 22) : ∃ w, t_W[k]? = some w ∧ d_twl t (k : Int) = some w.toInt := by
  have hl : k < t_W.length := hk
  refine ⟨t_W[k], List.getElem?_eq_getElem hl, ?_⟩
  unfold d_twl
  rw [h, d_b_t, if_pos (by omega), Int.toNat_natCast, List.getElem?_map, List.getElem?_eq_getElem hl]
  rfl
def k_IX (z : Int64) (v : Int) : Prop := (∃ k : Nat, k < 22 ∧ t_W[k]? = some z ∧ v = (k : Int)) ∨ ((∀ k, k < 22 → t_W[k]? ≠ some z) ∧ v = -1)
theorem k_wdl (h : k_wds t) {z : Int64} : ∀ (j k m : Nat), k + j = 22 → j < m → (∀ i, i < k → t_W[i]? ≠ some z) → ∃ v, F_X3_wordOf_l2 t s m z.toInt (k : Int) = some v ∧ k_IX z v := by
  intro j
  induction j with
  | zero =>
    intro k m hk hm hn
    obtain ⟨m, rfl⟩ : ∃ w, m = w + 1 := ⟨m - 1, by omega⟩
    refine ⟨-1, ?_, Or.inr ⟨fun i hi => hn i (by omega), rfl⟩⟩
    show F_X3_wordOf_l2_b t s (F_X3_wordOf_l2 t s m) _ _ = _
    unfold F_X3_wordOf_l2_b
    rw [k_twn h, d_b_t, if_neg (by omega)]
  | succ j ih =>
    intro k m hk hm hn
    obtain ⟨m, rfl⟩ : ∃ w, m = w + 1 := ⟨m - 1, by omega⟩
    obtain ⟨w, e1, e2⟩ := k_twl h (k := k) (by omega)
    show ∃ v, F_X3_wordOf_l2_b t s (F_X3_wordOf_l2 t s m) _ _ = _ ∧ _
    unfold F_X3_wordOf_l2_b
    rw [k_twn h, d_b_t, if_pos (by omega), e2, d_b_t, d_w_id (x := (k : Int) + 1) (by omega) (by omega)]
    by_cases c : w = z
    · subst c
      rw [if_pos rfl]
      exact ⟨(k : Int), rfl, Or.inl ⟨k, by omega, e1, rfl⟩⟩
    · rw [if_neg (fun e => c (Int64.toInt_inj.mp e))]
      exact ih (k + 1) m (by omega) (by omega) (fun i hi => by
        by_cases q : i = k
        · subst q; rw [e1]; exact fun e => c (Option.some.inj e)
        · exact hn i (by omega))
theorem k_word (h : k_wds t) {z : Int64} : ∃ v, F_X3_wordOf t s z.toInt = some v ∧ k_IX z v := k_wdl h 22 0 d_N rfl (by rw [d_N_is]; decide) (fun i hi => absurd hi (Nat.not_lt_zero i))
def k_T (b : Nat → Nat) (n p : Nat) (s : d_S) : Prop := k_B b n s ∧ (s.1 43 4 = ((t_e b n p : Nat) : Int) ∧ s.1 43 5 = (p : Int) ∧ s.1 43 6 = ((t_k b n p : Nat) : Int)) ∧ (t_k b n p = 1 → k_IX (t_zl b n p).2 (s.1 43 7)) ∧ (t_k b n p = 2 → s.1 43 7 = ((min 10000 (t_n b n p) : Nat) : Int)) ∧ (t_k b n p = 3 → s.1 43 7 = ((b p : Nat) : Int))
theorem k_T.f {L : List Nat} (h : k_T b n p s) (h' : k_f L s s') (h1 : 1 ∉ L ∧ 4 ∉ L ∧ 5 ∉ L ∧ 6 ∉ L ∧ 7 ∉ L) : k_T b n p s' := by
  obtain ⟨a1, ⟨a4, a5, a6⟩, a7⟩ := h
  refine ⟨a1.f h' h1.1, ⟨by rw [h'.1 4 h1.2.1]; exact a4, by rw [h'.1 5 h1.2.2.1]; exact a5, by rw [h'.1 6 h1.2.2.2.1]; exact a6⟩, ?_⟩
  rw [h'.1 7 h1.2.2.2.2]
  exact a7
theorem k_stp (hW : k_wds t) (hB : k_B b n s) (h4 : s.1 43 4 = (q : Int)) (hq : q ≤ n) : ∃ s', F_X3_step t s = some s' ∧ k_T b n (t_sk b n q) s' ∧ k_f [4, 5, 6, 7] s s' := by
  obtain ⟨s1, a1, a2, a3⟩ := k_skl (t := t) (b := b) (n := n) (K := fun s_u4 => d_l (d_si s_u4 43 5 (s_u4.1 43 4)) (fun s5 => if (s5.1 43 4) < (s5.1 43 1) then d_b (F_X3_byteAt s5 (s5.1 43 4)) (fun v6 => d_b (F_X3_sortOf v6) (fun v7 => d_l (d_si s5 43 6 v7) (fun s8 => F_X3_step_l92 t (fun x1_u15 x3_u15 s_u15 => F_X3_step_j191 t x1_u15 x3_u15 s_u15) d_N 0 0 s8))) else d_l (d_si s5 43 6 0) (fun s19 => F_X3_step_l92 t (fun x1_u20 x3_u20 s_u20 => F_X3_step_j191 t x1_u20 x3_u20 s_u20) d_N 0 0 s19))) (n - q) q d_N (by omega) (by rw [d_N_is]; have := hB.2.1; omega) s hB h4
  have hp := t_sk_le (b := b) hq
  obtain ⟨p, hpe⟩ : ∃ p, p = t_sk b n q := ⟨_, rfl⟩
  rw [← hpe] at a2 hp ⊢
  have hn := hB.2.1
  have hB1 : k_B b n s1 := hB.f a3 (by decide)
  obtain ⟨s5, hs5⟩ : ∃ z, z = d_si s1 43 5 (p : Int) := ⟨_, rfl⟩
  have f5 : k_f [5] s1 s5 := by rw [hs5]; exact k_f.si (by decide)
  have e54 : s5.1 43 4 = (p : Int) := by rw [f5.1 4 (by decide)]; exact a2
  have e55 : s5.1 43 5 = (p : Int) := by rw [hs5, d_si_i, d_u_t]
  have hB5 : k_B b n s5 := hB1.f f5 (by decide)
  have hgo : F_X3_step t s = if p < n then d_l (d_si s5 43 6 ((t_so (b p) : Nat) : Int)) (fun s8 => F_X3_step_l92 t (fun x1_u15 x3_u15 s_u15 => F_X3_step_j191 t x1_u15 x3_u15 s_u15) d_N 0 0 s8) else d_l (d_si s5 43 6 0) (fun s19 => F_X3_step_l92 t (fun x1_u20 x3_u20 s_u20 => F_X3_step_j191 t x1_u20 x3_u20 s_u20) d_N 0 0 s19) := by
    unfold F_X3_step
    refine a1.trans ?_
    show d_l (d_si s1 43 5 (s1.1 43 4)) _ = _
    rw [d_l_t, a2, ← hs5, e54, hB5.1]
    by_cases c : p < n
    · rw [if_pos (by omega), if_pos c, k_byte hB5 c, d_b_t, k_so_ _ (hB.2.2.2 p), d_b_t]
    · rw [if_neg (by omega), if_neg c]
  rw [hgo]
  have f15 : k_f [4, 5, 6, 7] s s5 := (a3.mono (by decide)).tr (f5.mono (by decide))
  by_cases c : p < n
  rotate_left
  · have hk : t_k b n p = 0 := t_k_end c
    have he : t_e b n p = p := by unfold t_e; rw [hk]; rfl
    obtain ⟨s6, hs6⟩ : ∃ z, z = d_si s5 43 6 0 := ⟨_, rfl⟩
    have f6 : k_f [6] s5 s6 := by rw [hs6]; exact k_f.si (by decide)
    have e66 : s6.1 43 6 = 0 := by rw [hs6, d_si_i, d_u_t]
    have e64 : s6.1 43 4 = (p : Int) := by rw [f6.1 4 (by decide)]; exact e54
    have hB6 : k_B b n s6 := hB5.f f6 (by decide)
    have f7 : k_f [7] s6 (d_si s6 43 7 (d_w 0)) := k_f.si (by decide)
    rw [if_neg c, d_l_t, ← hs6, d_N_is]
    refine ⟨d_si s6 43 7 (d_w 0), ?_, ⟨hB6.f f7 (by decide), ⟨?_, ?_, ?_⟩, ?_, ?_, ?_⟩, (f15.tr (f6.mono (by decide))).tr (f7.mono (by decide))⟩
    · show F_X3_step_l92_b t _ (F_X3_step_l92 t _ 99999) 0 0 s6 = _
      unfold F_X3_step_l92_b
      rw [e64, hB6.1, if_neg (by omega)]
      show F_X3_step_j191 t 0 0 s6 = _
      unfold F_X3_step_j191 F_X3_step_j225
      rw [e66, if_neg (by decide), if_neg (by decide), d_l_t]
    · rw [f7.1 4 (by decide), e64, he]
    · rw [f7.1 5 (by decide), f6.1 5 (by decide)]; exact e55
    · rw [f7.1 6 (by decide), e66, hk]; rfl
    · intro e; omega
    · intro e; omega
    · intro e; omega
  have hk : t_k b n p = t_so (b p) := t_k_so c
  obtain ⟨s6, hs6⟩ : ∃ z, z = d_si s5 43 6 ((t_so (b p) : Nat) : Int) := ⟨_, rfl⟩
  have f6 : k_f [6] s5 s6 := by rw [hs6]; exact k_f.si (by decide)
  have e66 : s6.1 43 6 = ((t_so (b p) : Nat) : Int) := by rw [hs6, d_si_i, d_u_t]
  have e64 : s6.1 43 4 = (p : Int) := by rw [f6.1 4 (by decide)]; exact e54
  have e65 : s6.1 43 5 = (p : Int) := by rw [f6.1 5 (by decide)]; exact e55
  have hB6 : k_B b n s6 := hB5.f f6 (by decide)
  have f16 : k_f [4, 5, 6, 7] s s6 := f15.tr (f6.mono (by decide))
  rw [if_pos c, d_l_t, ← hs6]
  have h123 : t_so (b p) = 1 ∨ t_so (b p) = 2 ∨ t_so (b p) = 3 := by
    unfold t_so
    split
    · exact Or.inl rfl
    · split
      · exact Or.inr (Or.inl rfl)
      · exact Or.inr (Or.inr rfl)
  rcases h123 with h1 | h1 | h1
  · obtain ⟨s7, y, g1, g2, g3⟩ := k_lw (t := t) (K := fun x1_u15 x3_u15 s_u15 => F_X3_step_j191 t x1_u15 x3_u15 s_u15) (n - p) p d_N (by omega) (by rw [d_N_is]; omega) s6 0 0 hB6 e64 (by rw [e66, h1]; rfl)
    obtain ⟨v, v1, v2⟩ := k_word (s := s7) hW (z := (t_zl b n p).2)
    have f8 : k_f [7] s7 (d_si s7 43 7 v) := k_f.si (by decide)
    have f7 : k_f [4, 5, 6, 7] s6 s7 := g3.mono (by decide)
    refine ⟨d_si s7 43 7 v, ?_, ⟨(hB6.f g3 (by decide)).f f8 (by decide), ⟨?_, ?_, ?_⟩, ?_, ?_, ?_⟩, (f16.tr f7).tr (f8.mono (by decide))⟩
    · refine (show F_X3_step_l92 t _ d_N (Int64.toInt 0) 0 s6 = _ from g1).trans ?_
      show F_X3_step_j191 t (t_zl b n p).2.toInt y s7 = _
      unfold F_X3_step_j191
      rw [g3.1 6 (by decide), e66, h1, if_pos (by decide), v1, d_b_t, d_l_t]
    · rw [f8.1 4 (by decide), g2]
      have : t_e b n p = (t_wl b n p).1 := by unfold t_e; rw [hk, h1]; rfl
      rw [this]; unfold t_wl; rw [t_lp_fst (n - p) p (0 : Int64) (0 : Nat) (by omega)]
    · rw [f8.1 5 (by decide), g3.1 5 (by decide)]; exact e65
    · rw [f8.1 6 (by decide), g3.1 6 (by decide), e66, hk]
    · intro _; rw [d_si_i, d_u_t]; exact v2
    · intro e; omega
    · intro e; omega
  · obtain ⟨s7, z, g1, g2, g3⟩ := k_ln (t := t) (K := fun x1_u15 x3_u15 s_u15 => F_X3_step_j191 t x1_u15 x3_u15 s_u15) (n - p) p d_N (by omega) (by rw [d_N_is]; omega) s6 0 0 hB6 e64 (by rw [e66, h1]; rfl) (by decide)
    have g1' : F_X3_step_l92 t (fun x1_u15 x3_u15 s_u15 => F_X3_step_j191 t x1_u15 x3_u15 s_u15) d_N 0 0 s6 = F_X3_step_j191 t z (((t_ml b n p).2 : Nat) : Int) s7 := g1
    have f8 : k_f [7] s7 (d_si s7 43 7 (((t_ml b n p).2 : Nat) : Int)) := k_f.si (by decide)
    have f7 : k_f [4, 5, 6, 7] s6 s7 := g3.mono (by decide)
    refine ⟨d_si s7 43 7 (((t_ml b n p).2 : Nat) : Int), ?_, ⟨(hB6.f g3 (by decide)).f f8 (by decide), ⟨?_, ?_, ?_⟩, ?_, ?_, ?_⟩, (f16.tr f7).tr (f8.mono (by decide))⟩
    · rw [g1']
      unfold F_X3_step_j191 F_X3_step_j225
      rw [g3.1 6 (by decide), e66, h1, if_neg (by decide), if_pos (by decide), d_l_t]
    · rw [f8.1 4 (by decide), g2]
      have : t_e b n p = (t_nl b n p).1 := by unfold t_e; rw [hk, h1]; rfl
      rw [this]; unfold t_nl; rw [t_lp_fst (n - p) p (0 : Nat) (0 : Nat) (by omega)]
    · rw [f8.1 5 (by decide), g3.1 5 (by decide)]; exact e65
    · rw [f8.1 6 (by decide), g3.1 6 (by decide), e66, hk]
    · intro e; omega
    · intro _; rw [d_si_i, d_u_t, t_ml_n (by omega)]
    · intro e; omega
  · obtain ⟨s7, hs7⟩ : ∃ z, z = d_si s6 43 4 ((p : Int) + 1) := ⟨_, rfl⟩
    have f7 : k_f [4] s6 s7 := by rw [hs7]; exact k_f.si (by decide)
    have e74 : s7.1 43 4 = ((p + 1 : Nat) : Int) := by rw [hs7, d_si_i, d_u_t]; rfl
    have hB7 : k_B b n s7 := hB6.f f7 (by decide)
    have hbp := hB.2.2.2 p
    have eb : d_w (d_orL (d_shlL 0 8) ((b p : Nat) : Int)) = ((b p : Nat) : Int) := by
      have : ∀ c : Nat, c < 256 → d_w (d_orL (d_shlL 0 8) (c : Int)) = (c : Int) := by decide +kernel
      exact this _ hbp
    obtain ⟨y, hy⟩ : ∃ y, y = min 10000 (d_w ((0 : Int) * 10 + ((b p : Nat) : Int) - 48)) := ⟨_, rfl⟩
    have f8 : k_f [7] s7 (d_si s7 43 7 ((b p : Nat) : Int)) := k_f.si (by decide)
    refine ⟨d_si s7 43 7 ((b p : Nat) : Int), ?_, ⟨hB7.f f8 (by decide), ⟨?_, ?_, ?_⟩, ?_, ?_, ?_⟩, (f16.tr (f7.mono (by decide))).tr (f8.mono (by decide))⟩
    · rw [d_N_is]
      show F_X3_step_l92_b t _ (F_X3_step_l92 t _ 99999) 0 0 s6 = _
      unfold F_X3_step_l92_b F_X3_step_j140
      rw [e64, hB6.1, if_pos (by omega), k_byte hB6 c, d_b_t, k_so_ _ hbp, d_b_t, e66, if_pos rfl, h1, if_pos (by decide), e65, if_pos rfl, d_b_t, d_b_t, P_min, d_b_t, d_l_t, d_w_id (x := (p : Int) + 1) (by omega) (by omega), ← hs7, ← hy]
      show F_X3_step_l92_b t _ (F_X3_step_l92 t _ 99998) _ y s7 = _
      have hj : F_X3_step_j191 t (d_orL (d_shlL 0 8) ((b p : Nat) : Int)) y s7 = some (d_si s7 43 7 ((b p : Nat) : Int)) := by
        unfold F_X3_step_j191 F_X3_step_j225
        rw [f7.1 6 (by decide), e66, h1, if_neg (by decide), if_neg (by decide), eb, d_l_t]
      unfold F_X3_step_l92_b
      rw [e74, hB7.1, f7.1 6 (by decide), e66, h1, f7.1 5 (by decide), e65]
      by_cases c2 : p + 1 < n
      · rw [if_pos (by omega), k_byte hB7 c2, d_b_t, k_so_ _ (hB.2.2.2 (p + 1)), d_b_t]
        split
        · rw [if_pos (by decide), if_neg (by omega)]; exact hj
        · exact hj
      · rw [if_neg (by omega)]; exact hj
    · rw [f8.1 4 (by decide), e74]
      have : t_e b n p = p + 1 := by unfold t_e; rw [hk, h1]; rfl
      rw [this]
    · rw [f8.1 5 (by decide), f7.1 5 (by decide)]; exact e65
    · rw [f8.1 6 (by decide), f7.1 6 (by decide), e66, hk]
    · intro e; omega
    · intro e; omega
    · intro _; rw [d_si_i, d_u_t]
theorem t_e_le (hp : p ≤ n) : p ≤ t_e b n p ∧ t_e b n p ≤ n := by
  by_cases c : p < n
  · have := t_e_lt (b := b) c; omega
  · have : t_e b n p = p := by unfold t_e; rw [t_k_end c]; rfl
    omega
theorem P_step (hW : k_wds t) (h : k_T b n p s) (hp : p ≤ n) : ∃ s', F_X3_step t s = some s' ∧ k_T b n (t_x b n p) s' ∧ k_f [4, 5, 6, 7] s s' := k_stp hW h.1 h.2.1.1 (t_e_le hp).2
theorem k_wd (h : k_T b n p s) (hp : p ≤ n) {k : Nat} (hk : k < 22) : (s.1 43 6 = 1 ∧ s.1 43 7 = (k : Int)) ↔ t_wd b n p k = true := by
  rw [t_wd_iff]
  have hz : t_k b n p = 1 → t_Lt (t_zl b n p).2 (t_w b n p) := fun _ => t_zl_w hp (fun k _ => h.1.2.2.2 k)
  constructor
  · rintro ⟨e1, e2⟩
    have k1 : t_k b n p = 1 := by have := h.2.1.2.2; omega
    refine ⟨k1, ?_⟩
    rcases h.2.2.1 k1 with ⟨j, j1, j2, j3⟩ | ⟨j2, j3⟩
    · have : j = k := by omega
      subst this
      exact (t_Lt_k (hz k1) hk).1 j2
    · omega
  · rintro ⟨k1, e2⟩
    refine ⟨by rw [h.2.1.2.2, k1]; rfl, ?_⟩
    have e3 := (t_Lt_k (hz k1) hk).2 e2
    rcases h.2.2.1 k1 with ⟨j, j1, j2, j3⟩ | ⟨j2, j3⟩
    · rw [j3]
      have a := t_W_n j j1
      have c := t_W_n k hk
      rw [j2] at a
      rw [e3] at c
      have e := (Option.some.inj a).symm.trans (Option.some.inj c)
      have := (t_o64 (by have := t_Wn_b j j1; omega) (by have := t_Wn_b k hk; omega)).1 e
      rw [t_Wn_i j j1 k hk this]
    · exact absurd e3 (j2 k hk)
theorem P_isWord (h : k_T b n p s) (hp : p ≤ n) {k : Nat} (hk : k < 22) : F_X3_isWord s (k : Int) = some (v_b (t_wd b n p k = true)) := by
  have e := k_wd h hp hk
  unfold F_X3_isWord
  by_cases c : s.1 43 6 = 1
  · rw [if_pos c]
    by_cases c2 : s.1 43 7 = (k : Int)
    · rw [if_pos c2, v_bt (e.1 ⟨c, c2⟩)]
    · rw [if_neg c2, v_bf (fun z => c2 (e.2 z).2)]
  · rw [if_neg c, v_bf (fun z => c (e.2 z).1)]
theorem k_is (h : k_T b n p s) {c : Nat} : (s.1 43 6 = 3 ∧ s.1 43 7 = (c : Int)) ↔ t_is b n p c = true := by
  rw [t_is_iff]
  constructor
  · rintro ⟨e1, e2⟩
    have k3 : t_k b n p = 3 := by have := h.2.1.2.2; omega
    have := h.2.2.2.2 k3
    exact ⟨k3, by omega⟩
  · rintro ⟨k3, e2⟩
    have := h.2.2.2.2 k3
    exact ⟨by rw [h.2.1.2.2, k3]; rfl, by omega⟩
theorem P_isSign (h : k_T b n p s) {c : Nat} : F_X3_isSign s (c : Int) = some (v_b (t_is b n p c = true)) := by
  have e := k_is h (c := c)
  unfold F_X3_isSign
  by_cases c1 : s.1 43 6 = 3
  · rw [if_pos c1]
    by_cases c2 : s.1 43 7 = (c : Int)
    · rw [if_pos c2, v_bt (e.1 ⟨c1, c2⟩)]
    · rw [if_neg c2, v_bf (fun z => c2 (e.2 z).2)]
  · rw [if_neg c1, v_bf (fun z => c1 (e.2 z).1)]
end X1

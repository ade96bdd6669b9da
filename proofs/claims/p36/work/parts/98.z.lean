theorem hl_0 : x_OK p_GT p_MT x_EE cl0 := x_chk_OK x_EE_EO x_EE_KO (g_c (ho_chL0) (g_c (ho_181) (g_c (ho_182) (g_c (ho_183) (g_c (ho_184) (g_c (ho_186) (g_c (ho_187) (g_n)))))))) (fun _ _ => g_n) clt0
theorem hl_1 : x_OK p_GT p_MT x_EE cl1 := x_chk_OK x_EE_EO x_EE_KO (g_c (hl_0) (g_c (ho_3) (g_n))) (fun _ _ => g_n) clt1
theorem hl_2 : x_OK p_GT p_MT x_EE cl2 := x_chk_OK x_EE_EO x_EE_KO (g_c (ho_chL1) (g_n)) (fun _ _ => g_n) clt2
theorem hl_3 : x_OK p_GT p_MT x_EE cl3 := x_chk_OK x_EE_EO x_EE_KO (g_c (ho_chL2) (g_c (ho_172) (g_c (ho_173) (g_c (ho_174) (g_c (ho_175) (g_c (ho_177) (g_c (ho_178) (g_n)))))))) (fun _ _ => g_n) clt3
theorem hl_4 : x_OK p_GT p_MT x_EE cl4 := x_chk_OK x_EE_EO x_EE_KO (g_c (hl_3) (g_n)) (fun _ _ => g_n) clt4
theorem hl_5 : x_OK p_GT p_MT x_EE cl5 := x_chk_OK x_EE_EO x_EE_KO (g_c (ho_chL3) (g_n)) (fun _ _ => g_n) clt5
theorem hl_6 : x_OK p_GT p_MT x_EE cl6 := x_chk_OK x_EE_EO x_EE_KO (g_n) (fun _ _ => g_n) clt6
theorem hl_7 : x_OK p_GT p_MT x_EE cl7 := x_chk_OK x_EE_EO x_EE_KO (g_c (ho_chL6) (g_c (ho_chL5) (g_c (hl_6) (g_n)))) (fun _ _ => g_n) clt7
theorem hl_8 : x_OK p_GT p_MT x_EE cl8 := x_chk_OK x_EE_EO x_EE_KO (g_n) (fun _ _ => g_n) clt8
theorem hl_9 : x_OK p_GT p_MT x_EE cl9 := x_chk_OK x_EE_EO x_EE_KO (g_c (ho_415) (g_c (ho_416) (g_c (hl_8) (g_n)))) (fun _ _ => g_n) clt9
theorem hl_10 : x_OK p_GT p_MT x_EE cl10 := x_chk_OK x_EE_EO x_EE_KO (g_c (ho_chL7) (g_c (ho_chL8) (g_c (hl_8) (g_n)))) (fun _ _ => g_n) clt10
theorem hl_11 : x_OK p_GT p_MT x_EE cl11 := x_chk_OK x_EE_EO x_EE_KO (g_c (ho_chL7) (g_c (ho_416) (g_c (hl_8) (g_n)))) (fun _ _ => g_n) clt11
theorem hl_12 : x_OK p_GT p_MT x_EE cl12 := x_chk_OK x_EE_EO x_EE_KO (g_n) (fun _ _ => g_n) clt12
theorem hl_13 : x_OK p_GT p_MT x_EE cl13 := x_chk_OK x_EE_EO x_EE_KO (g_n) (fun M' hM => by
  cases (show some m_X8_add = some M' from hM)
  exact g_c (g_c (hr_toldRow0 rfl) (g_n)) (g_c (g_c (hr_toldRow1 rfl) (g_n)) (g_c (g_c (hr_toldRow2 rfl) (g_n)) (g_c (g_c (hr_toldRow3 rfl) (g_n)) (g_n))))) clt13
theorem hl_14 : x_OK p_GT p_MT x_EE cl14 := x_chk_OK x_EE_EO x_EE_KO (g_c (hl_13) (g_c (hl_12) (g_c (hl_6) (g_n)))) (fun _ _ => g_n) clt14
theorem hl_15 : x_OK p_GT p_MT x_EE cl15 := x_chk_OK x_EE_EO x_EE_KO (g_c (hl_8) (g_n)) (fun M' hM => by
  cases (show some m_X12_bid = some M' from hM)
  exact g_c (g_c (hr_alikeRow rfl) (g_n)) (g_n)) clt15
theorem hl_16 : x_OK p_GT p_MT x_EE cl16 := x_chk_OK x_EE_EO x_EE_KO (g_c (hl_8) (g_n)) (fun _ _ => g_n) clt16
theorem lw_D : ∀ d ∈ lwD, x_OK p_GT p_MT x_EE d := g_c (hl_7) (g_c (hl_10) (g_c (ho_534) (g_c (hl_1) (g_c (hl_2) (g_c (hl_4) (g_c (hl_5) (g_c (hl_14) (g_c (hl_15) (g_c (hl_16) (g_c (hl_11) (g_c (ho_332) (g_c (ho_397) (g_c (ho_398) (g_c (ho_428) (g_c (ho_396) (g_c (ho_359) (g_c (ho_370) (g_c (ho_372) (g_c (ho_383) (g_c (ho_393) (g_c (ho_394) (g_c (ho_395) (g_c (ho_405) (g_c (ho_411) (g_c (ho_423) (g_c (ho_chL4) (g_c (ho_337) (g_c (ho_420) (g_c (hl_9) (g_c (ho_343) (g_c (ho_374) (g_c (ho_376) (g_c (ho_382) (g_c (ho_392) (g_c (ho_425) (g_c (ho_404) (g_c (ho_419) (g_c (ho_426) (g_c (ho_193) (g_c (ho_73) (g_c (ho_94) (g_c (ho_108) (g_c (ho_109) (g_c (ho_171) (g_c (ho_375) (g_c (ho_385) (g_c (ho_107) (g_c (ho_9) (g_c (ho_10) (g_c (ho_12) (g_c (ho_53) (g_c (ho_66) (g_c (ho_69) (g_c (ho_93) (g_c (ho_103) (g_c (ho_105) (g_c (ho_106) (g_c (ho_121) (g_c (ho_138) (g_c (ho_152) (g_c (ho_160) (g_c (ho_162) (g_c (ho_190) (g_c (ho_196) (g_c (ho_333) (g_c (ho_334) (g_c (ho_422) (g_c (ho_431) (g_c (ho_18) (g_c (ho_155) (g_c (ho_4) (g_c (ho_28) (g_c (ho_70) (g_c (ho_85) (g_c (ho_86) (g_c (ho_92) (g_c (ho_101) (g_c (ho_144) (g_c (ho_158) (g_c (ho_164) (g_c (ho_192) (g_c (ho_377) (g_c (ho_413) (g_c (ho_421) (g_c (ho_118) (g_c (ho_153) (g_c (ho_99) (g_c (ho_124) (g_c (ho_387) (g_c (ho_406) (g_c (ho_141) (g_c (ho_412) (g_c (ho_167) (g_c (ho_8) (g_c (ho_195) (g_c (ho_5) (g_n)))))))))))))))))))))))))))))))))))))))))))))))))))))))))))))))))))))))))))))))))))))))))))))))))
theorem lw_U : ∀ T ∈ lwU, x_wU 0 T = true := List.all_eq_true.mp (show lwU.all (x_wU 0) = true by decide +kernel)
set_option maxRecDepth 100000 in
theorem lw_Y : ∀ q ∈ lwY.2, ∀ d ∈ q.2.2.2, x_HoldR p_GT p_MT x_EE m_L_law q.1 q.2.2.1 d := g_c (g_c (hr_script rfl) (g_n)) (g_c (g_c (hr_scriptK rfl) (g_n)) (g_c (g_c (hr_script rfl) (g_n)) (g_c (g_c (hr_scriptK rfl) (g_n)) (g_n))))
theorem lw_G : ∀ T ∈ lwU, x_ex x_KL p_GT p_MT m_L_law lwD lwC lwU lwY (some T.2.2.2.2.2.2.2) 20000 true (T.1, x_hd T) = true := g_c (lw_0) (g_c (lw_1) (g_c (lw_2) (g_c (lw_3) (g_c (lw_4) (g_c (lw_5) (g_c (lw_6) (g_c (lw_7) (g_c (lw_8) (g_c (lw_9) (g_c (lw_10) (g_c (lw_11) (g_c (lw_12) (g_c (lw_13) (g_c (lw_14) (g_c (lw_15) (g_c (lw_16) (g_c (lw_17) (g_c (lw_18) (g_c (lw_19) (g_c (lw_20) (g_c (lw_21) (g_c (lw_22) (g_c (lw_23) (g_c (lw_24) (g_c (lw_25) (g_c (lw_26) (g_c (lw_27) (g_c (lw_28) (g_c (lw_29) (g_c (lw_30) (g_c (lw_31) (g_c (lw_32) (g_c (lw_33) (g_c (lw_34) (g_c (lw_35) (g_c (lw_36) (g_c (lw_37) (g_c (lw_38) (g_c (lw_39) (g_c (lw_40) (g_c (lw_41) (g_c (lw_42) (g_c (lw_43) (g_c (lw_44) (g_c (lw_45) (g_c (lw_46) (g_c (lw_47) (g_n))))))))))))))))))))))))))))))))))))))))))))))))

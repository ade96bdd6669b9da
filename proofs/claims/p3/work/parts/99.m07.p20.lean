/-! The pools -/
theorem q_k0_0 : p_Q p_MT m_X11_init (1, 8, 0, 0) := ⟨rfl, p_a1 (p_mb1 (List.mem_of_getElem? (i := 23) rfl) rfl) (p_a1 (p_mb1 (List.mem_of_getElem? (i := 24) rfl) rfl) (p_a1 (p_mb1 (List.mem_of_getElem? (i := 25) rfl) rfl) (p_a0))), p_b0⟩
theorem q_k0_1 : p_Q p_MT m_X11_init (7, 2, 9, 0) := p_t2 rfl (p_mb1 (List.mem_of_getElem? (i := 26) rfl) rfl) (p_mb1 (List.mem_of_getElem? (i := 27) rfl) rfl) (p_mb1 (List.mem_of_getElem? (i := 2) rfl) rfl)
theorem q_k0_2 : p_Q p_MT m_X11_init (9, 10, 84, 1) := p_t10 (N := m_X9_init) rfl (p_mb1 (List.mem_of_getElem? (i := 28) rfl) rfl) ci_X9_init cp_X9_init rfl rfl rfl rfl
theorem q_k0_3 : p_Q p_MT m_X11_init (10, 0, 11, 0) := p_t0 rfl (p_mb2 (List.mem_of_getElem? (i := 162) rfl) rfl) rfl
theorem q_k0_4 : p_Q p_MT m_X11_init (16, 0, 11, 1) := p_t0 rfl (p_mb2 (List.mem_of_getElem? (i := 163) rfl) rfl) rfl
theorem q_k0_5 : p_Q p_MT m_X11_init (19, 2, 4, 0) := p_t2 rfl (p_mb1 (List.mem_of_getElem? (i := 183) rfl) rfl) (p_mb1 (List.mem_of_getElem? (i := 184) rfl) rfl) (p_mb1 (List.mem_of_getElem? (i := 6) rfl) rfl)
theorem q_k0_6 : p_Q p_MT m_X11_init (21, 10, 51, 1) := p_t10 (N := m_X4_init) rfl (p_mb1 (List.mem_of_getElem? (i := 185) rfl) rfl) ci_X4_init cp_X4_init rfl rfl rfl rfl
theorem q_k0_7 : p_Q p_MT m_X11_init (22, 0, 11, 2) := p_t0 rfl (p_mb2 (List.mem_of_getElem? (i := 164) rfl) rfl) rfl
theorem q_k0_8 : p_Q p_MT m_X11_init (26, 2, 3, 0) := p_t2 rfl (p_mb1 (List.mem_of_getElem? (i := 210) rfl) rfl) (p_mb1 (List.mem_of_getElem? (i := 211) rfl) rfl) (p_mb1 (List.mem_of_getElem? (i := 7) rfl) rfl)
theorem q_k0_9 : p_Q p_MT m_X11_init (28, 10, 25, 1) := p_t10 (N := m_X3_init) rfl (p_mb1 (List.mem_of_getElem? (i := 212) rfl) rfl) ci_X3_init cp_X3_init rfl rfl rfl rfl
theorem q_k0_10 : p_Q p_MT m_X11_init (29, 0, 11, 3) := p_t0 rfl (p_mb2 (List.mem_of_getElem? (i := 165) rfl) rfl) rfl
theorem q_k0_11 : p_Q p_MT m_X11_init (33, 2, 0, 0) := p_t2 rfl (p_mb2 (List.mem_of_getElem? (i := 35) rfl) rfl) (p_mb2 (List.mem_of_getElem? (i := 36) rfl) rfl) (p_mb1 (List.mem_of_getElem? (i := 8) rfl) rfl)
theorem q_k0_12 : p_Q p_MT m_X11_init (35, 2, 1, 0) := p_t2 rfl (p_mb2 (List.mem_of_getElem? (i := 37) rfl) rfl) (p_mb2 (List.mem_of_getElem? (i := 38) rfl) rfl) (p_mb1 (List.mem_of_getElem? (i := 9) rfl) rfl)
theorem q_k0_13 : p_Q p_MT m_X11_init (37, 10, 10, 1) := p_t10 (N := m_X1_init) rfl (p_mb2 (List.mem_of_getElem? (i := 39) rfl) rfl) ci_X1_init cp_X1_init rfl rfl rfl rfl
theorem q_k0_14 : p_Q p_MT m_X11_init (38, 10, 0, 4) := p_t10 (N := m_X0_init) rfl (p_mb2 (List.mem_of_getElem? (i := 50) rfl) rfl) ci_X0_init cp_X0_init rfl rfl rfl rfl
theorem q_k0_15 : p_Q p_MT m_X11_init (41, 0, 11, 4) := p_t0 rfl (p_mb2 (List.mem_of_getElem? (i := 166) rfl) rfl) rfl
theorem q_k0_16 : p_Q p_MT m_X11_init (45, 2, 2, 0) := p_t2 rfl (p_mb2 (List.mem_of_getElem? (i := 97) rfl) rfl) (p_mb2 (List.mem_of_getElem? (i := 98) rfl) rfl) (p_mb1 (List.mem_of_getElem? (i := 10) rfl) rfl)
theorem q_k0_17 : p_Q p_MT m_X11_init (47, 10, 18, 2) := p_t10 (N := m_X2_init) rfl (p_mb2 (List.mem_of_getElem? (i := 99) rfl) rfl) ci_X2_init cp_X2_init rfl rfl rfl rfl
theorem q_k0_18 : p_Q p_MT m_X11_init (50, 0, 11, 5) := p_t0 rfl (p_mb2 (List.mem_of_getElem? (i := 167) rfl) rfl) rfl
theorem q_k0_19 : p_Q p_MT m_X11_init (54, 2, 5, 0) := p_t2 rfl (p_mb2 (List.mem_of_getElem? (i := 119) rfl) rfl) (p_mb2 (List.mem_of_getElem? (i := 120) rfl) rfl) (p_mb1 (List.mem_of_getElem? (i := 11) rfl) rfl)
theorem q_k0_20 : p_Q p_MT m_X11_init (56, 10, 65, 4) := p_t10 (N := m_X5_init) rfl (p_mb2 (List.mem_of_getElem? (i := 121) rfl) rfl) ci_X5_init cp_X5_init rfl rfl rfl rfl
theorem q_k0_21 : p_Q p_MT m_X11_init (59, 0, 11, 6) := p_t0 rfl (p_mb2 (List.mem_of_getElem? (i := 168) rfl) rfl) rfl
theorem q_k0_22 : p_Q p_MT m_X11_init (63, 0, 11, 7) := p_t0 rfl (p_mb2 (List.mem_of_getElem? (i := 169) rfl) rfl) rfl
theorem q_k0_23 : p_Q p_MT m_X11_init (67, 0, 11, 8) := p_t0 rfl (p_mb2 (List.mem_of_getElem? (i := 170) rfl) rfl) rfl
theorem q_k0_24 : p_Q p_MT m_X11_init (70, 0, 11, 9) := p_t0 rfl (p_mb2 (List.mem_of_getElem? (i := 171) rfl) rfl) rfl
theorem q_k0_25 : p_Q p_MT m_X11_init (73, 9, 52, 2) := p_t9 (N := m_X4_lay) rfl (p_mb2 (List.mem_of_getElem? (i := 151) rfl) rfl) cv_X4_lay cp_X4_lay rfl rfl
theorem q_k0_26 : p_Q p_MT m_X11_init (77, 1, 179, 3) := p_t1 (N := m_X11_within) rfl (p_mb2 (List.mem_of_getElem? (i := 197) rfl) rfl) cs_X11_within cp_X11_within rfl
theorem q_k0_27 : p_Q p_MT m_X11_init (81, 0, 9, 2) := p_t0 rfl (p_mb1 (List.mem_of_getElem? (i := 121) rfl) rfl) rfl
theorem q_k0_28 : p_Q p_MT m_X11_init (85, 0, 9, 8) := p_t0 rfl (p_mb1 (List.mem_of_getElem? (i := 137) rfl) rfl) rfl
theorem q_k0_29 : p_Q p_MT m_X11_init (89, 0, 10, 0) := p_t0 rfl (p_mb1 (List.mem_of_getElem? (i := 40) rfl) rfl) rfl
theorem q_k0_30 : p_Q p_MT m_X11_init (95, 0, 10, 1) := p_t0 rfl (p_mb1 (List.mem_of_getElem? (i := 44) rfl) rfl) rfl
theorem q_k0_31 : p_Q p_MT m_X11_init (98, 0, 9, 0) := p_t0 rfl (p_mb1 (List.mem_of_getElem? (i := 115) rfl) rfl) rfl
theorem q_k0_32 : p_Q p_MT m_X11_init (101, 0, 9, 1) := p_t0 rfl (p_mb1 (List.mem_of_getElem? (i := 119) rfl) rfl) rfl
theorem q_k0_33 : p_Q p_MT m_X11_init (104, 0, 9, 3) := p_t0 rfl (p_mb1 (List.mem_of_getElem? (i := 123) rfl) rfl) rfl
theorem q_k0_34 : p_Q p_MT m_X11_init (107, 0, 9, 4) := p_t0 rfl (p_mb1 (List.mem_of_getElem? (i := 127) rfl) rfl) rfl
theorem q_k0_35 : p_Q p_MT m_X11_init (110, 9, 26, 2) := p_t9 (N := m_X3_hasRoom) rfl (p_mb2 (List.mem_of_getElem? (i := 208) rfl) rfl) cv_X3_hasRoom cp_X3_hasRoom rfl rfl
theorem q_k0_36 : p_Q p_MT m_X11_init (114, 9, 27, 2) := p_t9 (N := m_X3_append) rfl (p_mb2 (List.mem_of_getElem? (i := 212) rfl) rfl) cv_X3_append cp_X3_append rfl rfl
theorem q_k0_37 : p_Q p_MT m_X11_init (118, 0, 3, 1) := p_t0 rfl (p_mb1 (List.mem_of_getElem? (i := 218) rfl) rfl) rfl
theorem q_k0_38 : p_Q p_MT m_X11_init (121, 0, 9, 5) := p_t0 rfl (p_mb1 (List.mem_of_getElem? (i := 129) rfl) rfl) rfl
theorem q_k0_39 : p_Q p_MT m_X11_init (124, 0, 9, 7) := p_t0 rfl (p_mb1 (List.mem_of_getElem? (i := 133) rfl) rfl) rfl
theorem q_k0_40 : p_Q p_MT m_X11_init (128, 9, 28, 1) := p_t9 (N := m_X3_read) rfl (p_mb2 (List.mem_of_getElem? (i := 224) rfl) rfl) cv_X3_read cp_X3_read rfl rfl
theorem q_k0_41 : p_Q p_MT m_X11_init (132, 0, 3, 2) := p_t0 rfl (p_mb1 (List.mem_of_getElem? (i := 220) rfl) rfl) rfl
theorem q_k0_42 : p_Q p_MT m_X11_init (135, 0, 3, 3) := p_t0 rfl (p_mb1 (List.mem_of_getElem? (i := 222) rfl) rfl) rfl
theorem q_k0_43 : p_Q p_MT m_X11_init (138, 9, 87, 2) := p_t9 (N := m_X9_textAt) rfl (p_mb3 (List.mem_of_getElem? (i := 129) rfl) rfl) cv_X9_textAt cp_X9_textAt rfl rfl
theorem q_k0_44 : p_Q p_MT m_X11_init (142, 0, 9, 6) := p_t0 rfl (p_mb1 (List.mem_of_getElem? (i := 131) rfl) rfl) rfl
theorem q_k0_45 : p_Q p_MT m_X11_init (145, 9, 151, 3) := p_t9 (N := m_X11_sawThrough) rfl (p_mb3 (List.mem_of_getElem? (i := 137) rfl) rfl) cv_X11_sawThrough cp_X11_sawThrough rfl rfl
theorem q_k0_46 : p_Q p_MT m_X11_init (149, 0, 4, 5) := p_t0 rfl (p_mb1 (List.mem_of_getElem? (i := 196) rfl) rfl) rfl
theorem q_k0_47 : p_Q p_MT m_X11_init (152, 9, 154, 3) := p_t9 (N := m_X11_layByHand) rfl (p_mb3 (List.mem_of_getElem? (i := 159) rfl) rfl) cv_X11_layByHand cp_X11_layByHand rfl rfl
theorem q_k0_48 : p_Q p_MT m_X11_init (156, 9, 91, 2) := p_t9 (N := m_X10_strawOn) rfl (p_mb3 (List.mem_of_getElem? (i := 179) rfl) rfl) cv_X10_strawOn cp_X10_strawOn rfl rfl
theorem q_k0_49 : p_Q p_MT m_X11_init (160, 0, 10, 3) := p_t0 rfl (p_mb1 (List.mem_of_getElem? (i := 50) rfl) rfl) rfl
theorem q_k0_50 : p_Q p_MT m_X11_init (163, 9, 156, 2) := p_t9 (N := m_X11_passDays) rfl (p_mb3 (List.mem_of_getElem? (i := 200) rfl) rfl) cv_X11_passDays cp_X11_passDays rfl rfl
theorem q_k0_51 : p_Q p_MT m_X11_init (166, 0, 10, 4) := p_t0 rfl (p_mb1 (List.mem_of_getElem? (i := 54) rfl) rfl) rfl
theorem q_k0_52 : p_Q p_MT m_X11_init (169, 9, 159, 2) := p_t9 (N := m_X11_sellByHand) rfl (p_mb4 (List.mem_of_getElem? (i := 49) rfl) rfl) cv_X11_sellByHand cp_X11_sellByHand rfl rfl
theorem q_k0_53 : p_Q p_MT m_X11_init (172, 0, 7, 3) := p_t0 rfl (p_mb3 (List.mem_of_getElem? (i := 108) rfl) rfl) rfl
theorem q_k0_54 : p_Q p_MT m_X11_init (175, 9, 150, 3) := p_t9 (N := m_X11_perform) rfl (p_mb4 (List.mem_of_getElem? (i := 102) rfl) rfl) cv_X11_perform cp_X11_perform rfl rfl
theorem q_k0_55 : p_Q p_MT m_X11_init (179, 0, 9, 9) := p_t0 rfl (p_mb1 (List.mem_of_getElem? (i := 140) rfl) rfl) rfl
theorem q_k0_56 : p_Q p_MT m_X11_init (183, 9, 74, 2) := p_t9 (N := m_X6_keep) rfl (p_mb3 (List.mem_of_getElem? (i := 145) rfl) rfl) cv_X6_keep cp_X6_keep rfl rfl
theorem q_k0_57 : p_Q p_MT m_X11_init (189, 0, 10, 6) := p_t0 rfl (p_mb1 (List.mem_of_getElem? (i := 59) rfl) rfl) rfl
theorem q_k0_58 : p_Q p_MT m_X11_init (192, 9, 97, 1) := p_t9 (N := m_X10_draw) rfl (p_mb4 (List.mem_of_getElem? (i := 40) rfl) rfl) cv_X10_draw cp_X10_draw rfl rfl
theorem q_k0_59 : p_Q p_MT m_X11_init (196, 9, 152, 3) := p_t9 (N := m_X11_canLay) rfl (p_mb3 (List.mem_of_getElem? (i := 163) rfl) rfl) cv_X11_canLay cp_X11_canLay rfl rfl
theorem q_k0_60 : p_Q p_MT m_X11_init (199, 9, 153, 3) := p_t9 (N := m_X11_layStraw) rfl (p_mb3 (List.mem_of_getElem? (i := 183) rfl) rfl) cv_X11_layStraw cp_X11_layStraw rfl rfl
theorem q_k0_61 : p_Q p_MT m_X11_init (203, 9, 157, 2) := p_t9 (N := m_X11_canSell) rfl (p_mb4 (List.mem_of_getElem? (i := 53) rfl) rfl) cv_X11_canSell cp_X11_canSell rfl rfl
theorem q_k0_62 : p_Q p_MT m_X11_init (206, 9, 158, 2) := p_t9 (N := m_X11_sellOff) rfl (p_mb4 (List.mem_of_getElem? (i := 57) rfl) rfl) cv_X11_sellOff cp_X11_sellOff rfl rfl
theorem q_k0_63 : p_Q p_MT m_X11_init (209, 9, 155, 1) := p_t9 (N := m_X11_passDay) rfl (p_mb3 (List.mem_of_getElem? (i := 204) rfl) rfl) cv_X11_passDay cp_X11_passDay rfl rfl
theorem q_k0_64 : p_Q p_MT m_X11_init (212, 0, 10, 5) := p_t0 rfl (p_mb1 (List.mem_of_getElem? (i := 56) rfl) rfl) rfl
theorem q_k0_65 : p_Q p_MT m_X11_init (215, 9, 75, 2) := p_t9 (N := m_X6_takeBack) rfl (p_mb4 (List.mem_of_getElem? (i := 120) rfl) rfl) cv_X6_takeBack cp_X6_takeBack rfl rfl
theorem q_k0_66 : p_Q p_MT m_X11_init (219, 0, 6, 2) := p_t0 rfl (p_mb1 (List.mem_of_getElem? (i := 88) rfl) rfl) rfl
theorem q_k0_67 : p_Q p_MT m_X11_init (220, 9, 160, 2) := p_t9 (N := m_X11_isBlock) rfl (p_mb3 (List.mem_of_getElem? (i := 167) rfl) rfl) cv_X11_isBlock cp_X11_isBlock rfl rfl
theorem q_k0_68 : p_Q p_MT m_X11_init (223, 9, 55, 2) := p_t9 (N := m_X4_leftOf) rfl (p_mb4 (List.mem_of_getElem? (i := 132) rfl) rfl) cv_X4_leftOf cp_X4_leftOf rfl rfl
theorem q_k0_69 : p_Q p_MT m_X11_init (226, 9, 56, 2) := p_t9 (N := m_X4_topOf) rfl (p_mb4 (List.mem_of_getElem? (i := 136) rfl) rfl) cv_X4_topOf cp_X4_topOf rfl rfl
theorem q_k0_70 : p_Q p_MT m_X11_init (229, 9, 57, 2) := p_t9 (N := m_X4_wideOf) rfl (p_mb4 (List.mem_of_getElem? (i := 140) rfl) rfl) cv_X4_wideOf cp_X4_wideOf rfl rfl
theorem q_k0_71 : p_Q p_MT m_X11_init (232, 9, 58, 2) := p_t9 (N := m_X4_highOf) rfl (p_mb4 (List.mem_of_getElem? (i := 144) rfl) rfl) cv_X4_highOf cp_X4_highOf rfl rfl
theorem q_k0_72 : p_Q p_MT m_X11_init (235, 9, 92, 2) := p_t9 (N := m_X10_meltedOf) rfl (p_mb3 (List.mem_of_getElem? (i := 187) rfl) rfl) cv_X10_meltedOf cp_X10_meltedOf rfl rfl
theorem q_k0_73 : p_Q p_MT m_X11_init (238, 9, 93, 2) := p_t9 (N := m_X10_isSold) rfl (p_mb3 (List.mem_of_getElem? (i := 171) rfl) rfl) cv_X10_isSold cp_X10_isSold rfl rfl
theorem q_k0_74 : p_Q p_MT m_X11_init (241, 1, 180, 1) := p_t1 (N := m_X11_bit) rfl (p_mb4 (List.mem_of_getElem? (i := 148) rfl) rfl) cs_X11_bit cp_X11_bit rfl
theorem q_k0_75 : p_Q p_MT m_X11_init (245, 9, 59, 2) := p_t9 (N := m_X4_edgeOf) rfl (p_mb4 (List.mem_of_getElem? (i := 149) rfl) rfl) cv_X4_edgeOf cp_X4_edgeOf rfl rfl
theorem q_k0_76 : p_Q p_MT m_X11_init (248, 9, 62, 3) := p_t9 (N := m_X4_sightsIn) rfl (p_mb4 (List.mem_of_getElem? (i := 150) rfl) rfl) cv_X4_sightsIn cp_X4_sightsIn rfl rfl
theorem q_k0_77 : p_Q p_MT m_X11_init (252, 9, 162, 2) := p_t9 (N := m_X11_meltsNow) rfl (p_mb4 (List.mem_of_getElem? (i := 151) rfl) rfl) cv_X11_meltsNow cp_X11_meltsNow rfl rfl
theorem q_k0_78 : p_Q p_MT m_X11_init (255, 9, 163, 2) := p_t9 (N := m_X11_sellsNow) rfl (p_mb4 (List.mem_of_getElem? (i := 163) rfl) rfl) cv_X11_sellsNow cp_X11_sellsNow rfl rfl
theorem q_k0_79 : p_Q p_MT m_X11_init (258, 9, 161, 2) := p_t9 (N := m_X11_isSight) rfl (p_mb4 (List.mem_of_getElem? (i := 175) rfl) rfl) cv_X11_isSight cp_X11_isSight rfl rfl
theorem q_k0_80 : p_Q p_MT m_X11_init (261, 9, 86, 3) := p_t9 (N := m_X9_sightPart) rfl (p_mb4 (List.mem_of_getElem? (i := 179) rfl) rfl) cv_X9_sightPart cp_X9_sightPart rfl rfl
theorem q_k0_81 : p_Q p_MT m_X11_init (265, 9, 167, 1) := p_t9 (N := m_X11_wholeSights) rfl (p_mb4 (List.mem_of_getElem? (i := 180) rfl) rfl) cv_X11_wholeSights cp_X11_wholeSights rfl rfl
theorem q_k0_82 : p_Q p_MT m_X11_init (268, 9, 164, 1) := p_t9 (N := m_X11_showingNow) rfl (p_mb4 (List.mem_of_getElem? (i := 188) rfl) rfl) cv_X11_showingNow cp_X11_showingNow rfl rfl
theorem q_k0_83 : p_Q p_MT m_X11_init (271, 0, 10, 2) := p_t0 rfl (p_mb1 (List.mem_of_getElem? (i := 47) rfl) rfl) rfl
theorem q_k0_84 : p_Q p_MT m_X11_init (274, 9, 168, 3) := p_t9 (N := m_X11_linesThrough) rfl (p_mb4 (List.mem_of_getElem? (i := 184) rfl) rfl) cv_X11_linesThrough cp_X11_linesThrough rfl rfl
theorem q_k0_85 : p_Q p_MT m_X11_init (278, 9, 169, 2) := p_t9 (N := m_X11_findLevelSets) rfl (p_mb4 (List.mem_of_getElem? (i := 208) rfl) rfl) cv_X11_findLevelSets cp_X11_findLevelSets rfl rfl
theorem q_k0_86 : p_Q p_MT m_X11_init (281, 1, 171, 2) := p_t1 (N := m_X11_narrowest) rfl (p_mb4 (List.mem_of_getElem? (i := 215) rfl) rfl) cs_X11_narrowest cp_X11_narrowest rfl
theorem q_k0_87 : p_Q p_MT m_X11_init (284, 9, 170, 3) := p_t9 (N := m_X11_levelSetFor) rfl (p_mb4 (List.mem_of_getElem? (i := 219) rfl) rfl) cv_X11_levelSetFor cp_X11_levelSetFor rfl rfl
theorem q_k0_88 : p_Q p_MT m_X11_init (287, 1, 335, 1) := p_t1 (N := m_J6_bitCount_0f7a4) rfl (p_mb4 (List.mem_of_getElem? (i := 218) rfl) rfl) cs_J6_bitCount_0f7a4 cp_J6_bitCount_0f7a4 rfl
theorem q_k0_89 : p_Q p_MT m_X11_init (292, 9, 165, 2) := p_t9 (N := m_X11_showingBehind) rfl (p_mb4 (List.mem_of_getElem? (i := 227) rfl) rfl) cv_X11_showingBehind cp_X11_showingBehind rfl rfl
theorem q_k0_90 : p_Q p_MT m_X11_init (295, 9, 1, 2) := p_t9 (N := m_X0_start) rfl (p_mb3 (List.mem_of_getElem? (i := 208) rfl) rfl) cv_X0_start cp_X0_start rfl rfl
theorem q_k0_91 : p_Q p_MT m_X11_init (298, 9, 2, 2) := p_t9 (N := m_X0_run) rfl (p_mb3 (List.mem_of_getElem? (i := 235) rfl) rfl) cv_X0_run cp_X0_run rfl rfl
theorem q_k0_92 : p_Q p_MT m_X11_init (301, 0, 0, 9) := p_t0 rfl (p_mb2 (List.mem_of_getElem? (i := 70) rfl) rfl) rfl
theorem q_k0_93 : p_Q p_MT m_X11_init (304, 9, 61, 4) := p_t9 (N := m_X4_cellsOf) rfl (p_mb4 (List.mem_of_getElem? (i := 235) rfl) rfl) cv_X4_cellsOf cp_X4_cellsOf rfl rfl
theorem q_k0_94 : p_Q p_MT m_X11_init (308, 9, 9, 3) := p_t9 (N := m_X0_daysUntilAbove) rfl (p_mb4 (List.mem_of_getElem? (i := 236) rfl) rfl) cv_X0_daysUntilAbove cp_X0_daysUntilAbove rfl rfl
theorem q_k0_95 : p_Q p_MT m_X11_init (311, 1, 339, 2) := p_t1 (N := m_J9_min_7cf53) rfl (p_mb4 (List.mem_of_getElem? (i := 97) rfl) rfl) cs_J9_min_7cf53 cp_J9_min_7cf53 rfl
theorem q_k0_96 : p_Q p_MT m_X11_init (316, 9, 172, 3) := p_t9 (N := m_X11_manyAhead) rfl (p_mb5 (List.mem_of_getElem? (i := 6) rfl) rfl) cv_X11_manyAhead cp_X11_manyAhead rfl rfl
theorem q_k0_97 : p_Q p_MT m_X11_init (319, 9, 60, 2) := p_t9 (N := m_X4_sizeOf) rfl (p_mb5 (List.mem_of_getElem? (i := 18) rfl) rfl) cv_X4_sizeOf cp_X4_sizeOf rfl rfl
theorem q_k0_98 : p_Q p_MT m_X11_init (322, 4, 0, -1) := ⟨rfl, p_a1 (p_mb5 (List.mem_of_getElem? (i := 31) rfl) rfl) (p_a0), p_b0⟩
theorem q_k0_99 : p_Q p_MT m_X11_init (324, 9, 20, 3) := p_t9 (N := m_X2_lasting) rfl (p_mb5 (List.mem_of_getElem? (i := 32) rfl) rfl) cv_X2_lasting cp_X2_lasting rfl rfl
theorem q_k0_100 : p_Q p_MT m_X11_init (327, 9, 19, 2) := p_t9 (N := m_X2_ofAll) rfl (p_mb5 (List.mem_of_getElem? (i := 60) rfl) rfl) cv_X2_ofAll cp_X2_ofAll rfl rfl
theorem q_k0_101 : p_Q p_MT m_X11_init (330, 1, 181, 2) := p_t1 (N := m_X11_divisor) rfl (p_mb5 (List.mem_of_getElem? (i := 61) rfl) rfl) cs_X11_divisor cp_X11_divisor rfl
theorem q_k0_102 : p_Q p_MT m_X11_init (333, 9, 173, 2) := p_t9 (N := m_X11_hasLikeBefore) rfl (p_mb5 (List.mem_of_getElem? (i := 72) rfl) rfl) cv_X11_hasLikeBefore cp_X11_hasLikeBefore rfl rfl
theorem q_k0_103 : p_Q p_MT m_X11_init (336, 0, 9, 10) := p_t0 rfl (p_mb1 (List.mem_of_getElem? (i := 143) rfl) rfl) rfl
theorem q_k0_104 : p_Q p_MT m_X11_init (340, 9, 80, 1) := p_t9 (N := m_X8_none) rfl (p_mb5 (List.mem_of_getElem? (i := 84) rfl) rfl) cv_X8_none cp_X8_none rfl rfl
theorem q_k0_105 : p_Q p_MT m_X11_init (345, 9, 81, 5) := p_t9 (N := m_X8_add) rfl (p_mb5 (List.mem_of_getElem? (i := 88) rfl) rfl) cv_X8_add cp_X8_add rfl rfl
theorem q_k0_106 : p_Q p_MT m_X11_init (349, 0, 8, 2) := p_t0 rfl (p_mb1 (List.mem_of_getElem? (i := 106) rfl) rfl) rfl
theorem q_k0_107 : p_Q p_MT m_X11_init (350, 9, 67, 1) := p_t9 (N := m_X5_settle) rfl (p_mb5 (List.mem_of_getElem? (i := 96) rfl) rfl) cv_X5_settle cp_X5_settle rfl rfl
theorem q_k0_108 : p_Q p_MT m_X11_init (353, 0, 5, 7) := p_t0 rfl (p_mb2 (List.mem_of_getElem? (i := 133) rfl) rfl) rfl
theorem q_k0_109 : p_Q p_MT m_X11_init (356, 9, 66, 2) := p_t9 (N := m_X5_blockFor) rfl (p_mb5 (List.mem_of_getElem? (i := 132) rfl) rfl) cv_X5_blockFor cp_X5_blockFor rfl rfl
theorem q_k0_110 : p_Q p_MT m_X11_init (359, 0, 9, 11) := p_t0 rfl (p_mb1 (List.mem_of_getElem? (i := 145) rfl) rfl) rfl
theorem q_k0_111 : p_Q p_MT m_X11_init (362, 9, 174, 4) := p_t9 (N := m_X11_mayLie) rfl (p_mb5 (List.mem_of_getElem? (i := 144) rfl) rfl) cv_X11_mayLie cp_X11_mayLie rfl rfl
theorem q_k0_112 : p_Q p_MT m_X11_init (365, 0, 9, 12) := p_t0 rfl (p_mb1 (List.mem_of_getElem? (i := 147) rfl) rfl) rfl
theorem q_k0_113 : p_Q p_MT m_X11_init (368, 9, 175, 1) := p_t9 (N := m_X11_winner) rfl (p_mb5 (List.mem_of_getElem? (i := 157) rfl) rfl) cv_X11_winner cp_X11_winner rfl rfl
theorem q_k0_114 : p_Q p_MT m_X11_init (371, 9, 176, 2) := p_t9 (N := m_X11_highestBut) rfl (p_mb5 (List.mem_of_getElem? (i := 161) rfl) rfl) cv_X11_highestBut cp_X11_highestBut rfl rfl
theorem q_k0_115 : p_Q p_MT m_X11_init (374, 9, 82, 3) := p_t9 (N := m_X8_part) rfl (p_mb5 (List.mem_of_getElem? (i := 148) rfl) rfl) cv_X8_part cp_X8_part rfl rfl
theorem q_k0_116 : p_Q p_MT m_X11_init (377, 1, 337, 2) := p_t1 (N := m_J9_max_7cf53) rfl (p_mb5 (List.mem_of_getElem? (i := 67) rfl) rfl) cs_J9_max_7cf53 cp_J9_max_7cf53 rfl
theorem q_k0_117 : p_Q p_MT m_X11_init (380, 9, 166, 2) := p_t9 (N := m_X11_sightsOf) rfl (p_mb5 (List.mem_of_getElem? (i := 177) rfl) rfl) cv_X11_sightsOf cp_X11_sightsOf rfl rfl
theorem q_k0_118 : p_Q p_MT m_X11_init (383, 0, 9, 13) := p_t0 rfl (p_mb1 (List.mem_of_getElem? (i := 149) rfl) rfl) rfl
theorem q_k0_119 : p_Q p_MT m_X11_init (386, 3, 0, -100000) := ⟨rfl, p_a1 (p_mb5 (List.mem_of_getElem? (i := 189) rfl) rfl) (p_a0), p_b0⟩
theorem q_k0_120 : p_Q p_MT m_X11_init (387, 9, 177, 3) := p_t9 (N := m_X11_bestPlay) rfl (p_mb5 (List.mem_of_getElem? (i := 194) rfl) rfl) cv_X11_bestPlay cp_X11_bestPlay rfl rfl
theorem q_k0_121 : p_Q p_MT m_X11_init (390, 9, 8, 4) := p_t9 (N := m_X0_penceBehind) rfl (p_mb5 (List.mem_of_getElem? (i := 203) rfl) rfl) cv_X0_penceBehind cp_X0_penceBehind rfl rfl
theorem q_k0_122 : p_Q p_MT m_X11_init (394, 0, 9, 14) := p_t0 rfl (p_mb1 (List.mem_of_getElem? (i := 151) rfl) rfl) rfl
theorem q_k0_123 : p_Q p_MT m_X11_init (397, 9, 178, 2) := p_t9 (N := m_X11_allSoBy) rfl (p_mb5 (List.mem_of_getElem? (i := 216) rfl) rfl) cv_X11_allSoBy cp_X11_allSoBy rfl rfl
theorem q_k0_124 : p_Q p_MT m_X11_init (401, 9, 85, 2) := p_t9 (N := m_X9_become) rfl (p_mb5 (List.mem_of_getElem? (i := 225) rfl) rfl) cv_X9_become cp_X9_become rfl rfl
theorem q_k0_125 : p_Q p_MT m_X11_init (404, 9, 78, 3) := p_t9 (N := m_X7_part) rfl (p_mb4 (List.mem_of_getElem? (i := 106) rfl) rfl) cv_X7_part cp_X7_part rfl rfl
theorem q_k0_126 : p_Q p_MT m_X11_init (405, 9, 103, 3) := p_t9 (N := m_X11_pond) rfl (p_mb4 (List.mem_of_getElem? (i := 110) rfl) rfl) cv_X11_pond cp_X11_pond rfl rfl
theorem q_k0_127 : p_Q p_MT m_X11_init (408, 9, 104, 7) := p_t9 (N := m_X11_sight) rfl (p_mb4 (List.mem_of_getElem? (i := 111) rfl) rfl) cv_X11_sight cp_X11_sight rfl rfl
theorem q_k0_128 : p_Q p_MT m_X11_init (412, 9, 96, 1) := p_t9 (N := m_X10_isUntouched) rfl (p_mb3 (List.mem_of_getElem? (i := 141) rfl) rfl) cv_X10_isUntouched cp_X10_isUntouched rfl rfl
theorem q_k0_129 : p_Q p_MT m_X11_init (416, 9, 95, 5) := p_t9 (N := m_X10_put) rfl (p_mb3 (List.mem_of_getElem? (i := 191) rfl) rfl) cv_X10_put cp_X10_put rfl rfl
theorem q_k0_130 : p_Q p_MT m_X11_init (420, 0, 0, 8) := p_t0 rfl (p_mb2 (List.mem_of_getElem? (i := 66) rfl) rfl) rfl
theorem q_k0_131 : p_Q p_MT m_X11_init (423, 0, 0, 10) := p_t0 rfl (p_mb2 (List.mem_of_getElem? (i := 73) rfl) rfl) rfl
theorem q_k0_132 : p_Q p_MT m_X11_init (426, 9, 7, 1) := p_t9 (N := m_X0_sellsAt) rfl (p_mb4 (List.mem_of_getElem? (i := 61) rfl) rfl) cv_X0_sellsAt cp_X0_sellsAt rfl rfl
theorem q_k0_133 : p_Q p_MT m_X11_init (429, 9, 5, 1) := p_t9 (N := m_X0_meltsAt) rfl (p_mb4 (List.mem_of_getElem? (i := 155) rfl) rfl) cv_X0_meltsAt cp_X0_meltsAt rfl rfl
theorem q_k0_134 : p_Q p_MT m_X11_init (432, 9, 64, 4) := p_t9 (N := m_X4_showingIn) rfl (p_mb4 (List.mem_of_getElem? (i := 192) rfl) rfl) cv_X4_showingIn cp_X4_showingIn rfl rfl
theorem q_k0_135 : p_Q p_MT m_X11_init (435, 1, 341, 2) := p_t1 (N := m_J7_fill_53178) rfl (p_mb4 (List.mem_of_getElem? (i := 212) rfl) rfl) cs_J7_fill_53178 cp_J7_fill_53178 rfl
theorem q_k0_136 : p_Q p_MT m_X11_init (441, 9, 94, 3) := p_t9 (N := m_X10_isLike) rfl (p_mb5 (List.mem_of_getElem? (i := 76) rfl) rfl) cv_X10_isLike cp_X10_isLike rfl rfl
theorem q_k0_137 : p_Q p_MT m_X11_init (444, 7, 0, 0) := ⟨rfl, p_a1 (p_mb5 (List.mem_of_getElem? (i := 198) rfl) rfl) (p_a1 (p_mb3 (List.mem_of_getElem? (i := 85) rfl) rfl) (p_a1 (p_mb3 (List.mem_of_getElem? (i := 84) rfl) rfl) (p_a1 (p_mb1 (List.mem_of_getElem? (i := 15) rfl) rfl) (p_a0)))), p_b0⟩
theorem q_k0_138 : p_Q p_MT m_X11_init (450, 9, 6, 4) := p_t9 (N := m_X0_meltsUnder) rfl (p_mb5 (List.mem_of_getElem? (i := 220) rfl) rfl) cv_X0_meltsUnder cp_X0_meltsUnder rfl rfl
theorem q_k0_139 : p_Q p_MT m_X11_init (454, 1, 336, 1) := p_t1 (N := m_J9_abs_0f7a4) rfl (p_mb5 (List.mem_of_getElem? (i := 64) rfl) rfl) cs_J9_abs_0f7a4 cp_J9_abs_0f7a4 rfl
theorem w_k0_0 : ∀ q ∈ ([(1, 8, 0, 0), (7, 2, 9, 0), (9, 10, 84, 1), (10, 0, 11, 0), (16, 0, 11, 1), (19, 2, 4, 0), (21, 10, 51, 1), (22, 0, 11, 2), (26, 2, 3, 0), (28, 10, 25, 1), (29, 0, 11, 3), (33, 2, 0, 0), (35, 2, 1, 0), (37, 10, 10, 1), (38, 10, 0, 4), (41, 0, 11, 4)] : List p_P), p_Q p_MT m_X11_init q := List.forall_mem_cons.mpr ⟨q_k0_0, List.forall_mem_cons.mpr ⟨q_k0_1, List.forall_mem_cons.mpr ⟨q_k0_2, List.forall_mem_cons.mpr ⟨q_k0_3, List.forall_mem_cons.mpr ⟨q_k0_4, List.forall_mem_cons.mpr ⟨q_k0_5, List.forall_mem_cons.mpr ⟨q_k0_6, List.forall_mem_cons.mpr ⟨q_k0_7, List.forall_mem_cons.mpr ⟨q_k0_8, List.forall_mem_cons.mpr ⟨q_k0_9, List.forall_mem_cons.mpr ⟨q_k0_10, List.forall_mem_cons.mpr ⟨q_k0_11, List.forall_mem_cons.mpr ⟨q_k0_12, List.forall_mem_cons.mpr ⟨q_k0_13, List.forall_mem_cons.mpr ⟨q_k0_14, List.forall_mem_cons.mpr ⟨q_k0_15, fun _ h => absurd h List.not_mem_nil⟩⟩⟩⟩⟩⟩⟩⟩⟩⟩⟩⟩⟩⟩⟩⟩
theorem w_k0_1 : ∀ q ∈ ([(45, 2, 2, 0), (47, 10, 18, 2), (50, 0, 11, 5), (54, 2, 5, 0), (56, 10, 65, 4), (59, 0, 11, 6), (63, 0, 11, 7), (67, 0, 11, 8), (70, 0, 11, 9), (73, 9, 52, 2), (77, 1, 179, 3), (81, 0, 9, 2), (85, 0, 9, 8), (89, 0, 10, 0), (95, 0, 10, 1), (98, 0, 9, 0)] : List p_P), p_Q p_MT m_X11_init q := List.forall_mem_cons.mpr ⟨q_k0_16, List.forall_mem_cons.mpr ⟨q_k0_17, List.forall_mem_cons.mpr ⟨q_k0_18, List.forall_mem_cons.mpr ⟨q_k0_19, List.forall_mem_cons.mpr ⟨q_k0_20, List.forall_mem_cons.mpr ⟨q_k0_21, List.forall_mem_cons.mpr ⟨q_k0_22, List.forall_mem_cons.mpr ⟨q_k0_23, List.forall_mem_cons.mpr ⟨q_k0_24, List.forall_mem_cons.mpr ⟨q_k0_25, List.forall_mem_cons.mpr ⟨q_k0_26, List.forall_mem_cons.mpr ⟨q_k0_27, List.forall_mem_cons.mpr ⟨q_k0_28, List.forall_mem_cons.mpr ⟨q_k0_29, List.forall_mem_cons.mpr ⟨q_k0_30, List.forall_mem_cons.mpr ⟨q_k0_31, fun _ h => absurd h List.not_mem_nil⟩⟩⟩⟩⟩⟩⟩⟩⟩⟩⟩⟩⟩⟩⟩⟩
theorem w_k0_2 : ∀ q ∈ ([(101, 0, 9, 1), (104, 0, 9, 3), (107, 0, 9, 4), (110, 9, 26, 2), (114, 9, 27, 2), (118, 0, 3, 1), (121, 0, 9, 5), (124, 0, 9, 7), (128, 9, 28, 1), (132, 0, 3, 2), (135, 0, 3, 3), (138, 9, 87, 2), (142, 0, 9, 6), (145, 9, 151, 3), (149, 0, 4, 5), (152, 9, 154, 3)] : List p_P), p_Q p_MT m_X11_init q := List.forall_mem_cons.mpr ⟨q_k0_32, List.forall_mem_cons.mpr ⟨q_k0_33, List.forall_mem_cons.mpr ⟨q_k0_34, List.forall_mem_cons.mpr ⟨q_k0_35, List.forall_mem_cons.mpr ⟨q_k0_36, List.forall_mem_cons.mpr ⟨q_k0_37, List.forall_mem_cons.mpr ⟨q_k0_38, List.forall_mem_cons.mpr ⟨q_k0_39, List.forall_mem_cons.mpr ⟨q_k0_40, List.forall_mem_cons.mpr ⟨q_k0_41, List.forall_mem_cons.mpr ⟨q_k0_42, List.forall_mem_cons.mpr ⟨q_k0_43, List.forall_mem_cons.mpr ⟨q_k0_44, List.forall_mem_cons.mpr ⟨q_k0_45, List.forall_mem_cons.mpr ⟨q_k0_46, List.forall_mem_cons.mpr ⟨q_k0_47, fun _ h => absurd h List.not_mem_nil⟩⟩⟩⟩⟩⟩⟩⟩⟩⟩⟩⟩⟩⟩⟩⟩
theorem w_k0_3 : ∀ q ∈ ([(156, 9, 91, 2), (160, 0, 10, 3), (163, 9, 156, 2), (166, 0, 10, 4), (169, 9, 159, 2), (172, 0, 7, 3), (175, 9, 150, 3), (179, 0, 9, 9), (183, 9, 74, 2), (189, 0, 10, 6), (192, 9, 97, 1), (196, 9, 152, 3), (199, 9, 153, 3), (203, 9, 157, 2), (206, 9, 158, 2), (209, 9, 155, 1)] : List p_P), p_Q p_MT m_X11_init q := List.forall_mem_cons.mpr ⟨q_k0_48, List.forall_mem_cons.mpr ⟨q_k0_49, List.forall_mem_cons.mpr ⟨q_k0_50, List.forall_mem_cons.mpr ⟨q_k0_51, List.forall_mem_cons.mpr ⟨q_k0_52, List.forall_mem_cons.mpr ⟨q_k0_53, List.forall_mem_cons.mpr ⟨q_k0_54, List.forall_mem_cons.mpr ⟨q_k0_55, List.forall_mem_cons.mpr ⟨q_k0_56, List.forall_mem_cons.mpr ⟨q_k0_57, List.forall_mem_cons.mpr ⟨q_k0_58, List.forall_mem_cons.mpr ⟨q_k0_59, List.forall_mem_cons.mpr ⟨q_k0_60, List.forall_mem_cons.mpr ⟨q_k0_61, List.forall_mem_cons.mpr ⟨q_k0_62, List.forall_mem_cons.mpr ⟨q_k0_63, fun _ h => absurd h List.not_mem_nil⟩⟩⟩⟩⟩⟩⟩⟩⟩⟩⟩⟩⟩⟩⟩⟩
theorem w_k0_4 : ∀ q ∈ ([(212, 0, 10, 5), (215, 9, 75, 2), (219, 0, 6, 2), (220, 9, 160, 2), (223, 9, 55, 2), (226, 9, 56, 2), (229, 9, 57, 2), (232, 9, 58, 2), (235, 9, 92, 2), (238, 9, 93, 2), (241, 1, 180, 1), (245, 9, 59, 2), (248, 9, 62, 3), (252, 9, 162, 2), (255, 9, 163, 2), (258, 9, 161, 2)] : List p_P), p_Q p_MT m_X11_init q := List.forall_mem_cons.mpr ⟨q_k0_64, List.forall_mem_cons.mpr ⟨q_k0_65, List.forall_mem_cons.mpr ⟨q_k0_66, List.forall_mem_cons.mpr ⟨q_k0_67, List.forall_mem_cons.mpr ⟨q_k0_68, List.forall_mem_cons.mpr ⟨q_k0_69, List.forall_mem_cons.mpr ⟨q_k0_70, List.forall_mem_cons.mpr ⟨q_k0_71, List.forall_mem_cons.mpr ⟨q_k0_72, List.forall_mem_cons.mpr ⟨q_k0_73, List.forall_mem_cons.mpr ⟨q_k0_74, List.forall_mem_cons.mpr ⟨q_k0_75, List.forall_mem_cons.mpr ⟨q_k0_76, List.forall_mem_cons.mpr ⟨q_k0_77, List.forall_mem_cons.mpr ⟨q_k0_78, List.forall_mem_cons.mpr ⟨q_k0_79, fun _ h => absurd h List.not_mem_nil⟩⟩⟩⟩⟩⟩⟩⟩⟩⟩⟩⟩⟩⟩⟩⟩
theorem w_k0_5 : ∀ q ∈ ([(261, 9, 86, 3), (265, 9, 167, 1), (268, 9, 164, 1), (271, 0, 10, 2), (274, 9, 168, 3), (278, 9, 169, 2), (281, 1, 171, 2), (284, 9, 170, 3), (287, 1, 335, 1), (292, 9, 165, 2), (295, 9, 1, 2), (298, 9, 2, 2), (301, 0, 0, 9), (304, 9, 61, 4), (308, 9, 9, 3), (311, 1, 339, 2)] : List p_P), p_Q p_MT m_X11_init q := List.forall_mem_cons.mpr ⟨q_k0_80, List.forall_mem_cons.mpr ⟨q_k0_81, List.forall_mem_cons.mpr ⟨q_k0_82, List.forall_mem_cons.mpr ⟨q_k0_83, List.forall_mem_cons.mpr ⟨q_k0_84, List.forall_mem_cons.mpr ⟨q_k0_85, List.forall_mem_cons.mpr ⟨q_k0_86, List.forall_mem_cons.mpr ⟨q_k0_87, List.forall_mem_cons.mpr ⟨q_k0_88, List.forall_mem_cons.mpr ⟨q_k0_89, List.forall_mem_cons.mpr ⟨q_k0_90, List.forall_mem_cons.mpr ⟨q_k0_91, List.forall_mem_cons.mpr ⟨q_k0_92, List.forall_mem_cons.mpr ⟨q_k0_93, List.forall_mem_cons.mpr ⟨q_k0_94, List.forall_mem_cons.mpr ⟨q_k0_95, fun _ h => absurd h List.not_mem_nil⟩⟩⟩⟩⟩⟩⟩⟩⟩⟩⟩⟩⟩⟩⟩⟩
theorem w_k0_6 : ∀ q ∈ ([(316, 9, 172, 3), (319, 9, 60, 2), (322, 4, 0, -1), (324, 9, 20, 3), (327, 9, 19, 2), (330, 1, 181, 2), (333, 9, 173, 2), (336, 0, 9, 10), (340, 9, 80, 1), (345, 9, 81, 5), (349, 0, 8, 2), (350, 9, 67, 1), (353, 0, 5, 7), (356, 9, 66, 2), (359, 0, 9, 11), (362, 9, 174, 4)] : List p_P), p_Q p_MT m_X11_init q := List.forall_mem_cons.mpr ⟨q_k0_96, List.forall_mem_cons.mpr ⟨q_k0_97, List.forall_mem_cons.mpr ⟨q_k0_98, List.forall_mem_cons.mpr ⟨q_k0_99, List.forall_mem_cons.mpr ⟨q_k0_100, List.forall_mem_cons.mpr ⟨q_k0_101, List.forall_mem_cons.mpr ⟨q_k0_102, List.forall_mem_cons.mpr ⟨q_k0_103, List.forall_mem_cons.mpr ⟨q_k0_104, List.forall_mem_cons.mpr ⟨q_k0_105, List.forall_mem_cons.mpr ⟨q_k0_106, List.forall_mem_cons.mpr ⟨q_k0_107, List.forall_mem_cons.mpr ⟨q_k0_108, List.forall_mem_cons.mpr ⟨q_k0_109, List.forall_mem_cons.mpr ⟨q_k0_110, List.forall_mem_cons.mpr ⟨q_k0_111, fun _ h => absurd h List.not_mem_nil⟩⟩⟩⟩⟩⟩⟩⟩⟩⟩⟩⟩⟩⟩⟩⟩
theorem w_k0_7 : ∀ q ∈ ([(365, 0, 9, 12), (368, 9, 175, 1), (371, 9, 176, 2), (374, 9, 82, 3), (377, 1, 337, 2), (380, 9, 166, 2), (383, 0, 9, 13), (386, 3, 0, -100000), (387, 9, 177, 3), (390, 9, 8, 4), (394, 0, 9, 14), (397, 9, 178, 2), (401, 9, 85, 2), (404, 9, 78, 3), (405, 9, 103, 3), (408, 9, 104, 7)] : List p_P), p_Q p_MT m_X11_init q := List.forall_mem_cons.mpr ⟨q_k0_112, List.forall_mem_cons.mpr ⟨q_k0_113, List.forall_mem_cons.mpr ⟨q_k0_114, List.forall_mem_cons.mpr ⟨q_k0_115, List.forall_mem_cons.mpr ⟨q_k0_116, List.forall_mem_cons.mpr ⟨q_k0_117, List.forall_mem_cons.mpr ⟨q_k0_118, List.forall_mem_cons.mpr ⟨q_k0_119, List.forall_mem_cons.mpr ⟨q_k0_120, List.forall_mem_cons.mpr ⟨q_k0_121, List.forall_mem_cons.mpr ⟨q_k0_122, List.forall_mem_cons.mpr ⟨q_k0_123, List.forall_mem_cons.mpr ⟨q_k0_124, List.forall_mem_cons.mpr ⟨q_k0_125, List.forall_mem_cons.mpr ⟨q_k0_126, List.forall_mem_cons.mpr ⟨q_k0_127, fun _ h => absurd h List.not_mem_nil⟩⟩⟩⟩⟩⟩⟩⟩⟩⟩⟩⟩⟩⟩⟩⟩
theorem w_k0_8 : ∀ q ∈ ([(412, 9, 96, 1), (416, 9, 95, 5), (420, 0, 0, 8), (423, 0, 0, 10), (426, 9, 7, 1), (429, 9, 5, 1), (432, 9, 64, 4), (435, 1, 341, 2), (441, 9, 94, 3), (444, 7, 0, 0), (450, 9, 6, 4), (454, 1, 336, 1)] : List p_P), p_Q p_MT m_X11_init q := List.forall_mem_cons.mpr ⟨q_k0_128, List.forall_mem_cons.mpr ⟨q_k0_129, List.forall_mem_cons.mpr ⟨q_k0_130, List.forall_mem_cons.mpr ⟨q_k0_131, List.forall_mem_cons.mpr ⟨q_k0_132, List.forall_mem_cons.mpr ⟨q_k0_133, List.forall_mem_cons.mpr ⟨q_k0_134, List.forall_mem_cons.mpr ⟨q_k0_135, List.forall_mem_cons.mpr ⟨q_k0_136, List.forall_mem_cons.mpr ⟨q_k0_137, List.forall_mem_cons.mpr ⟨q_k0_138, List.forall_mem_cons.mpr ⟨q_k0_139, fun _ h => absurd h List.not_mem_nil⟩⟩⟩⟩⟩⟩⟩⟩⟩⟩⟩⟩
theorem w_k0 : ∀ q ∈ P_k0, p_Q p_MT m_X11_init q := by
  have h : P_k0 = [(1, 8, 0, 0), (7, 2, 9, 0), (9, 10, 84, 1), (10, 0, 11, 0), (16, 0, 11, 1), (19, 2, 4, 0), (21, 10, 51, 1), (22, 0, 11, 2), (26, 2, 3, 0), (28, 10, 25, 1), (29, 0, 11, 3), (33, 2, 0, 0), (35, 2, 1, 0), (37, 10, 10, 1), (38, 10, 0, 4), (41, 0, 11, 4)] ++ ([(45, 2, 2, 0), (47, 10, 18, 2), (50, 0, 11, 5), (54, 2, 5, 0), (56, 10, 65, 4), (59, 0, 11, 6), (63, 0, 11, 7), (67, 0, 11, 8), (70, 0, 11, 9), (73, 9, 52, 2), (77, 1, 179, 3), (81, 0, 9, 2), (85, 0, 9, 8), (89, 0, 10, 0), (95, 0, 10, 1), (98, 0, 9, 0)] ++ ([(101, 0, 9, 1), (104, 0, 9, 3), (107, 0, 9, 4), (110, 9, 26, 2), (114, 9, 27, 2), (118, 0, 3, 1), (121, 0, 9, 5), (124, 0, 9, 7), (128, 9, 28, 1), (132, 0, 3, 2), (135, 0, 3, 3), (138, 9, 87, 2), (142, 0, 9, 6), (145, 9, 151, 3), (149, 0, 4, 5), (152, 9, 154, 3)] ++ ([(156, 9, 91, 2), (160, 0, 10, 3), (163, 9, 156, 2), (166, 0, 10, 4), (169, 9, 159, 2), (172, 0, 7, 3), (175, 9, 150, 3), (179, 0, 9, 9), (183, 9, 74, 2), (189, 0, 10, 6), (192, 9, 97, 1), (196, 9, 152, 3), (199, 9, 153, 3), (203, 9, 157, 2), (206, 9, 158, 2), (209, 9, 155, 1)] ++ ([(212, 0, 10, 5), (215, 9, 75, 2), (219, 0, 6, 2), (220, 9, 160, 2), (223, 9, 55, 2), (226, 9, 56, 2), (229, 9, 57, 2), (232, 9, 58, 2), (235, 9, 92, 2), (238, 9, 93, 2), (241, 1, 180, 1), (245, 9, 59, 2), (248, 9, 62, 3), (252, 9, 162, 2), (255, 9, 163, 2), (258, 9, 161, 2)] ++ ([(261, 9, 86, 3), (265, 9, 167, 1), (268, 9, 164, 1), (271, 0, 10, 2), (274, 9, 168, 3), (278, 9, 169, 2), (281, 1, 171, 2), (284, 9, 170, 3), (287, 1, 335, 1), (292, 9, 165, 2), (295, 9, 1, 2), (298, 9, 2, 2), (301, 0, 0, 9), (304, 9, 61, 4), (308, 9, 9, 3), (311, 1, 339, 2)] ++ ([(316, 9, 172, 3), (319, 9, 60, 2), (322, 4, 0, -1), (324, 9, 20, 3), (327, 9, 19, 2), (330, 1, 181, 2), (333, 9, 173, 2), (336, 0, 9, 10), (340, 9, 80, 1), (345, 9, 81, 5), (349, 0, 8, 2), (350, 9, 67, 1), (353, 0, 5, 7), (356, 9, 66, 2), (359, 0, 9, 11), (362, 9, 174, 4)] ++ ([(365, 0, 9, 12), (368, 9, 175, 1), (371, 9, 176, 2), (374, 9, 82, 3), (377, 1, 337, 2), (380, 9, 166, 2), (383, 0, 9, 13), (386, 3, 0, -100000), (387, 9, 177, 3), (390, 9, 8, 4), (394, 0, 9, 14), (397, 9, 178, 2), (401, 9, 85, 2), (404, 9, 78, 3), (405, 9, 103, 3), (408, 9, 104, 7)] ++ ([(412, 9, 96, 1), (416, 9, 95, 5), (420, 0, 0, 8), (423, 0, 0, 10), (426, 9, 7, 1), (429, 9, 5, 1), (432, 9, 64, 4), (435, 1, 341, 2), (441, 9, 94, 3), (444, 7, 0, 0), (450, 9, 6, 4), (454, 1, 336, 1)])))))))) := rfl
  rw [h]
  exact List.forall_mem_append.mpr ⟨w_k0_0, List.forall_mem_append.mpr ⟨w_k0_1, List.forall_mem_append.mpr ⟨w_k0_2, List.forall_mem_append.mpr ⟨w_k0_3, List.forall_mem_append.mpr ⟨w_k0_4, List.forall_mem_append.mpr ⟨w_k0_5, List.forall_mem_append.mpr ⟨w_k0_6, List.forall_mem_append.mpr ⟨w_k0_7, w_k0_8⟩⟩⟩⟩⟩⟩⟩⟩
theorem q_k1_0 : p_Q p_MT m_X0_init (3, 8, 0, 0) := ⟨rfl, p_a1 (p_mb2 (List.mem_of_getElem? (i := 53) rfl) rfl) (p_a1 (p_mb1 (List.mem_of_getElem? (i := 24) rfl) rfl) (p_a1 (p_mb1 (List.mem_of_getElem? (i := 25) rfl) rfl) (p_a0))), p_b0⟩
theorem q_k1_1 : p_Q p_MT m_X0_init (9, 0, 0, 0) := p_t0 rfl (p_mb2 (List.mem_of_getElem? (i := 54) rfl) rfl) rfl
theorem q_k1_2 : p_Q p_MT m_X0_init (15, 0, 0, 1) := p_t0 rfl (p_mb2 (List.mem_of_getElem? (i := 55) rfl) rfl) rfl
theorem q_k1_3 : p_Q p_MT m_X0_init (19, 0, 0, 2) := p_t0 rfl (p_mb2 (List.mem_of_getElem? (i := 56) rfl) rfl) rfl
theorem q_k1_4 : p_Q p_MT m_X0_init (23, 0, 9, 8) := p_t0 rfl (p_mb1 (List.mem_of_getElem? (i := 135) rfl) rfl) rfl
theorem q_k1_5 : p_Q p_MT m_X0_init (29, 0, 0, 4) := p_t0 rfl (p_mb2 (List.mem_of_getElem? (i := 58) rfl) rfl) rfl
theorem q_k1_6 : p_Q p_MT m_X0_init (33, 9, 88, 1) := p_t9 (N := m_X9_ruler) rfl (p_mb3 (List.mem_of_getElem? (i := 212) rfl) rfl) cv_X9_ruler cp_X9_ruler rfl rfl
theorem q_k1_7 : p_Q p_MT m_X0_init (37, 0, 0, 3) := p_t0 rfl (p_mb2 (List.mem_of_getElem? (i := 57) rfl) rfl) rfl
theorem q_k1_8 : p_Q p_MT m_X0_init (41, 0, 10, 6) := p_t0 rfl (p_mb1 (List.mem_of_getElem? (i := 58) rfl) rfl) rfl
theorem q_k1_9 : p_Q p_MT m_X0_init (46, 0, 0, 5) := p_t0 rfl (p_mb2 (List.mem_of_getElem? (i := 59) rfl) rfl) rfl
theorem q_k1_10 : p_Q p_MT m_X0_init (47, 0, 10, 3) := p_t0 rfl (p_mb1 (List.mem_of_getElem? (i := 48) rfl) rfl) rfl
theorem q_k1_11 : p_Q p_MT m_X0_init (50, 0, 0, 6) := p_t0 rfl (p_mb2 (List.mem_of_getElem? (i := 60) rfl) rfl) rfl
theorem q_k1_12 : p_Q p_MT m_X0_init (51, 0, 10, 4) := p_t0 rfl (p_mb1 (List.mem_of_getElem? (i := 52) rfl) rfl) rfl
theorem q_k1_13 : p_Q p_MT m_X0_init (54, 0, 0, 7) := p_t0 rfl (p_mb2 (List.mem_of_getElem? (i := 62) rfl) rfl) rfl
theorem q_k1_14 : p_Q p_MT m_X0_init (55, 9, 91, 2) := p_t9 (N := m_X10_strawOn) rfl (p_mb3 (List.mem_of_getElem? (i := 217) rfl) rfl) cv_X10_strawOn cp_X10_strawOn rfl rfl
theorem q_k1_15 : p_Q p_MT m_X0_init (59, 0, 0, 8) := p_t0 rfl (p_mb2 (List.mem_of_getElem? (i := 64) rfl) rfl) rfl
theorem q_k1_16 : p_Q p_MT m_X0_init (62, 9, 92, 2) := p_t9 (N := m_X10_meltedOf) rfl (p_mb3 (List.mem_of_getElem? (i := 218) rfl) rfl) cv_X10_meltedOf cp_X10_meltedOf rfl rfl
theorem q_k1_17 : p_Q p_MT m_X0_init (65, 0, 0, 9) := p_t0 rfl (p_mb2 (List.mem_of_getElem? (i := 67) rfl) rfl) rfl
theorem q_k1_18 : p_Q p_MT m_X0_init (68, 9, 93, 2) := p_t9 (N := m_X10_isSold) rfl (p_mb3 (List.mem_of_getElem? (i := 219) rfl) rfl) cv_X10_isSold cp_X10_isSold rfl rfl
theorem q_k1_19 : p_Q p_MT m_X0_init (72, 0, 0, 10) := p_t0 rfl (p_mb2 (List.mem_of_getElem? (i := 71) rfl) rfl) rfl
theorem q_k1_20 : p_Q p_MT m_X0_init (76, 9, 60, 2) := p_t9 (N := m_X4_sizeOf) rfl (p_mb3 (List.mem_of_getElem? (i := 220) rfl) rfl) cv_X4_sizeOf cp_X4_sizeOf rfl rfl
theorem q_k1_21 : p_Q p_MT m_X0_init (81, 9, 59, 2) := p_t9 (N := m_X4_edgeOf) rfl (p_mb3 (List.mem_of_getElem? (i := 227) rfl) rfl) cv_X4_edgeOf cp_X4_edgeOf rfl rfl
theorem q_k1_22 : p_Q p_MT m_X0_init (84, 9, 11, 3) := p_t9 (N := m_X1_tellBlock) rfl (p_mb3 (List.mem_of_getElem? (i := 231) rfl) rfl) cv_X1_tellBlock cp_X1_tellBlock rfl rfl
theorem q_k1_23 : p_Q p_MT m_X0_init (90, 9, 3, 5) := p_t9 (N := m_X0_meltedFrom) rfl (p_mb3 (List.mem_of_getElem? (i := 239) rfl) rfl) cv_X0_meltedFrom cp_X0_meltedFrom rfl rfl
theorem q_k1_24 : p_Q p_MT m_X0_init (94, 1, 98, 1) := p_t1 (N := m_X10_behind) rfl (p_mb4 (List.mem_of_getElem? (i := 28) rfl) rfl) cs_X10_behind cp_X10_behind rfl
theorem q_k1_25 : p_Q p_MT m_X0_init (97, 9, 4, 5) := p_t9 (N := m_X0_strawFrom) rfl (p_mb4 (List.mem_of_getElem? (i := 31) rfl) rfl) cv_X0_strawFrom cp_X0_strawFrom rfl rfl
theorem q_k1_26 : p_Q p_MT m_X0_init (100, 9, 13, 5) := p_t9 (N := m_X1_tellDay) rfl (p_mb4 (List.mem_of_getElem? (i := 3) rfl) rfl) cv_X1_tellDay cp_X1_tellDay rfl rfl
theorem q_k1_27 : p_Q p_MT m_X0_init (104, 9, 14, 2) := p_t9 (N := m_X1_melts) rfl (p_mb4 (List.mem_of_getElem? (i := 7) rfl) rfl) cv_X1_melts cp_X1_melts rfl rfl
theorem q_k1_28 : p_Q p_MT m_X0_init (108, 1, 339, 2) := p_t1 (N := m_J9_min_7cf53) rfl (p_mb4 (List.mem_of_getElem? (i := 27) rfl) rfl) cs_J9_min_7cf53 cp_J9_min_7cf53 rfl
theorem q_k1_29 : p_Q p_MT m_X0_init (114, 9, 16, 2) := p_t9 (N := m_X1_rots) rfl (p_mb4 (List.mem_of_getElem? (i := 35) rfl) rfl) cv_X1_rots cp_X1_rots rfl rfl
theorem q_k1_30 : p_Q p_MT m_X0_init (117, 1, 337, 2) := p_t1 (N := m_J9_max_7cf53) rfl (p_mb4 (List.mem_of_getElem? (i := 39) rfl) rfl) cs_J9_max_7cf53 cp_J9_max_7cf53 rfl
theorem q_k1_31 : p_Q p_MT m_X0_init (120, 9, 6, 4) := p_t9 (N := m_X0_meltsUnder) rfl (p_mb4 (List.mem_of_getElem? (i := 159) rfl) rfl) cv_X0_meltsUnder cp_X0_meltsUnder rfl rfl
theorem q_k1_32 : p_Q p_MT m_X0_init (124, 0, 7, 1) := p_t0 rfl (p_mb3 (List.mem_of_getElem? (i := 104) rfl) rfl) rfl
theorem q_k1_33 : p_Q p_MT m_X0_init (130, 9, 62, 3) := p_t9 (N := m_X4_sightsIn) rfl (p_mb4 (List.mem_of_getElem? (i := 65) rfl) rfl) cv_X4_sightsIn cp_X4_sightsIn rfl rfl
theorem q_k1_34 : p_Q p_MT m_X0_init (134, 1, 335, 1) := p_t1 (N := m_J6_bitCount_0f7a4) rfl (p_mb4 (List.mem_of_getElem? (i := 79) rfl) rfl) cs_J6_bitCount_0f7a4 cp_J6_bitCount_0f7a4 rfl
theorem q_k1_35 : p_Q p_MT m_X0_init (139, 9, 63, 3) := p_t9 (N := m_X4_kindsIn) rfl (p_mb4 (List.mem_of_getElem? (i := 85) rfl) rfl) cv_X4_kindsIn cp_X4_kindsIn rfl rfl
theorem q_k1_36 : p_Q p_MT m_X0_init (142, 9, 12, 3) := p_t9 (N := m_X1_tellSights) rfl (p_mb4 (List.mem_of_getElem? (i := 89) rfl) rfl) cv_X1_tellSights cp_X1_tellSights rfl rfl
theorem q_k1_37 : p_Q p_MT m_X0_init (145, 9, 15, 2) := p_t9 (N := m_X1_sells) rfl (p_mb4 (List.mem_of_getElem? (i := 93) rfl) rfl) cv_X1_sells cp_X1_sells rfl rfl
theorem q_k1_38 : p_Q p_MT m_X0_init (147, 9, 1, 2) := p_t9 (N := m_X0_start) rfl (p_mb5 (List.mem_of_getElem? (i := 0) rfl) rfl) cv_X0_start cp_X0_start rfl rfl
theorem q_k1_39 : p_Q p_MT m_X0_init (151, 9, 2, 2) := p_t9 (N := m_X0_run) rfl (p_mb5 (List.mem_of_getElem? (i := 1) rfl) rfl) cv_X0_run cp_X0_run rfl rfl
theorem q_k1_40 : p_Q p_MT m_X0_init (154, 9, 7, 1) := p_t9 (N := m_X0_sellsAt) rfl (p_mb5 (List.mem_of_getElem? (i := 207) rfl) rfl) cv_X0_sellsAt cp_X0_sellsAt rfl rfl
theorem w_k1_0 : ∀ q ∈ ([(3, 8, 0, 0), (9, 0, 0, 0), (15, 0, 0, 1), (19, 0, 0, 2), (23, 0, 9, 8), (29, 0, 0, 4), (33, 9, 88, 1), (37, 0, 0, 3), (41, 0, 10, 6), (46, 0, 0, 5), (47, 0, 10, 3), (50, 0, 0, 6), (51, 0, 10, 4), (54, 0, 0, 7), (55, 9, 91, 2), (59, 0, 0, 8)] : List p_P), p_Q p_MT m_X0_init q := List.forall_mem_cons.mpr ⟨q_k1_0, List.forall_mem_cons.mpr ⟨q_k1_1, List.forall_mem_cons.mpr ⟨q_k1_2, List.forall_mem_cons.mpr ⟨q_k1_3, List.forall_mem_cons.mpr ⟨q_k1_4, List.forall_mem_cons.mpr ⟨q_k1_5, List.forall_mem_cons.mpr ⟨q_k1_6, List.forall_mem_cons.mpr ⟨q_k1_7, List.forall_mem_cons.mpr ⟨q_k1_8, List.forall_mem_cons.mpr ⟨q_k1_9, List.forall_mem_cons.mpr ⟨q_k1_10, List.forall_mem_cons.mpr ⟨q_k1_11, List.forall_mem_cons.mpr ⟨q_k1_12, List.forall_mem_cons.mpr ⟨q_k1_13, List.forall_mem_cons.mpr ⟨q_k1_14, List.forall_mem_cons.mpr ⟨q_k1_15, fun _ h => absurd h List.not_mem_nil⟩⟩⟩⟩⟩⟩⟩⟩⟩⟩⟩⟩⟩⟩⟩⟩
theorem w_k1_1 : ∀ q ∈ ([(62, 9, 92, 2), (65, 0, 0, 9), (68, 9, 93, 2), (72, 0, 0, 10), (76, 9, 60, 2), (81, 9, 59, 2), (84, 9, 11, 3), (90, 9, 3, 5), (94, 1, 98, 1), (97, 9, 4, 5), (100, 9, 13, 5), (104, 9, 14, 2), (108, 1, 339, 2), (114, 9, 16, 2), (117, 1, 337, 2), (120, 9, 6, 4)] : List p_P), p_Q p_MT m_X0_init q := List.forall_mem_cons.mpr ⟨q_k1_16, List.forall_mem_cons.mpr ⟨q_k1_17, List.forall_mem_cons.mpr ⟨q_k1_18, List.forall_mem_cons.mpr ⟨q_k1_19, List.forall_mem_cons.mpr ⟨q_k1_20, List.forall_mem_cons.mpr ⟨q_k1_21, List.forall_mem_cons.mpr ⟨q_k1_22, List.forall_mem_cons.mpr ⟨q_k1_23, List.forall_mem_cons.mpr ⟨q_k1_24, List.forall_mem_cons.mpr ⟨q_k1_25, List.forall_mem_cons.mpr ⟨q_k1_26, List.forall_mem_cons.mpr ⟨q_k1_27, List.forall_mem_cons.mpr ⟨q_k1_28, List.forall_mem_cons.mpr ⟨q_k1_29, List.forall_mem_cons.mpr ⟨q_k1_30, List.forall_mem_cons.mpr ⟨q_k1_31, fun _ h => absurd h List.not_mem_nil⟩⟩⟩⟩⟩⟩⟩⟩⟩⟩⟩⟩⟩⟩⟩⟩
theorem w_k1_2 : ∀ q ∈ ([(124, 0, 7, 1), (130, 9, 62, 3), (134, 1, 335, 1), (139, 9, 63, 3), (142, 9, 12, 3), (145, 9, 15, 2), (147, 9, 1, 2), (151, 9, 2, 2), (154, 9, 7, 1)] : List p_P), p_Q p_MT m_X0_init q := List.forall_mem_cons.mpr ⟨q_k1_32, List.forall_mem_cons.mpr ⟨q_k1_33, List.forall_mem_cons.mpr ⟨q_k1_34, List.forall_mem_cons.mpr ⟨q_k1_35, List.forall_mem_cons.mpr ⟨q_k1_36, List.forall_mem_cons.mpr ⟨q_k1_37, List.forall_mem_cons.mpr ⟨q_k1_38, List.forall_mem_cons.mpr ⟨q_k1_39, List.forall_mem_cons.mpr ⟨q_k1_40, fun _ h => absurd h List.not_mem_nil⟩⟩⟩⟩⟩⟩⟩⟩⟩
theorem w_k1 : ∀ q ∈ P_k1, p_Q p_MT m_X0_init q := by
  have h : P_k1 = [(3, 8, 0, 0), (9, 0, 0, 0), (15, 0, 0, 1), (19, 0, 0, 2), (23, 0, 9, 8), (29, 0, 0, 4), (33, 9, 88, 1), (37, 0, 0, 3), (41, 0, 10, 6), (46, 0, 0, 5), (47, 0, 10, 3), (50, 0, 0, 6), (51, 0, 10, 4), (54, 0, 0, 7), (55, 9, 91, 2), (59, 0, 0, 8)] ++ ([(62, 9, 92, 2), (65, 0, 0, 9), (68, 9, 93, 2), (72, 0, 0, 10), (76, 9, 60, 2), (81, 9, 59, 2), (84, 9, 11, 3), (90, 9, 3, 5), (94, 1, 98, 1), (97, 9, 4, 5), (100, 9, 13, 5), (104, 9, 14, 2), (108, 1, 339, 2), (114, 9, 16, 2), (117, 1, 337, 2), (120, 9, 6, 4)] ++ ([(124, 0, 7, 1), (130, 9, 62, 3), (134, 1, 335, 1), (139, 9, 63, 3), (142, 9, 12, 3), (145, 9, 15, 2), (147, 9, 1, 2), (151, 9, 2, 2), (154, 9, 7, 1)])) := rfl
  rw [h]
  exact List.forall_mem_append.mpr ⟨w_k1_0, List.forall_mem_append.mpr ⟨w_k1_1, w_k1_2⟩⟩
theorem q_k2_0 : p_Q p_MT m_X1_init (3, 8, 0, 0) := ⟨rfl, p_a1 (p_mb2 (List.mem_of_getElem? (i := 42) rfl) rfl) (p_a1 (p_mb1 (List.mem_of_getElem? (i := 24) rfl) rfl) (p_a1 (p_mb1 (List.mem_of_getElem? (i := 25) rfl) rfl) (p_a0))), p_b0⟩
theorem q_k2_1 : p_Q p_MT m_X1_init (9, 0, 1, 0) := p_t0 rfl (p_mb2 (List.mem_of_getElem? (i := 43) rfl) rfl) rfl
theorem q_k2_2 : p_Q p_MT m_X1_init (15, 0, 1, 1) := p_t0 rfl (p_mb2 (List.mem_of_getElem? (i := 44) rfl) rfl) rfl
theorem q_k2_3 : p_Q p_MT m_X1_init (18, 0, 7, 0) := p_t0 rfl (p_mb3 (List.mem_of_getElem? (i := 101) rfl) rfl) rfl
theorem q_k2_4 : p_Q p_MT m_X1_init (23, 9, 17, 2) := p_t9 (N := m_X1_reckon) rfl (p_mb4 (List.mem_of_getElem? (i := 11) rfl) rfl) cv_X1_reckon cp_X1_reckon rfl rfl
theorem q_k2_5 : p_Q p_MT m_X1_init (27, 1, 339, 2) := p_t1 (N := m_J9_min_7cf53) rfl (p_mb4 (List.mem_of_getElem? (i := 23) rfl) rfl) cs_J9_min_7cf53 cp_J9_min_7cf53 rfl
theorem q_k2_6 : p_Q p_MT m_X1_init (33, 1, 337, 2) := p_t1 (N := m_J9_max_7cf53) rfl (p_mb4 (List.mem_of_getElem? (i := 24) rfl) rfl) cs_J9_max_7cf53 cp_J9_max_7cf53 rfl
theorem q_k2_7 : p_Q p_MT m_X1_init (36, 0, 7, 1) := p_t0 rfl (p_mb3 (List.mem_of_getElem? (i := 103) rfl) rfl) rfl
theorem q_k2_8 : p_Q p_MT m_X1_init (39, 0, 7, 2) := p_t0 rfl (p_mb3 (List.mem_of_getElem? (i := 106) rfl) rfl) rfl
theorem q_k2_9 : p_Q p_MT m_X1_init (42, 4, 0, -1000000) := ⟨rfl, p_a1 (p_mb4 (List.mem_of_getElem? (i := 15) rfl) rfl) (p_a0), p_b0⟩
theorem q_k2_10 : p_Q p_MT m_X1_init (44, 4, 0, 1000000) := ⟨rfl, p_a1 (p_mb4 (List.mem_of_getElem? (i := 16) rfl) rfl) (p_a0), p_b0⟩
theorem q_k2_11 : p_Q p_MT m_X1_init (46, 1, 340, 2) := p_t1 (N := m_J9_min_f86c9) rfl (p_mb4 (List.mem_of_getElem? (i := 17) rfl) rfl) cs_J9_min_f86c9 cp_J9_min_f86c9 rfl
theorem q_k2_12 : p_Q p_MT m_X1_init (49, 1, 338, 2) := p_t1 (N := m_J9_max_f86c9) rfl (p_mb4 (List.mem_of_getElem? (i := 20) rfl) rfl) cs_J9_max_f86c9 cp_J9_max_f86c9 rfl
theorem w_k2_0 : ∀ q ∈ ([(3, 8, 0, 0), (9, 0, 1, 0), (15, 0, 1, 1), (18, 0, 7, 0), (23, 9, 17, 2), (27, 1, 339, 2), (33, 1, 337, 2), (36, 0, 7, 1), (39, 0, 7, 2), (42, 4, 0, -1000000), (44, 4, 0, 1000000), (46, 1, 340, 2), (49, 1, 338, 2)] : List p_P), p_Q p_MT m_X1_init q := List.forall_mem_cons.mpr ⟨q_k2_0, List.forall_mem_cons.mpr ⟨q_k2_1, List.forall_mem_cons.mpr ⟨q_k2_2, List.forall_mem_cons.mpr ⟨q_k2_3, List.forall_mem_cons.mpr ⟨q_k2_4, List.forall_mem_cons.mpr ⟨q_k2_5, List.forall_mem_cons.mpr ⟨q_k2_6, List.forall_mem_cons.mpr ⟨q_k2_7, List.forall_mem_cons.mpr ⟨q_k2_8, List.forall_mem_cons.mpr ⟨q_k2_9, List.forall_mem_cons.mpr ⟨q_k2_10, List.forall_mem_cons.mpr ⟨q_k2_11, List.forall_mem_cons.mpr ⟨q_k2_12, fun _ h => absurd h List.not_mem_nil⟩⟩⟩⟩⟩⟩⟩⟩⟩⟩⟩⟩⟩
theorem w_k2 : ∀ q ∈ P_k2, p_Q p_MT m_X1_init q := by
  have h : P_k2 = [(3, 8, 0, 0), (9, 0, 1, 0), (15, 0, 1, 1), (18, 0, 7, 0), (23, 9, 17, 2), (27, 1, 339, 2), (33, 1, 337, 2), (36, 0, 7, 1), (39, 0, 7, 2), (42, 4, 0, -1000000), (44, 4, 0, 1000000), (46, 1, 340, 2), (49, 1, 338, 2)] := rfl
  rw [h]
  exact w_k2_0
theorem q_k3_0 : p_Q p_MT m_X2_init (5, 8, 0, 0) := ⟨rfl, p_a1 (p_mb2 (List.mem_of_getElem? (i := 102) rfl) rfl) (p_a1 (p_mb1 (List.mem_of_getElem? (i := 24) rfl) rfl) (p_a1 (p_mb1 (List.mem_of_getElem? (i := 25) rfl) rfl) (p_a0))), p_b0⟩
theorem q_k3_1 : p_Q p_MT m_X2_init (11, 0, 2, 1) := p_t0 rfl (p_mb2 (List.mem_of_getElem? (i := 104) rfl) rfl) rfl
theorem q_k3_2 : p_Q p_MT m_X2_init (15, 0, 2, 2) := p_t0 rfl (p_mb2 (List.mem_of_getElem? (i := 105) rfl) rfl) rfl
theorem q_k3_3 : p_Q p_MT m_X2_init (18, 0, 2, 3) := p_t0 rfl (p_mb2 (List.mem_of_getElem? (i := 106) rfl) rfl) rfl
theorem q_k3_4 : p_Q p_MT m_X2_init (21, 0, 2, 4) := p_t0 rfl (p_mb2 (List.mem_of_getElem? (i := 107) rfl) rfl) rfl
theorem q_k3_5 : p_Q p_MT m_X2_init (24, 0, 2, 0) := p_t0 rfl (p_mb2 (List.mem_of_getElem? (i := 103) rfl) rfl) rfl
theorem q_k3_6 : p_Q p_MT m_X2_init (28, 9, 1, 2) := p_t9 (N := m_X0_start) rfl (p_mb5 (List.mem_of_getElem? (i := 36) rfl) rfl) cv_X0_start cp_X0_start rfl rfl
theorem q_k3_7 : p_Q p_MT m_X2_init (34, 0, 0, 10) := p_t0 rfl (p_mb2 (List.mem_of_getElem? (i := 72) rfl) rfl) rfl
theorem q_k3_8 : p_Q p_MT m_X2_init (38, 9, 19, 2) := p_t9 (N := m_X2_ofAll) rfl (p_mb5 (List.mem_of_getElem? (i := 37) rfl) rfl) cv_X2_ofAll cp_X2_ofAll rfl rfl
theorem q_k3_9 : p_Q p_MT m_X2_init (42, 0, 0, 9) := p_t0 rfl (p_mb2 (List.mem_of_getElem? (i := 68) rfl) rfl) rfl
theorem q_k3_10 : p_Q p_MT m_X2_init (46, 0, 0, 6) := p_t0 rfl (p_mb2 (List.mem_of_getElem? (i := 61) rfl) rfl) rfl
theorem q_k3_11 : p_Q p_MT m_X2_init (49, 0, 0, 7) := p_t0 rfl (p_mb2 (List.mem_of_getElem? (i := 63) rfl) rfl) rfl
theorem q_k3_12 : p_Q p_MT m_X2_init (52, 0, 0, 8) := p_t0 rfl (p_mb2 (List.mem_of_getElem? (i := 65) rfl) rfl) rfl
theorem q_k3_13 : p_Q p_MT m_X2_init (55, 9, 3, 5) := p_t9 (N := m_X0_meltedFrom) rfl (p_mb5 (List.mem_of_getElem? (i := 41) rfl) rfl) cv_X0_meltedFrom cp_X0_meltedFrom rfl rfl
theorem q_k3_14 : p_Q p_MT m_X2_init (59, 11, 180, 1) := p_t11 (N := m_X11_bit) rfl (p_ml5 (List.mem_of_getElem? (i := 42) rfl)) cs_X11_bit cp_X11_bit rfl
theorem q_k3_15 : p_Q p_MT m_X2_init (63, 9, 22, 3) := p_t9 (N := m_X2_spread) rfl (p_mb5 (List.mem_of_getElem? (i := 43) rfl) rfl) cv_X2_spread cp_X2_spread rfl rfl
theorem q_k3_16 : p_Q p_MT m_X2_init (67, 9, 21, 3) := p_t9 (N := m_X2_leftOver) rfl (p_mb5 (List.mem_of_getElem? (i := 56) rfl) rfl) cv_X2_leftOver cp_X2_leftOver rfl rfl
theorem q_k3_17 : p_Q p_MT m_X2_init (70, 9, 23, 4) := p_t9 (N := m_X2_behind) rfl (p_mb5 (List.mem_of_getElem? (i := 47) rfl) rfl) cv_X2_behind cp_X2_behind rfl rfl
theorem q_k3_18 : p_Q p_MT m_X2_init (74, 9, 24, 2) := p_t9 (N := m_X2_gather) rfl (p_mb5 (List.mem_of_getElem? (i := 52) rfl) rfl) cv_X2_gather cp_X2_gather rfl rfl
theorem q_k3_19 : p_Q p_MT m_X2_init (77, 9, 4, 5) := p_t9 (N := m_X0_strawFrom) rfl (p_mb5 (List.mem_of_getElem? (i := 51) rfl) rfl) cv_X0_strawFrom cp_X0_strawFrom rfl rfl
theorem w_k3_0 : ∀ q ∈ ([(5, 8, 0, 0), (11, 0, 2, 1), (15, 0, 2, 2), (18, 0, 2, 3), (21, 0, 2, 4), (24, 0, 2, 0), (28, 9, 1, 2), (34, 0, 0, 10), (38, 9, 19, 2), (42, 0, 0, 9), (46, 0, 0, 6), (49, 0, 0, 7), (52, 0, 0, 8), (55, 9, 3, 5), (59, 11, 180, 1), (63, 9, 22, 3)] : List p_P), p_Q p_MT m_X2_init q := List.forall_mem_cons.mpr ⟨q_k3_0, List.forall_mem_cons.mpr ⟨q_k3_1, List.forall_mem_cons.mpr ⟨q_k3_2, List.forall_mem_cons.mpr ⟨q_k3_3, List.forall_mem_cons.mpr ⟨q_k3_4, List.forall_mem_cons.mpr ⟨q_k3_5, List.forall_mem_cons.mpr ⟨q_k3_6, List.forall_mem_cons.mpr ⟨q_k3_7, List.forall_mem_cons.mpr ⟨q_k3_8, List.forall_mem_cons.mpr ⟨q_k3_9, List.forall_mem_cons.mpr ⟨q_k3_10, List.forall_mem_cons.mpr ⟨q_k3_11, List.forall_mem_cons.mpr ⟨q_k3_12, List.forall_mem_cons.mpr ⟨q_k3_13, List.forall_mem_cons.mpr ⟨q_k3_14, List.forall_mem_cons.mpr ⟨q_k3_15, fun _ h => absurd h List.not_mem_nil⟩⟩⟩⟩⟩⟩⟩⟩⟩⟩⟩⟩⟩⟩⟩⟩
theorem w_k3_1 : ∀ q ∈ ([(67, 9, 21, 3), (70, 9, 23, 4), (74, 9, 24, 2), (77, 9, 4, 5)] : List p_P), p_Q p_MT m_X2_init q := List.forall_mem_cons.mpr ⟨q_k3_16, List.forall_mem_cons.mpr ⟨q_k3_17, List.forall_mem_cons.mpr ⟨q_k3_18, List.forall_mem_cons.mpr ⟨q_k3_19, fun _ h => absurd h List.not_mem_nil⟩⟩⟩⟩
theorem w_k3 : ∀ q ∈ P_k3, p_Q p_MT m_X2_init q := by
  have h : P_k3 = [(5, 8, 0, 0), (11, 0, 2, 1), (15, 0, 2, 2), (18, 0, 2, 3), (21, 0, 2, 4), (24, 0, 2, 0), (28, 9, 1, 2), (34, 0, 0, 10), (38, 9, 19, 2), (42, 0, 0, 9), (46, 0, 0, 6), (49, 0, 0, 7), (52, 0, 0, 8), (55, 9, 3, 5), (59, 11, 180, 1), (63, 9, 22, 3)] ++ ([(67, 9, 21, 3), (70, 9, 23, 4), (74, 9, 24, 2), (77, 9, 4, 5)]) := rfl
  rw [h]
  exact List.forall_mem_append.mpr ⟨w_k3_0, w_k3_1⟩
theorem q_k4_0 : p_Q p_MT m_X3_init (3, 8, 0, 0) := ⟨rfl, p_a1 (p_mb1 (List.mem_of_getElem? (i := 215) rfl) rfl) (p_a1 (p_mb1 (List.mem_of_getElem? (i := 24) rfl) rfl) (p_a1 (p_mb1 (List.mem_of_getElem? (i := 25) rfl) rfl) (p_a0))), p_b0⟩
theorem q_k4_1 : p_Q p_MT m_X3_init (11, 0, 3, 0) := p_t0 rfl (p_mb1 (List.mem_of_getElem? (i := 216) rfl) rfl) rfl
theorem q_k4_2 : p_Q p_MT m_X3_init (15, 0, 3, 2) := p_t0 rfl (p_mb1 (List.mem_of_getElem? (i := 219) rfl) rfl) rfl
theorem q_k4_3 : p_Q p_MT m_X3_init (19, 0, 3, 3) := p_t0 rfl (p_mb1 (List.mem_of_getElem? (i := 221) rfl) rfl) rfl
theorem q_k4_4 : p_Q p_MT m_X3_init (22, 2, 7, 0) := p_t2 rfl (p_mb3 (List.mem_of_getElem? (i := 94) rfl) rfl) (p_mb3 (List.mem_of_getElem? (i := 95) rfl) rfl) (p_mb1 (List.mem_of_getElem? (i := 16) rfl) rfl)
theorem q_k4_5 : p_Q p_MT m_X3_init (24, 0, 3, 8) := p_t0 rfl (p_mb1 (List.mem_of_getElem? (i := 227) rfl) rfl) rfl
theorem q_k4_6 : p_Q p_MT m_X3_init (28, 0, 3, 14) := p_t0 rfl (p_mb1 (List.mem_of_getElem? (i := 233) rfl) rfl) rfl
theorem q_k4_7 : p_Q p_MT m_X3_init (31, 0, 3, 1) := p_t0 rfl (p_mb1 (List.mem_of_getElem? (i := 217) rfl) rfl) rfl
theorem q_k4_8 : p_Q p_MT m_X3_init (34, 0, 3, 4) := p_t0 rfl (p_mb1 (List.mem_of_getElem? (i := 223) rfl) rfl) rfl
theorem q_k4_9 : p_Q p_MT m_X3_init (37, 0, 3, 9) := p_t0 rfl (p_mb1 (List.mem_of_getElem? (i := 228) rfl) rfl) rfl
theorem q_k4_10 : p_Q p_MT m_X3_init (40, 0, 3, 11) := p_t0 rfl (p_mb1 (List.mem_of_getElem? (i := 230) rfl) rfl) rfl
theorem q_k4_11 : p_Q p_MT m_X3_init (43, 0, 3, 12) := p_t0 rfl (p_mb1 (List.mem_of_getElem? (i := 231) rfl) rfl) rfl
theorem q_k4_12 : p_Q p_MT m_X3_init (46, 0, 3, 13) := p_t0 rfl (p_mb1 (List.mem_of_getElem? (i := 232) rfl) rfl) rfl
theorem q_k4_13 : p_Q p_MT m_X3_init (49, 0, 3, 17) := p_t0 rfl (p_mb1 (List.mem_of_getElem? (i := 236) rfl) rfl) rfl
theorem q_k4_14 : p_Q p_MT m_X3_init (53, 9, 32, 1) := p_t9 (N := m_X3_step) rfl (p_mb2 (List.mem_of_getElem? (i := 228) rfl) rfl) cv_X3_step cp_X3_step rfl rfl
theorem q_k4_15 : p_Q p_MT m_X3_init (56, 0, 3, 6) := p_t0 rfl (p_mb1 (List.mem_of_getElem? (i := 225) rfl) rfl) rfl
theorem q_k4_16 : p_Q p_MT m_X3_init (59, 9, 40, 1) := p_t9 (N := m_X3_readClause) rfl (p_mb3 (List.mem_of_getElem? (i := 7) rfl) rfl) cv_X3_readClause cp_X3_readClause rfl rfl
theorem q_k4_17 : p_Q p_MT m_X3_init (63, 1, 342, 2) := p_t1 (N := m_J7_copyOf_59c91) rfl (p_mb3 (List.mem_of_getElem? (i := 72) rfl) rfl) cs_J7_copyOf_59c91 cp_J7_copyOf_59c91 rfl
theorem q_k4_18 : p_Q p_MT m_X3_init (69, 10, 77, 6) := p_t10 (N := m_X7_init) rfl (p_mb3 (List.mem_of_getElem? (i := 96) rfl) rfl) ci_X7_init cp_X7_init rfl rfl rfl rfl
theorem q_k4_19 : p_Q p_MT m_X3_init (72, 6, 1, 0) := ⟨rfl, p_a1 (p_mb3 (List.mem_of_getElem? (i := 5) rfl) rfl) (p_a0), p_b0⟩
theorem q_k4_20 : p_Q p_MT m_X3_init (76, 9, 29, 2) := p_t9 (N := m_X3_byteAt) rfl (p_mb2 (List.mem_of_getElem? (i := 232) rfl) rfl) cv_X3_byteAt cp_X3_byteAt rfl rfl
theorem q_k4_21 : p_Q p_MT m_X3_init (80, 0, 3, 5) := p_t0 rfl (p_mb1 (List.mem_of_getElem? (i := 224) rfl) rfl) rfl
theorem q_k4_22 : p_Q p_MT m_X3_init (83, 1, 30, 1) := p_t1 (N := m_X3_sortOf) rfl (p_mb2 (List.mem_of_getElem? (i := 236) rfl) rfl) cs_X3_sortOf cp_X3_sortOf rfl
theorem q_k4_23 : p_Q p_MT m_X3_init (86, 1, 339, 2) := p_t1 (N := m_J9_min_7cf53) rfl (p_mb2 (List.mem_of_getElem? (i := 239) rfl) rfl) cs_J9_min_7cf53 cp_J9_min_7cf53 rfl
theorem q_k4_24 : p_Q p_MT m_X3_init (92, 1, 31, 1) := p_t1 (N := m_X3_wordOf) rfl (p_mb3 (List.mem_of_getElem? (i := 2) rfl) rfl) cs_X3_wordOf cp_X3_wordOf rfl
theorem q_k4_25 : p_Q p_MT m_X3_init (96, 0, 3, 7) := p_t0 rfl (p_mb1 (List.mem_of_getElem? (i := 226) rfl) rfl) rfl

/-! The methods that are called -/
theorem ci_X0_init : p_ci m_X0_init := ⟨(p_mb2 (List.mem_of_getElem? (i := 51) rfl) rfl), (p_mb1 (List.mem_of_getElem? (i := 8) rfl) rfl), (p_mb2 (List.mem_of_getElem? (i := 52) rfl) rfl)⟩
theorem cp_X0_init : p_par m_X0_init.1 3 = true := by decide +kernel
theorem cv_X0_start : p_cv m_X0_start := ⟨(p_mb3 (List.mem_of_getElem? (i := 209) rfl) rfl), (p_mb3 (List.mem_of_getElem? (i := 210) rfl) rfl), (p_mb1 (List.mem_of_getElem? (i := 8) rfl) rfl), (p_mb3 (List.mem_of_getElem? (i := 211) rfl) rfl)⟩
theorem cp_X0_start : p_par m_X0_start.1 1 = true := by decide +kernel
theorem cv_X0_run : p_cv m_X0_run := ⟨(p_mb3 (List.mem_of_getElem? (i := 236) rfl) rfl), (p_mb3 (List.mem_of_getElem? (i := 237) rfl) rfl), (p_mb1 (List.mem_of_getElem? (i := 8) rfl) rfl), (p_mb3 (List.mem_of_getElem? (i := 238) rfl) rfl)⟩
theorem cp_X0_run : p_par m_X0_run.1 1 = true := by decide +kernel
theorem cv_X0_meltedFrom : p_cv m_X0_meltedFrom := ⟨(p_mb4 (List.mem_of_getElem? (i := 0) rfl) rfl), (p_mb4 (List.mem_of_getElem? (i := 1) rfl) rfl), (p_mb1 (List.mem_of_getElem? (i := 8) rfl) rfl), (p_mb4 (List.mem_of_getElem? (i := 2) rfl) rfl)⟩
theorem cp_X0_meltedFrom : p_par m_X0_meltedFrom.1 4 = true := by decide +kernel
theorem cv_X0_strawFrom : p_cv m_X0_strawFrom := ⟨(p_mb4 (List.mem_of_getElem? (i := 32) rfl) rfl), (p_mb4 (List.mem_of_getElem? (i := 33) rfl) rfl), (p_mb1 (List.mem_of_getElem? (i := 8) rfl) rfl), (p_mb4 (List.mem_of_getElem? (i := 34) rfl) rfl)⟩
theorem cp_X0_strawFrom : p_par m_X0_strawFrom.1 4 = true := by decide +kernel
theorem cv_X0_meltsAt : p_cv m_X0_meltsAt := ⟨(p_mb4 (List.mem_of_getElem? (i := 156) rfl) rfl), (p_mb4 (List.mem_of_getElem? (i := 157) rfl) rfl), (p_mb1 (List.mem_of_getElem? (i := 8) rfl) rfl), (p_mb4 (List.mem_of_getElem? (i := 158) rfl) rfl)⟩
theorem cp_X0_meltsAt : p_par m_X0_meltsAt.1 0 = true := by decide +kernel
theorem cv_X0_meltsUnder : p_cv m_X0_meltsUnder := ⟨(p_mb4 (List.mem_of_getElem? (i := 160) rfl) rfl), (p_mb4 (List.mem_of_getElem? (i := 161) rfl) rfl), (p_mb1 (List.mem_of_getElem? (i := 8) rfl) rfl), (p_mb4 (List.mem_of_getElem? (i := 162) rfl) rfl)⟩
theorem cp_X0_meltsUnder : p_par m_X0_meltsUnder.1 3 = true := by decide +kernel
theorem cv_X0_sellsAt : p_cv m_X0_sellsAt := ⟨(p_mb4 (List.mem_of_getElem? (i := 62) rfl) rfl), (p_mb4 (List.mem_of_getElem? (i := 63) rfl) rfl), (p_mb1 (List.mem_of_getElem? (i := 8) rfl) rfl), (p_mb4 (List.mem_of_getElem? (i := 64) rfl) rfl)⟩
theorem cp_X0_sellsAt : p_par m_X0_sellsAt.1 0 = true := by decide +kernel
theorem cv_X0_penceBehind : p_cv m_X0_penceBehind := ⟨(p_mb5 (List.mem_of_getElem? (i := 204) rfl) rfl), (p_mb5 (List.mem_of_getElem? (i := 205) rfl) rfl), (p_mb1 (List.mem_of_getElem? (i := 8) rfl) rfl), (p_mb5 (List.mem_of_getElem? (i := 206) rfl) rfl)⟩
theorem cp_X0_penceBehind : p_par m_X0_penceBehind.1 3 = true := by decide +kernel
theorem cv_X0_daysUntilAbove : p_cv m_X0_daysUntilAbove := ⟨(p_mb4 (List.mem_of_getElem? (i := 237) rfl) rfl), (p_mb4 (List.mem_of_getElem? (i := 238) rfl) rfl), (p_mb1 (List.mem_of_getElem? (i := 8) rfl) rfl), (p_mb4 (List.mem_of_getElem? (i := 239) rfl) rfl)⟩
theorem cp_X0_daysUntilAbove : p_par m_X0_daysUntilAbove.1 2 = true := by decide +kernel
theorem ci_X1_init : p_ci m_X1_init := ⟨(p_mb2 (List.mem_of_getElem? (i := 40) rfl) rfl), (p_mb1 (List.mem_of_getElem? (i := 9) rfl) rfl), (p_mb2 (List.mem_of_getElem? (i := 41) rfl) rfl)⟩
theorem cp_X1_init : p_par m_X1_init.1 0 = true := by decide +kernel
theorem cv_X1_tellBlock : p_cv m_X1_tellBlock := ⟨(p_mb3 (List.mem_of_getElem? (i := 232) rfl) rfl), (p_mb3 (List.mem_of_getElem? (i := 233) rfl) rfl), (p_mb1 (List.mem_of_getElem? (i := 9) rfl) rfl), (p_mb3 (List.mem_of_getElem? (i := 234) rfl) rfl)⟩
theorem cp_X1_tellBlock : p_par m_X1_tellBlock.1 2 = true := by decide +kernel
theorem cv_X1_tellSights : p_cv m_X1_tellSights := ⟨(p_mb4 (List.mem_of_getElem? (i := 90) rfl) rfl), (p_mb4 (List.mem_of_getElem? (i := 91) rfl) rfl), (p_mb1 (List.mem_of_getElem? (i := 9) rfl) rfl), (p_mb4 (List.mem_of_getElem? (i := 92) rfl) rfl)⟩
theorem cp_X1_tellSights : p_par m_X1_tellSights.1 2 = true := by decide +kernel
theorem cv_X1_tellDay : p_cv m_X1_tellDay := ⟨(p_mb4 (List.mem_of_getElem? (i := 4) rfl) rfl), (p_mb4 (List.mem_of_getElem? (i := 5) rfl) rfl), (p_mb1 (List.mem_of_getElem? (i := 9) rfl) rfl), (p_mb4 (List.mem_of_getElem? (i := 6) rfl) rfl)⟩
theorem cp_X1_tellDay : p_par m_X1_tellDay.1 4 = true := by decide +kernel
theorem cv_X1_melts : p_cv m_X1_melts := ⟨(p_mb4 (List.mem_of_getElem? (i := 8) rfl) rfl), (p_mb4 (List.mem_of_getElem? (i := 9) rfl) rfl), (p_mb1 (List.mem_of_getElem? (i := 9) rfl) rfl), (p_mb4 (List.mem_of_getElem? (i := 10) rfl) rfl)⟩
theorem cp_X1_melts : p_par m_X1_melts.1 1 = true := by decide +kernel
theorem cv_X1_sells : p_cv m_X1_sells := ⟨(p_mb4 (List.mem_of_getElem? (i := 94) rfl) rfl), (p_mb4 (List.mem_of_getElem? (i := 95) rfl) rfl), (p_mb1 (List.mem_of_getElem? (i := 9) rfl) rfl), (p_mb4 (List.mem_of_getElem? (i := 96) rfl) rfl)⟩
theorem cp_X1_sells : p_par m_X1_sells.1 1 = true := by decide +kernel
theorem cv_X1_rots : p_cv m_X1_rots := ⟨(p_mb4 (List.mem_of_getElem? (i := 36) rfl) rfl), (p_mb4 (List.mem_of_getElem? (i := 37) rfl) rfl), (p_mb1 (List.mem_of_getElem? (i := 9) rfl) rfl), (p_mb4 (List.mem_of_getElem? (i := 38) rfl) rfl)⟩
theorem cp_X1_rots : p_par m_X1_rots.1 1 = true := by decide +kernel
theorem cv_X1_reckon : p_cv m_X1_reckon := ⟨(p_mb4 (List.mem_of_getElem? (i := 13) rfl) rfl), (p_mb0 (List.mem_of_getElem? (i := 29) rfl) rfl), (p_mb1 (List.mem_of_getElem? (i := 9) rfl) rfl), (p_mb4 (List.mem_of_getElem? (i := 14) rfl) rfl)⟩
theorem cp_X1_reckon : p_par m_X1_reckon.1 1 = true := by decide +kernel
theorem ci_X2_init : p_ci m_X2_init := ⟨(p_mb2 (List.mem_of_getElem? (i := 100) rfl) rfl), (p_mb1 (List.mem_of_getElem? (i := 10) rfl) rfl), (p_mb2 (List.mem_of_getElem? (i := 101) rfl) rfl)⟩
theorem cp_X2_init : p_par m_X2_init.1 1 = true := by decide +kernel
theorem cv_X2_ofAll : p_cv m_X2_ofAll := ⟨(p_mb5 (List.mem_of_getElem? (i := 38) rfl) rfl), (p_mb5 (List.mem_of_getElem? (i := 39) rfl) rfl), (p_mb1 (List.mem_of_getElem? (i := 10) rfl) rfl), (p_mb5 (List.mem_of_getElem? (i := 40) rfl) rfl)⟩
theorem cp_X2_ofAll : p_par m_X2_ofAll.1 1 = true := by decide +kernel
theorem cv_X2_lasting : p_cv m_X2_lasting := ⟨(p_mb5 (List.mem_of_getElem? (i := 33) rfl) rfl), (p_mb5 (List.mem_of_getElem? (i := 34) rfl) rfl), (p_mb1 (List.mem_of_getElem? (i := 10) rfl) rfl), (p_mb5 (List.mem_of_getElem? (i := 35) rfl) rfl)⟩
theorem cp_X2_lasting : p_par m_X2_lasting.1 2 = true := by decide +kernel
theorem cv_X2_leftOver : p_cv m_X2_leftOver := ⟨(p_mb5 (List.mem_of_getElem? (i := 58) rfl) rfl), (p_mb0 (List.mem_of_getElem? (i := 47) rfl) rfl), (p_mb1 (List.mem_of_getElem? (i := 10) rfl) rfl), (p_mb5 (List.mem_of_getElem? (i := 59) rfl) rfl)⟩
theorem cp_X2_leftOver : p_par m_X2_leftOver.1 2 = true := by decide +kernel
theorem cv_X2_spread : p_cv m_X2_spread := ⟨(p_mb5 (List.mem_of_getElem? (i := 45) rfl) rfl), (p_mb0 (List.mem_of_getElem? (i := 44) rfl) rfl), (p_mb1 (List.mem_of_getElem? (i := 10) rfl) rfl), (p_mb5 (List.mem_of_getElem? (i := 46) rfl) rfl)⟩
theorem cp_X2_spread : p_par m_X2_spread.1 2 = true := by decide +kernel
theorem cv_X2_behind : p_cv m_X2_behind := ⟨(p_mb5 (List.mem_of_getElem? (i := 49) rfl) rfl), (p_mb0 (List.mem_of_getElem? (i := 45) rfl) rfl), (p_mb1 (List.mem_of_getElem? (i := 10) rfl) rfl), (p_mb5 (List.mem_of_getElem? (i := 50) rfl) rfl)⟩
theorem cp_X2_behind : p_par m_X2_behind.1 3 = true := by decide +kernel
theorem cv_X2_gather : p_cv m_X2_gather := ⟨(p_mb5 (List.mem_of_getElem? (i := 54) rfl) rfl), (p_mb0 (List.mem_of_getElem? (i := 46) rfl) rfl), (p_mb1 (List.mem_of_getElem? (i := 10) rfl) rfl), (p_mb5 (List.mem_of_getElem? (i := 55) rfl) rfl)⟩
theorem cp_X2_gather : p_par m_X2_gather.1 1 = true := by decide +kernel
theorem ci_X3_init : p_ci m_X3_init := ⟨(p_mb1 (List.mem_of_getElem? (i := 213) rfl) rfl), (p_mb1 (List.mem_of_getElem? (i := 7) rfl) rfl), (p_mb1 (List.mem_of_getElem? (i := 214) rfl) rfl)⟩
theorem cp_X3_init : p_par m_X3_init.1 0 = true := by decide +kernel
theorem cv_X3_hasRoom : p_cv m_X3_hasRoom := ⟨(p_mb2 (List.mem_of_getElem? (i := 209) rfl) rfl), (p_mb2 (List.mem_of_getElem? (i := 210) rfl) rfl), (p_mb1 (List.mem_of_getElem? (i := 7) rfl) rfl), (p_mb2 (List.mem_of_getElem? (i := 211) rfl) rfl)⟩
theorem cp_X3_hasRoom : p_par m_X3_hasRoom.1 1 = true := by decide +kernel
theorem cv_X3_append : p_cv m_X3_append := ⟨(p_mb2 (List.mem_of_getElem? (i := 213) rfl) rfl), (p_mb2 (List.mem_of_getElem? (i := 214) rfl) rfl), (p_mb1 (List.mem_of_getElem? (i := 7) rfl) rfl), (p_mb2 (List.mem_of_getElem? (i := 215) rfl) rfl)⟩
theorem cp_X3_append : p_par m_X3_append.1 1 = true := by decide +kernel
theorem cv_X3_read : p_cv m_X3_read := ⟨(p_mb2 (List.mem_of_getElem? (i := 225) rfl) rfl), (p_mb2 (List.mem_of_getElem? (i := 226) rfl) rfl), (p_mb1 (List.mem_of_getElem? (i := 7) rfl) rfl), (p_mb2 (List.mem_of_getElem? (i := 227) rfl) rfl)⟩
theorem cp_X3_read : p_par m_X3_read.1 0 = true := by decide +kernel
theorem cv_X3_byteAt : p_cv m_X3_byteAt := ⟨(p_mb2 (List.mem_of_getElem? (i := 234) rfl) rfl), (p_mb0 (List.mem_of_getElem? (i := 2) rfl) rfl), (p_mb1 (List.mem_of_getElem? (i := 7) rfl) rfl), (p_mb2 (List.mem_of_getElem? (i := 235) rfl) rfl)⟩
theorem cp_X3_byteAt : p_par m_X3_byteAt.1 1 = true := by decide +kernel
theorem cs_X3_sortOf : p_cs m_X3_sortOf := ⟨(p_mb2 (List.mem_of_getElem? (i := 237) rfl) rfl), (p_mb1 (List.mem_of_getElem? (i := 7) rfl) rfl), (p_mb2 (List.mem_of_getElem? (i := 238) rfl) rfl)⟩
theorem cp_X3_sortOf : p_par m_X3_sortOf.1 1 = true := by decide +kernel
theorem cs_X3_wordOf : p_cs m_X3_wordOf := ⟨(p_mb3 (List.mem_of_getElem? (i := 3) rfl) rfl), (p_mb1 (List.mem_of_getElem? (i := 7) rfl) rfl), (p_mb3 (List.mem_of_getElem? (i := 4) rfl) rfl)⟩
theorem cp_X3_wordOf : p_par m_X3_wordOf.1 1 = true := by decide +kernel
theorem cv_X3_step : p_cv m_X3_step := ⟨(p_mb2 (List.mem_of_getElem? (i := 230) rfl) rfl), (p_mb0 (List.mem_of_getElem? (i := 1) rfl) rfl), (p_mb1 (List.mem_of_getElem? (i := 7) rfl) rfl), (p_mb2 (List.mem_of_getElem? (i := 231) rfl) rfl)⟩
theorem cp_X3_step : p_par m_X3_step.1 0 = true := by decide +kernel
theorem cv_X3_wrong : p_cv m_X3_wrong := ⟨(p_mb3 (List.mem_of_getElem? (i := 14) rfl) rfl), (p_mb0 (List.mem_of_getElem? (i := 4) rfl) rfl), (p_mb1 (List.mem_of_getElem? (i := 7) rfl) rfl), (p_mb3 (List.mem_of_getElem? (i := 15) rfl) rfl)⟩
theorem cp_X3_wrong : p_par m_X3_wrong.1 1 = true := by decide +kernel
theorem cv_X3_isSign : p_cv m_X3_isSign := ⟨(p_mb3 (List.mem_of_getElem? (i := 38) rfl) rfl), (p_mb0 (List.mem_of_getElem? (i := 10) rfl) rfl), (p_mb1 (List.mem_of_getElem? (i := 7) rfl) rfl), (p_mb3 (List.mem_of_getElem? (i := 39) rfl) rfl)⟩
theorem cp_X3_isSign : p_par m_X3_isSign.1 1 = true := by decide +kernel
theorem cv_X3_isWord : p_cv m_X3_isWord := ⟨(p_mb3 (List.mem_of_getElem? (i := 42) rfl) rfl), (p_mb0 (List.mem_of_getElem? (i := 11) rfl) rfl), (p_mb1 (List.mem_of_getElem? (i := 7) rfl) rfl), (p_mb3 (List.mem_of_getElem? (i := 43) rfl) rfl)⟩
theorem cp_X3_isWord : p_par m_X3_isWord.1 1 = true := by decide +kernel
theorem cv_X3_takeSign : p_cv m_X3_takeSign := ⟨(p_mb3 (List.mem_of_getElem? (i := 62) rfl) rfl), (p_mb0 (List.mem_of_getElem? (i := 16) rfl) rfl), (p_mb1 (List.mem_of_getElem? (i := 7) rfl) rfl), (p_mb3 (List.mem_of_getElem? (i := 63) rfl) rfl)⟩
theorem cp_X3_takeSign : p_par m_X3_takeSign.1 1 = true := by decide +kernel
theorem cv_X3_takeWord : p_cv m_X3_takeWord := ⟨(p_mb3 (List.mem_of_getElem? (i := 58) rfl) rfl), (p_mb0 (List.mem_of_getElem? (i := 15) rfl) rfl), (p_mb1 (List.mem_of_getElem? (i := 7) rfl) rfl), (p_mb3 (List.mem_of_getElem? (i := 59) rfl) rfl)⟩
theorem cp_X3_takeWord : p_par m_X3_takeWord.1 1 = true := by decide +kernel
theorem cv_X3_takeNumber : p_cv m_X3_takeNumber := ⟨(p_mb3 (List.mem_of_getElem? (i := 92) rfl) rfl), (p_mb0 (List.mem_of_getElem? (i := 20) rfl) rfl), (p_mb1 (List.mem_of_getElem? (i := 7) rfl) rfl), (p_mb3 (List.mem_of_getElem? (i := 93) rfl) rfl)⟩
theorem cp_X3_takeNumber : p_par m_X3_takeNumber.1 2 = true := by decide +kernel
theorem cv_X3_addPart : p_cv m_X3_addPart := ⟨(p_mb3 (List.mem_of_getElem? (i := 18) rfl) rfl), (p_mb0 (List.mem_of_getElem? (i := 5) rfl) rfl), (p_mb1 (List.mem_of_getElem? (i := 7) rfl) rfl), (p_mb3 (List.mem_of_getElem? (i := 19) rfl) rfl)⟩
theorem cp_X3_addPart : p_par m_X3_addPart.1 1 = true := by decide +kernel
theorem cv_X3_readClause : p_cv m_X3_readClause := ⟨(p_mb3 (List.mem_of_getElem? (i := 9) rfl) rfl), (p_mb0 (List.mem_of_getElem? (i := 3) rfl) rfl), (p_mb1 (List.mem_of_getElem? (i := 7) rfl) rfl), (p_mb3 (List.mem_of_getElem? (i := 10) rfl) rfl)⟩
theorem cp_X3_readClause : p_par m_X3_readClause.1 0 = true := by decide +kernel
theorem cv_X3_readDeed : p_cv m_X3_readDeed := ⟨(p_mb3 (List.mem_of_getElem? (i := 88) rfl) rfl), (p_mb0 (List.mem_of_getElem? (i := 19) rfl) rfl), (p_mb1 (List.mem_of_getElem? (i := 7) rfl) rfl), (p_mb3 (List.mem_of_getElem? (i := 89) rfl) rfl)⟩
theorem cp_X3_readDeed : p_par m_X3_readDeed.1 1 = true := by decide +kernel
theorem cv_X3_readLaw : p_cv m_X3_readLaw := ⟨(p_mb3 (List.mem_of_getElem? (i := 22) rfl) rfl), (p_mb0 (List.mem_of_getElem? (i := 6) rfl) rfl), (p_mb1 (List.mem_of_getElem? (i := 7) rfl) rfl), (p_mb3 (List.mem_of_getElem? (i := 23) rfl) rfl)⟩
theorem cp_X3_readLaw : p_par m_X3_readLaw.1 1 = true := by decide +kernel
theorem cv_X3_make : p_cv m_X3_make := ⟨(p_mb3 (List.mem_of_getElem? (i := 50) rfl) rfl), (p_mb0 (List.mem_of_getElem? (i := 13) rfl) rfl), (p_mb1 (List.mem_of_getElem? (i := 7) rfl) rfl), (p_mb3 (List.mem_of_getElem? (i := 51) rfl) rfl)⟩
theorem cp_X3_make : p_par m_X3_make.1 2 = true := by decide +kernel
theorem cv_X3_lead : p_cv m_X3_lead := ⟨(p_mb3 (List.mem_of_getElem? (i := 70) rfl) rfl), (p_mb0 (List.mem_of_getElem? (i := 18) rfl) rfl), (p_mb1 (List.mem_of_getElem? (i := 7) rfl) rfl), (p_mb3 (List.mem_of_getElem? (i := 71) rfl) rfl)⟩
theorem cp_X3_lead : p_par m_X3_lead.1 2 = true := by decide +kernel
theorem cv_X3_readSum : p_cv m_X3_readSum := ⟨(p_mb3 (List.mem_of_getElem? (i := 26) rfl) rfl), (p_mb0 (List.mem_of_getElem? (i := 7) rfl) rfl), (p_mb1 (List.mem_of_getElem? (i := 7) rfl) rfl), (p_mb3 (List.mem_of_getElem? (i := 27) rfl) rfl)⟩
theorem cp_X3_readSum : p_par m_X3_readSum.1 1 = true := by decide +kernel
theorem cv_X3_readProduct : p_cv m_X3_readProduct := ⟨(p_mb3 (List.mem_of_getElem? (i := 30) rfl) rfl), (p_mb0 (List.mem_of_getElem? (i := 8) rfl) rfl), (p_mb1 (List.mem_of_getElem? (i := 7) rfl) rfl), (p_mb3 (List.mem_of_getElem? (i := 31) rfl) rfl)⟩
theorem cp_X3_readProduct : p_par m_X3_readProduct.1 1 = true := by decide +kernel
theorem cv_X3_readOne : p_cv m_X3_readOne := ⟨(p_mb3 (List.mem_of_getElem? (i := 34) rfl) rfl), (p_mb0 (List.mem_of_getElem? (i := 9) rfl) rfl), (p_mb1 (List.mem_of_getElem? (i := 7) rfl) rfl), (p_mb3 (List.mem_of_getElem? (i := 35) rfl) rfl)⟩
theorem cp_X3_readOne : p_par m_X3_readOne.1 1 = true := by decide +kernel
theorem cv_X3_faultOfOne : p_cv m_X3_faultOfOne := ⟨(p_mb3 (List.mem_of_getElem? (i := 46) rfl) rfl), (p_mb0 (List.mem_of_getElem? (i := 12) rfl) rfl), (p_mb1 (List.mem_of_getElem? (i := 7) rfl) rfl), (p_mb3 (List.mem_of_getElem? (i := 47) rfl) rfl)⟩
theorem cp_X3_faultOfOne : p_par m_X3_faultOfOne.1 3 = true := by decide +kernel
theorem cv_X3_readChoice : p_cv m_X3_readChoice := ⟨(p_mb3 (List.mem_of_getElem? (i := 54) rfl) rfl), (p_mb0 (List.mem_of_getElem? (i := 14) rfl) rfl), (p_mb1 (List.mem_of_getElem? (i := 7) rfl) rfl), (p_mb3 (List.mem_of_getElem? (i := 55) rfl) rfl)⟩
theorem cp_X3_readChoice : p_par m_X3_readChoice.1 1 = true := by decide +kernel
theorem cv_X3_closeJumps : p_cv m_X3_closeJumps := ⟨(p_mb3 (List.mem_of_getElem? (i := 66) rfl) rfl), (p_mb0 (List.mem_of_getElem? (i := 17) rfl) rfl), (p_mb1 (List.mem_of_getElem? (i := 7) rfl) rfl), (p_mb3 (List.mem_of_getElem? (i := 67) rfl) rfl)⟩
theorem cp_X3_closeJumps : p_par m_X3_closeJumps.1 1 = true := by decide +kernel
theorem ci_X4_init : p_ci m_X4_init := ⟨(p_mb1 (List.mem_of_getElem? (i := 186) rfl) rfl), (p_mb1 (List.mem_of_getElem? (i := 6) rfl) rfl), (p_mb1 (List.mem_of_getElem? (i := 187) rfl) rfl)⟩
theorem cp_X4_init : p_par m_X4_init.1 0 = true := by decide +kernel
theorem cv_X4_lay : p_cv m_X4_lay := ⟨(p_mb2 (List.mem_of_getElem? (i := 152) rfl) rfl), (p_mb2 (List.mem_of_getElem? (i := 153) rfl) rfl), (p_mb1 (List.mem_of_getElem? (i := 6) rfl) rfl), (p_mb2 (List.mem_of_getElem? (i := 154) rfl) rfl)⟩
theorem cp_X4_lay : p_par m_X4_lay.1 1 = true := by decide +kernel
theorem cv_X4_layAcross : p_cv m_X4_layAcross := ⟨(p_mb2 (List.mem_of_getElem? (i := 157) rfl) rfl), (p_mb0 (List.mem_of_getElem? (i := 0) rfl) rfl), (p_mb1 (List.mem_of_getElem? (i := 6) rfl) rfl), (p_mb2 (List.mem_of_getElem? (i := 158) rfl) rfl)⟩
theorem cp_X4_layAcross : p_par m_X4_layAcross.1 3 = true := by decide +kernel
theorem cs_X4_partOf : p_cs m_X4_partOf := ⟨(p_mb3 (List.mem_of_getElem? (i := 225) rfl) rfl), (p_mb1 (List.mem_of_getElem? (i := 6) rfl) rfl), (p_mb3 (List.mem_of_getElem? (i := 226) rfl) rfl)⟩
theorem cp_X4_partOf : p_par m_X4_partOf.1 2 = true := by decide +kernel
theorem cv_X4_leftOf : p_cv m_X4_leftOf := ⟨(p_mb4 (List.mem_of_getElem? (i := 133) rfl) rfl), (p_mb4 (List.mem_of_getElem? (i := 134) rfl) rfl), (p_mb1 (List.mem_of_getElem? (i := 6) rfl) rfl), (p_mb4 (List.mem_of_getElem? (i := 135) rfl) rfl)⟩
theorem cp_X4_leftOf : p_par m_X4_leftOf.1 1 = true := by decide +kernel
theorem cv_X4_topOf : p_cv m_X4_topOf := ⟨(p_mb4 (List.mem_of_getElem? (i := 137) rfl) rfl), (p_mb4 (List.mem_of_getElem? (i := 138) rfl) rfl), (p_mb1 (List.mem_of_getElem? (i := 6) rfl) rfl), (p_mb4 (List.mem_of_getElem? (i := 139) rfl) rfl)⟩
theorem cp_X4_topOf : p_par m_X4_topOf.1 1 = true := by decide +kernel
theorem cv_X4_wideOf : p_cv m_X4_wideOf := ⟨(p_mb4 (List.mem_of_getElem? (i := 141) rfl) rfl), (p_mb4 (List.mem_of_getElem? (i := 142) rfl) rfl), (p_mb1 (List.mem_of_getElem? (i := 6) rfl) rfl), (p_mb4 (List.mem_of_getElem? (i := 143) rfl) rfl)⟩
theorem cp_X4_wideOf : p_par m_X4_wideOf.1 1 = true := by decide +kernel
theorem cv_X4_highOf : p_cv m_X4_highOf := ⟨(p_mb4 (List.mem_of_getElem? (i := 145) rfl) rfl), (p_mb4 (List.mem_of_getElem? (i := 146) rfl) rfl), (p_mb1 (List.mem_of_getElem? (i := 6) rfl) rfl), (p_mb4 (List.mem_of_getElem? (i := 147) rfl) rfl)⟩
theorem cp_X4_highOf : p_par m_X4_highOf.1 1 = true := by decide +kernel
theorem cv_X4_edgeOf : p_cv m_X4_edgeOf := ⟨(p_mb3 (List.mem_of_getElem? (i := 228) rfl) rfl), (p_mb3 (List.mem_of_getElem? (i := 229) rfl) rfl), (p_mb1 (List.mem_of_getElem? (i := 6) rfl) rfl), (p_mb3 (List.mem_of_getElem? (i := 230) rfl) rfl)⟩
theorem cp_X4_edgeOf : p_par m_X4_edgeOf.1 1 = true := by decide +kernel
theorem cv_X4_sizeOf : p_cv m_X4_sizeOf := ⟨(p_mb3 (List.mem_of_getElem? (i := 221) rfl) rfl), (p_mb3 (List.mem_of_getElem? (i := 222) rfl) rfl), (p_mb1 (List.mem_of_getElem? (i := 6) rfl) rfl), (p_mb3 (List.mem_of_getElem? (i := 223) rfl) rfl)⟩
theorem cp_X4_sizeOf : p_par m_X4_sizeOf.1 1 = true := by decide +kernel
theorem cv_X4_cellsOf : p_cv m_X4_cellsOf := ⟨(p_mb4 (List.mem_of_getElem? (i := 70) rfl) rfl), (p_mb4 (List.mem_of_getElem? (i := 71) rfl) rfl), (p_mb1 (List.mem_of_getElem? (i := 6) rfl) rfl), (p_mb4 (List.mem_of_getElem? (i := 72) rfl) rfl)⟩
theorem cp_X4_cellsOf : p_par m_X4_cellsOf.1 3 = true := by decide +kernel
theorem cv_X4_sightsIn : p_cv m_X4_sightsIn := ⟨(p_mb4 (List.mem_of_getElem? (i := 66) rfl) rfl), (p_mb4 (List.mem_of_getElem? (i := 67) rfl) rfl), (p_mb1 (List.mem_of_getElem? (i := 6) rfl) rfl), (p_mb4 (List.mem_of_getElem? (i := 68) rfl) rfl)⟩
theorem cp_X4_sightsIn : p_par m_X4_sightsIn.1 2 = true := by decide +kernel
theorem cv_X4_kindsIn : p_cv m_X4_kindsIn := ⟨(p_mb4 (List.mem_of_getElem? (i := 86) rfl) rfl), (p_mb4 (List.mem_of_getElem? (i := 87) rfl) rfl), (p_mb1 (List.mem_of_getElem? (i := 6) rfl) rfl), (p_mb4 (List.mem_of_getElem? (i := 88) rfl) rfl)⟩
theorem cp_X4_kindsIn : p_par m_X4_kindsIn.1 2 = true := by decide +kernel
theorem cv_X4_showingIn : p_cv m_X4_showingIn := ⟨(p_mb4 (List.mem_of_getElem? (i := 193) rfl) rfl), (p_mb4 (List.mem_of_getElem? (i := 194) rfl) rfl), (p_mb1 (List.mem_of_getElem? (i := 6) rfl) rfl), (p_mb4 (List.mem_of_getElem? (i := 195) rfl) rfl)⟩
theorem cp_X4_showingIn : p_par m_X4_showingIn.1 3 = true := by decide +kernel
theorem ci_X5_init : p_ci m_X5_init := ⟨(p_mb2 (List.mem_of_getElem? (i := 122) rfl) rfl), (p_mb1 (List.mem_of_getElem? (i := 11) rfl) rfl), (p_mb2 (List.mem_of_getElem? (i := 123) rfl) rfl)⟩
theorem cp_X5_init : p_par m_X5_init.1 3 = true := by decide +kernel
theorem cv_X5_blockFor : p_cv m_X5_blockFor := ⟨(p_mb5 (List.mem_of_getElem? (i := 133) rfl) rfl), (p_mb5 (List.mem_of_getElem? (i := 134) rfl) rfl), (p_mb1 (List.mem_of_getElem? (i := 11) rfl) rfl), (p_mb5 (List.mem_of_getElem? (i := 135) rfl) rfl)⟩
theorem cp_X5_blockFor : p_par m_X5_blockFor.1 1 = true := by decide +kernel
theorem cv_X5_settle : p_cv m_X5_settle := ⟨(p_mb5 (List.mem_of_getElem? (i := 97) rfl) rfl), (p_mb5 (List.mem_of_getElem? (i := 98) rfl) rfl), (p_mb1 (List.mem_of_getElem? (i := 11) rfl) rfl), (p_mb5 (List.mem_of_getElem? (i := 99) rfl) rfl)⟩
theorem cp_X5_settle : p_par m_X5_settle.1 0 = true := by decide +kernel
theorem cv_X5_findLowest : p_cv m_X5_findLowest := ⟨(p_mb5 (List.mem_of_getElem? (i := 102) rfl) rfl), (p_mb0 (List.mem_of_getElem? (i := 49) rfl) rfl), (p_mb1 (List.mem_of_getElem? (i := 11) rfl) rfl), (p_mb5 (List.mem_of_getElem? (i := 103) rfl) rfl)⟩
theorem cp_X5_findLowest : p_par m_X5_findLowest.1 1 = true := by decide +kernel
theorem cv_X5_serves : p_cv m_X5_serves := ⟨(p_mb5 (List.mem_of_getElem? (i := 107) rfl) rfl), (p_mb0 (List.mem_of_getElem? (i := 50) rfl) rfl), (p_mb1 (List.mem_of_getElem? (i := 11) rfl) rfl), (p_mb5 (List.mem_of_getElem? (i := 108) rfl) rfl)⟩
theorem cp_X5_serves : p_par m_X5_serves.1 2 = true := by decide +kernel
theorem cv_X5_deepestWhole : p_cv m_X5_deepestWhole := ⟨(p_mb5 (List.mem_of_getElem? (i := 115) rfl) rfl), (p_mb0 (List.mem_of_getElem? (i := 51) rfl) rfl), (p_mb1 (List.mem_of_getElem? (i := 11) rfl) rfl), (p_mb5 (List.mem_of_getElem? (i := 116) rfl) rfl)⟩
theorem cp_X5_deepestWhole : p_par m_X5_deepestWhole.1 2 = true := by decide +kernel
theorem cv_X5_choose : p_cv m_X5_choose := ⟨(p_mb5 (List.mem_of_getElem? (i := 125) rfl) rfl), (p_mb0 (List.mem_of_getElem? (i := 52) rfl) rfl), (p_mb1 (List.mem_of_getElem? (i := 11) rfl) rfl), (p_mb5 (List.mem_of_getElem? (i := 126) rfl) rfl)⟩
theorem cp_X5_choose : p_par m_X5_choose.1 3 = true := by decide +kernel
theorem cv_X5_isFree : p_cv m_X5_isFree := ⟨(p_mb5 (List.mem_of_getElem? (i := 130) rfl) rfl), (p_mb0 (List.mem_of_getElem? (i := 53) rfl) rfl), (p_mb1 (List.mem_of_getElem? (i := 11) rfl) rfl), (p_mb5 (List.mem_of_getElem? (i := 131) rfl) rfl)⟩
theorem cp_X5_isFree : p_par m_X5_isFree.1 2 = true := by decide +kernel
theorem ci_X6_init : p_ci m_X6_init := ⟨(p_mb1 (List.mem_of_getElem? (i := 82) rfl) rfl), (p_mb1 (List.mem_of_getElem? (i := 4) rfl) rfl), (p_mb1 (List.mem_of_getElem? (i := 83) rfl) rfl)⟩
theorem cp_X6_init : p_par m_X6_init.1 0 = true := by decide +kernel
theorem cv_X6_keep : p_cv m_X6_keep := ⟨(p_mb3 (List.mem_of_getElem? (i := 146) rfl) rfl), (p_mb3 (List.mem_of_getElem? (i := 147) rfl) rfl), (p_mb1 (List.mem_of_getElem? (i := 4) rfl) rfl), (p_mb3 (List.mem_of_getElem? (i := 148) rfl) rfl)⟩
theorem cp_X6_keep : p_par m_X6_keep.1 1 = true := by decide +kernel
theorem cv_X6_takeBack : p_cv m_X6_takeBack := ⟨(p_mb4 (List.mem_of_getElem? (i := 121) rfl) rfl), (p_mb4 (List.mem_of_getElem? (i := 122) rfl) rfl), (p_mb1 (List.mem_of_getElem? (i := 4) rfl) rfl), (p_mb4 (List.mem_of_getElem? (i := 123) rfl) rfl)⟩
theorem cp_X6_takeBack : p_par m_X6_takeBack.1 1 = true := by decide +kernel
theorem cv_X6_become : p_cv m_X6_become := ⟨(p_mb5 (List.mem_of_getElem? (i := 235) rfl) rfl), (p_mb5 (List.mem_of_getElem? (i := 236) rfl) rfl), (p_mb1 (List.mem_of_getElem? (i := 4) rfl) rfl), (p_mb5 (List.mem_of_getElem? (i := 237) rfl) rfl)⟩
theorem cp_X6_become : p_par m_X6_become.1 1 = true := by decide +kernel
theorem ci_X7_init : p_ci m_X7_init := ⟨(p_mb3 (List.mem_of_getElem? (i := 97) rfl) rfl), (p_mb1 (List.mem_of_getElem? (i := 16) rfl) rfl), (p_mb3 (List.mem_of_getElem? (i := 98) rfl) rfl)⟩
theorem cp_X7_init : p_par m_X7_init.1 5 = true := by decide +kernel
theorem cv_X7_part : p_cv m_X7_part := ⟨(p_mb4 (List.mem_of_getElem? (i := 107) rfl) rfl), (p_mb4 (List.mem_of_getElem? (i := 108) rfl) rfl), (p_mb1 (List.mem_of_getElem? (i := 16) rfl) rfl), (p_mb4 (List.mem_of_getElem? (i := 109) rfl) rfl)⟩
theorem cp_X7_part : p_par m_X7_part.1 2 = true := by decide +kernel
theorem ci_X8_init : p_ci m_X8_init := ⟨(p_mb1 (List.mem_of_getElem? (i := 99) rfl) rfl), (p_mb1 (List.mem_of_getElem? (i := 5) rfl) rfl), (p_mb1 (List.mem_of_getElem? (i := 100) rfl) rfl)⟩
theorem cp_X8_init : p_par m_X8_init.1 1 = true := by decide +kernel
theorem cv_X8_none : p_cv m_X8_none := ⟨(p_mb5 (List.mem_of_getElem? (i := 85) rfl) rfl), (p_mb5 (List.mem_of_getElem? (i := 86) rfl) rfl), (p_mb1 (List.mem_of_getElem? (i := 5) rfl) rfl), (p_mb5 (List.mem_of_getElem? (i := 87) rfl) rfl)⟩
theorem cp_X8_none : p_par m_X8_none.1 0 = true := by decide +kernel
theorem cv_X8_add : p_cv m_X8_add := ⟨(p_mb5 (List.mem_of_getElem? (i := 89) rfl) rfl), (p_mb5 (List.mem_of_getElem? (i := 90) rfl) rfl), (p_mb1 (List.mem_of_getElem? (i := 5) rfl) rfl), (p_mb5 (List.mem_of_getElem? (i := 91) rfl) rfl)⟩
theorem cp_X8_add : p_par m_X8_add.1 4 = true := by decide +kernel
theorem cv_X8_part : p_cv m_X8_part := ⟨(p_mb5 (List.mem_of_getElem? (i := 110) rfl) rfl), (p_mb5 (List.mem_of_getElem? (i := 111) rfl) rfl), (p_mb1 (List.mem_of_getElem? (i := 5) rfl) rfl), (p_mb5 (List.mem_of_getElem? (i := 112) rfl) rfl)⟩
theorem cp_X8_part : p_par m_X8_part.1 2 = true := by decide +kernel
theorem cv_X8_become : p_cv m_X8_become := ⟨(p_mb6 (List.mem_of_getElem? (i := 0) rfl) rfl), (p_mb6 (List.mem_of_getElem? (i := 1) rfl) rfl), (p_mb1 (List.mem_of_getElem? (i := 5) rfl) rfl), (p_mb6 (List.mem_of_getElem? (i := 2) rfl) rfl)⟩
theorem cp_X8_become : p_par m_X8_become.1 1 = true := by decide +kernel
theorem ci_X9_init : p_ci m_X9_init := ⟨(p_mb1 (List.mem_of_getElem? (i := 29) rfl) rfl), (p_mb1 (List.mem_of_getElem? (i := 2) rfl) rfl), (p_mb1 (List.mem_of_getElem? (i := 30) rfl) rfl)⟩
theorem cp_X9_init : p_par m_X9_init.1 0 = true := by decide +kernel
theorem cv_X9_become : p_cv m_X9_become := ⟨(p_mb5 (List.mem_of_getElem? (i := 226) rfl) rfl), (p_mb5 (List.mem_of_getElem? (i := 227) rfl) rfl), (p_mb1 (List.mem_of_getElem? (i := 2) rfl) rfl), (p_mb5 (List.mem_of_getElem? (i := 228) rfl) rfl)⟩
theorem cp_X9_become : p_par m_X9_become.1 1 = true := by decide +kernel
theorem cv_X9_sightPart : p_cv m_X9_sightPart := ⟨(p_mb4 (List.mem_of_getElem? (i := 74) rfl) rfl), (p_mb4 (List.mem_of_getElem? (i := 75) rfl) rfl), (p_mb1 (List.mem_of_getElem? (i := 2) rfl) rfl), (p_mb4 (List.mem_of_getElem? (i := 76) rfl) rfl)⟩
theorem cp_X9_sightPart : p_par m_X9_sightPart.1 2 = true := by decide +kernel
theorem cv_X9_textAt : p_cv m_X9_textAt := ⟨(p_mb3 (List.mem_of_getElem? (i := 130) rfl) rfl), (p_mb3 (List.mem_of_getElem? (i := 131) rfl) rfl), (p_mb1 (List.mem_of_getElem? (i := 2) rfl) rfl), (p_mb3 (List.mem_of_getElem? (i := 132) rfl) rfl)⟩
theorem cp_X9_textAt : p_par m_X9_textAt.1 1 = true := by decide +kernel
theorem cv_X9_ruler : p_cv m_X9_ruler := ⟨(p_mb3 (List.mem_of_getElem? (i := 213) rfl) rfl), (p_mb3 (List.mem_of_getElem? (i := 214) rfl) rfl), (p_mb1 (List.mem_of_getElem? (i := 2) rfl) rfl), (p_mb3 (List.mem_of_getElem? (i := 215) rfl) rfl)⟩
theorem cp_X9_ruler : p_par m_X9_ruler.1 0 = true := by decide +kernel
theorem ci_X10_init : p_ci m_X10_init := ⟨(p_mb1 (List.mem_of_getElem? (i := 37) rfl) rfl), (p_mb1 (List.mem_of_getElem? (i := 3) rfl) rfl), (p_mb1 (List.mem_of_getElem? (i := 38) rfl) rfl)⟩
theorem cp_X10_init : p_par m_X10_init.1 0 = true := by decide +kernel
theorem cv_X10_markOf : p_cv m_X10_markOf := ⟨(p_mb3 (List.mem_of_getElem? (i := 177) rfl) rfl), (p_mb0 (List.mem_of_getElem? (i := 25) rfl) rfl), (p_mb1 (List.mem_of_getElem? (i := 3) rfl) rfl), (p_mb3 (List.mem_of_getElem? (i := 178) rfl) rfl)⟩
theorem cp_X10_markOf : p_par m_X10_markOf.1 1 = true := by decide +kernel
theorem cv_X10_strawOn : p_cv m_X10_strawOn := ⟨(p_mb3 (List.mem_of_getElem? (i := 180) rfl) rfl), (p_mb3 (List.mem_of_getElem? (i := 181) rfl) rfl), (p_mb1 (List.mem_of_getElem? (i := 3) rfl) rfl), (p_mb3 (List.mem_of_getElem? (i := 182) rfl) rfl)⟩
theorem cp_X10_strawOn : p_par m_X10_strawOn.1 1 = true := by decide +kernel
theorem cv_X10_meltedOf : p_cv m_X10_meltedOf := ⟨(p_mb3 (List.mem_of_getElem? (i := 188) rfl) rfl), (p_mb3 (List.mem_of_getElem? (i := 189) rfl) rfl), (p_mb1 (List.mem_of_getElem? (i := 3) rfl) rfl), (p_mb3 (List.mem_of_getElem? (i := 190) rfl) rfl)⟩
theorem cp_X10_meltedOf : p_par m_X10_meltedOf.1 1 = true := by decide +kernel
theorem cv_X10_isSold : p_cv m_X10_isSold := ⟨(p_mb3 (List.mem_of_getElem? (i := 172) rfl) rfl), (p_mb3 (List.mem_of_getElem? (i := 173) rfl) rfl), (p_mb1 (List.mem_of_getElem? (i := 3) rfl) rfl), (p_mb3 (List.mem_of_getElem? (i := 174) rfl) rfl)⟩
theorem cp_X10_isSold : p_par m_X10_isSold.1 1 = true := by decide +kernel
theorem cv_X10_isLike : p_cv m_X10_isLike := ⟨(p_mb5 (List.mem_of_getElem? (i := 77) rfl) rfl), (p_mb5 (List.mem_of_getElem? (i := 78) rfl) rfl), (p_mb1 (List.mem_of_getElem? (i := 3) rfl) rfl), (p_mb5 (List.mem_of_getElem? (i := 79) rfl) rfl)⟩
theorem cp_X10_isLike : p_par m_X10_isLike.1 2 = true := by decide +kernel
theorem cv_X10_put : p_cv m_X10_put := ⟨(p_mb3 (List.mem_of_getElem? (i := 192) rfl) rfl), (p_mb3 (List.mem_of_getElem? (i := 193) rfl) rfl), (p_mb1 (List.mem_of_getElem? (i := 3) rfl) rfl), (p_mb3 (List.mem_of_getElem? (i := 194) rfl) rfl)⟩
theorem cp_X10_put : p_par m_X10_put.1 4 = true := by decide +kernel
theorem cv_X10_isUntouched : p_cv m_X10_isUntouched := ⟨(p_mb3 (List.mem_of_getElem? (i := 142) rfl) rfl), (p_mb3 (List.mem_of_getElem? (i := 143) rfl) rfl), (p_mb1 (List.mem_of_getElem? (i := 3) rfl) rfl), (p_mb3 (List.mem_of_getElem? (i := 144) rfl) rfl)⟩
theorem cp_X10_isUntouched : p_par m_X10_isUntouched.1 0 = true := by decide +kernel
theorem cv_X10_draw : p_cv m_X10_draw := ⟨(p_mb4 (List.mem_of_getElem? (i := 41) rfl) rfl), (p_mb4 (List.mem_of_getElem? (i := 42) rfl) rfl), (p_mb1 (List.mem_of_getElem? (i := 3) rfl) rfl), (p_mb4 (List.mem_of_getElem? (i := 43) rfl) rfl)⟩
theorem cp_X10_draw : p_par m_X10_draw.1 0 = true := by decide +kernel
theorem cs_X10_behind : p_cs m_X10_behind := ⟨(p_mb4 (List.mem_of_getElem? (i := 29) rfl) rfl), (p_mb1 (List.mem_of_getElem? (i := 3) rfl) rfl), (p_mb4 (List.mem_of_getElem? (i := 30) rfl) rfl)⟩
theorem cp_X10_behind : p_par m_X10_behind.1 1 = true := by decide +kernel
theorem cv_X10_become : p_cv m_X10_become := ⟨(p_mb5 (List.mem_of_getElem? (i := 231) rfl) rfl), (p_mb5 (List.mem_of_getElem? (i := 232) rfl) rfl), (p_mb1 (List.mem_of_getElem? (i := 3) rfl) rfl), (p_mb5 (List.mem_of_getElem? (i := 233) rfl) rfl)⟩
theorem cp_X10_become : p_par m_X10_become.1 1 = true := by decide +kernel
theorem cv_X10_writeTo : p_cv m_X10_writeTo := ⟨(p_mb3 (List.mem_of_getElem? (i := 150) rfl) rfl), (p_mb3 (List.mem_of_getElem? (i := 151) rfl) rfl), (p_mb1 (List.mem_of_getElem? (i := 3) rfl) rfl), (p_mb3 (List.mem_of_getElem? (i := 152) rfl) rfl)⟩
theorem cp_X10_writeTo : p_par m_X10_writeTo.1 2 = true := by decide +kernel
theorem cv_X10_readFrom : p_cv m_X10_readFrom := ⟨(p_mb4 (List.mem_of_getElem? (i := 125) rfl) rfl), (p_mb4 (List.mem_of_getElem? (i := 126) rfl) rfl), (p_mb1 (List.mem_of_getElem? (i := 3) rfl) rfl), (p_mb4 (List.mem_of_getElem? (i := 127) rfl) rfl)⟩
theorem cp_X10_readFrom : p_par m_X10_readFrom.1 2 = true := by decide +kernel
theorem ci_X11_init : p_ci m_X11_init := ⟨(p_mb1 (List.mem_of_getElem? (i := 21) rfl) rfl), (p_mb1 (List.mem_of_getElem? (i := 1) rfl) rfl), (p_mb1 (List.mem_of_getElem? (i := 22) rfl) rfl)⟩
theorem cp_X11_init : p_par m_X11_init.1 0 = true := by decide +kernel
theorem cv_X11_pond : p_cv m_X11_pond := ⟨(p_mb2 (List.mem_of_getElem? (i := 194) rfl) rfl), (p_mb2 (List.mem_of_getElem? (i := 195) rfl) rfl), (p_mb1 (List.mem_of_getElem? (i := 1) rfl) rfl), (p_mb2 (List.mem_of_getElem? (i := 196) rfl) rfl)⟩
theorem cp_X11_pond : p_par m_X11_pond.1 2 = true := by decide +kernel
theorem cv_X11_sight : p_cv m_X11_sight := ⟨(p_mb2 (List.mem_of_getElem? (i := 201) rfl) rfl), (p_mb2 (List.mem_of_getElem? (i := 202) rfl) rfl), (p_mb1 (List.mem_of_getElem? (i := 1) rfl) rfl), (p_mb2 (List.mem_of_getElem? (i := 203) rfl) rfl)⟩
theorem cp_X11_sight : p_par m_X11_sight.1 6 = true := by decide +kernel
theorem cv_X11_feed : p_cv m_X11_feed := ⟨(p_mb2 (List.mem_of_getElem? (i := 205) rfl) rfl), (p_mb2 (List.mem_of_getElem? (i := 206) rfl) rfl), (p_mb1 (List.mem_of_getElem? (i := 1) rfl) rfl), (p_mb2 (List.mem_of_getElem? (i := 207) rfl) rfl)⟩
theorem cp_X11_feed : p_par m_X11_feed.1 5 = true := by decide +kernel
theorem cv_X11_end : p_cv m_X11_end := ⟨(p_mb2 (List.mem_of_getElem? (i := 217) rfl) rfl), (p_mb2 (List.mem_of_getElem? (i := 218) rfl) rfl), (p_mb1 (List.mem_of_getElem? (i := 1) rfl) rfl), (p_mb2 (List.mem_of_getElem? (i := 219) rfl) rfl)⟩
theorem cp_X11_end : p_par m_X11_end.1 1 = true := by decide +kernel
theorem cv_X11_text : p_cv m_X11_text := ⟨(p_mb2 (List.mem_of_getElem? (i := 221) rfl) rfl), (p_mb2 (List.mem_of_getElem? (i := 222) rfl) rfl), (p_mb1 (List.mem_of_getElem? (i := 1) rfl) rfl), (p_mb2 (List.mem_of_getElem? (i := 223) rfl) rfl)⟩
theorem cp_X11_text : p_par m_X11_text.1 0 = true := by decide +kernel
theorem cv_X11_fault : p_cv m_X11_fault := ⟨(p_mb3 (List.mem_of_getElem? (i := 122) rfl) rfl), (p_mb3 (List.mem_of_getElem? (i := 123) rfl) rfl), (p_mb1 (List.mem_of_getElem? (i := 1) rfl) rfl), (p_mb3 (List.mem_of_getElem? (i := 124) rfl) rfl)⟩
theorem cp_X11_fault : p_par m_X11_fault.1 1 = true := by decide +kernel
theorem cv_X11_by : p_cv m_X11_by := ⟨(p_mb3 (List.mem_of_getElem? (i := 126) rfl) rfl), (p_mb3 (List.mem_of_getElem? (i := 127) rfl) rfl), (p_mb1 (List.mem_of_getElem? (i := 1) rfl) rfl), (p_mb3 (List.mem_of_getElem? (i := 128) rfl) rfl)⟩
theorem cp_X11_by : p_par m_X11_by.1 1 = true := by decide +kernel
theorem cv_X11_saw : p_cv m_X11_saw := ⟨(p_mb3 (List.mem_of_getElem? (i := 134) rfl) rfl), (p_mb3 (List.mem_of_getElem? (i := 135) rfl) rfl), (p_mb1 (List.mem_of_getElem? (i := 1) rfl) rfl), (p_mb3 (List.mem_of_getElem? (i := 136) rfl) rfl)⟩
theorem cp_X11_saw : p_par m_X11_saw.1 2 = true := by decide +kernel
theorem cv_X11_straw : p_cv m_X11_straw := ⟨(p_mb3 (List.mem_of_getElem? (i := 156) rfl) rfl), (p_mb3 (List.mem_of_getElem? (i := 157) rfl) rfl), (p_mb1 (List.mem_of_getElem? (i := 1) rfl) rfl), (p_mb3 (List.mem_of_getElem? (i := 158) rfl) rfl)⟩
theorem cp_X11_straw : p_par m_X11_straw.1 2 = true := by decide +kernel
theorem cv_X11_day : p_cv m_X11_day := ⟨(p_mb3 (List.mem_of_getElem? (i := 197) rfl) rfl), (p_mb3 (List.mem_of_getElem? (i := 198) rfl) rfl), (p_mb1 (List.mem_of_getElem? (i := 1) rfl) rfl), (p_mb3 (List.mem_of_getElem? (i := 199) rfl) rfl)⟩
theorem cp_X11_day : p_par m_X11_day.1 1 = true := by decide +kernel
theorem cv_X11_sell : p_cv m_X11_sell := ⟨(p_mb4 (List.mem_of_getElem? (i := 46) rfl) rfl), (p_mb4 (List.mem_of_getElem? (i := 47) rfl) rfl), (p_mb1 (List.mem_of_getElem? (i := 1) rfl) rfl), (p_mb4 (List.mem_of_getElem? (i := 48) rfl) rfl)⟩
theorem cp_X11_sell : p_par m_X11_sell.1 1 = true := by decide +kernel
theorem cv_X11_played : p_cv m_X11_played := ⟨(p_mb4 (List.mem_of_getElem? (i := 99) rfl) rfl), (p_mb4 (List.mem_of_getElem? (i := 100) rfl) rfl), (p_mb1 (List.mem_of_getElem? (i := 1) rfl) rfl), (p_mb4 (List.mem_of_getElem? (i := 101) rfl) rfl)⟩
theorem cp_X11_played : p_par m_X11_played.1 1 = true := by decide +kernel
theorem cv_X11_summer : p_cv m_X11_summer := ⟨(p_mb4 (List.mem_of_getElem? (i := 113) rfl) rfl), (p_mb4 (List.mem_of_getElem? (i := 114) rfl) rfl), (p_mb1 (List.mem_of_getElem? (i := 1) rfl) rfl), (p_mb4 (List.mem_of_getElem? (i := 115) rfl) rfl)⟩
theorem cp_X11_summer : p_par m_X11_summer.1 2 = true := by decide +kernel
theorem cv_X11_undo : p_cv m_X11_undo := ⟨(p_mb4 (List.mem_of_getElem? (i := 117) rfl) rfl), (p_mb4 (List.mem_of_getElem? (i := 118) rfl) rfl), (p_mb1 (List.mem_of_getElem? (i := 1) rfl) rfl), (p_mb4 (List.mem_of_getElem? (i := 119) rfl) rfl)⟩
theorem cp_X11_undo : p_par m_X11_undo.1 0 = true := by decide +kernel
theorem cv_X11_block : p_cv m_X11_block := ⟨(p_mb4 (List.mem_of_getElem? (i := 129) rfl) rfl), (p_mb4 (List.mem_of_getElem? (i := 130) rfl) rfl), (p_mb1 (List.mem_of_getElem? (i := 1) rfl) rfl), (p_mb4 (List.mem_of_getElem? (i := 131) rfl) rfl)⟩
theorem cp_X11_block : p_par m_X11_block.1 2 = true := by decide +kernel
theorem cv_X11_blockOf : p_cv m_X11_blockOf := ⟨(p_mb4 (List.mem_of_getElem? (i := 168) rfl) rfl), (p_mb4 (List.mem_of_getElem? (i := 169) rfl) rfl), (p_mb1 (List.mem_of_getElem? (i := 1) rfl) rfl), (p_mb4 (List.mem_of_getElem? (i := 170) rfl) rfl)⟩
theorem cp_X11_blockOf : p_par m_X11_blockOf.1 2 = true := by decide +kernel
theorem cv_X11_ofSight : p_cv m_X11_ofSight := ⟨(p_mb4 (List.mem_of_getElem? (i := 172) rfl) rfl), (p_mb4 (List.mem_of_getElem? (i := 173) rfl) rfl), (p_mb1 (List.mem_of_getElem? (i := 1) rfl) rfl), (p_mb4 (List.mem_of_getElem? (i := 174) rfl) rfl)⟩
theorem cp_X11_ofSight : p_par m_X11_ofSight.1 2 = true := by decide +kernel
theorem cv_X11_is : p_cv m_X11_is := ⟨(p_mb4 (List.mem_of_getElem? (i := 197) rfl) rfl), (p_mb4 (List.mem_of_getElem? (i := 198) rfl) rfl), (p_mb1 (List.mem_of_getElem? (i := 1) rfl) rfl), (p_mb4 (List.mem_of_getElem? (i := 199) rfl) rfl)⟩
theorem cp_X11_is : p_par m_X11_is.1 1 = true := by decide +kernel
theorem cv_X11_whole : p_cv m_X11_whole := ⟨(p_mb4 (List.mem_of_getElem? (i := 201) rfl) rfl), (p_mb4 (List.mem_of_getElem? (i := 202) rfl) rfl), (p_mb1 (List.mem_of_getElem? (i := 1) rfl) rfl), (p_mb4 (List.mem_of_getElem? (i := 203) rfl) rfl)⟩
theorem cp_X11_whole : p_par m_X11_whole.1 0 = true := by decide +kernel
theorem cv_X11_sawing : p_cv m_X11_sawing := ⟨(p_mb4 (List.mem_of_getElem? (i := 205) rfl) rfl), (p_mb4 (List.mem_of_getElem? (i := 206) rfl) rfl), (p_mb1 (List.mem_of_getElem? (i := 1) rfl) rfl), (p_mb4 (List.mem_of_getElem? (i := 207) rfl) rfl)⟩
theorem cp_X11_sawing : p_par m_X11_sawing.1 3 = true := by decide +kernel
theorem cv_X11_foretold : p_cv m_X11_foretold := ⟨(p_mb4 (List.mem_of_getElem? (i := 224) rfl) rfl), (p_mb4 (List.mem_of_getElem? (i := 225) rfl) rfl), (p_mb1 (List.mem_of_getElem? (i := 1) rfl) rfl), (p_mb4 (List.mem_of_getElem? (i := 226) rfl) rfl)⟩
theorem cp_X11_foretold : p_par m_X11_foretold.1 2 = true := by decide +kernel
theorem cv_X11_showsIn : p_cv m_X11_showsIn := ⟨(p_mb4 (List.mem_of_getElem? (i := 232) rfl) rfl), (p_mb4 (List.mem_of_getElem? (i := 233) rfl) rfl), (p_mb1 (List.mem_of_getElem? (i := 1) rfl) rfl), (p_mb4 (List.mem_of_getElem? (i := 234) rfl) rfl)⟩
theorem cp_X11_showsIn : p_par m_X11_showsIn.1 1 = true := by decide +kernel
theorem cv_X11_dearest : p_cv m_X11_dearest := ⟨(p_mb5 (List.mem_of_getElem? (i := 3) rfl) rfl), (p_mb5 (List.mem_of_getElem? (i := 4) rfl) rfl), (p_mb1 (List.mem_of_getElem? (i := 1) rfl) rfl), (p_mb5 (List.mem_of_getElem? (i := 5) rfl) rfl)⟩
theorem cp_X11_dearest : p_par m_X11_dearest.1 1 = true := by decide +kernel
theorem cv_X11_together : p_cv m_X11_together := ⟨(p_mb5 (List.mem_of_getElem? (i := 11) rfl) rfl), (p_mb5 (List.mem_of_getElem? (i := 12) rfl) rfl), (p_mb1 (List.mem_of_getElem? (i := 1) rfl) rfl), (p_mb5 (List.mem_of_getElem? (i := 13) rfl) rfl)⟩
theorem cp_X11_together : p_par m_X11_together.1 1 = true := by decide +kernel
theorem cv_X11_ice : p_cv m_X11_ice := ⟨(p_mb5 (List.mem_of_getElem? (i := 15) rfl) rfl), (p_mb5 (List.mem_of_getElem? (i := 16) rfl) rfl), (p_mb1 (List.mem_of_getElem? (i := 1) rfl) rfl), (p_mb5 (List.mem_of_getElem? (i := 17) rfl) rfl)⟩
theorem cp_X11_ice : p_par m_X11_ice.1 1 = true := by decide +kernel
theorem cv_X11_gone : p_cv m_X11_gone := ⟨(p_mb5 (List.mem_of_getElem? (i := 20) rfl) rfl), (p_mb5 (List.mem_of_getElem? (i := 21) rfl) rfl), (p_mb1 (List.mem_of_getElem? (i := 1) rfl) rfl), (p_mb5 (List.mem_of_getElem? (i := 22) rfl) rfl)⟩
theorem cp_X11_gone : p_par m_X11_gone.1 0 = true := by decide +kernel
theorem cv_X11_litter : p_cv m_X11_litter := ⟨(p_mb5 (List.mem_of_getElem? (i := 24) rfl) rfl), (p_mb5 (List.mem_of_getElem? (i := 25) rfl) rfl), (p_mb1 (List.mem_of_getElem? (i := 1) rfl) rfl), (p_mb5 (List.mem_of_getElem? (i := 26) rfl) rfl)⟩
theorem cp_X11_litter : p_par m_X11_litter.1 0 = true := by decide +kernel
theorem cv_X11_lasts : p_cv m_X11_lasts := ⟨(p_mb5 (List.mem_of_getElem? (i := 28) rfl) rfl), (p_mb5 (List.mem_of_getElem? (i := 29) rfl) rfl), (p_mb1 (List.mem_of_getElem? (i := 1) rfl) rfl), (p_mb5 (List.mem_of_getElem? (i := 30) rfl) rfl)⟩
theorem cp_X11_lasts : p_par m_X11_lasts.1 3 = true := by decide +kernel
theorem cv_X11_sellFirst : p_cv m_X11_sellFirst := ⟨(p_mb5 (List.mem_of_getElem? (i := 69) rfl) rfl), (p_mb5 (List.mem_of_getElem? (i := 70) rfl) rfl), (p_mb1 (List.mem_of_getElem? (i := 1) rfl) rfl), (p_mb5 (List.mem_of_getElem? (i := 71) rfl) rfl)⟩
theorem cp_X11_sellFirst : p_par m_X11_sellFirst.1 1 = true := by decide +kernel
theorem cv_X11_order : p_cv m_X11_order := ⟨(p_mb5 (List.mem_of_getElem? (i := 81) rfl) rfl), (p_mb5 (List.mem_of_getElem? (i := 82) rfl) rfl), (p_mb1 (List.mem_of_getElem? (i := 1) rfl) rfl), (p_mb5 (List.mem_of_getElem? (i := 83) rfl) rfl)⟩
theorem cp_X11_order : p_par m_X11_order.1 3 = true := by decide +kernel
theorem cv_X11_served : p_cv m_X11_served := ⟨(p_mb5 (List.mem_of_getElem? (i := 93) rfl) rfl), (p_mb5 (List.mem_of_getElem? (i := 94) rfl) rfl), (p_mb1 (List.mem_of_getElem? (i := 1) rfl) rfl), (p_mb5 (List.mem_of_getElem? (i := 95) rfl) rfl)⟩
theorem cp_X11_served : p_par m_X11_served.1 1 = true := by decide +kernel
theorem cv_X11_glass : p_cv m_X11_glass := ⟨(p_mb5 (List.mem_of_getElem? (i := 137) rfl) rfl), (p_mb5 (List.mem_of_getElem? (i := 138) rfl) rfl), (p_mb1 (List.mem_of_getElem? (i := 1) rfl) rfl), (p_mb5 (List.mem_of_getElem? (i := 139) rfl) rfl)⟩
theorem cp_X11_glass : p_par m_X11_glass.1 4 = true := by decide +kernel
theorem cv_X11_layers : p_cv m_X11_layers := ⟨(p_mb5 (List.mem_of_getElem? (i := 141) rfl) rfl), (p_mb5 (List.mem_of_getElem? (i := 142) rfl) rfl), (p_mb1 (List.mem_of_getElem? (i := 1) rfl) rfl), (p_mb5 (List.mem_of_getElem? (i := 143) rfl) rfl)⟩
theorem cp_X11_layers : p_par m_X11_layers.1 2 = true := by decide +kernel
theorem cv_X11_bid : p_cv m_X11_bid := ⟨(p_mb5 (List.mem_of_getElem? (i := 150) rfl) rfl), (p_mb5 (List.mem_of_getElem? (i := 151) rfl) rfl), (p_mb1 (List.mem_of_getElem? (i := 1) rfl) rfl), (p_mb5 (List.mem_of_getElem? (i := 152) rfl) rfl)⟩
theorem cp_X11_bid : p_par m_X11_bid.1 1 = true := by decide +kernel
theorem cv_X11_auction : p_cv m_X11_auction := ⟨(p_mb5 (List.mem_of_getElem? (i := 154) rfl) rfl), (p_mb5 (List.mem_of_getElem? (i := 155) rfl) rfl), (p_mb1 (List.mem_of_getElem? (i := 1) rfl) rfl), (p_mb5 (List.mem_of_getElem? (i := 156) rfl) rfl)⟩
theorem cp_X11_auction : p_par m_X11_auction.1 1 = true := by decide +kernel
theorem cv_X11_lies : p_cv m_X11_lies := ⟨(p_mb5 (List.mem_of_getElem? (i := 166) rfl) rfl), (p_mb5 (List.mem_of_getElem? (i := 167) rfl) rfl), (p_mb1 (List.mem_of_getElem? (i := 1) rfl) rfl), (p_mb5 (List.mem_of_getElem? (i := 168) rfl) rfl)⟩
theorem cp_X11_lies : p_par m_X11_lies.1 1 = true := by decide +kernel
theorem cv_X11_kiss : p_cv m_X11_kiss := ⟨(p_mb5 (List.mem_of_getElem? (i := 170) rfl) rfl), (p_mb5 (List.mem_of_getElem? (i := 171) rfl) rfl), (p_mb1 (List.mem_of_getElem? (i := 1) rfl) rfl), (p_mb5 (List.mem_of_getElem? (i := 172) rfl) rfl)⟩
theorem cp_X11_kiss : p_par m_X11_kiss.1 3 = true := by decide +kernel
theorem cv_X11_unseen : p_cv m_X11_unseen := ⟨(p_mb5 (List.mem_of_getElem? (i := 174) rfl) rfl), (p_mb5 (List.mem_of_getElem? (i := 175) rfl) rfl), (p_mb1 (List.mem_of_getElem? (i := 1) rfl) rfl), (p_mb5 (List.mem_of_getElem? (i := 176) rfl) rfl)⟩
theorem cp_X11_unseen : p_par m_X11_unseen.1 2 = true := by decide +kernel
theorem cv_X11_measure : p_cv m_X11_measure := ⟨(p_mb5 (List.mem_of_getElem? (i := 182) rfl) rfl), (p_mb5 (List.mem_of_getElem? (i := 183) rfl) rfl), (p_mb1 (List.mem_of_getElem? (i := 1) rfl) rfl), (p_mb5 (List.mem_of_getElem? (i := 184) rfl) rfl)⟩
theorem cp_X11_measure : p_par m_X11_measure.1 2 = true := by decide +kernel
theorem cv_X11_speed : p_cv m_X11_speed := ⟨(p_mb5 (List.mem_of_getElem? (i := 186) rfl) rfl), (p_mb5 (List.mem_of_getElem? (i := 187) rfl) rfl), (p_mb1 (List.mem_of_getElem? (i := 1) rfl) rfl), (p_mb5 (List.mem_of_getElem? (i := 188) rfl) rfl)⟩
theorem cp_X11_speed : p_par m_X11_speed.1 1 = true := by decide +kernel
theorem cv_X11_sellers : p_cv m_X11_sellers := ⟨(p_mb5 (List.mem_of_getElem? (i := 191) rfl) rfl), (p_mb5 (List.mem_of_getElem? (i := 192) rfl) rfl), (p_mb1 (List.mem_of_getElem? (i := 1) rfl) rfl), (p_mb5 (List.mem_of_getElem? (i := 193) rfl) rfl)⟩
theorem cp_X11_sellers : p_par m_X11_sellers.1 1 = true := by decide +kernel
theorem cv_X11_strawBest : p_cv m_X11_strawBest := ⟨(p_mb5 (List.mem_of_getElem? (i := 200) rfl) rfl), (p_mb5 (List.mem_of_getElem? (i := 201) rfl) rfl), (p_mb1 (List.mem_of_getElem? (i := 1) rfl) rfl), (p_mb5 (List.mem_of_getElem? (i := 202) rfl) rfl)⟩
theorem cp_X11_strawBest : p_par m_X11_strawBest.1 2 = true := by decide +kernel
theorem cv_X11_melt : p_cv m_X11_melt := ⟨(p_mb5 (List.mem_of_getElem? (i := 209) rfl) rfl), (p_mb5 (List.mem_of_getElem? (i := 210) rfl) rfl), (p_mb1 (List.mem_of_getElem? (i := 1) rfl) rfl), (p_mb5 (List.mem_of_getElem? (i := 211) rfl) rfl)⟩
theorem cp_X11_melt : p_par m_X11_melt.1 4 = true := by decide +kernel
theorem cv_X11_whoseLaw : p_cv m_X11_whoseLaw := ⟨(p_mb5 (List.mem_of_getElem? (i := 213) rfl) rfl), (p_mb5 (List.mem_of_getElem? (i := 214) rfl) rfl), (p_mb1 (List.mem_of_getElem? (i := 1) rfl) rfl), (p_mb5 (List.mem_of_getElem? (i := 215) rfl) rfl)⟩
theorem cp_X11_whoseLaw : p_par m_X11_whoseLaw.1 0 = true := by decide +kernel
theorem cv_X11_image : p_cv m_X11_image := ⟨(p_mb5 (List.mem_of_getElem? (i := 222) rfl) rfl), (p_mb5 (List.mem_of_getElem? (i := 223) rfl) rfl), (p_mb1 (List.mem_of_getElem? (i := 1) rfl) rfl), (p_mb5 (List.mem_of_getElem? (i := 224) rfl) rfl)⟩
theorem cp_X11_image : p_par m_X11_image.1 0 = true := by decide +kernel
theorem cv_X11_back : p_cv m_X11_back := ⟨(p_mb6 (List.mem_of_getElem? (i := 5) rfl) rfl), (p_mb6 (List.mem_of_getElem? (i := 6) rfl) rfl), (p_mb1 (List.mem_of_getElem? (i := 1) rfl) rfl), (p_mb6 (List.mem_of_getElem? (i := 7) rfl) rfl)⟩
theorem cp_X11_back : p_par m_X11_back.1 0 = true := by decide +kernel
theorem cv_X11_about : p_cv m_X11_about := ⟨(p_mb6 (List.mem_of_getElem? (i := 9) rfl) rfl), (p_mb6 (List.mem_of_getElem? (i := 10) rfl) rfl), (p_mb1 (List.mem_of_getElem? (i := 1) rfl) rfl), (p_mb6 (List.mem_of_getElem? (i := 11) rfl) rfl)⟩
theorem cp_X11_about : p_par m_X11_about.1 1 = true := by decide +kernel
theorem cv_X11_perform : p_cv m_X11_perform := ⟨(p_mb4 (List.mem_of_getElem? (i := 104) rfl) rfl), (p_mb0 (List.mem_of_getElem? (i := 33) rfl) rfl), (p_mb1 (List.mem_of_getElem? (i := 1) rfl) rfl), (p_mb4 (List.mem_of_getElem? (i := 105) rfl) rfl)⟩
theorem cp_X11_perform : p_par m_X11_perform.1 2 = true := by decide +kernel
theorem cv_X11_sawThrough : p_cv m_X11_sawThrough := ⟨(p_mb3 (List.mem_of_getElem? (i := 139) rfl) rfl), (p_mb0 (List.mem_of_getElem? (i := 21) rfl) rfl), (p_mb1 (List.mem_of_getElem? (i := 1) rfl) rfl), (p_mb3 (List.mem_of_getElem? (i := 140) rfl) rfl)⟩
theorem cp_X11_sawThrough : p_par m_X11_sawThrough.1 2 = true := by decide +kernel
theorem cv_X11_canLay : p_cv m_X11_canLay := ⟨(p_mb3 (List.mem_of_getElem? (i := 165) rfl) rfl), (p_mb0 (List.mem_of_getElem? (i := 23) rfl) rfl), (p_mb1 (List.mem_of_getElem? (i := 1) rfl) rfl), (p_mb3 (List.mem_of_getElem? (i := 166) rfl) rfl)⟩
theorem cp_X11_canLay : p_par m_X11_canLay.1 2 = true := by decide +kernel
theorem cv_X11_layStraw : p_cv m_X11_layStraw := ⟨(p_mb3 (List.mem_of_getElem? (i := 185) rfl) rfl), (p_mb0 (List.mem_of_getElem? (i := 26) rfl) rfl), (p_mb1 (List.mem_of_getElem? (i := 1) rfl) rfl), (p_mb3 (List.mem_of_getElem? (i := 186) rfl) rfl)⟩
theorem cp_X11_layStraw : p_par m_X11_layStraw.1 2 = true := by decide +kernel
theorem cv_X11_layByHand : p_cv m_X11_layByHand := ⟨(p_mb3 (List.mem_of_getElem? (i := 161) rfl) rfl), (p_mb0 (List.mem_of_getElem? (i := 22) rfl) rfl), (p_mb1 (List.mem_of_getElem? (i := 1) rfl) rfl), (p_mb3 (List.mem_of_getElem? (i := 162) rfl) rfl)⟩
theorem cp_X11_layByHand : p_par m_X11_layByHand.1 2 = true := by decide +kernel
theorem cv_X11_passDay : p_cv m_X11_passDay := ⟨(p_mb3 (List.mem_of_getElem? (i := 206) rfl) rfl), (p_mb0 (List.mem_of_getElem? (i := 28) rfl) rfl), (p_mb1 (List.mem_of_getElem? (i := 1) rfl) rfl), (p_mb3 (List.mem_of_getElem? (i := 207) rfl) rfl)⟩
theorem cp_X11_passDay : p_par m_X11_passDay.1 0 = true := by decide +kernel
theorem cv_X11_passDays : p_cv m_X11_passDays := ⟨(p_mb3 (List.mem_of_getElem? (i := 202) rfl) rfl), (p_mb0 (List.mem_of_getElem? (i := 27) rfl) rfl), (p_mb1 (List.mem_of_getElem? (i := 1) rfl) rfl), (p_mb3 (List.mem_of_getElem? (i := 203) rfl) rfl)⟩
theorem cp_X11_passDays : p_par m_X11_passDays.1 1 = true := by decide +kernel
theorem cv_X11_canSell : p_cv m_X11_canSell := ⟨(p_mb4 (List.mem_of_getElem? (i := 55) rfl) rfl), (p_mb0 (List.mem_of_getElem? (i := 31) rfl) rfl), (p_mb1 (List.mem_of_getElem? (i := 1) rfl) rfl), (p_mb4 (List.mem_of_getElem? (i := 56) rfl) rfl)⟩
theorem cp_X11_canSell : p_par m_X11_canSell.1 1 = true := by decide +kernel
theorem cv_X11_sellOff : p_cv m_X11_sellOff := ⟨(p_mb4 (List.mem_of_getElem? (i := 59) rfl) rfl), (p_mb0 (List.mem_of_getElem? (i := 32) rfl) rfl), (p_mb1 (List.mem_of_getElem? (i := 1) rfl) rfl), (p_mb4 (List.mem_of_getElem? (i := 60) rfl) rfl)⟩
theorem cp_X11_sellOff : p_par m_X11_sellOff.1 1 = true := by decide +kernel
theorem cv_X11_sellByHand : p_cv m_X11_sellByHand := ⟨(p_mb4 (List.mem_of_getElem? (i := 51) rfl) rfl), (p_mb0 (List.mem_of_getElem? (i := 30) rfl) rfl), (p_mb1 (List.mem_of_getElem? (i := 1) rfl) rfl), (p_mb4 (List.mem_of_getElem? (i := 52) rfl) rfl)⟩
theorem cp_X11_sellByHand : p_par m_X11_sellByHand.1 1 = true := by decide +kernel
theorem cv_X11_isBlock : p_cv m_X11_isBlock := ⟨(p_mb3 (List.mem_of_getElem? (i := 169) rfl) rfl), (p_mb0 (List.mem_of_getElem? (i := 24) rfl) rfl), (p_mb1 (List.mem_of_getElem? (i := 1) rfl) rfl), (p_mb3 (List.mem_of_getElem? (i := 170) rfl) rfl)⟩
theorem cp_X11_isBlock : p_par m_X11_isBlock.1 1 = true := by decide +kernel
theorem cv_X11_isSight : p_cv m_X11_isSight := ⟨(p_mb4 (List.mem_of_getElem? (i := 177) rfl) rfl), (p_mb0 (List.mem_of_getElem? (i := 36) rfl) rfl), (p_mb1 (List.mem_of_getElem? (i := 1) rfl) rfl), (p_mb4 (List.mem_of_getElem? (i := 178) rfl) rfl)⟩
theorem cp_X11_isSight : p_par m_X11_isSight.1 1 = true := by decide +kernel
theorem cv_X11_meltsNow : p_cv m_X11_meltsNow := ⟨(p_mb4 (List.mem_of_getElem? (i := 153) rfl) rfl), (p_mb0 (List.mem_of_getElem? (i := 34) rfl) rfl), (p_mb1 (List.mem_of_getElem? (i := 1) rfl) rfl), (p_mb4 (List.mem_of_getElem? (i := 154) rfl) rfl)⟩
theorem cp_X11_meltsNow : p_par m_X11_meltsNow.1 1 = true := by decide +kernel
theorem cv_X11_sellsNow : p_cv m_X11_sellsNow := ⟨(p_mb4 (List.mem_of_getElem? (i := 165) rfl) rfl), (p_mb0 (List.mem_of_getElem? (i := 35) rfl) rfl), (p_mb1 (List.mem_of_getElem? (i := 1) rfl) rfl), (p_mb4 (List.mem_of_getElem? (i := 166) rfl) rfl)⟩
theorem cp_X11_sellsNow : p_par m_X11_sellsNow.1 1 = true := by decide +kernel
theorem cv_X11_showingNow : p_cv m_X11_showingNow := ⟨(p_mb4 (List.mem_of_getElem? (i := 190) rfl) rfl), (p_mb0 (List.mem_of_getElem? (i := 39) rfl) rfl), (p_mb1 (List.mem_of_getElem? (i := 1) rfl) rfl), (p_mb4 (List.mem_of_getElem? (i := 191) rfl) rfl)⟩
theorem cp_X11_showingNow : p_par m_X11_showingNow.1 0 = true := by decide +kernel
theorem cv_X11_showingBehind : p_cv m_X11_showingBehind := ⟨(p_mb4 (List.mem_of_getElem? (i := 229) rfl) rfl), (p_mb0 (List.mem_of_getElem? (i := 42) rfl) rfl), (p_mb1 (List.mem_of_getElem? (i := 1) rfl) rfl), (p_mb4 (List.mem_of_getElem? (i := 230) rfl) rfl)⟩
theorem cp_X11_showingBehind : p_par m_X11_showingBehind.1 1 = true := by decide +kernel
theorem cv_X11_sightsOf : p_cv m_X11_sightsOf := ⟨(p_mb5 (List.mem_of_getElem? (i := 179) rfl) rfl), (p_mb0 (List.mem_of_getElem? (i := 57) rfl) rfl), (p_mb1 (List.mem_of_getElem? (i := 1) rfl) rfl), (p_mb5 (List.mem_of_getElem? (i := 180) rfl) rfl)⟩
theorem cp_X11_sightsOf : p_par m_X11_sightsOf.1 1 = true := by decide +kernel
theorem cv_X11_wholeSights : p_cv m_X11_wholeSights := ⟨(p_mb4 (List.mem_of_getElem? (i := 182) rfl) rfl), (p_mb0 (List.mem_of_getElem? (i := 37) rfl) rfl), (p_mb1 (List.mem_of_getElem? (i := 1) rfl) rfl), (p_mb4 (List.mem_of_getElem? (i := 183) rfl) rfl)⟩
theorem cp_X11_wholeSights : p_par m_X11_wholeSights.1 0 = true := by decide +kernel
theorem cv_X11_linesThrough : p_cv m_X11_linesThrough := ⟨(p_mb4 (List.mem_of_getElem? (i := 186) rfl) rfl), (p_mb0 (List.mem_of_getElem? (i := 38) rfl) rfl), (p_mb1 (List.mem_of_getElem? (i := 1) rfl) rfl), (p_mb4 (List.mem_of_getElem? (i := 187) rfl) rfl)⟩
theorem cp_X11_linesThrough : p_par m_X11_linesThrough.1 2 = true := by decide +kernel
theorem cv_X11_findLevelSets : p_cv m_X11_findLevelSets := ⟨(p_mb4 (List.mem_of_getElem? (i := 210) rfl) rfl), (p_mb0 (List.mem_of_getElem? (i := 40) rfl) rfl), (p_mb1 (List.mem_of_getElem? (i := 1) rfl) rfl), (p_mb4 (List.mem_of_getElem? (i := 211) rfl) rfl)⟩
theorem cp_X11_findLevelSets : p_par m_X11_findLevelSets.1 1 = true := by decide +kernel
theorem cv_X11_levelSetFor : p_cv m_X11_levelSetFor := ⟨(p_mb4 (List.mem_of_getElem? (i := 221) rfl) rfl), (p_mb0 (List.mem_of_getElem? (i := 41) rfl) rfl), (p_mb1 (List.mem_of_getElem? (i := 1) rfl) rfl), (p_mb4 (List.mem_of_getElem? (i := 222) rfl) rfl)⟩
theorem cp_X11_levelSetFor : p_par m_X11_levelSetFor.1 2 = true := by decide +kernel
theorem cs_X11_narrowest : p_cs m_X11_narrowest := ⟨(p_mb4 (List.mem_of_getElem? (i := 216) rfl) rfl), (p_mb1 (List.mem_of_getElem? (i := 1) rfl) rfl), (p_mb4 (List.mem_of_getElem? (i := 217) rfl) rfl)⟩
theorem cp_X11_narrowest : p_par m_X11_narrowest.1 2 = true := by decide +kernel
theorem cv_X11_manyAhead : p_cv m_X11_manyAhead := ⟨(p_mb5 (List.mem_of_getElem? (i := 8) rfl) rfl), (p_mb0 (List.mem_of_getElem? (i := 43) rfl) rfl), (p_mb1 (List.mem_of_getElem? (i := 1) rfl) rfl), (p_mb5 (List.mem_of_getElem? (i := 9) rfl) rfl)⟩
theorem cp_X11_manyAhead : p_par m_X11_manyAhead.1 2 = true := by decide +kernel
theorem cv_X11_hasLikeBefore : p_cv m_X11_hasLikeBefore := ⟨(p_mb5 (List.mem_of_getElem? (i := 74) rfl) rfl), (p_mb0 (List.mem_of_getElem? (i := 48) rfl) rfl), (p_mb1 (List.mem_of_getElem? (i := 1) rfl) rfl), (p_mb5 (List.mem_of_getElem? (i := 75) rfl) rfl)⟩
theorem cp_X11_hasLikeBefore : p_par m_X11_hasLikeBefore.1 1 = true := by decide +kernel
theorem cv_X11_mayLie : p_cv m_X11_mayLie := ⟨(p_mb5 (List.mem_of_getElem? (i := 146) rfl) rfl), (p_mb0 (List.mem_of_getElem? (i := 54) rfl) rfl), (p_mb1 (List.mem_of_getElem? (i := 1) rfl) rfl), (p_mb5 (List.mem_of_getElem? (i := 147) rfl) rfl)⟩
theorem cp_X11_mayLie : p_par m_X11_mayLie.1 3 = true := by decide +kernel
theorem cv_X11_winner : p_cv m_X11_winner := ⟨(p_mb5 (List.mem_of_getElem? (i := 159) rfl) rfl), (p_mb0 (List.mem_of_getElem? (i := 55) rfl) rfl), (p_mb1 (List.mem_of_getElem? (i := 1) rfl) rfl), (p_mb5 (List.mem_of_getElem? (i := 160) rfl) rfl)⟩
theorem cp_X11_winner : p_par m_X11_winner.1 0 = true := by decide +kernel
theorem cv_X11_highestBut : p_cv m_X11_highestBut := ⟨(p_mb5 (List.mem_of_getElem? (i := 163) rfl) rfl), (p_mb0 (List.mem_of_getElem? (i := 56) rfl) rfl), (p_mb1 (List.mem_of_getElem? (i := 1) rfl) rfl), (p_mb5 (List.mem_of_getElem? (i := 164) rfl) rfl)⟩
theorem cp_X11_highestBut : p_par m_X11_highestBut.1 1 = true := by decide +kernel
theorem cv_X11_bestPlay : p_cv m_X11_bestPlay := ⟨(p_mb5 (List.mem_of_getElem? (i := 196) rfl) rfl), (p_mb0 (List.mem_of_getElem? (i := 58) rfl) rfl), (p_mb1 (List.mem_of_getElem? (i := 1) rfl) rfl), (p_mb5 (List.mem_of_getElem? (i := 197) rfl) rfl)⟩
theorem cp_X11_bestPlay : p_par m_X11_bestPlay.1 2 = true := by decide +kernel
theorem cv_X11_allSoBy : p_cv m_X11_allSoBy := ⟨(p_mb5 (List.mem_of_getElem? (i := 218) rfl) rfl), (p_mb0 (List.mem_of_getElem? (i := 59) rfl) rfl), (p_mb1 (List.mem_of_getElem? (i := 1) rfl) rfl), (p_mb5 (List.mem_of_getElem? (i := 219) rfl) rfl)⟩
theorem cp_X11_allSoBy : p_par m_X11_allSoBy.1 1 = true := by decide +kernel
theorem cs_X11_within : p_cs m_X11_within := ⟨(p_mb2 (List.mem_of_getElem? (i := 198) rfl) rfl), (p_mb1 (List.mem_of_getElem? (i := 1) rfl) rfl), (p_mb2 (List.mem_of_getElem? (i := 199) rfl) rfl)⟩

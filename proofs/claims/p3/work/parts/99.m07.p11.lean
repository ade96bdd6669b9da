theorem cp_X11_within : p_par m_X11_within.1 3 = true := by decide +kernel
theorem cs_X11_bit : p_cs m_X11_bit := ⟨(p_mb2 (List.mem_of_getElem? (i := 160) rfl) rfl), (p_mb1 (List.mem_of_getElem? (i := 1) rfl) rfl), (p_mb2 (List.mem_of_getElem? (i := 161) rfl) rfl)⟩
theorem cp_X11_bit : p_par m_X11_bit.1 1 = true := by decide +kernel
theorem cs_X11_divisor : p_cs m_X11_divisor := ⟨(p_mb5 (List.mem_of_getElem? (i := 62) rfl) rfl), (p_mb1 (List.mem_of_getElem? (i := 1) rfl) rfl), (p_mb5 (List.mem_of_getElem? (i := 63) rfl) rfl)⟩
theorem cp_X11_divisor : p_par m_X11_divisor.1 2 = true := by decide +kernel
theorem ci_X12_init : p_ci m_X12_init := ⟨(p_mb6 (List.mem_of_getElem? (i := 15) rfl) rfl), (p_mb1 (List.mem_of_getElem? (i := 12) rfl) rfl), (p_mb6 (List.mem_of_getElem? (i := 16) rfl) rfl)⟩
theorem cp_X12_init : p_par m_X12_init.1 0 = true := by decide +kernel
theorem cs_X12_copy : p_cs m_X12_copy := ⟨(p_mb6 (List.mem_of_getElem? (i := 19) rfl) rfl), (p_mb1 (List.mem_of_getElem? (i := 12) rfl) rfl), (p_mb6 (List.mem_of_getElem? (i := 20) rfl) rfl)⟩
theorem cp_X12_copy : p_par m_X12_copy.1 2 = true := by decide +kernel
theorem cs_X12_isIn : p_cs m_X12_isIn := ⟨(p_mb6 (List.mem_of_getElem? (i := 122) rfl) rfl), (p_mb1 (List.mem_of_getElem? (i := 12) rfl) rfl), (p_mb6 (List.mem_of_getElem? (i := 123) rfl) rfl)⟩
theorem cp_X12_isIn : p_par m_X12_isIn.1 3 = true := by decide +kernel
theorem cs_X12_cut : p_cs m_X12_cut := ⟨(p_mb7 (List.mem_of_getElem? (i := 169) rfl) rfl), (p_mb1 (List.mem_of_getElem? (i := 12) rfl) rfl), (p_mb7 (List.mem_of_getElem? (i := 170) rfl) rfl)⟩
theorem cp_X12_cut : p_par m_X12_cut.1 2 = true := by decide +kernel
theorem cs_X12_has : p_cs m_X12_has := ⟨(p_mb6 (List.mem_of_getElem? (i := 192) rfl) rfl), (p_mb1 (List.mem_of_getElem? (i := 12) rfl) rfl), (p_mb6 (List.mem_of_getElem? (i := 193) rfl) rfl)⟩
theorem cp_X12_has : p_par m_X12_has.1 2 = true := by decide +kernel
theorem cs_X12_bits : p_cs m_X12_bits := ⟨(p_mb7 (List.mem_of_getElem? (i := 77) rfl) rfl), (p_mb1 (List.mem_of_getElem? (i := 12) rfl) rfl), (p_mb7 (List.mem_of_getElem? (i := 78) rfl) rfl)⟩
theorem cp_X12_bits : p_par m_X12_bits.1 1 = true := by decide +kernel
theorem cv_X12_across : p_cv m_X12_across := ⟨(p_mb7 (List.mem_of_getElem? (i := 74) rfl) rfl), (p_mb0 (List.mem_of_getElem? (i := 91) rfl) rfl), (p_mb1 (List.mem_of_getElem? (i := 12) rfl) rfl), (p_mb7 (List.mem_of_getElem? (i := 75) rfl) rfl)⟩
theorem cp_X12_across : p_par m_X12_across.1 0 = true := by decide +kernel
theorem cv_X12_blocks : p_cv m_X12_blocks := ⟨(p_mb7 (List.mem_of_getElem? (i := 70) rfl) rfl), (p_mb0 (List.mem_of_getElem? (i := 90) rfl) rfl), (p_mb1 (List.mem_of_getElem? (i := 12) rfl) rfl), (p_mb7 (List.mem_of_getElem? (i := 71) rfl) rfl)⟩
theorem cp_X12_blocks : p_par m_X12_blocks.1 0 = true := by decide +kernel
theorem cv_X12_isBlock : p_cv m_X12_isBlock := ⟨(p_mb7 (List.mem_of_getElem? (i := 89) rfl) rfl), (p_mb0 (List.mem_of_getElem? (i := 93) rfl) rfl), (p_mb1 (List.mem_of_getElem? (i := 12) rfl) rfl), (p_mb7 (List.mem_of_getElem? (i := 90) rfl) rfl)⟩
theorem cp_X12_isBlock : p_par m_X12_isBlock.1 1 = true := by decide +kernel
theorem cs_X12_partOf : p_cs m_X12_partOf := ⟨(p_mb7 (List.mem_of_getElem? (i := 131) rfl) rfl), (p_mb1 (List.mem_of_getElem? (i := 12) rfl) rfl), (p_mb7 (List.mem_of_getElem? (i := 132) rfl) rfl)⟩
theorem cp_X12_partOf : p_par m_X12_partOf.1 2 = true := by decide +kernel
theorem cs_X12_beginOf : p_cs m_X12_beginOf := ⟨(p_mb7 (List.mem_of_getElem? (i := 146) rfl) rfl), (p_mb1 (List.mem_of_getElem? (i := 12) rfl) rfl), (p_mb7 (List.mem_of_getElem? (i := 147) rfl) rfl)⟩
theorem cp_X12_beginOf : p_par m_X12_beginOf.1 2 = true := by decide +kernel
theorem cs_X12_lengthOf : p_cs m_X12_lengthOf := ⟨(p_mb7 (List.mem_of_getElem? (i := 128) rfl) rfl), (p_mb1 (List.mem_of_getElem? (i := 12) rfl) rfl), (p_mb7 (List.mem_of_getElem? (i := 129) rfl) rfl)⟩
theorem cp_X12_lengthOf : p_par m_X12_lengthOf.1 3 = true := by decide +kernel
theorem cv_X12_leftOf : p_cv m_X12_leftOf := ⟨(p_mb7 (List.mem_of_getElem? (i := 143) rfl) rfl), (p_mb0 (List.mem_of_getElem? (i := 104) rfl) rfl), (p_mb1 (List.mem_of_getElem? (i := 12) rfl) rfl), (p_mb7 (List.mem_of_getElem? (i := 144) rfl) rfl)⟩
theorem cp_X12_leftOf : p_par m_X12_leftOf.1 1 = true := by decide +kernel
theorem cv_X12_upperOf : p_cv m_X12_upperOf := ⟨(p_mb7 (List.mem_of_getElem? (i := 150) rfl) rfl), (p_mb0 (List.mem_of_getElem? (i := 105) rfl) rfl), (p_mb1 (List.mem_of_getElem? (i := 12) rfl) rfl), (p_mb7 (List.mem_of_getElem? (i := 151) rfl) rfl)⟩
theorem cp_X12_upperOf : p_par m_X12_upperOf.1 1 = true := by decide +kernel
theorem cv_X12_wideOf : p_cv m_X12_wideOf := ⟨(p_mb7 (List.mem_of_getElem? (i := 125) rfl) rfl), (p_mb0 (List.mem_of_getElem? (i := 101) rfl) rfl), (p_mb1 (List.mem_of_getElem? (i := 12) rfl) rfl), (p_mb7 (List.mem_of_getElem? (i := 126) rfl) rfl)⟩
theorem cp_X12_wideOf : p_par m_X12_wideOf.1 1 = true := by decide +kernel
theorem cv_X12_highOf : p_cv m_X12_highOf := ⟨(p_mb7 (List.mem_of_getElem? (i := 135) rfl) rfl), (p_mb0 (List.mem_of_getElem? (i := 102) rfl) rfl), (p_mb1 (List.mem_of_getElem? (i := 12) rfl) rfl), (p_mb7 (List.mem_of_getElem? (i := 136) rfl) rfl)⟩
theorem cp_X12_highOf : p_par m_X12_highOf.1 1 = true := by decide +kernel
theorem cv_X12_edgeOf : p_cv m_X12_edgeOf := ⟨(p_mb7 (List.mem_of_getElem? (i := 139) rfl) rfl), (p_mb0 (List.mem_of_getElem? (i := 103) rfl) rfl), (p_mb1 (List.mem_of_getElem? (i := 12) rfl) rfl), (p_mb7 (List.mem_of_getElem? (i := 140) rfl) rfl)⟩
theorem cp_X12_edgeOf : p_par m_X12_edgeOf.1 1 = true := by decide +kernel
theorem cv_X12_get : p_cv m_X12_get := ⟨(p_mb7 (List.mem_of_getElem? (i := 66) rfl) rfl), (p_mb0 (List.mem_of_getElem? (i := 89) rfl) rfl), (p_mb1 (List.mem_of_getElem? (i := 12) rfl) rfl), (p_mb7 (List.mem_of_getElem? (i := 67) rfl) rfl)⟩
theorem cp_X12_get : p_par m_X12_get.1 2 = true := by decide +kernel
theorem cv_X12_set : p_cv m_X12_set := ⟨(p_mb7 (List.mem_of_getElem? (i := 54) rfl) rfl), (p_mb0 (List.mem_of_getElem? (i := 87) rfl) rfl), (p_mb1 (List.mem_of_getElem? (i := 12) rfl) rfl), (p_mb7 (List.mem_of_getElem? (i := 55) rfl) rfl)⟩
theorem cp_X12_set : p_par m_X12_set.1 3 = true := by decide +kernel
theorem cv_X12_isSold : p_cv m_X12_isSold := ⟨(p_mb7 (List.mem_of_getElem? (i := 93) rfl) rfl), (p_mb0 (List.mem_of_getElem? (i := 94) rfl) rfl), (p_mb1 (List.mem_of_getElem? (i := 12) rfl) rfl), (p_mb7 (List.mem_of_getElem? (i := 94) rfl) rfl)⟩
theorem cp_X12_isSold : p_par m_X12_isSold.1 1 = true := by decide +kernel
theorem cv_X12_isWater : p_cv m_X12_isWater := ⟨(p_mb7 (List.mem_of_getElem? (i := 193) rfl) rfl), (p_mb0 (List.mem_of_getElem? (i := 112) rfl) rfl), (p_mb1 (List.mem_of_getElem? (i := 12) rfl) rfl), (p_mb7 (List.mem_of_getElem? (i := 194) rfl) rfl)⟩
theorem cp_X12_isWater : p_par m_X12_isWater.1 1 = true := by decide +kernel
theorem cv_X12_pond : p_cv m_X12_pond := ⟨(p_mb6 (List.mem_of_getElem? (i := 118) rfl) rfl), (p_mb6 (List.mem_of_getElem? (i := 119) rfl) rfl), (p_mb1 (List.mem_of_getElem? (i := 12) rfl) rfl), (p_mb6 (List.mem_of_getElem? (i := 120) rfl) rfl)⟩
theorem cp_X12_pond : p_par m_X12_pond.1 2 = true := by decide +kernel
theorem cv_X12_sight : p_cv m_X12_sight := ⟨(p_mb6 (List.mem_of_getElem? (i := 125) rfl) rfl), (p_mb6 (List.mem_of_getElem? (i := 126) rfl) rfl), (p_mb1 (List.mem_of_getElem? (i := 12) rfl) rfl), (p_mb6 (List.mem_of_getElem? (i := 127) rfl) rfl)⟩
theorem cp_X12_sight : p_par m_X12_sight.1 6 = true := by decide +kernel
theorem cv_X12_isSight : p_cv m_X12_isSight := ⟨(p_mb8 (List.mem_of_getElem? (i := 17) rfl) rfl), (p_mb0 (List.mem_of_getElem? (i := 121) rfl) rfl), (p_mb1 (List.mem_of_getElem? (i := 12) rfl) rfl), (p_mb8 (List.mem_of_getElem? (i := 18) rfl) rfl)⟩
theorem cp_X12_isSight : p_par m_X12_isSight.1 1 = true := by decide +kernel
theorem cv_X12_sightOf : p_cv m_X12_sightOf := ⟨(p_mb7 (List.mem_of_getElem? (i := 213) rfl) rfl), (p_mb0 (List.mem_of_getElem? (i := 117) rfl) rfl), (p_mb1 (List.mem_of_getElem? (i := 12) rfl) rfl), (p_mb7 (List.mem_of_getElem? (i := 214) rfl) rfl)⟩
theorem cp_X12_sightOf : p_par m_X12_sightOf.1 2 = true := by decide +kernel
theorem cs_X12_common : p_cs m_X12_common := ⟨(p_mb7 (List.mem_of_getElem? (i := 216) rfl) rfl), (p_mb1 (List.mem_of_getElem? (i := 12) rfl) rfl), (p_mb7 (List.mem_of_getElem? (i := 217) rfl) rfl)⟩
theorem cp_X12_common : p_par m_X12_common.1 4 = true := by decide +kernel
theorem cv_X12_cellsIn : p_cv m_X12_cellsIn := ⟨(p_mb7 (List.mem_of_getElem? (i := 209) rfl) rfl), (p_mb0 (List.mem_of_getElem? (i := 116) rfl) rfl), (p_mb1 (List.mem_of_getElem? (i := 12) rfl) rfl), (p_mb7 (List.mem_of_getElem? (i := 210) rfl) rfl)⟩
theorem cp_X12_cellsIn : p_par m_X12_cellsIn.1 2 = true := by decide +kernel
theorem cv_X12_areaOf : p_cv m_X12_areaOf := ⟨(p_mb8 (List.mem_of_getElem? (i := 137) rfl) rfl), (p_mb0 (List.mem_of_getElem? (i := 133) rfl) rfl), (p_mb1 (List.mem_of_getElem? (i := 12) rfl) rfl), (p_mb8 (List.mem_of_getElem? (i := 138) rfl) rfl)⟩
theorem cp_X12_areaOf : p_par m_X12_areaOf.1 1 = true := by decide +kernel
theorem cv_X12_sightsIn : p_cv m_X12_sightsIn := ⟨(p_mb7 (List.mem_of_getElem? (i := 205) rfl) rfl), (p_mb0 (List.mem_of_getElem? (i := 115) rfl) rfl), (p_mb1 (List.mem_of_getElem? (i := 12) rfl) rfl), (p_mb7 (List.mem_of_getElem? (i := 206) rfl) rfl)⟩
theorem cp_X12_sightsIn : p_par m_X12_sightsIn.1 1 = true := by decide +kernel
theorem cv_X12_kindsIn : p_cv m_X12_kindsIn := ⟨(p_mb7 (List.mem_of_getElem? (i := 220) rfl) rfl), (p_mb0 (List.mem_of_getElem? (i := 118) rfl) rfl), (p_mb1 (List.mem_of_getElem? (i := 12) rfl) rfl), (p_mb7 (List.mem_of_getElem? (i := 221) rfl) rfl)⟩
theorem cp_X12_kindsIn : p_par m_X12_kindsIn.1 1 = true := by decide +kernel
theorem cv_X12_four : p_cv m_X12_four := ⟨(p_mb6 (List.mem_of_getElem? (i := 134) rfl) rfl), (p_mb0 (List.mem_of_getElem? (i := 60) rfl) rfl), (p_mb1 (List.mem_of_getElem? (i := 12) rfl) rfl), (p_mb6 (List.mem_of_getElem? (i := 135) rfl) rfl)⟩
theorem cp_X12_four : p_par m_X12_four.1 1 = true := by decide +kernel
theorem cv_X12_feed : p_cv m_X12_feed := ⟨(p_mb6 (List.mem_of_getElem? (i := 129) rfl) rfl), (p_mb6 (List.mem_of_getElem? (i := 130) rfl) rfl), (p_mb1 (List.mem_of_getElem? (i := 12) rfl) rfl), (p_mb6 (List.mem_of_getElem? (i := 131) rfl) rfl)⟩
theorem cp_X12_feed : p_par m_X12_feed.1 5 = true := by decide +kernel
theorem cv_X12_end : p_cv m_X12_end := ⟨(p_mb6 (List.mem_of_getElem? (i := 137) rfl) rfl), (p_mb6 (List.mem_of_getElem? (i := 138) rfl) rfl), (p_mb1 (List.mem_of_getElem? (i := 12) rfl) rfl), (p_mb6 (List.mem_of_getElem? (i := 139) rfl) rfl)⟩
theorem cp_X12_end : p_par m_X12_end.1 1 = true := by decide +kernel
theorem cv_X12_byteAt : p_cv m_X12_byteAt := ⟨(p_mb6 (List.mem_of_getElem? (i := 154) rfl) rfl), (p_mb0 (List.mem_of_getElem? (i := 63) rfl) rfl), (p_mb1 (List.mem_of_getElem? (i := 12) rfl) rfl), (p_mb6 (List.mem_of_getElem? (i := 155) rfl) rfl)⟩
theorem cp_X12_byteAt : p_par m_X12_byteAt.1 1 = true := by decide +kernel
theorem cs_X12_isLetterByte : p_cs m_X12_isLetterByte := ⟨(p_mb6 (List.mem_of_getElem? (i := 161) rfl) rfl), (p_mb1 (List.mem_of_getElem? (i := 12) rfl) rfl), (p_mb6 (List.mem_of_getElem? (i := 162) rfl) rfl)⟩
theorem cp_X12_isLetterByte : p_par m_X12_isLetterByte.1 1 = true := by decide +kernel
theorem cs_X12_isFigure : p_cs m_X12_isFigure := ⟨(p_mb6 (List.mem_of_getElem? (i := 157) rfl) rfl), (p_mb1 (List.mem_of_getElem? (i := 12) rfl) rfl), (p_mb6 (List.mem_of_getElem? (i := 158) rfl) rfl)⟩
theorem cp_X12_isFigure : p_par m_X12_isFigure.1 1 = true := by decide +kernel
theorem cs_X12_isSign : p_cs m_X12_isSign := ⟨(p_mb6 (List.mem_of_getElem? (i := 165) rfl) rfl), (p_mb1 (List.mem_of_getElem? (i := 12) rfl) rfl), (p_mb6 (List.mem_of_getElem? (i := 166) rfl) rfl)⟩
theorem cp_X12_isSign : p_par m_X12_isSign.1 1 = true := by decide +kernel
theorem cv_X12_nextToken : p_cv m_X12_nextToken := ⟨(p_mb6 (List.mem_of_getElem? (i := 150) rfl) rfl), (p_mb0 (List.mem_of_getElem? (i := 62) rfl) rfl), (p_mb1 (List.mem_of_getElem? (i := 12) rfl) rfl), (p_mb6 (List.mem_of_getElem? (i := 151) rfl) rfl)⟩
theorem cp_X12_nextToken : p_par m_X12_nextToken.1 0 = true := by decide +kernel
theorem cs_X12_w2 : p_cs m_X12_w2 := ⟨(p_mb6 (List.mem_of_getElem? (i := 185) rfl) rfl), (p_mb1 (List.mem_of_getElem? (i := 12) rfl) rfl), (p_mb6 (List.mem_of_getElem? (i := 186) rfl) rfl)⟩
theorem cp_X12_w2 : p_par m_X12_w2.1 2 = true := by decide +kernel
theorem cs_X12_w3 : p_cs m_X12_w3 := ⟨(p_mb6 (List.mem_of_getElem? (i := 182) rfl) rfl), (p_mb1 (List.mem_of_getElem? (i := 12) rfl) rfl), (p_mb6 (List.mem_of_getElem? (i := 183) rfl) rfl)⟩
theorem cp_X12_w3 : p_par m_X12_w3.1 3 = true := by decide +kernel
theorem cs_X12_w4 : p_cs m_X12_w4 := ⟨(p_mb6 (List.mem_of_getElem? (i := 179) rfl) rfl), (p_mb1 (List.mem_of_getElem? (i := 12) rfl) rfl), (p_mb6 (List.mem_of_getElem? (i := 180) rfl) rfl)⟩
theorem cp_X12_w4 : p_par m_X12_w4.1 4 = true := by decide +kernel
theorem cs_X12_w5 : p_cs m_X12_w5 := ⟨(p_mb6 (List.mem_of_getElem? (i := 176) rfl) rfl), (p_mb1 (List.mem_of_getElem? (i := 12) rfl) rfl), (p_mb6 (List.mem_of_getElem? (i := 177) rfl) rfl)⟩
theorem cp_X12_w5 : p_par m_X12_w5.1 5 = true := by decide +kernel
theorem cs_X12_w6 : p_cs m_X12_w6 := ⟨(p_mb7 (List.mem_of_getElem? (i := 26) rfl) rfl), (p_mb1 (List.mem_of_getElem? (i := 12) rfl) rfl), (p_mb7 (List.mem_of_getElem? (i := 27) rfl) rfl)⟩
theorem cp_X12_w6 : p_par m_X12_w6.1 6 = true := by decide +kernel
theorem cv_X12_isWord : p_cv m_X12_isWord := ⟨(p_mb6 (List.mem_of_getElem? (i := 189) rfl) rfl), (p_mb0 (List.mem_of_getElem? (i := 66) rfl) rfl), (p_mb1 (List.mem_of_getElem? (i := 12) rfl) rfl), (p_mb6 (List.mem_of_getElem? (i := 190) rfl) rfl)⟩
theorem cp_X12_isWord : p_par m_X12_isWord.1 1 = true := by decide +kernel
theorem cv_X12_emit : p_cv m_X12_emit := ⟨(p_mb7 (List.mem_of_getElem? (i := 7) rfl) rfl), (p_mb0 (List.mem_of_getElem? (i := 79) rfl) rfl), (p_mb1 (List.mem_of_getElem? (i := 12) rfl) rfl), (p_mb7 (List.mem_of_getElem? (i := 8) rfl) rfl)⟩
theorem cp_X12_emit : p_par m_X12_emit.1 2 = true := by decide +kernel
theorem cv_X12_nameOf : p_cv m_X12_nameOf := ⟨(p_mb7 (List.mem_of_getElem? (i := 23) rfl) rfl), (p_mb0 (List.mem_of_getElem? (i := 83) rfl) rfl), (p_mb1 (List.mem_of_getElem? (i := 12) rfl) rfl), (p_mb7 (List.mem_of_getElem? (i := 24) rfl) rfl)⟩
theorem cp_X12_nameOf : p_par m_X12_nameOf.1 0 = true := by decide +kernel
theorem cv_X12_isOf : p_cv m_X12_isOf := ⟨(p_mb7 (List.mem_of_getElem? (i := 30) rfl) rfl), (p_mb0 (List.mem_of_getElem? (i := 84) rfl) rfl), (p_mb1 (List.mem_of_getElem? (i := 12) rfl) rfl), (p_mb7 (List.mem_of_getElem? (i := 31) rfl) rfl)⟩
theorem cp_X12_isOf : p_par m_X12_isOf.1 1 = true := by decide +kernel
theorem cs_X12_rank : p_cs m_X12_rank := ⟨(p_mb6 (List.mem_of_getElem? (i := 239) rfl) rfl), (p_mb1 (List.mem_of_getElem? (i := 12) rfl) rfl), (p_mb7 (List.mem_of_getElem? (i := 0) rfl) rfl)⟩
theorem cp_X12_rank : p_par m_X12_rank.1 1 = true := by decide +kernel
theorem cv_X12_settle : p_cv m_X12_settle := ⟨(p_mb7 (List.mem_of_getElem? (i := 3) rfl) rfl), (p_mb0 (List.mem_of_getElem? (i := 78) rfl) rfl), (p_mb1 (List.mem_of_getElem? (i := 12) rfl) rfl), (p_mb7 (List.mem_of_getElem? (i := 4) rfl) rfl)⟩
theorem cp_X12_settle : p_par m_X12_settle.1 1 = true := by decide +kernel
theorem cv_X12_isNth : p_cv m_X12_isNth := ⟨(p_mb7 (List.mem_of_getElem? (i := 34) rfl) rfl), (p_mb0 (List.mem_of_getElem? (i := 85) rfl) rfl), (p_mb1 (List.mem_of_getElem? (i := 12) rfl) rfl), (p_mb7 (List.mem_of_getElem? (i := 35) rfl) rfl)⟩
theorem cp_X12_isNth : p_par m_X12_isNth.1 0 = true := by decide +kernel
theorem cv_X12_faultOfOne : p_cv m_X12_faultOfOne := ⟨(p_mb7 (List.mem_of_getElem? (i := 19) rfl) rfl), (p_mb0 (List.mem_of_getElem? (i := 82) rfl) rfl), (p_mb1 (List.mem_of_getElem? (i := 12) rfl) rfl), (p_mb7 (List.mem_of_getElem? (i := 20) rfl) rfl)⟩
theorem cp_X12_faultOfOne : p_par m_X12_faultOfOne.1 0 = true := by decide +kernel
theorem cv_X12_beginOne : p_cv m_X12_beginOne := ⟨(p_mb7 (List.mem_of_getElem? (i := 38) rfl) rfl), (p_mb0 (List.mem_of_getElem? (i := 86) rfl) rfl), (p_mb1 (List.mem_of_getElem? (i := 12) rfl) rfl), (p_mb7 (List.mem_of_getElem? (i := 39) rfl) rfl)⟩
theorem cp_X12_beginOne : p_par m_X12_beginOne.1 0 = true := by decide +kernel
theorem cv_X12_openNow : p_cv m_X12_openNow := ⟨(p_mb7 (List.mem_of_getElem? (i := 11) rfl) rfl), (p_mb0 (List.mem_of_getElem? (i := 80) rfl) rfl), (p_mb1 (List.mem_of_getElem? (i := 12) rfl) rfl), (p_mb7 (List.mem_of_getElem? (i := 12) rfl) rfl)⟩
theorem cp_X12_openNow : p_par m_X12_openNow.1 0 = true := by decide +kernel
theorem cv_X12_ofNth : p_cv m_X12_ofNth := ⟨(p_mb6 (List.mem_of_getElem? (i := 236) rfl) rfl), (p_mb0 (List.mem_of_getElem? (i := 77) rfl) rfl), (p_mb1 (List.mem_of_getElem? (i := 12) rfl) rfl), (p_mb6 (List.mem_of_getElem? (i := 237) rfl) rfl)⟩
theorem cp_X12_ofNth : p_par m_X12_ofNth.1 0 = true := by decide +kernel
theorem cv_X12_nextOfNth : p_cv m_X12_nextOfNth := ⟨(p_mb7 (List.mem_of_getElem? (i := 15) rfl) rfl), (p_mb0 (List.mem_of_getElem? (i := 81) rfl) rfl), (p_mb1 (List.mem_of_getElem? (i := 12) rfl) rfl), (p_mb7 (List.mem_of_getElem? (i := 16) rfl) rfl)⟩
theorem cp_X12_nextOfNth : p_par m_X12_nextOfNth.1 0 = true := by decide +kernel
theorem cv_X12_behindOne : p_cv m_X12_behindOne := ⟨(p_mb6 (List.mem_of_getElem? (i := 232) rfl) rfl), (p_mb0 (List.mem_of_getElem? (i := 76) rfl) rfl), (p_mb1 (List.mem_of_getElem? (i := 12) rfl) rfl), (p_mb6 (List.mem_of_getElem? (i := 233) rfl) rfl)⟩
theorem cp_X12_behindOne : p_par m_X12_behindOne.1 0 = true := by decide +kernel
theorem cv_X12_summed : p_cv m_X12_summed := ⟨(p_mb6 (List.mem_of_getElem? (i := 228) rfl) rfl), (p_mb0 (List.mem_of_getElem? (i := 75) rfl) rfl), (p_mb1 (List.mem_of_getElem? (i := 12) rfl) rfl), (p_mb6 (List.mem_of_getElem? (i := 229) rfl) rfl)⟩
theorem cp_X12_summed : p_par m_X12_summed.1 0 = true := by decide +kernel
theorem cv_X12_figure : p_cv m_X12_figure := ⟨(p_mb6 (List.mem_of_getElem? (i := 204) rfl) rfl), (p_mb0 (List.mem_of_getElem? (i := 69) rfl) rfl), (p_mb1 (List.mem_of_getElem? (i := 12) rfl) rfl), (p_mb6 (List.mem_of_getElem? (i := 205) rfl) rfl)⟩
theorem cp_X12_figure : p_par m_X12_figure.1 3 = true := by decide +kernel
theorem cv_X12_worded : p_cv m_X12_worded := ⟨(p_mb6 (List.mem_of_getElem? (i := 208) rfl) rfl), (p_mb0 (List.mem_of_getElem? (i := 70) rfl) rfl), (p_mb1 (List.mem_of_getElem? (i := 12) rfl) rfl), (p_mb6 (List.mem_of_getElem? (i := 209) rfl) rfl)⟩
theorem cp_X12_worded : p_par m_X12_worded.1 4 = true := by decide +kernel
theorem cv_X12_signed : p_cv m_X12_signed := ⟨(p_mb6 (List.mem_of_getElem? (i := 216) rfl) rfl), (p_mb0 (List.mem_of_getElem? (i := 72) rfl) rfl), (p_mb1 (List.mem_of_getElem? (i := 12) rfl) rfl), (p_mb6 (List.mem_of_getElem? (i := 217) rfl) rfl)⟩
theorem cp_X12_signed : p_par m_X12_signed.1 4 = true := by decide +kernel
theorem cv_X12_lawClause : p_cv m_X12_lawClause := ⟨(p_mb6 (List.mem_of_getElem? (i := 224) rfl) rfl), (p_mb0 (List.mem_of_getElem? (i := 74) rfl) rfl), (p_mb1 (List.mem_of_getElem? (i := 12) rfl) rfl), (p_mb6 (List.mem_of_getElem? (i := 225) rfl) rfl)⟩
theorem cp_X12_lawClause : p_par m_X12_lawClause.1 1 = true := by decide +kernel
theorem cv_X12_pondClause : p_cv m_X12_pondClause := ⟨(p_mb6 (List.mem_of_getElem? (i := 200) rfl) rfl), (p_mb0 (List.mem_of_getElem? (i := 68) rfl) rfl), (p_mb1 (List.mem_of_getElem? (i := 12) rfl) rfl), (p_mb6 (List.mem_of_getElem? (i := 201) rfl) rfl)⟩
theorem cp_X12_pondClause : p_par m_X12_pondClause.1 1 = true := by decide +kernel
theorem cv_X12_sightClause : p_cv m_X12_sightClause := ⟨(p_mb6 (List.mem_of_getElem? (i := 212) rfl) rfl), (p_mb0 (List.mem_of_getElem? (i := 71) rfl) rfl), (p_mb1 (List.mem_of_getElem? (i := 12) rfl) rfl), (p_mb6 (List.mem_of_getElem? (i := 213) rfl) rfl)⟩
theorem cp_X12_sightClause : p_par m_X12_sightClause.1 1 = true := by decide +kernel
theorem cv_X12_strawClause : p_cv m_X12_strawClause := ⟨(p_mb6 (List.mem_of_getElem? (i := 220) rfl) rfl), (p_mb0 (List.mem_of_getElem? (i := 73) rfl) rfl), (p_mb1 (List.mem_of_getElem? (i := 12) rfl) rfl), (p_mb6 (List.mem_of_getElem? (i := 221) rfl) rfl)⟩
theorem cp_X12_strawClause : p_par m_X12_strawClause.1 1 = true := by decide +kernel
theorem cv_X12_body : p_cv m_X12_body := ⟨(p_mb6 (List.mem_of_getElem? (i := 196) rfl) rfl), (p_mb0 (List.mem_of_getElem? (i := 67) rfl) rfl), (p_mb1 (List.mem_of_getElem? (i := 12) rfl) rfl), (p_mb6 (List.mem_of_getElem? (i := 197) rfl) rfl)⟩
theorem cp_X12_body : p_par m_X12_body.1 2 = true := by decide +kernel
theorem cv_X12_sortOf : p_cv m_X12_sortOf := ⟨(p_mb6 (List.mem_of_getElem? (i := 173) rfl) rfl), (p_mb0 (List.mem_of_getElem? (i := 65) rfl) rfl), (p_mb1 (List.mem_of_getElem? (i := 12) rfl) rfl), (p_mb6 (List.mem_of_getElem? (i := 174) rfl) rfl)⟩
theorem cp_X12_sortOf : p_par m_X12_sortOf.1 0 = true := by decide +kernel
theorem cv_X12_clause : p_cv m_X12_clause := ⟨(p_mb6 (List.mem_of_getElem? (i := 169) rfl) rfl), (p_mb0 (List.mem_of_getElem? (i := 64) rfl) rfl), (p_mb1 (List.mem_of_getElem? (i := 12) rfl) rfl), (p_mb6 (List.mem_of_getElem? (i := 170) rfl) rfl)⟩
theorem cp_X12_clause : p_par m_X12_clause.1 0 = true := by decide +kernel
theorem cv_X12_readText : p_cv m_X12_readText := ⟨(p_mb6 (List.mem_of_getElem? (i := 146) rfl) rfl), (p_mb0 (List.mem_of_getElem? (i := 61) rfl) rfl), (p_mb1 (List.mem_of_getElem? (i := 12) rfl) rfl), (p_mb6 (List.mem_of_getElem? (i := 147) rfl) rfl)⟩
theorem cp_X12_readText : p_par m_X12_readText.1 0 = true := by decide +kernel
theorem cv_X12_text : p_cv m_X12_text := ⟨(p_mb6 (List.mem_of_getElem? (i := 141) rfl) rfl), (p_mb6 (List.mem_of_getElem? (i := 142) rfl) rfl), (p_mb1 (List.mem_of_getElem? (i := 12) rfl) rfl), (p_mb6 (List.mem_of_getElem? (i := 143) rfl) rfl)⟩
theorem cp_X12_text : p_par m_X12_text.1 0 = true := by decide +kernel
theorem cv_X12_fault : p_cv m_X12_fault := ⟨(p_mb7 (List.mem_of_getElem? (i := 41) rfl) rfl), (p_mb7 (List.mem_of_getElem? (i := 42) rfl) rfl), (p_mb1 (List.mem_of_getElem? (i := 12) rfl) rfl), (p_mb7 (List.mem_of_getElem? (i := 43) rfl) rfl)⟩
theorem cp_X12_fault : p_par m_X12_fault.1 1 = true := by decide +kernel
theorem cv_X12_by : p_cv m_X12_by := ⟨(p_mb7 (List.mem_of_getElem? (i := 45) rfl) rfl), (p_mb7 (List.mem_of_getElem? (i := 46) rfl) rfl), (p_mb1 (List.mem_of_getElem? (i := 12) rfl) rfl), (p_mb7 (List.mem_of_getElem? (i := 47) rfl) rfl)⟩
theorem cp_X12_by : p_par m_X12_by.1 1 = true := by decide +kernel
theorem cs_X12_held : p_cs m_X12_held := ⟨(p_mb7 (List.mem_of_getElem? (i := 164) rfl) rfl), (p_mb1 (List.mem_of_getElem? (i := 12) rfl) rfl), (p_mb7 (List.mem_of_getElem? (i := 165) rfl) rfl)⟩
theorem cp_X12_held : p_par m_X12_held.1 1 = true := by decide +kernel
theorem cs_X12_two : p_cs m_X12_two := ⟨(p_mb7 (List.mem_of_getElem? (i := 161) rfl) rfl), (p_mb1 (List.mem_of_getElem? (i := 12) rfl) rfl), (p_mb7 (List.mem_of_getElem? (i := 162) rfl) rfl)⟩
theorem cp_X12_two : p_par m_X12_two.1 3 = true := by decide +kernel
theorem cv_X12_worked : p_cv m_X12_worked := ⟨(p_mb7 (List.mem_of_getElem? (i := 158) rfl) rfl), (p_mb0 (List.mem_of_getElem? (i := 107) rfl) rfl), (p_mb1 (List.mem_of_getElem? (i := 12) rfl) rfl), (p_mb7 (List.mem_of_getElem? (i := 159) rfl) rfl)⟩
theorem cp_X12_worked : p_par m_X12_worked.1 2 = true := by decide +kernel
theorem cv_X12_says : p_cv m_X12_says := ⟨(p_mb7 (List.mem_of_getElem? (i := 154) rfl) rfl), (p_mb0 (List.mem_of_getElem? (i := 106) rfl) rfl), (p_mb1 (List.mem_of_getElem? (i := 12) rfl) rfl), (p_mb7 (List.mem_of_getElem? (i := 155) rfl) rfl)⟩
theorem cp_X12_says : p_par m_X12_says.1 4 = true := by decide +kernel
theorem cv_X12_name : p_cv m_X12_name := ⟨(p_mb7 (List.mem_of_getElem? (i := 121) rfl) rfl), (p_mb0 (List.mem_of_getElem? (i := 100) rfl) rfl), (p_mb1 (List.mem_of_getElem? (i := 12) rfl) rfl), (p_mb7 (List.mem_of_getElem? (i := 122) rfl) rfl)⟩
theorem cp_X12_name : p_par m_X12_name.1 5 = true := by decide +kernel
theorem cv_X12_meltsBy : p_cv m_X12_meltsBy := ⟨(p_mb7 (List.mem_of_getElem? (i := 117) rfl) rfl), (p_mb0 (List.mem_of_getElem? (i := 99) rfl) rfl), (p_mb1 (List.mem_of_getElem? (i := 12) rfl) rfl), (p_mb7 (List.mem_of_getElem? (i := 118) rfl) rfl)⟩
theorem cp_X12_meltsBy : p_par m_X12_meltsBy.1 6 = true := by decide +kernel
theorem cv_X12_rotsBy : p_cv m_X12_rotsBy := ⟨(p_mb7 (List.mem_of_getElem? (i := 181) rfl) rfl), (p_mb0 (List.mem_of_getElem? (i := 110) rfl) rfl), (p_mb1 (List.mem_of_getElem? (i := 12) rfl) rfl), (p_mb7 (List.mem_of_getElem? (i := 182) rfl) rfl)⟩
theorem cp_X12_rotsBy : p_par m_X12_rotsBy.1 5 = true := by decide +kernel
theorem cv_X12_meltsOf : p_cv m_X12_meltsOf := ⟨(p_mb7 (List.mem_of_getElem? (i := 113) rfl) rfl), (p_mb0 (List.mem_of_getElem? (i := 98) rfl) rfl), (p_mb1 (List.mem_of_getElem? (i := 12) rfl) rfl), (p_mb7 (List.mem_of_getElem? (i := 114) rfl) rfl)⟩
theorem cp_X12_meltsOf : p_par m_X12_meltsOf.1 1 = true := by decide +kernel
theorem cv_X12_sellsOf : p_cv m_X12_sellsOf := ⟨(p_mb7 (List.mem_of_getElem? (i := 201) rfl) rfl), (p_mb0 (List.mem_of_getElem? (i := 114) rfl) rfl), (p_mb1 (List.mem_of_getElem? (i := 12) rfl) rfl), (p_mb7 (List.mem_of_getElem? (i := 202) rfl) rfl)⟩
theorem cp_X12_sellsOf : p_par m_X12_sellsOf.1 1 = true := by decide +kernel
theorem cv_X12_keep : p_cv m_X12_keep := ⟨(p_mb7 (List.mem_of_getElem? (i := 62) rfl) rfl), (p_mb0 (List.mem_of_getElem? (i := 88) rfl) rfl), (p_mb1 (List.mem_of_getElem? (i := 12) rfl) rfl), (p_mb7 (List.mem_of_getElem? (i := 63) rfl) rfl)⟩
theorem cp_X12_keep : p_par m_X12_keep.1 0 = true := by decide +kernel
theorem cv_X12_undo : p_cv m_X12_undo := ⟨(p_mb7 (List.mem_of_getElem? (i := 49) rfl) rfl), (p_mb7 (List.mem_of_getElem? (i := 50) rfl) rfl), (p_mb1 (List.mem_of_getElem? (i := 12) rfl) rfl), (p_mb7 (List.mem_of_getElem? (i := 51) rfl) rfl)⟩
theorem cp_X12_undo : p_par m_X12_undo.1 0 = true := by decide +kernel
theorem cv_X12_saw : p_cv m_X12_saw := ⟨(p_mb7 (List.mem_of_getElem? (i := 57) rfl) rfl), (p_mb7 (List.mem_of_getElem? (i := 58) rfl) rfl), (p_mb1 (List.mem_of_getElem? (i := 12) rfl) rfl), (p_mb7 (List.mem_of_getElem? (i := 59) rfl) rfl)⟩
theorem cp_X12_saw : p_par m_X12_saw.1 2 = true := by decide +kernel
theorem cv_X12_canLay : p_cv m_X12_canLay := ⟨(p_mb7 (List.mem_of_getElem? (i := 85) rfl) rfl), (p_mb0 (List.mem_of_getElem? (i := 92) rfl) rfl), (p_mb1 (List.mem_of_getElem? (i := 12) rfl) rfl), (p_mb7 (List.mem_of_getElem? (i := 86) rfl) rfl)⟩
theorem cp_X12_canLay : p_par m_X12_canLay.1 2 = true := by decide +kernel
theorem cv_X12_layNow : p_cv m_X12_layNow := ⟨(p_mb7 (List.mem_of_getElem? (i := 97) rfl) rfl), (p_mb0 (List.mem_of_getElem? (i := 95) rfl) rfl), (p_mb1 (List.mem_of_getElem? (i := 12) rfl) rfl), (p_mb7 (List.mem_of_getElem? (i := 98) rfl) rfl)⟩
theorem cp_X12_layNow : p_par m_X12_layNow.1 2 = true := by decide +kernel
theorem cv_X12_straw : p_cv m_X12_straw := ⟨(p_mb7 (List.mem_of_getElem? (i := 80) rfl) rfl), (p_mb7 (List.mem_of_getElem? (i := 81) rfl) rfl), (p_mb1 (List.mem_of_getElem? (i := 12) rfl) rfl), (p_mb7 (List.mem_of_getElem? (i := 82) rfl) rfl)⟩
theorem cp_X12_straw : p_par m_X12_straw.1 2 = true := by decide +kernel
theorem cv_X12_drawn : p_cv m_X12_drawn := ⟨(p_mb7 (List.mem_of_getElem? (i := 173) rfl) rfl), (p_mb0 (List.mem_of_getElem? (i := 108) rfl) rfl), (p_mb1 (List.mem_of_getElem? (i := 12) rfl) rfl), (p_mb7 (List.mem_of_getElem? (i := 174) rfl) rfl)⟩
theorem cp_X12_drawn : p_par m_X12_drawn.1 1 = true := by decide +kernel
theorem cv_X12_anew : p_cv m_X12_anew := ⟨(p_mb7 (List.mem_of_getElem? (i := 177) rfl) rfl), (p_mb0 (List.mem_of_getElem? (i := 109) rfl) rfl), (p_mb1 (List.mem_of_getElem? (i := 12) rfl) rfl), (p_mb7 (List.mem_of_getElem? (i := 178) rfl) rfl)⟩
theorem cp_X12_anew : p_par m_X12_anew.1 0 = true := by decide +kernel
theorem cv_X12_pass : p_cv m_X12_pass := ⟨(p_mb7 (List.mem_of_getElem? (i := 109) rfl) rfl), (p_mb0 (List.mem_of_getElem? (i := 97) rfl) rfl), (p_mb1 (List.mem_of_getElem? (i := 12) rfl) rfl), (p_mb7 (List.mem_of_getElem? (i := 110) rfl) rfl)⟩
theorem cp_X12_pass : p_par m_X12_pass.1 0 = true := by decide +kernel
theorem cv_X12_arePassed : p_cv m_X12_arePassed := ⟨(p_mb7 (List.mem_of_getElem? (i := 105) rfl) rfl), (p_mb0 (List.mem_of_getElem? (i := 96) rfl) rfl), (p_mb1 (List.mem_of_getElem? (i := 12) rfl) rfl), (p_mb7 (List.mem_of_getElem? (i := 106) rfl) rfl)⟩
theorem cp_X12_arePassed : p_par m_X12_arePassed.1 1 = true := by decide +kernel
theorem cv_X12_day : p_cv m_X12_day := ⟨(p_mb7 (List.mem_of_getElem? (i := 100) rfl) rfl), (p_mb7 (List.mem_of_getElem? (i := 101) rfl) rfl), (p_mb1 (List.mem_of_getElem? (i := 12) rfl) rfl), (p_mb7 (List.mem_of_getElem? (i := 102) rfl) rfl)⟩
theorem cp_X12_day : p_par m_X12_day.1 1 = true := by decide +kernel
theorem cv_X12_canSell : p_cv m_X12_canSell := ⟨(p_mb7 (List.mem_of_getElem? (i := 189) rfl) rfl), (p_mb0 (List.mem_of_getElem? (i := 111) rfl) rfl), (p_mb1 (List.mem_of_getElem? (i := 12) rfl) rfl), (p_mb7 (List.mem_of_getElem? (i := 190) rfl) rfl)⟩
theorem cp_X12_canSell : p_par m_X12_canSell.1 1 = true := by decide +kernel
theorem cv_X12_sellNow : p_cv m_X12_sellNow := ⟨(p_mb7 (List.mem_of_getElem? (i := 197) rfl) rfl), (p_mb0 (List.mem_of_getElem? (i := 113) rfl) rfl), (p_mb1 (List.mem_of_getElem? (i := 12) rfl) rfl), (p_mb7 (List.mem_of_getElem? (i := 198) rfl) rfl)⟩
theorem cp_X12_sellNow : p_par m_X12_sellNow.1 1 = true := by decide +kernel
theorem cv_X12_sell : p_cv m_X12_sell := ⟨(p_mb7 (List.mem_of_getElem? (i := 184) rfl) rfl), (p_mb7 (List.mem_of_getElem? (i := 185) rfl) rfl), (p_mb1 (List.mem_of_getElem? (i := 12) rfl) rfl), (p_mb7 (List.mem_of_getElem? (i := 186) rfl) rfl)⟩
theorem cp_X12_sell : p_par m_X12_sell.1 1 = true := by decide +kernel
theorem cv_X12_isPlayed : p_cv m_X12_isPlayed := ⟨(p_mb7 (List.mem_of_getElem? (i := 228) rfl) rfl), (p_mb0 (List.mem_of_getElem? (i := 119) rfl) rfl), (p_mb1 (List.mem_of_getElem? (i := 12) rfl) rfl), (p_mb7 (List.mem_of_getElem? (i := 229) rfl) rfl)⟩
theorem cp_X12_isPlayed : p_par m_X12_isPlayed.1 1 = true := by decide +kernel
theorem cv_X12_played : p_cv m_X12_played := ⟨(p_mb7 (List.mem_of_getElem? (i := 223) rfl) rfl), (p_mb7 (List.mem_of_getElem? (i := 224) rfl) rfl), (p_mb1 (List.mem_of_getElem? (i := 12) rfl) rfl), (p_mb7 (List.mem_of_getElem? (i := 225) rfl) rfl)⟩
theorem cp_X12_played : p_par m_X12_played.1 1 = true := by decide +kernel
theorem cv_X12_happens : p_cv m_X12_happens := ⟨(p_mb8 (List.mem_of_getElem? (i := 1) rfl) rfl), (p_mb0 (List.mem_of_getElem? (i := 120) rfl) rfl), (p_mb1 (List.mem_of_getElem? (i := 12) rfl) rfl), (p_mb8 (List.mem_of_getElem? (i := 2) rfl) rfl)⟩
theorem cp_X12_happens : p_par m_X12_happens.1 1 = true := by decide +kernel
theorem cv_X12_summer : p_cv m_X12_summer := ⟨(p_mb7 (List.mem_of_getElem? (i := 236) rfl) rfl), (p_mb7 (List.mem_of_getElem? (i := 237) rfl) rfl), (p_mb1 (List.mem_of_getElem? (i := 12) rfl) rfl), (p_mb7 (List.mem_of_getElem? (i := 238) rfl) rfl)⟩
theorem cp_X12_summer : p_par m_X12_summer.1 2 = true := by decide +kernel
theorem cv_X12_block : p_cv m_X12_block := ⟨(p_mb8 (List.mem_of_getElem? (i := 4) rfl) rfl), (p_mb8 (List.mem_of_getElem? (i := 5) rfl) rfl), (p_mb1 (List.mem_of_getElem? (i := 12) rfl) rfl), (p_mb8 (List.mem_of_getElem? (i := 6) rfl) rfl)⟩
theorem cp_X12_block : p_par m_X12_block.1 2 = true := by decide +kernel
theorem cv_X12_blockOf : p_cv m_X12_blockOf := ⟨(p_mb8 (List.mem_of_getElem? (i := 8) rfl) rfl), (p_mb8 (List.mem_of_getElem? (i := 9) rfl) rfl), (p_mb1 (List.mem_of_getElem? (i := 12) rfl) rfl), (p_mb8 (List.mem_of_getElem? (i := 10) rfl) rfl)⟩
theorem cp_X12_blockOf : p_par m_X12_blockOf.1 2 = true := by decide +kernel
theorem cs_X12_through : p_cs m_X12_through := ⟨(p_mb8 (List.mem_of_getElem? (i := 24) rfl) rfl), (p_mb1 (List.mem_of_getElem? (i := 12) rfl) rfl), (p_mb8 (List.mem_of_getElem? (i := 25) rfl) rfl)⟩
theorem cp_X12_through : p_par m_X12_through.1 2 = true := by decide +kernel
theorem cv_X12_isUncut : p_cv m_X12_isUncut := ⟨(p_mb8 (List.mem_of_getElem? (i := 21) rfl) rfl), (p_mb0 (List.mem_of_getElem? (i := 122) rfl) rfl), (p_mb1 (List.mem_of_getElem? (i := 12) rfl) rfl), (p_mb8 (List.mem_of_getElem? (i := 22) rfl) rfl)⟩
theorem cp_X12_isUncut : p_par m_X12_isUncut.1 3 = true := by decide +kernel
theorem cv_X12_isShowing : p_cv m_X12_isShowing := ⟨(p_mb8 (List.mem_of_getElem? (i := 28) rfl) rfl), (p_mb0 (List.mem_of_getElem? (i := 123) rfl) rfl), (p_mb1 (List.mem_of_getElem? (i := 12) rfl) rfl), (p_mb8 (List.mem_of_getElem? (i := 29) rfl) rfl)⟩
theorem cp_X12_isShowing : p_par m_X12_isShowing.1 1 = true := by decide +kernel
theorem cv_X12_ofSight : p_cv m_X12_ofSight := ⟨(p_mb8 (List.mem_of_getElem? (i := 12) rfl) rfl), (p_mb8 (List.mem_of_getElem? (i := 13) rfl) rfl), (p_mb1 (List.mem_of_getElem? (i := 12) rfl) rfl), (p_mb8 (List.mem_of_getElem? (i := 14) rfl) rfl)⟩
theorem cp_X12_ofSight : p_par m_X12_ofSight.1 2 = true := by decide +kernel
theorem cv_X12_is : p_cv m_X12_is := ⟨(p_mb8 (List.mem_of_getElem? (i := 31) rfl) rfl), (p_mb8 (List.mem_of_getElem? (i := 32) rfl) rfl), (p_mb1 (List.mem_of_getElem? (i := 12) rfl) rfl), (p_mb8 (List.mem_of_getElem? (i := 33) rfl) rfl)⟩
theorem cp_X12_is : p_par m_X12_is.1 1 = true := by decide +kernel
theorem cv_X12_wholeBy : p_cv m_X12_wholeBy := ⟨(p_mb8 (List.mem_of_getElem? (i := 40) rfl) rfl), (p_mb0 (List.mem_of_getElem? (i := 124) rfl) rfl), (p_mb1 (List.mem_of_getElem? (i := 12) rfl) rfl), (p_mb8 (List.mem_of_getElem? (i := 41) rfl) rfl)⟩
theorem cp_X12_wholeBy : p_par m_X12_wholeBy.1 2 = true := by decide +kernel
theorem cv_X12_whole : p_cv m_X12_whole := ⟨(p_mb8 (List.mem_of_getElem? (i := 35) rfl) rfl), (p_mb8 (List.mem_of_getElem? (i := 36) rfl) rfl), (p_mb1 (List.mem_of_getElem? (i := 12) rfl) rfl), (p_mb8 (List.mem_of_getElem? (i := 37) rfl) rfl)⟩
theorem cp_X12_whole : p_par m_X12_whole.1 0 = true := by decide +kernel
theorem cs_X12_leastPart : p_cs m_X12_leastPart := ⟨(p_mb8 (List.mem_of_getElem? (i := 47) rfl) rfl), (p_mb1 (List.mem_of_getElem? (i := 12) rfl) rfl), (p_mb8 (List.mem_of_getElem? (i := 48) rfl) rfl)⟩
theorem cp_X12_leastPart : p_par m_X12_leastPart.1 2 = true := by decide +kernel
theorem cv_X12_sawing : p_cv m_X12_sawing := ⟨(p_mb8 (List.mem_of_getElem? (i := 43) rfl) rfl), (p_mb8 (List.mem_of_getElem? (i := 44) rfl) rfl), (p_mb1 (List.mem_of_getElem? (i := 12) rfl) rfl), (p_mb8 (List.mem_of_getElem? (i := 45) rfl) rfl)⟩
theorem cp_X12_sawing : p_par m_X12_sawing.1 3 = true := by decide +kernel
theorem cv_X12_begin : p_cv m_X12_begin := ⟨(p_mb8 (List.mem_of_getElem? (i := 55) rfl) rfl), (p_mb0 (List.mem_of_getElem? (i := 125) rfl) rfl), (p_mb1 (List.mem_of_getElem? (i := 12) rfl) rfl), (p_mb8 (List.mem_of_getElem? (i := 56) rfl) rfl)⟩
theorem cp_X12_begin : p_par m_X12_begin.1 0 = true := by decide +kernel
theorem cv_X12_putBack : p_cv m_X12_putBack := ⟨(p_mb8 (List.mem_of_getElem? (i := 67) rfl) rfl), (p_mb0 (List.mem_of_getElem? (i := 128) rfl) rfl), (p_mb1 (List.mem_of_getElem? (i := 12) rfl) rfl), (p_mb8 (List.mem_of_getElem? (i := 68) rfl) rfl)⟩
theorem cp_X12_putBack : p_par m_X12_putBack.1 0 = true := by decide +kernel
theorem cv_X12_goOn : p_cv m_X12_goOn := ⟨(p_mb8 (List.mem_of_getElem? (i := 59) rfl) rfl), (p_mb0 (List.mem_of_getElem? (i := 126) rfl) rfl), (p_mb1 (List.mem_of_getElem? (i := 12) rfl) rfl), (p_mb8 (List.mem_of_getElem? (i := 60) rfl) rfl)⟩
theorem cp_X12_goOn : p_par m_X12_goOn.1 0 = true := by decide +kernel
theorem cv_X12_showing : p_cv m_X12_showing := ⟨(p_mb8 (List.mem_of_getElem? (i := 63) rfl) rfl), (p_mb0 (List.mem_of_getElem? (i := 127) rfl) rfl), (p_mb1 (List.mem_of_getElem? (i := 12) rfl) rfl), (p_mb8 (List.mem_of_getElem? (i := 64) rfl) rfl)⟩
theorem cp_X12_showing : p_par m_X12_showing.1 0 = true := by decide +kernel
theorem cv_X12_foretold : p_cv m_X12_foretold := ⟨(p_mb8 (List.mem_of_getElem? (i := 50) rfl) rfl), (p_mb8 (List.mem_of_getElem? (i := 51) rfl) rfl), (p_mb1 (List.mem_of_getElem? (i := 12) rfl) rfl), (p_mb8 (List.mem_of_getElem? (i := 52) rfl) rfl)⟩
theorem cp_X12_foretold : p_par m_X12_foretold.1 2 = true := by decide +kernel
theorem cv_X12_showsIn : p_cv m_X12_showsIn := ⟨(p_mb8 (List.mem_of_getElem? (i := 70) rfl) rfl), (p_mb8 (List.mem_of_getElem? (i := 71) rfl) rfl), (p_mb1 (List.mem_of_getElem? (i := 12) rfl) rfl), (p_mb8 (List.mem_of_getElem? (i := 72) rfl) rfl)⟩
theorem cp_X12_showsIn : p_par m_X12_showsIn.1 1 = true := by decide +kernel
theorem cv_X12_dearest : p_cv m_X12_dearest := ⟨(p_mb8 (List.mem_of_getElem? (i := 74) rfl) rfl), (p_mb8 (List.mem_of_getElem? (i := 75) rfl) rfl), (p_mb1 (List.mem_of_getElem? (i := 12) rfl) rfl), (p_mb8 (List.mem_of_getElem? (i := 76) rfl) rfl)⟩
theorem cp_X12_dearest : p_par m_X12_dearest.1 1 = true := by decide +kernel
theorem cv_X12_together : p_cv m_X12_together := ⟨(p_mb8 (List.mem_of_getElem? (i := 78) rfl) rfl), (p_mb8 (List.mem_of_getElem? (i := 79) rfl) rfl), (p_mb1 (List.mem_of_getElem? (i := 12) rfl) rfl), (p_mb8 (List.mem_of_getElem? (i := 80) rfl) rfl)⟩
theorem cp_X12_together : p_par m_X12_together.1 1 = true := by decide +kernel
theorem cv_X12_ice : p_cv m_X12_ice := ⟨(p_mb8 (List.mem_of_getElem? (i := 82) rfl) rfl), (p_mb8 (List.mem_of_getElem? (i := 83) rfl) rfl), (p_mb1 (List.mem_of_getElem? (i := 12) rfl) rfl), (p_mb8 (List.mem_of_getElem? (i := 84) rfl) rfl)⟩
theorem cp_X12_ice : p_par m_X12_ice.1 1 = true := by decide +kernel
theorem cv_X12_gone : p_cv m_X12_gone := ⟨(p_mb8 (List.mem_of_getElem? (i := 86) rfl) rfl), (p_mb8 (List.mem_of_getElem? (i := 87) rfl) rfl), (p_mb1 (List.mem_of_getElem? (i := 12) rfl) rfl), (p_mb8 (List.mem_of_getElem? (i := 88) rfl) rfl)⟩
theorem cp_X12_gone : p_par m_X12_gone.1 0 = true := by decide +kernel
theorem cv_X12_litter : p_cv m_X12_litter := ⟨(p_mb8 (List.mem_of_getElem? (i := 90) rfl) rfl), (p_mb8 (List.mem_of_getElem? (i := 91) rfl) rfl), (p_mb1 (List.mem_of_getElem? (i := 12) rfl) rfl), (p_mb8 (List.mem_of_getElem? (i := 92) rfl) rfl)⟩
theorem cp_X12_litter : p_par m_X12_litter.1 0 = true := by decide +kernel
theorem cv_X12_isLasting : p_cv m_X12_isLasting := ⟨(p_mb8 (List.mem_of_getElem? (i := 106) rfl) rfl), (p_mb0 (List.mem_of_getElem? (i := 130) rfl) rfl), (p_mb1 (List.mem_of_getElem? (i := 12) rfl) rfl), (p_mb8 (List.mem_of_getElem? (i := 107) rfl) rfl)⟩
theorem cp_X12_isLasting : p_par m_X12_isLasting.1 3 = true := by decide +kernel
theorem cs_X12_pathsOf : p_cs m_X12_pathsOf := ⟨(p_mb8 (List.mem_of_getElem? (i := 102) rfl) rfl), (p_mb1 (List.mem_of_getElem? (i := 12) rfl) rfl), (p_mb8 (List.mem_of_getElem? (i := 103) rfl) rfl)⟩
theorem cp_X12_pathsOf : p_par m_X12_pathsOf.1 1 = true := by decide +kernel
theorem cv_X12_lasting : p_cv m_X12_lasting := ⟨(p_mb8 (List.mem_of_getElem? (i := 99) rfl) rfl), (p_mb0 (List.mem_of_getElem? (i := 129) rfl) rfl), (p_mb1 (List.mem_of_getElem? (i := 12) rfl) rfl), (p_mb8 (List.mem_of_getElem? (i := 100) rfl) rfl)⟩
theorem cp_X12_lasting : p_par m_X12_lasting.1 2 = true := by decide +kernel
theorem cs_X12_gcd : p_cs m_X12_gcd := ⟨(p_mb8 (List.mem_of_getElem? (i := 112) rfl) rfl), (p_mb1 (List.mem_of_getElem? (i := 12) rfl) rfl), (p_mb8 (List.mem_of_getElem? (i := 113) rfl) rfl)⟩
theorem cp_X12_gcd : p_par m_X12_gcd.1 2 = true := by decide +kernel
theorem cs_X12_part : p_cs m_X12_part := ⟨(p_mb8 (List.mem_of_getElem? (i := 109) rfl) rfl), (p_mb1 (List.mem_of_getElem? (i := 12) rfl) rfl), (p_mb8 (List.mem_of_getElem? (i := 110) rfl) rfl)⟩
theorem cp_X12_part : p_par m_X12_part.1 3 = true := by decide +kernel
theorem cv_X12_lasts : p_cv m_X12_lasts := ⟨(p_mb8 (List.mem_of_getElem? (i := 94) rfl) rfl), (p_mb8 (List.mem_of_getElem? (i := 95) rfl) rfl), (p_mb1 (List.mem_of_getElem? (i := 12) rfl) rfl), (p_mb8 (List.mem_of_getElem? (i := 96) rfl) rfl)⟩
theorem cp_X12_lasts : p_par m_X12_lasts.1 3 = true := by decide +kernel
theorem cv_X12_sellFirst : p_cv m_X12_sellFirst := ⟨(p_mb8 (List.mem_of_getElem? (i := 116) rfl) rfl), (p_mb8 (List.mem_of_getElem? (i := 117) rfl) rfl), (p_mb1 (List.mem_of_getElem? (i := 12) rfl) rfl), (p_mb8 (List.mem_of_getElem? (i := 118) rfl) rfl)⟩
theorem cp_X12_sellFirst : p_par m_X12_sellFirst.1 1 = true := by decide +kernel
theorem cv_X12_order : p_cv m_X12_order := ⟨(p_mb8 (List.mem_of_getElem? (i := 120) rfl) rfl), (p_mb8 (List.mem_of_getElem? (i := 121) rfl) rfl), (p_mb1 (List.mem_of_getElem? (i := 12) rfl) rfl), (p_mb8 (List.mem_of_getElem? (i := 122) rfl) rfl)⟩
theorem cp_X12_order : p_par m_X12_order.1 3 = true := by decide +kernel
theorem cv_X12_isServing : p_cv m_X12_isServing := ⟨(p_mb8 (List.mem_of_getElem? (i := 133) rfl) rfl), (p_mb0 (List.mem_of_getElem? (i := 132) rfl) rfl), (p_mb1 (List.mem_of_getElem? (i := 12) rfl) rfl), (p_mb8 (List.mem_of_getElem? (i := 134) rfl) rfl)⟩
theorem cp_X12_isServing : p_par m_X12_isServing.1 2 = true := by decide +kernel
theorem cv_X12_findServing : p_cv m_X12_findServing := ⟨(p_mb8 (List.mem_of_getElem? (i := 129) rfl) rfl), (p_mb0 (List.mem_of_getElem? (i := 131) rfl) rfl), (p_mb1 (List.mem_of_getElem? (i := 12) rfl) rfl), (p_mb8 (List.mem_of_getElem? (i := 130) rfl) rfl)⟩
theorem cp_X12_findServing : p_par m_X12_findServing.1 0 = true := by decide +kernel
theorem cv_X12_mostOf : p_cv m_X12_mostOf := ⟨(p_mb8 (List.mem_of_getElem? (i := 141) rfl) rfl), (p_mb0 (List.mem_of_getElem? (i := 134) rfl) rfl), (p_mb1 (List.mem_of_getElem? (i := 12) rfl) rfl), (p_mb8 (List.mem_of_getElem? (i := 142) rfl) rfl)⟩
theorem cp_X12_mostOf : p_par m_X12_mostOf.1 1 = true := by decide +kernel
theorem cv_X12_serverOf : p_cv m_X12_serverOf := ⟨(p_mb8 (List.mem_of_getElem? (i := 145) rfl) rfl), (p_mb0 (List.mem_of_getElem? (i := 135) rfl) rfl), (p_mb1 (List.mem_of_getElem? (i := 12) rfl) rfl), (p_mb8 (List.mem_of_getElem? (i := 146) rfl) rfl)⟩
theorem cp_X12_serverOf : p_par m_X12_serverOf.1 2 = true := by decide +kernel
theorem cv_X12_served : p_cv m_X12_served := ⟨(p_mb8 (List.mem_of_getElem? (i := 124) rfl) rfl), (p_mb8 (List.mem_of_getElem? (i := 125) rfl) rfl), (p_mb1 (List.mem_of_getElem? (i := 12) rfl) rfl), (p_mb8 (List.mem_of_getElem? (i := 126) rfl) rfl)⟩
theorem cp_X12_served : p_par m_X12_served.1 1 = true := by decide +kernel
theorem cv_X12_glass : p_cv m_X12_glass := ⟨(p_mb8 (List.mem_of_getElem? (i := 148) rfl) rfl), (p_mb8 (List.mem_of_getElem? (i := 149) rfl) rfl), (p_mb1 (List.mem_of_getElem? (i := 12) rfl) rfl), (p_mb8 (List.mem_of_getElem? (i := 150) rfl) rfl)⟩
theorem cp_X12_glass : p_par m_X12_glass.1 4 = true := by decide +kernel
theorem cv_X12_layers : p_cv m_X12_layers := ⟨(p_mb8 (List.mem_of_getElem? (i := 152) rfl) rfl), (p_mb8 (List.mem_of_getElem? (i := 153) rfl) rfl), (p_mb1 (List.mem_of_getElem? (i := 12) rfl) rfl), (p_mb8 (List.mem_of_getElem? (i := 154) rfl) rfl)⟩
theorem cp_X12_layers : p_par m_X12_layers.1 2 = true := by decide +kernel
theorem cv_X12_bid : p_cv m_X12_bid := ⟨(p_mb8 (List.mem_of_getElem? (i := 156) rfl) rfl), (p_mb8 (List.mem_of_getElem? (i := 157) rfl) rfl), (p_mb1 (List.mem_of_getElem? (i := 12) rfl) rfl), (p_mb8 (List.mem_of_getElem? (i := 158) rfl) rfl)⟩
theorem cp_X12_bid : p_par m_X12_bid.1 1 = true := by decide +kernel
theorem cv_X12_winner : p_cv m_X12_winner := ⟨(p_mb8 (List.mem_of_getElem? (i := 165) rfl) rfl), (p_mb0 (List.mem_of_getElem? (i := 136) rfl) rfl), (p_mb1 (List.mem_of_getElem? (i := 12) rfl) rfl), (p_mb8 (List.mem_of_getElem? (i := 166) rfl) rfl)⟩
theorem cp_X12_winner : p_par m_X12_winner.1 0 = true := by decide +kernel
theorem cv_X12_paid : p_cv m_X12_paid := ⟨(p_mb8 (List.mem_of_getElem? (i := 169) rfl) rfl), (p_mb0 (List.mem_of_getElem? (i := 137) rfl) rfl), (p_mb1 (List.mem_of_getElem? (i := 12) rfl) rfl), (p_mb8 (List.mem_of_getElem? (i := 170) rfl) rfl)⟩
theorem cp_X12_paid : p_par m_X12_paid.1 0 = true := by decide +kernel
theorem cv_X12_auction : p_cv m_X12_auction := ⟨(p_mb8 (List.mem_of_getElem? (i := 160) rfl) rfl), (p_mb8 (List.mem_of_getElem? (i := 161) rfl) rfl), (p_mb1 (List.mem_of_getElem? (i := 12) rfl) rfl), (p_mb8 (List.mem_of_getElem? (i := 162) rfl) rfl)⟩
theorem cp_X12_auction : p_par m_X12_auction.1 1 = true := by decide +kernel
theorem cv_X12_lies : p_cv m_X12_lies := ⟨(p_mb8 (List.mem_of_getElem? (i := 172) rfl) rfl), (p_mb8 (List.mem_of_getElem? (i := 173) rfl) rfl), (p_mb1 (List.mem_of_getElem? (i := 12) rfl) rfl), (p_mb8 (List.mem_of_getElem? (i := 174) rfl) rfl)⟩
theorem cp_X12_lies : p_par m_X12_lies.1 1 = true := by decide +kernel
theorem cv_X12_kiss : p_cv m_X12_kiss := ⟨(p_mb8 (List.mem_of_getElem? (i := 177) rfl) rfl), (p_mb8 (List.mem_of_getElem? (i := 178) rfl) rfl), (p_mb1 (List.mem_of_getElem? (i := 12) rfl) rfl), (p_mb8 (List.mem_of_getElem? (i := 179) rfl) rfl)⟩
theorem cp_X12_kiss : p_par m_X12_kiss.1 3 = true := by decide +kernel
theorem cv_X12_unseen : p_cv m_X12_unseen := ⟨(p_mb8 (List.mem_of_getElem? (i := 181) rfl) rfl), (p_mb8 (List.mem_of_getElem? (i := 182) rfl) rfl), (p_mb1 (List.mem_of_getElem? (i := 12) rfl) rfl), (p_mb8 (List.mem_of_getElem? (i := 183) rfl) rfl)⟩
theorem cp_X12_unseen : p_par m_X12_unseen.1 2 = true := by decide +kernel
theorem cv_X12_measure : p_cv m_X12_measure := ⟨(p_mb8 (List.mem_of_getElem? (i := 185) rfl) rfl), (p_mb8 (List.mem_of_getElem? (i := 186) rfl) rfl), (p_mb1 (List.mem_of_getElem? (i := 12) rfl) rfl), (p_mb8 (List.mem_of_getElem? (i := 187) rfl) rfl)⟩
theorem cp_X12_measure : p_par m_X12_measure.1 2 = true := by decide +kernel
theorem cv_X12_speed : p_cv m_X12_speed := ⟨(p_mb8 (List.mem_of_getElem? (i := 189) rfl) rfl), (p_mb8 (List.mem_of_getElem? (i := 190) rfl) rfl), (p_mb1 (List.mem_of_getElem? (i := 12) rfl) rfl), (p_mb8 (List.mem_of_getElem? (i := 191) rfl) rfl)⟩
theorem cp_X12_speed : p_par m_X12_speed.1 1 = true := by decide +kernel
theorem cv_X12_sellers : p_cv m_X12_sellers := ⟨(p_mb8 (List.mem_of_getElem? (i := 193) rfl) rfl), (p_mb8 (List.mem_of_getElem? (i := 194) rfl) rfl), (p_mb1 (List.mem_of_getElem? (i := 12) rfl) rfl), (p_mb8 (List.mem_of_getElem? (i := 195) rfl) rfl)⟩
theorem cp_X12_sellers : p_par m_X12_sellers.1 1 = true := by decide +kernel
theorem cv_X12_worthLater : p_cv m_X12_worthLater := ⟨(p_mb8 (List.mem_of_getElem? (i := 202) rfl) rfl), (p_mb0 (List.mem_of_getElem? (i := 138) rfl) rfl), (p_mb1 (List.mem_of_getElem? (i := 12) rfl) rfl), (p_mb8 (List.mem_of_getElem? (i := 203) rfl) rfl)⟩
theorem cp_X12_worthLater : p_par m_X12_worthLater.1 1 = true := by decide +kernel
theorem cv_X12_strawBest : p_cv m_X12_strawBest := ⟨(p_mb8 (List.mem_of_getElem? (i := 197) rfl) rfl), (p_mb8 (List.mem_of_getElem? (i := 198) rfl) rfl), (p_mb1 (List.mem_of_getElem? (i := 12) rfl) rfl), (p_mb8 (List.mem_of_getElem? (i := 199) rfl) rfl)⟩
theorem cp_X12_strawBest : p_par m_X12_strawBest.1 2 = true := by decide +kernel
theorem cv_X12_melt : p_cv m_X12_melt := ⟨(p_mb8 (List.mem_of_getElem? (i := 205) rfl) rfl), (p_mb8 (List.mem_of_getElem? (i := 206) rfl) rfl), (p_mb1 (List.mem_of_getElem? (i := 12) rfl) rfl), (p_mb8 (List.mem_of_getElem? (i := 207) rfl) rfl)⟩
theorem cp_X12_melt : p_par m_X12_melt.1 4 = true := by decide +kernel
theorem cv_X12_isLaw : p_cv m_X12_isLaw := ⟨(p_mb8 (List.mem_of_getElem? (i := 214) rfl) rfl), (p_mb0 (List.mem_of_getElem? (i := 139) rfl) rfl), (p_mb1 (List.mem_of_getElem? (i := 12) rfl) rfl), (p_mb8 (List.mem_of_getElem? (i := 215) rfl) rfl)⟩
theorem cp_X12_isLaw : p_par m_X12_isLaw.1 1 = true := by decide +kernel
theorem cv_X12_whoseLaw : p_cv m_X12_whoseLaw := ⟨(p_mb8 (List.mem_of_getElem? (i := 209) rfl) rfl), (p_mb8 (List.mem_of_getElem? (i := 210) rfl) rfl), (p_mb1 (List.mem_of_getElem? (i := 12) rfl) rfl), (p_mb8 (List.mem_of_getElem? (i := 211) rfl) rfl)⟩
theorem cp_X12_whoseLaw : p_par m_X12_whoseLaw.1 0 = true := by decide +kernel
theorem cv_X12_image : p_cv m_X12_image := ⟨(p_mb8 (List.mem_of_getElem? (i := 217) rfl) rfl), (p_mb8 (List.mem_of_getElem? (i := 218) rfl) rfl), (p_mb1 (List.mem_of_getElem? (i := 12) rfl) rfl), (p_mb8 (List.mem_of_getElem? (i := 219) rfl) rfl)⟩
theorem cp_X12_image : p_par m_X12_image.1 0 = true := by decide +kernel
theorem cv_X12_back : p_cv m_X12_back := ⟨(p_mb8 (List.mem_of_getElem? (i := 221) rfl) rfl), (p_mb8 (List.mem_of_getElem? (i := 222) rfl) rfl), (p_mb1 (List.mem_of_getElem? (i := 12) rfl) rfl), (p_mb8 (List.mem_of_getElem? (i := 223) rfl) rfl)⟩
theorem cp_X12_back : p_par m_X12_back.1 0 = true := by decide +kernel
theorem cv_X12_about : p_cv m_X12_about := ⟨(p_mb8 (List.mem_of_getElem? (i := 225) rfl) rfl), (p_mb8 (List.mem_of_getElem? (i := 226) rfl) rfl), (p_mb1 (List.mem_of_getElem? (i := 12) rfl) rfl), (p_mb8 (List.mem_of_getElem? (i := 227) rfl) rfl)⟩
theorem cp_X12_about : p_par m_X12_about.1 1 = true := by decide +kernel
theorem cs_J6_bitCount_0f7a4 : p_cs m_J6_bitCount_0f7a4 := ⟨(p_mb4 (List.mem_of_getElem? (i := 80) rfl) rfl), (p_mb1 (List.mem_of_getElem? (i := 17) rfl) rfl), (p_mb4 (List.mem_of_getElem? (i := 81) rfl) rfl)⟩
theorem cp_J6_bitCount_0f7a4 : p_par m_J6_bitCount_0f7a4.1 1 = true := by decide +kernel
theorem cs_J9_abs_0f7a4 : p_cs m_J9_abs_0f7a4 := ⟨(p_mb5 (List.mem_of_getElem? (i := 65) rfl) rfl), (p_mb1 (List.mem_of_getElem? (i := 13) rfl) rfl), (p_mb5 (List.mem_of_getElem? (i := 66) rfl) rfl)⟩
theorem cp_J9_abs_0f7a4 : p_par m_J9_abs_0f7a4.1 1 = true := by decide +kernel
theorem cs_J9_max_7cf53 : p_cs m_J9_max_7cf53 := ⟨(p_mb4 (List.mem_of_getElem? (i := 25) rfl) rfl), (p_mb1 (List.mem_of_getElem? (i := 13) rfl) rfl), (p_mb4 (List.mem_of_getElem? (i := 26) rfl) rfl)⟩
theorem cp_J9_max_7cf53 : p_par m_J9_max_7cf53.1 2 = true := by decide +kernel
theorem cs_J9_max_f86c9 : p_cs m_J9_max_f86c9 := ⟨(p_mb4 (List.mem_of_getElem? (i := 21) rfl) rfl), (p_mb1 (List.mem_of_getElem? (i := 13) rfl) rfl), (p_mb4 (List.mem_of_getElem? (i := 22) rfl) rfl)⟩
theorem cp_J9_max_f86c9 : p_par m_J9_max_f86c9.1 2 = true := by decide +kernel
theorem cs_J9_min_7cf53 : p_cs m_J9_min_7cf53 := ⟨(p_mb3 (List.mem_of_getElem? (i := 0) rfl) rfl), (p_mb1 (List.mem_of_getElem? (i := 13) rfl) rfl), (p_mb3 (List.mem_of_getElem? (i := 1) rfl) rfl)⟩
theorem cp_J9_min_7cf53 : p_par m_J9_min_7cf53.1 2 = true := by decide +kernel
theorem cs_J9_min_f86c9 : p_cs m_J9_min_f86c9 := ⟨(p_mb4 (List.mem_of_getElem? (i := 18) rfl) rfl), (p_mb1 (List.mem_of_getElem? (i := 13) rfl) rfl), (p_mb4 (List.mem_of_getElem? (i := 19) rfl) rfl)⟩
theorem cp_J9_min_f86c9 : p_par m_J9_min_f86c9.1 2 = true := by decide +kernel
theorem cs_J7_fill_53178 : p_cs m_J7_fill_53178 := ⟨(p_mb4 (List.mem_of_getElem? (i := 213) rfl) rfl), (p_mb1 (List.mem_of_getElem? (i := 14) rfl) rfl), (p_mb4 (List.mem_of_getElem? (i := 214) rfl) rfl)⟩
theorem cp_J7_fill_53178 : p_par m_J7_fill_53178.1 2 = true := by decide +kernel
theorem cs_J7_copyOf_59c91 : p_cs m_J7_copyOf_59c91 := ⟨(p_mb3 (List.mem_of_getElem? (i := 73) rfl) rfl), (p_mb1 (List.mem_of_getElem? (i := 14) rfl) rfl), (p_mb3 (List.mem_of_getElem? (i := 74) rfl) rfl)⟩
theorem cp_J7_copyOf_59c91 : p_par m_J7_copyOf_59c91.1 2 = true := by decide +kernel

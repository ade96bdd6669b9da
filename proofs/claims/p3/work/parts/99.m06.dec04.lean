theorem e_X12_played_0 : ((i_X12_played.drop 0).take 60).all (p_dk prog_14_method_96_code) = true := by decide +kernel
theorem e_X12_played : ∀ q ∈ i_X12_played, decode prog_14_method_96_code q.1 = .ok q.2 ∧ (p_ln q.2.1 = 0 ∨ q.2.2 = p_ln q.2.1) := by
  have h := (show ∀ q ∈ i_X12_played.drop 0, _ from p_cut 60 (p_dk_ok e_X12_played_0) (by rw [List.drop_drop, List.drop_eq_nil_of_le (by decide +kernel)]; exact fun _ h => by cases h))
  rwa [List.drop_zero] at h
theorem e_X12_happens_0 : ((i_X12_happens.drop 0).take 60).all (p_dk prog_14_method_97_code) = true := by decide +kernel
theorem e_X12_happens : ∀ q ∈ i_X12_happens, decode prog_14_method_97_code q.1 = .ok q.2 ∧ (p_ln q.2.1 = 0 ∨ q.2.2 = p_ln q.2.1) := by
  have h := (show ∀ q ∈ i_X12_happens.drop 0, _ from p_cut 60 (p_dk_ok e_X12_happens_0) (by rw [List.drop_drop, List.drop_eq_nil_of_le (by decide +kernel)]; exact fun _ h => by cases h))
  rwa [List.drop_zero] at h
theorem e_X12_summer_0 : ((i_X12_summer.drop 0).take 60).all (p_dk prog_14_method_98_code) = true := by decide +kernel
theorem e_X12_summer : ∀ q ∈ i_X12_summer, decode prog_14_method_98_code q.1 = .ok q.2 ∧ (p_ln q.2.1 = 0 ∨ q.2.2 = p_ln q.2.1) := by
  have h := (show ∀ q ∈ i_X12_summer.drop 0, _ from p_cut 60 (p_dk_ok e_X12_summer_0) (by rw [List.drop_drop, List.drop_eq_nil_of_le (by decide +kernel)]; exact fun _ h => by cases h))
  rwa [List.drop_zero] at h
theorem e_X12_block_0 : ((i_X12_block.drop 0).take 60).all (p_dk prog_14_method_99_code) = true := by decide +kernel
theorem e_X12_block : ∀ q ∈ i_X12_block, decode prog_14_method_99_code q.1 = .ok q.2 ∧ (p_ln q.2.1 = 0 ∨ q.2.2 = p_ln q.2.1) := by
  have h := (show ∀ q ∈ i_X12_block.drop 0, _ from p_cut 60 (p_dk_ok e_X12_block_0) (by rw [List.drop_drop, List.drop_eq_nil_of_le (by decide +kernel)]; exact fun _ h => by cases h))
  rwa [List.drop_zero] at h
theorem e_X12_blockOf_0 : ((i_X12_blockOf.drop 0).take 60).all (p_dk prog_14_method_100_code) = true := by decide +kernel
theorem e_X12_blockOf : ∀ q ∈ i_X12_blockOf, decode prog_14_method_100_code q.1 = .ok q.2 ∧ (p_ln q.2.1 = 0 ∨ q.2.2 = p_ln q.2.1) := by
  have h := (show ∀ q ∈ i_X12_blockOf.drop 0, _ from p_cut 60 (p_dk_ok e_X12_blockOf_0) (by rw [List.drop_drop, List.drop_eq_nil_of_le (by decide +kernel)]; exact fun _ h => by cases h))
  rwa [List.drop_zero] at h
theorem e_X12_through_0 : ((i_X12_through.drop 0).take 60).all (p_dk prog_14_method_101_code) = true := by decide +kernel
theorem e_X12_through : ∀ q ∈ i_X12_through, decode prog_14_method_101_code q.1 = .ok q.2 ∧ (p_ln q.2.1 = 0 ∨ q.2.2 = p_ln q.2.1) := by
  have h := (show ∀ q ∈ i_X12_through.drop 0, _ from p_cut 60 (p_dk_ok e_X12_through_0) (by rw [List.drop_drop, List.drop_eq_nil_of_le (by decide +kernel)]; exact fun _ h => by cases h))
  rwa [List.drop_zero] at h
theorem e_X12_isUncut_0 : ((i_X12_isUncut.drop 0).take 60).all (p_dk prog_14_method_102_code) = true := by decide +kernel
theorem e_X12_isUncut : ∀ q ∈ i_X12_isUncut, decode prog_14_method_102_code q.1 = .ok q.2 ∧ (p_ln q.2.1 = 0 ∨ q.2.2 = p_ln q.2.1) := by
  have h := (show ∀ q ∈ i_X12_isUncut.drop 0, _ from p_cut 60 (p_dk_ok e_X12_isUncut_0) (by rw [List.drop_drop, List.drop_eq_nil_of_le (by decide +kernel)]; exact fun _ h => by cases h))
  rwa [List.drop_zero] at h
theorem e_X12_isShowing_0 : ((i_X12_isShowing.drop 0).take 60).all (p_dk prog_14_method_103_code) = true := by decide +kernel
theorem e_X12_isShowing : ∀ q ∈ i_X12_isShowing, decode prog_14_method_103_code q.1 = .ok q.2 ∧ (p_ln q.2.1 = 0 ∨ q.2.2 = p_ln q.2.1) := by
  have h := (show ∀ q ∈ i_X12_isShowing.drop 0, _ from p_cut 60 (p_dk_ok e_X12_isShowing_0) (by rw [List.drop_drop, List.drop_eq_nil_of_le (by decide +kernel)]; exact fun _ h => by cases h))
  rwa [List.drop_zero] at h
theorem e_X12_ofSight_0 : ((i_X12_ofSight.drop 0).take 60).all (p_dk prog_14_method_104_code) = true := by decide +kernel
theorem e_X12_ofSight : ∀ q ∈ i_X12_ofSight, decode prog_14_method_104_code q.1 = .ok q.2 ∧ (p_ln q.2.1 = 0 ∨ q.2.2 = p_ln q.2.1) := by
  have h := (show ∀ q ∈ i_X12_ofSight.drop 0, _ from p_cut 60 (p_dk_ok e_X12_ofSight_0) (by rw [List.drop_drop, List.drop_eq_nil_of_le (by decide +kernel)]; exact fun _ h => by cases h))
  rwa [List.drop_zero] at h
theorem e_X12_is_0 : ((i_X12_is.drop 0).take 60).all (p_dk prog_14_method_105_code) = true := by decide +kernel
theorem e_X12_is : ∀ q ∈ i_X12_is, decode prog_14_method_105_code q.1 = .ok q.2 ∧ (p_ln q.2.1 = 0 ∨ q.2.2 = p_ln q.2.1) := by
  have h := (show ∀ q ∈ i_X12_is.drop 0, _ from p_cut 60 (p_dk_ok e_X12_is_0) (by rw [List.drop_drop, List.drop_eq_nil_of_le (by decide +kernel)]; exact fun _ h => by cases h))
  rwa [List.drop_zero] at h
theorem e_X12_wholeBy_0 : ((i_X12_wholeBy.drop 0).take 60).all (p_dk prog_14_method_106_code) = true := by decide +kernel
theorem e_X12_wholeBy : ∀ q ∈ i_X12_wholeBy, decode prog_14_method_106_code q.1 = .ok q.2 ∧ (p_ln q.2.1 = 0 ∨ q.2.2 = p_ln q.2.1) := by
  have h := (show ∀ q ∈ i_X12_wholeBy.drop 0, _ from p_cut 60 (p_dk_ok e_X12_wholeBy_0) (by rw [List.drop_drop, List.drop_eq_nil_of_le (by decide +kernel)]; exact fun _ h => by cases h))
  rwa [List.drop_zero] at h
theorem e_X12_whole_0 : ((i_X12_whole.drop 0).take 60).all (p_dk prog_14_method_107_code) = true := by decide +kernel
theorem e_X12_whole : ∀ q ∈ i_X12_whole, decode prog_14_method_107_code q.1 = .ok q.2 ∧ (p_ln q.2.1 = 0 ∨ q.2.2 = p_ln q.2.1) := by
  have h := (show ∀ q ∈ i_X12_whole.drop 0, _ from p_cut 60 (p_dk_ok e_X12_whole_0) (by rw [List.drop_drop, List.drop_eq_nil_of_le (by decide +kernel)]; exact fun _ h => by cases h))
  rwa [List.drop_zero] at h
theorem e_X12_leastPart_0 : ((i_X12_leastPart.drop 0).take 60).all (p_dk prog_14_method_108_code) = true := by decide +kernel
theorem e_X12_leastPart : ∀ q ∈ i_X12_leastPart, decode prog_14_method_108_code q.1 = .ok q.2 ∧ (p_ln q.2.1 = 0 ∨ q.2.2 = p_ln q.2.1) := by
  have h := (show ∀ q ∈ i_X12_leastPart.drop 0, _ from p_cut 60 (p_dk_ok e_X12_leastPart_0) (by rw [List.drop_drop, List.drop_eq_nil_of_le (by decide +kernel)]; exact fun _ h => by cases h))
  rwa [List.drop_zero] at h
theorem e_X12_sawing_0 : ((i_X12_sawing.drop 0).take 60).all (p_dk prog_14_method_109_code) = true := by decide +kernel
theorem e_X12_sawing_1 : ((i_X12_sawing.drop 60).take 60).all (p_dk prog_14_method_109_code) = true := by decide +kernel
theorem e_X12_sawing : ∀ q ∈ i_X12_sawing, decode prog_14_method_109_code q.1 = .ok q.2 ∧ (p_ln q.2.1 = 0 ∨ q.2.2 = p_ln q.2.1) := by
  have h := (show ∀ q ∈ i_X12_sawing.drop 0, _ from p_cut 60 (p_dk_ok e_X12_sawing_0) (by rw [List.drop_drop]; exact p_cut 60 (p_dk_ok e_X12_sawing_1) (by rw [List.drop_drop, List.drop_eq_nil_of_le (by decide +kernel)]; exact fun _ h => by cases h)))
  rwa [List.drop_zero] at h
theorem e_X12_begin_0 : ((i_X12_begin.drop 0).take 60).all (p_dk prog_14_method_110_code) = true := by decide +kernel
theorem e_X12_begin : ∀ q ∈ i_X12_begin, decode prog_14_method_110_code q.1 = .ok q.2 ∧ (p_ln q.2.1 = 0 ∨ q.2.2 = p_ln q.2.1) := by
  have h := (show ∀ q ∈ i_X12_begin.drop 0, _ from p_cut 60 (p_dk_ok e_X12_begin_0) (by rw [List.drop_drop, List.drop_eq_nil_of_le (by decide +kernel)]; exact fun _ h => by cases h))
  rwa [List.drop_zero] at h
theorem e_X12_putBack_0 : ((i_X12_putBack.drop 0).take 60).all (p_dk prog_14_method_111_code) = true := by decide +kernel
theorem e_X12_putBack : ∀ q ∈ i_X12_putBack, decode prog_14_method_111_code q.1 = .ok q.2 ∧ (p_ln q.2.1 = 0 ∨ q.2.2 = p_ln q.2.1) := by
  have h := (show ∀ q ∈ i_X12_putBack.drop 0, _ from p_cut 60 (p_dk_ok e_X12_putBack_0) (by rw [List.drop_drop, List.drop_eq_nil_of_le (by decide +kernel)]; exact fun _ h => by cases h))
  rwa [List.drop_zero] at h
theorem e_X12_goOn_0 : ((i_X12_goOn.drop 0).take 60).all (p_dk prog_14_method_112_code) = true := by decide +kernel
theorem e_X12_goOn : ∀ q ∈ i_X12_goOn, decode prog_14_method_112_code q.1 = .ok q.2 ∧ (p_ln q.2.1 = 0 ∨ q.2.2 = p_ln q.2.1) := by
  have h := (show ∀ q ∈ i_X12_goOn.drop 0, _ from p_cut 60 (p_dk_ok e_X12_goOn_0) (by rw [List.drop_drop, List.drop_eq_nil_of_le (by decide +kernel)]; exact fun _ h => by cases h))
  rwa [List.drop_zero] at h
theorem e_X12_showing_0 : ((i_X12_showing.drop 0).take 60).all (p_dk prog_14_method_113_code) = true := by decide +kernel
theorem e_X12_showing : ∀ q ∈ i_X12_showing, decode prog_14_method_113_code q.1 = .ok q.2 ∧ (p_ln q.2.1 = 0 ∨ q.2.2 = p_ln q.2.1) := by
  have h := (show ∀ q ∈ i_X12_showing.drop 0, _ from p_cut 60 (p_dk_ok e_X12_showing_0) (by rw [List.drop_drop, List.drop_eq_nil_of_le (by decide +kernel)]; exact fun _ h => by cases h))
  rwa [List.drop_zero] at h
theorem e_X12_foretold_0 : ((i_X12_foretold.drop 0).take 60).all (p_dk prog_14_method_114_code) = true := by decide +kernel
theorem e_X12_foretold : ∀ q ∈ i_X12_foretold, decode prog_14_method_114_code q.1 = .ok q.2 ∧ (p_ln q.2.1 = 0 ∨ q.2.2 = p_ln q.2.1) := by
  have h := (show ∀ q ∈ i_X12_foretold.drop 0, _ from p_cut 60 (p_dk_ok e_X12_foretold_0) (by rw [List.drop_drop, List.drop_eq_nil_of_le (by decide +kernel)]; exact fun _ h => by cases h))
  rwa [List.drop_zero] at h
theorem e_X12_showsIn_0 : ((i_X12_showsIn.drop 0).take 60).all (p_dk prog_14_method_115_code) = true := by decide +kernel
theorem e_X12_showsIn : ∀ q ∈ i_X12_showsIn, decode prog_14_method_115_code q.1 = .ok q.2 ∧ (p_ln q.2.1 = 0 ∨ q.2.2 = p_ln q.2.1) := by
  have h := (show ∀ q ∈ i_X12_showsIn.drop 0, _ from p_cut 60 (p_dk_ok e_X12_showsIn_0) (by rw [List.drop_drop, List.drop_eq_nil_of_le (by decide +kernel)]; exact fun _ h => by cases h))
  rwa [List.drop_zero] at h
theorem e_X12_dearest_0 : ((i_X12_dearest.drop 0).take 60).all (p_dk prog_14_method_116_code) = true := by decide +kernel
theorem e_X12_dearest_1 : ((i_X12_dearest.drop 60).take 60).all (p_dk prog_14_method_116_code) = true := by decide +kernel
theorem e_X12_dearest : ∀ q ∈ i_X12_dearest, decode prog_14_method_116_code q.1 = .ok q.2 ∧ (p_ln q.2.1 = 0 ∨ q.2.2 = p_ln q.2.1) := by
  have h := (show ∀ q ∈ i_X12_dearest.drop 0, _ from p_cut 60 (p_dk_ok e_X12_dearest_0) (by rw [List.drop_drop]; exact p_cut 60 (p_dk_ok e_X12_dearest_1) (by rw [List.drop_drop, List.drop_eq_nil_of_le (by decide +kernel)]; exact fun _ h => by cases h)))
  rwa [List.drop_zero] at h
theorem e_X12_together_0 : ((i_X12_together.drop 0).take 60).all (p_dk prog_14_method_117_code) = true := by decide +kernel
theorem e_X12_together_1 : ((i_X12_together.drop 60).take 60).all (p_dk prog_14_method_117_code) = true := by decide +kernel
theorem e_X12_together : ∀ q ∈ i_X12_together, decode prog_14_method_117_code q.1 = .ok q.2 ∧ (p_ln q.2.1 = 0 ∨ q.2.2 = p_ln q.2.1) := by
  have h := (show ∀ q ∈ i_X12_together.drop 0, _ from p_cut 60 (p_dk_ok e_X12_together_0) (by rw [List.drop_drop]; exact p_cut 60 (p_dk_ok e_X12_together_1) (by rw [List.drop_drop, List.drop_eq_nil_of_le (by decide +kernel)]; exact fun _ h => by cases h)))
  rwa [List.drop_zero] at h
theorem e_X12_ice_0 : ((i_X12_ice.drop 0).take 60).all (p_dk prog_14_method_118_code) = true := by decide +kernel
theorem e_X12_ice : ∀ q ∈ i_X12_ice, decode prog_14_method_118_code q.1 = .ok q.2 ∧ (p_ln q.2.1 = 0 ∨ q.2.2 = p_ln q.2.1) := by
  have h := (show ∀ q ∈ i_X12_ice.drop 0, _ from p_cut 60 (p_dk_ok e_X12_ice_0) (by rw [List.drop_drop, List.drop_eq_nil_of_le (by decide +kernel)]; exact fun _ h => by cases h))
  rwa [List.drop_zero] at h
theorem e_X12_gone_0 : ((i_X12_gone.drop 0).take 60).all (p_dk prog_14_method_119_code) = true := by decide +kernel
theorem e_X12_gone : ∀ q ∈ i_X12_gone, decode prog_14_method_119_code q.1 = .ok q.2 ∧ (p_ln q.2.1 = 0 ∨ q.2.2 = p_ln q.2.1) := by
  have h := (show ∀ q ∈ i_X12_gone.drop 0, _ from p_cut 60 (p_dk_ok e_X12_gone_0) (by rw [List.drop_drop, List.drop_eq_nil_of_le (by decide +kernel)]; exact fun _ h => by cases h))
  rwa [List.drop_zero] at h
theorem e_X12_litter_0 : ((i_X12_litter.drop 0).take 60).all (p_dk prog_14_method_120_code) = true := by decide +kernel
theorem e_X12_litter : ∀ q ∈ i_X12_litter, decode prog_14_method_120_code q.1 = .ok q.2 ∧ (p_ln q.2.1 = 0 ∨ q.2.2 = p_ln q.2.1) := by
  have h := (show ∀ q ∈ i_X12_litter.drop 0, _ from p_cut 60 (p_dk_ok e_X12_litter_0) (by rw [List.drop_drop, List.drop_eq_nil_of_le (by decide +kernel)]; exact fun _ h => by cases h))
  rwa [List.drop_zero] at h
theorem e_X12_isLasting_0 : ((i_X12_isLasting.drop 0).take 60).all (p_dk prog_14_method_121_code) = true := by decide +kernel
theorem e_X12_isLasting_1 : ((i_X12_isLasting.drop 60).take 60).all (p_dk prog_14_method_121_code) = true := by decide +kernel
theorem e_X12_isLasting : ∀ q ∈ i_X12_isLasting, decode prog_14_method_121_code q.1 = .ok q.2 ∧ (p_ln q.2.1 = 0 ∨ q.2.2 = p_ln q.2.1) := by
  have h := (show ∀ q ∈ i_X12_isLasting.drop 0, _ from p_cut 60 (p_dk_ok e_X12_isLasting_0) (by rw [List.drop_drop]; exact p_cut 60 (p_dk_ok e_X12_isLasting_1) (by rw [List.drop_drop, List.drop_eq_nil_of_le (by decide +kernel)]; exact fun _ h => by cases h)))
  rwa [List.drop_zero] at h
theorem e_X12_pathsOf_0 : ((i_X12_pathsOf.drop 0).take 60).all (p_dk prog_14_method_122_code) = true := by decide +kernel
theorem e_X12_pathsOf : ∀ q ∈ i_X12_pathsOf, decode prog_14_method_122_code q.1 = .ok q.2 ∧ (p_ln q.2.1 = 0 ∨ q.2.2 = p_ln q.2.1) := by
  have h := (show ∀ q ∈ i_X12_pathsOf.drop 0, _ from p_cut 60 (p_dk_ok e_X12_pathsOf_0) (by rw [List.drop_drop, List.drop_eq_nil_of_le (by decide +kernel)]; exact fun _ h => by cases h))
  rwa [List.drop_zero] at h
theorem e_X12_lasting_0 : ((i_X12_lasting.drop 0).take 60).all (p_dk prog_14_method_123_code) = true := by decide +kernel
theorem e_X12_lasting : ∀ q ∈ i_X12_lasting, decode prog_14_method_123_code q.1 = .ok q.2 ∧ (p_ln q.2.1 = 0 ∨ q.2.2 = p_ln q.2.1) := by
  have h := (show ∀ q ∈ i_X12_lasting.drop 0, _ from p_cut 60 (p_dk_ok e_X12_lasting_0) (by rw [List.drop_drop, List.drop_eq_nil_of_le (by decide +kernel)]; exact fun _ h => by cases h))
  rwa [List.drop_zero] at h
theorem e_X12_gcd_0 : ((i_X12_gcd.drop 0).take 60).all (p_dk prog_14_method_124_code) = true := by decide +kernel
theorem e_X12_gcd : ∀ q ∈ i_X12_gcd, decode prog_14_method_124_code q.1 = .ok q.2 ∧ (p_ln q.2.1 = 0 ∨ q.2.2 = p_ln q.2.1) := by
  have h := (show ∀ q ∈ i_X12_gcd.drop 0, _ from p_cut 60 (p_dk_ok e_X12_gcd_0) (by rw [List.drop_drop, List.drop_eq_nil_of_le (by decide +kernel)]; exact fun _ h => by cases h))
  rwa [List.drop_zero] at h
theorem e_X12_part_0 : ((i_X12_part.drop 0).take 60).all (p_dk prog_14_method_125_code) = true := by decide +kernel
theorem e_X12_part : ∀ q ∈ i_X12_part, decode prog_14_method_125_code q.1 = .ok q.2 ∧ (p_ln q.2.1 = 0 ∨ q.2.2 = p_ln q.2.1) := by
  have h := (show ∀ q ∈ i_X12_part.drop 0, _ from p_cut 60 (p_dk_ok e_X12_part_0) (by rw [List.drop_drop, List.drop_eq_nil_of_le (by decide +kernel)]; exact fun _ h => by cases h))
  rwa [List.drop_zero] at h
theorem e_X12_lasts_0 : ((i_X12_lasts.drop 0).take 60).all (p_dk prog_14_method_126_code) = true := by decide +kernel
theorem e_X12_lasts : ∀ q ∈ i_X12_lasts, decode prog_14_method_126_code q.1 = .ok q.2 ∧ (p_ln q.2.1 = 0 ∨ q.2.2 = p_ln q.2.1) := by
  have h := (show ∀ q ∈ i_X12_lasts.drop 0, _ from p_cut 60 (p_dk_ok e_X12_lasts_0) (by rw [List.drop_drop, List.drop_eq_nil_of_le (by decide +kernel)]; exact fun _ h => by cases h))
  rwa [List.drop_zero] at h
theorem e_X12_sellFirst_0 : ((i_X12_sellFirst.drop 0).take 60).all (p_dk prog_14_method_127_code) = true := by decide +kernel
theorem e_X12_sellFirst : ∀ q ∈ i_X12_sellFirst, decode prog_14_method_127_code q.1 = .ok q.2 ∧ (p_ln q.2.1 = 0 ∨ q.2.2 = p_ln q.2.1) := by
  have h := (show ∀ q ∈ i_X12_sellFirst.drop 0, _ from p_cut 60 (p_dk_ok e_X12_sellFirst_0) (by rw [List.drop_drop, List.drop_eq_nil_of_le (by decide +kernel)]; exact fun _ h => by cases h))
  rwa [List.drop_zero] at h
theorem e_X12_order_0 : ((i_X12_order.drop 0).take 60).all (p_dk prog_14_method_128_code) = true := by decide +kernel
theorem e_X12_order_1 : ((i_X12_order.drop 60).take 60).all (p_dk prog_14_method_128_code) = true := by decide +kernel
theorem e_X12_order : ∀ q ∈ i_X12_order, decode prog_14_method_128_code q.1 = .ok q.2 ∧ (p_ln q.2.1 = 0 ∨ q.2.2 = p_ln q.2.1) := by
  have h := (show ∀ q ∈ i_X12_order.drop 0, _ from p_cut 60 (p_dk_ok e_X12_order_0) (by rw [List.drop_drop]; exact p_cut 60 (p_dk_ok e_X12_order_1) (by rw [List.drop_drop, List.drop_eq_nil_of_le (by decide +kernel)]; exact fun _ h => by cases h)))
  rwa [List.drop_zero] at h
theorem e_X12_isServing_0 : ((i_X12_isServing.drop 0).take 60).all (p_dk prog_14_method_129_code) = true := by decide +kernel
theorem e_X12_isServing : ∀ q ∈ i_X12_isServing, decode prog_14_method_129_code q.1 = .ok q.2 ∧ (p_ln q.2.1 = 0 ∨ q.2.2 = p_ln q.2.1) := by
  have h := (show ∀ q ∈ i_X12_isServing.drop 0, _ from p_cut 60 (p_dk_ok e_X12_isServing_0) (by rw [List.drop_drop, List.drop_eq_nil_of_le (by decide +kernel)]; exact fun _ h => by cases h))
  rwa [List.drop_zero] at h
theorem e_X12_findServing_0 : ((i_X12_findServing.drop 0).take 60).all (p_dk prog_14_method_130_code) = true := by decide +kernel
theorem e_X12_findServing_1 : ((i_X12_findServing.drop 60).take 60).all (p_dk prog_14_method_130_code) = true := by decide +kernel
theorem e_X12_findServing : ∀ q ∈ i_X12_findServing, decode prog_14_method_130_code q.1 = .ok q.2 ∧ (p_ln q.2.1 = 0 ∨ q.2.2 = p_ln q.2.1) := by
  have h := (show ∀ q ∈ i_X12_findServing.drop 0, _ from p_cut 60 (p_dk_ok e_X12_findServing_0) (by rw [List.drop_drop]; exact p_cut 60 (p_dk_ok e_X12_findServing_1) (by rw [List.drop_drop, List.drop_eq_nil_of_le (by decide +kernel)]; exact fun _ h => by cases h)))
  rwa [List.drop_zero] at h
theorem e_X12_mostOf_0 : ((i_X12_mostOf.drop 0).take 60).all (p_dk prog_14_method_131_code) = true := by decide +kernel
theorem e_X12_mostOf_1 : ((i_X12_mostOf.drop 60).take 60).all (p_dk prog_14_method_131_code) = true := by decide +kernel
theorem e_X12_mostOf : ∀ q ∈ i_X12_mostOf, decode prog_14_method_131_code q.1 = .ok q.2 ∧ (p_ln q.2.1 = 0 ∨ q.2.2 = p_ln q.2.1) := by
  have h := (show ∀ q ∈ i_X12_mostOf.drop 0, _ from p_cut 60 (p_dk_ok e_X12_mostOf_0) (by rw [List.drop_drop]; exact p_cut 60 (p_dk_ok e_X12_mostOf_1) (by rw [List.drop_drop, List.drop_eq_nil_of_le (by decide +kernel)]; exact fun _ h => by cases h)))
  rwa [List.drop_zero] at h
theorem e_X12_serverOf_0 : ((i_X12_serverOf.drop 0).take 60).all (p_dk prog_14_method_132_code) = true := by decide +kernel
theorem e_X12_serverOf : ∀ q ∈ i_X12_serverOf, decode prog_14_method_132_code q.1 = .ok q.2 ∧ (p_ln q.2.1 = 0 ∨ q.2.2 = p_ln q.2.1) := by
  have h := (show ∀ q ∈ i_X12_serverOf.drop 0, _ from p_cut 60 (p_dk_ok e_X12_serverOf_0) (by rw [List.drop_drop, List.drop_eq_nil_of_le (by decide +kernel)]; exact fun _ h => by cases h))
  rwa [List.drop_zero] at h
theorem e_X12_served_0 : ((i_X12_served.drop 0).take 60).all (p_dk prog_14_method_133_code) = true := by decide +kernel
theorem e_X12_served_1 : ((i_X12_served.drop 60).take 60).all (p_dk prog_14_method_133_code) = true := by decide +kernel
theorem e_X12_served : ∀ q ∈ i_X12_served, decode prog_14_method_133_code q.1 = .ok q.2 ∧ (p_ln q.2.1 = 0 ∨ q.2.2 = p_ln q.2.1) := by
  have h := (show ∀ q ∈ i_X12_served.drop 0, _ from p_cut 60 (p_dk_ok e_X12_served_0) (by rw [List.drop_drop]; exact p_cut 60 (p_dk_ok e_X12_served_1) (by rw [List.drop_drop, List.drop_eq_nil_of_le (by decide +kernel)]; exact fun _ h => by cases h)))
  rwa [List.drop_zero] at h
theorem e_X12_glass_0 : ((i_X12_glass.drop 0).take 60).all (p_dk prog_14_method_134_code) = true := by decide +kernel
theorem e_X12_glass_1 : ((i_X12_glass.drop 60).take 60).all (p_dk prog_14_method_134_code) = true := by decide +kernel
theorem e_X12_glass : ∀ q ∈ i_X12_glass, decode prog_14_method_134_code q.1 = .ok q.2 ∧ (p_ln q.2.1 = 0 ∨ q.2.2 = p_ln q.2.1) := by
  have h := (show ∀ q ∈ i_X12_glass.drop 0, _ from p_cut 60 (p_dk_ok e_X12_glass_0) (by rw [List.drop_drop]; exact p_cut 60 (p_dk_ok e_X12_glass_1) (by rw [List.drop_drop, List.drop_eq_nil_of_le (by decide +kernel)]; exact fun _ h => by cases h)))
  rwa [List.drop_zero] at h
theorem e_X12_layers_0 : ((i_X12_layers.drop 0).take 60).all (p_dk prog_14_method_135_code) = true := by decide +kernel
theorem e_X12_layers_1 : ((i_X12_layers.drop 60).take 60).all (p_dk prog_14_method_135_code) = true := by decide +kernel
theorem e_X12_layers : ∀ q ∈ i_X12_layers, decode prog_14_method_135_code q.1 = .ok q.2 ∧ (p_ln q.2.1 = 0 ∨ q.2.2 = p_ln q.2.1) := by
  have h := (show ∀ q ∈ i_X12_layers.drop 0, _ from p_cut 60 (p_dk_ok e_X12_layers_0) (by rw [List.drop_drop]; exact p_cut 60 (p_dk_ok e_X12_layers_1) (by rw [List.drop_drop, List.drop_eq_nil_of_le (by decide +kernel)]; exact fun _ h => by cases h)))
  rwa [List.drop_zero] at h
theorem e_X12_bid_0 : ((i_X12_bid.drop 0).take 60).all (p_dk prog_14_method_136_code) = true := by decide +kernel
theorem e_X12_bid : ∀ q ∈ i_X12_bid, decode prog_14_method_136_code q.1 = .ok q.2 ∧ (p_ln q.2.1 = 0 ∨ q.2.2 = p_ln q.2.1) := by
  have h := (show ∀ q ∈ i_X12_bid.drop 0, _ from p_cut 60 (p_dk_ok e_X12_bid_0) (by rw [List.drop_drop, List.drop_eq_nil_of_le (by decide +kernel)]; exact fun _ h => by cases h))
  rwa [List.drop_zero] at h
theorem e_X12_winner_0 : ((i_X12_winner.drop 0).take 60).all (p_dk prog_14_method_137_code) = true := by decide +kernel
theorem e_X12_winner : ∀ q ∈ i_X12_winner, decode prog_14_method_137_code q.1 = .ok q.2 ∧ (p_ln q.2.1 = 0 ∨ q.2.2 = p_ln q.2.1) := by
  have h := (show ∀ q ∈ i_X12_winner.drop 0, _ from p_cut 60 (p_dk_ok e_X12_winner_0) (by rw [List.drop_drop, List.drop_eq_nil_of_le (by decide +kernel)]; exact fun _ h => by cases h))
  rwa [List.drop_zero] at h
theorem e_X12_paid_0 : ((i_X12_paid.drop 0).take 60).all (p_dk prog_14_method_138_code) = true := by decide +kernel
theorem e_X12_paid : ∀ q ∈ i_X12_paid, decode prog_14_method_138_code q.1 = .ok q.2 ∧ (p_ln q.2.1 = 0 ∨ q.2.2 = p_ln q.2.1) := by
  have h := (show ∀ q ∈ i_X12_paid.drop 0, _ from p_cut 60 (p_dk_ok e_X12_paid_0) (by rw [List.drop_drop, List.drop_eq_nil_of_le (by decide +kernel)]; exact fun _ h => by cases h))
  rwa [List.drop_zero] at h
theorem e_X12_auction_0 : ((i_X12_auction.drop 0).take 60).all (p_dk prog_14_method_139_code) = true := by decide +kernel
theorem e_X12_auction : ∀ q ∈ i_X12_auction, decode prog_14_method_139_code q.1 = .ok q.2 ∧ (p_ln q.2.1 = 0 ∨ q.2.2 = p_ln q.2.1) := by
  have h := (show ∀ q ∈ i_X12_auction.drop 0, _ from p_cut 60 (p_dk_ok e_X12_auction_0) (by rw [List.drop_drop, List.drop_eq_nil_of_le (by decide +kernel)]; exact fun _ h => by cases h))
  rwa [List.drop_zero] at h
theorem e_X12_lies_0 : ((i_X12_lies.drop 0).take 60).all (p_dk prog_14_method_140_code) = true := by decide +kernel
theorem e_X12_lies_1 : ((i_X12_lies.drop 60).take 60).all (p_dk prog_14_method_140_code) = true := by decide +kernel
theorem e_X12_lies : ∀ q ∈ i_X12_lies, decode prog_14_method_140_code q.1 = .ok q.2 ∧ (p_ln q.2.1 = 0 ∨ q.2.2 = p_ln q.2.1) := by
  have h := (show ∀ q ∈ i_X12_lies.drop 0, _ from p_cut 60 (p_dk_ok e_X12_lies_0) (by rw [List.drop_drop]; exact p_cut 60 (p_dk_ok e_X12_lies_1) (by rw [List.drop_drop, List.drop_eq_nil_of_le (by decide +kernel)]; exact fun _ h => by cases h)))
  rwa [List.drop_zero] at h
theorem e_X12_kiss_0 : ((i_X12_kiss.drop 0).take 60).all (p_dk prog_14_method_141_code) = true := by decide +kernel
theorem e_X12_kiss : ∀ q ∈ i_X12_kiss, decode prog_14_method_141_code q.1 = .ok q.2 ∧ (p_ln q.2.1 = 0 ∨ q.2.2 = p_ln q.2.1) := by
  have h := (show ∀ q ∈ i_X12_kiss.drop 0, _ from p_cut 60 (p_dk_ok e_X12_kiss_0) (by rw [List.drop_drop, List.drop_eq_nil_of_le (by decide +kernel)]; exact fun _ h => by cases h))
  rwa [List.drop_zero] at h
theorem e_X12_unseen_0 : ((i_X12_unseen.drop 0).take 60).all (p_dk prog_14_method_142_code) = true := by decide +kernel
theorem e_X12_unseen_1 : ((i_X12_unseen.drop 60).take 60).all (p_dk prog_14_method_142_code) = true := by decide +kernel
theorem e_X12_unseen : ∀ q ∈ i_X12_unseen, decode prog_14_method_142_code q.1 = .ok q.2 ∧ (p_ln q.2.1 = 0 ∨ q.2.2 = p_ln q.2.1) := by
  have h := (show ∀ q ∈ i_X12_unseen.drop 0, _ from p_cut 60 (p_dk_ok e_X12_unseen_0) (by rw [List.drop_drop]; exact p_cut 60 (p_dk_ok e_X12_unseen_1) (by rw [List.drop_drop, List.drop_eq_nil_of_le (by decide +kernel)]; exact fun _ h => by cases h)))
  rwa [List.drop_zero] at h
theorem e_X12_measure_0 : ((i_X12_measure.drop 0).take 60).all (p_dk prog_14_method_143_code) = true := by decide +kernel
theorem e_X12_measure_1 : ((i_X12_measure.drop 60).take 60).all (p_dk prog_14_method_143_code) = true := by decide +kernel
theorem e_X12_measure : ∀ q ∈ i_X12_measure, decode prog_14_method_143_code q.1 = .ok q.2 ∧ (p_ln q.2.1 = 0 ∨ q.2.2 = p_ln q.2.1) := by
  have h := (show ∀ q ∈ i_X12_measure.drop 0, _ from p_cut 60 (p_dk_ok e_X12_measure_0) (by rw [List.drop_drop]; exact p_cut 60 (p_dk_ok e_X12_measure_1) (by rw [List.drop_drop, List.drop_eq_nil_of_le (by decide +kernel)]; exact fun _ h => by cases h)))
  rwa [List.drop_zero] at h
theorem e_X12_speed_0 : ((i_X12_speed.drop 0).take 60).all (p_dk prog_14_method_144_code) = true := by decide +kernel
theorem e_X12_speed_1 : ((i_X12_speed.drop 60).take 60).all (p_dk prog_14_method_144_code) = true := by decide +kernel
theorem e_X12_speed : ∀ q ∈ i_X12_speed, decode prog_14_method_144_code q.1 = .ok q.2 ∧ (p_ln q.2.1 = 0 ∨ q.2.2 = p_ln q.2.1) := by
  have h := (show ∀ q ∈ i_X12_speed.drop 0, _ from p_cut 60 (p_dk_ok e_X12_speed_0) (by rw [List.drop_drop]; exact p_cut 60 (p_dk_ok e_X12_speed_1) (by rw [List.drop_drop, List.drop_eq_nil_of_le (by decide +kernel)]; exact fun _ h => by cases h)))
  rwa [List.drop_zero] at h
theorem e_X12_sellers_0 : ((i_X12_sellers.drop 0).take 60).all (p_dk prog_14_method_145_code) = true := by decide +kernel
theorem e_X12_sellers_1 : ((i_X12_sellers.drop 60).take 60).all (p_dk prog_14_method_145_code) = true := by decide +kernel
theorem e_X12_sellers_2 : ((i_X12_sellers.drop 120).take 60).all (p_dk prog_14_method_145_code) = true := by decide +kernel
theorem e_X12_sellers : ∀ q ∈ i_X12_sellers, decode prog_14_method_145_code q.1 = .ok q.2 ∧ (p_ln q.2.1 = 0 ∨ q.2.2 = p_ln q.2.1) := by
  have h := (show ∀ q ∈ i_X12_sellers.drop 0, _ from p_cut 60 (p_dk_ok e_X12_sellers_0) (by rw [List.drop_drop]; exact p_cut 60 (p_dk_ok e_X12_sellers_1) (by rw [List.drop_drop]; exact p_cut 60 (p_dk_ok e_X12_sellers_2) (by rw [List.drop_drop, List.drop_eq_nil_of_le (by decide +kernel)]; exact fun _ h => by cases h))))
  rwa [List.drop_zero] at h
theorem e_X12_worthLater_0 : ((i_X12_worthLater.drop 0).take 60).all (p_dk prog_14_method_146_code) = true := by decide +kernel
theorem e_X12_worthLater : ∀ q ∈ i_X12_worthLater, decode prog_14_method_146_code q.1 = .ok q.2 ∧ (p_ln q.2.1 = 0 ∨ q.2.2 = p_ln q.2.1) := by
  have h := (show ∀ q ∈ i_X12_worthLater.drop 0, _ from p_cut 60 (p_dk_ok e_X12_worthLater_0) (by rw [List.drop_drop, List.drop_eq_nil_of_le (by decide +kernel)]; exact fun _ h => by cases h))
  rwa [List.drop_zero] at h
theorem e_X12_strawBest_0 : ((i_X12_strawBest.drop 0).take 60).all (p_dk prog_14_method_147_code) = true := by decide +kernel
theorem e_X12_strawBest_1 : ((i_X12_strawBest.drop 60).take 60).all (p_dk prog_14_method_147_code) = true := by decide +kernel
theorem e_X12_strawBest : ∀ q ∈ i_X12_strawBest, decode prog_14_method_147_code q.1 = .ok q.2 ∧ (p_ln q.2.1 = 0 ∨ q.2.2 = p_ln q.2.1) := by
  have h := (show ∀ q ∈ i_X12_strawBest.drop 0, _ from p_cut 60 (p_dk_ok e_X12_strawBest_0) (by rw [List.drop_drop]; exact p_cut 60 (p_dk_ok e_X12_strawBest_1) (by rw [List.drop_drop, List.drop_eq_nil_of_le (by decide +kernel)]; exact fun _ h => by cases h)))
  rwa [List.drop_zero] at h

theorem e_X11_auction_0 : ((i_X11_auction.drop 0).take 60).all (p_dk prog_1_method_36_code) = true := by decide +kernel
theorem e_X11_auction : ∀ q ∈ i_X11_auction, decode prog_1_method_36_code q.1 = .ok q.2 ∧ (p_ln q.2.1 = 0 ∨ q.2.2 = p_ln q.2.1) := by
  have h := (show ∀ q ∈ i_X11_auction.drop 0, _ from p_cut 60 (p_dk_ok e_X11_auction_0) (by rw [List.drop_drop, List.drop_eq_nil_of_le (by decide +kernel)]; exact fun _ h => by cases h))
  rwa [List.drop_zero] at h
theorem e_X11_lies_0 : ((i_X11_lies.drop 0).take 60).all (p_dk prog_1_method_37_code) = true := by decide +kernel
theorem e_X11_lies : ∀ q ∈ i_X11_lies, decode prog_1_method_37_code q.1 = .ok q.2 ∧ (p_ln q.2.1 = 0 ∨ q.2.2 = p_ln q.2.1) := by
  have h := (show ∀ q ∈ i_X11_lies.drop 0, _ from p_cut 60 (p_dk_ok e_X11_lies_0) (by rw [List.drop_drop, List.drop_eq_nil_of_le (by decide +kernel)]; exact fun _ h => by cases h))
  rwa [List.drop_zero] at h
theorem e_X11_kiss_0 : ((i_X11_kiss.drop 0).take 60).all (p_dk prog_1_method_38_code) = true := by decide +kernel
theorem e_X11_kiss : ∀ q ∈ i_X11_kiss, decode prog_1_method_38_code q.1 = .ok q.2 ∧ (p_ln q.2.1 = 0 ∨ q.2.2 = p_ln q.2.1) := by
  have h := (show ∀ q ∈ i_X11_kiss.drop 0, _ from p_cut 60 (p_dk_ok e_X11_kiss_0) (by rw [List.drop_drop, List.drop_eq_nil_of_le (by decide +kernel)]; exact fun _ h => by cases h))
  rwa [List.drop_zero] at h
theorem e_X11_unseen_0 : ((i_X11_unseen.drop 0).take 60).all (p_dk prog_1_method_39_code) = true := by decide +kernel
theorem e_X11_unseen : ∀ q ∈ i_X11_unseen, decode prog_1_method_39_code q.1 = .ok q.2 ∧ (p_ln q.2.1 = 0 ∨ q.2.2 = p_ln q.2.1) := by
  have h := (show ∀ q ∈ i_X11_unseen.drop 0, _ from p_cut 60 (p_dk_ok e_X11_unseen_0) (by rw [List.drop_drop, List.drop_eq_nil_of_le (by decide +kernel)]; exact fun _ h => by cases h))
  rwa [List.drop_zero] at h
theorem e_X11_measure_0 : ((i_X11_measure.drop 0).take 60).all (p_dk prog_1_method_40_code) = true := by decide +kernel
theorem e_X11_measure : ∀ q ∈ i_X11_measure, decode prog_1_method_40_code q.1 = .ok q.2 ∧ (p_ln q.2.1 = 0 ∨ q.2.2 = p_ln q.2.1) := by
  have h := (show ∀ q ∈ i_X11_measure.drop 0, _ from p_cut 60 (p_dk_ok e_X11_measure_0) (by rw [List.drop_drop, List.drop_eq_nil_of_le (by decide +kernel)]; exact fun _ h => by cases h))
  rwa [List.drop_zero] at h
theorem e_X11_speed_0 : ((i_X11_speed.drop 0).take 60).all (p_dk prog_1_method_41_code) = true := by decide +kernel
theorem e_X11_speed_1 : ((i_X11_speed.drop 60).take 60).all (p_dk prog_1_method_41_code) = true := by decide +kernel
theorem e_X11_speed : ∀ q ∈ i_X11_speed, decode prog_1_method_41_code q.1 = .ok q.2 ∧ (p_ln q.2.1 = 0 ∨ q.2.2 = p_ln q.2.1) := by
  have h := (show ∀ q ∈ i_X11_speed.drop 0, _ from p_cut 60 (p_dk_ok e_X11_speed_0) (by rw [List.drop_drop]; exact p_cut 60 (p_dk_ok e_X11_speed_1) (by rw [List.drop_drop, List.drop_eq_nil_of_le (by decide +kernel)]; exact fun _ h => by cases h)))
  rwa [List.drop_zero] at h
theorem e_X11_sellers_0 : ((i_X11_sellers.drop 0).take 60).all (p_dk prog_1_method_42_code) = true := by decide +kernel
theorem e_X11_sellers : ∀ q ∈ i_X11_sellers, decode prog_1_method_42_code q.1 = .ok q.2 ∧ (p_ln q.2.1 = 0 ∨ q.2.2 = p_ln q.2.1) := by
  have h := (show ∀ q ∈ i_X11_sellers.drop 0, _ from p_cut 60 (p_dk_ok e_X11_sellers_0) (by rw [List.drop_drop, List.drop_eq_nil_of_le (by decide +kernel)]; exact fun _ h => by cases h))
  rwa [List.drop_zero] at h
theorem e_X11_strawBest_0 : ((i_X11_strawBest.drop 0).take 60).all (p_dk prog_1_method_43_code) = true := by decide +kernel
theorem e_X11_strawBest : ∀ q ∈ i_X11_strawBest, decode prog_1_method_43_code q.1 = .ok q.2 ∧ (p_ln q.2.1 = 0 ∨ q.2.2 = p_ln q.2.1) := by
  have h := (show ∀ q ∈ i_X11_strawBest.drop 0, _ from p_cut 60 (p_dk_ok e_X11_strawBest_0) (by rw [List.drop_drop, List.drop_eq_nil_of_le (by decide +kernel)]; exact fun _ h => by cases h))
  rwa [List.drop_zero] at h
theorem e_X11_melt_0 : ((i_X11_melt.drop 0).take 60).all (p_dk prog_1_method_44_code) = true := by decide +kernel
theorem e_X11_melt : ∀ q ∈ i_X11_melt, decode prog_1_method_44_code q.1 = .ok q.2 ∧ (p_ln q.2.1 = 0 ∨ q.2.2 = p_ln q.2.1) := by
  have h := (show ∀ q ∈ i_X11_melt.drop 0, _ from p_cut 60 (p_dk_ok e_X11_melt_0) (by rw [List.drop_drop, List.drop_eq_nil_of_le (by decide +kernel)]; exact fun _ h => by cases h))
  rwa [List.drop_zero] at h
theorem e_X11_whoseLaw_0 : ((i_X11_whoseLaw.drop 0).take 60).all (p_dk prog_1_method_45_code) = true := by decide +kernel
theorem e_X11_whoseLaw : ∀ q ∈ i_X11_whoseLaw, decode prog_1_method_45_code q.1 = .ok q.2 ∧ (p_ln q.2.1 = 0 ∨ q.2.2 = p_ln q.2.1) := by
  have h := (show ∀ q ∈ i_X11_whoseLaw.drop 0, _ from p_cut 60 (p_dk_ok e_X11_whoseLaw_0) (by rw [List.drop_drop, List.drop_eq_nil_of_le (by decide +kernel)]; exact fun _ h => by cases h))
  rwa [List.drop_zero] at h
theorem e_X11_image_0 : ((i_X11_image.drop 0).take 60).all (p_dk prog_1_method_46_code) = true := by decide +kernel
theorem e_X11_image : ∀ q ∈ i_X11_image, decode prog_1_method_46_code q.1 = .ok q.2 ∧ (p_ln q.2.1 = 0 ∨ q.2.2 = p_ln q.2.1) := by
  have h := (show ∀ q ∈ i_X11_image.drop 0, _ from p_cut 60 (p_dk_ok e_X11_image_0) (by rw [List.drop_drop, List.drop_eq_nil_of_le (by decide +kernel)]; exact fun _ h => by cases h))
  rwa [List.drop_zero] at h
theorem e_X11_back_0 : ((i_X11_back.drop 0).take 60).all (p_dk prog_1_method_47_code) = true := by decide +kernel
theorem e_X11_back : ∀ q ∈ i_X11_back, decode prog_1_method_47_code q.1 = .ok q.2 ∧ (p_ln q.2.1 = 0 ∨ q.2.2 = p_ln q.2.1) := by
  have h := (show ∀ q ∈ i_X11_back.drop 0, _ from p_cut 60 (p_dk_ok e_X11_back_0) (by rw [List.drop_drop, List.drop_eq_nil_of_le (by decide +kernel)]; exact fun _ h => by cases h))
  rwa [List.drop_zero] at h
theorem e_X11_about_0 : ((i_X11_about.drop 0).take 60).all (p_dk prog_1_method_48_code) = true := by decide +kernel
theorem e_X11_about : ∀ q ∈ i_X11_about, decode prog_1_method_48_code q.1 = .ok q.2 ∧ (p_ln q.2.1 = 0 ∨ q.2.2 = p_ln q.2.1) := by
  have h := (show ∀ q ∈ i_X11_about.drop 0, _ from p_cut 60 (p_dk_ok e_X11_about_0) (by rw [List.drop_drop, List.drop_eq_nil_of_le (by decide +kernel)]; exact fun _ h => by cases h))
  rwa [List.drop_zero] at h
theorem e_X11_perform_0 : ((i_X11_perform.drop 0).take 60).all (p_dk prog_1_method_49_code) = true := by decide +kernel
theorem e_X11_perform_1 : ((i_X11_perform.drop 60).take 60).all (p_dk prog_1_method_49_code) = true := by decide +kernel
theorem e_X11_perform : ∀ q ∈ i_X11_perform, decode prog_1_method_49_code q.1 = .ok q.2 ∧ (p_ln q.2.1 = 0 ∨ q.2.2 = p_ln q.2.1) := by
  have h := (show ∀ q ∈ i_X11_perform.drop 0, _ from p_cut 60 (p_dk_ok e_X11_perform_0) (by rw [List.drop_drop]; exact p_cut 60 (p_dk_ok e_X11_perform_1) (by rw [List.drop_drop, List.drop_eq_nil_of_le (by decide +kernel)]; exact fun _ h => by cases h)))
  rwa [List.drop_zero] at h
theorem e_X11_sawThrough_0 : ((i_X11_sawThrough.drop 0).take 60).all (p_dk prog_1_method_50_code) = true := by decide +kernel
theorem e_X11_sawThrough_1 : ((i_X11_sawThrough.drop 60).take 60).all (p_dk prog_1_method_50_code) = true := by decide +kernel
theorem e_X11_sawThrough : ∀ q ∈ i_X11_sawThrough, decode prog_1_method_50_code q.1 = .ok q.2 ∧ (p_ln q.2.1 = 0 ∨ q.2.2 = p_ln q.2.1) := by
  have h := (show ∀ q ∈ i_X11_sawThrough.drop 0, _ from p_cut 60 (p_dk_ok e_X11_sawThrough_0) (by rw [List.drop_drop]; exact p_cut 60 (p_dk_ok e_X11_sawThrough_1) (by rw [List.drop_drop, List.drop_eq_nil_of_le (by decide +kernel)]; exact fun _ h => by cases h)))
  rwa [List.drop_zero] at h
theorem e_X11_canLay_0 : ((i_X11_canLay.drop 0).take 60).all (p_dk prog_1_method_51_code) = true := by decide +kernel
theorem e_X11_canLay : ∀ q ∈ i_X11_canLay, decode prog_1_method_51_code q.1 = .ok q.2 ∧ (p_ln q.2.1 = 0 ∨ q.2.2 = p_ln q.2.1) := by
  have h := (show ∀ q ∈ i_X11_canLay.drop 0, _ from p_cut 60 (p_dk_ok e_X11_canLay_0) (by rw [List.drop_drop, List.drop_eq_nil_of_le (by decide +kernel)]; exact fun _ h => by cases h))
  rwa [List.drop_zero] at h
theorem e_X11_layStraw_0 : ((i_X11_layStraw.drop 0).take 60).all (p_dk prog_1_method_52_code) = true := by decide +kernel
theorem e_X11_layStraw : ∀ q ∈ i_X11_layStraw, decode prog_1_method_52_code q.1 = .ok q.2 ∧ (p_ln q.2.1 = 0 ∨ q.2.2 = p_ln q.2.1) := by
  have h := (show ∀ q ∈ i_X11_layStraw.drop 0, _ from p_cut 60 (p_dk_ok e_X11_layStraw_0) (by rw [List.drop_drop, List.drop_eq_nil_of_le (by decide +kernel)]; exact fun _ h => by cases h))
  rwa [List.drop_zero] at h
theorem e_X11_layByHand_0 : ((i_X11_layByHand.drop 0).take 60).all (p_dk prog_1_method_53_code) = true := by decide +kernel
theorem e_X11_layByHand : ∀ q ∈ i_X11_layByHand, decode prog_1_method_53_code q.1 = .ok q.2 ∧ (p_ln q.2.1 = 0 ∨ q.2.2 = p_ln q.2.1) := by
  have h := (show ∀ q ∈ i_X11_layByHand.drop 0, _ from p_cut 60 (p_dk_ok e_X11_layByHand_0) (by rw [List.drop_drop, List.drop_eq_nil_of_le (by decide +kernel)]; exact fun _ h => by cases h))
  rwa [List.drop_zero] at h
theorem e_X11_passDay_0 : ((i_X11_passDay.drop 0).take 60).all (p_dk prog_1_method_54_code) = true := by decide +kernel
theorem e_X11_passDay : ∀ q ∈ i_X11_passDay, decode prog_1_method_54_code q.1 = .ok q.2 ∧ (p_ln q.2.1 = 0 ∨ q.2.2 = p_ln q.2.1) := by
  have h := (show ∀ q ∈ i_X11_passDay.drop 0, _ from p_cut 60 (p_dk_ok e_X11_passDay_0) (by rw [List.drop_drop, List.drop_eq_nil_of_le (by decide +kernel)]; exact fun _ h => by cases h))
  rwa [List.drop_zero] at h
theorem e_X11_passDays_0 : ((i_X11_passDays.drop 0).take 60).all (p_dk prog_1_method_55_code) = true := by decide +kernel
theorem e_X11_passDays : ∀ q ∈ i_X11_passDays, decode prog_1_method_55_code q.1 = .ok q.2 ∧ (p_ln q.2.1 = 0 ∨ q.2.2 = p_ln q.2.1) := by
  have h := (show ∀ q ∈ i_X11_passDays.drop 0, _ from p_cut 60 (p_dk_ok e_X11_passDays_0) (by rw [List.drop_drop, List.drop_eq_nil_of_le (by decide +kernel)]; exact fun _ h => by cases h))
  rwa [List.drop_zero] at h
theorem e_X11_canSell_0 : ((i_X11_canSell.drop 0).take 60).all (p_dk prog_1_method_56_code) = true := by decide +kernel
theorem e_X11_canSell : ∀ q ∈ i_X11_canSell, decode prog_1_method_56_code q.1 = .ok q.2 ∧ (p_ln q.2.1 = 0 ∨ q.2.2 = p_ln q.2.1) := by
  have h := (show ∀ q ∈ i_X11_canSell.drop 0, _ from p_cut 60 (p_dk_ok e_X11_canSell_0) (by rw [List.drop_drop, List.drop_eq_nil_of_le (by decide +kernel)]; exact fun _ h => by cases h))
  rwa [List.drop_zero] at h
theorem e_X11_sellOff_0 : ((i_X11_sellOff.drop 0).take 60).all (p_dk prog_1_method_57_code) = true := by decide +kernel
theorem e_X11_sellOff : ∀ q ∈ i_X11_sellOff, decode prog_1_method_57_code q.1 = .ok q.2 ∧ (p_ln q.2.1 = 0 ∨ q.2.2 = p_ln q.2.1) := by
  have h := (show ∀ q ∈ i_X11_sellOff.drop 0, _ from p_cut 60 (p_dk_ok e_X11_sellOff_0) (by rw [List.drop_drop, List.drop_eq_nil_of_le (by decide +kernel)]; exact fun _ h => by cases h))
  rwa [List.drop_zero] at h
theorem e_X11_sellByHand_0 : ((i_X11_sellByHand.drop 0).take 60).all (p_dk prog_1_method_58_code) = true := by decide +kernel
theorem e_X11_sellByHand : ∀ q ∈ i_X11_sellByHand, decode prog_1_method_58_code q.1 = .ok q.2 ∧ (p_ln q.2.1 = 0 ∨ q.2.2 = p_ln q.2.1) := by
  have h := (show ∀ q ∈ i_X11_sellByHand.drop 0, _ from p_cut 60 (p_dk_ok e_X11_sellByHand_0) (by rw [List.drop_drop, List.drop_eq_nil_of_le (by decide +kernel)]; exact fun _ h => by cases h))
  rwa [List.drop_zero] at h
theorem e_X11_isBlock_0 : ((i_X11_isBlock.drop 0).take 60).all (p_dk prog_1_method_59_code) = true := by decide +kernel
theorem e_X11_isBlock : ∀ q ∈ i_X11_isBlock, decode prog_1_method_59_code q.1 = .ok q.2 ∧ (p_ln q.2.1 = 0 ∨ q.2.2 = p_ln q.2.1) := by
  have h := (show ∀ q ∈ i_X11_isBlock.drop 0, _ from p_cut 60 (p_dk_ok e_X11_isBlock_0) (by rw [List.drop_drop, List.drop_eq_nil_of_le (by decide +kernel)]; exact fun _ h => by cases h))
  rwa [List.drop_zero] at h
theorem e_X11_isSight_0 : ((i_X11_isSight.drop 0).take 60).all (p_dk prog_1_method_60_code) = true := by decide +kernel
theorem e_X11_isSight : ∀ q ∈ i_X11_isSight, decode prog_1_method_60_code q.1 = .ok q.2 ∧ (p_ln q.2.1 = 0 ∨ q.2.2 = p_ln q.2.1) := by
  have h := (show ∀ q ∈ i_X11_isSight.drop 0, _ from p_cut 60 (p_dk_ok e_X11_isSight_0) (by rw [List.drop_drop, List.drop_eq_nil_of_le (by decide +kernel)]; exact fun _ h => by cases h))
  rwa [List.drop_zero] at h
theorem e_X11_meltsNow_0 : ((i_X11_meltsNow.drop 0).take 60).all (p_dk prog_1_method_61_code) = true := by decide +kernel
theorem e_X11_meltsNow : ∀ q ∈ i_X11_meltsNow, decode prog_1_method_61_code q.1 = .ok q.2 ∧ (p_ln q.2.1 = 0 ∨ q.2.2 = p_ln q.2.1) := by
  have h := (show ∀ q ∈ i_X11_meltsNow.drop 0, _ from p_cut 60 (p_dk_ok e_X11_meltsNow_0) (by rw [List.drop_drop, List.drop_eq_nil_of_le (by decide +kernel)]; exact fun _ h => by cases h))
  rwa [List.drop_zero] at h
theorem e_X11_sellsNow_0 : ((i_X11_sellsNow.drop 0).take 60).all (p_dk prog_1_method_62_code) = true := by decide +kernel
theorem e_X11_sellsNow : ∀ q ∈ i_X11_sellsNow, decode prog_1_method_62_code q.1 = .ok q.2 ∧ (p_ln q.2.1 = 0 ∨ q.2.2 = p_ln q.2.1) := by
  have h := (show ∀ q ∈ i_X11_sellsNow.drop 0, _ from p_cut 60 (p_dk_ok e_X11_sellsNow_0) (by rw [List.drop_drop, List.drop_eq_nil_of_le (by decide +kernel)]; exact fun _ h => by cases h))
  rwa [List.drop_zero] at h
theorem e_X11_showingNow_0 : ((i_X11_showingNow.drop 0).take 60).all (p_dk prog_1_method_63_code) = true := by decide +kernel
theorem e_X11_showingNow : ∀ q ∈ i_X11_showingNow, decode prog_1_method_63_code q.1 = .ok q.2 ∧ (p_ln q.2.1 = 0 ∨ q.2.2 = p_ln q.2.1) := by
  have h := (show ∀ q ∈ i_X11_showingNow.drop 0, _ from p_cut 60 (p_dk_ok e_X11_showingNow_0) (by rw [List.drop_drop, List.drop_eq_nil_of_le (by decide +kernel)]; exact fun _ h => by cases h))
  rwa [List.drop_zero] at h
theorem e_X11_showingBehind_0 : ((i_X11_showingBehind.drop 0).take 60).all (p_dk prog_1_method_64_code) = true := by decide +kernel
theorem e_X11_showingBehind : ∀ q ∈ i_X11_showingBehind, decode prog_1_method_64_code q.1 = .ok q.2 ∧ (p_ln q.2.1 = 0 ∨ q.2.2 = p_ln q.2.1) := by
  have h := (show ∀ q ∈ i_X11_showingBehind.drop 0, _ from p_cut 60 (p_dk_ok e_X11_showingBehind_0) (by rw [List.drop_drop, List.drop_eq_nil_of_le (by decide +kernel)]; exact fun _ h => by cases h))
  rwa [List.drop_zero] at h
theorem e_X11_sightsOf_0 : ((i_X11_sightsOf.drop 0).take 60).all (p_dk prog_1_method_65_code) = true := by decide +kernel
theorem e_X11_sightsOf : ∀ q ∈ i_X11_sightsOf, decode prog_1_method_65_code q.1 = .ok q.2 ∧ (p_ln q.2.1 = 0 ∨ q.2.2 = p_ln q.2.1) := by
  have h := (show ∀ q ∈ i_X11_sightsOf.drop 0, _ from p_cut 60 (p_dk_ok e_X11_sightsOf_0) (by rw [List.drop_drop, List.drop_eq_nil_of_le (by decide +kernel)]; exact fun _ h => by cases h))
  rwa [List.drop_zero] at h
theorem e_X11_wholeSights_0 : ((i_X11_wholeSights.drop 0).take 60).all (p_dk prog_1_method_66_code) = true := by decide +kernel
theorem e_X11_wholeSights : ∀ q ∈ i_X11_wholeSights, decode prog_1_method_66_code q.1 = .ok q.2 ∧ (p_ln q.2.1 = 0 ∨ q.2.2 = p_ln q.2.1) := by
  have h := (show ∀ q ∈ i_X11_wholeSights.drop 0, _ from p_cut 60 (p_dk_ok e_X11_wholeSights_0) (by rw [List.drop_drop, List.drop_eq_nil_of_le (by decide +kernel)]; exact fun _ h => by cases h))
  rwa [List.drop_zero] at h
theorem e_X11_linesThrough_0 : ((i_X11_linesThrough.drop 0).take 60).all (p_dk prog_1_method_67_code) = true := by decide +kernel
theorem e_X11_linesThrough : ∀ q ∈ i_X11_linesThrough, decode prog_1_method_67_code q.1 = .ok q.2 ∧ (p_ln q.2.1 = 0 ∨ q.2.2 = p_ln q.2.1) := by
  have h := (show ∀ q ∈ i_X11_linesThrough.drop 0, _ from p_cut 60 (p_dk_ok e_X11_linesThrough_0) (by rw [List.drop_drop, List.drop_eq_nil_of_le (by decide +kernel)]; exact fun _ h => by cases h))
  rwa [List.drop_zero] at h
theorem e_X11_findLevelSets_0 : ((i_X11_findLevelSets.drop 0).take 60).all (p_dk prog_1_method_68_code) = true := by decide +kernel
theorem e_X11_findLevelSets_1 : ((i_X11_findLevelSets.drop 60).take 60).all (p_dk prog_1_method_68_code) = true := by decide +kernel
theorem e_X11_findLevelSets : ∀ q ∈ i_X11_findLevelSets, decode prog_1_method_68_code q.1 = .ok q.2 ∧ (p_ln q.2.1 = 0 ∨ q.2.2 = p_ln q.2.1) := by
  have h := (show ∀ q ∈ i_X11_findLevelSets.drop 0, _ from p_cut 60 (p_dk_ok e_X11_findLevelSets_0) (by rw [List.drop_drop]; exact p_cut 60 (p_dk_ok e_X11_findLevelSets_1) (by rw [List.drop_drop, List.drop_eq_nil_of_le (by decide +kernel)]; exact fun _ h => by cases h)))
  rwa [List.drop_zero] at h
theorem e_X11_levelSetFor_0 : ((i_X11_levelSetFor.drop 0).take 60).all (p_dk prog_1_method_69_code) = true := by decide +kernel
theorem e_X11_levelSetFor : ∀ q ∈ i_X11_levelSetFor, decode prog_1_method_69_code q.1 = .ok q.2 ∧ (p_ln q.2.1 = 0 ∨ q.2.2 = p_ln q.2.1) := by
  have h := (show ∀ q ∈ i_X11_levelSetFor.drop 0, _ from p_cut 60 (p_dk_ok e_X11_levelSetFor_0) (by rw [List.drop_drop, List.drop_eq_nil_of_le (by decide +kernel)]; exact fun _ h => by cases h))
  rwa [List.drop_zero] at h
theorem e_X11_narrowest_0 : ((i_X11_narrowest.drop 0).take 60).all (p_dk prog_1_method_70_code) = true := by decide +kernel
theorem e_X11_narrowest : ∀ q ∈ i_X11_narrowest, decode prog_1_method_70_code q.1 = .ok q.2 ∧ (p_ln q.2.1 = 0 ∨ q.2.2 = p_ln q.2.1) := by
  have h := (show ∀ q ∈ i_X11_narrowest.drop 0, _ from p_cut 60 (p_dk_ok e_X11_narrowest_0) (by rw [List.drop_drop, List.drop_eq_nil_of_le (by decide +kernel)]; exact fun _ h => by cases h))
  rwa [List.drop_zero] at h
theorem e_X11_manyAhead_0 : ((i_X11_manyAhead.drop 0).take 60).all (p_dk prog_1_method_71_code) = true := by decide +kernel
theorem e_X11_manyAhead : ∀ q ∈ i_X11_manyAhead, decode prog_1_method_71_code q.1 = .ok q.2 ∧ (p_ln q.2.1 = 0 ∨ q.2.2 = p_ln q.2.1) := by
  have h := (show ∀ q ∈ i_X11_manyAhead.drop 0, _ from p_cut 60 (p_dk_ok e_X11_manyAhead_0) (by rw [List.drop_drop, List.drop_eq_nil_of_le (by decide +kernel)]; exact fun _ h => by cases h))
  rwa [List.drop_zero] at h
theorem e_X11_hasLikeBefore_0 : ((i_X11_hasLikeBefore.drop 0).take 60).all (p_dk prog_1_method_72_code) = true := by decide +kernel
theorem e_X11_hasLikeBefore : ∀ q ∈ i_X11_hasLikeBefore, decode prog_1_method_72_code q.1 = .ok q.2 ∧ (p_ln q.2.1 = 0 ∨ q.2.2 = p_ln q.2.1) := by
  have h := (show ∀ q ∈ i_X11_hasLikeBefore.drop 0, _ from p_cut 60 (p_dk_ok e_X11_hasLikeBefore_0) (by rw [List.drop_drop, List.drop_eq_nil_of_le (by decide +kernel)]; exact fun _ h => by cases h))
  rwa [List.drop_zero] at h
theorem e_X11_mayLie_0 : ((i_X11_mayLie.drop 0).take 60).all (p_dk prog_1_method_73_code) = true := by decide +kernel
theorem e_X11_mayLie_1 : ((i_X11_mayLie.drop 60).take 60).all (p_dk prog_1_method_73_code) = true := by decide +kernel
theorem e_X11_mayLie : ∀ q ∈ i_X11_mayLie, decode prog_1_method_73_code q.1 = .ok q.2 ∧ (p_ln q.2.1 = 0 ∨ q.2.2 = p_ln q.2.1) := by
  have h := (show ∀ q ∈ i_X11_mayLie.drop 0, _ from p_cut 60 (p_dk_ok e_X11_mayLie_0) (by rw [List.drop_drop]; exact p_cut 60 (p_dk_ok e_X11_mayLie_1) (by rw [List.drop_drop, List.drop_eq_nil_of_le (by decide +kernel)]; exact fun _ h => by cases h)))
  rwa [List.drop_zero] at h
theorem e_X11_winner_0 : ((i_X11_winner.drop 0).take 60).all (p_dk prog_1_method_74_code) = true := by decide +kernel
theorem e_X11_winner : ∀ q ∈ i_X11_winner, decode prog_1_method_74_code q.1 = .ok q.2 ∧ (p_ln q.2.1 = 0 ∨ q.2.2 = p_ln q.2.1) := by
  have h := (show ∀ q ∈ i_X11_winner.drop 0, _ from p_cut 60 (p_dk_ok e_X11_winner_0) (by rw [List.drop_drop, List.drop_eq_nil_of_le (by decide +kernel)]; exact fun _ h => by cases h))
  rwa [List.drop_zero] at h
theorem e_X11_highestBut_0 : ((i_X11_highestBut.drop 0).take 60).all (p_dk prog_1_method_75_code) = true := by decide +kernel
theorem e_X11_highestBut : ∀ q ∈ i_X11_highestBut, decode prog_1_method_75_code q.1 = .ok q.2 ∧ (p_ln q.2.1 = 0 ∨ q.2.2 = p_ln q.2.1) := by
  have h := (show ∀ q ∈ i_X11_highestBut.drop 0, _ from p_cut 60 (p_dk_ok e_X11_highestBut_0) (by rw [List.drop_drop, List.drop_eq_nil_of_le (by decide +kernel)]; exact fun _ h => by cases h))
  rwa [List.drop_zero] at h
theorem e_X11_bestPlay_0 : ((i_X11_bestPlay.drop 0).take 60).all (p_dk prog_1_method_76_code) = true := by decide +kernel
theorem e_X11_bestPlay_1 : ((i_X11_bestPlay.drop 60).take 60).all (p_dk prog_1_method_76_code) = true := by decide +kernel
theorem e_X11_bestPlay : ∀ q ∈ i_X11_bestPlay, decode prog_1_method_76_code q.1 = .ok q.2 ∧ (p_ln q.2.1 = 0 ∨ q.2.2 = p_ln q.2.1) := by
  have h := (show ∀ q ∈ i_X11_bestPlay.drop 0, _ from p_cut 60 (p_dk_ok e_X11_bestPlay_0) (by rw [List.drop_drop]; exact p_cut 60 (p_dk_ok e_X11_bestPlay_1) (by rw [List.drop_drop, List.drop_eq_nil_of_le (by decide +kernel)]; exact fun _ h => by cases h)))
  rwa [List.drop_zero] at h
theorem e_X11_allSoBy_0 : ((i_X11_allSoBy.drop 0).take 60).all (p_dk prog_1_method_77_code) = true := by decide +kernel
theorem e_X11_allSoBy : ∀ q ∈ i_X11_allSoBy, decode prog_1_method_77_code q.1 = .ok q.2 ∧ (p_ln q.2.1 = 0 ∨ q.2.2 = p_ln q.2.1) := by
  have h := (show ∀ q ∈ i_X11_allSoBy.drop 0, _ from p_cut 60 (p_dk_ok e_X11_allSoBy_0) (by rw [List.drop_drop, List.drop_eq_nil_of_le (by decide +kernel)]; exact fun _ h => by cases h))
  rwa [List.drop_zero] at h
theorem e_X11_within_0 : ((i_X11_within.drop 0).take 60).all (p_dk prog_1_method_78_code) = true := by decide +kernel
theorem e_X11_within : ∀ q ∈ i_X11_within, decode prog_1_method_78_code q.1 = .ok q.2 ∧ (p_ln q.2.1 = 0 ∨ q.2.2 = p_ln q.2.1) := by
  have h := (show ∀ q ∈ i_X11_within.drop 0, _ from p_cut 60 (p_dk_ok e_X11_within_0) (by rw [List.drop_drop, List.drop_eq_nil_of_le (by decide +kernel)]; exact fun _ h => by cases h))
  rwa [List.drop_zero] at h
theorem e_X11_bit_0 : ((i_X11_bit.drop 0).take 60).all (p_dk prog_1_method_79_code) = true := by decide +kernel
theorem e_X11_bit : ∀ q ∈ i_X11_bit, decode prog_1_method_79_code q.1 = .ok q.2 ∧ (p_ln q.2.1 = 0 ∨ q.2.2 = p_ln q.2.1) := by
  have h := (show ∀ q ∈ i_X11_bit.drop 0, _ from p_cut 60 (p_dk_ok e_X11_bit_0) (by rw [List.drop_drop, List.drop_eq_nil_of_le (by decide +kernel)]; exact fun _ h => by cases h))
  rwa [List.drop_zero] at h
theorem e_X11_divisor_0 : ((i_X11_divisor.drop 0).take 60).all (p_dk prog_1_method_80_code) = true := by decide +kernel
theorem e_X11_divisor : ∀ q ∈ i_X11_divisor, decode prog_1_method_80_code q.1 = .ok q.2 ∧ (p_ln q.2.1 = 0 ∨ q.2.2 = p_ln q.2.1) := by
  have h := (show ∀ q ∈ i_X11_divisor.drop 0, _ from p_cut 60 (p_dk_ok e_X11_divisor_0) (by rw [List.drop_drop, List.drop_eq_nil_of_le (by decide +kernel)]; exact fun _ h => by cases h))
  rwa [List.drop_zero] at h
theorem e_X12_init_0 : ((i_X12_init.drop 0).take 60).all (p_dk prog_14_method_1_code) = true := by decide +kernel
theorem e_X12_init_1 : ((i_X12_init.drop 60).take 60).all (p_dk prog_14_method_1_code) = true := by decide +kernel
theorem e_X12_init : ∀ q ∈ i_X12_init, decode prog_14_method_1_code q.1 = .ok q.2 ∧ (p_ln q.2.1 = 0 ∨ q.2.2 = p_ln q.2.1) := by
  have h := (show ∀ q ∈ i_X12_init.drop 0, _ from p_cut 60 (p_dk_ok e_X12_init_0) (by rw [List.drop_drop]; exact p_cut 60 (p_dk_ok e_X12_init_1) (by rw [List.drop_drop, List.drop_eq_nil_of_le (by decide +kernel)]; exact fun _ h => by cases h)))
  rwa [List.drop_zero] at h
theorem e_X12_copy_0 : ((i_X12_copy.drop 0).take 60).all (p_dk prog_14_method_2_code) = true := by decide +kernel
theorem e_X12_copy : ∀ q ∈ i_X12_copy, decode prog_14_method_2_code q.1 = .ok q.2 ∧ (p_ln q.2.1 = 0 ∨ q.2.2 = p_ln q.2.1) := by
  have h := (show ∀ q ∈ i_X12_copy.drop 0, _ from p_cut 60 (p_dk_ok e_X12_copy_0) (by rw [List.drop_drop, List.drop_eq_nil_of_le (by decide +kernel)]; exact fun _ h => by cases h))
  rwa [List.drop_zero] at h
theorem e_X12_isIn_0 : ((i_X12_isIn.drop 0).take 60).all (p_dk prog_14_method_3_code) = true := by decide +kernel
theorem e_X12_isIn : ∀ q ∈ i_X12_isIn, decode prog_14_method_3_code q.1 = .ok q.2 ∧ (p_ln q.2.1 = 0 ∨ q.2.2 = p_ln q.2.1) := by
  have h := (show ∀ q ∈ i_X12_isIn.drop 0, _ from p_cut 60 (p_dk_ok e_X12_isIn_0) (by rw [List.drop_drop, List.drop_eq_nil_of_le (by decide +kernel)]; exact fun _ h => by cases h))
  rwa [List.drop_zero] at h
theorem e_X12_cut_0 : ((i_X12_cut.drop 0).take 60).all (p_dk prog_14_method_4_code) = true := by decide +kernel
theorem e_X12_cut : ∀ q ∈ i_X12_cut, decode prog_14_method_4_code q.1 = .ok q.2 ∧ (p_ln q.2.1 = 0 ∨ q.2.2 = p_ln q.2.1) := by
  have h := (show ∀ q ∈ i_X12_cut.drop 0, _ from p_cut 60 (p_dk_ok e_X12_cut_0) (by rw [List.drop_drop, List.drop_eq_nil_of_le (by decide +kernel)]; exact fun _ h => by cases h))
  rwa [List.drop_zero] at h
theorem e_X12_has_0 : ((i_X12_has.drop 0).take 60).all (p_dk prog_14_method_5_code) = true := by decide +kernel
theorem e_X12_has : ∀ q ∈ i_X12_has, decode prog_14_method_5_code q.1 = .ok q.2 ∧ (p_ln q.2.1 = 0 ∨ q.2.2 = p_ln q.2.1) := by
  have h := (show ∀ q ∈ i_X12_has.drop 0, _ from p_cut 60 (p_dk_ok e_X12_has_0) (by rw [List.drop_drop, List.drop_eq_nil_of_le (by decide +kernel)]; exact fun _ h => by cases h))
  rwa [List.drop_zero] at h
theorem e_X12_bits_0 : ((i_X12_bits.drop 0).take 60).all (p_dk prog_14_method_6_code) = true := by decide +kernel
theorem e_X12_bits : ∀ q ∈ i_X12_bits, decode prog_14_method_6_code q.1 = .ok q.2 ∧ (p_ln q.2.1 = 0 ∨ q.2.2 = p_ln q.2.1) := by
  have h := (show ∀ q ∈ i_X12_bits.drop 0, _ from p_cut 60 (p_dk_ok e_X12_bits_0) (by rw [List.drop_drop, List.drop_eq_nil_of_le (by decide +kernel)]; exact fun _ h => by cases h))
  rwa [List.drop_zero] at h
theorem e_X12_across_0 : ((i_X12_across.drop 0).take 60).all (p_dk prog_14_method_7_code) = true := by decide +kernel
theorem e_X12_across : ∀ q ∈ i_X12_across, decode prog_14_method_7_code q.1 = .ok q.2 ∧ (p_ln q.2.1 = 0 ∨ q.2.2 = p_ln q.2.1) := by
  have h := (show ∀ q ∈ i_X12_across.drop 0, _ from p_cut 60 (p_dk_ok e_X12_across_0) (by rw [List.drop_drop, List.drop_eq_nil_of_le (by decide +kernel)]; exact fun _ h => by cases h))
  rwa [List.drop_zero] at h
theorem e_X12_blocks_0 : ((i_X12_blocks.drop 0).take 60).all (p_dk prog_14_method_8_code) = true := by decide +kernel
theorem e_X12_blocks : ∀ q ∈ i_X12_blocks, decode prog_14_method_8_code q.1 = .ok q.2 ∧ (p_ln q.2.1 = 0 ∨ q.2.2 = p_ln q.2.1) := by
  have h := (show ∀ q ∈ i_X12_blocks.drop 0, _ from p_cut 60 (p_dk_ok e_X12_blocks_0) (by rw [List.drop_drop, List.drop_eq_nil_of_le (by decide +kernel)]; exact fun _ h => by cases h))
  rwa [List.drop_zero] at h
theorem e_X12_isBlock_0 : ((i_X12_isBlock.drop 0).take 60).all (p_dk prog_14_method_9_code) = true := by decide +kernel
theorem e_X12_isBlock : ∀ q ∈ i_X12_isBlock, decode prog_14_method_9_code q.1 = .ok q.2 ∧ (p_ln q.2.1 = 0 ∨ q.2.2 = p_ln q.2.1) := by
  have h := (show ∀ q ∈ i_X12_isBlock.drop 0, _ from p_cut 60 (p_dk_ok e_X12_isBlock_0) (by rw [List.drop_drop, List.drop_eq_nil_of_le (by decide +kernel)]; exact fun _ h => by cases h))
  rwa [List.drop_zero] at h
theorem e_X12_partOf_0 : ((i_X12_partOf.drop 0).take 60).all (p_dk prog_14_method_10_code) = true := by decide +kernel
theorem e_X12_partOf : ∀ q ∈ i_X12_partOf, decode prog_14_method_10_code q.1 = .ok q.2 ∧ (p_ln q.2.1 = 0 ∨ q.2.2 = p_ln q.2.1) := by
  have h := (show ∀ q ∈ i_X12_partOf.drop 0, _ from p_cut 60 (p_dk_ok e_X12_partOf_0) (by rw [List.drop_drop, List.drop_eq_nil_of_le (by decide +kernel)]; exact fun _ h => by cases h))
  rwa [List.drop_zero] at h
theorem e_X12_beginOf_0 : ((i_X12_beginOf.drop 0).take 60).all (p_dk prog_14_method_11_code) = true := by decide +kernel
theorem e_X12_beginOf : ∀ q ∈ i_X12_beginOf, decode prog_14_method_11_code q.1 = .ok q.2 ∧ (p_ln q.2.1 = 0 ∨ q.2.2 = p_ln q.2.1) := by
  have h := (show ∀ q ∈ i_X12_beginOf.drop 0, _ from p_cut 60 (p_dk_ok e_X12_beginOf_0) (by rw [List.drop_drop, List.drop_eq_nil_of_le (by decide +kernel)]; exact fun _ h => by cases h))
  rwa [List.drop_zero] at h
theorem e_X12_lengthOf_0 : ((i_X12_lengthOf.drop 0).take 60).all (p_dk prog_14_method_12_code) = true := by decide +kernel
theorem e_X12_lengthOf : ∀ q ∈ i_X12_lengthOf, decode prog_14_method_12_code q.1 = .ok q.2 ∧ (p_ln q.2.1 = 0 ∨ q.2.2 = p_ln q.2.1) := by
  have h := (show ∀ q ∈ i_X12_lengthOf.drop 0, _ from p_cut 60 (p_dk_ok e_X12_lengthOf_0) (by rw [List.drop_drop, List.drop_eq_nil_of_le (by decide +kernel)]; exact fun _ h => by cases h))
  rwa [List.drop_zero] at h
theorem e_X12_leftOf_0 : ((i_X12_leftOf.drop 0).take 60).all (p_dk prog_14_method_13_code) = true := by decide +kernel
theorem e_X12_leftOf : ∀ q ∈ i_X12_leftOf, decode prog_14_method_13_code q.1 = .ok q.2 ∧ (p_ln q.2.1 = 0 ∨ q.2.2 = p_ln q.2.1) := by
  have h := (show ∀ q ∈ i_X12_leftOf.drop 0, _ from p_cut 60 (p_dk_ok e_X12_leftOf_0) (by rw [List.drop_drop, List.drop_eq_nil_of_le (by decide +kernel)]; exact fun _ h => by cases h))
  rwa [List.drop_zero] at h
theorem e_X12_upperOf_0 : ((i_X12_upperOf.drop 0).take 60).all (p_dk prog_14_method_14_code) = true := by decide +kernel
theorem e_X12_upperOf : ∀ q ∈ i_X12_upperOf, decode prog_14_method_14_code q.1 = .ok q.2 ∧ (p_ln q.2.1 = 0 ∨ q.2.2 = p_ln q.2.1) := by
  have h := (show ∀ q ∈ i_X12_upperOf.drop 0, _ from p_cut 60 (p_dk_ok e_X12_upperOf_0) (by rw [List.drop_drop, List.drop_eq_nil_of_le (by decide +kernel)]; exact fun _ h => by cases h))
  rwa [List.drop_zero] at h
theorem e_X12_wideOf_0 : ((i_X12_wideOf.drop 0).take 60).all (p_dk prog_14_method_15_code) = true := by decide +kernel
theorem e_X12_wideOf : ∀ q ∈ i_X12_wideOf, decode prog_14_method_15_code q.1 = .ok q.2 ∧ (p_ln q.2.1 = 0 ∨ q.2.2 = p_ln q.2.1) := by
  have h := (show ∀ q ∈ i_X12_wideOf.drop 0, _ from p_cut 60 (p_dk_ok e_X12_wideOf_0) (by rw [List.drop_drop, List.drop_eq_nil_of_le (by decide +kernel)]; exact fun _ h => by cases h))
  rwa [List.drop_zero] at h
theorem e_X12_highOf_0 : ((i_X12_highOf.drop 0).take 60).all (p_dk prog_14_method_16_code) = true := by decide +kernel
theorem e_X12_highOf : ∀ q ∈ i_X12_highOf, decode prog_14_method_16_code q.1 = .ok q.2 ∧ (p_ln q.2.1 = 0 ∨ q.2.2 = p_ln q.2.1) := by
  have h := (show ∀ q ∈ i_X12_highOf.drop 0, _ from p_cut 60 (p_dk_ok e_X12_highOf_0) (by rw [List.drop_drop, List.drop_eq_nil_of_le (by decide +kernel)]; exact fun _ h => by cases h))
  rwa [List.drop_zero] at h
theorem e_X12_edgeOf_0 : ((i_X12_edgeOf.drop 0).take 60).all (p_dk prog_14_method_17_code) = true := by decide +kernel
theorem e_X12_edgeOf : ∀ q ∈ i_X12_edgeOf, decode prog_14_method_17_code q.1 = .ok q.2 ∧ (p_ln q.2.1 = 0 ∨ q.2.2 = p_ln q.2.1) := by
  have h := (show ∀ q ∈ i_X12_edgeOf.drop 0, _ from p_cut 60 (p_dk_ok e_X12_edgeOf_0) (by rw [List.drop_drop, List.drop_eq_nil_of_le (by decide +kernel)]; exact fun _ h => by cases h))
  rwa [List.drop_zero] at h
theorem e_X12_get_0 : ((i_X12_get.drop 0).take 60).all (p_dk prog_14_method_18_code) = true := by decide +kernel
theorem e_X12_get : ∀ q ∈ i_X12_get, decode prog_14_method_18_code q.1 = .ok q.2 ∧ (p_ln q.2.1 = 0 ∨ q.2.2 = p_ln q.2.1) := by
  have h := (show ∀ q ∈ i_X12_get.drop 0, _ from p_cut 60 (p_dk_ok e_X12_get_0) (by rw [List.drop_drop, List.drop_eq_nil_of_le (by decide +kernel)]; exact fun _ h => by cases h))
  rwa [List.drop_zero] at h
theorem e_X12_set_0 : ((i_X12_set.drop 0).take 60).all (p_dk prog_14_method_19_code) = true := by decide +kernel
theorem e_X12_set : ∀ q ∈ i_X12_set, decode prog_14_method_19_code q.1 = .ok q.2 ∧ (p_ln q.2.1 = 0 ∨ q.2.2 = p_ln q.2.1) := by
  have h := (show ∀ q ∈ i_X12_set.drop 0, _ from p_cut 60 (p_dk_ok e_X12_set_0) (by rw [List.drop_drop, List.drop_eq_nil_of_le (by decide +kernel)]; exact fun _ h => by cases h))
  rwa [List.drop_zero] at h
theorem e_X12_isSold_0 : ((i_X12_isSold.drop 0).take 60).all (p_dk prog_14_method_20_code) = true := by decide +kernel
theorem e_X12_isSold : ∀ q ∈ i_X12_isSold, decode prog_14_method_20_code q.1 = .ok q.2 ∧ (p_ln q.2.1 = 0 ∨ q.2.2 = p_ln q.2.1) := by
  have h := (show ∀ q ∈ i_X12_isSold.drop 0, _ from p_cut 60 (p_dk_ok e_X12_isSold_0) (by rw [List.drop_drop, List.drop_eq_nil_of_le (by decide +kernel)]; exact fun _ h => by cases h))
  rwa [List.drop_zero] at h
theorem e_X12_isWater_0 : ((i_X12_isWater.drop 0).take 60).all (p_dk prog_14_method_21_code) = true := by decide +kernel
theorem e_X12_isWater : ∀ q ∈ i_X12_isWater, decode prog_14_method_21_code q.1 = .ok q.2 ∧ (p_ln q.2.1 = 0 ∨ q.2.2 = p_ln q.2.1) := by
  have h := (show ∀ q ∈ i_X12_isWater.drop 0, _ from p_cut 60 (p_dk_ok e_X12_isWater_0) (by rw [List.drop_drop, List.drop_eq_nil_of_le (by decide +kernel)]; exact fun _ h => by cases h))
  rwa [List.drop_zero] at h
theorem e_X12_pond_0 : ((i_X12_pond.drop 0).take 60).all (p_dk prog_14_method_22_code) = true := by decide +kernel
theorem e_X12_pond : ∀ q ∈ i_X12_pond, decode prog_14_method_22_code q.1 = .ok q.2 ∧ (p_ln q.2.1 = 0 ∨ q.2.2 = p_ln q.2.1) := by
  have h := (show ∀ q ∈ i_X12_pond.drop 0, _ from p_cut 60 (p_dk_ok e_X12_pond_0) (by rw [List.drop_drop, List.drop_eq_nil_of_le (by decide +kernel)]; exact fun _ h => by cases h))
  rwa [List.drop_zero] at h
theorem e_X12_sight_0 : ((i_X12_sight.drop 0).take 60).all (p_dk prog_14_method_23_code) = true := by decide +kernel
theorem e_X12_sight_1 : ((i_X12_sight.drop 60).take 60).all (p_dk prog_14_method_23_code) = true := by decide +kernel
theorem e_X12_sight : ∀ q ∈ i_X12_sight, decode prog_14_method_23_code q.1 = .ok q.2 ∧ (p_ln q.2.1 = 0 ∨ q.2.2 = p_ln q.2.1) := by
  have h := (show ∀ q ∈ i_X12_sight.drop 0, _ from p_cut 60 (p_dk_ok e_X12_sight_0) (by rw [List.drop_drop]; exact p_cut 60 (p_dk_ok e_X12_sight_1) (by rw [List.drop_drop, List.drop_eq_nil_of_le (by decide +kernel)]; exact fun _ h => by cases h)))
  rwa [List.drop_zero] at h
theorem e_X12_isSight_0 : ((i_X12_isSight.drop 0).take 60).all (p_dk prog_14_method_24_code) = true := by decide +kernel
theorem e_X12_isSight : ∀ q ∈ i_X12_isSight, decode prog_14_method_24_code q.1 = .ok q.2 ∧ (p_ln q.2.1 = 0 ∨ q.2.2 = p_ln q.2.1) := by
  have h := (show ∀ q ∈ i_X12_isSight.drop 0, _ from p_cut 60 (p_dk_ok e_X12_isSight_0) (by rw [List.drop_drop, List.drop_eq_nil_of_le (by decide +kernel)]; exact fun _ h => by cases h))
  rwa [List.drop_zero] at h
theorem e_X12_sightOf_0 : ((i_X12_sightOf.drop 0).take 60).all (p_dk prog_14_method_25_code) = true := by decide +kernel
theorem e_X12_sightOf : ∀ q ∈ i_X12_sightOf, decode prog_14_method_25_code q.1 = .ok q.2 ∧ (p_ln q.2.1 = 0 ∨ q.2.2 = p_ln q.2.1) := by
  have h := (show ∀ q ∈ i_X12_sightOf.drop 0, _ from p_cut 60 (p_dk_ok e_X12_sightOf_0) (by rw [List.drop_drop, List.drop_eq_nil_of_le (by decide +kernel)]; exact fun _ h => by cases h))
  rwa [List.drop_zero] at h
theorem e_X12_common_0 : ((i_X12_common.drop 0).take 60).all (p_dk prog_14_method_26_code) = true := by decide +kernel
theorem e_X12_common : ∀ q ∈ i_X12_common, decode prog_14_method_26_code q.1 = .ok q.2 ∧ (p_ln q.2.1 = 0 ∨ q.2.2 = p_ln q.2.1) := by
  have h := (show ∀ q ∈ i_X12_common.drop 0, _ from p_cut 60 (p_dk_ok e_X12_common_0) (by rw [List.drop_drop, List.drop_eq_nil_of_le (by decide +kernel)]; exact fun _ h => by cases h))
  rwa [List.drop_zero] at h
theorem e_X12_cellsIn_0 : ((i_X12_cellsIn.drop 0).take 60).all (p_dk prog_14_method_27_code) = true := by decide +kernel
theorem e_X12_cellsIn : ∀ q ∈ i_X12_cellsIn, decode prog_14_method_27_code q.1 = .ok q.2 ∧ (p_ln q.2.1 = 0 ∨ q.2.2 = p_ln q.2.1) := by
  have h := (show ∀ q ∈ i_X12_cellsIn.drop 0, _ from p_cut 60 (p_dk_ok e_X12_cellsIn_0) (by rw [List.drop_drop, List.drop_eq_nil_of_le (by decide +kernel)]; exact fun _ h => by cases h))
  rwa [List.drop_zero] at h
theorem e_X12_areaOf_0 : ((i_X12_areaOf.drop 0).take 60).all (p_dk prog_14_method_28_code) = true := by decide +kernel
theorem e_X12_areaOf : ∀ q ∈ i_X12_areaOf, decode prog_14_method_28_code q.1 = .ok q.2 ∧ (p_ln q.2.1 = 0 ∨ q.2.2 = p_ln q.2.1) := by
  have h := (show ∀ q ∈ i_X12_areaOf.drop 0, _ from p_cut 60 (p_dk_ok e_X12_areaOf_0) (by rw [List.drop_drop, List.drop_eq_nil_of_le (by decide +kernel)]; exact fun _ h => by cases h))
  rwa [List.drop_zero] at h
theorem e_X12_sightsIn_0 : ((i_X12_sightsIn.drop 0).take 60).all (p_dk prog_14_method_29_code) = true := by decide +kernel
theorem e_X12_sightsIn : ∀ q ∈ i_X12_sightsIn, decode prog_14_method_29_code q.1 = .ok q.2 ∧ (p_ln q.2.1 = 0 ∨ q.2.2 = p_ln q.2.1) := by
  have h := (show ∀ q ∈ i_X12_sightsIn.drop 0, _ from p_cut 60 (p_dk_ok e_X12_sightsIn_0) (by rw [List.drop_drop, List.drop_eq_nil_of_le (by decide +kernel)]; exact fun _ h => by cases h))
  rwa [List.drop_zero] at h
theorem e_X12_kindsIn_0 : ((i_X12_kindsIn.drop 0).take 60).all (p_dk prog_14_method_30_code) = true := by decide +kernel
theorem e_X12_kindsIn : ∀ q ∈ i_X12_kindsIn, decode prog_14_method_30_code q.1 = .ok q.2 ∧ (p_ln q.2.1 = 0 ∨ q.2.2 = p_ln q.2.1) := by
  have h := (show ∀ q ∈ i_X12_kindsIn.drop 0, _ from p_cut 60 (p_dk_ok e_X12_kindsIn_0) (by rw [List.drop_drop, List.drop_eq_nil_of_le (by decide +kernel)]; exact fun _ h => by cases h))
  rwa [List.drop_zero] at h
theorem e_X12_four_0 : ((i_X12_four.drop 0).take 60).all (p_dk prog_14_method_31_code) = true := by decide +kernel
theorem e_X12_four : ∀ q ∈ i_X12_four, decode prog_14_method_31_code q.1 = .ok q.2 ∧ (p_ln q.2.1 = 0 ∨ q.2.2 = p_ln q.2.1) := by
  have h := (show ∀ q ∈ i_X12_four.drop 0, _ from p_cut 60 (p_dk_ok e_X12_four_0) (by rw [List.drop_drop, List.drop_eq_nil_of_le (by decide +kernel)]; exact fun _ h => by cases h))
  rwa [List.drop_zero] at h
theorem e_X12_feed_0 : ((i_X12_feed.drop 0).take 60).all (p_dk prog_14_method_32_code) = true := by decide +kernel
theorem e_X12_feed : ∀ q ∈ i_X12_feed, decode prog_14_method_32_code q.1 = .ok q.2 ∧ (p_ln q.2.1 = 0 ∨ q.2.2 = p_ln q.2.1) := by
  have h := (show ∀ q ∈ i_X12_feed.drop 0, _ from p_cut 60 (p_dk_ok e_X12_feed_0) (by rw [List.drop_drop, List.drop_eq_nil_of_le (by decide +kernel)]; exact fun _ h => by cases h))
  rwa [List.drop_zero] at h
theorem e_X12_end_0 : ((i_X12_end.drop 0).take 60).all (p_dk prog_14_method_33_code) = true := by decide +kernel
theorem e_X12_end : ∀ q ∈ i_X12_end, decode prog_14_method_33_code q.1 = .ok q.2 ∧ (p_ln q.2.1 = 0 ∨ q.2.2 = p_ln q.2.1) := by
  have h := (show ∀ q ∈ i_X12_end.drop 0, _ from p_cut 60 (p_dk_ok e_X12_end_0) (by rw [List.drop_drop, List.drop_eq_nil_of_le (by decide +kernel)]; exact fun _ h => by cases h))
  rwa [List.drop_zero] at h

theorem e_X12_byteAt_0 : ((i_X12_byteAt.drop 0).take 60).all (p_dk prog_14_method_34_code) = true := by decide +kernel
theorem e_X12_byteAt : ∀ q ∈ i_X12_byteAt, decode prog_14_method_34_code q.1 = .ok q.2 ∧ (p_ln q.2.1 = 0 ∨ q.2.2 = p_ln q.2.1) := by
  have h := (show ∀ q ∈ i_X12_byteAt.drop 0, _ from p_cut 60 (p_dk_ok e_X12_byteAt_0) (by rw [List.drop_drop, List.drop_eq_nil_of_le (by decide +kernel)]; exact fun _ h => by cases h))
  rwa [List.drop_zero] at h
theorem e_X12_isLetterByte_0 : ((i_X12_isLetterByte.drop 0).take 60).all (p_dk prog_14_method_35_code) = true := by decide +kernel
theorem e_X12_isLetterByte : ∀ q ∈ i_X12_isLetterByte, decode prog_14_method_35_code q.1 = .ok q.2 ∧ (p_ln q.2.1 = 0 ∨ q.2.2 = p_ln q.2.1) := by
  have h := (show ∀ q ∈ i_X12_isLetterByte.drop 0, _ from p_cut 60 (p_dk_ok e_X12_isLetterByte_0) (by rw [List.drop_drop, List.drop_eq_nil_of_le (by decide +kernel)]; exact fun _ h => by cases h))
  rwa [List.drop_zero] at h
theorem e_X12_isFigure_0 : ((i_X12_isFigure.drop 0).take 60).all (p_dk prog_14_method_36_code) = true := by decide +kernel
theorem e_X12_isFigure : ∀ q ∈ i_X12_isFigure, decode prog_14_method_36_code q.1 = .ok q.2 ∧ (p_ln q.2.1 = 0 ∨ q.2.2 = p_ln q.2.1) := by
  have h := (show ∀ q ∈ i_X12_isFigure.drop 0, _ from p_cut 60 (p_dk_ok e_X12_isFigure_0) (by rw [List.drop_drop, List.drop_eq_nil_of_le (by decide +kernel)]; exact fun _ h => by cases h))
  rwa [List.drop_zero] at h
theorem e_X12_isSign_0 : ((i_X12_isSign.drop 0).take 60).all (p_dk prog_14_method_37_code) = true := by decide +kernel
theorem e_X12_isSign : ∀ q ∈ i_X12_isSign, decode prog_14_method_37_code q.1 = .ok q.2 ∧ (p_ln q.2.1 = 0 ∨ q.2.2 = p_ln q.2.1) := by
  have h := (show ∀ q ∈ i_X12_isSign.drop 0, _ from p_cut 60 (p_dk_ok e_X12_isSign_0) (by rw [List.drop_drop, List.drop_eq_nil_of_le (by decide +kernel)]; exact fun _ h => by cases h))
  rwa [List.drop_zero] at h
theorem e_X12_nextToken_0 : ((i_X12_nextToken.drop 0).take 60).all (p_dk prog_14_method_38_code) = true := by decide +kernel
theorem e_X12_nextToken_1 : ((i_X12_nextToken.drop 60).take 60).all (p_dk prog_14_method_38_code) = true := by decide +kernel
theorem e_X12_nextToken_2 : ((i_X12_nextToken.drop 120).take 60).all (p_dk prog_14_method_38_code) = true := by decide +kernel
theorem e_X12_nextToken : ∀ q ∈ i_X12_nextToken, decode prog_14_method_38_code q.1 = .ok q.2 ∧ (p_ln q.2.1 = 0 ∨ q.2.2 = p_ln q.2.1) := by
  have h := (show ∀ q ∈ i_X12_nextToken.drop 0, _ from p_cut 60 (p_dk_ok e_X12_nextToken_0) (by rw [List.drop_drop]; exact p_cut 60 (p_dk_ok e_X12_nextToken_1) (by rw [List.drop_drop]; exact p_cut 60 (p_dk_ok e_X12_nextToken_2) (by rw [List.drop_drop, List.drop_eq_nil_of_le (by decide +kernel)]; exact fun _ h => by cases h))))
  rwa [List.drop_zero] at h
theorem e_X12_w2_0 : ((i_X12_w2.drop 0).take 60).all (p_dk prog_14_method_39_code) = true := by decide +kernel
theorem e_X12_w2 : ∀ q ∈ i_X12_w2, decode prog_14_method_39_code q.1 = .ok q.2 ∧ (p_ln q.2.1 = 0 ∨ q.2.2 = p_ln q.2.1) := by
  have h := (show ∀ q ∈ i_X12_w2.drop 0, _ from p_cut 60 (p_dk_ok e_X12_w2_0) (by rw [List.drop_drop, List.drop_eq_nil_of_le (by decide +kernel)]; exact fun _ h => by cases h))
  rwa [List.drop_zero] at h
theorem e_X12_w3_0 : ((i_X12_w3.drop 0).take 60).all (p_dk prog_14_method_40_code) = true := by decide +kernel
theorem e_X12_w3 : ∀ q ∈ i_X12_w3, decode prog_14_method_40_code q.1 = .ok q.2 ∧ (p_ln q.2.1 = 0 ∨ q.2.2 = p_ln q.2.1) := by
  have h := (show ∀ q ∈ i_X12_w3.drop 0, _ from p_cut 60 (p_dk_ok e_X12_w3_0) (by rw [List.drop_drop, List.drop_eq_nil_of_le (by decide +kernel)]; exact fun _ h => by cases h))
  rwa [List.drop_zero] at h
theorem e_X12_w4_0 : ((i_X12_w4.drop 0).take 60).all (p_dk prog_14_method_41_code) = true := by decide +kernel
theorem e_X12_w4 : ∀ q ∈ i_X12_w4, decode prog_14_method_41_code q.1 = .ok q.2 ∧ (p_ln q.2.1 = 0 ∨ q.2.2 = p_ln q.2.1) := by
  have h := (show ∀ q ∈ i_X12_w4.drop 0, _ from p_cut 60 (p_dk_ok e_X12_w4_0) (by rw [List.drop_drop, List.drop_eq_nil_of_le (by decide +kernel)]; exact fun _ h => by cases h))
  rwa [List.drop_zero] at h
theorem e_X12_w5_0 : ((i_X12_w5.drop 0).take 60).all (p_dk prog_14_method_42_code) = true := by decide +kernel
theorem e_X12_w5 : ∀ q ∈ i_X12_w5, decode prog_14_method_42_code q.1 = .ok q.2 ∧ (p_ln q.2.1 = 0 ∨ q.2.2 = p_ln q.2.1) := by
  have h := (show ∀ q ∈ i_X12_w5.drop 0, _ from p_cut 60 (p_dk_ok e_X12_w5_0) (by rw [List.drop_drop, List.drop_eq_nil_of_le (by decide +kernel)]; exact fun _ h => by cases h))
  rwa [List.drop_zero] at h
theorem e_X12_w6_0 : ((i_X12_w6.drop 0).take 60).all (p_dk prog_14_method_43_code) = true := by decide +kernel
theorem e_X12_w6 : ∀ q ∈ i_X12_w6, decode prog_14_method_43_code q.1 = .ok q.2 ∧ (p_ln q.2.1 = 0 ∨ q.2.2 = p_ln q.2.1) := by
  have h := (show ∀ q ∈ i_X12_w6.drop 0, _ from p_cut 60 (p_dk_ok e_X12_w6_0) (by rw [List.drop_drop, List.drop_eq_nil_of_le (by decide +kernel)]; exact fun _ h => by cases h))
  rwa [List.drop_zero] at h
theorem e_X12_isWord_0 : ((i_X12_isWord.drop 0).take 60).all (p_dk prog_14_method_44_code) = true := by decide +kernel
theorem e_X12_isWord : ∀ q ∈ i_X12_isWord, decode prog_14_method_44_code q.1 = .ok q.2 ∧ (p_ln q.2.1 = 0 ∨ q.2.2 = p_ln q.2.1) := by
  have h := (show ∀ q ∈ i_X12_isWord.drop 0, _ from p_cut 60 (p_dk_ok e_X12_isWord_0) (by rw [List.drop_drop, List.drop_eq_nil_of_le (by decide +kernel)]; exact fun _ h => by cases h))
  rwa [List.drop_zero] at h
theorem e_X12_emit_0 : ((i_X12_emit.drop 0).take 60).all (p_dk prog_14_method_45_code) = true := by decide +kernel
theorem e_X12_emit : ∀ q ∈ i_X12_emit, decode prog_14_method_45_code q.1 = .ok q.2 ∧ (p_ln q.2.1 = 0 ∨ q.2.2 = p_ln q.2.1) := by
  have h := (show ∀ q ∈ i_X12_emit.drop 0, _ from p_cut 60 (p_dk_ok e_X12_emit_0) (by rw [List.drop_drop, List.drop_eq_nil_of_le (by decide +kernel)]; exact fun _ h => by cases h))
  rwa [List.drop_zero] at h
theorem e_X12_nameOf_0 : ((i_X12_nameOf.drop 0).take 60).all (p_dk prog_14_method_46_code) = true := by decide +kernel
theorem e_X12_nameOf_1 : ((i_X12_nameOf.drop 60).take 60).all (p_dk prog_14_method_46_code) = true := by decide +kernel
theorem e_X12_nameOf : ∀ q ∈ i_X12_nameOf, decode prog_14_method_46_code q.1 = .ok q.2 ∧ (p_ln q.2.1 = 0 ∨ q.2.2 = p_ln q.2.1) := by
  have h := (show ∀ q ∈ i_X12_nameOf.drop 0, _ from p_cut 60 (p_dk_ok e_X12_nameOf_0) (by rw [List.drop_drop]; exact p_cut 60 (p_dk_ok e_X12_nameOf_1) (by rw [List.drop_drop, List.drop_eq_nil_of_le (by decide +kernel)]; exact fun _ h => by cases h)))
  rwa [List.drop_zero] at h
theorem e_X12_isOf_0 : ((i_X12_isOf.drop 0).take 60).all (p_dk prog_14_method_47_code) = true := by decide +kernel
theorem e_X12_isOf : ∀ q ∈ i_X12_isOf, decode prog_14_method_47_code q.1 = .ok q.2 ∧ (p_ln q.2.1 = 0 ∨ q.2.2 = p_ln q.2.1) := by
  have h := (show ∀ q ∈ i_X12_isOf.drop 0, _ from p_cut 60 (p_dk_ok e_X12_isOf_0) (by rw [List.drop_drop, List.drop_eq_nil_of_le (by decide +kernel)]; exact fun _ h => by cases h))
  rwa [List.drop_zero] at h
theorem e_X12_rank_0 : ((i_X12_rank.drop 0).take 60).all (p_dk prog_14_method_48_code) = true := by decide +kernel
theorem e_X12_rank : ∀ q ∈ i_X12_rank, decode prog_14_method_48_code q.1 = .ok q.2 ∧ (p_ln q.2.1 = 0 ∨ q.2.2 = p_ln q.2.1) := by
  have h := (show ∀ q ∈ i_X12_rank.drop 0, _ from p_cut 60 (p_dk_ok e_X12_rank_0) (by rw [List.drop_drop, List.drop_eq_nil_of_le (by decide +kernel)]; exact fun _ h => by cases h))
  rwa [List.drop_zero] at h
theorem e_X12_settle_0 : ((i_X12_settle.drop 0).take 60).all (p_dk prog_14_method_49_code) = true := by decide +kernel
theorem e_X12_settle : ∀ q ∈ i_X12_settle, decode prog_14_method_49_code q.1 = .ok q.2 ∧ (p_ln q.2.1 = 0 ∨ q.2.2 = p_ln q.2.1) := by
  have h := (show ∀ q ∈ i_X12_settle.drop 0, _ from p_cut 60 (p_dk_ok e_X12_settle_0) (by rw [List.drop_drop, List.drop_eq_nil_of_le (by decide +kernel)]; exact fun _ h => by cases h))
  rwa [List.drop_zero] at h
theorem e_X12_isNth_0 : ((i_X12_isNth.drop 0).take 60).all (p_dk prog_14_method_50_code) = true := by decide +kernel
theorem e_X12_isNth : ∀ q ∈ i_X12_isNth, decode prog_14_method_50_code q.1 = .ok q.2 ∧ (p_ln q.2.1 = 0 ∨ q.2.2 = p_ln q.2.1) := by
  have h := (show ∀ q ∈ i_X12_isNth.drop 0, _ from p_cut 60 (p_dk_ok e_X12_isNth_0) (by rw [List.drop_drop, List.drop_eq_nil_of_le (by decide +kernel)]; exact fun _ h => by cases h))
  rwa [List.drop_zero] at h
theorem e_X12_faultOfOne_0 : ((i_X12_faultOfOne.drop 0).take 60).all (p_dk prog_14_method_51_code) = true := by decide +kernel
theorem e_X12_faultOfOne : ∀ q ∈ i_X12_faultOfOne, decode prog_14_method_51_code q.1 = .ok q.2 ∧ (p_ln q.2.1 = 0 ∨ q.2.2 = p_ln q.2.1) := by
  have h := (show ∀ q ∈ i_X12_faultOfOne.drop 0, _ from p_cut 60 (p_dk_ok e_X12_faultOfOne_0) (by rw [List.drop_drop, List.drop_eq_nil_of_le (by decide +kernel)]; exact fun _ h => by cases h))
  rwa [List.drop_zero] at h
theorem e_X12_beginOne_0 : ((i_X12_beginOne.drop 0).take 60).all (p_dk prog_14_method_52_code) = true := by decide +kernel
theorem e_X12_beginOne_1 : ((i_X12_beginOne.drop 60).take 60).all (p_dk prog_14_method_52_code) = true := by decide +kernel
theorem e_X12_beginOne : ∀ q ∈ i_X12_beginOne, decode prog_14_method_52_code q.1 = .ok q.2 ∧ (p_ln q.2.1 = 0 ∨ q.2.2 = p_ln q.2.1) := by
  have h := (show ∀ q ∈ i_X12_beginOne.drop 0, _ from p_cut 60 (p_dk_ok e_X12_beginOne_0) (by rw [List.drop_drop]; exact p_cut 60 (p_dk_ok e_X12_beginOne_1) (by rw [List.drop_drop, List.drop_eq_nil_of_le (by decide +kernel)]; exact fun _ h => by cases h)))
  rwa [List.drop_zero] at h
theorem e_X12_openNow_0 : ((i_X12_openNow.drop 0).take 60).all (p_dk prog_14_method_53_code) = true := by decide +kernel
theorem e_X12_openNow : ∀ q ∈ i_X12_openNow, decode prog_14_method_53_code q.1 = .ok q.2 ∧ (p_ln q.2.1 = 0 ∨ q.2.2 = p_ln q.2.1) := by
  have h := (show ∀ q ∈ i_X12_openNow.drop 0, _ from p_cut 60 (p_dk_ok e_X12_openNow_0) (by rw [List.drop_drop, List.drop_eq_nil_of_le (by decide +kernel)]; exact fun _ h => by cases h))
  rwa [List.drop_zero] at h
theorem e_X12_ofNth_0 : ((i_X12_ofNth.drop 0).take 60).all (p_dk prog_14_method_54_code) = true := by decide +kernel
theorem e_X12_ofNth : ∀ q ∈ i_X12_ofNth, decode prog_14_method_54_code q.1 = .ok q.2 ∧ (p_ln q.2.1 = 0 ∨ q.2.2 = p_ln q.2.1) := by
  have h := (show ∀ q ∈ i_X12_ofNth.drop 0, _ from p_cut 60 (p_dk_ok e_X12_ofNth_0) (by rw [List.drop_drop, List.drop_eq_nil_of_le (by decide +kernel)]; exact fun _ h => by cases h))
  rwa [List.drop_zero] at h
theorem e_X12_nextOfNth_0 : ((i_X12_nextOfNth.drop 0).take 60).all (p_dk prog_14_method_55_code) = true := by decide +kernel
theorem e_X12_nextOfNth : ∀ q ∈ i_X12_nextOfNth, decode prog_14_method_55_code q.1 = .ok q.2 ∧ (p_ln q.2.1 = 0 ∨ q.2.2 = p_ln q.2.1) := by
  have h := (show ∀ q ∈ i_X12_nextOfNth.drop 0, _ from p_cut 60 (p_dk_ok e_X12_nextOfNth_0) (by rw [List.drop_drop, List.drop_eq_nil_of_le (by decide +kernel)]; exact fun _ h => by cases h))
  rwa [List.drop_zero] at h
theorem e_X12_behindOne_0 : ((i_X12_behindOne.drop 0).take 60).all (p_dk prog_14_method_56_code) = true := by decide +kernel
theorem e_X12_behindOne_1 : ((i_X12_behindOne.drop 60).take 60).all (p_dk prog_14_method_56_code) = true := by decide +kernel
theorem e_X12_behindOne_2 : ((i_X12_behindOne.drop 120).take 60).all (p_dk prog_14_method_56_code) = true := by decide +kernel
theorem e_X12_behindOne : ∀ q ∈ i_X12_behindOne, decode prog_14_method_56_code q.1 = .ok q.2 ∧ (p_ln q.2.1 = 0 ∨ q.2.2 = p_ln q.2.1) := by
  have h := (show ∀ q ∈ i_X12_behindOne.drop 0, _ from p_cut 60 (p_dk_ok e_X12_behindOne_0) (by rw [List.drop_drop]; exact p_cut 60 (p_dk_ok e_X12_behindOne_1) (by rw [List.drop_drop]; exact p_cut 60 (p_dk_ok e_X12_behindOne_2) (by rw [List.drop_drop, List.drop_eq_nil_of_le (by decide +kernel)]; exact fun _ h => by cases h))))
  rwa [List.drop_zero] at h
theorem e_X12_summed_0 : ((i_X12_summed.drop 0).take 60).all (p_dk prog_14_method_57_code) = true := by decide +kernel
theorem e_X12_summed : ∀ q ∈ i_X12_summed, decode prog_14_method_57_code q.1 = .ok q.2 ∧ (p_ln q.2.1 = 0 ∨ q.2.2 = p_ln q.2.1) := by
  have h := (show ∀ q ∈ i_X12_summed.drop 0, _ from p_cut 60 (p_dk_ok e_X12_summed_0) (by rw [List.drop_drop, List.drop_eq_nil_of_le (by decide +kernel)]; exact fun _ h => by cases h))
  rwa [List.drop_zero] at h
theorem e_X12_figure_0 : ((i_X12_figure.drop 0).take 60).all (p_dk prog_14_method_58_code) = true := by decide +kernel
theorem e_X12_figure : ∀ q ∈ i_X12_figure, decode prog_14_method_58_code q.1 = .ok q.2 ∧ (p_ln q.2.1 = 0 ∨ q.2.2 = p_ln q.2.1) := by
  have h := (show ∀ q ∈ i_X12_figure.drop 0, _ from p_cut 60 (p_dk_ok e_X12_figure_0) (by rw [List.drop_drop, List.drop_eq_nil_of_le (by decide +kernel)]; exact fun _ h => by cases h))
  rwa [List.drop_zero] at h
theorem e_X12_worded_0 : ((i_X12_worded.drop 0).take 60).all (p_dk prog_14_method_59_code) = true := by decide +kernel
theorem e_X12_worded : ∀ q ∈ i_X12_worded, decode prog_14_method_59_code q.1 = .ok q.2 ∧ (p_ln q.2.1 = 0 ∨ q.2.2 = p_ln q.2.1) := by
  have h := (show ∀ q ∈ i_X12_worded.drop 0, _ from p_cut 60 (p_dk_ok e_X12_worded_0) (by rw [List.drop_drop, List.drop_eq_nil_of_le (by decide +kernel)]; exact fun _ h => by cases h))
  rwa [List.drop_zero] at h
theorem e_X12_signed_0 : ((i_X12_signed.drop 0).take 60).all (p_dk prog_14_method_60_code) = true := by decide +kernel
theorem e_X12_signed : ∀ q ∈ i_X12_signed, decode prog_14_method_60_code q.1 = .ok q.2 ∧ (p_ln q.2.1 = 0 ∨ q.2.2 = p_ln q.2.1) := by
  have h := (show ∀ q ∈ i_X12_signed.drop 0, _ from p_cut 60 (p_dk_ok e_X12_signed_0) (by rw [List.drop_drop, List.drop_eq_nil_of_le (by decide +kernel)]; exact fun _ h => by cases h))
  rwa [List.drop_zero] at h
theorem e_X12_lawClause_0 : ((i_X12_lawClause.drop 0).take 60).all (p_dk prog_14_method_61_code) = true := by decide +kernel
theorem e_X12_lawClause : ∀ q ∈ i_X12_lawClause, decode prog_14_method_61_code q.1 = .ok q.2 ∧ (p_ln q.2.1 = 0 ∨ q.2.2 = p_ln q.2.1) := by
  have h := (show ∀ q ∈ i_X12_lawClause.drop 0, _ from p_cut 60 (p_dk_ok e_X12_lawClause_0) (by rw [List.drop_drop, List.drop_eq_nil_of_le (by decide +kernel)]; exact fun _ h => by cases h))
  rwa [List.drop_zero] at h
theorem e_X12_pondClause_0 : ((i_X12_pondClause.drop 0).take 60).all (p_dk prog_14_method_62_code) = true := by decide +kernel
theorem e_X12_pondClause : ∀ q ∈ i_X12_pondClause, decode prog_14_method_62_code q.1 = .ok q.2 ∧ (p_ln q.2.1 = 0 ∨ q.2.2 = p_ln q.2.1) := by
  have h := (show ∀ q ∈ i_X12_pondClause.drop 0, _ from p_cut 60 (p_dk_ok e_X12_pondClause_0) (by rw [List.drop_drop, List.drop_eq_nil_of_le (by decide +kernel)]; exact fun _ h => by cases h))
  rwa [List.drop_zero] at h
theorem e_X12_sightClause_0 : ((i_X12_sightClause.drop 0).take 60).all (p_dk prog_14_method_63_code) = true := by decide +kernel
theorem e_X12_sightClause_1 : ((i_X12_sightClause.drop 60).take 60).all (p_dk prog_14_method_63_code) = true := by decide +kernel
theorem e_X12_sightClause : ∀ q ∈ i_X12_sightClause, decode prog_14_method_63_code q.1 = .ok q.2 ∧ (p_ln q.2.1 = 0 ∨ q.2.2 = p_ln q.2.1) := by
  have h := (show ∀ q ∈ i_X12_sightClause.drop 0, _ from p_cut 60 (p_dk_ok e_X12_sightClause_0) (by rw [List.drop_drop]; exact p_cut 60 (p_dk_ok e_X12_sightClause_1) (by rw [List.drop_drop, List.drop_eq_nil_of_le (by decide +kernel)]; exact fun _ h => by cases h)))
  rwa [List.drop_zero] at h
theorem e_X12_strawClause_0 : ((i_X12_strawClause.drop 0).take 60).all (p_dk prog_14_method_64_code) = true := by decide +kernel
theorem e_X12_strawClause : ∀ q ∈ i_X12_strawClause, decode prog_14_method_64_code q.1 = .ok q.2 ∧ (p_ln q.2.1 = 0 ∨ q.2.2 = p_ln q.2.1) := by
  have h := (show ∀ q ∈ i_X12_strawClause.drop 0, _ from p_cut 60 (p_dk_ok e_X12_strawClause_0) (by rw [List.drop_drop, List.drop_eq_nil_of_le (by decide +kernel)]; exact fun _ h => by cases h))
  rwa [List.drop_zero] at h
theorem e_X12_body_0 : ((i_X12_body.drop 0).take 60).all (p_dk prog_14_method_65_code) = true := by decide +kernel
theorem e_X12_body : ∀ q ∈ i_X12_body, decode prog_14_method_65_code q.1 = .ok q.2 ∧ (p_ln q.2.1 = 0 ∨ q.2.2 = p_ln q.2.1) := by
  have h := (show ∀ q ∈ i_X12_body.drop 0, _ from p_cut 60 (p_dk_ok e_X12_body_0) (by rw [List.drop_drop, List.drop_eq_nil_of_le (by decide +kernel)]; exact fun _ h => by cases h))
  rwa [List.drop_zero] at h
theorem e_X12_sortOf_0 : ((i_X12_sortOf.drop 0).take 60).all (p_dk prog_14_method_66_code) = true := by decide +kernel
theorem e_X12_sortOf_1 : ((i_X12_sortOf.drop 60).take 60).all (p_dk prog_14_method_66_code) = true := by decide +kernel
theorem e_X12_sortOf : ∀ q ∈ i_X12_sortOf, decode prog_14_method_66_code q.1 = .ok q.2 ∧ (p_ln q.2.1 = 0 ∨ q.2.2 = p_ln q.2.1) := by
  have h := (show ∀ q ∈ i_X12_sortOf.drop 0, _ from p_cut 60 (p_dk_ok e_X12_sortOf_0) (by rw [List.drop_drop]; exact p_cut 60 (p_dk_ok e_X12_sortOf_1) (by rw [List.drop_drop, List.drop_eq_nil_of_le (by decide +kernel)]; exact fun _ h => by cases h)))
  rwa [List.drop_zero] at h
theorem e_X12_clause_0 : ((i_X12_clause.drop 0).take 60).all (p_dk prog_14_method_67_code) = true := by decide +kernel
theorem e_X12_clause_1 : ((i_X12_clause.drop 60).take 60).all (p_dk prog_14_method_67_code) = true := by decide +kernel
theorem e_X12_clause : ∀ q ∈ i_X12_clause, decode prog_14_method_67_code q.1 = .ok q.2 ∧ (p_ln q.2.1 = 0 ∨ q.2.2 = p_ln q.2.1) := by
  have h := (show ∀ q ∈ i_X12_clause.drop 0, _ from p_cut 60 (p_dk_ok e_X12_clause_0) (by rw [List.drop_drop]; exact p_cut 60 (p_dk_ok e_X12_clause_1) (by rw [List.drop_drop, List.drop_eq_nil_of_le (by decide +kernel)]; exact fun _ h => by cases h)))
  rwa [List.drop_zero] at h
theorem e_X12_readText_0 : ((i_X12_readText.drop 0).take 60).all (p_dk prog_14_method_68_code) = true := by decide +kernel
theorem e_X12_readText : ∀ q ∈ i_X12_readText, decode prog_14_method_68_code q.1 = .ok q.2 ∧ (p_ln q.2.1 = 0 ∨ q.2.2 = p_ln q.2.1) := by
  have h := (show ∀ q ∈ i_X12_readText.drop 0, _ from p_cut 60 (p_dk_ok e_X12_readText_0) (by rw [List.drop_drop, List.drop_eq_nil_of_le (by decide +kernel)]; exact fun _ h => by cases h))
  rwa [List.drop_zero] at h
theorem e_X12_text_0 : ((i_X12_text.drop 0).take 60).all (p_dk prog_14_method_69_code) = true := by decide +kernel
theorem e_X12_text : ∀ q ∈ i_X12_text, decode prog_14_method_69_code q.1 = .ok q.2 ∧ (p_ln q.2.1 = 0 ∨ q.2.2 = p_ln q.2.1) := by
  have h := (show ∀ q ∈ i_X12_text.drop 0, _ from p_cut 60 (p_dk_ok e_X12_text_0) (by rw [List.drop_drop, List.drop_eq_nil_of_le (by decide +kernel)]; exact fun _ h => by cases h))
  rwa [List.drop_zero] at h
theorem e_X12_fault_0 : ((i_X12_fault.drop 0).take 60).all (p_dk prog_14_method_70_code) = true := by decide +kernel
theorem e_X12_fault : ∀ q ∈ i_X12_fault, decode prog_14_method_70_code q.1 = .ok q.2 ∧ (p_ln q.2.1 = 0 ∨ q.2.2 = p_ln q.2.1) := by
  have h := (show ∀ q ∈ i_X12_fault.drop 0, _ from p_cut 60 (p_dk_ok e_X12_fault_0) (by rw [List.drop_drop, List.drop_eq_nil_of_le (by decide +kernel)]; exact fun _ h => by cases h))
  rwa [List.drop_zero] at h
theorem e_X12_by_0 : ((i_X12_by.drop 0).take 60).all (p_dk prog_14_method_71_code) = true := by decide +kernel
theorem e_X12_by : ∀ q ∈ i_X12_by, decode prog_14_method_71_code q.1 = .ok q.2 ∧ (p_ln q.2.1 = 0 ∨ q.2.2 = p_ln q.2.1) := by
  have h := (show ∀ q ∈ i_X12_by.drop 0, _ from p_cut 60 (p_dk_ok e_X12_by_0) (by rw [List.drop_drop, List.drop_eq_nil_of_le (by decide +kernel)]; exact fun _ h => by cases h))
  rwa [List.drop_zero] at h
theorem e_X12_held_0 : ((i_X12_held.drop 0).take 60).all (p_dk prog_14_method_72_code) = true := by decide +kernel
theorem e_X12_held : ∀ q ∈ i_X12_held, decode prog_14_method_72_code q.1 = .ok q.2 ∧ (p_ln q.2.1 = 0 ∨ q.2.2 = p_ln q.2.1) := by
  have h := (show ∀ q ∈ i_X12_held.drop 0, _ from p_cut 60 (p_dk_ok e_X12_held_0) (by rw [List.drop_drop, List.drop_eq_nil_of_le (by decide +kernel)]; exact fun _ h => by cases h))
  rwa [List.drop_zero] at h
theorem e_X12_two_0 : ((i_X12_two.drop 0).take 60).all (p_dk prog_14_method_73_code) = true := by decide +kernel
theorem e_X12_two : ∀ q ∈ i_X12_two, decode prog_14_method_73_code q.1 = .ok q.2 ∧ (p_ln q.2.1 = 0 ∨ q.2.2 = p_ln q.2.1) := by
  have h := (show ∀ q ∈ i_X12_two.drop 0, _ from p_cut 60 (p_dk_ok e_X12_two_0) (by rw [List.drop_drop, List.drop_eq_nil_of_le (by decide +kernel)]; exact fun _ h => by cases h))
  rwa [List.drop_zero] at h
theorem e_X12_worked_0 : ((i_X12_worked.drop 0).take 60).all (p_dk prog_14_method_74_code) = true := by decide +kernel
theorem e_X12_worked_1 : ((i_X12_worked.drop 60).take 60).all (p_dk prog_14_method_74_code) = true := by decide +kernel
theorem e_X12_worked_2 : ((i_X12_worked.drop 120).take 60).all (p_dk prog_14_method_74_code) = true := by decide +kernel
theorem e_X12_worked : ∀ q ∈ i_X12_worked, decode prog_14_method_74_code q.1 = .ok q.2 ∧ (p_ln q.2.1 = 0 ∨ q.2.2 = p_ln q.2.1) := by
  have h := (show ∀ q ∈ i_X12_worked.drop 0, _ from p_cut 60 (p_dk_ok e_X12_worked_0) (by rw [List.drop_drop]; exact p_cut 60 (p_dk_ok e_X12_worked_1) (by rw [List.drop_drop]; exact p_cut 60 (p_dk_ok e_X12_worked_2) (by rw [List.drop_drop, List.drop_eq_nil_of_le (by decide +kernel)]; exact fun _ h => by cases h))))
  rwa [List.drop_zero] at h
theorem e_X12_says_0 : ((i_X12_says.drop 0).take 60).all (p_dk prog_14_method_75_code) = true := by decide +kernel
theorem e_X12_says : ∀ q ∈ i_X12_says, decode prog_14_method_75_code q.1 = .ok q.2 ∧ (p_ln q.2.1 = 0 ∨ q.2.2 = p_ln q.2.1) := by
  have h := (show ∀ q ∈ i_X12_says.drop 0, _ from p_cut 60 (p_dk_ok e_X12_says_0) (by rw [List.drop_drop, List.drop_eq_nil_of_le (by decide +kernel)]; exact fun _ h => by cases h))
  rwa [List.drop_zero] at h
theorem e_X12_name_0 : ((i_X12_name.drop 0).take 60).all (p_dk prog_14_method_76_code) = true := by decide +kernel
theorem e_X12_name : ∀ q ∈ i_X12_name, decode prog_14_method_76_code q.1 = .ok q.2 ∧ (p_ln q.2.1 = 0 ∨ q.2.2 = p_ln q.2.1) := by
  have h := (show ∀ q ∈ i_X12_name.drop 0, _ from p_cut 60 (p_dk_ok e_X12_name_0) (by rw [List.drop_drop, List.drop_eq_nil_of_le (by decide +kernel)]; exact fun _ h => by cases h))
  rwa [List.drop_zero] at h
theorem e_X12_meltsBy_0 : ((i_X12_meltsBy.drop 0).take 60).all (p_dk prog_14_method_77_code) = true := by decide +kernel
theorem e_X12_meltsBy : ∀ q ∈ i_X12_meltsBy, decode prog_14_method_77_code q.1 = .ok q.2 ∧ (p_ln q.2.1 = 0 ∨ q.2.2 = p_ln q.2.1) := by
  have h := (show ∀ q ∈ i_X12_meltsBy.drop 0, _ from p_cut 60 (p_dk_ok e_X12_meltsBy_0) (by rw [List.drop_drop, List.drop_eq_nil_of_le (by decide +kernel)]; exact fun _ h => by cases h))
  rwa [List.drop_zero] at h
theorem e_X12_rotsBy_0 : ((i_X12_rotsBy.drop 0).take 60).all (p_dk prog_14_method_78_code) = true := by decide +kernel
theorem e_X12_rotsBy : ∀ q ∈ i_X12_rotsBy, decode prog_14_method_78_code q.1 = .ok q.2 ∧ (p_ln q.2.1 = 0 ∨ q.2.2 = p_ln q.2.1) := by
  have h := (show ∀ q ∈ i_X12_rotsBy.drop 0, _ from p_cut 60 (p_dk_ok e_X12_rotsBy_0) (by rw [List.drop_drop, List.drop_eq_nil_of_le (by decide +kernel)]; exact fun _ h => by cases h))
  rwa [List.drop_zero] at h
theorem e_X12_meltsOf_0 : ((i_X12_meltsOf.drop 0).take 60).all (p_dk prog_14_method_79_code) = true := by decide +kernel
theorem e_X12_meltsOf : ∀ q ∈ i_X12_meltsOf, decode prog_14_method_79_code q.1 = .ok q.2 ∧ (p_ln q.2.1 = 0 ∨ q.2.2 = p_ln q.2.1) := by
  have h := (show ∀ q ∈ i_X12_meltsOf.drop 0, _ from p_cut 60 (p_dk_ok e_X12_meltsOf_0) (by rw [List.drop_drop, List.drop_eq_nil_of_le (by decide +kernel)]; exact fun _ h => by cases h))
  rwa [List.drop_zero] at h
theorem e_X12_sellsOf_0 : ((i_X12_sellsOf.drop 0).take 60).all (p_dk prog_14_method_80_code) = true := by decide +kernel
theorem e_X12_sellsOf : ∀ q ∈ i_X12_sellsOf, decode prog_14_method_80_code q.1 = .ok q.2 ∧ (p_ln q.2.1 = 0 ∨ q.2.2 = p_ln q.2.1) := by
  have h := (show ∀ q ∈ i_X12_sellsOf.drop 0, _ from p_cut 60 (p_dk_ok e_X12_sellsOf_0) (by rw [List.drop_drop, List.drop_eq_nil_of_le (by decide +kernel)]; exact fun _ h => by cases h))
  rwa [List.drop_zero] at h
theorem e_X12_keep_0 : ((i_X12_keep.drop 0).take 60).all (p_dk prog_14_method_81_code) = true := by decide +kernel
theorem e_X12_keep_1 : ((i_X12_keep.drop 60).take 60).all (p_dk prog_14_method_81_code) = true := by decide +kernel
theorem e_X12_keep : ∀ q ∈ i_X12_keep, decode prog_14_method_81_code q.1 = .ok q.2 ∧ (p_ln q.2.1 = 0 ∨ q.2.2 = p_ln q.2.1) := by
  have h := (show ∀ q ∈ i_X12_keep.drop 0, _ from p_cut 60 (p_dk_ok e_X12_keep_0) (by rw [List.drop_drop]; exact p_cut 60 (p_dk_ok e_X12_keep_1) (by rw [List.drop_drop, List.drop_eq_nil_of_le (by decide +kernel)]; exact fun _ h => by cases h)))
  rwa [List.drop_zero] at h
theorem e_X12_undo_0 : ((i_X12_undo.drop 0).take 60).all (p_dk prog_14_method_82_code) = true := by decide +kernel
theorem e_X12_undo_1 : ((i_X12_undo.drop 60).take 60).all (p_dk prog_14_method_82_code) = true := by decide +kernel
theorem e_X12_undo : ∀ q ∈ i_X12_undo, decode prog_14_method_82_code q.1 = .ok q.2 ∧ (p_ln q.2.1 = 0 ∨ q.2.2 = p_ln q.2.1) := by
  have h := (show ∀ q ∈ i_X12_undo.drop 0, _ from p_cut 60 (p_dk_ok e_X12_undo_0) (by rw [List.drop_drop]; exact p_cut 60 (p_dk_ok e_X12_undo_1) (by rw [List.drop_drop, List.drop_eq_nil_of_le (by decide +kernel)]; exact fun _ h => by cases h)))
  rwa [List.drop_zero] at h
theorem e_X12_saw_0 : ((i_X12_saw.drop 0).take 60).all (p_dk prog_14_method_83_code) = true := by decide +kernel
theorem e_X12_saw : ∀ q ∈ i_X12_saw, decode prog_14_method_83_code q.1 = .ok q.2 ∧ (p_ln q.2.1 = 0 ∨ q.2.2 = p_ln q.2.1) := by
  have h := (show ∀ q ∈ i_X12_saw.drop 0, _ from p_cut 60 (p_dk_ok e_X12_saw_0) (by rw [List.drop_drop, List.drop_eq_nil_of_le (by decide +kernel)]; exact fun _ h => by cases h))
  rwa [List.drop_zero] at h
theorem e_X12_canLay_0 : ((i_X12_canLay.drop 0).take 60).all (p_dk prog_14_method_84_code) = true := by decide +kernel
theorem e_X12_canLay : ∀ q ∈ i_X12_canLay, decode prog_14_method_84_code q.1 = .ok q.2 ∧ (p_ln q.2.1 = 0 ∨ q.2.2 = p_ln q.2.1) := by
  have h := (show ∀ q ∈ i_X12_canLay.drop 0, _ from p_cut 60 (p_dk_ok e_X12_canLay_0) (by rw [List.drop_drop, List.drop_eq_nil_of_le (by decide +kernel)]; exact fun _ h => by cases h))
  rwa [List.drop_zero] at h
theorem e_X12_layNow_0 : ((i_X12_layNow.drop 0).take 60).all (p_dk prog_14_method_85_code) = true := by decide +kernel
theorem e_X12_layNow : ∀ q ∈ i_X12_layNow, decode prog_14_method_85_code q.1 = .ok q.2 ∧ (p_ln q.2.1 = 0 ∨ q.2.2 = p_ln q.2.1) := by
  have h := (show ∀ q ∈ i_X12_layNow.drop 0, _ from p_cut 60 (p_dk_ok e_X12_layNow_0) (by rw [List.drop_drop, List.drop_eq_nil_of_le (by decide +kernel)]; exact fun _ h => by cases h))
  rwa [List.drop_zero] at h
theorem e_X12_straw_0 : ((i_X12_straw.drop 0).take 60).all (p_dk prog_14_method_86_code) = true := by decide +kernel
theorem e_X12_straw : ∀ q ∈ i_X12_straw, decode prog_14_method_86_code q.1 = .ok q.2 ∧ (p_ln q.2.1 = 0 ∨ q.2.2 = p_ln q.2.1) := by
  have h := (show ∀ q ∈ i_X12_straw.drop 0, _ from p_cut 60 (p_dk_ok e_X12_straw_0) (by rw [List.drop_drop, List.drop_eq_nil_of_le (by decide +kernel)]; exact fun _ h => by cases h))
  rwa [List.drop_zero] at h
theorem e_X12_drawn_0 : ((i_X12_drawn.drop 0).take 60).all (p_dk prog_14_method_87_code) = true := by decide +kernel
theorem e_X12_drawn : ∀ q ∈ i_X12_drawn, decode prog_14_method_87_code q.1 = .ok q.2 ∧ (p_ln q.2.1 = 0 ∨ q.2.2 = p_ln q.2.1) := by
  have h := (show ∀ q ∈ i_X12_drawn.drop 0, _ from p_cut 60 (p_dk_ok e_X12_drawn_0) (by rw [List.drop_drop, List.drop_eq_nil_of_le (by decide +kernel)]; exact fun _ h => by cases h))
  rwa [List.drop_zero] at h
theorem e_X12_anew_0 : ((i_X12_anew.drop 0).take 60).all (p_dk prog_14_method_88_code) = true := by decide +kernel
theorem e_X12_anew : ∀ q ∈ i_X12_anew, decode prog_14_method_88_code q.1 = .ok q.2 ∧ (p_ln q.2.1 = 0 ∨ q.2.2 = p_ln q.2.1) := by
  have h := (show ∀ q ∈ i_X12_anew.drop 0, _ from p_cut 60 (p_dk_ok e_X12_anew_0) (by rw [List.drop_drop, List.drop_eq_nil_of_le (by decide +kernel)]; exact fun _ h => by cases h))
  rwa [List.drop_zero] at h
theorem e_X12_pass_0 : ((i_X12_pass.drop 0).take 60).all (p_dk prog_14_method_89_code) = true := by decide +kernel
theorem e_X12_pass_1 : ((i_X12_pass.drop 60).take 60).all (p_dk prog_14_method_89_code) = true := by decide +kernel
theorem e_X12_pass : ∀ q ∈ i_X12_pass, decode prog_14_method_89_code q.1 = .ok q.2 ∧ (p_ln q.2.1 = 0 ∨ q.2.2 = p_ln q.2.1) := by
  have h := (show ∀ q ∈ i_X12_pass.drop 0, _ from p_cut 60 (p_dk_ok e_X12_pass_0) (by rw [List.drop_drop]; exact p_cut 60 (p_dk_ok e_X12_pass_1) (by rw [List.drop_drop, List.drop_eq_nil_of_le (by decide +kernel)]; exact fun _ h => by cases h)))
  rwa [List.drop_zero] at h
theorem e_X12_arePassed_0 : ((i_X12_arePassed.drop 0).take 60).all (p_dk prog_14_method_90_code) = true := by decide +kernel
theorem e_X12_arePassed : ∀ q ∈ i_X12_arePassed, decode prog_14_method_90_code q.1 = .ok q.2 ∧ (p_ln q.2.1 = 0 ∨ q.2.2 = p_ln q.2.1) := by
  have h := (show ∀ q ∈ i_X12_arePassed.drop 0, _ from p_cut 60 (p_dk_ok e_X12_arePassed_0) (by rw [List.drop_drop, List.drop_eq_nil_of_le (by decide +kernel)]; exact fun _ h => by cases h))
  rwa [List.drop_zero] at h
theorem e_X12_day_0 : ((i_X12_day.drop 0).take 60).all (p_dk prog_14_method_91_code) = true := by decide +kernel
theorem e_X12_day : ∀ q ∈ i_X12_day, decode prog_14_method_91_code q.1 = .ok q.2 ∧ (p_ln q.2.1 = 0 ∨ q.2.2 = p_ln q.2.1) := by
  have h := (show ∀ q ∈ i_X12_day.drop 0, _ from p_cut 60 (p_dk_ok e_X12_day_0) (by rw [List.drop_drop, List.drop_eq_nil_of_le (by decide +kernel)]; exact fun _ h => by cases h))
  rwa [List.drop_zero] at h
theorem e_X12_canSell_0 : ((i_X12_canSell.drop 0).take 60).all (p_dk prog_14_method_92_code) = true := by decide +kernel
theorem e_X12_canSell : ∀ q ∈ i_X12_canSell, decode prog_14_method_92_code q.1 = .ok q.2 ∧ (p_ln q.2.1 = 0 ∨ q.2.2 = p_ln q.2.1) := by
  have h := (show ∀ q ∈ i_X12_canSell.drop 0, _ from p_cut 60 (p_dk_ok e_X12_canSell_0) (by rw [List.drop_drop, List.drop_eq_nil_of_le (by decide +kernel)]; exact fun _ h => by cases h))
  rwa [List.drop_zero] at h
theorem e_X12_sellNow_0 : ((i_X12_sellNow.drop 0).take 60).all (p_dk prog_14_method_93_code) = true := by decide +kernel
theorem e_X12_sellNow : ∀ q ∈ i_X12_sellNow, decode prog_14_method_93_code q.1 = .ok q.2 ∧ (p_ln q.2.1 = 0 ∨ q.2.2 = p_ln q.2.1) := by
  have h := (show ∀ q ∈ i_X12_sellNow.drop 0, _ from p_cut 60 (p_dk_ok e_X12_sellNow_0) (by rw [List.drop_drop, List.drop_eq_nil_of_le (by decide +kernel)]; exact fun _ h => by cases h))
  rwa [List.drop_zero] at h
theorem e_X12_sell_0 : ((i_X12_sell.drop 0).take 60).all (p_dk prog_14_method_94_code) = true := by decide +kernel
theorem e_X12_sell : ∀ q ∈ i_X12_sell, decode prog_14_method_94_code q.1 = .ok q.2 ∧ (p_ln q.2.1 = 0 ∨ q.2.2 = p_ln q.2.1) := by
  have h := (show ∀ q ∈ i_X12_sell.drop 0, _ from p_cut 60 (p_dk_ok e_X12_sell_0) (by rw [List.drop_drop, List.drop_eq_nil_of_le (by decide +kernel)]; exact fun _ h => by cases h))
  rwa [List.drop_zero] at h
theorem e_X12_isPlayed_0 : ((i_X12_isPlayed.drop 0).take 60).all (p_dk prog_14_method_95_code) = true := by decide +kernel
theorem e_X12_isPlayed_1 : ((i_X12_isPlayed.drop 60).take 60).all (p_dk prog_14_method_95_code) = true := by decide +kernel
theorem e_X12_isPlayed : ∀ q ∈ i_X12_isPlayed, decode prog_14_method_95_code q.1 = .ok q.2 ∧ (p_ln q.2.1 = 0 ∨ q.2.2 = p_ln q.2.1) := by
  have h := (show ∀ q ∈ i_X12_isPlayed.drop 0, _ from p_cut 60 (p_dk_ok e_X12_isPlayed_0) (by rw [List.drop_drop]; exact p_cut 60 (p_dk_ok e_X12_isPlayed_1) (by rw [List.drop_drop, List.drop_eq_nil_of_le (by decide +kernel)]; exact fun _ h => by cases h)))
  rwa [List.drop_zero] at h

theorem e_X12_melt_0 : ((i_X12_melt.drop 0).take 60).all (p_dk prog_14_method_148_code) = true := by decide +kernel
theorem e_X12_melt_1 : ((i_X12_melt.drop 60).take 60).all (p_dk prog_14_method_148_code) = true := by decide +kernel
theorem e_X12_melt : ∀ q ∈ i_X12_melt, decode prog_14_method_148_code q.1 = .ok q.2 ∧ (p_ln q.2.1 = 0 ∨ q.2.2 = p_ln q.2.1) := by
  have h := (show ∀ q ∈ i_X12_melt.drop 0, _ from p_cut 60 (p_dk_ok e_X12_melt_0) (by rw [List.drop_drop]; exact p_cut 60 (p_dk_ok e_X12_melt_1) (by rw [List.drop_drop, List.drop_eq_nil_of_le (by decide +kernel)]; exact fun _ h => by cases h)))
  rwa [List.drop_zero] at h
theorem e_X12_isLaw_0 : ((i_X12_isLaw.drop 0).take 60).all (p_dk prog_14_method_149_code) = true := by decide +kernel
theorem e_X12_isLaw_1 : ((i_X12_isLaw.drop 60).take 60).all (p_dk prog_14_method_149_code) = true := by decide +kernel
theorem e_X12_isLaw : ∀ q ∈ i_X12_isLaw, decode prog_14_method_149_code q.1 = .ok q.2 ∧ (p_ln q.2.1 = 0 ∨ q.2.2 = p_ln q.2.1) := by
  have h := (show ∀ q ∈ i_X12_isLaw.drop 0, _ from p_cut 60 (p_dk_ok e_X12_isLaw_0) (by rw [List.drop_drop]; exact p_cut 60 (p_dk_ok e_X12_isLaw_1) (by rw [List.drop_drop, List.drop_eq_nil_of_le (by decide +kernel)]; exact fun _ h => by cases h)))
  rwa [List.drop_zero] at h
theorem e_X12_whoseLaw_0 : ((i_X12_whoseLaw.drop 0).take 60).all (p_dk prog_14_method_150_code) = true := by decide +kernel
theorem e_X12_whoseLaw : ∀ q ∈ i_X12_whoseLaw, decode prog_14_method_150_code q.1 = .ok q.2 ∧ (p_ln q.2.1 = 0 ∨ q.2.2 = p_ln q.2.1) := by
  have h := (show ∀ q ∈ i_X12_whoseLaw.drop 0, _ from p_cut 60 (p_dk_ok e_X12_whoseLaw_0) (by rw [List.drop_drop, List.drop_eq_nil_of_le (by decide +kernel)]; exact fun _ h => by cases h))
  rwa [List.drop_zero] at h
theorem e_X12_image_0 : ((i_X12_image.drop 0).take 60).all (p_dk prog_14_method_151_code) = true := by decide +kernel
theorem e_X12_image : ∀ q ∈ i_X12_image, decode prog_14_method_151_code q.1 = .ok q.2 ∧ (p_ln q.2.1 = 0 ∨ q.2.2 = p_ln q.2.1) := by
  have h := (show ∀ q ∈ i_X12_image.drop 0, _ from p_cut 60 (p_dk_ok e_X12_image_0) (by rw [List.drop_drop, List.drop_eq_nil_of_le (by decide +kernel)]; exact fun _ h => by cases h))
  rwa [List.drop_zero] at h
theorem e_X12_back_0 : ((i_X12_back.drop 0).take 60).all (p_dk prog_14_method_152_code) = true := by decide +kernel
theorem e_X12_back : ∀ q ∈ i_X12_back, decode prog_14_method_152_code q.1 = .ok q.2 ∧ (p_ln q.2.1 = 0 ∨ q.2.2 = p_ln q.2.1) := by
  have h := (show ∀ q ∈ i_X12_back.drop 0, _ from p_cut 60 (p_dk_ok e_X12_back_0) (by rw [List.drop_drop, List.drop_eq_nil_of_le (by decide +kernel)]; exact fun _ h => by cases h))
  rwa [List.drop_zero] at h
theorem e_X12_about_0 : ((i_X12_about.drop 0).take 60).all (p_dk prog_14_method_153_code) = true := by decide +kernel
theorem e_X12_about : ∀ q ∈ i_X12_about, decode prog_14_method_153_code q.1 = .ok q.2 ∧ (p_ln q.2.1 = 0 ∨ q.2.2 = p_ln q.2.1) := by
  have h := (show ∀ q ∈ i_X12_about.drop 0, _ from p_cut 60 (p_dk_ok e_X12_about_0) (by rw [List.drop_drop, List.drop_eq_nil_of_le (by decide +kernel)]; exact fun _ h => by cases h))
  rwa [List.drop_zero] at h
theorem e_J6_bitCount_0f7a4_0 : ((i_J6_bitCount_0f7a4.drop 0).take 60).all (p_dk prog_16_method_49_code) = true := by decide +kernel
theorem e_J6_bitCount_0f7a4 : ∀ q ∈ i_J6_bitCount_0f7a4, decode prog_16_method_49_code q.1 = .ok q.2 ∧ (p_ln q.2.1 = 0 ∨ q.2.2 = p_ln q.2.1) := by
  have h := (show ∀ q ∈ i_J6_bitCount_0f7a4.drop 0, _ from p_cut 60 (p_dk_ok e_J6_bitCount_0f7a4_0) (by rw [List.drop_drop, List.drop_eq_nil_of_le (by decide +kernel)]; exact fun _ h => by cases h))
  rwa [List.drop_zero] at h
theorem e_J9_abs_0f7a4_0 : ((i_J9_abs_0f7a4.drop 0).take 60).all (p_dk prog_17_method_59_code) = true := by decide +kernel
theorem e_J9_abs_0f7a4 : ∀ q ∈ i_J9_abs_0f7a4, decode prog_17_method_59_code q.1 = .ok q.2 ∧ (p_ln q.2.1 = 0 ∨ q.2.2 = p_ln q.2.1) := by
  have h := (show ∀ q ∈ i_J9_abs_0f7a4.drop 0, _ from p_cut 60 (p_dk_ok e_J9_abs_0f7a4_0) (by rw [List.drop_drop, List.drop_eq_nil_of_le (by decide +kernel)]; exact fun _ h => by cases h))
  rwa [List.drop_zero] at h
theorem e_J9_max_7cf53_0 : ((i_J9_max_7cf53.drop 0).take 60).all (p_dk prog_17_method_65_code) = true := by decide +kernel
theorem e_J9_max_7cf53 : ∀ q ∈ i_J9_max_7cf53, decode prog_17_method_65_code q.1 = .ok q.2 ∧ (p_ln q.2.1 = 0 ∨ q.2.2 = p_ln q.2.1) := by
  have h := (show ∀ q ∈ i_J9_max_7cf53.drop 0, _ from p_cut 60 (p_dk_ok e_J9_max_7cf53_0) (by rw [List.drop_drop, List.drop_eq_nil_of_le (by decide +kernel)]; exact fun _ h => by cases h))
  rwa [List.drop_zero] at h
theorem e_J9_max_f86c9_0 : ((i_J9_max_f86c9.drop 0).take 60).all (p_dk prog_17_method_66_code) = true := by decide +kernel
theorem e_J9_max_f86c9 : ∀ q ∈ i_J9_max_f86c9, decode prog_17_method_66_code q.1 = .ok q.2 ∧ (p_ln q.2.1 = 0 ∨ q.2.2 = p_ln q.2.1) := by
  have h := (show ∀ q ∈ i_J9_max_f86c9.drop 0, _ from p_cut 60 (p_dk_ok e_J9_max_f86c9_0) (by rw [List.drop_drop, List.drop_eq_nil_of_le (by decide +kernel)]; exact fun _ h => by cases h))
  rwa [List.drop_zero] at h
theorem e_J9_min_7cf53_0 : ((i_J9_min_7cf53.drop 0).take 60).all (p_dk prog_17_method_69_code) = true := by decide +kernel
theorem e_J9_min_7cf53 : ∀ q ∈ i_J9_min_7cf53, decode prog_17_method_69_code q.1 = .ok q.2 ∧ (p_ln q.2.1 = 0 ∨ q.2.2 = p_ln q.2.1) := by
  have h := (show ∀ q ∈ i_J9_min_7cf53.drop 0, _ from p_cut 60 (p_dk_ok e_J9_min_7cf53_0) (by rw [List.drop_drop, List.drop_eq_nil_of_le (by decide +kernel)]; exact fun _ h => by cases h))
  rwa [List.drop_zero] at h
theorem e_J9_min_f86c9_0 : ((i_J9_min_f86c9.drop 0).take 60).all (p_dk prog_17_method_70_code) = true := by decide +kernel
theorem e_J9_min_f86c9 : ∀ q ∈ i_J9_min_f86c9, decode prog_17_method_70_code q.1 = .ok q.2 ∧ (p_ln q.2.1 = 0 ∨ q.2.2 = p_ln q.2.1) := by
  have h := (show ∀ q ∈ i_J9_min_f86c9.drop 0, _ from p_cut 60 (p_dk_ok e_J9_min_f86c9_0) (by rw [List.drop_drop, List.drop_eq_nil_of_le (by decide +kernel)]; exact fun _ h => by cases h))
  rwa [List.drop_zero] at h
theorem e_J7_fill_53178_0 : ((i_J7_fill_53178.drop 0).take 60).all (p_dk prog_19_method_103_code) = true := by decide +kernel
theorem e_J7_fill_53178 : ∀ q ∈ i_J7_fill_53178, decode prog_19_method_103_code q.1 = .ok q.2 ∧ (p_ln q.2.1 = 0 ∨ q.2.2 = p_ln q.2.1) := by
  have h := (show ∀ q ∈ i_J7_fill_53178.drop 0, _ from p_cut 60 (p_dk_ok e_J7_fill_53178_0) (by rw [List.drop_drop, List.drop_eq_nil_of_le (by decide +kernel)]; exact fun _ h => by cases h))
  rwa [List.drop_zero] at h
theorem e_J7_copyOf_59c91_0 : ((i_J7_copyOf_59c91.drop 0).take 60).all (p_dk prog_19_method_123_code) = true := by decide +kernel
theorem e_J7_copyOf_59c91 : ∀ q ∈ i_J7_copyOf_59c91, decode prog_19_method_123_code q.1 = .ok q.2 ∧ (p_ln q.2.1 = 0 ∨ q.2.2 = p_ln q.2.1) := by
  have h := (show ∀ q ∈ i_J7_copyOf_59c91.drop 0, _ from p_cut 60 (p_dk_ok e_J7_copyOf_59c91_0) (by rw [List.drop_drop, List.drop_eq_nil_of_le (by decide +kernel)]; exact fun _ h => by cases h))
  rwa [List.drop_zero] at h
theorem e_L_law_0 : ((i_L_law.drop 0).take 60).all (p_dk code) = true := by decide +kernel
theorem e_L_law_1 : ((i_L_law.drop 60).take 60).all (p_dk code) = true := by decide +kernel
theorem e_L_law_2 : ((i_L_law.drop 120).take 60).all (p_dk code) = true := by decide +kernel
theorem e_L_law_3 : ((i_L_law.drop 180).take 60).all (p_dk code) = true := by decide +kernel
theorem e_L_law_4 : ((i_L_law.drop 240).take 60).all (p_dk code) = true := by decide +kernel
theorem e_L_law_5 : ((i_L_law.drop 300).take 60).all (p_dk code) = true := by decide +kernel
theorem e_L_law_6 : ((i_L_law.drop 360).take 60).all (p_dk code) = true := by decide +kernel
theorem e_L_law_7 : ((i_L_law.drop 420).take 60).all (p_dk code) = true := by decide +kernel
theorem e_L_law_8 : ((i_L_law.drop 480).take 60).all (p_dk code) = true := by decide +kernel
theorem e_L_law_9 : ((i_L_law.drop 540).take 60).all (p_dk code) = true := by decide +kernel
theorem e_L_law_10 : ((i_L_law.drop 600).take 60).all (p_dk code) = true := by decide +kernel
theorem e_L_law_11 : ((i_L_law.drop 660).take 60).all (p_dk code) = true := by decide +kernel
theorem e_L_law_12 : ((i_L_law.drop 720).take 60).all (p_dk code) = true := by decide +kernel
theorem e_L_law_13 : ((i_L_law.drop 780).take 60).all (p_dk code) = true := by decide +kernel
theorem e_L_law_14 : ((i_L_law.drop 840).take 60).all (p_dk code) = true := by decide +kernel
theorem e_L_law_15 : ((i_L_law.drop 900).take 60).all (p_dk code) = true := by decide +kernel
theorem e_L_law_16 : ((i_L_law.drop 960).take 60).all (p_dk code) = true := by decide +kernel
theorem e_L_law_17 : ((i_L_law.drop 1020).take 60).all (p_dk code) = true := by decide +kernel
theorem e_L_law_18 : ((i_L_law.drop 1080).take 60).all (p_dk code) = true := by decide +kernel
theorem e_L_law_19 : ((i_L_law.drop 1140).take 60).all (p_dk code) = true := by decide +kernel
theorem e_L_law : ∀ q ∈ i_L_law, decode code q.1 = .ok q.2 ∧ (p_ln q.2.1 = 0 ∨ q.2.2 = p_ln q.2.1) := by
  have h := (show ∀ q ∈ i_L_law.drop 0, _ from p_cut 60 (p_dk_ok e_L_law_0) (by rw [List.drop_drop]; exact p_cut 60 (p_dk_ok e_L_law_1) (by rw [List.drop_drop]; exact p_cut 60 (p_dk_ok e_L_law_2) (by rw [List.drop_drop]; exact p_cut 60 (p_dk_ok e_L_law_3) (by rw [List.drop_drop]; exact p_cut 60 (p_dk_ok e_L_law_4) (by rw [List.drop_drop]; exact p_cut 60 (p_dk_ok e_L_law_5) (by rw [List.drop_drop]; exact p_cut 60 (p_dk_ok e_L_law_6) (by rw [List.drop_drop]; exact p_cut 60 (p_dk_ok e_L_law_7) (by rw [List.drop_drop]; exact p_cut 60 (p_dk_ok e_L_law_8) (by rw [List.drop_drop]; exact p_cut 60 (p_dk_ok e_L_law_9) (by rw [List.drop_drop]; exact p_cut 60 (p_dk_ok e_L_law_10) (by rw [List.drop_drop]; exact p_cut 60 (p_dk_ok e_L_law_11) (by rw [List.drop_drop]; exact p_cut 60 (p_dk_ok e_L_law_12) (by rw [List.drop_drop]; exact p_cut 60 (p_dk_ok e_L_law_13) (by rw [List.drop_drop]; exact p_cut 60 (p_dk_ok e_L_law_14) (by rw [List.drop_drop]; exact p_cut 60 (p_dk_ok e_L_law_15) (by rw [List.drop_drop]; exact p_cut 60 (p_dk_ok e_L_law_16) (by rw [List.drop_drop]; exact p_cut 60 (p_dk_ok e_L_law_17) (by rw [List.drop_drop]; exact p_cut 60 (p_dk_ok e_L_law_18) (by rw [List.drop_drop]; exact p_cut 60 (p_dk_ok e_L_law_19) (by rw [List.drop_drop, List.drop_eq_nil_of_le (by decide +kernel)]; exact fun _ h => by cases h)))))))))))))))))))))
  rwa [List.drop_zero] at h

theorem e_X5_blockFor_0 : ((i_X5_blockFor.drop 0).take 60).all (p_dk prog_7_method_2_code) = true := by decide +kernel
theorem e_X5_blockFor : ∀ q ∈ i_X5_blockFor, decode prog_7_method_2_code q.1 = .ok q.2 ∧ (p_ln q.2.1 = 0 ∨ q.2.2 = p_ln q.2.1) := by
  have h := (show ∀ q ∈ i_X5_blockFor.drop 0, _ from p_cut 60 (p_dk_ok e_X5_blockFor_0) (by rw [List.drop_drop, List.drop_eq_nil_of_le (by decide +kernel)]; exact fun _ h => by cases h))
  rwa [List.drop_zero] at h
theorem e_X5_settle_0 : ((i_X5_settle.drop 0).take 60).all (p_dk prog_7_method_3_code) = true := by decide +kernel
theorem e_X5_settle : ∀ q ∈ i_X5_settle, decode prog_7_method_3_code q.1 = .ok q.2 ∧ (p_ln q.2.1 = 0 ∨ q.2.2 = p_ln q.2.1) := by
  have h := (show ∀ q ∈ i_X5_settle.drop 0, _ from p_cut 60 (p_dk_ok e_X5_settle_0) (by rw [List.drop_drop, List.drop_eq_nil_of_le (by decide +kernel)]; exact fun _ h => by cases h))
  rwa [List.drop_zero] at h
theorem e_X5_findLowest_0 : ((i_X5_findLowest.drop 0).take 60).all (p_dk prog_7_method_4_code) = true := by decide +kernel
theorem e_X5_findLowest : ∀ q ∈ i_X5_findLowest, decode prog_7_method_4_code q.1 = .ok q.2 ∧ (p_ln q.2.1 = 0 ∨ q.2.2 = p_ln q.2.1) := by
  have h := (show ∀ q ∈ i_X5_findLowest.drop 0, _ from p_cut 60 (p_dk_ok e_X5_findLowest_0) (by rw [List.drop_drop, List.drop_eq_nil_of_le (by decide +kernel)]; exact fun _ h => by cases h))
  rwa [List.drop_zero] at h
theorem e_X5_serves_0 : ((i_X5_serves.drop 0).take 60).all (p_dk prog_7_method_5_code) = true := by decide +kernel
theorem e_X5_serves : ∀ q ∈ i_X5_serves, decode prog_7_method_5_code q.1 = .ok q.2 ∧ (p_ln q.2.1 = 0 ∨ q.2.2 = p_ln q.2.1) := by
  have h := (show ∀ q ∈ i_X5_serves.drop 0, _ from p_cut 60 (p_dk_ok e_X5_serves_0) (by rw [List.drop_drop, List.drop_eq_nil_of_le (by decide +kernel)]; exact fun _ h => by cases h))
  rwa [List.drop_zero] at h
theorem e_X5_deepestWhole_0 : ((i_X5_deepestWhole.drop 0).take 60).all (p_dk prog_7_method_6_code) = true := by decide +kernel
theorem e_X5_deepestWhole : ∀ q ∈ i_X5_deepestWhole, decode prog_7_method_6_code q.1 = .ok q.2 ∧ (p_ln q.2.1 = 0 ∨ q.2.2 = p_ln q.2.1) := by
  have h := (show ∀ q ∈ i_X5_deepestWhole.drop 0, _ from p_cut 60 (p_dk_ok e_X5_deepestWhole_0) (by rw [List.drop_drop, List.drop_eq_nil_of_le (by decide +kernel)]; exact fun _ h => by cases h))
  rwa [List.drop_zero] at h
theorem e_X5_choose_0 : ((i_X5_choose.drop 0).take 60).all (p_dk prog_7_method_7_code) = true := by decide +kernel
theorem e_X5_choose_1 : ((i_X5_choose.drop 60).take 60).all (p_dk prog_7_method_7_code) = true := by decide +kernel
theorem e_X5_choose : ∀ q ∈ i_X5_choose, decode prog_7_method_7_code q.1 = .ok q.2 ∧ (p_ln q.2.1 = 0 ∨ q.2.2 = p_ln q.2.1) := by
  have h := (show ∀ q ∈ i_X5_choose.drop 0, _ from p_cut 60 (p_dk_ok e_X5_choose_0) (by rw [List.drop_drop]; exact p_cut 60 (p_dk_ok e_X5_choose_1) (by rw [List.drop_drop, List.drop_eq_nil_of_le (by decide +kernel)]; exact fun _ h => by cases h)))
  rwa [List.drop_zero] at h
theorem e_X5_isFree_0 : ((i_X5_isFree.drop 0).take 60).all (p_dk prog_7_method_8_code) = true := by decide +kernel
theorem e_X5_isFree : ∀ q ∈ i_X5_isFree, decode prog_7_method_8_code q.1 = .ok q.2 ∧ (p_ln q.2.1 = 0 ∨ q.2.2 = p_ln q.2.1) := by
  have h := (show ∀ q ∈ i_X5_isFree.drop 0, _ from p_cut 60 (p_dk_ok e_X5_isFree_0) (by rw [List.drop_drop, List.drop_eq_nil_of_le (by decide +kernel)]; exact fun _ h => by cases h))
  rwa [List.drop_zero] at h
theorem e_X6_init_0 : ((i_X6_init.drop 0).take 60).all (p_dk prog_8_method_1_code) = true := by decide +kernel
theorem e_X6_init : ∀ q ∈ i_X6_init, decode prog_8_method_1_code q.1 = .ok q.2 ∧ (p_ln q.2.1 = 0 ∨ q.2.2 = p_ln q.2.1) := by
  have h := (show ∀ q ∈ i_X6_init.drop 0, _ from p_cut 60 (p_dk_ok e_X6_init_0) (by rw [List.drop_drop, List.drop_eq_nil_of_le (by decide +kernel)]; exact fun _ h => by cases h))
  rwa [List.drop_zero] at h
theorem e_X6_keep_0 : ((i_X6_keep.drop 0).take 60).all (p_dk prog_8_method_2_code) = true := by decide +kernel
theorem e_X6_keep : ∀ q ∈ i_X6_keep, decode prog_8_method_2_code q.1 = .ok q.2 ∧ (p_ln q.2.1 = 0 ∨ q.2.2 = p_ln q.2.1) := by
  have h := (show ∀ q ∈ i_X6_keep.drop 0, _ from p_cut 60 (p_dk_ok e_X6_keep_0) (by rw [List.drop_drop, List.drop_eq_nil_of_le (by decide +kernel)]; exact fun _ h => by cases h))
  rwa [List.drop_zero] at h
theorem e_X6_takeBack_0 : ((i_X6_takeBack.drop 0).take 60).all (p_dk prog_8_method_3_code) = true := by decide +kernel
theorem e_X6_takeBack : ∀ q ∈ i_X6_takeBack, decode prog_8_method_3_code q.1 = .ok q.2 ∧ (p_ln q.2.1 = 0 ∨ q.2.2 = p_ln q.2.1) := by
  have h := (show ∀ q ∈ i_X6_takeBack.drop 0, _ from p_cut 60 (p_dk_ok e_X6_takeBack_0) (by rw [List.drop_drop, List.drop_eq_nil_of_le (by decide +kernel)]; exact fun _ h => by cases h))
  rwa [List.drop_zero] at h
theorem e_X6_become_0 : ((i_X6_become.drop 0).take 60).all (p_dk prog_8_method_4_code) = true := by decide +kernel
theorem e_X6_become : ∀ q ∈ i_X6_become, decode prog_8_method_4_code q.1 = .ok q.2 ∧ (p_ln q.2.1 = 0 ∨ q.2.2 = p_ln q.2.1) := by
  have h := (show ∀ q ∈ i_X6_become.drop 0, _ from p_cut 60 (p_dk_ok e_X6_become_0) (by rw [List.drop_drop, List.drop_eq_nil_of_le (by decide +kernel)]; exact fun _ h => by cases h))
  rwa [List.drop_zero] at h
theorem e_X7_init_0 : ((i_X7_init.drop 0).take 60).all (p_dk prog_9_method_1_code) = true := by decide +kernel
theorem e_X7_init : ∀ q ∈ i_X7_init, decode prog_9_method_1_code q.1 = .ok q.2 ∧ (p_ln q.2.1 = 0 ∨ q.2.2 = p_ln q.2.1) := by
  have h := (show ∀ q ∈ i_X7_init.drop 0, _ from p_cut 60 (p_dk_ok e_X7_init_0) (by rw [List.drop_drop, List.drop_eq_nil_of_le (by decide +kernel)]; exact fun _ h => by cases h))
  rwa [List.drop_zero] at h
theorem e_X7_part_0 : ((i_X7_part.drop 0).take 60).all (p_dk prog_9_method_2_code) = true := by decide +kernel
theorem e_X7_part : ∀ q ∈ i_X7_part, decode prog_9_method_2_code q.1 = .ok q.2 ∧ (p_ln q.2.1 = 0 ∨ q.2.2 = p_ln q.2.1) := by
  have h := (show ∀ q ∈ i_X7_part.drop 0, _ from p_cut 60 (p_dk_ok e_X7_part_0) (by rw [List.drop_drop, List.drop_eq_nil_of_le (by decide +kernel)]; exact fun _ h => by cases h))
  rwa [List.drop_zero] at h
theorem e_X8_init_0 : ((i_X8_init.drop 0).take 60).all (p_dk prog_10_method_1_code) = true := by decide +kernel
theorem e_X8_init : ∀ q ∈ i_X8_init, decode prog_10_method_1_code q.1 = .ok q.2 ∧ (p_ln q.2.1 = 0 ∨ q.2.2 = p_ln q.2.1) := by
  have h := (show ∀ q ∈ i_X8_init.drop 0, _ from p_cut 60 (p_dk_ok e_X8_init_0) (by rw [List.drop_drop, List.drop_eq_nil_of_le (by decide +kernel)]; exact fun _ h => by cases h))
  rwa [List.drop_zero] at h
theorem e_X8_none_0 : ((i_X8_none.drop 0).take 60).all (p_dk prog_10_method_2_code) = true := by decide +kernel
theorem e_X8_none : ∀ q ∈ i_X8_none, decode prog_10_method_2_code q.1 = .ok q.2 ∧ (p_ln q.2.1 = 0 ∨ q.2.2 = p_ln q.2.1) := by
  have h := (show ∀ q ∈ i_X8_none.drop 0, _ from p_cut 60 (p_dk_ok e_X8_none_0) (by rw [List.drop_drop, List.drop_eq_nil_of_le (by decide +kernel)]; exact fun _ h => by cases h))
  rwa [List.drop_zero] at h
theorem e_X8_add_0 : ((i_X8_add.drop 0).take 60).all (p_dk prog_10_method_3_code) = true := by decide +kernel
theorem e_X8_add : ∀ q ∈ i_X8_add, decode prog_10_method_3_code q.1 = .ok q.2 ∧ (p_ln q.2.1 = 0 ∨ q.2.2 = p_ln q.2.1) := by
  have h := (show ∀ q ∈ i_X8_add.drop 0, _ from p_cut 60 (p_dk_ok e_X8_add_0) (by rw [List.drop_drop, List.drop_eq_nil_of_le (by decide +kernel)]; exact fun _ h => by cases h))
  rwa [List.drop_zero] at h
theorem e_X8_part_0 : ((i_X8_part.drop 0).take 60).all (p_dk prog_10_method_4_code) = true := by decide +kernel
theorem e_X8_part : ∀ q ∈ i_X8_part, decode prog_10_method_4_code q.1 = .ok q.2 ∧ (p_ln q.2.1 = 0 ∨ q.2.2 = p_ln q.2.1) := by
  have h := (show ∀ q ∈ i_X8_part.drop 0, _ from p_cut 60 (p_dk_ok e_X8_part_0) (by rw [List.drop_drop, List.drop_eq_nil_of_le (by decide +kernel)]; exact fun _ h => by cases h))
  rwa [List.drop_zero] at h
theorem e_X8_become_0 : ((i_X8_become.drop 0).take 60).all (p_dk prog_10_method_5_code) = true := by decide +kernel
theorem e_X8_become : ∀ q ∈ i_X8_become, decode prog_10_method_5_code q.1 = .ok q.2 ∧ (p_ln q.2.1 = 0 ∨ q.2.2 = p_ln q.2.1) := by
  have h := (show ∀ q ∈ i_X8_become.drop 0, _ from p_cut 60 (p_dk_ok e_X8_become_0) (by rw [List.drop_drop, List.drop_eq_nil_of_le (by decide +kernel)]; exact fun _ h => by cases h))
  rwa [List.drop_zero] at h
theorem e_X9_init_0 : ((i_X9_init.drop 0).take 60).all (p_dk prog_11_method_1_code) = true := by decide +kernel
theorem e_X9_init : ∀ q ∈ i_X9_init, decode prog_11_method_1_code q.1 = .ok q.2 ∧ (p_ln q.2.1 = 0 ∨ q.2.2 = p_ln q.2.1) := by
  have h := (show ∀ q ∈ i_X9_init.drop 0, _ from p_cut 60 (p_dk_ok e_X9_init_0) (by rw [List.drop_drop, List.drop_eq_nil_of_le (by decide +kernel)]; exact fun _ h => by cases h))
  rwa [List.drop_zero] at h
theorem e_X9_become_0 : ((i_X9_become.drop 0).take 60).all (p_dk prog_11_method_2_code) = true := by decide +kernel
theorem e_X9_become_1 : ((i_X9_become.drop 60).take 60).all (p_dk prog_11_method_2_code) = true := by decide +kernel
theorem e_X9_become : ∀ q ∈ i_X9_become, decode prog_11_method_2_code q.1 = .ok q.2 ∧ (p_ln q.2.1 = 0 ∨ q.2.2 = p_ln q.2.1) := by
  have h := (show ∀ q ∈ i_X9_become.drop 0, _ from p_cut 60 (p_dk_ok e_X9_become_0) (by rw [List.drop_drop]; exact p_cut 60 (p_dk_ok e_X9_become_1) (by rw [List.drop_drop, List.drop_eq_nil_of_le (by decide +kernel)]; exact fun _ h => by cases h)))
  rwa [List.drop_zero] at h
theorem e_X9_sightPart_0 : ((i_X9_sightPart.drop 0).take 60).all (p_dk prog_11_method_3_code) = true := by decide +kernel
theorem e_X9_sightPart : ∀ q ∈ i_X9_sightPart, decode prog_11_method_3_code q.1 = .ok q.2 ∧ (p_ln q.2.1 = 0 ∨ q.2.2 = p_ln q.2.1) := by
  have h := (show ∀ q ∈ i_X9_sightPart.drop 0, _ from p_cut 60 (p_dk_ok e_X9_sightPart_0) (by rw [List.drop_drop, List.drop_eq_nil_of_le (by decide +kernel)]; exact fun _ h => by cases h))
  rwa [List.drop_zero] at h
theorem e_X9_textAt_0 : ((i_X9_textAt.drop 0).take 60).all (p_dk prog_11_method_4_code) = true := by decide +kernel
theorem e_X9_textAt : ∀ q ∈ i_X9_textAt, decode prog_11_method_4_code q.1 = .ok q.2 ∧ (p_ln q.2.1 = 0 ∨ q.2.2 = p_ln q.2.1) := by
  have h := (show ∀ q ∈ i_X9_textAt.drop 0, _ from p_cut 60 (p_dk_ok e_X9_textAt_0) (by rw [List.drop_drop, List.drop_eq_nil_of_le (by decide +kernel)]; exact fun _ h => by cases h))
  rwa [List.drop_zero] at h
theorem e_X9_ruler_0 : ((i_X9_ruler.drop 0).take 60).all (p_dk prog_11_method_5_code) = true := by decide +kernel
theorem e_X9_ruler : ∀ q ∈ i_X9_ruler, decode prog_11_method_5_code q.1 = .ok q.2 ∧ (p_ln q.2.1 = 0 ∨ q.2.2 = p_ln q.2.1) := by
  have h := (show ∀ q ∈ i_X9_ruler.drop 0, _ from p_cut 60 (p_dk_ok e_X9_ruler_0) (by rw [List.drop_drop, List.drop_eq_nil_of_le (by decide +kernel)]; exact fun _ h => by cases h))
  rwa [List.drop_zero] at h
theorem e_X10_init_0 : ((i_X10_init.drop 0).take 60).all (p_dk prog_12_method_1_code) = true := by decide +kernel
theorem e_X10_init : ∀ q ∈ i_X10_init, decode prog_12_method_1_code q.1 = .ok q.2 ∧ (p_ln q.2.1 = 0 ∨ q.2.2 = p_ln q.2.1) := by
  have h := (show ∀ q ∈ i_X10_init.drop 0, _ from p_cut 60 (p_dk_ok e_X10_init_0) (by rw [List.drop_drop, List.drop_eq_nil_of_le (by decide +kernel)]; exact fun _ h => by cases h))
  rwa [List.drop_zero] at h
theorem e_X10_markOf_0 : ((i_X10_markOf.drop 0).take 60).all (p_dk prog_12_method_2_code) = true := by decide +kernel
theorem e_X10_markOf : ∀ q ∈ i_X10_markOf, decode prog_12_method_2_code q.1 = .ok q.2 ∧ (p_ln q.2.1 = 0 ∨ q.2.2 = p_ln q.2.1) := by
  have h := (show ∀ q ∈ i_X10_markOf.drop 0, _ from p_cut 60 (p_dk_ok e_X10_markOf_0) (by rw [List.drop_drop, List.drop_eq_nil_of_le (by decide +kernel)]; exact fun _ h => by cases h))
  rwa [List.drop_zero] at h
theorem e_X10_strawOn_0 : ((i_X10_strawOn.drop 0).take 60).all (p_dk prog_12_method_3_code) = true := by decide +kernel
theorem e_X10_strawOn : ∀ q ∈ i_X10_strawOn, decode prog_12_method_3_code q.1 = .ok q.2 ∧ (p_ln q.2.1 = 0 ∨ q.2.2 = p_ln q.2.1) := by
  have h := (show ∀ q ∈ i_X10_strawOn.drop 0, _ from p_cut 60 (p_dk_ok e_X10_strawOn_0) (by rw [List.drop_drop, List.drop_eq_nil_of_le (by decide +kernel)]; exact fun _ h => by cases h))
  rwa [List.drop_zero] at h
theorem e_X10_meltedOf_0 : ((i_X10_meltedOf.drop 0).take 60).all (p_dk prog_12_method_4_code) = true := by decide +kernel
theorem e_X10_meltedOf : ∀ q ∈ i_X10_meltedOf, decode prog_12_method_4_code q.1 = .ok q.2 ∧ (p_ln q.2.1 = 0 ∨ q.2.2 = p_ln q.2.1) := by
  have h := (show ∀ q ∈ i_X10_meltedOf.drop 0, _ from p_cut 60 (p_dk_ok e_X10_meltedOf_0) (by rw [List.drop_drop, List.drop_eq_nil_of_le (by decide +kernel)]; exact fun _ h => by cases h))
  rwa [List.drop_zero] at h
theorem e_X10_isSold_0 : ((i_X10_isSold.drop 0).take 60).all (p_dk prog_12_method_5_code) = true := by decide +kernel
theorem e_X10_isSold : ∀ q ∈ i_X10_isSold, decode prog_12_method_5_code q.1 = .ok q.2 ∧ (p_ln q.2.1 = 0 ∨ q.2.2 = p_ln q.2.1) := by
  have h := (show ∀ q ∈ i_X10_isSold.drop 0, _ from p_cut 60 (p_dk_ok e_X10_isSold_0) (by rw [List.drop_drop, List.drop_eq_nil_of_le (by decide +kernel)]; exact fun _ h => by cases h))
  rwa [List.drop_zero] at h
theorem e_X10_isLike_0 : ((i_X10_isLike.drop 0).take 60).all (p_dk prog_12_method_6_code) = true := by decide +kernel
theorem e_X10_isLike : ∀ q ∈ i_X10_isLike, decode prog_12_method_6_code q.1 = .ok q.2 ∧ (p_ln q.2.1 = 0 ∨ q.2.2 = p_ln q.2.1) := by
  have h := (show ∀ q ∈ i_X10_isLike.drop 0, _ from p_cut 60 (p_dk_ok e_X10_isLike_0) (by rw [List.drop_drop, List.drop_eq_nil_of_le (by decide +kernel)]; exact fun _ h => by cases h))
  rwa [List.drop_zero] at h
theorem e_X10_put_0 : ((i_X10_put.drop 0).take 60).all (p_dk prog_12_method_7_code) = true := by decide +kernel
theorem e_X10_put : ∀ q ∈ i_X10_put, decode prog_12_method_7_code q.1 = .ok q.2 ∧ (p_ln q.2.1 = 0 ∨ q.2.2 = p_ln q.2.1) := by
  have h := (show ∀ q ∈ i_X10_put.drop 0, _ from p_cut 60 (p_dk_ok e_X10_put_0) (by rw [List.drop_drop, List.drop_eq_nil_of_le (by decide +kernel)]; exact fun _ h => by cases h))
  rwa [List.drop_zero] at h
theorem e_X10_isUntouched_0 : ((i_X10_isUntouched.drop 0).take 60).all (p_dk prog_12_method_8_code) = true := by decide +kernel
theorem e_X10_isUntouched : ∀ q ∈ i_X10_isUntouched, decode prog_12_method_8_code q.1 = .ok q.2 ∧ (p_ln q.2.1 = 0 ∨ q.2.2 = p_ln q.2.1) := by
  have h := (show ∀ q ∈ i_X10_isUntouched.drop 0, _ from p_cut 60 (p_dk_ok e_X10_isUntouched_0) (by rw [List.drop_drop, List.drop_eq_nil_of_le (by decide +kernel)]; exact fun _ h => by cases h))
  rwa [List.drop_zero] at h
theorem e_X10_draw_0 : ((i_X10_draw.drop 0).take 60).all (p_dk prog_12_method_9_code) = true := by decide +kernel
theorem e_X10_draw : ∀ q ∈ i_X10_draw, decode prog_12_method_9_code q.1 = .ok q.2 ∧ (p_ln q.2.1 = 0 ∨ q.2.2 = p_ln q.2.1) := by
  have h := (show ∀ q ∈ i_X10_draw.drop 0, _ from p_cut 60 (p_dk_ok e_X10_draw_0) (by rw [List.drop_drop, List.drop_eq_nil_of_le (by decide +kernel)]; exact fun _ h => by cases h))
  rwa [List.drop_zero] at h
theorem e_X10_behind_0 : ((i_X10_behind.drop 0).take 60).all (p_dk prog_12_method_10_code) = true := by decide +kernel
theorem e_X10_behind : ∀ q ∈ i_X10_behind, decode prog_12_method_10_code q.1 = .ok q.2 ∧ (p_ln q.2.1 = 0 ∨ q.2.2 = p_ln q.2.1) := by
  have h := (show ∀ q ∈ i_X10_behind.drop 0, _ from p_cut 60 (p_dk_ok e_X10_behind_0) (by rw [List.drop_drop, List.drop_eq_nil_of_le (by decide +kernel)]; exact fun _ h => by cases h))
  rwa [List.drop_zero] at h
theorem e_X10_become_0 : ((i_X10_become.drop 0).take 60).all (p_dk prog_12_method_11_code) = true := by decide +kernel
theorem e_X10_become : ∀ q ∈ i_X10_become, decode prog_12_method_11_code q.1 = .ok q.2 ∧ (p_ln q.2.1 = 0 ∨ q.2.2 = p_ln q.2.1) := by
  have h := (show ∀ q ∈ i_X10_become.drop 0, _ from p_cut 60 (p_dk_ok e_X10_become_0) (by rw [List.drop_drop, List.drop_eq_nil_of_le (by decide +kernel)]; exact fun _ h => by cases h))
  rwa [List.drop_zero] at h
theorem e_X10_writeTo_0 : ((i_X10_writeTo.drop 0).take 60).all (p_dk prog_12_method_12_code) = true := by decide +kernel
theorem e_X10_writeTo_1 : ((i_X10_writeTo.drop 60).take 60).all (p_dk prog_12_method_12_code) = true := by decide +kernel
theorem e_X10_writeTo : ∀ q ∈ i_X10_writeTo, decode prog_12_method_12_code q.1 = .ok q.2 ∧ (p_ln q.2.1 = 0 ∨ q.2.2 = p_ln q.2.1) := by
  have h := (show ∀ q ∈ i_X10_writeTo.drop 0, _ from p_cut 60 (p_dk_ok e_X10_writeTo_0) (by rw [List.drop_drop]; exact p_cut 60 (p_dk_ok e_X10_writeTo_1) (by rw [List.drop_drop, List.drop_eq_nil_of_le (by decide +kernel)]; exact fun _ h => by cases h)))
  rwa [List.drop_zero] at h
theorem e_X10_readFrom_0 : ((i_X10_readFrom.drop 0).take 60).all (p_dk prog_12_method_13_code) = true := by decide +kernel
theorem e_X10_readFrom_1 : ((i_X10_readFrom.drop 60).take 60).all (p_dk prog_12_method_13_code) = true := by decide +kernel
theorem e_X10_readFrom : ∀ q ∈ i_X10_readFrom, decode prog_12_method_13_code q.1 = .ok q.2 ∧ (p_ln q.2.1 = 0 ∨ q.2.2 = p_ln q.2.1) := by
  have h := (show ∀ q ∈ i_X10_readFrom.drop 0, _ from p_cut 60 (p_dk_ok e_X10_readFrom_0) (by rw [List.drop_drop]; exact p_cut 60 (p_dk_ok e_X10_readFrom_1) (by rw [List.drop_drop, List.drop_eq_nil_of_le (by decide +kernel)]; exact fun _ h => by cases h)))
  rwa [List.drop_zero] at h
theorem e_X11_init_0 : ((i_X11_init.drop 0).take 60).all (p_dk prog_1_method_1_code) = true := by decide +kernel
theorem e_X11_init_1 : ((i_X11_init.drop 60).take 60).all (p_dk prog_1_method_1_code) = true := by decide +kernel
theorem e_X11_init : ∀ q ∈ i_X11_init, decode prog_1_method_1_code q.1 = .ok q.2 ∧ (p_ln q.2.1 = 0 ∨ q.2.2 = p_ln q.2.1) := by
  have h := (show ∀ q ∈ i_X11_init.drop 0, _ from p_cut 60 (p_dk_ok e_X11_init_0) (by rw [List.drop_drop]; exact p_cut 60 (p_dk_ok e_X11_init_1) (by rw [List.drop_drop, List.drop_eq_nil_of_le (by decide +kernel)]; exact fun _ h => by cases h)))
  rwa [List.drop_zero] at h
theorem e_X11_pond_0 : ((i_X11_pond.drop 0).take 60).all (p_dk prog_1_method_2_code) = true := by decide +kernel
theorem e_X11_pond : ∀ q ∈ i_X11_pond, decode prog_1_method_2_code q.1 = .ok q.2 ∧ (p_ln q.2.1 = 0 ∨ q.2.2 = p_ln q.2.1) := by
  have h := (show ∀ q ∈ i_X11_pond.drop 0, _ from p_cut 60 (p_dk_ok e_X11_pond_0) (by rw [List.drop_drop, List.drop_eq_nil_of_le (by decide +kernel)]; exact fun _ h => by cases h))
  rwa [List.drop_zero] at h
theorem e_X11_sight_0 : ((i_X11_sight.drop 0).take 60).all (p_dk prog_1_method_3_code) = true := by decide +kernel
theorem e_X11_sight_1 : ((i_X11_sight.drop 60).take 60).all (p_dk prog_1_method_3_code) = true := by decide +kernel
theorem e_X11_sight_2 : ((i_X11_sight.drop 120).take 60).all (p_dk prog_1_method_3_code) = true := by decide +kernel
theorem e_X11_sight : ∀ q ∈ i_X11_sight, decode prog_1_method_3_code q.1 = .ok q.2 ∧ (p_ln q.2.1 = 0 ∨ q.2.2 = p_ln q.2.1) := by
  have h := (show ∀ q ∈ i_X11_sight.drop 0, _ from p_cut 60 (p_dk_ok e_X11_sight_0) (by rw [List.drop_drop]; exact p_cut 60 (p_dk_ok e_X11_sight_1) (by rw [List.drop_drop]; exact p_cut 60 (p_dk_ok e_X11_sight_2) (by rw [List.drop_drop, List.drop_eq_nil_of_le (by decide +kernel)]; exact fun _ h => by cases h))))
  rwa [List.drop_zero] at h
theorem e_X11_feed_0 : ((i_X11_feed.drop 0).take 60).all (p_dk prog_1_method_4_code) = true := by decide +kernel
theorem e_X11_feed : ∀ q ∈ i_X11_feed, decode prog_1_method_4_code q.1 = .ok q.2 ∧ (p_ln q.2.1 = 0 ∨ q.2.2 = p_ln q.2.1) := by
  have h := (show ∀ q ∈ i_X11_feed.drop 0, _ from p_cut 60 (p_dk_ok e_X11_feed_0) (by rw [List.drop_drop, List.drop_eq_nil_of_le (by decide +kernel)]; exact fun _ h => by cases h))
  rwa [List.drop_zero] at h
theorem e_X11_end_0 : ((i_X11_end.drop 0).take 60).all (p_dk prog_1_method_5_code) = true := by decide +kernel
theorem e_X11_end : ∀ q ∈ i_X11_end, decode prog_1_method_5_code q.1 = .ok q.2 ∧ (p_ln q.2.1 = 0 ∨ q.2.2 = p_ln q.2.1) := by
  have h := (show ∀ q ∈ i_X11_end.drop 0, _ from p_cut 60 (p_dk_ok e_X11_end_0) (by rw [List.drop_drop, List.drop_eq_nil_of_le (by decide +kernel)]; exact fun _ h => by cases h))
  rwa [List.drop_zero] at h
theorem e_X11_text_0 : ((i_X11_text.drop 0).take 60).all (p_dk prog_1_method_6_code) = true := by decide +kernel
theorem e_X11_text : ∀ q ∈ i_X11_text, decode prog_1_method_6_code q.1 = .ok q.2 ∧ (p_ln q.2.1 = 0 ∨ q.2.2 = p_ln q.2.1) := by
  have h := (show ∀ q ∈ i_X11_text.drop 0, _ from p_cut 60 (p_dk_ok e_X11_text_0) (by rw [List.drop_drop, List.drop_eq_nil_of_le (by decide +kernel)]; exact fun _ h => by cases h))
  rwa [List.drop_zero] at h
theorem e_X11_fault_0 : ((i_X11_fault.drop 0).take 60).all (p_dk prog_1_method_7_code) = true := by decide +kernel
theorem e_X11_fault : ∀ q ∈ i_X11_fault, decode prog_1_method_7_code q.1 = .ok q.2 ∧ (p_ln q.2.1 = 0 ∨ q.2.2 = p_ln q.2.1) := by
  have h := (show ∀ q ∈ i_X11_fault.drop 0, _ from p_cut 60 (p_dk_ok e_X11_fault_0) (by rw [List.drop_drop, List.drop_eq_nil_of_le (by decide +kernel)]; exact fun _ h => by cases h))
  rwa [List.drop_zero] at h
theorem e_X11_by_0 : ((i_X11_by.drop 0).take 60).all (p_dk prog_1_method_8_code) = true := by decide +kernel
theorem e_X11_by : ∀ q ∈ i_X11_by, decode prog_1_method_8_code q.1 = .ok q.2 ∧ (p_ln q.2.1 = 0 ∨ q.2.2 = p_ln q.2.1) := by
  have h := (show ∀ q ∈ i_X11_by.drop 0, _ from p_cut 60 (p_dk_ok e_X11_by_0) (by rw [List.drop_drop, List.drop_eq_nil_of_le (by decide +kernel)]; exact fun _ h => by cases h))
  rwa [List.drop_zero] at h
theorem e_X11_saw_0 : ((i_X11_saw.drop 0).take 60).all (p_dk prog_1_method_9_code) = true := by decide +kernel
theorem e_X11_saw : ∀ q ∈ i_X11_saw, decode prog_1_method_9_code q.1 = .ok q.2 ∧ (p_ln q.2.1 = 0 ∨ q.2.2 = p_ln q.2.1) := by
  have h := (show ∀ q ∈ i_X11_saw.drop 0, _ from p_cut 60 (p_dk_ok e_X11_saw_0) (by rw [List.drop_drop, List.drop_eq_nil_of_le (by decide +kernel)]; exact fun _ h => by cases h))
  rwa [List.drop_zero] at h
theorem e_X11_straw_0 : ((i_X11_straw.drop 0).take 60).all (p_dk prog_1_method_10_code) = true := by decide +kernel
theorem e_X11_straw : ∀ q ∈ i_X11_straw, decode prog_1_method_10_code q.1 = .ok q.2 ∧ (p_ln q.2.1 = 0 ∨ q.2.2 = p_ln q.2.1) := by
  have h := (show ∀ q ∈ i_X11_straw.drop 0, _ from p_cut 60 (p_dk_ok e_X11_straw_0) (by rw [List.drop_drop, List.drop_eq_nil_of_le (by decide +kernel)]; exact fun _ h => by cases h))
  rwa [List.drop_zero] at h
theorem e_X11_day_0 : ((i_X11_day.drop 0).take 60).all (p_dk prog_1_method_11_code) = true := by decide +kernel
theorem e_X11_day : ∀ q ∈ i_X11_day, decode prog_1_method_11_code q.1 = .ok q.2 ∧ (p_ln q.2.1 = 0 ∨ q.2.2 = p_ln q.2.1) := by
  have h := (show ∀ q ∈ i_X11_day.drop 0, _ from p_cut 60 (p_dk_ok e_X11_day_0) (by rw [List.drop_drop, List.drop_eq_nil_of_le (by decide +kernel)]; exact fun _ h => by cases h))
  rwa [List.drop_zero] at h
theorem e_X11_sell_0 : ((i_X11_sell.drop 0).take 60).all (p_dk prog_1_method_12_code) = true := by decide +kernel
theorem e_X11_sell : ∀ q ∈ i_X11_sell, decode prog_1_method_12_code q.1 = .ok q.2 ∧ (p_ln q.2.1 = 0 ∨ q.2.2 = p_ln q.2.1) := by
  have h := (show ∀ q ∈ i_X11_sell.drop 0, _ from p_cut 60 (p_dk_ok e_X11_sell_0) (by rw [List.drop_drop, List.drop_eq_nil_of_le (by decide +kernel)]; exact fun _ h => by cases h))
  rwa [List.drop_zero] at h
theorem e_X11_played_0 : ((i_X11_played.drop 0).take 60).all (p_dk prog_1_method_13_code) = true := by decide +kernel
theorem e_X11_played : ∀ q ∈ i_X11_played, decode prog_1_method_13_code q.1 = .ok q.2 ∧ (p_ln q.2.1 = 0 ∨ q.2.2 = p_ln q.2.1) := by
  have h := (show ∀ q ∈ i_X11_played.drop 0, _ from p_cut 60 (p_dk_ok e_X11_played_0) (by rw [List.drop_drop, List.drop_eq_nil_of_le (by decide +kernel)]; exact fun _ h => by cases h))
  rwa [List.drop_zero] at h
theorem e_X11_summer_0 : ((i_X11_summer.drop 0).take 60).all (p_dk prog_1_method_14_code) = true := by decide +kernel
theorem e_X11_summer_1 : ((i_X11_summer.drop 60).take 60).all (p_dk prog_1_method_14_code) = true := by decide +kernel
theorem e_X11_summer : ∀ q ∈ i_X11_summer, decode prog_1_method_14_code q.1 = .ok q.2 ∧ (p_ln q.2.1 = 0 ∨ q.2.2 = p_ln q.2.1) := by
  have h := (show ∀ q ∈ i_X11_summer.drop 0, _ from p_cut 60 (p_dk_ok e_X11_summer_0) (by rw [List.drop_drop]; exact p_cut 60 (p_dk_ok e_X11_summer_1) (by rw [List.drop_drop, List.drop_eq_nil_of_le (by decide +kernel)]; exact fun _ h => by cases h)))
  rwa [List.drop_zero] at h
theorem e_X11_undo_0 : ((i_X11_undo.drop 0).take 60).all (p_dk prog_1_method_15_code) = true := by decide +kernel
theorem e_X11_undo : ∀ q ∈ i_X11_undo, decode prog_1_method_15_code q.1 = .ok q.2 ∧ (p_ln q.2.1 = 0 ∨ q.2.2 = p_ln q.2.1) := by
  have h := (show ∀ q ∈ i_X11_undo.drop 0, _ from p_cut 60 (p_dk_ok e_X11_undo_0) (by rw [List.drop_drop, List.drop_eq_nil_of_le (by decide +kernel)]; exact fun _ h => by cases h))
  rwa [List.drop_zero] at h
theorem e_X11_block_0 : ((i_X11_block.drop 0).take 60).all (p_dk prog_1_method_16_code) = true := by decide +kernel
theorem e_X11_block_1 : ((i_X11_block.drop 60).take 60).all (p_dk prog_1_method_16_code) = true := by decide +kernel
theorem e_X11_block : ∀ q ∈ i_X11_block, decode prog_1_method_16_code q.1 = .ok q.2 ∧ (p_ln q.2.1 = 0 ∨ q.2.2 = p_ln q.2.1) := by
  have h := (show ∀ q ∈ i_X11_block.drop 0, _ from p_cut 60 (p_dk_ok e_X11_block_0) (by rw [List.drop_drop]; exact p_cut 60 (p_dk_ok e_X11_block_1) (by rw [List.drop_drop, List.drop_eq_nil_of_le (by decide +kernel)]; exact fun _ h => by cases h)))
  rwa [List.drop_zero] at h
theorem e_X11_blockOf_0 : ((i_X11_blockOf.drop 0).take 60).all (p_dk prog_1_method_17_code) = true := by decide +kernel
theorem e_X11_blockOf : ∀ q ∈ i_X11_blockOf, decode prog_1_method_17_code q.1 = .ok q.2 ∧ (p_ln q.2.1 = 0 ∨ q.2.2 = p_ln q.2.1) := by
  have h := (show ∀ q ∈ i_X11_blockOf.drop 0, _ from p_cut 60 (p_dk_ok e_X11_blockOf_0) (by rw [List.drop_drop, List.drop_eq_nil_of_le (by decide +kernel)]; exact fun _ h => by cases h))
  rwa [List.drop_zero] at h
theorem e_X11_ofSight_0 : ((i_X11_ofSight.drop 0).take 60).all (p_dk prog_1_method_18_code) = true := by decide +kernel
theorem e_X11_ofSight : ∀ q ∈ i_X11_ofSight, decode prog_1_method_18_code q.1 = .ok q.2 ∧ (p_ln q.2.1 = 0 ∨ q.2.2 = p_ln q.2.1) := by
  have h := (show ∀ q ∈ i_X11_ofSight.drop 0, _ from p_cut 60 (p_dk_ok e_X11_ofSight_0) (by rw [List.drop_drop, List.drop_eq_nil_of_le (by decide +kernel)]; exact fun _ h => by cases h))
  rwa [List.drop_zero] at h
theorem e_X11_is_0 : ((i_X11_is.drop 0).take 60).all (p_dk prog_1_method_19_code) = true := by decide +kernel
theorem e_X11_is : ∀ q ∈ i_X11_is, decode prog_1_method_19_code q.1 = .ok q.2 ∧ (p_ln q.2.1 = 0 ∨ q.2.2 = p_ln q.2.1) := by
  have h := (show ∀ q ∈ i_X11_is.drop 0, _ from p_cut 60 (p_dk_ok e_X11_is_0) (by rw [List.drop_drop, List.drop_eq_nil_of_le (by decide +kernel)]; exact fun _ h => by cases h))
  rwa [List.drop_zero] at h
theorem e_X11_whole_0 : ((i_X11_whole.drop 0).take 60).all (p_dk prog_1_method_20_code) = true := by decide +kernel
theorem e_X11_whole : ∀ q ∈ i_X11_whole, decode prog_1_method_20_code q.1 = .ok q.2 ∧ (p_ln q.2.1 = 0 ∨ q.2.2 = p_ln q.2.1) := by
  have h := (show ∀ q ∈ i_X11_whole.drop 0, _ from p_cut 60 (p_dk_ok e_X11_whole_0) (by rw [List.drop_drop, List.drop_eq_nil_of_le (by decide +kernel)]; exact fun _ h => by cases h))
  rwa [List.drop_zero] at h
theorem e_X11_sawing_0 : ((i_X11_sawing.drop 0).take 60).all (p_dk prog_1_method_21_code) = true := by decide +kernel
theorem e_X11_sawing_1 : ((i_X11_sawing.drop 60).take 60).all (p_dk prog_1_method_21_code) = true := by decide +kernel
theorem e_X11_sawing : ∀ q ∈ i_X11_sawing, decode prog_1_method_21_code q.1 = .ok q.2 ∧ (p_ln q.2.1 = 0 ∨ q.2.2 = p_ln q.2.1) := by
  have h := (show ∀ q ∈ i_X11_sawing.drop 0, _ from p_cut 60 (p_dk_ok e_X11_sawing_0) (by rw [List.drop_drop]; exact p_cut 60 (p_dk_ok e_X11_sawing_1) (by rw [List.drop_drop, List.drop_eq_nil_of_le (by decide +kernel)]; exact fun _ h => by cases h)))
  rwa [List.drop_zero] at h
theorem e_X11_foretold_0 : ((i_X11_foretold.drop 0).take 60).all (p_dk prog_1_method_22_code) = true := by decide +kernel
theorem e_X11_foretold : ∀ q ∈ i_X11_foretold, decode prog_1_method_22_code q.1 = .ok q.2 ∧ (p_ln q.2.1 = 0 ∨ q.2.2 = p_ln q.2.1) := by
  have h := (show ∀ q ∈ i_X11_foretold.drop 0, _ from p_cut 60 (p_dk_ok e_X11_foretold_0) (by rw [List.drop_drop, List.drop_eq_nil_of_le (by decide +kernel)]; exact fun _ h => by cases h))
  rwa [List.drop_zero] at h
theorem e_X11_showsIn_0 : ((i_X11_showsIn.drop 0).take 60).all (p_dk prog_1_method_23_code) = true := by decide +kernel
theorem e_X11_showsIn : ∀ q ∈ i_X11_showsIn, decode prog_1_method_23_code q.1 = .ok q.2 ∧ (p_ln q.2.1 = 0 ∨ q.2.2 = p_ln q.2.1) := by
  have h := (show ∀ q ∈ i_X11_showsIn.drop 0, _ from p_cut 60 (p_dk_ok e_X11_showsIn_0) (by rw [List.drop_drop, List.drop_eq_nil_of_le (by decide +kernel)]; exact fun _ h => by cases h))
  rwa [List.drop_zero] at h
theorem e_X11_dearest_0 : ((i_X11_dearest.drop 0).take 60).all (p_dk prog_1_method_24_code) = true := by decide +kernel
theorem e_X11_dearest : ∀ q ∈ i_X11_dearest, decode prog_1_method_24_code q.1 = .ok q.2 ∧ (p_ln q.2.1 = 0 ∨ q.2.2 = p_ln q.2.1) := by
  have h := (show ∀ q ∈ i_X11_dearest.drop 0, _ from p_cut 60 (p_dk_ok e_X11_dearest_0) (by rw [List.drop_drop, List.drop_eq_nil_of_le (by decide +kernel)]; exact fun _ h => by cases h))
  rwa [List.drop_zero] at h
theorem e_X11_together_0 : ((i_X11_together.drop 0).take 60).all (p_dk prog_1_method_25_code) = true := by decide +kernel
theorem e_X11_together_1 : ((i_X11_together.drop 60).take 60).all (p_dk prog_1_method_25_code) = true := by decide +kernel
theorem e_X11_together : ∀ q ∈ i_X11_together, decode prog_1_method_25_code q.1 = .ok q.2 ∧ (p_ln q.2.1 = 0 ∨ q.2.2 = p_ln q.2.1) := by
  have h := (show ∀ q ∈ i_X11_together.drop 0, _ from p_cut 60 (p_dk_ok e_X11_together_0) (by rw [List.drop_drop]; exact p_cut 60 (p_dk_ok e_X11_together_1) (by rw [List.drop_drop, List.drop_eq_nil_of_le (by decide +kernel)]; exact fun _ h => by cases h)))
  rwa [List.drop_zero] at h
theorem e_X11_ice_0 : ((i_X11_ice.drop 0).take 60).all (p_dk prog_1_method_26_code) = true := by decide +kernel
theorem e_X11_ice : ∀ q ∈ i_X11_ice, decode prog_1_method_26_code q.1 = .ok q.2 ∧ (p_ln q.2.1 = 0 ∨ q.2.2 = p_ln q.2.1) := by
  have h := (show ∀ q ∈ i_X11_ice.drop 0, _ from p_cut 60 (p_dk_ok e_X11_ice_0) (by rw [List.drop_drop, List.drop_eq_nil_of_le (by decide +kernel)]; exact fun _ h => by cases h))
  rwa [List.drop_zero] at h
theorem e_X11_gone_0 : ((i_X11_gone.drop 0).take 60).all (p_dk prog_1_method_27_code) = true := by decide +kernel
theorem e_X11_gone : ∀ q ∈ i_X11_gone, decode prog_1_method_27_code q.1 = .ok q.2 ∧ (p_ln q.2.1 = 0 ∨ q.2.2 = p_ln q.2.1) := by
  have h := (show ∀ q ∈ i_X11_gone.drop 0, _ from p_cut 60 (p_dk_ok e_X11_gone_0) (by rw [List.drop_drop, List.drop_eq_nil_of_le (by decide +kernel)]; exact fun _ h => by cases h))
  rwa [List.drop_zero] at h
theorem e_X11_litter_0 : ((i_X11_litter.drop 0).take 60).all (p_dk prog_1_method_28_code) = true := by decide +kernel
theorem e_X11_litter : ∀ q ∈ i_X11_litter, decode prog_1_method_28_code q.1 = .ok q.2 ∧ (p_ln q.2.1 = 0 ∨ q.2.2 = p_ln q.2.1) := by
  have h := (show ∀ q ∈ i_X11_litter.drop 0, _ from p_cut 60 (p_dk_ok e_X11_litter_0) (by rw [List.drop_drop, List.drop_eq_nil_of_le (by decide +kernel)]; exact fun _ h => by cases h))
  rwa [List.drop_zero] at h
theorem e_X11_lasts_0 : ((i_X11_lasts.drop 0).take 60).all (p_dk prog_1_method_29_code) = true := by decide +kernel
theorem e_X11_lasts : ∀ q ∈ i_X11_lasts, decode prog_1_method_29_code q.1 = .ok q.2 ∧ (p_ln q.2.1 = 0 ∨ q.2.2 = p_ln q.2.1) := by
  have h := (show ∀ q ∈ i_X11_lasts.drop 0, _ from p_cut 60 (p_dk_ok e_X11_lasts_0) (by rw [List.drop_drop, List.drop_eq_nil_of_le (by decide +kernel)]; exact fun _ h => by cases h))
  rwa [List.drop_zero] at h
theorem e_X11_sellFirst_0 : ((i_X11_sellFirst.drop 0).take 60).all (p_dk prog_1_method_30_code) = true := by decide +kernel
theorem e_X11_sellFirst : ∀ q ∈ i_X11_sellFirst, decode prog_1_method_30_code q.1 = .ok q.2 ∧ (p_ln q.2.1 = 0 ∨ q.2.2 = p_ln q.2.1) := by
  have h := (show ∀ q ∈ i_X11_sellFirst.drop 0, _ from p_cut 60 (p_dk_ok e_X11_sellFirst_0) (by rw [List.drop_drop, List.drop_eq_nil_of_le (by decide +kernel)]; exact fun _ h => by cases h))
  rwa [List.drop_zero] at h
theorem e_X11_order_0 : ((i_X11_order.drop 0).take 60).all (p_dk prog_1_method_31_code) = true := by decide +kernel
theorem e_X11_order : ∀ q ∈ i_X11_order, decode prog_1_method_31_code q.1 = .ok q.2 ∧ (p_ln q.2.1 = 0 ∨ q.2.2 = p_ln q.2.1) := by
  have h := (show ∀ q ∈ i_X11_order.drop 0, _ from p_cut 60 (p_dk_ok e_X11_order_0) (by rw [List.drop_drop, List.drop_eq_nil_of_le (by decide +kernel)]; exact fun _ h => by cases h))
  rwa [List.drop_zero] at h
theorem e_X11_served_0 : ((i_X11_served.drop 0).take 60).all (p_dk prog_1_method_32_code) = true := by decide +kernel
theorem e_X11_served : ∀ q ∈ i_X11_served, decode prog_1_method_32_code q.1 = .ok q.2 ∧ (p_ln q.2.1 = 0 ∨ q.2.2 = p_ln q.2.1) := by
  have h := (show ∀ q ∈ i_X11_served.drop 0, _ from p_cut 60 (p_dk_ok e_X11_served_0) (by rw [List.drop_drop, List.drop_eq_nil_of_le (by decide +kernel)]; exact fun _ h => by cases h))
  rwa [List.drop_zero] at h
theorem e_X11_glass_0 : ((i_X11_glass.drop 0).take 60).all (p_dk prog_1_method_33_code) = true := by decide +kernel
theorem e_X11_glass : ∀ q ∈ i_X11_glass, decode prog_1_method_33_code q.1 = .ok q.2 ∧ (p_ln q.2.1 = 0 ∨ q.2.2 = p_ln q.2.1) := by
  have h := (show ∀ q ∈ i_X11_glass.drop 0, _ from p_cut 60 (p_dk_ok e_X11_glass_0) (by rw [List.drop_drop, List.drop_eq_nil_of_le (by decide +kernel)]; exact fun _ h => by cases h))
  rwa [List.drop_zero] at h
theorem e_X11_layers_0 : ((i_X11_layers.drop 0).take 60).all (p_dk prog_1_method_34_code) = true := by decide +kernel
theorem e_X11_layers : ∀ q ∈ i_X11_layers, decode prog_1_method_34_code q.1 = .ok q.2 ∧ (p_ln q.2.1 = 0 ∨ q.2.2 = p_ln q.2.1) := by
  have h := (show ∀ q ∈ i_X11_layers.drop 0, _ from p_cut 60 (p_dk_ok e_X11_layers_0) (by rw [List.drop_drop, List.drop_eq_nil_of_le (by decide +kernel)]; exact fun _ h => by cases h))
  rwa [List.drop_zero] at h
theorem e_X11_bid_0 : ((i_X11_bid.drop 0).take 60).all (p_dk prog_1_method_35_code) = true := by decide +kernel
theorem e_X11_bid : ∀ q ∈ i_X11_bid, decode prog_1_method_35_code q.1 = .ok q.2 ∧ (p_ln q.2.1 = 0 ∨ q.2.2 = p_ln q.2.1) := by
  have h := (show ∀ q ∈ i_X11_bid.drop 0, _ from p_cut 60 (p_dk_ok e_X11_bid_0) (by rw [List.drop_drop, List.drop_eq_nil_of_le (by decide +kernel)]; exact fun _ h => by cases h))
  rwa [List.drop_zero] at h

/-! The instructions are those of the bytes -/
theorem p_cut {α : Type} {P : α → Prop} {l : List α} (n : Nat) (h1 : ∀ q ∈ l.take n, P q) (h2 : ∀ q ∈ l.drop n, P q) : ∀ q ∈ l, P q := by
  intro q hq
  rw [← List.take_append_drop n l] at hq
  exact (List.mem_append.mp hq).elim (h1 q) (h2 q)
def p_dk (c : ByteArray) (q : p_I) : Bool := decide (decode c q.1 = .ok q.2) && (Nat.beq (p_ln q.2.1) 0 || Nat.beq q.2.2 (p_ln q.2.1))
theorem p_dk_ok {c : ByteArray} {l : List p_I} (h : l.all (p_dk c) = true) : ∀ q ∈ l, decode c q.1 = .ok q.2 ∧ (p_ln q.2.1 = 0 ∨ q.2.2 = p_ln q.2.1) := by
  intro q hq
  have h1 := List.all_eq_true.mp h q hq
  simp only [p_dk, Bool.and_eq_true, Bool.or_eq_true, decide_eq_true_eq] at h1
  exact ⟨h1.1, h1.2.imp Nat.eq_of_beq_eq_true Nat.eq_of_beq_eq_true⟩
theorem e_X0_init_0 : ((i_X0_init.drop 0).take 60).all (p_dk prog_2_method_1_code) = true := by decide +kernel
theorem e_X0_init : ∀ q ∈ i_X0_init, decode prog_2_method_1_code q.1 = .ok q.2 ∧ (p_ln q.2.1 = 0 ∨ q.2.2 = p_ln q.2.1) := by
  have h := (show ∀ q ∈ i_X0_init.drop 0, _ from p_cut 60 (p_dk_ok e_X0_init_0) (by rw [List.drop_drop, List.drop_eq_nil_of_le (by decide +kernel)]; exact fun _ h => by cases h))
  rwa [List.drop_zero] at h
theorem e_X0_start_0 : ((i_X0_start.drop 0).take 60).all (p_dk prog_2_method_2_code) = true := by decide +kernel
theorem e_X0_start : ∀ q ∈ i_X0_start, decode prog_2_method_2_code q.1 = .ok q.2 ∧ (p_ln q.2.1 = 0 ∨ q.2.2 = p_ln q.2.1) := by
  have h := (show ∀ q ∈ i_X0_start.drop 0, _ from p_cut 60 (p_dk_ok e_X0_start_0) (by rw [List.drop_drop, List.drop_eq_nil_of_le (by decide +kernel)]; exact fun _ h => by cases h))
  rwa [List.drop_zero] at h
theorem e_X0_run_0 : ((i_X0_run.drop 0).take 60).all (p_dk prog_2_method_3_code) = true := by decide +kernel
theorem e_X0_run : ∀ q ∈ i_X0_run, decode prog_2_method_3_code q.1 = .ok q.2 ∧ (p_ln q.2.1 = 0 ∨ q.2.2 = p_ln q.2.1) := by
  have h := (show ∀ q ∈ i_X0_run.drop 0, _ from p_cut 60 (p_dk_ok e_X0_run_0) (by rw [List.drop_drop, List.drop_eq_nil_of_le (by decide +kernel)]; exact fun _ h => by cases h))
  rwa [List.drop_zero] at h
theorem e_X0_meltedFrom_0 : ((i_X0_meltedFrom.drop 0).take 60).all (p_dk prog_2_method_4_code) = true := by decide +kernel
theorem e_X0_meltedFrom : ∀ q ∈ i_X0_meltedFrom, decode prog_2_method_4_code q.1 = .ok q.2 ∧ (p_ln q.2.1 = 0 ∨ q.2.2 = p_ln q.2.1) := by
  have h := (show ∀ q ∈ i_X0_meltedFrom.drop 0, _ from p_cut 60 (p_dk_ok e_X0_meltedFrom_0) (by rw [List.drop_drop, List.drop_eq_nil_of_le (by decide +kernel)]; exact fun _ h => by cases h))
  rwa [List.drop_zero] at h
theorem e_X0_strawFrom_0 : ((i_X0_strawFrom.drop 0).take 60).all (p_dk prog_2_method_5_code) = true := by decide +kernel
theorem e_X0_strawFrom : ∀ q ∈ i_X0_strawFrom, decode prog_2_method_5_code q.1 = .ok q.2 ∧ (p_ln q.2.1 = 0 ∨ q.2.2 = p_ln q.2.1) := by
  have h := (show ∀ q ∈ i_X0_strawFrom.drop 0, _ from p_cut 60 (p_dk_ok e_X0_strawFrom_0) (by rw [List.drop_drop, List.drop_eq_nil_of_le (by decide +kernel)]; exact fun _ h => by cases h))
  rwa [List.drop_zero] at h
theorem e_X0_meltsAt_0 : ((i_X0_meltsAt.drop 0).take 60).all (p_dk prog_2_method_6_code) = true := by decide +kernel
theorem e_X0_meltsAt : ∀ q ∈ i_X0_meltsAt, decode prog_2_method_6_code q.1 = .ok q.2 ∧ (p_ln q.2.1 = 0 ∨ q.2.2 = p_ln q.2.1) := by
  have h := (show ∀ q ∈ i_X0_meltsAt.drop 0, _ from p_cut 60 (p_dk_ok e_X0_meltsAt_0) (by rw [List.drop_drop, List.drop_eq_nil_of_le (by decide +kernel)]; exact fun _ h => by cases h))
  rwa [List.drop_zero] at h
theorem e_X0_meltsUnder_0 : ((i_X0_meltsUnder.drop 0).take 60).all (p_dk prog_2_method_7_code) = true := by decide +kernel
theorem e_X0_meltsUnder : ∀ q ∈ i_X0_meltsUnder, decode prog_2_method_7_code q.1 = .ok q.2 ∧ (p_ln q.2.1 = 0 ∨ q.2.2 = p_ln q.2.1) := by
  have h := (show ∀ q ∈ i_X0_meltsUnder.drop 0, _ from p_cut 60 (p_dk_ok e_X0_meltsUnder_0) (by rw [List.drop_drop, List.drop_eq_nil_of_le (by decide +kernel)]; exact fun _ h => by cases h))
  rwa [List.drop_zero] at h
theorem e_X0_sellsAt_0 : ((i_X0_sellsAt.drop 0).take 60).all (p_dk prog_2_method_8_code) = true := by decide +kernel
theorem e_X0_sellsAt : ∀ q ∈ i_X0_sellsAt, decode prog_2_method_8_code q.1 = .ok q.2 ∧ (p_ln q.2.1 = 0 ∨ q.2.2 = p_ln q.2.1) := by
  have h := (show ∀ q ∈ i_X0_sellsAt.drop 0, _ from p_cut 60 (p_dk_ok e_X0_sellsAt_0) (by rw [List.drop_drop, List.drop_eq_nil_of_le (by decide +kernel)]; exact fun _ h => by cases h))
  rwa [List.drop_zero] at h
theorem e_X0_penceBehind_0 : ((i_X0_penceBehind.drop 0).take 60).all (p_dk prog_2_method_9_code) = true := by decide +kernel
theorem e_X0_penceBehind : ∀ q ∈ i_X0_penceBehind, decode prog_2_method_9_code q.1 = .ok q.2 ∧ (p_ln q.2.1 = 0 ∨ q.2.2 = p_ln q.2.1) := by
  have h := (show ∀ q ∈ i_X0_penceBehind.drop 0, _ from p_cut 60 (p_dk_ok e_X0_penceBehind_0) (by rw [List.drop_drop, List.drop_eq_nil_of_le (by decide +kernel)]; exact fun _ h => by cases h))
  rwa [List.drop_zero] at h
theorem e_X0_daysUntilAbove_0 : ((i_X0_daysUntilAbove.drop 0).take 60).all (p_dk prog_2_method_10_code) = true := by decide +kernel
theorem e_X0_daysUntilAbove : ∀ q ∈ i_X0_daysUntilAbove, decode prog_2_method_10_code q.1 = .ok q.2 ∧ (p_ln q.2.1 = 0 ∨ q.2.2 = p_ln q.2.1) := by
  have h := (show ∀ q ∈ i_X0_daysUntilAbove.drop 0, _ from p_cut 60 (p_dk_ok e_X0_daysUntilAbove_0) (by rw [List.drop_drop, List.drop_eq_nil_of_le (by decide +kernel)]; exact fun _ h => by cases h))
  rwa [List.drop_zero] at h
theorem e_X1_init_0 : ((i_X1_init.drop 0).take 60).all (p_dk prog_3_method_1_code) = true := by decide +kernel
theorem e_X1_init : ∀ q ∈ i_X1_init, decode prog_3_method_1_code q.1 = .ok q.2 ∧ (p_ln q.2.1 = 0 ∨ q.2.2 = p_ln q.2.1) := by
  have h := (show ∀ q ∈ i_X1_init.drop 0, _ from p_cut 60 (p_dk_ok e_X1_init_0) (by rw [List.drop_drop, List.drop_eq_nil_of_le (by decide +kernel)]; exact fun _ h => by cases h))
  rwa [List.drop_zero] at h
theorem e_X1_tellBlock_0 : ((i_X1_tellBlock.drop 0).take 60).all (p_dk prog_3_method_2_code) = true := by decide +kernel
theorem e_X1_tellBlock : ∀ q ∈ i_X1_tellBlock, decode prog_3_method_2_code q.1 = .ok q.2 ∧ (p_ln q.2.1 = 0 ∨ q.2.2 = p_ln q.2.1) := by
  have h := (show ∀ q ∈ i_X1_tellBlock.drop 0, _ from p_cut 60 (p_dk_ok e_X1_tellBlock_0) (by rw [List.drop_drop, List.drop_eq_nil_of_le (by decide +kernel)]; exact fun _ h => by cases h))
  rwa [List.drop_zero] at h
theorem e_X1_tellSights_0 : ((i_X1_tellSights.drop 0).take 60).all (p_dk prog_3_method_3_code) = true := by decide +kernel
theorem e_X1_tellSights : ∀ q ∈ i_X1_tellSights, decode prog_3_method_3_code q.1 = .ok q.2 ∧ (p_ln q.2.1 = 0 ∨ q.2.2 = p_ln q.2.1) := by
  have h := (show ∀ q ∈ i_X1_tellSights.drop 0, _ from p_cut 60 (p_dk_ok e_X1_tellSights_0) (by rw [List.drop_drop, List.drop_eq_nil_of_le (by decide +kernel)]; exact fun _ h => by cases h))
  rwa [List.drop_zero] at h
theorem e_X1_tellDay_0 : ((i_X1_tellDay.drop 0).take 60).all (p_dk prog_3_method_4_code) = true := by decide +kernel
theorem e_X1_tellDay : ∀ q ∈ i_X1_tellDay, decode prog_3_method_4_code q.1 = .ok q.2 ∧ (p_ln q.2.1 = 0 ∨ q.2.2 = p_ln q.2.1) := by
  have h := (show ∀ q ∈ i_X1_tellDay.drop 0, _ from p_cut 60 (p_dk_ok e_X1_tellDay_0) (by rw [List.drop_drop, List.drop_eq_nil_of_le (by decide +kernel)]; exact fun _ h => by cases h))
  rwa [List.drop_zero] at h
theorem e_X1_melts_0 : ((i_X1_melts.drop 0).take 60).all (p_dk prog_3_method_5_code) = true := by decide +kernel
theorem e_X1_melts : ∀ q ∈ i_X1_melts, decode prog_3_method_5_code q.1 = .ok q.2 ∧ (p_ln q.2.1 = 0 ∨ q.2.2 = p_ln q.2.1) := by
  have h := (show ∀ q ∈ i_X1_melts.drop 0, _ from p_cut 60 (p_dk_ok e_X1_melts_0) (by rw [List.drop_drop, List.drop_eq_nil_of_le (by decide +kernel)]; exact fun _ h => by cases h))
  rwa [List.drop_zero] at h
theorem e_X1_sells_0 : ((i_X1_sells.drop 0).take 60).all (p_dk prog_3_method_6_code) = true := by decide +kernel
theorem e_X1_sells : ∀ q ∈ i_X1_sells, decode prog_3_method_6_code q.1 = .ok q.2 ∧ (p_ln q.2.1 = 0 ∨ q.2.2 = p_ln q.2.1) := by
  have h := (show ∀ q ∈ i_X1_sells.drop 0, _ from p_cut 60 (p_dk_ok e_X1_sells_0) (by rw [List.drop_drop, List.drop_eq_nil_of_le (by decide +kernel)]; exact fun _ h => by cases h))
  rwa [List.drop_zero] at h
theorem e_X1_rots_0 : ((i_X1_rots.drop 0).take 60).all (p_dk prog_3_method_7_code) = true := by decide +kernel
theorem e_X1_rots : ∀ q ∈ i_X1_rots, decode prog_3_method_7_code q.1 = .ok q.2 ∧ (p_ln q.2.1 = 0 ∨ q.2.2 = p_ln q.2.1) := by
  have h := (show ∀ q ∈ i_X1_rots.drop 0, _ from p_cut 60 (p_dk_ok e_X1_rots_0) (by rw [List.drop_drop, List.drop_eq_nil_of_le (by decide +kernel)]; exact fun _ h => by cases h))
  rwa [List.drop_zero] at h
theorem e_X1_reckon_0 : ((i_X1_reckon.drop 0).take 60).all (p_dk prog_3_method_8_code) = true := by decide +kernel
theorem e_X1_reckon_1 : ((i_X1_reckon.drop 60).take 60).all (p_dk prog_3_method_8_code) = true := by decide +kernel
theorem e_X1_reckon_2 : ((i_X1_reckon.drop 120).take 60).all (p_dk prog_3_method_8_code) = true := by decide +kernel
theorem e_X1_reckon_3 : ((i_X1_reckon.drop 180).take 60).all (p_dk prog_3_method_8_code) = true := by decide +kernel
theorem e_X1_reckon : ∀ q ∈ i_X1_reckon, decode prog_3_method_8_code q.1 = .ok q.2 ∧ (p_ln q.2.1 = 0 ∨ q.2.2 = p_ln q.2.1) := by
  have h := (show ∀ q ∈ i_X1_reckon.drop 0, _ from p_cut 60 (p_dk_ok e_X1_reckon_0) (by rw [List.drop_drop]; exact p_cut 60 (p_dk_ok e_X1_reckon_1) (by rw [List.drop_drop]; exact p_cut 60 (p_dk_ok e_X1_reckon_2) (by rw [List.drop_drop]; exact p_cut 60 (p_dk_ok e_X1_reckon_3) (by rw [List.drop_drop, List.drop_eq_nil_of_le (by decide +kernel)]; exact fun _ h => by cases h)))))
  rwa [List.drop_zero] at h
theorem e_X2_init_0 : ((i_X2_init.drop 0).take 60).all (p_dk prog_4_method_1_code) = true := by decide +kernel
theorem e_X2_init : ∀ q ∈ i_X2_init, decode prog_4_method_1_code q.1 = .ok q.2 ∧ (p_ln q.2.1 = 0 ∨ q.2.2 = p_ln q.2.1) := by
  have h := (show ∀ q ∈ i_X2_init.drop 0, _ from p_cut 60 (p_dk_ok e_X2_init_0) (by rw [List.drop_drop, List.drop_eq_nil_of_le (by decide +kernel)]; exact fun _ h => by cases h))
  rwa [List.drop_zero] at h
theorem e_X2_ofAll_0 : ((i_X2_ofAll.drop 0).take 60).all (p_dk prog_4_method_2_code) = true := by decide +kernel
theorem e_X2_ofAll : ∀ q ∈ i_X2_ofAll, decode prog_4_method_2_code q.1 = .ok q.2 ∧ (p_ln q.2.1 = 0 ∨ q.2.2 = p_ln q.2.1) := by
  have h := (show ∀ q ∈ i_X2_ofAll.drop 0, _ from p_cut 60 (p_dk_ok e_X2_ofAll_0) (by rw [List.drop_drop, List.drop_eq_nil_of_le (by decide +kernel)]; exact fun _ h => by cases h))
  rwa [List.drop_zero] at h
theorem e_X2_lasting_0 : ((i_X2_lasting.drop 0).take 60).all (p_dk prog_4_method_3_code) = true := by decide +kernel
theorem e_X2_lasting_1 : ((i_X2_lasting.drop 60).take 60).all (p_dk prog_4_method_3_code) = true := by decide +kernel
theorem e_X2_lasting : ∀ q ∈ i_X2_lasting, decode prog_4_method_3_code q.1 = .ok q.2 ∧ (p_ln q.2.1 = 0 ∨ q.2.2 = p_ln q.2.1) := by
  have h := (show ∀ q ∈ i_X2_lasting.drop 0, _ from p_cut 60 (p_dk_ok e_X2_lasting_0) (by rw [List.drop_drop]; exact p_cut 60 (p_dk_ok e_X2_lasting_1) (by rw [List.drop_drop, List.drop_eq_nil_of_le (by decide +kernel)]; exact fun _ h => by cases h)))
  rwa [List.drop_zero] at h
theorem e_X2_leftOver_0 : ((i_X2_leftOver.drop 0).take 60).all (p_dk prog_4_method_4_code) = true := by decide +kernel
theorem e_X2_leftOver : ∀ q ∈ i_X2_leftOver, decode prog_4_method_4_code q.1 = .ok q.2 ∧ (p_ln q.2.1 = 0 ∨ q.2.2 = p_ln q.2.1) := by
  have h := (show ∀ q ∈ i_X2_leftOver.drop 0, _ from p_cut 60 (p_dk_ok e_X2_leftOver_0) (by rw [List.drop_drop, List.drop_eq_nil_of_le (by decide +kernel)]; exact fun _ h => by cases h))
  rwa [List.drop_zero] at h
theorem e_X2_spread_0 : ((i_X2_spread.drop 0).take 60).all (p_dk prog_4_method_5_code) = true := by decide +kernel
theorem e_X2_spread_1 : ((i_X2_spread.drop 60).take 60).all (p_dk prog_4_method_5_code) = true := by decide +kernel
theorem e_X2_spread : ∀ q ∈ i_X2_spread, decode prog_4_method_5_code q.1 = .ok q.2 ∧ (p_ln q.2.1 = 0 ∨ q.2.2 = p_ln q.2.1) := by
  have h := (show ∀ q ∈ i_X2_spread.drop 0, _ from p_cut 60 (p_dk_ok e_X2_spread_0) (by rw [List.drop_drop]; exact p_cut 60 (p_dk_ok e_X2_spread_1) (by rw [List.drop_drop, List.drop_eq_nil_of_le (by decide +kernel)]; exact fun _ h => by cases h)))
  rwa [List.drop_zero] at h
theorem e_X2_behind_0 : ((i_X2_behind.drop 0).take 60).all (p_dk prog_4_method_6_code) = true := by decide +kernel
theorem e_X2_behind : ∀ q ∈ i_X2_behind, decode prog_4_method_6_code q.1 = .ok q.2 ∧ (p_ln q.2.1 = 0 ∨ q.2.2 = p_ln q.2.1) := by
  have h := (show ∀ q ∈ i_X2_behind.drop 0, _ from p_cut 60 (p_dk_ok e_X2_behind_0) (by rw [List.drop_drop, List.drop_eq_nil_of_le (by decide +kernel)]; exact fun _ h => by cases h))
  rwa [List.drop_zero] at h
theorem e_X2_gather_0 : ((i_X2_gather.drop 0).take 60).all (p_dk prog_4_method_7_code) = true := by decide +kernel
theorem e_X2_gather : ∀ q ∈ i_X2_gather, decode prog_4_method_7_code q.1 = .ok q.2 ∧ (p_ln q.2.1 = 0 ∨ q.2.2 = p_ln q.2.1) := by
  have h := (show ∀ q ∈ i_X2_gather.drop 0, _ from p_cut 60 (p_dk_ok e_X2_gather_0) (by rw [List.drop_drop, List.drop_eq_nil_of_le (by decide +kernel)]; exact fun _ h => by cases h))
  rwa [List.drop_zero] at h
theorem e_X3_init_0 : ((i_X3_init.drop 0).take 60).all (p_dk prog_5_method_1_code) = true := by decide +kernel
theorem e_X3_init : ∀ q ∈ i_X3_init, decode prog_5_method_1_code q.1 = .ok q.2 ∧ (p_ln q.2.1 = 0 ∨ q.2.2 = p_ln q.2.1) := by
  have h := (show ∀ q ∈ i_X3_init.drop 0, _ from p_cut 60 (p_dk_ok e_X3_init_0) (by rw [List.drop_drop, List.drop_eq_nil_of_le (by decide +kernel)]; exact fun _ h => by cases h))
  rwa [List.drop_zero] at h
theorem e_X3_hasRoom_0 : ((i_X3_hasRoom.drop 0).take 60).all (p_dk prog_5_method_2_code) = true := by decide +kernel
theorem e_X3_hasRoom : ∀ q ∈ i_X3_hasRoom, decode prog_5_method_2_code q.1 = .ok q.2 ∧ (p_ln q.2.1 = 0 ∨ q.2.2 = p_ln q.2.1) := by
  have h := (show ∀ q ∈ i_X3_hasRoom.drop 0, _ from p_cut 60 (p_dk_ok e_X3_hasRoom_0) (by rw [List.drop_drop, List.drop_eq_nil_of_le (by decide +kernel)]; exact fun _ h => by cases h))
  rwa [List.drop_zero] at h
theorem e_X3_append_0 : ((i_X3_append.drop 0).take 60).all (p_dk prog_5_method_3_code) = true := by decide +kernel
theorem e_X3_append : ∀ q ∈ i_X3_append, decode prog_5_method_3_code q.1 = .ok q.2 ∧ (p_ln q.2.1 = 0 ∨ q.2.2 = p_ln q.2.1) := by
  have h := (show ∀ q ∈ i_X3_append.drop 0, _ from p_cut 60 (p_dk_ok e_X3_append_0) (by rw [List.drop_drop, List.drop_eq_nil_of_le (by decide +kernel)]; exact fun _ h => by cases h))
  rwa [List.drop_zero] at h
theorem e_X3_read_0 : ((i_X3_read.drop 0).take 60).all (p_dk prog_5_method_4_code) = true := by decide +kernel
theorem e_X3_read_1 : ((i_X3_read.drop 60).take 60).all (p_dk prog_5_method_4_code) = true := by decide +kernel
theorem e_X3_read : ∀ q ∈ i_X3_read, decode prog_5_method_4_code q.1 = .ok q.2 ∧ (p_ln q.2.1 = 0 ∨ q.2.2 = p_ln q.2.1) := by
  have h := (show ∀ q ∈ i_X3_read.drop 0, _ from p_cut 60 (p_dk_ok e_X3_read_0) (by rw [List.drop_drop]; exact p_cut 60 (p_dk_ok e_X3_read_1) (by rw [List.drop_drop, List.drop_eq_nil_of_le (by decide +kernel)]; exact fun _ h => by cases h)))
  rwa [List.drop_zero] at h
theorem e_X3_byteAt_0 : ((i_X3_byteAt.drop 0).take 60).all (p_dk prog_5_method_5_code) = true := by decide +kernel
theorem e_X3_byteAt : ∀ q ∈ i_X3_byteAt, decode prog_5_method_5_code q.1 = .ok q.2 ∧ (p_ln q.2.1 = 0 ∨ q.2.2 = p_ln q.2.1) := by
  have h := (show ∀ q ∈ i_X3_byteAt.drop 0, _ from p_cut 60 (p_dk_ok e_X3_byteAt_0) (by rw [List.drop_drop, List.drop_eq_nil_of_le (by decide +kernel)]; exact fun _ h => by cases h))
  rwa [List.drop_zero] at h
theorem e_X3_sortOf_0 : ((i_X3_sortOf.drop 0).take 60).all (p_dk prog_5_method_6_code) = true := by decide +kernel
theorem e_X3_sortOf : ∀ q ∈ i_X3_sortOf, decode prog_5_method_6_code q.1 = .ok q.2 ∧ (p_ln q.2.1 = 0 ∨ q.2.2 = p_ln q.2.1) := by
  have h := (show ∀ q ∈ i_X3_sortOf.drop 0, _ from p_cut 60 (p_dk_ok e_X3_sortOf_0) (by rw [List.drop_drop, List.drop_eq_nil_of_le (by decide +kernel)]; exact fun _ h => by cases h))
  rwa [List.drop_zero] at h
theorem e_X3_wordOf_0 : ((i_X3_wordOf.drop 0).take 60).all (p_dk prog_5_method_7_code) = true := by decide +kernel
theorem e_X3_wordOf : ∀ q ∈ i_X3_wordOf, decode prog_5_method_7_code q.1 = .ok q.2 ∧ (p_ln q.2.1 = 0 ∨ q.2.2 = p_ln q.2.1) := by
  have h := (show ∀ q ∈ i_X3_wordOf.drop 0, _ from p_cut 60 (p_dk_ok e_X3_wordOf_0) (by rw [List.drop_drop, List.drop_eq_nil_of_le (by decide +kernel)]; exact fun _ h => by cases h))
  rwa [List.drop_zero] at h
theorem e_X3_step_0 : ((i_X3_step.drop 0).take 60).all (p_dk prog_5_method_8_code) = true := by decide +kernel
theorem e_X3_step_1 : ((i_X3_step.drop 60).take 60).all (p_dk prog_5_method_8_code) = true := by decide +kernel
theorem e_X3_step : ∀ q ∈ i_X3_step, decode prog_5_method_8_code q.1 = .ok q.2 ∧ (p_ln q.2.1 = 0 ∨ q.2.2 = p_ln q.2.1) := by
  have h := (show ∀ q ∈ i_X3_step.drop 0, _ from p_cut 60 (p_dk_ok e_X3_step_0) (by rw [List.drop_drop]; exact p_cut 60 (p_dk_ok e_X3_step_1) (by rw [List.drop_drop, List.drop_eq_nil_of_le (by decide +kernel)]; exact fun _ h => by cases h)))
  rwa [List.drop_zero] at h
theorem e_X3_wrong_0 : ((i_X3_wrong.drop 0).take 60).all (p_dk prog_5_method_9_code) = true := by decide +kernel
theorem e_X3_wrong : ∀ q ∈ i_X3_wrong, decode prog_5_method_9_code q.1 = .ok q.2 ∧ (p_ln q.2.1 = 0 ∨ q.2.2 = p_ln q.2.1) := by
  have h := (show ∀ q ∈ i_X3_wrong.drop 0, _ from p_cut 60 (p_dk_ok e_X3_wrong_0) (by rw [List.drop_drop, List.drop_eq_nil_of_le (by decide +kernel)]; exact fun _ h => by cases h))
  rwa [List.drop_zero] at h
theorem e_X3_isSign_0 : ((i_X3_isSign.drop 0).take 60).all (p_dk prog_5_method_10_code) = true := by decide +kernel
theorem e_X3_isSign : ∀ q ∈ i_X3_isSign, decode prog_5_method_10_code q.1 = .ok q.2 ∧ (p_ln q.2.1 = 0 ∨ q.2.2 = p_ln q.2.1) := by
  have h := (show ∀ q ∈ i_X3_isSign.drop 0, _ from p_cut 60 (p_dk_ok e_X3_isSign_0) (by rw [List.drop_drop, List.drop_eq_nil_of_le (by decide +kernel)]; exact fun _ h => by cases h))
  rwa [List.drop_zero] at h
theorem e_X3_isWord_0 : ((i_X3_isWord.drop 0).take 60).all (p_dk prog_5_method_11_code) = true := by decide +kernel
theorem e_X3_isWord : ∀ q ∈ i_X3_isWord, decode prog_5_method_11_code q.1 = .ok q.2 ∧ (p_ln q.2.1 = 0 ∨ q.2.2 = p_ln q.2.1) := by
  have h := (show ∀ q ∈ i_X3_isWord.drop 0, _ from p_cut 60 (p_dk_ok e_X3_isWord_0) (by rw [List.drop_drop, List.drop_eq_nil_of_le (by decide +kernel)]; exact fun _ h => by cases h))
  rwa [List.drop_zero] at h
theorem e_X3_takeSign_0 : ((i_X3_takeSign.drop 0).take 60).all (p_dk prog_5_method_12_code) = true := by decide +kernel
theorem e_X3_takeSign : ∀ q ∈ i_X3_takeSign, decode prog_5_method_12_code q.1 = .ok q.2 ∧ (p_ln q.2.1 = 0 ∨ q.2.2 = p_ln q.2.1) := by
  have h := (show ∀ q ∈ i_X3_takeSign.drop 0, _ from p_cut 60 (p_dk_ok e_X3_takeSign_0) (by rw [List.drop_drop, List.drop_eq_nil_of_le (by decide +kernel)]; exact fun _ h => by cases h))
  rwa [List.drop_zero] at h
theorem e_X3_takeWord_0 : ((i_X3_takeWord.drop 0).take 60).all (p_dk prog_5_method_13_code) = true := by decide +kernel
theorem e_X3_takeWord : ∀ q ∈ i_X3_takeWord, decode prog_5_method_13_code q.1 = .ok q.2 ∧ (p_ln q.2.1 = 0 ∨ q.2.2 = p_ln q.2.1) := by
  have h := (show ∀ q ∈ i_X3_takeWord.drop 0, _ from p_cut 60 (p_dk_ok e_X3_takeWord_0) (by rw [List.drop_drop, List.drop_eq_nil_of_le (by decide +kernel)]; exact fun _ h => by cases h))
  rwa [List.drop_zero] at h
theorem e_X3_takeNumber_0 : ((i_X3_takeNumber.drop 0).take 60).all (p_dk prog_5_method_14_code) = true := by decide +kernel
theorem e_X3_takeNumber : ∀ q ∈ i_X3_takeNumber, decode prog_5_method_14_code q.1 = .ok q.2 ∧ (p_ln q.2.1 = 0 ∨ q.2.2 = p_ln q.2.1) := by
  have h := (show ∀ q ∈ i_X3_takeNumber.drop 0, _ from p_cut 60 (p_dk_ok e_X3_takeNumber_0) (by rw [List.drop_drop, List.drop_eq_nil_of_le (by decide +kernel)]; exact fun _ h => by cases h))
  rwa [List.drop_zero] at h
theorem e_X3_addPart_0 : ((i_X3_addPart.drop 0).take 60).all (p_dk prog_5_method_15_code) = true := by decide +kernel
theorem e_X3_addPart : ∀ q ∈ i_X3_addPart, decode prog_5_method_15_code q.1 = .ok q.2 ∧ (p_ln q.2.1 = 0 ∨ q.2.2 = p_ln q.2.1) := by
  have h := (show ∀ q ∈ i_X3_addPart.drop 0, _ from p_cut 60 (p_dk_ok e_X3_addPart_0) (by rw [List.drop_drop, List.drop_eq_nil_of_le (by decide +kernel)]; exact fun _ h => by cases h))
  rwa [List.drop_zero] at h
theorem e_X3_readClause_0 : ((i_X3_readClause.drop 0).take 60).all (p_dk prog_5_method_16_code) = true := by decide +kernel
theorem e_X3_readClause_1 : ((i_X3_readClause.drop 60).take 60).all (p_dk prog_5_method_16_code) = true := by decide +kernel
theorem e_X3_readClause : ∀ q ∈ i_X3_readClause, decode prog_5_method_16_code q.1 = .ok q.2 ∧ (p_ln q.2.1 = 0 ∨ q.2.2 = p_ln q.2.1) := by
  have h := (show ∀ q ∈ i_X3_readClause.drop 0, _ from p_cut 60 (p_dk_ok e_X3_readClause_0) (by rw [List.drop_drop]; exact p_cut 60 (p_dk_ok e_X3_readClause_1) (by rw [List.drop_drop, List.drop_eq_nil_of_le (by decide +kernel)]; exact fun _ h => by cases h)))
  rwa [List.drop_zero] at h
theorem e_X3_readDeed_0 : ((i_X3_readDeed.drop 0).take 60).all (p_dk prog_5_method_17_code) = true := by decide +kernel
theorem e_X3_readDeed_1 : ((i_X3_readDeed.drop 60).take 60).all (p_dk prog_5_method_17_code) = true := by decide +kernel
theorem e_X3_readDeed : ∀ q ∈ i_X3_readDeed, decode prog_5_method_17_code q.1 = .ok q.2 ∧ (p_ln q.2.1 = 0 ∨ q.2.2 = p_ln q.2.1) := by
  have h := (show ∀ q ∈ i_X3_readDeed.drop 0, _ from p_cut 60 (p_dk_ok e_X3_readDeed_0) (by rw [List.drop_drop]; exact p_cut 60 (p_dk_ok e_X3_readDeed_1) (by rw [List.drop_drop, List.drop_eq_nil_of_le (by decide +kernel)]; exact fun _ h => by cases h)))
  rwa [List.drop_zero] at h
theorem e_X3_readLaw_0 : ((i_X3_readLaw.drop 0).take 60).all (p_dk prog_5_method_18_code) = true := by decide +kernel
theorem e_X3_readLaw : ∀ q ∈ i_X3_readLaw, decode prog_5_method_18_code q.1 = .ok q.2 ∧ (p_ln q.2.1 = 0 ∨ q.2.2 = p_ln q.2.1) := by
  have h := (show ∀ q ∈ i_X3_readLaw.drop 0, _ from p_cut 60 (p_dk_ok e_X3_readLaw_0) (by rw [List.drop_drop, List.drop_eq_nil_of_le (by decide +kernel)]; exact fun _ h => by cases h))
  rwa [List.drop_zero] at h
theorem e_X3_make_0 : ((i_X3_make.drop 0).take 60).all (p_dk prog_5_method_19_code) = true := by decide +kernel
theorem e_X3_make : ∀ q ∈ i_X3_make, decode prog_5_method_19_code q.1 = .ok q.2 ∧ (p_ln q.2.1 = 0 ∨ q.2.2 = p_ln q.2.1) := by
  have h := (show ∀ q ∈ i_X3_make.drop 0, _ from p_cut 60 (p_dk_ok e_X3_make_0) (by rw [List.drop_drop, List.drop_eq_nil_of_le (by decide +kernel)]; exact fun _ h => by cases h))
  rwa [List.drop_zero] at h
theorem e_X3_lead_0 : ((i_X3_lead.drop 0).take 60).all (p_dk prog_5_method_20_code) = true := by decide +kernel
theorem e_X3_lead : ∀ q ∈ i_X3_lead, decode prog_5_method_20_code q.1 = .ok q.2 ∧ (p_ln q.2.1 = 0 ∨ q.2.2 = p_ln q.2.1) := by
  have h := (show ∀ q ∈ i_X3_lead.drop 0, _ from p_cut 60 (p_dk_ok e_X3_lead_0) (by rw [List.drop_drop, List.drop_eq_nil_of_le (by decide +kernel)]; exact fun _ h => by cases h))
  rwa [List.drop_zero] at h
theorem e_X3_readSum_0 : ((i_X3_readSum.drop 0).take 60).all (p_dk prog_5_method_21_code) = true := by decide +kernel
theorem e_X3_readSum : ∀ q ∈ i_X3_readSum, decode prog_5_method_21_code q.1 = .ok q.2 ∧ (p_ln q.2.1 = 0 ∨ q.2.2 = p_ln q.2.1) := by
  have h := (show ∀ q ∈ i_X3_readSum.drop 0, _ from p_cut 60 (p_dk_ok e_X3_readSum_0) (by rw [List.drop_drop, List.drop_eq_nil_of_le (by decide +kernel)]; exact fun _ h => by cases h))
  rwa [List.drop_zero] at h
theorem e_X3_readProduct_0 : ((i_X3_readProduct.drop 0).take 60).all (p_dk prog_5_method_22_code) = true := by decide +kernel
theorem e_X3_readProduct : ∀ q ∈ i_X3_readProduct, decode prog_5_method_22_code q.1 = .ok q.2 ∧ (p_ln q.2.1 = 0 ∨ q.2.2 = p_ln q.2.1) := by
  have h := (show ∀ q ∈ i_X3_readProduct.drop 0, _ from p_cut 60 (p_dk_ok e_X3_readProduct_0) (by rw [List.drop_drop, List.drop_eq_nil_of_le (by decide +kernel)]; exact fun _ h => by cases h))
  rwa [List.drop_zero] at h
theorem e_X3_readOne_0 : ((i_X3_readOne.drop 0).take 60).all (p_dk prog_5_method_23_code) = true := by decide +kernel
theorem e_X3_readOne_1 : ((i_X3_readOne.drop 60).take 60).all (p_dk prog_5_method_23_code) = true := by decide +kernel
theorem e_X3_readOne : ∀ q ∈ i_X3_readOne, decode prog_5_method_23_code q.1 = .ok q.2 ∧ (p_ln q.2.1 = 0 ∨ q.2.2 = p_ln q.2.1) := by
  have h := (show ∀ q ∈ i_X3_readOne.drop 0, _ from p_cut 60 (p_dk_ok e_X3_readOne_0) (by rw [List.drop_drop]; exact p_cut 60 (p_dk_ok e_X3_readOne_1) (by rw [List.drop_drop, List.drop_eq_nil_of_le (by decide +kernel)]; exact fun _ h => by cases h)))
  rwa [List.drop_zero] at h
theorem e_X3_faultOfOne_0 : ((i_X3_faultOfOne.drop 0).take 60).all (p_dk prog_5_method_24_code) = true := by decide +kernel
theorem e_X3_faultOfOne : ∀ q ∈ i_X3_faultOfOne, decode prog_5_method_24_code q.1 = .ok q.2 ∧ (p_ln q.2.1 = 0 ∨ q.2.2 = p_ln q.2.1) := by
  have h := (show ∀ q ∈ i_X3_faultOfOne.drop 0, _ from p_cut 60 (p_dk_ok e_X3_faultOfOne_0) (by rw [List.drop_drop, List.drop_eq_nil_of_le (by decide +kernel)]; exact fun _ h => by cases h))
  rwa [List.drop_zero] at h
theorem e_X3_readChoice_0 : ((i_X3_readChoice.drop 0).take 60).all (p_dk prog_5_method_25_code) = true := by decide +kernel
theorem e_X3_readChoice_1 : ((i_X3_readChoice.drop 60).take 60).all (p_dk prog_5_method_25_code) = true := by decide +kernel
theorem e_X3_readChoice : ∀ q ∈ i_X3_readChoice, decode prog_5_method_25_code q.1 = .ok q.2 ∧ (p_ln q.2.1 = 0 ∨ q.2.2 = p_ln q.2.1) := by
  have h := (show ∀ q ∈ i_X3_readChoice.drop 0, _ from p_cut 60 (p_dk_ok e_X3_readChoice_0) (by rw [List.drop_drop]; exact p_cut 60 (p_dk_ok e_X3_readChoice_1) (by rw [List.drop_drop, List.drop_eq_nil_of_le (by decide +kernel)]; exact fun _ h => by cases h)))
  rwa [List.drop_zero] at h
theorem e_X3_closeJumps_0 : ((i_X3_closeJumps.drop 0).take 60).all (p_dk prog_5_method_26_code) = true := by decide +kernel
theorem e_X3_closeJumps : ∀ q ∈ i_X3_closeJumps, decode prog_5_method_26_code q.1 = .ok q.2 ∧ (p_ln q.2.1 = 0 ∨ q.2.2 = p_ln q.2.1) := by
  have h := (show ∀ q ∈ i_X3_closeJumps.drop 0, _ from p_cut 60 (p_dk_ok e_X3_closeJumps_0) (by rw [List.drop_drop, List.drop_eq_nil_of_le (by decide +kernel)]; exact fun _ h => by cases h))
  rwa [List.drop_zero] at h
theorem e_X4_init_0 : ((i_X4_init.drop 0).take 60).all (p_dk prog_6_method_1_code) = true := by decide +kernel
theorem e_X4_init : ∀ q ∈ i_X4_init, decode prog_6_method_1_code q.1 = .ok q.2 ∧ (p_ln q.2.1 = 0 ∨ q.2.2 = p_ln q.2.1) := by
  have h := (show ∀ q ∈ i_X4_init.drop 0, _ from p_cut 60 (p_dk_ok e_X4_init_0) (by rw [List.drop_drop, List.drop_eq_nil_of_le (by decide +kernel)]; exact fun _ h => by cases h))
  rwa [List.drop_zero] at h
theorem e_X4_lay_0 : ((i_X4_lay.drop 0).take 60).all (p_dk prog_6_method_2_code) = true := by decide +kernel
theorem e_X4_lay : ∀ q ∈ i_X4_lay, decode prog_6_method_2_code q.1 = .ok q.2 ∧ (p_ln q.2.1 = 0 ∨ q.2.2 = p_ln q.2.1) := by
  have h := (show ∀ q ∈ i_X4_lay.drop 0, _ from p_cut 60 (p_dk_ok e_X4_lay_0) (by rw [List.drop_drop, List.drop_eq_nil_of_le (by decide +kernel)]; exact fun _ h => by cases h))
  rwa [List.drop_zero] at h
theorem e_X4_layAcross_0 : ((i_X4_layAcross.drop 0).take 60).all (p_dk prog_6_method_3_code) = true := by decide +kernel
theorem e_X4_layAcross_1 : ((i_X4_layAcross.drop 60).take 60).all (p_dk prog_6_method_3_code) = true := by decide +kernel
theorem e_X4_layAcross : ∀ q ∈ i_X4_layAcross, decode prog_6_method_3_code q.1 = .ok q.2 ∧ (p_ln q.2.1 = 0 ∨ q.2.2 = p_ln q.2.1) := by
  have h := (show ∀ q ∈ i_X4_layAcross.drop 0, _ from p_cut 60 (p_dk_ok e_X4_layAcross_0) (by rw [List.drop_drop]; exact p_cut 60 (p_dk_ok e_X4_layAcross_1) (by rw [List.drop_drop, List.drop_eq_nil_of_le (by decide +kernel)]; exact fun _ h => by cases h)))
  rwa [List.drop_zero] at h
theorem e_X4_partOf_0 : ((i_X4_partOf.drop 0).take 60).all (p_dk prog_6_method_4_code) = true := by decide +kernel
theorem e_X4_partOf : ∀ q ∈ i_X4_partOf, decode prog_6_method_4_code q.1 = .ok q.2 ∧ (p_ln q.2.1 = 0 ∨ q.2.2 = p_ln q.2.1) := by
  have h := (show ∀ q ∈ i_X4_partOf.drop 0, _ from p_cut 60 (p_dk_ok e_X4_partOf_0) (by rw [List.drop_drop, List.drop_eq_nil_of_le (by decide +kernel)]; exact fun _ h => by cases h))
  rwa [List.drop_zero] at h
theorem e_X4_leftOf_0 : ((i_X4_leftOf.drop 0).take 60).all (p_dk prog_6_method_5_code) = true := by decide +kernel
theorem e_X4_leftOf : ∀ q ∈ i_X4_leftOf, decode prog_6_method_5_code q.1 = .ok q.2 ∧ (p_ln q.2.1 = 0 ∨ q.2.2 = p_ln q.2.1) := by
  have h := (show ∀ q ∈ i_X4_leftOf.drop 0, _ from p_cut 60 (p_dk_ok e_X4_leftOf_0) (by rw [List.drop_drop, List.drop_eq_nil_of_le (by decide +kernel)]; exact fun _ h => by cases h))
  rwa [List.drop_zero] at h
theorem e_X4_topOf_0 : ((i_X4_topOf.drop 0).take 60).all (p_dk prog_6_method_6_code) = true := by decide +kernel
theorem e_X4_topOf : ∀ q ∈ i_X4_topOf, decode prog_6_method_6_code q.1 = .ok q.2 ∧ (p_ln q.2.1 = 0 ∨ q.2.2 = p_ln q.2.1) := by
  have h := (show ∀ q ∈ i_X4_topOf.drop 0, _ from p_cut 60 (p_dk_ok e_X4_topOf_0) (by rw [List.drop_drop, List.drop_eq_nil_of_le (by decide +kernel)]; exact fun _ h => by cases h))
  rwa [List.drop_zero] at h
theorem e_X4_wideOf_0 : ((i_X4_wideOf.drop 0).take 60).all (p_dk prog_6_method_7_code) = true := by decide +kernel
theorem e_X4_wideOf : ∀ q ∈ i_X4_wideOf, decode prog_6_method_7_code q.1 = .ok q.2 ∧ (p_ln q.2.1 = 0 ∨ q.2.2 = p_ln q.2.1) := by
  have h := (show ∀ q ∈ i_X4_wideOf.drop 0, _ from p_cut 60 (p_dk_ok e_X4_wideOf_0) (by rw [List.drop_drop, List.drop_eq_nil_of_le (by decide +kernel)]; exact fun _ h => by cases h))
  rwa [List.drop_zero] at h
theorem e_X4_highOf_0 : ((i_X4_highOf.drop 0).take 60).all (p_dk prog_6_method_8_code) = true := by decide +kernel
theorem e_X4_highOf : ∀ q ∈ i_X4_highOf, decode prog_6_method_8_code q.1 = .ok q.2 ∧ (p_ln q.2.1 = 0 ∨ q.2.2 = p_ln q.2.1) := by
  have h := (show ∀ q ∈ i_X4_highOf.drop 0, _ from p_cut 60 (p_dk_ok e_X4_highOf_0) (by rw [List.drop_drop, List.drop_eq_nil_of_le (by decide +kernel)]; exact fun _ h => by cases h))
  rwa [List.drop_zero] at h
theorem e_X4_edgeOf_0 : ((i_X4_edgeOf.drop 0).take 60).all (p_dk prog_6_method_9_code) = true := by decide +kernel
theorem e_X4_edgeOf : ∀ q ∈ i_X4_edgeOf, decode prog_6_method_9_code q.1 = .ok q.2 ∧ (p_ln q.2.1 = 0 ∨ q.2.2 = p_ln q.2.1) := by
  have h := (show ∀ q ∈ i_X4_edgeOf.drop 0, _ from p_cut 60 (p_dk_ok e_X4_edgeOf_0) (by rw [List.drop_drop, List.drop_eq_nil_of_le (by decide +kernel)]; exact fun _ h => by cases h))
  rwa [List.drop_zero] at h
theorem e_X4_sizeOf_0 : ((i_X4_sizeOf.drop 0).take 60).all (p_dk prog_6_method_10_code) = true := by decide +kernel
theorem e_X4_sizeOf : ∀ q ∈ i_X4_sizeOf, decode prog_6_method_10_code q.1 = .ok q.2 ∧ (p_ln q.2.1 = 0 ∨ q.2.2 = p_ln q.2.1) := by
  have h := (show ∀ q ∈ i_X4_sizeOf.drop 0, _ from p_cut 60 (p_dk_ok e_X4_sizeOf_0) (by rw [List.drop_drop, List.drop_eq_nil_of_le (by decide +kernel)]; exact fun _ h => by cases h))
  rwa [List.drop_zero] at h
theorem e_X4_cellsOf_0 : ((i_X4_cellsOf.drop 0).take 60).all (p_dk prog_6_method_11_code) = true := by decide +kernel
theorem e_X4_cellsOf_1 : ((i_X4_cellsOf.drop 60).take 60).all (p_dk prog_6_method_11_code) = true := by decide +kernel
theorem e_X4_cellsOf : ∀ q ∈ i_X4_cellsOf, decode prog_6_method_11_code q.1 = .ok q.2 ∧ (p_ln q.2.1 = 0 ∨ q.2.2 = p_ln q.2.1) := by
  have h := (show ∀ q ∈ i_X4_cellsOf.drop 0, _ from p_cut 60 (p_dk_ok e_X4_cellsOf_0) (by rw [List.drop_drop]; exact p_cut 60 (p_dk_ok e_X4_cellsOf_1) (by rw [List.drop_drop, List.drop_eq_nil_of_le (by decide +kernel)]; exact fun _ h => by cases h)))
  rwa [List.drop_zero] at h
theorem e_X4_sightsIn_0 : ((i_X4_sightsIn.drop 0).take 60).all (p_dk prog_6_method_12_code) = true := by decide +kernel
theorem e_X4_sightsIn : ∀ q ∈ i_X4_sightsIn, decode prog_6_method_12_code q.1 = .ok q.2 ∧ (p_ln q.2.1 = 0 ∨ q.2.2 = p_ln q.2.1) := by
  have h := (show ∀ q ∈ i_X4_sightsIn.drop 0, _ from p_cut 60 (p_dk_ok e_X4_sightsIn_0) (by rw [List.drop_drop, List.drop_eq_nil_of_le (by decide +kernel)]; exact fun _ h => by cases h))
  rwa [List.drop_zero] at h
theorem e_X4_kindsIn_0 : ((i_X4_kindsIn.drop 0).take 60).all (p_dk prog_6_method_13_code) = true := by decide +kernel
theorem e_X4_kindsIn : ∀ q ∈ i_X4_kindsIn, decode prog_6_method_13_code q.1 = .ok q.2 ∧ (p_ln q.2.1 = 0 ∨ q.2.2 = p_ln q.2.1) := by
  have h := (show ∀ q ∈ i_X4_kindsIn.drop 0, _ from p_cut 60 (p_dk_ok e_X4_kindsIn_0) (by rw [List.drop_drop, List.drop_eq_nil_of_le (by decide +kernel)]; exact fun _ h => by cases h))
  rwa [List.drop_zero] at h
theorem e_X4_showingIn_0 : ((i_X4_showingIn.drop 0).take 60).all (p_dk prog_6_method_14_code) = true := by decide +kernel
theorem e_X4_showingIn : ∀ q ∈ i_X4_showingIn, decode prog_6_method_14_code q.1 = .ok q.2 ∧ (p_ln q.2.1 = 0 ∨ q.2.2 = p_ln q.2.1) := by
  have h := (show ∀ q ∈ i_X4_showingIn.drop 0, _ from p_cut 60 (p_dk_ok e_X4_showingIn_0) (by rw [List.drop_drop, List.drop_eq_nil_of_le (by decide +kernel)]; exact fun _ h => by cases h))
  rwa [List.drop_zero] at h
theorem e_X5_init_0 : ((i_X5_init.drop 0).take 60).all (p_dk prog_7_method_1_code) = true := by decide +kernel
theorem e_X5_init : ∀ q ∈ i_X5_init, decode prog_7_method_1_code q.1 = .ok q.2 ∧ (p_ln q.2.1 = 0 ∨ q.2.2 = p_ln q.2.1) := by
  have h := (show ∀ q ∈ i_X5_init.drop 0, _ from p_cut 60 (p_dk_ok e_X5_init_0) (by rw [List.drop_drop, List.drop_eq_nil_of_le (by decide +kernel)]; exact fun _ h => by cases h))
  rwa [List.drop_zero] at h

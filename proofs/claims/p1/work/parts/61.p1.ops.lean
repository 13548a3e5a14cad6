set_option maxRecDepth 100000 in
set_option maxHeartbeats 100000000 in
theorem p1_op_2 (xs : Nat → Int32) : p1K xs 2 := fin_S (n := 900) rfl
set_option maxRecDepth 100000 in
set_option maxHeartbeats 100000000 in
theorem p1_op_3 (xs : Nat → Int32) : p1K xs 3 := fin_S (n := 900) rfl
set_option maxRecDepth 100000 in
set_option maxHeartbeats 100000000 in
theorem p1_op_5 (xs : Nat → Int32) : p1K xs 5 := fin_S (n := 900) rfl
set_option maxRecDepth 100000 in
set_option maxHeartbeats 100000000 in
theorem p1_op_6 (xs : Nat → Int32) : p1K xs 6 := fin_S (n := 900) rfl
set_option maxRecDepth 100000 in
set_option maxHeartbeats 100000000 in
theorem p1_op_8 (xs : Nat → Int32) : p1K xs 8 := fin_S (n := 900) rfl
set_option maxRecDepth 100000 in
set_option maxHeartbeats 100000000 in
theorem p1_op_9 (xs : Nat → Int32) : p1K xs 9 := fin_S (n := 900) rfl
set_option maxRecDepth 100000 in
set_option maxHeartbeats 100000000 in
theorem p1_op_10 (xs : Nat → Int32) : p1K xs 10 := fin_S (n := 900) rfl
set_option maxRecDepth 100000 in
set_option maxHeartbeats 100000000 in
theorem p1_op_12 (xs : Nat → Int32) : p1K xs 12 := fin_S (n := 900) rfl
set_option maxRecDepth 100000 in
set_option maxHeartbeats 100000000 in
theorem p1_op_13 (xs : Nat → Int32) : p1K xs 13 := fin_S (n := 900) rfl
set_option maxRecDepth 100000 in
set_option maxHeartbeats 100000000 in
theorem p1_op_14 (xs : Nat → Int32) : p1K xs 14 := fin_S (n := 900) rfl
set_option maxRecDepth 100000 in
set_option maxHeartbeats 100000000 in
theorem p1_op_15 (xs : Nat → Int32) : p1K xs 15 := fin_S (n := 900) rfl
set_option maxRecDepth 100000 in
set_option maxHeartbeats 100000000 in
theorem p1_op_16 (xs : Nat → Int32) : p1K xs 16 := fin_S (n := 900) rfl
set_option maxRecDepth 100000 in
set_option maxHeartbeats 100000000 in
theorem p1_op_17 (xs : Nat → Int32) : p1K xs 17 := fin_S (n := 900) rfl
set_option maxRecDepth 100000 in
set_option maxHeartbeats 100000000 in
theorem p1_op_18 (xs : Nat → Int32) : p1K xs 18 := fin_S (n := 900) rfl
set_option maxRecDepth 100000 in
set_option maxHeartbeats 100000000 in
theorem p1_op_20 (xs : Nat → Int32) : p1K xs 20 := fin_S (n := 900) rfl
set_option maxRecDepth 100000 in
set_option maxHeartbeats 100000000 in
theorem p1_op_21 (xs : Nat → Int32) : p1K xs 21 := fin_S (n := 900) rfl
set_option maxRecDepth 100000 in
set_option maxHeartbeats 100000000 in
theorem p1_op_22 (xs : Nat → Int32) : p1K xs 22 := fin_S (n := 900) rfl
set_option maxRecDepth 100000 in
set_option maxHeartbeats 100000000 in
theorem p1_op_23 (xs : Nat → Int32) : p1K xs 23 := fin_S (n := 900) rfl
set_option maxRecDepth 100000 in
set_option maxHeartbeats 100000000 in
theorem p1_op_25 (xs : Nat → Int32) : p1K xs 25 := fin_S (n := 900) rfl
set_option maxRecDepth 100000 in
set_option maxHeartbeats 100000000 in
theorem p1_op_26 (xs : Nat → Int32) : p1K xs 26 := fin_S (n := 900) rfl
set_option maxRecDepth 100000 in
set_option maxHeartbeats 100000000 in
theorem p1_op_27 (xs : Nat → Int32) : p1K xs 27 := fin_S (n := 900) rfl
set_option maxRecDepth 100000 in
set_option maxHeartbeats 100000000 in
theorem p1_op_28 (xs : Nat → Int32) : p1K xs 28 := fin_S (n := 3000) rfl
set_option maxRecDepth 100000 in
set_option maxHeartbeats 100000000 in
theorem p1_op_30 (xs : Nat → Int32) : p1K xs 30 := fin_S (n := 900) rfl
set_option maxRecDepth 100000 in
set_option maxHeartbeats 100000000 in
theorem p1_op_31 (xs : Nat → Int32) : p1K xs 31 := fin_S (n := 900) rfl
set_option maxRecDepth 100000 in
set_option maxHeartbeats 100000000 in
theorem p1_op_32 (xs : Nat → Int32) : p1K xs 32 := fin_S (n := 900) rfl
set_option maxRecDepth 100000 in
set_option maxHeartbeats 100000000 in
theorem p1_big (xs : Nat → Int32) (k : Int32) (hk : 32 < k.toInt) : p1K xs k := by
  refine wp_step (i := j_tab 40 0 32 1148 #[148, 221, 246, 259, 272, 313, 338, 375, 400, 437, 462, 499, 524, 549, 562, 599, 612, 625, 662, 687, 740, 765, 790, 839, 876, 901, 914, 927, 976, 989, 1054, 1079, 1135]) rfl (if_pos (Or.inr hk)) ?_
  show wpS (cdL 6 xs) (40, [], 246, 1188, cLo, [], cM) Q1
  exact fin_S (n := 900) rfl

set_option maxRecDepth 100000 in
set_option maxHeartbeats 100000000 in
theorem p1_op_4_z (xs : Nat → Int32) (h : xs 1 = 0) : p1K xs 4 := by
  refine cut (sm := 246) (sp := 319) (n := 120) (S' := (_, _, _, _, _, _, _)) rfl ?_
  refine if_S (g := fun x => decide (x = 0)) (t := 326) (nx := 322) (v := xs 1) (b := true) rfl rfl (decide_eq_true h) ?_
  refine cut (sm := 246) (sp := 337) (n := 120) (S' := (_, _, _, _, _, _, _)) rfl ?_
  refine if_S (g := fun x => decide (x = 0)) (t := 344) (nx := 340) (v := xs 1) (b := true) rfl rfl (decide_eq_true h) ?_
  exact fin_S (n := 900) rfl
set_option maxRecDepth 100000 in
set_option maxHeartbeats 100000000 in
theorem p1_op_4_n (xs : Nat → Int32) (h : ¬ xs 1 = 0) : p1K xs 4 := by
  refine cut (sm := 246) (sp := 319) (n := 120) (S' := (_, _, _, _, _, _, _)) rfl ?_
  refine if_S (g := fun x => decide (x = 0)) (t := 326) (nx := 322) (v := xs 1) (b := false) rfl rfl (decide_eq_false h) ?_
  refine cut (sm := 246) (sp := 337) (n := 120) (S' := (_, _, _, _, _, _, _)) rfl ?_
  refine if_S (g := fun x => decide (x = 0)) (t := 344) (nx := 340) (v := xs 1) (b := false) rfl rfl (decide_eq_false h) ?_
  exact fin_S (n := 900) rfl
set_option maxRecDepth 100000 in
set_option maxHeartbeats 100000000 in
theorem p1_op_19_z (xs : Nat → Int32) (h : xs 2 = 0) : p1K xs 19 := by
  refine cut (sm := 246) (sp := 740) (n := 120) (S' := (_, _, _, _, _, _, _)) rfl ?_
  refine if_S (g := fun x => decide (x = 0)) (t := 747) (nx := 743) (v := xs 2) (b := true) rfl rfl (decide_eq_true h) ?_
  refine cut (sm := 246) (sp := 764) (n := 120) (S' := (_, _, _, _, _, _, _)) rfl ?_
  refine if_S (g := fun x => decide (x = 0)) (t := 771) (nx := 767) (v := xs 2) (b := true) rfl rfl (decide_eq_true h) ?_
  exact fin_S (n := 900) rfl
set_option maxRecDepth 100000 in
set_option maxHeartbeats 100000000 in
theorem p1_op_19_n (xs : Nat → Int32) (h : ¬ xs 2 = 0) : p1K xs 19 := by
  refine cut (sm := 246) (sp := 740) (n := 120) (S' := (_, _, _, _, _, _, _)) rfl ?_
  refine if_S (g := fun x => decide (x = 0)) (t := 747) (nx := 743) (v := xs 2) (b := false) rfl rfl (decide_eq_false h) ?_
  refine cut (sm := 246) (sp := 764) (n := 120) (S' := (_, _, _, _, _, _, _)) rfl ?_
  refine if_S (g := fun x => decide (x = 0)) (t := 771) (nx := 767) (v := xs 2) (b := false) rfl rfl (decide_eq_false h) ?_
  exact fin_S (n := 900) rfl
set_option maxRecDepth 100000 in
set_option maxHeartbeats 100000000 in
theorem p1_op_29_z (xs : Nat → Int32) (h : xs 3 = 0) : p1K xs 29 := by
  refine cut (sm := 246) (sp := 1048) (n := 120) (S' := (_, _, _, _, _, _, _)) rfl ?_
  refine if_S (g := fun x => decide (x = 0)) (t := 1055) (nx := 1051) (v := xs 3) (b := true) rfl rfl (decide_eq_true h) ?_
  refine cut (sm := 246) (sp := 1078) (n := 120) (S' := (_, _, _, _, _, _, _)) rfl ?_
  refine if_S (g := fun x => decide (x = 0)) (t := 1085) (nx := 1081) (v := xs 3) (b := true) rfl rfl (decide_eq_true h) ?_
  exact fin_S (n := 900) rfl
set_option maxRecDepth 100000 in
set_option maxHeartbeats 100000000 in
theorem p1_op_29_n (xs : Nat → Int32) (h : ¬ xs 3 = 0) : p1K xs 29 := by
  refine cut (sm := 246) (sp := 1048) (n := 120) (S' := (_, _, _, _, _, _, _)) rfl ?_
  refine if_S (g := fun x => decide (x = 0)) (t := 1055) (nx := 1051) (v := xs 3) (b := false) rfl rfl (decide_eq_false h) ?_
  refine cut (sm := 246) (sp := 1078) (n := 120) (S' := (_, _, _, _, _, _, _)) rfl ?_
  refine if_S (g := fun x => decide (x = 0)) (t := 1085) (nx := 1081) (v := xs 3) (b := false) rfl rfl (decide_eq_false h) ?_
  exact fin_S (n := 900) rfl
set_option maxRecDepth 100000 in
set_option maxHeartbeats 100000000 in
theorem p1_op_11_n (xs : Nat → Int32) (h : xs 1 < 0) : p1K xs 11 := by
  refine cut (sm := 115) (sp := 1) (n := 120) (S' := (_, _, _, _, _, _, _)) rfl ?_
  refine if_S (g := fun x => decide (x < 0)) (t := 15) (nx := 4) (v := xs 1) (b := true) rfl rfl (decide_eq_true h) ?_
  refine cut (sm := 203) (sp := 6) (n := 120) (S' := (_, _, _, _, _, _, _)) rfl ?_
  refine if_S (g := fun x => decide (x < 0)) (t := 26) (nx := 9) (v := xs 1) (b := true) rfl rfl (decide_eq_true h) ?_
  exact fin_S (n := 900) rfl
set_option maxRecDepth 100000 in
set_option maxHeartbeats 100000000 in
theorem p1_op_11_p (xs : Nat → Int32) (h : ¬ xs 1 < 0) (h1 : 0 ≤ xs 1) : p1K xs 11 := by
  refine cut (sm := 115) (sp := 1) (n := 120) (S' := (_, _, _, _, _, _, _)) rfl ?_
  refine if_S (g := fun x => decide (x < 0)) (t := 15) (nx := 4) (v := xs 1) (b := false) rfl rfl (decide_eq_false h) ?_
  refine cut (sm := 115) (sp := 12) (n := 120) (S' := (_, _, _, _, _, _, _)) rfl ?_
  refine ifc_S (g := fun x y => decide (x < y)) (t := 19) (nx := 15) (x := xs 1) (y := 0) (b := false) rfl rfl (decide_eq_false h) ?_
  refine cut (sm := 203) (sp := 6) (n := 120) (S' := (_, _, _, _, _, _, _)) rfl ?_
  refine if_S (g := fun x => decide (x < 0)) (t := 26) (nx := 9) (v := xs 1) (b := false) rfl rfl (decide_eq_false h) ?_
  refine cut (sm := 203) (sp := 14) (n := 120) (S' := (_, _, _, _, _, _, _)) rfl ?_
  refine ifc_S (g := fun x y => decide (y ≤ x)) (t := 26) (nx := 17) (x := xs 1) (y := 0) (b := true) rfl rfl (decide_eq_true h1) ?_
  exact fin_S (n := 900) rfl
set_option maxRecDepth 100000 in
set_option maxHeartbeats 100000000 in
theorem p1_op_24_n (xs : Nat → Int32) (h : xs 1 < 0) : p1K xs 24 := by
  refine cut (sm := 128) (sp := 1) (n := 120) (S' := (_, _, _, _, _, _, _)) rfl ?_
  refine if_S (g := fun x => decide (x < 0)) (t := 15) (nx := 4) (v := xs 1) (b := true) rfl rfl (decide_eq_true h) ?_
  refine cut (sm := 233) (sp := 6) (n := 120) (S' := (_, _, _, _, _, _, _)) rfl ?_
  refine if_S (g := fun x => decide (x < 0)) (t := 26) (nx := 9) (v := xs 1) (b := true) rfl rfl (decide_eq_true h) ?_
  exact fin_S (n := 900) rfl
set_option maxRecDepth 100000 in
set_option maxHeartbeats 100000000 in
theorem p1_op_24_p (xs : Nat → Int32) (h : ¬ xs 1 < 0) (h1 : 0 ≤ xs 1) : p1K xs 24 := by
  refine cut (sm := 128) (sp := 1) (n := 120) (S' := (_, _, _, _, _, _, _)) rfl ?_
  refine if_S (g := fun x => decide (x < 0)) (t := 15) (nx := 4) (v := xs 1) (b := false) rfl rfl (decide_eq_false h) ?_
  refine cut (sm := 128) (sp := 12) (n := 120) (S' := (_, _, _, _, _, _, _)) rfl ?_
  refine ifc_S (g := fun x y => decide (x < y)) (t := 19) (nx := 15) (x := xs 1) (y := 0) (b := false) rfl rfl (decide_eq_false h) ?_
  refine cut (sm := 233) (sp := 6) (n := 120) (S' := (_, _, _, _, _, _, _)) rfl ?_
  refine if_S (g := fun x => decide (x < 0)) (t := 26) (nx := 9) (v := xs 1) (b := false) rfl rfl (decide_eq_false h) ?_
  refine cut (sm := 233) (sp := 14) (n := 120) (S' := (_, _, _, _, _, _, _)) rfl ?_
  refine ifc_S (g := fun x y => decide (y ≤ x)) (t := 26) (nx := 17) (x := xs 1) (y := 0) (b := true) rfl rfl (decide_eq_true h1) ?_
  exact fin_S (n := 900) rfl
set_option maxRecDepth 100000 in
set_option maxHeartbeats 100000000 in
theorem p1_op_7_n (xs : Nat → Int32) (h : xs 1 < 0) (h5 : xs 1 ≠ 5) : p1K xs 7 := by
  refine cut (sm := 111) (sp := 1) (n := 120) (S' := (_, _, _, _, _, _, _)) rfl ?_
  refine if_S (g := fun x => decide (x < 0)) (t := 10) (nx := 4) (v := xs 1) (b := true) rfl rfl (decide_eq_true h) ?_
  refine cut (sm := 195) (sp := 7) (n := 120) (S' := (_, _, _, _, _, _, _)) rfl ?_
  refine ifc_S (g := fun x y => decide (¬ x = y)) (t := 15) (nx := 10) (x := xs 1) (y := 5) (b := true) rfl rfl (decide_eq_true h5) ?_
  refine cut (sm := 157) (sp := 2) (n := 120) (S' := (_, _, _, _, _, _, _)) rfl ?_
  refine ifc_S (g := fun x y => decide (x < y)) (t := 14) (nx := 5) (x := xs 1) (y := 0) (b := true) rfl rfl (decide_eq_true h) ?_
  exact fin_S (n := 900) rfl
set_option maxRecDepth 100000 in
set_option maxHeartbeats 100000000 in
theorem p1_op_7_g (xs : Nat → Int32) (h : ¬ xs 1 < 0) (hg : ¬ xs 1 ≤ 10) (h5 : xs 1 ≠ 5) (hq : 10 < xs 1) : p1K xs 7 := by
  refine cut (sm := 111) (sp := 1) (n := 120) (S' := (_, _, _, _, _, _, _)) rfl ?_
  refine if_S (g := fun x => decide (x < 0)) (t := 10) (nx := 4) (v := xs 1) (b := false) rfl rfl (decide_eq_false h) ?_
  refine cut (sm := 111) (sp := 7) (n := 120) (S' := (_, _, _, _, _, _, _)) rfl ?_
  refine ifc_S (g := fun x y => decide (x ≤ y)) (t := 12) (nx := 10) (x := xs 1) (y := 10) (b := false) rfl rfl (decide_eq_false hg) ?_
  refine cut (sm := 195) (sp := 7) (n := 120) (S' := (_, _, _, _, _, _, _)) rfl ?_
  refine ifc_S (g := fun x y => decide (¬ x = y)) (t := 15) (nx := 10) (x := xs 1) (y := 5) (b := true) rfl rfl (decide_eq_true h5) ?_
  refine cut (sm := 157) (sp := 2) (n := 120) (S' := (_, _, _, _, _, _, _)) rfl ?_
  refine ifc_S (g := fun x y => decide (x < y)) (t := 14) (nx := 5) (x := xs 1) (y := 0) (b := false) rfl rfl (decide_eq_false h) ?_
  refine cut (sm := 157) (sp := 7) (n := 120) (S' := (_, _, _, _, _, _, _)) rfl ?_
  refine ifc_S (g := fun x y => decide (y < x)) (t := 14) (nx := 10) (x := xs 1) (y := 10) (b := true) rfl rfl (decide_eq_true hq) ?_
  exact fin_S (n := 900) rfl
set_option maxRecDepth 100000 in
set_option maxHeartbeats 100000000 in
theorem p1_op_7_5 (xs : Nat → Int32) (h : ¬ xs 1 < 0) (hl : xs 1 ≤ 10) (h5 : ¬ xs 1 ≠ 5) : p1K xs 7 := by
  refine cut (sm := 111) (sp := 1) (n := 120) (S' := (_, _, _, _, _, _, _)) rfl ?_
  refine if_S (g := fun x => decide (x < 0)) (t := 10) (nx := 4) (v := xs 1) (b := false) rfl rfl (decide_eq_false h) ?_
  refine cut (sm := 111) (sp := 7) (n := 120) (S' := (_, _, _, _, _, _, _)) rfl ?_
  refine ifc_S (g := fun x y => decide (x ≤ y)) (t := 12) (nx := 10) (x := xs 1) (y := 10) (b := true) rfl rfl (decide_eq_true hl) ?_
  refine cut (sm := 111) (sp := 14) (n := 120) (S' := (_, _, _, _, _, _, _)) rfl ?_
  refine ifc_S (g := fun x y => decide (¬ x = y)) (t := 28) (nx := 17) (x := xs 1) (y := 5) (b := false) rfl rfl (decide_eq_false h5) ?_
  refine cut (sm := 195) (sp := 7) (n := 120) (S' := (_, _, _, _, _, _, _)) rfl ?_
  refine ifc_S (g := fun x y => decide (¬ x = y)) (t := 15) (nx := 10) (x := xs 1) (y := 5) (b := false) rfl rfl (decide_eq_false h5) ?_
  exact fin_S (n := 900) rfl
set_option maxRecDepth 100000 in
set_option maxHeartbeats 100000000 in
theorem p1_op_7_o (xs : Nat → Int32) (h : ¬ xs 1 < 0) (hl : xs 1 ≤ 10) (h5 : xs 1 ≠ 5) (hq : ¬ 10 < xs 1) : p1K xs 7 := by
  refine cut (sm := 111) (sp := 1) (n := 120) (S' := (_, _, _, _, _, _, _)) rfl ?_
  refine if_S (g := fun x => decide (x < 0)) (t := 10) (nx := 4) (v := xs 1) (b := false) rfl rfl (decide_eq_false h) ?_
  refine cut (sm := 111) (sp := 7) (n := 120) (S' := (_, _, _, _, _, _, _)) rfl ?_
  refine ifc_S (g := fun x y => decide (x ≤ y)) (t := 12) (nx := 10) (x := xs 1) (y := 10) (b := true) rfl rfl (decide_eq_true hl) ?_
  refine cut (sm := 111) (sp := 14) (n := 120) (S' := (_, _, _, _, _, _, _)) rfl ?_
  refine ifc_S (g := fun x y => decide (¬ x = y)) (t := 28) (nx := 17) (x := xs 1) (y := 5) (b := true) rfl rfl (decide_eq_true h5) ?_
  refine cut (sm := 195) (sp := 7) (n := 120) (S' := (_, _, _, _, _, _, _)) rfl ?_
  refine ifc_S (g := fun x y => decide (¬ x = y)) (t := 15) (nx := 10) (x := xs 1) (y := 5) (b := true) rfl rfl (decide_eq_true h5) ?_
  refine cut (sm := 157) (sp := 2) (n := 120) (S' := (_, _, _, _, _, _, _)) rfl ?_
  refine ifc_S (g := fun x y => decide (x < y)) (t := 14) (nx := 5) (x := xs 1) (y := 0) (b := false) rfl rfl (decide_eq_false h) ?_
  refine cut (sm := 157) (sp := 7) (n := 120) (S' := (_, _, _, _, _, _, _)) rfl ?_
  refine ifc_S (g := fun x y => decide (y < x)) (t := 14) (nx := 10) (x := xs 1) (y := 10) (b := false) rfl rfl (decide_eq_false hq) ?_
  exact fin_S (n := 900) rfl

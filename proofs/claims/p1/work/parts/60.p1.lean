/-! p1: one call on fresh objects. -/
def p1E (L : Nat) : aSt := goS (cdZ L) 246 36 3000 40 [] 246 0 (la 0 aScr) [] aM0
def cM : aM := (p1E 6).2.2.2.2.2.2
abbrev cLo : aL := [(4, .inl 0), (3, .inr (.inr (some 136))), (2, .inr (.inr (some 113))), (1, .inr (.inr (some 0))), (0, .inr (.inr (some aXS)))]
set_option maxRecDepth 100000 in
set_option maxHeartbeats 4000000 in
theorem p1E_eq : p1E 6 = (40, [], 246, 36, cLo, [.inl 0, .inr (.inr (some aXS))], cM) := by
  have h1 : (p1E 6).1 = 40 := rfl
  have h2 : (p1E 6).2.1 = [] := rfl
  have h3 : (p1E 6).2.2.1 = 246 := rfl
  have h4 : (p1E 6).2.2.2.1 = 36 := rfl
  have h5 : (p1E 6).2.2.2.2.1 = cLo := rfl
  have h6 : (p1E 6).2.2.2.2.2.1 = [.inl 0, .inr (.inr (some aXS))] := rfl
  show ((p1E 6).1, (p1E 6).2.1, (p1E 6).2.2.1, (p1E 6).2.2.2.1, (p1E 6).2.2.2.2.1, (p1E 6).2.2.2.2.2.1, cM) = _
  rw [h1, h2, h3, h4, h5, h6]
/-- the end of a good run -/
def Q1 : aQ := fun r M => r = some (.inl 1) ∧ a_c M ≤ 600002 ∧ a_z M ≤ 7302232
def okf (q : Option aV × aM) : Option aV × Bool := (q.1, Nat.ble (a_c q.2) 600002 && Nat.ble (a_z q.2) 7302232)
theorem fin_S {cd : Nat → Nat → Option aI} {n d : Nat} {fs : List aFr} {mid pc : Nat} {lo : aL} {st : List aV} {M : aM} (h : (retS cd (goS cd 0 99999 n d fs mid pc lo st M)).map okf = some (some (.inl 1), true)) : wpS cd (d, fs, mid, pc, lo, st, M) Q1 := by
  refine goS_ok (sm := 0) (sp := 99999) (n := n) ?_
  cases hr : retS cd (goS cd 0 99999 n d fs mid pc lo st M) with
  | none => rw [hr] at h; cases h
  | some q =>
    obtain ⟨r, M'⟩ := q
    rw [hr] at h
    have h := Option.some.inj h
    obtain ⟨h1, h2⟩ := Prod.mk.inj h
    obtain ⟨h3, h4⟩ := (Bool.and_eq_true _ _).mp h2
    exact retS_ok hr ⟨h1, Nat.le_of_ble_eq_true h3, Nat.le_of_ble_eq_true h4⟩
theorem cut {cd : Nat → Nat → Option aI} {sm sp n d : Nat} {fs : List aFr} {mid pc : Nat} {lo : aL} {st : List aV} {M : aM} {Q : aQ} {S' : aSt} (h : goS cd sm sp n d fs mid pc lo st M = S') (g : wpS cd S' Q) : wpS cd (d, fs, mid, pc, lo, st, M) Q := goS_ok (sm := sm) (sp := sp) (n := n) (by rw [h]; exact g)
abbrev p1K (xs : Nat → Int32) (k : Int32) : Prop := wpS (cdL 6 xs) (40, [], 246, 40, cLo, [.inl k], cM) Q1
set_option maxRecDepth 100000 in
set_option maxHeartbeats 4000000 in
theorem p1_small (xs : Nat → Int32) : ∀ L, L < 6 → wpS (cdL L xs) (40, [], 246, 0, la 0 aScr, [], aM0) Q1 := fun L h => by
  match L, h with
  | 0, _ => exact fin_S (n := 3000) rfl
  | 1, _ => exact fin_S (n := 3000) rfl
  | 2, _ => exact fin_S (n := 3000) rfl
  | 3, _ => exact fin_S (n := 3000) rfl
  | 4, _ => exact fin_S (n := 3000) rfl
  | 5, _ => exact fin_S (n := 3000) rfl
set_option maxRecDepth 100000 in
set_option maxHeartbeats 4000000 in
theorem p1_cut {xs : Nat → Int32} (h : p1K xs (xs 0 &&& 63)) : wpS (cdL 6 xs) (40, [], 246, 0, la 0 aScr, [], aM0) Q1 := by
  refine goZ_ok (cdZ_sub (L := 6)) (sm := 246) (sp := 36) (n := 3000) ?_
  rw [show goS (cdZ 6) 246 36 3000 40 [] 246 0 (la 0 aScr) [] aM0 = _ from p1E_eq]
  exact cut (sm := 246) (sp := 40) (n := 9) rfl h
set_option maxRecDepth 100000 in
set_option maxHeartbeats 4000000 in
theorem p1_op_0 (xs : Nat → Int32) : p1K xs 0 := fin_S (n := 900) rfl
set_option maxRecDepth 100000 in
set_option maxHeartbeats 4000000 in
theorem p1_op_2 (xs : Nat → Int32) : p1K xs 2 := fin_S (n := 900) rfl
set_option maxRecDepth 100000 in
set_option maxHeartbeats 4000000 in
theorem p1_op_3 (xs : Nat → Int32) : p1K xs 3 := fin_S (n := 900) rfl
set_option maxRecDepth 100000 in
set_option maxHeartbeats 4000000 in
theorem p1_op_5 (xs : Nat → Int32) : p1K xs 5 := fin_S (n := 900) rfl
set_option maxRecDepth 100000 in
set_option maxHeartbeats 4000000 in
theorem p1_op_6 (xs : Nat → Int32) : p1K xs 6 := fin_S (n := 900) rfl
set_option maxRecDepth 100000 in
set_option maxHeartbeats 4000000 in
theorem p1_op_8 (xs : Nat → Int32) : p1K xs 8 := fin_S (n := 900) rfl
set_option maxRecDepth 100000 in
set_option maxHeartbeats 4000000 in
theorem p1_op_9 (xs : Nat → Int32) : p1K xs 9 := fin_S (n := 900) rfl
set_option maxRecDepth 100000 in
set_option maxHeartbeats 4000000 in
theorem p1_op_10 (xs : Nat → Int32) : p1K xs 10 := fin_S (n := 900) rfl
set_option maxRecDepth 100000 in
set_option maxHeartbeats 4000000 in
theorem p1_op_12 (xs : Nat → Int32) : p1K xs 12 := fin_S (n := 900) rfl
set_option maxRecDepth 100000 in
set_option maxHeartbeats 4000000 in
theorem p1_op_13 (xs : Nat → Int32) : p1K xs 13 := fin_S (n := 900) rfl
set_option maxRecDepth 100000 in
set_option maxHeartbeats 4000000 in
theorem p1_op_14 (xs : Nat → Int32) : p1K xs 14 := fin_S (n := 900) rfl
set_option maxRecDepth 100000 in
set_option maxHeartbeats 4000000 in
theorem p1_op_15 (xs : Nat → Int32) : p1K xs 15 := fin_S (n := 900) rfl
set_option maxRecDepth 100000 in
set_option maxHeartbeats 4000000 in
theorem p1_op_16 (xs : Nat → Int32) : p1K xs 16 := fin_S (n := 900) rfl
set_option maxRecDepth 100000 in
set_option maxHeartbeats 4000000 in
theorem p1_op_17 (xs : Nat → Int32) : p1K xs 17 := fin_S (n := 900) rfl
set_option maxRecDepth 100000 in
set_option maxHeartbeats 4000000 in
theorem p1_op_18 (xs : Nat → Int32) : p1K xs 18 := fin_S (n := 900) rfl
set_option maxRecDepth 100000 in
set_option maxHeartbeats 4000000 in
theorem p1_op_20 (xs : Nat → Int32) : p1K xs 20 := fin_S (n := 900) rfl
set_option maxRecDepth 100000 in
set_option maxHeartbeats 4000000 in
theorem p1_op_21 (xs : Nat → Int32) : p1K xs 21 := fin_S (n := 900) rfl
set_option maxRecDepth 100000 in
set_option maxHeartbeats 4000000 in
theorem p1_op_22 (xs : Nat → Int32) : p1K xs 22 := fin_S (n := 900) rfl
set_option maxRecDepth 100000 in
set_option maxHeartbeats 4000000 in
theorem p1_op_23 (xs : Nat → Int32) : p1K xs 23 := fin_S (n := 900) rfl
set_option maxRecDepth 100000 in
set_option maxHeartbeats 4000000 in
theorem p1_op_25 (xs : Nat → Int32) : p1K xs 25 := fin_S (n := 900) rfl
set_option maxRecDepth 100000 in
set_option maxHeartbeats 4000000 in
theorem p1_op_26 (xs : Nat → Int32) : p1K xs 26 := fin_S (n := 900) rfl
set_option maxRecDepth 100000 in
set_option maxHeartbeats 4000000 in
theorem p1_op_27 (xs : Nat → Int32) : p1K xs 27 := fin_S (n := 900) rfl
set_option maxRecDepth 100000 in
set_option maxHeartbeats 4000000 in
theorem p1_op_28 (xs : Nat → Int32) : p1K xs 28 := fin_S (n := 900) rfl
set_option maxRecDepth 100000 in
set_option maxHeartbeats 4000000 in
theorem p1_op_30 (xs : Nat → Int32) : p1K xs 30 := fin_S (n := 900) rfl
set_option maxRecDepth 100000 in
set_option maxHeartbeats 4000000 in
theorem p1_op_31 (xs : Nat → Int32) : p1K xs 31 := fin_S (n := 900) rfl
set_option maxRecDepth 100000 in
set_option maxHeartbeats 4000000 in
theorem p1_op_32 (xs : Nat → Int32) : p1K xs 32 := fin_S (n := 900) rfl
set_option maxRecDepth 100000 in
set_option maxHeartbeats 4000000 in
theorem p1_big (xs : Nat → Int32) (k : Int32) (hk : 32 < k.toInt) : p1K xs k := by
  refine wp_step (i := j_tab 40 0 32 1148 #[148, 221, 246, 259, 272, 313, 338, 375, 400, 437, 462, 499, 524, 549, 562, 599, 612, 625, 662, 687, 740, 765, 790, 839, 876, 901, 914, 927, 976, 989, 1054, 1079, 1135]) rfl (if_pos (Or.inr hk)) ?_
  exact fin_S (n := 900) rfl
set_option maxRecDepth 100000 in
set_option maxHeartbeats 4000000 in
theorem p1_op_4_z (xs : Nat → Int32) (h : xs 1 = 0) : p1K xs 4 := by
  refine cut (sm := 246) (sp := 319) (n := 120) (S' := (_, _, _, _, _, _, _)) rfl ?_
  refine if_S (g := fun x => decide (x = 0)) (t := 326) (nx := 322) (v := xs 1) (b := true) rfl rfl (decide_eq_true h) ?_
  refine cut (sm := 246) (sp := 337) (n := 120) (S' := (_, _, _, _, _, _, _)) rfl ?_
  refine if_S (g := fun x => decide (x = 0)) (t := 344) (nx := 340) (v := xs 1) (b := true) rfl rfl (decide_eq_true h) ?_
  exact fin_S (n := 900) rfl
set_option maxRecDepth 100000 in
set_option maxHeartbeats 4000000 in
theorem p1_op_4_n (xs : Nat → Int32) (h : ¬ xs 1 = 0) : p1K xs 4 := by
  refine cut (sm := 246) (sp := 319) (n := 120) (S' := (_, _, _, _, _, _, _)) rfl ?_
  refine if_S (g := fun x => decide (x = 0)) (t := 326) (nx := 322) (v := xs 1) (b := false) rfl rfl (decide_eq_false h) ?_
  refine cut (sm := 246) (sp := 337) (n := 120) (S' := (_, _, _, _, _, _, _)) rfl ?_
  refine if_S (g := fun x => decide (x = 0)) (t := 344) (nx := 340) (v := xs 1) (b := false) rfl rfl (decide_eq_false h) ?_
  exact fin_S (n := 900) rfl
set_option maxRecDepth 100000 in
set_option maxHeartbeats 4000000 in
theorem p1_op_19_z (xs : Nat → Int32) (h : xs 2 = 0) : p1K xs 19 := by
  refine cut (sm := 246) (sp := 740) (n := 120) (S' := (_, _, _, _, _, _, _)) rfl ?_
  refine if_S (g := fun x => decide (x = 0)) (t := 747) (nx := 743) (v := xs 2) (b := true) rfl rfl (decide_eq_true h) ?_
  refine cut (sm := 246) (sp := 764) (n := 120) (S' := (_, _, _, _, _, _, _)) rfl ?_
  refine if_S (g := fun x => decide (x = 0)) (t := 771) (nx := 767) (v := xs 2) (b := true) rfl rfl (decide_eq_true h) ?_
  exact fin_S (n := 900) rfl
set_option maxRecDepth 100000 in
set_option maxHeartbeats 4000000 in
theorem p1_op_19_n (xs : Nat → Int32) (h : ¬ xs 2 = 0) : p1K xs 19 := by
  refine cut (sm := 246) (sp := 740) (n := 120) (S' := (_, _, _, _, _, _, _)) rfl ?_
  refine if_S (g := fun x => decide (x = 0)) (t := 747) (nx := 743) (v := xs 2) (b := false) rfl rfl (decide_eq_false h) ?_
  refine cut (sm := 246) (sp := 764) (n := 120) (S' := (_, _, _, _, _, _, _)) rfl ?_
  refine if_S (g := fun x => decide (x = 0)) (t := 771) (nx := 767) (v := xs 2) (b := false) rfl rfl (decide_eq_false h) ?_
  exact fin_S (n := 900) rfl
set_option maxRecDepth 100000 in
set_option maxHeartbeats 4000000 in
theorem p1_op_29_z (xs : Nat → Int32) (h : xs 3 = 0) : p1K xs 29 := by
  refine cut (sm := 246) (sp := 1048) (n := 120) (S' := (_, _, _, _, _, _, _)) rfl ?_
  refine if_S (g := fun x => decide (x = 0)) (t := 1055) (nx := 1051) (v := xs 3) (b := true) rfl rfl (decide_eq_true h) ?_
  refine cut (sm := 246) (sp := 1078) (n := 120) (S' := (_, _, _, _, _, _, _)) rfl ?_
  refine if_S (g := fun x => decide (x = 0)) (t := 1085) (nx := 1081) (v := xs 3) (b := true) rfl rfl (decide_eq_true h) ?_
  exact fin_S (n := 900) rfl
set_option maxRecDepth 100000 in
set_option maxHeartbeats 4000000 in
theorem p1_op_29_n (xs : Nat → Int32) (h : ¬ xs 3 = 0) : p1K xs 29 := by
  refine cut (sm := 246) (sp := 1048) (n := 120) (S' := (_, _, _, _, _, _, _)) rfl ?_
  refine if_S (g := fun x => decide (x = 0)) (t := 1055) (nx := 1051) (v := xs 3) (b := false) rfl rfl (decide_eq_false h) ?_
  refine cut (sm := 246) (sp := 1078) (n := 120) (S' := (_, _, _, _, _, _, _)) rfl ?_
  refine if_S (g := fun x => decide (x = 0)) (t := 1085) (nx := 1081) (v := xs 3) (b := false) rfl rfl (decide_eq_false h) ?_
  exact fin_S (n := 900) rfl
set_option maxRecDepth 100000 in
set_option maxHeartbeats 4000000 in
theorem p1_op_11_n (xs : Nat → Int32) (h : xs 1 < 0) : p1K xs 11 := by
  refine cut (sm := 115) (sp := 1) (n := 120) (S' := (_, _, _, _, _, _, _)) rfl ?_
  refine if_S (g := fun x => decide (x < 0)) (t := 15) (nx := 4) (v := xs 1) (b := true) rfl rfl (decide_eq_true h) ?_
  refine cut (sm := 203) (sp := 6) (n := 120) (S' := (_, _, _, _, _, _, _)) rfl ?_
  refine if_S (g := fun x => decide (x < 0)) (t := 26) (nx := 9) (v := xs 1) (b := true) rfl rfl (decide_eq_true h) ?_
  exact fin_S (n := 900) rfl
set_option maxRecDepth 100000 in
set_option maxHeartbeats 4000000 in
theorem p1_op_11_p (xs : Nat → Int32) (h : ¬ xs 1 < 0) (h1 : 0 ≤ xs 1) : p1K xs 11 := by
  refine cut (sm := 115) (sp := 1) (n := 120) (S' := (_, _, _, _, _, _, _)) rfl ?_
  refine if_S (g := fun x => decide (x < 0)) (t := 15) (nx := 4) (v := xs 1) (b := false) rfl rfl (decide_eq_false h) ?_
  refine cut (sm := 115) (sp := 12) (n := 120) (S' := (_, _, _, _, _, _, _)) rfl ?_
  refine ifc_S (g := fun x y => decide (x < y)) (t := 19) (nx := 15) (x := xs 1) (y := 0) (b := false) rfl rfl (decide_eq_false h) ?_
  refine cut (sm := 203) (sp := 6) (n := 120) (S' := (_, _, _, _, _, _, _)) rfl ?_
  refine if_S (g := fun x => decide (x < 0)) (t := 26) (nx := 9) (v := xs 1) (b := false) rfl rfl (decide_eq_false h) ?_
  refine cut (sm := 203) (sp := 14) (n := 120) (S' := (_, _, _, _, _, _, _)) rfl ?_
  refine ifc_S (g := fun x y => decide (y ≤ x)) (t := 26) (nx := 17) (x := xs 1) (y := 0) (b := true) rfl rfl (decide_eq_true h1) ?_
  exact fin_S (n := 900) rfl
set_option maxRecDepth 100000 in
set_option maxHeartbeats 4000000 in
theorem p1_op_24_n (xs : Nat → Int32) (h : xs 1 < 0) : p1K xs 24 := by
  refine cut (sm := 128) (sp := 1) (n := 120) (S' := (_, _, _, _, _, _, _)) rfl ?_
  refine if_S (g := fun x => decide (x < 0)) (t := 15) (nx := 4) (v := xs 1) (b := true) rfl rfl (decide_eq_true h) ?_
  refine cut (sm := 233) (sp := 6) (n := 120) (S' := (_, _, _, _, _, _, _)) rfl ?_
  refine if_S (g := fun x => decide (x < 0)) (t := 26) (nx := 9) (v := xs 1) (b := true) rfl rfl (decide_eq_true h) ?_
  exact fin_S (n := 900) rfl
set_option maxRecDepth 100000 in
set_option maxHeartbeats 4000000 in
theorem p1_op_24_p (xs : Nat → Int32) (h : ¬ xs 1 < 0) (h1 : 0 ≤ xs 1) : p1K xs 24 := by
  refine cut (sm := 128) (sp := 1) (n := 120) (S' := (_, _, _, _, _, _, _)) rfl ?_
  refine if_S (g := fun x => decide (x < 0)) (t := 15) (nx := 4) (v := xs 1) (b := false) rfl rfl (decide_eq_false h) ?_
  refine cut (sm := 128) (sp := 12) (n := 120) (S' := (_, _, _, _, _, _, _)) rfl ?_
  refine ifc_S (g := fun x y => decide (x < y)) (t := 19) (nx := 15) (x := xs 1) (y := 0) (b := false) rfl rfl (decide_eq_false h) ?_
  refine cut (sm := 233) (sp := 6) (n := 120) (S' := (_, _, _, _, _, _, _)) rfl ?_
  refine if_S (g := fun x => decide (x < 0)) (t := 26) (nx := 9) (v := xs 1) (b := false) rfl rfl (decide_eq_false h) ?_
  refine cut (sm := 233) (sp := 14) (n := 120) (S' := (_, _, _, _, _, _, _)) rfl ?_
  refine ifc_S (g := fun x y => decide (y ≤ x)) (t := 26) (nx := 17) (x := xs 1) (y := 0) (b := true) rfl rfl (decide_eq_true h1) ?_
  exact fin_S (n := 900) rfl
set_option maxRecDepth 100000 in
set_option maxHeartbeats 4000000 in
theorem p1_op_7_n (xs : Nat → Int32) (h : xs 1 < 0) (h5 : xs 1 ≠ 5) : p1K xs 7 := by
  refine cut (sm := 111) (sp := 1) (n := 120) (S' := (_, _, _, _, _, _, _)) rfl ?_
  refine if_S (g := fun x => decide (x < 0)) (t := 10) (nx := 4) (v := xs 1) (b := true) rfl rfl (decide_eq_true h) ?_
  refine cut (sm := 195) (sp := 7) (n := 120) (S' := (_, _, _, _, _, _, _)) rfl ?_
  refine ifc_S (g := fun x y => decide (¬ x = y)) (t := 15) (nx := 10) (x := xs 1) (y := 5) (b := true) rfl rfl (decide_eq_true h5) ?_
  refine cut (sm := 157) (sp := 2) (n := 120) (S' := (_, _, _, _, _, _, _)) rfl ?_
  refine ifc_S (g := fun x y => decide (x < y)) (t := 14) (nx := 5) (x := xs 1) (y := 0) (b := true) rfl rfl (decide_eq_true h) ?_
  exact fin_S (n := 900) rfl
set_option maxRecDepth 100000 in
set_option maxHeartbeats 4000000 in
theorem p1_op_7_g (xs : Nat → Int32) (h : ¬ xs 1 < 0) (hg : ¬ xs 1 ≤ 10) (h5 : xs 1 ≠ 5) (hq : 10 < xs 1) : p1K xs 7 := by
  refine cut (sm := 111) (sp := 1) (n := 120) (S' := (_, _, _, _, _, _, _)) rfl ?_
  refine if_S (g := fun x => decide (x < 0)) (t := 10) (nx := 4) (v := xs 1) (b := false) rfl rfl (decide_eq_false h) ?_
  refine cut (sm := 111) (sp := 7) (n := 120) (S' := (_, _, _, _, _, _, _)) rfl ?_
  refine ifc_S (g := fun x y => decide (x ≤ y)) (t := 12) (nx := 10) (x := xs 1) (y := 10) (b := false) rfl rfl (decide_eq_false hg) ?_
  refine cut (sm := 195) (sp := 7) (n := 120) (S' := (_, _, _, _, _, _, _)) rfl ?_
  refine ifc_S (g := fun x y => decide (¬ x = y)) (t := 15) (nx := 10) (x := xs 1) (y := 5) (b := true) rfl rfl (decide_eq_true h5) ?_
  refine cut (sm := 157) (sp := 2) (n := 120) (S' := (_, _, _, _, _, _, _)) rfl ?_
  refine ifc_S (g := fun x y => decide (x < y)) (t := 14) (nx := 5) (x := xs 1) (y := 0) (b := false) rfl rfl (decide_eq_false h) ?_
  refine cut (sm := 157) (sp := 7) (n := 120) (S' := (_, _, _, _, _, _, _)) rfl ?_
  refine ifc_S (g := fun x y => decide (y < x)) (t := 14) (nx := 10) (x := xs 1) (y := 10) (b := true) rfl rfl (decide_eq_true hq) ?_
  exact fin_S (n := 900) rfl
set_option maxRecDepth 100000 in
set_option maxHeartbeats 4000000 in
theorem p1_op_7_5 (xs : Nat → Int32) (h : ¬ xs 1 < 0) (hl : xs 1 ≤ 10) (h5 : ¬ xs 1 ≠ 5) : p1K xs 7 := by
  refine cut (sm := 111) (sp := 1) (n := 120) (S' := (_, _, _, _, _, _, _)) rfl ?_
  refine if_S (g := fun x => decide (x < 0)) (t := 10) (nx := 4) (v := xs 1) (b := false) rfl rfl (decide_eq_false h) ?_
  refine cut (sm := 111) (sp := 7) (n := 120) (S' := (_, _, _, _, _, _, _)) rfl ?_
  refine ifc_S (g := fun x y => decide (x ≤ y)) (t := 12) (nx := 10) (x := xs 1) (y := 10) (b := true) rfl rfl (decide_eq_true hl) ?_
  refine cut (sm := 111) (sp := 14) (n := 120) (S' := (_, _, _, _, _, _, _)) rfl ?_
  refine ifc_S (g := fun x y => decide (¬ x = y)) (t := 28) (nx := 17) (x := xs 1) (y := 5) (b := false) rfl rfl (decide_eq_false h5) ?_
  refine cut (sm := 195) (sp := 7) (n := 120) (S' := (_, _, _, _, _, _, _)) rfl ?_
  refine ifc_S (g := fun x y => decide (¬ x = y)) (t := 15) (nx := 10) (x := xs 1) (y := 5) (b := false) rfl rfl (decide_eq_false h5) ?_
  exact fin_S (n := 900) rfl
set_option maxRecDepth 100000 in
set_option maxHeartbeats 4000000 in
theorem p1_op_7_o (xs : Nat → Int32) (h : ¬ xs 1 < 0) (hl : xs 1 ≤ 10) (h5 : xs 1 ≠ 5) (hq : ¬ 10 < xs 1) : p1K xs 7 := by
  refine cut (sm := 111) (sp := 1) (n := 120) (S' := (_, _, _, _, _, _, _)) rfl ?_
  refine if_S (g := fun x => decide (x < 0)) (t := 10) (nx := 4) (v := xs 1) (b := false) rfl rfl (decide_eq_false h) ?_
  refine cut (sm := 111) (sp := 7) (n := 120) (S' := (_, _, _, _, _, _, _)) rfl ?_
  refine ifc_S (g := fun x y => decide (x ≤ y)) (t := 12) (nx := 10) (x := xs 1) (y := 10) (b := true) rfl rfl (decide_eq_true hl) ?_
  refine cut (sm := 111) (sp := 14) (n := 120) (S' := (_, _, _, _, _, _, _)) rfl ?_
  refine ifc_S (g := fun x y => decide (¬ x = y)) (t := 28) (nx := 17) (x := xs 1) (y := 5) (b := true) rfl rfl (decide_eq_true h5) ?_
  refine cut (sm := 195) (sp := 7) (n := 120) (S' := (_, _, _, _, _, _, _)) rfl ?_
  refine ifc_S (g := fun x y => decide (¬ x = y)) (t := 15) (nx := 10) (x := xs 1) (y := 5) (b := true) rfl rfl (decide_eq_true h5) ?_
  refine cut (sm := 157) (sp := 2) (n := 120) (S' := (_, _, _, _, _, _, _)) rfl ?_
  refine ifc_S (g := fun x y => decide (x < y)) (t := 14) (nx := 5) (x := xs 1) (y := 0) (b := false) rfl rfl (decide_eq_false h) ?_
  refine cut (sm := 157) (sp := 7) (n := 120) (S' := (_, _, _, _, _, _, _)) rfl ?_
  refine ifc_S (g := fun x y => decide (y < x)) (t := 14) (nx := 10) (x := xs 1) (y := 10) (b := false) rfl rfl (decide_eq_false hq) ?_
  exact fin_S (n := 900) rfl
set_option maxRecDepth 100000 in
set_option maxHeartbeats 4000000 in
theorem p1_op_1_n (xs : Nat → Int32) (h : xs 1 < 0) : p1K xs 1 := by
  refine cut (sm := 105) (sp := 1) (n := 120) (S' := (_, _, _, _, _, _, _)) rfl ?_
  refine if_S (g := fun x => decide (x < 0)) (t := 18) (nx := 4) (v := xs 1) (b := true) rfl rfl (decide_eq_true h) ?_
  refine cut (sm := 182) (sp := 6) (n := 120) (S' := (_, _, _, _, _, _, _)) rfl ?_
  refine if_S (g := fun x => decide (x < 0)) (t := 17) (nx := 9) (v := xs 1) (b := true) rfl rfl (decide_eq_true h) ?_
  exact fin_S (n := 900) rfl
set_option maxRecDepth 100000 in
set_option maxHeartbeats 4000000 in
theorem p1_op_1_p (xs : Nat → Int32) (h : ¬ xs 1 < 0) (hp : ¬ xs 1 ≤ 0) : p1K xs 1 := by
  refine cut (sm := 105) (sp := 1) (n := 120) (S' := (_, _, _, _, _, _, _)) rfl ?_
  refine if_S (g := fun x => decide (x < 0)) (t := 18) (nx := 4) (v := xs 1) (b := false) rfl rfl (decide_eq_false h) ?_
  refine cut (sm := 105) (sp := 15) (n := 120) (S' := (_, _, _, _, _, _, _)) rfl ?_
  refine ifc_S (g := fun x y => decide (x ≤ y)) (t := 24) (nx := 18) (x := xs 1) (y := 0) (b := false) rfl rfl (decide_eq_false hp) ?_
  refine cut (sm := 182) (sp := 6) (n := 120) (S' := (_, _, _, _, _, _, _)) rfl ?_
  refine if_S (g := fun x => decide (x < 0)) (t := 17) (nx := 9) (v := xs 1) (b := false) rfl rfl (decide_eq_false h) ?_
  refine cut (sm := 182) (sp := 14) (n := 120) (S' := (_, _, _, _, _, _, _)) rfl ?_
  refine ifc_S (g := fun x y => decide (x ≤ y)) (t := 23) (nx := 17) (x := xs 1) (y := 0) (b := false) rfl rfl (decide_eq_false hp) ?_
  exact fin_S (n := 900) rfl
def cE1 : aSt := goS (cdZ 6) 246 277 3000 40 [] 246 268 cLo [.inl 0, .inr (.inr (some 0))] cM
def cM1 : aM := cE1.2.2.2.2.2.2
set_option maxRecDepth 100000 in
set_option maxHeartbeats 4000000 in
theorem cE1_eq : cE1 = (40, [], 246, 277, cLo, [.inl 1, .inr (.inr (some aXS)), .inr (.inr (some 113)), .inl (-1)], cM1) := by
  have h1 : cE1.1 = 40 := rfl
  have h2 : cE1.2.1 = [] := rfl
  have h3 : cE1.2.2.1 = 246 := rfl
  have h4 : cE1.2.2.2.1 = 277 := rfl
  have h5 : cE1.2.2.2.2.1 = cLo := rfl
  have h6 : cE1.2.2.2.2.2.1 = [.inl 1, .inr (.inr (some aXS)), .inr (.inr (some 113)), .inl (-1)] := rfl
  show (cE1.1, cE1.2.1, cE1.2.2.1, cE1.2.2.2.1, cE1.2.2.2.2.1, cE1.2.2.2.2.2.1, cM1) = _
  rw [h1, h2, h3, h4, h5, h6]
set_option maxRecDepth 100000 in
set_option maxHeartbeats 4000000 in
theorem p1_op_1_z (xs : Nat → Int32) (h : xs 1 = 0) : p1K xs 1 := by
  refine cut (sm := 246) (sp := 268) (n := 20) (S' := (40, [], 246, 268, cLo, [.inl (xs 1), .inr (.inr (some 0))], cM)) rfl ?_
  rw [h]
  refine goZ_ok (cdZ_sub (L := 6)) (sm := 246) (sp := 277) (n := 3000) ?_
  rw [show goS (cdZ 6) 246 277 3000 40 [] 246 268 cLo [.inl 0, .inr (.inr (some 0))] cM = _ from cE1_eq]
  refine cut (sm := 246) (sp := 278) (n := 20) (S' := (40, [], 246, 278, cLo, [.inl (xs 1), .inr (.inr (some 113)), .inl (-1)], cM1)) rfl ?_
  rw [h]
  exact fin_S (n := 3000) rfl
theorem and63 (x : Int32) : ∃ k : Nat, k < 64 ∧ x &&& 63 = Int32.ofNat k := by
  refine ⟨(x &&& 63).toBitVec.toNat, ?_, ?_⟩
  · rw [Int32.toBitVec_and, BitVec.toNat_and]
    exact Nat.lt_of_le_of_lt Nat.and_le_right (by decide)
  · apply Int32.toBitVec_inj.mp
    rw [Int32.toBitVec_ofNat', BitVec.ofNat_toNat]
    simp
theorem i32_z {x : Int32} (h : ¬ x < 0) : 0 ≤ x := by
  rw [Int32.lt_iff_toInt_lt] at h
  rw [Int32.le_iff_toInt_le]
  omega
theorem i32_0 {x : Int32} (h : ¬ x < 0) (g : x ≤ 0) : x = 0 := by
  rw [Int32.lt_iff_toInt_lt] at h
  rw [Int32.le_iff_toInt_le] at g
  apply Int32.toInt_inj.mp
  omega
theorem i32_5 {x : Int32} (h : x < 0) : x ≠ 5 := fun e => by rw [e] at h; exact absurd h (by decide)
theorem i32_g {x : Int32} (h : ¬ x ≤ 10) : x ≠ 5 ∧ 10 < x := by
  refine ⟨fun e => by rw [e] at h; exact absurd h (by decide), ?_⟩
  rw [Int32.le_iff_toInt_le] at h
  rw [Int32.lt_iff_toInt_lt]
  omega
theorem i32_l {x : Int32} (h : x ≤ 10) : ¬ 10 < x := by
  rw [Int32.le_iff_toInt_le] at h
  rw [Int32.lt_iff_toInt_lt]
  omega
theorem p1_all (xs : Nat → Int32) (v : Int32) (k : Nat) (hk : k < 64) (hv : v = Int32.ofNat k) : p1K xs v := by
  subst hv
  by_cases hb : 32 < k
  · refine p1_big xs _ ?_
    rw [Int32.toInt_ofNat_of_lt (by omega)]
    omega
  · match k, hb with
    | 0, _ => exact p1_op_0 xs
    | 1, _ =>
      by_cases h : xs 1 < 0
      · exact p1_op_1_n xs h
      · by_cases hp : xs 1 ≤ 0
        · exact p1_op_1_z xs (i32_0 h hp)
        · exact p1_op_1_p xs h hp
    | 2, _ => exact p1_op_2 xs
    | 3, _ => exact p1_op_3 xs
    | 4, _ =>
      by_cases h : xs 1 = 0
      · exact p1_op_4_z xs h
      · exact p1_op_4_n xs h
    | 5, _ => exact p1_op_5 xs
    | 6, _ => exact p1_op_6 xs
    | 7, _ =>
      by_cases h : xs 1 < 0
      · exact p1_op_7_n xs h (i32_5 h)
      · by_cases hl : xs 1 ≤ 10
        · by_cases h5 : xs 1 ≠ 5
          · exact p1_op_7_o xs h hl h5 (i32_l hl)
          · exact p1_op_7_5 xs h hl h5
        · exact p1_op_7_g xs h hl (i32_g hl).1 (i32_g hl).2
    | 8, _ => exact p1_op_8 xs
    | 9, _ => exact p1_op_9 xs
    | 10, _ => exact p1_op_10 xs
    | 11, _ =>
      by_cases h : xs 1 < 0
      · exact p1_op_11_n xs h
      · exact p1_op_11_p xs h (i32_z h)
    | 12, _ => exact p1_op_12 xs
    | 13, _ => exact p1_op_13 xs
    | 14, _ => exact p1_op_14 xs
    | 15, _ => exact p1_op_15 xs
    | 16, _ => exact p1_op_16 xs
    | 17, _ => exact p1_op_17 xs
    | 18, _ => exact p1_op_18 xs
    | 19, _ =>
      by_cases h : xs 2 = 0
      · exact p1_op_19_z xs h
      · exact p1_op_19_n xs h
    | 20, _ => exact p1_op_20 xs
    | 21, _ => exact p1_op_21 xs
    | 22, _ => exact p1_op_22 xs
    | 23, _ => exact p1_op_23 xs
    | 24, _ =>
      by_cases h : xs 1 < 0
      · exact p1_op_24_n xs h
      · exact p1_op_24_p xs h (i32_z h)
    | 25, _ => exact p1_op_25 xs
    | 26, _ => exact p1_op_26 xs
    | 27, _ => exact p1_op_27 xs
    | 28, _ => exact p1_op_28 xs
    | 29, _ =>
      by_cases h : xs 3 = 0
      · exact p1_op_29_z xs h
      · exact p1_op_29_n xs h
    | 30, _ => exact p1_op_30 xs
    | 31, _ => exact p1_op_31 xs
    | 32, _ => exact p1_op_32 xs
    | k + 33, hb => exact absurd (show 32 < k + 33 by omega) hb
theorem p1_run (L : Nat) (hL : L ≤ 6) (xs : Nat → Int32) : ∃ f M', exec (cd (L, xs)) f 40 246 0 (la 0 aScr) [] aM0 = some (some (.inl 1), M') ∧ a_c M' ≤ 600002 ∧ a_z M' ≤ 7302232 := by
  have h : wpS (cdL L xs) (40, [], 246, 0, la 0 aScr, [], aM0) Q1 := by
    by_cases h6 : L < 6
    · exact p1_small xs L h6
    · have : L = 6 := by omega
      subst this
      obtain ⟨k, hk, e⟩ := and63 (xs 0)
      exact p1_cut (p1_all xs _ k hk e)
  obtain ⟨f, r, M', h1, h2, h3, h4⟩ := h
  rw [← cdL_eq] at h1
  subst h2
  exact ⟨f, M', h1, h3, h4⟩

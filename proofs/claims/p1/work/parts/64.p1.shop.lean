set_option maxRecDepth 100000 in
set_option maxHeartbeats 100000000 in
theorem p1_op_1_n (xs : Nat → Int32) (h : xs 1 < 0) : p1K xs 1 := by
  refine cut (sm := 105) (sp := 1) (n := 120) (S' := (_, _, _, _, _, _, _)) rfl ?_
  refine if_S (g := fun x => decide (x < 0)) (t := 18) (nx := 4) (v := xs 1) (b := true) rfl rfl (decide_eq_true h) ?_
  refine cut (sm := 182) (sp := 6) (n := 120) (S' := (_, _, _, _, _, _, _)) rfl ?_
  refine if_S (g := fun x => decide (x < 0)) (t := 17) (nx := 9) (v := xs 1) (b := true) rfl rfl (decide_eq_true h) ?_
  exact fin_S (n := 900) rfl
set_option maxRecDepth 100000 in
set_option maxHeartbeats 100000000 in
theorem p1_op_1_p (xs : Nat → Int32) (h : ¬ xs 1 < 0) (hp : ¬ xs 1 ≤ 0) : p1K xs 1 := by
  refine cut (sm := 105) (sp := 1) (n := 120) (S' := (_, _, _, _, _, _, _)) rfl ?_
  refine if_S (g := fun x => decide (x < 0)) (t := 18) (nx := 4) (v := xs 1) (b := false) rfl rfl (decide_eq_false h) ?_
  refine cut (sm := 105) (sp := 15) (n := 120) (S' := (_, _, _, _, _, _, _)) rfl ?_
  refine ifc_S (g := fun x y => decide (x ≤ y)) (t := 24) (nx := 18) (x := xs 1) (y := 0) (b := false) rfl rfl (decide_eq_false hp) ?_
  refine cut (sm := 182) (sp := 6) (n := 120) (S' := (_, _, _, _, _, _, _)) rfl ?_
  refine if_S (g := fun x => decide (x < 0)) (t := 17) (nx := 9) (v := xs 1) (b := false) rfl rfl (decide_eq_false h) ?_
  refine cut (sm := 182) (sp := 14) (n := 120) (S' := (_, _, _, _, _, _, _)) rfl ?_
  refine ifc_S (g := fun x y => decide (x ≤ y)) (t := 23) (nx := 17) (x := xs 1) (y := 0) (b := false) rfl rfl (decide_eq_false hp) ?_
  exact fin_S (n := 900) rfl
def cE1 : aSt := goS (cdZ 6) 246 277 3000 40 [] 246 268 cLo [.inl 0, .inr (.inr (some 0))] cM
def cM1 : aM := cE1.2.2.2.2.2.2
set_option maxRecDepth 100000 in
set_option maxHeartbeats 100000000 in
theorem cE1_eq : cE1 = (40, [], 246, 277, cLo, [.inl 1, .inr (.inr (some aXS)), .inr (.inr (some 113)), .inl (-1)], cM1) := by
  have h1 : cE1.1 = 40 := rfl
  have h2 : cE1.2.1 = [] := rfl
  have h3 : cE1.2.2.1 = 246 := rfl
  have h4 : cE1.2.2.2.1 = 277 := rfl
  have h5 : cE1.2.2.2.2.1 = cLo := rfl
  have h6 : cE1.2.2.2.2.2.1 = [.inl 1, .inr (.inr (some aXS)), .inr (.inr (some 113)), .inl (-1)] := rfl
  show (cE1.1, cE1.2.1, cE1.2.2.1, cE1.2.2.2.1, cE1.2.2.2.2.1, cE1.2.2.2.2.2.1, cM1) = _
  rw [h1, h2, h3, h4, h5, h6]
set_option maxRecDepth 100000 in
set_option maxHeartbeats 100000000 in
theorem p1_op_1_z (xs : Nat → Int32) (h : xs 1 = 0) : p1K xs 1 := by
  refine cut (sm := 246) (sp := 268) (n := 20) (S' := (40, [], 246, 268, cLo, [.inl (xs 1), .inr (.inr (some 0))], cM)) rfl ?_
  rw [h]
  refine goZ_ok (cdZ_sub (L := 6)) (sm := 246) (sp := 277) (n := 3000) ?_
  rw [show goS (cdZ 6) 246 277 3000 40 [] 246 268 cLo [.inl 0, .inr (.inr (some 0))] cM = _ from cE1_eq]
  refine cut (sm := 246) (sp := 278) (n := 20) (S' := (40, [], 246, 278, cLo, [.inl (xs 1), .inr (.inr (some 113)), .inl (-1)], cM1)) rfl ?_
  rw [h]
  exact fin_S (n := 3000) rfl

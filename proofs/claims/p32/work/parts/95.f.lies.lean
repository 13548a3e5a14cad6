/-! The class's lies and next, functional: printed by wip/gen/funcC.py -/
/-- what narrow answers and leaves -/
def NarR (M M' : aM) (n : Nat) (w k y : Int32) : Prop := (a_I M 95 5 = k ∧ M' = M ∧ y = a_I M 95 6) ∨ (a_I M 95 5 ≠ k ∧ eqE fnr M M' ∧ a_I M' 95 5 = k ∧ (∀ F', 60000 ≤ F' → spn k n F' (sc0 M 30 w) = spn k n 60000 (sc0 M 30 w)) ∧ (((spn k n 60000 (sc0 M 30 w)).2 = true ∧ y = 1 ∧ a_I M' 95 6 = 1 ∧ SpC9 M' (spn k n 60000 (sc0 M 30 w)).1) ∨ ((spn k n 60000 (sc0 M 30 w)).2 = false ∧ y = 0 ∧ a_I M' 95 6 = 0)))
theorem cur_ne (b : Bool) : cur b ≠ 95 ∧ cur b ≠ 99 ∧ cur b ≠ 100 := by cases b <;> decide
theorem LB_956 {b : Bool} {rg : Nat → Nat} {M : aM} (hL : LB b rg M) : isB (a_I M 95 6) = true := isB_of (LB_ty hL (by decide) (by cases b <;> rfl) (by cases b <;> rfl))
theorem nar_b {M M' : aM} {n : Nat} {w k y : Int32} (h6 : isB (a_I M 95 6) = true) (h : NarR M M' n w k y) : y = 0 ∨ y = 1 := by
  rcases h with ⟨_, _, e⟩ | ⟨_, _, _, _, ⟨_, e, _⟩ | ⟨_, e, _⟩⟩
  · rw [e]
    rcases (Bool.or_eq_true _ _).mp h6 with q | q
    · exact Or.inl (of_decide_eq_true q)
    · exact Or.inr (of_decide_eq_true q)
  · exact Or.inr e
  · exact Or.inl e
theorem nar_A {c : Nat} {M M' : aM} {n : Nat} {w k y : Int32} (hA : nv_A nvV (tauC c) M) (h : NarR M M' n w k y) : nv_A nvV (tauC c) M' := by
  rcases h with ⟨_, e, _⟩ | ⟨_, e, _⟩
  · rw [e]; exact hA
  · exact eqE_A e hA
theorem nar_c {c j : Nat} {M M' : aM} {n : Nat} {w k y : Int32} (hc1 : c ≠ 95) (hc2 : c ≠ 99) (hc3 : c ≠ 100) (h : NarR M M' n w k y) : a_I M' c j = a_I M c j := by
  rcases h with ⟨_, e, _⟩ | ⟨_, e, _⟩
  · rw [e]
  · exact e.2.2 c j (by unfold fnr; rw [fcu_c hc1 hc2 hc3, nbF hc1]; rfl)
set_option maxHeartbeats 4000000 in
theorem cf_lies {cd : Nat → Nat → Option aI} {z : Bool} (hz : ∀ m p i, cd0 z m p = some i → cd m p = some i) {b : Bool} {rg : Nat → Nat} {M : aM} (hL : LB b rg M) (x1 x2 x3 : Int32) {n : Nat} {w : Int32} (hn : (a_I M (cur b) 0).toInt = (n : Int)) (hw : a_I M (cur b) 1 = w) (hok : a_I M 0 8 ≠ 0 → 2 ≤ n ∧ n ≤ 30 ∧ BD n (sc0 M 30 w)) {d : Nat} : wpS cd (d + 3, [], 133, 0, nv_l (tauC (cur b)) (la 0 [.inr (.inr (some 0)), .inl x1, .inl x2, .inl x3]), [], M) (fun r M' => ∃ y, r = some (.inl y) ∧ ((¬ (InR (a_I M 0 8) (n : Int) x1 ∧ 0 ≤ x2.toInt ∧ x2.toInt ≤ 99) ∧ y = -1000000 ∧ ∃ v, M' = s_I M 0 9 v) ∨ ((InR (a_I M 0 8) (n : Int) x1 ∧ 0 ≤ x2.toInt ∧ x2.toInt ≤ 99) ∧ ∃ M2 y2 v, NarR M M2 n w x2 y2 ∧ M' = s_I M2 0 9 v ∧ ((y2 = 0 ∧ y = -1000000) ∨ (y2 = 1 ∧ y = if x3 = 0 then a_I M2 99 x1.toInt.toNat else a_I M2 100 x1.toInt.toNat))))) := by
  show wpS cd (nv_S (tauC (cur b)) (d + 3, [], 133, 0, la 0 [.inr (.inr (some 0)), .inl x1, .inl x2, .inl x3], [], M)) _
  have hct := hc_of hz
  have hA := nvV_A hL
  rw [← hn]
  refine nv_cut hct nvV 140 0 6 (S' := (d + 2, [(133, 5, [(0, .inr (.inr (some 0))), (1, .inl x1), (2, .inl x2), (3, .inl x3)], [])], 140, 0, la 0 [.inr (.inr (some 0)), .inl x1], [], M)) hA rfl ?_
  refine nv_calli (cf_inch hz hL x1) (fun y1 N1 ⟨e1, c1⟩ => ?_)
  have e1 := e1.symm
  subst e1
  rcases c1 with ⟨e1, c1⟩ | ⟨e1, c1⟩
  · skip
    subst e1
    refine nv_cut hct nvV 133 15 5 (S' := (d + 3, [], 133, 15, [(0, .inr (.inr (some 0))), (1, .inl x1), (2, .inl x2), (3, .inl x3)], [.inl x2], M)) hA rfl ?_
    by_cases c2 : x2.toInt < 0
    · skip
      refine nv_if hct true rfl (zcT0 rfl c2) ?_
      refine nv_cut hct nvV 133 29 11 (S' := (d + 3, [], 133, 29, [(0, .inr (.inr (some 0))), (1, .inl x1), (2, .inl x2), (3, .inl x3)], [.inl (-1000000 : Int32)], (s_I M 0 9 (2 : Int32)))) hA rfl ?_
      exact nv_iret hct rfl rfl ⟨_, rfl, Or.inl ⟨fun h => by have := h.2; omega, rfl, _, rfl⟩⟩
    · skip
      refine nv_if hct false rfl (zcF0 rfl (by omega)) ?_
      refine nv_cut hct nvV 133 21 5 (S' := (d + 3, [], 133, 21, [(0, .inr (.inr (some 0))), (1, .inl x1), (2, .inl x2), (3, .inl x3)], [.inl (99 : Int32), .inl x2], M)) hA rfl ?_
      by_cases c3 : x2.toInt ≤ 99
      rotate_left
      · skip
        refine nv_ifc hct false rfl (ccF2 rfl (show ((99 : Int32)).toInt = 99 from rfl) (by omega)) ?_
        refine nv_cut hct nvV 133 29 11 (S' := (d + 3, [], 133, 29, [(0, .inr (.inr (some 0))), (1, .inl x1), (2, .inl x2), (3, .inl x3)], [.inl (-1000000 : Int32)], (s_I M 0 9 (2 : Int32)))) hA rfl ?_
        exact nv_iret hct rfl rfl ⟨_, rfl, Or.inl ⟨fun h => by have := h.2; omega, rfl, _, rfl⟩⟩
      · skip
        refine nv_ifc hct true rfl (ccT2 rfl (show ((99 : Int32)).toInt = 99 from rfl) c3) ?_
        obtain ⟨o1, o2, o3⟩ := hok c1.1
        have c9 := c1.2
        obtain ⟨m1, m2, m3⟩ := cur_ne b
        refine nv_cut hct nvV 99 0 9 (S' := (d + 2, [(133, 42, [(0, .inr (.inr (some 0))), (1, .inl x1), (2, .inl x2), (3, .inl x3)], [])], 99, 0, la 0 [.inr (.inr (some 95)), .inr (.inr (some 300)), .inl x2], [], M)) hA rfl ?_
        refine nv_calli (show wpS cd (d + 2, [], 99, 0, nv_l (tauC (cur b)) (la 0 [.inr (.inr (some 95)), .inr (.inr (some 300)), .inl x2]), [], M) (fun r M' => ∃ y, r = some (.inl y) ∧ NarR M M' n w x2 y) from cf_narrow hz m1 m2 m3 hA hn o1 o2 hw (by omega) (LB_956 hL) o3) (fun y2 M2 hN => ?_)
        have hA2 := nar_A hA hN
        rcases nar_b (LB_956 hL) hN with ey | ey
        · skip
          subst ey
          refine nv_cut hct nvV 133 51 12 (S' := (d + 3, [], 133, 51, [(0, .inr (.inr (some 0))), (1, .inl x1), (2, .inl x2), (3, .inl x3)], [.inl (-1000000 : Int32)], (s_I M2 0 9 (6 : Int32)))) hA2 rfl ?_
          exact nv_iret hct rfl rfl ⟨_, rfl, Or.inr ⟨⟨c1, by omega, c3⟩, M2, 0, _, hN, rfl, Or.inl ⟨rfl, rfl⟩⟩⟩
        · skip
          subst ey
          refine nv_cut hct nvV 133 54 6 (S' := (d + 3, [], 133, 54, [(0, .inr (.inr (some 0))), (1, .inl x1), (2, .inl x2), (3, .inl x3)], [.inl x3, .inr (.inr (some 0))], M2)) hA2 rfl ?_
          obtain ⟨j, hj⟩ : ∃ j : Nat, x1.toInt = (j : Int) := ⟨x1.toInt.toNat, by omega⟩
          have hjj : x1.toInt.toNat = j := by omega
          by_cases c4 : x3 = 0
          · skip
            refine nv_if hct true rfl (zcT1 (show _ = x3.toInt from rfl) (by rw [c4]; rfl)) ?_
            refine nv_cut hct nvV 133 77 7 (S' := (d + 3, [], 133, 77, [(0, .inr (.inr (some 0))), (1, .inl x1), (2, .inl x2), (3, .inl x3)], [.inl x1, .inr (.inr (some 99)), .inr (.inr (some 0))], M2)) hA2 rfl ?_
            refine nv_ald hct hA2 rfl (show nvV.1 99 = 15 + 1 from rfl) (show nvV.2.1 99 = 30 + 1 from rfl) (inb_p hj (by omega)) ?_
            refine nv_cut hct nvV 133 81 9 (S' := (d + 3, [], 133, 81, [(0, .inr (.inr (some 0))), (1, .inl x1), (2, .inl x2), (3, .inl x3)], [.inl (a_I M2 99 x1.toNatClampNeg)], (s_I M2 0 9 (0 : Int32)))) hA2 rfl ?_
            exact nv_iret hct rfl rfl ⟨_, rfl, Or.inr ⟨⟨c1, by omega, c3⟩, M2, 1, _, hN, rfl, Or.inr ⟨rfl, by rw [if_pos c4, hjj, tnc hj]⟩⟩⟩
          · skip
            refine nv_if hct false rfl (zcF1 (show _ = x3.toInt from rfl) (fun e => c4 (Int32.toInt_inj.mp e))) ?_
            refine nv_cut hct nvV 133 65 7 (S' := (d + 3, [], 133, 65, [(0, .inr (.inr (some 0))), (1, .inl x1), (2, .inl x2), (3, .inl x3)], [.inl x1, .inr (.inr (some 100)), .inr (.inr (some 0))], M2)) hA2 rfl ?_
            refine nv_ald hct hA2 rfl (show nvV.1 100 = 15 + 1 from rfl) (show nvV.2.1 100 = 30 + 1 from rfl) (inb_p hj (by omega)) ?_
            refine nv_cut hct nvV 133 81 10 (S' := (d + 3, [], 133, 81, [(0, .inr (.inr (some 0))), (1, .inl x1), (2, .inl x2), (3, .inl x3)], [.inl (a_I M2 100 x1.toNatClampNeg)], (s_I M2 0 9 (0 : Int32)))) hA2 rfl ?_
            exact nv_iret hct rfl rfl ⟨_, rfl, Or.inr ⟨⟨c1, by omega, c3⟩, M2, 1, _, hN, rfl, Or.inr ⟨rfl, by rw [if_neg c4, hjj, tnc hj]⟩⟩⟩
  · skip
    subst e1
    refine nv_cut hct nvV 133 13 12 (S' := (d + 3, [], 133, 13, [(0, .inr (.inr (some 0))), (1, .inl x1), (2, .inl x2), (3, .inl x3)], [.inl (-1000000 : Int32)], (s_I M 0 9 (1 : Int32)))) hA rfl ?_
    exact nv_iret hct rfl rfl ⟨_, rfl, Or.inl ⟨fun h => c1 h.1, rfl, _, rfl⟩⟩
set_option maxHeartbeats 4000000 in
theorem cf_wdL {cd : Nat → Nat → Option aI} {z : Bool} (hz : ∀ m p i, cd0 z m p = some i → cd m p = some i) {c : Nat} {M : aM} (hA : nv_A nvV (tauC c) M) {n : Nat} (hn : (a_I M c 0).toInt = (n : Int)) (hn3 : n ≤ 30) {d : Nat} : ∀ (f : Nat) {j bj : Nat} {i bb : Int32}, j + f = n → bj < n → i.toInt = (j : Int) → bb.toInt = (bj : Int) → wpS cd (nv_S (tauC c) (d, [], 102, 4, [(3, .inl i), (2, .inl bb), (0, .inr (.inr (some 95))), (1, .inr (.inr (some 300)))], [], M)) (fun r M' => ∃ y, r = some (.inl y) ∧ M' = M ∧ y.toInt = ((wdI (a_I M 99, a_I M 100) f j bj : Nat) : Int)) := by
  have hct := hc_of hz
  have hin : (a_I M (nv_s (tauC c) 300) 0).toInt = (n : Int) := by rw [nv300]; exact hn
  intro f
  induction f with
  | zero =>
    intro j bj i bb h2 hb hi hbb
    refine nv_cut hct nvV 102 9 6 (S' := (d, [], 102, 9, [(3, .inl i), (2, .inl bb), (0, .inr (.inr (some 95))), (1, .inr (.inr (some 300)))], [.inl (a_I M (nv_s (tauC c) 300) 0), .inl i], M)) hA rfl ?_
    refine nv_ifc hct true rfl (ccT4 hi hin (by omega)) ?_
    refine nv_cut hct nvV 102 56 4 (S' := (d, [], 102, 56, [(3, .inl i), (2, .inl bb), (0, .inr (.inr (some 95))), (1, .inr (.inr (some 300)))], [.inl bb], M)) hA rfl ?_
    exact nv_iret hct rfl rfl ⟨_, rfl, rfl, hbb⟩
  | succ f ih =>
    intro j bj i bb h2 hb hi hbb
    have hip : (i + 1).toInt = ((j + 1 : Nat) : Int) := by rw [add_p hi (by omega) (by omega)]; omega
    have e1 : (a_I M 100 i.toNatClampNeg - a_I M 99 i.toNatClampNeg).toInt = (a_I M 100 j - a_I M 99 j).toInt := by rw [tnc hi]
    have e2 : (a_I M 100 bb.toNatClampNeg - a_I M 99 bb.toNatClampNeg).toInt = (a_I M 100 bj - a_I M 99 bj).toInt := by rw [tnc hbb]
    refine nv_cut hct nvV 102 9 6 (S' := (d, [], 102, 9, [(3, .inl i), (2, .inl bb), (0, .inr (.inr (some 95))), (1, .inr (.inr (some 300)))], [.inl (a_I M (nv_s (tauC c) 300) 0), .inl i], M)) hA rfl ?_
    refine nv_ifc hct false rfl (ccF4 hi hin (by omega)) ?_
    refine nv_cut hct nvV 102 15 5 (S' := (d, [], 102, 15, [(3, .inl i), (2, .inl bb), (0, .inr (.inr (some 95))), (1, .inr (.inr (some 300)))], [.inl (30 : Int32), .inl i], M)) hA rfl ?_
    refine nv_ifc hct false rfl (ccF4 hi (show ((30 : Int32)).toInt = 30 from rfl) (show (j : Int) < 30 by omega)) ?_
    refine nv_cut hct nvV 102 23 6 (S' := (d, [], 102, 23, [(3, .inl i), (2, .inl bb), (0, .inr (.inr (some 95))), (1, .inr (.inr (some 300)))], [.inl i, .inr (.inr (some 100))], M)) hA rfl ?_
    refine nv_ald hct hA rfl (show nvV.1 100 = 15 + 1 from rfl) (show nvV.2.1 100 = 30 + 1 from rfl) (inb_p hi (by omega)) ?_
    refine nv_cut hct nvV 102 29 6 (S' := (d, [], 102, 29, [(3, .inl i), (2, .inl bb), (0, .inr (.inr (some 95))), (1, .inr (.inr (some 300)))], [.inl i, .inr (.inr (some 99)), .inl (a_I M 100 i.toNatClampNeg)], M)) hA rfl ?_
    refine nv_ald hct hA rfl (show nvV.1 99 = 15 + 1 from rfl) (show nvV.2.1 99 = 30 + 1 from rfl) (inb_p hi (by omega)) ?_
    refine nv_cut hct nvV 102 36 7 (S' := (d, [], 102, 36, [(3, .inl i), (2, .inl bb), (0, .inr (.inr (some 95))), (1, .inr (.inr (some 300)))], [.inl bb, .inr (.inr (some 100)), .inl ((a_I M 100 i.toNatClampNeg) - (a_I M 99 i.toNatClampNeg))], M)) hA rfl ?_
    refine nv_ald hct hA rfl (show nvV.1 100 = 15 + 1 from rfl) (show nvV.2.1 100 = 30 + 1 from rfl) (inb_p hbb (by omega)) ?_
    refine nv_cut hct nvV 102 42 6 (S' := (d, [], 102, 42, [(3, .inl i), (2, .inl bb), (0, .inr (.inr (some 95))), (1, .inr (.inr (some 300)))], [.inl bb, .inr (.inr (some 99)), .inl (a_I M 100 bb.toNatClampNeg), .inl ((a_I M 100 i.toNatClampNeg) - (a_I M 99 i.toNatClampNeg))], M)) hA rfl ?_
    refine nv_ald hct hA rfl (show nvV.1 99 = 15 + 1 from rfl) (show nvV.2.1 99 = 30 + 1 from rfl) (inb_p hbb (by omega)) ?_
    refine nv_cut hct nvV 102 44 4 (S' := (d, [], 102, 44, [(3, .inl i), (2, .inl bb), (0, .inr (.inr (some 95))), (1, .inr (.inr (some 300)))], [.inl ((a_I M 100 bb.toNatClampNeg) - (a_I M 99 bb.toNatClampNeg)), .inl ((a_I M 100 i.toNatClampNeg) - (a_I M 99 i.toNatClampNeg))], M)) hA rfl ?_
    by_cases cw : (a_I M 100 bj - a_I M 99 bj).toInt < (a_I M 100 j - a_I M 99 j).toInt
    · skip
      refine nv_ifc hct false rfl (ccF2 e1 e2 (by omega)) ?_
      refine nv_cut hct nvV 102 4 7 (S' := (d, [], 102, 4, [(3, .inl (i + 1)), (2, .inl i), (0, .inr (.inr (some 95))), (1, .inr (.inr (some 300)))], [], M)) hA rfl ?_
      refine wpS_mono (ih (j := j + 1) (bj := j) (by omega) (by omega) hip hi) (fun r M' h => ?_)
      obtain ⟨y, y1, y2, y3⟩ := h
      refine ⟨y, y1, y2, ?_⟩
      rw [y3]; show _ = ((wdI (a_I M 99, a_I M 100) f (j + 1) (if (a_I M 100 bj - a_I M 99 bj).toInt < (a_I M 100 j - a_I M 99 j).toInt then j else bj) : Nat) : Int)
      rw [if_pos cw]
    · skip
      refine nv_ifc hct true rfl (ccT2 e1 e2 (by omega)) ?_
      refine nv_cut hct nvV 102 4 5 (S' := (d, [], 102, 4, [(3, .inl (i + 1)), (2, .inl bb), (0, .inr (.inr (some 95))), (1, .inr (.inr (some 300)))], [], M)) hA rfl ?_
      refine wpS_mono (ih (j := j + 1) (bj := bj) (by omega) (by omega) hip hbb) (fun r M' h => ?_)
      obtain ⟨y, y1, y2, y3⟩ := h
      refine ⟨y, y1, y2, ?_⟩
      rw [y3]; show _ = ((wdI (a_I M 99, a_I M 100) f (j + 1) (if (a_I M 100 bj - a_I M 99 bj).toInt < (a_I M 100 j - a_I M 99 j).toInt then j else bj) : Nat) : Int)
      rw [if_neg cw]
theorem cf_wd {cd : Nat → Nat → Option aI} {z : Bool} (hz : ∀ m p i, cd0 z m p = some i → cd m p = some i) {c : Nat} {M : aM} (hA : nv_A nvV (tauC c) M) {n : Nat} (hn : (a_I M c 0).toInt = (n : Int)) (hn2 : 2 ≤ n) (hn3 : n ≤ 30) {d : Nat} : wpS cd (d, [], 102, 0, nv_l (tauC c) (la 0 [.inr (.inr (some 95)), .inr (.inr (some 300))]), [], M) (fun r M' => ∃ y, r = some (.inl y) ∧ M' = M ∧ y.toInt = ((wdI (a_I M 99, a_I M 100) (n - 1) 1 0 : Nat) : Int)) := by
  show wpS cd (nv_S (tauC c) (d, [], 102, 0, la 0 [.inr (.inr (some 95)), .inr (.inr (some 300))], [], M)) _
  have hct := hc_of hz
  refine nv_cut hct nvV 102 4 7 (S' := (d, [], 102, 4, [(3, .inl (1 : Int32)), (2, .inl (0 : Int32)), (0, .inr (.inr (some 95))), (1, .inr (.inr (some 300)))], [], M)) hA rfl ?_
  exact cf_wdL hz hA hn hn3 (n - 1) (j := 1) (bj := 0) (by omega) (by omega) rfl rfl
set_option maxHeartbeats 4000000 in
theorem cf_next {cd : Nat → Nat → Option aI} {z : Bool} (hz : ∀ m p i, cd0 z m p = some i → cd m p = some i) {b : Bool} {rg : Nat → Nat} {M : aM} (hL : LB b rg M) (x1 : Int32) {n : Nat} {w : Int32} (hn : (a_I M (cur b) 0).toInt = (n : Int)) (hw : a_I M (cur b) 1 = w) (hok : a_I M 0 8 ≠ 0 → 2 ≤ n ∧ n ≤ 30 ∧ BD n (sc0 M 30 w)) {d : Nat} : wpS cd (d + 3, [], 134, 0, nv_l (tauC (cur b)) (la 0 [.inr (.inr (some 0)), .inl x1]), [], M) (fun r M' => ∃ y, r = some (.inl y) ∧ ((¬ (a_I M 0 8 ≠ 0 ∧ 0 ≤ x1.toInt ∧ x1.toInt ≤ 99) ∧ y = -1 ∧ ∃ v, M' = s_I M 0 9 v) ∨ ((a_I M 0 8 ≠ 0 ∧ 0 ≤ x1.toInt ∧ x1.toInt ≤ 99) ∧ ∃ M2 y2 v, NarR M M2 n w x1 y2 ∧ M' = s_I M2 0 9 v ∧ ((y2 = 0 ∧ y = -1) ∨ (y2 = 1 ∧ y.toInt = ((wdI (a_I M2 99, a_I M2 100) (n - 1) 1 0 : Nat) : Int)))))) := by
  show wpS cd (nv_S (tauC (cur b)) (d + 3, [], 134, 0, la 0 [.inr (.inr (some 0)), .inl x1], [], M)) _
  have hct := hc_of hz
  have hA := nvV_A hL
  refine nv_cut hct nvV 134 4 5 (S' := (d + 3, [], 134, 4, [(0, .inr (.inr (some 0))), (1, .inl x1)], [.inl (a_I M 0 8)], M)) hA rfl ?_
  by_cases c0 : a_I M 0 8 = 0
  · skip
    refine nv_if hct false rfl (zcF5 rfl (by rw [c0]; rfl)) ?_
    refine nv_cut hct nvV 134 12 11 (S' := (d + 3, [], 134, 12, [(0, .inr (.inr (some 0))), (1, .inl x1)], [.inl (-1 : Int32)], (s_I M 0 9 (1 : Int32)))) hA rfl ?_
    exact nv_iret hct rfl rfl ⟨_, rfl, Or.inl ⟨fun h => h.1 c0, rfl, _, rfl⟩⟩
  · skip
    refine nv_if hct true rfl (zcT5 rfl (fun e => c0 (Int32.toInt_inj.mp e))) ?_
    refine nv_cut hct nvV 134 14 4 (S' := (d + 3, [], 134, 14, [(0, .inr (.inr (some 0))), (1, .inl x1)], [.inl x1], M)) hA rfl ?_
    by_cases c2 : x1.toInt < 0
    · skip
      refine nv_if hct true rfl (zcT0 rfl c2) ?_
      refine nv_cut hct nvV 134 28 11 (S' := (d + 3, [], 134, 28, [(0, .inr (.inr (some 0))), (1, .inl x1)], [.inl (-1 : Int32)], (s_I M 0 9 (2 : Int32)))) hA rfl ?_
      exact nv_iret hct rfl rfl ⟨_, rfl, Or.inl ⟨fun h => by have := h.2; omega, rfl, _, rfl⟩⟩
    · skip
      refine nv_if hct false rfl (zcF0 rfl (by omega)) ?_
      refine nv_cut hct nvV 134 20 5 (S' := (d + 3, [], 134, 20, [(0, .inr (.inr (some 0))), (1, .inl x1)], [.inl (99 : Int32), .inl x1], M)) hA rfl ?_
      by_cases c3 : x1.toInt ≤ 99
      rotate_left
      · skip
        refine nv_ifc hct false rfl (ccF2 rfl (show ((99 : Int32)).toInt = 99 from rfl) (by omega)) ?_
        refine nv_cut hct nvV 134 28 11 (S' := (d + 3, [], 134, 28, [(0, .inr (.inr (some 0))), (1, .inl x1)], [.inl (-1 : Int32)], (s_I M 0 9 (2 : Int32)))) hA rfl ?_
        exact nv_iret hct rfl rfl ⟨_, rfl, Or.inl ⟨fun h => by have := h.2; omega, rfl, _, rfl⟩⟩
      · skip
        refine nv_ifc hct true rfl (ccT2 rfl (show ((99 : Int32)).toInt = 99 from rfl) c3) ?_
        obtain ⟨o1, o2, o3⟩ := hok c0
        obtain ⟨m1, m2, m3⟩ := cur_ne b
        refine nv_cut hct nvV 99 0 9 (S' := (d + 2, [(134, 41, [(0, .inr (.inr (some 0))), (1, .inl x1)], [])], 99, 0, la 0 [.inr (.inr (some 95)), .inr (.inr (some 300)), .inl x1], [], M)) hA rfl ?_
        refine nv_calli (show wpS cd (d + 2, [], 99, 0, nv_l (tauC (cur b)) (la 0 [.inr (.inr (some 95)), .inr (.inr (some 300)), .inl x1]), [], M) (fun r M' => ∃ y, r = some (.inl y) ∧ NarR M M' n w x1 y) from cf_narrow hz m1 m2 m3 hA hn o1 o2 hw (by omega) (LB_956 hL) o3) (fun y2 M2 hN => ?_)
        have hA2 := nar_A hA hN
        rcases nar_b (LB_956 hL) hN with ey | ey
        · skip
          subst ey
          refine nv_cut hct nvV 134 50 12 (S' := (d + 3, [], 134, 50, [(0, .inr (.inr (some 0))), (1, .inl x1)], [.inl (-1 : Int32)], (s_I M2 0 9 (6 : Int32)))) hA2 rfl ?_
          exact nv_iret hct rfl rfl ⟨_, rfl, Or.inr ⟨⟨c0, by omega, c3⟩, M2, 0, _, hN, rfl, Or.inl ⟨rfl, rfl⟩⟩⟩
        · skip
          subst ey
          refine nv_cut hct nvV 102 0 10 (S' := (d + 2, [(134, 63, [(0, .inr (.inr (some 0))), (1, .inl x1)], [.inr (.inr (some 0))])], 102, 0, la 0 [.inr (.inr (some 95)), .inr (.inr (some 300))], [], M2)) hA2 rfl ?_
          have hn9 : (a_I M2 (cur b) 0).toInt = (n : Int) := by rw [nar_c m1 m2 m3 hN]; exact hn
          refine nv_calli (show wpS cd (d + 2, [], 102, 0, nv_l (tauC (cur b)) (la 0 [.inr (.inr (some 95)), .inr (.inr (some 300))]), [], M2) (fun r M' => ∃ y, r = some (.inl y) ∧ M' = M2 ∧ y.toInt = ((wdI (a_I M2 99, a_I M2 100) (n - 1) 1 0 : Nat) : Int)) from cf_wd hz hA2 hn9 o1 o2) (fun y3 N3 ⟨e3, hy3⟩ => ?_)
          subst e3
          refine nv_cut hct nvV 134 66 9 (S' := (d + 3, [], 134, 66, [(0, .inr (.inr (some 0))), (1, .inl x1)], [.inl y3], (s_I N3 0 9 (0 : Int32)))) hA2 rfl ?_
          exact nv_iret hct rfl rfl ⟨_, rfl, Or.inr ⟨⟨c0, by omega, c3⟩, _, 1, _, hN, rfl, Or.inr ⟨rfl, hy3⟩⟩⟩

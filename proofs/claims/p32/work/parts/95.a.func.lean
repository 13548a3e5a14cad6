/-! felt, forget, wall, clear, functional: printed by wip/gen/funcB.py -/
def InR (hs : Int32) (n : Int) (x : Int32) : Prop := hs ≠ 0 ∧ 0 ≤ x.toInt ∧ x.toInt < n
set_option maxHeartbeats 4000000 in
theorem cf_inch {cd : Nat → Nat → Option aI} {z : Bool} (hz : ∀ m p i, cd0 z m p = some i → cd m p = some i) {b : Bool} {rg : Nat → Nat} {M : aM} (hL : LB b rg M) (x1 : Int32) {d : Nat} : wpS cd (d, [], 140, 0, nv_l (tauC (cur b)) (la 0 [.inr (.inr (some 0)), .inl x1]), [], M) (fun r M' => ∃ y, r = some (.inl y) ∧ M' = M ∧ ((y = 1 ∧ InR (a_I M 0 8) (a_I M (cur b) 0).toInt x1) ∨ (y = 0 ∧ ¬ InR (a_I M 0 8) (a_I M (cur b) 0).toInt x1))) := by
  show wpS cd (nv_S (tauC (cur b)) (d, [], 140, 0, la 0 [.inr (.inr (some 0)), .inl x1], [], M)) _
  have hct := hc_of hz
  have hA := nvV_A hL
  have hin : (a_I M (nv_s (tauC (cur b)) 300) 0).toInt = (a_I M (cur b) 0).toInt := rfl
  refine nv_cut hct nvV 140 4 5 (S' := (d, [], 140, 4, [(0, .inr (.inr (some 0))), (1, .inl x1)], [.inl (a_I M 0 8)], M)) hA rfl ?_
  by_cases c0 : a_I M 0 8 = 0
  · skip
    refine nv_if hct true rfl (zcT1 rfl (by rw [c0]; rfl)) ?_
    refine nv_cut hct nvV 140 27 4 (S' := (d, [], 140, 27, [(0, .inr (.inr (some 0))), (1, .inl x1)], [.inl (0 : Int32)], M)) hA rfl ?_
    exact nv_iret hct rfl rfl ⟨_, rfl, rfl, Or.inr ⟨rfl, fun h => h.1 c0⟩⟩
  · skip
    refine nv_if hct false rfl (zcF1 rfl (fun e => c0 (Int32.toInt_inj.mp e))) ?_
    refine nv_cut hct nvV 140 8 4 (S' := (d, [], 140, 8, [(0, .inr (.inr (some 0))), (1, .inl x1)], [.inl x1], M)) hA rfl ?_
    by_cases c1 : x1.toInt < 0
    · skip
      refine nv_if hct true rfl (zcT0 rfl c1) ?_
      refine nv_cut hct nvV 140 27 4 (S' := (d, [], 140, 27, [(0, .inr (.inr (some 0))), (1, .inl x1)], [.inl (0 : Int32)], M)) hA rfl ?_
      exact nv_iret hct rfl rfl ⟨_, rfl, rfl, Or.inr ⟨rfl, fun h => by have := h.2.1; omega⟩⟩
    · skip
      refine nv_if hct false rfl (zcF0 rfl (by omega)) ?_
      refine nv_cut hct nvV 140 19 7 (S' := (d, [], 140, 19, [(0, .inr (.inr (some 0))), (1, .inl x1)], [.inl (a_I M (nv_s (tauC (cur b)) 300) 0), .inl x1], M)) hA rfl ?_
      by_cases c2 : (a_I M (cur b) 0).toInt ≤ x1.toInt
      · skip
        refine nv_ifc hct true rfl (ccT4 rfl hin c2) ?_
        refine nv_cut hct nvV 140 27 4 (S' := (d, [], 140, 27, [(0, .inr (.inr (some 0))), (1, .inl x1)], [.inl (0 : Int32)], M)) hA rfl ?_
        exact nv_iret hct rfl rfl ⟨_, rfl, rfl, Or.inr ⟨rfl, fun h => by have := h.2.2; omega⟩⟩
      · skip
        refine nv_ifc hct false rfl (ccF4 rfl hin (by omega)) ?_
        refine nv_cut hct nvV 140 27 5 (S' := (d, [], 140, 27, [(0, .inr (.inr (some 0))), (1, .inl x1)], [.inl (1 : Int32)], M)) hA rfl ?_
        exact nv_iret hct rfl rfl ⟨_, rfl, rfl, Or.inl ⟨rfl, c0, by omega, by omega⟩⟩
set_option maxHeartbeats 4000000 in
theorem cf_felt {cd : Nat → Nat → Option aI} {z : Bool} (hz : ∀ m p i, cd0 z m p = some i → cd m p = some i) {b : Bool} {rg : Nat → Nat} {M : aM} (hL : LB b rg M) (x1 x2 : Int32) (h52 : 0 ≤ (a_I M 52 4).toInt) {d : Nat} : wpS cd (d + 1, [], 118, 0, nv_l (tauC (cur b)) (la 0 [.inr (.inr (some 0)), .inl x1, .inl x2]), [], M) (fun r M' => ∃ y, r = some (.inl y) ∧ (((InR (a_I M 0 8) (a_I M (cur b) 0).toInt x1 ∧ (0 ≤ x2.toInt ∧ x2.toInt ≤ 9999) ∧ (a_I M 52 4).toInt < 12) ∧ y = a_I M 52 4 + 1 ∧ a_I M' 52 4 = a_I M 52 4 + 1) ∨ (¬ (InR (a_I M 0 8) (a_I M (cur b) 0).toInt x1 ∧ (0 ≤ x2.toInt ∧ x2.toInt ≤ 9999) ∧ (a_I M 52 4).toInt < 12) ∧ y = -1 ∧ a_I M' 52 4 = a_I M 52 4))) := by
  show wpS cd (nv_S (tauC (cur b)) (d + 1, [], 118, 0, la 0 [.inr (.inr (some 0)), .inl x1, .inl x2], [], M)) _
  have hct := hc_of hz
  have hA := nvV_A hL
  refine nv_cut hct nvV 140 0 6 (S' := (d, [(118, 5, [(0, .inr (.inr (some 0))), (1, .inl x1), (2, .inl x2)], [])], 140, 0, la 0 [.inr (.inr (some 0)), .inl x1], [], M)) hA rfl ?_
  refine nv_calli (cf_inch hz hL x1) (fun y1 N1 ⟨e1, c1⟩ => ?_)
  have e1 := e1.symm
  subst e1
  rcases c1 with ⟨e1, c1⟩ | ⟨e1, c1⟩
  · skip
    subst e1
    refine nv_cut hct nvV 118 15 5 (S' := (d + 1, [], 118, 15, [(0, .inr (.inr (some 0))), (1, .inl x1), (2, .inl x2)], [.inl x2], M)) hA rfl ?_
    by_cases c2 : x2.toInt < 0
    · skip
      refine nv_if hct true rfl (zcT0 rfl c2) ?_
      refine nv_cut hct nvV 118 30 11 (S' := (d + 1, [], 118, 30, [(0, .inr (.inr (some 0))), (1, .inl x1), (2, .inl x2)], [.inl (-1 : Int32)], (s_I M 0 9 (2 : Int32)))) hA rfl ?_
      exact nv_iret hct rfl rfl ⟨_, rfl, Or.inr ⟨fun h => by have := h.2.1; omega, rfl, rfl⟩⟩
    · skip
      refine nv_if hct false rfl (zcF0 rfl (by omega)) ?_
      refine nv_cut hct nvV 118 22 5 (S' := (d + 1, [], 118, 22, [(0, .inr (.inr (some 0))), (1, .inl x1), (2, .inl x2)], [.inl (9999 : Int32), .inl x2], M)) hA rfl ?_
      by_cases c3 : x2.toInt ≤ 9999
      rotate_left
      · skip
        refine nv_ifc hct false rfl (ccF2 rfl (show ((9999 : Int32)).toInt = 9999 from rfl) (by omega)) ?_
        refine nv_cut hct nvV 118 30 11 (S' := (d + 1, [], 118, 30, [(0, .inr (.inr (some 0))), (1, .inl x1), (2, .inl x2)], [.inl (-1 : Int32)], (s_I M 0 9 (2 : Int32)))) hA rfl ?_
        exact nv_iret hct rfl rfl ⟨_, rfl, Or.inr ⟨fun h => by have := h.2.1; omega, rfl, rfl⟩⟩
      · skip
        refine nv_ifc hct true rfl (ccT2 rfl (show ((9999 : Int32)).toInt = 9999 from rfl) c3) ?_
        refine nv_cut hct nvV 118 40 7 (S' := (d + 1, [], 118, 40, [(0, .inr (.inr (some 0))), (1, .inl x1), (2, .inl x2)], [.inl (12 : Int32), .inl (a_I M 52 4)], M)) hA rfl ?_
        by_cases c4 : (a_I M 52 4).toInt < 12
        rotate_left
        · skip
          refine nv_ifc hct false rfl (ccF0 rfl (show ((12 : Int32)).toInt = 12 from rfl) (by omega)) ?_
          refine nv_cut hct nvV 118 48 11 (S' := (d + 1, [], 118, 48, [(0, .inr (.inr (some 0))), (1, .inl x1), (2, .inl x2)], [.inl (-1 : Int32)], (s_I M 0 9 (3 : Int32)))) hA rfl ?_
          exact nv_iret hct rfl rfl ⟨_, rfl, Or.inr ⟨fun h => by have := h.2.2; omega, rfl, rfl⟩⟩
        · skip
          refine nv_ifc hct true rfl (ccT0 rfl (show ((12 : Int32)).toInt = 12 from rfl) c4) ?_
          refine nv_cut hct nvV 40 4 10 (S' := (d, [(118, 58, [(0, .inr (.inr (some 0))), (1, .inl x1), (2, .inl x2)], [])], 40, 4, [(0, .inr (.inr (some 52))), (1, .inl x1), (2, .inl x2)], [.inl (a_I M 52 4)], M)) hA rfl ?_
          refine nv_if hct false rfl (zcF0 rfl (by omega)) ?_
          refine nv_cut hct nvV 40 13 6 (S' := (d, [(118, 58, [(0, .inr (.inr (some 0))), (1, .inl x1), (2, .inl x2)], [])], 40, 13, [(0, .inr (.inr (some 52))), (1, .inl x1), (2, .inl x2)], [.inl (12 : Int32), .inl (a_I M 52 4)], M)) hA rfl ?_
          refine nv_ifc hct false rfl (ccF4 rfl (show ((12 : Int32)).toInt = 12 from rfl) (by omega)) ?_
          refine nv_cut hct nvV 40 25 8 (S' := (d, [(118, 58, [(0, .inr (.inr (some 0))), (1, .inl x1), (2, .inl x2)], [])], 40, 25, [(0, .inr (.inr (some 52))), (1, .inl x1), (2, .inl x2)], [.inl x1, .inl (a_I M 52 4), .inr (.inr (some 54))], M)) hA rfl ?_
          obtain ⟨n, hn⟩ : ∃ n : Nat, (a_I M 52 4).toInt = (n : Int) := ⟨(a_I M 52 4).toInt.toNat, by omega⟩
          refine nv_ast hct hA rfl (show nvV.1 54 = 15 + 1 from rfl) (show nvV.2.1 54 = 12 + 1 from rfl) (inb_p hn (by omega)) ?_
          refine nv_cut hct nvV 40 35 8 (S' := (d, [(118, 58, [(0, .inr (.inr (some 0))), (1, .inl x1), (2, .inl x2)], [])], 40, 35, [(0, .inr (.inr (some 52))), (1, .inl x1), (2, .inl x2)], [.inl x2, .inl (a_I M 52 4), .inr (.inr (some 55))], (s_I M 54 (a_I M 52 4).toNatClampNeg x1))) (nv_As hA) rfl ?_
          refine nv_ast hct (nv_As hA) rfl (show nvV.1 55 = 15 + 1 from rfl) (show nvV.2.1 55 = 12 + 1 from rfl) (inb_p hn (by omega)) ?_
          refine nv_cut hct nvV 118 69 23 (S' := (d + 1, [], 118, 69, [(0, .inr (.inr (some 0))), (1, .inl x1), (2, .inl x2)], [.inl ((a_I M 52 4) + (1 : Int32))], (s_I (s_I (s_I (s_I (s_I M 54 (a_I M 52 4).toNatClampNeg x1) 55 (a_I M 52 4).toNatClampNeg x2) 52 4 ((a_I M 52 4) + (1 : Int32))) 52 6 (0 : Int32)) 0 9 (0 : Int32)))) (nv_As (nv_As hA)) rfl ?_
          exact nv_iret hct rfl rfl ⟨_, rfl, Or.inl ⟨⟨c1, by omega, c4⟩, rfl, rfl⟩⟩
  · skip
    subst e1
    refine nv_cut hct nvV 118 13 12 (S' := (d + 1, [], 118, 13, [(0, .inr (.inr (some 0))), (1, .inl x1), (2, .inl x2)], [.inl (-1 : Int32)], (s_I M 0 9 (1 : Int32)))) hA rfl ?_
    exact nv_iret hct rfl rfl ⟨_, rfl, Or.inr ⟨fun h => c1 h.1, rfl, rfl⟩⟩
set_option maxHeartbeats 4000000 in
theorem cf_forget {cd : Nat → Nat → Option aI} {z : Bool} (hz : ∀ m p i, cd0 z m p = some i → cd m p = some i) {b : Bool} {rg : Nat → Nat} {M : aM} (hL : LB b rg M) {d : Nat} : wpS cd (d + 1, [], 119, 0, nv_l (tauC (cur b)) (la 0 [.inr (.inr (some 0))]), [], M) (fun r M' => ∃ y, r = some (.inl y) ∧ y = a_I M 52 4 ∧ a_I M' 52 4 = 0) := by
  show wpS cd (nv_S (tauC (cur b)) (d + 1, [], 119, 0, la 0 [.inr (.inr (some 0))], [], M)) _
  have hct := hc_of hz
  have hA := nvV_A hL
  refine nv_cut hct nvV 119 16 18 (S' := (d + 1, [], 119, 16, [(1, .inl (a_I M 52 4)), (0, .inr (.inr (some 0)))], [.inl (a_I M 52 4)], (s_I (s_I M 52 4 (0 : Int32)) 52 6 (0 : Int32)))) hA rfl ?_
  exact nv_iret hct rfl rfl ⟨_, rfl, rfl, rfl⟩
set_option maxHeartbeats 4000000 in
theorem cf_wall {cd : Nat → Nat → Option aI} {z : Bool} (hz : ∀ m p i, cd0 z m p = some i → cd m p = some i) {b : Bool} {rg : Nat → Nat} {M : aM} (hL : LB b rg M) (x1 x2 x3 : Int32) (hin : (a_I M (cur b) 0).toInt ≤ 30) {d : Nat} : wpS cd (d + 1, [], 131, 0, nv_l (tauC (cur b)) (la 0 [.inr (.inr (some 0)), .inl x1, .inl x2, .inl x3]), [], M) (fun r M' => ∃ y, r = some (.inl y) ∧ (((InR (a_I M 0 8) (a_I M (cur b) 0).toInt x1 ∧ (-999 ≤ x2.toInt ∧ x3.toInt ≤ 999 ∧ x2.toInt ≤ x3.toInt)) ∧ y = 1 ∧ M' = s_I (s_I (s_I (s_I (s_I M 96 x1.toInt.toNat 1) 97 x1.toInt.toNat x2) 98 x1.toInt.toNat x3) 95 5 (-1)) 0 9 0) ∨ (¬ (InR (a_I M 0 8) (a_I M (cur b) 0).toInt x1 ∧ (-999 ≤ x2.toInt ∧ x3.toInt ≤ 999 ∧ x2.toInt ≤ x3.toInt)) ∧ y = 0 ∧ ∃ k, M' = s_I M 0 9 k))) := by
  show wpS cd (nv_S (tauC (cur b)) (d + 1, [], 131, 0, la 0 [.inr (.inr (some 0)), .inl x1, .inl x2, .inl x3], [], M)) _
  have hct := hc_of hz
  have hA := nvV_A hL
  refine nv_cut hct nvV 140 0 6 (S' := (d, [(131, 5, [(0, .inr (.inr (some 0))), (1, .inl x1), (2, .inl x2), (3, .inl x3)], [])], 140, 0, la 0 [.inr (.inr (some 0)), .inl x1], [], M)) hA rfl ?_
  refine nv_calli (cf_inch hz hL x1) (fun y1 N1 ⟨e1, c1⟩ => ?_)
  have e1 := e1.symm
  subst e1
  rcases c1 with ⟨e1, c1⟩ | ⟨e1, c1⟩
  · skip
    subst e1
    refine nv_cut hct nvV 131 20 6 (S' := (d + 1, [], 131, 20, [(0, .inr (.inr (some 0))), (1, .inl x1), (2, .inl x2), (3, .inl x3)], [.inl (-999 : Int32), .inl x2], M)) hA rfl ?_
    by_cases c2 : x2.toInt < -999
    · skip
      refine nv_ifc hct true rfl (ccT0 rfl (show ((-999 : Int32)).toInt = -999 from rfl) c2) ?_
      refine nv_cut hct nvV 131 42 13 (S' := (d + 1, [], 131, 42, [(0, .inr (.inr (some 0))), (1, .inl x1), (2, .inl x2), (3, .inl x3)], [.inl (0 : Int32)], (s_I M 0 9 (2 : Int32)))) hA rfl ?_
      exact nv_iret hct rfl rfl ⟨_, rfl, Or.inr ⟨fun h => by have := h.2; omega, rfl, _, rfl⟩⟩
    · skip
      refine nv_ifc hct false rfl (ccF0 rfl (show ((-999 : Int32)).toInt = -999 from rfl) (show (-999 : Int) ≤ _ by omega)) ?_
      refine nv_cut hct nvV 131 27 5 (S' := (d + 1, [], 131, 27, [(0, .inr (.inr (some 0))), (1, .inl x1), (2, .inl x2), (3, .inl x3)], [.inl (999 : Int32), .inl x3], M)) hA rfl ?_
      by_cases c3 : 999 < x3.toInt
      · skip
        refine nv_ifc hct true rfl (ccT3 rfl (show ((999 : Int32)).toInt = 999 from rfl) c3) ?_
        refine nv_cut hct nvV 131 42 13 (S' := (d + 1, [], 131, 42, [(0, .inr (.inr (some 0))), (1, .inl x1), (2, .inl x2), (3, .inl x3)], [.inl (0 : Int32)], (s_I M 0 9 (2 : Int32)))) hA rfl ?_
        exact nv_iret hct rfl rfl ⟨_, rfl, Or.inr ⟨fun h => by have := h.2; omega, rfl, _, rfl⟩⟩
      · skip
        refine nv_ifc hct false rfl (ccF3 rfl (show ((999 : Int32)).toInt = 999 from rfl) (show _ ≤ (999 : Int) by omega)) ?_
        refine nv_cut hct nvV 131 32 5 (S' := (d + 1, [], 131, 32, [(0, .inr (.inr (some 0))), (1, .inl x1), (2, .inl x2), (3, .inl x3)], [.inl x3, .inl x2], M)) hA rfl ?_
        by_cases c4 : x2.toInt ≤ x3.toInt
        rotate_left
        · skip
          refine nv_ifc hct false rfl (ccF2 rfl rfl (by omega)) ?_
          refine nv_cut hct nvV 131 42 13 (S' := (d + 1, [], 131, 42, [(0, .inr (.inr (some 0))), (1, .inl x1), (2, .inl x2), (3, .inl x3)], [.inl (0 : Int32)], (s_I M 0 9 (2 : Int32)))) hA rfl ?_
          exact nv_iret hct rfl rfl ⟨_, rfl, Or.inr ⟨fun h => by have := h.2; omega, rfl, _, rfl⟩⟩
        · skip
          refine nv_ifc hct true rfl (ccT2 rfl rfl c4) ?_
          have c5 := c1.2
          obtain ⟨n, hn⟩ : ∃ n : Nat, x1.toInt = (n : Int) := ⟨x1.toInt.toNat, by omega⟩
          refine nv_cut hct nvV 97 1 10 (S' := (d, [(131, 53, [(0, .inr (.inr (some 0))), (1, .inl x1), (2, .inl x2), (3, .inl x3)], [])], 97, 1, [(0, .inr (.inr (some 95))), (1, .inl x1), (2, .inl x2), (3, .inl x3)], [.inl x1], M)) hA rfl ?_
          refine nv_if hct false rfl (zcF0 hn (by omega)) ?_
          refine nv_cut hct nvV 97 7 5 (S' := (d, [(131, 53, [(0, .inr (.inr (some 0))), (1, .inl x1), (2, .inl x2), (3, .inl x3)], [])], 97, 7, [(0, .inr (.inr (some 95))), (1, .inl x1), (2, .inl x2), (3, .inl x3)], [.inl (30 : Int32), .inl x1], M)) hA rfl ?_
          refine nv_ifc hct false rfl (ccF4 hn (show ((30 : Int32)).toInt = 30 from rfl) (show (n : Int) < 30 by omega)) ?_
          refine nv_cut hct nvV 97 16 7 (S' := (d, [(131, 53, [(0, .inr (.inr (some 0))), (1, .inl x1), (2, .inl x2), (3, .inl x3)], [])], 97, 16, [(0, .inr (.inr (some 95))), (1, .inl x1), (2, .inl x2), (3, .inl x3)], [.inl (1 : Int32), .inl x1, .inr (.inr (some 96))], M)) hA rfl ?_
          refine nv_ast hct hA rfl (show nvV.1 96 = 17 + 1 from rfl) (show nvV.2.1 96 = 30 + 1 from rfl) (inb_p hn (by omega)) ?_
          refine nv_cut hct nvV 97 23 7 (S' := (d, [(131, 53, [(0, .inr (.inr (some 0))), (1, .inl x1), (2, .inl x2), (3, .inl x3)], [])], 97, 23, [(0, .inr (.inr (some 95))), (1, .inl x1), (2, .inl x2), (3, .inl x3)], [.inl x2, .inl x1, .inr (.inr (some 97))], (s_I M 96 x1.toNatClampNeg (astf 2 (1 : Int32))))) (nv_As hA) rfl ?_
          refine nv_ast hct (nv_As hA) rfl (show nvV.1 97 = 15 + 1 from rfl) (show nvV.2.1 97 = 30 + 1 from rfl) (inb_p hn (by omega)) ?_
          refine nv_cut hct nvV 97 30 7 (S' := (d, [(131, 53, [(0, .inr (.inr (some 0))), (1, .inl x1), (2, .inl x2), (3, .inl x3)], [])], 97, 30, [(0, .inr (.inr (some 95))), (1, .inl x1), (2, .inl x2), (3, .inl x3)], [.inl x3, .inl x1, .inr (.inr (some 98))], (s_I (s_I M 96 x1.toNatClampNeg (astf 2 (1 : Int32))) 97 x1.toNatClampNeg x2))) (nv_As (nv_As hA)) rfl ?_
          refine nv_ast hct (nv_As (nv_As hA)) rfl (show nvV.1 98 = 15 + 1 from rfl) (show nvV.2.1 98 = 30 + 1 from rfl) (inb_p hn (by omega)) ?_
          refine nv_cut hct nvV 131 60 17 (S' := (d + 1, [], 131, 60, [(0, .inr (.inr (some 0))), (1, .inl x1), (2, .inl x2), (3, .inl x3)], [.inl (1 : Int32)], (s_I (s_I (s_I (s_I (s_I M 96 x1.toNatClampNeg (astf 2 (1 : Int32))) 97 x1.toNatClampNeg x2) 98 x1.toNatClampNeg x3) 95 5 (-1 : Int32)) 0 9 (0 : Int32)))) (nv_As (nv_As (nv_As hA))) rfl ?_
          exact nv_iret hct rfl rfl ⟨_, rfl, Or.inl ⟨⟨c1, by omega, by omega, c4⟩, rfl, by rw [tnc hn, show x1.toInt.toNat = n by omega]; rfl⟩⟩
  · skip
    subst e1
    refine nv_cut hct nvV 131 15 14 (S' := (d + 1, [], 131, 15, [(0, .inr (.inr (some 0))), (1, .inl x1), (2, .inl x2), (3, .inl x3)], [.inl (0 : Int32)], (s_I M 0 9 (1 : Int32)))) hA rfl ?_
    exact nv_iret hct rfl rfl ⟨_, rfl, Or.inr ⟨fun h => c1 h.1, rfl, _, rfl⟩⟩
/-- how many walls are told -/
def cnt (M : aM) : Nat → Nat
  | 0 => 0
  | n + 1 => cnt M n + (if a_I M 96 n = 0 then 0 else 1)
theorem cnt_le {M : aM} : ∀ {n : Nat}, cnt M n ≤ n
  | 0 => Nat.le_refl _
  | n + 1 => by
    have := cnt_le (M := M) (n := n)
    unfold cnt
    split <;> omega
theorem add_0 {x : Int32} {p : Int} (h : x.toInt = p) : (x + 0).toInt = p := by rw [Int32.add_zero]; exact h
def fdw (a k : Nat) : Bool := Nat.beq a 96 || (Nat.beq a 95 && Nat.beq k 5)
set_option maxHeartbeats 4000000 in
theorem cf_hmL {cd : Nat → Nat → Option aI} {z : Bool} (hz : ∀ m p i, cd0 z m p = some i → cd m p = some i) {b : Bool} {rg : Nat → Nat} {M : aM} (hL : LB b rg M) {d : Nat} : ∀ (f : Nat) {j : Nat} {i m : Int32}, j + f = 30 → i.toInt = (j : Int) → m.toInt = (cnt M j : Int) → wpS cd (nv_S (tauC (cur b)) (d, [], 98, 4, [(2, .inl i), (1, .inl m), (0, .inr (.inr (some 95)))], [], M)) (fun r M' => ∃ y, r = some (.inl y) ∧ M' = M ∧ y.toInt = (cnt M 30 : Int)) := by
  have hct := hc_of hz
  have hA := nvV_A hL
  intro f
  induction f with
  | zero =>
    intro j i m h2 hi hm
    refine nv_cut hct nvV 98 7 5 (S' := (d, [], 98, 7, [(2, .inl i), (1, .inl m), (0, .inr (.inr (some 95)))], [.inl (30 : Int32), .inl i], M)) hA rfl ?_
    refine nv_ifc hct true rfl (ccT4 hi (show ((30 : Int32)).toInt = 30 from rfl) (by omega)) ?_
    refine nv_cut hct nvV 98 34 4 (S' := (d, [], 98, 34, [(2, .inl i), (1, .inl m), (0, .inr (.inr (some 95)))], [.inl m], M)) hA rfl ?_
    exact nv_iret hct rfl rfl ⟨_, rfl, rfl, by rw [hm, show j = 30 by omega]⟩
  | succ f ih =>
    intro j i m h2 hi hm
    have hip : (i + 1).toInt = ((j + 1 : Nat) : Int) := by rw [add_p hi (by omega) (by omega)]; omega
    have hc := cnt_le (M := M) (n := j)
    have e : a_I M 96 i.toNatClampNeg = a_I M 96 j := by rw [tnc hi]
    refine nv_cut hct nvV 98 7 5 (S' := (d, [], 98, 7, [(2, .inl i), (1, .inl m), (0, .inr (.inr (some 95)))], [.inl (30 : Int32), .inl i], M)) hA rfl ?_
    refine nv_ifc hct false rfl (ccF4 hi (show ((30 : Int32)).toInt = 30 from rfl) (by omega)) ?_
    refine nv_cut hct nvV 98 16 7 (S' := (d, [], 98, 16, [(2, .inl i), (1, .inl m), (0, .inr (.inr (some 95)))], [.inl i, .inr (.inr (some 96)), .inl m], M)) hA rfl ?_
    refine nv_ald hct hA rfl (show nvV.1 96 = 17 + 1 from rfl) (show nvV.2.1 96 = 30 + 1 from rfl) (inb_p hi (by omega)) ?_
    by_cases c : a_I M 96 j = 0
    · skip
      refine nv_if hct true rfl (zcT1 (x := a_I M 96 i.toNatClampNeg) (congrArg Int32.toInt e) (by rw [c]; rfl)) ?_
      refine nv_cut hct nvV 98 4 8 (S' := (d, [], 98, 4, [(2, .inl (i + 1)), (1, .inl (m + (0 : Int32))), (0, .inr (.inr (some 95)))], [], M)) hA rfl ?_
      refine ih (j := j + 1) (by omega) hip ?_
      show _ = ((cnt M j + (if a_I M 96 j = 0 then 0 else 1) : Nat) : Int)
      rw [if_pos c]; exact add_0 hm
    · skip
      refine nv_if hct false rfl (zcF1 (x := a_I M 96 i.toNatClampNeg) (congrArg Int32.toInt e) (fun q => c (Int32.toInt_inj.mp q))) ?_
      refine nv_cut hct nvV 98 4 9 (S' := (d, [], 98, 4, [(2, .inl (i + 1)), (1, .inl (m + (1 : Int32))), (0, .inr (.inr (some 95)))], [], M)) hA rfl ?_
      refine ih (j := j + 1) (by omega) hip ?_
      show _ = ((cnt M j + (if a_I M 96 j = 0 then 0 else 1) : Nat) : Int)
      rw [if_neg c, add_p hm (by omega) (by omega)]; omega
set_option maxHeartbeats 4000000 in
theorem cf_dwL {cd : Nat → Nat → Option aI} {z : Bool} (hz : ∀ m p i, cd0 z m p = some i → cd m p = some i) {b : Bool} {rg : Nat → Nat} {M : aM} (hL : LB b rg M) {d : Nat} : ∀ (f : Nat) {j : Nat} {i : Int32} {Mk : aM}, j + f = 30 → i.toInt = (j : Int) → eqE fdw M Mk → (∀ k, k < j → a_I Mk 96 k = 0) → wpS cd (nv_S (tauC (cur b)) (d, [], 96, 2, [(1, .inl i), (0, .inr (.inr (some 95)))], [], Mk)) (fun r M' => r = none ∧ eqE fdw M M' ∧ (∀ k, k < 30 → a_I M' 96 k = 0) ∧ a_I M' 95 5 = -1) := by
  have hct := hc_of hz
  intro f
  induction f with
  | zero =>
    intro j i Mk h2 hi hE hk
    have hA := eqE_A hE (nvV_A hL)
    refine nv_cut hct nvV 96 5 5 (S' := (d, [], 96, 5, [(1, .inl i), (0, .inr (.inr (some 95)))], [.inl (30 : Int32), .inl i], Mk)) hA rfl ?_
    refine nv_ifc hct true rfl (ccT4 hi (show ((30 : Int32)).toInt = 30 from rfl) (by omega)) ?_
    refine nv_cut hct nvV 96 26 6 (S' := (d, [], 96, 26, [(1, .inl i), (0, .inr (.inr (some 95)))], [], (s_I Mk 95 5 (-1 : Int32)))) hA rfl ?_
    exact nv_vret hct rfl ⟨rfl, eqE_s hE rfl, fun k hk9 => by rw [aI_nk (by omega)]; exact hk k (by omega), aI_at⟩
  | succ f ih =>
    intro j i Mk h2 hi hE hk
    have hA := eqE_A hE (nvV_A hL)
    have hip : (i + 1).toInt = ((j + 1 : Nat) : Int) := by rw [add_p hi (by omega) (by omega)]; omega
    refine nv_cut hct nvV 96 5 5 (S' := (d, [], 96, 5, [(1, .inl i), (0, .inr (.inr (some 95)))], [.inl (30 : Int32), .inl i], Mk)) hA rfl ?_
    refine nv_ifc hct false rfl (ccF4 hi (show ((30 : Int32)).toInt = 30 from rfl) (by omega)) ?_
    refine nv_cut hct nvV 96 14 7 (S' := (d, [], 96, 14, [(1, .inl i), (0, .inr (.inr (some 95)))], [.inl (0 : Int32), .inl i, .inr (.inr (some 96))], Mk)) hA rfl ?_
    refine nv_ast hct hA rfl (show nvV.1 96 = 17 + 1 from rfl) (show nvV.2.1 96 = 30 + 1 from rfl) (inb_p hi (by omega)) ?_
    refine nv_cut hct nvV 96 2 5 (S' := (d, [], 96, 2, [(1, .inl (i + 1)), (0, .inr (.inr (some 95)))], [], (s_I Mk 96 i.toNatClampNeg (astf 2 (0 : Int32))))) (nv_As hA) rfl ?_
    refine ih (j := j + 1) (by omega) hip (eqE_s hE rfl) (fun k hk9 => ?_)
    rw [tnc hi, aI_sI]
    by_cases e : k = j
    · rw [if_pos ⟨rfl, e⟩]; rfl
    · rw [if_neg (fun q => e q.2)]; exact hk k (by omega)
theorem cf_hm {cd : Nat → Nat → Option aI} {z : Bool} (hz : ∀ m p i, cd0 z m p = some i → cd m p = some i) {b : Bool} {rg : Nat → Nat} {M : aM} (hL : LB b rg M) {d : Nat} : wpS cd (d, [], 98, 0, nv_l (tauC (cur b)) (la 0 [.inr (.inr (some 95))]), [], M) (fun r M' => ∃ y, r = some (.inl y) ∧ M' = M ∧ y.toInt = (cnt M 30 : Int)) := by
  show wpS cd (nv_S (tauC (cur b)) (d, [], 98, 0, la 0 [.inr (.inr (some 95))], [], M)) _
  have hct := hc_of hz
  have hA := nvV_A hL
  refine nv_cut hct nvV 98 4 7 (S' := (d, [], 98, 4, [(2, .inl (0 : Int32)), (1, .inl (0 : Int32)), (0, .inr (.inr (some 95)))], [], M)) hA rfl ?_
  exact cf_hmL hz hL 30 (j := 0) (by omega) rfl rfl
theorem cf_dw {cd : Nat → Nat → Option aI} {z : Bool} (hz : ∀ m p i, cd0 z m p = some i → cd m p = some i) {b : Bool} {rg : Nat → Nat} {M : aM} (hL : LB b rg M) {d : Nat} : wpS cd (d, [], 96, 0, nv_l (tauC (cur b)) (la 0 [.inr (.inr (some 95))]), [], M) (fun r M' => r = none ∧ eqE fdw M M' ∧ (∀ k, k < 30 → a_I M' 96 k = 0) ∧ a_I M' 95 5 = -1) := by
  show wpS cd (nv_S (tauC (cur b)) (d, [], 96, 0, la 0 [.inr (.inr (some 95))], [], M)) _
  have hct := hc_of hz
  have hA := nvV_A hL
  refine nv_cut hct nvV 96 2 5 (S' := (d, [], 96, 2, [(1, .inl (0 : Int32)), (0, .inr (.inr (some 95)))], [], M)) hA rfl ?_
  exact cf_dwL hz hL 30 (j := 0) (by omega) rfl eqE_rf (fun k h => absurd h (Nat.not_lt_zero k))
set_option maxHeartbeats 4000000 in
theorem cf_clear {cd : Nat → Nat → Option aI} {z : Bool} (hz : ∀ m p i, cd0 z m p = some i → cd m p = some i) {b : Bool} {rg : Nat → Nat} {M : aM} (hL : LB b rg M) {d : Nat} : wpS cd (d + 1, [], 132, 0, nv_l (tauC (cur b)) (la 0 [.inr (.inr (some 0))]), [], M) (fun r M' => ∃ y, r = some (.inl y) ∧ y.toInt = (cnt M 30 : Int) ∧ eqE fdw M M' ∧ (∀ k, k < 30 → a_I M' 96 k = 0) ∧ a_I M' 95 5 = -1) := by
  show wpS cd (nv_S (tauC (cur b)) (d + 1, [], 132, 0, la 0 [.inr (.inr (some 0))], [], M)) _
  have hct := hc_of hz
  have hA := nvV_A hL
  refine nv_cut hct nvV 98 0 6 (S' := (d, [(132, 7, [(0, .inr (.inr (some 0)))], [])], 98, 0, la 0 [.inr (.inr (some 95))], [], M)) hA rfl ?_
  refine nv_calli (show wpS cd (d, [], 98, 0, nv_l (tauC (cur b)) (la 0 [.inr (.inr (some 95))]), [], M) (fun r M' => ∃ y, r = some (.inl y) ∧ M' = M ∧ y.toInt = (cnt M 30 : Int)) from cf_hm hz hL) (fun y1 N1 ⟨e1, hy⟩ => ?_)
  subst e1
  have hA := nvV_A hL
  refine nv_cut hct nvV 96 0 7 (S' := (d, [(132, 15, [(1, .inl y1), (0, .inr (.inr (some 0)))], [])], 96, 0, la 0 [.inr (.inr (some 95))], [], N1)) hA rfl ?_
  refine nv_callv (show wpS cd (d, [], 96, 0, nv_l (tauC (cur b)) (la 0 [.inr (.inr (some 95))]), [], N1) (fun r M' => r = none ∧ eqE fdw N1 M' ∧ (∀ k, k < 30 → a_I M' 96 k = 0) ∧ a_I M' 95 5 = -1) from cf_dw hz hL) (fun M2 ⟨E2, h2, h3⟩ => ?_)
  have hA2 := eqE_A E2 hA
  refine nv_cut hct nvV 132 16 4 (S' := (d + 1, [], 132, 16, [(1, .inl y1), (0, .inr (.inr (some 0)))], [.inl y1], M2)) hA2 rfl ?_
  exact nv_iret hct rfl rfl ⟨_, rfl, hy, E2, h2, h3⟩
set_option maxHeartbeats 4000000 in
theorem rf_felt0 {cd : Nat → Nat → Option aI} {z : Bool} (hz : ∀ m p i, cd0 z m p = some i → cd m p = some i) {b : Bool} {rg : Nat → Nat} {M : aM} (hL : LB b rg M) (x1 x2 : Int32) {τ : Nat → Nat} (hA : nv_A nvO τ M) {d : Nat} : wpS cd (d + 1, [], 207, 0, nv_l τ (la 0 [.inr (.inr (some 113)), .inl x1, .inl x2]), [], M) (fun r M' => ∃ y, r = some (.inl y) ∧ y = -1 ∧ a_I M' 113 28 = a_I M 113 28) := by
  show wpS cd (nv_S τ (d + 1, [], 207, 0, la 0 [.inr (.inr (some 113)), .inl x1, .inl x2], [], M)) _
  have hct := hc_of hz
  refine nv_cut hct nvO 207 32 20 (S' := (d + 1, [], 207, 32, [(0, .inr (.inr (some 113))), (1, .inl x1), (2, .inl x2)], [.inl (-1 : Int32)], (s_I (s_I (s_I M 113 0 (0 : Int32)) 113 1 (1 : Int32)) 113 2 (-1 : Int32)))) hA rfl ?_
  exact nv_iret hct rfl rfl ⟨_, rfl, rfl, rfl⟩
set_option maxHeartbeats 4000000 in
theorem rf_felt1 {cd : Nat → Nat → Option aI} {z : Bool} (hz : ∀ m p i, cd0 z m p = some i → cd m p = some i) {b : Bool} {rg : Nat → Nat} {M : aM} (hL : LB b rg M) (hJ : JM rg M) (x1 x2 : Int32) (h28 : 0 ≤ (a_I M 113 28).toInt ∧ (a_I M 113 28).toInt ≤ 12) {u : Nat} (hu : a_P M 113 3 = some u) {d : Nat} : wpS cd (d + 1, [], 207, 0, nv_l (tauN u) (la 0 [.inr (.inr (some 113)), .inl x1, .inl x2]), [], M) (fun r M' => ∃ y, r = some (.inl y) ∧ ((((0 ≤ x1.toInt ∧ x1.toInt < (a_I M u 0).toInt) ∧ (0 ≤ x2.toInt ∧ x2.toInt ≤ 9999) ∧ (a_I M 113 28).toInt < 12) ∧ y = a_I M 113 28 + 1 ∧ a_I M' 113 28 = a_I M 113 28 + 1) ∨ (¬ ((0 ≤ x1.toInt ∧ x1.toInt < (a_I M u 0).toInt) ∧ (0 ≤ x2.toInt ∧ x2.toInt ≤ 9999) ∧ (a_I M 113 28).toInt < 12) ∧ y = -1 ∧ a_I M' 113 28 = a_I M 113 28))) := by
  show wpS cd (nv_S (tauN u) (d + 1, [], 207, 0, la 0 [.inr (.inr (some 113)), .inl x1, .inl x2], [], M)) _
  have hct := hc_of hz
  have hj := JM_u hJ hu
  have hA := LB_nvU hL hu hj
  obtain ⟨⟨n2, n3⟩, _, hu1, hu2, hu3⟩ := JS_in hL hj
  have hU : nv_s (tauN u) 137 = u := by rw [show (137 : Nat) = 137 + 0 from rfl, nv_hi (by omega), Nat.add_zero]
  have hin : (a_I (s_I M 113 0 0) (nv_s (tauN u) 137) 0).toInt = (a_I M u 0).toInt := by rw [hU, aI_nk (fun q => hu3 q.1)]
  refine nv_cut hct nvU 207 13 10 (S' := (d + 1, [], 207, 13, [(0, .inr (.inr (some 113))), (1, .inl x1), (2, .inl x2)], [.inl x1], (s_I M 113 0 (0 : Int32)))) hA rfl ?_
  by_cases c1 : x1.toInt < 0
  · skip
    refine nv_if hct true rfl (zcT0 rfl c1) ?_
    refine nv_cut hct nvU 207 32 14 (S' := (d + 1, [], 207, 32, [(0, .inr (.inr (some 113))), (1, .inl x1), (2, .inl x2)], [.inl (-1 : Int32)], (s_I (s_I (s_I M 113 0 (0 : Int32)) 113 1 (1 : Int32)) 113 2 (-1 : Int32)))) (nv_As hA) rfl ?_
    exact nv_iret hct rfl rfl ⟨_, rfl, Or.inr ⟨fun h => by omega, rfl, rfl⟩⟩
  · skip
    refine nv_if hct false rfl (zcF0 rfl (by omega)) ?_
    refine nv_cut hct nvU 207 24 7 (S' := (d + 1, [], 207, 24, [(0, .inr (.inr (some 113))), (1, .inl x1), (2, .inl x2)], [.inl (a_I (s_I M 113 0 (0 : Int32)) (nv_s (tauN u) 137) 0), .inl x1], (s_I M 113 0 (0 : Int32)))) (nv_As hA) rfl ?_
    by_cases c2 : x1.toInt < (a_I M u 0).toInt
    rotate_left
    · skip
      refine nv_ifc hct false rfl (ccF0 rfl hin (by omega)) ?_
      refine nv_cut hct nvU 207 32 14 (S' := (d + 1, [], 207, 32, [(0, .inr (.inr (some 113))), (1, .inl x1), (2, .inl x2)], [.inl (-1 : Int32)], (s_I (s_I (s_I M 113 0 (0 : Int32)) 113 1 (1 : Int32)) 113 2 (-1 : Int32)))) (nv_As hA) rfl ?_
      exact nv_iret hct rfl rfl ⟨_, rfl, Or.inr ⟨fun h => by omega, rfl, rfl⟩⟩
    · skip
      refine nv_ifc hct true rfl (ccT0 rfl hin c2) ?_
      refine nv_cut hct nvU 156 0 7 (S' := (d, [(207, 41, [(0, .inr (.inr (some 113))), (1, .inl x1), (2, .inl x2)], [])], 156, 0, la 0 [.inl x2, .inl (0 : Int32), .inl (9999 : Int32)], [], (s_I M 113 0 (0 : Int32)))) (nv_As hA) rfl ?_
      refine nv_calli (r_inB hz (nvU_B (nv_As hA))) (fun y1 Ny1 ⟨ey1, cy1⟩ => ?_)
      subst ey1
      rcases cy1 with ⟨ey1, cy1⟩ | ⟨ey1, cy1⟩
      · skip
        subst ey1
        have cy1 : (0 : Int) ≤ x2.toInt ∧ x2.toInt ≤ 9999 := cy1
        refine nv_cut hct nvU 207 56 7 (S' := (d + 1, [], 207, 56, [(0, .inr (.inr (some 113))), (1, .inl x1), (2, .inl x2)], [.inl (12 : Int32), .inl (a_I M 113 28)], (s_I M 113 0 (0 : Int32)))) (nv_As hA) rfl ?_
        by_cases c4 : (a_I M 113 28).toInt = 12
        · skip
          refine nv_ifc hct false rfl (ccF5 rfl (show ((12 : Int32)).toInt = 12 from rfl) c4) ?_
          refine nv_cut hct nvU 207 64 14 (S' := (d + 1, [], 207, 64, [(0, .inr (.inr (some 113))), (1, .inl x1), (2, .inl x2)], [.inl (-1 : Int32)], (s_I (s_I (s_I M 113 0 (0 : Int32)) 113 1 (3 : Int32)) 113 2 (-1 : Int32)))) (nv_As hA) rfl ?_
          exact nv_iret hct rfl rfl ⟨_, rfl, Or.inr ⟨fun h => by omega, rfl, rfl⟩⟩
        · skip
          refine nv_ifc hct true rfl (ccT5 rfl (show ((12 : Int32)).toInt = 12 from rfl) c4) ?_
          refine nv_cut hct nvU 207 74 8 (S' := (d + 1, [], 207, 74, [(0, .inr (.inr (some 113))), (1, .inl x1), (2, .inl x2)], [.inl x1, .inl (a_I M 113 28), .inr (.inr (some 125))], (s_I M 113 0 (0 : Int32)))) (nv_As hA) rfl ?_
          obtain ⟨n, hn⟩ : ∃ n : Nat, (a_I M 113 28).toInt = (n : Int) := ⟨(a_I M 113 28).toInt.toNat, by omega⟩
          refine nv_ast hct (nv_As hA) rfl (show nvU.1 125 = 15 + 1 from rfl) (show nvU.2.1 125 = 12 + 1 from rfl) (inb_p hn (by omega)) ?_
          refine nv_cut hct nvU 207 84 8 (S' := (d + 1, [], 207, 84, [(0, .inr (.inr (some 113))), (1, .inl x1), (2, .inl x2)], [.inl x2, .inl (a_I M 113 28), .inr (.inr (some 126))], (s_I (s_I M 113 0 (0 : Int32)) 125 (a_I M 113 28).toNatClampNeg x1))) (nv_As (nv_As hA)) rfl ?_
          refine nv_ast hct (nv_As (nv_As hA)) rfl (show nvU.1 126 = 15 + 1 from rfl) (show nvU.2.1 126 = 12 + 1 from rfl) (inb_p hn (by omega)) ?_
          refine nv_cut hct nvU 207 103 21 (S' := (d + 1, [], 207, 103, [(0, .inr (.inr (some 113))), (1, .inl x1), (2, .inl x2)], [.inl ((a_I M 113 28) + (1 : Int32))], (s_I (s_I (s_I (s_I (s_I (s_I M 113 0 (0 : Int32)) 125 (a_I M 113 28).toNatClampNeg x1) 126 (a_I M 113 28).toNatClampNeg x2) 113 28 ((a_I M 113 28) + (1 : Int32))) 113 1 (0 : Int32)) 113 2 (-1 : Int32)))) (nv_As (nv_As (nv_As hA))) rfl ?_
          exact nv_iret hct rfl rfl ⟨_, rfl, Or.inl ⟨by omega, rfl, rfl⟩⟩
      · skip
        subst ey1
        have cy1 : x2.toInt < 0 ∨ (9999 : Int) < x2.toInt := cy1
        refine nv_cut hct nvU 207 49 15 (S' := (d + 1, [], 207, 49, [(0, .inr (.inr (some 113))), (1, .inl x1), (2, .inl x2)], [.inl (-1 : Int32)], (s_I (s_I (s_I M 113 0 (0 : Int32)) 113 1 (2 : Int32)) 113 2 (-1 : Int32)))) (nv_As hA) rfl ?_
        exact nv_iret hct rfl rfl ⟨_, rfl, Or.inr ⟨fun h => by omega, rfl, rfl⟩⟩
set_option maxHeartbeats 4000000 in
theorem rf_forget {cd : Nat → Nat → Option aI} {z : Bool} (hz : ∀ m p i, cd0 z m p = some i → cd m p = some i) {b : Bool} {rg : Nat → Nat} {M : aM} (hL : LB b rg M) {d : Nat} : wpS cd (d, [], 208, 0, nv_l id (la 0 [.inr (.inr (some 113))]), [], M) (fun r M' => ∃ y, r = some (.inl y) ∧ y = a_I M 113 28 ∧ a_I M' 113 28 = 0) := by
  show wpS cd (nv_S id (d, [], 208, 0, la 0 [.inr (.inr (some 113))], [], M)) _
  have hct := hc_of hz
  have hA := LB_nv (τ := id) hL
  refine nv_cut hct nvB 208 16 13 (S' := (d, [], 208, 16, [(1, .inl (a_I M 113 28)), (0, .inr (.inr (some 113)))], [.inl (a_I M 113 28)], (s_I (s_I M 113 0 (0 : Int32)) 113 28 (0 : Int32)))) hA rfl ?_
  exact nv_iret hct rfl rfl ⟨_, rfl, rfl, rfl⟩
set_option maxHeartbeats 4000000 in
theorem rf_wall0 {cd : Nat → Nat → Option aI} {z : Bool} (hz : ∀ m p i, cd0 z m p = some i → cd m p = some i) {b : Bool} {rg : Nat → Nat} {M : aM} (hL : LB b rg M) (x1 x2 x3 : Int32) {τ : Nat → Nat} (hA : nv_A nvO τ M) {d : Nat} : wpS cd (d + 1, [], 235, 0, nv_l τ (la 0 [.inr (.inr (some 113)), .inl x1, .inl x2, .inl x3]), [], M) (fun r M' => ∃ y, r = some (.inl y) ∧ y = 0 ∧ ∃ k, M' = s_I (s_I (s_I M 113 0 0) 113 1 k) 113 2 (-1)) := by
  show wpS cd (nv_S τ (d + 1, [], 235, 0, la 0 [.inr (.inr (some 113)), .inl x1, .inl x2, .inl x3], [], M)) _
  have hct := hc_of hz
  refine nv_cut hct nvO 235 32 20 (S' := (d + 1, [], 235, 32, [(0, .inr (.inr (some 113))), (1, .inl x1), (2, .inl x2), (3, .inl x3)], [.inl (0 : Int32)], (s_I (s_I (s_I M 113 0 (0 : Int32)) 113 1 (1 : Int32)) 113 2 (-1 : Int32)))) hA rfl ?_
  exact nv_iret hct rfl rfl ⟨_, rfl, rfl, _, rfl⟩
set_option maxHeartbeats 4000000 in
theorem rf_wall1 {cd : Nat → Nat → Option aI} {z : Bool} (hz : ∀ m p i, cd0 z m p = some i → cd m p = some i) {b : Bool} {rg : Nat → Nat} {M : aM} (hL : LB b rg M) (hJ : JM rg M) (x1 x2 x3 : Int32) {u : Nat} (hu : a_P M 113 3 = some u) {d : Nat} : wpS cd (d + 1, [], 235, 0, nv_l (tauN u) (la 0 [.inr (.inr (some 113)), .inl x1, .inl x2, .inl x3]), [], M) (fun r M' => ∃ y, r = some (.inl y) ∧ ((((0 ≤ x1.toInt ∧ x1.toInt < (a_I M u 0).toInt) ∧ (-999 ≤ x2.toInt ∧ x3.toInt ≤ 999 ∧ x2.toInt ≤ x3.toInt)) ∧ y = 1 ∧ M' = s_I (s_I (s_I (s_I (s_I (s_I (s_I M 113 0 0) 113 37 (a_I M 113 37 + (if a_I M 135 x1.toInt.toNat = 0 then 1 else 0))) 135 x1.toInt.toNat 1) 131 x1.toInt.toNat x2) 132 x1.toInt.toNat x3) 113 1 0) 113 2 (-1)) ∨ (¬ ((0 ≤ x1.toInt ∧ x1.toInt < (a_I M u 0).toInt) ∧ (-999 ≤ x2.toInt ∧ x3.toInt ≤ 999 ∧ x2.toInt ≤ x3.toInt)) ∧ y = 0 ∧ ∃ k, M' = s_I (s_I (s_I M 113 0 0) 113 1 k) 113 2 (-1)))) := by
  show wpS cd (nv_S (tauN u) (d + 1, [], 235, 0, la 0 [.inr (.inr (some 113)), .inl x1, .inl x2, .inl x3], [], M)) _
  have hct := hc_of hz
  have hj := JM_u hJ hu
  have hA := LB_nvU hL hu hj
  obtain ⟨⟨n2, n3⟩, _, hu1, hu2, hu3⟩ := JS_in hL hj
  have hU : nv_s (tauN u) 137 = u := by rw [show (137 : Nat) = 137 + 0 from rfl, nv_hi (by omega), Nat.add_zero]
  have hin : (a_I (s_I M 113 0 0) (nv_s (tauN u) 137) 0).toInt = (a_I M u 0).toInt := by rw [hU, aI_nk (fun q => hu3 q.1)]
  refine nv_cut hct nvU 235 13 10 (S' := (d + 1, [], 235, 13, [(0, .inr (.inr (some 113))), (1, .inl x1), (2, .inl x2), (3, .inl x3)], [.inl x1], (s_I M 113 0 (0 : Int32)))) hA rfl ?_
  by_cases c1 : x1.toInt < 0
  · skip
    refine nv_if hct true rfl (zcT0 rfl c1) ?_
    refine nv_cut hct nvU 235 32 14 (S' := (d + 1, [], 235, 32, [(0, .inr (.inr (some 113))), (1, .inl x1), (2, .inl x2), (3, .inl x3)], [.inl (0 : Int32)], (s_I (s_I (s_I M 113 0 (0 : Int32)) 113 1 (1 : Int32)) 113 2 (-1 : Int32)))) (nv_As hA) rfl ?_
    exact nv_iret hct rfl rfl ⟨_, rfl, Or.inr ⟨fun h => by omega, rfl, _, rfl⟩⟩
  · skip
    refine nv_if hct false rfl (zcF0 rfl (by omega)) ?_
    refine nv_cut hct nvU 235 24 7 (S' := (d + 1, [], 235, 24, [(0, .inr (.inr (some 113))), (1, .inl x1), (2, .inl x2), (3, .inl x3)], [.inl (a_I (s_I M 113 0 (0 : Int32)) (nv_s (tauN u) 137) 0), .inl x1], (s_I M 113 0 (0 : Int32)))) (nv_As hA) rfl ?_
    by_cases c2 : x1.toInt < (a_I M u 0).toInt
    rotate_left
    · skip
      refine nv_ifc hct false rfl (ccF0 rfl hin (by omega)) ?_
      refine nv_cut hct nvU 235 32 14 (S' := (d + 1, [], 235, 32, [(0, .inr (.inr (some 113))), (1, .inl x1), (2, .inl x2), (3, .inl x3)], [.inl (0 : Int32)], (s_I (s_I (s_I M 113 0 (0 : Int32)) 113 1 (1 : Int32)) 113 2 (-1 : Int32)))) (nv_As hA) rfl ?_
      exact nv_iret hct rfl rfl ⟨_, rfl, Or.inr ⟨fun h => by omega, rfl, _, rfl⟩⟩
    · skip
      refine nv_ifc hct true rfl (ccT0 rfl hin c2) ?_
      refine nv_cut hct nvU 156 0 7 (S' := (d, [(235, 43, [(0, .inr (.inr (some 113))), (1, .inl x1), (2, .inl x2), (3, .inl x3)], [])], 156, 0, la 0 [.inl x2, .inl (-999 : Int32), .inl (999 : Int32)], [], (s_I M 113 0 (0 : Int32)))) (nv_As hA) rfl ?_
      refine nv_calli (r_inB hz (nvU_B (nv_As hA))) (fun y1 Ny1 ⟨ey1, cy1⟩ => ?_)
      subst ey1
      rcases cy1 with ⟨ey1, cy1⟩ | ⟨ey1, cy1⟩
      · skip
        subst ey1
        have cy1 : (-999 : Int) ≤ x2.toInt ∧ x2.toInt ≤ 999 := cy1
        refine nv_cut hct nvU 156 0 8 (S' := (d, [(235, 56, [(0, .inr (.inr (some 113))), (1, .inl x1), (2, .inl x2), (3, .inl x3)], [])], 156, 0, la 0 [.inl x3, .inl (-999 : Int32), .inl (999 : Int32)], [], (s_I M 113 0 (0 : Int32)))) (nv_As hA) rfl ?_
        refine nv_calli (r_inB hz (nvU_B (nv_As hA))) (fun y2 Ny2 ⟨ey2, cy2⟩ => ?_)
        subst ey2
        rcases cy2 with ⟨ey2, cy2⟩ | ⟨ey2, cy2⟩
        · skip
          subst ey2
          have cy2 : (-999 : Int) ≤ x3.toInt ∧ x3.toInt ≤ 999 := cy2
          refine nv_cut hct nvU 235 61 6 (S' := (d + 1, [], 235, 61, [(0, .inr (.inr (some 113))), (1, .inl x1), (2, .inl x2), (3, .inl x3)], [.inl x3, .inl x2], (s_I M 113 0 (0 : Int32)))) (nv_As hA) rfl ?_
          by_cases c4 : x2.toInt ≤ x3.toInt
          rotate_left
          · skip
            refine nv_ifc hct false rfl (ccF2 rfl rfl (by omega)) ?_
            refine nv_cut hct nvU 235 69 14 (S' := (d + 1, [], 235, 69, [(0, .inr (.inr (some 113))), (1, .inl x1), (2, .inl x2), (3, .inl x3)], [.inl (0 : Int32)], (s_I (s_I (s_I M 113 0 (0 : Int32)) 113 1 (2 : Int32)) 113 2 (-1 : Int32)))) (nv_As hA) rfl ?_
            exact nv_iret hct rfl rfl ⟨_, rfl, Or.inr ⟨fun h => by omega, rfl, _, rfl⟩⟩
          · skip
            refine nv_ifc hct true rfl (ccT2 rfl rfl c4) ?_
            refine nv_cut hct nvU 235 80 9 (S' := (d + 1, [], 235, 80, [(0, .inr (.inr (some 113))), (1, .inl x1), (2, .inl x2), (3, .inl x3)], [.inl x1, .inr (.inr (some 135)), .inl (a_I M 113 37), .inr (.inr (some 113))], (s_I M 113 0 (0 : Int32)))) (nv_As hA) rfl ?_
            obtain ⟨n, hn⟩ : ∃ n : Nat, x1.toInt = (n : Int) := ⟨x1.toInt.toNat, by omega⟩
            have hnn : x1.toInt.toNat = n := by omega
            have e5 : a_I M 135 x1.toNatClampNeg = a_I M 135 n := by rw [tnc hn]
            refine nv_ald hct (nv_As hA) rfl (show nvU.1 135 = 17 + 1 from rfl) (show nvU.2.1 135 = 30 + 1 from rfl) (inb_p hn (by omega)) ?_
            by_cases c5 : a_I M 135 n = 0
            · skip
              refine nv_if hct true rfl (zcT1 (x := a_I M 135 x1.toNatClampNeg) (congrArg Int32.toInt e5) (by rw [c5]; rfl)) ?_
              refine nv_cut hct nvU 235 99 10 (S' := (d + 1, [], 235, 99, [(0, .inr (.inr (some 113))), (1, .inl x1), (2, .inl x2), (3, .inl x3)], [.inl (1 : Int32), .inl x1, .inr (.inr (some 135))], (s_I (s_I M 113 0 (0 : Int32)) 113 37 ((a_I M 113 37) + (1 : Int32))))) (nv_As hA) rfl ?_
              refine nv_ast hct (nv_As (nv_As hA)) rfl (show nvU.1 135 = 17 + 1 from rfl) (show nvU.2.1 135 = 30 + 1 from rfl) (inb_p hn (by omega)) ?_
              refine nv_cut hct nvU 235 106 7 (S' := (d + 1, [], 235, 106, [(0, .inr (.inr (some 113))), (1, .inl x1), (2, .inl x2), (3, .inl x3)], [.inl x2, .inl x1, .inr (.inr (some 131))], (s_I (s_I (s_I M 113 0 (0 : Int32)) 113 37 ((a_I M 113 37) + (1 : Int32))) 135 x1.toNatClampNeg (astf 2 (1 : Int32))))) (nv_As (nv_As (nv_As hA))) rfl ?_
              refine nv_ast hct (nv_As (nv_As (nv_As hA))) rfl (show nvU.1 131 = 15 + 1 from rfl) (show nvU.2.1 131 = 30 + 1 from rfl) (inb_p hn (by omega)) ?_
              refine nv_cut hct nvU 235 113 7 (S' := (d + 1, [], 235, 113, [(0, .inr (.inr (some 113))), (1, .inl x1), (2, .inl x2), (3, .inl x3)], [.inl x3, .inl x1, .inr (.inr (some 132))], (s_I (s_I (s_I (s_I M 113 0 (0 : Int32)) 113 37 ((a_I M 113 37) + (1 : Int32))) 135 x1.toNatClampNeg (astf 2 (1 : Int32))) 131 x1.toNatClampNeg x2))) (nv_As (nv_As (nv_As (nv_As hA)))) rfl ?_
              refine nv_ast hct (nv_As (nv_As (nv_As (nv_As hA)))) rfl (show nvU.1 132 = 15 + 1 from rfl) (show nvU.2.1 132 = 30 + 1 from rfl) (inb_p hn (by omega)) ?_
              refine nv_cut hct nvU 235 118 13 (S' := (d + 1, [], 235, 118, [(0, .inr (.inr (some 113))), (1, .inl x1), (2, .inl x2), (3, .inl x3)], [.inl (1 : Int32)], (s_I (s_I (s_I (s_I (s_I (s_I (s_I M 113 0 (0 : Int32)) 113 37 ((a_I M 113 37) + (1 : Int32))) 135 x1.toNatClampNeg (astf 2 (1 : Int32))) 131 x1.toNatClampNeg x2) 132 x1.toNatClampNeg x3) 113 1 (0 : Int32)) 113 2 (-1 : Int32)))) (nv_As (nv_As (nv_As (nv_As (nv_As hA))))) rfl ?_
              exact nv_iret hct rfl rfl ⟨_, rfl, Or.inl ⟨by omega, rfl, by rw [hnn, if_pos c5, tnc hn]; rfl⟩⟩
            · skip
              refine nv_if hct false rfl (zcF1 (x := a_I M 135 x1.toNatClampNeg) (congrArg Int32.toInt e5) (fun q => c5 (Int32.toInt_inj.mp q))) ?_
              refine nv_cut hct nvU 235 99 11 (S' := (d + 1, [], 235, 99, [(0, .inr (.inr (some 113))), (1, .inl x1), (2, .inl x2), (3, .inl x3)], [.inl (1 : Int32), .inl x1, .inr (.inr (some 135))], (s_I (s_I M 113 0 (0 : Int32)) 113 37 ((a_I M 113 37) + (0 : Int32))))) (nv_As hA) rfl ?_
              refine nv_ast hct (nv_As (nv_As hA)) rfl (show nvU.1 135 = 17 + 1 from rfl) (show nvU.2.1 135 = 30 + 1 from rfl) (inb_p hn (by omega)) ?_
              refine nv_cut hct nvU 235 106 7 (S' := (d + 1, [], 235, 106, [(0, .inr (.inr (some 113))), (1, .inl x1), (2, .inl x2), (3, .inl x3)], [.inl x2, .inl x1, .inr (.inr (some 131))], (s_I (s_I (s_I M 113 0 (0 : Int32)) 113 37 ((a_I M 113 37) + (0 : Int32))) 135 x1.toNatClampNeg (astf 2 (1 : Int32))))) (nv_As (nv_As (nv_As hA))) rfl ?_
              refine nv_ast hct (nv_As (nv_As (nv_As hA))) rfl (show nvU.1 131 = 15 + 1 from rfl) (show nvU.2.1 131 = 30 + 1 from rfl) (inb_p hn (by omega)) ?_
              refine nv_cut hct nvU 235 113 7 (S' := (d + 1, [], 235, 113, [(0, .inr (.inr (some 113))), (1, .inl x1), (2, .inl x2), (3, .inl x3)], [.inl x3, .inl x1, .inr (.inr (some 132))], (s_I (s_I (s_I (s_I M 113 0 (0 : Int32)) 113 37 ((a_I M 113 37) + (0 : Int32))) 135 x1.toNatClampNeg (astf 2 (1 : Int32))) 131 x1.toNatClampNeg x2))) (nv_As (nv_As (nv_As (nv_As hA)))) rfl ?_
              refine nv_ast hct (nv_As (nv_As (nv_As (nv_As hA)))) rfl (show nvU.1 132 = 15 + 1 from rfl) (show nvU.2.1 132 = 30 + 1 from rfl) (inb_p hn (by omega)) ?_
              refine nv_cut hct nvU 235 118 13 (S' := (d + 1, [], 235, 118, [(0, .inr (.inr (some 113))), (1, .inl x1), (2, .inl x2), (3, .inl x3)], [.inl (1 : Int32)], (s_I (s_I (s_I (s_I (s_I (s_I (s_I M 113 0 (0 : Int32)) 113 37 ((a_I M 113 37) + (0 : Int32))) 135 x1.toNatClampNeg (astf 2 (1 : Int32))) 131 x1.toNatClampNeg x2) 132 x1.toNatClampNeg x3) 113 1 (0 : Int32)) 113 2 (-1 : Int32)))) (nv_As (nv_As (nv_As (nv_As (nv_As hA))))) rfl ?_
              exact nv_iret hct rfl rfl ⟨_, rfl, Or.inl ⟨by omega, rfl, by rw [hnn, if_neg c5, tnc hn]; rfl⟩⟩
        · skip
          subst ey2
          have cy2 : x3.toInt < -999 ∨ (999 : Int) < x3.toInt := cy2
          refine nv_cut hct nvU 235 69 15 (S' := (d + 1, [], 235, 69, [(0, .inr (.inr (some 113))), (1, .inl x1), (2, .inl x2), (3, .inl x3)], [.inl (0 : Int32)], (s_I (s_I (s_I M 113 0 (0 : Int32)) 113 1 (2 : Int32)) 113 2 (-1 : Int32)))) (nv_As hA) rfl ?_
          exact nv_iret hct rfl rfl ⟨_, rfl, Or.inr ⟨fun h => by omega, rfl, _, rfl⟩⟩
      · skip
        subst ey1
        have cy1 : x2.toInt < -999 ∨ (999 : Int) < x2.toInt := cy1
        refine nv_cut hct nvU 235 69 15 (S' := (d + 1, [], 235, 69, [(0, .inr (.inr (some 113))), (1, .inl x1), (2, .inl x2), (3, .inl x3)], [.inl (0 : Int32)], (s_I (s_I (s_I M 113 0 (0 : Int32)) 113 1 (2 : Int32)) 113 2 (-1 : Int32)))) (nv_As hA) rfl ?_
        exact nv_iret hct rfl rfl ⟨_, rfl, Or.inr ⟨fun h => by omega, rfl, _, rfl⟩⟩
def fcw (a k : Nat) : Bool := Nat.beq a 135 || (Nat.beq a 113 && (Nat.beq k 0 || Nat.beq k 37))
set_option maxHeartbeats 4000000 in
theorem rf_clL {cd : Nat → Nat → Option aI} {z : Bool} (hz : ∀ m p i, cd0 z m p = some i → cd m p = some i) {b : Bool} {rg : Nat → Nat} {M : aM} (hL : LB b rg M) {m : Int32} {d : Nat} : ∀ (f : Nat) {j : Nat} {i : Int32} {Mk : aM}, j + f = 30 → i.toInt = (j : Int) → eqE fcw M Mk → (∀ k, k < j → a_I Mk 135 k = 0) → a_I Mk 113 37 = 0 → wpS cd (nv_S id (d, [], 236, 17, [(2, .inl i), (1, .inl m), (0, .inr (.inr (some 113)))], [], Mk)) (fun r M' => ∃ y, r = some (.inl y) ∧ y = m ∧ eqE fcw M M' ∧ (∀ k, k < 30 → a_I M' 135 k = 0) ∧ a_I M' 113 37 = 0) := by
  have hct := hc_of hz
  intro f
  induction f with
  | zero =>
    intro j i Mk h2 hi hE hk h37
    have hA := eqE_A hE (LB_nv (τ := id) hL)
    refine nv_cut hct nvB 236 20 5 (S' := (d, [], 236, 20, [(2, .inl i), (1, .inl m), (0, .inr (.inr (some 113)))], [.inl (30 : Int32), .inl i], Mk)) hA rfl ?_
    refine nv_ifc hct true rfl (ccT4 hi (show ((30 : Int32)).toInt = 30 from rfl) (by omega)) ?_
    refine nv_cut hct nvB 236 37 4 (S' := (d, [], 236, 37, [(2, .inl i), (1, .inl m), (0, .inr (.inr (some 113)))], [.inl m], Mk)) hA rfl ?_
    exact nv_iret hct rfl rfl ⟨_, rfl, rfl, hE, fun k hk9 => hk k (by omega), h37⟩
  | succ f ih =>
    intro j i Mk h2 hi hE hk h37
    have hA := eqE_A hE (LB_nv (τ := id) hL)
    have hip : (i + 1).toInt = ((j + 1 : Nat) : Int) := by rw [add_p hi (by omega) (by omega)]; omega
    refine nv_cut hct nvB 236 20 5 (S' := (d, [], 236, 20, [(2, .inl i), (1, .inl m), (0, .inr (.inr (some 113)))], [.inl (30 : Int32), .inl i], Mk)) hA rfl ?_
    refine nv_ifc hct false rfl (ccF4 hi (show ((30 : Int32)).toInt = 30 from rfl) (by omega)) ?_
    refine nv_cut hct nvB 236 29 7 (S' := (d, [], 236, 29, [(2, .inl i), (1, .inl m), (0, .inr (.inr (some 113)))], [.inl (0 : Int32), .inl i, .inr (.inr (some 135))], Mk)) hA rfl ?_
    refine nv_ast hct hA rfl (show nvB.1 135 = 17 + 1 from rfl) (show nvB.2.1 135 = 30 + 1 from rfl) (inb_p hi (by omega)) ?_
    refine nv_cut hct nvB 236 17 5 (S' := (d, [], 236, 17, [(2, .inl (i + 1)), (1, .inl m), (0, .inr (.inr (some 113)))], [], (s_I Mk 135 i.toNatClampNeg (astf 2 (0 : Int32))))) (nv_As hA) rfl ?_
    refine ih (j := j + 1) (by omega) hip (eqE_s hE rfl) (fun k hk9 => ?_) (by rw [aI_nk (by omega)]; exact h37)
    rw [tnc hi, aI_sI]
    by_cases e : k = j
    · rw [if_pos ⟨rfl, e⟩]; rfl
    · rw [if_neg (fun q => e q.2)]; exact hk k (by omega)
set_option maxHeartbeats 4000000 in
theorem rf_clear {cd : Nat → Nat → Option aI} {z : Bool} (hz : ∀ m p i, cd0 z m p = some i → cd m p = some i) {b : Bool} {rg : Nat → Nat} {M : aM} (hL : LB b rg M) {d : Nat} : wpS cd (d, [], 236, 0, nv_l id (la 0 [.inr (.inr (some 113))]), [], M) (fun r M' => ∃ y, r = some (.inl y) ∧ y = a_I M 113 37 ∧ eqE fcw M M' ∧ (∀ k, k < 30 → a_I M' 135 k = 0) ∧ a_I M' 113 37 = 0) := by
  show wpS cd (nv_S id (d, [], 236, 0, la 0 [.inr (.inr (some 113))], [], M)) _
  have hct := hc_of hz
  have hA := LB_nv (τ := id) hL
  refine nv_cut hct nvB 236 17 14 (S' := (d, [], 236, 17, [(2, .inl (0 : Int32)), (1, .inl (a_I M 113 37)), (0, .inr (.inr (some 113)))], [], (s_I (s_I M 113 0 (0 : Int32)) 113 37 (0 : Int32)))) hA rfl ?_
  exact rf_clL hz hL 30 (j := 0) (by omega) rfl (eqE_s (eqE_s eqE_rf rfl) rfl) (fun k h => absurd h (Nat.not_lt_zero k)) aI_at

/-! The class's narrow, functional: printed by wip/gen/narrow.py -/
def SpC9 (M : aM) (a : spA) : Prop := (∀ j, a_I M 99 j = a.1 j) ∧ ∀ j, a_I M 100 j = a.2 j
def fcu (a k : Nat) : Bool := (Nat.beq a 99 || Nat.beq a 100) || (Nat.beq a 95 && (Nat.beq k 6 || Nat.beq k 7))
theorem SpC9_w {M M' : aM} {a : spA} {j : Nat} {v w : Int32} (h : SpC9 M a) (h1 : ∀ i, a_I M' 99 i = if i = j then v else a_I M 99 i) (h2 : ∀ i, a_I M' 100 i = if i = j then w else a_I M 100 i) : SpC9 M' (upF a.1 j v, upF a.2 j w) := by
  refine ⟨fun i => ?_, fun i => ?_⟩
  · rw [h1 i, h.1 i]; rfl
  · rw [h2 i, h.2 i]; rfl
theorem ifj {M : aM} {x i j : Nat} {v : Int32} : (if x = x ∧ i = j then v else a_I M x i) = if i = j then v else a_I M x i := by
  by_cases e : i = j
  · rw [if_pos ⟨rfl, e⟩, if_pos e]
  · rw [if_neg (fun q => e q.2), if_neg e]
theorem ifs {f : Nat → Int32} {i j : Nat} : f i = if i = j then f j else f i := by
  by_cases e : i = j
  · rw [if_pos e, e]
  · rw [if_neg e]
theorem cf_fd {cd : Nat → Nat → Option aI} {z : Bool} (hz : ∀ m p i, cd0 z m p = some i → cd m p = some i) {c : Nat} {M : aM} (hA : nv_A nvV (tauC c) M) {x : Int32} {d : Nat} : wpS cd (d, [], 243, 0, nv_l (tauC c) (la 0 [.inl x, .inl (2 : Int32)]), [], M) (fun r M' => ∃ y, r = some (.inl y) ∧ M' = M ∧ y = fdI x) := by
  show wpS cd (nv_S (tauC c) (d, [], 243, 0, la 0 [.inl x, .inl (2 : Int32)], [], M)) _
  have hct := hc_of hz
  refine nv_cut hct nvV 243 7 10 (S' := (d, [], 243, 7, [(2, .inl (divf 0 x (2 : Int32))), (0, .inl x), (1, .inl (2 : Int32))], [.inl (binf 7 x (2 : Int32))], M)) hA rfl ?_
  cases hb : cmp0 4 (binf 7 x 2) with
  | true =>
    refine nv_if hct true rfl hb ?_
    refine nv_cut hct nvV 243 22 4 (S' := (d, [], 243, 22, [(2, .inl (divf 0 x (2 : Int32))), (0, .inl x), (1, .inl (2 : Int32))], [.inl (divf 0 x (2 : Int32))], M)) hA rfl ?_
    exact nv_iret hct rfl rfl ⟨_, rfl, rfl, by unfold fdI; rw [hb]; rfl⟩
  | false =>
    refine nv_if hct false rfl hb ?_
    refine nv_cut hct nvV 243 14 7 (S' := (d, [], 243, 14, [(2, .inl (divf 0 x (2 : Int32))), (0, .inl x), (1, .inl (2 : Int32))], [.inl x, .inl ((divf 0 x (2 : Int32)) * (2 : Int32))], M)) hA rfl ?_
    cases hd : cmpf 1 (divf 0 x 2 * 2) x with
    | true =>
      refine nv_ifc hct true rfl hd ?_
      refine nv_cut hct nvV 243 22 4 (S' := (d, [], 243, 22, [(2, .inl (divf 0 x (2 : Int32))), (0, .inl x), (1, .inl (2 : Int32))], [.inl (divf 0 x (2 : Int32))], M)) hA rfl ?_
      exact nv_iret hct rfl rfl ⟨_, rfl, rfl, by unfold fdI; rw [hb, hd]; rfl⟩
    | false =>
      refine nv_ifc hct false rfl hd ?_
      refine nv_cut hct nvV 243 20 6 (S' := (d, [], 243, 20, [(2, .inl (divf 0 x (2 : Int32))), (0, .inl x), (1, .inl (2 : Int32))], [.inl ((divf 0 x (2 : Int32)) - (1 : Int32))], M)) hA rfl ?_
      exact nv_iret hct rfl rfl ⟨_, rfl, rfl, by unfold fdI; rw [hb, hd]; rfl⟩
theorem cf_cut0 {cd : Nat → Nat → Option aI} {z : Bool} (hz : ∀ m p i, cd0 z m p = some i → cd m p = some i) {c : Nat} {M : aM} (hA : nv_A nvV (tauC c) M) {i l h : Int32} (hp : a_I M 95 6 = 0) {d : Nat} : wpS cd (d, [], 101, 0, nv_l (tauC c) (la 0 [.inr (.inr (some 95)), .inl i, .inl l, .inl h]), [], M) (fun r M' => r = none ∧ M' = M) := by
  show wpS cd (nv_S (tauC c) (d, [], 101, 0, la 0 [.inr (.inr (some 95)), .inl i, .inl l, .inl h], [], M)) _
  have hct := hc_of hz
  refine nv_cut hct nvV 101 4 5 (S' := (d, [], 101, 4, [(0, .inr (.inr (some 95))), (1, .inl i), (2, .inl l), (3, .inl h)], [.inl (a_I M 95 6)], M)) hA rfl ?_
  refine nv_if hct true rfl (zcT1 rfl (by rw [hp]; rfl)) ?_
  refine nv_cut hct nvV 101 17 3 (S' := (d, [], 101, 17, [(0, .inr (.inr (some 95))), (1, .inl i), (2, .inl l), (3, .inl h)], [], M)) hA rfl ?_
  exact nv_vret hct rfl ⟨rfl, rfl⟩
set_option maxHeartbeats 8000000 in
theorem cf_cut1 {cd : Nat → Nat → Option aI} {z : Bool} (hz : ∀ m p i, cd0 z m p = some i → cd m p = some i) {c : Nat} {M : aM} (hA : nv_A nvV (tauC c) M) {a : spA} (hS : SpC9 M a) {j : Nat} {i l h : Int32} (hi : i.toInt = (j : Int)) (hj : j < 30) (hp : a_I M 95 6 = 1) {d : Nat} : wpS cd (d, [], 101, 0, nv_l (tauC c) (la 0 [.inr (.inr (some 95)), .inl i, .inl l, .inl h]), [], M) (fun r M' => r = none ∧ eqE fcu M M' ∧ SpC9 M' (spC j l h a).1 ∧ a_I M' 95 6 = (bif spE (spC j l h a).1 j then 0 else 1) ∧ a_I M' 95 7 = (bif (spC j l h a).2 then 1 else a_I M 95 7)) := by
  show wpS cd (nv_S (tauC c) (d, [], 101, 0, la 0 [.inr (.inr (some 95)), .inl i, .inl l, .inl h], [], M)) _
  have hct := hc_of hz
  have e1 : a_I M 99 i.toNatClampNeg = a.1 j := by rw [tnc hi]; exact hS.1 j
  have e2 : a_I M 100 i.toNatClampNeg = a.2 j := by rw [tnc hi]; exact hS.2 j
  have c9 : ∀ (c : l.toInt ≤ (a.1 j).toInt ∧ (a.2 j).toInt ≤ h.toInt), spC j l h a = (a, false) := fun c => by unfold spC; rw [if_pos c]
  have c8 : ∀ (c : ¬ (l.toInt ≤ (a.1 j).toInt ∧ (a.2 j).toInt ≤ h.toInt)), spC j l h a = ((upF a.1 j (if (a.1 j).toInt < l.toInt then l else a.1 j), upF a.2 j (if h.toInt < (a.2 j).toInt then h else a.2 j)), true) := fun c => by unfold spC; rw [if_neg c]
  refine nv_cut hct nvV 101 4 5 (S' := (d, [], 101, 4, [(0, .inr (.inr (some 95))), (1, .inl i), (2, .inl l), (3, .inl h)], [.inl (a_I M 95 6)], M)) hA rfl ?_
  refine nv_if hct false rfl (zcF1 rfl (by rw [hp]; decide)) ?_
  refine nv_cut hct nvV 101 8 4 (S' := (d, [], 101, 8, [(0, .inr (.inr (some 95))), (1, .inl i), (2, .inl l), (3, .inl h)], [.inl i], M)) hA rfl ?_
  refine nv_if hct false rfl (zcF0 hi (by omega)) ?_
  refine nv_cut hct nvV 101 14 5 (S' := (d, [], 101, 14, [(0, .inr (.inr (some 95))), (1, .inl i), (2, .inl l), (3, .inl h)], [.inl (30 : Int32), .inl i], M)) hA rfl ?_
  refine nv_ifc hct true rfl (ccT0 hi (show ((30 : Int32)).toInt = 30 from rfl) (show (j : Int) < 30 by omega)) ?_
  refine nv_cut hct nvV 101 24 7 (S' := (d, [], 101, 24, [(0, .inr (.inr (some 95))), (1, .inl i), (2, .inl l), (3, .inl h)], [.inl i, .inr (.inr (some 99)), .inl l], M)) hA rfl ?_
  refine nv_ald hct hA rfl (show nvV.1 99 = 15 + 1 from rfl) (show nvV.2.1 99 = 30 + 1 from rfl) (inb_p hi (by omega)) ?_
  refine nv_cut hct nvV 101 25 3 (S' := (d, [], 101, 25, [(0, .inr (.inr (some 95))), (1, .inl i), (2, .inl l), (3, .inl h)], [.inl (a_I M 99 i.toNatClampNeg), .inl l], M)) hA rfl ?_
  by_cases c1 : (a.1 j).toInt < l.toInt
  · skip
    refine nv_ifc hct false rfl (ccF2 rfl (congrArg Int32.toInt e1) (by omega)) ?_
    refine nv_cut hct nvV 101 34 7 (S' := (d, [], 101, 34, [(0, .inr (.inr (some 95))), (1, .inl i), (2, .inl l), (3, .inl h)], [.inl l, .inl i, .inr (.inr (some 99))], M)) hA rfl ?_
    refine nv_ast hct hA rfl (show nvV.1 99 = 15 + 1 from rfl) (show nvV.2.1 99 = 30 + 1 from rfl) (inb_p hi (by omega)) ?_
    refine nv_cut hct nvV 101 46 10 (S' := (d, [], 101, 46, [(0, .inr (.inr (some 95))), (1, .inl i), (2, .inl l), (3, .inl h)], [.inl i, .inr (.inr (some 100)), .inl h], (s_I (s_I M 99 i.toNatClampNeg l) 95 7 (1 : Int32)))) (nv_As hA) rfl ?_
    refine nv_ald hct (nv_As (nv_As hA)) rfl (show nvV.1 100 = 15 + 1 from rfl) (show nvV.2.1 100 = 30 + 1 from rfl) (inb_p hi (by omega)) ?_
    refine nv_cut hct nvV 101 47 3 (S' := (d, [], 101, 47, [(0, .inr (.inr (some 95))), (1, .inl i), (2, .inl l), (3, .inl h)], [.inl (a_I M 100 i.toNatClampNeg), .inl h], (s_I (s_I M 99 i.toNatClampNeg l) 95 7 (1 : Int32)))) (nv_As (nv_As hA)) rfl ?_
    by_cases c2 : h.toInt < (a.2 j).toInt
    · skip
      refine nv_ifc hct false rfl (ccF4 rfl (congrArg Int32.toInt e2) (by omega)) ?_
      refine nv_cut hct nvV 101 56 7 (S' := (d, [], 101, 56, [(0, .inr (.inr (some 95))), (1, .inl i), (2, .inl l), (3, .inl h)], [.inl h, .inl i, .inr (.inr (some 100))], (s_I (s_I M 99 i.toNatClampNeg l) 95 7 (1 : Int32)))) (nv_As (nv_As hA)) rfl ?_
      refine nv_ast hct (nv_As (nv_As hA)) rfl (show nvV.1 100 = 15 + 1 from rfl) (show nvV.2.1 100 = 30 + 1 from rfl) (inb_p hi (by omega)) ?_
      refine nv_cut hct nvV 101 68 10 (S' := (d, [], 101, 68, [(0, .inr (.inr (some 95))), (1, .inl i), (2, .inl l), (3, .inl h)], [.inl i, .inr (.inr (some 99)), .inr (.inr (some 95))], (s_I (s_I (s_I (s_I M 99 i.toNatClampNeg l) 95 7 (1 : Int32)) 100 i.toNatClampNeg h) 95 7 (1 : Int32)))) (nv_As (nv_As (nv_As hA))) rfl ?_
      refine nv_ald hct (nv_As (nv_As (nv_As (nv_As hA)))) rfl (show nvV.1 99 = 15 + 1 from rfl) (show nvV.2.1 99 = 30 + 1 from rfl) (inb_p hi (by omega)) ?_
      refine nv_cut hct nvV 101 74 6 (S' := (d, [], 101, 74, [(0, .inr (.inr (some 95))), (1, .inl i), (2, .inl l), (3, .inl h)], [.inl i, .inr (.inr (some 100)), .inl (a_I (s_I M 99 i.toNatClampNeg l) 99 i.toNatClampNeg), .inr (.inr (some 95))], (s_I (s_I (s_I (s_I M 99 i.toNatClampNeg l) 95 7 (1 : Int32)) 100 i.toNatClampNeg h) 95 7 (1 : Int32)))) (nv_As (nv_As (nv_As (nv_As hA)))) rfl ?_
      refine nv_ald hct (nv_As (nv_As (nv_As (nv_As hA)))) rfl (show nvV.1 100 = 15 + 1 from rfl) (show nvV.2.1 100 = 30 + 1 from rfl) (inb_p hi (by omega)) ?_
      refine nv_cut hct nvV 101 75 3 (S' := (d, [], 101, 75, [(0, .inr (.inr (some 95))), (1, .inl i), (2, .inl l), (3, .inl h)], [.inl (a_I (s_I (s_I (s_I M 99 i.toNatClampNeg l) 95 7 (1 : Int32)) 100 i.toNatClampNeg h) 100 i.toNatClampNeg), .inl (a_I (s_I M 99 i.toNatClampNeg l) 99 i.toNatClampNeg), .inr (.inr (some 95))], (s_I (s_I (s_I (s_I M 99 i.toNatClampNeg l) 95 7 (1 : Int32)) 100 i.toNatClampNeg h) 95 7 (1 : Int32)))) (nv_As (nv_As (nv_As (nv_As hA)))) rfl ?_
      have x1 : ((a_I (s_I M 99 i.toNatClampNeg l) 99 i.toNatClampNeg)).toInt = l.toInt := by
        rw [tnc hi]
        rw [aI_at]
      have y1 : ((a_I (s_I (s_I (s_I M 99 i.toNatClampNeg l) 95 7 (1 : Int32)) 100 i.toNatClampNeg h) 100 i.toNatClampNeg)).toInt = h.toInt := by
        rw [tnc hi]
        rw [aI_at]
      by_cases c3 : h.toInt < l.toInt
      · skip
        refine nv_ifc hct true rfl (ccT3 x1 y1 c3) ?_
        refine nv_cut hct nvV 101 86 5 (S' := (d, [], 101, 86, [(0, .inr (.inr (some 95))), (1, .inl i), (2, .inl l), (3, .inl h)], [], (s_I (s_I (s_I (s_I (s_I M 99 i.toNatClampNeg l) 95 7 (1 : Int32)) 100 i.toNatClampNeg h) 95 7 (1 : Int32)) 95 6 (0 : Int32)))) (nv_As (nv_As (nv_As (nv_As hA)))) rfl ?_
        refine nv_vret hct rfl ?_
        rw [tnc hi]
        rw [c8 (by omega), if_pos c1, if_pos c2]
        have hE : spE (upF a.1 j l, upF a.2 j h) j = true := by
          show decide ((if j = j then h else _).toInt < (if j = j then l else _).toInt) = _
          rw [if_pos rfl, if_pos rfl]; exact decide_eq_true c3
        exact ⟨rfl, (eqE_s (eqE_s (eqE_s (eqE_s (eqE_s eqE_rf rfl) rfl) rfl) rfl) rfl), SpC9_w hS (fun i9 => by rw [aI_nk (by omega), aI_nk (by omega), aI_nk (by omega), aI_nk (by omega), aI_sI]; exact ifj) (fun i9 => by rw [aI_nk (by omega), aI_nk (by omega), aI_sI]; exact ifj), by rw [aI_at]; simp only [hE]; rfl, by rw [aI_nk (by omega), aI_at]; rfl⟩
      · skip
        refine nv_ifc hct false rfl (ccF3 x1 y1 (by omega)) ?_
        refine nv_cut hct nvV 101 86 6 (S' := (d, [], 101, 86, [(0, .inr (.inr (some 95))), (1, .inl i), (2, .inl l), (3, .inl h)], [], (s_I (s_I (s_I (s_I (s_I M 99 i.toNatClampNeg l) 95 7 (1 : Int32)) 100 i.toNatClampNeg h) 95 7 (1 : Int32)) 95 6 (1 : Int32)))) (nv_As (nv_As (nv_As (nv_As hA)))) rfl ?_
        refine nv_vret hct rfl ?_
        rw [tnc hi]
        rw [c8 (by omega), if_pos c1, if_pos c2]
        have hE : spE (upF a.1 j l, upF a.2 j h) j = false := by
          show decide ((if j = j then h else _).toInt < (if j = j then l else _).toInt) = _
          rw [if_pos rfl, if_pos rfl]; exact decide_eq_false (by omega)
        exact ⟨rfl, (eqE_s (eqE_s (eqE_s (eqE_s (eqE_s eqE_rf rfl) rfl) rfl) rfl) rfl), SpC9_w hS (fun i9 => by rw [aI_nk (by omega), aI_nk (by omega), aI_nk (by omega), aI_nk (by omega), aI_sI]; exact ifj) (fun i9 => by rw [aI_nk (by omega), aI_nk (by omega), aI_sI]; exact ifj), by rw [aI_at]; simp only [hE]; rfl, by rw [aI_nk (by omega), aI_at]; rfl⟩
    · skip
      refine nv_ifc hct true rfl (ccT4 rfl (congrArg Int32.toInt e2) (by omega)) ?_
      refine nv_cut hct nvV 101 68 7 (S' := (d, [], 101, 68, [(0, .inr (.inr (some 95))), (1, .inl i), (2, .inl l), (3, .inl h)], [.inl i, .inr (.inr (some 99)), .inr (.inr (some 95))], (s_I (s_I M 99 i.toNatClampNeg l) 95 7 (1 : Int32)))) (nv_As (nv_As hA)) rfl ?_
      refine nv_ald hct (nv_As (nv_As hA)) rfl (show nvV.1 99 = 15 + 1 from rfl) (show nvV.2.1 99 = 30 + 1 from rfl) (inb_p hi (by omega)) ?_
      refine nv_cut hct nvV 101 74 6 (S' := (d, [], 101, 74, [(0, .inr (.inr (some 95))), (1, .inl i), (2, .inl l), (3, .inl h)], [.inl i, .inr (.inr (some 100)), .inl (a_I (s_I M 99 i.toNatClampNeg l) 99 i.toNatClampNeg), .inr (.inr (some 95))], (s_I (s_I M 99 i.toNatClampNeg l) 95 7 (1 : Int32)))) (nv_As (nv_As hA)) rfl ?_
      refine nv_ald hct (nv_As (nv_As hA)) rfl (show nvV.1 100 = 15 + 1 from rfl) (show nvV.2.1 100 = 30 + 1 from rfl) (inb_p hi (by omega)) ?_
      refine nv_cut hct nvV 101 75 3 (S' := (d, [], 101, 75, [(0, .inr (.inr (some 95))), (1, .inl i), (2, .inl l), (3, .inl h)], [.inl (a_I M 100 i.toNatClampNeg), .inl (a_I (s_I M 99 i.toNatClampNeg l) 99 i.toNatClampNeg), .inr (.inr (some 95))], (s_I (s_I M 99 i.toNatClampNeg l) 95 7 (1 : Int32)))) (nv_As (nv_As hA)) rfl ?_
      have x1 : ((a_I (s_I M 99 i.toNatClampNeg l) 99 i.toNatClampNeg)).toInt = l.toInt := by
        rw [tnc hi]
        rw [aI_at]
      have y1 : ((a_I M 100 i.toNatClampNeg)).toInt = (a.2 j).toInt := by
        rw [tnc hi]
        rw [hS.2]
      by_cases c3 : (a.2 j).toInt < l.toInt
      · skip
        refine nv_ifc hct true rfl (ccT3 x1 y1 c3) ?_
        refine nv_cut hct nvV 101 86 5 (S' := (d, [], 101, 86, [(0, .inr (.inr (some 95))), (1, .inl i), (2, .inl l), (3, .inl h)], [], (s_I (s_I (s_I M 99 i.toNatClampNeg l) 95 7 (1 : Int32)) 95 6 (0 : Int32)))) (nv_As (nv_As hA)) rfl ?_
        refine nv_vret hct rfl ?_
        rw [tnc hi]
        rw [c8 (by omega), if_pos c1, if_neg c2]
        have hE : spE (upF a.1 j l, upF a.2 j (a.2 j)) j = true := by
          show decide ((if j = j then (a.2 j) else _).toInt < (if j = j then l else _).toInt) = _
          rw [if_pos rfl, if_pos rfl]; exact decide_eq_true c3
        exact ⟨rfl, (eqE_s (eqE_s (eqE_s eqE_rf rfl) rfl) rfl), SpC9_w hS (fun i9 => by rw [aI_nk (by omega), aI_nk (by omega), aI_sI]; exact ifj) (fun i9 => by rw [aI_nk (by omega), aI_nk (by omega), aI_nk (by omega)]; rw [← hS.2 j]; exact ifs (f := fun i => a_I M 100 i)), by rw [aI_at]; simp only [hE]; rfl, by rw [aI_nk (by omega), aI_at]; rfl⟩
      · skip
        refine nv_ifc hct false rfl (ccF3 x1 y1 (by omega)) ?_
        refine nv_cut hct nvV 101 86 6 (S' := (d, [], 101, 86, [(0, .inr (.inr (some 95))), (1, .inl i), (2, .inl l), (3, .inl h)], [], (s_I (s_I (s_I M 99 i.toNatClampNeg l) 95 7 (1 : Int32)) 95 6 (1 : Int32)))) (nv_As (nv_As hA)) rfl ?_
        refine nv_vret hct rfl ?_
        rw [tnc hi]
        rw [c8 (by omega), if_pos c1, if_neg c2]
        have hE : spE (upF a.1 j l, upF a.2 j (a.2 j)) j = false := by
          show decide ((if j = j then (a.2 j) else _).toInt < (if j = j then l else _).toInt) = _
          rw [if_pos rfl, if_pos rfl]; exact decide_eq_false (by omega)
        exact ⟨rfl, (eqE_s (eqE_s (eqE_s eqE_rf rfl) rfl) rfl), SpC9_w hS (fun i9 => by rw [aI_nk (by omega), aI_nk (by omega), aI_sI]; exact ifj) (fun i9 => by rw [aI_nk (by omega), aI_nk (by omega), aI_nk (by omega)]; rw [← hS.2 j]; exact ifs (f := fun i => a_I M 100 i)), by rw [aI_at]; simp only [hE]; rfl, by rw [aI_nk (by omega), aI_at]; rfl⟩
  · skip
    refine nv_ifc hct true rfl (ccT2 rfl (congrArg Int32.toInt e1) (by omega)) ?_
    refine nv_cut hct nvV 101 46 7 (S' := (d, [], 101, 46, [(0, .inr (.inr (some 95))), (1, .inl i), (2, .inl l), (3, .inl h)], [.inl i, .inr (.inr (some 100)), .inl h], M)) hA rfl ?_
    refine nv_ald hct hA rfl (show nvV.1 100 = 15 + 1 from rfl) (show nvV.2.1 100 = 30 + 1 from rfl) (inb_p hi (by omega)) ?_
    refine nv_cut hct nvV 101 47 3 (S' := (d, [], 101, 47, [(0, .inr (.inr (some 95))), (1, .inl i), (2, .inl l), (3, .inl h)], [.inl (a_I M 100 i.toNatClampNeg), .inl h], M)) hA rfl ?_
    by_cases c2 : h.toInt < (a.2 j).toInt
    · skip
      refine nv_ifc hct false rfl (ccF4 rfl (congrArg Int32.toInt e2) (by omega)) ?_
      refine nv_cut hct nvV 101 56 7 (S' := (d, [], 101, 56, [(0, .inr (.inr (some 95))), (1, .inl i), (2, .inl l), (3, .inl h)], [.inl h, .inl i, .inr (.inr (some 100))], M)) hA rfl ?_
      refine nv_ast hct hA rfl (show nvV.1 100 = 15 + 1 from rfl) (show nvV.2.1 100 = 30 + 1 from rfl) (inb_p hi (by omega)) ?_
      refine nv_cut hct nvV 101 68 10 (S' := (d, [], 101, 68, [(0, .inr (.inr (some 95))), (1, .inl i), (2, .inl l), (3, .inl h)], [.inl i, .inr (.inr (some 99)), .inr (.inr (some 95))], (s_I (s_I M 100 i.toNatClampNeg h) 95 7 (1 : Int32)))) (nv_As hA) rfl ?_
      refine nv_ald hct (nv_As (nv_As hA)) rfl (show nvV.1 99 = 15 + 1 from rfl) (show nvV.2.1 99 = 30 + 1 from rfl) (inb_p hi (by omega)) ?_
      refine nv_cut hct nvV 101 74 6 (S' := (d, [], 101, 74, [(0, .inr (.inr (some 95))), (1, .inl i), (2, .inl l), (3, .inl h)], [.inl i, .inr (.inr (some 100)), .inl (a_I M 99 i.toNatClampNeg), .inr (.inr (some 95))], (s_I (s_I M 100 i.toNatClampNeg h) 95 7 (1 : Int32)))) (nv_As (nv_As hA)) rfl ?_
      refine nv_ald hct (nv_As (nv_As hA)) rfl (show nvV.1 100 = 15 + 1 from rfl) (show nvV.2.1 100 = 30 + 1 from rfl) (inb_p hi (by omega)) ?_
      refine nv_cut hct nvV 101 75 3 (S' := (d, [], 101, 75, [(0, .inr (.inr (some 95))), (1, .inl i), (2, .inl l), (3, .inl h)], [.inl (a_I (s_I M 100 i.toNatClampNeg h) 100 i.toNatClampNeg), .inl (a_I M 99 i.toNatClampNeg), .inr (.inr (some 95))], (s_I (s_I M 100 i.toNatClampNeg h) 95 7 (1 : Int32)))) (nv_As (nv_As hA)) rfl ?_
      have x1 : ((a_I M 99 i.toNatClampNeg)).toInt = (a.1 j).toInt := by
        rw [tnc hi]
        rw [hS.1]
      have y1 : ((a_I (s_I M 100 i.toNatClampNeg h) 100 i.toNatClampNeg)).toInt = h.toInt := by
        rw [tnc hi]
        rw [aI_at]
      by_cases c3 : h.toInt < (a.1 j).toInt
      · skip
        refine nv_ifc hct true rfl (ccT3 x1 y1 c3) ?_
        refine nv_cut hct nvV 101 86 5 (S' := (d, [], 101, 86, [(0, .inr (.inr (some 95))), (1, .inl i), (2, .inl l), (3, .inl h)], [], (s_I (s_I (s_I M 100 i.toNatClampNeg h) 95 7 (1 : Int32)) 95 6 (0 : Int32)))) (nv_As (nv_As hA)) rfl ?_
        refine nv_vret hct rfl ?_
        rw [tnc hi]
        rw [c8 (by omega), if_neg c1, if_pos c2]
        have hE : spE (upF a.1 j (a.1 j), upF a.2 j h) j = true := by
          show decide ((if j = j then h else _).toInt < (if j = j then (a.1 j) else _).toInt) = _
          rw [if_pos rfl, if_pos rfl]; exact decide_eq_true c3
        exact ⟨rfl, (eqE_s (eqE_s (eqE_s eqE_rf rfl) rfl) rfl), SpC9_w hS (fun i9 => by rw [aI_nk (by omega), aI_nk (by omega), aI_nk (by omega)]; rw [← hS.1 j]; exact ifs (f := fun i => a_I M 99 i)) (fun i9 => by rw [aI_nk (by omega), aI_nk (by omega), aI_sI]; exact ifj), by rw [aI_at]; simp only [hE]; rfl, by rw [aI_nk (by omega), aI_at]; rfl⟩
      · skip
        refine nv_ifc hct false rfl (ccF3 x1 y1 (by omega)) ?_
        refine nv_cut hct nvV 101 86 6 (S' := (d, [], 101, 86, [(0, .inr (.inr (some 95))), (1, .inl i), (2, .inl l), (3, .inl h)], [], (s_I (s_I (s_I M 100 i.toNatClampNeg h) 95 7 (1 : Int32)) 95 6 (1 : Int32)))) (nv_As (nv_As hA)) rfl ?_
        refine nv_vret hct rfl ?_
        rw [tnc hi]
        rw [c8 (by omega), if_neg c1, if_pos c2]
        have hE : spE (upF a.1 j (a.1 j), upF a.2 j h) j = false := by
          show decide ((if j = j then h else _).toInt < (if j = j then (a.1 j) else _).toInt) = _
          rw [if_pos rfl, if_pos rfl]; exact decide_eq_false (by omega)
        exact ⟨rfl, (eqE_s (eqE_s (eqE_s eqE_rf rfl) rfl) rfl), SpC9_w hS (fun i9 => by rw [aI_nk (by omega), aI_nk (by omega), aI_nk (by omega)]; rw [← hS.1 j]; exact ifs (f := fun i => a_I M 99 i)) (fun i9 => by rw [aI_nk (by omega), aI_nk (by omega), aI_sI]; exact ifj), by rw [aI_at]; simp only [hE]; rfl, by rw [aI_nk (by omega), aI_at]; rfl⟩
    · skip
      refine nv_ifc hct true rfl (ccT4 rfl (congrArg Int32.toInt e2) (by omega)) ?_
      refine nv_cut hct nvV 101 68 7 (S' := (d, [], 101, 68, [(0, .inr (.inr (some 95))), (1, .inl i), (2, .inl l), (3, .inl h)], [.inl i, .inr (.inr (some 99)), .inr (.inr (some 95))], M)) hA rfl ?_
      refine nv_ald hct hA rfl (show nvV.1 99 = 15 + 1 from rfl) (show nvV.2.1 99 = 30 + 1 from rfl) (inb_p hi (by omega)) ?_
      refine nv_cut hct nvV 101 74 6 (S' := (d, [], 101, 74, [(0, .inr (.inr (some 95))), (1, .inl i), (2, .inl l), (3, .inl h)], [.inl i, .inr (.inr (some 100)), .inl (a_I M 99 i.toNatClampNeg), .inr (.inr (some 95))], M)) hA rfl ?_
      refine nv_ald hct hA rfl (show nvV.1 100 = 15 + 1 from rfl) (show nvV.2.1 100 = 30 + 1 from rfl) (inb_p hi (by omega)) ?_
      refine nv_cut hct nvV 101 75 3 (S' := (d, [], 101, 75, [(0, .inr (.inr (some 95))), (1, .inl i), (2, .inl l), (3, .inl h)], [.inl (a_I M 100 i.toNatClampNeg), .inl (a_I M 99 i.toNatClampNeg), .inr (.inr (some 95))], M)) hA rfl ?_
      have x1 : ((a_I M 99 i.toNatClampNeg)).toInt = (a.1 j).toInt := by
        rw [tnc hi]
        rw [hS.1]
      have y1 : ((a_I M 100 i.toNatClampNeg)).toInt = (a.2 j).toInt := by
        rw [tnc hi]
        rw [hS.2]
      by_cases c3 : (a.2 j).toInt < (a.1 j).toInt
      · skip
        refine nv_ifc hct true rfl (ccT3 x1 y1 c3) ?_
        refine nv_cut hct nvV 101 86 5 (S' := (d, [], 101, 86, [(0, .inr (.inr (some 95))), (1, .inl i), (2, .inl l), (3, .inl h)], [], (s_I M 95 6 (0 : Int32)))) hA rfl ?_
        refine nv_vret hct rfl ?_
        rw [c9 (by omega)]
        have hE : spE a j = true := by
          exact decide_eq_true c3
        exact ⟨rfl, (eqE_s eqE_rf rfl), ⟨fun i9 => by rw [aI_nk (by omega)]; exact hS.1 i9, fun i9 => by rw [aI_nk (by omega)]; exact hS.2 i9⟩, by rw [aI_at]; simp only [hE]; rfl, by rw [aI_nk (by omega)]; rfl⟩
      · skip
        refine nv_ifc hct false rfl (ccF3 x1 y1 (by omega)) ?_
        refine nv_cut hct nvV 101 86 6 (S' := (d, [], 101, 86, [(0, .inr (.inr (some 95))), (1, .inl i), (2, .inl l), (3, .inl h)], [], (s_I M 95 6 (1 : Int32)))) hA rfl ?_
        refine nv_vret hct rfl ?_
        rw [c9 (by omega)]
        have hE : spE a j = false := by
          exact decide_eq_false (by omega)
        exact ⟨rfl, (eqE_s eqE_rf rfl), ⟨fun i9 => by rw [aI_nk (by omega)]; exact hS.1 i9, fun i9 => by rw [aI_nk (by omega)]; exact hS.2 i9⟩, by rw [aI_at]; simp only [hE]; rfl, by rw [aI_nk (by omega)]; rfl⟩
set_option maxHeartbeats 8000000 in
theorem cf_n30 {cd : Nat → Nat → Option aI} {z : Bool} (hz : ∀ m p i, cd0 z m p = some i → cd m p = some i) {c : Nat} {M : aM} (hA : nv_A nvV (tauC c) M) {i k : Int32} {j : Nat} (hi : i.toInt = (j : Int)) (h1 : 1 ≤ j) (h2 : j < 29) (hp : a_I M 95 6 = 0) {d : Nat} : wpS cd (d + 1, [], 100, 0, nv_l (tauC c) (la 0 [.inr (.inr (some 95)), .inl i, .inl k]), [], M) (fun r M' => r = none ∧ M' = M) := by
  show wpS cd (nv_S (tauC c) (d + 1, [], 100, 0, la 0 [.inr (.inr (some 95)), .inl i, .inl k], [], M)) _
  have hct := hc_of hz
  have him : (i - 1).toInt = ((j - 1 : Nat) : Int) := by rw [sub_1 hi (by omega) (by omega)]; omega
  have hip : (i + 1).toInt = ((j + 1 : Nat) : Int) := by rw [add_p hi (by omega) (by omega)]; omega
  refine nv_cut hct nvV 100 2 5 (S' := (d + 1, [], 100, 2, [(0, .inr (.inr (some 95))), (1, .inl i), (2, .inl k)], [.inl (1 : Int32), .inl i], M)) hA rfl ?_
  refine nv_ifc hct false rfl (ccF0 hi (show ((1 : Int32)).toInt = 1 from rfl) (show (1 : Int) ≤ j by omega)) ?_
  refine nv_cut hct nvV 100 8 5 (S' := (d + 1, [], 100, 8, [(0, .inr (.inr (some 95))), (1, .inl i), (2, .inl k)], [.inl (29 : Int32), .inl i], M)) hA rfl ?_
  refine nv_ifc hct true rfl (ccT0 hi (show ((29 : Int32)).toInt = 29 from rfl) (show (j : Int) < 29 by omega)) ?_
  refine nv_cut hct nvV 100 26 14 (S' := (d + 1, [], 100, 26, [(4, .inl (i + (1 : Int32))), (3, .inl (i - (1 : Int32))), (0, .inr (.inr (some 95))), (1, .inl i), (2, .inl k)], [.inl (i - (1 : Int32)), .inr (.inr (some 99))], M)) hA rfl ?_
  refine nv_ald hct hA rfl (show nvV.1 99 = 15 + 1 from rfl) (show nvV.2.1 99 = 30 + 1 from rfl) (inb_p him (by omega)) ?_
  refine nv_cut hct nvV 100 33 6 (S' := (d + 1, [], 100, 33, [(4, .inl (i + (1 : Int32))), (3, .inl (i - (1 : Int32))), (0, .inr (.inr (some 95))), (1, .inl i), (2, .inl k)], [.inl (i + (1 : Int32)), .inr (.inr (some 99)), .inl (a_I M 99 (i - (1 : Int32)).toNatClampNeg)], M)) hA rfl ?_
  refine nv_ald hct hA rfl (show nvV.1 99 = 15 + 1 from rfl) (show nvV.2.1 99 = 30 + 1 from rfl) (inb_p hip (by omega)) ?_
  refine nv_cut hct nvV 100 44 10 (S' := (d + 1, [], 100, 44, [(5, .inl (((a_I M 99 (i - (1 : Int32)).toNatClampNeg) + (a_I M 99 (i + (1 : Int32)).toNatClampNeg)) - k)), (4, .inl (i + (1 : Int32))), (3, .inl (i - (1 : Int32))), (0, .inr (.inr (some 95))), (1, .inl i), (2, .inl k)], [.inl (i - (1 : Int32)), .inr (.inr (some 100))], M)) hA rfl ?_
  refine nv_ald hct hA rfl (show nvV.1 100 = 15 + 1 from rfl) (show nvV.2.1 100 = 30 + 1 from rfl) (inb_p him (by omega)) ?_
  refine nv_cut hct nvV 100 51 6 (S' := (d + 1, [], 100, 51, [(5, .inl (((a_I M 99 (i - (1 : Int32)).toNatClampNeg) + (a_I M 99 (i + (1 : Int32)).toNatClampNeg)) - k)), (4, .inl (i + (1 : Int32))), (3, .inl (i - (1 : Int32))), (0, .inr (.inr (some 95))), (1, .inl i), (2, .inl k)], [.inl (i + (1 : Int32)), .inr (.inr (some 100)), .inl (a_I M 100 (i - (1 : Int32)).toNatClampNeg)], M)) hA rfl ?_
  refine nv_ald hct hA rfl (show nvV.1 100 = 15 + 1 from rfl) (show nvV.2.1 100 = 30 + 1 from rfl) (inb_p hip (by omega)) ?_
  refine nv_cut hct nvV 243 0 13 (S' := (d, [(100, 66, [(6, .inl (((a_I M 100 (i - (1 : Int32)).toNatClampNeg) + (a_I M 100 (i + (1 : Int32)).toNatClampNeg)) + k)), (5, .inl (((a_I M 99 (i - (1 : Int32)).toNatClampNeg) + (a_I M 99 (i + (1 : Int32)).toNatClampNeg)) - k)), (4, .inl (i + (1 : Int32))), (3, .inl (i - (1 : Int32))), (0, .inr (.inr (some 95))), (1, .inl i), (2, .inl k)], [.inl i, .inr (.inr (some 95))])], 243, 0, la 0 [.inl (-(((a_I M 99 (i - (1 : Int32)).toNatClampNeg) + (a_I M 99 (i + (1 : Int32)).toNatClampNeg)) - k)), .inl (2 : Int32)], [], M)) hA rfl ?_
  refine nv_calli (cf_fd hz hA) (fun d1 N1 ⟨e1, f1⟩ => ?_)
  have e1 := e1.symm
  subst e1
  subst f1
  refine nv_cut hct nvV 243 0 7 (S' := (d, [(100, 73, [(6, .inl (((a_I M 100 (i - (1 : Int32)).toNatClampNeg) + (a_I M 100 (i + (1 : Int32)).toNatClampNeg)) + k)), (5, .inl (((a_I M 99 (i - (1 : Int32)).toNatClampNeg) + (a_I M 99 (i + (1 : Int32)).toNatClampNeg)) - k)), (4, .inl (i + (1 : Int32))), (3, .inl (i - (1 : Int32))), (0, .inr (.inr (some 95))), (1, .inl i), (2, .inl k)], [.inl (-(fdI (-(((a_I M 99 (i - (1 : Int32)).toNatClampNeg) + (a_I M 99 (i + (1 : Int32)).toNatClampNeg)) - k)))), .inl i, .inr (.inr (some 95))])], 243, 0, la 0 [.inl (((a_I M 100 (i - (1 : Int32)).toNatClampNeg) + (a_I M 100 (i + (1 : Int32)).toNatClampNeg)) + k), .inl (2 : Int32)], [], M)) hA rfl ?_
  refine nv_calli (cf_fd hz hA) (fun d2 N2 ⟨e2, f2⟩ => ?_)
  have e2 := e2.symm
  subst e2
  subst f2
  refine nv_cut hct nvV 101 0 4 (S' := (d, [(100, 76, [(6, .inl (((a_I M 100 (i - (1 : Int32)).toNatClampNeg) + (a_I M 100 (i + (1 : Int32)).toNatClampNeg)) + k)), (5, .inl (((a_I M 99 (i - (1 : Int32)).toNatClampNeg) + (a_I M 99 (i + (1 : Int32)).toNatClampNeg)) - k)), (4, .inl (i + (1 : Int32))), (3, .inl (i - (1 : Int32))), (0, .inr (.inr (some 95))), (1, .inl i), (2, .inl k)], [])], 101, 0, la 0 [.inr (.inr (some 95)), .inl i, .inl (-(fdI (-(((a_I M 99 (i - (1 : Int32)).toNatClampNeg) + (a_I M 99 (i + (1 : Int32)).toNatClampNeg)) - k)))), .inl (fdI (((a_I M 100 (i - (1 : Int32)).toNatClampNeg) + (a_I M 100 (i + (1 : Int32)).toNatClampNeg)) + k))], [], M)) hA rfl ?_
  refine nv_callv (cf_cut0 hz hA hp) (fun N3 e3 => ?_)
  have e3 := e3.symm
  subst e3
  refine nv_cut hct nvV 100 84 9 (S' := (d + 1, [], 100, 84, [(6, .inl (((a_I M 100 (i - (1 : Int32)).toNatClampNeg) + (a_I M 100 (i + (1 : Int32)).toNatClampNeg)) + k)), (5, .inl (((a_I M 99 (i - (1 : Int32)).toNatClampNeg) + (a_I M 99 (i + (1 : Int32)).toNatClampNeg)) - k)), (4, .inl (i + (1 : Int32))), (3, .inl (i - (1 : Int32))), (0, .inr (.inr (some 95))), (1, .inl i), (2, .inl k)], [.inl i, .inr (.inr (some 99)), .inl (2 : Int32), .inl (i - (1 : Int32)), .inr (.inr (some 95))], M)) hA rfl ?_
  refine nv_ald hct hA rfl (show nvV.1 99 = 15 + 1 from rfl) (show nvV.2.1 99 = 30 + 1 from rfl) (inb_p hi (by omega)) ?_
  refine nv_cut hct nvV 100 92 7 (S' := (d + 1, [], 100, 92, [(6, .inl (((a_I M 100 (i - (1 : Int32)).toNatClampNeg) + (a_I M 100 (i + (1 : Int32)).toNatClampNeg)) + k)), (5, .inl (((a_I M 99 (i - (1 : Int32)).toNatClampNeg) + (a_I M 99 (i + (1 : Int32)).toNatClampNeg)) - k)), (4, .inl (i + (1 : Int32))), (3, .inl (i - (1 : Int32))), (0, .inr (.inr (some 95))), (1, .inl i), (2, .inl k)], [.inl (i + (1 : Int32)), .inr (.inr (some 100)), .inl ((2 : Int32) * (a_I M 99 i.toNatClampNeg)), .inl (i - (1 : Int32)), .inr (.inr (some 95))], M)) hA rfl ?_
  refine nv_ald hct hA rfl (show nvV.1 100 = 15 + 1 from rfl) (show nvV.2.1 100 = 30 + 1 from rfl) (inb_p hip (by omega)) ?_
  refine nv_cut hct nvV 100 102 10 (S' := (d + 1, [], 100, 102, [(6, .inl (((a_I M 100 (i - (1 : Int32)).toNatClampNeg) + (a_I M 100 (i + (1 : Int32)).toNatClampNeg)) + k)), (5, .inl (((a_I M 99 (i - (1 : Int32)).toNatClampNeg) + (a_I M 99 (i + (1 : Int32)).toNatClampNeg)) - k)), (4, .inl (i + (1 : Int32))), (3, .inl (i - (1 : Int32))), (0, .inr (.inr (some 95))), (1, .inl i), (2, .inl k)], [.inl i, .inr (.inr (some 100)), .inl (2 : Int32), .inl ((((2 : Int32) * (a_I M 99 i.toNatClampNeg)) - (a_I M 100 (i + (1 : Int32)).toNatClampNeg)) - k), .inl (i - (1 : Int32)), .inr (.inr (some 95))], M)) hA rfl ?_
  refine nv_ald hct hA rfl (show nvV.1 100 = 15 + 1 from rfl) (show nvV.2.1 100 = 30 + 1 from rfl) (inb_p hi (by omega)) ?_
  refine nv_cut hct nvV 100 110 7 (S' := (d + 1, [], 100, 110, [(6, .inl (((a_I M 100 (i - (1 : Int32)).toNatClampNeg) + (a_I M 100 (i + (1 : Int32)).toNatClampNeg)) + k)), (5, .inl (((a_I M 99 (i - (1 : Int32)).toNatClampNeg) + (a_I M 99 (i + (1 : Int32)).toNatClampNeg)) - k)), (4, .inl (i + (1 : Int32))), (3, .inl (i - (1 : Int32))), (0, .inr (.inr (some 95))), (1, .inl i), (2, .inl k)], [.inl (i + (1 : Int32)), .inr (.inr (some 99)), .inl ((2 : Int32) * (a_I M 100 i.toNatClampNeg)), .inl ((((2 : Int32) * (a_I M 99 i.toNatClampNeg)) - (a_I M 100 (i + (1 : Int32)).toNatClampNeg)) - k), .inl (i - (1 : Int32)), .inr (.inr (some 95))], M)) hA rfl ?_
  refine nv_ald hct hA rfl (show nvV.1 99 = 15 + 1 from rfl) (show nvV.2.1 99 = 30 + 1 from rfl) (inb_p hip (by omega)) ?_
  refine nv_cut hct nvV 101 0 7 (S' := (d, [(100, 117, [(6, .inl (((a_I M 100 (i - (1 : Int32)).toNatClampNeg) + (a_I M 100 (i + (1 : Int32)).toNatClampNeg)) + k)), (5, .inl (((a_I M 99 (i - (1 : Int32)).toNatClampNeg) + (a_I M 99 (i + (1 : Int32)).toNatClampNeg)) - k)), (4, .inl (i + (1 : Int32))), (3, .inl (i - (1 : Int32))), (0, .inr (.inr (some 95))), (1, .inl i), (2, .inl k)], [])], 101, 0, la 0 [.inr (.inr (some 95)), .inl (i - (1 : Int32)), .inl ((((2 : Int32) * (a_I M 99 i.toNatClampNeg)) - (a_I M 100 (i + (1 : Int32)).toNatClampNeg)) - k), .inl ((((2 : Int32) * (a_I M 100 i.toNatClampNeg)) - (a_I M 99 (i + (1 : Int32)).toNatClampNeg)) + k)], [], M)) hA rfl ?_
  refine nv_callv (cf_cut0 hz hA hp) (fun N4 e4 => ?_)
  have e4 := e4.symm
  subst e4
  refine nv_cut hct nvV 100 126 9 (S' := (d + 1, [], 100, 126, [(6, .inl (((a_I M 100 (i - (1 : Int32)).toNatClampNeg) + (a_I M 100 (i + (1 : Int32)).toNatClampNeg)) + k)), (5, .inl (((a_I M 99 (i - (1 : Int32)).toNatClampNeg) + (a_I M 99 (i + (1 : Int32)).toNatClampNeg)) - k)), (4, .inl (i + (1 : Int32))), (3, .inl (i - (1 : Int32))), (0, .inr (.inr (some 95))), (1, .inl i), (2, .inl k)], [.inl i, .inr (.inr (some 99)), .inl (2 : Int32), .inl (i + (1 : Int32)), .inr (.inr (some 95))], M)) hA rfl ?_
  refine nv_ald hct hA rfl (show nvV.1 99 = 15 + 1 from rfl) (show nvV.2.1 99 = 30 + 1 from rfl) (inb_p hi (by omega)) ?_
  refine nv_cut hct nvV 100 133 7 (S' := (d + 1, [], 100, 133, [(6, .inl (((a_I M 100 (i - (1 : Int32)).toNatClampNeg) + (a_I M 100 (i + (1 : Int32)).toNatClampNeg)) + k)), (5, .inl (((a_I M 99 (i - (1 : Int32)).toNatClampNeg) + (a_I M 99 (i + (1 : Int32)).toNatClampNeg)) - k)), (4, .inl (i + (1 : Int32))), (3, .inl (i - (1 : Int32))), (0, .inr (.inr (some 95))), (1, .inl i), (2, .inl k)], [.inl (i - (1 : Int32)), .inr (.inr (some 100)), .inl ((2 : Int32) * (a_I M 99 i.toNatClampNeg)), .inl (i + (1 : Int32)), .inr (.inr (some 95))], M)) hA rfl ?_
  refine nv_ald hct hA rfl (show nvV.1 100 = 15 + 1 from rfl) (show nvV.2.1 100 = 30 + 1 from rfl) (inb_p him (by omega)) ?_
  refine nv_cut hct nvV 100 143 10 (S' := (d + 1, [], 100, 143, [(6, .inl (((a_I M 100 (i - (1 : Int32)).toNatClampNeg) + (a_I M 100 (i + (1 : Int32)).toNatClampNeg)) + k)), (5, .inl (((a_I M 99 (i - (1 : Int32)).toNatClampNeg) + (a_I M 99 (i + (1 : Int32)).toNatClampNeg)) - k)), (4, .inl (i + (1 : Int32))), (3, .inl (i - (1 : Int32))), (0, .inr (.inr (some 95))), (1, .inl i), (2, .inl k)], [.inl i, .inr (.inr (some 100)), .inl (2 : Int32), .inl ((((2 : Int32) * (a_I M 99 i.toNatClampNeg)) - (a_I M 100 (i - (1 : Int32)).toNatClampNeg)) - k), .inl (i + (1 : Int32)), .inr (.inr (some 95))], M)) hA rfl ?_
  refine nv_ald hct hA rfl (show nvV.1 100 = 15 + 1 from rfl) (show nvV.2.1 100 = 30 + 1 from rfl) (inb_p hi (by omega)) ?_
  refine nv_cut hct nvV 100 150 7 (S' := (d + 1, [], 100, 150, [(6, .inl (((a_I M 100 (i - (1 : Int32)).toNatClampNeg) + (a_I M 100 (i + (1 : Int32)).toNatClampNeg)) + k)), (5, .inl (((a_I M 99 (i - (1 : Int32)).toNatClampNeg) + (a_I M 99 (i + (1 : Int32)).toNatClampNeg)) - k)), (4, .inl (i + (1 : Int32))), (3, .inl (i - (1 : Int32))), (0, .inr (.inr (some 95))), (1, .inl i), (2, .inl k)], [.inl (i - (1 : Int32)), .inr (.inr (some 99)), .inl ((2 : Int32) * (a_I M 100 i.toNatClampNeg)), .inl ((((2 : Int32) * (a_I M 99 i.toNatClampNeg)) - (a_I M 100 (i - (1 : Int32)).toNatClampNeg)) - k), .inl (i + (1 : Int32)), .inr (.inr (some 95))], M)) hA rfl ?_
  refine nv_ald hct hA rfl (show nvV.1 99 = 15 + 1 from rfl) (show nvV.2.1 99 = 30 + 1 from rfl) (inb_p him (by omega)) ?_
  refine nv_cut hct nvV 101 0 7 (S' := (d, [(100, 157, [(6, .inl (((a_I M 100 (i - (1 : Int32)).toNatClampNeg) + (a_I M 100 (i + (1 : Int32)).toNatClampNeg)) + k)), (5, .inl (((a_I M 99 (i - (1 : Int32)).toNatClampNeg) + (a_I M 99 (i + (1 : Int32)).toNatClampNeg)) - k)), (4, .inl (i + (1 : Int32))), (3, .inl (i - (1 : Int32))), (0, .inr (.inr (some 95))), (1, .inl i), (2, .inl k)], [])], 101, 0, la 0 [.inr (.inr (some 95)), .inl (i + (1 : Int32)), .inl ((((2 : Int32) * (a_I M 99 i.toNatClampNeg)) - (a_I M 100 (i - (1 : Int32)).toNatClampNeg)) - k), .inl ((((2 : Int32) * (a_I M 100 i.toNatClampNeg)) - (a_I M 99 (i - (1 : Int32)).toNatClampNeg)) + k)], [], M)) hA rfl ?_
  refine nv_callv (cf_cut0 hz hA hp) (fun N5 e5 => ?_)
  have e5 := e5.symm
  subst e5
  refine nv_cut hct nvV 100 157 3 (S' := (d + 1, [], 100, 157, [(6, .inl (((a_I M 100 (i - (1 : Int32)).toNatClampNeg) + (a_I M 100 (i + (1 : Int32)).toNatClampNeg)) + k)), (5, .inl (((a_I M 99 (i - (1 : Int32)).toNatClampNeg) + (a_I M 99 (i + (1 : Int32)).toNatClampNeg)) - k)), (4, .inl (i + (1 : Int32))), (3, .inl (i - (1 : Int32))), (0, .inr (.inr (some 95))), (1, .inl i), (2, .inl k)], [], M)) hA rfl ?_
  exact nv_vret hct rfl ⟨rfl, rfl⟩
theorem bdt {n j : Nat} {k : Int32} {a : spA} (hB : BD n a) (h1 : 1 ≤ j) (h2 : j + 1 < n) (hk : 0 ≤ k.toInt ∧ k.toInt ≤ 99) : -(fdI (-(a.1 (j - 1) + a.1 (j + 1) - k))) = binf 5 (a.1 (j - 1) + a.1 (j + 1) - k + 1) 1 ∧ fdI (a.2 (j - 1) + a.2 (j + 1) + k) = binf 5 (a.2 (j - 1) + a.2 (j + 1) + k) 1 := by
  obtain ⟨m1, m2, m3⟩ := hB (j - 1) (by omega)
  obtain ⟨p1, p2, p3⟩ := hB (j + 1) h2
  have s1 : (a.1 (j - 1) + a.1 (j + 1)).toInt = (a.1 (j - 1)).toInt + (a.1 (j + 1)).toInt := add_i (by show (-2147483648 : Int) ≤ _; omega) (by show _ ≤ (2147483647 : Int); omega)
  have s2 : (a.2 (j - 1) + a.2 (j + 1)).toInt = (a.2 (j - 1)).toInt + (a.2 (j + 1)).toInt := add_i (by show (-2147483648 : Int) ≤ _; omega) (by show _ ≤ (2147483647 : Int); omega)
  have t1 : (a.1 (j - 1) + a.1 (j + 1) - k).toInt = (a.1 (j - 1)).toInt + (a.1 (j + 1)).toInt - k.toInt := by
    rw [sub_i (by rw [s1]; show (-2147483648 : Int) ≤ _; omega) (by rw [s1]; show _ ≤ (2147483647 : Int); omega), s1]
  have t2 : (a.2 (j - 1) + a.2 (j + 1) + k).toInt = (a.2 (j - 1)).toInt + (a.2 (j + 1)).toInt + k.toInt := by
    rw [add_i (by rw [s2]; show (-2147483648 : Int) ≤ _; omega) (by rw [s2]; show _ ≤ (2147483647 : Int); omega), s2]
  exact ⟨(fd_ok (by omega) (by omega)).1, (fd_ok (by omega) (by omega)).2⟩
theorem or3 {p q r : Bool} {x : Int32} : (bif r then (1 : Int32) else bif q then 1 else bif p then 1 else x) = bif r || (q || p) then 1 else x := by
  cases p <;> cases q <;> cases r <;> rfl
set_option maxHeartbeats 8000000 in
theorem cf_n31 {cd : Nat → Nat → Option aI} {z : Bool} (hz : ∀ m p i, cd0 z m p = some i → cd m p = some i) {c : Nat} {M : aM} (hA : nv_A nvV (tauC c) M) {i k : Int32} {n j : Nat} {a : spA} (hS : SpC9 M a) (hB : BD n a) (hi : i.toInt = (j : Int)) (h1 : 1 ≤ j) (h2 : j + 1 < n) (h30 : n ≤ 30) (hk : 0 ≤ k.toInt ∧ k.toInt ≤ 99) (hp : a_I M 95 6 = 1) {d : Nat} : wpS cd (d + 1, [], 100, 0, nv_l (tauC c) (la 0 [.inr (.inr (some 95)), .inl i, .inl k]), [], M) (fun r M' => r = none ∧ eqE fcu M M' ∧ ((spB j (spS k j a) = false ∧ SpC9 M' (spS k j a) ∧ a_I M' 95 6 = 1 ∧ a_I M' 95 7 = (bif spH k j a then 1 else a_I M 95 7)) ∨ (spB j (spS k j a) = true ∧ a_I M' 95 6 = 0))) := by
  show wpS cd (nv_S (tauC c) (d + 1, [], 100, 0, la 0 [.inr (.inr (some 95)), .inl i, .inl k], [], M)) _
  have hct := hc_of hz
  have him : (i - 1).toInt = ((j - 1 : Nat) : Int) := by rw [sub_1 hi (by omega) (by omega)]; omega
  have hip : (i + 1).toInt = ((j + 1 : Nat) : Int) := by rw [add_p hi (by omega) (by omega)]; omega
  obtain ⟨b1, b2⟩ := bdt (k := k) hB h1 h2 hk
  have t0 := tnc hi
  have tm := tnc him
  have tp := tnc hip
  refine nv_cut hct nvV 100 2 5 (S' := (d + 1, [], 100, 2, [(0, .inr (.inr (some 95))), (1, .inl i), (2, .inl k)], [.inl (1 : Int32), .inl i], M)) hA rfl ?_
  refine nv_ifc hct false rfl (ccF0 hi (show ((1 : Int32)).toInt = 1 from rfl) (show (1 : Int) ≤ j by omega)) ?_
  refine nv_cut hct nvV 100 8 5 (S' := (d + 1, [], 100, 8, [(0, .inr (.inr (some 95))), (1, .inl i), (2, .inl k)], [.inl (29 : Int32), .inl i], M)) hA rfl ?_
  refine nv_ifc hct true rfl (ccT0 hi (show ((29 : Int32)).toInt = 29 from rfl) (show (j : Int) < 29 by omega)) ?_
  refine nv_cut hct nvV 100 26 14 (S' := (d + 1, [], 100, 26, [(4, .inl (i + (1 : Int32))), (3, .inl (i - (1 : Int32))), (0, .inr (.inr (some 95))), (1, .inl i), (2, .inl k)], [.inl (i - (1 : Int32)), .inr (.inr (some 99))], M)) hA rfl ?_
  refine nv_ald hct hA rfl (show nvV.1 99 = 15 + 1 from rfl) (show nvV.2.1 99 = 30 + 1 from rfl) (inb_p him (by omega)) ?_
  refine nv_cut hct nvV 100 33 6 (S' := (d + 1, [], 100, 33, [(4, .inl (i + (1 : Int32))), (3, .inl (i - (1 : Int32))), (0, .inr (.inr (some 95))), (1, .inl i), (2, .inl k)], [.inl (i + (1 : Int32)), .inr (.inr (some 99)), .inl (a_I M 99 (i - (1 : Int32)).toNatClampNeg)], M)) hA rfl ?_
  refine nv_ald hct hA rfl (show nvV.1 99 = 15 + 1 from rfl) (show nvV.2.1 99 = 30 + 1 from rfl) (inb_p hip (by omega)) ?_
  refine nv_cut hct nvV 100 44 10 (S' := (d + 1, [], 100, 44, [(5, .inl (((a_I M 99 (i - (1 : Int32)).toNatClampNeg) + (a_I M 99 (i + (1 : Int32)).toNatClampNeg)) - k)), (4, .inl (i + (1 : Int32))), (3, .inl (i - (1 : Int32))), (0, .inr (.inr (some 95))), (1, .inl i), (2, .inl k)], [.inl (i - (1 : Int32)), .inr (.inr (some 100))], M)) hA rfl ?_
  refine nv_ald hct hA rfl (show nvV.1 100 = 15 + 1 from rfl) (show nvV.2.1 100 = 30 + 1 from rfl) (inb_p him (by omega)) ?_
  refine nv_cut hct nvV 100 51 6 (S' := (d + 1, [], 100, 51, [(5, .inl (((a_I M 99 (i - (1 : Int32)).toNatClampNeg) + (a_I M 99 (i + (1 : Int32)).toNatClampNeg)) - k)), (4, .inl (i + (1 : Int32))), (3, .inl (i - (1 : Int32))), (0, .inr (.inr (some 95))), (1, .inl i), (2, .inl k)], [.inl (i + (1 : Int32)), .inr (.inr (some 100)), .inl (a_I M 100 (i - (1 : Int32)).toNatClampNeg)], M)) hA rfl ?_
  refine nv_ald hct hA rfl (show nvV.1 100 = 15 + 1 from rfl) (show nvV.2.1 100 = 30 + 1 from rfl) (inb_p hip (by omega)) ?_
  refine nv_cut hct nvV 243 0 13 (S' := (d, [(100, 66, [(6, .inl (((a_I M 100 (i - (1 : Int32)).toNatClampNeg) + (a_I M 100 (i + (1 : Int32)).toNatClampNeg)) + k)), (5, .inl (((a_I M 99 (i - (1 : Int32)).toNatClampNeg) + (a_I M 99 (i + (1 : Int32)).toNatClampNeg)) - k)), (4, .inl (i + (1 : Int32))), (3, .inl (i - (1 : Int32))), (0, .inr (.inr (some 95))), (1, .inl i), (2, .inl k)], [.inl i, .inr (.inr (some 95))])], 243, 0, la 0 [.inl (-(((a_I M 99 (i - (1 : Int32)).toNatClampNeg) + (a_I M 99 (i + (1 : Int32)).toNatClampNeg)) - k)), .inl (2 : Int32)], [], M)) hA rfl ?_
  refine nv_calli (cf_fd hz hA) (fun d1 N1 ⟨e1, f1⟩ => ?_)
  have e1 := e1.symm
  subst e1
  subst f1
  refine nv_cut hct nvV 243 0 7 (S' := (d, [(100, 73, [(6, .inl (((a_I M 100 (i - (1 : Int32)).toNatClampNeg) + (a_I M 100 (i + (1 : Int32)).toNatClampNeg)) + k)), (5, .inl (((a_I M 99 (i - (1 : Int32)).toNatClampNeg) + (a_I M 99 (i + (1 : Int32)).toNatClampNeg)) - k)), (4, .inl (i + (1 : Int32))), (3, .inl (i - (1 : Int32))), (0, .inr (.inr (some 95))), (1, .inl i), (2, .inl k)], [.inl (-(fdI (-(((a_I M 99 (i - (1 : Int32)).toNatClampNeg) + (a_I M 99 (i + (1 : Int32)).toNatClampNeg)) - k)))), .inl i, .inr (.inr (some 95))])], 243, 0, la 0 [.inl (((a_I M 100 (i - (1 : Int32)).toNatClampNeg) + (a_I M 100 (i + (1 : Int32)).toNatClampNeg)) + k), .inl (2 : Int32)], [], M)) hA rfl ?_
  refine nv_calli (cf_fd hz hA) (fun d2 N2 ⟨e2, f2⟩ => ?_)
  have e2 := e2.symm
  subst e2
  subst f2
  refine nv_cut hct nvV 101 0 4 (S' := (d, [(100, 76, [(6, .inl (((a_I M 100 (i - (1 : Int32)).toNatClampNeg) + (a_I M 100 (i + (1 : Int32)).toNatClampNeg)) + k)), (5, .inl (((a_I M 99 (i - (1 : Int32)).toNatClampNeg) + (a_I M 99 (i + (1 : Int32)).toNatClampNeg)) - k)), (4, .inl (i + (1 : Int32))), (3, .inl (i - (1 : Int32))), (0, .inr (.inr (some 95))), (1, .inl i), (2, .inl k)], [])], 101, 0, la 0 [.inr (.inr (some 95)), .inl i, .inl (-(fdI (-(((a_I M 99 (i - (1 : Int32)).toNatClampNeg) + (a_I M 99 (i + (1 : Int32)).toNatClampNeg)) - k)))), .inl (fdI (((a_I M 100 (i - (1 : Int32)).toNatClampNeg) + (a_I M 100 (i + (1 : Int32)).toNatClampNeg)) + k))], [], M)) hA rfl ?_
  have WM1 : spC j (-(fdI (-(((a_I M 99 (i - (1 : Int32)).toNatClampNeg) + (a_I M 99 (i + (1 : Int32)).toNatClampNeg)) - k)))) (fdI (((a_I M 100 (i - (1 : Int32)).toNatClampNeg) + (a_I M 100 (i + (1 : Int32)).toNatClampNeg)) + k)) a = spt1 k j a := by
    unfold spt1
    simp only [t0, tm, tp, hS.1, hS.2, b1, b2]
  refine nv_callv (cf_cut1 hz hA hS (j := j) hi (by omega) hp) (fun M1 ⟨EM1, SM1, pM1, zM1⟩ => ?_)
  rw [WM1] at SM1 pM1 zM1
  have AM1 : nv_A nvV (tauC c) M1 := eqE_A EM1 hA
  cases g1 : spE (spt1 k j a).1 j with
  | true =>
    rw [g1] at pM1
    have pM1 : a_I M1 95 6 = 0 := pM1
    refine nv_cut hct nvV 100 84 9 (S' := (d + 1, [], 100, 84, [(6, .inl (((a_I M 100 (i - (1 : Int32)).toNatClampNeg) + (a_I M 100 (i + (1 : Int32)).toNatClampNeg)) + k)), (5, .inl (((a_I M 99 (i - (1 : Int32)).toNatClampNeg) + (a_I M 99 (i + (1 : Int32)).toNatClampNeg)) - k)), (4, .inl (i + (1 : Int32))), (3, .inl (i - (1 : Int32))), (0, .inr (.inr (some 95))), (1, .inl i), (2, .inl k)], [.inl i, .inr (.inr (some 99)), .inl (2 : Int32), .inl (i - (1 : Int32)), .inr (.inr (some 95))], M1)) AM1 rfl ?_
    refine nv_ald hct AM1 rfl (show nvV.1 99 = 15 + 1 from rfl) (show nvV.2.1 99 = 30 + 1 from rfl) (inb_p hi (by omega)) ?_
    refine nv_cut hct nvV 100 92 7 (S' := (d + 1, [], 100, 92, [(6, .inl (((a_I M 100 (i - (1 : Int32)).toNatClampNeg) + (a_I M 100 (i + (1 : Int32)).toNatClampNeg)) + k)), (5, .inl (((a_I M 99 (i - (1 : Int32)).toNatClampNeg) + (a_I M 99 (i + (1 : Int32)).toNatClampNeg)) - k)), (4, .inl (i + (1 : Int32))), (3, .inl (i - (1 : Int32))), (0, .inr (.inr (some 95))), (1, .inl i), (2, .inl k)], [.inl (i + (1 : Int32)), .inr (.inr (some 100)), .inl ((2 : Int32) * (a_I M1 99 i.toNatClampNeg)), .inl (i - (1 : Int32)), .inr (.inr (some 95))], M1)) AM1 rfl ?_
    refine nv_ald hct AM1 rfl (show nvV.1 100 = 15 + 1 from rfl) (show nvV.2.1 100 = 30 + 1 from rfl) (inb_p hip (by omega)) ?_
    refine nv_cut hct nvV 100 102 10 (S' := (d + 1, [], 100, 102, [(6, .inl (((a_I M 100 (i - (1 : Int32)).toNatClampNeg) + (a_I M 100 (i + (1 : Int32)).toNatClampNeg)) + k)), (5, .inl (((a_I M 99 (i - (1 : Int32)).toNatClampNeg) + (a_I M 99 (i + (1 : Int32)).toNatClampNeg)) - k)), (4, .inl (i + (1 : Int32))), (3, .inl (i - (1 : Int32))), (0, .inr (.inr (some 95))), (1, .inl i), (2, .inl k)], [.inl i, .inr (.inr (some 100)), .inl (2 : Int32), .inl ((((2 : Int32) * (a_I M1 99 i.toNatClampNeg)) - (a_I M1 100 (i + (1 : Int32)).toNatClampNeg)) - k), .inl (i - (1 : Int32)), .inr (.inr (some 95))], M1)) AM1 rfl ?_
    refine nv_ald hct AM1 rfl (show nvV.1 100 = 15 + 1 from rfl) (show nvV.2.1 100 = 30 + 1 from rfl) (inb_p hi (by omega)) ?_
    refine nv_cut hct nvV 100 110 7 (S' := (d + 1, [], 100, 110, [(6, .inl (((a_I M 100 (i - (1 : Int32)).toNatClampNeg) + (a_I M 100 (i + (1 : Int32)).toNatClampNeg)) + k)), (5, .inl (((a_I M 99 (i - (1 : Int32)).toNatClampNeg) + (a_I M 99 (i + (1 : Int32)).toNatClampNeg)) - k)), (4, .inl (i + (1 : Int32))), (3, .inl (i - (1 : Int32))), (0, .inr (.inr (some 95))), (1, .inl i), (2, .inl k)], [.inl (i + (1 : Int32)), .inr (.inr (some 99)), .inl ((2 : Int32) * (a_I M1 100 i.toNatClampNeg)), .inl ((((2 : Int32) * (a_I M1 99 i.toNatClampNeg)) - (a_I M1 100 (i + (1 : Int32)).toNatClampNeg)) - k), .inl (i - (1 : Int32)), .inr (.inr (some 95))], M1)) AM1 rfl ?_
    refine nv_ald hct AM1 rfl (show nvV.1 99 = 15 + 1 from rfl) (show nvV.2.1 99 = 30 + 1 from rfl) (inb_p hip (by omega)) ?_
    refine nv_cut hct nvV 101 0 7 (S' := (d, [(100, 117, [(6, .inl (((a_I M 100 (i - (1 : Int32)).toNatClampNeg) + (a_I M 100 (i + (1 : Int32)).toNatClampNeg)) + k)), (5, .inl (((a_I M 99 (i - (1 : Int32)).toNatClampNeg) + (a_I M 99 (i + (1 : Int32)).toNatClampNeg)) - k)), (4, .inl (i + (1 : Int32))), (3, .inl (i - (1 : Int32))), (0, .inr (.inr (some 95))), (1, .inl i), (2, .inl k)], [])], 101, 0, la 0 [.inr (.inr (some 95)), .inl (i - (1 : Int32)), .inl ((((2 : Int32) * (a_I M1 99 i.toNatClampNeg)) - (a_I M1 100 (i + (1 : Int32)).toNatClampNeg)) - k), .inl ((((2 : Int32) * (a_I M1 100 i.toNatClampNeg)) - (a_I M1 99 (i + (1 : Int32)).toNatClampNeg)) + k)], [], M1)) AM1 rfl ?_
    refine nv_callv (cf_cut0 hz AM1 pM1) (fun N4 e4 => ?_)
    have e4 := e4.symm
    subst e4
    refine nv_cut hct nvV 100 126 9 (S' := (d + 1, [], 100, 126, [(6, .inl (((a_I M 100 (i - (1 : Int32)).toNatClampNeg) + (a_I M 100 (i + (1 : Int32)).toNatClampNeg)) + k)), (5, .inl (((a_I M 99 (i - (1 : Int32)).toNatClampNeg) + (a_I M 99 (i + (1 : Int32)).toNatClampNeg)) - k)), (4, .inl (i + (1 : Int32))), (3, .inl (i - (1 : Int32))), (0, .inr (.inr (some 95))), (1, .inl i), (2, .inl k)], [.inl i, .inr (.inr (some 99)), .inl (2 : Int32), .inl (i + (1 : Int32)), .inr (.inr (some 95))], M1)) AM1 rfl ?_
    refine nv_ald hct AM1 rfl (show nvV.1 99 = 15 + 1 from rfl) (show nvV.2.1 99 = 30 + 1 from rfl) (inb_p hi (by omega)) ?_
    refine nv_cut hct nvV 100 133 7 (S' := (d + 1, [], 100, 133, [(6, .inl (((a_I M 100 (i - (1 : Int32)).toNatClampNeg) + (a_I M 100 (i + (1 : Int32)).toNatClampNeg)) + k)), (5, .inl (((a_I M 99 (i - (1 : Int32)).toNatClampNeg) + (a_I M 99 (i + (1 : Int32)).toNatClampNeg)) - k)), (4, .inl (i + (1 : Int32))), (3, .inl (i - (1 : Int32))), (0, .inr (.inr (some 95))), (1, .inl i), (2, .inl k)], [.inl (i - (1 : Int32)), .inr (.inr (some 100)), .inl ((2 : Int32) * (a_I M1 99 i.toNatClampNeg)), .inl (i + (1 : Int32)), .inr (.inr (some 95))], M1)) AM1 rfl ?_
    refine nv_ald hct AM1 rfl (show nvV.1 100 = 15 + 1 from rfl) (show nvV.2.1 100 = 30 + 1 from rfl) (inb_p him (by omega)) ?_
    refine nv_cut hct nvV 100 143 10 (S' := (d + 1, [], 100, 143, [(6, .inl (((a_I M 100 (i - (1 : Int32)).toNatClampNeg) + (a_I M 100 (i + (1 : Int32)).toNatClampNeg)) + k)), (5, .inl (((a_I M 99 (i - (1 : Int32)).toNatClampNeg) + (a_I M 99 (i + (1 : Int32)).toNatClampNeg)) - k)), (4, .inl (i + (1 : Int32))), (3, .inl (i - (1 : Int32))), (0, .inr (.inr (some 95))), (1, .inl i), (2, .inl k)], [.inl i, .inr (.inr (some 100)), .inl (2 : Int32), .inl ((((2 : Int32) * (a_I M1 99 i.toNatClampNeg)) - (a_I M1 100 (i - (1 : Int32)).toNatClampNeg)) - k), .inl (i + (1 : Int32)), .inr (.inr (some 95))], M1)) AM1 rfl ?_
    refine nv_ald hct AM1 rfl (show nvV.1 100 = 15 + 1 from rfl) (show nvV.2.1 100 = 30 + 1 from rfl) (inb_p hi (by omega)) ?_
    refine nv_cut hct nvV 100 150 7 (S' := (d + 1, [], 100, 150, [(6, .inl (((a_I M 100 (i - (1 : Int32)).toNatClampNeg) + (a_I M 100 (i + (1 : Int32)).toNatClampNeg)) + k)), (5, .inl (((a_I M 99 (i - (1 : Int32)).toNatClampNeg) + (a_I M 99 (i + (1 : Int32)).toNatClampNeg)) - k)), (4, .inl (i + (1 : Int32))), (3, .inl (i - (1 : Int32))), (0, .inr (.inr (some 95))), (1, .inl i), (2, .inl k)], [.inl (i - (1 : Int32)), .inr (.inr (some 99)), .inl ((2 : Int32) * (a_I M1 100 i.toNatClampNeg)), .inl ((((2 : Int32) * (a_I M1 99 i.toNatClampNeg)) - (a_I M1 100 (i - (1 : Int32)).toNatClampNeg)) - k), .inl (i + (1 : Int32)), .inr (.inr (some 95))], M1)) AM1 rfl ?_
    refine nv_ald hct AM1 rfl (show nvV.1 99 = 15 + 1 from rfl) (show nvV.2.1 99 = 30 + 1 from rfl) (inb_p him (by omega)) ?_
    refine nv_cut hct nvV 101 0 7 (S' := (d, [(100, 157, [(6, .inl (((a_I M 100 (i - (1 : Int32)).toNatClampNeg) + (a_I M 100 (i + (1 : Int32)).toNatClampNeg)) + k)), (5, .inl (((a_I M 99 (i - (1 : Int32)).toNatClampNeg) + (a_I M 99 (i + (1 : Int32)).toNatClampNeg)) - k)), (4, .inl (i + (1 : Int32))), (3, .inl (i - (1 : Int32))), (0, .inr (.inr (some 95))), (1, .inl i), (2, .inl k)], [])], 101, 0, la 0 [.inr (.inr (some 95)), .inl (i + (1 : Int32)), .inl ((((2 : Int32) * (a_I M1 99 i.toNatClampNeg)) - (a_I M1 100 (i - (1 : Int32)).toNatClampNeg)) - k), .inl ((((2 : Int32) * (a_I M1 100 i.toNatClampNeg)) - (a_I M1 99 (i - (1 : Int32)).toNatClampNeg)) + k)], [], M1)) AM1 rfl ?_
    refine nv_callv (cf_cut0 hz AM1 pM1) (fun N5 e5 => ?_)
    have e5 := e5.symm
    subst e5
    refine nv_cut hct nvV 100 157 3 (S' := (d + 1, [], 100, 157, [(6, .inl (((a_I M 100 (i - (1 : Int32)).toNatClampNeg) + (a_I M 100 (i + (1 : Int32)).toNatClampNeg)) + k)), (5, .inl (((a_I M 99 (i - (1 : Int32)).toNatClampNeg) + (a_I M 99 (i + (1 : Int32)).toNatClampNeg)) - k)), (4, .inl (i + (1 : Int32))), (3, .inl (i - (1 : Int32))), (0, .inr (.inr (some 95))), (1, .inl i), (2, .inl k)], [], M1)) AM1 rfl ?_
    exact nv_vret hct rfl ⟨rfl, EM1, Or.inr ⟨tri_1 g1, pM1⟩⟩
  | false =>
    rw [g1] at pM1
    have pM1 : a_I M1 95 6 = 1 := pM1
    refine nv_cut hct nvV 100 84 9 (S' := (d + 1, [], 100, 84, [(6, .inl (((a_I M 100 (i - (1 : Int32)).toNatClampNeg) + (a_I M 100 (i + (1 : Int32)).toNatClampNeg)) + k)), (5, .inl (((a_I M 99 (i - (1 : Int32)).toNatClampNeg) + (a_I M 99 (i + (1 : Int32)).toNatClampNeg)) - k)), (4, .inl (i + (1 : Int32))), (3, .inl (i - (1 : Int32))), (0, .inr (.inr (some 95))), (1, .inl i), (2, .inl k)], [.inl i, .inr (.inr (some 99)), .inl (2 : Int32), .inl (i - (1 : Int32)), .inr (.inr (some 95))], M1)) AM1 rfl ?_
    refine nv_ald hct AM1 rfl (show nvV.1 99 = 15 + 1 from rfl) (show nvV.2.1 99 = 30 + 1 from rfl) (inb_p hi (by omega)) ?_
    refine nv_cut hct nvV 100 92 7 (S' := (d + 1, [], 100, 92, [(6, .inl (((a_I M 100 (i - (1 : Int32)).toNatClampNeg) + (a_I M 100 (i + (1 : Int32)).toNatClampNeg)) + k)), (5, .inl (((a_I M 99 (i - (1 : Int32)).toNatClampNeg) + (a_I M 99 (i + (1 : Int32)).toNatClampNeg)) - k)), (4, .inl (i + (1 : Int32))), (3, .inl (i - (1 : Int32))), (0, .inr (.inr (some 95))), (1, .inl i), (2, .inl k)], [.inl (i + (1 : Int32)), .inr (.inr (some 100)), .inl ((2 : Int32) * (a_I M1 99 i.toNatClampNeg)), .inl (i - (1 : Int32)), .inr (.inr (some 95))], M1)) AM1 rfl ?_
    refine nv_ald hct AM1 rfl (show nvV.1 100 = 15 + 1 from rfl) (show nvV.2.1 100 = 30 + 1 from rfl) (inb_p hip (by omega)) ?_
    refine nv_cut hct nvV 100 102 10 (S' := (d + 1, [], 100, 102, [(6, .inl (((a_I M 100 (i - (1 : Int32)).toNatClampNeg) + (a_I M 100 (i + (1 : Int32)).toNatClampNeg)) + k)), (5, .inl (((a_I M 99 (i - (1 : Int32)).toNatClampNeg) + (a_I M 99 (i + (1 : Int32)).toNatClampNeg)) - k)), (4, .inl (i + (1 : Int32))), (3, .inl (i - (1 : Int32))), (0, .inr (.inr (some 95))), (1, .inl i), (2, .inl k)], [.inl i, .inr (.inr (some 100)), .inl (2 : Int32), .inl ((((2 : Int32) * (a_I M1 99 i.toNatClampNeg)) - (a_I M1 100 (i + (1 : Int32)).toNatClampNeg)) - k), .inl (i - (1 : Int32)), .inr (.inr (some 95))], M1)) AM1 rfl ?_
    refine nv_ald hct AM1 rfl (show nvV.1 100 = 15 + 1 from rfl) (show nvV.2.1 100 = 30 + 1 from rfl) (inb_p hi (by omega)) ?_
    refine nv_cut hct nvV 100 110 7 (S' := (d + 1, [], 100, 110, [(6, .inl (((a_I M 100 (i - (1 : Int32)).toNatClampNeg) + (a_I M 100 (i + (1 : Int32)).toNatClampNeg)) + k)), (5, .inl (((a_I M 99 (i - (1 : Int32)).toNatClampNeg) + (a_I M 99 (i + (1 : Int32)).toNatClampNeg)) - k)), (4, .inl (i + (1 : Int32))), (3, .inl (i - (1 : Int32))), (0, .inr (.inr (some 95))), (1, .inl i), (2, .inl k)], [.inl (i + (1 : Int32)), .inr (.inr (some 99)), .inl ((2 : Int32) * (a_I M1 100 i.toNatClampNeg)), .inl ((((2 : Int32) * (a_I M1 99 i.toNatClampNeg)) - (a_I M1 100 (i + (1 : Int32)).toNatClampNeg)) - k), .inl (i - (1 : Int32)), .inr (.inr (some 95))], M1)) AM1 rfl ?_
    refine nv_ald hct AM1 rfl (show nvV.1 99 = 15 + 1 from rfl) (show nvV.2.1 99 = 30 + 1 from rfl) (inb_p hip (by omega)) ?_
    refine nv_cut hct nvV 101 0 7 (S' := (d, [(100, 117, [(6, .inl (((a_I M 100 (i - (1 : Int32)).toNatClampNeg) + (a_I M 100 (i + (1 : Int32)).toNatClampNeg)) + k)), (5, .inl (((a_I M 99 (i - (1 : Int32)).toNatClampNeg) + (a_I M 99 (i + (1 : Int32)).toNatClampNeg)) - k)), (4, .inl (i + (1 : Int32))), (3, .inl (i - (1 : Int32))), (0, .inr (.inr (some 95))), (1, .inl i), (2, .inl k)], [])], 101, 0, la 0 [.inr (.inr (some 95)), .inl (i - (1 : Int32)), .inl ((((2 : Int32) * (a_I M1 99 i.toNatClampNeg)) - (a_I M1 100 (i + (1 : Int32)).toNatClampNeg)) - k), .inl ((((2 : Int32) * (a_I M1 100 i.toNatClampNeg)) - (a_I M1 99 (i + (1 : Int32)).toNatClampNeg)) + k)], [], M1)) AM1 rfl ?_
    have WM2 : spC (j - 1) ((((2 : Int32) * (a_I M1 99 i.toNatClampNeg)) - (a_I M1 100 (i + (1 : Int32)).toNatClampNeg)) - k) ((((2 : Int32) * (a_I M1 100 i.toNatClampNeg)) - (a_I M1 99 (i + (1 : Int32)).toNatClampNeg)) + k) (spt1 k j a).1 = spt2 k j (spt1 k j a).1 := by
      unfold spt2
      simp only [t0, tm, tp, SM1.1, SM1.2]
    refine nv_callv (cf_cut1 hz AM1 SM1 (j := (j - 1)) him (by omega) pM1) (fun M2 ⟨EM2, SM2, pM2, zM2⟩ => ?_)
    rw [WM2] at SM2 pM2 zM2
    have AM2 : nv_A nvV (tauC c) M2 := eqE_A EM2 AM1
    cases g2 : spE (spt2 k j (spt1 k j a).1).1 (j - 1) with
    | true =>
      rw [g2] at pM2
      have pM2 : a_I M2 95 6 = 0 := pM2
      refine nv_cut hct nvV 100 126 9 (S' := (d + 1, [], 100, 126, [(6, .inl (((a_I M 100 (i - (1 : Int32)).toNatClampNeg) + (a_I M 100 (i + (1 : Int32)).toNatClampNeg)) + k)), (5, .inl (((a_I M 99 (i - (1 : Int32)).toNatClampNeg) + (a_I M 99 (i + (1 : Int32)).toNatClampNeg)) - k)), (4, .inl (i + (1 : Int32))), (3, .inl (i - (1 : Int32))), (0, .inr (.inr (some 95))), (1, .inl i), (2, .inl k)], [.inl i, .inr (.inr (some 99)), .inl (2 : Int32), .inl (i + (1 : Int32)), .inr (.inr (some 95))], M2)) AM2 rfl ?_
      refine nv_ald hct AM2 rfl (show nvV.1 99 = 15 + 1 from rfl) (show nvV.2.1 99 = 30 + 1 from rfl) (inb_p hi (by omega)) ?_
      refine nv_cut hct nvV 100 133 7 (S' := (d + 1, [], 100, 133, [(6, .inl (((a_I M 100 (i - (1 : Int32)).toNatClampNeg) + (a_I M 100 (i + (1 : Int32)).toNatClampNeg)) + k)), (5, .inl (((a_I M 99 (i - (1 : Int32)).toNatClampNeg) + (a_I M 99 (i + (1 : Int32)).toNatClampNeg)) - k)), (4, .inl (i + (1 : Int32))), (3, .inl (i - (1 : Int32))), (0, .inr (.inr (some 95))), (1, .inl i), (2, .inl k)], [.inl (i - (1 : Int32)), .inr (.inr (some 100)), .inl ((2 : Int32) * (a_I M2 99 i.toNatClampNeg)), .inl (i + (1 : Int32)), .inr (.inr (some 95))], M2)) AM2 rfl ?_
      refine nv_ald hct AM2 rfl (show nvV.1 100 = 15 + 1 from rfl) (show nvV.2.1 100 = 30 + 1 from rfl) (inb_p him (by omega)) ?_
      refine nv_cut hct nvV 100 143 10 (S' := (d + 1, [], 100, 143, [(6, .inl (((a_I M 100 (i - (1 : Int32)).toNatClampNeg) + (a_I M 100 (i + (1 : Int32)).toNatClampNeg)) + k)), (5, .inl (((a_I M 99 (i - (1 : Int32)).toNatClampNeg) + (a_I M 99 (i + (1 : Int32)).toNatClampNeg)) - k)), (4, .inl (i + (1 : Int32))), (3, .inl (i - (1 : Int32))), (0, .inr (.inr (some 95))), (1, .inl i), (2, .inl k)], [.inl i, .inr (.inr (some 100)), .inl (2 : Int32), .inl ((((2 : Int32) * (a_I M2 99 i.toNatClampNeg)) - (a_I M2 100 (i - (1 : Int32)).toNatClampNeg)) - k), .inl (i + (1 : Int32)), .inr (.inr (some 95))], M2)) AM2 rfl ?_
      refine nv_ald hct AM2 rfl (show nvV.1 100 = 15 + 1 from rfl) (show nvV.2.1 100 = 30 + 1 from rfl) (inb_p hi (by omega)) ?_
      refine nv_cut hct nvV 100 150 7 (S' := (d + 1, [], 100, 150, [(6, .inl (((a_I M 100 (i - (1 : Int32)).toNatClampNeg) + (a_I M 100 (i + (1 : Int32)).toNatClampNeg)) + k)), (5, .inl (((a_I M 99 (i - (1 : Int32)).toNatClampNeg) + (a_I M 99 (i + (1 : Int32)).toNatClampNeg)) - k)), (4, .inl (i + (1 : Int32))), (3, .inl (i - (1 : Int32))), (0, .inr (.inr (some 95))), (1, .inl i), (2, .inl k)], [.inl (i - (1 : Int32)), .inr (.inr (some 99)), .inl ((2 : Int32) * (a_I M2 100 i.toNatClampNeg)), .inl ((((2 : Int32) * (a_I M2 99 i.toNatClampNeg)) - (a_I M2 100 (i - (1 : Int32)).toNatClampNeg)) - k), .inl (i + (1 : Int32)), .inr (.inr (some 95))], M2)) AM2 rfl ?_
      refine nv_ald hct AM2 rfl (show nvV.1 99 = 15 + 1 from rfl) (show nvV.2.1 99 = 30 + 1 from rfl) (inb_p him (by omega)) ?_
      refine nv_cut hct nvV 101 0 7 (S' := (d, [(100, 157, [(6, .inl (((a_I M 100 (i - (1 : Int32)).toNatClampNeg) + (a_I M 100 (i + (1 : Int32)).toNatClampNeg)) + k)), (5, .inl (((a_I M 99 (i - (1 : Int32)).toNatClampNeg) + (a_I M 99 (i + (1 : Int32)).toNatClampNeg)) - k)), (4, .inl (i + (1 : Int32))), (3, .inl (i - (1 : Int32))), (0, .inr (.inr (some 95))), (1, .inl i), (2, .inl k)], [])], 101, 0, la 0 [.inr (.inr (some 95)), .inl (i + (1 : Int32)), .inl ((((2 : Int32) * (a_I M2 99 i.toNatClampNeg)) - (a_I M2 100 (i - (1 : Int32)).toNatClampNeg)) - k), .inl ((((2 : Int32) * (a_I M2 100 i.toNatClampNeg)) - (a_I M2 99 (i - (1 : Int32)).toNatClampNeg)) + k)], [], M2)) AM2 rfl ?_
      refine nv_callv (cf_cut0 hz AM2 pM2) (fun N5 e5 => ?_)
      have e5 := e5.symm
      subst e5
      refine nv_cut hct nvV 100 157 3 (S' := (d + 1, [], 100, 157, [(6, .inl (((a_I M 100 (i - (1 : Int32)).toNatClampNeg) + (a_I M 100 (i + (1 : Int32)).toNatClampNeg)) + k)), (5, .inl (((a_I M 99 (i - (1 : Int32)).toNatClampNeg) + (a_I M 99 (i + (1 : Int32)).toNatClampNeg)) - k)), (4, .inl (i + (1 : Int32))), (3, .inl (i - (1 : Int32))), (0, .inr (.inr (some 95))), (1, .inl i), (2, .inl k)], [], M2)) AM2 rfl ?_
      exact nv_vret hct rfl ⟨rfl, eqE_tr EM1 EM2, Or.inr ⟨tri_2 g2, pM2⟩⟩
    | false =>
      rw [g2] at pM2
      have pM2 : a_I M2 95 6 = 1 := pM2
      refine nv_cut hct nvV 100 126 9 (S' := (d + 1, [], 100, 126, [(6, .inl (((a_I M 100 (i - (1 : Int32)).toNatClampNeg) + (a_I M 100 (i + (1 : Int32)).toNatClampNeg)) + k)), (5, .inl (((a_I M 99 (i - (1 : Int32)).toNatClampNeg) + (a_I M 99 (i + (1 : Int32)).toNatClampNeg)) - k)), (4, .inl (i + (1 : Int32))), (3, .inl (i - (1 : Int32))), (0, .inr (.inr (some 95))), (1, .inl i), (2, .inl k)], [.inl i, .inr (.inr (some 99)), .inl (2 : Int32), .inl (i + (1 : Int32)), .inr (.inr (some 95))], M2)) AM2 rfl ?_
      refine nv_ald hct AM2 rfl (show nvV.1 99 = 15 + 1 from rfl) (show nvV.2.1 99 = 30 + 1 from rfl) (inb_p hi (by omega)) ?_
      refine nv_cut hct nvV 100 133 7 (S' := (d + 1, [], 100, 133, [(6, .inl (((a_I M 100 (i - (1 : Int32)).toNatClampNeg) + (a_I M 100 (i + (1 : Int32)).toNatClampNeg)) + k)), (5, .inl (((a_I M 99 (i - (1 : Int32)).toNatClampNeg) + (a_I M 99 (i + (1 : Int32)).toNatClampNeg)) - k)), (4, .inl (i + (1 : Int32))), (3, .inl (i - (1 : Int32))), (0, .inr (.inr (some 95))), (1, .inl i), (2, .inl k)], [.inl (i - (1 : Int32)), .inr (.inr (some 100)), .inl ((2 : Int32) * (a_I M2 99 i.toNatClampNeg)), .inl (i + (1 : Int32)), .inr (.inr (some 95))], M2)) AM2 rfl ?_
      refine nv_ald hct AM2 rfl (show nvV.1 100 = 15 + 1 from rfl) (show nvV.2.1 100 = 30 + 1 from rfl) (inb_p him (by omega)) ?_
      refine nv_cut hct nvV 100 143 10 (S' := (d + 1, [], 100, 143, [(6, .inl (((a_I M 100 (i - (1 : Int32)).toNatClampNeg) + (a_I M 100 (i + (1 : Int32)).toNatClampNeg)) + k)), (5, .inl (((a_I M 99 (i - (1 : Int32)).toNatClampNeg) + (a_I M 99 (i + (1 : Int32)).toNatClampNeg)) - k)), (4, .inl (i + (1 : Int32))), (3, .inl (i - (1 : Int32))), (0, .inr (.inr (some 95))), (1, .inl i), (2, .inl k)], [.inl i, .inr (.inr (some 100)), .inl (2 : Int32), .inl ((((2 : Int32) * (a_I M2 99 i.toNatClampNeg)) - (a_I M2 100 (i - (1 : Int32)).toNatClampNeg)) - k), .inl (i + (1 : Int32)), .inr (.inr (some 95))], M2)) AM2 rfl ?_
      refine nv_ald hct AM2 rfl (show nvV.1 100 = 15 + 1 from rfl) (show nvV.2.1 100 = 30 + 1 from rfl) (inb_p hi (by omega)) ?_
      refine nv_cut hct nvV 100 150 7 (S' := (d + 1, [], 100, 150, [(6, .inl (((a_I M 100 (i - (1 : Int32)).toNatClampNeg) + (a_I M 100 (i + (1 : Int32)).toNatClampNeg)) + k)), (5, .inl (((a_I M 99 (i - (1 : Int32)).toNatClampNeg) + (a_I M 99 (i + (1 : Int32)).toNatClampNeg)) - k)), (4, .inl (i + (1 : Int32))), (3, .inl (i - (1 : Int32))), (0, .inr (.inr (some 95))), (1, .inl i), (2, .inl k)], [.inl (i - (1 : Int32)), .inr (.inr (some 99)), .inl ((2 : Int32) * (a_I M2 100 i.toNatClampNeg)), .inl ((((2 : Int32) * (a_I M2 99 i.toNatClampNeg)) - (a_I M2 100 (i - (1 : Int32)).toNatClampNeg)) - k), .inl (i + (1 : Int32)), .inr (.inr (some 95))], M2)) AM2 rfl ?_
      refine nv_ald hct AM2 rfl (show nvV.1 99 = 15 + 1 from rfl) (show nvV.2.1 99 = 30 + 1 from rfl) (inb_p him (by omega)) ?_
      refine nv_cut hct nvV 101 0 7 (S' := (d, [(100, 157, [(6, .inl (((a_I M 100 (i - (1 : Int32)).toNatClampNeg) + (a_I M 100 (i + (1 : Int32)).toNatClampNeg)) + k)), (5, .inl (((a_I M 99 (i - (1 : Int32)).toNatClampNeg) + (a_I M 99 (i + (1 : Int32)).toNatClampNeg)) - k)), (4, .inl (i + (1 : Int32))), (3, .inl (i - (1 : Int32))), (0, .inr (.inr (some 95))), (1, .inl i), (2, .inl k)], [])], 101, 0, la 0 [.inr (.inr (some 95)), .inl (i + (1 : Int32)), .inl ((((2 : Int32) * (a_I M2 99 i.toNatClampNeg)) - (a_I M2 100 (i - (1 : Int32)).toNatClampNeg)) - k), .inl ((((2 : Int32) * (a_I M2 100 i.toNatClampNeg)) - (a_I M2 99 (i - (1 : Int32)).toNatClampNeg)) + k)], [], M2)) AM2 rfl ?_
      have WM3 : spC (j + 1) ((((2 : Int32) * (a_I M2 99 i.toNatClampNeg)) - (a_I M2 100 (i - (1 : Int32)).toNatClampNeg)) - k) ((((2 : Int32) * (a_I M2 100 i.toNatClampNeg)) - (a_I M2 99 (i - (1 : Int32)).toNatClampNeg)) + k) (spt2 k j (spt1 k j a).1).1 = spt3 k j (spt2 k j (spt1 k j a).1).1 := by
        unfold spt3
        simp only [t0, tm, tp, SM2.1, SM2.2]
      refine nv_callv (cf_cut1 hz AM2 SM2 (j := (j + 1)) hip (by omega) pM2) (fun M3 ⟨EM3, SM3, pM3, zM3⟩ => ?_)
      rw [WM3] at SM3 pM3 zM3
      have AM3 : nv_A nvV (tauC c) M3 := eqE_A EM3 AM2
      have SM3 : SpC9 M3 (spS k j a) := SM3
      have pM3 : a_I M3 95 6 = (bif spE (spS k j a) (j + 1) then 0 else 1) := pM3
      refine nv_cut hct nvV 100 157 3 (S' := (d + 1, [], 100, 157, [(6, .inl (((a_I M 100 (i - (1 : Int32)).toNatClampNeg) + (a_I M 100 (i + (1 : Int32)).toNatClampNeg)) + k)), (5, .inl (((a_I M 99 (i - (1 : Int32)).toNatClampNeg) + (a_I M 99 (i + (1 : Int32)).toNatClampNeg)) - k)), (4, .inl (i + (1 : Int32))), (3, .inl (i - (1 : Int32))), (0, .inr (.inr (some 95))), (1, .inl i), (2, .inl k)], [], M3)) AM3 rfl ?_
      refine nv_vret hct rfl ⟨rfl, eqE_tr (eqE_tr EM1 EM2) EM3, ?_⟩
      cases g3 : spE (spS k j a) (j + 1) with
      | true => rw [g3] at pM3; exact Or.inr ⟨tri_3 g3, pM3⟩
      | false => rw [g3] at pM3; exact Or.inl ⟨tri_0 h1 g1 g2 g3, SM3, pM3, by rw [zM3, zM2, zM1]; exact or3⟩

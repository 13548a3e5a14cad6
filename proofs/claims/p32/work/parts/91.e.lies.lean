/-! lies and next of the reference: printed by wip/gen/lies.py -/
def msSp : List (Nat × Nat) := [(13, 0), (13, 1), (13, 2), (710, 0), (711, 0)]
theorem HP_sp {b : Bool} {rg : Nat → Nat} {M M1 M2 : aM} (h : HP b rg msSp M M1) (e : eqE fsp M1 M2) : HP b rg msSp M M2 := by
  obtain ⟨⟨h1, h2, h3, h4, h5, h6, h7, h8⟩, ⟨j1, j2, j3⟩, hF⟩ := h
  obtain ⟨⟨n1, n2, n3⟩, ⟨k1, k2, k3, k4⟩, hI⟩ := e
  have r1 : rg 133 = 710 := (h2 133 (by omega)).trans (by cases b <;> rfl)
  have r2 : rg 134 = 711 := (h2 134 (by omega)).trans (by cases b <;> rfl)
  have hne : ∀ a k, fsp a k = true → a = 133 ∨ a = 134 := fun a k q => by
    rcases (Bool.or_eq_true _ _).mp q with q | q
    · exact Or.inl (nbT q)
    · exact Or.inr (nbT q)
  have hI2 : ∀ a k, a ≠ 133 → a ≠ 134 → a_I M2 a k = a_I M1 a k := fun a k q1 q2 => hI a k (by unfold fsp; rw [nbF q1, nbF q2]; rfl)
  refine ⟨⟨⟨by rw [n1]; exact h1.1, fun a ha => ?_⟩, h2, fun a q1 q2 => h3 a q1 (by rw [← n1]; exact q2), by rw [n1]; exact h4, by rw [n1]; exact h5, fun q hq => by rw [k4]; exact h6 q hq, by rw [k4]; exact h7, by rw [k4]; exact h8⟩, ⟨?_, ?_, fun k hk => ?_⟩, Fr_tr (M := M1) (ms' := msL msSp) hF ⟨⟨n1, n2, n3⟩, k1, k2, fun a k hk => ⟨?_, by rw [k3], by rw [k4]⟩⟩ (fun _ _ h => h)⟩
  · rw [n1] at ha ⊢
    obtain ⟨q1, q2, q3⟩ := h1.2 a ha
    refine ⟨by rw [k1]; exact q1, by rw [k2]; exact q2, fun k hk => ?_⟩
    have q3 := q3 k hk
    rw [k4]
    cases hf : fsp a k with
    | false => rw [hI a k hf]; exact q3
    | true =>
      refine free_ok ?_ q3
      rcases hne a k hf with rfl | rfl
      · rw [r1]; rfl
      · rw [r2]; rfl
  · show 0 ≤ (a_I M2 115 7).toInt ∧ _
    unfold dnM
    rw [hI2 115 7 (by omega) (by omega)]
    exact j1
  · rw [k4]
    rcases j2 with e | ⟨u, e, u1, u2, u3, fr, u4, u5, u6, u7⟩
    · exact Or.inl e
    · have hu1 : u ≠ 133 := fun q => by rw [q, r1] at u2; cases u2
      have hu2 : u ≠ 134 := fun q => by rw [q, r2] at u2; cases u2
      refine Or.inr ⟨u, e, by rw [n1]; exact u1, u2, ?_, fr, u4, u5, by rw [hI2 u 12 hu1 hu2]; exact u6, fun w hw hr k hk => ?_⟩
      · unfold dnM
        rw [hI2 u 0 hu1 hu2, hI2 115 7 (by omega) (by omega)]
        exact u3
      · rw [hI2 w k (fun q => by rw [q, r1] at hr; cases hr) (fun q => by rw [q, r2] at hr; cases hr)]
        exact u7 w (by rw [← n1]; exact hw) hr k hk
  · rw [hI2 113 31 (by omega) (by omega)] at hk
    unfold dnM
    rw [hI2 127 k (by omega) (by omega), hI2 115 7 (by omega) (by omega)]
    exact j3 k hk
  · cases hf : fsp a k with
    | false => exact hI a k hf
    | true =>
      rcases hne a k hf with rfl | rfl
      · rw [r1] at hk; cases hk
      · rw [r2] at hk; cases hk
theorem JS_in {b : Bool} {rg : Nat → Nat} {M : aM} {u : Nat} (hL : LB b rg M) (hj : JS rg M u) : (2 ≤ (a_I M u 0).toInt ∧ (a_I M u 0).toInt ≤ 30) ∧ (10 ≤ (a_I M u 1).toInt ∧ (a_I M u 1).toInt ≤ 999) ∧ u ≠ 133 ∧ u ≠ 134 ∧ u ≠ 113 := by
  have q := (hL.1.2 u hj.1).2.2
  rw [hj.2.1] at q
  have r : ∀ x, x < 137 → rg x = rgP b x := hL.2.1
  have n : ∀ b : Bool, ∀ x : Fin 137, rgP b x.1 ≠ 12 := by decide +kernel
  have hne : ∀ x, x < 137 → u ≠ x := fun x hx e => n b ⟨x, hx⟩ (by rw [← r x hx, ← e]; exact hj.2.1)
  exact ⟨q 0 (by decide), q 1 (by decide), hne 133 (by omega), hne 134 (by omega), hne 113 (by omega)⟩
/-- the widest: the first of them -/
def wdI (a : spA) : Nat → Nat → Nat → Nat
  | 0, _, b => b
  | f + 1, i, b => wdI a f (i + 1) (if (a.2 b - a.1 b).toInt < (a.2 i - a.1 i).toInt then i else b)
theorem wdI_le {a : spA} {n : Nat} : ∀ {f i b : Nat}, b < n → i + f ≤ n → wdI a f i b < n
  | 0, _, _, h, _ => h
  | f + 1, i, b, h, g => by
    unfold wdI
    refine wdI_le ?_ (by omega)
    split <;> omega
theorem r_lies0 {cd : Nat → Nat → Option aI} {z : Bool} (hz : ∀ m p i, cd0 z m p = some i → cd m p = some i) {b : Bool} {rg : Nat → Nat} {M : aM} (hL : LB b rg M) (hJ : JM rg M) (x1 x2 x3 : Int32) {τ : Nat → Nat} (hA : nv_A nvO τ M) {d : Nat} : wpS cd (d + 1, [], 239, 0, nv_l τ (la 0 [.inr (.inr (some 113)), .inl x1, .inl x2, .inl x3]), [], M) (fun r M' => ∃ y, r = some (.inl y) ∧ HQ b rg msSp M M' ∧ y = -1000000) := by
  show wpS cd (nv_S τ (d + 1, [], 239, 0, la 0 [.inr (.inr (some 113)), .inl x1, .inl x2, .inl x3], [], M)) _
  have hct := hc_of hz
  refine nv_cut hct nvO 239 32 20 (S' := (d + 1, [], 239, 32, [(0, .inr (.inr (some 113))), (1, .inl x1), (2, .inl x2), (3, .inl x3)], [.inl (-1000000 : Int32)], (s_I (s_I (s_I M 113 0 (0 : Int32)) 113 1 (1 : Int32)) 113 2 (-1 : Int32)))) hA rfl ?_
  exact nv_iret hct rfl rfl ⟨_, rfl, HQ_r (HP_113 (HP_rf hL hJ) (by omega) rfl) rfl rfl, rfl⟩
def LiR (M : aM) (u : Nat) (x1 x2 x3 y : Int32) : Prop := ((x1.toInt < 0 ∨ (a_I M u 0).toInt ≤ x1.toInt) ∧ y = -1000000) ∨ ((0 ≤ x1.toInt ∧ x1.toInt < (a_I M u 0).toInt) ∧ (((x2.toInt < 0 ∨ 99 < x2.toInt) ∧ y = -1000000) ∨ ((0 ≤ x2.toInt ∧ x2.toInt ≤ 99) ∧ ∃ F, (∀ F', F ≤ F' → spn x2 (a_I M u 0).toInt.toNat F' (sp0 M (a_I M u 0).toInt.toNat (a_I M u 1)) = spn x2 (a_I M u 0).toInt.toNat F (sp0 M (a_I M u 0).toInt.toNat (a_I M u 1))) ∧ y = (bif (spn x2 (a_I M u 0).toInt.toNat F (sp0 M (a_I M u 0).toInt.toNat (a_I M u 1))).2 then (if x3 = 0 then (spn x2 (a_I M u 0).toInt.toNat F (sp0 M (a_I M u 0).toInt.toNat (a_I M u 1))).1.1 x1.toInt.toNat else (spn x2 (a_I M u 0).toInt.toNat F (sp0 M (a_I M u 0).toInt.toNat (a_I M u 1))).1.2 x1.toInt.toNat) else -1000000))))
set_option maxHeartbeats 4000000 in
theorem r_lies1 {cd : Nat → Nat → Option aI} {z : Bool} (hz : ∀ m p i, cd0 z m p = some i → cd m p = some i) {b : Bool} {rg : Nat → Nat} {M : aM} (hL : LB b rg M) (hJ : JM rg M) (x1 x2 x3 : Int32) {u : Nat} (hu : a_P M 113 3 = some u) {d : Nat} : wpS cd (d + 2, [], 239, 0, nv_l (tauN u) (la 0 [.inr (.inr (some 113)), .inl x1, .inl x2, .inl x3]), [], M) (fun r M' => ∃ y, r = some (.inl y) ∧ HQ b rg msSp M M' ∧ LiR M u x1 x2 x3 y) := by
  show wpS cd (nv_S (tauN u) (d + 2, [], 239, 0, la 0 [.inr (.inr (some 113)), .inl x1, .inl x2, .inl x3], [], M)) _
  have hct := hc_of hz
  have hj := JM_u hJ hu
  have hA := LB_nvU hL hu hj
  obtain ⟨⟨n2, n3⟩, _, hu1, hu2, hu3⟩ := JS_in hL hj
  have hU : nv_s (tauN u) 137 = u := by rw [show (137 : Nat) = 137 + 0 from rfl, nv_hi (by omega), Nat.add_zero]
  have h0 : HP b rg msSp M (s_I M 113 0 0) := HP_113 (HP_rf hL hJ) (by omega) rfl
  obtain ⟨n, hn⟩ : ∃ n : Nat, (a_I M u 0).toInt = (n : Int) := ⟨(a_I M u 0).toInt.toNat, by omega⟩
  have hin : (a_I (s_I M 113 0 0) (nv_s (tauN u) 137) 0).toInt = (n : Int) := by rw [hU, aI_nk (fun q => hu3 q.1)]; exact hn
  have hn0 : (a_I (s_I M 113 0 0) u 0).toInt = (n : Int) := by rw [aI_nk (fun q => hu3 q.1)]; exact hn
  have hs0 : sp0 (s_I M 113 0 0) n (a_I M u 1) = sp0 M n (a_I M u 1) := rfl
  have hnn : (a_I M u 0).toInt.toNat = n := by omega
  unfold LiR
  rw [hnn, hn]
  refine nv_cut hct nvU 239 13 10 (S' := (d + 2, [], 239, 13, [(0, .inr (.inr (some 113))), (1, .inl x1), (2, .inl x2), (3, .inl x3)], [.inl x1], (s_I M 113 0 (0 : Int32)))) hA rfl ?_
  by_cases c1 : x1.toInt < 0
  · skip
    refine nv_if hct true rfl (zcT0 rfl c1) ?_
    refine nv_cut hct nvU 239 32 14 (S' := (d + 2, [], 239, 32, [(0, .inr (.inr (some 113))), (1, .inl x1), (2, .inl x2), (3, .inl x3)], [.inl (-1000000 : Int32)], (s_I (s_I (s_I M 113 0 (0 : Int32)) 113 1 (1 : Int32)) 113 2 (-1 : Int32)))) (nv_As hA) rfl ?_
    exact nv_iret hct rfl rfl ⟨_, rfl, HQ_r h0 rfl rfl, Or.inl ⟨Or.inl c1, rfl⟩⟩
  · skip
    refine nv_if hct false rfl (zcF0 rfl (by omega)) ?_
    refine nv_cut hct nvU 239 24 7 (S' := (d + 2, [], 239, 24, [(0, .inr (.inr (some 113))), (1, .inl x1), (2, .inl x2), (3, .inl x3)], [.inl (a_I (s_I M 113 0 (0 : Int32)) (nv_s (tauN u) 137) 0), .inl x1], (s_I M 113 0 (0 : Int32)))) (nv_As hA) rfl ?_
    by_cases c2 : x1.toInt < (n : Int)
    rotate_left
    · skip
      refine nv_ifc hct false rfl (ccF0 rfl hin (by omega)) ?_
      refine nv_cut hct nvU 239 32 14 (S' := (d + 2, [], 239, 32, [(0, .inr (.inr (some 113))), (1, .inl x1), (2, .inl x2), (3, .inl x3)], [.inl (-1000000 : Int32)], (s_I (s_I (s_I M 113 0 (0 : Int32)) 113 1 (1 : Int32)) 113 2 (-1 : Int32)))) (nv_As hA) rfl ?_
      exact nv_iret hct rfl rfl ⟨_, rfl, HQ_r h0 rfl rfl, Or.inl ⟨Or.inr (by omega), rfl⟩⟩
    · skip
      refine nv_ifc hct true rfl (ccT0 rfl hin c2) ?_
      refine wpS_mono (Q := fun r M' => ∃ y, r = some (.inl y) ∧ HQ b rg msSp M M' ∧ (((x2.toInt < 0 ∨ 99 < x2.toInt) ∧ y = -1000000) ∨ ((0 ≤ x2.toInt ∧ x2.toInt ≤ 99) ∧ ∃ F, (∀ F', F ≤ F' → spn x2 n F' (sp0 M n (a_I M u 1)) = spn x2 n F (sp0 M n (a_I M u 1))) ∧ y = (bif (spn x2 n F (sp0 M n (a_I M u 1))).2 then (if x3 = 0 then (spn x2 n F (sp0 M n (a_I M u 1))).1.1 x1.toInt.toNat else (spn x2 n F (sp0 M n (a_I M u 1))).1.2 x1.toInt.toNat) else -1000000)))) ?_ (fun r M' h => ?_)
      rotate_left
      · skip
        obtain ⟨y, y1, y2, y3⟩ := h
        exact ⟨y, y1, y2, Or.inr ⟨⟨by omega, c2⟩, y3⟩⟩
      refine nv_cut hct nvU 156 0 7 (S' := (d + 1, [(239, 40, [(0, .inr (.inr (some 113))), (1, .inl x1), (2, .inl x2), (3, .inl x3)], [])], 156, 0, la 0 [.inl x2, .inl (0 : Int32), .inl (99 : Int32)], [], (s_I M 113 0 (0 : Int32)))) (nv_As hA) rfl ?_
      refine nv_calli (r_inB hz (nvU_B (nv_As hA))) (fun y1 Ny1 ⟨ey1, cy1⟩ => ?_)
      subst ey1
      rcases cy1 with ⟨ey1, cy1⟩ | ⟨ey1, cy1⟩
      · skip
        subst ey1
        have cy1 : (0 : Int) ≤ x2.toInt ∧ x2.toInt ≤ 99 := cy1
        refine nv_cut hct nvU 238 0 7 (S' := (d + 1, [(239, 54, [(0, .inr (.inr (some 113))), (1, .inl x1), (2, .inl x2), (3, .inl x3)], [])], 238, 0, la 0 [.inr (.inr (some 113)), .inl x2], [], (s_I M 113 0 (0 : Int32)))) (nv_As hA) rfl ?_
        refine nv_calli (r_spans hz (d := d) (nv_As hA) hn0 (by omega) (by omega) (w := a_I M u 1) (by rw [aI_nk (fun q => hu3 q.1)]) hu1 hu2) (fun y2 M2 ⟨E2, F, hF, S2, hy⟩ => ?_)
        rw [hs0] at hF S2 hy
        have h2 := HP_sp h0 E2
        have hA2 : nv_A nvU (tauN u) M2 := eqE_A E2 hA
        cases hc : (spn x2 n F (sp0 M n (a_I M u 1))).2 with
        | false =>
          have hy : y2 = 0 := by rw [hy, hc]; rfl
          subst hy
          refine nv_cut hct nvU 239 63 15 (S' := (d + 2, [], 239, 63, [(0, .inr (.inr (some 113))), (1, .inl x1), (2, .inl x2), (3, .inl x3)], [.inl (-1000000 : Int32)], (s_I (s_I M2 113 1 (6 : Int32)) 113 2 (-1 : Int32)))) hA2 rfl ?_
          exact nv_iret hct rfl rfl ⟨_, rfl, HQ_r h2 rfl rfl, Or.inr ⟨cy1, F, hF, by rw [hc]; rfl⟩⟩
        | true =>
          have hy : y2 = 1 := by rw [hy, hc]; rfl
          subst hy
          refine nv_cut hct nvU 239 66 6 (S' := (d + 2, [], 239, 66, [(0, .inr (.inr (some 113))), (1, .inl x1), (2, .inl x2), (3, .inl x3)], [.inl x3, .inr (.inr (some 113))], M2)) hA2 rfl ?_
          obtain ⟨j, hj9⟩ : ∃ j : Nat, x1.toInt = (j : Int) := ⟨x1.toInt.toNat, by omega⟩
          have hjj : x1.toInt.toNat = j := by omega
          by_cases c3 : x3 = 0
          · skip
            refine nv_if hct true rfl (zcT1 (show _ = x3.toInt from rfl) (by rw [c3]; rfl)) ?_
            refine nv_cut hct nvU 239 83 6 (S' := (d + 2, [], 239, 83, [(0, .inr (.inr (some 113))), (1, .inl x1), (2, .inl x2), (3, .inl x3)], [.inl x1, .inr (.inr (some 133)), .inr (.inr (some 113))], M2)) hA2 rfl ?_
            refine nv_ald hct hA2 rfl (show nvU.1 133 = 15 + 1 from rfl) (show nvU.2.1 133 = 30 + 1 from rfl) (inb_p hj9 (by omega)) ?_
            refine nv_cut hct nvU 239 87 12 (S' := (d + 2, [], 239, 87, [(0, .inr (.inr (some 113))), (1, .inl x1), (2, .inl x2), (3, .inl x3)], [.inl (a_I M2 133 x1.toNatClampNeg)], (s_I (s_I M2 113 1 (0 : Int32)) 113 2 (-1 : Int32)))) hA2 rfl ?_
            exact nv_iret hct rfl rfl ⟨_, rfl, HQ_r h2 rfl rfl, Or.inr ⟨cy1, F, hF, by rw [hc, if_pos c3, tnc hj9, hjj, S2.1]; rfl⟩⟩
          · skip
            refine nv_if hct false rfl (zcF1 (show _ = x3.toInt from rfl) (fun e => c3 (Int32.toInt_inj.mp e))) ?_
            refine nv_cut hct nvU 239 74 6 (S' := (d + 2, [], 239, 74, [(0, .inr (.inr (some 113))), (1, .inl x1), (2, .inl x2), (3, .inl x3)], [.inl x1, .inr (.inr (some 134)), .inr (.inr (some 113))], M2)) hA2 rfl ?_
            refine nv_ald hct hA2 rfl (show nvU.1 134 = 15 + 1 from rfl) (show nvU.2.1 134 = 30 + 1 from rfl) (inb_p hj9 (by omega)) ?_
            refine nv_cut hct nvU 239 87 13 (S' := (d + 2, [], 239, 87, [(0, .inr (.inr (some 113))), (1, .inl x1), (2, .inl x2), (3, .inl x3)], [.inl (a_I M2 134 x1.toNatClampNeg)], (s_I (s_I M2 113 1 (0 : Int32)) 113 2 (-1 : Int32)))) hA2 rfl ?_
            exact nv_iret hct rfl rfl ⟨_, rfl, HQ_r h2 rfl rfl, Or.inr ⟨cy1, F, hF, by rw [hc, if_neg c3, tnc hj9, hjj, S2.2]; rfl⟩⟩
      · skip
        subst ey1
        have cy1 : x2.toInt < 0 ∨ 99 < x2.toInt := cy1
        refine nv_cut hct nvU 239 48 15 (S' := (d + 2, [], 239, 48, [(0, .inr (.inr (some 113))), (1, .inl x1), (2, .inl x2), (3, .inl x3)], [.inl (-1000000 : Int32)], (s_I (s_I (s_I M 113 0 (0 : Int32)) 113 1 (2 : Int32)) 113 2 (-1 : Int32)))) (nv_As hA) rfl ?_
        exact nv_iret hct rfl rfl ⟨_, rfl, HQ_r h0 rfl rfl, Or.inl ⟨cy1, rfl⟩⟩
theorem r_next0 {cd : Nat → Nat → Option aI} {z : Bool} (hz : ∀ m p i, cd0 z m p = some i → cd m p = some i) {b : Bool} {rg : Nat → Nat} {M : aM} (hL : LB b rg M) (hJ : JM rg M) (x1 : Int32) {τ : Nat → Nat} (hA : nv_A nvO τ M) {d : Nat} : wpS cd (d + 1, [], 240, 0, nv_l τ (la 0 [.inr (.inr (some 113)), .inl x1]), [], M) (fun r M' => ∃ y, r = some (.inl y) ∧ HQ b rg msSp M M' ∧ y = -1) := by
  show wpS cd (nv_S τ (d + 1, [], 240, 0, la 0 [.inr (.inr (some 113)), .inl x1], [], M)) _
  have hct := hc_of hz
  refine nv_cut hct nvO 240 17 20 (S' := (d + 1, [], 240, 17, [(0, .inr (.inr (some 113))), (1, .inl x1)], [.inl (-1 : Int32)], (s_I (s_I (s_I M 113 0 (0 : Int32)) 113 1 (1 : Int32)) 113 2 (-1 : Int32)))) hA rfl ?_
  exact nv_iret hct rfl rfl ⟨_, rfl, HQ_r (HP_113 (HP_rf hL hJ) (by omega) rfl) rfl rfl, rfl⟩
set_option maxHeartbeats 4000000 in
theorem r_nxL {cd : Nat → Nat → Option aI} {z : Bool} (hz : ∀ m p i, cd0 z m p = some i → cd m p = some i) {u n : Nat} {nI k : Int32} (hn : nI.toInt = (n : Int)) (hn3 : n ≤ 30) {a : spA} {M : aM} (hA : nv_A nvU (tauN u) M) (h0 : a_I M u 0 = nI) (hS : SpM M a) {d : Nat} {Q : aQ} : ∀ (f : Nat) {j bj : Nat} {i bb : Int32} {lo : aL}, j + f = n → bj < n → i.toInt = (j : Int) → bb.toInt = (bj : Int) → lo = [(3, .inl i), (2, .inl bb), (0, .inr (.inr (some 113))), (1, .inl k)] ∨ lo = [(3, .inl i), (2, .inl bb), (0, .inr (.inr (some 113))), (1, .inl k)] → (∀ i' b', b'.toInt = ((wdI a f j bj : Nat) : Int) → wpS cd (nv_S (tauN u) (d + 1, [], 240, 101, [(3, .inl i'), (2, .inl b'), (0, .inr (.inr (some 113))), (1, .inl k)], [], M)) Q) → wpS cd (nv_S (tauN u) (d + 1, [], 240, 53, lo, [], M)) Q := by
  have hct := hc_of hz
  have hU : nv_s (tauN u) 137 = u := by rw [show (137 : Nat) = 137 + 0 from rfl, nv_hi (by omega), Nat.add_zero]
  have hin : (a_I M (nv_s (tauN u) 137) 0).toInt = (n : Int) := by rw [hU, h0]; exact hn
  intro f
  induction f with
  | zero =>
    intro j bj i bb lo h2 hb hi hbb hlo q
    have hlo : lo = [(3, .inl i), (2, .inl bb), (0, .inr (.inr (some 113))), (1, .inl k)] := hlo.elim id id
    subst hlo
    refine nv_cut hct nvU 240 61 7 (S' := (d + 1, [], 240, 61, [(3, .inl i), (2, .inl bb), (0, .inr (.inr (some 113))), (1, .inl k)], [.inl (a_I M (nv_s (tauN u) 137) 0), .inl i], M)) hA rfl ?_
    refine nv_ifc hct true rfl (ccT4 hi hin (by omega)) ?_
    exact q i bb hbb
  | succ f ih =>
    intro j bj i bb lo h2 hb hi hbb hlo q
    have hlo : lo = [(3, .inl i), (2, .inl bb), (0, .inr (.inr (some 113))), (1, .inl k)] := hlo.elim id id
    subst hlo
    have hip : (i + 1).toInt = ((j + 1 : Nat) : Int) := by rw [add_p hi (by omega) (by omega)]; omega
    have e1 : (a_I M 134 i.toNatClampNeg - a_I M 133 i.toNatClampNeg).toInt = (a.2 j - a.1 j).toInt := by rw [tnc hi, hS.1, hS.2]
    have e2 : (a_I M 134 bb.toNatClampNeg - a_I M 133 bb.toNatClampNeg).toInt = (a.2 bj - a.1 bj).toInt := by rw [tnc hbb, hS.1, hS.2]
    refine nv_cut hct nvU 240 61 7 (S' := (d + 1, [], 240, 61, [(3, .inl i), (2, .inl bb), (0, .inr (.inr (some 113))), (1, .inl k)], [.inl (a_I M (nv_s (tauN u) 137) 0), .inl i], M)) hA rfl ?_
    refine nv_ifc hct false rfl (ccF4 hi hin (by omega)) ?_
    refine nv_cut hct nvU 240 69 6 (S' := (d + 1, [], 240, 69, [(3, .inl i), (2, .inl bb), (0, .inr (.inr (some 113))), (1, .inl k)], [.inl i, .inr (.inr (some 134))], M)) hA rfl ?_
    refine nv_ald hct hA rfl (show nvU.1 134 = 15 + 1 from rfl) (show nvU.2.1 134 = 30 + 1 from rfl) (inb_p hi (by omega)) ?_
    refine nv_cut hct nvU 240 75 6 (S' := (d + 1, [], 240, 75, [(3, .inl i), (2, .inl bb), (0, .inr (.inr (some 113))), (1, .inl k)], [.inl i, .inr (.inr (some 133)), .inl (a_I M 134 i.toNatClampNeg)], M)) hA rfl ?_
    refine nv_ald hct hA rfl (show nvU.1 133 = 15 + 1 from rfl) (show nvU.2.1 133 = 30 + 1 from rfl) (inb_p hi (by omega)) ?_
    refine nv_cut hct nvU 240 82 7 (S' := (d + 1, [], 240, 82, [(3, .inl i), (2, .inl bb), (0, .inr (.inr (some 113))), (1, .inl k)], [.inl bb, .inr (.inr (some 134)), .inl ((a_I M 134 i.toNatClampNeg) - (a_I M 133 i.toNatClampNeg))], M)) hA rfl ?_
    refine nv_ald hct hA rfl (show nvU.1 134 = 15 + 1 from rfl) (show nvU.2.1 134 = 30 + 1 from rfl) (inb_p hbb (by omega)) ?_
    refine nv_cut hct nvU 240 88 6 (S' := (d + 1, [], 240, 88, [(3, .inl i), (2, .inl bb), (0, .inr (.inr (some 113))), (1, .inl k)], [.inl bb, .inr (.inr (some 133)), .inl (a_I M 134 bb.toNatClampNeg), .inl ((a_I M 134 i.toNatClampNeg) - (a_I M 133 i.toNatClampNeg))], M)) hA rfl ?_
    refine nv_ald hct hA rfl (show nvU.1 133 = 15 + 1 from rfl) (show nvU.2.1 133 = 30 + 1 from rfl) (inb_p hbb (by omega)) ?_
    refine nv_cut hct nvU 240 90 4 (S' := (d + 1, [], 240, 90, [(3, .inl i), (2, .inl bb), (0, .inr (.inr (some 113))), (1, .inl k)], [.inl ((a_I M 134 bb.toNatClampNeg) - (a_I M 133 bb.toNatClampNeg)), .inl ((a_I M 134 i.toNatClampNeg) - (a_I M 133 i.toNatClampNeg))], M)) hA rfl ?_
    by_cases c : (a.2 bj - a.1 bj).toInt < (a.2 j - a.1 j).toInt
    · skip
      refine nv_ifc hct false rfl (ccF2 e1 e2 c) ?_
      refine nv_cut hct nvU 240 53 7 (S' := (d + 1, [], 240, 53, [(3, .inl (i + 1)), (2, .inl i), (0, .inr (.inr (some 113))), (1, .inl k)], [], M)) hA rfl ?_
      exact ih (j := j + 1) (bj := j) (by omega) (by omega) hip hi (Or.inl rfl) (fun i' b' h => q i' b' (by unfold wdI; rw [if_pos c]; exact h))
    · skip
      refine nv_ifc hct true rfl (ccT2 e1 e2 (by omega)) ?_
      refine nv_cut hct nvU 240 53 5 (S' := (d + 1, [], 240, 53, [(3, .inl (i + 1)), (2, .inl bb), (0, .inr (.inr (some 113))), (1, .inl k)], [], M)) hA rfl ?_
      exact ih (j := j + 1) (bj := bj) (by omega) (by omega) hip hbb (Or.inl rfl) (fun i' b' h => q i' b' (by unfold wdI; rw [if_neg c]; exact h))
def NxR (M : aM) (u : Nat) (x1 y : Int32) : Prop := ((x1.toInt < 0 ∨ 99 < x1.toInt) ∧ y = -1) ∨ ((0 ≤ x1.toInt ∧ x1.toInt ≤ 99) ∧ ∃ F, (∀ F', F ≤ F' → spn x1 (a_I M u 0).toInt.toNat F' (sp0 M (a_I M u 0).toInt.toNat (a_I M u 1)) = spn x1 (a_I M u 0).toInt.toNat F (sp0 M (a_I M u 0).toInt.toNat (a_I M u 1))) ∧ (((spn x1 (a_I M u 0).toInt.toNat F (sp0 M (a_I M u 0).toInt.toNat (a_I M u 1))).2 = false ∧ y = -1) ∨ ((spn x1 (a_I M u 0).toInt.toNat F (sp0 M (a_I M u 0).toInt.toNat (a_I M u 1))).2 = true ∧ y.toInt = ((wdI (spn x1 (a_I M u 0).toInt.toNat F (sp0 M (a_I M u 0).toInt.toNat (a_I M u 1))).1 ((a_I M u 0).toInt.toNat - 1) 1 0 : Nat) : Int))))
set_option maxHeartbeats 4000000 in
theorem r_next1 {cd : Nat → Nat → Option aI} {z : Bool} (hz : ∀ m p i, cd0 z m p = some i → cd m p = some i) {b : Bool} {rg : Nat → Nat} {M : aM} (hL : LB b rg M) (hJ : JM rg M) (x1 : Int32) {u : Nat} (hu : a_P M 113 3 = some u) {d : Nat} : wpS cd (d + 2, [], 240, 0, nv_l (tauN u) (la 0 [.inr (.inr (some 113)), .inl x1]), [], M) (fun r M' => ∃ y, r = some (.inl y) ∧ HQ b rg msSp M M' ∧ NxR M u x1 y) := by
  show wpS cd (nv_S (tauN u) (d + 2, [], 240, 0, la 0 [.inr (.inr (some 113)), .inl x1], [], M)) _
  have hct := hc_of hz
  have hj := JM_u hJ hu
  have hA := LB_nvU hL hu hj
  obtain ⟨⟨n2, n3⟩, _, hu1, hu2, hu3⟩ := JS_in hL hj
  have hU : nv_s (tauN u) 137 = u := by rw [show (137 : Nat) = 137 + 0 from rfl, nv_hi (by omega), Nat.add_zero]
  have h0 : HP b rg msSp M (s_I M 113 0 0) := HP_113 (HP_rf hL hJ) (by omega) rfl
  obtain ⟨n, hn⟩ : ∃ n : Nat, (a_I M u 0).toInt = (n : Int) := ⟨(a_I M u 0).toInt.toNat, by omega⟩
  have hin : (a_I (s_I M 113 0 0) (nv_s (tauN u) 137) 0).toInt = (n : Int) := by rw [hU, aI_nk (fun q => hu3 q.1)]; exact hn
  have hn0 : (a_I (s_I M 113 0 0) u 0).toInt = (n : Int) := by rw [aI_nk (fun q => hu3 q.1)]; exact hn
  have hs0 : sp0 (s_I M 113 0 0) n (a_I M u 1) = sp0 M n (a_I M u 1) := rfl
  have hnn : (a_I M u 0).toInt.toNat = n := by omega
  unfold NxR
  rw [hnn]
  refine nv_cut hct nvU 156 0 13 (S' := (d + 1, [(240, 25, [(0, .inr (.inr (some 113))), (1, .inl x1)], [])], 156, 0, la 0 [.inl x1, .inl (0 : Int32), .inl (99 : Int32)], [], (s_I M 113 0 (0 : Int32)))) hA rfl ?_
  refine nv_calli (r_inB hz (nvU_B (nv_As hA))) (fun y1 Ny1 ⟨ey1, cy1⟩ => ?_)
  subst ey1
  rcases cy1 with ⟨ey1, cy1⟩ | ⟨ey1, cy1⟩
  · skip
    subst ey1
    have cy1 : (0 : Int) ≤ x1.toInt ∧ x1.toInt ≤ 99 := cy1
    refine nv_cut hct nvU 238 0 7 (S' := (d + 1, [(240, 39, [(0, .inr (.inr (some 113))), (1, .inl x1)], [])], 238, 0, la 0 [.inr (.inr (some 113)), .inl x1], [], (s_I M 113 0 (0 : Int32)))) (nv_As hA) rfl ?_
    refine nv_calli (r_spans hz (d := d) (nv_As hA) hn0 (by omega) (by omega) (w := a_I M u 1) (by rw [aI_nk (fun q => hu3 q.1)]) hu1 hu2) (fun y2 M2 ⟨E2, F, hF, S2, hy⟩ => ?_)
    rw [hs0] at hF S2 hy
    have h2 := HP_sp h0 E2
    have hA2 : nv_A nvU (tauN u) M2 := eqE_A E2 hA
    cases hc : (spn x1 n F (sp0 M n (a_I M u 1))).2 with
    | false =>
      have hy : y2 = 0 := by rw [hy, hc]; rfl
      subst hy
      refine nv_cut hct nvU 240 48 15 (S' := (d + 2, [], 240, 48, [(0, .inr (.inr (some 113))), (1, .inl x1)], [.inl (-1 : Int32)], (s_I (s_I M2 113 1 (6 : Int32)) 113 2 (-1 : Int32)))) hA2 rfl ?_
      exact nv_iret hct rfl rfl ⟨_, rfl, HQ_r h2 rfl rfl, Or.inr ⟨cy1, F, hF, Or.inl ⟨hc, rfl⟩⟩⟩
    | true =>
      have hy : y2 = 1 := by rw [hy, hc]; rfl
      subst hy
      refine nv_cut hct nvU 240 53 8 (S' := (d + 2, [], 240, 53, [(3, .inl (1 : Int32)), (2, .inl (0 : Int32)), (0, .inr (.inr (some 113))), (1, .inl x1)], [], M2)) hA2 rfl ?_
      have hm0 : (a_I M2 u 0).toInt = (n : Int) := by rw [E2.2.2 u 0 (by unfold fsp; rw [nbF hu1, nbF hu2]; rfl)]; exact hn0
      refine r_nxL hz (d := d + 1) hm0 (by omega) hA2 rfl S2 (n - 1) (j := 1) (bj := 0) (by omega) (by omega) rfl rfl (Or.inl rfl) (fun i' b' hb9 => ?_)
      refine nv_cut hct nvU 240 106 14 (S' := (d + 2, [], 240, 106, [(3, .inl (i')), (2, .inl (b')), (0, .inr (.inr (some 113))), (1, .inl x1)], [.inl (b')], (s_I (s_I M2 113 1 (0 : Int32)) 113 2 (-1 : Int32)))) hA2 rfl ?_
      exact nv_iret hct rfl rfl ⟨_, rfl, HQ_r h2 rfl rfl, Or.inr ⟨cy1, F, hF, Or.inr ⟨hc, hb9⟩⟩⟩
  · skip
    subst ey1
    have cy1 : x1.toInt < 0 ∨ 99 < x1.toInt := cy1
    refine nv_cut hct nvU 240 33 15 (S' := (d + 2, [], 240, 33, [(0, .inr (.inr (some 113))), (1, .inl x1)], [.inl (-1 : Int32)], (s_I (s_I (s_I M 113 0 (0 : Int32)) 113 1 (2 : Int32)) 113 2 (-1 : Int32)))) (nv_As hA) rfl ?_
    exact nv_iret hct rfl rfl ⟨_, rfl, HQ_r h0 rfl rfl, Or.inl ⟨cy1, rfl⟩⟩

/-! way, seer, hard, from of the reference: printed by wip/gen/refp6.py -/
def way0 (B : Nat → Int) (lim : Nat) (L : lsT) (p : Nat) : pmd := nam3 B lim L p (decide (l_wy L = 4))
def way1 (B : Nat → Int) (lim : Nat) (L : lsT) (p : Nat) : pmd := m_pt B lim (txc 42) 0 99 (way0 B lim L p)
def way2 (B : Nat → Int) (lim : Nat) (L : lsT) (p : Nat) : pmd := m_pt B lim (txc 43) 0 100 (way1 B lim L p)
def way3 (B : Nat → Int) (lim : Nat) (L : lsT) (p : Nat) : pmd := m_pt B lim (txc 44) 1 50 (way2 B lim L p)
def wayN (B : Nat → Int) (lim : Nat) (L : lsT) (p : Nat) : lsT := namL B lim L p (decide (l_wy L = 4)) (l_wy L : Int)
def wayL (B : Nat → Int) (lim : Nat) (L : lsT) (p : Nat) : lsT := (L.1, L.2.1, (l_wy L + 1, L.2.2.1.2), (wayN B lim L p).2.2.2)
theorem nam3_f {B : Nat → Int} {lim : Nat} {L : lsT} {p : Nat} {full : Bool} {q : Nat} (h : nam3 B lim L p full = .inl q) : full = false := by
  obtain ⟨q1, h1⟩ := adv_inl (show m_adv B lim (nam2 B lim L p full) = .inl q from h)
  obtain ⟨h2, _⟩ := if_inl (show m_if B lim 3 (!decide (l_fd L (m_hs B lim (nam0 B lim p full)) = -1)) (nam1 B lim p full) = .inl q1 from h1)
  obtain ⟨h3, _⟩ := if_inl (show m_if B lim 1 (!m_name B lim (nam0 B lim p full)) (nam0 B lim p full) = .inl q1 from h2)
  obtain ⟨q4, h4⟩ := adv_inl (show m_adv B lim (m_if B lim 5 full (.inl p)) = .inl q1 from h3)
  exact (if_inl h4).2
set_option maxHeartbeats 4000000 in
theorem r_way {cd : Nat → Nat → Option aI} {z : Bool} (hz : ∀ m p i, cd0 z m p = some i → cd m p = some i) {n0 : Nat} {B : Nat → Int} {lim : Nat} {M0 M : aM} {L : lsT} {p : Nat} (R : RdR n0 B lim M0 M (.inl p) L) (hk : knd B lim p = 1) (hwf : (l_nm L).length = l_wy L + l_se L) {d : Nat} : wpS cd (d + 9, [], 176, 0, nv_l (tauN n0) (la 0 [.inr (.inr (some 113))]), [], M) (fun r M' => r = none ∧ RdF n0 B lim M0 M' (way3 B lim L p) (wayL B lim L p)) := by
  show wpS cd (nv_S (tauN n0) (d + 9, [], 176, 0, la 0 [.inr (.inr (some 113))], [], M)) _
  have hct := hc_of hz
  have hwy := R.2.2.2.1.2.2.2.1
  have hse := R.2.2.2.1.2.2.2.2.2.1
  refine nv_cut hct nvR 176 9 8 (S' := (d + 9, [], 176, 9, [(0, .inr (.inr (some 113)))], [.inl (4 : Int32), .inl (a_I M n0 10), .inr (.inr (some 113))], M)) R.1.1 rfl ?_
  have key : ∀ M1, RdF n0 B lim M0 M1 (way0 B lim L p) (wayN B lim L p) → wpS cd (nv_S (tauN n0) (d + 9, [], 176, 27, [(0, .inr (.inr (some 113)))], [], M1)) (fun r M' => r = none ∧ RdF n0 B lim M0 M' (way3 B lim L p) (wayL B lim L p)) := by
    intro M1 R1
    refine nv_cut hct nvR 168 0 8 (S' := (d + 8, [(176, 37, [(0, .inr (.inr (some 113)))], [])], 168, 0, la 0 [.inr (.inr (some 113)), .inr (.inr (some (aSB + 42))), .inl (0 : Int32), .inl (99 : Int32)], [], M1)) R1.1.1 rfl ?_
    refine nv_calli (r_readPart hz R1.1 R1.2.1 (k := 42) (by decide)) (fun v3 M3 ⟨f3, S3, h3⟩ => ?_)
    have R3 : RdF n0 B lim M0 M3 (way1 B lim L p) (wayN B lim L p) := Rf_x R1 f3 S3 (fun q e => pt_inl e)
    have h3 : ∀ q, way1 B lim L p = .inl q → v3.toInt = m_val B lim (m_wd B lim (txc 42) (way0 B lim L p)) ∧ 0 ≤ v3.toInt ∧ v3.toInt ≤ 99 := h3
    refine nv_cut hct nvR 176 38 4 (S' := (d + 9, [], 176, 38, [(1, .inl v3), (0, .inr (.inr (some 113)))], [], M3)) R3.1.1 rfl ?_
    refine nv_cut hct nvR 168 0 8 (S' := (d + 8, [(176, 48, [(1, .inl v3), (0, .inr (.inr (some 113)))], [])], 168, 0, la 0 [.inr (.inr (some 113)), .inr (.inr (some (aSB + 43))), .inl (0 : Int32), .inl (100 : Int32)], [], M3)) R3.1.1 rfl ?_
    refine nv_calli (r_readPart hz R3.1 R3.2.1 (k := 43) (by decide)) (fun v4 M4 ⟨f4, S4, h4⟩ => ?_)
    have R4 : RdF n0 B lim M0 M4 (way2 B lim L p) (wayN B lim L p) := Rf_x R3 f4 S4 (fun q e => pt_inl e)
    have h4 : ∀ q, way2 B lim L p = .inl q → v4.toInt = m_val B lim (m_wd B lim (txc 43) (way1 B lim L p)) ∧ 0 ≤ v4.toInt ∧ v4.toInt ≤ 100 := h4
    refine nv_cut hct nvR 176 49 4 (S' := (d + 9, [], 176, 49, [(2, .inl v4), (1, .inl v3), (0, .inr (.inr (some 113)))], [], M4)) R4.1.1 rfl ?_
    refine nv_cut hct nvR 168 0 8 (S' := (d + 8, [(176, 59, [(2, .inl v4), (1, .inl v3), (0, .inr (.inr (some 113)))], [])], 168, 0, la 0 [.inr (.inr (some 113)), .inr (.inr (some (aSB + 44))), .inl (1 : Int32), .inl (50 : Int32)], [], M4)) R4.1.1 rfl ?_
    refine nv_calli (r_readPart hz R4.1 R4.2.1 (k := 44) (by decide)) (fun v5 M5 ⟨f5, S5, h5⟩ => ?_)
    have R5 : RdF n0 B lim M0 M5 (way3 B lim L p) (wayN B lim L p) := Rf_x R4 f5 S5 (fun q e => pt_inl e)
    have h5 : ∀ q, way3 B lim L p = .inl q → v5.toInt = m_val B lim (m_wd B lim (txc 44) (way2 B lim L p)) ∧ 1 ≤ v5.toInt ∧ v5.toInt ≤ 50 := h5
    refine nv_cut hct nvR 176 65 7 (S' := (d + 9, [], 176, 65, [(3, .inl v5), (2, .inl v4), (1, .inl v3), (0, .inr (.inr (some 113)))], [.inl (5 : Int32), .inl (a_I M5 113 9)], M5)) R5.1.1 rfl ?_
    cases hm : way3 B lim L p with
    | inr f =>
      have S := R5.2.1
      rw [hm] at S
      refine nv_ifc hct false rfl (ccF5 rfl (show ((5 : Int32)).toInt = 5 from rfl) (by rw [S.1]; rfl)) ?_
      refine nv_cut hct nvR 176 68 3 (S' := (d + 9, [], 176, 68, [(3, .inl v5), (2, .inl v4), (1, .inl v3), (0, .inr (.inr (some 113)))], [], M5)) R5.1.1 rfl ?_
      rw [hm] at R5
      exact nv_vret hct rfl ⟨rfl, R5.1, R5.2.1, R5.2.2.1, fun q e => by cases e⟩
    | inl q =>
      obtain ⟨l1, l2, l3⟩ := R5.2.2.2 q hm
      obtain ⟨q2, e2⟩ := pt_inl (show m_pt B lim (txc 44) 1 50 (way2 B lim L p) = .inl q from hm)
      obtain ⟨q1, e1⟩ := pt_inl (show m_pt B lim (txc 43) 0 100 (way1 B lim L p) = .inl q2 from e2)
      obtain ⟨q0, e0⟩ := pt_inl (show m_pt B lim (txc 42) 0 99 (way0 B lim L p) = .inl q1 from e1)
      have hw4 := of_decide_eq_false (nam3_f (show nam3 B lim L p (decide (l_wy L = 4)) = .inl q0 from e0))
      have R6 : RdR n0 B lim M0 M5 (.inl q) (wayN B lim L p) := ⟨R5.1, by rw [← hm]; exact R5.2.1, R5.2.2.1, l1, l2, l3⟩
      refine nv_ifc hct true rfl (ccT5 rfl (show ((5 : Int32)).toInt = 5 from rfl) (St_5 R6.2.1)) ?_
      refine nv_cut hct nvR 176 84 10 (S' := (d + 9, [], 176, 84, [(3, .inl v5), (2, .inl v4), (1, .inl v3), (0, .inr (.inr (some 113)))], [.inl v3, .inl (a_I M5 n0 10), .inr (.inr (some 138))], M5)) R6.1.1 rfl ?_
      have hi0 : (a_I M5 n0 10).toInt = (l_wy L : Int) := R6.2.2.2.1.2.2.2.1.1
      refine nv_ast hct R6.1.1 rfl (show nvR.1 138 = 15 + 1 from rfl) (show nvR.2.1 138 = 4 + 1 from rfl) (inb_p hi0 (by omega)) ?_
      show wpS cd (nv_S (tauN n0) (d + 9, [], 176, 85, [(3, .inl v5), (2, .inl v4), (1, .inl v3), (0, .inr (.inr (some 113)))], [], (s_I M5 (n0 + 1) (a_I M5 n0 10).toNatClampNeg v3))) _
      have R7 := Rd_arr (j := 0) (k := (a_I M5 n0 10).toNatClampNeg) (v := v3) rfl R6
      generalize hM7 : (s_I M5 (n0 + 1) (a_I M5 n0 10).toNatClampNeg v3) = M7 at R7 ⊢
      refine nv_cut hct nvR 176 100 10 (S' := (d + 9, [], 176, 100, [(3, .inl v5), (2, .inl v4), (1, .inl v3), (0, .inr (.inr (some 113)))], [.inl v4, .inl (a_I M7 n0 10), .inr (.inr (some 139))], M7)) R7.1.1 rfl ?_
      have hi1 : (a_I M7 n0 10).toInt = (l_wy L : Int) := R7.2.2.2.1.2.2.2.1.1
      refine nv_ast hct R7.1.1 rfl (show nvR.1 139 = 15 + 1 from rfl) (show nvR.2.1 139 = 4 + 1 from rfl) (inb_p hi1 (by omega)) ?_
      show wpS cd (nv_S (tauN n0) (d + 9, [], 176, 101, [(3, .inl v5), (2, .inl v4), (1, .inl v3), (0, .inr (.inr (some 113)))], [], (s_I M7 (n0 + 2) (a_I M7 n0 10).toNatClampNeg v4))) _
      have R8 := Rd_arr (j := 1) (k := (a_I M7 n0 10).toNatClampNeg) (v := v4) rfl R7
      generalize hM8 : (s_I M7 (n0 + 2) (a_I M7 n0 10).toNatClampNeg v4) = M8 at R8 ⊢
      refine nv_cut hct nvR 176 116 10 (S' := (d + 9, [], 176, 116, [(3, .inl v5), (2, .inl v4), (1, .inl v3), (0, .inr (.inr (some 113)))], [.inl v5, .inl (a_I M8 n0 10), .inr (.inr (some 140))], M8)) R8.1.1 rfl ?_
      have hi2 : (a_I M8 n0 10).toInt = (l_wy L : Int) := R8.2.2.2.1.2.2.2.1.1
      refine nv_ast hct R8.1.1 rfl (show nvR.1 140 = 15 + 1 from rfl) (show nvR.2.1 140 = 4 + 1 from rfl) (inb_p hi2 (by omega)) ?_
      show wpS cd (nv_S (tauN n0) (d + 9, [], 176, 117, [(3, .inl v5), (2, .inl v4), (1, .inl v3), (0, .inr (.inr (some 113)))], [], (s_I M8 (n0 + 3) (a_I M8 n0 10).toNatClampNeg v5))) _
      have R9 := Rd_arr (j := 2) (k := (a_I M8 n0 10).toNatClampNeg) (v := v5) rfl R8
      generalize hM9 : (s_I M8 (n0 + 3) (a_I M8 n0 10).toNatClampNeg v5) = M9 at R9 ⊢
      refine nv_cut hct nvR 176 130 10 (S' := (d + 9, [], 176, 130, [(3, .inl v5), (2, .inl v4), (1, .inl v3), (0, .inr (.inr (some 113)))], [], (s_I M9 n0 10 ((a_I M9 n0 10) + (1 : Int32))))) R9.1.1 rfl ?_
      have hi3 : (a_I M9 n0 10).toInt = (l_wy L : Int) := R9.2.2.2.1.2.2.2.1.1
      have R10 := Rd_way (L := wayN B lim L p) (c := a_I M9 n0 10 + 1) (show _ = (l_wy L : Int) + 1 from add_p hi3 (by omega) (by omega)) (show l_wy (wayN B lim L p) ≤ 3 by show l_wy L ≤ 3; omega) R9
      exact nv_vret hct rfl ⟨rfl, Rd_F R10⟩
  by_cases hc : l_wy L = 4
  · skip
    refine nv_ifc hct false rfl (ccF5 hwy.1 (show ((4 : Int32)).toInt = 4 from rfl) (by omega)) ?_
    refine nv_cut hct nvR 175 0 9 (S' := (d + 8, [(176, 27, [(0, .inr (.inr (some 113)))], [])], 175, 0, la 0 [.inr (.inr (some 113)), .inl (1 : Int32), .inl (a_I M n0 10)], [], M)) R.1.1 rfl ?_
    refine nv_callv (r_named hz R hk (full := decide (l_wy L = 4)) (by rw [decide_eq_true hc]; rfl) (fun e => absurd hc (of_decide_eq_false e)) (fun e => absurd hc (of_decide_eq_false e))) (fun M1 R1 => ?_)
    rw [hwy.1] at R1
    exact key M1 R1
  · skip
    refine nv_ifc hct true rfl (ccT5 hwy.1 (show ((4 : Int32)).toInt = 4 from rfl) (by omega)) ?_
    refine nv_cut hct nvR 175 0 8 (S' := (d + 8, [(176, 27, [(0, .inr (.inr (some 113)))], [])], 175, 0, la 0 [.inr (.inr (some 113)), .inl (0 : Int32), .inl (a_I M n0 10)], [], M)) R.1.1 rfl ?_
    refine nv_callv (r_named hz R hk (full := decide (l_wy L = 4)) (by rw [decide_eq_false hc]; rfl) (fun e => ⟨by rw [hwy.1]; omega, by rw [hwy.1]; omega⟩) (fun e => by omega)) (fun M1 R1 => ?_)
    rw [hwy.1] at R1
    exact key M1 R1
def see0 (B : Nat → Int) (lim : Nat) (L : lsT) (p : Nat) : pmd := nam3 B lim L p (decide (l_se L = 4))
def see1 (B : Nat → Int) (lim : Nat) (L : lsT) (p : Nat) : pmd := m_pt B lim (txc 51) 1 99 (see0 B lim L p)
def seeN (B : Nat → Int) (lim : Nat) (L : lsT) (p : Nat) : lsT := namL B lim L p (decide (l_se L = 4)) (-1)
def seeL (B : Nat → Int) (lim : Nat) (L : lsT) (p : Nat) : lsT := (L.1, L.2.1, (L.2.2.1.1, L.2.2.1.2.1, l_se L + 1), (seeN B lim L p).2.2.2)
set_option maxHeartbeats 4000000 in
theorem r_see {cd : Nat → Nat → Option aI} {z : Bool} (hz : ∀ m p i, cd0 z m p = some i → cd m p = some i) {n0 : Nat} {B : Nat → Int} {lim : Nat} {M0 M : aM} {L : lsT} {p : Nat} (R : RdR n0 B lim M0 M (.inl p) L) (hk : knd B lim p = 1) (hwf : (l_nm L).length = l_wy L + l_se L) {d : Nat} : wpS cd (d + 9, [], 179, 0, nv_l (tauN n0) (la 0 [.inr (.inr (some 113))]), [], M) (fun r M' => r = none ∧ RdF n0 B lim M0 M' (see1 B lim L p) (seeL B lim L p)) := by
  show wpS cd (nv_S (tauN n0) (d + 9, [], 179, 0, la 0 [.inr (.inr (some 113))], [], M)) _
  have hct := hc_of hz
  have hwy := R.2.2.2.1.2.2.2.1
  have hse := R.2.2.2.1.2.2.2.2.2.1
  refine nv_cut hct nvR 179 9 8 (S' := (d + 9, [], 179, 9, [(0, .inr (.inr (some 113)))], [.inl (4 : Int32), .inl (a_I M n0 13), .inr (.inr (some 113))], M)) R.1.1 rfl ?_
  have key : ∀ M1, RdF n0 B lim M0 M1 (see0 B lim L p) (seeN B lim L p) → wpS cd (nv_S (tauN n0) (d + 9, [], 179, 21, [(0, .inr (.inr (some 113)))], [], M1)) (fun r M' => r = none ∧ RdF n0 B lim M0 M' (see1 B lim L p) (seeL B lim L p)) := by
    intro M1 R1
    refine nv_cut hct nvR 168 0 8 (S' := (d + 8, [(179, 31, [(0, .inr (.inr (some 113)))], [])], 168, 0, la 0 [.inr (.inr (some 113)), .inr (.inr (some (aSB + 51))), .inl (1 : Int32), .inl (99 : Int32)], [], M1)) R1.1.1 rfl ?_
    refine nv_calli (r_readPart hz R1.1 R1.2.1 (k := 51) (by decide)) (fun v3 M3 ⟨f3, S3, h3⟩ => ?_)
    have R3 : RdF n0 B lim M0 M3 (see1 B lim L p) (seeN B lim L p) := Rf_x R1 f3 S3 (fun q e => pt_inl e)
    have h3 : ∀ q, see1 B lim L p = .inl q → v3.toInt = m_val B lim (m_wd B lim (txc 51) (see0 B lim L p)) ∧ 1 ≤ v3.toInt ∧ v3.toInt ≤ 99 := h3
    refine nv_cut hct nvR 179 37 7 (S' := (d + 9, [], 179, 37, [(1, .inl v3), (0, .inr (.inr (some 113)))], [.inl (5 : Int32), .inl (a_I M3 113 9)], M3)) R3.1.1 rfl ?_
    cases hm : see1 B lim L p with
    | inr f =>
      have S := R3.2.1
      rw [hm] at S
      refine nv_ifc hct false rfl (ccF5 rfl (show ((5 : Int32)).toInt = 5 from rfl) (by rw [S.1]; rfl)) ?_
      refine nv_cut hct nvR 179 40 3 (S' := (d + 9, [], 179, 40, [(1, .inl v3), (0, .inr (.inr (some 113)))], [], M3)) R3.1.1 rfl ?_
      rw [hm] at R3
      exact nv_vret hct rfl ⟨rfl, R3.1, R3.2.1, R3.2.2.1, fun q e => by cases e⟩
    | inl q =>
      obtain ⟨l1, l2, l3⟩ := R3.2.2.2 q hm
      obtain ⟨q0, e0⟩ := pt_inl (show m_pt B lim (txc 51) 1 99 (see0 B lim L p) = .inl q from hm)
      have hw4 := of_decide_eq_false (nam3_f (show nam3 B lim L p (decide (l_se L = 4)) = .inl q0 from e0))
      have R6 : RdR n0 B lim M0 M3 (.inl q) (seeN B lim L p) := ⟨R3.1, by rw [← hm]; exact R3.2.1, R3.2.2.1, l1, l2, l3⟩
      refine nv_ifc hct true rfl (ccT5 rfl (show ((5 : Int32)).toInt = 5 from rfl) (St_5 R6.2.1)) ?_
      refine nv_cut hct nvR 179 56 10 (S' := (d + 9, [], 179, 56, [(1, .inl v3), (0, .inr (.inr (some 113)))], [.inl v3, .inl (a_I M3 n0 13), .inr (.inr (some 141))], M3)) R6.1.1 rfl ?_
      have hi0 : (a_I M3 n0 13).toInt = (l_se L : Int) := R6.2.2.2.1.2.2.2.2.2.1.1
      refine nv_ast hct R6.1.1 rfl (show nvR.1 141 = 15 + 1 from rfl) (show nvR.2.1 141 = 4 + 1 from rfl) (inb_p hi0 (by omega)) ?_
      show wpS cd (nv_S (tauN n0) (d + 9, [], 179, 57, [(1, .inl v3), (0, .inr (.inr (some 113)))], [], (s_I M3 (n0 + 4) (a_I M3 n0 13).toNatClampNeg v3))) _
      have R7 := Rd_arr (j := 3) (k := (a_I M3 n0 13).toNatClampNeg) (v := v3) rfl R6
      generalize hM7 : (s_I M3 (n0 + 4) (a_I M3 n0 13).toNatClampNeg v3) = M7 at R7 ⊢
      refine nv_cut hct nvR 179 70 10 (S' := (d + 9, [], 179, 70, [(1, .inl v3), (0, .inr (.inr (some 113)))], [], (s_I M7 n0 13 ((a_I M7 n0 13) + (1 : Int32))))) R7.1.1 rfl ?_
      have hi3 : (a_I M7 n0 13).toInt = (l_se L : Int) := R7.2.2.2.1.2.2.2.2.2.1.1
      have R10 := Rd_seer (L := seeN B lim L p) (c := a_I M7 n0 13 + 1) (show _ = (l_se L : Int) + 1 from add_p hi3 (by omega) (by omega)) (show l_se (seeN B lim L p) ≤ 3 by show l_se L ≤ 3; omega) R7
      exact nv_vret hct rfl ⟨rfl, Rd_F R10⟩
  by_cases hc : l_se L = 4
  · skip
    refine nv_ifc hct false rfl (ccF5 hse.1 (show ((4 : Int32)).toInt = 4 from rfl) (by omega)) ?_
    refine nv_cut hct nvR 175 0 7 (S' := (d + 8, [(179, 21, [(0, .inr (.inr (some 113)))], [])], 175, 0, la 0 [.inr (.inr (some 113)), .inl (1 : Int32), .inl (-1 : Int32)], [], M)) R.1.1 rfl ?_
    refine nv_callv (r_named hz R hk (full := decide (l_se L = 4)) (by rw [decide_eq_true hc]; rfl) (fun e => absurd hc (of_decide_eq_false e)) (fun e => absurd hc (of_decide_eq_false e))) (fun M1 R1 => ?_)
    exact key M1 R1
  · skip
    refine nv_ifc hct true rfl (ccT5 hse.1 (show ((4 : Int32)).toInt = 4 from rfl) (by omega)) ?_
    refine nv_cut hct nvR 175 0 6 (S' := (d + 8, [(179, 21, [(0, .inr (.inr (some 113)))], [])], 175, 0, la 0 [.inr (.inr (some 113)), .inl (0 : Int32), .inl (-1 : Int32)], [], M)) R.1.1 rfl ?_
    refine nv_callv (r_named hz R hk (full := decide (l_se L = 4)) (by rw [decide_eq_false hc]; rfl) (fun e => ⟨by decide, by decide⟩) (fun e => by omega)) (fun M1 R1 => ?_)
    exact key M1 R1
def had0 (B : Nat → Int) (lim : Nat) (L : lsT) (p : Nat) : pmd := m_adv B lim (m_if B lim 5 (decide (l_hd L = 10)) (.inl p))
def had1 (B : Nat → Int) (lim : Nat) (L : lsT) (p : Nat) : pmd := m_wh B lim 0 29 (had0 B lim L p)
def had2 (B : Nat → Int) (lim : Nat) (L : lsT) (p : Nat) : pmd := m_pt B lim (txc 45) 1 9 (had1 B lim L p)
def sid (B : Nat → Int) (lim : Nat) (m : pmd) : Int := bif m_is B lim (txc 46) m then 0 else bif m_is B lim (txc 47) m then 1 else bif m_is B lim (txc 48) m then 2 else bif m_is B lim (txc 49) m then 3 else -1
def had3 (B : Nat → Int) (lim : Nat) (L : lsT) (p : Nat) : pmd := m_adv B lim (m_if B lim 1 (decide (sid B lim (had2 B lim L p) = -1)) (had2 B lim L p))
def hadL (L : lsT) : lsT := (L.1, L.2.1, (L.2.2.1.1, l_hd L + 1, L.2.2.1.2.2), L.2.2.2)
theorem sid_ok {B : Nat → Int} {lim : Nat} {m : pmd} : m_ok B lim (m_if B lim 1 (decide (sid B lim m = -1)) m) := fun p e => by
  obtain ⟨h1, h2⟩ := if_inl e
  subst h1
  have h2 := of_decide_eq_false h2
  have key : ∀ w, m_is B lim w (.inl p) = true → knd B lim p = 1 ∨ knd B lim p = 2 ∨ knd B lim p = 3 := fun w h => Or.inl (nbT ((Bool.and_eq_true _ _).mp h).1)
  unfold sid at h2
  cases a1 : m_is B lim (txc 46) (.inl p) with
  | true => exact key _ a1
  | false =>
    cases a2 : m_is B lim (txc 47) (.inl p) with
    | true => exact key _ a2
    | false =>
      cases a3 : m_is B lim (txc 48) (.inl p) with
      | true => exact key _ a3
      | false =>
        cases a4 : m_is B lim (txc 49) (.inl p) with
        | true => exact key _ a4
        | false =>
          rw [a1, a2, a3, a4] at h2
          exact absurd rfl h2
set_option maxHeartbeats 4000000 in
theorem r_had {cd : Nat → Nat → Option aI} {z : Bool} (hz : ∀ m p i, cd0 z m p = some i → cd m p = some i) {n0 : Nat} {B : Nat → Int} {lim : Nat} {M0 M : aM} {L : lsT} {p : Nat} (R : RdR n0 B lim M0 M (.inl p) L) (hk : knd B lim p = 1) {d : Nat} : wpS cd (d + 8, [], 177, 0, nv_l (tauN n0) (la 0 [.inr (.inr (some 113))]), [], M) (fun r M' => r = none ∧ RdF n0 B lim M0 M' (had3 B lim L p) (hadL L)) := by
  show wpS cd (nv_S (tauN n0) (d + 8, [], 177, 0, la 0 [.inr (.inr (some 113))], [], M)) _
  have hct := hc_of hz
  have hhd := R.2.2.2.1.2.2.2.2.1
  refine nv_cut hct nvR 177 9 7 (S' := (d + 8, [], 177, 9, [(0, .inr (.inr (some 113)))], [.inl (10 : Int32), .inl (a_I M n0 11)], M)) R.1.1 rfl ?_
  have key : ∀ M1, RdR n0 B lim M0 M1 (m_if B lim 5 (decide (l_hd L = 10)) (.inl p)) L → wpS cd (nv_S (tauN n0) (d + 8, [], 177, 17, [(0, .inr (.inr (some 113)))], [], M1)) (fun r M' => r = none ∧ RdF n0 B lim M0 M' (had3 B lim L p) (hadL L)) := by
    intro M1 R1
    have R1 := Rd_F R1
    refine nv_cut hct nvR 162 0 5 (S' := (d + 7, [(177, 21, [(0, .inr (.inr (some 113)))], [])], 162, 0, la 0 [.inr (.inr (some 113))], [], M1)) R1.1.1 rfl ?_
    refine nv_callv (r_adv hz R1.1 R1.2.1 (if_ok (hok1 hk))) (fun M2 ⟨f2, S2⟩ => ?_)
    have R2 : RdF n0 B lim M0 M2 (had0 B lim L p) (L) := Rf_x R1 f2 S2 (fun q e => adv_inl e)
    refine nv_cut hct nvR 167 0 7 (S' := (d + 7, [(177, 28, [(0, .inr (.inr (some 113)))], [])], 167, 0, la 0 [.inr (.inr (some 113)), .inl (0 : Int32), .inl (29 : Int32)], [], M2)) R2.1.1 rfl ?_
    refine nv_calli (r_readWhole hz R2.1 R2.2.1) (fun v3 M3 ⟨f3, S3, h3⟩ => ?_)
    have R3 : RdF n0 B lim M0 M3 (had1 B lim L p) (L) := Rf_x R2 f3 S3 (fun q e => wh_inl e)
    have h3 : ∀ q, had1 B lim L p = .inl q → v3.toInt = m_val B lim (had0 B lim L p) ∧ 0 ≤ v3.toInt ∧ v3.toInt ≤ 29 := h3
    refine nv_cut hct nvR 177 29 4 (S' := (d + 8, [], 177, 29, [(1, .inl v3), (0, .inr (.inr (some 113)))], [], M3)) R3.1.1 rfl ?_
    refine nv_cut hct nvR 168 0 8 (S' := (d + 7, [(177, 39, [(1, .inl v3), (0, .inr (.inr (some 113)))], [])], 168, 0, la 0 [.inr (.inr (some 113)), .inr (.inr (some (aSB + 45))), .inl (1 : Int32), .inl (9 : Int32)], [], M3)) R3.1.1 rfl ?_
    refine nv_calli (r_readPart hz R3.1 R3.2.1 (k := 45) (by decide)) (fun v4 M4 ⟨f4, S4, h4⟩ => ?_)
    have R4 : RdF n0 B lim M0 M4 (had2 B lim L p) (L) := Rf_x R3 f4 S4 (fun q e => pt_inl e)
    have h4 : ∀ q, had2 B lim L p = .inl q → v4.toInt = m_val B lim (m_wd B lim (txc 45) (had1 B lim L p)) ∧ 1 ≤ v4.toInt ∧ v4.toInt ≤ 9 := h4
    refine nv_cut hct nvR 177 40 4 (S' := (d + 8, [], 177, 40, [(2, .inl v4), (1, .inl v3), (0, .inr (.inr (some 113)))], [], M4)) R4.1.1 rfl ?_
    have key2 : ∀ sd : Int32, sd.toInt = sid B lim (had2 B lim L p) → wpS cd (nv_S (tauN n0) (d + 8, [], 177, 97, [(2, .inl v4), (1, .inl v3), (0, .inr (.inr (some 113)))], [.inl sd], M4)) (fun r M' => r = none ∧ RdF n0 B lim M0 M' (had3 B lim L p) (hadL L)) := by
      intro sd hsd
      refine nv_cut hct nvR 177 100 6 (S' := (d + 8, [], 177, 100, [(3, .inl sd), (2, .inl v4), (1, .inl v3), (0, .inr (.inr (some 113)))], [.inl (-1 : Int32), .inl sd], M4)) R4.1.1 rfl ?_
      have key3 : ∀ M5, RdF n0 B lim M0 M5 (m_if B lim 1 (decide (sid B lim (had2 B lim L p) = -1)) (had2 B lim L p)) L → wpS cd (nv_S (tauN n0) (d + 8, [], 177, 108, [(3, .inl sd), (2, .inl v4), (1, .inl v3), (0, .inr (.inr (some 113)))], [], M5)) (fun r M' => r = none ∧ RdF n0 B lim M0 M' (had3 B lim L p) (hadL L)) := by
        intro M5 R5
        refine nv_cut hct nvR 162 0 5 (S' := (d + 7, [(177, 112, [(3, .inl sd), (2, .inl v4), (1, .inl v3), (0, .inr (.inr (some 113)))], [])], 162, 0, la 0 [.inr (.inr (some 113))], [], M5)) R5.1.1 rfl ?_
        refine nv_callv (r_adv hz R5.1 R5.2.1 sid_ok) (fun M6 ⟨f6, S6⟩ => ?_)
        have R6 : RdF n0 B lim M0 M6 (had3 B lim L p) (L) := Rf_x R5 f6 S6 (fun q e => adv_inl e)
        refine nv_cut hct nvR 177 117 6 (S' := (d + 8, [], 177, 117, [(3, .inl sd), (2, .inl v4), (1, .inl v3), (0, .inr (.inr (some 113)))], [.inl (5 : Int32), .inl (a_I M6 113 9)], M6)) R6.1.1 rfl ?_
        cases hm : had3 B lim L p with
        | inr f =>
          have S := R6.2.1
          rw [hm] at S
          refine nv_ifc hct false rfl (ccF5 rfl (show ((5 : Int32)).toInt = 5 from rfl) (by rw [S.1]; rfl)) ?_
          refine nv_cut hct nvR 177 120 3 (S' := (d + 8, [], 177, 120, [(3, .inl sd), (2, .inl v4), (1, .inl v3), (0, .inr (.inr (some 113)))], [], M6)) R6.1.1 rfl ?_
          rw [hm] at R6
          exact nv_vret hct rfl ⟨rfl, R6.1, R6.2.1, R6.2.2.1, fun q e => by cases e⟩
        | inl q =>
          obtain ⟨l1, l2, l3⟩ := R6.2.2.2 q hm
          obtain ⟨q3, e3⟩ := adv_inl (show m_adv B lim (m_if B lim 1 (decide (sid B lim (had2 B lim L p) = -1)) (had2 B lim L p)) = .inl q from hm)
          obtain ⟨q1, e1⟩ := pt_inl (show m_pt B lim (txc 45) 1 9 (had1 B lim L p) = .inl q3 from (if_inl e3).1)
          obtain ⟨q0, e0⟩ := wh_inl (show m_wh B lim 0 29 (had0 B lim L p) = .inl q1 from e1)
          obtain ⟨q00, e00⟩ := adv_inl (show m_adv B lim (m_if B lim 5 (decide (l_hd L = 10)) (.inl p)) = .inl q0 from e0)
          have hw4 := of_decide_eq_false (if_inl e00).2
          have R7 : RdR n0 B lim M0 M6 (.inl q) L := ⟨R6.1, by rw [← hm]; exact R6.2.1, R6.2.2.1, l1, l2, l3⟩
          refine nv_ifc hct true rfl (ccT5 rfl (show ((5 : Int32)).toInt = 5 from rfl) (St_5 R7.2.1)) ?_
          refine nv_cut hct nvR 177 136 10 (S' := (d + 8, [], 177, 136, [(3, .inl sd), (2, .inl v4), (1, .inl v3), (0, .inr (.inr (some 113)))], [.inl v3, .inl (a_I M6 n0 11), .inr (.inr (some 142))], M6)) R7.1.1 rfl ?_
          have hi0 : (a_I M6 n0 11).toInt = (l_hd L : Int) := R7.2.2.2.1.2.2.2.2.1.1
          refine nv_ast hct R7.1.1 rfl (show nvR.1 142 = 15 + 1 from rfl) (show nvR.2.1 142 = 10 + 1 from rfl) (inb_p hi0 (by omega)) ?_
          show wpS cd (nv_S (tauN n0) (d + 8, [], 177, 137, [(3, .inl sd), (2, .inl v4), (1, .inl v3), (0, .inr (.inr (some 113)))], [], (s_I M6 (n0 + 5) (a_I M6 n0 11).toNatClampNeg v3))) _
          have R8 := Rd_arr (j := 4) (k := (a_I M6 n0 11).toNatClampNeg) (v := v3) rfl R7
          generalize hM8 : (s_I M6 (n0 + 5) (a_I M6 n0 11).toNatClampNeg v3) = M8 at R8 ⊢
          refine nv_cut hct nvR 177 152 10 (S' := (d + 8, [], 177, 152, [(3, .inl sd), (2, .inl v4), (1, .inl v3), (0, .inr (.inr (some 113)))], [.inl v4, .inl (a_I M8 n0 11), .inr (.inr (some 143))], M8)) R8.1.1 rfl ?_
          have hi1 : (a_I M8 n0 11).toInt = (l_hd L : Int) := R8.2.2.2.1.2.2.2.2.1.1
          refine nv_ast hct R8.1.1 rfl (show nvR.1 143 = 15 + 1 from rfl) (show nvR.2.1 143 = 10 + 1 from rfl) (inb_p hi1 (by omega)) ?_
          show wpS cd (nv_S (tauN n0) (d + 8, [], 177, 153, [(3, .inl sd), (2, .inl v4), (1, .inl v3), (0, .inr (.inr (some 113)))], [], (s_I M8 (n0 + 6) (a_I M8 n0 11).toNatClampNeg v4))) _
          have R9 := Rd_arr (j := 5) (k := (a_I M8 n0 11).toNatClampNeg) (v := v4) rfl R8
          generalize hM9 : (s_I M8 (n0 + 6) (a_I M8 n0 11).toNatClampNeg v4) = M9 at R9 ⊢
          refine nv_cut hct nvR 177 168 10 (S' := (d + 8, [], 177, 168, [(3, .inl sd), (2, .inl v4), (1, .inl v3), (0, .inr (.inr (some 113)))], [.inl sd, .inl (a_I M9 n0 11), .inr (.inr (some 144))], M9)) R9.1.1 rfl ?_
          have hi2 : (a_I M9 n0 11).toInt = (l_hd L : Int) := R9.2.2.2.1.2.2.2.2.1.1
          refine nv_ast hct R9.1.1 rfl (show nvR.1 144 = 15 + 1 from rfl) (show nvR.2.1 144 = 10 + 1 from rfl) (inb_p hi2 (by omega)) ?_
          show wpS cd (nv_S (tauN n0) (d + 8, [], 177, 169, [(3, .inl sd), (2, .inl v4), (1, .inl v3), (0, .inr (.inr (some 113)))], [], (s_I M9 (n0 + 7) (a_I M9 n0 11).toNatClampNeg sd))) _
          have R10 := Rd_arr (j := 6) (k := (a_I M9 n0 11).toNatClampNeg) (v := sd) rfl R9
          generalize hM10 : (s_I M9 (n0 + 7) (a_I M9 n0 11).toNatClampNeg sd) = M10 at R10 ⊢
          refine nv_cut hct nvR 177 182 10 (S' := (d + 8, [], 177, 182, [(3, .inl sd), (2, .inl v4), (1, .inl v3), (0, .inr (.inr (some 113)))], [], (s_I M10 n0 11 ((a_I M10 n0 11) + (1 : Int32))))) R10.1.1 rfl ?_
          have hi3 : (a_I M10 n0 11).toInt = (l_hd L : Int) := R10.2.2.2.1.2.2.2.2.1.1
          have R11 := Rd_hard (c := a_I M10 n0 11 + 1) (add_p hi3 (by omega) (by omega)) (by omega) R10
          exact nv_vret hct rfl ⟨rfl, Rd_F R11⟩
      by_cases hs : sid B lim (had2 B lim L p) = -1
      · skip
        refine nv_ifc hct false rfl (ccF5 hsd (show ((-1 : Int32)).toInt = -1 from rfl) hs) ?_
        refine nv_cut hct nvR 163 0 6 (S' := (d + 7, [(177, 108, [(3, .inl sd), (2, .inl v4), (1, .inl v3), (0, .inr (.inr (some 113)))], [])], 163, 0, la 0 [.inr (.inr (some 113)), .inl (1 : Int32)], [], M4)) R4.1.1 rfl ?_
        refine nv_callv (r_wrong hz R4.1 R4.2.1 (kn := 1) rfl (by decide)) (fun M5 ⟨f5, S5⟩ => ?_)
        have R5 : RdF n0 B lim M0 M5 (m_bad B lim 1 (had2 B lim L p)) L := Rf_x R4 f5 S5 (fun q e => by cases hx : had2 B lim L p with | inl p9 => exact ⟨p9, rfl⟩ | inr f9 => rw [hx] at e; cases e)
        refine nv_cut hct nvR 177 108 3 (S' := (d + 8, [], 177, 108, [(3, .inl sd), (2, .inl v4), (1, .inl v3), (0, .inr (.inr (some 113)))], [], M5)) R5.1.1 rfl ?_
        exact key3 M5 (by unfold m_if; rw [decide_eq_true hs]; exact R5)
      · skip
        refine nv_ifc hct true rfl (ccT5 hsd (show ((-1 : Int32)).toInt = -1 from rfl) hs) ?_
        exact key3 M4 (by unfold m_if; rw [decide_eq_false hs]; exact R4)
    refine nv_cut hct nvR 165 0 6 (S' := (d + 7, [(177, 47, [(2, .inl v4), (1, .inl v3), (0, .inr (.inr (some 113)))], [])], 165, 0, la 0 [.inr (.inr (some 113)), .inr (.inr (some (aSB + 46)))], [], M4)) R4.1.1 rfl ?_
    refine nv_calli (r_isWord hz R4.1 R4.2.1 (k := 46) (by decide)) (fun x0 N0 ⟨g0, y0⟩ => ?_)
    subst g0
    refine nv_cut hct nvR 177 47 3 (S' := (d + 8, [], 177, 47, [(2, .inl v4), (1, .inl v3), (0, .inr (.inr (some 113)))], [.inl x0], N0)) R4.1.1 rfl ?_
    cases c0 : m_is B lim (txc 46) (had2 B lim L p) with
    | true =>
      refine nv_if hct false rfl (zcF1 (show x0.toInt = 1 by rw [y0, c0]; rfl) (by decide)) ?_
      refine nv_cut hct nvR 177 97 5 (S' := (d + 8, [], 177, 97, [(2, .inl v4), (1, .inl v3), (0, .inr (.inr (some 113)))], [.inl (0 : Int32)], N0)) R4.1.1 rfl ?_
      exact key2 _ (by unfold sid; rw [c0]; rfl)
    | false =>
      refine nv_if hct true rfl (zcT1 (show x0.toInt = 0 by rw [y0, c0]; rfl) rfl) ?_
      refine nv_cut hct nvR 165 0 6 (S' := (d + 7, [(177, 61, [(2, .inl v4), (1, .inl v3), (0, .inr (.inr (some 113)))], [])], 165, 0, la 0 [.inr (.inr (some 113)), .inr (.inr (some (aSB + 47)))], [], N0)) R4.1.1 rfl ?_
      refine nv_calli (r_isWord hz R4.1 R4.2.1 (k := 47) (by decide)) (fun x1 N1 ⟨g1, y1⟩ => ?_)
      subst g1
      refine nv_cut hct nvR 177 61 3 (S' := (d + 8, [], 177, 61, [(2, .inl v4), (1, .inl v3), (0, .inr (.inr (some 113)))], [.inl x1], N1)) R4.1.1 rfl ?_
      cases c1 : m_is B lim (txc 47) (had2 B lim L p) with
      | true =>
        refine nv_if hct false rfl (zcF1 (show x1.toInt = 1 by rw [y1, c1]; rfl) (by decide)) ?_
        refine nv_cut hct nvR 177 97 5 (S' := (d + 8, [], 177, 97, [(2, .inl v4), (1, .inl v3), (0, .inr (.inr (some 113)))], [.inl (1 : Int32)], N1)) R4.1.1 rfl ?_
        exact key2 _ (by unfold sid; rw [c0, c1]; rfl)
      | false =>
        refine nv_if hct true rfl (zcT1 (show x1.toInt = 0 by rw [y1, c1]; rfl) rfl) ?_
        refine nv_cut hct nvR 165 0 6 (S' := (d + 7, [(177, 75, [(2, .inl v4), (1, .inl v3), (0, .inr (.inr (some 113)))], [])], 165, 0, la 0 [.inr (.inr (some 113)), .inr (.inr (some (aSB + 48)))], [], N1)) R4.1.1 rfl ?_
        refine nv_calli (r_isWord hz R4.1 R4.2.1 (k := 48) (by decide)) (fun x2 N2 ⟨g2, y2⟩ => ?_)
        subst g2
        refine nv_cut hct nvR 177 75 3 (S' := (d + 8, [], 177, 75, [(2, .inl v4), (1, .inl v3), (0, .inr (.inr (some 113)))], [.inl x2], N2)) R4.1.1 rfl ?_
        cases c2 : m_is B lim (txc 48) (had2 B lim L p) with
        | true =>
          refine nv_if hct false rfl (zcF1 (show x2.toInt = 1 by rw [y2, c2]; rfl) (by decide)) ?_
          refine nv_cut hct nvR 177 97 5 (S' := (d + 8, [], 177, 97, [(2, .inl v4), (1, .inl v3), (0, .inr (.inr (some 113)))], [.inl (2 : Int32)], N2)) R4.1.1 rfl ?_
          exact key2 _ (by unfold sid; rw [c0, c1, c2]; rfl)
        | false =>
          refine nv_if hct true rfl (zcT1 (show x2.toInt = 0 by rw [y2, c2]; rfl) rfl) ?_
          refine nv_cut hct nvR 165 0 6 (S' := (d + 7, [(177, 89, [(2, .inl v4), (1, .inl v3), (0, .inr (.inr (some 113)))], [])], 165, 0, la 0 [.inr (.inr (some 113)), .inr (.inr (some (aSB + 49)))], [], N2)) R4.1.1 rfl ?_
          refine nv_calli (r_isWord hz R4.1 R4.2.1 (k := 49) (by decide)) (fun x3 N3 ⟨g3, y3⟩ => ?_)
          subst g3
          refine nv_cut hct nvR 177 89 3 (S' := (d + 8, [], 177, 89, [(2, .inl v4), (1, .inl v3), (0, .inr (.inr (some 113)))], [.inl x3], N3)) R4.1.1 rfl ?_
          cases c3 : m_is B lim (txc 49) (had2 B lim L p) with
          | true =>
            refine nv_if hct false rfl (zcF1 (show x3.toInt = 1 by rw [y3, c3]; rfl) (by decide)) ?_
            refine nv_cut hct nvR 177 97 5 (S' := (d + 8, [], 177, 97, [(2, .inl v4), (1, .inl v3), (0, .inr (.inr (some 113)))], [.inl (3 : Int32)], N3)) R4.1.1 rfl ?_
            exact key2 _ (by unfold sid; rw [c0, c1, c2, c3]; rfl)
          | false =>
            refine nv_if hct true rfl (zcT1 (show x3.toInt = 0 by rw [y3, c3]; rfl) rfl) ?_
            refine nv_cut hct nvR 177 97 4 (S' := (d + 8, [], 177, 97, [(2, .inl v4), (1, .inl v3), (0, .inr (.inr (some 113)))], [.inl (-1 : Int32)], N3)) R4.1.1 rfl ?_
            exact key2 _ (by unfold sid; rw [c0, c1, c2, c3]; rfl)
  by_cases hc : l_hd L = 10
  · skip
    refine nv_ifc hct false rfl (ccF5 hhd.1 (show ((10 : Int32)).toInt = 10 from rfl) (by omega)) ?_
    refine nv_cut hct nvR 163 0 6 (S' := (d + 7, [(177, 17, [(0, .inr (.inr (some 113)))], [])], 163, 0, la 0 [.inr (.inr (some 113)), .inl (5 : Int32)], [], M)) R.1.1 rfl ?_
    refine nv_callv (r_wrong hz R.1 R.2.1 (kn := 5) rfl (by decide)) (fun M1 ⟨f1, S1⟩ => ?_)
    have R1 := Rd_x R f1 S1
    refine nv_cut hct nvR 177 17 3 (S' := (d + 8, [], 177, 17, [(0, .inr (.inr (some 113)))], [], M1)) R1.1.1 rfl ?_
    exact key M1 (by unfold m_if; rw [decide_eq_true hc]; exact R1)
  · skip
    refine nv_ifc hct true rfl (ccT5 hhd.1 (show ((10 : Int32)).toInt = 10 from rfl) (by omega)) ?_
    exact key M (by unfold m_if; rw [decide_eq_false hc]; exact R)

/-! The reference's lines, each: printed by wip/gen/refp4.py -/
theorem Rf_x {n0 : Nat} {B : Nat → Int} {lim : Nat} {M0 M M' : aM} {m m' : pmd} {L : lsT} (R : RdF n0 B lim M0 M m L) (f : FrX [8, 9, 10, 11, 12, 13, 14] M M') (S : StR B lim M' m') (hm : ∀ q, m' = .inl q → ∃ p, m = .inl p) : RdF n0 B lim M0 M' m' L := ⟨Fx_E (by decide) f R.1, S, Ff_tr R.2.2.1 (Ff_x f), fun q e => by
  obtain ⟨p, hp⟩ := hm q e
  obtain ⟨h1, h2, h3⟩ := R.2.2.2 p hp
  exact ⟨LsA_x (En_n R.1) f h1, LsN_x (En_n R.1) f h2, LsF_x (En_n R.1) f h3⟩⟩
theorem Rd_F {n0 : Nat} {B : Nat → Int} {lim : Nat} {M0 M : aM} {m : pmd} {L : lsT} (R : RdR n0 B lim M0 M m L) : RdF n0 B lim M0 M m L := ⟨R.1, R.2.1, R.2.2.1, fun _ _ => ⟨R.2.2.2.1, R.2.2.2.2.1, R.2.2.2.2.2⟩⟩
theorem aI_at {M : aM} {a k : Nat} {v : Int32} : a_I (s_I M a k v) a k = v := by rw [aI_sI, if_pos ⟨rfl, rfl⟩]
theorem aI_nk {M : aM} {a k b j : Nat} {v : Int32} (h : ¬ (b = a ∧ j = k)) : a_I (s_I M a k v) b j = a_I M b j := by rw [aI_sI, if_neg h]
theorem hok1 {B : Nat → Int} {lim p : Nat} (h : knd B lim p = 1) : m_ok B lim (.inl p) := fun q e => by cases e; exact Or.inl h
theorem adv_inl {B : Nat → Int} {lim : Nat} {m : pmd} {q : Nat} (h : m_adv B lim m = .inl q) : ∃ p, m = .inl p := by
  rcases m with p | f
  · exact ⟨p, rfl⟩
  · cases h
/-- the names don't hang on the shop's numbers -/
theorem LsN_s {n0 : Nat} {M : aM} {L : lsT} {k : Nat} {v : Int32} (h : LsN n0 M L) : LsN n0 (s_I M n0 k v) L := fun i hi => by
  rw [aJ_sI, aI_nk (fun q => by omega)]
  exact h i hi
theorem LsF_s {n0 : Nat} {M : aM} {L : lsT} {k : Nat} {v : Int32} (h : LsF n0 M L) : LsF n0 (s_I M n0 k v) L := by
  have e : ∀ j q, a_I (s_I M n0 k v) (n0 + (j + 1)) q = a_I M (n0 + (j + 1)) q := fun j q => aI_nk (fun w => by omega)
  unfold LsF
  rw [e 7, e 7]
  refine ⟨h.1, fun q hq => ?_⟩
  rw [e 8, e 9]
  exact h.2 q hq
def rod0 (B : Nat → Int) (lim : Nat) (L : lsT) (p : Nat) : pmd := m_adv B lim (m_if B lim 3 (decide (0 < l_in L)) (.inl p))
def rod1 (B : Nat → Int) (lim : Nat) (L : lsT) (p : Nat) : pmd := m_pt B lim (txc 27) 2 30 (rod0 B lim L p)
def rod2 (B : Nat → Int) (lim : Nat) (L : lsT) (p : Nat) : pmd := m_pt B lim (txc 28) 10 999 (rod1 B lim L p)
def rod3 (B : Nat → Int) (lim : Nat) (L : lsT) (p : Nat) : pmd := m_pt B lim (txc 29) 0 9 (rod2 B lim L p)
def rodL (B : Nat → Int) (lim : Nat) (L : lsT) (p : Nat) : lsT := ((m_val B lim (m_wd B lim (txc 27) (rod0 B lim L p)), m_val B lim (m_wd B lim (txc 28) (rod1 B lim L p)), m_val B lim (m_wd B lim (txc 29) (rod2 B lim L p))), L.2)
theorem LsA_rod {n0 : Nat} {M : aM} {L : lsT} (h : LsA n0 M L) {x y w : Int32} {x' y' w' : Int} (hx : x.toInt = x' ∧ 2 ≤ x.toInt ∧ x.toInt ≤ 30) (hy : y.toInt = y' ∧ 10 ≤ y.toInt ∧ y.toInt ≤ 999) (hw : w.toInt = w' ∧ 0 ≤ w.toInt ∧ w.toInt ≤ 9) : LsA n0 (s_I (s_I (s_I M n0 0 x) n0 1 y) n0 2 w) ((x', y', w'), L.2) := by
  have e : ∀ k, 3 ≤ k → a_I (s_I (s_I (s_I M n0 0 x) n0 1 y) n0 2 w) n0 k = a_I M n0 k := fun k hk => by rw [aI_nk (fun q => by omega), aI_nk (fun q => by omega), aI_nk (fun q => by omega)]
  have e0 : a_I (s_I (s_I (s_I M n0 0 x) n0 1 y) n0 2 w) n0 0 = x := by rw [aI_nk (fun q => by omega), aI_nk (fun q => by omega), aI_at]
  have e1 : a_I (s_I (s_I (s_I M n0 0 x) n0 1 y) n0 2 w) n0 1 = y := by rw [aI_nk (fun q => by omega), aI_at]
  unfold LsA
  rw [e0, e1, aI_at, e 3 (by omega), e 7 (by omega), e 10 (by omega), e 11 (by omega), e 13 (by omega), e 12 (by omega), e 14 (by omega)]
  refine ⟨⟨hx.1, hy.1, hw.1, Or.inr ⟨?_, ?_, ?_⟩⟩, h.2⟩
  · show 2 ≤ x' ∧ x' ≤ 30; omega
  · show 10 ≤ y' ∧ y' ≤ 999; omega
  · show 0 ≤ w' ∧ w' ≤ 9; omega
set_option maxHeartbeats 4000000 in
theorem r_rod {cd : Nat → Nat → Option aI} {z : Bool} (hz : ∀ m p i, cd0 z m p = some i → cd m p = some i) {n0 : Nat} {B : Nat → Int} {lim : Nat} {M0 M : aM} {L : lsT} {p : Nat} (R : RdR n0 B lim M0 M (.inl p) L) (hk : knd B lim p = 1) {d : Nat} : wpS cd (d + 8, [], 172, 0, nv_l (tauN n0) (la 0 [.inr (.inr (some 113))]), [], M) (fun r M' => r = none ∧ RdF n0 B lim M0 M' (rod3 B lim L p) (rodL B lim L p)) := by
  show wpS cd (nv_S (tauN n0) (d + 8, [], 172, 0, la 0 [.inr (.inr (some 113))], [], M)) _
  have hct := hc_of hz
  refine nv_cut hct nvR 172 7 6 (S' := (d + 8, [], 172, 7, [(0, .inr (.inr (some 113)))], [.inl (a_I M n0 0)], M)) R.1.1 rfl ?_
  have hin := R.2.2.2.1.1.1
  have key : ∀ M1, RdR n0 B lim M0 M1 (m_if B lim 3 (decide (0 < l_in L)) (.inl p)) L → wpS cd (nv_S (tauN n0) (d + 8, [], 172, 15, [(0, .inr (.inr (some 113)))], [], M1)) (fun r M' => r = none ∧ RdF n0 B lim M0 M' (rod3 B lim L p) (rodL B lim L p)) := by
    intro M1 R1
    have R1 := Rd_F R1
    refine nv_cut hct nvR 162 0 5 (S' := (d + 7, [(172, 19, [(0, .inr (.inr (some 113)))], [])], 162, 0, la 0 [.inr (.inr (some 113))], [], M1)) R1.1.1 rfl ?_
    refine nv_callv (r_adv hz R1.1 R1.2.1 (if_ok (hok1 hk))) (fun M2 ⟨f2, S2⟩ => ?_)
    have R2 : RdF n0 B lim M0 M2 (rod0 B lim L p) L := Rf_x R1 f2 S2 (fun q e => adv_inl e)
    refine nv_cut hct nvR 168 0 8 (S' := (d + 7, [(172, 28, [(0, .inr (.inr (some 113)))], [])], 168, 0, la 0 [.inr (.inr (some 113)), .inr (.inr (some (aSB + 27))), .inl (2 : Int32), .inl (30 : Int32)], [], M2)) R2.1.1 rfl ?_
    refine nv_calli (r_readPart hz R2.1 R2.2.1 (k := 27) (by decide)) (fun v3 M3 ⟨f3, S3, h3⟩ => ?_)
    have R3 : RdF n0 B lim M0 M3 (rod1 B lim L p) L := Rf_x R2 f3 S3 (fun q e => pt_inl e)
    have h3 : ∀ q, rod1 B lim L p = .inl q → v3.toInt = m_val B lim (m_wd B lim (txc 27) (rod0 B lim L p)) ∧ 2 ≤ v3.toInt ∧ v3.toInt ≤ 30 := h3
    refine nv_cut hct nvR 172 29 4 (S' := (d + 8, [], 172, 29, [(1, .inl v3), (0, .inr (.inr (some 113)))], [], M3)) R3.1.1 rfl ?_
    refine nv_cut hct nvR 168 0 8 (S' := (d + 7, [(172, 40, [(1, .inl v3), (0, .inr (.inr (some 113)))], [])], 168, 0, la 0 [.inr (.inr (some 113)), .inr (.inr (some (aSB + 28))), .inl (10 : Int32), .inl (999 : Int32)], [], M3)) R3.1.1 rfl ?_
    refine nv_calli (r_readPart hz R3.1 R3.2.1 (k := 28) (by decide)) (fun v4 M4 ⟨f4, S4, h4⟩ => ?_)
    have R4 : RdF n0 B lim M0 M4 (rod2 B lim L p) L := Rf_x R3 f4 S4 (fun q e => pt_inl e)
    have h4 : ∀ q, rod2 B lim L p = .inl q → v4.toInt = m_val B lim (m_wd B lim (txc 28) (rod1 B lim L p)) ∧ 10 ≤ v4.toInt ∧ v4.toInt ≤ 999 := h4
    refine nv_cut hct nvR 168 0 9 (S' := (d + 7, [(172, 50, [(2, .inl v4), (1, .inl v3), (0, .inr (.inr (some 113)))], [])], 168, 0, la 0 [.inr (.inr (some 113)), .inr (.inr (some (aSB + 29))), .inl (0 : Int32), .inl (9 : Int32)], [], M4)) R4.1.1 rfl ?_
    refine nv_calli (r_readPart hz R4.1 R4.2.1 (k := 29) (by decide)) (fun v5 M5 ⟨f5, S5, h5⟩ => ?_)
    have R5 : RdF n0 B lim M0 M5 (rod3 B lim L p) L := Rf_x R4 f5 S5 (fun q e => pt_inl e)
    have h5 : ∀ q, rod3 B lim L p = .inl q → v5.toInt = m_val B lim (m_wd B lim (txc 29) (rod2 B lim L p)) ∧ 0 ≤ v5.toInt ∧ v5.toInt ≤ 9 := h5
    refine nv_cut hct nvR 172 56 7 (S' := (d + 8, [], 172, 56, [(3, .inl v5), (2, .inl v4), (1, .inl v3), (0, .inr (.inr (some 113)))], [.inl (5 : Int32), .inl (a_I M5 113 9)], M5)) R5.1.1 rfl ?_
    cases hm : rod3 B lim L p with
    | inr f =>
      have S := R5.2.1
      rw [hm] at S
      refine nv_ifc hct false rfl (ccF5 rfl (show ((5 : Int32)).toInt = 5 from rfl) (by rw [S.1]; rfl)) ?_
      refine nv_cut hct nvR 172 59 3 (S' := (d + 8, [], 172, 59, [(3, .inl v5), (2, .inl v4), (1, .inl v3), (0, .inr (.inr (some 113)))], [], M5)) R5.1.1 rfl ?_
      rw [hm] at R5
      exact nv_vret hct rfl ⟨rfl, R5.1, R5.2.1, R5.2.2.1, fun q e => by cases e⟩
    | inl q =>
      have S := R5.2.1
      rw [hm] at S
      refine nv_ifc hct true rfl (ccT5 rfl (show ((5 : Int32)).toInt = 5 from rfl) (St_5 S)) ?_
      refine nv_cut hct nvR 172 84 15 (S' := (d + 8, [], 172, 84, [(3, .inl v5), (2, .inl v4), (1, .inl v3), (0, .inr (.inr (some 113)))], [], (s_I (s_I (s_I M5 n0 0 v3) n0 1 v4) n0 2 v5))) R5.1.1 rfl ?_
      obtain ⟨q2, e2⟩ := pt_inl (show m_pt B lim (txc 29) 0 9 (rod2 B lim L p) = .inl q from hm)
      obtain ⟨q1, e1⟩ := pt_inl (show m_pt B lim (txc 28) 10 999 (rod1 B lim L p) = .inl q2 from e2)
      obtain ⟨l1, l2, l3⟩ := R5.2.2.2 q hm
      have hn := En_n R5.1
      exact nv_vret hct rfl ⟨rfl, En_w hn (En_w hn (En_w hn R5.1)), St_w hn (St_w hn (St_w hn S)), Ff_s (Nat.le_refl _) (Ff_s (Nat.le_refl _) (Ff_s (Nat.le_refl _) R5.2.2.1)), fun _ _ => ⟨LsA_rod l1 (h3 q1 e1) (h4 q2 e2) (h5 q hm), LsN_s (LsN_s (LsN_s l2)), LsF_s (LsF_s (LsF_s l3))⟩⟩
  by_cases hc : 0 < l_in L
  · skip
    refine nv_if hct false rfl (zcF2 hin (by omega)) ?_
    refine nv_cut hct nvR 163 0 6 (S' := (d + 7, [(172, 15, [(0, .inr (.inr (some 113)))], [])], 163, 0, la 0 [.inr (.inr (some 113)), .inl (3 : Int32)], [], M)) R.1.1 rfl ?_
    refine nv_callv (r_wrong hz R.1 R.2.1 (kn := 3) rfl (by decide)) (fun M1 ⟨f1, S1⟩ => ?_)
    have R1 := Rd_x R f1 S1
    refine nv_cut hct nvR 172 15 3 (S' := (d + 8, [], 172, 15, [(0, .inr (.inr (some 113)))], [], M1)) R1.1.1 rfl ?_
    exact key M1 (by unfold m_if; rw [decide_eq_true hc]; exact R1)
  · skip
    refine nv_if hct true rfl (zcT2 hin (by omega)) ?_
    exact key M (by unfold m_if; rw [decide_eq_false hc]; exact R)
def lip0 (B : Nat → Int) (lim : Nat) (L : lsT) (p : Nat) : pmd := m_adv B lim (m_if B lim 3 (l_lp L) (.inl p))
def lip1 (B : Nat → Int) (lim : Nat) (L : lsT) (p : Nat) : pmd := m_wh B lim 1 99 (lip0 B lim L p)
def lip2 (B : Nat → Int) (lim : Nat) (L : lsT) (p : Nat) : pmd := m_pt B lim (txc 31) 0 50 (lip1 B lim L p)
def lip3 (B : Nat → Int) (lim : Nat) (L : lsT) (p : Nat) : pmd := m_pt B lim (txc 32) 0 99 (lip2 B lim L p)
def lip4 (B : Nat → Int) (lim : Nat) (L : lsT) (p : Nat) : pmd := m_pt B lim (txc 33) 10 999 (lip3 B lim L p)
def lipL (L : lsT) : lsT := (L.1, (true, L.2.1.2), L.2.2)
theorem Rf_w {n0 : Nat} {B : Nat → Int} {lim : Nat} {M0 M : aM} {m : pmd} {L : lsT} {k : Nat} {v : Int32} (hk : [4, 5, 6, 8, 9].any (fun j => Nat.beq k j) = true) (R : RdF n0 B lim M0 M m L) : RdF n0 B lim M0 (s_I M n0 k v) m L := by
  have hn := En_n R.1
  refine ⟨En_w hn R.1, St_w hn R.2.1, Ff_s (Nat.le_refl _) R.2.2.1, fun q e => ?_⟩
  obtain ⟨l1, l2, l3⟩ := R.2.2.2 q e
  exact (Rd_w hk (⟨R.1, R.2.1, R.2.2.1, l1, l2, l3⟩ : RdR n0 B lim M0 M m L)).2.2.2
theorem LsA_lip {n0 : Nat} {M : aM} {L : lsT} (h : LsA n0 M L) {x : Int32} (hx : 1 ≤ x.toInt ∧ x.toInt ≤ 99) : LsA n0 (s_I M n0 3 x) (lipL L) := by
  have e : ∀ k, k ≠ 3 → a_I (s_I M n0 3 x) n0 k = a_I M n0 k := fun k hk => aI_nk (fun q => hk q.2)
  unfold LsA
  rw [aI_at, e 0 (by omega), e 1 (by omega), e 2 (by omega), e 7 (by omega), e 10 (by omega), e 11 (by omega), e 13 (by omega), e 12 (by omega), e 14 (by omega)]
  exact ⟨h.1, Or.inr ⟨rfl, hx⟩, h.2.2⟩
set_option maxHeartbeats 4000000 in
theorem r_lip {cd : Nat → Nat → Option aI} {z : Bool} (hz : ∀ m p i, cd0 z m p = some i → cd m p = some i) {n0 : Nat} {B : Nat → Int} {lim : Nat} {M0 M : aM} {L : lsT} {p : Nat} (R : RdR n0 B lim M0 M (.inl p) L) (hk : knd B lim p = 1) {d : Nat} : wpS cd (d + 8, [], 173, 0, nv_l (tauN n0) (la 0 [.inr (.inr (some 113))]), [], M) (fun r M' => r = none ∧ RdF n0 B lim M0 M' (lip4 B lim L p) (lipL L)) := by
  show wpS cd (nv_S (tauN n0) (d + 8, [], 173, 0, la 0 [.inr (.inr (some 113))], [], M)) _
  have hct := hc_of hz
  refine nv_cut hct nvR 173 7 6 (S' := (d + 8, [], 173, 7, [(0, .inr (.inr (some 113)))], [.inl (a_I M n0 3)], M)) R.1.1 rfl ?_
  have hlp := R.2.2.2.1.2.1
  have key : ∀ M1, RdR n0 B lim M0 M1 (m_if B lim 3 (l_lp L) (.inl p)) L → wpS cd (nv_S (tauN n0) (d + 8, [], 173, 15, [(0, .inr (.inr (some 113)))], [], M1)) (fun r M' => r = none ∧ RdF n0 B lim M0 M' (lip4 B lim L p) (lipL L)) := by
    intro M1 R1
    have R1 := Rd_F R1
    refine nv_cut hct nvR 162 0 5 (S' := (d + 7, [(173, 19, [(0, .inr (.inr (some 113)))], [])], 162, 0, la 0 [.inr (.inr (some 113))], [], M1)) R1.1.1 rfl ?_
    refine nv_callv (r_adv hz R1.1 R1.2.1 (if_ok (hok1 hk))) (fun M2 ⟨f2, S2⟩ => ?_)
    have R2 : RdF n0 B lim M0 M2 (lip0 B lim L p) L := Rf_x R1 f2 S2 (fun q e => adv_inl e)
    refine nv_cut hct nvR 167 0 7 (S' := (d + 7, [(173, 26, [(0, .inr (.inr (some 113)))], [])], 167, 0, la 0 [.inr (.inr (some 113)), .inl (1 : Int32), .inl (99 : Int32)], [], M2)) R2.1.1 rfl ?_
    refine nv_calli (r_readWhole hz R2.1 R2.2.1) (fun v3 M3 ⟨f3, S3, h3⟩ => ?_)
    have R3 : RdF n0 B lim M0 M3 (lip1 B lim L p) L := Rf_x R2 f3 S3 (fun q e => wh_inl e)
    have h3 : ∀ q, lip1 B lim L p = .inl q → v3.toInt = m_val B lim (lip0 B lim L p) ∧ 1 ≤ v3.toInt ∧ v3.toInt ≤ 99 := h3
    refine nv_cut hct nvR 168 0 11 (S' := (d + 7, [(173, 40, [(1, .inl v3), (0, .inr (.inr (some 113)))], [.inr (.inr (some 137))])], 168, 0, la 0 [.inr (.inr (some 113)), .inr (.inr (some (aSB + 31))), .inl (0 : Int32), .inl (50 : Int32)], [], M3)) R3.1.1 rfl ?_
    refine nv_calli (r_readPart hz R3.1 R3.2.1 (k := 31) (by decide)) (fun v4 M4 ⟨f4, S4, h4⟩ => ?_)
    have R4 : RdF n0 B lim M0 M4 (lip2 B lim L p) L := Rf_x R3 f4 S4 (fun q e => pt_inl e)
    have h4 : ∀ q, lip2 B lim L p = .inl q → v4.toInt = m_val B lim (m_wd B lim (txc 31) (lip1 B lim L p)) ∧ 0 ≤ v4.toInt ∧ v4.toInt ≤ 50 := h4
    refine nv_cut hct nvR 173 43 4 (S' := (d + 8, [], 173, 43, [(1, .inl v3), (0, .inr (.inr (some 113)))], [], (s_I M4 n0 4 v4))) R4.1.1 rfl ?_
    have R4' := Rf_w (k := 4) (v := v4) rfl R4
    generalize hM4 : (s_I M4 n0 4 v4) = M4' at R4' ⊢
    refine nv_cut hct nvR 168 0 10 (S' := (d + 7, [(173, 56, [(1, .inl v3), (0, .inr (.inr (some 113)))], [.inr (.inr (some 137))])], 168, 0, la 0 [.inr (.inr (some 113)), .inr (.inr (some (aSB + 32))), .inl (0 : Int32), .inl (99 : Int32)], [], M4')) R4'.1.1 rfl ?_
    refine nv_calli (r_readPart hz R4'.1 R4'.2.1 (k := 32) (by decide)) (fun v5 M5 ⟨f5, S5, h5⟩ => ?_)
    have R5 : RdF n0 B lim M0 M5 (lip3 B lim L p) L := Rf_x R4' f5 S5 (fun q e => pt_inl e)
    have h5 : ∀ q, lip3 B lim L p = .inl q → v5.toInt = m_val B lim (m_wd B lim (txc 32) (lip2 B lim L p)) ∧ 0 ≤ v5.toInt ∧ v5.toInt ≤ 99 := h5
    refine nv_cut hct nvR 173 59 4 (S' := (d + 8, [], 173, 59, [(1, .inl v3), (0, .inr (.inr (some 113)))], [], (s_I M5 n0 5 v5))) R5.1.1 rfl ?_
    have R5' := Rf_w (k := 5) (v := v5) rfl R5
    generalize hM5 : (s_I M5 n0 5 v5) = M5' at R5' ⊢
    refine nv_cut hct nvR 168 0 10 (S' := (d + 7, [(173, 74, [(1, .inl v3), (0, .inr (.inr (some 113)))], [.inr (.inr (some 137))])], 168, 0, la 0 [.inr (.inr (some 113)), .inr (.inr (some (aSB + 33))), .inl (10 : Int32), .inl (999 : Int32)], [], M5')) R5'.1.1 rfl ?_
    refine nv_calli (r_readPart hz R5'.1 R5'.2.1 (k := 33) (by decide)) (fun v6 M6 ⟨f6, S6, h6⟩ => ?_)
    have R6 : RdF n0 B lim M0 M6 (lip4 B lim L p) L := Rf_x R5' f6 S6 (fun q e => pt_inl e)
    have h6 : ∀ q, lip4 B lim L p = .inl q → v6.toInt = m_val B lim (m_wd B lim (txc 33) (lip3 B lim L p)) ∧ 10 ≤ v6.toInt ∧ v6.toInt ≤ 999 := h6
    refine nv_cut hct nvR 173 77 4 (S' := (d + 8, [], 173, 77, [(1, .inl v3), (0, .inr (.inr (some 113)))], [], (s_I M6 n0 6 v6))) R6.1.1 rfl ?_
    have R6' := Rf_w (k := 6) (v := v6) rfl R6
    generalize hM6 : (s_I M6 n0 6 v6) = M6' at R6' ⊢
    refine nv_cut hct nvR 173 82 6 (S' := (d + 8, [], 173, 82, [(1, .inl v3), (0, .inr (.inr (some 113)))], [.inl (5 : Int32), .inl (a_I (M6') 113 9)], M6')) R6'.1.1 rfl ?_
    cases hm : lip4 B lim L p with
    | inr f =>
      have S := R6'.2.1
      rw [hm] at S
      refine nv_ifc hct true rfl (ccT1 rfl (show ((5 : Int32)).toInt = 5 from rfl) (by rw [S.1]; rfl)) ?_
      rw [hm] at R6'
      exact nv_vret hct rfl ⟨rfl, R6'.1, R6'.2.1, R6'.2.2.1, fun q e => by cases e⟩
    | inl q =>
      have S := R6'.2.1
      rw [hm] at S
      refine nv_ifc hct false rfl (ccF1 rfl (show ((5 : Int32)).toInt = 5 from rfl) (St_5 S)) ?_
      refine nv_cut hct nvR 173 93 7 (S' := (d + 8, [], 173, 93, [(1, .inl v3), (0, .inr (.inr (some 113)))], [], (s_I (M6') n0 3 v3))) R6'.1.1 rfl ?_
      obtain ⟨q3, e3⟩ := pt_inl (show m_pt B lim (txc 33) 10 999 (lip3 B lim L p) = .inl q from hm)
      obtain ⟨q2, e2⟩ := pt_inl (show m_pt B lim (txc 32) 0 99 (lip2 B lim L p) = .inl q3 from e3)
      obtain ⟨q1, e1⟩ := pt_inl (show m_pt B lim (txc 31) 0 50 (lip1 B lim L p) = .inl q2 from e2)
      obtain ⟨l1, l2, l3⟩ := R6'.2.2.2 q hm
      have hn := En_n R6'.1
      exact nv_vret hct rfl ⟨rfl, En_w hn R6'.1, St_w hn S, Ff_s (Nat.le_refl _) R6'.2.2.1, fun _ _ => ⟨LsA_lip l1 (h3 q1 e1).2, LsN_s l2, LsF_s l3⟩⟩
  cases hc : l_lp L with
  | true =>
    have hv : 1 ≤ (a_I M n0 3).toInt := by
      rcases hlp with ⟨q, _⟩ | ⟨_, q, _⟩
      · rw [hc] at q; cases q
      · exact q
    refine nv_if hct false rfl (zcF2 rfl (by omega)) ?_
    refine nv_cut hct nvR 163 0 6 (S' := (d + 7, [(173, 15, [(0, .inr (.inr (some 113)))], [])], 163, 0, la 0 [.inr (.inr (some 113)), .inl (3 : Int32)], [], M)) R.1.1 rfl ?_
    refine nv_callv (r_wrong hz R.1 R.2.1 (kn := 3) rfl (by decide)) (fun M1 ⟨f1, S1⟩ => ?_)
    have R1 := Rd_x R f1 S1
    refine nv_cut hct nvR 173 15 3 (S' := (d + 8, [], 173, 15, [(0, .inr (.inr (some 113)))], [], M1)) R1.1.1 rfl ?_
    exact key M1 (by rw [hc]; exact R1)
  | false =>
    have hv : (a_I M n0 3).toInt = 0 := by
      rcases hlp with ⟨_, q⟩ | ⟨q, _⟩
      · exact q
      · rw [hc] at q; cases q
    refine nv_if hct true rfl (zcT2 rfl (by omega)) ?_
    exact key M (by rw [hc]; exact R)
def cst0 (B : Nat → Int) (lim : Nat) (L : lsT) (p : Nat) : pmd := m_adv B lim (m_if B lim 3 (l_co L) (.inl p))
def cst1 (B : Nat → Int) (lim : Nat) (L : lsT) (p : Nat) : pmd := m_pt B lim (txc 35) 0 99 (cst0 B lim L p)
def cst2 (B : Nat → Int) (lim : Nat) (L : lsT) (p : Nat) : pmd := m_pt B lim (txc 30) 0 99 (cst1 B lim L p)
def cst3 (B : Nat → Int) (lim : Nat) (L : lsT) (p : Nat) : pmd := m_pt B lim (txc 36) 0 99 (cst2 B lim L p)
def cstL (L : lsT) : lsT := (L.1, (L.2.1.1, true), L.2.2)
theorem LsA_cst {n0 : Nat} {M : aM} {L : lsT} (h : LsA n0 M L) {x : Int32} (hx : 0 ≤ x.toInt) : LsA n0 (s_I M n0 7 x) (cstL L) := by
  have e : ∀ k, k ≠ 7 → a_I (s_I M n0 7 x) n0 k = a_I M n0 k := fun k hk => aI_nk (fun q => hk q.2)
  unfold LsA
  rw [aI_at, e 0 (by omega), e 1 (by omega), e 2 (by omega), e 3 (by omega), e 10 (by omega), e 11 (by omega), e 13 (by omega), e 12 (by omega), e 14 (by omega)]
  exact ⟨h.1, h.2.1, Or.inr ⟨rfl, hx⟩, h.2.2.2⟩
set_option maxHeartbeats 4000000 in
theorem r_cst {cd : Nat → Nat → Option aI} {z : Bool} (hz : ∀ m p i, cd0 z m p = some i → cd m p = some i) {n0 : Nat} {B : Nat → Int} {lim : Nat} {M0 M : aM} {L : lsT} {p : Nat} (R : RdR n0 B lim M0 M (.inl p) L) (hk : knd B lim p = 1) {d : Nat} : wpS cd (d + 8, [], 174, 0, nv_l (tauN n0) (la 0 [.inr (.inr (some 113))]), [], M) (fun r M' => r = none ∧ RdF n0 B lim M0 M' (cst3 B lim L p) (cstL L)) := by
  show wpS cd (nv_S (tauN n0) (d + 8, [], 174, 0, la 0 [.inr (.inr (some 113))], [], M)) _
  have hct := hc_of hz
  refine nv_cut hct nvR 174 8 7 (S' := (d + 8, [], 174, 8, [(0, .inr (.inr (some 113)))], [.inl (-1 : Int32), .inl (a_I M n0 7)], M)) R.1.1 rfl ?_
  have hco := R.2.2.2.1.2.2.1
  have key : ∀ M1, RdR n0 B lim M0 M1 (m_if B lim 3 (l_co L) (.inl p)) L → wpS cd (nv_S (tauN n0) (d + 8, [], 174, 16, [(0, .inr (.inr (some 113)))], [], M1)) (fun r M' => r = none ∧ RdF n0 B lim M0 M' (cst3 B lim L p) (cstL L)) := by
    intro M1 R1
    have R1 := Rd_F R1
    refine nv_cut hct nvR 162 0 5 (S' := (d + 7, [(174, 20, [(0, .inr (.inr (some 113)))], [])], 162, 0, la 0 [.inr (.inr (some 113))], [], M1)) R1.1.1 rfl ?_
    refine nv_callv (r_adv hz R1.1 R1.2.1 (if_ok (hok1 hk))) (fun M2 ⟨f2, S2⟩ => ?_)
    have R2 : RdF n0 B lim M0 M2 (cst0 B lim L p) L := Rf_x R1 f2 S2 (fun q e => adv_inl e)
    refine nv_cut hct nvR 168 0 8 (S' := (d + 7, [(174, 29, [(0, .inr (.inr (some 113)))], [])], 168, 0, la 0 [.inr (.inr (some 113)), .inr (.inr (some (aSB + 35))), .inl (0 : Int32), .inl (99 : Int32)], [], M2)) R2.1.1 rfl ?_
    refine nv_calli (r_readPart hz R2.1 R2.2.1 (k := 35) (by decide)) (fun v3 M3 ⟨f3, S3, h3⟩ => ?_)
    have R3 : RdF n0 B lim M0 M3 (cst1 B lim L p) L := Rf_x R2 f3 S3 (fun q e => pt_inl e)
    have h3 : ∀ q, cst1 B lim L p = .inl q → v3.toInt = m_val B lim (m_wd B lim (txc 35) (cst0 B lim L p)) ∧ 0 ≤ v3.toInt ∧ v3.toInt ≤ 99 := h3
    refine nv_cut hct nvR 174 30 4 (S' := (d + 8, [], 174, 30, [(1, .inl v3), (0, .inr (.inr (some 113)))], [], M3)) R3.1.1 rfl ?_
    refine nv_cut hct nvR 168 0 10 (S' := (d + 7, [(174, 43, [(1, .inl v3), (0, .inr (.inr (some 113)))], [.inr (.inr (some 137))])], 168, 0, la 0 [.inr (.inr (some 113)), .inr (.inr (some (aSB + 30))), .inl (0 : Int32), .inl (99 : Int32)], [], M3)) R3.1.1 rfl ?_
    refine nv_calli (r_readPart hz R3.1 R3.2.1 (k := 30) (by decide)) (fun v4 M4 ⟨f4, S4, h4⟩ => ?_)
    have R4 : RdF n0 B lim M0 M4 (cst2 B lim L p) L := Rf_x R3 f4 S4 (fun q e => pt_inl e)
    have h4 : ∀ q, cst2 B lim L p = .inl q → v4.toInt = m_val B lim (m_wd B lim (txc 30) (cst1 B lim L p)) ∧ 0 ≤ v4.toInt ∧ v4.toInt ≤ 99 := h4
    refine nv_cut hct nvR 174 46 4 (S' := (d + 8, [], 174, 46, [(1, .inl v3), (0, .inr (.inr (some 113)))], [], (s_I M4 n0 8 v4))) R4.1.1 rfl ?_
    have R4' := Rf_w (k := 8) (v := v4) rfl R4
    generalize hM4 : (s_I M4 n0 8 v4) = M4' at R4' ⊢
    refine nv_cut hct nvR 168 0 10 (S' := (d + 7, [(174, 59, [(1, .inl v3), (0, .inr (.inr (some 113)))], [.inr (.inr (some 137))])], 168, 0, la 0 [.inr (.inr (some 113)), .inr (.inr (some (aSB + 36))), .inl (0 : Int32), .inl (99 : Int32)], [], M4')) R4'.1.1 rfl ?_
    refine nv_calli (r_readPart hz R4'.1 R4'.2.1 (k := 36) (by decide)) (fun v5 M5 ⟨f5, S5, h5⟩ => ?_)
    have R5 : RdF n0 B lim M0 M5 (cst3 B lim L p) L := Rf_x R4' f5 S5 (fun q e => pt_inl e)
    have h5 : ∀ q, cst3 B lim L p = .inl q → v5.toInt = m_val B lim (m_wd B lim (txc 36) (cst2 B lim L p)) ∧ 0 ≤ v5.toInt ∧ v5.toInt ≤ 99 := h5
    refine nv_cut hct nvR 174 62 4 (S' := (d + 8, [], 174, 62, [(1, .inl v3), (0, .inr (.inr (some 113)))], [], (s_I M5 n0 9 v5))) R5.1.1 rfl ?_
    have R5' := Rf_w (k := 9) (v := v5) rfl R5
    generalize hM5 : (s_I M5 n0 9 v5) = M5' at R5' ⊢
    refine nv_cut hct nvR 174 67 6 (S' := (d + 8, [], 174, 67, [(1, .inl v3), (0, .inr (.inr (some 113)))], [.inl (5 : Int32), .inl (a_I (M5') 113 9)], M5')) R5'.1.1 rfl ?_
    cases hm : cst3 B lim L p with
    | inr f =>
      have S := R5'.2.1
      rw [hm] at S
      refine nv_ifc hct true rfl (ccT1 rfl (show ((5 : Int32)).toInt = 5 from rfl) (by rw [S.1]; rfl)) ?_
      rw [hm] at R5'
      exact nv_vret hct rfl ⟨rfl, R5'.1, R5'.2.1, R5'.2.2.1, fun q e => by cases e⟩
    | inl q =>
      have S := R5'.2.1
      rw [hm] at S
      refine nv_ifc hct false rfl (ccF1 rfl (show ((5 : Int32)).toInt = 5 from rfl) (St_5 S)) ?_
      refine nv_cut hct nvR 174 78 7 (S' := (d + 8, [], 174, 78, [(1, .inl v3), (0, .inr (.inr (some 113)))], [], (s_I (M5') n0 7 v3))) R5'.1.1 rfl ?_
      obtain ⟨q2, e2⟩ := pt_inl (show m_pt B lim (txc 36) 0 99 (cst2 B lim L p) = .inl q from hm)
      obtain ⟨q1, e1⟩ := pt_inl (show m_pt B lim (txc 30) 0 99 (cst1 B lim L p) = .inl q2 from e2)
      obtain ⟨l1, l2, l3⟩ := R5'.2.2.2 q hm
      have hn := En_n R5'.1
      exact nv_vret hct rfl ⟨rfl, En_w hn R5'.1, St_w hn S, Ff_s (Nat.le_refl _) R5'.2.2.1, fun _ _ => ⟨LsA_cst l1 (h3 q1 e1).2.1, LsN_s l2, LsF_s l3⟩⟩
  cases hc : l_co L with
  | true =>
    have hv : 0 ≤ (a_I M n0 7).toInt := by
      rcases hco with ⟨q, _⟩ | ⟨_, q⟩
      · rw [hc] at q; cases q
      · exact q
    refine nv_ifc hct false rfl (ccF1 rfl (show ((-1 : Int32)).toInt = -1 from rfl) (by omega)) ?_
    refine nv_cut hct nvR 163 0 6 (S' := (d + 7, [(174, 16, [(0, .inr (.inr (some 113)))], [])], 163, 0, la 0 [.inr (.inr (some 113)), .inl (3 : Int32)], [], M)) R.1.1 rfl ?_
    refine nv_callv (r_wrong hz R.1 R.2.1 (kn := 3) rfl (by decide)) (fun M1 ⟨f1, S1⟩ => ?_)
    have R1 := Rd_x R f1 S1
    refine nv_cut hct nvR 174 16 3 (S' := (d + 8, [], 174, 16, [(0, .inr (.inr (some 113)))], [], M1)) R1.1.1 rfl ?_
    exact key M1 (by rw [hc]; exact R1)
  | false =>
    have hv : (a_I M n0 7).toInt = -1 := by
      rcases hco with ⟨_, q⟩ | ⟨q, _⟩
      · exact q
      · rw [hc] at q; cases q
    refine nv_ifc hct true rfl (ccT1 rfl (show ((-1 : Int32)).toInt = -1 from rfl) (by omega)) ?_
    exact key M (by rw [hc]; exact R)

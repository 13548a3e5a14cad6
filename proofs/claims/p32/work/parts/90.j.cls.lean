/-! The class's lines, one after another: printed by wip/gen/clspa.py -/
set_option maxHeartbeats 4000000 in
theorem c_lacks {cd : Nat → Nat → Option aI} {z : Bool} (hz : ∀ m p i, cd0 z m p = some i → cd m p = some i) {t0 : Nat} {B : Nat → Int} {lim : Nat} {M : aM} (hE : EnC t0 B lim M) {q : Nat} (hS : StC B lim M (.inl q)) {L : lsT} (K : KC t0 B lim M L) {d : Nat} : wpS cd (d + 2, [], 55, 0, nv_l (tauC t0) (la 0 [.inr (.inr (some 1))]), [], M) (fun r M' => r = none ∧ eqE fC M M' ∧ StC B lim M' (m_if B lim 6 (lacks L) (.inl q))) := by
  show wpS cd (nv_S (tauC t0) (d + 2, [], 55, 0, la 0 [.inr (.inr (some 1))], [], M)) _
  have hct := hc_of hz
  have bad : lacks L = true → wpS cd (nv_S (tauC t0) (d + 2, [], 55, 28, [(0, .inr (.inr (some 1)))], [], M)) (fun r M' => r = none ∧ eqE fC M M' ∧ StC B lim M' (m_if B lim 6 (lacks L) (.inl q))) := fun hl => by
    refine nv_cut hct nvC 54 0 6 (S' := (d + 1, [(55, 34, [(0, .inr (.inr (some 1)))], [])], 54, 0, la 0 [.inr (.inr (some 1)), .inl (6 : Int32)], [], M)) hE.1 rfl ?_
    refine nv_callv (c_blame hz hE hS (kn := 6) rfl (by decide)) (fun M1 ⟨q1, S1⟩ => ?_)
    refine nv_cut hct nvC 55 34 3 (S' := (d + 2, [], 55, 34, [(0, .inr (.inr (some 1)))], [], M1)) (Ec_C q1 hE).1 rfl ?_
    exact nv_vret hct rfl ⟨rfl, q1, by unfold m_if; rw [hl]; exact S1⟩
  refine nv_cut hct nvC 55 4 5 (S' := (d + 2, [], 55, 4, [(0, .inr (.inr (some 1)))], [.inl (a_I M 1 10)], M)) hE.1 rfl ?_
  rcases K.1 with ⟨k1, k2⟩ | ⟨k1, _, k2, _⟩
  · skip
    refine nv_if hct true rfl (zcT1 k1 rfl) ?_
    exact bad (by unfold lacks; rw [decide_eq_true k2]; rfl)
  · skip
    refine nv_if hct false rfl (zcF1 k1 (by decide)) ?_
    refine nv_cut hct nvC 55 11 5 (S' := (d + 2, [], 55, 11, [(0, .inr (.inr (some 1)))], [.inl (a_I M 1 11)], M)) hE.1 rfl ?_
    have n0 : decide (l_in L = 0) = false := decide_eq_false (by omega)
    cases hl : l_lp L with
    | false =>
      refine nv_if hct true rfl (zcT1 (show (a_I M 1 11).toInt = 0 by rw [K.2.1.1, hl]; rfl) rfl) ?_
      exact bad (by unfold lacks; rw [n0, hl]; rfl)
    | true =>
      refine nv_if hct false rfl (zcF1 (show (a_I M 1 11).toInt = 1 by rw [K.2.1.1, hl]; rfl) (by decide)) ?_
      refine nv_cut hct nvC 55 18 5 (S' := (d + 2, [], 55, 18, [(0, .inr (.inr (some 1)))], [.inl (a_I M 1 12)], M)) hE.1 rfl ?_
      cases hc : l_co L with
      | false =>
        refine nv_if hct true rfl (zcT1 (show (a_I M 1 12).toInt = 0 by rw [K.2.1.2, hc]; rfl) rfl) ?_
        exact bad (by unfold lacks; rw [n0, hl, hc]; rfl)
      | true =>
        refine nv_if hct false rfl (zcF1 (show (a_I M 1 12).toInt = 1 by rw [K.2.1.2, hc]; rfl) (by decide)) ?_
        refine nv_cut hct nvC 55 25 5 (S' := (d + 2, [], 55, 25, [(0, .inr (.inr (some 1)))], [.inl (a_I M 1 8)], M)) hE.1 rfl ?_
        rcases K.2.2.1.2.2.2.2.2 with ⟨w1, w2⟩ | ⟨w1, w2⟩
        · skip
          refine nv_if hct false rfl (zcF1 w2 (by decide)) ?_
          exact bad (by unfold lacks; rw [n0, hl, hc, decide_eq_true w1]; rfl)
        · skip
          have n1 : decide (l_fr L = 0) = false := decide_eq_false (by omega)
          by_cases h0 : l_f0 L = 0
          · skip
            refine nv_if hct true rfl (zcT1 w2 h0) ?_
            exact nv_vret hct rfl ⟨rfl, eqE_rf, by unfold m_if lacks; rw [n0, hl, hc, n1, decide_eq_true h0]; exact hS⟩
          · skip
            refine nv_if hct false rfl (zcF1 w2 h0) ?_
            exact bad (by unfold lacks; rw [n0, hl, hc, n1, decide_eq_false h0]; rfl)
set_option maxHeartbeats 4000000 in
theorem c_line {cd : Nat → Nat → Option aI} {z : Bool} (hz : ∀ m p i, cd0 z m p = some i → cd m p = some i) {t0 : Nat} {B : Nat → Int} {lim : Nat} {M0 M : aM} {L : lsT} {p : Nat} (R : RdC t0 B lim M0 M (.inl p)) (K : KC t0 B lim M L) (hwf : wfL L) {i x : Int32} {d : Nat} {Q : aQ} (h : ∀ M', RdC t0 B lim M0 M' (linM B lim L p) → (∀ q, linM B lim L p = .inl q → KC t0 B lim M' (linL B lim L p)) → wpS cd (nv_S (tauC t0) (d + 9, [], 51, 159, [(2, .inl i), (0, .inr (.inr (some 1))), (1, .inl x)], [], M')) Q) : wpS cd (nv_S (tauC t0) (d + 9, [], 51, 21, [(2, .inl i), (0, .inr (.inr (some 1))), (1, .inl x)], [], M)) Q := by
  have hct := hc_of hz
  obtain ⟨⟨hp, hT⟩, h13⟩ := Sc_p R.2.1
  unfold linM linL at h
  refine nv_cut hct nvC 93 0 7 (S' := (d + 8, [(51, 30, [(2, .inl i), (0, .inr (.inr (some 1))), (1, .inl x)], [])], 93, 0, la 0 [.inr (.inr (some 2)), .inr (.inr (some (aSB + 0)))], [], M)) R.1.1 rfl ?_
  refine nv_calli (c_isWord hz R.1 hT (k := 0) (by decide)) (fun x0 M0_ ⟨e0, hx0⟩ => ?_)
  subst e0
  have hx0 : x0 = bif isW B lim (txc 26) p then 1 else 0 := hx0
  refine nv_cut hct nvC 51 30 3 (S' := (d + 9, [], 51, 30, [(2, .inl i), (0, .inr (.inr (some 1))), (1, .inl x)], [.inl x0], M0_)) R.1.1 rfl ?_
  cases hc0 : isW B lim (txc 26) p with
  | true =>
    simp only [hc0, cond_true, cond_false] at h
    refine nv_if hct false rfl (zcF1 (show x0.toInt = 1 by rw [hx0, hc0]; rfl) (by decide)) ?_
    refine nv_cut hct nvC 56 0 5 (S' := (d + 8, [(51, 37, [(2, .inl i), (0, .inr (.inr (some 1))), (1, .inl x)], [])], 56, 0, la 0 [.inr (.inr (some 1))], [], M0_)) R.1.1 rfl ?_
    refine nv_callv (c_rod hz R K) (fun M1 ⟨R1, K1⟩ => ?_)
    refine nv_cut hct nvC 51 159 4 (S' := (d + 9, [], 51, 159, [(2, .inl i), (0, .inr (.inr (some 1))), (1, .inl x)], [], M1)) R1.1.1 rfl ?_
    exact h M1 R1 K1
  | false =>
    refine nv_if hct true rfl (zcT1 (show x0.toInt = 0 by rw [hx0, hc0]; rfl) rfl) ?_
    refine nv_cut hct nvC 93 0 7 (S' := (d + 8, [(51, 49, [(2, .inl i), (0, .inr (.inr (some 1))), (1, .inl x)], [])], 93, 0, la 0 [.inr (.inr (some 2)), .inr (.inr (some (aSB + 4)))], [], M0_)) R.1.1 rfl ?_
    refine nv_calli (c_isWord hz R.1 hT (k := 4) (by decide)) (fun x1 M1_ ⟨e1, hx1⟩ => ?_)
    subst e1
    have hx1 : x1 = bif isW B lim (txc 30) p then 1 else 0 := hx1
    refine nv_cut hct nvC 51 49 3 (S' := (d + 9, [], 51, 49, [(2, .inl i), (0, .inr (.inr (some 1))), (1, .inl x)], [.inl x1], M1_)) R.1.1 rfl ?_
    cases hc1 : isW B lim (txc 30) p with
    | true =>
      simp only [hc0, hc1, cond_true, cond_false] at h
      refine nv_if hct false rfl (zcF1 (show x1.toInt = 1 by rw [hx1, hc1]; rfl) (by decide)) ?_
      refine nv_cut hct nvC 57 0 5 (S' := (d + 8, [(51, 56, [(2, .inl i), (0, .inr (.inr (some 1))), (1, .inl x)], [])], 57, 0, la 0 [.inr (.inr (some 1))], [], M1_)) R.1.1 rfl ?_
      refine nv_callv (c_lip hz R K) (fun M1 ⟨R1, K1⟩ => ?_)
      refine nv_cut hct nvC 51 159 4 (S' := (d + 9, [], 51, 159, [(2, .inl i), (0, .inr (.inr (some 1))), (1, .inl x)], [], M1)) R1.1.1 rfl ?_
      exact h M1 R1 K1
    | false =>
      refine nv_if hct true rfl (zcT1 (show x1.toInt = 0 by rw [hx1, hc1]; rfl) rfl) ?_
      refine nv_cut hct nvC 93 0 7 (S' := (d + 8, [(51, 68, [(2, .inl i), (0, .inr (.inr (some 1))), (1, .inl x)], [])], 93, 0, la 0 [.inr (.inr (some 2)), .inr (.inr (some (aSB + 8)))], [], M1_)) R.1.1 rfl ?_
      refine nv_calli (c_isWord hz R.1 hT (k := 8) (by decide)) (fun x2 M2_ ⟨e2, hx2⟩ => ?_)
      subst e2
      have hx2 : x2 = bif isW B lim (txc 34) p then 1 else 0 := hx2
      refine nv_cut hct nvC 51 68 3 (S' := (d + 9, [], 51, 68, [(2, .inl i), (0, .inr (.inr (some 1))), (1, .inl x)], [.inl x2], M2_)) R.1.1 rfl ?_
      cases hc2 : isW B lim (txc 34) p with
      | true =>
        simp only [hc0, hc1, hc2, cond_true, cond_false] at h
        refine nv_if hct false rfl (zcF1 (show x2.toInt = 1 by rw [hx2, hc2]; rfl) (by decide)) ?_
        refine nv_cut hct nvC 58 0 5 (S' := (d + 8, [(51, 75, [(2, .inl i), (0, .inr (.inr (some 1))), (1, .inl x)], [])], 58, 0, la 0 [.inr (.inr (some 1))], [], M2_)) R.1.1 rfl ?_
        refine nv_callv (c_cst hz R K) (fun M1 ⟨R1, K1⟩ => ?_)
        refine nv_cut hct nvC 51 159 4 (S' := (d + 9, [], 51, 159, [(2, .inl i), (0, .inr (.inr (some 1))), (1, .inl x)], [], M1)) R1.1.1 rfl ?_
        exact h M1 R1 K1
      | false =>
        refine nv_if hct true rfl (zcT1 (show x2.toInt = 0 by rw [hx2, hc2]; rfl) rfl) ?_
        refine nv_cut hct nvC 93 0 7 (S' := (d + 8, [(51, 87, [(2, .inl i), (0, .inr (.inr (some 1))), (1, .inl x)], [])], 93, 0, la 0 [.inr (.inr (some 2)), .inr (.inr (some (aSB + 11)))], [], M2_)) R.1.1 rfl ?_
        refine nv_calli (c_isWord hz R.1 hT (k := 11) (by decide)) (fun x3 M3_ ⟨e3, hx3⟩ => ?_)
        subst e3
        have hx3 : x3 = bif isW B lim (txc 37) p then 1 else 0 := hx3
        refine nv_cut hct nvC 51 87 3 (S' := (d + 9, [], 51, 87, [(2, .inl i), (0, .inr (.inr (some 1))), (1, .inl x)], [.inl x3], M3_)) R.1.1 rfl ?_
        cases hc3 : isW B lim (txc 37) p with
        | true =>
          simp only [hc0, hc1, hc2, hc3, cond_true, cond_false] at h
          refine nv_if hct false rfl (zcF1 (show x3.toInt = 1 by rw [hx3, hc3]; rfl) (by decide)) ?_
          refine nv_cut hct nvC 59 0 5 (S' := (d + 8, [(51, 94, [(2, .inl i), (0, .inr (.inr (some 1))), (1, .inl x)], [])], 59, 0, la 0 [.inr (.inr (some 1))], [], M3_)) R.1.1 rfl ?_
          refine nv_callv (c_way hz R K hwf) (fun M1 ⟨R1, K1⟩ => ?_)
          refine nv_cut hct nvC 51 159 4 (S' := (d + 9, [], 51, 159, [(2, .inl i), (0, .inr (.inr (some 1))), (1, .inl x)], [], M1)) R1.1.1 rfl ?_
          exact h M1 R1 K1
        | false =>
          refine nv_if hct true rfl (zcT1 (show x3.toInt = 0 by rw [hx3, hc3]; rfl) rfl) ?_
          refine nv_cut hct nvC 93 0 7 (S' := (d + 8, [(51, 106, [(2, .inl i), (0, .inr (.inr (some 1))), (1, .inl x)], [])], 93, 0, la 0 [.inr (.inr (some 2)), .inr (.inr (some (aSB + 12)))], [], M3_)) R.1.1 rfl ?_
          refine nv_calli (c_isWord hz R.1 hT (k := 12) (by decide)) (fun x4 M4_ ⟨e4, hx4⟩ => ?_)
          subst e4
          have hx4 : x4 = bif isW B lim (txc 38) p then 1 else 0 := hx4
          refine nv_cut hct nvC 51 106 3 (S' := (d + 9, [], 51, 106, [(2, .inl i), (0, .inr (.inr (some 1))), (1, .inl x)], [.inl x4], M4_)) R.1.1 rfl ?_
          cases hc4 : isW B lim (txc 38) p with
          | true =>
            simp only [hc0, hc1, hc2, hc3, hc4, cond_true, cond_false] at h
            refine nv_if hct false rfl (zcF1 (show x4.toInt = 1 by rw [hx4, hc4]; rfl) (by decide)) ?_
            refine nv_cut hct nvC 60 0 5 (S' := (d + 8, [(51, 113, [(2, .inl i), (0, .inr (.inr (some 1))), (1, .inl x)], [])], 60, 0, la 0 [.inr (.inr (some 1))], [], M4_)) R.1.1 rfl ?_
            refine nv_callv (c_had hz R K) (fun M1 ⟨R1, K1⟩ => ?_)
            refine nv_cut hct nvC 51 159 4 (S' := (d + 9, [], 51, 159, [(2, .inl i), (0, .inr (.inr (some 1))), (1, .inl x)], [], M1)) R1.1.1 rfl ?_
            exact h M1 R1 K1
          | false =>
            refine nv_if hct true rfl (zcT1 (show x4.toInt = 0 by rw [hx4, hc4]; rfl) rfl) ?_
            refine nv_cut hct nvC 93 0 7 (S' := (d + 8, [(51, 125, [(2, .inl i), (0, .inr (.inr (some 1))), (1, .inl x)], [])], 93, 0, la 0 [.inr (.inr (some 2)), .inr (.inr (some (aSB + 13)))], [], M4_)) R.1.1 rfl ?_
            refine nv_calli (c_isWord hz R.1 hT (k := 13) (by decide)) (fun x5 M5_ ⟨e5, hx5⟩ => ?_)
            subst e5
            have hx5 : x5 = bif isW B lim (txc 39) p then 1 else 0 := hx5
            refine nv_cut hct nvC 51 125 3 (S' := (d + 9, [], 51, 125, [(2, .inl i), (0, .inr (.inr (some 1))), (1, .inl x)], [.inl x5], M5_)) R.1.1 rfl ?_
            cases hc5 : isW B lim (txc 39) p with
            | true =>
              simp only [hc0, hc1, hc2, hc3, hc4, hc5, cond_true, cond_false] at h
              refine nv_if hct false rfl (zcF1 (show x5.toInt = 1 by rw [hx5, hc5]; rfl) (by decide)) ?_
              refine nv_cut hct nvC 61 0 5 (S' := (d + 8, [(51, 132, [(2, .inl i), (0, .inr (.inr (some 1))), (1, .inl x)], [])], 61, 0, la 0 [.inr (.inr (some 1))], [], M5_)) R.1.1 rfl ?_
              refine nv_callv (c_frm hz R K) (fun M1 ⟨R1, K1⟩ => ?_)
              refine nv_cut hct nvC 51 159 4 (S' := (d + 9, [], 51, 159, [(2, .inl i), (0, .inr (.inr (some 1))), (1, .inl x)], [], M1)) R1.1.1 rfl ?_
              exact h M1 R1 K1
            | false =>
              refine nv_if hct true rfl (zcT1 (show x5.toInt = 0 by rw [hx5, hc5]; rfl) rfl) ?_
              refine nv_cut hct nvC 93 0 7 (S' := (d + 8, [(51, 144, [(2, .inl i), (0, .inr (.inr (some 1))), (1, .inl x)], [])], 93, 0, la 0 [.inr (.inr (some 2)), .inr (.inr (some (aSB + 14)))], [], M5_)) R.1.1 rfl ?_
              refine nv_calli (c_isWord hz R.1 hT (k := 14) (by decide)) (fun x6 M6_ ⟨e6, hx6⟩ => ?_)
              subst e6
              have hx6 : x6 = bif isW B lim (txc 40) p then 1 else 0 := hx6
              refine nv_cut hct nvC 51 144 3 (S' := (d + 9, [], 51, 144, [(2, .inl i), (0, .inr (.inr (some 1))), (1, .inl x)], [.inl x6], M6_)) R.1.1 rfl ?_
              cases hc6 : isW B lim (txc 40) p with
              | true =>
                simp only [hc0, hc1, hc2, hc3, hc4, hc5, hc6, cond_true, cond_false] at h
                refine nv_if hct false rfl (zcF1 (show x6.toInt = 1 by rw [hx6, hc6]; rfl) (by decide)) ?_
                refine nv_cut hct nvC 62 0 5 (S' := (d + 8, [(51, 151, [(2, .inl i), (0, .inr (.inr (some 1))), (1, .inl x)], [])], 62, 0, la 0 [.inr (.inr (some 1))], [], M6_)) R.1.1 rfl ?_
                refine nv_callv (c_see hz R K hwf) (fun M1 ⟨R1, K1⟩ => ?_)
                refine nv_cut hct nvC 51 159 4 (S' := (d + 9, [], 51, 159, [(2, .inl i), (0, .inr (.inr (some 1))), (1, .inl x)], [], M1)) R1.1.1 rfl ?_
                exact h M1 R1 K1
              | false =>
                refine nv_if hct true rfl (zcT1 (show x6.toInt = 0 by rw [hx6, hc6]; rfl) rfl) ?_
                simp only [hc0, hc1, hc2, hc3, hc4, hc5, hc6, cond_true, cond_false] at h
                refine nv_cut hct nvC 54 0 6 (S' := (d + 8, [(51, 159, [(2, .inl i), (0, .inr (.inr (some 1))), (1, .inl x)], [])], 54, 0, la 0 [.inr (.inr (some 1)), .inl (1 : Int32)], [], M6_)) R.1.1 rfl ?_
                refine nv_callv (c_blame hz R.1 R.2.1 (kn := 1) rfl (by decide)) (fun M1 ⟨g1, S1⟩ => ?_)
                have R1 := Rc_C R g1 S1
                exact h M1 R1 (fun q e => by cases e)
theorem end_r {B : Nat → Int} {lim : Nat} {e : Nat × Nat} {L : lsT} : endM B lim (.inr e) L = .inr e := by
  unfold endM m_if
  cases lacks L <;> cases (!m_end B lim (.inr e)) <;> rfl
theorem end_b {B : Nat → Int} {lim q : Nat} {L : lsT} (h : ¬ knd B lim q = 0) : endM B lim (.inl q) L = .inr (1, skp B lim q) := by
  have : m_end B lim (.inl q) = false := nbF h
  unfold endM m_if
  rw [this]
  cases lacks L <;> rfl
theorem end_k {B : Nat → Int} {lim q : Nat} {L : lsT} (h : knd B lim q = 0) : endM B lim (.inl q) L = m_if B lim 6 (lacks L) (.inl q) := by
  have : m_end B lim (.inl q) = true := by show Nat.beq (knd B lim q) 0 = true; rw [h]; rfl
  unfold endM
  rw [this]
  rfl
set_option maxHeartbeats 4000000 in
theorem c_bad {cd : Nat → Nat → Option aI} {z : Bool} (hz : ∀ m p i, cd0 z m p = some i → cd m p = some i) {t0 : Nat} {B : Nat → Int} {lim : Nat} {M0 M : aM} {e : Nat × Nat} (R : RdC t0 B lim M0 M (.inr e)) {i x : Int32} {d : Nat} {Q : aQ} (h : ∀ M', RdC t0 B lim M0 M' (.inr e) → Q (some (.inl (a_I M' 1 13))) M') : wpS cd (nv_S (tauC t0) (d + 9, [], 51, 7, [(2, .inl i), (0, .inr (.inr (some 1))), (1, .inl x)], [], M)) Q := by
  have hct := hc_of hz
  obtain ⟨p9, _, h13, _, h1f⟩ := R.2.1
  refine nv_cut hct nvC 51 11 5 (S' := (d + 9, [], 51, 11, [(2, .inl i), (0, .inr (.inr (some 1))), (1, .inl x)], [.inl (700 : Int32), .inl i], M)) R.1.1 rfl ?_
  by_cases hi : 700 < i.toInt
  · skip
    refine nv_ifc hct true rfl (ccT3 rfl (show ((700 : Int32)).toInt = 700 from rfl) hi) ?_
    refine nv_cut hct nvC 51 216 5 (S' := (d + 9, [], 51, 216, [(2, .inl i), (0, .inr (.inr (some 1))), (1, .inl x)], [.inl (a_I M 1 13)], M)) R.1.1 rfl ?_
    exact nv_iret hct rfl rfl (h M R)
  · skip
    refine nv_ifc hct false rfl (ccF3 rfl (show ((700 : Int32)).toInt = 700 from rfl) (by omega)) ?_
    refine nv_cut hct nvC 51 18 5 (S' := (d + 9, [], 51, 18, [(2, .inl i), (0, .inr (.inr (some 1))), (1, .inl x)], [.inl (a_I M 1 13)], M)) R.1.1 rfl ?_
    refine nv_if hct true rfl (zcT5 h13 (by omega)) ?_
    refine nv_cut hct nvC 51 216 5 (S' := (d + 9, [], 51, 216, [(2, .inl i), (0, .inr (.inr (some 1))), (1, .inl x)], [.inl (a_I M 1 13)], M)) R.1.1 rfl ?_
    exact nv_iret hct rfl rfl (h M R)
set_option maxHeartbeats 4000000 in
theorem c_lines {cd : Nat → Nat → Option aI} {z : Bool} (hz : ∀ m p i, cd0 z m p = some i → cd m p = some i) {t0 : Nat} {B : Nat → Int} {lim : Nat} {M0 : aM} {x : Int32} {d : Nat} : ∀ (f : Nat) {p j : Nat} {i : Int32} {L : lsT} {M : aM}, 701 - p ≤ f → j ≤ p → i.toInt = (j : Int) → RdC t0 B lim M0 M (.inl p) → KC t0 B lim M L → wfL L → wpS cd (nv_S (tauC t0) (d + 9, [], 51, 7, [(2, .inl i), (0, .inr (.inr (some 1))), (1, .inl x)], [], M)) (fun r M' => ∃ v, r = some (.inl v) ∧ v = a_I M' 1 13 ∧ RdC t0 B lim M0 M' (endM B lim (lnsF B lim f L p).1 (lnsF B lim f L p).2) ∧ ∀ q, endM B lim (lnsF B lim f L p).1 (lnsF B lim f L p).2 = .inl q → KC t0 B lim M' (lnsF B lim f L p).2) := by
  have hct := hc_of hz
  intro f
  induction f with
  | zero =>
    intro p j i L M hf _ _ R
    obtain ⟨⟨hp, _⟩, _⟩ := Sc_p R.2.1
    have h2 := R.1.2.2.2.1
    omega
  | succ f ih =>
    intro p j i L M hf hj hi R K hwf
    obtain ⟨⟨hp, hT⟩, h13⟩ := Sc_p R.2.1
    have h2 := R.1.2.2.2.1
    refine nv_cut hct nvC 51 11 5 (S' := (d + 9, [], 51, 11, [(2, .inl i), (0, .inr (.inr (some 1))), (1, .inl x)], [.inl (700 : Int32), .inl i], M)) R.1.1 rfl ?_
    refine nv_ifc hct false rfl (ccF3 hi (show ((700 : Int32)).toInt = 700 from rfl) (by omega)) ?_
    refine nv_cut hct nvC 51 18 5 (S' := (d + 9, [], 51, 18, [(2, .inl i), (0, .inr (.inr (some 1))), (1, .inl x)], [.inl (a_I M 1 13)], M)) R.1.1 rfl ?_
    refine nv_if hct false rfl (zcF5 (show (a_I M 1 13).toInt = 0 by rw [h13]; rfl) rfl) ?_
    refine c_line hz R K hwf (fun M1 R1 K1 => ?_)
    have hge := lin_ge (B := B) (lim := lim) (L := L) (p := p)
    refine nv_cut hct nvC 51 163 5 (S' := (d + 9, [], 51, 163, [(2, .inl i), (0, .inr (.inr (some 1))), (1, .inl x)], [.inl (a_I M1 1 13)], M1)) R1.1.1 rfl ?_
    cases hm : linM B lim L p with
    | inr e =>
      rw [lns_r (f := f) hm]
      rw [hm] at R1
      have S1 := R1.2.1
      obtain ⟨p9, ⟨hp9, T9⟩, h139, _, h1f⟩ := R1.2.1
      refine nv_if hct true rfl (zcT5 h139 (by omega)) ?_
      refine nv_cut hct nvC 51 191 7 (S' := (d + 9, [], 51, 191, [(2, .inl i), (0, .inr (.inr (some 1))), (1, .inl x)], [.inl (3 : Int32), .inl (a_I M1 2 4)], M1)) R1.1.1 rfl ?_
      by_cases h3 : knd B lim p9 = 3
      · skip
        refine nv_ifc hct true rfl (ccT1 T9.2.1 (show ((3 : Int32)).toInt = 3 from rfl) (by omega)) ?_
        refine nv_cut hct nvC 91 0 6 (S' := (d + 8, [(51, 206, [(2, .inl i), (0, .inr (.inr (some 1))), (1, .inl x)], [])], 91, 0, la 0 [.inr (.inr (some 2))], [], M1)) R1.1.1 rfl ?_
        refine nv_callv (c_adv hz R1.1 R1.2.1) (fun M5 ⟨g5, S5⟩ => ?_)
        have R5 : RdC t0 B lim M0 M5 (.inr e) := Rc_C R1 g5 S5
        refine nv_cut hct nvC 51 7 5 (S' := (d + 9, [], 51, 7, [(2, .inl (i + 1)), (0, .inr (.inr (some 1))), (1, .inl x)], [], M5)) R5.1.1 rfl ?_
        exact c_bad hz R5 (fun M' R' => ⟨_, rfl, rfl, by rw [end_r]; exact R', fun q h => by rw [end_r] at h; cases h⟩)
      · skip
        refine nv_ifc hct false rfl (ccF1 T9.2.1 (show ((3 : Int32)).toInt = 3 from rfl) (by omega)) ?_
        refine nv_cut hct nvC 54 0 6 (S' := (d + 8, [(51, 199, [(2, .inl i), (0, .inr (.inr (some 1))), (1, .inl x)], [])], 54, 0, la 0 [.inr (.inr (some 1)), .inl (1 : Int32)], [], M1)) R1.1.1 rfl ?_
        refine nv_callv (c_blame hz R1.1 S1 (kn := 1) rfl (by decide)) (fun M4 ⟨g4, S4⟩ => ?_)
        have R4 : RdC t0 B lim M0 M4 (.inr e) := Rc_C R1 g4 S4
        refine nv_cut hct nvC 91 0 6 (S' := (d + 8, [(51, 206, [(2, .inl i), (0, .inr (.inr (some 1))), (1, .inl x)], [])], 91, 0, la 0 [.inr (.inr (some 2))], [], M4)) R4.1.1 rfl ?_
        refine nv_callv (c_adv hz R4.1 R4.2.1) (fun M5 ⟨g5, S5⟩ => ?_)
        have R5 : RdC t0 B lim M0 M5 (.inr e) := Rc_C R4 g5 S5
        refine nv_cut hct nvC 51 7 5 (S' := (d + 9, [], 51, 7, [(2, .inl (i + 1)), (0, .inr (.inr (some 1))), (1, .inl x)], [], M5)) R5.1.1 rfl ?_
        exact c_bad hz R5 (fun M' R' => ⟨_, rfl, rfl, by rw [end_r]; exact R', fun q h => by rw [end_r] at h; cases h⟩)
    | inl q =>
      have K1 := K1 q hm
      rw [hm] at R1
      have hpq := hge q hm
      obtain ⟨⟨hq, T1⟩, h131⟩ := Sc_p R1.2.1
      refine nv_if hct false rfl (zcF5 (show (a_I M1 1 13).toInt = 0 by rw [h131]; rfl) rfl) ?_
      refine nv_cut hct nvC 51 173 6 (S' := (d + 9, [], 51, 173, [(2, .inl i), (0, .inr (.inr (some 1))), (1, .inl x)], [.inl (a_I M1 2 4)], M1)) R1.1.1 rfl ?_
      by_cases k0 : knd B lim q = 0
      · skip
        rw [lns_n (f := f) hm (by omega)]
        refine nv_if hct false rfl (zcF5 T1.2.1 (by omega)) ?_
        refine nv_cut hct nvC 55 0 5 (S' := (d + 8, [(51, 180, [(2, .inl i), (0, .inr (.inr (some 1))), (1, .inl x)], [])], 55, 0, la 0 [.inr (.inr (some 1))], [], M1)) R1.1.1 rfl ?_
        refine nv_callv (c_lacks hz R1.1 R1.2.1 K1) (fun M4 ⟨g4, S4⟩ => ?_)
        have R4 := Rc_C R1 g4 S4
        refine nv_cut hct nvC 51 216 6 (S' := (d + 9, [], 51, 216, [(2, .inl i), (0, .inr (.inr (some 1))), (1, .inl x)], [.inl (a_I M4 1 13)], M4)) R4.1.1 rfl ?_
        exact nv_iret hct rfl rfl ⟨_, rfl, rfl, by rw [end_k k0]; exact R4, fun q e => KC_C R1.1.2.2.2.2 g4 K1⟩
      · skip
        refine nv_if hct true rfl (zcT5 T1.2.1 (by omega)) ?_
        refine nv_cut hct nvC 51 191 7 (S' := (d + 9, [], 51, 191, [(2, .inl i), (0, .inr (.inr (some 1))), (1, .inl x)], [.inl (3 : Int32), .inl (a_I M1 2 4)], M1)) R1.1.1 rfl ?_
        by_cases h3 : knd B lim q = 3
        · skip
          rw [lns_3 (f := f) hm h3]
          refine nv_ifc hct true rfl (ccT1 T1.2.1 (show ((3 : Int32)).toInt = 3 from rfl) (by omega)) ?_
          refine nv_cut hct nvC 91 0 6 (S' := (d + 8, [(51, 206, [(2, .inl i), (0, .inr (.inr (some 1))), (1, .inl x)], [])], 91, 0, la 0 [.inr (.inr (some 2))], [], M1)) R1.1.1 rfl ?_
          refine nv_callv (c_adv hz R1.1 R1.2.1) (fun M5 ⟨g5, S5⟩ => ?_)
          have R5 : RdC t0 B lim M0 M5 (.inl (nxt B lim q)) := Rc_C R1 g5 S5
          refine nv_cut hct nvC 51 7 5 (S' := (d + 9, [], 51, 7, [(2, .inl (i + 1)), (0, .inr (.inr (some 1))), (1, .inl x)], [], M5)) R5.1.1 rfl ?_
          have hgt := nxt_gt h3
          exact ih (j := j + 1) (by omega) (by omega) (by rw [add_p hi (by omega) (by omega)]; omega) R5 (KC_C R1.1.2.2.2.2 g5 K1) (lin_wf hwf)
        · skip
          rw [lns_n (f := f) hm h3]
          refine nv_ifc hct false rfl (ccF1 T1.2.1 (show ((3 : Int32)).toInt = 3 from rfl) (by omega)) ?_
          refine nv_cut hct nvC 54 0 6 (S' := (d + 8, [(51, 199, [(2, .inl i), (0, .inr (.inr (some 1))), (1, .inl x)], [])], 54, 0, la 0 [.inr (.inr (some 1)), .inl (1 : Int32)], [], M1)) R1.1.1 rfl ?_
          refine nv_callv (c_blame hz R1.1 R1.2.1 (kn := 1) rfl (by decide)) (fun M4 ⟨g4, S4⟩ => ?_)
          have R4 : RdC t0 B lim M0 M4 (.inr (1, skp B lim q)) := Rc_C R1 g4 S4
          refine nv_cut hct nvC 91 0 6 (S' := (d + 8, [(51, 206, [(2, .inl i), (0, .inr (.inr (some 1))), (1, .inl x)], [])], 91, 0, la 0 [.inr (.inr (some 2))], [], M4)) R4.1.1 rfl ?_
          refine nv_callv (c_adv hz R4.1 R4.2.1) (fun M5 ⟨g5, S5⟩ => ?_)
          have R5 : RdC t0 B lim M0 M5 (.inr (1, skp B lim q)) := Rc_C R4 g5 S5
          refine nv_cut hct nvC 51 7 5 (S' := (d + 9, [], 51, 7, [(2, .inl (i + 1)), (0, .inr (.inr (some 1))), (1, .inl x)], [], M5)) R5.1.1 rfl ?_
          exact c_bad hz R5 (fun M' R' => ⟨_, rfl, rfl, by rw [end_b k0]; exact R', fun q h => by rw [end_b k0] at h; cases h⟩)

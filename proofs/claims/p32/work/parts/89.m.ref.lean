/-! The lines of the reference, one after another: printed by wip/gen/refp8.py -/
def linM (B : Nat → Int) (lim : Nat) (L : lsT) (p : Nat) : pmd := bif isW B lim (txc 26) p then rod3 B lim L p else bif isW B lim (txc 30) p then lip4 B lim L p else bif isW B lim (txc 34) p then cst3 B lim L p else bif isW B lim (txc 37) p then way3 B lim L p else bif isW B lim (txc 38) p then had3 B lim L p else bif isW B lim (txc 39) p then frm8 B lim L p else bif isW B lim (txc 40) p then see1 B lim L p else .inr (1, skp B lim p)
def linL (B : Nat → Int) (lim : Nat) (L : lsT) (p : Nat) : lsT := bif isW B lim (txc 26) p then rodL B lim L p else bif isW B lim (txc 30) p then lipL L else bif isW B lim (txc 34) p then cstL L else bif isW B lim (txc 37) p then wayL B lim L p else bif isW B lim (txc 38) p then hadL L else bif isW B lim (txc 39) p then frmL B lim L p else bif isW B lim (txc 40) p then seeL B lim L p else L
def wfL (L : lsT) : Prop := (l_nm L).length = l_wy L + l_se L
theorem wf_nam {L : lsT} {x : Int × Int} (h : wfL L) : ((l_nm L) ++ [x]).length = l_wy L + l_se L + 1 := by rw [List.length_append, h]; rfl
theorem lin_wf {B : Nat → Int} {lim : Nat} {L : lsT} {p : Nat} (h : wfL L) : wfL (linL B lim L p) := by
  unfold linL
  cases isW B lim (txc 26) p with
  | true => exact h
  | false =>
    cases isW B lim (txc 30) p with
    | true => exact h
    | false =>
      cases isW B lim (txc 34) p with
      | true => exact h
      | false =>
        cases isW B lim (txc 37) p with
        | true =>
          show ((l_nm L) ++ [_]).length = l_wy L + 1 + l_se L
          rw [wf_nam h]; omega
        | false =>
          cases isW B lim (txc 38) p with
          | true => exact h
          | false =>
            cases isW B lim (txc 39) p with
            | true => exact h
            | false =>
              cases isW B lim (txc 40) p with
              | true =>
                show ((l_nm L) ++ [_]).length = l_wy L + (l_se L + 1)
                rw [wf_nam h]; omega
              | false => exact h
/-- a reading goes on -/
def le_m (p : Nat) (m : pmd) : Prop := ∀ q, m = .inl q → p ≤ q
theorem lm_0 {p : Nat} : le_m p (.inl p) := fun q e => by cases e; exact Nat.le_refl _
theorem nxt_ge {B : Nat → Int} {lim p : Nat} : p ≤ nxt B lim p := by
  have h1 : p ≤ skp B lim p := fwd_ge
  unfold nxt
  cases isLt (gt9 B lim (skp B lim p)) with
  | true => exact Nat.le_trans h1 fwd_ge
  | false =>
    cases isDg (gt9 B lim (skp B lim p)) with
    | true => exact Nat.le_trans h1 fwd_ge
    | false =>
      simp only [cond_false]
      split <;> omega
theorem lm_adv {B : Nat → Int} {lim p : Nat} {m : pmd} (h : le_m p m) : le_m p (m_adv B lim m) := fun q e => by
  rcases m with r | f
  · cases e
    exact Nat.le_trans (h r rfl) nxt_ge
  · cases e
theorem lm_if {B : Nat → Int} {lim p k : Nat} {c : Bool} {m : pmd} (h : le_m p m) : le_m p (m_if B lim k c m) := fun q e => h q (if_inl e).1
theorem lm_wd {B : Nat → Int} {lim p : Nat} {w : List Nat} {m : pmd} (h : le_m p m) : le_m p (m_wd B lim w m) := lm_adv (lm_if h)
theorem lm_wh {B : Nat → Int} {lim p : Nat} {lo hi : Int} {m : pmd} (h : le_m p m) : le_m p (m_wh B lim lo hi m) := fun q e => by
  obtain ⟨r, hr⟩ := adv_inl (show m_adv B lim (m_w1 B lim lo hi m) = .inl q from e)
  have := (w1_inl hr).1
  subst this
  have e : m_adv B lim (m_w1 B lim lo hi (.inl r)) = .inl q := e
  rw [hr] at e
  exact lm_adv (m := .inl r) h q e
theorem lm_pt {B : Nat → Int} {lim p : Nat} {w : List Nat} {lo hi : Int} {m : pmd} (h : le_m p m) : le_m p (m_pt B lim w lo hi m) := lm_wh (lm_wd h)
theorem lm_eat {B : Nat → Int} {lim p : Nat} {w : List Nat} {m : pmd} (h : le_m p m) : le_m p (m_eat B lim w m) := by
  unfold m_eat
  cases m_is B lim w m with
  | true => exact lm_adv h
  | false => exact h
theorem lm_nam {B : Nat → Int} {lim : Nat} {L : lsT} {p : Nat} {full : Bool} : le_m p (nam3 B lim L p full) := lm_adv (lm_if (lm_if (lm_adv (lm_if lm_0))))
theorem lin_ge {B : Nat → Int} {lim : Nat} {L : lsT} {p : Nat} : le_m p (linM B lim L p) := by
  unfold linM
  cases isW B lim (txc 26) p with
  | true => exact lm_pt (lm_pt (lm_pt (lm_adv (lm_if lm_0))))
  | false =>
    cases isW B lim (txc 30) p with
    | true => exact lm_pt (lm_pt (lm_pt (lm_wh (lm_adv (lm_if lm_0)))))
    | false =>
      cases isW B lim (txc 34) p with
      | true => exact lm_pt (lm_pt (lm_pt (lm_adv (lm_if lm_0))))
      | false =>
        cases isW B lim (txc 37) p with
        | true => exact lm_pt (lm_pt (lm_pt lm_nam))
        | false =>
          cases isW B lim (txc 38) p with
          | true => exact lm_adv (lm_if (lm_pt (lm_wh (lm_adv (lm_if lm_0)))))
          | false =>
            cases isW B lim (txc 39) p with
            | true => exact lm_eat (lm_eat (lm_adv (lm_if (lm_if (lm_wd (lm_pt (lm_wh (lm_adv (lm_if lm_0)))))))))
            | false =>
              cases isW B lim (txc 40) p with
              | true => exact lm_pt lm_nam
              | false => exact fun q e => by cases e
theorem nxt_gt {B : Nat → Int} {lim p : Nat} (h : knd B lim p = 3) : p < nxt B lim p := by
  have h1 : p ≤ skp B lim p := fwd_ge
  unfold knd at h
  unfold nxt
  cases hb : isLt (gt9 B lim (skp B lim p)) with
  | true => rw [hb] at h; simp only [cond_true] at h; split at h <;> cases h
  | false =>
    rw [hb] at h
    simp only [cond_false] at h
    cases hd : isDg (gt9 B lim (skp B lim p)) with
    | true => rw [hd] at h; simp only [cond_true] at h; split at h <;> cases h
    | false =>
      rw [hd] at h
      simp only [cond_false] at h ⊢
      split at h
      · cases h
      · rename_i hc
        rw [if_neg hc]
        omega
def lnsF (B : Nat → Int) (lim : Nat) : Nat → lsT → Nat → pmd × lsT
  | 0, L, p => (.inl p, L)
  | f + 1, L, p => match linM B lim L p with
    | .inr e => (.inr e, linL B lim L p)
    | .inl q => bif Nat.beq (knd B lim q) 3 then lnsF B lim f (linL B lim L p) (nxt B lim q) else (.inl q, linL B lim L p)
theorem lns_s {B : Nat → Int} {lim f : Nat} {L : lsT} {p : Nat} : lnsF B lim (f + 1) L p = (match linM B lim L p with
    | Sum.inr e => (Sum.inr e, linL B lim L p)
    | Sum.inl q => bif Nat.beq (knd B lim q) 3 then lnsF B lim f (linL B lim L p) (nxt B lim q) else (Sum.inl q, linL B lim L p)) := rfl
theorem lns_3 {B : Nat → Int} {lim f : Nat} {L : lsT} {p q : Nat} (hm : linM B lim L p = .inl q) (h3 : knd B lim q = 3) : lnsF B lim (f + 1) L p = lnsF B lim f (linL B lim L p) (nxt B lim q) := by
  rw [lns_s, hm]
  show (bif Nat.beq (knd B lim q) 3 then _ else _) = _
  rw [h3]
  rfl
theorem lns_n {B : Nat → Int} {lim f : Nat} {L : lsT} {p q : Nat} (hm : linM B lim L p = .inl q) (h3 : ¬ knd B lim q = 3) : lnsF B lim (f + 1) L p = (.inl q, linL B lim L p) := by
  rw [lns_s, hm]
  show (bif Nat.beq (knd B lim q) 3 then _ else _) = _
  rw [nbF h3]
  rfl
theorem lns_r {B : Nat → Int} {lim f : Nat} {L : lsT} {p : Nat} {e : Nat × Nat} (hm : linM B lim L p = .inr e) : lnsF B lim (f + 1) L p = (.inr e, linL B lim L p) := by
  rw [lns_s, hm]
def m_end (B : Nat → Int) (lim : Nat) (m : pmd) : Bool := match m with
  | .inl q => Nat.beq (knd B lim q) 0
  | .inr _ => false
def lacks (L : lsT) : Bool := decide (l_in L = 0) || (!l_lp L || (!l_co L || (decide (l_fr L = 0) || !decide (l_f0 L = 0))))
def endM (B : Nat → Int) (lim : Nat) (m : pmd) (L : lsT) : pmd := m_if B lim 6 (lacks L) (m_if B lim 1 (!m_end B lim m) m)
set_option maxHeartbeats 4000000 in
theorem r_line {cd : Nat → Nat → Option aI} {z : Bool} (hz : ∀ m p i, cd0 z m p = some i → cd m p = some i) {n0 : Nat} {B : Nat → Int} {lim : Nat} {M0 M : aM} {L : lsT} {p : Nat} (R : RdR n0 B lim M0 M (.inl p) L) (hwf : wfL L) {d : Nat} : wpS cd (d + 10, [], 171, 0, nv_l (tauN n0) (la 0 [.inr (.inr (some 113))]), [], M) (fun r M' => r = none ∧ RdF n0 B lim M0 M' (linM B lim L p) (linL B lim L p)) := by
  show wpS cd (nv_S (tauN n0) (d + 10, [], 171, 0, la 0 [.inr (.inr (some 113))], [], M)) _
  have hct := hc_of hz
  unfold linM linL
  refine nv_cut hct nvR 165 0 6 (S' := (d + 9, [(171, 6, [(0, .inr (.inr (some 113)))], [])], 165, 0, la 0 [.inr (.inr (some 113)), .inr (.inr (some (aSB + 26)))], [], M)) R.1.1 rfl ?_
  refine nv_calli (r_isWord hz R.1 R.2.1 (k := 26) (by decide)) (fun x0 M0_ ⟨e0, hx0⟩ => ?_)
  subst e0
  have hx0 : x0 = bif isW B lim (txc 26) p then 1 else 0 := hx0
  refine nv_cut hct nvR 171 6 3 (S' := (d + 10, [], 171, 6, [(0, .inr (.inr (some 113)))], [.inl x0], M0_)) R.1.1 rfl ?_
  cases hc0 : isW B lim (txc 26) p with
  | true =>
    have hk : knd B lim p = 1 := nbT ((Bool.and_eq_true _ _).mp hc0).1
    refine nv_if hct false rfl (zcF1 (show x0.toInt = 1 by rw [hx0, hc0]; rfl) (by decide)) ?_
    refine nv_cut hct nvR 172 0 5 (S' := (d + 9, [(171, 13, [(0, .inr (.inr (some 113)))], [])], 172, 0, la 0 [.inr (.inr (some 113))], [], M0_)) R.1.1 rfl ?_
    refine nv_callv (r_rod hz R hk) (fun M1 R1 => ?_)
    refine nv_cut hct nvR 171 117 4 (S' := (d + 10, [], 171, 117, [(0, .inr (.inr (some 113)))], [], M1)) R1.1.1 rfl ?_
    exact nv_vret hct rfl ⟨rfl, R1⟩
  | false =>
    refine nv_if hct true rfl (zcT1 (show x0.toInt = 0 by rw [hx0, hc0]; rfl) rfl) ?_
    refine nv_cut hct nvR 165 0 6 (S' := (d + 9, [(171, 22, [(0, .inr (.inr (some 113)))], [])], 165, 0, la 0 [.inr (.inr (some 113)), .inr (.inr (some (aSB + 30)))], [], M0_)) R.1.1 rfl ?_
    refine nv_calli (r_isWord hz R.1 R.2.1 (k := 30) (by decide)) (fun x1 M1_ ⟨e1, hx1⟩ => ?_)
    subst e1
    have hx1 : x1 = bif isW B lim (txc 30) p then 1 else 0 := hx1
    refine nv_cut hct nvR 171 22 3 (S' := (d + 10, [], 171, 22, [(0, .inr (.inr (some 113)))], [.inl x1], M1_)) R.1.1 rfl ?_
    cases hc1 : isW B lim (txc 30) p with
    | true =>
      have hk : knd B lim p = 1 := nbT ((Bool.and_eq_true _ _).mp hc1).1
      refine nv_if hct false rfl (zcF1 (show x1.toInt = 1 by rw [hx1, hc1]; rfl) (by decide)) ?_
      refine nv_cut hct nvR 173 0 5 (S' := (d + 9, [(171, 29, [(0, .inr (.inr (some 113)))], [])], 173, 0, la 0 [.inr (.inr (some 113))], [], M1_)) R.1.1 rfl ?_
      refine nv_callv (r_lip hz R hk) (fun M1 R1 => ?_)
      refine nv_cut hct nvR 171 117 4 (S' := (d + 10, [], 171, 117, [(0, .inr (.inr (some 113)))], [], M1)) R1.1.1 rfl ?_
      exact nv_vret hct rfl ⟨rfl, R1⟩
    | false =>
      refine nv_if hct true rfl (zcT1 (show x1.toInt = 0 by rw [hx1, hc1]; rfl) rfl) ?_
      refine nv_cut hct nvR 165 0 6 (S' := (d + 9, [(171, 38, [(0, .inr (.inr (some 113)))], [])], 165, 0, la 0 [.inr (.inr (some 113)), .inr (.inr (some (aSB + 34)))], [], M1_)) R.1.1 rfl ?_
      refine nv_calli (r_isWord hz R.1 R.2.1 (k := 34) (by decide)) (fun x2 M2_ ⟨e2, hx2⟩ => ?_)
      subst e2
      have hx2 : x2 = bif isW B lim (txc 34) p then 1 else 0 := hx2
      refine nv_cut hct nvR 171 38 3 (S' := (d + 10, [], 171, 38, [(0, .inr (.inr (some 113)))], [.inl x2], M2_)) R.1.1 rfl ?_
      cases hc2 : isW B lim (txc 34) p with
      | true =>
        have hk : knd B lim p = 1 := nbT ((Bool.and_eq_true _ _).mp hc2).1
        refine nv_if hct false rfl (zcF1 (show x2.toInt = 1 by rw [hx2, hc2]; rfl) (by decide)) ?_
        refine nv_cut hct nvR 174 0 5 (S' := (d + 9, [(171, 45, [(0, .inr (.inr (some 113)))], [])], 174, 0, la 0 [.inr (.inr (some 113))], [], M2_)) R.1.1 rfl ?_
        refine nv_callv (r_cst hz R hk) (fun M1 R1 => ?_)
        refine nv_cut hct nvR 171 117 4 (S' := (d + 10, [], 171, 117, [(0, .inr (.inr (some 113)))], [], M1)) R1.1.1 rfl ?_
        exact nv_vret hct rfl ⟨rfl, R1⟩
      | false =>
        refine nv_if hct true rfl (zcT1 (show x2.toInt = 0 by rw [hx2, hc2]; rfl) rfl) ?_
        refine nv_cut hct nvR 165 0 6 (S' := (d + 9, [(171, 54, [(0, .inr (.inr (some 113)))], [])], 165, 0, la 0 [.inr (.inr (some 113)), .inr (.inr (some (aSB + 37)))], [], M2_)) R.1.1 rfl ?_
        refine nv_calli (r_isWord hz R.1 R.2.1 (k := 37) (by decide)) (fun x3 M3_ ⟨e3, hx3⟩ => ?_)
        subst e3
        have hx3 : x3 = bif isW B lim (txc 37) p then 1 else 0 := hx3
        refine nv_cut hct nvR 171 54 3 (S' := (d + 10, [], 171, 54, [(0, .inr (.inr (some 113)))], [.inl x3], M3_)) R.1.1 rfl ?_
        cases hc3 : isW B lim (txc 37) p with
        | true =>
          have hk : knd B lim p = 1 := nbT ((Bool.and_eq_true _ _).mp hc3).1
          refine nv_if hct false rfl (zcF1 (show x3.toInt = 1 by rw [hx3, hc3]; rfl) (by decide)) ?_
          refine nv_cut hct nvR 176 0 5 (S' := (d + 9, [(171, 61, [(0, .inr (.inr (some 113)))], [])], 176, 0, la 0 [.inr (.inr (some 113))], [], M3_)) R.1.1 rfl ?_
          refine nv_callv (r_way hz R hk hwf) (fun M1 R1 => ?_)
          refine nv_cut hct nvR 171 117 4 (S' := (d + 10, [], 171, 117, [(0, .inr (.inr (some 113)))], [], M1)) R1.1.1 rfl ?_
          exact nv_vret hct rfl ⟨rfl, R1⟩
        | false =>
          refine nv_if hct true rfl (zcT1 (show x3.toInt = 0 by rw [hx3, hc3]; rfl) rfl) ?_
          refine nv_cut hct nvR 165 0 6 (S' := (d + 9, [(171, 70, [(0, .inr (.inr (some 113)))], [])], 165, 0, la 0 [.inr (.inr (some 113)), .inr (.inr (some (aSB + 38)))], [], M3_)) R.1.1 rfl ?_
          refine nv_calli (r_isWord hz R.1 R.2.1 (k := 38) (by decide)) (fun x4 M4_ ⟨e4, hx4⟩ => ?_)
          subst e4
          have hx4 : x4 = bif isW B lim (txc 38) p then 1 else 0 := hx4
          refine nv_cut hct nvR 171 70 3 (S' := (d + 10, [], 171, 70, [(0, .inr (.inr (some 113)))], [.inl x4], M4_)) R.1.1 rfl ?_
          cases hc4 : isW B lim (txc 38) p with
          | true =>
            have hk : knd B lim p = 1 := nbT ((Bool.and_eq_true _ _).mp hc4).1
            refine nv_if hct false rfl (zcF1 (show x4.toInt = 1 by rw [hx4, hc4]; rfl) (by decide)) ?_
            refine nv_cut hct nvR 177 0 5 (S' := (d + 9, [(171, 77, [(0, .inr (.inr (some 113)))], [])], 177, 0, la 0 [.inr (.inr (some 113))], [], M4_)) R.1.1 rfl ?_
            refine nv_callv (r_had hz R hk) (fun M1 R1 => ?_)
            refine nv_cut hct nvR 171 117 4 (S' := (d + 10, [], 171, 117, [(0, .inr (.inr (some 113)))], [], M1)) R1.1.1 rfl ?_
            exact nv_vret hct rfl ⟨rfl, R1⟩
          | false =>
            refine nv_if hct true rfl (zcT1 (show x4.toInt = 0 by rw [hx4, hc4]; rfl) rfl) ?_
            refine nv_cut hct nvR 165 0 6 (S' := (d + 9, [(171, 86, [(0, .inr (.inr (some 113)))], [])], 165, 0, la 0 [.inr (.inr (some 113)), .inr (.inr (some (aSB + 39)))], [], M4_)) R.1.1 rfl ?_
            refine nv_calli (r_isWord hz R.1 R.2.1 (k := 39) (by decide)) (fun x5 M5_ ⟨e5, hx5⟩ => ?_)
            subst e5
            have hx5 : x5 = bif isW B lim (txc 39) p then 1 else 0 := hx5
            refine nv_cut hct nvR 171 86 3 (S' := (d + 10, [], 171, 86, [(0, .inr (.inr (some 113)))], [.inl x5], M5_)) R.1.1 rfl ?_
            cases hc5 : isW B lim (txc 39) p with
            | true =>
              have hk : knd B lim p = 1 := nbT ((Bool.and_eq_true _ _).mp hc5).1
              refine nv_if hct false rfl (zcF1 (show x5.toInt = 1 by rw [hx5, hc5]; rfl) (by decide)) ?_
              refine nv_cut hct nvR 178 0 5 (S' := (d + 9, [(171, 93, [(0, .inr (.inr (some 113)))], [])], 178, 0, la 0 [.inr (.inr (some 113))], [], M5_)) R.1.1 rfl ?_
              refine nv_callv (r_frm hz R hk) (fun M1 R1 => ?_)
              refine nv_cut hct nvR 171 117 4 (S' := (d + 10, [], 171, 117, [(0, .inr (.inr (some 113)))], [], M1)) R1.1.1 rfl ?_
              exact nv_vret hct rfl ⟨rfl, R1⟩
            | false =>
              refine nv_if hct true rfl (zcT1 (show x5.toInt = 0 by rw [hx5, hc5]; rfl) rfl) ?_
              refine nv_cut hct nvR 165 0 6 (S' := (d + 9, [(171, 102, [(0, .inr (.inr (some 113)))], [])], 165, 0, la 0 [.inr (.inr (some 113)), .inr (.inr (some (aSB + 40)))], [], M5_)) R.1.1 rfl ?_
              refine nv_calli (r_isWord hz R.1 R.2.1 (k := 40) (by decide)) (fun x6 M6_ ⟨e6, hx6⟩ => ?_)
              subst e6
              have hx6 : x6 = bif isW B lim (txc 40) p then 1 else 0 := hx6
              refine nv_cut hct nvR 171 102 3 (S' := (d + 10, [], 171, 102, [(0, .inr (.inr (some 113)))], [.inl x6], M6_)) R.1.1 rfl ?_
              cases hc6 : isW B lim (txc 40) p with
              | true =>
                have hk : knd B lim p = 1 := nbT ((Bool.and_eq_true _ _).mp hc6).1
                refine nv_if hct false rfl (zcF1 (show x6.toInt = 1 by rw [hx6, hc6]; rfl) (by decide)) ?_
                refine nv_cut hct nvR 179 0 5 (S' := (d + 9, [(171, 109, [(0, .inr (.inr (some 113)))], [])], 179, 0, la 0 [.inr (.inr (some 113))], [], M6_)) R.1.1 rfl ?_
                refine nv_callv (r_see hz R hk hwf) (fun M1 R1 => ?_)
                refine nv_cut hct nvR 171 117 4 (S' := (d + 10, [], 171, 117, [(0, .inr (.inr (some 113)))], [], M1)) R1.1.1 rfl ?_
                exact nv_vret hct rfl ⟨rfl, R1⟩
              | false =>
                refine nv_if hct true rfl (zcT1 (show x6.toInt = 0 by rw [hx6, hc6]; rfl) rfl) ?_
                refine nv_cut hct nvR 163 0 6 (S' := (d + 9, [(171, 117, [(0, .inr (.inr (some 113)))], [])], 163, 0, la 0 [.inr (.inr (some 113)), .inl (1 : Int32)], [], M6_)) R.1.1 rfl ?_
                refine nv_callv (r_wrong hz R.1 R.2.1 (kn := 1) rfl (by decide)) (fun M1 ⟨f1, S1⟩ => ?_)
                have R1 := Rd_x R f1 S1
                refine nv_cut hct nvR 171 117 3 (S' := (d + 10, [], 171, 117, [(0, .inr (.inr (some 113)))], [], M1)) R1.1.1 rfl ?_
                exact nv_vret hct rfl ⟨rfl, Rd_F R1⟩
set_option maxHeartbeats 4000000 in
theorem r_lines {cd : Nat → Nat → Option aI} {z : Bool} (hz : ∀ m p i, cd0 z m p = some i → cd m p = some i) {n0 : Nat} {B : Nat → Int} {lim : Nat} {M0 : aM} {d : Nat} {Q : aQ} : ∀ (f : Nat) {p : Nat} {L : lsT} {M : aM}, 701 - p ≤ f → RdR n0 B lim M0 M (.inl p) L → wfL L → (∀ M', RdF n0 B lim M0 M' (lnsF B lim f L p).1 (lnsF B lim f L p).2 → wpS cd (nv_S (tauN n0) (d + 11, [], 170, 44, [(1, .inl (0 : Int32)), (0, .inr (.inr (some 113)))], [], M')) Q) → wpS cd (nv_S (tauN n0) (d + 11, [], 170, 2, [(1, .inl (1 : Int32)), (0, .inr (.inr (some 113)))], [], M)) Q := by
  have hct := hc_of hz
  intro f
  induction f with
  | zero =>
    intro p L M hf R
    have h1 := R.2.1.1
    have h2 := R.1.2.2.2.1
    omega
  | succ f ih =>
    intro p L M hf R hwf h
    refine nv_cut hct nvR 171 0 7 (S' := (d + 10, [(170, 10, [(1, .inl (1 : Int32)), (0, .inr (.inr (some 113)))], [])], 171, 0, la 0 [.inr (.inr (some 113))], [], M)) R.1.1 rfl ?_
    refine nv_callv (r_line hz R hwf) (fun M1 R1 => ?_)
    refine nv_cut hct nvR 170 15 6 (S' := (d + 11, [], 170, 15, [(1, .inl (1 : Int32)), (0, .inr (.inr (some 113)))], [.inl (4 : Int32), .inl (a_I M1 113 9)], M1)) R1.1.1 rfl ?_
    have hge := lin_ge (B := B) (lim := lim) (L := L) (p := p)
    cases hm : linM B lim L p with
    | inr e =>
      have hl := lns_r (f := f) hm
      rw [hm] at R1
      refine nv_ifc hct true rfl (ccT5 rfl (show ((4 : Int32)).toInt = 4 from rfl) (by rw [R1.2.1.1]; decide)) ?_
      refine nv_cut hct nvR 170 44 9 (S' := (d + 11, [], 170, 44, [(1, .inl (0 : Int32)), (0, .inr (.inr (some 113)))], [], M1)) R1.1.1 rfl ?_
      exact h M1 (by rw [hl]; exact R1)
    | inl q =>
      rw [hm] at R1
      have hpq := hge q hm
      by_cases h3 : knd B lim q = 3
      · skip
        have hl := lns_3 (f := f) hm h3
        obtain ⟨s4, s5⟩ := (St_s R1.2.1).2.2.2.mpr h3
        refine nv_ifc hct false rfl (ccF5 s4 (show ((4 : Int32)).toInt = 4 from rfl) rfl) ?_
        refine nv_cut hct nvR 170 24 6 (S' := (d + 11, [], 170, 24, [(1, .inl (1 : Int32)), (0, .inr (.inr (some 113)))], [.inl (59 : Int32), .inl (a_I M1 113 11)], M1)) R1.1.1 rfl ?_
        refine nv_ifc hct false rfl (ccF5 s5 (show ((59 : Int32)).toInt = 59 from rfl) rfl) ?_
        refine nv_cut hct nvR 162 0 10 (S' := (d + 10, [(170, 41, [(1, .inl (1 : Int32)), (0, .inr (.inr (some 113)))], [])], 162, 0, la 0 [.inr (.inr (some 113))], [], M1)) R1.1.1 rfl ?_
        refine nv_callv (r_adv hz R1.1 R1.2.1 (fun r e => by cases e; exact Or.inr (Or.inr h3))) (fun M2 ⟨f2, S2⟩ => ?_)
        have R2 : RdF n0 B lim M0 M2 (.inl (nxt B lim q)) (linL B lim L p) := Rf_x R1 f2 S2 (fun r e => ⟨q, rfl⟩)
        refine nv_cut hct nvR 170 2 4 (S' := (d + 11, [], 170, 2, [(1, .inl (1 : Int32)), (0, .inr (.inr (some 113)))], [], M2)) R2.1.1 rfl ?_
        obtain ⟨l1, l2, l3⟩ := R2.2.2.2 _ rfl
        have hgt := nxt_gt h3
        exact ih (by omega) ⟨R2.1, R2.2.1, R2.2.2.1, l1, l2, l3⟩ (lin_wf hwf) (fun M' R' => h M' (by rw [hl]; exact R'))
      · skip
        have hl := lns_n (f := f) hm h3
        have hs := (St_s R1.2.1).2.2.2
        by_cases s4 : (a_I M1 113 9).toInt = 4
        · skip
          refine nv_ifc hct false rfl (ccF5 s4 (show ((4 : Int32)).toInt = 4 from rfl) rfl) ?_
          refine nv_cut hct nvR 170 24 6 (S' := (d + 11, [], 170, 24, [(1, .inl (1 : Int32)), (0, .inr (.inr (some 113)))], [.inl (59 : Int32), .inl (a_I M1 113 11)], M1)) R1.1.1 rfl ?_
          refine nv_ifc hct true rfl (ccT5 rfl (show ((59 : Int32)).toInt = 59 from rfl) (fun e => h3 (hs.mp ⟨s4, e⟩))) ?_
          refine nv_cut hct nvR 170 44 9 (S' := (d + 11, [], 170, 44, [(1, .inl (0 : Int32)), (0, .inr (.inr (some 113)))], [], M1)) R1.1.1 rfl ?_
          exact h M1 (by rw [hl]; exact R1)
        · skip
          refine nv_ifc hct true rfl (ccT5 rfl (show ((4 : Int32)).toInt = 4 from rfl) s4) ?_
          refine nv_cut hct nvR 170 44 9 (S' := (d + 11, [], 170, 44, [(1, .inl (0 : Int32)), (0, .inr (.inr (some 113)))], [], M1)) R1.1.1 rfl ?_
          exact h M1 (by rw [hl]; exact R1)
set_option maxHeartbeats 4000000 in
theorem r_readShop {cd : Nat → Nat → Option aI} {z : Bool} (hz : ∀ m p i, cd0 z m p = some i → cd m p = some i) {n0 : Nat} {B : Nat → Int} {lim : Nat} {M0 M : aM} {L : lsT} {p : Nat} (R : RdR n0 B lim M0 M (.inl p) L) (hwf : wfL L) {d : Nat} : wpS cd (d + 11, [], 170, 0, nv_l (tauN n0) (la 0 [.inr (.inr (some 113))]), [], M) (fun r M' => r = none ∧ RdF n0 B lim M0 M' (endM B lim (lnsF B lim 701 L p).1 (lnsF B lim 701 L p).2) (lnsF B lim 701 L p).2) := by
  show wpS cd (nv_S (tauN n0) (d + 11, [], 170, 0, la 0 [.inr (.inr (some 113))], [], M)) _
  have hct := hc_of hz
  refine nv_cut hct nvR 170 2 5 (S' := (d + 11, [], 170, 2, [(1, .inl (1 : Int32)), (0, .inr (.inr (some 113)))], [], M)) R.1.1 rfl ?_
  refine r_lines hz 701 (by omega) R hwf (fun M1 R1 => ?_)
  generalize lnsF B lim 701 L p = ml at R1 ⊢
  obtain ⟨m, L1⟩ := ml
  simp only at R1 ⊢
  have key : ∀ M2, RdF n0 B lim M0 M2 (m_if B lim 1 (!m_end B lim m) m) L1 → wpS cd (nv_S (tauN n0) (d + 11, [], 170, 57, [(1, .inl (0 : Int32)), (0, .inr (.inr (some 113)))], [], M2)) (fun r M' => r = none ∧ RdF n0 B lim M0 M' (endM B lim m L1) L1) := by
    intro M2 R2
    unfold endM
    cases hm : m_if B lim 1 (!m_end B lim m) m with
    | inr f =>
      rw [hm] at R2
      have hr : m_if B lim 6 (lacks L1) (.inr f) = .inr f := by unfold m_if; cases lacks L1 <;> rfl
      refine nv_cut hct nvR 170 64 6 (S' := (d + 11, [], 170, 64, [(1, .inl (0 : Int32)), (0, .inr (.inr (some 113)))], [.inl (a_I M2 n0 0)], M2)) R2.1.1 rfl ?_
      by_cases c0 : ((a_I M2 n0 0)).toInt = 0
      · skip
        refine nv_if hct true rfl (zcT1 rfl c0) ?_
        refine nv_cut hct nvR 163 0 6 (S' := (d + 10, [(170, 116, [(1, .inl (0 : Int32)), (0, .inr (.inr (some 113)))], [])], 163, 0, la 0 [.inr (.inr (some 113)), .inl (6 : Int32)], [], M2)) R2.1.1 rfl ?_
        refine nv_callv (r_wrong hz R2.1 R2.2.1 (kn := 6) rfl (by decide)) (fun M3 ⟨f3, S3⟩ => ?_)
        have R3 := Rf_x (m' := m_bad B lim 6 (.inr f)) R2 f3 S3 (fun r e => by cases e)
        refine nv_cut hct nvR 170 116 3 (S' := (d + 11, [], 170, 116, [(1, .inl (0 : Int32)), (0, .inr (.inr (some 113)))], [], M3)) R3.1.1 rfl ?_
        exact nv_vret hct rfl ⟨rfl, by rw [hr]; exact R3⟩
      · skip
        refine nv_if hct false rfl (zcF1 rfl c0) ?_
        refine nv_cut hct nvR 170 74 6 (S' := (d + 11, [], 170, 74, [(1, .inl (0 : Int32)), (0, .inr (.inr (some 113)))], [.inl (a_I M2 n0 3)], M2)) R2.1.1 rfl ?_
        by_cases c1 : ((a_I M2 n0 3)).toInt = 0
        · skip
          refine nv_if hct true rfl (zcT1 rfl c1) ?_
          refine nv_cut hct nvR 163 0 6 (S' := (d + 10, [(170, 116, [(1, .inl (0 : Int32)), (0, .inr (.inr (some 113)))], [])], 163, 0, la 0 [.inr (.inr (some 113)), .inl (6 : Int32)], [], M2)) R2.1.1 rfl ?_
          refine nv_callv (r_wrong hz R2.1 R2.2.1 (kn := 6) rfl (by decide)) (fun M3 ⟨f3, S3⟩ => ?_)
          have R3 := Rf_x (m' := m_bad B lim 6 (.inr f)) R2 f3 S3 (fun r e => by cases e)
          refine nv_cut hct nvR 170 116 3 (S' := (d + 11, [], 170, 116, [(1, .inl (0 : Int32)), (0, .inr (.inr (some 113)))], [], M3)) R3.1.1 rfl ?_
          exact nv_vret hct rfl ⟨rfl, by rw [hr]; exact R3⟩
        · skip
          refine nv_if hct false rfl (zcF1 rfl c1) ?_
          refine nv_cut hct nvR 170 85 7 (S' := (d + 11, [], 170, 85, [(1, .inl (0 : Int32)), (0, .inr (.inr (some 113)))], [.inl (-1 : Int32), .inl (a_I M2 n0 7)], M2)) R2.1.1 rfl ?_
          by_cases c2 : ((a_I M2 n0 7)).toInt = -1
          · skip
            refine nv_ifc hct true rfl (ccT1 rfl (show ((-1 : Int32)).toInt = -1 from rfl) c2) ?_
            refine nv_cut hct nvR 163 0 6 (S' := (d + 10, [(170, 116, [(1, .inl (0 : Int32)), (0, .inr (.inr (some 113)))], [])], 163, 0, la 0 [.inr (.inr (some 113)), .inl (6 : Int32)], [], M2)) R2.1.1 rfl ?_
            refine nv_callv (r_wrong hz R2.1 R2.2.1 (kn := 6) rfl (by decide)) (fun M3 ⟨f3, S3⟩ => ?_)
            have R3 := Rf_x (m' := m_bad B lim 6 (.inr f)) R2 f3 S3 (fun r e => by cases e)
            refine nv_cut hct nvR 170 116 3 (S' := (d + 11, [], 170, 116, [(1, .inl (0 : Int32)), (0, .inr (.inr (some 113)))], [], M3)) R3.1.1 rfl ?_
            exact nv_vret hct rfl ⟨rfl, by rw [hr]; exact R3⟩
          · skip
            refine nv_ifc hct false rfl (ccF1 rfl (show ((-1 : Int32)).toInt = -1 from rfl) c2) ?_
            refine nv_cut hct nvR 170 95 6 (S' := (d + 11, [], 170, 95, [(1, .inl (0 : Int32)), (0, .inr (.inr (some 113)))], [.inl (a_I M2 n0 12)], M2)) R2.1.1 rfl ?_
            by_cases c3 : ((a_I M2 n0 12)).toInt = 0
            · skip
              refine nv_if hct true rfl (zcT1 rfl c3) ?_
              refine nv_cut hct nvR 163 0 6 (S' := (d + 10, [(170, 116, [(1, .inl (0 : Int32)), (0, .inr (.inr (some 113)))], [])], 163, 0, la 0 [.inr (.inr (some 113)), .inl (6 : Int32)], [], M2)) R2.1.1 rfl ?_
              refine nv_callv (r_wrong hz R2.1 R2.2.1 (kn := 6) rfl (by decide)) (fun M3 ⟨f3, S3⟩ => ?_)
              have R3 := Rf_x (m' := m_bad B lim 6 (.inr f)) R2 f3 S3 (fun r e => by cases e)
              refine nv_cut hct nvR 170 116 3 (S' := (d + 11, [], 170, 116, [(1, .inl (0 : Int32)), (0, .inr (.inr (some 113)))], [], M3)) R3.1.1 rfl ?_
              exact nv_vret hct rfl ⟨rfl, by rw [hr]; exact R3⟩
            · skip
              refine nv_if hct false rfl (zcF1 rfl c3) ?_
              refine nv_cut hct nvR 170 106 7 (S' := (d + 11, [], 170, 106, [(1, .inl (0 : Int32)), (0, .inr (.inr (some 113)))], [.inl (0 : Int32), .inr (.inr (some 145))], M2)) R2.1.1 rfl ?_
              refine nv_ald hct R2.1.1 rfl (show nvR.1 145 = 15 + 1 from rfl) (show nvR.2.1 145 = 8 + 1 from rfl) rfl ?_
              by_cases c4 : ((a_I M2 (n0 + 8) (0 : Int32).toNatClampNeg)).toInt = 0
              · skip
                refine nv_if hct true rfl (zcT1 rfl c4) ?_
                exact nv_vret hct rfl ⟨rfl, by rw [hr]; exact R2⟩
              · skip
                refine nv_if hct false rfl (zcF1 rfl c4) ?_
                refine nv_cut hct nvR 163 0 6 (S' := (d + 10, [(170, 116, [(1, .inl (0 : Int32)), (0, .inr (.inr (some 113)))], [])], 163, 0, la 0 [.inr (.inr (some 113)), .inl (6 : Int32)], [], M2)) R2.1.1 rfl ?_
                refine nv_callv (r_wrong hz R2.1 R2.2.1 (kn := 6) rfl (by decide)) (fun M3 ⟨f3, S3⟩ => ?_)
                have R3 := Rf_x (m' := m_bad B lim 6 (.inr f)) R2 f3 S3 (fun r e => by cases e)
                refine nv_cut hct nvR 170 116 3 (S' := (d + 11, [], 170, 116, [(1, .inl (0 : Int32)), (0, .inr (.inr (some 113)))], [], M3)) R3.1.1 rfl ?_
                exact nv_vret hct rfl ⟨rfl, by rw [hr]; exact R3⟩
    | inl q =>
      rw [hm] at R2
      obtain ⟨l1, l2, l3⟩ := R2.2.2.2 q rfl
      refine nv_cut hct nvR 170 64 6 (S' := (d + 11, [], 170, 64, [(1, .inl (0 : Int32)), (0, .inr (.inr (some 113)))], [.inl (a_I M2 n0 0)], M2)) R2.1.1 rfl ?_
      by_cases c0 : l_in L1 = 0
      · skip
        refine nv_if hct true rfl (zcT1 l1.1.1 (by omega)) ?_
        have hl0 : lacks L1 = true := by unfold lacks; rw [decide_eq_true c0]; rfl
        refine nv_cut hct nvR 163 0 6 (S' := (d + 10, [(170, 116, [(1, .inl (0 : Int32)), (0, .inr (.inr (some 113)))], [])], 163, 0, la 0 [.inr (.inr (some 113)), .inl (6 : Int32)], [], M2)) R2.1.1 rfl ?_
        refine nv_callv (r_wrong hz R2.1 R2.2.1 (kn := 6) rfl (by decide)) (fun M3 ⟨f3, S3⟩ => ?_)
        have R3 := Rf_x (m' := m_bad B lim 6 (.inl q)) R2 f3 S3 (fun r e => ⟨q, rfl⟩)
        refine nv_cut hct nvR 170 116 3 (S' := (d + 11, [], 170, 116, [(1, .inl (0 : Int32)), (0, .inr (.inr (some 113)))], [], M3)) R3.1.1 rfl ?_
        exact nv_vret hct rfl ⟨rfl, by unfold m_if; rw [hl0]; exact R3⟩
      · skip
        refine nv_if hct false rfl (zcF1 l1.1.1 (by omega)) ?_
        refine nv_cut hct nvR 170 74 6 (S' := (d + 11, [], 170, 74, [(1, .inl (0 : Int32)), (0, .inr (.inr (some 113)))], [.inl (a_I M2 n0 3)], M2)) R2.1.1 rfl ?_
        cases c1 : l_lp L1 with
        | false =>
          have hv : ((a_I M2 n0 3)).toInt = 0 := by
            rcases l1.2.1 with ⟨_, e⟩ | ⟨e, _⟩
            · exact e
            · rw [c1] at e; cases e
          refine nv_if hct true rfl (zcT1 hv rfl) ?_
          have hl1 : lacks L1 = true := by unfold lacks; rw [decide_eq_false c0, c1]; rfl
          refine nv_cut hct nvR 163 0 6 (S' := (d + 10, [(170, 116, [(1, .inl (0 : Int32)), (0, .inr (.inr (some 113)))], [])], 163, 0, la 0 [.inr (.inr (some 113)), .inl (6 : Int32)], [], M2)) R2.1.1 rfl ?_
          refine nv_callv (r_wrong hz R2.1 R2.2.1 (kn := 6) rfl (by decide)) (fun M3 ⟨f3, S3⟩ => ?_)
          have R3 := Rf_x (m' := m_bad B lim 6 (.inl q)) R2 f3 S3 (fun r e => ⟨q, rfl⟩)
          refine nv_cut hct nvR 170 116 3 (S' := (d + 11, [], 170, 116, [(1, .inl (0 : Int32)), (0, .inr (.inr (some 113)))], [], M3)) R3.1.1 rfl ?_
          exact nv_vret hct rfl ⟨rfl, by unfold m_if; rw [hl1]; exact R3⟩
        | true =>
          have hv : ((a_I M2 n0 3)).toInt ≠ 0 := by
            rcases l1.2.1 with ⟨e, _⟩ | ⟨_, e, _⟩
            · rw [c1] at e; cases e
            · omega
          refine nv_if hct false rfl (zcF1 rfl hv) ?_
          refine nv_cut hct nvR 170 85 7 (S' := (d + 11, [], 170, 85, [(1, .inl (0 : Int32)), (0, .inr (.inr (some 113)))], [.inl (-1 : Int32), .inl (a_I M2 n0 7)], M2)) R2.1.1 rfl ?_
          cases c2 : l_co L1 with
          | false =>
            have hv : ((a_I M2 n0 7)).toInt = -1 := by
              rcases l1.2.2.1 with ⟨_, e⟩ | ⟨e, _⟩
              · exact e
              · rw [c2] at e; cases e
            refine nv_ifc hct true rfl (ccT1 hv (show ((-1 : Int32)).toInt = -1 from rfl) rfl) ?_
            have hl2 : lacks L1 = true := by unfold lacks; rw [decide_eq_false c0, c1, c2]; rfl
            refine nv_cut hct nvR 163 0 6 (S' := (d + 10, [(170, 116, [(1, .inl (0 : Int32)), (0, .inr (.inr (some 113)))], [])], 163, 0, la 0 [.inr (.inr (some 113)), .inl (6 : Int32)], [], M2)) R2.1.1 rfl ?_
            refine nv_callv (r_wrong hz R2.1 R2.2.1 (kn := 6) rfl (by decide)) (fun M3 ⟨f3, S3⟩ => ?_)
            have R3 := Rf_x (m' := m_bad B lim 6 (.inl q)) R2 f3 S3 (fun r e => ⟨q, rfl⟩)
            refine nv_cut hct nvR 170 116 3 (S' := (d + 11, [], 170, 116, [(1, .inl (0 : Int32)), (0, .inr (.inr (some 113)))], [], M3)) R3.1.1 rfl ?_
            exact nv_vret hct rfl ⟨rfl, by unfold m_if; rw [hl2]; exact R3⟩
          | true =>
            have hv : ((a_I M2 n0 7)).toInt ≠ -1 := by
              rcases l1.2.2.1 with ⟨e, _⟩ | ⟨_, e⟩
              · rw [c2] at e; cases e
              · omega
            refine nv_ifc hct false rfl (ccF1 rfl (show ((-1 : Int32)).toInt = -1 from rfl) hv) ?_
            refine nv_cut hct nvR 170 95 6 (S' := (d + 11, [], 170, 95, [(1, .inl (0 : Int32)), (0, .inr (.inr (some 113)))], [.inl (a_I M2 n0 12)], M2)) R2.1.1 rfl ?_
            by_cases c3 : l_fr L1 = 0
            · skip
              refine nv_if hct true rfl (zcT1 l1.2.2.2.2.2.2.1.1 (by omega)) ?_
              have hl3 : lacks L1 = true := by unfold lacks; rw [decide_eq_false c0, c1, c2, decide_eq_true c3]; rfl
              refine nv_cut hct nvR 163 0 6 (S' := (d + 10, [(170, 116, [(1, .inl (0 : Int32)), (0, .inr (.inr (some 113)))], [])], 163, 0, la 0 [.inr (.inr (some 113)), .inl (6 : Int32)], [], M2)) R2.1.1 rfl ?_
              refine nv_callv (r_wrong hz R2.1 R2.2.1 (kn := 6) rfl (by decide)) (fun M3 ⟨f3, S3⟩ => ?_)
              have R3 := Rf_x (m' := m_bad B lim 6 (.inl q)) R2 f3 S3 (fun r e => ⟨q, rfl⟩)
              refine nv_cut hct nvR 170 116 3 (S' := (d + 11, [], 170, 116, [(1, .inl (0 : Int32)), (0, .inr (.inr (some 113)))], [], M3)) R3.1.1 rfl ?_
              exact nv_vret hct rfl ⟨rfl, by unfold m_if; rw [hl3]; exact R3⟩
            · skip
              refine nv_if hct false rfl (zcF1 l1.2.2.2.2.2.2.1.1 (by omega)) ?_
              refine nv_cut hct nvR 170 106 7 (S' := (d + 11, [], 170, 106, [(1, .inl (0 : Int32)), (0, .inr (.inr (some 113)))], [.inl (0 : Int32), .inr (.inr (some 145))], M2)) R2.1.1 rfl ?_
              refine nv_ald hct R2.1.1 rfl (show nvR.1 145 = 15 + 1 from rfl) (show nvR.2.1 145 = 8 + 1 from rfl) rfl ?_
              have hf0 : (a_I M2 (n0 + 8) (0 : Int32).toNatClampNeg).toInt = l_f0 L1 := by
                rcases l3.1 with ⟨e, _⟩ | ⟨_, e, _⟩
                · exact absurd e c3
                · exact e
              by_cases c4 : l_f0 L1 = 0
              · skip
                refine nv_if hct true rfl (zcT1 hf0 c4) ?_
                have hl9 : lacks L1 = false := by unfold lacks; rw [decide_eq_false c0, c1, c2, decide_eq_false c3, decide_eq_true c4]; rfl
                exact nv_vret hct rfl ⟨rfl, by unfold m_if; rw [hl9]; exact R2⟩
              · skip
                refine nv_if hct false rfl (zcF1 hf0 c4) ?_
                have hl4 : lacks L1 = true := by unfold lacks; rw [decide_eq_false c0, c1, c2, decide_eq_false c3, decide_eq_false c4]; rfl
                refine nv_cut hct nvR 163 0 6 (S' := (d + 10, [(170, 116, [(1, .inl (0 : Int32)), (0, .inr (.inr (some 113)))], [])], 163, 0, la 0 [.inr (.inr (some 113)), .inl (6 : Int32)], [], M2)) R2.1.1 rfl ?_
                refine nv_callv (r_wrong hz R2.1 R2.2.1 (kn := 6) rfl (by decide)) (fun M3 ⟨f3, S3⟩ => ?_)
                have R3 := Rf_x (m' := m_bad B lim 6 (.inl q)) R2 f3 S3 (fun r e => ⟨q, rfl⟩)
                refine nv_cut hct nvR 170 116 3 (S' := (d + 11, [], 170, 116, [(1, .inl (0 : Int32)), (0, .inr (.inr (some 113)))], [], M3)) R3.1.1 rfl ?_
                exact nv_vret hct rfl ⟨rfl, by unfold m_if; rw [hl4]; exact R3⟩
  refine nv_cut hct nvR 170 49 6 (S' := (d + 11, [], 170, 49, [(1, .inl (0 : Int32)), (0, .inr (.inr (some 113)))], [.inl (1 : Int32), .inl (a_I M1 113 9)], M1)) R1.1.1 rfl ?_
  cases hme : m_end B lim m with
  | true =>
    have hse : (a_I M1 113 9).toInt = 1 := by
      rcases m with q | f
      · exact (St_s R1.2.1).2.2.1.mpr (nbT hme)
      · cases hme
    refine nv_ifc hct true rfl (ccT1 hse (show ((1 : Int32)).toInt = 1 from rfl) rfl) ?_
    exact key M1 (by unfold m_if; rw [hme]; exact R1)
  | false =>
    have hse : (a_I M1 113 9).toInt ≠ 1 := fun e => by
      rcases m with q | f
      · have hk := (St_s R1.2.1).2.2.1.mp e; have hme : Nat.beq (knd B lim q) 0 = false := hme; rw [hk] at hme; cases hme
      · rw [R1.2.1.1] at e; exact absurd e (by decide)
    refine nv_ifc hct false rfl (ccF1 rfl (show ((1 : Int32)).toInt = 1 from rfl) hse) ?_
    refine nv_cut hct nvR 163 0 6 (S' := (d + 10, [(170, 57, [(1, .inl (0 : Int32)), (0, .inr (.inr (some 113)))], [])], 163, 0, la 0 [.inr (.inr (some 113)), .inl (1 : Int32)], [], M1)) R1.1.1 rfl ?_
    refine nv_callv (r_wrong hz R1.1 R1.2.1 (kn := 1) rfl (by decide)) (fun M2 ⟨f2, S2⟩ => ?_)
    have R2 : RdF n0 B lim M0 M2 (m_bad B lim 1 m) L1 := Rf_x R1 f2 S2 (fun q e => by cases m with | inl p9 => exact ⟨p9, rfl⟩ | inr f9 => cases e)
    refine nv_cut hct nvR 170 57 3 (S' := (d + 11, [], 170, 57, [(1, .inl (0 : Int32)), (0, .inr (.inr (some 113)))], [], M2)) R2.1.1 rfl ?_
    exact key M2 (by unfold m_if; rw [hme]; exact R2)

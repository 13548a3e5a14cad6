/-! What the class's reader takes: printed by wip/gen/clsp4.py -/
set_option maxHeartbeats 4000000 in
theorem c_beginLine {cd : Nat → Nat → Option aI} {z : Bool} (hz : ∀ m p i, cd0 z m p = some i → cd m p = some i) {t0 : Nat} {B : Nat → Int} {lim : Nat} {M : aM} (hE : EnC t0 B lim M) {m : pmd} (hS : StC B lim M m) {x k : Int32} {c : Bool} (hx : x = bif c then 1 else 0) {kn : Nat} (hk : k.toInt = (kn : Int)) (hk1 : 1 ≤ kn) {d : Nat} : wpS cd (d + 2, [], 63, 0, nv_l (tauC t0) (la 0 [.inr (.inr (some 1)), .inl x, .inl k]), [], M) (fun r M' => r = none ∧ eqE fC M M' ∧ StC B lim M' (m_adv B lim (m_if B lim kn c m))) := by
  show wpS cd (nv_S (tauC t0) (d + 2, [], 63, 0, la 0 [.inr (.inr (some 1)), .inl x, .inl k], [], M)) _
  have hct := hc_of hz
  refine nv_cut hct nvC 63 1 4 (S' := (d + 2, [], 63, 1, [(0, .inr (.inr (some 1))), (1, .inl x), (2, .inl k)], [.inl x], M)) hE.1 rfl ?_
  have key : ∀ M1, eqE fC M M1 → StC B lim M1 (m_if B lim kn c m) → wpS cd (nv_S (tauC t0) (d + 2, [], 63, 9, [(0, .inr (.inr (some 1))), (1, .inl x), (2, .inl k)], [], M1)) (fun r M' => r = none ∧ eqE fC M M' ∧ StC B lim M' (m_adv B lim (m_if B lim kn c m))) := by
    intro M1 q1 S1
    have E1 := Ec_C q1 hE
    refine nv_cut hct nvC 91 0 6 (S' := (d + 1, [(63, 16, [(0, .inr (.inr (some 1))), (1, .inl x), (2, .inl k)], [])], 91, 0, la 0 [.inr (.inr (some 2))], [], M1)) E1.1 rfl ?_
    refine nv_callv (c_adv hz E1 S1) (fun M2 ⟨q2, S2⟩ => ?_)
    refine nv_cut hct nvC 63 16 3 (S' := (d + 2, [], 63, 16, [(0, .inr (.inr (some 1))), (1, .inl x), (2, .inl k)], [], M2)) (Ec_C q2 E1).1 rfl ?_
    exact nv_vret hct rfl ⟨rfl, eqE_tr q1 q2, S2⟩
  cases c with
  | true =>
    refine nv_if hct false rfl (zcF1 (show x.toInt = 1 by rw [hx]; rfl) (by decide)) ?_
    refine nv_cut hct nvC 54 0 6 (S' := (d + 1, [(63, 9, [(0, .inr (.inr (some 1))), (1, .inl x), (2, .inl k)], [])], 54, 0, la 0 [.inr (.inr (some 1)), .inl k], [], M)) hE.1 rfl ?_
    refine nv_callv (c_blame hz hE hS hk hk1) (fun M1 ⟨q1, S1⟩ => ?_)
    refine nv_cut hct nvC 63 9 3 (S' := (d + 2, [], 63, 9, [(0, .inr (.inr (some 1))), (1, .inl x), (2, .inl k)], [], M1)) (Ec_C q1 hE).1 rfl ?_
    exact key M1 q1 S1
  | false =>
    refine nv_if hct true rfl (zcT1 (show x.toInt = 0 by rw [hx]; rfl) rfl) ?_
    exact key M eqE_rf hS
theorem Sc_p {B : Nat → Int} {lim : Nat} {M : aM} {p : Nat} (h : StC B lim M (.inl p)) : (p ≤ lim ∧ TkC B lim M p) ∧ a_I M 1 13 = 0 := by
  obtain ⟨q, h1, h2, h3⟩ := h
  subst h2
  exact ⟨h1, h3⟩
theorem bad_r {B : Nat → Int} {lim k : Nat} {f : Nat × Nat} : m_bad B lim k (.inr f) = .inr f := rfl
set_option maxHeartbeats 4000000 in
theorem c_takeWord {cd : Nat → Nat → Option aI} {z : Bool} (hz : ∀ m p i, cd0 z m p = some i → cd m p = some i) {t0 : Nat} {B : Nat → Int} {lim : Nat} {M : aM} (hE : EnC t0 B lim M) {m : pmd} (hS : StC B lim M m) {k : Nat} (hk : k < 52) {d : Nat} : wpS cd (d + 5, [], 64, 0, nv_l (tauC t0) (la 0 [.inr (.inr (some 1)), .inr (.inr (some (aSB + k)))]), [], M) (fun r M' => r = none ∧ eqE fC M M' ∧ StC B lim M' (m_wd B lim (txc k) m)) := by
  show wpS cd (nv_S (tauC t0) (d + 5, [], 64, 0, la 0 [.inr (.inr (some 1)), .inr (.inr (some (aSB + k)))], [], M)) _
  have hct := hc_of hz
  have hS0 := hS
  obtain ⟨p, ⟨hp, hT⟩, hm⟩ := hS0
  refine nv_cut hct nvC 93 0 7 (S' := (d + 4, [(64, 8, [(0, .inr (.inr (some 1))), (1, .inr (.inr (some (aSB + k))))], [])], 93, 0, la 0 [.inr (.inr (some 2)), .inr (.inr (some (aSB + k)))], [], M)) hE.1 rfl ?_
  refine nv_calli (c_isWord hz hE hT hk) (fun x M1 ⟨e1, hx⟩ => ?_)
  subst e1
  refine nv_cut hct nvC 64 8 3 (S' := (d + 5, [], 64, 8, [(0, .inr (.inr (some 1))), (1, .inr (.inr (some (aSB + k))))], [.inl x], M1)) hE.1 rfl ?_
  have key : ∀ M2, eqE fC M1 M2 → StC B lim M2 (m_if B lim 1 (!m_is B lim (txc k) m) m) → wpS cd (nv_S (tauC t0) (d + 5, [], 64, 16, [(0, .inr (.inr (some 1))), (1, .inr (.inr (some (aSB + k))))], [], M2)) (fun r M' => r = none ∧ eqE fC M1 M' ∧ StC B lim M' (m_wd B lim (txc k) m)) := by
    intro M2 q2 S2
    have E2 := Ec_C q2 hE
    refine nv_cut hct nvC 91 0 6 (S' := (d + 4, [(64, 23, [(0, .inr (.inr (some 1))), (1, .inr (.inr (some (aSB + k))))], [])], 91, 0, la 0 [.inr (.inr (some 2))], [], M2)) E2.1 rfl ?_
    refine nv_callv (c_adv hz E2 S2) (fun M3 ⟨q3, S3⟩ => ?_)
    refine nv_cut hct nvC 64 23 3 (S' := (d + 5, [], 64, 23, [(0, .inr (.inr (some 1))), (1, .inr (.inr (some (aSB + k))))], [], M3)) (Ec_C q3 E2).1 rfl ?_
    exact nv_vret hct rfl ⟨rfl, eqE_tr q2 q3, S3⟩
  cases hc : isW B lim (txc k) p with
  | true =>
    refine nv_if hct true rfl (zcT5 (show x.toInt = 1 by rw [hx, hc]; rfl) (by decide)) ?_
    refine key M1 eqE_rf ?_
    rcases m with q | f
    · obtain ⟨rfl, _⟩ := hm; show StC B lim M1 (m_if B lim 1 (!isW B lim (txc k) q) (.inl q)); rw [hc]; exact hS
    · exact hS
  | false =>
    refine nv_if hct false rfl (zcF5 (show x.toInt = 0 by rw [hx, hc]; rfl) rfl) ?_
    refine nv_cut hct nvC 54 0 6 (S' := (d + 4, [(64, 16, [(0, .inr (.inr (some 1))), (1, .inr (.inr (some (aSB + k))))], [])], 54, 0, la 0 [.inr (.inr (some 1)), .inl (1 : Int32)], [], M1)) hE.1 rfl ?_
    refine nv_callv (c_blame hz hE hS (kn := 1) rfl (by decide)) (fun M2 ⟨q2, S2⟩ => ?_)
    refine nv_cut hct nvC 64 16 3 (S' := (d + 5, [], 64, 16, [(0, .inr (.inr (some 1))), (1, .inr (.inr (some (aSB + k))))], [], M2)) (Ec_C q2 hE).1 rfl ?_
    refine key M2 q2 ?_
    rcases m with q | f
    · obtain ⟨rfl, _⟩ := hm; show StC B lim M2 (m_if B lim 1 (!isW B lim (txc k) q) (.inl q)); rw [hc]; exact S2
    · exact S2
set_option maxHeartbeats 4000000 in
theorem c_takeIf {cd : Nat → Nat → Option aI} {z : Bool} (hz : ∀ m p i, cd0 z m p = some i → cd m p = some i) {t0 : Nat} {B : Nat → Int} {lim : Nat} {M : aM} (hE : EnC t0 B lim M) {m : pmd} (hS : StC B lim M m) {k : Nat} (hk : k < 52) {d : Nat} : wpS cd (d + 5, [], 65, 0, nv_l (tauC t0) (la 0 [.inr (.inr (some 1)), .inr (.inr (some (aSB + k)))]), [], M) (fun r M' => ∃ y, r = some (.inl y) ∧ eqE fC M M' ∧ StC B lim M' (m_eat B lim (txc k) m) ∧ isB y = true) := by
  show wpS cd (nv_S (tauC t0) (d + 5, [], 65, 0, la 0 [.inr (.inr (some 1)), .inr (.inr (some (aSB + k)))], [], M)) _
  have hct := hc_of hz
  have hS0 := hS
  obtain ⟨p, ⟨hp, hT⟩, hm⟩ := hS0
  refine nv_cut hct nvC 65 4 5 (S' := (d + 5, [], 65, 4, [(0, .inr (.inr (some 1))), (1, .inr (.inr (some (aSB + k))))], [.inl (a_I M 1 13)], M)) hE.1 rfl ?_
  rcases m with q | f
  · skip
    obtain ⟨rfl, h13⟩ := hm
    refine nv_if hct false rfl (zcF5 rfl (by rw [h13]; rfl)) ?_
    refine nv_cut hct nvC 93 0 7 (S' := (d + 4, [(65, 15, [(0, .inr (.inr (some 1))), (1, .inr (.inr (some (aSB + k))))], [])], 93, 0, la 0 [.inr (.inr (some 2)), .inr (.inr (some (aSB + k)))], [], M)) hE.1 rfl ?_
    refine nv_calli (c_isWord hz hE hT hk) (fun x M1 ⟨e1, hx⟩ => ?_)
    subst e1
    refine nv_cut hct nvC 65 15 3 (S' := (d + 5, [], 65, 15, [(0, .inr (.inr (some 1))), (1, .inr (.inr (some (aSB + k))))], [.inl x], M1)) hE.1 rfl ?_
    have he : m_eat B lim (txc k) (.inl q) = bif isW B lim (txc k) q then m_adv B lim (.inl q) else .inl q := rfl
    rw [he]
    cases hc : isW B lim (txc k) q with
    | true =>
      refine nv_if hct true rfl (zcT5 (show x.toInt = 1 by rw [hx, hc]; rfl) (by decide)) ?_
      refine nv_cut hct nvC 91 0 6 (S' := (d + 4, [(65, 27, [(0, .inr (.inr (some 1))), (1, .inr (.inr (some (aSB + k))))], [])], 91, 0, la 0 [.inr (.inr (some 2))], [], M1)) hE.1 rfl ?_
      refine nv_callv (c_adv hz hE hS) (fun M2 ⟨q2, S2⟩ => ?_)
      refine nv_cut hct nvC 65 28 4 (S' := (d + 5, [], 65, 28, [(0, .inr (.inr (some 1))), (1, .inr (.inr (some (aSB + k))))], [.inl (1 : Int32)], M2)) (Ec_C q2 hE).1 rfl ?_
      exact nv_iret hct rfl rfl ⟨_, rfl, q2, S2, rfl⟩
    | false =>
      refine nv_if hct false rfl (zcF5 (show x.toInt = 0 by rw [hx, hc]; rfl) rfl) ?_
      refine nv_cut hct nvC 65 19 4 (S' := (d + 5, [], 65, 19, [(0, .inr (.inr (some 1))), (1, .inr (.inr (some (aSB + k))))], [.inl (0 : Int32)], M1)) hE.1 rfl ?_
      exact nv_iret hct rfl rfl ⟨_, rfl, eqE_rf, hS, rfl⟩
  · skip
    refine nv_if hct true rfl (zcT5 hm.1 (by have := hm.2.2; omega)) ?_
    refine nv_cut hct nvC 65 19 4 (S' := (d + 5, [], 65, 19, [(0, .inr (.inr (some 1))), (1, .inr (.inr (some (aSB + k))))], [.inl (0 : Int32)], M)) hE.1 rfl ?_
    exact nv_iret hct rfl rfl ⟨_, rfl, eqE_rf, hS, rfl⟩
set_option maxHeartbeats 4000000 in
theorem c_takeWhole {cd : Nat → Nat → Option aI} {z : Bool} (hz : ∀ m p i, cd0 z m p = some i → cd m p = some i) {t0 : Nat} {B : Nat → Int} {lim : Nat} {M : aM} (hE : EnC t0 B lim M) {m : pmd} (hS : StC B lim M m) {lo hi : Int32} {d : Nat} : wpS cd (d + 2, [], 66, 0, nv_l (tauC t0) (la 0 [.inr (.inr (some 1)), .inl lo, .inl hi]), [], M) (fun r M' => ∃ x, r = some (.inl x) ∧ eqE fC M M' ∧ StC B lim M' (m_wh B lim lo.toInt hi.toInt m) ∧ ∀ p, m_wh B lim lo.toInt hi.toInt m = .inl p → x.toInt = m_val B lim m ∧ lo.toInt ≤ x.toInt ∧ x.toInt ≤ hi.toInt) := by
  show wpS cd (nv_S (tauC t0) (d + 2, [], 66, 0, la 0 [.inr (.inr (some 1)), .inl lo, .inl hi], [], M)) _
  have hct := hc_of hz
  have hS0 := hS
  obtain ⟨p, ⟨hp, hT⟩, hm⟩ := hS0
  refine nv_cut hct nvC 66 16 11 (S' := (d + 2, [], 66, 16, [(3, .inl (a_I M 2 7)), (0, .inr (.inr (some 1))), (1, .inl lo), (2, .inl hi)], [.inl (2 : Int32), .inl (a_I M 2 4)], M)) hE.1 rfl ?_
  have key : ∀ M2, eqE fC M M2 → StC B lim M2 (m_w1 B lim lo.toInt hi.toInt m) → wpS cd (nv_S (tauC t0) (d + 2, [], 66, 42, [(3, .inl (a_I M 2 7)), (0, .inr (.inr (some 1))), (1, .inl lo), (2, .inl hi)], [], M2)) (fun r M' => ∃ x, r = some (.inl x) ∧ eqE fC M M' ∧ StC B lim M' (m_wh B lim lo.toInt hi.toInt m) ∧ ∀ p, m_wh B lim lo.toInt hi.toInt m = .inl p → x.toInt = m_val B lim m ∧ lo.toInt ≤ x.toInt ∧ x.toInt ≤ hi.toInt) := by
    intro M2 q2 S2
    have E2 := Ec_C q2 hE
    refine nv_cut hct nvC 91 0 6 (S' := (d + 1, [(66, 49, [(3, .inl (a_I M 2 7)), (0, .inr (.inr (some 1))), (1, .inl lo), (2, .inl hi)], [])], 91, 0, la 0 [.inr (.inr (some 2))], [], M2)) E2.1 rfl ?_
    refine nv_callv (c_adv hz E2 S2) (fun M3 ⟨q3, S3⟩ => ?_)
    refine nv_cut hct nvC 66 50 4 (S' := (d + 2, [], 66, 50, [(3, .inl (a_I M 2 7)), (0, .inr (.inr (some 1))), (1, .inl lo), (2, .inl hi)], [.inl (a_I M 2 7)], M3)) (Ec_C q3 E2).1 rfl ?_
    refine nv_iret hct rfl rfl ⟨_, rfl, eqE_tr q2 q3, S3, fun r hr => ?_⟩
    cases hw : m_w1 B lim lo.toInt hi.toInt m with
    | inl t =>
      obtain ⟨e1, e2, e3, e4⟩ := w1_inl hw
      subst e1
      obtain ⟨rfl, _⟩ := hm
      rw [hT.2.2.2.2 e2]
      exact ⟨rfl, e3, e4⟩
    | inr f =>
      have hr : m_adv B lim (m_w1 B lim lo.toInt hi.toInt m) = .inl r := hr
      rw [hw] at hr
      cases hr
  by_cases k2 : knd B lim p = 2
  · skip
    have hv := hT.2.2.2.2 k2
    refine nv_ifc hct true rfl (ccT1 hT.2.1 (show ((2 : Int32)).toInt = 2 from rfl) (by omega)) ?_
    refine nv_cut hct nvC 66 29 5 (S' := (d + 2, [], 66, 29, [(3, .inl (a_I M 2 7)), (0, .inr (.inr (some 1))), (1, .inl lo), (2, .inl hi)], [.inl lo, .inl (a_I M 2 7)], M)) hE.1 rfl ?_
    have hw1 : ∀ q, m = .inl q → m_w1 B lim lo.toInt hi.toInt m = m_if B lim 4 (!(decide (lo.toInt ≤ val B lim p) && decide (val B lim p ≤ hi.toInt))) m := fun q e => by
      subst e
      obtain ⟨rfl, _⟩ := hm
      show (bif Nat.beq (knd B lim q) 2 then _ else _) = _; rw [k2]; rfl
    by_cases c1 : val B lim p < lo.toInt
    · skip
      have hcc : (decide (lo.toInt ≤ val B lim p) && decide (val B lim p ≤ hi.toInt)) = false := by rw [decide_eq_false (by omega)]; rfl
      refine nv_ifc hct true rfl (ccT0 hv rfl c1) ?_
      refine nv_cut hct nvC 54 0 6 (S' := (d + 1, [(66, 42, [(3, .inl (a_I M 2 7)), (0, .inr (.inr (some 1))), (1, .inl lo), (2, .inl hi)], [])], 54, 0, la 0 [.inr (.inr (some 1)), .inl (4 : Int32)], [], M)) hE.1 rfl ?_
      refine nv_callv (c_blame hz hE hS (kn := 4) rfl (by decide)) (fun M2 ⟨q2, S2⟩ => ?_)
      refine nv_cut hct nvC 66 42 3 (S' := (d + 2, [], 66, 42, [(3, .inl (a_I M 2 7)), (0, .inr (.inr (some 1))), (1, .inl lo), (2, .inl hi)], [], M2)) (Ec_C q2 hE).1 rfl ?_
      refine key M2 q2 ?_
      rcases m with q | f
      · rw [hw1 q rfl, hcc]; exact S2
      · exact S2
    · skip
      refine nv_ifc hct false rfl (ccF0 hv rfl (by omega)) ?_
      refine nv_cut hct nvC 66 34 5 (S' := (d + 2, [], 66, 34, [(3, .inl (a_I M 2 7)), (0, .inr (.inr (some 1))), (1, .inl lo), (2, .inl hi)], [.inl hi, .inl (a_I M 2 7)], M)) hE.1 rfl ?_
      by_cases c2 : val B lim p ≤ hi.toInt
      · skip
        have hcc : (decide (lo.toInt ≤ val B lim p) && decide (val B lim p ≤ hi.toInt)) = true := by rw [decide_eq_true (show lo.toInt ≤ val B lim p by omega), decide_eq_true c2]; rfl
        refine nv_ifc hct true rfl (ccT2 hv rfl c2) ?_
        refine key M eqE_rf ?_
        rcases m with q | f
        · rw [hw1 q rfl, hcc]; exact hS
        · exact hS
      · skip
        have hcc : (decide (lo.toInt ≤ val B lim p) && decide (val B lim p ≤ hi.toInt)) = false := by rw [decide_eq_false c2, Bool.and_false]
        refine nv_ifc hct false rfl (ccF2 hv rfl (by omega)) ?_
        refine nv_cut hct nvC 54 0 6 (S' := (d + 1, [(66, 42, [(3, .inl (a_I M 2 7)), (0, .inr (.inr (some 1))), (1, .inl lo), (2, .inl hi)], [])], 54, 0, la 0 [.inr (.inr (some 1)), .inl (4 : Int32)], [], M)) hE.1 rfl ?_
        refine nv_callv (c_blame hz hE hS (kn := 4) rfl (by decide)) (fun M2 ⟨q2, S2⟩ => ?_)
        refine nv_cut hct nvC 66 42 3 (S' := (d + 2, [], 66, 42, [(3, .inl (a_I M 2 7)), (0, .inr (.inr (some 1))), (1, .inl lo), (2, .inl hi)], [], M2)) (Ec_C q2 hE).1 rfl ?_
        refine key M2 q2 ?_
        rcases m with q | f
        · rw [hw1 q rfl, hcc]; exact S2
        · exact S2
  · skip
    refine nv_ifc hct false rfl (ccF1 hT.2.1 (show ((2 : Int32)).toInt = 2 from rfl) (by omega)) ?_
    refine nv_cut hct nvC 54 0 6 (S' := (d + 1, [(66, 24, [(3, .inl (a_I M 2 7)), (0, .inr (.inr (some 1))), (1, .inl lo), (2, .inl hi)], [])], 54, 0, la 0 [.inr (.inr (some 1)), .inl (1 : Int32)], [], M)) hE.1 rfl ?_
    refine nv_callv (c_blame hz hE hS (kn := 1) rfl (by decide)) (fun M2 ⟨q2, S2⟩ => ?_)
    refine nv_cut hct nvC 66 42 4 (S' := (d + 2, [], 66, 42, [(3, .inl (a_I M 2 7)), (0, .inr (.inr (some 1))), (1, .inl lo), (2, .inl hi)], [], M2)) (Ec_C q2 hE).1 rfl ?_
    refine key M2 q2 ?_
    rcases m with q | f
    · obtain ⟨rfl, _⟩ := hm
      have : m_dg B lim (.inl q) = false := nbF k2
      unfold m_w1; rw [this]; exact S2
    · exact S2
set_option maxHeartbeats 4000000 in
theorem c_takeNum {cd : Nat → Nat → Option aI} {z : Bool} (hz : ∀ m p i, cd0 z m p = some i → cd m p = some i) {t0 : Nat} {B : Nat → Int} {lim : Nat} {M : aM} (hE : EnC t0 B lim M) {m : pmd} (hS : StC B lim M m) {k : Nat} (hk : k < 52) {lo hi : Int32} {d : Nat} : wpS cd (d + 6, [], 67, 0, nv_l (tauC t0) (la 0 [.inr (.inr (some 1)), .inr (.inr (some (aSB + k))), .inl lo, .inl hi]), [], M) (fun r M' => ∃ x, r = some (.inl x) ∧ eqE fC M M' ∧ StC B lim M' (m_pt B lim (txc k) lo.toInt hi.toInt m) ∧ ∀ p, m_pt B lim (txc k) lo.toInt hi.toInt m = .inl p → x.toInt = m_val B lim (m_wd B lim (txc k) m) ∧ lo.toInt ≤ x.toInt ∧ x.toInt ≤ hi.toInt) := by
  show wpS cd (nv_S (tauC t0) (d + 6, [], 67, 0, la 0 [.inr (.inr (some 1)), .inr (.inr (some (aSB + k))), .inl lo, .inl hi], [], M)) _
  have hct := hc_of hz
  refine nv_cut hct nvC 64 0 6 (S' := (d + 5, [(67, 5, [(0, .inr (.inr (some 1))), (1, .inr (.inr (some (aSB + k)))), (2, .inl lo), (3, .inl hi)], [])], 64, 0, la 0 [.inr (.inr (some 1)), .inr (.inr (some (aSB + k)))], [], M)) hE.1 rfl ?_
  refine nv_callv (c_takeWord hz hE hS hk) (fun M1 ⟨q1, S1⟩ => ?_)
  have E1 := Ec_C q1 hE
  refine nv_cut hct nvC 66 0 7 (S' := (d + 5, [(67, 11, [(0, .inr (.inr (some 1))), (1, .inr (.inr (some (aSB + k)))), (2, .inl lo), (3, .inl hi)], [])], 66, 0, la 0 [.inr (.inr (some 1)), .inl lo, .inl hi], [], M1)) E1.1 rfl ?_
  refine nv_calli (c_takeWhole hz E1 S1) (fun v M2 ⟨q2, S2, h2⟩ => ?_)
  refine nv_cut hct nvC 67 11 3 (S' := (d + 6, [], 67, 11, [(0, .inr (.inr (some 1))), (1, .inr (.inr (some (aSB + k)))), (2, .inl lo), (3, .inl hi)], [.inl v], M2)) (Ec_C q2 E1).1 rfl ?_
  exact nv_iret hct rfl rfl ⟨_, rfl, eqE_tr q1 q2, S2, h2⟩
def nmP (B : Nat → Int) (lim p : Nat) : Bool := Nat.beq (knd B lim p) 1 && nmL.all (fun k => !isW B lim (txc k) p)
theorem nmP_m {B : Nat → Int} {lim p : Nat} : m_name B lim (.inl p) = nmP B lim p := rfl
set_option maxHeartbeats 4000000 in
theorem c_isName {cd : Nat → Nat → Option aI} {z : Bool} (hz : ∀ m p i, cd0 z m p = some i → cd m p = some i) {t0 : Nat} {B : Nat → Int} {lim : Nat} {M : aM} (hE : EnC t0 B lim M) {p : Nat} (hT : TkC B lim M p) {d : Nat} : wpS cd (d + 5, [], 71, 0, nv_l (tauC t0) (la 0 [.inr (.inr (some 1))]), [], M) (fun r M' => ∃ x, r = some (.inl x) ∧ M' = M ∧ x = (bif nmP B lim p then 1 else 0)) := by
  show wpS cd (nv_S (tauC t0) (d + 5, [], 71, 0, la 0 [.inr (.inr (some 1))], [], M)) _
  have hct := hc_of hz
  refine nv_cut hct nvC 71 8 7 (S' := (d + 5, [], 71, 8, [(0, .inr (.inr (some 1)))], [.inl (1 : Int32), .inl (a_I M 2 4)], M)) hE.1 rfl ?_
  cases hw : Nat.beq (knd B lim p) 1 with
  | false =>
    have hne : knd B lim p ≠ 1 := fun e => by rw [e] at hw; cases hw
    refine nv_ifc hct true rfl (ccT5 hT.2.1 (show ((1 : Int32)).toInt = 1 from rfl) (by omega)) ?_
    refine nv_cut hct nvC 71 124 4 (S' := (d + 5, [], 71, 124, [(0, .inr (.inr (some 1)))], [.inl (0 : Int32)], M)) hE.1 rfl ?_
    exact nv_iret hct rfl rfl ⟨_, rfl, rfl, by unfold nmP; rw [hw]; rfl⟩
  | true =>
    refine nv_ifc hct false rfl (ccF5 hT.2.1 (show ((1 : Int32)).toInt = 1 from rfl) (by rw [nbT hw]; rfl)) ?_
    refine nv_cut hct nvC 93 0 7 (S' := (d + 4, [(71, 20, [(0, .inr (.inr (some 1)))], [])], 93, 0, la 0 [.inr (.inr (some 2)), .inr (.inr (some (aSB + 0)))], [], M)) hE.1 rfl ?_
    refine nv_calli (c_isWord hz hE hT (k := 0) (by decide)) (fun x1 M1 ⟨e1, hx1⟩ => ?_)
    subst e1
    have hx1 : x1 = bif isW B lim (txc 26) p then 1 else 0 := hx1
    refine nv_cut hct nvC 71 20 3 (S' := (d + 5, [], 71, 20, [(0, .inr (.inr (some 1)))], [.inl x1], M1)) hE.1 rfl ?_
    cases hc1 : isW B lim (txc 26) p with
    | true =>
      refine nv_if hct true rfl (zcT5 (show x1.toInt = 1 by rw [hx1, hc1]; rfl) (by decide)) ?_
      refine nv_cut hct nvC 71 124 4 (S' := (d + 5, [], 71, 124, [(0, .inr (.inr (some 1)))], [.inl (0 : Int32)], M1)) hE.1 rfl ?_
      exact nv_iret hct rfl rfl ⟨_, rfl, rfl, by simp only [nmP, nmL, List.all_cons, hw, hc1,  Bool.not_true, Bool.not_false, Bool.and_false, Bool.false_and, Bool.true_and, cond_false]⟩
    | false =>
      refine nv_if hct false rfl (zcF5 (show x1.toInt = 0 by rw [hx1, hc1]; rfl) rfl) ?_
      refine nv_cut hct nvC 93 0 7 (S' := (d + 4, [(71, 32, [(0, .inr (.inr (some 1)))], [])], 93, 0, la 0 [.inr (.inr (some 2)), .inr (.inr (some (aSB + 4)))], [], M1)) hE.1 rfl ?_
      refine nv_calli (c_isWord hz hE hT (k := 4) (by decide)) (fun x2 M2 ⟨e2, hx2⟩ => ?_)
      subst e2
      have hx2 : x2 = bif isW B lim (txc 30) p then 1 else 0 := hx2
      refine nv_cut hct nvC 71 32 3 (S' := (d + 5, [], 71, 32, [(0, .inr (.inr (some 1)))], [.inl x2], M2)) hE.1 rfl ?_
      cases hc2 : isW B lim (txc 30) p with
      | true =>
        refine nv_if hct true rfl (zcT5 (show x2.toInt = 1 by rw [hx2, hc2]; rfl) (by decide)) ?_
        refine nv_cut hct nvC 71 124 4 (S' := (d + 5, [], 71, 124, [(0, .inr (.inr (some 1)))], [.inl (0 : Int32)], M2)) hE.1 rfl ?_
        exact nv_iret hct rfl rfl ⟨_, rfl, rfl, by simp only [nmP, nmL, List.all_cons, hw, hc2, hc1,  Bool.not_true, Bool.not_false, Bool.and_false, Bool.false_and, Bool.true_and, cond_false]⟩
      | false =>
        refine nv_if hct false rfl (zcF5 (show x2.toInt = 0 by rw [hx2, hc2]; rfl) rfl) ?_
        refine nv_cut hct nvC 93 0 7 (S' := (d + 4, [(71, 44, [(0, .inr (.inr (some 1)))], [])], 93, 0, la 0 [.inr (.inr (some 2)), .inr (.inr (some (aSB + 8)))], [], M2)) hE.1 rfl ?_
        refine nv_calli (c_isWord hz hE hT (k := 8) (by decide)) (fun x3 M3 ⟨e3, hx3⟩ => ?_)
        subst e3
        have hx3 : x3 = bif isW B lim (txc 34) p then 1 else 0 := hx3
        refine nv_cut hct nvC 71 44 3 (S' := (d + 5, [], 71, 44, [(0, .inr (.inr (some 1)))], [.inl x3], M3)) hE.1 rfl ?_
        cases hc3 : isW B lim (txc 34) p with
        | true =>
          refine nv_if hct true rfl (zcT5 (show x3.toInt = 1 by rw [hx3, hc3]; rfl) (by decide)) ?_
          refine nv_cut hct nvC 71 124 4 (S' := (d + 5, [], 71, 124, [(0, .inr (.inr (some 1)))], [.inl (0 : Int32)], M3)) hE.1 rfl ?_
          exact nv_iret hct rfl rfl ⟨_, rfl, rfl, by simp only [nmP, nmL, List.all_cons, hw, hc3, hc1, hc2,  Bool.not_true, Bool.not_false, Bool.and_false, Bool.false_and, Bool.true_and, cond_false]⟩
        | false =>
          refine nv_if hct false rfl (zcF5 (show x3.toInt = 0 by rw [hx3, hc3]; rfl) rfl) ?_
          refine nv_cut hct nvC 93 0 7 (S' := (d + 4, [(71, 56, [(0, .inr (.inr (some 1)))], [])], 93, 0, la 0 [.inr (.inr (some 2)), .inr (.inr (some (aSB + 11)))], [], M3)) hE.1 rfl ?_
          refine nv_calli (c_isWord hz hE hT (k := 11) (by decide)) (fun x4 M4 ⟨e4, hx4⟩ => ?_)
          subst e4
          have hx4 : x4 = bif isW B lim (txc 37) p then 1 else 0 := hx4
          refine nv_cut hct nvC 71 56 3 (S' := (d + 5, [], 71, 56, [(0, .inr (.inr (some 1)))], [.inl x4], M4)) hE.1 rfl ?_
          cases hc4 : isW B lim (txc 37) p with
          | true =>
            refine nv_if hct true rfl (zcT5 (show x4.toInt = 1 by rw [hx4, hc4]; rfl) (by decide)) ?_
            refine nv_cut hct nvC 71 124 4 (S' := (d + 5, [], 71, 124, [(0, .inr (.inr (some 1)))], [.inl (0 : Int32)], M4)) hE.1 rfl ?_
            exact nv_iret hct rfl rfl ⟨_, rfl, rfl, by simp only [nmP, nmL, List.all_cons, hw, hc4, hc1, hc2, hc3,  Bool.not_true, Bool.not_false, Bool.and_false, Bool.false_and, Bool.true_and, cond_false]⟩
          | false =>
            refine nv_if hct false rfl (zcF5 (show x4.toInt = 0 by rw [hx4, hc4]; rfl) rfl) ?_
            refine nv_cut hct nvC 93 0 7 (S' := (d + 4, [(71, 68, [(0, .inr (.inr (some 1)))], [])], 93, 0, la 0 [.inr (.inr (some 2)), .inr (.inr (some (aSB + 12)))], [], M4)) hE.1 rfl ?_
            refine nv_calli (c_isWord hz hE hT (k := 12) (by decide)) (fun x5 M5 ⟨e5, hx5⟩ => ?_)
            subst e5
            have hx5 : x5 = bif isW B lim (txc 38) p then 1 else 0 := hx5
            refine nv_cut hct nvC 71 68 3 (S' := (d + 5, [], 71, 68, [(0, .inr (.inr (some 1)))], [.inl x5], M5)) hE.1 rfl ?_
            cases hc5 : isW B lim (txc 38) p with
            | true =>
              refine nv_if hct true rfl (zcT5 (show x5.toInt = 1 by rw [hx5, hc5]; rfl) (by decide)) ?_
              refine nv_cut hct nvC 71 124 4 (S' := (d + 5, [], 71, 124, [(0, .inr (.inr (some 1)))], [.inl (0 : Int32)], M5)) hE.1 rfl ?_
              exact nv_iret hct rfl rfl ⟨_, rfl, rfl, by simp only [nmP, nmL, List.all_cons, hw, hc5, hc1, hc2, hc3, hc4,  Bool.not_true, Bool.not_false, Bool.and_false, Bool.false_and, Bool.true_and, cond_false]⟩
            | false =>
              refine nv_if hct false rfl (zcF5 (show x5.toInt = 0 by rw [hx5, hc5]; rfl) rfl) ?_
              refine nv_cut hct nvC 93 0 7 (S' := (d + 4, [(71, 80, [(0, .inr (.inr (some 1)))], [])], 93, 0, la 0 [.inr (.inr (some 2)), .inr (.inr (some (aSB + 13)))], [], M5)) hE.1 rfl ?_
              refine nv_calli (c_isWord hz hE hT (k := 13) (by decide)) (fun x6 M6 ⟨e6, hx6⟩ => ?_)
              subst e6
              have hx6 : x6 = bif isW B lim (txc 39) p then 1 else 0 := hx6
              refine nv_cut hct nvC 71 80 3 (S' := (d + 5, [], 71, 80, [(0, .inr (.inr (some 1)))], [.inl x6], M6)) hE.1 rfl ?_
              cases hc6 : isW B lim (txc 39) p with
              | true =>
                refine nv_if hct true rfl (zcT5 (show x6.toInt = 1 by rw [hx6, hc6]; rfl) (by decide)) ?_
                refine nv_cut hct nvC 71 124 4 (S' := (d + 5, [], 71, 124, [(0, .inr (.inr (some 1)))], [.inl (0 : Int32)], M6)) hE.1 rfl ?_
                exact nv_iret hct rfl rfl ⟨_, rfl, rfl, by simp only [nmP, nmL, List.all_cons, hw, hc6, hc1, hc2, hc3, hc4, hc5,  Bool.not_true, Bool.not_false, Bool.and_false, Bool.false_and, Bool.true_and, cond_false]⟩
              | false =>
                refine nv_if hct false rfl (zcF5 (show x6.toInt = 0 by rw [hx6, hc6]; rfl) rfl) ?_
                refine nv_cut hct nvC 93 0 7 (S' := (d + 4, [(71, 92, [(0, .inr (.inr (some 1)))], [])], 93, 0, la 0 [.inr (.inr (some 2)), .inr (.inr (some (aSB + 14)))], [], M6)) hE.1 rfl ?_
                refine nv_calli (c_isWord hz hE hT (k := 14) (by decide)) (fun x7 M7 ⟨e7, hx7⟩ => ?_)
                subst e7
                have hx7 : x7 = bif isW B lim (txc 40) p then 1 else 0 := hx7
                refine nv_cut hct nvC 71 92 3 (S' := (d + 5, [], 71, 92, [(0, .inr (.inr (some 1)))], [.inl x7], M7)) hE.1 rfl ?_
                cases hc7 : isW B lim (txc 40) p with
                | true =>
                  refine nv_if hct true rfl (zcT5 (show x7.toInt = 1 by rw [hx7, hc7]; rfl) (by decide)) ?_
                  refine nv_cut hct nvC 71 124 4 (S' := (d + 5, [], 71, 124, [(0, .inr (.inr (some 1)))], [.inl (0 : Int32)], M7)) hE.1 rfl ?_
                  exact nv_iret hct rfl rfl ⟨_, rfl, rfl, by simp only [nmP, nmL, List.all_cons, hw, hc7, hc1, hc2, hc3, hc4, hc5, hc6,  Bool.not_true, Bool.not_false, Bool.and_false, Bool.false_and, Bool.true_and, cond_false]⟩
                | false =>
                  refine nv_if hct false rfl (zcF5 (show x7.toInt = 0 by rw [hx7, hc7]; rfl) rfl) ?_
                  refine nv_cut hct nvC 93 0 7 (S' := (d + 4, [(71, 104, [(0, .inr (.inr (some 1)))], [])], 93, 0, la 0 [.inr (.inr (some 2)), .inr (.inr (some (aSB + 10)))], [], M7)) hE.1 rfl ?_
                  refine nv_calli (c_isWord hz hE hT (k := 10) (by decide)) (fun x8 M8 ⟨e8, hx8⟩ => ?_)
                  subst e8
                  have hx8 : x8 = bif isW B lim (txc 36) p then 1 else 0 := hx8
                  refine nv_cut hct nvC 71 104 3 (S' := (d + 5, [], 71, 104, [(0, .inr (.inr (some 1)))], [.inl x8], M8)) hE.1 rfl ?_
                  cases hc8 : isW B lim (txc 36) p with
                  | true =>
                    refine nv_if hct true rfl (zcT5 (show x8.toInt = 1 by rw [hx8, hc8]; rfl) (by decide)) ?_
                    refine nv_cut hct nvC 71 124 4 (S' := (d + 5, [], 71, 124, [(0, .inr (.inr (some 1)))], [.inl (0 : Int32)], M8)) hE.1 rfl ?_
                    exact nv_iret hct rfl rfl ⟨_, rfl, rfl, by simp only [nmP, nmL, List.all_cons, hw, hc8, hc1, hc2, hc3, hc4, hc5, hc6, hc7,  Bool.not_true, Bool.not_false, Bool.and_false, Bool.false_and, Bool.true_and, cond_false]⟩
                  | false =>
                    refine nv_if hct false rfl (zcF5 (show x8.toInt = 0 by rw [hx8, hc8]; rfl) rfl) ?_
                    refine nv_cut hct nvC 93 0 7 (S' := (d + 4, [(71, 116, [(0, .inr (.inr (some 1)))], [])], 93, 0, la 0 [.inr (.inr (some 2)), .inr (.inr (some (aSB + 15)))], [], M8)) hE.1 rfl ?_
                    refine nv_calli (c_isWord hz hE hT (k := 15) (by decide)) (fun x9 M9 ⟨e9, hx9⟩ => ?_)
                    subst e9
                    have hx9 : x9 = bif isW B lim (txc 41) p then 1 else 0 := hx9
                    refine nv_cut hct nvC 71 116 3 (S' := (d + 5, [], 71, 116, [(0, .inr (.inr (some 1)))], [.inl x9], M9)) hE.1 rfl ?_
                    cases hc9 : isW B lim (txc 41) p with
                    | true =>
                      refine nv_if hct true rfl (zcT5 (show x9.toInt = 1 by rw [hx9, hc9]; rfl) (by decide)) ?_
                      refine nv_cut hct nvC 71 124 4 (S' := (d + 5, [], 71, 124, [(0, .inr (.inr (some 1)))], [.inl (0 : Int32)], M9)) hE.1 rfl ?_
                      exact nv_iret hct rfl rfl ⟨_, rfl, rfl, by simp only [nmP, nmL, List.all_cons, hw, hc9, hc1, hc2, hc3, hc4, hc5, hc6, hc7, hc8,  Bool.not_true, Bool.not_false, Bool.and_false, Bool.false_and, Bool.true_and, cond_false]⟩
                    | false =>
                      refine nv_if hct false rfl (zcF5 (show x9.toInt = 0 by rw [hx9, hc9]; rfl) rfl) ?_
                      refine nv_cut hct nvC 71 124 5 (S' := (d + 5, [], 71, 124, [(0, .inr (.inr (some 1)))], [.inl (1 : Int32)], M9)) hE.1 rfl ?_
                      exact nv_iret hct rfl rfl ⟨_, rfl, rfl, by simp only [nmP, nmL, List.all_cons, List.all_nil, hw, hc1, hc2, hc3, hc4, hc5, hc6, hc7, hc8, hc9,  Bool.not_false, Bool.and_true, cond_true]⟩
set_option maxHeartbeats 4000000 in
theorem c_takeSide {cd : Nat → Nat → Option aI} {z : Bool} (hz : ∀ m p i, cd0 z m p = some i → cd m p = some i) {t0 : Nat} {B : Nat → Int} {lim : Nat} {M : aM} (hE : EnC t0 B lim M) {m : pmd} (hS : StC B lim M m) {d : Nat} : wpS cd (d + 5, [], 68, 0, nv_l (tauC t0) (la 0 [.inr (.inr (some 1))]), [], M) (fun r M' => ∃ x, r = some (.inl x) ∧ eqE fC M M' ∧ StC B lim M' (m_adv B lim (m_if B lim 1 (decide (sid B lim m = -1)) m))) := by
  show wpS cd (nv_S (tauC t0) (d + 5, [], 68, 0, la 0 [.inr (.inr (some 1))], [], M)) _
  have hct := hc_of hz
  have hS0 := hS
  obtain ⟨p, ⟨hp, hT⟩, hm⟩ := hS0
  refine nv_cut hct nvC 68 2 5 (S' := (d + 5, [], 68, 2, [(1, .inl (0 : Int32)), (0, .inr (.inr (some 1)))], [], M)) hE.1 rfl ?_
  have key : ∀ M2 (sd : Int32), eqE fC M M2 → StC B lim M2 (m_if B lim 1 (decide (sid B lim m = -1)) m) → wpS cd (nv_S (tauC t0) (d + 5, [], 68, 77, [(1, .inl sd), (0, .inr (.inr (some 1)))], [], M2)) (fun r M' => ∃ x, r = some (.inl x) ∧ eqE fC M M' ∧ StC B lim M' (m_adv B lim (m_if B lim 1 (decide (sid B lim m = -1)) m))) := by
    intro M2 sd q2 S2
    have E2 := Ec_C q2 hE
    refine nv_cut hct nvC 91 0 6 (S' := (d + 4, [(68, 84, [(1, .inl sd), (0, .inr (.inr (some 1)))], [])], 91, 0, la 0 [.inr (.inr (some 2))], [], M2)) E2.1 rfl ?_
    refine nv_callv (c_adv hz E2 S2) (fun M3 ⟨q3, S3⟩ => ?_)
    refine nv_cut hct nvC 68 85 4 (S' := (d + 5, [], 68, 85, [(1, .inl sd), (0, .inr (.inr (some 1)))], [.inl sd], M3)) (Ec_C q3 E2).1 rfl ?_
    exact nv_iret hct rfl rfl ⟨_, rfl, eqE_tr q2 q3, S3⟩
  refine nv_cut hct nvC 93 0 7 (S' := (d + 4, [(68, 11, [(1, .inl (0 : Int32)), (0, .inr (.inr (some 1)))], [])], 93, 0, la 0 [.inr (.inr (some 2)), .inr (.inr (some (aSB + 20)))], [], M)) hE.1 rfl ?_
  refine nv_calli (c_isWord hz hE hT (k := 20) (by decide)) (fun x0 N0 ⟨g0, y0⟩ => ?_)
  subst g0
  have y0 : x0 = bif isW B lim (txc 46) p then 1 else 0 := y0
  refine nv_cut hct nvC 68 11 3 (S' := (d + 5, [], 68, 11, [(1, .inl (0 : Int32)), (0, .inr (.inr (some 1)))], [.inl x0], N0)) hE.1 rfl ?_
  cases c0 : isW B lim (txc 46) p with
  | true =>
    refine nv_if hct false rfl (zcF1 (show x0.toInt = 1 by rw [y0, c0]; rfl) (by decide)) ?_
    refine nv_cut hct nvC 68 77 6 (S' := (d + 5, [], 68, 77, [(1, .inl (0 : Int32)), (0, .inr (.inr (some 1)))], [], N0)) hE.1 rfl ?_
    refine key _ _ eqE_rf ?_
    rcases m with q | f
    · obtain ⟨rfl, _⟩ := hm
      have hs : sid B lim (.inl q) = 0 := by show (bif isW B lim (txc 46) q then _ else bif isW B lim (txc 47) q then _ else bif isW B lim (txc 48) q then _ else bif isW B lim (txc 49) q then _ else _) = _; rw [c0]; rfl
      rw [hs]; exact hS
    · exact hS
  | false =>
    refine nv_if hct true rfl (zcT1 (show x0.toInt = 0 by rw [y0, c0]; rfl) rfl) ?_
    refine nv_cut hct nvC 93 0 7 (S' := (d + 4, [(68, 28, [(1, .inl (0 : Int32)), (0, .inr (.inr (some 1)))], [])], 93, 0, la 0 [.inr (.inr (some 2)), .inr (.inr (some (aSB + 21)))], [], N0)) hE.1 rfl ?_
    refine nv_calli (c_isWord hz hE hT (k := 21) (by decide)) (fun x1 N1 ⟨g1, y1⟩ => ?_)
    subst g1
    have y1 : x1 = bif isW B lim (txc 47) p then 1 else 0 := y1
    refine nv_cut hct nvC 68 28 3 (S' := (d + 5, [], 68, 28, [(1, .inl (0 : Int32)), (0, .inr (.inr (some 1)))], [.inl x1], N1)) hE.1 rfl ?_
    cases c1 : isW B lim (txc 47) p with
    | true =>
      refine nv_if hct false rfl (zcF1 (show x1.toInt = 1 by rw [y1, c1]; rfl) (by decide)) ?_
      refine nv_cut hct nvC 68 77 6 (S' := (d + 5, [], 68, 77, [(1, .inl (1 : Int32)), (0, .inr (.inr (some 1)))], [], N1)) hE.1 rfl ?_
      refine key _ _ eqE_rf ?_
      rcases m with q | f
      · obtain ⟨rfl, _⟩ := hm
        have hs : sid B lim (.inl q) = 1 := by show (bif isW B lim (txc 46) q then _ else bif isW B lim (txc 47) q then _ else bif isW B lim (txc 48) q then _ else bif isW B lim (txc 49) q then _ else _) = _; rw [c0, c1]; rfl
        rw [hs]; exact hS
      · exact hS
    | false =>
      refine nv_if hct true rfl (zcT1 (show x1.toInt = 0 by rw [y1, c1]; rfl) rfl) ?_
      refine nv_cut hct nvC 93 0 7 (S' := (d + 4, [(68, 46, [(1, .inl (0 : Int32)), (0, .inr (.inr (some 1)))], [])], 93, 0, la 0 [.inr (.inr (some 2)), .inr (.inr (some (aSB + 22)))], [], N1)) hE.1 rfl ?_
      refine nv_calli (c_isWord hz hE hT (k := 22) (by decide)) (fun x2 N2 ⟨g2, y2⟩ => ?_)
      subst g2
      have y2 : x2 = bif isW B lim (txc 48) p then 1 else 0 := y2
      refine nv_cut hct nvC 68 46 3 (S' := (d + 5, [], 68, 46, [(1, .inl (0 : Int32)), (0, .inr (.inr (some 1)))], [.inl x2], N2)) hE.1 rfl ?_
      cases c2 : isW B lim (txc 48) p with
      | true =>
        refine nv_if hct false rfl (zcF1 (show x2.toInt = 1 by rw [y2, c2]; rfl) (by decide)) ?_
        refine nv_cut hct nvC 68 77 6 (S' := (d + 5, [], 68, 77, [(1, .inl (2 : Int32)), (0, .inr (.inr (some 1)))], [], N2)) hE.1 rfl ?_
        refine key _ _ eqE_rf ?_
        rcases m with q | f
        · obtain ⟨rfl, _⟩ := hm
          have hs : sid B lim (.inl q) = 2 := by show (bif isW B lim (txc 46) q then _ else bif isW B lim (txc 47) q then _ else bif isW B lim (txc 48) q then _ else bif isW B lim (txc 49) q then _ else _) = _; rw [c0, c1, c2]; rfl
          rw [hs]; exact hS
        · exact hS
      | false =>
        refine nv_if hct true rfl (zcT1 (show x2.toInt = 0 by rw [y2, c2]; rfl) rfl) ?_
        refine nv_cut hct nvC 93 0 7 (S' := (d + 4, [(68, 64, [(1, .inl (0 : Int32)), (0, .inr (.inr (some 1)))], [])], 93, 0, la 0 [.inr (.inr (some 2)), .inr (.inr (some (aSB + 23)))], [], N2)) hE.1 rfl ?_
        refine nv_calli (c_isWord hz hE hT (k := 23) (by decide)) (fun x3 N3 ⟨g3, y3⟩ => ?_)
        subst g3
        have y3 : x3 = bif isW B lim (txc 49) p then 1 else 0 := y3
        refine nv_cut hct nvC 68 64 3 (S' := (d + 5, [], 68, 64, [(1, .inl (0 : Int32)), (0, .inr (.inr (some 1)))], [.inl x3], N3)) hE.1 rfl ?_
        cases c3 : isW B lim (txc 49) p with
        | true =>
          refine nv_if hct false rfl (zcF1 (show x3.toInt = 1 by rw [y3, c3]; rfl) (by decide)) ?_
          refine nv_cut hct nvC 68 77 6 (S' := (d + 5, [], 68, 77, [(1, .inl (3 : Int32)), (0, .inr (.inr (some 1)))], [], N3)) hE.1 rfl ?_
          refine key _ _ eqE_rf ?_
          rcases m with q | f
          · obtain ⟨rfl, _⟩ := hm
            have hs : sid B lim (.inl q) = 3 := by show (bif isW B lim (txc 46) q then _ else bif isW B lim (txc 47) q then _ else bif isW B lim (txc 48) q then _ else bif isW B lim (txc 49) q then _ else _) = _; rw [c0, c1, c2, c3]; rfl
            rw [hs]; exact hS
          · exact hS
        | false =>
          refine nv_if hct true rfl (zcT1 (show x3.toInt = 0 by rw [y3, c3]; rfl) rfl) ?_
          refine nv_cut hct nvC 54 0 6 (S' := (d + 4, [(68, 77, [(1, .inl (0 : Int32)), (0, .inr (.inr (some 1)))], [])], 54, 0, la 0 [.inr (.inr (some 1)), .inl (1 : Int32)], [], N3)) hE.1 rfl ?_
          refine nv_callv (c_blame hz hE hS (kn := 1) rfl (by decide)) (fun M2 ⟨q2, S2⟩ => ?_)
          refine nv_cut hct nvC 68 77 3 (S' := (d + 5, [], 68, 77, [(1, .inl (0 : Int32)), (0, .inr (.inr (some 1)))], [], M2)) (Ec_C q2 hE).1 rfl ?_
          refine key M2 _ q2 ?_
          rcases m with q | f
          · obtain ⟨rfl, _⟩ := hm
            have hs : sid B lim (.inl q) = -1 := by show (bif isW B lim (txc 46) q then _ else bif isW B lim (txc 47) q then _ else bif isW B lim (txc 48) q then _ else bif isW B lim (txc 49) q then _ else _) = _; rw [c0, c1, c2, c3]; rfl
            rw [hs]; exact S2
          · exact S2

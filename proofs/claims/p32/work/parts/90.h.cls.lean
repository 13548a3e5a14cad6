/-! Ways, hards, seers, froms of the class: printed by wip/gen/clsp8.py -/
theorem nam_full {B : Nat → Int} {lim p q : Nat} {full : Bool} (h : nam0 B lim p full = .inl q) : full = false := by
  obtain ⟨r, hr⟩ := adv_inl (show m_adv B lim (m_if B lim 5 full (.inl p)) = .inl q from h)
  exact (if_inl hr).2
theorem nam_q {B : Nat → Int} {lim p q : Nat} {L : lsT} {full : Bool} (h : nam3 B lim L p full = .inl q) : (∃ r, tkN B lim L (nam0 B lim p full) = .inl r) ∧ full = false := by
  obtain ⟨r, hr⟩ := adv_inl (show m_adv B lim (tkN B lim L (nam0 B lim p full)) = .inl q from h)
  obtain ⟨h1, _⟩ := if_inl (show m_if B lim 3 _ (m_if B lim 1 (!m_name B lim (nam0 B lim p full)) (nam0 B lim p full)) = .inl r from hr)
  exact ⟨⟨r, hr⟩, nam_full (if_inl h1).1⟩
theorem ClW_wy {t0 : Nat} {M : aM} {L : lsT} {v : Int32} {nm : List (Int × Int)} (ht : t4 t0) (h : ClW t0 M L) (hv : v.toInt = (l_wy L : Int) + 1) (h4 : l_wy L < 4) : ClW t0 (s_I M t0 10 v) (L.1, L.2.1, (l_wy L + 1, L.2.2.1.2), (L.2.2.2.1, nm)) := by
  have ht : t0 = 4 ∨ t0 = 101 := ht
  unfold ClW
  rw [aI_at, aI_nk (fun q => by omega), aI_nk (fun q => by omega), aI_nk (fun q => by omega), aI_nk (fun q => by omega), aI_nk (fun q => by omega)]
  exact ⟨⟨hv.trans (by show _ = ((l_wy L + 1 : Nat) : Int); omega), h4⟩, h.2⟩
theorem ClW_se {t0 : Nat} {M : aM} {L : lsT} {v : Int32} {nm : List (Int × Int)} (ht : t4 t0) (h : ClW t0 M L) (hv : v.toInt = (l_se L : Int) + 1) (h4 : l_se L < 4) : ClW t0 (s_I M t0 11 v) (L.1, L.2.1, (L.2.2.1.1, L.2.2.1.2.1, l_se L + 1), (L.2.2.2.1, nm)) := by
  have ht : t0 = 4 ∨ t0 = 101 := ht
  unfold ClW
  rw [aI_at, aI_nk (fun q => by omega), aI_nk (fun q => by omega), aI_nk (fun q => by omega), aI_nk (fun q => by omega), aI_nk (fun q => by omega)]
  exact ⟨h.1, ⟨hv.trans (by show _ = ((l_se L + 1 : Nat) : Int); omega), h4⟩, h.2.2⟩
theorem ClW_hd {t0 : Nat} {M : aM} {L : lsT} {v : Int32} (ht : t4 t0) (h : ClW t0 M L) (hv : v.toInt = (l_hd L : Int) + 1) (h4 : l_hd L < 10) : ClW t0 (s_I M 1 6 v) (hadL L) := by
  have ht : t0 = 4 ∨ t0 = 101 := ht
  unfold ClW
  rw [aI_at, aI_nk (fun q => by omega), aI_nk (fun q => by omega), aI_nk (fun q => by omega), aI_nk (fun q => by omega), aI_nk (fun q => by omega)]
  exact ⟨h.1, h.2.1, ⟨hv.trans (by show _ = ((l_hd L + 1 : Nat) : Int); omega), h4⟩, h.2.2.2⟩
set_option maxHeartbeats 4000000 in
theorem c_way {cd : Nat → Nat → Option aI} {z : Bool} (hz : ∀ m p i, cd0 z m p = some i → cd m p = some i) {t0 : Nat} {B : Nat → Int} {lim : Nat} {M0 M : aM} {L : lsT} {p : Nat} (R : RdC t0 B lim M0 M (.inl p)) (K : KC t0 B lim M L) (hwf : wfL L) {d : Nat} : wpS cd (d + 7, [], 59, 0, nv_l (tauC t0) (la 0 [.inr (.inr (some 1))]), [], M) (fun r M' => r = none ∧ RdC t0 B lim M0 M' (way3 B lim L p) ∧ ∀ q, way3 B lim L p = .inl q → KC t0 B lim M' (wayL B lim L p)) := by
  show wpS cd (nv_S (tauC t0) (d + 7, [], 59, 0, la 0 [.inr (.inr (some 1))], [], M)) _
  have hct := hc_of hz
  have ht4 := R.1.2.2.2.2
  refine nv_cut hct nvC 59 11 10 (S' := (d + 7, [], 59, 11, [(1, .inl (a_I M t0 10)), (0, .inr (.inr (some 1)))], [.inl (4 : Int32), .inl (a_I M t0 10), .inr (.inr (some 1))], M)) R.1.1 rfl ?_
  have hx := K.2.2.1.1.1
  have key : ∀ M1, eqE fC M M1 → StC B lim M1 (nam0 B lim p (decide (l_wy L = 4))) → wpS cd (nv_S (tauC t0) (d + 7, [], 59, 23, [(1, .inl (a_I M t0 10)), (0, .inr (.inr (some 1)))], [], M1)) (fun r M' => r = none ∧ RdC t0 B lim M0 M' (way3 B lim L p) ∧ ∀ q, way3 B lim L p = .inl q → KC t0 B lim M' (wayL B lim L p)) := by
    intro M1 g1 S1
    have R1_ : RdC t0 B lim M0 M1 (nam0 B lim p (decide (l_wy L = 4))) := Rc_N R (fC_N g1) S1
    have KR1 := ClR_N ht4 (fC_N g1) K.1
    have KB1 := ClB_N (fC_N g1) K.2.1
    have KW1 := ClW_N ht4 (fC_N g1) K.2.2.1
    have KN1 := CN_C g1 K.2.2.2.1
    have hlen : ∀ q, nam0 B lim p (decide (l_wy L = 4)) = .inl q → (l_nm L).length < 8 := fun q e => by
      have h4 := of_decide_eq_false (nam_full e)
      have hw : (l_nm L).length = l_wy L + l_se L := hwf
      have h5 := K.2.2.1.1.2
      have h6 := K.2.2.1.2.1.2
      omega
    refine nv_cut hct nvC 69 0 6 (S' := (d + 6, [(59, 28, [(1, .inl (a_I M t0 10)), (0, .inr (.inr (some 1)))], [])], 69, 0, la 0 [.inr (.inr (some 1)), .inl (a_I M t0 10)], [], M1)) R1_.1.1 rfl ?_
    refine nv_callv (c_takeNew hz R1_.1 R1_.2.1 KN1 hlen) (fun M2 ⟨g2, S2, n2⟩ => ?_)
    have R2_ : RdC t0 B lim M0 M2 (way0 B lim L p) := Rc_N R1_ g2 S2
    have KR2 := ClR_N ht4 g2 KR1
    have KB2 := ClB_N g2 KB1
    have KW2 := ClW_N ht4 g2 KW1
    refine nv_cut hct nvC 67 0 8 (S' := (d + 6, [(59, 37, [(1, .inl (a_I M t0 10)), (0, .inr (.inr (some 1)))], [])], 67, 0, la 0 [.inr (.inr (some 1)), .inr (.inr (some (aSB + 16))), .inl (0 : Int32), .inl (99 : Int32)], [], M2)) R2_.1.1 rfl ?_
    refine nv_calli (c_takeNum hz R2_.1 R2_.2.1 (k := 16) (by decide)) (fun v3 M3 ⟨g3, S3, h3⟩ => ?_)
    have h3 : ∀ q, way1 B lim L p = .inl q → v3.toInt = m_val B lim (m_wd B lim (txc 42) (way0 B lim L p)) ∧ 0 ≤ v3.toInt ∧ v3.toInt ≤ 99 := h3
    have R3_ : RdC t0 B lim M0 M3 (way1 B lim L p) := Rc_N R2_ (fC_N g3) S3
    have KR3 := ClR_N ht4 (fC_N g3) KR2
    have KB3 := ClB_N (fC_N g3) KB2
    have KW3 := ClW_N ht4 (fC_N g3) KW2
    have n3 := fun r e => CN_C g3 (n2 r e)
    refine nv_cut hct nvC 67 0 9 (S' := (d + 6, [(59, 47, [(2, .inl v3), (1, .inl (a_I M t0 10)), (0, .inr (.inr (some 1)))], [])], 67, 0, la 0 [.inr (.inr (some 1)), .inr (.inr (some (aSB + 17))), .inl (0 : Int32), .inl (100 : Int32)], [], M3)) R3_.1.1 rfl ?_
    refine nv_calli (c_takeNum hz R3_.1 R3_.2.1 (k := 17) (by decide)) (fun v4 M4 ⟨g4, S4, h4⟩ => ?_)
    have h4 : ∀ q, way2 B lim L p = .inl q → v4.toInt = m_val B lim (m_wd B lim (txc 43) (way1 B lim L p)) ∧ 0 ≤ v4.toInt ∧ v4.toInt ≤ 100 := h4
    have R4_ : RdC t0 B lim M0 M4 (way2 B lim L p) := Rc_N R3_ (fC_N g4) S4
    have KR4 := ClR_N ht4 (fC_N g4) KR3
    have KB4 := ClB_N (fC_N g4) KB3
    have KW4 := ClW_N ht4 (fC_N g4) KW3
    have n4 := fun r e => CN_C g4 (n3 r e)
    refine nv_cut hct nvC 67 0 9 (S' := (d + 6, [(59, 57, [(3, .inl v4), (2, .inl v3), (1, .inl (a_I M t0 10)), (0, .inr (.inr (some 1)))], [])], 67, 0, la 0 [.inr (.inr (some 1)), .inr (.inr (some (aSB + 18))), .inl (1 : Int32), .inl (50 : Int32)], [], M4)) R4_.1.1 rfl ?_
    refine nv_calli (c_takeNum hz R4_.1 R4_.2.1 (k := 18) (by decide)) (fun v5 M5 ⟨g5, S5, h5⟩ => ?_)
    have h5 : ∀ q, way3 B lim L p = .inl q → v5.toInt = m_val B lim (m_wd B lim (txc 44) (way2 B lim L p)) ∧ 1 ≤ v5.toInt ∧ v5.toInt ≤ 50 := h5
    have R5_ : RdC t0 B lim M0 M5 (way3 B lim L p) := Rc_N R4_ (fC_N g5) S5
    have KR5 := ClR_N ht4 (fC_N g5) KR4
    have KB5 := ClB_N (fC_N g5) KB4
    have KW5 := ClW_N ht4 (fC_N g5) KW4
    have n5 := fun r e => CN_C g5 (n4 r e)
    refine nv_cut hct nvC 59 63 6 (S' := (d + 7, [], 59, 63, [(4, .inl v5), (3, .inl v4), (2, .inl v3), (1, .inl (a_I M t0 10)), (0, .inr (.inr (some 1)))], [.inl (a_I M5 1 13)], M5)) R5_.1.1 rfl ?_
    cases hm : way3 B lim L p with
    | inr f =>
      have S9 := R5_.2.1
      rw [hm] at S9
      obtain ⟨p9, _, h13, _, h1f⟩ := S9
      refine nv_if hct true rfl (zcT5 h13 (by omega)) ?_
      rw [hm] at R5_
      exact nv_vret hct rfl ⟨rfl, R5_, fun q e => by cases e⟩
    | inl q9 =>
      have S9 := R5_.2.1
      rw [hm] at S9
      obtain ⟨_, h13⟩ := Sc_p S9
      obtain ⟨r2, e2⟩ := pt_inl (show m_pt B lim (txc 44) 1 50 (way2 B lim L p) = .inl _ from hm)
      obtain ⟨r1, e1⟩ := pt_inl (show m_pt B lim (txc 43) 0 100 (way1 B lim L p) = .inl _ from e2)
      obtain ⟨r0, e0⟩ := pt_inl (show m_pt B lim (txc 42) 0 99 (way0 B lim L p) = .inl _ from e1)
      obtain ⟨⟨r9, e9⟩, f9⟩ := nam_q (show nam3 B lim L p (decide (l_wy L = 4)) = .inl _ from e0)
      have h4 := of_decide_eq_false f9
      have h5 : l_wy L ≤ 4 := K.2.2.1.1.2
      refine nv_if hct false rfl (zcF5 (show (a_I M5 1 13).toInt = 0 by rw [h13]; rfl) rfl) ?_
      refine nv_cut hct nvC 59 67 4 (S' := (d + 7, [], 59, 67, [(4, .inl v5), (3, .inl v4), (2, .inl v3), (1, .inl (a_I M t0 10)), (0, .inr (.inr (some 1)))], [.inl (a_I M t0 10)], M5)) R5_.1.1 rfl ?_
      refine nv_if hct false rfl (zcF0 hx (by omega)) ?_
      refine nv_cut hct nvC 59 72 5 (S' := (d + 7, [], 59, 72, [(4, .inl v5), (3, .inl v4), (2, .inl v3), (1, .inl (a_I M t0 10)), (0, .inr (.inr (some 1)))], [.inl (4 : Int32), .inl (a_I M t0 10)], M5)) R5_.1.1 rfl ?_
      refine nv_ifc hct false rfl (ccF4 hx (show ((4 : Int32)).toInt = 4 from rfl) (by omega)) ?_
      rw [hm] at R5_
      have nm := n5 r9 e9
      refine nv_cut hct nvC 59 84 8 (S' := (d + 7, [], 59, 84, [(4, .inl v5), (3, .inl v4), (2, .inl v3), (1, .inl (a_I M t0 10)), (0, .inr (.inr (some 1)))], [.inl v3, .inl (a_I M t0 10), .inr (.inr (some 301))], M5)) R5_.1.1 rfl ?_
      refine nv_ast hct R5_.1.1 rfl (show nvC.1 301 = 15 + 1 from rfl) (show nvC.2.1 301 = 4 + 1 from rfl) (inb_p hx (by omega)) ?_
      rw [tnc hx]
      have nm0 : CN B lim (s_I M5 (t0 + 1) (l_wy L) v3) (addN L (m_hs B lim (nam0 B lim p (decide (l_wy L = 4)))) ((a_I M t0 10)).toInt) := CN_e (aI_nk (fun q => by omega)) (fun i => aI_nk (fun q => by omega)) (fun i => aI_nk (fun q => by omega)) (fun i => aI_nk (fun q => by omega)) nm
      clear nm
      have nm := nm0
      clear nm0
      have R6_ : RdC t0 B lim M0 (s_I M5 (t0 + 1) (l_wy L) v3) (.inl q9) := Rc_t (by decide) (by decide) (Or.inr (by decide)) R5_
      have KR6 : ClR t0 (s_I M5 (t0 + 1) (l_wy L) v3) L := ClR_e (aI_nk (fun q => by omega)) (aI_nk (fun q => by omega)) (aI_nk (fun q => by omega)) (aI_nk (fun q => by omega)) KR5
      have KB6 : ClB (s_I M5 (t0 + 1) (l_wy L) v3) L := ClB_e (aI_nk (fun q => by omega)) (aI_nk (fun q => by omega)) KB5
      have KW6 : ClW t0 (s_I M5 (t0 + 1) (l_wy L) v3) L := ClW_e (aI_nk (fun q => by omega)) (aI_nk (fun q => by omega)) (aI_nk (fun q => by omega)) (aI_nk (fun q => by omega)) (aI_nk (fun q => by omega)) (aI_nk (fun q => by omega)) KW5
      show wpS cd (nv_S (tauC t0) (d + 7, [], 59, 85, [(4, .inl v5), (3, .inl v4), (2, .inl v3), (1, .inl (a_I M t0 10)), (0, .inr (.inr (some 1)))], [], (s_I M5 (t0 + 1) (l_wy L) v3))) _
      generalize (s_I M5 (t0 + 1) (l_wy L) v3) = W6 at nm R6_ KR6 KB6 KW6 ⊢
      refine nv_cut hct nvC 59 94 8 (S' := (d + 7, [], 59, 94, [(4, .inl v5), (3, .inl v4), (2, .inl v3), (1, .inl (a_I M t0 10)), (0, .inr (.inr (some 1)))], [.inl v4, .inl (a_I M t0 10), .inr (.inr (some 302))], W6)) R6_.1.1 rfl ?_
      refine nv_ast hct R6_.1.1 rfl (show nvC.1 302 = 15 + 1 from rfl) (show nvC.2.1 302 = 4 + 1 from rfl) (inb_p hx (by omega)) ?_
      rw [tnc hx]
      have nm1 : CN B lim (s_I W6 (t0 + 2) (l_wy L) v4) (addN L (m_hs B lim (nam0 B lim p (decide (l_wy L = 4)))) ((a_I M t0 10)).toInt) := CN_e (aI_nk (fun q => by omega)) (fun i => aI_nk (fun q => by omega)) (fun i => aI_nk (fun q => by omega)) (fun i => aI_nk (fun q => by omega)) nm
      clear nm
      have nm := nm1
      clear nm1
      have R7_ : RdC t0 B lim M0 (s_I W6 (t0 + 2) (l_wy L) v4) (.inl q9) := Rc_t (by decide) (by decide) (Or.inr (by decide)) R6_
      have KR7 : ClR t0 (s_I W6 (t0 + 2) (l_wy L) v4) L := ClR_e (aI_nk (fun q => by omega)) (aI_nk (fun q => by omega)) (aI_nk (fun q => by omega)) (aI_nk (fun q => by omega)) KR6
      have KB7 : ClB (s_I W6 (t0 + 2) (l_wy L) v4) L := ClB_e (aI_nk (fun q => by omega)) (aI_nk (fun q => by omega)) KB6
      have KW7 : ClW t0 (s_I W6 (t0 + 2) (l_wy L) v4) L := ClW_e (aI_nk (fun q => by omega)) (aI_nk (fun q => by omega)) (aI_nk (fun q => by omega)) (aI_nk (fun q => by omega)) (aI_nk (fun q => by omega)) (aI_nk (fun q => by omega)) KW6
      show wpS cd (nv_S (tauC t0) (d + 7, [], 59, 95, [(4, .inl v5), (3, .inl v4), (2, .inl v3), (1, .inl (a_I M t0 10)), (0, .inr (.inr (some 1)))], [], (s_I W6 (t0 + 2) (l_wy L) v4))) _
      generalize (s_I W6 (t0 + 2) (l_wy L) v4) = W7 at nm R7_ KR7 KB7 KW7 ⊢
      refine nv_cut hct nvC 59 105 8 (S' := (d + 7, [], 59, 105, [(4, .inl v5), (3, .inl v4), (2, .inl v3), (1, .inl (a_I M t0 10)), (0, .inr (.inr (some 1)))], [.inl v5, .inl (a_I M t0 10), .inr (.inr (some 303))], W7)) R7_.1.1 rfl ?_
      refine nv_ast hct R7_.1.1 rfl (show nvC.1 303 = 15 + 1 from rfl) (show nvC.2.1 303 = 4 + 1 from rfl) (inb_p hx (by omega)) ?_
      rw [tnc hx]
      have nm2 : CN B lim (s_I W7 (t0 + 3) (l_wy L) v5) (addN L (m_hs B lim (nam0 B lim p (decide (l_wy L = 4)))) ((a_I M t0 10)).toInt) := CN_e (aI_nk (fun q => by omega)) (fun i => aI_nk (fun q => by omega)) (fun i => aI_nk (fun q => by omega)) (fun i => aI_nk (fun q => by omega)) nm
      clear nm
      have nm := nm2
      clear nm2
      have R8_ : RdC t0 B lim M0 (s_I W7 (t0 + 3) (l_wy L) v5) (.inl q9) := Rc_t (by decide) (by decide) (Or.inr (by decide)) R7_
      have KR8 : ClR t0 (s_I W7 (t0 + 3) (l_wy L) v5) L := ClR_e (aI_nk (fun q => by omega)) (aI_nk (fun q => by omega)) (aI_nk (fun q => by omega)) (aI_nk (fun q => by omega)) KR7
      have KB8 : ClB (s_I W7 (t0 + 3) (l_wy L) v5) L := ClB_e (aI_nk (fun q => by omega)) (aI_nk (fun q => by omega)) KB7
      have KW8 : ClW t0 (s_I W7 (t0 + 3) (l_wy L) v5) L := ClW_e (aI_nk (fun q => by omega)) (aI_nk (fun q => by omega)) (aI_nk (fun q => by omega)) (aI_nk (fun q => by omega)) (aI_nk (fun q => by omega)) (aI_nk (fun q => by omega)) KW7
      show wpS cd (nv_S (tauC t0) (d + 7, [], 59, 106, [(4, .inl v5), (3, .inl v4), (2, .inl v3), (1, .inl (a_I M t0 10)), (0, .inr (.inr (some 1)))], [], (s_I W7 (t0 + 3) (l_wy L) v5))) _
      generalize (s_I W7 (t0 + 3) (l_wy L) v5) = W8 at nm R8_ KR8 KB8 KW8 ⊢
      refine nv_cut hct nvC 59 116 9 (S' := (d + 7, [], 59, 116, [(4, .inl v5), (3, .inl v4), (2, .inl v3), (1, .inl (a_I M t0 10)), (0, .inr (.inr (some 1)))], [], (s_I W8 t0 10 ((a_I M t0 10) + (1 : Int32))))) R8_.1.1 rfl ?_
      have hv := add_p hx (by omega) (by omega)
      have KWz := ClW_wy (nm := l_nm L ++ [(m_hs B lim (nam0 B lim p (decide (l_wy L = 4))), ((a_I M t0 10)).toInt)]) ht4 KW8 hv (by omega)
      have KRz : ClR t0 (s_I W8 t0 10 ((a_I M t0 10) + (1 : Int32))) L := ClR_e (aI_nk (fun q => by omega)) (aI_nk (fun q => by omega)) (aI_nk (fun q => by omega)) (aI_nk (fun q => by omega)) KR8
      have KBz : ClB (s_I W8 t0 10 ((a_I M t0 10) + (1 : Int32))) L := ClB_e (aI_nk (fun q => by omega)) (aI_nk (fun q => by omega)) KB8
      have Nz : CN B lim (s_I W8 t0 10 ((a_I M t0 10) + (1 : Int32))) (addN L (m_hs B lim (nam0 B lim p (decide (l_wy L = 4)))) ((a_I M t0 10)).toInt) := CN_e (aI_nk (fun q => by omega)) (fun i => (aI_nk (fun q => by omega))) (fun i => (aI_nk (fun q => by omega))) (fun i => (aI_nk (fun q => by omega))) nm
      have NBz : NB (addN L (m_hs B lim (nam0 B lim p (decide (l_wy L = 4)))) ((a_I M t0 10)).toInt) := NB_add K.2.2.2.2 (by rw [hx]; omega)
      have Rz : RdC t0 B lim M0 (s_I W8 t0 10 ((a_I M t0 10) + (1 : Int32))) (.inl q9) := Rc_0 (Or.inl ⟨by rw [hv]; omega, by rw [hv]; omega⟩) R8_
      have hLz : wayL B lim L p = (L.1, L.2.1, (l_wy L + 1, L.2.2.1.2), (L.2.2.2.1, l_nm L ++ [(m_hs B lim (nam0 B lim p (decide (l_wy L = 4))), ((a_I M t0 10)).toInt)])) := by
        rw [hx]; rfl
      rw [hLz]
      exact nv_vret hct rfl ⟨rfl, Rz, fun q e => ⟨KRz, KBz, KWz, Nz, NBz⟩⟩
  by_cases hc : l_wy L = 4
  · skip
    refine nv_ifc hct false rfl (ccF0 hx (show ((4 : Int32)).toInt = 4 from rfl) (by omega)) ?_
    refine nv_cut hct nvC 63 0 7 (S' := (d + 6, [(59, 23, [(1, .inl (a_I M t0 10)), (0, .inr (.inr (some 1)))], [])], 63, 0, la 0 [.inr (.inr (some 1)), .inl (1 : Int32), .inl (5 : Int32)], [], M)) R.1.1 rfl ?_
    refine nv_callv (c_beginLine hz R.1 R.2.1 (c := true) rfl (kn := 5) rfl (by decide)) (fun M1 ⟨g1, S1⟩ => ?_)
    exact key M1 g1 (by unfold nam0; rw [decide_eq_true hc]; exact S1)
  · skip
    have h5 : l_wy L ≤ 4 := K.2.2.1.1.2
    refine nv_ifc hct true rfl (ccT0 hx (show ((4 : Int32)).toInt = 4 from rfl) (by omega)) ?_
    refine nv_cut hct nvC 63 0 6 (S' := (d + 6, [(59, 23, [(1, .inl (a_I M t0 10)), (0, .inr (.inr (some 1)))], [])], 63, 0, la 0 [.inr (.inr (some 1)), .inl (0 : Int32), .inl (5 : Int32)], [], M)) R.1.1 rfl ?_
    refine nv_callv (c_beginLine hz R.1 R.2.1 (c := false) rfl (kn := 5) rfl (by decide)) (fun M1 ⟨g1, S1⟩ => ?_)
    exact key M1 g1 (by unfold nam0; rw [decide_eq_false hc]; exact S1)
set_option maxHeartbeats 4000000 in
theorem c_see {cd : Nat → Nat → Option aI} {z : Bool} (hz : ∀ m p i, cd0 z m p = some i → cd m p = some i) {t0 : Nat} {B : Nat → Int} {lim : Nat} {M0 M : aM} {L : lsT} {p : Nat} (R : RdC t0 B lim M0 M (.inl p)) (K : KC t0 B lim M L) (hwf : wfL L) {d : Nat} : wpS cd (d + 7, [], 62, 0, nv_l (tauC t0) (la 0 [.inr (.inr (some 1))]), [], M) (fun r M' => r = none ∧ RdC t0 B lim M0 M' (see1 B lim L p) ∧ ∀ q, see1 B lim L p = .inl q → KC t0 B lim M' (seeL B lim L p)) := by
  show wpS cd (nv_S (tauC t0) (d + 7, [], 62, 0, la 0 [.inr (.inr (some 1))], [], M)) _
  have hct := hc_of hz
  have ht4 := R.1.2.2.2.2
  refine nv_cut hct nvC 62 11 10 (S' := (d + 7, [], 62, 11, [(1, .inl (a_I M t0 11)), (0, .inr (.inr (some 1)))], [.inl (4 : Int32), .inl (a_I M t0 11), .inr (.inr (some 1))], M)) R.1.1 rfl ?_
  have hx := K.2.2.1.2.1.1
  have key : ∀ M1, eqE fC M M1 → StC B lim M1 (nam0 B lim p (decide (l_se L = 4))) → wpS cd (nv_S (tauC t0) (d + 7, [], 62, 23, [(1, .inl (a_I M t0 11)), (0, .inr (.inr (some 1)))], [], M1)) (fun r M' => r = none ∧ RdC t0 B lim M0 M' (see1 B lim L p) ∧ ∀ q, see1 B lim L p = .inl q → KC t0 B lim M' (seeL B lim L p)) := by
    intro M1 g1 S1
    have R1_ : RdC t0 B lim M0 M1 (nam0 B lim p (decide (l_se L = 4))) := Rc_N R (fC_N g1) S1
    have KR1 := ClR_N ht4 (fC_N g1) K.1
    have KB1 := ClB_N (fC_N g1) K.2.1
    have KW1 := ClW_N ht4 (fC_N g1) K.2.2.1
    have KN1 := CN_C g1 K.2.2.2.1
    have hlen : ∀ q, nam0 B lim p (decide (l_se L = 4)) = .inl q → (l_nm L).length < 8 := fun q e => by
      have h4 := of_decide_eq_false (nam_full e)
      have hw : (l_nm L).length = l_wy L + l_se L := hwf
      have h5 := K.2.2.1.1.2
      have h6 := K.2.2.1.2.1.2
      omega
    refine nv_cut hct nvC 69 0 6 (S' := (d + 6, [(62, 28, [(1, .inl (a_I M t0 11)), (0, .inr (.inr (some 1)))], [])], 69, 0, la 0 [.inr (.inr (some 1)), .inl (-1 : Int32)], [], M1)) R1_.1.1 rfl ?_
    refine nv_callv (c_takeNew hz R1_.1 R1_.2.1 KN1 hlen) (fun M2 ⟨g2, S2, n2⟩ => ?_)
    have R2_ : RdC t0 B lim M0 M2 (see0 B lim L p) := Rc_N R1_ g2 S2
    have KR2 := ClR_N ht4 g2 KR1
    have KB2 := ClB_N g2 KB1
    have KW2 := ClW_N ht4 g2 KW1
    refine nv_cut hct nvC 67 0 8 (S' := (d + 6, [(62, 37, [(1, .inl (a_I M t0 11)), (0, .inr (.inr (some 1)))], [])], 67, 0, la 0 [.inr (.inr (some 1)), .inr (.inr (some (aSB + 25))), .inl (1 : Int32), .inl (99 : Int32)], [], M2)) R2_.1.1 rfl ?_
    refine nv_calli (c_takeNum hz R2_.1 R2_.2.1 (k := 25) (by decide)) (fun v3 M3 ⟨g3, S3, h3⟩ => ?_)
    have h3 : ∀ q, see1 B lim L p = .inl q → v3.toInt = m_val B lim (m_wd B lim (txc 51) (see0 B lim L p)) ∧ 1 ≤ v3.toInt ∧ v3.toInt ≤ 99 := h3
    have R3_ : RdC t0 B lim M0 M3 (see1 B lim L p) := Rc_N R2_ (fC_N g3) S3
    have KR3 := ClR_N ht4 (fC_N g3) KR2
    have KB3 := ClB_N (fC_N g3) KB2
    have KW3 := ClW_N ht4 (fC_N g3) KW2
    have n3 := fun r e => CN_C g3 (n2 r e)
    refine nv_cut hct nvC 62 42 6 (S' := (d + 7, [], 62, 42, [(2, .inl v3), (1, .inl (a_I M t0 11)), (0, .inr (.inr (some 1)))], [.inl (a_I M3 1 13)], M3)) R3_.1.1 rfl ?_
    cases hm : see1 B lim L p with
    | inr f =>
      have S9 := R3_.2.1
      rw [hm] at S9
      obtain ⟨p9, _, h13, _, h1f⟩ := S9
      refine nv_if hct true rfl (zcT5 h13 (by omega)) ?_
      rw [hm] at R3_
      exact nv_vret hct rfl ⟨rfl, R3_, fun q e => by cases e⟩
    | inl q9 =>
      have S9 := R3_.2.1
      rw [hm] at S9
      obtain ⟨_, h13⟩ := Sc_p S9
      obtain ⟨r0, e0⟩ := pt_inl (show m_pt B lim (txc 51) 1 99 (see0 B lim L p) = .inl _ from hm)
      obtain ⟨⟨r9, e9⟩, f9⟩ := nam_q (show nam3 B lim L p (decide (l_se L = 4)) = .inl _ from e0)
      have h4 := of_decide_eq_false f9
      have h5 : l_se L ≤ 4 := K.2.2.1.2.1.2
      refine nv_if hct false rfl (zcF5 (show (a_I M3 1 13).toInt = 0 by rw [h13]; rfl) rfl) ?_
      refine nv_cut hct nvC 62 46 4 (S' := (d + 7, [], 62, 46, [(2, .inl v3), (1, .inl (a_I M t0 11)), (0, .inr (.inr (some 1)))], [.inl (a_I M t0 11)], M3)) R3_.1.1 rfl ?_
      refine nv_if hct false rfl (zcF0 hx (by omega)) ?_
      refine nv_cut hct nvC 62 51 5 (S' := (d + 7, [], 62, 51, [(2, .inl v3), (1, .inl (a_I M t0 11)), (0, .inr (.inr (some 1)))], [.inl (4 : Int32), .inl (a_I M t0 11)], M3)) R3_.1.1 rfl ?_
      refine nv_ifc hct false rfl (ccF4 hx (show ((4 : Int32)).toInt = 4 from rfl) (by omega)) ?_
      rw [hm] at R3_
      have nm := n3 r9 e9
      refine nv_cut hct nvC 62 63 8 (S' := (d + 7, [], 62, 63, [(2, .inl v3), (1, .inl (a_I M t0 11)), (0, .inr (.inr (some 1)))], [.inl v3, .inl (a_I M t0 11), .inr (.inr (some 306))], M3)) R3_.1.1 rfl ?_
      refine nv_ast hct R3_.1.1 rfl (show nvC.1 306 = 15 + 1 from rfl) (show nvC.2.1 306 = 4 + 1 from rfl) (inb_p hx (by omega)) ?_
      rw [tnc hx]
      have nm0 : CN B lim (s_I M3 (t0 + 6) (l_se L) v3) (addN L (m_hs B lim (nam0 B lim p (decide (l_se L = 4)))) ((-1 : Int32)).toInt) := CN_e (aI_nk (fun q => by omega)) (fun i => aI_nk (fun q => by omega)) (fun i => aI_nk (fun q => by omega)) (fun i => aI_nk (fun q => by omega)) nm
      clear nm
      have nm := nm0
      clear nm0
      have R4_ : RdC t0 B lim M0 (s_I M3 (t0 + 6) (l_se L) v3) (.inl q9) := Rc_t (by decide) (by decide) (Or.inr (by decide)) R3_
      have KR4 : ClR t0 (s_I M3 (t0 + 6) (l_se L) v3) L := ClR_e (aI_nk (fun q => by omega)) (aI_nk (fun q => by omega)) (aI_nk (fun q => by omega)) (aI_nk (fun q => by omega)) KR3
      have KB4 : ClB (s_I M3 (t0 + 6) (l_se L) v3) L := ClB_e (aI_nk (fun q => by omega)) (aI_nk (fun q => by omega)) KB3
      have KW4 : ClW t0 (s_I M3 (t0 + 6) (l_se L) v3) L := ClW_e (aI_nk (fun q => by omega)) (aI_nk (fun q => by omega)) (aI_nk (fun q => by omega)) (aI_nk (fun q => by omega)) (aI_nk (fun q => by omega)) (aI_nk (fun q => by omega)) KW3
      show wpS cd (nv_S (tauC t0) (d + 7, [], 62, 64, [(2, .inl v3), (1, .inl (a_I M t0 11)), (0, .inr (.inr (some 1)))], [], (s_I M3 (t0 + 6) (l_se L) v3))) _
      generalize (s_I M3 (t0 + 6) (l_se L) v3) = W4 at nm R4_ KR4 KB4 KW4 ⊢
      refine nv_cut hct nvC 62 74 9 (S' := (d + 7, [], 62, 74, [(2, .inl v3), (1, .inl (a_I M t0 11)), (0, .inr (.inr (some 1)))], [], (s_I W4 t0 11 ((a_I M t0 11) + (1 : Int32))))) R4_.1.1 rfl ?_
      have hv := add_p hx (by omega) (by omega)
      have KWz := ClW_se (nm := l_nm L ++ [(m_hs B lim (nam0 B lim p (decide (l_se L = 4))), ((-1 : Int32)).toInt)]) ht4 KW4 hv (by omega)
      have KRz : ClR t0 (s_I W4 t0 11 ((a_I M t0 11) + (1 : Int32))) L := ClR_e (aI_nk (fun q => by omega)) (aI_nk (fun q => by omega)) (aI_nk (fun q => by omega)) (aI_nk (fun q => by omega)) KR4
      have KBz : ClB (s_I W4 t0 11 ((a_I M t0 11) + (1 : Int32))) L := ClB_e (aI_nk (fun q => by omega)) (aI_nk (fun q => by omega)) KB4
      have Nz : CN B lim (s_I W4 t0 11 ((a_I M t0 11) + (1 : Int32))) (addN L (m_hs B lim (nam0 B lim p (decide (l_se L = 4)))) ((-1 : Int32)).toInt) := CN_e (aI_nk (fun q => by omega)) (fun i => (aI_nk (fun q => by omega))) (fun i => (aI_nk (fun q => by omega))) (fun i => (aI_nk (fun q => by omega))) nm
      have NBz : NB (addN L (m_hs B lim (nam0 B lim p (decide (l_se L = 4)))) ((-1 : Int32)).toInt) := NB_add K.2.2.2.2 (by decide)
      have Rz : RdC t0 B lim M0 (s_I W4 t0 11 ((a_I M t0 11) + (1 : Int32))) (.inl q9) := Rc_0 (Or.inl ⟨by rw [hv]; omega, by rw [hv]; omega⟩) R4_
      have hLz : seeL B lim L p = (L.1, L.2.1, (L.2.2.1.1, L.2.2.1.2.1, l_se L + 1), (L.2.2.2.1, l_nm L ++ [(m_hs B lim (nam0 B lim p (decide (l_se L = 4))), ((-1 : Int32)).toInt)])) := by
        rfl
      rw [hLz]
      exact nv_vret hct rfl ⟨rfl, Rz, fun q e => ⟨KRz, KBz, KWz, Nz, NBz⟩⟩
  by_cases hc : l_se L = 4
  · skip
    refine nv_ifc hct false rfl (ccF0 hx (show ((4 : Int32)).toInt = 4 from rfl) (by omega)) ?_
    refine nv_cut hct nvC 63 0 7 (S' := (d + 6, [(62, 23, [(1, .inl (a_I M t0 11)), (0, .inr (.inr (some 1)))], [])], 63, 0, la 0 [.inr (.inr (some 1)), .inl (1 : Int32), .inl (5 : Int32)], [], M)) R.1.1 rfl ?_
    refine nv_callv (c_beginLine hz R.1 R.2.1 (c := true) rfl (kn := 5) rfl (by decide)) (fun M1 ⟨g1, S1⟩ => ?_)
    exact key M1 g1 (by unfold nam0; rw [decide_eq_true hc]; exact S1)
  · skip
    have h5 : l_se L ≤ 4 := K.2.2.1.2.1.2
    refine nv_ifc hct true rfl (ccT0 hx (show ((4 : Int32)).toInt = 4 from rfl) (by omega)) ?_
    refine nv_cut hct nvC 63 0 6 (S' := (d + 6, [(62, 23, [(1, .inl (a_I M t0 11)), (0, .inr (.inr (some 1)))], [])], 63, 0, la 0 [.inr (.inr (some 1)), .inl (0 : Int32), .inl (5 : Int32)], [], M)) R.1.1 rfl ?_
    refine nv_callv (c_beginLine hz R.1 R.2.1 (c := false) rfl (kn := 5) rfl (by decide)) (fun M1 ⟨g1, S1⟩ => ?_)
    exact key M1 g1 (by unfold nam0; rw [decide_eq_false hc]; exact S1)

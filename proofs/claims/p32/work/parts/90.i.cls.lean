/-! Hards, froms of the class: printed by wip/gen/clsp9.py -/
set_option maxHeartbeats 4000000 in
theorem c_had {cd : Nat → Nat → Option aI} {z : Bool} (hz : ∀ m p i, cd0 z m p = some i → cd m p = some i) {t0 : Nat} {B : Nat → Int} {lim : Nat} {M0 M : aM} {L : lsT} {p : Nat} (R : RdC t0 B lim M0 M (.inl p)) (K : KC t0 B lim M L) {d : Nat} : wpS cd (d + 7, [], 60, 0, nv_l (tauC t0) (la 0 [.inr (.inr (some 1))]), [], M) (fun r M' => r = none ∧ RdC t0 B lim M0 M' (had3 B lim L p) ∧ ∀ q, had3 B lim L p = .inl q → KC t0 B lim M' (hadL L)) := by
  show wpS cd (nv_S (tauC t0) (d + 7, [], 60, 0, la 0 [.inr (.inr (some 1))], [], M)) _
  have hct := hc_of hz
  have ht4 := R.1.2.2.2.2
  refine nv_cut hct nvC 60 7 7 (S' := (d + 7, [], 60, 7, [(0, .inr (.inr (some 1)))], [.inl (10 : Int32), .inl (a_I M 1 6), .inr (.inr (some 1))], M)) R.1.1 rfl ?_
  have hx := K.2.2.1.2.2.1.1
  have h5 := K.2.2.1.2.2.1.2
  have key : ∀ M1, eqE fC M M1 → StC B lim M1 (had0 B lim L p) → wpS cd (nv_S (tauC t0) (d + 7, [], 60, 19, [(0, .inr (.inr (some 1)))], [], M1)) (fun r M' => r = none ∧ RdC t0 B lim M0 M' (had3 B lim L p) ∧ ∀ q, had3 B lim L p = .inl q → KC t0 B lim M' (hadL L)) := by
    intro M1 g1 S1
    have R1_ : RdC t0 B lim M0 M1 (had0 B lim L p) := Rc_N R (fC_N g1) S1
    have KR1 := ClR_N ht4 (fC_N g1) K.1
    have KB1 := ClB_N (fC_N g1) K.2.1
    have KW1 := ClW_N ht4 (fC_N g1) K.2.2.1
    have KN1 := CN_C g1 K.2.2.2.1
    refine nv_cut hct nvC 66 0 7 (S' := (d + 6, [(60, 26, [(0, .inr (.inr (some 1)))], [])], 66, 0, la 0 [.inr (.inr (some 1)), .inl (0 : Int32), .inl (29 : Int32)], [], M1)) R1_.1.1 rfl ?_
    refine nv_calli (c_takeWhole hz R1_.1 R1_.2.1) (fun v2 M2 ⟨g2, S2, h2⟩ => ?_)
    have h2 : ∀ q, had1 B lim L p = .inl q → v2.toInt = m_val B lim (had0 B lim L p) ∧ 0 ≤ v2.toInt ∧ v2.toInt ≤ 29 := h2
    have R2_ : RdC t0 B lim M0 M2 (had1 B lim L p) := Rc_N R1_ (fC_N g2) S2
    have KR2 := ClR_N ht4 (fC_N g2) KR1
    have KB2 := ClB_N (fC_N g2) KB1
    have KW2 := ClW_N ht4 (fC_N g2) KW1
    have KN2 := CN_C g2 KN1
    refine nv_cut hct nvC 67 0 9 (S' := (d + 6, [(60, 36, [(1, .inl v2), (0, .inr (.inr (some 1)))], [])], 67, 0, la 0 [.inr (.inr (some 1)), .inr (.inr (some (aSB + 19))), .inl (1 : Int32), .inl (9 : Int32)], [], M2)) R2_.1.1 rfl ?_
    refine nv_calli (c_takeNum hz R2_.1 R2_.2.1 (k := 19) (by decide)) (fun v3 M3 ⟨g3, S3, h3⟩ => ?_)
    have h3 : ∀ q, had2 B lim L p = .inl q → v3.toInt = m_val B lim (m_wd B lim (txc 45) (had1 B lim L p)) ∧ 1 ≤ v3.toInt ∧ v3.toInt ≤ 9 := h3
    have R3_ : RdC t0 B lim M0 M3 (had2 B lim L p) := Rc_N R2_ (fC_N g3) S3
    have KR3 := ClR_N ht4 (fC_N g3) KR2
    have KB3 := ClB_N (fC_N g3) KB2
    have KW3 := ClW_N ht4 (fC_N g3) KW2
    have KN3 := CN_C g3 KN2
    refine nv_cut hct nvC 68 0 6 (S' := (d + 6, [(60, 41, [(2, .inl v3), (1, .inl v2), (0, .inr (.inr (some 1)))], [])], 68, 0, la 0 [.inr (.inr (some 1))], [], M3)) R3_.1.1 rfl ?_
    refine nv_calli (c_takeSide hz R3_.1 R3_.2.1) (fun v4 M4 ⟨g4, S4⟩ => ?_)
    have R4_ : RdC t0 B lim M0 M4 (had3 B lim L p) := Rc_N R3_ (fC_N g4) S4
    have KR4 := ClR_N ht4 (fC_N g4) KR3
    have KB4 := ClB_N (fC_N g4) KB3
    have KW4 := ClW_N ht4 (fC_N g4) KW3
    have KN4 := CN_C g4 KN3
    refine nv_cut hct nvC 60 46 6 (S' := (d + 7, [], 60, 46, [(3, .inl v4), (2, .inl v3), (1, .inl v2), (0, .inr (.inr (some 1)))], [.inl (a_I M4 1 13)], M4)) R4_.1.1 rfl ?_
    cases hm : had3 B lim L p with
    | inr f =>
      have S9 := R4_.2.1
      rw [hm] at S9
      obtain ⟨p9, _, h13, _, h1f⟩ := S9
      refine nv_if hct true rfl (zcT5 h13 (by omega)) ?_
      rw [hm] at R4_
      exact nv_vret hct rfl ⟨rfl, R4_, fun q e => by cases e⟩
    | inl q9 =>
      have S9 := R4_.2.1
      rw [hm] at S9
      obtain ⟨_, h13⟩ := Sc_p S9
      obtain ⟨r3, e3⟩ := adv_inl (show m_adv B lim (m_if B lim 1 (decide (sid B lim (had2 B lim L p) = -1)) (had2 B lim L p)) = .inl q9 from hm)
      obtain ⟨r1, e1⟩ := pt_inl (show m_pt B lim (txc 45) 1 9 (had1 B lim L p) = .inl _ from (if_inl e3).1)
      obtain ⟨r0, e0⟩ := wh_inl (show m_wh B lim 0 29 (had0 B lim L p) = .inl _ from e1)
      obtain ⟨r9, e9⟩ := adv_inl (show m_adv B lim (m_if B lim 5 (decide (l_hd L = 10)) (.inl p)) = .inl _ from e0)
      have h4 := of_decide_eq_false (if_inl e9).2
      have hv2 := (h2 r1 e1).2
      obtain ⟨vn, hvn⟩ : ∃ n : Nat, v2.toInt = (n : Int) := ⟨v2.toInt.toNat, by omega⟩
      refine nv_if hct false rfl (zcF5 (show (a_I M4 1 13).toInt = 0 by rw [h13]; rfl) rfl) ?_
      refine nv_cut hct nvC 60 50 4 (S' := (d + 7, [], 60, 50, [(3, .inl v4), (2, .inl v3), (1, .inl v2), (0, .inr (.inr (some 1)))], [.inl v2], M4)) R4_.1.1 rfl ?_
      refine nv_if hct false rfl (zcF0 hvn (by omega)) ?_
      refine nv_cut hct nvC 60 56 5 (S' := (d + 7, [], 60, 56, [(3, .inl v4), (2, .inl v3), (1, .inl v2), (0, .inr (.inr (some 1)))], [.inl (30 : Int32), .inl v2], M4)) R4_.1.1 rfl ?_
      refine nv_ifc hct false rfl (ccF4 hvn (show ((30 : Int32)).toInt = 30 from rfl) (by omega)) ?_
      rw [hm] at R4_
      have F6 : a_I M4 1 6 = a_I M 1 6 := (g4.2.2 _ _ rfl).trans ((g3.2.2 _ _ rfl).trans ((g2.2.2 _ _ rfl).trans (g1.2.2 _ _ rfl)))
      refine nv_cut hct nvC 60 68 8 (S' := (d + 7, [], 60, 68, [(3, .inl v4), (2, .inl v3), (1, .inl v2), (0, .inr (.inr (some 1)))], [.inl v3, .inl v2, .inr (.inr (some 304))], M4)) R4_.1.1 rfl ?_
      refine nv_ast hct R4_.1.1 rfl (show nvC.1 304 = 15 + 1 from rfl) (show nvC.2.1 304 = 30 + 1 from rfl) (inb_p hvn (by omega)) ?_
      rw [tnc hvn]
      have R5_ : RdC t0 B lim M0 (s_I M4 (t0 + 4) vn v3) (.inl q9) := Rc_t (by decide) (by decide) (Or.inr (by decide)) R4_
      have KR5 : ClR t0 (s_I M4 (t0 + 4) vn v3) L := ClR_e (aI_nk (fun q => by omega)) (aI_nk (fun q => by omega)) (aI_nk (fun q => by omega)) (aI_nk (fun q => by omega)) KR4
      have KB5 : ClB (s_I M4 (t0 + 4) vn v3) L := ClB_e (aI_nk (fun q => by omega)) (aI_nk (fun q => by omega)) KB4
      have KW5 : ClW t0 (s_I M4 (t0 + 4) vn v3) L := ClW_e (aI_nk (fun q => by omega)) (aI_nk (fun q => by omega)) (aI_nk (fun q => by omega)) (aI_nk (fun q => by omega)) (aI_nk (fun q => by omega)) (aI_nk (fun q => by omega)) KW4
      have KN5 : CN B lim (s_I M4 (t0 + 4) vn v3) L := CN_e (aI_nk (fun q => by omega)) (fun i => (aI_nk (fun q => by omega))) (fun i => (aI_nk (fun q => by omega))) (fun i => (aI_nk (fun q => by omega))) KN4
      have Fx5 : a_I (s_I M4 (t0 + 4) vn v3) 1 6 = a_I M 1 6 := (aI_nk (fun q => by omega)).trans F6
      show wpS cd (nv_S (tauC t0) (d + 7, [], 60, 69, [(3, .inl v4), (2, .inl v3), (1, .inl v2), (0, .inr (.inr (some 1)))], [], (s_I M4 (t0 + 4) vn v3))) _
      generalize (s_I M4 (t0 + 4) vn v3) = W5 at R5_ KR5 KB5 KW5 KN5 Fx5 ⊢
      refine nv_cut hct nvC 60 78 8 (S' := (d + 7, [], 60, 78, [(3, .inl v4), (2, .inl v3), (1, .inl v2), (0, .inr (.inr (some 1)))], [.inl v4, .inl v2, .inr (.inr (some 305))], W5)) R5_.1.1 rfl ?_
      refine nv_ast hct R5_.1.1 rfl (show nvC.1 305 = 15 + 1 from rfl) (show nvC.2.1 305 = 30 + 1 from rfl) (inb_p hvn (by omega)) ?_
      rw [tnc hvn]
      have R6_ : RdC t0 B lim M0 (s_I W5 (t0 + 5) vn v4) (.inl q9) := Rc_t (by decide) (by decide) (Or.inr (by decide)) R5_
      have KR6 : ClR t0 (s_I W5 (t0 + 5) vn v4) L := ClR_e (aI_nk (fun q => by omega)) (aI_nk (fun q => by omega)) (aI_nk (fun q => by omega)) (aI_nk (fun q => by omega)) KR5
      have KB6 : ClB (s_I W5 (t0 + 5) vn v4) L := ClB_e (aI_nk (fun q => by omega)) (aI_nk (fun q => by omega)) KB5
      have KW6 : ClW t0 (s_I W5 (t0 + 5) vn v4) L := ClW_e (aI_nk (fun q => by omega)) (aI_nk (fun q => by omega)) (aI_nk (fun q => by omega)) (aI_nk (fun q => by omega)) (aI_nk (fun q => by omega)) (aI_nk (fun q => by omega)) KW5
      have KN6 : CN B lim (s_I W5 (t0 + 5) vn v4) L := CN_e (aI_nk (fun q => by omega)) (fun i => (aI_nk (fun q => by omega))) (fun i => (aI_nk (fun q => by omega))) (fun i => (aI_nk (fun q => by omega))) KN5
      have Fx6 : a_I (s_I W5 (t0 + 5) vn v4) 1 6 = a_I M 1 6 := (aI_nk (fun q => by omega)).trans Fx5
      show wpS cd (nv_S (tauC t0) (d + 7, [], 60, 79, [(3, .inl v4), (2, .inl v3), (1, .inl v2), (0, .inr (.inr (some 1)))], [], (s_I W5 (t0 + 5) vn v4))) _
      generalize (s_I W5 (t0 + 5) vn v4) = W6 at R6_ KR6 KB6 KW6 KN6 Fx6 ⊢
      refine nv_cut hct nvC 60 89 9 (S' := (d + 7, [], 60, 89, [(3, .inl v4), (2, .inl v3), (1, .inl v2), (0, .inr (.inr (some 1)))], [], (s_I W6 1 6 ((a_I W6 1 6) + (1 : Int32))))) R6_.1.1 rfl ?_
      have hv := add_p (show (a_I W6 1 6).toInt = (l_hd L : Int) by rw [Fx6]; exact hx) (by omega) (by omega)
      have KWz := ClW_hd ht4 KW6 hv (by omega)
      have KRz : ClR t0 (s_I W6 1 6 ((a_I W6 1 6) + (1 : Int32))) L := ClR_e (aI_nk (fun q => by omega)) (aI_nk (fun q => by omega)) (aI_nk (fun q => by omega)) (aI_nk (fun q => by omega)) KR6
      have KBz : ClB (s_I W6 1 6 ((a_I W6 1 6) + (1 : Int32))) L := ClB_e (aI_nk (fun q => by omega)) (aI_nk (fun q => by omega)) KB6
      have Nz : CN B lim (s_I W6 1 6 ((a_I W6 1 6) + (1 : Int32))) L := CN_e (aI_nk (fun q => by omega)) (fun i => (aI_nk (fun q => by omega))) (fun i => (aI_nk (fun q => by omega))) (fun i => (aI_nk (fun q => by omega))) KN6
      exact nv_vret hct rfl ⟨rfl, Rc_1 (by decide) (by decide) (Or.inr (by decide)) R6_, fun q e => ⟨KRz, KBz, KWz, Nz, K.2.2.2.2⟩⟩
  by_cases hc : l_hd L = 10
  · skip
    refine nv_ifc hct false rfl (ccF0 hx (show ((10 : Int32)).toInt = 10 from rfl) (by omega)) ?_
    refine nv_cut hct nvC 63 0 7 (S' := (d + 6, [(60, 19, [(0, .inr (.inr (some 1)))], [])], 63, 0, la 0 [.inr (.inr (some 1)), .inl (1 : Int32), .inl (5 : Int32)], [], M)) R.1.1 rfl ?_
    refine nv_callv (c_beginLine hz R.1 R.2.1 (c := true) rfl (kn := 5) rfl (by decide)) (fun M1 ⟨g1, S1⟩ => ?_)
    exact key M1 g1 (by unfold had0; rw [decide_eq_true hc]; exact S1)
  · skip
    refine nv_ifc hct true rfl (ccT0 hx (show ((10 : Int32)).toInt = 10 from rfl) (by omega)) ?_
    refine nv_cut hct nvC 63 0 6 (S' := (d + 6, [(60, 19, [(0, .inr (.inr (some 1)))], [])], 63, 0, la 0 [.inr (.inr (some 1)), .inl (0 : Int32), .inl (5 : Int32)], [], M)) R.1.1 rfl ?_
    refine nv_callv (c_beginLine hz R.1 R.2.1 (c := false) rfl (kn := 5) rfl (by decide)) (fun M1 ⟨g1, S1⟩ => ?_)
    exact key M1 g1 (by unfold had0; rw [decide_eq_false hc]; exact S1)
/-- feeds and ways of the told plan -/
def fF (t0 a _k : Nat) : Bool := Nat.beq a (t0 + 8) || Nat.beq a (t0 + 9)
theorem fF_8 {t0 k : Nat} : fF t0 (t0 + 8) k = true := by unfold fF; rw [Nat.beq_refl]; rfl
theorem fF_9 {t0 k : Nat} : fF t0 (t0 + 9) k = true := by unfold fF; rw [Nat.beq_refl, Bool.or_true]
theorem fF_n {t0 a k : Nat} (h1 : a ≠ t0 + 8) (h2 : a ≠ t0 + 9) : fF t0 a k = false := by unfold fF; rw [nbF h1, nbF h2]; rfl
set_option maxHeartbeats 4000000 in
theorem c_fromL {cd : Nat → Nat → Option aI} {z : Bool} (hz : ∀ m p i, cd0 z m p = some i → cd m p = some i) {t0 : Nat} {B : Nat → Int} {lim : Nat} {M0 : aM} {m : pmd} {x y w : Int32} {d : Nat} {Mz : aM} : ∀ (f : Nat) {j : Nat} {i : Int32} {M : aM}, 30 - j = f → j ≤ 30 → i.toInt = (j : Int) → RdC t0 B lim M0 M m → eqE (fF t0) Mz M → wpS cd (nv_S (tauC t0) (d, [], 49, 11, [(4, .inl i), (0, .inr (.inr (some 307))), (1, .inl x), (2, .inl y), (3, .inl w)], [], M)) (fun r M' => r = none ∧ RdC t0 B lim M0 M' m ∧ eqE (fF t0) Mz M') := by
  have hct := hc_of hz
  intro f
  induction f with
  | zero =>
    intro j i M h1 h2 hi R Q
    refine nv_cut hct nvC 49 15 5 (S' := (d, [], 49, 15, [(4, .inl i), (0, .inr (.inr (some 307))), (1, .inl x), (2, .inl y), (3, .inl w)], [.inl (30 : Int32), .inl i], M)) R.1.1 rfl ?_
    refine nv_ifc hct true rfl (ccT4 hi (show ((30 : Int32)).toInt = 30 from rfl) (by omega)) ?_
    refine nv_cut hct nvC 49 40 3 (S' := (d, [], 49, 40, [(4, .inl i), (0, .inr (.inr (some 307))), (1, .inl x), (2, .inl y), (3, .inl w)], [], M)) R.1.1 rfl ?_
    exact nv_vret hct rfl ⟨rfl, R, Q⟩
  | succ f ih =>
    intro j i M h1 h2 hi R Q
    refine nv_cut hct nvC 49 15 5 (S' := (d, [], 49, 15, [(4, .inl i), (0, .inr (.inr (some 307))), (1, .inl x), (2, .inl y), (3, .inl w)], [.inl (30 : Int32), .inl i], M)) R.1.1 rfl ?_
    refine nv_ifc hct false rfl (ccF4 hi (show ((30 : Int32)).toInt = 30 from rfl) (by omega)) ?_
    refine nv_cut hct nvC 49 25 7 (S' := (d, [], 49, 25, [(4, .inl i), (0, .inr (.inr (some 307))), (1, .inl x), (2, .inl y), (3, .inl w)], [.inl y, .inl i, .inr (.inr (some 308))], M)) R.1.1 rfl ?_
    refine nv_ast hct R.1.1 rfl (show nvC.1 308 = 15 + 1 from rfl) (show nvC.2.1 308 = 30 + 1 from rfl) (inb_p hi (by omega)) ?_
    rw [tnc hi]
    refine nv_cut hct nvC 49 33 7 (S' := (d, [], 49, 33, [(4, .inl i), (0, .inr (.inr (some 307))), (1, .inl x), (2, .inl y), (3, .inl w)], [.inl w, .inl i, .inr (.inr (some 309))], (s_I M (t0 + 8) j y))) (nv_As R.1.1) rfl ?_
    refine nv_ast hct (nv_As R.1.1) rfl (show nvC.1 309 = 15 + 1 from rfl) (show nvC.2.1 309 = 30 + 1 from rfl) (inb_p hi (by omega)) ?_
    rw [tnc hi]
    refine nv_cut hct nvC 49 11 5 (S' := (d, [], 49, 11, [(4, .inl (i + 1)), (0, .inr (.inr (some 307))), (1, .inl x), (2, .inl y), (3, .inl w)], [], (s_I (s_I M (t0 + 8) j y) (t0 + 9) j w))) (nv_As (nv_As R.1.1)) rfl ?_
    exact ih (j := j + 1) (by omega) (by omega) (by rw [add_p hi (by omega) (by omega)]; omega) (Rc_t (j := 9) (by decide) (by decide) (Or.inr (by decide)) (Rc_t (j := 8) (by decide) (by decide) (Or.inr (by decide)) R)) (eqE_s (eqE_s Q fF_8) fF_9)
set_option maxHeartbeats 4000000 in
theorem c_from {cd : Nat → Nat → Option aI} {z : Bool} (hz : ∀ m p i, cd0 z m p = some i → cd m p = some i) {t0 : Nat} {B : Nat → Int} {lim : Nat} {M0 M : aM} {m : pmd} (R : RdC t0 B lim M0 M m) {x y w : Int32} {n : Nat} (hx : x.toInt = (n : Int)) (hn : n ≤ 29) {d : Nat} : wpS cd (d, [], 49, 0, nv_l (tauC t0) (la 0 [.inr (.inr (some 307)), .inl x, .inl y, .inl w]), [], M) (fun r M' => r = none ∧ RdC t0 B lim M0 M' m ∧ eqE (fF t0) M M') := by
  show wpS cd (nv_S (tauC t0) (d, [], 49, 0, la 0 [.inr (.inr (some 307)), .inl x, .inl y, .inl w], [], M)) _
  have hct := hc_of hz
  refine nv_cut hct nvC 49 1 4 (S' := (d, [], 49, 1, [(0, .inr (.inr (some 307))), (1, .inl x), (2, .inl y), (3, .inl w)], [.inl x], M)) R.1.1 rfl ?_
  refine nv_if hct true rfl (zcT4 hx (by omega)) ?_
  refine nv_cut hct nvC 49 11 5 (S' := (d, [], 49, 11, [(4, .inl x), (0, .inr (.inr (some 307))), (1, .inl x), (2, .inl y), (3, .inl w)], [], M)) R.1.1 rfl ?_
  exact c_fromL hz _ (j := n) rfl (by omega) hx R eqE_rf
theorem eat_inl {B : Nat → Int} {lim : Nat} {w : List Nat} {m : pmd} {q : Nat} (h : m_eat B lim w m = .inl q) : ∃ p, m = .inl p := by
  unfold m_eat at h
  cases hb : m_is B lim w m with
  | true => rw [hb] at h; exact adv_inl h
  | false => rw [hb] at h; exact ⟨q, h⟩
theorem isB_ast {v : Int32} (h : isB v = true) : isB (astf 2 v) = true := by
  rcases (Bool.or_eq_true _ _).mp h with e | e
  · rw [of_decide_eq_true e]; decide
  · rw [of_decide_eq_true e]; decide
theorem ClW_fr {t0 : Nat} {M : aM} {L : lsT} {f0 v c : Int32} {v' : Int} (ht : t4 t0) (h : ClW t0 M L) (hf : f0.toInt = (if l_fr L = 0 then v' else l_f0 L)) (hv : v.toInt = v' ∧ -1 ≤ v.toInt ∧ v.toInt ≤ 29) (hc : c.toInt = (l_fr L : Int) + 1) (h8 : l_fr L < 8) : ClW t0 (s_I (s_I (s_I M 1 8 f0) 1 9 v) 1 7 c) (L.1, L.2.1, L.2.2.1, (l_fr L + 1, (if l_fr L = 0 then v' else l_f0 L), v'), l_nm L) := by
  have ht : t0 = 4 ∨ t0 = 101 := ht
  have e : ∀ a k, ¬ (a = 1 ∧ 7 ≤ k ∧ k ≤ 9) → a_I (s_I (s_I (s_I M 1 8 f0) 1 9 v) 1 7 c) a k = a_I M a k := fun a k q => by rw [aI_nk (fun q => by omega), aI_nk (fun q => by omega), aI_nk (fun q => by omega)]
  have e8 : a_I (s_I (s_I (s_I M 1 8 f0) 1 9 v) 1 7 c) 1 8 = f0 := by rw [aI_nk (fun q => by omega), aI_nk (fun q => by omega), aI_at]
  have e9 : a_I (s_I (s_I (s_I M 1 8 f0) 1 9 v) 1 7 c) 1 9 = v := by rw [aI_nk (fun q => by omega), aI_at]
  unfold ClW
  rw [aI_at, e8, e9, e t0 10 (by omega), e t0 11 (by omega), e 1 6 (by omega)]
  refine ⟨h.1, h.2.1, h.2.2.1, ⟨hc.trans (by show _ = ((l_fr L + 1 : Nat) : Int); omega), h8⟩, ⟨hv.1, ?_⟩, Or.inr ⟨?_, hf⟩⟩
  · show -1 ≤ v' ∧ v' ≤ 29; omega
  · show 1 ≤ l_fr L + 1; omega
set_option maxHeartbeats 4000000 in
theorem c_frm {cd : Nat → Nat → Option aI} {z : Bool} (hz : ∀ m p i, cd0 z m p = some i → cd m p = some i) {t0 : Nat} {B : Nat → Int} {lim : Nat} {M0 M : aM} {L : lsT} {p : Nat} (R : RdC t0 B lim M0 M (.inl p)) (K : KC t0 B lim M L) {d : Nat} : wpS cd (d + 8, [], 61, 0, nv_l (tauC t0) (la 0 [.inr (.inr (some 1))]), [], M) (fun r M' => r = none ∧ RdC t0 B lim M0 M' (frm8 B lim L p) ∧ ∀ q, frm8 B lim L p = .inl q → KC t0 B lim M' (frmL B lim L p)) := by
  show wpS cd (nv_S (tauC t0) (d + 8, [], 61, 0, la 0 [.inr (.inr (some 1))], [], M)) _
  have hct := hc_of hz
  have ht4 := R.1.2.2.2.2
  refine nv_cut hct nvC 61 7 7 (S' := (d + 8, [], 61, 7, [(0, .inr (.inr (some 1)))], [.inl (8 : Int32), .inl (a_I M 1 7), .inr (.inr (some 1))], M)) R.1.1 rfl ?_
  have hx := K.2.2.1.2.2.2.1.1
  have h5 := K.2.2.1.2.2.2.1.2
  have hfl := K.2.2.1.2.2.2.2.1
  have key : ∀ M1, eqE fC M M1 → StC B lim M1 (frm0 B lim L p) → wpS cd (nv_S (tauC t0) (d + 8, [], 61, 19, [(0, .inr (.inr (some 1)))], [], M1)) (fun r M' => r = none ∧ RdC t0 B lim M0 M' (frm8 B lim L p) ∧ ∀ q, frm8 B lim L p = .inl q → KC t0 B lim M' (frmL B lim L p)) := by
    intro M1 g1 S1
    have R1_ : RdC t0 B lim M0 M1 (frm0 B lim L p) := Rc_N R (fC_N g1) S1
    have KR1 := ClR_N ht4 (fC_N g1) K.1
    have KB1 := ClB_N (fC_N g1) K.2.1
    have KW1 := ClW_N ht4 (fC_N g1) K.2.2.1
    have KN1 := CN_C g1 K.2.2.2.1
    have hlo : (a_I M1 1 9 + 1).toInt = l_fl L + 1 := by
      have e9 : (a_I M1 1 9).toInt = l_fl L := by rw [g1.2.2 1 9 rfl]; exact hfl.1
      rw [add_i]
      · rw [e9]; rfl
      · rw [e9]; show (-2147483648 : Int) ≤ l_fl L + 1; omega
      · rw [e9]; show l_fl L + 1 ≤ (2147483647 : Int); omega
    refine nv_cut hct nvC 66 0 10 (S' := (d + 7, [(61, 31, [(0, .inr (.inr (some 1)))], [])], 66, 0, la 0 [.inr (.inr (some 1)), .inl ((a_I M1 1 9) + (1 : Int32)), .inl (29 : Int32)], [], M1)) R1_.1.1 rfl ?_
    refine nv_calli (c_takeWhole hz R1_.1 R1_.2.1) (fun v2 M2 ⟨g2, S2, h2⟩ => ?_)
    rw [hlo] at S2 h2
    have h2 : ∀ q, frm1 B lim L p = .inl q → v2.toInt = m_val B lim (frm0 B lim L p) ∧ l_fl L + 1 ≤ v2.toInt ∧ v2.toInt ≤ 29 := h2
    have R2_ : RdC t0 B lim M0 M2 (frm1 B lim L p) := Rc_N R1_ (fC_N g2) S2
    have KR2 := ClR_N ht4 (fC_N g2) KR1
    have KB2 := ClB_N (fC_N g2) KB1
    have KW2 := ClW_N ht4 (fC_N g2) KW1
    have KN2 := CN_C g2 KN1
    refine nv_cut hct nvC 67 0 9 (S' := (d + 7, [(61, 41, [(1, .inl v2), (0, .inr (.inr (some 1)))], [])], 67, 0, la 0 [.inr (.inr (some 1)), .inr (.inr (some (aSB + 24))), .inl (1 : Int32), .inl (9 : Int32)], [], M2)) R2_.1.1 rfl ?_
    refine nv_calli (c_takeNum hz R2_.1 R2_.2.1 (k := 24) (by decide)) (fun v3 M3 ⟨g3, S3, h3⟩ => ?_)
    have h3 : ∀ q, frm2 B lim L p = .inl q → v3.toInt = m_val B lim (m_wd B lim (txc 50) (frm1 B lim L p)) ∧ 1 ≤ v3.toInt ∧ v3.toInt ≤ 9 := h3
    have R3_ : RdC t0 B lim M0 M3 (frm2 B lim L p) := Rc_N R2_ (fC_N g3) S3
    have KR3 := ClR_N ht4 (fC_N g3) KR2
    have KB3 := ClB_N (fC_N g3) KB2
    have KW3 := ClW_N ht4 (fC_N g3) KW2
    have KN3 := CN_C g3 KN2
    refine nv_cut hct nvC 64 0 7 (S' := (d + 7, [(61, 48, [(2, .inl v3), (1, .inl v2), (0, .inr (.inr (some 1)))], [])], 64, 0, la 0 [.inr (.inr (some 1)), .inr (.inr (some (aSB + 11)))], [], M3)) R3_.1.1 rfl ?_
    refine nv_callv (c_takeWord hz R3_.1 R3_.2.1 (k := 11) (by decide)) (fun M4 ⟨g4, S4⟩ => ?_)
    have R4_ : RdC t0 B lim M0 M4 (frm3 B lim L p) := Rc_N R3_ (fC_N g4) S4
    have KR4 := ClR_N ht4 (fC_N g4) KR3
    have KB4 := ClB_N (fC_N g4) KB3
    have KW4 := ClW_N ht4 (fC_N g4) KW3
    have KN4 := CN_C g4 KN3
    refine nv_cut hct nvC 70 0 5 (S' := (d + 7, [(61, 52, [(2, .inl v3), (1, .inl v2), (0, .inr (.inr (some 1)))], [])], 70, 0, la 0 [.inr (.inr (some 1))], [], M4)) R4_.1.1 rfl ?_
    refine nv_calli (c_takeWay hz R4_.1 R4_.2.1 KN4 K.2.2.2.2) (fun v5 M5 ⟨g5, S5⟩ => ?_)
    have R5_ : RdC t0 B lim M0 M5 (frm6 B lim L p) := Rc_N R4_ (fC_N g5) S5
    have KR5 := ClR_N ht4 (fC_N g5) KR4
    have KB5 := ClB_N (fC_N g5) KB4
    have KW5 := ClW_N ht4 (fC_N g5) KW4
    have KN5 := CN_C g5 KN4
    refine nv_cut hct nvC 65 0 7 (S' := (d + 7, [(61, 59, [(3, .inl v5), (2, .inl v3), (1, .inl v2), (0, .inr (.inr (some 1)))], [])], 65, 0, la 0 [.inr (.inr (some 1)), .inr (.inr (some (aSB + 10)))], [], M5)) R5_.1.1 rfl ?_
    refine nv_calli (c_takeIf hz R5_.1 R5_.2.1 (k := 10) (by decide)) (fun v6 M6 ⟨g6, S6, b6⟩ => ?_)
    have R6_ : RdC t0 B lim M0 M6 (frm7 B lim L p) := Rc_N R5_ (fC_N g6) S6
    have KR6 := ClR_N ht4 (fC_N g6) KR5
    have KB6 := ClB_N (fC_N g6) KB5
    have KW6 := ClW_N ht4 (fC_N g6) KW5
    have KN6 := CN_C g6 KN5
    refine nv_cut hct nvC 65 0 7 (S' := (d + 7, [(61, 67, [(4, .inl v6), (3, .inl v5), (2, .inl v3), (1, .inl v2), (0, .inr (.inr (some 1)))], [])], 65, 0, la 0 [.inr (.inr (some 1)), .inr (.inr (some (aSB + 15)))], [], M6)) R6_.1.1 rfl ?_
    refine nv_calli (c_takeIf hz R6_.1 R6_.2.1 (k := 15) (by decide)) (fun v7 M7 ⟨g7, S7, b7⟩ => ?_)
    have R7_ : RdC t0 B lim M0 M7 (frm8 B lim L p) := Rc_N R6_ (fC_N g7) S7
    have KR7 := ClR_N ht4 (fC_N g7) KR6
    have KB7 := ClB_N (fC_N g7) KB6
    have KW7 := ClW_N ht4 (fC_N g7) KW6
    have KN7 := CN_C g7 KN6
    refine nv_cut hct nvC 61 73 6 (S' := (d + 8, [], 61, 73, [(5, .inl v7), (4, .inl v6), (3, .inl v5), (2, .inl v3), (1, .inl v2), (0, .inr (.inr (some 1)))], [.inl (a_I M7 1 13)], M7)) R7_.1.1 rfl ?_
    cases hm : frm8 B lim L p with
    | inr f =>
      have S9 := R7_.2.1
      rw [hm] at S9
      obtain ⟨p9, _, h13, _, h1f⟩ := S9
      refine nv_if hct true rfl (zcT5 h13 (by omega)) ?_
      rw [hm] at R7_
      exact nv_vret hct rfl ⟨rfl, R7_, fun q e => by cases e⟩
    | inl q9 =>
      have S9 := R7_.2.1
      rw [hm] at S9
      obtain ⟨_, h13⟩ := Sc_p S9
      obtain ⟨r7, e7⟩ := eat_inl (show m_eat B lim (txc 41) (frm7 B lim L p) = .inl _ from hm)
      obtain ⟨r6, e6⟩ := eat_inl (show m_eat B lim (txc 36) (frm6 B lim L p) = .inl _ from e7)
      obtain ⟨r5, e5⟩ := adv_inl (show m_adv B lim (frm5 B lim L p) = .inl _ from e6)
      have e4 := (if_inl (show m_if B lim 2 (nosn L (m_hs B lim (frm3 B lim L p))) (frm4 B lim L p) = .inl _ from e5)).1
      have e3 := (if_inl (show m_if B lim 1 (!m_name B lim (frm3 B lim L p)) (frm3 B lim L p) = .inl _ from e4)).1
      obtain ⟨r2, e2⟩ := adv_inl (show m_adv B lim (m_if B lim 1 (!m_is B lim (txc 37) (frm2 B lim L p)) (frm2 B lim L p)) = .inl _ from e3)
      obtain ⟨r1, e1⟩ := pt_inl (show m_pt B lim (txc 50) 1 9 (frm1 B lim L p) = .inl _ from (if_inl e2).1)
      obtain ⟨r0, e0⟩ := wh_inl (show m_wh B lim (l_fl L + 1) 29 (frm0 B lim L p) = .inl _ from e1)
      obtain ⟨r9, e9⟩ := adv_inl (show m_adv B lim (m_if B lim 5 (decide (l_fr L = 8)) (.inl p)) = .inl _ from e0)
      have h4 := of_decide_eq_false (if_inl e9).2
      have hv2 := h2 r1 e1
      obtain ⟨vn, hvn⟩ : ∃ n : Nat, v2.toInt = (n : Int) := ⟨v2.toInt.toNat, by omega⟩
      refine nv_if hct false rfl (zcF5 (show (a_I M7 1 13).toInt = 0 by rw [h13]; rfl) rfl) ?_
      refine nv_cut hct nvC 61 77 4 (S' := (d + 8, [], 61, 77, [(5, .inl v7), (4, .inl v6), (3, .inl v5), (2, .inl v3), (1, .inl v2), (0, .inr (.inr (some 1)))], [.inl v2], M7)) R7_.1.1 rfl ?_
      refine nv_if hct false rfl (zcF0 hvn (by omega)) ?_
      refine nv_cut hct nvC 61 83 5 (S' := (d + 8, [], 61, 83, [(5, .inl v7), (4, .inl v6), (3, .inl v5), (2, .inl v3), (1, .inl v2), (0, .inr (.inr (some 1)))], [.inl (30 : Int32), .inl v2], M7)) R7_.1.1 rfl ?_
      refine nv_ifc hct false rfl (ccF4 hvn (show ((30 : Int32)).toInt = 30 from rfl) (by omega)) ?_
      rw [hm] at R7_
      refine nv_cut hct nvC 49 0 10 (S' := (d + 7, [(61, 99, [(5, .inl v7), (4, .inl v6), (3, .inl v5), (2, .inl v3), (1, .inl v2), (0, .inr (.inr (some 1)))], [])], 49, 0, la 0 [.inr (.inr (some 307)), .inl v2, .inl v3, .inl v5], [], M7)) R7_.1.1 rfl ?_
      refine nv_callv (c_from hz R7_ hvn (by omega)) (fun M8 ⟨R8, g8⟩ => ?_)
      have KR8 : ClR t0 M8 L := ClR_e (g8.2.2 _ _ (fF_n (by omega) (by omega))) (g8.2.2 _ _ (fF_n (by omega) (by omega))) (g8.2.2 _ _ (fF_n (by omega) (by omega))) (g8.2.2 _ _ (fF_n (by omega) (by omega))) KR7
      have KB8 : ClB M8 L := ClB_e (g8.2.2 _ _ (fF_n (by omega) (by omega))) (g8.2.2 _ _ (fF_n (by omega) (by omega))) KB7
      have KW8 : ClW t0 M8 L := ClW_e (g8.2.2 _ _ (fF_n (by omega) (by omega))) (g8.2.2 _ _ (fF_n (by omega) (by omega))) (g8.2.2 _ _ (fF_n (by omega) (by omega))) (g8.2.2 _ _ (fF_n (by omega) (by omega))) (g8.2.2 _ _ (fF_n (by omega) (by omega))) (g8.2.2 _ _ (fF_n (by omega) (by omega))) KW7
      have KN8 : CN B lim M8 L := CN_e (g8.2.2 _ _ (fF_n (by omega) (by omega))) (fun i => (g8.2.2 _ _ (fF_n (by omega) (by omega)))) (fun i => (g8.2.2 _ _ (fF_n (by omega) (by omega)))) (fun i => (g8.2.2 _ _ (fF_n (by omega) (by omega)))) KN7
      refine nv_cut hct nvC 61 112 9 (S' := (d + 8, [], 61, 112, [(5, .inl v7), (4, .inl v6), (3, .inl v5), (2, .inl v3), (1, .inl v2), (0, .inr (.inr (some 1)))], [.inl v6, .inl v2, .inr (.inr (some 310))], M8)) R8.1.1 rfl ?_
      refine nv_ast hct R8.1.1 rfl (show nvC.1 310 = 17 + 1 from rfl) (show nvC.2.1 310 = 30 + 1 from rfl) (inb_p hvn (by omega)) ?_
      rw [tnc hvn]
      have R8_ : RdC t0 B lim M0 (s_I M8 (t0 + 10) vn (astf 2 v6)) (.inl q9) := Rc_t (by decide) (by decide) (Or.inl (isB_ast b6)) R8
      have KR8 : ClR t0 (s_I M8 (t0 + 10) vn (astf 2 v6)) L := ClR_e (aI_nk (fun q => by omega)) (aI_nk (fun q => by omega)) (aI_nk (fun q => by omega)) (aI_nk (fun q => by omega)) KR8
      have KB8 : ClB (s_I M8 (t0 + 10) vn (astf 2 v6)) L := ClB_e (aI_nk (fun q => by omega)) (aI_nk (fun q => by omega)) KB8
      have KW8 : ClW t0 (s_I M8 (t0 + 10) vn (astf 2 v6)) L := ClW_e (aI_nk (fun q => by omega)) (aI_nk (fun q => by omega)) (aI_nk (fun q => by omega)) (aI_nk (fun q => by omega)) (aI_nk (fun q => by omega)) (aI_nk (fun q => by omega)) KW8
      have KN8 : CN B lim (s_I M8 (t0 + 10) vn (astf 2 v6)) L := CN_e (aI_nk (fun q => by omega)) (fun i => (aI_nk (fun q => by omega))) (fun i => (aI_nk (fun q => by omega))) (fun i => (aI_nk (fun q => by omega))) KN8
      show wpS cd (nv_S (tauC t0) (d + 8, [], 61, 113, [(5, .inl v7), (4, .inl v6), (3, .inl v5), (2, .inl v3), (1, .inl v2), (0, .inr (.inr (some 1)))], [], (s_I M8 (t0 + 10) vn (astf 2 v6)))) _
      generalize (s_I M8 (t0 + 10) vn (astf 2 v6)) = W8 at R8_ KR8 KB8 KW8 KN8 ⊢
      refine nv_cut hct nvC 61 126 9 (S' := (d + 8, [], 61, 126, [(5, .inl v7), (4, .inl v6), (3, .inl v5), (2, .inl v3), (1, .inl v2), (0, .inr (.inr (some 1)))], [.inl v7, .inl v2, .inr (.inr (some 311))], W8)) R8_.1.1 rfl ?_
      refine nv_ast hct R8_.1.1 rfl (show nvC.1 311 = 17 + 1 from rfl) (show nvC.2.1 311 = 30 + 1 from rfl) (inb_p hvn (by omega)) ?_
      rw [tnc hvn]
      have R9_ : RdC t0 B lim M0 (s_I W8 (t0 + 11) vn (astf 2 v7)) (.inl q9) := Rc_t (by decide) (by decide) (Or.inl (isB_ast b7)) R8_
      have KR9 : ClR t0 (s_I W8 (t0 + 11) vn (astf 2 v7)) L := ClR_e (aI_nk (fun q => by omega)) (aI_nk (fun q => by omega)) (aI_nk (fun q => by omega)) (aI_nk (fun q => by omega)) KR8
      have KB9 : ClB (s_I W8 (t0 + 11) vn (astf 2 v7)) L := ClB_e (aI_nk (fun q => by omega)) (aI_nk (fun q => by omega)) KB8
      have KW9 : ClW t0 (s_I W8 (t0 + 11) vn (astf 2 v7)) L := ClW_e (aI_nk (fun q => by omega)) (aI_nk (fun q => by omega)) (aI_nk (fun q => by omega)) (aI_nk (fun q => by omega)) (aI_nk (fun q => by omega)) (aI_nk (fun q => by omega)) KW8
      have KN9 : CN B lim (s_I W8 (t0 + 11) vn (astf 2 v7)) L := CN_e (aI_nk (fun q => by omega)) (fun i => (aI_nk (fun q => by omega))) (fun i => (aI_nk (fun q => by omega))) (fun i => (aI_nk (fun q => by omega))) KN8
      show wpS cd (nv_S (tauC t0) (d + 8, [], 61, 127, [(5, .inl v7), (4, .inl v6), (3, .inl v5), (2, .inl v3), (1, .inl v2), (0, .inr (.inr (some 1)))], [], (s_I W8 (t0 + 11) vn (astf 2 v7)))) _
      generalize (s_I W8 (t0 + 11) vn (astf 2 v7)) = W9 at R9_ KR9 KB9 KW9 KN9 ⊢
      refine nv_cut hct nvC 61 132 6 (S' := (d + 8, [], 61, 132, [(5, .inl v7), (4, .inl v6), (3, .inl v5), (2, .inl v3), (1, .inl v2), (0, .inr (.inr (some 1)))], [.inl (a_I W9 1 7), .inr (.inr (some 1))], W9)) R9_.1.1 rfl ?_
      have hfr : (a_I W9 1 7).toInt = (l_fr L : Int) := KW9.2.2.2.1.1
      by_cases hc : l_fr L = 0
      · skip
        refine nv_if hct false rfl (zcF5 hfr (by omega)) ?_
        refine nv_cut hct nvC 61 161 15 (S' := (d + 8, [], 61, 161, [(5, .inl v7), (4, .inl v6), (3, .inl v5), (2, .inl v3), (1, .inl v2), (0, .inr (.inr (some 1)))], [], (s_I (s_I (s_I W9 1 8 v2) 1 9 v2) 1 7 ((a_I W9 1 7) + (1 : Int32))))) R9_.1.1 rfl ?_
        have hc9 := add_p hfr (by omega) (by omega)
        have KWz := ClW_fr (f0 := v2) (v := v2) (v' := m_val B lim (frm0 B lim L p)) ht4 KW9 (by rw [if_pos hc]; exact hv2.1) ⟨hv2.1, by omega, by omega⟩ hc9 (by omega)
        have KRz : ClR t0 (s_I (s_I (s_I W9 1 8 v2) 1 9 v2) 1 7 ((a_I W9 1 7) + (1 : Int32))) L := ClR_e ((aI_nk (fun q => by omega)).trans ((aI_nk (fun q => by omega)).trans (aI_nk (fun q => by omega)))) ((aI_nk (fun q => by omega)).trans ((aI_nk (fun q => by omega)).trans (aI_nk (fun q => by omega)))) ((aI_nk (fun q => by omega)).trans ((aI_nk (fun q => by omega)).trans (aI_nk (fun q => by omega)))) ((aI_nk (fun q => by omega)).trans ((aI_nk (fun q => by omega)).trans (aI_nk (fun q => by omega)))) KR9
        have KBz : ClB (s_I (s_I (s_I W9 1 8 v2) 1 9 v2) 1 7 ((a_I W9 1 7) + (1 : Int32))) L := ClB_e ((aI_nk (fun q => by omega)).trans ((aI_nk (fun q => by omega)).trans (aI_nk (fun q => by omega)))) ((aI_nk (fun q => by omega)).trans ((aI_nk (fun q => by omega)).trans (aI_nk (fun q => by omega)))) KB9
        have Nz : CN B lim (s_I (s_I (s_I W9 1 8 v2) 1 9 v2) 1 7 ((a_I W9 1 7) + (1 : Int32))) L := CN_e ((aI_nk (fun q => by omega)).trans ((aI_nk (fun q => by omega)).trans (aI_nk (fun q => by omega)))) (fun i => ((aI_nk (fun q => by omega)).trans ((aI_nk (fun q => by omega)).trans (aI_nk (fun q => by omega))))) (fun i => ((aI_nk (fun q => by omega)).trans ((aI_nk (fun q => by omega)).trans (aI_nk (fun q => by omega))))) (fun i => ((aI_nk (fun q => by omega)).trans ((aI_nk (fun q => by omega)).trans (aI_nk (fun q => by omega))))) KN9
        exact nv_vret hct rfl ⟨rfl, Rc_1 (by decide) (by decide) (Or.inr (by decide)) (Rc_1 (by decide) (by decide) (Or.inr (by decide)) (Rc_1 (by decide) (by decide) (Or.inr (by decide)) R9_)), fun q e => ⟨KRz, KBz, KWz, Nz, K.2.2.2.2⟩⟩
      · skip
        refine nv_if hct true rfl (zcT5 hfr (by omega)) ?_
        refine nv_cut hct nvC 61 161 15 (S' := (d + 8, [], 61, 161, [(5, .inl v7), (4, .inl v6), (3, .inl v5), (2, .inl v3), (1, .inl v2), (0, .inr (.inr (some 1)))], [], (s_I (s_I (s_I W9 1 8 (a_I W9 1 8)) 1 9 v2) 1 7 ((a_I W9 1 7) + (1 : Int32))))) R9_.1.1 rfl ?_
        have hc9 := add_p hfr (by omega) (by omega)
        have KWz := ClW_fr (f0 := a_I W9 1 8) (v := v2) (v' := m_val B lim (frm0 B lim L p)) ht4 KW9 (by rw [if_neg hc]; rcases KW9.2.2.2.2.2 with ⟨w, _⟩ | ⟨_, w⟩; exact absurd w hc; exact w) ⟨hv2.1, by omega, by omega⟩ hc9 (by omega)
        have KRz : ClR t0 (s_I (s_I (s_I W9 1 8 (a_I W9 1 8)) 1 9 v2) 1 7 ((a_I W9 1 7) + (1 : Int32))) L := ClR_e ((aI_nk (fun q => by omega)).trans ((aI_nk (fun q => by omega)).trans (aI_nk (fun q => by omega)))) ((aI_nk (fun q => by omega)).trans ((aI_nk (fun q => by omega)).trans (aI_nk (fun q => by omega)))) ((aI_nk (fun q => by omega)).trans ((aI_nk (fun q => by omega)).trans (aI_nk (fun q => by omega)))) ((aI_nk (fun q => by omega)).trans ((aI_nk (fun q => by omega)).trans (aI_nk (fun q => by omega)))) KR9
        have KBz : ClB (s_I (s_I (s_I W9 1 8 (a_I W9 1 8)) 1 9 v2) 1 7 ((a_I W9 1 7) + (1 : Int32))) L := ClB_e ((aI_nk (fun q => by omega)).trans ((aI_nk (fun q => by omega)).trans (aI_nk (fun q => by omega)))) ((aI_nk (fun q => by omega)).trans ((aI_nk (fun q => by omega)).trans (aI_nk (fun q => by omega)))) KB9
        have Nz : CN B lim (s_I (s_I (s_I W9 1 8 (a_I W9 1 8)) 1 9 v2) 1 7 ((a_I W9 1 7) + (1 : Int32))) L := CN_e ((aI_nk (fun q => by omega)).trans ((aI_nk (fun q => by omega)).trans (aI_nk (fun q => by omega)))) (fun i => ((aI_nk (fun q => by omega)).trans ((aI_nk (fun q => by omega)).trans (aI_nk (fun q => by omega))))) (fun i => ((aI_nk (fun q => by omega)).trans ((aI_nk (fun q => by omega)).trans (aI_nk (fun q => by omega))))) (fun i => ((aI_nk (fun q => by omega)).trans ((aI_nk (fun q => by omega)).trans (aI_nk (fun q => by omega))))) KN9
        exact nv_vret hct rfl ⟨rfl, Rc_1 (by decide) (by decide) (Or.inr (by decide)) (Rc_1 (by decide) (by decide) (Or.inr (by decide)) (Rc_1 (by decide) (by decide) (Or.inr (by decide)) R9_)), fun q e => ⟨KRz, KBz, KWz, Nz, K.2.2.2.2⟩⟩
  by_cases hc : l_fr L = 8
  · skip
    refine nv_ifc hct false rfl (ccF0 hx (show ((8 : Int32)).toInt = 8 from rfl) (by omega)) ?_
    refine nv_cut hct nvC 63 0 7 (S' := (d + 7, [(61, 19, [(0, .inr (.inr (some 1)))], [])], 63, 0, la 0 [.inr (.inr (some 1)), .inl (1 : Int32), .inl (5 : Int32)], [], M)) R.1.1 rfl ?_
    refine nv_callv (c_beginLine hz R.1 R.2.1 (c := true) rfl (kn := 5) rfl (by decide)) (fun M1 ⟨g1, S1⟩ => ?_)
    exact key M1 g1 (by unfold frm0; rw [decide_eq_true hc]; exact S1)
  · skip
    refine nv_ifc hct true rfl (ccT0 hx (show ((8 : Int32)).toInt = 8 from rfl) (by omega)) ?_
    refine nv_cut hct nvC 63 0 6 (S' := (d + 7, [(61, 19, [(0, .inr (.inr (some 1)))], [])], 63, 0, la 0 [.inr (.inr (some 1)), .inl (0 : Int32), .inl (5 : Int32)], [], M)) R.1.1 rfl ?_
    refine nv_callv (c_beginLine hz R.1 R.2.1 (c := false) rfl (kn := 5) rfl (by decide)) (fun M1 ⟨g1, S1⟩ => ?_)
    exact key M1 g1 (by unfold frm0; rw [decide_eq_false hc]; exact S1)

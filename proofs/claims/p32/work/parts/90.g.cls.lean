/-! Way's names; rod, lip, costs of the class: printed by wip/gen/clsp7.py -/
def tkW (B : Nat → Int) (lim : Nat) (L : lsT) (m : pmd) : pmd := m_if B lim 2 (nosn L (m_hs B lim m)) (m_if B lim 1 (!m_name B lim m) m)
theorem tkW_r {B : Nat → Int} {lim : Nat} {L : lsT} {f : Nat × Nat} : tkW B lim L (.inr f) = .inr f := by
  unfold tkW m_if
  cases nosn L (m_hs B lim (.inr f)) <;> cases (!m_name B lim (.inr f)) <;> rfl
theorem Ec_s {t0 : Nat} {B : Nat → Int} {lim : Nat} {M : aM} {a k : Nat} {v : Int32} (h3 : a ≠ 3) (h2 : a ≠ 2) (h : EnC t0 B lim M) : EnC t0 B lim (s_I M a k v) := by
  refine ⟨nv_As h.1, fun j hj => ?_, ?_, h.2.2.2.1, h.2.2.2.2⟩
  · rw [aI_nk (fun q => h3 q.1.symm)]; exact h.2.1 j hj
  · rw [aI_nk (fun q => h2 q.1.symm)]; exact h.2.2.1
theorem fT_t {t0 j k : Nat} (hj : j < 12) : fT t0 (t0 + j) k = true := by
  unfold fT
  rw [show Nat.ble t0 (t0 + j) = true from Nat.ble_eq_true_of_le (by omega), show Nat.ble (t0 + j) (t0 + 11) = true from Nat.ble_eq_true_of_le (by omega)]
  simp only [Bool.and_self, Bool.or_true]
theorem fT_1 {t0 k : Nat} (h5 : 5 ≤ k) (h : k ≤ 14) : fT t0 1 k = true := by
  unfold fT
  rw [show Nat.ble 5 k = true from Nat.ble_eq_true_of_le h5, show Nat.ble k 14 = true from Nat.ble_eq_true_of_le h, show Nat.beq 1 1 = true from rfl]
  simp only [Bool.and_self, Bool.or_true, Bool.true_or]
/-- a slot of the reader -/
theorem Rc_1 {t0 : Nat} {B : Nat → Int} {lim : Nat} {M0 M : aM} {m : pmd} {k : Nat} {v : Int32} (h5 : 5 ≤ k) (hk : k ≤ 12) (hv : isB v = true ∨ k < 10) (R : RdC t0 B lim M0 M m) : RdC t0 B lim M0 (s_I M 1 k v) m := by
  have ht := R.1.2.2.2.2
  refine ⟨Ec_s (by decide) (by decide) R.1, Sc_s (by decide) (fun _ => by omega) R.2.1, eqE_s R.2.2.1 (fT_1 h5 (by omega)), ?_⟩
  obtain ⟨⟨t1, t2, t3⟩, t4, t5⟩ := R.2.2.2
  have e : ∀ j q, a_I (s_I M 1 k v) (t0 + j) q = a_I M (t0 + j) q := fun j q => aI_nk (fun w => by omega)
  have e0 : ∀ q, a_I (s_I M 1 k v) t0 q = a_I M t0 q := fun q => aI_nk (fun w => by omega)
  have b : ∀ j, 10 ≤ j → isB (a_I M 1 j) = true → isB (a_I (s_I M 1 k v) 1 j) = true := fun j hj h => by
    rw [aI_sI]
    by_cases c : j = k
    · rw [if_pos ⟨rfl, c⟩]
      rcases hv with h | h
      · exact h
      · omega
    · rw [if_neg (fun q => c q.2)]; exact h
  refine ⟨⟨b 10 (by omega) t1, b 11 (by omega) t2, b 12 (by omega) t3⟩, ?_, fun q hq => ?_⟩
  · rw [e0, e0]; exact t4
  · rw [e, e]; exact t5 q hq
/-- a slot of the told shop -/
theorem Rc_0 {t0 : Nat} {B : Nat → Int} {lim : Nat} {M0 M : aM} {m : pmd} {k : Nat} {v : Int32} (hv : (0 ≤ v.toInt ∧ v.toInt ≤ 4) ∨ k < 10) (R : RdC t0 B lim M0 M m) : RdC t0 B lim M0 (s_I M t0 k v) m := by
  have ht := R.1.2.2.2.2
  refine ⟨Ec_s (by omega) (by omega) R.1, Sc_s (by omega) (fun _ => by omega) R.2.1, eqE_s R.2.2.1 (fT_t (j := 0) (by omega)), ?_⟩
  obtain ⟨t1, ⟨t2, t3⟩, t5⟩ := R.2.2.2
  have e1 : ∀ q, a_I (s_I M t0 k v) 1 q = a_I M 1 q := fun q => aI_nk (fun w => by omega)
  have e : ∀ j q, 1 ≤ j → a_I (s_I M t0 k v) (t0 + j) q = a_I M (t0 + j) q := fun j q hj => aI_nk (fun w => by omega)
  have b : ∀ j, 10 ≤ j → (0 ≤ (a_I M t0 j).toInt ∧ (a_I M t0 j).toInt ≤ 4) → (0 ≤ (a_I (s_I M t0 k v) t0 j).toInt ∧ (a_I (s_I M t0 k v) t0 j).toInt ≤ 4) := fun j hj h => by
    rw [aI_sI]
    by_cases c : j = k
    · rw [if_pos ⟨rfl, c⟩]
      rcases hv with h | h
      · exact h
      · omega
    · rw [if_neg (fun q => c q.2)]; exact h
  refine ⟨?_, ⟨b 10 (by omega) t2, b 11 (by omega) t3⟩, fun q hq => ?_⟩
  · rw [e1, e1, e1]; exact t1
  · rw [e 10 q (by omega), e 11 q (by omega)]; exact t5 q hq
/-- an array of the told shop -/
theorem Rc_t {t0 : Nat} {B : Nat → Int} {lim : Nat} {M0 M : aM} {m : pmd} {j k : Nat} {v : Int32} (h1 : 1 ≤ j) (hj : j < 12) (hv : isB v = true ∨ j < 10) (R : RdC t0 B lim M0 M m) : RdC t0 B lim M0 (s_I M (t0 + j) k v) m := by
  have ht := R.1.2.2.2.2
  refine ⟨Ec_s (by omega) (by omega) R.1, Sc_s (by omega) (fun _ => by omega) R.2.1, eqE_s R.2.2.1 (fT_t hj), ?_⟩
  obtain ⟨t1, t2, t5⟩ := R.2.2.2
  have e1 : ∀ q, a_I (s_I M (t0 + j) k v) 1 q = a_I M 1 q := fun q => aI_nk (fun w => by omega)
  have e0 : ∀ q, a_I (s_I M (t0 + j) k v) t0 q = a_I M t0 q := fun q => aI_nk (fun w => by omega)
  have b : ∀ i q, 10 ≤ i → isB (a_I M (t0 + i) q) = true → isB (a_I (s_I M (t0 + j) k v) (t0 + i) q) = true := fun i q hi h => by
    rw [aI_sI]
    by_cases c : t0 + i = t0 + j ∧ q = k
    · rw [if_pos c]
      rcases hv with h | h
      · exact h
      · omega
    · rw [if_neg c]; exact h
  refine ⟨?_, ?_, fun q hq => ?_⟩
  · rw [e1, e1, e1]; exact t1
  · rw [e0, e0]; exact t2
  · exact ⟨rfl, rfl⟩
set_option maxHeartbeats 4000000 in
theorem c_takeWay {cd : Nat → Nat → Option aI} {z : Bool} (hz : ∀ m p i, cd0 z m p = some i → cd m p = some i) {t0 : Nat} {B : Nat → Int} {lim : Nat} {M : aM} (hE : EnC t0 B lim M) {m : pmd} (hS : StC B lim M m) {L : lsT} (hN : CN B lim M L) (hB : NB L) {d : Nat} : wpS cd (d + 6, [], 70, 0, nv_l (tauC t0) (la 0 [.inr (.inr (some 1))]), [], M) (fun r M' => ∃ x, r = some (.inl x) ∧ eqE fC M M' ∧ StC B lim M' (m_adv B lim (tkW B lim L m))) := by
  show wpS cd (nv_S (tauC t0) (d + 6, [], 70, 0, la 0 [.inr (.inr (some 1))], [], M)) _
  have hct := hc_of hz
  have hS0 := hS
  obtain ⟨p, ⟨hp, hT⟩, hm⟩ := hS0
  have hlen := hN.1.2
  refine nv_cut hct nvC 72 0 5 (S' := (d + 5, [(70, 4, [(0, .inr (.inr (some 1)))], [])], 72, 0, la 0 [.inr (.inr (some 1))], [], M)) hE.1 rfl ?_
  refine nv_calli (c_find hz hE hp hT hN) (fun y M1 ⟨e1, hb, hf⟩ => ?_)
  subst e1
  refine nv_cut hct nvC 70 6 5 (S' := (d + 6, [], 70, 6, [(1, .inl y), (0, .inr (.inr (some 1)))], [.inl y], M1)) hE.1 rfl ?_
  have key : ∀ sd : Int32, (knd B lim p = 1 → (sd.toInt < 0 ↔ nosn L (m_hs B lim (.inl p)) = true)) → wpS cd (nv_S (tauC t0) (d + 6, [], 70, 26, [(2, .inl sd), (1, .inl y), (0, .inr (.inr (some 1)))], [], M1)) (fun r M' => ∃ x, r = some (.inl x) ∧ eqE fC M1 M' ∧ StC B lim M' (m_adv B lim (tkW B lim L m))) := by
    intro sd hsd
    refine nv_cut hct nvC 71 0 5 (S' := (d + 5, [(70, 30, [(2, .inl sd), (1, .inl y), (0, .inr (.inr (some 1)))], [])], 71, 0, la 0 [.inr (.inr (some 1))], [], M1)) hE.1 rfl ?_
    refine nv_calli (c_isName hz hE hT) (fun x M2 ⟨e2, hx⟩ => ?_)
    subst e2
    refine nv_cut hct nvC 70 30 3 (S' := (d + 6, [], 70, 30, [(2, .inl sd), (1, .inl y), (0, .inr (.inr (some 1)))], [.inl x], M2)) hE.1 rfl ?_
    have kend : ∀ M3, eqE fC M2 M3 → StC B lim M3 (tkW B lim L m) → wpS cd (nv_S (tauC t0) (d + 6, [], 70, 50, [(2, .inl sd), (1, .inl y), (0, .inr (.inr (some 1)))], [], M3)) (fun r M' => ∃ x, r = some (.inl x) ∧ eqE fC M2 M' ∧ StC B lim M' (m_adv B lim (tkW B lim L m))) := by
      intro M3 q3 S3
      have E3 := Ec_C q3 hE
      refine nv_cut hct nvC 91 0 6 (S' := (d + 5, [(70, 57, [(2, .inl sd), (1, .inl y), (0, .inr (.inr (some 1)))], [])], 91, 0, la 0 [.inr (.inr (some 2))], [], M3)) E3.1 rfl ?_
      refine nv_callv (c_adv hz E3 S3) (fun M4 ⟨q4, S4⟩ => ?_)
      refine nv_cut hct nvC 70 58 4 (S' := (d + 6, [], 70, 58, [(2, .inl sd), (1, .inl y), (0, .inr (.inr (some 1)))], [.inl sd], M4)) (Ec_C q4 E3).1 rfl ?_
      exact nv_iret hct rfl rfl ⟨_, rfl, eqE_tr q3 q4, S4⟩
    cases hc : nmP B lim p with
    | false =>
      refine nv_if hct false rfl (zcF5 (show x.toInt = 0 by rw [hx, hc]; rfl) rfl) ?_
      refine nv_cut hct nvC 54 0 6 (S' := (d + 5, [(70, 38, [(2, .inl sd), (1, .inl y), (0, .inr (.inr (some 1)))], [])], 54, 0, la 0 [.inr (.inr (some 1)), .inl (1 : Int32)], [], M2)) hE.1 rfl ?_
      refine nv_callv (c_blame hz hE hS (kn := 1) rfl (by decide)) (fun M3 ⟨q3, S3⟩ => ?_)
      refine nv_cut hct nvC 70 50 4 (S' := (d + 6, [], 70, 50, [(2, .inl sd), (1, .inl y), (0, .inr (.inr (some 1)))], [], M3)) (Ec_C q3 hE).1 rfl ?_
      refine kend M3 q3 ?_
      rcases m with r | f
      · obtain ⟨rfl, _⟩ := hm
        have ht : tkW B lim L (.inl r) = m_bad B lim 1 (.inl r) := by unfold tkW; rw [nmP_m, hc]; cases nosn L (m_hs B lim (.inl r)) <;> rfl
        rw [ht]; exact S3
      · rw [tkW_r]; exact S3
    | true =>
      have hk1 : knd B lim p = 1 := nbT ((Bool.and_eq_true _ _).mp hc).1
      refine nv_if hct true rfl (zcT5 (show x.toInt = 1 by rw [hx, hc]; rfl) (by decide)) ?_
      refine nv_cut hct nvC 70 42 4 (S' := (d + 6, [], 70, 42, [(2, .inl sd), (1, .inl y), (0, .inr (.inr (some 1)))], [.inl sd], M2)) hE.1 rfl ?_
      have hsd := hsd hk1
      by_cases h0 : sd.toInt < 0
      · skip
        refine nv_if hct false rfl (zcF4 rfl (by omega)) ?_
        refine nv_cut hct nvC 54 0 6 (S' := (d + 5, [(70, 50, [(2, .inl sd), (1, .inl y), (0, .inr (.inr (some 1)))], [])], 54, 0, la 0 [.inr (.inr (some 1)), .inl (2 : Int32)], [], M2)) hE.1 rfl ?_
        refine nv_callv (c_blame hz hE hS (kn := 2) rfl (by decide)) (fun M3 ⟨q3, S3⟩ => ?_)
        refine nv_cut hct nvC 70 50 3 (S' := (d + 6, [], 70, 50, [(2, .inl sd), (1, .inl y), (0, .inr (.inr (some 1)))], [], M3)) (Ec_C q3 hE).1 rfl ?_
        refine kend M3 q3 ?_
        rcases m with r | f
        · obtain ⟨rfl, _⟩ := hm
          have ht : tkW B lim L (.inl r) = m_bad B lim 2 (.inl r) := by unfold tkW; rw [nmP_m, hc, hsd.mp h0]; rfl
          rw [ht]; exact S3
        · rw [tkW_r]; exact S3
      · skip
        refine nv_if hct true rfl (zcT4 rfl (by omega)) ?_
        refine kend M2 eqE_rf ?_
        rcases m with r | f
        · obtain ⟨rfl, _⟩ := hm
          have hn : nosn L (m_hs B lim (.inl r)) = false := by
            cases hq : nosn L (m_hs B lim (.inl r)) with
            | false => rfl
            | true => exact absurd (hsd.mpr hq) h0
          have ht : tkW B lim L (.inl r) = .inl r := by unfold tkW; rw [nmP_m, hc, hn]; rfl
          rw [ht]; exact hS
        · rw [tkW_r]; exact hS
  rcases hb with hb | ⟨kk, hb1, hb2⟩
  · skip
    refine nv_if hct true rfl (zcT0 hb (by decide)) ?_
    refine nv_cut hct nvC 70 26 6 (S' := (d + 6, [], 70, 26, [(2, .inl (-1 : Int32)), (1, .inl y), (0, .inr (.inr (some 1)))], [], M1)) hE.1 rfl ?_
    exact key _ (fun h => ⟨fun _ => by unfold nosn; rw [decide_eq_true ((hf h).symm.trans hb)]; rfl, fun _ => by decide⟩)
  · skip
    refine nv_if hct false rfl (zcF0 hb1 (by omega)) ?_
    refine nv_cut hct nvC 70 12 5 (S' := (d + 6, [], 70, 12, [(1, .inl y), (0, .inr (.inr (some 1)))], [.inl (8 : Int32), .inl y], M1)) hE.1 rfl ?_
    refine nv_ifc hct true rfl (ccT0 hb1 (show ((8 : Int32)).toInt = 8 from rfl) (by omega)) ?_
    refine nv_cut hct nvC 70 24 6 (S' := (d + 6, [], 70, 24, [(1, .inl y), (0, .inr (.inr (some 1)))], [.inl y, .inr (.inr (some 18))], M1)) hE.1 rfl ?_
    refine nv_ald hct hE.1 rfl (show nvC.1 18 = 15 + 1 from rfl) (show nvC.2.1 18 = 8 + 1 from rfl) (inb_p hb1 (by omega)) ?_
    rw [tnc hb1]
    refine nv_cut hct nvC 70 26 4 (S' := (d + 6, [], 70, 26, [(2, .inl (a_I M1 18 kk)), (1, .inl y), (0, .inr (.inr (some 1)))], [], M1)) hE.1 rfl ?_
    obtain ⟨_, _, _, _, _, hs⟩ := hN.2 kk hb2
    have hge := hB kk hb2
    refine key _ (fun h => ?_)
    have hfd : l_fd L (m_hs B lim (.inl p)) = (kk : Int) := (hf h).symm.trans hb1
    have hns : nosn L (m_hs B lim (.inl p)) = decide (((l_nm L).getD kk (0, 0)).2 = -1) := by
      unfold nosn; rw [hfd, decide_eq_false (show ¬ ((kk : Int) = -1) by omega), Int.toNat_natCast]; rfl
    rw [hns, hs]
    exact ⟨fun h => decide_eq_true (by omega), fun h => by have := of_decide_eq_true h; omega⟩
set_option maxHeartbeats 4000000 in
theorem c_rod {cd : Nat → Nat → Option aI} {z : Bool} (hz : ∀ m p i, cd0 z m p = some i → cd m p = some i) {t0 : Nat} {B : Nat → Int} {lim : Nat} {M0 M : aM} {L : lsT} {p : Nat} (R : RdC t0 B lim M0 M (.inl p)) (K : KC t0 B lim M L) {d : Nat} : wpS cd (d + 7, [], 56, 0, nv_l (tauC t0) (la 0 [.inr (.inr (some 1))]), [], M) (fun r M' => r = none ∧ RdC t0 B lim M0 M' (rod3 B lim L p) ∧ ∀ q, rod3 B lim L p = .inl q → KC t0 B lim M' (rodL B lim L p)) := by
  show wpS cd (nv_S (tauC t0) (d + 7, [], 56, 0, la 0 [.inr (.inr (some 1))], [], M)) _
  have hct := hc_of hz
  have ht4 := R.1.2.2.2.2
  have hbx : a_I M 1 10 = bif decide (0 < l_in L) then 1 else 0 := by
    rcases K.1 with ⟨k1, k2⟩ | ⟨k1, _, k2, _⟩
    · rw [decide_eq_false (by omega)]; exact Int32.toInt_inj.mp k1
    · rw [decide_eq_true (by omega)]; exact Int32.toInt_inj.mp k1
  refine nv_cut hct nvC 63 0 8 (S' := (d + 6, [(56, 9, [(0, .inr (.inr (some 1)))], [])], 63, 0, la 0 [.inr (.inr (some 1)), .inl (a_I M 1 10), .inl (3 : Int32)], [], M)) R.1.1 rfl ?_
  refine nv_callv (c_beginLine hz R.1 R.2.1 (c := decide (0 < l_in L)) hbx (kn := 3) rfl (by decide)) (fun M1 ⟨g1, S1⟩ => ?_)
  have R1_ : RdC t0 B lim M0 M1 (rod0 B lim L p) := Rc_N R (fC_N g1) S1
  have KR1 := ClR_N ht4 (fC_N g1) K.1
  have KB1 := ClB_N (fC_N g1) K.2.1
  have KW1 := ClW_N ht4 (fC_N g1) K.2.2.1
  have KN1 := CN_C g1 K.2.2.2.1
  refine nv_cut hct nvC 56 14 6 (S' := (d + 7, [], 56, 14, [(0, .inr (.inr (some 1)))], [], (s_I M1 1 10 (1 : Int32)))) R1_.1.1 rfl ?_
  have R2_ : RdC t0 B lim M0 (s_I M1 1 10 (1 : Int32)) (rod0 B lim L p) := Rc_1 (by decide) (by decide) (Or.inl rfl) R1_
  have KB2 : ClB (s_I M1 1 10 (1 : Int32)) L := ClB_e (aI_nk (fun q => by omega)) (aI_nk (fun q => by omega)) KB1
  have KW2 : ClW t0 (s_I M1 1 10 (1 : Int32)) L := ClW_e (aI_nk (fun q => by omega)) (aI_nk (fun q => by omega)) (aI_nk (fun q => by omega)) (aI_nk (fun q => by omega)) (aI_nk (fun q => by omega)) (aI_nk (fun q => by omega)) KW1
  have KN2 : CN B lim (s_I M1 1 10 (1 : Int32)) L := CN_e (aI_nk (fun q => by omega)) (fun i => (aI_nk (fun q => by omega))) (fun i => (aI_nk (fun q => by omega))) (fun i => (aI_nk (fun q => by omega))) KN1
  have Fa2 : a_I (s_I M1 1 10 (1 : Int32)) 1 10 = (1 : Int32) := aI_at
  show wpS cd (nv_S (tauC t0) (d + 7, [], 56, 14, [(0, .inr (.inr (some 1)))], [], (s_I M1 1 10 (1 : Int32)))) _
  generalize (s_I M1 1 10 (1 : Int32)) = W2 at R2_ KB2 KW2 KN2 Fa2 ⊢
  refine nv_cut hct nvC 67 0 10 (S' := (d + 6, [(56, 27, [(0, .inr (.inr (some 1)))], [.inr (.inr (some 300))])], 67, 0, la 0 [.inr (.inr (some 1)), .inr (.inr (some (aSB + 1))), .inl (2 : Int32), .inl (30 : Int32)], [], W2)) R2_.1.1 rfl ?_
  refine nv_calli (c_takeNum hz R2_.1 R2_.2.1 (k := 1) (by decide)) (fun v2 M2 ⟨g2, S2, h2⟩ => ?_)
  have h2 : ∀ q, rod1 B lim L p = .inl q → v2.toInt = m_val B lim (m_wd B lim (txc 27) (rod0 B lim L p)) ∧ 2 ≤ v2.toInt ∧ v2.toInt ≤ 30 := h2
  have R3_ : RdC t0 B lim M0 M2 (rod1 B lim L p) := Rc_N R2_ (fC_N g2) S2
  have KB3 := ClB_N (fC_N g2) KB2
  have KW3 := ClW_N ht4 (fC_N g2) KW2
  have KN3 := CN_C g2 KN2
  have Fa3 : a_I M2 1 10 = (1 : Int32) := (g2.2.2 _ _ rfl).trans Fa2
  refine nv_cut hct nvC 56 30 4 (S' := (d + 7, [], 56, 30, [(0, .inr (.inr (some 1)))], [], (s_I M2 t0 0 v2))) R3_.1.1 rfl ?_
  have R4_ : RdC t0 B lim M0 (s_I M2 t0 0 v2) (rod1 B lim L p) := Rc_0 (Or.inr (by decide)) R3_
  have KB4 : ClB (s_I M2 t0 0 v2) L := ClB_e (aI_nk (fun q => by omega)) (aI_nk (fun q => by omega)) KB3
  have KW4 : ClW t0 (s_I M2 t0 0 v2) L := ClW_e (aI_nk (fun q => by omega)) (aI_nk (fun q => by omega)) (aI_nk (fun q => by omega)) (aI_nk (fun q => by omega)) (aI_nk (fun q => by omega)) (aI_nk (fun q => by omega)) KW3
  have KN4 : CN B lim (s_I M2 t0 0 v2) L := CN_e (aI_nk (fun q => by omega)) (fun i => (aI_nk (fun q => by omega))) (fun i => (aI_nk (fun q => by omega))) (fun i => (aI_nk (fun q => by omega))) KN3
  have Fa4 : a_I (s_I M2 t0 0 v2) 1 10 = (1 : Int32) := (aI_nk (fun q => by omega)).trans Fa3
  have Fb4 : a_I (s_I M2 t0 0 v2) t0 0 = v2 := aI_at
  show wpS cd (nv_S (tauC t0) (d + 7, [], 56, 30, [(0, .inr (.inr (some 1)))], [], (s_I M2 t0 0 v2))) _
  generalize (s_I M2 t0 0 v2) = W4 at R4_ KB4 KW4 KN4 Fa4 Fb4 ⊢
  refine nv_cut hct nvC 67 0 10 (S' := (d + 6, [(56, 45, [(0, .inr (.inr (some 1)))], [.inr (.inr (some 300))])], 67, 0, la 0 [.inr (.inr (some 1)), .inr (.inr (some (aSB + 2))), .inl (10 : Int32), .inl (999 : Int32)], [], W4)) R4_.1.1 rfl ?_
  refine nv_calli (c_takeNum hz R4_.1 R4_.2.1 (k := 2) (by decide)) (fun v3 M3 ⟨g3, S3, h3⟩ => ?_)
  have h3 : ∀ q, rod2 B lim L p = .inl q → v3.toInt = m_val B lim (m_wd B lim (txc 28) (rod1 B lim L p)) ∧ 10 ≤ v3.toInt ∧ v3.toInt ≤ 999 := h3
  have R5_ : RdC t0 B lim M0 M3 (rod2 B lim L p) := Rc_N R4_ (fC_N g3) S3
  have KB5 := ClB_N (fC_N g3) KB4
  have KW5 := ClW_N ht4 (fC_N g3) KW4
  have KN5 := CN_C g3 KN4
  have Fa5 : a_I M3 1 10 = (1 : Int32) := (g3.2.2 _ _ rfl).trans Fa4
  have Fb5 : a_I M3 t0 0 = v2 := (g3.2.2 _ _ (fC_n (by omega) (by omega))).trans Fb4
  refine nv_cut hct nvC 56 48 4 (S' := (d + 7, [], 56, 48, [(0, .inr (.inr (some 1)))], [], (s_I M3 t0 1 v3))) R5_.1.1 rfl ?_
  have R6_ : RdC t0 B lim M0 (s_I M3 t0 1 v3) (rod2 B lim L p) := Rc_0 (Or.inr (by decide)) R5_
  have KB6 : ClB (s_I M3 t0 1 v3) L := ClB_e (aI_nk (fun q => by omega)) (aI_nk (fun q => by omega)) KB5
  have KW6 : ClW t0 (s_I M3 t0 1 v3) L := ClW_e (aI_nk (fun q => by omega)) (aI_nk (fun q => by omega)) (aI_nk (fun q => by omega)) (aI_nk (fun q => by omega)) (aI_nk (fun q => by omega)) (aI_nk (fun q => by omega)) KW5
  have KN6 : CN B lim (s_I M3 t0 1 v3) L := CN_e (aI_nk (fun q => by omega)) (fun i => (aI_nk (fun q => by omega))) (fun i => (aI_nk (fun q => by omega))) (fun i => (aI_nk (fun q => by omega))) KN5
  have Fa6 : a_I (s_I M3 t0 1 v3) 1 10 = (1 : Int32) := (aI_nk (fun q => by omega)).trans Fa5
  have Fb6 : a_I (s_I M3 t0 1 v3) t0 0 = v2 := (aI_nk (fun q => by omega)).trans Fb5
  have Fc6 : a_I (s_I M3 t0 1 v3) t0 1 = v3 := aI_at
  show wpS cd (nv_S (tauC t0) (d + 7, [], 56, 48, [(0, .inr (.inr (some 1)))], [], (s_I M3 t0 1 v3))) _
  generalize (s_I M3 t0 1 v3) = W6 at R6_ KB6 KW6 KN6 Fa6 Fb6 Fc6 ⊢
  refine nv_cut hct nvC 67 0 10 (S' := (d + 6, [(56, 61, [(0, .inr (.inr (some 1)))], [.inr (.inr (some 300))])], 67, 0, la 0 [.inr (.inr (some 1)), .inr (.inr (some (aSB + 3))), .inl (0 : Int32), .inl (9 : Int32)], [], W6)) R6_.1.1 rfl ?_
  refine nv_calli (c_takeNum hz R6_.1 R6_.2.1 (k := 3) (by decide)) (fun v4 M4 ⟨g4, S4, h4⟩ => ?_)
  have h4 : ∀ q, rod3 B lim L p = .inl q → v4.toInt = m_val B lim (m_wd B lim (txc 29) (rod2 B lim L p)) ∧ 0 ≤ v4.toInt ∧ v4.toInt ≤ 9 := h4
  have R7_ : RdC t0 B lim M0 M4 (rod3 B lim L p) := Rc_N R6_ (fC_N g4) S4
  have KB7 := ClB_N (fC_N g4) KB6
  have KW7 := ClW_N ht4 (fC_N g4) KW6
  have KN7 := CN_C g4 KN6
  have Fa7 : a_I M4 1 10 = (1 : Int32) := (g4.2.2 _ _ rfl).trans Fa6
  have Fb7 : a_I M4 t0 0 = v2 := (g4.2.2 _ _ (fC_n (by omega) (by omega))).trans Fb6
  have Fc7 : a_I M4 t0 1 = v3 := (g4.2.2 _ _ (fC_n (by omega) (by omega))).trans Fc6
  refine nv_cut hct nvC 56 64 4 (S' := (d + 7, [], 56, 64, [(0, .inr (.inr (some 1)))], [], (s_I M4 t0 2 v4))) R7_.1.1 rfl ?_
  have R8_ : RdC t0 B lim M0 (s_I M4 t0 2 v4) (rod3 B lim L p) := Rc_0 (Or.inr (by decide)) R7_
  have KB8 : ClB (s_I M4 t0 2 v4) L := ClB_e (aI_nk (fun q => by omega)) (aI_nk (fun q => by omega)) KB7
  have KW8 : ClW t0 (s_I M4 t0 2 v4) L := ClW_e (aI_nk (fun q => by omega)) (aI_nk (fun q => by omega)) (aI_nk (fun q => by omega)) (aI_nk (fun q => by omega)) (aI_nk (fun q => by omega)) (aI_nk (fun q => by omega)) KW7
  have KN8 : CN B lim (s_I M4 t0 2 v4) L := CN_e (aI_nk (fun q => by omega)) (fun i => (aI_nk (fun q => by omega))) (fun i => (aI_nk (fun q => by omega))) (fun i => (aI_nk (fun q => by omega))) KN7
  have Fa8 : a_I (s_I M4 t0 2 v4) 1 10 = (1 : Int32) := (aI_nk (fun q => by omega)).trans Fa7
  have Fb8 : a_I (s_I M4 t0 2 v4) t0 0 = v2 := (aI_nk (fun q => by omega)).trans Fb7
  have Fc8 : a_I (s_I M4 t0 2 v4) t0 1 = v3 := (aI_nk (fun q => by omega)).trans Fc7
  have Fd8 : a_I (s_I M4 t0 2 v4) t0 2 = v4 := aI_at
  show wpS cd (nv_S (tauC t0) (d + 7, [], 56, 64, [(0, .inr (.inr (some 1)))], [], (s_I M4 t0 2 v4))) _
  generalize (s_I M4 t0 2 v4) = W8 at R8_ KB8 KW8 KN8 Fa8 Fb8 Fc8 Fd8 ⊢
  refine nv_vret hct rfl ⟨rfl, R8_, fun q hm => ?_⟩
  obtain ⟨q2, e2⟩ := pt_inl (show m_pt B lim (txc 29) 0 9 (rod2 B lim L p) = .inl q from hm)
  obtain ⟨q1, e1⟩ := pt_inl (show m_pt B lim (txc 28) 10 999 (rod1 B lim L p) = .inl q2 from e2)
  have a1 := h2 q1 e1
  have a2 := h3 q2 e2
  have a3 := h4 q hm
  refine ⟨Or.inr ⟨by rw [Fa8]; rfl, ⟨by rw [Fb8]; exact a1.1, by rw [Fc8]; exact a2.1, by rw [Fd8]; exact a3.1⟩, ?_⟩, KB8, KW8, KN8, K.2.2.2.2⟩
  show 2 ≤ m_val B lim (m_wd B lim (txc 27) (rod0 B lim L p)) ∧ m_val B lim (m_wd B lim (txc 27) (rod0 B lim L p)) ≤ 30
  rw [← a1.1]; exact a1.2
set_option maxHeartbeats 4000000 in
theorem c_lip {cd : Nat → Nat → Option aI} {z : Bool} (hz : ∀ m p i, cd0 z m p = some i → cd m p = some i) {t0 : Nat} {B : Nat → Int} {lim : Nat} {M0 M : aM} {L : lsT} {p : Nat} (R : RdC t0 B lim M0 M (.inl p)) (K : KC t0 B lim M L) {d : Nat} : wpS cd (d + 7, [], 57, 0, nv_l (tauC t0) (la 0 [.inr (.inr (some 1))]), [], M) (fun r M' => r = none ∧ RdC t0 B lim M0 M' (lip4 B lim L p) ∧ ∀ q, lip4 B lim L p = .inl q → KC t0 B lim M' (lipL L)) := by
  show wpS cd (nv_S (tauC t0) (d + 7, [], 57, 0, la 0 [.inr (.inr (some 1))], [], M)) _
  have hct := hc_of hz
  have ht4 := R.1.2.2.2.2
  have hbx : a_I M 1 11 = bif l_lp L then 1 else 0 := K.2.1.1
  refine nv_cut hct nvC 63 0 8 (S' := (d + 6, [(57, 9, [(0, .inr (.inr (some 1)))], [])], 63, 0, la 0 [.inr (.inr (some 1)), .inl (a_I M 1 11), .inl (3 : Int32)], [], M)) R.1.1 rfl ?_
  refine nv_callv (c_beginLine hz R.1 R.2.1 (c := l_lp L) hbx (kn := 3) rfl (by decide)) (fun M1 ⟨g1, S1⟩ => ?_)
  have R1_ : RdC t0 B lim M0 M1 (lip0 B lim L p) := Rc_N R (fC_N g1) S1
  have KR1 := ClR_N ht4 (fC_N g1) K.1
  have KB1 := ClB_N (fC_N g1) K.2.1
  have KW1 := ClW_N ht4 (fC_N g1) K.2.2.1
  have KN1 := CN_C g1 K.2.2.2.1
  have h12 : a_I M1 1 12 = bif l_co L then 1 else 0 := (g1.2.2 _ _ rfl).trans K.2.1.2
  refine nv_cut hct nvC 57 14 6 (S' := (d + 7, [], 57, 14, [(0, .inr (.inr (some 1)))], [], (s_I M1 1 11 (1 : Int32)))) R1_.1.1 rfl ?_
  have R2_ : RdC t0 B lim M0 (s_I M1 1 11 (1 : Int32)) (lip0 B lim L p) := Rc_1 (by decide) (by decide) (Or.inl rfl) R1_
  have KR2 : ClR t0 (s_I M1 1 11 (1 : Int32)) L := ClR_e (aI_nk (fun q => by omega)) (aI_nk (fun q => by omega)) (aI_nk (fun q => by omega)) (aI_nk (fun q => by omega)) KR1
  have KW2 : ClW t0 (s_I M1 1 11 (1 : Int32)) L := ClW_e (aI_nk (fun q => by omega)) (aI_nk (fun q => by omega)) (aI_nk (fun q => by omega)) (aI_nk (fun q => by omega)) (aI_nk (fun q => by omega)) (aI_nk (fun q => by omega)) KW1
  have KN2 : CN B lim (s_I M1 1 11 (1 : Int32)) L := CN_e (aI_nk (fun q => by omega)) (fun i => (aI_nk (fun q => by omega))) (fun i => (aI_nk (fun q => by omega))) (fun i => (aI_nk (fun q => by omega))) KN1
  have Fb2 : a_I (s_I M1 1 11 (1 : Int32)) 1 12 = (bif l_co L then 1 else 0) := (aI_nk (fun q => by omega)).trans h12
  have Fa2 : a_I (s_I M1 1 11 (1 : Int32)) 1 11 = (1 : Int32) := aI_at
  show wpS cd (nv_S (tauC t0) (d + 7, [], 57, 14, [(0, .inr (.inr (some 1)))], [], (s_I M1 1 11 (1 : Int32)))) _
  generalize (s_I M1 1 11 (1 : Int32)) = W2 at R2_ KR2 KW2 KN2 Fb2 Fa2 ⊢
  refine nv_cut hct nvC 66 0 9 (S' := (d + 6, [(57, 25, [(0, .inr (.inr (some 1)))], [.inr (.inr (some 300))])], 66, 0, la 0 [.inr (.inr (some 1)), .inl (1 : Int32), .inl (99 : Int32)], [], W2)) R2_.1.1 rfl ?_
  refine nv_calli (c_takeWhole hz R2_.1 R2_.2.1) (fun v2 M2 ⟨g2, S2, h2⟩ => ?_)
  have h2 : ∀ q, lip1 B lim L p = .inl q → v2.toInt = m_val B lim (lip0 B lim L p) ∧ 1 ≤ v2.toInt ∧ v2.toInt ≤ 99 := h2
  have R3_ : RdC t0 B lim M0 M2 (lip1 B lim L p) := Rc_N R2_ (fC_N g2) S2
  have KR3 := ClR_N ht4 (fC_N g2) KR2
  have KW3 := ClW_N ht4 (fC_N g2) KW2
  have KN3 := CN_C g2 KN2
  have Fb3 : a_I M2 1 12 = (bif l_co L then 1 else 0) := (g2.2.2 _ _ rfl).trans Fb2
  have Fa3 : a_I M2 1 11 = (1 : Int32) := (g2.2.2 _ _ rfl).trans Fa2
  refine nv_cut hct nvC 57 28 4 (S' := (d + 7, [], 57, 28, [(0, .inr (.inr (some 1)))], [], (s_I M2 t0 3 v2))) R3_.1.1 rfl ?_
  have R4_ : RdC t0 B lim M0 (s_I M2 t0 3 v2) (lip1 B lim L p) := Rc_0 (Or.inr (by decide)) R3_
  have KR4 : ClR t0 (s_I M2 t0 3 v2) L := ClR_e (aI_nk (fun q => by omega)) (aI_nk (fun q => by omega)) (aI_nk (fun q => by omega)) (aI_nk (fun q => by omega)) KR3
  have KW4 : ClW t0 (s_I M2 t0 3 v2) L := ClW_e (aI_nk (fun q => by omega)) (aI_nk (fun q => by omega)) (aI_nk (fun q => by omega)) (aI_nk (fun q => by omega)) (aI_nk (fun q => by omega)) (aI_nk (fun q => by omega)) KW3
  have KN4 : CN B lim (s_I M2 t0 3 v2) L := CN_e (aI_nk (fun q => by omega)) (fun i => (aI_nk (fun q => by omega))) (fun i => (aI_nk (fun q => by omega))) (fun i => (aI_nk (fun q => by omega))) KN3
  have Fb4 : a_I (s_I M2 t0 3 v2) 1 12 = (bif l_co L then 1 else 0) := (aI_nk (fun q => by omega)).trans Fb3
  have Fa4 : a_I (s_I M2 t0 3 v2) 1 11 = (1 : Int32) := (aI_nk (fun q => by omega)).trans Fa3
  show wpS cd (nv_S (tauC t0) (d + 7, [], 57, 28, [(0, .inr (.inr (some 1)))], [], (s_I M2 t0 3 v2))) _
  generalize (s_I M2 t0 3 v2) = W4 at R4_ KR4 KW4 KN4 Fb4 Fa4 ⊢
  refine nv_cut hct nvC 67 0 10 (S' := (d + 6, [(57, 41, [(0, .inr (.inr (some 1)))], [.inr (.inr (some 300))])], 67, 0, la 0 [.inr (.inr (some 1)), .inr (.inr (some (aSB + 5))), .inl (0 : Int32), .inl (50 : Int32)], [], W4)) R4_.1.1 rfl ?_
  refine nv_calli (c_takeNum hz R4_.1 R4_.2.1 (k := 5) (by decide)) (fun v3 M3 ⟨g3, S3, h3⟩ => ?_)
  have h3 : ∀ q, lip2 B lim L p = .inl q → v3.toInt = m_val B lim (m_wd B lim (txc 31) (lip1 B lim L p)) ∧ 0 ≤ v3.toInt ∧ v3.toInt ≤ 50 := h3
  have R5_ : RdC t0 B lim M0 M3 (lip2 B lim L p) := Rc_N R4_ (fC_N g3) S3
  have KR5 := ClR_N ht4 (fC_N g3) KR4
  have KW5 := ClW_N ht4 (fC_N g3) KW4
  have KN5 := CN_C g3 KN4
  have Fb5 : a_I M3 1 12 = (bif l_co L then 1 else 0) := (g3.2.2 _ _ rfl).trans Fb4
  have Fa5 : a_I M3 1 11 = (1 : Int32) := (g3.2.2 _ _ rfl).trans Fa4
  refine nv_cut hct nvC 57 44 4 (S' := (d + 7, [], 57, 44, [(0, .inr (.inr (some 1)))], [], (s_I M3 t0 4 v3))) R5_.1.1 rfl ?_
  have R6_ : RdC t0 B lim M0 (s_I M3 t0 4 v3) (lip2 B lim L p) := Rc_0 (Or.inr (by decide)) R5_
  have KR6 : ClR t0 (s_I M3 t0 4 v3) L := ClR_e (aI_nk (fun q => by omega)) (aI_nk (fun q => by omega)) (aI_nk (fun q => by omega)) (aI_nk (fun q => by omega)) KR5
  have KW6 : ClW t0 (s_I M3 t0 4 v3) L := ClW_e (aI_nk (fun q => by omega)) (aI_nk (fun q => by omega)) (aI_nk (fun q => by omega)) (aI_nk (fun q => by omega)) (aI_nk (fun q => by omega)) (aI_nk (fun q => by omega)) KW5
  have KN6 : CN B lim (s_I M3 t0 4 v3) L := CN_e (aI_nk (fun q => by omega)) (fun i => (aI_nk (fun q => by omega))) (fun i => (aI_nk (fun q => by omega))) (fun i => (aI_nk (fun q => by omega))) KN5
  have Fb6 : a_I (s_I M3 t0 4 v3) 1 12 = (bif l_co L then 1 else 0) := (aI_nk (fun q => by omega)).trans Fb5
  have Fa6 : a_I (s_I M3 t0 4 v3) 1 11 = (1 : Int32) := (aI_nk (fun q => by omega)).trans Fa5
  show wpS cd (nv_S (tauC t0) (d + 7, [], 57, 44, [(0, .inr (.inr (some 1)))], [], (s_I M3 t0 4 v3))) _
  generalize (s_I M3 t0 4 v3) = W6 at R6_ KR6 KW6 KN6 Fb6 Fa6 ⊢
  refine nv_cut hct nvC 67 0 10 (S' := (d + 6, [(57, 57, [(0, .inr (.inr (some 1)))], [.inr (.inr (some 300))])], 67, 0, la 0 [.inr (.inr (some 1)), .inr (.inr (some (aSB + 6))), .inl (0 : Int32), .inl (99 : Int32)], [], W6)) R6_.1.1 rfl ?_
  refine nv_calli (c_takeNum hz R6_.1 R6_.2.1 (k := 6) (by decide)) (fun v4 M4 ⟨g4, S4, h4⟩ => ?_)
  have h4 : ∀ q, lip3 B lim L p = .inl q → v4.toInt = m_val B lim (m_wd B lim (txc 32) (lip2 B lim L p)) ∧ 0 ≤ v4.toInt ∧ v4.toInt ≤ 99 := h4
  have R7_ : RdC t0 B lim M0 M4 (lip3 B lim L p) := Rc_N R6_ (fC_N g4) S4
  have KR7 := ClR_N ht4 (fC_N g4) KR6
  have KW7 := ClW_N ht4 (fC_N g4) KW6
  have KN7 := CN_C g4 KN6
  have Fb7 : a_I M4 1 12 = (bif l_co L then 1 else 0) := (g4.2.2 _ _ rfl).trans Fb6
  have Fa7 : a_I M4 1 11 = (1 : Int32) := (g4.2.2 _ _ rfl).trans Fa6
  refine nv_cut hct nvC 57 60 4 (S' := (d + 7, [], 57, 60, [(0, .inr (.inr (some 1)))], [], (s_I M4 t0 5 v4))) R7_.1.1 rfl ?_
  have R8_ : RdC t0 B lim M0 (s_I M4 t0 5 v4) (lip3 B lim L p) := Rc_0 (Or.inr (by decide)) R7_
  have KR8 : ClR t0 (s_I M4 t0 5 v4) L := ClR_e (aI_nk (fun q => by omega)) (aI_nk (fun q => by omega)) (aI_nk (fun q => by omega)) (aI_nk (fun q => by omega)) KR7
  have KW8 : ClW t0 (s_I M4 t0 5 v4) L := ClW_e (aI_nk (fun q => by omega)) (aI_nk (fun q => by omega)) (aI_nk (fun q => by omega)) (aI_nk (fun q => by omega)) (aI_nk (fun q => by omega)) (aI_nk (fun q => by omega)) KW7
  have KN8 : CN B lim (s_I M4 t0 5 v4) L := CN_e (aI_nk (fun q => by omega)) (fun i => (aI_nk (fun q => by omega))) (fun i => (aI_nk (fun q => by omega))) (fun i => (aI_nk (fun q => by omega))) KN7
  have Fb8 : a_I (s_I M4 t0 5 v4) 1 12 = (bif l_co L then 1 else 0) := (aI_nk (fun q => by omega)).trans Fb7
  have Fa8 : a_I (s_I M4 t0 5 v4) 1 11 = (1 : Int32) := (aI_nk (fun q => by omega)).trans Fa7
  show wpS cd (nv_S (tauC t0) (d + 7, [], 57, 60, [(0, .inr (.inr (some 1)))], [], (s_I M4 t0 5 v4))) _
  generalize (s_I M4 t0 5 v4) = W8 at R8_ KR8 KW8 KN8 Fb8 Fa8 ⊢
  refine nv_cut hct nvC 67 0 10 (S' := (d + 6, [(57, 75, [(0, .inr (.inr (some 1)))], [.inr (.inr (some 300))])], 67, 0, la 0 [.inr (.inr (some 1)), .inr (.inr (some (aSB + 7))), .inl (10 : Int32), .inl (999 : Int32)], [], W8)) R8_.1.1 rfl ?_
  refine nv_calli (c_takeNum hz R8_.1 R8_.2.1 (k := 7) (by decide)) (fun v5 M5 ⟨g5, S5, h5⟩ => ?_)
  have h5 : ∀ q, lip4 B lim L p = .inl q → v5.toInt = m_val B lim (m_wd B lim (txc 33) (lip3 B lim L p)) ∧ 10 ≤ v5.toInt ∧ v5.toInt ≤ 999 := h5
  have R9_ : RdC t0 B lim M0 M5 (lip4 B lim L p) := Rc_N R8_ (fC_N g5) S5
  have KR9 := ClR_N ht4 (fC_N g5) KR8
  have KW9 := ClW_N ht4 (fC_N g5) KW8
  have KN9 := CN_C g5 KN8
  have Fb9 : a_I M5 1 12 = (bif l_co L then 1 else 0) := (g5.2.2 _ _ rfl).trans Fb8
  have Fa9 : a_I M5 1 11 = (1 : Int32) := (g5.2.2 _ _ rfl).trans Fa8
  refine nv_cut hct nvC 57 78 4 (S' := (d + 7, [], 57, 78, [(0, .inr (.inr (some 1)))], [], (s_I M5 t0 6 v5))) R9_.1.1 rfl ?_
  have R10_ : RdC t0 B lim M0 (s_I M5 t0 6 v5) (lip4 B lim L p) := Rc_0 (Or.inr (by decide)) R9_
  have KR10 : ClR t0 (s_I M5 t0 6 v5) L := ClR_e (aI_nk (fun q => by omega)) (aI_nk (fun q => by omega)) (aI_nk (fun q => by omega)) (aI_nk (fun q => by omega)) KR9
  have KW10 : ClW t0 (s_I M5 t0 6 v5) L := ClW_e (aI_nk (fun q => by omega)) (aI_nk (fun q => by omega)) (aI_nk (fun q => by omega)) (aI_nk (fun q => by omega)) (aI_nk (fun q => by omega)) (aI_nk (fun q => by omega)) KW9
  have KN10 : CN B lim (s_I M5 t0 6 v5) L := CN_e (aI_nk (fun q => by omega)) (fun i => (aI_nk (fun q => by omega))) (fun i => (aI_nk (fun q => by omega))) (fun i => (aI_nk (fun q => by omega))) KN9
  have Fb10 : a_I (s_I M5 t0 6 v5) 1 12 = (bif l_co L then 1 else 0) := (aI_nk (fun q => by omega)).trans Fb9
  have Fa10 : a_I (s_I M5 t0 6 v5) 1 11 = (1 : Int32) := (aI_nk (fun q => by omega)).trans Fa9
  show wpS cd (nv_S (tauC t0) (d + 7, [], 57, 78, [(0, .inr (.inr (some 1)))], [], (s_I M5 t0 6 v5))) _
  generalize (s_I M5 t0 6 v5) = W10 at R10_ KR10 KW10 KN10 Fb10 Fa10 ⊢
  exact nv_vret hct rfl ⟨rfl, R10_, fun q hm => ⟨KR10, ⟨Fa10, Fb10⟩, KW10, KN10, K.2.2.2.2⟩⟩
set_option maxHeartbeats 4000000 in
theorem c_cst {cd : Nat → Nat → Option aI} {z : Bool} (hz : ∀ m p i, cd0 z m p = some i → cd m p = some i) {t0 : Nat} {B : Nat → Int} {lim : Nat} {M0 M : aM} {L : lsT} {p : Nat} (R : RdC t0 B lim M0 M (.inl p)) (K : KC t0 B lim M L) {d : Nat} : wpS cd (d + 7, [], 58, 0, nv_l (tauC t0) (la 0 [.inr (.inr (some 1))]), [], M) (fun r M' => r = none ∧ RdC t0 B lim M0 M' (cst3 B lim L p) ∧ ∀ q, cst3 B lim L p = .inl q → KC t0 B lim M' (cstL L)) := by
  show wpS cd (nv_S (tauC t0) (d + 7, [], 58, 0, la 0 [.inr (.inr (some 1))], [], M)) _
  have hct := hc_of hz
  have ht4 := R.1.2.2.2.2
  have hbx : a_I M 1 12 = bif l_co L then 1 else 0 := K.2.1.2
  refine nv_cut hct nvC 63 0 8 (S' := (d + 6, [(58, 9, [(0, .inr (.inr (some 1)))], [])], 63, 0, la 0 [.inr (.inr (some 1)), .inl (a_I M 1 12), .inl (3 : Int32)], [], M)) R.1.1 rfl ?_
  refine nv_callv (c_beginLine hz R.1 R.2.1 (c := l_co L) hbx (kn := 3) rfl (by decide)) (fun M1 ⟨g1, S1⟩ => ?_)
  have R1_ : RdC t0 B lim M0 M1 (cst0 B lim L p) := Rc_N R (fC_N g1) S1
  have KR1 := ClR_N ht4 (fC_N g1) K.1
  have KB1 := ClB_N (fC_N g1) K.2.1
  have KW1 := ClW_N ht4 (fC_N g1) K.2.2.1
  have KN1 := CN_C g1 K.2.2.2.1
  have h12 : a_I M1 1 11 = bif l_lp L then 1 else 0 := (g1.2.2 _ _ rfl).trans K.2.1.1
  refine nv_cut hct nvC 58 14 6 (S' := (d + 7, [], 58, 14, [(0, .inr (.inr (some 1)))], [], (s_I M1 1 12 (1 : Int32)))) R1_.1.1 rfl ?_
  have R2_ : RdC t0 B lim M0 (s_I M1 1 12 (1 : Int32)) (cst0 B lim L p) := Rc_1 (by decide) (by decide) (Or.inl rfl) R1_
  have KR2 : ClR t0 (s_I M1 1 12 (1 : Int32)) L := ClR_e (aI_nk (fun q => by omega)) (aI_nk (fun q => by omega)) (aI_nk (fun q => by omega)) (aI_nk (fun q => by omega)) KR1
  have KW2 : ClW t0 (s_I M1 1 12 (1 : Int32)) L := ClW_e (aI_nk (fun q => by omega)) (aI_nk (fun q => by omega)) (aI_nk (fun q => by omega)) (aI_nk (fun q => by omega)) (aI_nk (fun q => by omega)) (aI_nk (fun q => by omega)) KW1
  have KN2 : CN B lim (s_I M1 1 12 (1 : Int32)) L := CN_e (aI_nk (fun q => by omega)) (fun i => (aI_nk (fun q => by omega))) (fun i => (aI_nk (fun q => by omega))) (fun i => (aI_nk (fun q => by omega))) KN1
  have Fb2 : a_I (s_I M1 1 12 (1 : Int32)) 1 11 = (bif l_lp L then 1 else 0) := (aI_nk (fun q => by omega)).trans h12
  have Fa2 : a_I (s_I M1 1 12 (1 : Int32)) 1 12 = (1 : Int32) := aI_at
  show wpS cd (nv_S (tauC t0) (d + 7, [], 58, 14, [(0, .inr (.inr (some 1)))], [], (s_I M1 1 12 (1 : Int32)))) _
  generalize (s_I M1 1 12 (1 : Int32)) = W2 at R2_ KR2 KW2 KN2 Fb2 Fa2 ⊢
  refine nv_cut hct nvC 67 0 10 (S' := (d + 6, [(58, 27, [(0, .inr (.inr (some 1)))], [.inr (.inr (some 300))])], 67, 0, la 0 [.inr (.inr (some 1)), .inr (.inr (some (aSB + 9))), .inl (0 : Int32), .inl (99 : Int32)], [], W2)) R2_.1.1 rfl ?_
  refine nv_calli (c_takeNum hz R2_.1 R2_.2.1 (k := 9) (by decide)) (fun v2 M2 ⟨g2, S2, h2⟩ => ?_)
  have h2 : ∀ q, cst1 B lim L p = .inl q → v2.toInt = m_val B lim (m_wd B lim (txc 35) (cst0 B lim L p)) ∧ 0 ≤ v2.toInt ∧ v2.toInt ≤ 99 := h2
  have R3_ : RdC t0 B lim M0 M2 (cst1 B lim L p) := Rc_N R2_ (fC_N g2) S2
  have KR3 := ClR_N ht4 (fC_N g2) KR2
  have KW3 := ClW_N ht4 (fC_N g2) KW2
  have KN3 := CN_C g2 KN2
  have Fb3 : a_I M2 1 11 = (bif l_lp L then 1 else 0) := (g2.2.2 _ _ rfl).trans Fb2
  have Fa3 : a_I M2 1 12 = (1 : Int32) := (g2.2.2 _ _ rfl).trans Fa2
  refine nv_cut hct nvC 58 30 4 (S' := (d + 7, [], 58, 30, [(0, .inr (.inr (some 1)))], [], (s_I M2 t0 7 v2))) R3_.1.1 rfl ?_
  have R4_ : RdC t0 B lim M0 (s_I M2 t0 7 v2) (cst1 B lim L p) := Rc_0 (Or.inr (by decide)) R3_
  have KR4 : ClR t0 (s_I M2 t0 7 v2) L := ClR_e (aI_nk (fun q => by omega)) (aI_nk (fun q => by omega)) (aI_nk (fun q => by omega)) (aI_nk (fun q => by omega)) KR3
  have KW4 : ClW t0 (s_I M2 t0 7 v2) L := ClW_e (aI_nk (fun q => by omega)) (aI_nk (fun q => by omega)) (aI_nk (fun q => by omega)) (aI_nk (fun q => by omega)) (aI_nk (fun q => by omega)) (aI_nk (fun q => by omega)) KW3
  have KN4 : CN B lim (s_I M2 t0 7 v2) L := CN_e (aI_nk (fun q => by omega)) (fun i => (aI_nk (fun q => by omega))) (fun i => (aI_nk (fun q => by omega))) (fun i => (aI_nk (fun q => by omega))) KN3
  have Fb4 : a_I (s_I M2 t0 7 v2) 1 11 = (bif l_lp L then 1 else 0) := (aI_nk (fun q => by omega)).trans Fb3
  have Fa4 : a_I (s_I M2 t0 7 v2) 1 12 = (1 : Int32) := (aI_nk (fun q => by omega)).trans Fa3
  show wpS cd (nv_S (tauC t0) (d + 7, [], 58, 30, [(0, .inr (.inr (some 1)))], [], (s_I M2 t0 7 v2))) _
  generalize (s_I M2 t0 7 v2) = W4 at R4_ KR4 KW4 KN4 Fb4 Fa4 ⊢
  refine nv_cut hct nvC 67 0 10 (S' := (d + 6, [(58, 43, [(0, .inr (.inr (some 1)))], [.inr (.inr (some 300))])], 67, 0, la 0 [.inr (.inr (some 1)), .inr (.inr (some (aSB + 4))), .inl (0 : Int32), .inl (99 : Int32)], [], W4)) R4_.1.1 rfl ?_
  refine nv_calli (c_takeNum hz R4_.1 R4_.2.1 (k := 4) (by decide)) (fun v3 M3 ⟨g3, S3, h3⟩ => ?_)
  have h3 : ∀ q, cst2 B lim L p = .inl q → v3.toInt = m_val B lim (m_wd B lim (txc 30) (cst1 B lim L p)) ∧ 0 ≤ v3.toInt ∧ v3.toInt ≤ 99 := h3
  have R5_ : RdC t0 B lim M0 M3 (cst2 B lim L p) := Rc_N R4_ (fC_N g3) S3
  have KR5 := ClR_N ht4 (fC_N g3) KR4
  have KW5 := ClW_N ht4 (fC_N g3) KW4
  have KN5 := CN_C g3 KN4
  have Fb5 : a_I M3 1 11 = (bif l_lp L then 1 else 0) := (g3.2.2 _ _ rfl).trans Fb4
  have Fa5 : a_I M3 1 12 = (1 : Int32) := (g3.2.2 _ _ rfl).trans Fa4
  refine nv_cut hct nvC 58 46 4 (S' := (d + 7, [], 58, 46, [(0, .inr (.inr (some 1)))], [], (s_I M3 t0 8 v3))) R5_.1.1 rfl ?_
  have R6_ : RdC t0 B lim M0 (s_I M3 t0 8 v3) (cst2 B lim L p) := Rc_0 (Or.inr (by decide)) R5_
  have KR6 : ClR t0 (s_I M3 t0 8 v3) L := ClR_e (aI_nk (fun q => by omega)) (aI_nk (fun q => by omega)) (aI_nk (fun q => by omega)) (aI_nk (fun q => by omega)) KR5
  have KW6 : ClW t0 (s_I M3 t0 8 v3) L := ClW_e (aI_nk (fun q => by omega)) (aI_nk (fun q => by omega)) (aI_nk (fun q => by omega)) (aI_nk (fun q => by omega)) (aI_nk (fun q => by omega)) (aI_nk (fun q => by omega)) KW5
  have KN6 : CN B lim (s_I M3 t0 8 v3) L := CN_e (aI_nk (fun q => by omega)) (fun i => (aI_nk (fun q => by omega))) (fun i => (aI_nk (fun q => by omega))) (fun i => (aI_nk (fun q => by omega))) KN5
  have Fb6 : a_I (s_I M3 t0 8 v3) 1 11 = (bif l_lp L then 1 else 0) := (aI_nk (fun q => by omega)).trans Fb5
  have Fa6 : a_I (s_I M3 t0 8 v3) 1 12 = (1 : Int32) := (aI_nk (fun q => by omega)).trans Fa5
  show wpS cd (nv_S (tauC t0) (d + 7, [], 58, 46, [(0, .inr (.inr (some 1)))], [], (s_I M3 t0 8 v3))) _
  generalize (s_I M3 t0 8 v3) = W6 at R6_ KR6 KW6 KN6 Fb6 Fa6 ⊢
  refine nv_cut hct nvC 67 0 10 (S' := (d + 6, [(58, 59, [(0, .inr (.inr (some 1)))], [.inr (.inr (some 300))])], 67, 0, la 0 [.inr (.inr (some 1)), .inr (.inr (some (aSB + 10))), .inl (0 : Int32), .inl (99 : Int32)], [], W6)) R6_.1.1 rfl ?_
  refine nv_calli (c_takeNum hz R6_.1 R6_.2.1 (k := 10) (by decide)) (fun v4 M4 ⟨g4, S4, h4⟩ => ?_)
  have h4 : ∀ q, cst3 B lim L p = .inl q → v4.toInt = m_val B lim (m_wd B lim (txc 36) (cst2 B lim L p)) ∧ 0 ≤ v4.toInt ∧ v4.toInt ≤ 99 := h4
  have R7_ : RdC t0 B lim M0 M4 (cst3 B lim L p) := Rc_N R6_ (fC_N g4) S4
  have KR7 := ClR_N ht4 (fC_N g4) KR6
  have KW7 := ClW_N ht4 (fC_N g4) KW6
  have KN7 := CN_C g4 KN6
  have Fb7 : a_I M4 1 11 = (bif l_lp L then 1 else 0) := (g4.2.2 _ _ rfl).trans Fb6
  have Fa7 : a_I M4 1 12 = (1 : Int32) := (g4.2.2 _ _ rfl).trans Fa6
  refine nv_cut hct nvC 58 62 4 (S' := (d + 7, [], 58, 62, [(0, .inr (.inr (some 1)))], [], (s_I M4 t0 9 v4))) R7_.1.1 rfl ?_
  have R8_ : RdC t0 B lim M0 (s_I M4 t0 9 v4) (cst3 B lim L p) := Rc_0 (Or.inr (by decide)) R7_
  have KR8 : ClR t0 (s_I M4 t0 9 v4) L := ClR_e (aI_nk (fun q => by omega)) (aI_nk (fun q => by omega)) (aI_nk (fun q => by omega)) (aI_nk (fun q => by omega)) KR7
  have KW8 : ClW t0 (s_I M4 t0 9 v4) L := ClW_e (aI_nk (fun q => by omega)) (aI_nk (fun q => by omega)) (aI_nk (fun q => by omega)) (aI_nk (fun q => by omega)) (aI_nk (fun q => by omega)) (aI_nk (fun q => by omega)) KW7
  have KN8 : CN B lim (s_I M4 t0 9 v4) L := CN_e (aI_nk (fun q => by omega)) (fun i => (aI_nk (fun q => by omega))) (fun i => (aI_nk (fun q => by omega))) (fun i => (aI_nk (fun q => by omega))) KN7
  have Fb8 : a_I (s_I M4 t0 9 v4) 1 11 = (bif l_lp L then 1 else 0) := (aI_nk (fun q => by omega)).trans Fb7
  have Fa8 : a_I (s_I M4 t0 9 v4) 1 12 = (1 : Int32) := (aI_nk (fun q => by omega)).trans Fa7
  show wpS cd (nv_S (tauC t0) (d + 7, [], 58, 62, [(0, .inr (.inr (some 1)))], [], (s_I M4 t0 9 v4))) _
  generalize (s_I M4 t0 9 v4) = W8 at R8_ KR8 KW8 KN8 Fb8 Fa8 ⊢
  exact nv_vret hct rfl ⟨rfl, R8_, fun q hm => ⟨KR8, ⟨Fb8, Fa8⟩, KW8, KN8, K.2.2.2.2⟩⟩

/-! A new shop of the reference. -/
theorem aK_new {M : aM} {c z n a : Nat} : a_K (a_new M c z n) a = if a = a_n M then c else a_K M a := up1_eq
theorem aN_new {M : aM} {c z n a : Nat} : a_N (a_new M c z n) a = if a = a_n M then n else a_N M a := up1_eq
theorem aI_new {M : aM} {c z n a k : Nat} : a_I (a_new M c z n) a k = if a = a_n M then 0 else a_I M a k := by
  show up1 (a_I M) (a_n M) (fun _ => 0) a k = _
  rw [up1_eq]
  split <;> rfl
theorem aJ_new {M : aM} {c z n a k : Nat} : a_J (a_new M c z n) a k = if a = a_n M then 0 else a_J M a k := by
  show up1 (a_J M) (a_n M) (fun _ => 0) a k = _
  rw [up1_eq]
  split <;> rfl
theorem aP_new {M : aM} {c z n a k : Nat} : a_P (a_new M c z n) a k = if a = a_n M then none else a_P M a k := by
  show up1 (a_P M) (a_n M) (fun _ => none) a k = _
  rw [up1_eq]
  split <;> rfl
theorem aP_sP {M : aM} {a k b j : Nat} {v : Option Nat} : a_P (s_P M a k v) b j = if b = a ∧ j = k then v else a_P M b j := up2_eq
def kdL (i : Nat) : Nat := if i = 10 ∨ i = 11 then 17 else if i = 12 then 16 else 15
def lnL (i : Nat) : Nat := if i < 4 then 4 else if i < 7 then 10 else 8
theorem lnL_le {i : Nat} : lnL i ≤ 10 := by
  unfold lnL
  split
  · omega
  · split <;> omega
/-- the new shop with j of its arrays -/
def NwI (n0 j : Nat) (M0 M : aM) : Prop := (a_n M = n0 + 1 + j ∧ a_c M = a_c M0 + 1 + j ∧ a_z M ≤ a_z M0 + 29 + 10 * j) ∧ (∀ a, a < n0 → a_K M a = a_K M0 a ∧ a_N M a = a_N M0 a ∧ ∀ k, a_I M a k = a_I M0 a k ∧ a_J M a k = a_J M0 a k ∧ a_P M a k = a_P M0 a k) ∧ (a_K M n0 = 12 ∧ a_N M n0 = 0 ∧ ∀ k, a_I M n0 k = if k = 7 then -1 else 0) ∧ ∀ i, i < j → (a_K M (n0 + 1 + i) = kdL i ∧ a_N M (n0 + 1 + i) = lnL i ∧ a_P M n0 (15 + i) = some (n0 + 1 + i)) ∧ ∀ k, a_I M (n0 + 1 + i) k = 0
theorem Nw_step {n0 j sl kd len : Nat} {M0 M : aM} (hsl : sl = 15 + j) (hkd : kd = kdL j) (hlen : len = lnL j) (I : NwI n0 j M0 M) : NwI n0 (j + 1) M0 (s_P (a_new M kd len len) n0 sl (some (a_n M))) := by
  obtain ⟨⟨i1, i2, i3⟩, i4, ⟨i5, i6, i7⟩, i8⟩ := I
  have hK : ∀ a, a_K (s_P (a_new M kd len len) n0 sl (some (a_n M))) a = if a = a_n M then kd else a_K M a := fun a => aK_new (c := kd) (z := len) (n := len)
  have hN : ∀ a, a_N (s_P (a_new M kd len len) n0 sl (some (a_n M))) a = if a = a_n M then len else a_N M a := fun a => aN_new (c := kd) (z := len) (n := len)
  have hI : ∀ a k, a_I (s_P (a_new M kd len len) n0 sl (some (a_n M))) a k = if a = a_n M then 0 else a_I M a k := fun a k => aI_new (c := kd) (z := len) (n := len)
  have hJ : ∀ a k, a_J (s_P (a_new M kd len len) n0 sl (some (a_n M))) a k = if a = a_n M then 0 else a_J M a k := fun a k => aJ_new (c := kd) (z := len) (n := len)
  have hP : ∀ a k, a_P (s_P (a_new M kd len len) n0 sl (some (a_n M))) a k = if a = n0 ∧ k = sl then some (a_n M) else if a = a_n M then none else a_P M a k := fun a k => by rw [aP_sP, aP_new]
  have hl : len ≤ 10 := by rw [hlen]; exact lnL_le
  refine ⟨⟨?_, ?_, ?_⟩, fun a ha => ?_, ⟨?_, ?_, fun k => ?_⟩, fun i hi => ⟨⟨?_, ?_, ?_⟩, fun k => ?_⟩⟩
  · show a_n M + 1 = _; omega
  · show a_c M + 1 = _; omega
  · show a_z M + len ≤ _; omega
  · rw [hK, hN, if_neg (by omega), if_neg (by omega)]
    refine ⟨(i4 a ha).1, (i4 a ha).2.1, fun k => ?_⟩
    rw [hI, hJ, hP, if_neg (by omega), if_neg (by omega), if_neg (by omega), if_neg (by omega)]
    exact (i4 a ha).2.2 k
  · rw [hK, if_neg (by omega)]; exact i5
  · rw [hN, if_neg (by omega)]; exact i6
  · rw [hI, if_neg (by omega)]; exact i7 k
  · by_cases e : i = j
    · subst e; rw [hK, if_pos (by omega)]; exact hkd
    · rw [hK, if_neg (by omega)]; exact (i8 i (by omega)).1.1
  · by_cases e : i = j
    · subst e; rw [hN, if_pos (by omega)]; exact hlen
    · rw [hN, if_neg (by omega)]; exact (i8 i (by omega)).1.2.1
  · by_cases e : i = j
    · subst e; rw [hP, if_pos ⟨rfl, hsl.symm⟩, i1]
    · rw [hP, if_neg (by omega), if_neg (by omega)]; exact (i8 i (by omega)).1.2.2
  · by_cases e : i = j
    · subst e; rw [hI, if_pos (by omega)]
    · rw [hI, if_neg (by omega)]; exact (i8 i (by omega)).2 k
theorem n_blk {cd : Nat → Nat → Option aI} {z : Bool} (hz : ∀ m p i, cd0 z m p = some i → cd m p = some i) {p0 p1 p2 p3 p4 kd sl len j n0 : Nat} {ln : Int32} (i0 : cd0 z 146 p0 = some (j_aload p1 0)) (i1 : cd0 z 146 p1 = some (j_c p2 ln)) (i2 : cd0 z 146 p2 = some (j_newa p3 kd)) (i3 : cd0 z 146 p3 = some (j_putr p4 12 sl)) (hln : ln.toInt = (len : Int)) (hsl : sl = 15 + j) (hkd : kd = kdL j) (hlen : len = lnL j) (hj : j < 14) (hb : n0 + 40 < aSB) {M0 M : aM} {d : Nat} {fs : List aFr} {Q : aQ} (I : NwI n0 j M0 M) (h : ∀ M', NwI n0 (j + 1) M0 M' → wpS cd (d, fs, 146, p4, [(0, .inr (.inr (some n0)))], [], M') Q) : wpS cd (d, fs, 146, p0, [(0, .inr (.inr (some n0)))], [], M) Q := by
  have hl : len ≤ 10 := by rw [hlen]; exact lnL_le
  have i1n := I.1.1
  refine wp_step (hz _ _ _ i0) rfl ?_
  refine wp_step (hz _ _ _ i1) rfl ?_
  refine wp_step (hz _ _ _ i2) (M' := a_new M kd len len) (pc' := p3) (lo' := [(0, .inr (.inr (some n0)))]) (st' := [.inr (.inr (some (a_n M))), .inr (.inr (some n0))]) ?_ ?_
  · show (bif (!decide (ln < 0) && Nat.ble ln.toNatClampNeg 1000000) && Nat.blt (a_n M + 1) aSB then _ else none) = _
    rw [tnc hln, decide_eq_false (fun q => by have := Int32.lt_iff_toInt_lt.mp q; rw [hln] at this; have : (len : Int) < 0 := this; omega), show Nat.ble len 1000000 = true from Nat.ble_eq.mpr (by omega), show Nat.blt (a_n M + 1) aSB = true from Nat.ble_eq.mpr (by omega)]
    rfl
  · refine wp_step (hz _ _ _ i3) (M' := s_P (a_new M kd len len) n0 sl (some (a_n M))) (pc' := p4) (lo' := [(0, .inr (.inr (some n0)))]) (st' := []) ?_ (h _ (Nw_step hsl hkd hlen I))
    show (bif Nat.blt n0 (a_n M + 1) && Nat.beq (a_K (a_new M kd len len) n0) 12 then _ else none) = _
    rw [aK_new, if_neg (by omega), I.2.2.1.1, show Nat.blt n0 (a_n M + 1) = true from Nat.ble_eq.mpr (by omega)]
    rfl
theorem Nw_0 {M : aM} {v : Int32} (hv : v = -1) : NwI (a_n M) 0 M (s_I (a_new M 12 29 0) (a_n M) 7 v) := by
  have hI : ∀ a k, a_I (s_I (a_new M 12 29 0) (a_n M) 7 v) a k = if a = a_n M ∧ k = 7 then v else if a = a_n M then 0 else a_I M a k := fun a k => by rw [aI_sI, aI_new]
  refine ⟨⟨rfl, rfl, Nat.le_refl _⟩, fun a ha => ⟨?_, ?_, fun k => ⟨?_, ?_, ?_⟩⟩, ⟨?_, ?_, fun k => ?_⟩, fun i hi => absurd hi (Nat.not_lt_zero i)⟩
  · exact (aK_new (c := 12) (z := 29) (n := 0)).trans (if_neg (by omega))
  · exact (aN_new (c := 12) (z := 29) (n := 0)).trans (if_neg (by omega))
  · rw [hI, if_neg (by omega), if_neg (by omega)]
  · exact (aJ_new (c := 12) (z := 29) (n := 0)).trans (if_neg (by omega))
  · exact (aP_new (c := 12) (z := 29) (n := 0)).trans (if_neg (by omega))
  · exact (aK_new (c := 12) (z := 29) (n := 0)).trans (if_pos rfl)
  · exact (aN_new (c := 12) (z := 29) (n := 0)).trans (if_pos rfl)
  · rw [hI, hv]
    by_cases e : k = 7
    · rw [if_pos ⟨rfl, e⟩, if_pos e]
    · rw [if_neg (fun q => e q.2), if_pos rfl, if_neg e]
set_option maxHeartbeats 4000000 in
theorem n_init {cd : Nat → Nat → Option aI} {z : Bool} (hz : ∀ m p i, cd0 z m p = some i → cd m p = some i) {M : aM} (hb : a_n M + 40 < aSB) {d : Nat} : wpS cd (d, [], 146, 0, la 0 [.inr (.inr (some (a_n M)))], [], a_new M 12 29 0) (fun r M' => r = none ∧ NwI (a_n M) 14 M M') := by
  show wpS cd (d, [], 146, 0, [(0, .inr (.inr (some (a_n M))))], [], a_new M 12 29 0) _
  refine wp_step (hz _ _ _ rfl) rfl ?_
  refine wp_step (hz _ _ _ rfl) (M' := a_new M 12 29 0) (pc' := 4) (lo' := [(0, .inr (.inr (some (a_n M))))]) (st' := []) ?_ ?_
  · first | rfl | (show (bif Nat.blt (a_n M) (a_n M + 1) && _ then _ else none) = _; rw [show Nat.blt (a_n M) (a_n M + 1) = true from Nat.ble_eq.mpr (by omega)]; rfl)
  refine wp_step (hz _ _ _ rfl) rfl ?_
  refine wp_step (hz _ _ _ rfl) rfl ?_
  refine wp_step (hz _ _ _ rfl) (M' := s_I (a_new M 12 29 0) (a_n M) 7 (-1)) (pc' := 9) (lo' := [(0, .inr (.inr (some (a_n M))))]) (st' := []) ?_ ?_
  · show (bif (Nat.blt (a_n M) (a_n M + 1) && Nat.beq (a_K (a_new M 12 29 0) (a_n M)) 12) && (!false || isB (-1)) then _ else none) = _
    rw [aK_new, if_pos rfl, show Nat.blt (a_n M) (a_n M + 1) = true from Nat.ble_eq.mpr (by omega)]
    rfl
  show wpS cd (d, [], 146, 9, [(0, .inr (.inr (some (a_n M))))], [], s_I (a_new M 12 29 0) (a_n M) 7 (-1)) _
  have I0 := Nw_0 (M := M) (v := -1) rfl
  refine n_blk hz (p0 := 9) (p1 := 10) (p2 := 11) (p3 := 13) (p4 := 16) (kd := 15) (sl := 15) (len := 4) (j := 0) (ln := 4) rfl rfl rfl rfl rfl rfl rfl rfl (by decide) hb I0 (fun M1 I1 => ?_)
  refine n_blk hz (p0 := 16) (p1 := 17) (p2 := 18) (p3 := 20) (p4 := 23) (kd := 15) (sl := 16) (len := 4) (j := 1) (ln := 4) rfl rfl rfl rfl rfl rfl rfl rfl (by decide) hb I1 (fun M2 I2 => ?_)
  refine n_blk hz (p0 := 23) (p1 := 24) (p2 := 25) (p3 := 27) (p4 := 30) (kd := 15) (sl := 17) (len := 4) (j := 2) (ln := 4) rfl rfl rfl rfl rfl rfl rfl rfl (by decide) hb I2 (fun M3 I3 => ?_)
  refine n_blk hz (p0 := 30) (p1 := 31) (p2 := 32) (p3 := 34) (p4 := 37) (kd := 15) (sl := 18) (len := 4) (j := 3) (ln := 4) rfl rfl rfl rfl rfl rfl rfl rfl (by decide) hb I3 (fun M4 I4 => ?_)
  refine n_blk hz (p0 := 37) (p1 := 38) (p2 := 40) (p3 := 42) (p4 := 45) (kd := 15) (sl := 19) (len := 10) (j := 4) (ln := 10) rfl rfl rfl rfl rfl rfl rfl rfl (by decide) hb I4 (fun M5 I5 => ?_)
  refine n_blk hz (p0 := 45) (p1 := 46) (p2 := 48) (p3 := 50) (p4 := 53) (kd := 15) (sl := 20) (len := 10) (j := 5) (ln := 10) rfl rfl rfl rfl rfl rfl rfl rfl (by decide) hb I5 (fun M6 I6 => ?_)
  refine n_blk hz (p0 := 53) (p1 := 54) (p2 := 56) (p3 := 58) (p4 := 61) (kd := 15) (sl := 21) (len := 10) (j := 6) (ln := 10) rfl rfl rfl rfl rfl rfl rfl rfl (by decide) hb I6 (fun M7 I7 => ?_)
  refine n_blk hz (p0 := 61) (p1 := 62) (p2 := 64) (p3 := 66) (p4 := 69) (kd := 15) (sl := 22) (len := 8) (j := 7) (ln := 8) rfl rfl rfl rfl rfl rfl rfl rfl (by decide) hb I7 (fun M8 I8 => ?_)
  refine n_blk hz (p0 := 69) (p1 := 70) (p2 := 72) (p3 := 74) (p4 := 77) (kd := 15) (sl := 23) (len := 8) (j := 8) (ln := 8) rfl rfl rfl rfl rfl rfl rfl rfl (by decide) hb I8 (fun M9 I9 => ?_)
  refine n_blk hz (p0 := 77) (p1 := 78) (p2 := 80) (p3 := 82) (p4 := 85) (kd := 15) (sl := 24) (len := 8) (j := 9) (ln := 8) rfl rfl rfl rfl rfl rfl rfl rfl (by decide) hb I9 (fun M10 I10 => ?_)
  refine n_blk hz (p0 := 85) (p1 := 86) (p2 := 88) (p3 := 90) (p4 := 93) (kd := 17) (sl := 25) (len := 8) (j := 10) (ln := 8) rfl rfl rfl rfl rfl rfl rfl rfl (by decide) hb I10 (fun M11 I11 => ?_)
  refine n_blk hz (p0 := 93) (p1 := 94) (p2 := 96) (p3 := 98) (p4 := 101) (kd := 17) (sl := 26) (len := 8) (j := 11) (ln := 8) rfl rfl rfl rfl rfl rfl rfl rfl (by decide) hb I11 (fun M12 I12 => ?_)
  refine n_blk hz (p0 := 101) (p1 := 102) (p2 := 104) (p3 := 106) (p4 := 109) (kd := 16) (sl := 27) (len := 8) (j := 12) (ln := 8) rfl rfl rfl rfl rfl rfl rfl rfl (by decide) hb I12 (fun M13 I13 => ?_)
  refine n_blk hz (p0 := 109) (p1 := 110) (p2 := 112) (p3 := 114) (p4 := 117) (kd := 15) (sl := 28) (len := 8) (j := 13) (ln := 8) rfl rfl rfl rfl rfl rfl rfl rfl (by decide) hb I13 (fun M14 I14 => ?_)
  exact wp_ret (hz _ _ _ rfl) rfl ⟨rfl, I14⟩

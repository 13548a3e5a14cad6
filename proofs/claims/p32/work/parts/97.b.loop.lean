/-! The law's loop, whole: printed by wip/gen/lawl.py -/
theorem tab_at {pc hi9 dflt : Int} {offs : Array Int} {off : Int} {n : Nat} {x : Int32} {lo : aL} {s : List aV} {M : aM} (hx : x.toInt = (n : Int)) (hn : (n : Int) ≤ hi9) (ho : offs[n]? = some off) : j_tab pc 0 hi9 dflt offs lo (.inl x :: s) M = some (.inl ((pc + off).toNat, lo, s, M)) := by
  unfold j_tab
  simp only
  rw [if_neg (by omega), show (x.toInt - 0).toNat = n by omega, ho]
theorem tab_d {pc hi9 dflt : Int} {offs : Array Int} {x : Int32} {lo : aL} {s : List aV} {M : aM} (hx : hi9 < x.toInt) : j_tab pc 0 hi9 dflt offs lo (.inl x :: s) M = some (.inl ((pc + dflt).toNat, lo, s, M)) := by
  unfold j_tab
  simp only
  rw [if_pos (Or.inr hx)]
theorem and63 (x : Int32) : ∃ n : Nat, (x &&& 63).toInt = (n : Int) ∧ n < 64 := by
  have h : (x &&& 63).toBitVec = x.toBitVec &&& 63#32 := rfl
  have h1 : (x &&& 63).toBitVec.toNat ≤ 63 := by rw [h, BitVec.toNat_and]; exact Nat.and_le_right
  have h2 : (x &&& 63).toInt = (x &&& 63).toBitVec.toInt := rfl
  refine ⟨(x &&& 63).toBitVec.toNat, ?_, by omega⟩
  rw [h2, BitVec.toInt_eq_toNat_of_lt (by omega)]
theorem lw_body {L : Nat} {xs : Nat → Int32} {z : Bool} {q : Nat} (hq : q ≤ 600) {i : Int32} (hi : i.toInt = ((6 * q : Nat) : Int)) (hb : 6 * q + 6 ≤ L) {M : aM} (hI : LZ q M) {lo : aL} (hl : cL lo i) {Q : aQ} (hc : ∀ M' lo', cL lo' i → LZ (q + 1) M' → wpS (cdC L xs z) (40, [], 252, 1160, lo', [], M') Q) : wpS (cdC L xs z) (40, [], 252, 33, lo, [], M) Q := by
  refine lw_st (L := L) (xs := xs) (z := z) rfl (al_e hl.1) ?_
  refine lw_st (L := L) (xs := xs) (z := z) rfl (il_e hl.2.2.2.2) ?_
  refine lw_st (L := L) (xs := xs) (z := z) rfl (p' := 37) (lo' := lo) (st' := [.inl (xs (6 * q))]) (M' := M) (by
    show (bif Nat.beq aXS aXS && inb i L then (some (.inl (37, lo, [.inl (xs i.toNatClampNeg)], M)) : Option aR) else none) = _
    rw [inb_p hi (by omega), tnc hi, Nat.beq_refl]
    rfl) ?_
  refine lw_st (L := L) (xs := xs) (z := z) rfl rfl ?_
  refine lw_st (L := L) (xs := xs) (z := z) rfl rfl ?_
  obtain ⟨n, hn, h64⟩ := and63 (xs (6 * q))
  by_cases h33 : 33 ≤ n
  · refine lw_st (L := L) (xs := xs) (z := z) rfl (tab_d (x := xs (6 * q) &&& 63) (by omega)) ?_
    exact hc M lo hl (LZ_up hI)
  · rcases (show n = 0 ∨ n = 1 ∨ n = 2 ∨ n = 3 ∨ n = 4 ∨ n = 5 ∨ n = 6 ∨ n = 7 ∨ n = 8 ∨ n = 9 ∨ n = 10 ∨ n = 11 ∨ n = 12 ∨ n = 13 ∨ n = 14 ∨ n = 15 ∨ n = 16 ∨ n = 17 ∨ n = 18 ∨ n = 19 ∨ n = 20 ∨ n = 21 ∨ n = 22 ∨ n = 23 ∨ n = 24 ∨ n = 25 ∨ n = 26 ∨ n = 27 ∨ n = 28 ∨ n = 29 ∨ n = 30 ∨ n = 31 ∨ n = 32 by omega) with rfl | rfl | rfl | rfl | rfl | rfl | rfl | rfl | rfl | rfl | rfl | rfl | rfl | rfl | rfl | rfl | rfl | rfl | rfl | rfl | rfl | rfl | rfl | rfl | rfl | rfl | rfl | rfl | rfl | rfl | rfl | rfl | rfl
    · refine lw_st (L := L) (xs := xs) (z := z) rfl (tab_at (off := 148) hn (by decide) rfl) ?_
      exact lw_0 hq hi hb hI hl hc
    · refine lw_st (L := L) (xs := xs) (z := z) rfl (tab_at (off := 221) hn (by decide) rfl) ?_
      exact lw_1 hq hi hb hI hl hc
    · refine lw_st (L := L) (xs := xs) (z := z) rfl (tab_at (off := 246) hn (by decide) rfl) ?_
      exact lw_2 hq hi hb hI hl hc
    · refine lw_st (L := L) (xs := xs) (z := z) rfl (tab_at (off := 259) hn (by decide) rfl) ?_
      exact lw_3 hq hi hb hI hl hc
    · refine lw_st (L := L) (xs := xs) (z := z) rfl (tab_at (off := 272) hn (by decide) rfl) ?_
      exact lw_4 hq hi hb hI hl hc
    · refine lw_st (L := L) (xs := xs) (z := z) rfl (tab_at (off := 313) hn (by decide) rfl) ?_
      exact lw_5 hq hi hb hI hl hc
    · refine lw_st (L := L) (xs := xs) (z := z) rfl (tab_at (off := 338) hn (by decide) rfl) ?_
      exact lw_6 hq hi hb hI hl hc
    · refine lw_st (L := L) (xs := xs) (z := z) rfl (tab_at (off := 375) hn (by decide) rfl) ?_
      exact lw_7 hq hi hb hI hl hc
    · refine lw_st (L := L) (xs := xs) (z := z) rfl (tab_at (off := 400) hn (by decide) rfl) ?_
      exact lw_8 hq hi hb hI hl hc
    · refine lw_st (L := L) (xs := xs) (z := z) rfl (tab_at (off := 437) hn (by decide) rfl) ?_
      exact lw_9 hq hi hb hI hl hc
    · refine lw_st (L := L) (xs := xs) (z := z) rfl (tab_at (off := 462) hn (by decide) rfl) ?_
      exact lw_10 hq hi hb hI hl hc
    · refine lw_st (L := L) (xs := xs) (z := z) rfl (tab_at (off := 499) hn (by decide) rfl) ?_
      exact lw_11 hq hi hb hI hl hc
    · refine lw_st (L := L) (xs := xs) (z := z) rfl (tab_at (off := 524) hn (by decide) rfl) ?_
      exact lw_12 hq hi hb hI hl hc
    · refine lw_st (L := L) (xs := xs) (z := z) rfl (tab_at (off := 549) hn (by decide) rfl) ?_
      exact lw_13 hq hi hb hI hl hc
    · refine lw_st (L := L) (xs := xs) (z := z) rfl (tab_at (off := 562) hn (by decide) rfl) ?_
      exact lw_14 hq hi hb hI hl hc
    · refine lw_st (L := L) (xs := xs) (z := z) rfl (tab_at (off := 599) hn (by decide) rfl) ?_
      exact lw_15 hq hi hb hI hl hc
    · refine lw_st (L := L) (xs := xs) (z := z) rfl (tab_at (off := 612) hn (by decide) rfl) ?_
      exact lw_16 hq hi hb hI hl hc
    · refine lw_st (L := L) (xs := xs) (z := z) rfl (tab_at (off := 625) hn (by decide) rfl) ?_
      exact lw_17 hq hi hb hI hl hc
    · refine lw_st (L := L) (xs := xs) (z := z) rfl (tab_at (off := 662) hn (by decide) rfl) ?_
      exact lw_18 hq hi hb hI hl hc
    · refine lw_st (L := L) (xs := xs) (z := z) rfl (tab_at (off := 687) hn (by decide) rfl) ?_
      exact lw_19 hq hi hb hI hl hc
    · refine lw_st (L := L) (xs := xs) (z := z) rfl (tab_at (off := 740) hn (by decide) rfl) ?_
      exact lw_20 hq hi hb hI hl hc
    · refine lw_st (L := L) (xs := xs) (z := z) rfl (tab_at (off := 765) hn (by decide) rfl) ?_
      exact lw_21 hq hi hb hI hl hc
    · refine lw_st (L := L) (xs := xs) (z := z) rfl (tab_at (off := 790) hn (by decide) rfl) ?_
      exact lw_22 hq hi hb hI hl hc
    · refine lw_st (L := L) (xs := xs) (z := z) rfl (tab_at (off := 839) hn (by decide) rfl) ?_
      exact lw_23 hq hi hb hI hl hc
    · refine lw_st (L := L) (xs := xs) (z := z) rfl (tab_at (off := 876) hn (by decide) rfl) ?_
      exact lw_24 hq hi hb hI hl hc
    · refine lw_st (L := L) (xs := xs) (z := z) rfl (tab_at (off := 901) hn (by decide) rfl) ?_
      exact lw_25 hq hi hb hI hl hc
    · refine lw_st (L := L) (xs := xs) (z := z) rfl (tab_at (off := 914) hn (by decide) rfl) ?_
      exact lw_26 hq hi hb hI hl hc
    · refine lw_st (L := L) (xs := xs) (z := z) rfl (tab_at (off := 927) hn (by decide) rfl) ?_
      exact lw_27 hq hi hb hI hl hc
    · refine lw_st (L := L) (xs := xs) (z := z) rfl (tab_at (off := 976) hn (by decide) rfl) ?_
      exact lw_28 hq hi hb hI hl hc
    · refine lw_st (L := L) (xs := xs) (z := z) rfl (tab_at (off := 989) hn (by decide) rfl) ?_
      exact lw_29 hq hi hb hI hl hc
    · refine lw_st (L := L) (xs := xs) (z := z) rfl (tab_at (off := 1054) hn (by decide) rfl) ?_
      exact lw_30 hq hi hb hI hl hc
    · refine lw_st (L := L) (xs := xs) (z := z) rfl (tab_at (off := 1079) hn (by decide) rfl) ?_
      exact lw_31 hq hi hb hI hl hc
    · refine lw_st (L := L) (xs := xs) (z := z) rfl (tab_at (off := 1107) hn (by decide) rfl) ?_
      exact lw_32 hq hi hb hI hl hc
theorem lw_loop {L : Nat} (hL : L ≤ 3072) {xs : Nat → Int32} {z : Bool} : ∀ (f : Nat) {q : Nat} {i : Int32} {M : aM} {lo : aL}, L + 6 - 6 * q ≤ f → 6 * q ≤ L + 5 → i.toInt = ((6 * q : Nat) : Int) → LZ q M → cL lo i → wpS (cdC L xs z) (40, [], 252, 23, lo, [], M) (fun r M' => r = some (.inl 1) ∧ a_c M' ≤ 601024 ∧ a_z M' ≤ 7293034) := by
  intro f
  induction f with
  | zero => intro q i M lo h1 h2; omega
  | succ f ih =>
    intro q i M lo h1 h2 hi hI hl
    have hL9 : (Int32.ofNat L).toInt = (L : Int) := Int32.toInt_ofNat_of_lt (by omega)
    have hy : (Int32.ofNat L - 6).toInt = (L : Int) - 6 := by
      rw [sub_i]
      · rw [hL9]; rfl
      · rw [hL9]; show (-2147483648 : Int) ≤ (L : Int) - 6; omega
      · rw [hL9]; show (L : Int) - 6 ≤ (2147483647 : Int); omega
    refine lw_st (L := L) (xs := xs) (z := z) rfl (il_e hl.2.2.2.2) ?_
    refine lw_st (L := L) (xs := xs) (z := z) rfl (al_e hl.1) ?_
    refine lw_st (L := L) (xs := xs) (z := z) rfl rfl ?_
    refine lw_st (L := L) (xs := xs) (z := z) rfl rfl ?_
    refine lw_st (L := L) (xs := xs) (z := z) rfl rfl ?_
    by_cases c : (L : Int) - 6 < i.toInt
    · refine lw_st (L := L) (xs := xs) (z := z) rfl (p' := 1166) (lo' := lo) (st' := []) (M' := M) (by
        show (some (.inl (bif decide (Int32.ofNat L - 6 < i) then 1166 else 33, lo, [], M)) : Option aR) = _
        rw [decide_eq_true (Int32.lt_iff_toInt_lt.mpr (by rw [hy]; exact c))]
        rfl) ?_
      refine lw_st (L := L) (xs := xs) (z := z) rfl rfl ?_
      obtain ⟨b, rg, hLB, hJ, ⟨r1, r2, r3⟩, _⟩ := hI
      exact wp_ret rfl rfl ⟨rfl, by show a_c M ≤ _; omega, by show a_z M ≤ _; omega⟩
    · refine lw_st (L := L) (xs := xs) (z := z) rfl (p' := 33) (lo' := lo) (st' := []) (M' := M) (by
        show (some (.inl (bif decide (Int32.ofNat L - 6 < i) then 1166 else 33, lo, [], M)) : Option aR) = _
        rw [decide_eq_false (fun h => c (by have := Int32.lt_iff_toInt_lt.mp h; rw [hy] at this; exact this))]
        rfl) ?_
      refine lw_body (by omega) hi (by omega) hI hl (fun M' lo' hl' hI' => ?_)
      refine lw_st (L := L) (xs := xs) (z := z) rfl (p' := 1163) (lo' := (4, .inl (i + 6)) :: rml 4 lo') (st' := []) (M' := M') (by unfold j_iinc; rw [hl'.2.2.2.2]) ?_
      refine lw_st (L := L) (xs := xs) (z := z) rfl rfl ?_
      exact ih (q := q + 1) (by omega) (by omega) (by rw [ik_of (k := 6) (by omega) hi rfl (by omega)]; omega) hI' (cL_i hl')
theorem cM_c : a_c cM ≤ 1000 ∧ a_z cM ≤ 100000 := by decide +kernel
theorem cM_21 : a_I cM 2 1 = a_I cM 113 6 ∧ a_I cM 113 31 = 0 ∧ a_I cM 115 7 = 0 := by decide +kernel
theorem cM_R : a_I cM 0 8 = 0 ∧ a_I cM 0 10 = a_I cM 113 13 ∧ (a_I cM 0 9 = 0 ∧ a_I cM 113 2 = -1) := by decide +kernel
theorem cM_3 : a_P cM 113 3 = none ∧ a_P cM 0 7 = some 101 ∧ a_P cM 1 1 = some 4 := by decide +kernel
theorem cM_X : a_I cM 52 4 = a_I cM 113 28 ∧ (∀ k : Fin 30, a_I cM 96 k.1 = 0 ∧ a_I cM 135 k.1 = 0) ∧ a_I cM 95 5 = -1 ∧ a_I cM 113 37 = 0 := by decide +kernel
theorem cM_LZ : LZ 0 cM := by
  refine ⟨false, rgF, ⟨cM_hT, fun a _ => rfl, fun a h1 h2 => ?_, fun r hr o o' ho ho' e1 e2 => ?_, by rw [cM_n]; exact Nat.le_refl _, fun q hq => ?_, cM_3.2.1, cM_3.2.2⟩, ⟨?_, Or.inl cM_3.1, fun k hk => ?_⟩, ⟨by rw [cM_n]; omega, cM_c.1, cM_c.2⟩, ⟨⟨⟨cM_21.1, cM_b⟩, Or.inl ⟨cM_R.1, cM_3.1⟩, cM_R.2.1⟩, cM_X.1, ⟨fun k hk => ?_, ?_⟩, Or.inl cM_X.2.2.1⟩, Wh_set (by rw [cM_R.2.2.1]; decide) cM_R.2.2.2⟩
  · rw [cM_n] at h2; omega
  · rw [cM_n] at ho
    exact absurd e1 (ch_S false ⟨o, ho⟩ r hr)
  · have := List.all_eq_true.mp cM_PT q hq
    revert this
    cases a_P cM q.1 q.2.1 with
    | none => intro h; cases h
    | some c => intro h; rw [nbT h]
  · show 0 ≤ (a_I cM 115 7).toInt ∧ (a_I cM 115 7).toInt ≤ 30
    rw [cM_21.2.2]
    decide
  · rw [cM_21.2.1] at hk
    have : (k : Int) < 0 := hk
    omega
  · obtain ⟨e1, e2⟩ := cM_X.2.1 ⟨k, hk⟩
    simp only at e1 e2
    rw [e1, e2]; exact ⟨rfl, Or.inl rfl⟩
  · rw [cM_X.2.2.2, cnt_0 (fun k hk => (cM_X.2.1 ⟨k, hk⟩).1) (Nat.le_refl _)]; rfl
theorem whole_run {L : Nat} (hL : L ≤ 3072) (xs : Nat → Int32) (z : Bool) : ∃ f M', exec (cdC L xs z) f 40 252 0 (la 0 aScr) [] aM0 = some (some (.inl 1), M') ∧ a_c M' ≤ 601024 ∧ a_z M' ≤ 7293034 := by
  have h : wpS (cdC L xs z) (40, [], 252, 0, la 0 aScr, [], aM0) (fun r M' => r = some (.inl 1) ∧ a_c M' ≤ 601024 ∧ a_z M' ≤ 7293034) := law_entC (lw_loop hL (L + 6) (q := 0) (by omega) (by omega) rfl cM_LZ ⟨rfl, rfl, rfl, rfl, rfl⟩)
  obtain ⟨f, r, M', h1, h2, h3⟩ := h
  rw [h2] at h1
  exact ⟨f, M', h1, h3⟩

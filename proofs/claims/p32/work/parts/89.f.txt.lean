/-! The texts: their lengths and letters. -/
theorem cutZ {cd cd' : Nat → Nat → Option aI} (hs : csub cd cd') {sm sp n d : Nat} {fs : List aFr} {mid pc : Nat} {lo : aL} {st : List aV} {M : aM} {Q : aQ} {S' : aSt} (h : goS cd sm sp n d fs mid pc lo st M = S') (g : wpS cd' S' Q) : wpS cd' (d, fs, mid, pc, lo, st, M) Q := goZ_ok hs (sm := sm) (sp := sp) (n := n) (by rw [h]; exact g)
theorem hzs {cd : Nat → Nat → Option aI} {z : Bool} (hz : ∀ m p i, cd0 z m p = some i → cd m p = some i) : csub (cd0 z) cd := fun m p i e => ⟨i, hz m p i e, fun _ _ _ _ h => h⟩
abbrev tV (k : Nat) : aV := .inr (.inr (some (aSB + k)))
abbrev tW (k : Nat) : aV := .inr (.inr (some (aSB + k + 400000)))
theorem isT0 {k : Nat} (hk : k < 52) : isT 0 (aSB + k) = true := by
  unfold isT
  rw [show Nat.ble (aSB + 0) (aSB + k) = true from Nat.ble_eq.mpr (by omega), show aSB + k - (aSB + 0) = k by omega, show Nat.blt k nT = true from Nat.ble_eq.mpr (by show k + 1 ≤ 52; omega)]
  rfl
theorem isT4 {k : Nat} (hk : k < 52) : isT 400000 (aSB + k + 400000) = true := by
  unfold isT
  rw [show Nat.ble (aSB + 400000) (aSB + k + 400000) = true from Nat.ble_eq.mpr (by omega), show aSB + k + 400000 - (aSB + 400000) = k by omega, show Nat.blt k nT = true from Nat.ble_eq.mpr (by show k + 1 ≤ 52; omega)]
  rfl
theorem scod_ok {k pc' : Nat} (hk : k < 52) {lo : aL} {s : List aV} {M : aM} : j_scod pc' lo (tV k :: s) M = some (.inl (pc', lo, .inl 0 :: s, M)) := by
  show (bif isT 0 (aSB + k) then _ else none) = _
  rw [isT0 hk]; rfl
theorem sval_ok {k pc' : Nat} (hk : k < 52) {lo : aL} {s : List aV} {M : aM} : j_sval pc' lo (tV k :: s) M = some (.inl (pc', lo, tW k :: s, M)) := by
  show (bif isT 0 (aSB + k) then _ else none) = _
  rw [isT0 hk]; rfl
theorem tlen_a {a k pc' : Nat} (h : isT 400000 a = true) (e : a - (aSB + 400000) = k) {lo : aL} {s : List aV} {M : aM} : j_tlen pc' lo (.inr (.inr (some a)) :: s) M = some (.inl (pc', lo, .inl (Int32.ofNat (txc k).length) :: s, M)) := by
  subst e
  show (bif isT 400000 a then _ else none) = _
  rw [h]; rfl
theorem tlen_ok {k pc' : Nat} (hk : k < 52) {lo : aL} {s : List aV} {M : aM} : j_tlen pc' lo (tW k :: s) M = some (.inl (pc', lo, .inl (Int32.ofNat (txc k).length) :: s, M)) := tlen_a (isT4 hk) (by omega)
theorem tbl_a {a k pc' : Nat} (h : isT 400000 a = true) (e : a - (aSB + 400000) = k) {lo : aL} {s : List aV} {M : aM} {i : Int32} (hi : inb i (txc k).length = true) : j_tbl pc' lo (.inl i :: .inr (.inr (some a)) :: s) M = some (.inl (pc', lo, .inl (Int32.ofNat ((txc k).getD i.toNatClampNeg 0)) :: s, M)) := by
  subst e
  show (bif isT 400000 a && inb i (txc (a - (aSB + 400000))).length then _ else none) = _
  rw [h, hi]; rfl
theorem tbl_ok {k pc' : Nat} (hk : k < 52) {lo : aL} {s : List aV} {M : aM} {i : Int32} (hi : inb i (txc k).length = true) : j_tbl pc' lo (.inl i :: tW k :: s) M = some (.inl (pc', lo, .inl (Int32.ofNat ((txc k).getD i.toNatClampNeg 0)) :: s, M)) := tbl_a (isT4 hk) (by omega) hi
theorem callt0 {k y : Nat} (hk : k < 52) {lo : aL} {s : List aV} {M : aM} (hs : csum s ≤ 8) : j_callt y 0 1 lo (tV k :: s) M = some (.inr (.inl (y, [tV k], s))) := by
  show (bif isT 0 (aSB + k) && (Nat.ble (csum s) 8 && (Nat.beq ([] : List aV).length 0 && Nat.ble (csum [tV k]) 1)) then some (Sum.inr (Sum.inl (y, [tV k], s))) else none) = _
  rw [isT0 hk, show Nat.ble (csum s) 8 = true from Nat.ble_eq.mpr hs]; rfl
theorem callt1 {k y : Nat} (hk : k < 52) {lo : aL} {s : List aV} {M : aM} {i : Int32} (hs : csum s ≤ 8) : j_callt y 1 2 lo (.inl i :: tV k :: s) M = some (.inr (.inl (y, [tV k, .inl i], s))) := by
  show (bif isT 0 (aSB + k) && (Nat.ble (csum s) 8 && (Nat.beq ([.inl i] : List aV).length 1 && Nat.ble (csum [tV k, .inl i]) 2)) then some (Sum.inr (Sum.inl (y, [tV k, .inl i], s))) else none) = _
  rw [isT0 hk, show Nat.ble (csum s) 8 = true from Nat.ble_eq.mpr hs]; rfl
theorem t_lat {cd : Nat → Nat → Option aI} {z : Bool} (hz : ∀ m p i, cd0 z m p = some i → cd m p = some i) {k : Nat} (hk : k < 52) {d : Nat} {M : aM} : wpS cd (d, [], 247, 0, la 0 [tV k], [], M) (fun r M' => r = some (.inl 1) ∧ M' = M) := by
  refine cutZ (hzs hz) (sm := 247) (sp := 7) (n := 9) (S' := (d, [], 247, 7, [(0, tV k)], [tV k], M)) rfl ?_
  refine wp_step (hz _ _ _ rfl) (scod_ok hk) ?_
  show wpS cd (d, [], 247, 10, [(0, tV k)], [.inl 0], M) _
  refine cutZ (hzs hz) (sm := 247) (sp := 18) (n := 9) (fs := []) (S' := (d, [], 247, 18, [(0, tV k)], [.inl 1], M)) rfl ?_
  exact wp_ret (hz _ _ _ rfl) rfl ⟨rfl, rfl⟩
theorem t_cod {cd : Nat → Nat → Option aI} {z : Bool} (hz : ∀ m p i, cd0 z m p = some i → cd m p = some i) {k : Nat} (hk : k < 52) {d : Nat} {M : aM} : wpS cd (d, [], 246, 0, la 0 [tV k], [], M) (fun r M' => r = some (.inl 0) ∧ M' = M) := by
  refine cutZ (hzs hz) (sm := 246) (sp := 7) (n := 9) (S' := (d, [], 246, 7, [(0, tV k)], [tV k], M)) rfl ?_
  refine wp_step (hz _ _ _ rfl) (scod_ok hk) ?_
  show wpS cd (d, [], 246, 10, [(0, tV k)], [.inl 0], M) _
  refine cutZ (hzs hz) (sm := 246) (sp := 14) (n := 9) (fs := []) (S' := (d, [], 246, 14, [(0, tV k)], [.inl 0], M)) rfl ?_
  exact wp_ret (hz _ _ _ rfl) rfl ⟨rfl, rfl⟩
theorem sh_0 {x : Int32} : x >>> ((0 : Int32) &&& 31) = x := by
  apply Int32.toBitVec_inj.mp
  show x.toBitVec.sshiftRight 0 = x.toBitVec
  exact BitVec.sshiftRight_zero
theorem t_len {cd : Nat → Nat → Option aI} {z : Bool} (hz : ∀ m p i, cd0 z m p = some i → cd m p = some i) {k : Nat} (hk : k < 52) {d : Nat} {M : aM} : wpS cd (d + 1, [], 244, 0, la 0 [tV k], [], M) (fun r M' => r = some (.inl (Int32.ofNat (txc k).length)) ∧ M' = M) := by
  refine cutZ (hzs hz) (sm := 244) (sp := 1) (n := 9) (S' := (d + 1, [], 244, 1, [(0, tV k)], [tV k], M)) rfl ?_
  refine wp_step (hz _ _ _ rfl) (sval_ok hk) ?_
  refine wp_step (hz _ _ _ rfl) (tlen_ok hk) ?_
  show wpS cd (d + 1, [], 244, 5, [(0, tV k)], [.inl (Int32.ofNat (txc k).length)], M) _
  refine cutZ (hzs hz) (sm := 244) (sp := 6) (n := 9) (fs := []) (S' := (d + 1, [], 244, 6, [(0, tV k)], [tV k, .inl (Int32.ofNat (txc k).length)], M)) rfl ?_
  refine wp_call (hz _ _ _ rfl) (callt0 hk (show (1 : Nat) ≤ 8 by decide)) ?_
  refine wp_mono (t_cod hz hk) (fun r M' h => ?_)
  obtain ⟨e1, e2⟩ := h
  subst e1
  subst e2
  show wpS cd (d + 1, [], 244, 9, [(0, tV k)], [.inl 0, .inl (Int32.ofNat (txc k).length)], M') _
  refine cutZ (hzs hz) (sm := 244) (sp := 10) (n := 9) (fs := []) (S' := (d + 1, [], 244, 10, [(0, tV k)], [.inl (Int32.ofNat (txc k).length >>> ((0 : Int32) &&& 31))], M')) rfl ?_
  rw [sh_0]
  exact wp_ret (hz _ _ _ rfl) rfl ⟨rfl, rfl⟩
theorem t_chk {cd : Nat → Nat → Option aI} {z : Bool} (hz : ∀ m p i, cd0 z m p = some i → cd m p = some i) {i n : Int32} (h0 : ¬ i < 0) (h1 : i < n) {d : Nat} {M : aM} : wpS cd (d + 1, [], 248, 0, la 0 [.inl i, .inl n], [], M) (fun r M' => r = none ∧ M' = M) := by
  refine cutZ (hzs hz) (sm := 250) (sp := 1) (n := 9) (S' := (d, [(248, 8, [(0, .inl i), (1, .inl n)], [])], 250, 1, [(0, .inl i), (1, .inl n), (2, .inr (.inr (bif z then none else some (aSB + 800000))))], [.inl i], M)) rfl ?_
  refine if_S (g := fun x => decide (x < 0)) (t := 9) (nx := 4) (v := i) (b := false) (hz _ _ _ rfl) rfl (decide_eq_false h0) ?_
  refine cutZ (hzs hz) (sm := 250) (sp := 6) (n := 9) (S' := (d, [(248, 8, [(0, .inl i), (1, .inl n)], [])], 250, 6, [(0, .inl i), (1, .inl n), (2, .inr (.inr (bif z then none else some (aSB + 800000))))], [.inl n, .inl i], M)) rfl ?_
  refine ifc_S (g := fun x y => decide (x < y)) (t := 16) (nx := 9) (x := i) (y := n) (b := true) (hz _ _ _ rfl) rfl (decide_eq_true h1) ?_
  refine cutZ (hzs hz) (sm := 248) (sp := 9) (n := 9) (S' := (d + 1, [], 248, 9, [(0, .inl i), (1, .inl n)], [], M)) rfl ?_
  exact wp_ret (hz _ _ _ rfl) rfl ⟨rfl, rfl⟩
theorem txc_bd : ∀ k : Fin 52, (txc k.1).length ≤ 8 ∧ ∀ c ∈ txc k.1, 97 ≤ c ∧ c ≤ 122 := by decide +kernel
theorem chr_ok {c : Nat} (h : 97 ≤ c ∧ c ≤ 122) : ((((Int32.ofNat c) &&& 255).toUInt32 % 65536).toInt32) = Int32.ofNat c ∧ vp_nar (nrt 1) (Int32.ofNat c) = Int32.ofNat c := by
  have : ∀ c : Fin 123, 97 ≤ c.1 → ((((Int32.ofNat c.1) &&& 255).toUInt32 % 65536).toInt32) = Int32.ofNat c.1 ∧ vp_nar (nrt 1) (Int32.ofNat c.1) = Int32.ofNat c.1 := by decide +kernel
  exact this ⟨c, by omega⟩ h.1
theorem t_chr {cd : Nat → Nat → Option aI} {z : Bool} (hz : ∀ m p i, cd0 z m p = some i → cd m p = some i) {k : Nat} (hk : k < 52) {i : Int32} {j : Nat} (hi : i.toInt = (j : Int)) (hj : j < (txc k).length) {d : Nat} {M : aM} : wpS cd (d + 3, [], 245, 0, la 0 [tV k, .inl i], [], M) (fun r M' => r = some (.inl (Int32.ofNat ((txc k).getD j 0))) ∧ M' = M) := by
  obtain ⟨b1, b2⟩ := txc_bd ⟨k, hk⟩
  have hin : inb i (txc k).length = true := inb_p hi hj
  have hc := chr_ok (b2 ((txc k).getD j 0) (by
    rw [List.getD_eq_getElem?_getD, List.getElem?_eq_getElem hj]
    exact List.getElem_mem hj))
  have h0 : ¬ i < 0 := fun q => by have := Int32.lt_iff_toInt_lt.mp q; rw [hi] at this; have : (j : Int) < 0 := this; omega
  have hn : (Int32.ofNat (txc k).length).toInt = ((txc k).length : Int) := Int32.toInt_ofNat_of_lt (by show (txc k).length < 2147483648; simp only at b1; omega)
  have h1 : i < Int32.ofNat (txc k).length := Int32.lt_iff_toInt_lt.mpr (by rw [hi, hn]; omega)
  refine cutZ (hzs hz) (sm := 245) (sp := 1) (n := 9) (S' := (d + 3, [], 245, 1, [(0, tV k), (1, .inl i)], [tV k], M)) rfl ?_
  refine wp_call (hz _ _ _ rfl) (callt0 hk (show (0 : Nat) ≤ 8 by decide)) ?_
  refine wp_mono (t_lat hz hk) (fun r M' h => ?_)
  obtain ⟨e1, e2⟩ := h
  subst e1
  subst e2
  show wpS cd (d + 3, [], 245, 4, [(0, tV k), (1, .inl i)], [.inl 1], M') _
  refine cutZ (hzs hz) (sm := 245) (sp := 8) (n := 9) (fs := []) (S' := (d + 3, [], 245, 8, [(0, tV k), (1, .inl i)], [tV k], M')) rfl ?_
  refine wp_step (hz _ _ _ rfl) (sval_ok hk) ?_
  show wpS cd (d + 3, [], 245, 11, [(0, tV k), (1, .inl i)], [tW k], M') _
  refine cutZ (hzs hz) (sm := 249) (sp := 2) (n := 9) (fs := []) (S' := (d + 2, [(245, 15, [(0, tV k), (1, .inl i)], [])], 249, 2, [(0, tW k), (1, .inl i)], [tW k, .inl i], M')) rfl ?_
  refine wp_step (hz _ _ _ rfl) (tlen_ok hk) ?_
  refine wp_call (hz _ _ _ rfl) (y := 248) (As := [.inl i, .inl (Int32.ofNat (txc k).length)]) (rest := []) rfl ?_
  refine wp_mono (t_chk hz h0 h1) (fun r M2 h => ?_)
  obtain ⟨e1, e2⟩ := h
  subst e1
  subst e2
  show wpS cd (d + 2, [(245, 15, [(0, tV k), (1, .inl i)], [])], 249, 6, [(0, tW k), (1, .inl i)], [], M2) _
  refine cutZ (hzs hz) (sm := 249) (sp := 8) (n := 9) (fs := [(245, 15, [(0, tV k), (1, .inl i)], [])]) (S' := (d + 2, [(245, 15, [(0, tV k), (1, .inl i)], [])], 249, 8, [(0, tW k), (1, .inl i)], [.inl i, tW k], M2)) rfl ?_
  refine wp_step (hz _ _ _ rfl) (tbl_ok hk hin) ?_
  rw [tnc hi]
  show wpS cd (d + 2, [(245, 15, [(0, tV k), (1, .inl i)], [])], 249, 9, [(0, tW k), (1, .inl i)], [.inl (Int32.ofNat ((txc k).getD j 0))], M2) _
  refine cutZ (hzs hz) (sm := 249) (sp := 14) (n := 9) (fs := [(245, 15, [(0, tV k), (1, .inl i)], [])]) (S' := (d + 2, [(245, 15, [(0, tV k), (1, .inl i)], [])], 249, 14, [(0, tW k), (1, .inl i)], [.inl ((((Int32.ofNat ((txc k).getD j 0)) &&& 255).toUInt32 % 65536).toInt32)], M2)) rfl ?_
  rw [hc.1]
  refine wp_ret (hz _ _ _ rfl) (r := some (.inl (Int32.ofNat ((txc k).getD j 0)))) (by
    show (bif decide (vp_nar (nrt 1) (Int32.ofNat ((txc k).getD j 0)) = Int32.ofNat ((txc k).getD j 0)) then _ else none) = _
    rw [decide_eq_true hc.2]
    rfl) ?_
  refine wp_ret (hz _ _ _ rfl) (r := some (.inl (Int32.ofNat ((txc k).getD j 0)))) (by
    show (bif decide (vp_nar (nrt 1) (Int32.ofNat ((txc k).getD j 0)) = Int32.ofNat ((txc k).getD j 0)) then _ else none) = _
    rw [decide_eq_true hc.2]
    rfl) ⟨rfl, rfl⟩

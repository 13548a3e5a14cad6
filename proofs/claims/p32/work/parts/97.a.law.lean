/-! The law's steps: printed by wip/gen/lawS.py -/
theorem kd_L {b : Bool} {rg : Nat → Nat} {M : aM} (hL : LB b rg M) : (Nat.blt 0 (a_n M) && Nat.beq (a_K M 0) 11) = true ∧ (Nat.blt 113 (a_n M) && Nat.beq (a_K M 113) 13) = true := by
  rw [bltT (lo_n hL (a := 0) (by decide)), bltT (lo_n hL (a := 113) (by decide)), (hL.1.2 0 (lo_n hL (by decide))).1, (hL.1.2 113 (lo_n hL (by decide))).1, hL.2.1 0 (by omega), hL.2.1 113 (by omega)]
  cases b <;> exact ⟨rfl, rfl⟩
theorem kd_g {M : aM} {P : Bool → (Nat → Nat) → Prop} (h : ∃ b rg, LB b rg M ∧ P b rg) : (Nat.blt 0 (a_n M) && Nat.beq (a_K M 0) 11) = true ∧ (Nat.blt 113 (a_n M) && Nat.beq (a_K M 113) 13) = true := by
  obtain ⟨b, rg, hL, _⟩ := h
  exact kd_L hL
theorem lz_L {q : Nat} {M : aM} (h : LZ q M) : ∃ b rg, LB b rg M := by
  obtain ⟨b, rg, hL, _⟩ := h
  exact ⟨b, rg, hL⟩
/-! the law's own steps -/
def cL (lo : aL) (i : Int32) : Prop := lk 0 lo = some (.inr (.inr (some aXS))) ∧ lk 1 lo = some (.inr (.inr (some 0))) ∧ lk 2 lo = some (.inr (.inr (some 113))) ∧ lk 3 lo = some (.inr (.inr (some 136))) ∧ lk 4 lo = some (.inl i)
theorem cL_s {lo : aL} {i v : Int32} {j : Nat} (h : cL lo i) (hj : 5 ≤ j) : cL ((j, .inl v) :: rml j lo) i := by
  have key : ∀ k w, k < 5 → isL w = false → lk k lo = some w → lk k ((j, .inl v) :: rml j lo) = some w := fun k w hk hw e => by
    show (bif Nat.beq j k then some (.inl v) else lk k (rml j lo)) = some w
    rw [nbF (show j ≠ k by omega)]
    exact rml_lk hw (by omega) e
  obtain ⟨h0, h1, h2, h3, h4⟩ := h
  exact ⟨key 0 _ (by omega) rfl h0, key 1 _ (by omega) rfl h1, key 2 _ (by omega) rfl h2, key 3 _ (by omega) rfl h3, key 4 _ (by omega) rfl h4⟩
theorem cL_i {lo : aL} {i v : Int32} (h : cL lo i) : cL ((4, .inl v) :: rml 4 lo) v := by
  have key : ∀ k w, k < 4 → isL w = false → lk k lo = some w → lk k ((4, .inl v) :: rml 4 lo) = some w := fun k w hk hw e => by
    show (bif Nat.beq 4 k then some (.inl v) else lk k (rml 4 lo)) = some w
    rw [nbF (show 4 ≠ k by omega)]
    exact rml_lk hw (by omega) e
  obtain ⟨h0, h1, h2, h3, h4⟩ := h
  exact ⟨key 0 _ (by omega) rfl h0, key 1 _ (by omega) rfl h1, key 2 _ (by omega) rfl h2, key 3 _ (by omega) rfl h3, rfl⟩
theorem al_e {p k o : Nat} {lo : aL} {st : List aV} {M : aM} (h : lk k lo = some (.inr (.inr (some o)))) : j_aload p k lo st M = some (.inl (p, lo, .inr (.inr (some o)) :: st, M)) := by unfold j_aload; rw [h]
theorem il_e {p k : Nat} {v : Int32} {lo : aL} {st : List aV} {M : aM} (h : lk k lo = some (.inl v)) : j_iload p k lo st M = some (.inl (p, lo, .inl v :: st, M)) := by unfold j_iload; rw [h]
theorem lw_st {L : Nat} {xs : Nat → Int32} {z : Bool} {p p' : Nat} {lo lo' : aL} {st st' : List aV} {M M' : aM} {i : aI} {Q : aQ} (hi : cdC L xs z 252 p = some i) (he : i lo st M = some (.inl (p', lo', st', M'))) (h : wpS (cdC L xs z) (40, [], 252, p', lo', st', M') Q) : wpS (cdC L xs z) (40, [], 252, p, lo, st, M) Q := wp_step hi he h
theorem lw_arg {L : Nat} {xs : Nat → Int32} {z : Bool} {p0 p1 p2 p3 p4 p5 : Nat} {kI i : Int32} {n : Nat} {lo : aL} (hl : cL lo i) {st : List aV} {M : aM} {Q : aQ} (i0 : cdC L xs z 252 p0 = some (j_aload p1 0)) (i1 : cdC L xs z 252 p1 = some (j_iload p2 4)) (i2 : cdC L xs z 252 p2 = some (j_c p3 kI)) (i3 : cdC L xs z 252 p3 = some (j_bin p4 (fun x y => x + y))) (i4 : cdC L xs z 252 p4 = some (j_sldL L xs p5)) (hn : (i + kI).toInt = (n : Int)) (hL : n < L) (h : wpS (cdC L xs z) (40, [], 252, p5, lo, .inl (xs n) :: st, M) Q) : wpS (cdC L xs z) (40, [], 252, p0, lo, st, M) Q := by
  refine wp_step i0 (al_e hl.1) ?_
  refine wp_step i1 (il_e hl.2.2.2.2) ?_
  refine wp_step i2 rfl ?_
  refine wp_step i3 rfl ?_
  refine wp_step i4 (pc' := p5) (lo' := lo) (st' := .inl (xs n) :: st) (M' := M) ?_ h
  show (bif Nat.beq aXS aXS && inb (i + kI) L then (some (.inl (p5, lo, .inl (xs (i + kI).toNatClampNeg) :: st, M)) : Option aR) else none) = _
  rw [inb_p hn hL, tnc hn, Nat.beq_refl]
  rfl
theorem lw_eq {L : Nat} {xs : Nat → Int32} {z : Bool} {p p1 p2 : Nat} {x y : Int32} {lo : aL} {st : List aV} {M : aM} {Q : aQ} (i0 : cdC L xs z 252 p = some (j_ifc (fun x y => decide (x = y)) p1 p2)) (e : x = y) (h : wpS (cdC L xs z) (40, [], 252, p1, lo, st, M) Q) : wpS (cdC L xs z) (40, [], 252, p, lo, .inl y :: .inl x :: st, M) Q := by
  refine wp_step i0 (pc' := p1) (lo' := lo) (st' := st) (M' := M) ?_ h
  unfold j_ifc
  simp only
  rw [decide_eq_true e]
  rfl
def bo (v : Int32) : Int32 := if v = 0 then 0 else 1
theorem bo_b {v : Int32} : 0 ≤ (bo v).toInt ∧ (bo v).toInt ≤ 1 := by
  unfold bo
  split <;> decide
theorem lw_bo {L : Nat} {xs : Nat → Int32} {z : Bool} {p0 p1 p2 p3 p5 : Nat} {v : Int32} {lo : aL} {st : List aV} {M : aM} {Q : aQ} (i0 : cdC L xs z 252 p0 = some (j_if (fun x => decide (x = 0)) p3 p1)) (i1 : cdC L xs z 252 p1 = some (j_c p2 1)) (i2 : cdC L xs z 252 p2 = some (j_goto p5)) (i3 : cdC L xs z 252 p3 = some (j_c p5 0)) (h : wpS (cdC L xs z) (40, [], 252, p5, lo, .inl (bo v) :: st, M) Q) : wpS (cdC L xs z) (40, [], 252, p0, lo, .inl v :: st, M) Q := by
  by_cases c : v = 0
  · rw [show bo v = 0 from if_pos c] at h
    refine wp_step i0 (pc' := p3) (lo' := lo) (st' := st) (M' := M) (by unfold j_if; simp only [c]; rfl) ?_
    exact wp_step i3 rfl h
  · rw [show bo v = 1 from if_neg c] at h
    refine wp_step i0 (pc' := p1) (lo' := lo) (st' := st) (M' := M) (by unfold j_if; simp only [c]; rfl) ?_
    refine wp_step i1 rfl ?_
    exact wp_step i2 rfl h
theorem lw_cl {L : Nat} {xs : Nat → Int32} {z : Bool} {p y ci n mx o : Nat} {lo : aL} {As : List aV} {st rest : List aV} {M : aM} {Q Qc : aQ} (i0 : cdC L xs z 252 p = some (j_callv y ci n mx)) (hk : (Nat.blt o (a_n M) && Nat.beq (a_K M o) ci) = true) (hd : st.drop n = .inr (.inr (some o)) :: rest) (hc : (Nat.ble (csum rest) 8 && (Nat.beq (st.take n).length n && Nat.ble (csum (.inr (.inr (some o)) :: (st.take n).reverse)) mx)) = true) (hA : .inr (.inr (some o)) :: (st.take n).reverse = As) (h : wpS (cdC L xs z) (39, [], y, 0, la 0 As, [], M) Qc) (hq : ∀ r M', Qc r M' → wpS (cdC L xs z) (40, [], 252, p + 3, lo, psh r rest, M') Q) : wpS (cdC L xs z) (40, [], 252, p, lo, st, M) Q := by
  refine wp_call i0 (y := y) (As := As) (rest := rest) ?_ (wp_mono h hq)
  unfold j_callv
  rw [hd]
  simp only
  rw [hk, hc, hA]
  rfl
theorem ik_of {q k : Nat} {i kI : Int32} (hq : q ≤ 600) (hi : i.toInt = ((6 * q : Nat) : Int)) (hk : kI.toInt = (k : Int)) (h : k ≤ 6) : (i + kI).toInt = ((6 * q + k : Nat) : Int) := by
  rw [add_i]
  · rw [hi, hk]; omega
  · rw [hi, hk]; show (-2147483648 : Int) ≤ _; omega
  · rw [hi, hk]; show _ ≤ (2147483647 : Int); omega
theorem lw_0 {L : Nat} {xs : Nat → Int32} {z : Bool} {q : Nat} (hq : q ≤ 600) {i : Int32} (hi : i.toInt = ((6 * q : Nat) : Int)) (hb : 6 * q + 6 ≤ L) {M : aM} (hI : LZ q M) {lo : aL} (hl : cL lo i) {Q : aQ} (hc : ∀ M' lo', cL lo' i → LZ (q + 1) M' → wpS (cdC L xs z) (40, [], 252, 1160, lo', [], M') Q) : wpS (cdC L xs z) (40, [], 252, 188, lo, [], M) Q := by
  refine lw_st (L := L) (xs := xs) (z := z) rfl (al_e hl.2.1) ?_
  refine lw_arg hl (L := L) (xs := xs) (z := z) (p0 := 189) (p1 := 190) (p2 := 192) (p3 := 193) (p4 := 194) (p5 := 195) (kI := 1) rfl rfl rfl rfl rfl (ik_of hq hi (k := 1) rfl (by omega)) (by omega) ?_
  refine lw_arg hl (L := L) (xs := xs) (z := z) (p0 := 195) (p1 := 196) (p2 := 198) (p3 := 199) (p4 := 200) (p5 := 201) (kI := 2) rfl rfl rfl rfl rfl (ik_of hq hi (k := 2) rfl (by omega)) (by omega) ?_
  refine lw_arg hl (L := L) (xs := xs) (z := z) (p0 := 201) (p1 := 202) (p2 := 204) (p3 := 205) (p4 := 206) (p5 := 207) (kI := 3) rfl rfl rfl rfl rfl (ik_of hq hi (k := 3) rfl (by omega)) (by omega) ?_
  refine lw_arg hl (L := L) (xs := xs) (z := z) (p0 := 207) (p1 := 208) (p2 := 210) (p3 := 211) (p4 := 212) (p5 := 213) (kI := 4) rfl rfl rfl rfl rfl (ik_of hq hi (k := 4) rfl (by omega)) (by omega) ?_
  refine lw_arg hl (L := L) (xs := xs) (z := z) (p0 := 213) (p1 := 214) (p2 := 216) (p3 := 217) (p4 := 218) (p5 := 219) (kI := 5) rfl rfl rfl rfl rfl (ik_of hq hi (k := 5) rfl (by omega)) (by omega) ?_
  refine lw_cl (L := L) (xs := xs) (z := z) (p := 219) (y := 104) (ci := 11) (n := 5) (mx := 7) (o := 0) (rest := []) rfl (kd_g hI).1 rfl rfl rfl (xw_feed cdC_0 hI (xs (6 * q + 1)) (xs (6 * q + 2)) (xs (6 * q + 3)) (xs (6 * q + 4)) (xs (6 * q + 5))) (fun r M' h => ?_)
  obtain ⟨x1, e1, J1⟩ := h
  subst e1
  refine lw_st (L := L) (xs := xs) (z := z) rfl rfl ?_
  refine lw_st (L := L) (xs := xs) (z := z) rfl (al_e hl.2.2.1) ?_
  refine lw_arg hl (L := L) (xs := xs) (z := z) (p0 := 224) (p1 := 225) (p2 := 227) (p3 := 228) (p4 := 229) (p5 := 230) (kI := 1) rfl rfl rfl rfl rfl (ik_of hq hi (k := 1) rfl (by omega)) (by omega) ?_
  refine lw_arg hl (L := L) (xs := xs) (z := z) (p0 := 230) (p1 := 231) (p2 := 233) (p3 := 234) (p4 := 235) (p5 := 236) (kI := 2) rfl rfl rfl rfl rfl (ik_of hq hi (k := 2) rfl (by omega)) (by omega) ?_
  refine lw_arg hl (L := L) (xs := xs) (z := z) (p0 := 236) (p1 := 237) (p2 := 239) (p3 := 240) (p4 := 241) (p5 := 242) (kI := 3) rfl rfl rfl rfl rfl (ik_of hq hi (k := 3) rfl (by omega)) (by omega) ?_
  refine lw_arg hl (L := L) (xs := xs) (z := z) (p0 := 242) (p1 := 243) (p2 := 245) (p3 := 246) (p4 := 247) (p5 := 248) (kI := 4) rfl rfl rfl rfl rfl (ik_of hq hi (k := 4) rfl (by omega)) (by omega) ?_
  refine lw_arg hl (L := L) (xs := xs) (z := z) (p0 := 248) (p1 := 249) (p2 := 251) (p3 := 252) (p4 := 253) (p5 := 254) (kI := 5) rfl rfl rfl rfl rfl (ik_of hq hi (k := 5) rfl (by omega)) (by omega) ?_
  refine lw_cl (L := L) (xs := xs) (z := z) (p := 254) (y := 180) (ci := 13) (n := 5) (mx := 8) (o := 113) (rest := []) rfl (kd_g J1).2 rfl rfl rfl (mw_feed cdC_0 (xs (6 * q + 1)) (xs (6 * q + 2)) (xs (6 * q + 3)) (xs (6 * q + 4)) (xs (6 * q + 5)) J1) (fun r M' h => ?_)
  obtain ⟨x2, e2, E2, J2⟩ := h
  subst e2
  refine lw_st (L := L) (xs := xs) (z := z) rfl rfl ?_
  refine lw_st (L := L) (xs := xs) (z := z) rfl rfl ?_
  exact hc _ lo hl (LZ_up J2)
theorem lw_1 {L : Nat} {xs : Nat → Int32} {z : Bool} {q : Nat} (hq : q ≤ 600) {i : Int32} (hi : i.toInt = ((6 * q : Nat) : Int)) (hb : 6 * q + 6 ≤ L) {M : aM} (hI : LZ q M) {lo : aL} (hl : cL lo i) {Q : aQ} (hc : ∀ M' lo', cL lo' i → LZ (q + 1) M' → wpS (cdC L xs z) (40, [], 252, 1160, lo', [], M') Q) : wpS (cdC L xs z) (40, [], 252, 261, lo, [], M) Q := by
  refine lw_st (L := L) (xs := xs) (z := z) rfl (al_e hl.2.1) ?_
  refine lw_arg hl (L := L) (xs := xs) (z := z) (p0 := 262) (p1 := 263) (p2 := 265) (p3 := 266) (p4 := 267) (p5 := 268) (kI := 1) rfl rfl rfl rfl rfl (ik_of hq hi (k := 1) rfl (by omega)) (by omega) ?_
  refine lw_cl (L := L) (xs := xs) (z := z) (p := 268) (y := 105) (ci := 11) (n := 1) (mx := 2) (o := 0) (rest := []) rfl (kd_g hI).1 rfl rfl rfl (xw_shop cdC_0 hI (xs (6 * q + 1))) (fun r M' h => ?_)
  obtain ⟨x1, e1, J1⟩ := h
  subst e1
  refine lw_st (L := L) (xs := xs) (z := z) rfl rfl ?_
  refine lw_st (L := L) (xs := xs) (z := z) rfl (al_e hl.2.2.1) ?_
  refine lw_arg hl (L := L) (xs := xs) (z := z) (p0 := 273) (p1 := 274) (p2 := 276) (p3 := 277) (p4 := 278) (p5 := 279) (kI := 1) rfl rfl rfl rfl rfl (ik_of hq hi (k := 1) rfl (by omega)) (by omega) ?_
  refine lw_cl (L := L) (xs := xs) (z := z) (p := 279) (y := 181) (ci := 13) (n := 1) (mx := 3) (o := 113) (rest := []) rfl (kd_g J1).2 rfl rfl rfl (mw_shop cdC_0 hq J1) (fun r M' h => ?_)
  obtain ⟨x2, e2, E2, J2⟩ := h
  subst e2
  refine lw_st (L := L) (xs := xs) (z := z) rfl rfl ?_
  refine lw_st (L := L) (xs := xs) (z := z) rfl rfl ?_
  exact hc _ lo hl J2
theorem lw_2 {L : Nat} {xs : Nat → Int32} {z : Bool} {q : Nat} (hq : q ≤ 600) {i : Int32} (hi : i.toInt = ((6 * q : Nat) : Int)) (hb : 6 * q + 6 ≤ L) {M : aM} (hI : LZ q M) {lo : aL} (hl : cL lo i) {Q : aQ} (hc : ∀ M' lo', cL lo' i → LZ (q + 1) M' → wpS (cdC L xs z) (40, [], 252, 1160, lo', [], M') Q) : wpS (cdC L xs z) (40, [], 252, 286, lo, [], M) Q := by
  refine lw_st (L := L) (xs := xs) (z := z) rfl (al_e hl.2.1) ?_
  refine lw_cl (L := L) (xs := xs) (z := z) (p := 287) (y := 106) (ci := 11) (n := 0) (mx := 1) (o := 0) (rest := []) rfl (kd_g hI).1 rfl rfl rfl (xw_fault cdC_0 hI ) (fun r M' h => ?_)
  obtain ⟨x1, e1, J1⟩ := h
  subst e1
  refine lw_st (L := L) (xs := xs) (z := z) rfl rfl ?_
  refine lw_st (L := L) (xs := xs) (z := z) rfl (al_e hl.2.2.1) ?_
  refine lw_cl (L := L) (xs := xs) (z := z) (p := 292) (y := 182) (ci := 13) (n := 0) (mx := 1) (o := 113) (rest := []) rfl (kd_g J1).2 rfl rfl rfl (mw_fault cdC_0 J1 ) (fun r M' h => ?_)
  obtain ⟨x2, e2, J2⟩ := h
  subst e2
  refine lw_st (L := L) (xs := xs) (z := z) rfl rfl ?_
  refine lw_st (L := L) (xs := xs) (z := z) rfl rfl ?_
  exact hc _ lo hl (LZ_up J2)
theorem lw_3 {L : Nat} {xs : Nat → Int32} {z : Bool} {q : Nat} (hq : q ≤ 600) {i : Int32} (hi : i.toInt = ((6 * q : Nat) : Int)) (hb : 6 * q + 6 ≤ L) {M : aM} (hI : LZ q M) {lo : aL} (hl : cL lo i) {Q : aQ} (hc : ∀ M' lo', cL lo' i → LZ (q + 1) M' → wpS (cdC L xs z) (40, [], 252, 1160, lo', [], M') Q) : wpS (cdC L xs z) (40, [], 252, 299, lo, [], M) Q := by
  refine lw_st (L := L) (xs := xs) (z := z) rfl (al_e hl.2.1) ?_
  refine lw_cl (L := L) (xs := xs) (z := z) (p := 300) (y := 107) (ci := 11) (n := 0) (mx := 1) (o := 0) (rest := []) rfl (kd_g hI).1 rfl rfl rfl (xw_where cdC_0 hI ) (fun r M' h => ?_)
  obtain ⟨x1, e1, J1⟩ := h
  subst e1
  refine lw_st (L := L) (xs := xs) (z := z) rfl rfl ?_
  refine lw_st (L := L) (xs := xs) (z := z) rfl (al_e hl.2.2.1) ?_
  refine lw_cl (L := L) (xs := xs) (z := z) (p := 305) (y := 183) (ci := 13) (n := 0) (mx := 1) (o := 113) (rest := []) rfl (kd_g J1).2 rfl rfl rfl (mw_where cdC_0 J1 ) (fun r M' h => ?_)
  obtain ⟨x2, e2, J2⟩ := h
  subst e2
  refine lw_st (L := L) (xs := xs) (z := z) rfl rfl ?_
  refine lw_st (L := L) (xs := xs) (z := z) rfl rfl ?_
  exact hc _ lo hl (LZ_up J2)
theorem lw_4 {L : Nat} {xs : Nat → Int32} {z : Bool} {q : Nat} (hq : q ≤ 600) {i : Int32} (hi : i.toInt = ((6 * q : Nat) : Int)) (hb : 6 * q + 6 ≤ L) {M : aM} (hI : LZ q M) {lo : aL} (hl : cL lo i) {Q : aQ} (hc : ∀ M' lo', cL lo' i → LZ (q + 1) M' → wpS (cdC L xs z) (40, [], 252, 1160, lo', [], M') Q) : wpS (cdC L xs z) (40, [], 252, 312, lo, [], M) Q := by
  refine lw_st (L := L) (xs := xs) (z := z) rfl (al_e hl.2.1) ?_
  refine lw_arg hl (L := L) (xs := xs) (z := z) (p0 := 313) (p1 := 314) (p2 := 316) (p3 := 317) (p4 := 318) (p5 := 319) (kI := 1) rfl rfl rfl rfl rfl (ik_of hq hi (k := 1) rfl (by omega)) (by omega) ?_
  refine lw_bo (L := L) (xs := xs) (z := z) (p0 := 319) (p1 := 322) (p2 := 323) (p3 := 326) (p5 := 327) rfl rfl rfl rfl ?_
  refine lw_cl (L := L) (xs := xs) (z := z) (p := 327) (y := 108) (ci := 11) (n := 1) (mx := 2) (o := 0) (rest := []) rfl (kd_g hI).1 rfl rfl rfl (xw_rod cdC_0 hI (bo (xs (6 * q + 1))) bo_b) (fun r M' h => ?_)
  obtain ⟨x1, e1, J1⟩ := h
  subst e1
  refine lw_st (L := L) (xs := xs) (z := z) rfl rfl ?_
  refine lw_st (L := L) (xs := xs) (z := z) rfl (al_e hl.2.2.1) ?_
  refine lw_arg hl (L := L) (xs := xs) (z := z) (p0 := 332) (p1 := 333) (p2 := 335) (p3 := 336) (p4 := 337) (p5 := 338) (kI := 1) rfl rfl rfl rfl rfl (ik_of hq hi (k := 1) rfl (by omega)) (by omega) ?_
  refine lw_bo (L := L) (xs := xs) (z := z) (p0 := 338) (p1 := 341) (p2 := 342) (p3 := 345) (p5 := 346) rfl rfl rfl rfl ?_
  refine lw_cl (L := L) (xs := xs) (z := z) (p := 346) (y := 190) (ci := 13) (n := 1) (mx := 2) (o := 113) (rest := []) rfl (kd_g J1).2 rfl rfl rfl (mw_rod cdC_0 J1 (bo (xs (6 * q + 1))) bo_b) (fun r M' h => ?_)
  obtain ⟨x2, e2, J2⟩ := h
  subst e2
  refine lw_st (L := L) (xs := xs) (z := z) rfl rfl ?_
  refine lw_st (L := L) (xs := xs) (z := z) rfl rfl ?_
  exact hc _ lo hl (LZ_up J2)
theorem lw_5 {L : Nat} {xs : Nat → Int32} {z : Bool} {q : Nat} (hq : q ≤ 600) {i : Int32} (hi : i.toInt = ((6 * q : Nat) : Int)) (hb : 6 * q + 6 ≤ L) {M : aM} (hI : LZ q M) {lo : aL} (hl : cL lo i) {Q : aQ} (hc : ∀ M' lo', cL lo' i → LZ (q + 1) M' → wpS (cdC L xs z) (40, [], 252, 1160, lo', [], M') Q) : wpS (cdC L xs z) (40, [], 252, 353, lo, [], M) Q := by
  refine lw_st (L := L) (xs := xs) (z := z) rfl (al_e hl.2.1) ?_
  refine lw_arg hl (L := L) (xs := xs) (z := z) (p0 := 354) (p1 := 355) (p2 := 357) (p3 := 358) (p4 := 359) (p5 := 360) (kI := 1) rfl rfl rfl rfl rfl (ik_of hq hi (k := 1) rfl (by omega)) (by omega) ?_
  refine lw_cl (L := L) (xs := xs) (z := z) (p := 360) (y := 109) (ci := 11) (n := 1) (mx := 4) (o := 0) (rest := []) rfl (kd_g hI).1 rfl rfl rfl (xw_drill cdC_0 hI (xs (6 * q + 1))) (fun r M' h => ?_)
  obtain ⟨x1, e1, J1⟩ := h
  subst e1
  refine lw_st (L := L) (xs := xs) (z := z) rfl rfl ?_
  refine lw_st (L := L) (xs := xs) (z := z) rfl (al_e hl.2.2.1) ?_
  refine lw_arg hl (L := L) (xs := xs) (z := z) (p0 := 365) (p1 := 366) (p2 := 368) (p3 := 369) (p4 := 370) (p5 := 371) (kI := 1) rfl rfl rfl rfl rfl (ik_of hq hi (k := 1) rfl (by omega)) (by omega) ?_
  refine lw_cl (L := L) (xs := xs) (z := z) (p := 371) (y := 191) (ci := 13) (n := 1) (mx := 4) (o := 113) (rest := []) rfl (kd_g J1).2 rfl rfl rfl (mw_drill cdC_0 J1 (xs (6 * q + 1))) (fun r M' h => ?_)
  obtain ⟨x2, e2, J2⟩ := h
  subst e2
  refine lw_st (L := L) (xs := xs) (z := z) rfl rfl ?_
  refine lw_st (L := L) (xs := xs) (z := z) rfl rfl ?_
  exact hc _ lo hl (LZ_up J2)
theorem lw_6 {L : Nat} {xs : Nat → Int32} {z : Bool} {q : Nat} (hq : q ≤ 600) {i : Int32} (hi : i.toInt = ((6 * q : Nat) : Int)) (hb : 6 * q + 6 ≤ L) {M : aM} (hI : LZ q M) {lo : aL} (hl : cL lo i) {Q : aQ} (hc : ∀ M' lo', cL lo' i → LZ (q + 1) M' → wpS (cdC L xs z) (40, [], 252, 1160, lo', [], M') Q) : wpS (cdC L xs z) (40, [], 252, 378, lo, [], M) Q := by
  refine lw_st (L := L) (xs := xs) (z := z) rfl (al_e hl.2.1) ?_
  refine lw_arg hl (L := L) (xs := xs) (z := z) (p0 := 379) (p1 := 380) (p2 := 382) (p3 := 383) (p4 := 384) (p5 := 385) (kI := 1) rfl rfl rfl rfl rfl (ik_of hq hi (k := 1) rfl (by omega)) (by omega) ?_
  refine lw_arg hl (L := L) (xs := xs) (z := z) (p0 := 385) (p1 := 386) (p2 := 388) (p3 := 389) (p4 := 390) (p5 := 391) (kI := 2) rfl rfl rfl rfl rfl (ik_of hq hi (k := 2) rfl (by omega)) (by omega) ?_
  refine lw_cl (L := L) (xs := xs) (z := z) (p := 391) (y := 110) (ci := 11) (n := 2) (mx := 3) (o := 0) (rest := []) rfl (kd_g hI).1 rfl rfl rfl (xw_inch cdC_0 hI (xs (6 * q + 1)) (xs (6 * q + 2))) (fun r M' h => ?_)
  obtain ⟨x1, e1, J1⟩ := h
  subst e1
  refine lw_st (L := L) (xs := xs) (z := z) rfl rfl ?_
  refine lw_st (L := L) (xs := xs) (z := z) rfl (al_e hl.2.2.1) ?_
  refine lw_arg hl (L := L) (xs := xs) (z := z) (p0 := 396) (p1 := 397) (p2 := 399) (p3 := 400) (p4 := 401) (p5 := 402) (kI := 1) rfl rfl rfl rfl rfl (ik_of hq hi (k := 1) rfl (by omega)) (by omega) ?_
  refine lw_arg hl (L := L) (xs := xs) (z := z) (p0 := 402) (p1 := 403) (p2 := 405) (p3 := 406) (p4 := 407) (p5 := 408) (kI := 2) rfl rfl rfl rfl rfl (ik_of hq hi (k := 2) rfl (by omega)) (by omega) ?_
  refine lw_cl (L := L) (xs := xs) (z := z) (p := 408) (y := 193) (ci := 13) (n := 2) (mx := 3) (o := 113) (rest := []) rfl (kd_g J1).2 rfl rfl rfl (mw_inch cdC_0 J1 (xs (6 * q + 1)) (xs (6 * q + 2))) (fun r M' h => ?_)
  obtain ⟨x2, e2, J2⟩ := h
  subst e2
  refine lw_st (L := L) (xs := xs) (z := z) rfl rfl ?_
  refine lw_st (L := L) (xs := xs) (z := z) rfl rfl ?_
  exact hc _ lo hl (LZ_up J2)
theorem lw_7 {L : Nat} {xs : Nat → Int32} {z : Bool} {q : Nat} (hq : q ≤ 600) {i : Int32} (hi : i.toInt = ((6 * q : Nat) : Int)) (hb : 6 * q + 6 ≤ L) {M : aM} (hI : LZ q M) {lo : aL} (hl : cL lo i) {Q : aQ} (hc : ∀ M' lo', cL lo' i → LZ (q + 1) M' → wpS (cdC L xs z) (40, [], 252, 1160, lo', [], M') Q) : wpS (cdC L xs z) (40, [], 252, 415, lo, [], M) Q := by
  refine lw_st (L := L) (xs := xs) (z := z) rfl (al_e hl.2.1) ?_
  refine lw_arg hl (L := L) (xs := xs) (z := z) (p0 := 416) (p1 := 417) (p2 := 419) (p3 := 420) (p4 := 421) (p5 := 422) (kI := 1) rfl rfl rfl rfl rfl (ik_of hq hi (k := 1) rfl (by omega)) (by omega) ?_
  refine lw_cl (L := L) (xs := xs) (z := z) (p := 422) (y := 111) (ci := 11) (n := 1) (mx := 2) (o := 0) (rest := []) rfl (kd_g hI).1 rfl rfl rfl (xw_state cdC_0 hI (xs (6 * q + 1))) (fun r M' h => ?_)
  obtain ⟨x1, e1, J1⟩ := h
  subst e1
  refine lw_st (L := L) (xs := xs) (z := z) rfl rfl ?_
  refine lw_st (L := L) (xs := xs) (z := z) rfl (al_e hl.2.2.1) ?_
  refine lw_arg hl (L := L) (xs := xs) (z := z) (p0 := 427) (p1 := 428) (p2 := 430) (p3 := 431) (p4 := 432) (p5 := 433) (kI := 1) rfl rfl rfl rfl rfl (ik_of hq hi (k := 1) rfl (by omega)) (by omega) ?_
  refine lw_cl (L := L) (xs := xs) (z := z) (p := 433) (y := 194) (ci := 13) (n := 1) (mx := 2) (o := 113) (rest := []) rfl (kd_g J1).2 rfl rfl rfl (mw_state cdC_0 J1 (xs (6 * q + 1))) (fun r M' h => ?_)
  obtain ⟨x2, e2, J2⟩ := h
  subst e2
  refine lw_st (L := L) (xs := xs) (z := z) rfl rfl ?_
  refine lw_st (L := L) (xs := xs) (z := z) rfl rfl ?_
  exact hc _ lo hl (LZ_up J2)
theorem lw_8 {L : Nat} {xs : Nat → Int32} {z : Bool} {q : Nat} (hq : q ≤ 600) {i : Int32} (hi : i.toInt = ((6 * q : Nat) : Int)) (hb : 6 * q + 6 ≤ L) {M : aM} (hI : LZ q M) {lo : aL} (hl : cL lo i) {Q : aQ} (hc : ∀ M' lo', cL lo' i → LZ (q + 1) M' → wpS (cdC L xs z) (40, [], 252, 1160, lo', [], M') Q) : wpS (cdC L xs z) (40, [], 252, 440, lo, [], M) Q := by
  refine lw_st (L := L) (xs := xs) (z := z) rfl (al_e hl.2.1) ?_
  refine lw_arg hl (L := L) (xs := xs) (z := z) (p0 := 441) (p1 := 442) (p2 := 444) (p3 := 445) (p4 := 446) (p5 := 447) (kI := 1) rfl rfl rfl rfl rfl (ik_of hq hi (k := 1) rfl (by omega)) (by omega) ?_
  refine lw_arg hl (L := L) (xs := xs) (z := z) (p0 := 447) (p1 := 448) (p2 := 450) (p3 := 451) (p4 := 452) (p5 := 453) (kI := 2) rfl rfl rfl rfl rfl (ik_of hq hi (k := 2) rfl (by omega)) (by omega) ?_
  refine lw_cl (L := L) (xs := xs) (z := z) (p := 453) (y := 112) (ci := 11) (n := 2) (mx := 4) (o := 0) (rest := []) rfl (kd_g hI).1 rfl rfl rfl (xw_odds cdC_0 hI (xs (6 * q + 1)) (xs (6 * q + 2))) (fun r M' h => ?_)
  obtain ⟨x1, e1, J1⟩ := h
  subst e1
  refine lw_st (L := L) (xs := xs) (z := z) rfl rfl ?_
  refine lw_st (L := L) (xs := xs) (z := z) rfl (al_e hl.2.2.1) ?_
  refine lw_arg hl (L := L) (xs := xs) (z := z) (p0 := 458) (p1 := 459) (p2 := 461) (p3 := 462) (p4 := 463) (p5 := 464) (kI := 1) rfl rfl rfl rfl rfl (ik_of hq hi (k := 1) rfl (by omega)) (by omega) ?_
  refine lw_arg hl (L := L) (xs := xs) (z := z) (p0 := 464) (p1 := 465) (p2 := 467) (p3 := 468) (p4 := 469) (p5 := 470) (kI := 2) rfl rfl rfl rfl rfl (ik_of hq hi (k := 2) rfl (by omega)) (by omega) ?_
  refine lw_cl (L := L) (xs := xs) (z := z) (p := 470) (y := 199) (ci := 13) (n := 2) (mx := 9) (o := 113) (rest := []) rfl (kd_g J1).2 rfl rfl rfl (mw_odds cdC_0 J1 (xs (6 * q + 1)) (xs (6 * q + 2))) (fun r M' h => ?_)
  obtain ⟨x2, e2, J2⟩ := h
  subst e2
  refine lw_st (L := L) (xs := xs) (z := z) rfl rfl ?_
  refine lw_st (L := L) (xs := xs) (z := z) rfl rfl ?_
  exact hc _ lo hl (LZ_up J2)
theorem lw_9 {L : Nat} {xs : Nat → Int32} {z : Bool} {q : Nat} (hq : q ≤ 600) {i : Int32} (hi : i.toInt = ((6 * q : Nat) : Int)) (hb : 6 * q + 6 ≤ L) {M : aM} (hI : LZ q M) {lo : aL} (hl : cL lo i) {Q : aQ} (hc : ∀ M' lo', cL lo' i → LZ (q + 1) M' → wpS (cdC L xs z) (40, [], 252, 1160, lo', [], M') Q) : wpS (cdC L xs z) (40, [], 252, 477, lo, [], M) Q := by
  refine lw_st (L := L) (xs := xs) (z := z) rfl (al_e hl.2.1) ?_
  refine lw_arg hl (L := L) (xs := xs) (z := z) (p0 := 478) (p1 := 479) (p2 := 481) (p3 := 482) (p4 := 483) (p5 := 484) (kI := 1) rfl rfl rfl rfl rfl (ik_of hq hi (k := 1) rfl (by omega)) (by omega) ?_
  refine lw_cl (L := L) (xs := xs) (z := z) (p := 484) (y := 113) (ci := 11) (n := 1) (mx := 5) (o := 0) (rest := []) rfl (kd_g hI).1 rfl rfl rfl (xw_rows cdC_0 hI (xs (6 * q + 1))) (fun r M' h => ?_)
  obtain ⟨x1, e1, J1⟩ := h
  subst e1
  refine lw_st (L := L) (xs := xs) (z := z) rfl rfl ?_
  refine lw_st (L := L) (xs := xs) (z := z) rfl (al_e hl.2.2.1) ?_
  refine lw_arg hl (L := L) (xs := xs) (z := z) (p0 := 489) (p1 := 490) (p2 := 492) (p3 := 493) (p4 := 494) (p5 := 495) (kI := 1) rfl rfl rfl rfl rfl (ik_of hq hi (k := 1) rfl (by omega)) (by omega) ?_
  refine lw_cl (L := L) (xs := xs) (z := z) (p := 495) (y := 200) (ci := 13) (n := 1) (mx := 2) (o := 113) (rest := []) rfl (kd_g J1).2 rfl rfl rfl (mw_rows cdC_0 J1 (xs (6 * q + 1))) (fun r M' h => ?_)
  obtain ⟨x2, e2, J2⟩ := h
  subst e2
  refine lw_st (L := L) (xs := xs) (z := z) rfl rfl ?_
  refine lw_st (L := L) (xs := xs) (z := z) rfl rfl ?_
  exact hc _ lo hl (LZ_up J2)
theorem lw_10 {L : Nat} {xs : Nat → Int32} {z : Bool} {q : Nat} (hq : q ≤ 600) {i : Int32} (hi : i.toInt = ((6 * q : Nat) : Int)) (hb : 6 * q + 6 ≤ L) {M : aM} (hI : LZ q M) {lo : aL} (hl : cL lo i) {Q : aQ} (hc : ∀ M' lo', cL lo' i → LZ (q + 1) M' → wpS (cdC L xs z) (40, [], 252, 1160, lo', [], M') Q) : wpS (cdC L xs z) (40, [], 252, 502, lo, [], M) Q := by
  refine lw_st (L := L) (xs := xs) (z := z) rfl (al_e hl.2.1) ?_
  refine lw_arg hl (L := L) (xs := xs) (z := z) (p0 := 503) (p1 := 504) (p2 := 506) (p3 := 507) (p4 := 508) (p5 := 509) (kI := 1) rfl rfl rfl rfl rfl (ik_of hq hi (k := 1) rfl (by omega)) (by omega) ?_
  refine lw_arg hl (L := L) (xs := xs) (z := z) (p0 := 509) (p1 := 510) (p2 := 512) (p3 := 513) (p4 := 514) (p5 := 515) (kI := 2) rfl rfl rfl rfl rfl (ik_of hq hi (k := 2) rfl (by omega)) (by omega) ?_
  refine lw_cl (L := L) (xs := xs) (z := z) (p := 515) (y := 114) (ci := 11) (n := 2) (mx := 3) (o := 0) (rest := []) rfl (kd_g hI).1 rfl rfl rfl (xw_cheapest cdC_0 hI (xs (6 * q + 1)) (xs (6 * q + 2))) (fun r M' h => ?_)
  obtain ⟨x1, e1, J1⟩ := h
  subst e1
  refine lw_st (L := L) (xs := xs) (z := z) rfl rfl ?_
  refine lw_st (L := L) (xs := xs) (z := z) rfl (al_e hl.2.2.1) ?_
  refine lw_arg hl (L := L) (xs := xs) (z := z) (p0 := 520) (p1 := 521) (p2 := 523) (p3 := 524) (p4 := 525) (p5 := 526) (kI := 1) rfl rfl rfl rfl rfl (ik_of hq hi (k := 1) rfl (by omega)) (by omega) ?_
  refine lw_arg hl (L := L) (xs := xs) (z := z) (p0 := 526) (p1 := 527) (p2 := 529) (p3 := 530) (p4 := 531) (p5 := 532) (kI := 2) rfl rfl rfl rfl rfl (ik_of hq hi (k := 2) rfl (by omega)) (by omega) ?_
  refine lw_cl (L := L) (xs := xs) (z := z) (p := 532) (y := 201) (ci := 13) (n := 2) (mx := 6) (o := 113) (rest := []) rfl (kd_g J1).2 rfl rfl rfl (mw_cheapest cdC_0 J1 (xs (6 * q + 1)) (xs (6 * q + 2))) (fun r M' h => ?_)
  obtain ⟨x2, e2, J2⟩ := h
  subst e2
  refine lw_st (L := L) (xs := xs) (z := z) rfl rfl ?_
  refine lw_st (L := L) (xs := xs) (z := z) rfl rfl ?_
  exact hc _ lo hl (LZ_up J2)
theorem lw_11 {L : Nat} {xs : Nat → Int32} {z : Bool} {q : Nat} (hq : q ≤ 600) {i : Int32} (hi : i.toInt = ((6 * q : Nat) : Int)) (hb : 6 * q + 6 ≤ L) {M : aM} (hI : LZ q M) {lo : aL} (hl : cL lo i) {Q : aQ} (hc : ∀ M' lo', cL lo' i → LZ (q + 1) M' → wpS (cdC L xs z) (40, [], 252, 1160, lo', [], M') Q) : wpS (cdC L xs z) (40, [], 252, 539, lo, [], M) Q := by
  refine lw_st (L := L) (xs := xs) (z := z) rfl (al_e hl.2.1) ?_
  refine lw_arg hl (L := L) (xs := xs) (z := z) (p0 := 540) (p1 := 541) (p2 := 543) (p3 := 544) (p4 := 545) (p5 := 546) (kI := 1) rfl rfl rfl rfl rfl (ik_of hq hi (k := 1) rfl (by omega)) (by omega) ?_
  refine lw_cl (L := L) (xs := xs) (z := z) (p := 546) (y := 115) (ci := 11) (n := 1) (mx := 2) (o := 0) (rest := []) rfl (kd_g hI).1 rfl rfl rfl (xw_feedAt cdC_0 hI (xs (6 * q + 1))) (fun r M' h => ?_)
  obtain ⟨x1, e1, J1⟩ := h
  subst e1
  refine lw_st (L := L) (xs := xs) (z := z) rfl rfl ?_
  refine lw_st (L := L) (xs := xs) (z := z) rfl (al_e hl.2.2.1) ?_
  refine lw_arg hl (L := L) (xs := xs) (z := z) (p0 := 551) (p1 := 552) (p2 := 554) (p3 := 555) (p4 := 556) (p5 := 557) (kI := 1) rfl rfl rfl rfl rfl (ik_of hq hi (k := 1) rfl (by omega)) (by omega) ?_
  refine lw_cl (L := L) (xs := xs) (z := z) (p := 557) (y := 202) (ci := 13) (n := 1) (mx := 2) (o := 113) (rest := []) rfl (kd_g J1).2 rfl rfl rfl (mw_feedAt cdC_0 J1 (xs (6 * q + 1))) (fun r M' h => ?_)
  obtain ⟨x2, e2, J2⟩ := h
  subst e2
  refine lw_st (L := L) (xs := xs) (z := z) rfl rfl ?_
  refine lw_st (L := L) (xs := xs) (z := z) rfl rfl ?_
  exact hc _ lo hl (LZ_up J2)
theorem lw_12 {L : Nat} {xs : Nat → Int32} {z : Bool} {q : Nat} (hq : q ≤ 600) {i : Int32} (hi : i.toInt = ((6 * q : Nat) : Int)) (hb : 6 * q + 6 ≤ L) {M : aM} (hI : LZ q M) {lo : aL} (hl : cL lo i) {Q : aQ} (hc : ∀ M' lo', cL lo' i → LZ (q + 1) M' → wpS (cdC L xs z) (40, [], 252, 1160, lo', [], M') Q) : wpS (cdC L xs z) (40, [], 252, 564, lo, [], M) Q := by
  refine lw_st (L := L) (xs := xs) (z := z) rfl (al_e hl.2.1) ?_
  refine lw_arg hl (L := L) (xs := xs) (z := z) (p0 := 565) (p1 := 566) (p2 := 568) (p3 := 569) (p4 := 570) (p5 := 571) (kI := 1) rfl rfl rfl rfl rfl (ik_of hq hi (k := 1) rfl (by omega)) (by omega) ?_
  refine lw_cl (L := L) (xs := xs) (z := z) (p := 571) (y := 116) (ci := 11) (n := 1) (mx := 3) (o := 0) (rest := []) rfl (kd_g hI).1 rfl rfl rfl (xw_met cdC_0 hI (xs (6 * q + 1))) (fun r M' h => ?_)
  obtain ⟨x1, e1, J1⟩ := h
  subst e1
  refine lw_st (L := L) (xs := xs) (z := z) rfl rfl ?_
  refine lw_st (L := L) (xs := xs) (z := z) rfl (al_e hl.2.2.1) ?_
  refine lw_arg hl (L := L) (xs := xs) (z := z) (p0 := 576) (p1 := 577) (p2 := 579) (p3 := 580) (p4 := 581) (p5 := 582) (kI := 1) rfl rfl rfl rfl rfl (ik_of hq hi (k := 1) rfl (by omega)) (by omega) ?_
  refine lw_cl (L := L) (xs := xs) (z := z) (p := 582) (y := 205) (ci := 13) (n := 1) (mx := 3) (o := 113) (rest := []) rfl (kd_g J1).2 rfl rfl rfl (mw_met cdC_0 J1 (xs (6 * q + 1))) (fun r M' h => ?_)
  obtain ⟨x2, e2, J2⟩ := h
  subst e2
  refine lw_st (L := L) (xs := xs) (z := z) rfl rfl ?_
  refine lw_st (L := L) (xs := xs) (z := z) rfl rfl ?_
  exact hc _ lo hl (LZ_up J2)
theorem lw_13 {L : Nat} {xs : Nat → Int32} {z : Bool} {q : Nat} (hq : q ≤ 600) {i : Int32} (hi : i.toInt = ((6 * q : Nat) : Int)) (hb : 6 * q + 6 ≤ L) {M : aM} (hI : LZ q M) {lo : aL} (hl : cL lo i) {Q : aQ} (hc : ∀ M' lo', cL lo' i → LZ (q + 1) M' → wpS (cdC L xs z) (40, [], 252, 1160, lo', [], M') Q) : wpS (cdC L xs z) (40, [], 252, 589, lo, [], M) Q := by
  refine lw_st (L := L) (xs := xs) (z := z) rfl (al_e hl.2.1) ?_
  refine lw_cl (L := L) (xs := xs) (z := z) (p := 590) (y := 117) (ci := 11) (n := 0) (mx := 2) (o := 0) (rest := []) rfl (kd_g hI).1 rfl rfl rfl (xw_meet cdC_0 hI ) (fun r M' h => ?_)
  obtain ⟨x1, e1, J1⟩ := h
  subst e1
  refine lw_st (L := L) (xs := xs) (z := z) rfl rfl ?_
  refine lw_st (L := L) (xs := xs) (z := z) rfl (al_e hl.2.2.1) ?_
  refine lw_cl (L := L) (xs := xs) (z := z) (p := 595) (y := 206) (ci := 13) (n := 0) (mx := 5) (o := 113) (rest := []) rfl (kd_g J1).2 rfl rfl rfl (mw_meet cdC_0 J1 ) (fun r M' h => ?_)
  obtain ⟨x2, e2, J2⟩ := h
  subst e2
  refine lw_st (L := L) (xs := xs) (z := z) rfl rfl ?_
  refine lw_st (L := L) (xs := xs) (z := z) rfl rfl ?_
  exact hc _ lo hl (LZ_up J2)
theorem lw_14 {L : Nat} {xs : Nat → Int32} {z : Bool} {q : Nat} (hq : q ≤ 600) {i : Int32} (hi : i.toInt = ((6 * q : Nat) : Int)) (hb : 6 * q + 6 ≤ L) {M : aM} (hI : LZ q M) {lo : aL} (hl : cL lo i) {Q : aQ} (hc : ∀ M' lo', cL lo' i → LZ (q + 1) M' → wpS (cdC L xs z) (40, [], 252, 1160, lo', [], M') Q) : wpS (cdC L xs z) (40, [], 252, 602, lo, [], M) Q := by
  refine lw_st (L := L) (xs := xs) (z := z) rfl (al_e hl.2.1) ?_
  refine lw_arg hl (L := L) (xs := xs) (z := z) (p0 := 603) (p1 := 604) (p2 := 606) (p3 := 607) (p4 := 608) (p5 := 609) (kI := 1) rfl rfl rfl rfl rfl (ik_of hq hi (k := 1) rfl (by omega)) (by omega) ?_
  refine lw_arg hl (L := L) (xs := xs) (z := z) (p0 := 609) (p1 := 610) (p2 := 612) (p3 := 613) (p4 := 614) (p5 := 615) (kI := 2) rfl rfl rfl rfl rfl (ik_of hq hi (k := 2) rfl (by omega)) (by omega) ?_
  refine lw_cl (L := L) (xs := xs) (z := z) (p := 615) (y := 118) (ci := 11) (n := 2) (mx := 3) (o := 0) (rest := []) rfl (kd_g hI).1 rfl rfl rfl (xw_felt cdC_0 hI (xs (6 * q + 1)) (xs (6 * q + 2))) (fun r M' h => ?_)
  obtain ⟨x1, e1, J1⟩ := h
  subst e1
  refine lw_st (L := L) (xs := xs) (z := z) rfl rfl ?_
  refine lw_st (L := L) (xs := xs) (z := z) rfl (al_e hl.2.2.1) ?_
  refine lw_arg hl (L := L) (xs := xs) (z := z) (p0 := 620) (p1 := 621) (p2 := 623) (p3 := 624) (p4 := 625) (p5 := 626) (kI := 1) rfl rfl rfl rfl rfl (ik_of hq hi (k := 1) rfl (by omega)) (by omega) ?_
  refine lw_arg hl (L := L) (xs := xs) (z := z) (p0 := 626) (p1 := 627) (p2 := 629) (p3 := 630) (p4 := 631) (p5 := 632) (kI := 2) rfl rfl rfl rfl rfl (ik_of hq hi (k := 2) rfl (by omega)) (by omega) ?_
  refine lw_cl (L := L) (xs := xs) (z := z) (p := 632) (y := 207) (ci := 13) (n := 2) (mx := 3) (o := 113) (rest := []) rfl (kd_g J1).2 rfl rfl rfl (mw_felt cdC_0 (xs (6 * q + 1)) (xs (6 * q + 2)) J1) (fun r M' h => ?_)
  obtain ⟨x2, e2, E2, J2⟩ := h
  subst e2
  refine lw_st (L := L) (xs := xs) (z := z) rfl rfl ?_
  refine lw_st (L := L) (xs := xs) (z := z) rfl rfl ?_
  exact hc _ lo hl (LZ_up J2)
theorem lw_15 {L : Nat} {xs : Nat → Int32} {z : Bool} {q : Nat} (hq : q ≤ 600) {i : Int32} (hi : i.toInt = ((6 * q : Nat) : Int)) (hb : 6 * q + 6 ≤ L) {M : aM} (hI : LZ q M) {lo : aL} (hl : cL lo i) {Q : aQ} (hc : ∀ M' lo', cL lo' i → LZ (q + 1) M' → wpS (cdC L xs z) (40, [], 252, 1160, lo', [], M') Q) : wpS (cdC L xs z) (40, [], 252, 639, lo, [], M) Q := by
  refine lw_st (L := L) (xs := xs) (z := z) rfl (al_e hl.2.1) ?_
  refine lw_cl (L := L) (xs := xs) (z := z) (p := 640) (y := 119) (ci := 11) (n := 0) (mx := 2) (o := 0) (rest := []) rfl (kd_g hI).1 rfl rfl rfl (xw_forget cdC_0 hI ) (fun r M' h => ?_)
  obtain ⟨x1, e1, J1⟩ := h
  subst e1
  refine lw_st (L := L) (xs := xs) (z := z) rfl rfl ?_
  refine lw_st (L := L) (xs := xs) (z := z) rfl (al_e hl.2.2.1) ?_
  refine lw_cl (L := L) (xs := xs) (z := z) (p := 645) (y := 208) (ci := 13) (n := 0) (mx := 2) (o := 113) (rest := []) rfl (kd_g J1).2 rfl rfl rfl (mw_forget cdC_0  J1) (fun r M' h => ?_)
  obtain ⟨x2, e2, E2, J2⟩ := h
  subst e2
  refine lw_st (L := L) (xs := xs) (z := z) rfl rfl ?_
  refine lw_st (L := L) (xs := xs) (z := z) rfl rfl ?_
  exact hc _ lo hl (LZ_up J2)
theorem lw_16 {L : Nat} {xs : Nat → Int32} {z : Bool} {q : Nat} (hq : q ≤ 600) {i : Int32} (hi : i.toInt = ((6 * q : Nat) : Int)) (hb : 6 * q + 6 ≤ L) {M : aM} (hI : LZ q M) {lo : aL} (hl : cL lo i) {Q : aQ} (hc : ∀ M' lo', cL lo' i → LZ (q + 1) M' → wpS (cdC L xs z) (40, [], 252, 1160, lo', [], M') Q) : wpS (cdC L xs z) (40, [], 252, 652, lo, [], M) Q := by
  refine lw_st (L := L) (xs := xs) (z := z) rfl (al_e hl.2.1) ?_
  refine lw_cl (L := L) (xs := xs) (z := z) (p := 653) (y := 120) (ci := 11) (n := 0) (mx := 1) (o := 0) (rest := []) rfl (kd_g hI).1 rfl rfl rfl (xw_causes cdC_0 hI ) (fun r M' h => ?_)
  obtain ⟨x1, e1, J1⟩ := h
  subst e1
  refine lw_st (L := L) (xs := xs) (z := z) rfl rfl ?_
  refine lw_st (L := L) (xs := xs) (z := z) rfl (al_e hl.2.2.1) ?_
  refine lw_cl (L := L) (xs := xs) (z := z) (p := 658) (y := 212) (ci := 13) (n := 0) (mx := 3) (o := 113) (rest := []) rfl (kd_g J1).2 rfl rfl rfl (mw_causes cdC_0 J1 ) (fun r M' h => ?_)
  obtain ⟨x2, e2, J2⟩ := h
  subst e2
  refine lw_st (L := L) (xs := xs) (z := z) rfl rfl ?_
  refine lw_st (L := L) (xs := xs) (z := z) rfl rfl ?_
  exact hc _ lo hl (LZ_up J2)
theorem lw_17 {L : Nat} {xs : Nat → Int32} {z : Bool} {q : Nat} (hq : q ≤ 600) {i : Int32} (hi : i.toInt = ((6 * q : Nat) : Int)) (hb : 6 * q + 6 ≤ L) {M : aM} (hI : LZ q M) {lo : aL} (hl : cL lo i) {Q : aQ} (hc : ∀ M' lo', cL lo' i → LZ (q + 1) M' → wpS (cdC L xs z) (40, [], 252, 1160, lo', [], M') Q) : wpS (cdC L xs z) (40, [], 252, 665, lo, [], M) Q := by
  refine lw_st (L := L) (xs := xs) (z := z) rfl (al_e hl.2.1) ?_
  refine lw_arg hl (L := L) (xs := xs) (z := z) (p0 := 666) (p1 := 667) (p2 := 669) (p3 := 670) (p4 := 671) (p5 := 672) (kI := 1) rfl rfl rfl rfl rfl (ik_of hq hi (k := 1) rfl (by omega)) (by omega) ?_
  refine lw_arg hl (L := L) (xs := xs) (z := z) (p0 := 672) (p1 := 673) (p2 := 675) (p3 := 676) (p4 := 677) (p5 := 678) (kI := 2) rfl rfl rfl rfl rfl (ik_of hq hi (k := 2) rfl (by omega)) (by omega) ?_
  refine lw_cl (L := L) (xs := xs) (z := z) (p := 678) (y := 121) (ci := 11) (n := 2) (mx := 3) (o := 0) (rest := []) rfl (kd_g hI).1 rfl rfl rfl (xw_cause cdC_0 hI (xs (6 * q + 1)) (xs (6 * q + 2))) (fun r M' h => ?_)
  obtain ⟨x1, e1, J1⟩ := h
  subst e1
  refine lw_st (L := L) (xs := xs) (z := z) rfl rfl ?_
  refine lw_st (L := L) (xs := xs) (z := z) rfl (al_e hl.2.2.1) ?_
  refine lw_arg hl (L := L) (xs := xs) (z := z) (p0 := 683) (p1 := 684) (p2 := 686) (p3 := 687) (p4 := 688) (p5 := 689) (kI := 1) rfl rfl rfl rfl rfl (ik_of hq hi (k := 1) rfl (by omega)) (by omega) ?_
  refine lw_arg hl (L := L) (xs := xs) (z := z) (p0 := 689) (p1 := 690) (p2 := 692) (p3 := 693) (p4 := 694) (p5 := 695) (kI := 2) rfl rfl rfl rfl rfl (ik_of hq hi (k := 2) rfl (by omega)) (by omega) ?_
  refine lw_cl (L := L) (xs := xs) (z := z) (p := 695) (y := 213) (ci := 13) (n := 2) (mx := 5) (o := 113) (rest := []) rfl (kd_g J1).2 rfl rfl rfl (mw_cause cdC_0 J1 (xs (6 * q + 1)) (xs (6 * q + 2))) (fun r M' h => ?_)
  obtain ⟨x2, e2, J2⟩ := h
  subst e2
  refine lw_st (L := L) (xs := xs) (z := z) rfl rfl ?_
  refine lw_st (L := L) (xs := xs) (z := z) rfl rfl ?_
  exact hc _ lo hl (LZ_up J2)
theorem lw_18 {L : Nat} {xs : Nat → Int32} {z : Bool} {q : Nat} (hq : q ≤ 600) {i : Int32} (hi : i.toInt = ((6 * q : Nat) : Int)) (hb : 6 * q + 6 ≤ L) {M : aM} (hI : LZ q M) {lo : aL} (hl : cL lo i) {Q : aQ} (hc : ∀ M' lo', cL lo' i → LZ (q + 1) M' → wpS (cdC L xs z) (40, [], 252, 1160, lo', [], M') Q) : wpS (cdC L xs z) (40, [], 252, 702, lo, [], M) Q := by
  refine lw_st (L := L) (xs := xs) (z := z) rfl (al_e hl.2.1) ?_
  refine lw_arg hl (L := L) (xs := xs) (z := z) (p0 := 703) (p1 := 704) (p2 := 706) (p3 := 707) (p4 := 708) (p5 := 709) (kI := 1) rfl rfl rfl rfl rfl (ik_of hq hi (k := 1) rfl (by omega)) (by omega) ?_
  refine lw_cl (L := L) (xs := xs) (z := z) (p := 709) (y := 122) (ci := 11) (n := 1) (mx := 2) (o := 0) (rest := []) rfl (kd_g hI).1 rfl rfl rfl (xw_sure cdC_0 hI (xs (6 * q + 1))) (fun r M' h => ?_)
  obtain ⟨x1, e1, J1⟩ := h
  subst e1
  refine lw_st (L := L) (xs := xs) (z := z) rfl rfl ?_
  refine lw_st (L := L) (xs := xs) (z := z) rfl (al_e hl.2.2.1) ?_
  refine lw_arg hl (L := L) (xs := xs) (z := z) (p0 := 714) (p1 := 715) (p2 := 717) (p3 := 718) (p4 := 719) (p5 := 720) (kI := 1) rfl rfl rfl rfl rfl (ik_of hq hi (k := 1) rfl (by omega)) (by omega) ?_
  refine lw_cl (L := L) (xs := xs) (z := z) (p := 720) (y := 214) (ci := 13) (n := 1) (mx := 5) (o := 113) (rest := []) rfl (kd_g J1).2 rfl rfl rfl (mw_sure cdC_0 J1 (xs (6 * q + 1))) (fun r M' h => ?_)
  obtain ⟨x2, e2, J2⟩ := h
  subst e2
  refine lw_st (L := L) (xs := xs) (z := z) rfl rfl ?_
  refine lw_st (L := L) (xs := xs) (z := z) rfl rfl ?_
  exact hc _ lo hl (LZ_up J2)
theorem lw_19 {L : Nat} {xs : Nat → Int32} {z : Bool} {q : Nat} (hq : q ≤ 600) {i : Int32} (hi : i.toInt = ((6 * q : Nat) : Int)) (hb : 6 * q + 6 ≤ L) {M : aM} (hI : LZ q M) {lo : aL} (hl : cL lo i) {Q : aQ} (hc : ∀ M' lo', cL lo' i → LZ (q + 1) M' → wpS (cdC L xs z) (40, [], 252, 1160, lo', [], M') Q) : wpS (cdC L xs z) (40, [], 252, 727, lo, [], M) Q := by
  refine lw_st (L := L) (xs := xs) (z := z) rfl (al_e hl.2.1) ?_
  refine lw_arg hl (L := L) (xs := xs) (z := z) (p0 := 728) (p1 := 729) (p2 := 731) (p3 := 732) (p4 := 733) (p5 := 734) (kI := 1) rfl rfl rfl rfl rfl (ik_of hq hi (k := 1) rfl (by omega)) (by omega) ?_
  refine lw_arg hl (L := L) (xs := xs) (z := z) (p0 := 734) (p1 := 735) (p2 := 737) (p3 := 738) (p4 := 739) (p5 := 740) (kI := 2) rfl rfl rfl rfl rfl (ik_of hq hi (k := 2) rfl (by omega)) (by omega) ?_
  refine lw_bo (L := L) (xs := xs) (z := z) (p0 := 740) (p1 := 743) (p2 := 744) (p3 := 747) (p5 := 748) rfl rfl rfl rfl ?_
  refine lw_cl (L := L) (xs := xs) (z := z) (p := 748) (y := 123) (ci := 11) (n := 2) (mx := 3) (o := 0) (rest := []) rfl (kd_g hI).1 rfl rfl rfl (xw_off cdC_0 hI (xs (6 * q + 1)) (bo (xs (6 * q + 2))) bo_b) (fun r M' h => ?_)
  obtain ⟨x1, e1, J1⟩ := h
  subst e1
  refine lw_st (L := L) (xs := xs) (z := z) rfl rfl ?_
  refine lw_st (L := L) (xs := xs) (z := z) rfl (al_e hl.2.2.1) ?_
  refine lw_arg hl (L := L) (xs := xs) (z := z) (p0 := 753) (p1 := 754) (p2 := 756) (p3 := 757) (p4 := 758) (p5 := 759) (kI := 1) rfl rfl rfl rfl rfl (ik_of hq hi (k := 1) rfl (by omega)) (by omega) ?_
  refine lw_arg hl (L := L) (xs := xs) (z := z) (p0 := 759) (p1 := 760) (p2 := 762) (p3 := 763) (p4 := 764) (p5 := 765) (kI := 2) rfl rfl rfl rfl rfl (ik_of hq hi (k := 2) rfl (by omega)) (by omega) ?_
  refine lw_bo (L := L) (xs := xs) (z := z) (p0 := 765) (p1 := 768) (p2 := 769) (p3 := 772) (p5 := 773) rfl rfl rfl rfl ?_
  refine lw_cl (L := L) (xs := xs) (z := z) (p := 773) (y := 218) (ci := 13) (n := 2) (mx := 3) (o := 113) (rest := []) rfl (kd_g J1).2 rfl rfl rfl (mw_off cdC_0 J1 (xs (6 * q + 1)) (bo (xs (6 * q + 2))) bo_b) (fun r M' h => ?_)
  obtain ⟨x2, e2, J2⟩ := h
  subst e2
  refine lw_st (L := L) (xs := xs) (z := z) rfl rfl ?_
  refine lw_st (L := L) (xs := xs) (z := z) rfl rfl ?_
  exact hc _ lo hl (LZ_up J2)
theorem lw_20 {L : Nat} {xs : Nat → Int32} {z : Bool} {q : Nat} (hq : q ≤ 600) {i : Int32} (hi : i.toInt = ((6 * q : Nat) : Int)) (hb : 6 * q + 6 ≤ L) {M : aM} (hI : LZ q M) {lo : aL} (hl : cL lo i) {Q : aQ} (hc : ∀ M' lo', cL lo' i → LZ (q + 1) M' → wpS (cdC L xs z) (40, [], 252, 1160, lo', [], M') Q) : wpS (cdC L xs z) (40, [], 252, 780, lo, [], M) Q := by
  refine lw_st (L := L) (xs := xs) (z := z) rfl (al_e hl.2.1) ?_
  refine lw_arg hl (L := L) (xs := xs) (z := z) (p0 := 781) (p1 := 782) (p2 := 784) (p3 := 785) (p4 := 786) (p5 := 787) (kI := 1) rfl rfl rfl rfl rfl (ik_of hq hi (k := 1) rfl (by omega)) (by omega) ?_
  refine lw_cl (L := L) (xs := xs) (z := z) (p := 787) (y := 124) (ci := 11) (n := 1) (mx := 3) (o := 0) (rest := []) rfl (kd_g hI).1 rfl rfl rfl (xw_ring cdC_0 hI (xs (6 * q + 1))) (fun r M' h => ?_)
  obtain ⟨x1, e1, J1⟩ := h
  subst e1
  refine lw_st (L := L) (xs := xs) (z := z) rfl rfl ?_
  refine lw_st (L := L) (xs := xs) (z := z) rfl (al_e hl.2.2.1) ?_
  refine lw_arg hl (L := L) (xs := xs) (z := z) (p0 := 792) (p1 := 793) (p2 := 795) (p3 := 796) (p4 := 797) (p5 := 798) (kI := 1) rfl rfl rfl rfl rfl (ik_of hq hi (k := 1) rfl (by omega)) (by omega) ?_
  refine lw_cl (L := L) (xs := xs) (z := z) (p := 798) (y := 222) (ci := 13) (n := 1) (mx := 3) (o := 113) (rest := []) rfl (kd_g J1).2 rfl rfl rfl (mw_ring cdC_0 J1 (xs (6 * q + 1))) (fun r M' h => ?_)
  obtain ⟨x2, e2, J2⟩ := h
  subst e2
  refine lw_st (L := L) (xs := xs) (z := z) rfl rfl ?_
  refine lw_st (L := L) (xs := xs) (z := z) rfl rfl ?_
  exact hc _ lo hl (LZ_up J2)
theorem lw_21 {L : Nat} {xs : Nat → Int32} {z : Bool} {q : Nat} (hq : q ≤ 600) {i : Int32} (hi : i.toInt = ((6 * q : Nat) : Int)) (hb : 6 * q + 6 ≤ L) {M : aM} (hI : LZ q M) {lo : aL} (hl : cL lo i) {Q : aQ} (hc : ∀ M' lo', cL lo' i → LZ (q + 1) M' → wpS (cdC L xs z) (40, [], 252, 1160, lo', [], M') Q) : wpS (cdC L xs z) (40, [], 252, 805, lo, [], M) Q := by
  refine lw_st (L := L) (xs := xs) (z := z) rfl (al_e hl.2.1) ?_
  refine lw_arg hl (L := L) (xs := xs) (z := z) (p0 := 806) (p1 := 807) (p2 := 809) (p3 := 810) (p4 := 811) (p5 := 812) (kI := 1) rfl rfl rfl rfl rfl (ik_of hq hi (k := 1) rfl (by omega)) (by omega) ?_
  refine lw_cl (L := L) (xs := xs) (z := z) (p := 812) (y := 125) (ci := 11) (n := 1) (mx := 3) (o := 0) (rest := []) rfl (kd_g hI).1 rfl rfl rfl (xw_sees cdC_0 hI (xs (6 * q + 1))) (fun r M' h => ?_)
  obtain ⟨x1, e1, J1⟩ := h
  subst e1
  refine lw_st (L := L) (xs := xs) (z := z) rfl rfl ?_
  refine lw_st (L := L) (xs := xs) (z := z) rfl (al_e hl.2.2.1) ?_
  refine lw_arg hl (L := L) (xs := xs) (z := z) (p0 := 817) (p1 := 818) (p2 := 820) (p3 := 821) (p4 := 822) (p5 := 823) (kI := 1) rfl rfl rfl rfl rfl (ik_of hq hi (k := 1) rfl (by omega)) (by omega) ?_
  refine lw_cl (L := L) (xs := xs) (z := z) (p := 823) (y := 223) (ci := 13) (n := 1) (mx := 2) (o := 113) (rest := []) rfl (kd_g J1).2 rfl rfl rfl (mw_sees cdC_0 J1 (xs (6 * q + 1))) (fun r M' h => ?_)
  obtain ⟨x2, e2, J2⟩ := h
  subst e2
  refine lw_st (L := L) (xs := xs) (z := z) rfl rfl ?_
  refine lw_st (L := L) (xs := xs) (z := z) rfl rfl ?_
  exact hc _ lo hl (LZ_up J2)
theorem lw_22 {L : Nat} {xs : Nat → Int32} {z : Bool} {q : Nat} (hq : q ≤ 600) {i : Int32} (hi : i.toInt = ((6 * q : Nat) : Int)) (hb : 6 * q + 6 ≤ L) {M : aM} (hI : LZ q M) {lo : aL} (hl : cL lo i) {Q : aQ} (hc : ∀ M' lo', cL lo' i → LZ (q + 1) M' → wpS (cdC L xs z) (40, [], 252, 1160, lo', [], M') Q) : wpS (cdC L xs z) (40, [], 252, 830, lo, [], M) Q := by
  refine lw_st (L := L) (xs := xs) (z := z) rfl (al_e hl.2.1) ?_
  refine lw_arg hl (L := L) (xs := xs) (z := z) (p0 := 831) (p1 := 832) (p2 := 834) (p3 := 835) (p4 := 836) (p5 := 837) (kI := 1) rfl rfl rfl rfl rfl (ik_of hq hi (k := 1) rfl (by omega)) (by omega) ?_
  refine lw_arg hl (L := L) (xs := xs) (z := z) (p0 := 837) (p1 := 838) (p2 := 840) (p3 := 841) (p4 := 842) (p5 := 843) (kI := 2) rfl rfl rfl rfl rfl (ik_of hq hi (k := 2) rfl (by omega)) (by omega) ?_
  refine lw_arg hl (L := L) (xs := xs) (z := z) (p0 := 843) (p1 := 844) (p2 := 846) (p3 := 847) (p4 := 848) (p5 := 849) (kI := 3) rfl rfl rfl rfl rfl (ik_of hq hi (k := 3) rfl (by omega)) (by omega) ?_
  refine lw_cl (L := L) (xs := xs) (z := z) (p := 849) (y := 126) (ci := 11) (n := 3) (mx := 4) (o := 0) (rest := []) rfl (kd_g hI).1 rfl rfl rfl (xw_blow cdC_0 hI (xs (6 * q + 1)) (xs (6 * q + 2)) (xs (6 * q + 3))) (fun r M' h => ?_)
  obtain ⟨x1, e1, J1⟩ := h
  subst e1
  refine lw_st (L := L) (xs := xs) (z := z) rfl rfl ?_
  refine lw_st (L := L) (xs := xs) (z := z) rfl (al_e hl.2.2.1) ?_
  refine lw_arg hl (L := L) (xs := xs) (z := z) (p0 := 854) (p1 := 855) (p2 := 857) (p3 := 858) (p4 := 859) (p5 := 860) (kI := 1) rfl rfl rfl rfl rfl (ik_of hq hi (k := 1) rfl (by omega)) (by omega) ?_
  refine lw_arg hl (L := L) (xs := xs) (z := z) (p0 := 860) (p1 := 861) (p2 := 863) (p3 := 864) (p4 := 865) (p5 := 866) (kI := 2) rfl rfl rfl rfl rfl (ik_of hq hi (k := 2) rfl (by omega)) (by omega) ?_
  refine lw_arg hl (L := L) (xs := xs) (z := z) (p0 := 866) (p1 := 867) (p2 := 869) (p3 := 870) (p4 := 871) (p5 := 872) (kI := 3) rfl rfl rfl rfl rfl (ik_of hq hi (k := 3) rfl (by omega)) (by omega) ?_
  refine lw_cl (L := L) (xs := xs) (z := z) (p := 872) (y := 226) (ci := 13) (n := 3) (mx := 4) (o := 113) (rest := []) rfl (kd_g J1).2 rfl rfl rfl (mw_blow cdC_0 J1 (xs (6 * q + 1)) (xs (6 * q + 2)) (xs (6 * q + 3))) (fun r M' h => ?_)
  obtain ⟨x2, e2, J2⟩ := h
  subst e2
  refine lw_st (L := L) (xs := xs) (z := z) rfl rfl ?_
  refine lw_st (L := L) (xs := xs) (z := z) rfl rfl ?_
  exact hc _ lo hl (LZ_up J2)
theorem lw_23 {L : Nat} {xs : Nat → Int32} {z : Bool} {q : Nat} (hq : q ≤ 600) {i : Int32} (hi : i.toInt = ((6 * q : Nat) : Int)) (hb : 6 * q + 6 ≤ L) {M : aM} (hI : LZ q M) {lo : aL} (hl : cL lo i) {Q : aQ} (hc : ∀ M' lo', cL lo' i → LZ (q + 1) M' → wpS (cdC L xs z) (40, [], 252, 1160, lo', [], M') Q) : wpS (cdC L xs z) (40, [], 252, 879, lo, [], M) Q := by
  refine lw_st (L := L) (xs := xs) (z := z) rfl (al_e hl.2.1) ?_
  refine lw_arg hl (L := L) (xs := xs) (z := z) (p0 := 880) (p1 := 881) (p2 := 883) (p3 := 884) (p4 := 885) (p5 := 886) (kI := 1) rfl rfl rfl rfl rfl (ik_of hq hi (k := 1) rfl (by omega)) (by omega) ?_
  refine lw_arg hl (L := L) (xs := xs) (z := z) (p0 := 886) (p1 := 887) (p2 := 889) (p3 := 890) (p4 := 891) (p5 := 892) (kI := 2) rfl rfl rfl rfl rfl (ik_of hq hi (k := 2) rfl (by omega)) (by omega) ?_
  refine lw_cl (L := L) (xs := xs) (z := z) (p := 892) (y := 127) (ci := 11) (n := 2) (mx := 3) (o := 0) (rest := []) rfl (kd_g hI).1 rfl rfl rfl (xw_fewest cdC_0 hI (xs (6 * q + 1)) (xs (6 * q + 2))) (fun r M' h => ?_)
  obtain ⟨x1, e1, J1⟩ := h
  subst e1
  refine lw_st (L := L) (xs := xs) (z := z) rfl rfl ?_
  refine lw_st (L := L) (xs := xs) (z := z) rfl (al_e hl.2.2.1) ?_
  refine lw_arg hl (L := L) (xs := xs) (z := z) (p0 := 897) (p1 := 898) (p2 := 900) (p3 := 901) (p4 := 902) (p5 := 903) (kI := 1) rfl rfl rfl rfl rfl (ik_of hq hi (k := 1) rfl (by omega)) (by omega) ?_
  refine lw_arg hl (L := L) (xs := xs) (z := z) (p0 := 903) (p1 := 904) (p2 := 906) (p3 := 907) (p4 := 908) (p5 := 909) (kI := 2) rfl rfl rfl rfl rfl (ik_of hq hi (k := 2) rfl (by omega)) (by omega) ?_
  refine lw_cl (L := L) (xs := xs) (z := z) (p := 909) (y := 231) (ci := 13) (n := 2) (mx := 6) (o := 113) (rest := []) rfl (kd_g J1).2 rfl rfl rfl (mw_fewest cdC_0 J1 (xs (6 * q + 1)) (xs (6 * q + 2))) (fun r M' h => ?_)
  obtain ⟨x2, e2, J2⟩ := h
  subst e2
  refine lw_st (L := L) (xs := xs) (z := z) rfl rfl ?_
  refine lw_st (L := L) (xs := xs) (z := z) rfl rfl ?_
  exact hc _ lo hl (LZ_up J2)
theorem lw_24 {L : Nat} {xs : Nat → Int32} {z : Bool} {q : Nat} (hq : q ≤ 600) {i : Int32} (hi : i.toInt = ((6 * q : Nat) : Int)) (hb : 6 * q + 6 ≤ L) {M : aM} (hI : LZ q M) {lo : aL} (hl : cL lo i) {Q : aQ} (hc : ∀ M' lo', cL lo' i → LZ (q + 1) M' → wpS (cdC L xs z) (40, [], 252, 1160, lo', [], M') Q) : wpS (cdC L xs z) (40, [], 252, 916, lo, [], M) Q := by
  refine lw_st (L := L) (xs := xs) (z := z) rfl (al_e hl.2.1) ?_
  refine lw_arg hl (L := L) (xs := xs) (z := z) (p0 := 917) (p1 := 918) (p2 := 920) (p3 := 921) (p4 := 922) (p5 := 923) (kI := 1) rfl rfl rfl rfl rfl (ik_of hq hi (k := 1) rfl (by omega)) (by omega) ?_
  refine lw_cl (L := L) (xs := xs) (z := z) (p := 923) (y := 128) (ci := 11) (n := 1) (mx := 2) (o := 0) (rest := []) rfl (kd_g hI).1 rfl rfl rfl (xw_stroke cdC_0 hI (xs (6 * q + 1))) (fun r M' h => ?_)
  obtain ⟨x1, e1, J1⟩ := h
  subst e1
  refine lw_st (L := L) (xs := xs) (z := z) rfl rfl ?_
  refine lw_st (L := L) (xs := xs) (z := z) rfl (al_e hl.2.2.1) ?_
  refine lw_arg hl (L := L) (xs := xs) (z := z) (p0 := 928) (p1 := 929) (p2 := 931) (p3 := 932) (p4 := 933) (p5 := 934) (kI := 1) rfl rfl rfl rfl rfl (ik_of hq hi (k := 1) rfl (by omega)) (by omega) ?_
  refine lw_cl (L := L) (xs := xs) (z := z) (p := 934) (y := 232) (ci := 13) (n := 1) (mx := 2) (o := 113) (rest := []) rfl (kd_g J1).2 rfl rfl rfl (mw_stroke cdC_0 J1 (xs (6 * q + 1))) (fun r M' h => ?_)
  obtain ⟨x2, e2, J2⟩ := h
  subst e2
  refine lw_st (L := L) (xs := xs) (z := z) rfl rfl ?_
  refine lw_st (L := L) (xs := xs) (z := z) rfl rfl ?_
  exact hc _ lo hl (LZ_up J2)
theorem lw_25 {L : Nat} {xs : Nat → Int32} {z : Bool} {q : Nat} (hq : q ≤ 600) {i : Int32} (hi : i.toInt = ((6 * q : Nat) : Int)) (hb : 6 * q + 6 ≤ L) {M : aM} (hI : LZ q M) {lo : aL} (hl : cL lo i) {Q : aQ} (hc : ∀ M' lo', cL lo' i → LZ (q + 1) M' → wpS (cdC L xs z) (40, [], 252, 1160, lo', [], M') Q) : wpS (cdC L xs z) (40, [], 252, 941, lo, [], M) Q := by
  refine lw_st (L := L) (xs := xs) (z := z) rfl (al_e hl.2.1) ?_
  refine lw_cl (L := L) (xs := xs) (z := z) (p := 942) (y := 129) (ci := 11) (n := 0) (mx := 1) (o := 0) (rest := []) rfl (kd_g hI).1 rfl rfl rfl (xw_heat cdC_0 hI ) (fun r M' h => ?_)
  obtain ⟨x1, e1, J1⟩ := h
  subst e1
  refine lw_st (L := L) (xs := xs) (z := z) rfl rfl ?_
  refine lw_st (L := L) (xs := xs) (z := z) rfl (al_e hl.2.2.1) ?_
  refine lw_cl (L := L) (xs := xs) (z := z) (p := 947) (y := 233) (ci := 13) (n := 0) (mx := 3) (o := 113) (rest := []) rfl (kd_g J1).2 rfl rfl rfl (mw_heat cdC_0 J1 ) (fun r M' h => ?_)
  obtain ⟨x2, e2, J2⟩ := h
  subst e2
  refine lw_st (L := L) (xs := xs) (z := z) rfl rfl ?_
  refine lw_st (L := L) (xs := xs) (z := z) rfl rfl ?_
  exact hc _ lo hl (LZ_up J2)
theorem lw_26 {L : Nat} {xs : Nat → Int32} {z : Bool} {q : Nat} (hq : q ≤ 600) {i : Int32} (hi : i.toInt = ((6 * q : Nat) : Int)) (hb : 6 * q + 6 ≤ L) {M : aM} (hI : LZ q M) {lo : aL} (hl : cL lo i) {Q : aQ} (hc : ∀ M' lo', cL lo' i → LZ (q + 1) M' → wpS (cdC L xs z) (40, [], 252, 1160, lo', [], M') Q) : wpS (cdC L xs z) (40, [], 252, 954, lo, [], M) Q := by
  refine lw_st (L := L) (xs := xs) (z := z) rfl (al_e hl.2.1) ?_
  refine lw_cl (L := L) (xs := xs) (z := z) (p := 955) (y := 130) (ci := 11) (n := 0) (mx := 1) (o := 0) (rest := []) rfl (kd_g hI).1 rfl rfl rfl (xw_about cdC_0 hI ) (fun r M' h => ?_)
  obtain ⟨x1, e1, J1⟩ := h
  subst e1
  refine lw_st (L := L) (xs := xs) (z := z) rfl rfl ?_
  refine lw_st (L := L) (xs := xs) (z := z) rfl (al_e hl.2.2.1) ?_
  refine lw_cl (L := L) (xs := xs) (z := z) (p := 960) (y := 234) (ci := 13) (n := 0) (mx := 5) (o := 113) (rest := []) rfl (kd_g J1).2 rfl rfl rfl (mw_about cdC_0 J1 ) (fun r M' h => ?_)
  obtain ⟨x2, e2, J2⟩ := h
  subst e2
  refine lw_st (L := L) (xs := xs) (z := z) rfl rfl ?_
  refine lw_st (L := L) (xs := xs) (z := z) rfl rfl ?_
  exact hc _ lo hl (LZ_up J2)
theorem lw_27 {L : Nat} {xs : Nat → Int32} {z : Bool} {q : Nat} (hq : q ≤ 600) {i : Int32} (hi : i.toInt = ((6 * q : Nat) : Int)) (hb : 6 * q + 6 ≤ L) {M : aM} (hI : LZ q M) {lo : aL} (hl : cL lo i) {Q : aQ} (hc : ∀ M' lo', cL lo' i → LZ (q + 1) M' → wpS (cdC L xs z) (40, [], 252, 1160, lo', [], M') Q) : wpS (cdC L xs z) (40, [], 252, 967, lo, [], M) Q := by
  refine lw_st (L := L) (xs := xs) (z := z) rfl (al_e hl.2.1) ?_
  refine lw_arg hl (L := L) (xs := xs) (z := z) (p0 := 968) (p1 := 969) (p2 := 971) (p3 := 972) (p4 := 973) (p5 := 974) (kI := 1) rfl rfl rfl rfl rfl (ik_of hq hi (k := 1) rfl (by omega)) (by omega) ?_
  refine lw_arg hl (L := L) (xs := xs) (z := z) (p0 := 974) (p1 := 975) (p2 := 977) (p3 := 978) (p4 := 979) (p5 := 980) (kI := 2) rfl rfl rfl rfl rfl (ik_of hq hi (k := 2) rfl (by omega)) (by omega) ?_
  refine lw_arg hl (L := L) (xs := xs) (z := z) (p0 := 980) (p1 := 981) (p2 := 983) (p3 := 984) (p4 := 985) (p5 := 986) (kI := 3) rfl rfl rfl rfl rfl (ik_of hq hi (k := 3) rfl (by omega)) (by omega) ?_
  refine lw_cl (L := L) (xs := xs) (z := z) (p := 986) (y := 131) (ci := 11) (n := 3) (mx := 4) (o := 0) (rest := []) rfl (kd_g hI).1 rfl rfl rfl (xw_wall cdC_0 hI (xs (6 * q + 1)) (xs (6 * q + 2)) (xs (6 * q + 3))) (fun r M' h => ?_)
  obtain ⟨x1, e1, J1⟩ := h
  subst e1
  refine lw_st (L := L) (xs := xs) (z := z) rfl rfl ?_
  refine lw_st (L := L) (xs := xs) (z := z) rfl (al_e hl.2.2.1) ?_
  refine lw_arg hl (L := L) (xs := xs) (z := z) (p0 := 991) (p1 := 992) (p2 := 994) (p3 := 995) (p4 := 996) (p5 := 997) (kI := 1) rfl rfl rfl rfl rfl (ik_of hq hi (k := 1) rfl (by omega)) (by omega) ?_
  refine lw_arg hl (L := L) (xs := xs) (z := z) (p0 := 997) (p1 := 998) (p2 := 1000) (p3 := 1001) (p4 := 1002) (p5 := 1003) (kI := 2) rfl rfl rfl rfl rfl (ik_of hq hi (k := 2) rfl (by omega)) (by omega) ?_
  refine lw_arg hl (L := L) (xs := xs) (z := z) (p0 := 1003) (p1 := 1004) (p2 := 1006) (p3 := 1007) (p4 := 1008) (p5 := 1009) (kI := 3) rfl rfl rfl rfl rfl (ik_of hq hi (k := 3) rfl (by omega)) (by omega) ?_
  refine lw_cl (L := L) (xs := xs) (z := z) (p := 1009) (y := 235) (ci := 13) (n := 3) (mx := 4) (o := 113) (rest := []) rfl (kd_g J1).2 rfl rfl rfl (mw_wall cdC_0 (xs (6 * q + 1)) (xs (6 * q + 2)) (xs (6 * q + 3)) J1) (fun r M' h => ?_)
  obtain ⟨x2, e2, E2, J2⟩ := h
  subst e2
  refine lw_st (L := L) (xs := xs) (z := z) rfl rfl ?_
  refine lw_st (L := L) (xs := xs) (z := z) rfl rfl ?_
  exact hc _ lo hl (LZ_up J2)
theorem lw_28 {L : Nat} {xs : Nat → Int32} {z : Bool} {q : Nat} (hq : q ≤ 600) {i : Int32} (hi : i.toInt = ((6 * q : Nat) : Int)) (hb : 6 * q + 6 ≤ L) {M : aM} (hI : LZ q M) {lo : aL} (hl : cL lo i) {Q : aQ} (hc : ∀ M' lo', cL lo' i → LZ (q + 1) M' → wpS (cdC L xs z) (40, [], 252, 1160, lo', [], M') Q) : wpS (cdC L xs z) (40, [], 252, 1016, lo, [], M) Q := by
  refine lw_st (L := L) (xs := xs) (z := z) rfl (al_e hl.2.1) ?_
  refine lw_cl (L := L) (xs := xs) (z := z) (p := 1017) (y := 132) (ci := 11) (n := 0) (mx := 2) (o := 0) (rest := []) rfl (kd_g hI).1 rfl rfl rfl (xw_clear cdC_0 hI ) (fun r M' h => ?_)
  obtain ⟨x1, e1, J1⟩ := h
  subst e1
  refine lw_st (L := L) (xs := xs) (z := z) rfl rfl ?_
  refine lw_st (L := L) (xs := xs) (z := z) rfl (al_e hl.2.2.1) ?_
  refine lw_cl (L := L) (xs := xs) (z := z) (p := 1022) (y := 236) (ci := 13) (n := 0) (mx := 3) (o := 113) (rest := []) rfl (kd_g J1).2 rfl rfl rfl (mw_clear cdC_0  J1) (fun r M' h => ?_)
  obtain ⟨x2, e2, E2, J2⟩ := h
  subst e2
  refine lw_st (L := L) (xs := xs) (z := z) rfl rfl ?_
  refine lw_st (L := L) (xs := xs) (z := z) rfl rfl ?_
  exact hc _ lo hl (LZ_up J2)
theorem lw_29 {L : Nat} {xs : Nat → Int32} {z : Bool} {q : Nat} (hq : q ≤ 600) {i : Int32} (hi : i.toInt = ((6 * q : Nat) : Int)) (hb : 6 * q + 6 ≤ L) {M : aM} (hI : LZ q M) {lo : aL} (hl : cL lo i) {Q : aQ} (hc : ∀ M' lo', cL lo' i → LZ (q + 1) M' → wpS (cdC L xs z) (40, [], 252, 1160, lo', [], M') Q) : wpS (cdC L xs z) (40, [], 252, 1029, lo, [], M) Q := by
  refine lw_st (L := L) (xs := xs) (z := z) rfl (al_e hl.2.1) ?_
  refine lw_arg hl (L := L) (xs := xs) (z := z) (p0 := 1030) (p1 := 1031) (p2 := 1033) (p3 := 1034) (p4 := 1035) (p5 := 1036) (kI := 1) rfl rfl rfl rfl rfl (ik_of hq hi (k := 1) rfl (by omega)) (by omega) ?_
  refine lw_arg hl (L := L) (xs := xs) (z := z) (p0 := 1036) (p1 := 1037) (p2 := 1039) (p3 := 1040) (p4 := 1041) (p5 := 1042) (kI := 2) rfl rfl rfl rfl rfl (ik_of hq hi (k := 2) rfl (by omega)) (by omega) ?_
  refine lw_arg hl (L := L) (xs := xs) (z := z) (p0 := 1042) (p1 := 1043) (p2 := 1045) (p3 := 1046) (p4 := 1047) (p5 := 1048) (kI := 3) rfl rfl rfl rfl rfl (ik_of hq hi (k := 3) rfl (by omega)) (by omega) ?_
  refine lw_bo (L := L) (xs := xs) (z := z) (p0 := 1048) (p1 := 1051) (p2 := 1052) (p3 := 1055) (p5 := 1056) rfl rfl rfl rfl ?_
  refine lw_cl (L := L) (xs := xs) (z := z) (p := 1056) (y := 133) (ci := 11) (n := 3) (mx := 4) (o := 0) (rest := []) rfl (kd_g hI).1 rfl rfl rfl (xw_lies cdC_0 hI (xs (6 * q + 1)) (xs (6 * q + 2)) (bo (xs (6 * q + 3))) bo_b) (fun r M' h => ?_)
  obtain ⟨x1, e1, J1⟩ := h
  subst e1
  refine lw_st (L := L) (xs := xs) (z := z) rfl rfl ?_
  refine lw_st (L := L) (xs := xs) (z := z) rfl (al_e hl.2.2.1) ?_
  refine lw_arg hl (L := L) (xs := xs) (z := z) (p0 := 1061) (p1 := 1062) (p2 := 1064) (p3 := 1065) (p4 := 1066) (p5 := 1067) (kI := 1) rfl rfl rfl rfl rfl (ik_of hq hi (k := 1) rfl (by omega)) (by omega) ?_
  refine lw_arg hl (L := L) (xs := xs) (z := z) (p0 := 1067) (p1 := 1068) (p2 := 1070) (p3 := 1071) (p4 := 1072) (p5 := 1073) (kI := 2) rfl rfl rfl rfl rfl (ik_of hq hi (k := 2) rfl (by omega)) (by omega) ?_
  refine lw_arg hl (L := L) (xs := xs) (z := z) (p0 := 1073) (p1 := 1074) (p2 := 1076) (p3 := 1077) (p4 := 1078) (p5 := 1079) (kI := 3) rfl rfl rfl rfl rfl (ik_of hq hi (k := 3) rfl (by omega)) (by omega) ?_
  refine lw_bo (L := L) (xs := xs) (z := z) (p0 := 1079) (p1 := 1082) (p2 := 1083) (p3 := 1086) (p5 := 1087) rfl rfl rfl rfl ?_
  refine lw_cl (L := L) (xs := xs) (z := z) (p := 1087) (y := 239) (ci := 13) (n := 3) (mx := 4) (o := 113) (rest := []) rfl (kd_g J1).2 rfl rfl rfl (mw_lies cdC_0 (xs (6 * q + 1)) (xs (6 * q + 2)) (bo (xs (6 * q + 3))) J1) (fun r M' h => ?_)
  obtain ⟨x2, e2, E2, J2⟩ := h
  subst e2
  refine lw_st (L := L) (xs := xs) (z := z) rfl rfl ?_
  refine lw_st (L := L) (xs := xs) (z := z) rfl rfl ?_
  exact hc _ lo hl (LZ_up J2)
theorem lw_30 {L : Nat} {xs : Nat → Int32} {z : Bool} {q : Nat} (hq : q ≤ 600) {i : Int32} (hi : i.toInt = ((6 * q : Nat) : Int)) (hb : 6 * q + 6 ≤ L) {M : aM} (hI : LZ q M) {lo : aL} (hl : cL lo i) {Q : aQ} (hc : ∀ M' lo', cL lo' i → LZ (q + 1) M' → wpS (cdC L xs z) (40, [], 252, 1160, lo', [], M') Q) : wpS (cdC L xs z) (40, [], 252, 1094, lo, [], M) Q := by
  refine lw_st (L := L) (xs := xs) (z := z) rfl (al_e hl.2.1) ?_
  refine lw_arg hl (L := L) (xs := xs) (z := z) (p0 := 1095) (p1 := 1096) (p2 := 1098) (p3 := 1099) (p4 := 1100) (p5 := 1101) (kI := 1) rfl rfl rfl rfl rfl (ik_of hq hi (k := 1) rfl (by omega)) (by omega) ?_
  refine lw_cl (L := L) (xs := xs) (z := z) (p := 1101) (y := 134) (ci := 11) (n := 1) (mx := 2) (o := 0) (rest := []) rfl (kd_g hI).1 rfl rfl rfl (xw_next cdC_0 hI (xs (6 * q + 1))) (fun r M' h => ?_)
  obtain ⟨x1, e1, J1⟩ := h
  subst e1
  refine lw_st (L := L) (xs := xs) (z := z) rfl (al_e hl.2.2.1) ?_
  refine lw_arg hl (L := L) (xs := xs) (z := z) (p0 := 1105) (p1 := 1106) (p2 := 1108) (p3 := 1109) (p4 := 1110) (p5 := 1111) (kI := 1) rfl rfl rfl rfl rfl (ik_of hq hi (k := 1) rfl (by omega)) (by omega) ?_
  refine lw_cl (L := L) (xs := xs) (z := z) (p := 1111) (y := 240) (ci := 13) (n := 1) (mx := 4) (o := 113) (rest := [.inl x1]) rfl (kd_g J1).2 rfl rfl rfl (mw_next cdC_0 (xs (6 * q + 1)) J1) (fun r M' h => ?_)
  obtain ⟨x2, e2, E2, J2⟩ := h
  subst e2
  refine lw_eq (L := L) (xs := xs) (z := z) (p := 1114) (p1 := 1160) (p2 := 1117) rfl E2 ?_
  exact hc _ lo hl (LZ_up J2)
theorem lw_32 {L : Nat} {xs : Nat → Int32} {z : Bool} {q : Nat} (hq : q ≤ 600) {i : Int32} (hi : i.toInt = ((6 * q : Nat) : Int)) (hb : 6 * q + 6 ≤ L) {M : aM} (hI : LZ q M) {lo : aL} (hl : cL lo i) {Q : aQ} (hc : ∀ M' lo', cL lo' i → LZ (q + 1) M' → wpS (cdC L xs z) (40, [], 252, 1160, lo', [], M') Q) : wpS (cdC L xs z) (40, [], 252, 1147, lo, [], M) Q := by
  refine lw_st (L := L) (xs := xs) (z := z) rfl (al_e hl.2.1) ?_
  refine lw_cl (L := L) (xs := xs) (z := z) (p := 1148) (y := 136) (ci := 11) (n := 0) (mx := 1) (o := 0) (rest := []) rfl (kd_g hI).1 rfl rfl rfl (xw_trouble cdC_0 hI ) (fun r M' h => ?_)
  obtain ⟨x1, e1, J1⟩ := h
  subst e1
  refine lw_st (L := L) (xs := xs) (z := z) rfl rfl ?_
  refine lw_st (L := L) (xs := xs) (z := z) rfl (al_e hl.2.2.1) ?_
  refine lw_cl (L := L) (xs := xs) (z := z) (p := 1153) (y := 242) (ci := 13) (n := 0) (mx := 1) (o := 113) (rest := []) rfl (kd_g J1).2 rfl rfl rfl (mw_trouble cdC_0 J1 ) (fun r M' h => ?_)
  obtain ⟨x2, e2, J2⟩ := h
  subst e2
  refine lw_st (L := L) (xs := xs) (z := z) rfl rfl ?_
  refine lw_st (L := L) (xs := xs) (z := z) rfl rfl ?_
  exact hc _ lo hl (LZ_up J2)
theorem lw_31 {L : Nat} {xs : Nat → Int32} {z : Bool} {q : Nat} (hq : q ≤ 600) {i : Int32} (hi : i.toInt = ((6 * q : Nat) : Int)) (hb : 6 * q + 6 ≤ L) {M : aM} (hI : LZ q M) {lo : aL} (hl : cL lo i) {Q : aQ} (hc : ∀ M' lo', cL lo' i → LZ (q + 1) M' → wpS (cdC L xs z) (40, [], 252, 1160, lo', [], M') Q) : wpS (cdC L xs z) (40, [], 252, 1119, lo, [], M) Q := by
  refine lw_st (L := L) (xs := xs) (z := z) rfl (al_e hl.2.1) ?_
  refine lw_arg hl (L := L) (xs := xs) (z := z) (p0 := 1120) (p1 := 1121) (p2 := 1123) (p3 := 1124) (p4 := 1125) (p5 := 1126) (kI := 1) rfl rfl rfl rfl rfl (ik_of hq hi (k := 1) rfl (by omega)) (by omega) ?_
  refine lw_st (L := L) (xs := xs) (z := z) rfl (al_e hl.2.2.2.1) ?_
  obtain ⟨v, M1, hv, e1⟩ := x_led (z := z) (M := M) (lo := lo) (lz_L hI).choose_spec.choose_spec (xs (6 * q + 1))
  refine lw_st (L := L) (xs := xs) (z := z) (i := j_ledC (cd0 z) 30 135 251 11 28 1130) rfl hv ?_
  have J1 := LZ_led hI e1
  refine lw_st (L := L) (xs := xs) (z := z) rfl rfl ?_
  have hl1 : cL ((5, .inl v) :: rml 5 lo) i := cL_s hl (by omega)
  generalize ((5, Sum.inl v) :: rml 5 lo : aL) = lo1 at hl1 ⊢
  refine lw_st (L := L) (xs := xs) (z := z) rfl (al_e hl1.2.2.1) ?_
  refine lw_arg hl1 (L := L) (xs := xs) (z := z) (p0 := 1133) (p1 := 1134) (p2 := 1136) (p3 := 1137) (p4 := 1138) (p5 := 1139) (kI := 1) rfl rfl rfl rfl rfl (ik_of hq hi (k := 1) rfl (by omega)) (by omega) ?_
  refine lw_cl (L := L) (xs := xs) (z := z) (p := 1139) (y := 241) (ci := 13) (n := 1) (mx := 4) (o := 113) (rest := []) rfl (kd_g J1).2 rfl rfl rfl (mw_led cdC_0 J1 (xs (6 * q + 1))) (fun r M' h => ?_)
  obtain ⟨w, e2, J2⟩ := h
  subst e2
  refine lw_st (L := L) (xs := xs) (z := z) rfl rfl ?_
  refine lw_st (L := L) (xs := xs) (z := z) rfl rfl ?_
  exact hc M' _ (cL_s hl1 (by omega)) J2

/-! Texts: the JDK's own length and charAt over the claim's texts. -/
/-- the texts' letters, by their numbers -/
def txc (k : Nat) : List Nat := (bif Nat.blt k 26 then (bif Nat.blt k 13 then (bif Nat.blt k 6 then (bif Nat.blt k 3 then (bif Nat.blt k 1 then [114, 111, 100] else (bif Nat.blt k 2 then [105, 110, 99, 104, 101, 115] else [119, 97, 108, 108])) else (bif Nat.blt k 4 then [98, 117, 115, 104] else (bif Nat.blt k 5 then [108, 105, 112] else [111, 105, 108]))) else (bif Nat.blt k 9 then (bif Nat.blt k 7 then [114, 111, 111, 109] else (bif Nat.blt k 8 then [98, 101, 97, 114, 115] else [99, 111, 115, 116, 115])) else (bif Nat.blt k 11 then (bif Nat.blt k 10 then [105, 110, 99, 104] else [100, 114, 97, 119]) else (bif Nat.blt k 12 then [119, 97, 121] else [104, 97, 114, 100])))) else (bif Nat.blt k 19 then (bif Nat.blt k 16 then (bif Nat.blt k 14 then [102, 114, 111, 109] else (bif Nat.blt k 15 then [115, 101, 101, 114] else [115, 104, 97, 114, 112, 101, 110])) else (bif Nat.blt k 17 then [112, 117, 115, 104] else (bif Nat.blt k 18 then [104, 111, 108, 100] else [102, 111, 114, 99, 101]))) else (bif Nat.blt k 22 then (bif Nat.blt k 20 then [98, 121] else (bif Nat.blt k 21 then [114, 105, 103, 104, 116] else [117, 112])) else (bif Nat.blt k 24 then (bif Nat.blt k 23 then [108, 101, 102, 116] else [100, 111, 119, 110]) else (bif Nat.blt k 25 then [102, 101, 101, 100] else [115, 101, 101, 115]))))) else (bif Nat.blt k 39 then (bif Nat.blt k 32 then (bif Nat.blt k 29 then (bif Nat.blt k 27 then [114, 111, 100] else (bif Nat.blt k 28 then [105, 110, 99, 104, 101, 115] else [119, 97, 108, 108])) else (bif Nat.blt k 30 then [98, 117, 115, 104] else (bif Nat.blt k 31 then [108, 105, 112] else [111, 105, 108]))) else (bif Nat.blt k 35 then (bif Nat.blt k 33 then [114, 111, 111, 109] else (bif Nat.blt k 34 then [98, 101, 97, 114, 115] else [99, 111, 115, 116, 115])) else (bif Nat.blt k 37 then (bif Nat.blt k 36 then [105, 110, 99, 104] else [100, 114, 97, 119]) else (bif Nat.blt k 38 then [119, 97, 121] else [104, 97, 114, 100])))) else (bif Nat.blt k 45 then (bif Nat.blt k 42 then (bif Nat.blt k 40 then [102, 114, 111, 109] else (bif Nat.blt k 41 then [115, 101, 101, 114] else [115, 104, 97, 114, 112, 101, 110])) else (bif Nat.blt k 43 then [112, 117, 115, 104] else (bif Nat.blt k 44 then [104, 111, 108, 100] else [102, 111, 114, 99, 101]))) else (bif Nat.blt k 48 then (bif Nat.blt k 46 then [98, 121] else (bif Nat.blt k 47 then [114, 105, 103, 104, 116] else [117, 112])) else (bif Nat.blt k 50 then (bif Nat.blt k 49 then [108, 101, 102, 116] else [100, 111, 119, 110]) else (bif Nat.blt k 51 then [102, 101, 101, 100] else [115, 101, 101, 115]))))))
abbrev nT : Nat := 52
set_option maxRecDepth 20000 in
theorem txc_ok : ∀ k, k < nT → ∃ q ∈ strT, q.2.2.2 = k ∧ (txc k).length = q.2.2.1.length ∧ ∀ j, j < q.2.2.1.length → sby q.2.2.1 j = Int32.ofNat ((txc k).getD j 0) := fun k hk => by
  have h : ∀ k : Fin nT, ∃ q ∈ strT, q.2.2.2 = k.1 ∧ (txc k.1).length = q.2.2.1.length ∧ ∀ j, j < q.2.2.1.length → sby q.2.2.1 j = Int32.ofNat ((txc k.1).getD j 0) := by decide +kernel
  exact h ⟨k, hk⟩
def isT (b a : Nat) : Bool := Nat.ble (aSB + b) a && Nat.blt (a - (aSB + b)) nT
theorem isT_ok {b a : Nat} (h : isT b a = true) : ∃ q ∈ strT, a = aSB + (b + q.2.2.2) ∧ a - (aSB + b) = q.2.2.2 ∧ (txc (a - (aSB + b))).length = q.2.2.1.length ∧ ∀ j, j < q.2.2.1.length → sby q.2.2.1 j = Int32.ofNat ((txc (a - (aSB + b))).getD j 0) := by
  obtain ⟨h1, h2⟩ := (Bool.and_eq_true _ _).mp h
  have h1 := Nat.le_of_ble_eq_true h1
  have h2 : a - (aSB + b) < nT := blt_lt h2
  obtain ⟨q, q1, q2, q3, q4⟩ := txc_ok _ h2
  exact ⟨q, q1, by omega, q2.symm, q3, q4⟩
theorem S_gstat {sc : aSc} {cI : Nat → aF} {F : aF} {pc ix : Nat} (h1 : Cond.fieldLink F.1.cls ix "java/lang/String" "COMPACT_STRINGS" "Z" ∈ TB) (hd : decode F.2.1 pc = .ok (.getstatic ix, 3)) : aS sc cI F pc (j_c (pc + 3) 1) := aS_n fun lo st M r e => by
  cases e
  refine ⟨_, _, _, _, rfl, mle_rf, ?_⟩
  intro p l e R s m args below meth c D cy ad0 M0 Q hX hn hc hs hG ad H locs ls ha hW
  have hZ := hX.2.2.2.2.2.2.2.2.1.2.2.1
  obtain ⟨hP, hD, hS, hwf, hl, hvl, hvs⟩ := hW
  exact va_gets hX.1.1 hX.1.2.1 hZ hS hX.1.2.2.2.1 (hX.1.2.2.2.2 _ h1) (fun _ h => h) hd (hG ad H locs ls ha ⟨hP, hD, hS, hwf, hl, hvl, vok_c vok_i hvs⟩)
def j_sio (z : Bool) (pc' : Nat) : aI := fun lo st M => some (.inl (pc', lo, .inr (.inr (bif z then none else some (aSB + 800000))) :: st, M))
theorem S_sio {sc : aSc} {cI : Nat → aF} {F : aF} {pc ix : Nat} (h1 : Cond.fieldLink F.1.cls ix "jdk/internal/util/Preconditions" "SIOOBE_FORMATTER" "Ljava/util/function/BiFunction;" ∈ TB) (hd : decode F.2.1 pc = .ok (.getstatic ix, 3)) : aS sc cI F pc (j_sio sc.2.2 (pc + 3)) := aS_n fun lo st M r e => by
  cases e
  refine ⟨_, _, _, _, rfl, mle_rf, ?_⟩
  intro p l e R s m args below meth c D cy ad0 M0 Q hX hn hc hs hG ad H locs ls ha hW
  have hZ := (hX.2.2.2.2.2.2.2.2.1.agr ha).2.2.2
  have hz9 := hX.2.2.2.2.2.2.2.2.2.1
  obtain ⟨hP, hD, hS, hwf, hl, hvl, hvs⟩ := hW
  have hw := hG ad H locs ls ha ⟨hP, hD, hS, hwf, hl, hvl, vok_c (fun j e => Or.inr (by
    rw [hz9] at e
    cases hc9 : cyz cy with
    | true => rw [hc9] at e; cases e
    | false => rw [hc9] at e; cases e; omega)) hvs⟩
  refine va_gets hX.1.1 hX.1.2.1 hZ ((fun h => h) hS) hX.1.2.2.2.1 (hX.1.2.2.2.2 _ h1) (fun _ h => h) hd ?_
  rw [hz9] at hw
  unfold sioV
  cases hc9 : cyz cy with
  | true => rw [hc9] at hw; exact hw
  | false => rw [hc9] at hw; exact hw
def j_scod (pc' : Nat) : aI := fun lo st M => match st with
  | .inr (.inr (some a)) :: s => bif isT 0 a then some (.inl (pc', lo, .inl 0 :: s, M)) else none
  | _ => none
theorem S_scod {sc : aSc} {cI : Nat → aF} {F : aF} {pc ix : Nat} (h1 : Cond.fieldLink F.1.cls ix "java/lang/String" "coder" "B" ∈ TB) (hd : decode F.2.1 pc = .ok (.getfield ix, 3)) : aS sc cI F pc (j_scod (pc + 3)) := aS_n fun lo st M r e => by
  unfold j_scod at e
  split at e
  · rename_i a s9
    obtain ⟨g1, g2⟩ := bifE e
    cases g2
    obtain ⟨q, q1, rfl, q3, q4, q5⟩ := isT_ok g1
    refine ⟨_, _, _, _, rfl, mle_rf, ?_⟩
    intro p l e R s m args below meth c D cy ad0 M0 Q hX hn hc hs hG ad H locs ls ha hW
    have hZ := (hX.2.2.2.2.2.2.2.2.1.agr ha).2.1 q q1
    obtain ⟨hP, hD, hS, hwf, hl, hvl, hvs⟩ := hW
    have hw := hG ad H locs ls ha ⟨hP, hD, hS, hwf, hl, hvl, vok_c vok_i (vok_t hvs)⟩
    rw [← Nat.zero_add q.2.2.2] at hZ
    exact vk_getf hX.1.1 hX.1.2.1 hZ.2.1 hS hX.1.2.2.2.1 (hX.1.2.2.2.2 _ h1) (fun _ h => h) hd hw
  · cases e
def j_sval (pc' : Nat) : aI := fun lo st M => match st with
  | .inr (.inr (some a)) :: s => bif isT 0 a then some (.inl (pc', lo, .inr (.inr (some (a + 400000))) :: s, M)) else none
  | _ => none
theorem S_sval {sc : aSc} {cI : Nat → aF} {F : aF} {pc ix : Nat} (h1 : Cond.fieldLink F.1.cls ix "java/lang/String" "value" "[B" ∈ TB) (hd : decode F.2.1 pc = .ok (.getfield ix, 3)) : aS sc cI F pc (j_sval (pc + 3)) := aS_n fun lo st M r e => by
  unfold j_sval at e
  split at e
  · rename_i a s9
    obtain ⟨g1, g2⟩ := bifE e
    cases g2
    obtain ⟨q, q1, rfl, q3, q4, q5⟩ := isT_ok g1
    refine ⟨_, _, _, _, rfl, mle_rf, ?_⟩
    intro p l e R s m args below meth c D cy ad0 M0 Q hX hn hc hs hG ad H locs ls ha hW
    have hZ := ((hX.2.2.2.2.2.2.2.2.1.agr ha).2.1 q q1).2.2.1
    obtain ⟨hP, hD, hS, hwf, hl, hvl, hvs⟩ := hW
    have hw := hG ad H locs ls ha ⟨hP, hD, hS, hwf, hl, hvl, vok_c (fun j e => Or.inr (by cases e; omega)) (vok_t hvs)⟩
    rw [show aSB + (0 + q.2.2.2) + 400000 = aSB + (400000 + q.2.2.2) by omega] at hw
    rw [show aSB + (0 + q.2.2.2) = aSB + q.2.2.2 by omega]
    exact vk_getf hX.1.1 hX.1.2.1 hZ hS hX.1.2.2.2.1 (hX.1.2.2.2.2 _ h1) (fun _ h => h) hd hw
  · cases e
def j_tlen (pc' : Nat) : aI := fun lo st M => match st with
  | .inr (.inr (some a)) :: s => bif isT 400000 a then some (.inl (pc', lo, .inl (Int32.ofNat (txc (a - (aSB + 400000))).length) :: s, M)) else none
  | _ => none
theorem S_tlen {sc : aSc} {cI : Nat → aF} {F : aF} {pc : Nat} (hd : decode F.2.1 pc = .ok (.arraylength, 1)) : aS sc cI F pc (j_tlen (pc + 1)) := aS_n fun lo st M r e => by
  unfold j_tlen at e
  split at e
  · rename_i a s9
    obtain ⟨g1, g2⟩ := bifE e
    cases g2
    obtain ⟨q, q1, rfl, q3, q4, q5⟩ := isT_ok g1
    refine ⟨_, _, _, _, rfl, mle_rf, ?_⟩
    intro p l e R s m args below meth c D cy ad0 M0 Q hX hn hc hs hG ad H locs ls ha hW
    have hZ := ((hX.2.2.2.2.2.2.2.2.1.agr ha).2.1 q q1).2.2.2
    obtain ⟨hP, hD, hS, hwf, hl, hvl, hvs⟩ := hW
    have hw := hG ad H locs ls ha ⟨hP, hD, hS, hwf, hl, hvl, vok_c vok_i (vok_t hvs)⟩
    rw [q4] at hw
    exact va_tlen hX.1.1 hX.1.2.1 hZ hS rfl hd hw
  · cases e
def j_tbl (pc' : Nat) : aI := fun lo st M => match st with
  | .inl i :: .inr (.inr (some a)) :: s => bif isT 400000 a && inb i (txc (a - (aSB + 400000))).length then some (.inl (pc', lo, .inl (Int32.ofNat ((txc (a - (aSB + 400000))).getD i.toNatClampNeg 0)) :: s, M)) else none
  | _ => none
theorem S_tbl {sc : aSc} {cI : Nat → aF} {F : aF} {pc : Nat} (hd : decode F.2.1 pc = .ok (.baload, 1)) : aS sc cI F pc (j_tbl (pc + 1)) := aS_n fun lo st M r e => by
  unfold j_tbl at e
  split at e
  · rename_i i a s9
    obtain ⟨g1, g2⟩ := bifE e
    cases g2
    obtain ⟨g1, g3⟩ := (Bool.and_eq_true _ _).mp g1
    obtain ⟨q, q1, rfl, q3, q4, q5⟩ := isT_ok g1
    refine ⟨_, _, _, _, rfl, mle_rf, ?_⟩
    intro p l e R s m args below meth c D cy ad0 M0 Q hX hn hc hs hG ad H locs ls ha hW
    have hZ := ((hX.2.2.2.2.2.2.2.2.1.agr ha).2.1 q q1).2.2.2
    obtain ⟨hP, hD, hS, hwf, hl, hvl, hvs⟩ := hW
    have hw := hG ad H locs ls ha ⟨hP, hD, hS, hwf, hl, hvl, vok_c vok_i (vok_t (vok_t hvs))⟩
    rw [q4] at g3
    have hin := inb_in g3
    have hlt : i.toNatClampNeg < q.2.2.1.length := Nat.not_le.mp fun z => hin (Or.inr z)
    rw [← q5 _ hlt] at hw
    exact va_tb hX.1.1 hX.1.2.1 hZ hS hin rfl hd hw
  · cases e
def nrt (k : Nat) : FieldType := match k with
  | 0 => .byte
  | _ => .char
def j_nret (k : Nat) : aI := fun lo st M => match st with
  | [.inl v] => bif decide (vp_nar (nrt k) v = v) then some (.inr (.inr (some (.inl v)))) else none
  | _ => none
theorem nar_n {k : Nat} {v : Int32} (h : vp_nar (nrt k) v = v) : narrow (nrt k) (.int v) = .int v := by
  match k, h with
  | 0, h =>
    have e : narrow .byte (.int v) = .int (vp_nar .byte v) := rfl
    show narrow .byte (.int v) = .int v
    rw [e]
    exact congrArg Value.int h
  | k + 1, h =>
    have e : narrow .char (.int v) = .int (vp_nar .char v) := rfl
    show narrow .char (.int v) = .int v
    rw [e]
    exact congrArg Value.int h
theorem S_nret {sc : aSc} {cI : Nat → aF} {F : aF} {pc : Nat} {k : Nat} (hr : F.2.2.2 = some (nrt k)) (hd : decode F.2.1 pc = .ok (.ireturn, 1)) : aS sc cI F pc (j_nret k) := aS_t fun lo st M x e => by
  unfold j_nret at e
  split at e
  · rename_i v
    obtain ⟨h1, h2⟩ := bifE e
    cases h2
    refine ⟨_, rfl, ?_⟩
    intro p l e R s m args below meth c D cy ad0 M0 hX ad H locs ls ha hW
    obtain ⟨hP, hD, hS, hwf, hl, hvl, hvs⟩ := hW
    have hlocks : meth.locks = false := hX.2.2.1
    have hq : ∀ t : State, t.heap = H → s.WarmedH t.vm → aPost D cy ad0 M0 s.heap.size (some (.inl v)) M args s (.returned (some (.int v))) t := fun t ht _ => ⟨⟨ad, ha, rfl, by rw [ht]; exact hP, hD, hwf, fun w e => by cases e; exact vok_i⟩, hS.F ht⟩
    exact W.zret hX.1.1 hX.1.2.1 (hX.2.1.trans hr) (nar_n (of_decide_eq_true h1)) hq hS.2.2 hd
  · cases e
def j_callt (y n mx : Nat) : aI := fun lo st M => match st.drop n with
  | .inr (.inr (some a)) :: rest => bif isT 0 a && (Nat.ble (csum rest) 8 && (Nat.beq (st.take n).length n && Nat.ble (csum (.inr (.inr (some a)) :: (st.take n).reverse)) mx)) then some (.inr (.inl (y, .inr (.inr (some a)) :: (st.take n).reverse, rest))) else none
  | _ => none
theorem callt_c {y n mx : Nat} {lo : aL} {st : List aV} {M : aM} {x : aR} (e : j_callt y n mx lo st M = some x) : ∃ a As rest, st = As.reverse ++ .inr (.inr (some a)) :: rest ∧ As.length = n ∧ isT 0 a = true ∧ csum rest ≤ 8 ∧ csum (.inr (.inr (some a)) :: As) ≤ mx ∧ x = .inr (.inl (y, .inr (.inr (some a)) :: As, rest)) := by
  unfold j_callt at e
  split at e
  · rename_i a rest hd
    obtain ⟨h1, h34, h5⟩ := bandE e (by simp)
    obtain ⟨h3, h4⟩ := (Bool.and_eq_true _ _).mp h34
    obtain ⟨h4, h6⟩ := (Bool.and_eq_true _ _).mp h4
    exact ⟨a, (st.take n).reverse, rest, by rw [List.reverse_reverse, ← hd, List.take_append_drop], by rw [List.length_reverse]; exact nbT h4, h1, Nat.le_of_ble_eq_true h3, Nat.le_of_ble_eq_true h6, Option.some.inj h5⟩
  · cases e
theorem S_callt {sc : aSc} {cI : Nat → aF} {F G : aF} {pc ix y n mx : Nat} (hG9 : cI y = G) (hC : G.1.cls = "java/lang/String") (hy : aY G n) (h1 : Cond.methodLink F.1.cls ix G.1 ∈ TB) (h2 : Cond.instanceMethod G.1 ∈ TB) (h3 : Cond.selects "java/lang/String" G.1 G.1 ∈ TB) (hmx : mx ≤ G.2.2.1) (hd : decode F.2.1 pc = .ok (.invokevirtual ix, 3)) : aS sc cI F pc (j_callt y n mx) := aS_c fun lo st M x e => by
  subst hG9
  obtain ⟨a, As, rest, rfl, hlen, ht, hcs, hca, rfl⟩ := callt_c e
  obtain ⟨q, q1, rfl, q3, q4, q5⟩ := isT_ok ht
  refine ⟨_, _, _, rfl, Nat.le_trans hca hmx, hy.2.2.2.2, ?_⟩
  intro p l e R s m args below meth c D cy ad0 M0 Q d r M' hX hn0 hn1 hc hs hf hlo hMet hG ad H locs ls ha hW
  have hW9 := hW
  obtain ⟨hP, hD, hS, hwf, hl, hvl, hvs⟩ := hW
  obtain ⟨hv1, hv2⟩ := vok_app1 hvs
  have hMt := hMet ad H.size hwf (vok_c (hv2 _ List.mem_cons_self) hv1)
  have hCI : Cond.initialized "java/lang/String" ∈ TB := hC ▸ hy.2.2.2.1
  have hZ := ((hX.2.2.2.2.2.2.2.2.1.agr ha).2.1 q q1).1
  rw [← Nat.zero_add q.2.2.2] at hZ
  refine call_go (aa := (Value.ref (ad (aSB + (0 + q.2.2.2))) :: As.map (tv ad)).toArray) hn0 hn1 ha hW9 (vok_t hv2) ?_ hG
  exact va_runV (As := As.map (tv ad)) (b := ad (aSB + (0 + q.2.2.2))) (C := "java/lang/String") hX.1 hMt
    (cwV n hX.1.2.2.2.2 (good_c h1 (good_c h2 (good_c h3 (good_c hCI (good_c hy.1 good_TB))))) rfl rfl rfl ⟨hC, hy.2.1⟩ (hR_ok hy.2.2.1 hf hlo))
    ⟨pre_blind, va_Orecv hZ hS, fun U hU hW => ⟨rfl, pre_ok hP hX.2.2.2.2.1 hD hS (hX.2.2.2.2.2.1.agr ha) (hX.2.2.2.2.2.2.2.2.1.agr ha) U hU hW⟩⟩
    rfl (by rw [List.length_map]; exact hlen) hl.1 (by show List.map _ _ = _; rw [List.map_append, List.map_reverse]; rfl) (lv_room (by rw [csum_le]; exact hcs)) hd (room_ok hn0 hn1 hc hs)

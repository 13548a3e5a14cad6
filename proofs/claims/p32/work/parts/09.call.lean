/-! Returns, calls. -/
def j_iret (b : Bool) : aI := fun lo st M => match st with
  | [.inl v] => bif !b || isB v then some (.inr (.inr (some (.inl v)))) else none
  | _ => none
def j_lret : aI := fun lo st M => match st with
  | [.inr (.inl v)] => some (.inr (.inr (some (.inr (.inl v)))))
  | _ => none
def j_aret : aI := fun lo st M => match st with
  | [.inr (.inr r)] => some (.inr (.inr (some (.inr (.inr r)))))
  | _ => none
def j_vret : aI := fun lo st M => match st with
  | [] => some (.inr (.inr none))
  | _ => none
theorem aS_t {sc : aSc} {cI : Nat → aF} {F : aF} {pc : Nat} {f : aI} (h : ∀ lo st M x, f lo st M = some x → ∃ r, x = .inr (.inr r) ∧ aT sc F pc lo st M r) : aS sc cI F pc f := by
  intro lo st M
  refine ⟨fun pc' lo' st' M' e => ?_, fun y As rest e => ?_, fun r e => ?_⟩
  · obtain ⟨a, e1, e2⟩ := h lo st M _ e
    cases e1
  · obtain ⟨a, e1, e2⟩ := h lo st M _ e
    cases e1
  · obtain ⟨a, e1, e2⟩ := h lo st M _ e
    cases e1
    exact e2
theorem S_iret {sc : aSc} {cI : Nat → aF} {F : aF} {pc : Nat} {b : Bool} (hr : F.2.2.2 = some (bif b then .boolean else .int)) (hd : decode F.2.1 pc = .ok (.ireturn, 1)) : aS sc cI F pc (j_iret b) := aS_t fun lo st M x e => by
  unfold j_iret at e
  split at e
  · rename_i v
    obtain ⟨h1, h2⟩ := bifE e
    cases h2
    refine ⟨_, rfl, ?_⟩
    intro p l e R s m args below meth c D cy ad0 M0 hX ad H locs ls ha hW
    obtain ⟨hP, hD, hS, hwf, hl, hvl, hvs⟩ := hW
    have hlocks : meth.locks = false := hX.2.2.1
    have hq : ∀ t : State, t.heap = H → s.WarmedH t.vm → aPost D cy ad0 M0 s.heap.size (some (.inl v)) M args s (.returned (some (.int v))) t := fun t ht _ => ⟨⟨ad, ha, rfl, by rw [ht]; exact hP, hD, hwf, fun w e => by cases e; exact vok_i⟩, hS.F ht⟩
    cases b with
    | false => exact W.iret hX.1.1 hX.1.2.1 (hX.2.1.trans hr) hq hS.2.2 hd
    | true => exact W.zret hX.1.1 hX.1.2.1 (hX.2.1.trans hr) (isB_n (by simpa using h1)).1 hq hS.2.2 hd
  · cases e
theorem S_lret {sc : aSc} {cI : Nat → aF} {F : aF} {pc : Nat} (hr : F.2.2.2 = some .long) (hd : decode F.2.1 pc = .ok (.lreturn, 1)) : aS sc cI F pc j_lret := aS_t fun lo st M x e => by
  unfold j_lret at e
  split at e
  · rename_i v
    cases e
    refine ⟨_, rfl, ?_⟩
    intro p l e R s m args below meth c D cy ad0 M0 hX ad H locs ls ha hW
    obtain ⟨hP, hD, hS, hwf, hl, hvl, hvs⟩ := hW
    have hlocks : meth.locks = false := hX.2.2.1
    exact W.lret hX.1.1 hX.1.2.1 (hX.2.1.trans hr) (fun t ht _ => ⟨⟨ad, ha, rfl, by rw [ht]; exact hP, hD, hwf, fun w e => by cases e; exact vok_j⟩, hS.F ht⟩) hS.2.2 hd
  · cases e
theorem S_aret {sc : aSc} {cI : Nat → aF} {F : aF} {pc : Nat} {rt : FieldType} (hr : F.2.2.2 = some rt) (hrt : (∃ n, rt = .object n) ∨ ∃ t, rt = .array t) (hd : decode F.2.1 pc = .ok (.areturn, 1)) : aS sc cI F pc j_aret := aS_t fun lo st M x e => by
  unfold j_aret at e
  split at e
  · rename_i r
    cases e
    refine ⟨_, rfl, ?_⟩
    intro p l e R s m args below meth c D cy ad0 M0 hX ad H locs ls ha hW
    obtain ⟨hP, hD, hS, hwf, hl, hvl, hvs⟩ := hW
    have hlocks : meth.locks = false := hX.2.2.1
    exact W.aret hX.1.1 hX.1.2.1 (hX.2.1.trans hr) hrt (by cases r with | none => exact Or.inl rfl | some a => exact Or.inr ⟨_, rfl⟩) (fun t ht _ => ⟨⟨ad, ha, rfl, by rw [ht]; exact hP, hD, hwf, fun w e => by cases e; exact hvs _ List.mem_cons_self⟩, hS.F ht⟩) hS.2.2 hd
  · cases e
theorem S_vret {sc : aSc} {cI : Nat → aF} {F : aF} {pc : Nat} (hr : F.2.2.2 = none) (hd : decode F.2.1 pc = .ok (.return_, 1)) : aS sc cI F pc j_vret := aS_t fun lo st M x e => by
  unfold j_vret at e
  split at e
  · cases e
    refine ⟨_, rfl, ?_⟩
    intro p l e R s m args below meth c D cy ad0 M0 hX ad H locs ls ha hW
    obtain ⟨hP, hD, hS, hwf, hl, hvl, hvs⟩ := hW
    have hlocks : meth.locks = false := hX.2.2.1
    exact W.vret hX.1.1 hX.1.2.1 (hX.2.1.trans hr) (fun t ht _ => ⟨⟨ad, ha, rfl, by rw [ht]; exact hP, hD, hwf, fun w e => by cases e⟩, hS.F ht⟩) hS.2.2 hd
  · cases e
-- calls
theorem csum_le {ad : Nat → Nat} : ∀ st : List aV, ((st.map (tv ad)).map fun v => v.category).sum = csum st
  | [] => rfl
  | v :: t => by
    rw [List.map_cons, List.map_cons, List.sum_cons, csum_le t, tv_cat]
    rfl
def j_obj (pc' : Nat) : aI := fun lo st M => match st with
  | .inr (.inr (some _)) :: s => bif Nat.ble (csum s) 8 then some (.inl (pc', lo, s, M)) else none
  | _ => none
theorem S_obj {sc : aSc} {cI : Nat → aF} {F : aF} {pc ix : Nat} (h1 : Cond.methodLink F.1.cls ix Lib.objectInit ∈ TB) (h2 : Cond.instanceMethod Lib.objectInit ∈ TB) (h3 : Cond.code Lib.objectInit ⟨#[0xb1]⟩ 1 none ∈ TB) (hd : decode F.2.1 pc = .ok (.invokespecial ix, 3)) : aS sc cI F pc (j_obj (pc + 3)) := aS_n fun lo st M r e => by
  unfold j_obj at e
  split at e
  · rename_i a s
    obtain ⟨g1, g2⟩ := bifE e
    cases g2
    refine ⟨_, _, _, _, rfl, mle_rf, ?_⟩
    intro p l e R s9 m args below meth c D cy ad0 M0 Q hX hn hc hs hG ad H locs ls ha hW
    obtain ⟨hP, hD, hS, hwf, hl, hvl, hvs⟩ := hW
    have hX1 := hX.1
    refine W.objInit hX1.1 hX1.2.1 hX1.2.2.2.1 (hX1.2.2.2.2 _ h1) (hX1.2.2.2.2 _ h2) (hX1.2.2.2.2 _ h3) (g := F0 m pc ls ((.inr (.inr (some a)) :: s : List aV).map (tv ad))) rfl (by rw [hX1.2.2.1]; exact hl.1) rfl hd hX.2.2.2.2.2.2.1 ?_ (hG ad H locs ls ha ⟨hP, hD, hS, hwf, hl, hvl, vok_t hvs⟩)
    have h8 := lv_room (m := m) (pc := pc) (ls := ls) (rest := ((.inr (.inr (some a)) :: s : List aV).map (tv ad))) (st := s.map (tv ad)) (by rw [csum_le]; exact Nat.le_of_ble_eq_true g1)
    exact Nat.le_trans (Nat.add_le_add_right h8 12) hX.2.2.2.2.2.2.2.1
  · cases e
/-- behind a call that ran -/
theorem call_go {F : aF} {pc : Nat} {lo : aL} {st : List aV} {M M' : aM} {rest : List aV} {r : Option aV} {p : Program} {l : Launch} {e : Env} {R : Room} {s : State} {m : MethodId} {args : Array Value} {below : List Frame} {meth : Method} {c : Code} {D : va_G} {cy : Nat → ClassId} {ad0 : Nat → Nat} {M0 : aM} {Q : State → Prop} {ad : Nat → Nat} {H : Heap} {locs : List Loc} {ls : Array Slot} {aa : Array Value}
    (hn0 : mle M0 M) (hn1 : mle M M') (ha : agr (a_n M0) ad0 ad) (hW : aW D cy (aA cy ad0 M0 s) s F.2.2.1 lo st M ad H locs ls) (hrest : ∀ v ∈ rest, vok (a_n M) v)
    (hr : va_Run p l e R s m args below meth c H locs (a_c M - a_c M0) (a_z M - a_z M0) (a_c M' - a_c M) (a_z M' - a_z M) (F0 m pc ls (st.map (tv ad))) (rest.map (tv ad)) (aPost D cy ad M H.size r M' aa) (va_A (wl cy ad M) H.size))
    (hG : aG F p l e R s m args below meth c D cy ad0 M0 Q (pc + 3) lo (psh r rest) M') : W p l e R s m args below meth c H locs (a_c M - a_c M0) (a_z M - a_z M0) Q (F0 m pc ls (st.map (tv ad))) := by
  intro T hT X
  obtain ⟨hP, hD, hS, hwf, hl, hvl, hvs⟩ := hW
  obtain ⟨v, st₀, t, T', L, h0, X', hL, e1, e2, ⟨⟨ad', ha', hv, hP', hD', hwf', hvr⟩, hz, hk⟩, go⟩ := hr T hT X
  rw [h0] at hz hk
  have hv : v = r.map (tv ad') := by injection hv
  have hA : ∀ q : Nat, va_A (wl cy ad M) H.size q → aA cy ad0 M0 s q := fun q h => by
    rcases h with ⟨k, e, he⟩ | h
    · exact hD.2 k (q, e) he
    · exact Or.inr (Nat.le_trans hS.1 h)
  have hl' : lo.map (tq ad') = lo.map (tq ad) := List.map_congr_left (fun x hx => by unfold tq; rw [tv_agr ha' (hvl x hx)])
  have hr' : rest.map (tv ad') = rest.map (tv ad) := List.map_congr_left (fun x hx => tv_agr ha' (hrest x hx))
  have hvp : ∀ w ∈ psh r rest, vok (a_n M') w := by
    cases r with
    | none => exact fun w hw => vok_up hn1.1 (hrest w hw)
    | some x => exact vok_c (hvr x rfl) (fun w hw => vok_up hn1.1 (hrest w hw))
  have hst : (psh r rest).map (tv ad') = v.toList ++ rest.map (tv ad) := by
    rw [hv, ← hr']
    cases r with
    | none => rfl
    | some x => rfl
  have hS' : va_S (aA cy ad0 M0 s) s.heap T'.heap (locs ++ L) := ⟨Nat.le_trans hS.1 (by rw [e1]; exact hz), fun q h1 h2 => by rw [e1, hk q (Nat.lt_of_lt_of_le h1 hS.1) (fun z => h2 (hA q z))]; exact hS.2.1 q h1 h2, fun q hq => by
    rcases List.mem_append.mp hq with h | h
    · exact hS.2.2 q h
    · exact hA _ (hL q h)⟩
  have hw := hG ad' T'.heap (locs ++ L) ls (agr_tr hn0.1 ha ha') ⟨by rw [e1]; exact hP', hD'.weaken (fun _ q _ h => hA q.1 h), hS', hwf', by rw [hl']; exact hl, fun x hx => vok_up hn1.1 (hvl x hx), hvp⟩
  have q1 := hn0.2.1
  have q2 := hn0.2.2
  have q3 := hn1.2.1
  have q4 := hn1.2.2
  rw [hst, show a_c M' - a_c M0 = a_c M - a_c M0 + (a_c M' - a_c M) by omega, show a_z M' - a_z M0 = a_z M - a_z M0 + (a_z M' - a_z M) by omega] at hw
  obtain ⟨t2, a1, b1⟩ := hw T' rfl X'
  exact ⟨t2, go t2 a1, b1⟩
theorem room_ok {M0 M M' : aM} {R : Room} (h0 : mle M0 M) (h1 : mle M M') (hc : a_c M' - a_c M0 ≤ R.cells) (hs : a_z M' - a_z M0 ≤ R.slots) : a_c M - a_c M0 + (a_c M' - a_c M) ≤ R.cells ∧ a_z M - a_z M0 + (a_z M' - a_z M) ≤ R.slots := by
  have q1 := h0.2.1
  have q2 := h0.2.2
  have q3 := h1.2.1
  have q4 := h1.2.2
  exact ⟨by omega, by omega⟩
theorem pre_ok {D : va_G} {cy : Nat → ClassId} {ad ad0 : Nat → Nat} {M M0 : aM} {H : Heap} {s : State} {locs : List Loc} (hP : va_P D vwCl (wl cy ad M) H) (hK : va_K D vwCl (tyK cy) s) (hD : va_D (aA cy ad0 M0 s) (wl cy ad M)) (hS : va_S (aA cy ad0 M0 s) s.heap H locs) (hE : aE ad s) (hZ : aZ cy ad (aA cy ad0 M0 s) s s.heap) : ∀ U : State, U.heap = H → s.WarmedH U.vm → aPre D cy ad M H.size U := fun U hU hW => ⟨by rw [hU], by rw [hU]; exact hP, va_K.moved hW.alike hK, hD.weaken (fun _ _ _ _ => trivial), hE.warm hW, by
  rw [hU]
  refine ((hZ.kept hS.2.1).moved hW.alike).narrow (fun q h => ?_)
  rcases h with ⟨k, e, he⟩ | h
  · exact hD.2 k (q, e) he
  · exact Or.inr (Nat.le_trans hS.1 h)⟩
theorem pre_blind {D : va_G} {cy : Nat → ClassId} {ad : Nat → Nat} {M : aM} {sz : Nat} {As : List Value} : FrameBlind (va_Pc As (aPre D cy ad M sz)) := fun a U g mk q => by
  obtain ⟨q0, q1, qP, qK, qD, qE, qZ⟩ := q
  exact ⟨q0, q1, qP, va_K.moved (u := U) (U := U.calling g mk a) (Vm.Alike.refl U.vm) qK, qD, aE.same (s := U) (U := U.calling g mk a) rfl qE, aZ.moved (u := U) (U := U.calling g mk a) (Vm.Alike.refl U.vm) qZ⟩
theorem good_TB : GoodIn TB TB := fun w h => ⟨h, good_of_word (List.mem_filter.mp h).2⟩
theorem good_c {w : Cond} {ws : List Cond} (hw : w ∈ TB) (h : GoodIn TB ws) : GoodIn TB (w :: ws) := fun x hx => (List.mem_cons.mp hx).elim (fun e => by rw [e]; exact good_TB w hw) (h x)
/-- what is known of a method that is called -/
def aY (G : aF) (n : Nat) : Prop := Cond.code G.1 G.2.1 G.2.2.1 G.2.2.2 ∈ TB ∧ (G.1.cls ≠ "java/lang/invoke/MethodHandle" ∧ G.1.cls ≠ "java/lang/invoke/VarHandle" ∧ (parseMethodDescriptor G.1.desc).map (fun d => d.parameters.length) = some n) ∧ G.2.2.1 ≤ 41 ∧ Cond.initialized G.1.cls ∈ TB ∧ G.1 ≠ yL_law
def j_callv (y ci n mx : Nat) : aI := fun lo st M => match st.drop n with
  | .inr (.inr (some a)) :: rest => bif (Nat.blt a (a_n M) && Nat.beq (a_K M a) ci) && (Nat.ble (csum rest) 8 && (Nat.beq (st.take n).length n && Nat.ble (csum (.inr (.inr (some a)) :: (st.take n).reverse)) mx)) then some (.inr (.inl (y, .inr (.inr (some a)) :: (st.take n).reverse, rest))) else none
  | _ => none
def j_calls (y n mx : Nat) : aI := fun lo st M => bif Nat.ble (csum (st.drop n)) 8 && (Nat.beq (st.take n).length n && Nat.ble (csum (st.take n).reverse) mx) then some (.inr (.inl (y, (st.take n).reverse, st.drop n))) else none
theorem aS_c {sc : aSc} {cI : Nat → aF} {F : aF} {pc : Nat} {f : aI} (h : ∀ lo st M x, f lo st M = some x → ∃ y As rest, x = .inr (.inl (y, As, rest)) ∧ csum As ≤ (cI y).2.2.1 ∧ (cI y).1 ≠ yL_law ∧ aC sc F (cI y) pc lo st M As rest) : aS sc cI F pc f := by
  intro lo st M
  refine ⟨fun pc' lo' st' M' e => ?_, fun y As rest e => ?_, fun r e => ?_⟩
  · obtain ⟨_, _, _, e1, e2⟩ := h lo st M _ e
    cases e1
  · obtain ⟨_, _, _, e1, e2⟩ := h lo st M _ e
    cases e1
    exact e2
  · obtain ⟨_, _, _, e1, e2⟩ := h lo st M _ e
    cases e1
theorem callv_c {y ci n mx : Nat} {lo : aL} {st : List aV} {M : aM} {x : aR} (e : j_callv y ci n mx lo st M = some x) : ∃ a As rest, st = As.reverse ++ .inr (.inr (some a)) :: rest ∧ As.length = n ∧ a < a_n M ∧ a_K M a = ci ∧ csum rest ≤ 8 ∧ csum (.inr (.inr (some a)) :: As) ≤ mx ∧ x = .inr (.inl (y, .inr (.inr (some a)) :: As, rest)) := by
  unfold j_callv at e
  split at e
  · rename_i a rest hd
    obtain ⟨h12, h34, h5⟩ := bandE e (by simp)
    obtain ⟨h1, h2⟩ := (Bool.and_eq_true _ _).mp h12
    obtain ⟨h3, h4⟩ := (Bool.and_eq_true _ _).mp h34
    obtain ⟨h4, h6⟩ := (Bool.and_eq_true _ _).mp h4
    exact ⟨a, (st.take n).reverse, rest, by rw [List.reverse_reverse, ← hd, List.take_append_drop], by rw [List.length_reverse]; exact nbT h4, blt_lt h1, nbT h2, Nat.le_of_ble_eq_true h3, Nat.le_of_ble_eq_true h6, Option.some.inj h5⟩
  · cases e
theorem calls_c {y n mx : Nat} {lo : aL} {st : List aV} {M : aM} {x : aR} (e : j_calls y n mx lo st M = some x) : ∃ As rest, st = As.reverse ++ rest ∧ As.length = n ∧ csum rest ≤ 8 ∧ csum As ≤ mx ∧ x = .inr (.inl (y, As, rest)) := by
  unfold j_calls at e
  obtain ⟨h3, h4, h5⟩ := bandE e (by simp)
  obtain ⟨h4, h6⟩ := (Bool.and_eq_true _ _).mp h4
  exact ⟨(st.take n).reverse, st.drop n, by rw [List.reverse_reverse, List.take_append_drop], by rw [List.length_reverse]; exact nbT h4, Nat.le_of_ble_eq_true h3, Nat.le_of_ble_eq_true h6, Option.some.inj h5⟩
theorem hR_ok {d : Nat} {maxL : Nat} {R : Room} (hm : maxL ≤ 41) (h1 : d + 2 ≤ R.frames) (h2 : 60 * (d + 1) + 20 ≤ R.locals) : d + 1 + 1 ≤ R.frames ∧ 8 + (maxL + 11) + (60 * d + 20) ≤ R.locals := ⟨h1, by omega⟩
theorem vok_app1 {n : Nat} {a b : List aV} (h : ∀ v ∈ a.reverse ++ b, vok n v) : (∀ v ∈ a, vok n v) ∧ ∀ v ∈ b, vok n v := ⟨fun v hv => h v (List.mem_append_left _ (List.mem_reverse.mpr hv)), fun v hv => h v (List.mem_append_right _ hv)⟩
theorem S_callv {sc : aSc} {cI : Nat → aF} {F : aF} {pc ix y ci n mx : Nat} {C : String} {T : u_T} {N : Nat} {ty : Nat → FieldType} (K : aKl ci C T N ty) (hC : (cI y).1.cls = C) (hy : aY (cI y) n) (h1 : Cond.methodLink F.1.cls ix (cI y).1 ∈ TB) (h2 : Cond.instanceMethod (cI y).1 ∈ TB) (h3 : Cond.selects C (cI y).1 (cI y).1 ∈ TB) (hmx : mx ≤ (cI y).2.2.1) (hd : decode F.2.1 pc = .ok (.invokevirtual ix, 3)) : aS sc cI F pc (j_callv y ci n mx) := aS_c fun lo st M x e => by
  obtain ⟨a, As, rest, rfl, hlen, ha9, hk9, hcs, hca, rfl⟩ := callv_c e
  refine ⟨_, _, _, rfl, Nat.le_trans hca hmx, hy.2.2.2.2, ?_⟩
  intro p l e R s m args below meth c D cy ad0 M0 Q d r M' hX hn0 hn1 hc hs hf hlo hMet hG ad H locs ls ha hW
  have hW9 := hW
  obtain ⟨hP, hD, hS, hwf, hl, hvl, hvs⟩ := hW
  obtain ⟨hv1, hv2⟩ := vok_app1 hvs
  have hMt := hMet ad H.size hwf (vok_c (hv2 _ List.mem_cons_self) hv1)
  have hCI : Cond.initialized C ∈ TB := hC ▸ hy.2.2.2.1
  have he := wl_at (cy := cy) (ad := ad) ha9
  rw [wE_obj hk9 K.2.1] at he
  refine call_go (aa := (Value.ref (ad a) :: As.map (tv ad)).toArray) hn0 hn1 ha hW9 (vok_t hv2) ?_ hG
  exact va_runV (As := As.map (tv ad)) (b := ad a) (C := C) hX.1 hMt
    (cwV n hX.1.2.2.2.2 (good_c h1 (good_c h2 (good_c h3 (good_c hCI (good_c hy.1 good_TB))))) rfl rfl rfl ⟨hC, hy.2.1⟩ (hR_ok hy.2.2.1 hf hlo))
    ⟨pre_blind, va_recv hX.2.2.2.2.1 hP K.1 he, fun U hU hW => ⟨rfl, pre_ok hP hX.2.2.2.2.1 hD hS (hX.2.2.2.2.2.1.agr ha) (hX.2.2.2.2.2.2.2.2.1.agr ha) U hU hW⟩⟩
    rfl (by rw [List.length_map]; exact hlen) hl.1 (by show List.map _ _ = _; rw [List.map_append, List.map_reverse]; rfl) (lv_room (by rw [csum_le]; exact hcs)) hd (room_ok hn0 hn1 hc hs)
theorem S_calls {sc : aSc} {cI : Nat → aF} {F : aF} {pc ix y n mx : Nat} (hy : aY (cI y) n) (h1 : Cond.methodLink F.1.cls ix (cI y).1 ∈ TB) (h2 : Cond.static (cI y).1 ∈ TB) (hmx : mx ≤ (cI y).2.2.1) (hd : decode F.2.1 pc = .ok (.invokestatic ix, 3)) : aS sc cI F pc (j_calls y n mx) := aS_c fun lo st M x e => by
  obtain ⟨As, rest, rfl, hlen, hcs, hca, rfl⟩ := calls_c e
  refine ⟨_, _, _, rfl, Nat.le_trans hca hmx, hy.2.2.2.2, ?_⟩
  intro p l e R s m args below meth c D cy ad0 M0 Q d r M' hX hn0 hn1 hc hs hf hlo hMet hG ad H locs ls ha hW
  have hW9 := hW
  obtain ⟨hP, hD, hS, hwf, hl, hvl, hvs⟩ := hW
  obtain ⟨hv1, hv2⟩ := vok_app1 hvs
  have hMt := hMet ad H.size hwf hv1
  refine call_go (aa := (As.map (tv ad)).toArray) hn0 hn1 ha hW9 hv2 ?_ hG
  exact va_runS (As := As.map (tv ad)) hX.1 hMt
    (va_cwS n hX.1.2.2.2.2 (good_c h1 (good_c h2 (good_c hy.2.2.2.1 (good_c hy.1 good_TB)))) rfl rfl rfl hy.2.1 (hR_ok hy.2.2.1 hf hlo))
    ⟨pre_blind, fun U hU hW => ⟨rfl, pre_ok hP hX.2.2.2.2.1 hD hS (hX.2.2.2.2.2.1.agr ha) (hX.2.2.2.2.2.2.2.2.1.agr ha) U hU hW⟩⟩
    rfl (by rw [List.length_map]; exact hlen) hl.1 (by show List.map _ _ = _; rw [List.map_append, List.map_reverse]) (lv_room (by rw [csum_le]; exact hcs)) hd (room_ok hn0 hn1 hc hs)
theorem S_callsN {sc : aSc} {cI : Nat → aF} {F : aF} {pc ix y n mx : Nat} {host : String} (hy : aY (cI y) n) (h1 : Cond.methodLinkNest F.1.cls ix (cI y).1 host ∈ NW) (h2 : Cond.static (cI y).1 ∈ TB) (hmx : mx ≤ (cI y).2.2.1) (hd : decode F.2.1 pc = .ok (.invokestatic ix, 3)) : aS sc cI F pc (j_calls y n mx) := aS_c fun lo st M x e => by
  obtain ⟨As, rest, rfl, hlen, hcs, hca, rfl⟩ := calls_c e
  refine ⟨_, _, _, rfl, Nat.le_trans hca hmx, hy.2.2.2.2, ?_⟩
  intro p l e R s m args below meth c D cy ad0 M0 Q d r M' hX hn0 hn1 hc hs hf hlo hMet hG ad H locs ls ha hW
  have hW9 := hW
  obtain ⟨hP, hD, hS, hwf, hl, hvl, hvs⟩ := hW
  obtain ⟨hv1, hv2⟩ := vok_app1 hvs
  have hMt := hMet ad H.size hwf hv1
  refine call_go (aa := (As.map (tv ad)).toArray) hn0 hn1 ha hW9 hv2 ?_ hG
  exact va_runSN (As := As.map (tv ad)) hX.1 hMt
    ⟨va_cnB n hX.1.2.2.2.2 (good_c hy.1 good_TB) rfl rfl rfl (hX.2.2.2.2.2.1.2.1 _ h1) (hX.1.2.2.2.2 _ hy.2.2.2.1) hy.2.1 (hR_ok hy.2.2.1 hf hlo), hX.1.2.2.2.2 _ h2, trivial⟩
    ⟨pre_blind, fun U hU hW => ⟨rfl, pre_ok hP hX.2.2.2.2.1 hD hS (hX.2.2.2.2.2.1.agr ha) (hX.2.2.2.2.2.2.2.2.1.agr ha) U hU hW⟩⟩
    rfl (by rw [List.length_map]; exact hlen) hl.1 (by show List.map _ _ = _; rw [List.map_append, List.map_reverse]) (lv_room (by rw [csum_le]; exact hcs)) hd (room_ok hn0 hn1 hc hs)
theorem S_calli {sc : aSc} {cI : Nat → aF} {F : aF} {pc ix y ci n mx : Nat} (hy : aY (cI y) n) (hr : (cI y).2.2.2 = none) (hi : (cI y).1.name = "<init>") (h1 : Cond.methodLink F.1.cls ix (cI y).1 ∈ TB) (h2 : Cond.instanceMethod (cI y).1 ∈ TB) (hmx : mx ≤ (cI y).2.2.1) (hd : decode F.2.1 pc = .ok (.invokespecial ix, 3)) : aS sc cI F pc (j_callv y ci n mx) := aS_c fun lo st M x e => by
  obtain ⟨a, As, rest, rfl, hlen, ha9, hk9, hcs, hca, rfl⟩ := callv_c e
  refine ⟨_, _, _, rfl, Nat.le_trans hca hmx, hy.2.2.2.2, ?_⟩
  intro p l e R s m args below meth c D cy ad0 M0 Q d r M' hX hn0 hn1 hc hs hf hlo hMet hG ad H locs ls ha hW
  have hW9 := hW
  obtain ⟨hP, hD, hS, hwf, hl, hvl, hvs⟩ := hW
  obtain ⟨hv1, hv2⟩ := vok_app1 hvs
  have hMt := hMet ad H.size hwf (vok_c (hv2 _ List.mem_cons_self) hv1)
  refine call_go (aa := (Value.ref (ad a) :: As.map (tv ad)).toArray) hn0 hn1 ha hW9 (vok_t hv2) ?_ hG
  exact va_runI (As := As.map (tv ad)) (b := ad a) hX.1 hMt
    (cwI n hX.1.2.2.2.2 (good_c hy.1 good_TB) (by rw [hr]) rfl rfl (hX.1.2.2.2.2 _ hy.2.2.2.1) (hX.1.2.2.2.2 _ h1) (hX.1.2.2.2.2 _ h2) hi hy.2.1 (hR_ok hy.2.2.1 hf hlo))
    ⟨pre_blind, fun U hU hW => ⟨rfl, pre_ok hP hX.2.2.2.2.1 hD hS (hX.2.2.2.2.2.1.agr ha) (hX.2.2.2.2.2.2.2.2.1.agr ha) U hU hW⟩⟩
    rfl (by rw [List.length_map]; exact hlen) hl.1 (by show List.map _ _ = _; rw [List.map_append, List.map_reverse]; rfl) (lv_room (by rw [csum_le]; exact hcs)) hd (room_ok hn0 hn1 hc hs)
theorem S_calliN {sc : aSc} {cI : Nat → aF} {F : aF} {pc ix y ci n mx : Nat} {host : String} (hy : aY (cI y) n) (hr : (cI y).2.2.2 = none) (hi : (cI y).1.name = "<init>") (h1 : Cond.methodLinkNest F.1.cls ix (cI y).1 host ∈ NW) (h2 : Cond.instanceMethod (cI y).1 ∈ TB) (hmx : mx ≤ (cI y).2.2.1) (hd : decode F.2.1 pc = .ok (.invokespecial ix, 3)) : aS sc cI F pc (j_callv y ci n mx) := aS_c fun lo st M x e => by
  obtain ⟨a, As, rest, rfl, hlen, ha9, hk9, hcs, hca, rfl⟩ := callv_c e
  refine ⟨_, _, _, rfl, Nat.le_trans hca hmx, hy.2.2.2.2, ?_⟩
  intro p l e R s m args below meth c D cy ad0 M0 Q d r M' hX hn0 hn1 hc hs hf hlo hMet hG ad H locs ls ha hW
  have hW9 := hW
  obtain ⟨hP, hD, hS, hwf, hl, hvl, hvs⟩ := hW
  obtain ⟨hv1, hv2⟩ := vok_app1 hvs
  have hMt := hMet ad H.size hwf (vok_c (hv2 _ List.mem_cons_self) hv1)
  refine call_go (aa := (Value.ref (ad a) :: As.map (tv ad)).toArray) hn0 hn1 ha hW9 (vok_t hv2) ?_ hG
  exact va_runIN (As := As.map (tv ad)) (b := ad a) hX.1 hMt
    ⟨va_cnB n hX.1.2.2.2.2 (good_c hy.1 good_TB) (by rw [hr]) rfl rfl (hX.2.2.2.2.2.1.2.1 _ h1) (hX.1.2.2.2.2 _ hy.2.2.2.1) hy.2.1 (hR_ok hy.2.2.1 hf hlo), hi, hX.1.2.2.2.2 _ h2⟩
    ⟨pre_blind, fun U hU hW => ⟨rfl, pre_ok hP hX.2.2.2.2.1 hD hS (hX.2.2.2.2.2.1.agr ha) (hX.2.2.2.2.2.2.2.2.1.agr ha) U hU hW⟩⟩
    rfl (by rw [List.length_map]; exact hlen) hl.1 (by show List.map _ _ = _; rw [List.map_append, List.map_reverse]; rfl) (lv_room (by rw [csum_le]; exact hcs)) hd (room_ok hn0 hn1 hc hs)

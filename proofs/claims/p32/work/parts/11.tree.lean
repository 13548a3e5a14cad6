/-! Tables as trees. -/
theorem S_ldcw {sc : aSc} {cI : Nat → aF} {F : aF} {pc : Nat} {i : Nat} {x : Int32} (hw : Cond.constant F.1.cls i x ∈ TB) (hd : decode F.2.1 pc = .ok (.ldc_w i, 3)) : aS sc cI F pc (j_c (pc + 3) x) := aS_n fun lo st M r e => by
  cases e
  exact ⟨_, _, _, _, rfl, aN_st (fun _ h _ => vok_c vok_i h) (fun p l e R s m args below meth c H locs cells slots Q ls ad C hl k => lv_ldcw C.1 C.2.1 C.2.2.2.1 (C.2.2.2.2 _ hw) hd k)⟩
theorem dfl {l : List Nat} {ty : Nat → FieldType} (h : ∀ j, j < l.length → defaultValue (ty j) = dfv (l.getD j 0)) : ∀ j t, l[j]? = some t → defaultValue (ty j) = dfv t := fun j t e => by
  have hj := (List.getElem?_eq_some_iff.mp e).1
  rw [h j hj, List.getD_eq_getElem?_getD, e]
  rfl
def tr (k : Nat) (a b : Nat → Option aI) : Nat → Option aI := fun pc => bif Nat.blt pc k then a pc else b pc
def lf (k : Nat) (i : aI) : Nat → Option aI := fun pc => bif Nat.beq pc k then some i else none
def aSC (sc : aSc) (cI : Nat → aF) (F : aF) (t : Nat → Option aI) : Prop := ∀ pc i, t pc = some i → aS sc cI F pc i
theorem sc_lf {sc : aSc} {cI : Nat → aF} {F : aF} {k : Nat} {i : aI} (h : aS sc cI F k i) : aSC sc cI F (lf k i) := fun pc j e => by
  unfold lf at e
  obtain ⟨h1, h2⟩ := bifE e
  rw [h2, nbT h1]
  exact h
theorem sc_tr {sc : aSc} {cI : Nat → aF} {F : aF} {k : Nat} {a b : Nat → Option aI} (ha : aSC sc cI F a) (hb : aSC sc cI F b) : aSC sc cI F (tr k a b) := fun pc j e => by
  unfold tr at e
  cases h : Nat.blt pc k with
  | true => rw [h] at e; exact ha pc j e
  | false => rw [h] at e; exact hb pc j e
def tm (k : Nat) (a b : Nat → Nat → Option aI) : Nat → Nat → Option aI := fun m pc => bif Nat.blt m k then a m pc else b m pc
def lm (k : Nat) (t : Nat → Option aI) : Nat → Nat → Option aI := fun m pc => bif Nat.beq m k then t pc else none
def aSD (sc : aSc) (cI : Nat → aF) (t : Nat → Nat → Option aI) : Prop := ∀ m pc i, t m pc = some i → aS sc cI (cI m) pc i ∧ plainFor (cI m).1 = true
theorem sd_lm {sc : aSc} {cI : Nat → aF} {F : aF} {k : Nat} {t : Nat → Option aI} (hF : cI k = F) (h : aSC sc cI F t) (hp : plainFor F.1 = true) : aSD sc cI (lm k t) := fun m pc i e => by
  unfold lm at e
  cases hb : Nat.beq m k with
  | false => rw [hb] at e; cases e
  | true =>
    rw [hb] at e
    rw [nbT hb, hF]
    exact ⟨h pc i e, hp⟩
theorem sd_tm {sc : aSc} {cI : Nat → aF} {k : Nat} {a b : Nat → Nat → Option aI} (ha : aSD sc cI a) (hb : aSD sc cI b) : aSD sc cI (tm k a b) := fun m pc j e => by
  unfold tm at e
  cases h : Nat.blt m k with
  | true => rw [h] at e; exact ha m pc j e
  | false => rw [h] at e; exact hb m pc j e
theorem S_callv2 {sc : aSc} {cI : Nat → aF} {F G : aF} {pc ix y ci n mx : Nat} {C : String} {T : u_T} {N : Nat} {ty : Nat → FieldType} (hG : cI y = G) (K : aKl ci C T N ty) (hC : G.1.cls = C) (hy : aY G n) (h1 : Cond.methodLink F.1.cls ix G.1 ∈ TB) (h2 : Cond.instanceMethod G.1 ∈ TB) (h3 : Cond.selects C G.1 G.1 ∈ TB) (hmx : mx ≤ G.2.2.1) (hd : decode F.2.1 pc = .ok (.invokevirtual ix, 3)) : aS sc cI F pc (j_callv y ci n mx) := by
  subst hG
  exact S_callv K hC hy h1 h2 h3 hmx hd
theorem S_calls2 {sc : aSc} {cI : Nat → aF} {F G : aF} {pc ix y n mx : Nat} (hG : cI y = G) (hy : aY G n) (h1 : Cond.methodLink F.1.cls ix G.1 ∈ TB) (h2 : Cond.static G.1 ∈ TB) (hmx : mx ≤ G.2.2.1) (hd : decode F.2.1 pc = .ok (.invokestatic ix, 3)) : aS sc cI F pc (j_calls y n mx) := by
  subst hG
  exact S_calls hy h1 h2 hmx hd
theorem S_callsN2 {sc : aSc} {cI : Nat → aF} {F G : aF} {pc ix y n mx : Nat} {host : String} (hG : cI y = G) (hy : aY G n) (h1 : Cond.methodLinkNest F.1.cls ix G.1 host ∈ NW) (h2 : Cond.static G.1 ∈ TB) (hmx : mx ≤ G.2.2.1) (hd : decode F.2.1 pc = .ok (.invokestatic ix, 3)) : aS sc cI F pc (j_calls y n mx) := by
  subst hG
  exact S_callsN hy h1 h2 hmx hd
theorem S_calli2 {sc : aSc} {cI : Nat → aF} {F G : aF} {pc ix y ci n mx : Nat} (hG : cI y = G) (hy : aY G n) (hr : G.2.2.2 = none) (hi : G.1.name = "<init>") (h1 : Cond.methodLink F.1.cls ix G.1 ∈ TB) (h2 : Cond.instanceMethod G.1 ∈ TB) (hmx : mx ≤ G.2.2.1) (hd : decode F.2.1 pc = .ok (.invokespecial ix, 3)) : aS sc cI F pc (j_callv y ci n mx) := by
  subst hG
  exact S_calli hy hr hi h1 h2 hmx hd
theorem S_calliN2 {sc : aSc} {cI : Nat → aF} {F G : aF} {pc ix y ci n mx : Nat} {host : String} (hG : cI y = G) (hy : aY G n) (hr : G.2.2.2 = none) (hi : G.1.name = "<init>") (h1 : Cond.methodLinkNest F.1.cls ix G.1 host ∈ NW) (h2 : Cond.instanceMethod G.1 ∈ TB) (hmx : mx ≤ G.2.2.1) (hd : decode F.2.1 pc = .ok (.invokespecial ix, 3)) : aS sc cI F pc (j_callv y ci n mx) := by
  subst hG
  exact S_calliN hy hr hi h1 h2 hmx hd

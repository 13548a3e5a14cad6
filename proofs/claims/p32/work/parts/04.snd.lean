/-! What it means that an instruction of the abstract machine is the machine's own. -/
/-- the script: how long, and what is in it -/
abbrev aSc : Type := Nat × (Nat → Int32) × Bool
abbrev aXS : Nat := aSB + 900000
abbrev aF : Type := MethodName × ByteArray × Nat × Option FieldType
def aStr (ad : Nat → Nat) (U : State) : Prop := ∀ q ∈ strT, vk_R q.1 q.2.1 q.2.2.1 (ad (aSB + q.2.2.2)) U
abbrev aNSE : String := "java/util/NoSuchElementException"
/-- what else a state says of the tables -/
def aNst (U : State) : Prop := (∀ w ∈ NW, w.before #[] U = true) ∧ va_AO "DeepHole$Bit" U ∧ va_AOA .int U ∧ va_Nw (.castable aNSE aNSE) U
def aE (ad : Nat → Nat) (U : State) : Prop := aStr ad U ∧ aNst U
theorem nest_warm {w : Cond} (hw : isNest w = true) {s U : State} (hW : s.WarmedH U.vm) (h : w.before #[] s = true) : w.before #[] U = true := by
  cases w
  all_goals first | exact va_Nw.warmF hW h | exact va_Nw.warmM hW h | exact va_Nw.warmC hW h | exact va_Nw.warmD hW h | exact Bool.noConfusion hw
theorem nest_same {w : Cond} (hw : isNest w = true) {s U : State} (hv : s.vm = U.vm) (h : w.before #[] s = true) : w.before #[] U = true := by
  cases w
  all_goals first | exact Bool.noConfusion hw | exact va_Nw.same rfl hv h
theorem nest_use {w : Cond} (hw : isNest w = true) {s : State} {A : Array Value} (h : w.before #[] s = true) : w.before A s = true := by
  cases w
  all_goals first | exact Bool.noConfusion hw | exact va_Nw.use rfl h
theorem aNst.nest {s : State} (h : aNst s) {w : Cond} (hw : w ∈ NW) {A : Array Value} : w.before A s = true := nest_use (List.mem_filter.mp hw).2 (h.1 w hw)
theorem va_AOA.moved {t : FieldType} {u U : State} (hvm : u.vm.Alike U.vm) (h : va_AOA t u) : va_AOA t U := by
  obtain ⟨comp, c, k, h1, h2, h3, h4, h5⟩ := arrayOverA_spec h
  obtain ⟨k', hk', he⟩ := hvm.2.2 _ _ h3
  have e2 : (U.vm.classes.findIdx? fun (x : Class) => match x.kind with | .array component _ => component == comp | _ => false) = some c := by
    have b1 := va_idx_bare U.vm comp
    have b2 := va_idx_bare u.vm comp
    have b3 : U.vm.bare = u.vm.bare := by first | exact hvm.bare_eq | exact hvm.bare_eq.symm
    rw [b3] at b1
    exact b1.symm.trans (b2.trans h2)
  have e4 : k'.kind = .array comp (.array t) := by rw [he]; exact h4
  have e1 : U.vm.findClass (FieldType.array t).toString = some comp := by rw [hvm.findClass]; exact h1
  have e5 : U.vm.findClass ("[" ++ (FieldType.array t).toString) = some c := by rw [hvm.findClass]; exact h5
  unfold va_AOA Cond.before Cond.holds
  simp only [Cond.value]
  rw [e1, Option.bind_some]
  refine (congrArg (fun o : Option Nat => (o.bind (fun c => (U.vm.classes[c]?).map fun (k : Class) => match k.kind with | .array _ ty => decide (ty = FieldType.array t) && decide (U.vm.findClass ("[" ++ (FieldType.array t).toString) = some c) | _ => false) == some true)) e2).trans ?_
  simp [hk', e4, e5]
theorem aE.warm {ad : Nat → Nat} {s U : State} (hW : s.WarmedH U.vm) (h : aE ad s) : aE ad U :=
  ⟨fun q hq => (h.1 q hq).warm hW, fun w hw => nest_warm (List.mem_filter.mp hw).2 hW (h.2.1 w hw), h.2.2.1.moved hW.alike, h.2.2.2.1.moved hW.alike, va_Nw.warmC hW h.2.2.2.2⟩
theorem aE.same {ad : Nat → Nat} {s U : State} (hv : s.vm = U.vm) (h : aE ad s) : aE ad U :=
  ⟨fun q hq => (h.1 q hq).same hv.symm, fun w hw => nest_same (List.mem_filter.mp hw).2 hv (h.2.1 w hw), h.2.2.1.moved (by rw [hv]; exact Vm.Alike.refl _), h.2.2.2.1.moved (by rw [hv]; exact Vm.Alike.refl _), va_Nw.same rfl hv h.2.2.2.2⟩
theorem aE.agr {n : Nat} {ad ad' : Nat → Nat} {s : State} (ha : agr n ad ad') (h : aE ad s) : aE ad' s := ⟨fun q hq => by rw [ha _ (Or.inr (Nat.le_add_right _ _))]; exact h.1 q hq, h.2⟩
/-- a text's bytes -/
def sby (tx : String) (j : Nat) : Int32 := nI ((tx.toList.getD j ' ').toNat)
/-- the texts as they lie; a text's bytes have the text's number and 400000 -/
def aTx (ad : Nat → Nat) (A : Nat → Prop) (U : State) (H : Heap) : Prop := ∀ q ∈ strT, va_O "java/lang/String" (ad (aSB + q.2.2.2)) A U H ∧ va_OF "java/lang/String" "coder" "B" (.int 0) (ad (aSB + q.2.2.2)) A U H ∧ va_OF "java/lang/String" "value" "[B" (.ref (ad (aSB + (400000 + q.2.2.2)))) (ad (aSB + q.2.2.2)) A U H ∧ va_T .byte (ad (aSB + (400000 + q.2.2.2))) q.2.2.1.length (fun j => .int (sby q.2.2.1 j)) A U H
/-- whether the formatter is null stands in cy -/
def cyz (cy : Nat → ClassId) : Bool := Nat.beq (cy 77) (cy 14)
def sioV (cy : Nat → ClassId) (ad : Nat → Nat) : Value := bif cyz cy then .null else .ref (ad (aSB + 800000))
/-- the statics that a throw and the texts' methods read, and the texts -/
def aZ (cy : Nat → ClassId) (ad : Nat → Nat) (A : Nat → Prop) (U : State) (H : Heap) : Prop := (vx_Zq Bundle.tN "UNASSIGNED_STACK" Bundle.steD A U H ∧ vx_Zq Bundle.tN "SUPPRESSED_SENTINEL" Bundle.listD A U H) ∧ aTx ad A U H ∧ va_Z "java/lang/String" "COMPACT_STRINGS" "Z" (.int 1) A U H ∧ va_Z "jdk/internal/util/Preconditions" "SIOOBE_FORMATTER" "Ljava/util/function/BiFunction;" (sioV cy ad) A U H
theorem aZ.moved {cy : Nat → ClassId} {ad : Nat → Nat} {A : Nat → Prop} {u U : State} {H : Heap} (hvm : u.vm.Alike U.vm) (h : aZ cy ad A u H) : aZ cy ad A U H := ⟨⟨h.1.1.moved hvm, h.1.2.moved hvm⟩, fun q hq => by
  obtain ⟨h1, h2, h3, h4⟩ := h.2.1 q hq
  exact ⟨h1.moved hvm, h2.moved hvm, h3.moved hvm, h4.moved hvm⟩, h.2.2.1.moved hvm, h.2.2.2.moved hvm⟩
theorem aZ.kept {cy : Nat → ClassId} {ad : Nat → Nat} {A : Nat → Prop} {U : State} {H H1 : Heap} (h : aZ cy ad A U H) (hq : ∀ a : Nat, a < H.size → ¬ A a → H1[a]? = H[a]?) : aZ cy ad A U H1 := ⟨⟨h.1.1.kept hq, h.1.2.kept hq⟩, fun q hq9 => by
  obtain ⟨h1, h2, h3, h4⟩ := h.2.1 q hq9
  exact ⟨h1.kept hq, h2.kept hq, h3.kept hq, h4.kept hq⟩, h.2.2.1.kept hq, h.2.2.2.kept hq⟩
theorem aZ.narrow {cy : Nat → ClassId} {ad : Nat → Nat} {A B : Nat → Prop} {U : State} {H : Heap} (h : aZ cy ad A U H) (hAB : ∀ q, B q → A q) : aZ cy ad B U H := ⟨⟨h.1.1.narrow hAB, h.1.2.narrow hAB⟩, fun q hq9 => by
  obtain ⟨h1, h2, h3, h4⟩ := h.2.1 q hq9
  exact ⟨h1.narrow hAB, h2.narrow hAB, h3.narrow hAB, h4.narrow hAB⟩, h.2.2.1.narrow hAB, h.2.2.2.narrow hAB⟩
theorem aZ.agr {n : Nat} {cy : Nat → ClassId} {ad ad' : Nat → Nat} {A : Nat → Prop} {U : State} {H : Heap} (ha : agr n ad ad') (h : aZ cy ad A U H) : aZ cy ad' A U H := ⟨h.1, fun q hq => by
  rw [ha _ (Or.inr (Nat.le_add_right _ _)), ha _ (Or.inr (Nat.le_add_right _ _))]
  exact h.2.1 q hq, h.2.2.1, by
  have e : sioV cy ad' = sioV cy ad := by
    unfold sioV
    rw [ha _ (Or.inr (Nat.le_add_right _ _))]
  rw [e]
  exact h.2.2.2⟩
def aA (cy : Nat → ClassId) (ad0 : Nat → Nat) (M0 : aM) (s : State) : Nat → Prop := va_A (wl cy ad0 M0) s.heap.size
def aX (sc : aSc) (l : Launch) (F : aF) (p : Program) (R : Room) (s : State) (m : MethodId) (args : Array Value) (meth : Method) (c : Code) (D : va_G) (cy : Nat → ClassId) (ad0 : Nat → Nat) (M0 : aM) : Prop :=
  CallFix p m c F.2.1 F.2.2.1 s args TB F.1.cls ∧ meth.sig.returnType = F.2.2.2 ∧ meth.locks = false ∧ (F.1.name = "<init>" → meth.name = "<init>") ∧ va_K D vwCl (tyK cy) s ∧ aE ad0 s ∧ 1 ≤ R.frames ∧ 20 ≤ R.locals ∧ aZ cy ad0 (aA cy ad0 M0 s) s s.heap ∧ sc.2.2 = cyz cy ∧ (F.1 = yL_law → va_X (ad0 aXS) sc.1 sc.2.1 s s.heap ∧ ad0 aXS < s.heap.size ∧ ¬ aA cy ad0 M0 s (ad0 aXS) ∧ l.stackTraces = false ∧ 100 ≤ R.frames ∧ 8000 ≤ R.locals)
def aW (D : va_G) (cy : Nat → ClassId) (A : Nat → Prop) (s : State) (nL : Nat) (lo : aL) (st : List aV) (M : aM) (ad : Nat → Nat) (H : Heap) (locs : List Loc) (ls : Array Slot) : Prop :=
  va_P D vwCl (wl cy ad M) H ∧ va_D A (wl cy ad M) ∧ va_S A s.heap H locs ∧ wf M ∧ lv_has ls nL (lo.map (tq ad)) ∧ (∀ q ∈ lo, vok (a_n M) q.2) ∧ (∀ v ∈ st, vok (a_n M) v)
def aG (F : aF) (p : Program) (l : Launch) (e : Env) (R : Room) (s : State) (m : MethodId) (args : Array Value) (below : List Frame) (meth : Method) (c : Code) (D : va_G) (cy : Nat → ClassId) (ad0 : Nat → Nat) (M0 : aM) (Q : State → Prop) (pc : Nat) (lo : aL) (st : List aV) (M : aM) : Prop :=
  ∀ (ad : Nat → Nat) (H : Heap) (locs : List Loc) (ls : Array Slot), agr (a_n M0) ad0 ad → aW D cy (aA cy ad0 M0 s) s F.2.2.1 lo st M ad H locs ls → W p l e R s m args below meth c H locs (a_c M - a_c M0) (a_z M - a_z M0) Q (F0 m pc ls (st.map (tv ad)))
def aN (sc : aSc) (F : aF) (pc : Nat) (lo : aL) (st : List aV) (M : aM) (pc' : Nat) (lo' : aL) (st' : List aV) (M' : aM) : Prop :=
  mle M M' ∧ ∀ (p : Program) (l : Launch) (e : Env) (R : Room) (s : State) (m : MethodId) (args : Array Value) (below : List Frame) (meth : Method) (c : Code) (D : va_G) (cy : Nat → ClassId) (ad0 : Nat → Nat) (M0 : aM) (Q : State → Prop),
    aX sc l F p R s m args meth c D cy ad0 M0 → mle M0 M → a_c M' - a_c M0 ≤ R.cells → a_z M' - a_z M0 ≤ R.slots →
    aG F p l e R s m args below meth c D cy ad0 M0 Q pc' lo' st' M' → aG F p l e R s m args below meth c D cy ad0 M0 Q pc lo st M
def aPre (D : va_G) (cy : Nat → ClassId) (ad : Nat → Nat) (M : aM) (sz : Nat) (U : State) : Prop := U.heap.size = sz ∧ va_P D vwCl (wl cy ad M) U.heap ∧ va_K D vwCl (tyK cy) U ∧ va_D (fun _ => True) (wl cy ad M) ∧ aE ad U ∧ aZ cy ad (va_A (wl cy ad M) sz) U U.heap
def aPost (D : va_G) (cy : Nat → ClassId) (ad : Nat → Nat) (M : aM) (sz : Nat) (r : Option aV) (M' : aM) : Array Value → State → Outcome → State → Prop := fun _ st oc t =>
  (∃ ad' : Nat → Nat, agr (a_n M) ad ad' ∧ oc = .returned (r.map (tv ad')) ∧ va_P D vwCl (wl cy ad' M') t.heap ∧ va_D (va_A (wl cy ad M) sz) (wl cy ad' M') ∧ wf M' ∧ ∀ v, r = some v → vok (a_n M') v) ∧ va_F (va_A (wl cy ad M) sz) st t
def aMet (l : Launch) (G : aF) (d : Nat) (D : va_G) (cy : Nat → ClassId) (M : aM) (As : List aV) (r : Option aV) (M' : aM) : Prop :=
  ∀ (ad : Nat → Nat) (sz : Nat), wf M → (∀ v ∈ As, vok (a_n M) v) → Met l G.1 (.code G.1 G.2.1 G.2.2.1 G.2.2.2 :: TB) { frames := d + 1, cells := a_c M' - a_c M, slots := a_z M' - a_z M, locals := 60 * d + 20 }
    (va_Pc (As.map (tv ad)) (aPre D cy ad M sz)) (aPost D cy ad M sz r M') (a_c M' - a_c M) (a_z M' - a_z M) (va_A (wl cy ad M) sz)
def csum : List aV → Nat
  | [] => 0
  | v :: t => cat v + csum t
def psh (r : Option aV) (rest : List aV) : List aV := match r with
  | none => rest
  | some v => v :: rest
def aC (sc : aSc) (F G : aF) (pc : Nat) (lo : aL) (st : List aV) (M : aM) (As rest : List aV) : Prop :=
  ∀ (p : Program) (l : Launch) (e : Env) (R : Room) (s : State) (m : MethodId) (args : Array Value) (below : List Frame) (meth : Method) (c : Code) (D : va_G) (cy : Nat → ClassId) (ad0 : Nat → Nat) (M0 : aM) (Q : State → Prop) (d : Nat) (r : Option aV) (M' : aM),
    aX sc l F p R s m args meth c D cy ad0 M0 → mle M0 M → mle M M' → a_c M' - a_c M0 ≤ R.cells → a_z M' - a_z M0 ≤ R.slots → d + 2 ≤ R.frames → 60 * (d + 1) + 20 ≤ R.locals →
    aMet l G d D cy M As r M' → aG F p l e R s m args below meth c D cy ad0 M0 Q (pc + 3) lo (psh r rest) M' → aG F p l e R s m args below meth c D cy ad0 M0 Q pc lo st M
def aT (sc : aSc) (F : aF) (pc : Nat) (lo : aL) (st : List aV) (M : aM) (r : Option aV) : Prop :=
  ∀ (p : Program) (l : Launch) (e : Env) (R : Room) (s : State) (m : MethodId) (args : Array Value) (below : List Frame) (meth : Method) (c : Code) (D : va_G) (cy : Nat → ClassId) (ad0 : Nat → Nat) (M0 : aM),
    aX sc l F p R s m args meth c D cy ad0 M0 → aG F p l e R s m args below meth c D cy ad0 M0 (MQ below (aPost D cy ad0 M0 s.heap.size r M) args s (a_c M - a_c M0) (a_z M - a_z M0) (aA cy ad0 M0 s)) pc lo st M
def aS (sc : aSc) (cI : Nat → aF) (F : aF) (pc : Nat) (f : aI) : Prop := ∀ (lo : aL) (st : List aV) (M : aM),
  (∀ pc' lo' st' M', f lo st M = some (.inl (pc', lo', st', M')) → aN sc F pc lo st M pc' lo' st' M') ∧
  (∀ y As rest, f lo st M = some (.inr (.inl (y, As, rest))) → csum As ≤ (cI y).2.2.1 ∧ (cI y).1 ≠ yL_law ∧ aC sc F (cI y) pc lo st M As rest) ∧
  (∀ r, f lo st M = some (.inr (.inr r)) → aT sc F pc lo st M r)
/-- a step that touches the stack alone -/
def aH (F : aF) (pc : Nat) (lo : aL) (st : List aV) (pc' : Nat) (st' : List aV) : Prop :=
  ∀ (p : Program) (l : Launch) (e : Env) (R : Room) (s : State) (m : MethodId) (args : Array Value) (below : List Frame) (meth : Method) (c : Code) (H : Heap) (locs : List Loc) (cells slots : Nat) (Q : State → Prop) (ls : Array Slot) (ad : Nat → Nat),
    CallFix p m c F.2.1 F.2.2.1 s args TB F.1.cls → lv_has ls F.2.2.1 (lo.map (tq ad)) → W p l e R s m args below meth c H locs cells slots Q (F0 m pc' ls (st'.map (tv ad))) → W p l e R s m args below meth c H locs cells slots Q (F0 m pc ls (st.map (tv ad)))
theorem aN_st {sc : aSc} {F : aF} {pc : Nat} {lo : aL} {st : List aV} {M : aM} {pc' : Nat} {st' : List aV} (hv : (∀ q ∈ lo, vok (a_n M) q.2) → (∀ v ∈ st, vok (a_n M) v) → wf M → ∀ v ∈ st', vok (a_n M) v) (h : aH F pc lo st pc' st') : aN sc F pc lo st M pc' lo st' M := by
  refine ⟨mle_rf, ?_⟩
  intro p l e R s m args below meth c D cy ad0 M0 Q hX hn hc hs hG ad H locs ls ha hW
  obtain ⟨hP, hD, hS, hwf, hl, hvl, hvs⟩ := hW
  exact h p l e R s m args below meth c H locs _ _ Q ls ad hX.1 hl (hG ad H locs ls ha ⟨hP, hD, hS, hwf, hl, hvl, hv hvl hvs hwf⟩)
/-- an instruction that only goes on -/
theorem aS_n {sc : aSc} {cI : Nat → aF} {F : aF} {pc : Nat} {f : aI} (h : ∀ lo st M x, f lo st M = some x → ∃ pc' lo' st' M', x = .inl (pc', lo', st', M') ∧ aN sc F pc lo st M pc' lo' st' M') : aS sc cI F pc f := by
  intro lo st M
  refine ⟨fun pc' lo' st' M' e => ?_, fun y As rest e => ?_, fun r e => ?_⟩
  · obtain ⟨a, b, c, d, e1, e2⟩ := h lo st M _ e
    cases e1
    exact e2
  · obtain ⟨a, b, c, d, e1, e2⟩ := h lo st M _ e
    cases e1
  · obtain ⟨a, b, c, d, e1, e2⟩ := h lo st M _ e
    cases e1
theorem vok_i {n : Nat} {x : Int32} : vok n (.inl x) := fun j h => by cases h
theorem vok_j {n : Nat} {x : Int64} : vok n (.inr (.inl x)) := fun j h => by cases h
theorem vok_0 {n : Nat} : vok n (.inr (.inr none)) := fun j h => by cases h
def lk (i : Nat) : aL → Option aV
  | [] => none
  | q :: t => bif Nat.beq q.1 i then some q.2 else lk i t
theorem lk_mem {i : Nat} {v : aV} : ∀ {lo : aL}, lk i lo = some v → (i, v) ∈ lo
  | [], h => by simp [lk] at h
  | (k, w) :: t, h => by
    unfold lk at h
    by_cases e : k = i
    · subst e
      simp at h
      subst h
      exact List.mem_cons_self
    · rw [nbF e] at h
      exact List.mem_cons_of_mem _ (lk_mem h)
theorem lk_at {ad : Nat → Nat} {ls : Array Slot} {nL i : Nat} {v : aV} {lo : aL} (h : lk i lo = some v) (hl : lv_has ls nL (lo.map (tq ad))) : ls[i]? = some (.val (tv ad v)) := hl.2.2 (i, tv ad v) (List.mem_map.mpr ⟨(i, v), lk_mem h, rfl⟩)
def j_c (pc' : Nat) (x : Int32) : aI := fun lo st M => some (.inl (pc', lo, .inl x :: st, M))
theorem S_iconst {sc : aSc} {cI : Nat → aF} {F : aF} {pc : Nat} {n : Int} {x : Int32} (hv : Int32.ofInt n = x) (hd : decode F.2.1 pc = .ok (.iconst n, 1)) : aS sc cI F pc (j_c (pc + 1) x) := aS_n fun lo st M r e => by
  cases e
  exact ⟨_, _, _, _, rfl, aN_st (fun _ h _ v hv => (List.mem_cons.mp hv).elim (fun q => q ▸ vok_i) (h v)) (fun p l e R s m args below meth c H locs cells slots Q ls ad C hl k => lv_iconst C.1 C.2.1 hd hv k)⟩
theorem S_bipush {sc : aSc} {cI : Nat → aF} {F : aF} {pc : Nat} {n : Int} {x : Int32} (hv : (Int8.ofInt n).toInt32 = x) (hd : decode F.2.1 pc = .ok (.bipush n, 2)) : aS sc cI F pc (j_c (pc + 2) x) := aS_n fun lo st M r e => by
  cases e
  exact ⟨_, _, _, _, rfl, aN_st (fun _ h _ v hv => (List.mem_cons.mp hv).elim (fun q => q ▸ vok_i) (h v)) (fun p l e R s m args below meth c H locs cells slots Q ls ad C hl k => lv_bipush C.1 C.2.1 hd hv k)⟩
theorem S_sipush {sc : aSc} {cI : Nat → aF} {F : aF} {pc : Nat} {n : Int} {x : Int32} (hv : (Int16.ofInt n).toInt32 = x) (hd : decode F.2.1 pc = .ok (.sipush n, 3)) : aS sc cI F pc (j_c (pc + 3) x) := aS_n fun lo st M r e => by
  cases e
  exact ⟨_, _, _, _, rfl, aN_st (fun _ h _ v hv => (List.mem_cons.mp hv).elim (fun q => q ▸ vok_i) (h v)) (fun p l e R s m args below meth c H locs cells slots Q ls ad C hl k => lv_sipush C.1 C.2.1 hd hv k)⟩
def j_iload (pc' i : Nat) : aI := fun lo st M => match lk i lo with
  | some (.inl x) => some (.inl (pc', lo, .inl x :: st, M))
  | _ => none
def j_aload (pc' i : Nat) : aI := fun lo st M => match lk i lo with
  | some (.inr (.inr (some a))) => some (.inl (pc', lo, .inr (.inr (some a)) :: st, M))
  | _ => none
theorem S_iload_n {sc : aSc} {cI : Nat → aF} {F : aF} {pc i : Nat} {k : Fin 4} (hi : (k : Nat) = i) (hd : decode F.2.1 pc = .ok (.iload_n k, 1)) : aS sc cI F pc (j_iload (pc + 1) i) := aS_n fun lo st M r e => by
  unfold j_iload at e
  split at e
  · rename_i x hx
    cases e
    exact ⟨_, _, _, _, rfl, aN_st (fun _ h _ v hv => (List.mem_cons.mp hv).elim (fun q => q ▸ vok_i) (h v)) (fun p l e R s m args below meth c H locs cells slots Q ls ad C hl k => lv_iload_n C.1 C.2.1 hd hi (lk_at hx hl) k)⟩
  · cases e
theorem S_iload {sc : aSc} {cI : Nat → aF} {F : aF} {pc i : Nat} (hd : decode F.2.1 pc = .ok (.iload i, 2)) : aS sc cI F pc (j_iload (pc + 2) i) := aS_n fun lo st M r e => by
  unfold j_iload at e
  split at e
  · rename_i x hx
    cases e
    exact ⟨_, _, _, _, rfl, aN_st (fun _ h _ v hv => (List.mem_cons.mp hv).elim (fun q => q ▸ vok_i) (h v)) (fun p l e R s m args below meth c H locs cells slots Q ls ad C hl k => lv_iload C.1 C.2.1 hd (lk_at hx hl) k)⟩
  · cases e
theorem S_aload_n {sc : aSc} {cI : Nat → aF} {F : aF} {pc i : Nat} {k : Fin 4} (hi : (k : Nat) = i) (hd : decode F.2.1 pc = .ok (.aload_n k, 1)) : aS sc cI F pc (j_aload (pc + 1) i) := aS_n fun lo st M r e => by
  unfold j_aload at e
  split at e
  · rename_i x hx
    cases e
    exact ⟨_, _, _, _, rfl, aN_st (fun g h _ v hv => (List.mem_cons.mp hv).elim (fun q => q ▸ g _ (lk_mem hx)) (h v)) (fun p l e R s m args below meth c H locs cells slots Q ls ad C hl k => lv_aload_n C.1 C.2.1 hd hi (lk_at hx hl) k)⟩
  · cases e
theorem S_aload {sc : aSc} {cI : Nat → aF} {F : aF} {pc i : Nat} (hd : decode F.2.1 pc = .ok (.aload i, 2)) : aS sc cI F pc (j_aload (pc + 2) i) := aS_n fun lo st M r e => by
  unfold j_aload at e
  split at e
  · rename_i x hx
    cases e
    exact ⟨_, _, _, _, rfl, aN_st (fun g h _ v hv => (List.mem_cons.mp hv).elim (fun q => q ▸ g _ (lk_mem hx)) (h v)) (fun p l e R s m args below meth c H locs cells slots Q ls ad C hl k => lv_aload C.1 C.2.1 hd (lk_at hx hl) k)⟩
  · cases e

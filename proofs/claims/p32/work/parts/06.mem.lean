/-! Locals that change; fields, arrays, new cells. -/
def rml (i : Nat) : aL → aL
  | [] => []
  | q :: t => bif Nat.beq q.1 i || (Nat.beq (q.1 + 1) i && isL q.2) then rml i t else q :: rml i t
def rmL (i : Nat) : aL → aL
  | [] => []
  | q :: t => bif Nat.beq q.1 i || (Nat.beq q.1 (i + 1) || (Nat.beq (q.1 + 1) i && isL q.2)) then rmL i t else q :: rmL i t
theorem rml_mem {i : Nat} {q : Nat × aV} : ∀ {lo : aL}, q ∈ rml i lo → q ∈ lo ∧ ¬ q.1 = i ∧ ¬ (q.1 + 1 = i ∧ isL q.2 = true)
  | [], h => by simp [rml] at h
  | q0 :: t, h => by
    unfold rml at h
    cases hb : (Nat.beq q0.1 i || (Nat.beq (q0.1 + 1) i && isL q0.2)) with
    | true =>
      rw [hb] at h
      have := rml_mem (lo := t) h
      exact ⟨List.mem_cons_of_mem _ this.1, this.2⟩
    | false =>
      rw [hb] at h
      rcases List.mem_cons.mp h with e | h
      · subst e
        refine ⟨List.mem_cons_self, fun e => ?_, fun e => ?_⟩
        · rw [e, Nat.beq_refl] at hb
          simp at hb
        · rw [e.1, Nat.beq_refl, e.2] at hb
          simp at hb
      · have := rml_mem (lo := t) h
        exact ⟨List.mem_cons_of_mem _ this.1, this.2⟩
theorem rmL_mem {i : Nat} {q : Nat × aV} : ∀ {lo : aL}, q ∈ rmL i lo → q ∈ lo ∧ ¬ q.1 = i ∧ ¬ q.1 = i + 1 ∧ ¬ (q.1 + 1 = i ∧ isL q.2 = true)
  | [], h => by simp [rmL] at h
  | q0 :: t, h => by
    unfold rmL at h
    cases hb : (Nat.beq q0.1 i || (Nat.beq q0.1 (i + 1) || (Nat.beq (q0.1 + 1) i && isL q0.2))) with
    | true =>
      rw [hb] at h
      have := rmL_mem (lo := t) h
      exact ⟨List.mem_cons_of_mem _ this.1, this.2⟩
    | false =>
      rw [hb] at h
      rcases List.mem_cons.mp h with e | h
      · subst e
        refine ⟨List.mem_cons_self, fun e => ?_, fun e => ?_, fun e => ?_⟩
        · rw [e, Nat.beq_refl] at hb
          simp at hb
        · rw [e, Nat.beq_refl] at hb
          simp at hb
        · rw [e.1, Nat.beq_refl, e.2] at hb
          simp at hb
      · have := rmL_mem (lo := t) h
        exact ⟨List.mem_cons_of_mem _ this.1, this.2⟩
theorem isL_cat {ad : Nat → Nat} {v : aV} (h : (tv ad v).category = 2) : isL v = true := by
  rw [tv_cat, cat] at h
  cases hv : isL v with
  | true => rfl
  | false => rw [hv] at h; cases h
theorem lv_st {ad : Nat → Nat} {ls : Array Slot} {nL i : Nat} {v : aV} {lo : aL} (h : lv_has ls nL ((i, tv ad v) :: (lo.map (tq ad)).filter (fun q => !(q.1 == i) && !(q.1 + 1 == i && q.2.category == 2)))) : lv_has ls nL (((i, v) :: rml i lo).map (tq ad)) := by
  refine ⟨h.1, h.2.1, fun q hq => h.2.2 q ?_⟩
  rw [List.map_cons] at hq
  rcases List.mem_cons.mp hq with e | hq
  · rw [e]; exact List.mem_cons_self
  · obtain ⟨x, hx, rfl⟩ := List.mem_map.mp hq
    obtain ⟨h1, h2, h3⟩ := rml_mem hx
    refine List.mem_cons_of_mem _ (List.mem_filter.mpr ⟨List.mem_map.mpr ⟨x, h1, rfl⟩, ?_⟩)
    simp only [tq, Bool.and_eq_true, Bool.not_eq_true', beq_eq_false_iff_ne, ne_eq, Bool.and_eq_false_iff]
    refine ⟨h2, ?_⟩
    by_cases e : x.1 + 1 = i
    · exact Or.inr (fun q => h3 ⟨e, isL_cat q⟩)
    · exact Or.inl e
theorem lv_stL {ad : Nat → Nat} {ls : Array Slot} {nL i : Nat} {v : aV} {lo : aL} (h : lv_has ls nL ((i, tv ad v) :: (lo.map (tq ad)).filter (fun q => !(q.1 == i) && (!(q.1 == i + 1) && !(q.1 + 1 == i && q.2.category == 2))))) : lv_has ls nL (((i, v) :: rmL i lo).map (tq ad)) := by
  refine ⟨h.1, h.2.1, fun q hq => h.2.2 q ?_⟩
  rw [List.map_cons] at hq
  rcases List.mem_cons.mp hq with e | hq
  · rw [e]; exact List.mem_cons_self
  · obtain ⟨x, hx, rfl⟩ := List.mem_map.mp hq
    obtain ⟨h1, h2, h4, h3⟩ := rmL_mem hx
    refine List.mem_cons_of_mem _ (List.mem_filter.mpr ⟨List.mem_map.mpr ⟨x, h1, rfl⟩, ?_⟩)
    simp only [tq, Bool.and_eq_true, Bool.not_eq_true', beq_eq_false_iff_ne, ne_eq, Bool.and_eq_false_iff]
    refine ⟨h2, h4, ?_⟩
    by_cases e : x.1 + 1 = i
    · exact Or.inr (fun q => h3 ⟨e, isL_cat q⟩)
    · exact Or.inl e
/-- a step that touches stack and locals -/
def aHl (F : aF) (pc : Nat) (lo : aL) (st : List aV) (pc' : Nat) (lo' : aL) (st' : List aV) : Prop :=
  ∀ (p : Program) (l : Launch) (e : Env) (R : Room) (s : State) (m : MethodId) (args : Array Value) (below : List Frame) (meth : Method) (c : Code) (H : Heap) (locs : List Loc) (cells slots : Nat) (Q : State → Prop) (ls : Array Slot) (ad : Nat → Nat),
    CallFix p m c F.2.1 F.2.2.1 s args TB F.1.cls → lv_has ls F.2.2.1 (lo.map (tq ad)) → (∀ ls' : Array Slot, lv_has ls' F.2.2.1 (lo'.map (tq ad)) → W p l e R s m args below meth c H locs cells slots Q (F0 m pc' ls' (st'.map (tv ad)))) → W p l e R s m args below meth c H locs cells slots Q (F0 m pc ls (st.map (tv ad)))
theorem aN_lo {sc : aSc} {F : aF} {pc : Nat} {lo : aL} {st : List aV} {M : aM} {pc' : Nat} {lo' : aL} {st' : List aV} (hv : (∀ q ∈ lo, vok (a_n M) q.2) → (∀ v ∈ st, vok (a_n M) v) → (∀ q ∈ lo', vok (a_n M) q.2) ∧ ∀ v ∈ st', vok (a_n M) v) (h : aHl F pc lo st pc' lo' st') : aN sc F pc lo st M pc' lo' st' M := by
  refine ⟨mle_rf, ?_⟩
  intro p l e R s m args below meth c D cy ad0 M0 Q hX hn hc hs hG ad H locs ls ha hW
  obtain ⟨hP, hD, hS, hwf, hl, hvl, hvs⟩ := hW
  exact h p l e R s m args below meth c H locs _ _ Q ls ad hX.1 hl (fun ls' hl' => hG ad H locs ls' ha ⟨hP, hD, hS, hwf, hl', (hv hvl hvs).1, (hv hvl hvs).2⟩)
theorem vok_lo {n i : Nat} {v : aV} {lo : aL} (h : ∀ q ∈ lo, vok n q.2) (hv : vok n v) : ∀ q ∈ (i, v) :: rml i lo, vok n q.2 := fun q hq => (List.mem_cons.mp hq).elim (fun e => by rw [e]; exact hv) (fun g => h q (rml_mem g).1)
theorem vok_loL {n i : Nat} {v : aV} {lo : aL} (h : ∀ q ∈ lo, vok n q.2) (hv : vok n v) : ∀ q ∈ (i, v) :: rmL i lo, vok n q.2 := fun q hq => (List.mem_cons.mp hq).elim (fun e => by rw [e]; exact hv) (fun g => h q (rmL_mem g).1)
def j_istore (pc' i : Nat) : aI := fun lo st M => match st with
  | .inl x :: t => some (.inl (pc', (i, .inl x) :: rml i lo, t, M))
  | _ => none
def j_astore (pc' i : Nat) : aI := fun lo st M => match st with
  | .inr (.inr (some a)) :: t => some (.inl (pc', (i, .inr (.inr (some a))) :: rml i lo, t, M))
  | _ => none
def j_lstore (pc' i : Nat) : aI := fun lo st M => match st with
  | .inr (.inl x) :: t => some (.inl (pc', (i, .inr (.inl x)) :: rmL i lo, t, M))
  | _ => none
theorem S_istore_n {sc : aSc} {cI : Nat → aF} {F : aF} {pc i : Nat} {k : Fin 4} (hi : (k : Nat) = i) (hn : i < F.2.2.1) (hd : decode F.2.1 pc = .ok (.istore_n k, 1)) : aS sc cI F pc (j_istore (pc + 1) i) := aS_n fun lo st M r e => by
  unfold j_istore at e
  split at e
  · cases e
    exact ⟨_, _, _, _, rfl, aN_lo (fun a b => ⟨vok_lo a vok_i, vok_t b⟩) (fun p l e R s m args below meth c H locs cells slots Q ls ad C hl k => lv_istore_n C.1 C.2.1 hd hi hl hn rfl (fun ls' h => k ls' (lv_st h)))⟩
  · cases e
theorem S_istore {sc : aSc} {cI : Nat → aF} {F : aF} {pc i : Nat} (hn : i < F.2.2.1) (hd : decode F.2.1 pc = .ok (.istore i, 2)) : aS sc cI F pc (j_istore (pc + 2) i) := aS_n fun lo st M r e => by
  unfold j_istore at e
  split at e
  · cases e
    exact ⟨_, _, _, _, rfl, aN_lo (fun a b => ⟨vok_lo a vok_i, vok_t b⟩) (fun p l e R s m args below meth c H locs cells slots Q ls ad C hl k => lv_istore C.1 C.2.1 hd hl hn rfl (fun ls' h => k ls' (lv_st h)))⟩
  · cases e
theorem S_astore_n {sc : aSc} {cI : Nat → aF} {F : aF} {pc i : Nat} {k : Fin 4} (hi : (k : Nat) = i) (hn : i < F.2.2.1) (hd : decode F.2.1 pc = .ok (.astore_n k, 1)) : aS sc cI F pc (j_astore (pc + 1) i) := aS_n fun lo st M r e => by
  unfold j_astore at e
  split at e
  · cases e
    exact ⟨_, _, _, _, rfl, aN_lo (fun a b => ⟨vok_lo a (b _ List.mem_cons_self), vok_t b⟩) (fun p l e R s m args below meth c H locs cells slots Q ls ad C hl k => lv_astore_n C.1 C.2.1 hd hi hl hn rfl (fun ls' h => k ls' (lv_st h)))⟩
  · cases e
theorem S_astore {sc : aSc} {cI : Nat → aF} {F : aF} {pc i : Nat} (hn : i < F.2.2.1) (hd : decode F.2.1 pc = .ok (.astore i, 2)) : aS sc cI F pc (j_astore (pc + 2) i) := aS_n fun lo st M r e => by
  unfold j_astore at e
  split at e
  · cases e
    exact ⟨_, _, _, _, rfl, aN_lo (fun a b => ⟨vok_lo a (b _ List.mem_cons_self), vok_t b⟩) (fun p l e R s m args below meth c H locs cells slots Q ls ad C hl k => lv_astore C.1 C.2.1 hd hl hn rfl (fun ls' h => k ls' (lv_st h)))⟩
  · cases e
theorem S_lstore_n {sc : aSc} {cI : Nat → aF} {F : aF} {pc i : Nat} {k : Fin 4} (hi : (k : Nat) = i) (hn : i + 1 < F.2.2.1) (hd : decode F.2.1 pc = .ok (.lstore_n k, 1)) : aS sc cI F pc (j_lstore (pc + 1) i) := aS_n fun lo st M r e => by
  unfold j_lstore at e
  split at e
  · cases e
    exact ⟨_, _, _, _, rfl, aN_lo (fun a b => ⟨vok_loL a vok_j, vok_t b⟩) (fun p l e R s m args below meth c H locs cells slots Q ls ad C hl k => lv_lstore_n C.1 C.2.1 hd hi hl hn rfl (fun ls' h => k ls' (lv_stL h)))⟩
  · cases e
def j_iinc (pc' i : Nat) (n : Int32) : aI := fun lo st M => match lk i lo with
  | some (.inl x) => some (.inl (pc', (i, .inl (x + n)) :: rml i lo, st, M))
  | _ => none
theorem S_iinc {sc : aSc} {cI : Nat → aF} {F : aF} {pc i : Nat} {n : Int} {v : Int32} (hv : Int32.ofInt n = v) (hn : i < F.2.2.1) (hd : decode F.2.1 pc = .ok (.iinc i n, 3)) : aS sc cI F pc (j_iinc (pc + 3) i v) := aS_n fun lo st M r e => by
  unfold j_iinc at e
  split at e
  · rename_i x hx
    cases e
    refine ⟨_, _, _, _, rfl, aN_lo (fun a b => ⟨vok_lo a vok_i, b⟩) (fun p l e R s m args below meth c H locs cells slots Q ls ad C hl k => ?_)⟩
    obtain ⟨j, hj⟩ := List.getElem?_of_mem (List.mem_map.mpr ⟨(i, .inl x), lk_mem hx, rfl⟩ : tq ad (i, .inl x) ∈ lo.map (tq ad))
    exact lv_iinc C.1 C.2.1 hd hl (k := j) hj (by rw [hv]) hn rfl (fun ls' h => k ls' (lv_st (v := .inl (x + v)) h))
  · cases e
-- null
def j_ifnull (t f : Nat) : aI := fun lo st M => match st with
  | .inr (.inr none) :: s => some (.inl (t, lo, s, M))
  | .inr (.inr (some _)) :: s => some (.inl (f, lo, s, M))
  | _ => none
theorem S_ifnull {sc : aSc} {cI : Nat → aF} {F : aF} {pc t : Nat} {off : Int} (ht : (pc : Int) + off = (t : Int)) (hd : decode F.2.1 pc = .ok (.ifnull off, 3)) : aS sc cI F pc (j_ifnull t (pc + 3)) := aS_n fun lo st M r e => by
  unfold j_ifnull at e
  split at e
  · cases e
    exact ⟨_, _, _, _, rfl, aN_st (fun _ h _ => vok_t h) (fun p l e R s m args below meth c H locs cells slots Q ls ad C hl k => lv_ifnullN C.1 C.2.1 hd ht k)⟩
  · cases e
    exact ⟨_, _, _, _, rfl, aN_st (fun _ h _ => vok_t h) (fun p l e R s m args below meth c H locs cells slots Q ls ad C hl k => lv_ifnull C.1 C.2.1 hd k)⟩
  · cases e
theorem S_ifnonnull {sc : aSc} {cI : Nat → aF} {F : aF} {pc t : Nat} {off : Int} (ht : (pc : Int) + off = (t : Int)) (hd : decode F.2.1 pc = .ok (.ifnonnull off, 3)) : aS sc cI F pc (j_ifnull (pc + 3) t) := aS_n fun lo st M r e => by
  unfold j_ifnull at e
  split at e
  · cases e
    exact ⟨_, _, _, _, rfl, aN_st (fun _ h _ => vok_t h) (fun p l e R s m args below meth c H locs cells slots Q ls ad C hl k => lv_ifnonnullN C.1 C.2.1 hd k)⟩
  · cases e
    exact ⟨_, _, _, _, rfl, aN_st (fun _ h _ => vok_t h) (fun p l e R s m args below meth c H locs cells slots Q ls ad C hl k => lv_ifnonnull C.1 C.2.1 hd ht k)⟩
  · cases e
-- a switch: offsets as the decoder has them
def j_tab (pc lo9 : Int) (hi9 : Int) (dflt : Int) (offs : Array Int) : aI := fun lo st M => match st with
  | .inl x :: s => if x.toInt < lo9 ∨ hi9 < x.toInt then some (.inl ((pc + dflt).toNat, lo, s, M)) else match offs[(x.toInt - lo9).toNat]? with
    | some off => some (.inl ((pc + off).toNat, lo, s, M))
    | none => none
  | _ => none
theorem S_tab {sc : aSc} {cI : Nat → aF} {F : aF} {pc len : Nat} {dflt lo9 hi9 : Int} {offs : Array Int} (h0 : 0 ≤ (pc : Int) + dflt) (h1 : ∀ off ∈ offs, 0 ≤ (pc : Int) + off) (hd : decode F.2.1 pc = .ok (.tableswitch dflt lo9 hi9 offs, len)) : aS sc cI F pc (j_tab pc lo9 hi9 dflt offs) := aS_n fun lo st M r e => by
  unfold j_tab at e
  split at e
  · split at e
    · rename_i hx
      cases e
      exact ⟨_, _, _, _, rfl, aN_st (fun _ h _ => vok_t h) (fun p l e R s m args below meth c H locs cells slots Q ls ad C hl k => lv_tableOut C.1 C.2.1 hd hx (by omega) k)⟩
    · rename_i hx
      split at e
      · rename_i off ho
        cases e
        have := h1 off (Array.mem_of_getElem? ho)
        exact ⟨_, _, _, _, rfl, aN_st (fun _ h _ => vok_t h) (fun p l e R s m args below meth c H locs cells slots Q ls ad C hl k => lv_tableIn C.1 C.2.1 hd (fun q => hx (Or.inl q)) (fun q => hx (Or.inr q)) ho (by omega) k)⟩
      · cases e
  · cases e

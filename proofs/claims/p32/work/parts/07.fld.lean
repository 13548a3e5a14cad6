/-! Fields. -/
theorem wE_obj {cy : Nat → ClassId} {ad : Nat → Nat} {M : aM} {a ci : Nat} (h : a_K M a = ci) (hc : ci < 14) : wE cy ad M a = .inr (ci, fsv ad M a 0 (lyt ci)) := by
  unfold wE
  rw [h, if_pos hc]
/-- what is known of a class of the list -/
def aKl (ci : Nat) (C : String) (T : u_T) (N : Nat) (ty : Nat → FieldType) : Prop :=
  vwCl[ci]? = some (C, T, N) ∧ ci < 14 ∧ (∀ w ∈ u_ws C T N, w ∈ TB) ∧ (∀ k, k < N → parseFieldDescriptor (T k).2.2.1 = some (ty k)) ∧ (∀ a, a < N → ∀ b, b < N → a ≠ b → (T a).2.1 ≠ (T b).2.1) ∧ (lyt ci).length = N
def fv (M : aM) (a k t : Nat) : aV := match t with
  | 0 => .inl (a_I M a k)
  | 1 => .inr (.inl (a_J M a k))
  | _ => .inr (.inr (a_P M a k))
theorem tv_fv {ad : Nat → Nat} {M : aM} {a k t : Nat} : tv ad (fv M a k t) = vlt ad M a k t := by
  match t with
  | 0 => rfl
  | 1 => rfl
  | t + 2 => rfl
theorem vok_fv {M : aM} (h : wf M) {a k t : Nat} : vok (a_n M) (fv M a k t) := by
  match t with
  | 0 => exact vok_i
  | 1 => exact vok_j
  | t + 2 => exact fun j e => h.2 a k j (Sum.inr.inj (Sum.inr.inj e))
def j_get (pc' ci k t : Nat) : aI := fun lo st M => match st with
  | .inr (.inr (some a)) :: s => bif Nat.blt a (a_n M) && Nat.beq (a_K M a) ci then some (.inl (pc', lo, fv M a k t :: s, M)) else none
  | _ => none
theorem bandE {a b : Bool} {α : Type} {x : α} {y : Option α} (h : (bif a && b then some x else none) = y) (hy : y ≠ none) : a = true ∧ b = true ∧ y = some x := by
  cases a <;> cases b
  all_goals first | exact ⟨rfl, rfl, h.symm⟩ | exact absurd h.symm hy
theorem blt_lt {a b : Nat} (h : Nat.blt a b = true) : a < b := Nat.le_of_ble_eq_true h
/-- a step that reads the memory -/
theorem aN_rd {sc : aSc} {F : aF} {pc : Nat} {lo : aL} {st : List aV} {M : aM} {pc' : Nat} {st' : List aV} (hv : wf M → (∀ q ∈ lo, vok (a_n M) q.2) → (∀ v ∈ st, vok (a_n M) v) → ∀ v ∈ st', vok (a_n M) v)
    (h : ∀ (p : Program) (l : Launch) (e : Env) (R : Room) (s : State) (m : MethodId) (args : Array Value) (below : List Frame) (meth : Method) (c : Code) (H : Heap) (locs : List Loc) (cells slots : Nat) (Q : State → Prop) (ls : Array Slot) (ad : Nat → Nat) (D : va_G) (cy : Nat → ClassId),
      CallFix p m c F.2.1 F.2.2.1 s args TB F.1.cls → va_K D vwCl (tyK cy) s → aNst s → va_P D vwCl (wl cy ad M) H → W p l e R s m args below meth c H locs cells slots Q (F0 m pc' ls (st'.map (tv ad))) → W p l e R s m args below meth c H locs cells slots Q (F0 m pc ls (st.map (tv ad)))) : aN sc F pc lo st M pc' lo st' M := by
  refine ⟨mle_rf, ?_⟩
  intro p l e R s m args below meth c D cy ad0 M0 Q hX hn hc hs hG ad H locs ls ha hW
  obtain ⟨hP, hD, hS, hwf, hl, hvl, hvs⟩ := hW
  exact h p l e R s m args below meth c H locs _ _ Q ls ad D cy hX.1 hX.2.2.2.2.1 hX.2.2.2.2.2.1.2 hP (hG ad H locs ls ha ⟨hP, hD, hS, hwf, hl, hvl, hv hwf hvl hvs⟩)
theorem S_get {sc : aSc} {cI : Nat → aF} {F : aF} {pc ci k t ix : Nat} {C : String} {T : u_T} {N : Nat} {ty : Nat → FieldType} (K : aKl ci C T N ty) (hk : k < N) (hy : (lyt ci)[k]? = some t) (hw : Cond.fieldLink F.1.cls ix (T k).1 (T k).2.1 (T k).2.2.1 ∈ TB) (hd : decode F.2.1 pc = .ok (.getfield ix, 3)) : aS sc cI F pc (j_get (pc + 3) ci k t) := aS_n fun lo st M r e => by
  unfold j_get at e
  split at e
  · rename_i a s
    obtain ⟨h1, h2, h3⟩ := bandE e (by simp)
    cases h3
    refine ⟨_, _, _, _, rfl, aN_rd (fun g _ b => vok_c (vok_fv g) (vok_t b)) (fun p l e R s m args below meth c H locs cells slots Q ls ad D cy C hK hE hP k9 => ?_)⟩
    have he := wl_at (cy := cy) (ad := ad) (blt_lt h1)
    rw [wE_obj (nbT h2) K.2.1] at he
    exact va_get (v := tv ad (fv M a k t)) C.1 C.2.1 C.2.2.2.2 K.2.2.1 C.2.2.2.1 hK hP a he K.1 k hk (C.2.2.2.2 _ hw) (fun _ h9 => h9) (by rw [fsv_at _ _ _ _ hy, Nat.zero_add, tv_fv]) hd k9
  · cases e
theorem S_getN {sc : aSc} {cI : Nat → aF} {F : aF} {pc ci k t ix : Nat} {host C : String} {T : u_T} {N : Nat} {ty : Nat → FieldType} (K : aKl ci C T N ty) (hk : k < N) (hy : (lyt ci)[k]? = some t) (hw : Cond.fieldLinkNest F.1.cls ix (T k).1 (T k).2.1 (T k).2.2.1 host ∈ NW) (hd : decode F.2.1 pc = .ok (.getfield ix, 3)) : aS sc cI F pc (j_get (pc + 3) ci k t) := aS_n fun lo st M r e => by
  unfold j_get at e
  split at e
  · rename_i a s
    obtain ⟨h1, h2, h3⟩ := bandE e (by simp)
    cases h3
    refine ⟨_, _, _, _, rfl, aN_rd (fun g _ b => vok_c (vok_fv g) (vok_t b)) (fun p l e R s m args below meth c H locs cells slots Q ls ad D cy C hK hE hP k9 => ?_)⟩
    have he := wl_at (cy := cy) (ad := ad) (blt_lt h1)
    rw [wE_obj (nbT h2) K.2.1] at he
    exact va_getN (v := tv ad (fv M a k t)) C.1 C.2.1 C.2.2.2.2 K.2.2.1 C.2.2.2.1 hK hP a he K.1 k hk (hE.nest hw) (fun _ h9 => h9) (by rw [fsv_at _ _ _ _ hy, Nat.zero_add, tv_fv]) hd k9
  · cases e
/-- a store: any memory alike but for slot k of object a -/
theorem wl_put {cy : Nat → ClassId} {ad : Nat → Nat} {M M' : aM} {a ci k t : Nat} (hn : a_n M' = a_n M) (ha : a < a_n M) (hK : a_K M' = a_K M) (hN : a_N M' = a_N M) (hI : ∀ b, b ≠ a → a_I M' b = a_I M b) (hJ : ∀ b, b ≠ a → a_J M' b = a_J M b) (hP : ∀ b, b ≠ a → a_P M' b = a_P M b) (hk : a_K M a = ci) (hc : ci < 14) (hy : (lyt ci)[k]? = some t) (ho : ∀ k' t', k' ≠ k → vlt ad M' a k' t' = vlt ad M a k' t') :
    (wl cy ad M).set a (ad a, .inr (ci, (fsv ad M a 0 (lyt ci)).set k (vlt ad M' a k t))) = wl cy ad M' := by
  have e : (.inr (ci, (fsv ad M a 0 (lyt ci)).set k (vlt ad M' a k t)) : va_E) = wE cy ad M' a := by
    rw [wE_obj (by rw [hK]; exact hk) hc]
    have := fsv_set (ad := ad) (M := M) (M' := M') (i := a) (s := k) t (lyt ci) 0 (Nat.zero_le _) hy ho
    rw [Nat.sub_zero] at this
    rw [this]
  rw [e]
  exact wl_set hn ha (fun b hb => wE_cong (by rw [hK]) (by rw [hN]) (hI b hb) (hJ b hb) (fun j => by rw [hP b hb]))
/-- a step that writes the memory -/
theorem aN_wr {sc : aSc} {F : aF} {pc : Nat} {lo : aL} {st : List aV} {M M' : aM} {pc' : Nat} {st' : List aV} (hn : a_n M' = a_n M) (hy : a_c M' = a_c M) (hz : a_z M' = a_z M) (hv : (∀ v ∈ st, vok (a_n M) v) → wf M → (∀ v ∈ st', vok (a_n M) v) ∧ wf M')
    (h : ∀ (p : Program) (l : Launch) (e : Env) (R : Room) (s : State) (m : MethodId) (args : Array Value) (below : List Frame) (meth : Method) (c : Code) (H : Heap) (locs : List Loc) (cells slots : Nat) (Q : State → Prop) (ls : Array Slot) (ad : Nat → Nat) (D : va_G) (cy : Nat → ClassId) (A : Nat → Prop),
      CallFix p m c F.2.1 F.2.2.1 s args TB F.1.cls → (F.1.name = "<init>" → meth.name = "<init>") → va_K D vwCl (tyK cy) s → aNst s → va_P D vwCl (wl cy ad M) H → va_D A (wl cy ad M) → va_S A s.heap H locs → (∀ (H1 : Heap) (locs1 : List Loc), va_P D vwCl (wl cy ad M') H1 → va_D A (wl cy ad M') → va_S A s.heap H1 locs1 → W p l e R s m args below meth c H1 locs1 cells slots Q (F0 m pc' ls (st'.map (tv ad)))) → W p l e R s m args below meth c H locs cells slots Q (F0 m pc ls (st.map (tv ad)))) : aN sc F pc lo st M pc' lo st' M' := by
  refine ⟨⟨Nat.le_of_eq hn.symm, Nat.le_of_eq hy.symm, Nat.le_of_eq hz.symm⟩, ?_⟩
  intro p l e R s m args below meth c D cy ad0 M0 Q hX hn0 hc hs hG ad H locs ls ha hW
  obtain ⟨hP, hD, hS, hwf, hl, hvl, hvs⟩ := hW
  have hv := hv hvs hwf
  refine h p l e R s m args below meth c H locs _ _ Q ls ad D cy (aA cy ad0 M0 s) hX.1 hX.2.2.2.1 hX.2.2.2.2.1 hX.2.2.2.2.2.1.2 hP hD hS (fun H1 locs1 p1 d1 s1 => ?_)
  have := hG ad H1 locs1 ls ha ⟨p1, d1, s1, hv.2, hl, by rw [hn]; exact hvl, by rw [hn]; exact hv.1⟩
  rw [hy, hz] at this
  exact this
theorem put_I {cy : Nat → ClassId} {ad : Nat → Nat} {M : aM} {a ci k : Nat} {x : Int32} (ha : a < a_n M) (hk : a_K M a = ci) (hc : ci < 14) (hy : (lyt ci)[k]? = some 0) : (wl cy ad M).set a (ad a, .inr (ci, (fsv ad M a 0 (lyt ci)).set k (.int x))) = wl cy ad (s_I M a k x) := by
  have h := wl_put (cy := cy) (ad := ad) (M := M) (M' := s_I M a k x) (k := k) (t := 0) rfl ha rfl rfl (fun b hb => up2_row hb) (fun _ _ => rfl) (fun _ _ => rfl) hk hc hy (fun k' t' hk' => by
    unfold vlt
    rw [show a_I (s_I M a k x) a k' = a_I M a k' from by show up2 _ _ _ _ _ _ = _; rw [up2_eq, if_neg (fun q => hk' q.2)]; rfl]
    rfl)
  rw [← h]
  show _ = (wl cy ad M).set a (ad a, .inr (ci, (fsv ad M a 0 (lyt ci)).set k (.int (up2 (a_I M) a k x a k))))
  rw [up2_eq, if_pos ⟨rfl, rfl⟩]
theorem put_J {cy : Nat → ClassId} {ad : Nat → Nat} {M : aM} {a ci k : Nat} {x : Int64} (ha : a < a_n M) (hk : a_K M a = ci) (hc : ci < 14) (hy : (lyt ci)[k]? = some 1) : (wl cy ad M).set a (ad a, .inr (ci, (fsv ad M a 0 (lyt ci)).set k (.long x))) = wl cy ad (s_J M a k x) := by
  have h := wl_put (cy := cy) (ad := ad) (M := M) (M' := s_J M a k x) (k := k) (t := 1) rfl ha rfl rfl (fun _ _ => rfl) (fun b hb => up2_row hb) (fun _ _ => rfl) hk hc hy (fun k' t' hk' => by
    unfold vlt
    rw [show a_J (s_J M a k x) a k' = a_J M a k' from by show up2 _ _ _ _ _ _ = _; rw [up2_eq, if_neg (fun q => hk' q.2)]; rfl]
    rfl)
  rw [← h]
  show _ = (wl cy ad M).set a (ad a, .inr (ci, (fsv ad M a 0 (lyt ci)).set k (.long (up2 (a_J M) a k x a k))))
  rw [up2_eq, if_pos ⟨rfl, rfl⟩]
theorem put_P {cy : Nat → ClassId} {ad : Nat → Nat} {M : aM} {a ci k : Nat} {r : Option Nat} (ha : a < a_n M) (hk : a_K M a = ci) (hc : ci < 14) (hy : (lyt ci)[k]? = some 2) : (wl cy ad M).set a (ad a, .inr (ci, (fsv ad M a 0 (lyt ci)).set k (va_rf (r.map ad)))) = wl cy ad (s_P M a k r) := by
  have h := wl_put (cy := cy) (ad := ad) (M := M) (M' := s_P M a k r) (k := k) (t := 2) rfl ha rfl rfl (fun _ _ => rfl) (fun _ _ => rfl) (fun b hb => up2_row hb) hk hc hy (fun k' t' hk' => by
    unfold vlt
    rw [show a_P (s_P M a k r) a k' = a_P M a k' from by show up2 _ _ _ _ _ _ = _; rw [up2_eq, if_neg (fun q => hk' q.2)]; rfl]
    rfl)
  rw [← h]
  show _ = (wl cy ad M).set a (ad a, .inr (ci, (fsv ad M a 0 (lyt ci)).set k (va_rf ((up2 (a_P M) a k r a k).map ad))))
  rw [up2_eq, if_pos ⟨rfl, rfl⟩]
theorem wf_P {M : aM} {a k : Nat} {r : Option Nat} (h : wf M) (hr : vok (a_n M) (.inr (.inr r))) : wf (s_P M a k r) := ⟨h.1, fun i j q e => by
  have e : up2 (a_P M) a k r i j = some q := e
  rw [up2_eq] at e
  split at e
  · exact hr q (by rw [e])
  · exact h.2 i j q e⟩
def isB (v : Int32) : Bool := decide (v = 0) || decide (v = 1)
theorem isB_n {v : Int32} (h : isB v = true) : narrow .boolean (.int v) = .int v ∧ fits .boolean (.int v) = true := by
  unfold isB at h
  rcases (Bool.or_eq_true _ _).mp h with h | h
  · rw [of_decide_eq_true h]; exact ⟨rfl, rfl⟩
  · rw [of_decide_eq_true h]; exact ⟨rfl, rfl⟩
def j_puti (b : Bool) (pc' ci k : Nat) : aI := fun lo st M => match st with
  | .inl x :: .inr (.inr (some a)) :: s => bif (Nat.blt a (a_n M) && Nat.beq (a_K M a) ci) && (!b || isB x) then some (.inl (pc', lo, s, s_I M a k x)) else none
  | _ => none
def j_putj (pc' ci k : Nat) : aI := fun lo st M => match st with
  | .inr (.inl x) :: .inr (.inr (some a)) :: s => bif Nat.blt a (a_n M) && Nat.beq (a_K M a) ci then some (.inl (pc', lo, s, s_J M a k x)) else none
  | _ => none
def j_putr (pc' ci k : Nat) : aI := fun lo st M => match st with
  | .inr (.inr r) :: .inr (.inr (some a)) :: s => bif Nat.blt a (a_n M) && Nat.beq (a_K M a) ci then some (.inl (pc', lo, s, s_P M a k r)) else none
  | _ => none
/-- how a field may be written: not final, by its link or by the nest's; final, in its class's own constructor -/
def aPw (F : aF) (ix : Nat) (x : String × String × String × Bool) : Prop :=
  (x.2.2.2 = false ∧ Cond.fieldLink F.1.cls ix x.1 x.2.1 x.2.2.1 ∈ TB) ∨ (∃ host, x.2.2.2 = false ∧ Cond.fieldLinkNest F.1.cls ix x.1 x.2.1 x.2.2.1 host ∈ NW) ∨ (x.2.2.2 = true ∧ Cond.fieldLink F.1.cls ix x.1 x.2.1 x.2.2.1 ∈ TB ∧ F.1.name = "<init>" ∧ x.1 = F.1.cls)
theorem put_go {F : aF} {pc ci k ix : Nat} {C : String} {T : u_T} {N : Nat} {ty : Nat → FieldType} (K : aKl ci C T N ty) (hk : k < N) (hw : aPw F ix (T k)) (hd : decode F.2.1 pc = .ok (.putfield ix, 3))
    {p : Program} {l : Launch} {e : Env} {R : Room} {s : State} {m : MethodId} {args : Array Value} {below : List Frame} {meth : Method} {c : Code} {H : Heap} {locs : List Loc} {cells slots : Nat} {Q : State → Prop} {ls : Array Slot} {ad : Nat → Nat} {D : va_G} {cy : Nat → ClassId} {A : Nat → Prop} {M M' : aM} {a : Nat} {rest : List Value} {v : Value}
    (X : CallFix p m c F.2.1 F.2.2.1 s args TB F.1.cls) (hnm : F.1.name = "<init>" → meth.name = "<init>") (hK : va_K D vwCl (tyK cy) s) (hE : aNst s) (hP : va_P D vwCl (wl cy ad M) H) (hD : va_D A (wl cy ad M)) (hS : va_S A s.heap H locs) (ha : a < a_n M) (hc : a_K M a = ci) (hn : narrow (ty k) v = v) (hf : fits (ty k) v = true)
    (hM : (wl cy ad M).set a (ad a, .inr (ci, (fsv ad M a 0 (lyt ci)).set k v)) = wl cy ad M')
    (kk : ∀ (H1 : Heap) (locs1 : List Loc), va_P D vwCl (wl cy ad M') H1 → va_D A (wl cy ad M') → va_S A s.heap H1 locs1 → W p l e R s m args below meth c H1 locs1 cells slots Q (F0 m (pc + 3) ls rest)) : W p l e R s m args below meth c H locs cells slots Q (F0 m pc ls (v :: .ref (ad a) :: rest)) := by
  have he := wl_at (cy := cy) (ad := ad) ha
  rw [wE_obj hc K.2.1] at he
  have hlen : k < (fsv ad M a 0 (lyt ci)).length := by rw [fsv_len, K.2.2.2.2.2]; exact hk
  rcases hw with ⟨h1, h2⟩ | ⟨host, h1, h2⟩ | ⟨h1, h2, h3, h4⟩
  · exact va_put X.1 X.2.1 X.2.2.2.2 K.2.2.1 ty K.2.2.2.1 K.2.2.2.2.1 X.2.2.2.1 hK hP hD hS a he K.1 k hk (X.2.2.2.2 _ h2) (fun _ h9 => h9) h1 (K.2.2.2.1 k hk) hn hf hlen hd (fun H1 locs1 p1 d1 s1 => kk H1 locs1 (hM ▸ p1) (hM ▸ d1) s1)
  · exact va_putN X.1 X.2.1 X.2.2.2.2 K.2.2.1 ty K.2.2.2.1 K.2.2.2.2.1 X.2.2.2.1 hK hP hD hS a he K.1 k hk (hE.nest h2) (fun _ h9 => h9) h1 (K.2.2.2.1 k hk) hn hf hlen hd (fun H1 locs1 p1 d1 s1 => kk H1 locs1 (hM ▸ p1) (hM ▸ d1) s1)
  · exact va_putF X.1 X.2.1 X.2.2.2.2 K.2.2.1 ty K.2.2.2.1 K.2.2.2.2.1 X.2.2.2.1 hK hP hD hS a he K.1 k hk (X.2.2.2.2 _ h2) (fun _ h9 => h9) h1 (hnm h3) h4 (K.2.2.2.1 k hk) hn hf hlen hd (fun H1 locs1 p1 d1 s1 => kk H1 locs1 (hM ▸ p1) (hM ▸ d1) s1)
theorem S_puti {sc : aSc} {cI : Nat → aF} {F : aF} {pc ci k ix : Nat} {C : String} {T : u_T} {N : Nat} {ty : Nat → FieldType} {b : Bool} (K : aKl ci C T N ty) (hk : k < N) (hy : (lyt ci)[k]? = some 0) (ht : ty k = (bif b then .boolean else .int)) (hw : aPw F ix (T k)) (hd : decode F.2.1 pc = .ok (.putfield ix, 3)) : aS sc cI F pc (j_puti b (pc + 3) ci k) := aS_n fun lo st M r e => by
  unfold j_puti at e
  split at e
  · rename_i x a s
    obtain ⟨h12, h3, h4⟩ := bandE e (by simp)
    obtain ⟨h1, h2⟩ := (Bool.and_eq_true _ _).mp h12
    cases h4
    refine ⟨_, _, _, _, rfl, aN_wr rfl rfl rfl (fun q g => ⟨vok_t (vok_t q), g⟩) (fun p l e R s m args below meth c H locs cells slots Q ls ad D cy A X hnm hK hE hP hD hS kk => ?_)⟩
    have hnf : narrow (ty k) (.int x) = .int x ∧ fits (ty k) (.int x) = true := by
      rw [ht]
      cases b with
      | true => exact isB_n (by simpa using h3)
      | false => exact ⟨rfl, rfl⟩
    exact put_go K hk hw hd X hnm hK hE hP hD hS (blt_lt h1) (nbT h2) hnf.1 hnf.2 (put_I (blt_lt h1) (nbT h2) K.2.1 hy) kk
  · cases e
theorem S_putj {sc : aSc} {cI : Nat → aF} {F : aF} {pc ci k ix : Nat} {C : String} {T : u_T} {N : Nat} {ty : Nat → FieldType} (K : aKl ci C T N ty) (hk : k < N) (hy : (lyt ci)[k]? = some 1) (ht : ty k = .long) (hw : aPw F ix (T k)) (hd : decode F.2.1 pc = .ok (.putfield ix, 3)) : aS sc cI F pc (j_putj (pc + 3) ci k) := aS_n fun lo st M r e => by
  unfold j_putj at e
  split at e
  · rename_i x a s
    obtain ⟨h1, h2, h4⟩ := bandE e (by simp)
    cases h4
    refine ⟨_, _, _, _, rfl, aN_wr rfl rfl rfl (fun q g => ⟨vok_t (vok_t q), g⟩) (fun p l e R s m args below meth c H locs cells slots Q ls ad D cy A X hnm hK hE hP hD hS kk => ?_)⟩
    exact put_go K hk hw hd X hnm hK hE hP hD hS (blt_lt h1) (nbT h2) (by rw [ht]; rfl) (by rw [ht]; rfl) (put_J (blt_lt h1) (nbT h2) K.2.1 hy) kk
  · cases e
theorem rf_nf {ty : FieldType} (h : (∃ C, ty = .object C) ∨ ∃ t, ty = .array t) (r : Option Nat) : narrow ty (va_rf r) = va_rf r ∧ fits ty (va_rf r) = true := by
  rcases h with ⟨C, rfl⟩ | ⟨t, rfl⟩ <;> cases r <;> exact ⟨rfl, rfl⟩
theorem S_putr {sc : aSc} {cI : Nat → aF} {F : aF} {pc ci k ix : Nat} {C : String} {T : u_T} {N : Nat} {ty : Nat → FieldType} (K : aKl ci C T N ty) (hk : k < N) (hy : (lyt ci)[k]? = some 2) (ht : (∃ C, ty k = .object C) ∨ ∃ t, ty k = .array t) (hw : aPw F ix (T k)) (hd : decode F.2.1 pc = .ok (.putfield ix, 3)) : aS sc cI F pc (j_putr (pc + 3) ci k) := aS_n fun lo st M r e => by
  unfold j_putr at e
  split at e
  · rename_i r9 a s
    obtain ⟨h1, h2, h4⟩ := bandE e (by simp)
    cases h4
    refine ⟨_, _, _, _, rfl, aN_wr rfl rfl rfl (fun q g => ⟨vok_t (vok_t q), wf_P g (q _ List.mem_cons_self)⟩) (fun p l e R s m args below meth c H locs cells slots Q ls ad D cy A X hnm hK hE hP hD hS kk => ?_)⟩
    exact put_go K hk hw hd X hnm hK hE hP hD hS (blt_lt h1) (nbT h2) (rf_nf ht _).1 (rf_nf ht _).2 (put_P (blt_lt h1) (nbT h2) K.2.1 hy) kk
  · cases e

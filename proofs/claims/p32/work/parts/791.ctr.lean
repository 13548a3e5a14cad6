/-! Calls by contract. -/
/-- a number told: bounds, or a variable of the entry's state and an offset -/
abbrev yZ : Type := (Int × Int) ⊕ (Nat × Int)
/-- what may be told of a method's end: its answer (none: it has none), slots of regions -/
abbrev yA : Type := Option yZ × List ((Nat × Nat) × yZ)
/-- a contract: the state at its entry (one frame), its ends, what it may write, how deep it goes -/
abbrev yC : Type := yS × List yA × List (Nat × Nat) × Nat
def msL (L : List (Nat × Nat)) (r k : Nat) : Bool := L.any (fun q => Nat.beq q.1 r && Nat.beq q.2 k)
def pZ (ρ : List Int) (z : yZ) (x : Int) : Prop := match z with
  | .inl b => b.1 ≤ x ∧ x ≤ b.2
  | .inr q => ∃ w, ρ[q.1]? = some w ∧ x = w + q.2
def pA (rg : Nat → Nat) (ρ : List Int) (a : yA) (r : Option aV) (M : aM) : Prop := (match a.1, r with
  | none, none => True
  | some b, some (.inl x) => pZ ρ b x.toInt
  | _, _ => False) ∧ ∀ q ∈ a.2, ∀ o, o < a_n M → rg o = q.1.1 → pZ ρ q.2 (a_I M o q.1.2).toInt
def cQ (R : yR) (rg : Nat → Nat) (M : aM) (ρ : List Int) (c : yC) : aQ := fun r M' => hT R rg M' ∧ Fr R (msL c.2.2.1) rg M M' ∧ ∃ a ∈ c.2.1, pA rg ρ a r M'
/-- the contract holds in every memory that differs from M0 in slots of ms alone -/
def yCtr (cd : Nat → Nat → Option aI) (R : yR) (rg : Nat → Nat) (M0 : aM) (ms : Nat → Nat → Bool) (c : yC) : Prop := ∀ (ρ : List Int) (τ : List Nat) (X : aSt), Fr R ms rg M0 X.2.2.2.2.2.2 → gam R (msL c.2.2.1) rg X.2.2.2.2.2.2 c.2.2.2 c.1 ρ τ X → wpS cd X (cQ R rg X.2.2.2.2.2.2 ρ c)
theorem Fr_rf {R : yR} {ms : Nat → Nat → Bool} {rg : Nat → Nat} {M : aM} : Fr R ms rg M M := ⟨⟨rfl, rfl, rfl⟩, rfl, rfl, fun _ _ _ => ⟨rfl, rfl, rfl⟩⟩
theorem Fr_tr {R : yR} {ms ms' : Nat → Nat → Bool} {rg : Nat → Nat} {M0 M M' : aM} (h : Fr R ms rg M0 M) (g : Fr R ms' rg M M') (hs : ∀ r k, ms' r k = true → ms r k = true) : Fr R ms rg M0 M' := by
  obtain ⟨⟨a1, a2, a3⟩, a4, a5, a6⟩ := h
  obtain ⟨⟨b1, b2, b3⟩, b4, b5, b6⟩ := g
  refine ⟨⟨b1.trans a1, b2.trans a2, b3.trans a3⟩, b4.trans a4, b5.trans a5, fun o k hk => ?_⟩
  have hk' : ms' (rg o) (ysi R (rg o) k) = false := by
    cases hc : ms' (rg o) (ysi R (rg o) k) with
    | false => rfl
    | true => rw [hs _ _ hc] at hk; cases hk
  obtain ⟨p1, p2, p3⟩ := a6 o k hk
  obtain ⟨q1, q2, q3⟩ := b6 o k hk'
  exact ⟨q1.trans p1, q2.trans p2, q3.trans p3⟩
theorem yCtr_at {cd : Nat → Nat → Option aI} {R : yR} {rg : Nat → Nat} {M0 M1 : aM} {ms ms' : Nat → Nat → Bool} {c : yC} (h : yCtr cd R rg M0 ms c) (g : Fr R ms rg M0 M1) (hs : ∀ r k, ms' r k = true → ms r k = true) : yCtr cd R rg M1 ms' c := fun ρ τ X hF => h ρ τ X (Fr_tr g hF hs)
theorem msL_sub {L : List (Nat × Nat)} {ms : Nat → Nat → Bool} (h : L.all (fun q => ms q.1 q.2) = true) : ∀ r k, msL L r k = true → ms r k = true := fun r k hr => by
  obtain ⟨q, z1, z2⟩ := List.any_eq_true.mp hr
  obtain ⟨z3, z4⟩ := (Bool.and_eq_true _ _).mp z2
  rw [← nbT z3, ← nbT z4]
  exact List.all_eq_true.mp h q z1
/-- bindings that a call leaves -/
def ykilM (R : yR) (G : List Nat) (L : List (Nat × Nat)) (B : yB) : yB := B.filter (fun q => match G[q.1.1]? with
  | some r => Nat.blt r aSB && !msL L r (ysi R r q.1.2)
  | none => false)
/-- a reference into region r -/
def yfnd (r : Nat) : List Nat → Nat → Option Nat
  | [], _ => none
  | q :: t, i => bif Nat.beq q r then some i else yfnd r t (i + 1)
/-- a number told, as a value here -/
def yzv (T : List (Nat × Int)) (z : yZ) (E : yE) : yE × (Nat × Int) := match z with
  | .inl b => (E ++ [b], (E.length, 0))
  | .inr q => (E, (((T[q.1]?).getD (0, 0)).1, ((T[q.1]?).getD (0, 0)).2 + q.2))
def yfac (T : List (Nat × Int)) (G : List Nat) : List ((Nat × Nat) × yZ) → yE → yB → yE × yB
  | [], E, B => (E, B)
  | q :: t, E, B => match yfnd q.1.1 G 0 with
    | some i => bif Nat.blt q.1.1 aSB then yfac T G t (yzv T q.2 E).1 (((i, q.1.2), .inl (yzv T q.2 E).2) :: B) else yfac T G t E B
    | none => yfac T G t E B
def yalt (T : List (Nat × Int)) (G : List Nat) (B : yB) (E : yE) (a : yA) (fr : Nat × Nat × yL) (rest : List yV) (fs : List yF) : yS := match a.1 with
  | none => ((yfac T G a.2 E B).1, G, (yfac T G a.2 E B).2, (fr.1, fr.2.1, fr.2.2, rest) :: fs)
  | some z => ((yfac T G a.2 (yzv T z E).1 B).1, G, (yfac T G a.2 (yzv T z E).1 B).2, (fr.1, fr.2.1, fr.2.2, .inl (yzv T z E).2 :: rest) :: fs)
/-- the entry state is one that the contract tells -/
def ymc (b : yS) (T : List (Nat × Int)) (U : List Nat) (S : yS) : Bool := ((match T with
    | t :: _ => Nat.beq t.1 0 && decide (t.2 = 0)
    | [] => false) && (yeqE S.1 T b.1 && yeqG S.2.1 U b.2.1)) && (yeqF S.1 T U b.2.2.2 S.2.2.2 && yeqB S.1 T U S.2.2.1 b.2.2.1)
theorem ymc_ok {R : yR} {ms ms' : Nat → Nat → Bool} {rg : Nat → Nat} {M0 M1 : aM} {D D' : Nat} {b : yS} {T : List (Nat × Int)} {U : List Nat} {S : yS} {ρ : List Int} {τ : List Nat} {X : aSt} (h : ymc b T U S = true) (hg : gam R ms rg M0 D S ρ τ X) (hF : Fr R ms' rg M1 X.2.2.2.2.2.2) (hD : D' ≤ X.1 + X.2.1.length) : gam R ms' rg M1 D' b (tI T ρ) (tR U τ) X := by
  obtain ⟨⟨g1, g2, g3⟩, g4, g5, g6, g7⟩ := hg
  obtain ⟨h1, h2⟩ := (Bool.and_eq_true _ _).mp h
  obtain ⟨h3, h4⟩ := (Bool.and_eq_true _ _).mp h1
  obtain ⟨h5, h6⟩ := (Bool.and_eq_true _ _).mp h4
  obtain ⟨h9, h10⟩ := (Bool.and_eq_true _ _).mp h2
  have h0 : (tI T ρ)[0]? = some 0 := by
    rcases T with _ | ⟨t, T⟩
    · cases h3
    · obtain ⟨z1, z2⟩ := (Bool.and_eq_true _ _).mp h3
      rw [tI_at (t := t) (z := 0) rfl (by rw [nbT z1]; exact g3)]
      have := of_decide_eq_true z2
      rw [this]
      rfl
  exact ⟨⟨yeqE_ok g1 h5, yeqG_ok g2 h6, h0⟩, yeqB_ok h10 g1 h0 g4, ⟨g5.1, hF⟩, hD, yeqF_ok g1 h0 h9 g7⟩
theorem ymc_T {b : yS} {T : List (Nat × Int)} {U : List Nat} {S : yS} (h : ymc b T U S = true) : yeqE S.1 T b.1 = true := by
  obtain ⟨h1, h2⟩ := (Bool.and_eq_true _ _).mp h
  obtain ⟨h3, h4⟩ := (Bool.and_eq_true _ _).mp h1
  exact ((Bool.and_eq_true _ _).mp h4).1
/-- what stands for the told variables are variables here -/
theorem yeqE_T {E : yE} {ρ : List Int} (hE : gE E ρ) : ∀ {T : List (Nat × Int)} {e : yE}, yeqE E T e = true → ∀ t ∈ T, ∃ w, ρ[t.1]? = some w
  | [], [], _, t, ht => by cases ht
  | s :: T, b :: e, h, t, ht => by
    obtain ⟨h1, h2⟩ := (Bool.and_eq_true _ _).mp h
    rcases List.mem_cons.mp ht with e1 | ht
    · rw [e1]
      unfold ywi yb at h1
      cases he : E[s.1]? with
      | none => rw [he] at h1; cases h1
      | some p =>
        have hj : s.1 < ρ.length := by rw [← hE.1]; exact (List.getElem?_eq_some_iff.mp he).1
        exact ⟨_, List.getElem?_eq_getElem hj⟩
    · exact yeqE_T hE h2 t ht
  | [], _ :: _, h, _, _ => by cases h
  | _ :: _, [], h, _, _ => by cases h
theorem yzv_ok {T : List (Nat × Int)} {ρ0 ρ1 : List Int} {z : yZ} {E : yE} {x : Int} (hT : ∀ t ∈ T, ∃ w, ρ0[t.1]? = some w) (hE : gE E (ρ0 ++ ρ1)) (h : pZ (tI T ρ0) z x) : ∃ ρ2, gE (yzv T z E).1 (ρ0 ++ (ρ1 ++ ρ2)) ∧ ∃ w, (ρ0 ++ (ρ1 ++ ρ2))[(yzv T z E).2.1]? = some w ∧ x = w + (yzv T z E).2.2 := by
  rcases z with b | q
  · refine ⟨[x], ?_, x, ?_, ?_⟩
    · rw [← List.append_assoc]; exact gE_new hE h.1 h.2
    · rw [← List.append_assoc]; exact new_at hE
    · show x = x + 0; omega
  · obtain ⟨w, h1, h2⟩ := h
    have hq : q.1 < T.length := by
      have := (List.getElem?_eq_some_iff.mp h1).1
      unfold tI at this
      rw [List.length_map] at this
      exact this
    have e1 : T[q.1]? = some T[q.1] := List.getElem?_eq_getElem hq
    obtain ⟨v, hv⟩ := hT T[q.1] (List.getElem_mem hq)
    have h3 := tI_at e1 hv
    rw [h1] at h3
    have h3 := Option.some.inj h3
    refine ⟨[], by rw [List.append_nil]; exact hE, v, ?_, ?_⟩
    · rw [List.append_nil]
      show (ρ0 ++ ρ1)[((T[q.1]?).getD (0, 0)).1]? = _
      rw [e1]
      exact app_at hv
    · show x = v + (((T[q.1]?).getD (0, 0)).2 + q.2)
      rw [e1]
      show x = v + (T[q.1].2 + q.2)
      omega
theorem yfnd_ok {r : Nat} : ∀ {G : List Nat} {i j : Nat}, yfnd r G i = some j → i ≤ j ∧ G[j - i]? = some r
  | [], _, _, h => by cases h
  | q :: t, i, j, h => by
    unfold yfnd at h
    cases hb : Nat.beq q r with
    | true =>
      rw [hb] at h
      cases h
      refine ⟨Nat.le_refl _, ?_⟩
      rw [Nat.sub_self, nbT hb]
      rfl
    | false =>
      rw [hb] at h
      obtain ⟨h1, h2⟩ := yfnd_ok (G := t) h
      refine ⟨by omega, ?_⟩
      rw [show j - i = (j - (i + 1)) + 1 by omega]
      exact h2
theorem yfac_ok {T : List (Nat × Int)} {ρ0 : List Int} {G τ : List Nat} {M : aM} {rg : Nat → Nat} {n : Nat} (hT : ∀ t ∈ T, ∃ w, ρ0[t.1]? = some w) (hG : gG rg n G τ) : ∀ {l : List ((Nat × Nat) × yZ)} {E : yE} {B : yB} {ρ1 : List Int}, gE E (ρ0 ++ ρ1) → gB B (ρ0 ++ ρ1) τ M → (∀ q ∈ l, ∀ o, o < n → rg o = q.1.1 → pZ (tI T ρ0) q.2 (a_I M o q.1.2).toInt) → ∃ ρ2, gE (yfac T G l E B).1 (ρ0 ++ (ρ1 ++ ρ2)) ∧ gB (yfac T G l E B).2 (ρ0 ++ (ρ1 ++ ρ2)) τ M
  | [], E, B, ρ1, hE, hB, _ => ⟨[], by simpa [yfac] using hE, by simpa [yfac] using hB⟩
  | q :: t, E, B, ρ1, hE, hB, hf => by
    unfold yfac
    split
    · rename_i i hi
      cases hb : Nat.blt q.1.1 aSB with
      | false => exact yfac_ok hT hG hE hB (fun q' hq' => hf q' (List.mem_cons_of_mem _ hq'))
      | true =>
        have hlt := blt_lt hb
        obtain ⟨_, hgi⟩ := yfnd_ok hi
        rw [Nat.sub_zero] at hgi
        have hj : i < τ.length := by rw [← hG.1]; exact (List.getElem?_eq_some_iff.mp hgi).1
        have o1 : τ[i]? = some τ[i] := List.getElem?_eq_getElem hj
        have o2 := hf q List.mem_cons_self τ[i] (by
          rcases hG.2 _ _ _ hgi o1 with ⟨_, e, _⟩ | ⟨e, _⟩
          · exact e
          · omega) (by
          rcases hG.2 _ _ _ hgi o1 with ⟨_, _, e⟩ | ⟨e, _⟩
          · exact e
          · omega)
        obtain ⟨ρ2, e1, w, e2, e3⟩ := yzv_ok hT hE o2
        have hB1 : gB (((i, q.1.2), .inl (yzv T q.2 E).2) :: B) (ρ0 ++ (ρ1 ++ ρ2)) τ M := by
          refine gB_cons ?_ o1 ⟨w, e2, e3⟩
          have := gB_mono ρ2 [] hB
          rw [List.append_assoc] at this
          simpa using this
        obtain ⟨ρ3, r1, r2⟩ := yfac_ok (l := t) hT hG e1 hB1 (fun q' hq' => hf q' (List.mem_cons_of_mem _ hq'))
        refine ⟨ρ2 ++ ρ3, ?_, ?_⟩
        · rw [← List.append_assoc ρ1]; exact r1
        · rw [← List.append_assoc ρ1]; exact r2
    · exact yfac_ok hT hG hE hB (fun q' hq' => hf q' (List.mem_cons_of_mem _ hq'))
/-- a call by this contract: where it may go on; f: the called frame, g: the caller's -/
def y1c (R : yR) (ms : Nat → Nat → Bool) (D : Nat) (c : yC) (E : yE) (G : List Nat) (B : yB) (f g : yF) (fs : List yF) (a : yth) : Option (List yS) := bif (ymc c.1 (yTI a 0 c.1.1) (yTR a 0 c.1.2.1) (E, G, B, [f]) && c.2.2.1.all (fun q => ms q.1 q.2)) && Nat.ble (c.2.2.2 + 1 + fs.length) D then some (c.2.1.map (fun x => yalt (yTI a 0 c.1.1) G (ykilM R G c.2.2.1 B) E x (g.1, g.2.1, g.2.2.1) g.2.2.2 fs)) else none
/-- a call by contract: where it may go on -/
def yctr (R : yR) (ms : Nat → Nat → Bool) (D : Nat) (ct : Nat → Nat → Option aO) (K : Nat → List yC) (S : yS) : Option (List yS) := match S with
  | (E, G, B, (mid, pc, lo, st) :: fs) => match ct mid pc with
    | some o => bif Nat.beq o.1 27 || Nat.beq o.1 28 then (match K o.2.1 with
        | [] => none
        | K1 => match yopF R D o E G B mid pc lo st fs with
          | some [(_, _, _, f :: g :: _)] => K1.findSome? (fun c => y1c R ms D c E G B f g fs (ytB B c.1.2.2.1 (ytF c.1.2.2.2 [f] ([], []))))
          | _ => none) else none
    | none => none
  | _ => none
theorem yopF_same {R : yR} {D : Nat} {o : aO} {E E1 : yE} {G G1 : List Nat} {B B1 : yB} {mid pc : Nat} {lo : yL} {st : List yV} {fs fs1 : List yF} {f g : yF} (h : yopF R D o E G B mid pc lo st fs = some [(E1, G1, B1, f :: g :: fs1)]) (ho : (Nat.beq o.1 27 || Nat.beq o.1 28) = true) : E1 = E ∧ G1 = G ∧ B1 = B ∧ fs1 = fs := by
  unfold yopF at h
  split at h
  · split at h
    · split at h
      · cases h
      · obtain ⟨_, h2⟩ := bifE h
        cases h2
        exact ⟨rfl, rfl, rfl, rfl⟩
    · cases h
  · obtain ⟨_, h2⟩ := bifE h
    cases h2
    exact ⟨rfl, rfl, rfl, rfl⟩
  · cases ho
  · cases ho
  · cases ho
  · cases h
theorem kilM_ok {R : yR} {rg : Nat → Nat} {G : List Nat} {L : List (Nat × Nat)} {B : yB} {ρ : List Int} {τ : List Nat} {M M' : aM} {n : Nat} (hG : gG rg n G τ) (hB : gB B ρ τ M) (hF : Fr R (msL L) rg M M') : gB (ykilM R G L B) ρ τ M' := fun q hq => by
  obtain ⟨h1, h2⟩ := List.mem_filter.mp hq
  obtain ⟨o, o1, o2⟩ := hB q h1
  refine ⟨o, o1, ?_⟩
  split at h2
  · rename_i r hg
    obtain ⟨h3, h4⟩ := (Bool.and_eq_true _ _).mp h2
    have h3 := blt_lt h3
    have hro : rg o = r := by
      rcases hG.2 _ _ _ hg o1 with ⟨_, _, e⟩ | ⟨e, _⟩
      · exact e
      · omega
    have hm : msL L (rg o) (ysi R (rg o) q.1.2) = false := by
      rw [hro]
      simpa using h4
    obtain ⟨p1, p2, p3⟩ := hF.2.2.2 o q.1.2 hm
    rw [p1, p3]
    exact o2
  · cases h2
theorem wp_fins {cd : Nat → Nat → Option aI} {d : Nat} {g : aFr} {w : List aFr} {mid pc : Nat} {lo : aL} {st : List aV} {M : aM} {Q Qc : aQ} (h : wpS cd (d, [], mid, pc, lo, st, M) Qc) (hc : ∀ r M', Qc r M' → wpS cd (d + 1, w, g.1, g.2.1, g.2.2.1, psh r g.2.2.2, M') Q) : wpS cd (d, g :: w, mid, pc, lo, st, M) Q := by
  obtain ⟨g1, g2, g3, g4⟩ := g
  exact wp_mono h hc
set_option maxHeartbeats 2000000 in
theorem y1c_ok {cd : Nat → Nat → Option aI} {R : yR} {ms : Nat → Nat → Bool} {rg : Nat → Nat} {M0 : aM} {D : Nat} {c : yC} (hK : yCtr cd R rg M0 ms c) {E : yE} {G : List Nat} {B : yB} {f g : yF} {fs : List yF} {a : yth} {L : List yS} (e : y1c R ms D c E G B f g fs a = some L) {ρ : List Int} {τ : List Nat} {X : aSt} {Q : aQ} (h : gam R ms rg M0 D (E, G, B, f :: g :: fs) ρ τ X) (cont : ∀ S' ∈ L, ∀ ρ2 X', gam R ms rg M0 D S' (ρ ++ ρ2) τ X' → wpS cd X' Q) : wpS cd X Q := by
  unfold y1c at e
  generalize yTI a 0 c.1.1 = T at e
  generalize yTR a 0 c.1.2.1 = U at e
  obtain ⟨e1, e6⟩ := bifE e
  subst e6
  obtain ⟨e2, e3⟩ := (Bool.and_eq_true _ _).mp e1
  obtain ⟨e4, e5⟩ := (Bool.and_eq_true _ _).mp e2
  have e3 := Nat.le_of_ble_eq_true e3
  obtain ⟨d, cfs, cm, cp, clo, cst, M⟩ := X
  obtain ⟨k1, k2, k3, k4, k5, k6⟩ := h
  obtain ⟨g', w, hgw, k7, k8⟩ := gF_cons k6
  simp only at hgw
  subst hgw
  have hlen := gF_len k8
  have hg2 : gam R ms rg M0 0 (E, G, B, [f]) ρ τ (d, [], cm, cp, clo, cst, M) := ⟨k1, k2, k3, Nat.zero_le _, k5, trivial⟩
  have k4 : D ≤ d + (g' :: w).length := k4
  have hl1 : (g' :: w).length = w.length + 1 := rfl
  have hd : c.2.2.2 ≤ d + ([] : List aFr).length := by
    show c.2.2.2 ≤ d + 0
    omega
  have hpre := ymc_ok (M1 := M) (ms' := msL c.2.2.1) e4 hg2 Fr_rf hd
  have hTT := yeqE_T (E := E) k1.1 (ymc_T e4)
  refine wp_fins (hK _ _ _ k3.2 hpre) (fun r M' hq => ?_)
  obtain ⟨q1, q2, x, a1, a2, a3⟩ := hq
  have s3 : yalt T G (ykilM R G c.2.2.1 B) E x (g.1, g.2.1, g.2.2.1) g.2.2.2 fs ∈ c.2.1.map (fun x => yalt T G (ykilM R G c.2.2.1 B) E x (g.1, g.2.1, g.2.2.1) g.2.2.2 fs) := List.mem_map.mpr ⟨x, a1, rfl⟩
  have hFr := Fr_tr k3.2 q2 (msL_sub e5)
  have hn : a_n M' = a_n M := q2.1.1
  have hBk := kilM_ok k1.2.1 k2 q2
  have hfac : ∀ q ∈ x.2, ∀ o, o < a_n M → rg o = q.1.1 → pZ (tI T ρ) q.2 (a_I M' o q.1.2).toInt := fun q hq o ho => a3 q hq o (by rw [hn]; exact ho)
  obtain ⟨f1, f2, f3, f4⟩ := k7
  have hDD : D ≤ d + 1 + w.length := by omega
  have r0 : ρ ++ [] = ρ := List.append_nil ρ
  cases ha : x.1 with
  | none =>
    rw [ha] at a2
    rcases r with _ | v
    · obtain ⟨ρ3, r1, r2⟩ := yfac_ok (ρ1 := []) hTT k1.2.1 (by rw [r0]; exact k1.1) (by rw [r0]; exact hBk) hfac
      rw [List.nil_append] at r1 r2
      refine cont _ s3 ρ3 _ ?_
      unfold yalt
      rw [ha]
      refine ⟨⟨r1, ?_, app_at k1.2.2⟩, r2, ⟨q1, hFr⟩, hDD, ⟨f1, f2, ?_, ?_⟩, ?_⟩
      · show gG rg (a_n M') G _; rw [hn]; exact k1.2.1
      · simpa using gL_mono ρ3 [] f3
      · show gK (ρ ++ ρ3) τ g.2.2.2 g'.2.2.2
        simpa using gK_mono ρ3 [] f4
      · simpa using gF_mono ρ3 [] k8
    · exact a2.elim
  | some z =>
    rw [ha] at a2
    rcases r with _ | v
    · exact a2.elim
    · rcases v with y | y | y
      · obtain ⟨ρ4, z1, u, z2, z3⟩ := yzv_ok (ρ1 := []) hTT (by rw [r0]; exact k1.1) a2
        rw [List.nil_append] at z1 z2
        have hB1 : gB (ykilM R G c.2.2.1 B) (ρ ++ ρ4) τ M' := by
          simpa using gB_mono ρ4 [] hBk
        obtain ⟨ρ3, r1, r2⟩ := yfac_ok hTT k1.2.1 z1 hB1 hfac
        refine cont _ s3 (ρ4 ++ ρ3) _ ?_
        unfold yalt
        rw [ha]
        refine ⟨⟨r1, ?_, app_at k1.2.2⟩, r2, ⟨q1, hFr⟩, hDD, ⟨f1, f2, ?_, ?_, ?_⟩, ?_⟩
        · show gG rg (a_n M') G _; rw [hn]; exact k1.2.1
        · simpa using gL_mono (ρ4 ++ ρ3) [] f3
        · refine ⟨u, ?_, z3⟩
          rw [← List.append_assoc]
          exact app_at z2
        · simpa using gK_mono (ρ4 ++ ρ3) [] f4
        · simpa using gF_mono (ρ4 ++ ρ3) [] k8
      · exact a2.elim
      · exact a2.elim
set_option maxHeartbeats 2000000 in
theorem yctr_ok {cd : Nat → Nat → Option aI} {R : yR} {ms : Nat → Nat → Bool} {rg : Nat → Nat} {M0 : aM} {D : Nat} {ct : Nat → Nat → Option aO} (hct : ∀ m p o, ct m p = some o → cd m p = some (semO o)) {K : Nat → List yC} (hK : ∀ y, ∀ c ∈ K y, yCtr cd R rg M0 ms c) {S : yS} {L : List yS} {ρ : List Int} {τ : List Nat} {X : aSt} {Q : aQ} (e : yctr R ms D ct K S = some L) (h : gam R ms rg M0 D S ρ τ X) (cont : ∀ S' ∈ L, ∀ ρ2 τ2 X', gam R ms rg M0 D S' (ρ ++ ρ2) (τ ++ τ2) X' → wpS cd X' Q) : wpS cd X Q := by
  unfold yctr at e
  split at e
  · rename_i E G B mid pc lo st fs
    split at e
    · rename_i o ho
      cases hb : (Nat.beq o.1 27 || Nat.beq o.1 28) with
      | false => rw [hb] at e; cases e
      | true =>
        rw [hb] at e
        simp only [cond_true] at e
        split at e
        · cases e
        · split at e
          · rename_i E1 G1 B1 f g fs1 hF
            obtain ⟨rfl, rfl, rfl, rfl⟩ := yopF_same hF hb
            obtain ⟨c, c1, c2⟩ := List.exists_of_findSome?_eq_some e
            obtain ⟨X1, x1, S1, s1, ρ2, τ2, g1⟩ := yopF_ok (hct _ _ _ ho) hF h
            rcases List.mem_cons.mp s1 with s1 | s1
            · subst s1
              refine wp_stp x1 (y1c_ok (hK _ c c1) c2 g1 (fun S' hS' ρ3 X' hX' => ?_))
              refine cont S' hS' (ρ2 ++ ρ3) τ2 X' ?_
              rw [← List.append_assoc]
              exact hX'
            · cases s1
          · cases e
    · cases e
  · cases e

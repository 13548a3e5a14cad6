/-! Certificates: states told ahead (with a rank that falls), and the runs between them. -/
abbrev yK : Type := Int × List (Int × Nat)
abbrev yN : Type := yS × yK
def lev (ρ : List Int) : List (Int × Nat) → Int
  | [] => 0
  | q :: t => q.1 * (ρ[q.2]?).getD 0 + lev ρ t
def rnk (k : yK) (ρ : List Int) : Int := k.1 + lev ρ k.2
def llo (E : yE) : List (Int × Nat) → Option Int
  | [] => some 0
  | q :: t => match E[q.2]?, llo E t with
    | some b, some r => some ((if 0 ≤ q.1 then q.1 * b.1 else q.1 * b.2) + r)
    | _, _ => none
theorem llo_ok {E : yE} {ρ : List Int} (hE : gE E ρ) : ∀ {l : List (Int × Nat)} {m : Int}, llo E l = some m → m ≤ lev ρ l
  | [], m, h => by
    cases h
    exact Int.le_refl 0
  | q :: t, m, h => by
    unfold llo at h
    split at h
    · rename_i b r hb hr
      cases h
      have ih := llo_ok hE hr
      have hj : q.2 < ρ.length := by rw [← hE.1]; exact (List.getElem?_eq_some_iff.mp hb).1
      have hz : ρ[q.2]? = some ρ[q.2] := List.getElem?_eq_getElem hj
      have hbd := hE.2 _ _ _ hb hz
      unfold lev
      rw [hz]
      simp only [Option.getD_some]
      split
      · rename_i hc
        have := Int.mul_le_mul_of_nonneg_left hbd.1 hc
        omega
      · rename_i hc
        have h2 := Int.mul_le_mul_of_nonpos_left (show q.1 ≤ 0 by omega) hbd.2
        omega
    · cases h
def lin (c : Int) (j : Nat) : List (Int × Nat) → List (Int × Nat)
  | [] => [(c, j)]
  | q :: t => bif Nat.beq q.2 j then (q.1 + c, j) :: t else q :: lin c j t
theorem lin_ok {ρ : List Int} {c : Int} {j : Nat} : ∀ {l : List (Int × Nat)}, lev ρ (lin c j l) = c * (ρ[j]?).getD 0 + lev ρ l
  | [] => rfl
  | q :: t => by
    unfold lin
    cases hb : Nat.beq q.2 j with
    | true =>
      show (q.1 + c) * (ρ[j]?).getD 0 + lev ρ t = c * (ρ[j]?).getD 0 + (q.1 * (ρ[q.2]?).getD 0 + lev ρ t)
      rw [nbT hb, Int.add_mul]
      omega
    | false =>
      show q.1 * (ρ[q.2]?).getD 0 + lev ρ (lin c j t) = c * (ρ[j]?).getD 0 + (q.1 * (ρ[q.2]?).getD 0 + lev ρ t)
      rw [lin_ok (l := t)]
      omega
/-- a rank less another state's, by what stands for its variables -/
def lsub (T : List (Nat × Int)) : List (Int × Nat) → yK → yK
  | [], k => k
  | q :: t, k => lsub T t (k.1 - q.1 * ((T[q.2]?).getD (0, 0)).2, lin (-q.1) ((T[q.2]?).getD (0, 0)).1 k.2)
/-- the values of another state's variables -/
def tI (T : List (Nat × Int)) (ρ : List Int) : List Int := T.map (fun q => (ρ[q.1]?).getD 0 + q.2)
def tR (U : List Nat) (τ : List Nat) : List Nat := U.map (fun i => (τ[i]?).getD 0)
theorem lsub_ok {T : List (Nat × Int)} {ρ : List Int} : ∀ {l : List (Int × Nat)} {k : yK}, (∀ q ∈ l, q.2 < T.length) → rnk (lsub T l k) ρ = rnk k ρ - lev (tI T ρ) l
  | [], k, _ => by unfold lsub lev; omega
  | q :: t, k, h => by
    unfold lsub
    rw [lsub_ok (l := t) (fun q' hq' => h q' (List.mem_cons_of_mem _ hq'))]
    have hq := h q List.mem_cons_self
    have e1 : T[q.2]? = some T[q.2] := List.getElem?_eq_getElem hq
    have e2 : (tI T ρ)[q.2]? = some ((ρ[T[q.2].1]?).getD 0 + T[q.2].2) := by
      unfold tI
      rw [List.getElem?_map, e1]
      rfl
    unfold rnk
    rw [lin_ok]
    show _ = _ - (q.1 * ((tI T ρ)[q.2]?).getD 0 + lev (tI T ρ) t)
    rw [e1, e2]
    simp only [Option.getD_some]
    rw [Int.neg_mul, Int.mul_add]
    omega
/-- a value as told, and a value here -/
def yeq (E : yE) (T : List (Nat × Int)) (U : List Nat) (b s : yV) : Bool := match b, s with
  | .inl p, .inl q => (match T[p.1]? with
      | some t => Nat.beq t.1 q.1 && decide (t.2 + p.2 = q.2)
      | none => false) || (Nat.beq p.1 0 && ywi E q p.2 p.2)
  | .inr (.inl _), .inr (.inl _) => true
  | .inr (.inr none), .inr (.inr none) => true
  | .inr (.inr (some i)), .inr (.inr (some j)) => match U[i]? with
    | some i' => Nat.beq i' j
    | none => false
  | _, _ => false
theorem tI_at {T : List (Nat × Int)} {ρ : List Int} {j : Nat} {t : Nat × Int} {z : Int} (h : T[j]? = some t) (hz : ρ[t.1]? = some z) : (tI T ρ)[j]? = some (z + t.2) := by
  unfold tI
  rw [List.getElem?_map, h]
  show some ((ρ[t.1]?).getD 0 + t.2) = _
  rw [hz]
  rfl
theorem tR_at {U τ : List Nat} {i j a : Nat} (h : U[i]? = some j) (ha : τ[j]? = some a) : (tR U τ)[i]? = some a := by
  unfold tR
  rw [List.getElem?_map, h]
  show some ((τ[j]?).getD 0) = _
  rw [ha]
  rfl
theorem yeq_ok {E : yE} {T : List (Nat × Int)} {U : List Nat} {b s : yV} {ρ : List Int} {τ : List Nat} {v : aV} (h : yeq E T U b s = true) (hE : gE E ρ) (h0 : (tI T ρ)[0]? = some 0) (hv : yv ρ τ s v) : yv (tI T ρ) (tR U τ) b v := by
  unfold yeq at h
  split at h
  · rename_i p q
    obtain ⟨x, rfl⟩ := inv_int hv
    rcases (Bool.or_eq_true _ _).mp h with h | h
    · split at h
      · rename_i t ht
        obtain ⟨h1, h2⟩ := (Bool.and_eq_true _ _).mp h
        have h1 := nbT h1
        have h2 := of_decide_eq_true h2
        obtain ⟨z, z1, z2⟩ := hv
        refine ⟨z + t.2, tI_at ht (by rw [h1]; exact z1), ?_⟩
        omega
      · cases h
    · obtain ⟨h1, h2⟩ := (Bool.and_eq_true _ _).mp h
      have := ywi_ok h2 hE hv
      refine ⟨0, by rw [nbT h1]; exact h0, ?_⟩
      omega
  · rcases v with x | x | r
    · exact hv.elim
    · trivial
    · exact hv.elim
  · rw [inv_null hv]
    trivial
  · rename_i i j
    split at h
    · rename_i i' hi
      obtain ⟨a, rfl, ha⟩ := inv_ref hv
      exact tR_at hi (by rw [nbT h]; exact ha)
    · cases h
  · cases h
def yeqL (E : yE) (T : List (Nat × Int)) (U : List Nat) (b l : yL) : Bool := b.all (fun q => match ylk q.1 l with
  | some s => yeq E T U q.2 s
  | none => false)
def yeqK (E : yE) (T : List (Nat × Int)) (U : List Nat) : List yV → List yV → Bool
  | [], [] => true
  | b :: t, s :: w => yeq E T U b s && yeqK E T U t w
  | _, _ => false
def yeqF (E : yE) (T : List (Nat × Int)) (U : List Nat) : List yF → List yF → Bool
  | [], [] => true
  | f :: t, g :: w => (Nat.beq f.2.1 g.2.1 && Nat.beq f.1 g.1) && (yeqL E T U f.2.2.1 g.2.2.1 && (yeqK E T U f.2.2.2 g.2.2.2 && yeqF E T U t w))
  | _, _ => false
theorem ylk_mem {i : Nat} {s : yV} : ∀ {l : yL}, ylk i l = some s → (i, s) ∈ l
  | [], h => by cases h
  | q :: t, h => by
    unfold ylk at h
    cases hb : Nat.beq q.1 i with
    | true =>
      rw [hb] at h
      have hs : q.2 = s := Option.some.inj h
      rw [← nbT hb, ← hs]
      exact List.mem_cons_self
    | false =>
      rw [hb] at h
      exact List.mem_cons_of_mem _ (ylk_mem h)
theorem yeqL_ok {E : yE} {T : List (Nat × Int)} {U : List Nat} {b l : yL} {ρ : List Int} {τ : List Nat} {lo : aL} (h : yeqL E T U b l = true) (hE : gE E ρ) (h0 : (tI T ρ)[0]? = some 0) (hl : gL l ρ τ lo) : gL b (tI T ρ) (tR U τ) lo := fun i s hs => by
  have := List.all_eq_true.mp h _ (ylk_mem hs)
  simp only at this
  split at this
  · rename_i s' hs'
    obtain ⟨v, v1, v2⟩ := hl i s' hs'
    exact ⟨v, v1, yeq_ok this hE h0 v2⟩
  · cases this
theorem yeqK_ok {E : yE} {T : List (Nat × Int)} {U : List Nat} {ρ : List Int} {τ : List Nat} (hE : gE E ρ) (h0 : (tI T ρ)[0]? = some 0) : ∀ {b s : List yV} {st : List aV}, yeqK E T U b s = true → gK ρ τ s st → gK (tI T ρ) (tR U τ) b st
  | [], [], [], _, _ => trivial
  | [], [], _ :: _, _, g => g.elim
  | b :: t, s :: w, [], _, g => g.elim
  | b :: t, s :: w, v :: st, h, g => by
    obtain ⟨h1, h2⟩ := (Bool.and_eq_true _ _).mp h
    exact ⟨yeq_ok h1 hE h0 g.1, yeqK_ok hE h0 h2 g.2⟩
  | [], _ :: _, _, h, _ => by cases h
  | _ :: _, [], _, h, _ => by cases h
theorem yeqF_ok {E : yE} {T : List (Nat × Int)} {U : List Nat} {ρ : List Int} {τ : List Nat} (hE : gE E ρ) (h0 : (tI T ρ)[0]? = some 0) : ∀ {b s : List yF} {st : List aFr}, yeqF E T U b s = true → gF ρ τ s st → gF (tI T ρ) (tR U τ) b st
  | [], [], [], _, _ => trivial
  | [], [], _ :: _, _, g => g.elim
  | b :: t, s :: w, [], _, g => g.elim
  | b :: t, s :: w, v :: st, h, g => by
    obtain ⟨h1, h2⟩ := (Bool.and_eq_true _ _).mp h
    obtain ⟨h3, h4⟩ := (Bool.and_eq_true _ _).mp h1
    obtain ⟨h5, h6⟩ := (Bool.and_eq_true _ _).mp h2
    obtain ⟨h7, h8⟩ := (Bool.and_eq_true _ _).mp h6
    obtain ⟨⟨g1, g2, g3, g4⟩, g5⟩ := g
    exact ⟨⟨(nbT h4).trans g1, (nbT h3).trans g2, yeqL_ok h5 hE h0 g3, yeqK_ok hE h0 h7 g4⟩, yeqF_ok hE h0 h8 g5⟩
  | [], _ :: _, _, h, _ => by cases h
  | _ :: _, [], _, h, _ => by cases h
def yeqB (E : yE) (T : List (Nat × Int)) (U : List Nat) (B : yB) (b : yB) : Bool := b.all (fun q => match U[q.1.1]? with
  | some i => match ybl B i q.1.2 with
    | some s => yeq E T U q.2 s
    | none => false
  | none => false)
theorem yeq_b {E : yE} {T : List (Nat × Int)} {U : List Nat} {b s : yV} {ρ : List Int} {τ : List Nat} {x : Int32} {p : Option Nat} (h : yeq E T U b s = true) (hE : gE E ρ) (h0 : (tI T ρ)[0]? = some 0) (hv : bOk ρ τ s x p) : bOk (tI T ρ) (tR U τ) b x p := by
  rcases s with q | u | _ | j
  · have h1 := yeq_ok (τ := τ) (v := .inl x) h hE h0 hv
    rcases b with q' | u | _ | j
    · exact h1
    · exact h1.elim
    · exact h1.elim
    · exact h1.elim
  · rcases b with q' | u | _ | j
    · cases h
    · trivial
    · cases h
    · cases h
  · rcases b with q' | u | _ | j
    · cases h
    · trivial
    · exact hv
    · cases h
  · obtain ⟨a, a1, a2⟩ := hv
    have h1 := yeq_ok (ρ := ρ) (τ := τ) (v := .inr (.inr (some a))) h hE h0 a1
    rcases b with q' | u | _ | j'
    · exact h1.elim
    · trivial
    · exact h1.elim
    · exact ⟨a, h1, a2⟩
theorem yeqB_ok {E : yE} {T : List (Nat × Int)} {U : List Nat} {B b : yB} {ρ : List Int} {τ : List Nat} {M : aM} (h : yeqB E T U B b = true) (hE : gE E ρ) (h0 : (tI T ρ)[0]? = some 0) (hB : gB B ρ τ M) : gB b (tI T ρ) (tR U τ) M := fun q hq => by
  have := List.all_eq_true.mp h _ hq
  split at this
  · rename_i i hi
    split at this
    · rename_i s hs
      obtain ⟨a, a1, a2⟩ := hB _ (ybl_mem hs)
      exact ⟨a, tR_at hi a1, yeq_b this hE h0 a2⟩
    · cases this
  · cases this
/-- bounds and regions of what stands for the told state's variables -/
def yeqE (E : yE) : List (Nat × Int) → yE → Bool
  | [], [] => true
  | t :: T, b :: e => ywi E t b.1 b.2 && yeqE E T e
  | _, _ => false
def yeqG (G : List Nat) : List Nat → List Nat → Bool
  | [], [] => true
  | u :: U, r :: g => (G[u]?).any (fun r' => Nat.beq r' r) && yeqG G U g
  | _, _ => false
theorem yeqE_ok {E : yE} {ρ : List Int} (hE : gE E ρ) : ∀ {T : List (Nat × Int)} {e : yE}, yeqE E T e = true → gE e (tI T ρ)
  | [], [], _ => ⟨rfl, fun j b z h => by simp at h⟩
  | t :: T, b :: e, h => by
    obtain ⟨h1, h2⟩ := (Bool.and_eq_true _ _).mp h
    have ih := yeqE_ok hE h2
    refine ⟨by show e.length + 1 = (tI T ρ).length + 1; rw [ih.1], fun j b' z e1 e2 => ?_⟩
    cases j with
    | zero =>
      simp at e1
      subst e1
      have e2 : some ((ρ[t.1]?).getD 0 + t.2) = some z := e2
      cases e2
      unfold ywi yb at h1
      cases he : E[t.1]? with
      | none => rw [he] at h1; cases h1
      | some p =>
        rw [he] at h1
        obtain ⟨h3, h4⟩ := (Bool.and_eq_true _ _).mp h1
        have h3 : b.1 ≤ p.1 + t.2 := of_decide_eq_true h3
        have h4 : p.2 + t.2 ≤ b.2 := of_decide_eq_true h4
        have hj : t.1 < ρ.length := by rw [← hE.1]; exact (List.getElem?_eq_some_iff.mp he).1
        have hz : ρ[t.1]? = some ρ[t.1] := List.getElem?_eq_getElem hj
        have hbd := hE.2 _ _ _ he hz
        rw [hz]
        simp only [Option.getD_some]
        omega
    | succ j => exact ih.2 j b' z (by simpa using e1) e2
  | [], _ :: _, h => by cases h
  | _ :: _, [], h => by cases h
theorem yeqG_ok {G τ : List Nat} {rg : Nat → Nat} {n : Nat} (hG : gG rg n G τ) : ∀ {U g : List Nat}, yeqG G U g = true → gG rg n g (tR U τ)
  | [], [], _ => ⟨rfl, fun j b z h => by simp at h⟩
  | u :: U, r :: g, h => by
    obtain ⟨h1, h2⟩ := (Bool.and_eq_true _ _).mp h
    have ih := yeqG_ok hG h2
    refine ⟨by show g.length + 1 = (tR U τ).length + 1; rw [ih.1], fun j r' a e1 e2 => ?_⟩
    cases j with
    | zero =>
      simp at e1
      subst e1
      have e2 : some ((τ[u]?).getD 0) = some a := e2
      cases e2
      cases he : G[u]? with
      | none => rw [he] at h1; cases h1
      | some p =>
        rw [he] at h1
        have h1 : p = r := nbT h1
        have hj : u < τ.length := by rw [← hG.1]; exact (List.getElem?_eq_some_iff.mp he).1
        have hz : τ[u]? = some τ[u] := List.getElem?_eq_getElem hj
        have hbd := hG.2 _ _ _ he hz
        rw [hz]
        simp only [Option.getD_some]
        rw [← h1]
        exact hbd
    | succ j => exact ih.2 j r' a (by simpa using e1) e2
  | [], _ :: _, h => by cases h
  | _ :: _, [], h => by cases h
/-- the state here is one of those told by b, and the rank has fallen since ka -/
def ymt (ka : yK) (b : yN) (T : List (Nat × Int)) (U : List Nat) (S : yS) : Bool :=
  ((match T with
    | t :: _ => Nat.beq t.1 0 && decide (t.2 = 0)
    | [] => false) && (yeqE S.1 T b.1.1 && yeqG S.2.1 U b.1.2.1)) && ((yeqF S.1 T U b.1.2.2.2 S.2.2.2 && yeqB S.1 T U S.2.2.1 b.1.2.2.1) && (b.2.2.all (fun q => Nat.blt q.2 T.length) && (match llo S.1 (lsub T b.2.2 (ka.1 - b.2.1, ka.2)).2 with
    | some m => decide (1 ≤ m + (lsub T b.2.2 (ka.1 - b.2.1, ka.2)).1)
    | none => false)))
set_option maxHeartbeats 1000000 in
theorem ymt_ok {R : yR} {ms : Nat → Nat → Bool} {rg : Nat → Nat} {M0 : aM} {D : Nat} {ka : yK} {b : yN} {T : List (Nat × Int)} {U : List Nat} {S : yS} {ρ : List Int} {τ : List Nat} {X : aSt} (h : ymt ka b T U S = true) (hg : gam R ms rg M0 D S ρ τ X) : gam R ms rg M0 D b.1 (tI T ρ) (tR U τ) X ∧ rnk b.2 (tI T ρ) < rnk ka ρ := by
  obtain ⟨⟨g1, g2, g3⟩, g4, g5, g6, g7⟩ := hg
  obtain ⟨h1, h2⟩ := (Bool.and_eq_true _ _).mp h
  obtain ⟨h3, h4⟩ := (Bool.and_eq_true _ _).mp h1
  obtain ⟨h5, h6⟩ := (Bool.and_eq_true _ _).mp h4
  obtain ⟨h7, h8⟩ := (Bool.and_eq_true _ _).mp h2
  obtain ⟨h9, h10⟩ := (Bool.and_eq_true _ _).mp h7
  obtain ⟨h11, h12⟩ := (Bool.and_eq_true _ _).mp h8
  have h0 : (tI T ρ)[0]? = some 0 := by
    rcases T with _ | ⟨t, T⟩
    · cases h3
    · obtain ⟨z1, z2⟩ := (Bool.and_eq_true _ _).mp h3
      rw [tI_at (t := t) (z := 0) rfl (by rw [nbT z1]; exact g3)]
      have := of_decide_eq_true z2
      rw [this]
      rfl
  refine ⟨⟨⟨yeqE_ok g1 h5, yeqG_ok g2 h6, h0⟩, yeqB_ok h10 g1 h0 g4, g5, g6, yeqF_ok g1 h0 h9 g7⟩, ?_⟩
  split at h12
  · rename_i m hm
    have hm := llo_ok g1 hm
    have h12 := of_decide_eq_true h12
    have hs := lsub_ok (T := T) (ρ := ρ) (l := b.2.2) (k := (ka.1 - b.2.1, ka.2)) (fun q hq => blt_lt (List.all_eq_true.mp h11 q hq))
    unfold rnk at hs ⊢
    simp only at hs
    omega
  · cases h12
/-- what stands for the variables: found by going through the state (nothing is proved of it) -/
def yfI (l : List (Nat × (Nat × Int))) (j : Nat) : Option (Nat × Int) := match l with
  | [] => none
  | q :: t => bif Nat.beq q.1 j then some q.2 else yfI t j
def yfR (l : List (Nat × Nat)) (j : Nat) : Option Nat := match l with
  | [] => none
  | q :: t => bif Nat.beq q.1 j then some q.2 else yfR t j
abbrev yth : Type := List (Nat × (Nat × Int)) × List (Nat × Nat)
def yt1 (b s : yV) (a : yth) : yth := match b, s with
  | .inl p, .inl q => bif Nat.beq p.1 0 then a else (match yfI a.1 p.1 with
      | some _ => a
      | none => ((p.1, (q.1, q.2 - p.2)) :: a.1, a.2))
  | .inr (.inr (some i)), .inr (.inr (some j)) => (match yfR a.2 i with
      | some _ => a
      | none => (a.1, (i, j) :: a.2))
  | _, _ => a
def ytL (l : yL) : yL → yth → yth
  | [], a => a
  | q :: t, a => ytL l t (match ylk q.1 l with
    | some s => yt1 q.2 s a
    | none => a)
def ytK : List yV → List yV → yth → yth
  | b :: t, s :: w, a => ytK t w (yt1 b s a)
  | _, _, a => a
def ytF : List yF → List yF → yth → yth
  | f :: t, g :: w, a => ytF t w (ytK f.2.2.2 g.2.2.2 (ytL g.2.2.1 f.2.2.1 a))
  | _, _, a => a
def ytB (B : yB) : yB → yth → yth
  | [], a => a
  | q :: t, a => ytB B t (match yfR a.2 q.1.1 with
    | some i => match ybl B i q.1.2 with
      | some s => yt1 q.2 s a
      | none => a
    | none => a)
def ypc : List yF → List yF → Bool
  | [], [] => true
  | f :: t, g :: w => (Nat.beq f.2.1 g.2.1 && Nat.beq f.1 g.1) && ypc t w
  | _, _ => false
def yTI (a : yth) : Nat → yE → List (Nat × Int)
  | _, [] => []
  | j, b :: e => ((yfI a.1 j).getD (0, b.1)) :: yTI a (j + 1) e
def yTR (a : yth) : Nat → List Nat → List Nat
  | _, [] => []
  | j, _ :: e => ((yfR a.2 j).getD 0) :: yTR a (j + 1) e
def ymat (ka : yK) (b : yN) (S : yS) : Bool := ypc b.1.2.2.2 S.2.2.2 && (match ytB S.2.2.1 b.1.2.2.1 (ytF b.1.2.2.2 S.2.2.2 ([], [])) with
  | a => ymt ka b (yTI a 0 b.1.1) (yTR a 0 b.1.2.1) S)
/-- where a state stands -/
def yat (S : yS) : Nat := match S.2.2.2 with
  | f :: _ => f.1 * 10000 + f.2.1
  | [] => 0
def yexp (R : yR) (ms : Nat → Nat → Bool) (D : Nat) (ct : Nat → Nat → Option aO) (nd : Nat → List yN) (fin : yS → Bool) (ka : yK) : Nat → yS → Bool
  | 0, _ => false
  | f + 1, S => fin S || (match ystp R ms D ct S with
    | none => false
    | some L => L.all (fun S' => (nd (yat S')).any (fun b => ymat ka b S') || yexp R ms D ct nd fin ka f S'))
def ychk (R : yR) (ms : Nat → Nat → Bool) (D : Nat) (ct : Nat → Nat → Option aO) (nd : Nat → List yN) (fin : yS → Bool) (n : Nat) (b : yN) : Bool := (match llo b.1.1 b.2.2 with
  | some m => decide (0 ≤ m + b.2.1)
  | none => false) && yexp R ms D ct nd fin b.2 n b.1
theorem wp_stp {cd : Nat → Nat → Option aI} {X X' : aSt} {Q : aQ} (h : stpS cd X = some X') (g : wpS cd X' Q) : wpS cd X Q := stpS_ok h g
theorem yexp_ok {cd : Nat → Nat → Option aI} {R : yR} {ms : Nat → Nat → Bool} {rg : Nat → Nat} {M0 : aM} {D : Nat} {ct : Nat → Nat → Option aO} (hct : ∀ m p o, ct m p = some o → cd m p = some (semO o)) {nd : Nat → List yN} {fin : yS → Bool} {Q : aQ} (hfin : ∀ S ρ τ X, fin S = true → gam R ms rg M0 D S ρ τ X → wpS cd X Q) {ka : yK} {ra : Int}
    (ih : ∀ b c, b ∈ nd c → ∀ ρ τ X, gam R ms rg M0 D b.1 ρ τ X → rnk b.2 ρ < ra → wpS cd X Q) : ∀ {n : Nat} {S : yS} {ρ : List Int} {τ : List Nat} {X : aSt}, yexp R ms D ct nd fin ka n S = true → gam R ms rg M0 D S ρ τ X → rnk ka ρ ≤ ra → (∀ ρ2, rnk ka (ρ ++ ρ2) = rnk ka ρ) → wpS cd X Q
  | 0, _, _, _, _, h, _, _, _ => by cases h
  | n + 1, S, ρ, τ, X, h, hg, hr, hp => by
    unfold yexp at h
    rcases (Bool.or_eq_true _ _).mp h with h | h
    · exact hfin S ρ τ X h hg
    · split at h
      · cases h
      · rename_i L hL
        obtain ⟨X', x1, S', s1, ρ2, τ2, s2⟩ := ystp_ok hct hL hg
        refine wp_stp x1 ?_
        have h := List.all_eq_true.mp h S' s1
        have hr' : rnk ka (ρ ++ ρ2) ≤ ra := by rw [hp]; exact hr
        rcases (Bool.or_eq_true _ _).mp h with h | h
        · obtain ⟨b, b1, b2⟩ := List.any_eq_true.mp h
          obtain ⟨_, b2⟩ := (Bool.and_eq_true _ _).mp b2
          obtain ⟨m1, m2⟩ := ymt_ok b2 s2
          exact ih b _ b1 _ _ _ m1 (by omega)
        · exact yexp_ok hct hfin ih h s2 hr' (fun ρ3 => by rw [List.append_assoc, hp, hp])
theorem lev_app {ρ ρ2 : List Int} : ∀ {l : List (Int × Nat)}, (∀ q ∈ l, q.2 < ρ.length) → lev (ρ ++ ρ2) l = lev ρ l
  | [], _ => rfl
  | q :: t, h => by
    unfold lev
    rw [lev_app (fun q' hq' => h q' (List.mem_cons_of_mem _ hq')), List.getElem?_append_left (h q List.mem_cons_self)]
theorem llo_len {E : yE} : ∀ {l : List (Int × Nat)} {m : Int}, llo E l = some m → ∀ q ∈ l, q.2 < E.length
  | [], _, _, q, hq => by cases hq
  | p :: t, m, h, q, hq => by
    unfold llo at h
    split at h
    · rename_i b r hb hr
      rcases List.mem_cons.mp hq with rfl | hq
      · exact (List.getElem?_eq_some_iff.mp hb).1
      · exact llo_len hr q hq
    · cases h
/-- every state that is told comes to its end -/
theorem yall {cd : Nat → Nat → Option aI} {R : yR} {ms : Nat → Nat → Bool} {rg : Nat → Nat} {M0 : aM} {D : Nat} {ct : Nat → Nat → Option aO} (hct : ∀ m p o, ct m p = some o → cd m p = some (semO o)) {nd : Nat → List yN} {fin : yS → Bool} {Q : aQ} (hfin : ∀ S ρ τ X, fin S = true → gam R ms rg M0 D S ρ τ X → wpS cd X Q) {n : Nat} (hall : ∀ c, ∀ b ∈ nd c, ychk R ms D ct nd fin n b = true) {b : yN} {c : Nat} (hb : b ∈ nd c) {ρ : List Int} {τ : List Nat} {X : aSt} (hg : gam R ms rg M0 D b.1 ρ τ X) : wpS cd X Q := by
  have main : ∀ k : Nat, ∀ b c, b ∈ nd c → ∀ ρ τ X, gam R ms rg M0 D b.1 ρ τ X → rnk b.2 ρ < k → wpS cd X Q := by
    intro k
    induction k with
    | zero =>
      intro b c hb ρ τ X hg hr
      obtain ⟨h1, _⟩ := (Bool.and_eq_true _ _).mp (hall c b hb)
      split at h1
      · rename_i m hm
        have := llo_ok hg.1.1 hm
        have h1 := of_decide_eq_true h1
        unfold rnk at hr
        omega
      · cases h1
    | succ k ih =>
      intro b c hb ρ τ X hg hr
      obtain ⟨h1, h2⟩ := (Bool.and_eq_true _ _).mp (hall c b hb)
      refine yexp_ok hct hfin (ra := (k : Int)) (fun b' c' hb' ρ' τ' X' hg' hr' => ih b' c' hb' ρ' τ' X' hg' hr') h2 hg (by omega) (fun ρ2 => ?_)
      split at h1
      · rename_i m hm
        unfold rnk
        rw [lev_app (fun q hq => by rw [← hg.1.1.1]; exact llo_len hm q hq)]
      · cases h1
  exact main (rnk b.2 ρ).toNat.succ b c hb ρ τ X hg (by have := Int.self_le_toNat (rnk b.2 ρ); omega)

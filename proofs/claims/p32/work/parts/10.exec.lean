/-! Runs. -/
def la : Nat → List aV → aL
  | _, [] => []
  | i, v :: vs => (i, v) :: la (i + cat v) vs
def exec (cd : Nat → Nat → Option aI) : Nat → Nat → Nat → Nat → aL → List aV → aM → Option (Option aV × aM)
  | 0, _, _, _, _, _, _ => none
  | f + 1, d, mid, pc, lo, st, M => match cd mid pc with
    | none => none
    | some i => match i lo st M with
      | none => none
      | some (.inl (pc', lo', st', M')) => exec cd f d mid pc' lo' st' M'
      | some (.inr (.inl (y, As, rest))) => match d with
        | 0 => none
        | d' + 1 => match exec cd f d' y 0 (la 0 As) [] M with
          | none => none
          | some (r, M') => exec cd f (d' + 1) mid (pc + 3) lo (psh r rest) M'
      | some (.inr (.inr r)) => some (r, M)
theorem la_args {ad : Nat → Nat} : ∀ (As : List aV) (i : Nat), lv_args i (As.map (tv ad)) = (la i As).map (tq ad)
  | [], _ => rfl
  | v :: vs, i => by
    show (i, tv ad v) :: lv_args (if (tv ad v).category = 2 then i + 2 else i + 1) (vs.map (tv ad)) = (i, tv ad v) :: (la (i + cat v) vs).map (tq ad)
    rw [← la_args vs (i + cat v), tv_cat]
    congr 2
    unfold cat
    cases isL v <;> rfl
theorem la_len {ad : Nat → Nat} : ∀ As : List aV, (lg_sl (As.map (tv ad))).length = csum As
  | [] => rfl
  | v :: vs => by
    have := la_len (ad := ad) vs
    unfold lg_sl at this ⊢
    rw [List.map_cons, List.flatMap_cons, List.length_append, this, tv_cat]
    show _ = cat v + csum vs
    congr 1
    unfold cat
    cases isL v <;> rfl
theorem la_mem {q : Nat × aV} : ∀ {As : List aV} {i : Nat}, q ∈ la i As → q.2 ∈ As
  | [], _, h => by simp [la] at h
  | v :: vs, i, h => by
    rcases List.mem_cons.mp h with e | h
    · rw [e]; exact List.mem_cons_self
    · exact List.mem_cons_of_mem _ (la_mem h)
set_option maxHeartbeats 4000000 in
theorem met_of {sc : aSc} {l : Launch} {G : aF} {d : Nat} {D : va_G} {cy : Nat → ClassId} {M : aM} {As : List aV} {r : Option aV} {M' : aM} (hpl : plainFor G.1 = true) (hz9 : sc.2.2 = cyz cy) (hnl : G.1 ≠ yL_law) (hcs : csum As ≤ G.2.2.1)
    (h : ∀ (p : Program) (e : Env) (R : Room) (s : State) (m : MethodId) (args : Array Value) (below : List Frame) (meth : Method) (c : Code) (ad0 : Nat → Nat), aX sc l G p R s m args meth c D cy ad0 M → d + 1 ≤ R.frames → 60 * d + 20 ≤ R.locals → a_c M' - a_c M ≤ R.cells → a_z M' - a_z M ≤ R.slots →
      aG G p l e R s m args below meth c D cy ad0 M (MQ below (aPost D cy ad0 M s.heap.size r M') args s (a_c M' - a_c M) (a_z M' - a_z M) (aA cy ad0 M s)) 0 (la 0 As) [] M) : aMet l G d D cy M As r M' := by
  intro ad sz hwf hvA
  refine va_MetF (cc := G.2.1) (maxL := G.2.2.1) (ret := G.2.2.2) hpl rfl ?_
  intro p e s m args below meth c s₁ B hml hv
  obtain ⟨rfl, hsz, hP, hK, hD0, hE, hZ⟩ := hv
  subst hsz
  have hts := atoms_spec (ws := .code G.1 G.2.1 G.2.2.1 G.2.2.2 :: TB) B.pre
  have hX : aX sc l G p { frames := d + 1, cells := a_c M' - a_c M, slots := a_z M' - a_z M, locals := 60 * d + 20 } s m _ meth c D cy ad M := ⟨⟨B.exec, B.bytes, hml, findClass_of_methodNamed B.named, fun w hw => hts w (List.mem_cons_of_mem _ hw)⟩, B.returns, B.notSynchronized, fun e => ((name_of_methodNamed B.named B.method).1).trans e, hK, hE, Nat.le_add_left _ _, Nat.le_add_left _ _, hZ, hz9, fun e => absurd e hnl⟩
  have hl := lv_entry (As.map (tv ad)) (n := G.2.2.1) (by rw [la_len]; exact hcs)
  rw [la_args] at hl
  rw [lg_entry_eq]
  have hw := h p e { frames := d + 1, cells := a_c M' - a_c M, slots := a_z M' - a_z M, locals := 60 * d + 20 } s m _ below meth c ad hX (Nat.le_refl _) (Nat.le_refl _) (Nat.le_refl _) (Nat.le_refl _) ad s.heap [] _ agr_rf ⟨hP, hD0.self, va_S.rf, hwf, hl, fun q hq => hvA _ (la_mem hq), fun _ h => nomatch h⟩
  rw [Nat.sub_self, Nat.sub_self] at hw
  exact hw
set_option maxHeartbeats 4000000 in
theorem snd_exec {sc : aSc} {cd : Nat → Nat → Option aI} {cI : Nat → aF} (hcd : ∀ mid pc i, cd mid pc = some i → aS sc cI (cI mid) pc i) (hpl : ∀ mid pc i, cd mid pc = some i → plainFor (cI mid).1 = true) : ∀ (f d mid pc : Nat) (lo : aL) (st : List aV) (M : aM) (r : Option aV) (M' : aM), exec cd f d mid pc lo st M = some (r, M') →
    mle M M' ∧ ∀ (p : Program) (l : Launch) (e : Env) (R : Room) (s : State) (m : MethodId) (args : Array Value) (below : List Frame) (meth : Method) (c : Code) (D : va_G) (cy : Nat → ClassId) (ad0 : Nat → Nat) (M0 : aM), aX sc l (cI mid) p R s m args meth c D cy ad0 M0 → d + 1 ≤ R.frames → 60 * d + 20 ≤ R.locals → mle M0 M → a_c M' - a_c M0 ≤ R.cells → a_z M' - a_z M0 ≤ R.slots →
      aG (cI mid) p l e R s m args below meth c D cy ad0 M0 (MQ below (aPost D cy ad0 M0 s.heap.size r M') args s (a_c M' - a_c M0) (a_z M' - a_z M0) (aA cy ad0 M0 s)) pc lo st M := by
  intro f
  induction f with
  | zero => intro d mid pc lo st M r M' h; cases h
  | succ f ih =>
    intro d mid pc lo st M r M' h
    unfold exec at h
    split at h
    · cases h
    · rename_i i hi
      obtain ⟨s1, s2, s3⟩ := hcd mid pc i hi lo st M
      split at h
      · cases h
      · rename_i pc' lo' st' M1 he
        obtain ⟨g1, g3⟩ := ih d mid pc' lo' st' M1 r M' h
        obtain ⟨k1, k3⟩ := s1 _ _ _ _ he
        refine ⟨mle_tr k1 g1, ?_⟩
        intro p l e R s m args below meth c D cy ad0 M0 hX hf hlo hn0 hc hs
        have q1 := g1.2.1
        have q2 := g1.2.2
        exact k3 p l e R s m args below meth c D cy ad0 M0 _ hX hn0 (by omega) (by omega) (g3 p l e R s m args below meth c D cy ad0 M0 hX hf hlo (mle_tr hn0 k1) hc hs)
      · rename_i y As rest he
        obtain ⟨k0, k9, k1⟩ := s2 _ _ _ he
        split at h
        · cases h
        · rename_i d'
          split at h
          · cases h
          · rename_i r1 M1 he1
            obtain ⟨g1, g3⟩ := ih d' y 0 (la 0 As) [] M r1 M1 he1
            obtain ⟨q1, q3⟩ := ih (d' + 1) mid (pc + 3) lo (psh r1 rest) M1 r M' h
            refine ⟨mle_tr g1 q1, ?_⟩
            intro p l e R s m args below meth c D cy ad0 M0 hX hf hlo hn0 hc hs
            have hy : ∃ i9, cd y 0 = some i9 := by
              cases f with
              | zero => cases he1
              | succ f =>
                unfold exec at he1
                split at he1
                · cases he1
                · rename_i i9 h9
                  exact ⟨i9, h9⟩
            obtain ⟨i9, h9⟩ := hy
            have z1 := q1.2.1
            have z2 := q1.2.2
            exact k1 p l e R s m args below meth c D cy ad0 M0 _ d' r1 M1 hX hn0 g1 (by omega) (by omega) (by omega) (by omega)
              (met_of (sc := sc) (hpl y 0 i9 h9) hX.2.2.2.2.2.2.2.2.2.1 k9 k0 (fun p e R s m args below meth c ad0 a1 a2 a3 a4 a5 => g3 p l e R s m args below meth c D cy ad0 M a1 a2 a3 mle_rf a4 a5))
              (q3 p l e R s m args below meth c D cy ad0 M0 hX hf hlo (mle_tr hn0 (mle_tr g1 mle_rf)) hc hs)
      · rename_i r1 he
        cases h
        refine ⟨mle_rf, ?_⟩
        intro p l e R s m args below meth c D cy ad0 M0 hX hf hlo hn0 hc hs
        exact s3 _ he p l e R s m args below meth c D cy ad0 M0 hX
/-- a method's contract out of a run -/
theorem exec_met {sc : aSc} {cd : Nat → Nat → Option aI} {cI : Nat → aF} (hcd : ∀ mid pc i, cd mid pc = some i → aS sc cI (cI mid) pc i) (hpl : ∀ mid pc i, cd mid pc = some i → plainFor (cI mid).1 = true) {f d y : Nat} {As : List aV} {M : aM} {r : Option aV} {M' : aM} (h : exec cd f d y 0 (la 0 As) [] M = some (r, M')) (hcs : csum As ≤ (cI y).2.2.1) (hp : plainFor (cI y).1 = true) (hnl : (cI y).1 ≠ yL_law) (l : Launch) (D : va_G) (cy : Nat → ClassId) (hz9 : sc.2.2 = cyz cy) : mle M M' ∧ aMet l (cI y) d D cy M As r M' := by
  obtain ⟨g1, g3⟩ := snd_exec hcd hpl f d y 0 (la 0 As) [] M r M' h
  exact ⟨g1, met_of (sc := sc) hp hz9 hnl hcs (fun p e R s m args below meth c ad0 a1 a2 a3 a4 a5 => g3 p l e R s m args below meth c D cy ad0 M a1 a2 a3 mle_rf a4 a5)⟩

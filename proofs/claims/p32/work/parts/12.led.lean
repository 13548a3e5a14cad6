/-! led: the class's throws where there is none; the law's own catches it. -/
def exl (cd : Nat → Nat → Option aI) (stop : Nat) : Nat → Nat → Nat → Nat → aL → List aV → aM → Option ((Option aV × aM) ⊕ (aL × List aV × aM))
  | 0, _, _, _, _, _, _ => none
  | f + 1, d, mid, pc, lo, st, M => bif Nat.beq pc stop then some (.inr (lo, st, M)) else match cd mid pc with
    | none => none
    | some i => match i lo st M with
      | none => none
      | some (.inl (pc', lo', st', M')) => exl cd stop f d mid pc' lo' st' M'
      | some (.inr (.inl (y, As, rest))) => match d with
        | 0 => none
        | d' + 1 => match exec cd f d' y 0 (la 0 As) [] M with
          | none => none
          | some (r, M') => exl cd stop f (d' + 1) mid (pc + 3) lo (psh r rest) M'
      | some (.inr (.inr r)) => some (.inl (r, M))
theorem exl_exec {cd : Nat → Nat → Option aI} {stop : Nat} : ∀ (f d mid pc : Nat) (lo : aL) (st : List aV) (M : aM) (r : Option aV) (M' : aM), exl cd stop f d mid pc lo st M = some (.inl (r, M')) → exec cd f d mid pc lo st M = some (r, M') := by
  intro f
  induction f with
  | zero => intro d mid pc lo st M r M' h; cases h
  | succ f ih =>
    intro d mid pc lo st M r M' h
    unfold exl at h
    unfold exec
    cases hb : Nat.beq pc stop with
    | true => rw [hb] at h; cases h
    | false =>
      rw [hb] at h
      simp only [cond_false] at h
      split at h
      · cases h
      · rename_i i hi
        rw [hi]
        simp only
        split at h
        · cases h
        · rename_i he
          rw [he]
          exact ih _ _ _ _ _ _ _ _ h
        · rename_i y As rest he
          rw [he]
          simp only
          split at h
          · cases h
          · split at h
            · cases h
            · rename_i d' _ r1 M1 he1
              show (match exec cd f d' y 0 (la 0 As) [] M with
                | none => none
                | some (r, M') => exec cd f (d' + 1) mid (pc + 3) lo (psh r rest) M') = some (r, M')
              rw [he1]
              exact ih _ _ _ _ _ _ _ _ h
        · rename_i he
          rw [he]
          cases h
          rfl
set_option maxHeartbeats 4000000 in
theorem snd_exl {sc : aSc} {cd : Nat → Nat → Option aI} {cI : Nat → aF} (hcd : ∀ mid pc i, cd mid pc = some i → aS sc cI (cI mid) pc i) (hpl : ∀ mid pc i, cd mid pc = some i → plainFor (cI mid).1 = true) {stop : Nat} : ∀ (f d mid pc : Nat) (lo : aL) (st : List aV) (M : aM) (lo' : aL) (st' : List aV) (M' : aM), exl cd stop f d mid pc lo st M = some (.inr (lo', st', M')) →
    mle M M' ∧ ∀ (p : Program) (l : Launch) (e : Env) (R : Room) (s : State) (m : MethodId) (args : Array Value) (below : List Frame) (meth : Method) (c : Code) (D : va_G) (cy : Nat → ClassId) (ad0 : Nat → Nat) (M0 : aM) (Q : State → Prop), aX sc l (cI mid) p R s m args meth c D cy ad0 M0 → d + 1 ≤ R.frames → 60 * d + 20 ≤ R.locals → mle M0 M → a_c M' - a_c M0 ≤ R.cells → a_z M' - a_z M0 ≤ R.slots →
      aG (cI mid) p l e R s m args below meth c D cy ad0 M0 Q stop lo' st' M' → aG (cI mid) p l e R s m args below meth c D cy ad0 M0 Q pc lo st M := by
  intro f
  induction f with
  | zero => intro d mid pc lo st M lo' st' M' h; cases h
  | succ f ih =>
    intro d mid pc lo st M lo' st' M' h
    unfold exl at h
    cases hb : Nat.beq pc stop with
    | true =>
      rw [hb] at h
      cases h
      have := nbT hb
      subst this
      exact ⟨mle_rf, fun p l e R s m args below meth c D cy ad0 M0 Q _ _ _ _ _ _ h => h⟩
    | false =>
      rw [hb] at h
      simp only [cond_false] at h
      split at h
      · cases h
      · rename_i i hi
        obtain ⟨s1, s2, s3⟩ := hcd mid pc i hi lo st M
        split at h
        · cases h
        · rename_i pc1 lo1 st1 M1 he
          obtain ⟨g1, g3⟩ := ih d mid pc1 lo1 st1 M1 lo' st' M' h
          obtain ⟨k1, k3⟩ := s1 _ _ _ _ he
          refine ⟨mle_tr k1 g1, ?_⟩
          intro p l e R s m args below meth c D cy ad0 M0 Q hX hf hlo hn0 hc hs hG
          have q1 := g1.2.1
          have q2 := g1.2.2
          exact k3 p l e R s m args below meth c D cy ad0 M0 _ hX hn0 (by omega) (by omega) (g3 p l e R s m args below meth c D cy ad0 M0 Q hX hf hlo (mle_tr hn0 k1) hc hs hG)
        · rename_i y As rest he
          obtain ⟨k0, k9, k1⟩ := s2 _ _ _ he
          split at h
          · cases h
          · rename_i d'
            split at h
            · cases h
            · rename_i r1 M1 he1
              obtain ⟨q1, q3⟩ := ih (d' + 1) mid (pc + 3) lo (psh r1 rest) M1 lo' st' M' h
              have hy : ∃ i9, cd y 0 = some i9 := by
                cases f with
                | zero => cases he1
                | succ f =>
                  unfold exec at he1
                  split at he1
                  · cases he1
                  · rename_i i9 h9
                    exact ⟨i9, h9⟩
              obtain ⟨i9, h9⟩ := hy
              obtain ⟨g1, -⟩ := snd_exec hcd hpl f d' y 0 (la 0 As) [] M r1 M1 he1
              refine ⟨mle_tr g1 q1, ?_⟩
              intro p l e R s m args below meth c D cy ad0 M0 Q hX hf hlo hn0 hc hs hG
              have z1 := q1.2.1
              have z2 := q1.2.2
              exact k1 p l e R s m args below meth c D cy ad0 M0 _ d' r1 M1 hX hn0 g1 (by omega) (by omega) (by omega) (by omega)
                (exec_met hcd hpl he1 k0 (hpl y 0 i9 h9) k9 l D cy hX.2.2.2.2.2.2.2.2.2.1).2
                (q3 p l e R s m args below meth c D cy ad0 M0 Q hX hf hlo (mle_tr hn0 g1) hc hs hG)
        · cases h
/-- a cell of six slots more, of which nothing is known: the exception -/
def a_bmp (M : aM) : aM := (M.1, M.2.1 + 6, M.2.2.1 + 1, M.2.2.2)
abbrev led_nm : List String := ["java/lang/RuntimeException", "java/lang/Exception"]
/-- what a throw leaves behind -/
def led_B (D : va_G) (cy : Nat → ClassId) (ad : Nat → Nat) (M : aM) (sz : Nat) (M1 : aM) (E : String) (ad' : Nat → Nat) (t : State) : Prop := E = aNSE ∧ agr (a_n M) ad ad' ∧ va_P D vwCl (wl cy ad' M1) t.heap ∧ va_D (va_A (wl cy ad M) sz) (wl cy ad' M1) ∧ wf M1
set_option maxHeartbeats 4000000 in
theorem led_throws {sc : aSc} {cd : Nat → Nat → Option aI} {cI : Nat → aF} (hcd : ∀ mid pc i, cd mid pc = some i → aS sc cI (cI mid) pc i) (hpl : ∀ mid pc i, cd mid pc = some i → plainFor (cI mid).1 = true) {l : Launch} (hl : l.stackTraces = false) {f d y stop ik ic : Nat} {As : List aV} {M M1 : aM} {lo1 : aL} {G : aF} (hG : cI y = G) (hst : exl cd stop f d y 0 (la 0 As) [] M = some (.inr (lo1, [], M1)))
    (hp : plainName G.1.cls = true) (hnl : G.1 ≠ yL_law) (hcs : csum As ≤ G.2.2.1) (d0 : decode G.2.1 stop = .ok (.new ik, 3)) (d3 : decode G.2.1 (stop + 3) = .ok (.dup, 1)) (d4 : decode G.2.1 (stop + 4) = .ok (.invokespecial ic, 3)) (d7 : decode G.2.1 (stop + 7) = .ok (.athrow, 1))
    (hk : Cond.classLink G.1.cls ik aNSE ∈ TB) (hini : Cond.initialized aNSE ∈ TB) (hat : ∀ w ∈ (vx_at0 G.1.cls ic aNSE led_nm).filter goodWord, w ∈ TB) (hat2 : ∀ w ∈ (vx_at0 G.1.cls ic aNSE led_nm).filter (fun w => !goodWord w), w ∈ NW) (hgood : ∀ w ∈ Cond.classLink G.1.cls ik aNSE :: Cond.initialized aNSE :: vx_at0 G.1.cls ic aNSE led_nm, vx_ot w = true)
    (D : va_G) (cy : Nat → ClassId) (hz9 : sc.2.2 = cyz cy) (ad : Nat → Nat) (sz : Nat) (hwf : wf M) (hvA : ∀ v ∈ As, vok (a_n M) v) :
    vx_Met l G.1 (.code G.1 G.2.1 G.2.2.1 G.2.2.2 :: TB) { frames := d + 8, cells := a_c (a_bmp M1) - a_c M, slots := a_z (a_bmp M1) - a_z M, locals := 60 * d + 200 } (va_Pc (As.map (tv ad)) (aPre D cy ad M sz)) (va_Qi (fun (_ : Int32) (_ : Unit) => False) (fun _ _ => True) (va_A (wl cy ad M) sz)) (vx_X (fun _ : Nat → Nat => True) (led_B D cy ad M sz M1) (va_A (wl cy ad M) sz)) (a_c (a_bmp M1) - a_c M) (a_z (a_bmp M1) - a_z M) (va_A (wl cy ad M) sz) := by
  obtain ⟨g1, g3⟩ := snd_exl hcd hpl f d y 0 (la 0 As) [] M lo1 [] M1 hst
  rw [hG] at g3
  refine vx_ofW (cc := G.2.1) (maxL := G.2.2.1) (ret := G.2.2.2) hp rfl ?_
  intro p e s m args below meth c s₁ B hml hex hv
  obtain ⟨rfl, hsz, hP, hK, hD0, hE, hZ⟩ := hv
  subst hsz
  have hts := atoms_spec (ws := .code G.1 G.2.1 G.2.2.1 G.2.2.2 :: TB) B.pre
  have htb : ∀ w ∈ TB, w.before _ s = true := fun w hw => hts w (List.mem_cons_of_mem _ hw)
  have hX : aX sc l G p { frames := d + 8, cells := a_c (a_bmp M1) - a_c M, slots := a_z (a_bmp M1) - a_z M, locals := 60 * d + 200 } s m _ meth c D cy ad M := ⟨⟨B.exec, B.bytes, hml, findClass_of_methodNamed B.named, htb⟩, B.returns, B.notSynchronized, fun e => ((name_of_methodNamed B.named B.method).1).trans e, hK, hE, by show 1 ≤ d + 8; omega, by show 20 ≤ 60 * d + 200; omega, hZ, hz9, fun e => absurd e hnl⟩
  have hl9 := lv_entry (As.map (tv ad)) (n := G.2.2.1) (by rw [la_len]; exact hcs)
  rw [la_args] at hl9
  rw [lg_entry_eq]
  have q1 := g1.2.1
  have q2 := g1.2.2
  have c1 : a_c (a_bmp M1) - a_c M = a_c M1 - a_c M + 1 := by show a_c M1 + 1 - a_c M = _; omega
  have c2 : a_z (a_bmp M1) - a_z M = a_z M1 - a_z M + 6 := by show a_z M1 + 6 - a_z M = _; omega
  have hw := g3 p l e { frames := d + 8, cells := a_c (a_bmp M1) - a_c M, slots := a_z (a_bmp M1) - a_z M, locals := 60 * d + 200 } s m _ below meth c D cy ad M (vx_MQ below (va_Qi (fun (_ : Int32) (_ : Unit) => False) (fun _ _ => True) (va_A (wl cy ad M) s.heap.size)) (vx_X (fun _ : Nat → Nat => True) (led_B D cy ad M s.heap.size M1) (va_A (wl cy ad M) s.heap.size)) _ s (a_c (a_bmp M1) - a_c M) (a_z (a_bmp M1) - a_z M) (va_A (wl cy ad M) s.heap.size)) hX (by show d + 1 ≤ d + 8; omega) (by show 60 * d + 20 ≤ 60 * d + 200; omega) mle_rf (by show a_c M1 - a_c M ≤ a_c (a_bmp M1) - a_c M; omega) (by show a_z M1 - a_z M ≤ a_z (a_bmp M1) - a_z M; omega) (fun ad1 H locs ls ha hW => by
    obtain ⟨hP1, hD1, hS1, hwf1, hl1, hvl1, hvs1⟩ := hW
    refine vx_throw0 (own := G.1.cls) (cls := aNSE) (names := led_nm) (ik := ik) (ic := ic) (A := aA cy ad M s) (rest := []) B.exec B.bytes hl (findClass_of_methodNamed B.named) (by decide +kernel) (by decide +kernel) (htb _ hk) (htb _ hini)
      (vx_hat (fun w hw => htb w (hat w hw)) hat2 (fun w hw => hE.2.nest hw)) hgood hZ.1.1 hZ.1.2 hS1 (by rw [hml]; exact hl1.1) d0 d3 d4 d7 (fun x hx => absurd hx (fun z => hex x z)) (by show 2 + 3 < d + 8; omega) (by show 0 + (13 * (2 + 1) + 42) ≤ 60 * d + 200; omega) (by rw [c1]; exact Nat.le_refl _) (by rw [c2]; exact Nat.le_refl _) B.notSynchronized ?_ hS1.2.2 (by rw [c1]; exact Nat.le_refl _) (by rw [c2]; exact Nat.le_refl _)
    intro t hvm hz hk9
    refine ⟨ad1, trivial, ⟨rfl, ha, hP1.kept (fun k q hq => hk9 q.1 ((hP1 k q hq).lt)), hD1, hwf1⟩, Nat.le_trans hS1.1 hz, fun q h1 h2 => ?_⟩
    rw [hk9 q (Nat.lt_of_lt_of_le h1 hS1.1)]
    exact hS1.2.1 q h1 h2) ad s.heap [] _ agr_rf ⟨hP, hD0.self, va_S.rf, hwf, hl9, fun q hq => hvA _ (la_mem hq), fun _ h => nomatch h⟩
  rw [Nat.sub_self, Nat.sub_self] at hw
  exact hw
set_option maxHeartbeats 4000000 in
theorem met_ofH {sc : aSc} {l : Launch} {G : aF} {hh : List (Nat × Nat × Nat × Nat)} {d : Nat} {D : va_G} {cy : Nat → ClassId} {M : aM} {As : List aV} {r : Option aV} {M' : aM} (hpl : plainName G.1.cls = true) (hz9 : sc.2.2 = cyz cy) (hnl : G.1 ≠ yL_law) (hcs : csum As ≤ G.2.2.1)
    (h : ∀ (p : Program) (e : Env) (R : Room) (s : State) (m : MethodId) (args : Array Value) (below : List Frame) (meth : Method) (c : Code) (ad0 : Nat → Nat), aX sc l G p R s m args meth c D cy ad0 M → d + 1 ≤ R.frames → 60 * d + 20 ≤ R.locals → a_c M' - a_c M ≤ R.cells → a_z M' - a_z M ≤ R.slots →
      aG G p l e R s m args below meth c D cy ad0 M (MQ below (aPost D cy ad0 M s.heap.size r M') args s (a_c M' - a_c M) (a_z M' - a_z M) (aA cy ad0 M s)) 0 (la 0 As) [] M) (ad : Nat → Nat) (sz : Nat) (hwf : wf M) (hvA : ∀ v ∈ As, vok (a_n M) v) :
    Met l G.1 (.codeWith G.1 G.2.1 G.2.2.1 G.2.2.2 hh :: TB) { frames := d + 1, cells := a_c M' - a_c M, slots := a_z M' - a_z M, locals := 60 * d + 20 } (va_Pc (As.map (tv ad)) (aPre D cy ad M sz)) (aPost D cy ad M sz r M') (a_c M' - a_c M) (a_z M' - a_z M) (va_A (wl cy ad M) sz) := by
  refine va_MetW (cc := G.2.1) (maxL := G.2.2.1) (ret := G.2.2.2) hpl rfl ?_
  intro p e s m args below meth c s₁ B hml hv
  obtain ⟨rfl, hsz, hP, hK, hD0, hE, hZ⟩ := hv
  subst hsz
  have hts := atoms_spec (ws := .codeWith G.1 G.2.1 G.2.2.1 G.2.2.2 hh :: TB) B.pre
  have hX : aX sc l G p { frames := d + 1, cells := a_c M' - a_c M, slots := a_z M' - a_z M, locals := 60 * d + 20 } s m _ meth c D cy ad M := ⟨⟨B.exec, B.bytes, hml, findClass_of_methodNamed B.named, fun w hw => hts w (List.mem_cons_of_mem _ hw)⟩, B.returns, B.notSynchronized, fun e => ((name_of_methodNamed B.named B.method).1).trans e, hK, hE, Nat.le_add_left _ _, Nat.le_add_left _ _, hZ, hz9, fun e => absurd e hnl⟩
  have hl := lv_entry (As.map (tv ad)) (n := G.2.2.1) (by rw [la_len]; exact hcs)
  rw [la_args] at hl
  rw [lg_entry_eq]
  have hw := h p e { frames := d + 1, cells := a_c M' - a_c M, slots := a_z M' - a_z M, locals := 60 * d + 20 } s m _ below meth c ad hX (Nat.le_refl _) (Nat.le_refl _) (Nat.le_refl _) (Nat.le_refl _) ad s.heap [] _ agr_rf ⟨hP, hD0.self, va_S.rf, hwf, hl, fun q hq => hvA _ (la_mem hq), fun _ h => nomatch h⟩
  rw [Nat.sub_self, Nat.sub_self] at hw
  exact hw

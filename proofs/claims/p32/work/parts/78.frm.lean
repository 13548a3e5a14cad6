/-! Calls and returns: frames. -/
def yla : Nat → List yV → yL
  | _, [] => []
  | i, v :: vs => (i, v) :: yla (i + 1) vs
def ynl (s : List yV) : Bool := s.all yni
theorem gK_nl {ρ : List Int} {τ : List Nat} : ∀ {s : List yV} {st : List aV}, gK ρ τ s st → ynl s = true → csum st = s.length
  | [], [], _, _ => rfl
  | a :: s, v :: st, h, hn => by
    have hn' := (Bool.and_eq_true _ _).mp (show (yni a && ynl s) = true from hn)
    show cat v + csum st = s.length + 1
    rw [gK_nl h.2 hn'.2]
    unfold cat
    rw [yv_isL h.1 hn'.1]
    simp only [cond_false]
    omega
  | [], _ :: _, h, _ => h.elim
  | _ :: _, [], h, _ => h.elim
theorem gK_len {ρ : List Int} {τ : List Nat} : ∀ {s : List yV} {st : List aV}, gK ρ τ s st → s.length = st.length
  | [], [], _ => rfl
  | _ :: s, _ :: st, h => by show s.length + 1 = st.length + 1; rw [gK_len h.2]
  | [], _ :: _, h => h.elim
  | _ :: _, [], h => h.elim
theorem gK_drop {ρ : List Int} {τ : List Nat} : ∀ {n : Nat} {s : List yV} {st : List aV}, gK ρ τ s st → gK ρ τ (s.drop n) (st.drop n)
  | 0, _, _, h => h
  | n + 1, [], [], h => h
  | n + 1, _ :: s, _ :: st, h => gK_drop (n := n) h.2
  | _ + 1, [], _ :: _, h => h.elim
  | _ + 1, _ :: _, [], h => h.elim
theorem gK_take {ρ : List Int} {τ : List Nat} : ∀ {n : Nat} {s : List yV} {st : List aV}, gK ρ τ s st → gK ρ τ (s.take n) (st.take n)
  | 0, _, _, _ => trivial
  | n + 1, [], [], h => h
  | n + 1, _ :: s, _ :: st, h => ⟨h.1, gK_take (n := n) h.2⟩
  | _ + 1, [], _ :: _, h => h.elim
  | _ + 1, _ :: _, [], h => h.elim
theorem gK_app {ρ : List Int} {τ : List Nat} : ∀ {s : List yV} {st : List aV} {t : List yV} {tt : List aV}, gK ρ τ s st → gK ρ τ t tt → gK ρ τ (s ++ t) (st ++ tt)
  | [], [], _, _, _, h => h
  | _ :: _, _ :: _, _, _, h, g => ⟨h.1, gK_app h.2 g⟩
  | [], _ :: _, _, _, h, _ => h.elim
  | _ :: _, [], _, _, h, _ => h.elim
theorem gK_rev {ρ : List Int} {τ : List Nat} : ∀ {s : List yV} {st : List aV}, gK ρ τ s st → gK ρ τ s.reverse st.reverse
  | [], [], _ => trivial
  | a :: s, v :: st, h => by
    rw [List.reverse_cons, List.reverse_cons]
    exact gK_app (gK_rev h.2) ⟨h.1, trivial⟩
  | [], _ :: _, h => h.elim
  | _ :: _, [], h => h.elim
theorem gL_la {ρ : List Int} {τ : List Nat} : ∀ {s : List yV} {st : List aV} {i : Nat}, gK ρ τ s st → ynl s = true → gL (yla i s) ρ τ (la i st)
  | [], [], _, _, _ => fun j s h => by cases h
  | a :: s, v :: st, i, h, hn => by
    have hn' := (Bool.and_eq_true _ _).mp (show (yni a && ynl s) = true from hn)
    intro j q hq
    show ∃ w, lk j ((i, v) :: la (i + cat v) st) = some w ∧ yv ρ τ q w
    have hc : cat v = 1 := by
      unfold cat
      rw [yv_isL h.1 hn'.1]
      rfl
    rw [hc]
    have hq : (bif Nat.beq i j then some a else ylk j (yla (i + 1) s)) = some q := hq
    show ∃ w, (bif Nat.beq i j then some v else lk j (la (i + 1) st)) = some w ∧ yv ρ τ q w
    cases hb : Nat.beq i j with
    | true =>
      rw [hb] at hq
      cases hq
      exact ⟨v, rfl, h.1⟩
    | false =>
      rw [hb] at hq
      exact gL_la h.2 hn'.2 j q hq
  | [], _ :: _, _, h, _ => h.elim
  | _ :: _, [], _, h, _ => h.elim
/-- the steps that make or leave a frame; D: how deep a run may go -/
def yopF (R : yR) (D : Nat) (o : aO) (E : yE) (G : List Nat) (B : yB) (mid pc : Nat) (lo : yL) (st : List yV) (fs : List yF) : Option (List yS) := match o with
  | (27, y, ci, n, mx, _) => match st.drop n with
    | .inr (.inr (some i)) :: rest => match yrg R G i ci with
      | none => none
      | some _ => bif (Nat.blt fs.length D && ynl st) && (Nat.ble rest.length 8 && (Nat.beq (st.take n).length n && Nat.ble (n + 1) mx)) then some [(E, G, B, (y, 0, yla 0 (.inr (.inr (some i)) :: (st.take n).reverse), []) :: (mid, pc + 3, lo, rest) :: fs)] else none
    | _ => none
  | (28, y, n, mx, _, _) => bif (Nat.blt fs.length D && ynl st) && (Nat.ble (st.drop n).length 8 && (Nat.beq (st.take n).length n && Nat.ble n mx)) then some [(E, G, B, (y, 0, yla 0 (st.take n).reverse, []) :: (mid, pc + 3, lo, st.drop n) :: fs)] else none
  | (24, b, _, _, _, _) => match st, fs with
    | [.inl q], f :: w => bif !nB b || ywi E q 0 1 then some [(E, G, B, (f.1, f.2.1, f.2.2.1, .inl q :: f.2.2.2) :: w)] else none
    | _, _ => none
  | (25, _, _, _, _, _) => match st, fs with
    | [], f :: w => some [(E, G, B, f :: w)]
    | _, _ => none
  | (26, _, _, _, _, _) => match st, fs with
    | [.inr (.inr r)], f :: w => some [(E, G, B, (f.1, f.2.1, f.2.2.1, .inr (.inr r) :: f.2.2.2) :: w)]
    | _, _ => none
  | _ => none
theorem isB_wi {E : yE} {ρ : List Int} {τ : List Nat} {q : Nat × Int} {y : Int32} {b : Nat} (h : (!nB b || ywi E q 0 1) = true) (hE : gE E ρ) (hv : yv ρ τ (.inl q) (.inl y)) : (!nB b || isB y) = true := by
  cases hn : nB b with
  | false => rfl
  | true =>
    rw [hn] at h
    have := ywi_ok (l := 0) (h := 1) (by simpa using h) hE hv
    show isB y = true
    unfold isB
    have h0 : y.toInt = 0 ∨ y.toInt = 1 := by omega
    rcases h0 with h0 | h0
    · rw [show y = 0 from Int32.toInt_inj.mp h0]; rfl
    · rw [show y = 1 from Int32.toInt_inj.mp h0]; rfl
theorem gam_self {R : yR} {ms : Nat → Nat → Bool} {rg : Nat → Nat} {M0 : aM} {D : Nat} {S : yS} {ρ : List Int} {τ : List Nat} {X : aSt} (h : gam R ms rg M0 D S ρ τ X) : ∃ ρ2 τ2, gam R ms rg M0 D S (ρ ++ ρ2) (τ ++ τ2) X := ⟨[], [], by simpa using h⟩
theorem step_call {cd : Nat → Nat → Option aI} {d : Nat} {fs : List aFr} {mid pc : Nat} {lo : aL} {st : List aV} {M : aM} {i : aI} {y : Nat} {As rest : List aV} (hi : cd mid pc = some i) (he : i lo st M = some (.inr (.inl (y, As, rest)))) : stpS cd (d + 1, fs, mid, pc, lo, st, M) = some (d, (mid, pc + 3, lo, rest) :: fs, y, 0, la 0 As, [], M) := by
  unfold stpS
  simp only
  rw [hi]
  simp only
  rw [he]
theorem step_ret {cd : Nat → Nat → Option aI} {d : Nat} {fs : List aFr} {f : aFr} {mid pc : Nat} {lo : aL} {st : List aV} {M : aM} {i : aI} {r : Option aV} (hi : cd mid pc = some i) (he : i lo st M = some (.inr (.inr r))) : stpS cd (d, f :: fs, mid, pc, lo, st, M) = some (d + 1, fs, f.1, f.2.1, f.2.2.1, psh r f.2.2.2, M) := by
  unfold stpS
  simp only
  rw [hi]
  simp only
  rw [he]
theorem step_go {cd : Nat → Nat → Option aI} {d : Nat} {fs : List aFr} {mid pc : Nat} {lo : aL} {st : List aV} {M : aM} {i : aI} {pc' : Nat} {lo' : aL} {st' : List aV} {M' : aM} (hi : cd mid pc = some i) (he : i lo st M = some (.inl (pc', lo', st', M'))) : stpS cd (d, fs, mid, pc, lo, st, M) = some (d, fs, mid, pc', lo', st', M') := by
  unfold stpS
  simp only
  rw [hi]
  simp only
  rw [he]
theorem gF_cons {ρ : List Int} {τ : List Nat} {f : yF} {t : List yF} {gs : List aFr} (h : gF ρ τ (f :: t) gs) : ∃ g w, gs = g :: w ∧ (f.1 = g.1 ∧ f.2.1 = g.2.1 ∧ gL f.2.2.1 ρ τ g.2.2.1 ∧ gK ρ τ f.2.2.2 g.2.2.2) ∧ gF ρ τ t w := by
  rcases gs with _ | ⟨g, w⟩
  · exact h.elim
  · exact ⟨g, w, rfl, h.1, h.2⟩
theorem gF_len {ρ : List Int} {τ : List Nat} : ∀ {s : List yF} {st : List aFr}, gF ρ τ s st → s.length = st.length
  | [], [], _ => rfl
  | _ :: s, _ :: st, h => by show s.length + 1 = st.length + 1; rw [gF_len h.2]
  | [], _ :: _, h => h.elim
  | _ :: _, [], h => h.elim
set_option maxHeartbeats 2000000 in
theorem yopF_ok {cd : Nat → Nat → Option aI} {R : yR} {ms : Nat → Nat → Bool} {rg : Nat → Nat} {M0 : aM} {D : Nat} {o : aO} {E : yE} {G : List Nat} {B : yB} {mid pc : Nat} {l : yL} {s : List yV} {fs : List yF} {L : List yS} {ρ : List Int} {τ : List Nat} {X : aSt} (hi : cd mid pc = some (semO o)) (e : yopF R D o E G B mid pc l s fs = some L) (h : gam R ms rg M0 D (E, G, B, (mid, pc, l, s) :: fs) ρ τ X) : ySt cd R ms rg M0 D ρ τ X L := by
  obtain ⟨d, cfs, mid', pc', lo, st, M⟩ := X
  obtain ⟨h1, h2, h3, h4, ⟨q1, q2, q3, q4⟩, q5⟩ := h
  simp only at h1 h2 h3 h4 q1 q2 q3 q4 q5
  subst q1
  subst q2
  have hlen := gF_len q5
  unfold yopF at e
  split at e
  · rename_i y ci n mx _
    split at e
    · rename_i i rest hd
      split at e
      · cases e
      · rename_i r hr
        obtain ⟨e1, e2⟩ := bifE e
        subst e2
        obtain ⟨e2, e3⟩ := (Bool.and_eq_true _ _).mp e1
        obtain ⟨e4, e5⟩ := (Bool.and_eq_true _ _).mp e2
        obtain ⟨e6, e7⟩ := (Bool.and_eq_true _ _).mp e3
        obtain ⟨e8, e9⟩ := (Bool.and_eq_true _ _).mp e7
        have hkd := gK_drop (n := n) q4
        rw [hd] at hkd
        obtain ⟨v, w1, hw, v1, v2⟩ := gK_cons hkd
        obtain ⟨a, rfl, ha⟩ := inv_ref v1
        obtain ⟨g1, g2, g3, g4, g5, g6, g7⟩ := yrg_ok hr h3.1 h1.2.1 ha
        have hkt := gK_rev (gK_take (n := n) q4)
        have hall : ∀ t, t ∈ s → yni t = true := fun t ht => List.all_eq_true.mp e5 t ht
        have hnr : ynl rest = true := List.all_eq_true.mpr (fun t ht => hall t (List.mem_of_mem_drop (by rw [hd]; exact List.mem_cons_of_mem _ ht)))
        have hnt : ynl (.inr (.inr (some i)) :: (s.take n).reverse) = true := List.all_eq_true.mpr (fun t ht => by
          rcases List.mem_cons.mp ht with rfl | ht
          · rfl
          · exact hall t (List.mem_of_mem_take (List.mem_reverse.mp ht)))
        have hK2 : gK ρ τ (.inr (.inr (some i)) :: (s.take n).reverse) (.inr (.inr (some a)) :: (st.take n).reverse) := ⟨v1, hkt⟩
        have c1 := gK_nl v2 hnr
        have c2 := gK_nl hK2 hnt
        have c3 : (st.take n).length = n := by rw [← gK_len (gK_take (n := n) q4)]; exact nbT e8
        have hd0 : 0 < d := by
          have := blt_lt e4
          omega
        obtain ⟨d', rfl⟩ : ∃ d', d = d' + 1 := ⟨d - 1, by omega⟩
        refine ⟨_, step_call (i := j_callv y ci n mx) (y := y) (As := .inr (.inr (some a)) :: (st.take n).reverse) (rest := w1) hi ?_, _, List.mem_cons_self, ?_⟩
        · show (match st.drop n with
            | .inr (.inr (some a)) :: rest => _
            | _ => none) = _
          rw [hw]
          show (bif _ then _ else _) = _
          rw [g6, g7, c1, Nat.ble_eq.mpr (Nat.le_of_ble_eq_true e6), c3, Nat.beq_refl, c2]
          have : Nat.ble (Sum.inr (Sum.inr (some i)) :: (List.take n s).reverse).length mx = true := by
            apply Nat.ble_eq.mpr
            have := Nat.le_of_ble_eq_true e9
            have h9 : (s.take n).length = n := nbT e8
            rw [List.length_cons, List.length_reverse, h9]
            exact this
          rw [this]
          rfl
        · refine gam_self ⟨h1, h2, h3, ?_, ⟨rfl, rfl, gL_la hK2 hnt, trivial⟩, ⟨rfl, rfl, q3, v2⟩, q5⟩
          show D ≤ d' + (cfs.length + 1)
          omega
    · cases e
  · rename_i y n mx _ _
    obtain ⟨e1, e2⟩ := bifE e
    subst e2
    obtain ⟨e2, e3⟩ := (Bool.and_eq_true _ _).mp e1
    obtain ⟨e4, e5⟩ := (Bool.and_eq_true _ _).mp e2
    obtain ⟨e6, e7⟩ := (Bool.and_eq_true _ _).mp e3
    obtain ⟨e8, e9⟩ := (Bool.and_eq_true _ _).mp e7
    have hkd := gK_drop (n := n) q4
    have hkt := gK_rev (gK_take (n := n) q4)
    have hall : ∀ t, t ∈ s → yni t = true := fun t ht => List.all_eq_true.mp e5 t ht
    have hnr : ynl (s.drop n) = true := List.all_eq_true.mpr (fun t ht => hall t (List.mem_of_mem_drop ht))
    have hnt : ynl (s.take n).reverse = true := List.all_eq_true.mpr (fun t ht => hall t (List.mem_of_mem_take (List.mem_reverse.mp ht)))
    have c1 := gK_nl hkd hnr
    have c2 := gK_nl hkt hnt
    have c3 : (st.take n).length = n := by rw [← gK_len (gK_take (n := n) q4)]; exact nbT e8
    have hd0 : 0 < d := by
      have := blt_lt e4
      omega
    obtain ⟨d', rfl⟩ : ∃ d', d = d' + 1 := ⟨d - 1, by omega⟩
    refine ⟨_, step_call (i := j_calls y n mx) (y := y) hi (As := (st.take n).reverse) (rest := st.drop n) ?_, _, List.mem_cons_self, ?_⟩
    · show (bif _ then _ else _) = _
      rw [c1, Nat.ble_eq.mpr (Nat.le_of_ble_eq_true e6), c3, Nat.beq_refl, c2]
      have : Nat.ble (List.take n s).reverse.length mx = true := by
        apply Nat.ble_eq.mpr
        have := Nat.le_of_ble_eq_true e9
        have h9 : (s.take n).length = n := nbT e8
        rw [List.length_reverse, h9]
        exact this
      rw [this]
      rfl
    · refine gam_self ⟨h1, h2, h3, ?_, ⟨rfl, rfl, gL_la hkt hnt, trivial⟩, ⟨rfl, rfl, q3, hkd⟩, q5⟩
      show D ≤ d' + (cfs.length + 1)
      omega
  · rename_i b _ _ _ _
    split at e
    · rename_i q f w
      obtain ⟨e1, e2⟩ := bifE e
      subst e2
      obtain ⟨v, w1, rfl, v1, v2⟩ := gK_cons q4
      have := gK_nil v2
      subst this
      obtain ⟨y, rfl⟩ := inv_int v1
      obtain ⟨g, w2, rfl, ⟨f1, f2, f3, f4⟩, f5⟩ := gF_cons q5
      refine ⟨_, step_ret (i := j_iret (nB b)) hi (r := some (.inl y)) ?_, _, List.mem_cons_self, ?_⟩
      · show (bif _ then _ else _) = _
        rw [isB_wi e1 h1.1 v1]
        rfl
      · refine gam_self ⟨h1, h2, h3, ?_, ⟨f1, f2, f3, v1, f4⟩, f5⟩
        show D ≤ d + 1 + w2.length
        have : (g :: w2).length = w2.length + 1 := rfl
        omega
    · cases e
  · split at e
    · rename_i f w
      cases e
      have := gK_nil q4
      subst this
      obtain ⟨g, w2, rfl, ⟨f1, f2, f3, f4⟩, f5⟩ := gF_cons q5
      refine ⟨_, step_ret (i := j_vret) hi (r := none) rfl, _, List.mem_cons_self, ?_⟩
      refine gam_self ⟨h1, h2, h3, ?_, ⟨f1, f2, f3, f4⟩, f5⟩
      show D ≤ d + 1 + w2.length
      have : (g :: w2).length = w2.length + 1 := rfl
      omega
    · cases e
  · split at e
    · rename_i r f w
      cases e
      obtain ⟨v, w1, rfl, v1, v2⟩ := gK_cons q4
      have := gK_nil v2
      subst this
      obtain ⟨p, rfl⟩ : ∃ p, v = .inr (.inr p) := by
        rcases r with _ | j
        · exact ⟨none, inv_null v1⟩
        · obtain ⟨a, ha, _⟩ := inv_ref v1
          exact ⟨some a, ha⟩
      obtain ⟨g, w2, rfl, ⟨f1, f2, f3, f4⟩, f5⟩ := gF_cons q5
      refine ⟨_, step_ret (i := j_aret) hi (r := some (.inr (.inr p))) rfl, _, List.mem_cons_self, ?_⟩
      refine gam_self ⟨h1, h2, h3, ?_, ⟨f1, f2, f3, v1, f4⟩, f5⟩
      show D ≤ d + 1 + w2.length
      have : (g :: w2).length = w2.length + 1 := rfl
      omega
    · cases e
  · cases e
/-- one symbolic step -/
def ystp (R : yR) (ms : Nat → Nat → Bool) (D : Nat) (ct : Nat → Nat → Option aO) (S : yS) : Option (List yS) := match S with
  | (E, G, B, (mid, pc, lo, st) :: fs) => match ct mid pc with
    | none => none
    | some o => bif Nat.blt o.1 24 then (match yop1 R ms o E G B lo st with
        | some L => some (L.map (fun P => (P.1, P.2.1, P.2.2.1, (mid, P.2.2.2.1, P.2.2.2.2.1, P.2.2.2.2.2) :: fs)))
        | none => none) else yopF R D o E G B mid pc lo st fs
  | _ => none
theorem ystp_ok {cd : Nat → Nat → Option aI} {R : yR} {ms : Nat → Nat → Bool} {rg : Nat → Nat} {M0 : aM} {D : Nat} {ct : Nat → Nat → Option aO} (hct : ∀ m p o, ct m p = some o → cd m p = some (semO o)) {S : yS} {L : List yS} {ρ : List Int} {τ : List Nat} {X : aSt} (e : ystp R ms D ct S = some L) (h : gam R ms rg M0 D S ρ τ X) : ySt cd R ms rg M0 D ρ τ X L := by
  unfold ystp at e
  split at e
  · rename_i E G B mid pc lo st fs
    split at e
    · cases e
    · rename_i o ho
      have hi := hct _ _ _ ho
      cases hb : Nat.blt o.1 24 with
      | false =>
        rw [hb] at e
        exact yopF_ok hi e h
      | true =>
        rw [hb] at e
        simp only [cond_true] at e
        split at e
        · rename_i L1 hL
          cases e
          obtain ⟨d, cfs, mid', pc', clo, cst, M⟩ := X
          obtain ⟨h1, h2, h3, h4, ⟨q1, q2, q3, q4⟩, q5⟩ := h
          simp only at h1 h2 h3 h4 q1 q2 q3 q4 q5
          subst q1
          subst q2
          obtain ⟨pc1, lo1, st1, M1, s1, P, s2, s3, ρ2, τ2, ⟨z1, z2, z3, z4, z5⟩⟩ := yop1_ok (pc := pc) hL ⟨h1, h2, h3, q3, q4⟩
          refine ⟨_, step_go hi s1, _, List.mem_map.mpr ⟨P, s2, rfl⟩, ρ2, τ2, z1, z2, z3, h4, ⟨rfl, s3, z4, z5⟩, gF_mono ρ2 τ2 q5⟩
        · cases e
  · cases e

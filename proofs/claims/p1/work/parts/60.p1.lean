/-! p1: one call on fresh objects. -/
def p1E (L : Nat) : aSt := goS (cdZ L) 246 36 3000 40 [] 246 0 (la 0 aScr) [] aM0
def cM : aM := (p1E 6).2.2.2.2.2.2
abbrev cLo : aL := [(4, .inl 0), (3, .inr (.inr (some 136))), (2, .inr (.inr (some 113))), (1, .inr (.inr (some 0))), (0, .inr (.inr (some aXS)))]
set_option maxRecDepth 100000 in
set_option maxHeartbeats 100000000 in
theorem p1E_eq : p1E 6 = (40, [], 246, 36, cLo, [.inl 0, .inr (.inr (some aXS))], cM) := by
  have h1 : (p1E 6).1 = 40 := rfl
  have h2 : (p1E 6).2.1 = [] := rfl
  have h3 : (p1E 6).2.2.1 = 246 := rfl
  have h4 : (p1E 6).2.2.2.1 = 36 := rfl
  have h5 : (p1E 6).2.2.2.2.1 = cLo := rfl
  have h6 : (p1E 6).2.2.2.2.2.1 = [.inl 0, .inr (.inr (some aXS))] := rfl
  show ((p1E 6).1, (p1E 6).2.1, (p1E 6).2.2.1, (p1E 6).2.2.2.1, (p1E 6).2.2.2.2.1, (p1E 6).2.2.2.2.2.1, cM) = _
  rw [h1, h2, h3, h4, h5, h6]
theorem alen_S {cd : Nat → Nat → Option aI} {d : Nat} {fs : List aFr} {mid pc : Nat} {lo : aL} {st : List aV} {M : aM} {Q : aQ} {nx a n : Nat} (hi : cd mid pc = some (j_alen nx)) (hg : (Nat.blt a (a_n M) && (Nat.ble 14 (a_K M a) && Nat.ble (a_K M a) 19)) = true) (hn : a_N M a = n) (h : wpS cd (d, fs, mid, nx, lo, .inl (Int32.ofNat n) :: st, M) Q) : wpS cd (d, fs, mid, pc, lo, .inr (.inr (some a)) :: st, M) Q := by
  subst hn
  exact wp_step hi (show (bif _ then _ else _) = _ by rw [hg]; rfl) h
/-- the end of a good run -/
def Q1 : aQ := fun r M => r = some (.inl 1) ∧ a_c M ≤ 600002 ∧ a_z M ≤ 7302232
def okf (q : Option aV × aM) : Option aV × Bool := (q.1, Nat.ble (a_c q.2) 600002 && Nat.ble (a_z q.2) 7302232)
theorem fin_S {cd : Nat → Nat → Option aI} {n d : Nat} {fs : List aFr} {mid pc : Nat} {lo : aL} {st : List aV} {M : aM} (h : (retS cd (goS cd 0 99999 n d fs mid pc lo st M)).map okf = some (some (.inl 1), true)) : wpS cd (d, fs, mid, pc, lo, st, M) Q1 := by
  refine goS_ok (sm := 0) (sp := 99999) (n := n) ?_
  cases hr : retS cd (goS cd 0 99999 n d fs mid pc lo st M) with
  | none => rw [hr] at h; cases h
  | some q =>
    obtain ⟨r, M'⟩ := q
    rw [hr] at h
    have h := Option.some.inj h
    obtain ⟨h1, h2⟩ := Prod.mk.inj h
    obtain ⟨h3, h4⟩ := (Bool.and_eq_true _ _).mp h2
    exact retS_ok hr ⟨h1, Nat.le_of_ble_eq_true h3, Nat.le_of_ble_eq_true h4⟩
theorem cut {cd : Nat → Nat → Option aI} {sm sp n d : Nat} {fs : List aFr} {mid pc : Nat} {lo : aL} {st : List aV} {M : aM} {Q : aQ} {S' : aSt} (h : goS cd sm sp n d fs mid pc lo st M = S') (g : wpS cd S' Q) : wpS cd (d, fs, mid, pc, lo, st, M) Q := goS_ok (sm := sm) (sp := sp) (n := n) (by rw [h]; exact g)
abbrev p1K (xs : Nat → Int32) (k : Int32) : Prop := wpS (cdL 6 xs) (40, [], 246, 40, cLo, [.inl k], cM) Q1
set_option maxRecDepth 100000 in
set_option maxHeartbeats 100000000 in
theorem p1_small (xs : Nat → Int32) : ∀ L, L < 6 → wpS (cdL L xs) (40, [], 246, 0, la 0 aScr, [], aM0) Q1 := fun L h => by
  match L, h with
  | 0, _ => exact fin_S (n := 3000) rfl
  | 1, _ => exact fin_S (n := 3000) rfl
  | 2, _ => exact fin_S (n := 3000) rfl
  | 3, _ => exact fin_S (n := 3000) rfl
  | 4, _ => exact fin_S (n := 3000) rfl
  | 5, _ => exact fin_S (n := 3000) rfl
set_option maxRecDepth 100000 in
set_option maxHeartbeats 100000000 in
theorem p1_cut {xs : Nat → Int32} (h : p1K xs (xs 0 &&& 63)) : wpS (cdL 6 xs) (40, [], 246, 0, la 0 aScr, [], aM0) Q1 := by
  refine goZ_ok (cdZ_sub (L := 6)) (sm := 246) (sp := 36) (n := 3000) ?_
  rw [show goS (cdZ 6) 246 36 3000 40 [] 246 0 (la 0 aScr) [] aM0 = _ from p1E_eq]
  exact cut (sm := 246) (sp := 40) (n := 9) rfl h

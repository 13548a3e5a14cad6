/-! Weakest preconditions of runs; a machine of single steps whose runs can be cut anywhere. -/
theorem exec_mono {cd : Nat → Nat → Option aI} : ∀ (f d mid pc : Nat) (lo : aL) (st : List aV) (M : aM) (q : Option aV × aM), exec cd f d mid pc lo st M = some q → exec cd (f + 1) d mid pc lo st M = some q := by
  intro f
  induction f with
  | zero => intro d mid pc lo st M q h; cases h
  | succ f ih =>
    intro d mid pc lo st M q h
    rw [exec] at h ⊢
    cases hi : cd mid pc with
    | none => rw [hi] at h; cases h
    | some i =>
      rw [hi] at h
      simp only at h ⊢
      split at h
      · cases h
      · rename_i he
        try rw [he]
        exact ih _ _ _ _ _ _ _ h
      · rename_i y As rest he
        try rw [he]
        try simp only
        split at h
        · cases h
        · rename_i d'
          split at h
          · cases h
          · rename_i r1 M1 he1
            have e1 := ih _ _ _ _ _ _ _ he1
            have e2 := ih _ _ _ _ _ _ _ h
            show (match exec cd (f + 1) d' y 0 (la 0 As) [] M with
              | none => none
              | some (r, M') => exec cd (f + 1) (d' + 1) mid (pc + 3) lo (psh r rest) M') = _
            rw [e1]
            exact e2
      · rename_i r1 he
        try rw [he]
        exact h
theorem exec_le {cd : Nat → Nat → Option aI} {f f' d mid pc : Nat} {lo : aL} {st : List aV} {M : aM} {q : Option aV × aM} (hf : f ≤ f') (h : exec cd f d mid pc lo st M = some q) : exec cd f' d mid pc lo st M = some q := by
  obtain ⟨k, rfl⟩ := Nat.exists_eq_add_of_le hf
  clear hf
  induction k with
  | zero => exact h
  | succ k ih => exact exec_mono _ _ _ _ _ _ _ _ ih
abbrev aQ : Type := Option aV → aM → Prop
/-- the run from here ends, and Q holds there -/
def wp (cd : Nat → Nat → Option aI) (d mid pc : Nat) (lo : aL) (st : List aV) (M : aM) (Q : aQ) : Prop := ∃ f r M', exec cd f d mid pc lo st M = some (r, M') ∧ Q r M'
theorem wp_mono {cd : Nat → Nat → Option aI} {d mid pc : Nat} {lo : aL} {st : List aV} {M : aM} {Q Q' : aQ} (h : wp cd d mid pc lo st M Q) (g : ∀ r M', Q r M' → Q' r M') : wp cd d mid pc lo st M Q' := by
  obtain ⟨f, r, M', h1, h2⟩ := h
  exact ⟨f, r, M', h1, g _ _ h2⟩
theorem wp_step {cd : Nat → Nat → Option aI} {d mid pc : Nat} {lo : aL} {st : List aV} {M : aM} {Q : aQ} {i : aI} {pc' : Nat} {lo' : aL} {st' : List aV} {M' : aM} (hi : cd mid pc = some i) (he : i lo st M = some (.inl (pc', lo', st', M'))) (h : wp cd d mid pc' lo' st' M' Q) : wp cd d mid pc lo st M Q := by
  obtain ⟨f, r, M1, h1, h2⟩ := h
  refine ⟨f + 1, r, M1, ?_, h2⟩
  rw [exec, hi]
  simp only
  rw [he]
  exact h1
theorem wp_call {cd : Nat → Nat → Option aI} {d mid pc : Nat} {lo : aL} {st : List aV} {M : aM} {Q : aQ} {i : aI} {y : Nat} {As rest : List aV} (hi : cd mid pc = some i) (he : i lo st M = some (.inr (.inl (y, As, rest)))) (h : wp cd d y 0 (la 0 As) [] M (fun r M' => wp cd (d + 1) mid (pc + 3) lo (psh r rest) M' Q)) : wp cd (d + 1) mid pc lo st M Q := by
  obtain ⟨f, r, M1, h1, f2, r2, M2, h2, h3⟩ := h
  refine ⟨f + f2 + 1, r2, M2, ?_, h3⟩
  rw [exec, hi]
  simp only
  rw [he]
  simp only
  rw [exec_le (show f ≤ f + f2 by omega) h1]
  exact exec_le (show f2 ≤ f + f2 by omega) h2
theorem wp_ret {cd : Nat → Nat → Option aI} {d mid pc : Nat} {lo : aL} {st : List aV} {M : aM} {Q : aQ} {i : aI} {r : Option aV} (hi : cd mid pc = some i) (he : i lo st M = some (.inr (.inr r))) (h : Q r M) : wp cd d mid pc lo st M Q := by
  refine ⟨1, r, M, ?_, h⟩
  rw [exec, hi]
  simp only
  rw [he]
abbrev aFr : Type := Nat × Nat × aL × List aV
abbrev aSt : Type := Nat × List aFr × Nat × Nat × aL × List aV × aM
def fins (cd : Nat → Nat → Option aI) : List aFr → Nat → aQ → aQ
  | [], _, Q => Q
  | (mid, pc, lo, st) :: fs, d, Q => fun r M => wp cd (d + 1) mid pc lo (psh r st) M (fins cd fs (d + 1) Q)
def wpS (cd : Nat → Nat → Option aI) (S : aSt) (Q : aQ) : Prop := wp cd S.1 S.2.2.1 S.2.2.2.1 S.2.2.2.2.1 S.2.2.2.2.2.1 S.2.2.2.2.2.2 (fins cd S.2.1 S.1 Q)
def stpS (cd : Nat → Nat → Option aI) (S : aSt) : Option aSt := match cd S.2.2.1 S.2.2.2.1 with
  | none => none
  | some i => match i S.2.2.2.2.1 S.2.2.2.2.2.1 S.2.2.2.2.2.2 with
    | none => none
    | some (.inl (pc', lo', st', M')) => some (S.1, S.2.1, S.2.2.1, pc', lo', st', M')
    | some (.inr (.inl (y, As, rest))) => match S.1 with
      | 0 => none
      | d + 1 => some (d, (S.2.2.1, S.2.2.2.1 + 3, S.2.2.2.2.1, rest) :: S.2.1, y, 0, la 0 As, [], S.2.2.2.2.2.2)
    | some (.inr (.inr r)) => match S.2.1 with
      | [] => none
      | (mid, pc, lo, st) :: fs => some (S.1 + 1, fs, mid, pc, lo, psh r st, S.2.2.2.2.2.2)
theorem stpS_ok {cd : Nat → Nat → Option aI} {S S' : aSt} {Q : aQ} (h : stpS cd S = some S') (g : wpS cd S' Q) : wpS cd S Q := by
  obtain ⟨d, fs, mid, pc, lo, st, M⟩ := S
  unfold stpS at h
  simp only at h
  split at h
  · cases h
  · rename_i i hi
    split at h
    · cases h
    · rename_i he
      cases h
      exact wp_step hi he g
    · rename_i y As rest he
      split at h
      · cases h
      · cases h
        exact wp_call hi he g
    · rename_i r he
      split at h
      · cases h
      · cases h
        exact wp_ret hi he g
def goS (cd : Nat → Nat → Option aI) (sm sp : Nat) : Nat → Nat → List aFr → Nat → Nat → aL → List aV → aM → aSt
  | 0, d, fs, mid, pc, lo, st, M => (d, fs, mid, pc, lo, st, M)
  | n + 1, d, fs, mid, pc, lo, st, M => bif Nat.beq pc sp && Nat.beq mid sm then (d, fs, mid, pc, lo, st, M) else match cd mid pc with
    | none => (d, fs, mid, pc, lo, st, M)
    | some i => match i lo st M with
      | none => (d, fs, mid, pc, lo, st, M)
      | some (.inl (pc', lo', st', M')) => goS cd sm sp n d fs mid pc' lo' st' M'
      | some (.inr (.inl (y, As, rest))) => match d with
        | 0 => (d, fs, mid, pc, lo, st, M)
        | d' + 1 => goS cd sm sp n d' ((mid, pc + 3, lo, rest) :: fs) y 0 (la 0 As) [] M
      | some (.inr (.inr r)) => match fs with
        | [] => (d, fs, mid, pc, lo, st, M)
        | (mid', pc', lo', st') :: fs' => goS cd sm sp n (d + 1) fs' mid' pc' lo' (psh r st') M
theorem goS_ok {cd : Nat → Nat → Option aI} {sm sp : Nat} {Q : aQ} : ∀ {n d : Nat} {fs : List aFr} {mid pc : Nat} {lo : aL} {st : List aV} {M : aM}, wpS cd (goS cd sm sp n d fs mid pc lo st M) Q → wpS cd (d, fs, mid, pc, lo, st, M) Q
  | 0, _, _, _, _, _, _, _, h => h
  | n + 1, d, fs, mid, pc, lo, st, M, h => by
    rw [goS] at h
    cases hb : (Nat.beq pc sp && Nat.beq mid sm) with
    | true => rw [hb] at h; exact h
    | false =>
      rw [hb] at h
      simp only [cond_false] at h
      cases hi : cd mid pc with
      | none => rw [hi] at h; exact h
      | some i =>
        rw [hi] at h
        simp only at h
        split at h
        · exact h
        · rename_i he
          exact wp_step hi he (goS_ok h)
        · rename_i y As rest he
          split at h
          · exact h
          · exact wp_call hi he (goS_ok h)
        · rename_i r he
          split at h
          · exact h
          · exact wp_ret hi he (goS_ok h)
/-- on from S at pc, with n values less on the stack -/
def brS (S : aSt) (pc n : Nat) : aSt := (S.1, S.2.1, S.2.2.1, pc, S.2.2.2.2.1, S.2.2.2.2.2.1.drop n, S.2.2.2.2.2.2)
theorem if_S {cd : Nat → Nat → Option aI} {S : aSt} {Q : aQ} {g : Int32 → Bool} {t nx : Nat} {v : Int32} {b : Bool} (hi : cd S.2.2.1 S.2.2.2.1 = some (j_if g t nx)) (hv : S.2.2.2.2.2.1.head? = some (.inl v)) (hb : g v = b) (h : wpS cd (brS S (bif b then t else nx) 1) Q) : wpS cd S Q := by
  obtain ⟨d, fs, mid, pc, lo, st, M⟩ := S
  cases st with
  | nil => cases hv
  | cons a st =>
    cases hv
    subst hb
    exact wp_step hi rfl h
theorem ifc_S {cd : Nat → Nat → Option aI} {S : aSt} {Q : aQ} {g : Int32 → Int32 → Bool} {t nx : Nat} {x y : Int32} {b : Bool} (hi : cd S.2.2.1 S.2.2.2.1 = some (j_ifc g t nx)) (hv : S.2.2.2.2.2.1.take 2 = [.inl y, .inl x]) (hb : g x y = b) (h : wpS cd (brS S (bif b then t else nx) 2) Q) : wpS cd S Q := by
  obtain ⟨d, fs, mid, pc, lo, st, M⟩ := S
  match st, hv with
  | [], hv => cases hv
  | [_], hv => cases hv
  | a :: c :: st, hv =>
    cases hv
    subst hb
    exact wp_step hi rfl h
/-- the end: the last frame answers -/
def retS (cd : Nat → Nat → Option aI) (S : aSt) : Option (Option aV × aM) := match S.2.1 with
  | [] => match cd S.2.2.1 S.2.2.2.1 with
    | none => none
    | some i => match i S.2.2.2.2.1 S.2.2.2.2.2.1 S.2.2.2.2.2.2 with
      | some (.inr (.inr r)) => some (r, S.2.2.2.2.2.2)
      | _ => none
  | _ => none
theorem retS_ok {cd : Nat → Nat → Option aI} {S : aSt} {Q : aQ} {r : Option aV} {M : aM} (h : retS cd S = some (r, M)) (g : Q r M) : wpS cd S Q := by
  obtain ⟨d, fs, mid, pc, lo, st, M1⟩ := S
  unfold retS at h
  simp only at h
  split at h
  · split at h
    · cases h
    · rename_i i hi
      split at h
      · rename_i r1 he
        cases h
        exact wp_ret hi he g
      · cases h
  · cases h

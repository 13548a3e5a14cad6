/-! Runs that are cut at a place of the law's own frame. -/
def exs (cd : Nat → Nat → Option aI) (stop : Nat) : Nat → Nat → Nat → Nat → aL → List aV → aM → Option (Nat × aL × List aV × aM)
  | 0, _, _, _, _, _, _ => none
  | f + 1, d, mid, pc, lo, st, M => bif Nat.beq pc stop then some (f + 1, lo, st, M) else match cd mid pc with
    | none => none
    | some i => match i lo st M with
      | none => none
      | some (.inl (pc', lo', st', M')) => exs cd stop f d mid pc' lo' st' M'
      | some (.inr (.inl (y, As, rest))) => match d with
        | 0 => none
        | d' + 1 => match exec cd f d' y 0 (la 0 As) [] M with
          | none => none
          | some (r, M') => exs cd stop f (d' + 1) mid (pc + 3) lo (psh r rest) M'
      | some (.inr (.inr _)) => none
theorem exs_ok {cd : Nat → Nat → Option aI} {stop : Nat} : ∀ (f d mid pc : Nat) (lo : aL) (st : List aV) (M : aM) (q : Nat × aL × List aV × aM), exs cd stop f d mid pc lo st M = some q → exec cd f d mid pc lo st M = exec cd q.1 d mid stop q.2.1 q.2.2.1 q.2.2.2 := by
  intro f
  induction f with
  | zero => intro d mid pc lo st M q h; cases h
  | succ f ih =>
    intro d mid pc lo st M q h
    unfold exs at h
    cases hb : Nat.beq pc stop with
    | true =>
      rw [hb] at h
      cases h
      rw [nbT hb]
    | false =>
      rw [hb] at h
      simp only [cond_false] at h
      rw [exec]
      split at h
      · cases h
      · rename_i i hi
        rw [hi]
        simp only
        split at h
        · cases h
        · rename_i he
          rw [he]
          exact ih _ _ _ _ _ _ _ h
        · rename_i y As rest he
          rw [he]
          simp only
          split at h
          · cases h
          · split at h
            · cases h
            · rename_i d' _ r1 M1 he1
              show (match exec cd f d' y 0 (la 0 As) [] M with
                | none => none
                | some (r, M') => exec cd f (d' + 1) mid (pc + 3) lo (psh r rest) M') = _
              rw [he1]
              exact ih _ _ _ _ _ _ _ h
        · cases h
/-- answers 1, within the room -/
def okR (x : Option (Option aV × aM)) : Prop := x.map (fun q => (q.1, Nat.ble (a_c q.2) 600002 && Nat.ble (a_z q.2) 7302232)) = some (some (.inl 1), true)
theorem okR_out {x : Option (Option aV × aM)} (h : okR x) : ∃ M', x = some (some (.inl 1), M') ∧ a_c M' ≤ 600002 ∧ a_z M' ≤ 7302232 := by
  unfold okR at h
  cases x with
  | none => cases h
  | some q =>
    obtain ⟨r, M'⟩ := q
    have h := Option.some.inj h
    obtain ⟨h1, h2⟩ := Prod.mk.inj h
    obtain ⟨h3, h4⟩ := (Bool.and_eq_true _ _).mp h2
    cases h1
    exact ⟨M', rfl, Nat.le_of_ble_eq_true h3, Nat.le_of_ble_eq_true h4⟩
set_option maxRecDepth 100000 in
set_option maxHeartbeats 4000000 in
theorem p1_small (xs : Nat → Int32) : ∀ L, L < 6 → okR (exec (cd (L, xs)) 3000 40 246 0 (la 0 aScr) [] aM0) := fun L h => by
  match L, h with
  | 0, _ => rfl
  | 1, _ => rfl
  | 2, _ => rfl
  | 3, _ => rfl
  | 4, _ => rfl
  | 5, _ => rfl
def p1S (xs : Nat → Int32) : Option (Nat × aL × List aV × aM) := exs (cd (6, xs)) 40 3000 40 246 0 (la 0 aScr) [] aM0
def p1G (xs : Nat → Int32) (v : Int32) : Option (Option aV × aM) := (p1S xs).bind (fun q => exec (cd (6, xs)) q.1 40 246 40 q.2.1 [.inl v] q.2.2.2)
set_option maxRecDepth 100000 in
set_option maxHeartbeats 4000000 in
theorem p1_cut (xs : Nat → Int32) : exec (cd (6, xs)) 3000 40 246 0 (la 0 aScr) [] aM0 = p1G xs (xs 0 &&& 63) := by
  have h : (p1S xs).map (fun q => q.2.2.1) = some [.inl (xs 0 &&& 63)] := rfl
  unfold p1G
  cases hS : p1S xs with
  | none => rw [hS] at h; cases h
  | some q =>
    rw [hS] at h
    have h9 := Option.some.inj h
    rw [exs_ok _ _ _ _ _ _ _ q hS]
    show exec _ _ _ _ _ _ q.2.2.1 _ = exec _ _ _ _ _ _ [.inl (xs 0 &&& 63)] _
    rw [h9]
set_option maxRecDepth 100000 in
set_option maxHeartbeats 4000000 in
theorem p1_op_0 (xs : Nat → Int32) : okR (p1G xs 0) := rfl
set_option maxRecDepth 100000 in
set_option maxHeartbeats 4000000 in
theorem p1_op_2 (xs : Nat → Int32) : okR (p1G xs 2) := rfl
set_option maxRecDepth 100000 in
set_option maxHeartbeats 4000000 in
theorem p1_op_3 (xs : Nat → Int32) : okR (p1G xs 3) := rfl
set_option maxRecDepth 100000 in
set_option maxHeartbeats 4000000 in
theorem p1_op_5 (xs : Nat → Int32) : okR (p1G xs 5) := rfl
set_option maxRecDepth 100000 in
set_option maxHeartbeats 4000000 in
theorem p1_op_6 (xs : Nat → Int32) : okR (p1G xs 6) := rfl
set_option maxRecDepth 100000 in
set_option maxHeartbeats 4000000 in
theorem p1_op_8 (xs : Nat → Int32) : okR (p1G xs 8) := rfl
set_option maxRecDepth 100000 in
set_option maxHeartbeats 4000000 in
theorem p1_op_9 (xs : Nat → Int32) : okR (p1G xs 9) := rfl
set_option maxRecDepth 100000 in
set_option maxHeartbeats 4000000 in
theorem p1_op_10 (xs : Nat → Int32) : okR (p1G xs 10) := rfl
set_option maxRecDepth 100000 in
set_option maxHeartbeats 4000000 in
theorem p1_op_12 (xs : Nat → Int32) : okR (p1G xs 12) := rfl
set_option maxRecDepth 100000 in
set_option maxHeartbeats 4000000 in
theorem p1_op_13 (xs : Nat → Int32) : okR (p1G xs 13) := rfl
set_option maxRecDepth 100000 in
set_option maxHeartbeats 4000000 in
theorem p1_op_14 (xs : Nat → Int32) : okR (p1G xs 14) := rfl
set_option maxRecDepth 100000 in
set_option maxHeartbeats 4000000 in
theorem p1_op_15 (xs : Nat → Int32) : okR (p1G xs 15) := rfl
set_option maxRecDepth 100000 in
set_option maxHeartbeats 4000000 in
theorem p1_op_16 (xs : Nat → Int32) : okR (p1G xs 16) := rfl
set_option maxRecDepth 100000 in
set_option maxHeartbeats 4000000 in
theorem p1_op_17 (xs : Nat → Int32) : okR (p1G xs 17) := rfl
set_option maxRecDepth 100000 in
set_option maxHeartbeats 4000000 in
theorem p1_op_18 (xs : Nat → Int32) : okR (p1G xs 18) := rfl
set_option maxRecDepth 100000 in
set_option maxHeartbeats 4000000 in
theorem p1_op_20 (xs : Nat → Int32) : okR (p1G xs 20) := rfl
set_option maxRecDepth 100000 in
set_option maxHeartbeats 4000000 in
theorem p1_op_21 (xs : Nat → Int32) : okR (p1G xs 21) := rfl
set_option maxRecDepth 100000 in
set_option maxHeartbeats 4000000 in
theorem p1_op_22 (xs : Nat → Int32) : okR (p1G xs 22) := rfl
set_option maxRecDepth 100000 in
set_option maxHeartbeats 4000000 in
theorem p1_op_23 (xs : Nat → Int32) : okR (p1G xs 23) := rfl
set_option maxRecDepth 100000 in
set_option maxHeartbeats 4000000 in
theorem p1_op_25 (xs : Nat → Int32) : okR (p1G xs 25) := rfl
set_option maxRecDepth 100000 in
set_option maxHeartbeats 4000000 in
theorem p1_op_26 (xs : Nat → Int32) : okR (p1G xs 26) := rfl
set_option maxRecDepth 100000 in
set_option maxHeartbeats 4000000 in
theorem p1_op_27 (xs : Nat → Int32) : okR (p1G xs 27) := rfl
set_option maxRecDepth 100000 in
set_option maxHeartbeats 4000000 in
theorem p1_op_28 (xs : Nat → Int32) : okR (p1G xs 28) := rfl
set_option maxRecDepth 100000 in
set_option maxHeartbeats 4000000 in
theorem p1_op_30 (xs : Nat → Int32) : okR (p1G xs 30) := rfl
set_option maxRecDepth 100000 in
set_option maxHeartbeats 4000000 in
theorem p1_op_31 (xs : Nat → Int32) : okR (p1G xs 31) := rfl
set_option maxRecDepth 100000 in
set_option maxHeartbeats 4000000 in
theorem p1_op_32 (xs : Nat → Int32) : okR (p1G xs 32) := rfl
set_option maxRecDepth 100000 in
set_option maxHeartbeats 4000000 in
theorem p1_op_33 (xs : Nat → Int32) : okR (p1G xs 33) := rfl
set_option maxRecDepth 100000 in
set_option maxHeartbeats 4000000 in
theorem p1_op_34 (xs : Nat → Int32) : okR (p1G xs 34) := rfl
set_option maxRecDepth 100000 in
set_option maxHeartbeats 4000000 in
theorem p1_op_35 (xs : Nat → Int32) : okR (p1G xs 35) := rfl
set_option maxRecDepth 100000 in
set_option maxHeartbeats 4000000 in
theorem p1_op_36 (xs : Nat → Int32) : okR (p1G xs 36) := rfl
set_option maxRecDepth 100000 in
set_option maxHeartbeats 4000000 in
theorem p1_op_37 (xs : Nat → Int32) : okR (p1G xs 37) := rfl
set_option maxRecDepth 100000 in
set_option maxHeartbeats 4000000 in
theorem p1_op_38 (xs : Nat → Int32) : okR (p1G xs 38) := rfl
set_option maxRecDepth 100000 in
set_option maxHeartbeats 4000000 in
theorem p1_op_39 (xs : Nat → Int32) : okR (p1G xs 39) := rfl
set_option maxRecDepth 100000 in
set_option maxHeartbeats 4000000 in
theorem p1_op_40 (xs : Nat → Int32) : okR (p1G xs 40) := rfl
set_option maxRecDepth 100000 in
set_option maxHeartbeats 4000000 in
theorem p1_op_41 (xs : Nat → Int32) : okR (p1G xs 41) := rfl
set_option maxRecDepth 100000 in
set_option maxHeartbeats 4000000 in
theorem p1_op_42 (xs : Nat → Int32) : okR (p1G xs 42) := rfl
set_option maxRecDepth 100000 in
set_option maxHeartbeats 4000000 in
theorem p1_op_43 (xs : Nat → Int32) : okR (p1G xs 43) := rfl
set_option maxRecDepth 100000 in
set_option maxHeartbeats 4000000 in
theorem p1_op_44 (xs : Nat → Int32) : okR (p1G xs 44) := rfl
set_option maxRecDepth 100000 in
set_option maxHeartbeats 4000000 in
theorem p1_op_45 (xs : Nat → Int32) : okR (p1G xs 45) := rfl
set_option maxRecDepth 100000 in
set_option maxHeartbeats 4000000 in
theorem p1_op_46 (xs : Nat → Int32) : okR (p1G xs 46) := rfl
set_option maxRecDepth 100000 in
set_option maxHeartbeats 4000000 in
theorem p1_op_47 (xs : Nat → Int32) : okR (p1G xs 47) := rfl
set_option maxRecDepth 100000 in
set_option maxHeartbeats 4000000 in
theorem p1_op_48 (xs : Nat → Int32) : okR (p1G xs 48) := rfl
set_option maxRecDepth 100000 in
set_option maxHeartbeats 4000000 in
theorem p1_op_49 (xs : Nat → Int32) : okR (p1G xs 49) := rfl
set_option maxRecDepth 100000 in
set_option maxHeartbeats 4000000 in
theorem p1_op_50 (xs : Nat → Int32) : okR (p1G xs 50) := rfl
set_option maxRecDepth 100000 in
set_option maxHeartbeats 4000000 in
theorem p1_op_51 (xs : Nat → Int32) : okR (p1G xs 51) := rfl
set_option maxRecDepth 100000 in
set_option maxHeartbeats 4000000 in
theorem p1_op_52 (xs : Nat → Int32) : okR (p1G xs 52) := rfl
set_option maxRecDepth 100000 in
set_option maxHeartbeats 4000000 in
theorem p1_op_53 (xs : Nat → Int32) : okR (p1G xs 53) := rfl
set_option maxRecDepth 100000 in
set_option maxHeartbeats 4000000 in
theorem p1_op_54 (xs : Nat → Int32) : okR (p1G xs 54) := rfl
set_option maxRecDepth 100000 in
set_option maxHeartbeats 4000000 in
theorem p1_op_55 (xs : Nat → Int32) : okR (p1G xs 55) := rfl
set_option maxRecDepth 100000 in
set_option maxHeartbeats 4000000 in
theorem p1_op_56 (xs : Nat → Int32) : okR (p1G xs 56) := rfl
set_option maxRecDepth 100000 in
set_option maxHeartbeats 4000000 in
theorem p1_op_57 (xs : Nat → Int32) : okR (p1G xs 57) := rfl
set_option maxRecDepth 100000 in
set_option maxHeartbeats 4000000 in
theorem p1_op_58 (xs : Nat → Int32) : okR (p1G xs 58) := rfl
set_option maxRecDepth 100000 in
set_option maxHeartbeats 4000000 in
theorem p1_op_59 (xs : Nat → Int32) : okR (p1G xs 59) := rfl
set_option maxRecDepth 100000 in
set_option maxHeartbeats 4000000 in
theorem p1_op_60 (xs : Nat → Int32) : okR (p1G xs 60) := rfl
set_option maxRecDepth 100000 in
set_option maxHeartbeats 4000000 in
theorem p1_op_61 (xs : Nat → Int32) : okR (p1G xs 61) := rfl
set_option maxRecDepth 100000 in
set_option maxHeartbeats 4000000 in
theorem p1_op_62 (xs : Nat → Int32) : okR (p1G xs 62) := rfl
set_option maxRecDepth 100000 in
set_option maxHeartbeats 4000000 in
theorem p1_op_63 (xs : Nat → Int32) : okR (p1G xs 63) := rfl
